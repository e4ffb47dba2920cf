/-! THE MODEL: cut, add -/
def ctI (f : Nat → Int) (s e : Nat) : Nat → Int := fun j => if s ≤ j ∧ j < e then f (j + 4) else f j
def adI (f : Nat → Int) (i e : Nat) : Nat → Int := fun j => if i + 4 ≤ j ∧ j < e + 4 then f (j - 4) else f j
theorem ctI_s {f : Nat → Int} {s q : Nat} (h : s ≤ q) : ru (ctI f s q) q (ctI f s q (q + 4)) = ctI f s (q + 1) := by
  funext j
  unfold ru ctI
  rw [if_neg (c := s ≤ q + 4 ∧ q + 4 < q) (by omega)]
  by_cases e : j = q
  · rw [if_pos e, if_pos (by omega), e]
  · rw [if_neg e]
    by_cases w : s ≤ j ∧ j < q
    · rw [if_pos w, if_pos (by omega)]
    · rw [if_neg w, if_neg (by omega)]
theorem adI_s {f : Nat → Int} {i e : Nat} (h : i < e) : ru (adI f (i + 1) e) (i + 4) (adI f (i + 1) e i) = adI f i e := by
  funext j
  unfold ru adI
  rw [if_neg (c := i + 1 + 4 ≤ i ∧ i < e + 4) (by omega)]
  by_cases q : j = i + 4
  · rw [if_pos q, if_pos (by omega), q]; rfl
  · rw [if_neg q]
    by_cases w : i + 1 + 4 ≤ j ∧ j < e + 4
    · rw [if_pos w, if_pos (by omega)]
    · rw [if_neg w, if_neg (by omega)]
theorem ctI_0 (f : Nat → Int) (s : Nat) : ctI f s s = f := by funext j; unfold ctI; rw [if_neg (by omega)]
theorem adI_0 (f : Nat → Int) (e : Nat) : adI f e e = f := by funext j; unfold adI; rw [if_neg (by omega)]
theorem Sl_ct {f P : Nat → Int} {l k n : Nat} (hl : l < 4) (hk : k < n) (hn : n ≤ 6) (hs : Sl f 0 P) : Sl (ctI f (0 + 30 * l + 6 + 4 * k) (0 + 30 * l + 6 + 4 * (n - 1))) 0 (outI P l k (n - 1)) := by
  rw [Sl_u] at hs ⊢
  intro m c hm hc
  have a1 := l30 m l
  have a2 := l34 m l
  unfold ctI outI
  by_cases q : m = l ∧ 6 + 4 * k ≤ c ∧ c < 6 + 4 * (n - 1)
  · have e1 := hs m (c + 4) hm (by omega)
    have e2 : qO m c = 22 + 34 * m + c := if_neg (by omega)
    have e3 : qO m (c + 4) = qO m c + 4 := by rw [e2]; unfold qO; rw [if_neg (by omega)]; omega
    rw [if_pos (by omega), if_pos (by omega), ← e3, ← e1, show 0 + 30 * m + c + 4 = 0 + 30 * m + (c + 4) by omega]
  · have e2 : ¬ (28 + 34 * l + 4 * k ≤ qO m c ∧ qO m c < 28 + 34 * l + 4 * (n - 1)) := by
      unfold qO
      split <;> omega
    rw [if_neg (by omega), if_neg e2]
    exact hs m c hm hc
theorem Sl_ad {f P : Nat → Int} {l k n : Nat} (hl : l < 4) (hk : k ≤ n) (hn : n < 6) (hs : Sl f 0 P) : Sl (adI f (0 + 30 * l + 6 + 4 * k) (0 + 30 * l + 6 + 4 * n)) 0 (roomI P l k n) := by
  rw [Sl_u] at hs ⊢
  intro m c hm hc
  have a1 := l30 m l
  have a2 := l34 m l
  unfold adI roomI
  by_cases q : m = l ∧ 6 + 4 * (k + 1) ≤ c ∧ c < 6 + 4 * (n + 1)
  · have e1 := hs m (c - 4) hm (by omega)
    have e2 : qO m c = 22 + 34 * m + c := if_neg (by omega)
    have e3 : qO m (c - 4) = qO m c - 4 := by rw [e2]; unfold qO; rw [if_neg (by omega)]; omega
    rw [if_pos (by omega), if_pos (by omega), ← e3, ← e1, show 0 + 30 * m + c - 4 = 0 + 30 * m + (c - 4) by omega]
  · have e2 : ¬ (28 + 34 * l + 4 * (k + 1) ≤ qO m c ∧ qO m c < 28 + 34 * l + 4 * (n + 1)) := by
      unfold qO
      split <;> omega
    rw [if_neg (by omega), if_neg e2]
    exact hs m c hm hc
theorem insS_ru {A : Nat → Int} {l k j : Nat} (v c x y z : Int) (h : j < 28 + 34 * l + 4 * k) : insS (ru A j v) l k c x y z = ru (insS A l k c x y z) j v := by
  funext i
  by_cases h0 : i = j
  · rw [h0, insS_o _ _ _ _ (Or.inl h), ru_s, ru_s]
  · rw [ru_d _ _ h0]
    simp only [insS, ru, if_neg h0]
section Md
variable {L n : Nat} {T P : Nat → Int} {U K : List (Nat → Int)} {h : mH}
theorem ix4 {p : Nat} (hp : p < 10000) : w32 (((p + 4 : Nat) : Int) - 4) = (p : Int) := by rw [w32_id (by omega) (by omega)]; omega
theorem many0 (hL : LyM L h) {l : Nat} {v : Int} (hl : l < 4) (hf : h.2 53 (0 + 30 * l + 5) = v) : F_Md_many 43 0 (l : Int) h = some (v, h) := by
  have p0 : 0 + 30 * l + 5 < 1440 := by omega
  have e : w32 ((w32 (0 + (w32 (30 * (l : Int))))) + 5) = ((0 + 30 * l + 5 : Nat) : Int) := ix3 (b := 0) (c := 5) (by decide) hl (by decide)
  rw [q_Md_many _ _ _ _ (o_43 hL), p_43_14 hL, Option.bind_some, e, ld53 hL p0, Option.bind_some, hf]
theorem m_ct22 {f : Nat → Int} {l k N : Nat} (hl : l < 4) (hk : k ≤ N) (hN : N < 6) (hf : f (0 + 30 * l + 5) = ((N + 1 : Nat) : Int)) : ∀ (m q : Nat) (h : mH), q + m = 0 + 30 * l + 6 + 4 * N → 0 + 30 * l + 6 + 4 * k ≤ q → LyM L h → h.2 53 = ctI f (0 + 30 * l + 6 + 4 * k) q →
    B_Md_cut_22 43 (l : Int) (k : Int) (q : Int) h = some ((N : Int), mrow h 53 (ru (ctI f (0 + 30 * l + 6 + 4 * k) (0 + 30 * l + 6 + 4 * N)) (0 + 30 * l + 5) (N : Int)))
  | 0, q, h, e, hq, hL, hr => by
    have eq : q = 0 + 30 * l + 6 + 4 * N := by omega
    subst eq
    have c5 : h.2 53 (0 + 30 * l + 5) = ((N + 1 : Nat) : Int) := by rw [hr]; unfold ctI; rw [if_neg (by omega)]; exact hf
    have p0 : 0 + 30 * l + 5 < 1440 := by omega
    have pp : 0 + 30 * l + 6 + 4 * N < 10000 := by omega
    have hs := m_spot (b := 0) (by decide) hl (k := N + 1) (by omega) h
    rw [show ((0 : Nat) : Int) = 0 from rfl, show 0 + 30 * l + 6 + 4 * (N + 1) = 0 + 30 * l + 6 + 4 * N + 4 by omega] at hs
    have e5 : w32 ((w32 (30 * (l : Int))) + 5) = ((0 + 30 * l + 5 : Nat) : Int) := ix2 (c := 5) hl (by decide)
    have N1 : N < 1000 := by clear e5; omega
    have L1 : LyM L (mrow h 53 (ru (ctI f (0 + 30 * l + 6 + 4 * k) (0 + 30 * l + 6 + 4 * N)) (0 + 30 * l + 5) (N : Int))) := LyM_row hL (fun j => rfl)
    rw [q_Md_cut_22, many0 hL hl c5, Option.bind_some]
    dsimp only
    rw [hs, Option.bind_some]
    dsimp only
    rw [ix4 pp, if_pos (Int.le_refl _), p_43_14 hL, Option.bind_some, e5, ld53 hL p0, Option.bind_some, c5, w32_pp N N1, st53 hL p0, Option.bind_some, hr, many0 L1 hl (v := (N : Int)) (by rw [mrow_s, ru_s]), Option.bind_some]
  | m + 1, q, h, e, hq, hL, hr => by
    have c5 : h.2 53 (0 + 30 * l + 5) = ((N + 1 : Nat) : Int) := by rw [hr]; unfold ctI; rw [if_neg (by omega)]; exact hf
    have pq : q < 1440 := by omega
    have pq4 : q + 4 < 1440 := by omega
    have qq : q < 1000 := by omega
    have q5 : q < 10000 := by omega
    have lt : ¬ ((0 + 30 * l + 6 + 4 * N : Nat) : Int) ≤ (q : Int) := by omega
    have pp : 0 + 30 * l + 6 + 4 * N < 10000 := by omega
    have hs := m_spot (b := 0) (by decide) hl (k := N + 1) (by omega) h
    rw [show ((0 : Nat) : Int) = 0 from rfl, show 0 + 30 * l + 6 + 4 * (N + 1) = 0 + 30 * l + 6 + 4 * N + 4 by omega] at hs
    have z := m_ct22 hl hk hN hf m (q + 1) (mrow h 53 (ctI f (0 + 30 * l + 6 + 4 * k) (q + 1))) (by omega) (by omega) (LyM_row hL (fun j => rfl)) (mrow_s _ _ _)
    rw [mrow_m] at z
    have e4 : w32 ((q : Int) + 4) = ((q + 4 : Nat) : Int) := ix1 (c := 4) q5 (by decide)
    rw [q_Md_cut_22, many0 hL hl c5, Option.bind_some]
    dsimp only
    rw [hs, Option.bind_some]
    dsimp only
    rw [ix4 pp, if_neg lt, p_43_14 hL, Option.bind_some, Option.bind_some, e4, ld53 hL pq4, Option.bind_some, st53 hL pq, Option.bind_some, hr, ctI_s hq, w32_nn q qq]
    exact z
theorem m_cut (hm : MI L n T P U K h) (hv : Val P) (l k : Int) : ∃ h', F_Md_cut 43 l k h = some ((cutA P l k).1, h') ∧ MI L n T (actN P U (cutA P l k).2).1 (actN P U (cutA P l k).2).2 K h' ∧ MFm h h' := by
  obtain ⟨hL, -, hS, h0, -⟩ := id hm
  have v2 := hv.2.1
  unfold cutA
  rw [q_Md_cut _ _ _ _ (o_43 hL), m_isCode hL hS h0 hv, Option.bind_some]
  dsimp only
  by_cases q : hasI P l k
  · rw [b2i_t q, if_pos (by decide), iteP_t q]
    obtain ⟨m, rfl⟩ := n_of q.1.1
    obtain ⟨i, rfl⟩ := n_of q.2.1
    have q2 := q.2.2
    rw [tn] at q2
    have m4 : m < 4 := by have := q.1.2; omega
    have hk := (hv.2.2.2.2 m q.1.2).2.2.2.2.1
    obtain ⟨N, hN⟩ : ∃ N : Nat, pK P m = ((N + 1 : Nat) : Int) := ⟨(pK P m).toNat - 1, by omega⟩
    rw [hN] at q2 hk
    have iN : i ≤ N := by omega
    have N6 : N < 6 := by omega
    have i6 : i ≤ 6 := by omega
    rw [tn, tn, hN, tn]
    obtain ⟨h1, a1, a2, a3⟩ := m_known hm
    have L1 := a2.1
    have s1 := a2.2.2.2.1
    have hs := m_spot (b := 0) (by decide) m4 i6 h1
    rw [show ((0 : Nat) : Int) = 0 from rfl] at hs
    have z := m_ct22 (f := h1.2 53) m4 iN N6 (by rw [(s1 m m4).2.2.1, hN]) (4 * N - 4 * i) (0 + 30 * m + 6 + 4 * i) h1 (by omega) (Nat.le_refl _) L1 (ctI_0 _ _).symm
    have s2 := Sl_ct (k := i) (n := N + 1) m4 (by omega) (by omega) s1
    rw [show N + 1 - 1 = N from rfl] at s2
    have s3 := Sl_ru s2 (l := m) (c := 5) (by decide) rfl (qO_5 m).symm (N : Int)
    have eo : outS P m i (N + 1) = ru (outI P m i N) (27 + 34 * m) (N : Int) := by
      unfold outS
      rw [show ((N + 1 : Nat) : Int) - 1 = (N : Int) by omega]
      rfl
    rw [← eo] at s3
    have st : St P (outS P m i (N + 1)) := by
      rw [eo]
      refine ⟨fun j hj => ?_, fun l' j h1 h2 => ?_⟩
      · rw [ru_d _ _ (by omega)]; unfold outI; rw [if_neg (by omega)]
      · have := l34 l' m
        rw [ru_d _ _ (by omega)]; unfold outI; rw [if_neg (by omega)]
    obtain ⟨m1, m2⟩ := MI_now a2 hv st s3 (fun j h1 h2 => by rw [ru_d _ _ (by omega)]; unfold ctI; rw [if_neg (by omega)])
    refine ⟨_, ?_, m1, MFm_tr a3 m2⟩
    rw [a1, Option.bind_some, hs, Option.bind_some]
    dsimp only
    rw [z, show ((N + 1 : Nat) : Int) - 1 = (N : Int) by omega]
  · rw [b2i_f q, if_neg (by decide), iteP_f q]
    exact ⟨h, rfl, hm, MFm_rf h⟩
theorem m_ad80 {f : Nat → Int} {l k N : Nat} {c x y z : Int} (hl : l < 4) (hk : k ≤ N) (hN : N < 6) (hf : f (0 + 30 * l + 5) = (N : Int)) : ∀ (m i : Nat) (h : mH), i = 0 + 30 * l + 6 + 4 * k + m → i ≤ 0 + 30 * l + 6 + 4 * N → LyM L h → h.2 53 = adI f i (0 + 30 * l + 6 + 4 * N) →
    B_Md_add_80 43 (l : Int) (k : Int) c x y z ((i : Int) - 1) h = some (((N + 1 : Nat) : Int), mrow h 53 (ru (wrI (adI f (0 + 30 * l + 6 + 4 * k) (0 + 30 * l + 6 + 4 * N)) (0 + 30 * l + 6 + 4 * k) c x y z) (0 + 30 * l + 5) ((N + 1 : Nat) : Int)))
  | 0, i, h, e, hi, hL, hr => by
    rw [Nat.add_zero] at e
    subst e
    have lt : ((0 + 30 * l + 6 + 4 * k : Nat) : Int) - 1 < ((0 + 30 * l + 6 + 4 * k : Nat) : Int) := by omega
    have p0 : 0 + 30 * l + 5 < 1440 := by omega
    have k6 : k < 6 := by omega
    have N1 : N < 1000 := by omega
    have hs := m_spot (b := 0) (by decide) hl (Nat.le_of_lt k6) h
    rw [show ((0 : Nat) : Int) = 0 from rfl] at hs
    have hw := m_writes hL (b := 0) (by decide) hl k6 c x y z
    rw [show ((0 : Nat) : Int) = 0 from rfl, hr] at hw
    have L1 : LyM L (mrow h 53 (wrI (adI f (0 + 30 * l + 6 + 4 * k) (0 + 30 * l + 6 + 4 * N)) (0 + 30 * l + 6 + 4 * k) c x y z)) := LyM_row hL (fun j => rfl)
    have L2 : LyM L (mrow h 53 (ru (wrI (adI f (0 + 30 * l + 6 + 4 * k) (0 + 30 * l + 6 + 4 * N)) (0 + 30 * l + 6 + 4 * k) c x y z) (0 + 30 * l + 5) ((N + 1 : Nat) : Int))) := LyM_row hL (fun j => rfl)
    have c5 : wrI (adI f (0 + 30 * l + 6 + 4 * k) (0 + 30 * l + 6 + 4 * N)) (0 + 30 * l + 6 + 4 * k) c x y z (0 + 30 * l + 5) = (N : Int) := by
      rw [wrI_o _ _ _ _ (by omega)]
      unfold adI
      rw [if_neg (by omega)]
      exact hf
    have e5 : w32 ((w32 (30 * (l : Int))) + 5) = ((0 + 30 * l + 5 : Nat) : Int) := ix2 (c := 5) hl (by decide)
    rw [q_Md_add_80, hs, Option.bind_some]
    dsimp only
    rw [if_pos lt, hw, Option.bind_some, p_43_14 L1, Option.bind_some, e5, ld53 L1 p0, Option.bind_some, mrow_s, c5, w32_nn N N1, st53 L1 p0, Option.bind_some, mrow_s, mrow_m, many0 L2 hl (v := ((N + 1 : Nat) : Int)) (by rw [mrow_s, ru_s]), Option.bind_some]
  | m + 1, i, h, e, hi, hL, hr => by
    obtain ⟨j, rfl⟩ : ∃ j, i = j + 1 := ⟨i - 1, by omega⟩
    have lt : ¬ (j : Int) < ((0 + 30 * l + 6 + 4 * k : Nat) : Int) := by omega
    have k6 : k ≤ 6 := by omega
    have pj : j < 1440 := by omega
    have pj4 : j + 4 < 1440 := by omega
    have j5 : j < 10000 := by omega
    have jE : j < 0 + 30 * l + 6 + 4 * N := by omega
    have hs := m_spot (b := 0) (by decide) hl k6 h
    rw [show ((0 : Nat) : Int) = 0 from rfl] at hs
    have w := m_ad80 (c := c) (x := x) (y := y) (z := z) hl hk hN hf m j (mrow h 53 (adI f j (0 + 30 * l + 6 + 4 * N))) (by omega) (by omega) (LyM_row hL (fun j => rfl)) (mrow_s _ _ _)
    rw [mrow_m] at w
    have e0 : ((j + 1 : Nat) : Int) - 1 = (j : Int) := by omega
    have e4 : w32 ((j : Int) + 4) = ((j + 4 : Nat) : Int) := ix1 (c := 4) j5 (by decide)
    have e9 : w32 ((j : Int) + (-1)) = (j : Int) - 1 := ix9 j5
    rw [e0, q_Md_add_80, hs, Option.bind_some]
    dsimp only
    rw [if_neg lt, p_43_14 hL, Option.bind_some, Option.bind_some, ld53 hL pj, Option.bind_some, e4, st53 hL pj4, Option.bind_some, hr, adI_s jE, e9]
    exact w
theorem m_add (hm : MI L n T P U K h) (hv : Val P) (l k c x y z : Int) : ∃ h', F_Md_add 43 l k c x y z h = some ((addA P l k c x y z).1, h') ∧ MI L n T (actN P U (addA P l k c x y z).2).1 (actN P U (addA P l k c x y z).2).2 K h' ∧ MFm h h' := by
  obtain ⟨hL, -, hS, h0, -⟩ := id hm
  have v1 := hv.1
  have v2 := hv.2.1
  unfold addA
  rw [q_Md_add _ _ _ _ _ _ _ _ (o_43 hL), m_isLabel hL hS (by omega), Option.bind_some]
  dsimp only
  by_cases q : hasL P l
  · rw [b2i_t q, if_neg (by decide)]
    obtain ⟨m, rfl⟩ := n_of q.1
    have m4 : m < 4 := by have := q.2; omega
    have hk := (hv.2.2.2.2 m q.2).2.2.2.2.1
    obtain ⟨N, hN⟩ : ∃ N : Nat, pK P m = (N : Int) := ⟨(pK P m).toNat, by omega⟩
    have c5 : h.2 53 (0 + 30 * m + 5) = (N : Int) := by rw [(h0 m m4).2.2.1, hN]
    rw [tn, hN, many0 hL m4 c5, Option.bind_some]
    dsimp only
    rw [c_in, Option.bind_some]
    dsimp only
    by_cases w : 0 ≤ k ∧ k ≤ (N : Int)
    · rw [b2i_t w, if_neg (by decide), g_43 hL (by decide), Option.bind_some, g_43 hL (by decide), Option.bind_some, hS.1, hS.2.1, m_may c x y z v1 (by omega), Option.bind_some]
      dsimp only
      by_cases r : mayS (pS P) (pL P) c x y z
      · rw [b2i_t r, if_pos (by decide), iteP_t (p := hasL P (m : Int) ∧ (0 ≤ k ∧ k ≤ (N : Int)) ∧ mayS (pS P) (pL P) c x y z) ⟨q, w, r⟩, many0 hL m4 c5, Option.bind_some]
        dsimp only
        by_cases f : 6 ≤ (N : Int)
        · have e6 : (N : Int) = 6 := by omega
          rw [if_neg (Decidable.not_not.mpr e6), iteP_t f]
          exact ⟨h, rfl, hm, MFm_rf h⟩
        · have e6 : (N : Int) ≠ 6 := by omega
          have N6 : N < 6 := by omega
          rw [if_pos e6, iteP_f f]
          obtain ⟨i, rfl⟩ := n_of w.1
          have iN : i ≤ N := by omega
          have i6 : i < 6 := by omega
          obtain ⟨h1, a1, a2, a3⟩ := m_known hm
          have L1 := a2.1
          have s1 := a2.2.2.2.1
          have d5 : h1.2 53 (0 + 30 * m + 5) = (N : Int) := by rw [(s1 m m4).2.2.1, hN]
          have pN : 0 + 30 * m + 6 + 4 * N < 10000 := by omega
          have hs := m_spot (b := 0) (by decide) m4 (Nat.le_of_lt N6) h1
          rw [show ((0 : Nat) : Int) = 0 from rfl] at hs
          have zz := m_ad80 (f := h1.2 53) (c := c) (x := x) (y := y) (z := z) m4 iN N6 d5 (4 * N - 4 * i) (0 + 30 * m + 6 + 4 * N) h1 (by omega) (Nat.le_refl _) L1 (adI_0 _ _).symm
          have s2 := Sl_wr (l := m) (Sl_ad m4 iN N6 s1) i6 c x y z
          have s3 := Sl_ru s2 (l := m) (c := 5) (by decide) rfl (qO_5 m).symm ((N + 1 : Nat) : Int)
          have eo : insS (roomS P m i N) m i c x y z = ru (insS (roomI P m i N) m i c x y z) (27 + 34 * m) ((N + 1 : Nat) : Int) := by
            unfold roomS
            rw [insS_ru _ _ _ _ _ (by omega)]
            rfl
          rw [← eo] at s3
          have st : St P (insS (roomS P m i N) m i c x y z) := by
            rw [eo]
            refine ⟨fun j hj => ?_, fun l' j h1 h2 => ?_⟩
            · rw [ru_d _ _ (by omega), insS_o _ _ _ _ (by omega)]; unfold roomI; rw [if_neg (by omega)]
            · have := l34 l' m
              rw [ru_d _ _ (by omega), insS_o _ _ _ _ (by omega)]; unfold roomI; rw [if_neg (by omega)]
          obtain ⟨m1, m2⟩ := MI_now a2 hv st s3 (fun j h1 h2 => by rw [ru_d _ _ (by omega), wrI_o _ _ _ _ (by omega)]; unfold adI; rw [if_neg (by omega)])
          rw [tn, tn]
          refine ⟨_, ?_, m1, MFm_tr a3 m2⟩
          rw [a1, Option.bind_some, many0 L1 m4 d5, Option.bind_some]
          dsimp only
          rw [hs, Option.bind_some]
          dsimp only
          rw [ix9 pN, zz]
          rfl
      · rw [b2i_f r, if_neg (by decide), iteP_f (p := hasL P (m : Int) ∧ (0 ≤ k ∧ k ≤ (N : Int)) ∧ mayS (pS P) (pL P) c x y z) (fun t => r t.2.2)]
        exact ⟨h, rfl, hm, MFm_rf h⟩
    · rw [b2i_f w, if_pos rfl, iteP_f (p := hasL P (m : Int) ∧ (0 ≤ k ∧ k ≤ (N : Int)) ∧ mayS (pS P) (pL P) c x y z) (fun t => w t.2.1)]
      exact ⟨h, rfl, hm, MFm_rf h⟩
  · rw [b2i_f q, if_pos rfl, iteP_f (fun t => q t.1)]
    exact ⟨h, rfl, hm, MFm_rf h⟩
end Md
