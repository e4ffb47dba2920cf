/-! THE MODEL READS: an instruction -/
theorem nm_99 (T : Nat → Int) (n i : Nat) : (nmS T n i).1 ≤ 99 := by
  unfold nmS
  by_cases q : isFg (pk T n i)
  · rw [iteP_t q]
    unfold isFg at q
    by_cases r : isFg (pk T n (i + 1))
    · rw [iteP_t r]
      unfold isFg at r
      show (pk T n i - 48) * 10 + (pk T n (i + 1) - 48) ≤ 99
      omega
    · rw [iteP_f r]
      show pk T n i - 48 ≤ 99
      omega
  · rw [iteP_f q]
    show (-1 : Int) ≤ 99
    decide
theorem bnd {j i n B : Nat} (h : j ≤ i ∨ j ≤ n) (hi : i ≤ B) (hn : n ≤ B) : j ≤ B := h.elim (fun q => Nat.le_trans q hi) (fun q => Nat.le_trans q hn)
theorem ix7 {l : Nat} (hl : l < 4) : w32 ((w32 (30 * (w32 (((l + 1 : Nat) : Int) - 1)))) + 5) = ((0 + 30 * l + 5 : Nat) : Int) := by
  rw [w32_pp l (by omega)]
  exact ix2 (c := 5) hl (by decide)
theorem ix8 {l k : Nat} (hl : l < 4) (hk : k < 6) : w32 ((w32 ((w32 (30 * (w32 (((l + 1 : Nat) : Int) - 1)))) + 6)) + (w32 (4 * (k : Int)))) = ((0 + 30 * l + 6 + 4 * k : Nat) : Int) := by
  rw [w32_pp l (by omega), w32_id (x := 30 * (l : Int)) (by omega) (by omega), w32_id (x := 30 * (l : Int) + 6) (by omega) (by omega), w32_id (x := 4 * (k : Int)) (by omega) (by omega), w32_id (by omega) (by omega)]
  omega
section Mp
variable {L n i : Nat} {T Q R : Nat → Int} {h : mH}
theorem m_tells (hL : LyM L h) {l k : Nat} (hl : l < 4) (hk : k < 6) (h9 : h.2 43 9 = ((l + 1 : Nat) : Int)) (h5 : h.2 52 (0 + 30 * l + 5) = (k : Int)) (c x y z : Int) :
    F_Md_tells 43 c x y z h = some (mrow h 52 (ru (wrI (h.2 52) (0 + 30 * l + 6 + 4 * k) c x y z) (0 + 30 * l + 5) ((k + 1 : Nat) : Int))) := by
  have q0 : 0 + 30 * l + 6 + 4 * k < 120 := by omega
  have q1 : 0 + 30 * l + 6 + 4 * k + 1 < 120 := by omega
  have q2 : 0 + 30 * l + 6 + 4 * k + 2 < 120 := by omega
  have q3 : 0 + 30 * l + 6 + 4 * k + 3 < 120 := by omega
  have q5 : 0 + 30 * l + 5 < 120 := by omega
  have pp : 0 + 30 * l + 6 + 4 * k < 10000 := by omega
  have L1 : ∀ g, LyM L (mrow h 52 g) := fun g => LyM_row hL (fun j => rfl)
  have st : ∀ {h : mH} (hL : LyM L h) {p : Nat} (hp : p < 120) (v : Int), ast h (52 : Int).toNat (p : Int) v = some (mrow h 52 (ru (h.2 52) p v)) := fun hL p hp v => by rw [st52 hL hp, mw_r]
  have e1 : w32 (((0 + 30 * l + 6 + 4 * k : Nat) : Int) + 1) = ((0 + 30 * l + 6 + 4 * k + 1 : Nat) : Int) := ix1 (c := 1) pp (by decide)
  have e2 : w32 (((0 + 30 * l + 6 + 4 * k : Nat) : Int) + 2) = ((0 + 30 * l + 6 + 4 * k + 2 : Nat) : Int) := ix1 (c := 2) pp (by decide)
  have e3 : w32 (((0 + 30 * l + 6 + 4 * k : Nat) : Int) + 3) = ((0 + 30 * l + 6 + 4 * k + 3 : Nat) : Int) := ix1 (c := 3) pp (by decide)
  have c5 : wrI (h.2 52) (0 + 30 * l + 6 + 4 * k) c x y z (0 + 30 * l + 5) = (k : Int) := by rw [wrI_o _ _ _ _ (by clear e1 e2 e3; omega)]; exact h5
  rw [q_Md_tells _ _ _ _ _ _ (o_43 hL), g_43 hL (by decide), Option.bind_some, p_43_12 hL, Option.bind_some, h9, ix7 hl, ld52 hL q5, Option.bind_some, h5, ix8 hl hk, q_Md_tells_30, p_43_12 hL, Option.bind_some, st hL q0, Option.bind_some, p_43_12 (L1 _), Option.bind_some, e1, st (L1 _) q1, Option.bind_some, mrow_s, mrow_m, p_43_12 (L1 _), Option.bind_some, e2, st (L1 _) q2, Option.bind_some, mrow_s, mrow_m, p_43_12 (L1 _), Option.bind_some, e3, st (L1 _) q3, Option.bind_some, mrow_s, mrow_m, p_43_12 (L1 _), Option.bind_some, ix7 hl, ld52 (L1 _) q5, Option.bind_some, mrow_s]
  have c5' : (ru (ru (ru (ru (h.2 52) (0 + 30 * l + 6 + 4 * k) c) (0 + 30 * l + 6 + 4 * k + 1) x) (0 + 30 * l + 6 + 4 * k + 2) y) (0 + 30 * l + 6 + 4 * k + 3) z) (0 + 30 * l + 5) = (k : Int) := c5
  rw [c5', w32_nn k (by clear e1 e2 e3; omega), st (L1 _) q5, Option.bind_some, mrow_s, mrow_m]
  rfl
theorem m_ciw (hL : LyM L h) (hi : h.2 43 19 = (i : Int)) (i9 : i ≤ 900) (c x y z : Int) : MIt L n T h none (B_Md_codeItem_106 43 c x y z 43 h) := by
  have L1 : LyM L (mw h 43 21 1) := LyM_mw hL rfl
  refine MIt_w (h' := mw h 43 21 1) (j := i) ?_ (Mp_43 h _ (by decide)) (by rw [mw_d _ _ (by decide)]; exact hi) i9 (mw_s _ _ _ _)
  rw [q_Md_codeItem_106, q_Md_codeItem_111]
  rw [show (bz 1).bind (fun _ => pfd 6 21 h 43 1) = pfd 6 21 h 43 1 from rfl, f_43 hL (by decide), Option.bind_some, g_43 L1 (by decide), Option.bind_some, mw_s, if_pos (by decide)]
/-- an instruction more is meant -/
theorem mean_ins (hp : PV Q) {l k : Nat} (hl : pL Q = ((l + 1 : Nat) : Int)) (hk : pK Q l = (k : Int)) (hk6 : k < 6) (c x y z : Int) {b : Nat} :
    meanQ (insS (ru Q (27 + 34 * l) ((k : Int) + 1)) l k c x y z) b ↔ meanQ Q b ∨ hasB (lin c x y) b := by
  obtain ⟨p1, p2, p3, p4, p5, p6⟩ := hp
  have l4 : l < 4 := by omega
  have eL : pL (insS (ru Q (27 + 34 * l) ((k : Int) + 1)) l k c x y z) = pL Q := by
    show insS _ l k c x y z 1 = Q 1
    rw [insS_o _ _ _ _ (by omega), ru_d _ _ (by omega)]
  have eo : ∀ j, (j < 27 + 34 * l ∨ 28 + 34 * l + 4 * k + 4 ≤ j ∨ (28 + 34 * l ≤ j ∧ j < 28 + 34 * l + 4 * k)) → insS (ru Q (27 + 34 * l) ((k : Int) + 1)) l k c x y z j = Q j := fun j hj => by
    rw [insS_o _ _ _ _ (by omega), ru_d _ _ (by omega)]
  have other : ∀ m, m ≠ l → (m : Int) < pL Q → (mean (insS (ru Q (27 + 34 * l) ((k : Int) + 1)) l k c x y z) m b ↔ mean Q m b) := fun m hm hml => by
    have hh := p6 m hml
    exact mean_c (fun j h1 h2 => eo j (by have := l34 m l; omega)) hh.2.1 hh.2.2.2.2.1 b
  have here : mean (insS (ru Q (27 + 34 * l) ((k : Int) + 1)) l k c x y z) l b ↔ mean Q l b ∨ hasB (lin c x y) b := by
    have hh := p6 l (by omega)
    have eK : pK (insS (ru Q (27 + 34 * l) ((k : Int) + 1)) l k c x y z) l = (k : Int) + 1 := by
      show insS _ l k c x y z _ = _
      rw [insS_o _ _ _ _ (by omega), ru_s]
    have eH : pH (insS (ru Q (27 + 34 * l) ((k : Int) + 1)) l k c x y z) l = pH Q l := eo _ (by omega)
    have eW : ∀ r, r < 4 → pW (insS (ru Q (27 + 34 * l) ((k : Int) + 1)) l k c x y z) l r = pW Q l r := fun r hr => eo _ (by omega)
    have eT : ∀ r, r < 3 → pT (insS (ru Q (27 + 34 * l) ((k : Int) + 1)) l k c x y z) l r = pT Q l r := fun r hr => eo _ (by omega)
    have eC : ∀ i p, i < k → p < 4 → pC (insS (ru Q (27 + 34 * l) ((k : Int) + 1)) l k c x y z) l i p = pC Q l i p := fun i p hi hp => eo _ (by omega)
    obtain ⟨c0, c1, c2, -⟩ := insS_c (P := ru Q (27 + 34 * l) ((k : Int) + 1)) l k c x y z
    unfold mean
    rw [eK, eH, hk]
    constructor
    · rintro (⟨i, h1, h2⟩ | ⟨r, h1, h2⟩ | ⟨r, h1, h2⟩)
      · by_cases q : i = k
        · rw [q, c0, c1, c2] at h2
          exact Or.inr h2
        · rw [eC i 0 (by omega) (by omega), eC i 1 (by omega) (by omega), eC i 2 (by omega) (by omega)] at h2
          exact Or.inl (Or.inl ⟨i, by omega, h2⟩)
      · exact Or.inl (Or.inr (Or.inl ⟨r, h1, by rw [eW r h1] at h2; exact h2⟩))
      · exact Or.inl (Or.inr (Or.inr ⟨r, h1, by rw [eT r (by omega)] at h2; exact h2⟩))
    · rintro ((⟨i, h1, h2⟩ | ⟨r, h1, h2⟩ | ⟨r, h1, h2⟩) | h2)
      · refine Or.inl ⟨i, by omega, ?_⟩
        rw [eC i 0 (by omega) (by omega), eC i 1 (by omega) (by omega), eC i 2 (by omega) (by omega)]
        exact h2
      · exact Or.inr (Or.inl ⟨r, h1, by rw [eW r h1]; exact h2⟩)
      · exact Or.inr (Or.inr ⟨r, h1, by rw [eT r (by omega)]; exact h2⟩)
      · exact Or.inl ⟨k, by omega, by rw [c0, c1, c2]; exact h2⟩
  unfold meanQ
  rw [eL]
  constructor
  · rintro ⟨m, a, d⟩
    by_cases q : m = l
    · rw [q] at d a
      exact (here.mp d).elim (fun d => Or.inl ⟨l, a, d⟩) Or.inr
    · exact Or.inl ⟨m, a, (other m q a).mp d⟩
  · rintro (⟨m, a, d⟩ | d)
    · by_cases q : m = l
      · rw [q] at d a
        exact ⟨l, a, here.mpr (Or.inl d)⟩
      · exact ⟨m, a, (other m q a).mpr d⟩
    · exact ⟨l, by omega, here.mpr (Or.inr d)⟩
/-- an instruction is told -/
theorem m_ci111 (hL : LyM L h) (hi : h.2 43 19 = (i : Int)) (hp : PV Q) {l k : Nat} (hl : pL Q = ((l + 1 : Nat) : Int)) (hk : pK Q l = (k : Int)) (hk6 : k < 6) {c x y z : Int} (hmay : mayS (pS Q) 4 c x y z) (hm : MTo Q h) (hmm : MMn Q h) :
    ∃ h', B_Md_codeItem_111 43 c x y z 0 43 h = some h' ∧ Mp h h' ∧ h'.2 43 19 = (i : Int) ∧ h'.2 43 21 = 0 ∧ MTo (insS (ru Q (27 + 34 * l) ((k : Int) + 1)) l k c x y z) h' ∧ MMn (insS (ru Q (27 + 34 * l) ((k : Int) + 1)) l k c x y z) h' := by
  obtain ⟨m1, m2, m3, m4, m5⟩ := id hm
  have p2 := hp.2.1
  have l4 : l < 4 := by omega
  obtain ⟨c0, c1, c2, c3⟩ := insS_c (P := ru Q (27 + 34 * l) ((k : Int) + 1)) l k c x y z
  have tk : tok (insS (ru Q (27 + 34 * l) ((k : Int) + 1)) l k c x y z) l k := tok_of (Int.le_refl 4) (by rw [c0, c1, c2, c3]; exact hmay)
  have lb := lin_b tk
  rw [c0, c1, c2] at lb
  have L1 : LyM L (mw h 43 21 0) := LyM_mw hL rfl
  have L2 : LyM L (mw (mw h 43 21 0) 43 13 (ior (h.2 43 13) (lin c x y))) := LyM_mw L1 rfl
  have r52 : (mw (mw h 43 21 0) 43 13 (ior (h.2 43 13) (lin c x y))).2 52 = h.2 52 := by rw [mw_o _ _ _ (by decide), mw_o _ _ _ (by decide)]
  have h5 : h.2 52 (0 + 30 * l + 5) = (k : Int) := by rw [(m5 l l4).2.2.1, hk]
  have ht := m_tells L2 l4 hk6 (by rw [mw_d _ _ (by decide), mw_d _ _ (by decide), m2, hl]) (by rw [r52]; exact h5) c x y z
  rw [r52] at ht
  refine ⟨mrow (mw (mw h 43 21 0) 43 13 (ior (h.2 43 13) (lin c x y))) 52 (ru (wrI (h.2 52) (0 + 30 * l + 6 + 4 * k) c x y z) (0 + 30 * l + 5) ((k + 1 : Nat) : Int)), ?_, Mp_tr (Mp_43 h 0 (j := 21) (by decide)) (Mp_tr (Mp_43 _ (ior (h.2 43 13) (lin c x y)) (j := 13) (by decide)) ?_), ?_, ?_, ?_, ?_⟩
  · rw [q_Md_codeItem_111]
    rw [show (bz 0).bind (fun _ => pfd 6 21 h 43 0) = pfd 6 21 h 43 0 from rfl, f_43 hL (by decide), Option.bind_some, g_43 L1 (by decide), Option.bind_some, mw_s, if_neg (by decide), g_43 L1 (by decide), Option.bind_some, mw_d _ _ (by decide), m_labelsIn, Option.bind_some]
    dsimp only
    rw [f_43 L1 (by decide), Option.bind_some, ht, Option.bind_some]
  · exact ⟨rfl, fun a h1 h2 => mrow_o _ _ (by omega), fun j _ _ _ _ _ => by rw [mrow_o _ _ (by decide)]⟩
  · rw [mrow_o _ _ (by decide), mw_d _ _ (by decide), mw_d _ _ (by decide)]; exact hi
  · rw [mrow_o _ _ (by decide), mw_d _ _ (by decide), mw_s]
  · have eo : ∀ j, (j < 27 + 34 * l) → insS (ru Q (27 + 34 * l) ((k : Int) + 1)) l k c x y z j = Q j := fun j hj => by
      rw [insS_o _ _ _ _ (by omega), ru_d _ _ (by omega)]
    refine ⟨?_, ?_, fun u hu => ?_, fun m hm' => ?_, ?_⟩
    · rw [mrow_o _ _ (by decide), mw_d _ _ (by decide), mw_d _ _ (by decide), m1]; exact (eo 0 (by omega)).symm
    · rw [mrow_o _ _ (by decide), mw_d _ _ (by decide), mw_d _ _ (by decide), m2]; exact (eo 1 (by omega)).symm
    · have hu' : (u : Int) < pS Q := by have : pS (insS (ru Q (27 + 34 * l) ((k : Int) + 1)) l k c x y z) = pS Q := eo 0 (by omega); omega
      obtain ⟨a1, a2⟩ := m3 u hu'
      have ub := (hp.2.2.2.1 u hu').1
      have pu := hp.1
      have e1 : pFn (insS (ru Q (27 + 34 * l) ((k : Int) + 1)) l k c x y z) u = pFn Q u := eo _ (by omega)
      rw [e1, mrow_o _ _ (by decide), mrow_o _ _ (by decide), mw_o _ _ _ (by decide), mw_o _ _ _ (by decide), mw_o _ _ _ (by decide), mw_o _ _ _ (by decide)]
      exact ⟨a1, fun g hg => by rw [a2 g hg]; exact (eo _ (by omega)).symm⟩
    · have hm2 : (m : Int) < pL Q := by have : pL (insS (ru Q (27 + 34 * l) ((k : Int) + 1)) l k c x y z) = pL Q := eo 1 (by omega); omega
      obtain ⟨a1, a2⟩ := m4 m hm2
      have ub := (hp.2.2.2.2.2 m hm2).2.1
      have e1 : pH (insS (ru Q (27 + 34 * l) ((k : Int) + 1)) l k c x y z) m = pH Q m := eo _ (by omega)
      rw [e1, mrow_o _ _ (by decide), mrow_o _ _ (by decide), mw_o _ _ _ (by decide), mw_o _ _ _ (by decide), mw_o _ _ _ (by decide), mw_o _ _ _ (by decide)]
      exact ⟨a1, fun g hg => by rw [a2 g hg]; exact (eo _ (by omega)).symm⟩
    · rw [mrow_s, insS_ru _ _ _ _ _ (by omega), show (k : Int) + 1 = ((k + 1 : Nat) : Int) by omega]
      exact Sl_ru (Sl_wr (l := l) m5 hk6 c x y z) (l := l) (c := 5) (by decide) rfl (qO_5 l).symm _
  · have e13 : (mrow (mw (mw h 43 21 0) 43 13 (ior (h.2 43 13) (lin c x y))) 52 (ru (wrI (h.2 52) (0 + 30 * l + 6 + 4 * k) c x y z) (0 + 30 * l + 5) ((k + 1 : Nat) : Int))).2 43 13 = ior (h.2 43 13) (lin c x y) := by rw [mrow_o _ _ (by decide), mw_s]
    unfold MMn
    rw [e13]
    refine ⟨io16 hmm.1 lb, fun b hb => ?_⟩
    rw [hb_or hmm.1 lb hb, hmm.2 b hb, mean_ins hp hl hk hk6 c x y z]
theorem m_codeItem (hx : Mx L n T h) (hi : h.2 43 19 = (i : Int)) (i9 : i < 300) (hp : PV Q) (hm : MTo Q h) (hmm : MMn Q h) : MIt L n T h (insI T n i Q) (F_Md_codeItem 43 h) := by
  have hL := hx.1
  have n2 := hx.2.2.1
  obtain ⟨m1, m2, m3, m4, m5⟩ := id hm
  obtain ⟨p1, p2, -, -, -, p6⟩ := id hp
  have go : ∀ (s : Int) (W : Prop), s = b2i W → (W ↔ ¬ (1 ≤ pL Q ∧ pK Q (pL Q - 1).toNat < 6)) → MIt L n T h (insI T n i Q) (B_Md_codeItem_34 43 s 43 h) := fun s W es hW => by
    have f0 : Mn h (mw h 43 21 (b2i W)) := Mn_43 h _ (Or.inr rfl)
    have x0 := Mp_x (Mn_p f0) hx
    have I6 : i ≤ 600 := by omega
    have I3 : i ≤ 300 := by omega
    have N3 : n ≤ 300 := by omega
    obtain ⟨h1, v1, j1, a1, a2, a3, a4, a5, a6⟩ := m_number (W := W) x0 (show (mw h 43 21 (b2i W)).2 43 19 = (i : Int) by rw [mw_d _ _ (by decide)]; exact hi) I6 (mw_s _ _ _ _) 13
    have x1 := Mp_x (Mn_p a2) x0
    have J1 : j1 ≤ 300 := bnd a4 I3 N3
    obtain ⟨h2, b1, b2, b3, b4⟩ := m_comma x1 a3 (Nat.lt_of_le_of_lt J1 (by decide)) a5
    have x2 := Mp_x (Mn_p b2) x1
    obtain ⟨h3, v3, j3, c1, c2, c3, c4, c5, c6⟩ := m_number x2 b3 (Nat.le_trans (Nat.succ_le_succ J1) (by decide)) b4 99
    have J3 : j3 ≤ 301 := bnd c4 (Nat.succ_le_succ J1) (Nat.le_trans N3 (by decide))
    have x3 := Mp_x (Mn_p c2) x2
    obtain ⟨h4, d1, d2, d3, d4⟩ := m_comma x3 c3 (Nat.lt_of_le_of_lt J3 (by decide)) c5
    have x4 := Mp_x (Mn_p d2) x3
    obtain ⟨h5, v5, j5, e1, e2, e3, e4, e5, e6⟩ := m_number x4 d3 (Nat.le_trans (Nat.succ_le_succ J3) (by decide)) d4 99
    have J5 : j5 ≤ 302 := bnd e4 (Nat.succ_le_succ J3) (Nat.le_trans N3 (by decide))
    have x5 := Mp_x (Mn_p e2) x4
    obtain ⟨h6, g1, g2, g3, g4⟩ := m_comma x5 e3 (Nat.lt_of_le_of_lt J5 (by decide)) e5
    have x6 := Mp_x (Mn_p g2) x5
    obtain ⟨h7, v7, j7, k1, k2, k3, k4, k5, k6⟩ := m_number x6 g3 (Nat.le_trans (Nat.succ_le_succ J5) (by decide)) g4 99
    have J7 : j7 ≤ 303 := bnd k4 (Nat.succ_le_succ J5) (Nat.le_trans N3 (by decide))
    have J9 : j7 ≤ 900 := Nat.le_trans J7 (by decide)
    have x7 := Mp_x (Mn_p k2) x6
    have zL : ∀ (z0 : 1 ≤ pL Q ∧ pK Q (pL Q - 1).toNat < 6), ∃ l k : Nat, pL Q = ((l + 1 : Nat) : Int) ∧ (pL Q - 1).toNat = l ∧ pK Q l = (k : Int) ∧ k < 6 := fun z0 => by
      obtain ⟨l, hl⟩ : ∃ l : Nat, pL Q = ((l + 1 : Nat) : Int) := ⟨(pL Q).toNat - 1, by clear a4 a6 c4 c6 e4 e6 k4 k6 hW; omega⟩
      have el : (pL Q - 1).toNat = l := by clear a4 a6 c4 c6 e4 e6 k4 k6 hW; omega
      have z0' := z0.2
      rw [el] at z0'
      have lt : (l : Int) < pL Q := by clear a4 a6 c4 c6 e4 e6 k4 k6 hW; omega
      have kb := (p6 l lt).2.2.2.2.1
      obtain ⟨k, hk⟩ := n_of kb.1
      exact ⟨l, k, hl, el, hk, by clear a4 a6 c4 c6 e4 e6 k4 k6 hW; omega⟩
    have fr : Mn h h7 := Mn_tr f0 (Mn_tr a2 (Mn_tr b2 (Mn_tr c2 (Mn_tr d2 (Mn_tr e2 (Mn_tr g2 k2))))))
    have hm7 := MTo_n fr hm
    have mm7 : MMn Q h7 := MMn_c (fun j _ => rfl) rfl (fr.2.2 13 (by decide) (by decide)) hmm
    have run : B_Md_codeItem_34 43 s 43 h = (gfd 6 21 h7 43).bind fun v84 => if v84 ≠ 0 then (B_Md_codeItem_106 43 v1 v3 v5 v7 43 h7) else ((gfd 6 6 h7 43).bind fun v96 => (F_Md_mayBe v1 v3 v5 v7 v96 4 h7).bind fun q100 => if q100.1 ≠ 0 then (B_Md_codeItem_111 43 v1 v3 v5 v7 0 43 q100.2) else (B_Md_codeItem_106 43 v1 v3 v5 v7 43 q100.2)) := by
      rw [q_Md_codeItem_34, es, bz_b, f_43 hL (by decide), Option.bind_some, a1, Option.bind_some]
      dsimp only
      rw [b1, Option.bind_some, c1, Option.bind_some]
      dsimp only
      rw [d1, Option.bind_some, e1, Option.bind_some]
      dsimp only
      rw [g1, Option.bind_some, k1, Option.bind_some]
    rw [run, g_43 x7.1 (by decide), Option.bind_some, k5]
    refine MIt_tr (Mn_p fr) ?_
    by_cases w : ((((((W ∨ NW T n i 13) ∨ pk T n j1 ≠ 44) ∨ NW T n (j1 + 1) 99) ∨ pk T n j3 ≠ 44) ∨ NW T n (j3 + 1) 99) ∨ pk T n j5 ≠ 44) ∨ NW T n (j5 + 1) 99
    · have none' : insI T n i Q = none := by
        unfold insI
        refine iteP_f (fun z => ?_) _ _
        obtain ⟨z0, z1, z2, z3, z4, z5⟩ := z
        have nW : ¬ W := fun q => hW.mp q z0
        have nn : ∀ {a : Nat} {c hi' : Int}, (c = 44 ∨ c = 59) → pk T n (nmS T n a).2 = c → 0 ≤ (nmS T n a).1 → (nmS T n a).1 ≤ hi' → ¬ NW T n a hi' := fun {a c hi'} hc hpk h0 h1 q => by
          rcases q with q | q
          · rw [hpk] at q; unfold isFg at q; omega
          · exact q ⟨h0, h1⟩
        have n1 : ¬ (W ∨ NW T n i 13) := fun q => q.elim nW (nn (Or.inl rfl) z1 z5.1.1 (Int.le_of_lt_add_one z5.1.2))
        obtain ⟨ev1, ej1⟩ := a6 n1
        subst ej1
        have n2 : ¬ ((W ∨ NW T n i 13) ∨ pk T n (nmS T n i).2 ≠ 44) := fun q => q.elim n1 (fun q => q z1)
        have n3 : ¬ (((W ∨ NW T n i 13) ∨ pk T n (nmS T n i).2 ≠ 44) ∨ NW T n ((nmS T n i).2 + 1) 99) := fun q => q.elim n2 (nn (Or.inl rfl) z2 z5.2.1.1 (nm_99 _ _ _))
        obtain ⟨ev3, ej3⟩ := c6 n3
        subst ej3
        have e5x := e6 (fun q => q.elim (fun q => q.elim n3 (fun q => q z2)) (nn (Or.inl rfl) z3 z5.2.2.1.1 (nm_99 _ _ _)))
        obtain ⟨ev5, ej5⟩ := e5x
        subst ej5
        exact w.elim (fun q => q.elim (fun q => q.elim (fun q => q.elim n3 (fun q => q z2)) (nn (Or.inl rfl) z3 z5.2.2.1.1 (nm_99 _ _ _))) (fun q => q z3)) (nn (Or.inr rfl) z4 z5.2.2.2.1 (nm_99 _ _ _))
      rw [none', b2i_t w, if_pos (by decide)]
      exact m_ciw x7.1 k3 J9 _ _ _ _
    · obtain ⟨ev7, ej7⟩ := k6 w
      have w6 := fun q => w (Or.inl q)
      have w5 := fun q => w6 (Or.inl q)
      have w4 := fun q => w5 (Or.inl q)
      have w3 := fun q => w4 (Or.inl q)
      have w2 := fun q => w3 (Or.inl q)
      have w1 := fun q => w2 (Or.inl q)
      have z1 : pk T n j1 = 44 := Decidable.not_not.mp (fun q => w2 (Or.inr q))
      have z2 : pk T n j3 = 44 := Decidable.not_not.mp (fun q => w4 (Or.inr q))
      have z3 : pk T n j5 = 44 := Decidable.not_not.mp (fun q => w6 (Or.inr q))
      obtain ⟨ev1, ej1⟩ := a6 w1
      obtain ⟨ev3, ej3⟩ := c6 w3
      obtain ⟨ev5, ej5⟩ := e6 w5
      have z0 : 1 ≤ pL Q ∧ pK Q (pL Q - 1).toNat < 6 := by
        by_cases q : 1 ≤ pL Q ∧ pK Q (pL Q - 1).toNat < 6
        · exact q
        · exact absurd (Or.inl (hW.mpr q)) w1
      rw [b2i_f w, if_neg (by decide), g_43 x7.1 (by decide), Option.bind_some, hm7.1, m_may v1 v3 v5 v7 p1 (by decide), Option.bind_some]
      dsimp only
      obtain ⟨l, k, hl, el, hk, k6'⟩ := zL z0
      by_cases y : mayS (pS Q) 4 v1 v3 v5 v7
      · rw [b2i_t y, if_pos (by decide)]
        obtain ⟨h', u1, u2, u3, u4, u5, u6⟩ := m_ci111 x7.1 k3 hp hl hk k6' y hm7 mm7
        refine ⟨h', u1, u2, j7, u3, J9, Or.inr ⟨u4, _, u5, u6, ?_⟩⟩
        unfold insI
        rw [el, hk, tn]
        subst ev1 ej1 ev3 ej3 ev5 ej5 ev7 ej7
        exact iteP_c ⟨fun q => q.2.2.2.2.1, fun q => ⟨⟨z0.1, by rw [← hk, ← el]; exact z0.2⟩, z1, z2, z3, q, y⟩⟩ _ _
      · rw [b2i_f y, if_neg (by decide)]
        have none' : insI T n i Q = none := by
          unfold insI
          refine iteP_f (fun z => y ?_) _ _
          subst ev1 ej1 ev3 ej3 ev5 ej5 ev7 ej7
          exact z.2.2.2.2.2
        rw [none']
        exact m_ciw x7.1 k3 J9 _ _ _ _
  rw [q_Md_codeItem _ _ (o_43 hL), g_43 hL (by decide), Option.bind_some, m2]
  by_cases q : pL Q = 0
  · rw [if_pos q, q_Md_codeItem_29]
    exact go 1 True (b2i_t trivial).symm ⟨fun _ z => by omega, fun _ => trivial⟩
  · obtain ⟨l, hl⟩ : ∃ l : Nat, pL Q = ((l + 1 : Nat) : Int) := ⟨(pL Q).toNat - 1, by omega⟩
    have l4 : l < 4 := by omega
    have el : (pL Q - 1).toNat = l := by omega
    have kb := (p6 l (by omega)).2.2.2.2.1
    have c5 := (m5 l l4).2.2.1
    have q5 : 0 + 30 * l + 5 < 120 := by omega
    rw [if_neg q, p_43_12 hL, Option.bind_some, Option.bind_some, hl, ix7 l4, ld52 hL q5, Option.bind_some, c5]
    by_cases r : pK Q l = 6
    · rw [if_neg (Decidable.not_not.mpr r), q_Md_codeItem_29]
      exact go 1 True (b2i_t trivial).symm ⟨fun _ z => by rw [el] at z; omega, fun _ => trivial⟩
    · rw [if_pos r]
      exact go 0 False (b2i_f (fun z => z)).symm ⟨fun z => z.elim, fun z => z (by rw [el]; omega)⟩
end Mp
