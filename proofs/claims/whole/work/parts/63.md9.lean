/-! THE MODEL: a slot is written -/
def qO (l c : Nat) : Nat := if c < 4 then 18 + 34 * l + c else 22 + 34 * l + c
theorem l30 (m l : Nat) : m = l ∨ 30 * m + 30 ≤ 30 * l ∨ 30 * l + 30 ≤ 30 * m := by
  rcases Nat.lt_trichotomy m l with h | h | h
  · exact Or.inr (Or.inl (by omega))
  · exact Or.inl h
  · exact Or.inr (Or.inr (by omega))
theorem qO_ne {m l c d : Nat} (hc : c < 30) (hd : d < 30) (h : ¬ (m = l ∧ c = d)) : qO m c ≠ qO l d := by
  have ml := l34 m l
  unfold qO
  split <;> split <;> omega
theorem Sl_u {f Q : Nat → Int} {b : Nat} : Sl f b Q ↔ ∀ l c : Nat, l < 4 → c < 30 → f (b + 30 * l + c) = Q (qO l c) := by
  constructor
  · intro hs l c hl hc
    obtain ⟨a1, a2, a3, a4⟩ := hs l hl
    unfold qO
    by_cases q : c < 4
    · rw [if_pos q]; exact a1 c q
    · rw [if_neg q]
      by_cases e4 : c = 4
      · rw [e4, show 22 + 34 * l + 4 = 26 + 34 * l by omega]; exact a2
      · by_cases e5 : c = 5
        · rw [e5, show 22 + 34 * l + 5 = 27 + 34 * l by omega]; exact a3
        · have := a4 (c - 6) (by omega)
          rw [show b + 30 * l + 6 + (c - 6) = b + 30 * l + c by omega, show 28 + 34 * l + (c - 6) = 22 + 34 * l + c by omega] at this
          exact this
  · intro hs l hl
    have q : ∀ c, ¬ c < 4 → qO l c = 22 + 34 * l + c := fun c hc => if_neg hc
    refine ⟨fun r hr => ?_, ?_, ?_, fun j hj => ?_⟩
    · have := hs l r hl (by omega)
      rw [show qO l r = 18 + 34 * l + r from if_pos hr] at this
      exact this
    · have := hs l 4 hl (by omega)
      rw [q 4 (by decide), show 22 + 34 * l + 4 = 26 + 34 * l by omega] at this
      exact this
    · have := hs l 5 hl (by omega)
      rw [q 5 (by decide), show 22 + 34 * l + 5 = 27 + 34 * l by omega] at this
      exact this
    · have := hs l (6 + j) hl (by omega)
      rw [q _ (by omega), show 22 + 34 * l + (6 + j) = 28 + 34 * l + j by omega, ← Nat.add_assoc] at this
      exact this
theorem Sl_ru {f Q : Nat → Int} {b : Nat} (hs : Sl f b Q) {l c p q : Nat} (hc : c < 30) (hp : p = b + 30 * l + c) (hq : q = qO l c) (v : Int) : Sl (ru f p v) b (ru Q q v) := by
  rw [Sl_u] at hs ⊢
  subst hp
  subst hq
  intro m d hm hd
  by_cases e : m = l ∧ d = c
  · rw [e.1, e.2, ru_s, ru_s]
  · have ml := l30 m l
    rw [ru_d _ _ (by omega), ru_d _ _ (qO_ne hd hc e)]
    exact hs m d hm hd
theorem qO_4 (l : Nat) : qO l 4 = 26 + 34 * l := by unfold qO; rw [if_neg (by decide)]; omega
theorem qO_5 (l : Nat) : qO l 5 = 27 + 34 * l := by unfold qO; rw [if_neg (by decide)]; omega
theorem qO_r {l r : Nat} (h : r < 4) : qO l r = 18 + 34 * l + r := if_pos h
theorem qO_c {l c j : Nat} (h : c = 6 + j) : qO l c = 28 + 34 * l + j := by unfold qO; rw [if_neg (by omega)]; omega
theorem ix3 {b l c : Nat} (hb : b ≤ 1320) (hl : l < 4) (hc : c < 30) : w32 ((w32 ((b : Int) + (w32 (30 * (l : Int))))) + (c : Int)) = ((b + 30 * l + c : Nat) : Int) := by
  rw [w32_id (x := 30 * (l : Int)) (by omega) (by omega), w32_id (x := (b : Int) + 30 * (l : Int)) (by omega) (by omega), w32_id (by omega) (by omega)]
  omega
theorem ix2 {l c : Nat} (hl : l < 4) (hc : c < 30) : w32 ((w32 (30 * (l : Int))) + (c : Int)) = ((0 + 30 * l + c : Nat) : Int) := by
  rw [w32_id (x := 30 * (l : Int)) (by omega) (by omega), w32_id (by omega) (by omega)]
  omega
theorem ix1 {p c : Nat} (hp : p < 10000) (hc : c < 10000) : w32 ((p : Int) + (c : Int)) = ((p + c : Nat) : Int) := by
  rw [w32_id (by omega) (by omega)]
  omega
theorem ix9 {p : Nat} (hp : p < 10000) : w32 ((p : Int) - 1) = (p : Int) - 1 := w32_id (by omega) (by omega)
section Md
variable {L n : Nat} {T P : Nat → Int} {U K : List (Nat → Int)} {h : mH}
theorem ld53 (hL : LyM L h) {p : Nat} (hp : p < 1440) : ald 10 h (53 : Int).toNat (p : Int) = some (h.2 53 p) := by
  rw [t53, r_53 hL (by omega) (by omega), tn]
theorem st53 (hL : LyM L h) {p : Nat} (hp : p < 1440) (v : Int) : ast h (53 : Int).toNat (p : Int) v = some (mrow h 53 (ru (h.2 53) p v)) := by
  rw [t53, w_53 hL (by omega) (by omega), tn, mw_r]
theorem Sta_st {Q : Nat → Int} (hv : Val P) (s : St P Q) (hs : Sta P h) : Sta Q h := by
  obtain ⟨a1, a2, a3, a4⟩ := hs
  have v1 := hv.1
  have v2 := hv.2.1
  refine ⟨by rw [St_S s]; exact a1, by rw [St_L s]; exact a2, fun t ht => ?_, fun l hl => ?_⟩
  · rw [St_S s] at ht
    obtain ⟨b1, b2⟩ := a3 t ht
    have := (hv.2.2.2.1 t ht).1
    rw [St_Fn s (by omega)]
    exact ⟨b1, fun f hf => by rw [St_Ft s (by omega) (by omega)]; exact b2 f hf⟩
  · rw [St_L s] at hl
    obtain ⟨b1, b2⟩ := a4 l hl
    have := hv.2.2.1 l (by omega)
    rw [St_H s (by omega)]
    exact ⟨b1, fun i hi => by rw [St_T s (by omega) (by omega)]; exact b2 i hi⟩
theorem MI_now (hm : MI L n T P U K h) (hv : Val P) {Q g : Nat → Int} (s : St P Q) (h0 : Sl g 0 Q) (ho : ∀ j, 120 ≤ j → j < 1320 → g j = h.2 53 j) : MI L n T Q U K (mrow h 53 g) ∧ MFm h (mrow h 53 g) := by
  obtain ⟨hL, ⟨t1, t2, t3, t4⟩, hS, -, ⟨u1, u2, u3⟩, k1, k2, k3⟩ := hm
  have o43 : (mrow h 53 g).2 43 = h.2 43 := mrow_o _ _ (by decide)
  refine ⟨⟨LyM_row hL (fun j => rfl), ⟨by rw [o43]; exact t1, t2, by rw [mrow_o _ _ (by decide)]; exact t3, t4⟩, Sta_st hv s (Sta_c (by rw [o43]) (by rw [o43]) (fun a ha => mrow_o _ _ (by omega)) hS), by rw [mrow_s]; exact h0, ⟨by rw [o43]; exact u1, u2, fun i Q hq => ?_⟩, by rw [o43]; exact k1, k2, fun i Q hq => ?_⟩, rfl, fun a ha => mrow_o _ _ (by omega)⟩
  · have hi := (List.getElem?_eq_some_iff.mp hq).1
    rw [mrow_s]
    exact Sl_eq (fun j h1 h2 => ho j (by omega) (by omega)) (u3 i Q hq)
  · have hi := (List.getElem?_eq_some_iff.mp hq).1
    rw [mrow_s]
    exact Sl_eq (fun j h1 h2 => ho j (by omega) (by omega)) (k3 i Q hq)
def wrI (f : Nat → Int) (p : Nat) (c x y z : Int) : Nat → Int := ru (ru (ru (ru f p c) (p + 1) x) (p + 2) y) (p + 3) z
theorem Sl_wr {f Q : Nat → Int} {b l k : Nat} (hs : Sl f b Q) (hk : k < 6) (c x y z : Int) : Sl (wrI f (b + 30 * l + 6 + 4 * k) c x y z) b (insS Q l k c x y z) := by
  unfold wrI insS
  exact Sl_ru (Sl_ru (Sl_ru (Sl_ru hs (l := l) (c := 6 + 4 * k) (by omega) (by omega) (qO_c rfl).symm c) (l := l) (c := 6 + (4 * k + 1)) (by omega) (by omega) (by rw [qO_c rfl]; omega) x) (l := l) (c := 6 + (4 * k + 2)) (by omega) (by omega) (by rw [qO_c rfl]; omega) y) (l := l) (c := 6 + (4 * k + 3)) (by omega) (by omega) (by rw [qO_c rfl]; omega) z
theorem wrI_o {f : Nat → Int} {p j : Nat} (c x y z : Int) (hj : j < p ∨ p + 4 ≤ j) : wrI f p c x y z j = f j := by
  unfold wrI
  rw [ru_d _ _ (by omega), ru_d _ _ (by omega), ru_d _ _ (by omega), ru_d _ _ (by omega)]
theorem m_writes (hL : LyM L h) {b l k : Nat} (hb : b ≤ 1320) (hl : l < 4) (hk : k < 6) (c x y z : Int) : F_Md_writes 43 (b : Int) (l : Int) (k : Int) c x y z h = some (mrow h 53 (wrI (h.2 53) (b + 30 * l + 6 + 4 * k) c x y z)) := by
  have L1 : ∀ g, LyM L (mrow h 53 g) := fun g => LyM_row hL (fun j => rfl)
  have q0 : b + 30 * l + 6 + 4 * k < 1440 := by omega
  have q1 : b + 30 * l + 6 + 4 * k + 1 < 1440 := by omega
  have q2 : b + 30 * l + 6 + 4 * k + 2 < 1440 := by omega
  have q3 : b + 30 * l + 6 + 4 * k + 3 < 1440 := by omega
  have e1 : w32 (((b + 30 * l + 6 + 4 * k : Nat) : Int) + 1) = ((b + 30 * l + 6 + 4 * k + 1 : Nat) : Int) := ix1 (c := 1) (by omega) (by omega)
  have e2 : w32 (((b + 30 * l + 6 + 4 * k : Nat) : Int) + 2) = ((b + 30 * l + 6 + 4 * k + 2 : Nat) : Int) := ix1 (c := 2) (by clear e1; omega) (by decide)
  have e3 : w32 (((b + 30 * l + 6 + 4 * k : Nat) : Int) + 3) = ((b + 30 * l + 6 + 4 * k + 3 : Nat) : Int) := ix1 (c := 3) (by clear e1 e2; omega) (by decide)
  have hs := m_spot hb hl (Nat.le_of_lt hk) h
  rw [q_Md_writes _ _ _ _ _ _ _ _ _ (o_43 hL), hs, Option.bind_some]
  dsimp only
  rw [p_43_14 hL, Option.bind_some, st53 hL q0, Option.bind_some, p_43_14 (L1 _), Option.bind_some, e1, st53 (L1 _) q1, Option.bind_some, mrow_s, mrow_m, p_43_14 (L1 _), Option.bind_some, e2, st53 (L1 _) q2, Option.bind_some, mrow_s, mrow_m, p_43_14 (L1 _), Option.bind_some, e3, st53 (L1 _) q3, Option.bind_some, mrow_s, mrow_m]
  rfl
end Md
