/-! the class's Machine: the beginning, a run -/
def fstT (x w : Int) : Int := if 2 ≤ x then (if 6 ≤ x then w32 (w32 (10000 + x) - 6) else w32 (w32 (20000 + x) - 2)) else w
def begS (P : Nat → Int) (w : Int) : mSt := (fun r => fstT (pW P 0 r) w, (skF P 0 0).map (fun x => fstT x w), fun j => fstT (pFt P (j / 3) (j % 3)) w, fun t => (t : Int), 4, 0, 0)
theorem fstT_l {x w : Int} (h0 : 6 ≤ x) (h1 : x < 10) : fstT x w = 10000 + (x - 6) := by unfold fstT; rw [if_pos (by omega), if_pos h0]; unfold w32; omega
theorem fstT_t {x w : Int} (h0 : 2 ≤ x) (h1 : x < 6) : fstT x w = 20000 + (x - 2) := by unfold fstT; rw [if_pos h0, if_neg (by omega)]; unfold w32; omega
theorem fstT_w {x w : Int} (h1 : x < 2) : fstT x w = w := by unfold fstT; rw [if_neg (by omega)]
theorem fstT_v {P : Nat → Int} (hV : Val P) {x w : Int} (hx : tyOk P x) (hw : 0 ≤ w ∧ w < 100) : vv P 4 (fstT x w) := by
  have h4L := hV.2.1
  have h4S := hV.1
  rcases hx with z | z | z
  · rw [fstT_w z.2]; exact Or.inl ⟨hw.1, by omega⟩
  · rw [fstT_t z.1 z.2.1]; exact Or.inr (Or.inr ⟨(x - 2).toNat, by omega, Or.inl (by omega)⟩)
  · rw [fstT_l z.1 (by omega)]; exact Or.inr (Or.inl ⟨(x - 6).toNat, by omega, by omega⟩)
theorem VM_beg {P : Nat → Int} (hV : Val P) {w : Int} (hw : 0 ≤ w ∧ w < 100) : VM P (begS P w) := by
  have h4L := hV.2.1
  have h4S := hV.1
  obtain ⟨a1, a2, a3, a4, a5, a6⟩ := hV.2.2.2.2 0 (by omega)
  refine ⟨by show 4 ≤ 4 ∧ 4 ≤ 12; decide, ⟨by show ((0 : Nat) : Int) < pL P; omega, by show ((0 : Nat) : Int) ≤ pK P 0; omega⟩, fun r hr => fstT_v hV (a1 r hr) hw, ⟨?_, fun v hv => ?_⟩, fun t ht => ?_⟩
  · show ((skF P 0 0).map (fun x => fstT x w)).length ≤ 16
    rw [List.length_map, skF_len]; omega
  · have hv' : v ∈ (skF P 0 0).map (fun x => fstT x w) := hv
    obtain ⟨x, hx, rfl⟩ := List.mem_map.mp hv'
    unfold skF at hx
    obtain ⟨i, hi, rfl⟩ := List.mem_map.mp hx
    have := List.mem_range'_1.mp hi
    exact fstT_v hV (a3 i (by omega)) hw
  · have ht' : (t : Int) < pS P ∨ (4 ≤ t ∧ t < 4) := ht
    have htS : (t : Int) < pS P := by omega
    refine ⟨by show 0 ≤ (t : Int) ∧ (t : Int) < pS P; omega, fun f hf => Or.inr ?_⟩
    have hf' : (f : Int) < pFn P (t : Int).toNat := hf
    rw [tn] at hf'
    obtain ⟨b1, b2⟩ := hV.2.2.2.1 t htS
    show vv P 4 (fstT (pFt P ((3 * t + f) / 3) ((3 * t + f) % 3)) w)
    rw [show (3 * t + f) / 3 = t by omega, show (3 * t + f) % 3 = f by omega]
    have := b2 f hf'
    by_cases q : pFt P t f < 2
    · rw [fstT_w q]; exact Or.inl ⟨hw.1, by omega⟩
    · rw [fstT_t (by omega) (by omega)]; exact Or.inr (Or.inr ⟨(pFt P t f - 2).toNat, by omega, Or.inl (by omega)⟩)
section Mc
variable {L : Nat} {P : Nat → Int} {h : mH}
def MB (L : Nat) (P : Nat → Int) (h : mH) : Prop := Ly L h ∧ h.2 22 0 = 11 ∧ h.2 12 = P
theorem MB_mw (hb : MB L P h) {a j : Nat} (v : Int) (ha : (a = 25 ∨ a = 26 ∨ a = 27 ∨ a = 28) ∨ (a = 22 ∧ 5 ≤ j)) : MB L P (mw h a j v) := by
  obtain ⟨b1, b2, b3⟩ := hb
  have hp : ptr a j = none := by
    rcases ha with (e | e | e | e) | ⟨e, e'⟩ <;> subst e
    · rfl
    · rfl
    · rfl
    · rfl
    · show (if 1 = j then some (25 : Int) else if 2 = j then some 26 else if 3 = j then some 27 else if 4 = j then some 28 else none) = none
      rw [if_neg (by omega), if_neg (by omega), if_neg (by omega), if_neg (by omega)]
  refine ⟨Ly_mw b1 hp, ?_, by rw [mw_o _ _ _ (by omega)]; exact b3⟩
  by_cases e : a = 22
  · subst e; rw [mw_d _ _ (by omega)]; exact b2
  · rw [mw_o _ _ _ (fun z => e z.symm)]; exact b2
theorem MB_g (hb : MB L P h) : gfd 1 0 h 22 = some 11 ∧ PgO h 11 ∧ h.2 (11 + 1) = P := ⟨by rw [g_22 hb.1 (by decide), hb.2.1], Ly_pg hb.1 (by simp), hb.2.2⟩
theorem c_first (x w : Int) (h : mH) : F_Mc_firstThing x w h = some (fstT x w, h) := by
  rw [q_Mc_firstThing]
  unfold fstT
  split
  · split <;> rfl
  · rfl
theorem c_mf16 (hb : MB L P h) (w : Int) {t f : Nat} (ht : t < 4) (hf : f < 3) : B_Mc_makeFirstTuples_16 22 w (t : Int) (f : Int) h = B_Mc_makeFirstTuples_16 22 w (t : Int) ((f + 1 : Nat) : Int) (mw h 28 (3 * t + f) (fstT (pFt P t f) w)) := by
  obtain ⟨g1, g2, g3⟩ := MB_g hb
  have k1 : ¬ 3 ≤ (f : Int) := by omega
  have k2 : (0 : Int) ≤ ((3 * t + f : Nat) : Int) := by omega
  have k3 : ((3 * t + f : Nat) : Int) < 36 := by omega
  have e := w32_3 (t := t) (f := f) (by omega) (by omega)
  rw [q_Mc_makeFirstTuples_16, if_neg k1, p_22_4 hb.1, Option.bind_some, g1, Option.bind_some, t11, c_fieldType g2 ht hf, Option.bind_some, g3]
  dsimp only
  rw [c_first, Option.bind_some]
  dsimp only
  rw [t28, e, w_28 hb.1 k2 k3, Option.bind_some, tn, w32_nn f (Nat.lt_of_lt_of_le hf (by decide))]
def MT (P : Nat → Int) (w : Int) (t : Nat) (h : mH) : Prop := ∀ u : Nat, u < t → h.2 27 u = (u : Int) ∧ ∀ f : Nat, f < 3 → h.2 28 (3 * u + f) = fstT (pFt P u f) w
/-- rows 22 (from its sixth cell on), 25 to 28 alone are changed -/
def MX (h h' : mH) : Prop := h'.1 = h.1 ∧ ∀ a, a ∉ [22, 25, 26, 27, 28] → h'.2 a = h.2 a
theorem MX_rf (h : mH) : MX h h := ⟨rfl, fun _ _ => rfl⟩
theorem MX_tr {h h1 h2 : mH} (a : MX h h1) (b : MX h1 h2) : MX h h2 := ⟨b.1.trans a.1, fun k hk => (b.2 k hk).trans (a.2 k hk)⟩
theorem MX_mw (h : mH) {a j : Nat} (v : Int) (ha : a ∈ [22, 25, 26, 27, 28]) : MX h (mw h a j v) := ⟨rfl, fun k hk => mw_o h j v (fun q => hk (q ▸ ha))⟩
theorem c_mf2 (w : Int) : ∀ (n t : Nat) (o : Option mV) (h : mH), t + n = 4 → MB L P h → MT P w t h → ∃ h', B_Mc_makeFirstTuples_2 22 w (t : Int) o h = some h' ∧ MB L P h' ∧ MT P w 4 h' ∧ MX h h' ∧ h'.2 22 6 = 4
  | 0, t, o, h, e, hb, hi => by
    have : t = 4 := by omega
    subst this
    refine ⟨mw h 22 6 4, ?_, MB_mw hb _ (Or.inr ⟨rfl, by decide⟩), fun u hu => ?_, MX_mw h _ (by simp), mw_s _ _ _ _⟩
    · rw [q_Mc_makeFirstTuples_2, if_pos (by decide), f_22 hb.1 (by decide), Option.bind_some]
    · rw [mw_o _ _ _ (by decide), mw_o _ _ _ (by decide)]; exact hi u hu
  | n + 1, t, o, h, e, hb, hi => by
    have ht : t < 4 := by omega
    have k1 : ¬ 4 ≤ (t : Int) := by omega
    have k2 : (0 : Int) ≤ (t : Int) := by omega
    have k3 : (t : Int) < 12 := by omega
    have kt : t < 1000 := by omega
    have hn : t + 1 + n = 4 := by omega
    have b1 := MB_mw hb (a := 27) (j := t) (t : Int) (by simp)
    have b2 := MB_mw b1 (a := 28) (j := 3 * t + 0) (fstT (pFt P t 0) w) (by simp)
    have b3 := MB_mw b2 (a := 28) (j := 3 * t + 1) (fstT (pFt P t 1) w) (by simp)
    have b4 := MB_mw b3 (a := 28) (j := 3 * t + 2) (fstT (pFt P t 2) w) (by simp)
    have hi4 : MT P w (t + 1) (mw (mw (mw (mw h 27 t (t : Int)) 28 (3 * t + 0) (fstT (pFt P t 0) w)) 28 (3 * t + 1) (fstT (pFt P t 1) w)) 28 (3 * t + 2) (fstT (pFt P t 2) w)) := by
      intro u hu
      refine ⟨?_, fun f hf => ?_⟩
      · rw [mw_o _ _ _ (by decide), mw_o _ _ _ (by decide), mw_o _ _ _ (by decide)]
        by_cases q : u = t
        · rw [q, mw_s]
        · rw [mw_d _ _ q]; exact (hi u (by omega)).1
      · by_cases q : u = t
        · subst q
          have : f = 0 ∨ f = 1 ∨ f = 2 := by omega
          rcases this with z | z | z <;> subst z
          · rw [mw_d _ _ (by omega), mw_d _ _ (by omega), mw_s]
          · rw [mw_d _ _ (by omega), mw_s]
          · rw [mw_s]
        · rw [mw_d _ _ (by omega), mw_d _ _ (by omega), mw_d _ _ (by omega), mw_o _ _ _ (by decide)]
          exact (hi u (by omega)).2 f hf
    obtain ⟨h', z1, z2, z3, z4, z5⟩ := c_mf2 w n (t + 1) (some (.inl 3)) _ hn b4 hi4
    refine ⟨h', ?_, z2, z3, MX_tr (MX_mw h _ (by simp)) (MX_tr (MX_mw _ _ (by simp)) (MX_tr (MX_mw _ _ (by simp)) (MX_tr (MX_mw _ _ (by simp)) z4))), z5⟩
    have s1 := c_mf16 b1 w ht (f := 0) (by decide)
    have s2 := c_mf16 b2 w ht (f := 1) (by decide)
    have s3 := c_mf16 b3 w ht (f := 2) (by decide)
    rw [q_Mc_makeFirstTuples_2, if_neg k1, p_22_3 hb.1, Option.bind_some, t27, w_27 hb.1 k2 k3, Option.bind_some, tn]
    refine s1.trans (s2.trans (s3.trans ?_))
    rw [q_Mc_makeFirstTuples_16, if_pos (by decide), w32_nn t kt]
    exact z1
theorem c_bg16 (hb : MB L P h) (w : Int) {r : Nat} (hr : r < 4) : B_Mc_begin_16 22 11 w (r : Int) h = B_Mc_begin_16 22 11 w ((r + 1 : Nat) : Int) (mw h 25 r (fstT (pW P 0 r) w)) := by
  obtain ⟨g1, g2, g3⟩ := MB_g hb
  have t25 : (25 : Int).toNat = 25 := rfl
  have k1 : ¬ 4 ≤ (r : Int) := by omega
  have k2 : (0 : Int) ≤ (r : Int) := by omega
  have k3 : (r : Int) < 4 := by omega
  have hw := c_wanted g2 (l := 0) (r := r) (by decide) hr
  rw [show ((0 : Nat) : Int) = 0 from rfl, g3] at hw
  rw [q_Mc_begin_16, if_neg k1, p_22_1 hb.1, Option.bind_some, g1, Option.bind_some, t11, hw, Option.bind_some]
  dsimp only
  rw [c_first, Option.bind_some]
  dsimp only
  rw [t25, w_25 hb.1 k2 k3, Option.bind_some, tn, w32_nn r (Nat.lt_of_lt_of_le hr (by decide))]
theorem c_push0 (hb : MB L P h) {m : Nat} (hm : m < 16) (h5 : h.2 22 5 = (m : Int)) (v : Int) : F_Mc_push 22 v h = some (1, mw (mw h 26 m v) 22 5 ((m + 1 : Nat) : Int)) := by
  have t26 : (26 : Int).toNat = 26 := rfl
  have k0 : ¬ (m : Int) < 0 := by omega
  have k1 : (m : Int) < 16 := by omega
  have k9 : (0 : Int) ≤ (m : Int) := by omega
  have L1 : Ly L (mw h 26 m v) := Ly_mw hb.1 rfl
  rw [q_Mc_push _ _ _ (o_22 hb.1), g_22 hb.1 (by decide), Option.bind_some, h5, if_neg k0, Option.bind_some, if_pos k1, p_22_2 hb.1, Option.bind_some, Option.bind_some, t26, w_26 hb.1 k9 k1, Option.bind_some, tn, g_22 L1 (by decide), Option.bind_some, mw_o _ _ _ (by decide), h5, w32_nn m (Nat.lt_of_lt_of_le hm (by decide)), f_22 L1 (by decide), Option.bind_some]
/-- all but block, place, steps and how -/
def ME (P : Nat → Int) (w : Int) (k : Nat) (h : mH) : Prop := MT P w 4 h ∧ h.2 22 6 = 4 ∧ (∀ r, r < 4 → h.2 25 r = fstT (pW P 0 r) w) ∧ h.2 22 5 = (k : Int) ∧ ∀ j, j < k → h.2 26 j = fstT (pT P 0 ((pH P 0).toNat - 1 - j)) w
theorem c_bg62 (hV : Val P) (w : Int) : ∀ (n k : Nat) (h : mH), k + n = (pH P 0).toNat → MB L P h → ME P w k h → ∃ h', B_Mc_begin_62 22 11 w ((n : Int) - 1) h = some h' ∧ MR L P (begS P w) h' ∧ MX h h' ∧ h'.2 22 9 = 0 ∧ h'.2 22 10 = 0
  | 0, k, h, e, hb, hm => by
    obtain ⟨m1, m2, m3, m4, m5⟩ := hm
    have hk : k = (pH P 0).toNat := by omega
    have hH := hV.2.2.1 0 (by decide)
    have b1 := MB_mw hb (a := 22) (j := 7) 0 (Or.inr ⟨rfl, by decide⟩)
    have b2 := MB_mw b1 (a := 22) (j := 8) 0 (Or.inr ⟨rfl, by decide⟩)
    have b3 := MB_mw b2 (a := 22) (j := 9) 0 (Or.inr ⟨rfl, by decide⟩)
    have b4 := MB_mw b3 (a := 22) (j := 10) 0 (Or.inr ⟨rfl, by decide⟩)
    have o : ∀ a, a ≠ 22 → (mw (mw (mw (mw h 22 7 0) 22 8 0) 22 9 0) 22 10 0).2 a = h.2 a := fun a ha => by rw [mw_o _ _ _ ha, mw_o _ _ _ ha, mw_o _ _ _ ha, mw_o _ _ _ ha]
    have o2 : ∀ j, j < 7 → (mw (mw (mw (mw h 22 7 0) 22 8 0) 22 9 0) 22 10 0).2 22 j = h.2 22 j := fun j hj => by rw [mw_d _ _ (by omega), mw_d _ _ (by omega), mw_d _ _ (by omega), mw_d _ _ (by omega)]
    refine ⟨mw (mw (mw (mw h 22 7 0) 22 8 0) 22 9 0) 22 10 0, ?_, ⟨b4.1, ⟨b4.2.1, b4.2.2⟩, fun r hr => ?_, ⟨?_, ?_, fun i hi => ?_⟩, fun j hj => ?_, fun t ht => ?_, ?_, ?_, ?_⟩, MX_tr (MX_mw h _ (by simp)) (MX_tr (MX_mw _ _ (by simp)) (MX_tr (MX_mw _ _ (by simp)) (MX_mw _ _ (by simp)))), ?_, mw_s _ _ _ _⟩
    · rw [q_Mc_begin_62, if_pos (by decide), q_Mc_goTo _ _ _ (o_22 hb.1), f_22 hb.1 (by decide), Option.bind_some, f_22 b1.1 (by decide), Option.bind_some, Option.bind_some, f_22 b2.1 (by decide), Option.bind_some, f_22 b3.1 (by decide), Option.bind_some]
    · rw [o 25 (by decide)]; exact m3 r hr
    · rw [o2 5 (by decide), m4]
      show (k : Int) = (((skF P 0 0).map (fun x => fstT x w)).length : Int)
      rw [List.length_map, skF_len, hk]; rfl
    · show ((skF P 0 0).map (fun x => fstT x w)).length ≤ 16
      rw [List.length_map, skF_len]; omega
    · have hi' : i < ((skF P 0 0).map (fun x => fstT x w)).length := hi
      rw [List.length_map, skF_len] at hi'
      show (mw (mw (mw (mw h 22 7 0) 22 8 0) 22 9 0) 22 10 0).2 26 (((skF P 0 0).map (fun x => fstT x w)).length - 1 - i) = ((skF P 0 0).map (fun x => fstT x w)).getD i 0
      rw [o 26 (by decide), List.length_map, skF_len, m5 _ (by omega)]
      have : ((skF P 0 0).map (fun x => fstT x w)).getD i 0 = fstT (pT P 0 i) w := by
        unfold skF
        rw [List.map_map, List.getD_eq_getElem?_getD, List.getElem?_map, List.getElem?_range' (by omega)]
        simp
      rw [this]
      congr 2
      omega
    · have hj' : j < 12 := hj
      rw [o 28 (by decide)]
      have := (m1 (j / 3) (by omega)).2 (j % 3) (by omega)
      rw [show 3 * (j / 3) + j % 3 = j by omega] at this
      exact this
    · have ht' : t < 4 := ht
      rw [o 27 (by decide)]; exact (m1 t ht').1
    · rw [o2 6 (by decide), m2]; rfl
    · rw [mw_d _ _ (by decide), mw_d _ _ (by decide), mw_d _ _ (by decide), mw_s]; rfl
    · rw [mw_d _ _ (by decide), mw_d _ _ (by decide), mw_s]; rfl
    · rw [mw_d _ _ (by decide), mw_s]
  | n + 1, k, h, e, hb, hm => by
    obtain ⟨m1, m2, m3, m4, m5⟩ := hm
    have hH := hV.2.2.1 0 (by decide)
    obtain ⟨g1, g2, g3⟩ := MB_g hb
    have hk : k < 16 := by omega
    have hn4 : n < 4 := by omega
    have e1 : ((n + 1 : Nat) : Int) - 1 = (n : Int) := by omega
    have kn : ¬ (n : Int) < 0 := by omega
    have hkn : k + 1 + n = (pH P 0).toNat := by omega
    have hidx : (pH P 0).toNat - 1 - k = n := by omega
    have k6 : -2147483648 ≤ (n : Int) + (-1) := by omega
    have k7 : (n : Int) + (-1) < 2147483648 := by omega
    have e3 : (n : Int) + (-1) = (n : Int) - 1 := by omega
    have b1 := MB_mw hb (a := 26) (j := k) (fstT (pT P 0 n) w) (by simp)
    have b2 := MB_mw b1 (a := 22) (j := 5) ((k + 1 : Nat) : Int) (Or.inr ⟨rfl, by decide⟩)
    have hm2 : ME P w (k + 1) (mw (mw h 26 k (fstT (pT P 0 n) w)) 22 5 ((k + 1 : Nat) : Int)) := by
      refine ⟨fun u hu => by rw [mw_o _ _ _ (by decide), mw_o _ _ _ (by decide), mw_o _ _ _ (by decide), mw_o _ _ _ (by decide)]; exact m1 u hu, by rw [mw_d _ _ (by decide), mw_o _ _ _ (by decide)]; exact m2, by rw [mw_o _ _ _ (by decide), mw_o _ _ _ (by decide)]; exact m3, mw_s _ _ _ _, fun j hj => ?_⟩
      rw [mw_o _ _ _ (by decide)]
      by_cases q : j = k
      · rw [q, mw_s, hidx]
      · rw [mw_d _ _ q]; exact m5 j (by omega)
    obtain ⟨h', z1, z2, z3, z4, z5⟩ := c_bg62 hV w n (k + 1) _ hkn b2 hm2
    refine ⟨h', ?_, z2, MX_tr (MX_mw h _ (by simp)) (MX_tr (MX_mw _ _ (by simp)) z3), z4, z5⟩
    have hw := c_wantedFromTop g2 (l := 0) (i := n) (by decide) hn4
    rw [show ((0 : Nat) : Int) = 0 from rfl, g3] at hw
    rw [e1, q_Mc_begin_62, if_neg kn, g1, Option.bind_some, t11, hw, Option.bind_some]
    dsimp only
    rw [c_first, Option.bind_some]
    dsimp only
    rw [c_push0 hb hk m4, Option.bind_some, w32_id k6 k7, e3]
    exact z1
/-- Machine.begin -/
theorem c_mbegin (hL : Ly L h) (hP : h.2 12 = P) (hV : Val P) (w : Int) : ∃ h', F_Mc_begin 22 11 w h = some h' ∧ MR L P (begS P w) h' ∧ MX h h' ∧ h'.2 22 9 = 0 ∧ h'.2 22 10 = 0 := by
  have hH := hV.2.2.1 0 (by decide)
  have hb : MB L P (mw h 22 0 ((11 : Nat) : Int)) := ⟨Ly_mw hL rfl, mw_s _ _ _ _, by rw [mw_o _ _ _ (by decide)]; exact hP⟩
  obtain ⟨h1, a1, a2, a3, a4, a5⟩ := c_mf2 w 4 0 none _ rfl hb (fun u hu => by omega)
  have b1 := MB_mw a2 (a := 25) (j := 0) (fstT (pW P 0 0) w) (by simp)
  have b2 := MB_mw b1 (a := 25) (j := 1) (fstT (pW P 0 1) w) (by simp)
  have b3 := MB_mw b2 (a := 25) (j := 2) (fstT (pW P 0 2) w) (by simp)
  have b4 := MB_mw b3 (a := 25) (j := 3) (fstT (pW P 0 3) w) (by simp)
  have b5 := MB_mw b4 (a := 22) (j := 5) 0 (Or.inr ⟨rfl, by decide⟩)
  have hm : ME P w 0 (mw (mw (mw (mw (mw h1 25 0 (fstT (pW P 0 0) w)) 25 1 (fstT (pW P 0 1) w)) 25 2 (fstT (pW P 0 2) w)) 25 3 (fstT (pW P 0 3) w)) 22 5 0) := by
    refine ⟨fun u hu => ?_, ?_, fun r hr => ?_, mw_s _ _ _ _, fun j hj => by omega⟩
    · rw [mw_o _ _ _ (by decide), mw_o _ _ _ (by decide), mw_o _ _ _ (by decide), mw_o _ _ _ (by decide), mw_o _ _ _ (by decide), mw_o _ _ _ (by decide), mw_o _ _ _ (by decide), mw_o _ _ _ (by decide), mw_o _ _ _ (by decide), mw_o _ _ _ (by decide)]
      exact a3 u hu
    · rw [mw_d _ _ (by decide), mw_o _ _ _ (by decide), mw_o _ _ _ (by decide), mw_o _ _ _ (by decide), mw_o _ _ _ (by decide)]; exact a5
    · rw [mw_o _ _ _ (by decide)]
      have : r = 0 ∨ r = 1 ∨ r = 2 ∨ r = 3 := by omega
      rcases this with z | z | z | z <;> subst z
      · rw [mw_d _ _ (by decide), mw_d _ _ (by decide), mw_d _ _ (by decide), mw_s]
      · rw [mw_d _ _ (by decide), mw_d _ _ (by decide), mw_s]
      · rw [mw_d _ _ (by decide), mw_s]
      · rw [mw_s]
  obtain ⟨h', z1, z2, z3, z4, z5⟩ := c_bg62 hV w (pH P 0).toNat 0 _ (by omega) b5 hm
  refine ⟨h', ?_, z2, MX_tr (MX_mw h _ (by simp)) (MX_tr a4 (MX_tr (MX_mw _ _ (by simp)) (MX_tr (MX_mw _ _ (by simp)) (MX_tr (MX_mw _ _ (by simp)) (MX_tr (MX_mw _ _ (by simp)) (MX_tr (MX_mw _ _ (by simp)) z3)))))), z4, z5⟩
  have s0 := c_bg16 a2 w (r := 0) (by decide)
  have s1 := c_bg16 b1 w (r := 1) (by decide)
  have s2 := c_bg16 b2 w (r := 2) (by decide)
  have s3 := c_bg16 b3 w (r := 3) (by decide)
  obtain ⟨g1, g2, g3⟩ := MB_g b5
  have hwh := c_wantedHeight g2 (l := 0) (by decide)
  rw [show ((0 : Nat) : Int) = 0 from rfl, g3] at hwh
  have eH : pH P 0 = (((pH P 0).toNat : Nat) : Int) := by omega
  have k6 : -2147483648 ≤ pH P 0 - 1 := by omega
  have k7 : pH P 0 - 1 < 2147483648 := by omega
  rw [show ((0 : Nat) : Int) = 0 from rfl] at a1
  rw [q_Mc_begin _ _ _ _ (o_22 hL), if_neg (by decide), f_22 hL (by decide), Option.bind_some, q_Mc_begin_9, q_Mc_makeFirstTuples _ _ _ (o_22 hb.1), a1, Option.bind_some]
  refine s0.trans (s1.trans (s2.trans (s3.trans ?_)))
  rw [q_Mc_begin_16, if_pos (by decide), f_22 b4.1 (by decide), Option.bind_some, g1, Option.bind_some, t11, hwh, Option.bind_some]
  dsimp only
  rw [w32_id k6 k7, eH]
  exact z1
end Mc
