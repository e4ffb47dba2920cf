/-! the methods of Checker: reading -/
def allF (A : Nat → Prop) (r n : Nat) : Prop := ∀ k, r ≤ k → k < n → A k
theorem allF_e {A : Nat → Prop} {r n : Nat} (h : n ≤ r) : allF A r n := fun k h1 h2 => absurd h2 (by omega)
theorem allF_s {A : Nat → Prop} {r n : Nat} (h : r < n) : allF A r n ↔ A r ∧ allF A (r + 1) n := by
  constructor
  · intro q
    exact ⟨q r (Nat.le_refl r) h, fun k h1 h2 => q k (by omega) h2⟩
  · rintro ⟨q1, q2⟩ k h1 h2
    by_cases e : k = r
    · rw [e]; exact q1
    · exact q2 k (by omega) h2
theorem allF_0 {A : Nat → Prop} {n : Nat} : allF A 0 n ↔ ∀ k, k < n → A k := ⟨fun q k h => q k (Nat.zero_le k) h, fun q k _ h => q k h⟩
def CkP (L : Nat) (h : mH) (P : Nat → Int) : Prop := Ly L h ∧ ∃ pa : Nat, (pa = 11 ∨ pa = 13) ∧ h.2 15 0 = (pa : Int) ∧ h.2 (pa + 1) = P
def CkT (h : mH) (P : Nat → Int) : Prop := (∀ p q : Nat, p < 4 → q < 4 → h.2 21 (4 * p + q) = b2i (flat P q p)) ∧ ∀ t : Nat, t < 4 → h.2 20 t = allS P t
def CkR (h : mH) (rg : Nat → Int) (sk : List Int) (op : Int) : Prop := (∀ r : Nat, r < 4 → h.2 18 r = rg r) ∧ h.2 15 7 = sk.length ∧ sk.length ≤ 6 ∧ (∀ i : Nat, i < sk.length → h.2 19 (sk.length - 1 - i) = sk.getD i 0) ∧ h.2 15 5 = op
theorem ck_prog {L : Nat} {h : mH} {P : Nat → Int} (hc : CkP L h P) : ∃ pa : Nat, gfd 0 0 h 15 = some (pa : Int) ∧ PgO h pa ∧ h.2 (pa + 1) = P := by
  obtain ⟨hL, pa, h1, h2, h3⟩ := hc
  exact ⟨pa, by rw [g_15 hL (by decide), h2], Ly_pg hL (by omega), h3⟩
section Ck
variable {L : Nat} {h : mH} {P rg : Nat → Int} {sk : List Int} {op : Int}
theorem c_plain (x y : Int) (h : mH) : F_Ck_isPlainlyEnough x y h = some (b2i (pln x y), h) := by
  rw [q_Ck_isPlainlyEnough, q_Ck_isPlainlyEnough_9]
  by_cases h1 : y = 0
  · rw [if_pos h1, b2i_t (p := pln x y) (Or.inl h1)]
  · rw [if_neg h1]
    by_cases h2 : x ≠ y
    · rw [if_pos h2, b2i_f (p := pln x y) (fun q => q.elim h1 h2)]
    · rw [if_neg h2, b2i_t (p := pln x y) (Or.inr (Decidable.not_not.mp h2))]
theorem c_hsuf (k b w wb : Int) (h : mH) : F_Ck_heightSuffices k b w wb h = some (b2i (hsuf k b w wb), h) := by
  rw [q_Ck_heightSuffices]
  unfold hsuf
  by_cases h1 : wb ≠ 1
  · rw [if_pos h1]
    by_cases h2 : k ≠ w
    · rw [if_pos h2, b2i_f (by omega)]
    · rw [if_neg h2]
      by_cases h3 : b ≠ 0
      · rw [if_pos h3, b2i_f (by omega)]
      · rw [if_neg h3, b2i_t (by omega)]
  · rw [if_neg h1]
    by_cases h2 : k < w
    · rw [if_pos h2, b2i_f (by omega)]
    · rw [if_neg h2, b2i_t (by omega)]
theorem c_isCode (x : Int) (h : mH) : F_Ck_isCode x h = some (b2i (codeT x), h) := by
  rw [q_Ck_isCode]
  unfold codeT
  by_cases h1 : x < 6
  · rw [if_pos h1, b2i_f (by omega)]
  · rw [if_neg h1]
    by_cases h2 : 10 ≤ x
    · rw [if_pos h2, b2i_f (by omega)]
    · rw [if_neg h2, b2i_t (by omega)]
theorem c_ws88 (hc : CkP L h P) {q p : Nat} (hq : q < 4) (hp : p < 4) {W : Nat} (hW : W ≤ 3) : ∀ (n i : Nat), i + n = W → B_Ck_wantsSuffice_88 15 (q : Int) (p : Int) (W : Int) (i : Int) h = some (b2i (allF (fun i => pln (pT P q i) (pT P p i)) i W), h)
  | 0, i, e => by
    rw [q_Ck_wantsSuffice_88, if_pos (by omega), b2i_t (allF_e (by omega))]
  | n + 1, i, e => by
    obtain ⟨pa, g1, g2, g3⟩ := ck_prog hc
    rw [q_Ck_wantsSuffice_88, if_neg (by omega), g1, Option.bind_some, tn, c_wantedFromTop g2 hq (by omega), Option.bind_some]
    dsimp only
    rw [g1, Option.bind_some, tn, c_wantedFromTop g2 hp (by omega), Option.bind_some]
    dsimp only
    rw [c_plain, Option.bind_some, g3]
    dsimp only
    rw [b2i_c (allF_s (by omega : i < W))]
    by_cases hpl : pln (pT P q i) (pT P p i)
    · have e1 : w32 ((i : Int) + 1) = ((i + 1 : Nat) : Int) := by unfold w32; omega
      rw [if_pos (b2i_ne.mpr hpl), e1, c_ws88 hc hq hp hW n (i + 1) (by omega)]
      rw [b2i_c (p := allF (fun i => pln (pT P q i) (pT P p i)) (i + 1) W)]
      exact ⟨fun z => ⟨hpl, z⟩, fun z => z.2⟩
    · rw [if_neg (fun z => hpl (b2i_ne.mp z)), b2i_f (fun z => hpl z.1)]
theorem c_ws45 (hc : CkP L h P) {q p : Nat} (hq : q < 4) (hp : p < 4) (W : Int) : ∀ (n r : Nat), r + n = 4 → B_Ck_wantsSuffice_45 15 (q : Int) (p : Int) W (r : Int) h = iteP (allF (fun r => pln (pW P q r) (pW P p r)) r 4) (B_Ck_wantsSuffice_88 15 (q : Int) (p : Int) W 0 h) (some (0, h))
  | 0, r, e => by
    rw [q_Ck_wantsSuffice_45, if_pos (by omega), iteP_t (allF_e (by omega))]
  | n + 1, r, e => by
    obtain ⟨pa, g1, g2, g3⟩ := ck_prog hc
    rw [q_Ck_wantsSuffice_45, if_neg (by omega), g1, Option.bind_some, tn, c_wanted g2 hq (by omega), Option.bind_some]
    dsimp only
    rw [g1, Option.bind_some, tn, c_wanted g2 hp (by omega), Option.bind_some]
    dsimp only
    rw [c_plain, Option.bind_some, g3]
    dsimp only
    by_cases hpl : pln (pW P q r) (pW P p r)
    · have e1 : w32 ((r : Int) + 1) = ((r + 1 : Nat) : Int) := by unfold w32; omega
      rw [if_pos (b2i_ne.mpr hpl), e1, c_ws45 hc hq hp W n (r + 1) (by omega)]
      exact iteP_c ⟨fun z => (allF_s (by omega)).mpr ⟨hpl, z⟩, fun z => ((allF_s (by omega)).mp z).2⟩ _ _
    · rw [if_neg (fun z => hpl (b2i_ne.mp z)), iteP_f (fun z => hpl ((allF_s (by omega)).mp z).1)]
theorem c_wantsSuffice (hc : CkP L h P) (hv : Val P) {q p : Nat} (hq : q < 4) (hp : p < 4) : F_Ck_wantsSuffice 15 (q : Int) (p : Int) h = some (b2i (flat P q p), h) := by
  obtain ⟨pa, g1, g2, g3⟩ := ck_prog hc
  have hb := hv.2.2.1 p hp
  rw [q_Ck_wantsSuffice _ _ _ _ (o_15 hc.1), g1, Option.bind_some, tn, c_wantedHeight g2 hp, Option.bind_some]
  dsimp only
  rw [g1, Option.bind_some, tn, c_wantedHeight g2 hq, Option.bind_some]
  dsimp only
  rw [g1, Option.bind_some, tn, c_openBelow g2 hq, Option.bind_some]
  dsimp only
  rw [g1, Option.bind_some, tn, c_openBelow g2 hp, Option.bind_some]
  dsimp only
  rw [c_hsuf, Option.bind_some, g3]
  dsimp only
  by_cases h1 : hsuf (pH P q) (pO P q) (pH P p) (pO P p)
  · obtain ⟨W, eW⟩ : ∃ W : Nat, pH P p = W := ⟨(pH P p).toNat, by omega⟩
    have z := c_ws45 hc hq hp (pH P p) 4 0 rfl
    rw [show ((0 : Nat) : Int) = 0 from rfl] at z
    rw [if_pos (b2i_ne.mpr h1), z]
    have y := c_ws88 hc hq hp (W := W) (by omega) W 0 (by omega)
    rw [show ((0 : Nat) : Int) = 0 from rfl] at y
    by_cases h2 : allF (fun r => pln (pW P q r) (pW P p r)) 0 4
    · rw [iteP_t h2, eW, y]
      rw [b2i_c (q := flat P q p)]
      unfold flat
      rw [eW]
      constructor
      · intro z
        exact ⟨by rw [eW] at h1; exact h1, allF_0.mp h2, fun i hi => z i (Nat.zero_le i) (by omega)⟩
      · intro z k _ hk
        exact z.2.2 k (by omega)
    · rw [iteP_f h2, b2i_f (fun z => h2 (allF_0.mpr z.2.1))]
  · rw [if_neg (fun z => h1 (b2i_ne.mp z)), b2i_f (fun z => h1 z.1)]
/-- code types that there are -/
theorem c_isEnough (hc : CkP L h P) (ht : CkT h P) {x y : Int} (hx : x < 1000) (hx0 : -1000 < x) (hy : y < 1000) (hy0 : -1000 < y) : F_Ck_isEnough 15 x y h = some (b2i (enough P x y), h) := by
  rw [q_Ck_isEnough _ _ _ _ (o_15 hc.1), c_plain, Option.bind_some]
  dsimp only
  by_cases h1 : pln x y
  · rw [if_neg (b2i_ne.mpr h1), b2i_t (p := enough P x y) (Or.inl h1)]
  · rw [if_pos (b2i_0.mpr h1), c_isCode, Option.bind_some]
    dsimp only
    by_cases h2 : codeT x
    · rw [if_neg (b2i_ne.mpr h2), c_isCode, Option.bind_some]
      dsimp only
      by_cases h3 : codeT y
      · have e : w32 ((w32 ((w32 ((w32 (x - 6)) * 4)) + y)) - 6) = (x - 6) * 4 + (y - 6) := by unfold w32; omega
        have e2 : ((x - 6) * 4 + (y - 6)).toNat = 4 * (x - 6).toNat + (y - 6).toNat := by unfold codeT at h2 h3; omega
        rw [if_pos (b2i_ne.mpr h3), e, if_neg (by unfold codeT at h2 h3; omega), p_15_4 hc.1, Option.bind_some]
        have t21 : (21 : Int).toNat = 21 := rfl
        rw [t21, n_21 hc.1, Option.bind_some, if_neg (by unfold codeT at h2 h3; omega), Option.bind_some, t21, r_21 hc.1 (by unfold codeT at h2 h3; omega) (by unfold codeT at h2 h3; omega), Option.bind_some, e2, ht.1 _ _ (by unfold codeT at h2; omega) (by unfold codeT at h3; omega)]
        by_cases h4 : flat P (y - 6).toNat (x - 6).toNat
        · rw [if_neg (b2i_ne.mpr h4), b2i_t (p := enough P x y) (Or.inr ⟨h2, h3, h4⟩)]
        · rw [if_pos (b2i_0.mpr h4), b2i_f (p := enough P x y) (fun z => z.elim h1 (fun z => h4 z.2.2))]
      · rw [if_neg (fun z => h3 (b2i_ne.mp z)), b2i_f (p := enough P x y) (fun z => z.elim h1 (fun z => h3 z.2.1))]
    · rw [if_pos (b2i_0.mpr h2), b2i_f (p := enough P x y) (fun z => z.elim h1 (fun z => h2 z.1))]
theorem c_register (hL : Ly L h) {r : Nat} (hr : r < 4) : F_Ck_register 15 (r : Int) h = some (h.2 18 r, h) := by
  rw [q_Ck_register _ _ _ (o_15 hL), if_neg (by omega), if_neg (by omega), p_15_1 hL, Option.bind_some]
  have t : (18 : Int).toNat = 18 := rfl
  rw [t, r_18 hL (by omega) (by omega), Option.bind_some, tn]
theorem c_setRegister (hL : Ly L h) {r : Nat} (hr : r < 4) (v : Int) : F_Ck_setRegister 15 (r : Int) v h = some (mw h 18 r v) := by
  rw [q_Ck_setRegister _ _ _ _ (o_15 hL), if_neg (by omega), if_neg (by omega), p_15_1 hL, Option.bind_some]
  have t : (18 : Int).toNat = 18 := rfl
  rw [t, w_18 hL (by omega) (by omega), Option.bind_some, tn]
theorem c_fromTop (hL : Ly L h) (hr : CkR h rg sk op) {i : Nat} (hi : i < sk.length) : F_Ck_fromTop 15 (i : Int) h = some (sk.getD i 0, h) := by
  obtain ⟨r1, r2, r3, r4, r5⟩ := hr
  rw [q_Ck_fromTop _ _ _ (o_15 hL), g_15 hL (by decide), Option.bind_some, r2]
  have e : w32 ((w32 ((sk.length : Int) - 1)) - (i : Int)) = ((sk.length - 1 - i : Nat) : Int) := by unfold w32; omega
  rw [e, if_neg (by omega), if_neg (by omega), p_15_2 hL, Option.bind_some]
  have t : (19 : Int).toNat = 19 := rfl
  rw [t, r_19 hL (by omega) (by omega), Option.bind_some, tn, r4 i hi]
end Ck
