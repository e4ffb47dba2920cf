/-! the methods of Checker: a step -/
/-- what a check leaves alone -/
def CkF (h h' : mH) : Prop := h'.1 = h.1 ∧ (∀ a, a ≠ 15 → a ≠ 18 → a ≠ 19 → h'.2 a = h.2 a) ∧ ∀ j, j < 5 → h'.2 15 j = h.2 15 j
theorem CkF_rf (h : mH) : CkF h h := ⟨rfl, fun _ _ _ _ => rfl, fun _ _ => rfl⟩
theorem CkF_tr {h h1 h2 : mH} (a : CkF h h1) (b : CkF h1 h2) : CkF h h2 := ⟨b.1.trans a.1, fun k h1 h2 h3 => (b.2.1 k h1 h2 h3).trans (a.2.1 k h1 h2 h3), fun j hj => (b.2.2 j hj).trans (a.2.2 j hj)⟩
theorem CkF_18 (h : mH) (j : Nat) (v : Int) : CkF h (mw h 18 j v) := ⟨rfl, fun a _ h2 _ => mw_o h j v h2, fun k _ => by rw [mw_o h j v (by decide)]⟩
theorem CkF_19 (h : mH) (j : Nat) (v : Int) : CkF h (mw h 19 j v) := ⟨rfl, fun a _ _ h3 => mw_o h j v h3, fun k _ => by rw [mw_o h j v (by decide)]⟩
theorem CkF_15 (h : mH) {j : Nat} (v : Int) (hj : 5 ≤ j) : CkF h (mw h 15 j v) := ⟨rfl, fun a h1 _ _ => mw_o h j v h1, fun k hk => mw_d h v (by omega)⟩
theorem CkF_Ly {L : Nat} {h h' : mH} (f : CkF h h') (hL : Ly L h) : Ly L h' := by
  refine ⟨by rw [f.1]; exact hL.1, fun a j v e => ?_⟩
  by_cases h1 : a = 15
  · subst h1
    have hj : j < 5 := by
      have := lkp_mem e
      simp only [List.mem_cons, List.not_mem_nil, Prod.mk.injEq, or_false] at this
      omega
    rw [f.2.2 j hj]
    exact hL.2 15 j v e
  · by_cases h2 : a = 18
    · subst h2; cases e
    · by_cases h3 : a = 19
      · subst h3; cases e
      · rw [f.2.1 a h1 h2 h3]
        exact hL.2 a j v e
theorem CkF_P {L : Nat} {h h' : mH} {P : Nat → Int} (f : CkF h h') (hc : CkP L h P) : CkP L h' P := by
  obtain ⟨hL, pa, h1, h2, h3⟩ := hc
  exact ⟨CkF_Ly f hL, pa, h1, by rw [f.2.2 0 (by decide)]; exact h2, by rw [f.2.1 _ (by omega) (by omega) (by omega)]; exact h3⟩
theorem CkF_T {h h' : mH} {P : Nat → Int} (f : CkF h h') (ht : CkT h P) : CkT h' P := by
  refine ⟨fun p q hp hq => ?_, fun t h1 => ?_⟩
  · rw [f.2.1 21 (by decide) (by decide) (by decide)]; exact ht.1 p q hp hq
  · rw [f.2.1 20 (by decide) (by decide) (by decide)]; exact ht.2 t h1
section Ck
variable {L : Nat} {h : mH} {P rg : Nat → Int} {sk : List Int} {op : Int}
theorem CkR_reg {x : Nat} (v : Int) (hr : CkR h rg sk op) : CkR (mw h 18 x v) (ru rg x v) sk op := by
  obtain ⟨r1, r2, r3, r4, r5⟩ := hr
  refine ⟨fun r h4 => ?_, by rw [mw_o h x v (by decide)]; exact r2, r3, fun i hi => by rw [mw_o h x v (by decide)]; exact r4 i hi, by rw [mw_o h x v (by decide)]; exact r5⟩
  rw [mw_at]
  unfold ru
  split
  · rfl
  · exact r1 r h4
theorem CkR_push (v : Int) (hr : CkR h rg sk op) (h6 : sk.length < 6) : CkR (mw (mw h 19 sk.length v) 15 7 ((sk.length + 1 : Nat) : Int)) rg (v :: sk) op := by
  obtain ⟨r1, r2, r3, r4, r5⟩ := hr
  refine ⟨fun r h4 => ?_, ?_, by simp; omega, fun i hi => ?_, ?_⟩
  · rw [mw_o _ _ _ (by decide), mw_o _ _ _ (by decide)]; exact r1 r h4
  · rw [mw_s]; simp
  · rw [mw_o _ _ _ (by decide), mw_at]
    match i with
    | 0 => simp
    | i + 1 =>
      simp only [List.length_cons] at hi ⊢
      rw [if_neg (by omega)]
      have e : sk.length + 1 - 1 - (i + 1) = sk.length - 1 - i := by omega
      rw [e, r4 i (by omega)]
      simp
  · rw [mw_d _ _ (by decide), mw_o _ _ _ (by decide)]; exact r5
theorem CkR_pop {v : Int} {r : List Int} (hr : CkR h rg (v :: r) op) : CkR (mw h 15 7 (r.length : Int)) rg r op := by
  obtain ⟨r1, r2, r3, r4, r5⟩ := hr
  simp only [List.length_cons] at r3 r4
  refine ⟨fun q h4 => ?_, ?_, by omega, fun i hi => ?_, ?_⟩
  · rw [mw_o _ _ _ (by decide)]; exact r1 q h4
  · rw [mw_s]
  · rw [mw_o _ _ _ (by decide)]
    have := r4 (i + 1) (by omega)
    have e : r.length + 1 - 1 - (i + 1) = r.length - 1 - i := by omega
    rw [e] at this
    rw [this]
    simp
  · rw [mw_d _ _ (by decide)]; exact r5
theorem CkR_oth {j : Nat} (v : Int) (hj : j ≠ 5) (hj2 : j ≠ 7) (hr : CkR h rg sk op) : CkR (mw h 15 j v) rg sk op := by
  obtain ⟨r1, r2, r3, r4, r5⟩ := hr
  refine ⟨fun q h4 => ?_, ?_, r3, fun i hi => ?_, ?_⟩
  · rw [mw_o _ _ _ (by decide)]; exact r1 q h4
  · rw [mw_d _ _ (Ne.symm hj2)]; exact r2
  · rw [mw_o _ _ _ (by decide)]; exact r4 i hi
  · rw [mw_d _ _ (Ne.symm hj)]; exact r5
theorem tyV_b {x : Int} (hv : Val P) (h : tyV P x) : 0 ≤ x ∧ x < 50 := by
  have h1 := hv.1
  have h2 := hv.2.1
  rcases h with h | ⟨t, s, rfl, h3, h4⟩
  · unfold tyOk at h
    omega
  · omega
theorem tyOk_b {x : Int} (hv : Val P) (h : tyOk P x) : 0 ≤ x ∧ x < 10 := by
  have h1 := hv.1
  have h2 := hv.2.1
  unfold tyOk at h
  omega
theorem c_jump75 (hc : CkP L h P) (ht : CkT h P) (hv : Val P) (hr : CkR h rg sk op) (hsv : ∀ v ∈ sk, tyV P v) {l : Nat} (hl : (l : Int) < pL P) {W : Nat} (hW : pH P l = W) (hk : W ≤ sk.length) : ∀ (n i : Nat), i + n = W → B_Ck_jump_75 15 (l : Int) (W : Int) (i : Int) h = some (iteP (allF (fun i => enough P (sk.getD i 0) (pT P l i)) i W) 0 7, h)
  | 0, i, e => by
    rw [q_Ck_jump_75, if_pos (by omega), iteP_t (allF_e (by omega))]
  | n + 1, i, e => by
    obtain ⟨pa, g1, g2, g3⟩ := ck_prog hc
    have hl4 : l < 4 := by have := hv.2.1; omega
    have hb := hv.2.2.1 l hl4
    have hi : i < sk.length := by omega
    have b1 := tyV_b hv (hsv (sk.getD i 0) (by rw [List.getD_eq_getElem?_getD, List.getElem?_eq_getElem hi]; exact List.getElem_mem hi))
    have b2 := tyOk_b hv ((hv.2.2.2.2 l hl).2.2.1 i (by omega))
    rw [q_Ck_jump_75, if_neg (by omega), c_fromTop hc.1 hr hi, Option.bind_some]
    dsimp only
    rw [g1, Option.bind_some, tn, c_wantedFromTop g2 hl4 (by omega), Option.bind_some, g3]
    dsimp only
    rw [c_isEnough hc ht (by omega) (by omega) (by omega) (by omega), Option.bind_some]
    dsimp only
    by_cases hpl : enough P (sk.getD i 0) (pT P l i)
    · have e1 : w32 ((i : Int) + 1) = ((i + 1 : Nat) : Int) := by unfold w32; omega
      rw [if_pos (b2i_ne.mpr hpl), e1, c_jump75 hc ht hv hr hsv hl hW hk n (i + 1) (by omega)]
      rw [iteP_c ⟨fun z => (allF_s (by omega)).mpr ⟨hpl, z⟩, fun z => ((allF_s (by omega)).mp z).2⟩]
    · rw [if_neg (fun z => hpl (b2i_ne.mp z)), iteP_f (fun z => hpl ((allF_s (by omega)).mp z).1)]
theorem c_jump2 (hc : CkP L h P) (ht : CkT h P) (hv : Val P) (hr : CkR h rg sk op) (hrv : ∀ r, r < 4 → tyV P (rg r)) (hsv : ∀ v ∈ sk, tyV P v) {l : Nat} (hl : (l : Int) < pL P) : ∀ (n r : Nat), r + n = 4 → B_Ck_jump_2 15 (l : Int) (r : Int) h = some (iteP (allF (fun r => enough P (rg r) (pW P l r)) r 4) (iteP (hsuf sk.length op (pH P l) (pO P l) ∧ ∀ i : Nat, (i : Int) < pH P l → enough P (sk.getD i 0) (pT P l i)) 0 7) 6, h)
  | 0, r, e => by
    obtain ⟨pa, g1, g2, g3⟩ := ck_prog hc
    have hl4 : l < 4 := by have := hv.2.1; omega
    have hb := hv.2.2.1 l hl4
    obtain ⟨r1, r2, r3, r4, r5⟩ := id hr
    obtain ⟨W, eW⟩ : ∃ W : Nat, pH P l = W := ⟨(pH P l).toNat, by omega⟩
    rw [q_Ck_jump_2, if_pos (by omega), iteP_t (allF_e (by omega)), g1, Option.bind_some, tn, c_wantedHeight g2 hl4, Option.bind_some]
    dsimp only
    rw [g_15 hc.1 (by decide), Option.bind_some, g_15 hc.1 (by decide), Option.bind_some, g1, Option.bind_some, tn, c_openBelow g2 hl4, Option.bind_some, g3, r2, r5]
    dsimp only
    rw [c_hsuf, Option.bind_some]
    dsimp only
    by_cases h1 : hsuf sk.length op (pH P l) (pO P l)
    · have hk : W ≤ sk.length := by unfold hsuf at h1; omega
      have z := c_jump75 hc ht hv hr hsv hl eW hk W 0 (by omega)
      rw [show ((0 : Nat) : Int) = 0 from rfl] at z
      rw [if_pos (b2i_ne.mpr h1), eW, z]
      rw [iteP_c (q := hsuf sk.length op (W : Int) (pO P l) ∧ ∀ i : Nat, (i : Int) < (W : Int) → enough P (sk.getD i 0) (pT P l i))]
      constructor
      · intro q
        exact ⟨by rw [eW] at h1; exact h1, fun i hi => q i (Nat.zero_le i) (by omega)⟩
      · intro q k _ hk2
        exact q.2 k (by omega)
    · rw [if_neg (fun z => h1 (b2i_ne.mp z)), iteP_f (fun z => h1 z.1)]
  | n + 1, r, e => by
    obtain ⟨pa, g1, g2, g3⟩ := ck_prog hc
    have hl4 : l < 4 := by have := hv.2.1; omega
    have b1 := tyV_b hv (hrv r (by omega))
    have b2 := tyOk_b hv ((hv.2.2.2.2 l hl).1 r (by omega))
    have t : (18 : Int).toNat = 18 := rfl
    rw [q_Ck_jump_2, if_neg (by omega), p_15_1 hc.1, Option.bind_some, t, r_18 hc.1 (by omega) (by omega), Option.bind_some, tn, hr.1 r (by omega), g1, Option.bind_some, tn, c_wanted g2 hl4 (by omega), Option.bind_some, g3]
    dsimp only
    rw [c_isEnough hc ht (by omega) (by omega) (by omega) (by omega), Option.bind_some]
    dsimp only
    by_cases hpl : enough P (rg r) (pW P l r)
    · have e1 : w32 ((r : Int) + 1) = ((r + 1 : Nat) : Int) := by unfold w32; omega
      rw [if_pos (b2i_ne.mpr hpl), e1, c_jump2 hc ht hv hr hrv hsv hl n (r + 1) (by omega)]
      rw [iteP_c (p := allF (fun r => enough P (rg r) (pW P l r)) r 4) ⟨fun z => ((allF_s (by omega)).mp z).2, fun z => (allF_s (by omega)).mpr ⟨hpl, z⟩⟩]
    · rw [if_neg (fun z => hpl (b2i_ne.mp z)), iteP_f (fun z => hpl ((allF_s (by omega)).mp z).1)]
theorem c_jump (hc : CkP L h P) (ht : CkT h P) (hv : Val P) (hr : CkR h rg sk op) (hrv : ∀ r, r < 4 → tyV P (rg r)) (hsv : ∀ v ∈ sk, tyV P v) {l : Nat} (hl : (l : Int) < pL P) : F_Ck_jump 15 (l : Int) h = some (jumpS P rg sk op l, h) := by
  have z := c_jump2 hc ht hv hr hrv hsv hl 4 0 rfl
  rw [show ((0 : Nat) : Int) = 0 from rfl] at z
  rw [q_Ck_jump _ _ _ (o_15 hc.1), z]
  unfold jumpS
  rw [iteP_c allF_0]
theorem c_isTuple (x : Int) (h : mH) : F_Ck_isTuple x h = some (b2i (tupT x), h) := by
  rw [q_Ck_isTuple, q_Ck_isTuple_11, q_Ck_isTuple_17]
  unfold tupT
  by_cases h1 : x < 2
  · rw [if_pos h1, if_pos (by omega), b2i_f (by omega)]
  · rw [if_neg h1]
    by_cases h2 : x < 6
    · rw [if_pos h2, b2i_t (by omega)]
    · rw [if_neg h2]
      by_cases h3 : x < 10
      · rw [if_pos h3, b2i_f (by omega)]
      · rw [if_neg h3, b2i_t (by omega)]
theorem c_sortOf {x : Int} (h0 : 0 ≤ x) (h1 : x < 50) (h : mH) : F_Ck_sortOf x h = some (sortS x, h) := by
  rw [q_Ck_sortOf]
  unfold sortS
  by_cases h2 : 10 ≤ x
  · have e : w32 (x - 10) = x - 10 := by unfold w32; omega
    have e2 : w32 (Int.tdiv (x - 10) 8) = Int.tdiv (x - 10) 8 := by
      rw [Int.tdiv_eq_ediv_of_nonneg (by omega)]
      unfold w32
      omega
    rw [if_pos h2, e, e2, if_neg (by omega)]
  · have e : w32 (x - 2) = x - 2 := by unfold w32; omega
    rw [if_neg h2, e, if_pos (by omega)]
/-- the sort of a tuple is one that there is -/
theorem sortS_lt {x : Int} (hv : Val P) (h : tyV P x) (ht : tupT x) : ∃ t : Nat, sortS x = t ∧ (t : Int) < pS P ∧ t < 4 := by
  have h1 := hv.1
  have h2 := hv.2.1
  unfold sortS
  rcases h with h | ⟨t, s, rfl, h3, h4⟩
  · unfold tyOk at h
    unfold tupT at ht
    refine ⟨(x - 2).toNat, ?_, by omega, by omega⟩
    rw [if_pos (by omega)]
    omega
  · refine ⟨t, ?_, h3, by omega⟩
    rw [if_neg (by omega), Int.tdiv_eq_ediv_of_nonneg (by omega)]
    omega
theorem c_fieldsOf (hc : CkP L h P) (ht : CkT h P) {t : Nat} (h4 : t < 4) : F_Ck_fieldsOf 15 (t : Int) h = some (allS P t, h) := by
  have z : (20 : Int).toNat = 20 := rfl
  rw [q_Ck_fieldsOf _ _ _ (o_15 hc.1), if_neg (by omega), if_neg (by omega), p_15_3 hc.1, Option.bind_some, z, r_20 hc.1 (by omega) (by omega), Option.bind_some, tn, ht.2 t h4]
theorem c_fieldsSet (hc : CkP L h P) (ht : CkT h P) (hv : Val P) {x : Int} (hx : tyV P x) (hu : tupT x) : F_Ck_fieldsSet 15 x h = some (setS P x, h) := by
  have b := tyV_b hv hx
  have h1 := hv.1
  rw [q_Ck_fieldsSet _ _ _ (o_15 hc.1)]
  unfold setS
  by_cases h2 : 10 ≤ x
  · have e : w32 (x - 10) = x - 10 := by unfold w32; omega
    rw [if_pos h2, e, if_neg (by omega)]
  · have e : w32 (x - 2) = (((x - 2).toNat : Nat) : Int) := by unfold tupT at hu; unfold w32; omega
    rw [if_neg h2, e, c_fieldsOf hc ht (by unfold tupT at hu; omega), Option.bind_some, if_pos (by omega)]
theorem c_tuple (hc : CkP L h P) (ht : CkT h P) {t : Nat} (h4 : t < 4) {s : Int} (s0 : 0 ≤ s) (s1 : s < 8) : F_Ck_tuple 15 (t : Int) s h = some (tupS P t s, h) := by
  rw [q_Ck_tuple _ _ _ _ (o_15 hc.1), c_fieldsOf hc ht h4, Option.bind_some]
  dsimp only
  unfold tupS
  by_cases h1 : s ≠ allS P t
  · have e : w32 ((w32 (10 + (w32 ((t : Int) * 8)))) + s) = 10 + 8 * t + s := by unfold w32; omega
    rw [if_pos h1, e, if_neg h1]
  · have e : w32 (2 + (t : Int)) = 2 + t := by unfold w32; omega
    rw [if_neg h1, e, if_pos (Decidable.not_not.mp h1)]
theorem bit8 : ∀ s : Fin 8, ∀ f : Fin 3, 0 ≤ ior (s.val : Int) (ishl 1 (f.val : Int)) ∧ ior (s.val : Int) (ishl 1 (f.val : Int)) < 8 := by decide +kernel
theorem all8 : ∀ n : Fin 4, 0 ≤ w32 (ishl 1 (n.val : Int) - 1) ∧ w32 (ishl 1 (n.val : Int) - 1) < 8 := by decide +kernel
theorem setS_b (hv : Val P) {x : Int} (hx : tyV P x) (hu : tupT x) : 0 ≤ setS P x ∧ setS P x < 8 := by
  unfold setS
  have h1 := hv.1
  have h2 := hv.2.1
  rcases hx with h | ⟨t, s, rfl, h3, h4⟩
  · unfold tyOk at h
    unfold tupT at hu
    rw [if_pos (by omega)]
    unfold allS
    have b := (hv.2.2.2.1 (x - 2).toNat (by omega)).1
    have := all8 ⟨(pFn P (x - 2).toNat).toNat, by omega⟩
    simp only [Int.toNat_of_nonneg (by omega : 0 ≤ pFn P (x - 2).toNat)] at this
    exact this
  · rw [if_neg (by omega), Int.tmod_eq_emod_of_nonneg (by omega)]
    omega
end Ck
