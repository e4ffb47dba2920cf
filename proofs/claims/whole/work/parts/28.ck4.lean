/-! the methods of Checker: a block -/
section Val
variable {P rg : Nat → Int} {sk : List Int} {op : Int}
theorem tyV_tup (hv : Val P) {t : Nat} (ht : (t : Int) < pS P) {s : Int} (s0 : 0 ≤ s) (s1 : s < 8) : tyV P (tupS P t s) := by
  have hS := hv.1
  unfold tupS
  split
  · exact Or.inl (Or.inr (Or.inl ⟨by omega, by omega, by omega⟩))
  · exact Or.inr ⟨t, s.toNat, by omega, ht, by omega⟩
theorem ru_v {x : Nat} {v : Int} (hrv : ∀ r, r < 4 → tyV P (rg r)) (hv : tyV P v) : ∀ r, r < 4 → tyV P (ru rg x v r) := by
  intro r hr
  unfold ru
  split
  · exact hv
  · exact hrv r hr
theorem stepS_v (hv : Val P) (hrv : ∀ r, r < 4 → tyV P (rg r)) (hsv : ∀ v ∈ sk, tyV P v) {c : Int} {x y z : Nat} (hm : mayS (pS P) (pL P) c x y z) :
    (∀ r, r < 4 → tyV P ((stepS P rg sk op c x y z).2.1 r)) ∧ ∀ v ∈ (stepS P rg sk op c x y z).2.2, tyV P v := by
  have hcc : c = 0 ∨ c = 1 ∨ c = 2 ∨ c = 3 ∨ c = 4 ∨ c = 5 ∨ c = 6 ∨ c = 7 ∨ c = 8 ∨ c = 9 ∨ c = 10 ∨ c = 11 ∨ c = 12 ∨ c = 13 := by have := hm.1; omega
  have t1 : tyV P 1 := Or.inl (Or.inl ⟨by decide, by decide⟩)
  unfold stepS
  rcases hcc with rfl | rfl | rfl | rfl | rfl | rfl | rfl | rfl | rfl | rfl | rfl | rfl | rfl | rfl
  · simp [mayS, chs, oprL] at hm
    simp only [Int.reduceEq, reduceIte]
    exact ⟨ru_v hrv (hrv y (by omega)), hsv⟩
  · simp only [Int.reduceEq, reduceIte]
    exact ⟨ru_v hrv t1, hsv⟩
  · simp only [Int.reduceEq, reduceIte]
    exact ⟨hrv, hsv⟩
  · simp [mayS, chs, oprL] at hm
    simp only [Int.reduceEq, reduceIte]
    exact ⟨ru_v hrv (Or.inr ⟨y, 0, by omega, by omega, by omega⟩), hsv⟩
  · simp [mayS, chs, oprL] at hm
    simp only [Int.reduceEq, reduceIte]
    unfold putS
    by_cases h1 : tupT (rg x)
    · rw [iteP_t h1]
      obtain ⟨t, e1, e2, e3⟩ := sortS_lt hv (hrv x (by omega)) h1
      by_cases h2 : (y : Int) < pFn P (sortS (rg x)).toNat
      · rw [iteP_t h2]
        by_cases h3 : enough P (rg z) (pFt P (sortS (rg x)).toNat y)
        · rw [iteP_t h3]
          have bs := setS_b hv (hrv x (by omega)) h1
          have b8 := bit8 ⟨(setS P (rg x)).toNat, by omega⟩ ⟨y, by omega⟩
          simp only [Int.toNat_of_nonneg bs.1] at b8
          rw [e1, tn]
          exact ⟨ru_v hrv (tyV_tup hv e2 b8.1 b8.2), hsv⟩
        · rw [iteP_f h3]; exact ⟨hrv, hsv⟩
      · rw [iteP_f h2]; exact ⟨hrv, hsv⟩
    · rw [iteP_f h1]; exact ⟨hrv, hsv⟩
  · simp [mayS, chs, oprL] at hm
    simp only [Int.reduceEq, reduceIte]
    unfold getS
    by_cases h1 : tupT (rg y)
    · rw [iteP_t h1]
      obtain ⟨t, e1, e2, e3⟩ := sortS_lt hv (hrv y (by omega)) h1
      by_cases h2 : (z : Int) < pFn P (sortS (rg y)).toNat ∧ iand (ishr (setS P (rg y)) z) 1 ≠ 0
      · rw [iteP_t h2]
        rw [e1, tn] at h2 ⊢
        have b := (hv.2.2.2.1 t e2).2 z h2.1
        refine ⟨ru_v hrv (Or.inl ?_), hsv⟩
        have hS := hv.1
        unfold tyOk
        omega
      · rw [iteP_f h2]; exact ⟨hrv, hsv⟩
    · rw [iteP_f h1]; exact ⟨hrv, hsv⟩
  · simp [mayS, chs, oprL] at hm
    simp only [Int.reduceEq, reduceIte]
    split
    · refine ⟨hrv, fun v hv' => ?_⟩
      rcases List.mem_cons.mp hv' with e | e
      · rw [e]; exact hrv x (by omega)
      · exact hsv v e
    · exact ⟨hrv, hsv⟩
  · simp only [Int.reduceEq, reduceIte]
    match sk, hsv with
    | [], hsv => exact ⟨hrv, hsv⟩
    | v :: r, hsv => exact ⟨ru_v hrv (hsv v List.mem_cons_self), fun w hw => hsv w (List.mem_cons_of_mem _ hw)⟩
  · simp [mayS, chs, oprL] at hm
    simp only [Int.reduceEq, reduceIte]
    exact ⟨ru_v hrv (tyV_code (by omega)), hsv⟩
  · simp only [Int.reduceEq, reduceIte]
    exact ⟨hrv, hsv⟩
  · simp only [Int.reduceEq, reduceIte]
    exact ⟨hrv, hsv⟩
  · simp [mayS, chs, oprL] at hm
    simp only [Int.reduceEq, reduceIte]
    exact ⟨ru_v hrv (tyV_code (by omega)), hsv⟩
  · simp only [Int.reduceEq, reduceIte]
    exact ⟨hrv, hsv⟩
  · simp only [Int.reduceEq, reduceIte]
    exact ⟨hrv, hsv⟩
end Val
/-- what a label wants on the stack from the i-th type on -/
def skF (P : Nat → Int) (l i : Nat) : List Int := (List.range' i ((pH P l).toNat - i)).map (pT P l)
theorem skF_s {P : Nat → Int} {l i : Nat} (h : i < (pH P l).toNat) : skF P l i = pT P l i :: skF P l (i + 1) := by
  unfold skF
  have e : (pH P l).toNat - i = ((pH P l).toNat - (i + 1)) + 1 := by omega
  rw [e, List.range'_succ]
  rfl
theorem skF_len (P : Nat → Int) (l i : Nat) : (skF P l i).length = (pH P l).toNat - i := by simp [skF]
theorem skF_e {P : Nat → Int} {l i : Nat} (h : (pH P l).toNat ≤ i) : skF P l i = [] := by
  unfold skF
  rw [Nat.sub_eq_zero_of_le h]
  rfl
theorem skF_get {P : Nat → Int} {l i : Nat} (h : i < (pH P l).toNat) : (skF P l 0).getD i 0 = pT P l i := by
  unfold skF
  rw [List.getD_eq_getElem?_getD, List.getElem?_map, List.getElem?_range' (by omega)]
  simp
theorem skF_v {P : Nat → Int} {l : Nat} (hv : Val P) (hl : (l : Int) < pL P) : ∀ v ∈ skF P l 0, tyV P v := by
  intro v hv'
  obtain ⟨i, hi, rfl⟩ := List.mem_map.mp hv'
  have := List.mem_range'.mp hi
  exact Or.inl ((hv.2.2.2.2 l hl).2.2.1 i (by omega))
section Ck
variable {L : Nat} {h : mH} {P rg : Nat → Int} {sk : List Int} {op : Int}
theorem c_begin2 {l : Nat} (hl : l < 4) : ∀ (n r : Nat) (h : mH), r + n = 4 → CkP L h P → (∀ k, k < r → h.2 18 k = pW P l k) → ∃ h', B_Ck_begin_2 15 (l : Int) (r : Int) h = B_Ck_begin_2 15 (l : Int) 4 h' ∧ CkF h h' ∧ ∀ k, k < 4 → h'.2 18 k = pW P l k
  | 0, r, h, e, hc, hk => by
    have : r = 4 := by omega
    subst this
    exact ⟨h, rfl, CkF_rf h, hk⟩
  | n + 1, r, h, e, hc, hk => by
    obtain ⟨pa, g1, g2, g3⟩ := ck_prog hc
    have t : (18 : Int).toNat = 18 := rfl
    have e1 : w32 ((r : Int) + 1) = ((r + 1 : Nat) : Int) := by unfold w32; omega
    have f := CkF_18 h r (pW P l r)
    obtain ⟨h', z1, z2, z3⟩ := c_begin2 hl n (r + 1) (mw h 18 r (pW P l r)) (by omega) (CkF_P f hc) (fun k hkr => by
      rw [mw_at]
      split
      · rename_i q; rw [q]
      · exact hk k (by omega))
    refine ⟨h', ?_, CkF_tr f z2, z3⟩
    rw [q_Ck_begin_2, if_neg (by omega), p_15_1 hc.1, Option.bind_some, g1, Option.bind_some, tn, c_wanted g2 hl (by omega), Option.bind_some, g3]
    dsimp only
    rw [t, w_18 hc.1 (by omega) (by omega), Option.bind_some, tn, e1, z1]
theorem c_begin44 (hv : Val P) {l : Nat} (hl : l < 4) : ∀ (j : Nat) (h : mH), j ≤ (pH P l).toNat → CkP L h P → CkR h rg (skF P l j) op → ∃ h', B_Ck_begin_44 15 (l : Int) ((j : Int) - 1) h = B_Ck_begin_44 15 (l : Int) (-1) h' ∧ CkF h h' ∧ CkR h' rg (skF P l 0) op
  | 0, h, e, hc, hr => ⟨h, rfl, CkF_rf h, hr⟩
  | j + 1, h, e, hc, hr => by
    obtain ⟨pa, g1, g2, g3⟩ := ck_prog hc
    have hb := hv.2.2.1 l hl
    have hlen := skF_len P l (j + 1)
    have e0 : ((j + 1 : Nat) : Int) - 1 = (j : Int) := by omega
    have e1 : w32 ((j : Int) + (-1)) = (j : Int) - 1 := by unfold w32; omega
    have h6 : (skF P l (j + 1)).length < 6 := by omega
    have f : CkF h (mw (mw h 19 (skF P l (j + 1)).length (pT P l j)) 15 7 (((skF P l (j + 1)).length + 1 : Nat) : Int)) := CkF_tr (CkF_19 h _ _) (CkF_15 _ _ (by decide))
    have r' := CkR_push (pT P l j) hr h6
    rw [← skF_s (by omega : j < (pH P l).toNat)] at r'
    obtain ⟨h', z1, z2, z3⟩ := c_begin44 hv hl j _ (by omega) (CkF_P f hc) r'
    refine ⟨h', ?_, CkF_tr f z2, z3⟩
    rw [e0, q_Ck_begin_44, if_neg (by omega), g1, Option.bind_some, tn, c_wantedFromTop g2 hl (by omega), Option.bind_some, g3]
    dsimp only
    rw [c_push hc.1 hr, if_pos h6, Option.bind_some]
    dsimp only
    rw [e1, z1]
theorem c_begin (hc : CkP L h P) (hv : Val P) {l : Nat} (hl : l < 4) : ∃ h', F_Ck_begin 15 (l : Int) h = some h' ∧ CkF h h' ∧ CkR h' (pW P l) (skF P l 0) (pO P l) ∧ h'.2 15 6 = 0 ∧ h'.2 15 8 = 0 ∧ h'.2 15 9 = 0 := by
  have hb := hv.2.2.1 l hl
  obtain ⟨h1, a1, a2, a3⟩ := c_begin2 hl 4 0 h rfl hc (fun k hk => absurd hk (by omega))
  rw [show ((0 : Nat) : Int) = 0 from rfl] at a1
  have hc1 := CkF_P a2 hc
  obtain ⟨pa, g1, g2, g3⟩ := ck_prog hc1
  have f7 := CkF_15 h1 (j := 7) 0 (by decide)
  have hc7 := CkF_P f7 hc1
  obtain ⟨pb, g4, g5, g6⟩ := ck_prog hc7
  have r7 : CkR (mw h1 15 7 0) (pW P l) (skF P l (pH P l).toNat) ((mw h1 15 7 0).2 15 5) := by
    rw [skF_e (Nat.le_refl _)]
    refine ⟨fun r hr => ?_, mw_s _ _ _ _, by simp, fun i hi => by simp at hi, rfl⟩
    rw [mw_o _ _ _ (by decide)]
    exact a3 r hr
  obtain ⟨h2, b1, b2, b3⟩ := c_begin44 hv hl (pH P l).toNat (mw h1 15 7 0) (Nat.le_refl _) hc7 r7
  have hc2 := CkF_P b2 hc7
  obtain ⟨pc, g7, g8, g9⟩ := ck_prog hc2
  have e1 : w32 (pH P l - 1) = (((pH P l).toNat : Nat) : Int) - 1 := by unfold w32; omega
  have L2 := hc2.1
  have F5 := CkF_15 h2 (j := 5) (pO P l) (by decide)
  have L5 := CkF_Ly F5 L2
  have F6 := CkF_15 (mw h2 15 5 (pO P l)) (j := 6) 0 (by decide)
  have L6 := CkF_Ly F6 L5
  have F8 := CkF_15 (mw (mw h2 15 5 (pO P l)) 15 6 0) (j := 8) 0 (by decide)
  have L8 := CkF_Ly F8 L6
  have F9 := CkF_15 (mw (mw (mw h2 15 5 (pO P l)) 15 6 0) 15 8 0) (j := 9) 0 (by decide)
  refine ⟨_, ?_, CkF_tr a2 (CkF_tr f7 (CkF_tr b2 (CkF_tr F5 (CkF_tr F6 (CkF_tr F8 F9))))), ?_, ?_, ?_, mw_s _ _ _ _⟩
  · rw [q_Ck_begin _ _ _ (o_15 hc.1), a1, q_Ck_begin_2, if_pos (by decide), f_15 hc1.1 (by decide), Option.bind_some, g4, Option.bind_some, tn, c_wantedHeight g5 hl, Option.bind_some, g6]
    dsimp only
    rw [e1, b1, q_Ck_begin_44, if_pos (by decide), g7, Option.bind_some, tn, c_openBelow g8 hl, Option.bind_some, g9]
    dsimp only
    rw [f_15 L2 (by decide), Option.bind_some]
    rw [show (bz 0).bind (fun _ => pfd 0 6 (mw h2 15 5 (pO P l)) 15 0) = pfd 0 6 (mw h2 15 5 (pO P l)) 15 0 from rfl]
    rw [f_15 L5 (by decide), Option.bind_some, f_15 L6 (by decide), Option.bind_some, f_15 L8 (by decide), Option.bind_some]
  · obtain ⟨r1, r2, r3, r4, r5⟩ := b3
    have o : ∀ k, k ≠ 15 → (mw (mw (mw (mw h2 15 5 (pO P l)) 15 6 0) 15 8 0) 15 9 0).2 k = h2.2 k := fun k hk => by rw [mw_o _ _ _ hk, mw_o _ _ _ hk, mw_o _ _ _ hk, mw_o _ _ _ hk]
    refine ⟨fun r hr => by rw [o 18 (by decide)]; exact r1 r hr, ?_, r3, fun i hi => by rw [o 19 (by decide)]; exact r4 i hi, ?_⟩
    · rw [mw_d _ _ (by decide), mw_d _ _ (by decide), mw_d _ _ (by decide), mw_d _ _ (by decide)]; exact r2
    · rw [mw_d _ _ (by decide), mw_d _ _ (by decide), mw_d _ _ (by decide), mw_s]
  · rw [mw_d _ _ (by decide), mw_d _ _ (by decide), mw_s]
  · rw [mw_d _ _ (by decide), mw_s]
end Ck
