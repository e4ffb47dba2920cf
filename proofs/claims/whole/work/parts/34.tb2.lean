/-! the class: reads and acts -/
section Tb
variable {L n : Nat} {T P : Nat → Int} {U K : List (Nat → Int)} {h : mH}
theorem t11 : (11 : Int).toNat = 11 := rfl
theorem t12 : (12 : Int).toNat = 12 := rfl
theorem t13 : (13 : Int).toNat = 13 := rfl
theorem t14 : (14 : Int).toNat = 14 := rfl
theorem t15 : (15 : Int).toNat = 15 := rfl
theorem t22 : (22 : Int).toNat = 22 := rfl
theorem t29 : (29 : Int).toNat = 29 := rfl
theorem t39 : (39 : Int).toNat = 39 := rfl
theorem n_of {x : Int} (h : 0 ≤ x) : ∃ m : Nat, x = (m : Int) := ⟨x.toNat, by omega⟩
theorem c_sort (hc : CI L n T P U K h) (hv : Val P) (t f : Int) : F_Tb_sort 6 t f h = some (sortA P t f, h) := by
  have hL := hc.1
  have hg := CI_pg hc
  have hP : h.2 (11 + 1) = P := hc.2.2.2.1
  unfold sortA
  rw [q_Tb_sort _ _ _ _ (o_6 hL), p_6_1 hL, Option.bind_some, t11, c_hasSort hg, hP, Option.bind_some]
  dsimp only
  by_cases h1 : 0 ≤ t ∧ t < pS P
  · obtain ⟨m, rfl⟩ := n_of h1.1
    have hm : m < 4 := by have := hv.1; omega
    rw [if_pos h1, if_neg (by decide), tn]
    by_cases h2 : f < -1
    · rw [if_pos h2, iteP_f (by omega)]
    · rw [if_neg h2, p_6_1 hL, Option.bind_some, t11, c_fields hg hm, Option.bind_some, hP]
      dsimp only
      by_cases h3 : f < pFn P m
      · rw [if_pos h3, iteP_t ⟨h1, by omega, h3⟩]
        by_cases h4 : f = -1
        · rw [if_neg (by omega), iteP_t h4, p_6_1 hL, Option.bind_some, t11, c_fields hg hm, Option.bind_some, hP]
        · obtain ⟨g, rfl⟩ := n_of (show 0 ≤ f by omega)
          have hf := (hv.2.2.2.1 m h1.2).1
          rw [if_pos (by omega), iteP_f h4, p_6_1 hL, Option.bind_some, t11, c_fieldType hg hm (by omega), hP, tn]
          rfl
      · rw [if_neg h3, iteP_f (fun z => h3 z.2.2)]
  · rw [if_neg h1, if_pos rfl, iteP_f (fun z => h1 z.1)]
theorem c_label (hc : CI L n T P U K h) (hv : Val P) (l w : Int) : F_Tb_label 6 l w h = some (labelA P l w, h) := by
  have hL := hc.1
  have hg := CI_pg hc
  have hP : h.2 (11 + 1) = P := hc.2.2.2.1
  unfold labelA
  rw [q_Tb_label _ _ _ _ (o_6 hL), p_6_1 hL, Option.bind_some, t11, c_hasLabel hg, hP, Option.bind_some]
  dsimp only
  by_cases h1 : 0 ≤ l ∧ l < pL P
  · obtain ⟨m, rfl⟩ := n_of h1.1
    have hm : m < 4 := by have := hv.2.1; omega
    rw [if_pos h1, if_neg (by decide), tn]
    by_cases h2 : w < 0
    · rw [if_pos h2, iteP_f (by omega)]
    · rw [if_neg h2]
      obtain ⟨g, rfl⟩ := n_of (show 0 ≤ w by omega)
      rw [tn]
      by_cases h3 : (g : Int) ≤ 9
      · have fin : B_Tb_label_50 6 (m : Int) (g : Int) h = some (P (18 + 34 * m + g), h) := by
          have e : (18 + 34 * (m : Int) + (g : Int)).toNat = 18 + 34 * m + g := by omega
          rw [q_Tb_label_50, p_6_1 hL, Option.bind_some, t11, c_labelCell hg (by omega) (by omega) (by omega) (by omega), Option.bind_some, e, hP]
        rw [if_pos h3]
        by_cases h4 : (g : Int) < 5
        · rw [if_pos h4, fin, iteP_t ⟨h1, by omega, fun z => by omega⟩]
        · rw [if_neg h4]
          by_cases h5 : 7 < (g : Int)
          · rw [if_pos h5, fin, iteP_t ⟨h1, by omega, fun _ z => by omega⟩]
          · have e5 : w32 ((g : Int) - 5) = (g : Int) - 5 := by unfold w32; omega
            rw [if_neg h5, p_6_1 hL, Option.bind_some, t11, c_wantedHeight hg hm, Option.bind_some, hP, e5]
            clear e5
            dsimp only
            by_cases h6 : (g : Int) - 5 < pH P m
            · rw [if_pos h6, fin, iteP_t ⟨h1, by omega, fun _ _ => h6⟩]
            · rw [if_neg h6, iteP_f (fun z => h6 (z.2.2 (by omega) (by omega)))]
      · rw [if_neg h3, iteP_f (by omega)]
  · rw [if_neg h1, if_pos rfl, iteP_f (fun z => h1 z.1)]
theorem c_code (hc : CI L n T P U K h) (hv : Val P) (l k w : Int) : F_Tb_code 6 l k w h = some (codeA P l k w, h) := by
  have hL := hc.1
  have hg := CI_pg hc
  have hP : h.2 (11 + 1) = P := hc.2.2.2.1
  unfold codeA
  rw [q_Tb_code _ _ _ _ _ (o_6 hL), p_6_1 hL, Option.bind_some, t11, c_hasInstruction hg (by rw [hP]; exact hv.2.1.2), hP, Option.bind_some]
  dsimp only
  by_cases h1 : hasI P l k
  · rw [b2i_t h1, if_neg (by decide)]
    obtain ⟨m, rfl⟩ := n_of h1.1.1
    obtain ⟨i, rfl⟩ := n_of h1.2.1
    have hm : m < 4 := by have := hv.2.1; omega
    have h1' := h1
    unfold hasI at h1'
    rw [tn] at h1'
    have hk := (hv.2.2.2.2 m h1.1.2).2.2.2.2.1
    have hi : i < 6 := by omega
    rw [tn, tn]
    by_cases h2 : w < 0
    · rw [if_pos h2, iteP_f (by omega)]
    · rw [if_neg h2]
      obtain ⟨g, rfl⟩ := n_of (show 0 ≤ w by omega)
      by_cases h3 : (g : Int) < 4
      · rw [if_pos h3, p_6_1 hL, Option.bind_some, t11, c_part hg hm hi (by omega), iteP_t ⟨h1, by omega, h3⟩, hP, tn]
        rfl
      · rw [if_neg h3, iteP_f (by omega)]
  · rw [b2i_f h1, if_pos rfl, iteP_f (fun z => h1 z.1)]
theorem c_below (hc : CI L n T P U K h) (hv : Val P) (l b : Int) : ∃ h', F_Tb_below 6 l b h = some ((belowA P l b).1, h') ∧ CI L n T (actN P U (belowA P l b).2).1 (actN P U (belowA P l b).2).2 K h' ∧ TF h h' := by
  have hL := hc.1
  have hg := CI_pg hc
  have hP : h.2 (11 + 1) = P := hc.2.2.2.1
  unfold belowA
  rw [q_Tb_below _ _ _ _ (o_6 hL), p_6_1 hL, Option.bind_some, t11, c_hasLabel hg, hP, Option.bind_some]
  dsimp only
  by_cases h1 : 0 ≤ l ∧ l < pL P
  · obtain ⟨m, rfl⟩ := n_of h1.1
    have hm : m < 4 := by have := hv.2.1; omega
    rw [if_pos h1, if_neg (by decide), tn]
    by_cases h2 : b < 0
    · rw [if_pos h2, iteP_f (by omega)]
      exact ⟨h, rfl, hc, TF_rf h⟩
    · rw [if_neg h2]
      by_cases h3 : b ≤ 1
      · rw [if_pos h3, iteP_t ⟨h1, by omega, h3⟩, p_6_1 hL, Option.bind_some, t11, c_openBelow hg hm, Option.bind_some, hP]
        dsimp only
        by_cases h4 : pO P m = b
        · rw [if_neg (Decidable.not_not.mpr h4), iteP_t h4]
          exact ⟨h, rfl, hc, TF_rf h⟩
        · obtain ⟨h', a1, a2, a3⟩ := CI_hold hc
          have hz : Zr (ru P (26 + 34 * m) b) := Zr_ru (by rw [← hc.2.2.2.1]; exact hc.2.1.2.1) _ (by omega)
          obtain ⟨c1, c2⟩ := CI_now a2 hz
          refine ⟨mrow h' 12 (ru P (26 + 34 * m) b), ?_, ?_, TF_tr a3 c2⟩
          · rw [if_pos h4, iteP_f h4, p_6_5 hL, Option.bind_some, p_6_1 hL, Option.bind_some, t29, t11, p_11_0 hL, Option.bind_some, t12, a1, Option.bind_some, p_6_1 a2.1, Option.bind_some, t11, c_setOpen (CI_pg a2) hm, Option.bind_some, show h'.2 (11 + 1) = P from a2.2.2.2.1]
          · rw [iteP_f h4]; exact c1
      · rw [if_neg h3, iteP_f (by omega)]
        exact ⟨h, rfl, hc, TF_rf h⟩
  · rw [if_neg h1, if_pos rfl, iteP_f (fun z => h1 z.1)]
    exact ⟨h, rfl, hc, TF_rf h⟩
theorem c_want (hc : CI L n T P U K h) (hv : Val P) (l r t : Int) (ht : t < 2147483648) : ∃ h', F_Tb_want 6 l r t h = some ((wantA P l r t).1, h') ∧ CI L n T (actN P U (wantA P l r t).2).1 (actN P U (wantA P l r t).2).2 K h' ∧ TF h h' := by
  have hL := hc.1
  have hg := CI_pg hc
  have hP : h.2 (11 + 1) = P := hc.2.2.2.1
  unfold wantA
  rw [q_Tb_want _ _ _ _ _ (o_6 hL), p_6_1 hL, Option.bind_some, t11, c_hasLabel hg, hP, Option.bind_some]
  dsimp only
  by_cases h1 : 0 ≤ l ∧ l < pL P
  · obtain ⟨m, rfl⟩ := n_of h1.1
    have hm : m < 4 := by have := hv.2.1; omega
    rw [if_pos h1, if_neg (by decide), tn]
    by_cases h2 : r < 0
    · rw [if_pos h2, iteP_f (by omega)]
      exact ⟨h, rfl, hc, TF_rf h⟩
    · rw [if_neg h2]
      obtain ⟨g, rfl⟩ := n_of (show 0 ≤ r by omega)
      by_cases h3 : 4 ≤ (g : Int)
      · rw [if_pos h3, iteP_f (by omega)]
        exact ⟨h, rfl, hc, TF_rf h⟩
      · have hr : g < 4 := by omega
        rw [if_neg h3, p_6_1 hL, Option.bind_some, t11, c_hasType hg ht (by rw [hP]; exact hv.1.2), Option.bind_some, hP, tn]
        dsimp only
        by_cases h5 : tyOk P t
        · rw [b2i_t h5, if_pos (by decide), iteP_t ⟨h1, by omega, h5⟩, p_6_1 hL, Option.bind_some, t11, c_wanted hg hm hr, Option.bind_some, hP]
          dsimp only
          by_cases h4 : pW P m g = t
          · rw [if_neg (Decidable.not_not.mpr h4), iteP_t h4]
            exact ⟨h, rfl, hc, TF_rf h⟩
          · obtain ⟨h', a1, a2, a3⟩ := CI_hold hc
            have hz : Zr (ru P (18 + 34 * m + g) t) := Zr_ru (by rw [← hc.2.2.2.1]; exact hc.2.1.2.1) _ (by omega)
            obtain ⟨c1, c2⟩ := CI_now a2 hz
            refine ⟨mrow h' 12 (ru P (18 + 34 * m + g) t), ?_, ?_, TF_tr a3 c2⟩
            · rw [if_pos h4, iteP_f h4, p_6_5 hL, Option.bind_some, p_6_1 hL, Option.bind_some, t29, t11, p_11_0 hL, Option.bind_some, t12, a1, Option.bind_some, p_6_1 a2.1, Option.bind_some, t11, c_setWanted (CI_pg a2) hm hr, Option.bind_some, show h'.2 (11 + 1) = P from a2.2.2.2.1]
            · rw [iteP_f h4]; exact c1
        · rw [b2i_f h5, if_neg (by decide), iteP_f (fun z => h5 z.2.2)]
          exact ⟨h, rfl, hc, TF_rf h⟩
  · rw [if_neg h1, if_pos rfl, iteP_f (fun z => h1 z.1)]
    exact ⟨h, rfl, hc, TF_rf h⟩
theorem c_cut (hc : CI L n T P U K h) (hv : Val P) (l k : Int) : ∃ h', F_Tb_cut 6 l k h = some ((cutA P l k).1, h') ∧ CI L n T (actN P U (cutA P l k).2).1 (actN P U (cutA P l k).2).2 K h' ∧ TF h h' := by
  have hL := hc.1
  have hg := CI_pg hc
  have hP : h.2 (11 + 1) = P := hc.2.2.2.1
  unfold cutA
  rw [q_Tb_cut _ _ _ _ (o_6 hL), p_6_1 hL, Option.bind_some, t11, c_hasInstruction hg (by rw [hP]; exact hv.2.1.2), hP, Option.bind_some]
  dsimp only
  by_cases h1 : hasI P l k
  · rw [b2i_t h1, if_pos (by decide), iteP_t h1]
    obtain ⟨m, rfl⟩ := n_of h1.1.1
    obtain ⟨i, rfl⟩ := n_of h1.2.1
    have hm : m < 4 := by have := hv.2.1; omega
    have h1' := h1
    unfold hasI at h1'
    rw [tn] at h1'
    have hk := (hv.2.2.2.2 m h1.1.2).2.2.2.2.1
    obtain ⟨s, hs⟩ := n_of hk.1
    rw [tn, tn, hs, tn]
    have hs6 : s ≤ 6 := by omega
    have his : i < s := by omega
    obtain ⟨h', a1, a2, a3⟩ := CI_hold hc
    have hz : Zr (outS P m i s) := Zr_out (by rw [← hc.2.2.2.1]; exact hc.2.1.2.1) hm hs6
    obtain ⟨c1, c2⟩ := CI_now a2 hz
    have hP' : h'.2 (11 + 1) = P := a2.2.2.2.1
    have ho := c_takeOut (CI_pg a2) hm hs6 his (by rw [hP']; exact hs)
    refine ⟨mrow h' 12 (outS P m i s), ?_, c1, TF_tr a3 c2⟩
    rw [p_6_5 hL, Option.bind_some, p_6_1 hL, Option.bind_some, t29, t11, p_11_0 hL, Option.bind_some, t12, a1, Option.bind_some, p_6_1 a2.1, Option.bind_some, t11, ho, Option.bind_some, hP', p_6_1 c1.1, Option.bind_some, t11, c_size (CI_pg c1) hm, Option.bind_some, mrow_s]
    congr 2
    unfold pK outS
    rw [ru_s]
  · rw [b2i_f h1, if_neg (by decide), iteP_f h1]
    exact ⟨h, rfl, hc, TF_rf h⟩
theorem c_put (hc : CI L n T P U K h) (hv : Val P) (l k c x y z : Int) : ∃ h', F_Tb_put 6 l k c x y z h = some ((putA P l k c x y z).1, h') ∧ CI L n T (actN P U (putA P l k c x y z).2).1 (actN P U (putA P l k c x y z).2).2 K h' ∧ TF h h' := by
  have hL := hc.1
  have hg := CI_pg hc
  have hP : h.2 (11 + 1) = P := hc.2.2.2.1
  unfold putA
  rw [q_Tb_put _ _ _ _ _ _ _ _ (o_6 hL), p_6_1 hL, Option.bind_some, t11, c_hasInstruction hg (by rw [hP]; exact hv.2.1.2), hP, Option.bind_some]
  dsimp only
  by_cases h1 : hasI P l k
  · rw [b2i_t h1, if_neg (by decide)]
    obtain ⟨m, rfl⟩ := n_of h1.1.1
    obtain ⟨i, rfl⟩ := n_of h1.2.1
    have hm : m < 4 := by have := hv.2.1; omega
    have h1' := h1
    unfold hasI at h1'
    rw [tn] at h1'
    have hk := (hv.2.2.2.2 m h1.1.2).2.2.2.2.1
    have hi : i < 6 := by omega
    rw [tn, tn, p_6_1 hL, Option.bind_some, t11, c_allows hL hg, Option.bind_some, hP]
    dsimp only
    by_cases h2 : mayS (pS P) (pL P) c x y z
    · rw [b2i_t h2, if_pos (by decide), iteP_t ⟨h1, h2⟩, p_6_1 hL, Option.bind_some, t11, c_part0 hg hm hi, Option.bind_some, hP]
      dsimp only
      have fin : ¬ (pC P m i 0 = c ∧ pC P m i 1 = x ∧ pC P m i 2 = y ∧ pC P m i 3 = z) → ∃ h', B_Tb_put_97 6 (m : Int) (i : Int) c x y z (pC P m i 0) h = some ((iteP (pC P m i 0 = c ∧ pC P m i 1 = x ∧ pC P m i 2 = y ∧ pC P m i 3 = z) (-2, none) (pC P m i 0, some (insS P m i c x y z))).1, h') ∧ CI L n T (actN P U (iteP (pC P m i 0 = c ∧ pC P m i 1 = x ∧ pC P m i 2 = y ∧ pC P m i 3 = z) (-2, none) (pC P m i 0, some (insS P m i c x y z))).2).1 (actN P U (iteP (pC P m i 0 = c ∧ pC P m i 1 = x ∧ pC P m i 2 = y ∧ pC P m i 3 = z) (-2, none) (pC P m i 0, some (insS P m i c x y z))).2).2 K h' ∧ TF h h' := fun hne => by
        rw [iteP_f hne]
        obtain ⟨h', a1, a2, a3⟩ := CI_hold hc
        have hz : Zr (insS P m i c x y z) := Zr_ins (by rw [← hc.2.2.2.1]; exact hc.2.1.2.1) hm hi _ _ _ _
        obtain ⟨c1, c2⟩ := CI_now a2 hz
        refine ⟨mrow h' 12 (insS P m i c x y z), ?_, c1, TF_tr a3 c2⟩
        rw [q_Tb_put_97, p_6_5 hL, Option.bind_some, p_6_1 hL, Option.bind_some, t29, t11, p_11_0 hL, Option.bind_some, t12, a1, Option.bind_some, p_6_1 a2.1, Option.bind_some, t11, c_setIns (CI_pg a2) hm hi, Option.bind_some, show h'.2 (11 + 1) = P from a2.2.2.2.1]
      by_cases e0 : pC P m i 0 = c
      · rw [if_neg (Decidable.not_not.mpr e0), p_6_1 hL, Option.bind_some, t11, c_part1 hg hm hi, Option.bind_some, hP]
        dsimp only
        by_cases e1 : pC P m i 1 = x
        · rw [if_neg (Decidable.not_not.mpr e1), p_6_1 hL, Option.bind_some, t11, c_part2 hg hm hi, Option.bind_some, hP]
          dsimp only
          by_cases e2 : pC P m i 2 = y
          · rw [if_neg (Decidable.not_not.mpr e2), p_6_1 hL, Option.bind_some, t11, c_part3 hg hm hi, Option.bind_some, hP]
            dsimp only
            by_cases e3 : pC P m i 3 = z
            · rw [if_neg (Decidable.not_not.mpr e3), iteP_t ⟨e0, e1, e2, e3⟩]
              exact ⟨h, rfl, hc, TF_rf h⟩
            · rw [if_pos e3]
              exact fin (fun q => e3 q.2.2.2)
          · rw [if_pos e2]
            exact fin (fun q => e2 q.2.2.1)
        · rw [if_pos e1]
          exact fin (fun q => e1 q.2.1)
      · rw [if_pos e0]
        exact fin (fun q => e0 q.1)
    · rw [b2i_f h2, if_neg (by decide), iteP_f (fun q => h2 q.2)]
      exact ⟨h, rfl, hc, TF_rf h⟩
  · rw [b2i_f h1, if_pos rfl, iteP_f (fun q => h1 q.1)]
    exact ⟨h, rfl, hc, TF_rf h⟩
theorem c_add (hc : CI L n T P U K h) (hv : Val P) (l k c x y z : Int) : ∃ h', F_Tb_add 6 l k c x y z h = some ((addA P l k c x y z).1, h') ∧ CI L n T (actN P U (addA P l k c x y z).2).1 (actN P U (addA P l k c x y z).2).2 K h' ∧ TF h h' := by
  have hL := hc.1
  have hg := CI_pg hc
  have hP : h.2 (11 + 1) = P := hc.2.2.2.1
  unfold addA
  rw [q_Tb_add _ _ _ _ _ _ _ _ (o_6 hL), p_6_1 hL, Option.bind_some, t11, c_hasLabel hg, hP, Option.bind_some]
  dsimp only
  by_cases h1 : 0 ≤ l ∧ l < pL P
  · rw [if_pos h1, if_neg (by decide)]
    obtain ⟨m, rfl⟩ := n_of h1.1
    have hm : m < 4 := by have := hv.2.1; omega
    have hk := (hv.2.2.2.2 m h1.2).2.2.2.2.1
    obtain ⟨s, hs⟩ := n_of hk.1
    rw [tn]
    by_cases h2 : k < 0
    · rw [if_pos h2, iteP_f (by omega)]
      exact ⟨h, rfl, hc, TF_rf h⟩
    · obtain ⟨i, rfl⟩ := n_of (show 0 ≤ k by omega)
      rw [if_neg h2, p_6_1 hL, Option.bind_some, t11, c_size hg hm, Option.bind_some, hP, hs]
      dsimp only
      by_cases h3 : (s : Int) < (i : Int)
      · rw [if_pos h3, iteP_f (by omega)]
        exact ⟨h, rfl, hc, TF_rf h⟩
      · rw [if_neg h3, p_6_1 hL, Option.bind_some, t11, c_allows hL hg, Option.bind_some, hP]
        dsimp only
        by_cases h4 : mayS (pS P) (pL P) c x y z
        · rw [b2i_t h4, if_pos (by decide), iteP_t ⟨h1, by omega, h4⟩, p_6_1 hL, Option.bind_some, t11, c_size hg hm, Option.bind_some, hP, hs]
          dsimp only
          by_cases h5 : (s : Int) < 6
          · obtain ⟨h', a1, a2, a3⟩ := CI_hold hc
            have hs6 : s < 6 := by omega
            have his : i ≤ s := by omega
            have hi6 : i < 6 := by omega
            have hz1 : Zr (roomS P m i s) := Zr_room (by rw [← hc.2.2.2.1]; exact hc.2.1.2.1) hm hs6
            have hz : Zr (insS (roomS P m i s) m i c x y z) := Zr_ins hz1 hm hi6 _ _ _ _
            obtain ⟨c1, c2⟩ := CI_now a2 hz1
            obtain ⟨d1, d2⟩ := CI_now c1 hz
            have hP' : h'.2 (11 + 1) = P := a2.2.2.2.1
            have ho := c_makeRoom (CI_pg a2) hm hs6 his (by rw [hP']; exact hs)
            have h6 : ¬ 6 ≤ (s : Int) := by omega
            rw [mrow_m] at d1
            refine ⟨mrow h' 12 (insS (roomS P m i s) m i c x y z), ?_, ?_, TF_tr a3 (TF_tr c2 (by rw [mrow_m] at d2; exact d2))⟩
            · rw [if_pos h5, iteP_f h6, p_6_5 hL, Option.bind_some, p_6_1 hL, Option.bind_some, t29, t11, p_11_0 hL, Option.bind_some, t12, a1, Option.bind_some, p_6_1 a2.1, Option.bind_some, t11, ho, Option.bind_some, hP', p_6_1 c1.1, Option.bind_some, t11, c_setIns (CI_pg c1) hm hi6, Option.bind_some, mrow_m, mrow_s, p_6_1 d1.1, Option.bind_some, t11, tn, tn, c_size (CI_pg d1) hm, Option.bind_some, mrow_s]
              congr 2
              unfold pK insS
              rw [ru_d _ _ (by omega), ru_d _ _ (by omega), ru_d _ _ (by omega), ru_d _ _ (by omega)]
              unfold roomS
              rw [ru_s]
            · rw [iteP_f h6, tn, tn]; exact d1
          · rw [if_neg h5, iteP_t (show (6 : Int) ≤ s by omega)]
            exact ⟨h, rfl, hc, TF_rf h⟩
        · rw [b2i_f h4, if_neg (by decide), iteP_f (fun q => h4 q.2.2)]
          exact ⟨h, rfl, hc, TF_rf h⟩
  · rw [if_neg h1, if_pos rfl, iteP_f (fun q => h1 q.1)]
    exact ⟨h, rfl, hc, TF_rf h⟩
end Tb
