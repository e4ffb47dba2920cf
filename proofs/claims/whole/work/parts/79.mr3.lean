/-! THE MODEL'S MACHINE: a step, the beginning, a run -/
theorem w32_30 {n : Nat} (h : n < 1000) : w32 (30000 + (n : Int)) = 30000 + (n : Int) := w32_id (by omega) (by omega)
theorem stepM_nn (P : Nat → Int) (s : mSt) (c : Int) (x y z : Nat) : 0 ≤ (stepM P s c x y z).1 := by
  unfold stepM
  have z0 : (0 : Int) ≤ 0 := Int.le_refl 0
  have z1 : (0 : Int) ≤ 1 := by decide
  have z2 : (0 : Int) ≤ 2 := by decide
  have z3 : (0 : Int) ≤ 3 := by decide
  by_cases c0 : c = 0
  · rw [if_pos c0]; exact z0
  rw [if_neg c0]
  by_cases c1 : c = 1
  · rw [if_pos c1]; exact z0
  rw [if_neg c1]
  by_cases c2 : c = 2
  · rw [if_pos c2]; exact iteP_1 z0 z2
  rw [if_neg c2]
  by_cases c3 : c = 3
  · rw [if_pos c3]; exact iteP_1 z0 z3
  rw [if_neg c3]
  by_cases c4 : c = 4
  · rw [if_pos c4]; exact iteP_1 z0 z2
  rw [if_neg c4]
  by_cases c5 : c = 5
  · rw [if_pos c5]; exact iteP_1 z0 z2
  rw [if_neg c5]
  by_cases c6 : c = 6
  · rw [if_pos c6]; exact iteP_1 z0 z3
  rw [if_neg c6]
  by_cases c7 : c = 7
  · rw [if_pos c7]; exact iteP_1 z2 z0
  rw [if_neg c7]
  by_cases c8 : c = 8
  · rw [if_pos c8]; exact z0
  rw [if_neg c8]
  by_cases c9 : c = 9
  · rw [if_pos c9]; exact z0
  rw [if_neg c9]
  by_cases c10 : c = 10
  · rw [if_pos c10]; exact iteP_1 (iteP_1 z0 z0) z2
  rw [if_neg c10]
  by_cases c11 : c = 11
  · rw [if_pos c11]; exact z0
  rw [if_neg c11]
  by_cases c12 : c = 12
  · rw [if_pos c12]; exact iteP_1 z0 z2
  rw [if_neg c12]
  exact iteP_1 z1 z2
theorem goM_nn (P : Nat → Int) (s : mSt) : 0 ≤ (goM P s).1 := iteP_1 (stepM_nn _ _ _ _ _ _) (show (0 : Int) ≤ 2 by decide)
section Mr
variable {L : Nat} {P : Nat → Int} {h : mH} {s : mSt}
theorem m_step (hk : MK L 0 P h) (hr : MRn h P s) (hV : Val P) (hv : VM P s) (h0 : h.2 43 36 = 0) : MkM h P (F_Md_step 43 h) (goM P s) := by
  obtain ⟨hL, hS, hs, -⟩ := id hk
  obtain ⟨r1, r2, r3, r4, r5, r6, r7⟩ := id hr
  have v1 := hV.1
  have v2 := hV.2.1
  obtain ⟨a1, a2⟩ := hv.2.1
  have l4 : sA s < 4 := by omega
  have vk := (hV.2.2.2.2 (sA s) a1).2.2.2.2.1
  have hp : sP s < 100 := by omega
  unfold goM
  rw [q_Md_step _ _ (o_43 hL), g_43 hL (by decide), Option.bind_some, g_43 hL (by decide), Option.bind_some, r5, r6, many0 hL l4 (hs _ l4).2.2.1, Option.bind_some]
  dsimp only
  by_cases q : (sP s : Int) < pK P (sA s)
  · rw [if_pos (by omega), iteP_t q]
    have k6 : sP s < 6 := by omega
    obtain ⟨c, x, y, z, ec, ex, ey, ez, hm⟩ := ins_b hV a1 q
    have p0 : 0 + 30 * sA s + 6 + 4 * sP s < 1440 := by omega
    have p1 : 0 + 30 * sA s + 6 + 4 * sP s + 1 < 1440 := by omega
    have p2 : 0 + 30 * sA s + 6 + 4 * sP s + 2 < 1440 := by omega
    have p3 : 0 + 30 * sA s + 6 + 4 * sP s + 3 < 1440 := by omega
    have pp : 0 + 30 * sA s + 6 + 4 * sP s < 10000 := by omega
    have c0 := Sl_pc hs l4 k6 (p := 0) (by decide)
    rw [Nat.add_zero] at c0
    have c1 := Sl_pc hs l4 k6 (p := 1) (by decide)
    have c2 := Sl_pc hs l4 k6 (p := 2) (by decide)
    have c3 := Sl_pc hs l4 k6 (p := 3) (by decide)
    have hsp := m_spot (b := 0) (by decide) l4 (Nat.le_of_lt k6) h
    rw [show ((0 : Nat) : Int) = 0 from rfl] at hsp
    have e1 : w32 (((0 + 30 * sA s + 6 + 4 * sP s : Nat) : Int) + 1) = ((0 + 30 * sA s + 6 + 4 * sP s + 1 : Nat) : Int) := ix1 (c := 1) pp (by decide)
    have e2 : w32 (((0 + 30 * sA s + 6 + 4 * sP s : Nat) : Int) + 2) = ((0 + 30 * sA s + 6 + 4 * sP s + 2 : Nat) : Int) := ix1 (c := 2) pp (by decide)
    have e3 : w32 (((0 + 30 * sA s + 6 + 4 * sP s : Nat) : Int) + 3) = ((0 + 30 * sA s + 6 + 4 * sP s + 3 : Nat) : Int) := ix1 (c := 3) pp (by decide)
    rw [g_43 hL (by decide), Option.bind_some, g_43 hL (by decide), Option.bind_some, r5, r6, hsp, Option.bind_some]
    dsimp only
    rw [p_43_14 hL, Option.bind_some, e1, ld53 hL p1, Option.bind_some, Option.bind_some, e2, ld53 hL p2, Option.bind_some, Option.bind_some, e3, ld53 hL p3, Option.bind_some, Option.bind_some, ld53 hL p0, Option.bind_some, c0, c1, c2, c3, ec, ex, ey, ez, tn, tn, tn]
    clear e1 e2 e3 p0 p1 p2 p3 pp c0 c1 c2 c3 ec ex ey ez
    have hcc : c = 0 ∨ c = 1 ∨ c = 2 ∨ c = 3 ∨ c = 4 ∨ c = 5 ∨ c = 6 ∨ c = 7 ∨ c = 8 ∨ c = 9 ∨ c = 10 ∨ c = 11 ∨ c = 12 ∨ c = 13 := by have := hm.1; omega
    unfold stepM
    rcases hcc with rfl | rfl | rfl | rfl | rfl | rfl | rfl | rfl | rfl | rfl | rfl | rfl | rfl | rfl
    · simp [mayS, chs, oprL] at hm
      simp only [Int.reduceEq, reduceIte]
      rw [p_43_28 hL, Option.bind_some, ld57 hL (by omega), Option.bind_some, r1 y (by omega)]
      exact MkM_b (m_lands hL hr hp h0 (by omega) _ rfl)
    · simp [mayS, chs, oprL] at hm
      simp only [Int.reduceEq, reduceIte]
      exact MkM_b (m_lands hL hr hp h0 (by omega) _ (up_id (by omega)).symm)
    · simp [mayS, chs, oprL] at hm
      simp only [Int.reduceEq, reduceIte]
      exact MkM_b (m_adds hL hr hv hp h0 (by omega) (by omega))
    · simp [mayS, chs, oprL] at hm
      simp only [Int.reduceEq, reduceIte]
      exact MkM_b (m_makes hL hr hV hv hp h0 (by omega) (by omega))
    · simp [mayS, chs, oprL] at hm
      simp only [Int.reduceEq, reduceIte]
      exact MkM_b (m_stores hk hr hV hv hp h0 (by omega) (by omega) (by omega))
    · simp [mayS, chs, oprL] at hm
      simp only [Int.reduceEq, reduceIte]
      exact MkM_b (m_loads hk hr hV hv hp h0 (by omega) (by omega) (by omega))
    · simp [mayS, chs, oprL] at hm
      simp only [Int.reduceEq, reduceIte]
      exact MkM_b (m_piles hL hr hv hp h0 (by omega))
    · simp [mayS, chs, oprL] at hm
      simp only [Int.reduceEq, reduceIte]
      exact MkM_b (m_unpiles hL hr hv hp h0 (by omega))
    · simp [mayS, chs, oprL] at hm
      simp only [Int.reduceEq, reduceIte]
      rw [w32_30 (by omega)]
      exact MkM_b (m_lands hL hr hp h0 (by omega) _ (up_l (by omega)).symm)
    · simp [mayS, chs, oprL] at hm
      simp only [Int.reduceEq, reduceIte]
      exact MkM_b (m_goesTo hL hr h0 x)
    · simp [mayS, chs, oprL] at hm
      simp only [Int.reduceEq, reduceIte]
      exact MkM_b (m_parts hL hr hv hp h0 (by omega) y)
    · simp [mayS, chs, oprL] at hm
      simp only [Int.reduceEq, reduceIte]
      have st := st57 hL (p := 3) (by decide) (up (10000 + (y : Int)))
      rw [show ((3 : Nat) : Int) = 3 from rfl] at st
      have L1 : LyM L (mw h 57 3 (up (10000 + (y : Int)))) := LyM_mw hL rfl
      obtain ⟨h', z1, z2, z3, z4⟩ := m_goesTo L1 (MRn_reg hr 3 (10000 + (y : Int))) (by rw [mw_o _ _ _ (by decide)]; exact h0) x
      rw [p_43_28 hL, Option.bind_some, w32_30 (by omega), ← up_l (by omega), st, Option.bind_some, z1, Option.bind_some]
      exact ⟨h', rfl, Mr_tr (Mr_r h _ _ (by decide) (by decide)) z2, z3, z4⟩
    · simp [mayS, chs, oprL] at hm
      simp only [Int.reduceEq, reduceIte]
      exact MkM_b (m_backs hL hr hV hv h0 (by omega))
    · simp only [Int.reduceEq, reduceIte]
      have ld := ld57 hL (p := 0) (by decide)
      rw [show ((0 : Nat) : Int) = 0 from rfl] at ld
      rw [p_43_28 hL, Option.bind_some, ld, Option.bind_some, r1 0 (by decide), m_isWord (hv.2.2.1 0 (by decide)), Option.bind_some]
      dsimp only
      by_cases w : isW (sR s 0)
      · rw [b2i_t w, if_neg (by decide), iteP_t w, q_Md_step_290]
        exact m_how hL hr 1
      · rw [b2i_f w, if_pos rfl, iteP_f w, q_Md_step_290]
        exact m_how hL hr 2
  · rw [if_neg (Decidable.not_not.mpr (show (sP s : Int) = pK P (sA s) by omega)), iteP_f q]
    exact m_how hL hr 2
theorem m_begun {x w : Int} (hx : 0 ≤ x ∧ x < 10) (hw : 0 ≤ w ∧ w < 100) (h : mH) : F_Md_begun x w h = some (up (fstT x w), h) := by
  rw [q_Md_begun]
  by_cases q : 2 ≤ x
  · rw [if_pos q]
    by_cases r : 6 ≤ x
    · rw [if_pos r, fstT_l r hx.2]
      obtain ⟨m, hm⟩ := n_of (show 0 ≤ x - 6 by omega)
      rw [hm, up_l (by omega), w32_id (x := 30000 + x) (by omega) (by omega), w32_id (by omega) (by omega), show 30000 + x - 6 = 30000 + (m : Int) by omega]
    · rw [if_neg r, fstT_t q (by omega), up_id (by omega), w32_id (x := 20000 + x) (by omega) (by omega), w32_id (by omega) (by omega), show 20000 + x - 2 = 20000 + (x - 2) by omega]
  · rw [if_neg q, fstT_w (by omega), up_id (by omega)]
theorem tyOk_9 (hV : Val P) {x : Int} (hx : tyOk P x) : 0 ≤ x ∧ x < 10 := by
  have v2 := hV.2.1
  unfold tyOk at hx
  omega
/-- the first tuples, of the first sorts -/
def MT1 (P : Nat → Int) (w : Int) (t : Nat) (h : mH) : Prop := ∀ u : Nat, u < t → h.2 59 u = (u : Int) ∧ ∀ f : Nat, (f : Int) < pFn P u → h.2 58 (4 * u + f) = up (fstT (pFt P u f) w)
theorem m_st19 (hV : Val P) {w : Int} (hw : 0 ≤ w ∧ w < 100) {t : Nat} (ht : (t : Int) < pS P) : ∀ (m f : Nat) (h : mH), f + m = 3 → MK L 0 P h → MT1 P w t h → h.2 59 t = (t : Int) → (∀ g : Nat, g < f → (g : Int) < pFn P t → h.2 58 (4 * t + g) = up (fstT (pFt P t g) w)) → ∃ h', B_Md_starts_19 43 w (t : Int) (f : Int) h = B_Md_starts_2 43 w ((t + 1 : Nat) : Int) (some (.inl 3)) h' ∧ Mr h h' ∧ MT1 P w (t + 1) h'
  | 0, f, h, e, hk, h1, h2, h3 => by
    have : f = 3 := by omega
    subst this
    have v1 := hV.1
    have b := (hV.2.2.2.1 t ht).1
    refine ⟨h, ?_, Mr_rf h, fun u hu => ?_⟩
    · rw [q_Md_starts_19, if_pos (by decide), w32_nn t (by omega)]
      rfl
    · by_cases q : u = t
      · rw [q]; exact ⟨h2, fun g hg => h3 g (by omega) hg⟩
      · exact h1 u (by omega)
  | m + 1, f, h, e, hk, h1, h2, h3 => by
    obtain ⟨hL, hS, hs, -⟩ := id hk
    have v1 := hV.1
    have b := (hV.2.2.2.1 t ht).1
    have t4 : t < 4 := by omega
    have t12 : t < 12 := by omega
    have f3 : f < 3 := by omega
    have f1 : f < 1000 := by omega
    have p1 : 4 * t + f < 48 := by omega
    have ge : ¬ 3 ≤ (f : Int) := by omega
    have fin : ∀ v : Int, ((f : Int) < pFn P t → v = up (fstT (pFt P t f) w)) → ∃ h', B_Md_starts_61 43 w (t : Int) (f : Int) v ((4 * t + f : Nat) : Int) (58 : Int).toNat h = B_Md_starts_2 43 w ((t + 1 : Nat) : Int) (some (.inl 3)) h' ∧ Mr h h' ∧ MT1 P w (t + 1) h' := fun v hvv => by
      have fr := Mr_r h (a := 58) (4 * t + f) v (by decide) (by decide)
      obtain ⟨h', z1, z2, z3⟩ := m_st19 hV hw ht m (f + 1) (mw h 58 (4 * t + f) v) (by omega) (Mr_K fr hk) (fun u hu => by
        obtain ⟨c1, c2⟩ := h1 u hu
        refine ⟨by rw [mw_o _ _ _ (by decide)]; exact c1, fun g hg => ?_⟩
        have := (hV.2.2.2.1 u (by omega)).1
        rw [mw_d _ _ (by omega)]
        exact c2 g hg) (by rw [mw_o _ _ _ (by decide)]; exact h2) (fun g hg hg2 => by
        by_cases q : g = f
        · rw [q, mw_s]; exact hvv (q ▸ hg2)
        · rw [mw_d _ _ (by omega)]; exact h3 g (by omega) hg2)
      refine ⟨h', ?_, Mr_tr fr z2, z3⟩
      rw [q_Md_starts_61, st58 hL p1, Option.bind_some, w32_nn f f1, z1]
    rw [q_Md_starts_19, if_neg ge, p_43_29 hL, Option.bind_some, p_43_1 hL, Option.bind_some, ld44 hL t4, Option.bind_some, (hS.2.2.1 t ht).1, ix4t t12 f3]
    by_cases q : pFn P t ≤ (f : Int)
    · rw [if_pos q]
      exact fin (-1) (fun z => by omega)
    · have q' : (f : Int) < pFn P t := by omega
      have p2 : 3 * t + f < 12 := by omega
      have bt := (hV.2.2.2.1 t ht).2 f q'
      rw [if_neg q, p_43_2 hL, Option.bind_some, ix5 t4 f3, ld45 hL p2, Option.bind_some, (hS.2.2.1 t ht).2 f q', m_begun (by omega) hw, Option.bind_some]
      exact fin _ (fun _ => rfl)
theorem m_st120 (hV : Val P) {w : Int} (hw : 0 ≤ w ∧ w < 100) {N : Nat} (hN : pH P 0 = N) (o : Option mV) : ∀ (m i : Nat) (h : mH), i + m = N → MK L 0 P h → MT1 P w (pS P).toNat h → (∀ r, r < 4 → h.2 57 r = up (fstT (pW P 0 r) w)) → h.2 43 32 = (N : Int) → h.2 43 33 = 0 → (∀ j, j < i → h.2 60 (N - 1 - j) = up (fstT (pT P 0 j) w)) →
    ∃ h', B_Md_starts_120 43 w (i : Int) o h = some h' ∧ Mr h h' ∧ MRn h' P (begS P w) ∧ h'.2 43 36 = 0
  | 0, i, h, e, hk, hT, h5, h32, h33, h6 => by
    have : i = N := by omega
    subst this
    have hL := hk.1
    have v1 := hV.1
    have hlen : ((skF P 0 0).map (fun x => fstT x w)).length = i := by rw [List.length_map, skF_len, hN, tn, Nat.sub_zero]
    have L1 : LyM L (mw h 43 35 0) := LyM_mw hL rfl
    have L2 : LyM L (mw (mw h 43 35 0) 43 34 0) := LyM_mw L1 rfl
    refine ⟨mw (mw (mw h 43 35 0) 43 34 0) 43 36 0, ?_, Mr_tr (Mr_43 h _ (by decide) (by decide)) (Mr_tr (Mr_43 _ _ (by decide) (by decide)) (Mr_43 _ _ (by decide) (by decide))), ?_, mw_s _ _ _ _⟩
    · rw [q_Md_starts_120, g_43 hL (by decide), Option.bind_some, h32, if_pos (Int.le_refl _), f_43 hL (by decide), Option.bind_some, f_43 L1 (by decide), Option.bind_some, f_43 L2 (by decide), Option.bind_some]
    · refine MRn_how ?_ 0
      refine ⟨fun r hr => by rw [mw_o _ _ _ (by decide), mw_o _ _ _ (by decide)]; exact h5 r hr, ?_, fun j hj => ?_, ?_, by rw [mw_s]; rfl, by rw [mw_d _ _ (by decide), mw_s]; rfl, fun t ht => ?_⟩
      · show _ = ((((skF P 0 0).map (fun x => fstT x w)).length : Nat) : Int)
        rw [hlen, mw_d _ _ (by decide), mw_d _ _ (by decide)]; exact h32
      · have hj' : j < ((skF P 0 0).map (fun x => fstT x w)).length := hj
        show (mw (mw h 43 35 0) 43 34 0).2 60 (((skF P 0 0).map (fun x => fstT x w)).length - 1 - j) = up (((skF P 0 0).map (fun x => fstT x w)).getD j 0)
        rw [hlen] at hj' ⊢
        have hg : ((skF P 0 0).map (fun x => fstT x w)).getD j 0 = fstT (pT P 0 j) w := by
          unfold skF
          rw [List.map_map, List.getD_eq_getElem?_getD, List.getElem?_map, List.getElem?_range' (by rw [hN, tn]; omega)]
          simp
        rw [hg, mw_o _ _ _ (by decide), mw_o _ _ _ (by decide)]
        exact h6 j hj'
      · rw [mw_d _ _ (by decide), mw_d _ _ (by decide), h33]; rfl
      · have ht' : (t : Int) < pS P ∨ (4 ≤ t ∧ t < 4) := ht
        have htS : (t : Int) < pS P := by omega
        obtain ⟨c1, c2⟩ := hT t (by omega)
        rw [mw_o _ _ _ (by decide), mw_o _ _ _ (by decide), mw_o _ _ _ (by decide), mw_o _ _ _ (by decide)]
        refine ⟨c1, fun f hf => ?_⟩
        have hf' : (f : Int) < pFn P (t : Int).toNat := hf
        rw [tn] at hf'
        have := (hV.2.2.2.1 t htS).1
        show _ = up (fstT (pFt P ((3 * t + f) / 3) ((3 * t + f) % 3)) w)
        rw [show (3 * t + f) / 3 = t by omega, show (3 * t + f) % 3 = f by omega]
        exact c2 f hf'
  | m + 1, i, h, e, hk, hT, h5, h32, h33, h6 => by
    obtain ⟨hL, hS, hs, -⟩ := id hk
    have v2 := hV.2.1
    have v3 := hV.2.2.1 0 (by decide)
    have l0 : ((0 : Nat) : Int) < pL P := by omega
    have i12 : i < 12 := by omega
    have i1 : i < 1000 := by omega
    have iN : i < N := by omega
    have N100 : N < 100 := by omega
    have p1 : N - 1 - i < 16 := by omega
    have ge : ¬ (N : Int) ≤ (i : Int) := by omega
    have c1 := (hS.2.2.2 0 l0).2 i (by omega)
    rw [show 3 * 0 + i = i by omega] at c1
    have tb := tyOk_9 hV ((hV.2.2.2.2 0 l0).2.2.1 i (by omega))
    have fr := Mr_r h (a := 60) (N - 1 - i) (up (fstT (pT P 0 i) w)) (by decide) (by decide)
    obtain ⟨h', z1, z2, z3, z4⟩ := m_st120 hV hw hN o m (i + 1) (mw h 60 (N - 1 - i) (up (fstT (pT P 0 i) w))) (by omega) (Mr_K fr hk) (fun u hu => by
        rw [mw_o _ _ _ (by decide), mw_o _ _ _ (by decide)]; exact hT u hu) (fun r hr => by rw [mw_o _ _ _ (by decide)]; exact h5 r hr) (by rw [mw_o _ _ _ (by decide)]; exact h32) (by rw [mw_o _ _ _ (by decide)]; exact h33) (fun j hj => by
        by_cases q : j = i
        · rw [q, mw_s]
        · rw [mw_d _ _ (by omega)]; exact h6 j (by omega))
    refine ⟨h', ?_, Mr_tr fr z2, z3, z4⟩
    rw [q_Md_starts_120, g_43 hL (by decide), Option.bind_some, h32, if_neg ge, p_43_31 hL, Option.bind_some, Option.bind_some, p_43_5 hL, Option.bind_some, ld47 hL i12, Option.bind_some, c1, m_begun tb hw, Option.bind_some]
    dsimp only
    rw [ix6 iN N100, st60 hL p1, Option.bind_some, w32_nn i i1, z1]
theorem m_st81 (hV : Val P) {w : Int} (hw : 0 ≤ w ∧ w < 100) (o : Option mV) : ∀ (m r : Nat) (h : mH), r + m = 4 → MK L 0 P h → MT1 P w (pS P).toNat h → (∀ k, k < r → h.2 57 k = up (fstT (pW P 0 k) w)) → h.2 43 33 = 0 → ∃ h', B_Md_starts_81 43 w (r : Int) o h = some h' ∧ Mr h h' ∧ MRn h' P (begS P w) ∧ h'.2 43 36 = 0
  | 0, r, h, e, hk, hT, h5, h33 => by
    have : r = 4 := by omega
    subst this
    obtain ⟨hL, hS, hs, -⟩ := id hk
    have v2 := hV.2.1
    have v3 := hV.2.2.1 0 (by decide)
    have l0 : ((0 : Nat) : Int) < pL P := by omega
    obtain ⟨N, hN⟩ : ∃ N : Nat, pH P 0 = (N : Int) := ⟨(pH P 0).toNat, by omega⟩
    have fr := Mr_43 h (j := 32) (N : Int) (by decide) (by decide)
    obtain ⟨h', z1, z2, z3, z4⟩ := m_st120 hV hw hN o N 0 (mw h 43 32 (N : Int)) (by omega) (Mr_K fr hk) (fun u hu => by
        rw [mw_o _ _ _ (by decide), mw_o _ _ _ (by decide)]; exact hT u hu) (fun r hr => by rw [mw_o _ _ _ (by decide)]; exact h5 r hr) (mw_s _ _ _ _) (by rw [mw_d _ _ (by decide)]; exact h33) (fun j hj => by omega)
    rw [show ((0 : Nat) : Int) = 0 from rfl] at z1
    have ld := ld46 hL (p := 0) (by decide)
    rw [show ((0 : Nat) : Int) = 0 from rfl] at ld
    refine ⟨h', ?_, Mr_tr fr z2, z3, z4⟩
    rw [q_Md_starts_81, if_pos (by decide), p_43_4 hL, Option.bind_some, ld, Option.bind_some, (hS.2.2.2 0 l0).1, hN, f_43 hL (by decide), Option.bind_some, z1]
  | m + 1, r, h, e, hk, hT, h5, h33 => by
    obtain ⟨hL, hS, hs, -⟩ := id hk
    have v2 := hV.2.1
    have l0 : ((0 : Nat) : Int) < pL P := by omega
    have ge : ¬ 4 ≤ (r : Int) := by omega
    have r4 : r < 4 := by omega
    have r1 : r < 1000 := by omega
    have p1 : r < 1440 := by omega
    have c1 := (hs 0 (by decide)).1 r r4
    rw [show 0 + 30 * 0 + r = r by omega] at c1
    have tb := tyOk_9 hV ((hV.2.2.2.2 0 l0).1 r r4)
    have fr := Mr_r h (a := 57) r (up (fstT (pW P 0 r) w)) (by decide) (by decide)
    obtain ⟨h', z1, z2, z3, z4⟩ := m_st81 hV hw o m (r + 1) (mw h 57 r (up (fstT (pW P 0 r) w))) (by omega) (Mr_K fr hk) (fun u hu => by
        rw [mw_o _ _ _ (by decide), mw_o _ _ _ (by decide)]; exact hT u hu) (fun k hk' => by
        by_cases q : k = r
        · rw [q, mw_s]
        · rw [mw_d _ _ q]; exact h5 k (by omega)) (by rw [mw_o _ _ _ (by decide)]; exact h33)
    refine ⟨h', ?_, Mr_tr fr z2, z3, z4⟩
    rw [q_Md_starts_81, if_neg ge, p_43_28 hL, Option.bind_some, p_43_14 hL, Option.bind_some, ld53 hL p1, Option.bind_some, c1, m_begun tb hw, Option.bind_some]
    dsimp only
    rw [st57 hL r4, Option.bind_some, w32_nn r r1, z1]
theorem m_st2r (hV : Val P) {w : Int} (hw : 0 ≤ w ∧ w < 100) {N : Nat} (hN : pS P = N) : ∀ (m t : Nat) (o : Option mV) (h : mH), t + m = N → MK L 0 P h → MT1 P w t h → ∃ h', B_Md_starts_2 43 w (t : Int) o h = some h' ∧ Mr h h' ∧ MRn h' P (begS P w) ∧ h'.2 43 36 = 0
  | 0, t, o, h, e, hk, hT => by
    have : t = N := by omega
    subst this
    have hL := hk.1
    have fr := Mr_43 h (j := 33) 0 (by decide) (by decide)
    obtain ⟨h', z1, z2, z3, z4⟩ := m_st81 hV hw o 4 0 (mw h 43 33 0) (by decide) (Mr_K fr hk) (fun u hu => by
        rw [mw_o _ _ _ (by decide), mw_o _ _ _ (by decide)]; exact hT u (by omega)) (fun k hk' => by omega) (mw_s _ _ _ _)
    rw [show ((0 : Nat) : Int) = 0 from rfl] at z1
    refine ⟨h', ?_, Mr_tr fr z2, z3, z4⟩
    rw [q_Md_starts_2, g_43 hL (by decide), Option.bind_some, hk.2.1.1, if_pos (by omega), f_43 hL (by decide), Option.bind_some, z1]
  | m + 1, t, o, h, e, hk, hT => by
    have hL := hk.1
    have v1 := hV.1
    have t12 : t < 12 := by omega
    have ht : (t : Int) < pS P := by omega
    have fr := Mr_r h (a := 59) t (t : Int) (by decide) (by decide)
    obtain ⟨h1, a1, a2, a3⟩ := m_st19 hV hw ht 3 0 (mw h 59 t (t : Int)) (by decide) (Mr_K fr hk) (fun u hu => by
        obtain ⟨c1, c2⟩ := hT u hu
        exact ⟨by rw [mw_d _ _ (by omega)]; exact c1, by rw [mw_o _ _ _ (by decide)]; exact c2⟩) (mw_s _ _ _ _) (fun g hg => by omega)
    rw [show ((0 : Nat) : Int) = 0 from rfl] at a1
    obtain ⟨h', z1, z2, z3, z4⟩ := m_st2r hV hw hN m (t + 1) (some (.inl 3)) h1 (by omega) (Mr_K a2 (Mr_K fr hk)) a3
    refine ⟨h', ?_, Mr_tr fr (Mr_tr a2 z2), z3, z4⟩
    rw [q_Md_starts_2, g_43 hL (by decide), Option.bind_some, hk.2.1.1, if_neg (by omega), p_43_30 hL, Option.bind_some, st59 hL t12, Option.bind_some, a1, z1]
theorem m_starts (hk : MK L 0 P h) (hV : Val P) {w : Int} (hw : 0 ≤ w ∧ w < 100) : ∃ h', F_Md_starts 43 w h = some h' ∧ Mr h h' ∧ MRn h' P (begS P w) ∧ h'.2 43 36 = 0 := by
  have v1 := hV.1
  obtain ⟨h', z1, z2, z3, z4⟩ := m_st2r hV hw (N := (pS P).toNat) (by omega) (pS P).toNat 0 none h (by omega) hk (fun u hu => by omega)
  exact ⟨h', by rw [q_Md_starts _ _ _ (o_43 hk.1)]; exact z1, z2, z3, z4⟩
theorem m_ru49 (hV : Val P) {w : Int} (hw : 0 ≤ w ∧ w < 100) {N : Nat} (hN : N ≤ 200) (u : Int) : ∀ (m k : Nat) (h : mH), k + m = N → MK L 0 P h → MRn h P (rnS P w k).2.2 → h.2 43 36 = (rnS P w k).1 →
    ∃ h' k', B_Md_run_49 43 w (N : Int) u (rnS P w k).2.1 (k : Int) h = B_Md_run_90 43 w (N : Int) u (rnS P w N).2.1 k' h' ∧ Mr h h' ∧ MRn h' P (rnS P w N).2.2 ∧ h'.2 43 36 = (rnS P w N).1
  | 0, k, h, e, hk, hr, h0 => by
    have : k = N := by omega
    subst this
    exact ⟨h, (k : Int), by rw [q_Md_run_49, if_pos (Int.le_refl _)], Mr_rf h, hr, h0⟩
  | m + 1, k, h, e, hk, hr, h0 => by
    have hL := hk.1
    have k1 : k < 1000 := by omega
    have ge : ¬ (N : Int) ≤ (k : Int) := by omega
    obtain ⟨i1, i2, i3⟩ := rn_v hV hw k
    rw [q_Md_run_49, if_neg ge, g_43 hL (by decide), Option.bind_some, h0]
    by_cases q : (rnS P w k).1 ≠ 0
    · have es := rn_stop q (m + 1)
      rw [e] at es
      exact ⟨h, (k : Int), by rw [if_pos q, es], Mr_rf h, by rw [es]; exact hr, by rw [es]; exact h0⟩
    · have q0 : (rnS P w k).1 = 0 := Decidable.not_not.mp q
      obtain ⟨h1, a1, a2, a3, a4⟩ := m_step hk hr hV i1 (h0.trans q0)
      have es := rn_s q0
      have L1 := Mr_Ly a2 hL
      rw [if_neg q, a1, Option.bind_some, g_43 L1 (by decide), Option.bind_some, a4]
      have fin : ∀ x : Int, x = b2i ((goM P (rnS P w k).2.2).1 = 0 ∨ (goM P (rnS P w k).2.2).1 = 1) → ∃ h' k', B_Md_run_81 43 w (N : Int) u (rnS P w k).2.1 (k : Int) x (rnS P w k).2.1 h1 = B_Md_run_90 43 w (N : Int) u (rnS P w N).2.1 k' h' ∧ Mr h h' ∧ MRn h' P (rnS P w N).2.2 ∧ h'.2 43 36 = (rnS P w N).1 := fun x hx => by
        have b01 := b2i_01 ((goM P (rnS P w k).2.2).1 = 0 ∨ (goM P (rnS P w k).2.2).1 = 1)
        rw [← hx] at b01
        have e2 : (rnS P w (k + 1)).2.1 = (rnS P w k).2.1 + x := by rw [es, hx]
        obtain ⟨h', k', z1, z2, z3, z4⟩ := m_ru49 hV hw hN u m (k + 1) h1 (by omega) (Mr_K a2 hk) (by rw [es]; exact a3) (by rw [es]; exact a4)
        rw [e2] at z1
        refine ⟨h', k', ?_, Mr_tr a2 z2, z3, z4⟩
        rw [q_Md_run_81, w32_nn k k1, w32_id (by omega) (by omega), z1]
      have gn : 0 ≤ (goM P (rnS P w k).2.2).1 := goM_nn _ _
      by_cases g : 2 ≤ (goM P (rnS P w k).2.2).1
      · rw [if_pos g]
        exact fin 0 (by rw [b2i_f (by omega)])
      · rw [if_neg g]
        exact fin 1 (by rw [b2i_t (by omega)])
theorem m_run {n : Nat} {T : Nat → Int} {U K : List (Nat → Int)} (hm : MI L n T P U K h) (hV : Val P) (w N u : Int) : ∃ h', F_Md_run 43 w N u h = some (runA P w N u, h') ∧ MI L n T P U K h' ∧ MFm h h' := by
  have hL := hm.1
  unfold runA
  rw [q_Md_run _ _ _ _ _ (o_43 hL), c_in, Option.bind_some]
  dsimp only
  by_cases q : 0 ≤ w ∧ w ≤ 99
  · rw [b2i_t q, if_neg (by decide), c_in, Option.bind_some]
    dsimp only
    by_cases r : 0 ≤ N ∧ N ≤ 200
    · rw [b2i_t r, if_neg (by decide), c_in, Option.bind_some]
      dsimp only
      by_cases s : 0 ≤ u ∧ u ≤ 4
      · obtain ⟨b, rfl⟩ := n_of r.1
        have hw : 0 ≤ w ∧ w < 100 := by omega
        obtain ⟨h1, a1, a2, a3, a4⟩ := m_starts (MI_K hm) hV hw
        obtain ⟨h2, k', z1, z2, z3, z4⟩ := m_ru49 hV hw (N := b) (by omega) u b 0 h1 (by omega) (Mr_K a2 (MI_K hm)) a3 a4
        have z1' : B_Md_run_49 43 w (b : Int) u 0 0 h1 = B_Md_run_90 43 w (b : Int) u (rnS P w b).2.1 k' h2 := z1
        obtain ⟨m1, m2⟩ := MI_r hm (Mr_tr a2 z2)
        have L2 := m1.1
        have vm := (rn_v hV hw b).1
        rw [b2i_t s, if_pos (by decide), iteP_t (p := (0 ≤ w ∧ w ≤ 99) ∧ (0 ≤ (b : Int) ∧ (b : Int) ≤ 200) ∧ 0 ≤ u ∧ u ≤ 4) ⟨q, r, s⟩, tn, a1, Option.bind_some, z1', q_Md_run_90]
        refine ⟨h2, ?_, m1, m2⟩
        by_cases u0 : u = 0
        · rw [if_neg (Decidable.not_not.mpr u0), if_pos u0, g_43 L2 (by decide), Option.bind_some, z4]
        rw [if_pos u0, if_neg u0]
        by_cases u1 : u = 1
        · rw [if_neg (Decidable.not_not.mpr u1), if_pos u1]
        rw [if_pos u1, if_neg u1]
        by_cases u2 : u = 2
        · rw [if_neg (Decidable.not_not.mpr u2), if_pos u2, g_43 L2 (by decide), Option.bind_some, z3.2.2.2.2.2.1]
        rw [if_pos u2, if_neg u2]
        by_cases u3 : u = 3
        · rw [if_neg (Decidable.not_not.mpr u3), if_pos u3, g_43 L2 (by decide), Option.bind_some, z3.2.2.2.2.1]
        have ld := ld57 L2 (p := 0) (by decide)
        rw [show ((0 : Nat) : Int) = 0 from rfl] at ld
        rw [if_pos u3, if_neg u3, p_43_28 L2, Option.bind_some, ld, Option.bind_some, z3.1 0 (by decide), m_isWord (vm.2.2.1 0 (by decide)), Option.bind_some]
        dsimp only
        by_cases y : isW (sR (rnS P w b).2.2 0)
        · have y' := y
          unfold isW at y'
          rw [b2i_t y, if_neg (by decide), iteP_t y, p_43_28 L2, Option.bind_some, ld, Option.bind_some, z3.1 0 (by decide), up_id (by omega)]
        · rw [b2i_f y, if_pos rfl, iteP_f y]
      · rw [b2i_f s, if_neg (by decide), iteP_f (fun z => s z.2.2)]
        exact ⟨h, rfl, hm, MFm_rf h⟩
    · rw [b2i_f r, if_pos rfl, iteP_f (fun z => r z.2.1)]
      exact ⟨h, rfl, hm, MFm_rf h⟩
  · rw [b2i_f q, if_pos rfl, iteP_f (fun z => q z.1)]
    exact ⟨h, rfl, hm, MFm_rf h⟩
end Mr
