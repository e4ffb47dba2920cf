/-! THE MODEL: might, reached -/
theorem ior_0 (a b : Int) : ior (ior a b) 0 = ior a b := by
  unfold ior
  rw [Int32.ofInt_toInt]
  have : Int32.ofInt 0 = 0 := rfl
  rw [this, Int32.or_zero]
theorem miS_0 (P : Nat → Int) (l r : Nat) : ∀ t : Nat, ior (miS P l r t) 0 = miS P l r t
  | 0 => by unfold miS; decide
  | t + 1 => by
    have ih := miS_0 P l r t
    unfold miS
    by_cases q : tyOk P t ∧ sbS (ru P (18 + 34 * l + r) t) (pL P).toNat = w32 (ishl 1 (pL P) - 1)
    · rw [iteP_t q]; exact ior_0 _ _
    · rw [iteP_f q]; exact ih
section Md
variable {L n : Nat} {T P : Nat → Int} {U K : List (Nat → Int)} {h : mH}
theorem Mq_53 (h : mH) {g : Nat → Int} (hg : ∀ j, j < 1320 → g j = h.2 53 j) : Mq h (mrow h 53 g) :=
  ⟨rfl, fun a _ h2 _ _ => mrow_o _ _ h2, fun j _ => by rw [mrow_o _ _ (by decide)], fun j hj => by rw [mrow_s]; exact hg j hj⟩
theorem m_try (hL : LyM L h) : F_Md_copies 43 0 1320 h = some (mrow h 53 (cpI (h.2 53) 0 1320 120)) := by
  have := m_copies hL (b := 0) (t := 1320) (by decide) (by decide) (by decide)
  exact this
theorem cp_1320 (f : Nat → Int) {j : Nat} (hj : j < 1320) : cpI f 0 1320 120 j = f j := by unfold cpI; rw [if_neg (by omega)]
/-- a program that is tried lies in its slot -/
theorem MK_try (hm : MI L n T P U K h) (hv : Val P) {g Q : Nat → Int} (s : St P Q) (hg : Sl g 1320 Q) : MK L 1320 Q (mrow h 53 g) :=
  ⟨LyM_row hm.1 (fun j => rfl), Sta_st hv s (Sta_c (by rw [mrow_o _ _ (by decide)]) (by rw [mrow_o _ _ (by decide)]) (fun a ha => mrow_o _ _ (by omega)) hm.2.2.1), by rw [mrow_s]; exact hg, by decide⟩
theorem m_mi27 (hv : Val P) {l r : Nat} (hl : (l : Int) < pL P) (hr : r < 4) : ∀ (m t : Nat) (h : mH), t + m = 10 → MI L n T P U K h →
    ∃ h', B_Md_might_27 43 (l : Int) (r : Int) (miS P l r t) (t : Int) h = some (miS P l r 10, h') ∧ MI L n T P U K h' ∧ MFm h h'
  | 0, t, h, e, hm => by
    have : t = 10 := by omega
    subst this
    refine ⟨h, ?_, hm, MFm_rf h⟩
    rw [q_Md_might_27, if_pos (by decide)]
  | m + 1, t, h, e, hm => by
    have v2 := hv.2.1
    have l4 : l < 4 := by omega
    have r30 : r < 30 := by omega
    have t1 : t < 1000 := by omega
    have ge : ¬ 10 ≤ (t : Int) := by omega
    have em : (t + 1) + m = 10 := by omega
    obtain ⟨hL, -, hS, h0, -⟩ := id hm
    rw [q_Md_might_27, if_neg ge, m_isType hL hS hv, Option.bind_some]
    dsimp only
    by_cases q : tyOk P (t : Int)
    · have p1 : 1320 + 30 * l + r < 1440 := by omega
      have L1 : LyM L (mrow h 53 (cpI (h.2 53) 0 1320 120)) := LyM_row hL (fun j => rfl)
      have e1 := ix3 (b := 1320) (Nat.le_refl _) l4 r30
      rw [show ((1320 : Nat) : Int) = 1320 from rfl] at e1
      have s1 : Sl (cpI (h.2 53) 0 1320 120) 1320 P := Sl_to h0
      have s2 := Sl_ru s1 (l := l) (c := r) r30 rfl (qO_r hr).symm (t : Int)
      have k2 := MK_try hm hv (St_want l4 hr (t : Int)) s2
      have f2 : Mq h (mrow h 53 (ru (cpI (h.2 53) 0 1320 120) (1320 + 30 * l + r) (t : Int))) := Mq_53 h (fun j hj => by rw [ru_d _ _ (by clear e1; omega), cp_1320 _ hj])
      obtain ⟨h3, a1, a2⟩ := m_sureOnes k2 (Val_want hv l4 hr q)
      have eL : pL (ru P (18 + 34 * l + r) (t : Int)) = pL P := St_L (St_want l4 hr (t : Int))
      rw [show ((1320 : Nat) : Int) = 1320 from rfl, eL] at a1
      obtain ⟨m1, m2⟩ := MI_q hm (Mq_tr f2 (Mq_s a2))
      obtain ⟨h', z1, z2, z3⟩ := m_mi27 hv hl hr m (t + 1) h3 em m1
      refine ⟨h', ?_, z2, MFm_tr m2 z3⟩
      rw [b2i_t q, if_neg (by decide), m_try hL, Option.bind_some, p_43_14 L1, Option.bind_some, e1, st53 L1 p1, Option.bind_some, mrow_s, mrow_m, a1, Option.bind_some]
      dsimp only
      rw [g_43 m1.1 (by decide), Option.bind_some, m1.2.2.1.2.1, ← z1]
      by_cases w : sbS (ru P (18 + 34 * l + r) (t : Int)) (pL P).toNat = w32 (ishl 1 (pL P) - 1)
      · rw [if_neg (Decidable.not_not.mpr w), q_Md_might_95, q_Md_might_97, w32_nn t t1, show miS P l r (t + 1) = ior (miS P l r t) (ishl 1 t) from iteP_t ⟨q, w⟩ _ _]
      · rw [if_pos w, q_Md_might_95, q_Md_might_97, w32_nn t t1, show miS P l r (t + 1) = miS P l r t from iteP_f (fun z => w z.2) _ _, miS_0]
    · obtain ⟨h', z1, z2, z3⟩ := m_mi27 hv hl hr m (t + 1) h em hm
      refine ⟨h', ?_, z2, z3⟩
      rw [b2i_f q, if_pos rfl, q_Md_might_97, w32_nn t t1, ← z1, show miS P l r (t + 1) = miS P l r t from iteP_f (fun z => q z.1) _ _]
theorem m_might (hm : MI L n T P U K h) (hv : Val P) (l r : Int) : ∃ h', F_Md_might 43 l r h = some (mightA P l r, h') ∧ MI L n T P U K h' ∧ MFm h h' := by
  obtain ⟨hL, -, hS, h0, -⟩ := id hm
  have v2 := hv.2.1
  unfold mightA
  rw [q_Md_might _ _ _ _ (o_43 hL), m_isLabel hL hS (by omega), Option.bind_some]
  dsimp only
  by_cases q : hasL P l
  · rw [b2i_t q, if_neg (by decide), c_in, Option.bind_some]
    dsimp only
    by_cases w : 0 ≤ r ∧ r ≤ 3
    · obtain ⟨m, rfl⟩ := n_of q.1
      obtain ⟨i, rfl⟩ := n_of w.1
      obtain ⟨h', z1, z2, z3⟩ := m_mi27 (L := L) (n := n) (T := T) (U := U) (K := K) hv q.2 (show i < 4 by omega) 10 0 h (by decide) hm
      rw [b2i_t w, if_pos (by decide), iteP_t (p := hasL P (m : Int) ∧ 0 ≤ (i : Int) ∧ (i : Int) < 4) ⟨q, w.1, by omega⟩, tn, tn]
      exact ⟨h', z1, z2, z3⟩
    · rw [b2i_f w, if_neg (by decide), iteP_f (fun z => w ⟨z.2.1, by have := z.2.2; omega⟩)]
      exact ⟨h, rfl, hm, MFm_rf h⟩
  · rw [b2i_f q, if_pos rfl, iteP_f (fun z => q z.1)]
    exact ⟨h, rfl, hm, MFm_rf h⟩
theorem m_labelsIn (c x y : Int) (h : mH) : F_Md_labelsIn c x y h = some (lin c x y, h) := by
  rw [q_Md_labelsIn]
  unfold lin
  by_cases c9 : c = 9
  · rw [if_neg (Decidable.not_not.mpr c9), if_pos c9]
  · rw [if_pos c9, if_neg c9]
    by_cases c8 : c = 8
    · rw [if_pos c8, if_pos (Or.inl c8), q_Md_labelsIn_24]
    · rw [if_neg c8]
      by_cases c10 : c = 10
      · rw [if_neg (Decidable.not_not.mpr c10), if_pos (Or.inr c10), q_Md_labelsIn_24]
      · rw [if_pos c10, if_neg (show ¬ (c = 8 ∨ c = 10) from fun z => z.elim c8 c10)]
        by_cases c11 : c = 11
        · rw [if_neg (Decidable.not_not.mpr c11), if_pos c11]
        · rw [if_pos c11, if_neg c11]
end Md
