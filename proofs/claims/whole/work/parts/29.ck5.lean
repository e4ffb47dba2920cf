/-! the methods of Checker: a block is checked -/
/-- why refused, ended, registers, stack, where: behind the first instructions of a block -/
noncomputable def itS (P : Nat → Int) (l : Nat) : Nat → Int × Int × (Nat → Int) × List Int × Int
  | 0 => (0, 0, pW P l, skF P l 0, 0)
  | k + 1 => iteP ((itS P l k).1 ≠ 0) (itS P l k) (iteP ((itS P l k).2.1 ≠ 0) (9, (itS P l k).2.1, (itS P l k).2.2.1, (itS P l k).2.2.2.1, (k : Int))
      ((stepS P (itS P l k).2.2.1 (itS P l k).2.2.2.1 (pO P l) (pC P l k 0) (pC P l k 1).toNat (pC P l k 2).toNat (pC P l k 3).toNat).1, iteP (endS (pC P l k 0)) 1 (itS P l k).2.1,
       (stepS P (itS P l k).2.2.1 (itS P l k).2.2.2.1 (pO P l) (pC P l k 0) (pC P l k 1).toNat (pC P l k 2).toNat (pC P l k 3).toNat).2.1,
       (stepS P (itS P l k).2.2.1 (itS P l k).2.2.2.1 (pO P l) (pC P l k 0) (pC P l k 1).toNat (pC P l k 2).toNat (pC P l k 3).toNat).2.2, (k : Int)))
theorem itS_stop {P : Nat → Int} {l k : Nat} (h : (itS P l k).1 ≠ 0) : ∀ n, itS P l (k + n) = itS P l k
  | 0 => rfl
  | n + 1 => by
    have ih := itS_stop h n
    have q : (itS P l (k + n)).1 ≠ 0 := by rw [ih]; exact h
    exact (iteP_t q _ _).trans ih
theorem itS_v {P : Nat → Int} {l : Nat} (hv : Val P) (hl : (l : Int) < pL P) : ∀ k : Nat, (k : Int) ≤ pK P l → (∀ r, r < 4 → tyV P ((itS P l k).2.2.1 r)) ∧ ∀ v ∈ (itS P l k).2.2.2.1, tyV P v
  | 0, _ => ⟨fun r hr => Or.inl ((hv.2.2.2.2 l hl).1 r hr), skF_v hv hl⟩
  | k + 1, hk => by
    obtain ⟨i1, i2⟩ := itS_v hv hl k (by omega)
    unfold itS
    by_cases h1 : (itS P l k).1 ≠ 0
    · rw [iteP_t h1]; exact ⟨i1, i2⟩
    · rw [iteP_f h1]
      by_cases h2 : (itS P l k).2.1 ≠ 0
      · rw [iteP_t h2]; exact ⟨i1, i2⟩
      · rw [iteP_f h2]
        obtain ⟨c, x, y, z, ec, ex, ey, ez, hm⟩ := ins_b hv hl (by omega : (k : Int) < pK P l)
        rw [ec, ex, ey, ez, tn, tn, tn]
        exact stepS_v hv i1 i2 hm
section Ck
variable {L : Nat} {h : mH} {P : Nat → Int}
def CkI (h : mH) (P : Nat → Int) (l k : Nat) : Prop := CkR h (itS P l k).2.2.1 (itS P l k).2.2.2.1 (pO P l) ∧ h.2 15 6 = (itS P l k).2.1 ∧ h.2 15 8 = (itS P l k).2.2.2.2 ∧ h.2 15 9 = (itS P l k).1
theorem c_passes52 (hL : Ly L h) (x1 x2 x3 : Int) : B_Ck_passes_52 15 x1 x2 x3 h = some (b2i (h.2 15 9 = 0), h) := by
  rw [q_Ck_passes_52, g_15 hL (by decide), Option.bind_some]
  by_cases h1 : h.2 15 9 ≠ 0
  · rw [if_pos h1, b2i_f h1]
  · rw [if_neg h1, b2i_t (Decidable.not_not.mp h1)]
theorem c_passes7 (hv : Val P) {l many : Nat} (hl : (l : Int) < pL P) (hm : (many : Int) ≤ pK P l) : ∀ (n k : Nat) (h : mH), k + n = many → CkP L h P → CkT h P → CkI h P l k →
    ∃ h', B_Ck_passes_7 15 (l : Int) (many : Int) (k : Int) h = some (b2i ((itS P l many).1 = 0), h') ∧ CkF h h' ∧ CkI h' P l many
  | 0, k, h, e, hc, ht, hi => by
    have : k = many := by omega
    subst this
    refine ⟨h, ?_, CkF_rf h, hi⟩
    rw [q_Ck_passes_7, if_pos (by omega), c_passes52 hc.1, hi.2.2.2]
  | n + 1, k, h, e, hc, ht, hi => by
    obtain ⟨i1, i2, i3, i4⟩ := id hi
    rw [q_Ck_passes_7, if_neg (by omega), g_15 hc.1 (by decide), Option.bind_some, i4]
    by_cases h1 : (itS P l k).1 ≠ 0
    · have es : itS P l many = itS P l k := by
        have := itS_stop h1 (n + 1)
        rw [show k + (n + 1) = many by omega] at this
        exact this
      refine ⟨h, ?_, CkF_rf h, ?_⟩
      · rw [if_pos h1, c_passes52 hc.1, i4, es]
      · unfold CkI
        rw [es]
        exact hi
    · rw [if_neg h1, f_15 hc.1 (by decide), Option.bind_some]
      have f8 := CkF_15 h (j := 8) (k : Int) (by decide)
      have hc8 := CkF_P f8 hc
      have ht8 := CkF_T f8 ht
      have r8 := CkR_oth (j := 8) (k : Int) (by decide) (by decide) i1
      have hk1 : (k : Int) < pK P l := by omega
      have hkn : (k + 1) + n = many := by omega
      have e1 : w32 ((k : Int) + 1) = ((k + 1 : Nat) : Int) := by
        have := (hv.2.2.2.2 l hl).2.2.2.2.1
        unfold w32
        omega
      rw [g_15 hc8.1 (by decide), Option.bind_some, mw_d _ _ (by decide), i2]
      -- what follows a step
      have fin : ∀ (r : Int) (h2 : mH), CkF h h2 → CkP L h2 P → CkT h2 P → CkI (mw h2 15 9 r) P l (k + 1) → ∃ h', B_Ck_passes_43 15 (l : Int) (many : Int) (k : Int) r 15 h2 = some (b2i ((itS P l many).1 = 0), h') ∧ CkF h h' ∧ CkI h' P l many := by
        intro r h2 q1 q2 q3 q4
        have f9 := CkF_15 h2 (j := 9) r (by decide)
        obtain ⟨h', z1, z2, z3⟩ := c_passes7 hv hl hm n (k + 1) _ hkn (CkF_P f9 q2) (CkF_T f9 q3) q4
        refine ⟨h', ?_, CkF_tr q1 (CkF_tr f9 z2), z3⟩
        rw [q_Ck_passes_43, f_15 q2.1 (by decide), Option.bind_some, e1, z1]
      have eit : itS P l (k + 1) = iteP ((itS P l k).2.1 ≠ 0) (9, (itS P l k).2.1, (itS P l k).2.2.1, (itS P l k).2.2.2.1, (k : Int))
          ((stepS P (itS P l k).2.2.1 (itS P l k).2.2.2.1 (pO P l) (pC P l k 0) (pC P l k 1).toNat (pC P l k 2).toNat (pC P l k 3).toNat).1, iteP (endS (pC P l k 0)) 1 (itS P l k).2.1,
           (stepS P (itS P l k).2.2.1 (itS P l k).2.2.2.1 (pO P l) (pC P l k 0) (pC P l k 1).toNat (pC P l k 2).toNat (pC P l k 3).toNat).2.1,
           (stepS P (itS P l k).2.2.1 (itS P l k).2.2.2.1 (pO P l) (pC P l k 0) (pC P l k 1).toNat (pC P l k 2).toNat (pC P l k 3).toNat).2.2, (k : Int)) := iteP_f h1 _ _
      by_cases h2 : (itS P l k).2.1 = 0
      · obtain ⟨v1, v2⟩ := itS_v hv hl k (Int.le_of_lt hk1)
        obtain ⟨h2', s1, s2, s3, s4, s5, s6⟩ := c_step hc8 ht8 hv r8 v1 v2 hl hk1
        rw [if_pos h2, s1, Option.bind_some]
        refine fin _ h2' (CkF_tr f8 s2) (CkF_P s2 hc8) (CkF_T s2 ht8) ?_
        unfold CkI
        rw [eit, iteP_f (fun q => q h2)]
        refine ⟨CkR_oth _ (by decide) (by decide) s3, ?_, ?_, mw_s _ _ _ _⟩
        · rw [mw_d _ _ (by decide), s4, mw_d _ _ (by decide), i2]
        · rw [mw_d _ _ (by decide), s5, mw_s]
      · rw [if_neg h2]
        refine fin 9 _ f8 hc8 ht8 ?_
        unfold CkI
        rw [eit, iteP_t h2]
        refine ⟨CkR_oth _ (by decide) (by decide) r8, ?_, ?_, mw_s _ _ _ _⟩
        · rw [mw_d _ _ (by decide), mw_d _ _ (by decide)]; exact i2
        · rw [mw_d _ _ (by decide), mw_s]
theorem c_passes (hc : CkP L h P) (ht : CkT h P) (hv : Val P) {l many : Nat} (hl : (l : Int) < pL P) (hm : (many : Int) ≤ pK P l) :
    ∃ h', F_Ck_passes 15 (l : Int) (many : Int) h = some (b2i ((itS P l many).1 = 0), h') ∧ CkF h h' ∧ CkI h' P l many := by
  obtain ⟨h1, a1, a2, a3, a4, a5, a6⟩ := c_begin hc hv (l := l) (by have := hv.2.1; omega)
  obtain ⟨h', z1, z2, z3⟩ := c_passes7 hv hl hm many 0 h1 (by omega) (CkF_P a2 hc) (CkF_T a2 ht) ⟨a3, a4, a5, a6⟩
  rw [show ((0 : Nat) : Int) = 0 from rfl] at z1
  exact ⟨h', by rw [q_Ck_passes _ _ _ _ (o_15 hc.1), a1, Option.bind_some, z1], CkF_tr a2 z2, z3⟩
/-- a block's first refusal: why, where -/
noncomputable def chkS (P : Nat → Int) (l : Nat) : Int × Int :=
  iteP ((itS P l (pK P l).toNat).1 ≠ 0) ((itS P l (pK P l).toNat).1, (itS P l (pK P l).toNat).2.2.2.2) (iteP ((itS P l (pK P l).toNat).2.1 = 0) (10, pK P l) (0, 0))
def sureS (P : Nat → Int) (l : Nat) : Prop := (chkS P l).1 = 0
theorem c_isSure (hc : CkP L h P) (ht : CkT h P) (hv : Val P) {l : Nat} (hl : (l : Int) < pL P) :
    ∃ h', F_Ck_isSure 15 (l : Int) h = some (b2i (sureS P l), h') ∧ CkF h h' ∧ h'.2 15 9 = (chkS P l).1 ∧ (¬ sureS P l → h'.2 15 8 = (chkS P l).2) := by
  obtain ⟨pa, g1, g2, g3⟩ := ck_prog hc
  have hl4 : l < 4 := by have := hv.2.1; omega
  have hk := (hv.2.2.2.2 l hl).2.2.2.2.1
  obtain ⟨many, em⟩ : ∃ many : Nat, pK P l = many := ⟨(pK P l).toNat, by omega⟩
  obtain ⟨h1, a1, a2, b1, b2, b3, b4⟩ := c_passes hc ht hv hl (many := many) (by omega)
  have L1 := CkF_Ly a2 hc.1
  rw [q_Ck_isSure _ _ _ (o_15 hc.1), g1, Option.bind_some, tn, c_size g2 hl4, Option.bind_some, g3, em]
  dsimp only
  rw [a1, Option.bind_some]
  dsimp only
  have e36 : ∀ (h2 : mH), Ly L h2 → ∀ x1 x2 : Int, B_Ck_isSure_36 15 x1 x2 h2 = some (b2i (h2.2 15 9 = 0), h2) := by
    intro h2 hL2 x1 x2
    rw [q_Ck_isSure_36, g_15 hL2 (by decide), Option.bind_some]
    by_cases z : h2.2 15 9 ≠ 0
    · rw [if_pos z, b2i_f z]
    · rw [if_neg z, b2i_t (Decidable.not_not.mp z)]
  unfold sureS chkS
  rw [em, tn]
  by_cases r0 : (itS P l many).1 = 0
  · rw [if_neg (b2i_ne.mpr r0), g_15 L1 (by decide), Option.bind_some, b2, iteP_f (fun q => q r0)]
    by_cases e0 : (itS P l many).2.1 = 0
    · have F8 := CkF_15 h1 (j := 8) (many : Int) (by decide)
      have L8 := CkF_Ly F8 L1
      have F9 := CkF_15 (mw h1 15 8 (many : Int)) (j := 9) 10 (by decide)
      have L9 := CkF_Ly F9 L8
      rw [if_neg (fun q => q e0), iteP_t e0, f_15 L1 (by decide), Option.bind_some, f_15 L8 (by decide), Option.bind_some, e36 _ L9, mw_s]
      exact ⟨_, rfl, CkF_tr a2 (CkF_tr F8 F9), mw_s _ _ _ _, fun _ => by rw [mw_d _ _ (by decide), mw_s]⟩
    · rw [if_pos e0, iteP_f e0, e36 _ L1, b4]
      refine ⟨h1, ?_, a2, by rw [b4]; exact r0, fun q => absurd rfl q⟩
      rw [b2i_t r0, b2i_t (rfl : (0 : Int) = 0)]
  · rw [if_pos (b2i_0.mpr r0), iteP_t r0, e36 _ L1, b4]
    exact ⟨h1, rfl, a2, b4, fun _ => b3⟩
/-- the labels whose blocks are sure, of the first n -/
noncomputable def sbS (P : Nat → Int) : Nat → Int
  | 0 => 0
  | n + 1 => iteP (sureS P n) (ior (sbS P n) (ishl 1 n)) (sbS P n)
theorem c_sureBits4 (hv : Val P) {N : Nat} (hN : pL P = N) : ∀ (n k : Nat) (h : mH), k + n = N → CkP L h P → CkT h P → ∃ h', B_Ck_sureBits_4 15 (sbS P k) (k : Int) h = some (sbS P N, h') ∧ CkF h h'
  | 0, k, h, e, hc, ht => by
    obtain ⟨pa, g1, g2, g3⟩ := ck_prog hc
    have : k = N := by omega
    subst this
    refine ⟨h, ?_, CkF_rf h⟩
    rw [q_Ck_sureBits_4, g1, Option.bind_some, tn, c_labels g2, Option.bind_some, g3]
    dsimp only
    rw [if_pos (by show pL P ≤ _; omega)]
  | n + 1, k, h, e, hc, ht => by
    obtain ⟨pa, g1, g2, g3⟩ := ck_prog hc
    have hb := hv.2.1
    obtain ⟨h1, a1, a2, -, -⟩ := c_isSure hc ht hv (l := k) (by omega)
    obtain ⟨h', z1, z2⟩ := c_sureBits4 hv hN n (k + 1) h1 (by omega) (CkF_P a2 hc) (CkF_T a2 ht)
    have hn : ¬ pL P ≤ (k : Int) := by omega
    have e1 : w32 ((k : Int) + 1) = ((k + 1 : Nat) : Int) := by unfold w32; omega
    refine ⟨h', ?_, CkF_tr a2 z2⟩
    rw [q_Ck_sureBits_4, g1, Option.bind_some, tn, c_labels g2, Option.bind_some, g3]
    dsimp only
    rw [if_neg hn, a1, Option.bind_some]
    dsimp only
    rw [← z1]
    by_cases hs : sureS P k
    · rw [if_neg (b2i_ne.mpr hs), q_Ck_sureBits_29, e1, show sbS P (k + 1) = ior (sbS P k) (ishl 1 k) from iteP_t hs _ _]
    · rw [if_pos (b2i_0.mpr hs), q_Ck_sureBits_29, e1, show sbS P (k + 1) = sbS P k from iteP_f hs _ _]
theorem c_sureBits (hc : CkP L h P) (ht : CkT h P) (hv : Val P) : ∃ h', F_Ck_sureBits 15 h = some (sbS P (pL P).toNat, h') ∧ CkF h h' := by
  have hb := hv.2.1
  obtain ⟨h', z1, z2⟩ := c_sureBits4 (P := P) hv (N := (pL P).toNat) (by omega) (pL P).toNat 0 h (by omega) hc ht
  exact ⟨h', by rw [q_Ck_sureBits _ _ (o_15 hc.1)]; exact z1, z2⟩
/-- the labels for which what a label wants is enough, of the first n -/
noncomputable def jbS (P : Nat → Int) (l : Nat) : Nat → Int
  | 0 => 0
  | n + 1 => iteP (jumpS P (pW P l) (skF P l 0) (pO P l) n = 0) (ior (jbS P l n) (ishl 1 n)) (jbS P l n)
theorem c_joinBits9 (hv : Val P) {N l : Nat} (hN : pL P = N) (hl : (l : Int) < pL P) (hc : CkP L h P) (ht : CkT h P) (hr : CkR h (pW P l) (skF P l 0) (pO P l)) : ∀ (n k : Nat), k + n = N → B_Ck_joinBits_9 15 (l : Int) (jbS P l k) (k : Int) h = some (jbS P l N, h)
  | 0, k, e => by
    obtain ⟨pa, g1, g2, g3⟩ := ck_prog hc
    have : k = N := by omega
    subst this
    rw [q_Ck_joinBits_9, g1, Option.bind_some, tn, c_labels g2, Option.bind_some, g3]
    dsimp only
    rw [if_pos (by show pL P ≤ _; omega)]
  | n + 1, k, e => by
    obtain ⟨pa, g1, g2, g3⟩ := ck_prog hc
    have hb := hv.2.1
    have hn : ¬ pL P ≤ (k : Int) := by omega
    have hk1 : (k : Int) < pL P := by omega
    have hkn : k + 1 + n = N := by omega
    have e1 : w32 ((k : Int) + 1) = ((k + 1 : Nat) : Int) := by unfold w32; omega
    rw [q_Ck_joinBits_9, g1, Option.bind_some, tn, c_labels g2, Option.bind_some, g3]
    dsimp only
    rw [if_neg hn, c_jump hc ht hv hr (fun r hr => Or.inl ((hv.2.2.2.2 l hl).1 r hr)) (skF_v hv hl) hk1, Option.bind_some]
    dsimp only
    rw [← c_joinBits9 hv hN hl hc ht hr n (k + 1) hkn]
    by_cases hs : jumpS P (pW P l) (skF P l 0) (pO P l) k = 0
    · rw [if_neg (fun q => q hs), q_Ck_joinBits_34, e1, show jbS P l (k + 1) = ior (jbS P l k) (ishl 1 k) from iteP_t hs _ _]
    · rw [if_pos hs, q_Ck_joinBits_34, e1, show jbS P l (k + 1) = jbS P l k from iteP_f hs _ _]
theorem c_joinBits (hc : CkP L h P) (ht : CkT h P) (hv : Val P) {l : Nat} (hl : (l : Int) < pL P) : ∃ h', F_Ck_joinBits 15 (l : Int) h = some (jbS P l (pL P).toNat, h') ∧ CkF h h' := by
  have hb := hv.2.1
  obtain ⟨h1, a1, a2, a3, -⟩ := c_begin hc hv (l := l) (by omega)
  have z := c_joinBits9 hv (N := (pL P).toNat) (by omega) hl (CkF_P a2 hc) (CkF_T a2 ht) a3 (pL P).toNat 0 (by omega)
  exact ⟨h1, by rw [q_Ck_joinBits _ _ _ (o_15 hc.1), a1, Option.bind_some]; exact z, a2⟩
end Ck
