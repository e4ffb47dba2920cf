/-! THE MODEL READS: a type, a sort -/
/-- what is told -/
def MTo (Q : Nat → Int) (h : mH) : Prop := h.2 43 6 = pS Q ∧ h.2 43 9 = pL Q ∧ (∀ t : Nat, (t : Int) < pS Q → h.2 48 t = pFn Q t ∧ ∀ f : Nat, (f : Int) < pFn Q t → h.2 49 (3 * t + f) = pFt Q t f) ∧ (∀ l : Nat, (l : Int) < pL Q → h.2 50 l = pH Q l ∧ ∀ i : Nat, (i : Int) < pH Q l → h.2 51 (3 * l + i) = pT Q l i) ∧ Sl (h.2 52) 0 Q
theorem MTo_n {Q : Nat → Int} {h h' : mH} (f : Mn h h') (hm : MTo Q h) : MTo Q h' := by
  obtain ⟨m1, m2, m3, m4, m5⟩ := hm
  refine ⟨by rw [f.2.2 6 (by decide) (by decide)]; exact m1, by rw [f.2.2 9 (by decide) (by decide)]; exact m2, ?_, ?_, by rw [f.2.1 52 (by decide)]; exact m5⟩
  · rw [f.2.1 48 (by decide), f.2.1 49 (by decide)]; exact m3
  · rw [f.2.1 50 (by decide), f.2.1 51 (by decide)]; exact m4
theorem MTo_13 {Q : Nat → Int} {h : mH} (v : Int) (hm : MTo Q h) : MTo Q (mw h 43 13 v) := by
  obtain ⟨m1, m2, m3, m4, m5⟩ := hm
  refine ⟨by rw [mw_d _ _ (by decide)]; exact m1, by rw [mw_d _ _ (by decide)]; exact m2, ?_, ?_, by rw [mw_o _ _ _ (by decide)]; exact m5⟩
  · rw [mw_o _ _ _ (by decide), mw_o _ _ _ (by decide)]; exact m3
  · rw [mw_o _ _ _ (by decide), mw_o _ _ _ (by decide)]; exact m4
/-- labels that are meant -/
def meanQ (Q : Nat → Int) (b : Nat) : Prop := ∃ l : Nat, (l : Int) < pL Q ∧ mean Q l b
def MMn (Q : Nat → Int) (h : mH) : Prop := B16 (h.2 43 13) ∧ ∀ b, b < 4 → (hasB (h.2 43 13) b ↔ meanQ Q b)
theorem mean_c {Q R : Nat → Int} {l : Nat} (e : ∀ j, 18 + 34 * l ≤ j → j < 52 + 34 * l → R j = Q j) (hH : 0 ≤ pH Q l ∧ pH Q l ≤ 3) (hK : 0 ≤ pK Q l ∧ pK Q l ≤ 6) (b : Nat) : mean R l b ↔ mean Q l b := by
  have eK : pK R l = pK Q l := e _ (by omega) (by omega)
  have eH : pH R l = pH Q l := e _ (by omega) (by omega)
  have eW : ∀ r, r < 4 → pW R l r = pW Q l r := fun r hr => e _ (by omega) (by omega)
  have eT : ∀ r, r < 3 → pT R l r = pT Q l r := fun r hr => e _ (by omega) (by omega)
  have eC : ∀ k p, k < 6 → p < 4 → pC R l k p = pC Q l k p := fun k p hk hp => e _ (by omega) (by omega)
  unfold mean
  rw [eK, eH]
  constructor
  · rintro (⟨i, h1, h2⟩ | ⟨r, h1, h2⟩ | ⟨r, h1, h2⟩)
    · refine Or.inl ⟨i, h1, ?_⟩
      rw [eC i 0 (by omega) (by omega), eC i 1 (by omega) (by omega), eC i 2 (by omega) (by omega)] at h2
      exact h2
    · exact Or.inr (Or.inl ⟨r, h1, by rw [eW r h1] at h2; exact h2⟩)
    · exact Or.inr (Or.inr ⟨r, h1, by rw [eT r (by omega)] at h2; exact h2⟩)
  · rintro (⟨i, h1, h2⟩ | ⟨r, h1, h2⟩ | ⟨r, h1, h2⟩)
    · refine Or.inl ⟨i, h1, ?_⟩
      rw [eC i 0 (by omega) (by omega), eC i 1 (by omega) (by omega), eC i 2 (by omega) (by omega)]
      exact h2
    · exact Or.inr (Or.inl ⟨r, h1, by rw [eW r h1]; exact h2⟩)
    · exact Or.inr (Or.inr ⟨r, h1, by rw [eT r (by omega)]; exact h2⟩)
theorem mean_e {Q R : Nat → Int} (e : ∀ j, 18 ≤ j → R j = Q j) (l b : Nat) : mean R l b ↔ mean Q l b := by
  have eK : pK R l = pK Q l := e _ (by omega)
  have eH : pH R l = pH Q l := e _ (by omega)
  have eW : ∀ r, pW R l r = pW Q l r := fun r => e _ (by omega)
  have eT : ∀ r, pT R l r = pT Q l r := fun r => e _ (by omega)
  have eC : ∀ k p, pC R l k p = pC Q l k p := fun k p => e _ (by omega)
  unfold mean
  simp only [eK, eH, eW, eT, eC]
theorem MMn_c {Q R : Nat → Int} {h h' : mH} (e : ∀ j, 18 ≤ j → R j = Q j) (eL : pL R = pL Q) (e13 : h'.2 43 13 = h.2 43 13) (hm : MMn Q h) : MMn R h' := by
  unfold MMn
  rw [e13]
  refine ⟨hm.1, fun b hb => (hm.2 b hb).trans ?_⟩
  unfold meanQ
  rw [eL]
  exact ⟨fun ⟨l, a, c⟩ => ⟨l, a, (mean_e e l b).mpr c⟩, fun ⟨l, a, c⟩ => ⟨l, a, (mean_e e l b).mp c⟩⟩
/-- an item of the model: wrong, or read up to its end -/
def MIt (L n : Nat) (T : Nat → Int) (h : mH) (r : Option (Nat × (Nat → Int))) (x : Option mH) : Prop :=
  ∃ h', x = some h' ∧ Mp h h' ∧ ∃ j : Nat, h'.2 43 19 = (j : Int) ∧ j ≤ 900 ∧ ((h'.2 43 21 = 1 ∧ r = none) ∨ (h'.2 43 21 = 0 ∧ ∃ R, MTo R h' ∧ MMn R h' ∧ r = iteP (pk T n j = 59) (some (j + 1, R)) none))
theorem MIt_tr {L n : Nat} {T : Nat → Int} {h h1 : mH} {r : Option (Nat × (Nat → Int))} {x : Option mH} (f : Mp h h1) (a : MIt L n T h1 r x) : MIt L n T h r x := by
  obtain ⟨h', b1, b2, b3⟩ := a
  exact ⟨h', b1, Mp_tr f b2, b3⟩
theorem cb_of {v : Int} (h0 : 0 ≤ v) (h1 : v < 10) : cbS v = if v ≤ 5 then 0 else ishl 1 (w32 (v - 6)) := by
  unfold cbS
  by_cases q : v ≤ 5
  · rw [if_pos (by omega), if_pos q]
  · rw [if_neg (by omega), if_neg (by omega), if_neg q, w32_id (by omega) (by omega)]
section Mp
variable {L n i : Nat} {T Q : Nat → Int} {h : mH} {W : Prop}
/-- a type is read -/
theorem m_type (hx : Mx L n T h) (hi : h.2 43 19 = (i : Int)) (i9 : i ≤ 900) (hw : h.2 43 21 = b2i W) (hs : h.2 43 6 = pS Q) (hs4 : 0 ≤ pS Q ∧ pS Q ≤ 4) :
    ∃ h' v, F_Md_type 43 h = some (v, h') ∧ h' = mw (mw (mw h 43 21 (b2i (W ∨ ¬ tld Q (fgS T n i).1))) 43 13 (ior (h.2 43 13) (cbS v))) 43 19 ((i + 1 : Nat) : Int) ∧ (tld Q (fgS T n i).1 → v = (fgS T n i).1 ∧ (fgS T n i).2 = i + 1) ∧ 0 ≤ v ∧ v < 10 := by
  have hL := hx.1
  have i1 : i < 1000 := by omega
  -- the end
  have e94 : ∀ (x w v : Int), 0 ≤ v → v < 10 → w = b2i (W ∨ ¬ tld Q (fgS T n i).1) → B_Md_type_94 43 x v (mw h 43 21 w) = some (v, mw (mw (mw h 43 21 (b2i (W ∨ ¬ tld Q (fgS T n i).1))) 43 13 (ior (h.2 43 13) (cbS v))) 43 19 ((i + 1 : Nat) : Int)) := fun x w v v0 v1 ew => by
    rw [ew]
    have L1 : LyM L (mw h 43 21 (b2i (W ∨ ¬ tld Q (fgS T n i).1))) := LyM_mw hL rfl
    have L2 : LyM L (mw (mw h 43 21 (b2i (W ∨ ¬ tld Q (fgS T n i).1))) 43 13 (ior (h.2 43 13) (cbS v))) := LyM_mw L1 rfl
    have f115 : ∀ s : Int, s = cbS v → B_Md_type_115 43 x v s (h.2 43 13) 43 (mw h 43 21 (b2i (W ∨ ¬ tld Q (fgS T n i).1))) = some (v, mw (mw (mw h 43 21 (b2i (W ∨ ¬ tld Q (fgS T n i).1))) 43 13 (ior (h.2 43 13) (cbS v))) 43 19 ((i + 1 : Nat) : Int)) := fun s es => by
      rw [es, q_Md_type_115, f_43 L1 (by decide), Option.bind_some, g_43 L2 (by decide), Option.bind_some, mw_d _ _ (by decide), mw_d _ _ (by decide), hi, w32_nn i i1, f_43 L2 (by decide), Option.bind_some]
    have ec := cb_of v0 v1
    rw [q_Md_type_94, g_43 L1 (by decide), Option.bind_some, mw_d _ _ (by decide)]
    by_cases q : v ≤ 5
    · rw [if_pos q] at ec ⊢
      exact f115 0 ec.symm
    · rw [if_neg q] at ec ⊢
      exact f115 _ ec.symm
  have e54 : ∀ s : Int, s = b2i (tld Q (fgS T n i).1) → B_Md_type_54 43 s h = B_Md_type_72 43 s (b2i (W ∨ ¬ tld Q (fgS T n i).1)) 43 h := fun s es => by
    rw [q_Md_type_54, g_43 hL (by decide), Option.bind_some, hw]
    by_cases q : W
    · rw [b2i_t q, if_pos (by decide), q_Md_type_67, b2i_t (p := W ∨ ¬ tld Q (fgS T n i).1) (Or.inl q)]
    · rw [b2i_f q, if_neg (by decide), es]
      by_cases r : tld Q (fgS T n i).1
      · rw [b2i_t r, if_pos (by decide), b2i_f (p := W ∨ ¬ tld Q (fgS T n i).1) (fun z => z.elim q (fun z => z r))]
      · rw [b2i_f r, if_neg (by decide), q_Md_type_67, b2i_t (p := W ∨ ¬ tld Q (fgS T n i).1) (Or.inr r)]
  have no : ¬ tld Q (fgS T n i).1 → ∃ h' v, B_Md_type_53 43 h = some (v, h') ∧ h' = mw (mw (mw h 43 21 (b2i (W ∨ ¬ tld Q (fgS T n i).1))) 43 13 (ior (h.2 43 13) (cbS v))) 43 19 ((i + 1 : Nat) : Int) ∧ (tld Q (fgS T n i).1 → v = (fgS T n i).1 ∧ (fgS T n i).2 = i + 1) ∧ 0 ≤ v ∧ v < 10 := fun r => by
    refine ⟨_, 0, ?_, rfl, fun z => absurd z r, by decide, by decide⟩
    rw [q_Md_type_53, e54 0 (b2i_f r).symm, q_Md_type_72, bz_b, f_43 hL (by decide), Option.bind_some, if_pos rfl]
    exact e94 0 _ 0 (by decide) (by decide) rfl
  have yes : isFg (pk T n i) → tld Q (fgS T n i).1 → ∃ h' v, B_Md_type_49 43 h = some (v, h') ∧ h' = mw (mw (mw h 43 21 (b2i (W ∨ ¬ tld Q (fgS T n i).1))) 43 13 (ior (h.2 43 13) (cbS v))) 43 19 ((i + 1 : Nat) : Int) ∧ (tld Q (fgS T n i).1 → v = (fgS T n i).1 ∧ (fgS T n i).2 = i + 1) ∧ 0 ≤ v ∧ v < 10 := fun q r => by
    have q' := q
    unfold isFg at q'
    have ef : fgS T n i = (pk T n i - 48, i + 1) := iteP_t q _ _
    have f1 : Mn h (mw h 43 21 (b2i (W ∨ ¬ tld Q (fgS T n i).1))) := Mn_43 h _ (Or.inr rfl)
    have x1 := Mp_x (Mn_p f1) hx
    refine ⟨_, pk T n i - 48, ?_, rfl, fun _ => by rw [ef]; exact ⟨rfl, rfl⟩, by omega, by omega⟩
    rw [q_Md_type_49, e54 1 (b2i_t r).symm, q_Md_type_72, bz_b, f_43 hL (by decide), Option.bind_some, if_neg (by decide), g_43 x1.1 (by decide), Option.bind_some, mw_d _ _ (by decide), hi, m_letter x1, Option.bind_some]
    dsimp only
    rw [w32_id (by omega) (by omega)]
    exact e94 1 _ _ (by omega) (by omega) rfl
  rw [q_Md_type _ _ (o_43 hL), m_isFig hx hi, Option.bind_some]
  dsimp only
  by_cases q : isFg (pk T n i)
  · have q' := q
    unfold isFg at q'
    have ef : (fgS T n i).1 = pk T n i - 48 := by unfold fgS; rw [iteP_t q]
    rw [b2i_t q, if_neg (by decide), g_43 hL (by decide), Option.bind_some, hi, m_letter hx, Option.bind_some]
    dsimp only
    rw [w32_id (x := pk T n i - 48) (by omega) (by omega), c_in, Option.bind_some]
    dsimp only
    by_cases r : 2 ≤ pk T n i - 48 ∧ pk T n i - 48 ≤ 5
    · rw [b2i_t r, if_neg (by decide), g_43 hL (by decide), Option.bind_some, hi, m_letter hx, Option.bind_some]
      dsimp only
      rw [g_43 hL (by decide), Option.bind_some, hs, w32_id (x := pk T n i - 50) (by omega) (by omega)]
      by_cases s : pS Q ≤ pk T n i - 50
      · rw [if_pos s]
        exact no (by rw [ef]; unfold tld; omega)
      · rw [if_neg s]
        exact yes q (by rw [ef]; unfold tld; omega)
    · rw [b2i_f r, if_pos rfl]
      exact yes q (by rw [ef]; unfold tld; omega)
  · rw [b2i_f q, if_pos rfl]
    have ef : (fgS T n i).1 = -1 := by unfold fgS; rw [iteP_f q]
    exact no (by rw [ef]; unfold tld; omega)
end Mp
