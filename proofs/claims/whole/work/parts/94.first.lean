/-! THE FIRST PROGRAM: its text is read -/
theorem iteP_d {α : Type} {p : Prop} [d : Decidable p] (x y : α) : iteP p x y = if p then x else y := by
  by_cases q : p
  · rw [iteP_t q, if_pos q]
  · rw [iteP_f q, if_neg q]
def fgC (T : Nat → Int) (n i : Nat) : Int × Nat := if 48 ≤ pk T n i ∧ pk T n i ≤ 57 then (pk T n i - 48, i + 1) else (-1, i)
def nmC (T : Nat → Int) (n i : Nat) : Int × Nat := if 48 ≤ pk T n i ∧ pk T n i ≤ 57 then (if 48 ≤ pk T n (i + 1) ∧ pk T n (i + 1) ≤ 57 then ((pk T n i - 48) * 10 + (pk T n (i + 1) - 48), i + 2) else (pk T n i - 48, i + 1)) else (-1, i)
def srFC (T : Nat → Int) (n t : Nat) : Nat → Nat → (Nat → Int) → Option (Nat × (Nat → Int))
  | 0, i, Q => some (i, Q)
  | m + 1, i, Q => if 48 ≤ pk T n i ∧ pk T n i ≤ 57 then (if pk T n i - 48 ≤ t then srFC T n t m (i + 1) (addF Q t (pk T n i - 48 + 1)) else none) else some (i, Q)
def srEC (T : Nat → Int) (n t : Nat) : Option (Nat × (Nat → Int)) → Option (Nat × (Nat → Int))
  | none => none
  | some (j, R) => if 0 < pFn R t ∧ pk T n j = 59 then some (j + 1, ru R 0 (pS R + 1)) else none
def sortIC (T : Nat → Int) (n i : Nat) (Q : Nat → Int) : Option (Nat × (Nat → Int)) := if pS Q < 4 then srEC T n (pS Q).toNat (srFC T n (pS Q).toNat 3 i Q) else none
def lbRC (T : Nat → Int) (n l : Nat) : Nat → Nat → Nat → (Nat → Int) → Option (Nat × (Nat → Int))
  | 0, _, i, Q => some (i, Q)
  | m + 1, r, i, Q => if 0 ≤ (fgC T n i).1 ∧ (fgC T n i).1 < 10 ∧ ((fgC T n i).1 < 2 ∨ 6 ≤ (fgC T n i).1 ∨ (fgC T n i).1 - 2 < pS Q) then lbRC T n l m (r + 1) (fgC T n i).2 (ru Q (18 + 34 * l + r) (fgC T n i).1) else none
def lbKC (T : Nat → Int) (n l : Nat) : Nat → Nat → (Nat → Int) → Option (Nat × (Nat → Int))
  | 0, i, Q => some (i, Q)
  | m + 1, i, Q => if 48 ≤ pk T n i ∧ pk T n i ≤ 57 then (if 0 ≤ pk T n i - 48 ∧ pk T n i - 48 < 10 ∧ (pk T n i - 48 < 2 ∨ 6 ≤ pk T n i - 48 ∨ pk T n i - 48 - 2 < pS Q) then lbKC T n l m (i + 1) (addB Q l (pk T n i - 48)) else none) else some (i, Q)
def lbE2C (T : Nat → Int) (n l : Nat) : Option (Nat × (Nat → Int)) → Option (Nat × (Nat → Int))
  | none => none
  | some (k, S) => if pk T n k = 44 ∧ (0 ≤ (nmC T n (k + 1)).1 ∧ (nmC T n (k + 1)).1 ≤ 1) ∧ pk T n (nmC T n (k + 1)).2 = 59 then some ((nmC T n (k + 1)).2 + 1, ru (ru S (26 + 34 * l) (nmC T n (k + 1)).1) 1 (pL S + 1)) else none
def lbE1C (T : Nat → Int) (n l : Nat) : Option (Nat × (Nat → Int)) → Option (Nat × (Nat → Int))
  | none => none
  | some (j, R) => if pk T n j = 44 then lbE2C T n l (lbKC T n l 3 (j + 1) R) else none
def labIC (T : Nat → Int) (n i : Nat) (Q : Nat → Int) : Option (Nat × (Nat → Int)) := if pL Q < 4 then lbE1C T n (pL Q).toNat (lbRC T n (pL Q).toNat 4 0 i Q) else none
def insIC (T : Nat → Int) (n i : Nat) (Q : Nat → Int) : Option (Nat × (Nat → Int)) :=
  if (1 ≤ pL Q ∧ pK Q (pL Q - 1).toNat < 6) ∧ pk T n (nmC T n i).2 = 44 ∧ pk T n (nmC T n ((nmC T n i).2 + 1)).2 = 44 ∧ pk T n (nmC T n ((nmC T n ((nmC T n i).2 + 1)).2 + 1)).2 = 44 ∧ pk T n (nmC T n ((nmC T n ((nmC T n ((nmC T n i).2 + 1)).2 + 1)).2 + 1)).2 = 59 ∧
      ((0 ≤ (nmC T n i).1 ∧ (nmC T n i).1 < 14) ∧ (0 ≤ (nmC T n ((nmC T n i).2 + 1)).1 ∧ (nmC T n ((nmC T n i).2 + 1)).1 < chs (oprL.getD (3 * (nmC T n i).1.toNat) 0) (pS Q) 4) ∧ (0 ≤ (nmC T n ((nmC T n ((nmC T n i).2 + 1)).2 + 1)).1 ∧ (nmC T n ((nmC T n ((nmC T n i).2 + 1)).2 + 1)).1 < chs (oprL.getD (3 * (nmC T n i).1.toNat + 1) 0) (pS Q) 4) ∧ (0 ≤ (nmC T n ((nmC T n ((nmC T n ((nmC T n i).2 + 1)).2 + 1)).2 + 1)).1 ∧ (nmC T n ((nmC T n ((nmC T n ((nmC T n i).2 + 1)).2 + 1)).2 + 1)).1 < chs (oprL.getD (3 * (nmC T n i).1.toNat + 2) 0) (pS Q) 4))
    then (some ((nmC T n ((nmC T n ((nmC T n ((nmC T n i).2 + 1)).2 + 1)).2 + 1)).2 + 1, insS (ru Q (27 + 34 * (pL Q - 1).toNat) (pK Q (pL Q - 1).toNat + 1)) (pL Q - 1).toNat (pK Q (pL Q - 1).toNat).toNat (nmC T n i).1 (nmC T n ((nmC T n i).2 + 1)).1 (nmC T n ((nmC T n ((nmC T n i).2 + 1)).2 + 1)).1 (nmC T n ((nmC T n ((nmC T n ((nmC T n i).2 + 1)).2 + 1)).2 + 1)).1)) else none
def itemC (T : Nat → Int) (n i : Nat) (Q : Nat → Int) : Option (Nat × (Nat → Int)) :=
  if pk T n i = 105 then insIC T n (i + 1) Q else if pk T n i = 108 then labIC T n (i + 1) Q else if pk T n i = 115 then sortIC T n (i + 1) Q else none
def rdC (T : Nat → Int) (n : Nat) : Nat → Nat → (Nat → Int) → Int × (Nat → Int)
  | 0, _, Q => (-4, Q)
  | m + 1, i, Q => if i < n then (match itemC T n i Q with
    | none => ((i : Int), Q)
    | some jr => rdC T n m jr.1 jr.2) else (-4, Q)
section Cp
variable {T : Nat → Int} {n : Nat}
theorem fg_c (i : Nat) : fgS T n i = fgC T n i := iteP_d (p := 48 ≤ pk T n i ∧ pk T n i ≤ 57) _ _
theorem nm_c (i : Nat) : nmS T n i = nmC T n i := by
  unfold nmC
  rw [← iteP_d (p := 48 ≤ pk T n (i + 1) ∧ pk T n (i + 1) ≤ 57), ← iteP_d (p := 48 ≤ pk T n i ∧ pk T n i ≤ 57)]
  rfl
theorem srF_c (t : Nat) : ∀ (m i : Nat) (Q : Nat → Int), srF T n t m i Q = srFC T n t m i Q
  | 0, _, _ => rfl
  | m + 1, i, Q => by
    unfold srFC
    rw [← srF_c t m, ← iteP_d (p := pk T n i - 48 ≤ t), ← iteP_d (p := 48 ≤ pk T n i ∧ pk T n i ≤ 57)]
    rfl
theorem srE_c (t : Nat) (x : Option (Nat × (Nat → Int))) : srE T n t x = srEC T n t x := by
  cases x with
  | none => rfl
  | some jr =>
    show iteP _ _ _ = if _ then _ else _
    exact iteP_d _ _
theorem sortI_c (i : Nat) (Q : Nat → Int) : sortI T n i Q = sortIC T n i Q := by
  unfold sortI sortIC
  rw [iteP_d, srE_c, srF_c]
theorem lbR_c (l : Nat) : ∀ (m r i : Nat) (Q : Nat → Int), lbR T n l m r i Q = lbRC T n l m r i Q
  | 0, _, _, _ => rfl
  | m + 1, r, i, Q => by
    unfold lbRC
    rw [← lbR_c l m, ← fg_c, ← iteP_d]
    rfl
theorem lbK_c (l : Nat) : ∀ (m i : Nat) (Q : Nat → Int), lbK T n l m i Q = lbKC T n l m i Q
  | 0, _, _ => rfl
  | m + 1, i, Q => by
    unfold lbKC
    rw [← lbK_c l m, ← iteP_d (p := 0 ≤ pk T n i - 48 ∧ pk T n i - 48 < 10 ∧ (pk T n i - 48 < 2 ∨ 6 ≤ pk T n i - 48 ∨ pk T n i - 48 - 2 < pS Q)), ← iteP_d (p := 48 ≤ pk T n i ∧ pk T n i ≤ 57)]
    rfl
theorem lbE2_c (l : Nat) (x : Option (Nat × (Nat → Int))) : lbE2 T n l x = lbE2C T n l x := by
  cases x with
  | none => rfl
  | some jr =>
    obtain ⟨k, S⟩ := jr
    show iteP _ _ _ = if _ then _ else _
    rw [← nm_c]
    exact iteP_d _ _
theorem lbE1_c (l : Nat) (x : Option (Nat × (Nat → Int))) : lbE1 T n l x = lbE1C T n l x := by
  cases x with
  | none => rfl
  | some jr =>
    obtain ⟨k, S⟩ := jr
    show iteP _ _ _ = if _ then _ else _
    rw [← lbK_c, ← lbE2_c]
    exact iteP_d _ _
theorem labI_c (i : Nat) (Q : Nat → Int) : labI T n i Q = labIC T n i Q := by
  unfold labI labIC
  rw [iteP_d, lbE1_c, lbR_c]
theorem insI_c (i : Nat) (Q : Nat → Int) : insI T n i Q = insIC T n i Q := by
  unfold insI insIC mayS
  simp only [nm_c]
  exact iteP_d _ _
theorem item_c (i : Nat) (Q : Nat → Int) : itemS T n i Q = itemC T n i Q := by
  unfold itemS itemC
  rw [insI_c, labI_c, sortI_c]
theorem rd_c : ∀ (m i : Nat) (Q : Nat → Int), rdS T n m i Q = rdC T n m i Q
  | 0, _, _ => rfl
  | m + 1, i, Q => by
    show (if i < n then _ else _) = if i < n then _ else _
    rw [item_c]
    by_cases q : i < n
    · rw [if_pos q, if_pos q]
      cases itemC T n i Q with
      | none => rfl
      | some jr => exact rd_c m jr.1 jr.2
    · rw [if_neg q, if_neg q]
end Cp
def fstL : List Int := [115, 48, 48, 59, 115, 49, 48, 59, 108, 49, 49, 49, 49, 44, 44, 48, 59, 105, 51, 44, 49, 44, 48, 44, 48, 59, 105, 52, 44, 49, 44, 48, 44, 48, 59, 105, 52, 44, 49, 44, 49, 44, 50, 59, 105, 54, 44, 49, 44, 48, 44, 48, 59, 105, 49, 49, 44, 49, 44, 50, 44, 48, 59, 108, 49, 48, 49, 56, 44, 50, 44, 49, 59, 105, 55, 44, 49, 44, 48, 44, 48, 59, 105, 53, 44, 48, 44, 49, 44, 48, 59, 105, 50, 44, 48, 44, 50, 44, 48, 59, 105, 49, 50, 44, 51, 44, 48, 44, 48, 59, 108, 49, 48, 48, 48, 44, 44, 49, 59, 105, 49, 51, 44, 48, 44, 48, 44, 48, 59]
def pfL : List Int := [2, 3, 2, 1, 1, 0, 2, 2, 1, 0, 0, 0, 0, 0, 0, 0, 0, 0, 1, 1, 1, 1, 0, 0, 0, 0, 0, 5, 3, 1, 0, 0, 4, 1, 0, 0, 4, 1, 1, 2, 6, 1, 0, 0, 11, 1, 2, 0, 0, 0, 0, 0, 1, 0, 1, 8, 1, 2, 0, 0, 1, 4, 7, 1, 0, 0, 5, 0, 1, 0, 2, 0, 2, 0, 12, 3, 0, 0, 0, 0, 0, 0, 0, 0, 0, 0, 1, 0, 0, 0, 0, 0, 0, 0, 1, 1, 13, 0, 0, 0, 0, 0, 0, 0, 0, 0, 0, 0, 0, 0, 0, 0, 0, 0, 0, 0, 0, 0, 0, 0, 0, 0, 0, 0, 0, 0, 0, 0, 0, 0, 0, 0, 0, 0, 0, 0, 0, 0, 0, 0, 0, 0, 0, 0, 0, 0, 0, 0, 0, 0, 0, 0, 0, 0]
def fstF (j : Nat) : Int := fstL.getD j 0
def P0 (j : Nat) : Int := pfL.getD j 0
theorem rd_1 : (rdC fstF 129 200 0 (fun _ => 0)).1 = -4 := by decide +kernel
theorem rd_2 : ∀ j : Fin 154, (rdC fstF 129 200 0 (fun _ => 0)).2 j.val = P0 j.val := by decide +kernel
