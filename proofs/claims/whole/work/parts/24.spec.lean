/-! WHAT THE DOCUMENT'S CHECK MEANS, on a program's row -/
noncomputable def b2i (p : Prop) : Int := by
  classical
  exact if p then 1 else 0
theorem b2i_t {p : Prop} (h : p) : b2i p = 1 := by unfold b2i; exact if_pos h
theorem b2i_f {p : Prop} (h : ¬ p) : b2i p = 0 := by unfold b2i; exact if_neg h
theorem b2i_ne {p : Prop} : b2i p ≠ 0 ↔ p := by
  by_cases h : p
  · rw [b2i_t h]; simp [h]
  · rw [b2i_f h]; simp [h]
theorem b2i_0 {p : Prop} : b2i p = 0 ↔ ¬ p := by
  by_cases h : p
  · rw [b2i_t h]; simp [h]
  · rw [b2i_f h]; simp [h]
theorem b2i_01 (p : Prop) : b2i p = 0 ∨ b2i p = 1 := by
  by_cases h : p
  · exact Or.inr (b2i_t h)
  · exact Or.inl (b2i_f h)
theorem b2i_c {p q : Prop} (h : p ↔ q) : b2i p = b2i q := by rw [propext h]
theorem b2i_ite {c : Prop} [Decidable c] : (if c then (1 : Int) else 0) = b2i c := by
  split
  · rename_i h; rw [b2i_t h]
  · rename_i h; rw [b2i_f h]
theorem rz_b (p : Prop) (h : mH) : rz (b2i p) h = some (b2i p, h) := if_pos (b2i_01 p)
/-- if-then-else over any proposition -/
noncomputable def iteP {α : Type} (p : Prop) (x y : α) : α := by
  classical
  exact if p then x else y
theorem iteP_t {α : Type} {p : Prop} (h : p) (x y : α) : iteP p x y = x := by unfold iteP; exact if_pos h
theorem iteP_f {α : Type} {p : Prop} (h : ¬ p) (x y : α) : iteP p x y = y := by unfold iteP; exact if_neg h
theorem iteP_c {α : Type} {p q : Prop} (h : p ↔ q) (x y : α) : iteP p x y = iteP q x y := by rw [propext h]
abbrev tyOk (P : Nat → Int) (x : Int) : Prop := (0 ≤ x ∧ x < 2) ∨ (2 ≤ x ∧ x < 6 ∧ x < 2 + pS P) ∨ (6 ≤ x ∧ x < 6 + pL P)
/-- a type, whole or not -/
def tyV (P : Nat → Int) (x : Int) : Prop := tyOk P x ∨ ∃ t s : Nat, x = 10 + 8 * t + s ∧ (t : Int) < pS P ∧ s < 8
def oprL : List Int := [1, 1, 0, 1, 2, 0, 1, 1, 0, 1, 3, 0, 1, 4, 1, 1, 1, 4, 1, 0, 0, 1, 0, 0, 1, 5, 0, 5, 0, 0, 1, 5, 0, 5, 5, 0, 1, 0, 0, 0, 0, 0]
def chs (k nS nL : Int) : Int := if k = 1 then 4 else if k = 2 then 100 else if k = 3 then nS else if k = 4 then 3 else if k = 5 then nL else 1
/-- an instruction that may be told -/
def mayS (nS nL c x y z : Int) : Prop := (0 ≤ c ∧ c < 14) ∧ (0 ≤ x ∧ x < chs (oprL.getD (3 * c.toNat) 0) nS nL) ∧ (0 ≤ y ∧ y < chs (oprL.getD (3 * c.toNat + 1) 0) nS nL) ∧ (0 ≤ z ∧ z < chs (oprL.getD (3 * c.toNat + 2) 0) nS nL)
/-- a program that can be: laid, or laid and changed -/
def Val (P : Nat → Int) : Prop := (0 ≤ pS P ∧ pS P ≤ 4) ∧ (1 ≤ pL P ∧ pL P ≤ 4) ∧ (∀ l : Nat, l < 4 → 0 ≤ pH P l ∧ pH P l ≤ 3) ∧
  (∀ t : Nat, (t : Int) < pS P → (1 ≤ pFn P t ∧ pFn P t ≤ 3) ∧ ∀ f : Nat, (f : Int) < pFn P t → (1 ≤ pFt P t f ∧ pFt P t f < 2 + t)) ∧
  (∀ l : Nat, (l : Int) < pL P → (∀ r : Nat, r < 4 → tyOk P (pW P l r)) ∧ (0 ≤ pH P l ∧ pH P l ≤ 3) ∧ (∀ i : Nat, (i : Int) < pH P l → tyOk P (pT P l i)) ∧ (pO P l = 0 ∨ pO P l = 1) ∧ (0 ≤ pK P l ∧ pK P l ≤ 6) ∧
    ∀ k : Nat, (k : Int) < pK P l → mayS (pS P) (pL P) (pC P l k 0) (pC P l k 1) (pC P l k 2) (pC P l k 3))
def pln (has want : Int) : Prop := want = 0 ∨ has = want
def hsuf (k b w wb : Int) : Prop := (wb = 1 ∧ w ≤ k) ∨ (wb ≠ 1 ∧ k = w ∧ b = 0)
/-- what label one wants is enough for label two's, code alike or for any alone -/
def flat (P : Nat → Int) (one two : Nat) : Prop := hsuf (pH P one) (pO P one) (pH P two) (pO P two) ∧ (∀ r : Nat, r < 4 → pln (pW P one r) (pW P two r)) ∧ ∀ i : Nat, (i : Int) < pH P two → pln (pT P one i) (pT P two i)
def codeT (x : Int) : Prop := 6 ≤ x ∧ x < 10
def enough (P : Nat → Int) (has want : Int) : Prop := pln has want ∨ (codeT has ∧ codeT want ∧ flat P (want - 6).toNat (has - 6).toNat)
noncomputable def jumpS (P rg : Nat → Int) (sk : List Int) (op : Int) (l : Nat) : Int :=
  iteP (∀ r : Nat, r < 4 → enough P (rg r) (pW P l r)) (iteP (hsuf sk.length op (pH P l) (pO P l) ∧ ∀ i : Nat, (i : Int) < pH P l → enough P (sk.getD i 0) (pT P l i)) 0 7) 6
def tupT (x : Int) : Prop := (2 ≤ x ∧ x < 6) ∨ 10 ≤ x
def sortS (x : Int) : Int := if x < 10 then x - 2 else (x - 10).tdiv 8
def allS (P : Nat → Int) (t : Nat) : Int := w32 (ishl 1 (pFn P t) - 1)
def setS (P : Nat → Int) (x : Int) : Int := if x < 10 then allS P (x - 2).toNat else (x - 10).tmod 8
def tupS (P : Nat → Int) (t : Nat) (s : Int) : Int := if s = allS P t then 2 + t else 10 + 8 * t + s
noncomputable def putS (P rg : Nat → Int) (sk : List Int) (x y z : Nat) : Int × (Nat → Int) × List Int :=
  iteP (tupT (rg x)) (iteP ((y : Int) < pFn P (sortS (rg x)).toNat) (iteP (enough P (rg z) (pFt P (sortS (rg x)).toNat y)) (0, ru rg x (tupS P (sortS (rg x)).toNat (ior (setS P (rg x)) (ishl 1 y))), sk) (4, rg, sk)) (3, rg, sk)) (2, rg, sk)
noncomputable def getS (P rg : Nat → Int) (sk : List Int) (x y z : Nat) : Int × (Nat → Int) × List Int :=
  iteP (tupT (rg y)) (iteP ((z : Int) < pFn P (sortS (rg y)).toNat ∧ iand (ishr (setS P (rg y)) z) 1 ≠ 0) (0, ru rg x (pFt P (sortS (rg y)).toNat z), sk) (3, rg, sk)) (2, rg, sk)
/-- one instruction: why it is refused (0: it isn't), registers, stack -/
noncomputable def stepS (P rg : Nat → Int) (sk : List Int) (op c : Int) (x y z : Nat) : Int × (Nat → Int) × List Int :=
  if c = 0 then (0, ru rg x (rg y), sk)
  else if c = 1 then (0, ru rg x 1, sk)
  else if c = 2 then (iteP (rg x = 1 ∧ rg y = 1) 0 1, rg, sk)
  else if c = 3 then (0, ru rg x (10 + 8 * y), sk)
  else if c = 4 then putS P rg sk x y z
  else if c = 5 then getS P rg sk x y z
  else if c = 6 then (if sk.length < 6 then (0, rg, rg x :: sk) else (5, rg, sk))
  else if c = 7 then (match sk with
    | [] => (5, rg, sk)
    | v :: r => (0, ru rg x v, r))
  else if c = 8 then (0, ru rg x (6 + y), sk)
  else if c = 9 then (jumpS P rg sk op x, rg, sk)
  else if c = 10 then (iteP (rg x = 1) (jumpS P rg sk op y) 1, rg, sk)
  else if c = 11 then (jumpS P (ru rg 3 (6 + y)) sk op x, ru rg 3 (6 + y), sk)
  else if c = 12 then (iteP (codeT (rg x)) (jumpS P rg sk op (rg x - 6).toNat) 8, rg, sk)
  else (iteP (rg 0 = 1) 0 1, rg, sk)
def endS (c : Int) : Prop := c = 9 ∨ 10 < c
section Pgm
variable {h : mH} {a : Nat}
theorem c_hasType (hp : PgO h a) {x : Int} (hx : x < 2147483648) (hS : pS (h.2 (a + 1)) ≤ 4) : F_Pg_hasType a x h = some (b2i (tyOk (h.2 (a + 1)) x), h) := by
  rw [q_Pg_hasType _ _ _ hp.1]
  by_cases h2 : 2 ≤ x
  · rw [if_pos h2]
    by_cases h6 : 6 ≤ x
    · have e : w32 (x - 6) = x - 6 := by unfold w32; omega
      rw [if_pos h6, e, c_hasLabel hp, Option.bind_some, b2i_ite, rz_b]
      rw [b2i_c (q := tyOk (h.2 (a + 1)) x)]
      unfold tyOk
      omega
    · have e : w32 (x - 2) = x - 2 := by unfold w32; omega
      rw [if_neg h6, e, c_hasSort hp, Option.bind_some, b2i_ite, rz_b]
      rw [b2i_c (q := tyOk (h.2 (a + 1)) x)]
      unfold tyOk
      omega
  · rw [if_neg h2]
    by_cases h0 : x < 0
    · rw [if_pos h0, b2i_f (by unfold tyOk; omega)]
    · rw [if_neg h0, b2i_t (by unfold tyOk; omega)]
theorem c_hasInstruction (hp : PgO h a) {x k : Int} (hL4 : pL (h.2 (a + 1)) ≤ 4) : F_Pg_hasInstruction a x k h = some (b2i ((0 ≤ x ∧ x < pL (h.2 (a + 1))) ∧ 0 ≤ k ∧ k < pK (h.2 (a + 1)) x.toNat), h) := by
  rw [q_Pg_hasInstruction _ _ _ _ hp.1, c_hasLabel hp, Option.bind_some]
  dsimp only
  by_cases h1 : 0 ≤ x ∧ x < pL (h.2 (a + 1))
  · rw [if_pos h1, if_neg (by decide)]
    by_cases h2 : k < 0
    · rw [if_pos h2, b2i_f (by omega)]
    · obtain ⟨l, rfl⟩ : ∃ l : Nat, x = l := ⟨x.toNat, by omega⟩
      rw [if_neg h2, c_size hp (by omega), Option.bind_some, tn]
      dsimp only
      by_cases h3 : pK (h.2 (a + 1)) l ≤ k
      · rw [if_pos h3, b2i_f (by omega)]
      · rw [if_neg h3, b2i_t (by omega)]
  · rw [if_neg h1, if_pos rfl, b2i_f (fun q => h1 q.1)]
end Pgm
/-! operands -/
theorem opr_at {L : Nat} {h : mH} (hL : Ly L h) {j : Nat} (hj : j < 42) : h.2 2 j = oprL.getD j 0 := by
  have hall : (List.range 42).all (fun j => decide (ptr 2 j = some (oprL.getD j 0))) = true := by decide +kernel
  exact hL.2 2 j _ (of_decide_eq_true (List.all_eq_true.mp hall j (List.mem_range.mpr hj)))
theorem c_choices {L : Nat} {h : mH} (hL : Ly L h) {j : Nat} (hj : j < 42) (s n : Int) : F_Pg_choices (j : Int) s n h = some (chs (oprL.getD j 0) s n, h) := by
  rw [q_Pg_choices, if_neg (by omega), n_2 hL, Option.bind_some, if_pos (by omega), r_2 hL (by omega) (by omega), Option.bind_some, tn, opr_at hL hj]
  unfold chs
  repeat' split
  all_goals rfl
theorem c_mayBeTold {L : Nat} {h : mH} (hL : Ly L h) (c x y z s n : Int) : F_Pg_mayBeTold c x y z s n h = some (b2i (mayS s n c x y z), h) := by
  rw [q_Pg_mayBeTold]
  by_cases h1 : c < 0
  · rw [if_pos h1, b2i_f (by unfold mayS; omega)]
  · rw [if_neg h1]
    by_cases h2 : c < 14
    · obtain ⟨k, rfl⟩ : ∃ k : Nat, c = k := ⟨c.toNat, by omega⟩
      have e1 : w32 ((k : Int) * 3) = ((3 * k : Nat) : Int) := by unfold w32; omega
      have e2 : w32 (((3 * k : Nat) : Int) + 1) = ((3 * k + 1 : Nat) : Int) := by unfold w32; omega
      have e3 : w32 (((3 * k : Nat) : Int) + 2) = ((3 * k + 2 : Nat) : Int) := by unfold w32; omega
      rw [if_pos h2, e1, e2, e3, c_choices hL (by omega), Option.bind_some]
      dsimp only
      rw [c_choices hL (by omega), Option.bind_some]
      dsimp only
      rw [c_choices hL (by omega), Option.bind_some]
      dsimp only
      unfold mayS
      rw [tn]
      by_cases x0 : x < 0
      · rw [if_pos x0, b2i_f (by omega)]
      rw [if_neg x0]
      by_cases x1 : chs (oprL.getD (3 * k) 0) s n ≤ x
      · rw [if_pos x1, b2i_f (by omega)]
      rw [if_neg x1]
      by_cases y0 : y < 0
      · rw [if_pos y0, b2i_f (by omega)]
      rw [if_neg y0]
      by_cases y1 : chs (oprL.getD (3 * k + 1) 0) s n ≤ y
      · rw [if_pos y1, b2i_f (by omega)]
      rw [if_neg y1]
      by_cases z0 : z < 0
      · rw [if_pos z0, b2i_f (by omega)]
      rw [if_neg z0]
      by_cases z1 : chs (oprL.getD (3 * k + 2) 0) s n ≤ z
      · rw [if_pos z1, b2i_f (by omega)]
      rw [if_neg z1, b2i_t (by omega)]
    · rw [if_neg h2, b2i_f (by unfold mayS; omega)]
theorem c_allows {L : Nat} {h : mH} {a : Nat} (hL : Ly L h) (hp : PgO h a) (c x y z : Int) : F_Pg_allows a c x y z h = some (b2i (mayS (pS (h.2 (a + 1))) (pL (h.2 (a + 1))) c x y z), h) := by
  rw [q_Pg_allows _ _ _ _ _ _ hp.1, c_sorts hp, Option.bind_some]
  dsimp only
  rw [c_labels hp, Option.bind_some]
  dsimp only
  rw [c_mayBeTold hL, Option.bind_some, rz_b]
