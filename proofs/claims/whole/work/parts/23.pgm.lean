/-! rows; the methods of Program -/
def ru (f : Nat → Int) (j : Nat) (v : Int) : Nat → Int := fun i => if i = j then v else f i
theorem ru_s (f : Nat → Int) (j : Nat) (v : Int) : ru f j v j = v := if_pos rfl
theorem ru_d (f : Nat → Int) {j i : Nat} (v : Int) (h : i ≠ j) : ru f j v i = f i := if_neg h
theorem mw_r (h : mH) (a j : Nat) (v : Int) : mw h a j v = mrow h a (ru (h.2 a) j v) := by
  unfold mw mrow ru
  congr 1
  funext b k
  by_cases q : b = a
  · subst q
    by_cases z : k = j <;> simp [z]
  · simp [q]
theorem mrow_1 (h : mH) (a : Nat) (f : Nat → Int) : (mrow h a f).1 = h.1 := rfl
theorem mrow_s (h : mH) (a : Nat) (f : Nat → Int) : (mrow h a f).2 a = f := by funext k; simp [mrow]
theorem mrow_o (h : mH) {a b : Nat} (f : Nat → Int) (hne : b ≠ a) : (mrow h a f).2 b = h.2 b := by funext k; simp [mrow, hne]
theorem mrow_m (h : mH) (a : Nat) (f g : Nat → Int) : mrow (mrow h a f) a g = mrow h a g := by
  unfold mrow
  congr 1
  funext b k
  by_cases q : b = a <;> simp [q]
theorem mrow_id (h : mH) (a : Nat) : mrow h a (h.2 a) = h := by
  unfold mrow
  have : (fun b k => if b = a then h.2 a k else h.2 b k) = h.2 := by
    funext b k
    by_cases q : b = a <;> simp [q]
  rw [this]
/-- a is a Program, its cells are behind it -/
def PgO (h : mH) (a : Nat) : Prop := isO h a 2 = true ∧ gfd 2 0 h a = some ((a + 1 : Nat) : Int) ∧ h.1[a + 1]? = some (10, 154) ∧ 6 ≤ a
theorem PgO_row {h : mH} {a b : Nat} {f : Nat → Int} (hp : PgO h a) (hne : b ≠ a) : PgO (mrow h b f) a := by
  obtain ⟨p1, p2, p3, p4⟩ := hp
  refine ⟨p1, ?_, p3, p4⟩
  unfold gfd at p2 ⊢
  rw [mrow_1, mrow_o h f (Ne.symm hne)]
  exact p2
theorem Ly_pg {L : Nat} {h : mH} (hL : Ly L h) {a : Nat} (ha : a = 8 ∨ a = 11 ∨ a = 13 ∨ a = 16 ∨ a = 23) : PgO h a := by
  rcases ha with rfl | rfl | rfl | rfl | rfl
  · exact ⟨o_8 hL, p_8_0 hL, sh_9 hL, by decide⟩
  · exact ⟨o_11 hL, p_11_0 hL, sh_12 hL, by decide⟩
  · exact ⟨o_13 hL, p_13_0 hL, sh_14 hL, by decide⟩
  · exact ⟨o_16 hL, p_16_0 hL, sh_17 hL, by decide⟩
  · exact ⟨o_23 hL, p_23_0 hL, sh_24 hL, by decide⟩
section Pgm
variable {h : mH} {a : Nat}
theorem pg_r (hp : PgO h a) {x : Int} (h0 : 0 ≤ x) (h1 : x < 154) : ald 10 h (a + 1) x = some (h.2 (a + 1) x.toNat) := by
  unfold ald
  rw [hp.2.2.1]
  exact if_pos ⟨rfl, h0, h1, by omega⟩
theorem pg_w (hp : PgO h a) {x : Int} (h0 : 0 ≤ x) (h1 : x < 154) (v : Int) : ast h (a + 1) x v = some (mrow h (a + 1) (ru (h.2 (a + 1)) x.toNat v)) := by
  unfold ast
  rw [hp.2.2.1, ← mw_r]
  exact if_pos ⟨rfl, h0, h1, by have := hp.2.2.2; omega⟩
theorem tn (n : Nat) : ((n : Nat) : Int).toNat = n := Int.toNat_natCast n
theorem c_cell (hp : PgO h a) {x : Int} (h0 : 0 ≤ x) (h1 : x < 154) : F_Pg_cell a x h = some (h.2 (a + 1) x.toNat, h) := by
  rw [q_Pg_cell _ _ _ hp.1, if_neg (by omega), if_neg (by omega), hp.2.1, Option.bind_some, tn, pg_r hp h0 h1]
  rfl
theorem c_setCell (hp : PgO h a) {x : Int} (h0 : 0 ≤ x) (h1 : x < 154) (v : Int) : F_Pg_setCell a x v h = some (mrow h (a + 1) (ru (h.2 (a + 1)) x.toNat v)) := by
  rw [q_Pg_setCell _ _ _ _ hp.1, if_neg (by omega), if_neg (by omega), hp.2.1, Option.bind_some, tn, pg_w hp h0 h1]
  rfl
theorem c_sorts (hp : PgO h a) : F_Pg_sorts a h = some (h.2 (a + 1) 0, h) := by
  rw [q_Pg_sorts _ _ hp.1, hp.2.1, Option.bind_some, tn, pg_r hp (by decide) (by decide)]
  rfl
theorem c_labels (hp : PgO h a) : F_Pg_labels a h = some (h.2 (a + 1) 1, h) := by
  rw [q_Pg_labels _ _ hp.1, hp.2.1, Option.bind_some, tn, pg_r hp (by decide) (by decide)]
  rfl
theorem c_labelCell (hp : PgO h a) {l w : Int} (l0 : 0 ≤ l) (l1 : l < 4) (w0 : 0 ≤ w) (w1 : w < 34) : F_Pg_labelCell a l w h = some (h.2 (a + 1) (18 + 34 * l + w).toNat, h) := by
  have e : w32 ((w32 (18 + (w32 (l * 34)))) + w) = 18 + 34 * l + w := by unfold w32; omega
  rw [q_Pg_labelCell _ _ _ _ hp.1, e, if_neg (by omega), if_neg (by omega), hp.2.1, Option.bind_some, tn, pg_r hp (by omega) (by omega)]
  rfl
theorem c_setLabelCell (hp : PgO h a) {l w : Int} (l0 : 0 ≤ l) (l1 : l < 4) (w0 : 0 ≤ w) (w1 : w < 34) (v : Int) : F_Pg_setLabelCell a l w v h = some (mrow h (a + 1) (ru (h.2 (a + 1)) (18 + 34 * l + w).toNat v)) := by
  have e : w32 ((w32 (18 + (w32 (l * 34)))) + w) = 18 + 34 * l + w := by unfold w32; omega
  rw [q_Pg_setLabelCell _ _ _ _ _ hp.1, e, c_setCell hp (by omega) (by omega)]
  rfl
end Pgm
/-! a program's row, by its parts -/
abbrev pS (P : Nat → Int) : Int := P 0
abbrev pL (P : Nat → Int) : Int := P 1
def pFn (P : Nat → Int) (t : Nat) : Int := P (2 + 4 * t)
def pFt (P : Nat → Int) (t f : Nat) : Int := P (3 + 4 * t + f)
def pW (P : Nat → Int) (l r : Nat) : Int := P (18 + 34 * l + r)
def pH (P : Nat → Int) (l : Nat) : Int := P (22 + 34 * l)
def pT (P : Nat → Int) (l i : Nat) : Int := P (23 + 34 * l + i)
def pO (P : Nat → Int) (l : Nat) : Int := P (26 + 34 * l)
def pK (P : Nat → Int) (l : Nat) : Int := P (27 + 34 * l)
def pC (P : Nat → Int) (l k p : Nat) : Int := P (28 + 34 * l + 4 * k + p)
section Pgm
variable {h : mH} {a : Nat}
theorem c_wanted (hp : PgO h a) {l r : Nat} (hl : l < 4) (hr : r < 4) : F_Pg_wanted a (l : Int) (r : Int) h = some (pW (h.2 (a + 1)) l r, h) := by
  rw [q_Pg_wanted _ _ _ _ hp.1, c_labelCell hp (by omega) (by omega) (by omega) (by omega)]
  have e : (18 + 34 * (l : Int) + (r : Int)).toNat = 18 + 34 * l + r := by omega
  rw [e]
  rfl
theorem c_wantedHeight (hp : PgO h a) {l : Nat} (hl : l < 4) : F_Pg_wantedHeight a (l : Int) h = some (pH (h.2 (a + 1)) l, h) := by
  rw [q_Pg_wantedHeight _ _ _ hp.1, c_labelCell hp (by omega) (by omega) (by omega) (by omega)]
  have e : (18 + 34 * (l : Int) + 4).toNat = 22 + 34 * l := by omega
  rw [e]
  rfl
theorem c_wantedFromTop (hp : PgO h a) {l i : Nat} (hl : l < 4) (hi : i < 4) : F_Pg_wantedFromTop a (l : Int) (i : Int) h = some (pT (h.2 (a + 1)) l i, h) := by
  have e0 : w32 (5 + (i : Int)) = 5 + i := by unfold w32; omega
  rw [q_Pg_wantedFromTop _ _ _ _ hp.1, e0, c_labelCell hp (by omega) (by omega) (by omega) (by omega)]
  have e : (18 + 34 * (l : Int) + (5 + (i : Int))).toNat = 23 + 34 * l + i := by omega
  rw [e]
  rfl
theorem c_openBelow (hp : PgO h a) {l : Nat} (hl : l < 4) : F_Pg_openBelow a (l : Int) h = some (pO (h.2 (a + 1)) l, h) := by
  rw [q_Pg_openBelow _ _ _ hp.1, c_labelCell hp (by omega) (by omega) (by omega) (by omega)]
  have e : (18 + 34 * (l : Int) + 8).toNat = 26 + 34 * l := by omega
  rw [e]
  rfl
theorem c_size (hp : PgO h a) {l : Nat} (hl : l < 4) : F_Pg_size a (l : Int) h = some (pK (h.2 (a + 1)) l, h) := by
  rw [q_Pg_size _ _ _ hp.1, c_labelCell hp (by omega) (by omega) (by omega) (by omega)]
  have e : (18 + 34 * (l : Int) + 9).toNat = 27 + 34 * l := by omega
  rw [e]
  rfl
theorem c_part (hp : PgO h a) {l k p : Nat} (hl : l < 4) (hk : k < 6) (hq : p < 4) : F_Pg_part a (l : Int) (k : Int) (p : Int) h = some (pC (h.2 (a + 1)) l k p, h) := by
  have e0 : w32 ((w32 (10 + (w32 ((k : Int) * 4)))) + (p : Int)) = 10 + 4 * k + p := by unfold w32; omega
  rw [q_Pg_part _ _ _ _ _ hp.1, e0, c_labelCell hp (by omega) (by omega) (by omega) (by omega)]
  have e : (18 + 34 * (l : Int) + (10 + 4 * (k : Int) + (p : Int))).toNat = 28 + 34 * l + 4 * k + p := by omega
  rw [e]
  rfl
theorem c_fields (hp : PgO h a) {t : Nat} (ht : t < 4) : F_Pg_fields a (t : Int) h = some (pFn (h.2 (a + 1)) t, h) := by
  have e0 : w32 (2 + (w32 ((t : Int) * 4))) = 2 + 4 * t := by unfold w32; omega
  rw [q_Pg_fields _ _ _ hp.1, e0, c_cell hp (by omega) (by omega)]
  have e : (2 + 4 * (t : Int)).toNat = 2 + 4 * t := by omega
  rw [e]
  rfl
theorem c_fieldType (hp : PgO h a) {t f : Nat} (ht : t < 4) (hf : f < 3) : F_Pg_fieldType a (t : Int) (f : Int) h = some (pFt (h.2 (a + 1)) t f, h) := by
  have e0 : w32 ((w32 ((w32 (2 + (w32 ((t : Int) * 4)))) + 1)) + (f : Int)) = 3 + 4 * t + f := by unfold w32; omega
  rw [q_Pg_fieldType _ _ _ _ hp.1, e0, c_cell hp (by omega) (by omega)]
  have e : (3 + 4 * (t : Int) + (f : Int)).toNat = 3 + 4 * t + f := by omega
  rw [e]
  rfl
theorem c_hasSort (hp : PgO h a) (x : Int) : F_Pg_hasSort a x h = some (if 0 ≤ x ∧ x < pS (h.2 (a + 1)) then 1 else 0, h) := by
  rw [q_Pg_hasSort _ _ _ hp.1, c_sorts hp, Option.bind_some]
  dsimp only
  by_cases h1 : x < 0
  · rw [if_pos h1, if_neg (by omega)]
  · rw [if_neg h1]
    by_cases h2 : h.2 (a + 1) 0 ≤ x
    · rw [if_pos h2, if_neg (by show ¬ (0 ≤ x ∧ x < h.2 (a + 1) 0); omega)]
    · rw [if_neg h2, if_pos (by show (0 ≤ x ∧ x < h.2 (a + 1) 0); omega)]
theorem c_hasLabel (hp : PgO h a) (x : Int) : F_Pg_hasLabel a x h = some (if 0 ≤ x ∧ x < pL (h.2 (a + 1)) then 1 else 0, h) := by
  rw [q_Pg_hasLabel _ _ _ hp.1, c_labels hp, Option.bind_some]
  dsimp only
  by_cases h1 : x < 0
  · rw [if_pos h1, if_neg (by omega)]
  · rw [if_neg h1]
    by_cases h2 : h.2 (a + 1) 1 ≤ x
    · rw [if_pos h2, if_neg (by show ¬ (0 ≤ x ∧ x < h.2 (a + 1) 1); omega)]
    · rw [if_neg h2, if_pos (by show (0 ≤ x ∧ x < h.2 (a + 1) 1); omega)]
end Pgm
