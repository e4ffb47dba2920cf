/-! Program: what is written -/
def insS (P : Nat → Int) (l k : Nat) (c x y z : Int) : Nat → Int := ru (ru (ru (ru P (28 + 34 * l + 4 * k) c) (28 + 34 * l + 4 * k + 1) x) (28 + 34 * l + 4 * k + 2) y) (28 + 34 * l + 4 * k + 3) z
/-- the instructions of label l from k on, up to the n-th, one place on -/
def roomI (P : Nat → Int) (l k n : Nat) : Nat → Int := fun j => if 28 + 34 * l + 4 * (k + 1) ≤ j ∧ j < 28 + 34 * l + 4 * (n + 1) then P (j - 4) else P j
def roomS (P : Nat → Int) (l k n : Nat) : Nat → Int := ru (roomI P l k n) (27 + 34 * l) (n + 1)
/-- the instructions of label l from k on one place back, those behind the n-th left out, up to i -/
def outI (P : Nat → Int) (l k i : Nat) : Nat → Int := fun j => if 28 + 34 * l + 4 * k ≤ j ∧ j < 28 + 34 * l + 4 * i then P (j + 4) else P j
def outS (P : Nat → Int) (l k n : Nat) : Nat → Int := ru (outI P l k (n - 1)) (27 + 34 * l) ((n : Int) - 1)
theorem roomI_s (P : Nat → Int) {l k n : Nat} (h : k < n) : insS (roomI P l (k + 1) n) l (k + 1) (pC (roomI P l (k + 1) n) l k 0) (pC (roomI P l (k + 1) n) l k 1) (pC (roomI P l (k + 1) n) l k 2) (pC (roomI P l (k + 1) n) l k 3) = roomI P l k n := by
  funext j
  unfold insS ru pC roomI
  rw [if_neg (c := 28 + 34 * l + 4 * (k + 1 + 1) ≤ 28 + 34 * l + 4 * k + 0 ∧ _) (by omega), if_neg (c := 28 + 34 * l + 4 * (k + 1 + 1) ≤ 28 + 34 * l + 4 * k + 1 ∧ _) (by omega), if_neg (c := 28 + 34 * l + 4 * (k + 1 + 1) ≤ 28 + 34 * l + 4 * k + 2 ∧ _) (by omega), if_neg (c := 28 + 34 * l + 4 * (k + 1 + 1) ≤ 28 + 34 * l + 4 * k + 3 ∧ _) (by omega)]
  by_cases h3 : j = 28 + 34 * l + 4 * (k + 1) + 3
  · rw [if_pos h3, if_pos (by omega)]; congr 1; omega
  · rw [if_neg h3]
    by_cases h2 : j = 28 + 34 * l + 4 * (k + 1) + 2
    · rw [if_pos h2, if_pos (by omega)]; congr 1; omega
    · rw [if_neg h2]
      by_cases h1 : j = 28 + 34 * l + 4 * (k + 1) + 1
      · rw [if_pos h1, if_pos (by omega)]; congr 1; omega
      · rw [if_neg h1]
        by_cases h0 : j = 28 + 34 * l + 4 * (k + 1)
        · rw [if_pos h0, if_pos (by omega)]; congr 1; omega
        · rw [if_neg h0]
          by_cases hr : 28 + 34 * l + 4 * (k + 1) ≤ j ∧ j < 28 + 34 * l + 4 * (n + 1)
          · rw [if_pos hr, if_pos (by omega)]
          · rw [if_neg hr, if_neg (by omega)]
theorem outI_s (P : Nat → Int) {l k i : Nat} (h : k ≤ i) : insS (outI P l k i) l i (pC (outI P l k i) l (i + 1) 0) (pC (outI P l k i) l (i + 1) 1) (pC (outI P l k i) l (i + 1) 2) (pC (outI P l k i) l (i + 1) 3) = outI P l k (i + 1) := by
  funext j
  unfold insS ru pC outI
  rw [if_neg (c := 28 + 34 * l + 4 * k ≤ 28 + 34 * l + 4 * (i + 1) + 0 ∧ _) (by omega), if_neg (c := 28 + 34 * l + 4 * k ≤ 28 + 34 * l + 4 * (i + 1) + 1 ∧ _) (by omega), if_neg (c := 28 + 34 * l + 4 * k ≤ 28 + 34 * l + 4 * (i + 1) + 2 ∧ _) (by omega), if_neg (c := 28 + 34 * l + 4 * k ≤ 28 + 34 * l + 4 * (i + 1) + 3 ∧ _) (by omega)]
  by_cases h3 : j = 28 + 34 * l + 4 * i + 3
  · rw [if_pos h3, if_pos (by omega)]; congr 1; omega
  · rw [if_neg h3]
    by_cases h2 : j = 28 + 34 * l + 4 * i + 2
    · rw [if_pos h2, if_pos (by omega)]; congr 1; omega
    · rw [if_neg h2]
      by_cases h1 : j = 28 + 34 * l + 4 * i + 1
      · rw [if_pos h1, if_pos (by omega)]; congr 1; omega
      · rw [if_neg h1]
        by_cases h0 : j = 28 + 34 * l + 4 * i
        · rw [if_pos h0, if_pos (by omega)]; congr 1; omega
        · rw [if_neg h0]
          by_cases hr : 28 + 34 * l + 4 * k ≤ j ∧ j < 28 + 34 * l + 4 * i
          · rw [if_pos hr, if_pos (by omega)]
          · rw [if_neg hr, if_neg (by omega)]
theorem roomI_n (P : Nat → Int) (l n : Nat) : roomI P l n n = P := by
  funext j
  exact if_neg (by omega)
theorem outI_k (P : Nat → Int) (l k : Nat) : outI P l k k = P := by
  funext j
  exact if_neg (by omega)
section Pgw
variable {h : mH} {a : Nat}
theorem c_setWanted (hp : PgO h a) {l r : Nat} (hl : l < 4) (hr : r < 4) (v : Int) : F_Pg_setWanted a (l : Int) (r : Int) v h = some (mrow h (a + 1) (ru (h.2 (a + 1)) (18 + 34 * l + r) v)) := by
  have e : (18 + 34 * (l : Int) + (r : Int)).toNat = 18 + 34 * l + r := by omega
  rw [q_Pg_setWanted _ _ _ _ _ hp.1, c_setLabelCell hp (by omega) (by omega) (by omega) (by omega), e]
  rfl
theorem c_setOpen (hp : PgO h a) {l : Nat} (hl : l < 4) (v : Int) : F_Pg_setOpenBelow a (l : Int) v h = some (mrow h (a + 1) (ru (h.2 (a + 1)) (26 + 34 * l) v)) := by
  have e : (18 + 34 * (l : Int) + 8).toNat = 26 + 34 * l := by omega
  rw [q_Pg_setOpenBelow _ _ _ _ hp.1, c_setLabelCell hp (by omega) (by omega) (by omega) (by omega), e]
  rfl
theorem PgO_s (hp : PgO h a) (f : Nat → Int) : PgO (mrow h (a + 1) f) a := PgO_row hp (by omega)
theorem c_set4 (hp : PgO h a) {x : Nat} (hx : x < 151) (c v1 v2 v3 : Int) (l k : Int) : B_Pg_setInstruction_16 a l k c v1 v2 v3 (x : Int) h = some (mrow h (a + 1) (ru (ru (ru (ru (h.2 (a + 1)) x c) (x + 1) v1) (x + 2) v2) (x + 3) v3)) := by
  have e1 : w32 ((x : Int) + 1) = ((x + 1 : Nat) : Int) := by unfold w32; omega
  have e2 : w32 ((x : Int) + 2) = ((x + 2 : Nat) : Int) := by unfold w32; omega
  have e3 : w32 ((x : Int) + 3) = ((x + 3 : Nat) : Int) := by unfold w32; omega
  have g0 : (0 : Int) ≤ (x : Int) := by omega
  have l0 : (x : Int) < 154 := by omega
  have g1 : (0 : Int) ≤ ((x + 1 : Nat) : Int) := by omega
  have l1 : ((x + 1 : Nat) : Int) < 154 := by omega
  have g2 : (0 : Int) ≤ ((x + 2 : Nat) : Int) := by omega
  have l2 : ((x + 2 : Nat) : Int) < 154 := by omega
  have g3 : (0 : Int) ≤ ((x + 3 : Nat) : Int) := by omega
  have l3 : ((x + 3 : Nat) : Int) < 154 := by omega
  rw [q_Pg_setInstruction_16, e1, e2, e3, c_setCell hp g0 l0, Option.bind_some, c_setCell (PgO_s hp _) g1 l1, Option.bind_some, mrow_m, mrow_s, c_setCell (PgO_s hp _) g2 l2, Option.bind_some, mrow_m, mrow_s, c_setCell (PgO_s hp _) g3 l3, Option.bind_some, mrow_m, mrow_s, tn, tn, tn, tn]
theorem c_setIns (hp : PgO h a) {l k : Nat} (hl : l < 4) (hk : k < 6) (c x y z : Int) : F_Pg_setInstruction a (l : Int) (k : Int) c x y z h = some (mrow h (a + 1) (insS (h.2 (a + 1)) l k c x y z)) := by
  have hx : 28 + 34 * l + 4 * k < 151 := by omega
  have e : w32 ((w32 ((w32 (18 + (w32 ((l : Int) * 34)))) + 10)) + (w32 ((k : Int) * 4))) = ((28 + 34 * l + 4 * k : Nat) : Int) := by unfold w32; omega
  rw [q_Pg_setInstruction _ _ _ _ _ _ _ _ hp.1, e, c_set4 hp hx]
  rfl
theorem c_room9 {P : Nat → Int} {l k n : Nat} (hl : l < 4) (hn : n < 6) : ∀ (m i : Nat) (h : mH), i = k + m → i ≤ n → PgO h a → h.2 (a + 1) = roomI P l i n →
    B_Pg_makeRoom_9 a (l : Int) (k : Int) (n : Int) (i : Int) h = some (mrow h (a + 1) (roomS P l k n))
  | 0, i, h, e, hi, hp, hr => by
    have : i = k := by omega
    subst this
    have e1 : w32 ((n : Int) + 1) = (n : Int) + 1 := by unfold w32; omega
    have e2 : (18 + 34 * (l : Int) + 9).toNat = 27 + 34 * l := by omega
    rw [q_Pg_makeRoom_9, if_pos (Int.le_refl _), c_setLabelCell hp (by omega) (by omega) (by omega) (by omega), e2, e1, hr]
    rfl
  | m + 1, i, h, e, hi, hp, hr => by
    obtain ⟨i', rfl⟩ : ∃ i', i = i' + 1 := ⟨i - 1, by omega⟩
    have hx : ¬ ((i' + 1 : Nat) : Int) ≤ (k : Int) := by omega
    have hi' : i' < 6 := by omega
    have hi6 : i' + 1 < 6 := by omega
    have q1 : i' = k + m := by omega
    have q2 : i' ≤ n := by omega
    have q3 : i' < n := by omega
    have e1 : w32 (((i' + 1 : Nat) : Int) - 1) = (i' : Int) := by unfold w32; omega
    have e2 : w32 (((i' + 1 : Nat) : Int) + (-1)) = (i' : Int) := by unfold w32; omega
    have z := c_room9 hl hn m i' (mrow h (a + 1) (insS (h.2 (a + 1)) l (i' + 1) (pC (h.2 (a + 1)) l i' 0) (pC (h.2 (a + 1)) l i' 1) (pC (h.2 (a + 1)) l i' 2) (pC (h.2 (a + 1)) l i' 3))) q1 q2 (PgO_s hp _) (by rw [mrow_s, hr]; exact roomI_s P q3)
    rw [mrow_m] at z
    rw [q_Pg_makeRoom_9, if_neg hx, e1, e2, c_part0 hp hl hi', Option.bind_some]
    dsimp only
    rw [c_part1 hp hl hi', Option.bind_some]
    dsimp only
    rw [c_part2 hp hl hi', Option.bind_some]
    dsimp only
    rw [c_part3 hp hl hi', Option.bind_some]
    dsimp only
    rw [c_setIns hp hl hi6, Option.bind_some]
    exact z
theorem c_makeRoom (hp : PgO h a) {l k n : Nat} (hl : l < 4) (hn : n < 6) (hk : k ≤ n) (hs : pK (h.2 (a + 1)) l = n) : F_Pg_makeRoom a (l : Int) (k : Int) h = some (mrow h (a + 1) (roomS (h.2 (a + 1)) l k n)) := by
  rw [q_Pg_makeRoom _ _ _ _ hp.1, c_size hp hl, Option.bind_some, hs]
  dsimp only
  exact c_room9 hl hn (n - k) n h (by omega) (by omega) hp (roomI_n _ _ _).symm
theorem c_out9 {P : Nat → Int} {l k n : Nat} (hl : l < 4) (hn : n + 1 ≤ 6) : ∀ (m i : Nat) (h : mH), i + m = n → k ≤ i → PgO h a → h.2 (a + 1) = outI P l k i →
    B_Pg_takeOut_9 a (l : Int) (k : Int) ((n + 1 : Nat) : Int) (i : Int) h = some (mrow h (a + 1) (outS P l k (n + 1)))
  | 0, i, h, e, hi, hp, hr => by
    have : i = n := by omega
    subst this
    have e1 : w32 (((i + 1 : Nat) : Int) - 1) = ((i + 1 : Nat) : Int) - 1 := by unfold w32; omega
    have e2 : (18 + 34 * (l : Int) + 9).toNat = 27 + 34 * l := by omega
    rw [q_Pg_takeOut_9, e1, if_pos (by omega), c_setLabelCell hp (by omega) (by omega) (by omega) (by omega), e2, hr]
    rfl
  | m + 1, i, h, e, hi, hp, hr => by
    have hx : ¬ ((n + 1 : Nat) : Int) - 1 ≤ (i : Int) := by omega
    have hi' : i + 1 < 6 := by omega
    have hi6 : i < 6 := by omega
    have q1 : i + 1 + m = n := by omega
    have q2 : k ≤ i + 1 := by omega
    have e0 : w32 (((n + 1 : Nat) : Int) - 1) = ((n + 1 : Nat) : Int) - 1 := by unfold w32; omega
    have e1 : w32 ((i : Int) + 1) = ((i + 1 : Nat) : Int) := by unfold w32; omega
    have z := c_out9 hl hn m (i + 1) (mrow h (a + 1) (insS (h.2 (a + 1)) l i (pC (h.2 (a + 1)) l (i + 1) 0) (pC (h.2 (a + 1)) l (i + 1) 1) (pC (h.2 (a + 1)) l (i + 1) 2) (pC (h.2 (a + 1)) l (i + 1) 3))) q1 q2 (PgO_s hp _) (by rw [mrow_s, hr]; exact outI_s P hi)
    rw [mrow_m] at z
    rw [q_Pg_takeOut_9, e0, if_neg hx, e1, c_part0 hp hl hi', Option.bind_some]
    dsimp only
    rw [c_part1 hp hl hi', Option.bind_some]
    dsimp only
    rw [c_part2 hp hl hi', Option.bind_some]
    dsimp only
    rw [c_part3 hp hl hi', Option.bind_some]
    dsimp only
    rw [c_setIns hp hl hi6, Option.bind_some]
    exact z
theorem c_takeOut (hp : PgO h a) {l k n : Nat} (hl : l < 4) (hn : n ≤ 6) (hk : k < n) (hs : pK (h.2 (a + 1)) l = n) : F_Pg_takeOut a (l : Int) (k : Int) h = some (mrow h (a + 1) (outS (h.2 (a + 1)) l k n)) := by
  obtain ⟨n', rfl⟩ : ∃ n', n = n' + 1 := ⟨n - 1, by omega⟩
  rw [q_Pg_takeOut _ _ _ _ hp.1, c_size hp hl, Option.bind_some, hs]
  dsimp only
  exact c_out9 hl hn (n' - k) k h (by omega) (by omega) hp (outI_k _ _ _).symm
/-- the row is 0 behind its cells -/
def Zr (f : Nat → Int) : Prop := ∀ j, 154 ≤ j → f j = 0
theorem Zr_ru {f : Nat → Int} (h : Zr f) {j : Nat} (v : Int) (hj : j < 154) : Zr (ru f j v) := fun i hi => by rw [ru_d _ _ (by omega)]; exact h i hi
theorem acp_z {b c : Nat} (hb : h.1[b]? = some (10, 154)) (hc : h.1[c]? = some (10, 154)) (hz : Zr (h.2 b)) (hy : Zr (h.2 c)) (h6 : 6 ≤ c) (h0 : b ≠ 0) : acp h b c 154 = some (mrow h c (h.2 b)) := by
  unfold acp
  rw [hb, hc]
  dsimp only
  rw [if_pos ⟨rfl, rfl, by decide, by decide, by decide, h6, h0⟩]
  congr 2
  funext j
  by_cases q : j < 154
  · exact if_pos q
  · have : ¬ j < (154 : Int).toNat := q
    rw [if_neg this, hz j (by omega), hy j (by omega)]
theorem c_copyFrom (hp : PgO h a) {b : Nat} (hb : h.1[b]? = some (10, 154)) (hz : Zr (h.2 b)) (hy : Zr (h.2 (a + 1))) (h0 : b ≠ 0) : F_Pg_copyFrom a b h = some (mrow h (a + 1) (h.2 b)) := by
  have e : aln h b = some 154 := by unfold aln; rw [hb]; exact if_pos ⟨by decide, by decide, by decide, h0⟩
  rw [q_Pg_copyFrom _ _ _ hp.1, if_neg h0, e, Option.bind_some, if_neg (by decide), hp.2.1, Option.bind_some, tn, acp_z hb hp.2.2.1 hz hy (by have := hp.2.2.2; omega) h0, Option.bind_some]
theorem c_allLabels (hp : PgO h a) : F_Pg_allLabels a h = some (w32 (ishl 1 (pL (h.2 (a + 1))) - 1), h) := by
  rw [q_Pg_allLabels _ _ hp.1, c_labels hp, Option.bind_some]
end Pgw
