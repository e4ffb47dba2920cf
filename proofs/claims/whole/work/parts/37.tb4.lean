/-! the class: targets, count, reached, might -/
def lin (c x y : Int) : Int := if c = 9 then ishl 1 x else if c = 8 ∨ c = 10 then ishl 1 y else if c = 11 then ior (ishl 1 x) (ishl 1 y) else 0
/-- an instruction whose targets can be -/
def tok (P : Nat → Int) (l k : Nat) : Prop := (0 ≤ pC P l k 0 ∧ pC P l k 0 < 14) ∧ (pC P l k 0 = 9 ∨ pC P l k 0 = 11 → 0 ≤ pC P l k 1 ∧ pC P l k 1 < 4) ∧ (pC P l k 0 = 8 ∨ pC P l k 0 = 10 ∨ pC P l k 0 = 11 → 0 ≤ pC P l k 2 ∧ pC P l k 2 < 4)
theorem tok_of {P : Nat → Int} {l k : Nat} {s n : Int} (hn : n ≤ 4) (hm : mayS s n (pC P l k 0) (pC P l k 1) (pC P l k 2) (pC P l k 3)) : tok P l k := by
  obtain ⟨m1, m2, m3, m4⟩ := hm
  refine ⟨m1, fun e => ?_, fun e => ?_⟩
  · rcases e with e | e <;> rw [e] at m2 <;> simp [chs, oprL] at m2 <;> omega
  · rcases e with e | e | e <;> rw [e] at m3 <;> simp [chs, oprL] at m3 <;> omega
def tgS (P : Nat → Int) (l : Nat) : Nat → Int
  | 0 => 0
  | k + 1 => ior (tgS P l k) (lin (pC P l k 0) (pC P l k 1) (pC P l k 2))
theorem lin_b {P : Nat → Int} {l k : Nat} (h : tok P l k) : B16 (lin (pC P l k 0) (pC P l k 1) (pC P l k 2)) := by
  obtain ⟨t1, t2, t3⟩ := h
  unfold lin
  split
  · rename_i e
    have := t2 (Or.inl e)
    exact sh4 this.1 this.2
  · split
    · rename_i e
      have := t3 (by omega)
      exact sh4 this.1 this.2
    · split
      · rename_i e
        have a := t2 (Or.inr e)
        have b := t3 (by omega)
        exact io16 (sh4 a.1 a.2) (sh4 b.1 b.2)
      · unfold B16; decide
theorem tgS_b {P : Nat → Int} {l : Nat} : ∀ k : Nat, (∀ i, i < k → tok P l i) → B16 (tgS P l k)
  | 0, _ => by unfold tgS B16; decide
  | k + 1, h => io16 (tgS_b k (fun i hi => h i (by omega))) (lin_b (h k (by omega)))
section Tg
variable {L : Nat} {h : mH} {a : Nat} {P : Nat → Int}
theorem c_isTarget (hL : Ly L h) {c p : Nat} (hc : c < 14) (hp : p < 3) : F_Pg_isTarget (c : Int) ((p + 1 : Nat) : Int) h = some (b2i (oprL.getD (3 * c + p) 0 = 5), h) := by
  have hj : 3 * c + p < 42 := by omega
  have k1 : ¬ ((3 * c + p : Nat) : Int) < 0 := by omega
  have k2 : ¬ (42 : Int) ≤ ((3 * c + p : Nat) : Int) := by omega
  have k3 : (0 : Int) ≤ ((3 * c + p : Nat) : Int) := by omega
  have k4 : ((3 * c + p : Nat) : Int) < 42 := by omega
  have e : w32 ((w32 ((w32 ((c : Int) * 3)) + ((p + 1 : Nat) : Int))) - 1) = ((3 * c + p : Nat) : Int) := by unfold w32; omega
  rw [q_Pg_isTarget, e, if_neg k1, n_2 hL, Option.bind_some, if_neg k2, r_2 hL k3 k4, Option.bind_some, tn, opr_at hL hj]
  by_cases q : oprL.getD (3 * c + p) 0 = 5
  · rw [if_neg (Decidable.not_not.mpr q), b2i_t q]
  · rw [if_pos q, b2i_f q]
theorem opr_t : ∀ c : Fin 14, (oprL.getD (3 * c.val + 0) 0 = 5 ↔ (c.val = 9 ∨ c.val = 11)) ∧ (oprL.getD (3 * c.val + 1) 0 = 5 ↔ (c.val = 8 ∨ c.val = 10 ∨ c.val = 11)) ∧ oprL.getD (3 * c.val + 2) 0 ≠ 5 := by decide +kernel
theorem c_targets16 (hL : Ly L h) (hg : PgO h a) (hP : h.2 (a + 1) = P) {l k : Nat} (hl : l < 4) (hk : k < 6) (ht : tok P l k) {b : Int} (hb : B16 b) : ∃ o, B_Pg_targets_16 a (l : Int) b (k : Int) 1 h = B_Pg_targets_4 a (l : Int) (ior b (lin (pC P l k 0) (pC P l k 1) (pC P l k 2))) ((k + 1 : Nat) : Int) o h := by
  obtain ⟨⟨t0, t1⟩, t2, t3⟩ := id ht
  obtain ⟨c, hc⟩ := n_of t0
  have hc14 : c < 14 := by omega
  obtain ⟨o1, o2, o3⟩ := opr_t ⟨c, hc14⟩
  have i1 := c_isTarget (p := 0) hL hc14 (by decide)
  have i2 := c_isTarget (p := 1) hL hc14 (by decide)
  have i3 := c_isTarget (p := 2) hL hc14 (by decide)
  have p0 := c_part0 hg hl hk
  have p1 := c_part1 hg hl hk
  have p2 := c_part2 hg hl hk
  rw [hP, hc] at p0
  rw [hP] at p1 p2
  have s1 : ∀ b', B_Pg_targets_16 a (l : Int) b' (k : Int) 1 h = B_Pg_targets_16 a (l : Int) (iteP (c = 9 ∨ c = 11) (ior b' (ishl 1 (pC P l k 1))) b') (k : Int) 2 h := fun b' => by
    rw [q_Pg_targets_16, if_neg (by decide), p0, Option.bind_some]
    dsimp only
    rw [show F_Pg_isTarget (c : Int) 1 h = _ from i1, Option.bind_some]
    dsimp only
    by_cases q : c = 9 ∨ c = 11
    · rw [b2i_t (o1.mpr q), if_neg (by decide), p1, Option.bind_some, q_Pg_targets_50, iteP_t q]
      rfl
    · rw [b2i_f (fun z => q (o1.mp z)), if_pos rfl, q_Pg_targets_50, iteP_f q]
      rfl
  have s2 : ∀ b', B_Pg_targets_16 a (l : Int) b' (k : Int) 2 h = B_Pg_targets_16 a (l : Int) (iteP (c = 8 ∨ c = 10 ∨ c = 11) (ior b' (ishl 1 (pC P l k 2))) b') (k : Int) 3 h := fun b' => by
    rw [q_Pg_targets_16, if_neg (by decide), p0, Option.bind_some]
    dsimp only
    rw [show F_Pg_isTarget (c : Int) 2 h = _ from i2, Option.bind_some]
    dsimp only
    by_cases q : c = 8 ∨ c = 10 ∨ c = 11
    · rw [b2i_t (o2.mpr q), if_neg (by decide), p2, Option.bind_some, q_Pg_targets_50, iteP_t q]
      rfl
    · rw [b2i_f (fun z => q (o2.mp z)), if_pos rfl, q_Pg_targets_50, iteP_f q]
      rfl
  have s3 : ∀ b', B_Pg_targets_16 a (l : Int) b' (k : Int) 3 h = B_Pg_targets_4 a (l : Int) b' ((k + 1 : Nat) : Int) (some (.inl 4)) h := fun b' => by
    have e1 := w32_nn k (by omega)
    rw [q_Pg_targets_16, if_neg (by decide), p0, Option.bind_some]
    dsimp only
    rw [show F_Pg_isTarget (c : Int) 3 h = _ from i3, Option.bind_some]
    dsimp only
    rw [b2i_f o3, if_pos rfl, q_Pg_targets_50, q_Pg_targets_16, if_pos (by decide), e1]
    rfl
  refine ⟨some (.inl 4), ?_⟩
  rw [s1, s2, s3, hc]
  congr 1
  unfold lin
  by_cases q9 : c = 9
  · rw [iteP_t (Or.inl q9), iteP_f (by omega), if_pos (by omega)]
  · rw [if_neg (show ¬ (c : Int) = 9 by omega)]
    by_cases q8 : c = 8 ∨ c = 10
    · rw [iteP_t (p := c = 8 ∨ c = 10 ∨ c = 11) (by omega), iteP_f (p := c = 9 ∨ c = 11) (by omega), if_pos (by omega)]
    · rw [if_neg (show ¬ ((c : Int) = 8 ∨ (c : Int) = 10) by omega)]
      by_cases q11 : c = 11
      · have h1 := t2 (by omega)
        have h2 := t3 (by omega)
        rw [iteP_t (Or.inr q11), iteP_t (by omega), if_pos (by omega), ioA hb (sh4 h1.1 h1.2) (sh4 h2.1 h2.2)]
      · rw [iteP_f (by omega), iteP_f (by omega), if_neg (by omega), io0 hb]
theorem c_targets4 (hL : Ly L h) (hg : PgO h a) (hP : h.2 (a + 1) = P) {l s : Nat} (hl : l < 4) (hs : pK P l = s) (hs6 : s ≤ 6) (ht : ∀ k, k < s → tok P l k) : ∀ (n k : Nat) (o : Option mV), k + n = s → B_Pg_targets_4 a (l : Int) (tgS P l k) (k : Int) o h = some (tgS P l s, h)
  | 0, k, o, e => by
    have : k = s := by omega
    subst this
    rw [q_Pg_targets_4, c_size hg hl, Option.bind_some, hP, hs]
    dsimp only
    rw [if_pos (Int.le_refl _)]
  | n + 1, k, o, e => by
    have hk : k < 6 := by omega
    have hks : k < s := by omega
    obtain ⟨o', z⟩ := c_targets16 hL hg hP hl hk (ht k hks) (tgS_b k (fun i hi => ht i (by omega)))
    rw [q_Pg_targets_4, c_size hg hl, Option.bind_some, hP, hs]
    dsimp only
    rw [if_neg (by omega), z]
    exact c_targets4 hL hg hP hl hs hs6 ht n (k + 1) o' (by omega)
theorem c_targets (hL : Ly L h) (hg : PgO h a) (hP : h.2 (a + 1) = P) {l : Nat} (hl : l < 4) (h0 : 0 ≤ pK P l) (h6 : pK P l ≤ 6) (ht : ∀ k : Nat, (k : Int) < pK P l → tok P l k) : F_Pg_targets a (l : Int) h = some (tgS P l (pK P l).toNat, h) := by
  rw [q_Pg_targets _ _ _ hg.1]
  exact c_targets4 hL hg hP hl (s := (pK P l).toNat) (by omega) (by omega) (fun k hk => ht k (by omega)) (pK P l).toNat 0 none (by omega)
def insN (P : Nat → Int) : Nat → Int
  | 0 => 0
  | l + 1 => insN P l + pK P l
theorem insN_b (hv : Val P) : ∀ n : Nat, (n : Int) ≤ pL P → 0 ≤ insN P n ∧ insN P n ≤ 6 * n
  | 0, _ => by unfold insN; omega
  | n + 1, hn => by
    have ih := insN_b hv n (by omega)
    have := (hv.2.2.2.2 n (by omega)).2.2.2.2.1
    unfold insN
    omega
theorem c_ins4 (hg : PgO h a) (hP : h.2 (a + 1) = P) (hv : Val P) {N : Nat} (hN : pL P = N) : ∀ (n k : Nat), k + n = N → B_Pg_instructions_4 a (insN P k) (k : Int) h = some (insN P N, h)
  | 0, k, e => by
    have : k = N := by omega
    subst this
    rw [q_Pg_instructions_4, c_labels hg, Option.bind_some, hP]
    dsimp only
    rw [if_pos (show pL P ≤ (k : Int) by omega)]
  | n + 1, k, e => by
    have h4 := hv.2.1
    have hk : k < 4 := by omega
    have hb := insN_b hv k (by omega)
    have hs := (hv.2.2.2.2 k (by omega)).2.2.2.2.1
    have z := c_ins4 hg hP hv hN n (k + 1) (by omega)
    have hx : ¬ pL P ≤ (k : Int) := by omega
    have e1 : w32 (insN P k + pK P k) = insN P (k + 1) := by
      show w32 (insN P k + pK P k) = insN P k + pK P k
      unfold w32
      omega
    have e2 := w32_nn k (by omega)
    rw [q_Pg_instructions_4, c_labels hg, Option.bind_some, hP]
    dsimp only
    rw [if_neg hx, c_size hg hk, Option.bind_some, hP]
    dsimp only
    rw [e1, e2]
    exact z
theorem c_instructions (hg : PgO h a) (hP : h.2 (a + 1) = P) (hv : Val P) : F_Pg_instructions a h = some (insN P (pL P).toNat, h) := by
  rw [q_Pg_instructions _ _ hg.1]
  have := hv.2.1
  exact c_ins4 hg hP hv (N := (pL P).toNat) (by omega) (pL P).toNat 0 (by omega)
end Tg
noncomputable def countA (n : Nat) (P : Nat → Int) (U K : List (Nat → Int)) (w : Int) : Int := if w = 0 then pS P else if w = 1 then pL P else if w = 2 then insN P (pL P).toNat else if w = 3 then bcS (sbS P (pL P).toNat) else if w = 4 then (U.length : Int) else if w = 5 then (K.length : Int) else if w = 6 then (n : Int) else -1
/-- one round over the labels -/
noncomputable def reP (P : Nat → Int) (b : Int) : Nat → Int
  | 0 => b
  | l + 1 => iteP (iand (ishr (reP P b l) l) 1 = 1) (ior (reP P b l) (tgS P l (pK P l).toNat)) (reP P b l)
noncomputable def reI (P : Nat → Int) : Nat → Int
  | 0 => 1
  | i + 1 => reP P (reI P i) (pL P).toNat
section Tb
variable {L n : Nat} {T P : Nat → Int} {U K : List (Nat → Int)} {h : mH}
theorem c_count (hc : CI L n T P U K h) (hv : Val P) (w : Int) : ∃ h', F_Tb_count 6 w h = some (countA n P U K w, h') ∧ CI L n T P U K h' ∧ TF h h' := by
  have hL := hc.1
  have hg := CI_pg hc
  have hP : h.2 (11 + 1) = P := hc.2.2.2.1
  have t7 : (7 : Int).toNat = 7 := rfl
  unfold countA
  rw [q_Tb_count _ _ _ (o_6 hL)]
  by_cases w0 : w = 0
  · rw [if_pos w0, if_pos w0]
    exact ⟨h, by rw [p_6_1 hL, Option.bind_some, t11, c_sorts hg, Option.bind_some, hP], hc, TF_rf h⟩
  · rw [if_neg w0, if_neg w0]
    by_cases w1 : w = 1
    · rw [if_pos w1, if_pos w1]
      exact ⟨h, by rw [p_6_1 hL, Option.bind_some, t11, c_labels hg, Option.bind_some, hP], hc, TF_rf h⟩
    · rw [if_neg w1, if_neg w1]
      by_cases w2 : w = 2
      · rw [if_pos w2, if_pos w2]
        exact ⟨h, by rw [p_6_1 hL, Option.bind_some, t11, c_instructions hg hP hv, Option.bind_some], hc, TF_rf h⟩
      · rw [if_neg w2, if_neg w2]
        by_cases w3 : w = 3
        · rw [if_pos w3, if_pos w3]
          obtain ⟨g1, a1, a2, a3, a4, a5, -⟩ := CI_take hc hv
          obtain ⟨g2, b1, b2⟩ := c_sureBits a2 a3 hv
          obtain ⟨c1, c2⟩ := CI_ckF a4 b2
          refine ⟨g2, ?_, c1, TF_tr a5 c2⟩
          rw [p_6_3 hL, Option.bind_some, p_6_1 hL, Option.bind_some, t11, t15, a1, Option.bind_some, p_6_3 a4.1, Option.bind_some, t15, b1, Option.bind_some]
          dsimp only
          rw [c_bitCount (sbS_b P _ (by have := hv.2.1; omega)), Option.bind_some]
        · rw [if_neg w3, if_neg w3]
          by_cases w4 : w = 4
          · rw [if_pos w4, if_pos w4]
            exact ⟨h, by rw [p_6_5 hL, Option.bind_some, t29, CI_h8 hc, Option.bind_some], hc, TF_rf h⟩
          · rw [if_neg w4, if_neg w4]
            by_cases w5 : w = 5
            · rw [if_pos w5, if_pos w5]
              exact ⟨h, by rw [p_6_6 hL, Option.bind_some, t39, CI_h2 hc, Option.bind_some], hc, TF_rf h⟩
            · rw [if_neg w5, if_neg w5]
              by_cases w6 : w = 6
              · rw [if_pos w6, if_pos w6]
                exact ⟨h, by rw [p_6_0 hL, Option.bind_some, t7, g_7 hL (by decide), Option.bind_some, hc.2.2.1.1], hc, TF_rf h⟩
              · rw [if_neg w6, if_neg w6]
                exact ⟨h, rfl, hc, TF_rf h⟩
theorem Val_tok (hv : Val P) {l k : Nat} (hl : (l : Int) < pL P) (hk : (k : Int) < pK P l) : tok P l k := tok_of hv.2.1.2 ((hv.2.2.2.2 l hl).2.2.2.2.2 k hk)
theorem c_reached11 (hc : CI L n T P U K h) (hv : Val P) {N : Nat} (hN : pL P = N) (b i : Int) : ∀ (m l : Nat), l + m = N → ∃ o, B_Tb_reached_11 6 (reP P b l) i (l : Int) h = B_Tb_reached_4 6 (reP P b N) (w32 (i + 1)) o h
  | 0, l, e => by
    have : l = N := by omega
    subst this
    refine ⟨some (.inl (l : Int)), ?_⟩
    rw [q_Tb_reached_11, p_6_1 hc.1, Option.bind_some, t11, c_labels (CI_pg hc), Option.bind_some, show h.2 (11 + 1) = P from hc.2.2.2.1]
    dsimp only
    rw [if_pos (show pL P ≤ (l : Int) by omega)]
  | m + 1, l, e => by
    obtain ⟨o, z⟩ := c_reached11 hc hv hN b i m (l + 1) (by omega)
    have hL := hc.1
    have hP : h.2 (11 + 1) = P := hc.2.2.2.1
    have h4 := hv.2.1
    have hl : (l : Int) < pL P := by omega
    have l4 : l < 4 := by omega
    have hs := (hv.2.2.2.2 l hl).2.2.2.2.1
    have hx : ¬ pL P ≤ (l : Int) := by omega
    have e1 := w32_nn l (by omega)
    refine ⟨o, ?_⟩
    rw [q_Tb_reached_11, p_6_1 hL, Option.bind_some, t11, c_labels (CI_pg hc), Option.bind_some, hP]
    dsimp only
    rw [if_neg hx]
    by_cases q : iand (ishr (reP P b l) l) 1 = 1
    · rw [if_neg (Decidable.not_not.mpr q), p_6_1 hL, Option.bind_some, t11, c_targets hL (CI_pg hc) hP l4 hs.1 hs.2 (fun k hk => Val_tok hv hl hk), Option.bind_some, q_Tb_reached_42, e1]
      dsimp only
      have er : reP P b (l + 1) = ior (reP P b l) (tgS P l (pK P l).toNat) := by
        show iteP _ _ _ = _
        rw [iteP_t q]
      rw [← er]
      exact z
    · have er : reP P b (l + 1) = reP P b l := by
        show iteP _ _ _ = _
        rw [iteP_f q]
      rw [if_pos q, q_Tb_reached_42, e1, ← er]
      exact z
theorem c_reached (hc : CI L n T P U K h) (hv : Val P) : F_Tb_reached 6 h = some (reI P 5, h) := by
  have h4 := hv.2.1
  have st : ∀ (i : Nat) (o : Option mV), i < 5 → ∃ o', B_Tb_reached_4 6 (reI P i) (i : Int) o h = B_Tb_reached_4 6 (reI P (i + 1)) ((i + 1 : Nat) : Int) o' h := fun i o hi => by
    obtain ⟨o', z⟩ := c_reached11 hc hv (N := (pL P).toNat) (by omega) (reI P i) (i : Int) (pL P).toNat 0 (by omega)
    rw [show ((0 : Nat) : Int) = 0 from rfl] at z
    refine ⟨o', ?_⟩
    have hx : ¬ (4 : Int) < (i : Int) := by omega
    have e1 := w32_nn i (by omega)
    rw [q_Tb_reached_4, if_neg hx]
    rw [e1] at z
    exact z
  obtain ⟨o1, z1⟩ := st 0 none (by decide)
  obtain ⟨o2, z2⟩ := st 1 o1 (by decide)
  obtain ⟨o3, z3⟩ := st 2 o2 (by decide)
  obtain ⟨o4, z4⟩ := st 3 o3 (by decide)
  obtain ⟨o5, z5⟩ := st 4 o4 (by decide)
  rw [q_Tb_reached _ _ (o_6 hc.1)]
  refine z1.trans (z2.trans (z3.trans (z4.trans (z5.trans ?_))))
  rw [q_Tb_reached_4, if_pos (by decide)]
/-- four rounds are enough -/
theorem pc' : ∀ a b : Fin 16, ior (a.val : Int) (b.val : Int) = (b.val : Int) → (a.val : Int) ≠ (b.val : Int) → bcS (a.val : Int) < bcS (b.val : Int) := by decide +kernel
theorem bc4' : ∀ a : Fin 16, bcS (a.val : Int) ≤ 4 := by decide +kernel
theorem reP_b (hv : Val P) {b : Int} (hb : B16 b) : ∀ l : Nat, (l : Int) ≤ pL P → B16 (reP P b l) ∧ ior b (reP P b l) = reP P b l
  | 0, _ => ⟨hb, by
      obtain ⟨a, rfl⟩ := b16_of hb
      show ior (a.val : Int) (a.val : Int) = (a.val : Int)
      have := ioi' a ⟨0, by decide⟩
      have e : ior (a.val : Int) (((⟨0, by decide⟩ : Fin 16).val : Nat) : Int) = (a.val : Int) := io0' a
      rw [e] at this
      exact this⟩
  | l + 1, hl => by
    obtain ⟨i1, i2⟩ := reP_b hv hb l (by omega)
    have hl' : (l : Int) < pL P := by omega
    have hs := (hv.2.2.2.2 l hl').2.2.2.2.1
    have ht : B16 (tgS P l (pK P l).toNat) := tgS_b _ (fun i hi => Val_tok hv hl' (by omega))
    show B16 (iteP _ _ _) ∧ ior b (iteP _ _ _) = iteP _ _ _
    by_cases q : iand (ishr (reP P b l) l) 1 = 1
    · rw [iteP_t q]
      refine ⟨io16 i1 ht, ?_⟩
      rw [← ioA hb i1 ht, i2]
    · rw [iteP_f q]
      exact ⟨i1, i2⟩
theorem reI_b (hv : Val P) : ∀ i : Nat, B16 (reI P i)
  | 0 => by unfold reI B16; decide
  | i + 1 => (reP_b hv (reI_b hv i) _ (by have := hv.2.1; omega)).1
theorem reI_54 (hv : Val P) : reI P 5 = reI P 4 := by
  have h4 := hv.2.1
  have st : ∀ i : Nat, reI P (i + 1) = reI P i ∨ bcS (reI P i) < bcS (reI P (i + 1)) := fun i => by
    by_cases q : reI P (i + 1) = reI P i
    · exact Or.inl q
    · have hs := (reP_b hv (reI_b hv i) (pL P).toNat (by omega)).2
      have e1 := reI_b hv i
      have e2 := reI_b hv (i + 1)
      refine Or.inr ?_
      have hs' : ior (reI P i) (reI P (i + 1)) = reI P (i + 1) := hs
      obtain ⟨a, ha⟩ := b16_of e1
      obtain ⟨b, hb⟩ := b16_of e2
      rw [ha, hb] at hs' q ⊢
      exact pc' a b hs' (Ne.symm q)
  have go : ∀ i : Nat, reI P (i + 1) = reI P i → reI P (i + 2) = reI P (i + 1) := fun i e => by
    show reP P (reI P (i + 1)) _ = reP P (reI P i) _
    rw [e]
  by_cases q : reI P 4 = reI P 3
  · exact go 3 q
  · have q2 : ¬ reI P 3 = reI P 2 := fun e => q (go 2 e)
    have q1 : ¬ reI P 2 = reI P 1 := fun e => q2 (go 1 e)
    have q0 : ¬ reI P 1 = reI P 0 := fun e => q1 (go 0 e)
    have s0 := (st 0).resolve_left q0
    have s1 := (st 1).resolve_left q1
    have s2 := (st 2).resolve_left q2
    have s3 := (st 3).resolve_left q
    have b0 : bcS (reI P 0) = 1 := by show bcS 1 = 1; decide
    obtain ⟨a, ha⟩ := b16_of (reI_b hv 4)
    have := bc4' a
    rw [← ha] at this
    simp only [Nat.zero_add, Nat.reduceAdd] at s0 s1 s2 s3
    omega
end Tb
