/-! the class: days -/
def drw (z k : Nat) : Nat := (7919 * z + 6151 * k + 1) * (7919 * z + 6151 * k + 1) % 65521
def drX (z k : Int) : Int := w32 (Int.tmod (w64 ((w64 ((w64 ((w64 (7919 * z)) + (w64 (6151 * k)))) + 1)) * (w64 ((w64 ((w64 (7919 * z)) + (w64 (6151 * k)))) + 1)))) 65521)
theorem drX_e {z k : Nat} (hz : z ≤ 9999) (hk : k ≤ 20) : drX (z : Int) (k : Int) = ((drw z k : Nat) : Int) := by
  have e1 : w64 (7919 * (z : Int)) = ((7919 * z : Nat) : Int) := by unfold w64; omega
  have e2 : w64 (6151 * (k : Int)) = ((6151 * k : Nat) : Int) := by unfold w64; omega
  have e3 : w64 (((7919 * z : Nat) : Int) + ((6151 * k : Nat) : Int)) = ((7919 * z + 6151 * k : Nat) : Int) := by unfold w64; omega
  have e4 : w64 (((7919 * z + 6151 * k : Nat) : Int) + 1) = ((7919 * z + 6151 * k + 1 : Nat) : Int) := by unfold w64; omega
  unfold drX drw
  rw [e1, e2, e3, e4]
  clear e1 e2 e3 e4
  have hx : 7919 * z + 6151 * k + 1 ≤ 80000000 := by omega
  generalize 7919 * z + 6151 * k + 1 = X at hx
  have hm : X * X ≤ 80000000 * 80000000 := Nat.mul_le_mul hx hx
  rw [← Int.natCast_mul]
  generalize X * X = Y at hm
  have e5 : w64 ((Y : Nat) : Int) = (Y : Int) := by unfold w64; omega
  rw [e5]
  clear e5
  have e6 : Int.tmod (Y : Int) 65521 = ((Y % 65521 : Nat) : Int) := (Int.ofNat_tmod Y 65521).symm
  rw [e6]
  clear e6
  have : Y % 65521 < 65521 := Nat.mod_lt _ (by decide)
  unfold w32
  omega
theorem drw_lt (z k : Nat) : drw z k < 65521 := Nat.mod_lt _ (by decide)
theorem c_drawn {z k : Nat} (hz : z ≤ 9999) (hk : k ≤ 20) (h : mH) : F_Tb_drawn (z : Int) (k : Int) h = some (((drw z k : Nat) : Int), h) := by
  rw [q_Tb_drawn]
  show some (drX (z : Int) (k : Int), h) = _
  rw [drX_e hz hk]
def drc (i : Nat) : Int := [(0 : Int), 1, 2, 6, 7].getD i 0
def dry (d : Nat) : Int := if drc (d / 64 % 5) = 1 then 1 else if drc (d / 64 % 5) = 6 ∨ drc (d / 64 % 5) = 7 then 0 else ((d / 2048 % 4 : Nat) : Int)
/-- what a draw changes -/
noncomputable def chgS (Q : Nat → Int) (d : Nat) : Nat → Int :=
  iteP (0 < pK Q (d % (pL Q).toNat)) (insS Q (d % (pL Q).toNat) (d / 8 % (pK Q (d % (pL Q).toNat)).toNat) (drc (d / 64 % 5)) ((d / 512 % 4 : Nat) : Int) (dry d) 0) Q
theorem drc_v {i : Nat} (h : i < 5) : drc i = 0 ∨ drc i = 1 ∨ drc i = 2 ∨ drc i = 6 ∨ drc i = 7 := by
  have : i = 0 ∨ i = 1 ∨ i = 2 ∨ i = 3 ∨ i = 4 := by omega
  rcases this with e | e | e | e | e <;> subst e <;> decide
theorem dr_may (s n : Int) (d : Nat) : mayS s n (drc (d / 64 % 5)) ((d / 512 % 4 : Nat) : Int) (dry d) 0 := by
  have h5 : d / 64 % 5 < 5 := Nat.mod_lt _ (by decide)
  have h1 : d / 512 % 4 < 4 := Nat.mod_lt _ (by decide)
  have h2 : d / 2048 % 4 < 4 := Nat.mod_lt _ (by decide)
  unfold dry
  rcases drc_v h5 with e | e | e | e | e <;> rw [e] <;> simp [mayS, chs, oprL] <;> omega
theorem Val_chg {Q : Nat → Int} (hv : Val Q) (d : Nat) : Val (chgS Q d) ∧ St Q (chgS Q d) ∧ (∀ l r, l < 4 → r < 4 → pW (chgS Q d) l r = pW Q l r) ∧ ∀ l, l < 4 → pO (chgS Q d) l = pO Q l := by
  have h4 := hv.2.1
  have hl : d % (pL Q).toNat < (pL Q).toNat := Nat.mod_lt _ (by omega)
  have hl4 : d % (pL Q).toNat < 4 := by omega
  have hk := (hv.2.2.2.2 (d % (pL Q).toNat) (by omega)).2.2.2.2.1
  unfold chgS
  by_cases q : 0 < pK Q (d % (pL Q).toNat)
  · rw [iteP_t q]
    have hk6 : d / 8 % (pK Q (d % (pL Q).toNat)).toNat < 6 := by
      have := Nat.mod_lt (d / 8) (show 0 < (pK Q (d % (pL Q).toNat)).toNat by omega)
      omega
    exact ⟨Val_ins hv hl4 hk6 (dr_may _ _ d), St_ins hl4 hk6 _ _ _ _, fun m r hm hr => insS_o _ _ _ _ (by have := l34 m (d % (pL Q).toNat); omega), fun m hm => insS_o _ _ _ _ (by have := l34 m (d % (pL Q).toNat); omega)⟩
  · rw [iteP_f q]
    exact ⟨hv, St_rf Q, fun _ _ _ _ => rfl, fun _ _ => rfl⟩
noncomputable def dayQ (P : Nat → Int) (z : Nat) : Nat → Nat → Int
  | 0 => P
  | k + 1 => chgS (dayQ P z k) (drw z k)
noncomputable def dayC (P : Nat → Int) (z : Nat) : Nat → Int
  | 0 => 0
  | k + 1 => dayC P z k + b2i (sbS (dayQ P z (k + 1)) (pL P).toNat = w32 (ishl 1 (pL P) - 1))
noncomputable def dayA (P : Nat → Int) (z n w : Int) : Int := iteP ((0 ≤ z ∧ z ≤ 9999) ∧ (1 ≤ n ∧ n ≤ 20) ∧ 0 ≤ w ∧ w ≤ 1) (if w = 0 then bcS (sbS (dayQ P z.toNat n.toNat) (pL P).toNat) else dayC P z.toNat n.toNat) (-1)
theorem dayQ_v {P : Nat → Int} (hv : Val P) (z : Nat) : ∀ k : Nat, Val (dayQ P z k) ∧ St P (dayQ P z k)
  | 0 => ⟨hv, St_rf P⟩
  | k + 1 => by
    obtain ⟨i1, i2⟩ := dayQ_v hv z k
    obtain ⟨c1, c2, -⟩ := Val_chg i1 (drw z k)
    exact ⟨c1, St_tr i2 c2⟩
theorem dayC_b (P : Nat → Int) (z : Nat) : ∀ k : Nat, 0 ≤ dayC P z k ∧ dayC P z k ≤ k
  | 0 => by unfold dayC; omega
  | k + 1 => by
    have ih := dayC_b P z k
    have := b2i_01 (sbS (dayQ P z (k + 1)) (pL P).toNat = w32 (ishl 1 (pL P) - 1))
    show 0 ≤ dayC P z k + b2i _ ∧ dayC P z k + b2i _ ≤ ((k + 1 : Nat) : Int)
    omega
section Tb
variable {L n : Nat} {T P : Nat → Int} {U K : List (Nat → Int)} {h : mH}
def DS (L n : Nat) (T P : Nat → Int) (U K : List (Nat → Int)) (Q : Nat → Int) (h : mH) : Prop := CI L n T P U K h ∧ h.2 14 = Q ∧ CkT h Q ∧ h.2 15 0 = 13
theorem drn_at (hL : Ly L h) {i : Nat} (hi : i < 5) : h.2 3 i = drc i := by
  refine hL.2 3 i _ ?_
  have : i = 0 ∨ i = 1 ∨ i = 2 ∨ i = 3 ∨ i = 4 := by omega
  rcases this with e | e | e | e | e <;> subst e <;> rfl
theorem c_change98 (hc : CI L n T P U K h) {Q : Nat → Int} (hQ : h.2 14 = Q) {l s d : Nat} (hl : l < 4) (hs : s ≤ 6) (hs0 : 0 < s) (hd : d < 65521) (x2 c x y : Int) : B_Tb_change_98 6 (d : Int) x2 (l : Int) (s : Int) c x y h = some (mrow h 14 (insS Q l (d / 8 % s) c x y 0)) := by
  have hm := Nat.mod_lt (d / 8) hs0
  have hk : d / 8 % s < 6 := by omega
  have hz : ¬ (s : Int) = 0 := by omega
  have e1 : Int.tdiv (d : Int) 8 = ((d / 8 : Nat) : Int) := (Int.ofNat_tdiv d 8).symm
  have e2 : w32 ((d / 8 : Nat) : Int) = ((d / 8 : Nat) : Int) := by unfold w32; omega
  have e3 : Int.tmod ((d / 8 : Nat) : Int) (s : Int) = ((d / 8 % s : Nat) : Int) := (Int.ofNat_tmod _ _).symm
  rw [q_Tb_change_98, p_6_2 hc.1, Option.bind_some, t13, show nz (s : Int) = some () from if_neg hz, Option.bind_some, e1, e2, e3, c_setIns (CI_pt hc) hl hk, Option.bind_some, show h.2 (13 + 1) = Q from hQ]
theorem c_change19 (hc : CI L n T P U K h) {Q : Nat → Int} (hQ : h.2 14 = Q) {l d : Nat} (hl : l < 4) (hs0 : 0 ≤ pK Q l) (hs6 : pK Q l ≤ 6) (hd : d < 65521) (x2 : Int) : B_Tb_change_19 6 (d : Int) x2 (l : Int) h = some (mrow h 14 (iteP (0 < pK Q l) (insS Q l (d / 8 % (pK Q l).toNat) (drc (d / 64 % 5)) ((d / 512 % 4 : Nat) : Int) (dry d) 0) Q)) := by
  have hL := hc.1
  have hQ' : h.2 (13 + 1) = Q := hQ
  obtain ⟨s, hs⟩ := n_of hs0
  rw [q_Tb_change_19, p_6_2 hL, Option.bind_some, t13, c_size (CI_pt hc) hl, Option.bind_some, hQ', hs]
  dsimp only
  by_cases q : (0 : Int) < (s : Int)
  · have i5 : d / 64 % 5 < 5 := Nat.mod_lt _ (by decide)
    have k0 : (0 : Int) ≤ ((d / 64 % 5 : Nat) : Int) := by omega
    have k1 : ((d / 64 % 5 : Nat) : Int) < 5 := by omega
    have s6 : s ≤ 6 := by omega
    have s0 : 0 < s := by omega
    have e1 : Int.tdiv (d : Int) 64 = ((d / 64 : Nat) : Int) := (Int.ofNat_tdiv d 64).symm
    have e2 : w32 ((d / 64 : Nat) : Int) = ((d / 64 : Nat) : Int) := by unfold w32; omega
    have e3 : Int.tmod ((d / 64 : Nat) : Int) 5 = ((d / 64 % 5 : Nat) : Int) := (Int.ofNat_tmod _ 5).symm
    have f1 : Int.tdiv (d : Int) 512 = ((d / 512 : Nat) : Int) := (Int.ofNat_tdiv d 512).symm
    have f2 : w32 ((d / 512 : Nat) : Int) = ((d / 512 : Nat) : Int) := by unfold w32; omega
    have f3 : Int.tmod ((d / 512 : Nat) : Int) 4 = ((d / 512 % 4 : Nat) : Int) := (Int.ofNat_tmod _ 4).symm
    have g1 : Int.tdiv (d : Int) 2048 = ((d / 2048 : Nat) : Int) := (Int.ofNat_tdiv d 2048).symm
    have g2 : w32 ((d / 2048 : Nat) : Int) = ((d / 2048 : Nat) : Int) := by unfold w32; omega
    have g3 : Int.tmod ((d / 2048 : Nat) : Int) 4 = ((d / 2048 % 4 : Nat) : Int) := (Int.ofNat_tmod _ 4).symm
    rw [if_pos q, iteP_t q, n_3 hL, Option.bind_some, show nz (5 : Int) = some () from rfl, Option.bind_some, e1, e2, e3, r_3 hL k0 k1, Option.bind_some, tn, tn, drn_at hL i5, f1, f2, f3, g1, g2, g3]
    unfold dry
    by_cases c1 : drc (d / 64 % 5) = 1
    · rw [if_neg (Decidable.not_not.mpr c1), if_pos c1, c_change98 hc hQ hl s6 s0 hd]
    · rw [if_pos c1, if_neg c1]
      by_cases c6 : drc (d / 64 % 5) = 6
      · rw [if_pos c6, if_pos (Or.inl c6), q_Tb_change_95, c_change98 hc hQ hl s6 s0 hd]
      · rw [if_neg c6]
        by_cases c7 : drc (d / 64 % 5) = 7
        · rw [if_neg (Decidable.not_not.mpr c7), if_pos (Or.inr c7), q_Tb_change_95, c_change98 hc hQ hl s6 s0 hd]
        · rw [if_pos c7, if_neg (fun z => z.elim c6 c7), c_change98 hc hQ hl s6 s0 hd]
  · rw [if_neg q, iteP_f q, ← hQ, mrow_id]
theorem c_change (hc : CI L n T P U K h) {Q : Nat → Int} (hQ : h.2 14 = Q) (hv : Val Q) {d : Nat} (hd : d < 65521) : F_Tb_change 6 (d : Int) h = some (mrow h 14 (chgS Q d)) := by
  have hL := hc.1
  have hQ' : h.2 (13 + 1) = Q := hQ
  have h4 := hv.2.1
  obtain ⟨N, hN⟩ := n_of (show 0 ≤ pL Q by omega)
  have hN0 : 0 < N := by omega
  have hlt := Nat.mod_lt d hN0
  have hl4 : d % N < 4 := by omega
  have hk := (hv.2.2.2.2 (d % N) (by omega)).2.2.2.2.1
  have hx : ¬ (N : Int) ≤ 0 := by omega
  have hz : ¬ (N : Int) = 0 := by omega
  have e3 : Int.tmod (d : Int) (N : Int) = ((d % N : Nat) : Int) := (Int.ofNat_tmod _ _).symm
  rw [q_Tb_change _ _ _ (o_6 hL), p_6_2 hL, Option.bind_some, t13, c_labels (CI_pt hc), Option.bind_some, hQ', show Q 1 = (N : Int) from hN]
  dsimp only
  rw [if_neg hx, show nz (N : Int) = some () from if_neg hz, Option.bind_some, e3, c_change19 hc hQ hl4 hk.1 hk.2 hd]
  unfold chgS
  rw [hN, tn]
theorem c_day67 (hv : Val P) {z N : Nat} (hz : z ≤ 9999) (hN : N ≤ 20) {w : Int} (hw : w = 0 ∨ w = 1) : ∀ (m k : Nat) (b : Int) (h : mH), k + m = N → DS L n T P U K (dayQ P z k) h → (0 < k → b = sbS (dayQ P z k) (pL P).toNat) → (k = 0 → 0 < m) →
    ∃ h', B_Tb_day_67 6 (z : Int) (N : Int) w b (dayC P z k) (k : Int) h = some (if w = 0 then bcS (sbS (dayQ P z N) (pL P).toNat) else dayC P z N, h') ∧ CI L n T P U K h' ∧ TF h h'
  | 0, k, b, h, e, hd, hb, h0 => by
    have : k = N := by omega
    subst this
    have hb' := hb (by omega)
    refine ⟨h, ?_, hd.1, TF_rf h⟩
    rw [q_Tb_day_67, if_pos (Int.le_refl _)]
    rcases hw with e0 | e0
    · rw [if_neg (Decidable.not_not.mpr e0), if_pos e0, hb', c_bitCount (sbS_b _ _ (by have := hv.2.1; omega)), Option.bind_some]
    · rw [if_pos (by omega), if_neg (by omega)]
  | m + 1, k, b, h, e, hd, hb, h0 => by
    obtain ⟨hc, hQ, ht, h15⟩ := hd
    obtain ⟨v1, v2⟩ := dayQ_v hv z k
    obtain ⟨v3, v4⟩ := dayQ_v hv z (k + 1)
    obtain ⟨w1, w2, w3, w4⟩ := Val_chg v1 (drw z k)
    have hk20 : k ≤ 20 := by omega
    have hk1000 : k < 1000 := by omega
    have hx : ¬ (N : Int) ≤ (k : Int) := by omega
    have hm1 : k + 1 + m = N := by omega
    have hk1 : k + 1 = 0 → 0 < m := by omega
    have hcb := dayC_b P z k
    have eL := St_L v4
    have hzr : Zr (chgS (dayQ P z k) (drw z k)) := by
      have hzq : Zr (dayQ P z k) := by rw [← hQ]; exact hc.2.1.2.2
      have hl : drw z k % (pL (dayQ P z k)).toNat < (pL (dayQ P z k)).toNat := Nat.mod_lt _ (by have := v1.2.1; omega)
      have hl4 : drw z k % (pL (dayQ P z k)).toNat < 4 := by have := v1.2.1; omega
      have hkk := (v1.2.2.2.2 (drw z k % (pL (dayQ P z k)).toNat) (by omega)).2.2.2.2.1
      unfold chgS
      by_cases q : 0 < pK (dayQ P z k) (drw z k % (pL (dayQ P z k)).toNat)
      · rw [iteP_t q]
        have := Nat.mod_lt (drw z k / 8) (show 0 < (pK (dayQ P z k) (drw z k % (pL (dayQ P z k)).toNat)).toNat by omega)
        exact Zr_ins hzq hl4 (by omega) _ _ _ _
      · rw [iteP_f q]; exact hzq
    obtain ⟨b1, b2⟩ := CI_tr hc hzr
    have hH : ∀ l, l < 4 → pH (dayQ P z k) l ≤ 3 := fun l hl => (v1.2.2.1 l hl).2
    have hT1 : CkT (mrow h 14 (chgS (dayQ P z k) (drw z k))) (dayQ P z k) := ⟨fun p q hp hq => by rw [mrow_o _ _ (by decide)]; exact ht.1 p q hp hq, fun t h4 => by rw [mrow_o _ _ (by decide)]; exact ht.2 t h4⟩
    have hT2 : CkT (mrow h 14 (chgS (dayQ P z k) (drw z k))) (dayQ P z (k + 1)) := CkT_eq w2 w3 w4 hH hT1
    have hP1 : CkP L (mrow h 14 (chgS (dayQ P z k) (drw z k))) (dayQ P z (k + 1)) := ⟨b1.1, 13, Or.inr rfl, by rw [mrow_o _ _ (by decide)]; exact h15, mrow_s _ _ _⟩
    obtain ⟨g, d1, d2⟩ := c_sureBits hP1 hT2 v3
    obtain ⟨f1, f2⟩ := CI_ckF b1 d2
    have g14 : g.2 14 = dayQ P z (k + 1) := by rw [d2.2.1 14 (by decide) (by decide) (by decide), mrow_s]; rfl
    have g15 : g.2 15 0 = 13 := by rw [d2.2.2 0 (by decide), mrow_o _ _ (by decide)]; exact h15
    rw [eL] at d1
    obtain ⟨h', z1, z2, z3⟩ := c_day67 hv hz hN hw m (k + 1) (sbS (dayQ P z (k + 1)) (pL P).toNat) g hm1 ⟨f1, g14, CkF_T d2 hT2, g15⟩ (fun _ => rfl) hk1
    refine ⟨h', ?_, z2, TF_tr b2 (TF_tr f2 z3)⟩
    have e9 : w32 (dayC P z k + 1) = dayC P z k + 1 := by unfold w32; omega
    have e1 := w32_nn k hk1000
    rw [q_Tb_day_67, if_neg hx, c_drawn hz hk20, Option.bind_some]
    dsimp only
    rw [c_change hc hQ v1 (drw_lt z k), Option.bind_some, p_6_3 b1.1, Option.bind_some, t15, d1, Option.bind_some]
    dsimp only
    rw [p_6_2 f1.1, Option.bind_some, t13, c_allLabels (CI_pt f1), Option.bind_some, show g.2 (13 + 1) = _ from g14, eL]
    dsimp only
    by_cases q : sbS (dayQ P z (k + 1)) (pL P).toNat = w32 (ishl 1 (pL P) - 1)
    · have er : dayC P z (k + 1) = dayC P z k + 1 := by
        show dayC P z k + b2i _ = _
        rw [b2i_t q]
      rw [if_neg (Decidable.not_not.mpr q), q_Tb_day_107, e1, e9, ← er]
      exact z1
    · have er : dayC P z (k + 1) = dayC P z k := by
        show dayC P z k + b2i _ = _
        rw [b2i_f q, Int.add_zero]
      rw [if_pos q, q_Tb_day_107, e1, ← er]
      exact z1
theorem c_day (hc : CI L n T P U K h) (hv : Val P) (z m w : Int) : ∃ h', F_Tb_day 6 z m w h = some (dayA P z m w, h') ∧ CI L n T P U K h' ∧ TF h h' := by
  have hL := hc.1
  unfold dayA
  rw [q_Tb_day _ _ _ _ _ (o_6 hL)]
  by_cases a1 : z < 0
  · rw [if_pos a1, iteP_f (by omega)]
    exact ⟨h, rfl, hc, TF_rf h⟩
  · rw [if_neg a1]
    by_cases a2 : 9999 < z
    · rw [if_pos a2, iteP_f (by omega)]
      exact ⟨h, rfl, hc, TF_rf h⟩
    · rw [if_neg a2]
      by_cases a3 : m < 1
      · rw [if_pos a3, iteP_f (by omega)]
        exact ⟨h, rfl, hc, TF_rf h⟩
      · rw [if_neg a3]
        by_cases a4 : 20 < m
        · rw [if_pos a4, iteP_f (by omega)]
          exact ⟨h, rfl, hc, TF_rf h⟩
        · rw [if_neg a4]
          by_cases a5 : w < 0
          · rw [if_pos a5, iteP_f (by omega)]
            exact ⟨h, rfl, hc, TF_rf h⟩
          · rw [if_neg a5]
            by_cases a6 : w ≤ 1
            · obtain ⟨y, rfl⟩ := n_of (show 0 ≤ z by omega)
              obtain ⟨N, rfl⟩ := n_of (show 0 ≤ m by omega)
              obtain ⟨d1, d2⟩ := CI_tr hc (CI_zP hc)
              obtain ⟨g3, e1, e2, e3, e4, e5, e6, e7⟩ := CI_takeT d1 (by rw [mrow_s]; exact hv)
              rw [mrow_s] at e2 e3 e6
              obtain ⟨h', z1, z2, z3⟩ := c_day67 hv (z := y) (N := N) (by omega) (by omega) (w := w) (by omega) N 0 0 g3 (by omega) ⟨e4, e6, e3, e7⟩ (fun q => absurd q (by decide)) (fun _ => by omega)
              rw [show ((0 : Nat) : Int) = 0 from rfl] at z1
              refine ⟨h', ?_, z2, TF_tr d2 (TF_tr e5 z3)⟩
              rw [if_pos a6, iteP_t (by omega), p_6_2 hL, Option.bind_some, p_6_1 hL, Option.bind_some, t13, t11, p_11_0 hL, Option.bind_some, t12, CI_cpT hc, Option.bind_some, p_6_3 d1.1, Option.bind_some, p_6_2 d1.1, Option.bind_some, t15, t13, e1, Option.bind_some, tn, tn]
              exact z1
            · rw [if_neg a6, iteP_f (by omega)]
              exact ⟨h, rfl, hc, TF_rf h⟩
end Tb
