/-! the class: mends, day -/
theorem flat_eq {P Q : Nat → Int} (s : St P Q) (hW : ∀ l r, l < 4 → r < 4 → pW Q l r = pW P l r) (hO : ∀ l, l < 4 → pO Q l = pO P l) (hH : ∀ l, l < 4 → pH P l ≤ 3) {o t : Nat} (ho : o < 4) (ht : t < 4) : flat Q o t ↔ flat P o t := by
  unfold flat
  rw [St_H s ho, St_H s ht, hO o ho, hO t ht]
  have := hH t ht
  constructor
  · rintro ⟨h1, h2, h3⟩
    refine ⟨h1, fun r hr => ?_, fun i hi => ?_⟩
    · rw [← hW o r ho hr, ← hW t r ht hr]; exact h2 r hr
    · rw [← St_T s ho (by omega), ← St_T s ht (by omega)]; exact h3 i hi
  · rintro ⟨h1, h2, h3⟩
    refine ⟨h1, fun r hr => ?_, fun i hi => ?_⟩
    · rw [hW o r ho hr, hW t r ht hr]; exact h2 r hr
    · rw [St_T s ho (by omega), St_T s ht (by omega)]; exact h3 i hi
theorem CkT_eq {h : mH} {P Q : Nat → Int} (s : St P Q) (hW : ∀ l r, l < 4 → r < 4 → pW Q l r = pW P l r) (hO : ∀ l, l < 4 → pO Q l = pO P l) (hH : ∀ l, l < 4 → pH P l ≤ 3) (ht : CkT h P) : CkT h Q := by
  refine ⟨fun p q hp hq => ?_, fun t h4 => ?_⟩
  · rw [ht.1 p q hp hq]
    exact b2i_c (flat_eq s hW hO hH hq hp).symm
  · rw [ht.2 t h4]
    unfold allS
    rw [St_Fn s h4]
theorem CkT_ins {h : mH} {P : Nat → Int} (hH : ∀ l, l < 4 → pH P l ≤ 3) {l k : Nat} (hl : l < 4) (hk : k < 6) (c x y z : Int) (ht : CkT h P) : CkT h (insS P l k c x y z) :=
  CkT_eq (St_ins hl hk c x y z) (fun m r hm hr => insS_o c x y z (by have := l34 m l; omega)) (fun m hm => insS_o c x y z (by have := l34 m l; omega)) hH ht
theorem insS_self (P : Nat → Int) (l k : Nat) : insS P l k (P (28 + 34 * l + 4 * k)) (P (28 + 34 * l + 4 * k + 1)) (P (28 + 34 * l + 4 * k + 2)) (P (28 + 34 * l + 4 * k + 3)) = P := by
  unfold insS
  funext i
  unfold ru
  split
  · rename_i e; rw [e]
  · split
    · rename_i e; rw [e]
    · split
      · rename_i e; rw [e]
      · split
        · rename_i e; rw [e]
        · rfl
/-- whether a way mends -/
def mdB (P : Nat → Int) (l k w : Nat) : Prop := mayS (pS P) (pL P) ((w / 64 : Nat) : Int) ((w / 16 % 4 : Nat) : Int) ((w / 4 % 4 : Nat) : Int) ((w % 4 : Nat) : Int) ∧ (w / 64 = 1 → w / 4 % 4 = 0) ∧ sureS (insS P l k ((w / 64 : Nat) : Int) ((w / 16 % 4 : Nat) : Int) ((w / 4 % 4 : Nat) : Int) ((w % 4 : Nat) : Int)) l
noncomputable def meC (P : Nat → Int) (l k : Nat) : Nat → Int
  | 0 => 0
  | w + 1 => meC P l k w + b2i (mdB P l k w)
noncomputable def meF (P : Nat → Int) (l k : Nat) : Nat → Int
  | 0 => -4
  | w + 1 => iteP (meF P l k w < 0 ∧ mdB P l k w) (w : Int) (meF P l k w)
theorem meC_b (P : Nat → Int) (l k : Nat) : ∀ w : Nat, 0 ≤ meC P l k w ∧ meC P l k w ≤ w
  | 0 => by unfold meC; omega
  | w + 1 => by
    have ih := meC_b P l k w
    have := b2i_01 (mdB P l k w)
    show 0 ≤ meC P l k w + b2i (mdB P l k w) ∧ meC P l k w + b2i (mdB P l k w) ≤ ((w + 1 : Nat) : Int)
    omega
theorem meF_st {P : Nat → Int} {l k w : Nat} (h : 0 ≤ meF P l k w) : ∀ m : Nat, meF P l k (w + m) = meF P l k w
  | 0 => rfl
  | m + 1 => by
    have ih := meF_st h m
    show iteP (meF P l k (w + m) < 0 ∧ mdB P l k (w + m)) ((w + m : Nat) : Int) (meF P l k (w + m)) = _
    rw [ih, iteP_f (by omega)]
noncomputable def mendsA (P : Nat → Int) (l w : Int) : Int :=
  iteP (hasL P l ∧ 0 ≤ w ∧ w ≤ 1) (iteP (sureS P l.toNat ∨ pK P l.toNat ≤ (chkS P l.toNat).2) (-2) (if w = 0 then meC P l.toNat (chkS P l.toNat).2.toNat 896 else meF P l.toNat (chkS P l.toNat).2.toNat 896)) (-1)
theorem sw' : ∀ w : Fin 896, ishr (w.val : Int) 6 = ((w.val / 64 : Nat) : Int) ∧ iand (ishr (w.val : Int) 4) 3 = ((w.val / 16 % 4 : Nat) : Int) ∧ iand (ishr (w.val : Int) 2) 3 = ((w.val / 4 % 4 : Nat) : Int) ∧ iand (w.val : Int) 3 = ((w.val % 4 : Nat) : Int) := by decide +kernel
section Tb
variable {L n : Nat} {T P : Nat → Int} {U K : List (Nat → Int)} {h : mH}
/-- the trial, one instruction of it changed -/
def MS (L n : Nat) (T P : Nat → Int) (U K : List (Nat → Int)) (l k : Nat) (h : mH) : Prop := CI L n T P U K h ∧ (∃ c x y z, h.2 14 = insS P l k c x y z) ∧ CkT h P ∧ h.2 15 0 = 13
theorem c_mendsBy36 (hv : Val P) {l k : Nat} (hl : (l : Int) < pL P) (hk : k < 6) (hm : MS L n T P U K l k h) (w c x y z : Int) : ∃ h', B_Tb_mendsBy_36 6 (l : Int) (k : Int) w c x y z h = some (b2i (mayS (pS P) (pL P) c x y z ∧ sureS (insS P l k c x y z) l), h') ∧ MS L n T P U K l k h' ∧ TF h h' := by
  obtain ⟨hc, ⟨c0, x0, y0, z0, h14⟩, ht, h15⟩ := id hm
  have hL := hc.1
  have hl4 : l < 4 := by have := hv.2.1; omega
  have hH : ∀ l, l < 4 → pH P l ≤ 3 := fun l hl => (hv.2.2.1 l hl).2
  have hst : St P (h.2 (13 + 1)) := by rw [show h.2 (13 + 1) = _ from h14]; exact St_ins hl4 hk _ _ _ _
  rw [q_Tb_mendsBy_36, p_6_2 hL, Option.bind_some, t13, c_allows hL (CI_pt hc), Option.bind_some, St_S hst, St_L hst]
  dsimp only
  by_cases q : mayS (pS P) (pL P) c x y z
  · have hvq := Val_ins hv hl4 hk q
    have hz : Zr (insS P l k c x y z) := Zr_ins (CI_zP hc) hl4 hk _ _ _ _
    obtain ⟨b1, b2⟩ := CI_tr hc hz
    have hT1 : CkT (mrow h 14 (insS P l k c x y z)) P := ⟨fun p q hp hq => by rw [mrow_o _ _ (by decide)]; exact ht.1 p q hp hq, fun t h4 => by rw [mrow_o _ _ (by decide)]; exact ht.2 t h4⟩
    have hP1 : CkP L (mrow h 14 (insS P l k c x y z)) (insS P l k c x y z) := ⟨b1.1, 13, Or.inr rfl, by rw [mrow_o _ _ (by decide)]; exact h15, mrow_s _ _ _⟩
    obtain ⟨g, d1, d2, -, -⟩ := c_isSure hP1 (CkT_ins hH hl4 hk c x y z hT1) hvq (l := l) (by rw [St_L (St_ins hl4 hk c x y z)]; exact hl)
    obtain ⟨f1, f2⟩ := CI_ckF b1 d2
    refine ⟨g, ?_, ⟨f1, ⟨c, x, y, z, ?_⟩, CkF_T d2 hT1, ?_⟩, TF_tr b2 f2⟩
    · rw [b2i_t q, if_pos (by decide), p_6_2 hL, Option.bind_some, t13, c_setIns (CI_pt hc) hl4 hk, Option.bind_some, show h.2 (13 + 1) = _ from h14, insS_insS, p_6_3 b1.1, Option.bind_some, t15, d1, Option.bind_some, rz_b]
      rw [b2i_c (show sureS (insS P l k c x y z) l ↔ (mayS (pS P) (pL P) c x y z ∧ sureS (insS P l k c x y z) l) from ⟨fun z => ⟨q, z⟩, fun z => z.2⟩)]
    · rw [d2.2.1 14 (by decide) (by decide) (by decide), mrow_s]
    · rw [d2.2.2 0 (by decide), mrow_o _ _ (by decide)]; exact h15
  · refine ⟨h, ?_, hm, TF_rf h⟩
    rw [b2i_f q, if_neg (by decide), b2i_f (fun z => q z.1)]
theorem c_mendsBy (hv : Val P) {l k : Nat} (hl : (l : Int) < pL P) (hk : k < 6) (hm : MS L n T P U K l k h) {w : Nat} (hw : w < 896) : ∃ h', F_Tb_mendsBy 6 (l : Int) (k : Int) (w : Int) h = some (b2i (mdB P l k w), h') ∧ MS L n T P U K l k h' ∧ TF h h' := by
  obtain ⟨s1, s2, s3, s4⟩ := sw' ⟨w, hw⟩
  dsimp only at s1 s2 s3 s4
  rw [q_Tb_mendsBy _ _ _ _ _ (o_6 hm.1.1), s1, s2, s3, s4]
  obtain ⟨h', z1, z2, z3⟩ := c_mendsBy36 hv hl hk hm (w : Int) ((w / 64 : Nat) : Int) ((w / 16 % 4 : Nat) : Int) ((w / 4 % 4 : Nat) : Int) ((w % 4 : Nat) : Int)
  by_cases q : w / 64 = 1
  · rw [if_neg (show ¬ ((w / 64 : Nat) : Int) ≠ 1 by omega)]
    by_cases r : w / 4 % 4 = 0
    · rw [if_neg (show ¬ ((w / 4 % 4 : Nat) : Int) ≠ 0 by omega)]
      exact ⟨h', by rw [z1, b2i_c (show _ ↔ mdB P l k w from ⟨fun a => ⟨a.1, fun _ => r, a.2⟩, fun a => ⟨a.1, a.2.2⟩⟩)], z2, z3⟩
    · rw [if_pos (show ((w / 4 % 4 : Nat) : Int) ≠ 0 by omega)]
      exact ⟨h, by rw [b2i_f (fun a => r (a.2.1 q))], hm, TF_rf h⟩
  · rw [if_pos (show ((w / 64 : Nat) : Int) ≠ 1 by omega)]
    exact ⟨h', by rw [z1, b2i_c (show _ ↔ mdB P l k w from ⟨fun a => ⟨a.1, fun z => absurd z q, a.2⟩, fun a => ⟨a.1, a.2.2⟩⟩)], z2, z3⟩
theorem c_mends104 (hv : Val P) {l k : Nat} (hl : (l : Int) < pL P) (hk : k < 6) {u : Int} : ∀ (m w : Nat) (x : Int) (h : mH), w + m = 896 → MS L n T P U K l k h → ((u = 0 ∧ x = meC P l k w) ∨ (u = 1 ∧ meF P l k w = -4)) →
    ∃ h', B_Tb_mends_104 6 (l : Int) u (k : Int) x (w : Int) h = some (if u = 0 then meC P l k 896 else meF P l k 896, h') ∧ CI L n T P U K h' ∧ TF h h'
  | 0, w, x, h, e, hm, hx => by
    have : w = 896 := by omega
    subst this
    refine ⟨h, ?_, hm.1, TF_rf h⟩
    rw [q_Tb_mends_104, if_pos (by decide)]
    rcases hx with ⟨h1, h2⟩ | ⟨h1, h2⟩
    · rw [if_neg (Decidable.not_not.mpr h1), if_pos h1, h2]
    · rw [if_pos (by omega), if_neg (by omega), h2]
  | m + 1, w, x, h, e, hm, hx => by
    have hw : w < 896 := by omega
    have hx1 : ¬ (896 : Int) ≤ (w : Int) := by omega
    have hm1 : w + 1 + m = 896 := by omega
    have hw2 : w < 1000 := by omega
    obtain ⟨g, a1, a2, a3⟩ := c_mendsBy hv hl hk hm hw
    have hb := meC_b P l k w
    have e9 : w32 (meC P l k w + 1) = meC P l k w + 1 := by unfold w32; omega
    have e1 := w32_nn w hw2
    rw [q_Tb_mends_104, if_neg hx1, a1, Option.bind_some]
    dsimp only
    by_cases q : mdB P l k w
    · rw [b2i_t q, if_neg (by decide)]
      rcases hx with ⟨h1, h2⟩ | ⟨h1, h2⟩
      · have er : meC P l k (w + 1) = meC P l k w + 1 := by
          show meC P l k w + b2i (mdB P l k w) = _
          rw [b2i_t q]
        obtain ⟨h', z1, z2, z3⟩ := c_mends104 hv hl hk m (w + 1) (meC P l k w + 1) g hm1 a2 (Or.inl ⟨h1, er.symm⟩)
        refine ⟨h', ?_, z2, TF_tr a3 z3⟩
        rw [if_pos (by rw [h1]; decide), q_Tb_mends_134, e1, h2, e9]
        exact z1
      · have er : meF P l k (w + 1) = (w : Int) := by
          show iteP _ _ _ = _
          rw [iteP_t ⟨by rw [h2]; decide, q⟩]
        have e2 : meF P l k 896 = (w : Int) := by
          have := meF_st (P := P) (l := l) (k := k) (w := w + 1) (by rw [er]; exact Int.natCast_nonneg w) m
          rw [hm1, er] at this
          exact this
        refine ⟨g, ?_, a2.1, a3⟩
        rw [if_neg (Decidable.not_not.mpr h1), e2, if_neg (by rw [h1]; decide)]
    · rw [b2i_f q, if_pos rfl]
      have er : meC P l k (w + 1) = meC P l k w := by
        show meC P l k w + b2i (mdB P l k w) = _
        rw [b2i_f q, Int.add_zero]
      have ef : meF P l k (w + 1) = meF P l k w := by
        show iteP _ _ _ = _
        rw [iteP_f (fun z => q z.2)]
      obtain ⟨h', z1, z2, z3⟩ := c_mends104 hv hl hk m (w + 1) x g hm1 a2 (by rw [er, ef]; exact hx)
      refine ⟨h', ?_, z2, TF_tr a3 z3⟩
      rw [q_Tb_mends_134, e1]
      exact z1
theorem chk_b (hv : Val P) {l : Nat} (hl : (l : Int) < pL P) (hs : ¬ sureS P l) : 0 ≤ (chkS P l).2 := by
  have hk := (hv.2.2.2.2 l hl).2.2.2.2.1
  have hi : ∀ m : Nat, 0 ≤ (itS P l m).2.2.2.2 := fun m => by
    induction m with
    | zero => show (0 : Int) ≤ 0; decide
    | succ m ih =>
      unfold itS
      by_cases q : (itS P l m).1 ≠ 0
      · rw [iteP_t q]; exact ih
      · rw [iteP_f q]
        by_cases w : (itS P l m).2.1 ≠ 0
        · rw [iteP_t w]; exact Int.natCast_nonneg m
        · rw [iteP_f w]; exact Int.natCast_nonneg m
  unfold chkS
  by_cases q : (itS P l (pK P l).toNat).1 ≠ 0
  · rw [iteP_t q]; exact hi _
  · rw [iteP_f q]
    by_cases w : (itS P l (pK P l).toNat).2.1 = 0
    · rw [iteP_t w]; exact hk.1
    · rw [iteP_f w]; exact Int.le_refl 0
theorem c_mends (hc : CI L n T P U K h) (hv : Val P) (l w : Int) : ∃ h', F_Tb_mends 6 l w h = some (mendsA P l w, h') ∧ CI L n T P U K h' ∧ TF h h' := by
  have hL := hc.1
  have hP : h.2 (11 + 1) = P := hc.2.2.2.1
  unfold mendsA
  rw [q_Tb_mends _ _ _ _ (o_6 hL), p_6_1 hL, Option.bind_some, t11, c_hasLabel (CI_pg hc), hP, Option.bind_some]
  dsimp only
  by_cases h1 : 0 ≤ l ∧ l < pL P
  · obtain ⟨m, rfl⟩ := n_of h1.1
    have hm : m < 4 := by have := hv.2.1; omega
    rw [if_pos h1, if_neg (by decide), tn]
    by_cases h2 : w < 0
    · rw [if_pos h2, iteP_f (by omega)]
      exact ⟨h, rfl, hc, TF_rf h⟩
    · rw [if_neg h2]
      by_cases h3 : w ≤ 1
      · obtain ⟨g1, a1, a2, a3, a4, a5, -⟩ := CI_take hc hv
        obtain ⟨g2, b1, b2, b3, b4⟩ := c_isSure a2 a3 hv h1.2
        obtain ⟨c1, c2⟩ := CI_ckF a4 b2
        rw [if_pos h3, iteP_t ⟨h1, by omega, h3⟩, p_6_3 hL, Option.bind_some, p_6_1 hL, Option.bind_some, t11, t15, a1, Option.bind_some, p_6_3 a4.1, Option.bind_some, t15, b1, Option.bind_some]
        dsimp only
        by_cases q : sureS P m
        · rw [b2i_t q, if_pos (by decide), iteP_t (Or.inl q)]
          exact ⟨g2, rfl, c1, TF_tr a5 c2⟩
        · have hP2 : g2.2 (11 + 1) = P := c1.2.2.2.1
          have hk := (hv.2.2.2.2 m h1.2).2.2.2.2.1
          rw [b2i_f q, if_neg (by decide), p_6_3 c1.1, Option.bind_some, t15, g_15 c1.1 (by decide), Option.bind_some, p_6_1 c1.1, Option.bind_some, t11, c_size (CI_pg c1) hm, Option.bind_some, hP2, b4 q]
          dsimp only
          by_cases r : (chkS P m).2 < pK P m
          · obtain ⟨k, hk2⟩ := n_of (chk_b hv h1.2 q)
            have hk6 : k < 6 := by omega
            obtain ⟨d1, d2⟩ := CI_tr c1 (CI_zP c1)
            obtain ⟨g3, e1, e2, e3, e4, e5, e6, e7⟩ := CI_takeT d1 (by rw [mrow_s]; exact hv)
            rw [mrow_s] at e2 e3 e6
            have hMS : MS L n T P U K m k g3 := ⟨e4, ⟨_, _, _, _, by rw [e6]; exact (insS_self P m k).symm⟩, e3, e7⟩
            have hu : (w = 0 ∧ (0 : Int) = meC P m k 0) ∨ (w = 1 ∧ meF P m k 0 = -4) := by
              by_cases w0 : w = 0
              · exact Or.inl ⟨w0, rfl⟩
              · exact Or.inr ⟨by omega, rfl⟩
            obtain ⟨h', z1, z2, z3⟩ := c_mends104 hv h1.2 hk6 896 0 0 g3 (by decide) hMS hu
            rw [show ((0 : Nat) : Int) = 0 from rfl] at z1
            refine ⟨h', ?_, z2, TF_tr a5 (TF_tr c2 (TF_tr d2 (TF_tr e5 z3)))⟩
            rw [if_pos r, iteP_f (fun z => z.elim q (fun z => by omega)), p_6_3 c1.1, Option.bind_some, t15, g_15 c1.1 (by decide), Option.bind_some, b4 q, p_6_2 c1.1, Option.bind_some, t13, p_6_1 c1.1, Option.bind_some, t11, p_11_0 c1.1, Option.bind_some, t12, CI_cpT c1, Option.bind_some, p_6_3 d1.1, Option.bind_some, p_6_2 d1.1, Option.bind_some, t15, t13, e1, Option.bind_some, hk2, tn]
            exact z1
          · rw [if_neg r, iteP_t (Or.inr (by omega))]
            exact ⟨g2, rfl, c1, TF_tr a5 c2⟩
      · rw [if_neg h3, iteP_f (by omega)]
        exact ⟨h, rfl, hc, TF_rf h⟩
  · rw [if_neg h1, if_pos rfl, iteP_f (fun q => h1 q.1)]
    exact ⟨h, rfl, hc, TF_rf h⟩
end Tb
