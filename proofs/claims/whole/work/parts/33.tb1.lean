/-! THE CLASS: what holds between two calls; the acts -/
def TF (h h' : mH) : Prop := h'.1 = h.1 ∧ ∀ a, (a < 6 ∨ 43 ≤ a) → h'.2 a = h.2 a
theorem TF_rf (h : mH) : TF h h := ⟨rfl, fun _ _ => rfl⟩
theorem TF_tr {h h1 h2 : mH} (a : TF h h1) (b : TF h1 h2) : TF h h2 := ⟨b.1.trans a.1, fun k hk => (b.2 k hk).trans (a.2 k hk)⟩
theorem TF_row (h : mH) {a : Nat} (f : Nat → Int) (h1 : 6 ≤ a) (h2 : a < 43) : TF h (mrow h a f) := ⟨rfl, fun k hk => mrow_o h f (by omega)⟩
theorem TF_mw (h : mH) {a j : Nat} (v : Int) (h1 : 6 ≤ a) (h2 : a < 43) : TF h (mw h a j v) := ⟨rfl, fun k hk => mw_o h _ _ (by omega)⟩
theorem TF_sh8 {h h' : mH} (f : ShF 29 8 h h') : TF h h' := ⟨f.1, fun a ha => f.2.1 a (by omega) (by omega)⟩
theorem TF_sh2 {h h' : mH} (f : ShF 39 2 h h') : TF h h' := ⟨f.1, fun a ha => f.2.1 a (by omega) (by omega)⟩
def CI (L n : Nat) (T P : Nat → Int) (U K : List (Nat → Int)) (h : mH) : Prop :=
  Ly L h ∧ (Zr (h.2 9) ∧ Zr (h.2 12) ∧ Zr (h.2 14)) ∧ (h.2 7 2 = n ∧ n ≤ 200 ∧ ∀ i, i < n → h.2 10 i = T i) ∧ h.2 12 = P ∧ ShI h 29 8 U ∧ ShI h 39 2 K
theorem ShI_c {h h' : mH} {a N : Nat} {Q : List (Nat → Int)} (e : ∀ b, (b = a ∨ (a + 2 ≤ b ∧ b < a + 2 + N)) → h'.2 b = h.2 b) (hi : ShI h a N Q) : ShI h' a N Q := by
  obtain ⟨⟨nx, n1, n2, n3⟩, m1, m2, m3⟩ := hi
  refine ⟨⟨nx, n1, by rw [e a (Or.inl rfl)]; exact n2, fun i q hq => ?_⟩, by rw [e a (Or.inl rfl)]; exact m1, m2, fun j hj => ?_⟩
  · have := Nat.mod_lt (nx + N - 1 - i) (show 0 < N by omega)
    rw [e _ (Or.inr (by omega))]
    exact n3 i q hq
  · rw [e _ (Or.inr (by omega))]
    exact m3 j hj
theorem ShF_Ly {L a N : Nat} {h h' : mH} (hs : (a = 29 ∧ N = 8) ∨ (a = 39 ∧ N = 2)) (f : ShF a N h h') (hL : Ly L h) : Ly L h' := by
  refine ⟨by rw [f.1]; exact hL.1, fun b j v e => ?_⟩
  by_cases q : b = a
  · subst q
    have : j = 0 := by
      rcases hs with ⟨z, -⟩ | ⟨z, -⟩ <;> subst z
      · by_cases w : j = 0
        · exact w
        · simp [ptr, lkp, w] at e
          omega
      · by_cases w : j = 0
        · exact w
        · simp [ptr, lkp, w] at e
          omega
    subst this
    rw [f.2.2]
    exact hL.2 b 0 v e
  · by_cases w : b < a + 2 ∨ a + 2 + N ≤ b
    · rw [f.2.1 b q w]
      exact hL.2 b j v e
    · exfalso
      have : b = 31 ∨ b = 32 ∨ b = 33 ∨ b = 34 ∨ b = 35 ∨ b = 36 ∨ b = 37 ∨ b = 38 ∨ b = 41 ∨ b = 42 := by omega
      rcases this with z | z | z | z | z | z | z | z | z | z <;> subst z <;> cases e
section Tb
variable {L n : Nat} {T P : Nat → Int} {U K : List (Nat → Int)} {h : mH}
theorem CI_pg (hc : CI L n T P U K h) : PgO h 11 := Ly_pg hc.1 (by simp)
theorem CI_hold (hc : CI L n T P U K h) : ∃ h', F_Sh_hold 29 12 h = some h' ∧ CI L n T P ((P :: U).take 8) K h' ∧ TF h h' := by
  obtain ⟨hL, ⟨z9, z12, z14⟩, ⟨t1, t2, t3⟩, hP, hU, hK⟩ := hc
  obtain ⟨h', a1, a2, a3⟩ := c_hold (Ly_sh8 hL) hU (sh_12 hL) z12 (by decide) (by decide)
  rw [hP] at a2
  have f := a3.2.1
  refine ⟨h', a1, ⟨ShF_Ly (Or.inl ⟨rfl, rfl⟩) a3 hL, ⟨by rw [f 9 (by decide) (by decide)]; exact z9, by rw [f 12 (by decide) (by decide)]; exact z12, by rw [f 14 (by decide) (by decide)]; exact z14⟩, ⟨by rw [f 7 (by decide) (by decide)]; exact t1, t2, by rw [f 10 (by decide) (by decide)]; exact t3⟩, by rw [f 12 (by decide) (by decide)]; exact hP, a2, ShI_c (fun b hb => f b (by omega) (by omega)) hK⟩, TF_sh8 a3⟩
theorem CI_now (hc : CI L n T P U K h) {P' : Nat → Int} (hz : Zr P') : CI L n T P' U K (mrow h 12 P') ∧ TF h (mrow h 12 P') := by
  obtain ⟨hL, ⟨z9, z12, z14⟩, ⟨t1, t2, t3⟩, hP, hU, hK⟩ := hc
  refine ⟨⟨Ly_row hL (fun j => rfl), ⟨?_, ?_, ?_⟩, ⟨?_, t2, ?_⟩, mrow_s _ _ _, ShI_c (fun b hb => mrow_o _ _ (by omega)) hU, ShI_c (fun b hb => mrow_o _ _ (by omega)) hK⟩, TF_row h P' (by decide) (by decide)⟩
  · rw [mrow_o _ _ (by decide)]; exact z9
  · rw [mrow_s]; exact hz
  · rw [mrow_o _ _ (by decide)]; exact z14
  · rw [mrow_o _ _ (by decide)]; exact t1
  · rw [mrow_o _ _ (by decide)]; exact t3
/-- what an act leaves -/
def actN (P : Nat → Int) (U : List (Nat → Int)) : Option (Nat → Int) → (Nat → Int) × List (Nat → Int)
  | none => (P, U)
  | some P' => (P', (P :: U).take 8)
abbrev hasL (P : Nat → Int) (l : Int) : Prop := 0 ≤ l ∧ l < pL P
abbrev hasI (P : Nat → Int) (l k : Int) : Prop := (0 ≤ l ∧ l < pL P) ∧ 0 ≤ k ∧ k < pK P l.toNat
noncomputable def sortA (P : Nat → Int) (t f : Int) : Int := iteP ((0 ≤ t ∧ t < pS P) ∧ -1 ≤ f ∧ f < pFn P t.toNat) (iteP (f = -1) (pFn P t.toNat) (pFt P t.toNat f.toNat)) (-1)
noncomputable def labelA (P : Nat → Int) (l w : Int) : Int := iteP (hasL P l ∧ (0 ≤ w ∧ w ≤ 9) ∧ (5 ≤ w → w ≤ 7 → w - 5 < pH P l.toNat)) (P (18 + 34 * l.toNat + w.toNat)) (-1)
noncomputable def codeA (P : Nat → Int) (l k w : Int) : Int := iteP (hasI P l k ∧ 0 ≤ w ∧ w < 4) (pC P l.toNat k.toNat w.toNat) (-1)
noncomputable def putA (P : Nat → Int) (l k c x y z : Int) : Int × Option (Nat → Int) :=
  iteP (hasI P l k ∧ mayS (pS P) (pL P) c x y z) (iteP (pC P l.toNat k.toNat 0 = c ∧ pC P l.toNat k.toNat 1 = x ∧ pC P l.toNat k.toNat 2 = y ∧ pC P l.toNat k.toNat 3 = z) (-2, none) (pC P l.toNat k.toNat 0, some (insS P l.toNat k.toNat c x y z))) (-1, none)
noncomputable def addA (P : Nat → Int) (l k c x y z : Int) : Int × Option (Nat → Int) :=
  iteP (hasL P l ∧ (0 ≤ k ∧ k ≤ pK P l.toNat) ∧ mayS (pS P) (pL P) c x y z) (iteP (6 ≤ pK P l.toNat) (-3, none) (pK P l.toNat + 1, some (insS (roomS P l.toNat k.toNat (pK P l.toNat).toNat) l.toNat k.toNat c x y z))) (-1, none)
noncomputable def cutA (P : Nat → Int) (l k : Int) : Int × Option (Nat → Int) := iteP (hasI P l k) (pK P l.toNat - 1, some (outS P l.toNat k.toNat (pK P l.toNat).toNat)) (-1, none)
noncomputable def wantA (P : Nat → Int) (l r t : Int) : Int × Option (Nat → Int) :=
  iteP (hasL P l ∧ (0 ≤ r ∧ r < 4) ∧ tyOk P t) (iteP (pW P l.toNat r.toNat = t) (-2, none) (pW P l.toNat r.toNat, some (ru P (18 + 34 * l.toNat + r.toNat) t))) (-1, none)
noncomputable def belowA (P : Nat → Int) (l b : Int) : Int × Option (Nat → Int) :=
  iteP (hasL P l ∧ 0 ≤ b ∧ b ≤ 1) (iteP (pO P l.toNat = b) (-2, none) (1, some (ru P (26 + 34 * l.toNat) b))) (-1, none)
theorem Zr_ins {f : Nat → Int} (hz : Zr f) {l k : Nat} (hl : l < 4) (hk : k < 6) (c x y z : Int) : Zr (insS f l k c x y z) := by
  unfold insS
  exact Zr_ru (Zr_ru (Zr_ru (Zr_ru hz _ (by omega)) _ (by omega)) _ (by omega)) _ (by omega)
theorem Zr_room {f : Nat → Int} (hz : Zr f) {l k m : Nat} (hl : l < 4) (hm : m < 6) : Zr (roomS f l k m) := by
  unfold roomS
  refine Zr_ru (fun j hj => ?_) _ (by omega)
  unfold roomI
  rw [if_neg (by omega)]
  exact hz j hj
theorem Zr_out {f : Nat → Int} (hz : Zr f) {l k m : Nat} (hl : l < 4) (hm : m ≤ 6) : Zr (outS f l k m) := by
  unfold outS
  refine Zr_ru (fun j hj => ?_) _ (by omega)
  unfold outI
  rw [if_neg (by omega)]
  exact hz j hj
theorem c_wipe (hc : CI L n T P U K h) : ∃ h', F_Tb_wipe 6 h = some ((n : Int), h') ∧ CI L 0 T P U K h' ∧ TF h h' := by
  obtain ⟨hL, ⟨z9, z12, z14⟩, ⟨t1, t2, t3⟩, hP, hU, hK⟩ := hc
  have t : (7 : Int).toNat = 7 := rfl
  refine ⟨mw h 7 2 0, ?_, ⟨Ly_mw hL rfl, ⟨?_, ?_, ?_⟩, ⟨mw_s _ _ _ _, by omega, fun i hi => by omega⟩, ?_, ShI_c (fun b hb => mw_o _ _ _ (by omega)) hU, ShI_c (fun b hb => mw_o _ _ _ (by omega)) hK⟩, TF_mw h 0 (by decide) (by decide)⟩
  · rw [q_Tb_wipe _ _ (o_6 hL), p_6_0 hL, Option.bind_some, t, g_7 hL (by decide), Option.bind_some, Option.bind_some, t, f_7 hL (by decide), Option.bind_some, t1]
  · rw [mw_o _ _ _ (by decide)]; exact z9
  · rw [mw_o _ _ _ (by decide)]; exact z12
  · rw [mw_o _ _ _ (by decide)]; exact z14
  · rw [mw_o _ _ _ (by decide)]; exact hP
noncomputable def writeA (n : Nat) (x : Int) : Int := iteP (32 ≤ x ∧ x ≤ 126) (iteP (200 ≤ n) (-3) ((n : Int) + 1)) (-1)
noncomputable def wrN (n : Nat) (x : Int) : Nat := iteP ((32 ≤ x ∧ x ≤ 126) ∧ n < 200) (n + 1) n
noncomputable def wrT (n : Nat) (T : Nat → Int) (x : Int) : Nat → Int := iteP ((32 ≤ x ∧ x ≤ 126) ∧ n < 200) (ru T n x) T
theorem c_write (hc : CI L n T P U K h) (x : Int) : ∃ h', F_Tb_write 6 x h = some (writeA n x, h') ∧ CI L (wrN n x) (wrT n T x) P U K h' ∧ TF h h' := by
  obtain ⟨hL, ⟨z9, z12, z14⟩, ⟨t1, t2, t3⟩, hP, hU, hK⟩ := id hc
  have t : (7 : Int).toNat = 7 := rfl
  have u : (10 : Int).toNat = 10 := rfl
  unfold writeA wrN wrT
  rw [q_Tb_write _ _ _ (o_6 hL)]
  by_cases x1 : x < 32
  · rw [if_pos x1, iteP_f (by omega), iteP_f (by omega), iteP_f (by omega)]
    exact ⟨h, rfl, hc, TF_rf h⟩
  · rw [if_neg x1]
    by_cases x2 : x ≤ 126
    · rw [if_pos x2, iteP_t (by omega), p_6_0 hL, Option.bind_some, t, q_Tx_append _ _ _ (o_7 hL), g_7 hL (by decide), Option.bind_some, t1, if_neg (by omega), Option.bind_some]
      by_cases x3 : n < 200
      · have L1 : Ly L (mw h 10 n x) := Ly_mw hL rfl
        have L2 : Ly L (mw (mw h 10 n x) 7 2 ((n + 1 : Nat) : Int)) := Ly_mw L1 rfl
        refine ⟨mw (mw h 10 n x) 7 2 ((n + 1 : Nat) : Int), ?_, ?_, TF_tr (TF_mw h x (by decide) (by decide)) (TF_mw _ _ (by decide) (by decide))⟩
        · have hx : (n : Int) < 200 := by omega
          have h0 : (0 : Int) ≤ (n : Int) := by omega
          have hy : ¬ (200 ≤ n) := by omega
          have e0 : (mw h 10 n x).2 7 2 = n := by rw [mw_o _ _ _ (by decide)]; exact t1
          have e1 : ((n + 1 : Nat) : Int) = (n : Int) + 1 := by omega
          have k6 : n < 1000 := by omega
          have e2 := w32_nn n k6
          rw [if_pos hx, iteP_f hy, p_7_1 hL, Option.bind_some, Option.bind_some, u, w_10 hL h0 hx, Option.bind_some, tn, g_7 L1 (by decide), Option.bind_some, e0, e2, f_7 L1 (by decide), Option.bind_some, Option.bind_some]
          dsimp only
          rw [if_neg (by decide), p_6_0 L2, Option.bind_some, t, g_7 L2 (by decide), Option.bind_some, mw_s, ← e1]
        · rw [iteP_t (by omega), iteP_t (by omega)]
          refine ⟨L2, ⟨?_, ?_, ?_⟩, ⟨mw_s _ _ _ _, by omega, fun i hi => ?_⟩, ?_, ShI_c (fun b hb => ?_) hU, ShI_c (fun b hb => ?_) hK⟩
          · rw [mw_o _ _ _ (by decide), mw_o _ _ _ (by decide)]; exact z9
          · rw [mw_o _ _ _ (by decide), mw_o _ _ _ (by decide)]; exact z12
          · rw [mw_o _ _ _ (by decide), mw_o _ _ _ (by decide)]; exact z14
          · rw [mw_o _ _ _ (by decide)]
            by_cases q : i = n
            · rw [q, mw_s, ru_s]
            · rw [mw_d _ _ q, ru_d _ _ q]
              exact t3 i (by omega)
          · rw [mw_o _ _ _ (by decide), mw_o _ _ _ (by decide)]; exact hP
          · rw [mw_o _ _ _ (by omega), mw_o _ _ _ (by omega)]
          · rw [mw_o _ _ _ (by omega), mw_o _ _ _ (by omega)]
      · refine ⟨h, ?_, ?_, TF_rf h⟩
        · rw [if_neg (by omega), Option.bind_some, iteP_t (by omega)]
          dsimp only
          rw [if_pos rfl]
        · rw [iteP_f (by omega), iteP_f (by omega)]
          exact hc
    · rw [if_neg x2, iteP_f (by omega), iteP_f (by omega), iteP_f (by omega)]
      exact ⟨h, rfl, hc, TF_rf h⟩
end Tb
