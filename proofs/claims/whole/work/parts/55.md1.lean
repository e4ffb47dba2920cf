/-! THE MODEL: what holds between two calls; small methods -/
def MFm (h h' : mH) : Prop := h'.1 = h.1 ∧ ∀ a, a < 43 → h'.2 a = h.2 a
theorem MFm_rf (h : mH) : MFm h h := ⟨rfl, fun _ _ => rfl⟩
theorem MFm_tr {h h1 h2 : mH} (a : MFm h h1) (b : MFm h1 h2) : MFm h h2 := ⟨b.1.trans a.1, fun k hk => (b.2 k hk).trans (a.2 k hk)⟩
theorem MFm_mw (h : mH) {a j : Nat} (v : Int) (ha : 43 ≤ a) : MFm h (mw h a j v) := ⟨rfl, fun k hk => mw_o h j v (by omega)⟩
/-- a slot holds what acts may change of a program -/
def Sl (f : Nat → Int) (b : Nat) (Q : Nat → Int) : Prop := ∀ l : Nat, l < 4 → (∀ r : Nat, r < 4 → f (b + 30 * l + r) = pW Q l r) ∧ f (b + 30 * l + 4) = pO Q l ∧ f (b + 30 * l + 5) = pK Q l ∧ ∀ j : Nat, j < 24 → f (b + 30 * l + 6 + j) = Q (28 + 34 * l + j)
/-- the cells that no act changes -/
def Sta (P : Nat → Int) (h : mH) : Prop := h.2 43 0 = pS P ∧ h.2 43 3 = pL P ∧ (∀ t : Nat, (t : Int) < pS P → h.2 44 t = pFn P t ∧ ∀ f : Nat, (f : Int) < pFn P t → h.2 45 (3 * t + f) = pFt P t f) ∧ ∀ l : Nat, (l : Int) < pL P → h.2 46 l = pH P l ∧ ∀ i : Nat, (i : Int) < pH P l → h.2 47 (3 * l + i) = pT P l i
def MI (L n : Nat) (T P : Nat → Int) (U K : List (Nat → Int)) (h : mH) : Prop :=
  LyM L h ∧ (h.2 43 17 = (n : Int) ∧ n ≤ 200 ∧ (∀ i, i < n → h.2 54 i = T i) ∧ ∀ i, i < n → 32 ≤ T i ∧ T i ≤ 126) ∧ Sta P h ∧ Sl (h.2 53) 0 P ∧
  (h.2 43 15 = (U.length : Int) ∧ U.length ≤ 8 ∧ ∀ i Q, U[i]? = some Q → Sl (h.2 53) (120 * (U.length - i)) Q) ∧
  h.2 43 16 = (K.length : Int) ∧ K.length ≤ 2 ∧ ∀ i Q, K[i]? = some Q → Sl (h.2 53) (1080 + 120 * (K.length - 1 - i)) Q
theorem c_in (x lo hi : Int) (h : mH) : F_Md_in x lo hi h = some (b2i (lo ≤ x ∧ x ≤ hi), h) := by
  rw [q_Md_in]
  unfold icmp
  by_cases h1 : x > lo
  · rw [if_pos h1, if_neg (by decide)]
    by_cases h2 : x > hi
    · rw [if_pos h2, if_pos (by decide), b2i_f (by omega)]
    · rw [if_neg h2]
      by_cases h3 : x = hi
      · rw [if_pos h3, if_neg (by decide), b2i_t (by omega)]
      · rw [if_neg h3, if_neg (by decide), b2i_t (by omega)]
  · rw [if_neg h1]
    by_cases h0 : x = lo
    · rw [if_pos h0, if_neg (by decide)]
      by_cases h2 : x > hi
      · rw [if_pos h2, if_pos (by decide), b2i_f (by omega)]
      · rw [if_neg h2]
        by_cases h3 : x = hi
        · rw [if_pos h3, if_neg (by decide), b2i_t (by omega)]
        · rw [if_neg h3, if_neg (by decide), b2i_t (by omega)]
    · rw [if_neg h0, if_pos (by decide), b2i_f (by omega)]
section Md
variable {L n : Nat} {T P : Nat → Int} {U K : List (Nat → Int)} {h : mH}
theorem Sta_c {h' : mH} (e3 : h'.2 43 0 = h.2 43 0) (e4 : h'.2 43 3 = h.2 43 3) (e : ∀ a, (44 ≤ a ∧ a ≤ 47) → h'.2 a = h.2 a) (hs : Sta P h) : Sta P h' := by
  unfold Sta at hs ⊢
  rw [e3, e4, e 44 (by omega), e 45 (by omega), e 46 (by omega), e 47 (by omega)]
  exact hs
theorem m_wipe (hm : MI L n T P U K h) : ∃ h', F_Md_wipe 43 h = some ((n : Int), h') ∧ MI L 0 T P U K h' ∧ MFm h h' := by
  obtain ⟨hL, ⟨t1, t2, t3, t4⟩, hS, h0, ⟨u1, u2, u3⟩, k1, k2, k3⟩ := hm
  refine ⟨mw h 43 17 0, ?_, ⟨LyM_mw hL rfl, ⟨mw_s _ _ _ _, by omega, fun i hi => by omega, fun i hi => by omega⟩, Sta_c (mw_d _ _ (by decide)) (mw_d _ _ (by decide)) (fun a ha => mw_o _ _ _ (by omega)) hS, ?_, ⟨?_, u2, ?_⟩, ?_, k2, ?_⟩, MFm_mw h 0 (by decide)⟩
  · rw [q_Md_wipe _ _ (o_43 hL), g_43 hL (by decide), Option.bind_some, f_43 hL (by decide), Option.bind_some, t1]
  · rw [mw_o _ _ _ (by decide)]; exact h0
  · rw [mw_d _ _ (by decide)]; exact u1
  · rw [mw_o _ _ _ (by decide)]; exact u3
  · rw [mw_d _ _ (by decide)]; exact k1
  · rw [mw_o _ _ _ (by decide)]; exact k3
end Md
