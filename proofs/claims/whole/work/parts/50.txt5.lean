/-! THE TEXT: what is told stays a program -/
def PV (Q : Nat → Int) : Prop := (0 ≤ pS Q ∧ pS Q ≤ 4) ∧ (0 ≤ pL Q ∧ pL Q ≤ 4) ∧ (∀ t : Nat, pS Q ≤ t → t < 4 → pFn Q t = 0) ∧
  (∀ t : Nat, (t : Int) < pS Q → (1 ≤ pFn Q t ∧ pFn Q t ≤ 3) ∧ ∀ f : Nat, (f : Int) < pFn Q t → 1 ≤ pFt Q t f ∧ pFt Q t f < 2 + t) ∧
  (∀ l : Nat, pL Q ≤ l → l < 4 → pH Q l = 0 ∧ pK Q l = 0) ∧
  ∀ l : Nat, (l : Int) < pL Q → (∀ r : Nat, r < 4 → tld Q (pW Q l r)) ∧ (0 ≤ pH Q l ∧ pH Q l ≤ 3) ∧ (∀ i : Nat, (i : Int) < pH Q l → tld Q (pT Q l i)) ∧ (pO Q l = 0 ∨ pO Q l = 1) ∧ (0 ≤ pK Q l ∧ pK Q l ≤ 6) ∧ ∀ k : Nat, (k : Int) < pK Q l → mayS (pS Q) 4 (pC Q l k 0) (pC Q l k 1) (pC Q l k 2) (pC Q l k 3)
theorem PV_0 {Q : Nat → Int} (h : PV Q) : PV0 Q := by
  obtain ⟨p1, p2, p3, p4, p5, p6⟩ := h
  exact ⟨p1, p2, fun q => p3 _ (by omega) (by omega), fun q => (p5 _ (by omega) (by omega)).1, fun l hl => (p6 l hl).2.2.2.2.1.1⟩
theorem PV_z : PV (fun _ => 0) := by
  refine ⟨⟨Int.le_refl 0, by decide⟩, ⟨Int.le_refl 0, by decide⟩, fun _ _ _ => rfl, fun t ht => ?_, fun _ _ _ => ⟨rfl, rfl⟩, fun l hl => ?_⟩
  · have : (t : Int) < 0 := ht
    omega
  · have : (l : Int) < 0 := hl
    omega
theorem tld_up {Q R : Nat → Int} {v : Int} (h : tld Q v) (hs : pS Q ≤ pS R) : tld R v := by unfold tld at h ⊢; omega
theorem chs_up {s s' : Int} (h : s ≤ s') (k n : Int) : chs k s n ≤ chs k s' n := by
  unfold chs
  repeat' split
  all_goals omega
theorem may_up {s s' c x y z : Int} (h : s ≤ s') (hm : mayS s 4 c x y z) : mayS s' 4 c x y z := by
  obtain ⟨m1, m2, m3, m4⟩ := hm
  have a := chs_up h (oprL.getD (3 * c.toNat) 0) 4
  have b := chs_up h (oprL.getD (3 * c.toNat + 1) 0) 4
  have d := chs_up h (oprL.getD (3 * c.toNat + 2) 0) 4
  exact ⟨m1, ⟨m2.1, by omega⟩, ⟨m3.1, by omega⟩, ⟨m4.1, by omega⟩⟩
section Tx
variable {n : Nat} {T : Nat → Int}
theorem srF_v {t : Nat} : ∀ (m f i : Nat) (Q : Nat → Int) {j : Nat} {R : Nat → Int}, f + m = 3 → pFn Q t = (f : Int) → (∀ g : Nat, g < f → 1 ≤ pFt Q t g ∧ pFt Q t g < 2 + t) → srF T n t m i Q = some (j, R) →
    (∀ a, (a < 2 + 4 * t ∨ 6 + 4 * t ≤ a) → R a = Q a) ∧ i ≤ j ∧ ∃ f' : Nat, f' ≤ 3 ∧ pFn R t = (f' : Int) ∧ ∀ g : Nat, g < f' → 1 ≤ pFt R t g ∧ pFt R t g < 2 + t
  | 0, f, i, Q, j, R, e, hf, hg, es => by
    have : (i, Q) = (j, R) := Option.some.inj es
    cases this
    exact ⟨fun _ _ => rfl, Nat.le_refl _, f, by omega, hf, hg⟩
  | m + 1, f, i, Q, j, R, e, hf, hg, es => by
    have e' : iteP (isFg (pk T n i)) (iteP (pk T n i - 48 ≤ t) (srF T n t m (i + 1) (addF Q t (pk T n i - 48 + 1))) none) (some (i, Q)) = some (j, R) := es
    by_cases q : isFg (pk T n i)
    · rw [iteP_t q] at e'
      by_cases r : pk T n i - 48 ≤ (t : Int)
      · rw [iteP_t r] at e'
        have hn2 : pFn (addF Q t (pk T n i - 48 + 1)) t = ((f + 1 : Nat) : Int) := by rw [addF_n, hf]; rfl
        have hgo : ∀ a, a ≠ 2 + 4 * t → a ≠ 3 + 4 * t + f → addF Q t (pk T n i - 48 + 1) a = Q a := fun a h1 h2 => by
          unfold addF
          rw [hf, tn, ru_d _ _ h1, ru_d _ _ h2]
        have hgn : addF Q t (pk T n i - 48 + 1) (3 + 4 * t + f) = pk T n i - 48 + 1 := by
          unfold addF
          rw [hf, tn, ru_d _ _ (by omega), ru_s]
        obtain ⟨z1, z2, f', z3, z4, z5⟩ := srF_v m (f + 1) (i + 1) _ (by omega) hn2 (fun g hg' => by
          unfold isFg at q
          by_cases w : g = f
          · subst w
            unfold pFt
            rw [hgn]
            omega
          · unfold pFt
            rw [hgo _ (by omega) (by omega)]
            exact hg g (by omega)) e'
        exact ⟨fun a ha => by rw [z1 a ha, hgo a (by omega) (by omega)], by omega, f', z3, z4, z5⟩
      · rw [iteP_f r] at e'; cases e'
    · rw [iteP_f q] at e'
      have : (i, Q) = (j, R) := Option.some.inj e'
      cases this
      exact ⟨fun _ _ => rfl, Nat.le_refl _, f, by omega, hf, hg⟩
theorem pkc_lt {i : Nat} {c : Int} (hc : 0 ≤ c) (h : pk T n i = c) : i < n := by
  by_cases q : i < n
  · exact q
  · unfold pk at h; rw [if_neg q] at h; omega
theorem sortI_v {i j : Nat} {Q R : Nat → Int} (hp : PV Q) (e : sortI T n i Q = some (j, R)) : PV R ∧ i < j ∧ j ≤ n := by
  obtain ⟨p1, p2, p3, p4, p5, p6⟩ := hp
  unfold sortI at e
  by_cases q : pS Q < 4
  · rw [iteP_t q] at e
    obtain ⟨t, hT⟩ := n_of p1.1
    rw [hT, tn] at e
    cases es : srF T n t 3 i Q with
    | none => rw [es] at e; cases e
    | some jr =>
      obtain ⟨j1, R1⟩ := jr
      rw [es] at e
      have e' : iteP (0 < pFn R1 t ∧ pk T n j1 = 59) (some (j1 + 1, ru R1 0 (pS R1 + 1))) none = some (j, R) := e
      by_cases w : 0 < pFn R1 t ∧ pk T n j1 = 59
      · rw [iteP_t w] at e'
        have ee : (j1 + 1, ru R1 0 (pS R1 + 1)) = (j, R) := Option.some.inj e'
        cases ee
        obtain ⟨z1, z2, f', z3, z4, z5⟩ := srF_v 3 0 i Q (by decide) (p3 t (by omega) (by omega)) (fun g hg => by omega) es
        have hlt := pkc_lt (by decide) w.2
        have hS1 : pS R1 = (t : Int) := by rw [← hT]; exact z1 0 (by omega)
        have hS : pS (ru R1 0 (pS R1 + 1)) = (t : Int) + 1 := by show ru R1 0 (pS R1 + 1) 0 = _; rw [ru_s, hS1]
        have o : ∀ a, a ≠ 0 → (a < 2 + 4 * t ∨ 6 + 4 * t ≤ a) → ru R1 0 (pS R1 + 1) a = Q a := fun a h1 h2 => by rw [ru_d _ _ h1, z1 a h2]
        have o1 : ∀ a, a ≠ 0 → ru R1 0 (pS R1 + 1) a = R1 a := fun a h1 => ru_d _ _ h1
        have hL : pL (ru R1 0 (pS R1 + 1)) = pL Q := o 1 (by decide) (by omega)
        refine ⟨⟨by rw [hS]; omega, by rw [hL]; exact p2, fun u h1 h2 => ?_, fun u hu => ?_, fun l h1 h2 => ?_, fun l hl => ?_⟩, by omega, by omega⟩
        · rw [hS] at h1
          have : pFn (ru R1 0 (pS R1 + 1)) u = pFn Q u := o _ (by omega) (by omega)
          rw [this]
          exact p3 u (by omega) h2
        · rw [hS] at hu
          by_cases v : u = t
          · subst v
            have e1 : pFn (ru R1 0 (pS R1 + 1)) u = pFn R1 u := o1 _ (by omega)
            rw [e1, z4]
            have := w.1
            refine ⟨by omega, fun f hf => ?_⟩
            have e2 : pFt (ru R1 0 (pS R1 + 1)) u f = pFt R1 u f := o1 _ (by omega)
            rw [e2]
            exact z5 f (by omega)
          · have e1 : pFn (ru R1 0 (pS R1 + 1)) u = pFn Q u := o _ (by omega) (by omega)
            rw [e1]
            obtain ⟨b1, b2⟩ := p4 u (by omega)
            refine ⟨b1, fun f hf => ?_⟩
            have e2 : pFt (ru R1 0 (pS R1 + 1)) u f = pFt Q u f := o _ (by omega) (by omega)
            rw [e2]
            exact b2 f hf
        · rw [hL] at h1
          have e1 : pH (ru R1 0 (pS R1 + 1)) l = pH Q l := o _ (by omega) (by omega)
          have e2 : pK (ru R1 0 (pS R1 + 1)) l = pK Q l := o _ (by omega) (by omega)
          rw [e1, e2]
          exact p5 l h1 h2
        · rw [hL] at hl
          obtain ⟨b1, b2, b3, b4, b5, b6⟩ := p6 l hl
          have hup : pS Q ≤ pS (ru R1 0 (pS R1 + 1)) := by rw [hS, hT]; omega
          have e1 : pH (ru R1 0 (pS R1 + 1)) l = pH Q l := o _ (by omega) (by omega)
          have e2 : pK (ru R1 0 (pS R1 + 1)) l = pK Q l := o _ (by omega) (by omega)
          have e3 : pO (ru R1 0 (pS R1 + 1)) l = pO Q l := o _ (by omega) (by omega)
          rw [e1, e2, e3]
          refine ⟨fun r hr => ?_, b2, fun i hi => ?_, b4, b5, fun k hk => ?_⟩
          · have : pW (ru R1 0 (pS R1 + 1)) l r = pW Q l r := o _ (by omega) (by omega)
            rw [this]
            exact tld_up (b1 r hr) hup
          · have : pT (ru R1 0 (pS R1 + 1)) l i = pT Q l i := o _ (by omega) (by omega)
            rw [this]
            exact tld_up (b3 i hi) hup
          · have eC : ∀ p, pC (ru R1 0 (pS R1 + 1)) l k p = pC Q l k p := fun p => o _ (by omega) (by omega)
            rw [eC 0, eC 1, eC 2, eC 3]
            exact may_up hup (b6 k hk)
      · rw [iteP_f w] at e'; cases e'
  · rw [iteP_f q] at e; cases e
theorem nm_ge (T : Nat → Int) (n i : Nat) : i ≤ (nmS T n i).2 := by
  unfold nmS
  by_cases q : isFg (pk T n i)
  · rw [iteP_t q]
    by_cases r : isFg (pk T n (i + 1))
    · rw [iteP_t r]; show i ≤ i + 2; omega
    · rw [iteP_f r]; show i ≤ i + 1; omega
  · rw [iteP_f q]; exact Nat.le_refl i
theorem fg_ge (T : Nat → Int) (n i : Nat) : i ≤ (fgS T n i).2 := by
  unfold fgS
  by_cases q : isFg (pk T n i)
  · rw [iteP_t q]; show i ≤ i + 1; omega
  · rw [iteP_f q]; exact Nat.le_refl i
theorem insI_v {i j : Nat} {Q R : Nat → Int} (hp : PV Q) (e : insI T n i Q = some (j, R)) : PV R ∧ i < j ∧ j ≤ n := by
  obtain ⟨p1, p2, p3, p4, p5, p6⟩ := hp
  unfold insI at e
  by_cases q : (1 ≤ pL Q ∧ pK Q (pL Q - 1).toNat < 6) ∧ pk T n (nmS T n i).2 = 44 ∧ pk T n (nmS T n ((nmS T n i).2 + 1)).2 = 44 ∧ pk T n (nmS T n ((nmS T n ((nmS T n i).2 + 1)).2 + 1)).2 = 44 ∧ pk T n (nmS T n ((nmS T n ((nmS T n ((nmS T n i).2 + 1)).2 + 1)).2 + 1)).2 = 59 ∧
      mayS (pS Q) 4 (nmS T n i).1 (nmS T n ((nmS T n i).2 + 1)).1 (nmS T n ((nmS T n ((nmS T n i).2 + 1)).2 + 1)).1 (nmS T n ((nmS T n ((nmS T n ((nmS T n i).2 + 1)).2 + 1)).2 + 1)).1
  · rw [iteP_t q] at e
    have ee := Option.some.inj e
    obtain ⟨⟨q1, q2⟩, -, -, -, q3, q4⟩ := q
    have g1 := nm_ge T n i
    have g2 := nm_ge T n ((nmS T n i).2 + 1)
    have g3 := nm_ge T n ((nmS T n ((nmS T n i).2 + 1)).2 + 1)
    have g4 := nm_ge T n ((nmS T n ((nmS T n ((nmS T n i).2 + 1)).2 + 1)).2 + 1)
    have hlt := pkc_lt (by decide) q3
    generalize (nmS T n ((nmS T n ((nmS T n ((nmS T n i).2 + 1)).2 + 1)).2 + 1)).1 = z at ee q4
    generalize (nmS T n ((nmS T n ((nmS T n i).2 + 1)).2 + 1)).1 = y at ee q4
    generalize (nmS T n ((nmS T n i).2 + 1)).1 = x at ee q4
    generalize (nmS T n i).1 = c at ee q4
    obtain ⟨l, hl⟩ := n_of (show 0 ≤ pL Q - 1 by omega)
    rw [hl, tn] at ee q2
    have l4 : l < 4 := by omega
    have hlL : (l : Int) < pL Q := by omega
    obtain ⟨k, hk⟩ := n_of (p6 l hlL).2.2.2.2.1.1
    rw [hk, tn] at ee
    rw [hk] at q2
    have hk6 : k < 6 := by omega
    cases ee
    have o : ∀ a, a ≠ 27 + 34 * l → (a < 28 + 34 * l + 4 * k ∨ 28 + 34 * l + 4 * k + 4 ≤ a) → insS (ru Q (27 + 34 * l) ((k : Int) + 1)) l k c x y z a = Q a := fun a h1 h2 => by rw [insS_o _ _ _ _ h2, ru_d _ _ h1]
    have oK : pK (insS (ru Q (27 + 34 * l) ((k : Int) + 1)) l k c x y z) l = (k : Int) + 1 := by
      unfold pK
      rw [insS_o _ _ _ _ (by omega), ru_s]
    have hS : pS (insS (ru Q (27 + 34 * l) ((k : Int) + 1)) l k c x y z) = pS Q := o 0 (by omega) (by omega)
    have hL : pL (insS (ru Q (27 + 34 * l) ((k : Int) + 1)) l k c x y z) = pL Q := o 1 (by omega) (by omega)
    refine ⟨⟨by rw [hS]; exact p1, by rw [hL]; exact p2, fun u h1 h2 => ?_, fun u hu => ?_, fun m h1 h2 => ?_, fun m hm => ?_⟩, by omega, by omega⟩
    · rw [hS] at h1
      have : pFn (insS (ru Q (27 + 34 * l) ((k : Int) + 1)) l k c x y z) u = pFn Q u := o _ (by omega) (by omega)
      rw [this]; exact p3 u h1 h2
    · rw [hS] at hu
      have u4 : u < 4 := by omega
      have e1 : pFn (insS (ru Q (27 + 34 * l) ((k : Int) + 1)) l k c x y z) u = pFn Q u := o _ (by omega) (by omega)
      rw [e1]
      obtain ⟨b1, b2⟩ := p4 u hu
      refine ⟨b1, fun f hf => ?_⟩
      have e2 : pFt (insS (ru Q (27 + 34 * l) ((k : Int) + 1)) l k c x y z) u f = pFt Q u f := o _ (by omega) (by omega)
      rw [e2]; exact b2 f hf
    · rw [hL] at h1
      have ml := l34 m l
      have e1 : pH (insS (ru Q (27 + 34 * l) ((k : Int) + 1)) l k c x y z) m = pH Q m := o _ (by omega) (by omega)
      have e2 : pK (insS (ru Q (27 + 34 * l) ((k : Int) + 1)) l k c x y z) m = pK Q m := o _ (by omega) (by omega)
      rw [e1, e2]; exact p5 m h1 h2
    · rw [hL] at hm
      have ml := l34 m l
      obtain ⟨b1, b2, b3, b4, b5, b6⟩ := p6 m hm
      have e1 : pH (insS (ru Q (27 + 34 * l) ((k : Int) + 1)) l k c x y z) m = pH Q m := o _ (by omega) (by omega)
      have e3 : pO (insS (ru Q (27 + 34 * l) ((k : Int) + 1)) l k c x y z) m = pO Q m := o _ (by omega) (by omega)
      rw [e1, e3, hS]
      refine ⟨fun r hr => ?_, b2, fun i hi => ?_, b4, ?_, fun k' hk' => ?_⟩
      · have : pW (insS (ru Q (27 + 34 * l) ((k : Int) + 1)) l k c x y z) m r = pW Q m r := o _ (by omega) (by omega)
        rw [this]; exact tld_up (b1 r hr) (by rw [hS]; exact Int.le_refl _)
      · have : pT (insS (ru Q (27 + 34 * l) ((k : Int) + 1)) l k c x y z) m i = pT Q m i := o _ (by omega) (by omega)
        rw [this]; exact tld_up (b3 i hi) (by rw [hS]; exact Int.le_refl _)
      · by_cases v : m = l
        · rw [v, oK]; omega
        · have e2 : pK (insS (ru Q (27 + 34 * l) ((k : Int) + 1)) l k c x y z) m = pK Q m := o _ (by omega) (by omega)
          rw [e2]; exact b5
      · by_cases v : m = l ∧ k' = k
        · rw [v.1, v.2, (insS_c l k c x y z).1, (insS_c l k c x y z).2.1, (insS_c l k c x y z).2.2.1, (insS_c l k c x y z).2.2.2]
          exact q4
        · have hk6' : k' < 6 ∧ (k' : Int) < pK Q m := by
            by_cases w : m = l
            · subst w
              rw [oK] at hk'
              omega
            · have e2 : pK (insS (ru Q (27 + 34 * l) ((k : Int) + 1)) l k c x y z) m = pK Q m := o _ (by omega) (by omega)
              rw [e2] at hk'
              omega
          have eC : ∀ p, p < 4 → pC (insS (ru Q (27 + 34 * l) ((k : Int) + 1)) l k c x y z) m k' p = pC Q m k' p := fun p hp => o _ (by omega) (by omega)
          rw [eC 0 (by decide), eC 1 (by decide), eC 2 (by decide), eC 3 (by decide)]
          exact b6 k' hk6'.2
  · rw [iteP_f q] at e; cases e
end Tx
