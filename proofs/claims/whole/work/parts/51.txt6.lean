/-! THE TEXT: a told label keeps a program; reading all -/
section Tx
variable {n : Nat} {T : Nat → Int}
theorem lbR_v {l : Nat} : ∀ (m r i : Nat) (Q : Nat → Int) {j : Nat} {R : Nat → Int}, r + m = 4 → (∀ q : Nat, q < r → tld Q (pW Q l q)) → lbR T n l m r i Q = some (j, R) →
    (∀ a, (a < 18 + 34 * l ∨ 22 + 34 * l ≤ a) → R a = Q a) ∧ i ≤ j ∧ ∀ q : Nat, q < 4 → tld Q (pW R l q)
  | 0, r, i, Q, j, R, e, hq, es => by
    have : (i, Q) = (j, R) := Option.some.inj es
    cases this
    exact ⟨fun _ _ => rfl, Nat.le_refl _, fun q h4 => hq q (by omega)⟩
  | m + 1, r, i, Q, j, R, e, hq, es => by
    have e' : iteP (tld Q (fgS T n i).1) (lbR T n l m (r + 1) (fgS T n i).2 (ru Q (18 + 34 * l + r) (fgS T n i).1)) none = some (j, R) := es
    by_cases q : tld Q (fgS T n i).1
    · rw [iteP_t q] at e'
      have hS : pS (ru Q (18 + 34 * l + r) (fgS T n i).1) = pS Q := ru_d _ _ (by omega)
      obtain ⟨z1, z2, z3⟩ := lbR_v m (r + 1) (fgS T n i).2 _ (by omega) (fun u hu => by
        by_cases w : u = r
        · subst w
          unfold pW
          rw [ru_s]
          exact tld_up q (by rw [hS]; exact Int.le_refl _)
        · unfold pW
          rw [ru_d _ _ (by omega)]
          exact tld_up (hq u (by omega)) (by rw [hS]; exact Int.le_refl _)) e'
      have := fg_ge T n i
      refine ⟨fun a ha => by rw [z1 a ha, ru_d _ _ (by omega)], by omega, fun u hu => tld_up (z3 u hu) (by rw [hS]; exact Int.le_refl _)⟩
    · rw [iteP_f q] at e'; cases e'
theorem lbK_v {l : Nat} : ∀ (m f i : Nat) (Q : Nat → Int) {j : Nat} {R : Nat → Int}, f + m = 3 → pH Q l = (f : Int) → (∀ g : Nat, g < f → tld Q (pT Q l g)) → lbK T n l m i Q = some (j, R) →
    (∀ a, (a < 22 + 34 * l ∨ 26 + 34 * l ≤ a) → R a = Q a) ∧ i ≤ j ∧ ∃ f' : Nat, f' ≤ 3 ∧ pH R l = (f' : Int) ∧ ∀ g : Nat, g < f' → tld Q (pT R l g)
  | 0, f, i, Q, j, R, e, hf, hg, es => by
    have : (i, Q) = (j, R) := Option.some.inj es
    cases this
    exact ⟨fun _ _ => rfl, Nat.le_refl _, f, by omega, hf, hg⟩
  | m + 1, f, i, Q, j, R, e, hf, hg, es => by
    have e' : iteP (isFg (pk T n i)) (iteP (tld Q (pk T n i - 48)) (lbK T n l m (i + 1) (addB Q l (pk T n i - 48))) none) (some (i, Q)) = some (j, R) := es
    by_cases q : isFg (pk T n i)
    · rw [iteP_t q] at e'
      by_cases r : tld Q (pk T n i - 48)
      · rw [iteP_t r] at e'
        have hS : pS (addB Q l (pk T n i - 48)) = pS Q := addB_o (by decide)
        have hn2 : pH (addB Q l (pk T n i - 48)) l = ((f + 1 : Nat) : Int) := by rw [addB_n, hf]; rfl
        have hgo : ∀ a, a ≠ 22 + 34 * l → a ≠ 23 + 34 * l + f → addB Q l (pk T n i - 48) a = Q a := fun a h1 h2 => by
          unfold addB
          rw [hf, tn, ru_d _ _ h1, ru_d _ _ h2]
        have hgn : addB Q l (pk T n i - 48) (23 + 34 * l + f) = pk T n i - 48 := by
          unfold addB
          rw [hf, tn, ru_d _ _ (by omega), ru_s]
        obtain ⟨z1, z2, f', z3, z4, z5⟩ := lbK_v m (f + 1) (i + 1) _ (by omega) hn2 (fun g hg' => by
          by_cases w : g = f
          · subst w
            unfold pT
            rw [hgn]
            exact tld_up r (by rw [hS]; exact Int.le_refl _)
          · unfold pT
            rw [hgo _ (by omega) (by omega)]
            exact tld_up (hg g (by omega)) (by rw [hS]; exact Int.le_refl _)) e'
        exact ⟨fun a ha => by rw [z1 a ha, hgo a (by omega) (by omega)], by omega, f', z3, z4, fun g hg' => tld_up (z5 g hg') (by rw [hS]; exact Int.le_refl _)⟩
      · rw [iteP_f r] at e'; cases e'
    · rw [iteP_f q] at e'
      have : (i, Q) = (j, R) := Option.some.inj e'
      cases this
      exact ⟨fun _ _ => rfl, Nat.le_refl _, f, by omega, hf, hg⟩
theorem labI_v {i j : Nat} {Q R : Nat → Int} (hp : PV Q) (e : labI T n i Q = some (j, R)) : PV R ∧ i < j ∧ j ≤ n := by
  obtain ⟨p1, p2, p3, p4, p5, p6⟩ := hp
  unfold labI at e
  by_cases q : pL Q < 4
  · rw [iteP_t q] at e
    obtain ⟨l, hl⟩ := n_of p2.1
    have l4 : l < 4 := by omega
    rw [hl, tn] at e
    cases es : lbR T n l 4 0 i Q with
    | none => rw [es] at e; cases e
    | some jr =>
      obtain ⟨j1, R1⟩ := jr
      rw [es] at e
      have e1 : iteP (pk T n j1 = 44) (lbE2 T n l (lbK T n l 3 (j1 + 1) R1)) none = some (j, R) := e
      by_cases w : pk T n j1 = 44
      · rw [iteP_t w] at e1
        cases ek : lbK T n l 3 (j1 + 1) R1 with
        | none => rw [ek] at e1; cases e1
        | some ks =>
          obtain ⟨k1, S1⟩ := ks
          rw [ek] at e1
          have e2 : iteP (pk T n k1 = 44 ∧ (0 ≤ (nmS T n (k1 + 1)).1 ∧ (nmS T n (k1 + 1)).1 ≤ 1) ∧ pk T n (nmS T n (k1 + 1)).2 = 59) (some ((nmS T n (k1 + 1)).2 + 1, ru (ru S1 (26 + 34 * l) (nmS T n (k1 + 1)).1) 1 (pL S1 + 1))) none = some (j, R) := e1
          by_cases v : pk T n k1 = 44 ∧ (0 ≤ (nmS T n (k1 + 1)).1 ∧ (nmS T n (k1 + 1)).1 ≤ 1) ∧ pk T n (nmS T n (k1 + 1)).2 = 59
          · rw [iteP_t v] at e2
            have ee := Option.some.inj e2
            have hlt := pkc_lt (by decide) v.2.2
            have hge := nm_ge T n (k1 + 1)
            have v2 := v.2.1
            generalize (nmS T n (k1 + 1)).1 = b at ee v2
            cases ee
            obtain ⟨y1, y2, y3⟩ := lbR_v 4 0 i Q (by decide) (fun g hg => by omega) es
            have hH0 : pH R1 l = ((0 : Nat) : Int) := by
              have : pH R1 l = pH Q l := y1 _ (by omega)
              rw [this, (p5 l (by omega) l4).1]; rfl
            obtain ⟨z1, z2, f', z3, z4, z5⟩ := lbK_v 3 0 (j1 + 1) R1 (by decide) hH0 (fun g hg => by omega) ek
            have hS1 : pS S1 = pS Q := (z1 0 (by omega)).trans (y1 0 (by omega))
            have hSR : pS R1 = pS Q := y1 0 (by omega)
            have hL1 : pL S1 = (l : Int) := by rw [← hl]; exact (z1 1 (by omega)).trans (y1 1 (by omega))
            have o : ∀ a, a ≠ 1 → (a < 18 + 34 * l ∨ 27 + 34 * l ≤ a) → ru (ru S1 (26 + 34 * l) b) 1 (pL S1 + 1) a = Q a := fun a h1 h2 => by
              rw [ru_d _ _ h1, ru_d _ _ (by omega), z1 a (by omega), y1 a (by omega)]
            have hS : pS (ru (ru S1 (26 + 34 * l) b) 1 (pL S1 + 1)) = pS Q := o 0 (by decide) (by omega)
            have hL : pL (ru (ru S1 (26 + 34 * l) b) 1 (pL S1 + 1)) = (l : Int) + 1 := by show ru _ 1 (pL S1 + 1) 1 = _; rw [ru_s, hL1]
            refine ⟨⟨by rw [hS]; exact p1, by rw [hL]; omega, fun u h1 h2 => ?_, fun u hu => ?_, fun m h1 h2 => ?_, fun m hm => ?_⟩, by omega, by omega⟩
            · rw [hS] at h1
              have : pFn (ru (ru S1 (26 + 34 * l) b) 1 (pL S1 + 1)) u = pFn Q u := o _ (by omega) (by omega)
              rw [this]; exact p3 u h1 h2
            · rw [hS] at hu
              have u4 : u < 4 := by omega
              have a1 : pFn (ru (ru S1 (26 + 34 * l) b) 1 (pL S1 + 1)) u = pFn Q u := o _ (by omega) (by omega)
              rw [a1]
              obtain ⟨b1, b2⟩ := p4 u hu
              refine ⟨b1, fun f hf => ?_⟩
              have a2 : pFt (ru (ru S1 (26 + 34 * l) b) 1 (pL S1 + 1)) u f = pFt Q u f := o _ (by omega) (by omega)
              rw [a2]; exact b2 f hf
            · rw [hL] at h1
              have ml := l34 m l
              have a1 : pH (ru (ru S1 (26 + 34 * l) b) 1 (pL S1 + 1)) m = pH Q m := o _ (by omega) (by omega)
              have a2 : pK (ru (ru S1 (26 + 34 * l) b) 1 (pL S1 + 1)) m = pK Q m := o _ (by omega) (by omega)
              rw [a1, a2]; exact p5 m (by omega) h2
            · rw [hL] at hm
              have ml := l34 m l
              by_cases c : m = l
              · subst c
                have a1 : pH (ru (ru S1 (26 + 34 * m) b) 1 (pL S1 + 1)) m = pH S1 m := by unfold pH; rw [ru_d _ _ (by omega), ru_d _ _ (by omega)]
                have a3 : pO (ru (ru S1 (26 + 34 * m) b) 1 (pL S1 + 1)) m = b := by unfold pO; rw [ru_d _ _ (by omega), ru_s]
                have a4 : pK (ru (ru S1 (26 + 34 * m) b) 1 (pL S1 + 1)) m = 0 := by
                  have : pK (ru (ru S1 (26 + 34 * m) b) 1 (pL S1 + 1)) m = pK Q m := o _ (by omega) (by omega)
                  rw [this]; exact (p5 m (by omega) l4).2
                rw [a1, a3, a4, z4]
                refine ⟨fun r hr => ?_, by omega, fun i hi => ?_, by omega, by omega, fun k hk => by omega⟩
                · have : pW (ru (ru S1 (26 + 34 * m) b) 1 (pL S1 + 1)) m r = pW R1 m r := by
                    unfold pW
                    rw [ru_d _ _ (by omega), ru_d _ _ (by omega), z1 _ (by omega)]
                  rw [this]; exact tld_up (y3 r hr) (by rw [hS]; exact Int.le_refl _)
                · have : pT (ru (ru S1 (26 + 34 * m) b) 1 (pL S1 + 1)) m i = pT S1 m i := by
                    unfold pT
                    rw [ru_d _ _ (by omega), ru_d _ _ (by omega)]
                  rw [this]; exact tld_up (z5 i (by omega)) (by rw [hS, hSR]; exact Int.le_refl _)
              · obtain ⟨b1, b2, b3, b4, b5, b6⟩ := p6 m (by omega)
                have a1 : pH (ru (ru S1 (26 + 34 * l) b) 1 (pL S1 + 1)) m = pH Q m := o _ (by omega) (by omega)
                have a2 : pK (ru (ru S1 (26 + 34 * l) b) 1 (pL S1 + 1)) m = pK Q m := o _ (by omega) (by omega)
                have a3 : pO (ru (ru S1 (26 + 34 * l) b) 1 (pL S1 + 1)) m = pO Q m := o _ (by omega) (by omega)
                rw [a1, a2, a3, hS]
                refine ⟨fun r hr => ?_, b2, fun i hi => ?_, b4, b5, fun k hk => ?_⟩
                · have : pW (ru (ru S1 (26 + 34 * l) b) 1 (pL S1 + 1)) m r = pW Q m r := o _ (by omega) (by omega)
                  rw [this]; exact tld_up (b1 r hr) (by rw [hS]; exact Int.le_refl _)
                · have : pT (ru (ru S1 (26 + 34 * l) b) 1 (pL S1 + 1)) m i = pT Q m i := o _ (by omega) (by omega)
                  rw [this]; exact tld_up (b3 i hi) (by rw [hS]; exact Int.le_refl _)
                · have eC : ∀ p, p < 4 → pC (ru (ru S1 (26 + 34 * l) b) 1 (pL S1 + 1)) m k p = pC Q m k p := fun p hp => o _ (by omega) (by omega)
                  rw [eC 0 (by decide), eC 1 (by decide), eC 2 (by decide), eC 3 (by decide)]
                  exact b6 k hk
          · rw [iteP_f v] at e2; cases e2
      · rw [iteP_f w] at e1; cases e1
  · rw [iteP_f q] at e; cases e
theorem itemS_v {i j : Nat} {Q R : Nat → Int} (hp : PV Q) (e : itemS T n i Q = some (j, R)) : PV R ∧ i < j ∧ j ≤ n := by
  unfold itemS at e
  by_cases q1 : pk T n i = 105
  · rw [if_pos q1] at e
    obtain ⟨a, b, c⟩ := insI_v hp e
    exact ⟨a, by omega, c⟩
  · rw [if_neg q1] at e
    by_cases q2 : pk T n i = 108
    · rw [if_pos q2] at e
      obtain ⟨a, b, c⟩ := labI_v hp e
      exact ⟨a, by omega, c⟩
    · rw [if_neg q2] at e
      by_cases q3 : pk T n i = 115
      · rw [if_pos q3] at e
        obtain ⟨a, b, c⟩ := sortI_v hp e
        exact ⟨a, by omega, c⟩
      · rw [if_neg q3] at e; cases e
end Tx
/-- the place of the first fault or -4, and what is told -/
noncomputable def rdS (T : Nat → Int) (n : Nat) : Nat → Nat → (Nat → Int) → Int × (Nat → Int)
  | 0, _, Q => (-4, Q)
  | m + 1, i, Q => if i < n then (match itemS T n i Q with
    | none => ((i : Int), Q)
    | some jr => rdS T n m jr.1 jr.2) else (-4, Q)
section Tx
variable {L n : Nat} {T : Nat → Int}
theorem c_ra14 : ∀ (m k i : Nat) (Q : Nat → Int) (o : Option mV) (h : mH), k + m = 200 → TI L n T i Q h → PV Q →
    ∃ h', B_Tx_readAll_14 7 (k : Int) o h = some ((rdS T n m i Q).1, h') ∧ TX h h' ∧ Ly L h' ∧ ((rdS T n m i Q).1 = -4 → h'.2 9 = (rdS T n m i Q).2 ∧ PV (rdS T n m i Q).2)
  | 0, k, i, Q, o, h, e, ht, hp => by
    have : k = 200 := by omega
    subst this
    exact ⟨h, by rw [q_Tx_readAll_14, if_pos (by decide)]; rfl, TX_rf h, ht.1, fun _ => ⟨ht.2.2.2.1, hp⟩⟩
  | m + 1, k, i, Q, o, h, e, ht, hp => by
    have k1 : ¬ 200 ≤ (k : Int) := by omega
    have kk : k < 1000 := by omega
    have hm1 : k + 1 + m = 200 := by omega
    have g3 : gfd 4 3 h 7 = some (i : Int) := by rw [g_7 ht.1 (by decide), ht.2.2.1]
    have g2 : gfd 4 2 h 7 = some (n : Int) := by rw [g_7 ht.1 (by decide), ht.2.1.1]
    rw [q_Tx_readAll_14, if_neg k1, g3, Option.bind_some, g2, Option.bind_some]
    by_cases q : i < n
    · have k2 : ¬ (n : Int) ≤ (i : Int) := by omega
      rw [if_neg k2, Option.bind_some]
      obtain ⟨h1, a1, a2⟩ := c_readItem ht q (PV_0 hp)
      rcases a2 with ⟨a2, a3⟩ | ⟨j, R, a2, a3, a4⟩
      · have es : rdS T n (m + 1) i Q = ((i : Int), Q) := by
          show (if i < n then _ else _) = _
          rw [if_pos q, a2]
        rw [es, a3, Option.bind_some]
        dsimp only
        rw [if_neg (by decide)]
        have hL1 : Ly L h1 := by
          refine ⟨by rw [a1.1]; exact ht.1.1, fun a j v ev => ?_⟩
          by_cases c7 : a = 7
          · subst c7
            rw [a1.2.2.1 j (fun z => by subst z; cases ev)]
            exact ht.1.2 7 j v ev
          · by_cases c9 : a = 9
            · subst c9; cases ev
            · rw [a1.2.1 a c7 c9]; exact ht.1.2 a j v ev
        exact ⟨h1, rfl, a1, hL1, fun z => by omega⟩
      · have es : rdS T n (m + 1) i Q = rdS T n m j R := by
          show (if i < n then _ else _) = _
          rw [if_pos q, a2]
        rw [es, a3, Option.bind_some]
        dsimp only
        rw [if_pos (by decide), w32_nn k kk]
        obtain ⟨h', z1, z2, z3, z4⟩ := c_ra14 m (k + 1) j R (some (.inl (i : Int))) h1 hm1 a4 (itemS_v hp a2).1
        exact ⟨h', z1, TX_tr a1 z2, z3, z4⟩
    · have es : rdS T n (m + 1) i Q = (-4, Q) := by
        show (if i < n then _ else _) = _
        rw [if_neg q]
      rw [es, if_pos (by omega)]
      exact ⟨h, rfl, TX_rf h, ht.1, fun _ => ⟨ht.2.2.2.1, hp⟩⟩
end Tx
