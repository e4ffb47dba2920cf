/-! THE TEXT: a sort -/
def addF (Q : Nat → Int) (t : Nat) (v : Int) : Nat → Int := ru (ru Q (3 + 4 * t + (pFn Q t).toNat) v) (2 + 4 * t) (pFn Q t + 1)
noncomputable def srF (T : Nat → Int) (n t : Nat) : Nat → Nat → (Nat → Int) → Option (Nat × (Nat → Int))
  | 0, i, Q => some (i, Q)
  | m + 1, i, Q => iteP (isFg (pk T n i)) (iteP (pk T n i - 48 ≤ t) (srF T n t m (i + 1) (addF Q t (pk T n i - 48 + 1))) none) (some (i, Q))
/-- what is behind the figures of a sort -/
noncomputable def srE (T : Nat → Int) (n t : Nat) : Option (Nat × (Nat → Int)) → Option (Nat × (Nat → Int))
  | none => none
  | some (j, R) => iteP (0 < pFn R t ∧ pk T n j = 59) (some (j + 1, ru R 0 (pS R + 1))) none
noncomputable def sortI (T : Nat → Int) (n i : Nat) (Q : Nat → Int) : Option (Nat × (Nat → Int)) := iteP (pS Q < 4) (srE T n (pS Q).toNat (srF T n (pS Q).toNat 3 i Q)) none
/-- what an item's reading answers -/
def Itm (L n : Nat) (T : Nat → Int) (h : mH) (r : Option (Nat × (Nat → Int))) (x : Option (Int × mH)) : Prop := ∃ h', TX h h' ∧ ((r = none ∧ x = some (0, h')) ∨ ∃ j R, r = some (j, R) ∧ x = some (1, h') ∧ TI L n T j R h')
theorem Itm_tr {L n : Nat} {T : Nat → Int} {h h1 : mH} {r : Option (Nat × (Nat → Int))} {x : Option (Int × mH)} (f : TX h h1) (a : Itm L n T h1 r x) : Itm L n T h r x := by
  obtain ⟨h', b1, b2⟩ := a
  exact ⟨h', TX_tr f b1, b2⟩
section Tx
variable {L n i : Nat} {T Q : Nat → Int} {h : mH}
theorem c_addField (ht : TI L n T i Q h) {t m : Nat} (h4 : t < 4) (hm : pFn Q t = m) (h3 : m < 3) (v : Int) : F_Pg_addField 8 (t : Int) v h = some (mrow h 9 (addF Q t v)) := by
  have hg := TI_pg ht
  have hQ : h.2 (8 + 1) = Q := ht.2.2.2.1
  have k1 : (0 : Int) ≤ ((2 + 4 * t : Nat) : Int) := by omega
  have k2 : ((2 + 4 * t : Nat) : Int) < 154 := by omega
  have k3 : (0 : Int) ≤ ((3 + 4 * t + m : Nat) : Int) := by omega
  have k4 : ((3 + 4 * t + m : Nat) : Int) < 154 := by omega
  have km : m < 1000 := by omega
  have e1 : w32 (2 + (w32 ((t : Int) * 4))) = ((2 + 4 * t : Nat) : Int) := by unfold w32; omega
  have e2 : w32 ((w32 (((2 + 4 * t : Nat) : Int) + 1)) + (m : Int)) = ((3 + 4 * t + m : Nat) : Int) := by clear e1; unfold w32; omega
  rw [q_Pg_addField _ _ _ _ hg.1, e1, c_cell hg k1 k2, Option.bind_some, tn, hQ, show Q (2 + 4 * t) = (m : Int) from hm]
  dsimp only
  rw [e2, c_setCell hg k3 k4, Option.bind_some, tn, hQ, w32_nn m km, c_setCell (PgO_s hg _) k1 k2, Option.bind_some, tn, mrow_m, mrow_s]
  unfold addF
  rw [hm, tn]
  rfl
theorem Zr_addF (hz : Zr Q) {t m : Nat} (h4 : t < 4) (hm : pFn Q t = m) (h3 : m < 3) (v : Int) : Zr (addF Q t v) := by
  unfold addF
  rw [hm, tn]
  exact Zr_ru (Zr_ru hz _ (by omega)) _ (by omega)
theorem addF_o {t j : Nat} {v : Int} (hj : j < 2 + 4 * t) : addF Q t v j = Q j := by
  unfold addF
  rw [ru_d _ _ (by omega), ru_d _ _ (by omega)]
theorem addF_n {t : Nat} {v : Int} : pFn (addF Q t v) t = pFn Q t + 1 := by
  unfold pFn addF
  rw [ru_s]
  rfl
theorem c_sr17 {t : Nat} (h4 : t < 4) : ∀ (m f i : Nat) (Q : Nat → Int) (o : Option mV) (h : mH), f + m = 3 → TI L n T i Q h → pFn Q t = (f : Int) →
    ∃ h', TX h h' ∧ ((srF T n t m i Q = none ∧ B_Tx_readSort_17 7 (t : Int) (f : Int) o h = some (0, h')) ∨ ∃ j R o' f', srF T n t m i Q = some (j, R) ∧ B_Tx_readSort_17 7 (t : Int) (f : Int) o h = B_Tx_readSort_71 7 (t : Int) f' o' h' ∧ TI L n T j R h')
  | 0, f, i, Q, o, h, e, ht, hf => by
    have : f = 3 := by omega
    subst this
    exact ⟨h, TX_rf h, Or.inr ⟨i, Q, o, _, rfl, by rw [q_Tx_readSort_17, if_pos (by decide)], ht⟩⟩
  | m + 1, f, i, Q, o, h, e, ht, hf => by
    have k1 : ¬ 3 ≤ (f : Int) := by omega
    have kf : f < 1000 := by omega
    have hf3 : f < 3 := by omega
    have hm1 : f + 1 + m = 3 := by omega
    rw [q_Tx_readSort_17, if_neg k1, c_peek ht, Option.bind_some]
    dsimp only
    rw [c_isFigure, Option.bind_some]
    dsimp only
    by_cases q : isFg (pk T n i)
    · obtain ⟨h1, a1, a2, a3⟩ := c_readFigure ht
      have e1 : fgS T n i = (pk T n i - 48, i + 1) := iteP_t q _ _
      rw [e1] at a1 a2
      rw [b2i_t q, if_neg (by decide), a1, Option.bind_some]
      dsimp only
      have k8 : 0 ≤ pk T n i - 48 ∧ pk T n i - 48 ≤ 9 := by unfold isFg at q; omega
      by_cases r : pk T n i - 48 ≤ (t : Int)
      · have es : srF T n t (m + 1) i Q = srF T n t m (i + 1) (addF Q t (pk T n i - 48 + 1)) := by
          show iteP _ _ _ = _
          rw [iteP_t q, iteP_t r]
        have r2 := TI_row a2 (Zr_addF a2.2.2.2.2 h4 hf hf3 (pk T n i - 48 + 1))
        have hn2 : pFn (addF Q t (pk T n i - 48 + 1)) t = ((f + 1 : Nat) : Int) := by rw [addF_n, hf]; rfl
        obtain ⟨h', z1, z2⟩ := c_sr17 h4 m (f + 1) (i + 1) (addF Q t (pk T n i - 48 + 1)) (some (.inl (pk T n i - 48))) _ hm1 r2 hn2
        refine ⟨h', TX_tr a3 (TX_tr (TX_row h1 r2.2.2.2.2) z1), ?_⟩
        have ho : ∀ s0, s0 = pk T n i - 48 + 1 → B_Tx_readSort_62 7 (t : Int) (f : Int) (pk T n i - 48) s0 (t : Int) 8 h1 = B_Tx_readSort_17 7 (t : Int) ((f + 1 : Nat) : Int) (some (.inl (pk T n i - 48))) (mrow h1 9 (addF Q t (pk T n i - 48 + 1))) := fun s0 es0 => by
          rw [q_Tx_readSort_62, es0, c_addField a2 h4 hf hf3, Option.bind_some, w32_nn f kf]
        rw [if_pos r, p_7_0 a2.1, Option.bind_some, t8, es]
        by_cases w : pk T n i - 48 = 0
        · rw [if_neg (Decidable.not_not.mpr w), ho 1 (by rw [w]; rfl)]
          exact z2
        · have kw : w32 ((w32 (2 + (pk T n i - 48))) - 1) = pk T n i - 48 + 1 := by
            rw [w32_id (x := 2 + (pk T n i - 48)) (by omega) (by omega), w32_id (by omega) (by omega)]
            omega
          rw [if_pos w, ho _ kw]
          exact z2
      · have es : srF T n t (m + 1) i Q = none := by
          show iteP _ _ _ = _
          rw [iteP_t q, iteP_f r]
        rw [if_neg r]
        exact ⟨h1, a3, Or.inl ⟨es, rfl⟩⟩
    · have es : srF T n t (m + 1) i Q = some (i, Q) := by
        show iteP _ _ _ = _
        rw [iteP_f q]
      rw [b2i_f q, if_pos rfl]
      exact ⟨h, TX_rf h, Or.inr ⟨i, Q, o, _, es, rfl, ht⟩⟩
theorem c_addSort (ht : TI L n T i Q h) (h0 : 0 ≤ pS Q) (h9 : pS Q < 1000) : F_Pg_addSort 8 h = some (mrow h 9 (ru Q 0 (pS Q + 1))) := by
  have hg := TI_pg ht
  have hQ : h.2 (8 + 1) = Q := ht.2.2.2.1
  have e1 : w32 (pS Q + 1) = pS Q + 1 := w32_id (by omega) (by omega)
  rw [q_Pg_addSort _ _ hg.1, hg.2.1, Option.bind_some, tn, pg_r hg (by decide) (by decide), Option.bind_some, hQ, show Q (Int.toNat 0) = pS Q from rfl, e1, pg_w hg (by decide) (by decide), Option.bind_some, hQ]
  rfl
theorem c_addLabel (ht : TI L n T i Q h) (h0 : 0 ≤ pL Q) (h9 : pL Q < 1000) : F_Pg_addLabel 8 h = some (mrow h 9 (ru Q 1 (pL Q + 1))) := by
  have hg := TI_pg ht
  have hQ : h.2 (8 + 1) = Q := ht.2.2.2.1
  have e1 : w32 (pL Q + 1) = pL Q + 1 := w32_id (by omega) (by omega)
  rw [q_Pg_addLabel _ _ hg.1, hg.2.1, Option.bind_some, tn, pg_r hg (by decide) (by decide), Option.bind_some, hQ, show Q (Int.toNat 1) = pL Q from rfl, e1, pg_w hg (by decide) (by decide), Option.bind_some, hQ]
  rfl
theorem srF_0 {t : Nat} : ∀ (m i : Nat) (Q : Nat → Int) {j : Nat} {R : Nat → Int}, srF T n t m i Q = some (j, R) → ∀ a, a < 2 + 4 * t → R a = Q a
  | 0, i, Q, j, R, e, a, ha => by
    have : (i, Q) = (j, R) := Option.some.inj e
    cases this; rfl
  | m + 1, i, Q, j, R, e, a, ha => by
    have e' : iteP (isFg (pk T n i)) (iteP (pk T n i - 48 ≤ t) (srF T n t m (i + 1) (addF Q t (pk T n i - 48 + 1))) none) (some (i, Q)) = some (j, R) := e
    by_cases q : isFg (pk T n i)
    · rw [iteP_t q] at e'
      by_cases r : pk T n i - 48 ≤ (t : Int)
      · rw [iteP_t r] at e'
        rw [srF_0 m (i + 1) _ e' a ha]
        exact addF_o ha
      · rw [iteP_f r] at e'; cases e'
    · rw [iteP_f q] at e'
      have : (i, Q) = (j, R) := Option.some.inj e'
      cases this; rfl
theorem c_readSort (ht : TI L n T i Q h) (h0 : 0 ≤ pS Q) (h1 : pS Q ≤ 4) (hF : pS Q < 4 → pFn Q (pS Q).toNat = 0) : Itm L n T h (sortI T n i Q) (F_Tx_readSort 7 h) := by
  have hQ : h.2 (8 + 1) = Q := ht.2.2.2.1
  unfold sortI
  rw [q_Tx_readSort _ _ (o_7 ht.1), p_7_0 ht.1, Option.bind_some, t8, c_sorts (TI_pg ht), Option.bind_some, hQ]
  dsimp only
  by_cases q : pS Q < 4
  · rw [iteP_t q, if_pos (show Q 0 < 4 from q)]
    obtain ⟨t, hT⟩ := n_of h0
    have h4 : t < 4 := by omega
    have hF0 := hF q
    rw [hT, tn] at hF0
    rw [hT, tn, show Q 0 = (t : Int) from hT]
    obtain ⟨g, z1, z2⟩ := c_sr17 h4 3 0 i Q none h (by decide) ht hF0
    rcases z2 with ⟨z2, z3⟩ | ⟨j, R, o', f', z2, z3, z4⟩
    · rw [z2]
      exact ⟨g, z1, Or.inl ⟨rfl, z3⟩⟩
    · rw [z2]
      have hR0 : pS R = (t : Int) := by rw [← hT]; exact srF_0 3 i Q z2 0 (by omega)
      have hzR : Zr (ru R 0 (pS R + 1)) := Zr_ru z4.2.2.2.2 _ (by decide)
      have r5 := TI_row z4 hzR
      refine Itm_tr z1 (Itm_tr (TX_row g hzR) ?_)
      have z3' : B_Tx_readSort_17 7 (t : Int) 0 none h = B_Tx_readSort_71 7 (t : Int) f' o' g := z3
      have hfn : pFn (ru R 0 (pS R + 1)) t = pFn R t := ru_d _ _ (by omega)
      rw [z3', q_Tx_readSort_71, p_7_0 z4.1, Option.bind_some, t8, c_addSort z4 (by omega) (by omega), Option.bind_some, p_7_0 r5.1, Option.bind_some, t8, c_fields (TI_pg r5) h4, Option.bind_some, mrow_s, hfn]
      dsimp only
      rw [show srE T n t (some (j, R)) = iteP (0 < pFn R t ∧ pk T n j = 59) (some (j + 1, ru R 0 (pS R + 1))) none from rfl]
      by_cases w : pFn R t ≤ 0
      · rw [if_pos w, iteP_f (fun z => by omega)]
        exact ⟨_, TX_rf _, Or.inl ⟨rfl, rfl⟩⟩
      · obtain ⟨g2, y1, y2, y3⟩ := c_tpasses r5 (c := 59) (by decide)
        rw [if_neg w, y1, Option.bind_some]
        dsimp only
        by_cases v : pk T n j = 59
        · rw [iteP_t v] at y2
          rw [b2i_t v, if_neg (by decide), iteP_t ⟨by omega, v⟩]
          exact ⟨g2, y3, Or.inr ⟨j + 1, _, rfl, rfl, y2⟩⟩
        · rw [b2i_f v, if_pos rfl, iteP_f (fun z => v z.2)]
          exact ⟨g2, y3, Or.inl ⟨rfl, rfl⟩⟩
  · rw [iteP_f q, if_neg (show ¬ Q 0 < 4 from q)]
    exact ⟨h, TX_rf h, Or.inl ⟨rfl, rfl⟩⟩
end Tx
