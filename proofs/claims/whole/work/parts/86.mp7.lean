/-! THE MODEL READS: labels, all items -/
section Mp
variable {L n i l : Nat} {T Q R R' : Nat → Int} {h h' : mH} {W : Prop}
theorem m_la27 : ∀ (m r i : Nat) (R : Nat → Int) (h : mH), r + m = 4 → i + m ≤ 470 → Mx L n T h → h.2 43 19 = (i : Int) → h.2 43 21 = 0 → LB R l → pH R l = 0 → pK R l = 0 → MTo R h → MPl R l r h →
    MIt L n T h (lbE1 T n l (lbR T n l m r i R)) (B_Md_labelItem_27 43 (r : Int) h) := by
  intro m
  induction m with
  | zero =>
    intro r i R h e im hx hi hw hb hH hK hm hmp
    have : r = 4 := by omega
    subst this
    have b2 := hb.2.1
    obtain ⟨h1, a1, a2, a3, a4⟩ := m_comma (W := False) hx hi (by omega) (hw.trans (b2i_f (fun z => z)).symm)
    have x1 := Mp_x (Mn_p a2) hx
    rw [q_Md_labelItem_27, if_pos (by decide), a1, Option.bind_some]
    refine MIt_tr (Mn_p a2) ?_
    by_cases q : pk T n i = 44
    · have es : lbE1 T n l (lbR T n l 0 4 i R) = lbE2 T n l (lbK T n l 3 (i + 1) R) := by
        show iteP _ _ _ = _
        rw [iteP_t q]
      rw [es]
      refine m_la62 3 0 (i + 1) R none h1 (by decide) (by omega) x1 a3 (a4.trans (b2i_f (fun z => z.elim (fun z => z) (fun z => z q)))) hb hH hK (MTo_n a2 hm) (fun g hg => by omega) ?_
      unfold MPl
      rw [a2.2.2 13 (by decide) (by decide)]
      exact hmp
    · have es : lbE1 T n l (lbR T n l 0 4 i R) = none := by
        show iteP _ _ _ = _
        rw [iteP_f q]
      rw [es]
      exact m_la62w x1 a3 (by omega) (a4.trans (b2i_t (Or.inr q))) b2 (by rw [a2.2.2 9 (by decide) (by decide)]; exact hm.2.1.trans hb.1) 0 none
  | succ m ih =>
    intro r i R h e im hx hi hw hb hH hK hm hmp
    have hL := hx.1
    have b2 := hb.2.1
    have r30 : r < 30 := by omega
    have q0 : 0 + 30 * l + r < 120 := by omega
    obtain ⟨h1, v, a1, a2, a3, a4, a5⟩ := m_type (W := False) (Q := R) hx hi (by omega) (hw.trans (b2i_f (fun z => z)).symm) hm.1 hb.2.2.1
    have fr : Mp h h1 := by rw [a2]; exact Mp_tr (Mp_43 h _ (by decide)) (Mp_tr (Mp_43 _ _ (by decide)) (Mp_43 _ _ (by decide)))
    have x1 := Mp_x fr hx
    have fr2 := Mp_tr fr (Mp_r h1 (0 + 30 * l + r) v (a := 52) (by decide) (by decide))
    have o43 : ∀ j, j ≠ 13 → j ≠ 19 → j ≠ 21 → h1.2 43 j = h.2 43 j := fun j h13 h19 h21 => by rw [a2, mw_d _ _ h19, mw_d _ _ h13, mw_d _ _ h21]
    have orow : ∀ a, a ≠ 43 → h1.2 a = h.2 a := fun a ha => by rw [a2, mw_o _ _ _ ha, mw_o _ _ _ ha, mw_o _ _ _ ha]
    have e19 : h1.2 43 19 = ((i + 1 : Nat) : Int) := by rw [a2, mw_s]
    have e21 : h1.2 43 21 = b2i (False ∨ ¬ tld R (fgS T n i).1) := by rw [a2, mw_d _ _ (by decide), mw_d _ _ (by decide), mw_s]
    have e13 : h1.2 43 13 = ior (h.2 43 13) (cbS v) := by rw [a2, mw_d _ _ (by decide), mw_s]
    rw [q_Md_labelItem_27, if_neg (by omega), p_43_12 hL, Option.bind_some, g_43 hL (by decide), Option.bind_some, hm.2.1, hb.1, a1, Option.bind_some]
    dsimp only
    rw [ix2 b2 r30, st52 x1.1 q0, Option.bind_some, w32_nn r (by omega)]
    refine MIt_tr fr2 ?_
    by_cases t : tld R (fgS T n i).1
    · obtain ⟨ev, ej⟩ := a3 t
      have es : lbR T n l (m + 1) r i R = lbR T n l m (r + 1) (i + 1) (ru R (18 + 34 * l + r) v) := by
        show iteP _ _ _ = _
        rw [iteP_t t, ej, ev]
      have up : ∀ j, j < 18 + 34 * l → ru R (18 + 34 * l + r) v j = R j := fun j hj => ru_d _ _ (by omega)
      have eH : pH (ru R (18 + 34 * l + r) v) l = pH R l := ru_d _ _ (by omega)
      have eK : pK (ru R (18 + 34 * l + r) v) l = pK R l := ru_d _ _ (by omega)
      rw [es]
      refine ih (r + 1) (i + 1) _ _ (by omega) (by omega) (Mp_x fr2 hx) ?_ ?_ (LB_up hb up) (eH.trans hH) (eK.trans hK) ?_ ?_
      · rw [mw_o _ _ _ (by decide)]; exact e19
      · rw [mw_o _ _ _ (by decide), e21, b2i_f (fun z => z.elim (fun z => z) (fun z => z t))]
      · refine MTo_up hb up hm ?_ ?_ ?_ ?_ ?_ (fun j hj => ?_) ?_
        · rw [mw_o _ _ _ (by decide)]; exact o43 6 (by decide) (by decide) (by decide)
        · rw [mw_o _ _ _ (by decide)]; exact o43 9 (by decide) (by decide) (by decide)
        · rw [mw_o _ _ _ (by decide)]; exact orow 48 (by decide)
        · rw [mw_o _ _ _ (by decide)]; exact orow 49 (by decide)
        · rw [mw_o _ _ _ (by decide)]; exact orow 50 (by decide)
        · rw [mw_o _ _ _ (by decide), orow 51 (by decide)]
        · rw [mw_r, mrow_s, orow 52 (by decide)]
          exact Sl_ru hm.2.2.2.2 (l := l) (c := r) r30 rfl (qO_r (by omega)).symm v
      · unfold MPl
        rw [mw_o _ _ _ (by decide), e13]
        refine ⟨io16 hmp.1 (cbS_b v), fun b hb4 => ?_⟩
        have eW : ∀ q, q < r → pW (ru R (18 + 34 * l + r) v) l q = pW R l q := fun q hq => ru_d _ _ (by omega)
        have eWr : pW (ru R (18 + 34 * l + r) v) l r = v := ru_s _ _ _
        rw [hb_or hmp.1 (cbS_b v) hb4, hmp.2 b hb4, hb_cb hb4, meanQ_up hb up, eH, hH]
        constructor
        · rintro ((z | ⟨q, h1, h2⟩ | ⟨q, h1, h2⟩) | z)
          · exact Or.inl z
          · exact Or.inr (Or.inl ⟨q, by omega, by rw [eW q h1]; exact h2⟩)
          · omega
          · exact Or.inr (Or.inl ⟨r, by omega, by rw [eWr]; exact z⟩)
        · rintro (z | ⟨q, h1, h2⟩ | ⟨q, h1, h2⟩)
          · exact Or.inl (Or.inl z)
          · by_cases z : q = r
            · rw [z, eWr] at h2
              exact Or.inr h2
            · rw [eW q (by omega)] at h2
              exact Or.inl (Or.inr (Or.inl ⟨q, by omega, h2⟩))
          · omega
    · have es : lbR T n l (m + 1) r i R = none := by
        show iteP _ _ _ = _
        rw [iteP_f t]
      rw [es]
      refine m_la27w (Q := R) b2 m (r + 1) (i + 1) _ (by omega) (by omega) (Mp_x fr2 hx) ?_ ?_ ?_ ?_ hb.2.2.1
      · rw [mw_o _ _ _ (by decide)]; exact e19
      · rw [mw_o _ _ _ (by decide), e21, b2i_t (Or.inr t)]
      · rw [mw_o _ _ _ (by decide), o43 9 (by decide) (by decide) (by decide)]; exact hm.2.1.trans hb.1
      · rw [mw_o _ _ _ (by decide), o43 6 (by decide) (by decide) (by decide)]; exact hm.1
theorem m_labelItem (hx : Mx L n T h) (hi : h.2 43 19 = (i : Int)) (i9 : i < 300) (hp : PV Q) (hm : MTo Q h) (hmm : MMn Q h) : MIt L n T h (labI T n i Q) (F_Md_labelItem 43 h) := by
  have hL := hx.1
  obtain ⟨p1, p2, p3, p4, p5, p6⟩ := hp
  obtain ⟨l, hl⟩ := n_of p2.1
  unfold labI
  rw [q_Md_labelItem _ _ (o_43 hL), g_43 hL (by decide), Option.bind_some, hm.2.1, hl, tn]
  by_cases q : (l : Int) < 4
  · have f1 : Mn h (mw h 43 21 0) := Mn_43 h _ (Or.inr rfl)
    have x1 := Mp_x (Mn_p f1) hx
    obtain ⟨c1, c2⟩ := p5 l (by omega) (by omega)
    have hb : LB Q l := ⟨hl, by omega, p1, fun t ht => by have := (p4 t ht).1; omega, fun m hm' => by
      have := p6 m (by omega)
      exact ⟨this.2.1, this.2.2.2.2.1⟩⟩
    rw [if_pos (by omega), iteP_t q, q_Md_labelItem_14]
    rw [show (bz 0).bind (fun _ => pfd 6 21 h 43 0) = pfd 6 21 h 43 0 from rfl, f_43 hL (by decide), Option.bind_some, g_43 x1.1 (by decide), Option.bind_some, mw_s, if_pos rfl]
    refine MIt_tr (Mn_p f1) (m_la27 4 0 i Q (mw h 43 21 0) (by decide) (by omega) x1 (by rw [mw_d _ _ (by decide)]; exact hi) (mw_s _ _ _ _) hb c1 c2 (MTo_n f1 hm) ?_)
    unfold MPl
    rw [mw_d _ _ (by decide), c1]
    refine ⟨hmm.1, fun b hb4 => (hmm.2 b hb4).trans ⟨Or.inl, fun z => z.elim (fun z => z) (fun z => z.elim (fun ⟨q, h1, _⟩ => by omega) (fun ⟨q, h1, _⟩ => by omega))⟩⟩
  · have L1 : LyM L (mw h 43 21 1) := LyM_mw hL rfl
    rw [if_neg (by omega), iteP_f q, q_Md_labelItem_14]
    rw [show (bz 1).bind (fun _ => pfd 6 21 h 43 1) = pfd 6 21 h 43 1 from rfl, f_43 hL (by decide), Option.bind_some, g_43 L1 (by decide), Option.bind_some, mw_s, if_neg (by decide)]
    exact MIt_w (j := i) rfl (Mp_43 h _ (by decide)) (by rw [mw_d _ _ (by decide)]; exact hi) (by omega) (mw_s _ _ _ _)
/-- what reading may change -/
def Mpl (h h' : mH) : Prop := h'.1 = h.1 ∧ (∀ a, a ≠ 43 → (a < 48 ∨ 52 < a) → h'.2 a = h.2 a) ∧ ∀ j, j ≠ 6 → j ≠ 9 → j ≠ 13 → j ≠ 19 → j ≠ 20 → j ≠ 21 → h'.2 43 j = h.2 43 j
theorem Mpl_p {h h' : mH} (f : Mp h h') : Mpl h h' := ⟨f.1, f.2.1, fun j h1 h2 h3 h4 _ h5 => f.2.2 j h1 h2 h3 h4 h5⟩
theorem Mpl_tr {h h1 h2 : mH} (a : Mpl h h1) (b : Mpl h1 h2) : Mpl h h2 := ⟨b.1.trans a.1, fun k k1 k2 => (b.2.1 k k1 k2).trans (a.2.1 k k1 k2), fun j h1 h2 h3 h4 h5 h6 => (b.2.2 j h1 h2 h3 h4 h5 h6).trans (a.2.2 j h1 h2 h3 h4 h5 h6)⟩
theorem Mpl_20 (h : mH) (v : Int) : Mpl h (mw h 43 20 v) := ⟨rfl, fun a k1 _ => mw_o _ _ _ k1, fun j _ _ _ _ h5 _ => mw_d _ _ h5⟩
/-- how reading ends -/
def RdE (L n : Nat) (T : Nat → Int) (h : mH) (r : Int × (Nat → Int)) (x : Option mH) : Prop := ∃ h', x = some h' ∧ Mpl h h' ∧ Mx L n T h' ∧ ((r.1 = -4 ∧ h'.2 43 21 = 0 ∧ MTo r.2 h' ∧ MMn r.2 h' ∧ PV r.2) ∨ (r.1 ≠ -4 ∧ h'.2 43 21 = 1 ∧ h'.2 43 20 = r.1))
theorem m_rd103 (hx : Mx L n T h) (hi : h.2 43 19 = (i : Int)) (i9 : i ≤ 900) (hw : h.2 43 21 = b2i W) (x : Int) : ∃ h', B_Md_reads_103 43 x h = B_Md_reads_14 43 (some (.inl x)) h' ∧ Mn h h' ∧ h'.2 43 19 = ((i + 1 : Nat) : Int) ∧ h'.2 43 21 = b2i (W ∨ pk T n i ≠ 59) := by
  have hL := hx.1
  have fin : ∀ s : Int, s = b2i (W ∨ pk T n i ≠ 59) → ∃ h', B_Md_reads_129 43 x s 43 h = B_Md_reads_14 43 (some (.inl x)) h' ∧ Mn h h' ∧ h'.2 43 19 = ((i + 1 : Nat) : Int) ∧ h'.2 43 21 = b2i (W ∨ pk T n i ≠ 59) := fun s hs => by
    have L1 : LyM L (mw h 43 21 s) := LyM_mw hL rfl
    refine ⟨mw (mw h 43 21 s) 43 19 ((i + 1 : Nat) : Int), ?_, Mn_tr (Mn_43 h _ (Or.inr rfl)) (Mn_43 _ _ (Or.inl rfl)), mw_s _ _ _ _, by rw [mw_d _ _ (by decide), mw_s, hs]⟩
    rw [q_Md_reads_129]
    rw [hs] at L1 ⊢
    rw [bz_b, f_43 hL (by decide), Option.bind_some, g_43 L1 (by decide), Option.bind_some, mw_d _ _ (by decide), hi, w32_nn i (by omega), f_43 L1 (by decide), Option.bind_some]
  rw [q_Md_reads_103, g_43 hL (by decide), Option.bind_some, hw]
  by_cases q : W
  · rw [b2i_t q, if_pos (by decide), q_Md_reads_124]
    exact fin 1 (b2i_t (Or.inl q)).symm
  · rw [b2i_f q, if_neg (by decide), g_43 hL (by decide), Option.bind_some, hi, m_letter hx, Option.bind_some]
    dsimp only
    by_cases r : pk T n i = 59
    · rw [if_pos r]
      exact fin 0 (b2i_f (fun z => z.elim q (fun z => z r))).symm
    · rw [if_neg r, q_Md_reads_124]
      exact fin 1 (b2i_t (Or.inr r)).symm
theorem m_rd14 : ∀ (m i : Nat) (Q : Nat → Int) (o : Option mV) (h : mH), n ≤ i + m → i ≤ 200 → Mx L n T h → h.2 43 19 = (i : Int) → h.2 43 21 = 0 → MTo Q h → MMn Q h → PV Q → RdE L n T h (rdS T n m i Q) (B_Md_reads_14 43 o h) := by
  intro m
  induction m with
  | zero =>
    intro i Q o h e i2 hx hi hw hm hmm hp
    have hL := hx.1
    refine ⟨h, ?_, Mpl_p (Mp_rf h), hx, Or.inl ⟨rfl, hw, hm, hmm, hp⟩⟩
    rw [q_Md_reads_14, g_43 hL (by decide), Option.bind_some, g_43 hL (by decide), Option.bind_some, hi, hx.2.1, if_pos (by omega)]
  | succ m ih =>
    intro i Q o h e i2 hx hi hw hm hmm hp
    have hL := hx.1
    have n2 := hx.2.2.1
    rw [q_Md_reads_14, g_43 hL (by decide), Option.bind_some, g_43 hL (by decide), Option.bind_some, hi, hx.2.1]
    by_cases q : i < n
    · have f0 := Mpl_20 h (i : Int)
      have L0 : LyM L (mw h 43 20 (i : Int)) := LyM_mw hL rfl
      have x0 : Mx L n T (mw h 43 20 (i : Int)) := ⟨L0, by rw [mw_d _ _ (by decide)]; exact hx.2.1, n2, by rw [mw_o _ _ _ (by decide)]; exact hx.2.2.2⟩
      have f1 : Mn (mw h 43 20 (i : Int)) (mw (mw h 43 20 (i : Int)) 43 19 ((i + 1 : Nat) : Int)) := Mn_43 _ _ (Or.inl rfl)
      have x1 := Mp_x (Mn_p f1) x0
      have hm0 : MTo Q (mw h 43 20 (i : Int)) := by
        obtain ⟨m1, m2, m3, m4, m5⟩ := hm
        refine ⟨by rw [mw_d _ _ (by decide)]; exact m1, by rw [mw_d _ _ (by decide)]; exact m2, ?_, ?_, by rw [mw_o _ _ _ (by decide)]; exact m5⟩
        · rw [mw_o _ _ _ (by decide), mw_o _ _ _ (by decide)]; exact m3
        · rw [mw_o _ _ _ (by decide), mw_o _ _ _ (by decide)]; exact m4
      have hm1 := MTo_n f1 hm0
      have mm1 : MMn Q (mw (mw h 43 20 (i : Int)) 43 19 ((i + 1 : Nat) : Int)) := MMn_c (fun _ _ => rfl) rfl (by rw [mw_d _ _ (by decide), mw_d _ _ (by decide)]) hmm
      have i1 : (mw (mw h 43 20 (i : Int)) 43 19 ((i + 1 : Nat) : Int)).2 43 19 = ((i + 1 : Nat) : Int) := mw_s _ _ _ _
      have p20 : (mw (mw h 43 20 (i : Int)) 43 19 ((i + 1 : Nat) : Int)).2 43 20 = (i : Int) := by rw [mw_d _ _ (by decide), mw_s]
      -- behind an item
      have fin : ∀ (x : Int) (r : Option (Nat × (Nat → Int))) (y : Option mH), itemS T n i Q = r → MIt L n T (mw (mw h 43 20 (i : Int)) 43 19 ((i + 1 : Nat) : Int)) r y → RdE L n T h (rdS T n (m + 1) i Q) (y.bind fun h' => B_Md_reads_103 43 x h') := fun x r y hr ⟨g, a1, a2, j, a3, a4, a5⟩ => by
        have xg := Mp_x a2 x1
        have frg : Mpl h g := Mpl_tr f0 (Mpl_tr (Mpl_p (Mn_p f1)) (Mpl_p a2))
        have g20 : g.2 43 20 = (i : Int) := (a2.2.2 20 (by decide) (by decide) (by decide) (by decide) (by decide)).trans p20
        rw [a1, Option.bind_some]
        have stop : ∀ (g' : mH) (o : Option mV), Mx L n T g' → g'.2 43 21 = 1 → Mpl h g' → g'.2 43 20 = (i : Int) → itemS T n i Q = none → (∃ k : Nat, g'.2 43 19 = (k : Int)) → RdE L n T h (rdS T n (m + 1) i Q) (B_Md_reads_14 43 o g') := fun g' o xg' w' fr' p' hn ⟨k, hk⟩ => by
          have er : rdS T n (m + 1) i Q = ((i : Int), Q) := by
            show (if i < n then _ else _) = _
            rw [if_pos q, hn]
          rw [er]
          refine ⟨g', ?_, fr', xg', Or.inr ⟨by show (i : Int) ≠ -4; omega, w', p'⟩⟩
          rw [q_Md_reads_14, g_43 xg'.1 (by decide), Option.bind_some, g_43 xg'.1 (by decide), Option.bind_some, hk, xg'.2.1]
          by_cases z : (n : Int) ≤ (k : Int)
          · rw [if_pos z]
          · rw [if_neg z, g_43 xg'.1 (by decide), Option.bind_some, w', if_pos (by decide)]
        rcases a5 with ⟨w, hn⟩ | ⟨w, R, mR, mmR, hR⟩
        · obtain ⟨g2, b1, b2, b3, b4⟩ := m_rd103 (W := True) xg a3 a4 (w.trans (b2i_t trivial).symm) x
          rw [b1]
          exact stop g2 _ (Mp_x (Mn_p b2) xg) (b4.trans (b2i_t (Or.inl trivial))) (Mpl_tr frg (Mpl_p (Mn_p b2))) ((b2.2.2 20 (by decide) (by decide)).trans g20) (hr.trans hn) ⟨j + 1, b3⟩
        · obtain ⟨g2, b1, b2, b3, b4⟩ := m_rd103 (W := False) xg a3 a4 (w.trans (b2i_f (fun z => z)).symm) x
          have xg2 := Mp_x (Mn_p b2) xg
          rw [b1]
          by_cases z : pk T n j = 59
          · rw [iteP_t z] at hR
            have hit := hr.trans hR
            obtain ⟨v1, v2, v3⟩ := itemS_v hp hit
            have er : rdS T n (m + 1) i Q = rdS T n m (j + 1) R := by
              show (if i < n then _ else _) = _
              rw [if_pos q, hit]
            rw [er]
            obtain ⟨h', c1, c2, c3, c4⟩ := ih (j + 1) R (some (.inl x)) g2 (by omega) (by omega) xg2 b3 (b4.trans (b2i_f (fun y => y.elim (fun y => y) (fun y => y z)))) (MTo_n b2 mR) (MMn_c (fun _ _ => rfl) rfl (b2.2.2 13 (by decide) (by decide)) mmR) v1
            exact ⟨h', c1, Mpl_tr frg (Mpl_tr (Mpl_p (Mn_p b2)) c2), c3, c4⟩
          · rw [iteP_f z] at hR
            exact stop g2 _ xg2 (b4.trans (b2i_t (Or.inr z))) (Mpl_tr frg (Mpl_p (Mn_p b2))) ((b2.2.2 20 (by decide) (by decide)).trans g20) (hr.trans hR) ⟨j + 1, b3⟩
      rw [if_neg (by omega), g_43 hL (by decide), Option.bind_some, hw, if_neg (by decide), Option.bind_some, f_43 hL (by decide), Option.bind_some, g_43 L0 (by decide), Option.bind_some, mw_d _ _ (by decide), hi, m_letter x0, Option.bind_some]
      dsimp only
      rw [g_43 L0 (by decide), Option.bind_some, mw_d _ _ (by decide), hi, w32_nn i (by omega), f_43 L0 (by decide), Option.bind_some]
      by_cases c1 : pk T n i = 115
      · rw [if_neg (Decidable.not_not.mpr c1)]
        refine fin _ _ _ ?_ (m_sortItem x1 i1 (by omega) hp hm1 mm1)
        unfold itemS
        rw [if_neg (by omega), if_neg (by omega), if_pos c1]
      · rw [if_pos c1]
        by_cases c2 : pk T n i = 108
        · rw [if_neg (Decidable.not_not.mpr c2)]
          refine fin _ _ _ ?_ (m_labelItem x1 i1 (by omega) hp hm1 mm1)
          unfold itemS
          rw [if_neg (by omega), if_pos c2]
        · rw [if_pos c2]
          by_cases c3 : pk T n i = 105
          · rw [if_neg (Decidable.not_not.mpr c3)]
            refine fin _ _ _ ?_ (m_codeItem x1 i1 (by omega) hp hm1 mm1)
            unfold itemS
            rw [if_pos c3]
          · rw [if_pos c3]
            refine fin _ none _ ?_ (MIt_w (h' := mw (mw (mw h 43 20 (i : Int)) 43 19 ((i + 1 : Nat) : Int)) 43 21 1) (j := i + 1) ?_ (Mp_43 _ _ (by decide)) (by rw [mw_d _ _ (by decide), mw_s]) (by omega) (mw_s _ _ _ _))
            · unfold itemS
              rw [if_neg c3, if_neg c2, if_neg c1]
            · rw [show ∀ g : mH, (bz 1).bind (fun _ => pfd 6 21 g 43 1) = pfd 6 21 g 43 1 from fun _ => rfl, f_43 x1.1 (by decide)]
    · have er : rdS T n (m + 1) i Q = (-4, Q) := by
        show (if i < n then _ else _) = _
        rw [if_neg q]
      rw [er, if_pos (by omega)]
      exact ⟨h, rfl, Mpl_p (Mp_rf h), hx, Or.inl ⟨rfl, hw, hm, hmm, hp⟩⟩
end Mp
