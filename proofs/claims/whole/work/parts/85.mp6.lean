/-! THE MODEL READS: a label that can be -/
def LB (R : Nat → Int) (l : Nat) : Prop := pL R = (l : Int) ∧ l < 4 ∧ (0 ≤ pS R ∧ pS R ≤ 4) ∧ (∀ t : Nat, (t : Int) < pS R → 0 ≤ pFn R t ∧ pFn R t ≤ 3) ∧ ∀ m : Nat, m < l → (0 ≤ pH R m ∧ pH R m ≤ 3) ∧ 0 ≤ pK R m ∧ pK R m ≤ 6
section Mp
variable {L n i l : Nat} {T Q R R' : Nat → Int} {h h' : mH} {W : Prop}
theorem LB_up (hb : LB R l) (e : ∀ j, j < 18 + 34 * l → R' j = R j) : LB R' l := by
  obtain ⟨b1, b2, b3, b4, b5⟩ := hb
  have eS : pS R' = pS R := e 0 (by omega)
  refine ⟨(e 1 (by omega)).trans b1, b2, by rw [eS]; exact b3, fun t ht => ?_, fun m hm => ?_⟩
  · rw [eS] at ht
    have : pFn R' t = pFn R t := e _ (by omega)
    rw [this]; exact b4 t ht
  · have e1 : pH R' m = pH R m := e _ (by omega)
    have e2 : pK R' m = pK R m := e _ (by omega)
    rw [e1, e2]; exact b5 m hm
theorem meanQ_up (hb : LB R l) (e : ∀ j, j < 18 + 34 * l → R' j = R j) {b : Nat} : meanQ R' b ↔ meanQ R b := by
  obtain ⟨b1, b2, b3, b4, b5⟩ := hb
  have eL : pL R' = pL R := e 1 (by omega)
  unfold meanQ
  rw [eL]
  have k : ∀ m : Nat, (m : Int) < pL R → (mean R' m b ↔ mean R m b) := fun m hm => by
    obtain ⟨c1, c2⟩ := b5 m (by omega)
    exact mean_c (fun j h1 h2 => e j (by omega)) c1 c2 b
  exact ⟨fun ⟨m, a, c⟩ => ⟨m, a, (k m a).mp c⟩, fun ⟨m, a, c⟩ => ⟨m, a, (k m a).mpr c⟩⟩
theorem MTo_up (hb : LB R l) (e : ∀ j, j < 18 + 34 * l → R' j = R j) (hm : MTo R h) (e6 : h'.2 43 6 = h.2 43 6) (e9 : h'.2 43 9 = h.2 43 9) (e48 : h'.2 48 = h.2 48) (e49 : h'.2 49 = h.2 49) (e50 : h'.2 50 = h.2 50) (e51 : ∀ j, j < 3 * l → h'.2 51 j = h.2 51 j) (hs : Sl (h'.2 52) 0 R') : MTo R' h' := by
  obtain ⟨m1, m2, m3, m4, m5⟩ := hm
  obtain ⟨b1, b2, b3, b4, b5⟩ := hb
  have eS : pS R' = pS R := e 0 (by omega)
  have eL : pL R' = pL R := e 1 (by omega)
  refine ⟨by rw [e6, eS]; exact m1, by rw [e9, eL]; exact m2, fun t ht => ?_, fun m hm' => ?_, hs⟩
  · rw [eS] at ht
    obtain ⟨a1, a2⟩ := m3 t ht
    have := b4 t ht
    have e1 : pFn R' t = pFn R t := e _ (by omega)
    rw [e1, e48, e49]
    exact ⟨a1, fun f hf => by rw [a2 f hf]; exact (e _ (by omega)).symm⟩
  · rw [eL] at hm'
    obtain ⟨a1, a2⟩ := m4 m hm'
    have := (b5 m (by omega)).1
    have e1 : pH R' m = pH R m := e _ (by omega)
    rw [e1, e50]
    exact ⟨a1, fun f hf => by rw [e51 _ (by omega), a2 f hf]; exact (e _ (by omega)).symm⟩
/-- the labels that are meant, within a label -/
def MPl (R : Nat → Int) (l r : Nat) (h : mH) : Prop := B16 (h.2 43 13) ∧ ∀ b, b < 4 → (hasB (h.2 43 13) b ↔ meanQ R b ∨ (∃ q, q < r ∧ pW R l q = 6 + (b : Int)) ∨ ∃ q : Nat, (q : Int) < pH R l ∧ pT R l q = 6 + (b : Int))
theorem m_la122 (hx : Mx L n T h) (hi : h.2 43 19 = (i : Int)) (i9 : i ≤ 500) (hw : h.2 43 21 = 0) (hb : LB R l) {f : Nat} (f3 : f ≤ 3) (hf : pH R l = (f : Int)) (hK : pK R l = 0) (hm : MTo R h) (h51 : ∀ g : Nat, g < f → h.2 51 (3 * l + g) = pT R l g) (hmp : MPl R l 4 h) (o : Option mV) :
    MIt L n T h (lbE2 T n l (some (i, R))) (B_Md_labelItem_122 43 (f : Int) o h) := by
  obtain ⟨b1, b2, b3, b4, b5⟩ := id hb
  obtain ⟨m1, m2, m3, m4, m5⟩ := id hm
  obtain ⟨h', v, j, a1, a2, a3, a4, a5, a6, c6, c9, c13, c48, c49, c51, c50, c52⟩ := m_la122u (W := False) hx hi i9 (hw.trans (b2i_f (fun z => z)).symm) b2 (m2.trans b1) (f : Int) o
  by_cases w : (False ∨ pk T n i ≠ 44) ∨ NW T n (i + 1) 1
  · have e : lbE2 T n l (some (i, R)) = none := by
      show iteP _ _ _ = none
      refine iteP_f (fun z => ?_) _ _
      rcases w with w | w
      · exact w.elim (fun q => q) (fun q => q z.1)
      · rcases w with w | w
        · rw [z.2.2] at w; unfold isFg at w; exact absurd w.2 (by decide)
        · exact w z.2.1
    rw [e]
    exact MIt_w a1 a2 a3 a4 (a5.trans (b2i_t w))
  · obtain ⟨ev, ej⟩ := a6 w
    have w1 : pk T n i = 44 := Decidable.not_not.mp (fun q => w (Or.inl (Or.inr q)))
    have w2 : 0 ≤ (nmS T n (i + 1)).1 ∧ (nmS T n (i + 1)).1 ≤ 1 := by
      by_cases q : 0 ≤ (nmS T n (i + 1)).1 ∧ (nmS T n (i + 1)).1 ≤ 1
      · exact q
      · exact absurd (Or.inr (Or.inr q)) w
    refine ⟨h', a1, a2, j, a3, a4, Or.inr ⟨a5.trans (b2i_f w), ru (ru R (26 + 34 * l) v) 1 (pL R + 1), ?_, ?_, ?_⟩⟩
    · have eo : ∀ a, a ≠ 1 → a ≠ 26 + 34 * l → ru (ru R (26 + 34 * l) v) 1 (pL R + 1) a = R a := fun a h1 h2 => by rw [ru_d _ _ h1, ru_d _ _ h2]
      have eL : pL (ru (ru R (26 + 34 * l) v) 1 (pL R + 1)) = ((l + 1 : Nat) : Int) := by
        show ru _ 1 _ 1 = _
        rw [ru_s, b1]; omega
      have eS : pS (ru (ru R (26 + 34 * l) v) 1 (pL R + 1)) = pS R := eo 0 (by decide) (by omega)
      refine ⟨by rw [c6, eS]; exact m1, by rw [c9, eL], fun t ht => ?_, fun m hm' => ?_, ?_⟩
      · rw [eS] at ht
        obtain ⟨d1, d2⟩ := m3 t ht
        have := b4 t ht
        have e1 : pFn (ru (ru R (26 + 34 * l) v) 1 (pL R + 1)) t = pFn R t := eo _ (by omega) (by omega)
        rw [e1, c48, c49]
        exact ⟨d1, fun f hf => by rw [d2 f hf]; exact (eo _ (by omega) (by omega)).symm⟩
      · rw [eL] at hm'
        have e1 : pH (ru (ru R (26 + 34 * l) v) 1 (pL R + 1)) m = pH R m := eo _ (by omega) (by have := l34 m l; omega)
        rw [e1, c50, c51]
        by_cases q : m = l
        · rw [q, ru_s]
          refine ⟨hf.symm, fun g hg => ?_⟩
          rw [h51 g (by omega)]
          exact (eo _ (by omega) (by omega)).symm
        · obtain ⟨d1, d2⟩ := m4 m (by omega)
          have := (b5 m (by omega)).1
          rw [ru_d _ _ q]
          exact ⟨d1, fun g hg => by rw [d2 g hg]; exact (eo _ (by omega) (by have := l34 m l; omega)).symm⟩
      · rw [c52]
        refine Sl_cg (Sl_ru m5 (l := l) (c := 4) (by decide) rfl (qO_4 l).symm v) (fun a ha => ru_d _ _ (by omega))
    · have eo : ∀ a, a ≠ 1 → a ≠ 26 + 34 * l → ru (ru R (26 + 34 * l) v) 1 (pL R + 1) a = R a := fun a h1 h2 => by rw [ru_d _ _ h1, ru_d _ _ h2]
      have eL : pL (ru (ru R (26 + 34 * l) v) 1 (pL R + 1)) = ((l + 1 : Nat) : Int) := by
        show ru _ 1 _ 1 = _
        rw [ru_s, b1]; omega
      unfold MMn
      rw [c13]
      refine ⟨hmp.1, fun b hb4 => (hmp.2 b hb4).trans ?_⟩
      have oth : ∀ m : Nat, m < l → (mean (ru (ru R (26 + 34 * l) v) 1 (pL R + 1)) m b ↔ mean R m b) := fun m hm' => by
        obtain ⟨d1, d2⟩ := b5 m hm'
        exact mean_c (fun a h1 h2 => eo a (by omega) (by have := l34 m l; omega)) d1 d2 b
      have eK : pK (ru (ru R (26 + 34 * l) v) 1 (pL R + 1)) l = 0 := (eo _ (by omega) (by omega)).trans hK
      have eH : pH (ru (ru R (26 + 34 * l) v) 1 (pL R + 1)) l = pH R l := eo _ (by omega) (by omega)
      have eW : ∀ r, r < 4 → pW (ru (ru R (26 + 34 * l) v) 1 (pL R + 1)) l r = pW R l r := fun r hr => eo _ (by omega) (by omega)
      have eT : ∀ r, r < 3 → pT (ru (ru R (26 + 34 * l) v) 1 (pL R + 1)) l r = pT R l r := fun r hr => eo _ (by omega) (by omega)
      constructor
      · rintro (⟨m, a, d⟩ | ⟨r, h1, h2⟩ | ⟨r, h1, h2⟩)
        · exact ⟨m, by rw [eL]; omega, (oth m (by omega)).mpr d⟩
        · exact ⟨l, by rw [eL]; omega, Or.inr (Or.inl ⟨r, h1, by rw [eW r h1]; exact h2⟩)⟩
        · exact ⟨l, by rw [eL]; omega, Or.inr (Or.inr ⟨r, by rw [eH]; exact h1, by rw [eT r (by omega)]; exact h2⟩)⟩
      · rintro ⟨m, a, d⟩
        rw [eL] at a
        by_cases q : m = l
        · rw [q] at d
          rcases d with ⟨k, h1, h2⟩ | ⟨r, h1, h2⟩ | ⟨r, h1, h2⟩
          · rw [eK] at h1; omega
          · exact Or.inr (Or.inl ⟨r, h1, by rw [eW r h1] at h2; exact h2⟩)
          · rw [eH] at h1
            exact Or.inr (Or.inr ⟨r, h1, by rw [eT r (by omega)] at h2; exact h2⟩)
        · exact Or.inl ⟨m, by omega, (oth m (by omega)).mp d⟩
    · subst ev ej
      show iteP _ _ _ = _
      exact iteP_c ⟨fun q => q.2.2, fun q => ⟨w1, w2, q⟩⟩ _ _
/-- types of the stack -/
theorem m_la62 : ∀ (m f i : Nat) (R : Nat → Int) (o : Option mV) (h : mH), f + m = 3 → i + m ≤ 480 → Mx L n T h → h.2 43 19 = (i : Int) → h.2 43 21 = 0 → LB R l → pH R l = (f : Int) → pK R l = 0 → MTo R h → (∀ g : Nat, g < f → h.2 51 (3 * l + g) = pT R l g) → MPl R l 4 h →
    MIt L n T h (lbE2 T n l (lbK T n l m i R)) (B_Md_labelItem_62 43 (f : Int) o h) := by
  intro m
  induction m with
  | zero =>
    intro f i R o h e im hx hi hw hb hf hK hm h51 hmp
    have hL := hx.1
    have b2 := hb.2.1
    have : f = 3 := by omega
    subst this
    rw [q_Md_labelItem_62, g_43 hL (by decide), Option.bind_some, hw, if_neg (by decide), m_isFig hx hi, Option.bind_some]
    dsimp only
    by_cases q : isFg (pk T n i)
    · have es : lbE2 T n l (lbK T n l 0 i R) = none := by
        show iteP _ _ _ = none
        refine iteP_f (fun z => ?_) _ _
        rw [z.1] at q
        unfold isFg at q
        exact absurd q.1 (by decide)
      have f0 : Mn h (mw h 43 21 1) := Mn_43 h _ (Or.inr rfl)
      have x0 := Mp_x (Mn_p f0) hx
      obtain ⟨h1, v, a1, a2, -⟩ := m_type (W := True) (Q := R) x0 (show (mw h 43 21 1).2 43 19 = (i : Int) by rw [mw_d _ _ (by decide)]; exact hi) (by omega) ((mw_s _ _ _ _).trans (b2i_t trivial).symm) (by rw [mw_d _ _ (by decide)]; exact hm.1) hb.2.2.1
      have fr : Mp (mw h 43 21 1) h1 := by rw [a2]; exact Mp_tr (Mp_43 _ _ (by decide)) (Mp_tr (Mp_43 _ _ (by decide)) (Mp_43 _ _ (by decide)))
      have x1 := Mp_x fr x0
      have w1 : h1.2 43 21 = 1 := by rw [a2, mw_d _ _ (by decide), mw_d _ _ (by decide), mw_s, b2i_t (Or.inl trivial)]
      rw [es, b2i_t q, if_neg (by decide), if_neg (by decide), q_Md_labelItem_87]
      rw [show (bz 1).bind (fun _ => pfd 6 21 h 43 1) = pfd 6 21 h 43 1 from rfl, f_43 hL (by decide), Option.bind_some, a1, Option.bind_some]
      dsimp only
      rw [g_43 x1.1 (by decide), Option.bind_some, w1, if_pos (by decide), q_Md_labelItem_116]
      refine MIt_tr (Mp_tr (Mn_p f0) fr) (m_la62w (i := i + 1) x1 ?_ (by omega) w1 b2 ?_ _ _)
      · rw [a2, mw_s]
      · rw [a2, mw_d _ _ (by decide), mw_d _ _ (by decide), mw_d _ _ (by decide), mw_d _ _ (by decide)]; exact hm.2.1.trans hb.1
    · rw [b2i_f q, if_pos rfl]
      exact m_la122 hx hi (by omega) hw hb (Nat.le_refl _) hf hK hm h51 hmp o
  | succ m ih =>
    intro f i R o h e im hx hi hw hb hf hK hm h51 hmp
    have hL := hx.1
    have b2 := hb.2.1
    rw [q_Md_labelItem_62, g_43 hL (by decide), Option.bind_some, hw, if_neg (by decide), m_isFig hx hi, Option.bind_some]
    dsimp only
    by_cases q : isFg (pk T n i)
    · have f0 : Mn h (mw h 43 21 0) := Mn_43 h _ (Or.inr rfl)
      have x0 := Mp_x (Mn_p f0) hx
      obtain ⟨h1, v, a1, a2, a3, a4, a5⟩ := m_type (W := False) (Q := R) x0 (show (mw h 43 21 0).2 43 19 = (i : Int) by rw [mw_d _ _ (by decide)]; exact hi) (by omega) ((mw_s _ _ _ _).trans (b2i_f (fun z => z)).symm) (by rw [mw_d _ _ (by decide)]; exact hm.1) hb.2.2.1
      have fr : Mp (mw h 43 21 0) h1 := by rw [a2]; exact Mp_tr (Mp_43 _ _ (by decide)) (Mp_tr (Mp_43 _ _ (by decide)) (Mp_43 _ _ (by decide)))
      have x1 := Mp_x fr x0
      have frh := Mp_tr (Mn_p f0) fr
      have ef : (fgS T n i).1 = pk T n i - 48 := by unfold fgS; rw [iteP_t q]
      rw [ef] at a2 a3
      have o43 : ∀ j, j ≠ 13 → j ≠ 19 → j ≠ 21 → h1.2 43 j = h.2 43 j := fun j h13 h19 h21 => by rw [a2, mw_d _ _ h19, mw_d _ _ h13, mw_d _ _ h21, mw_d _ _ h21]
      have orow : ∀ a, a ≠ 43 → h1.2 a = h.2 a := fun a ha => by rw [a2, mw_o _ _ _ ha, mw_o _ _ _ ha, mw_o _ _ _ ha, mw_o _ _ _ ha]
      have e19 : h1.2 43 19 = ((i + 1 : Nat) : Int) := by rw [a2, mw_s]
      have e21 : h1.2 43 21 = b2i (False ∨ ¬ tld R (pk T n i - 48)) := by rw [a2, mw_d _ _ (by decide), mw_d _ _ (by decide), mw_s]
      have e13 : h1.2 43 13 = ior (h.2 43 13) (cbS v) := by rw [a2, mw_d _ _ (by decide), mw_s, mw_d _ _ (by decide)]
      rw [b2i_t q, if_neg (by decide), if_pos (by omega), q_Md_labelItem_87]
      rw [show (bz 0).bind (fun _ => pfd 6 21 h 43 0) = pfd 6 21 h 43 0 from rfl, f_43 hL (by decide), Option.bind_some, a1, Option.bind_some]
      dsimp only
      rw [g_43 x1.1 (by decide), Option.bind_some, e21]
      by_cases t : tld R (pk T n i - 48)
      · obtain ⟨ev, -⟩ := a3 t
        have es : lbK T n l (m + 1) i R = lbK T n l m (i + 1) (addB R l v) := by
          show iteP _ _ _ = _
          rw [iteP_t q, iteP_t t, ev]
        have p1 : 3 * l + f < 12 := by omega
        have fr2 := Mp_tr frh (Mp_r h1 (a := 51) (3 * l + f) v (by decide) (by decide))
        have efn : (pH R l).toNat = f := by rw [hf, tn]
        have ea : ∀ j, (j < 22 + 34 * l ∨ 26 + 34 * l ≤ j) → addB R l v j = R j := fun j hj => by
          unfold addB
          rw [efn, ru_d _ _ (by omega), ru_d _ _ (by omega)]
        have eT : ∀ g, g < f → pT (addB R l v) l g = pT R l g := fun g hg => by
          unfold pT addB
          rw [efn, ru_d _ _ (by omega), ru_d _ _ (by omega)]
        have eTf : pT (addB R l v) l f = v := by
          unfold pT addB
          rw [efn, ru_d _ _ (by omega), ru_s]
        have en : pH (addB R l v) l = ((f + 1 : Nat) : Int) := by rw [addB_n, hf]; omega
        have up : ∀ j, j < 18 + 34 * l → addB R l v j = R j := fun j hj => ea j (by omega)
        rw [es, b2i_f (fun z => z.elim (fun z => z) (fun z => z t)), if_neg (by decide), p_43_11 x1.1, Option.bind_some, g_43 x1.1 (by decide), Option.bind_some, o43 9 (by decide) (by decide) (by decide), hm.2.1, hb.1, ix5 b2 (by omega), st51 x1.1 p1, Option.bind_some, q_Md_labelItem_116, w32_nn f (by omega)]
        refine MIt_tr fr2 (ih (f + 1) (i + 1) (addB R l v) _ _ (by omega) (by omega) (Mp_x fr2 hx) ?_ ?_ (LB_up hb up) en ((ea _ (by omega)).trans hK) ?_ ?_ ?_)
        · rw [mw_o _ _ _ (by decide)]; exact e19
        · rw [mw_o _ _ _ (by decide), e21, b2i_f (fun z => z.elim (fun z => z) (fun z => z t))]
        · refine MTo_up hb up hm ?_ ?_ ?_ ?_ ?_ (fun j hj => ?_) ?_
          · rw [mw_o _ _ _ (by decide)]; exact o43 6 (by decide) (by decide) (by decide)
          · rw [mw_o _ _ _ (by decide)]; exact o43 9 (by decide) (by decide) (by decide)
          · rw [mw_o _ _ _ (by decide)]; exact orow 48 (by decide)
          · rw [mw_o _ _ _ (by decide)]; exact orow 49 (by decide)
          · rw [mw_o _ _ _ (by decide)]; exact orow 50 (by decide)
          · rw [mw_d _ _ (by omega), orow 51 (by decide)]
          · rw [mw_o _ _ _ (by decide), orow 52 (by decide)]
            have s5 := hm.2.2.2.2
            rw [Sl_u] at s5 ⊢
            intro a c ha hc
            rw [ea _ (by have := l34 a l; unfold qO; split <;> omega)]
            exact s5 a c ha hc
        · intro g hg
          rw [mw_at]
          by_cases z : g = f
          · rw [if_pos (by omega), z, eTf]
          · rw [if_neg (by omega), orow 51 (by decide), eT g (by omega)]
            exact h51 g (by omega)
        · unfold MPl
          rw [mw_o _ _ _ (by decide), e13]
          refine ⟨io16 hmp.1 (cbS_b v), fun b hb4 => ?_⟩
          have eW : ∀ r, r < 4 → pW (addB R l v) l r = pW R l r := fun r hr => ea _ (by omega)
          rw [hb_or hmp.1 (cbS_b v) hb4, hmp.2 b hb4, hb_cb hb4, meanQ_up hb up, en, hf]
          constructor
          · rintro ((z | ⟨r, h1, h2⟩ | ⟨r, h1, h2⟩) | z)
            · exact Or.inl z
            · exact Or.inr (Or.inl ⟨r, h1, by rw [eW r h1]; exact h2⟩)
            · exact Or.inr (Or.inr ⟨r, by omega, by rw [eT r (by omega)]; exact h2⟩)
            · exact Or.inr (Or.inr ⟨f, by omega, by rw [eTf]; exact z⟩)
          · rintro (z | ⟨r, h1, h2⟩ | ⟨r, h1, h2⟩)
            · exact Or.inl (Or.inl z)
            · exact Or.inl (Or.inr (Or.inl ⟨r, h1, by rw [eW r h1] at h2; exact h2⟩))
            · by_cases z : r = f
              · rw [z, eTf] at h2
                exact Or.inr h2
              · rw [eT r (by omega)] at h2
                exact Or.inl (Or.inr (Or.inr ⟨r, by omega, h2⟩))
      · have es : lbK T n l (m + 1) i R = none := by
          show iteP _ _ _ = _
          rw [iteP_t q, iteP_f t]
        rw [es, b2i_t (Or.inr t), if_pos (by decide), q_Md_labelItem_116]
        exact MIt_tr frh (m_la62w x1 e19 (by omega) (e21.trans (b2i_t (Or.inr t))) b2 ((o43 9 (by decide) (by decide) (by decide)).trans (hm.2.1.trans hb.1)) _ _)
    · have es : lbK T n l (m + 1) i R = some (i, R) := by
        show iteP _ _ _ = _
        rw [iteP_f q]
      rw [es, b2i_f q, if_pos rfl]
      exact m_la122 hx hi (by omega) hw hb (by omega) hf hK hm h51 hmp o
end Mp
