/-! THE MODEL READS: a sort -/
theorem Sl_cg {f Q Q' : Nat → Int} {b : Nat} (hs : Sl f b Q) (e : ∀ j, 18 ≤ j → Q' j = Q j) : Sl f b Q' := by
  rw [Sl_u] at hs ⊢
  intro l c hl hc
  rw [e _ (by unfold qO; split <;> omega)]
  exact hs l c hl hc
section Mp
variable {L n i : Nat} {T Q R : Nat → Int} {h : mH}
theorem t48 : (48 : Int).toNat = 48 := rfl
theorem t49 : (49 : Int).toNat = 49 := rfl
theorem t50 : (50 : Int).toNat = 50 := rfl
theorem t51 : (51 : Int).toNat = 51 := rfl
theorem t52 : (52 : Int).toNat = 52 := rfl
theorem st48 (hL : LyM L h) {p : Nat} (hp : p < 4) (v : Int) : ast h (48 : Int).toNat (p : Int) v = some (mw h 48 p v) := by rw [t48, w_48 hL (by omega) (by omega), tn]
theorem st49 (hL : LyM L h) {p : Nat} (hp : p < 12) (v : Int) : ast h (49 : Int).toNat (p : Int) v = some (mw h 49 p v) := by rw [t49, w_49 hL (by omega) (by omega), tn]
theorem st50 (hL : LyM L h) {p : Nat} (hp : p < 4) (v : Int) : ast h (50 : Int).toNat (p : Int) v = some (mw h 50 p v) := by rw [t50, w_50 hL (by omega) (by omega), tn]
theorem st51 (hL : LyM L h) {p : Nat} (hp : p < 12) (v : Int) : ast h (51 : Int).toNat (p : Int) v = some (mw h 51 p v) := by rw [t51, w_51 hL (by omega) (by omega), tn]
theorem st52 (hL : LyM L h) {p : Nat} (hp : p < 120) (v : Int) : ast h (52 : Int).toNat (p : Int) v = some (mw h 52 p v) := by rw [t52, w_52 hL (by omega) (by omega), tn]
theorem ld52 (hL : LyM L h) {p : Nat} (hp : p < 120) : ald 10 h (52 : Int).toNat (p : Int) = some (h.2 52 p) := by rw [t52, r_52 hL (by omega) (by omega), tn]
theorem m_so128w (hL : LyM L h) (hw : h.2 43 21 = 1) (x : Int) (o : Option mV) : ∃ h', B_Md_sortItem_111 43 x o h = some h' ∧ Mn h h' ∧ h'.2 43 19 = h.2 43 19 ∧ h'.2 43 21 = 1 := by
  have L1 : LyM L (mw h 43 21 1) := LyM_mw hL rfl
  refine ⟨mw h 43 21 1, ?_, Mn_43 h _ (Or.inr rfl), mw_d _ _ (by decide), mw_s _ _ _ _⟩
  rw [q_Md_sortItem_111, g_43 hL (by decide), Option.bind_some, hw, if_pos (by decide), q_Md_sortItem_123, q_Md_sortItem_128]
  rw [show (bz 1).bind (fun _ => pfd 6 21 h 43 1) = pfd 6 21 h 43 1 from rfl, f_43 hL (by decide), Option.bind_some, g_43 L1 (by decide), Option.bind_some, mw_s, if_pos (by decide)]
theorem m_so0w (hL : LyM L h) (hw : h.2 43 21 = 0) (o : Option mV) : ∃ h', B_Md_sortItem_111 43 0 o h = some h' ∧ Mn h h' ∧ h'.2 43 19 = h.2 43 19 ∧ h'.2 43 21 = 1 := by
  have L1 : LyM L (mw h 43 21 1) := LyM_mw hL rfl
  refine ⟨mw h 43 21 1, ?_, Mn_43 h _ (Or.inr rfl), mw_d _ _ (by decide), mw_s _ _ _ _⟩
  rw [q_Md_sortItem_111, g_43 hL (by decide), Option.bind_some, hw, if_neg (by decide), if_neg (by decide), q_Md_sortItem_123, q_Md_sortItem_128]
  rw [show (bz 1).bind (fun _ => pfd 6 21 h 43 1) = pfd 6 21 h 43 1 from rfl, f_43 hL (by decide), Option.bind_some, g_43 L1 (by decide), Option.bind_some, mw_s, if_pos (by decide)]
theorem m_so111 (hL : LyM L h) (hw : h.2 43 21 = 0) {t f : Nat} (ht : pS R = (t : Int)) (t4 : t < 4) (hf : pFn R t = (f : Int)) (f1 : 1 ≤ f) (hm : MTo R h) (hmm : MMn R h) (h49 : ∀ g : Nat, g < f → h.2 49 (3 * t + g) = pFt R t g) (o : Option mV) :
    ∃ h', B_Md_sortItem_111 43 (f : Int) o h = some h' ∧ Mp h h' ∧ h'.2 43 19 = h.2 43 19 ∧ h'.2 43 21 = 0 ∧ MTo (ru R 0 (pS R + 1)) h' ∧ MMn (ru R 0 (pS R + 1)) h' := by
  obtain ⟨m1, m2, m3, m4, m5⟩ := id hm
  have L1 : LyM L (mw h 43 21 0) := LyM_mw hL rfl
  have L2 : LyM L (mw (mw h 43 21 0) 48 t (f : Int)) := LyM_mw L1 rfl
  have g6 : gfd 6 6 (mw h 43 21 0) 43 = some (t : Int) := by rw [g_43 L1 (by decide), mw_d _ _ (by decide), m1, ht]
  have g6' : gfd 6 6 (mw (mw h 43 21 0) 48 t (f : Int)) 43 = some (t : Int) := by rw [g_43 L2 (by decide), mw_o _ _ _ (by decide), mw_d _ _ (by decide), m1, ht]
  refine ⟨mw (mw (mw h 43 21 0) 48 t (f : Int)) 43 6 ((t + 1 : Nat) : Int), ?_, Mp_tr (Mp_43 h _ (by decide)) (Mp_tr (Mp_r _ _ _ (by decide) (by decide)) (Mp_43 _ _ (by decide))), by rw [mw_d _ _ (by decide), mw_o _ _ _ (by decide), mw_d _ _ (by decide)], by rw [mw_d _ _ (by decide), mw_o _ _ _ (by decide), mw_s], ?_, MMn_c (fun j hj => ru_d _ _ (by omega)) (ru_d _ _ (by decide)) (by rw [mw_d _ _ (by decide), mw_o _ _ _ (by decide), mw_d _ _ (by decide)]) hmm⟩
  · rw [q_Md_sortItem_111, g_43 hL (by decide), Option.bind_some, hw, if_neg (by decide), if_pos (by omega), q_Md_sortItem_128]
    rw [show (bz 0).bind (fun _ => pfd 6 21 h 43 0) = pfd 6 21 h 43 0 from rfl, f_43 hL (by decide), Option.bind_some, g_43 L1 (by decide), Option.bind_some, mw_s, if_neg (by decide), p_43_7 L1, Option.bind_some, g6, Option.bind_some, st48 L1 t4, Option.bind_some, g6', Option.bind_some, w32_nn t (by omega), f_43 L2 (by decide), Option.bind_some]
  · have eS : pS (ru R 0 (pS R + 1)) = ((t + 1 : Nat) : Int) := by show ru R 0 (pS R + 1) 0 = _; rw [ru_s, ht]; omega
    have eo : ∀ j, j ≠ 0 → ru R 0 (pS R + 1) j = R j := fun j hj => ru_d _ _ hj
    refine ⟨by rw [mw_s, eS], by rw [mw_d _ _ (by decide), mw_o _ _ _ (by decide), mw_d _ _ (by decide), m2]; exact (eo 1 (by decide)).symm, fun u hu => ?_, fun l hl => ?_, ?_⟩
    · rw [eS] at hu
      have e48 : ∀ u, (mw (mw (mw h 43 21 0) 48 t (f : Int)) 43 6 ((t + 1 : Nat) : Int)).2 48 u = if u = t then (f : Int) else h.2 48 u := fun u => by rw [mw_o _ _ _ (by decide), mw_at, mw_o _ _ _ (by decide)]
      have e49 : (mw (mw (mw h 43 21 0) 48 t (f : Int)) 43 6 ((t + 1 : Nat) : Int)).2 49 = h.2 49 := by rw [mw_o _ _ _ (by decide), mw_o _ _ _ (by decide), mw_o _ _ _ (by decide)]
      have e1 : pFn (ru R 0 (pS R + 1)) u = pFn R u := eo _ (by omega)
      have e2 : ∀ g, pFt (ru R 0 (pS R + 1)) u g = pFt R u g := fun g => eo _ (by omega)
      rw [e1, e48, e49]
      by_cases q : u = t
      · rw [if_pos q]
        refine ⟨by rw [q]; exact hf.symm, fun g hg => ?_⟩
        rw [e2, q]
        exact h49 g (by rw [q] at hg; omega)
      · obtain ⟨a1, a2⟩ := m3 u (by omega)
        rw [if_neg q]
        exact ⟨a1, fun g hg => by rw [e2]; exact a2 g hg⟩
    · have hl' : (l : Int) < pL R := by have : pL (ru R 0 (pS R + 1)) = pL R := eo 1 (by decide); omega
      obtain ⟨a1, a2⟩ := m4 l hl'
      rw [mw_o _ _ _ (by decide), mw_o _ _ _ (by decide), mw_o _ _ _ (by decide), mw_o _ _ _ (by decide), mw_o _ _ _ (by decide), mw_o _ _ _ (by decide)]
      have e1 : pH (ru R 0 (pS R + 1)) l = pH R l := eo _ (by omega)
      rw [e1]
      exact ⟨a1, fun g hg => by rw [a2 g hg]; exact (eo _ (by omega)).symm⟩
    · rw [mw_o _ _ _ (by decide), mw_o _ _ _ (by decide), mw_o _ _ _ (by decide)]
      exact Sl_cg m5 (fun j hj => eo j (by omega))
/-- an item that went wrong -/
theorem MIt_w {x : Option mH} {h' : mH} {j : Nat} (e : x = some h') (f : Mp h h') (hj : h'.2 43 19 = (j : Int)) (j9 : j ≤ 900) (hw : h'.2 43 21 = 1) : MIt L n T h none x := ⟨h', e, f, j, hj, j9, Or.inl ⟨hw, rfl⟩⟩
theorem m_so69w (hx : Mx L n T h) (hi : h.2 43 19 = (i : Int)) (i9 : i < 800) (x v : Int) : MIt L n T h none (B_Md_sortItem_64 43 x v 43 h) := by
  have hL := hx.1
  have L1 : LyM L (mw h 43 21 1) := LyM_mw hL rfl
  have L2 : LyM L (mw (mw h 43 21 1) 43 19 ((i + 1 : Nat) : Int)) := LyM_mw L1 rfl
  obtain ⟨h', a1, a2, a3, a4⟩ := m_so128w L2 (by rw [mw_d _ _ (by decide), mw_s]) (w32 (x + 1)) (some (.inl v))
  refine MIt_w (j := i + 1) ?_ (Mp_tr (Mp_43 h _ (by decide)) (Mp_tr (Mp_43 _ _ (by decide)) (Mn_p a2))) (a3.trans (mw_s _ _ _ _)) (by omega) a4
  rw [q_Md_sortItem_64, q_Md_sortItem_69]
  rw [show (bz 1).bind (fun _ => pfd 6 21 h 43 1) = pfd 6 21 h 43 1 from rfl, f_43 hL (by decide), Option.bind_some, g_43 L1 (by decide), Option.bind_some, mw_s, if_pos (by decide), q_Md_sortItem_95, g_43 L1 (by decide), Option.bind_some, mw_d _ _ (by decide), hi, w32_nn i (by omega), f_43 L1 (by decide), Option.bind_some, q_Md_sortItem_19, g_43 L2 (by decide), Option.bind_some, mw_d _ _ (by decide), mw_s, if_pos (by decide), a1]
theorem m_so19 {t : Nat} (t4 : t < 4) : ∀ (m f i : Nat) (R : Nat → Int) (o : Option mV) (h : mH), f + m = 3 → i + m < 700 → Mx L n T h → h.2 43 19 = (i : Int) → h.2 43 21 = 0 → pS R = (t : Int) → (∀ u : Nat, u < t → 0 ≤ pFn R u ∧ pFn R u ≤ 3) → pFn R t = (f : Int) → MTo R h → MMn R h → (∀ g : Nat, g < f → h.2 49 (3 * t + g) = pFt R t g) →
    MIt L n T h (srE T n t (srF T n t m i R)) (B_Md_sortItem_19 43 (f : Int) o h) := by
  intro m
  induction m with
  | zero =>
    intro f i R o h e im hx hi hw ht hF hf hm hmm h49
    have hL := hx.1
    have : f = 3 := by omega
    subst this
    have es : srE T n t (srF T n t 0 i R) = iteP (pk T n i = 59) (some (i + 1, ru R 0 (pS R + 1))) none := by
      show iteP (0 < pFn R t ∧ pk T n i = 59) _ _ = _
      exact iteP_c ⟨fun z => z.2, fun z => ⟨by omega, z⟩⟩ _ _
    rw [es, q_Md_sortItem_19, g_43 hL (by decide), Option.bind_some, hw, if_neg (by decide), m_isFig hx hi, Option.bind_some]
    dsimp only
    by_cases q : isFg (pk T n i)
    · have q' := q
      unfold isFg at q'
      rw [b2i_t q, if_neg (by decide), g_43 hL (by decide), Option.bind_some, hi, m_letter hx, Option.bind_some, iteP_f (by omega)]
      dsimp only
      rw [if_pos (by decide)]
      exact m_so69w hx hi (by omega) _ _
    · rw [b2i_f q, if_pos rfl]
      obtain ⟨h', a1, a2, a3, a4, a5, a6⟩ := m_so111 hL hw ht t4 hf (by omega) hm hmm h49 o
      exact ⟨h', a1, a2, i, a3.trans hi, by omega, Or.inr ⟨a4, _, a5, a6, rfl⟩⟩
  | succ m ih =>
    intro f i R o h e im hx hi hw ht hF hf hm hmm h49
    have hL := hx.1
    obtain ⟨m1, m2, m3, m4, m5⟩ := id hm
    rw [q_Md_sortItem_19, g_43 hL (by decide), Option.bind_some, hw, if_neg (by decide), m_isFig hx hi, Option.bind_some]
    dsimp only
    by_cases q : isFg (pk T n i)
    · have q' := q
      unfold isFg at q'
      rw [b2i_t q, if_neg (by decide), g_43 hL (by decide), Option.bind_some, hi, m_letter hx, Option.bind_some]
      dsimp only
      rw [if_neg (by omega), w32_id (x := pk T n i - 48) (by omega) (by omega)]
      by_cases r : pk T n i - 48 ≤ (t : Int)
      · have es : srF T n t (m + 1) i R = srF T n t m (i + 1) (addF R t (pk T n i - 48 + 1)) := by
          show iteP _ _ _ = _
          rw [iteP_t q, iteP_t r]
        rw [es, if_neg (by omega), g_43 hL (by decide), Option.bind_some, m1, ht, if_pos r]
        have L1 : LyM L (mw h 43 21 0) := LyM_mw hL rfl
        have p1 : 3 * t + f < 12 := by omega
        have L2 : LyM L (mw (mw h 43 21 0) 49 (3 * t + f) (pk T n i - 48 + 1)) := LyM_mw L1 rfl
        have fr : Mp h (mw (mw (mw h 43 21 0) 49 (3 * t + f) (pk T n i - 48 + 1)) 43 19 ((i + 1 : Nat) : Int)) := Mp_tr (Mp_43 h _ (by decide)) (Mp_tr (Mp_r _ _ _ (by decide) (by decide)) (Mp_43 _ _ (by decide)))
        have efn : (pFn R t).toNat = f := by rw [hf, tn]
        have ea : ∀ j, (j < 2 + 4 * t ∨ 18 ≤ j) → addF R t (pk T n i - 48 + 1) j = R j := fun j hj => by
          unfold addF
          rw [efn, ru_d _ _ (by omega), ru_d _ _ (by omega)]
        have en : pFn (addF R t (pk T n i - 48 + 1)) t = ((f + 1 : Nat) : Int) := by rw [addF_n, hf]; omega
        have h49' : ∀ g : Nat, g < f + 1 → (mw (mw (mw h 43 21 0) 49 (3 * t + f) (pk T n i - 48 + 1)) 43 19 ((i + 1 : Nat) : Int)).2 49 (3 * t + g) = pFt (addF R t (pk T n i - 48 + 1)) t g := fun g hg => by
          rw [mw_o _ _ _ (by decide), mw_at]
          unfold pFt addF
          rw [efn, ru_d _ _ (by omega)]
          by_cases w : g = f
          · rw [if_pos (by omega), w, ru_s]
          · rw [if_neg (by omega), ru_d _ _ (by omega), mw_o _ _ _ (by decide)]
            exact h49 g (by omega)
        have hm' : MTo (addF R t (pk T n i - 48 + 1)) (mw (mw (mw h 43 21 0) 49 (3 * t + f) (pk T n i - 48 + 1)) 43 19 ((i + 1 : Nat) : Int)) := by
          have eS : pS (addF R t (pk T n i - 48 + 1)) = pS R := ea 0 (by omega)
          have eL : pL (addF R t (pk T n i - 48 + 1)) = pL R := ea 1 (by omega)
          refine ⟨by rw [mw_d _ _ (by decide), mw_o _ _ _ (by decide), mw_d _ _ (by decide), eS]; exact m1, by rw [mw_d _ _ (by decide), mw_o _ _ _ (by decide), mw_d _ _ (by decide), eL]; exact m2, fun u hu => ?_, fun l hl => ?_, ?_⟩
          · rw [eS] at hu
            obtain ⟨a1, a2⟩ := m3 u hu
            have ub := hF u (by omega)
            have e1 : pFn (addF R t (pk T n i - 48 + 1)) u = pFn R u := ea _ (by omega)
            rw [e1, mw_o _ _ _ (by decide), mw_o _ _ _ (by decide), mw_o _ _ _ (by decide), mw_o _ _ _ (by decide)]
            refine ⟨a1, fun g hg => ?_⟩
            rw [mw_d _ _ (by omega), mw_o _ _ _ (by decide), a2 g hg]
            exact (ea _ (by omega)).symm
          · rw [eL] at hl
            obtain ⟨a1, a2⟩ := m4 l hl
            have e1 : pH (addF R t (pk T n i - 48 + 1)) l = pH R l := ea _ (by omega)
            rw [e1, mw_o _ _ _ (by decide), mw_o _ _ _ (by decide), mw_o _ _ _ (by decide), mw_o _ _ _ (by decide), mw_o _ _ _ (by decide), mw_o _ _ _ (by decide)]
            exact ⟨a1, fun g hg => by rw [a2 g hg]; exact (ea _ (by omega)).symm⟩
          · rw [mw_o _ _ _ (by decide), mw_o _ _ _ (by decide), mw_o _ _ _ (by decide)]
            exact Sl_cg m5 (fun j hj => ea j (by omega))
        have z := ih (f + 1) (i + 1) (addF R t (pk T n i - 48 + 1)) (some (.inl (pk T n i - 48))) _ (by omega) (by omega) (Mp_x fr hx) (mw_s _ _ _ _) (by rw [mw_d _ _ (by decide), mw_o _ _ _ (by decide), mw_s]) ((ea 0 (by omega)).trans ht) (fun u hu => by
          have e1 : pFn (addF R t (pk T n i - 48 + 1)) u = pFn R u := ea _ (by omega)
          rw [e1]; exact hF u hu) en hm' (MMn_c (fun j hj => ea j (by omega)) (ea 1 (by omega)) (by rw [mw_d _ _ (by decide), mw_o _ _ _ (by decide), mw_d _ _ (by decide)]) hmm) h49'
        refine MIt_tr fr ?_
        have g6 : gfd 6 6 (mw h 43 21 0) 43 = some (t : Int) := by rw [g_43 L1 (by decide), mw_d _ _ (by decide), m1, ht]
        rw [q_Md_sortItem_69]
        rw [show (bz 0).bind (fun _ => pfd 6 21 h 43 0) = pfd 6 21 h 43 0 from rfl, f_43 hL (by decide), Option.bind_some, g_43 L1 (by decide), Option.bind_some, mw_s, if_neg (by decide), p_43_8 L1, Option.bind_some, g6, Option.bind_some, ix5 t4 (by omega), w32_id (x := pk T n i - 48 + 1) (by omega) (by omega), st49 L1 p1, Option.bind_some, q_Md_sortItem_95, g_43 L2 (by decide), Option.bind_some, mw_o _ _ _ (by decide), mw_d _ _ (by decide), hi, w32_nn i (by omega), f_43 L2 (by decide), Option.bind_some, w32_nn f (by omega)]
        exact z
      · have es : srF T n t (m + 1) i R = none := by
          show iteP _ _ _ = _
          rw [iteP_t q, iteP_f r]
        rw [es]
        show MIt L n T h none _
        by_cases s : 3 < pk T n i - 48
        · rw [if_pos s]
          exact m_so69w hx hi (by omega) _ _
        · rw [if_neg s, g_43 hL (by decide), Option.bind_some, m1, ht, if_neg r]
          exact m_so69w hx hi (by omega) _ _
    · have es : srF T n t (m + 1) i R = some (i, R) := by
        show iteP _ _ _ = _
        rw [iteP_f q]
      rw [es, b2i_f q, if_pos rfl]
      by_cases f0 : f = 0
      · subst f0
        have e2 : srE T n t (some (i, R)) = none := by
          show iteP (0 < pFn R t ∧ pk T n i = 59) _ _ = _
          rw [iteP_f (fun z => by have := z.1; omega)]
        obtain ⟨h', a1, a2, a3, a4⟩ := m_so0w hL hw o
        rw [e2]
        exact MIt_w a1 (Mn_p a2) (a3.trans hi) (by omega) a4
      · have e2 : srE T n t (some (i, R)) = iteP (pk T n i = 59) (some (i + 1, ru R 0 (pS R + 1))) none := by
          show iteP (0 < pFn R t ∧ pk T n i = 59) _ _ = _
          exact iteP_c ⟨fun z => z.2, fun z => ⟨by omega, z⟩⟩ _ _
        obtain ⟨h', a1, a2, a3, a4, a5, a6⟩ := m_so111 hL hw ht t4 hf (by omega) hm hmm h49 o
        rw [e2]
        exact ⟨h', a1, a2, i, a3.trans hi, by omega, Or.inr ⟨a4, _, a5, a6, rfl⟩⟩
theorem m_sortItem (hx : Mx L n T h) (hi : h.2 43 19 = (i : Int)) (i9 : i < 600) (hp : PV Q) (hm : MTo Q h) (hmm : MMn Q h) : MIt L n T h (sortI T n i Q) (F_Md_sortItem 43 h) := by
  have hL := hx.1
  obtain ⟨p1, p2, p3, p4, -⟩ := hp
  obtain ⟨t, ht⟩ := n_of p1.1
  unfold sortI
  rw [q_Md_sortItem _ _ (o_43 hL), g_43 hL (by decide), Option.bind_some, hm.1, ht, tn]
  by_cases q : (t : Int) < 4
  · have f1 : Mn h (mw h 43 21 0) := Mn_43 h _ (Or.inr rfl)
    rw [if_pos (by omega), iteP_t q, q_Md_sortItem_14]
    rw [show (bz 0).bind (fun _ => pfd 6 21 h 43 0) = pfd 6 21 h 43 0 from rfl, f_43 hL (by decide), Option.bind_some]
    refine MIt_tr (Mn_p f1) ?_
    exact m_so19 (t := t) (by omega) 3 0 i Q none (mw h 43 21 0) (by decide) (by omega) (Mp_x (Mn_p f1) hx) (by rw [mw_d _ _ (by decide)]; exact hi) (mw_s _ _ _ _) ht (fun u hu => by have := (p4 u (by omega)).1; omega) (p3 t (by omega) (by omega)) (MTo_n f1 hm) (MMn_c (fun j hj => rfl) rfl (by rw [mw_d _ _ (by decide)]) hmm) (fun g hg => by omega)
  · have L1 : LyM L (mw h 43 21 1) := LyM_mw hL rfl
    obtain ⟨h', a1, a2, a3, a4⟩ := m_so128w L1 (mw_s _ _ _ _) 0 none
    rw [if_neg (by omega), iteP_f q, q_Md_sortItem_14]
    rw [show (bz 1).bind (fun _ => pfd 6 21 h 43 1) = pfd 6 21 h 43 1 from rfl, f_43 hL (by decide), Option.bind_some, q_Md_sortItem_19, g_43 L1 (by decide), Option.bind_some, mw_s, if_pos (by decide)]
    exact MIt_w a1 (Mp_tr (Mp_43 h _ (by decide)) (Mn_p a2)) (a3.trans (by rw [mw_d _ _ (by decide)]; exact hi)) (by omega) a4
end Mp
