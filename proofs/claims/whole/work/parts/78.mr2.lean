/-! THE MODEL'S MACHINE: one step -/
theorem ix4t {t f : Nat} (ht : t < 12) (hf : f < 3) : w32 ((w32 (4 * (t : Int))) + (f : Int)) = ((4 * t + f : Nat) : Int) := by
  rw [w32_id (x := 4 * (t : Int)) (by omega) (by omega), w32_id (by omega) (by omega)]
  omega
theorem w32_t {t : Nat} (ht : t < 12) : w32 (20000 + (t : Int) - 20000) = (t : Int) := by
  rw [w32_id (by omega) (by omega)]
  omega
theorem w32_4n {n : Nat} (hn : n ≤ 12) : w32 (4 + ((n : Int) - 4)) = (n : Int) := by
  rw [w32_id (by omega) (by omega)]
  omega
section Mr
variable {L : Nat} {P : Nat → Int} {h : mH} {s : mSt}
theorem MkM_b {r : Option mH} {x : Int × mSt} (m : MkM h P r x) : MkM h P (r.bind fun h' => some h') x := by
  obtain ⟨h', a1, a2⟩ := m
  rw [a1, Option.bind_some]
  exact ⟨h', rfl, a2⟩
theorem m_adds (hL : LyM L h) (hr : MRn h P s) (hv : VM P s) (hp : sP s < 100) (h0 : h.2 43 36 = 0) {x y : Nat} (hx : x < 4) (hy : y < 4) : MkM h P (F_Md_adds 43 (x : Int) (y : Int) h) (iteP (isW (sR s x) ∧ isW (sR s y)) (0, sSet s x ((sR s x + sR s y) % 10000)) (2, s)) := by
  have vx := hv.2.2.1 x hx
  have vy := hv.2.2.1 y hy
  rw [q_Md_adds _ _ _ _ (o_43 hL), p_43_28 hL, Option.bind_some, ld57 hL hx, Option.bind_some, hr.1 x hx, m_isWord vx, Option.bind_some]
  dsimp only
  by_cases a : isW (sR s x)
  · rw [b2i_t a, if_neg (by decide), p_43_28 hL, Option.bind_some, ld57 hL hy, Option.bind_some, hr.1 y hy, m_isWord vy, Option.bind_some]
    dsimp only
    by_cases b : isW (sR s y)
    · have a' := a
      have b' := b
      unfold isW at a' b'
      have ea : up (sR s x) = sR s x := up_id (by omega)
      have eb : up (sR s y) = sR s y := up_id (by omega)
      have e1 : Int.tmod (w32 (up (sR s x) + up (sR s y))) 10000 = up ((sR s x + sR s y) % 10000) := by
        rw [ea, eb, w32_id (by omega) (by omega), up_id (by omega), Int.tmod_eq_emod_of_nonneg (by omega)]
      rw [b2i_t b, if_pos (by decide), iteP_t ⟨a, b⟩, p_43_28 hL, Option.bind_some, ld57 hL hx, Option.bind_some, hr.1 x hx, Option.bind_some, ld57 hL hy, Option.bind_some, hr.1 y hy]
      exact MkM_b (m_lands hL hr hp h0 hx _ e1)
    · rw [b2i_f b, if_neg (by decide), iteP_f (fun z => b z.2), q_Md_adds_24]
      exact m_how hL hr 2
  · rw [b2i_f a, if_pos rfl, iteP_f (fun z => a z.1), q_Md_adds_24]
    exact m_how hL hr 2
theorem m_parts (hL : LyM L h) (hr : MRn h P s) (hv : VM P s) (hp : sP s < 100) (h0 : h.2 43 36 = 0) {x : Nat} (hx : x < 4) (y : Nat) : MkM h P (F_Md_parts 43 (x : Int) (y : Int) h) (iteP (isW (sR s x)) (iteP (sR s x = 0) (0, sNx s) (0, sGo s y)) (2, s)) := by
  have vx := hv.2.2.1 x hx
  rw [q_Md_parts _ _ _ _ (o_43 hL), p_43_28 hL, Option.bind_some, ld57 hL hx, Option.bind_some, hr.1 x hx, m_isWord vx, Option.bind_some]
  dsimp only
  by_cases a : isW (sR s x)
  · have a' := a
    unfold isW at a'
    have ea : up (sR s x) = sR s x := up_id (by omega)
    rw [b2i_t a, if_pos (by decide), iteP_t a, p_43_28 hL, Option.bind_some, ld57 hL hx, Option.bind_some, hr.1 x hx, ea]
    by_cases b : sR s x = 0
    · rw [if_pos b, iteP_t b]
      exact m_pc1 hL hr hp h0
    · rw [if_neg b, iteP_f b]
      exact MkM_b (m_goesTo hL hr h0 y)
  · rw [b2i_f a, if_neg (by decide), iteP_f a]
    exact m_how hL hr 2
theorem m_backs (hL : LyM L h) (hr : MRn h P s) (hV : Val P) (hv : VM P s) (h0 : h.2 43 36 = 0) {x : Nat} (hx : x < 4) : MkM h P (F_Md_backs 43 (x : Int) h) (iteP (isB (sR s x)) (0, sGo s (sR s x - 10000).toNat) (2, s)) := by
  have vx := hv.2.2.1 x hx
  have ub := up_b hV hv.1.2 vx
  rw [q_Md_backs _ _ _ (o_43 hL), p_43_28 hL, Option.bind_some, ld57 hL hx, Option.bind_some, hr.1 x hx]
  by_cases a : isB (sR s x)
  · have a' := a
    unfold isB at a'
    obtain ⟨m, hm⟩ := n_of (show 0 ≤ sR s x - 10000 by omega)
    have e1 : w32 (up (sR s x) - 30000) = (m : Int) := by
      unfold up
      rw [if_pos a', w32_id (by omega) (by omega)]
      omega
    rw [if_pos (ub.mpr a), iteP_t a, Option.bind_some, ld57 hL hx, Option.bind_some, hr.1 x hx, e1, hm, tn]
    exact MkM_b (m_goesTo hL hr h0 m)
  · rw [if_neg (fun z => a (ub.mp z)), iteP_f a]
    exact m_how hL hr 2
theorem m_piles (hL : LyM L h) (hr : MRn h P s) (hv : VM P s) (hp : sP s < 100) (h0 : h.2 43 36 = 0) {x : Nat} (hx : x < 4) : MkM h P (F_Md_piles 43 (x : Int) h) (iteP ((sK s).length < 16) (0, sNx (sR s, sR s x :: sK s, sH s, sO s, sN s, sA s, sP s)) (3, s)) := by
  obtain ⟨r1, r2, r3, r4, r5, r6, r7⟩ := id hr
  have k16 := hv.2.2.2.1.1
  rw [q_Md_piles _ _ _ (o_43 hL), g_43 hL (by decide), Option.bind_some, r2]
  by_cases q : (sK s).length < 16
  · have q6 : ((sK s).length : Int) ≠ 16 := by omega
    have L1 : LyM L (mw h 60 (sK s).length (up (sR s x))) := LyM_mw hL rfl
    have L2 : LyM L (mw (mw h 60 (sK s).length (up (sR s x))) 43 32 (((sK s).length + 1 : Nat) : Int)) := LyM_mw L1 rfl
    have g1 : gfd 6 32 (mw h 60 (sK s).length (up (sR s x))) 43 = some ((sK s).length : Int) := by rw [g_43 L1 (by decide), mw_o _ _ _ (by decide), r2]
    have hr2 : MRn (mw (mw h 60 (sK s).length (up (sR s x))) 43 32 (((sK s).length + 1 : Nat) : Int)) P (sR s, sR s x :: sK s, sH s, sO s, sN s, sA s, sP s) := by
      refine ⟨by rw [mw_o _ _ _ (by decide), mw_o _ _ _ (by decide)]; exact r1, by rw [mw_s]; rfl, fun i hi => ?_, by rw [mw_d _ _ (by decide), mw_o _ _ _ (by decide)]; exact r4, by rw [mw_d _ _ (by decide), mw_o _ _ _ (by decide)]; exact r5, by rw [mw_d _ _ (by decide), mw_o _ _ _ (by decide)]; exact r6, by rw [mw_o _ _ _ (by decide), mw_o _ _ _ (by decide), mw_o _ _ _ (by decide), mw_o _ _ _ (by decide)]; exact r7⟩
      have hi' : i < (sK s).length + 1 := hi
      show (mw (mw h 60 (sK s).length (up (sR s x))) 43 32 (((sK s).length + 1 : Nat) : Int)).2 60 ((sK s).length + 1 - 1 - i) = up ((sR s x :: sK s).getD i 0)
      rw [mw_o _ _ _ (by decide), mw_at]
      match i, hi' with
      | 0, _ => rw [if_pos (by omega)]; rfl
      | i + 1, hi' =>
        rw [if_neg (by omega), show (sK s).length + 1 - 1 - (i + 1) = (sK s).length - 1 - i by omega, r3 i (by omega)]
        rfl
    obtain ⟨h', z1, z2, z3, z4⟩ := m_pc1 L2 hr2 hp (by rw [mw_d _ _ (by decide), mw_o _ _ _ (by decide)]; exact h0)
    rw [if_pos q6, iteP_t q, p_43_31 hL, Option.bind_some, Option.bind_some, p_43_28 hL, Option.bind_some, ld57 hL hx, Option.bind_some, r1 x hx, st60 hL q, Option.bind_some, g1, Option.bind_some, w32_nn _ (by omega), f_43 L1 (by decide), Option.bind_some, z1]
    exact ⟨h', rfl, Mr_tr (Mr_r h _ _ (by decide) (by decide)) (Mr_tr (Mr_43 _ _ (by decide) (by decide)) z2), z3, z4⟩
  · have q6 : ((sK s).length : Int) = 16 := by omega
    rw [if_neg (Decidable.not_not.mpr q6), iteP_f q]
    exact m_how hL hr 3
theorem m_unpiles (hL : LyM L h) (hr : MRn h P s) (hv : VM P s) (hp : sP s < 100) (h0 : h.2 43 36 = 0) {x : Nat} (hx : x < 4) : MkM h P (F_Md_unpiles 43 (x : Int) h) (iteP (sK s = []) (2, s) (0, sSet (sR s, (sK s).tail, sH s, sO s, sN s, sA s, sP s) x ((sK s).headD 0))) := by
  obtain ⟨r1, r2, r3, r4, r5, r6, r7⟩ := id hr
  have k16 := hv.2.2.2.1.1
  rw [q_Md_unpiles _ _ _ (o_43 hL), g_43 hL (by decide), Option.bind_some, r2]
  by_cases q : sK s = []
  · rw [iteP_t q, q, if_neg (by simp)]
    exact m_how hL hr 2
  · obtain ⟨v, r, hk⟩ : ∃ v r, sK s = v :: r := by
      cases hk : sK s with
      | nil => exact absurd hk q
      | cons v r => exact ⟨v, r, rfl⟩
    rw [iteP_f q]
    rw [hk, List.length_cons] at r2 r3 k16
    rw [hk, List.length_cons]
    have L1 : LyM L (mw h 43 32 (r.length : Int)) := LyM_mw hL rfl
    have q8 : r.length < 16 := by omega
    have c0 := r3 0 (by omega)
    rw [show r.length + 1 - 1 - 0 = r.length by omega] at c0
    have hr2 : MRn (mw h 43 32 (r.length : Int)) P (sR s, r, sH s, sO s, sN s, sA s, sP s) := by
      refine ⟨by rw [mw_o _ _ _ (by decide)]; exact r1, by rw [mw_s], fun i hi => ?_, by rw [mw_d _ _ (by decide)]; exact r4, by rw [mw_d _ _ (by decide)]; exact r5, by rw [mw_d _ _ (by decide)]; exact r6, by rw [mw_o _ _ _ (by decide), mw_o _ _ _ (by decide)]; exact r7⟩
      have hi' : i < r.length := hi
      show (mw h 43 32 (r.length : Int)).2 60 (r.length - 1 - i) = up (r.getD i 0)
      have := r3 (i + 1) (by omega)
      rw [show r.length + 1 - 1 - (i + 1) = r.length - 1 - i by omega] at this
      rw [mw_o _ _ _ (by decide), this]
      rfl
    obtain ⟨h', z1, z2, z3, z4⟩ := m_lands L1 hr2 hp (by rw [mw_d _ _ (by decide)]; exact h0) hx v c0
    rw [if_pos (by omega), Option.bind_some, w32_pp _ (by omega), f_43 hL (by decide), Option.bind_some, p_43_31 L1, Option.bind_some, g_43 L1 (by decide), Option.bind_some, mw_s, ld60 L1 q8, Option.bind_some, mw_o _ _ _ (by decide), z1, Option.bind_some]
    exact ⟨h', rfl, Mr_tr (Mr_43 h _ (by decide) (by decide)) z2, z3, z4⟩
/-- what a tuple is, in the model -/
theorem m_heap {n : Nat} {v : Int} (hV : Val P) (hn : n ≤ 12) (hv : vv P n v) : (20000 ≤ up v ∧ up v ≤ 29999 ↔ 20000 ≤ v) ∧ (20000 ≤ v → ∃ t : Nat, v = 20000 + t ∧ up v = 20000 + t ∧ t < 12 ∧ ((t : Int) < pS P ∨ (4 ≤ t ∧ t < n))) := by
  have h4L := hV.2.1
  have h4S := hV.1
  rcases hv with z | ⟨l, z1, z2⟩ | ⟨t, z1, z2⟩
  · unfold isW at z
    rw [up_id (by omega)]
    exact ⟨by omega, fun w => by omega⟩
  · rw [z2, up_l (by omega)]
    exact ⟨by omega, fun w => by omega⟩
  · rw [up_id (by omega)]
    exact ⟨by omega, fun _ => ⟨t, z1, z1, by omega, z2⟩⟩
theorem m_isHeap (x : Int) (h : mH) : F_Md_isHeap x h = some (b2i (20000 ≤ x ∧ x ≤ 29999), h) := by
  rw [q_Md_isHeap, c_in, Option.bind_some]
  dsimp only
  rw [rz_b]
theorem isF_iff {v : Int} {f t o : Nat} (e : v = 20000 + t) (ht : t < 12) (ho : sO s t = o) : isF P s v f ↔ (f : Int) < pFn P o := by
  unfold isF
  rw [show (v - 20000).toNat = t by omega, ho, tn]
  constructor
  · intro z; exact z.2.2
  · intro z; exact ⟨by omega, by omega, z⟩
theorem m_stores (hk : MK L 0 P h) (hr : MRn h P s) (hV : Val P) (hv : VM P s) (hp : sP s < 100) (h0 : h.2 43 36 = 0) {x y z : Nat} (hx : x < 4) (hy : y < 3) (hz : z < 4) : MkM h P (F_Md_stores 43 (x : Int) (y : Int) (z : Int) h) (iteP (isF P s (sR s x) y) (0, sNx (sR s, sK s, ru (sH s) (sCell (sR s x) y) (sR s z), sO s, sN s, sA s, sP s)) (2, s)) := by
  obtain ⟨hL, hS, hs, -⟩ := id hk
  obtain ⟨r1, r2, r3, r4, r5, r6, r7⟩ := id hr
  have v1 := hV.1
  have vx := hv.2.2.1 x hx
  obtain ⟨u1, u2⟩ := m_heap hV hv.1.2 vx
  rw [q_Md_stores _ _ _ _ _ (o_43 hL), p_43_28 hL, Option.bind_some, ld57 hL hx, Option.bind_some, r1 x hx, Option.bind_some, ld57 hL hx, Option.bind_some, r1 x hx, m_isHeap, Option.bind_some]
  dsimp only
  by_cases q : 20000 ≤ sR s x
  · obtain ⟨t, e1, e2, t12, tt⟩ := u2 q
    obtain ⟨o1, o2⟩ := r7 t tt
    obtain ⟨⟨w1, w2⟩, w3⟩ := hv.2.2.2.2 t tt
    obtain ⟨o, ho⟩ := n_of w1
    rw [ho, tn] at o2 w3
    have o4 : o < 4 := by omega
    have oS : (o : Int) < pS P := by omega
    have hf := isF_iff (P := P) (s := s) (f := y) e1 t12 ho
    rw [b2i_t (u1.mpr q), if_neg (by decide), e2, w32_t t12, p_43_1 hL, Option.bind_some, p_43_30 hL, Option.bind_some, ld59 hL t12, Option.bind_some, o1, ho, ld44 hL o4, Option.bind_some, (hS.2.2.1 o oS).1]
    by_cases r : (y : Int) < pFn P o
    · have p1 : 4 * t + y < 48 := by omega
      have L1 : LyM L (mw h 58 (4 * t + y) (up (sR s z))) := LyM_mw hL rfl
      have ec : sCell (sR s x) y = 3 * t + y := by unfold sCell; rw [show (sR s x - 20000).toNat = t by omega]
      have hr2 : MRn (mw h 58 (4 * t + y) (up (sR s z))) P (sR s, sK s, ru (sH s) (sCell (sR s x) y) (sR s z), sO s, sN s, sA s, sP s) := by
        refine ⟨by rw [mw_o _ _ _ (by decide)]; exact r1, by rw [mw_o _ _ _ (by decide)]; exact r2, by rw [mw_o _ _ _ (by decide)]; exact r3, by rw [mw_o _ _ _ (by decide)]; exact r4, by rw [mw_o _ _ _ (by decide)]; exact r5, by rw [mw_o _ _ _ (by decide)]; exact r6, fun t' ht' => ?_⟩
        obtain ⟨b1, b2⟩ := r7 t' ht'
        obtain ⟨⟨c1, c2⟩, -⟩ := hv.2.2.2.2 t' ht'
        refine ⟨by rw [mw_o _ _ _ (by decide)]; exact b1, fun f hf' => ?_⟩
        have hf2 : (f : Int) < pFn P (sO s t').toNat := hf'
        obtain ⟨o', ho'⟩ := n_of c1
        have hf3 := hf2
        rw [ho', tn] at hf3
        have := (hV.2.2.2.1 o' (by omega)).1
        show _ = up (ru (sH s) (sCell (sR s x) y) (sR s z) (3 * t' + f))
        rw [ec]
        by_cases w : t' = t ∧ f = y
        · rw [w.1, w.2, mw_s, ru_s]
        · rw [mw_d _ _ (by omega), ru_d _ _ (by omega)]
          exact b2 f hf2
      obtain ⟨h', z1, z2, z3, z4⟩ := m_pc1 L1 hr2 hp (by rw [mw_o _ _ _ (by decide)]; exact h0)
      rw [if_pos r, iteP_t (hf.mpr r), p_43_29 hL, Option.bind_some, p_43_28 hL, Option.bind_some, ld57 hL hz, Option.bind_some, r1 z hz, ix4t t12 hy, st58 hL p1, Option.bind_some, z1]
      exact ⟨h', rfl, Mr_tr (Mr_r h _ _ (by decide) (by decide)) z2, z3, z4⟩
    · rw [if_neg r, iteP_f (fun w => r (hf.mp w)), q_Md_stores_40]
      exact m_how hL hr 2
  · rw [b2i_f (fun w => q (u1.mp w)), if_pos rfl, iteP_f (fun w => q w.1), q_Md_stores_40]
    exact m_how hL hr 2
theorem m_loads (hk : MK L 0 P h) (hr : MRn h P s) (hV : Val P) (hv : VM P s) (hp : sP s < 100) (h0 : h.2 43 36 = 0) {x y z : Nat} (hx : x < 4) (hy : y < 4) (hz : z < 3) : MkM h P (F_Md_loads 43 (x : Int) (y : Int) (z : Int) h) (iteP (isF P s (sR s y) z ∧ sH s (sCell (sR s y) z) ≠ -1) (0, sSet s x (sH s (sCell (sR s y) z))) (2, s)) := by
  obtain ⟨hL, hS, hs, -⟩ := id hk
  obtain ⟨r1, r2, r3, r4, r5, r6, r7⟩ := id hr
  have v1 := hV.1
  have vx := hv.2.2.1 y hy
  obtain ⟨u1, u2⟩ := m_heap hV hv.1.2 vx
  rw [q_Md_loads _ _ _ _ _ (o_43 hL), p_43_28 hL, Option.bind_some, ld57 hL hy, Option.bind_some, r1 y hy, Option.bind_some, ld57 hL hy, Option.bind_some, r1 y hy, m_isHeap, Option.bind_some]
  dsimp only
  by_cases q : 20000 ≤ sR s y
  · obtain ⟨t, e1, e2, t12, tt⟩ := u2 q
    obtain ⟨o1, o2⟩ := r7 t tt
    obtain ⟨⟨w1, w2⟩, w3⟩ := hv.2.2.2.2 t tt
    obtain ⟨o, ho⟩ := n_of w1
    rw [ho, tn] at o2 w3
    have o4 : o < 4 := by omega
    have oS : (o : Int) < pS P := by omega
    have hf := isF_iff (P := P) (s := s) (f := z) e1 t12 ho
    rw [b2i_t (u1.mpr q), if_neg (by decide), e2, w32_t t12, p_43_1 hL, Option.bind_some, p_43_30 hL, Option.bind_some, ld59 hL t12, Option.bind_some, o1, ho, ld44 hL o4, Option.bind_some, (hS.2.2.1 o oS).1]
    by_cases r : (z : Int) < pFn P o
    · have p1 : 4 * t + z < 48 := by omega
      have ec : sCell (sR s y) z = 3 * t + z := by unfold sCell; rw [show (sR s y - 20000).toNat = t by omega]
      rw [if_neg (by omega), p_43_29 hL, Option.bind_some, ix4t t12 hz, ld58 hL p1, Option.bind_some, o2 z r, ec]
      by_cases w : sH s (3 * t + z) = -1
      · rw [w, if_neg (by decide), iteP_f (fun w => w.2 rfl), q_Md_loads_54]
        exact m_how hL hr 2
      · have hvv := (w3 z r).resolve_left w
        rw [if_pos (up_nn hvv), iteP_t ⟨hf.mpr r, w⟩, Option.bind_some, ld58 hL p1, Option.bind_some, o2 z r]
        exact MkM_b (m_lands hL hr hp h0 hx _ rfl)
    · rw [if_pos (by omega), iteP_f (fun w => r (hf.mp w.1)), q_Md_loads_54]
      exact m_how hL hr 2
  · rw [b2i_f (fun w => q (u1.mp w)), if_pos rfl, iteP_f (fun w => q w.1.1), q_Md_loads_54]
    exact m_how hL hr 2
theorem m_makes (hL : LyM L h) (hr : MRn h P s) (hV : Val P) (hv : VM P s) (hp : sP s < 100) (h0 : h.2 43 36 = 0) {x y : Nat} (hx : x < 4) (hy : (y : Int) < pS P) : MkM h P (F_Md_makes 43 (x : Int) (y : Int) h) (iteP (sN s < 12) (0, sSet (sNew s y) x (20000 + sN s)) (3, s)) := by
  obtain ⟨r1, r2, r3, r4, r5, r6, r7⟩ := id hr
  have v1 := hV.1
  have n12 := hv.1
  rw [q_Md_makes _ _ _ _ (o_43 hL), g_43 hL (by decide), Option.bind_some, r4]
  by_cases q : sN s < 12
  · have q6 : (sN s : Int) - 4 ≠ 8 := by omega
    have L1 : LyM L (mw h 59 (sN s) (y : Int)) := LyM_mw hL rfl
    have L2 : ∀ v, LyM L (mw (mw h 59 (sN s) (y : Int)) 58 (4 * sN s + 0) v) := fun v => LyM_mw L1 rfl
    have L3 : ∀ v w, LyM L (mw (mw (mw h 59 (sN s) (y : Int)) 58 (4 * sN s + 0) v) 58 (4 * sN s + 1) w) := fun v w => LyM_mw (L2 v) rfl
    have L4 : ∀ v w u, LyM L (mw (mw (mw (mw h 59 (sN s) (y : Int)) 58 (4 * sN s + 0) v) 58 (4 * sN s + 1) w) 58 (4 * sN s + 2) u) := fun v w u => LyM_mw (L3 v w) rfl
    generalize hg : mw (mw (mw (mw h 59 (sN s) (y : Int)) 58 (4 * sN s + 0) (-1)) 58 (4 * sN s + 1) (-1)) 58 (4 * sN s + 2) (-1) = g
    have Lg : LyM L g := by rw [← hg]; exact L4 _ _ _
    have fg : Mr h g := by
      rw [← hg]
      exact Mr_tr (Mr_r h _ _ (by decide) (by decide)) (Mr_tr (Mr_r _ _ _ (by decide) (by decide)) (Mr_tr (Mr_r _ _ _ (by decide) (by decide)) (Mr_r _ _ _ (by decide) (by decide))))
    have g43 : g.2 43 = h.2 43 := by rw [← hg, mw_o _ _ _ (by decide), mw_o _ _ _ (by decide), mw_o _ _ _ (by decide), mw_o _ _ _ (by decide)]
    have g57 : g.2 57 = h.2 57 := by rw [← hg, mw_o _ _ _ (by decide), mw_o _ _ _ (by decide), mw_o _ _ _ (by decide), mw_o _ _ _ (by decide)]
    have g60 : g.2 60 = h.2 60 := by rw [← hg, mw_o _ _ _ (by decide), mw_o _ _ _ (by decide), mw_o _ _ _ (by decide), mw_o _ _ _ (by decide)]
    have g59 : ∀ t, g.2 59 t = if t = sN s then (y : Int) else h.2 59 t := fun t => by rw [← hg, mw_o _ _ _ (by decide), mw_o _ _ _ (by decide), mw_o _ _ _ (by decide), mw_at]
    have g58a : ∀ f, f < 3 → g.2 58 (4 * sN s + f) = -1 := fun f hf => by
      have : f = 0 ∨ f = 1 ∨ f = 2 := by omega
      rw [← hg]
      rcases this with e | e | e <;> subst e
      · rw [mw_d _ _ (by omega), mw_d _ _ (by omega), mw_s]
      · rw [mw_d _ _ (by omega), mw_s]
      · rw [mw_s]
    have g58b : ∀ j, (j < 4 * sN s ∨ 4 * sN s + 3 ≤ j) → g.2 58 j = h.2 58 j := fun j hj => by
      rw [← hg, mw_d _ _ (by omega), mw_d _ _ (by omega), mw_d _ _ (by omega), mw_o _ _ _ (by decide)]
    have Lh : LyM L (mw g 43 33 ((sN s + 1 : Nat) - 4 : Int)) := LyM_mw Lg rfl
    have hr2 : MRn (mw g 43 33 ((sN s + 1 : Nat) - 4 : Int)) P (sNew s y) := by
      refine ⟨by rw [mw_o _ _ _ (by decide), g57]; exact r1, by rw [mw_d _ _ (by decide), g43]; exact r2, by rw [mw_o _ _ _ (by decide), g60]; exact r3, by rw [mw_s]; rfl, by rw [mw_d _ _ (by decide), g43]; exact r5, by rw [mw_d _ _ (by decide), g43]; exact r6, fun t ht => ?_⟩
      have ht' : (t : Int) < pS P ∨ (4 ≤ t ∧ t < sN s + 1) := ht
      show _ = ru (sO s) (sN s) y t ∧ ∀ f : Nat, (f : Int) < pFn P (ru (sO s) (sN s) y t).toNat → _ = up (ru (ru (ru (sH s) (3 * sN s) (-1)) (3 * sN s + 1) (-1)) (3 * sN s + 2) (-1) (3 * t + f))
      rw [mw_o _ _ _ (by decide), mw_o _ _ _ (by decide), g59]
      by_cases e : t = sN s
      · rw [if_pos e, e, ru_s]
        refine ⟨rfl, fun f hf => ?_⟩
        rw [tn] at hf
        have := (hV.2.2.2.1 y hy).1
        have f3 : f = 0 ∨ f = 1 ∨ f = 2 := by omega
        rw [g58a f (by omega)]
        rcases f3 with z | z | z <;> subst z
        · rw [ru_d _ _ (by omega), ru_d _ _ (by omega), Nat.add_zero, ru_s]; rfl
        · rw [ru_d _ _ (by omega), ru_s]; rfl
        · rw [ru_s]; rfl
      · have ht2 : (t : Int) < pS P ∨ (4 ≤ t ∧ t < sN s) := by omega
        obtain ⟨b1, b2⟩ := r7 t ht2
        obtain ⟨⟨c1, c2⟩, -⟩ := hv.2.2.2.2 t ht2
        rw [if_neg e, ru_d _ _ e]
        refine ⟨b1, fun f hf => ?_⟩
        obtain ⟨o', ho'⟩ := n_of c1
        have hf3 := hf
        rw [ho', tn] at hf3
        have := (hV.2.2.2.1 o' (by omega)).1
        rw [g58b _ (by omega), ru_d _ _ (by omega), ru_d _ _ (by omega), ru_d _ _ (by omega)]
        exact b2 f hf
    have eu : (20000 + (sN s : Int)) = up (20000 + (sN s : Int)) := (up_id (by omega)).symm
    obtain ⟨h', z1, z2, z3, z4⟩ := m_lands Lh hr2 hp (by rw [mw_d _ _ (by decide), g43]; exact h0) hx (20000 + (sN s : Int)) eu
    have g33 : gfd 6 33 g 43 = some ((sN s : Int) - 4) := by rw [g_43 Lg (by decide), g43, r4]
    have e33 : w32 ((sN s : Int) - 4 + 1) = ((sN s + 1 : Nat) - 4 : Int) := by rw [w32_id (by omega) (by omega)]; omega
    have e0 : w32 ((w32 (4 * (sN s : Int))) + 0) = ((4 * sN s + 0 : Nat) : Int) := ix4t (f := 0) q (by decide)
    have e1 : w32 ((w32 (4 * (sN s : Int))) + 1) = ((4 * sN s + 1 : Nat) : Int) := ix4t (f := 1) q (by decide)
    have e2 : w32 ((w32 (4 * (sN s : Int))) + 2) = ((4 * sN s + 2 : Nat) : Int) := ix4t (f := 2) q (by decide)
    have p0 : 4 * sN s + 0 < 48 := by clear e33 e0 e1 e2; omega
    have p1 : 4 * sN s + 1 < 48 := by clear e33 e0 e1 e2; omega
    have p2 : 4 * sN s + 2 < 48 := by clear e33 e0 e1 e2; omega
    have q1 : w32 (0 + 1) = 1 := by decide
    have q2 : w32 (1 + 1) = 2 := by decide
    have q3 : w32 (2 + 1) = 3 := by decide
    rw [if_pos q6, iteP_t q, Option.bind_some, p_43_30 hL, Option.bind_some, w32_4n n12.2, st59 hL q, Option.bind_some]
    rw [q_Md_makes_32, if_neg (by decide), p_43_29 L1, Option.bind_some, e0, st58 L1 p0, Option.bind_some, q1]
    rw [q_Md_makes_32, if_neg (by decide), p_43_29 (L2 _), Option.bind_some, e1, st58 (L2 _) p1, Option.bind_some, q2]
    rw [q_Md_makes_32, if_neg (by decide), p_43_29 (L3 _ _), Option.bind_some, e2, st58 (L3 _ _) p2, Option.bind_some, q3, hg]
    rw [q_Md_makes_32, if_pos (by decide), g33, Option.bind_some, e33, f_43 Lg (by decide), Option.bind_some, w32_20 (by clear e33 e0 e1 e2; omega), z1, Option.bind_some]
    exact ⟨h', rfl, Mr_tr fg (Mr_tr (Mr_43 g _ (by decide) (by decide)) z2), z3, z4⟩
  · have q6 : (sN s : Int) - 4 = 8 := by omega
    rw [if_neg (Decidable.not_not.mpr q6), iteP_f q]
    exact m_how hL hr 3
end Mr
