/-! THE MODEL: one instruction is checked -/
theorem has8 : ∀ s : Fin 8, ∀ f : Fin 3, (iand (ishr (s.val : Int) (f.val : Int)) 1 = 1 ↔ iand (ishr (s.val : Int) (f.val : Int)) 1 ≠ 0) := by decide +kernel
theorem w32_tp {t : Nat} {s : Int} (ht : t < 4) (h0 : 0 ≤ s) (h1 : s < 8) : w32 ((w32 (10 + (w32 (8 * (t : Int))))) + s) = 10 + 8 * t + s := by
  rw [w32_id (x := 8 * (t : Int)) (by omega) (by omega), w32_id (x := 10 + 8 * (t : Int)) (by omega) (by omega), w32_id (by omega) (by omega)]
theorem w32_2 {t : Nat} (ht : t < 100) : w32 (2 + (t : Int)) = 2 + t := w32_id (by omega) (by omega)
theorem w32_6 {t : Nat} (ht : t < 100) : w32 (6 + (t : Int)) = 6 + t := w32_id (by omega) (by omega)
theorem w32_t8 {t : Nat} (ht : t < 100) : w32 (10 + (w32 (8 * (t : Int)))) = 10 + 8 * t := by
  rw [w32_id (x := 8 * (t : Int)) (by omega) (by omega), w32_id (by omega) (by omega)]
section Mk
variable {L b : Nat} {Q rg : Nat → Int} {sk : List Int} {op : Int} {h : mH}
/-- what one instruction leaves -/
def MkS (h : mH) (op : Int) (r : Option (Int × mH)) (s : Int × (Nat → Int) × List Int) : Prop := ∃ h', r = some (s.1, h') ∧ Ms h h' ∧ MkR h' s.2.1 s.2.2 op
theorem tyV_f (hv : Val Q) {t f : Nat} (ht : (t : Int) < pS Q) (hf : (f : Int) < pFn Q t) : tyV Q (pFt Q t f) := by
  have v1 := hv.1
  have := (hv.2.2.2.1 t ht).2 f hf
  refine Or.inl ?_
  unfold tyOk
  omega
theorem m_puts (hk : MK L b Q h) (hv : Val Q) (hr : MkR h rg sk op) (hrv : ∀ r, r < 4 → tyV Q (rg r)) {x y z : Nat} (hx : x < 4) (hy : y < 3) (hz : z < 4) : MkS h op (F_Md_puts 43 (b : Int) (x : Int) (y : Int) (z : Int) h) (putS Q rg sk x y z) := by
  obtain ⟨hL, hS, hs, hb⟩ := id hk
  unfold putS
  rw [q_Md_puts _ _ _ _ _ _ (o_43 hL), p_43_22 hL, Option.bind_some, ld55 hL hx, Option.bind_some, hr.1 x hx, m_isTuple, Option.bind_some]
  dsimp only
  by_cases h1 : tupT (rg x)
  · obtain ⟨t, e1, e2, e3⟩ := sortS_lt hv (hrv x hx) h1
    rw [b2i_t h1, if_pos (by decide), iteP_t h1, m_sortOf (tyV_c hv (hrv x hx)), Option.bind_some]
    dsimp only
    rw [e1, p_43_1 hL, Option.bind_some, ld44 hL e3, Option.bind_some, (hS.2.2.1 t e2).1, tn]
    by_cases h2 : (y : Int) < pFn Q t
    · have p1 : 3 * t + y < 12 := by omega
      rw [if_pos h2, iteP_t h2, p_43_22 hL, Option.bind_some, ld55 hL hz, Option.bind_some, p_43_2 hL, Option.bind_some, ix5 e3 hy, ld45 hL p1, Option.bind_some, hr.1 z hz, (hS.2.2.1 t e2).2 y h2, m_isEnough hk hv (hrv z hz) (tyV_f hv e2 h2), Option.bind_some]
      dsimp only
      by_cases h3 : enough Q (rg z) (pFt Q t y)
      · have bs := setS_b hv (hrv x hx) h1
        have b8 := bit8 ⟨(setS Q (rg x)).toNat, by omega⟩ ⟨y, hy⟩
        simp only [Int.toNat_of_nonneg bs.1] at b8
        rw [b2i_t h3, if_pos (by decide), iteP_t h3, m_setOf hL hS hv (hrv x hx) h1, Option.bind_some]
        dsimp only
        rw [p_43_22 hL, Option.bind_some, p_43_1 hL, Option.bind_some, ld44 hL e3, Option.bind_some, (hS.2.2.1 t e2).1]
        unfold tupS
        by_cases h4 : ior (setS Q (rg x)) (ishl 1 (y : Int)) = allS Q t
        · have h4' : ior (setS Q (rg x)) (ishl 1 (y : Int)) = w32 ((ishl 1 (pFn Q t)) - 1) := h4
          rw [if_neg (Decidable.not_not.mpr h4'), if_pos h4, q_Md_puts_117, w32_2 (by clear h4'; omega), st55 hL hx, Option.bind_some]
          exact ⟨_, rfl, Ms_55 h x _, MkR_reg _ hr⟩
        · have h4' : ior (setS Q (rg x)) (ishl 1 (y : Int)) ≠ w32 ((ishl 1 (pFn Q t)) - 1) := h4
          rw [if_pos h4', if_neg h4, q_Md_puts_117, w32_tp e3 b8.1 b8.2, st55 hL hx, Option.bind_some]
          exact ⟨_, rfl, Ms_55 h x _, MkR_reg _ hr⟩
      · rw [b2i_f h3, if_neg (by decide), iteP_f h3]
        exact ⟨h, rfl, Ms_rf h, hr⟩
    · rw [if_neg h2, iteP_f h2]
      exact ⟨h, rfl, Ms_rf h, hr⟩
  · rw [b2i_f h1, if_neg (by decide), iteP_f h1]
    exact ⟨h, rfl, Ms_rf h, hr⟩
theorem m_gets (hk : MK L b Q h) (hv : Val Q) (hr : MkR h rg sk op) (hrv : ∀ r, r < 4 → tyV Q (rg r)) {x y z : Nat} (hx : x < 4) (hy : y < 4) (hz : z < 3) : MkS h op (F_Md_gets 43 (x : Int) (y : Int) (z : Int) h) (getS Q rg sk x y z) := by
  obtain ⟨hL, hS, hs, hb⟩ := id hk
  unfold getS
  rw [q_Md_gets _ _ _ _ _ (o_43 hL), p_43_22 hL, Option.bind_some, ld55 hL hy, Option.bind_some, hr.1 y hy, m_isTuple, Option.bind_some]
  dsimp only
  by_cases h1 : tupT (rg y)
  · obtain ⟨t, e1, e2, e3⟩ := sortS_lt hv (hrv y hy) h1
    have hso := m_sortOf (tyV_c hv (hrv y hy)) h
    rw [e1] at hso
    rw [b2i_t h1, if_pos (by decide), iteP_t h1, p_43_1 hL, Option.bind_some, hso, Option.bind_some]
    dsimp only
    rw [e1, ld44 hL e3, Option.bind_some, (hS.2.2.1 t e2).1, tn]
    by_cases h2 : (z : Int) < pFn Q t
    · have bs := setS_b hv (hrv y hy) h1
      have h8 := has8 ⟨(setS Q (rg y)).toNat, by omega⟩ ⟨z, hz⟩
      simp only [Int.toNat_of_nonneg bs.1] at h8
      rw [if_neg (by omega), m_setOf hL hS hv (hrv y hy) h1, Option.bind_some]
      dsimp only
      rw [m_has h rfl, Option.bind_some]
      dsimp only
      by_cases h3 : iand (ishr (setS Q (rg y)) (z : Int)) 1 = 1
      · have p1 : 3 * t + z < 12 := by omega
        rw [b2i_t h3, if_pos (by decide), iteP_t ⟨h2, h8.mp h3⟩, p_43_22 hL, Option.bind_some, p_43_2 hL, Option.bind_some, hso, Option.bind_some]
        dsimp only
        rw [ix5 e3 hz, ld45 hL p1, Option.bind_some, (hS.2.2.1 t e2).2 z h2, st55 hL hx, Option.bind_some]
        exact ⟨_, rfl, Ms_55 h x _, MkR_reg _ hr⟩
      · rw [b2i_f h3, if_neg (by decide), iteP_f (fun w => h3 (h8.mpr w.2))]
        exact ⟨h, rfl, Ms_rf h, hr⟩
    · rw [if_pos (by omega), iteP_f (fun w => h2 w.1)]
      exact ⟨h, rfl, Ms_rf h, hr⟩
  · rw [b2i_f h1, if_neg (by decide), iteP_f h1]
    exact ⟨h, rfl, Ms_rf h, hr⟩
theorem m_pushes (hL : LyM L h) (hr : MkR h rg sk op) (v : Int) : MkS h op (F_Md_pushes 43 v h) (if sk.length < 6 then (0, rg, v :: sk) else (5, rg, sk)) := by
  have r3 := hr.2.2.1
  rw [q_Md_pushes _ _ _ (o_43 hL), g_43 hL (by decide), Option.bind_some, hr.2.1]
  by_cases q : sk.length < 6
  · have q6 : (sk.length : Int) ≠ 6 := by omega
    have q8 : sk.length < 8 := by omega
    have qq : sk.length < 1000 := by omega
    have L1 : LyM L (mw h 56 sk.length v) := LyM_mw hL rfl
    have g1 : gfd 6 24 (mw h 56 sk.length v) 43 = some (sk.length : Int) := by rw [g_43 L1 (by decide), mw_o _ _ _ (by decide), hr.2.1]
    rw [if_pos q6, if_pos q, p_43_23 hL, Option.bind_some, Option.bind_some, st56 hL q8, Option.bind_some, g1, Option.bind_some, w32_nn _ qq, f_43 L1 (by decide), Option.bind_some]
    exact ⟨_, rfl, Ms_tr (Ms_56 h _ _) (Ms_43 _ _ (by decide) (by decide)), MkR_push v hr q⟩
  · have q6 : (sk.length : Int) = 6 := by omega
    rw [if_neg (Decidable.not_not.mpr q6), if_neg q]
    exact ⟨h, rfl, Ms_rf h, hr⟩
def popS (rg : Nat → Int) (sk : List Int) (x : Nat) : Int × (Nat → Int) × List Int := match sk with
    | [] => (5, rg, sk)
    | v :: r => (0, ru rg x v, r)
theorem m_pops (hL : LyM L h) (hr : MkR h rg sk op) {x : Nat} (hx : x < 4) : MkS h op (F_Md_pops 43 (x : Int) h) (popS rg sk x) := by
  have r3 := hr.2.2.1
  rw [q_Md_pops _ _ _ (o_43 hL), g_43 hL (by decide), Option.bind_some, hr.2.1]
  cases sk with
  | nil =>
    rw [if_neg (by simp)]
    exact ⟨h, rfl, Ms_rf h, hr⟩
  | cons v r =>
    rw [List.length_cons] at r3 ⊢
    obtain ⟨m1, m2⟩ := MkR_pop hr
    have L1 : LyM L (mw h 43 24 (r.length : Int)) := LyM_mw hL rfl
    have q8 : r.length < 8 := by omega
    have q6 : ((r.length + 1 : Nat) : Int) ≠ 0 := by omega
    have qq : r.length < 1000 := by omega
    rw [if_pos q6, Option.bind_some, w32_pp _ qq, f_43 hL (by decide), Option.bind_some, p_43_22 L1, Option.bind_some, p_43_23 L1, Option.bind_some, g_43 L1 (by decide), Option.bind_some, mw_s, ld56 L1 q8, Option.bind_some, mw_o _ _ _ (by decide), m2, st55 L1 hx, Option.bind_some]
    exact ⟨_, rfl, Ms_tr (Ms_43 h _ (by decide) (by decide)) (Ms_55 _ _ _), MkR_reg v m1⟩
theorem m_goes (hk : MK L b Q h) (hv : Val Q) (hr : MkR h rg sk op) (hop : op = 0 ∨ op = 1) (hrv : ∀ r, r < 4 → tyV Q (rg r)) (hsv : ∀ v ∈ sk, tyV Q v) {l k : Nat} (hl : (l : Int) < pL Q) (hkk : (k : Int) < pK Q l) :
    MkS h op (F_Md_goes 43 (b : Int) ((b + 30 * l + 6 + 4 * k : Nat) : Int) h) (stepS Q rg sk op (pC Q l k 0) (pC Q l k 1).toNat (pC Q l k 2).toNat (pC Q l k 3).toNat) := by
  obtain ⟨hL, hS, hs, hb⟩ := id hk
  have v1 := hv.1
  have v2 := hv.2.1
  have l4 : l < 4 := by omega
  have vk := (hv.2.2.2.2 l hl).2.2.2.2.1
  have k6 : k < 6 := by omega
  obtain ⟨c, x, y, z, ec, ex, ey, ez, hm⟩ := ins_b hv hl hkk
  have p0 : b + 30 * l + 6 + 4 * k < 1440 := by omega
  have p1 : b + 30 * l + 6 + 4 * k + 1 < 1440 := by omega
  have p2 : b + 30 * l + 6 + 4 * k + 2 < 1440 := by omega
  have p3 : b + 30 * l + 6 + 4 * k + 3 < 1440 := by omega
  have pp : b + 30 * l + 6 + 4 * k < 10000 := by omega
  have c0 := Sl_pc hs l4 k6 (p := 0) (by decide)
  rw [Nat.add_zero] at c0
  have c1 := Sl_pc hs l4 k6 (p := 1) (by decide)
  have c2 := Sl_pc hs l4 k6 (p := 2) (by decide)
  have c3 := Sl_pc hs l4 k6 (p := 3) (by decide)
  have e1 : w32 (((b + 30 * l + 6 + 4 * k : Nat) : Int) + 1) = ((b + 30 * l + 6 + 4 * k + 1 : Nat) : Int) := ix1 (c := 1) pp (by decide)
  have e2 : w32 (((b + 30 * l + 6 + 4 * k : Nat) : Int) + 2) = ((b + 30 * l + 6 + 4 * k + 2 : Nat) : Int) := ix1 (c := 2) pp (by decide)
  have e3 : w32 (((b + 30 * l + 6 + 4 * k : Nat) : Int) + 3) = ((b + 30 * l + 6 + 4 * k + 3 : Nat) : Int) := ix1 (c := 3) pp (by decide)
  rw [q_Md_goes _ _ _ _ (o_43 hL), p_43_14 hL, Option.bind_some, e1, ld53 hL p1, Option.bind_some, Option.bind_some, e2, ld53 hL p2, Option.bind_some, Option.bind_some, e3, ld53 hL p3, Option.bind_some, Option.bind_some, ld53 hL p0, Option.bind_some, c0, c1, c2, c3, ec, ex, ey, ez, tn, tn, tn]
  clear e1 e2 e3 p0 p1 p2 p3 pp c0 c1 c2 c3 ec ex ey ez
  have hcc : c = 0 ∨ c = 1 ∨ c = 2 ∨ c = 3 ∨ c = 4 ∨ c = 5 ∨ c = 6 ∨ c = 7 ∨ c = 8 ∨ c = 9 ∨ c = 10 ∨ c = 11 ∨ c = 12 ∨ c = 13 := by have := hm.1; omega
  unfold stepS
  have same : ∀ r : Int, MkS h op (some (r, h)) (r, rg, sk) := fun r => ⟨h, rfl, Ms_rf h, hr⟩
  have mv : ∀ (x : Nat) (v : Int), x < 4 → MkS h op ((F_Md_moves 43 (x : Int) v h).bind fun q => some (q.1, q.2)) (0, ru rg x v, sk) := fun x v hx => by
    rw [m_moves hL hx, Option.bind_some]
    exact ⟨_, rfl, Ms_55 h x v, MkR_reg v hr⟩
  have wr : ∀ (r : Option (Int × mH)) (s : Int × (Nat → Int) × List Int), MkS h op r s → MkS h op (r.bind fun q => some (q.1, q.2)) s := fun r s w => by
    obtain ⟨h', w1, w2, w3⟩ := w
    rw [w1, Option.bind_some]
    exact ⟨h', rfl, w2, w3⟩
  have jm : ∀ m : Nat, (m : Int) < pL Q → MkS h op ((F_Md_jumps 43 (b : Int) (m : Int) h).bind fun q => some (q.1, q.2)) (jumpS Q rg sk op m, rg, sk) := fun m hml => by
    rw [m_jumps hk hv hr hop hrv hsv hml, Option.bind_some]
    exact same _
  rcases hcc with rfl | rfl | rfl | rfl | rfl | rfl | rfl | rfl | rfl | rfl | rfl | rfl | rfl | rfl
  · simp [mayS, chs, oprL] at hm
    simp only [Int.reduceEq, reduceIte]
    rw [p_43_22 hL, Option.bind_some, ld55 hL (by omega), Option.bind_some, hr.1 y (by omega)]
    exact mv x _ (by omega)
  · simp [mayS, chs, oprL] at hm
    simp only [Int.reduceEq, reduceIte]
    exact mv x _ (by omega)
  · simp [mayS, chs, oprL] at hm
    simp only [Int.reduceEq, reduceIte]
    rw [p_43_22 hL, Option.bind_some, ld55 hL (by omega), Option.bind_some, hr.1 x (by omega)]
    by_cases q1 : rg x = 1
    · rw [if_neg (Decidable.not_not.mpr q1), Option.bind_some, ld55 hL (by omega), Option.bind_some, hr.1 y (by omega)]
      by_cases q2 : rg y = 1
      · rw [if_neg (Decidable.not_not.mpr q2), iteP_t ⟨q1, q2⟩]; exact same 0
      · rw [if_pos q2, iteP_f (fun w => q2 w.2)]; exact same 1
    · rw [if_pos q1, iteP_f (fun w => q1 w.1)]; exact same 1
  · simp [mayS, chs, oprL] at hm
    simp only [Int.reduceEq, reduceIte]
    rw [w32_t8 (by omega)]
    exact mv x _ (by omega)
  · simp [mayS, chs, oprL] at hm
    simp only [Int.reduceEq, reduceIte]
    exact wr _ _ (m_puts hk hv hr hrv (by omega) (by omega) (by omega))
  · simp [mayS, chs, oprL] at hm
    simp only [Int.reduceEq, reduceIte]
    exact wr _ _ (m_gets hk hv hr hrv (by omega) (by omega) (by omega))
  · simp [mayS, chs, oprL] at hm
    simp only [Int.reduceEq, reduceIte]
    rw [p_43_22 hL, Option.bind_some, ld55 hL (by omega), Option.bind_some, hr.1 x (by omega)]
    exact wr _ _ (m_pushes hL hr _)
  · simp [mayS, chs, oprL] at hm
    simp only [Int.reduceEq, reduceIte]
    exact wr _ (popS rg sk x) (m_pops hL hr (by omega))
  · simp [mayS, chs, oprL] at hm
    simp only [Int.reduceEq, reduceIte]
    rw [w32_6 (by omega)]
    exact mv x _ (by omega)
  · simp [mayS, chs, oprL] at hm
    simp only [Int.reduceEq, reduceIte]
    exact jm x (by omega)
  · simp [mayS, chs, oprL] at hm
    simp only [Int.reduceEq, reduceIte]
    rw [p_43_22 hL, Option.bind_some, ld55 hL (by omega), Option.bind_some, hr.1 x (by omega)]
    by_cases q1 : rg x = 1
    · rw [if_neg (Decidable.not_not.mpr q1), iteP_t q1]
      exact jm y (by omega)
    · rw [if_pos q1, iteP_f q1]; exact same 1
  · simp [mayS, chs, oprL] at hm
    simp only [Int.reduceEq, reduceIte]
    have st := st55 hL (p := 3) (by decide) (6 + (y : Int))
    rw [show ((3 : Nat) : Int) = 3 from rfl] at st
    have f := Ms_55 h 3 (6 + (y : Int))
    have hr' : MkR (mw h 55 3 (6 + (y : Int))) (ru rg 3 (6 + (y : Int))) sk op := MkR_reg _ hr
    rw [p_43_22 hL, Option.bind_some, w32_6 (by omega), st, Option.bind_some, m_jumps (Ms_K f hk) hv hr' hop (ru_v hrv (tyV_code (by omega))) hsv (by omega), Option.bind_some]
    exact ⟨_, rfl, f, hr'⟩
  · simp [mayS, chs, oprL] at hm
    simp only [Int.reduceEq, reduceIte]
    rw [p_43_22 hL, Option.bind_some, ld55 hL (by omega), Option.bind_some, hr.1 x (by omega), c_in, Option.bind_some]
    dsimp only
    by_cases q1 : 6 ≤ rg x ∧ rg x ≤ 9
    · have cx : codeT (rg x) := ⟨q1.1, by omega⟩
      have lx := tyV_L (hrv x (by omega)) cx
      obtain ⟨m, hmm⟩ := n_of lx.1
      have ew : w32 (rg x - 6) = (m : Int) := by rw [w32_id (by omega) (by omega), hmm]
      rw [b2i_t q1, if_neg (by decide), iteP_t cx, p_43_22 hL, Option.bind_some, ld55 hL (by clear ew; omega), Option.bind_some, hr.1 x (by clear ew; omega), ew, hmm, tn]
      exact jm m (by rw [← hmm]; exact lx.2)
    · rw [b2i_f q1, if_pos rfl, iteP_f (fun w => q1 ⟨w.1, by have := w.2; omega⟩)]; exact same 8
  · simp only [Int.reduceEq, reduceIte]
    have ld := ld55 hL (p := 0) (by decide)
    rw [show ((0 : Nat) : Int) = 0 from rfl] at ld
    rw [p_43_22 hL, Option.bind_some, ld, Option.bind_some, hr.1 0 (by decide)]
    by_cases q1 : rg 0 = 1
    · rw [if_neg (Decidable.not_not.mpr q1), iteP_t q1]; exact same 0
    · rw [if_pos q1, iteP_f q1]; exact same 1
end Mk
