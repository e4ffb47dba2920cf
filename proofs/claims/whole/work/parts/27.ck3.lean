/-! the methods of Checker: one instruction -/
section Ck
variable {L : Nat} {h : mH} {P rg : Nat → Int} {sk : List Int} {op : Int}
/-- behind an instruction -/
def CkQ (h h' : mH) (rg : Nat → Int) (sk : List Int) (op e : Int) : Prop := CkF h h' ∧ CkR h' rg sk op ∧ h'.2 15 6 = e ∧ h'.2 15 8 = h.2 15 8 ∧ h'.2 15 9 = h.2 15 9
theorem CkQ_rf (hr : CkR h rg sk op) : CkQ h h rg sk op (h.2 15 6) := ⟨CkF_rf h, hr, rfl, rfl, rfl⟩
theorem CkQ_reg {x : Nat} (v : Int) (hr : CkR h rg sk op) : CkQ h (mw h 18 x v) (ru rg x v) sk op (h.2 15 6) :=
  ⟨CkF_18 h x v, CkR_reg v hr, by rw [mw_o _ _ _ (by decide)], by rw [mw_o _ _ _ (by decide)], by rw [mw_o _ _ _ (by decide)]⟩
theorem iteP_2 {α β : Type} {p : Prop} {a b : α} {c : β} : (iteP p (a, c) (b, c)) = (iteP p a b, c) := by
  by_cases h : p
  · rw [iteP_t h, iteP_t h]
  · rw [iteP_f h, iteP_f h]
theorem c_setField (hc : CkP L h P) (ht : CkT h P) (hv : Val P) (hr : CkR h rg sk op) (hrv : ∀ r, r < 4 → tyV P (rg r)) {x y z : Nat} (hx : x < 4) (hy : y < 3) (hz : z < 4) :
    ∃ h', F_Ck_setField 15 (x : Int) (y : Int) (z : Int) h = some ((putS P rg sk x y z).1, h') ∧ CkQ h h' (putS P rg sk x y z).2.1 (putS P rg sk x y z).2.2 op (h.2 15 6) := by
  obtain ⟨pa, g1, g2, g3⟩ := ck_prog hc
  have bx := tyV_b hv (hrv x hx)
  rw [q_Ck_setField _ _ _ _ _ (o_15 hc.1), c_register hc.1 hx, Option.bind_some, hr.1 x hx]
  dsimp only
  rw [c_isTuple, Option.bind_some]
  dsimp only
  unfold putS
  by_cases h1 : tupT (rg x)
  · obtain ⟨t, e1, e2, e3⟩ := sortS_lt hv (hrv x hx) h1
    rw [if_pos (b2i_ne.mpr h1), iteP_t h1, c_sortOf bx.1 bx.2, Option.bind_some]
    dsimp only
    rw [e1, g1, Option.bind_some, tn, c_fields g2 e3, Option.bind_some, g3, tn]
    dsimp only
    by_cases h2 : (y : Int) < pFn P t
    · have bz := tyV_b hv (hrv z hz)
      have bf := ((hv.2.2.2.1 t e2).2 y h2)
      have bS := hv.1
      rw [if_pos h2, iteP_t h2, c_register hc.1 hz, Option.bind_some, hr.1 z hz]
      dsimp only
      rw [g1, Option.bind_some, tn, c_fieldType g2 e3 hy, Option.bind_some, g3]
      dsimp only
      rw [c_isEnough hc ht (by omega) (by omega) (by omega) (by omega), Option.bind_some]
      dsimp only
      by_cases h3 : enough P (rg z) (pFt P t y)
      · have bs := setS_b hv (hrv x hx) h1
        have b8 := bit8 ⟨(setS P (rg x)).toNat, by omega⟩ ⟨y, hy⟩
        simp only [Int.toNat_of_nonneg bs.1] at b8
        rw [if_pos (b2i_ne.mpr h3), iteP_t h3, c_fieldsSet hc ht hv (hrv x hx) h1, Option.bind_some]
        dsimp only
        rw [c_tuple hc ht e3 b8.1 b8.2, Option.bind_some]
        dsimp only
        rw [c_setRegister hc.1 hx, Option.bind_some]
        exact ⟨_, rfl, CkQ_reg _ hr⟩
      · rw [if_neg (fun q => h3 (b2i_ne.mp q)), iteP_f h3]
        exact ⟨h, rfl, CkQ_rf hr⟩
    · rw [if_neg h2, iteP_f h2]
      exact ⟨h, rfl, CkQ_rf hr⟩
  · rw [if_neg (fun q => h1 (b2i_ne.mp q)), iteP_f h1]
    exact ⟨h, rfl, CkQ_rf hr⟩
theorem c_getField (hc : CkP L h P) (ht : CkT h P) (hv : Val P) (hr : CkR h rg sk op) (hrv : ∀ r, r < 4 → tyV P (rg r)) {x y z : Nat} (hx : x < 4) (hy : y < 4) (hz : z < 3) :
    ∃ h', F_Ck_getField 15 (x : Int) (y : Int) (z : Int) h = some ((getS P rg sk x y z).1, h') ∧ CkQ h h' (getS P rg sk x y z).2.1 (getS P rg sk x y z).2.2 op (h.2 15 6) := by
  obtain ⟨pa, g1, g2, g3⟩ := ck_prog hc
  have bx := tyV_b hv (hrv y hy)
  rw [q_Ck_getField _ _ _ _ _ (o_15 hc.1), c_register hc.1 hy, Option.bind_some, hr.1 y hy]
  dsimp only
  rw [c_isTuple, Option.bind_some]
  dsimp only
  unfold getS
  by_cases h1 : tupT (rg y)
  · obtain ⟨t, e1, e2, e3⟩ := sortS_lt hv (hrv y hy) h1
    rw [if_pos (b2i_ne.mpr h1), iteP_t h1, c_sortOf bx.1 bx.2, Option.bind_some]
    dsimp only
    rw [e1, g1, Option.bind_some, tn, c_fields g2 e3, Option.bind_some, g3, tn]
    dsimp only
    by_cases h2 : pFn P t ≤ (z : Int)
    · rw [if_pos h2, iteP_f (by omega)]
      exact ⟨h, rfl, CkQ_rf hr⟩
    · rw [if_neg h2, c_fieldsSet hc ht hv (hrv y hy) h1, Option.bind_some]
      dsimp only
      by_cases h3 : iand (ishr (setS P (rg y)) (z : Int)) 1 ≠ 0
      · rw [if_pos h3, iteP_t ⟨by omega, h3⟩, g1, Option.bind_some, tn, c_fieldType g2 e3 hz, Option.bind_some, g3]
        dsimp only
        rw [c_setRegister hc.1 hx, Option.bind_some]
        exact ⟨_, rfl, CkQ_reg _ hr⟩
      · rw [if_neg h3, iteP_f (fun q => h3 q.2)]
        exact ⟨h, rfl, CkQ_rf hr⟩
  · rw [if_neg (fun q => h1 (b2i_ne.mp q)), iteP_f h1]
    exact ⟨h, rfl, CkQ_rf hr⟩
theorem c_push (hL : Ly L h) (hr : CkR h rg sk op) (v : Int) : F_Ck_push 15 v h = if sk.length < 6 then some (1, mw (mw h 19 sk.length v) 15 7 ((sk.length + 1 : Nat) : Int)) else some (0, h) := by
  obtain ⟨r1, r2, r3, r4, r5⟩ := hr
  rw [q_Ck_push _ _ _ (o_15 hL), g_15 hL (by decide), Option.bind_some, r2, if_neg (by omega), Option.bind_some]
  by_cases h6 : sk.length < 6
  · have t : (19 : Int).toNat = 19 := rfl
    have hL1 : Ly L (mw h 19 sk.length v) := Ly_mw hL rfl
    rw [if_pos (by omega), if_pos h6, p_15_2 hL, Option.bind_some, Option.bind_some, t, w_19 hL (by omega) (by omega), Option.bind_some, tn, g_15 hL1 (by decide), Option.bind_some, mw_o _ _ _ (by decide), r2, f_15 hL1 (by decide), Option.bind_some]
    have e : w32 ((sk.length : Int) + 1) = ((sk.length + 1 : Nat) : Int) := by unfold w32; omega
    rw [e]
  · rw [if_neg (by omega), if_neg h6]
theorem c_pop (hL : Ly L h) (hr : CkR h rg sk op) {x : Nat} (hx : x < 4) : F_Ck_pop 15 (x : Int) h = match sk with
    | [] => some (5, h)
    | v :: r => some (0, mw (mw h 18 x v) 15 7 (r.length : Int)) := by
  obtain ⟨r1, r2, r3, r4, r5⟩ := id hr
  rw [q_Ck_pop _ _ _ (o_15 hL), g_15 hL (by decide), Option.bind_some, r2]
  match sk, hr, r2, r3 with
  | [], hr, r2, r3 =>
    rw [if_neg (by simp)]
  | v :: r, hr, r2, r3 =>
    have z := c_fromTop hL hr (i := 0) (by simp)
    rw [show ((0 : Nat) : Int) = 0 from rfl] at z
    have hL1 : Ly L (mw h 18 x v) := Ly_mw hL rfl
    rw [if_pos (by simp only [List.length_cons]; omega), z, Option.bind_some]
    dsimp only
    rw [show (v :: r).getD 0 0 = v from rfl, c_setRegister hL hx, Option.bind_some, g_15 hL1 (by decide), Option.bind_some, mw_o _ _ _ (by decide), r2, f_15 hL1 (by decide), Option.bind_some]
    have e : w32 (((v :: r).length : Int) - 1) = (r.length : Int) := by
      simp only [List.length_cons] at r3 ⊢
      unfold w32
      omega
    rw [e]
theorem c_part0 {a : Nat} (hp : PgO h a) {l k : Nat} (hl : l < 4) (hk : k < 6) : F_Pg_part a (l : Int) (k : Int) 0 h = some (pC (h.2 (a + 1)) l k 0, h) := c_part (p := 0) hp hl hk (by decide)
theorem c_part1 {a : Nat} (hp : PgO h a) {l k : Nat} (hl : l < 4) (hk : k < 6) : F_Pg_part a (l : Int) (k : Int) 1 h = some (pC (h.2 (a + 1)) l k 1, h) := c_part (p := 1) hp hl hk (by decide)
theorem c_part2 {a : Nat} (hp : PgO h a) {l k : Nat} (hl : l < 4) (hk : k < 6) : F_Pg_part a (l : Int) (k : Int) 2 h = some (pC (h.2 (a + 1)) l k 2, h) := c_part (p := 2) hp hl hk (by decide)
theorem c_part3 {a : Nat} (hp : PgO h a) {l k : Nat} (hl : l < 4) (hk : k < 6) : F_Pg_part a (l : Int) (k : Int) 3 h = some (pC (h.2 (a + 1)) l k 3, h) := c_part (p := 3) hp hl hk (by decide)
/-- an instruction of a program -/
theorem ins_b (hv : Val P) {l k : Nat} (hl : (l : Int) < pL P) (hk : (k : Int) < pK P l) : ∃ (c : Int) (x y z : Nat), pC P l k 0 = c ∧ pC P l k 1 = x ∧ pC P l k 2 = y ∧ pC P l k 3 = z ∧ mayS (pS P) (pL P) c x y z := by
  have hm := (hv.2.2.2.2 l hl).2.2.2.2.2 k hk
  obtain ⟨⟨m1, m2⟩, ⟨m3, m4⟩, ⟨m5, m6⟩, ⟨m7, m8⟩⟩ := id hm
  refine ⟨pC P l k 0, (pC P l k 1).toNat, (pC P l k 2).toNat, (pC P l k 3).toNat, rfl, by omega, by omega, by omega, ?_⟩
  rw [Int.toNat_of_nonneg m3, Int.toNat_of_nonneg m5, Int.toNat_of_nonneg m7]
  exact hm
theorem tyV_code {y : Nat} (hy : (y : Int) < pL P) : tyV P (6 + (y : Int)) := Or.inl (Or.inr (Or.inr ⟨by omega, by omega⟩))
theorem bz1 {α : Type} (f : Unit → Option α) : (bz 1).bind f = f () := rfl
theorem c_step (hc : CkP L h P) (ht : CkT h P) (hv : Val P) (hr : CkR h rg sk op) (hrv : ∀ r, r < 4 → tyV P (rg r)) (hsv : ∀ v ∈ sk, tyV P v) {l k : Nat} (hl : (l : Int) < pL P) (hk : (k : Int) < pK P l) :
    ∃ h', F_Ck_step 15 (l : Int) (k : Int) h = some ((stepS P rg sk op (pC P l k 0) (pC P l k 1).toNat (pC P l k 2).toNat (pC P l k 3).toNat).1, h') ∧
      CkQ h h' (stepS P rg sk op (pC P l k 0) (pC P l k 1).toNat (pC P l k 2).toNat (pC P l k 3).toNat).2.1 (stepS P rg sk op (pC P l k 0) (pC P l k 1).toNat (pC P l k 2).toNat (pC P l k 3).toNat).2.2 op (iteP (endS (pC P l k 0)) 1 (h.2 15 6)) := by
  obtain ⟨pa, g1, g2, g3⟩ := ck_prog hc
  have hl4 : l < 4 := by have := hv.2.1; omega
  have hk6 : k < 6 := by have := (hv.2.2.2.2 l hl).2.2.2.2.1; omega
  obtain ⟨c, x, y, z, ec, ex, ey, ez, hm⟩ := ins_b hv hl hk
  rw [q_Ck_step _ _ _ _ (o_15 hc.1), g1, Option.bind_some, tn, c_part1 g2 hl4 hk6, Option.bind_some]
  dsimp only
  rw [g1, Option.bind_some, tn, c_part2 g2 hl4 hk6, Option.bind_some]
  dsimp only
  rw [g1, Option.bind_some, tn, c_part3 g2 hl4 hk6, Option.bind_some]
  dsimp only
  rw [g1, Option.bind_some, tn, c_part0 g2 hl4 hk6, Option.bind_some, g3, ec, ex, ey, ez, tn, tn, tn]
  dsimp only
  unfold stepS
  have hL := hc.1
  have nend : ∀ {v : Int}, v < 9 ∨ v = 10 → ¬ endS v := fun hv q => by unfold endS at q; omega
  have yend : ∀ {v : Int}, v = 9 ∨ 10 < v → endS v := fun hv => hv
  -- the end of a block
  have h6 : CkQ h (mw h 15 6 1) rg sk op 1 := ⟨CkF_15 h 1 (by decide), CkR_oth 1 (by decide) (by decide) hr, mw_s _ _ _ _, mw_d _ _ (by decide), mw_d _ _ (by decide)⟩
  have hc6 := CkF_P h6.1 hc
  have ht6 := CkF_T h6.1 ht
  have hcc : c = 0 ∨ c = 1 ∨ c = 2 ∨ c = 3 ∨ c = 4 ∨ c = 5 ∨ c = 6 ∨ c = 7 ∨ c = 8 ∨ c = 9 ∨ c = 10 ∨ c = 11 ∨ c = 12 ∨ c = 13 := by have := hm.1; omega
  rcases hcc with rfl | rfl | rfl | rfl | rfl | rfl | rfl | rfl | rfl | rfl | rfl | rfl | rfl | rfl
  · simp [mayS, chs, oprL] at hm
    simp only [Int.reduceEq, reduceIte]
    rw [c_register hL (by omega), Option.bind_some]
    dsimp only
    rw [c_setRegister hL (by omega), Option.bind_some, iteP_f (nend (by omega)), hr.1 y (by omega)]
    exact ⟨_, rfl, CkQ_reg _ hr⟩
  · simp [mayS, chs, oprL] at hm
    simp only [Int.reduceEq, reduceIte]
    rw [c_setRegister hL (by omega), Option.bind_some, iteP_f (nend (by omega))]
    exact ⟨_, rfl, CkQ_reg _ hr⟩
  · simp [mayS, chs, oprL] at hm
    simp only [Int.reduceEq, reduceIte]
    rw [c_register hL (by omega), Option.bind_some, hr.1 x (by omega), iteP_f (nend (by omega))]
    dsimp only
    refine ⟨h, ?_, CkQ_rf hr⟩
    by_cases h1 : rg x ≠ 1
    · rw [if_pos h1, iteP_f (fun q => h1 q.1)]
    · rw [if_neg h1, c_register hL (by omega), Option.bind_some, hr.1 y (by omega)]
      dsimp only
      by_cases h2 : rg y ≠ 1
      · rw [if_pos h2, iteP_f (fun q => h2 q.2)]
      · rw [if_neg h2, iteP_t ⟨Decidable.not_not.mp h1, Decidable.not_not.mp h2⟩]
  · simp [mayS, chs, oprL] at hm
    simp only [Int.reduceEq, reduceIte]
    have hS := hv.1
    have z0 := c_tuple hc ht (t := y) (by omega) (s := 0) (by decide) (by decide)
    have hall : (0 : Int) ≠ allS P y := by
      have b := (hv.2.2.2.1 y (by omega)).1
      have hq : ∀ n : Fin 3, (0 : Int) ≠ w32 (ishl 1 ((n.val + 1 : Nat) : Int) - 1) := by decide +kernel
      have := hq ⟨(pFn P y).toNat - 1, by omega⟩
      unfold allS
      have e : (((pFn P y).toNat - 1 + 1 : Nat) : Int) = pFn P y := by omega
      simp only [e] at this
      exact this
    have e0 : tupS P y 0 = 10 + 8 * y := by unfold tupS; rw [if_neg hall]; omega
    rw [z0, Option.bind_some, e0]
    dsimp only
    rw [c_setRegister hL (by omega), Option.bind_some, iteP_f (nend (by omega))]
    exact ⟨_, rfl, CkQ_reg _ hr⟩
  · simp [mayS, chs, oprL] at hm
    simp only [Int.reduceEq, reduceIte]
    obtain ⟨h', e1, e2⟩ := c_setField hc ht hv hr hrv (x := x) (y := y) (z := z) (by omega) (by omega) (by omega)
    rw [e1, Option.bind_some, iteP_f (nend (by omega))]
    exact ⟨h', rfl, e2⟩
  · simp [mayS, chs, oprL] at hm
    simp only [Int.reduceEq, reduceIte]
    obtain ⟨h', e1, e2⟩ := c_getField hc ht hv hr hrv (x := x) (y := y) (z := z) (by omega) (by omega) (by omega)
    rw [e1, Option.bind_some, iteP_f (nend (by omega))]
    exact ⟨h', rfl, e2⟩
  · simp [mayS, chs, oprL] at hm
    simp only [Int.reduceEq, reduceIte]
    rw [c_register hL (by omega), Option.bind_some, hr.1 x (by omega), iteP_f (nend (by omega))]
    dsimp only
    rw [c_push hL hr]
    by_cases h1 : sk.length < 6
    · rw [if_pos h1, if_pos h1, Option.bind_some]
      dsimp only
      rw [if_neg (by decide)]
      exact ⟨_, rfl, CkF_tr (CkF_19 h _ _) (CkF_15 _ _ (by decide)), CkR_push _ hr h1, by rw [mw_d _ _ (by decide), mw_o _ _ _ (by decide)], by rw [mw_d _ _ (by decide), mw_o _ _ _ (by decide)], by rw [mw_d _ _ (by decide), mw_o _ _ _ (by decide)]⟩
    · rw [if_neg h1, if_neg h1, Option.bind_some]
      dsimp only
      rw [if_pos rfl]
      exact ⟨h, rfl, CkQ_rf hr⟩
  · simp [mayS, chs, oprL] at hm
    simp only [Int.reduceEq, reduceIte]
    rw [c_pop hL hr (by omega), iteP_f (nend (by omega))]
    match sk, hr with
    | [], hr =>
      dsimp only
      rw [Option.bind_some]
      exact ⟨h, rfl, CkQ_rf hr⟩
    | v :: r, hr =>
      dsimp only
      rw [Option.bind_some]
      exact ⟨_, rfl, CkF_tr (CkF_18 h _ _) (CkF_15 _ _ (by decide)), CkR_pop (CkR_reg v hr), by rw [mw_d _ _ (by decide), mw_o _ _ _ (by decide)], by rw [mw_d _ _ (by decide), mw_o _ _ _ (by decide)], by rw [mw_d _ _ (by decide), mw_o _ _ _ (by decide)]⟩
  · simp [mayS, chs, oprL] at hm
    simp only [Int.reduceEq, reduceIte]
    have e : w32 (6 + (y : Int)) = 6 + y := by have := hv.2.1; unfold w32; omega
    rw [e, c_setRegister hL (by omega), Option.bind_some, iteP_f (nend (by omega))]
    exact ⟨_, rfl, CkQ_reg _ hr⟩
  · simp [mayS, chs, oprL] at hm
    simp only [Int.reduceEq, reduceIte]
    rw [bz1, f_15 hL (by decide), Option.bind_some, c_jump hc6 ht6 hv h6.2.1 hrv hsv (by omega), Option.bind_some, iteP_t (yend (by omega))]
    exact ⟨_, rfl, h6⟩
  · simp [mayS, chs, oprL] at hm
    simp only [Int.reduceEq, reduceIte]
    rw [c_register hL (by omega), Option.bind_some, hr.1 x (by omega), iteP_f (nend (by omega))]
    dsimp only
    refine ⟨h, ?_, CkQ_rf hr⟩
    by_cases h1 : rg x ≠ 1
    · rw [if_pos h1, iteP_f h1]
    · rw [if_neg h1, c_jump hc ht hv hr hrv hsv (by omega), Option.bind_some, iteP_t (Decidable.not_not.mp h1)]
  · simp [mayS, chs, oprL] at hm
    simp only [Int.reduceEq, reduceIte]
    have hyl : (y : Int) < pL P := by omega
    have hxl : (x : Int) < pL P := by omega
    have hl2 : pL P ≤ 4 := hv.2.1.2
    clear hm
    have e : w32 (6 + (y : Int)) = 6 + y := w32_in (by omega) (by omega)
    have hL6 := hc6.1
    have hrv' : ∀ r, r < 4 → tyV P (ru rg 3 (6 + (y : Int)) r) := fun r hr4 => by
      by_cases e3 : r = 3
      · rw [e3, ru_s]; exact tyV_code hyl
      · rw [ru_d _ _ e3]; exact hrv r hr4
    have q := CkQ_reg (x := 3) (6 + (y : Int)) h6.2.1
    have z3 := c_setRegister hL6 (r := 3) (by decide) (6 + (y : Int))
    rw [show ((3 : Nat) : Int) = 3 from rfl] at z3
    rw [bz1, f_15 hL (by decide), Option.bind_some, e, z3, Option.bind_some, c_jump (CkF_P q.1 hc6) (CkF_T q.1 ht6) hv q.2.1 hrv' hsv hxl, Option.bind_some, iteP_t (yend (by omega))]
    exact ⟨_, rfl, CkF_tr h6.1 q.1, q.2.1, q.2.2.1.trans h6.2.2.1, q.2.2.2.1.trans h6.2.2.2.1, q.2.2.2.2.trans h6.2.2.2.2⟩
  · simp [mayS, chs, oprL] at hm
    simp only [Int.reduceEq, reduceIte]
    have hL6 := hc6.1
    rw [bz1, f_15 hL (by decide), Option.bind_some, c_register hL6 (by omega), Option.bind_some, h6.2.1.1 x (by omega), iteP_t (yend (by omega))]
    dsimp only
    rw [c_isCode, Option.bind_some]
    dsimp only
    refine ⟨_, ?_, h6⟩
    by_cases h1 : codeT (rg x)
    · have b := tyV_b hv (hrv x (by omega))
      have hlt : (((rg x - 6).toNat : Nat) : Int) < pL P := by
        unfold codeT at h1
        rcases hrv x (by omega) with q | ⟨t, s, q, -⟩
        · unfold tyOk at q; omega
        · omega
      have e : w32 (rg x - 6) = (((rg x - 6).toNat : Nat) : Int) := by unfold codeT at h1; unfold w32; omega
      rw [if_neg (b2i_ne.mpr h1), c_register hL6 (by omega), Option.bind_some, h6.2.1.1 x (by omega), iteP_t h1]
      dsimp only
      rw [e, c_jump hc6 ht6 hv h6.2.1 hrv hsv hlt, Option.bind_some]
    · rw [if_pos (b2i_0.mpr h1), iteP_f h1]
  · simp [mayS, chs, oprL] at hm
    simp only [Int.reduceEq, reduceIte]
    have hL6 := hc6.1
    have z0 := c_register hL6 (r := 0) (by decide)
    rw [show ((0 : Nat) : Int) = 0 from rfl] at z0
    rw [bz1, f_15 hL (by decide), Option.bind_some, z0, Option.bind_some, h6.2.1.1 0 (by decide), iteP_t (yend (by omega))]
    dsimp only
    refine ⟨_, ?_, h6⟩
    by_cases h1 : rg 0 ≠ 1
    · rw [if_pos h1, iteP_f h1]
    · rw [if_neg h1, iteP_t (Decidable.not_not.mp h1)]
end Ck
