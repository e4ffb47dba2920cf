/-! frames; Checker.take -/
def Fr (S : List Nat) (h h' : mH) : Prop := h'.1 = h.1 ∧ ∀ a, a ∉ S → h'.2 a = h.2 a
theorem Fr_rf (S : List Nat) (h : mH) : Fr S h h := ⟨rfl, fun _ _ => rfl⟩
theorem Fr_tr {S : List Nat} {h h1 h2 : mH} (a : Fr S h h1) (b : Fr S h1 h2) : Fr S h h2 := ⟨b.1.trans a.1, fun k hk => (b.2 k hk).trans (a.2 k hk)⟩
theorem Fr_mono {S S' : List Nat} {h h1 : mH} (a : Fr S h h1) (hs : ∀ x ∈ S, x ∈ S') : Fr S' h h1 := ⟨a.1, fun k hk => a.2 k (fun q => hk (hs k q))⟩
theorem Fr_mw {S : List Nat} (h : mH) {a j : Nat} (v : Int) (ha : a ∈ S) : Fr S h (mw h a j v) := ⟨rfl, fun k hk => mw_o h j v (fun q => hk (q ▸ ha))⟩
theorem Fr_row {S : List Nat} (h : mH) {a : Nat} (f : Nat → Int) (ha : a ∈ S) : Fr S h (mrow h a f) := ⟨rfl, fun k hk => mrow_o h f (fun q => hk (q ▸ ha))⟩
theorem Fr_Ly {S : List Nat} {L : Nat} {h h' : mH} (f : Fr S h h') (hp : ∀ a ∈ S, ∀ j v, ptr a j = some v → h'.2 a j = v) (hL : Ly L h) : Ly L h' := by
  refine ⟨by rw [f.1]; exact hL.1, fun a j v e => ?_⟩
  by_cases q : a ∈ S
  · exact hp a q j v e
  · rw [f.2 a q]; exact hL.2 a j v e
theorem CkF_Fr {h h' : mH} (f : CkF h h') : Fr [15, 18, 19] h h' := ⟨f.1, fun a ha => f.2.1 a (fun q => ha (by simp [q])) (fun q => ha (by simp [q])) (fun q => ha (by simp [q]))⟩
theorem ib01 (p : Prop) : iand (b2i p) 1 = b2i p := by
  rcases b2i_01 p with e | e <;> rw [e] <;> decide
section Take
variable {L : Nat} {P : Nat → Int}
def TkI (h : mH) (P : Nat → Int) (p q : Nat) : Prop := ∀ p' q' : Nat, p' < 4 → q' < 4 → (p' < p ∨ (p' = p ∧ q' < q)) → h.2 21 (4 * p' + q') = b2i (flat P q' p')
theorem CkP_fr {S : List Nat} {h h' : mH} (f : Fr S h h') (hS : ∀ a ∈ S, a = 20 ∨ a = 21) (hc : CkP L h P) : CkP L h' P := by
  obtain ⟨hL, pa, h1, h2, h3⟩ := hc
  have n : ∀ a, a ≠ 20 → a ≠ 21 → a ∉ S := fun a h1 h2 q => by rcases hS a q with z | z <;> contradiction
  refine ⟨Fr_Ly f (fun a ha j v e => by rcases hS a ha with z | z <;> subst z <;> cases e) hL, pa, h1, by rw [f.2 15 (n 15 (by decide) (by decide))]; exact h2, by rw [f.2 _ (n _ (by omega) (by omega))]; exact h3⟩
theorem c_take19 (hv : Val P) (pa : Nat) {p : Nat} (hp : p < 4) : ∀ (n q : Nat) (h : mH), q + n = 4 → CkP L h P → TkI h P p q → ∃ h', B_Ck_take_19 15 pa (p : Int) (q : Int) h = B_Ck_take_19 15 pa (p : Int) 4 h' ∧ Fr [21] h h' ∧ TkI h' P p 4
  | 0, q, h, e, hc, hi => by
    have : q = 4 := by omega
    subst this
    exact ⟨h, rfl, Fr_rf _ h, hi⟩
  | n + 1, q, h, e, hc, hi => by
    have t : (21 : Int).toNat = 21 := rfl
    have hq : q < 4 := by omega
    have hqn : q + 1 + n = 4 := by omega
    have hx : ¬ (4 : Int) ≤ (q : Int) := by omega
    have f : Fr [21] h (mw h 21 (4 * p + q) (b2i (flat P q p))) := Fr_mw h _ (by simp)
    obtain ⟨h', z1, z2, z3⟩ := c_take19 hv pa hp n (q + 1) (mw h 21 (4 * p + q) (b2i (flat P q p))) hqn (CkP_fr f (by simp) hc) (fun p' q' a1 a2 a3 => by
      rw [mw_at]
      split
      · rename_i e9
        have : p' = p ∧ q' = q := by omega
        rw [this.1, this.2]
      · rename_i e9
        exact hi p' q' a1 a2 (by omega))
    refine ⟨h', ?_, Fr_tr f z2, z3⟩
    have e0 : w32 ((w32 ((p : Int) * 4)) + (q : Int)) = ((4 * p + q : Nat) : Int) := by unfold w32; omega
    have h0 : (0 : Int) ≤ ((4 * p + q : Nat) : Int) := by omega
    have h1 : ((4 * p + q : Nat) : Int) < 16 := by omega
    have e1 : w32 ((q : Int) + 1) = ((q + 1 : Nat) : Int) := by unfold w32; omega
    rw [q_Ck_take_19, if_neg hx, p_15_4 hc.1, Option.bind_some, c_wantsSuffice hc hv hq hp, Option.bind_some]
    dsimp only
    rw [e0, t, w_21 hc.1 h0 h1, Option.bind_some, tn, ib01, e1, z1]
theorem c_take12 (hv : Val P) (pa : Nat) : ∀ (n p : Nat) (o : Option mV) (h : mH), p + n = 4 → CkP L h P → TkI h P p 0 → ∃ h' o', B_Ck_take_12 15 pa (p : Int) o h = B_Ck_take_54 15 pa 0 o' h' ∧ Fr [21] h h' ∧ TkI h' P 4 0
  | 0, p, o, h, e, hc, hi => by
    have : p = 4 := by omega
    subst this
    exact ⟨h, o, by rw [q_Ck_take_12, if_pos (by decide)], Fr_rf _ h, hi⟩
  | n + 1, p, o, h, e, hc, hi => by
    have hp : p < 4 := by omega
    have hpn : p + 1 + n = 4 := by omega
    have hx : ¬ (4 : Int) ≤ (p : Int) := by omega
    obtain ⟨h1, a1, a2, a3⟩ := c_take19 hv pa hp 4 0 h rfl hc hi
    rw [show ((0 : Nat) : Int) = 0 from rfl] at a1
    obtain ⟨h', o', z1, z2, z3⟩ := c_take12 hv pa n (p + 1) (some (.inl 4)) h1 hpn (CkP_fr a2 (by simp) hc) (fun p' q' b1 b2 b3 => a3 p' q' b1 b2 (by omega))
    have e1 : w32 ((p : Int) + 1) = ((p + 1 : Nat) : Int) := by unfold w32; omega
    refine ⟨h', o', ?_, Fr_tr a2 z2, z3⟩
    rw [q_Ck_take_12, if_neg hx, a1, q_Ck_take_19, if_pos (by decide), e1, z1]
theorem c_take54 (pa : Nat) (o : Option mV) : ∀ (n t : Nat) (h : mH), t + n = 4 → CkP L h P → (∀ k, k < t → h.2 20 k = allS P k) → ∃ h', B_Ck_take_54 15 pa (t : Int) o h = some h' ∧ Fr [20] h h' ∧ ∀ k, k < 4 → h'.2 20 k = allS P k
  | 0, t, h, e, hc, hi => by
    have : t = 4 := by omega
    subst this
    exact ⟨h, by rw [q_Ck_take_54, if_pos (by decide)], Fr_rf _ h, hi⟩
  | n + 1, t, h, e, hc, hi => by
    obtain ⟨pb, g1, g2, g3⟩ := ck_prog hc
    have z : (20 : Int).toNat = 20 := rfl
    have ht : t < 4 := by omega
    have htn : t + 1 + n = 4 := by omega
    have hx : ¬ (4 : Int) ≤ (t : Int) := by omega
    have h0 : (0 : Int) ≤ (t : Int) := by omega
    have h1 : (t : Int) < 4 := by omega
    have f : Fr [20] h (mw h 20 t (allS P t)) := Fr_mw h _ (by simp)
    obtain ⟨h', z1, z2, z3⟩ := c_take54 pa o n (t + 1) (mw h 20 t (allS P t)) htn (CkP_fr f (by simp) hc) (fun k hk => by
      rw [mw_at]
      split
      · rename_i q; rw [q]
      · exact hi k (by omega))
    have e1 : w32 ((t : Int) + 1) = ((t + 1 : Nat) : Int) := by unfold w32; omega
    refine ⟨h', ?_, Fr_tr f z2, z3⟩
    rw [q_Ck_take_54, if_neg hx, p_15_3 hc.1, Option.bind_some, g1, Option.bind_some, tn, c_fields g2 ht, Option.bind_some, g3]
    dsimp only
    rw [z, w_20 hc.1 h0 h1, Option.bind_some, tn, e1]
    exact z1
/-- Checker.take: the program is taken, which code stands for which is known -/
theorem c_take {h : mH} (hL : Ly L h) {pa : Nat} (hpa : pa = 11 ∨ pa = 13) (hv : Val (h.2 (pa + 1))) : ∃ h', F_Ck_take 15 pa h = some h' ∧ CkP L h' (h.2 (pa + 1)) ∧ CkT h' (h.2 (pa + 1)) ∧ Fr [15, 20, 21] h h' ∧ ∀ j, j ≠ 0 → h'.2 15 j = h.2 15 j := by
  have hP : CkP L (mw h 15 0 (pa : Int)) (h.2 (pa + 1)) := ⟨Ly_mw hL rfl, pa, hpa, mw_s _ _ _ _, by rw [mw_o _ _ _ (by omega)]⟩
  obtain ⟨h1, o', a1, a2, a3⟩ := c_take12 hv pa 4 0 none (mw h 15 0 (pa : Int)) rfl hP (fun p' q' b1 b2 b3 => by omega)
  rw [show ((0 : Nat) : Int) = 0 from rfl] at a1
  have hP1 := CkP_fr a2 (by simp) hP
  obtain ⟨h2, b1, b2, b3⟩ := c_take54 pa o' 4 0 h1 rfl hP1 (fun k hk => by omega)
  rw [show ((0 : Nat) : Int) = 0 from rfl] at b1
  have hP2 := CkP_fr b2 (by simp) hP1
  refine ⟨h2, ?_, hP2, ⟨fun p q hp hq => ?_, b3⟩, Fr_tr (Fr_mw h _ (by simp)) (Fr_tr (Fr_mono a2 (by simp)) (Fr_mono b2 (by simp))), fun j hj => ?_⟩
  · rw [q_Ck_take _ _ _ (o_15 hL), if_pos (by omega), f_15 hL (by decide), Option.bind_some, a1, b1]
  · rw [b2.2 21 (by simp)]
    exact a3 p q hp hq (by omega)
  · rw [b2.2 15 (by simp), a2.2 15 (by simp), mw_d _ _ hj]
end Take
