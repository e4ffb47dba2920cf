/-! shelves -/
def ShO (h : mH) (a N : Nat) : Prop := h.1[a]? = some (3, 3) ∧ h.1[a + 1]? = some (13, N) ∧ h.2 a 0 = ((a + 1 : Nat) : Int) ∧ (∀ j, j < N → h.2 (a + 1) j = ((a + 2 + j : Nat) : Int)) ∧ (∀ j, j < N → h.1[a + 2 + j]? = some (10, 154)) ∧ 6 ≤ a ∧ (N = 8 ∨ N = 2)
def ShI (h : mH) (a N : Nat) (Q : List (Nat → Int)) : Prop := (∃ nx : Nat, nx < N ∧ h.2 a 1 = nx ∧ ∀ i q, Q[i]? = some q → h.2 (a + 2 + (nx + N - 1 - i) % N) = q) ∧ h.2 a 2 = Q.length ∧ Q.length ≤ N ∧ ∀ j, j < N → Zr (h.2 (a + 2 + j))
/-- of the shelf a alone something has changed -/
def ShF (a N : Nat) (h h' : mH) : Prop := h'.1 = h.1 ∧ (∀ b, b ≠ a → (b < a + 2 ∨ a + 2 + N ≤ b) → h'.2 b = h.2 b) ∧ h'.2 a 0 = h.2 a 0
theorem Ly_sh8 {L : Nat} {h : mH} (hL : Ly L h) : ShO h 29 8 := by
  refine ⟨sh_29 hL, sh_30 hL, hL.2 29 0 _ rfl, fun j hj => ?_, fun j hj => ?_, by decide, Or.inl rfl⟩
  · refine hL.2 30 j _ ?_
    have : j = 0 ∨ j = 1 ∨ j = 2 ∨ j = 3 ∨ j = 4 ∨ j = 5 ∨ j = 6 ∨ j = 7 := by omega
    rcases this with e | e | e | e | e | e | e | e <;> subst e <;> rfl
  · have : j = 0 ∨ j = 1 ∨ j = 2 ∨ j = 3 ∨ j = 4 ∨ j = 5 ∨ j = 6 ∨ j = 7 := by omega
    rcases this with e | e | e | e | e | e | e | e <;> subst e
    · exact sh_31 hL
    · exact sh_32 hL
    · exact sh_33 hL
    · exact sh_34 hL
    · exact sh_35 hL
    · exact sh_36 hL
    · exact sh_37 hL
    · exact sh_38 hL
theorem Ly_sh2 {L : Nat} {h : mH} (hL : Ly L h) : ShO h 39 2 := by
  refine ⟨sh_39 hL, sh_40 hL, hL.2 39 0 _ rfl, fun j hj => ?_, fun j hj => ?_, by decide, Or.inr rfl⟩
  · refine hL.2 40 j _ ?_
    have : j = 0 ∨ j = 1 := by omega
    rcases this with e | e <;> subst e <;> rfl
  · have : j = 0 ∨ j = 1 := by omega
    rcases this with e | e <;> subst e
    · exact sh_41 hL
    · exact sh_42 hL
def nxt (N nx : Nat) : Nat := if nx + 1 < N then nx + 1 else 0
theorem nxt_lt {N nx : Nat} (h : nx < N) : nxt N nx < N := by unfold nxt; split <;> omega
theorem shm1 {N nx : Nat} (hN : N = 8 ∨ N = 2) (h : nx < N) : (nxt N nx + N - 1 - 0) % N = nx := by
  unfold nxt
  rcases hN with z | z <;> subst z <;> split <;> omega
theorem shm2 {N nx i : Nat} (hN : N = 8 ∨ N = 2) (h : nx < N) (hi : i + 1 < N) : (nxt N nx + N - 1 - (i + 1)) % N = (nx + N - 1 - i) % N ∧ (nx + N - 1 - i) % N ≠ nx := by
  unfold nxt
  rcases hN with z | z <;> subst z <;> split <;> omega
theorem w32_nn (n : Nat) (h : n < 1000) : w32 ((n : Int) + 1) = ((n + 1 : Nat) : Int) := by unfold w32; omega
theorem w32_pp (n : Nat) (h : n < 1000) : w32 (((n + 1 : Nat) : Int) - 1) = (n : Int) := by unfold w32; omega
section Shelf
variable {h : mH} {a N : Nat}
theorem sh_o (hs : ShO h a N) : isO h a 3 = true := by unfold isO; rw [hs.1]; have := hs.2.2.2.2.2.1; simp; omega
theorem sh_g (hs : ShO h a N) {k : Nat} (hk : k < 3) : gfd 3 k h a = some (h.2 a k) := by unfold gfd; rw [hs.1]; exact if_pos ⟨rfl, hk, by have := hs.2.2.2.2.2.1; omega⟩
theorem sh_f (hs : ShO h a N) {k : Nat} (hk : k < 3) (v : Int) : pfd 3 k h a v = some (mw h a k v) := by unfold pfd; rw [hs.1]; exact if_pos ⟨rfl, hk, by have := hs.2.2.2.2.2.1; omega⟩
theorem sh_n (hs : ShO h a N) : aln h (a + 1) = some (N : Int) := by unfold aln; rw [hs.2.1]; exact if_pos ⟨by show 10 ≤ 13; decide, by show 13 ≤ 13; decide, by show N < 1000000; have := hs.2.2.2.2.2.2; omega, by omega⟩
theorem sh_r (hs : ShO h a N) {j : Nat} (hj : j < N) : ald 13 h (a + 1) (j : Int) = some ((a + 2 + j : Nat) : Int) := by
  unfold ald
  rw [hs.2.1]
  dsimp only
  rw [if_pos ⟨rfl, by omega, by omega, by omega⟩, tn, hs.2.2.2.1 j hj]
theorem ShO_row (hs : ShO h a N) {b : Nat} {f : Nat → Int} (h1 : b ≠ a) (h2 : b ≠ a + 1) : ShO (mrow h b f) a N := by
  obtain ⟨p1, p2, p3, p4, p5, p6⟩ := hs
  exact ⟨p1, p2, by rw [mrow_o h f (Ne.symm h1)]; exact p3, by rw [mrow_o h f (Ne.symm h2)]; exact p4, p5, p6⟩
theorem ShO_mw (hs : ShO h a N) {k : Nat} {v : Int} (hk : k ≠ 0) : ShO (mw h a k v) a N := by
  obtain ⟨p1, p2, p3, p4, p5, p6⟩ := hs
  exact ⟨p1, p2, by rw [mw_d _ _ (Ne.symm hk)]; exact p3, by rw [mw_o _ _ _ (by omega)]; exact p4, p5, p6⟩
theorem c_shClear (hs : ShO h a N) {Q : List (Nat → Int)} (hi : ShI h a N Q) : ∃ h', F_Sh_clear a h = some h' ∧ ShI h' a N [] ∧ ShF a N h h' := by
  refine ⟨mw h a 2 0, ?_, ⟨?_, mw_s _ _ _ _, by simp, fun j hj => ?_⟩, rfl, fun b hb _ => mw_o _ _ _ hb, mw_d _ _ (by decide)⟩
  · rw [q_Sh_clear _ _ (sh_o hs), sh_f hs (by decide), Option.bind_some]
  · obtain ⟨⟨nx, h1, h2, h3⟩, -⟩ := hi
    exact ⟨nx, h1, by rw [mw_d _ _ (by decide)]; exact h2, fun i q e => by simp at e⟩
  · rw [mw_o _ _ _ (by omega)]
    exact hi.2.2.2 j hj
theorem c_hold1 (hs : ShO h a N) {nx : Nat} (n1 : nx < N) (n2 : h.2 a 1 = nx) (m3 : Zr (h.2 (a + 2 + nx))) {b : Nat} (hb : h.1[b]? = some (10, 154)) (hz : Zr (h.2 b)) (h0 : b ≠ 0) : F_Sh_hold a b h = B_Sh_hold_75 a b (nxt N nx : Nat) a (mrow h (a + 2 + nx) (h.2 b)) := by
  have h6 := hs.2.2.2.2.2.1
  have hn8 := hs.2.2.2.2.2.2
  have e154 : aln h b = some 154 := by unfold aln; rw [hb]; exact if_pos ⟨by decide, by decide, by decide, h0⟩
  have a6 : 6 ≤ a + 2 + nx := by omega
  have d1 : a + 2 + nx ≠ a := by omega
  have d2 : a + 2 + nx ≠ a + 1 := by omega
  have hs1 : ShO (mrow h (a + 2 + nx) (h.2 b)) a N := ShO_row hs d1 d2
  have hk1 : (mrow h (a + 2 + nx) (h.2 b)).2 a = h.2 a := mrow_o _ _ (Ne.symm d1)
  have hcp : acp h b (a + 2 + nx) 154 = some (mrow h (a + 2 + nx) (h.2 b)) := acp_z hb (hs.2.2.2.2.1 nx n1) hz m3 a6 h0
  have k1 : ¬ (nx : Int) < 0 := by omega
  have k2 : ¬ (N : Int) ≤ (nx : Int) := by omega
  have k3 : (N : Int) ≤ ((nx + 1 : Nat) : Int) ↔ ¬ nx + 1 < N := by omega
  have k6 : nx < 1000 := by omega
  have g0 : gfd 3 0 h a = some ((a + 1 : Nat) : Int) := by rw [sh_g hs (by decide), hs.2.2.1]
  have g1 : gfd 3 1 h a = some (nx : Int) := by rw [sh_g hs (by decide), n2]
  have g0' : gfd 3 0 (mrow h (a + 2 + nx) (h.2 b)) a = some ((a + 1 : Nat) : Int) := by rw [sh_g hs1 (by decide), hs1.2.2.1]
  have g1' : gfd 3 1 (mrow h (a + 2 + nx) (h.2 b)) a = some (nx : Int) := by rw [sh_g hs1 (by decide), hk1, n2]
  rw [q_Sh_hold _ _ _ (sh_o hs)]
  rw [g1, Option.bind_some, if_neg k1, Option.bind_some, g0, Option.bind_some, tn, sh_n hs, Option.bind_some, if_neg k2, if_neg h0, e154, Option.bind_some, if_pos rfl, Option.bind_some, Option.bind_some, tn, sh_r hs n1, Option.bind_some, tn, hcp, Option.bind_some, g1', Option.bind_some, g0', Option.bind_some, tn, sh_n hs1, Option.bind_some, Option.bind_some, w32_nn nx k6]
  unfold nxt
  by_cases q : nx + 1 < N
  · rw [if_neg (fun z => k3.mp z q), if_pos q]
  · rw [if_pos (k3.mpr q), if_neg q, show ((0 : Nat) : Int) = 0 from rfl]
theorem c_hold2 (hs : ShO h a N) {m : Nat} (hm : m ≤ 8) (m1 : h.2 a 2 = m) (ny : Int) (b : Nat) : B_Sh_hold_75 a b ny a h = some (mw (mw h a 1 ny) a 2 ((if m < N then m + 1 else m : Nat) : Int)) := by
  have hs2 : ShO (mw h a 1 ny) a N := ShO_mw hs (by decide)
  have hw : (mw h a 1 ny).2 a 2 = m := by rw [mw_d _ _ (by decide), m1]
  have k6 : m < 1000 := by omega
  have k4 : (N : Int) ≤ (m : Int) ↔ ¬ m < N := by omega
  have g0 : gfd 3 0 (mw h a 1 ny) a = some ((a + 1 : Nat) : Int) := by rw [sh_g hs2 (by decide), hs2.2.2.1]
  have g2 : gfd 3 2 (mw h a 1 ny) a = some (m : Int) := by rw [sh_g hs2 (by decide), hw]
  rw [q_Sh_hold_75, sh_f hs (by decide)]
  simp only [Option.bind_some, g0, g2, tn, sh_n hs2, w32_nn m k6]
  by_cases q : m < N
  · rw [if_neg (fun z => k4.mp z q), sh_f hs2 (by decide), Option.bind_some, if_pos q]
  · rw [if_pos (k4.mpr q), if_neg q]
    have : mw (mw h a 1 ny) a 2 (m : Int) = mw h a 1 ny := by
      rw [mw_r (mw h a 1 ny), ← hw]
      have : ru ((mw h a 1 ny).2 a) 2 ((mw h a 1 ny).2 a 2) = (mw h a 1 ny).2 a := by
        funext i
        unfold ru
        split
        · rename_i e; rw [e]
        · rfl
      rw [this, mrow_id]
    rw [this]
/-- Shelf.hold -/
theorem c_hold (hs : ShO h a N) {Q : List (Nat → Int)} (hi : ShI h a N Q) {b : Nat} (hb : h.1[b]? = some (10, 154)) (hz : Zr (h.2 b)) (h0 : b ≠ 0) (hba : b < a) : ∃ h', F_Sh_hold a b h = some h' ∧ ShI h' a N ((h.2 b :: Q).take N) ∧ ShF a N h h' := by
  obtain ⟨⟨nx, n1, n2, n3⟩, m1, m2, m3⟩ := hi
  have hN := hs.2.2.2.2.2.2
  have m8 : Q.length ≤ 8 := by omega
  have d1 : a + 2 + nx ≠ a := by omega
  have d2 : a + 2 + nx ≠ a + 1 := by omega
  have hs1 : ShO (mrow h (a + 2 + nx) (h.2 b)) a N := ShO_row hs d1 d2
  have hk1 : (mrow h (a + 2 + nx) (h.2 b)).2 a = h.2 a := mrow_o _ _ (Ne.symm d1)
  have mrw : ∀ j : Nat, a + 2 + j ≠ a := fun j => by omega
  refine ⟨mw (mw (mrow h (a + 2 + nx) (h.2 b)) a 1 (nxt N nx : Nat)) a 2 ((if Q.length < N then Q.length + 1 else Q.length : Nat) : Int), ?_, ⟨⟨nxt N nx, nxt_lt n1, ?_, ?_⟩, ?_, ?_, ?_⟩, rfl, ?_, ?_⟩
  · rw [c_hold1 hs n1 n2 (m3 nx n1) hb hz h0, c_hold2 hs1 m8 (by rw [hk1, m1])]
  · rw [mw_d _ _ (by decide), mw_s]
  · intro i x e
    rw [mw_o _ _ _ (mrw _), mw_o _ _ _ (mrw _)]
    have hi : i < N := by
      have := (List.getElem?_eq_some_iff.mp e).1
      rw [List.length_take] at this
      omega
    rw [List.getElem?_take_of_lt hi] at e
    rcases i with _ | i
    · rw [shm1 hN n1, mrow_s]
      simpa using e
    · have := shm2 hN n1 hi
      rw [this.1, mrow_o _ _ (by have := this.2; omega)]
      exact n3 i x (by simpa using e)
  · rw [mw_s, List.length_take, List.length_cons]
    congr 1
    split <;> omega
  · rw [List.length_take]; omega
  · intro j hj
    rw [mw_o _ _ _ (mrw _), mw_o _ _ _ (mrw _)]
    by_cases z : j = nx
    · rw [z, mrow_s]; exact hz
    · rw [mrow_o _ _ (by omega)]; exact m3 j hj
  · intro c hc hr
    rw [mw_o _ _ _ hc, mw_o _ _ _ hc, mrow_o _ _ (by omega)]
  · rw [mw_d _ _ (by decide), mw_d _ _ (by decide), hk1]
/-- Shelf.giveBack -/
theorem c_giveBack (hs : ShO h a N) {q : Nat → Int} {Q : List (Nat → Int)} (hi : ShI h a N (q :: Q)) {p : Nat} (hp : PgO h p) (hy : Zr (h.2 (p + 1))) (hpa : p + 1 < a) : ∃ h', F_Sh_giveBack a p h = some h' ∧ ShI h' a N Q ∧ ShF a N (mrow h (p + 1) q) h' := by
  obtain ⟨⟨nx, n1, n2, n3⟩, m1, m2, m3⟩ := hi
  have hN := hs.2.2.2.2.2.2
  have h6 := hs.2.2.2.2.2.1
  have hp6 := hp.2.2.2
  obtain ⟨ny, y1, y2⟩ : ∃ ny : Nat, ny = (nx + N - 1) % N ∧ ny < N := ⟨_, rfl, Nat.mod_lt _ (by omega)⟩
  rw [List.length_cons] at m1 m2
  have hq : h.2 (a + 2 + ny) = q := by
    have := n3 0 q (by simp)
    rw [y1]
    exact this
  have g0 : gfd 3 0 h a = some ((a + 1 : Nat) : Int) := by rw [sh_g hs (by decide), hs.2.2.1]
  have g1 : gfd 3 1 h a = some (nx : Int) := by rw [sh_g hs (by decide), n2]
  have g2 : gfd 3 2 h a = some ((Q.length + 1 : Nat) : Int) := by rw [sh_g hs (by decide), m1]
  have s1 : F_Sh_giveBack a p h = B_Sh_giveBack_23 a p (ny : Int) h := by
    have e1 : nx = 0 → w32 ((N : Int) - 1) = (ny : Int) := fun z => by
      rw [y1, z]
      rcases hN with z | z <;> subst z <;> decide
    have e2 : nx ≠ 0 → w32 ((nx : Int) - 1) = (ny : Int) := fun z => by
      have : ny = nx - 1 := by
        rw [y1]
        rcases hN with z | z <;> subst z <;> omega
      rw [this]
      unfold w32
      omega
    have k1 : (nx : Int) ≤ 0 ↔ nx = 0 := by omega
    rw [q_Sh_giveBack _ _ _ (sh_o hs)]
    simp only [g0, g1, Option.bind_some, tn, sh_n hs]
    by_cases z : nx = 0
    · rw [if_pos (k1.mpr z), e1 z]
    · rw [if_neg (fun w => z (k1.mp w)), e2 z]
  have hs1 : ShO (mrow h (p + 1) q) a N := ShO_row hs (by omega) (by omega)
  have hk1 : (mrow h (p + 1) q).2 a = h.2 a := mrow_o _ _ (by omega)
  have hs2 : ShO (mw (mrow h (p + 1) q) a 1 ny) a N := ShO_mw hs1 (by decide)
  have hw : ((mw (mrow h (p + 1) q) a 1 (ny : Int)).2 a 2) = ((Q.length + 1 : Nat) : Int) := by rw [mw_d _ _ (by decide), hk1, m1]
  have mrw : ∀ j : Nat, a + 2 + j ≠ a := fun j => by omega
  have mrp : ∀ j : Nat, a + 2 + j ≠ p + 1 := fun j => by omega
  refine ⟨mw (mw (mrow h (p + 1) q) a 1 ny) a 2 (Q.length : Int), ?_, ⟨⟨ny, y2, ?_, ?_⟩, ?_, ?_, ?_⟩, rfl, ?_, ?_⟩
  · have k1 : ¬ ((Q.length + 1 : Nat) : Int) ≤ 0 := by omega
    have k2 : ¬ (ny : Int) < 0 := by omega
    have k3 : ¬ (N : Int) ≤ (ny : Int) := by omega
    have k4 : p ≠ 0 := by omega
    have k5 : a + 2 + ny ≠ 0 := by omega
    have e2 : w32 (((Q.length + 1 : Nat) : Int) - 1) = (Q.length : Int) := by unfold w32; omega
    have hcp := c_copyFrom hp (hs.2.2.2.2.1 ny y2) (m3 ny y2) hy k5
    rw [hq] at hcp
    have g2'' : gfd 3 2 (mw (mrow h (p + 1) q) a 1 (ny : Int)) a = some ((Q.length + 1 : Nat) : Int) := by rw [sh_g hs2 (by decide), hw]
    rw [s1, q_Sh_giveBack_23]
    simp only [g0, g2, Option.bind_some, tn, sh_n hs, if_neg k1, if_neg k2, if_neg k3, if_pos k4, sh_r hs y2, hcp]
    rw [sh_f hs1 (by decide)]
    simp only [Option.bind_some, g2'', e2]
    rw [sh_f hs2 (by decide), Option.bind_some]
  · rw [mw_d _ _ (by decide), mw_s]
  · intro i x e
    rw [mw_o _ _ _ (mrw _), mw_o _ _ _ (mrw _), mrow_o _ _ (mrp _)]
    have hi : i < Q.length := (List.getElem?_eq_some_iff.mp e).1
    have := n3 (i + 1) x (by simpa using e)
    have z : (ny + N - 1 - i) % N = (nx + N - 1 - (i + 1)) % N := by
      rw [y1]
      rcases hN with z | z <;> subst z <;> omega
    rw [z]
    exact this
  · rw [mw_s]
  · omega
  · intro j hj
    rw [mw_o _ _ _ (mrw _), mw_o _ _ _ (mrw _), mrow_o _ _ (mrp _)]
    exact m3 j hj
  · intro c hc hr
    rw [mw_o _ _ _ hc, mw_o _ _ _ hc]
  · rw [mw_d _ _ (by decide), mw_d _ _ (by decide)]
end Shelf
