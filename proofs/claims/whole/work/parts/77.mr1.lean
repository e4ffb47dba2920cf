/-! THE MODEL'S MACHINE: what it holds -/
def up (v : Int) : Int := if 10000 ≤ v ∧ v < 20000 then v + 20000 else v
def Mr (h h' : mH) : Prop := h'.1 = h.1 ∧ (∀ a, a ≠ 43 → (a < 57 ∨ 60 < a) → h'.2 a = h.2 a) ∧ ∀ j, (j < 32 ∨ 36 < j) → h'.2 43 j = h.2 43 j
theorem Mr_rf (h : mH) : Mr h h := ⟨rfl, fun _ _ _ => rfl, fun _ _ => rfl⟩
theorem Mr_tr {h h1 h2 : mH} (a : Mr h h1) (b : Mr h1 h2) : Mr h h2 := ⟨b.1.trans a.1, fun k k1 k2 => (b.2.1 k k1 k2).trans (a.2.1 k k1 k2), fun j hj => (b.2.2 j hj).trans (a.2.2 j hj)⟩
theorem Mr_43 (h : mH) {j : Nat} (v : Int) (h1 : 32 ≤ j) (h2 : j ≤ 36) : Mr h (mw h 43 j v) := ⟨rfl, fun a k1 _ => mw_o _ _ _ k1, fun i hi => mw_d _ _ (by omega)⟩
theorem Mr_r (h : mH) {a : Nat} (j : Nat) (v : Int) (h1 : 57 ≤ a) (h2 : a ≤ 60) : Mr h (mw h a j v) := ⟨rfl, fun b k1 k2 => mw_o _ _ _ (by omega), fun i hi => by rw [mw_o _ _ _ (by omega)]⟩
theorem Mr_Ly {L : Nat} {h h' : mH} (f : Mr h h') (hL : LyM L h) : LyM L h' := by
  refine ⟨f.1.trans hL.1, fun a j v e => ?_⟩
  by_cases q : a = 43
  · subst q
    by_cases w : j < 32 ∨ 36 < j
    · rw [f.2.2 j w]; exact hL.2 43 j v e
    · exfalso
      have : j = 32 ∨ j = 33 ∨ j = 34 ∨ j = 35 ∨ j = 36 := by omega
      rcases this with z | z | z | z | z <;> subst z <;> cases e
  · by_cases w : a < 57 ∨ 60 < a
    · rw [f.2.1 a q w]; exact hL.2 a j v e
    · exfalso
      have : a = 57 ∨ a = 58 ∨ a = 59 ∨ a = 60 := by omega
      rcases this with z | z | z | z <;> subst z <;> cases e
theorem Mr_K {L b : Nat} {Q : Nat → Int} {h h' : mH} (f : Mr h h') (hk : MK L b Q h) : MK L b Q h' :=
  ⟨Mr_Ly f hk.1, Sta_c (f.2.2 0 (by decide)) (f.2.2 3 (by decide)) (fun a ha => f.2.1 a (by omega) (by omega)) hk.2.1, by rw [f.2.1 53 (by decide) (by decide)]; exact hk.2.2.1, hk.2.2.2⟩
theorem MI_r {L n : Nat} {T P : Nat → Int} {U K : List (Nat → Int)} {h h' : mH} (hm : MI L n T P U K h) (f : Mr h h') : MI L n T P U K h' ∧ MFm h h' := by
  obtain ⟨hL, ⟨t1, t2, t3, t4⟩, hS, h0, ⟨u1, u2, u3⟩, k1, k2, k3⟩ := hm
  have hL' := Mr_Ly f hL
  obtain ⟨f1, f2, f3⟩ := f
  exact ⟨⟨hL', ⟨by rw [f3 17 (by decide)]; exact t1, t2, by rw [f2 54 (by decide) (by decide)]; exact t3, t4⟩, Sta_c (f3 0 (by decide)) (f3 3 (by decide)) (fun a ha => f2 a (by omega) (by omega)) hS, by rw [f2 53 (by decide) (by decide)]; exact h0, ⟨by rw [f3 15 (by decide)]; exact u1, u2, by rw [f2 53 (by decide) (by decide)]; exact u3⟩, by rw [f3 16 (by decide)]; exact k1, k2, by rw [f2 53 (by decide) (by decide)]; exact k3⟩, f1, fun a ha => f2 a (by omega) (by omega)⟩
theorem up_w {P : Nat → Int} {n : Nat} {v : Int} (hv : vv P n v) : up v < 20000 ↔ isW v := by
  unfold up isW
  rcases hv with z | ⟨l, z1, z2⟩ | ⟨t, z1, z2⟩
  · unfold isW at z; rw [if_neg (by omega)]; omega
  · by_cases q : 10000 ≤ v ∧ v < 20000
    · rw [if_pos q]; omega
    · rw [if_neg q]; omega
  · rw [if_neg (by omega)]; omega
theorem up_id {v : Int} (h : v < 10000 ∨ 20000 ≤ v) : up v = v := by unfold up; rw [if_neg (by omega)]
theorem up_l {l : Nat} (h : l < 10000) : up (10000 + (l : Int)) = 30000 + (l : Int) := by unfold up; rw [if_pos (by omega)]; omega
theorem up_nn {P : Nat → Int} {n : Nat} {v : Int} (hv : vv P n v) : 0 ≤ up v := by
  unfold up
  rcases hv with z | ⟨l, z1, z2⟩ | ⟨t, z1, z2⟩
  · unfold isW at z; rw [if_neg (by omega)]; omega
  · by_cases q : 10000 ≤ v ∧ v < 20000
    · rw [if_pos q]; omega
    · rw [if_neg q]; omega
  · rw [if_neg (by omega)]; omega
theorem up_b {P : Nat → Int} {n : Nat} {v : Int} (hV : Val P) (hn : n ≤ 12) (hv : vv P n v) : 30000 ≤ up v ↔ isB v := by
  have h4L := hV.2.1
  have h4S := hV.1
  unfold up isB
  rcases hv with z | ⟨l, z1, z2⟩ | ⟨t, z1, z2⟩
  · unfold isW at z; rw [if_neg (by omega)]; omega
  · rw [if_pos (by omega)]; omega
  · rw [if_neg (by omega)]; omega
/-- what the model holds of a state of the run -/
def MRn (h : mH) (P : Nat → Int) (s : mSt) : Prop := (∀ r, r < 4 → h.2 57 r = up (sR s r)) ∧ h.2 43 32 = ((sK s).length : Int) ∧ (∀ i, i < (sK s).length → h.2 60 ((sK s).length - 1 - i) = up ((sK s).getD i 0)) ∧
  h.2 43 33 = (sN s : Int) - 4 ∧ h.2 43 34 = (sP s : Int) ∧ h.2 43 35 = (sA s : Int) ∧ ∀ t : Nat, ((t : Int) < pS P ∨ (4 ≤ t ∧ t < sN s)) → h.2 59 t = sO s t ∧ ∀ f : Nat, (f : Int) < pFn P (sO s t).toNat → h.2 58 (4 * t + f) = up (sH s (3 * t + f))
section Mr
variable {L : Nat} {P : Nat → Int} {h : mH} {s : mSt}
theorem t57 : (57 : Int).toNat = 57 := rfl
theorem t58 : (58 : Int).toNat = 58 := rfl
theorem t59 : (59 : Int).toNat = 59 := rfl
theorem t60 : (60 : Int).toNat = 60 := rfl
theorem ld57 (hL : LyM L h) {p : Nat} (hp : p < 4) : ald 10 h (57 : Int).toNat (p : Int) = some (h.2 57 p) := by rw [t57, r_57 hL (by omega) (by omega), tn]
theorem st57 (hL : LyM L h) {p : Nat} (hp : p < 4) (v : Int) : ast h (57 : Int).toNat (p : Int) v = some (mw h 57 p v) := by rw [t57, w_57 hL (by omega) (by omega), tn]
theorem ld58 (hL : LyM L h) {p : Nat} (hp : p < 48) : ald 10 h (58 : Int).toNat (p : Int) = some (h.2 58 p) := by rw [t58, r_58 hL (by omega) (by omega), tn]
theorem st58 (hL : LyM L h) {p : Nat} (hp : p < 48) (v : Int) : ast h (58 : Int).toNat (p : Int) v = some (mw h 58 p v) := by rw [t58, w_58 hL (by omega) (by omega), tn]
theorem ld59 (hL : LyM L h) {p : Nat} (hp : p < 12) : ald 10 h (59 : Int).toNat (p : Int) = some (h.2 59 p) := by rw [t59, r_59 hL (by omega) (by omega), tn]
theorem st59 (hL : LyM L h) {p : Nat} (hp : p < 12) (v : Int) : ast h (59 : Int).toNat (p : Int) v = some (mw h 59 p v) := by rw [t59, w_59 hL (by omega) (by omega), tn]
theorem ld60 (hL : LyM L h) {p : Nat} (hp : p < 16) : ald 10 h (60 : Int).toNat (p : Int) = some (h.2 60 p) := by rw [t60, r_60 hL (by omega) (by omega), tn]
theorem st60 (hL : LyM L h) {p : Nat} (hp : p < 16) (v : Int) : ast h (60 : Int).toNat (p : Int) v = some (mw h 60 p v) := by rw [t60, w_60 hL (by omega) (by omega), tn]
theorem MRn_how (hr : MRn h P s) (v : Int) : MRn (mw h 43 36 v) P s := by
  obtain ⟨r1, r2, r3, r4, r5, r6, r7⟩ := hr
  exact ⟨by rw [mw_o _ _ _ (by decide)]; exact r1, by rw [mw_d _ _ (by decide)]; exact r2, by rw [mw_o _ _ _ (by decide)]; exact r3, by rw [mw_d _ _ (by decide)]; exact r4, by rw [mw_d _ _ (by decide)]; exact r5, by rw [mw_d _ _ (by decide)]; exact r6, by rw [mw_o _ _ _ (by decide), mw_o _ _ _ (by decide)]; exact r7⟩
theorem MRn_reg (hr : MRn h P s) (d : Nat) (v : Int) : MRn (mw h 57 d (up v)) P (ru (sR s) d v, sK s, sH s, sO s, sN s, sA s, sP s) := by
  obtain ⟨r1, r2, r3, r4, r5, r6, r7⟩ := hr
  refine ⟨fun r hr => ?_, by rw [mw_o _ _ _ (by decide)]; exact r2, by rw [mw_o _ _ _ (by decide)]; exact r3, by rw [mw_o _ _ _ (by decide)]; exact r4, by rw [mw_o _ _ _ (by decide)]; exact r5, by rw [mw_o _ _ _ (by decide)]; exact r6, by rw [mw_o _ _ _ (by decide), mw_o _ _ _ (by decide)]; exact r7⟩
  show _ = up (ru (sR s) d v r)
  by_cases e : r = d
  · rw [e, mw_s, ru_s]
  · rw [mw_d _ _ e, ru_d _ _ e]; exact r1 r hr
theorem MRn_nx (hr : MRn h P s) : MRn (mw h 43 34 ((sP s + 1 : Nat) : Int)) P (sNx s) := by
  obtain ⟨r1, r2, r3, r4, r5, r6, r7⟩ := hr
  exact ⟨by rw [mw_o _ _ _ (by decide)]; exact r1, by rw [mw_d _ _ (by decide)]; exact r2, by rw [mw_o _ _ _ (by decide)]; exact r3, by rw [mw_d _ _ (by decide)]; exact r4, by rw [mw_s]; rfl, by rw [mw_d _ _ (by decide)]; exact r6, by rw [mw_o _ _ _ (by decide), mw_o _ _ _ (by decide)]; exact r7⟩
theorem MRn_go (hr : MRn h P s) (l : Nat) : MRn (mw (mw h 43 35 (l : Int)) 43 34 0) P (sGo s l) := by
  obtain ⟨r1, r2, r3, r4, r5, r6, r7⟩ := hr
  exact ⟨by rw [mw_o _ _ _ (by decide), mw_o _ _ _ (by decide)]; exact r1, by rw [mw_d _ _ (by decide), mw_d _ _ (by decide)]; exact r2, by rw [mw_o _ _ _ (by decide), mw_o _ _ _ (by decide)]; exact r3, by rw [mw_d _ _ (by decide), mw_d _ _ (by decide)]; exact r4, by rw [mw_s]; rfl, by rw [mw_d _ _ (by decide), mw_s]; rfl, by rw [mw_o _ _ _ (by decide), mw_o _ _ _ (by decide), mw_o _ _ _ (by decide), mw_o _ _ _ (by decide)]; exact r7⟩
/-- what one step leaves -/
def MkM (h : mH) (P : Nat → Int) (r : Option mH) (s : Int × mSt) : Prop := ∃ h', r = some h' ∧ Mr h h' ∧ MRn h' P s.2 ∧ h'.2 43 36 = s.1
theorem m_how (hL : LyM L h) (hr : MRn h P s) (v : Int) : MkM h P ((pfd 6 36 h 43 v).bind fun h' => some h') (v, s) := by
  rw [f_43 hL (by decide), Option.bind_some]
  exact ⟨_, rfl, Mr_43 h v (by decide) (by decide), MRn_how hr v, mw_s _ _ _ _⟩
theorem m_pc1 (hL : LyM L h) (hr : MRn h P s) (hp : sP s < 100) (h0 : h.2 43 36 = 0) : MkM h P ((gfd 6 34 h 43).bind fun v => (pfd 6 34 h 43 (w32 (v + 1))).bind fun h' => some h') (0, sNx s) := by
  rw [g_43 hL (by decide), Option.bind_some, hr.2.2.2.2.1, w32_nn _ (by omega), f_43 hL (by decide), Option.bind_some]
  exact ⟨_, rfl, Mr_43 h _ (by decide) (by decide), MRn_nx hr, by rw [mw_d _ _ (by decide)]; exact h0⟩
theorem m_lands (hL : LyM L h) (hr : MRn h P s) (hp : sP s < 100) (h0 : h.2 43 36 = 0) {d : Nat} (hd : d < 4) {u : Int} (v : Int) (hu : u = up v) : MkM h P (F_Md_lands 43 (d : Int) u h) (0, sSet s d v) := by
  have L1 : LyM L (mw h 57 d (up v)) := LyM_mw hL rfl
  have r1 := MRn_reg hr d v
  obtain ⟨h', z1, z2, z3, z4⟩ := m_pc1 L1 r1 hp (by rw [mw_o _ _ _ (by decide)]; exact h0)
  rw [hu, q_Md_lands _ _ _ _ (o_43 hL), p_43_28 hL, Option.bind_some, st57 hL hd, Option.bind_some, z1]
  exact ⟨h', rfl, Mr_tr (Mr_r h d _ (by decide) (by decide)) z2, z3, z4⟩
theorem m_goesTo (hL : LyM L h) (hr : MRn h P s) (h0 : h.2 43 36 = 0) (l : Nat) : MkM h P (F_Md_goesTo 43 (l : Int) h) (0, sGo s l) := by
  have L1 : LyM L (mw h 43 35 (l : Int)) := LyM_mw hL rfl
  rw [q_Md_goesTo _ _ _ (o_43 hL), f_43 hL (by decide), Option.bind_some, f_43 L1 (by decide), Option.bind_some]
  exact ⟨_, rfl, Mr_tr (Mr_43 h _ (by decide) (by decide)) (Mr_43 _ _ (by decide) (by decide)), MRn_go hr l, by rw [mw_d _ _ (by decide), mw_d _ _ (by decide)]; exact h0⟩
theorem m_isWord {n : Nat} {v : Int} (hv : vv P n v) (h : mH) : F_Md_isWord (up v) h = some (b2i (isW v), h) := by
  rw [q_Md_isWord]
  by_cases q : isW v
  · rw [if_neg (by have := (up_w hv).mpr q; omega), b2i_t q]
  · rw [if_pos (by
      by_cases w : 20000 ≤ up v
      · exact w
      · exact absurd ((up_w hv).mp (by omega)) q), b2i_f q]
end Mr
