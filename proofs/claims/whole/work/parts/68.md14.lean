/-! THE MODEL: the checker's registers and pile; jumps -/
def Ms (h h' : mH) : Prop := h'.1 = h.1 ∧ (∀ a, a ≠ 43 → a ≠ 55 → a ≠ 56 → h'.2 a = h.2 a) ∧ ∀ j, (j < 24 ∨ 28 ≤ j) → h'.2 43 j = h.2 43 j
theorem Ms_rf (h : mH) : Ms h h := ⟨rfl, fun _ _ _ _ => rfl, fun _ _ => rfl⟩
theorem Ms_tr {h h1 h2 : mH} (a : Ms h h1) (b : Ms h1 h2) : Ms h h2 := ⟨b.1.trans a.1, fun k k1 k2 k3 => (b.2.1 k k1 k2 k3).trans (a.2.1 k k1 k2 k3), fun j hj => (b.2.2 j hj).trans (a.2.2 j hj)⟩
theorem Ms_43 (h : mH) {j : Nat} (v : Int) (h1 : 24 ≤ j) (h2 : j < 28) : Ms h (mw h 43 j v) := ⟨rfl, fun a k1 _ _ => mw_o _ _ _ k1, fun i hi => mw_d _ _ (by omega)⟩
theorem Ms_55 (h : mH) (j : Nat) (v : Int) : Ms h (mw h 55 j v) := ⟨rfl, fun a _ k2 _ => mw_o _ _ _ k2, fun i hi => by rw [mw_o _ _ _ (by decide)]⟩
theorem Ms_56 (h : mH) (j : Nat) (v : Int) : Ms h (mw h 56 j v) := ⟨rfl, fun a _ _ k3 => mw_o _ _ _ k3, fun i hi => by rw [mw_o _ _ _ (by decide)]⟩
theorem Ms_Ly {L : Nat} {h h' : mH} (f : Ms h h') (hL : LyM L h) : LyM L h' := by
  refine ⟨f.1.trans hL.1, fun a j v e => ?_⟩
  by_cases q : a = 43
  · subst q
    by_cases w : j < 24 ∨ 28 ≤ j
    · rw [f.2.2 j w]; exact hL.2 43 j v e
    · exfalso
      have : j = 24 ∨ j = 25 ∨ j = 26 ∨ j = 27 := by omega
      rcases this with z | z | z | z <;> subst z <;> cases e
  · by_cases q5 : a = 55
    · subst q5; cases e
    · by_cases q6 : a = 56
      · subst q6; cases e
      · rw [f.2.1 a q q5 q6]; exact hL.2 a j v e
theorem Ms_K {L b : Nat} {Q : Nat → Int} {h h' : mH} (f : Ms h h') (hk : MK L b Q h) : MK L b Q h' :=
  ⟨Ms_Ly f hk.1, Sta_c (f.2.2 0 (by decide)) (f.2.2 3 (by decide)) (fun a ha => f.2.1 a (by omega) (by omega) (by omega)) hk.2.1, by rw [f.2.1 53 (by decide) (by decide) (by decide)]; exact hk.2.2.1, hk.2.2.2⟩
def MkR (h : mH) (rg : Nat → Int) (sk : List Int) (op : Int) : Prop := (∀ r : Nat, r < 4 → h.2 55 r = rg r) ∧ h.2 43 24 = sk.length ∧ sk.length ≤ 6 ∧ (∀ i : Nat, i < sk.length → h.2 56 (sk.length - 1 - i) = sk.getD i 0) ∧ h.2 43 25 = op
theorem t55 : (55 : Int).toNat = 55 := rfl
theorem t56 : (56 : Int).toNat = 56 := rfl
theorem ix6 {k i : Nat} (hi : i < k) (hk : k < 100) : w32 ((w32 ((k : Int) - 1)) - (i : Int)) = ((k - 1 - i : Nat) : Int) := by
  rw [w32_id (x := (k : Int) - 1) (by omega) (by omega), w32_id (by omega) (by omega)]
  omega
section Mk
variable {L b : Nat} {Q rg : Nat → Int} {sk : List Int} {op : Int} {h : mH}
theorem ld55 (hL : LyM L h) {p : Nat} (hp : p < 4) : ald 10 h (55 : Int).toNat (p : Int) = some (h.2 55 p) := by
  rw [t55, r_55 hL (by omega) (by omega), tn]
theorem st55 (hL : LyM L h) {p : Nat} (hp : p < 4) (v : Int) : ast h (55 : Int).toNat (p : Int) v = some (mw h 55 p v) := by
  rw [t55, w_55 hL (by omega) (by omega), tn]
theorem ld56 (hL : LyM L h) {p : Nat} (hp : p < 8) : ald 10 h (56 : Int).toNat (p : Int) = some (h.2 56 p) := by
  rw [t56, r_56 hL (by omega) (by omega), tn]
theorem st56 (hL : LyM L h) {p : Nat} (hp : p < 8) (v : Int) : ast h (56 : Int).toNat (p : Int) v = some (mw h 56 p v) := by
  rw [t56, w_56 hL (by omega) (by omega), tn]
theorem m_ae5 (hk : MK L b Q h) (hv : Val Q) (hr : MkR h rg sk op) (hrv : ∀ r, r < 4 → tyV Q (rg r)) {l : Nat} (hl : (l : Int) < pL Q) : ∀ (m r : Nat) (A : Prop), r + m = 4 → B_Md_areEnough_5 43 (b : Int) (l : Int) (b2i A) (r : Int) h = some (b2i (A ∧ ∀ j : Nat, r ≤ j → j < 4 → enough Q (rg j) (pW Q l j)), h)
  | 0, r, A, e => by
    have : r = 4 := by omega
    subst this
    rw [q_Md_areEnough_5, if_pos (by decide), rz_b]
    rw [b2i_c (show A ↔ (A ∧ ∀ j : Nat, 4 ≤ j → j < 4 → enough Q (rg j) (pW Q l j)) from ⟨fun a => ⟨a, fun j q1 q2 => by omega⟩, fun a => a.1⟩)]
  | m + 1, r, A, e => by
    obtain ⟨hL, hS, hs, hb⟩ := id hk
    have v2 := hv.2.1
    have l4 : l < 4 := by omega
    have ge : ¬ 4 ≤ (r : Int) := by omega
    have r4 : r < 4 := by omega
    have r30 : r < 30 := by omega
    have rr : r < 1000 := by omega
    have p1 : b + 30 * l + r < 1440 := by omega
    have c1 := (hs l l4).1 r r4
    have key : B_Md_areEnough_5 43 (b : Int) (l : Int) (b2i A) (r : Int) h = B_Md_areEnough_5 43 (b : Int) (l : Int) (b2i (A ∧ enough Q (rg r) (pW Q l r))) ((r + 1 : Nat) : Int) h := by
      rw [q_Md_areEnough_5, if_neg ge]
      by_cases a : A
      · rw [b2i_t a, if_neg (by decide), p_43_22 hL, Option.bind_some, ld55 hL r4, Option.bind_some, p_43_14 hL, Option.bind_some, ix3 hb l4 r30, ld53 hL p1, Option.bind_some, c1, hr.1 r r4, m_isEnough hk hv (hrv r r4) (Or.inl ((hv.2.2.2.2 l hl).1 r r4)), Option.bind_some]
        dsimp only
        by_cases w : enough Q (rg r) (pW Q l r)
        · rw [b2i_t w, if_neg (by decide), q_Md_areEnough_49, w32_nn r rr, b2i_t ⟨a, w⟩]
        · rw [b2i_f w, if_pos rfl, q_Md_areEnough_48, q_Md_areEnough_49, w32_nn r rr, b2i_f (p := A ∧ enough Q (rg r) (pW Q l r)) (fun z => w z.2)]
      · rw [b2i_f a, if_pos rfl, q_Md_areEnough_48, q_Md_areEnough_49, w32_nn r rr, b2i_f (p := A ∧ enough Q (rg r) (pW Q l r)) (fun z => a z.1)]
    rw [key, m_ae5 hk hv hr hrv hl m (r + 1) _ (by omega)]
    rw [b2i_c (show ((A ∧ enough Q (rg r) (pW Q l r)) ∧ ∀ j : Nat, r + 1 ≤ j → j < 4 → enough Q (rg j) (pW Q l j)) ↔ (A ∧ ∀ j : Nat, r ≤ j → j < 4 → enough Q (rg j) (pW Q l j)) from ⟨fun w => ⟨w.1.1, fun j q1 q2 => by
      by_cases q : j = r
      · rw [q]; exact w.1.2
      · exact w.2 j (by omega) q2⟩, fun w => ⟨⟨w.1, w.2 r (Nat.le_refl _) r4⟩, fun j q1 q2 => w.2 j (by omega) q2⟩⟩)]
theorem m_se67 (hk : MK L b Q h) (hv : Val Q) (hr : MkR h rg sk op) (hsv : ∀ v ∈ sk, tyV Q v) {l : Nat} (hl : (l : Int) < pL Q) : ∀ (m i : Nat) (A : Prop), ((i + m : Nat) : Int) = pH Q l → (A → pH Q l ≤ sk.length) → B_Md_isStackEnough_67 43 (b : Int) (l : Int) (b2i A) (i : Int) h = some (b2i (A ∧ ∀ j : Nat, i ≤ j → (j : Int) < pH Q l → enough Q (sk.getD j 0) (pT Q l j)), h)
  | 0, i, A, e, hA => by
    obtain ⟨hL, hS, hs, hb⟩ := hk
    have v2 := hv.2.1
    have l4 : l < 4 := by omega
    have ge : pH Q l ≤ (i : Int) := by omega
    rw [q_Md_isStackEnough_67, p_43_4 hL, Option.bind_some, ld46 hL l4, Option.bind_some, (hS.2.2.2 l hl).1, if_pos ge, rz_b]
    rw [b2i_c (show A ↔ (A ∧ ∀ j : Nat, i ≤ j → (j : Int) < pH Q l → enough Q (sk.getD j 0) (pT Q l j)) from ⟨fun a => ⟨a, fun j q1 q2 => by exfalso; omega⟩, fun a => a.1⟩)]
  | m + 1, i, A, e, hA => by
    obtain ⟨hL, hS, hs, hb⟩ := id hk
    have v2 := hv.2.1
    have l4 : l < 4 := by omega
    have v3 := hv.2.2.1 l l4
    have ge : ¬ pH Q l ≤ (i : Int) := by omega
    have i3 : i < 3 := by omega
    have ii : i < 1000 := by omega
    rw [q_Md_isStackEnough_67, p_43_4 hL, Option.bind_some, ld46 hL l4, Option.bind_some, (hS.2.2.2 l hl).1, if_neg ge]
    by_cases a : A
    · have hle := hA a
      have r3 := hr.2.2.1
      have ik : i < sk.length := by omega
      have k100 : sk.length < 100 := by omega
      have p1 : 3 * l + i < 12 := by omega
      have p2 : sk.length - 1 - i < 8 := by omega
      have c1 := (hS.2.2.2 l hl).2 i (by omega)
      have c2 := hr.2.2.2.1 i ik
      have hin : sk.getD i 0 ∈ sk := by
        rw [List.getD_eq_getElem?_getD, List.getElem?_eq_getElem ik]
        exact List.getElem_mem ik
      have z := m_se67 hk hv hr hsv hl m (i + 1) (enough Q (sk.getD i 0) (pT Q l i)) (by omega) (fun _ => hle)
      rw [b2i_t a, if_neg (by decide), p_43_23 hL, Option.bind_some, g_43 hL (by decide), Option.bind_some, hr.2.1, ix6 ik k100, ld56 hL p2, Option.bind_some, p_43_5 hL, Option.bind_some, ix5 l4 i3, ld47 hL p1, Option.bind_some, c1, c2, m_isEnough hk hv (hsv _ hin) (Or.inl ((hv.2.2.2.2 l hl).2.2.1 i (by omega))), Option.bind_some]
      dsimp only
      rw [w32_nn i ii, z]
      rw [b2i_c (show (enough Q (sk.getD i 0) (pT Q l i) ∧ ∀ j : Nat, i + 1 ≤ j → (j : Int) < pH Q l → enough Q (sk.getD j 0) (pT Q l j)) ↔ (A ∧ ∀ j : Nat, i ≤ j → (j : Int) < pH Q l → enough Q (sk.getD j 0) (pT Q l j)) from ⟨fun w => ⟨a, fun j q1 q2 => by
          by_cases q : j = i
          · rw [q]; exact w.1
          · exact w.2 j (by omega) q2⟩, fun w => ⟨w.2 i (Nat.le_refl _) (by omega), fun j q1 q2 => w.2 j (by omega) q2⟩⟩)]
    · rw [b2i_f a, if_pos rfl, show rz 0 h = some (0, h) from rfl, b2i_f (fun w => a w.1)]
theorem m_se (hk : MK L b Q h) (hv : Val Q) (hr : MkR h rg sk op) (hop : op = 0 ∨ op = 1) (hsv : ∀ v ∈ sk, tyV Q v) {l : Nat} (hl : (l : Int) < pL Q) : F_Md_isStackEnough 43 (b : Int) (l : Int) h = some (b2i (hsuf sk.length op (pH Q l) (pO Q l) ∧ ∀ i : Nat, (i : Int) < pH Q l → enough Q (sk.getD i 0) (pT Q l i)), h) := by
  obtain ⟨hL, hS, hs, hb⟩ := id hk
  have v2 := hv.2.1
  have l4 : l < 4 := by omega
  have v3 := hv.2.2.1 l l4
  obtain ⟨N, hN⟩ : ∃ N : Nat, pH Q l = (N : Int) := ⟨(pH Q l).toNat, by omega⟩
  have fin : ∀ (x : Int), x = b2i (hsuf sk.length op (pH Q l) (pO Q l)) → B_Md_isStackEnough_63 43 (b : Int) (l : Int) x h = some (b2i (hsuf sk.length op (pH Q l) (pO Q l) ∧ ∀ i : Nat, (i : Int) < pH Q l → enough Q (sk.getD i 0) (pT Q l i)), h) := fun x hx => by
    rw [q_Md_isStackEnough_63, hx]
    refine (m_se67 hk hv hr hsv hl N 0 _ (by rw [hN]; omega) (fun q => ?_)).trans ?_
    · rcases q with q | q <;> omega
    · rw [b2i_c (show (hsuf sk.length op (pH Q l) (pO Q l) ∧ ∀ j : Nat, 0 ≤ j → (j : Int) < pH Q l → enough Q (sk.getD j 0) (pT Q l j)) ↔ (hsuf sk.length op (pH Q l) (pO Q l) ∧ ∀ i : Nat, (i : Int) < pH Q l → enough Q (sk.getD i 0) (pT Q l i)) from ⟨fun w => ⟨w.1, fun i hi => w.2 i (Nat.zero_le _) hi⟩, fun w => ⟨w.1, fun i _ hi => w.2 i hi⟩⟩)]
  have p1 : b + 30 * l + 4 < 1440 := by omega
  have c1 := (hs l l4).2.1
  have s1 := (hS.2.2.2 l hl).1
  have e1 : w32 ((w32 ((b : Int) + (w32 (30 * (l : Int))))) + 4) = ((b + 30 * l + 4 : Nat) : Int) := ix3 (c := 4) hb l4 (by decide)
  rw [q_Md_isStackEnough _ _ _ _ (o_43 hL), p_43_14 hL, Option.bind_some, e1, ld53 hL p1, Option.bind_some, c1]
  clear e1
  by_cases q1 : pO Q l = 1
  · rw [if_neg (Decidable.not_not.mpr q1), g_43 hL (by decide), Option.bind_some, hr.2.1, p_43_4 hL, Option.bind_some, ld46 hL l4, Option.bind_some, s1]
    by_cases q2 : (sk.length : Int) < pH Q l
    · rw [if_pos q2, fin 0 (by rw [b2i_f]; unfold hsuf; omega)]
    · rw [if_neg q2, fin 1 (by rw [b2i_t]; unfold hsuf; omega)]
  · rw [if_pos q1, g_43 hL (by decide), Option.bind_some, hr.2.1, p_43_4 hL, Option.bind_some, ld46 hL l4, Option.bind_some, s1]
    by_cases q2 : (sk.length : Int) = pH Q l
    · rw [if_neg (Decidable.not_not.mpr q2), g_43 hL (by decide), Option.bind_some, hr.2.2.2.2]
      by_cases q3 : op = 0
      · rw [if_neg (Decidable.not_not.mpr q3), fin 1 (by rw [b2i_t]; unfold hsuf; omega)]
      · rw [if_pos q3, q_Md_isStackEnough_62, fin 0 (by rw [b2i_f]; unfold hsuf; omega)]
    · rw [if_pos q2, q_Md_isStackEnough_62, fin 0 (by rw [b2i_f]; unfold hsuf; omega)]
theorem m_jumps (hk : MK L b Q h) (hv : Val Q) (hr : MkR h rg sk op) (hop : op = 0 ∨ op = 1) (hrv : ∀ r, r < 4 → tyV Q (rg r)) (hsv : ∀ v ∈ sk, tyV Q v) {l : Nat} (hl : (l : Int) < pL Q) : F_Md_jumps 43 (b : Int) (l : Int) h = some (jumpS Q rg sk op l, h) := by
  have hL := hk.1
  have z := m_ae5 hk hv hr hrv hl 4 0 True (by decide)
  rw [b2i_t trivial, show ((0 : Nat) : Int) = 0 from rfl] at z
  unfold jumpS
  rw [q_Md_jumps _ _ _ _ (o_43 hL), q_Md_areEnough _ _ _ _ (o_43 hL), z, Option.bind_some]
  dsimp only
  by_cases q : ∀ r : Nat, r < 4 → enough Q (rg r) (pW Q l r)
  · rw [b2i_t ⟨trivial, fun j _ hj => q j hj⟩, if_pos (by decide), iteP_t q, m_se hk hv hr hop hsv hl, Option.bind_some]
    dsimp only
    by_cases w : hsuf sk.length op (pH Q l) (pO Q l) ∧ ∀ i : Nat, (i : Int) < pH Q l → enough Q (sk.getD i 0) (pT Q l i)
    · rw [b2i_t w, if_neg (by decide), iteP_t w]
    · rw [b2i_f w, if_pos rfl, iteP_f w]
  · rw [b2i_f (fun w => q (fun r hr' => w.2 r (Nat.zero_le _) hr')), if_neg (by decide), iteP_f q]
end Mk
