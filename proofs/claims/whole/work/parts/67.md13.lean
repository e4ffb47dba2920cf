/-! THE MODEL: joinsFlat, isEnough -/
def MK (L b : Nat) (Q : Nat → Int) (h : mH) : Prop := LyM L h ∧ Sta Q h ∧ Sl (h.2 53) b Q ∧ b ≤ 1320
theorem ix5 {l i : Nat} (hl : l < 4) (hi : i < 3) : w32 ((w32 (3 * (l : Int))) + (i : Int)) = ((3 * l + i : Nat) : Int) := by
  rw [w32_id (x := 3 * (l : Int)) (by omega) (by omega), w32_id (by omega) (by omega)]
  omega
section Mk
variable {L b : Nat} {Q : Nat → Int} {h : mH}
theorem ld46 (hL : LyM L h) {p : Nat} (hp : p < 4) : ald 10 h (46 : Int).toNat (p : Int) = some (h.2 46 p) := by
  rw [t46, r_46 hL (by omega) (by omega), tn]
theorem ld47 (hL : LyM L h) {p : Nat} (hp : p < 12) : ald 10 h (47 : Int).toNat (p : Int) = some (h.2 47 p) := by
  rw [t47, r_47 hL (by omega) (by omega), tn]
theorem ld44 (hL : LyM L h) {p : Nat} (hp : p < 4) : ald 10 h (44 : Int).toNat (p : Int) = some (h.2 44 p) := by
  rw [t44, r_44 hL (by omega) (by omega), tn]
theorem ld45 (hL : LyM L h) {p : Nat} (hp : p < 12) : ald 10 h (45 : Int).toNat (p : Int) = some (h.2 45 p) := by
  rw [t45, r_45 hL (by omega) (by omega), tn]
theorem m_jf140 (hk : MK L b Q h) (hv : Val Q) {one two : Nat} (h1 : (one : Int) < pL Q) (h2 : (two : Int) < pL Q) (o : Option mV) : ∀ (m i : Nat) (A : Prop), ((i + m : Nat) : Int) = pH Q two → (A → pH Q two ≤ pH Q one) → B_Md_joinsFlat_140 43 (b : Int) (one : Int) (two : Int) (b2i A) (i : Int) o h = some (b2i (A ∧ ∀ j : Nat, i ≤ j → (j : Int) < pH Q two → pln (pT Q one j) (pT Q two j)), h)
  | 0, i, A, e, hA => by
    obtain ⟨hL, hS, hs, hb⟩ := hk
    have v2 := hv.2.1
    have t4 : two < 4 := by omega
    have ge : pH Q two ≤ (i : Int) := by omega
    rw [q_Md_joinsFlat_140, p_43_4 hL, Option.bind_some, ld46 hL t4, Option.bind_some, (hS.2.2.2 two h2).1, if_pos ge, rz_b]
    rw [b2i_c (show A ↔ (A ∧ ∀ j : Nat, i ≤ j → (j : Int) < pH Q two → pln (pT Q one j) (pT Q two j)) from ⟨fun a => ⟨a, fun j q1 q2 => by exfalso; omega⟩, fun a => a.1⟩)]
  | m + 1, i, A, e, hA => by
    obtain ⟨hL, hS, hs, hb⟩ := id hk
    have v2 := hv.2.1
    have o4 : one < 4 := by omega
    have t4 : two < 4 := by omega
    have v3 := hv.2.2.1 two t4
    have ge : ¬ pH Q two ≤ (i : Int) := by omega
    have i3 : i < 3 := by omega
    have ii : i < 1000 := by omega
    rw [q_Md_joinsFlat_140, p_43_4 hL, Option.bind_some, ld46 hL t4, Option.bind_some, (hS.2.2.2 two h2).1, if_neg ge]
    by_cases a : A
    · have z1 := m_jf140 hk hv h1 h2 o m (i + 1) True (by omega) (fun _ => hA a)
      have z0 := m_jf140 hk hv h1 h2 o m (i + 1) False (by omega) (fun q => q.elim)
      rw [b2i_t trivial] at z1
      rw [b2i_f (fun q => q)] at z0
      have hle := hA a
      have c1 := (hS.2.2.2 two h2).2 i (by omega)
      have c2 := (hS.2.2.2 one h1).2 i (by omega)
      have p1 : 3 * two + i < 12 := by omega
      have p2 : 3 * one + i < 12 := by omega
      rw [b2i_t a, if_neg (by decide), p_43_5 hL, Option.bind_some, ix5 t4 i3, ld47 hL p1, Option.bind_some, c1]
      by_cases e0 : pT Q two i = 0
      · rw [if_pos e0, q_Md_joinsFlat_195, q_Md_joinsFlat_200, w32_nn i ii, z1]
        rw [b2i_c (show (True ∧ ∀ j : Nat, i + 1 ≤ j → (j : Int) < pH Q two → pln (pT Q one j) (pT Q two j)) ↔ (A ∧ ∀ j : Nat, i ≤ j → (j : Int) < pH Q two → pln (pT Q one j) (pT Q two j)) from ⟨fun w => ⟨a, fun j q1 q2 => by
          by_cases q : j = i
          · rw [q]; exact Or.inl e0
          · exact w.2 j (by omega) q2⟩, fun w => ⟨trivial, fun j q1 q2 => w.2 j (by omega) q2⟩⟩)]
      · rw [if_neg e0, Option.bind_some, ld47 hL p1, Option.bind_some, c1, Option.bind_some, ix5 o4 i3, ld47 hL p2, Option.bind_some, c2]
        by_cases e1 : pT Q two i = pT Q one i
        · rw [if_neg (Decidable.not_not.mpr e1), q_Md_joinsFlat_195, q_Md_joinsFlat_200, w32_nn i ii, z1]
          rw [b2i_c (show (True ∧ ∀ j : Nat, i + 1 ≤ j → (j : Int) < pH Q two → pln (pT Q one j) (pT Q two j)) ↔ (A ∧ ∀ j : Nat, i ≤ j → (j : Int) < pH Q two → pln (pT Q one j) (pT Q two j)) from ⟨fun w => ⟨a, fun j q1 q2 => by
            by_cases q : j = i
            · rw [q]; exact Or.inr e1.symm
            · exact w.2 j (by omega) q2⟩, fun w => ⟨trivial, fun j q1 q2 => w.2 j (by omega) q2⟩⟩)]
        · rw [if_pos e1, q_Md_joinsFlat_200, w32_nn i ii, z0]
          rw [b2i_f (fun w => w.1), b2i_f (fun w => (w.2 i (Nat.le_refl _) (by omega)).elim e0 (fun q => e1 q.symm))]
    · rw [b2i_f a, if_pos rfl, show rz 0 h = some (0, h) from rfl, b2i_f (fun w => a w.1)]
theorem m_jf73 (hk : MK L b Q h) (hv : Val Q) {one two : Nat} (h1 : (one : Int) < pL Q) (h2 : (two : Int) < pL Q) : ∀ (m r : Nat) (A : Prop) (o : Option mV), r + m = 4 → ∃ o', B_Md_joinsFlat_73 43 (b : Int) (one : Int) (two : Int) (b2i A) (r : Int) o h = B_Md_joinsFlat_140 43 (b : Int) (one : Int) (two : Int) (b2i (A ∧ ∀ j : Nat, r ≤ j → j < 4 → pln (pW Q one j) (pW Q two j))) 0 o' h
  | 0, r, A, o, e => by
    have : r = 4 := by omega
    subst this
    refine ⟨o, ?_⟩
    rw [q_Md_joinsFlat_73, if_pos (by decide)]
    rw [b2i_c (show A ↔ (A ∧ ∀ j : Nat, 4 ≤ j → j < 4 → pln (pW Q one j) (pW Q two j)) from ⟨fun a => ⟨a, fun j q1 q2 => by omega⟩, fun a => a.1⟩)]
  | m + 1, r, A, o, e => by
    obtain ⟨hL, hS, hs, hb⟩ := id hk
    have v2 := hv.2.1
    have o4 : one < 4 := by omega
    have t4 : two < 4 := by omega
    have ge : ¬ 4 ≤ (r : Int) := by omega
    have r4 : r < 4 := by omega
    have r30 : r < 30 := by omega
    have rr : r < 1000 := by omega
    have p1 : b + 30 * two + r < 1440 := by omega
    have p2 : b + 30 * one + r < 1440 := by omega
    have c1 := (hs two t4).1 r r4
    have c2 := (hs one o4).1 r r4
    have key : B_Md_joinsFlat_73 43 (b : Int) (one : Int) (two : Int) (b2i A) (r : Int) o h = B_Md_joinsFlat_73 43 (b : Int) (one : Int) (two : Int) (b2i (A ∧ pln (pW Q one r) (pW Q two r))) ((r + 1 : Nat) : Int) (some (.inl (pW Q two r))) h := by
      rw [q_Md_joinsFlat_73, if_neg ge, p_43_14 hL, Option.bind_some, ix3 hb t4 r30, ld53 hL p1, Option.bind_some, c1]
      by_cases a : A
      · rw [b2i_t a, if_neg (by decide)]
        by_cases e0 : pW Q two r = 0
        · rw [if_pos e0, q_Md_joinsFlat_124, q_Md_joinsFlat_129, w32_nn r rr, b2i_t ⟨a, Or.inl e0⟩]
        · rw [if_neg e0, Option.bind_some, ix3 hb o4 r30, ld53 hL p2, Option.bind_some, c2]
          by_cases e1 : pW Q two r = pW Q one r
          · rw [if_neg (Decidable.not_not.mpr e1), q_Md_joinsFlat_124, q_Md_joinsFlat_129, w32_nn r rr, b2i_t ⟨a, Or.inr e1.symm⟩]
          · rw [if_pos e1, q_Md_joinsFlat_128, q_Md_joinsFlat_129, w32_nn r rr, b2i_f (p := A ∧ pln (pW Q one r) (pW Q two r)) (fun w => w.2.elim e0 (fun q => e1 q.symm))]
      · rw [b2i_f a, if_pos rfl, q_Md_joinsFlat_128, q_Md_joinsFlat_129, w32_nn r rr, b2i_f (p := A ∧ pln (pW Q one r) (pW Q two r)) (fun w => a w.1)]
    obtain ⟨o', z⟩ := m_jf73 hk hv h1 h2 m (r + 1) (A ∧ pln (pW Q one r) (pW Q two r)) (some (.inl (pW Q two r))) (by omega)
    refine ⟨o', ?_⟩
    rw [key, z]
    rw [b2i_c (show ((A ∧ pln (pW Q one r) (pW Q two r)) ∧ ∀ j : Nat, r + 1 ≤ j → j < 4 → pln (pW Q one j) (pW Q two j)) ↔ (A ∧ ∀ j : Nat, r ≤ j → j < 4 → pln (pW Q one j) (pW Q two j)) from ⟨fun w => ⟨w.1.1, fun j q1 q2 => by
      by_cases q : j = r
      · rw [q]; exact w.1.2
      · exact w.2 j (by omega) q2⟩, fun w => ⟨⟨w.1, w.2 r (Nat.le_refl _) r4⟩, fun j q1 q2 => w.2 j (by omega) q2⟩⟩)]
theorem m_flat (hk : MK L b Q h) (hv : Val Q) {one two : Nat} (h1 : (one : Int) < pL Q) (h2 : (two : Int) < pL Q) : F_Md_joinsFlat 43 (b : Int) (one : Int) (two : Int) h = some (b2i (flat Q one two), h) := by
  obtain ⟨hL, hS, hs, hb⟩ := id hk
  have v2 := hv.2.1
  have o4 : one < 4 := by omega
  have t4 : two < 4 := by omega
  have v3 := hv.2.2.1 two t4
  obtain ⟨N, hN⟩ : ∃ N : Nat, pH Q two = (N : Int) := ⟨(pH Q two).toNat, by omega⟩
  have fin : ∀ (x : Int), x = b2i (hsuf (pH Q one) (pO Q one) (pH Q two) (pO Q two)) → B_Md_joinsFlat_68 43 (b : Int) (one : Int) (two : Int) x h = some (b2i (flat Q one two), h) := fun x hx => by
    obtain ⟨o', z⟩ := m_jf73 hk hv h1 h2 4 0 (hsuf (pH Q one) (pO Q one) (pH Q two) (pO Q two)) none (by decide)
    rw [q_Md_joinsFlat_68, hx]
    refine z.trans ((m_jf140 hk hv h1 h2 o' N 0 _ (by rw [hN]; omega) (fun q => ?_)).trans ?_)
    · rcases q.1 with q | q <;> omega
    · rw [b2i_c (show ((hsuf (pH Q one) (pO Q one) (pH Q two) (pO Q two) ∧ ∀ j : Nat, 0 ≤ j → j < 4 → pln (pW Q one j) (pW Q two j)) ∧ ∀ j : Nat, 0 ≤ j → (j : Int) < pH Q two → pln (pT Q one j) (pT Q two j)) ↔ flat Q one two from ⟨fun w => ⟨w.1.1, fun r hr => w.1.2 r (Nat.zero_le _) hr, fun i hi => w.2 i (Nat.zero_le _) hi⟩, fun w => ⟨⟨w.1, fun r _ hr => w.2.1 r hr⟩, fun i _ hi => w.2.2 i hi⟩⟩)]
  have p1 : b + 30 * two + 4 < 1440 := by omega
  have p2 : b + 30 * one + 4 < 1440 := by omega
  have c1 := (hs two t4).2.1
  have c2 := (hs one o4).2.1
  have e1 : w32 ((w32 ((b : Int) + (w32 (30 * (two : Int))))) + 4) = ((b + 30 * two + 4 : Nat) : Int) := ix3 (c := 4) hb t4 (by decide)
  have e2 : w32 ((w32 ((b : Int) + (w32 (30 * (one : Int))))) + 4) = ((b + 30 * one + 4 : Nat) : Int) := ix3 (c := 4) hb o4 (by decide)
  have s1 := (hS.2.2.2 one h1).1
  have s2 := (hS.2.2.2 two h2).1
  rw [q_Md_joinsFlat _ _ _ _ _ (o_43 hL), p_43_4 hL, Option.bind_some, ld46 hL o4, Option.bind_some, Option.bind_some, ld46 hL t4, Option.bind_some, s1, s2]
  by_cases q1 : pH Q one < pH Q two
  · rw [if_pos q1, q_Md_joinsFlat_67, fin 0 (by rw [b2i_f]; unfold hsuf; clear e1 e2; omega)]
  · rw [if_neg q1, p_43_14 hL, Option.bind_some, e1, ld53 hL p1, Option.bind_some, c1]
    by_cases q2 : pO Q two = 1
    · rw [if_pos q2, q_Md_joinsFlat_63, fin 1 (by rw [b2i_t]; unfold hsuf; clear e1 e2; omega)]
    · rw [if_neg q2, Option.bind_some, ld46 hL o4, Option.bind_some, Option.bind_some, ld46 hL t4, Option.bind_some, s1, s2]
      by_cases q3 : pH Q one = pH Q two
      · rw [if_neg (Decidable.not_not.mpr q3), Option.bind_some, e2, ld53 hL p2, Option.bind_some, c2]
        by_cases q4 : pO Q one = 0
        · rw [if_neg (Decidable.not_not.mpr q4), q_Md_joinsFlat_63, fin 1 (by rw [b2i_t]; unfold hsuf; clear e1 e2; omega)]
        · rw [if_pos q4, q_Md_joinsFlat_67, fin 0 (by rw [b2i_f]; unfold hsuf; clear e1 e2; omega)]
      · rw [if_pos q3, q_Md_joinsFlat_67, fin 0 (by rw [b2i_f]; unfold hsuf; clear e1 e2; omega)]
theorem tyV_L {x : Int} (hx : tyV Q x) (hc : codeT x) : 0 ≤ x - 6 ∧ x - 6 < pL Q := by
  obtain ⟨c1, c2⟩ := hc
  rcases hx with q | ⟨t, s, e, -⟩
  · unfold tyOk at q; omega
  · omega
theorem m_isEnough (hk : MK L b Q h) (hv : Val Q) {x w : Int} (hx : tyV Q x) (hw : tyV Q w) : F_Md_isEnough 43 (b : Int) x w h = some (b2i (enough Q x w), h) := by
  have hL := hk.1
  rw [q_Md_isEnough _ _ _ _ _ (o_43 hL)]
  by_cases q1 : w = 0
  · rw [if_pos q1, q_Md_isEnough_53, b2i_t (p := enough Q x w) (Or.inl (Or.inl q1))]
  rw [if_neg q1]
  by_cases q2 : x = w
  · rw [if_pos q2, q_Md_isEnough_53, b2i_t (p := enough Q x w) (Or.inl (Or.inr q2))]
  rw [if_neg q2, c_in, Option.bind_some]
  dsimp only
  by_cases q3 : 6 ≤ x ∧ x ≤ 9
  · rw [b2i_t q3, if_neg (by decide), c_in, Option.bind_some]
    dsimp only
    by_cases q4 : 6 ≤ w ∧ w ≤ 9
    · have cx : codeT x := ⟨q3.1, by omega⟩
      have cw : codeT w := ⟨q4.1, by omega⟩
      have lx := tyV_L hx cx
      have lw := tyV_L hw cw
      obtain ⟨m, hm⟩ := n_of lx.1
      obtain ⟨k, hkk⟩ := n_of lw.1
      have ex : w32 (x - 6) = (m : Int) := by rw [w32_id (by omega) (by omega), hm]
      have ew : w32 (w - 6) = (k : Int) := by rw [w32_id (by clear ex; omega) (by clear ex; omega), hkk]
      rw [b2i_t q4, if_neg (by decide), ex, ew, m_flat hk hv (by rw [← hkk]; exact lw.2) (by rw [← hm]; exact lx.2), Option.bind_some]
      clear ex ew
      dsimp only
      by_cases f : flat Q k m
      · rw [b2i_t f, if_neg (by decide), q_Md_isEnough_53, b2i_t (p := enough Q x w) (Or.inr ⟨cx, cw, by rw [hm, hkk, tn, tn]; exact f⟩)]
      · rw [b2i_f f, if_pos rfl, b2i_f (p := enough Q x w) (fun z => z.elim (fun z => z.elim q1 q2) (fun z => f (by have := z.2.2; rw [hm, hkk, tn, tn] at this; exact this)))]
    · rw [b2i_f q4, if_pos rfl, b2i_f (p := enough Q x w) (fun z => z.elim (fun z => z.elim q1 q2) (fun z => q4 ⟨z.2.1.1, by have := z.2.1.2; omega⟩))]
  · rw [b2i_f q3, if_pos rfl, b2i_f (p := enough Q x w) (fun z => z.elim (fun z => z.elim q1 q2) (fun z => q3 ⟨z.1.1, by have := z.1.2; omega⟩))]
end Mk
