/-! THE MODEL: mends, day -/
theorem itS_pl (P : Nat → Int) (l : Nat) : ∀ k : Nat, (itS P l k).1 ≠ 0 → (itS P l k).2.2.2.2 < (k : Int)
  | 0, h => absurd rfl h
  | k + 1, h => by
    by_cases h1 : (itS P l k).1 ≠ 0
    · have e : itS P l (k + 1) = itS P l k := iteP_t h1 _ _
      rw [e]
      have := itS_pl P l k h1
      omega
    · have e : itS P l (k + 1) = _ := iteP_f h1 _ _
      rw [e]
      by_cases h2 : (itS P l k).2.1 ≠ 0
      · rw [iteP_t h2]; show (k : Int) < ((k + 1 : Nat) : Int); omega
      · rw [iteP_f h2]; show (k : Int) < ((k + 1 : Nat) : Int); omega
theorem chk_u {P : Nat → Int} {l : Nat} (hv : Val P) (hl : (l : Int) < pL P) (hs : ¬ sureS P l) : (chkS P l).2 ≤ pK P l := by
  have vk := (hv.2.2.2.2 l hl).2.2.2.2.1
  obtain ⟨N, hN⟩ : ∃ N : Nat, pK P l = (N : Int) := ⟨(pK P l).toNat, by omega⟩
  unfold sureS at hs
  unfold chkS at hs ⊢
  rw [hN, tn] at hs ⊢
  by_cases q : (itS P l N).1 ≠ 0
  · rw [iteP_t q]
    exact Int.le_of_lt (itS_pl P l N q)
  · rw [iteP_f q] at hs ⊢
    by_cases w : (itS P l N).2.1 = 0
    · rw [iteP_t w]; exact Int.le_refl _
    · rw [iteP_f w] at hs; exact absurd rfl hs
theorem dv {w k : Nat} (hw : w < 100000) : w32 (Int.tdiv (w : Int) (k : Int)) = ((w / k : Nat) : Int) := by
  have e : Int.tdiv (w : Int) (k : Int) = ((w / k : Nat) : Int) := (Int.ofNat_tdiv w k).symm
  have := Nat.div_le_self w k
  rw [e]
  clear e
  generalize w / k = d at this
  exact w32_id (by omega) (by omega)
theorem md4 (w k : Nat) : Int.tmod (w : Int) (k : Int) = ((w % k : Nat) : Int) := (Int.ofNat_tmod _ _).symm
section Md
variable {L n : Nat} {T P : Nat → Int} {U K : List (Nat → Int)} {h : mH}
theorem m_me134 (hm : MI L n T P U K h) (hv : Val P) {l k : Nat} (hl : (l : Int) < pL P) (hk : k < 6) {c x y z : Int} (hmay : mayS (pS P) (pL P) c x y z) (u cn fr code : Int) (o : Option mV) :
    ∃ h' o', B_Md_mends_134 43 (l : Int) u (k : Int) cn fr code c x y z o h = B_Md_mends_203 43 (l : Int) u (k : Int) (w32 (cn + b2i (sureS (insS P l k c x y z) l))) (iteP (fr < 0 ∧ sureS (insS P l k c x y z) l) code fr) code c x y z o' h' ∧ MI L n T P U K h' ∧ MFm h h' := by
  obtain ⟨hL, -, hS, h0, -⟩ := id hm
  have v2 := hv.2.1
  have l4 : l < 4 := by omega
  have L1 : LyM L (mrow h 53 (cpI (h.2 53) 0 1320 120)) := LyM_row hL (fun j => rfl)
  have s1 : Sl (cpI (h.2 53) 0 1320 120) 1320 P := Sl_to h0
  have s2 := Sl_wr (l := l) s1 hk c x y z
  have k2 := MK_try hm hv (St_ins l4 hk c x y z) s2
  have f2 : Mq h (mrow h 53 (wrI (cpI (h.2 53) 0 1320 120) (1320 + 30 * l + 6 + 4 * k) c x y z)) := Mq_53 h (fun j hj => by rw [wrI_o _ _ _ _ (by omega), cp_1320 _ hj])
  have hw := m_writes L1 (b := 1320) (Nat.le_refl _) l4 hk c x y z
  rw [show ((1320 : Nat) : Int) = 1320 from rfl, mrow_s, mrow_m] at hw
  have eL : pL (insS P l k c x y z) = pL P := St_L (St_ins l4 hk c x y z)
  obtain ⟨h3, a1, a2⟩ := m_isSure k2 (Val_ins hv l4 hk hmay) (l := l) (by rw [eL]; exact hl)
  rw [show ((1320 : Nat) : Int) = 1320 from rfl] at a1
  obtain ⟨m1, m2⟩ := MI_q hm (Mq_tr f2 (Mq_s a2))
  rw [q_Md_mends_134, m_try hL, Option.bind_some, hw, Option.bind_some, a1, Option.bind_some]
  dsimp only
  by_cases q : sureS (insS P l k c x y z) l
  · rw [b2i_t q, if_neg (by decide), q_Md_mends_181, if_neg (by decide)]
    by_cases w : 0 ≤ fr
    · refine ⟨h3, some (.inl 1), ?_, m1, m2⟩
      rw [if_pos w, q_Md_mends_199, q_Md_mends_201, iteP_f (fun t => by have := t.1; omega)]
    · refine ⟨h3, some (.inl 1), ?_, m1, m2⟩
      rw [if_neg w, q_Md_mends_201, iteP_t ⟨by omega, q⟩]
  · refine ⟨h3, some (.inl 0), ?_, m1, m2⟩
    rw [b2i_f q, if_pos rfl, q_Md_mends_181, if_pos rfl, q_Md_mends_199, q_Md_mends_201, iteP_f (fun t => q t.2)]
theorem m_me63 (hv : Val P) {l k : Nat} (hl : (l : Int) < pL P) (hk : k < 6) {u : Int} : ∀ (m w : Nat) (h : mH) (o7 o8 o9 o10 o11 : Option mV), w + m = 896 → MI L n T P U K h →
    ∃ h', B_Md_mends_63 43 (l : Int) u (k : Int) (meC P l k w) (meF P l k w) (w : Int) o7 o8 o9 o10 o11 h = some (if u = 0 then meC P l k 896 else meF P l k 896, h') ∧ MI L n T P U K h' ∧ MFm h h'
  | 0, w, h, o7, o8, o9, o10, o11, e, hm => by
    have : w = 896 := by omega
    subst this
    refine ⟨h, ?_, hm, MFm_rf h⟩
    rw [q_Md_mends_63, if_pos (by decide)]
    by_cases q : u = 0
    · rw [if_neg (Decidable.not_not.mpr q), if_pos q]
    · rw [if_pos q, if_neg q]
  | m + 1, w, h, o7, o8, o9, o10, o11, e, hm => by
    obtain ⟨hL, -, hS, h0, -⟩ := id hm
    have v1 := hv.1
    have v2 := hv.2.1
    have w1 : w < 1000 := by omega
    have w5 : w < 100000 := by omega
    have em : w + 1 + m = 896 := by omega
    have ge : ¬ 896 ≤ (w : Int) := by omega
    have cb := meC_b P l k w
    have d1 : w32 (Int.tdiv (w : Int) 64) = ((w / 64 : Nat) : Int) := dv (k := 64) w5
    have d2 : w32 (Int.tdiv (w : Int) 16) = ((w / 16 : Nat) : Int) := dv (k := 16) w5
    have d3 : w32 (Int.tdiv (w : Int) 4) = ((w / 4 : Nat) : Int) := dv (k := 4) w5
    have f2 : Int.tmod ((w / 16 : Nat) : Int) 4 = ((w / 16 % 4 : Nat) : Int) := md4 _ 4
    have f3 : Int.tmod ((w / 4 : Nat) : Int) 4 = ((w / 4 % 4 : Nat) : Int) := md4 _ 4
    have f4 : Int.tmod (w : Int) 4 = ((w % 4 : Nat) : Int) := md4 _ 4
    rw [q_Md_mends_63, if_neg ge, g_43 hL (by decide), Option.bind_some, g_43 hL (by decide), Option.bind_some, hS.1, hS.2.1, d1, d2, d3, f2, f3, f4, m_may _ _ _ _ v1 ⟨by clear d1 d2 d3 f2 f3 f4; omega, v2.2⟩, Option.bind_some]
    clear d1 d2 d3 f2 f3 f4
    dsimp only
    have skip : ∀ o : Option mV, ¬ mdB P l k w → ∃ h', B_Md_mends_203 43 (l : Int) u (k : Int) (meC P l k w) (meF P l k w) (w : Int) ((w / 64 : Nat) : Int) ((w / 16 % 4 : Nat) : Int) ((w / 4 % 4 : Nat) : Int) ((w % 4 : Nat) : Int) o h = some (if u = 0 then meC P l k 896 else meF P l k 896, h') ∧ MI L n T P U K h' ∧ MFm h h' := fun o q => by
      have ec : meC P l k (w + 1) = meC P l k w := by
        show meC P l k w + b2i (mdB P l k w) = _
        rw [b2i_f q]; omega
      have ef : meF P l k (w + 1) = meF P l k w := iteP_f (fun t => q t.2) _ _
      obtain ⟨h', z1, z2, z3⟩ := m_me63 hv hl hk (u := u) m (w + 1) h (some (.inl ((w / 64 : Nat) : Int))) (some (.inl ((w / 16 % 4 : Nat) : Int))) (some (.inl ((w / 4 % 4 : Nat) : Int))) (some (.inl ((w % 4 : Nat) : Int))) o em hm
      rw [ec, ef] at z1
      exact ⟨h', by rw [q_Md_mends_203, w32_nn w w1, z1], z2, z3⟩
    have go : mayS (pS P) (pL P) ((w / 64 : Nat) : Int) ((w / 16 % 4 : Nat) : Int) ((w / 4 % 4 : Nat) : Int) ((w % 4 : Nat) : Int) → (w / 64 = 1 → w / 4 % 4 = 0) → ∃ h', B_Md_mends_134 43 (l : Int) u (k : Int) (meC P l k w) (meF P l k w) (w : Int) ((w / 64 : Nat) : Int) ((w / 16 % 4 : Nat) : Int) ((w / 4 % 4 : Nat) : Int) ((w % 4 : Nat) : Int) o11 h = some (if u = 0 then meC P l k 896 else meF P l k 896, h') ∧ MI L n T P U K h' ∧ MFm h h' := fun q r => by
      obtain ⟨h2, o', a1, a2, a3⟩ := m_me134 hm hv hl hk q u (meC P l k w) (meF P l k w) (w : Int) o11
      have iff : sureS (insS P l k ((w / 64 : Nat) : Int) ((w / 16 % 4 : Nat) : Int) ((w / 4 % 4 : Nat) : Int) ((w % 4 : Nat) : Int)) l ↔ mdB P l k w := ⟨fun s => ⟨q, r, s⟩, fun s => s.2.2⟩
      have ec : w32 (meC P l k w + b2i (sureS (insS P l k ((w / 64 : Nat) : Int) ((w / 16 % 4 : Nat) : Int) ((w / 4 % 4 : Nat) : Int) ((w % 4 : Nat) : Int)) l)) = meC P l k (w + 1) := by
        rw [b2i_c iff]
        have b01 := b2i_01 (mdB P l k w)
        exact w32_id (by omega) (by omega)
      have ef : iteP (meF P l k w < 0 ∧ sureS (insS P l k ((w / 64 : Nat) : Int) ((w / 16 % 4 : Nat) : Int) ((w / 4 % 4 : Nat) : Int) ((w % 4 : Nat) : Int)) l) (w : Int) (meF P l k w) = meF P l k (w + 1) := iteP_c ⟨fun t => ⟨t.1, iff.mp t.2⟩, fun t => ⟨t.1, iff.mpr t.2⟩⟩ _ _
      obtain ⟨h', z1, z2, z3⟩ := m_me63 hv hl hk (u := u) m (w + 1) h2 (some (.inl ((w / 64 : Nat) : Int))) (some (.inl ((w / 16 % 4 : Nat) : Int))) (some (.inl ((w / 4 % 4 : Nat) : Int))) (some (.inl ((w % 4 : Nat) : Int))) o' em a2
      exact ⟨h', by rw [a1, ec, ef, q_Md_mends_203, w32_nn w w1, z1], z2, MFm_tr a3 z3⟩
    by_cases q : mayS (pS P) (pL P) ((w / 64 : Nat) : Int) ((w / 16 % 4 : Nat) : Int) ((w / 4 % 4 : Nat) : Int) ((w % 4 : Nat) : Int)
    · rw [b2i_t q, if_neg (by decide)]
      by_cases r : ((w / 64 : Nat) : Int) = 1
      · rw [if_neg (Decidable.not_not.mpr r)]
        by_cases s : ((w / 4 % 4 : Nat) : Int) = 0
        · rw [if_neg (Decidable.not_not.mpr s)]
          exact go q (fun _ => by omega)
        · rw [if_pos s]
          exact skip o11 (fun t => s (by have := t.2.1 (by omega); omega))
      · rw [if_pos r]
        exact go q (fun t => absurd (by omega) r)
    · rw [b2i_f q, if_pos rfl]
      exact skip o11 (fun t => q t.1)
theorem m_mends (hm : MI L n T P U K h) (hv : Val P) (l w : Int) : ∃ h', F_Md_mends 43 l w h = some (mendsA P l w, h') ∧ MI L n T P U K h' ∧ MFm h h' := by
  obtain ⟨hL, -, hS, h0, -⟩ := id hm
  have v2 := hv.2.1
  unfold mendsA
  rw [q_Md_mends _ _ _ _ (o_43 hL), m_isLabel hL hS (by omega), Option.bind_some]
  dsimp only
  by_cases q : hasL P l
  · rw [b2i_t q, if_neg (by decide), c_in, Option.bind_some]
    dsimp only
    by_cases r : 0 ≤ w ∧ w ≤ 1
    · obtain ⟨m, rfl⟩ := n_of q.1
      have m4 : m < 4 := by have := q.2; omega
      obtain ⟨h1, a1, a2, a3, a4⟩ := m_checks9 (MI_K hm) hv q.2
      rw [show ((0 : Nat) : Int) = 0 from rfl] at a1
      obtain ⟨m1, m2⟩ := MI_q hm (Mq_s a2)
      have L1 := m1.1
      rw [b2i_t r, if_pos (by decide), iteP_t (p := hasL P (m : Int) ∧ 0 ≤ w ∧ w ≤ 1) ⟨q, r⟩, tn, a1, Option.bind_some, g_43 L1 (by decide), Option.bind_some, g_43 L1 (by decide), Option.bind_some, a3, a4]
      by_cases s : sureS P m
      · rw [if_pos (show (chkS P m).1 = 0 from s), iteP_t (Or.inl s)]
        exact ⟨h1, rfl, m1, m2⟩
      · have c1 := chk_b hv q.2 s
        have c2 := chk_u hv q.2 s
        have vk := (hv.2.2.2.2 m q.2).2.2.2.2.1
        rw [if_neg (show ¬ (chkS P m).1 = 0 from s), if_neg (show ¬ (chkS P m).1 = 0 from s), many0 L1 m4 (m1.2.2.2.1 m m4).2.2.1, Option.bind_some]
        dsimp only
        by_cases t : (chkS P m).2 = pK P m
        · rw [if_neg (Decidable.not_not.mpr t), iteP_t (Or.inr (by omega))]
          exact ⟨h1, rfl, m1, m2⟩
        · obtain ⟨k, hk⟩ := n_of c1
          obtain ⟨h', z1, z2, z3⟩ := m_me63 (L := L) (n := n) (T := T) (U := U) (K := K) hv q.2 (k := k) (by omega) (u := w) 896 0 h1 none none none none none (by decide) m1
          rw [if_pos t, iteP_f (fun y => y.elim s (fun y => t (by omega))), hk, tn]
          exact ⟨h', z1, z2, MFm_tr m2 z3⟩
    · rw [b2i_f r, if_neg (by decide), iteP_f (fun z => r z.2)]
      exact ⟨h, rfl, hm, MFm_rf h⟩
  · rw [b2i_f q, if_pos rfl, iteP_f (fun z => q z.1)]
    exact ⟨h, rfl, hm, MFm_rf h⟩
end Md
