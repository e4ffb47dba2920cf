/-! THE MODEL: day -/
theorem drc_m (d : Nat) : (if 3 ≤ ((d / 64 % 5 : Nat) : Int) then w32 (((d / 64 % 5 : Nat) : Int) + 3) else ((d / 64 % 5 : Nat) : Int)) = drc (d / 64 % 5) := by
  have h5 : d / 64 % 5 < 5 := Nat.mod_lt _ (by decide)
  generalize d / 64 % 5 = i at h5
  have : i = 0 ∨ i = 1 ∨ i = 2 ∨ i = 3 ∨ i = 4 := by omega
  rcases this with e | e | e | e | e <;> subst e <;> decide
theorem dry_m (d : Nat) : (if ((d / 64 % 5 : Nat) : Int) ≠ 1 then (if 3 ≤ ((d / 64 % 5 : Nat) : Int) then 0 else ((d / 2048 % 4 : Nat) : Int)) else 1) = dry d := by
  unfold dry
  have h5 : d / 64 % 5 < 5 := Nat.mod_lt _ (by decide)
  generalize d / 64 % 5 = i at h5
  have : i = 0 ∨ i = 1 ∨ i = 2 ∨ i = 3 ∨ i = 4 := by omega
  rcases this with e | e | e | e | e <;> subst e <;> simp [drc]
section Md
variable {L n : Nat} {T P : Nat → Int} {U K : List (Nat → Int)} {h : mH}
/-- a program that is drawn lies in the tried slot -/
def MD (L n : Nat) (T P : Nat → Int) (U K : List (Nat → Int)) (Q : Nat → Int) (h : mH) : Prop := MI L n T P U K h ∧ MK L 1320 Q h
theorem MD_s {Q : Nat → Int} {h' : mH} (hd : MD L n T P U K Q h) (f : Ms h h') : MD L n T P U K Q h' ∧ MFm h h' :=
  ⟨⟨(MI_q hd.1 (Mq_s f)).1, Ms_K f hd.2⟩, (MI_q hd.1 (Mq_s f)).2⟩
theorem MD_w {Q Q' g : Nat → Int} (hv : Val Q) (s : St Q Q') (hd : MD L n T P U K Q h) (hg : Sl g 1320 Q') (ho : ∀ j, j < 1320 → g j = h.2 53 j) : MD L n T P U K Q' (mrow h 53 g) ∧ MFm h (mrow h 53 g) := by
  obtain ⟨m1, m2⟩ := MI_q hd.1 (Mq_53 h ho)
  exact ⟨⟨m1, m1.1, Sta_st hv s (Sta_c (by rw [mrow_o _ _ (by decide)]) (by rw [mrow_o _ _ (by decide)]) (fun a ha => mrow_o _ _ (by omega)) hd.2.2.1), by rw [mrow_s]; exact hg, by decide⟩, m2⟩
theorem m_da172 {Q : Nat → Int} (hd : MD L n T P U K Q h) (hv : Val Q) {l k d : Nat} (hl : l < 4) (hk : k < 6) (z N w cn i y : Int) (c : Int) :
    ∃ h', B_Md_day_172 43 z N w cn i y (d : Int) (l : Int) ((d / 64 % 5 : Nat) : Int) ((d / 512 % 4 : Nat) : Int) ((d / 2048 % 4 : Nat) : Int) c (k : Int) (l : Int) 1320 43 h = B_Md_day_200 43 z N w cn i y (d : Int) (l : Int) ((d / 64 % 5 : Nat) : Int) ((d / 512 % 4 : Nat) : Int) ((d / 2048 % 4 : Nat) : Int) h' ∧ MD L n T P U K (insS Q l k c ((d / 512 % 4 : Nat) : Int) (dry d) 0) h' ∧ MFm h h' := by
  have L1 := hd.1.1
  have hw := m_writes L1 (b := 1320) (Nat.le_refl _) hl hk c ((d / 512 % 4 : Nat) : Int) (dry d) 0
  rw [show ((1320 : Nat) : Int) = 1320 from rfl] at hw
  obtain ⟨m1, m2⟩ := MD_w hv (St_ins hl hk c ((d / 512 % 4 : Nat) : Int) (dry d) 0) hd (Sl_wr (l := l) hd.2.2.2.1 hk c ((d / 512 % 4 : Nat) : Int) (dry d) 0) (fun j hj => by rw [wrI_o _ _ _ _ (by omega)])
  refine ⟨_, ?_, m1, m2⟩
  have dm := dry_m d
  rw [q_Md_day_172]
  by_cases q : ((d / 64 % 5 : Nat) : Int) ≠ 1
  · rw [if_pos q] at dm ⊢
    by_cases r : 3 ≤ ((d / 64 % 5 : Nat) : Int)
    · rw [if_pos r] at dm ⊢
      rw [← dm] at hw ⊢
      rw [q_Md_day_196, hw, Option.bind_some]
    · rw [if_neg r] at dm ⊢
      rw [q_Md_day_196, dm, hw, Option.bind_some, ← dm]
  · rw [if_neg q] at dm ⊢
    rw [q_Md_day_196, dm, hw, Option.bind_some]
theorem m_da86 {Q : Nat → Int} (hd : MD L n T P U K Q h) (hv : Val Q) {d : Nat} (hd6 : d < 65521) (z N w cn i y : Int) (o9 o10 o11 o12 : Option mV) :
    ∃ h' a b c e, B_Md_day_86 43 z N w cn i y (d : Int) o9 o10 o11 o12 h = B_Md_day_200 43 z N w cn i y (d : Int) a b c e h' ∧ MD L n T P U K (chgS Q d) h' ∧ MFm h h' := by
  obtain ⟨hm, hL, hS, hs, -⟩ := id hd
  have v2 := hv.2.1
  obtain ⟨M, hM⟩ : ∃ M : Nat, pL Q = (M : Int) := ⟨(pL Q).toNat, by omega⟩
  have M0 : 0 < M := by omega
  have hl := Nat.mod_lt d M0
  have l4 : d % M < 4 := by omega
  have vk := (hv.2.2.2.2 (d % M) (by omega)).2.2.2.2.1
  obtain ⟨S, hSz⟩ : ∃ S : Nat, pK Q (d % M) = (S : Int) := ⟨(pK Q (d % M)).toNat, by omega⟩
  have ech : chgS Q d = iteP (0 < (S : Int)) (insS Q (d % M) (d / 8 % S) (drc (d / 64 % 5)) ((d / 512 % 4 : Nat) : Int) (dry d) 0) Q := by
    unfold chgS
    rw [hM, tn, hSz, tn]
  have d5 : d < 100000 := by omega
  have nzM : nz (M : Int) = some () := if_neg (by omega)
  have mn := m_many hL hs l4 (Nat.le_refl _)
  rw [show ((1320 : Nat) : Int) = 1320 from rfl, hSz] at mn
  have d1 : w32 (Int.tdiv (d : Int) 64) = ((d / 64 : Nat) : Int) := dv (k := 64) d5
  have d2 : w32 (Int.tdiv (d : Int) 512) = ((d / 512 : Nat) : Int) := dv (k := 512) d5
  have d3 : w32 (Int.tdiv (d : Int) 2048) = ((d / 2048 : Nat) : Int) := dv (k := 2048) d5
  have d4 : w32 (Int.tdiv (d : Int) 8) = ((d / 8 : Nat) : Int) := dv (k := 8) d5
  have f1 : Int.tmod ((d / 64 : Nat) : Int) 5 = ((d / 64 % 5 : Nat) : Int) := md4 _ 5
  have f2 : Int.tmod ((d / 512 : Nat) : Int) 4 = ((d / 512 % 4 : Nat) : Int) := md4 _ 4
  have f3 : Int.tmod ((d / 2048 : Nat) : Int) 4 = ((d / 2048 % 4 : Nat) : Int) := md4 _ 4
  rw [q_Md_day_86, g_43 hL (by decide), Option.bind_some, hS.2.1, hM, nzM, Option.bind_some, md4 d M, mn, Option.bind_some, d1, d2, d3, d4, f1, f2, f3]
  clear d1 d2 d3 d4 f1 f2 f3
  dsimp only
  by_cases q : (S : Int) ≤ 0
  · rw [if_pos q, ech, iteP_f (by omega)]
    exact ⟨h, _, _, _, _, rfl, hd, MFm_rf h⟩
  · have S0 : 0 < S := by omega
    have kk := Nat.mod_lt (d / 8) S0
    have k6 : d / 8 % S < 6 := by omega
    have nzS : nz (S : Int) = some () := if_neg (by omega)
    have dm := drc_m d
    obtain ⟨h', z1, z2, z3⟩ := m_da172 (d := d) hd hv l4 k6 z N w cn i y (drc (d / 64 % 5))
    rw [if_neg q, ech, iteP_t (by omega), mn, Option.bind_some]
    dsimp only
    rw [nzS, Option.bind_some, md4]
    by_cases r : 3 ≤ ((d / 64 % 5 : Nat) : Int)
    · rw [if_pos r] at dm ⊢
      rw [dm]
      exact ⟨h', _, _, _, _, z1, z2, z3⟩
    · rw [if_neg r] at dm ⊢
      rw [← dm] at z1 z2
      rw [← dm]
      exact ⟨h', _, _, _, _, z1, z2, z3⟩
theorem m_da50 (hv : Val P) {z N : Nat} (hz : z ≤ 9999) (hN : N ≤ 20) {w : Int} : ∀ (m k : Nat) (h : mH) (o6 o8 o9 o10 o11 o12 : Option mV), k + m = N → MD L n T P U K (dayQ P z k) h →
    ∃ h', B_Md_day_50 43 (z : Int) (N : Int) w (dayC P z k) (k : Int) o6 o8 o9 o10 o11 o12 h = some (if w = 0 then bcS (sbS (dayQ P z N) (pL P).toNat) else dayC P z N, h') ∧ MI L n T P U K h' ∧ MFm h h'
  | 0, k, h, o6, o8, o9, o10, o11, o12, e, hd => by
    have : k = N := by omega
    subst this
    have v2 := hv.2.1
    obtain ⟨q1, q2⟩ := dayQ_v hv z k
    have eL : pL (dayQ P z k) = pL P := St_L q2
    rw [q_Md_day_50, if_pos (Int.le_refl _)]
    by_cases q : w = 0
    · obtain ⟨h1, a1, a2⟩ := m_sureOnes hd.2 q1
      rw [show ((1320 : Nat) : Int) = 1320 from rfl, eL] at a1
      obtain ⟨m1, m2⟩ := MD_s hd a2
      rw [if_neg (Decidable.not_not.mpr q), if_pos q, a1, Option.bind_some]
      dsimp only
      rw [m_bits (sbS_b _ _ (by omega)), Option.bind_some]
      exact ⟨h1, rfl, m1.1, m2⟩
    · rw [if_pos q, if_neg q]
      exact ⟨h, rfl, hd.1, MFm_rf h⟩
  | m + 1, k, h, o6, o8, o9, o10, o11, o12, e, hd => by
    have v2 := hv.2.1
    have ge : ¬ (N : Int) ≤ (k : Int) := by omega
    have k1 : k < 1000 := by omega
    obtain ⟨q1, q2⟩ := dayQ_v hv z k
    obtain ⟨p1, p2⟩ := dayQ_v hv z (k + 1)
    have eL : pL (dayQ P z (k + 1)) = pL P := St_L p2
    have ed : w32 (Int.tmod (w64 ((w64 ((w64 ((w64 (7919 * (z : Int))) + (w64 (6151 * (k : Int))))) + 1)) * (w64 ((w64 ((w64 (7919 * (z : Int))) + (w64 (6151 * (k : Int))))) + 1)))) 65521) = ((drw z k : Nat) : Int) := drX_e hz (by omega)
    rw [q_Md_day_50, if_neg ge, ed]
    clear ed
    obtain ⟨h1, a, b, c, d, a1, a2, a3⟩ := m_da86 hd q1 (drw_lt z k) (z : Int) (N : Int) w (dayC P z k) (k : Int) (w64 ((w64 ((w64 (7919 * (z : Int))) + (w64 (6151 * (k : Int))))) + 1)) o9 o10 o11 o12
    have a2' : MD L n T P U K (dayQ P z (k + 1)) h1 := a2
    obtain ⟨h2, b1, b2⟩ := m_sureOnes a2'.2 p1
    rw [show ((1320 : Nat) : Int) = 1320 from rfl, eL] at b1
    obtain ⟨m1, m2⟩ := MD_s a2' b2
    have cb := dayC_b P z k
    rw [a1, q_Md_day_200, b1, Option.bind_some]
    dsimp only
    rw [g_43 m1.1.1 (by decide), Option.bind_some, m1.1.2.2.1.2.1]
    have fin : ∀ s : Int, s = b2i (sbS (dayQ P z (k + 1)) (pL P).toNat = w32 (ishl 1 (pL P) - 1)) → ∃ h', B_Md_day_225 43 (z : Int) (N : Int) w (dayC P z k) (k : Int) (w64 ((w64 ((w64 (7919 * (z : Int))) + (w64 (6151 * (k : Int))))) + 1)) ((drw z k : Nat) : Int) a b c d s (dayC P z k) h2 = some (if w = 0 then bcS (sbS (dayQ P z N) (pL P).toNat) else dayC P z N, h') ∧ MI L n T P U K h' ∧ MFm h h' := fun s hs => by
      have b01 := b2i_01 (sbS (dayQ P z (k + 1)) (pL P).toNat = w32 (ishl 1 (pL P) - 1))
      rw [← hs] at b01
      have ec : dayC P z (k + 1) = dayC P z k + s := by rw [hs]; rfl
      obtain ⟨h', z1, z2, z3⟩ := m_da50 hv hz hN (w := w) m (k + 1) h2 (some (.inr (.inl (w64 ((w64 ((w64 (7919 * (z : Int))) + (w64 (6151 * (k : Int))))) + 1))))) (some (.inl ((drw z k : Nat) : Int))) (some (.inl a)) (some (.inl b)) (some (.inl c)) (some (.inl d)) (by omega) m1
      refine ⟨h', ?_, z2, MFm_tr a3 (MFm_tr m2 z3)⟩
      rw [q_Md_day_225, w32_nn k k1, w32_id (by omega) (by omega), ← ec, z1]
    by_cases q : sbS (dayQ P z (k + 1)) (pL P).toNat = w32 (ishl 1 (pL P) - 1)
    · rw [if_neg (Decidable.not_not.mpr q)]
      exact fin 1 (b2i_t q).symm
    · rw [if_pos q]
      exact fin 0 (b2i_f q).symm
theorem m_day (hm : MI L n T P U K h) (hv : Val P) (z N w : Int) : ∃ h', F_Md_day 43 z N w h = some (dayA P z N w, h') ∧ MI L n T P U K h' ∧ MFm h h' := by
  obtain ⟨hL, -, hS, h0, -⟩ := id hm
  unfold dayA
  rw [q_Md_day _ _ _ _ _ (o_43 hL), c_in, Option.bind_some]
  dsimp only
  by_cases q : 0 ≤ z ∧ z ≤ 9999
  · rw [b2i_t q, if_neg (by decide), c_in, Option.bind_some]
    dsimp only
    by_cases r : 1 ≤ N ∧ N ≤ 20
    · rw [b2i_t r, if_neg (by decide), c_in, Option.bind_some]
      dsimp only
      by_cases s : 0 ≤ w ∧ w ≤ 1
      · obtain ⟨a, rfl⟩ := n_of q.1
        obtain ⟨b, rfl⟩ := n_of (show 0 ≤ N by omega)
        have s1 : Sl (cpI (h.2 53) 0 1320 120) 1320 P := Sl_to h0
        have k2 := MK_try hm hv (St_rf P) s1
        have f2 : Mq h (mrow h 53 (cpI (h.2 53) 0 1320 120)) := Mq_53 h (fun j hj => cp_1320 _ hj)
        obtain ⟨m1, m2⟩ := MI_q hm f2
        obtain ⟨h', z1, z2, z3⟩ := m_da50 (L := L) (n := n) (T := T) (U := U) (K := K) hv (z := a) (N := b) (by omega) (by omega) (w := w) b 0 _ none none none none none none (by omega) ⟨m1, k2⟩
        rw [b2i_t s, if_pos (by decide), iteP_t (p := (0 ≤ (a : Int) ∧ (a : Int) ≤ 9999) ∧ (1 ≤ (b : Int) ∧ (b : Int) ≤ 20) ∧ 0 ≤ w ∧ w ≤ 1) ⟨q, r, s⟩, tn, tn, m_try hL, Option.bind_some]
        exact ⟨h', z1, z2, MFm_tr m2 z3⟩
      · rw [b2i_f s, if_neg (by decide), iteP_f (fun z => s z.2.2)]
        exact ⟨h, rfl, hm, MFm_rf h⟩
    · rw [b2i_f r, if_pos rfl, iteP_f (fun z => r z.2.1)]
      exact ⟨h, rfl, hm, MFm_rf h⟩
  · rw [b2i_f q, if_pos rfl, iteP_f (fun z => q z.1)]
    exact ⟨h, rfl, hm, MFm_rf h⟩
end Md
