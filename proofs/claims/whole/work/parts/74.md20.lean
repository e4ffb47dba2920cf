/-! THE MODEL: reached, count -/
def bsS (x : Int) : Nat → Int
  | 0 => 0
  | k + 1 => w32 (bsS x k + iand (ishr x (k : Int)) 1)
theorem bs12 : ∀ a : Fin 16, bsS (a.val : Int) 12 = bcS (a.val : Int) := by decide +kernel
theorem m_bits4 (x : Int) (h : mH) : ∀ m k : Nat, k + m = 12 → B_Md_bits_4 x (bsS x k) (k : Int) h = some (bsS x 12, h)
  | 0, k, e => by
    have : k = 12 := by omega
    subst this
    rw [q_Md_bits_4, if_pos (by decide)]
  | m + 1, k, e => by
    have k1 : k < 1000 := by omega
    have ge : ¬ 12 ≤ (k : Int) := by omega
    rw [q_Md_bits_4, if_neg ge, w32_nn k k1]
    exact m_bits4 x h m (k + 1) (by omega)
theorem m_bits {x : Int} (hx : B16 x) (h : mH) : F_Md_bits x h = some (bcS x, h) := by
  obtain ⟨a, rfl⟩ := b16_of hx
  rw [q_Md_bits, ← bs12 a]
  exact m_bits4 _ h 12 0 (by decide)
section Md
variable {L n : Nat} {T P : Nat → Int} {U K : List (Nat → Int)} {h : mH}
theorem m_re22 (hk : MK L 0 P h) (hv : Val P) {l : Nat} (hl : (l : Int) < pL P) {b : Int} (hb : B16 b) (hh : hasB b l) {N : Nat} (hN : pK P l = N) (r : Int) : ∀ (m k : Nat) (o : Option mV), k + m = N → ∃ k' o', B_Md_reached_22 43 (ior b (tgS P l k)) r (l : Int) (k : Int) o h = B_Md_reached_87 43 (ior b (tgS P l N)) r (l : Int) k' o' h
  | 0, k, o, e => by
    obtain ⟨hL, hS, hs, -⟩ := id hk
    have v2 := hv.2.1
    have l4 : l < 4 := by omega
    have : k = N := by omega
    subst this
    refine ⟨(k : Int), o, ?_⟩
    rw [q_Md_reached_22, many0 hL l4 ((hs l l4).2.2.1.trans hN), Option.bind_some]
    dsimp only
    rw [if_pos (Int.le_refl _)]
  | m + 1, k, o, e => by
    obtain ⟨hL, hS, hs, -⟩ := id hk
    have v2 := hv.2.1
    have l4 : l < 4 := by omega
    have vk := (hv.2.2.2.2 l hl).2.2.2.2.1
    have k6 : k < 6 := by omega
    have k1 : k < 1000 := by omega
    have ge : ¬ (N : Int) ≤ (k : Int) := by omega
    have ht : B16 (tgS P l k) := tgS_b k (fun i hi => Val_tok hv hl (by omega))
    have hln := lin_b (Val_tok hv hl (show (k : Int) < pK P l by omega))
    have hh' : iand (ishr (ior b (tgS P l k)) (l : Int)) 1 = 1 := (hb_or hb ht l4).mpr (Or.inl hh)
    have p0 : 0 + 30 * l + 6 + 4 * k < 1440 := by omega
    have p1 : 0 + 30 * l + 6 + 4 * k + 1 < 1440 := by omega
    have p2 : 0 + 30 * l + 6 + 4 * k + 2 < 1440 := by omega
    have pp : 0 + 30 * l + 6 + 4 * k < 10000 := by omega
    have c0 := Sl_pc hs l4 k6 (p := 0) (by decide)
    rw [Nat.add_zero] at c0
    have c1 := Sl_pc hs l4 k6 (p := 1) (by decide)
    have c2 := Sl_pc hs l4 k6 (p := 2) (by decide)
    have hsp := m_spot (b := 0) (by decide) l4 (Nat.le_of_lt k6) h
    rw [show ((0 : Nat) : Int) = 0 from rfl] at hsp
    obtain ⟨k', o', z⟩ := m_re22 hk hv hl hb hh hN r m (k + 1) (some (.inl ((0 + 30 * l + 6 + 4 * k : Nat) : Int))) (by omega)
    refine ⟨k', o', ?_⟩
    have e1 : w32 (((0 + 30 * l + 6 + 4 * k : Nat) : Int) + 1) = ((0 + 30 * l + 6 + 4 * k + 1 : Nat) : Int) := ix1 (c := 1) pp (by decide)
    have e2 : w32 (((0 + 30 * l + 6 + 4 * k : Nat) : Int) + 2) = ((0 + 30 * l + 6 + 4 * k + 2 : Nat) : Int) := ix1 (c := 2) pp (by decide)
    rw [q_Md_reached_22, many0 hL l4 ((hs l l4).2.2.1.trans hN), Option.bind_some]
    dsimp only
    rw [if_neg ge, m_has h rfl, b2i_t hh', Option.bind_some]
    dsimp only
    rw [if_neg (by decide), hsp, Option.bind_some]
    dsimp only
    rw [p_43_14 hL, Option.bind_some, ld53 hL p0, Option.bind_some, Option.bind_some, e1, ld53 hL p1, Option.bind_some, Option.bind_some, e2, ld53 hL p2, Option.bind_some, c0, c1, c2, m_labelsIn, Option.bind_some]
    dsimp only
    rw [w32_nn k k1, ioA hb ht hln]
    exact z
theorem m_re11 (hk : MK L 0 P h) (hv : Val P) {b : Int} (hb : B16 b) {N : Nat} (hN : pL P = N) (r : Int) : ∀ (m l : Nat) (o4 o5 : Option mV), l + m = N → ∃ o3' o4' o5', B_Md_reached_11 43 (reP P b l) r (l : Int) o4 o5 h = B_Md_reached_4 43 (reP P b N) (w32 (r + 1)) o3' o4' o5' h
  | 0, l, o4, o5, e => by
    have : l = N := by omega
    subst this
    refine ⟨some (.inl (l : Int)), o4, o5, ?_⟩
    rw [q_Md_reached_11, g_43 hk.1 (by decide), Option.bind_some, hk.2.1.2.1, if_pos (by omega)]
  | m + 1, l, o4, o5, e => by
    obtain ⟨hL, hS, hs, -⟩ := id hk
    have v2 := hv.2.1
    have l4 : l < 4 := by omega
    have l1 : l < 1000 := by omega
    have hl : (l : Int) < pL P := by omega
    have vk := (hv.2.2.2.2 l hl).2.2.2.2.1
    obtain ⟨M, hM⟩ : ∃ M : Nat, pK P l = (M : Int) := ⟨(pK P l).toNat, by omega⟩
    have rb := (reP_b hv hb l (by omega)).1
    rw [q_Md_reached_11, g_43 hL (by decide), Option.bind_some, hS.2.1, if_neg (by omega)]
    by_cases q : iand (ishr (reP P b l) (l : Int)) 1 = 1
    · obtain ⟨k', o', z⟩ := m_re22 hk hv hl rb q hM r M 0 o5 (by omega)
      have e0 : ior (reP P b l) (tgS P l 0) = reP P b l := io0 rb
      rw [e0, show ((0 : Nat) : Int) = 0 from rfl] at z
      have er : reP P b (l + 1) = ior (reP P b l) (tgS P l M) := by
        show iteP _ _ _ = _
        rw [iteP_t q, hM, tn]
      obtain ⟨a3, a4, a5, w⟩ := m_re11 hk hv hb hN r m (l + 1) (some (.inl k')) o' (by omega)
      refine ⟨a3, a4, a5, ?_⟩
      rw [z, q_Md_reached_87, w32_nn l l1, ← er, w]
    · have er : reP P b (l + 1) = reP P b l := iteP_f q _ _
      obtain ⟨a3, a4, a5, w⟩ := m_re11 hk hv hb hN r m (l + 1) (some (.inl 0)) o5 (by omega)
      refine ⟨a3, a4, a5, ?_⟩
      rw [er] at w
      rw [q_Md_reached_22, many0 hL l4 ((hs l l4).2.2.1.trans hM), Option.bind_some]
      dsimp only
      by_cases g : (M : Int) ≤ 0
      · rw [if_pos g, q_Md_reached_87, w32_nn l l1, w]
      · rw [if_neg g, m_has h rfl, b2i_f q, Option.bind_some]
        dsimp only
        rw [if_pos rfl, q_Md_reached_87, w32_nn l l1, w]
theorem m_reached (hm : MI L n T P U K h) (hv : Val P) : F_Md_reached 43 h = some (reI P 5, h) := by
  have v2 := hv.2.1
  have hk := MI_K hm
  have st : ∀ (i : Nat) (o3 o4 o5 : Option mV), i < 4 → ∃ o3' o4' o5', B_Md_reached_4 43 (reI P i) (i : Int) o3 o4 o5 h = B_Md_reached_4 43 (reI P (i + 1)) ((i + 1 : Nat) : Int) o3' o4' o5' h := fun i o3 o4 o5 hi => by
    obtain ⟨a3, a4, a5, z⟩ := m_re11 hk hv (reI_b hv i) (N := (pL P).toNat) (by omega) (i : Int) (pL P).toNat 0 o4 o5 (by omega)
    refine ⟨a3, a4, a5, ?_⟩
    rw [q_Md_reached_4, if_neg (by omega), ← w32_nn i (by omega)]
    exact z
  obtain ⟨a1, a2, a3, z0⟩ := st 0 none none none (by decide)
  obtain ⟨b1, b2, b3, z1⟩ := st 1 a1 a2 a3 (by decide)
  obtain ⟨c1, c2, c3, z2⟩ := st 2 b1 b2 b3 (by decide)
  obtain ⟨d1, d2, d3, z3⟩ := st 3 c1 c2 c3 (by decide)
  rw [reI_54 hv, q_Md_reached _ _ (o_43 hm.1)]
  refine z0.trans (z1.trans (z2.trans (z3.trans ?_)))
  rw [q_Md_reached_4, if_pos (by decide)]
theorem m_co18 (hk : MK L 0 P h) (hv : Val P) {N : Nat} (hN : pL P = N) (w : Int) : ∀ (m l : Nat), l + m = N → B_Md_count_18 43 w (insN P l) (l : Int) h = B_Md_count_18 43 w (insN P N) (N : Int) h
  | 0, l, e => by
    have : l = N := by omega
    subst this
    rfl
  | m + 1, l, e => by
    obtain ⟨hL, hS, hs, -⟩ := id hk
    have v2 := hv.2.1
    have l4 : l < 4 := by omega
    have l1 : l < 1000 := by omega
    have hl : (l : Int) < pL P := by omega
    have ib := insN_b hv l (by omega)
    have vk := (hv.2.2.2.2 l hl).2.2.2.2.1
    rw [q_Md_count_18, g_43 hL (by decide), Option.bind_some, hS.2.1, if_neg (by omega), many0 hL l4 (hs l l4).2.2.1, Option.bind_some]
    dsimp only
    rw [w32_nn l l1, w32_id (by omega) (by omega)]
    exact m_co18 hk hv hN w m (l + 1) (by omega)
theorem m_count (hm : MI L n T P U K h) (hv : Val P) (w : Int) : ∃ h', F_Md_count 43 w h = some (countA n P U K w, h') ∧ MI L n T P U K h' ∧ MFm h h' := by
  obtain ⟨hL, ⟨t1, -⟩, hS, h0, ⟨u1, -⟩, k1, -⟩ := id hm
  have v2 := hv.2.1
  unfold countA
  rw [q_Md_count _ _ _ (o_43 hL), c_in, Option.bind_some]
  dsimp only
  by_cases q : 0 ≤ w ∧ w ≤ 6
  · have z := m_co18 (MI_K hm) hv (N := (pL P).toNat) (by omega) w (pL P).toNat 0 (by omega)
    have z' : B_Md_count_18 43 w 0 0 h = B_Md_count_18 43 w (insN P (pL P).toNat) ((pL P).toNat : Int) h := z
    rw [b2i_t q, if_pos (by decide), z', q_Md_count_18, g_43 hL (by decide), Option.bind_some, hS.2.1, if_pos (by omega)]
    by_cases w0 : w = 0
    · rw [if_neg (Decidable.not_not.mpr w0), if_pos w0, g_43 hL (by decide), Option.bind_some, hS.1]
      exact ⟨h, rfl, hm, MFm_rf h⟩
    rw [if_pos w0, if_neg w0]
    by_cases w1 : w = 1
    · rw [if_neg (Decidable.not_not.mpr w1), if_pos w1, Option.bind_some]
      exact ⟨h, rfl, hm, MFm_rf h⟩
    rw [if_pos w1, if_neg w1]
    by_cases w2 : w = 2
    · rw [if_neg (Decidable.not_not.mpr w2), if_pos w2]
      exact ⟨h, rfl, hm, MFm_rf h⟩
    rw [if_pos w2, if_neg w2]
    by_cases w3 : w = 3
    · obtain ⟨h1, a1, a2⟩ := m_sureOnes (MI_K hm) hv
      rw [show ((0 : Nat) : Int) = 0 from rfl] at a1
      obtain ⟨m1, m2⟩ := MI_q hm (Mq_s a2)
      rw [if_neg (Decidable.not_not.mpr w3), if_pos w3, a1, Option.bind_some]
      dsimp only
      rw [m_bits (sbS_b P _ (by omega)), Option.bind_some]
      exact ⟨h1, rfl, m1, m2⟩
    rw [if_pos w3, if_neg w3]
    by_cases w4 : w = 4
    · rw [if_neg (Decidable.not_not.mpr w4), if_pos w4, g_43 hL (by decide), Option.bind_some, u1]
      exact ⟨h, rfl, hm, MFm_rf h⟩
    rw [if_pos w4, if_neg w4]
    by_cases w5 : w = 5
    · rw [if_neg (Decidable.not_not.mpr w5), if_pos w5, g_43 hL (by decide), Option.bind_some, k1]
      exact ⟨h, rfl, hm, MFm_rf h⟩
    rw [if_pos w5, if_neg w5, if_pos (show w = 6 by omega), g_43 hL (by decide), Option.bind_some, t1]
    exact ⟨h, rfl, hm, MFm_rf h⟩
  · rw [b2i_f q, if_neg (by decide), if_neg (by omega), if_neg (by omega), if_neg (by omega), if_neg (by omega), if_neg (by omega), if_neg (by omega), if_neg (by omega)]
    exact ⟨h, rfl, hm, MFm_rf h⟩
end Md
