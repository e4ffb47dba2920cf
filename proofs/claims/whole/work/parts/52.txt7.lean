/-! THE TEXT: fault -/
section Em
variable {a : Nat}
theorem c_em2 : ∀ (m k : Nat) (h : mH), k + m = 154 → PgO h a → Zr (h.2 (a + 1)) → (∀ j, j < k → h.2 (a + 1) j = 0) → B_Pg_empty_2 a (k : Int) h = some (mrow h (a + 1) (fun _ => 0))
  | 0, k, h, e, hp, hz, hk => by
    have : k = 154 := by omega
    subst this
    have er : h.2 (a + 1) = fun _ => 0 := by
      funext j
      by_cases q : j < 154
      · exact hk j q
      · exact hz j (by omega)
    rw [q_Pg_empty_2, if_pos (by decide), ← er, mrow_id]
  | m + 1, k, h, e, hp, hz, hk => by
    have k1 : ¬ 154 ≤ (k : Int) := by omega
    have k2 : (0 : Int) ≤ (k : Int) := by omega
    have k3 : (k : Int) < 154 := by omega
    have kk : k < 1000 := by omega
    have hk154 : k < 154 := by omega
    have z := c_em2 m (k + 1) (mrow h (a + 1) (ru (h.2 (a + 1)) k 0)) (by omega) (PgO_s hp _) (by rw [mrow_s]; exact Zr_ru hz _ hk154) (fun j hj => by
      rw [mrow_s]
      by_cases q : j = k
      · rw [q, ru_s]
      · rw [ru_d _ _ q]; exact hk j (by omega))
    rw [mrow_m] at z
    rw [q_Pg_empty_2, if_neg k1, hp.2.1, Option.bind_some, tn, pg_w hp k2 k3, Option.bind_some, tn, w32_nn k kk]
    exact z
theorem c_empty {h : mH} (hp : PgO h a) (hz : Zr (h.2 (a + 1))) : F_Pg_empty a h = some (mrow h (a + 1) (fun _ => 0)) := by
  rw [q_Pg_empty _ _ hp.1]
  exact c_em2 154 0 h (by decide) hp hz (fun j hj => by omega)
end Em
noncomputable def rdA (T : Nat → Int) (n : Nat) : Int × (Nat → Int) := rdS T n 200 0 (fun _ => 0)
section Tb
variable {L n : Nat} {T P : Nat → Int} {U K : List (Nat → Int)} {h : mH}
theorem CI_tx {h' : mH} (hc : CI L n T P U K h) (f : TX h h') (hL' : Ly L h') : CI L n T P U K h' ∧ TF h h' := by
  obtain ⟨hL, ⟨z9, z12, z14⟩, ⟨t1, t2, t3⟩, hP, hU, hK⟩ := hc
  obtain ⟨f1, f2, f3, f4⟩ := f
  exact ⟨⟨hL', ⟨f4 z9, by rw [f2 12 (by decide) (by decide)]; exact z12, by rw [f2 14 (by decide) (by decide)]; exact z14⟩, ⟨by rw [f3 2 (by decide)]; exact t1, t2, by rw [f2 10 (by decide) (by decide)]; exact t3⟩, by rw [f2 12 (by decide) (by decide)]; exact hP, ShI_c (fun b hb => f2 b (by omega) (by omega)) hU, ShI_c (fun b hb => f2 b (by omega) (by omega)) hK⟩, f1, fun a ha => f2 a (by omega) (by omega)⟩
theorem c_readAll (hc : CI L n T P U K h) : ∃ h', F_Tx_readAll 7 h = some ((rdA T n).1, h') ∧ CI L n T P U K h' ∧ TF h h' ∧ ((rdA T n).1 = -4 → h'.2 9 = (rdA T n).2 ∧ PV (rdA T n).2) := by
  have hL := hc.1
  have L1 : Ly L (mw h 7 3 0) := Ly_mw hL rfl
  have hz9 : Zr ((mw h 7 3 0).2 (8 + 1)) := by rw [mw_o _ _ _ (by decide)]; exact hc.2.1.1
  have zz : Zr (fun _ => (0 : Int)) := fun _ _ => rfl
  have ht : TI L n T 0 (fun _ => 0) (mrow (mw h 7 3 0) 9 (fun _ => 0)) := by
    refine ⟨Ly_row L1 (fun j => rfl), ⟨?_, hc.2.2.1.2.1, ?_⟩, ?_, mrow_s _ _ _, zz⟩
    · rw [mrow_o _ _ (by decide), mw_d _ _ (by decide)]; exact hc.2.2.1.1
    · rw [mrow_o _ _ (by decide), mw_o _ _ _ (by decide)]; exact hc.2.2.1.2.2
    · rw [mrow_o _ _ (by decide), mw_s]; rfl
  obtain ⟨h', z1, z2, z3, z4⟩ := c_ra14 200 0 0 (fun _ => 0) none _ (by decide) ht PV_z
  obtain ⟨c1, c2⟩ := CI_tx hc (TX_tr (TX_at h 0) (TX_tr (TX_row _ zz) z2)) z3
  refine ⟨h', ?_, c1, c2, z4⟩
  rw [q_Tx_readAll _ _ (o_7 hL), f_7 hL (by decide), Option.bind_some, p_7_0 L1, Option.bind_some, t8, c_empty (Ly_pg L1 (by simp)) hz9, Option.bind_some]
  exact z1
theorem c_fault (hc : CI L n T P U K h) : ∃ h', F_Tb_fault 6 h = some ((rdA T n).1, h') ∧ CI L n T P U K h' ∧ TF h h' := by
  obtain ⟨h', a1, a2, a3, -⟩ := c_readAll hc
  refine ⟨h', ?_, a2, a3⟩
  rw [q_Tb_fault _ _ (o_6 hc.1), p_6_0 hc.1, Option.bind_some, show (7 : Int).toNat = 7 from rfl, a1, Option.bind_some]
end Tb
/-! small sets, bit by bit -/
def hasB (x : Int) (b : Nat) : Prop := iand (ishr x (b : Int)) 1 = 1
theorem hb_or' : ∀ x y : Fin 16, ∀ b : Fin 4, iand (ishr (ior (x.val : Int) (y.val : Int)) (b.val : Int)) 1 = 1 ↔ (iand (ishr (x.val : Int) (b.val : Int)) 1 = 1 ∨ iand (ishr (y.val : Int) (b.val : Int)) 1 = 1) := by decide +kernel
theorem hb_sh' : ∀ a b : Fin 4, iand (ishr (ishl 1 (a.val : Int)) (b.val : Int)) 1 = 1 ↔ a.val = b.val := by decide +kernel
theorem hb_0' : ∀ b : Fin 4, ¬ iand (ishr 0 (b.val : Int)) 1 = 1 := by decide +kernel
theorem hb_cl' : ∀ x : Fin 16, ∀ N : Fin 5, iand (x.val : Int) (ixor (w32 (ishl 1 (N.val : Int) - 1)) (-1)) = 0 ↔ ∀ b : Fin 4, iand (ishr (x.val : Int) (b.val : Int)) 1 = 1 → b.val < N.val := by decide +kernel
theorem hb_sr' : ∀ x : Fin 16, ∀ N : Fin 5, ishr (x.val : Int) (N.val : Int) = 0 ↔ ∀ b : Fin 4, iand (ishr (x.val : Int) (b.val : Int)) 1 = 1 → b.val < N.val := by decide +kernel
theorem hb_or {x y : Int} (hx : B16 x) (hy : B16 y) {b : Nat} (hb : b < 4) : hasB (ior x y) b ↔ hasB x b ∨ hasB y b := by
  obtain ⟨a, rfl⟩ := b16_of hx
  obtain ⟨c, rfl⟩ := b16_of hy
  exact hb_or' a c ⟨b, hb⟩
theorem hb_sh {a b : Nat} (ha : a < 4) (hb : b < 4) : hasB (ishl 1 (a : Int)) b ↔ a = b := hb_sh' ⟨a, ha⟩ ⟨b, hb⟩
theorem hb_0 {b : Nat} (hb : b < 4) : ¬ hasB 0 b := hb_0' ⟨b, hb⟩
theorem hb_cl {x : Int} (hx : B16 x) {N : Nat} (hN : N ≤ 4) : iand x (ixor (w32 (ishl 1 (N : Int) - 1)) (-1)) = 0 ↔ ∀ b : Nat, b < 4 → hasB x b → b < N := by
  obtain ⟨a, rfl⟩ := b16_of hx
  refine (hb_cl' a ⟨N, by omega⟩).trans ⟨fun z b hb hh => z ⟨b, hb⟩ hh, fun z b hh => z b.val b.isLt hh⟩
theorem hb_sr {x : Int} (hx : B16 x) {N : Nat} (hN : N ≤ 4) : ishr x (N : Int) = 0 ↔ ∀ b : Nat, b < 4 → hasB x b → b < N := by
  obtain ⟨a, rfl⟩ := b16_of hx
  refine (hb_sr' a ⟨N, by omega⟩).trans ⟨fun z b hb hh => z ⟨b, hb⟩ hh, fun z b hh => z b.val b.isLt hh⟩
