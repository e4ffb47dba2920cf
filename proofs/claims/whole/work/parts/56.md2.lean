/-! THE MODEL: write, mayBe -/
theorem w8_id {x : Int} (h0 : 0 ≤ x) (h1 : x < 128) : w8 x = x := by unfold w8; omega
section Md
variable {L n : Nat} {T P : Nat → Int} {U K : List (Nat → Int)} {h : mH}
theorem t54 : (54 : Int).toNat = 54 := rfl
theorem m_write (hm : MI L n T P U K h) (x : Int) : ∃ h', F_Md_write 43 x h = some (writeA n x, h') ∧ MI L (wrN n x) (wrT n T x) P U K h' ∧ MFm h h' := by
  obtain ⟨hL, ⟨t1, t2, t3, t4⟩, hS, h0, ⟨u1, u2, u3⟩, k1, k2, k3⟩ := id hm
  unfold writeA wrN wrT
  rw [q_Md_write _ _ _ (o_43 hL), c_in, Option.bind_some]
  dsimp only
  by_cases q : 32 ≤ x ∧ x ≤ 126
  · rw [b2i_t q, if_pos (by decide), iteP_t q, g_43 hL (by decide), Option.bind_some, t1]
    by_cases r : n < 200
    · have L1 : LyM L (mw h 54 n x) := LyM_mw hL rfl
      have L2 : LyM L (mw (mw h 54 n x) 43 17 ((n + 1 : Nat) : Int)) := LyM_mw L1 rfl
      have k9 : (n : Int) ≠ 200 := by omega
      have j0 : (0 : Int) ≤ (n : Int) := by omega
      have j1 : (n : Int) < 200 := by omega
      have kn : n < 1000 := by omega
      have e8 : w8 x = x := w8_id (by omega) (by omega)
      have hy : ¬ (200 ≤ n) := by omega
      have e1 : ((n + 1 : Nat) : Int) = (n : Int) + 1 := by omega
      have g17 : gfd 6 17 h 43 = some (n : Int) := by rw [g_43 hL (by decide), t1]
      have g17' : gfd 6 17 (mw h 54 n x) 43 = some (n : Int) := by rw [g_43 L1 (by decide), mw_o _ _ _ (by decide), t1]
      rw [iteP_t (p := (32 ≤ x ∧ x ≤ 126) ∧ n < 200) ⟨q, r⟩, iteP_t (p := (32 ≤ x ∧ x ≤ 126) ∧ n < 200) ⟨q, r⟩]
      refine ⟨mw (mw h 54 n x) 43 17 ((n + 1 : Nat) : Int), ?_, ⟨L2, ⟨mw_s _ _ _ _, by omega, fun i hi => ?_, fun i hi => ?_⟩, Sta_c ?_ ?_ (fun a ha => ?_) hS, ?_, ⟨?_, u2, ?_⟩, ?_, k2, ?_⟩, MFm_tr (MFm_mw h x (by decide)) (MFm_mw _ _ (by decide))⟩
      · rw [if_pos k9, iteP_f hy, p_43_18 hL, Option.bind_some, Option.bind_some, t54, w_54 hL j0 j1, Option.bind_some, tn, e8, e8, g17', Option.bind_some, w32_nn n kn, f_43 L1 (by decide), Option.bind_some, g_43 L2 (by decide), Option.bind_some, mw_s, ← e1]
      · rw [mw_o _ _ _ (by decide)]
        by_cases w : i = n
        · rw [w, mw_s, ru_s]
        · rw [mw_d _ _ w, ru_d _ _ w]; exact t3 i (by omega)
      · by_cases w : i = n
        · rw [w, ru_s]; exact q
        · rw [ru_d _ _ w]; exact t4 i (by omega)
      · rw [mw_d _ _ (by decide), mw_o _ _ _ (by decide)]
      · rw [mw_d _ _ (by decide), mw_o _ _ _ (by decide)]
      · rw [mw_o _ _ _ (by omega), mw_o _ _ _ (by omega)]
      · rw [mw_o _ _ _ (by decide), mw_o _ _ _ (by decide)]; exact h0
      · rw [mw_d _ _ (by decide), mw_o _ _ _ (by decide)]; exact u1
      · rw [mw_o _ _ _ (by decide), mw_o _ _ _ (by decide)]; exact u3
      · rw [mw_d _ _ (by decide), mw_o _ _ _ (by decide)]; exact k1
      · rw [mw_o _ _ _ (by decide), mw_o _ _ _ (by decide)]; exact k3
    · have en : (n : Int) = 200 := by omega
      rw [if_neg (Decidable.not_not.mpr en), iteP_t (show 200 ≤ n by omega), iteP_f (fun z => r z.2), iteP_f (fun z => r z.2)]
      exact ⟨h, rfl, hm, MFm_rf h⟩
  · rw [b2i_f q, if_neg (by decide), iteP_f q, iteP_f (fun z => q z.1), iteP_f (fun z => q z.1)]
    exact ⟨h, rfl, hm, MFm_rf h⟩
end Md
theorem m_may128 (c x y z s n mx my mz : Int) (h : mH) : B_Md_mayBe_128 c x y z s n mx my mz h = some (b2i ((0 ≤ c ∧ c ≤ 13) ∧ (0 ≤ x ∧ x ≤ mx) ∧ (0 ≤ y ∧ y ≤ my) ∧ 0 ≤ z ∧ z ≤ mz), h) := by
  rw [q_Md_mayBe_128, c_in, Option.bind_some]
  dsimp only
  by_cases h1 : 0 ≤ c ∧ c ≤ 13
  · rw [b2i_t h1, if_neg (by decide), c_in, Option.bind_some]
    dsimp only
    by_cases h2 : 0 ≤ x ∧ x ≤ mx
    · rw [b2i_t h2, if_neg (by decide), c_in, Option.bind_some]
      dsimp only
      by_cases h3 : 0 ≤ y ∧ y ≤ my
      · rw [b2i_t h3, if_neg (by decide), c_in, Option.bind_some]
        dsimp only
        by_cases h4 : 0 ≤ z ∧ z ≤ mz
        · rw [b2i_t h4, if_neg (by decide), b2i_t ⟨h1, h2, h3, h4⟩]
        · rw [b2i_f h4, if_pos rfl, b2i_f (fun z => h4 z.2.2.2)]
      · rw [b2i_f h3, if_pos rfl, b2i_f (fun z => h3 z.2.2.1)]
    · rw [b2i_f h2, if_pos rfl, b2i_f (fun z => h2 z.2.1)]
  · rw [b2i_f h1, if_pos rfl, b2i_f (fun z => h1 z.1)]
def mzS (c : Int) : Int := if c = 4 then 3 else if c = 5 then 2 else 0
theorem m_may107 (c x y z s n mx my : Int) (h : mH) : B_Md_mayBe_107 c x y z s n mx my h = some (b2i ((0 ≤ c ∧ c ≤ 13) ∧ (0 ≤ x ∧ x ≤ mx) ∧ (0 ≤ y ∧ y ≤ my) ∧ 0 ≤ z ∧ z ≤ mzS c), h) := by
  rw [q_Md_mayBe_107]
  unfold mzS
  by_cases h4 : c = 4
  · rw [if_neg (Decidable.not_not.mpr h4), if_pos h4, m_may128]
  · rw [if_pos h4, if_neg h4]
    by_cases h5 : c = 5
    · rw [if_neg (Decidable.not_not.mpr h5), if_pos h5, m_may128]
    · rw [if_pos h5, if_neg h5, m_may128]
def myS (c s n : Int) : Int := if c = 0 ∨ c = 2 ∨ c = 5 then 3 else if c = 1 then 99 else if c = 3 then s - 1 else if c = 4 then 2 else if c = 8 ∨ c = 10 ∨ c = 11 then n - 1 else 0
theorem m_may30 (c x y z mx : Int) {s n : Int} (hs : 0 ≤ s ∧ s ≤ 4) (hn : 0 ≤ n ∧ n ≤ 4) (h : mH) : B_Md_mayBe_30 c x y z s n mx h = some (b2i ((0 ≤ c ∧ c ≤ 13) ∧ (0 ≤ x ∧ x ≤ mx) ∧ (0 ≤ y ∧ y ≤ myS c s n) ∧ 0 ≤ z ∧ z ≤ mzS c), h) := by
  have ws : w32 (s - 1) = s - 1 := w32_id (by omega) (by omega)
  have wn : w32 (n - 1) = n - 1 := w32_id (by clear ws; omega) (by clear ws; omega)
  rw [q_Md_mayBe_30]
  unfold myS
  by_cases c0 : c = 0
  · rw [if_pos c0, if_pos (Or.inl c0), q_Md_mayBe_46, m_may107]
  rw [if_neg c0]
  by_cases c2 : c = 2
  · rw [if_pos c2, if_pos (Or.inr (Or.inl c2)), q_Md_mayBe_46, m_may107]
  rw [if_neg c2]
  by_cases c5 : c = 5
  · rw [if_neg (Decidable.not_not.mpr c5), if_pos (Or.inr (Or.inr c5)), q_Md_mayBe_46, m_may107]
  rw [if_pos c5, if_neg (show ¬ (c = 0 ∨ c = 2 ∨ c = 5) from fun z => z.elim c0 (fun z => z.elim c2 c5))]
  by_cases c1 : c = 1
  · rw [if_neg (Decidable.not_not.mpr c1), if_pos c1, m_may107]
  rw [if_pos c1, if_neg c1]
  by_cases c3 : c = 3
  · rw [if_neg (Decidable.not_not.mpr c3), if_pos c3, ws, m_may107]
  rw [if_pos c3, if_neg c3]
  by_cases c4 : c = 4
  · rw [if_neg (Decidable.not_not.mpr c4), if_pos c4, m_may107]
  rw [if_pos c4, if_neg c4]
  by_cases c8 : c = 8
  · rw [if_pos c8, if_pos (Or.inl c8), q_Md_mayBe_99, wn, m_may107]
  rw [if_neg c8]
  by_cases c10 : c = 10
  · rw [if_pos c10, if_pos (Or.inr (Or.inl c10)), q_Md_mayBe_99, wn, m_may107]
  rw [if_neg c10]
  by_cases c11 : c = 11
  · rw [if_neg (Decidable.not_not.mpr c11), if_pos (Or.inr (Or.inr c11)), q_Md_mayBe_99, wn, m_may107]
  rw [if_pos c11, if_neg (show ¬ (c = 8 ∨ c = 10 ∨ c = 11) from fun z => z.elim c8 (fun z => z.elim c10 c11)), m_may107]
theorem m_may (c x y z : Int) {s n : Int} (hs : 0 ≤ s ∧ s ≤ 4) (hn : 0 ≤ n ∧ n ≤ 4) (h : mH) : F_Md_mayBe c x y z s n h = some (b2i (mayS s n c x y z), h) := by
  have wn : w32 (n - 1) = n - 1 := w32_id (by omega) (by omega)
  have fin : ∀ mx, mx = (if c = 9 ∨ c = 11 then n - 1 else if c = 13 then 0 else 3) → (((0 ≤ c ∧ c ≤ 13) ∧ (0 ≤ x ∧ x ≤ mx) ∧ (0 ≤ y ∧ y ≤ myS c s n) ∧ 0 ≤ z ∧ z ≤ mzS c) ↔ mayS s n c x y z) := fun mx hmx => by
    clear wn
    subst hmx
    by_cases hc : 0 ≤ c ∧ c < 14
    · obtain ⟨m, rfl⟩ := n_of hc.1
      have : m = 0 ∨ m = 1 ∨ m = 2 ∨ m = 3 ∨ m = 4 ∨ m = 5 ∨ m = 6 ∨ m = 7 ∨ m = 8 ∨ m = 9 ∨ m = 10 ∨ m = 11 ∨ m = 12 ∨ m = 13 := by omega
      rcases this with e | e | e | e | e | e | e | e | e | e | e | e | e | e <;> subst e <;> simp [mayS, chs, oprL, myS, mzS] <;> omega
    · exact ⟨fun q => absurd ⟨q.1.1, by have := q.1.2; omega⟩ hc, fun q => absurd q.1 hc⟩
  rw [q_Md_mayBe]
  by_cases c9 : c = 9
  · rw [if_pos c9, q_Md_mayBe_12, wn, m_may30 _ _ _ _ _ hs hn, b2i_c (fin _ (by rw [if_pos (Or.inl c9)]))]
  rw [if_neg c9]
  by_cases c11 : c = 11
  · rw [if_neg (Decidable.not_not.mpr c11), q_Md_mayBe_12, wn, m_may30 _ _ _ _ _ hs hn, b2i_c (fin _ (by rw [if_pos (Or.inr c11)]))]
  rw [if_pos c11]
  by_cases c13 : c = 13
  · rw [if_neg (Decidable.not_not.mpr c13), m_may30 _ _ _ _ _ hs hn, b2i_c (fin _ (by rw [if_neg (fun z => z.elim c9 c11), if_pos c13]))]
  · rw [if_pos c13, m_may30 _ _ _ _ _ hs hn, b2i_c (fin _ (by rw [if_neg (fun z => z.elim c9 c11), if_neg c13]))]
