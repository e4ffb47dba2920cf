/-! THE MODEL: fault, lay -/
section Md
variable {L n : Nat} {T P Q : Nat → Int} {U K : List (Nat → Int)} {h : mH}
theorem m_bg17 : ∀ (m k : Nat) (h : mH), k + m = 120 → LyM L h → (∀ j, j < k → h.2 52 j = 0) → ∃ h', B_Md_begins_17 43 (k : Int) h = some h' ∧ (h'.1 = h.1 ∧ ∀ a, a ≠ 52 → h'.2 a = h.2 a) ∧ LyM L h' ∧ ∀ j, j < 120 → h'.2 52 j = 0
  | 0, k, h, e, hL, hz => by
    have : k = 120 := by omega
    subst this
    exact ⟨h, by rw [q_Md_begins_17, if_pos (by decide)], ⟨rfl, fun _ _ => rfl⟩, hL, hz⟩
  | m + 1, k, h, e, hL, hz => by
    have L1 : LyM L (mw h 52 k 0) := LyM_mw hL rfl
    obtain ⟨h', z1, ⟨z2, z3⟩, z4, z5⟩ := m_bg17 m (k + 1) (mw h 52 k 0) (by omega) L1 (fun j hj => by
      rw [mw_at]
      split
      · rfl
      · exact hz j (by omega))
    refine ⟨h', ?_, ⟨z2, fun a ha => by rw [z3 a ha, mw_o _ _ _ ha]⟩, z4, z5⟩
    rw [q_Md_begins_17, if_neg (by omega), p_43_12 hL, Option.bind_some, st52 hL (by omega), Option.bind_some, w32_nn k (by omega), z1]
theorem MI_x (hm : MI L n T P U K h) : Mx L n T h := ⟨hm.1, hm.2.1.1, hm.2.1.2.1, hm.2.1.2.2.1⟩
theorem MI_rd {h' : mH} (hm : MI L n T P U K h) (f : Mpl h h') (hL' : LyM L h') : MI L n T P U K h' ∧ MFm h h' := by
  obtain ⟨hL, ⟨t1, t2, t3, t4⟩, hS, h0, ⟨u1, u2, u3⟩, k1, k2, k3⟩ := hm
  obtain ⟨f1, f2, f3⟩ := f
  have g : ∀ j, (j < 6 ∨ (14 ≤ j ∧ j ≤ 18)) → h'.2 43 j = h.2 43 j := fun j hj => f3 j (by omega) (by omega) (by omega) (by omega) (by omega) (by omega)
  exact ⟨⟨hL', ⟨by rw [g 17 (by decide)]; exact t1, t2, by rw [f2 54 (by decide) (by decide)]; exact t3, t4⟩, Sta_c (g 0 (by decide)) (g 3 (by decide)) (fun a ha => f2 a (by omega) (by omega)) hS, by rw [f2 53 (by decide) (by decide)]; exact h0, ⟨by rw [g 15 (by decide)]; exact u1, u2, by rw [f2 53 (by decide) (by decide)]; exact u3⟩, by rw [g 16 (by decide)]; exact k1, k2, by rw [f2 53 (by decide) (by decide)]; exact k3⟩, f1, fun a ha => f2 a (by omega) (by omega)⟩
theorem B16_z : B16 0 := by unfold B16; decide
theorem m_reads (hm : MI L n T P U K h) : RdE L n T h (rdA T n) (F_Md_reads 43 h) := by
  have hL := hm.1
  have n2 := hm.2.1.2.1
  have L1 : LyM L (mw h 43 6 0) := LyM_mw hL rfl
  have L2 : LyM L (mw (mw h 43 6 0) 43 9 0) := LyM_mw L1 rfl
  have L3 : LyM L (mw (mw (mw h 43 6 0) 43 9 0) 43 13 0) := LyM_mw L2 rfl
  obtain ⟨g, a1, ⟨a2, a3⟩, a4, a5⟩ := m_bg17 120 0 _ (by decide) L3 (fun j hj => by omega)
  rw [show ((0 : Nat) : Int) = 0 from rfl] at a1
  have L5 : LyM L (mw g 43 19 0) := LyM_mw a4 rfl
  have fr : Mp h g := ⟨by rw [a2]; rfl, fun a h1 h2 => by rw [a3 a (by omega), mw_o _ _ _ h1, mw_o _ _ _ h1, mw_o _ _ _ h1], fun j h1 h2 h3 _ _ => by rw [a3 43 (by decide), mw_d _ _ h3, mw_d _ _ h2, mw_d _ _ h1]⟩
  have fr2 : Mp h (mw (mw g 43 19 0) 43 21 0) := Mp_tr fr (Mp_tr (Mp_43 g _ (by decide)) (Mp_43 _ _ (by decide)))
  have e6 : (mw (mw g 43 19 0) 43 21 0).2 43 6 = 0 := by rw [mw_d _ _ (by decide), mw_d _ _ (by decide), a3 43 (by decide), mw_d _ _ (by decide), mw_d _ _ (by decide), mw_s]
  have e9 : (mw (mw g 43 19 0) 43 21 0).2 43 9 = 0 := by rw [mw_d _ _ (by decide), mw_d _ _ (by decide), a3 43 (by decide), mw_d _ _ (by decide), mw_s]
  have e13 : (mw (mw g 43 19 0) 43 21 0).2 43 13 = 0 := by rw [mw_d _ _ (by decide), mw_d _ _ (by decide), a3 43 (by decide), mw_s]
  have hto : MTo (fun _ => 0) (mw (mw g 43 19 0) 43 21 0) := by
    refine ⟨e6, e9, fun t ht => ?_, fun l hl => ?_, ?_⟩
    · have : (t : Int) < 0 := ht
      omega
    · have : (l : Int) < 0 := hl
      omega
    · rw [Sl_u, mw_o _ _ _ (by decide), mw_o _ _ _ (by decide)]
      intro l c hl hc
      exact a5 _ (by omega)
  have hmn : MMn (fun _ => 0) (mw (mw g 43 19 0) 43 21 0) := by
    unfold MMn
    rw [e13]
    refine ⟨B16_z, fun b hb => ⟨fun z => absurd z (hb_0 hb), fun ⟨l, z, _⟩ => ?_⟩⟩
    have : (l : Int) < 0 := z
    omega
  obtain ⟨h', z1, z2, z3, z4⟩ := m_rd14 200 0 (fun _ => 0) none (mw (mw g 43 19 0) 43 21 0) (by omega) (by decide) (Mp_x fr2 (MI_x hm)) (by rw [mw_d _ _ (by decide), mw_s]; rfl) (mw_s _ _ _ _) hto hmn PV_z
  refine ⟨h', ?_, Mpl_tr (Mpl_p fr2) z2, z3, z4⟩
  rw [q_Md_reads _ _ (o_43 hL), q_Md_begins _ _ (o_43 hL), f_43 hL (by decide), Option.bind_some, f_43 L1 (by decide), Option.bind_some, f_43 L2 (by decide), Option.bind_some, a1, Option.bind_some, f_43 a4 (by decide), Option.bind_some]
  rw [show ∀ g : mH, (bz 0).bind (fun _ => pfd 6 21 g 43 0) = pfd 6 21 g 43 0 from fun _ => rfl, f_43 L5 (by decide), Option.bind_some, z1]
theorem m_fault (hm : MI L n T P U K h) : ∃ h', F_Md_fault 43 h = some ((rdA T n).1, h') ∧ MI L n T P U K h' ∧ MFm h h' := by
  obtain ⟨h1, a1, a2, a3, a4⟩ := m_reads hm
  obtain ⟨m1, m2⟩ := MI_rd hm a2 a3.1
  rw [q_Md_fault _ _ (o_43 hm.1), a1, Option.bind_some, g_43 a3.1 (by decide), Option.bind_some]
  rcases a4 with ⟨b1, b2, -⟩ | ⟨b1, b2, b3⟩
  · rw [b2, if_pos rfl, b1]
    exact ⟨h1, rfl, m1, m2⟩
  · rw [b2, if_neg (by decide), g_43 a3.1 (by decide), Option.bind_some, b3]
    exact ⟨h1, rfl, m1, m2⟩
/-- what settling leaves -/
def StI (h h' : mH) (k4 k12 k120 : Nat) : Prop := (∀ j, j < k4 → h'.2 44 j = h.2 48 j ∧ h'.2 46 j = h.2 50 j) ∧ (∀ j, j < k12 → h'.2 45 j = h.2 49 j ∧ h'.2 47 j = h.2 51 j) ∧ ∀ j, j < k120 → h'.2 53 j = h.2 52 j
def Mse (h h' : mH) : Prop := h'.1 = h.1 ∧ (∀ a, a ≠ 43 → a ≠ 44 → a ≠ 45 → a ≠ 46 → a ≠ 47 → a ≠ 53 → h'.2 a = h.2 a) ∧ ∀ j, j ≠ 0 → j ≠ 3 → j ≠ 15 → j ≠ 16 → h'.2 43 j = h.2 43 j
theorem Mse_rf (h : mH) : Mse h h := ⟨rfl, fun _ _ _ _ _ _ _ => rfl, fun _ _ _ _ _ => rfl⟩
theorem Mse_tr {h h1 h2 : mH} (a : Mse h h1) (b : Mse h1 h2) : Mse h h2 := ⟨b.1.trans a.1, fun k k1 k2 k3 k4 k5 k6 => (b.2.1 k k1 k2 k3 k4 k5 k6).trans (a.2.1 k k1 k2 k3 k4 k5 k6), fun j h1 h2 h3 h4 => (b.2.2 j h1 h2 h3 h4).trans (a.2.2 j h1 h2 h3 h4)⟩
theorem Mse_r (h : mH) {a : Nat} (j : Nat) (v : Int) (ha : a = 44 ∨ a = 45 ∨ a = 46 ∨ a = 47 ∨ a = 53) : Mse h (mw h a j v) := ⟨rfl, fun b k1 k2 k3 k4 k5 k6 => mw_o _ _ _ (by omega), fun i _ _ _ _ => by rw [mw_o _ _ _ (by omega)]⟩
theorem Mse_43 (h : mH) {j : Nat} (v : Int) (hj : j = 0 ∨ j = 3 ∨ j = 15 ∨ j = 16) : Mse h (mw h 43 j v) := ⟨rfl, fun b k1 _ _ _ _ _ => mw_o _ _ _ k1, fun i h1 h2 h3 h4 => mw_d _ _ (by omega)⟩
theorem st44 (hL : LyM L h) {p : Nat} (hp : p < 4) (v : Int) : ast h (44 : Int).toNat (p : Int) v = some (mw h 44 p v) := by rw [t44, w_44 hL (by omega) (by omega), tn]
theorem st45 (hL : LyM L h) {p : Nat} (hp : p < 12) (v : Int) : ast h (45 : Int).toNat (p : Int) v = some (mw h 45 p v) := by rw [t45, w_45 hL (by omega) (by omega), tn]
theorem st46 (hL : LyM L h) {p : Nat} (hp : p < 4) (v : Int) : ast h (46 : Int).toNat (p : Int) v = some (mw h 46 p v) := by rw [t46, w_46 hL (by omega) (by omega), tn]
theorem st47 (hL : LyM L h) {p : Nat} (hp : p < 12) (v : Int) : ast h (47 : Int).toNat (p : Int) v = some (mw h 47 p v) := by rw [t47, w_47 hL (by omega) (by omega), tn]
theorem ld48 (hL : LyM L h) {p : Nat} (hp : p < 4) : ald 10 h (48 : Int).toNat (p : Int) = some (h.2 48 p) := by rw [t48, r_48 hL (by omega) (by omega), tn]
theorem ld49 (hL : LyM L h) {p : Nat} (hp : p < 12) : ald 10 h (49 : Int).toNat (p : Int) = some (h.2 49 p) := by rw [t49, r_49 hL (by omega) (by omega), tn]
theorem ld50 (hL : LyM L h) {p : Nat} (hp : p < 4) : ald 10 h (50 : Int).toNat (p : Int) = some (h.2 50 p) := by rw [t50, r_50 hL (by omega) (by omega), tn]
theorem ld51 (hL : LyM L h) {p : Nat} (hp : p < 12) : ald 10 h (51 : Int).toNat (p : Int) = some (h.2 51 p) := by rw [t51, r_51 hL (by omega) (by omega), tn]
theorem m_se93 {h0 : mH} : ∀ (m k : Nat) (h : mH), k + m = 120 → LyM L h → Mse h0 h → StI h0 h 4 12 k → ∃ h', B_Md_settles_93 43 (k : Int) h = some h' ∧ LyM L h' ∧ Mse h0 h' ∧ StI h0 h' 4 12 120 ∧ h'.2 43 0 = h.2 43 0 ∧ h'.2 43 3 = h.2 43 3 ∧ h'.2 43 15 = 0 ∧ h'.2 43 16 = 0
  | 0, k, h, e, hL, hf, hs => by
    have : k = 120 := by omega
    subst this
    have L1 : LyM L (mw h 43 15 0) := LyM_mw hL rfl
    have L2 : LyM L (mw (mw h 43 15 0) 43 16 0) := LyM_mw L1 rfl
    refine ⟨mw (mw h 43 15 0) 43 16 0, ?_, L2, Mse_tr hf (Mse_tr (Mse_43 h _ (by decide)) (Mse_43 _ _ (by decide))), ?_, ?_, ?_, ?_, mw_s _ _ _ _⟩
    · rw [q_Md_settles_93, if_pos (by decide), f_43 hL (by decide), Option.bind_some, f_43 L1 (by decide), Option.bind_some]
    · unfold StI
      rw [mw_o _ _ _ (by decide), mw_o _ _ _ (by decide), mw_o _ _ _ (by decide), mw_o _ _ _ (by decide), mw_o _ _ _ (by decide), mw_o _ _ _ (by decide), mw_o _ _ _ (by decide), mw_o _ _ _ (by decide), mw_o _ _ _ (by decide), mw_o _ _ _ (by decide)]
      exact hs
    · rw [mw_d _ _ (by decide), mw_d _ _ (by decide)]
    · rw [mw_d _ _ (by decide), mw_d _ _ (by decide)]
    · rw [mw_d _ _ (by decide), mw_s]
  | m + 1, k, h, e, hL, hf, hs => by
    have L1 : LyM L (mrow h 53 (ru (h.2 53) k (h.2 52 k))) := LyM_row hL (fun j => rfl)
    have fr : Mse h (mrow h 53 (ru (h.2 53) k (h.2 52 k))) := by rw [← mw_r]; exact Mse_r h _ _ (by decide)
    obtain ⟨s1, s2, s3⟩ := hs
    have r52 : h.2 52 = h0.2 52 := hf.2.1 52 (by decide) (by decide) (by decide) (by decide) (by decide) (by decide)
    obtain ⟨h', z1, z2, z3, z4, z5, z6, z7⟩ := m_se93 (h0 := h0) m (k + 1) (mrow h 53 (ru (h.2 53) k (h.2 52 k))) (by omega) L1 (Mse_tr hf fr) ⟨by rw [mrow_o _ _ (by decide), mrow_o _ _ (by decide)]; exact s1, by rw [mrow_o _ _ (by decide), mrow_o _ _ (by decide)]; exact s2, fun j hj => by
      rw [mrow_s]
      by_cases q : j = k
      · rw [q, ru_s, r52]
      · rw [ru_d _ _ q]; exact s3 j (by omega)⟩
    refine ⟨h', ?_, z2, z3, z4, ?_, ?_, z7⟩
    · rw [q_Md_settles_93, if_neg (by omega), p_43_14 hL, Option.bind_some, p_43_12 hL, Option.bind_some, ld52 hL (by omega), Option.bind_some, st53 hL (by omega), Option.bind_some, w32_nn k (by omega), z1]
    · rw [z5, mrow_o _ _ (by decide)]
    · rw [z6, mrow_o _ _ (by decide)]
theorem m_se55 {h0 : mH} : ∀ (m k : Nat) (h : mH), k + m = 12 → LyM L h → Mse h0 h → StI h0 h 4 k 0 → ∃ h', B_Md_settles_55 43 (k : Int) h = some h' ∧ LyM L h' ∧ Mse h0 h' ∧ StI h0 h' 4 12 120 ∧ h'.2 43 0 = h.2 43 0 ∧ h'.2 43 3 = h.2 43 3 ∧ h'.2 43 15 = 0 ∧ h'.2 43 16 = 0
  | 0, k, h, e, hL, hf, hs => by
    have : k = 12 := by omega
    subst this
    obtain ⟨h', z⟩ := m_se93 (h0 := h0) 120 0 h (by decide) hL hf hs
    refine ⟨h', ?_, z.2⟩
    rw [q_Md_settles_55, if_pos (by decide)]
    exact z.1
  | m + 1, k, h, e, hL, hf, hs => by
    have L1 : LyM L (mw h 45 k (h.2 49 k)) := LyM_mw hL rfl
    have L2 : LyM L (mw (mw h 45 k (h.2 49 k)) 47 k (h.2 51 k)) := LyM_mw L1 rfl
    have fr : Mse h (mw (mw h 45 k (h.2 49 k)) 47 k (h.2 51 k)) := Mse_tr (Mse_r h _ _ (by decide)) (Mse_r _ _ _ (by decide))
    obtain ⟨s1, s2, s3⟩ := hs
    have r49 : h.2 49 = h0.2 49 := hf.2.1 49 (by decide) (by decide) (by decide) (by decide) (by decide) (by decide)
    have r51 : h.2 51 = h0.2 51 := hf.2.1 51 (by decide) (by decide) (by decide) (by decide) (by decide) (by decide)
    obtain ⟨h', z1, z2, z3, z4, z5, z6, z7⟩ := m_se55 (h0 := h0) m (k + 1) (mw (mw h 45 k (h.2 49 k)) 47 k (h.2 51 k)) (by omega) L2 (Mse_tr hf fr) ⟨by rw [mw_o _ _ _ (by decide), mw_o _ _ _ (by decide), mw_o _ _ _ (by decide), mw_o _ _ _ (by decide)]; exact s1, fun j hj => by
      by_cases q : j = k
      · rw [q]
        exact ⟨by rw [mw_o _ _ _ (by decide), mw_s, r49], by rw [mw_s, r51]⟩
      · obtain ⟨c1, c2⟩ := s2 j (by omega)
        exact ⟨by rw [mw_o _ _ _ (by decide), mw_d _ _ q]; exact c1, by rw [mw_d _ _ q, mw_o _ _ _ (by decide)]; exact c2⟩, fun j hj => by omega⟩
    have e51 : (mw h 45 k (h.2 49 k)).2 51 k = h.2 51 k := by rw [mw_o _ _ _ (by decide)]
    refine ⟨h', ?_, z2, z3, z4, ?_, ?_, z7⟩
    · rw [q_Md_settles_55, if_neg (by omega), p_43_2 hL, Option.bind_some, p_43_8 hL, Option.bind_some, ld49 hL (by omega), Option.bind_some, st45 hL (by omega), Option.bind_some, p_43_5 L1, Option.bind_some, p_43_11 L1, Option.bind_some, ld51 L1 (by omega), Option.bind_some, e51, st47 L1 (by omega), Option.bind_some, w32_nn k (by omega), z1]
    · rw [z5, mw_o _ _ _ (by decide), mw_o _ _ _ (by decide)]
    · rw [z6, mw_o _ _ _ (by decide), mw_o _ _ _ (by decide)]
theorem m_se18 {h0 : mH} : ∀ (m k : Nat) (h : mH), k + m = 4 → LyM L h → Mse h0 h → StI h0 h k 0 0 → ∃ h', B_Md_settles_18 43 (k : Int) h = some h' ∧ LyM L h' ∧ Mse h0 h' ∧ StI h0 h' 4 12 120 ∧ h'.2 43 0 = h.2 43 0 ∧ h'.2 43 3 = h.2 43 3 ∧ h'.2 43 15 = 0 ∧ h'.2 43 16 = 0
  | 0, k, h, e, hL, hf, hs => by
    have : k = 4 := by omega
    subst this
    obtain ⟨h', z⟩ := m_se55 (h0 := h0) 12 0 h (by decide) hL hf hs
    refine ⟨h', ?_, z.2⟩
    rw [q_Md_settles_18, if_pos (by decide)]
    exact z.1
  | m + 1, k, h, e, hL, hf, hs => by
    have L1 : LyM L (mw h 44 k (h.2 48 k)) := LyM_mw hL rfl
    have L2 : LyM L (mw (mw h 44 k (h.2 48 k)) 46 k (h.2 50 k)) := LyM_mw L1 rfl
    have fr : Mse h (mw (mw h 44 k (h.2 48 k)) 46 k (h.2 50 k)) := Mse_tr (Mse_r h _ _ (by decide)) (Mse_r _ _ _ (by decide))
    obtain ⟨s1, s2, s3⟩ := hs
    have r48 : h.2 48 = h0.2 48 := hf.2.1 48 (by decide) (by decide) (by decide) (by decide) (by decide) (by decide)
    have r50 : h.2 50 = h0.2 50 := hf.2.1 50 (by decide) (by decide) (by decide) (by decide) (by decide) (by decide)
    obtain ⟨h', z1, z2, z3, z4, z5, z6, z7⟩ := m_se18 (h0 := h0) m (k + 1) (mw (mw h 44 k (h.2 48 k)) 46 k (h.2 50 k)) (by omega) L2 (Mse_tr hf fr) ⟨fun j hj => by
      by_cases q : j = k
      · rw [q]
        exact ⟨by rw [mw_o _ _ _ (by decide), mw_s, r48], by rw [mw_s, r50]⟩
      · obtain ⟨c1, c2⟩ := s1 j (by omega)
        exact ⟨by rw [mw_o _ _ _ (by decide), mw_d _ _ q]; exact c1, by rw [mw_d _ _ q, mw_o _ _ _ (by decide)]; exact c2⟩, fun j hj => by omega, fun j hj => by omega⟩
    have e50 : (mw h 44 k (h.2 48 k)).2 50 k = h.2 50 k := by rw [mw_o _ _ _ (by decide)]
    refine ⟨h', ?_, z2, z3, z4, ?_, ?_, z7⟩
    · rw [q_Md_settles_18, if_neg (by omega), p_43_1 hL, Option.bind_some, p_43_7 hL, Option.bind_some, ld48 hL (by omega), Option.bind_some, st44 hL (by omega), Option.bind_some, p_43_4 L1, Option.bind_some, p_43_10 L1, Option.bind_some, ld50 L1 (by omega), Option.bind_some, e50, st46 L1 (by omega), Option.bind_some, w32_nn k (by omega), z1]
    · rw [z5, mw_o _ _ _ (by decide), mw_o _ _ _ (by decide)]
    · rw [z6, mw_o _ _ _ (by decide), mw_o _ _ _ (by decide)]
/-- what is told becomes the program -/
theorem m_settles (hx : Mx L n T h) (ht : ∀ i, i < n → 32 ≤ T i ∧ T i ≤ 126) (hm : MTo Q h) (hv : Val Q) : ∃ h', F_Md_settles 43 h = some h' ∧ MI L n T Q [] [] h' ∧ MFm h h' := by
  have hL := hx.1
  obtain ⟨m1, m2, m3, m4, m5⟩ := hm
  have v1 := hv.1
  have v2 := hv.2.1
  have L1 : LyM L (mw h 43 0 (pS Q)) := LyM_mw hL rfl
  have L2 : LyM L (mw (mw h 43 0 (pS Q)) 43 3 (pL Q)) := LyM_mw L1 rfl
  have fr : Mse h (mw (mw h 43 0 (pS Q)) 43 3 (pL Q)) := Mse_tr (Mse_43 h _ (by decide)) (Mse_43 _ _ (by decide))
  obtain ⟨h', z1, z2, z3, ⟨z4, z5, z6⟩, z7, z8, z9, z10⟩ := m_se18 (h0 := h) 4 0 (mw (mw h 43 0 (pS Q)) 43 3 (pL Q)) (by decide) L2 fr ⟨fun j hj => by omega, fun j hj => by omega, fun j hj => by omega⟩
  rw [show ((0 : Nat) : Int) = 0 from rfl] at z1
  obtain ⟨f1, f2, f3⟩ := z3
  refine ⟨h', ?_, ⟨z2, ⟨?_, hx.2.2.1, ?_, ht⟩, ⟨?_, ?_, fun t ht' => ?_, fun l hl => ?_⟩, ?_, ⟨by rw [z9]; rfl, by decide, fun i Q hi => by simp at hi⟩, by rw [z10]; rfl, by decide, fun i Q hi => by simp at hi⟩, f1, fun a ha => f2 a (by omega) (by omega) (by omega) (by omega) (by omega) (by omega)⟩
  · have g9 : gfd 6 9 (mw h 43 0 (pS Q)) 43 = some (pL Q) := by rw [g_43 L1 (by decide), mw_d _ _ (by decide), m2]
    rw [q_Md_settles _ _ (o_43 hL), g_43 hL (by decide), Option.bind_some, m1, f_43 hL (by decide), Option.bind_some, g9, Option.bind_some, f_43 L1 (by decide), Option.bind_some, z1]
  · rw [f3 17 (by decide) (by decide) (by decide) (by decide)]; exact hx.2.1
  · rw [f2 54 (by decide) (by decide) (by decide) (by decide) (by decide) (by decide)]; exact hx.2.2.2
  · rw [z7, mw_d _ _ (by decide), mw_s]
  · rw [z8, mw_s]
  · obtain ⟨a1, a2⟩ := m3 t ht'
    have := (hv.2.2.2.1 t ht').1
    exact ⟨by rw [(z4 t (by omega)).1]; exact a1, fun f hf => by rw [(z5 _ (by omega)).1]; exact a2 f hf⟩
  · obtain ⟨a1, a2⟩ := m4 l hl
    have := hv.2.2.1 l (by omega)
    exact ⟨by rw [(z4 l (by omega)).2]; exact a1, fun f hf => by rw [(z5 _ (by omega)).2]; exact a2 f hf⟩
  · exact Sl_eq (fun j h1 h2 => z6 j (by omega)) m5
theorem m_lay (hm : MI L n T P U K h) : ∃ h', F_Md_lay 43 h = some ((layA T n).1, h') ∧ MI L n T (layN P U K (layA T n).2).1 (layN P U K (layA T n).2).2.1 (layN P U K (layA T n).2).2.2 h' ∧ MFm h h' := by
  obtain ⟨h1, a1, a2, a3, a4⟩ := m_reads hm
  obtain ⟨m1, m2⟩ := MI_rd hm a2 a3.1
  have L1 := a3.1
  unfold layA
  rw [q_Md_lay _ _ (o_43 hm.1), a1, Option.bind_some, g_43 L1 (by decide), Option.bind_some]
  rcases a4 with ⟨b1, b2, b3, b4, b5⟩ | ⟨b1, b2, b3⟩
  · have p2 := b5.2.1
    rw [b2, if_neg (by decide), g_43 L1 (by decide), Option.bind_some, b3.2.1]
    by_cases q : pL (rdA T n).2 = 0
    · rw [if_pos q, iteP_f (fun z => by have := z.2.1; omega)]
      exact ⟨h1, rfl, m1, m2⟩
    · obtain ⟨N, hN⟩ := n_of p2.1
      have sr := hb_sr b4.1 (N := N) (by omega)
      have ic : ishr (h1.2 43 13) (N : Int) = 0 ↔ clS (rdA T n).2 := by
        rw [sr]
        unfold clS
        constructor
        · intro z
          refine ⟨by omega, fun l b hl hb hmn => ?_⟩
          have := z b hb ((b4.2 b hb).mpr ⟨l, hl, hmn⟩)
          omega
        · intro z b hb hh
          obtain ⟨l, hl, hmn⟩ := (b4.2 b hb).mp hh
          have := z.2 l b hl hb hmn
          omega
      rw [if_neg q, g_43 L1 (by decide), Option.bind_some, Option.bind_some, hN]
      by_cases w : clS (rdA T n).2
      · have hv := Val_cl b5 w
        obtain ⟨h2, c1, c2, c3⟩ := m_settles a3 hm.2.1.2.2.2 b3 hv
        rw [if_pos (ic.mpr w), iteP_t ⟨b1, w⟩, c1, Option.bind_some, g_43 c2.1 (by decide), Option.bind_some, c2.2.2.1.2.1, hN]
        exact ⟨h2, rfl, c2, MFm_tr m2 c3⟩
      · rw [if_neg (fun z => w (ic.mp z)), iteP_f (fun z => w z.2)]
        exact ⟨h1, rfl, m1, m2⟩
  · rw [b2, if_pos (by decide), iteP_f (fun z => b1 z.1)]
    exact ⟨h1, rfl, m1, m2⟩
end Md
