/-! THE LAW: its loop (by program) -/
section Lp
variable {L n i : Nat} {T P S : Nat → Int} {U K : List (Nat → Int)} {h : mH}
theorem l_write (hg : GI L n T P U K S h) (h7 : i + 7 ≤ L) (h4 : L ≤ 3584) (go : ∀ (n : Nat) (T P : Nat → Int) (U K : List (Nat → Int)) (h : mH), GI L n T P U K S h → ∃ h', B_Lw_law_934 1 6 43 (i : Int) h = some (1, h') ∧ h'.1 = shm L) : ∃ h', ((ald 10 h 1 (w32 ((i : Int) + 1))).bind fun v1 =>
    (F_Tb_write 6 v1 h).bind fun q1 =>
    (ald 10 q1.2 1 (w32 ((i : Int) + 1))).bind fun u1 =>
    (F_Md_write 43 u1 q1.2).bind fun q2 =>
    if q1.1 = q2.1 then
      (B_Lw_law_934 1 6 43 (i : Int) q2.2)
    else
      (some (0, q2.2))) = some (1, h') ∧ h'.1 = shm L := by
  obtain ⟨hC, hM, hG, h1⟩ := hg
  have hL := hC.1
  have e1 : w32 ((i : Int) + 1) = ((i + 1 : Nat) : Int) := ixl (c := 1) (by omega) (by decide)
  have p1 : i + 1 < L := by clear e1; omega
  obtain ⟨g1, a1, a2, a3⟩ := c_write hC (S (i + 1))
  have hM1 := MI_tf hM a3 a2.1
  have s1 : g1.2 1 = S := (a3.2 1 (by decide)).trans h1
  obtain ⟨g2, b1, b2, b3⟩ := m_write hM1 (S (i + 1))
  obtain ⟨h', z, zs⟩ := go (wrN n (S (i + 1))) (wrT n T (S (i + 1))) P U K g2 ⟨CI_mf a2 b3, b2, hG, (b3.2 1 (by decide)).trans s1⟩
  refine ⟨h', ?_, zs⟩
  rw [e1, r_1' hL p1, h1, Option.bind_some, a1, Option.bind_some]
  dsimp only
  rw [r_1' a2.1 p1, s1, Option.bind_some, b1, Option.bind_some]
  dsimp only
  rw [if_pos rfl, z]
theorem l_wipe (hg : GI L n T P U K S h) (h7 : i + 7 ≤ L) (h4 : L ≤ 3584) (go : ∀ (n : Nat) (T P : Nat → Int) (U K : List (Nat → Int)) (h : mH), GI L n T P U K S h → ∃ h', B_Lw_law_934 1 6 43 (i : Int) h = some (1, h') ∧ h'.1 = shm L) : ∃ h', ((F_Tb_wipe 6  h).bind fun q1 =>
    (F_Md_wipe 43  q1.2).bind fun q2 =>
    if q1.1 = q2.1 then
      (B_Lw_law_934 1 6 43 (i : Int) q2.2)
    else
      (some (0, q2.2))) = some (1, h') ∧ h'.1 = shm L := by
  obtain ⟨hC, hM, hG, h1⟩ := hg
  have hL := hC.1
  obtain ⟨g1, a1, a2, a3⟩ := c_wipe hC 
  have hM1 := MI_tf hM a3 a2.1
  have s1 : g1.2 1 = S := (a3.2 1 (by decide)).trans h1
  obtain ⟨g2, b1, b2, b3⟩ := m_wipe hM1 
  obtain ⟨h', z, zs⟩ := go 0 T P U K g2 ⟨CI_mf a2 b3, b2, hG, (b3.2 1 (by decide)).trans s1⟩
  refine ⟨h', ?_, zs⟩
  rw [a1, Option.bind_some]
  dsimp only
  rw [b1, Option.bind_some]
  dsimp only
  rw [if_pos rfl, z]
theorem l_fault (hg : GI L n T P U K S h) (h7 : i + 7 ≤ L) (h4 : L ≤ 3584) (go : ∀ (n : Nat) (T P : Nat → Int) (U K : List (Nat → Int)) (h : mH), GI L n T P U K S h → ∃ h', B_Lw_law_934 1 6 43 (i : Int) h = some (1, h') ∧ h'.1 = shm L) : ∃ h', ((F_Tb_fault 6  h).bind fun q1 =>
    (F_Md_fault 43  q1.2).bind fun q2 =>
    if q1.1 = q2.1 then
      (B_Lw_law_934 1 6 43 (i : Int) q2.2)
    else
      (some (0, q2.2))) = some (1, h') ∧ h'.1 = shm L := by
  obtain ⟨hC, hM, hG, h1⟩ := hg
  have hL := hC.1
  obtain ⟨g1, a1, a2, a3⟩ := c_fault hC 
  have hM1 := MI_tf hM a3 a2.1
  have s1 : g1.2 1 = S := (a3.2 1 (by decide)).trans h1
  obtain ⟨g2, b1, b2, b3⟩ := m_fault hM1 
  obtain ⟨h', z, zs⟩ := go n T P U K g2 ⟨CI_mf a2 b3, b2, hG, (b3.2 1 (by decide)).trans s1⟩
  refine ⟨h', ?_, zs⟩
  rw [a1, Option.bind_some]
  dsimp only
  rw [b1, Option.bind_some]
  dsimp only
  rw [if_pos rfl, z]
theorem l_lay (hg : GI L n T P U K S h) (h7 : i + 7 ≤ L) (h4 : L ≤ 3584) (go : ∀ (n : Nat) (T P : Nat → Int) (U K : List (Nat → Int)) (h : mH), GI L n T P U K S h → ∃ h', B_Lw_law_934 1 6 43 (i : Int) h = some (1, h') ∧ h'.1 = shm L) : ∃ h', ((F_Tb_lay 6  h).bind fun q1 =>
    (F_Md_lay 43  q1.2).bind fun q2 =>
    if q1.1 = q2.1 then
      (B_Lw_law_934 1 6 43 (i : Int) q2.2)
    else
      (some (0, q2.2))) = some (1, h') ∧ h'.1 = shm L := by
  obtain ⟨hC, hM, hG, h1⟩ := hg
  have hL := hC.1
  obtain ⟨g1, a1, a2, a3, a4⟩ := c_lay hC 
  have hM1 := MI_tf hM a3 a2.1
  have s1 : g1.2 1 = S := (a3.2 1 (by decide)).trans h1
  obtain ⟨g2, b1, b2, b3⟩ := m_lay hM1 
  obtain ⟨h', z, zs⟩ := go n T (layN P U K (layA T n).2).1 (layN P U K (layA T n).2).2.1 (layN P U K (layA T n).2).2.2 g2 ⟨CI_mf a2 b3, b2, GK_lay hG a4, (b3.2 1 (by decide)).trans s1⟩
  refine ⟨h', ?_, zs⟩
  rw [a1, Option.bind_some]
  dsimp only
  rw [b1, Option.bind_some]
  dsimp only
  rw [if_pos rfl, z]
theorem l_sort (hg : GI L n T P U K S h) (h7 : i + 7 ≤ L) (h4 : L ≤ 3584) (go : ∀ (n : Nat) (T P : Nat → Int) (U K : List (Nat → Int)) (h : mH), GI L n T P U K S h → ∃ h', B_Lw_law_934 1 6 43 (i : Int) h = some (1, h') ∧ h'.1 = shm L) : ∃ h', ((ald 10 h 1 (w32 ((i : Int) + 1))).bind fun v1 =>
    (ald 10 h 1 (w32 ((i : Int) + 2))).bind fun v2 =>
    (F_Tb_sort 6 v1 v2 h).bind fun q1 =>
    (ald 10 q1.2 1 (w32 ((i : Int) + 1))).bind fun u1 =>
    (ald 10 q1.2 1 (w32 ((i : Int) + 2))).bind fun u2 =>
    (F_Md_sort 43 u1 u2 q1.2).bind fun q2 =>
    if q1.1 = q2.1 then
      (B_Lw_law_934 1 6 43 (i : Int) q2.2)
    else
      (some (0, q2.2))) = some (1, h') ∧ h'.1 = shm L := by
  obtain ⟨hC, hM, hG, h1⟩ := hg
  have hL := hC.1
  have e1 : w32 ((i : Int) + 1) = ((i + 1 : Nat) : Int) := ixl (c := 1) (by omega) (by decide)
  have e2 : w32 ((i : Int) + 2) = ((i + 2 : Nat) : Int) := ixl (c := 2) (by clear e1; omega) (by decide)
  have p1 : i + 1 < L := by clear e1 e2; omega
  have p2 : i + 2 < L := by clear e1 e2; omega
  have a1 := c_sort hC hG.1 (S (i + 1)) (S (i + 2))
  have b1 := m_sort hM hG.1 (S (i + 1)) (S (i + 2))
  obtain ⟨h', z, zs⟩ := go n T P U K h ⟨hC, hM, hG, h1⟩
  refine ⟨h', ?_, zs⟩
  rw [e1, r_1' hL p1, h1, Option.bind_some, e2, r_1' hL p2, h1, Option.bind_some, a1, Option.bind_some]
  dsimp only
  rw [r_1' hL p1, h1, Option.bind_some, r_1' hL p2, h1, Option.bind_some, b1, Option.bind_some]
  dsimp only
  rw [if_pos rfl, z]
theorem l_label (hg : GI L n T P U K S h) (h7 : i + 7 ≤ L) (h4 : L ≤ 3584) (go : ∀ (n : Nat) (T P : Nat → Int) (U K : List (Nat → Int)) (h : mH), GI L n T P U K S h → ∃ h', B_Lw_law_934 1 6 43 (i : Int) h = some (1, h') ∧ h'.1 = shm L) : ∃ h', ((ald 10 h 1 (w32 ((i : Int) + 1))).bind fun v1 =>
    (ald 10 h 1 (w32 ((i : Int) + 2))).bind fun v2 =>
    (F_Tb_label 6 v1 v2 h).bind fun q1 =>
    (ald 10 q1.2 1 (w32 ((i : Int) + 1))).bind fun u1 =>
    (ald 10 q1.2 1 (w32 ((i : Int) + 2))).bind fun u2 =>
    (F_Md_label 43 u1 u2 q1.2).bind fun q2 =>
    if q1.1 = q2.1 then
      (B_Lw_law_934 1 6 43 (i : Int) q2.2)
    else
      (some (0, q2.2))) = some (1, h') ∧ h'.1 = shm L := by
  obtain ⟨hC, hM, hG, h1⟩ := hg
  have hL := hC.1
  have e1 : w32 ((i : Int) + 1) = ((i + 1 : Nat) : Int) := ixl (c := 1) (by omega) (by decide)
  have e2 : w32 ((i : Int) + 2) = ((i + 2 : Nat) : Int) := ixl (c := 2) (by clear e1; omega) (by decide)
  have p1 : i + 1 < L := by clear e1 e2; omega
  have p2 : i + 2 < L := by clear e1 e2; omega
  have a1 := c_label hC hG.1 (S (i + 1)) (S (i + 2))
  have b1 := m_label hM hG.1 (S (i + 1)) (S (i + 2))
  obtain ⟨h', z, zs⟩ := go n T P U K h ⟨hC, hM, hG, h1⟩
  refine ⟨h', ?_, zs⟩
  rw [e1, r_1' hL p1, h1, Option.bind_some, e2, r_1' hL p2, h1, Option.bind_some, a1, Option.bind_some]
  dsimp only
  rw [r_1' hL p1, h1, Option.bind_some, r_1' hL p2, h1, Option.bind_some, b1, Option.bind_some]
  dsimp only
  rw [if_pos rfl, z]
theorem l_code (hg : GI L n T P U K S h) (h7 : i + 7 ≤ L) (h4 : L ≤ 3584) (go : ∀ (n : Nat) (T P : Nat → Int) (U K : List (Nat → Int)) (h : mH), GI L n T P U K S h → ∃ h', B_Lw_law_934 1 6 43 (i : Int) h = some (1, h') ∧ h'.1 = shm L) : ∃ h', ((ald 10 h 1 (w32 ((i : Int) + 1))).bind fun v1 =>
    (ald 10 h 1 (w32 ((i : Int) + 2))).bind fun v2 =>
    (ald 10 h 1 (w32 ((i : Int) + 3))).bind fun v3 =>
    (F_Tb_code 6 v1 v2 v3 h).bind fun q1 =>
    (ald 10 q1.2 1 (w32 ((i : Int) + 1))).bind fun u1 =>
    (ald 10 q1.2 1 (w32 ((i : Int) + 2))).bind fun u2 =>
    (ald 10 q1.2 1 (w32 ((i : Int) + 3))).bind fun u3 =>
    (F_Md_code 43 u1 u2 u3 q1.2).bind fun q2 =>
    if q1.1 = q2.1 then
      (B_Lw_law_934 1 6 43 (i : Int) q2.2)
    else
      (some (0, q2.2))) = some (1, h') ∧ h'.1 = shm L := by
  obtain ⟨hC, hM, hG, h1⟩ := hg
  have hL := hC.1
  have e1 : w32 ((i : Int) + 1) = ((i + 1 : Nat) : Int) := ixl (c := 1) (by omega) (by decide)
  have e2 : w32 ((i : Int) + 2) = ((i + 2 : Nat) : Int) := ixl (c := 2) (by clear e1; omega) (by decide)
  have e3 : w32 ((i : Int) + 3) = ((i + 3 : Nat) : Int) := ixl (c := 3) (by clear e1 e2; omega) (by decide)
  have p1 : i + 1 < L := by clear e1 e2 e3; omega
  have p2 : i + 2 < L := by clear e1 e2 e3; omega
  have p3 : i + 3 < L := by clear e1 e2 e3; omega
  have a1 := c_code hC hG.1 (S (i + 1)) (S (i + 2)) (S (i + 3))
  have b1 := m_code hM hG.1 (S (i + 1)) (S (i + 2)) (S (i + 3))
  obtain ⟨h', z, zs⟩ := go n T P U K h ⟨hC, hM, hG, h1⟩
  refine ⟨h', ?_, zs⟩
  rw [e1, r_1' hL p1, h1, Option.bind_some, e2, r_1' hL p2, h1, Option.bind_some, e3, r_1' hL p3, h1, Option.bind_some, a1, Option.bind_some]
  dsimp only
  rw [r_1' hL p1, h1, Option.bind_some, r_1' hL p2, h1, Option.bind_some, r_1' hL p3, h1, Option.bind_some, b1, Option.bind_some]
  dsimp only
  rw [if_pos rfl, z]
theorem l_put (hg : GI L n T P U K S h) (h7 : i + 7 ≤ L) (h4 : L ≤ 3584) (go : ∀ (n : Nat) (T P : Nat → Int) (U K : List (Nat → Int)) (h : mH), GI L n T P U K S h → ∃ h', B_Lw_law_934 1 6 43 (i : Int) h = some (1, h') ∧ h'.1 = shm L) : ∃ h', ((ald 10 h 1 (w32 ((i : Int) + 1))).bind fun v1 =>
    (ald 10 h 1 (w32 ((i : Int) + 2))).bind fun v2 =>
    (ald 10 h 1 (w32 ((i : Int) + 3))).bind fun v3 =>
    (ald 10 h 1 (w32 ((i : Int) + 4))).bind fun v4 =>
    (ald 10 h 1 (w32 ((i : Int) + 5))).bind fun v5 =>
    (ald 10 h 1 (w32 ((i : Int) + 6))).bind fun v6 =>
    (F_Tb_put 6 v1 v2 v3 v4 v5 v6 h).bind fun q1 =>
    (ald 10 q1.2 1 (w32 ((i : Int) + 1))).bind fun u1 =>
    (ald 10 q1.2 1 (w32 ((i : Int) + 2))).bind fun u2 =>
    (ald 10 q1.2 1 (w32 ((i : Int) + 3))).bind fun u3 =>
    (ald 10 q1.2 1 (w32 ((i : Int) + 4))).bind fun u4 =>
    (ald 10 q1.2 1 (w32 ((i : Int) + 5))).bind fun u5 =>
    (ald 10 q1.2 1 (w32 ((i : Int) + 6))).bind fun u6 =>
    (F_Md_put 43 u1 u2 u3 u4 u5 u6 q1.2).bind fun q2 =>
    if q1.1 = q2.1 then
      (B_Lw_law_934 1 6 43 (i : Int) q2.2)
    else
      (some (0, q2.2))) = some (1, h') ∧ h'.1 = shm L := by
  obtain ⟨hC, hM, hG, h1⟩ := hg
  have hL := hC.1
  have e1 : w32 ((i : Int) + 1) = ((i + 1 : Nat) : Int) := ixl (c := 1) (by omega) (by decide)
  have e2 : w32 ((i : Int) + 2) = ((i + 2 : Nat) : Int) := ixl (c := 2) (by clear e1; omega) (by decide)
  have e3 : w32 ((i : Int) + 3) = ((i + 3 : Nat) : Int) := ixl (c := 3) (by clear e1 e2; omega) (by decide)
  have e4 : w32 ((i : Int) + 4) = ((i + 4 : Nat) : Int) := ixl (c := 4) (by clear e1 e2 e3; omega) (by decide)
  have e5 : w32 ((i : Int) + 5) = ((i + 5 : Nat) : Int) := ixl (c := 5) (by clear e1 e2 e3 e4; omega) (by decide)
  have e6 : w32 ((i : Int) + 6) = ((i + 6 : Nat) : Int) := ixl (c := 6) (by clear e1 e2 e3 e4 e5; omega) (by decide)
  have p1 : i + 1 < L := by clear e1 e2 e3 e4 e5 e6; omega
  have p2 : i + 2 < L := by clear e1 e2 e3 e4 e5 e6; omega
  have p3 : i + 3 < L := by clear e1 e2 e3 e4 e5 e6; omega
  have p4 : i + 4 < L := by clear e1 e2 e3 e4 e5 e6; omega
  have p5 : i + 5 < L := by clear e1 e2 e3 e4 e5 e6; omega
  have p6 : i + 6 < L := by clear e1 e2 e3 e4 e5 e6; omega
  obtain ⟨g1, a1, a2, a3⟩ := c_put hC hG.1 (S (i + 1)) (S (i + 2)) (S (i + 3)) (S (i + 4)) (S (i + 5)) (S (i + 6))
  have hM1 := MI_tf hM a3 a2.1
  have s1 : g1.2 1 = S := (a3.2 1 (by decide)).trans h1
  obtain ⟨g2, b1, b2, b3⟩ := m_put hM1 hG.1 (S (i + 1)) (S (i + 2)) (S (i + 3)) (S (i + 4)) (S (i + 5)) (S (i + 6))
  obtain ⟨h', z, zs⟩ := go n T (actN P U (putA P (S (i + 1)) (S (i + 2)) (S (i + 3)) (S (i + 4)) (S (i + 5)) (S (i + 6))).2).1 (actN P U (putA P (S (i + 1)) (S (i + 2)) (S (i + 3)) (S (i + 4)) (S (i + 5)) (S (i + 6))).2).2 K g2 ⟨CI_mf a2 b3, b2, GK_act hG (ok_put hG.1 (S (i + 1)) (S (i + 2)) (S (i + 3)) (S (i + 4)) (S (i + 5)) (S (i + 6))), (b3.2 1 (by decide)).trans s1⟩
  refine ⟨h', ?_, zs⟩
  rw [e1, r_1' hL p1, h1, Option.bind_some, e2, r_1' hL p2, h1, Option.bind_some, e3, r_1' hL p3, h1, Option.bind_some, e4, r_1' hL p4, h1, Option.bind_some, e5, r_1' hL p5, h1, Option.bind_some, e6, r_1' hL p6, h1, Option.bind_some, a1, Option.bind_some]
  dsimp only
  rw [r_1' a2.1 p1, s1, Option.bind_some, r_1' a2.1 p2, s1, Option.bind_some, r_1' a2.1 p3, s1, Option.bind_some, r_1' a2.1 p4, s1, Option.bind_some, r_1' a2.1 p5, s1, Option.bind_some, r_1' a2.1 p6, s1, Option.bind_some, b1, Option.bind_some]
  dsimp only
  rw [if_pos rfl, z]
theorem l_add (hg : GI L n T P U K S h) (h7 : i + 7 ≤ L) (h4 : L ≤ 3584) (go : ∀ (n : Nat) (T P : Nat → Int) (U K : List (Nat → Int)) (h : mH), GI L n T P U K S h → ∃ h', B_Lw_law_934 1 6 43 (i : Int) h = some (1, h') ∧ h'.1 = shm L) : ∃ h', ((ald 10 h 1 (w32 ((i : Int) + 1))).bind fun v1 =>
    (ald 10 h 1 (w32 ((i : Int) + 2))).bind fun v2 =>
    (ald 10 h 1 (w32 ((i : Int) + 3))).bind fun v3 =>
    (ald 10 h 1 (w32 ((i : Int) + 4))).bind fun v4 =>
    (ald 10 h 1 (w32 ((i : Int) + 5))).bind fun v5 =>
    (ald 10 h 1 (w32 ((i : Int) + 6))).bind fun v6 =>
    (F_Tb_add 6 v1 v2 v3 v4 v5 v6 h).bind fun q1 =>
    (ald 10 q1.2 1 (w32 ((i : Int) + 1))).bind fun u1 =>
    (ald 10 q1.2 1 (w32 ((i : Int) + 2))).bind fun u2 =>
    (ald 10 q1.2 1 (w32 ((i : Int) + 3))).bind fun u3 =>
    (ald 10 q1.2 1 (w32 ((i : Int) + 4))).bind fun u4 =>
    (ald 10 q1.2 1 (w32 ((i : Int) + 5))).bind fun u5 =>
    (ald 10 q1.2 1 (w32 ((i : Int) + 6))).bind fun u6 =>
    (F_Md_add 43 u1 u2 u3 u4 u5 u6 q1.2).bind fun q2 =>
    if q1.1 = q2.1 then
      (B_Lw_law_934 1 6 43 (i : Int) q2.2)
    else
      (some (0, q2.2))) = some (1, h') ∧ h'.1 = shm L := by
  obtain ⟨hC, hM, hG, h1⟩ := hg
  have hL := hC.1
  have e1 : w32 ((i : Int) + 1) = ((i + 1 : Nat) : Int) := ixl (c := 1) (by omega) (by decide)
  have e2 : w32 ((i : Int) + 2) = ((i + 2 : Nat) : Int) := ixl (c := 2) (by clear e1; omega) (by decide)
  have e3 : w32 ((i : Int) + 3) = ((i + 3 : Nat) : Int) := ixl (c := 3) (by clear e1 e2; omega) (by decide)
  have e4 : w32 ((i : Int) + 4) = ((i + 4 : Nat) : Int) := ixl (c := 4) (by clear e1 e2 e3; omega) (by decide)
  have e5 : w32 ((i : Int) + 5) = ((i + 5 : Nat) : Int) := ixl (c := 5) (by clear e1 e2 e3 e4; omega) (by decide)
  have e6 : w32 ((i : Int) + 6) = ((i + 6 : Nat) : Int) := ixl (c := 6) (by clear e1 e2 e3 e4 e5; omega) (by decide)
  have p1 : i + 1 < L := by clear e1 e2 e3 e4 e5 e6; omega
  have p2 : i + 2 < L := by clear e1 e2 e3 e4 e5 e6; omega
  have p3 : i + 3 < L := by clear e1 e2 e3 e4 e5 e6; omega
  have p4 : i + 4 < L := by clear e1 e2 e3 e4 e5 e6; omega
  have p5 : i + 5 < L := by clear e1 e2 e3 e4 e5 e6; omega
  have p6 : i + 6 < L := by clear e1 e2 e3 e4 e5 e6; omega
  obtain ⟨g1, a1, a2, a3⟩ := c_add hC hG.1 (S (i + 1)) (S (i + 2)) (S (i + 3)) (S (i + 4)) (S (i + 5)) (S (i + 6))
  have hM1 := MI_tf hM a3 a2.1
  have s1 : g1.2 1 = S := (a3.2 1 (by decide)).trans h1
  obtain ⟨g2, b1, b2, b3⟩ := m_add hM1 hG.1 (S (i + 1)) (S (i + 2)) (S (i + 3)) (S (i + 4)) (S (i + 5)) (S (i + 6))
  obtain ⟨h', z, zs⟩ := go n T (actN P U (addA P (S (i + 1)) (S (i + 2)) (S (i + 3)) (S (i + 4)) (S (i + 5)) (S (i + 6))).2).1 (actN P U (addA P (S (i + 1)) (S (i + 2)) (S (i + 3)) (S (i + 4)) (S (i + 5)) (S (i + 6))).2).2 K g2 ⟨CI_mf a2 b3, b2, GK_act hG (ok_add hG.1 (S (i + 1)) (S (i + 2)) (S (i + 3)) (S (i + 4)) (S (i + 5)) (S (i + 6))), (b3.2 1 (by decide)).trans s1⟩
  refine ⟨h', ?_, zs⟩
  rw [e1, r_1' hL p1, h1, Option.bind_some, e2, r_1' hL p2, h1, Option.bind_some, e3, r_1' hL p3, h1, Option.bind_some, e4, r_1' hL p4, h1, Option.bind_some, e5, r_1' hL p5, h1, Option.bind_some, e6, r_1' hL p6, h1, Option.bind_some, a1, Option.bind_some]
  dsimp only
  rw [r_1' a2.1 p1, s1, Option.bind_some, r_1' a2.1 p2, s1, Option.bind_some, r_1' a2.1 p3, s1, Option.bind_some, r_1' a2.1 p4, s1, Option.bind_some, r_1' a2.1 p5, s1, Option.bind_some, r_1' a2.1 p6, s1, Option.bind_some, b1, Option.bind_some]
  dsimp only
  rw [if_pos rfl, z]
theorem l_cut (hg : GI L n T P U K S h) (h7 : i + 7 ≤ L) (h4 : L ≤ 3584) (go : ∀ (n : Nat) (T P : Nat → Int) (U K : List (Nat → Int)) (h : mH), GI L n T P U K S h → ∃ h', B_Lw_law_934 1 6 43 (i : Int) h = some (1, h') ∧ h'.1 = shm L) : ∃ h', ((ald 10 h 1 (w32 ((i : Int) + 1))).bind fun v1 =>
    (ald 10 h 1 (w32 ((i : Int) + 2))).bind fun v2 =>
    (F_Tb_cut 6 v1 v2 h).bind fun q1 =>
    (ald 10 q1.2 1 (w32 ((i : Int) + 1))).bind fun u1 =>
    (ald 10 q1.2 1 (w32 ((i : Int) + 2))).bind fun u2 =>
    (F_Md_cut 43 u1 u2 q1.2).bind fun q2 =>
    if q1.1 = q2.1 then
      (B_Lw_law_934 1 6 43 (i : Int) q2.2)
    else
      (some (0, q2.2))) = some (1, h') ∧ h'.1 = shm L := by
  obtain ⟨hC, hM, hG, h1⟩ := hg
  have hL := hC.1
  have e1 : w32 ((i : Int) + 1) = ((i + 1 : Nat) : Int) := ixl (c := 1) (by omega) (by decide)
  have e2 : w32 ((i : Int) + 2) = ((i + 2 : Nat) : Int) := ixl (c := 2) (by clear e1; omega) (by decide)
  have p1 : i + 1 < L := by clear e1 e2; omega
  have p2 : i + 2 < L := by clear e1 e2; omega
  obtain ⟨g1, a1, a2, a3⟩ := c_cut hC hG.1 (S (i + 1)) (S (i + 2))
  have hM1 := MI_tf hM a3 a2.1
  have s1 : g1.2 1 = S := (a3.2 1 (by decide)).trans h1
  obtain ⟨g2, b1, b2, b3⟩ := m_cut hM1 hG.1 (S (i + 1)) (S (i + 2))
  obtain ⟨h', z, zs⟩ := go n T (actN P U (cutA P (S (i + 1)) (S (i + 2))).2).1 (actN P U (cutA P (S (i + 1)) (S (i + 2))).2).2 K g2 ⟨CI_mf a2 b3, b2, GK_act hG (ok_cut hG.1 (S (i + 1)) (S (i + 2))), (b3.2 1 (by decide)).trans s1⟩
  refine ⟨h', ?_, zs⟩
  rw [e1, r_1' hL p1, h1, Option.bind_some, e2, r_1' hL p2, h1, Option.bind_some, a1, Option.bind_some]
  dsimp only
  rw [r_1' a2.1 p1, s1, Option.bind_some, r_1' a2.1 p2, s1, Option.bind_some, b1, Option.bind_some]
  dsimp only
  rw [if_pos rfl, z]
theorem l_want (hg : GI L n T P U K S h) (h7 : i + 7 ≤ L) (h4 : L ≤ 3584) (hS : ∀ j, S j < 2147483648) (go : ∀ (n : Nat) (T P : Nat → Int) (U K : List (Nat → Int)) (h : mH), GI L n T P U K S h → ∃ h', B_Lw_law_934 1 6 43 (i : Int) h = some (1, h') ∧ h'.1 = shm L) : ∃ h', ((ald 10 h 1 (w32 ((i : Int) + 1))).bind fun v1 =>
    (ald 10 h 1 (w32 ((i : Int) + 2))).bind fun v2 =>
    (ald 10 h 1 (w32 ((i : Int) + 3))).bind fun v3 =>
    (F_Tb_want 6 v1 v2 v3 h).bind fun q1 =>
    (ald 10 q1.2 1 (w32 ((i : Int) + 1))).bind fun u1 =>
    (ald 10 q1.2 1 (w32 ((i : Int) + 2))).bind fun u2 =>
    (ald 10 q1.2 1 (w32 ((i : Int) + 3))).bind fun u3 =>
    (F_Md_want 43 u1 u2 u3 q1.2).bind fun q2 =>
    if q1.1 = q2.1 then
      (B_Lw_law_934 1 6 43 (i : Int) q2.2)
    else
      (some (0, q2.2))) = some (1, h') ∧ h'.1 = shm L := by
  obtain ⟨hC, hM, hG, h1⟩ := hg
  have hL := hC.1
  have e1 : w32 ((i : Int) + 1) = ((i + 1 : Nat) : Int) := ixl (c := 1) (by omega) (by decide)
  have e2 : w32 ((i : Int) + 2) = ((i + 2 : Nat) : Int) := ixl (c := 2) (by clear e1; omega) (by decide)
  have e3 : w32 ((i : Int) + 3) = ((i + 3 : Nat) : Int) := ixl (c := 3) (by clear e1 e2; omega) (by decide)
  have p1 : i + 1 < L := by clear e1 e2 e3; omega
  have p2 : i + 2 < L := by clear e1 e2 e3; omega
  have p3 : i + 3 < L := by clear e1 e2 e3; omega
  obtain ⟨g1, a1, a2, a3⟩ := c_want hC hG.1 (S (i + 1)) (S (i + 2)) (S (i + 3)) (hS (i + 3))
  have hM1 := MI_tf hM a3 a2.1
  have s1 : g1.2 1 = S := (a3.2 1 (by decide)).trans h1
  obtain ⟨g2, b1, b2, b3⟩ := m_want hM1 hG.1 (S (i + 1)) (S (i + 2)) (S (i + 3))
  obtain ⟨h', z, zs⟩ := go n T (actN P U (wantA P (S (i + 1)) (S (i + 2)) (S (i + 3))).2).1 (actN P U (wantA P (S (i + 1)) (S (i + 2)) (S (i + 3))).2).2 K g2 ⟨CI_mf a2 b3, b2, GK_act hG (ok_want hG.1 (S (i + 1)) (S (i + 2)) (S (i + 3))), (b3.2 1 (by decide)).trans s1⟩
  refine ⟨h', ?_, zs⟩
  rw [e1, r_1' hL p1, h1, Option.bind_some, e2, r_1' hL p2, h1, Option.bind_some, e3, r_1' hL p3, h1, Option.bind_some, a1, Option.bind_some]
  dsimp only
  rw [r_1' a2.1 p1, s1, Option.bind_some, r_1' a2.1 p2, s1, Option.bind_some, r_1' a2.1 p3, s1, Option.bind_some, b1, Option.bind_some]
  dsimp only
  rw [if_pos rfl, z]
theorem l_below (hg : GI L n T P U K S h) (h7 : i + 7 ≤ L) (h4 : L ≤ 3584) (go : ∀ (n : Nat) (T P : Nat → Int) (U K : List (Nat → Int)) (h : mH), GI L n T P U K S h → ∃ h', B_Lw_law_934 1 6 43 (i : Int) h = some (1, h') ∧ h'.1 = shm L) : ∃ h', ((ald 10 h 1 (w32 ((i : Int) + 1))).bind fun v1 =>
    (ald 10 h 1 (w32 ((i : Int) + 2))).bind fun v2 =>
    (F_Tb_below 6 v1 v2 h).bind fun q1 =>
    (ald 10 q1.2 1 (w32 ((i : Int) + 1))).bind fun u1 =>
    (ald 10 q1.2 1 (w32 ((i : Int) + 2))).bind fun u2 =>
    (F_Md_below 43 u1 u2 q1.2).bind fun q2 =>
    if q1.1 = q2.1 then
      (B_Lw_law_934 1 6 43 (i : Int) q2.2)
    else
      (some (0, q2.2))) = some (1, h') ∧ h'.1 = shm L := by
  obtain ⟨hC, hM, hG, h1⟩ := hg
  have hL := hC.1
  have e1 : w32 ((i : Int) + 1) = ((i + 1 : Nat) : Int) := ixl (c := 1) (by omega) (by decide)
  have e2 : w32 ((i : Int) + 2) = ((i + 2 : Nat) : Int) := ixl (c := 2) (by clear e1; omega) (by decide)
  have p1 : i + 1 < L := by clear e1 e2; omega
  have p2 : i + 2 < L := by clear e1 e2; omega
  obtain ⟨g1, a1, a2, a3⟩ := c_below hC hG.1 (S (i + 1)) (S (i + 2))
  have hM1 := MI_tf hM a3 a2.1
  have s1 : g1.2 1 = S := (a3.2 1 (by decide)).trans h1
  obtain ⟨g2, b1, b2, b3⟩ := m_below hM1 hG.1 (S (i + 1)) (S (i + 2))
  obtain ⟨h', z, zs⟩ := go n T (actN P U (belowA P (S (i + 1)) (S (i + 2))).2).1 (actN P U (belowA P (S (i + 1)) (S (i + 2))).2).2 K g2 ⟨CI_mf a2 b3, b2, GK_act hG (ok_below hG.1 (S (i + 1)) (S (i + 2))), (b3.2 1 (by decide)).trans s1⟩
  refine ⟨h', ?_, zs⟩
  rw [e1, r_1' hL p1, h1, Option.bind_some, e2, r_1' hL p2, h1, Option.bind_some, a1, Option.bind_some]
  dsimp only
  rw [r_1' a2.1 p1, s1, Option.bind_some, r_1' a2.1 p2, s1, Option.bind_some, b1, Option.bind_some]
  dsimp only
  rw [if_pos rfl, z]
theorem l_undo (hg : GI L n T P U K S h) (h7 : i + 7 ≤ L) (h4 : L ≤ 3584) (go : ∀ (n : Nat) (T P : Nat → Int) (U K : List (Nat → Int)) (h : mH), GI L n T P U K S h → ∃ h', B_Lw_law_934 1 6 43 (i : Int) h = some (1, h') ∧ h'.1 = shm L) : ∃ h', ((F_Tb_undo 6  h).bind fun q1 =>
    (F_Md_undo 43  q1.2).bind fun q2 =>
    if q1.1 = q2.1 then
      (B_Lw_law_934 1 6 43 (i : Int) q2.2)
    else
      (some (0, q2.2))) = some (1, h') ∧ h'.1 = shm L := by
  obtain ⟨hC, hM, hG, h1⟩ := hg
  have hL := hC.1
  obtain ⟨g1, a1, a2, a3⟩ := c_undo hC 
  have hM1 := MI_tf hM a3 a2.1
  have s1 : g1.2 1 = S := (a3.2 1 (by decide)).trans h1
  obtain ⟨g2, b1, b2, b3⟩ := m_undo hM1 hG.1 (fun q hq => (hG.2.1 q hq).2) 
  obtain ⟨h', z, zs⟩ := go n T (undoA P U).2.1 (undoA P U).2.2 K g2 ⟨CI_mf a2 b3, b2, GK_undo hG, (b3.2 1 (by decide)).trans s1⟩
  refine ⟨h', ?_, zs⟩
  rw [a1, Option.bind_some]
  dsimp only
  rw [b1, Option.bind_some]
  dsimp only
  rw [if_pos rfl, z]
theorem l_check (hg : GI L n T P U K S h) (h7 : i + 7 ≤ L) (h4 : L ≤ 3584) (go : ∀ (n : Nat) (T P : Nat → Int) (U K : List (Nat → Int)) (h : mH), GI L n T P U K S h → ∃ h', B_Lw_law_934 1 6 43 (i : Int) h = some (1, h') ∧ h'.1 = shm L) : ∃ h', ((ald 10 h 1 (w32 ((i : Int) + 1))).bind fun v1 =>
    (F_Tb_check 6 v1 h).bind fun q1 =>
    (ald 10 q1.2 1 (w32 ((i : Int) + 1))).bind fun u1 =>
    (F_Md_check 43 u1 q1.2).bind fun q2 =>
    if q1.1 = q2.1 then
      (B_Lw_law_934 1 6 43 (i : Int) q2.2)
    else
      (some (0, q2.2))) = some (1, h') ∧ h'.1 = shm L := by
  obtain ⟨hC, hM, hG, h1⟩ := hg
  have hL := hC.1
  have e1 : w32 ((i : Int) + 1) = ((i + 1 : Nat) : Int) := ixl (c := 1) (by omega) (by decide)
  have p1 : i + 1 < L := by clear e1; omega
  obtain ⟨g1, a1, a2, a3⟩ := c_check hC hG.1 (S (i + 1))
  have hM1 := MI_tf hM a3 a2.1
  have s1 : g1.2 1 = S := (a3.2 1 (by decide)).trans h1
  obtain ⟨g2, b1, b2, b3⟩ := m_check hM1 hG.1 (S (i + 1))
  obtain ⟨h', z, zs⟩ := go n T P U K g2 ⟨CI_mf a2 b3, b2, hG, (b3.2 1 (by decide)).trans s1⟩
  refine ⟨h', ?_, zs⟩
  rw [e1, r_1' hL p1, h1, Option.bind_some, a1, Option.bind_some]
  dsimp only
  rw [r_1' a2.1 p1, s1, Option.bind_some, b1, Option.bind_some]
  dsimp only
  rw [if_pos rfl, z]
theorem l_reason (hg : GI L n T P U K S h) (h7 : i + 7 ≤ L) (h4 : L ≤ 3584) (go : ∀ (n : Nat) (T P : Nat → Int) (U K : List (Nat → Int)) (h : mH), GI L n T P U K S h → ∃ h', B_Lw_law_934 1 6 43 (i : Int) h = some (1, h') ∧ h'.1 = shm L) : ∃ h', ((ald 10 h 1 (w32 ((i : Int) + 1))).bind fun v1 =>
    (F_Tb_reason 6 v1 h).bind fun q1 =>
    (ald 10 q1.2 1 (w32 ((i : Int) + 1))).bind fun u1 =>
    (F_Md_reason 43 u1 q1.2).bind fun q2 =>
    if q1.1 = q2.1 then
      (B_Lw_law_934 1 6 43 (i : Int) q2.2)
    else
      (some (0, q2.2))) = some (1, h') ∧ h'.1 = shm L := by
  obtain ⟨hC, hM, hG, h1⟩ := hg
  have hL := hC.1
  have e1 : w32 ((i : Int) + 1) = ((i + 1 : Nat) : Int) := ixl (c := 1) (by omega) (by decide)
  have p1 : i + 1 < L := by clear e1; omega
  obtain ⟨g1, a1, a2, a3⟩ := c_reason hC hG.1 (S (i + 1))
  have hM1 := MI_tf hM a3 a2.1
  have s1 : g1.2 1 = S := (a3.2 1 (by decide)).trans h1
  obtain ⟨g2, b1, b2, b3⟩ := m_reason hM1 hG.1 (S (i + 1))
  obtain ⟨h', z, zs⟩ := go n T P U K g2 ⟨CI_mf a2 b3, b2, hG, (b3.2 1 (by decide)).trans s1⟩
  refine ⟨h', ?_, zs⟩
  rw [e1, r_1' hL p1, h1, Option.bind_some, a1, Option.bind_some]
  dsimp only
  rw [r_1' a2.1 p1, s1, Option.bind_some, b1, Option.bind_some]
  dsimp only
  rw [if_pos rfl, z]
theorem l_ahead (hg : GI L n T P U K S h) (h7 : i + 7 ≤ L) (h4 : L ≤ 3584) (go : ∀ (n : Nat) (T P : Nat → Int) (U K : List (Nat → Int)) (h : mH), GI L n T P U K S h → ∃ h', B_Lw_law_934 1 6 43 (i : Int) h = some (1, h') ∧ h'.1 = shm L) : ∃ h', ((ald 10 h 1 (w32 ((i : Int) + 1))).bind fun v1 =>
    (ald 10 h 1 (w32 ((i : Int) + 2))).bind fun v2 =>
    (ald 10 h 1 (w32 ((i : Int) + 3))).bind fun v3 =>
    (F_Tb_ahead 6 v1 v2 v3 h).bind fun q1 =>
    (ald 10 q1.2 1 (w32 ((i : Int) + 1))).bind fun u1 =>
    (ald 10 q1.2 1 (w32 ((i : Int) + 2))).bind fun u2 =>
    (ald 10 q1.2 1 (w32 ((i : Int) + 3))).bind fun u3 =>
    (F_Md_ahead 43 u1 u2 u3 q1.2).bind fun q2 =>
    if q1.1 = q2.1 then
      (B_Lw_law_934 1 6 43 (i : Int) q2.2)
    else
      (some (0, q2.2))) = some (1, h') ∧ h'.1 = shm L := by
  obtain ⟨hC, hM, hG, h1⟩ := hg
  have hL := hC.1
  have e1 : w32 ((i : Int) + 1) = ((i + 1 : Nat) : Int) := ixl (c := 1) (by omega) (by decide)
  have e2 : w32 ((i : Int) + 2) = ((i + 2 : Nat) : Int) := ixl (c := 2) (by clear e1; omega) (by decide)
  have e3 : w32 ((i : Int) + 3) = ((i + 3 : Nat) : Int) := ixl (c := 3) (by clear e1 e2; omega) (by decide)
  have p1 : i + 1 < L := by clear e1 e2 e3; omega
  have p2 : i + 2 < L := by clear e1 e2 e3; omega
  have p3 : i + 3 < L := by clear e1 e2 e3; omega
  obtain ⟨g1, a1, a2, a3⟩ := c_ahead hC hG.1 (S (i + 1)) (S (i + 2)) (S (i + 3))
  have hM1 := MI_tf hM a3 a2.1
  have s1 : g1.2 1 = S := (a3.2 1 (by decide)).trans h1
  obtain ⟨g2, b1, b2, b3⟩ := m_ahead hM1 hG.1 (S (i + 1)) (S (i + 2)) (S (i + 3))
  obtain ⟨h', z, zs⟩ := go n T P U K g2 ⟨CI_mf a2 b3, b2, hG, (b3.2 1 (by decide)).trans s1⟩
  refine ⟨h', ?_, zs⟩
  rw [e1, r_1' hL p1, h1, Option.bind_some, e2, r_1' hL p2, h1, Option.bind_some, e3, r_1' hL p3, h1, Option.bind_some, a1, Option.bind_some]
  dsimp only
  rw [r_1' a2.1 p1, s1, Option.bind_some, r_1' a2.1 p2, s1, Option.bind_some, r_1' a2.1 p3, s1, Option.bind_some, b1, Option.bind_some]
  dsimp only
  rw [if_pos rfl, z]
theorem l_sure (hg : GI L n T P U K S h) (h7 : i + 7 ≤ L) (h4 : L ≤ 3584) (go : ∀ (n : Nat) (T P : Nat → Int) (U K : List (Nat → Int)) (h : mH), GI L n T P U K S h → ∃ h', B_Lw_law_934 1 6 43 (i : Int) h = some (1, h') ∧ h'.1 = shm L) : ∃ h', ((F_Tb_sure 6  h).bind fun q1 =>
    (F_Md_sure 43  q1.2).bind fun q2 =>
    if q1.1 = q2.1 then
      (B_Lw_law_934 1 6 43 (i : Int) q2.2)
    else
      (some (0, q2.2))) = some (1, h') ∧ h'.1 = shm L := by
  obtain ⟨hC, hM, hG, h1⟩ := hg
  have hL := hC.1
  obtain ⟨g1, a1, a2, a3⟩ := c_sure hC hG.1 
  have hM1 := MI_tf hM a3 a2.1
  have s1 : g1.2 1 = S := (a3.2 1 (by decide)).trans h1
  obtain ⟨g2, b1, b2, b3⟩ := m_sure hM1 hG.1 
  obtain ⟨h', z, zs⟩ := go n T P U K g2 ⟨CI_mf a2 b3, b2, hG, (b3.2 1 (by decide)).trans s1⟩
  refine ⟨h', ?_, zs⟩
  rw [a1, Option.bind_some]
  dsimp only
  rw [b1, Option.bind_some]
  dsimp only
  rw [if_pos rfl, z]
theorem l_joins (hg : GI L n T P U K S h) (h7 : i + 7 ≤ L) (h4 : L ≤ 3584) (go : ∀ (n : Nat) (T P : Nat → Int) (U K : List (Nat → Int)) (h : mH), GI L n T P U K S h → ∃ h', B_Lw_law_934 1 6 43 (i : Int) h = some (1, h') ∧ h'.1 = shm L) : ∃ h', ((ald 10 h 1 (w32 ((i : Int) + 1))).bind fun v1 =>
    (F_Tb_joins 6 v1 h).bind fun q1 =>
    (ald 10 q1.2 1 (w32 ((i : Int) + 1))).bind fun u1 =>
    (F_Md_joins 43 u1 q1.2).bind fun q2 =>
    if q1.1 = q2.1 then
      (B_Lw_law_934 1 6 43 (i : Int) q2.2)
    else
      (some (0, q2.2))) = some (1, h') ∧ h'.1 = shm L := by
  obtain ⟨hC, hM, hG, h1⟩ := hg
  have hL := hC.1
  have e1 : w32 ((i : Int) + 1) = ((i + 1 : Nat) : Int) := ixl (c := 1) (by omega) (by decide)
  have p1 : i + 1 < L := by clear e1; omega
  obtain ⟨g1, a1, a2, a3⟩ := c_joins hC hG.1 (S (i + 1))
  have hM1 := MI_tf hM a3 a2.1
  have s1 : g1.2 1 = S := (a3.2 1 (by decide)).trans h1
  obtain ⟨g2, b1, b2, b3⟩ := m_joins hM1 hG.1 (S (i + 1))
  obtain ⟨h', z, zs⟩ := go n T P U K g2 ⟨CI_mf a2 b3, b2, hG, (b3.2 1 (by decide)).trans s1⟩
  refine ⟨h', ?_, zs⟩
  rw [e1, r_1' hL p1, h1, Option.bind_some, a1, Option.bind_some]
  dsimp only
  rw [r_1' a2.1 p1, s1, Option.bind_some, b1, Option.bind_some]
  dsimp only
  rw [if_pos rfl, z]
theorem l_might (hg : GI L n T P U K S h) (h7 : i + 7 ≤ L) (h4 : L ≤ 3584) (go : ∀ (n : Nat) (T P : Nat → Int) (U K : List (Nat → Int)) (h : mH), GI L n T P U K S h → ∃ h', B_Lw_law_934 1 6 43 (i : Int) h = some (1, h') ∧ h'.1 = shm L) : ∃ h', ((ald 10 h 1 (w32 ((i : Int) + 1))).bind fun v1 =>
    (ald 10 h 1 (w32 ((i : Int) + 2))).bind fun v2 =>
    (F_Tb_might 6 v1 v2 h).bind fun q1 =>
    (ald 10 q1.2 1 (w32 ((i : Int) + 1))).bind fun u1 =>
    (ald 10 q1.2 1 (w32 ((i : Int) + 2))).bind fun u2 =>
    (F_Md_might 43 u1 u2 q1.2).bind fun q2 =>
    if q1.1 = q2.1 then
      (B_Lw_law_934 1 6 43 (i : Int) q2.2)
    else
      (some (0, q2.2))) = some (1, h') ∧ h'.1 = shm L := by
  obtain ⟨hC, hM, hG, h1⟩ := hg
  have hL := hC.1
  have e1 : w32 ((i : Int) + 1) = ((i + 1 : Nat) : Int) := ixl (c := 1) (by omega) (by decide)
  have e2 : w32 ((i : Int) + 2) = ((i + 2 : Nat) : Int) := ixl (c := 2) (by clear e1; omega) (by decide)
  have p1 : i + 1 < L := by clear e1 e2; omega
  have p2 : i + 2 < L := by clear e1 e2; omega
  obtain ⟨g1, a1, a2, a3⟩ := c_might hC hG.1 (S (i + 1)) (S (i + 2))
  have hM1 := MI_tf hM a3 a2.1
  have s1 : g1.2 1 = S := (a3.2 1 (by decide)).trans h1
  obtain ⟨g2, b1, b2, b3⟩ := m_might hM1 hG.1 (S (i + 1)) (S (i + 2))
  obtain ⟨h', z, zs⟩ := go n T P U K g2 ⟨CI_mf a2 b3, b2, hG, (b3.2 1 (by decide)).trans s1⟩
  refine ⟨h', ?_, zs⟩
  rw [e1, r_1' hL p1, h1, Option.bind_some, e2, r_1' hL p2, h1, Option.bind_some, a1, Option.bind_some]
  dsimp only
  rw [r_1' a2.1 p1, s1, Option.bind_some, r_1' a2.1 p2, s1, Option.bind_some, b1, Option.bind_some]
  dsimp only
  rw [if_pos rfl, z]
theorem l_reached (hg : GI L n T P U K S h) (h7 : i + 7 ≤ L) (h4 : L ≤ 3584) (go : ∀ (n : Nat) (T P : Nat → Int) (U K : List (Nat → Int)) (h : mH), GI L n T P U K S h → ∃ h', B_Lw_law_934 1 6 43 (i : Int) h = some (1, h') ∧ h'.1 = shm L) : ∃ h', ((F_Tb_reached 6  h).bind fun q1 =>
    (F_Md_reached 43  q1.2).bind fun q2 =>
    if q1.1 = q2.1 then
      (B_Lw_law_934 1 6 43 (i : Int) q2.2)
    else
      (some (0, q2.2))) = some (1, h') ∧ h'.1 = shm L := by
  obtain ⟨hC, hM, hG, h1⟩ := hg
  have hL := hC.1
  have a1 := c_reached hC hG.1 
  have b1 := m_reached hM hG.1 
  obtain ⟨h', z, zs⟩ := go n T P U K h ⟨hC, hM, hG, h1⟩
  refine ⟨h', ?_, zs⟩
  rw [a1, Option.bind_some]
  dsimp only
  rw [b1, Option.bind_some]
  dsimp only
  rw [if_pos rfl, z]
theorem l_mends (hg : GI L n T P U K S h) (h7 : i + 7 ≤ L) (h4 : L ≤ 3584) (go : ∀ (n : Nat) (T P : Nat → Int) (U K : List (Nat → Int)) (h : mH), GI L n T P U K S h → ∃ h', B_Lw_law_934 1 6 43 (i : Int) h = some (1, h') ∧ h'.1 = shm L) : ∃ h', ((ald 10 h 1 (w32 ((i : Int) + 1))).bind fun v1 =>
    (ald 10 h 1 (w32 ((i : Int) + 2))).bind fun v2 =>
    (F_Tb_mends 6 v1 v2 h).bind fun q1 =>
    (ald 10 q1.2 1 (w32 ((i : Int) + 1))).bind fun u1 =>
    (ald 10 q1.2 1 (w32 ((i : Int) + 2))).bind fun u2 =>
    (F_Md_mends 43 u1 u2 q1.2).bind fun q2 =>
    if q1.1 = q2.1 then
      (B_Lw_law_934 1 6 43 (i : Int) q2.2)
    else
      (some (0, q2.2))) = some (1, h') ∧ h'.1 = shm L := by
  obtain ⟨hC, hM, hG, h1⟩ := hg
  have hL := hC.1
  have e1 : w32 ((i : Int) + 1) = ((i + 1 : Nat) : Int) := ixl (c := 1) (by omega) (by decide)
  have e2 : w32 ((i : Int) + 2) = ((i + 2 : Nat) : Int) := ixl (c := 2) (by clear e1; omega) (by decide)
  have p1 : i + 1 < L := by clear e1 e2; omega
  have p2 : i + 2 < L := by clear e1 e2; omega
  obtain ⟨g1, a1, a2, a3⟩ := c_mends hC hG.1 (S (i + 1)) (S (i + 2))
  have hM1 := MI_tf hM a3 a2.1
  have s1 : g1.2 1 = S := (a3.2 1 (by decide)).trans h1
  obtain ⟨g2, b1, b2, b3⟩ := m_mends hM1 hG.1 (S (i + 1)) (S (i + 2))
  obtain ⟨h', z, zs⟩ := go n T P U K g2 ⟨CI_mf a2 b3, b2, hG, (b3.2 1 (by decide)).trans s1⟩
  refine ⟨h', ?_, zs⟩
  rw [e1, r_1' hL p1, h1, Option.bind_some, e2, r_1' hL p2, h1, Option.bind_some, a1, Option.bind_some]
  dsimp only
  rw [r_1' a2.1 p1, s1, Option.bind_some, r_1' a2.1 p2, s1, Option.bind_some, b1, Option.bind_some]
  dsimp only
  rw [if_pos rfl, z]
theorem l_run (hg : GI L n T P U K S h) (h7 : i + 7 ≤ L) (h4 : L ≤ 3584) (go : ∀ (n : Nat) (T P : Nat → Int) (U K : List (Nat → Int)) (h : mH), GI L n T P U K S h → ∃ h', B_Lw_law_934 1 6 43 (i : Int) h = some (1, h') ∧ h'.1 = shm L) : ∃ h', ((ald 10 h 1 (w32 ((i : Int) + 1))).bind fun v1 =>
    (ald 10 h 1 (w32 ((i : Int) + 2))).bind fun v2 =>
    (ald 10 h 1 (w32 ((i : Int) + 3))).bind fun v3 =>
    (F_Tb_run 6 v1 v2 v3 h).bind fun q1 =>
    (ald 10 q1.2 1 (w32 ((i : Int) + 1))).bind fun u1 =>
    (ald 10 q1.2 1 (w32 ((i : Int) + 2))).bind fun u2 =>
    (ald 10 q1.2 1 (w32 ((i : Int) + 3))).bind fun u3 =>
    (F_Md_run 43 u1 u2 u3 q1.2).bind fun q2 =>
    if q1.1 = q2.1 then
      (B_Lw_law_934 1 6 43 (i : Int) q2.2)
    else
      (some (0, q2.2))) = some (1, h') ∧ h'.1 = shm L := by
  obtain ⟨hC, hM, hG, h1⟩ := hg
  have hL := hC.1
  have e1 : w32 ((i : Int) + 1) = ((i + 1 : Nat) : Int) := ixl (c := 1) (by omega) (by decide)
  have e2 : w32 ((i : Int) + 2) = ((i + 2 : Nat) : Int) := ixl (c := 2) (by clear e1; omega) (by decide)
  have e3 : w32 ((i : Int) + 3) = ((i + 3 : Nat) : Int) := ixl (c := 3) (by clear e1 e2; omega) (by decide)
  have p1 : i + 1 < L := by clear e1 e2 e3; omega
  have p2 : i + 2 < L := by clear e1 e2 e3; omega
  have p3 : i + 3 < L := by clear e1 e2 e3; omega
  obtain ⟨g1, a1, a2, a3⟩ := c_run hC hG.1 (S (i + 1)) (S (i + 2)) (S (i + 3))
  have hM1 := MI_tf hM a3 a2.1
  have s1 : g1.2 1 = S := (a3.2 1 (by decide)).trans h1
  obtain ⟨g2, b1, b2, b3⟩ := m_run hM1 hG.1 (S (i + 1)) (S (i + 2)) (S (i + 3))
  obtain ⟨h', z, zs⟩ := go n T P U K g2 ⟨CI_mf a2 b3, b2, hG, (b3.2 1 (by decide)).trans s1⟩
  refine ⟨h', ?_, zs⟩
  rw [e1, r_1' hL p1, h1, Option.bind_some, e2, r_1' hL p2, h1, Option.bind_some, e3, r_1' hL p3, h1, Option.bind_some, a1, Option.bind_some]
  dsimp only
  rw [r_1' a2.1 p1, s1, Option.bind_some, r_1' a2.1 p2, s1, Option.bind_some, r_1' a2.1 p3, s1, Option.bind_some, b1, Option.bind_some]
  dsimp only
  rw [if_pos rfl, z]
theorem l_day (hg : GI L n T P U K S h) (h7 : i + 7 ≤ L) (h4 : L ≤ 3584) (go : ∀ (n : Nat) (T P : Nat → Int) (U K : List (Nat → Int)) (h : mH), GI L n T P U K S h → ∃ h', B_Lw_law_934 1 6 43 (i : Int) h = some (1, h') ∧ h'.1 = shm L) : ∃ h', ((ald 10 h 1 (w32 ((i : Int) + 1))).bind fun v1 =>
    (ald 10 h 1 (w32 ((i : Int) + 2))).bind fun v2 =>
    (ald 10 h 1 (w32 ((i : Int) + 3))).bind fun v3 =>
    (F_Tb_day 6 v1 v2 v3 h).bind fun q1 =>
    (ald 10 q1.2 1 (w32 ((i : Int) + 1))).bind fun u1 =>
    (ald 10 q1.2 1 (w32 ((i : Int) + 2))).bind fun u2 =>
    (ald 10 q1.2 1 (w32 ((i : Int) + 3))).bind fun u3 =>
    (F_Md_day 43 u1 u2 u3 q1.2).bind fun q2 =>
    if q1.1 = q2.1 then
      (B_Lw_law_934 1 6 43 (i : Int) q2.2)
    else
      (some (0, q2.2))) = some (1, h') ∧ h'.1 = shm L := by
  obtain ⟨hC, hM, hG, h1⟩ := hg
  have hL := hC.1
  have e1 : w32 ((i : Int) + 1) = ((i + 1 : Nat) : Int) := ixl (c := 1) (by omega) (by decide)
  have e2 : w32 ((i : Int) + 2) = ((i + 2 : Nat) : Int) := ixl (c := 2) (by clear e1; omega) (by decide)
  have e3 : w32 ((i : Int) + 3) = ((i + 3 : Nat) : Int) := ixl (c := 3) (by clear e1 e2; omega) (by decide)
  have p1 : i + 1 < L := by clear e1 e2 e3; omega
  have p2 : i + 2 < L := by clear e1 e2 e3; omega
  have p3 : i + 3 < L := by clear e1 e2 e3; omega
  obtain ⟨g1, a1, a2, a3⟩ := c_day hC hG.1 (S (i + 1)) (S (i + 2)) (S (i + 3))
  have hM1 := MI_tf hM a3 a2.1
  have s1 : g1.2 1 = S := (a3.2 1 (by decide)).trans h1
  obtain ⟨g2, b1, b2, b3⟩ := m_day hM1 hG.1 (S (i + 1)) (S (i + 2)) (S (i + 3))
  obtain ⟨h', z, zs⟩ := go n T P U K g2 ⟨CI_mf a2 b3, b2, hG, (b3.2 1 (by decide)).trans s1⟩
  refine ⟨h', ?_, zs⟩
  rw [e1, r_1' hL p1, h1, Option.bind_some, e2, r_1' hL p2, h1, Option.bind_some, e3, r_1' hL p3, h1, Option.bind_some, a1, Option.bind_some]
  dsimp only
  rw [r_1' a2.1 p1, s1, Option.bind_some, r_1' a2.1 p2, s1, Option.bind_some, r_1' a2.1 p3, s1, Option.bind_some, b1, Option.bind_some]
  dsimp only
  rw [if_pos rfl, z]
theorem l_keep (hg : GI L n T P U K S h) (h7 : i + 7 ≤ L) (h4 : L ≤ 3584) (go : ∀ (n : Nat) (T P : Nat → Int) (U K : List (Nat → Int)) (h : mH), GI L n T P U K S h → ∃ h', B_Lw_law_934 1 6 43 (i : Int) h = some (1, h') ∧ h'.1 = shm L) : ∃ h', ((F_Tb_keep 6  h).bind fun q1 =>
    (F_Md_keep 43  q1.2).bind fun q2 =>
    if q1.1 = q2.1 then
      (B_Lw_law_934 1 6 43 (i : Int) q2.2)
    else
      (some (0, q2.2))) = some (1, h') ∧ h'.1 = shm L := by
  obtain ⟨hC, hM, hG, h1⟩ := hg
  have hL := hC.1
  obtain ⟨g1, a1, a2, a3⟩ := c_keep hC 
  have hM1 := MI_tf hM a3 a2.1
  have s1 : g1.2 1 = S := (a3.2 1 (by decide)).trans h1
  obtain ⟨g2, b1, b2, b3⟩ := m_keep hM1 
  obtain ⟨h', z, zs⟩ := go n T P U (keepA P K).2 g2 ⟨CI_mf a2 b3, b2, GK_keep hG, (b3.2 1 (by decide)).trans s1⟩
  refine ⟨h', ?_, zs⟩
  rw [a1, Option.bind_some]
  dsimp only
  rw [b1, Option.bind_some]
  dsimp only
  rw [if_pos rfl, z]
theorem l_back (hg : GI L n T P U K S h) (h7 : i + 7 ≤ L) (h4 : L ≤ 3584) (go : ∀ (n : Nat) (T P : Nat → Int) (U K : List (Nat → Int)) (h : mH), GI L n T P U K S h → ∃ h', B_Lw_law_934 1 6 43 (i : Int) h = some (1, h') ∧ h'.1 = shm L) : ∃ h', ((F_Tb_back 6  h).bind fun q1 =>
    (F_Md_back 43  q1.2).bind fun q2 =>
    if q1.1 = q2.1 then
      (B_Lw_law_934 1 6 43 (i : Int) q2.2)
    else
      (some (0, q2.2))) = some (1, h') ∧ h'.1 = shm L := by
  obtain ⟨hC, hM, hG, h1⟩ := hg
  have hL := hC.1
  obtain ⟨g1, a1, a2, a3⟩ := c_back hC 
  have hM1 := MI_tf hM a3 a2.1
  have s1 : g1.2 1 = S := (a3.2 1 (by decide)).trans h1
  obtain ⟨g2, b1, b2, b3⟩ := m_back hM1 hG.1 (fun q hq => (hG.2.2 q hq).2) 
  obtain ⟨h', z, zs⟩ := go n T (backA P U K).2.1 (backA P U K).2.2.1 (backA P U K).2.2.2 g2 ⟨CI_mf a2 b3, b2, GK_back hG, (b3.2 1 (by decide)).trans s1⟩
  refine ⟨h', ?_, zs⟩
  rw [a1, Option.bind_some]
  dsimp only
  rw [b1, Option.bind_some]
  dsimp only
  rw [if_pos rfl, z]
theorem l_count (hg : GI L n T P U K S h) (h7 : i + 7 ≤ L) (h4 : L ≤ 3584) (go : ∀ (n : Nat) (T P : Nat → Int) (U K : List (Nat → Int)) (h : mH), GI L n T P U K S h → ∃ h', B_Lw_law_934 1 6 43 (i : Int) h = some (1, h') ∧ h'.1 = shm L) : ∃ h', ((ald 10 h 1 (w32 ((i : Int) + 1))).bind fun v1 =>
    (F_Tb_count 6 v1 h).bind fun q1 =>
    (ald 10 q1.2 1 (w32 ((i : Int) + 1))).bind fun u1 =>
    (F_Md_count 43 u1 q1.2).bind fun q2 =>
    if q1.1 = q2.1 then
      (B_Lw_law_934 1 6 43 (i : Int) q2.2)
    else
      (some (0, q2.2))) = some (1, h') ∧ h'.1 = shm L := by
  obtain ⟨hC, hM, hG, h1⟩ := hg
  have hL := hC.1
  have e1 : w32 ((i : Int) + 1) = ((i + 1 : Nat) : Int) := ixl (c := 1) (by omega) (by decide)
  have p1 : i + 1 < L := by clear e1; omega
  obtain ⟨g1, a1, a2, a3⟩ := c_count hC hG.1 (S (i + 1))
  have hM1 := MI_tf hM a3 a2.1
  have s1 : g1.2 1 = S := (a3.2 1 (by decide)).trans h1
  obtain ⟨g2, b1, b2, b3⟩ := m_count hM1 hG.1 (S (i + 1))
  obtain ⟨h', z, zs⟩ := go n T P U K g2 ⟨CI_mf a2 b3, b2, hG, (b3.2 1 (by decide)).trans s1⟩
  refine ⟨h', ?_, zs⟩
  rw [e1, r_1' hL p1, h1, Option.bind_some, a1, Option.bind_some]
  dsimp only
  rw [r_1' a2.1 p1, s1, Option.bind_some, b1, Option.bind_some]
  dsimp only
  rw [if_pos rfl, z]
theorem l_loop (h4 : L ≤ 3584) (hS : ∀ j, S j < 2147483648) : ∀ (m i n : Nat) (T P : Nat → Int) (U K : List (Nat → Int)) (h : mH), L ≤ i + m → i ≤ L + 7 → GI L n T P U K S h → ∃ h', B_Lw_law_18 1 6 43 (i : Int) h = some (1, h') ∧ h'.1 = shm L := by
  intro m
  induction m using Nat.strongRecOn with
  | ind m ih =>
    intro i n T P U K h e i9 hg
    have hL := hg.1.1
    have hw : w32 ((L : Int) - 7) = (L : Int) - 7 := w32_id (by omega) (by omega)
    rw [q_Lw_law_18, n_1 hL h4, Option.bind_some, hw]
    clear hw
    by_cases q : (L : Int) - 7 < (i : Int)
    · rw [if_pos q]
      exact ⟨h, rfl, hg.2.1.1.1⟩
    · have h7 : i + 7 ≤ L := by omega
      have go : ∀ (n : Nat) (T P : Nat → Int) (U K : List (Nat → Int)) (h : mH), GI L n T P U K S h → ∃ h', B_Lw_law_934 1 6 43 (i : Int) h = some (1, h') ∧ h'.1 = shm L := fun n' T' P' U' K' h' hg' => by
        obtain ⟨h2, z, zs⟩ := ih (m - 7) (by omega) (i + 7) n' T' P' U' K' h' (by omega) (by omega) hg'
        refine ⟨h2, ?_, zs⟩
        have e7 : w32 ((i : Int) + 7) = ((i + 7 : Nat) : Int) := ixl (c := 7) (by omega) (by decide)
        rw [q_Lw_law_934, e7, z]
      rw [if_neg q, r_1' hL (show i < L by omega), Option.bind_some]
      generalize iand (h.2 1 i) 31 = x
      by_cases c0 : x = 0
      · rw [if_pos c0]
        exact l_write hg h7 h4 go
      rw [if_neg c0]
      by_cases c1 : x = 1
      · rw [if_pos c1]
        exact l_wipe hg h7 h4 go
      rw [if_neg c1]
      by_cases c2 : x = 2
      · rw [if_pos c2]
        exact l_fault hg h7 h4 go
      rw [if_neg c2]
      by_cases c3 : x = 3
      · rw [if_pos c3]
        exact l_lay hg h7 h4 go
      rw [if_neg c3]
      by_cases c4 : x = 4
      · rw [if_pos c4]
        exact l_sort hg h7 h4 go
      rw [if_neg c4]
      by_cases c5 : x = 5
      · rw [if_pos c5]
        exact l_label hg h7 h4 go
      rw [if_neg c5]
      by_cases c6 : x = 6
      · rw [if_pos c6]
        exact l_code hg h7 h4 go
      rw [if_neg c6]
      by_cases c7 : x = 7
      · rw [if_pos c7]
        exact l_put hg h7 h4 go
      rw [if_neg c7]
      by_cases c8 : x = 8
      · rw [if_pos c8]
        exact l_add hg h7 h4 go
      rw [if_neg c8]
      by_cases c9 : x = 9
      · rw [if_pos c9]
        exact l_cut hg h7 h4 go
      rw [if_neg c9]
      by_cases c10 : x = 10
      · rw [if_pos c10]
        exact l_want hg h7 h4 hS go
      rw [if_neg c10]
      by_cases c11 : x = 11
      · rw [if_pos c11]
        exact l_below hg h7 h4 go
      rw [if_neg c11]
      by_cases c12 : x = 12
      · rw [if_pos c12]
        exact l_undo hg h7 h4 go
      rw [if_neg c12]
      by_cases c13 : x = 13
      · rw [if_pos c13]
        exact l_check hg h7 h4 go
      rw [if_neg c13]
      by_cases c14 : x = 14
      · rw [if_pos c14]
        exact l_reason hg h7 h4 go
      rw [if_neg c14]
      by_cases c15 : x = 15
      · rw [if_pos c15]
        exact l_ahead hg h7 h4 go
      rw [if_neg c15]
      by_cases c16 : x = 16
      · rw [if_pos c16]
        exact l_sure hg h7 h4 go
      rw [if_neg c16]
      by_cases c17 : x = 17
      · rw [if_pos c17]
        exact l_joins hg h7 h4 go
      rw [if_neg c17]
      by_cases c18 : x = 18
      · rw [if_pos c18]
        exact l_might hg h7 h4 go
      rw [if_neg c18]
      by_cases c19 : x = 19
      · rw [if_pos c19]
        exact l_reached hg h7 h4 go
      rw [if_neg c19]
      by_cases c20 : x = 20
      · rw [if_pos c20]
        exact l_mends hg h7 h4 go
      rw [if_neg c20]
      by_cases c21 : x = 21
      · rw [if_pos c21]
        exact l_run hg h7 h4 go
      rw [if_neg c21]
      by_cases c22 : x = 22
      · rw [if_pos c22]
        exact l_day hg h7 h4 go
      rw [if_neg c22]
      by_cases c23 : x = 23
      · rw [if_pos c23]
        exact l_keep hg h7 h4 go
      rw [if_neg c23]
      by_cases c24 : x = 24
      · rw [if_pos c24]
        exact l_back hg h7 h4 go
      rw [if_neg c24]
      by_cases c25 : x = 25
      · rw [if_pos c25]
        exact l_count hg h7 h4 go
      rw [if_neg c25]
      exact go n T P U K h hg
end Lp
