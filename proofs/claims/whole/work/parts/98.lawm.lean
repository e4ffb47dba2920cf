/-! THE LAW, in the mini machine -/
theorem CI_ext {L n : Nat} {T P : Nat → Int} {U K : List (Nat → Int)} {h h' : mH} (hc : CI L n T P U K h) (g : ∀ a, a < 43 → h'.2 a = h.2 a) (hL' : Ly L h') : CI L n T P U K h' := by
  obtain ⟨hL, ⟨z9, z12, z14⟩, ⟨t1, t2, t3⟩, hP, hU, hK⟩ := hc
  exact ⟨hL', ⟨by rw [g 9 (by decide)]; exact z9, by rw [g 12 (by decide)]; exact z12, by rw [g 14 (by decide)]; exact z14⟩, ⟨by rw [g 7 (by decide)]; exact t1, t2, by rw [g 10 (by decide)]; exact t3⟩, by rw [g 12 (by decide)]; exact hP, ShI_c (fun b hb => g b (by omega)) hU, ShI_c (fun b hb => g b (by omega)) hK⟩
theorem law_mini {L : Nat} (h4 : L ≤ 3584) {f : Nat → Nat → Int} (h0 : H0 L f) (hS : ∀ j, f 1 j < 2147483648) : ∃ h', F_Lw_law 1 (bas L, f) = some (1, h') ∧ h'.1 = shm L := by
  obtain ⟨h1, a1, a2, a3, a4, a5⟩ := k_tb h0
  obtain ⟨s1, f1⟩ := h1
  have a3' : s1 = shp L := a3
  subst a3'
  obtain ⟨h2, b1, b2, b3⟩ := k_md a2.1 a5
  have hc := CI_ext a2 b3 (LyM_Ly b2.1)
  have hv := Val_P0 a5
  have hg : GI L 0 fstF P0 [] [] (f 1) h2 := ⟨hc, b2, ⟨hv, fun q hq => absurd hq List.not_mem_nil, fun q hq => absurd hq List.not_mem_nil⟩, (b3 1 (by decide)).trans (a4 1 (by decide))⟩
  obtain ⟨h', z, zs⟩ := l_loop h4 hS L 0 0 fstF P0 [] [] h2 (by omega) (by omega) hg
  refine ⟨h', ?_, zs⟩
  rw [show ((0 : Nat) : Int) = 0 from rfl] at z
  rw [q_Lw_law, show (bas L, f).1.length = 6 from rfl, a1, Option.bind_some, show (shp L, f1).1.length = 43 from rfl, b1, Option.bind_some, z]
