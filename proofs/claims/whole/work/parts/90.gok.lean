/-! THE LAW: what holds between two calls of both -/
def GK (P : Nat → Int) (U K : List (Nat → Int)) : Prop := Val P ∧ (∀ q ∈ U, Val q ∧ St P q) ∧ ∀ q ∈ K, Val q ∧ St P q
section Gk
variable {L n : Nat} {T P : Nat → Int} {U K : List (Nat → Int)} {h h' : mH}
theorem GK_act (g : GK P U K) {o : Option (Nat → Int)} (ho : ∀ Q, o = some Q → Val Q ∧ St P Q) : GK (actN P U o).1 (actN P U o).2 K := by
  obtain ⟨g1, g2, g3⟩ := g
  cases o with
  | none => exact ⟨g1, g2, g3⟩
  | some Q =>
    obtain ⟨q1, q2⟩ := ho Q rfl
    refine ⟨q1, fun q hq => ?_, fun q hq => ⟨(g3 q hq).1, St_tr (St_sy q2) (g3 q hq).2⟩⟩
    have hq' : q ∈ (P :: U).take 8 := hq
    rcases List.mem_cons.mp (List.mem_of_mem_take hq') with e | e
    · rw [e]; exact ⟨g1, St_sy q2⟩
    · exact ⟨(g2 q e).1, St_tr (St_sy q2) (g2 q e).2⟩
theorem GK_undo (g : GK P U K) : GK (undoA P U).2.1 (undoA P U).2.2 K := by
  obtain ⟨g1, g2, g3⟩ := g
  cases U with
  | nil => exact ⟨g1, g2, g3⟩
  | cons q U =>
    obtain ⟨q1, q2⟩ := g2 q List.mem_cons_self
    exact ⟨q1, fun r hr => ⟨(g2 r (List.mem_cons_of_mem _ hr)).1, St_tr (St_sy q2) (g2 r (List.mem_cons_of_mem _ hr)).2⟩, fun r hr => ⟨(g3 r hr).1, St_tr (St_sy q2) (g3 r hr).2⟩⟩
theorem GK_keep (g : GK P U K) : GK P U (keepA P K).2 := by
  obtain ⟨g1, g2, g3⟩ := g
  unfold keepA
  by_cases q : K.length < 2
  · rw [if_pos q]
    refine ⟨g1, g2, fun r hr => ?_⟩
    rcases List.mem_cons.mp hr with e | e
    · rw [e]; exact ⟨g1, St_rf P⟩
    · exact g3 r e
  · rw [if_neg q]; exact ⟨g1, g2, g3⟩
theorem GK_back (g : GK P U K) : GK (backA P U K).2.1 (backA P U K).2.2.1 (backA P U K).2.2.2 := by
  obtain ⟨g1, g2, g3⟩ := g
  cases K with
  | nil => exact ⟨g1, g2, g3⟩
  | cons q K =>
    obtain ⟨q1, q2⟩ := g3 q List.mem_cons_self
    exact ⟨q1, fun r hr => absurd hr List.not_mem_nil, fun r hr => ⟨(g3 r (List.mem_cons_of_mem _ hr)).1, St_tr (St_sy q2) (g3 r (List.mem_cons_of_mem _ hr)).2⟩⟩
theorem GK_lay (g : GK P U K) {o : Option (Nat → Int)} (ho : ∀ Q, o = some Q → Val Q) : GK (layN P U K o).1 (layN P U K o).2.1 (layN P U K o).2.2 := by
  cases o with
  | none => exact g
  | some Q => exact ⟨ho Q rfl, fun r hr => absurd hr List.not_mem_nil, fun r hr => absurd hr List.not_mem_nil⟩
theorem ok_put (hv : Val P) (l k c x y z : Int) : ∀ Q, (putA P l k c x y z).2 = some Q → Val Q ∧ St P Q := by
  intro Q hQ
  unfold putA at hQ
  by_cases q : hasI P l k ∧ mayS (pS P) (pL P) c x y z
  · rw [iteP_t q] at hQ
    by_cases w : pC P l.toNat k.toNat 0 = c ∧ pC P l.toNat k.toNat 1 = x ∧ pC P l.toNat k.toNat 2 = y ∧ pC P l.toNat k.toNat 3 = z
    · rw [iteP_t w] at hQ; cases hQ
    · rw [iteP_f w] at hQ
      have e := Option.some.inj hQ
      have v2 := hv.2.1
      obtain ⟨⟨⟨h1, h2⟩, h3, h4⟩, hm⟩ := q
      have l4 : l.toNat < 4 := by omega
      have vk := (hv.2.2.2.2 l.toNat (by omega)).2.2.2.2.1
      have k6 : k.toNat < 6 := by omega
      rw [← e]
      exact ⟨Val_ins hv l4 k6 hm, St_ins l4 k6 _ _ _ _⟩
  · rw [iteP_f q] at hQ; cases hQ
theorem ok_add (hv : Val P) (l k c x y z : Int) : ∀ Q, (addA P l k c x y z).2 = some Q → Val Q ∧ St P Q := by
  intro Q hQ
  unfold addA at hQ
  by_cases q : hasL P l ∧ (0 ≤ k ∧ k ≤ pK P l.toNat) ∧ mayS (pS P) (pL P) c x y z
  · rw [iteP_t q] at hQ
    by_cases w : 6 ≤ pK P l.toNat
    · rw [iteP_t w] at hQ; cases hQ
    · rw [iteP_f w] at hQ
      have e := Option.some.inj hQ
      have v2 := hv.2.1
      obtain ⟨⟨h1, h2⟩, ⟨h3, h4⟩, hm⟩ := q
      have l4 : l.toNat < 4 := by omega
      have vk := (hv.2.2.2.2 l.toNat (by omega)).2.2.2.2.1
      have k6 : k.toNat < 6 := by omega
      have s6 : (pK P l.toNat).toNat < 6 := by omega
      rw [← e]
      exact ⟨Val_add hv l4 (by omega) (by omega) s6 hm, St_tr (St_room l4 s6) (St_ins l4 k6 _ _ _ _)⟩
  · rw [iteP_f q] at hQ; cases hQ
theorem ok_cut (hv : Val P) (l k : Int) : ∀ Q, (cutA P l k).2 = some Q → Val Q ∧ St P Q := by
  intro Q hQ
  unfold cutA at hQ
  by_cases q : hasI P l k
  · rw [iteP_t q] at hQ
    have e := Option.some.inj hQ
    have v2 := hv.2.1
    obtain ⟨⟨h1, h2⟩, h3, h4⟩ := q
    have l4 : l.toNat < 4 := by omega
    have vk := (hv.2.2.2.2 l.toNat (by omega)).2.2.2.2.1
    rw [← e]
    exact ⟨Val_out hv l4 (by omega) (by omega) (by omega), St_out l4 (by omega)⟩
  · rw [iteP_f q] at hQ; cases hQ
theorem ok_want (hv : Val P) (l r t : Int) : ∀ Q, (wantA P l r t).2 = some Q → Val Q ∧ St P Q := by
  intro Q hQ
  unfold wantA at hQ
  by_cases q : hasL P l ∧ (0 ≤ r ∧ r < 4) ∧ tyOk P t
  · rw [iteP_t q] at hQ
    by_cases w : pW P l.toNat r.toNat = t
    · rw [iteP_t w] at hQ; cases hQ
    · rw [iteP_f w] at hQ
      have e := Option.some.inj hQ
      have v2 := hv.2.1
      obtain ⟨⟨h1, h2⟩, ⟨h3, h4⟩, hm⟩ := q
      have l4 : l.toNat < 4 := by omega
      have r4 : r.toNat < 4 := by omega
      rw [← e]
      exact ⟨Val_want hv l4 r4 hm, St_want l4 r4 t⟩
  · rw [iteP_f q] at hQ; cases hQ
theorem ok_below (hv : Val P) (l b : Int) : ∀ Q, (belowA P l b).2 = some Q → Val Q ∧ St P Q := by
  intro Q hQ
  unfold belowA at hQ
  by_cases q : hasL P l ∧ 0 ≤ b ∧ b ≤ 1
  · rw [iteP_t q] at hQ
    by_cases w : pO P l.toNat = b
    · rw [iteP_t w] at hQ; cases hQ
    · rw [iteP_f w] at hQ
      have e := Option.some.inj hQ
      have v2 := hv.2.1
      obtain ⟨⟨h1, h2⟩, h3, h4⟩ := q
      have l4 : l.toNat < 4 := by omega
      rw [← e]
      exact ⟨Val_open hv l4 (by omega), St_open l4 b⟩
  · rw [iteP_f q] at hQ; cases hQ
theorem ptm_r {a j : Nat} {v : Int} (ha : a ≠ 43) (e : ptm a j = some v) : ptr a j = some v := by
  unfold ptm at e
  unfold ptr
  split at e
  all_goals first
    | exact e
    | exact absurd rfl ha
    | cases e
/-- the class leaves the model as it was -/
theorem MI_tf (hm : MI L n T P U K h) (f : TF h h') (hL' : Ly L h') : MI L n T P U K h' := by
  obtain ⟨hL, ⟨t1, t2, t3, t4⟩, hS, h0, ⟨u1, u2, u3⟩, k1, k2, k3⟩ := hm
  have g : ∀ a, 43 ≤ a → h'.2 a = h.2 a := fun a ha => f.2 a (Or.inr ha)
  have hM : LyM L h' := by
    refine ⟨f.1.trans hL.1, fun a j v e => ?_⟩
    by_cases q : a = 43
    · subst q
      rw [g 43 (by decide)]
      exact hL.2 43 j v e
    · exact hL'.2 a j v (ptm_r q e)
  exact ⟨hM, ⟨by rw [g 43 (by decide)]; exact t1, t2, by rw [g 54 (by decide)]; exact t3, t4⟩, Sta_c (by rw [g 43 (by decide)]) (by rw [g 43 (by decide)]) (fun a ha => g a (by omega)) hS, by rw [g 53 (by decide)]; exact h0, ⟨by rw [g 43 (by decide)]; exact u1, u2, by rw [g 53 (by decide)]; exact u3⟩, by rw [g 43 (by decide)]; exact k1, k2, by rw [g 53 (by decide)]; exact k3⟩
/-- the model leaves the class as it was -/
theorem CI_mf (hc : CI L n T P U K h) (f : MFm h h') : CI L n T P U K h' := by
  obtain ⟨hL, ⟨z9, z12, z14⟩, ⟨t1, t2, t3⟩, hP, hU, hK⟩ := hc
  have g : ∀ a, a < 43 → h'.2 a = h.2 a := fun a ha => f.2 a ha
  have hL' : Ly L h' := by
    refine ⟨by rw [f.1]; exact hL.1, fun a j v e => ?_⟩
    by_cases q : a < 43
    · rw [g a q]; exact hL.2 a j v e
    · exfalso
      unfold ptr at e
      split at e
      all_goals first
        | omega
        | cases e
  exact ⟨hL', ⟨by rw [g 9 (by decide)]; exact z9, by rw [g 12 (by decide)]; exact z12, by rw [g 14 (by decide)]; exact z14⟩, ⟨by rw [g 7 (by decide)]; exact t1, t2, by rw [g 10 (by decide)]; exact t3⟩, by rw [g 12 (by decide)]; exact hP, ShI_c (fun b hb => g b (by omega)) hU, ShI_c (fun b hb => g b (by omega)) hK⟩
/-- both together -/
def GI (L n : Nat) (T P : Nat → Int) (U K : List (Nat → Int)) (S : Nat → Int) (h : mH) : Prop := CI L n T P U K h ∧ MI L n T P U K h ∧ GK P U K ∧ h.2 1 = S
end Gk
theorem r_1' {L : Nat} {h : mH} (hL : Ly L h) {p : Nat} (hp : p < L) : ald 10 h 1 (p : Int) = some (h.2 1 p) := by
  unfold ald
  rw [sh_1 hL]
  exact if_pos ⟨rfl, by omega, by omega, by decide⟩
theorem n_1 {L : Nat} {h : mH} (hL : Ly L h) (h4 : L ≤ 3584) : aln h 1 = some (L : Int) := by
  unfold aln
  rw [sh_1 hL]
  exact if_pos ⟨show 10 ≤ 10 by decide, show 10 ≤ 13 by decide, show L < 1000000 by omega, by decide⟩
theorem ixl {i c : Nat} (hi : i < 100000) (hc : c < 10) : w32 ((i : Int) + (c : Int)) = ((i + c : Nat) : Int) := by
  rw [w32_id (by omega) (by omega)]
  omega
