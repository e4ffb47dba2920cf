/-! WHAT A RUN MEANS: registers, stack (upmost first), fields, sorts, how many tuples, block, place -/
abbrev mSt : Type := (Nat → Int) × List Int × (Nat → Int) × (Nat → Int) × Nat × Nat × Nat
abbrev sR (s : mSt) : Nat → Int := s.1
abbrev sK (s : mSt) : List Int := s.2.1
abbrev sH (s : mSt) : Nat → Int := s.2.2.1
abbrev sO (s : mSt) : Nat → Int := s.2.2.2.1
abbrev sN (s : mSt) : Nat := s.2.2.2.2.1
abbrev sA (s : mSt) : Nat := s.2.2.2.2.2.1
abbrev sP (s : mSt) : Nat := s.2.2.2.2.2.2
def isW (v : Int) : Prop := 0 ≤ v ∧ v < 10000
def isB (v : Int) : Prop := 10000 ≤ v ∧ v < 20000
/-- a register is set, one place on -/
def sSet (s : mSt) (d : Nat) (v : Int) : mSt := (ru (sR s) d v, sK s, sH s, sO s, sN s, sA s, sP s + 1)
def sGo (s : mSt) (l : Nat) : mSt := (sR s, sK s, sH s, sO s, sN s, l, 0)
def sNx (s : mSt) : mSt := (sR s, sK s, sH s, sO s, sN s, sA s, sP s + 1)
def sNew (s : mSt) (t : Int) : mSt := (sR s, sK s, ru (ru (ru (sH s) (3 * sN s) (-1)) (3 * sN s + 1) (-1)) (3 * sN s + 2) (-1), ru (sO s) (sN s) t, sN s + 1, sA s, sP s)
/-- field f of what v is can be -/
def isF (P : Nat → Int) (s : mSt) (v : Int) (f : Nat) : Prop := 20000 ≤ v ∧ v < 20012 ∧ (f : Int) < pFn P (sO s (v - 20000).toNat).toNat
def sCell (v : Int) (f : Nat) : Nat := 3 * (v - 20000).toNat + f
noncomputable def stepM (P : Nat → Int) (s : mSt) (c : Int) (x y z : Nat) : Int × mSt :=
  if c = 0 then (0, sSet s x (sR s y))
  else if c = 1 then (0, sSet s x y)
  else if c = 2 then iteP (isW (sR s x) ∧ isW (sR s y)) (0, sSet s x ((sR s x + sR s y) % 10000)) (2, s)
  else if c = 3 then iteP (sN s < 12) (0, sSet (sNew s y) x (20000 + sN s)) (3, s)
  else if c = 4 then iteP (isF P s (sR s x) y) (0, sNx (sR s, sK s, ru (sH s) (sCell (sR s x) y) (sR s z), sO s, sN s, sA s, sP s)) (2, s)
  else if c = 5 then iteP (isF P s (sR s y) z ∧ sH s (sCell (sR s y) z) ≠ -1) (0, sSet s x (sH s (sCell (sR s y) z))) (2, s)
  else if c = 6 then iteP ((sK s).length < 16) (0, sNx (sR s, sR s x :: sK s, sH s, sO s, sN s, sA s, sP s)) (3, s)
  else if c = 7 then iteP (sK s = []) (2, s) (0, sSet (sR s, (sK s).tail, sH s, sO s, sN s, sA s, sP s) x ((sK s).headD 0))
  else if c = 8 then (0, sSet s x (10000 + y))
  else if c = 9 then (0, sGo s x)
  else if c = 10 then iteP (isW (sR s x)) (iteP (sR s x = 0) (0, sNx s) (0, sGo s y)) (2, s)
  else if c = 11 then (0, sGo (ru (sR s) 3 (10000 + y), sK s, sH s, sO s, sN s, sA s, sP s) x)
  else if c = 12 then iteP (isB (sR s x)) (0, sGo s (sR s x - 10000).toNat) (2, s)
  else iteP (isW (sR s 0)) (1, s) (2, s)
/-- a step from where it stands -/
noncomputable def goM (P : Nat → Int) (s : mSt) : Int × mSt :=
  iteP ((sP s : Int) < pK P (sA s)) (stepM P s (pC P (sA s) (sP s) 0) (pC P (sA s) (sP s) 1).toNat (pC P (sA s) (sP s) 2).toNat (pC P (sA s) (sP s) 3).toNat) (2, s)
def vv (P : Nat → Int) (n : Nat) (v : Int) : Prop := isW v ∨ (∃ l : Nat, (l : Int) < pL P ∧ v = 10000 + l) ∨ ∃ t : Nat, v = 20000 + t ∧ ((t : Int) < pS P ∨ (4 ≤ t ∧ t < n))
def VM (P : Nat → Int) (s : mSt) : Prop := (4 ≤ sN s ∧ sN s ≤ 12) ∧ ((sA s : Int) < pL P ∧ (sP s : Int) ≤ pK P (sA s)) ∧ (∀ r, r < 4 → vv P (sN s) (sR s r)) ∧ ((sK s).length ≤ 16 ∧ ∀ v ∈ sK s, vv P (sN s) v) ∧
  ∀ t : Nat, ((t : Int) < pS P ∨ (4 ≤ t ∧ t < sN s)) → (0 ≤ sO s t ∧ sO s t < pS P) ∧ ∀ f : Nat, (f : Int) < pFn P (sO s t).toNat → sH s (3 * t + f) = -1 ∨ vv P (sN s) (sH s (3 * t + f))
theorem vv_up {P : Nat → Int} {n m : Nat} {v : Int} (h : vv P n v) (hm : n ≤ m) : vv P m v := by
  rcases h with h | h | ⟨t, h1, h2⟩
  · exact Or.inl h
  · exact Or.inr (Or.inl h)
  · exact Or.inr (Or.inr ⟨t, h1, by omega⟩)
section VMs
variable {P : Nat → Int} {s : mSt}
theorem VM_set (h : VM P s) {d : Nat} {v : Int} (hv : vv P (sN s) v) (hp : (sP s : Int) < pK P (sA s)) : VM P (sSet s d v) := by
  obtain ⟨h1, h2, h3, h4, h5⟩ := h
  refine ⟨h1, ⟨h2.1, by show ((sP s + 1 : Nat) : Int) ≤ pK P (sA s); omega⟩, fun r hr => ?_, h4, h5⟩
  show vv P (sN s) (ru (sR s) d v r)
  by_cases e : r = d
  · rw [e, ru_s]; exact hv
  · rw [ru_d _ _ e]; exact h3 r hr
theorem VM_nx (h : VM P s) (hp : (sP s : Int) < pK P (sA s)) : VM P (sNx s) := by
  obtain ⟨h1, h2, h3, h4, h5⟩ := h
  exact ⟨h1, ⟨h2.1, by show ((sP s + 1 : Nat) : Int) ≤ pK P (sA s); omega⟩, h3, h4, h5⟩
theorem VM_go (h : VM P s) (hV : Val P) {l : Nat} (hl : (l : Int) < pL P) : VM P (sGo s l) := by
  obtain ⟨h1, h2, h3, h4, h5⟩ := h
  exact ⟨h1, ⟨hl, (hV.2.2.2.2 l hl).2.2.2.2.1.1⟩, h3, h4, h5⟩
theorem VM_new (h : VM P s) (hV : Val P) {t : Nat} (ht : (t : Int) < pS P) (hn : sN s < 12) : VM P (sNew s t) := by
  obtain ⟨h1, h2, h3, h4, h5⟩ := h
  have h4S := hV.1
  refine ⟨by show 4 ≤ sN s + 1 ∧ sN s + 1 ≤ 12; omega, h2, fun r hr => vv_up (h3 r hr) (Nat.le_succ _), ⟨h4.1, fun v hv => vv_up (h4.2 v hv) (Nat.le_succ _)⟩, fun u hu => ?_⟩
  show (0 ≤ ru (sO s) (sN s) t u ∧ ru (sO s) (sN s) t u < pS P) ∧ ∀ f : Nat, (f : Int) < pFn P (ru (sO s) (sN s) t u).toNat → ru (ru (ru (sH s) (3 * sN s) (-1)) (3 * sN s + 1) (-1)) (3 * sN s + 2) (-1) (3 * u + f) = -1 ∨ vv P (sN s + 1) (ru (ru (ru (sH s) (3 * sN s) (-1)) (3 * sN s + 1) (-1)) (3 * sN s + 2) (-1) (3 * u + f))
  have hu' : (u : Int) < pS P ∨ (4 ≤ u ∧ u < sN s + 1) := hu
  by_cases e : u = sN s
  · rw [e, ru_s]
    refine ⟨⟨by omega, ht⟩, fun f hf => Or.inl ?_⟩
    rw [tn] at hf
    have := (hV.2.2.2.1 t ht).1
    have : f = 0 ∨ f = 1 ∨ f = 2 := by omega
    rcases this with z | z | z <;> subst z
    · rw [ru_d _ _ (by omega), ru_d _ _ (by omega), Nat.add_zero, ru_s]
    · rw [ru_d _ _ (by omega), ru_s]
    · rw [ru_s]
  · rw [ru_d _ _ e]
    obtain ⟨a1, a2⟩ := h5 u (by omega)
    refine ⟨a1, fun f hf => ?_⟩
    obtain ⟨o, ho⟩ := n_of a1.1
    rw [ho, tn] at hf
    have := (hV.2.2.2.1 o (by omega)).1
    rw [ru_d _ _ (by omega), ru_d _ _ (by omega), ru_d _ _ (by omega)]
    rcases a2 f (by rw [ho, tn]; exact hf) with z | z
    · exact Or.inl z
    · exact Or.inr (vv_up z (Nat.le_succ _))
/-- what a value with fields is -/
theorem isF_t (h : VM P s) (hV : Val P) {v : Int} {f : Nat} (hv : vv P (sN s) v) (hf : isF P s v f) : ∃ t o : Nat, v = 20000 + t ∧ ((t : Int) < pS P ∨ (4 ≤ t ∧ t < sN s)) ∧ sO s t = o ∧ (o : Int) < pS P ∧ (f : Int) < pFn P o ∧ f < 3 := by
  have h4L := hV.2.1
  have h4S := hV.1
  obtain ⟨h1, h2, h3, h4, h5⟩ := h
  obtain ⟨f1, f2, f3⟩ := hf
  rcases hv with z | ⟨l, z1, z2⟩ | ⟨t, z1, z2⟩
  · unfold isW at z; omega
  · omega
  · obtain ⟨a1, a2⟩ := h5 t z2
    obtain ⟨o, ho⟩ := n_of a1.1
    have e : (v - 20000).toNat = t := by omega
    rw [e, ho, tn] at f3
    have := (hV.2.2.2.1 o (by omega)).1
    exact ⟨t, o, z1, z2, ho, by omega, f3, by omega⟩
theorem VM_step (h : VM P s) (hV : Val P) {c : Int} {x y z : Nat} (hm : mayS (pS P) (pL P) c x y z) (hp : (sP s : Int) < pK P (sA s)) : VM P (stepM P s c x y z).2 := by
  have h3 := h.2.2.1
  have h4L := hV.2.1
  unfold stepM
  by_cases e0 : c = 0
  · rw [if_pos e0]
    subst e0
    simp [mayS, chs, oprL] at hm
    exact VM_set h (h3 y (by omega)) hp
  rw [if_neg e0]
  by_cases e1 : c = 1
  · rw [if_pos e1]
    subst e1
    simp [mayS, chs, oprL] at hm
    exact VM_set h (Or.inl (by unfold isW; omega)) hp
  rw [if_neg e1]
  by_cases e2 : c = 2
  · rw [if_pos e2]
    by_cases q : isW (sR s x) ∧ isW (sR s y)
    · rw [iteP_t q]
      exact VM_set h (Or.inl (by unfold isW; omega)) hp
    · rw [iteP_f q]; exact h
  rw [if_neg e2]
  by_cases e3 : c = 3
  · rw [if_pos e3]
    subst e3
    simp [mayS, chs, oprL] at hm
    by_cases q : sN s < 12
    · rw [iteP_t q]
      have hn := VM_new h hV (t := y) (by omega) q
      exact VM_set hn (Or.inr (Or.inr ⟨sN s, rfl, Or.inr ⟨h.1.1, Nat.lt_succ_self _⟩⟩)) hp
    · rw [iteP_f q]; exact h
  rw [if_neg e3]
  by_cases e4 : c = 4
  · rw [if_pos e4]
    subst e4
    simp [mayS, chs, oprL] at hm
    by_cases q : isF P s (sR s x) y
    · rw [iteP_t q]
      obtain ⟨h1, h2, h3', h4, h5⟩ := h
      refine VM_nx (s := (sR s, sK s, ru (sH s) (sCell (sR s x) y) (sR s z), sO s, sN s, sA s, sP s)) ⟨h1, h2, h3', h4, fun t ht => ?_⟩ hp
      obtain ⟨a1, a2⟩ := h5 t ht
      refine ⟨a1, fun f hf => ?_⟩
      show ru (sH s) (sCell (sR s x) y) (sR s z) (3 * t + f) = -1 ∨ vv P (sN s) (ru (sH s) (sCell (sR s x) y) (sR s z) (3 * t + f))
      by_cases w : 3 * t + f = sCell (sR s x) y
      · rw [w, ru_s]; exact Or.inr (h3 z (by omega))
      · rw [ru_d _ _ w]; exact a2 f hf
    · rw [iteP_f q]; exact h
  rw [if_neg e4]
  by_cases e5 : c = 5
  · rw [if_pos e5]
    subst e5
    simp [mayS, chs, oprL] at hm
    by_cases q : isF P s (sR s y) z ∧ sH s (sCell (sR s y) z) ≠ -1
    · rw [iteP_t q]
      obtain ⟨t, o, q1, q2, q3, q4, q5, q6⟩ := isF_t h hV (h3 y (by omega)) q.1
      have ec : sCell (sR s y) z = 3 * t + z := by unfold sCell; rw [q1]; omega
      have := (h.2.2.2.2 t q2).2 z (by rw [q3, tn]; exact q5)
      rw [← ec] at this
      exact VM_set h (this.resolve_left q.2) hp
    · rw [iteP_f q]; exact h
  rw [if_neg e5]
  by_cases e6 : c = 6
  · rw [if_pos e6]
    subst e6
    simp [mayS, chs, oprL] at hm
    by_cases q : (sK s).length < 16
    · rw [iteP_t q]
      obtain ⟨h1, h2, h3', h4, h5⟩ := h
      refine VM_nx (s := (sR s, sR s x :: sK s, sH s, sO s, sN s, sA s, sP s)) ⟨h1, h2, h3', ⟨by show (sR s x :: sK s).length ≤ 16; simp; omega, fun v hv => ?_⟩, h5⟩ hp
      have hv' : v ∈ sR s x :: sK s := hv
      rcases List.mem_cons.mp hv' with z | z
      · rw [z]; exact h3 x (by omega)
      · exact h4.2 v z
    · rw [iteP_f q]; exact h
  rw [if_neg e6]
  by_cases e7 : c = 7
  · rw [if_pos e7]
    by_cases q : sK s = []
    · rw [iteP_t q]; exact h
    · rw [iteP_f q]
      obtain ⟨h1, h2, h3', h4, h5⟩ := h
      obtain ⟨v, r, hr⟩ : ∃ v r, sK s = v :: r := by
        cases hk : sK s with
        | nil => exact absurd hk q
        | cons v r => exact ⟨v, r, rfl⟩
      rw [hr] at h4
      rw [hr]
      exact VM_set (s := (sR s, r, sH s, sO s, sN s, sA s, sP s)) ⟨h1, h2, h3', ⟨by have := h4.1; simp at this; show r.length ≤ 16; omega, fun w hw => h4.2 w (List.mem_cons_of_mem _ hw)⟩, h5⟩ (h4.2 v List.mem_cons_self) hp
  rw [if_neg e7]
  by_cases e8 : c = 8
  · rw [if_pos e8]
    subst e8
    simp [mayS, chs, oprL] at hm
    exact VM_set h (Or.inr (Or.inl ⟨y, by omega, rfl⟩)) hp
  rw [if_neg e8]
  by_cases e9 : c = 9
  · rw [if_pos e9]
    subst e9
    simp [mayS, chs, oprL] at hm
    exact VM_go h hV (by omega)
  rw [if_neg e9]
  by_cases e10 : c = 10
  · rw [if_pos e10]
    subst e10
    simp [mayS, chs, oprL] at hm
    by_cases q : isW (sR s x)
    · rw [iteP_t q]
      by_cases w : sR s x = 0
      · rw [iteP_t w]; exact VM_nx h hp
      · rw [iteP_f w]; exact VM_go h hV (by omega)
    · rw [iteP_f q]; exact h
  rw [if_neg e10]
  by_cases e11 : c = 11
  · rw [if_pos e11]
    subst e11
    simp [mayS, chs, oprL] at hm
    obtain ⟨h1, h2, h3', h4, h5⟩ := h
    refine VM_go (s := (ru (sR s) 3 (10000 + y), sK s, sH s, sO s, sN s, sA s, sP s)) ⟨h1, h2, fun r hr => ?_, h4, h5⟩ hV (by omega)
    show vv P (sN s) (ru (sR s) 3 (10000 + y) r)
    by_cases e : r = 3
    · rw [e, ru_s]; exact Or.inr (Or.inl ⟨y, by omega, rfl⟩)
    · rw [ru_d _ _ e]; exact h3' r hr
  rw [if_neg e11]
  by_cases e12 : c = 12
  · rw [if_pos e12]
    subst e12
    simp [mayS, chs, oprL] at hm
    by_cases q : isB (sR s x)
    · rw [iteP_t q]
      refine VM_go h hV ?_
      rcases h3 x (by omega) with z | ⟨l, z1, z2⟩ | ⟨t, z1, z2⟩
      · unfold isW at z; unfold isB at q; omega
      · omega
      · unfold isB at q; omega
    · rw [iteP_f q]; exact h
  rw [if_neg e12]
  by_cases q : isW (sR s 0)
  · rw [iteP_t q]; exact h
  · rw [iteP_f q]; exact h
end VMs
