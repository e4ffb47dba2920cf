/-! how the mini machine's values and memory stand in the machine -/
/-- the size of the heap at the law's entry; where the cells 1 to 5 are; the classes and their slots -/
abbrev mG : Type := Nat × (Nat → Nat) × va_G
def rho (G : mG) (k : Nat) : Nat := if k < 6 then G.2.1 k else G.1 + (k - 6)
def RV (G : mG) (v : mV) (w : Value) : Prop := match v with
  | .inl x => ∃ a : Int32, w = .int a ∧ a.toInt = x
  | .inr (.inl x) => ∃ a : Int64, w = .long a ∧ a.toInt = x
  | .inr (.inr k) => w = if k = 0 then .null else .ref (rho G k)
def RL (G : mG) : List mV → List Value → Prop
  | [], [] => True
  | v :: r, w :: q => RV G v w ∧ RL G r q
  | _, _ => False
def RS (G : mG) (ty : Nat) (x : Int) (w : Value) : Prop := if ty = 2 then 0 ≤ x ∧ RV G (.inr (.inr x.toNat)) w else RV G (.inl x) w
def tyf (ci j : Nat) : Nat := (tfld.getD ci []).getD j 0
def tyA (kd : Nat) : FieldType := if kd = 10 then .int else if kd = 11 then .byte else if kd = 12 then .boolean else .array .int
def RC (G : mG) (s : State) (kd n : Nat) (row : Nat → Int) (cell : Cell) : Prop :=
  (kd < 7 ∧ n = nfld kd ∧ cell.cls = G.2.2.1 kd ∧ cell.vm = .none ∧ ∀ j, j < n → ∃ w, cell.slots[G.2.2.2 kd j]? = some w ∧ RS G (tyf kd j) (row j) w) ∨
  (10 ≤ kd ∧ kd ≤ 13 ∧ n < 1000000 ∧ s.isArrayOf cell (tyA kd) ∧ cell.vm ≠ .unknown ∧ cell.slots.size = n ∧ ∀ j, j < n → ∃ w, cell.slots[j]? = some w ∧ RS G (if kd = 13 then 2 else 0) (row j) w) ∨
  kd = 20
def Rep (G : mG) (s : State) (h : mH) (H : Heap) : Prop := H.size = G.1 + (h.1.length - 6) ∧ 6 ≤ h.1.length ∧ (∀ k, 1 ≤ k → k < 6 → G.2.1 k < G.1) ∧
  ∀ (k : Nat) (q : Nat × Nat), 1 ≤ k → h.1[k]? = some q → ∃ cell, H[rho G k]? = some cell ∧ RC G s q.1 q.2 (h.2 k) cell
def LR (G : mG) (n : Nat) (ls : mL) (L : Array Slot) : Prop := L.size = n ∧ lv_wf L ∧ ls.length = n ∧ ∀ (i : Nat) (v : mV), ls[i]? = some (some v) → ∃ w, L[i]? = some (.val w) ∧ RV G v w
theorem RV_cat {G : mG} {v : mV} {w : Value} (h : RV G v w) : w.category = catV v := by
  match v, h with
  | .inl x, ⟨a, e, _⟩ => rw [e]; rfl
  | .inr (.inl x), ⟨a, e, _⟩ => rw [e]; rfl
  | .inr (.inr k), h =>
    have h : w = if k = 0 then .null else .ref (rho G k) := h
    rw [h]
    split <;> rfl
theorem RL_cat {G : mG} : ∀ {st : List mV} {S : List Value}, RL G st S → (S.map fun v => v.category).sum = catS st
  | [], [], _ => rfl
  | v :: r, w :: q, h => by
    have h1 := RV_cat h.1
    have h2 := RL_cat h.2
    simp only [List.map_cons, List.sum_cons, catS] at h2 ⊢
    rw [h1, h2]
theorem RL_len {G : mG} : ∀ {st : List mV} {S : List Value}, RL G st S → S.length = st.length
  | [], [], _ => rfl
  | v :: r, w :: q, h => by simp [RL_len h.2]
theorem RL_cons {G : mG} {v : mV} {r : List mV} {S : List Value} (h : RL G (v :: r) S) : ∃ w q, S = w :: q ∧ RV G v w ∧ RL G r q := by
  match S, h with
  | w :: q, h => exact ⟨w, q, rfl, h.1, h.2⟩
theorem RL_nil {G : mG} {S : List Value} (h : RL G [] S) : S = [] := by
  match S, h with
  | [], _ => rfl
theorem RL_app {G : mG} : ∀ {a b : List mV} {A B : List Value}, RL G a A → RL G b B → RL G (a ++ b) (A ++ B)
  | [], _, [], _, _, h => h
  | _ :: _, _, _ :: _, _, h1, h2 => ⟨h1.1, RL_app h1.2 h2⟩
theorem RL_take {G : mG} : ∀ (n : Nat) {a : List mV} {A : List Value}, RL G a A → RL G (a.take n) (A.take n)
  | 0, _, _, _ => by simp [RL]
  | n + 1, [], [], _ => by simp [RL]
  | n + 1, _ :: _, _ :: _, h => ⟨h.1, RL_take n h.2⟩
theorem RL_drop {G : mG} : ∀ (n : Nat) {a : List mV} {A : List Value}, RL G a A → RL G (a.drop n) (A.drop n)
  | 0, _, _, h => h
  | n + 1, [], [], _ => by simp [RL]
  | n + 1, _ :: _, _ :: _, h => RL_drop n h.2
theorem RL_rev {G : mG} : ∀ {a : List mV} {A : List Value}, RL G a A → RL G a.reverse A.reverse
  | [], [], _ => by simp [RL]
  | v :: r, w :: q, h => by
    rw [List.reverse_cons, List.reverse_cons]
    exact RL_app (RL_rev h.2) ⟨h.1, trivial⟩
theorem RV_int {G : mG} {x : Int} {w : Value} (h : RV G (.inl x) w) : ∃ a : Int32, w = .int a ∧ a.toInt = x := h
theorem RV_lng {G : mG} {x : Int} {w : Value} (h : RV G (.inr (.inl x)) w) : ∃ a : Int64, w = .long a ∧ a.toInt = x := h
theorem RV_ref {G : mG} {k : Nat} {w : Value} (h : RV G (.inr (.inr k)) w) : w = if k = 0 then .null else .ref (rho G k) := h
theorem RV_ref1 {G : mG} {k : Nat} {w : Value} (h : RV G (.inr (.inr k)) w) (hk : k ≠ 0) : w = .ref (rho G k) := by
  rw [RV_ref h, if_neg hk]
/-! locals -/
def lvO (ls : mL) (L : Array Slot) : List (Nat × Value) := (List.range ls.length).filterMap (fun i => match ls[i]?, (L[i]? : Option Slot) with
  | some (some _), some (Slot.val w) => some (i, w)
  | _, _ => none)
theorem lvO_mem {ls : mL} {L : Array Slot} {i : Nat} {w : Value} {v : mV} (h1 : ls[i]? = some (some v)) (h2 : L[i]? = some (.val w)) : (i, w) ∈ lvO ls L := by
  unfold lvO
  refine List.mem_filterMap.mpr ⟨i, List.mem_range.mpr (List.getElem?_eq_some_iff.mp h1).1, ?_⟩
  rw [h1, h2]
theorem lvO_of {ls : mL} {L : Array Slot} {q : Nat × Value} (h : q ∈ lvO ls L) : L[q.1]? = some (.val q.2) := by
  unfold lvO at h
  obtain ⟨i, -, h⟩ := List.mem_filterMap.mp h
  split at h
  · rename_i h1 h2
    cases h
    exact h2
  · cases h
theorem LR_has {G : mG} {n : Nat} {ls : mL} {L : Array Slot} (h : LR G n ls L) : lv_has L n (lvO ls L) := ⟨h.1, h.2.1, fun _ hq => lvO_of hq⟩
theorem LR_set1 {G : mG} {n i : Nat} {ls ls' : mL} {L L' : Array Slot} {v : mV} {w : Value} (h : LR G n ls L) (hs : set1 ls i v = some ls') (hv : RV G v w)
    (hl : lv_has L' n ((i, w) :: (lvO ls L).filter (fun q => !(q.1 == i) && !(q.1 + 1 == i && q.2.category == 2)))) : LR G n ls' L' := by
  obtain ⟨h1, h2, h3, h4⟩ := h
  unfold set1 at hs
  split at hs
  · rename_i hi
    have key : ∀ (j : Nat) (u : mV), j ≠ i → ls[j]? = some (some u) → ¬ (j + 1 = i ∧ catV u = 2) → ∃ w, L'[j]? = some (.val w) ∧ RV G u w := by
      intro j u hj hu hc
      obtain ⟨z, z1, z2⟩ := h4 j u hu
      refine ⟨z, hl.2.2 (j, z) (List.mem_cons_of_mem _ (List.mem_filter.mpr ⟨lvO_mem hu z1, ?_⟩)), z2⟩
      have hz := RV_cat z2
      by_cases hji : j + 1 = i
      · have : catV u ≠ 2 := fun q => hc ⟨hji, q⟩
        simp [hj, hz, this]
      · simp [hj, hji]
    have hnew : L'[i]? = some (.val w) := hl.2.2 (i, w) List.mem_cons_self
    have e : ls' = if i ≠ 0 ∧ lngV ls[i - 1]? = true then (ls.set i (some v)).set (i - 1) none else ls.set i (some v) := (Option.some.inj hs).symm
    refine ⟨hl.1, hl.2.1, ?_, ?_⟩
    · rw [e]; split <;> simp [h3]
    · intro j u hu
      rw [e] at hu
      split at hu
      · rename_i hc
        by_cases hj : j = i - 1
        · subst hj
          rw [List.getElem?_set_self (by simp; omega)] at hu
          cases hu
        · rw [List.getElem?_set_ne (Ne.symm hj)] at hu
          by_cases hj2 : j = i
          · subst hj2
            rw [List.getElem?_set_self hi] at hu
            cases hu
            exact ⟨w, hnew, hv⟩
          · rw [List.getElem?_set_ne (Ne.symm hj2)] at hu
            exact key j u hj2 hu (fun q => hj (by omega))
      · rename_i hc
        by_cases hj2 : j = i
        · subst hj2
          rw [List.getElem?_set_self hi] at hu
          cases hu
          exact ⟨w, hnew, hv⟩
        · rw [List.getElem?_set_ne (Ne.symm hj2)] at hu
          refine key j u hj2 hu (fun q => hc ⟨by omega, ?_⟩)
          have : i - 1 = j := by omega
          rw [this, hu]
          match u, q.2 with
          | .inr (.inl _), _ => rfl
  · cases hs
theorem LR_set2 {G : mG} {n i : Nat} {ls ls' : mL} {L L' : Array Slot} {v : mV} {w : Value} (h : LR G n ls L) (hs : set2 ls i v = some ls') (hv : RV G v w)
    (hl : lv_has L' n ((i, w) :: (lvO ls L).filter (fun q => !(q.1 == i) && (!(q.1 == i + 1) && !(q.1 + 1 == i && q.2.category == 2))))) : LR G n ls' L' := by
  obtain ⟨h1, h2, h3, h4⟩ := h
  unfold set2 at hs
  split at hs
  · rename_i hi
    have key : ∀ (j : Nat) (u : mV), j ≠ i → j ≠ i + 1 → ls[j]? = some (some u) → ¬ (j + 1 = i ∧ catV u = 2) → ∃ w, L'[j]? = some (.val w) ∧ RV G u w := by
      intro j u hj hj' hu hc
      obtain ⟨z, z1, z2⟩ := h4 j u hu
      refine ⟨z, hl.2.2 (j, z) (List.mem_cons_of_mem _ (List.mem_filter.mpr ⟨lvO_mem hu z1, ?_⟩)), z2⟩
      have hz := RV_cat z2
      by_cases hji : j + 1 = i
      · have : catV u ≠ 2 := fun q => hc ⟨hji, q⟩
        simp [hj, hj', hz, this]
      · simp [hj, hj', hji]
    have hnew : L'[i]? = some (.val w) := hl.2.2 (i, w) List.mem_cons_self
    have e : ls' = if i ≠ 0 ∧ lngV ls[i - 1]? = true then ((ls.set i (some v)).set (i + 1) none).set (i - 1) none else (ls.set i (some v)).set (i + 1) none := (Option.some.inj hs).symm
    have hmid : ∀ (j : Nat) (u : mV), ((ls.set i (some v)).set (i + 1) none)[j]? = some (some u) → ¬ (j + 1 = i ∧ catV u = 2) → ∃ w, L'[j]? = some (.val w) ∧ RV G u w := by
      intro j u hu hc
      by_cases hj : j = i + 1
      · subst hj
        rw [List.getElem?_set_self (by simp; omega)] at hu
        cases hu
      · rw [List.getElem?_set_ne (Ne.symm hj)] at hu
        by_cases hj2 : j = i
        · subst hj2
          rw [List.getElem?_set_self (by omega)] at hu
          cases hu
          exact ⟨w, hnew, hv⟩
        · rw [List.getElem?_set_ne (Ne.symm hj2)] at hu
          exact key j u hj2 hj hu hc
    refine ⟨hl.1, hl.2.1, ?_, ?_⟩
    · rw [e]; split <;> simp [h3]
    · intro j u hu
      rw [e] at hu
      split at hu
      · rename_i hc
        by_cases hj : j = i - 1
        · subst hj
          rw [List.getElem?_set_self (by simp; omega)] at hu
          cases hu
        · rw [List.getElem?_set_ne (Ne.symm hj)] at hu
          exact hmid j u hu (fun q => hj (by omega))
      · rename_i hc
        refine hmid j u hu (fun q => hc ⟨by omega, ?_⟩)
        have hji : j ≠ i := by omega
        have hji' : j ≠ i + 1 := by omega
        rw [List.getElem?_set_ne (Ne.symm hji'), List.getElem?_set_ne (Ne.symm hji)] at hu
        have : i - 1 = j := by omega
        rw [this, hu]
        match u, q.2 with
        | .inr (.inl _), _ => rfl
  · cases hs
theorem ldI_of {G : mG} {n i : Nat} {ls : mL} {L : Array Slot} {x : Int} (h : LR G n ls L) (e : ldI ls i = some x) : ∃ a : Int32, L[i]? = some (.val (.int a)) ∧ a.toInt = x := by
  unfold ldI at e
  split at e
  · rename_i y hy
    cases e
    obtain ⟨w, h1, a, rfl, h2⟩ := h.2.2.2 i _ hy
    exact ⟨a, h1, h2⟩
  · cases e
theorem ldJ_of {G : mG} {n i : Nat} {ls : mL} {L : Array Slot} {x : Int} (h : LR G n ls L) (e : ldJ ls i = some x) : ∃ a : Int64, L[i]? = some (.val (.long a)) ∧ a.toInt = x := by
  unfold ldJ at e
  split at e
  · rename_i y hy
    cases e
    obtain ⟨w, h1, a, rfl, h2⟩ := h.2.2.2 i _ hy
    exact ⟨a, h1, h2⟩
  · cases e
theorem ldA_of {G : mG} {n i : Nat} {ls : mL} {L : Array Slot} {x : Nat} (h : LR G n ls L) (e : ldA ls i = some x) : L[i]? = some (.val (if x = 0 then .null else .ref (rho G x))) := by
  unfold ldA at e
  split at e
  · rename_i y hy
    cases e
    obtain ⟨w, h1, h2⟩ := h.2.2.2 i _ hy
    rw [h1, RV_ref h2]
  · cases e
/-- a method's locals at its entry -/
theorem LR_args {G : mG} : ∀ {as : List mV} {A : List Value}, RL G as A → (lg_sl A).length = (argL as).length ∧ ∀ (i : Nat) (v : mV), (argL as)[i]? = some (some v) → ∃ w, (∀ b, (b + i, w) ∈ lv_args b A) ∧ RV G v w
  | [], [], _ => ⟨rfl, fun i v h => by simp [argL] at h⟩
  | v :: r, w :: q, h => by
    obtain ⟨e, f⟩ := LR_args h.2
    have hc := RV_cat h.1
    by_cases h2 : catV v = 2
    · have ea : argL (v :: r) = some v :: none :: argL r := by simp [argL, h2]
      have el : lg_sl (w :: q) = .val w :: .second :: lg_sl q := by simp [lg_sl, hc, h2]
      refine ⟨by rw [ea, el]; simp [e], fun i u hu => ?_⟩
      rw [ea] at hu
      match i, hu with
      | 0, hu =>
        cases hu
        exact ⟨w, fun b => by simp [lv_args], h.1⟩
      | 1, hu => cases hu
      | i + 2, hu =>
        obtain ⟨z, z1, z2⟩ := f i u (by simpa using hu)
        refine ⟨z, fun b => ?_, z2⟩
        have := z1 (b + 2)
        simp only [lv_args, hc, h2, if_true]
        refine List.mem_cons_of_mem _ ?_
        rw [show b + (i + 2) = b + 2 + i by omega]
        exact this
    · have ea : argL (v :: r) = some v :: argL r := by simp [argL, h2]
      have el : lg_sl (w :: q) = .val w :: lg_sl q := by simp [lg_sl, hc, h2]
      refine ⟨by rw [ea, el]; simp [e], fun i u hu => ?_⟩
      rw [ea] at hu
      match i, hu with
      | 0, hu =>
        cases hu
        exact ⟨w, fun b => by simp [lv_args], h.1⟩
      | i + 1, hu =>
        obtain ⟨z, z1, z2⟩ := f i u (by simpa using hu)
        refine ⟨z, fun b => ?_, z2⟩
        have := z1 (b + 1)
        simp only [lv_args, hc, h2, if_false]
        refine List.mem_cons_of_mem _ ?_
        rw [show b + (i + 1) = b + 1 + i by omega]
        exact this
theorem LR_entry {G : mG} {t : Nat} {as : List mV} {A : List Value} (h : RL G as A) (hm : (argL as).length ≤ mmax t) :
    LR G (mmax t) (entL t as) ((lg_sl A ++ List.replicate (mmax t - (lg_sl A).length) Slot.unset).toArray) := by
  obtain ⟨e, f⟩ := LR_args h
  obtain ⟨q1, q2, q3⟩ := lv_entry A (n := mmax t) (by rw [e]; exact hm)
  refine ⟨q1, q2, by unfold entL; simp; omega, fun i v hv => ?_⟩
  unfold entL at hv
  by_cases hi : i < (argL as).length
  · rw [List.getElem?_append_left hi] at hv
    obtain ⟨w, w1, w2⟩ := f i v hv
    have := w1 0
    rw [Nat.zero_add] at this
    exact ⟨w, q3 (i, w) this, w2⟩
  · rw [List.getElem?_append_right (by omega)] at hv
    have := List.eq_of_mem_replicate (List.mem_of_getElem? hv)
    cases this
