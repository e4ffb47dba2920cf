/-! small bit sets; programs that are changed -/
def B16 (x : Int) : Prop := 0 ≤ x ∧ x < 16
theorem b16_of {x : Int} (h : B16 x) : ∃ a : Fin 16, x = (a.val : Int) := ⟨⟨x.toNat, by have := h.1; have := h.2; omega⟩, by have := h.1; show x = (x.toNat : Int); omega⟩
theorem io16' : ∀ a b : Fin 16, 0 ≤ ior (a.val : Int) (b.val : Int) ∧ ior (a.val : Int) (b.val : Int) < 16 := by decide +kernel
theorem io0' : ∀ a : Fin 16, ior (a.val : Int) 0 = (a.val : Int) := by decide +kernel
theorem ioi' : ∀ a b : Fin 16, ior (a.val : Int) (ior (a.val : Int) (b.val : Int)) = ior (a.val : Int) (b.val : Int) := by decide +kernel
theorem ioA' : ∀ a b c : Fin 16, ior (ior (a.val : Int) (b.val : Int)) (c.val : Int) = ior (a.val : Int) (ior (b.val : Int) (c.val : Int)) := by decide +kernel
theorem sh4' : ∀ a : Fin 4, 0 ≤ ishl 1 (a.val : Int) ∧ ishl 1 (a.val : Int) < 16 := by decide +kernel
theorem io16 {x y : Int} (hx : B16 x) (hy : B16 y) : B16 (ior x y) := by
  obtain ⟨a, rfl⟩ := b16_of hx
  obtain ⟨b, rfl⟩ := b16_of hy
  exact io16' a b
theorem io0 {x : Int} (hx : B16 x) : ior x 0 = x := by
  obtain ⟨a, rfl⟩ := b16_of hx
  exact io0' a
theorem ioi {x y : Int} (hx : B16 x) (hy : B16 y) : ior x (ior x y) = ior x y := by
  obtain ⟨a, rfl⟩ := b16_of hx
  obtain ⟨b, rfl⟩ := b16_of hy
  exact ioi' a b
theorem ioA {x y z : Int} (hx : B16 x) (hy : B16 y) (hz : B16 z) : ior (ior x y) z = ior x (ior y z) := by
  obtain ⟨a, rfl⟩ := b16_of hx
  obtain ⟨b, rfl⟩ := b16_of hy
  obtain ⟨c, rfl⟩ := b16_of hz
  exact ioA' a b c
theorem sh4 {x : Int} (h0 : 0 ≤ x) (h1 : x < 4) : B16 (ishl 1 x) := by
  have e : x = (((⟨x.toNat, by omega⟩ : Fin 4).val : Nat) : Int) := by show x = (x.toNat : Int); omega
  rw [e]
  exact sh4' _
/-- how many bits, of four -/
def bcS (x : Int) : Int := x % 2 + x / 2 % 2 + x / 4 % 2 + x / 8 % 2
def bc1 (x : Int) : Int := w32 ((iand (w32 (x - (iand (iush x 1) 1431655765))) 858993459) + (iand (iush (w32 (x - (iand (iush x 1) 1431655765))) 2) 858993459))
def bc2 (x : Int) : Int := w32 ((iand (w32 (x + (iush x 4))) 252645135) + (iush (iand (w32 (x + (iush x 4))) 252645135) 8))
def bc3 (x : Int) : Int := iand (w32 (x + (iush x 16))) 63
theorem bc' : ∀ a : Fin 16, bc3 (bc2 (bc1 (a.val : Int))) = bcS (a.val : Int) := by decide +kernel
theorem l34 (m l : Nat) : m = l ∨ 34 * m + 34 ≤ 34 * l ∨ 34 * l + 34 ≤ 34 * m := by
  rcases Nat.lt_trichotomy m l with h | h | h
  · exact Or.inr (Or.inl (by omega))
  · exact Or.inl h
  · exact Or.inr (Or.inr (by omega))
theorem c_bitCount {x : Int} (hx : B16 x) (h : mH) : F_Ig_bitCount x h = some (bcS x, h) := by
  obtain ⟨a, rfl⟩ := b16_of hx
  rw [q_Ig_bitCount, q_Ig_bitCount_24, q_Ig_bitCount_41]
  show some (bc3 (bc2 (bc1 (a.val : Int))), h) = _
  rw [bc' a]
theorem sbS_b (P : Nat → Int) : ∀ n : Nat, n ≤ 4 → B16 (sbS P n)
  | 0, _ => by unfold sbS B16; decide
  | n + 1, hn => by
    have ih := sbS_b P n (by omega)
    unfold sbS
    by_cases q : sureS P n
    · rw [iteP_t q]; exact io16 ih (sh4 (by omega) (by omega))
    · rw [iteP_f q]; exact ih
/-- the cells that no act changes -/
def St (P Q : Nat → Int) : Prop := (∀ j, j < 18 → Q j = P j) ∧ ∀ l i : Nat, l < 4 → i < 4 → Q (22 + 34 * l + i) = P (22 + 34 * l + i)
theorem St_rf (P : Nat → Int) : St P P := ⟨fun _ _ => rfl, fun _ _ _ _ => rfl⟩
theorem St_tr {P Q R : Nat → Int} (a : St P Q) (b : St Q R) : St P R := ⟨fun j hj => (b.1 j hj).trans (a.1 j hj), fun l i hl hi => (b.2 l i hl hi).trans (a.2 l i hl hi)⟩
theorem St_sy {P Q : Nat → Int} (a : St P Q) : St Q P := ⟨fun j hj => (a.1 j hj).symm, fun l i hl hi => (a.2 l i hl hi).symm⟩
theorem St_ru {P : Nat → Int} {j : Nat} (v : Int) (h1 : 18 ≤ j) (h2 : ∀ l i : Nat, l < 4 → i < 4 → j ≠ 22 + 34 * l + i) : St P (ru P j v) :=
  ⟨fun i hi => ru_d _ _ (by omega), fun l i hl hi => ru_d _ _ (Ne.symm (h2 l i hl hi))⟩
theorem St_S {P Q : Nat → Int} (s : St P Q) : pS Q = pS P := s.1 0 (by decide)
theorem St_L {P Q : Nat → Int} (s : St P Q) : pL Q = pL P := s.1 1 (by decide)
theorem St_H {P Q : Nat → Int} (s : St P Q) {l : Nat} (hl : l < 4) : pH Q l = pH P l := s.2 l 0 hl (by decide)
theorem St_T {P Q : Nat → Int} (s : St P Q) {l i : Nat} (hl : l < 4) (hi : i < 3) : pT Q l i = pT P l i := by
  have := s.2 l (i + 1) hl (by omega)
  unfold pT
  rw [show 23 + 34 * l + i = 22 + 34 * l + (i + 1) by omega]
  exact this
theorem St_Fn {P Q : Nat → Int} (s : St P Q) {t : Nat} (ht : t < 4) : pFn Q t = pFn P t := s.1 _ (by omega)
theorem St_Ft {P Q : Nat → Int} (s : St P Q) {t f : Nat} (ht : t < 4) (hf : f < 3) : pFt Q t f = pFt P t f := s.1 _ (by omega)
theorem St_ty {P Q : Nat → Int} (s : St P Q) (x : Int) : tyOk Q x ↔ tyOk P x := by unfold tyOk; rw [St_S s, St_L s]
/-- a program that was changed as acts change it -/
theorem Val_st {P Q : Nat → Int} (s : St P Q) (hv : Val P) (hd : ∀ l : Nat, (l : Int) < pL P → (∀ r : Nat, r < 4 → tyOk P (pW Q l r)) ∧ (pO Q l = 0 ∨ pO Q l = 1) ∧ (0 ≤ pK Q l ∧ pK Q l ≤ 6) ∧ ∀ k : Nat, (k : Int) < pK Q l → mayS (pS P) (pL P) (pC Q l k 0) (pC Q l k 1) (pC Q l k 2) (pC Q l k 3)) : Val Q := by
  obtain ⟨v1, v2, v3, v4, v5⟩ := hv
  refine ⟨by rw [St_S s]; exact v1, by rw [St_L s]; exact v2, fun l hl => by rw [St_H s hl]; exact v3 l hl, fun t ht => ?_, fun l hl => ?_⟩
  · rw [St_S s] at ht
    have t4 : t < 4 := by omega
    obtain ⟨a1, a2⟩ := v4 t ht
    rw [St_Fn s t4]
    exact ⟨a1, fun f hf => by rw [St_Ft s t4 (by omega)]; exact a2 f hf⟩
  · rw [St_L s] at hl
    have l4 : l < 4 := by omega
    obtain ⟨a1, a2, a3, a4, a5, a6⟩ := v5 l hl
    obtain ⟨d1, d2, d3, d4⟩ := hd l hl
    rw [St_H s l4]
    refine ⟨fun r hr => (St_ty s _).mpr (d1 r hr), a2, fun i hi => ?_, d2, d3, fun k hk => ?_⟩
    · rw [St_T s l4 (by omega)]
      exact (St_ty s _).mpr (a3 i hi)
    · rw [St_S s, St_L s]
      exact d4 k hk
theorem Val_dt {P : Nat → Int} (hv : Val P) (l : Nat) (hl : (l : Int) < pL P) : (∀ r : Nat, r < 4 → tyOk P (pW P l r)) ∧ (pO P l = 0 ∨ pO P l = 1) ∧ (0 ≤ pK P l ∧ pK P l ≤ 6) ∧ ∀ k : Nat, (k : Int) < pK P l → mayS (pS P) (pL P) (pC P l k 0) (pC P l k 1) (pC P l k 2) (pC P l k 3) := by
  obtain ⟨a1, a2, a3, a4, a5, a6⟩ := hv.2.2.2.2 l hl
  exact ⟨a1, a4, a5, a6⟩
section Upd
variable {P : Nat → Int}
theorem St_want {l r : Nat} (hl : l < 4) (hr : r < 4) (t : Int) : St P (ru P (18 + 34 * l + r) t) := St_ru t (by omega) (fun l' i h1 h2 => by have := l34 l' l; omega)
theorem Val_want (hv : Val P) {l r : Nat} {t : Int} (hl : l < 4) (hr : r < 4) (ht : tyOk P t) : Val (ru P (18 + 34 * l + r) t) := by
  refine Val_st (St_want hl hr t) hv (fun m hm => ?_)
  have m4 : m < 4 := by have := hv.2.1; omega
  have ml := l34 m l
  obtain ⟨d1, d2, d3, d4⟩ := Val_dt hv m hm
  have eK : pK (ru P (18 + 34 * l + r) t) m = pK P m := ru_d _ _ (by omega)
  have eO : pO (ru P (18 + 34 * l + r) t) m = pO P m := ru_d _ _ (by omega)
  refine ⟨fun q hq => ?_, by rw [eO]; exact d2, by rw [eK]; exact d3, fun k hk => ?_⟩
  · by_cases e : 18 + 34 * m + q = 18 + 34 * l + r
    · unfold pW; rw [e, ru_s]; exact ht
    · unfold pW; rw [ru_d _ _ e]; exact d1 q hq
  · rw [eK] at hk
    have eC : ∀ p, p < 4 → pC (ru P (18 + 34 * l + r) t) m k p = pC P m k p := fun p hp => ru_d _ _ (by omega)
    rw [eC 0 (by decide), eC 1 (by decide), eC 2 (by decide), eC 3 (by decide)]
    exact d4 k hk
theorem St_open {l : Nat} (hl : l < 4) (b : Int) : St P (ru P (26 + 34 * l) b) := St_ru b (by omega) (fun l' i h1 h2 => by have := l34 l' l; omega)
theorem Val_open (hv : Val P) {l : Nat} {b : Int} (hl : l < 4) (hb : b = 0 ∨ b = 1) : Val (ru P (26 + 34 * l) b) := by
  refine Val_st (St_open hl b) hv (fun m hm => ?_)
  have m4 : m < 4 := by have := hv.2.1; omega
  have ml := l34 m l
  obtain ⟨d1, d2, d3, d4⟩ := Val_dt hv m hm
  have eK : pK (ru P (26 + 34 * l) b) m = pK P m := ru_d _ _ (by omega)
  refine ⟨fun q hq => ?_, ?_, by rw [eK]; exact d3, fun k hk => ?_⟩
  · unfold pW; rw [ru_d _ _ (by omega)]; exact d1 q hq
  · by_cases e : 26 + 34 * m = 26 + 34 * l
    · unfold pO; rw [e, ru_s]; exact hb
    · unfold pO; rw [ru_d _ _ e]; exact d2
  · rw [eK] at hk
    have eC : ∀ p, p < 4 → pC (ru P (26 + 34 * l) b) m k p = pC P m k p := fun p hp => ru_d _ _ (by omega)
    rw [eC 0 (by decide), eC 1 (by decide), eC 2 (by decide), eC 3 (by decide)]
    exact d4 k hk
theorem insS_o {l k j : Nat} (c x y z : Int) (h : j < 28 + 34 * l + 4 * k ∨ 28 + 34 * l + 4 * k + 4 ≤ j) : insS P l k c x y z j = P j := by
  unfold insS
  rw [ru_d _ _ (by omega), ru_d _ _ (by omega), ru_d _ _ (by omega), ru_d _ _ (by omega)]
theorem insS_c (l k : Nat) (c x y z : Int) : pC (insS P l k c x y z) l k 0 = c ∧ pC (insS P l k c x y z) l k 1 = x ∧ pC (insS P l k c x y z) l k 2 = y ∧ pC (insS P l k c x y z) l k 3 = z := by
  unfold pC insS
  refine ⟨?_, ?_, ?_, ?_⟩
  · rw [ru_d _ _ (by omega), ru_d _ _ (by omega), ru_d _ _ (by omega), Nat.add_zero, ru_s]
  · rw [ru_d _ _ (by omega), ru_d _ _ (by omega), ru_s]
  · rw [ru_d _ _ (by omega), ru_s]
  · rw [ru_s]
theorem St_ins {l k : Nat} (hl : l < 4) (hk : k < 6) (c x y z : Int) : St P (insS P l k c x y z) :=
  ⟨fun j hj => insS_o c x y z (by omega), fun l' i h1 h2 => insS_o c x y z (by have := l34 l' l; omega)⟩
theorem Val_ins (hv : Val P) {l k : Nat} {c x y z : Int} (hl : l < 4) (hk : k < 6) (hm : mayS (pS P) (pL P) c x y z) : Val (insS P l k c x y z) := by
  refine Val_st (St_ins hl hk c x y z) hv (fun m hm' => ?_)
  have m4 : m < 4 := by have := hv.2.1; omega
  have ml := l34 m l
  obtain ⟨d1, d2, d3, d4⟩ := Val_dt hv m hm'
  have eK : pK (insS P l k c x y z) m = pK P m := insS_o _ _ _ _ (by omega)
  have eO : pO (insS P l k c x y z) m = pO P m := insS_o _ _ _ _ (by omega)
  refine ⟨fun q hq => ?_, by rw [eO]; exact d2, by rw [eK]; exact d3, fun i hi => ?_⟩
  · unfold pW; rw [insS_o _ _ _ _ (by omega)]; exact d1 q hq
  · rw [eK] at hi
    by_cases e : m = l ∧ i = k
    · rw [e.1, e.2, (insS_c l k c x y z).1, (insS_c l k c x y z).2.1, (insS_c l k c x y z).2.2.1, (insS_c l k c x y z).2.2.2]
      exact hm
    · have eC : ∀ p, p < 4 → pC (insS P l k c x y z) m i p = pC P m i p := fun p hp => insS_o _ _ _ _ (by omega)
      rw [eC 0 (by decide), eC 1 (by decide), eC 2 (by decide), eC 3 (by decide)]
      exact d4 i hi
/-- adding an instruction -/
theorem St_room {l k s : Nat} (hl : l < 4) (hs : s < 6) : St P (roomS P l k s) := by
  refine ⟨fun j hj => ?_, fun l' i h1 h2 => ?_⟩
  · unfold roomS roomI
    rw [ru_d _ _ (by omega), if_neg (by omega)]
  · have := l34 l' l
    unfold roomS roomI
    rw [ru_d _ _ (by omega), if_neg (by omega)]
theorem Val_add (hv : Val P) {l k s : Nat} {c x y z : Int} (hl : l < 4) (hk : k ≤ s) (hs : pK P l = s) (hs6 : s < 6) (hm : mayS (pS P) (pL P) c x y z) : Val (insS (roomS P l k s) l k c x y z) := by
  refine Val_st (St_tr (St_room hl hs6) (St_ins hl (by omega) c x y z)) hv (fun m hm' => ?_)
  have m4 : m < 4 := by have := hv.2.1; omega
  have ml := l34 m l
  obtain ⟨d1, d2, d3, d4⟩ := Val_dt hv m hm'
  have eW : ∀ r, r < 4 → pW (insS (roomS P l k s) l k c x y z) m r = pW P m r := fun r hr => by
    unfold pW
    rw [insS_o _ _ _ _ (by omega)]
    unfold roomS roomI
    rw [ru_d _ _ (by omega), if_neg (by omega)]
  have eO : pO (insS (roomS P l k s) l k c x y z) m = pO P m := by
    unfold pO
    rw [insS_o _ _ _ _ (by omega)]
    unfold roomS roomI
    rw [ru_d _ _ (by omega), if_neg (by omega)]
  have eK : pK (insS (roomS P l k s) l k c x y z) m = if m = l then ((s + 1 : Nat) : Int) else pK P m := by
    unfold pK
    rw [insS_o _ _ _ _ (by omega)]
    unfold roomS
    by_cases e : m = l
    · rw [if_pos e, e, ru_s]; rfl
    · rw [if_neg e, ru_d _ _ (by omega)]
      exact if_neg (by omega)
  have eC : ∀ i p : Nat, i < 6 → p < 4 → ¬ (m = l ∧ i = k) → pC (insS (roomS P l k s) l k c x y z) m i p = if m = l ∧ k < i ∧ i < s + 1 then pC P m (i - 1) p else pC P m i p := fun i p hi hp hne => by
    unfold pC
    rw [insS_o _ _ _ _ (by omega)]
    unfold roomS roomI
    rw [ru_d _ _ (by omega)]
    by_cases e : m = l ∧ k < i ∧ i < s + 1
    · rw [if_pos e, if_pos (by omega)]
      congr 1
      omega
    · rw [if_neg e, if_neg (by omega)]
  refine ⟨fun q hq => by rw [eW q hq]; exact d1 q hq, by rw [eO]; exact d2, ?_, fun i hi => ?_⟩
  · rw [eK]
    split
    · omega
    · exact d3
  · rw [eK] at hi
    by_cases e : m = l
    · rw [if_pos e] at hi
      by_cases e' : i = k
      · rw [e, e', (insS_c l k c x y z).1, (insS_c l k c x y z).2.1, (insS_c l k c x y z).2.2.1, (insS_c l k c x y z).2.2.2]
        exact hm
      · rw [eC i 0 (by omega) (by decide) (by omega), eC i 1 (by omega) (by decide) (by omega), eC i 2 (by omega) (by decide) (by omega), eC i 3 (by omega) (by decide) (by omega)]
        subst e
        by_cases g : k < i
        · rw [if_pos ⟨rfl, g, by omega⟩, if_pos ⟨rfl, g, by omega⟩, if_pos ⟨rfl, g, by omega⟩, if_pos ⟨rfl, g, by omega⟩]
          exact d4 (i - 1) (by omega)
        · rw [if_neg (by omega), if_neg (by omega), if_neg (by omega), if_neg (by omega)]
          exact d4 i (by omega)
    · rw [if_neg e] at hi
      have hi6 : i < 6 := by omega
      rw [eC i 0 hi6 (by decide) (by omega), eC i 1 hi6 (by decide) (by omega), eC i 2 hi6 (by decide) (by omega), eC i 3 hi6 (by decide) (by omega), if_neg (by omega), if_neg (by omega), if_neg (by omega), if_neg (by omega)]
      exact d4 i hi
theorem St_out {l k s : Nat} (hl : l < 4) (hs : s ≤ 6) : St P (outS P l k s) := by
  refine ⟨fun j hj => ?_, fun l' i h1 h2 => ?_⟩
  · unfold outS outI
    rw [ru_d _ _ (by omega), if_neg (by omega)]
  · have := l34 l' l
    unfold outS outI
    rw [ru_d _ _ (by omega), if_neg (by omega)]
theorem Val_out (hv : Val P) {l k s : Nat} (hl : l < 4) (hk : k < s) (hs : pK P l = s) (hs6 : s ≤ 6) : Val (outS P l k s) := by
  refine Val_st (St_out hl hs6) hv (fun m hm' => ?_)
  have m4 : m < 4 := by have := hv.2.1; omega
  have ml := l34 m l
  obtain ⟨d1, d2, d3, d4⟩ := Val_dt hv m hm'
  have eW : ∀ r, r < 4 → pW (outS P l k s) m r = pW P m r := fun r hr => by
    unfold pW outS outI
    rw [ru_d _ _ (by omega), if_neg (by omega)]
  have eO : pO (outS P l k s) m = pO P m := by
    unfold pO outS outI
    rw [ru_d _ _ (by omega), if_neg (by omega)]
  have eK : pK (outS P l k s) m = if m = l then (s : Int) - 1 else pK P m := by
    unfold pK outS
    by_cases e : m = l
    · rw [if_pos e, e, ru_s]
    · rw [if_neg e, ru_d _ _ (by omega)]
      exact if_neg (by omega)
  have eC : ∀ i p : Nat, i < 6 → p < 4 → pC (outS P l k s) m i p = if m = l ∧ k ≤ i ∧ i < s - 1 then pC P m (i + 1) p else pC P m i p := fun i p hi hp => by
    unfold pC outS outI
    rw [ru_d _ _ (by omega)]
    by_cases e : m = l ∧ k ≤ i ∧ i < s - 1
    · rw [if_pos e, if_pos (by omega)]
      congr 1
      omega
    · rw [if_neg e, if_neg (by omega)]
  refine ⟨fun q hq => by rw [eW q hq]; exact d1 q hq, by rw [eO]; exact d2, ?_, fun i hi => ?_⟩
  · rw [eK]
    split
    · omega
    · exact d3
  · rw [eK] at hi
    by_cases e : m = l
    · rw [if_pos e] at hi
      have hi6 : i < 6 := by omega
      rw [eC i 0 hi6 (by decide), eC i 1 hi6 (by decide), eC i 2 hi6 (by decide), eC i 3 hi6 (by decide)]
      subst e
      by_cases g : k ≤ i
      · rw [if_pos ⟨rfl, g, by omega⟩, if_pos ⟨rfl, g, by omega⟩, if_pos ⟨rfl, g, by omega⟩, if_pos ⟨rfl, g, by omega⟩]
        exact d4 (i + 1) (by omega)
      · rw [if_neg (by omega), if_neg (by omega), if_neg (by omega), if_neg (by omega)]
        exact d4 i (by omega)
    · rw [if_neg e] at hi
      have hi6 : i < 6 := by omega
      rw [eC i 0 hi6 (by decide), eC i 1 hi6 (by decide), eC i 2 hi6 (by decide), eC i 3 hi6 (by decide), if_neg (by omega), if_neg (by omega), if_neg (by omega), if_neg (by omega)]
      exact d4 i hi
end Upd
