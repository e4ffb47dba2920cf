/-! lay -/
def cbS (x : Int) : Int := if x < 6 then 0 else if 10 ≤ x then 0 else ishl 1 (x - 6)
def wcR (P : Nat → Int) (l : Nat) : Nat → Int
  | 0 => 0
  | r + 1 => ior (wcR P l r) (cbS (pW P l r))
def wcK (P : Nat → Int) (l : Nat) : Nat → Int
  | 0 => wcR P l 4
  | i + 1 => ior (wcK P l i) (cbS (pT P l i))
def mnS (P : Nat → Int) : Nat → Int
  | 0 => 0
  | l + 1 => ior (mnS P l) (ior (tgS P l (pK P l).toNat) (wcK P l (pH P l).toNat))
theorem B16_0 : B16 0 := by unfold B16; decide
theorem cbS_b (x : Int) : B16 (cbS x) := by
  unfold cbS
  split
  · exact B16_0
  · split
    · exact B16_0
    · exact sh4 (by omega) (by omega)
theorem wcR_b (P : Nat → Int) (l : Nat) : ∀ r, B16 (wcR P l r)
  | 0 => B16_0
  | r + 1 => io16 (wcR_b P l r) (cbS_b _)
theorem wcK_b (P : Nat → Int) (l : Nat) : ∀ i, B16 (wcK P l i)
  | 0 => wcR_b P l 4
  | i + 1 => io16 (wcK_b P l i) (cbS_b _)
theorem hb_cb {x : Int} {b : Nat} (hb : b < 4) : hasB (cbS x) b ↔ x = 6 + (b : Int) := by
  unfold cbS
  split
  · exact ⟨fun z => absurd z (hb_0 hb), fun z => by omega⟩
  · split
    · exact ⟨fun z => absurd z (hb_0 hb), fun z => by omega⟩
    · obtain ⟨m, hm⟩ := n_of (show 0 ≤ x - 6 by omega)
      rw [hm]
      exact (hb_sh (by omega) hb).trans ⟨fun z => by omega, fun z => by omega⟩
theorem hb_wcR {P : Nat → Int} {l b : Nat} (hb : b < 4) : ∀ r, hasB (wcR P l r) b ↔ ∃ q, q < r ∧ pW P l q = 6 + (b : Int)
  | 0 => ⟨fun z => absurd z (hb_0 hb), fun ⟨q, z, _⟩ => by omega⟩
  | r + 1 => by
    refine (hb_or (wcR_b P l r) (cbS_b _) hb).trans ?_
    rw [hb_wcR hb r, hb_cb hb]
    constructor
    · rintro (⟨q, z1, z2⟩ | z)
      · exact ⟨q, by omega, z2⟩
      · exact ⟨r, by omega, z⟩
    · rintro ⟨q, z1, z2⟩
      by_cases w : q = r
      · exact Or.inr (w ▸ z2)
      · exact Or.inl ⟨q, by omega, z2⟩
theorem hb_wcK {P : Nat → Int} {l b : Nat} (hb : b < 4) : ∀ i, hasB (wcK P l i) b ↔ (∃ q, q < 4 ∧ pW P l q = 6 + (b : Int)) ∨ ∃ q, q < i ∧ pT P l q = 6 + (b : Int)
  | 0 => (hb_wcR hb 4).trans ⟨fun z => Or.inl z, fun z => z.elim id (fun ⟨q, z, _⟩ => by omega)⟩
  | i + 1 => by
    refine (hb_or (wcK_b P l i) (cbS_b _) hb).trans ?_
    rw [hb_wcK hb i, hb_cb hb]
    constructor
    · rintro ((z | ⟨q, z1, z2⟩) | z)
      · exact Or.inl z
      · exact Or.inr ⟨q, by omega, z2⟩
      · exact Or.inr ⟨i, by omega, z⟩
    · rintro (z | ⟨q, z1, z2⟩)
      · exact Or.inl (Or.inl z)
      · by_cases w : q = i
        · exact Or.inr (w ▸ z2)
        · exact Or.inl (Or.inr ⟨q, by omega, z2⟩)
theorem hb_tg {P : Nat → Int} {l b : Nat} (hb : b < 4) : ∀ k, (∀ i, i < k → tok P l i) → (hasB (tgS P l k) b ↔ ∃ i, i < k ∧ hasB (lin (pC P l i 0) (pC P l i 1) (pC P l i 2)) b)
  | 0, _ => ⟨fun z => absurd z (hb_0 hb), fun ⟨q, z, _⟩ => by omega⟩
  | k + 1, h => by
    refine (hb_or (tgS_b k (fun i hi => h i (by omega))) (lin_b (h k (by omega))) hb).trans ?_
    rw [hb_tg hb k (fun i hi => h i (by omega))]
    constructor
    · rintro (⟨q, z1, z2⟩ | z)
      · exact ⟨q, by omega, z2⟩
      · exact ⟨k, by omega, z⟩
    · rintro ⟨q, z1, z2⟩
      by_cases w : q = k
      · exact Or.inr (w ▸ z2)
      · exact Or.inl ⟨q, by omega, z2⟩
/-- label l means label b -/
def mean (P : Nat → Int) (l b : Nat) : Prop := (∃ i : Nat, (i : Int) < pK P l ∧ hasB (lin (pC P l i 0) (pC P l i 1) (pC P l i 2)) b) ∨ (∃ q, q < 4 ∧ pW P l q = 6 + (b : Int)) ∨ ∃ q : Nat, (q : Int) < pH P l ∧ pT P l q = 6 + (b : Int)
def clS (P : Nat → Int) : Prop := 0 < pL P ∧ ∀ l b : Nat, (l : Int) < pL P → b < 4 → mean P l b → (b : Int) < pL P
theorem PV_tok {P : Nat → Int} (hp : PV P) {l k : Nat} (hl : (l : Int) < pL P) (hk : (k : Int) < pK P l) : tok P l k := tok_of (Int.le_refl 4) ((hp.2.2.2.2.2 l hl).2.2.2.2.2 k hk)
theorem mnS_b {P : Nat → Int} (hp : PV P) : ∀ l : Nat, (l : Int) ≤ pL P → B16 (mnS P l) ∧ ∀ b : Nat, b < 4 → (hasB (mnS P l) b ↔ ∃ m, m < l ∧ mean P m b)
  | 0, _ => ⟨B16_0, fun b hb => ⟨fun z => absurd z (hb_0 hb), fun ⟨q, z, _⟩ => by omega⟩⟩
  | l + 1, hl => by
    obtain ⟨i1, i2⟩ := mnS_b hp l (by omega)
    have hl' : (l : Int) < pL P := by omega
    have hk := (hp.2.2.2.2.2 l hl').2.2.2.2.1
    have hH := (hp.2.2.2.2.2 l hl').2.1
    have ht : ∀ i, i < (pK P l).toNat → tok P l i := fun i hi => PV_tok hp hl' (by omega)
    have bt := tgS_b (pK P l).toNat ht
    refine ⟨io16 i1 (io16 bt (wcK_b P l _)), fun b hb => ?_⟩
    refine (hb_or i1 (io16 bt (wcK_b P l _)) hb).trans ?_
    rw [i2 b hb, hb_or bt (wcK_b P l _) hb, hb_tg hb _ ht, hb_wcK hb]
    have hm : ((∃ i, i < (pK P l).toNat ∧ hasB (lin (pC P l i 0) (pC P l i 1) (pC P l i 2)) b) ∨ (∃ q, q < 4 ∧ pW P l q = 6 + (b : Int)) ∨ ∃ q, q < (pH P l).toNat ∧ pT P l q = 6 + (b : Int)) ↔ mean P l b := by
      unfold mean
      constructor
      · rintro (⟨i, z1, z2⟩ | z | ⟨q, z1, z2⟩)
        · exact Or.inl ⟨i, by omega, z2⟩
        · exact Or.inr (Or.inl z)
        · exact Or.inr (Or.inr ⟨q, by omega, z2⟩)
      · rintro (⟨i, z1, z2⟩ | z | ⟨q, z1, z2⟩)
        · exact Or.inl ⟨i, by omega, z2⟩
        · exact Or.inr (Or.inl z)
        · exact Or.inr (Or.inr ⟨q, by omega, z2⟩)
    rw [hm]
    constructor
    · rintro (⟨q, z1, z2⟩ | z)
      · exact ⟨q, by omega, z2⟩
      · exact ⟨l, by omega, z⟩
    · rintro ⟨q, z1, z2⟩
      by_cases w : q = l
      · exact Or.inr (w ▸ z2)
      · exact Or.inl ⟨q, by omega, z2⟩
/-- what is told and closed is a program -/
theorem Val_cl {P : Nat → Int} (hp : PV P) (hc : clS P) : Val P := by
  obtain ⟨p1, p2, p3, p4, p5, p6⟩ := hp
  obtain ⟨c1, c2⟩ := hc
  have ty : ∀ v : Int, tld P v → (∀ b : Nat, b < 4 → v = 6 + (b : Int) → (b : Int) < pL P) → tyOk P v := fun v hv hb => by
    unfold tld at hv
    unfold tyOk
    by_cases q : 6 ≤ v
    · have := hb (v - 6).toNat (by omega) (by omega)
      omega
    · omega
  refine ⟨p1, ⟨by omega, p2.2⟩, fun l hl => ?_, p4, fun l hl => ?_⟩
  · by_cases q : (l : Int) < pL P
    · exact (p6 l q).2.1
    · rw [(p5 l (by omega) hl).1]; omega
  · obtain ⟨b1, b2, b3, b4, b5, b6⟩ := p6 l hl
    refine ⟨fun r hr => ty _ (b1 r hr) (fun b hb hv => c2 l b hl hb (Or.inr (Or.inl ⟨r, hr, hv⟩))), b2, fun i hi => ty _ (b3 i hi) (fun b hb hv => c2 l b hl hb (Or.inr (Or.inr ⟨i, hi, hv⟩))), b4, b5, fun k hk => ?_⟩
    have hm := b6 k hk
    have tk := tok_of (P := P) (l := l) (k := k) (Int.le_refl 4) hm
    have hb : ∀ b : Nat, b < 4 → hasB (lin (pC P l k 0) (pC P l k 1) (pC P l k 2)) b → (b : Int) < pL P := fun b hb hh => c2 l b hl hb (Or.inl ⟨k, hk, hh⟩)
    obtain ⟨t1, t2, t3⟩ := tk
    have hx : pC P l k 0 = 9 ∨ pC P l k 0 = 11 → pC P l k 1 < pL P := fun e => by
      have h4 := t2 e
      obtain ⟨m, hm⟩ := n_of h4.1
      rw [hm]
      refine hb m (by omega) ?_
      unfold lin
      rcases e with e | e
      · rw [if_pos e, hm]; exact (hb_sh (by omega) (by omega)).mpr rfl
      · have h5 := t3 (by omega)
        rw [if_neg (by omega), if_neg (by omega), if_pos e, hm]
        exact (hb_or (sh4 (by omega) (by omega)) (sh4 h5.1 h5.2) (by omega)).mpr (Or.inl ((hb_sh (by omega) (by omega)).mpr rfl))
    have hy : pC P l k 0 = 8 ∨ pC P l k 0 = 10 ∨ pC P l k 0 = 11 → pC P l k 2 < pL P := fun e => by
      have h4 := t3 e
      obtain ⟨m, hm⟩ := n_of h4.1
      rw [hm]
      refine hb m (by omega) ?_
      unfold lin
      by_cases e11 : pC P l k 0 = 11
      · have h5 := t2 (by omega)
        rw [if_neg (by omega), if_neg (by omega), if_pos e11, hm]
        exact (hb_or (sh4 h5.1 h5.2) (sh4 (by omega) (by omega)) (by omega)).mpr (Or.inr ((hb_sh (by omega) (by omega)).mpr rfl))
      · rw [if_neg (by omega), if_pos (by omega), hm]
        exact (hb_sh (by omega) (by omega)).mpr rfl
    obtain ⟨m1, m2, m3, m4⟩ := hm
    obtain ⟨c, hc⟩ := n_of m1.1
    rw [hc] at m1 m2 m3 m4 hx hy ⊢
    have hc14 : c < 14 := by omega
    have cases14 : c = 0 ∨ c = 1 ∨ c = 2 ∨ c = 3 ∨ c = 4 ∨ c = 5 ∨ c = 6 ∨ c = 7 ∨ c = 8 ∨ c = 9 ∨ c = 10 ∨ c = 11 ∨ c = 12 ∨ c = 13 := by omega
    rcases cases14 with e | e | e | e | e | e | e | e | e | e | e | e | e | e <;> subst e <;> simp [mayS, chs, oprL] at m2 m3 m4 hx hy ⊢ <;> omega
