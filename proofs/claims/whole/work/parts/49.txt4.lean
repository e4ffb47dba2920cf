/-! THE TEXT: an instruction, all items -/
noncomputable def insI (T : Nat → Int) (n i : Nat) (Q : Nat → Int) : Option (Nat × (Nat → Int)) :=
  iteP ((1 ≤ pL Q ∧ pK Q (pL Q - 1).toNat < 6) ∧ pk T n (nmS T n i).2 = 44 ∧ pk T n (nmS T n ((nmS T n i).2 + 1)).2 = 44 ∧ pk T n (nmS T n ((nmS T n ((nmS T n i).2 + 1)).2 + 1)).2 = 44 ∧ pk T n (nmS T n ((nmS T n ((nmS T n ((nmS T n i).2 + 1)).2 + 1)).2 + 1)).2 = 59 ∧
      mayS (pS Q) 4 (nmS T n i).1 (nmS T n ((nmS T n i).2 + 1)).1 (nmS T n ((nmS T n ((nmS T n i).2 + 1)).2 + 1)).1 (nmS T n ((nmS T n ((nmS T n ((nmS T n i).2 + 1)).2 + 1)).2 + 1)).1)
    (some ((nmS T n ((nmS T n ((nmS T n ((nmS T n i).2 + 1)).2 + 1)).2 + 1)).2 + 1, insS (ru Q (27 + 34 * (pL Q - 1).toNat) (pK Q (pL Q - 1).toNat + 1)) (pL Q - 1).toNat (pK Q (pL Q - 1).toNat).toNat (nmS T n i).1 (nmS T n ((nmS T n i).2 + 1)).1 (nmS T n ((nmS T n ((nmS T n i).2 + 1)).2 + 1)).1 (nmS T n ((nmS T n ((nmS T n ((nmS T n i).2 + 1)).2 + 1)).2 + 1)).1)) none
section Tx
variable {L n i : Nat} {T Q : Nat → Int} {h : mH}
theorem c_in115f (x1 x2 x3 x4 x5 x6 : Int) (h : mH) : B_Tx_readInstruction_115 7 x1 x2 x3 x4 x5 x6 0 h = some (0, h) := by rw [q_Tx_readInstruction_115, if_pos rfl]
theorem c_in90f (ht : TI L n T i Q h) (x1 x2 x3 x4 x5 : Int) : ∃ h', B_Tx_readInstruction_90 7 x1 x2 x3 x4 x5 0 h = some (0, h') ∧ TX h h' := by
  obtain ⟨h1, a1, a2, a3⟩ := c_readNumber ht
  refine ⟨h1, ?_, a3⟩
  rw [q_Tx_readInstruction_90, a1, Option.bind_some]
  dsimp only
  rw [if_pos rfl, q_Tx_readInstruction_114, c_in115f]
theorem c_in65f (ht : TI L n T i Q h) (x1 x2 x3 x4 : Int) : ∃ h', B_Tx_readInstruction_65 7 x1 x2 x3 x4 0 h = some (0, h') ∧ TX h h' := by
  obtain ⟨h1, a1, a2, a3⟩ := c_readNumber ht
  obtain ⟨h2, b1, b2⟩ := c_in90f a2 x1 x2 0 x4 (nmS T n i).1
  refine ⟨h2, ?_, TX_tr a3 b2⟩
  rw [q_Tx_readInstruction_65, a1, Option.bind_some]
  dsimp only
  rw [if_pos rfl, q_Tx_readInstruction_89, b1]
theorem c_in115 (ht : TI L n T i Q h) {l k : Nat} (h4 : l < 4) (hk : pK Q l = (k : Int)) (hk6 : k < 6) (x3 c x y z : Int) : ∃ h', TX h h' ∧ ((¬ mayS (pS Q) 4 c x y z ∧ B_Tx_readInstruction_115 7 (l : Int) c x3 x y z 1 h = some (0, h')) ∨ (mayS (pS Q) 4 c x y z ∧ B_Tx_readInstruction_115 7 (l : Int) c x3 x y z 1 h = some (1, h') ∧ TI L n T i (insS (ru Q (27 + 34 * l) ((k : Int) + 1)) l k c x y z) h')) := by
  have hQ : h.2 (8 + 1) = Q := ht.2.2.2.1
  rw [q_Tx_readInstruction_115, if_neg (by decide), p_7_0 ht.1, Option.bind_some, t8, c_sorts (TI_pg ht), Option.bind_some, hQ]
  dsimp only
  rw [c_mayBeTold ht.1, Option.bind_some]
  dsimp only
  by_cases q : mayS (pS Q) 4 c x y z
  · have er : roomS Q l k k = ru Q (27 + 34 * l) ((k : Int) + 1) := by unfold roomS; rw [roomI_n]
    have z1 : Zr (ru Q (27 + 34 * l) ((k : Int) + 1)) := Zr_ru ht.2.2.2.2 _ (by omega)
    have r1 := TI_row ht z1
    have z2 : Zr (insS (ru Q (27 + 34 * l) ((k : Int) + 1)) l k c x y z) := Zr_ins z1 h4 hk6 _ _ _ _
    have r2 := TI_row r1 z2
    refine ⟨_, TX_tr (TX_row h z1) (TX_row _ z2), Or.inr ⟨q, ?_, r2⟩⟩
    rw [b2i_t (p := mayS (pS Q) 4 c x y z) q, if_pos (by decide), p_7_0 ht.1, Option.bind_some, t8, c_size (TI_pg ht) h4, Option.bind_some, hQ, hk]
    dsimp only
    rw [p_7_0 ht.1, Option.bind_some, t8, c_makeRoom (TI_pg ht) h4 hk6 (Nat.le_refl k) (by rw [hQ]; exact hk), Option.bind_some, hQ, er, p_7_0 r1.1, Option.bind_some, t8, c_setIns (TI_pg r1) h4 hk6, Option.bind_some, mrow_s]
  · rw [b2i_f (p := mayS (pS Q) 4 c x y z) q, if_neg (by decide)]
    exact ⟨h, TX_rf h, Or.inl ⟨q, rfl⟩⟩
theorem c_readIns (ht : TI L n T i Q h) (h0 : 0 ≤ pL Q) (h1 : pL Q ≤ 4) (hK : ∀ l : Nat, (l : Int) < pL Q → 0 ≤ pK Q l) : Itm L n T h (insI T n i Q) (F_Tx_readInstruction 7 h) := by
  have hQ : h.2 (8 + 1) = Q := ht.2.2.2.1
  have e0 : w32 (pL Q - 1) = pL Q - 1 := w32_id (by omega) (by omega)
  unfold insI
  rw [q_Tx_readInstruction _ _ (o_7 ht.1), p_7_0 ht.1, Option.bind_some, t8, c_labels (TI_pg ht), Option.bind_some, hQ]
  dsimp only
  rw [show w32 (Q 1 - 1) = pL Q - 1 from e0]
  clear e0
  by_cases q : pL Q - 1 < 0
  · rw [if_pos q, iteP_f (fun z => by omega)]
    exact ⟨h, TX_rf h, Or.inl ⟨rfl, rfl⟩⟩
  · rw [if_neg q]
    obtain ⟨l, hl⟩ := n_of (show 0 ≤ pL Q - 1 by omega)
    have h4 : l < 4 := by omega
    obtain ⟨k, hk⟩ := n_of (hK l (by omega))
    rw [hl, tn, p_7_0 ht.1, Option.bind_some, t8, c_size (TI_pg ht) h4, Option.bind_some, hQ, hk]
    dsimp only
    by_cases p : (k : Int) < 6
    · have hk6 : k < 6 := by omega
      have hpre : 1 ≤ pL Q ∧ (k : Int) < 6 := ⟨by omega, p⟩
      rw [if_pos p, tn]
      obtain ⟨g1, a1, a2, a3⟩ := c_readNumber ht
      rw [a1, Option.bind_some]
      dsimp only
      obtain ⟨g2, b1, b2, b3⟩ := c_tpasses a2 (c := 44) (by decide)
      rw [b1, Option.bind_some]
      dsimp only
      refine Itm_tr a3 (Itm_tr b3 ?_)
      by_cases q1 : pk T n (nmS T n i).2 = 44
      · rw [iteP_t q1] at b2
        obtain ⟨g3, c1, c2, c3⟩ := c_readNumber b2
        rw [c1, Option.bind_some, b2i_t q1]
        dsimp only
        rw [if_neg (by decide)]
        obtain ⟨g4, d1, d2, d3⟩ := c_tpasses c2 (c := 44) (by decide)
        rw [d1, Option.bind_some]
        dsimp only
        refine Itm_tr c3 (Itm_tr d3 ?_)
        by_cases q2 : pk T n (nmS T n ((nmS T n i).2 + 1)).2 = 44
        · rw [iteP_t q2] at d2
          rw [b2i_t q2, if_neg (by decide), q_Tx_readInstruction_65]
          obtain ⟨g5, e1, e2, e3⟩ := c_readNumber d2
          rw [e1, Option.bind_some]
          dsimp only
          rw [if_neg (by decide)]
          obtain ⟨g6, f1, f2, f3⟩ := c_tpasses e2 (c := 44) (by decide)
          rw [f1, Option.bind_some]
          dsimp only
          refine Itm_tr e3 (Itm_tr f3 ?_)
          by_cases q3 : pk T n (nmS T n ((nmS T n ((nmS T n i).2 + 1)).2 + 1)).2 = 44
          · rw [iteP_t q3] at f2
            rw [b2i_t q3, if_neg (by decide), q_Tx_readInstruction_90]
            obtain ⟨g7, u1, u2, u3⟩ := c_readNumber f2
            rw [u1, Option.bind_some]
            dsimp only
            rw [if_neg (by decide)]
            obtain ⟨g8, v1, v2, v3⟩ := c_tpasses u2 (c := 59) (by decide)
            rw [v1, Option.bind_some]
            dsimp only
            refine Itm_tr u3 (Itm_tr v3 ?_)
            by_cases q4 : pk T n (nmS T n ((nmS T n ((nmS T n ((nmS T n i).2 + 1)).2 + 1)).2 + 1)).2 = 59
            · rw [iteP_t q4] at v2
              rw [b2i_t q4, if_neg (by decide)]
              obtain ⟨g9, w1, w2⟩ := c_in115 v2 h4 hk hk6 1 (nmS T n i).1 (nmS T n ((nmS T n i).2 + 1)).1 (nmS T n ((nmS T n ((nmS T n i).2 + 1)).2 + 1)).1 (nmS T n ((nmS T n ((nmS T n ((nmS T n i).2 + 1)).2 + 1)).2 + 1)).1
              rcases w2 with ⟨w2, w3⟩ | ⟨w2, w3, w4⟩
              · rw [iteP_f (fun z => w2 z.2.2.2.2.2)]
                exact ⟨g9, w1, Or.inl ⟨rfl, w3⟩⟩
              · rw [iteP_t ⟨hpre, q1, q2, q3, q4, w2⟩]
                exact ⟨g9, w1, Or.inr ⟨_, _, rfl, w3, w4⟩⟩
            · rw [b2i_f q4, if_pos rfl, iteP_f (fun z => q4 z.2.2.2.2.1), q_Tx_readInstruction_114, c_in115f]
              exact ⟨g8, TX_rf _, Or.inl ⟨rfl, rfl⟩⟩
          · rw [iteP_f q3] at f2
            rw [b2i_f q3, if_pos rfl, iteP_f (fun z => q3 z.2.2.2.1), q_Tx_readInstruction_89]
            obtain ⟨g9, w1, w2⟩ := c_in90f f2 (l : Int) (nmS T n i).1 1 (nmS T n ((nmS T n i).2 + 1)).1 (nmS T n ((nmS T n ((nmS T n i).2 + 1)).2 + 1)).1
            exact ⟨g9, w2, Or.inl ⟨rfl, w1⟩⟩
        · rw [iteP_f q2] at d2
          rw [b2i_f q2, if_pos rfl, iteP_f (fun z => q2 z.2.2.1), q_Tx_readInstruction_64]
          obtain ⟨g9, w1, w2⟩ := c_in65f d2 (l : Int) (nmS T n i).1 1 (nmS T n ((nmS T n i).2 + 1)).1
          exact ⟨g9, w2, Or.inl ⟨rfl, w1⟩⟩
      · rw [iteP_f q1] at b2
        obtain ⟨g3, c1, c2, c3⟩ := c_readNumber b2
        rw [c1, Option.bind_some, b2i_f q1]
        dsimp only
        rw [if_pos rfl, iteP_f (fun z => q1 z.2.1), q_Tx_readInstruction_64]
        obtain ⟨g9, w1, w2⟩ := c_in65f c2 (l : Int) (nmS T n i).1 0 (nmS T n (nmS T n i).2).1
        exact ⟨g9, TX_tr c3 w2, Or.inl ⟨rfl, w1⟩⟩
    · rw [if_neg p, iteP_f (fun z => p z.1.2)]
      exact ⟨h, TX_rf h, Or.inl ⟨rfl, rfl⟩⟩
/-- an item -/
noncomputable def itemS (T : Nat → Int) (n i : Nat) (Q : Nat → Int) : Option (Nat × (Nat → Int)) :=
  if pk T n i = 105 then insI T n (i + 1) Q else if pk T n i = 108 then labI T n (i + 1) Q else if pk T n i = 115 then sortI T n (i + 1) Q else none
/-- as much of a program as can be told -/
def PV0 (Q : Nat → Int) : Prop := (0 ≤ pS Q ∧ pS Q ≤ 4) ∧ (0 ≤ pL Q ∧ pL Q ≤ 4) ∧ (pS Q < 4 → pFn Q (pS Q).toNat = 0) ∧ (pL Q < 4 → pH Q (pL Q).toNat = 0) ∧ ∀ l : Nat, (l : Int) < pL Q → 0 ≤ pK Q l
theorem rz_01 {v : Int} (hv : v = 0 ∨ v = 1) (h : mH) : rz v h = some (v, h) := if_pos hv
theorem c_readItem (ht : TI L n T i Q h) (hi : i < n) (hp : PV0 Q) : Itm L n T h (itemS T n i Q) (F_Tx_readItem 7 h) := by
  obtain ⟨p1, p2, p3, p4, p5⟩ := hp
  have hi9 : i < 1000 := by have := ht.2.1.2.1; omega
  obtain ⟨a1, a2⟩ := c_next ht hi9
  have r1 := TI_at ht (i + 1)
  unfold itemS
  rw [q_Tx_readItem _ _ (o_7 ht.1), c_peek ht, Option.bind_some]
  dsimp only
  rw [a1, Option.bind_some, a2, Option.bind_some]
  refine Itm_tr (TX_at h ((i + 1 : Nat) : Int)) ?_
  have fin : ∀ {r x}, Itm L n T (mw h 7 3 ((i + 1 : Nat) : Int)) r x → Itm L n T (mw h 7 3 ((i + 1 : Nat) : Int)) r (x.bind fun q => rz q.1 q.2) := by
    intro r x hx
    obtain ⟨h', b1, b2⟩ := hx
    refine ⟨h', b1, ?_⟩
    rcases b2 with ⟨b2, b3⟩ | ⟨j, R, b2, b3, b4⟩
    · exact Or.inl ⟨b2, by rw [b3, Option.bind_some]; exact rz_01 (Or.inl rfl) h'⟩
    · exact Or.inr ⟨j, R, b2, by rw [b3, Option.bind_some]; exact rz_01 (Or.inr rfl) h', b4⟩
  by_cases q1 : pk T n i = 105
  · rw [if_pos q1, if_pos q1]
    exact fin (c_readIns r1 p2.1 p2.2 p5)
  · rw [if_neg q1, if_neg q1]
    by_cases q2 : pk T n i = 108
    · rw [if_pos q2, if_pos q2]
      exact fin (c_readLabel r1 p2.1 p2.2 p4)
    · rw [if_neg q2, if_neg q2]
      by_cases q3 : pk T n i = 115
      · rw [if_pos q3, if_pos q3]
        exact fin (c_readSort r1 p1.1 p1.2 p3)
      · rw [if_neg q3, if_neg q3]
        exact ⟨_, TX_rf _, Or.inl ⟨rfl, rfl⟩⟩
end Tx
