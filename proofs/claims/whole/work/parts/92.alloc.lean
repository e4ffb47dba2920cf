/-! THE CONSTRUCTORS: what is made -/
def wv : List (Nat × Nat × Int) → Nat → Nat → Int → Int
  | [], _, _, d => d
  | e :: r, a, j, d => if a = e.1 ∧ j = e.2.1 then e.2.2 else wv r a j d
theorem wv_none {d : Int} {a j : Nat} : ∀ (ws : List (Nat × Nat × Int)), (∀ e ∈ ws, e.1 ≠ a) → wv ws a j d = d
  | [], _ => rfl
  | e :: r, h => by
    show (if a = e.1 ∧ j = e.2.1 then e.2.2 else wv r a j d) = d
    rw [if_neg (fun q => h e List.mem_cons_self q.1.symm)]
    exact wv_none r (fun e he => h e (List.mem_cons_of_mem _ he))
/-- rows s were made behind those of g, ws were written -/
def AS (g : mH) (s : List (Nat × Nat)) (ws : List (Nat × Nat × Int)) (h : mH) : Prop := h.1 = g.1 ++ s ∧ (∀ a j, a < g.1.length + s.length → h.2 a j = wv ws a j (if a < g.1.length then g.2 a j else 0)) ∧ ∀ e ∈ ws, e.1 < g.1.length + s.length
def gw (R : Nat) : Nat → List (Nat × Nat × Int) → List (Nat × Nat × Int)
  | 0, ws => ws
  | n + 1, ws => (R, n, ((R + 1 + n : Nat) : Int)) :: gw R n ws
theorem gw_v {R a j : Nat} {d : Int} {ws : List (Nat × Nat × Int)} : ∀ n : Nat, wv (gw R n ws) a j d = if a = R ∧ j < n then ((R + 1 + j : Nat) : Int) else wv ws a j d
  | 0 => by rw [if_neg (by omega)]; rfl
  | n + 1 => by
    show (if a = R ∧ j = n then ((R + 1 + n : Nat) : Int) else wv (gw R n ws) a j d) = _
    by_cases q : a = R ∧ j = n
    · rw [if_pos q, if_pos (by omega), q.2]
    · rw [if_neg q, gw_v n]
      by_cases w : a = R ∧ j < n
      · rw [if_pos w, if_pos (by omega)]
      · rw [if_neg w, if_neg (by omega)]
theorem gw_m {R : Nat} {ws : List (Nat × Nat × Int)} {e : Nat × Nat × Int} : ∀ n : Nat, e ∈ gw R n ws → e.1 = R ∨ e ∈ ws
  | 0, h => Or.inr h
  | n + 1, h => by
    rcases List.mem_cons.mp h with q | q
    · rw [q]; exact Or.inl rfl
    · exact gw_m n q
section Al
variable {g h : mH} {s : List (Nat × Nat)} {ws : List (Nat × Nat × Int)} {a ci nf k kd n : Nat}
theorem AS_0 (g : mH) : AS g [] [] g := ⟨(List.append_nil _).symm, fun a j ha => by
  have ha' : a < g.1.length := ha
  show g.2 a j = if a < g.1.length then g.2 a j else 0
  rw [if_pos ha'], fun e he => absurd he List.not_mem_nil⟩
theorem AS_l (ha : AS g s ws h) : h.1.length = g.1.length + s.length := by rw [ha.1, List.length_append]
theorem AS_new (ha : AS g s ws h) (kd n : Nat) : AS g (s ++ [(kd, n)]) ws (mnew h kd n) := by
  have hl := AS_l ha
  obtain ⟨a1, a2, a3⟩ := ha
  refine ⟨by show h.1 ++ [(kd, n)] = _; rw [a1, List.append_assoc], fun b j hb => ?_, fun e he => by have := a3 e he; rw [List.length_append]; omega⟩
  show (if b = h.1.length then 0 else h.2 b j) = _
  rw [List.length_append] at hb
  have hb' : b < g.1.length + (s.length + 1) := hb
  by_cases q : b = h.1.length
  · rw [if_pos q, wv_none ws (fun e he => by have := a3 e he; omega), if_neg (by omega)]
  · rw [if_neg q]
    exact a2 b j (by omega)
theorem AS_lk {q : Nat × Nat} (hs : (g.1 ++ s)[a]? = some q) (t : List (Nat × Nat)) : (g.1 ++ (s ++ t))[a]? = some q := by
  rw [← List.append_assoc, List.getElem?_append_left (List.getElem?_eq_some_iff.mp hs).1]
  exact hs
theorem AS_put (ha : AS g s ws h) (hs : (g.1 ++ s)[a]? = some (ci, nf)) (hk : k < nf) (h6 : 6 ≤ a) (v : Int) : pfd ci k h a v = some (mw h a k v) ∧ AS g s ((a, k, v) :: ws) (mw h a k v) := by
  have la : a < g.1.length + s.length := by
    have := (List.getElem?_eq_some_iff.mp hs).1
    rw [List.length_append] at this
    exact this
  obtain ⟨a1, a2, a3⟩ := ha
  refine ⟨?_, a1, fun b j hb => ?_, fun e he => ?_⟩
  · unfold pfd
    rw [a1, hs]
    exact if_pos ⟨rfl, hk, h6⟩
  · show (if b = a ∧ j = k then v else h.2 b j) = if b = a ∧ j = k then v else wv ws b j _
    rw [a2 b j hb]
  · rcases List.mem_cons.mp he with q | q
    · rw [q]; exact la
    · exact a3 e q
theorem AS_np (ha : AS g s ws h) (hs : (g.1 ++ s)[a]? = some (ci, nf)) (hk : k < nf) (h6 : 6 ≤ a) : ∃ h', pfd ci k (mnew h kd n) a ((h.1.length : Nat) : Int) = some h' ∧ AS g (s ++ [(kd, n)]) ((a, k, ((g.1.length + s.length : Nat) : Int)) :: ws) h' := by
  obtain ⟨b1, b2⟩ := AS_put (AS_new ha kd n) (AS_lk hs [(kd, n)]) hk h6 ((g.1.length + s.length : Nat) : Int)
  rw [AS_l ha]
  exact ⟨_, b1, b2⟩
theorem a_pg (ha : AS g s ws h) (hs : (g.1 ++ s)[a]? = some (2, 1)) (h6 : 6 ≤ a) : ∃ h', F_Pg_init a h = some h' ∧ AS g (s ++ [(10, 154)]) ((a, 0, ((g.1.length + s.length : Nat) : Int)) :: ws) h' := by
  obtain ⟨h', b1, b2⟩ := AS_np (kd := 10) (n := (154 : Int).toNat) ha hs (k := 0) (by decide) h6
  refine ⟨h', ?_, b2⟩
  rw [q_Pg_init _ _ (by omega), b1, Option.bind_some]
theorem a_tx (ha : AS g s ws h) (hs : (g.1 ++ s)[a]? = some (4, 4)) (h6 : 6 ≤ a) (hN : 6 ≤ g.1.length) : ∃ h', F_Tx_init a h = some h' ∧ AS g (s ++ [(2, 1)] ++ [(10, 154)] ++ [(10, 200)]) ((a, 1, ((g.1.length + (s ++ [(2, 1)] ++ [(10, 154)]).length : Nat) : Int)) :: (a, 0, ((g.1.length + s.length : Nat) : Int)) :: (g.1.length + s.length, 0, ((g.1.length + (s ++ [(2, 1)]).length : Nat) : Int)) :: ws) h' := by
  have b0 := AS_new ha 2 1
  have hl : (g.1 ++ (s ++ [(2, 1)]))[g.1.length + s.length]? = some (2, 1) := by
    rw [← List.append_assoc, ← List.length_append, List.getElem?_concat_length]
  obtain ⟨h1, c1, c2⟩ := a_pg b0 hl (by omega)
  obtain ⟨d1, d2⟩ := AS_put c2 (AS_lk (AS_lk hs _) _) (k := 0) (by decide) h6 ((g.1.length + s.length : Nat) : Int)
  obtain ⟨h2, e1, e2⟩ := AS_np (kd := 10) (n := (200 : Int).toNat) d2 (AS_lk (AS_lk hs _) _) (k := 1) (by decide) h6
  refine ⟨h2, ?_, e2⟩
  rw [q_Tx_init _ _ (by omega), AS_l ha]
  show (F_Pg_init (g.1.length + s.length) (mnew h 2 1)).bind _ = _
  rw [c1, Option.bind_some, d1, Option.bind_some, e1, Option.bind_some]
theorem AS_grd (ha : AS g s ws h) (n k : Nat) : AS g (s ++ (13, n) :: List.replicate n (10, k)) (gw (g.1.length + s.length) n ws) (mgrd h n k) := by
  have hl := AS_l ha
  obtain ⟨a1, a2, a3⟩ := ha
  refine ⟨by show h.1 ++ (13, n) :: List.replicate n (10, k) = _; rw [a1, List.append_assoc], fun b j hb => ?_, fun e he => ?_⟩
  · show (if b = h.1.length then (if j < n then ((h.1.length + 1 + j : Nat) : Int) else 0) else if h.1.length < b then 0 else h.2 b j) = _
    rw [gw_v, hl]
    by_cases q : b = g.1.length + s.length
    · rw [if_pos q]
      by_cases w : j < n
      · rw [if_pos w, if_pos ⟨q, w⟩]
      · rw [if_neg w, if_neg (fun z => w z.2), wv_none ws (fun e he => by have := a3 e he; omega), if_neg (by omega)]
    · rw [if_neg q, if_neg (c := b = g.1.length + s.length ∧ j < n) (fun z => q z.1)]
      by_cases w : g.1.length + s.length < b
      · rw [if_pos w, wv_none ws (fun e he => by have := a3 e he; omega), if_neg (by omega)]
      · rw [if_neg w]
        exact a2 b j (by omega)
  · rw [List.length_append, List.length_cons]
    rcases gw_m n he with q | q
    · omega
    · have := a3 e q; omega
end Al
