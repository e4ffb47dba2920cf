/-! the memory behind both constructors: its shape, its pointers (by program) -/
def shp (L : Nat) : List (Nat × Nat) := [(99, 0), (10, L), (10, 42), (10, 5), (20, 0), (11, 129), (5, 7), (4, 4), (2, 1), (10, 154), (10, 200), (2, 1), (10, 154), (2, 1), (10, 154), (0, 10), (2, 1), (10, 154), (10, 4), (10, 6), (10, 4), (12, 16), (1, 11), (2, 1), (10, 154), (10, 4), (10, 16), (10, 12), (10, 36), (3, 3), (13, 8), (10, 154), (10, 154), (10, 154), (10, 154), (10, 154), (10, 154), (10, 154), (10, 154), (3, 3), (13, 2), (10, 154), (10, 154)]
def shm (L : Nat) : List (Nat × Nat) := [(99, 0), (10, L), (10, 42), (10, 5), (20, 0), (11, 129), (5, 7), (4, 4), (2, 1), (10, 154), (10, 200), (2, 1), (10, 154), (2, 1), (10, 154), (0, 10), (2, 1), (10, 154), (10, 4), (10, 6), (10, 4), (12, 16), (1, 11), (2, 1), (10, 154), (10, 4), (10, 16), (10, 12), (10, 36), (3, 3), (13, 8), (10, 154), (10, 154), (10, 154), (10, 154), (10, 154), (10, 154), (10, 154), (10, 154), (3, 3), (13, 2), (10, 154), (10, 154), (6, 37), (10, 4), (10, 12), (10, 4), (10, 12), (10, 4), (10, 12), (10, 4), (10, 12), (10, 120), (10, 1440), (11, 200), (10, 4), (10, 8), (10, 4), (10, 48), (10, 12), (10, 16)]
def ptr (a j : Nat) : Option Int := match a with
  | 2 => lkp [(0, 1), (1, 1), (2, 0), (3, 1), (4, 2), (5, 0), (6, 1), (7, 1), (8, 0), (9, 1), (10, 3), (11, 0), (12, 1), (13, 4), (14, 1), (15, 1), (16, 1), (17, 4), (18, 1), (19, 0), (20, 0), (21, 1), (22, 0), (23, 0), (24, 1), (25, 5), (26, 0), (27, 5), (28, 0), (29, 0), (30, 1), (31, 5), (32, 0), (33, 5), (34, 5), (35, 0), (36, 1), (37, 0), (38, 0), (39, 0), (40, 0), (41, 0)] j
  | 3 => lkp [(0, 0), (1, 1), (2, 2), (3, 6), (4, 7)] j
  | 6 => lkp [(0, 7), (1, 11), (2, 13), (3, 15), (4, 22), (5, 29), (6, 39)] j
  | 7 => lkp [(0, 8), (1, 10)] j
  | 8 => lkp [(0, 9)] j
  | 11 => lkp [(0, 12)] j
  | 13 => lkp [(0, 14)] j
  | 15 => lkp [(1, 18), (2, 19), (3, 20), (4, 21)] j
  | 16 => lkp [(0, 17)] j
  | 22 => lkp [(1, 25), (2, 26), (3, 27), (4, 28)] j
  | 23 => lkp [(0, 24)] j
  | 29 => lkp [(0, 30)] j
  | 30 => lkp [(0, 31), (1, 32), (2, 33), (3, 34), (4, 35), (5, 36), (6, 37), (7, 38)] j
  | 39 => lkp [(0, 40)] j
  | 40 => lkp [(0, 41), (1, 42)] j
  | _ => none
def ptm (a j : Nat) : Option Int := match a with
  | 2 => lkp [(0, 1), (1, 1), (2, 0), (3, 1), (4, 2), (5, 0), (6, 1), (7, 1), (8, 0), (9, 1), (10, 3), (11, 0), (12, 1), (13, 4), (14, 1), (15, 1), (16, 1), (17, 4), (18, 1), (19, 0), (20, 0), (21, 1), (22, 0), (23, 0), (24, 1), (25, 5), (26, 0), (27, 5), (28, 0), (29, 0), (30, 1), (31, 5), (32, 0), (33, 5), (34, 5), (35, 0), (36, 1), (37, 0), (38, 0), (39, 0), (40, 0), (41, 0)] j
  | 3 => lkp [(0, 0), (1, 1), (2, 2), (3, 6), (4, 7)] j
  | 6 => lkp [(0, 7), (1, 11), (2, 13), (3, 15), (4, 22), (5, 29), (6, 39)] j
  | 7 => lkp [(0, 8), (1, 10)] j
  | 8 => lkp [(0, 9)] j
  | 11 => lkp [(0, 12)] j
  | 13 => lkp [(0, 14)] j
  | 15 => lkp [(1, 18), (2, 19), (3, 20), (4, 21)] j
  | 16 => lkp [(0, 17)] j
  | 22 => lkp [(1, 25), (2, 26), (3, 27), (4, 28)] j
  | 23 => lkp [(0, 24)] j
  | 29 => lkp [(0, 30)] j
  | 30 => lkp [(0, 31), (1, 32), (2, 33), (3, 34), (4, 35), (5, 36), (6, 37), (7, 38)] j
  | 39 => lkp [(0, 40)] j
  | 40 => lkp [(0, 41), (1, 42)] j
  | 43 => lkp [(1, 44), (2, 45), (4, 46), (5, 47), (7, 48), (8, 49), (10, 50), (11, 51), (12, 52), (14, 53), (18, 54), (22, 55), (23, 56), (28, 57), (29, 58), (30, 59), (31, 60)] j
  | _ => none
/-- the class's rows are there -/
def Ly (L : Nat) (h : mH) : Prop := (∃ s, h.1 = shp L ++ s) ∧ ∀ a j v, ptr a j = some v → h.2 a j = v
/-- the class's rows and the model's are there -/
def LyM (L : Nat) (h : mH) : Prop := h.1 = shm L ∧ ∀ a j v, ptm a j = some v → h.2 a j = v
theorem Ly_mw {L : Nat} {h : mH} {a j : Nat} {v : Int} (hL : Ly L h) (hp : ptr a j = none) : Ly L (mw h a j v) := by
  refine ⟨hL.1, fun b k w e => ?_⟩
  by_cases q : b = a ∧ k = j
  · rw [q.1, q.2, hp] at e; cases e
  · show (if b = a ∧ k = j then v else h.2 b k) = w
    rw [if_neg q]; exact hL.2 b k w e
theorem Ly_row {L : Nat} {h : mH} {a : Nat} {f : Nat → Int} (hL : Ly L h) (hp : ∀ j, ptr a j = none) : Ly L (mrow h a f) := by
  refine ⟨hL.1, fun b k w e => ?_⟩
  by_cases q : b = a
  · rw [q, hp] at e; cases e
  · show (if b = a then f k else h.2 b k) = w
    rw [if_neg q]; exact hL.2 b k w e
theorem LyM_mw {L : Nat} {h : mH} {a j : Nat} {v : Int} (hL : LyM L h) (hp : ptm a j = none) : LyM L (mw h a j v) := by
  refine ⟨hL.1, fun b k w e => ?_⟩
  by_cases q : b = a ∧ k = j
  · rw [q.1, q.2, hp] at e; cases e
  · show (if b = a ∧ k = j then v else h.2 b k) = w
    rw [if_neg q]; exact hL.2 b k w e
theorem LyM_row {L : Nat} {h : mH} {a : Nat} {f : Nat → Int} (hL : LyM L h) (hp : ∀ j, ptm a j = none) : LyM L (mrow h a f) := by
  refine ⟨hL.1, fun b k w e => ?_⟩
  by_cases q : b = a
  · rw [q, hp] at e; cases e
  · show (if b = a then f k else h.2 b k) = w
    rw [if_neg q]; exact hL.2 b k w e
theorem sh_6 {L : Nat} {h : mH} (hL : Ly L h) : h.1[6]? = some (5, 7) := by obtain ⟨s, e⟩ := hL.1; rw [e]; rfl
theorem o_6 {L : Nat} {h : mH} (hL : Ly L h) : isO h 6 5 = true := by unfold isO; rw [sh_6 hL]; rfl
theorem g_6 {L : Nat} {h : mH} (hL : Ly L h) {k : Nat} (hk : k < 7) : gfd 5 k h 6 = some (h.2 6 k) := by unfold gfd; rw [sh_6 hL]; exact if_pos ⟨rfl, hk, by decide⟩
theorem f_6 {L : Nat} {h : mH} (hL : Ly L h) {k : Nat} (hk : k < 7) (v : Int) : pfd 5 k h 6 v = some (mw h 6 k v) := by unfold pfd; rw [sh_6 hL]; exact if_pos ⟨rfl, hk, by decide⟩
theorem sh_7 {L : Nat} {h : mH} (hL : Ly L h) : h.1[7]? = some (4, 4) := by obtain ⟨s, e⟩ := hL.1; rw [e]; rfl
theorem o_7 {L : Nat} {h : mH} (hL : Ly L h) : isO h 7 4 = true := by unfold isO; rw [sh_7 hL]; rfl
theorem g_7 {L : Nat} {h : mH} (hL : Ly L h) {k : Nat} (hk : k < 4) : gfd 4 k h 7 = some (h.2 7 k) := by unfold gfd; rw [sh_7 hL]; exact if_pos ⟨rfl, hk, by decide⟩
theorem f_7 {L : Nat} {h : mH} (hL : Ly L h) {k : Nat} (hk : k < 4) (v : Int) : pfd 4 k h 7 v = some (mw h 7 k v) := by unfold pfd; rw [sh_7 hL]; exact if_pos ⟨rfl, hk, by decide⟩
theorem sh_8 {L : Nat} {h : mH} (hL : Ly L h) : h.1[8]? = some (2, 1) := by obtain ⟨s, e⟩ := hL.1; rw [e]; rfl
theorem o_8 {L : Nat} {h : mH} (hL : Ly L h) : isO h 8 2 = true := by unfold isO; rw [sh_8 hL]; rfl
theorem g_8 {L : Nat} {h : mH} (hL : Ly L h) {k : Nat} (hk : k < 1) : gfd 2 k h 8 = some (h.2 8 k) := by unfold gfd; rw [sh_8 hL]; exact if_pos ⟨rfl, hk, by decide⟩
theorem f_8 {L : Nat} {h : mH} (hL : Ly L h) {k : Nat} (hk : k < 1) (v : Int) : pfd 2 k h 8 v = some (mw h 8 k v) := by unfold pfd; rw [sh_8 hL]; exact if_pos ⟨rfl, hk, by decide⟩
theorem sh_9 {L : Nat} {h : mH} (hL : Ly L h) : h.1[9]? = some (10, 154) := by obtain ⟨s, e⟩ := hL.1; rw [e]; rfl
theorem r_9 {L : Nat} {h : mH} (hL : Ly L h) {j : Int} (h0 : 0 ≤ j) (h1 : j < 154) : ald 10 h 9 j = some (h.2 9 j.toNat) := by unfold ald; rw [sh_9 hL]; exact if_pos ⟨rfl, h0, h1, by decide⟩
theorem w_9 {L : Nat} {h : mH} (hL : Ly L h) {j : Int} (h0 : 0 ≤ j) (h1 : j < 154) (v : Int) : ast h 9 j v = some (mw h 9 j.toNat v) := by unfold ast; rw [sh_9 hL]; exact if_pos ⟨rfl, h0, h1, by decide⟩
theorem n_9 {L : Nat} {h : mH} (hL : Ly L h) : aln h 9 = some 154 := by unfold aln; rw [sh_9 hL]; rfl
theorem sh_10 {L : Nat} {h : mH} (hL : Ly L h) : h.1[10]? = some (10, 200) := by obtain ⟨s, e⟩ := hL.1; rw [e]; rfl
theorem r_10 {L : Nat} {h : mH} (hL : Ly L h) {j : Int} (h0 : 0 ≤ j) (h1 : j < 200) : ald 10 h 10 j = some (h.2 10 j.toNat) := by unfold ald; rw [sh_10 hL]; exact if_pos ⟨rfl, h0, h1, by decide⟩
theorem w_10 {L : Nat} {h : mH} (hL : Ly L h) {j : Int} (h0 : 0 ≤ j) (h1 : j < 200) (v : Int) : ast h 10 j v = some (mw h 10 j.toNat v) := by unfold ast; rw [sh_10 hL]; exact if_pos ⟨rfl, h0, h1, by decide⟩
theorem n_10 {L : Nat} {h : mH} (hL : Ly L h) : aln h 10 = some 200 := by unfold aln; rw [sh_10 hL]; rfl
theorem sh_11 {L : Nat} {h : mH} (hL : Ly L h) : h.1[11]? = some (2, 1) := by obtain ⟨s, e⟩ := hL.1; rw [e]; rfl
theorem o_11 {L : Nat} {h : mH} (hL : Ly L h) : isO h 11 2 = true := by unfold isO; rw [sh_11 hL]; rfl
theorem g_11 {L : Nat} {h : mH} (hL : Ly L h) {k : Nat} (hk : k < 1) : gfd 2 k h 11 = some (h.2 11 k) := by unfold gfd; rw [sh_11 hL]; exact if_pos ⟨rfl, hk, by decide⟩
theorem f_11 {L : Nat} {h : mH} (hL : Ly L h) {k : Nat} (hk : k < 1) (v : Int) : pfd 2 k h 11 v = some (mw h 11 k v) := by unfold pfd; rw [sh_11 hL]; exact if_pos ⟨rfl, hk, by decide⟩
theorem sh_12 {L : Nat} {h : mH} (hL : Ly L h) : h.1[12]? = some (10, 154) := by obtain ⟨s, e⟩ := hL.1; rw [e]; rfl
theorem r_12 {L : Nat} {h : mH} (hL : Ly L h) {j : Int} (h0 : 0 ≤ j) (h1 : j < 154) : ald 10 h 12 j = some (h.2 12 j.toNat) := by unfold ald; rw [sh_12 hL]; exact if_pos ⟨rfl, h0, h1, by decide⟩
theorem w_12 {L : Nat} {h : mH} (hL : Ly L h) {j : Int} (h0 : 0 ≤ j) (h1 : j < 154) (v : Int) : ast h 12 j v = some (mw h 12 j.toNat v) := by unfold ast; rw [sh_12 hL]; exact if_pos ⟨rfl, h0, h1, by decide⟩
theorem n_12 {L : Nat} {h : mH} (hL : Ly L h) : aln h 12 = some 154 := by unfold aln; rw [sh_12 hL]; rfl
theorem sh_13 {L : Nat} {h : mH} (hL : Ly L h) : h.1[13]? = some (2, 1) := by obtain ⟨s, e⟩ := hL.1; rw [e]; rfl
theorem o_13 {L : Nat} {h : mH} (hL : Ly L h) : isO h 13 2 = true := by unfold isO; rw [sh_13 hL]; rfl
theorem g_13 {L : Nat} {h : mH} (hL : Ly L h) {k : Nat} (hk : k < 1) : gfd 2 k h 13 = some (h.2 13 k) := by unfold gfd; rw [sh_13 hL]; exact if_pos ⟨rfl, hk, by decide⟩
theorem f_13 {L : Nat} {h : mH} (hL : Ly L h) {k : Nat} (hk : k < 1) (v : Int) : pfd 2 k h 13 v = some (mw h 13 k v) := by unfold pfd; rw [sh_13 hL]; exact if_pos ⟨rfl, hk, by decide⟩
theorem sh_14 {L : Nat} {h : mH} (hL : Ly L h) : h.1[14]? = some (10, 154) := by obtain ⟨s, e⟩ := hL.1; rw [e]; rfl
theorem r_14 {L : Nat} {h : mH} (hL : Ly L h) {j : Int} (h0 : 0 ≤ j) (h1 : j < 154) : ald 10 h 14 j = some (h.2 14 j.toNat) := by unfold ald; rw [sh_14 hL]; exact if_pos ⟨rfl, h0, h1, by decide⟩
theorem w_14 {L : Nat} {h : mH} (hL : Ly L h) {j : Int} (h0 : 0 ≤ j) (h1 : j < 154) (v : Int) : ast h 14 j v = some (mw h 14 j.toNat v) := by unfold ast; rw [sh_14 hL]; exact if_pos ⟨rfl, h0, h1, by decide⟩
theorem n_14 {L : Nat} {h : mH} (hL : Ly L h) : aln h 14 = some 154 := by unfold aln; rw [sh_14 hL]; rfl
theorem sh_15 {L : Nat} {h : mH} (hL : Ly L h) : h.1[15]? = some (0, 10) := by obtain ⟨s, e⟩ := hL.1; rw [e]; rfl
theorem o_15 {L : Nat} {h : mH} (hL : Ly L h) : isO h 15 0 = true := by unfold isO; rw [sh_15 hL]; rfl
theorem g_15 {L : Nat} {h : mH} (hL : Ly L h) {k : Nat} (hk : k < 10) : gfd 0 k h 15 = some (h.2 15 k) := by unfold gfd; rw [sh_15 hL]; exact if_pos ⟨rfl, hk, by decide⟩
theorem f_15 {L : Nat} {h : mH} (hL : Ly L h) {k : Nat} (hk : k < 10) (v : Int) : pfd 0 k h 15 v = some (mw h 15 k v) := by unfold pfd; rw [sh_15 hL]; exact if_pos ⟨rfl, hk, by decide⟩
theorem sh_16 {L : Nat} {h : mH} (hL : Ly L h) : h.1[16]? = some (2, 1) := by obtain ⟨s, e⟩ := hL.1; rw [e]; rfl
theorem o_16 {L : Nat} {h : mH} (hL : Ly L h) : isO h 16 2 = true := by unfold isO; rw [sh_16 hL]; rfl
theorem g_16 {L : Nat} {h : mH} (hL : Ly L h) {k : Nat} (hk : k < 1) : gfd 2 k h 16 = some (h.2 16 k) := by unfold gfd; rw [sh_16 hL]; exact if_pos ⟨rfl, hk, by decide⟩
theorem f_16 {L : Nat} {h : mH} (hL : Ly L h) {k : Nat} (hk : k < 1) (v : Int) : pfd 2 k h 16 v = some (mw h 16 k v) := by unfold pfd; rw [sh_16 hL]; exact if_pos ⟨rfl, hk, by decide⟩
theorem sh_17 {L : Nat} {h : mH} (hL : Ly L h) : h.1[17]? = some (10, 154) := by obtain ⟨s, e⟩ := hL.1; rw [e]; rfl
theorem r_17 {L : Nat} {h : mH} (hL : Ly L h) {j : Int} (h0 : 0 ≤ j) (h1 : j < 154) : ald 10 h 17 j = some (h.2 17 j.toNat) := by unfold ald; rw [sh_17 hL]; exact if_pos ⟨rfl, h0, h1, by decide⟩
theorem w_17 {L : Nat} {h : mH} (hL : Ly L h) {j : Int} (h0 : 0 ≤ j) (h1 : j < 154) (v : Int) : ast h 17 j v = some (mw h 17 j.toNat v) := by unfold ast; rw [sh_17 hL]; exact if_pos ⟨rfl, h0, h1, by decide⟩
theorem n_17 {L : Nat} {h : mH} (hL : Ly L h) : aln h 17 = some 154 := by unfold aln; rw [sh_17 hL]; rfl
theorem sh_18 {L : Nat} {h : mH} (hL : Ly L h) : h.1[18]? = some (10, 4) := by obtain ⟨s, e⟩ := hL.1; rw [e]; rfl
theorem r_18 {L : Nat} {h : mH} (hL : Ly L h) {j : Int} (h0 : 0 ≤ j) (h1 : j < 4) : ald 10 h 18 j = some (h.2 18 j.toNat) := by unfold ald; rw [sh_18 hL]; exact if_pos ⟨rfl, h0, h1, by decide⟩
theorem w_18 {L : Nat} {h : mH} (hL : Ly L h) {j : Int} (h0 : 0 ≤ j) (h1 : j < 4) (v : Int) : ast h 18 j v = some (mw h 18 j.toNat v) := by unfold ast; rw [sh_18 hL]; exact if_pos ⟨rfl, h0, h1, by decide⟩
theorem n_18 {L : Nat} {h : mH} (hL : Ly L h) : aln h 18 = some 4 := by unfold aln; rw [sh_18 hL]; rfl
theorem sh_19 {L : Nat} {h : mH} (hL : Ly L h) : h.1[19]? = some (10, 6) := by obtain ⟨s, e⟩ := hL.1; rw [e]; rfl
theorem r_19 {L : Nat} {h : mH} (hL : Ly L h) {j : Int} (h0 : 0 ≤ j) (h1 : j < 6) : ald 10 h 19 j = some (h.2 19 j.toNat) := by unfold ald; rw [sh_19 hL]; exact if_pos ⟨rfl, h0, h1, by decide⟩
theorem w_19 {L : Nat} {h : mH} (hL : Ly L h) {j : Int} (h0 : 0 ≤ j) (h1 : j < 6) (v : Int) : ast h 19 j v = some (mw h 19 j.toNat v) := by unfold ast; rw [sh_19 hL]; exact if_pos ⟨rfl, h0, h1, by decide⟩
theorem n_19 {L : Nat} {h : mH} (hL : Ly L h) : aln h 19 = some 6 := by unfold aln; rw [sh_19 hL]; rfl
theorem sh_20 {L : Nat} {h : mH} (hL : Ly L h) : h.1[20]? = some (10, 4) := by obtain ⟨s, e⟩ := hL.1; rw [e]; rfl
theorem r_20 {L : Nat} {h : mH} (hL : Ly L h) {j : Int} (h0 : 0 ≤ j) (h1 : j < 4) : ald 10 h 20 j = some (h.2 20 j.toNat) := by unfold ald; rw [sh_20 hL]; exact if_pos ⟨rfl, h0, h1, by decide⟩
theorem w_20 {L : Nat} {h : mH} (hL : Ly L h) {j : Int} (h0 : 0 ≤ j) (h1 : j < 4) (v : Int) : ast h 20 j v = some (mw h 20 j.toNat v) := by unfold ast; rw [sh_20 hL]; exact if_pos ⟨rfl, h0, h1, by decide⟩
theorem n_20 {L : Nat} {h : mH} (hL : Ly L h) : aln h 20 = some 4 := by unfold aln; rw [sh_20 hL]; rfl
theorem sh_21 {L : Nat} {h : mH} (hL : Ly L h) : h.1[21]? = some (12, 16) := by obtain ⟨s, e⟩ := hL.1; rw [e]; rfl
theorem r_21 {L : Nat} {h : mH} (hL : Ly L h) {j : Int} (h0 : 0 ≤ j) (h1 : j < 16) : bld h 21 j = some (h.2 21 j.toNat) := by unfold bld; rw [sh_21 hL]; exact if_pos ⟨by decide, h0, h1, by decide⟩
theorem w_21 {L : Nat} {h : mH} (hL : Ly L h) {j : Int} (h0 : 0 ≤ j) (h1 : j < 16) (v : Int) : bst h 21 j v = some (mw h 21 j.toNat (iand v 1)) := by unfold bst; rw [sh_21 hL]; exact if_pos ⟨by decide, h0, h1, by decide⟩
theorem n_21 {L : Nat} {h : mH} (hL : Ly L h) : aln h 21 = some 16 := by unfold aln; rw [sh_21 hL]; rfl
theorem sh_22 {L : Nat} {h : mH} (hL : Ly L h) : h.1[22]? = some (1, 11) := by obtain ⟨s, e⟩ := hL.1; rw [e]; rfl
theorem o_22 {L : Nat} {h : mH} (hL : Ly L h) : isO h 22 1 = true := by unfold isO; rw [sh_22 hL]; rfl
theorem g_22 {L : Nat} {h : mH} (hL : Ly L h) {k : Nat} (hk : k < 11) : gfd 1 k h 22 = some (h.2 22 k) := by unfold gfd; rw [sh_22 hL]; exact if_pos ⟨rfl, hk, by decide⟩
theorem f_22 {L : Nat} {h : mH} (hL : Ly L h) {k : Nat} (hk : k < 11) (v : Int) : pfd 1 k h 22 v = some (mw h 22 k v) := by unfold pfd; rw [sh_22 hL]; exact if_pos ⟨rfl, hk, by decide⟩
theorem sh_23 {L : Nat} {h : mH} (hL : Ly L h) : h.1[23]? = some (2, 1) := by obtain ⟨s, e⟩ := hL.1; rw [e]; rfl
theorem o_23 {L : Nat} {h : mH} (hL : Ly L h) : isO h 23 2 = true := by unfold isO; rw [sh_23 hL]; rfl
theorem g_23 {L : Nat} {h : mH} (hL : Ly L h) {k : Nat} (hk : k < 1) : gfd 2 k h 23 = some (h.2 23 k) := by unfold gfd; rw [sh_23 hL]; exact if_pos ⟨rfl, hk, by decide⟩
theorem f_23 {L : Nat} {h : mH} (hL : Ly L h) {k : Nat} (hk : k < 1) (v : Int) : pfd 2 k h 23 v = some (mw h 23 k v) := by unfold pfd; rw [sh_23 hL]; exact if_pos ⟨rfl, hk, by decide⟩
theorem sh_24 {L : Nat} {h : mH} (hL : Ly L h) : h.1[24]? = some (10, 154) := by obtain ⟨s, e⟩ := hL.1; rw [e]; rfl
theorem r_24 {L : Nat} {h : mH} (hL : Ly L h) {j : Int} (h0 : 0 ≤ j) (h1 : j < 154) : ald 10 h 24 j = some (h.2 24 j.toNat) := by unfold ald; rw [sh_24 hL]; exact if_pos ⟨rfl, h0, h1, by decide⟩
theorem w_24 {L : Nat} {h : mH} (hL : Ly L h) {j : Int} (h0 : 0 ≤ j) (h1 : j < 154) (v : Int) : ast h 24 j v = some (mw h 24 j.toNat v) := by unfold ast; rw [sh_24 hL]; exact if_pos ⟨rfl, h0, h1, by decide⟩
theorem n_24 {L : Nat} {h : mH} (hL : Ly L h) : aln h 24 = some 154 := by unfold aln; rw [sh_24 hL]; rfl
theorem sh_25 {L : Nat} {h : mH} (hL : Ly L h) : h.1[25]? = some (10, 4) := by obtain ⟨s, e⟩ := hL.1; rw [e]; rfl
theorem r_25 {L : Nat} {h : mH} (hL : Ly L h) {j : Int} (h0 : 0 ≤ j) (h1 : j < 4) : ald 10 h 25 j = some (h.2 25 j.toNat) := by unfold ald; rw [sh_25 hL]; exact if_pos ⟨rfl, h0, h1, by decide⟩
theorem w_25 {L : Nat} {h : mH} (hL : Ly L h) {j : Int} (h0 : 0 ≤ j) (h1 : j < 4) (v : Int) : ast h 25 j v = some (mw h 25 j.toNat v) := by unfold ast; rw [sh_25 hL]; exact if_pos ⟨rfl, h0, h1, by decide⟩
theorem n_25 {L : Nat} {h : mH} (hL : Ly L h) : aln h 25 = some 4 := by unfold aln; rw [sh_25 hL]; rfl
theorem sh_26 {L : Nat} {h : mH} (hL : Ly L h) : h.1[26]? = some (10, 16) := by obtain ⟨s, e⟩ := hL.1; rw [e]; rfl
theorem r_26 {L : Nat} {h : mH} (hL : Ly L h) {j : Int} (h0 : 0 ≤ j) (h1 : j < 16) : ald 10 h 26 j = some (h.2 26 j.toNat) := by unfold ald; rw [sh_26 hL]; exact if_pos ⟨rfl, h0, h1, by decide⟩
theorem w_26 {L : Nat} {h : mH} (hL : Ly L h) {j : Int} (h0 : 0 ≤ j) (h1 : j < 16) (v : Int) : ast h 26 j v = some (mw h 26 j.toNat v) := by unfold ast; rw [sh_26 hL]; exact if_pos ⟨rfl, h0, h1, by decide⟩
theorem n_26 {L : Nat} {h : mH} (hL : Ly L h) : aln h 26 = some 16 := by unfold aln; rw [sh_26 hL]; rfl
theorem sh_27 {L : Nat} {h : mH} (hL : Ly L h) : h.1[27]? = some (10, 12) := by obtain ⟨s, e⟩ := hL.1; rw [e]; rfl
theorem r_27 {L : Nat} {h : mH} (hL : Ly L h) {j : Int} (h0 : 0 ≤ j) (h1 : j < 12) : ald 10 h 27 j = some (h.2 27 j.toNat) := by unfold ald; rw [sh_27 hL]; exact if_pos ⟨rfl, h0, h1, by decide⟩
theorem w_27 {L : Nat} {h : mH} (hL : Ly L h) {j : Int} (h0 : 0 ≤ j) (h1 : j < 12) (v : Int) : ast h 27 j v = some (mw h 27 j.toNat v) := by unfold ast; rw [sh_27 hL]; exact if_pos ⟨rfl, h0, h1, by decide⟩
theorem n_27 {L : Nat} {h : mH} (hL : Ly L h) : aln h 27 = some 12 := by unfold aln; rw [sh_27 hL]; rfl
theorem sh_28 {L : Nat} {h : mH} (hL : Ly L h) : h.1[28]? = some (10, 36) := by obtain ⟨s, e⟩ := hL.1; rw [e]; rfl
theorem r_28 {L : Nat} {h : mH} (hL : Ly L h) {j : Int} (h0 : 0 ≤ j) (h1 : j < 36) : ald 10 h 28 j = some (h.2 28 j.toNat) := by unfold ald; rw [sh_28 hL]; exact if_pos ⟨rfl, h0, h1, by decide⟩
theorem w_28 {L : Nat} {h : mH} (hL : Ly L h) {j : Int} (h0 : 0 ≤ j) (h1 : j < 36) (v : Int) : ast h 28 j v = some (mw h 28 j.toNat v) := by unfold ast; rw [sh_28 hL]; exact if_pos ⟨rfl, h0, h1, by decide⟩
theorem n_28 {L : Nat} {h : mH} (hL : Ly L h) : aln h 28 = some 36 := by unfold aln; rw [sh_28 hL]; rfl
theorem sh_29 {L : Nat} {h : mH} (hL : Ly L h) : h.1[29]? = some (3, 3) := by obtain ⟨s, e⟩ := hL.1; rw [e]; rfl
theorem o_29 {L : Nat} {h : mH} (hL : Ly L h) : isO h 29 3 = true := by unfold isO; rw [sh_29 hL]; rfl
theorem g_29 {L : Nat} {h : mH} (hL : Ly L h) {k : Nat} (hk : k < 3) : gfd 3 k h 29 = some (h.2 29 k) := by unfold gfd; rw [sh_29 hL]; exact if_pos ⟨rfl, hk, by decide⟩
theorem f_29 {L : Nat} {h : mH} (hL : Ly L h) {k : Nat} (hk : k < 3) (v : Int) : pfd 3 k h 29 v = some (mw h 29 k v) := by unfold pfd; rw [sh_29 hL]; exact if_pos ⟨rfl, hk, by decide⟩
theorem sh_30 {L : Nat} {h : mH} (hL : Ly L h) : h.1[30]? = some (13, 8) := by obtain ⟨s, e⟩ := hL.1; rw [e]; rfl
theorem r_30 {L : Nat} {h : mH} (hL : Ly L h) {j : Int} (h0 : 0 ≤ j) (h1 : j < 8) : ald 13 h 30 j = some (h.2 30 j.toNat) := by unfold ald; rw [sh_30 hL]; exact if_pos ⟨rfl, h0, h1, by decide⟩
theorem n_30 {L : Nat} {h : mH} (hL : Ly L h) : aln h 30 = some 8 := by unfold aln; rw [sh_30 hL]; rfl
theorem sh_31 {L : Nat} {h : mH} (hL : Ly L h) : h.1[31]? = some (10, 154) := by obtain ⟨s, e⟩ := hL.1; rw [e]; rfl
theorem r_31 {L : Nat} {h : mH} (hL : Ly L h) {j : Int} (h0 : 0 ≤ j) (h1 : j < 154) : ald 10 h 31 j = some (h.2 31 j.toNat) := by unfold ald; rw [sh_31 hL]; exact if_pos ⟨rfl, h0, h1, by decide⟩
theorem w_31 {L : Nat} {h : mH} (hL : Ly L h) {j : Int} (h0 : 0 ≤ j) (h1 : j < 154) (v : Int) : ast h 31 j v = some (mw h 31 j.toNat v) := by unfold ast; rw [sh_31 hL]; exact if_pos ⟨rfl, h0, h1, by decide⟩
theorem n_31 {L : Nat} {h : mH} (hL : Ly L h) : aln h 31 = some 154 := by unfold aln; rw [sh_31 hL]; rfl
theorem sh_32 {L : Nat} {h : mH} (hL : Ly L h) : h.1[32]? = some (10, 154) := by obtain ⟨s, e⟩ := hL.1; rw [e]; rfl
theorem r_32 {L : Nat} {h : mH} (hL : Ly L h) {j : Int} (h0 : 0 ≤ j) (h1 : j < 154) : ald 10 h 32 j = some (h.2 32 j.toNat) := by unfold ald; rw [sh_32 hL]; exact if_pos ⟨rfl, h0, h1, by decide⟩
theorem w_32 {L : Nat} {h : mH} (hL : Ly L h) {j : Int} (h0 : 0 ≤ j) (h1 : j < 154) (v : Int) : ast h 32 j v = some (mw h 32 j.toNat v) := by unfold ast; rw [sh_32 hL]; exact if_pos ⟨rfl, h0, h1, by decide⟩
theorem n_32 {L : Nat} {h : mH} (hL : Ly L h) : aln h 32 = some 154 := by unfold aln; rw [sh_32 hL]; rfl
theorem sh_33 {L : Nat} {h : mH} (hL : Ly L h) : h.1[33]? = some (10, 154) := by obtain ⟨s, e⟩ := hL.1; rw [e]; rfl
theorem r_33 {L : Nat} {h : mH} (hL : Ly L h) {j : Int} (h0 : 0 ≤ j) (h1 : j < 154) : ald 10 h 33 j = some (h.2 33 j.toNat) := by unfold ald; rw [sh_33 hL]; exact if_pos ⟨rfl, h0, h1, by decide⟩
theorem w_33 {L : Nat} {h : mH} (hL : Ly L h) {j : Int} (h0 : 0 ≤ j) (h1 : j < 154) (v : Int) : ast h 33 j v = some (mw h 33 j.toNat v) := by unfold ast; rw [sh_33 hL]; exact if_pos ⟨rfl, h0, h1, by decide⟩
theorem n_33 {L : Nat} {h : mH} (hL : Ly L h) : aln h 33 = some 154 := by unfold aln; rw [sh_33 hL]; rfl
theorem sh_34 {L : Nat} {h : mH} (hL : Ly L h) : h.1[34]? = some (10, 154) := by obtain ⟨s, e⟩ := hL.1; rw [e]; rfl
theorem r_34 {L : Nat} {h : mH} (hL : Ly L h) {j : Int} (h0 : 0 ≤ j) (h1 : j < 154) : ald 10 h 34 j = some (h.2 34 j.toNat) := by unfold ald; rw [sh_34 hL]; exact if_pos ⟨rfl, h0, h1, by decide⟩
theorem w_34 {L : Nat} {h : mH} (hL : Ly L h) {j : Int} (h0 : 0 ≤ j) (h1 : j < 154) (v : Int) : ast h 34 j v = some (mw h 34 j.toNat v) := by unfold ast; rw [sh_34 hL]; exact if_pos ⟨rfl, h0, h1, by decide⟩
theorem n_34 {L : Nat} {h : mH} (hL : Ly L h) : aln h 34 = some 154 := by unfold aln; rw [sh_34 hL]; rfl
theorem sh_35 {L : Nat} {h : mH} (hL : Ly L h) : h.1[35]? = some (10, 154) := by obtain ⟨s, e⟩ := hL.1; rw [e]; rfl
theorem r_35 {L : Nat} {h : mH} (hL : Ly L h) {j : Int} (h0 : 0 ≤ j) (h1 : j < 154) : ald 10 h 35 j = some (h.2 35 j.toNat) := by unfold ald; rw [sh_35 hL]; exact if_pos ⟨rfl, h0, h1, by decide⟩
theorem w_35 {L : Nat} {h : mH} (hL : Ly L h) {j : Int} (h0 : 0 ≤ j) (h1 : j < 154) (v : Int) : ast h 35 j v = some (mw h 35 j.toNat v) := by unfold ast; rw [sh_35 hL]; exact if_pos ⟨rfl, h0, h1, by decide⟩
theorem n_35 {L : Nat} {h : mH} (hL : Ly L h) : aln h 35 = some 154 := by unfold aln; rw [sh_35 hL]; rfl
theorem sh_36 {L : Nat} {h : mH} (hL : Ly L h) : h.1[36]? = some (10, 154) := by obtain ⟨s, e⟩ := hL.1; rw [e]; rfl
theorem r_36 {L : Nat} {h : mH} (hL : Ly L h) {j : Int} (h0 : 0 ≤ j) (h1 : j < 154) : ald 10 h 36 j = some (h.2 36 j.toNat) := by unfold ald; rw [sh_36 hL]; exact if_pos ⟨rfl, h0, h1, by decide⟩
theorem w_36 {L : Nat} {h : mH} (hL : Ly L h) {j : Int} (h0 : 0 ≤ j) (h1 : j < 154) (v : Int) : ast h 36 j v = some (mw h 36 j.toNat v) := by unfold ast; rw [sh_36 hL]; exact if_pos ⟨rfl, h0, h1, by decide⟩
theorem n_36 {L : Nat} {h : mH} (hL : Ly L h) : aln h 36 = some 154 := by unfold aln; rw [sh_36 hL]; rfl
theorem sh_37 {L : Nat} {h : mH} (hL : Ly L h) : h.1[37]? = some (10, 154) := by obtain ⟨s, e⟩ := hL.1; rw [e]; rfl
theorem r_37 {L : Nat} {h : mH} (hL : Ly L h) {j : Int} (h0 : 0 ≤ j) (h1 : j < 154) : ald 10 h 37 j = some (h.2 37 j.toNat) := by unfold ald; rw [sh_37 hL]; exact if_pos ⟨rfl, h0, h1, by decide⟩
theorem w_37 {L : Nat} {h : mH} (hL : Ly L h) {j : Int} (h0 : 0 ≤ j) (h1 : j < 154) (v : Int) : ast h 37 j v = some (mw h 37 j.toNat v) := by unfold ast; rw [sh_37 hL]; exact if_pos ⟨rfl, h0, h1, by decide⟩
theorem n_37 {L : Nat} {h : mH} (hL : Ly L h) : aln h 37 = some 154 := by unfold aln; rw [sh_37 hL]; rfl
theorem sh_38 {L : Nat} {h : mH} (hL : Ly L h) : h.1[38]? = some (10, 154) := by obtain ⟨s, e⟩ := hL.1; rw [e]; rfl
theorem r_38 {L : Nat} {h : mH} (hL : Ly L h) {j : Int} (h0 : 0 ≤ j) (h1 : j < 154) : ald 10 h 38 j = some (h.2 38 j.toNat) := by unfold ald; rw [sh_38 hL]; exact if_pos ⟨rfl, h0, h1, by decide⟩
theorem w_38 {L : Nat} {h : mH} (hL : Ly L h) {j : Int} (h0 : 0 ≤ j) (h1 : j < 154) (v : Int) : ast h 38 j v = some (mw h 38 j.toNat v) := by unfold ast; rw [sh_38 hL]; exact if_pos ⟨rfl, h0, h1, by decide⟩
theorem n_38 {L : Nat} {h : mH} (hL : Ly L h) : aln h 38 = some 154 := by unfold aln; rw [sh_38 hL]; rfl
theorem sh_39 {L : Nat} {h : mH} (hL : Ly L h) : h.1[39]? = some (3, 3) := by obtain ⟨s, e⟩ := hL.1; rw [e]; rfl
theorem o_39 {L : Nat} {h : mH} (hL : Ly L h) : isO h 39 3 = true := by unfold isO; rw [sh_39 hL]; rfl
theorem g_39 {L : Nat} {h : mH} (hL : Ly L h) {k : Nat} (hk : k < 3) : gfd 3 k h 39 = some (h.2 39 k) := by unfold gfd; rw [sh_39 hL]; exact if_pos ⟨rfl, hk, by decide⟩
theorem f_39 {L : Nat} {h : mH} (hL : Ly L h) {k : Nat} (hk : k < 3) (v : Int) : pfd 3 k h 39 v = some (mw h 39 k v) := by unfold pfd; rw [sh_39 hL]; exact if_pos ⟨rfl, hk, by decide⟩
theorem sh_40 {L : Nat} {h : mH} (hL : Ly L h) : h.1[40]? = some (13, 2) := by obtain ⟨s, e⟩ := hL.1; rw [e]; rfl
theorem r_40 {L : Nat} {h : mH} (hL : Ly L h) {j : Int} (h0 : 0 ≤ j) (h1 : j < 2) : ald 13 h 40 j = some (h.2 40 j.toNat) := by unfold ald; rw [sh_40 hL]; exact if_pos ⟨rfl, h0, h1, by decide⟩
theorem n_40 {L : Nat} {h : mH} (hL : Ly L h) : aln h 40 = some 2 := by unfold aln; rw [sh_40 hL]; rfl
theorem sh_41 {L : Nat} {h : mH} (hL : Ly L h) : h.1[41]? = some (10, 154) := by obtain ⟨s, e⟩ := hL.1; rw [e]; rfl
theorem r_41 {L : Nat} {h : mH} (hL : Ly L h) {j : Int} (h0 : 0 ≤ j) (h1 : j < 154) : ald 10 h 41 j = some (h.2 41 j.toNat) := by unfold ald; rw [sh_41 hL]; exact if_pos ⟨rfl, h0, h1, by decide⟩
theorem w_41 {L : Nat} {h : mH} (hL : Ly L h) {j : Int} (h0 : 0 ≤ j) (h1 : j < 154) (v : Int) : ast h 41 j v = some (mw h 41 j.toNat v) := by unfold ast; rw [sh_41 hL]; exact if_pos ⟨rfl, h0, h1, by decide⟩
theorem n_41 {L : Nat} {h : mH} (hL : Ly L h) : aln h 41 = some 154 := by unfold aln; rw [sh_41 hL]; rfl
theorem sh_42 {L : Nat} {h : mH} (hL : Ly L h) : h.1[42]? = some (10, 154) := by obtain ⟨s, e⟩ := hL.1; rw [e]; rfl
theorem r_42 {L : Nat} {h : mH} (hL : Ly L h) {j : Int} (h0 : 0 ≤ j) (h1 : j < 154) : ald 10 h 42 j = some (h.2 42 j.toNat) := by unfold ald; rw [sh_42 hL]; exact if_pos ⟨rfl, h0, h1, by decide⟩
theorem w_42 {L : Nat} {h : mH} (hL : Ly L h) {j : Int} (h0 : 0 ≤ j) (h1 : j < 154) (v : Int) : ast h 42 j v = some (mw h 42 j.toNat v) := by unfold ast; rw [sh_42 hL]; exact if_pos ⟨rfl, h0, h1, by decide⟩
theorem n_42 {L : Nat} {h : mH} (hL : Ly L h) : aln h 42 = some 154 := by unfold aln; rw [sh_42 hL]; rfl
theorem sh_43 {L : Nat} {h : mH} (hL : LyM L h) : h.1[43]? = some (6, 37) := by rw [hL.1]; rfl
theorem o_43 {L : Nat} {h : mH} (hL : LyM L h) : isO h 43 6 = true := by unfold isO; rw [sh_43 hL]; rfl
theorem g_43 {L : Nat} {h : mH} (hL : LyM L h) {k : Nat} (hk : k < 37) : gfd 6 k h 43 = some (h.2 43 k) := by unfold gfd; rw [sh_43 hL]; exact if_pos ⟨rfl, hk, by decide⟩
theorem f_43 {L : Nat} {h : mH} (hL : LyM L h) {k : Nat} (hk : k < 37) (v : Int) : pfd 6 k h 43 v = some (mw h 43 k v) := by unfold pfd; rw [sh_43 hL]; exact if_pos ⟨rfl, hk, by decide⟩
theorem sh_44 {L : Nat} {h : mH} (hL : LyM L h) : h.1[44]? = some (10, 4) := by rw [hL.1]; rfl
theorem r_44 {L : Nat} {h : mH} (hL : LyM L h) {j : Int} (h0 : 0 ≤ j) (h1 : j < 4) : ald 10 h 44 j = some (h.2 44 j.toNat) := by unfold ald; rw [sh_44 hL]; exact if_pos ⟨rfl, h0, h1, by decide⟩
theorem w_44 {L : Nat} {h : mH} (hL : LyM L h) {j : Int} (h0 : 0 ≤ j) (h1 : j < 4) (v : Int) : ast h 44 j v = some (mw h 44 j.toNat v) := by unfold ast; rw [sh_44 hL]; exact if_pos ⟨rfl, h0, h1, by decide⟩
theorem n_44 {L : Nat} {h : mH} (hL : LyM L h) : aln h 44 = some 4 := by unfold aln; rw [sh_44 hL]; rfl
theorem sh_45 {L : Nat} {h : mH} (hL : LyM L h) : h.1[45]? = some (10, 12) := by rw [hL.1]; rfl
theorem r_45 {L : Nat} {h : mH} (hL : LyM L h) {j : Int} (h0 : 0 ≤ j) (h1 : j < 12) : ald 10 h 45 j = some (h.2 45 j.toNat) := by unfold ald; rw [sh_45 hL]; exact if_pos ⟨rfl, h0, h1, by decide⟩
theorem w_45 {L : Nat} {h : mH} (hL : LyM L h) {j : Int} (h0 : 0 ≤ j) (h1 : j < 12) (v : Int) : ast h 45 j v = some (mw h 45 j.toNat v) := by unfold ast; rw [sh_45 hL]; exact if_pos ⟨rfl, h0, h1, by decide⟩
theorem n_45 {L : Nat} {h : mH} (hL : LyM L h) : aln h 45 = some 12 := by unfold aln; rw [sh_45 hL]; rfl
theorem sh_46 {L : Nat} {h : mH} (hL : LyM L h) : h.1[46]? = some (10, 4) := by rw [hL.1]; rfl
theorem r_46 {L : Nat} {h : mH} (hL : LyM L h) {j : Int} (h0 : 0 ≤ j) (h1 : j < 4) : ald 10 h 46 j = some (h.2 46 j.toNat) := by unfold ald; rw [sh_46 hL]; exact if_pos ⟨rfl, h0, h1, by decide⟩
theorem w_46 {L : Nat} {h : mH} (hL : LyM L h) {j : Int} (h0 : 0 ≤ j) (h1 : j < 4) (v : Int) : ast h 46 j v = some (mw h 46 j.toNat v) := by unfold ast; rw [sh_46 hL]; exact if_pos ⟨rfl, h0, h1, by decide⟩
theorem n_46 {L : Nat} {h : mH} (hL : LyM L h) : aln h 46 = some 4 := by unfold aln; rw [sh_46 hL]; rfl
theorem sh_47 {L : Nat} {h : mH} (hL : LyM L h) : h.1[47]? = some (10, 12) := by rw [hL.1]; rfl
theorem r_47 {L : Nat} {h : mH} (hL : LyM L h) {j : Int} (h0 : 0 ≤ j) (h1 : j < 12) : ald 10 h 47 j = some (h.2 47 j.toNat) := by unfold ald; rw [sh_47 hL]; exact if_pos ⟨rfl, h0, h1, by decide⟩
theorem w_47 {L : Nat} {h : mH} (hL : LyM L h) {j : Int} (h0 : 0 ≤ j) (h1 : j < 12) (v : Int) : ast h 47 j v = some (mw h 47 j.toNat v) := by unfold ast; rw [sh_47 hL]; exact if_pos ⟨rfl, h0, h1, by decide⟩
theorem n_47 {L : Nat} {h : mH} (hL : LyM L h) : aln h 47 = some 12 := by unfold aln; rw [sh_47 hL]; rfl
theorem sh_48 {L : Nat} {h : mH} (hL : LyM L h) : h.1[48]? = some (10, 4) := by rw [hL.1]; rfl
theorem r_48 {L : Nat} {h : mH} (hL : LyM L h) {j : Int} (h0 : 0 ≤ j) (h1 : j < 4) : ald 10 h 48 j = some (h.2 48 j.toNat) := by unfold ald; rw [sh_48 hL]; exact if_pos ⟨rfl, h0, h1, by decide⟩
theorem w_48 {L : Nat} {h : mH} (hL : LyM L h) {j : Int} (h0 : 0 ≤ j) (h1 : j < 4) (v : Int) : ast h 48 j v = some (mw h 48 j.toNat v) := by unfold ast; rw [sh_48 hL]; exact if_pos ⟨rfl, h0, h1, by decide⟩
theorem n_48 {L : Nat} {h : mH} (hL : LyM L h) : aln h 48 = some 4 := by unfold aln; rw [sh_48 hL]; rfl
theorem sh_49 {L : Nat} {h : mH} (hL : LyM L h) : h.1[49]? = some (10, 12) := by rw [hL.1]; rfl
theorem r_49 {L : Nat} {h : mH} (hL : LyM L h) {j : Int} (h0 : 0 ≤ j) (h1 : j < 12) : ald 10 h 49 j = some (h.2 49 j.toNat) := by unfold ald; rw [sh_49 hL]; exact if_pos ⟨rfl, h0, h1, by decide⟩
theorem w_49 {L : Nat} {h : mH} (hL : LyM L h) {j : Int} (h0 : 0 ≤ j) (h1 : j < 12) (v : Int) : ast h 49 j v = some (mw h 49 j.toNat v) := by unfold ast; rw [sh_49 hL]; exact if_pos ⟨rfl, h0, h1, by decide⟩
theorem n_49 {L : Nat} {h : mH} (hL : LyM L h) : aln h 49 = some 12 := by unfold aln; rw [sh_49 hL]; rfl
theorem sh_50 {L : Nat} {h : mH} (hL : LyM L h) : h.1[50]? = some (10, 4) := by rw [hL.1]; rfl
theorem r_50 {L : Nat} {h : mH} (hL : LyM L h) {j : Int} (h0 : 0 ≤ j) (h1 : j < 4) : ald 10 h 50 j = some (h.2 50 j.toNat) := by unfold ald; rw [sh_50 hL]; exact if_pos ⟨rfl, h0, h1, by decide⟩
theorem w_50 {L : Nat} {h : mH} (hL : LyM L h) {j : Int} (h0 : 0 ≤ j) (h1 : j < 4) (v : Int) : ast h 50 j v = some (mw h 50 j.toNat v) := by unfold ast; rw [sh_50 hL]; exact if_pos ⟨rfl, h0, h1, by decide⟩
theorem n_50 {L : Nat} {h : mH} (hL : LyM L h) : aln h 50 = some 4 := by unfold aln; rw [sh_50 hL]; rfl
theorem sh_51 {L : Nat} {h : mH} (hL : LyM L h) : h.1[51]? = some (10, 12) := by rw [hL.1]; rfl
theorem r_51 {L : Nat} {h : mH} (hL : LyM L h) {j : Int} (h0 : 0 ≤ j) (h1 : j < 12) : ald 10 h 51 j = some (h.2 51 j.toNat) := by unfold ald; rw [sh_51 hL]; exact if_pos ⟨rfl, h0, h1, by decide⟩
theorem w_51 {L : Nat} {h : mH} (hL : LyM L h) {j : Int} (h0 : 0 ≤ j) (h1 : j < 12) (v : Int) : ast h 51 j v = some (mw h 51 j.toNat v) := by unfold ast; rw [sh_51 hL]; exact if_pos ⟨rfl, h0, h1, by decide⟩
theorem n_51 {L : Nat} {h : mH} (hL : LyM L h) : aln h 51 = some 12 := by unfold aln; rw [sh_51 hL]; rfl
theorem sh_52 {L : Nat} {h : mH} (hL : LyM L h) : h.1[52]? = some (10, 120) := by rw [hL.1]; rfl
theorem r_52 {L : Nat} {h : mH} (hL : LyM L h) {j : Int} (h0 : 0 ≤ j) (h1 : j < 120) : ald 10 h 52 j = some (h.2 52 j.toNat) := by unfold ald; rw [sh_52 hL]; exact if_pos ⟨rfl, h0, h1, by decide⟩
theorem w_52 {L : Nat} {h : mH} (hL : LyM L h) {j : Int} (h0 : 0 ≤ j) (h1 : j < 120) (v : Int) : ast h 52 j v = some (mw h 52 j.toNat v) := by unfold ast; rw [sh_52 hL]; exact if_pos ⟨rfl, h0, h1, by decide⟩
theorem n_52 {L : Nat} {h : mH} (hL : LyM L h) : aln h 52 = some 120 := by unfold aln; rw [sh_52 hL]; rfl
theorem sh_53 {L : Nat} {h : mH} (hL : LyM L h) : h.1[53]? = some (10, 1440) := by rw [hL.1]; rfl
theorem r_53 {L : Nat} {h : mH} (hL : LyM L h) {j : Int} (h0 : 0 ≤ j) (h1 : j < 1440) : ald 10 h 53 j = some (h.2 53 j.toNat) := by unfold ald; rw [sh_53 hL]; exact if_pos ⟨rfl, h0, h1, by decide⟩
theorem w_53 {L : Nat} {h : mH} (hL : LyM L h) {j : Int} (h0 : 0 ≤ j) (h1 : j < 1440) (v : Int) : ast h 53 j v = some (mw h 53 j.toNat v) := by unfold ast; rw [sh_53 hL]; exact if_pos ⟨rfl, h0, h1, by decide⟩
theorem n_53 {L : Nat} {h : mH} (hL : LyM L h) : aln h 53 = some 1440 := by unfold aln; rw [sh_53 hL]; rfl
theorem sh_54 {L : Nat} {h : mH} (hL : LyM L h) : h.1[54]? = some (11, 200) := by rw [hL.1]; rfl
theorem r_54 {L : Nat} {h : mH} (hL : LyM L h) {j : Int} (h0 : 0 ≤ j) (h1 : j < 200) : bld h 54 j = some (h.2 54 j.toNat) := by unfold bld; rw [sh_54 hL]; exact if_pos ⟨by decide, h0, h1, by decide⟩
theorem w_54 {L : Nat} {h : mH} (hL : LyM L h) {j : Int} (h0 : 0 ≤ j) (h1 : j < 200) (v : Int) : bst h 54 j v = some (mw h 54 j.toNat (w8 v)) := by unfold bst; rw [sh_54 hL]; exact if_pos ⟨by decide, h0, h1, by decide⟩
theorem n_54 {L : Nat} {h : mH} (hL : LyM L h) : aln h 54 = some 200 := by unfold aln; rw [sh_54 hL]; rfl
theorem sh_55 {L : Nat} {h : mH} (hL : LyM L h) : h.1[55]? = some (10, 4) := by rw [hL.1]; rfl
theorem r_55 {L : Nat} {h : mH} (hL : LyM L h) {j : Int} (h0 : 0 ≤ j) (h1 : j < 4) : ald 10 h 55 j = some (h.2 55 j.toNat) := by unfold ald; rw [sh_55 hL]; exact if_pos ⟨rfl, h0, h1, by decide⟩
theorem w_55 {L : Nat} {h : mH} (hL : LyM L h) {j : Int} (h0 : 0 ≤ j) (h1 : j < 4) (v : Int) : ast h 55 j v = some (mw h 55 j.toNat v) := by unfold ast; rw [sh_55 hL]; exact if_pos ⟨rfl, h0, h1, by decide⟩
theorem n_55 {L : Nat} {h : mH} (hL : LyM L h) : aln h 55 = some 4 := by unfold aln; rw [sh_55 hL]; rfl
theorem sh_56 {L : Nat} {h : mH} (hL : LyM L h) : h.1[56]? = some (10, 8) := by rw [hL.1]; rfl
theorem r_56 {L : Nat} {h : mH} (hL : LyM L h) {j : Int} (h0 : 0 ≤ j) (h1 : j < 8) : ald 10 h 56 j = some (h.2 56 j.toNat) := by unfold ald; rw [sh_56 hL]; exact if_pos ⟨rfl, h0, h1, by decide⟩
theorem w_56 {L : Nat} {h : mH} (hL : LyM L h) {j : Int} (h0 : 0 ≤ j) (h1 : j < 8) (v : Int) : ast h 56 j v = some (mw h 56 j.toNat v) := by unfold ast; rw [sh_56 hL]; exact if_pos ⟨rfl, h0, h1, by decide⟩
theorem n_56 {L : Nat} {h : mH} (hL : LyM L h) : aln h 56 = some 8 := by unfold aln; rw [sh_56 hL]; rfl
theorem sh_57 {L : Nat} {h : mH} (hL : LyM L h) : h.1[57]? = some (10, 4) := by rw [hL.1]; rfl
theorem r_57 {L : Nat} {h : mH} (hL : LyM L h) {j : Int} (h0 : 0 ≤ j) (h1 : j < 4) : ald 10 h 57 j = some (h.2 57 j.toNat) := by unfold ald; rw [sh_57 hL]; exact if_pos ⟨rfl, h0, h1, by decide⟩
theorem w_57 {L : Nat} {h : mH} (hL : LyM L h) {j : Int} (h0 : 0 ≤ j) (h1 : j < 4) (v : Int) : ast h 57 j v = some (mw h 57 j.toNat v) := by unfold ast; rw [sh_57 hL]; exact if_pos ⟨rfl, h0, h1, by decide⟩
theorem n_57 {L : Nat} {h : mH} (hL : LyM L h) : aln h 57 = some 4 := by unfold aln; rw [sh_57 hL]; rfl
theorem sh_58 {L : Nat} {h : mH} (hL : LyM L h) : h.1[58]? = some (10, 48) := by rw [hL.1]; rfl
theorem r_58 {L : Nat} {h : mH} (hL : LyM L h) {j : Int} (h0 : 0 ≤ j) (h1 : j < 48) : ald 10 h 58 j = some (h.2 58 j.toNat) := by unfold ald; rw [sh_58 hL]; exact if_pos ⟨rfl, h0, h1, by decide⟩
theorem w_58 {L : Nat} {h : mH} (hL : LyM L h) {j : Int} (h0 : 0 ≤ j) (h1 : j < 48) (v : Int) : ast h 58 j v = some (mw h 58 j.toNat v) := by unfold ast; rw [sh_58 hL]; exact if_pos ⟨rfl, h0, h1, by decide⟩
theorem n_58 {L : Nat} {h : mH} (hL : LyM L h) : aln h 58 = some 48 := by unfold aln; rw [sh_58 hL]; rfl
theorem sh_59 {L : Nat} {h : mH} (hL : LyM L h) : h.1[59]? = some (10, 12) := by rw [hL.1]; rfl
theorem r_59 {L : Nat} {h : mH} (hL : LyM L h) {j : Int} (h0 : 0 ≤ j) (h1 : j < 12) : ald 10 h 59 j = some (h.2 59 j.toNat) := by unfold ald; rw [sh_59 hL]; exact if_pos ⟨rfl, h0, h1, by decide⟩
theorem w_59 {L : Nat} {h : mH} (hL : LyM L h) {j : Int} (h0 : 0 ≤ j) (h1 : j < 12) (v : Int) : ast h 59 j v = some (mw h 59 j.toNat v) := by unfold ast; rw [sh_59 hL]; exact if_pos ⟨rfl, h0, h1, by decide⟩
theorem n_59 {L : Nat} {h : mH} (hL : LyM L h) : aln h 59 = some 12 := by unfold aln; rw [sh_59 hL]; rfl
theorem sh_60 {L : Nat} {h : mH} (hL : LyM L h) : h.1[60]? = some (10, 16) := by rw [hL.1]; rfl
theorem r_60 {L : Nat} {h : mH} (hL : LyM L h) {j : Int} (h0 : 0 ≤ j) (h1 : j < 16) : ald 10 h 60 j = some (h.2 60 j.toNat) := by unfold ald; rw [sh_60 hL]; exact if_pos ⟨rfl, h0, h1, by decide⟩
theorem w_60 {L : Nat} {h : mH} (hL : LyM L h) {j : Int} (h0 : 0 ≤ j) (h1 : j < 16) (v : Int) : ast h 60 j v = some (mw h 60 j.toNat v) := by unfold ast; rw [sh_60 hL]; exact if_pos ⟨rfl, h0, h1, by decide⟩
theorem n_60 {L : Nat} {h : mH} (hL : LyM L h) : aln h 60 = some 16 := by unfold aln; rw [sh_60 hL]; rfl
theorem p_6_0 {L : Nat} {h : mH} (hL : Ly L h) : gfd 5 0 h 6 = some 7 := by rw [g_6 hL (by decide), hL.2 6 0 7 rfl]
theorem p_6_1 {L : Nat} {h : mH} (hL : Ly L h) : gfd 5 1 h 6 = some 11 := by rw [g_6 hL (by decide), hL.2 6 1 11 rfl]
theorem p_6_2 {L : Nat} {h : mH} (hL : Ly L h) : gfd 5 2 h 6 = some 13 := by rw [g_6 hL (by decide), hL.2 6 2 13 rfl]
theorem p_6_3 {L : Nat} {h : mH} (hL : Ly L h) : gfd 5 3 h 6 = some 15 := by rw [g_6 hL (by decide), hL.2 6 3 15 rfl]
theorem p_6_4 {L : Nat} {h : mH} (hL : Ly L h) : gfd 5 4 h 6 = some 22 := by rw [g_6 hL (by decide), hL.2 6 4 22 rfl]
theorem p_6_5 {L : Nat} {h : mH} (hL : Ly L h) : gfd 5 5 h 6 = some 29 := by rw [g_6 hL (by decide), hL.2 6 5 29 rfl]
theorem p_6_6 {L : Nat} {h : mH} (hL : Ly L h) : gfd 5 6 h 6 = some 39 := by rw [g_6 hL (by decide), hL.2 6 6 39 rfl]
theorem p_7_0 {L : Nat} {h : mH} (hL : Ly L h) : gfd 4 0 h 7 = some 8 := by rw [g_7 hL (by decide), hL.2 7 0 8 rfl]
theorem p_7_1 {L : Nat} {h : mH} (hL : Ly L h) : gfd 4 1 h 7 = some 10 := by rw [g_7 hL (by decide), hL.2 7 1 10 rfl]
theorem p_8_0 {L : Nat} {h : mH} (hL : Ly L h) : gfd 2 0 h 8 = some 9 := by rw [g_8 hL (by decide), hL.2 8 0 9 rfl]
theorem p_11_0 {L : Nat} {h : mH} (hL : Ly L h) : gfd 2 0 h 11 = some 12 := by rw [g_11 hL (by decide), hL.2 11 0 12 rfl]
theorem p_13_0 {L : Nat} {h : mH} (hL : Ly L h) : gfd 2 0 h 13 = some 14 := by rw [g_13 hL (by decide), hL.2 13 0 14 rfl]
theorem p_15_1 {L : Nat} {h : mH} (hL : Ly L h) : gfd 0 1 h 15 = some 18 := by rw [g_15 hL (by decide), hL.2 15 1 18 rfl]
theorem p_15_2 {L : Nat} {h : mH} (hL : Ly L h) : gfd 0 2 h 15 = some 19 := by rw [g_15 hL (by decide), hL.2 15 2 19 rfl]
theorem p_15_3 {L : Nat} {h : mH} (hL : Ly L h) : gfd 0 3 h 15 = some 20 := by rw [g_15 hL (by decide), hL.2 15 3 20 rfl]
theorem p_15_4 {L : Nat} {h : mH} (hL : Ly L h) : gfd 0 4 h 15 = some 21 := by rw [g_15 hL (by decide), hL.2 15 4 21 rfl]
theorem p_16_0 {L : Nat} {h : mH} (hL : Ly L h) : gfd 2 0 h 16 = some 17 := by rw [g_16 hL (by decide), hL.2 16 0 17 rfl]
theorem p_22_1 {L : Nat} {h : mH} (hL : Ly L h) : gfd 1 1 h 22 = some 25 := by rw [g_22 hL (by decide), hL.2 22 1 25 rfl]
theorem p_22_2 {L : Nat} {h : mH} (hL : Ly L h) : gfd 1 2 h 22 = some 26 := by rw [g_22 hL (by decide), hL.2 22 2 26 rfl]
theorem p_22_3 {L : Nat} {h : mH} (hL : Ly L h) : gfd 1 3 h 22 = some 27 := by rw [g_22 hL (by decide), hL.2 22 3 27 rfl]
theorem p_22_4 {L : Nat} {h : mH} (hL : Ly L h) : gfd 1 4 h 22 = some 28 := by rw [g_22 hL (by decide), hL.2 22 4 28 rfl]
theorem p_23_0 {L : Nat} {h : mH} (hL : Ly L h) : gfd 2 0 h 23 = some 24 := by rw [g_23 hL (by decide), hL.2 23 0 24 rfl]
theorem p_29_0 {L : Nat} {h : mH} (hL : Ly L h) : gfd 3 0 h 29 = some 30 := by rw [g_29 hL (by decide), hL.2 29 0 30 rfl]
theorem p_39_0 {L : Nat} {h : mH} (hL : Ly L h) : gfd 3 0 h 39 = some 40 := by rw [g_39 hL (by decide), hL.2 39 0 40 rfl]
theorem p_43_1 {L : Nat} {h : mH} (hL : LyM L h) : gfd 6 1 h 43 = some 44 := by rw [g_43 hL (by decide), hL.2 43 1 44 rfl]
theorem p_43_2 {L : Nat} {h : mH} (hL : LyM L h) : gfd 6 2 h 43 = some 45 := by rw [g_43 hL (by decide), hL.2 43 2 45 rfl]
theorem p_43_4 {L : Nat} {h : mH} (hL : LyM L h) : gfd 6 4 h 43 = some 46 := by rw [g_43 hL (by decide), hL.2 43 4 46 rfl]
theorem p_43_5 {L : Nat} {h : mH} (hL : LyM L h) : gfd 6 5 h 43 = some 47 := by rw [g_43 hL (by decide), hL.2 43 5 47 rfl]
theorem p_43_7 {L : Nat} {h : mH} (hL : LyM L h) : gfd 6 7 h 43 = some 48 := by rw [g_43 hL (by decide), hL.2 43 7 48 rfl]
theorem p_43_8 {L : Nat} {h : mH} (hL : LyM L h) : gfd 6 8 h 43 = some 49 := by rw [g_43 hL (by decide), hL.2 43 8 49 rfl]
theorem p_43_10 {L : Nat} {h : mH} (hL : LyM L h) : gfd 6 10 h 43 = some 50 := by rw [g_43 hL (by decide), hL.2 43 10 50 rfl]
theorem p_43_11 {L : Nat} {h : mH} (hL : LyM L h) : gfd 6 11 h 43 = some 51 := by rw [g_43 hL (by decide), hL.2 43 11 51 rfl]
theorem p_43_12 {L : Nat} {h : mH} (hL : LyM L h) : gfd 6 12 h 43 = some 52 := by rw [g_43 hL (by decide), hL.2 43 12 52 rfl]
theorem p_43_14 {L : Nat} {h : mH} (hL : LyM L h) : gfd 6 14 h 43 = some 53 := by rw [g_43 hL (by decide), hL.2 43 14 53 rfl]
theorem p_43_18 {L : Nat} {h : mH} (hL : LyM L h) : gfd 6 18 h 43 = some 54 := by rw [g_43 hL (by decide), hL.2 43 18 54 rfl]
theorem p_43_22 {L : Nat} {h : mH} (hL : LyM L h) : gfd 6 22 h 43 = some 55 := by rw [g_43 hL (by decide), hL.2 43 22 55 rfl]
theorem p_43_23 {L : Nat} {h : mH} (hL : LyM L h) : gfd 6 23 h 43 = some 56 := by rw [g_43 hL (by decide), hL.2 43 23 56 rfl]
theorem p_43_28 {L : Nat} {h : mH} (hL : LyM L h) : gfd 6 28 h 43 = some 57 := by rw [g_43 hL (by decide), hL.2 43 28 57 rfl]
theorem p_43_29 {L : Nat} {h : mH} (hL : LyM L h) : gfd 6 29 h 43 = some 58 := by rw [g_43 hL (by decide), hL.2 43 29 58 rfl]
theorem p_43_30 {L : Nat} {h : mH} (hL : LyM L h) : gfd 6 30 h 43 = some 59 := by rw [g_43 hL (by decide), hL.2 43 30 59 rfl]
theorem p_43_31 {L : Nat} {h : mH} (hL : LyM L h) : gfd 6 31 h 43 = some 60 := by rw [g_43 hL (by decide), hL.2 43 31 60 rfl]
-- OPERANDS and DRAWN
theorem sh_2 {L : Nat} {h : mH} (hL : Ly L h) : h.1[2]? = some (10, 42) := by obtain ⟨s, e⟩ := hL.1; rw [e]; rfl
theorem sh_3 {L : Nat} {h : mH} (hL : Ly L h) : h.1[3]? = some (10, 5) := by obtain ⟨s, e⟩ := hL.1; rw [e]; rfl
theorem sh_1 {L : Nat} {h : mH} (hL : Ly L h) : h.1[1]? = some (10, L) := by obtain ⟨s, e⟩ := hL.1; rw [e]; rfl
theorem r_2 {L : Nat} {h : mH} (hL : Ly L h) {j : Int} (h0 : 0 ≤ j) (h1 : j < 42) : ald 10 h 2 j = some (h.2 2 j.toNat) := by unfold ald; rw [sh_2 hL]; exact if_pos ⟨rfl, h0, h1, by decide⟩
theorem n_2 {L : Nat} {h : mH} (hL : Ly L h) : aln h 2 = some 42 := by unfold aln; rw [sh_2 hL]; rfl
theorem r_3 {L : Nat} {h : mH} (hL : Ly L h) {j : Int} (h0 : 0 ≤ j) (h1 : j < 5) : ald 10 h 3 j = some (h.2 3 j.toNat) := by unfold ald; rw [sh_3 hL]; exact if_pos ⟨rfl, h0, h1, by decide⟩
theorem n_3 {L : Nat} {h : mH} (hL : Ly L h) : aln h 3 = some 5 := by unfold aln; rw [sh_3 hL]; rfl
theorem mw_o (h : mH) {a b : Nat} (j : Nat) (v : Int) (hne : b ≠ a) : (mw h a j v).2 b = h.2 b := mw_ne h j v hne
theorem mw_s (h : mH) (a j : Nat) (v : Int) : (mw h a j v).2 a j = v := by rw [mw_at, if_pos rfl]
theorem mw_d (h : mH) {a j k : Nat} (v : Int) (hne : k ≠ j) : (mw h a j v).2 a k = h.2 a k := by rw [mw_at, if_neg hne]
-- model fields: 0 sorts, 1 fields, 2 field, 3 labels, 4 high, 5 stack, 6 newSorts, 7 newFields, 8 newField, 9 newLabels, 10 newHigh, 11 newStack, 12 newSlot, 13 meant, 14 slot, 15 acts, 16 kept, 17 length, 18 text, 19 next, 20 place, 21 isWrong, 22 register, 23 pile, 24 piled, 25 isBelow, 26 refusedAt, 27 reason, 28 holds, 29 heap, 30 sortAt, 31 things, 32 height, 33 tuples, 34 pc, 35 at, 36 how
theorem LyM_Ly {L : Nat} {h : mH} (hL : LyM L h) : Ly L h := by
  refine ⟨⟨(shm L).drop 43, hL.1.trans rfl⟩, fun a j v e => hL.2 a j v ?_⟩
  unfold ptr at e
  unfold ptm
  split at e
  all_goals first
    | exact e
    | cases e
