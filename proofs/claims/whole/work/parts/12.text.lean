/-! the String constant: its length, its letters -/
section Steps
variable {G : mG} {l : Launch} {mi pc : Nat} {ls ls' : mL} {st : List mV} {h : mH}
theorem s_slen {k t : Nat} {x : Int} {r : List mV} (d : decode (codeOf mi) pc = .ok (.invokevirtual k, 3)) (hk : invOf (mown mi) k = some (6, t)) (hc : catS r ≤ 8) (hd : 2 ≤ mdep mi) (hx : aln h 5 = some x) : St1 G l mi pc ls (.inr (.inr 4) :: r) h (pc + 3) ls (.inl x :: r) := sorry
theorem s_sat {k t : Nat} {i x : Int} {r : List mV} (d : decode (codeOf mi) pc = .ok (.invokevirtual k, 3)) (hk : invOf (mown mi) k = some (7, t)) (hc : catS r ≤ 8) (hd : 5 ≤ mdep mi) (hx : ald 11 h 5 i = some x) : St1 G l mi pc ls (.inl i :: .inr (.inr 4) :: r) h (pc + 3) ls (.inl x :: r) := sorry
end Steps
