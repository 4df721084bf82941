/-! ===== the reference's cells: the object at 73, its arrays at 74 .. 110 ===== -/
def mcl (k : Nat) : Nat × Nat := ([(1, 1536), (1, 256), (0, 24), (0, 24), (0, 6), (0, 36), (0, 36), (0, 36), (0, 36), (0, 6), (0, 24), (0, 24), (0, 24), (0, 24), (0, 24), (0, 24), (0, 24), (0, 24), (0, 6), (0, 2400), (0, 32), (0, 800), (0, 289), (0, 289), (0, 289), (0, 289), (0, 289), (1, 272), (1, 272), (1, 289), (1, 289), (0, 256), (1, 256), (0, 1024), (0, 1024), (0, 400), (0, 1600)] : List (Nat × Nat)).getD (k - 74) (0, 0)
abbrev AS : Type := Nat → Nat → Int32
abbrev mob (I : Nat → Int32) : mm_E := .inr (12, [.ref 74, .ref 75, .ref 76, .ref 77, .int (I 4), .ref 78, .ref 79, .ref 80, .ref 81, .ref 82, .ref 83, .ref 84, .ref 85, .ref 86, .ref 87, .ref 88, .ref 89, .ref 90, .ref 91, .int (I 19), .int (I 20), .int (I 21), .int (I 22), .int (I 23), .ref 92, .ref 93, .ref 94, .ref 95, .int (I 28), .ref 96, .ref 97, .int (I 31), .ref 98, .ref 99, .ref 100, .int (I 35), .int (I 36), .ref 101, .ref 102, .ref 103, .ref 104, .ref 105, .ref 106, .ref 107, .int (I 44), .ref 108, .int (I 46), .ref 109, .int (I 48), .ref 110, .int (I 50)])
def mdm (M : mm_M) (A : AS) (I : Nat → Int32) : mm_M := (fun k => if k = 73 then some (mob I) else if 74 ≤ k ∧ k ≤ 110 then some (.inl ((mcl k).1, (mcl k).2, .inl (A k))) else M.1 k, M.2)
def upa (A : AS) (k : Nat) (f : Nat → Int32) : AS := fun j => if j = k then f else A j
section P43
variable {S : mm_S} {d : Nat} {M : mm_M} {A : AS} {I : Nat → Int32}
theorem upa_e {k : Nat} {f : Nat → Int32} : upa A k f k = f := if_pos rfl
theorem upa_n {k j : Nat} {f : Nat → Int32} (h : j ≠ k) : upa A k f j = A j := if_neg h
theorem upa_u {k : Nat} {f g : Nat → Int32} : upa (upa A k f) k g = upa A k g := by
  funext j
  unfold upa
  split <;> rfl
theorem upa_s {k : Nat} : upa A k (A k) = A := by
  funext j
  unfold upa
  split
  · rename_i h; rw [h]
  · rfl
theorem md_73 : (mdm M A I).1 73 = some (mob I) := rfl
theorem md_o {k : Nat} (h : k < 73 ∨ 110 < k) : (mdm M A I).1 k = M.1 k := by
  unfold mdm
  dsimp only
  rw [if_neg (by omega), if_neg (by omega)]
theorem md_pa {k : Nat} {f : Nat → Int32} (hk : 74 ≤ k ∧ k ≤ 110) : mm_put (mdm M A I) k (.inl ((mcl k).1, (mcl k).2, .inl f)) = mdm M (upa A k f) I := by
  unfold mm_put mm_u mdm
  congr 1
  funext j
  by_cases h : j = k
  · subst h
    dsimp only
    rw [if_pos rfl, if_neg (by omega), if_pos hk, upa_e]
  · dsimp only
    rw [if_neg h, upa_n h]
theorem md_74 : (mdm M A I).1 74 = some (.inl (1, 1536, .inl (A 74))) := rfl
theorem md_p74 {f : Nat → Int32} : mm_put (mdm M A I) 74 (.inl (1, 1536, .inl f)) = mdm M (upa A 74 f) I := md_pa (k := 74) (by decide)
theorem md_75 : (mdm M A I).1 75 = some (.inl (1, 256, .inl (A 75))) := rfl
theorem md_p75 {f : Nat → Int32} : mm_put (mdm M A I) 75 (.inl (1, 256, .inl f)) = mdm M (upa A 75 f) I := md_pa (k := 75) (by decide)
theorem md_76 : (mdm M A I).1 76 = some (.inl (0, 24, .inl (A 76))) := rfl
theorem md_p76 {f : Nat → Int32} : mm_put (mdm M A I) 76 (.inl (0, 24, .inl f)) = mdm M (upa A 76 f) I := md_pa (k := 76) (by decide)
theorem md_77 : (mdm M A I).1 77 = some (.inl (0, 24, .inl (A 77))) := rfl
theorem md_p77 {f : Nat → Int32} : mm_put (mdm M A I) 77 (.inl (0, 24, .inl f)) = mdm M (upa A 77 f) I := md_pa (k := 77) (by decide)
theorem md_78 : (mdm M A I).1 78 = some (.inl (0, 6, .inl (A 78))) := rfl
theorem md_p78 {f : Nat → Int32} : mm_put (mdm M A I) 78 (.inl (0, 6, .inl f)) = mdm M (upa A 78 f) I := md_pa (k := 78) (by decide)
theorem md_79 : (mdm M A I).1 79 = some (.inl (0, 36, .inl (A 79))) := rfl
theorem md_p79 {f : Nat → Int32} : mm_put (mdm M A I) 79 (.inl (0, 36, .inl f)) = mdm M (upa A 79 f) I := md_pa (k := 79) (by decide)
theorem md_80 : (mdm M A I).1 80 = some (.inl (0, 36, .inl (A 80))) := rfl
theorem md_p80 {f : Nat → Int32} : mm_put (mdm M A I) 80 (.inl (0, 36, .inl f)) = mdm M (upa A 80 f) I := md_pa (k := 80) (by decide)
theorem md_81 : (mdm M A I).1 81 = some (.inl (0, 36, .inl (A 81))) := rfl
theorem md_p81 {f : Nat → Int32} : mm_put (mdm M A I) 81 (.inl (0, 36, .inl f)) = mdm M (upa A 81 f) I := md_pa (k := 81) (by decide)
theorem md_82 : (mdm M A I).1 82 = some (.inl (0, 36, .inl (A 82))) := rfl
theorem md_p82 {f : Nat → Int32} : mm_put (mdm M A I) 82 (.inl (0, 36, .inl f)) = mdm M (upa A 82 f) I := md_pa (k := 82) (by decide)
theorem md_83 : (mdm M A I).1 83 = some (.inl (0, 6, .inl (A 83))) := rfl
theorem md_p83 {f : Nat → Int32} : mm_put (mdm M A I) 83 (.inl (0, 6, .inl f)) = mdm M (upa A 83 f) I := md_pa (k := 83) (by decide)
theorem md_84 : (mdm M A I).1 84 = some (.inl (0, 24, .inl (A 84))) := rfl
theorem md_p84 {f : Nat → Int32} : mm_put (mdm M A I) 84 (.inl (0, 24, .inl f)) = mdm M (upa A 84 f) I := md_pa (k := 84) (by decide)
theorem md_85 : (mdm M A I).1 85 = some (.inl (0, 24, .inl (A 85))) := rfl
theorem md_p85 {f : Nat → Int32} : mm_put (mdm M A I) 85 (.inl (0, 24, .inl f)) = mdm M (upa A 85 f) I := md_pa (k := 85) (by decide)
theorem md_86 : (mdm M A I).1 86 = some (.inl (0, 24, .inl (A 86))) := rfl
theorem md_p86 {f : Nat → Int32} : mm_put (mdm M A I) 86 (.inl (0, 24, .inl f)) = mdm M (upa A 86 f) I := md_pa (k := 86) (by decide)
theorem md_87 : (mdm M A I).1 87 = some (.inl (0, 24, .inl (A 87))) := rfl
theorem md_p87 {f : Nat → Int32} : mm_put (mdm M A I) 87 (.inl (0, 24, .inl f)) = mdm M (upa A 87 f) I := md_pa (k := 87) (by decide)
theorem md_88 : (mdm M A I).1 88 = some (.inl (0, 24, .inl (A 88))) := rfl
theorem md_p88 {f : Nat → Int32} : mm_put (mdm M A I) 88 (.inl (0, 24, .inl f)) = mdm M (upa A 88 f) I := md_pa (k := 88) (by decide)
theorem md_89 : (mdm M A I).1 89 = some (.inl (0, 24, .inl (A 89))) := rfl
theorem md_p89 {f : Nat → Int32} : mm_put (mdm M A I) 89 (.inl (0, 24, .inl f)) = mdm M (upa A 89 f) I := md_pa (k := 89) (by decide)
theorem md_90 : (mdm M A I).1 90 = some (.inl (0, 24, .inl (A 90))) := rfl
theorem md_p90 {f : Nat → Int32} : mm_put (mdm M A I) 90 (.inl (0, 24, .inl f)) = mdm M (upa A 90 f) I := md_pa (k := 90) (by decide)
theorem md_91 : (mdm M A I).1 91 = some (.inl (0, 24, .inl (A 91))) := rfl
theorem md_p91 {f : Nat → Int32} : mm_put (mdm M A I) 91 (.inl (0, 24, .inl f)) = mdm M (upa A 91 f) I := md_pa (k := 91) (by decide)
theorem md_92 : (mdm M A I).1 92 = some (.inl (0, 6, .inl (A 92))) := rfl
theorem md_p92 {f : Nat → Int32} : mm_put (mdm M A I) 92 (.inl (0, 6, .inl f)) = mdm M (upa A 92 f) I := md_pa (k := 92) (by decide)
theorem md_93 : (mdm M A I).1 93 = some (.inl (0, 2400, .inl (A 93))) := rfl
theorem md_p93 {f : Nat → Int32} : mm_put (mdm M A I) 93 (.inl (0, 2400, .inl f)) = mdm M (upa A 93 f) I := md_pa (k := 93) (by decide)
theorem md_94 : (mdm M A I).1 94 = some (.inl (0, 32, .inl (A 94))) := rfl
theorem md_p94 {f : Nat → Int32} : mm_put (mdm M A I) 94 (.inl (0, 32, .inl f)) = mdm M (upa A 94 f) I := md_pa (k := 94) (by decide)
theorem md_95 : (mdm M A I).1 95 = some (.inl (0, 800, .inl (A 95))) := rfl
theorem md_p95 {f : Nat → Int32} : mm_put (mdm M A I) 95 (.inl (0, 800, .inl f)) = mdm M (upa A 95 f) I := md_pa (k := 95) (by decide)
theorem md_96 : (mdm M A I).1 96 = some (.inl (0, 289, .inl (A 96))) := rfl
theorem md_p96 {f : Nat → Int32} : mm_put (mdm M A I) 96 (.inl (0, 289, .inl f)) = mdm M (upa A 96 f) I := md_pa (k := 96) (by decide)
theorem md_97 : (mdm M A I).1 97 = some (.inl (0, 289, .inl (A 97))) := rfl
theorem md_p97 {f : Nat → Int32} : mm_put (mdm M A I) 97 (.inl (0, 289, .inl f)) = mdm M (upa A 97 f) I := md_pa (k := 97) (by decide)
theorem md_98 : (mdm M A I).1 98 = some (.inl (0, 289, .inl (A 98))) := rfl
theorem md_p98 {f : Nat → Int32} : mm_put (mdm M A I) 98 (.inl (0, 289, .inl f)) = mdm M (upa A 98 f) I := md_pa (k := 98) (by decide)
theorem md_99 : (mdm M A I).1 99 = some (.inl (0, 289, .inl (A 99))) := rfl
theorem md_p99 {f : Nat → Int32} : mm_put (mdm M A I) 99 (.inl (0, 289, .inl f)) = mdm M (upa A 99 f) I := md_pa (k := 99) (by decide)
theorem md_100 : (mdm M A I).1 100 = some (.inl (0, 289, .inl (A 100))) := rfl
theorem md_p100 {f : Nat → Int32} : mm_put (mdm M A I) 100 (.inl (0, 289, .inl f)) = mdm M (upa A 100 f) I := md_pa (k := 100) (by decide)
theorem md_101 : (mdm M A I).1 101 = some (.inl (1, 272, .inl (A 101))) := rfl
theorem md_p101 {f : Nat → Int32} : mm_put (mdm M A I) 101 (.inl (1, 272, .inl f)) = mdm M (upa A 101 f) I := md_pa (k := 101) (by decide)
theorem md_102 : (mdm M A I).1 102 = some (.inl (1, 272, .inl (A 102))) := rfl
theorem md_p102 {f : Nat → Int32} : mm_put (mdm M A I) 102 (.inl (1, 272, .inl f)) = mdm M (upa A 102 f) I := md_pa (k := 102) (by decide)
theorem md_103 : (mdm M A I).1 103 = some (.inl (1, 289, .inl (A 103))) := rfl
theorem md_p103 {f : Nat → Int32} : mm_put (mdm M A I) 103 (.inl (1, 289, .inl f)) = mdm M (upa A 103 f) I := md_pa (k := 103) (by decide)
theorem md_104 : (mdm M A I).1 104 = some (.inl (1, 289, .inl (A 104))) := rfl
theorem md_p104 {f : Nat → Int32} : mm_put (mdm M A I) 104 (.inl (1, 289, .inl f)) = mdm M (upa A 104 f) I := md_pa (k := 104) (by decide)
theorem md_105 : (mdm M A I).1 105 = some (.inl (0, 256, .inl (A 105))) := rfl
theorem md_p105 {f : Nat → Int32} : mm_put (mdm M A I) 105 (.inl (0, 256, .inl f)) = mdm M (upa A 105 f) I := md_pa (k := 105) (by decide)
theorem md_106 : (mdm M A I).1 106 = some (.inl (1, 256, .inl (A 106))) := rfl
theorem md_p106 {f : Nat → Int32} : mm_put (mdm M A I) 106 (.inl (1, 256, .inl f)) = mdm M (upa A 106 f) I := md_pa (k := 106) (by decide)
theorem md_107 : (mdm M A I).1 107 = some (.inl (0, 1024, .inl (A 107))) := rfl
theorem md_p107 {f : Nat → Int32} : mm_put (mdm M A I) 107 (.inl (0, 1024, .inl f)) = mdm M (upa A 107 f) I := md_pa (k := 107) (by decide)
theorem md_108 : (mdm M A I).1 108 = some (.inl (0, 1024, .inl (A 108))) := rfl
theorem md_p108 {f : Nat → Int32} : mm_put (mdm M A I) 108 (.inl (0, 1024, .inl f)) = mdm M (upa A 108 f) I := md_pa (k := 108) (by decide)
theorem md_109 : (mdm M A I).1 109 = some (.inl (0, 400, .inl (A 109))) := rfl
theorem md_p109 {f : Nat → Int32} : mm_put (mdm M A I) 109 (.inl (0, 400, .inl f)) = mdm M (upa A 109 f) I := md_pa (k := 109) (by decide)
theorem md_110 : (mdm M A I).1 110 = some (.inl (0, 1600, .inl (A 110))) := rfl
theorem md_p110 {f : Nat → Int32} : mm_put (mdm M A I) 110 (.inl (0, 1600, .inl f)) = mdm M (upa A 110 f) I := md_pa (k := 110) (by decide)
theorem md_f4 {v : Int32} : mm_put (mdm M A I) 73 (.inr (12, [.ref 74, .ref 75, .ref 76, .ref 77, .int v, .ref 78, .ref 79, .ref 80, .ref 81, .ref 82, .ref 83, .ref 84, .ref 85, .ref 86, .ref 87, .ref 88, .ref 89, .ref 90, .ref 91, .int (I 19), .int (I 20), .int (I 21), .int (I 22), .int (I 23), .ref 92, .ref 93, .ref 94, .ref 95, .int (I 28), .ref 96, .ref 97, .int (I 31), .ref 98, .ref 99, .ref 100, .int (I 35), .int (I 36), .ref 101, .ref 102, .ref 103, .ref 104, .ref 105, .ref 106, .ref 107, .int (I 44), .ref 108, .int (I 46), .ref 109, .int (I 48), .ref 110, .int (I 50)])) = mdm M A (upd I 4 v) := by
  unfold mm_put mm_u mdm
  congr 1
  funext j
  by_cases h : j = 73
  · subst h; rfl
  · dsimp only
    rw [if_neg h, if_neg h, if_neg h]
theorem md_f19 {v : Int32} : mm_put (mdm M A I) 73 (.inr (12, [.ref 74, .ref 75, .ref 76, .ref 77, .int (I 4), .ref 78, .ref 79, .ref 80, .ref 81, .ref 82, .ref 83, .ref 84, .ref 85, .ref 86, .ref 87, .ref 88, .ref 89, .ref 90, .ref 91, .int v, .int (I 20), .int (I 21), .int (I 22), .int (I 23), .ref 92, .ref 93, .ref 94, .ref 95, .int (I 28), .ref 96, .ref 97, .int (I 31), .ref 98, .ref 99, .ref 100, .int (I 35), .int (I 36), .ref 101, .ref 102, .ref 103, .ref 104, .ref 105, .ref 106, .ref 107, .int (I 44), .ref 108, .int (I 46), .ref 109, .int (I 48), .ref 110, .int (I 50)])) = mdm M A (upd I 19 v) := by
  unfold mm_put mm_u mdm
  congr 1
  funext j
  by_cases h : j = 73
  · subst h; rfl
  · dsimp only
    rw [if_neg h, if_neg h, if_neg h]
theorem md_f20 {v : Int32} : mm_put (mdm M A I) 73 (.inr (12, [.ref 74, .ref 75, .ref 76, .ref 77, .int (I 4), .ref 78, .ref 79, .ref 80, .ref 81, .ref 82, .ref 83, .ref 84, .ref 85, .ref 86, .ref 87, .ref 88, .ref 89, .ref 90, .ref 91, .int (I 19), .int v, .int (I 21), .int (I 22), .int (I 23), .ref 92, .ref 93, .ref 94, .ref 95, .int (I 28), .ref 96, .ref 97, .int (I 31), .ref 98, .ref 99, .ref 100, .int (I 35), .int (I 36), .ref 101, .ref 102, .ref 103, .ref 104, .ref 105, .ref 106, .ref 107, .int (I 44), .ref 108, .int (I 46), .ref 109, .int (I 48), .ref 110, .int (I 50)])) = mdm M A (upd I 20 v) := by
  unfold mm_put mm_u mdm
  congr 1
  funext j
  by_cases h : j = 73
  · subst h; rfl
  · dsimp only
    rw [if_neg h, if_neg h, if_neg h]
theorem md_f21 {v : Int32} : mm_put (mdm M A I) 73 (.inr (12, [.ref 74, .ref 75, .ref 76, .ref 77, .int (I 4), .ref 78, .ref 79, .ref 80, .ref 81, .ref 82, .ref 83, .ref 84, .ref 85, .ref 86, .ref 87, .ref 88, .ref 89, .ref 90, .ref 91, .int (I 19), .int (I 20), .int v, .int (I 22), .int (I 23), .ref 92, .ref 93, .ref 94, .ref 95, .int (I 28), .ref 96, .ref 97, .int (I 31), .ref 98, .ref 99, .ref 100, .int (I 35), .int (I 36), .ref 101, .ref 102, .ref 103, .ref 104, .ref 105, .ref 106, .ref 107, .int (I 44), .ref 108, .int (I 46), .ref 109, .int (I 48), .ref 110, .int (I 50)])) = mdm M A (upd I 21 v) := by
  unfold mm_put mm_u mdm
  congr 1
  funext j
  by_cases h : j = 73
  · subst h; rfl
  · dsimp only
    rw [if_neg h, if_neg h, if_neg h]
theorem md_f22 {v : Int32} : mm_put (mdm M A I) 73 (.inr (12, [.ref 74, .ref 75, .ref 76, .ref 77, .int (I 4), .ref 78, .ref 79, .ref 80, .ref 81, .ref 82, .ref 83, .ref 84, .ref 85, .ref 86, .ref 87, .ref 88, .ref 89, .ref 90, .ref 91, .int (I 19), .int (I 20), .int (I 21), .int v, .int (I 23), .ref 92, .ref 93, .ref 94, .ref 95, .int (I 28), .ref 96, .ref 97, .int (I 31), .ref 98, .ref 99, .ref 100, .int (I 35), .int (I 36), .ref 101, .ref 102, .ref 103, .ref 104, .ref 105, .ref 106, .ref 107, .int (I 44), .ref 108, .int (I 46), .ref 109, .int (I 48), .ref 110, .int (I 50)])) = mdm M A (upd I 22 v) := by
  unfold mm_put mm_u mdm
  congr 1
  funext j
  by_cases h : j = 73
  · subst h; rfl
  · dsimp only
    rw [if_neg h, if_neg h, if_neg h]
theorem md_f23 {v : Int32} : mm_put (mdm M A I) 73 (.inr (12, [.ref 74, .ref 75, .ref 76, .ref 77, .int (I 4), .ref 78, .ref 79, .ref 80, .ref 81, .ref 82, .ref 83, .ref 84, .ref 85, .ref 86, .ref 87, .ref 88, .ref 89, .ref 90, .ref 91, .int (I 19), .int (I 20), .int (I 21), .int (I 22), .int v, .ref 92, .ref 93, .ref 94, .ref 95, .int (I 28), .ref 96, .ref 97, .int (I 31), .ref 98, .ref 99, .ref 100, .int (I 35), .int (I 36), .ref 101, .ref 102, .ref 103, .ref 104, .ref 105, .ref 106, .ref 107, .int (I 44), .ref 108, .int (I 46), .ref 109, .int (I 48), .ref 110, .int (I 50)])) = mdm M A (upd I 23 v) := by
  unfold mm_put mm_u mdm
  congr 1
  funext j
  by_cases h : j = 73
  · subst h; rfl
  · dsimp only
    rw [if_neg h, if_neg h, if_neg h]
theorem md_f28 {v : Int32} : mm_put (mdm M A I) 73 (.inr (12, [.ref 74, .ref 75, .ref 76, .ref 77, .int (I 4), .ref 78, .ref 79, .ref 80, .ref 81, .ref 82, .ref 83, .ref 84, .ref 85, .ref 86, .ref 87, .ref 88, .ref 89, .ref 90, .ref 91, .int (I 19), .int (I 20), .int (I 21), .int (I 22), .int (I 23), .ref 92, .ref 93, .ref 94, .ref 95, .int v, .ref 96, .ref 97, .int (I 31), .ref 98, .ref 99, .ref 100, .int (I 35), .int (I 36), .ref 101, .ref 102, .ref 103, .ref 104, .ref 105, .ref 106, .ref 107, .int (I 44), .ref 108, .int (I 46), .ref 109, .int (I 48), .ref 110, .int (I 50)])) = mdm M A (upd I 28 v) := by
  unfold mm_put mm_u mdm
  congr 1
  funext j
  by_cases h : j = 73
  · subst h; rfl
  · dsimp only
    rw [if_neg h, if_neg h, if_neg h]
theorem md_f31 {v : Int32} : mm_put (mdm M A I) 73 (.inr (12, [.ref 74, .ref 75, .ref 76, .ref 77, .int (I 4), .ref 78, .ref 79, .ref 80, .ref 81, .ref 82, .ref 83, .ref 84, .ref 85, .ref 86, .ref 87, .ref 88, .ref 89, .ref 90, .ref 91, .int (I 19), .int (I 20), .int (I 21), .int (I 22), .int (I 23), .ref 92, .ref 93, .ref 94, .ref 95, .int (I 28), .ref 96, .ref 97, .int v, .ref 98, .ref 99, .ref 100, .int (I 35), .int (I 36), .ref 101, .ref 102, .ref 103, .ref 104, .ref 105, .ref 106, .ref 107, .int (I 44), .ref 108, .int (I 46), .ref 109, .int (I 48), .ref 110, .int (I 50)])) = mdm M A (upd I 31 v) := by
  unfold mm_put mm_u mdm
  congr 1
  funext j
  by_cases h : j = 73
  · subst h; rfl
  · dsimp only
    rw [if_neg h, if_neg h, if_neg h]
theorem md_f35 {v : Int32} : mm_put (mdm M A I) 73 (.inr (12, [.ref 74, .ref 75, .ref 76, .ref 77, .int (I 4), .ref 78, .ref 79, .ref 80, .ref 81, .ref 82, .ref 83, .ref 84, .ref 85, .ref 86, .ref 87, .ref 88, .ref 89, .ref 90, .ref 91, .int (I 19), .int (I 20), .int (I 21), .int (I 22), .int (I 23), .ref 92, .ref 93, .ref 94, .ref 95, .int (I 28), .ref 96, .ref 97, .int (I 31), .ref 98, .ref 99, .ref 100, .int v, .int (I 36), .ref 101, .ref 102, .ref 103, .ref 104, .ref 105, .ref 106, .ref 107, .int (I 44), .ref 108, .int (I 46), .ref 109, .int (I 48), .ref 110, .int (I 50)])) = mdm M A (upd I 35 v) := by
  unfold mm_put mm_u mdm
  congr 1
  funext j
  by_cases h : j = 73
  · subst h; rfl
  · dsimp only
    rw [if_neg h, if_neg h, if_neg h]
theorem md_f36 {v : Int32} : mm_put (mdm M A I) 73 (.inr (12, [.ref 74, .ref 75, .ref 76, .ref 77, .int (I 4), .ref 78, .ref 79, .ref 80, .ref 81, .ref 82, .ref 83, .ref 84, .ref 85, .ref 86, .ref 87, .ref 88, .ref 89, .ref 90, .ref 91, .int (I 19), .int (I 20), .int (I 21), .int (I 22), .int (I 23), .ref 92, .ref 93, .ref 94, .ref 95, .int (I 28), .ref 96, .ref 97, .int (I 31), .ref 98, .ref 99, .ref 100, .int (I 35), .int v, .ref 101, .ref 102, .ref 103, .ref 104, .ref 105, .ref 106, .ref 107, .int (I 44), .ref 108, .int (I 46), .ref 109, .int (I 48), .ref 110, .int (I 50)])) = mdm M A (upd I 36 v) := by
  unfold mm_put mm_u mdm
  congr 1
  funext j
  by_cases h : j = 73
  · subst h; rfl
  · dsimp only
    rw [if_neg h, if_neg h, if_neg h]
theorem md_f44 {v : Int32} : mm_put (mdm M A I) 73 (.inr (12, [.ref 74, .ref 75, .ref 76, .ref 77, .int (I 4), .ref 78, .ref 79, .ref 80, .ref 81, .ref 82, .ref 83, .ref 84, .ref 85, .ref 86, .ref 87, .ref 88, .ref 89, .ref 90, .ref 91, .int (I 19), .int (I 20), .int (I 21), .int (I 22), .int (I 23), .ref 92, .ref 93, .ref 94, .ref 95, .int (I 28), .ref 96, .ref 97, .int (I 31), .ref 98, .ref 99, .ref 100, .int (I 35), .int (I 36), .ref 101, .ref 102, .ref 103, .ref 104, .ref 105, .ref 106, .ref 107, .int v, .ref 108, .int (I 46), .ref 109, .int (I 48), .ref 110, .int (I 50)])) = mdm M A (upd I 44 v) := by
  unfold mm_put mm_u mdm
  congr 1
  funext j
  by_cases h : j = 73
  · subst h; rfl
  · dsimp only
    rw [if_neg h, if_neg h, if_neg h]
theorem md_f46 {v : Int32} : mm_put (mdm M A I) 73 (.inr (12, [.ref 74, .ref 75, .ref 76, .ref 77, .int (I 4), .ref 78, .ref 79, .ref 80, .ref 81, .ref 82, .ref 83, .ref 84, .ref 85, .ref 86, .ref 87, .ref 88, .ref 89, .ref 90, .ref 91, .int (I 19), .int (I 20), .int (I 21), .int (I 22), .int (I 23), .ref 92, .ref 93, .ref 94, .ref 95, .int (I 28), .ref 96, .ref 97, .int (I 31), .ref 98, .ref 99, .ref 100, .int (I 35), .int (I 36), .ref 101, .ref 102, .ref 103, .ref 104, .ref 105, .ref 106, .ref 107, .int (I 44), .ref 108, .int v, .ref 109, .int (I 48), .ref 110, .int (I 50)])) = mdm M A (upd I 46 v) := by
  unfold mm_put mm_u mdm
  congr 1
  funext j
  by_cases h : j = 73
  · subst h; rfl
  · dsimp only
    rw [if_neg h, if_neg h, if_neg h]
theorem md_f48 {v : Int32} : mm_put (mdm M A I) 73 (.inr (12, [.ref 74, .ref 75, .ref 76, .ref 77, .int (I 4), .ref 78, .ref 79, .ref 80, .ref 81, .ref 82, .ref 83, .ref 84, .ref 85, .ref 86, .ref 87, .ref 88, .ref 89, .ref 90, .ref 91, .int (I 19), .int (I 20), .int (I 21), .int (I 22), .int (I 23), .ref 92, .ref 93, .ref 94, .ref 95, .int (I 28), .ref 96, .ref 97, .int (I 31), .ref 98, .ref 99, .ref 100, .int (I 35), .int (I 36), .ref 101, .ref 102, .ref 103, .ref 104, .ref 105, .ref 106, .ref 107, .int (I 44), .ref 108, .int (I 46), .ref 109, .int v, .ref 110, .int (I 50)])) = mdm M A (upd I 48 v) := by
  unfold mm_put mm_u mdm
  congr 1
  funext j
  by_cases h : j = 73
  · subst h; rfl
  · dsimp only
    rw [if_neg h, if_neg h, if_neg h]
theorem md_f50 {v : Int32} : mm_put (mdm M A I) 73 (.inr (12, [.ref 74, .ref 75, .ref 76, .ref 77, .int (I 4), .ref 78, .ref 79, .ref 80, .ref 81, .ref 82, .ref 83, .ref 84, .ref 85, .ref 86, .ref 87, .ref 88, .ref 89, .ref 90, .ref 91, .int (I 19), .int (I 20), .int (I 21), .int (I 22), .int (I 23), .ref 92, .ref 93, .ref 94, .ref 95, .int (I 28), .ref 96, .ref 97, .int (I 31), .ref 98, .ref 99, .ref 100, .int (I 35), .int (I 36), .ref 101, .ref 102, .ref 103, .ref 104, .ref 105, .ref 106, .ref 107, .int (I 44), .ref 108, .int (I 46), .ref 109, .int (I 48), .ref 110, .int v])) = mdm M A (upd I 50 v) := by
  unfold mm_put mm_u mdm
  congr 1
  funext j
  by_cases h : j = 73
  · subst h; rfl
  · dsimp only
    rw [if_neg h, if_neg h, if_neg h]
theorem md_self {Z : mm_M} (h : Z.1 73 = some (mob I)) (g : ∀ k, 74 ≤ k → k ≤ 110 → Z.1 k = some (.inl ((mcl k).1, (mcl k).2, .inl (A k)))) : mdm Z A I = Z := by
  obtain ⟨m, z⟩ := Z
  unfold mdm
  congr 1
  funext k
  dsimp only at *
  by_cases h1 : k = 73
  · subst h1; rw [if_pos rfl]; exact h.symm
  · rw [if_neg h1]
    by_cases h2 : 74 ≤ k ∧ k ≤ 110
    · rw [if_pos h2]; exact (g k h2.1 h2.2).symm
    · rw [if_neg h2]
theorem md_md {A' : AS} {I' : Nat → Int32} : mdm (mdm M A I) A' I' = mdm M A' I' := by
  unfold mdm
  congr 1
  funext k
  dsimp only
  split
  · rfl
  · split <;> rfl
end P43
/-! ===== how the reference's cells hold the state ===== -/
def CRl (A : AS) (sh : Nat → Nat → Int32) : Prop := ∀ s y x, s < 6 → y < 16 → x < 16 → A 74 (256 * s + 16 * y + x) = zb (bt (sh s y) x)
def ORl (A : AS) (I : Nat → Int32) (o : OS) : Prop := I 4 = nI o.1 ∧ ∀ i, i < o.1 → A 76 i = o.2.1 i ∧ A 77 i = o.2.2 i
def BRl (A : AS) (l : LYS) : Prop := ∀ c, c < 6 → (A 78 c = nI (l.1 c) ∧ A 83 c = nI (l.2.1 c)) ∧ (∀ k, k < l.1 c → A 79 (6 * c + k) = l.2.2.1 c (k * 4 + 0) ∧ A 80 (6 * c + k) = l.2.2.1 c (k * 4 + 1) ∧ A 81 (6 * c + k) = l.2.2.1 c (k * 4 + 2) ∧ A 82 (6 * c + k) = l.2.2.1 c (k * 4 + 3)) ∧ ∀ k, k < l.2.1 c → (A 84 (4 * c + k) = l.2.2.2.1 c (k * 8 + 0) ∧ A 87 (4 * c + k) = l.2.2.2.1 c (k * 8 + 1)) ∧ (A 85 (4 * c + k) = l.2.2.2.1 c (k * 8 + 2) ∧ A 86 (4 * c + k) = l.2.2.2.1 c (k * 8 + 3)) ∧ (A 88 (4 * c + k) = l.2.2.2.1 c (k * 8 + 4) ∧ A 89 (4 * c + k) = l.2.2.2.1 c (k * 8 + 5)) ∧ A 90 (4 * c + k) = l.2.2.2.1 c (k * 8 + 6) ∧ A 91 (4 * c + k) = l.2.2.2.1 c (k * 8 + 7)
def NRl (I : Nat → Int32) (nw : Nat → Int32) : Prop := (I 19 = nw 2 ∧ I 20 = nw 3 ∧ I 21 = nw 1) ∧ I 22 = nw 4 ∧ I 23 = nw 5
def IRl (A : AS) (I : Nat → Int32) (a j : Nat) (s : IS) : Prop := I j = nI s.1 ∧ ∀ k f, k < s.1 → f < 4 → A a (4 * k + f) = itv s.1 s.2 (nI k) (nI f)
def TRl (A : AS) (I : Nat → Int32) (s : IS) : Prop := I 48 = nI s.1 ∧ ∀ k, k < s.1 → A 109 k = s.2 k
def trn : Nat → Int32 := fun i => ([1, 0, 0, 1, 0, -1, 1, 0, -1, 0, 0, -1, 0, 1, -1, 0, -1, 0, 0, 1, 0, -1, -1, 0, 1, 0, 0, -1, 0, 1, 1, 0] : List Int32).getD i 0
def MRl (A : AS) (I : Nat → Int32) (sh : Nat → Nat → Int32) (o : OS) (l : LYS) (pi fa tp : IS) : Prop := CRl A sh ∧ ORl A I o ∧ BRl A l ∧ NRl I l.2.2.2.2 ∧ IRl A I 107 44 pi ∧ IRl A I 108 46 fa ∧ TRl A I tp ∧ ∀ i, i < 32 → A 94 i = trn i
def MI (M : mm_M) (sh : Nat → Nat → Int32) (o : OS) (l : LYS) (pi fa tp : IS) : Prop := ∃ A I, mdm M A I = M ∧ MRl A I sh o l pi fa tp
/-- what is true of the state alone -/
def VS (sh : Nat → Nat → Int32) (o : OS) (l : LYS) (pi fa tp : IS) : Prop := (∀ s, s < 6 → ∀ y, y < 16 → hb (sh s y)) ∧ (o.1 ≤ 24 ∧ (∀ i, i < o.1 → o.2.1 i = nI (oX o.2.1 i) ∧ oX o.2.1 i ≤ 16) ∧ ∀ i, i < o.1 → o.2.2 i = nI (oX o.2.2 i) ∧ oX o.2.2 i ≤ 16) ∧ ((∀ c, c < 6 → l.1 c ≤ 6 ∧ l.2.1 c ≤ 4) ∧ LYV l.1 l.2.1 l.2.2.1 l.2.2.2.1 ∧ nwk l.2.2.2.2) ∧ pi.1 ≤ 256 ∧ fa.1 ≤ 256 ∧ tp.1 ≤ 400 ∧ ∀ i, i < tp.1 → 0 ≤ (tp.2 i).toInt ∧ (tp.2 i).toInt ≤ 255
theorem CI_VS {M : mm_M} {sh : Nat → Nat → Int32} {o : OS} {l : LYS} {pi fa tp : IS} (h : CI M sh o l pi fa tp) : VS sh o l pi fa tp := by
  obtain ⟨hl1, hl2, hl3, -, -, hl6⟩ := ci_l h
  exact ⟨fun s hs => ((ci_h h) s hs).2, ⟨(ci_o h).1.2.2.2, (ci_o h).2.1, (ci_o h).2.2⟩, ⟨fun c hc => ⟨(hl2 c hc).2.2.2.1, (hl2 c hc).2.2.2.2⟩, hl3, hl6⟩, (ci_p h).2.2, (ci_f h).2.2, (ci_t h).1.2.2, (ci_t h).2⟩
def FM (M M' : mm_M) : Prop := M'.2 = M.2 ∧ ∀ k, k < 73 → M'.1 k = M.1 k
theorem FM_md {M : mm_M} {A A' : AS} {I I' : Nat → Int32} : FM (mdm M A I) (mdm M A' I') := ⟨rfl, fun k hk => by rw [md_o (Or.inl hk), md_o (Or.inl hk)]⟩
theorem MI_md {M : mm_M} {A : AS} {I : Nat → Int32} {sh : Nat → Nat → Int32} {o : OS} {l : LYS} {pi fa tp : IS} (h : MRl A I sh o l pi fa tp) : MI (mdm M A I) sh o l pi fa tp := ⟨A, I, md_md, h⟩
/-- the desk's cells do not see the reference's, nor the other way -/
theorem CI_FM {M M' : mm_M} {sh : Nat → Nat → Int32} {o : OS} {l : LYS} {pi fa tp : IS} (h : CI M sh o l pi fa tp) (g : FM M M') : CI M' sh o l pi fa tp := by
  obtain ⟨h0, h1, h2, h3, h4, h5, h6, h7, h8, h9, h10, h11, h12⟩ := h
  exact ⟨Q0_c h0 (fun k _ b => g.2 k (by omega)), Qs_c h1 (fun k _ b => g.2 k (by omega)), Qo_c h2 (fun k _ b => g.2 k (by omega)), Ql_c h3 (fun k _ b => g.2 k (by omega)), Qv_c h4 (fun k _ b => g.2 k (by omega)), Qc_c h5 (fun k _ b => g.2 k (by omega)), Qu_c h6 (fun k _ b => g.2 k (by omega)), Qp_c h7 (fun k _ b => g.2 k (by omega)), Qp_c h8 (fun k _ b => g.2 k (by omega)), Qt_c h9 (fun k _ b => g.2 k (by omega)), Qw_c h10 (fun k _ b => g.2 k (by omega)), Qr_c h11 (fun k _ b => g.2 k (by omega)), Qh_c h12 (fun k _ b => g.2 k (by omega))⟩
theorem MI_FR {M M' : mm_M} {sh : Nat → Nat → Int32} {o : OS} {l : LYS} {pi fa tp : IS} (h : MI M sh o l pi fa tp) (g : FR M M') : MI M' sh o l pi fa tp := by
  obtain ⟨A, I, h1, h2⟩ := h
  refine ⟨A, I, md_self ?_ (fun k h3 h4 => ?_), h2⟩
  · rw [g.2 73 (by decide), ← h1]; rfl
  · rw [g.2 k (by omega), ← h1]
    unfold mdm
    dsimp only
    rw [if_neg (by omega), if_pos ⟨h3, h4⟩]
section P43b
variable {S : mm_S} {d : Nat} {M : mm_M} {A : AS} {I : Nat → Int32} {sh : Nat → Nat → Int32} {o : OS} {l : LYS} {pi fa tp : IS}
theorem ikm_16 : (-16 : Int32).toInt = -16 := rfl
theorem ikm_32 : (-32 : Int32).toInt = -32 := rfl
theorem ikm_8 : (-8 : Int32).toInt = -8 := rfl
theorem ikm_1 : (-1 : Int32).toInt = -1 := rfl
theorem ik_1000 : (-1000 : Int32).toInt = -1000 := rfl
set_option maxRecDepth 8000 in
theorem m147 {x a b : Int32} {M : mm_M} : mm_R S d 147 0 (mm_en 147 [.int x, .int a, .int b]) [] M (fun v M' => v = some (.int (zb (decide (a.toInt ≤ x.toInt ∧ x.toInt ≤ b.toInt)))) ∧ M' = M) := by
  show mm_R S d 147 0 [some (.int x), some (.int a), some (.int b)] [] M _
  refine R_iload_n (q := 1) rfl rfl rfl ?_
  refine R_iload_n (q := 2) rfl rfl rfl ?_
  refine R_icmp_lt (q := 5) (t := 14) rfl rfl rfl (fun h2 => ?_) (fun h2 => ?_)
  · refine R_iconst (q := 15) (v := nI 0) rfl rfl (by decide) ?_
    refine R_zreturn rfl rfl (by first | exact Or.inl rfl | exact Or.inr rfl | assumption) ?_
    refine ⟨congrArg some (congrArg Value.int ?_), rfl⟩
    first
      | exact (zb_f (fun q => by rw [i_lt] at h2; omega)).symm
      | exact (zb_f (fun q => by rw [i_lt] at h7; omega)).symm
      | exact (zb_t (by rw [i_lt] at h2 h7; omega)).symm
  · refine R_iload_n (q := 6) rfl rfl rfl ?_
    refine R_iload_n (q := 7) rfl rfl rfl ?_
    refine R_icmp_gt (q := 10) (t := 14) rfl rfl rfl (fun h7 => ?_) (fun h7 => ?_)
    · refine R_iconst (q := 15) (v := nI 0) rfl rfl (by decide) ?_
      refine R_zreturn rfl rfl (by first | exact Or.inl rfl | exact Or.inr rfl | assumption) ?_
      refine ⟨congrArg some (congrArg Value.int ?_), rfl⟩
      first
        | exact (zb_f (fun q => by rw [i_lt] at h2; omega)).symm
        | exact (zb_f (fun q => by rw [i_lt] at h7; omega)).symm
        | exact (zb_t (by rw [i_lt] at h2 h7; omega)).symm
    · refine R_iconst (q := 11) (v := nI 1) rfl rfl (by decide) ?_
      refine R_goto (t := 15) rfl rfl ?_
      refine R_zreturn rfl rfl (by first | exact Or.inl rfl | exact Or.inr rfl | assumption) ?_
      refine ⟨congrArg some (congrArg Value.int ?_), rfl⟩
      first
        | exact (zb_f (fun q => by rw [i_lt] at h2; omega)).symm
        | exact (zb_f (fun q => by rw [i_lt] at h7; omega)).symm
        | exact (zb_t (by rw [i_lt] at h2 h7; omega)).symm
set_option maxRecDepth 8000 in
theorem m148 {x : Int32} {M : mm_M} : mm_R S (d + 1) 148 0 (mm_en 148 [.int x]) [] M (fun v M' => v = some (.int (zb (decide (shp x)))) ∧ M' = M) := by
  show mm_R S (d + 1) 148 0 [some (.int x)] [] M _
  refine R_iload_n (q := 1) rfl rfl rfl ?_
  refine R_iconst (q := 2) (v := nI 0) rfl rfl (by decide) ?_
  refine R_iconst (q := 3) (v := nI 5) rfl rfl (by decide) ?_
  refine R_calls3 (q := 6) rfl rfl rfl rfl (Nat.le_of_ble_eq_true rfl) rfl ?_
  refine R_mono (m147) (fun v3 M3 hr3 => ?_)
  obtain ⟨rfl, hm3⟩ := hr3
  rw [hm3]
  dsimp only [Option.toList, List.cons_append, List.nil_append]
  refine R_zreturn rfl rfl (zb_01 _) ?_
  refine ⟨congrArg some (congrArg Value.int ?_), rfl⟩
  rw [decide_eq_decide.mpr (show (nI 0).toInt ≤ x.toInt ∧ x.toInt ≤ (nI 5).toInt ↔ shp x from by rw [ik_0, ik_5]; omega)]
set_option maxRecDepth 8000 in
theorem m159 {x : Int32} {M : mm_M} : mm_R S (d + 1) 159 0 (mm_en 159 [.int x]) [] M (fun v M' => v = some (.int (zb (decide (shp x)))) ∧ M' = M) := by
  show mm_R S (d + 1) 159 0 [some (.int x)] [] M _
  refine R_iload_n (q := 1) rfl rfl rfl ?_
  refine R_iconst (q := 2) (v := nI 0) rfl rfl (by decide) ?_
  refine R_iconst (q := 3) (v := nI 5) rfl rfl (by decide) ?_
  refine R_calls3 (q := 6) rfl rfl rfl rfl (Nat.le_of_ble_eq_true rfl) rfl ?_
  refine R_mono (m147) (fun v3 M3 hr3 => ?_)
  obtain ⟨rfl, hm3⟩ := hr3
  rw [hm3]
  dsimp only [Option.toList, List.cons_append, List.nil_append]
  refine R_zreturn rfl rfl (zb_01 _) ?_
  refine ⟨congrArg some (congrArg Value.int ?_), rfl⟩
  rw [decide_eq_decide.mpr (show (nI 0).toInt ≤ x.toInt ∧ x.toInt ≤ (nI 5).toInt ↔ shp x from by rw [ik_0, ik_5]; omega)]
/-- has, as the desk's holds -/
def hs (f : Nat → Int32) (x y : Int32) : Bool := decide (0 ≤ x.toInt ∧ x.toInt < 16) && bt (rowv f y) x.toNatClampNeg
theorem hs_n {f : Nat → Int32} {x y : Nat} (hx : x < 16) (hy : y < 16) : hs f (nI x) (nI y) = bt (f y) x := by
  unfold hs rowv
  rw [decide_eq_true (by rw [i_n x (by omega)]; omega), if_pos (by rw [i_n y (by omega)]; omega), cl_nI (by omega), cl_nI (by omega)]
  rfl
theorem hs_x {f : Nat → Int32} {x y : Int32} (h : ¬ (0 ≤ x.toInt ∧ x.toInt < 16)) : hs f x y = false := by
  unfold hs
  rw [decide_eq_false h]
  rfl
theorem hs_y {f : Nat → Int32} {x y : Int32} (h : ¬ (0 ≤ y.toInt ∧ y.toInt < 16)) : hs f x y = false := by
  unfold hs rowv
  rw [if_neg h, show nI 0 = 0 from rfl, b_0, Bool.and_false]
set_option maxRecDepth 8000 in
theorem m149 {s : Nat} {x y : Int32} (h : CRl A sh) (hs' : s < 6) : mm_R S (d + 1) 149 0 (mm_en 149 [.ref 73, .int (nI s), .int x, .int y]) [] (mdm M A I) (fun v M' => v = some (.int (zb (hs (sh s) x y))) ∧ M' = mdm M A I) := by
  show mm_R S (d + 1) 149 0 [some (.ref 73), some (.int (nI s)), some (.int x), some (.int y)] [] (mdm M A I) _
  refine R_iload_n (q := 1) rfl rfl rfl ?_
  refine R_iconst (q := 2) (v := nI 0) rfl rfl (by decide) ?_
  refine R_bipush (q := 4) (v := nI 15) rfl rfl (by decide) ?_
  refine R_calls3 (q := 7) rfl rfl rfl rfl (Nat.le_of_ble_eq_true rfl) rfl ?_
  refine R_mono (m147) (fun v4 M4 hr4 => ?_)
  obtain ⟨rfl, hm4⟩ := hr4
  rw [hm4]
  dsimp only [Option.toList, List.cons_append, List.nil_append]
  refine R_if_eq (q := 10) (t := 44) rfl rfl rfl (fun h7 => ?_) (fun h7 => ?_)
  · refine R_iconst (q := 45) (v := nI 0) rfl rfl (by decide) ?_
    refine R_zreturn rfl rfl (by first | exact Or.inl rfl | exact Or.inr rfl | assumption) ?_
    first
      | exact ⟨by rw [hs_x (fun q => absurd (zb_eq0.mp h7) (by rw [decide_eq_true (by rw [ik_0, ik_15]; omega)]; decide))]; rfl, rfl⟩
      | exact ⟨by rw [hs_y (fun q => absurd (zb_eq0.mp h17) (by rw [decide_eq_true (by rw [ik_0, ik_15]; omega)]; decide))]; rfl, rfl⟩
      | exact ⟨by rw [hs_n hx hy, zb_eq0.mp h37]; rfl, rfl⟩
      | exact ⟨by rw [hs_n hx hy, zb_ne0.mp h37]; rfl, rfl⟩
  · refine R_iload_n (q := 11) rfl rfl rfl ?_
    refine R_iconst (q := 12) (v := nI 0) rfl rfl (by decide) ?_
    refine R_bipush (q := 14) (v := nI 15) rfl rfl (by decide) ?_
    refine R_calls3 (q := 17) rfl rfl rfl rfl (Nat.le_of_ble_eq_true rfl) rfl ?_
    refine R_mono (m147) (fun v14 M14 hr14 => ?_)
    obtain ⟨rfl, hm14⟩ := hr14
    rw [hm14]
    dsimp only [Option.toList, List.cons_append, List.nil_append]
    refine R_if_eq (q := 20) (t := 44) rfl rfl rfl (fun h17 => ?_) (fun h17 => ?_)
    · refine R_iconst (q := 45) (v := nI 0) rfl rfl (by decide) ?_
      refine R_zreturn rfl rfl (by first | exact Or.inl rfl | exact Or.inr rfl | assumption) ?_
      first
        | exact ⟨by rw [hs_x (fun q => absurd (zb_eq0.mp h7) (by rw [decide_eq_true (by rw [ik_0, ik_15]; omega)]; decide))]; rfl, rfl⟩
        | exact ⟨by rw [hs_y (fun q => absurd (zb_eq0.mp h17) (by rw [decide_eq_true (by rw [ik_0, ik_15]; omega)]; decide))]; rfl, rfl⟩
        | exact ⟨by rw [hs_n hx hy, zb_eq0.mp h37]; rfl, rfl⟩
        | exact ⟨by rw [hs_n hx hy, zb_ne0.mp h37]; rfl, rfl⟩
    · have g7 := of_decide_eq_true (zb_ne0.mp h7)
      have g17 := of_decide_eq_true (zb_ne0.mp h17)
      rw [ik_0, ik_15] at g7 g17
      obtain ⟨x, hx, rfl⟩ := i_ix (a := x) 16 (by decide) (by omega) (by omega)
      obtain ⟨y, hy, rfl⟩ := i_ix (a := y) 16 (by decide) (by omega) (by omega)
      refine R_aload_n (q := 21) rfl rfl rfl ?_
      refine R_getf (q := 24) rfl rfl rfl md_73 rfl ?_
      refine R_sipush (q := 27) (v := nI 256) rfl rfl (by decide) ?_
      refine R_iload_n (q := 28) rfl rfl rfl ?_
      refine R_imul (q := 29) rfl rfl ?_
      rw [pk_mul]
      refine R_bipush (q := 31) (v := nI 16) rfl rfl (by decide) ?_
      refine R_iload_n (q := 32) rfl rfl rfl ?_
      refine R_imul (q := 33) rfl rfl ?_
      rw [pk_mul]
      refine R_iadd (q := 34) rfl rfl ?_
      rw [nI_add]
      refine R_iload_n (q := 35) rfl rfl rfl ?_
      refine R_iadd (q := 36) rfl rfl ?_
      rw [nI_add]
      refine R_baload (q := 37) rfl rfl md_74 (by decide) (by first | assumption | exact in_nI (by omega) (by decide)) ?_
      rw [cl_nI (by omega)]
      rw [h s y x hs' hy hx]
      refine R_if_eq (q := 40) (t := 44) rfl rfl rfl (fun h37 => ?_) (fun h37 => ?_)
      · refine R_iconst (q := 45) (v := nI 0) rfl rfl (by decide) ?_
        refine R_zreturn rfl rfl (by first | exact Or.inl rfl | exact Or.inr rfl | assumption) ?_
        first
          | exact ⟨by rw [hs_x (fun q => absurd (zb_eq0.mp h7) (by rw [decide_eq_true (by rw [ik_0, ik_15]; omega)]; decide))]; rfl, rfl⟩
          | exact ⟨by rw [hs_y (fun q => absurd (zb_eq0.mp h17) (by rw [decide_eq_true (by rw [ik_0, ik_15]; omega)]; decide))]; rfl, rfl⟩
          | exact ⟨by rw [hs_n hx hy, zb_eq0.mp h37]; rfl, rfl⟩
          | exact ⟨by rw [hs_n hx hy, zb_ne0.mp h37]; rfl, rfl⟩
      · refine R_iconst (q := 41) (v := nI 1) rfl rfl (by decide) ?_
        refine R_goto (t := 45) rfl rfl ?_
        refine R_zreturn rfl rfl (by first | exact Or.inl rfl | exact Or.inr rfl | assumption) ?_
        first
          | exact ⟨by rw [hs_x (fun q => absurd (zb_eq0.mp h7) (by rw [decide_eq_true (by rw [ik_0, ik_15]; omega)]; decide))]; rfl, rfl⟩
          | exact ⟨by rw [hs_y (fun q => absurd (zb_eq0.mp h17) (by rw [decide_eq_true (by rw [ik_0, ik_15]; omega)]; decide))]; rfl, rfl⟩
          | exact ⟨by rw [hs_n hx hy, zb_eq0.mp h37]; rfl, rfl⟩
          | exact ⟨by rw [hs_n hx hy, zb_ne0.mp h37]; rfl, rfl⟩
/-- the cells that lie in a rectangle -/
def irc (x y w h : Nat) (c r : Nat) : Bool := decide ((x ≤ c ∧ c < x + w) ∧ y ≤ r ∧ r < y + h)
def fls (f : Nat → Int32) (s x y w : Nat) : Nat → Nat → Int32
  | 0 => f
  | j + 1 => upd (fls f s x y w j) (256 * s + 16 * (y + j / w) + x + j % w) (nI 1)
theorem fls_eq {f : Nat → Int32} {s x y w : Nat} (hw : 1 ≤ w) (hxw : x + w ≤ 16) : ∀ j t r c, t < 6 → s < 6 → r < 16 → c < 16 → y + (j - 1) / w < 16 ∨ j = 0 → fls f s x y w j (256 * t + 16 * r + c) = if t = s ∧ (x ≤ c ∧ c < x + w) ∧ y ≤ r ∧ w * (r - y) + (c - x) < j then nI 1 else f (256 * t + 16 * r + c) := by
  intro j
  induction j with
  | zero => intro t r c _ _ _ _ _; rw [if_neg (fun q => by omega)]; rfl
  | succ j ih =>
    intro t r c ht hs hr hc hj
    have hjj : y + j / w < 16 := by
      rcases hj with h | h
      · have : j + 1 - 1 = j := by omega
        rw [this] at h; exact h
      · omega
    have hm : j % w < w := Nat.mod_lt _ (by omega)
    have hdm : w * (j / w) + j % w = j := Nat.div_add_mod j w
    have hih := ih t r c ht hs hr hc (by
      by_cases h0 : j = 0
      · exact Or.inr h0
      · left
        have : (j - 1) / w ≤ j / w := Nat.div_le_div_right (by omega)
        omega)
    unfold fls upd
    generalize hD : j / w = D at *
    generalize hR : j % w = R at *
    by_cases hq : 256 * t + 16 * r + c = 256 * s + 16 * (y + D) + x + R
    · have e1 : t = s := by omega
      have e2 : r = y + D := by omega
      have e3 : c = x + R := by omega
      rw [if_pos hq, if_pos]
      refine ⟨e1, ⟨by omega, by omega⟩, by omega, ?_⟩
      rw [e2, e3, show y + D - y = D by omega, show x + R - x = R by omega]
      omega
    · rw [if_neg hq, hih]
      have hiff : (t = s ∧ (x ≤ c ∧ c < x + w) ∧ y ≤ r ∧ w * (r - y) + (c - x) < j) ↔ (t = s ∧ (x ≤ c ∧ c < x + w) ∧ y ≤ r ∧ w * (r - y) + (c - x) < j + 1) := by
        constructor
        · intro h; exact ⟨h.1, h.2.1, h.2.2.1, by omega⟩
        · intro h
          refine ⟨h.1, h.2.1, h.2.2.1, ?_⟩
          by_cases he : w * (r - y) + (c - x) = j
          · exfalso
            apply hq
            have d1 : D = r - y := by
              rw [← hD, ← he, Nat.mul_add_div (by omega), Nat.div_eq_of_lt (by omega)]; omega
            have d2 : R = c - x := by
              rw [← hR, ← he, Nat.mul_add_mod, Nat.mod_eq_of_lt (by omega)]
            rw [d1, d2, h.1]
            omega
          · omega
      by_cases hz : t = s ∧ (x ≤ c ∧ c < x + w) ∧ y ≤ r ∧ w * (r - y) + (c - x) < j
      · rw [if_pos hz, if_pos (hiff.mp hz)]
      · rw [if_neg hz, if_neg (fun q => hz (hiff.mpr q))]
theorem fls_in {w h r y c x : Nat} (hc : x ≤ c ∧ c < x + w) (hr : y ≤ r) : w * (r - y) + (c - x) < w * h ↔ r < y + h := by
  constructor
  · intro q
    by_cases hh : r < y + h
    · exact hh
    · exfalso
      have : w * h ≤ w * (r - y) := Nat.mul_le_mul_left w (by omega)
      omega
  · intro q
    have : w * (r - y) + w ≤ w * h := by
      have := Nat.mul_le_mul_left w (show r - y + 1 ≤ h by omega)
      rw [Nat.mul_add, Nat.mul_one] at this
      exact this
    omega
set_option maxRecDepth 8000 in
theorem m150 {s x y w h : Nat} (hs' : s < 6) (hw : 1 ≤ w ∧ x + w ≤ 16) (hh : 1 ≤ h ∧ y + h ≤ 16) : mm_R S (d + 1) 150 0 (mm_en 150 [.ref 73, .int (nI s), .int (nI x), .int (nI y), .int (nI w), .int (nI h)]) [] (mdm M A I) (fun v M' => v = none ∧ M' = mdm M (upa A 74 (fls (A 74) s x y w (w * h))) I) := by
  have hwh : w * h ≤ 256 := by
    have := Nat.mul_le_mul (show w ≤ 16 by omega) (show h ≤ 16 by omega)
    omega
  have hl : ∀ j i : Nat, i + j = w * h → mm_R S (d + 1) 150 3 [some (.ref 73), some (.int (nI s)), some (.int (nI x)), some (.int (nI y)), some (.int (nI w)), some (.int (nI h)), some (.int (nI i))] [] (mdm M (upa A 74 (fls (A 74) s x y w i)) I) (fun v M' => v = none ∧ M' = mdm M (upa A 74 (fls (A 74) s x y w (w * h))) I) := by
    intro j
    induction j with
    | zero =>
      intro i hi
      have hii : i = w * h := by omega
      subst hii
      refine R_iload (q := 5) rfl rfl rfl ?_
      refine R_iload (q := 7) rfl rfl rfl ?_
      refine R_iload (q := 9) rfl rfl rfl ?_
      refine R_imul (q := 10) rfl rfl ?_
      rw [pk_mul]
      refine R_icmp_ge (q := 13) (t := 49) rfl rfl rfl (fun h10 => ?_) (fun h10 => absurd (nI_le (by omega) (by omega)) h10)
      refine R_return rfl rfl ?_
      exact ⟨rfl, rfl⟩
    | succ j ih =>
      intro i hi
      have hd1 : i / w < h := Nat.div_lt_of_lt_mul (by omega)
      have hm1 : i % w < w := Nat.mod_lt _ (by omega)
      refine R_iload (q := 5) rfl rfl rfl ?_
      refine R_iload (q := 7) rfl rfl rfl ?_
      refine R_iload (q := 9) rfl rfl rfl ?_
      refine R_imul (q := 10) rfl rfl ?_
      rw [pk_mul]
      refine R_icmp_ge (q := 13) (t := 49) rfl rfl rfl (fun h10 => absurd h10 (nI_ge (by omega) (by omega))) (fun h10 => ?_)
      refine R_aload_n (q := 14) rfl rfl rfl ?_
      refine R_getf (q := 17) rfl rfl rfl md_73 rfl ?_
      refine R_sipush (q := 20) (v := nI 256) rfl rfl (by decide) ?_
      refine R_iload_n (q := 21) rfl rfl rfl ?_
      refine R_imul (q := 22) rfl rfl ?_
      rw [pk_mul]
      refine R_bipush (q := 24) (v := nI 16) rfl rfl (by decide) ?_
      refine R_iload_n (q := 25) rfl rfl rfl ?_
      refine R_iload (q := 27) rfl rfl rfl ?_
      refine R_iload (q := 29) rfl rfl rfl ?_
      refine R_idiv (q := 30) rfl rfl (nI_ne0 (by omega) (by omega)) ?_
      rw [pk_div (by omega) (by omega) (by omega)]
      refine R_iadd (q := 31) rfl rfl ?_
      rw [nI_add]
      refine R_imul (q := 32) rfl rfl ?_
      rw [pk_mul]
      refine R_iadd (q := 33) rfl rfl ?_
      rw [nI_add]
      refine R_iload_n (q := 34) rfl rfl rfl ?_
      refine R_iadd (q := 35) rfl rfl ?_
      rw [nI_add]
      refine R_iload (q := 37) rfl rfl rfl ?_
      refine R_iload (q := 39) rfl rfl rfl ?_
      refine R_irem (q := 40) rfl rfl (nI_ne0 (by omega) (by omega)) ?_
      rw [pk_rem (by omega) (by omega) (by omega)]
      refine R_iadd (q := 41) rfl rfl ?_
      rw [nI_add]
      refine R_iconst (q := 42) (v := nI 1) rfl rfl (by decide) ?_
      refine R_bastore (q := 43) rfl rfl md_74 (by first | assumption | exact in_nI (by omega) (by decide)) (by first | exact Or.inl rfl | exact Or.inr rfl) ?_
      rw [cl_nI (by omega)]
      rw [upa_e]
      rw [md_p74]
      refine R_iinc (q := 46) rfl rfl rfl (nI_i1 i) rfl ?_
      dsimp only [List.set]
      refine R_goto (t := 3) rfl rfl ?_
      rw [upa_u]
      exact ih (i + 1) (by omega)
  show mm_R S (d + 1) 150 0 [some (.ref 73), some (.int (nI s)), some (.int (nI x)), some (.int (nI y)), some (.int (nI w)), some (.int (nI h)), none] [] (mdm M A I) _
  refine R_iconst (q := 1) (v := nI 0) rfl rfl (by decide) ?_
  refine R_istore (q := 3) rfl rfl (Nat.le_of_ble_eq_true rfl) rfl ?_
  dsimp only [List.set]
  have h0 := hl (w * h) 0 (by omega)
  rw [show fls (A 74) s x y w 0 = A 74 from rfl, upa_s] at h0
  exact h0
theorem b_add4 {f : Nat → Int32} {r : R4} (h : on4 r = true) {c y : Nat} (hc : c < 16) : bt (add4 f r y) c = (bt (f y) c || irc r.1.toNatClampNeg r.2.1.toNatClampNeg r.2.2.1.toNatClampNeg r.2.2.2.toNatClampNeg c y) := by
  have g := on4_n h
  unfold add4 ifr irc
  dsimp only
  by_cases hy : r.2.1.toNatClampNeg ≤ y ∧ y < r.2.1.toNatClampNeg + r.2.2.2.toNatClampNeg
  · rw [if_pos hy, b_or, spn_bt (by omega) (by omega) (by omega)]
    congr 1
    exact decide_eq_decide.mpr ⟨fun q => ⟨q, hy⟩, fun q => q.1⟩
  · rw [if_neg hy, decide_eq_false (fun q => hy q.2), Bool.or_false]
theorem CR_fill {s : Nat} {r : R4} (h : CRl A sh) (hs' : s < 6) (hr : on4 r = true) : CRl (upa A 74 (fls (A 74) s r.1.toNatClampNeg r.2.1.toNatClampNeg r.2.2.1.toNatClampNeg (r.2.2.1.toNatClampNeg * r.2.2.2.toNatClampNeg))) (ups sh s (add4 (sh s) r)) := by
  intro t y c ht hy hc
  have g := on4_n hr
  rw [upa_e, fls_eq (by omega) (by omega) _ t y c ht hs' hy hc (by
    left
    have : (r.2.2.1.toNatClampNeg * r.2.2.2.toNatClampNeg - 1) / r.2.2.1.toNatClampNeg < r.2.2.2.toNatClampNeg := by
      apply Nat.div_lt_of_lt_mul
      have : 1 ≤ r.2.2.1.toNatClampNeg * r.2.2.2.toNatClampNeg := Nat.mul_pos (by omega) (by omega)
      omega
    omega)]
  unfold ups
  by_cases hq : t = s
  · subst hq
    rw [if_pos rfl, b_add4 hr hc, h t y c ht hy hc]
    by_cases hin : (r.1.toNatClampNeg ≤ c ∧ c < r.1.toNatClampNeg + r.2.2.1.toNatClampNeg) ∧ r.2.1.toNatClampNeg ≤ y ∧ y < r.2.1.toNatClampNeg + r.2.2.2.toNatClampNeg
    · rw [if_pos ⟨rfl, hin.1, hin.2.1, (fls_in hin.1 hin.2.1).mpr hin.2.2⟩]
      unfold irc
      rw [decide_eq_true hin, Bool.or_true]
      rfl
    · rw [if_neg (fun q => hin ⟨q.2.1, q.2.2.1, (fls_in q.2.1 q.2.2.1).mp q.2.2.2⟩)]
      unfold irc
      rw [decide_eq_false hin, Bool.or_false]
  · rw [if_neg (fun q => hq q.1), if_neg hq]
    exact h t y c ht hy hc
set_option maxRecDepth 8000 in
theorem m151 {x y w h1 : Int32} {M : mm_M} : mm_R S (d + 1) 151 0 (mm_en 151 [.int x, .int y, .int w, .int h1]) [] M (fun v M' => v = some (.int (zb (on4 (x, y, w, h1)))) ∧ M' = M) := by
  unfold on4
  dsimp only
  show mm_R S (d + 1) 151 0 [some (.int x), some (.int y), some (.int w), some (.int h1)] [] M _
  refine R_iload_n (q := 1) rfl rfl rfl ?_
  refine R_iconst (q := 2) (v := nI 1) rfl rfl (by decide) ?_
  refine R_bipush (q := 4) (v := nI 16) rfl rfl (by decide) ?_
  refine R_calls3 (q := 7) rfl rfl rfl rfl (Nat.le_of_ble_eq_true rfl) rfl ?_
  refine R_mono (m147) (fun v4 M4 hr4 => ?_)
  obtain ⟨rfl, hm4⟩ := hr4
  rw [hm4]
  dsimp only [Option.toList, List.cons_append, List.nil_append]
  refine R_if_eq (q := 10) (t := 48) rfl rfl rfl (fun h7 => ?_) (fun h7 => ?_)
  · refine R_iconst (q := 49) (v := nI 0) rfl rfl (by decide) ?_
    refine R_zreturn rfl rfl (by first | exact Or.inl rfl | exact Or.inr rfl | assumption) ?_
    refine ⟨congrArg some (congrArg Value.int ?_), rfl⟩
    first
      | exact (zb_f (fun q => of_decide_eq_false (zb_eq0.mp h7) (by rw [ik_1, ik_16]; omega))).symm
      | exact (zb_f (fun q => of_decide_eq_false (zb_eq0.mp h17) (by rw [ik_1, ik_16]; omega))).symm
      | (have g7 := of_decide_eq_true (zb_ne0.mp h7)
         have g17 := of_decide_eq_true (zb_ne0.mp h17)
         rw [ik_1, ik_16] at g7 g17
         have s1 : (nI 16 - w).toInt = 16 - w.toInt := by rw [i_sub (by rw [ik_16]; omega), ik_16]
         have s2 : (nI 16 - h1).toInt = 16 - h1.toInt := by rw [i_sub (by rw [ik_16]; omega), ik_16]
         first
           | exact (zb_f (fun q => of_decide_eq_false (zb_eq0.mp h29) (by rw [ik_0, s1]; omega))).symm
           | exact (zb_f (fun q => of_decide_eq_false (zb_eq0.mp h41) (by rw [ik_0, s2]; omega))).symm
           | (have g29 := of_decide_eq_true (zb_ne0.mp h29)
              have g41 := of_decide_eq_true (zb_ne0.mp h41)
              rw [ik_0, s1] at g29
              rw [ik_0, s2] at g41
              exact (zb_t (by omega)).symm))
  · refine R_iload_n (q := 11) rfl rfl rfl ?_
    refine R_iconst (q := 12) (v := nI 1) rfl rfl (by decide) ?_
    refine R_bipush (q := 14) (v := nI 16) rfl rfl (by decide) ?_
    refine R_calls3 (q := 17) rfl rfl rfl rfl (Nat.le_of_ble_eq_true rfl) rfl ?_
    refine R_mono (m147) (fun v14 M14 hr14 => ?_)
    obtain ⟨rfl, hm14⟩ := hr14
    rw [hm14]
    dsimp only [Option.toList, List.cons_append, List.nil_append]
    refine R_if_eq (q := 20) (t := 48) rfl rfl rfl (fun h17 => ?_) (fun h17 => ?_)
    · refine R_iconst (q := 49) (v := nI 0) rfl rfl (by decide) ?_
      refine R_zreturn rfl rfl (by first | exact Or.inl rfl | exact Or.inr rfl | assumption) ?_
      refine ⟨congrArg some (congrArg Value.int ?_), rfl⟩
      first
        | exact (zb_f (fun q => of_decide_eq_false (zb_eq0.mp h7) (by rw [ik_1, ik_16]; omega))).symm
        | exact (zb_f (fun q => of_decide_eq_false (zb_eq0.mp h17) (by rw [ik_1, ik_16]; omega))).symm
        | (have g7 := of_decide_eq_true (zb_ne0.mp h7)
           have g17 := of_decide_eq_true (zb_ne0.mp h17)
           rw [ik_1, ik_16] at g7 g17
           have s1 : (nI 16 - w).toInt = 16 - w.toInt := by rw [i_sub (by rw [ik_16]; omega), ik_16]
           have s2 : (nI 16 - h1).toInt = 16 - h1.toInt := by rw [i_sub (by rw [ik_16]; omega), ik_16]
           first
             | exact (zb_f (fun q => of_decide_eq_false (zb_eq0.mp h29) (by rw [ik_0, s1]; omega))).symm
             | exact (zb_f (fun q => of_decide_eq_false (zb_eq0.mp h41) (by rw [ik_0, s2]; omega))).symm
             | (have g29 := of_decide_eq_true (zb_ne0.mp h29)
                have g41 := of_decide_eq_true (zb_ne0.mp h41)
                rw [ik_0, s1] at g29
                rw [ik_0, s2] at g41
                exact (zb_t (by omega)).symm))
    · refine R_iload_n (q := 21) rfl rfl rfl ?_
      refine R_iconst (q := 22) (v := nI 0) rfl rfl (by decide) ?_
      refine R_bipush (q := 24) (v := nI 16) rfl rfl (by decide) ?_
      refine R_iload_n (q := 25) rfl rfl rfl ?_
      refine R_isub (q := 26) rfl rfl ?_
      refine R_calls3 (q := 29) rfl rfl rfl rfl (Nat.le_of_ble_eq_true rfl) rfl ?_
      refine R_mono (m147) (fun v26 M26 hr26 => ?_)
      obtain ⟨rfl, hm26⟩ := hr26
      rw [hm26]
      dsimp only [Option.toList, List.cons_append, List.nil_append]
      refine R_if_eq (q := 32) (t := 48) rfl rfl rfl (fun h29 => ?_) (fun h29 => ?_)
      · refine R_iconst (q := 49) (v := nI 0) rfl rfl (by decide) ?_
        refine R_zreturn rfl rfl (by first | exact Or.inl rfl | exact Or.inr rfl | assumption) ?_
        refine ⟨congrArg some (congrArg Value.int ?_), rfl⟩
        first
          | exact (zb_f (fun q => of_decide_eq_false (zb_eq0.mp h7) (by rw [ik_1, ik_16]; omega))).symm
          | exact (zb_f (fun q => of_decide_eq_false (zb_eq0.mp h17) (by rw [ik_1, ik_16]; omega))).symm
          | (have g7 := of_decide_eq_true (zb_ne0.mp h7)
             have g17 := of_decide_eq_true (zb_ne0.mp h17)
             rw [ik_1, ik_16] at g7 g17
             have s1 : (nI 16 - w).toInt = 16 - w.toInt := by rw [i_sub (by rw [ik_16]; omega), ik_16]
             have s2 : (nI 16 - h1).toInt = 16 - h1.toInt := by rw [i_sub (by rw [ik_16]; omega), ik_16]
             first
               | exact (zb_f (fun q => of_decide_eq_false (zb_eq0.mp h29) (by rw [ik_0, s1]; omega))).symm
               | exact (zb_f (fun q => of_decide_eq_false (zb_eq0.mp h41) (by rw [ik_0, s2]; omega))).symm
               | (have g29 := of_decide_eq_true (zb_ne0.mp h29)
                  have g41 := of_decide_eq_true (zb_ne0.mp h41)
                  rw [ik_0, s1] at g29
                  rw [ik_0, s2] at g41
                  exact (zb_t (by omega)).symm))
      · refine R_iload_n (q := 33) rfl rfl rfl ?_
        refine R_iconst (q := 34) (v := nI 0) rfl rfl (by decide) ?_
        refine R_bipush (q := 36) (v := nI 16) rfl rfl (by decide) ?_
        refine R_iload_n (q := 37) rfl rfl rfl ?_
        refine R_isub (q := 38) rfl rfl ?_
        refine R_calls3 (q := 41) rfl rfl rfl rfl (Nat.le_of_ble_eq_true rfl) rfl ?_
        refine R_mono (m147) (fun v38 M38 hr38 => ?_)
        obtain ⟨rfl, hm38⟩ := hr38
        rw [hm38]
        dsimp only [Option.toList, List.cons_append, List.nil_append]
        refine R_if_eq (q := 44) (t := 48) rfl rfl rfl (fun h41 => ?_) (fun h41 => ?_)
        · refine R_iconst (q := 49) (v := nI 0) rfl rfl (by decide) ?_
          refine R_zreturn rfl rfl (by first | exact Or.inl rfl | exact Or.inr rfl | assumption) ?_
          refine ⟨congrArg some (congrArg Value.int ?_), rfl⟩
          first
            | exact (zb_f (fun q => of_decide_eq_false (zb_eq0.mp h7) (by rw [ik_1, ik_16]; omega))).symm
            | exact (zb_f (fun q => of_decide_eq_false (zb_eq0.mp h17) (by rw [ik_1, ik_16]; omega))).symm
            | (have g7 := of_decide_eq_true (zb_ne0.mp h7)
               have g17 := of_decide_eq_true (zb_ne0.mp h17)
               rw [ik_1, ik_16] at g7 g17
               have s1 : (nI 16 - w).toInt = 16 - w.toInt := by rw [i_sub (by rw [ik_16]; omega), ik_16]
               have s2 : (nI 16 - h1).toInt = 16 - h1.toInt := by rw [i_sub (by rw [ik_16]; omega), ik_16]
               first
                 | exact (zb_f (fun q => of_decide_eq_false (zb_eq0.mp h29) (by rw [ik_0, s1]; omega))).symm
                 | exact (zb_f (fun q => of_decide_eq_false (zb_eq0.mp h41) (by rw [ik_0, s2]; omega))).symm
                 | (have g29 := of_decide_eq_true (zb_ne0.mp h29)
                    have g41 := of_decide_eq_true (zb_ne0.mp h41)
                    rw [ik_0, s1] at g29
                    rw [ik_0, s2] at g41
                    exact (zb_t (by omega)).symm))
        · refine R_iconst (q := 45) (v := nI 1) rfl rfl (by decide) ?_
          refine R_goto (t := 49) rfl rfl ?_
          refine R_zreturn rfl rfl (by first | exact Or.inl rfl | exact Or.inr rfl | assumption) ?_
          refine ⟨congrArg some (congrArg Value.int ?_), rfl⟩
          first
            | exact (zb_f (fun q => of_decide_eq_false (zb_eq0.mp h7) (by rw [ik_1, ik_16]; omega))).symm
            | exact (zb_f (fun q => of_decide_eq_false (zb_eq0.mp h17) (by rw [ik_1, ik_16]; omega))).symm
            | (have g7 := of_decide_eq_true (zb_ne0.mp h7)
               have g17 := of_decide_eq_true (zb_ne0.mp h17)
               rw [ik_1, ik_16] at g7 g17
               have s1 : (nI 16 - w).toInt = 16 - w.toInt := by rw [i_sub (by rw [ik_16]; omega), ik_16]
               have s2 : (nI 16 - h1).toInt = 16 - h1.toInt := by rw [i_sub (by rw [ik_16]; omega), ik_16]
               first
                 | exact (zb_f (fun q => of_decide_eq_false (zb_eq0.mp h29) (by rw [ik_0, s1]; omega))).symm
                 | exact (zb_f (fun q => of_decide_eq_false (zb_eq0.mp h41) (by rw [ik_0, s2]; omega))).symm
                 | (have g29 := of_decide_eq_true (zb_ne0.mp h29)
                    have g41 := of_decide_eq_true (zb_ne0.mp h41)
                    rw [ik_0, s1] at g29
                    rw [ik_0, s2] at g41
                    exact (zb_t (by omega)).symm))
end P43b
