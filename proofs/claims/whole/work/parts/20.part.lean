theorem OL_off {M : mm_M} {a n x : Nat} {px py : Nat → Int32} {c : mm_E} (h : OL M a n px py) (hx : x < a ∨ a + 2 < x) : OL (mm_put M x c) a n px py := ⟨by rw [mm_pn (by omega)]; exact h.1, by rw [mm_pn (by omega)]; exact h.2.1, by rw [mm_pn (by omega)]; exact h.2.2.1, h.2.2.2⟩
theorem mx_nI {x y : Nat} (hx : x < 2147483648) (hy : y < 2147483648) : (if nI x < nI y then nI y else nI x) = nI (max x y) := by
  by_cases h : x < y
  · rw [if_pos (nI_lt h hy), Nat.max_eq_right (Nat.le_of_lt h)]
  · rw [if_neg (nI_nlt (Nat.not_lt.mp h) hx), Nat.max_eq_left (Nat.not_lt.mp h)]
theorem mn_nI {x y : Nat} (hx : x < 2147483648) (hy : y < 2147483648) : (if nI y < nI x then nI y else nI x) = nI (min x y) := by
  by_cases h : y < x
  · rw [if_pos (nI_lt h hx), Nat.min_eq_right (Nat.le_of_lt h)]
  · rw [if_neg (nI_nlt (Nat.not_lt.mp h) hy), Nat.min_eq_left (Nat.not_lt.mp h)]
/-- the rows behind the first i edges of a ring -/
def gi (n : Nat) (X Y : Nat → Nat) (f : Nat → Int32) : Nat → Nat → Int32
  | 0 => f
  | i + 1 => ifr (fun y => (gi n X Y f i y ^^^ ((65535 : Int32) <<< (nI (X i) &&& 31))) &&& 65535) (gi n X Y f i) (min (Y i) (Y (aft n i))) (max (Y i) (Y (aft n i)))
section P20
variable {S : mm_S} {d : Nat} {M : mm_M} {a b n : Nat} {px py f : Nat → Int32}
set_option maxRecDepth 8000 in
theorem c71 {X Y : Nat → Nat} (h : OL M a n px py) (hb : CA M b f) (hab : a + 2 < b ∨ b + 1 < a) (hX : ∀ i, i < n → px i = nI (X i) ∧ X i ≤ 16) (hY : ∀ i, i < n → py i = nI (Y i) ∧ Y i ≤ 16) : mm_R S (d + 1) 71 0 (mm_en 71 [.ref a, .ref b]) [] M (fun v M' => v = none ∧ M' = mm_put M (b + 1) (ro (gi n X Y (ifl (fun _ => nI 0) f 16) n))) := by
  have h4 := h.2.2.2
  have hb1 := hb.1
  show mm_R S (d + 1) 71 0 [some (.ref a), some (.ref b), none, none, none, none] [] M _
  refine R_aload_n (q := 1) rfl rfl rfl ?_
  refine R_callv0 (q := 4) rfl rfl rfl rfl (by first | assumption | exact mm_pe | (rw [mm_pn (by omega)]; first | assumption | exact mm_pe | (rw [mm_pn (by omega)]; first | assumption | exact mm_pe | (rw [mm_pn (by omega)]; first | assumption | exact mm_pe | (rw [mm_pn (by omega)]; first | assumption | exact mm_pe | (rw [mm_pn (by omega)]; first | assumption | exact mm_pe)))))) (Nat.le_of_ble_eq_true rfl) rfl ?_
  refine R_mono (c7 hb) (fun v1 M1 hr1 => ?_)
  obtain ⟨rfl, hm1⟩ := hr1
  rw [hm1]
  dsimp only [Option.toList, List.cons_append, List.nil_append]
  refine R_iconst (q := 5) (v := nI 0) rfl rfl (by decide) ?_
  refine R_istore_n (q := 6) rfl rfl (Nat.le_of_ble_eq_true rfl) rfl ?_
  dsimp only [List.set]
  refine lpN (fun i => ∀ t3 t4 t5 : Option Value, mm_R S (d + 1) 71 6 [some (.ref a), some (.ref b), some (.int (nI i)), t3, t4, t5] [] (mm_put M (b + 1) (ro (gi n X Y (ifl (fun _ => nI 0) f 16) i))) (fun v M' => v = none ∧ M' = mm_put M (b + 1) (ro (gi n X Y (ifl (fun _ => nI 0) f 16) n)))) n (fun i hi ih t3 t4 t5 => ?_) (fun t3 t4 t5 => ?_) 0 (Nat.zero_le _) none none none
  · have hol : OL (mm_put M (b + 1) (ro (gi n X Y (ifl (fun _ => nI 0) f 16) i))) a n px py := OL_off h (by omega)
    obtain ⟨o1, o2, o3, o4⟩ := id hol
    have haf : aft n i < n := by unfold aft; split <;> omega
    have hii := in_nI (j := i) (n := 24) (by omega) (by decide)
    have hia := in_nI (j := aft n i) (n := 24) (by omega) (by decide)
    have hYi := hY i hi
    have hYa := hY _ haf
    refine R_iload_n (q := 7) rfl rfl rfl ?_
    refine R_aload_n (q := 8) rfl rfl rfl ?_
    refine R_getf (q := 11) rfl rfl rfl (by first | assumption | exact mm_pe | (rw [mm_pn (by omega)]; first | assumption | exact mm_pe | (rw [mm_pn (by omega)]; first | assumption | exact mm_pe | (rw [mm_pn (by omega)]; first | assumption | exact mm_pe | (rw [mm_pn (by omega)]; first | assumption | exact mm_pe | (rw [mm_pn (by omega)]; first | assumption | exact mm_pe)))))) rfl ?_
    refine R_icmp_ge (q := 14) (t := 95) rfl rfl rfl (fun h11 => absurd h11 (nI_ge hi (by omega))) (fun h11 => ?_)
    refine R_aload_n (q := 15) rfl rfl rfl ?_
    refine R_iload_n (q := 16) rfl rfl rfl ?_
    refine R_callv1 (q := 19) rfl rfl rfl rfl (by first | assumption | exact mm_pe | (rw [mm_pn (by omega)]; first | assumption | exact mm_pe | (rw [mm_pn (by omega)]; first | assumption | exact mm_pe | (rw [mm_pn (by omega)]; first | assumption | exact mm_pe | (rw [mm_pn (by omega)]; first | assumption | exact mm_pe | (rw [mm_pn (by omega)]; first | assumption | exact mm_pe)))))) (Nat.le_of_ble_eq_true rfl) rfl ?_
    refine R_mono (c72 hol (by omega)) (fun v16 M16 hr16 => ?_)
    obtain ⟨rfl, hm16⟩ := hr16
    rw [hm16]
    dsimp only [Option.toList, List.cons_append, List.nil_append]
    refine R_istore_n (q := 20) rfl rfl (Nat.le_of_ble_eq_true rfl) rfl ?_
    dsimp only [List.set]
    refine R_aload_n (q := 21) rfl rfl rfl ?_
    refine R_getf (q := 24) rfl rfl rfl (by first | assumption | exact mm_pe | (rw [mm_pn (by omega)]; first | assumption | exact mm_pe | (rw [mm_pn (by omega)]; first | assumption | exact mm_pe | (rw [mm_pn (by omega)]; first | assumption | exact mm_pe | (rw [mm_pn (by omega)]; first | assumption | exact mm_pe | (rw [mm_pn (by omega)]; first | assumption | exact mm_pe)))))) rfl ?_
    refine R_iload_n (q := 25) rfl rfl rfl ?_
    refine R_iaload (q := 26) rfl rfl (by first | assumption | exact mm_pe | (rw [mm_pn (by omega)]; first | assumption | exact mm_pe | (rw [mm_pn (by omega)]; first | assumption | exact mm_pe | (rw [mm_pn (by omega)]; first | assumption | exact mm_pe | (rw [mm_pn (by omega)]; first | assumption | exact mm_pe | (rw [mm_pn (by omega)]; first | assumption | exact mm_pe)))))) (by omega) (by first | assumption | exact in_nI (by omega) (by decide)) ?_
    refine R_aload_n (q := 27) rfl rfl rfl ?_
    refine R_getf (q := 30) rfl rfl rfl (by first | assumption | exact mm_pe | (rw [mm_pn (by omega)]; first | assumption | exact mm_pe | (rw [mm_pn (by omega)]; first | assumption | exact mm_pe | (rw [mm_pn (by omega)]; first | assumption | exact mm_pe | (rw [mm_pn (by omega)]; first | assumption | exact mm_pe | (rw [mm_pn (by omega)]; first | assumption | exact mm_pe)))))) rfl ?_
    refine R_iload_n (q := 31) rfl rfl rfl ?_
    refine R_iaload (q := 32) rfl rfl (by first | assumption | exact mm_pe | (rw [mm_pn (by omega)]; first | assumption | exact mm_pe | (rw [mm_pn (by omega)]; first | assumption | exact mm_pe | (rw [mm_pn (by omega)]; first | assumption | exact mm_pe | (rw [mm_pn (by omega)]; first | assumption | exact mm_pe | (rw [mm_pn (by omega)]; first | assumption | exact mm_pe)))))) (by omega) (by first | assumption | exact in_nI (by omega) (by decide)) ?_
    rw [cl_nI (by omega), cl_nI (by omega), hYi.1, hYa.1]
    refine R_mmax (q := 35) rfl rfl (by decide +kernel) rfl (by omega) (Nat.le_of_ble_eq_true rfl) ?_
    rw [mx_nI (by omega) (by omega)]
    refine R_istore (q := 37) rfl rfl (Nat.le_of_ble_eq_true rfl) rfl ?_
    dsimp only [List.set]
    refine R_aload_n (q := 38) rfl rfl rfl ?_
    refine R_getf (q := 41) rfl rfl rfl (by first | assumption | exact mm_pe | (rw [mm_pn (by omega)]; first | assumption | exact mm_pe | (rw [mm_pn (by omega)]; first | assumption | exact mm_pe | (rw [mm_pn (by omega)]; first | assumption | exact mm_pe | (rw [mm_pn (by omega)]; first | assumption | exact mm_pe | (rw [mm_pn (by omega)]; first | assumption | exact mm_pe)))))) rfl ?_
    refine R_iload_n (q := 42) rfl rfl rfl ?_
    refine R_iaload (q := 43) rfl rfl (by first | assumption | exact mm_pe | (rw [mm_pn (by omega)]; first | assumption | exact mm_pe | (rw [mm_pn (by omega)]; first | assumption | exact mm_pe | (rw [mm_pn (by omega)]; first | assumption | exact mm_pe | (rw [mm_pn (by omega)]; first | assumption | exact mm_pe | (rw [mm_pn (by omega)]; first | assumption | exact mm_pe)))))) (by omega) (by first | assumption | exact in_nI (by omega) (by decide)) ?_
    refine R_aload_n (q := 44) rfl rfl rfl ?_
    refine R_getf (q := 47) rfl rfl rfl (by first | assumption | exact mm_pe | (rw [mm_pn (by omega)]; first | assumption | exact mm_pe | (rw [mm_pn (by omega)]; first | assumption | exact mm_pe | (rw [mm_pn (by omega)]; first | assumption | exact mm_pe | (rw [mm_pn (by omega)]; first | assumption | exact mm_pe | (rw [mm_pn (by omega)]; first | assumption | exact mm_pe)))))) rfl ?_
    refine R_iload_n (q := 48) rfl rfl rfl ?_
    refine R_iaload (q := 49) rfl rfl (by first | assumption | exact mm_pe | (rw [mm_pn (by omega)]; first | assumption | exact mm_pe | (rw [mm_pn (by omega)]; first | assumption | exact mm_pe | (rw [mm_pn (by omega)]; first | assumption | exact mm_pe | (rw [mm_pn (by omega)]; first | assumption | exact mm_pe | (rw [mm_pn (by omega)]; first | assumption | exact mm_pe)))))) (by omega) (by first | assumption | exact in_nI (by omega) (by decide)) ?_
    rw [cl_nI (by omega), cl_nI (by omega), hYi.1, hYa.1]
    refine R_mmin (q := 52) rfl rfl (by decide +kernel) rfl (by omega) (Nat.le_of_ble_eq_true rfl) ?_
    rw [mn_nI (by omega) (by omega)]
    refine R_istore (q := 54) rfl rfl (Nat.le_of_ble_eq_true rfl) rfl ?_
    dsimp only [List.set]
    have hmm : min (Y i) (Y (aft n i)) ≤ max (Y i) (Y (aft n i)) := by omega
    refine R_atM (M' := mm_put M (b + 1) (ro (ifr (fun y => (gi n X Y (ifl (fun _ => nI 0) f 16) i y ^^^ ((65535 : Int32) <<< (nI (X i) &&& 31))) &&& 65535) (gi n X Y (ifl (fun _ => nI 0) f 16) i) (min (Y i) (Y (aft n i))) (min (Y i) (Y (aft n i)))))) (by rw [ifr_0]) ?_
    refine lpM (fun y => mm_R S (d + 1) 71 54 [some (.ref a), some (.ref b), some (.int (nI i)), some (.int (nI (aft n i))), some (.int (nI (max (Y i) (Y (aft n i))))), some (.int (nI y))] [] (mm_put M (b + 1) (ro (ifr (fun y => (gi n X Y (ifl (fun _ => nI 0) f 16) i y ^^^ ((65535 : Int32) <<< (nI (X i) &&& 31))) &&& 65535) (gi n X Y (ifl (fun _ => nI 0) f 16) i) (min (Y i) (Y (aft n i))) y))) (fun v M' => v = none ∧ M' = mm_put M (b + 1) (ro (gi n X Y (ifl (fun _ => nI 0) f 16) n)))) (min (Y i) (Y (aft n i))) (max (Y i) (Y (aft n i))) (fun y hy0 hy ihy => ?_) ?_ _ (Nat.le_refl _) hmm
    · have hol2 : OL (mm_put M (b + 1) (ro (ifr (fun y => (gi n X Y (ifl (fun _ => nI 0) f 16) i y ^^^ ((65535 : Int32) <<< (nI (X i) &&& 31))) &&& 65535) (gi n X Y (ifl (fun _ => nI 0) f 16) i) (min (Y i) (Y (aft n i))) y))) a n px py := OL_off h (by omega)
      obtain ⟨o1, o2, o3, o4⟩ := id hol2
      have hca : CA (mm_put M (b + 1) (ro (ifr (fun y => (gi n X Y (ifl (fun _ => nI 0) f 16) i y ^^^ ((65535 : Int32) <<< (nI (X i) &&& 31))) &&& 65535) (gi n X Y (ifl (fun _ => nI 0) f 16) i) (min (Y i) (Y (aft n i))) y))) b _ := CA_put hb
      have hca1 := hca.1
      refine R_iload (q := 56) rfl rfl rfl ?_
      refine R_iload (q := 58) rfl rfl rfl ?_
      refine R_icmp_ge (q := 61) (t := 89) rfl rfl rfl (fun h58 => absurd h58 (nI_ge hy (by omega))) (fun h58 => ?_)
      refine R_aload_n (q := 62) rfl rfl rfl ?_
      refine R_iload (q := 64) rfl rfl rfl ?_
      refine R_aload_n (q := 65) rfl rfl rfl ?_
      refine R_iload (q := 67) rfl rfl rfl ?_
      refine R_callv1 (q := 70) rfl rfl rfl rfl (by first | assumption | exact mm_pe | (rw [mm_pn (by omega)]; first | assumption | exact mm_pe | (rw [mm_pn (by omega)]; first | assumption | exact mm_pe | (rw [mm_pn (by omega)]; first | assumption | exact mm_pe | (rw [mm_pn (by omega)]; first | assumption | exact mm_pe | (rw [mm_pn (by omega)]; first | assumption | exact mm_pe)))))) (Nat.le_of_ble_eq_true rfl) rfl ?_
      refine R_mono (c2 hca) (fun v67 M67 hr67 => ?_)
      obtain ⟨rfl, hm67⟩ := hr67
      rw [hm67]
      dsimp only [Option.toList, List.cons_append, List.nil_append]
      rw [rowv_nI (by omega), ifr_ge]
      refine R_ldc (q := 72) (v := 65535) rfl rfl rfl ?_
      refine R_aload_n (q := 73) rfl rfl rfl ?_
      refine R_getf (q := 76) rfl rfl rfl (by first | assumption | exact mm_pe | (rw [mm_pn (by omega)]; first | assumption | exact mm_pe | (rw [mm_pn (by omega)]; first | assumption | exact mm_pe | (rw [mm_pn (by omega)]; first | assumption | exact mm_pe | (rw [mm_pn (by omega)]; first | assumption | exact mm_pe | (rw [mm_pn (by omega)]; first | assumption | exact mm_pe)))))) rfl ?_
      refine R_iload_n (q := 77) rfl rfl rfl ?_
      refine R_iaload (q := 78) rfl rfl (by first | assumption | exact mm_pe | (rw [mm_pn (by omega)]; first | assumption | exact mm_pe | (rw [mm_pn (by omega)]; first | assumption | exact mm_pe | (rw [mm_pn (by omega)]; first | assumption | exact mm_pe | (rw [mm_pn (by omega)]; first | assumption | exact mm_pe | (rw [mm_pn (by omega)]; first | assumption | exact mm_pe)))))) (by omega) (by first | assumption | exact in_nI (by omega) (by decide)) ?_
      rw [cl_nI (by omega), (hX i hi).1]
      refine R_ishl (q := 79) rfl rfl ?_
      refine R_ixor (q := 80) rfl rfl ?_
      refine R_callv2 (q := 83) rfl rfl rfl rfl (by first | assumption | exact mm_pe | (rw [mm_pn (by omega)]; first | assumption | exact mm_pe | (rw [mm_pn (by omega)]; first | assumption | exact mm_pe | (rw [mm_pn (by omega)]; first | assumption | exact mm_pe | (rw [mm_pn (by omega)]; first | assumption | exact mm_pe | (rw [mm_pn (by omega)]; first | assumption | exact mm_pe)))))) (Nat.le_of_ble_eq_true rfl) rfl ?_
      refine R_mono (c6 hca) (fun v80 M80 hr80 => ?_)
      obtain ⟨rfl, hm80⟩ := hr80
      rw [if_pos (by rw [i_n y (by omega)]; omega), mm_pp, cl_nI (by omega)] at hm80
      rw [hm80]
      dsimp only [Option.toList, List.cons_append, List.nil_append]
      refine R_iinc (q := 86) rfl rfl rfl (nI_i1 y) rfl ?_
      dsimp only [List.set]
      refine R_goto (t := 54) rfl rfl ?_
      refine R_atM ?_ ihy
      exact (congrArg (fun z => mm_put M (b + 1) (ro z)) (ifr_s (n := (fun y => (gi n X Y (ifl (fun _ => nI 0) f 16) i y ^^^ ((65535 : Int32) <<< (nI (X i) &&& 31))) &&& 65535)) hy0)).symm
    · refine R_iload (q := 56) rfl rfl rfl ?_
      refine R_iload (q := 58) rfl rfl rfl ?_
      refine R_icmp_ge (q := 61) (t := 89) rfl rfl rfl (fun h58 => ?_) (fun h58 => absurd (nI_le (Nat.le_refl _) (by omega)) h58)
      refine R_iinc (q := 92) rfl rfl rfl (nI_i1 i) rfl ?_
      dsimp only [List.set]
      refine R_goto (t := 6) rfl rfl ?_
      exact ih _ _ _
  · refine R_iload_n (q := 7) rfl rfl rfl ?_
    refine R_aload_n (q := 8) rfl rfl rfl ?_
    refine R_getf (q := 11) rfl rfl rfl (OL_off h (by omega)).1 rfl ?_
    refine R_icmp_ge (q := 14) (t := 95) rfl rfl rfl (fun h11 => ?_) (fun h11 => absurd (nI_le (Nat.le_refl _) (by omega)) h11)
    refine R_return rfl rfl ?_
    exact ⟨rfl, rfl⟩
end P20
/-! ===== Part ===== -/
def PT (M : mm_M) (a nb np : Nat) (bx pl : Nat → Int32) : Prop := M.1 a = some (.inr (6, [.ref (a + 1), .ref (a + 2), .int (nI nb), .int (nI np)])) ∧ M.1 (a + 1) = some (.inl (0, 24, .inl bx)) ∧ M.1 (a + 2) = some (.inl (0, 32, .inl pl)) ∧ nb ≤ 6 ∧ np ≤ 4
section P20b
variable {S : mm_S} {d : Nat} {M : mm_M} {a nb np : Nat} {bx pl : Nat → Int32}
set_option maxRecDepth 8000 in
theorem c76 (h : PT M a nb np bx pl) : mm_R S d 76 0 (mm_en 76 [.ref a]) [] M (fun v M' => v = none ∧ M' = mm_put M a (.inr (6, [.ref (a + 1), .ref (a + 2), .int (nI 0), .int (nI 0)]))) := by
  obtain ⟨h1, h2, h3, h4, h5⟩ := h
  show mm_R S d 76 0 [some (.ref a)] [] M _
  refine R_aload_n (q := 1) rfl rfl rfl ?_
  refine R_iconst (q := 2) (v := nI 0) rfl rfl (by decide) ?_
  refine R_putf (q := 5) rfl rfl rfl (by first | assumption | exact mm_pe | (rw [mm_pn (by omega)]; first | assumption | exact mm_pe | (rw [mm_pn (by omega)]; first | assumption | exact mm_pe | (rw [mm_pn (by omega)]; first | assumption | exact mm_pe | (rw [mm_pn (by omega)]; first | assumption | exact mm_pe | (rw [mm_pn (by omega)]; first | assumption | exact mm_pe)))))) (Nat.le_of_ble_eq_true rfl) rfl (fun hf => absurd hf (by decide)) rfl ?_
  dsimp only [List.set]
  refine R_aload_n (q := 6) rfl rfl rfl ?_
  refine R_iconst (q := 7) (v := nI 0) rfl rfl (by decide) ?_
  refine R_putf (q := 10) rfl rfl rfl (by first | assumption | exact mm_pe | (rw [mm_pn (by omega)]; first | assumption | exact mm_pe | (rw [mm_pn (by omega)]; first | assumption | exact mm_pe | (rw [mm_pn (by omega)]; first | assumption | exact mm_pe | (rw [mm_pn (by omega)]; first | assumption | exact mm_pe | (rw [mm_pn (by omega)]; first | assumption | exact mm_pe)))))) (Nat.le_of_ble_eq_true rfl) rfl (fun hf => absurd hf (by decide)) rfl ?_
  dsimp only [List.set]
  refine R_return rfl rfl ?_
  exact ⟨rfl, mm_pp⟩
set_option maxRecDepth 8000 in
theorem c77 (h : PT M a nb np bx pl) : mm_R S d 77 0 (mm_en 77 [.ref a]) [] M (fun v M' => v = some (.int (nI nb)) ∧ M' = M) := by
  obtain ⟨h1, h2, h3, h4, h5⟩ := h
  show mm_R S d 77 0 [some (.ref a)] [] M _
  refine R_aload_n (q := 1) rfl rfl rfl ?_
  refine R_getf (q := 4) rfl rfl rfl (by first | assumption | exact mm_pe | (rw [mm_pn (by omega)]; first | assumption | exact mm_pe | (rw [mm_pn (by omega)]; first | assumption | exact mm_pe | (rw [mm_pn (by omega)]; first | assumption | exact mm_pe | (rw [mm_pn (by omega)]; first | assumption | exact mm_pe | (rw [mm_pn (by omega)]; first | assumption | exact mm_pe)))))) rfl ?_
  refine R_ireturn rfl rfl ?_
  exact ⟨rfl, rfl⟩
set_option maxRecDepth 8000 in
theorem c78 (h : PT M a nb np bx pl) : mm_R S d 78 0 (mm_en 78 [.ref a]) [] M (fun v M' => v = some (.int (nI np)) ∧ M' = M) := by
  obtain ⟨h1, h2, h3, h4, h5⟩ := h
  show mm_R S d 78 0 [some (.ref a)] [] M _
  refine R_aload_n (q := 1) rfl rfl rfl ?_
  refine R_getf (q := 4) rfl rfl rfl (by first | assumption | exact mm_pe | (rw [mm_pn (by omega)]; first | assumption | exact mm_pe | (rw [mm_pn (by omega)]; first | assumption | exact mm_pe | (rw [mm_pn (by omega)]; first | assumption | exact mm_pe | (rw [mm_pn (by omega)]; first | assumption | exact mm_pe | (rw [mm_pn (by omega)]; first | assumption | exact mm_pe)))))) rfl ?_
  refine R_ireturn rfl rfl ?_
  exact ⟨rfl, rfl⟩
set_option maxRecDepth 8000 in
theorem c79_full {x y w h : Int32} (hp : PT M a nb np bx pl) (hn : nb = 6) : mm_R S d 79 0 (mm_en 79 [.ref a, .int x, .int y, .int w, .int h]) [] M (fun v M' => v = some (.int (nI 0)) ∧ M' = M) := by
  obtain ⟨h1, h2, h3, h4, h5⟩ := hp
  subst hn
  show mm_R S d 79 0 [some (.ref a), some (.int x), some (.int y), some (.int w), some (.int h), none] [] M _
  refine R_aload_n (q := 1) rfl rfl rfl ?_
  refine R_getf (q := 4) rfl rfl rfl (by first | assumption | exact mm_pe | (rw [mm_pn (by omega)]; first | assumption | exact mm_pe | (rw [mm_pn (by omega)]; first | assumption | exact mm_pe | (rw [mm_pn (by omega)]; first | assumption | exact mm_pe | (rw [mm_pn (by omega)]; first | assumption | exact mm_pe | (rw [mm_pn (by omega)]; first | assumption | exact mm_pe)))))) rfl ?_
  refine R_bipush (q := 6) (v := nI 6) rfl rfl (by decide) ?_
  refine R_icmp_lt (q := 9) (t := 11) rfl rfl rfl (fun h6 => absurd h6 (by decide)) (fun h6 => ?_)
  refine R_iconst (q := 10) (v := nI 0) rfl rfl (by decide) ?_
  refine R_zreturn rfl rfl (by first | exact Or.inl rfl | exact Or.inr rfl | assumption) ?_
  exact ⟨rfl, rfl⟩
def up4 (p : Nat → Int32) (k : Nat) (x y w h : Int32) : Nat → Int32 := upd (upd (upd (upd p k x) (k + 1) y) (k + 2) w) (k + 3) h
set_option maxRecDepth 8000 in
theorem c79 {x y w h : Int32} (hp : PT M a nb np bx pl) (hn : nb < 6) : mm_R S d 79 0 (mm_en 79 [.ref a, .int x, .int y, .int w, .int h]) [] M (fun v M' => v = some (.int (nI 1)) ∧ M' = mm_put (mm_put M (a + 1) (.inl (0, 24, .inl (up4 bx (nb * 4) x y w h)))) a (.inr (6, [.ref (a + 1), .ref (a + 2), .int (nI (nb + 1)), .int (nI np)]))) := by
  obtain ⟨h1, h2, h3, h4, h5⟩ := hp
  show mm_R S d 79 0 [some (.ref a), some (.int x), some (.int y), some (.int w), some (.int h), none] [] M _
  refine R_aload_n (q := 1) rfl rfl rfl ?_
  refine R_getf (q := 4) rfl rfl rfl (by first | assumption | exact mm_pe | (rw [mm_pn (by omega)]; first | assumption | exact mm_pe | (rw [mm_pn (by omega)]; first | assumption | exact mm_pe | (rw [mm_pn (by omega)]; first | assumption | exact mm_pe | (rw [mm_pn (by omega)]; first | assumption | exact mm_pe | (rw [mm_pn (by omega)]; first | assumption | exact mm_pe)))))) rfl ?_
  refine R_bipush (q := 6) (v := nI 6) rfl rfl (by decide) ?_
  refine R_icmp_lt (q := 9) (t := 11) rfl rfl rfl (fun h6 => ?_) (fun h6 => absurd (nI_lt hn (by decide)) h6)
  refine R_aload_n (q := 12) rfl rfl rfl ?_
  refine R_getf (q := 15) rfl rfl rfl (by first | assumption | exact mm_pe | (rw [mm_pn (by omega)]; first | assumption | exact mm_pe | (rw [mm_pn (by omega)]; first | assumption | exact mm_pe | (rw [mm_pn (by omega)]; first | assumption | exact mm_pe | (rw [mm_pn (by omega)]; first | assumption | exact mm_pe | (rw [mm_pn (by omega)]; first | assumption | exact mm_pe)))))) rfl ?_
  refine R_iconst (q := 16) (v := nI 4) rfl rfl (by decide) ?_
  refine R_imul (q := 17) rfl rfl ?_
  rw [pk_mul]
  refine R_istore (q := 19) rfl rfl (Nat.le_of_ble_eq_true rfl) rfl ?_
  dsimp only [List.set]
  refine R_aload_n (q := 20) rfl rfl rfl ?_
  refine R_getf (q := 23) rfl rfl rfl (by first | assumption | exact mm_pe | (rw [mm_pn (by omega)]; first | assumption | exact mm_pe | (rw [mm_pn (by omega)]; first | assumption | exact mm_pe | (rw [mm_pn (by omega)]; first | assumption | exact mm_pe | (rw [mm_pn (by omega)]; first | assumption | exact mm_pe | (rw [mm_pn (by omega)]; first | assumption | exact mm_pe)))))) rfl ?_
  refine R_iload (q := 25) rfl rfl rfl ?_
  refine R_iload_n (q := 26) rfl rfl rfl ?_
  refine R_iastore (q := 27) rfl rfl (by first | assumption | exact mm_pe | (rw [mm_pn (by omega)]; first | assumption | exact mm_pe | (rw [mm_pn (by omega)]; first | assumption | exact mm_pe | (rw [mm_pn (by omega)]; first | assumption | exact mm_pe | (rw [mm_pn (by omega)]; first | assumption | exact mm_pe | (rw [mm_pn (by omega)]; first | assumption | exact mm_pe)))))) (by first | assumption | exact in_nI (by omega) (by decide)) ?_
  rw [cl_nI (by omega)]
  refine R_aload_n (q := 28) rfl rfl rfl ?_
  refine R_getf (q := 31) rfl rfl rfl (by first | assumption | exact mm_pe | (rw [mm_pn (by omega)]; first | assumption | exact mm_pe | (rw [mm_pn (by omega)]; first | assumption | exact mm_pe | (rw [mm_pn (by omega)]; first | assumption | exact mm_pe | (rw [mm_pn (by omega)]; first | assumption | exact mm_pe | (rw [mm_pn (by omega)]; first | assumption | exact mm_pe)))))) rfl ?_
  refine R_iload (q := 33) rfl rfl rfl ?_
  refine R_iconst (q := 34) (v := nI 1) rfl rfl (by decide) ?_
  refine R_iadd (q := 35) rfl rfl ?_
  rw [nI_add]
  refine R_iload_n (q := 36) rfl rfl rfl ?_
  refine R_iastore (q := 37) rfl rfl (by first | assumption | exact mm_pe | (rw [mm_pn (by omega)]; first | assumption | exact mm_pe | (rw [mm_pn (by omega)]; first | assumption | exact mm_pe | (rw [mm_pn (by omega)]; first | assumption | exact mm_pe | (rw [mm_pn (by omega)]; first | assumption | exact mm_pe | (rw [mm_pn (by omega)]; first | assumption | exact mm_pe)))))) (by first | assumption | exact in_nI (by omega) (by decide)) ?_
  rw [cl_nI (by omega), mm_pp]
  refine R_aload_n (q := 38) rfl rfl rfl ?_
  refine R_getf (q := 41) rfl rfl rfl (by first | assumption | exact mm_pe | (rw [mm_pn (by omega)]; first | assumption | exact mm_pe | (rw [mm_pn (by omega)]; first | assumption | exact mm_pe | (rw [mm_pn (by omega)]; first | assumption | exact mm_pe | (rw [mm_pn (by omega)]; first | assumption | exact mm_pe | (rw [mm_pn (by omega)]; first | assumption | exact mm_pe)))))) rfl ?_
  refine R_iload (q := 43) rfl rfl rfl ?_
  refine R_iconst (q := 44) (v := nI 2) rfl rfl (by decide) ?_
  refine R_iadd (q := 45) rfl rfl ?_
  rw [nI_add]
  refine R_iload_n (q := 46) rfl rfl rfl ?_
  refine R_iastore (q := 47) rfl rfl (by first | assumption | exact mm_pe | (rw [mm_pn (by omega)]; first | assumption | exact mm_pe | (rw [mm_pn (by omega)]; first | assumption | exact mm_pe | (rw [mm_pn (by omega)]; first | assumption | exact mm_pe | (rw [mm_pn (by omega)]; first | assumption | exact mm_pe | (rw [mm_pn (by omega)]; first | assumption | exact mm_pe)))))) (by first | assumption | exact in_nI (by omega) (by decide)) ?_
  rw [cl_nI (by omega), mm_pp]
  refine R_aload_n (q := 48) rfl rfl rfl ?_
  refine R_getf (q := 51) rfl rfl rfl (by first | assumption | exact mm_pe | (rw [mm_pn (by omega)]; first | assumption | exact mm_pe | (rw [mm_pn (by omega)]; first | assumption | exact mm_pe | (rw [mm_pn (by omega)]; first | assumption | exact mm_pe | (rw [mm_pn (by omega)]; first | assumption | exact mm_pe | (rw [mm_pn (by omega)]; first | assumption | exact mm_pe)))))) rfl ?_
  refine R_iload (q := 53) rfl rfl rfl ?_
  refine R_iconst (q := 54) (v := nI 3) rfl rfl (by decide) ?_
  refine R_iadd (q := 55) rfl rfl ?_
  rw [nI_add]
  refine R_iload (q := 57) rfl rfl rfl ?_
  refine R_iastore (q := 58) rfl rfl (by first | assumption | exact mm_pe | (rw [mm_pn (by omega)]; first | assumption | exact mm_pe | (rw [mm_pn (by omega)]; first | assumption | exact mm_pe | (rw [mm_pn (by omega)]; first | assumption | exact mm_pe | (rw [mm_pn (by omega)]; first | assumption | exact mm_pe | (rw [mm_pn (by omega)]; first | assumption | exact mm_pe)))))) (by first | assumption | exact in_nI (by omega) (by decide)) ?_
  rw [cl_nI (by omega), mm_pp]
  refine R_aload_n (q := 59) rfl rfl rfl ?_
  first | refine R_dupa (q := 60) rfl rfl ?_ | refine R_dupi (q := 60) rfl rfl ?_
  refine R_getf (q := 63) rfl rfl rfl (by first | assumption | exact mm_pe | (rw [mm_pn (by omega)]; first | assumption | exact mm_pe | (rw [mm_pn (by omega)]; first | assumption | exact mm_pe | (rw [mm_pn (by omega)]; first | assumption | exact mm_pe | (rw [mm_pn (by omega)]; first | assumption | exact mm_pe | (rw [mm_pn (by omega)]; first | assumption | exact mm_pe)))))) rfl ?_
  refine R_iconst (q := 64) (v := nI 1) rfl rfl (by decide) ?_
  refine R_iadd (q := 65) rfl rfl ?_
  rw [nI_add]
  refine R_putf (q := 68) rfl rfl rfl (by first | assumption | exact mm_pe | (rw [mm_pn (by omega)]; first | assumption | exact mm_pe | (rw [mm_pn (by omega)]; first | assumption | exact mm_pe | (rw [mm_pn (by omega)]; first | assumption | exact mm_pe | (rw [mm_pn (by omega)]; first | assumption | exact mm_pe | (rw [mm_pn (by omega)]; first | assumption | exact mm_pe)))))) (Nat.le_of_ble_eq_true rfl) rfl (fun hf => absurd hf (by decide)) rfl ?_
  dsimp only [List.set]
  refine R_iconst (q := 69) (v := nI 1) rfl rfl (by decide) ?_
  refine R_zreturn rfl rfl (by first | exact Or.inl rfl | exact Or.inr rfl | assumption) ?_
  exact ⟨rfl, rfl⟩
set_option maxRecDepth 8000 in
theorem c80_full {q : Nat} (hp : PT M a nb np bx pl) (hn : np = 4) : mm_R S d 80 0 (mm_en 80 [.ref a, .ref q]) [] M (fun v M' => v = some (.int (nI 0)) ∧ M' = M) := by
  obtain ⟨h1, h2, h3, h4, h5⟩ := hp
  subst hn
  show mm_R S d 80 0 [some (.ref a), some (.ref q), none, none] [] M _
  refine R_aload_n (q := 1) rfl rfl rfl ?_
  refine R_getf (q := 4) rfl rfl rfl (by first | assumption | exact mm_pe | (rw [mm_pn (by omega)]; first | assumption | exact mm_pe | (rw [mm_pn (by omega)]; first | assumption | exact mm_pe | (rw [mm_pn (by omega)]; first | assumption | exact mm_pe | (rw [mm_pn (by omega)]; first | assumption | exact mm_pe | (rw [mm_pn (by omega)]; first | assumption | exact mm_pe)))))) rfl ?_
  refine R_iconst (q := 5) (v := nI 4) rfl rfl (by decide) ?_
  refine R_icmp_ge (q := 8) (t := 15) rfl rfl rfl (fun h5 => ?_) (fun h5 => absurd (by decide) h5)
  refine R_iconst (q := 16) (v := nI 0) rfl rfl (by decide) ?_
  refine R_zreturn rfl rfl (by first | exact Or.inl rfl | exact Or.inr rfl | assumption) ?_
  exact ⟨rfl, rfl⟩
/-- the fields g put at k .. k + j - 1 -/
def upn (p g : Nat → Int32) (k : Nat) : Nat → Nat → Int32
  | 0 => p
  | j + 1 => upd (upn p g k j) (k + j) (g j)
set_option maxRecDepth 8000 in
theorem c80 {q : Nat} {g : Nat → Int32} (hp : PT M a nb np bx pl) (hn : np < 4) (hq : M.1 (q + 1) = some (.inl (0, 8, .inl g))) (hqa : q + 1 < a ∨ a + 2 < q + 1) : mm_R S d 80 0 (mm_en 80 [.ref a, .ref (q + 1)]) [] M (fun v M' => v = some (.int (nI 1)) ∧ M' = mm_put (mm_put M (a + 2) (.inl (0, 32, .inl (upn pl g (np * 8) 8)))) a (.inr (6, [.ref (a + 1), .ref (a + 2), .int (nI nb), .int (nI (np + 1))]))) := by
  obtain ⟨h1, h2, h3, h4, h5⟩ := hp
  show mm_R S d 80 0 [some (.ref a), some (.ref (q + 1)), none, none] [] M _
  refine R_aload_n (q := 1) rfl rfl rfl ?_
  refine R_getf (q := 4) rfl rfl rfl (by first | assumption | exact mm_pe | (rw [mm_pn (by omega)]; first | assumption | exact mm_pe | (rw [mm_pn (by omega)]; first | assumption | exact mm_pe | (rw [mm_pn (by omega)]; first | assumption | exact mm_pe | (rw [mm_pn (by omega)]; first | assumption | exact mm_pe | (rw [mm_pn (by omega)]; first | assumption | exact mm_pe)))))) rfl ?_
  refine R_iconst (q := 5) (v := nI 4) rfl rfl (by decide) ?_
  refine R_icmp_ge (q := 8) (t := 15) rfl rfl rfl (fun h5 => absurd h5 (nI_ge hn (by decide))) (fun h5 => ?_)
  refine R_aload_n (q := 9) rfl rfl rfl ?_
  refine R_alen (q := 10) rfl rfl hq (by decide) ?_
  refine R_bipush (q := 12) (v := nI 8) rfl rfl (by decide) ?_
  refine R_icmp_ge (q := 15) (t := 17) rfl rfl rfl (fun h12 => ?_) (fun h12 => absurd (by decide) h12)
  refine R_aload_n (q := 18) rfl rfl rfl ?_
  refine R_getf (q := 21) rfl rfl rfl (by first | assumption | exact mm_pe | (rw [mm_pn (by omega)]; first | assumption | exact mm_pe | (rw [mm_pn (by omega)]; first | assumption | exact mm_pe | (rw [mm_pn (by omega)]; first | assumption | exact mm_pe | (rw [mm_pn (by omega)]; first | assumption | exact mm_pe | (rw [mm_pn (by omega)]; first | assumption | exact mm_pe)))))) rfl ?_
  refine R_bipush (q := 23) (v := nI 8) rfl rfl (by decide) ?_
  refine R_imul (q := 24) rfl rfl ?_
  rw [pk_mul]
  refine R_istore_n (q := 25) rfl rfl (Nat.le_of_ble_eq_true rfl) rfl ?_
  dsimp only [List.set]
  refine R_iconst (q := 26) (v := nI 0) rfl rfl (by decide) ?_
  refine R_istore_n (q := 27) rfl rfl (Nat.le_of_ble_eq_true rfl) rfl ?_
  dsimp only [List.set]
  refine R_atM (M' := mm_put M (a + 2) (.inl (0, 32, .inl (upn pl g (np * 8) 0)))) (mm_pself h3) ?_
  refine lpN (fun j => mm_R S d 80 27 [some (.ref a), some (.ref (q + 1)), some (.int (nI (np * 8))), some (.int (nI j))] [] (mm_put M (a + 2) (.inl (0, 32, .inl (upn pl g (np * 8) j)))) (fun v M' => v = some (.int (nI 1)) ∧ M' = mm_put (mm_put M (a + 2) (.inl (0, 32, .inl (upn pl g (np * 8) 8)))) a (.inr (6, [.ref (a + 1), .ref (a + 2), .int (nI nb), .int (nI (np + 1))])))) 8 (fun j hj ih => ?_) ?_ 0 (Nat.zero_le _)
  · skip
    refine R_iload_n (q := 28) rfl rfl rfl ?_
    refine R_bipush (q := 30) (v := nI 8) rfl rfl (by decide) ?_
    refine R_icmp_ge (q := 33) (t := 50) rfl rfl rfl (fun h30 => absurd h30 (nI_ge hj (by decide))) (fun h30 => ?_)
    refine R_aload_n (q := 34) rfl rfl rfl ?_
    refine R_getf (q := 37) rfl rfl rfl (by first | assumption | exact mm_pe | (rw [mm_pn (by omega)]; first | assumption | exact mm_pe | (rw [mm_pn (by omega)]; first | assumption | exact mm_pe | (rw [mm_pn (by omega)]; first | assumption | exact mm_pe | (rw [mm_pn (by omega)]; first | assumption | exact mm_pe | (rw [mm_pn (by omega)]; first | assumption | exact mm_pe)))))) rfl ?_
    refine R_iload_n (q := 38) rfl rfl rfl ?_
    refine R_iload_n (q := 39) rfl rfl rfl ?_
    refine R_iadd (q := 40) rfl rfl ?_
    rw [nI_add]
    refine R_aload_n (q := 41) rfl rfl rfl ?_
    refine R_iload_n (q := 42) rfl rfl rfl ?_
    refine R_iaload (q := 43) rfl rfl (by first | assumption | exact mm_pe | (rw [mm_pn (by omega)]; first | assumption | exact mm_pe | (rw [mm_pn (by omega)]; first | assumption | exact mm_pe | (rw [mm_pn (by omega)]; first | assumption | exact mm_pe | (rw [mm_pn (by omega)]; first | assumption | exact mm_pe | (rw [mm_pn (by omega)]; first | assumption | exact mm_pe)))))) (by omega) (by first | assumption | exact in_nI (by omega) (by decide)) ?_
    refine R_iastore (q := 44) rfl rfl (by first | assumption | exact mm_pe | (rw [mm_pn (by omega)]; first | assumption | exact mm_pe | (rw [mm_pn (by omega)]; first | assumption | exact mm_pe | (rw [mm_pn (by omega)]; first | assumption | exact mm_pe | (rw [mm_pn (by omega)]; first | assumption | exact mm_pe | (rw [mm_pn (by omega)]; first | assumption | exact mm_pe)))))) (by first | assumption | exact in_nI (by omega) (by decide)) ?_
    rw [cl_nI (by omega), cl_nI (by omega), mm_pp]
    refine R_iinc (q := 47) rfl rfl rfl (nI_i1 j) rfl ?_
    dsimp only [List.set]
    refine R_goto (t := 27) rfl rfl ?_
    exact ih
  · refine R_iload_n (q := 28) rfl rfl rfl ?_
    refine R_bipush (q := 30) (v := nI 8) rfl rfl (by decide) ?_
    refine R_icmp_ge (q := 33) (t := 50) rfl rfl rfl (fun h30 => ?_) (fun h30 => absurd (nI_le (Nat.le_refl _) (by decide)) h30)
    refine R_aload_n (q := 51) rfl rfl rfl ?_
    first | refine R_dupa (q := 52) rfl rfl ?_ | refine R_dupi (q := 52) rfl rfl ?_
    refine R_getf (q := 55) rfl rfl rfl (by first | assumption | exact mm_pe | (rw [mm_pn (by omega)]; first | assumption | exact mm_pe | (rw [mm_pn (by omega)]; first | assumption | exact mm_pe | (rw [mm_pn (by omega)]; first | assumption | exact mm_pe | (rw [mm_pn (by omega)]; first | assumption | exact mm_pe | (rw [mm_pn (by omega)]; first | assumption | exact mm_pe)))))) rfl ?_
    refine R_iconst (q := 56) (v := nI 1) rfl rfl (by decide) ?_
    refine R_iadd (q := 57) rfl rfl ?_
    rw [nI_add]
    refine R_putf (q := 60) rfl rfl rfl (by first | assumption | exact mm_pe | (rw [mm_pn (by omega)]; first | assumption | exact mm_pe | (rw [mm_pn (by omega)]; first | assumption | exact mm_pe | (rw [mm_pn (by omega)]; first | assumption | exact mm_pe | (rw [mm_pn (by omega)]; first | assumption | exact mm_pe | (rw [mm_pn (by omega)]; first | assumption | exact mm_pe)))))) (Nat.le_of_ble_eq_true rfl) rfl (fun hf => absurd hf (by decide)) rfl ?_
    dsimp only [List.set]
    refine R_iconst (q := 61) (v := nI 1) rfl rfl (by decide) ?_
    refine R_zreturn rfl rfl (by first | exact Or.inl rfl | exact Or.inr rfl | assumption) ?_
    exact ⟨rfl, rfl⟩
set_option maxRecDepth 8000 in
theorem c81 {i q : Nat} (hp : PT M a nb np bx pl) (hi : i * 4 + q < 24) : mm_R S d 81 0 (mm_en 81 [.ref a, .int (nI i), .int (nI q)]) [] M (fun v M' => v = some (.int (bx (i * 4 + q))) ∧ M' = M) := by
  obtain ⟨h1, h2, h3, h4, h5⟩ := hp
  show mm_R S d 81 0 [some (.ref a), some (.int (nI i)), some (.int (nI q))] [] M _
  refine R_aload_n (q := 1) rfl rfl rfl ?_
  refine R_getf (q := 4) rfl rfl rfl (by first | assumption | exact mm_pe | (rw [mm_pn (by omega)]; first | assumption | exact mm_pe | (rw [mm_pn (by omega)]; first | assumption | exact mm_pe | (rw [mm_pn (by omega)]; first | assumption | exact mm_pe | (rw [mm_pn (by omega)]; first | assumption | exact mm_pe | (rw [mm_pn (by omega)]; first | assumption | exact mm_pe)))))) rfl ?_
  refine R_iload_n (q := 5) rfl rfl rfl ?_
  refine R_iconst (q := 6) (v := nI 4) rfl rfl (by decide) ?_
  refine R_imul (q := 7) rfl rfl ?_
  rw [pk_mul]
  refine R_iload_n (q := 8) rfl rfl rfl ?_
  refine R_iadd (q := 9) rfl rfl ?_
  rw [nI_add]
  refine R_iaload (q := 10) rfl rfl (by first | assumption | exact mm_pe | (rw [mm_pn (by omega)]; first | assumption | exact mm_pe | (rw [mm_pn (by omega)]; first | assumption | exact mm_pe | (rw [mm_pn (by omega)]; first | assumption | exact mm_pe | (rw [mm_pn (by omega)]; first | assumption | exact mm_pe | (rw [mm_pn (by omega)]; first | assumption | exact mm_pe)))))) (by omega) (by first | assumption | exact in_nI (by omega) (by decide)) ?_
  rw [cl_nI (by omega)]
  refine R_ireturn rfl rfl ?_
  exact ⟨rfl, rfl⟩
set_option maxRecDepth 8000 in
theorem c82 {i q : Nat} (hp : PT M a nb np bx pl) (hi : i * 8 + q < 32) : mm_R S d 82 0 (mm_en 82 [.ref a, .int (nI i), .int (nI q)]) [] M (fun v M' => v = some (.int (pl (i * 8 + q))) ∧ M' = M) := by
  obtain ⟨h1, h2, h3, h4, h5⟩ := hp
  show mm_R S d 82 0 [some (.ref a), some (.int (nI i)), some (.int (nI q))] [] M _
  refine R_aload_n (q := 1) rfl rfl rfl ?_
  refine R_getf (q := 4) rfl rfl rfl (by first | assumption | exact mm_pe | (rw [mm_pn (by omega)]; first | assumption | exact mm_pe | (rw [mm_pn (by omega)]; first | assumption | exact mm_pe | (rw [mm_pn (by omega)]; first | assumption | exact mm_pe | (rw [mm_pn (by omega)]; first | assumption | exact mm_pe | (rw [mm_pn (by omega)]; first | assumption | exact mm_pe)))))) rfl ?_
  refine R_iload_n (q := 5) rfl rfl rfl ?_
  refine R_bipush (q := 7) (v := nI 8) rfl rfl (by decide) ?_
  refine R_imul (q := 8) rfl rfl ?_
  rw [pk_mul]
  refine R_iload_n (q := 9) rfl rfl rfl ?_
  refine R_iadd (q := 10) rfl rfl ?_
  rw [nI_add]
  refine R_iaload (q := 11) rfl rfl (by first | assumption | exact mm_pe | (rw [mm_pn (by omega)]; first | assumption | exact mm_pe | (rw [mm_pn (by omega)]; first | assumption | exact mm_pe | (rw [mm_pn (by omega)]; first | assumption | exact mm_pe | (rw [mm_pn (by omega)]; first | assumption | exact mm_pe | (rw [mm_pn (by omega)]; first | assumption | exact mm_pe)))))) (by omega) (by first | assumption | exact in_nI (by omega) (by decide)) ?_
  rw [cl_nI (by omega)]
  refine R_ireturn rfl rfl ?_
  exact ⟨rfl, rfl⟩
end P20b
