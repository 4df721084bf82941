theorem zb_inj {x y : Bool} : zb x = zb y ↔ x = y := by cases x <;> cases y <;> decide
def allr (g : Nat → Bool) : Nat → Nat → Bool
  | 0, _ => true
  | k + 1, i => g i && allr g k (i + 1)
theorem allr_iff {g : Nat → Bool} : ∀ k i, allr g k i = true ↔ ∀ j, i ≤ j → j < i + k → g j = true := by
  intro k
  induction k with
  | zero => intro i; exact ⟨fun _ j h1 h2 => absurd h2 (by omega), fun _ => rfl⟩
  | succ k ih =>
    intro i
    show (g i && allr g k (i + 1)) = true ↔ _
    rw [Bool.and_eq_true, ih]
    constructor
    · rintro ⟨h1, h2⟩ j h3 h4
      by_cases e : j = i
      · rw [e]; exact h1
      · exact h2 j (by omega) (by omega)
    · intro h
      exact ⟨h i (by omega) (by omega), fun j h1 h2 => h j (by omega) (by omega)⟩
section P19
variable {S : mm_S} {d : Nat} {M : mm_M} {a b n : Nat} {px py : Nat → Int32}
def lvb (n : Nat) (px : Nat → Int32) (i : Nat) : Bool := decide (¬ px i = px (aft n i))
def rok (n : Nat) (px py : Nat → Int32) (i : Nat) : Bool := !(lvb n px i == lvb n py i) && !(lvb n px i == lvb n px (aft n i))
def ringb (n : Nat) (px py : Nat → Int32) : Bool := decide (4 ≤ n ∧ n % 2 = 0) && allr (rok n px py) n 0
theorem c70_loop (h : OL M a n px py) (h0 : 4 ≤ n) : ∀ (k i : Nat), i + k = n → ∀ t : Option Value, mm_R S (d + 2) 70 21 [some (.ref a), some (.int (nI i)), t] [] M (fun v M' => v = some (.int (zb (allr (rok n px py) k i))) ∧ M' = M) := by
  have hh := h
  obtain ⟨h1, h2, h3, h4⟩ := h
  intro k
  induction k with
  | zero =>
    intro i hi t
    refine R_iload_n (q := 22) rfl rfl rfl ?_
    refine R_aload_n (q := 23) rfl rfl rfl ?_
    refine R_getf (q := 26) rfl rfl rfl (by first | assumption | exact mm_pe | (rw [mm_pn (by omega)]; first | assumption | exact mm_pe | (rw [mm_pn (by omega)]; first | assumption | exact mm_pe | (rw [mm_pn (by omega)]; first | assumption | exact mm_pe | (rw [mm_pn (by omega)]; first | assumption | exact mm_pe | (rw [mm_pn (by omega)]; first | assumption | exact mm_pe)))))) rfl ?_
    refine R_icmp_ge (q := 29) (t := 69) rfl rfl rfl (fun h26 => ?_) (fun h26 => absurd (nI_le (by omega) (by omega)) h26)
    refine R_iconst (q := 70) (v := nI 1) rfl rfl (by decide) ?_
    refine R_zreturn rfl rfl (by first | exact Or.inl rfl | exact Or.inr rfl | assumption) ?_
    exact ⟨rfl, rfl⟩
  | succ k ih =>
    intro i hi t
    have haf : aft n i < n := by unfold aft; split <;> omega
    have es : allr (rok n px py) (k + 1) i = (rok n px py i && allr (rok n px py) k (i + 1)) := rfl
    refine R_iload_n (q := 22) rfl rfl rfl ?_
    refine R_aload_n (q := 23) rfl rfl rfl ?_
    refine R_getf (q := 26) rfl rfl rfl (by first | assumption | exact mm_pe | (rw [mm_pn (by omega)]; first | assumption | exact mm_pe | (rw [mm_pn (by omega)]; first | assumption | exact mm_pe | (rw [mm_pn (by omega)]; first | assumption | exact mm_pe | (rw [mm_pn (by omega)]; first | assumption | exact mm_pe | (rw [mm_pn (by omega)]; first | assumption | exact mm_pe)))))) rfl ?_
    refine R_icmp_ge (q := 29) (t := 69) rfl rfl rfl (fun h26 => absurd h26 (nI_ge (by omega) (by omega))) (fun h26 => ?_)
    refine R_aload_n (q := 30) rfl rfl rfl ?_
    refine R_iload_n (q := 31) rfl rfl rfl ?_
    refine R_callv1 (q := 34) rfl rfl rfl rfl (by first | assumption | exact mm_pe | (rw [mm_pn (by omega)]; first | assumption | exact mm_pe | (rw [mm_pn (by omega)]; first | assumption | exact mm_pe | (rw [mm_pn (by omega)]; first | assumption | exact mm_pe | (rw [mm_pn (by omega)]; first | assumption | exact mm_pe | (rw [mm_pn (by omega)]; first | assumption | exact mm_pe)))))) (Nat.le_of_ble_eq_true rfl) rfl ?_
    refine R_mono (c72 hh (by omega)) (fun v31 M31 hr31 => ?_)
    obtain ⟨rfl, hm31⟩ := hr31
    rw [hm31]
    dsimp only [Option.toList, List.cons_append, List.nil_append]
    refine R_istore_n (q := 35) rfl rfl (Nat.le_of_ble_eq_true rfl) rfl ?_
    dsimp only [List.set]
    refine R_aload_n (q := 36) rfl rfl rfl ?_
    refine R_iload_n (q := 37) rfl rfl rfl ?_
    refine R_callv1 (q := 40) rfl rfl rfl rfl (by first | assumption | exact mm_pe | (rw [mm_pn (by omega)]; first | assumption | exact mm_pe | (rw [mm_pn (by omega)]; first | assumption | exact mm_pe | (rw [mm_pn (by omega)]; first | assumption | exact mm_pe | (rw [mm_pn (by omega)]; first | assumption | exact mm_pe | (rw [mm_pn (by omega)]; first | assumption | exact mm_pe)))))) (Nat.le_of_ble_eq_true rfl) rfl ?_
    refine R_mono (c73 hh (by first | omega | exact haf)) (fun v37 M37 hr37 => ?_)
    obtain ⟨rfl, hm37⟩ := hr37
    rw [hm37]
    dsimp only [Option.toList, List.cons_append, List.nil_append]
    refine R_aload_n (q := 41) rfl rfl rfl ?_
    refine R_iload_n (q := 42) rfl rfl rfl ?_
    refine R_callv1 (q := 45) rfl rfl rfl rfl (by first | assumption | exact mm_pe | (rw [mm_pn (by omega)]; first | assumption | exact mm_pe | (rw [mm_pn (by omega)]; first | assumption | exact mm_pe | (rw [mm_pn (by omega)]; first | assumption | exact mm_pe | (rw [mm_pn (by omega)]; first | assumption | exact mm_pe | (rw [mm_pn (by omega)]; first | assumption | exact mm_pe)))))) (Nat.le_of_ble_eq_true rfl) rfl ?_
    refine R_mono (c74 hh (by omega)) (fun v42 M42 hr42 => ?_)
    obtain ⟨rfl, hm42⟩ := hr42
    rw [hm42]
    dsimp only [Option.toList, List.cons_append, List.nil_append]
    refine R_icmp_eq (q := 48) (t := 61) rfl rfl rfl (fun h45 => ?_) (fun h45 => ?_)
    · refine R_iconst (q := 62) (v := nI 0) rfl rfl (by decide) ?_
      refine R_zreturn rfl rfl (by first | exact Or.inl rfl | exact Or.inr rfl | assumption) ?_
      have hr : rok n px py i = false := by
        unfold rok lvb
        first
          | (have e1 := zb_inj.mp h45
             rw [e1]; simp)
          | (have e2 := zb_inj.mp h58
             rw [e2]; simp)
      exact ⟨by rw [es, hr]; rfl, rfl⟩
    · refine R_aload_n (q := 49) rfl rfl rfl ?_
      refine R_iload_n (q := 50) rfl rfl rfl ?_
      refine R_callv1 (q := 53) rfl rfl rfl rfl (by first | assumption | exact mm_pe | (rw [mm_pn (by omega)]; first | assumption | exact mm_pe | (rw [mm_pn (by omega)]; first | assumption | exact mm_pe | (rw [mm_pn (by omega)]; first | assumption | exact mm_pe | (rw [mm_pn (by omega)]; first | assumption | exact mm_pe | (rw [mm_pn (by omega)]; first | assumption | exact mm_pe)))))) (Nat.le_of_ble_eq_true rfl) rfl ?_
      refine R_mono (c73 hh (by first | omega | exact haf)) (fun v50 M50 hr50 => ?_)
      obtain ⟨rfl, hm50⟩ := hr50
      rw [hm50]
      dsimp only [Option.toList, List.cons_append, List.nil_append]
      refine R_aload_n (q := 54) rfl rfl rfl ?_
      refine R_iload_n (q := 55) rfl rfl rfl ?_
      refine R_callv1 (q := 58) rfl rfl rfl rfl (by first | assumption | exact mm_pe | (rw [mm_pn (by omega)]; first | assumption | exact mm_pe | (rw [mm_pn (by omega)]; first | assumption | exact mm_pe | (rw [mm_pn (by omega)]; first | assumption | exact mm_pe | (rw [mm_pn (by omega)]; first | assumption | exact mm_pe | (rw [mm_pn (by omega)]; first | assumption | exact mm_pe)))))) (Nat.le_of_ble_eq_true rfl) rfl ?_
      refine R_mono (c73 hh (by first | omega | exact haf)) (fun v55 M55 hr55 => ?_)
      obtain ⟨rfl, hm55⟩ := hr55
      rw [hm55]
      dsimp only [Option.toList, List.cons_append, List.nil_append]
      refine R_icmp_ne (q := 61) (t := 63) rfl rfl rfl (fun h58 => ?_) (fun h58 => ?_)
      · refine R_iinc (q := 66) rfl rfl rfl (nI_i1 i) rfl ?_
        dsimp only [List.set]
        refine R_goto (t := 21) rfl rfl ?_
        have hr : rok n px py i = true := by
          unfold rok lvb
          have e1 := fun q => h45 (zb_inj.mpr q)
          have e2 := fun q => h58 (zb_inj.mpr q)
          simp only [Bool.and_eq_true, Bool.not_eq_true', beq_eq_false_iff_ne, ne_eq]
          exact ⟨e1, e2⟩
        rw [es, hr, Bool.true_and]
        exact ih (i + 1) (by omega) _
      · refine R_iconst (q := 62) (v := nI 0) rfl rfl (by decide) ?_
        refine R_zreturn rfl rfl (by first | exact Or.inl rfl | exact Or.inr rfl | assumption) ?_
        have hr : rok n px py i = false := by
          unfold rok lvb
          first
            | (have e1 := zb_inj.mp h45
               rw [e1]; simp)
            | (have e2 := zb_inj.mp h58
               rw [e2]; simp)
        exact ⟨by rw [es, hr]; rfl, rfl⟩
theorem c70 (h : OL M a n px py) : mm_R S (d + 2) 70 0 (mm_en 70 [.ref a]) [] M (fun v M' => v = some (.int (zb (ringb n px py))) ∧ M' = M) := by
  have hh := h
  obtain ⟨h1, h2, h3, h4⟩ := h
  show mm_R S (d + 2) 70 0 [some (.ref a), none, none] [] M _
  refine R_aload_n (q := 1) rfl rfl rfl ?_
  refine R_getf (q := 4) rfl rfl rfl (by first | assumption | exact mm_pe | (rw [mm_pn (by omega)]; first | assumption | exact mm_pe | (rw [mm_pn (by omega)]; first | assumption | exact mm_pe | (rw [mm_pn (by omega)]; first | assumption | exact mm_pe | (rw [mm_pn (by omega)]; first | assumption | exact mm_pe | (rw [mm_pn (by omega)]; first | assumption | exact mm_pe)))))) rfl ?_
  refine R_iconst (q := 5) (v := nI 4) rfl rfl (by decide) ?_
  refine R_icmp_lt (q := 8) (t := 17) rfl rfl rfl (fun h5 => ?_) (fun h5 => ?_)
  · refine R_iconst (q := 18) (v := nI 0) rfl rfl (by decide) ?_
    refine R_zreturn rfl rfl (by first | exact Or.inl rfl | exact Or.inr rfl | assumption) ?_
    refine ⟨congrArg some (congrArg Value.int ?_), rfl⟩
    unfold ringb
    rw [decide_eq_false (p := 4 ≤ n ∧ n % 2 = 0)]
    · rfl
    · rintro ⟨q1, q2⟩
      first
        | exact absurd h5 (nI_nlt q1 (by omega))
        | (rw [q2] at h14; exact h14 rfl)
  · refine R_aload_n (q := 9) rfl rfl rfl ?_
    refine R_getf (q := 12) rfl rfl rfl (by first | assumption | exact mm_pe | (rw [mm_pn (by omega)]; first | assumption | exact mm_pe | (rw [mm_pn (by omega)]; first | assumption | exact mm_pe | (rw [mm_pn (by omega)]; first | assumption | exact mm_pe | (rw [mm_pn (by omega)]; first | assumption | exact mm_pe | (rw [mm_pn (by omega)]; first | assumption | exact mm_pe)))))) rfl ?_
    refine R_iconst (q := 13) (v := nI 2) rfl rfl (by decide) ?_
    refine R_irem (q := 14) rfl rfl (by decide) ?_
    rw [pk_rem (by omega) (by decide) (by decide)]
    refine R_if_eq (q := 17) (t := 19) rfl rfl rfl (fun h14 => ?_) (fun h14 => ?_)
    · refine R_iconst (q := 20) (v := nI 0) rfl rfl (by decide) ?_
      refine R_istore_n (q := 21) rfl rfl (Nat.le_of_ble_eq_true rfl) rfl ?_
      dsimp only [List.set]
      have hc : 4 ≤ n ∧ n % 2 = 0 := by
        constructor
        · rcases Nat.lt_or_ge n 4 with q | q
          · exact absurd (nI_lt q (by decide)) h5
          · exact q
        · have := (nI_eq (a := n % 2) (b := 0) (by omega) (by decide)).mp h14
          exact this
      unfold ringb
      rw [decide_eq_true hc, Bool.true_and]
      exact c70_loop hh hc.1 n 0 (by omega) _
    · refine R_iconst (q := 18) (v := nI 0) rfl rfl (by decide) ?_
      refine R_zreturn rfl rfl (by first | exact Or.inl rfl | exact Or.inr rfl | assumption) ?_
      refine ⟨congrArg some (congrArg Value.int ?_), rfl⟩
      unfold ringb
      rw [decide_eq_false (p := 4 ≤ n ∧ n % 2 = 0)]
      · rfl
      · rintro ⟨q1, q2⟩
        first
          | exact absurd h5 (nI_nlt q1 (by omega))
          | (rw [q2] at h14; exact h14 rfl)
end P19
