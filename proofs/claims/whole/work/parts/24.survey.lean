/-! ===== Survey: the object at 30, left at 31 (rows 32), reached at 33 (rows 34) ===== -/
def SVF (M : mm_M) : Prop := M.1 30 = some (.inr (7, [.ref 31, .ref 33])) ∧ M.1 31 = some (.inr (0, [.ref 32])) ∧ M.1 33 = some (.inr (0, [.ref 34]))
def sv (M : mm_M) (l r : Nat → Int32) : mm_M := mm_put (mm_put M 32 (ro l)) 34 (ro r)
theorem sv_30 {M : mm_M} {l r : Nat → Int32} (h : SVF M) : (sv M l r).1 30 = some (.inr (7, [.ref 31, .ref 33])) := by unfold sv; rw [mm_pn (by decide), mm_pn (by decide)]; exact h.1
theorem sv_l {M : mm_M} {l r : Nat → Int32} (h : SVF M) : CA (sv M l r) 31 l := by unfold sv; exact ⟨by rw [mm_pn (by decide), mm_pn (by decide)]; exact h.2.1, by rw [mm_pn (by decide)]; exact mm_pe⟩
theorem sv_r {M : mm_M} {l r : Nat → Int32} (h : SVF M) : CA (sv M l r) 33 r := by unfold sv; exact ⟨by rw [mm_pn (by decide), mm_pn (by decide)]; exact h.2.2, mm_pe⟩
theorem sv_pr {M : mm_M} {l r r' : Nat → Int32} : mm_put (sv M l r) 34 (ro r') = sv M l r' := mm_pp
theorem sv_pl {M : mm_M} {l r l' : Nat → Int32} : mm_put (sv M l r) 32 (ro l') = sv M l' r := by unfold sv; rw [mm_pcomm (by decide), mm_pp]
theorem sv_self {M : mm_M} {l r : Nat → Int32} (h1 : CA M 31 l) (h2 : CA M 33 r) : sv M l r = M := by unfold sv; rw [mm_pself h1.2, mm_pself h2.2]
theorem sv_CA {M : mm_M} {l r f : Nat → Int32} {a : Nat} (h : CA M a f) (ha : a + 1 < 31 ∨ 34 < a) : CA (sv M l r) a f := by unfold sv; exact CA_off (CA_off h (by omega) (by omega)) (by omega) (by omega)
def wid (m : Int32) : Nat → Int32 → Int32
  | 0, v => v
  | n + 1, v => if ((v ||| v <<< (nI 1 &&& 31)) ||| v >>> (nI 1 &&& 31)) &&& m = v then v else wid m n (((v ||| v <<< (nI 1 &&& 31)) ||| v >>> (nI 1 &&& 31)) &&& m)
def rm (r : Nat → Int32) (y : Nat) : Int32 := rowv r (nI y - nI 1)
def rp (r : Nat → Int32) (y : Nat) : Int32 := rowv r (nI (y + 1))
def tch (b : Bool) (v : Int32) : Int32 := if b then (v ||| v <<< (nI 1 &&& 31)) ||| v >>> (nI 1 &&& 31) else v
def nv (l r : Nat → Int32) (y : Nat) (b : Bool) : Int32 := wid (l y) 16 ((r y ||| tch b (rm r y ||| rp r y)) &&& l y)
section P24
variable {S : mm_S} {d : Nat} {M : mm_M} {l r : Nat → Int32} {b : Bool}
set_option maxRecDepth 8000 in
theorem c88_loop {y : Nat} (h : SVF M) (hy : y < 16) {t3 t4 : Option Value} : ∀ (k n : Nat) (now : Int32) (t8 : Option Value), n + k = 16 → mm_R S (d + 1) 88 73 [some (.ref 30), some (.int (nI y)), some (.int (zb b)), some (.int (r y)), t3, t4, some (.int now), some (.int (nI n)), t8] [] (sv M l r) (fun v M' => v = some (.int (zb (decide (¬ wid (l y) k now = r y)))) ∧ M' = sv M l (upd r y (wid (l y) k now &&& 65535))) := by
  have h30 := sv_30 (l := l) (r := r) h
  have hl := sv_l (l := l) (r := r) h
  have hr := sv_r (l := l) (r := r) h
  have hl1 := hl.1
  have hr1 := hr.1
  have hend : ∀ (now : Int32) (t7 t8 : Option Value), mm_R S (d + 1) 88 123 [some (.ref 30), some (.int (nI y)), some (.int (zb b)), some (.int (r y)), t3, t4, some (.int now), t7, t8] [] (sv M l r) (fun v M' => v = some (.int (zb (decide (¬ now = r y)))) ∧ M' = sv M l (upd r y (now &&& 65535))) := by
    intro now t7 t8
    refine R_aload_n (q := 124) rfl rfl rfl ?_
    refine R_getf (q := 127) rfl rfl rfl (by first | assumption | exact mm_pe | (rw [mm_pn (by omega)]; first | assumption | exact mm_pe | (rw [mm_pn (by omega)]; first | assumption | exact mm_pe | (rw [mm_pn (by omega)]; first | assumption | exact mm_pe | (rw [mm_pn (by omega)]; first | assumption | exact mm_pe | (rw [mm_pn (by omega)]; first | assumption | exact mm_pe)))))) rfl ?_
    refine R_iload_n (q := 128) rfl rfl rfl ?_
    refine R_iload (q := 130) rfl rfl rfl ?_
    refine R_callv2 (q := 133) rfl rfl rfl rfl hr1 (Nat.le_of_ble_eq_true rfl) rfl ?_
    refine R_mono (c6 hr) (fun v130 M130 hr130 => ?_)
    obtain ⟨rfl, hm130⟩ := hr130
    rw [if_pos (by rw [i_n y (by omega)]; omega), sv_pr, cl_nI (by omega)] at hm130
    rw [hm130]
    dsimp only [Option.toList, List.cons_append, List.nil_append]
    refine R_iload (q := 135) rfl rfl rfl ?_
    refine R_iload_n (q := 136) rfl rfl rfl ?_
    refine R_icmp_eq (q := 139) (t := 143) rfl rfl rfl (fun h136 => ?_) (fun h136 => ?_)
    · refine R_iconst (q := 144) (v := nI 0) rfl rfl (by decide) ?_
      refine R_zreturn rfl rfl (by first | exact Or.inl rfl | exact Or.inr rfl | assumption) ?_
      refine ⟨congrArg some (congrArg Value.int ?_), rfl⟩
      first | exact (zb_t h136).symm | exact (zb_f (fun q => q h136)).symm
    · refine R_iconst (q := 140) (v := nI 1) rfl rfl (by decide) ?_
      refine R_goto (t := 144) rfl rfl ?_
      refine R_zreturn rfl rfl (by first | exact Or.inl rfl | exact Or.inr rfl | assumption) ?_
      refine ⟨congrArg some (congrArg Value.int ?_), rfl⟩
      first | exact (zb_t h136).symm | exact (zb_f (fun q => q h136)).symm
  intro k
  induction k with
  | zero =>
    intro n now t8 hn
    refine R_iload (q := 75) rfl rfl rfl ?_
    refine R_bipush (q := 77) (v := nI 16) rfl rfl (by decide) ?_
    refine R_icmp_ge (q := 80) (t := 123) rfl rfl rfl (fun h77 => ?_) (fun h77 => absurd (nI_le (by omega) (by omega)) h77)
    exact hend now _ _
  | succ k ih =>
    intro n now t8 hn
    refine R_iload (q := 75) rfl rfl rfl ?_
    refine R_bipush (q := 77) (v := nI 16) rfl rfl (by decide) ?_
    refine R_icmp_ge (q := 80) (t := 123) rfl rfl rfl (fun h77 => absurd h77 (nI_ge (by omega) (by omega))) (fun h77 => ?_)
    refine R_iload (q := 82) rfl rfl rfl ?_
    refine R_iload (q := 84) rfl rfl rfl ?_
    refine R_iconst (q := 85) (v := nI 1) rfl rfl (by decide) ?_
    refine R_ishl (q := 86) rfl rfl ?_
    refine R_ior (q := 87) rfl rfl ?_
    refine R_iload (q := 89) rfl rfl rfl ?_
    refine R_iconst (q := 90) (v := nI 1) rfl rfl (by decide) ?_
    refine R_ishr (q := 91) rfl rfl ?_
    refine R_ior (q := 92) rfl rfl ?_
    refine R_aload_n (q := 93) rfl rfl rfl ?_
    refine R_getf (q := 96) rfl rfl rfl (by first | assumption | exact mm_pe | (rw [mm_pn (by omega)]; first | assumption | exact mm_pe | (rw [mm_pn (by omega)]; first | assumption | exact mm_pe | (rw [mm_pn (by omega)]; first | assumption | exact mm_pe | (rw [mm_pn (by omega)]; first | assumption | exact mm_pe | (rw [mm_pn (by omega)]; first | assumption | exact mm_pe)))))) rfl ?_
    refine R_iload_n (q := 97) rfl rfl rfl ?_
    refine R_callv1 (q := 100) rfl rfl rfl rfl hl1 (Nat.le_of_ble_eq_true rfl) rfl ?_
    refine R_mono (c2 hl) (fun v97 M97 hr97 => ?_)
    obtain ⟨rfl, hm97⟩ := hr97
    rw [hm97]
    dsimp only [Option.toList, List.cons_append, List.nil_append]
    rw [rowv_nI hy]
    refine R_iand (q := 101) rfl rfl ?_
    refine R_istore (q := 103) rfl rfl (Nat.le_of_ble_eq_true rfl) rfl ?_
    dsimp only [List.set]
    refine R_iload (q := 105) rfl rfl rfl ?_
    refine R_iload (q := 107) rfl rfl rfl ?_
    refine R_icmp_ne (q := 110) (t := 113) rfl rfl rfl (fun h107 => ?_) (fun h107 => ?_)
    · refine R_iload (q := 115) rfl rfl rfl ?_
      refine R_istore (q := 117) rfl rfl (Nat.le_of_ble_eq_true rfl) rfl ?_
      dsimp only [List.set]
      refine R_iinc (q := 120) rfl rfl rfl (nI_i1 n) rfl ?_
      dsimp only [List.set]
      refine R_goto (t := 73) rfl rfl ?_
      have ew : wid (l y) (k + 1) now = wid (l y) k (((now ||| now <<< (nI 1 &&& 31)) ||| now >>> (nI 1 &&& 31)) &&& l y) := if_neg h107
      rw [ew]
      exact ih (n + 1) _ _ (by omega)
    · refine R_goto (t := 123) rfl rfl ?_
      have ew : wid (l y) (k + 1) now = now := if_pos h107
      rw [ew]
      exact hend now _ _
set_option maxRecDepth 8000 in
theorem c88 {y : Nat} (h : SVF M) (hy : y < 16) : mm_R S (d + 1) 88 0 (mm_en 88 [.ref 30, .int (nI y), .int (zb b)]) [] (sv M l r) (fun v M' => v = some (.int (zb (decide (¬ nv l r y b = r y)))) ∧ M' = sv M l (upd r y (nv l r y b &&& 65535))) := by
  have h30 := sv_30 (l := l) (r := r) h
  have hl := sv_l (l := l) (r := r) h
  have hr := sv_r (l := l) (r := r) h
  have hl1 := hl.1
  have hr1 := hr.1
  show mm_R S (d + 1) 88 0 [some (.ref 30), some (.int (nI y)), some (.int (zb b)), none, none, none, none, none, none] [] (sv M l r) _
  refine R_aload_n (q := 1) rfl rfl rfl ?_
  refine R_getf (q := 4) rfl rfl rfl (by first | assumption | exact mm_pe | (rw [mm_pn (by omega)]; first | assumption | exact mm_pe | (rw [mm_pn (by omega)]; first | assumption | exact mm_pe | (rw [mm_pn (by omega)]; first | assumption | exact mm_pe | (rw [mm_pn (by omega)]; first | assumption | exact mm_pe | (rw [mm_pn (by omega)]; first | assumption | exact mm_pe)))))) rfl ?_
  refine R_iload_n (q := 5) rfl rfl rfl ?_
  refine R_callv1 (q := 8) rfl rfl rfl rfl hr1 (Nat.le_of_ble_eq_true rfl) rfl ?_
  refine R_mono (c2 hr) (fun v5 M5 hr5 => ?_)
  obtain ⟨rfl, hm5⟩ := hr5
  rw [hm5]
  dsimp only [Option.toList, List.cons_append, List.nil_append]
  rw [rowv_nI hy]
  refine R_istore_n (q := 9) rfl rfl (Nat.le_of_ble_eq_true rfl) rfl ?_
  dsimp only [List.set]
  refine R_aload_n (q := 10) rfl rfl rfl ?_
  refine R_getf (q := 13) rfl rfl rfl (by first | assumption | exact mm_pe | (rw [mm_pn (by omega)]; first | assumption | exact mm_pe | (rw [mm_pn (by omega)]; first | assumption | exact mm_pe | (rw [mm_pn (by omega)]; first | assumption | exact mm_pe | (rw [mm_pn (by omega)]; first | assumption | exact mm_pe | (rw [mm_pn (by omega)]; first | assumption | exact mm_pe)))))) rfl ?_
  refine R_iload_n (q := 14) rfl rfl rfl ?_
  refine R_iconst (q := 15) (v := nI 1) rfl rfl (by decide) ?_
  refine R_isub (q := 16) rfl rfl ?_
  refine R_callv1 (q := 19) rfl rfl rfl rfl hr1 (Nat.le_of_ble_eq_true rfl) rfl ?_
  refine R_mono (c2 hr) (fun v16 M16 hr16 => ?_)
  obtain ⟨rfl, hm16⟩ := hr16
  rw [hm16]
  dsimp only [Option.toList, List.cons_append, List.nil_append]
  refine R_aload_n (q := 20) rfl rfl rfl ?_
  refine R_getf (q := 23) rfl rfl rfl (by first | assumption | exact mm_pe | (rw [mm_pn (by omega)]; first | assumption | exact mm_pe | (rw [mm_pn (by omega)]; first | assumption | exact mm_pe | (rw [mm_pn (by omega)]; first | assumption | exact mm_pe | (rw [mm_pn (by omega)]; first | assumption | exact mm_pe | (rw [mm_pn (by omega)]; first | assumption | exact mm_pe)))))) rfl ?_
  refine R_iload_n (q := 24) rfl rfl rfl ?_
  refine R_iconst (q := 25) (v := nI 1) rfl rfl (by decide) ?_
  refine R_iadd (q := 26) rfl rfl ?_
  rw [nI_add]
  refine R_callv1 (q := 29) rfl rfl rfl rfl hr1 (Nat.le_of_ble_eq_true rfl) rfl ?_
  refine R_mono (c2 hr) (fun v26 M26 hr26 => ?_)
  obtain ⟨rfl, hm26⟩ := hr26
  rw [hm26]
  dsimp only [Option.toList, List.cons_append, List.nil_append]
  refine R_ior (q := 30) rfl rfl ?_
  refine R_istore (q := 32) rfl rfl (Nat.le_of_ble_eq_true rfl) rfl ?_
  dsimp only [List.set]
  refine R_iload_n (q := 33) rfl rfl rfl ?_
  refine R_if_eq (q := 36) (t := 51) rfl rfl rfl (fun h33 => ?_) (fun h33 => ?_)
  · refine R_iload (q := 53) rfl rfl rfl ?_
    refine R_istore (q := 55) rfl rfl (Nat.le_of_ble_eq_true rfl) rfl ?_
    dsimp only [List.set]
    refine R_iload_n (q := 56) rfl rfl rfl ?_
    refine R_iload (q := 58) rfl rfl rfl ?_
    refine R_ior (q := 59) rfl rfl ?_
    refine R_aload_n (q := 60) rfl rfl rfl ?_
    refine R_getf (q := 63) rfl rfl rfl (by first | assumption | exact mm_pe | (rw [mm_pn (by omega)]; first | assumption | exact mm_pe | (rw [mm_pn (by omega)]; first | assumption | exact mm_pe | (rw [mm_pn (by omega)]; first | assumption | exact mm_pe | (rw [mm_pn (by omega)]; first | assumption | exact mm_pe | (rw [mm_pn (by omega)]; first | assumption | exact mm_pe)))))) rfl ?_
    refine R_iload_n (q := 64) rfl rfl rfl ?_
    refine R_callv1 (q := 67) rfl rfl rfl rfl hl1 (Nat.le_of_ble_eq_true rfl) rfl ?_
    refine R_mono (c2 hl) (fun v64 M64 hr64 => ?_)
    obtain ⟨rfl, hm64⟩ := hr64
    rw [hm64]
    dsimp only [Option.toList, List.cons_append, List.nil_append]
    rw [rowv_nI hy]
    refine R_iand (q := 68) rfl rfl ?_
    refine R_istore (q := 70) rfl rfl (Nat.le_of_ble_eq_true rfl) rfl ?_
    dsimp only [List.set]
    refine R_iconst (q := 71) (v := nI 0) rfl rfl (by decide) ?_
    refine R_istore (q := 73) rfl rfl (Nat.le_of_ble_eq_true rfl) rfl ?_
    dsimp only [List.set]
    first
      | (have eb := zb_eq0.mp h33
         subst eb
         exact c88_loop h hy 16 0 _ _ rfl)
      | (have eb := zb_ne0.mp h33
         subst eb
         exact c88_loop h hy 16 0 _ _ rfl)
  · refine R_iload (q := 38) rfl rfl rfl ?_
    refine R_iload (q := 40) rfl rfl rfl ?_
    refine R_iconst (q := 41) (v := nI 1) rfl rfl (by decide) ?_
    refine R_ishl (q := 42) rfl rfl ?_
    refine R_ior (q := 43) rfl rfl ?_
    refine R_iload (q := 45) rfl rfl rfl ?_
    refine R_iconst (q := 46) (v := nI 1) rfl rfl (by decide) ?_
    refine R_ishr (q := 47) rfl rfl ?_
    refine R_ior (q := 48) rfl rfl ?_
    refine R_goto (t := 53) rfl rfl ?_
    refine R_istore (q := 55) rfl rfl (Nat.le_of_ble_eq_true rfl) rfl ?_
    dsimp only [List.set]
    refine R_iload_n (q := 56) rfl rfl rfl ?_
    refine R_iload (q := 58) rfl rfl rfl ?_
    refine R_ior (q := 59) rfl rfl ?_
    refine R_aload_n (q := 60) rfl rfl rfl ?_
    refine R_getf (q := 63) rfl rfl rfl (by first | assumption | exact mm_pe | (rw [mm_pn (by omega)]; first | assumption | exact mm_pe | (rw [mm_pn (by omega)]; first | assumption | exact mm_pe | (rw [mm_pn (by omega)]; first | assumption | exact mm_pe | (rw [mm_pn (by omega)]; first | assumption | exact mm_pe | (rw [mm_pn (by omega)]; first | assumption | exact mm_pe)))))) rfl ?_
    refine R_iload_n (q := 64) rfl rfl rfl ?_
    refine R_callv1 (q := 67) rfl rfl rfl rfl hl1 (Nat.le_of_ble_eq_true rfl) rfl ?_
    refine R_mono (c2 hl) (fun v64 M64 hr64 => ?_)
    obtain ⟨rfl, hm64⟩ := hr64
    rw [hm64]
    dsimp only [Option.toList, List.cons_append, List.nil_append]
    rw [rowv_nI hy]
    refine R_iand (q := 68) rfl rfl ?_
    refine R_istore (q := 70) rfl rfl (Nat.le_of_ble_eq_true rfl) rfl ?_
    dsimp only [List.set]
    refine R_iconst (q := 71) (v := nI 0) rfl rfl (by decide) ?_
    refine R_istore (q := 73) rfl rfl (Nat.le_of_ble_eq_true rfl) rfl ?_
    dsimp only [List.set]
    first
      | (have eb := zb_eq0.mp h33
         subst eb
         exact c88_loop h hy 16 0 _ _ rfl)
      | (have eb := zb_ne0.mp h33
         subst eb
         exact c88_loop h hy 16 0 _ _ rfl)
def sp1 (l : Nat → Int32) (b : Bool) (s : (Nat → Int32) × Int32) (y : Nat) : (Nat → Int32) × Int32 := (upd s.1 y (nv l s.1 y b &&& 65535), s.2 ||| zb (decide (¬ nv l s.1 y b = s.1 y)))
def upP (l : Nat → Int32) (b : Bool) : Nat → Nat → (Nat → Int32) × Int32 → (Nat → Int32) × Int32
  | 0, _, s => s
  | k + 1, y, s => upP l b k (y + 1) (sp1 l b s y)
def dnP (l : Nat → Int32) (b : Bool) : Nat → (Nat → Int32) × Int32 → (Nat → Int32) × Int32
  | 0, s => s
  | j + 1, s => dnP l b j (sp1 l b s j)
def pass (l : Nat → Int32) (b : Bool) (r : Nat → Int32) : (Nat → Int32) × Int32 := dnP l b 16 (upP l b 16 0 (r, nI 0))
def fld (l : Nat → Int32) (b : Bool) : Nat → (Nat → Int32) → Int32 → Nat → Int32
  | 0, r, _ => r
  | k + 1, r, m => if m = 0 then r else fld l b k (pass l b r).1 (pass l b r).2
theorem yv_dec (j : Nat) : (if j + 1 = 0 then (-1 : Int32) else nI (j + 1 - 1)) = nI j := by rw [if_neg (by omega), Nat.add_sub_cancel]
theorem yv_m1 (j : Nat) : nI j + Int32.ofInt (-1) = (if j = 0 then (-1 : Int32) else nI (j - 1)) := by
  by_cases h : j = 0
  · subst h; decide
  · obtain ⟨k, rfl⟩ : ∃ k, j = k + 1 := ⟨j - 1, by omega⟩
    rw [if_neg h, Nat.add_sub_cancel]
    exact pk_m1 k
set_option maxRecDepth 8000 in
theorem c87_loop (h : SVF M) : ∀ (k n : Nat) (r : Nat → Int32) (m : Int32) (t4 : Option Value), n + k = 256 → mm_R S (d + 2) 87 4 [some (.ref 30), some (.int (zb b)), some (.int m), some (.int (nI n)), t4] [] (sv M l r) (fun v M' => v = none ∧ M' = sv M l (fld l b k r m)) := by
  intro k
  induction k with
  | zero =>
    intro n r m t4 hn
    refine R_iload_n (q := 5) rfl rfl rfl ?_
    refine R_sipush (q := 8) (v := nI 256) rfl rfl (by decide) ?_
    refine R_icmp_ge (q := 11) (t := 74) rfl rfl rfl (fun h8 => ?_) (fun h8 => absurd (nI_le (by omega) (by omega)) h8)
    refine R_return rfl rfl ?_
    exact ⟨rfl, rfl⟩
  | succ k ih =>
    intro n r m t4 hn
    have hdn : ∀ (j : Nat) (s : (Nat → Int32) × Int32), j ≤ 16 → mm_R S (d + 2) 87 47 [some (.ref 30), some (.int (zb b)), some (.int s.2), some (.int (nI n)), some (.int (if j = 0 then (-1) else nI (j - 1)))] [] (sv M l s.1) (fun v M' => v = none ∧ M' = sv M l (fld l b k (dnP l b j s).1 (dnP l b j s).2)) := by
      intro j
      induction j with
      | zero =>
        intro s hj
        rw [if_pos rfl]
        refine R_iload (q := 49) rfl rfl rfl ?_
        refine R_if_lt (q := 52) (t := 68) rfl rfl rfl (fun h49 => ?_) (fun h49 => absurd (by decide) h49)
        refine R_iinc (q := 71) rfl rfl rfl (nI_i1 n) rfl ?_
        dsimp only [List.set]
        refine R_goto (t := 4) rfl rfl ?_
        exact ih (n + 1) s.1 s.2 _ (by omega)
      | succ j ihj =>
        intro s hj
        rw [yv_dec]
        have h30 := sv_30 (l := l) (r := s.1) h
        refine R_iload (q := 49) rfl rfl rfl ?_
        refine R_if_lt (q := 52) (t := 68) rfl rfl rfl (fun h49 => absurd h49 (nI_pos (by omega))) (fun h49 => ?_)
        refine R_iload_n (q := 53) rfl rfl rfl ?_
        refine R_aload_n (q := 54) rfl rfl rfl ?_
        refine R_iload (q := 56) rfl rfl rfl ?_
        refine R_iload_n (q := 57) rfl rfl rfl ?_
        refine R_callv2 (q := 60) rfl rfl rfl rfl (by first | assumption | exact mm_pe | (rw [mm_pn (by omega)]; first | assumption | exact mm_pe | (rw [mm_pn (by omega)]; first | assumption | exact mm_pe | (rw [mm_pn (by omega)]; first | assumption | exact mm_pe | (rw [mm_pn (by omega)]; first | assumption | exact mm_pe | (rw [mm_pn (by omega)]; first | assumption | exact mm_pe)))))) (Nat.le_of_ble_eq_true rfl) rfl ?_
        refine R_mono (c88 h (show j < 16 by omega)) (fun v57 M57 hr57 => ?_)
        obtain ⟨rfl, hm57⟩ := hr57
        rw [hm57]
        dsimp only [Option.toList, List.cons_append, List.nil_append]
        refine R_ior (q := 61) rfl rfl ?_
        refine R_istore_n (q := 62) rfl rfl (Nat.le_of_ble_eq_true rfl) rfl ?_
        dsimp only [List.set]
        refine R_iinc (q := 65) rfl rfl rfl (yv_m1 j) rfl ?_
        dsimp only [List.set]
        refine R_goto (t := 47) rfl rfl ?_
        exact ihj (sp1 l b s j) (by omega)
    have hup : ∀ (j y : Nat) (s : (Nat → Int32) × Int32), y + j = 16 → mm_R S (d + 2) 87 20 [some (.ref 30), some (.int (zb b)), some (.int s.2), some (.int (nI n)), some (.int (nI y))] [] (sv M l s.1) (fun v M' => v = none ∧ M' = sv M l (fld l b k (dnP l b 16 (upP l b j y s)).1 (dnP l b 16 (upP l b j y s)).2)) := by
      intro j
      induction j with
      | zero =>
        intro y s hy
        refine R_iload (q := 22) rfl rfl rfl ?_
        refine R_bipush (q := 24) (v := nI 16) rfl rfl (by decide) ?_
        refine R_icmp_ge (q := 27) (t := 43) rfl rfl rfl (fun h24 => ?_) (fun h24 => absurd (nI_le (by omega) (by omega)) h24)
        refine R_bipush (q := 45) (v := nI 15) rfl rfl (by decide) ?_
        refine R_istore (q := 47) rfl rfl (Nat.le_of_ble_eq_true rfl) rfl ?_
        dsimp only [List.set]
        exact hdn 16 s (by omega)
      | succ j ihj =>
        intro y s hy
        have h30 := sv_30 (l := l) (r := s.1) h
        refine R_iload (q := 22) rfl rfl rfl ?_
        refine R_bipush (q := 24) (v := nI 16) rfl rfl (by decide) ?_
        refine R_icmp_ge (q := 27) (t := 43) rfl rfl rfl (fun h24 => absurd h24 (nI_ge (by omega) (by omega))) (fun h24 => ?_)
        refine R_iload_n (q := 28) rfl rfl rfl ?_
        refine R_aload_n (q := 29) rfl rfl rfl ?_
        refine R_iload (q := 31) rfl rfl rfl ?_
        refine R_iload_n (q := 32) rfl rfl rfl ?_
        refine R_callv2 (q := 35) rfl rfl rfl rfl (by first | assumption | exact mm_pe | (rw [mm_pn (by omega)]; first | assumption | exact mm_pe | (rw [mm_pn (by omega)]; first | assumption | exact mm_pe | (rw [mm_pn (by omega)]; first | assumption | exact mm_pe | (rw [mm_pn (by omega)]; first | assumption | exact mm_pe | (rw [mm_pn (by omega)]; first | assumption | exact mm_pe)))))) (Nat.le_of_ble_eq_true rfl) rfl ?_
        refine R_mono (c88 h (show y < 16 by omega)) (fun v32 M32 hr32 => ?_)
        obtain ⟨rfl, hm32⟩ := hr32
        rw [hm32]
        dsimp only [Option.toList, List.cons_append, List.nil_append]
        refine R_ior (q := 36) rfl rfl ?_
        refine R_istore_n (q := 37) rfl rfl (Nat.le_of_ble_eq_true rfl) rfl ?_
        dsimp only [List.set]
        refine R_iinc (q := 40) rfl rfl rfl (nI_i1 y) rfl ?_
        dsimp only [List.set]
        refine R_goto (t := 20) rfl rfl ?_
        exact ihj (y + 1) (sp1 l b s y) (by omega)
    refine R_iload_n (q := 5) rfl rfl rfl ?_
    refine R_sipush (q := 8) (v := nI 256) rfl rfl (by decide) ?_
    refine R_icmp_ge (q := 11) (t := 74) rfl rfl rfl (fun h8 => absurd h8 (nI_ge (by omega) (by omega))) (fun h8 => ?_)
    refine R_iload_n (q := 12) rfl rfl rfl ?_
    refine R_if_eq (q := 15) (t := 74) rfl rfl rfl (fun h12 => ?_) (fun h12 => ?_)
    · refine R_return rfl rfl ?_
      exact ⟨rfl, by rw [show fld l b (k + 1) r m = r from if_pos h12]⟩
    · refine R_iconst (q := 16) (v := nI 0) rfl rfl (by decide) ?_
      refine R_istore_n (q := 17) rfl rfl (Nat.le_of_ble_eq_true rfl) rfl ?_
      dsimp only [List.set]
      refine R_iconst (q := 18) (v := nI 0) rfl rfl (by decide) ?_
      refine R_istore (q := 20) rfl rfl (Nat.le_of_ble_eq_true rfl) rfl ?_
      dsimp only [List.set]
      have ef : fld l b (k + 1) r m = fld l b k (pass l b r).1 (pass l b r).2 := if_neg h12
      rw [ef]
      exact hup 16 0 (r, nI 0) rfl
set_option maxRecDepth 8000 in
theorem c87 (h : SVF M) : mm_R S (d + 2) 87 0 (mm_en 87 [.ref 30, .int (zb b)]) [] (sv M l r) (fun v M' => v = none ∧ M' = sv M l (fld l b 256 r (nI 1))) := by
  show mm_R S (d + 2) 87 0 [some (.ref 30), some (.int (zb b)), none, none, none] [] (sv M l r) _
  refine R_iconst (q := 1) (v := nI 1) rfl rfl (by decide) ?_
  refine R_istore_n (q := 2) rfl rfl (Nat.le_of_ble_eq_true rfl) rfl ?_
  dsimp only [List.set]
  refine R_iconst (q := 3) (v := nI 0) rfl rfl (by decide) ?_
  refine R_istore_n (q := 4) rfl rfl (Nat.le_of_ble_eq_true rfl) rfl ?_
  dsimp only [List.set]
  exact c87_loop h 256 0 r _ _ rfl
/-- one group taken away -/
def gseed (l r : Nat → Int32) (y : Nat) : Nat → Int32 := upd (ifl (fun _ => nI 0) r 16) y ((l y &&& -(l y)) &&& 65535)
def gout (l r2 : Nat → Int32) : Nat → Int32 := ifl (fun i => l i &&& (r2 i ^^^ (-1))) l 16
def cgi (b : Bool) (y : Nat) : Nat → (Nat → Int32) × (Nat → Int32) × Nat → (Nat → Int32) × (Nat → Int32) × Nat
  | 0, s => s
  | k + 1, s => if s.1 y = 0 then s else cgi b y k (gout s.1 (fld s.1 b 256 (gseed s.1 s.2.1 y) (nI 1)), fld s.1 b 256 (gseed s.1 s.2.1 y) (nI 1), s.2.2 + 1)
def cgo (b : Bool) : Nat → Nat → (Nat → Int32) × (Nat → Int32) × Nat → (Nat → Int32) × (Nat → Int32) × Nat
  | 0, _, s => s
  | k + 1, y, s => cgo b k (y + 1) (cgi b y 16 s)
set_option maxRecDepth 8000 in
theorem c86_loop (h : SVF M) : ∀ (k y : Nat) (s : (Nat → Int32) × (Nat → Int32) × Nat) (t4 : Option Value), y + k = 16 → mm_R S (d + 3) 86 4 [some (.ref 30), some (.int (zb b)), some (.int (nI s.2.2)), some (.int (nI y)), t4] [] (sv M s.1 s.2.1) (fun v M' => v = some (.int (nI (cgo b k y s).2.2)) ∧ M' = sv M (cgo b k y s).1 (cgo b k y s).2.1) := by
  intro k
  induction k with
  | zero =>
    intro y s t4 hy
    refine R_iload_n (q := 5) rfl rfl rfl ?_
    refine R_bipush (q := 7) (v := nI 16) rfl rfl (by decide) ?_
    refine R_icmp_ge (q := 10) (t := 95) rfl rfl rfl (fun h7 => ?_) (fun h7 => absurd (nI_le (by omega) (by omega)) h7)
    refine R_iload_n (q := 96) rfl rfl rfl ?_
    refine R_ireturn rfl rfl ?_
    exact ⟨rfl, rfl⟩
  | succ k ih =>
    intro y s t4 hy
    have hin : ∀ (j n : Nat) (s : (Nat → Int32) × (Nat → Int32) × Nat), n + j = 16 → mm_R S (d + 3) 86 13 [some (.ref 30), some (.int (zb b)), some (.int (nI s.2.2)), some (.int (nI y)), some (.int (nI n))] [] (sv M s.1 s.2.1) (fun v M' => v = some (.int (nI (cgo b k (y + 1) (cgi b y j s)).2.2)) ∧ M' = sv M (cgo b k (y + 1) (cgi b y j s)).1 (cgo b k (y + 1) (cgi b y j s)).2.1) := by
      intro j
      induction j with
      | zero =>
        intro n s hn
        refine R_iload (q := 15) rfl rfl rfl ?_
        refine R_bipush (q := 17) (v := nI 16) rfl rfl (by decide) ?_
        refine R_icmp_ge (q := 20) (t := 89) rfl rfl rfl (fun h17 => ?_) (fun h17 => absurd (nI_le (by omega) (by omega)) h17)
        refine R_iinc (q := 92) rfl rfl rfl (nI_i1 y) rfl ?_
        dsimp only [List.set]
        refine R_goto (t := 4) rfl rfl ?_
        exact ih (y + 1) s _ (by omega)
      | succ j ihj =>
        intro n s hn
        have h30 := sv_30 (l := s.1) (r := s.2.1) h
        have hl := sv_l (l := s.1) (r := s.2.1) h
        have hr := sv_r (l := s.1) (r := s.2.1) h
        have hl1 := hl.1
        have hr1 := hr.1
        have g30 := sv_30 (l := s.1) (r := ifl (fun _ => nI 0) s.2.1 16) h
        have gl := sv_l (l := s.1) (r := ifl (fun _ => nI 0) s.2.1 16) h
        have gr := sv_r (l := s.1) (r := ifl (fun _ => nI 0) s.2.1 16) h
        have gl1 := gl.1
        have gr1 := gr.1
        have k30 := sv_30 (l := s.1) (r := gseed s.1 s.2.1 y) h
        have m30 := sv_30 (l := s.1) (r := fld s.1 b 256 (gseed s.1 s.2.1 y) (nI 1)) h
        have ml := sv_l (l := s.1) (r := fld s.1 b 256 (gseed s.1 s.2.1 y) (nI 1)) h
        have mr := sv_r (l := s.1) (r := fld s.1 b 256 (gseed s.1 s.2.1 y) (nI 1)) h
        have ml1 := ml.1
        refine R_iload (q := 15) rfl rfl rfl ?_
        refine R_bipush (q := 17) (v := nI 16) rfl rfl (by decide) ?_
        refine R_icmp_ge (q := 20) (t := 89) rfl rfl rfl (fun h17 => absurd h17 (nI_ge (by omega) (by omega))) (fun h17 => ?_)
        refine R_aload_n (q := 21) rfl rfl rfl ?_
        refine R_getf (q := 24) rfl rfl rfl (by first | assumption | exact mm_pe | (rw [mm_pn (by omega)]; first | assumption | exact mm_pe | (rw [mm_pn (by omega)]; first | assumption | exact mm_pe | (rw [mm_pn (by omega)]; first | assumption | exact mm_pe | (rw [mm_pn (by omega)]; first | assumption | exact mm_pe | (rw [mm_pn (by omega)]; first | assumption | exact mm_pe)))))) rfl ?_
        refine R_iload_n (q := 25) rfl rfl rfl ?_
        refine R_callv1 (q := 28) rfl rfl rfl rfl hl1 (Nat.le_of_ble_eq_true rfl) rfl ?_
        refine R_mono (c2 hl) (fun v25 M25 hr25 => ?_)
        obtain ⟨rfl, hm25⟩ := hr25
        rw [hm25]
        dsimp only [Option.toList, List.cons_append, List.nil_append]
        rw [rowv_nI (show y < 16 by omega)]
        refine R_if_eq (q := 31) (t := 89) rfl rfl rfl (fun h28 => ?_) (fun h28 => ?_)
        · refine R_iinc (q := 92) rfl rfl rfl (nI_i1 y) rfl ?_
          dsimp only [List.set]
          refine R_goto (t := 4) rfl rfl ?_
          have ec : cgi b y (j + 1) s = s := if_pos h28
          rw [ec]
          exact ih (y + 1) s _ (by omega)
        · refine R_aload_n (q := 32) rfl rfl rfl ?_
          refine R_getf (q := 35) rfl rfl rfl (by first | assumption | exact mm_pe | (rw [mm_pn (by omega)]; first | assumption | exact mm_pe | (rw [mm_pn (by omega)]; first | assumption | exact mm_pe | (rw [mm_pn (by omega)]; first | assumption | exact mm_pe | (rw [mm_pn (by omega)]; first | assumption | exact mm_pe | (rw [mm_pn (by omega)]; first | assumption | exact mm_pe)))))) rfl ?_
          refine R_callv0 (q := 38) rfl rfl rfl rfl hr1 (Nat.le_of_ble_eq_true rfl) rfl ?_
          refine R_mono (c7 hr) (fun v35 M35 hr35 => ?_)
          obtain ⟨rfl, hm35⟩ := hr35
          rw [sv_pr] at hm35
          rw [hm35]
          dsimp only [Option.toList, List.cons_append, List.nil_append]
          refine R_aload_n (q := 39) rfl rfl rfl ?_
          refine R_getf (q := 42) rfl rfl rfl (by first | assumption | exact mm_pe | (rw [mm_pn (by omega)]; first | assumption | exact mm_pe | (rw [mm_pn (by omega)]; first | assumption | exact mm_pe | (rw [mm_pn (by omega)]; first | assumption | exact mm_pe | (rw [mm_pn (by omega)]; first | assumption | exact mm_pe | (rw [mm_pn (by omega)]; first | assumption | exact mm_pe)))))) rfl ?_
          refine R_iload_n (q := 43) rfl rfl rfl ?_
          refine R_aload_n (q := 44) rfl rfl rfl ?_
          refine R_getf (q := 47) rfl rfl rfl (by first | assumption | exact mm_pe | (rw [mm_pn (by omega)]; first | assumption | exact mm_pe | (rw [mm_pn (by omega)]; first | assumption | exact mm_pe | (rw [mm_pn (by omega)]; first | assumption | exact mm_pe | (rw [mm_pn (by omega)]; first | assumption | exact mm_pe | (rw [mm_pn (by omega)]; first | assumption | exact mm_pe)))))) rfl ?_
          refine R_iload_n (q := 48) rfl rfl rfl ?_
          refine R_callv1 (q := 51) rfl rfl rfl rfl gl1 (Nat.le_of_ble_eq_true rfl) rfl ?_
          refine R_mono (c2 gl) (fun v48 M48 hr48 => ?_)
          obtain ⟨rfl, hm48⟩ := hr48
          rw [hm48]
          dsimp only [Option.toList, List.cons_append, List.nil_append]
          rw [rowv_nI (show y < 16 by omega)]
          refine R_aload_n (q := 52) rfl rfl rfl ?_
          refine R_getf (q := 55) rfl rfl rfl (by first | assumption | exact mm_pe | (rw [mm_pn (by omega)]; first | assumption | exact mm_pe | (rw [mm_pn (by omega)]; first | assumption | exact mm_pe | (rw [mm_pn (by omega)]; first | assumption | exact mm_pe | (rw [mm_pn (by omega)]; first | assumption | exact mm_pe | (rw [mm_pn (by omega)]; first | assumption | exact mm_pe)))))) rfl ?_
          refine R_iload_n (q := 56) rfl rfl rfl ?_
          refine R_callv1 (q := 59) rfl rfl rfl rfl gl1 (Nat.le_of_ble_eq_true rfl) rfl ?_
          refine R_mono (c2 gl) (fun v56 M56 hr56 => ?_)
          obtain ⟨rfl, hm56⟩ := hr56
          rw [hm56]
          dsimp only [Option.toList, List.cons_append, List.nil_append]
          rw [rowv_nI (show y < 16 by omega)]
          refine R_ineg (q := 60) rfl rfl ?_
          refine R_iand (q := 61) rfl rfl ?_
          refine R_callv2 (q := 64) rfl rfl rfl rfl gr1 (Nat.le_of_ble_eq_true rfl) rfl ?_
          refine R_mono (c6 gr) (fun v61 M61 hr61 => ?_)
          obtain ⟨rfl, hm61⟩ := hr61
          rw [if_pos (by rw [i_n y (by omega)]; omega), sv_pr, cl_nI (by omega)] at hm61
          replace hm61 : M61 = sv M s.1 (gseed s.1 s.2.1 y) := hm61
          rw [hm61]
          dsimp only [Option.toList, List.cons_append, List.nil_append]
          refine R_aload_n (q := 65) rfl rfl rfl ?_
          refine R_iload_n (q := 66) rfl rfl rfl ?_
          refine R_callv1 (q := 69) rfl rfl rfl rfl k30 (Nat.le_of_ble_eq_true rfl) rfl ?_
          refine R_mono (c87 h) (fun v66 M66 hr66 => ?_)
          obtain ⟨rfl, hm66⟩ := hr66
          rw [hm66]
          dsimp only [Option.toList, List.cons_append, List.nil_append]
          refine R_aload_n (q := 70) rfl rfl rfl ?_
          refine R_getf (q := 73) rfl rfl rfl (by first | assumption | exact mm_pe | (rw [mm_pn (by omega)]; first | assumption | exact mm_pe | (rw [mm_pn (by omega)]; first | assumption | exact mm_pe | (rw [mm_pn (by omega)]; first | assumption | exact mm_pe | (rw [mm_pn (by omega)]; first | assumption | exact mm_pe | (rw [mm_pn (by omega)]; first | assumption | exact mm_pe)))))) rfl ?_
          refine R_aload_n (q := 74) rfl rfl rfl ?_
          refine R_getf (q := 77) rfl rfl rfl (by first | assumption | exact mm_pe | (rw [mm_pn (by omega)]; first | assumption | exact mm_pe | (rw [mm_pn (by omega)]; first | assumption | exact mm_pe | (rw [mm_pn (by omega)]; first | assumption | exact mm_pe | (rw [mm_pn (by omega)]; first | assumption | exact mm_pe | (rw [mm_pn (by omega)]; first | assumption | exact mm_pe)))))) rfl ?_
          refine R_callv1 (q := 80) rfl rfl rfl rfl ml1 (Nat.le_of_ble_eq_true rfl) rfl ?_
          refine R_mono (c11 ml mr) (fun v77 M77 hr77 => ?_)
          obtain ⟨rfl, hm77⟩ := hr77
          rw [sv_pl] at hm77
          rw [hm77]
          dsimp only [Option.toList, List.cons_append, List.nil_append]
          refine R_iinc (q := 83) rfl rfl rfl (nI_i1 s.2.2) rfl ?_
          dsimp only [List.set]
          refine R_iinc (q := 86) rfl rfl rfl (nI_i1 n) rfl ?_
          dsimp only [List.set]
          refine R_goto (t := 13) rfl rfl ?_
          have ec : cgi b y (j + 1) s = cgi b y j (gout s.1 (fld s.1 b 256 (gseed s.1 s.2.1 y) (nI 1)), fld s.1 b 256 (gseed s.1 s.2.1 y) (nI 1), s.2.2 + 1) := if_neg h28
          rw [ec]
          exact ihj (n + 1) (gout s.1 (fld s.1 b 256 (gseed s.1 s.2.1 y) (nI 1)), fld s.1 b 256 (gseed s.1 s.2.1 y) (nI 1), s.2.2 + 1) (by omega)
    refine R_iload_n (q := 5) rfl rfl rfl ?_
    refine R_bipush (q := 7) (v := nI 16) rfl rfl (by decide) ?_
    refine R_icmp_ge (q := 10) (t := 95) rfl rfl rfl (fun h7 => absurd h7 (nI_ge (by omega) (by omega))) (fun h7 => ?_)
    refine R_iconst (q := 11) (v := nI 0) rfl rfl (by decide) ?_
    refine R_istore (q := 13) rfl rfl (Nat.le_of_ble_eq_true rfl) rfl ?_
    dsimp only [List.set]
    exact hin 16 0 s rfl
def cgN (b : Bool) (l r : Nat → Int32) : Nat := (cgo b 16 0 (l, r, 0)).2.2
def cgL (b : Bool) (l r : Nat → Int32) : Nat → Int32 := (cgo b 16 0 (l, r, 0)).1
def cgR (b : Bool) (l r : Nat → Int32) : Nat → Int32 := (cgo b 16 0 (l, r, 0)).2.1
set_option maxRecDepth 8000 in
theorem c86 (h : SVF M) : mm_R S (d + 3) 86 0 (mm_en 86 [.ref 30, .int (zb b)]) [] (sv M l r) (fun v M' => v = some (.int (nI (cgN b l r))) ∧ M' = sv M (cgL b l r) (cgR b l r)) := by
  unfold cgN cgL cgR
  show mm_R S (d + 3) 86 0 [some (.ref 30), some (.int (zb b)), none, none, none] [] (sv M l r) _
  refine R_iconst (q := 1) (v := nI 0) rfl rfl (by decide) ?_
  refine R_istore_n (q := 2) rfl rfl (Nat.le_of_ble_eq_true rfl) rfl ?_
  dsimp only [List.set]
  refine R_iconst (q := 3) (v := nI 0) rfl rfl (by decide) ?_
  refine R_istore_n (q := 4) rfl rfl (Nat.le_of_ble_eq_true rfl) rfl ?_
  dsimp only [List.set]
  exact c86_loop h 16 0 (l, r, 0) _ rfl
end P24
