/-! ===== the reference's own calls, IV: size ===== -/
def dI (i far : Nat) : Int32 := nI i - nI far
theorem dI_t {i far : Nat} (hi : i < 100) (hf : far < 100) : (dI i far).toInt = (i : Int) - far := pk_sub_toInt (by omega) (by omega)
theorem dI_0 {far : Nat} (hf : far < 100) : -nI far = dI 0 far := by
  rw [i_eq, dI_t (by omega) hf, i_neg (by rw [i_n _ (by omega)]; omega), i_n _ (by omega)]
  omega
theorem dI_s {i far : Nat} (hi : i < 99) (hf : far < 100) : dI i far + Int32.ofInt 1 = dI (i + 1) far := by
  rw [i_eq, dI_t (by omega) hf, i_add (by rw [dI_t (by omega) hf, show (Int32.ofInt 1).toInt = 1 from rfl]; omega), dI_t (by omega) hf, show (Int32.ofInt 1).toInt = 1 from rfl]
  omega
def anyx (f : Nat → Int32) (x : Nat) (Y : Int32) (far : Nat) : Nat → Nat → Bool → Bool
  | 0, _, b => b
  | j + 1, i, b => anyx f x Y far j (i + 1) (b || hs f (nI x + dI i far) Y)
def allx (f : Nat → Int32) (x : Nat) (Y : Int32) (far : Nat) : Nat → Nat → Bool → Bool
  | 0, _, b => b
  | j + 1, i, b => allx f x Y far j (i + 1) (b && hs f (nI x + dI i far) Y)
def anyy (f : Nat → Int32) (x y far : Nat) : Nat → Nat → Bool → Bool
  | 0, _, b => b
  | j + 1, i, b => anyy f x y far j (i + 1) (anyx f x (nI y + dI i far) far (2 * far + 1) 0 b)
def ally (f : Nat → Int32) (x y far : Nat) : Nat → Nat → Bool → Bool
  | 0, _, b => b
  | j + 1, i, b => ally f x y far j (i + 1) (allx f x (nI y + dI i far) far (2 * far + 1) 0 b)
theorem anyx_iff {f : Nat → Int32} {x far : Nat} {Y : Int32} : ∀ j i b, anyx f x Y far j i b = true ↔ (b = true ∨ ∃ k, i ≤ k ∧ k < i + j ∧ hs f (nI x + dI k far) Y = true) := by
  intro j
  induction j with
  | zero => intro i b; exact ⟨fun h => Or.inl h, fun h => h.elim id (fun ⟨k, h1, h2, _⟩ => by omega)⟩
  | succ j ih =>
    intro i b
    unfold anyx
    rw [ih, Bool.or_eq_true]
    constructor
    · intro h
      rcases h with (h | h) | ⟨k, h1, h2, h3⟩
      · exact Or.inl h
      · exact Or.inr ⟨i, by omega, by omega, h⟩
      · exact Or.inr ⟨k, by omega, by omega, h3⟩
    · intro h
      rcases h with h | ⟨k, h1, h2, h3⟩
      · exact Or.inl (Or.inl h)
      · by_cases hk : k = i
        · subst hk; exact Or.inl (Or.inr h3)
        · exact Or.inr ⟨k, by omega, by omega, h3⟩
theorem allx_iff {f : Nat → Int32} {x far : Nat} {Y : Int32} : ∀ j i b, allx f x Y far j i b = true ↔ (b = true ∧ ∀ k, i ≤ k → k < i + j → hs f (nI x + dI k far) Y = true) := by
  intro j
  induction j with
  | zero => intro i b; exact ⟨fun h => ⟨h, fun k h1 h2 => by omega⟩, fun h => h.1⟩
  | succ j ih =>
    intro i b
    unfold allx
    rw [ih, Bool.and_eq_true]
    constructor
    · intro h
      refine ⟨h.1.1, fun k h1 h2 => ?_⟩
      by_cases hk : k = i
      · subst hk; exact h.1.2
      · exact h.2 k (by omega) (by omega)
    · intro h
      exact ⟨⟨h.1, h.2 i (by omega) (by omega)⟩, fun k h1 h2 => h.2 k (by omega) (by omega)⟩
theorem anyy_iff {f : Nat → Int32} {x y far : Nat} : ∀ j i b, anyy f x y far j i b = true ↔ (b = true ∨ ∃ m k, (i ≤ m ∧ m < i + j) ∧ k < 2 * far + 1 ∧ hs f (nI x + dI k far) (nI y + dI m far) = true) := by
  intro j
  induction j with
  | zero => intro i b; exact ⟨fun h => Or.inl h, fun h => h.elim id (fun ⟨m, k, h1, h2, _⟩ => by omega)⟩
  | succ j ih =>
    intro i b
    unfold anyy
    rw [ih, anyx_iff]
    constructor
    · intro h
      rcases h with (h | ⟨k, h1, h2, h3⟩) | ⟨m, k, h1, h2, h3⟩
      · exact Or.inl h
      · exact Or.inr ⟨i, k, by omega, by omega, h3⟩
      · exact Or.inr ⟨m, k, by omega, h2, h3⟩
    · intro h
      rcases h with h | ⟨m, k, h1, h2, h3⟩
      · exact Or.inl (Or.inl h)
      · by_cases hk : m = i
        · subst hk; exact Or.inl (Or.inr ⟨k, by omega, by omega, h3⟩)
        · exact Or.inr ⟨m, k, by omega, h2, h3⟩
theorem ally_iff {f : Nat → Int32} {x y far : Nat} : ∀ j i b, ally f x y far j i b = true ↔ (b = true ∧ ∀ m k, i ≤ m ∧ m < i + j → k < 2 * far + 1 → hs f (nI x + dI k far) (nI y + dI m far) = true) := by
  intro j
  induction j with
  | zero => intro i b; exact ⟨fun h => ⟨h, fun m k h1 h2 => by omega⟩, fun h => h.1⟩
  | succ j ih =>
    intro i b
    unfold ally
    rw [ih, allx_iff]
    constructor
    · intro h
      refine ⟨h.1.1, fun m k h1 h2 => ?_⟩
      by_cases hk : m = i
      · subst hk; exact h.1.2 k (by omega) (by omega)
      · exact h.2 m k (by omega) h2
    · intro h
      exact ⟨⟨h.1, fun k h1 h2 => h.2 i k (by omega) (by omega)⟩, fun m k h1 h2 => h.2 m k (by omega) h2⟩
theorem hs_d {f : Nat → Int32} {x y k m far : Nat} (hx : x < 16) (hy : y < 16) (hk : k < 100) (hm : m < 100) (hf : far < 100) : hs f (nI x + dI k far) (nI y + dI m far) = true ↔ Hp f ((x : Int) + ((k : Int) - far)) ((y : Int) + ((m : Int) - far)) := by
  rw [hs_H, i_add (by rw [dI_t hk hf, i_n _ (by omega)]; omega), i_add (by rw [dI_t hm hf, i_n _ (by omega)]; omega), dI_t hk hf, dI_t hm hf, i_n _ (by omega), i_n _ (by omega)]
theorem any_W {f : Nat → Int32} {x y far : Nat} (h : ∀ y, y < 16 → hb (f y)) (hx : x < 16) (hy : y < 16) (hf : far ≤ 8) : anyy f x y far (2 * far + 1) 0 false = bt (itf grn far f y) x := by
  apply Bool.eq_iff_iff.mpr
  rw [anyy_iff, ← Hp_n hx hy, itg_H far f h x y (by omega)]
  constructor
  · intro q
    rcases q with q | ⟨m, k, h1, h2, h3⟩
    · exact absurd q (by decide)
    · exact ⟨(k : Int) - far, (m : Int) - far, ⟨by omega, by omega⟩, ⟨by omega, by omega⟩, (hs_d hx hy (by omega) (by omega) (by omega)).mp h3⟩
  · intro q
    obtain ⟨a, b, ha, hb', hq⟩ := q
    unfold nrn at ha hb'
    refine Or.inr ⟨(b + far).toNat, (a + far).toNat, by omega, by omega, (hs_d hx hy (by omega) (by omega) (by omega)).mpr ?_⟩
    have e1 : (((a + far).toNat : Nat) : Int) - far = a := by omega
    have e2 : (((b + far).toNat : Nat) : Int) - far = b := by omega
    rw [e1, e2]
    exact hq
theorem all_W {f : Nat → Int32} {x y far : Nat} (h : ∀ y, y < 16 → hb (f y)) (hx : x < 16) (hy : y < 16) (hf : far ≤ 8) : ally f x y far (2 * far + 1) 0 true = bt (itf skn far f y) x := by
  apply Bool.eq_iff_iff.mpr
  rw [ally_iff, ← Hp_n hx hy, its_H far f h x y (by omega)]
  constructor
  · intro q a b ha hb'
    unfold nrn at ha hb'
    have := (hs_d hx hy (k := (a + far).toNat) (m := (b + far).toNat) (by omega) (by omega) (by omega)).mp (q.2 (b + far).toNat (a + far).toNat (by omega) (by omega))
    have e1 : (((a + far).toNat : Nat) : Int) - far = a := by omega
    have e2 : (((b + far).toNat : Nat) : Int) - far = b := by omega
    rw [e1, e2] at this
    exact this
  · intro q
    exact ⟨rfl, fun m k h1 h2 => (hs_d hx hy (by omega) (by omega) (by omega)).mpr (q _ _ ⟨by omega, by omega⟩ ⟨by omega, by omega⟩)⟩
section P48
variable {S : mm_S} {d : Nat} {M : mm_M} {A : AS} {I : Nat → Int32} {sh : Nat → Nat → Int32} {o : OS} {l : LYS} {pi fa tp : IS}
set_option maxRecDepth 8000 in
theorem m158_x {a far k m : Nat} {vt : Option Value} {r : Int32} {P : Option Value → mm_M → Prop} (hc : CRl A sh) (ha : a < 6) (hk : k < 256) (hf : far ≤ 8) (hm : m ≤ 16) : ∀ (j i : Nat) (p q : Bool) (t10 : Option Value), i + j = 2 * far + 1 → (∀ t9 t10 : Option Value, mm_R S (d + 2) 158 143 [some (.ref 73), vt, some (.int (nI a)), some (.int r), some (.int (nI far)), some (.int (nI k)), some (.int (zb (anyx (sh a) (k % 16) (nI (k / 16) + dI m far) far j i p))), some (.int (zb (allx (sh a) (k % 16) (nI (k / 16) + dI m far) far j i q))), some (.int (dI m far)), t9, t10] [] (mdm M A I) P) → mm_R S (d + 2) 158 73 [some (.ref 73), vt, some (.int (nI a)), some (.int r), some (.int (nI far)), some (.int (nI k)), some (.int (zb p)), some (.int (zb q)), some (.int (dI m far)), some (.int (dI i far)), t10] [] (mdm M A I) P := by
  intro j
  induction j with
  | zero =>
    intro i p q t10 hi hk2
    refine R_iload (q := 75) rfl rfl rfl ?_
    refine R_iload (q := 77) rfl rfl rfl ?_
    refine R_icmp_gt (q := 80) (t := 143) rfl rfl rfl (fun h77 => ?_) (fun h77 => absurd (by rw [i_lt, dI_t (by omega) (by omega), i_n _ (by omega)]; omega) h77)
    exact hk2 _ _
  | succ j ih =>
    intro i p q t10 hi hk2
    have h135 : ∀ v : Int32, v = zb (q && hs (sh a) (nI (k % 16) + dI i far) (nI (k / 16) + dI m far)) → mm_R S (d + 2) 158 135 [some (.ref 73), vt, some (.int (nI a)), some (.int r), some (.int (nI far)), some (.int (nI k)), some (.int (zb (p || hs (sh a) (nI (k % 16) + dI i far) (nI (k / 16) + dI m far)))), some (.int (zb q)), some (.int (dI m far)), some (.int (dI i far)), some (.int (zb (hs (sh a) (nI (k % 16) + dI i far) (nI (k / 16) + dI m far))))] [.int v] (mdm M A I) P := by
      intro v hv
      refine R_istore (q := 137) rfl rfl (Nat.le_of_ble_eq_true rfl) rfl ?_
      dsimp only [List.set]
      refine R_iinc (q := 140) rfl rfl rfl (dI_s (by omega) (by omega)) rfl ?_
      dsimp only [List.set]
      refine R_goto (t := 73) rfl rfl ?_
      rw [hv]
      exact ih (i + 1) _ _ _ (by omega) hk2
    have h118 : ∀ v : Int32, v = zb (p || hs (sh a) (nI (k % 16) + dI i far) (nI (k / 16) + dI m far)) → mm_R S (d + 2) 158 118 [some (.ref 73), vt, some (.int (nI a)), some (.int r), some (.int (nI far)), some (.int (nI k)), some (.int (zb p)), some (.int (zb q)), some (.int (dI m far)), some (.int (dI i far)), some (.int (zb (hs (sh a) (nI (k % 16) + dI i far) (nI (k / 16) + dI m far))))] [.int v] (mdm M A I) P := by
      intro v hv
      rw [hv]
      refine R_istore (q := 120) rfl rfl (Nat.le_of_ble_eq_true rfl) rfl ?_
      dsimp only [List.set]
      refine R_iload (q := 122) rfl rfl rfl ?_
      refine R_if_eq (q := 125) (t := 134) rfl rfl rfl (fun h122 => ?_) (fun h122 => ?_)
      · refine R_iconst (q := 135) (v := nI 0) rfl rfl (by decide) ?_
        refine h135 _ ?_
        first
          | (rw [zb_eq0.mp h122]; rfl)
          | (rw [zb_ne0.mp h122, zb_eq0.mp h127]; rfl)
          | (rw [zb_ne0.mp h122, zb_ne0.mp h127]; rfl)
      · refine R_iload (q := 127) rfl rfl rfl ?_
        refine R_if_eq (q := 130) (t := 134) rfl rfl rfl (fun h127 => ?_) (fun h127 => ?_)
        · refine R_iconst (q := 135) (v := nI 0) rfl rfl (by decide) ?_
          refine h135 _ ?_
          first
            | (rw [zb_eq0.mp h122]; rfl)
            | (rw [zb_ne0.mp h122, zb_eq0.mp h127]; rfl)
            | (rw [zb_ne0.mp h122, zb_ne0.mp h127]; rfl)
        · refine R_iconst (q := 131) (v := nI 1) rfl rfl (by decide) ?_
          refine R_goto (t := 135) rfl rfl ?_
          refine h135 _ ?_
          first
            | (rw [zb_eq0.mp h122]; rfl)
            | (rw [zb_ne0.mp h122, zb_eq0.mp h127]; rfl)
            | (rw [zb_ne0.mp h122, zb_ne0.mp h127]; rfl)
    refine R_iload (q := 75) rfl rfl rfl ?_
    refine R_iload (q := 77) rfl rfl rfl ?_
    refine R_icmp_gt (q := 80) (t := 143) rfl rfl rfl (fun h77 => absurd (by rw [i_lt, dI_t (by omega) (by omega), i_n _ (by omega)] at h77; omega) (by decide : ¬ False)) (fun h77 => ?_)
    refine R_aload_n (q := 81) rfl rfl rfl ?_
    refine R_iload_n (q := 82) rfl rfl rfl ?_
    refine R_iload (q := 84) rfl rfl rfl ?_
    refine R_bipush (q := 86) (v := nI 16) rfl rfl (by decide) ?_
    refine R_irem (q := 87) rfl rfl (by decide) ?_
    rw [pk_rem (by omega) (by omega) (by omega)]
    refine R_iload (q := 89) rfl rfl rfl ?_
    refine R_iadd (q := 90) rfl rfl ?_
    refine R_iload (q := 92) rfl rfl rfl ?_
    refine R_bipush (q := 94) (v := nI 16) rfl rfl (by decide) ?_
    refine R_idiv (q := 95) rfl rfl (by decide) ?_
    rw [pk_div (by omega) (by omega) (by omega)]
    refine R_iload (q := 97) rfl rfl rfl ?_
    refine R_iadd (q := 98) rfl rfl ?_
    refine R_callv3 (q := 101) rfl rfl rfl rfl md_73 (Nat.le_of_ble_eq_true rfl) rfl ?_
    refine R_mono (m149 hc ha) (fun v98 M98 hr98 => ?_)
    obtain ⟨rfl, hm98⟩ := hr98
    rw [hm98]
    dsimp only [Option.toList, List.cons_append, List.nil_append]
    refine R_istore (q := 103) rfl rfl (Nat.le_of_ble_eq_true rfl) rfl ?_
    dsimp only [List.set]
    refine R_iload (q := 105) rfl rfl rfl ?_
    refine R_if_ne (q := 108) (t := 113) rfl rfl rfl (fun h105 => ?_) (fun h105 => ?_)
    · refine R_iconst (q := 114) (v := nI 1) rfl rfl (by decide) ?_
      refine R_goto (t := 118) rfl rfl ?_
      refine h118 _ ?_
      first
        | (rw [zb_ne0.mp h105]; rfl)
        | (rw [zb_eq0.mp h105, zb_ne0.mp h110]; rfl)
        | (rw [zb_eq0.mp h105, zb_eq0.mp h110]; rfl)
    · refine R_iload (q := 110) rfl rfl rfl ?_
      refine R_if_eq (q := 113) (t := 117) rfl rfl rfl (fun h110 => ?_) (fun h110 => ?_)
      · refine R_iconst (q := 118) (v := nI 0) rfl rfl (by decide) ?_
        refine h118 _ ?_
        first
          | (rw [zb_ne0.mp h105]; rfl)
          | (rw [zb_eq0.mp h105, zb_ne0.mp h110]; rfl)
          | (rw [zb_eq0.mp h105, zb_eq0.mp h110]; rfl)
      · refine R_iconst (q := 114) (v := nI 1) rfl rfl (by decide) ?_
        refine R_goto (t := 118) rfl rfl ?_
        refine h118 _ ?_
        first
          | (rw [zb_ne0.mp h105]; rfl)
          | (rw [zb_eq0.mp h105, zb_ne0.mp h110]; rfl)
          | (rw [zb_eq0.mp h105, zb_eq0.mp h110]; rfl)
set_option maxRecDepth 8000 in
theorem m158_y {a far k : Nat} {vt : Option Value} {r : Int32} {P : Option Value → mm_M → Prop} (hc : CRl A sh) (ha : a < 6) (hk : k < 256) (hf : far ≤ 8) : ∀ (j i : Nat) (p q : Bool) (t9 t10 : Option Value), i + j = 2 * far + 1 → (∀ t8 t9 t10 : Option Value, mm_R S (d + 2) 158 149 [some (.ref 73), vt, some (.int (nI a)), some (.int r), some (.int (nI far)), some (.int (nI k)), some (.int (zb (anyy (sh a) (k % 16) (k / 16) far j i p))), some (.int (zb (ally (sh a) (k % 16) (k / 16) far j i q))), t8, t9, t10] [] (mdm M A I) P) → mm_R S (d + 2) 158 61 [some (.ref 73), vt, some (.int (nI a)), some (.int r), some (.int (nI far)), some (.int (nI k)), some (.int (zb p)), some (.int (zb q)), some (.int (dI i far)), t9, t10] [] (mdm M A I) P := by
  intro j
  induction j with
  | zero =>
    intro i p q t9 t10 hi hk2
    refine R_iload (q := 63) rfl rfl rfl ?_
    refine R_iload (q := 65) rfl rfl rfl ?_
    refine R_icmp_gt (q := 68) (t := 149) rfl rfl rfl (fun h65 => ?_) (fun h65 => absurd (by rw [i_lt, dI_t (by omega) (by omega), i_n _ (by omega)]; omega) h65)
    exact hk2 _ _ _
  | succ j ih =>
    intro i p q t9 t10 hi hk2
    refine R_iload (q := 63) rfl rfl rfl ?_
    refine R_iload (q := 65) rfl rfl rfl ?_
    refine R_icmp_gt (q := 68) (t := 149) rfl rfl rfl (fun h65 => absurd (by rw [i_lt, dI_t (by omega) (by omega), i_n _ (by omega)] at h65; omega) (by decide : ¬ False)) (fun h65 => ?_)
    refine R_iload (q := 70) rfl rfl rfl ?_
    refine R_ineg (q := 71) rfl rfl ?_
    rw [dI_0 (by omega)]
    refine R_istore (q := 73) rfl rfl (Nat.le_of_ble_eq_true rfl) rfl ?_
    dsimp only [List.set]
    refine m158_x hc ha hk hf (by omega) (2 * far + 1) 0 p q _ (by omega) (fun t9 t10 => ?_)
    
    refine R_iinc (q := 146) rfl rfl rfl (dI_s (by omega) (by omega)) rfl ?_
    dsimp only [List.set]
    refine R_goto (t := 61) rfl rfl ?_
    exact ih (i + 1) _ _ _ _ (by omega) hk2
def szW (f : Nat → Int32) (r : Int32) (far k : Nat) : Bool := if 0 ≤ r then anyy f (k % 16) (k / 16) far (2 * far + 1) 0 false else ally f (k % 16) (k / 16) far (2 * far + 1) 0 true
theorem szW_eq {f f' : Nat → Int32} {r : Int32} {far k : Nat} (h : ∀ y, y < 16 → hb (f y)) (hf' : ∀ y, y < 16 → f' y = f y) (hk : k < 256) (hfar : far ≤ 8) (h0 : 0 ≤ r → r = nI far) (h1 : ¬ 0 ≤ r → -r = nI far) : szW f r far k = bt (szf r f' (k / 16)) (k % 16) := by
  have hex : ∀ (x y : Int), Hp f' x y ↔ Hp f x y := fun x y => by
    unfold Hp
    constructor
    · intro q; exact ⟨q.1, q.2.1, by rw [← hf' _ (by omega)]; exact q.2.2⟩
    · intro q; exact ⟨q.1, q.2.1, by rw [hf' _ (by omega)]; exact q.2.2⟩
  have hb' : ∀ y, y < 16 → hb (f' y) := fun y hy => by rw [hf' y hy]; exact h y hy
  unfold szW szf
  by_cases hr : 0 ≤ r
  · rw [if_pos hr]
    have e1 : r.toNatClampNeg = far := by rw [h0 hr, cl_nI (by omega)]
    have e2 : (-r).toNatClampNeg = 0 := by
      rw [h0 hr, dI_0 (by omega)]
      show (dI 0 far).toInt.toNat = 0
      rw [dI_t (by omega) (by omega)]
      omega
    rw [e1, e2, any_W h (by omega) (by omega) hfar]
    show _ = bt (itf grn far f' (k / 16)) (k % 16)
    apply Bool.eq_iff_iff.mpr
    rw [← Hp_n (by omega) (by omega), ← Hp_n (by omega) (by omega), itg_H far f h _ _ (by omega), itg_H far f' hb' _ _ (by omega)]
    exact exists_congr (fun a => exists_congr (fun b => by rw [hex]))
  · rw [if_neg hr]
    have e1 : (-r).toNatClampNeg = far := by rw [h1 hr, cl_nI (by omega)]
    have e2 : r.toNatClampNeg = 0 := by
      show r.toInt.toNat = 0
      rw [i_le, i_0] at hr
      omega
    rw [e1, e2, all_W h (by omega) (by omega) hfar]
    show _ = bt (itf skn far f' (k / 16)) (k % 16)
    apply Bool.eq_iff_iff.mpr
    rw [← Hp_n (by omega) (by omega), ← Hp_n (by omega) (by omega), its_H far f h _ _ (by omega), its_H far f' hb' _ _ (by omega)]
    exact forall_congr' (fun a => forall_congr' (fun b => by rw [hex]))
set_option maxRecDepth 8000 in
theorem m158 {t a r : Int32} (hV : VS sh o l pi fa tp) (h : MRl A I sh o l pi fa tp) : mm_R S (d + 2) 158 0 (mm_en 158 [.ref 73, .int t, .int a, .int r]) [] (mdm M A I) (fun v M' => FM (mdm M A I) M' ∧ YN v ((shp t ∧ shp a) ∧ upt r 8) (MI M' (ups sh (sn t) (szf r (ifl (sh (sn a)) (sh (sn t)) 16))) o l pi fa tp) (MI M' sh o l pi fa tp)) := by
  show mm_R S (d + 2) 158 0 [some (.ref 73), some (.int t), some (.int a), some (.int r), none, none, none, none, none, none, none] [] (mdm M A I) _
  obtain ⟨r1, r2, r3, r4, r5, r6, r7, r8⟩ := id h
  have hl2 : ∀ (t a far : Nat) (r : Int32) (t2 t3 t4 t6 t7 t8 t9 t10 : Option Value), t < 6 → ∀ (j i : Nat), i + j = 256 → mm_R S (d + 2) 158 176 [some (.ref 73), some (.int (nI t)), t2, t3, t4, some (.int (nI i)), t6, t7, t8, t9, t10] [] (mdm M (upa (upa A 75 (ifl (fun k => zb (szW (sh a) r far k)) (A 75) 256)) 74 (ifr (fun i => (fun k => zb (szW (sh a) r far k)) (i - 256 * t)) (A 74) (256 * t) (256 * t + i))) I) (fun v M' => v = some (.int (nI 1)) ∧ M' = mdm M (upa (upa A 75 (ifl (fun k => zb (szW (sh a) r far k)) (A 75) 256)) 74 (ifr (fun i => (fun k => zb (szW (sh a) r far k)) (i - 256 * t)) (A 74) (256 * t) (256 * t + 256))) I) := by
    intro t a far r t2 t3 t4 t6 t7 t8 t9 t10 ht j
    induction j with
    | zero =>
      intro i hi
      have hii : i = 256 := by omega
      subst hii
      refine R_iload (q := 178) rfl rfl rfl ?_
      refine R_sipush (q := 181) (v := nI 256) rfl rfl (by decide) ?_
      refine R_icmp_ge (q := 184) (t := 210) rfl rfl rfl (fun h181 => ?_) (fun h181 => absurd (nI_le (by omega) (by omega)) h181)
      refine R_iconst (q := 211) (v := nI 1) rfl rfl (by decide) ?_
      refine R_zreturn rfl rfl (by first | exact Or.inl rfl | exact Or.inr rfl | assumption) ?_
      exact ⟨rfl, rfl⟩
    | succ j ih =>
      intro i hi
      have e1 : upa (upa A 75 (ifl (fun k => zb (szW (sh a) r far k)) (A 75) 256)) 74 (ifr (fun i => (fun k => zb (szW (sh a) r far k)) (i - 256 * t)) (A 74) (256 * t) (256 * t + i)) 75 i = (fun k => zb (szW (sh a) r far k)) (256 * t + i - 256 * t) := by
        rw [upa_n (by decide), upa_e, ifl_lt (by omega), show 256 * t + i - 256 * t = i by omega]
      refine R_iload (q := 178) rfl rfl rfl ?_
      refine R_sipush (q := 181) (v := nI 256) rfl rfl (by decide) ?_
      refine R_icmp_ge (q := 184) (t := 210) rfl rfl rfl (fun h181 => absurd h181 (nI_ge (by omega) (by omega))) (fun h181 => ?_)
      refine R_aload_n (q := 185) rfl rfl rfl ?_
      refine R_getf (q := 188) rfl rfl rfl md_73 rfl ?_
      refine R_sipush (q := 191) (v := nI 256) rfl rfl (by decide) ?_
      refine R_iload_n (q := 192) rfl rfl rfl ?_
      refine R_imul (q := 193) rfl rfl ?_
      rw [pk_mul]
      refine R_iload (q := 195) rfl rfl rfl ?_
      refine R_iadd (q := 196) rfl rfl ?_
      rw [nI_add]
      refine R_aload_n (q := 197) rfl rfl rfl ?_
      refine R_getf (q := 200) rfl rfl rfl md_73 rfl ?_
      refine R_iload (q := 202) rfl rfl rfl ?_
      refine R_baload (q := 203) rfl rfl md_75 (by decide) (by first | assumption | exact in_nI (by omega) (by decide)) ?_
      rw [cl_nI (by omega)]
      rw [e1]
      refine R_bastore (q := 204) rfl rfl md_74 (by first | assumption | exact in_nI (by omega) (by decide)) (zb_01 _) ?_
      rw [cl_nI (by omega)]
      rw [upa_e]
      rw [md_p74]
      refine R_iinc (q := 207) rfl rfl rfl (nI_i1 i) rfl ?_
      dsimp only [List.set]
      refine R_goto (t := 176) rfl rfl ?_
      rw [upa_u, ifr_s (n := fun i => (fun k => zb (szW (sh a) r far k)) (i - 256 * t)) (by omega)]
      exact ih (i + 1) (by omega)
  have hl1 : ∀ (t a far : Nat) (r : Int32) (t2 : Option Value), t < 6 → a < 6 → far ≤ 8 → ∀ (j i : Nat) (t6 t7 t8 t9 t10 : Option Value), i + j = 256 → mm_R S (d + 2) 158 42 [some (.ref 73), some (.int (nI t)), some (.int (nI a)), some (.int r), some (.int (nI far)), some (.int (nI i)), t6, t7, t8, t9, t10] [] (mdm M (upa A 75 (ifl (fun k => zb (szW (sh a) r far k)) (A 75) i)) I) (fun v M' => v = some (.int (nI 1)) ∧ M' = mdm M (upa (upa A 75 (ifl (fun k => zb (szW (sh a) r far k)) (A 75) 256)) 74 (ifr (fun i => (fun k => zb (szW (sh a) r far k)) (i - 256 * t)) (A 74) (256 * t) (256 * t + 256))) I) := by
    intro t a far r t2 ht ha hf j
    induction j with
    | zero =>
      intro i t6 t7 t8 t9 t10 hi
      have hii : i = 256 := by omega
      subst hii
      refine R_iload (q := 44) rfl rfl rfl ?_
      refine R_sipush (q := 47) (v := nI 256) rfl rfl (by decide) ?_
      refine R_icmp_ge (q := 50) (t := 173) rfl rfl rfl (fun h47 => ?_) (fun h47 => absurd (nI_le (by omega) (by omega)) h47)
      refine R_iconst (q := 174) (v := nI 0) rfl rfl (by decide) ?_
      refine R_istore (q := 176) rfl rfl (Nat.le_of_ble_eq_true rfl) rfl ?_
      dsimp only [List.set]
      have h0 := hl2 t a far r (some (.int (nI a))) (some (.int r)) (some (.int (nI far))) t6 t7 t8 t9 t10 ht 256 0 (by omega)
      rw [show 256 * t + 0 = 256 * t from rfl, ifr_0, show A 74 = (upa A 75 (ifl (fun k => zb (szW (sh a) r far k)) (A 75) 256)) 74 from (upa_n (by decide)).symm, upa_s] at h0
      exact h0
    | succ j ih =>
      intro i t6 t7 t8 t9 t10 hi
      have hst : ∀ (v : Int32) (t6 t7 t8 t9 t10 : Option Value), v = zb (szW (sh a) r far i) → mm_R S (d + 2) 158 166 [some (.ref 73), some (.int (nI t)), some (.int (nI a)), some (.int r), some (.int (nI far)), some (.int (nI i)), t6, t7, t8, t9, t10] [.int v, .int (nI i), .ref 75] (mdm M (upa A 75 (ifl (fun k => zb (szW (sh a) r far k)) (A 75) i)) I) (fun v M' => v = some (.int (nI 1)) ∧ M' = mdm M (upa (upa A 75 (ifl (fun k => zb (szW (sh a) r far k)) (A 75) 256)) 74 (ifr (fun i => (fun k => zb (szW (sh a) r far k)) (i - 256 * t)) (A 74) (256 * t) (256 * t + 256))) I) := by
        intro v t6 t7 t8 t9 t10 hv
        have h01 : v = 0 ∨ v = 1 := by rw [hv]; exact zb_01 _
        refine R_bastore (q := 167) rfl rfl md_75 (by first | assumption | exact in_nI (by omega) (by decide)) h01 ?_
        rw [cl_nI (by omega)]
        rw [upa_e]
        rw [md_p75]
        refine R_iinc (q := 170) rfl rfl rfl (nI_i1 i) rfl ?_
        dsimp only [List.set]
        refine R_goto (t := 42) rfl rfl ?_
        rw [upa_u, hv, ifl_s (n := (fun k => zb (szW (sh a) r far k)))]
        exact ih (i + 1) _ _ _ _ _ (by omega)
      refine R_iload (q := 44) rfl rfl rfl ?_
      refine R_sipush (q := 47) (v := nI 256) rfl rfl (by decide) ?_
      refine R_icmp_ge (q := 50) (t := 173) rfl rfl rfl (fun h47 => absurd h47 (nI_ge (by omega) (by omega))) (fun h47 => ?_)
      refine R_iconst (q := 51) (v := nI 0) rfl rfl (by decide) ?_
      refine R_istore (q := 53) rfl rfl (Nat.le_of_ble_eq_true rfl) rfl ?_
      dsimp only [List.set]
      refine R_iconst (q := 54) (v := nI 1) rfl rfl (by decide) ?_
      refine R_istore (q := 56) rfl rfl (Nat.le_of_ble_eq_true rfl) rfl ?_
      dsimp only [List.set]
      refine R_iload (q := 58) rfl rfl rfl ?_
      refine R_ineg (q := 59) rfl rfl ?_
      rw [dI_0 (by omega)]
      refine R_istore (q := 61) rfl rfl (Nat.le_of_ble_eq_true rfl) rfl ?_
      dsimp only [List.set]
      have rr1 : CRl (upa A 75 (ifl (fun k => zb (szW (sh a) r far k)) (A 75) i)) sh := r1
      refine m158_y (k := i) rr1 ha (by omega) hf (2 * far + 1) 0 false true _ _ (by omega) (fun t8 t9 t10 => ?_)
      refine R_aload_n (q := 150) rfl rfl rfl ?_
      refine R_getf (q := 153) rfl rfl rfl md_73 rfl ?_
      refine R_iload (q := 155) rfl rfl rfl ?_
      refine R_iload_n (q := 156) rfl rfl rfl ?_
      refine R_if_ge (q := 159) (t := 164) rfl rfl rfl (fun h156 => ?_) (fun h156 => ?_)
      · refine R_iload (q := 166) rfl rfl rfl ?_
        refine hst _ _ _ _ _ _ ?_
        unfold szW
        first
          | rw [if_pos h156]
          | rw [if_neg h156]
      · refine R_iload (q := 161) rfl rfl rfl ?_
        refine R_goto (t := 166) rfl rfl ?_
        refine hst _ _ _ _ _ _ ?_
        unfold szW
        first
          | rw [if_pos h156]
          | rw [if_neg h156]
  refine R_iload_n (q := 1) rfl rfl rfl ?_
  refine R_calls1 (q := 4) rfl rfl rfl rfl (Nat.le_of_ble_eq_true rfl) rfl ?_
  refine R_mono (m148) (fun v1 M1 hr1 => ?_)
  obtain ⟨rfl, hm1⟩ := hr1
  rw [hm1]
  dsimp only [Option.toList, List.cons_append, List.nil_append]
  refine R_if_eq (q := 7) (t := 25) rfl rfl rfl (fun h4 => ?_) (fun h4 => ?_)
  · refine R_iconst (q := 26) (v := nI 0) rfl rfl (by decide) ?_
    refine R_zreturn rfl rfl (by first | exact Or.inl rfl | exact Or.inr rfl | assumption) ?_
    first
      | exact ⟨FM_md, Or.inr ⟨(fun hP => absurd hP.1.1 (of_decide_eq_false (zb_eq0.mp h4))), rfl, MI_md h⟩⟩
      | exact ⟨FM_md, Or.inr ⟨(fun hP => absurd hP.1.2 (of_decide_eq_false (zb_eq0.mp h11))), rfl, MI_md h⟩⟩
      | exact ⟨FM_md, Or.inr ⟨(fun hP => of_decide_eq_false (zb_eq0.mp h22) (by have q1 := hP.2; rw [ikm_8, ik_8]; omega)), rfl, MI_md h⟩⟩
  · refine R_iload_n (q := 8) rfl rfl rfl ?_
    refine R_calls1 (q := 11) rfl rfl rfl rfl (Nat.le_of_ble_eq_true rfl) rfl ?_
    refine R_mono (m148) (fun v8 M8 hr8 => ?_)
    obtain ⟨rfl, hm8⟩ := hr8
    rw [hm8]
    dsimp only [Option.toList, List.cons_append, List.nil_append]
    refine R_if_eq (q := 14) (t := 25) rfl rfl rfl (fun h11 => ?_) (fun h11 => ?_)
    · refine R_iconst (q := 26) (v := nI 0) rfl rfl (by decide) ?_
      refine R_zreturn rfl rfl (by first | exact Or.inl rfl | exact Or.inr rfl | assumption) ?_
      first
        | exact ⟨FM_md, Or.inr ⟨(fun hP => absurd hP.1.1 (of_decide_eq_false (zb_eq0.mp h4))), rfl, MI_md h⟩⟩
        | exact ⟨FM_md, Or.inr ⟨(fun hP => absurd hP.1.2 (of_decide_eq_false (zb_eq0.mp h11))), rfl, MI_md h⟩⟩
        | exact ⟨FM_md, Or.inr ⟨(fun hP => of_decide_eq_false (zb_eq0.mp h22) (by have q1 := hP.2; rw [ikm_8, ik_8]; omega)), rfl, MI_md h⟩⟩
    · refine R_iload_n (q := 15) rfl rfl rfl ?_
      refine R_bipush (q := 17) (v := (-8)) rfl rfl (by decide) ?_
      refine R_bipush (q := 19) (v := nI 8) rfl rfl (by decide) ?_
      refine R_calls3 (q := 22) rfl rfl rfl rfl (Nat.le_of_ble_eq_true rfl) rfl ?_
      refine R_mono (m147) (fun v19 M19 hr19 => ?_)
      obtain ⟨rfl, hm19⟩ := hr19
      rw [hm19]
      dsimp only [Option.toList, List.cons_append, List.nil_append]
      refine R_if_ne (q := 25) (t := 27) rfl rfl rfl (fun h22 => ?_) (fun h22 => ?_)
      · have hP : (shp t ∧ shp a) ∧ upt r 8 := by
          have g := of_decide_eq_true (zb_ne0.mp h22)
          rw [ikm_8, ik_8] at g
          exact ⟨⟨of_decide_eq_true (zb_ne0.mp h4), of_decide_eq_true (zb_ne0.mp h11)⟩, g⟩
        obtain ⟨k, hk, rfl⟩ := i_ix (a := t) 6 (by decide) hP.1.1.1 hP.1.1.2
        obtain ⟨k2, hk2, rfl⟩ := i_ix (a := a) 6 (by decide) hP.1.2.1 hP.1.2.2
        rw [show sn (nI k) = k from cl_nI (by omega), show sn (nI k2) = k2 from cl_nI (by omega)]
        have h37 : ∀ far : Nat, far ≤ 8 → (0 ≤ r → r = nI far) → (¬ 0 ≤ r → -r = nI far) → mm_R S (d + 2) 158 37 [some (.ref 73), some (.int (nI k)), some (.int (nI k2)), some (.int r), none, none, none, none, none, none, none] [.int (nI far)] (mdm M A I) (fun v M' => FM (mdm M A I) M' ∧ YN v ((shp (nI k) ∧ shp (nI k2)) ∧ upt r 8) (MI M' (ups sh k (szf r (ifl (sh k2) (sh k) 16))) o l pi fa tp) (MI M' sh o l pi fa tp)) := by
          intro far hf c0 c1
          refine R_istore (q := 39) rfl rfl (Nat.le_of_ble_eq_true rfl) rfl ?_
          dsimp only [List.set]
          refine R_iconst (q := 40) (v := nI 0) rfl rfl (by decide) ?_
          refine R_istore (q := 42) rfl rfl (Nat.le_of_ble_eq_true rfl) rfl ?_
          dsimp only [List.set]
          have h0 := hl1 k k2 far r none hk hk2 hf 256 0 none none none none none (by omega)
          rw [ifl_0, upa_s] at h0
          refine R_mono h0 (fun v M' hr => ?_)
          obtain ⟨rfl, rfl⟩ := hr
          refine ⟨FM_md, Or.inl ⟨hP, rfl, MI_md ⟨?_, r2, r3, r4, r5, r6, r7, r8⟩⟩⟩
          refine CR_loop (A := upa A 75 (ifl (fun k => zb (szW (sh k2) r far k)) (A 75) 256)) r1 hk (fun y x hy hx => ?_)
          dsimp only
          rw [szW_eq (f' := ifl (sh k2) (sh k) 16) (hV.1 k2 hk2) (fun y hy => ifl_lt hy) (by omega) hf c0 c1, show (256 * k + 16 * y + x - 256 * k) / 16 = y by omega, show (256 * k + 16 * y + x - 256 * k) % 16 = x by omega]
        refine R_iload_n (q := 28) rfl rfl rfl ?_
        refine R_if_ge (q := 31) (t := 36) rfl rfl rfl (fun h28 => ?_) (fun h28 => ?_)
        · refine R_iload_n (q := 37) rfl rfl rfl ?_
          first
            | (obtain ⟨far, hfar, hre⟩ := i_ix (a := r) 9 (by decide) (by rw [i_le, i_0] at h28; exact h28) (by have := hP.2.2; omega)
               have h37' := h37 far (by omega) (fun _ => hre) (fun q => absurd h28 q)
               rw [← hre] at h37'
               exact h37')
            | (have hneg : (-r).toInt = -r.toInt := i_neg (by have := hP.2.1; omega)
               obtain ⟨far, hfar, hre⟩ := i_ix (a := -r) 9 (by decide) (by rw [i_le, i_0] at h28; omega) (by have := hP.2.1; omega)
               have h37' := h37 far (by omega) (fun q => absurd q h28) (fun _ => hre)
               rw [← hre] at h37'
               exact h37')
        · refine R_iload_n (q := 32) rfl rfl rfl ?_
          refine R_ineg (q := 33) rfl rfl ?_
          refine R_goto (t := 37) rfl rfl ?_
          first
            | (obtain ⟨far, hfar, hre⟩ := i_ix (a := r) 9 (by decide) (by rw [i_le, i_0] at h28; exact h28) (by have := hP.2.2; omega)
               have h37' := h37 far (by omega) (fun _ => hre) (fun q => absurd h28 q)
               rw [← hre] at h37'
               exact h37')
            | (have hneg : (-r).toInt = -r.toInt := i_neg (by have := hP.2.1; omega)
               obtain ⟨far, hfar, hre⟩ := i_ix (a := -r) 9 (by decide) (by rw [i_le, i_0] at h28; omega) (by have := hP.2.1; omega)
               have h37' := h37 far (by omega) (fun q => absurd q h28) (fun _ => hre)
               rw [← hre] at h37'
               exact h37')
      · refine R_iconst (q := 26) (v := nI 0) rfl rfl (by decide) ?_
        refine R_zreturn rfl rfl (by first | exact Or.inl rfl | exact Or.inr rfl | assumption) ?_
        first
          | exact ⟨FM_md, Or.inr ⟨(fun hP => absurd hP.1.1 (of_decide_eq_false (zb_eq0.mp h4))), rfl, MI_md h⟩⟩
          | exact ⟨FM_md, Or.inr ⟨(fun hP => absurd hP.1.2 (of_decide_eq_false (zb_eq0.mp h11))), rfl, MI_md h⟩⟩
          | exact ⟨FM_md, Or.inr ⟨(fun hP => of_decide_eq_false (zb_eq0.mp h22) (by have q1 := hP.2; rw [ikm_8, ik_8]; omega)), rfl, MI_md h⟩⟩
end P48
