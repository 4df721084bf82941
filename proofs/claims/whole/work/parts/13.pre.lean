/-! ===== Int32 by its bits: bt x i ===== -/
def bt (x : Int32) (i : Nat) : Bool := x.toBitVec.getLsbD i
theorem b_ext {x y : Int32} (h : ∀ i, i < 32 → bt x i = bt y i) : x = y := Int32.toBitVec_inj.mp (BitVec.eq_of_getLsbD_eq (fun i hi => h i hi))
theorem b_or (x y : Int32) (i : Nat) : bt (x ||| y) i = (bt x i || bt y i) := by unfold bt; rw [Int32.toBitVec_or, BitVec.getLsbD_or]
theorem b_and (x y : Int32) (i : Nat) : bt (x &&& y) i = (bt x i && bt y i) := by unfold bt; rw [Int32.toBitVec_and, BitVec.getLsbD_and]
theorem b_xor (x y : Int32) (i : Nat) : bt (x ^^^ y) i = (bt x i ^^ bt y i) := by unfold bt; rw [Int32.toBitVec_xor, BitVec.getLsbD_xor]
theorem b_big {x : Int32} {i : Nat} (h : 32 ≤ i) : bt x i = false := BitVec.getLsbD_of_ge _ _ h
theorem b_255 (i : Nat) : bt 255 i = decide (i < 8) := by
  rcases Nat.lt_or_ge i 32 with h | h
  · exact (by decide +kernel : ∀ i, i < 32 → bt 255 i = decide (i < 8)) i h
  · rw [b_big h, decide_eq_false (by omega)]
theorem b_65535 (i : Nat) : bt 65535 i = decide (i < 16) := by
  rcases Nat.lt_or_ge i 32 with h | h
  · exact (by decide +kernel : ∀ i, i < 32 → bt 65535 i = decide (i < 16)) i h
  · rw [b_big h, decide_eq_false (by omega)]
theorem b_m1 : ∀ i, i < 32 → bt (-1) i = true := by decide +kernel
theorem b_0 (i : Nat) : bt 0 i = false := BitVec.getLsbD_zero
theorem s_l : ∀ n, n < 32 → ((nI n &&& 31).toBitVec.smod 32).toNat = n := by decide +kernel
theorem s_u : ∀ n, n < 32 → (((nI n).toUInt32 &&& Int32.toUInt32 31).toBitVec % 32).toNat = n := by decide +kernel
theorem b_shl (n : Nat) (hn : n < 32) (x : Int32) {i : Nat} (hi : i < 32) : bt (x <<< (nI n &&& 31)) i = (decide (n ≤ i) && bt x (i - n)) := by
  unfold bt
  rw [Int32.toBitVec_shiftLeft]
  show (x.toBitVec <<< ((nI n &&& 31).toBitVec.smod 32).toNat).getLsbD i = _
  rw [s_l n hn, BitVec.getLsbD_shiftLeft]
  rcases Nat.lt_or_ge i n with h | h
  · simp [h, Nat.not_le.mpr h]
  · simp [hi, h, Nat.not_lt.mpr h]
theorem b_ushr (n : Nat) (hn : n < 32) (x : Int32) (i : Nat) : bt ((x.toUInt32 >>> ((nI n).toUInt32 &&& Int32.toUInt32 31)).toInt32) i = bt x (n + i) := by
  show (x.toUInt32 >>> ((nI n).toUInt32 &&& Int32.toUInt32 31)).toBitVec.getLsbD i = x.toUInt32.toBitVec.getLsbD (n + i)
  rw [UInt32.toBitVec_shiftRight]
  show (x.toUInt32.toBitVec >>> (((nI n).toUInt32 &&& Int32.toUInt32 31).toBitVec % 32).toNat).getLsbD i = _
  rw [s_u n hn, BitVec.getLsbD_ushiftRight]
theorem b_sshr (n : Nat) (hn : n < 32) (x : Int32) {i : Nat} (hi : i < 32) : bt (x >>> (nI n &&& 31)) i = if n + i < 32 then bt x (n + i) else bt x 31 := by
  unfold bt
  rw [Int32.toBitVec_shiftRight]
  show (x.toBitVec.sshiftRight ((nI n &&& 31).toBitVec.smod 32).toNat).getLsbD i = _
  rw [s_l n hn, BitVec.getLsbD_sshiftRight, BitVec.msb_eq_getLsbD_last]
  simp [hi]
theorem b_shl8 (x : Int32) {i : Nat} (hi : i < 32) : bt (x <<< ((8 : Int32) &&& 31)) i = (decide (8 ≤ i) && bt x (i - 8)) := b_shl 8 (by omega) x hi
theorem b_shl16 (x : Int32) {i : Nat} (hi : i < 32) : bt (x <<< ((16 : Int32) &&& 31)) i = (decide (16 ≤ i) && bt x (i - 16)) := b_shl 16 (by omega) x hi
theorem b_shl24 (x : Int32) {i : Nat} (hi : i < 32) : bt (x <<< ((24 : Int32) &&& 31)) i = (decide (24 ≤ i) && bt x (i - 24)) := b_shl 24 (by omega) x hi
theorem b_sshr8 (x : Int32) {i : Nat} (hi : i < 32) : bt (x >>> ((8 : Int32) &&& 31)) i = if 8 + i < 32 then bt x (8 + i) else bt x 31 := b_sshr 8 (by omega) x hi
/-! ===== small words for the walks ===== -/
def zb (b : Bool) : Int32 := if b then nI 1 else nI 0
theorem zb_t {p : Prop} {D : Decidable p} (h : p) : zb (@decide p D) = nI 1 := by unfold zb; rw [decide_eq_true h]; rfl
theorem zb_f {p : Prop} {D : Decidable p} (h : ¬ p) : zb (@decide p D) = nI 0 := by unfold zb; rw [decide_eq_false h]; rfl
theorem zb_01 (b : Bool) : zb b = 0 ∨ zb b = 1 := by cases b; exact Or.inl rfl; exact Or.inr rfl
theorem zb_eq0 {b : Bool} : zb b = 0 ↔ b = false := by cases b <;> decide
theorem zb_ne0 {b : Bool} : ¬ zb b = 0 ↔ b = true := by cases b <;> decide
theorem mm_pe {M : mm_M} {a : Nat} {c : mm_E} : (mm_put M a c).1 a = some c := if_pos rfl
theorem mm_pn {M : mm_M} {a b : Nat} {c : mm_E} (h : b ≠ a) : (mm_put M a c).1 b = M.1 b := if_neg h
theorem mm_p2 {M : mm_M} {a : Nat} {c : mm_E} : (mm_put M a c).2 = M.2 := rfl
theorem mm_pp {M : mm_M} {a : Nat} {c c' : mm_E} : mm_put (mm_put M a c) a c' = mm_put M a c' := by
  unfold mm_put mm_u
  congr 1
  funext k
  by_cases h : k = a
  · simp [h]
  · simp [h]
theorem mm_pself {M : mm_M} {a : Nat} {c : mm_E} (h : M.1 a = some c) : mm_put M a c = M := by
  unfold mm_put mm_u
  obtain ⟨f, n⟩ := M
  congr 1
  funext k
  by_cases e : k = a
  · rw [if_pos e, e]; exact h.symm
  · rw [if_neg e]
theorem mm_pcomm {M : mm_M} {a b : Nat} {c c' : mm_E} (h : a ≠ b) : mm_put (mm_put M a c) b c' = mm_put (mm_put M b c') a c := by
  unfold mm_put mm_u
  congr 1
  funext k
  by_cases e : k = a
  · by_cases e2 : k = b
    · exact absurd (e.symm.trans e2) h
    · simp [e, h]
  · by_cases e2 : k = b
    · have h' : ¬ b = a := fun q => h q.symm
      simp [e2, h']
    · simp [e, e2]
def ifl (n f : Nat → Int32) (j : Nat) : Nat → Int32 := fun i => if i < j then n i else f i
theorem ifl_0 {n f : Nat → Int32} : ifl n f 0 = f := by funext i; exact if_neg (Nat.not_lt_zero i)
theorem ifl_lt {n f : Nat → Int32} {i j : Nat} (h : i < j) : ifl n f j i = n i := if_pos h
theorem ifl_ge {n f : Nat → Int32} {i j : Nat} (h : j ≤ i) : ifl n f j i = f i := if_neg (Nat.not_lt.mpr h)
theorem ifl_s {n f : Nat → Int32} {j : Nat} : upd (ifl n f j) j (n j) = ifl n f (j + 1) := by
  funext i
  unfold upd ifl
  by_cases h : i = j
  · subst h; simp
  · rw [if_neg h]
    by_cases h2 : i < j
    · rw [if_pos h2, if_pos (by omega)]
    · rw [if_neg h2, if_neg (by omega)]
theorem lpN (W : Nat → Prop) (e : Nat) (hs : ∀ j, j < e → W (j + 1) → W j) (he : W e) : ∀ j, j ≤ e → W j := by
  intro j hj
  obtain ⟨k, rfl⟩ : ∃ k, e = j + k := ⟨e - j, by omega⟩
  clear hj
  induction k generalizing j with
  | zero => exact he
  | succ k ih => exact hs j (by omega) (ih (j + 1) (by rw [show j + 1 + k = j + (k + 1) by omega]; exact hs) (by rw [show j + 1 + k = j + (k + 1) by omega]; exact he))
theorem nI_i1 (a : Nat) : nI a + Int32.ofInt 1 = nI (a + 1) := nI_1 a
theorem R_atM {S : mm_S} {d mi pc : Nat} {L : mm_L} {st : List Value} {M M' : mm_M} {P : Option Value → mm_M → Prop} (hM : M' = M) (h : mm_R S d mi pc L st M' P) : mm_R S d mi pc L st M P := by
  subst hM; exact h
theorem i_add {a b : Int32} (h : -2147483648 ≤ a.toInt + b.toInt ∧ a.toInt + b.toInt < 2147483648) : (a + b).toInt = a.toInt + b.toInt := by
  rw [Int32.toInt_add]
  exact Int.bmod_eq_of_le (by omega) (by omega)
theorem i_sub {a b : Int32} (h : -2147483648 ≤ a.toInt - b.toInt ∧ a.toInt - b.toInt < 2147483648) : (a - b).toInt = a.toInt - b.toInt := by
  rw [Int32.toInt_sub]
  exact Int.bmod_eq_of_le (by omega) (by omega)
theorem i_mul {a b : Int32} (h : -2147483648 ≤ a.toInt * b.toInt ∧ a.toInt * b.toInt < 2147483648) : (a * b).toInt = a.toInt * b.toInt := by
  rw [Int32.toInt_mul]
  exact Int.bmod_eq_of_le (by omega) (by omega)
theorem i_neg {a : Int32} (h : -2147483648 < a.toInt) : (-a).toInt = -a.toInt := by
  have h2 := Int32.toInt_lt a
  rw [Int32.toInt_neg]
  exact Int.bmod_eq_of_le (by omega) (by omega)
theorem i_lo (a : Int32) : -2147483648 ≤ a.toInt := Int32.le_toInt a
theorem i_hi (a : Int32) : a.toInt < 2147483648 := Int32.toInt_lt a
theorem i_nat {a : Int32} {n : Nat} (h : a.toInt = n) : a = nI n := by
  have h2 := i_hi a
  exact Int32.toInt_inj.mp (by rw [nI_toInt (by omega)]; exact h)
theorem i_ix {a : Int32} (n : Nat) (hn : n < 2147483648) (h0 : 0 ≤ a.toInt) (h1 : a.toInt < n) : ∃ j : Nat, j < n ∧ a = nI j := ⟨a.toInt.toNat, by omega, i_nat (by omega)⟩
theorem i_le (a b : Int32) : a ≤ b ↔ a.toInt ≤ b.toInt := Int32.le_iff_toInt_le
theorem i_lt (a b : Int32) : a < b ↔ a.toInt < b.toInt := Int32.lt_iff_toInt_lt
theorem i_eq (a b : Int32) : a = b ↔ a.toInt = b.toInt := Int32.toInt_inj.symm
theorem i_0 : (0 : Int32).toInt = 0 := rfl
theorem i_n (n : Nat) (h : n < 2147483648) : (nI n).toInt = n := nI_toInt h
theorem i_1 : (nI 1).toInt = 1 := rfl
theorem i_16 : (nI 16).toInt = 16 := rfl
theorem in_nI {j n : Nat} (h : j < n) (hn : n < 2147483648) : vp_in (nI j) n := vp_in_nI h hn
theorem cl_nI {j : Nat} (h : j < 2147483648) : (nI j).toNatClampNeg = j := nI_clamp h
theorem ik_0 : (nI 0).toInt = 0 := rfl
theorem ik_1 : (nI 1).toInt = 1 := rfl
theorem ik_2 : (nI 2).toInt = 2 := rfl
theorem ik_3 : (nI 3).toInt = 3 := rfl
theorem ik_4 : (nI 4).toInt = 4 := rfl
theorem ik_5 : (nI 5).toInt = 5 := rfl
theorem ik_6 : (nI 6).toInt = 6 := rfl
theorem ik_7 : (nI 7).toInt = 7 := rfl
theorem ik_8 : (nI 8).toInt = 8 := rfl
theorem ik_9 : (nI 9).toInt = 9 := rfl
theorem ik_10 : (nI 10).toInt = 10 := rfl
theorem ik_11 : (nI 11).toInt = 11 := rfl
theorem ik_12 : (nI 12).toInt = 12 := rfl
theorem ik_13 : (nI 13).toInt = 13 := rfl
theorem ik_14 : (nI 14).toInt = 14 := rfl
theorem ik_15 : (nI 15).toInt = 15 := rfl
theorem ik_16 : (nI 16).toInt = 16 := rfl
theorem ik_17 : (nI 17).toInt = 17 := rfl
theorem ik_18 : (nI 18).toInt = 18 := rfl
theorem ik_19 : (nI 19).toInt = 19 := rfl
theorem ik_20 : (nI 20).toInt = 20 := rfl
theorem ik_21 : (nI 21).toInt = 21 := rfl
theorem ik_22 : (nI 22).toInt = 22 := rfl
theorem ik_23 : (nI 23).toInt = 23 := rfl
theorem ik_24 : (nI 24).toInt = 24 := rfl
theorem ik_25 : (nI 25).toInt = 25 := rfl
theorem ik_26 : (nI 26).toInt = 26 := rfl
theorem ik_27 : (nI 27).toInt = 27 := rfl
theorem ik_28 : (nI 28).toInt = 28 := rfl
theorem ik_29 : (nI 29).toInt = 29 := rfl
theorem ik_30 : (nI 30).toInt = 30 := rfl
theorem ik_31 : (nI 31).toInt = 31 := rfl
theorem ik_32 : (nI 32).toInt = 32 := rfl
theorem ik_33 : (nI 33).toInt = 33 := rfl
theorem ik_34 : (nI 34).toInt = 34 := rfl
theorem ik_35 : (nI 35).toInt = 35 := rfl
theorem ik_36 : (nI 36).toInt = 36 := rfl
theorem ik_127 : (nI 127).toInt = 127 := rfl
theorem ik_128 : (nI 128).toInt = 128 := rfl
theorem ik_200 : (nI 200).toInt = 200 := rfl
theorem ik_201 : (nI 201).toInt = 201 := rfl
theorem ik_255 : (nI 255).toInt = 255 := rfl
theorem ik_256 : (nI 256).toInt = 256 := rfl
theorem ik_272 : (nI 272).toInt = 272 := rfl
theorem ik_289 : (nI 289).toInt = 289 := rfl
theorem ik_400 : (nI 400).toInt = 400 := rfl
theorem ik_512 : (nI 512).toInt = 512 := rfl
