/-! ===== counting bits ===== -/
def bcN (n : Nat) : Nat :=
  let a := n - ((n >>> 1) &&& 1431655765)
  let b := (a &&& 858993459) + ((a >>> 2) &&& 858993459)
  let c := (b + (b >>> 4)) &&& 252645135
  let e := c + (c >>> 8)
  let h := e + (e >>> 16)
  h &&& 63
def pc16 (n : Nat) : Nat := n % 2 + (n / 2 % 2 + (n / 4 % 2 + (n / 8 % 2 + (n / 16 % 2 + (n / 32 % 2 + (n / 64 % 2 + (n / 128 % 2 + (n / 256 % 2 + (n / 512 % 2 + (n / 1024 % 2 + (n / 2048 % 2 + (n / 4096 % 2 + (n / 8192 % 2 + (n / 16384 % 2 + (n / 32768 % 2 + 0)))))))))))))))
theorem bcN_q0 : ∀ a, a < 16 → ∀ b, b < 256 → bcN (256 * (16 * 0 + a) + b) = pc16 (256 * (16 * 0 + a) + b) := by decide +kernel
theorem bcN_q1 : ∀ a, a < 16 → ∀ b, b < 256 → bcN (256 * (16 * 1 + a) + b) = pc16 (256 * (16 * 1 + a) + b) := by decide +kernel
theorem bcN_q2 : ∀ a, a < 16 → ∀ b, b < 256 → bcN (256 * (16 * 2 + a) + b) = pc16 (256 * (16 * 2 + a) + b) := by decide +kernel
theorem bcN_q3 : ∀ a, a < 16 → ∀ b, b < 256 → bcN (256 * (16 * 3 + a) + b) = pc16 (256 * (16 * 3 + a) + b) := by decide +kernel
theorem bcN_q4 : ∀ a, a < 16 → ∀ b, b < 256 → bcN (256 * (16 * 4 + a) + b) = pc16 (256 * (16 * 4 + a) + b) := by decide +kernel
theorem bcN_q5 : ∀ a, a < 16 → ∀ b, b < 256 → bcN (256 * (16 * 5 + a) + b) = pc16 (256 * (16 * 5 + a) + b) := by decide +kernel
theorem bcN_q6 : ∀ a, a < 16 → ∀ b, b < 256 → bcN (256 * (16 * 6 + a) + b) = pc16 (256 * (16 * 6 + a) + b) := by decide +kernel
theorem bcN_q7 : ∀ a, a < 16 → ∀ b, b < 256 → bcN (256 * (16 * 7 + a) + b) = pc16 (256 * (16 * 7 + a) + b) := by decide +kernel
theorem bcN_q8 : ∀ a, a < 16 → ∀ b, b < 256 → bcN (256 * (16 * 8 + a) + b) = pc16 (256 * (16 * 8 + a) + b) := by decide +kernel
theorem bcN_q9 : ∀ a, a < 16 → ∀ b, b < 256 → bcN (256 * (16 * 9 + a) + b) = pc16 (256 * (16 * 9 + a) + b) := by decide +kernel
theorem bcN_q10 : ∀ a, a < 16 → ∀ b, b < 256 → bcN (256 * (16 * 10 + a) + b) = pc16 (256 * (16 * 10 + a) + b) := by decide +kernel
theorem bcN_q11 : ∀ a, a < 16 → ∀ b, b < 256 → bcN (256 * (16 * 11 + a) + b) = pc16 (256 * (16 * 11 + a) + b) := by decide +kernel
theorem bcN_q12 : ∀ a, a < 16 → ∀ b, b < 256 → bcN (256 * (16 * 12 + a) + b) = pc16 (256 * (16 * 12 + a) + b) := by decide +kernel
theorem bcN_q13 : ∀ a, a < 16 → ∀ b, b < 256 → bcN (256 * (16 * 13 + a) + b) = pc16 (256 * (16 * 13 + a) + b) := by decide +kernel
theorem bcN_q14 : ∀ a, a < 16 → ∀ b, b < 256 → bcN (256 * (16 * 14 + a) + b) = pc16 (256 * (16 * 14 + a) + b) := by decide +kernel
theorem bcN_q15 : ∀ a, a < 16 → ∀ b, b < 256 → bcN (256 * (16 * 15 + a) + b) = pc16 (256 * (16 * 15 + a) + b) := by decide +kernel
theorem bcN_q : ∀ q, q < 16 → ∀ a, a < 16 → ∀ b, b < 256 → bcN (256 * (16 * q + a) + b) = pc16 (256 * (16 * q + a) + b)
  | 0, _ => bcN_q0
  | 1, _ => bcN_q1
  | 2, _ => bcN_q2
  | 3, _ => bcN_q3
  | 4, _ => bcN_q4
  | 5, _ => bcN_q5
  | 6, _ => bcN_q6
  | 7, _ => bcN_q7
  | 8, _ => bcN_q8
  | 9, _ => bcN_q9
  | 10, _ => bcN_q10
  | 11, _ => bcN_q11
  | 12, _ => bcN_q12
  | 13, _ => bcN_q13
  | 14, _ => bcN_q14
  | 15, _ => bcN_q15
  | n + 16, h => absurd h (by omega)
theorem bcN_pc0 : ∀ a, a < 256 → ∀ b, b < 256 → bcN (256 * a + b) = pc16 (256 * a + b) := by
  intro a ha b hb
  have := bcN_q (a / 16) (by omega) (a % 16) (by omega) b hb
  rw [show 16 * (a / 16) + a % 16 = a by omega] at this
  exact this
theorem bcN_pc {n : Nat} (h : n < 65536) : bcN n = pc16 n := by
  have := bcN_pc0 (n / 256) (by omega) (n % 256) (by omega)
  rw [show 256 * (n / 256) + n % 256 = n by omega] at this
  exact this
theorem bt_nI {n i : Nat} (hi : i < 32) : bt (nI n) i = n.testBit i := by
  show (Int32.ofNat n).toBitVec.getLsbD i = _
  rw [show (Int32.ofNat n).toBitVec = BitVec.ofNat 32 n from rfl, BitVec.getLsbD_ofNat, decide_eq_true hi, Bool.true_and]
theorem u_shr {n k : Nat} (hn : n < 2147483648) (hk : k < 32) : ((nI n).toUInt32 >>> ((nI k).toUInt32 &&& Int32.toUInt32 31)).toInt32 = nI (n >>> k) := by
  apply b_ext
  intro i hi
  rw [b_ushr k hk, bt_nI hi, Nat.testBit_shiftRight]
  by_cases h : k + i < 32
  · rw [bt_nI h]
  · rw [b_big (by omega)]
    refine (Nat.testBit_lt_two_pow ?_).symm
    exact Nat.lt_of_lt_of_le hn (Nat.pow_le_pow_right (show 0 < 2 by decide) (show 31 ≤ k + i by omega))
theorem n_and {a b : Nat} : nI a &&& nI b = nI (a &&& b) := by
  apply b_ext
  intro i hi
  rw [b_and, bt_nI hi, bt_nI hi, bt_nI hi, Nat.testBit_and]
theorem n_sub {a b : Nat} (ha : a < 2147483648) (h : b ≤ a) : nI a - nI b = nI (a - b) := by
  rw [i_eq, i_sub (by rw [i_n _ (by omega), i_n _ (by omega)]; omega), i_n _ (by omega), i_n _ (by omega), i_n _ (by omega)]
  omega
theorem shr_le (a k : Nat) : a >>> k ≤ a := by rw [Nat.shiftRight_eq_div_pow]; exact Nat.div_le_self _ _
theorem bcn_N {n : Nat} (h : n < 65536) : bcn (nI n) = nI (bcN n) := by
  unfold bcn bcN
  dsimp only
  have h1 : (n >>> 1) &&& 1431655765 ≤ n := Nat.le_trans Nat.and_le_left (shr_le _ _)
  rw [show (1431655765 : Int32) = nI 1431655765 from rfl, show (858993459 : Int32) = nI 858993459 from rfl, show (252645135 : Int32) = nI 252645135 from rfl]
  rw [u_shr (by omega) (by decide), n_and, n_sub (by omega) h1]
  generalize ha : n - (n >>> 1 &&& 1431655765) = a
  have ha6 : a < 65536 := by omega
  rw [u_shr (by omega) (by decide), n_and, n_and, nI_add]
  generalize hb' : (a &&& 858993459) + (a >>> 2 &&& 858993459) = b
  have hb6 : b < 131072 := by
    have h2 : a &&& 858993459 ≤ a := Nat.and_le_left
    have h3 : a >>> 2 &&& 858993459 ≤ a := Nat.le_trans Nat.and_le_left (shr_le _ _)
    omega
  rw [u_shr (by omega) (by decide), nI_add, n_and]
  generalize hc : b + b >>> 4 &&& 252645135 = c
  have hc6 : c < 262144 := by
    have h2 : b + b >>> 4 &&& 252645135 ≤ b + b >>> 4 := Nat.and_le_left
    have h3 := shr_le b 4
    omega
  rw [u_shr (by omega) (by decide), nI_add]
  have h4 := shr_le c 8
  rw [u_shr (by omega) (by decide), nI_add, n_and]
theorem hb_nI {v : Int32} (h : hb v) : ∃ n, n < 65536 ∧ v = nI n := by
  refine ⟨v.toBitVec.toNat, ?_, ?_⟩
  · exact Nat.lt_pow_two_of_testBit (n := 16) _ (fun i hi => h i hi)
  · apply b_ext
    intro i hi
    rw [bt_nI hi]
    rfl
theorem if_tb (n i : Nat) : (if n.testBit i = true then 1 else 0) = n / 2 ^ i % 2 := by
  rw [Nat.testBit_eq_decide_div_mod_eq]
  by_cases h : n / 2 ^ i % 2 = 1
  · rw [if_pos (decide_eq_true h), h]
  · rw [if_neg (fun q => h (of_decide_eq_true q))]; omega
theorem bcn_c {v : Int32} (h : hb v) : bcn v = nI (cnr (bt v) 16 0) := by
  obtain ⟨n, hn, rfl⟩ := hb_nI h
  rw [bcn_N hn, bcN_pc hn]
  have e : cnr (bt (nI n)) 16 0 = cnr (fun i => n.testBit i) 16 0 := cnr_cg 16 0 (fun k _ hk => bt_nI (by omega))
  rw [e]
  congr 1
  show pc16 n = (if n.testBit 0 = true then 1 else 0) + ((if n.testBit 1 = true then 1 else 0) + ((if n.testBit 2 = true then 1 else 0) + ((if n.testBit 3 = true then 1 else 0) + ((if n.testBit 4 = true then 1 else 0) + ((if n.testBit 5 = true then 1 else 0) + ((if n.testBit 6 = true then 1 else 0) + ((if n.testBit 7 = true then 1 else 0) + ((if n.testBit 8 = true then 1 else 0) + ((if n.testBit 9 = true then 1 else 0) + ((if n.testBit 10 = true then 1 else 0) + ((if n.testBit 11 = true then 1 else 0) + ((if n.testBit 12 = true then 1 else 0) + ((if n.testBit 13 = true then 1 else 0) + ((if n.testBit 14 = true then 1 else 0) + ((if n.testBit 15 = true then 1 else 0) + 0)))))))))))))))
  simp only [if_tb]
  unfold pc16
  rw [show 2 ^ 0 = 1 from rfl, Nat.div_one]
def sumr (g : Nat → Nat) : Nat → Nat → Nat
  | 0, _ => 0
  | j + 1, y => g y + sumr g j (y + 1)
theorem cnr_app {a : Nat → Bool} : ∀ j k i, cnr a (j + k) i = cnr a j i + cnr a k (i + j) := by
  intro j
  induction j with
  | zero => intro k i; rw [Nat.zero_add]; show _ = 0 + _; rw [Nat.zero_add]; rfl
  | succ j ih =>
    intro k i
    rw [show j + 1 + k = (j + k) + 1 by omega]
    show (if a i = true then 1 else 0) + cnr a (j + k) (i + 1) = (if a i = true then 1 else 0) + cnr a j (i + 1) + cnr a k (i + (j + 1))
    rw [ih, show i + 1 + j = i + (j + 1) by omega]
    omega
theorem cnr_sh {a c : Nat → Bool} {s t : Nat} : ∀ j i, (∀ k, k < j → a (s + i + k) = c (t + i + k)) → cnr a j (s + i) = cnr c j (t + i) := by
  intro j
  induction j with
  | zero => intro i _; rfl
  | succ j ih =>
    intro i h
    have h0 := h 0 (by omega)
    have h1 := ih (i + 1) (fun k hk => by have := h (k + 1) (by omega); rw [show s + (i + 1) + k = s + i + (k + 1) by omega, show t + (i + 1) + k = t + i + (k + 1) by omega]; exact this)
    show (if a (s + i) = true then 1 else 0) + cnr a j (s + i + 1) = (if c (t + i) = true then 1 else 0) + cnr c j (t + i + 1)
    rw [show a (s + i) = c (t + i) from h0, show s + i + 1 = s + (i + 1) by omega, show t + i + 1 = t + (i + 1) by omega, h1]
theorem cnr_fl {P : Nat → Nat → Bool} {W : Nat} (hW : 0 < W) : ∀ j y, cnr (fun k => P (k % W) (k / W)) (W * j) (W * y) = sumr (fun y => cnr (fun x => P x y) W 0) j y := by
  intro j
  induction j with
  | zero => intro y; rfl
  | succ j ih =>
    intro y
    rw [show W * (j + 1) = W + W * j by rw [Nat.mul_add, Nat.mul_one, Nat.add_comm], cnr_app, show W * y + W = W * (y + 1) by rw [Nat.mul_add, Nat.mul_one], ih (y + 1)]
    show _ = cnr (fun x => P x y) W 0 + sumr _ j (y + 1)
    congr 1
    have := cnr_sh (a := fun k => P (k % W) (k / W)) (c := fun x => P x y) (s := W * y) (t := 0) W 0 (fun k hk => by
      show P ((W * y + 0 + k) % W) ((W * y + 0 + k) / W) = P (0 + 0 + k) y
      rw [show W * y + 0 + k = k + W * y by omega, show 0 + 0 + k = k by omega, Nat.add_mul_mod_self_left, Nat.mod_eq_of_lt hk, Nat.add_mul_div_left _ _ hW, Nat.div_eq_of_lt hk, Nat.zero_add])
    exact this
theorem cntv_c {f : Nat → Int32} : ∀ n, (∀ y, y < n → hb (f y)) → cntv f n = nI (sumr (fun y => cnr (bt (f y)) 16 0) n 0) := by
  have hsn : ∀ (g : Nat → Nat) n y, sumr g (n + 1) y = sumr g n y + g (y + n) := by
    intro g n
    induction n with
    | zero => intro y; show g y + 0 = 0 + g (y + 0); rw [Nat.add_zero, Nat.zero_add, Nat.add_zero]
    | succ n ih =>
      intro y
      show g y + sumr g (n + 1) (y + 1) = g y + sumr g n (y + 1) + g (y + (n + 1))
      rw [ih (y + 1), show y + 1 + n = y + (n + 1) by omega]
      omega
  intro n
  induction n with
  | zero => intro _; rfl
  | succ n ih =>
    intro h
    show cntv f n + bcn (f n) = _
    rw [ih (fun y hy => h y (by omega)), bcn_c (h n (by omega)), nI_add, hsn, Nat.zero_add]
theorem cells_c {f : Nat → Int32} (h : ∀ y, y < 16 → hb (f y)) : cntv f 16 = nI (cnr (bx f) 256 0) := by
  rw [cntv_c 16 h]
  have h0 := cnr_fl (P := fun x y => bt (f y) x) (W := 16) (by decide) 16 0
  have h1 : (fun k => (fun x y => bt (f y) x) (k % 16) (k / 16)) = bx f := rfl
  rw [Nat.mul_zero, show 16 * 16 = 256 from rfl, h1] at h0
  rw [h0]
