/-! ===== the reference's own calls, X: layOut ===== -/
def TT (l : LYS) (i : Nat) : Nat := totL l.1 l.2.1 l.2.2.2.1 6 i
abbrev EN : Type := Nat × Nat × Int32 × Int32
def RR (l : LYS) (e : EN) : List R4 := rects l.1 l.2.1 l.2.2.1 l.2.2.2.1 6 e.1 e.2.1 e.2.2.1 e.2.2.2
def enc (td : Nat → Int32) (i : Nat) (e : EN) : Prop := (td (7 * i) = nI e.1 ∧ td (7 * i + 1) = trn (4 * e.2.1) ∧ td (7 * i + 2) = trn (4 * e.2.1 + 1) ∧ td (7 * i + 3) = trn (4 * e.2.1 + 2)) ∧ td (7 * i + 4) = trn (4 * e.2.1 + 3) ∧ td (7 * i + 5) = e.2.2.1 ∧ td (7 * i + 6) = e.2.2.2
def bdd (p : Nat) (x : Int32) : Prop := -(32 + 64 * (6 - (p : Int))) ≤ x.toInt ∧ x.toInt ≤ 32 + 64 * (6 - (p : Int))
def EOK (l : LYS) (e : EN) : Prop := (e.1 < 6 ∧ e.2.1 < 8) ∧ (bdd e.1 e.2.2.1 ∧ bdd e.1 e.2.2.2) ∧ 1 ≤ TT l e.1
theorem enc_cg {td td' : Nat → Int32} {i n : Nat} {e : EN} (h : enc td i e) (hc : ∀ j, j < 7 * n → td' j = td j) (hi : i < n) : enc td' i e := by
  unfold enc at *
  rw [hc _ (by omega), hc _ (by omega), hc _ (by omega), hc _ (by omega), hc _ (by omega), hc _ (by omega), hc _ (by omega)]
  exact h
def rec4 (f : Nat → Int32) (i : Nat) : R4 := (f (4 * i), f (4 * i + 1), f (4 * i + 2), f (4 * i + 3))
def MB (f : Nat → Int32) (n : Nat) (r : R4) : Prop := ∃ i, i < n ∧ rec4 f i = r
theorem MB_app {f : Nat → Int32} {n : Nat} {a b c e' : Int32} {r : R4} : MB (up4 f (4 * n) a b c e') (n + 1) r ↔ MB f n r ∨ (a, b, c, e') = r := by
  have h1 : ∀ i, i < n → rec4 (up4 f (4 * n) a b c e') i = rec4 f i := by
    intro i hi
    unfold rec4
    rw [up4_o (by omega), up4_o (by omega), up4_o (by omega), up4_o (by omega)]
  have h2 : rec4 (up4 f (4 * n) a b c e') n = (a, b, c, e') := by
    unfold rec4
    rw [show up4 f (4 * n) a b c e' (4 * n) = a from up4_0, up4_1, up4_2, up4_3]
  constructor
  · intro ⟨i, hi, hr⟩
    by_cases hq : i = n
    · rw [hq, h2] at hr; exact Or.inr hr
    · rw [h1 i (by omega)] at hr; exact Or.inl ⟨i, by omega, hr⟩
  · intro h
    rcases h with ⟨i, hi, hr⟩ | hr
    · exact ⟨i, by omega, (h1 i hi).trans hr⟩
    · exact ⟨n, by omega, h2.trans hr⟩
theorem upa_cm {A : AS} {a b : Nat} {f g : Nat → Int32} (h : a ≠ b) : upa (upa A a f) b g = upa (upa A b g) a f := by
  funext j
  unfold upa
  by_cases h1 : j = a
  · by_cases h2 : j = b
    · exact absurd (h1.symm.trans h2) h
    · rw [if_neg h2, if_pos h1, if_pos h1]
  · by_cases h2 : j = b
    · rw [if_pos h2, if_neg h1, if_pos h2]
    · rw [if_neg h2, if_neg h1, if_neg h1, if_neg h2]
section P54a
variable {l : LYS}
theorem TT_lt {p q : Nat} (h : p < q) (hq : q ≤ 6) : totL l.1 l.2.1 l.2.2.2.1 q p = TT l p := (totL_lt (q := 6) h hq).symm
theorem tsum_cg {p : Nat → Int32} {T T' : Nat → Nat} : ∀ n, (∀ k, k < n → T (pq p k 0) = T' (pq p k 0)) → tsum p T n = tsum p T' n := by
  intro n
  induction n with
  | zero => intro _; rfl
  | succ n ih =>
    intro h
    show tsum p T n + _ = tsum p T' n + _
    rw [ih (fun k hk => h k (by omega)), h n (by omega)]
theorem TT_eq (hv : LYV l.1 l.2.1 l.2.2.1 l.2.2.2.1) {c : Nat} (hc : c < 6) : TT l c = min (l.1 c + tsum (l.2.2.2.1 c) (TT l) (l.2.1 c)) 201 := by
  rw [← TT_lt (q := c + 1) (by omega) (by omega)]
  show (if c = c then min (l.1 c + tsum (l.2.2.2.1 c) (totL l.1 l.2.1 l.2.2.2.1 c) (l.2.1 c)) 201 else _) = _
  rw [if_pos rfl, tsum_cg (T' := TT l) (l.2.1 c) (fun k hk => TT_lt ((hv c hc).2 k hk).1.2 (by omega))]
theorem rects_fu (hv : LYV l.1 l.2.1 l.2.2.1 l.2.2.2.1) : ∀ (n m c t : Nat) (x y : Int32), c < 6 → c < n → c < m → rects l.1 l.2.1 l.2.2.1 l.2.2.2.1 n c t x y = rects l.1 l.2.1 l.2.2.1 l.2.2.2.1 m c t x y := by
  intro n
  induction n with
  | zero => intro m c t x y _ h; omega
  | succ n ih =>
    intro m c t x y hc h1 h2
    cases m with
    | zero => omega
    | succ m =>
      unfold rects
      congr 1
      have hcg : ∀ k, k ∈ List.range (l.2.1 c) → ((List.range (pq (l.2.2.2.1 c) k 6)).flatMap fun i => (List.range (pq (l.2.2.2.1 c) k 7)).flatMap fun j => rects l.1 l.2.1 l.2.2.1 l.2.2.2.1 n (pq (l.2.2.2.1 c) k 0) (tA (pq (l.2.2.2.1 c) k 1) t) (x + tX t (pxv (l.2.2.2.1 c) k i) (pyv (l.2.2.2.1 c) k j)) (y + tY t (pxv (l.2.2.2.1 c) k i) (pyv (l.2.2.2.1 c) k j))) = ((List.range (pq (l.2.2.2.1 c) k 6)).flatMap fun i => (List.range (pq (l.2.2.2.1 c) k 7)).flatMap fun j => rects l.1 l.2.1 l.2.2.1 l.2.2.2.1 m (pq (l.2.2.2.1 c) k 0) (tA (pq (l.2.2.2.1 c) k 1) t) (x + tX t (pxv (l.2.2.2.1 c) k i) (pyv (l.2.2.2.1 c) k j)) (y + tY t (pxv (l.2.2.2.1 c) k i) (pyv (l.2.2.2.1 c) k j))) := by
        intro k hk
        have hd := ((hv c hc).2 k (List.mem_range.mp hk)).1.2
        congr 1
        funext i
        congr 1
        funext j
        exact ih m _ _ _ _ (by omega) (by omega) (by omega)
      exact congrArg List.flatten (List.map_congr_left hcg)
/-- the copy i of placement k -/
def chd (l : LYS) (p k t : Nat) (x y : Int32) (i : Nat) : EN := (pq (l.2.2.2.1 p) k 0, tA (pq (l.2.2.2.1 p) k 1) t, x + tX t (pxv (l.2.2.2.1 p) k (i % pq (l.2.2.2.1 p) k 6)) (pyv (l.2.2.2.1 p) k (i / pq (l.2.2.2.1 p) k 6)), y + tY t (pxv (l.2.2.2.1 p) k (i % pq (l.2.2.2.1 p) k 6)) (pyv (l.2.2.2.1 p) k (i / pq (l.2.2.2.1 p) k 6)))
theorem RR_mem (hv : LYV l.1 l.2.1 l.2.2.1 l.2.2.2.1) {p t : Nat} {x y : Int32} (hp : p < 6) (r : R4) : r ∈ RR l (p, t, x, y) ↔ (∃ i, i < l.1 p ∧ rct (l.2.2.1 p) i t x y = r) ∨ ∃ k, k < l.2.1 p ∧ ∃ i, i < pq (l.2.2.2.1 p) k 6 * pq (l.2.2.2.1 p) k 7 ∧ r ∈ RR l (chd l p k t x y i) := by
  unfold RR
  show r ∈ ((List.range (l.1 p)).map fun i => rct (l.2.2.1 p) i t x y) ++ (List.range (l.2.1 p)).flatMap _ ↔ _
  rw [List.mem_append, List.mem_map, List.mem_flatMap]
  refine or_congr ?_ ?_
  · constructor
    · intro ⟨i, h1, h2⟩; exact ⟨i, List.mem_range.mp h1, h2⟩
    · intro ⟨i, h1, h2⟩; exact ⟨i, List.mem_range.mpr h1, h2⟩
  · constructor
    · intro ⟨k, hk, h1⟩
      have hk := List.mem_range.mp hk
      obtain ⟨i, hi, h2⟩ := List.mem_flatMap.mp h1
      obtain ⟨j, hj, h3⟩ := List.mem_flatMap.mp h2
      have hi : i < pq (l.2.2.2.1 p) k 6 := List.mem_range.mp hi
      have hj : j < pq (l.2.2.2.1 p) k 7 := List.mem_range.mp hj
      have hpk := (hv p hp).2 k hk
      refine ⟨k, hk, i + pq (l.2.2.2.1 p) k 6 * j, ?_, ?_⟩
      · have h4 : pq (l.2.2.2.1 p) k 6 * (j + 1) ≤ pq (l.2.2.2.1 p) k 6 * pq (l.2.2.2.1 p) k 7 := Nat.mul_le_mul_left _ hj
        rw [Nat.mul_add, Nat.mul_one] at h4
        omega
      · unfold chd
        rw [Nat.add_mul_mod_self_left, Nat.mod_eq_of_lt hi, Nat.add_mul_div_left _ _ (by omega), Nat.div_eq_of_lt hi, Nat.zero_add]
        dsimp only
        rw [rects_fu hv 6 5 _ _ _ _ (by have := hpk.1.2; omega) (by have := hpk.1.2; omega) (by have := hpk.1.2; omega)]
        exact h3
    · intro ⟨k, hk, i, hi, h1⟩
      have hpk := (hv p hp).2 k hk
      refine ⟨k, List.mem_range.mpr hk, List.mem_flatMap.mpr ⟨i % pq (l.2.2.2.1 p) k 6, List.mem_range.mpr (Nat.mod_lt _ (by have := hpk.2.2.2.2.1.2.1; omega)), List.mem_flatMap.mpr ⟨i / pq (l.2.2.2.1 p) k 6, List.mem_range.mpr (Nat.div_lt_of_lt_mul hi), ?_⟩⟩⟩
      unfold chd at h1
      dsimp only at h1
      rw [rects_fu hv 6 5 _ _ _ _ (by have := hpk.1.2; omega) (by have := hpk.1.2; omega) (by have := hpk.1.2; omega)] at h1
      exact h1
theorem RR_nil (hv : LYV l.1 l.2.1 l.2.2.1 l.2.2.2.1) {e : EN} (he : e.1 < 6) (h : TT l e.1 = 0) : RR l e = [] := rects_nil hv 6 e.1 he (by rw [TT_lt (by omega) (by omega)]; exact h) _ _ _
def sT (l : LYS) (ch : Nat → EN) : Nat → Nat
  | 0 => 0
  | m + 1 => sT l ch m + TT l (ch m).1
theorem sT_cg {ch ch' : Nat → EN} : ∀ m, (∀ i, i < m → ch' i = ch i) → sT l ch' m = sT l ch m := by
  intro m
  induction m with
  | zero => intro _; rfl
  | succ m ih =>
    intro h
    show sT l ch' m + _ = sT l ch m + _
    rw [ih (fun i hi => h i (by omega)), h m (by omega)]
theorem sT_ge {ch : Nat → EN} : ∀ m, (∀ i, i < m → EOK l (ch i)) → m ≤ sT l ch m := by
  intro m
  induction m with
  | zero => intro _; exact Nat.zero_le _
  | succ m ih =>
    intro h
    have h1 := ih (fun i hi => h i (by omega))
    have h2 := (h m (by omega)).2.2
    show m + 1 ≤ sT l ch m + TT l (ch m).1
    omega
theorem pxv_b {p : Nat → Int32} {k i : Nat} (hi : i ≤ 3) (h1 : sm (p (k * 8 + 2))) (h2 : sm (p (k * 8 + 4))) : -64 ≤ (pxv p k i).toInt ∧ (pxv p k i).toInt ≤ 64 := by
  unfold pxv sm at *
  have hm : -48 ≤ (i : Int) * (p (k * 8 + 4)).toInt ∧ (i : Int) * (p (k * 8 + 4)).toInt ≤ 48 := by
    have hcs : i = 0 ∨ i = 1 ∨ i = 2 ∨ i = 3 := by omega
    rcases hcs with rfl | rfl | rfl | rfl <;> omega
  have e1 : (nI i * p (k * 8 + 4)).toInt = (i : Int) * (p (k * 8 + 4)).toInt := by rw [i_mul (by rw [i_n _ (by omega)]; omega), i_n _ (by omega)]
  rw [i_add (by rw [e1]; omega), e1]
  omega
theorem pyv_b {p : Nat → Int32} {k i : Nat} (hi : i ≤ 3) (h1 : sm (p (k * 8 + 3))) (h2 : sm (p (k * 8 + 5))) : -64 ≤ (pyv p k i).toInt ∧ (pyv p k i).toInt ≤ 64 := by
  unfold pyv sm at *
  have hm : -48 ≤ (i : Int) * (p (k * 8 + 5)).toInt ∧ (i : Int) * (p (k * 8 + 5)).toInt ≤ 48 := by
    have hcs : i = 0 ∨ i = 1 ∨ i = 2 ∨ i = 3 := by omega
    rcases hcs with rfl | rfl | rfl | rfl <;> omega
  have e1 : (nI i * p (k * 8 + 5)).toInt = (i : Int) * (p (k * 8 + 5)).toInt := by rw [i_mul (by rw [i_n _ (by omega)]; omega), i_n _ (by omega)]
  rw [i_add (by rw [e1]; omega), e1]
  omega
theorem chd_ok (hv : LYV l.1 l.2.1 l.2.2.1 l.2.2.2.1) {p k t i : Nat} {x y : Int32} (hp : p < 6) (hk : k < l.2.1 p) (ht : t < 8) (hx : bdd p x) (hy : bdd p y) (hi : i < pq (l.2.2.2.1 p) k 6 * pq (l.2.2.2.1 p) k 7) (hT : ¬ TT l (pq (l.2.2.2.1 p) k 0) = 0) : (chd l p k t x y i).1 < p ∧ EOK l (chd l p k t x y i) := by
  obtain ⟨⟨-, p0⟩, ⟨-, p1⟩, ⟨p2, p3⟩, ⟨p4, p5⟩, ⟨-, p6, p6'⟩, ⟨-, p7, p7'⟩⟩ := (hv p hp).2 k hk
  have h6 : i % pq (l.2.2.2.1 p) k 6 < pq (l.2.2.2.1 p) k 6 := Nat.mod_lt _ (by omega)
  have h7 : i / pq (l.2.2.2.1 p) k 6 < pq (l.2.2.2.1 p) k 7 := Nat.div_lt_of_lt_mul hi
  have b1 := pxv_b (i := i % pq (l.2.2.2.1 p) k 6) (by omega) p2 p4
  have b2 := pyv_b (i := i / pq (l.2.2.2.1 p) k 6) (by omega) p3 p5
  have c := tX_c ht (pxv (l.2.2.2.1 p) k (i % pq (l.2.2.2.1 p) k 6)) (pyv (l.2.2.2.1 p) k (i / pq (l.2.2.2.1 p) k 6))
  have n1 := bnd_c (b := 64) (by omega) b1 b2 c.1
  have n2 := bnd_c (b := 64) (by omega) b1 b2 c.2
  unfold bdd at hx hy
  refine ⟨p0, ⟨⟨by show pq (l.2.2.2.1 p) k 0 < 6; omega, (tA_mat t ht _ p1).2.2⟩, ⟨?_, ?_⟩, by show 1 ≤ TT l (pq (l.2.2.2.1 p) k 0); omega⟩⟩
  · show -(32 + 64 * (6 - ((pq (l.2.2.2.1 p) k 0 : Nat) : Int))) ≤ (x + tX t (pxv (l.2.2.2.1 p) k (i % pq (l.2.2.2.1 p) k 6)) (pyv (l.2.2.2.1 p) k (i / pq (l.2.2.2.1 p) k 6))).toInt ∧ (x + tX t (pxv (l.2.2.2.1 p) k (i % pq (l.2.2.2.1 p) k 6)) (pyv (l.2.2.2.1 p) k (i / pq (l.2.2.2.1 p) k 6))).toInt ≤ 32 + 64 * (6 - ((pq (l.2.2.2.1 p) k 0 : Nat) : Int))
    rw [i_add (by omega)]
    omega
  · show -(32 + 64 * (6 - ((pq (l.2.2.2.1 p) k 0 : Nat) : Int))) ≤ (y + tY t (pxv (l.2.2.2.1 p) k (i % pq (l.2.2.2.1 p) k 6)) (pyv (l.2.2.2.1 p) k (i / pq (l.2.2.2.1 p) k 6))).toInt ∧ (y + tY t (pxv (l.2.2.2.1 p) k (i % pq (l.2.2.2.1 p) k 6)) (pyv (l.2.2.2.1 p) k (i / pq (l.2.2.2.1 p) k 6))).toInt ≤ 32 + 64 * (6 - ((pq (l.2.2.2.1 p) k 0 : Nat) : Int))
    rw [i_add (by omega)]
    omega
theorem tsum_mono {p : Nat → Int32} {T : Nat → Nat} : ∀ n k, k ≤ n → tsum p T k ≤ tsum p T n := by
  intro n
  induction n with
  | zero => intro k hk; rw [show k = 0 by omega]; exact Nat.le_refl _
  | succ n ih =>
    intro k hk
    by_cases hq : k = n + 1
    · rw [hq]; exact Nat.le_refl _
    · have := ih k (by omega)
      show _ ≤ tsum p T n + _
      omega
end P54a
section P54
variable {S : mm_S} {d : Nat} {M : mm_M} {A : AS} {I : Nat → Int32} {sh : Nat → Nat → Int32} {o : OS} {l : LYS} {pi fa tp : IS}
def HD (S : mm_S) (d : Nat) (M : mm_M) (A : AS) (I : Nat → Int32) (u1 u2 u3 : Option Value) (P : Option Value → mm_M → Prop) (n : Nat) (td lf : Nat → Int32) (cnt : Nat) : Prop := ∀ t5 t6 t7 t8 t9 t10 t11 t12 t13 t14 t15 t16 t17 : Option Value, mm_R S (d + 1) 167 32 [some (.ref 73), u1, u2, u3, some (.int (nI n)), t5, t6, t7, t8, t9, t10, t11, t12, t13, t14, t15, t16, t17] [] (mdm M (upa (upa A 93 td) 95 lf) (upd I 28 (nI cnt))) P
def POP (S : mm_S) (d : Nat) (M : mm_M) (A : AS) (I : Nat → Int32) (l : LYS) (u1 u2 u3 : Option Value) (P : Option Value → mm_M → Prop) (c : Nat) : Prop := ∀ (n b cnt : Nat) (e : EN) (td lf : Nat → Int32), e.1 < c → EOK l e → enc td n e → n ≤ b → cnt + b + TT l e.1 ≤ 200 → (∀ (td' lf' : Nat → Int32) (cnt' : Nat), (∀ i, i < 7 * n → td' i = td i) → cnt' = cnt + TT l e.1 → (∀ r, MB lf' cnt' r ↔ MB lf cnt r ∨ r ∈ RR l e) → HD S d M A I u1 u2 u3 P n td' lf' cnt') → HD S d M A I u1 u2 u3 P (n + 1) td lf cnt
variable {u1 u2 u3 : Option Value} {P : Option Value → mm_M → Prop}
theorem POP_many {c : Nat} (ih : POP S d M A I l u1 u2 u3 P c) : ∀ (m n b cnt : Nat) (ch : Nat → EN) (td lf : Nat → Int32), (∀ i, i < m → (ch i).1 < c ∧ EOK l (ch i) ∧ enc td (n + i) (ch i)) → n ≤ b → cnt + b + sT l ch m ≤ 200 → (∀ (td' lf' : Nat → Int32) (cnt' : Nat), (∀ i, i < 7 * n → td' i = td i) → cnt' = cnt + sT l ch m → (∀ r, MB lf' cnt' r ↔ MB lf cnt r ∨ ∃ i, i < m ∧ r ∈ RR l (ch i)) → HD S d M A I u1 u2 u3 P n td' lf' cnt') → HD S d M A I u1 u2 u3 P (n + m) td lf cnt := by
  intro m
  induction m with
  | zero =>
    intro n b cnt ch td lf h1 h2 h3 K
    refine K td lf cnt (fun _ _ => rfl) rfl (fun r => ⟨fun h => Or.inl h, fun h => h.elim id (fun ⟨i, hi, _⟩ => by omega)⟩)
  | succ m ihm =>
    intro n b cnt ch td lf h1 h2 h3 K
    have h4 := h1 m (by omega)
    have h5 := sT_ge m (fun i hi => (h1 i (by omega)).2.1)
    have h3 : cnt + b + (sT l ch m + TT l (ch m).1) ≤ 200 := h3
    refine ih (n + m) (b + sT l ch m) cnt (ch m) td lf h4.1 h4.2.1 h4.2.2 (by omega) (by omega) (fun td' lf' cnt' k1 k2 k3 => ?_)
    refine ihm n b cnt' ch td' lf' (fun i hi => ⟨(h1 i (by omega)).1, (h1 i (by omega)).2.1, enc_cg (h1 i (by omega)).2.2 k1 (by omega)⟩) h2 (by omega) (fun td2 lf2 cnt2 j1 j2 j3 => ?_)
    refine K td2 lf2 cnt2 (fun i hi => (j1 i hi).trans (k1 i (by omega))) (by show _ = cnt + (sT l ch m + TT l (ch m).1); omega) (fun r => ?_)
    rw [j3, k3]
    constructor
    · intro h
      rcases h with (h | h) | ⟨i, hi, h⟩
      · exact Or.inl h
      · exact Or.inr ⟨m, by omega, h⟩
      · exact Or.inr ⟨i, by omega, h⟩
    · intro h
      rcases h with h | ⟨i, hi, h⟩
      · exact Or.inl (Or.inl h)
      · by_cases hq : i = m
        · subst hq; exact Or.inl (Or.inr h)
        · exact Or.inr ⟨i, by omega, h⟩
set_option maxRecDepth 8000 in
theorem m167_bx {n p t : Nat} {x y : Int32} {td : Nat → Int32} (hV : VS sh o l pi fa tp) (hB : BRl A l) (hp : p < 6) (ht : t < 8) (hx : bdd p x) (hy : bdd p y) : ∀ (j i cnt : Nat) (lf : Nat → Int32) (t13 t14 t15 t16 t17 : Option Value), i + j = l.1 p → cnt + j ≤ 200 → (∀ (lf' : Nat → Int32) (t12 t13 t14 t15 t16 t17 : Option Value), (∀ r, MB lf' (cnt + j) r ↔ MB lf cnt r ∨ ∃ i', (i ≤ i' ∧ i' < l.1 p) ∧ rct (l.2.2.1 p) i' t x y = r) → mm_R S (d + 1) 167 400 [some (.ref 73), u1, u2, u3, some (.int (nI n)), some (.int (nI p)), some (.int (trn (4 * t))), some (.int (trn (4 * t + 1))), some (.int (trn (4 * t + 2))), some (.int (trn (4 * t + 3))), some (.int x), some (.int y), t12, t13, t14, t15, t16, t17] [] (mdm M (upa (upa A 93 td) 95 lf') (upd I 28 (nI (cnt + j)))) P) → mm_R S (d + 1) 167 144 [some (.ref 73), u1, u2, u3, some (.int (nI n)), some (.int (nI p)), some (.int (trn (4 * t))), some (.int (trn (4 * t + 1))), some (.int (trn (4 * t + 2))), some (.int (trn (4 * t + 3))), some (.int x), some (.int y), some (.int (nI (6 * p + i))), t13, t14, t15, t16, t17] [] (mdm M (upa (upa A 93 td) 95 lf) (upd I 28 (nI cnt))) P := by
  have hb6 := (hV.2.2.1.1 p hp).1
  have hbx := (hV.2.2.1.2.1 p hp).1
  have r3 := hB p hp
  intro j
  induction j with
  | zero =>
    intro i cnt lf t13 t14 t15 t16 t17 hi hcnt hK
    have e78 : ∀ lf, upa (upa A 93 td) 95 lf 78 p = nI (l.1 p) := fun _ => r3.1.1
    refine R_iload (q := 146) rfl rfl rfl ?_
    refine R_bipush (q := 148) (v := nI 6) rfl rfl (by decide) ?_
    refine R_iload (q := 150) rfl rfl rfl ?_
    refine R_imul (q := 151) rfl rfl ?_
    rw [pk_mul]
    refine R_aload_n (q := 152) rfl rfl rfl ?_
    refine R_getf (q := 155) rfl rfl rfl md_73 rfl ?_
    refine R_iload (q := 157) rfl rfl rfl ?_
    refine R_iaload (q := 158) rfl rfl md_78 (by decide) (by first | assumption | exact in_nI (by omega) (by decide)) ?_
    rw [cl_nI (by omega)]
    rw [e78]
    refine R_iadd (q := 159) rfl rfl ?_
    rw [nI_add]
    refine R_icmp_ge (q := 162) (t := 400) rfl rfl rfl (fun h159 => ?_) (fun h159 => absurd (nI_le (by omega) (by omega)) h159)
    refine hK lf _ _ _ _ _ _ (fun r => ?_)
    constructor
    · intro h; exact Or.inl h
    · intro h
      rcases h with h | ⟨i', h1, h2⟩
      · exact h
      · omega
  | succ j ih =>
    intro i cnt lf t13 t14 t15 t16 t17 hi hcnt hK
    have e78 : ∀ lf, upa (upa A 93 td) 95 lf 78 p = nI (l.1 p) := fun _ => r3.1.1
    obtain ⟨e79, e80, e81, e82⟩ := r3.2.1 i (by omega)
    have e79' : ∀ lf, upa (upa A 93 td) 95 lf 79 (6 * p + i) = l.2.2.1 p (i * 4 + 0) := fun _ => e79
    have e80' : ∀ lf, upa (upa A 93 td) 95 lf 80 (6 * p + i) = l.2.2.1 p (i * 4 + 1) := fun _ => e80
    have e81' : ∀ lf, upa (upa A 93 td) 95 lf 81 (6 * p + i) = l.2.2.1 p (i * 4 + 2) := fun _ => e81
    have e82' : ∀ lf, upa (upa A 93 td) 95 lf 82 (6 * p + i) = l.2.2.1 p (i * 4 + 3) := fun _ => e82
    have hbo := hbx i (by omega)
    obtain ⟨x0, hx0⟩ : ∃ z, z = (trn (4 * t) * l.2.2.1 p (i * 4 + 0) + trn (4 * t + 1) * l.2.2.1 p (i * 4 + 1) + x) := ⟨_, rfl⟩
    obtain ⟨y0, hy0⟩ : ∃ z, z = (trn (4 * t + 2) * l.2.2.1 p (i * 4 + 0) + trn (4 * t + 3) * l.2.2.1 p (i * 4 + 1) + y) := ⟨_, rfl⟩
    obtain ⟨x1, hx1⟩ : ∃ z, z = ((trn (4 * t) * l.2.2.1 p (i * 4 + 0) + trn (4 * t + 1) * l.2.2.1 p (i * 4 + 1) + x) + trn (4 * t) * l.2.2.1 p (i * 4 + 2) + trn (4 * t + 1) * l.2.2.1 p (i * 4 + 3)) := ⟨_, rfl⟩
    obtain ⟨y1, hy1⟩ : ∃ z, z = ((trn (4 * t + 2) * l.2.2.1 p (i * 4 + 0) + trn (4 * t + 3) * l.2.2.1 p (i * 4 + 1) + y) + trn (4 * t + 2) * l.2.2.1 p (i * 4 + 2) + trn (4 * t + 3) * l.2.2.1 p (i * 4 + 3)) := ⟨_, rfl⟩
    rw [← hx0] at hx1
    rw [← hy0] at hy1
    have hrc := rct_eq ht hbo (by unfold bdd at hx; omega) (by unfold bdd at hy; omega) hx0 hy0 hx1 hy1
    have h383 : ∀ v1 v2 v3 v4 : Int32, v1 = (if x0 < x1 then x0 else x1) → v2 = (if y0 < y1 then y0 else y1) → v3 = (if x0 < x1 then x1 - x0 else x0 - x1) → v4 = (if y0 < y1 then y1 - y0 else y0 - y1) → mm_R S (d + 1) 167 383 [some (.ref 73), u1, u2, u3, some (.int (nI n)), some (.int (nI p)), some (.int (trn (4 * t))), some (.int (trn (4 * t + 1))), some (.int (trn (4 * t + 2))), some (.int (trn (4 * t + 3))), some (.int x), some (.int y), some (.int (nI (6 * p + i))), some (.int x0), some (.int y0), some (.int x1), some (.int y1), t17] [.int v4, .int (nI (4 * cnt + 3)), .ref 95] (mdm M (upa (upa A 93 td) 95 (upd (upd (upd lf (4 * cnt) v1) (4 * cnt + 1) v2) (4 * cnt + 2) v3)) (upd I 28 (nI cnt))) P := by
      intro v1 v2 v3 v4 g1 g2 g3 g4
      refine R_iastore (q := 384) rfl rfl md_95 (by first | assumption | exact in_nI (by omega) (by decide)) ?_
      rw [cl_nI (by omega)]
      rw [md_p95]
      rw [upa_u, upa_e]
      refine R_aload_n (q := 385) rfl rfl rfl ?_
      first | refine R_dupa (q := 386) rfl rfl ?_ | refine R_dupi (q := 386) rfl rfl ?_
      refine R_getf (q := 389) rfl rfl rfl md_73 rfl ?_
      rw [upd_e]
      refine R_iconst (q := 390) (v := nI 1) rfl rfl (by decide) ?_
      refine R_iadd (q := 391) rfl rfl ?_
      rw [nI_add]
      refine R_putf (q := 394) rfl rfl rfl md_73 (Nat.le_of_ble_eq_true rfl) rfl (fun hf => absurd hf (by decide)) rfl ?_
      dsimp only [List.set]
      rw [md_f28]
      rw [upd_uu]
      refine R_iinc (q := 397) rfl rfl rfl (nI_i1 (6 * p + i)) rfl ?_
      dsimp only [List.set]
      refine R_goto (t := 144) rfl rfl ?_
      refine ih (i + 1) (cnt + 1) (up4 lf (4 * cnt) v1 v2 v3 v4) _ _ _ _ _ (by omega) (by omega) (fun lf' t12 t13 t14 t15 t16 t17 h => ?_)
      rw [show cnt + 1 + j = cnt + (j + 1) by omega] at h ⊢
      refine hK lf' _ _ _ _ _ _ (fun r => ?_)
      rw [h r, MB_app, show ((v1, v2, v3, v4) : R4) = rct (l.2.2.1 p) i t x y by rw [g1, g2, g3, g4]; exact hrc]
      constructor
      · intro z
        rcases z with (z | z) | ⟨i', z1, z2⟩
        · exact Or.inl z
        · exact Or.inr ⟨i, by omega, z⟩
        · exact Or.inr ⟨i', by omega, z2⟩
      · intro z
        rcases z with z | ⟨i', z1, z2⟩
        · exact Or.inl (Or.inl z)
        · by_cases hq : i' = i
          · subst hq; exact Or.inl (Or.inr z2)
          · exact Or.inr ⟨i', by omega, z2⟩
    have h350 : ∀ v1 v2 v3 : Int32, v1 = (if x0 < x1 then x0 else x1) → v2 = (if y0 < y1 then y0 else y1) → v3 = (if x0 < x1 then x1 - x0 else x0 - x1) → mm_R S (d + 1) 167 350 [some (.ref 73), u1, u2, u3, some (.int (nI n)), some (.int (nI p)), some (.int (trn (4 * t))), some (.int (trn (4 * t + 1))), some (.int (trn (4 * t + 2))), some (.int (trn (4 * t + 3))), some (.int x), some (.int y), some (.int (nI (6 * p + i))), some (.int x0), some (.int y0), some (.int x1), some (.int y1), t17] [.int v3, .int (nI (4 * cnt + 2)), .ref 95] (mdm M (upa (upa A 93 td) 95 (upd (upd lf (4 * cnt) v1) (4 * cnt + 1) v2)) (upd I 28 (nI cnt))) P := by
      intro v1 v2 v3 g1 g2 g3
      refine R_iastore (q := 351) rfl rfl md_95 (by first | assumption | exact in_nI (by omega) (by decide)) ?_
      rw [cl_nI (by omega)]
      rw [md_p95]
      rw [upa_u, upa_e]
      refine R_aload_n (q := 352) rfl rfl rfl ?_
      refine R_getf (q := 355) rfl rfl rfl md_73 rfl ?_
      refine R_iconst (q := 356) (v := nI 4) rfl rfl (by decide) ?_
      refine R_aload_n (q := 357) rfl rfl rfl ?_
      refine R_getf (q := 360) rfl rfl rfl md_73 rfl ?_
      rw [upd_e]
      refine R_imul (q := 361) rfl rfl ?_
      rw [pk_mul]
      refine R_iconst (q := 362) (v := nI 3) rfl rfl (by decide) ?_
      refine R_iadd (q := 363) rfl rfl ?_
      rw [nI_add]
      refine R_iload (q := 365) rfl rfl rfl ?_
      refine R_iload (q := 367) rfl rfl rfl ?_
      refine R_icmp_ge (q := 370) (t := 378) rfl rfl rfl (fun h367 => ?_) (fun h367 => ?_)
      · refine R_iload (q := 380) rfl rfl rfl ?_
        refine R_iload (q := 382) rfl rfl rfl ?_
        refine R_isub (q := 383) rfl rfl ?_
        refine h383 v1 v2 v3 _ g1 g2 g3 ?_
        first
          | exact (if_neg (fun z => i_lnl h367 z)).symm
          | exact (if_pos (i_nlt h367)).symm
      · refine R_iload (q := 372) rfl rfl rfl ?_
        refine R_iload (q := 374) rfl rfl rfl ?_
        refine R_isub (q := 375) rfl rfl ?_
        refine R_goto (t := 383) rfl rfl ?_
        refine h383 v1 v2 v3 _ g1 g2 g3 ?_
        first
          | exact (if_neg (fun z => i_lnl h367 z)).symm
          | exact (if_pos (i_nlt h367)).symm
    have h317 : ∀ v1 v2 : Int32, v1 = (if x0 < x1 then x0 else x1) → v2 = (if y0 < y1 then y0 else y1) → mm_R S (d + 1) 167 317 [some (.ref 73), u1, u2, u3, some (.int (nI n)), some (.int (nI p)), some (.int (trn (4 * t))), some (.int (trn (4 * t + 1))), some (.int (trn (4 * t + 2))), some (.int (trn (4 * t + 3))), some (.int x), some (.int y), some (.int (nI (6 * p + i))), some (.int x0), some (.int y0), some (.int x1), some (.int y1), t17] [.int v2, .int (nI (4 * cnt + 1)), .ref 95] (mdm M (upa (upa A 93 td) 95 (upd lf (4 * cnt) v1)) (upd I 28 (nI cnt))) P := by
      intro v1 v2 g1 g2
      refine R_iastore (q := 318) rfl rfl md_95 (by first | assumption | exact in_nI (by omega) (by decide)) ?_
      rw [cl_nI (by omega)]
      rw [md_p95]
      rw [upa_u, upa_e]
      refine R_aload_n (q := 319) rfl rfl rfl ?_
      refine R_getf (q := 322) rfl rfl rfl md_73 rfl ?_
      refine R_iconst (q := 323) (v := nI 4) rfl rfl (by decide) ?_
      refine R_aload_n (q := 324) rfl rfl rfl ?_
      refine R_getf (q := 327) rfl rfl rfl md_73 rfl ?_
      rw [upd_e]
      refine R_imul (q := 328) rfl rfl ?_
      rw [pk_mul]
      refine R_iconst (q := 329) (v := nI 2) rfl rfl (by decide) ?_
      refine R_iadd (q := 330) rfl rfl ?_
      rw [nI_add]
      refine R_iload (q := 332) rfl rfl rfl ?_
      refine R_iload (q := 334) rfl rfl rfl ?_
      refine R_icmp_ge (q := 337) (t := 345) rfl rfl rfl (fun h334 => ?_) (fun h334 => ?_)
      · refine R_iload (q := 347) rfl rfl rfl ?_
        refine R_iload (q := 349) rfl rfl rfl ?_
        refine R_isub (q := 350) rfl rfl ?_
        refine h350 v1 v2 _ g1 g2 ?_
        first
          | exact (if_neg (fun z => i_lnl h334 z)).symm
          | exact (if_pos (i_nlt h334)).symm
      · refine R_iload (q := 339) rfl rfl rfl ?_
        refine R_iload (q := 341) rfl rfl rfl ?_
        refine R_isub (q := 342) rfl rfl ?_
        refine R_goto (t := 350) rfl rfl ?_
        refine h350 v1 v2 _ g1 g2 ?_
        first
          | exact (if_neg (fun z => i_lnl h334 z)).symm
          | exact (if_pos (i_nlt h334)).symm
    have h290 : ∀ v1 : Int32, v1 = (if x0 < x1 then x0 else x1) → mm_R S (d + 1) 167 290 [some (.ref 73), u1, u2, u3, some (.int (nI n)), some (.int (nI p)), some (.int (trn (4 * t))), some (.int (trn (4 * t + 1))), some (.int (trn (4 * t + 2))), some (.int (trn (4 * t + 3))), some (.int x), some (.int y), some (.int (nI (6 * p + i))), some (.int x0), some (.int y0), some (.int x1), some (.int y1), t17] [.int v1, .int (nI (4 * cnt)), .ref 95] (mdm M (upa (upa A 93 td) 95 lf) (upd I 28 (nI cnt))) P := by
      intro v1 g1
      refine R_iastore (q := 291) rfl rfl md_95 (by first | assumption | exact in_nI (by omega) (by decide)) ?_
      rw [cl_nI (by omega)]
      rw [md_p95]
      rw [upa_u, upa_e]
      refine R_aload_n (q := 292) rfl rfl rfl ?_
      refine R_getf (q := 295) rfl rfl rfl md_73 rfl ?_
      refine R_iconst (q := 296) (v := nI 4) rfl rfl (by decide) ?_
      refine R_aload_n (q := 297) rfl rfl rfl ?_
      refine R_getf (q := 300) rfl rfl rfl md_73 rfl ?_
      rw [upd_e]
      refine R_imul (q := 301) rfl rfl ?_
      rw [pk_mul]
      refine R_iconst (q := 302) (v := nI 1) rfl rfl (by decide) ?_
      refine R_iadd (q := 303) rfl rfl ?_
      rw [nI_add]
      refine R_iload (q := 305) rfl rfl rfl ?_
      refine R_iload (q := 307) rfl rfl rfl ?_
      refine R_icmp_ge (q := 310) (t := 315) rfl rfl rfl (fun h307 => ?_) (fun h307 => ?_)
      · refine R_iload (q := 317) rfl rfl rfl ?_
        refine h317 v1 _ g1 ?_
        first
          | exact (if_neg (fun z => i_lnl h307 z)).symm
          | exact (if_pos (i_nlt h307)).symm
      · refine R_iload (q := 312) rfl rfl rfl ?_
        refine R_goto (t := 317) rfl rfl ?_
        refine h317 v1 _ g1 ?_
        first
          | exact (if_neg (fun z => i_lnl h307 z)).symm
          | exact (if_pos (i_nlt h307)).symm
    refine R_iload (q := 146) rfl rfl rfl ?_
    refine R_bipush (q := 148) (v := nI 6) rfl rfl (by decide) ?_
    refine R_iload (q := 150) rfl rfl rfl ?_
    refine R_imul (q := 151) rfl rfl ?_
    rw [pk_mul]
    refine R_aload_n (q := 152) rfl rfl rfl ?_
    refine R_getf (q := 155) rfl rfl rfl md_73 rfl ?_
    refine R_iload (q := 157) rfl rfl rfl ?_
    refine R_iaload (q := 158) rfl rfl md_78 (by decide) (by first | assumption | exact in_nI (by omega) (by decide)) ?_
    rw [cl_nI (by omega)]
    rw [e78]
    refine R_iadd (q := 159) rfl rfl ?_
    rw [nI_add]
    refine R_icmp_ge (q := 162) (t := 400) rfl rfl rfl (fun h159 => absurd h159 (nI_ge (by omega) (by omega))) (fun h159 => ?_)
    refine R_iload (q := 164) rfl rfl rfl ?_
    refine R_aload_n (q := 165) rfl rfl rfl ?_
    refine R_getf (q := 168) rfl rfl rfl md_73 rfl ?_
    refine R_iload (q := 170) rfl rfl rfl ?_
    refine R_iaload (q := 171) rfl rfl md_79 (by decide) (by first | assumption | exact in_nI (by omega) (by decide)) ?_
    rw [cl_nI (by omega)]
    rw [e79']
    refine R_imul (q := 172) rfl rfl ?_
    refine R_iload (q := 174) rfl rfl rfl ?_
    refine R_aload_n (q := 175) rfl rfl rfl ?_
    refine R_getf (q := 178) rfl rfl rfl md_73 rfl ?_
    refine R_iload (q := 180) rfl rfl rfl ?_
    refine R_iaload (q := 181) rfl rfl md_80 (by decide) (by first | assumption | exact in_nI (by omega) (by decide)) ?_
    rw [cl_nI (by omega)]
    rw [e80']
    refine R_imul (q := 182) rfl rfl ?_
    refine R_iadd (q := 183) rfl rfl ?_
    refine R_iload (q := 185) rfl rfl rfl ?_
    refine R_iadd (q := 186) rfl rfl ?_
    refine R_istore (q := 188) rfl rfl (Nat.le_of_ble_eq_true rfl) rfl ?_
    dsimp only [List.set]
    refine R_iload (q := 190) rfl rfl rfl ?_
    refine R_aload_n (q := 191) rfl rfl rfl ?_
    refine R_getf (q := 194) rfl rfl rfl md_73 rfl ?_
    refine R_iload (q := 196) rfl rfl rfl ?_
    refine R_iaload (q := 197) rfl rfl md_79 (by decide) (by first | assumption | exact in_nI (by omega) (by decide)) ?_
    rw [cl_nI (by omega)]
    rw [e79']
    refine R_imul (q := 198) rfl rfl ?_
    refine R_iload (q := 200) rfl rfl rfl ?_
    refine R_aload_n (q := 201) rfl rfl rfl ?_
    refine R_getf (q := 204) rfl rfl rfl md_73 rfl ?_
    refine R_iload (q := 206) rfl rfl rfl ?_
    refine R_iaload (q := 207) rfl rfl md_80 (by decide) (by first | assumption | exact in_nI (by omega) (by decide)) ?_
    rw [cl_nI (by omega)]
    rw [e80']
    refine R_imul (q := 208) rfl rfl ?_
    refine R_iadd (q := 209) rfl rfl ?_
    refine R_iload (q := 211) rfl rfl rfl ?_
    refine R_iadd (q := 212) rfl rfl ?_
    refine R_istore (q := 214) rfl rfl (Nat.le_of_ble_eq_true rfl) rfl ?_
    dsimp only [List.set]
    rw [← hx0, ← hy0]
    refine R_iload (q := 216) rfl rfl rfl ?_
    refine R_iload (q := 218) rfl rfl rfl ?_
    refine R_aload_n (q := 219) rfl rfl rfl ?_
    refine R_getf (q := 222) rfl rfl rfl md_73 rfl ?_
    refine R_iload (q := 224) rfl rfl rfl ?_
    refine R_iaload (q := 225) rfl rfl md_81 (by decide) (by first | assumption | exact in_nI (by omega) (by decide)) ?_
    rw [cl_nI (by omega)]
    rw [e81']
    refine R_imul (q := 226) rfl rfl ?_
    refine R_iadd (q := 227) rfl rfl ?_
    refine R_iload (q := 229) rfl rfl rfl ?_
    refine R_aload_n (q := 230) rfl rfl rfl ?_
    refine R_getf (q := 233) rfl rfl rfl md_73 rfl ?_
    refine R_iload (q := 235) rfl rfl rfl ?_
    refine R_iaload (q := 236) rfl rfl md_82 (by decide) (by first | assumption | exact in_nI (by omega) (by decide)) ?_
    rw [cl_nI (by omega)]
    rw [e82']
    refine R_imul (q := 237) rfl rfl ?_
    refine R_iadd (q := 238) rfl rfl ?_
    refine R_istore (q := 240) rfl rfl (Nat.le_of_ble_eq_true rfl) rfl ?_
    dsimp only [List.set]
    refine R_iload (q := 242) rfl rfl rfl ?_
    refine R_iload (q := 244) rfl rfl rfl ?_
    refine R_aload_n (q := 245) rfl rfl rfl ?_
    refine R_getf (q := 248) rfl rfl rfl md_73 rfl ?_
    refine R_iload (q := 250) rfl rfl rfl ?_
    refine R_iaload (q := 251) rfl rfl md_81 (by decide) (by first | assumption | exact in_nI (by omega) (by decide)) ?_
    rw [cl_nI (by omega)]
    rw [e81']
    refine R_imul (q := 252) rfl rfl ?_
    refine R_iadd (q := 253) rfl rfl ?_
    refine R_iload (q := 255) rfl rfl rfl ?_
    refine R_aload_n (q := 256) rfl rfl rfl ?_
    refine R_getf (q := 259) rfl rfl rfl md_73 rfl ?_
    refine R_iload (q := 261) rfl rfl rfl ?_
    refine R_iaload (q := 262) rfl rfl md_82 (by decide) (by first | assumption | exact in_nI (by omega) (by decide)) ?_
    rw [cl_nI (by omega)]
    rw [e82']
    refine R_imul (q := 263) rfl rfl ?_
    refine R_iadd (q := 264) rfl rfl ?_
    refine R_istore (q := 266) rfl rfl (Nat.le_of_ble_eq_true rfl) rfl ?_
    dsimp only [List.set]
    rw [← hx1, ← hy1]
    refine R_aload_n (q := 267) rfl rfl rfl ?_
    refine R_getf (q := 270) rfl rfl rfl md_73 rfl ?_
    refine R_iconst (q := 271) (v := nI 4) rfl rfl (by decide) ?_
    refine R_aload_n (q := 272) rfl rfl rfl ?_
    refine R_getf (q := 275) rfl rfl rfl md_73 rfl ?_
    rw [upd_e]
    refine R_imul (q := 276) rfl rfl ?_
    rw [pk_mul]
    refine R_iload (q := 278) rfl rfl rfl ?_
    refine R_iload (q := 280) rfl rfl rfl ?_
    refine R_icmp_ge (q := 283) (t := 288) rfl rfl rfl (fun h280 => ?_) (fun h280 => ?_)
    · refine R_iload (q := 290) rfl rfl rfl ?_
      refine h290 _ ?_
      first
        | exact (if_neg (fun z => i_lnl h280 z)).symm
        | exact (if_pos (i_nlt h280)).symm
    · refine R_iload (q := 285) rfl rfl rfl ?_
      refine R_goto (t := 290) rfl rfl ?_
      refine h290 _ ?_
      first
        | exact (if_neg (fun z => i_lnl h280 z)).symm
        | exact (if_pos (i_nlt h280)).symm
end P54
