-- cells
def mm_u (f : Nat → Option mm_E) (a : Nat) (c : mm_E) : Nat → Option mm_E := fun k => if k = a then some c else f k
def mm_put (M : mm_M) (a : Nat) (c : mm_E) : mm_M := (mm_u M.1 a c, M.2)
def mm_add (M : mm_M) (c : mm_E) (z : Nat) : mm_M := (mm_u M.1 M.2.1 c, M.2.1 + 1, M.2.2 + z)
def mm_tg (pc : Nat) (off : Int) : Option Nat := if 0 ≤ (pc : Int) + off then some ((pc : Int) + off).toNat else none
abbrev mm_F : Type := Nat × mm_L × List Value × mm_M
def mm_ldi (k len pc : Nat) (L : mm_L) (st : List Value) (M : mm_M) : Option mm_F := match L[k]? with
  | some (some (.int x)) => some (pc + len, L, .int x :: st, M)
  | _ => none
def mm_lda (k len pc : Nat) (L : mm_L) (st : List Value) (M : mm_M) : Option mm_F := match L[k]? with
  | some (some (.ref x)) => some (pc + len, L, .ref x :: st, M)
  | _ => none
def mm_sti (k len pc : Nat) (L : mm_L) (st : List Value) (M : mm_M) : Option mm_F := match st with
  | .int x :: r => if k < L.length then some (pc + len, L.set k (some (.int x)), r, M) else none
  | _ => none
def mm_sta (k len pc : Nat) (L : mm_L) (st : List Value) (M : mm_M) : Option mm_F := match st with
  | .ref x :: r => if k < L.length then some (pc + len, L.set k (some (.ref x)), r, M) else none
  | _ => none
def mm_inc (k : Nat) (n : Int) (pc : Nat) (L : mm_L) (st : List Value) (M : mm_M) : Option mm_F := match L[k]? with
  | some (some (.int x)) => some (pc + 3, L.set k (some (.int (x + Int32.ofInt n))), st, M)
  | _ => none
def mm_b2 (f : Int32 → Int32 → Int32) (pc : Nat) (L : mm_L) (st : List Value) (M : mm_M) : Option mm_F := match st with
  | .int y :: .int x :: r => some (pc + 1, L, .int (f x y) :: r, M)
  | _ => none
def mm_b3 (f : Int32 → Int32 → Int32) (pc : Nat) (L : mm_L) (st : List Value) (M : mm_M) : Option mm_F := match st with
  | .int y :: .int x :: r => if y = 0 then none else some (pc + 1, L, .int (f x y) :: r, M)
  | _ => none
/-- what a comparison says -/
def mm_cc (c : ClassFile.Cond) (x y : Int32) : Bool := match c with
  | .eq => decide (x = y)
  | .ne => decide (¬ x = y)
  | .lt => decide (x < y)
  | .ge => decide (y ≤ x)
  | .gt => decide (y < x)
  | .le => decide (x ≤ y)
def mm_br (b : Bool) (off : Int) (pc : Nat) (L : mm_L) (st : List Value) (M : mm_M) : Option mm_F := match mm_tg pc off with
  | some t => some (if b then t else pc + 3, L, st, M)
  | none => none
def mm_fit (ty : FieldType) (v : Value) : Bool := match ty, v with
  | .boolean, .int x => decide (x = 0 ∨ x = 1)
  | .int, .int _ => true
  | .object _, .ref _ => true
  | .array _, .ref _ => true
  | _, _ => false
def mm_ia (t : Nat) (S : mm_S) (pc : Nat) (L : mm_L) (st : List Value) (M : mm_M) : Option mm_F := match st with
  | .int i :: .ref 0 :: r => if t = 0 ∧ ¬ (i < 0 ∨ S.1 ≤ i.toNatClampNeg) then some (pc + 1, L, .int (S.2 i.toNatClampNeg) :: r, M) else none
  | .int i :: .ref (a + 1) :: r => match M.1 (a + 1) with
    | some (.inl (t', n, .inl f)) => if t' = t ∧ ¬ (i < 0 ∨ n ≤ i.toNatClampNeg) then some (pc + 1, L, .int (f i.toNatClampNeg) :: r, M) else none
    | _ => none
  | _ => none
def mm_aa (pc : Nat) (L : mm_L) (st : List Value) (M : mm_M) : Option mm_F := match st with
  | .int i :: .ref a :: r => match M.1 a with
    | some (.inl (t, n, .inr (.inr (.inr (.inr f))))) => if (mm_tc t).isSome = true ∧ ¬ (i < 0 ∨ n ≤ i.toNatClampNeg) then (match f i.toNatClampNeg with
      | some q => some (pc + 1, L, .ref q :: r, M)
      | none => none) else none
    | _ => none
  | _ => none
def mm_is (t : Nat) (pc : Nat) (L : mm_L) (st : List Value) (M : mm_M) : Option mm_F := match st with
  | .int x :: .int i :: .ref a :: r => match M.1 a with
    | some (.inl (t', n, .inl f)) => if (t' = t ∧ (t = 1 → x = 0 ∨ x = 1)) ∧ ¬ (i < 0 ∨ n ≤ i.toNatClampNeg) then some (pc + 1, L, r, mm_put M a (.inl (t', n, .inl (upd f i.toNatClampNeg x)))) else none
    | _ => none
  | _ => none
def mm_as (pc : Nat) (L : mm_L) (st : List Value) (M : mm_M) : Option mm_F := match st with
  | .ref v :: .int i :: .ref a :: r => match M.1 a, M.1 v with
    | some (.inl (t, n, .inr (.inr (.inr (.inr f))))), some (.inr (ci, _)) => if mm_tc t = some ci ∧ ¬ (i < 0 ∨ n ≤ i.toNatClampNeg) then some (pc + 1, L, r, mm_put M a (.inl (t, n, .inr (.inr (.inr (.inr (va_up f i.toNatClampNeg (some v)))))))) else none
    | _, _ => none
  | _ => none
def mm_al (S : mm_S) (pc : Nat) (L : mm_L) (st : List Value) (M : mm_M) : Option mm_F := match st with
  | .ref 0 :: r => some (pc + 1, L, .int (Int32.ofNat S.1) :: r, M)
  | .ref (a + 1) :: r => match M.1 (a + 1) with
    | some (.inl (t, n, _)) => if t < 4 then some (pc + 1, L, .int (Int32.ofNat n) :: r, M) else none
    | _ => none
  | _ => none
def mm_gf (o k : Nat) (pc : Nat) (L : mm_L) (st : List Value) (M : mm_M) : Option mm_F := match st with
  | .ref a :: r => match mm_l2 mm_fT o k, M.1 a with
    | some (ci, j, _), some (.inr (c', fs)) => if c' = ci then (match fs[j]? with
      | some v => some (pc + 3, L, v :: r, M)
      | none => none) else none
    | _, _ => none
  | _ => none
def mm_pf (o k : Nat) (ini : Bool) (pc : Nat) (L : mm_L) (st : List Value) (M : mm_M) : Option mm_F := match st with
  | v :: .ref a :: r => match mm_l2 mm_fT o k, M.1 a with
    | some (ci, j, _), some (.inr (c', fs)) => if (c' = ci ∧ j < fs.length) ∧ mm_fit (mm_fy ci j) v = true ∧ ((mm_T ci j).2.2.2 = true → ini = true ∧ o = ci) then some (pc + 3, L, r, mm_put M a (.inr (c', fs.set j v))) else none
    | _, _ => none
  | _ => none
def mm_nw (o k : Nat) (pc : Nat) (L : mm_L) (st : List Value) (M : mm_M) : Option mm_F := match mm_l2 mm_nT o k with
  | some (ci, _) => some (pc + 3, L, .ref M.2.1 :: st, mm_add M (.inr (ci, mm_df ci)) (mm_N ci))
  | none => none
def mm_na (t : Nat) (pc : Nat) (L : mm_L) (st : List Value) (M : mm_M) : Option mm_F := match st with
  | .int n :: r => if n < 0 ∨ 65536 < n.toNatClampNeg then none else some (pc + 2, L, .ref M.2.1 :: r, mm_add M (.inl (t, n.toNatClampNeg, .inl (fun _ => 0))) n.toNatClampNeg)
  | _ => none
def mm_an (o k : Nat) (pc : Nat) (L : mm_L) (st : List Value) (M : mm_M) : Option mm_F := match st with
  | .int n :: r => match mm_l2 mm_aT o k with
    | some (t, _, _) => if n < 0 ∨ 65536 < n.toNatClampNeg then none else some (pc + 3, L, .ref M.2.1 :: r, mm_add M (.inl (t, n.toNatClampNeg, .inr (.inr (.inr (.inr (fun _ => none)))))) n.toNatClampNeg)
    | none => none
  | _ => none
def mm_ts (d lo hi : Int) (offs : Array Int) (pc : Nat) (L : mm_L) (st : List Value) (M : mm_M) : Option mm_F := match st with
  | .int x :: r => if x.toInt < lo ∨ hi < x.toInt then (match mm_tg pc d with
      | some t => some (t, L, r, M)
      | none => none) else (match offs[(x.toInt - lo).toNat]? with
      | some off => (match mm_tg pc off with
        | some t => some (t, L, r, M)
        | none => none)
      | none => none)
  | _ => none
def mm_lw (d : Int) (ps : Array (Int × Int)) (pc : Nat) (L : mm_L) (st : List Value) (M : mm_M) : Option mm_F := match st with
  | .int x :: r => if (ps.toList.zip (ps.toList.drop 1)).all (fun (a, next) => a.1 < next.1) = true then (match mm_tg pc (Op.lookupswitch.offset ps.toList d x.toInt) with
      | some t => some (t, L, r, M)
      | none => none) else none
  | _ => none
/-- one instruction that neither calls nor returns -/
def mm_st (o : Nat) (ini : Bool) (S : mm_S) (i : Instr) (pc : Nat) (L : mm_L) (st : List Value) (M : mm_M) : Option mm_F := match i with
  | .iconst n => some (pc + 1, L, .int (Int32.ofInt n) :: st, M)
  | .bipush n => some (pc + 2, L, .int (Int8.ofInt n).toInt32 :: st, M)
  | .sipush n => some (pc + 3, L, .int (Int16.ofInt n).toInt32 :: st, M)
  | .ldc k => (match mm_l2 mm_cT o k with
    | some (v, _) => some (pc + 2, L, .int v :: st, M)
    | none => none)
  | .ldc_w k => (match mm_l2 mm_cT o k with
    | some (v, _) => some (pc + 3, L, .int v :: st, M)
    | none => none)
  | .iload_n k => mm_ldi k.val 1 pc L st M
  | .iload k => mm_ldi k 2 pc L st M
  | .aload_n k => mm_lda k.val 1 pc L st M
  | .aload k => mm_lda k 2 pc L st M
  | .istore_n k => mm_sti k.val 1 pc L st M
  | .istore k => mm_sti k 2 pc L st M
  | .astore_n k => mm_sta k.val 1 pc L st M
  | .astore k => mm_sta k 2 pc L st M
  | .iinc k n => mm_inc k n pc L st M
  | .iadd => mm_b2 (fun x y => x + y) pc L st M
  | .isub => mm_b2 (fun x y => x - y) pc L st M
  | .imul => mm_b2 (fun x y => x * y) pc L st M
  | .iand => mm_b2 (fun x y => x &&& y) pc L st M
  | .ior => mm_b2 (fun x y => x ||| y) pc L st M
  | .ixor => mm_b2 (fun x y => x ^^^ y) pc L st M
  | .ishl => mm_b2 (fun x y => x <<< (y &&& 31)) pc L st M
  | .ishr => mm_b2 (fun x y => x >>> (y &&& 31)) pc L st M
  | .iushr => mm_b2 (fun x y => (x.toUInt32 >>> (y.toUInt32 &&& Int32.toUInt32 31)).toInt32) pc L st M
  | .idiv => mm_b3 (fun x y => x / y) pc L st M
  | .irem => mm_b3 (fun x y => x - x / y * y) pc L st M
  | .ineg => (match st with
    | .int x :: r => some (pc + 1, L, .int (-x) :: r, M)
    | _ => none)
  | .dup => (match st with
    | v :: r => if v.category = 1 then some (pc + 1, L, v :: v :: r, M) else none
    | _ => none)
  | .dup2 => (match st with
    | v :: w :: r => if v.category = 1 ∧ w.category = 1 then some (pc + 1, L, v :: w :: v :: w :: r, M) else none
    | _ => none)
  | .if_icmp c off => (match st with
    | .int y :: .int x :: r => mm_br (mm_cc c x y) off pc L r M
    | _ => none)
  | .ifCond c off => (match st with
    | .int x :: r => mm_br (mm_cc c x 0) off pc L r M
    | _ => none)
  | .goto off => mm_br true off pc L st M
  | .tableswitch d lo hi offs => mm_ts d lo hi offs pc L st M
  | .lookupswitch d ps => mm_lw d ps pc L st M
  | .arraylength => mm_al S pc L st M
  | .iaload => mm_ia 0 S pc L st M
  | .baload => mm_ia 1 S pc L st M
  | .aaload => mm_aa pc L st M
  | .iastore => mm_is 0 pc L st M
  | .bastore => mm_is 1 pc L st M
  | .aastore => mm_as pc L st M
  | .getfield k => mm_gf o k pc L st M
  | .putfield k => mm_pf o k ini pc L st M
  | .new k => mm_nw o k pc L st M
  | .newarray .int => mm_na 0 pc L st M
  | .newarray .boolean => mm_na 1 pc L st M
  | .anewarray k => mm_an o k pc L st M
  | _ => none
/-- a call: the method, its arguments, what lies under them -/
def mm_rc (kind k : Nat) (as : List Value) (M : mm_M) : Bool := if kind = 1 then true else match as with
  | .ref a :: _ => (kind == 2) || (match M.1 a with
    | some (.inr (c, _)) => c == mm_ow k
    | _ => false)
  | _ => false
def mm_nn (kind k : Nat) : Nat := mm_np k + (if kind = 1 then 0 else 1)
def mm_ck (o kind idx : Nat) (st : List Value) (M : mm_M) : Option (Nat × List Value × List Value) := match mm_l2 mm_mT o idx with
  | some (k, kd, _, _) => if (kd = kind ∧ mm_nn kind k ≤ st.length) ∧ ((st.drop (mm_nn kind k)).map fun v => v.category).sum ≤ 8 ∧ (st.take (mm_nn kind k)).all (fun v => v.category == 1) = true ∧ mm_rc kind k (st.take (mm_nn kind k)).reverse M = true then some (k, (st.take (mm_nn kind k)).reverse, st.drop (mm_nn kind k)) else none
  | none => none
def mm_cl (o : Nat) (i : Instr) (st : List Value) (M : mm_M) : Option (Nat × List Value × List Value) := match i with
  | .invokevirtual k => mm_ck o 0 k st M
  | .invokestatic k => mm_ck o 1 k st M
  | .invokespecial k => mm_ck o 2 k st M
  | _ => none
/-- Object's constructor; max, min and abs of Math -/
def mm_oi (o d : Nat) (i : Instr) (st : List Value) : Option (List Value) := match i, st with
  | .invokespecial k, .ref _ :: r => if (mm_l2 mm_oT o k).isSome = true ∧ 1 ≤ d ∧ (r.map fun v => v.category).sum ≤ 8 then some r else none
  | .invokestatic k, .int y :: r => if 1 ≤ d ∧ (r.map fun v => v.category).sum ≤ 8 then (match mm_l2 mm_jT o k, r with
    | some (0, _), .int x :: r' => some (.int (if x < y then y else x) :: r')
    | some (1, _), .int x :: r' => some (.int (if y < x then y else x) :: r')
    | some (2, _), r' => some (.int (if 0 ≤ y then y else 0 - y) :: r')
    | _, _ => none) else none
  | _, _ => none
def mm_rv (i : Instr) (rt : Option FieldType) (st : List Value) : Option (Option Value) := match i, rt, st with
  | .ireturn, some .int, [.int x] => some (some (.int x))
  | .ireturn, some .boolean, [.int x] => if x = 0 ∨ x = 1 then some (some (.int x)) else none
  | .return_, none, [] => some none
  | .areturn, some (.object _), [.ref a] => some (some (.ref a))
  | _, _, _ => none
def mm_en (k : Nat) (as : List Value) : mm_L := as.map some ++ List.replicate (mm_mx k - as.length) none
/-- n steps at most, calls at most d deep: method mi from pc on -/
def mm_ex (S : mm_S) : Nat → Nat → Nat → Nat → mm_L → List Value → mm_M → Option (Option Value × mm_M)
  | 0, _, _, _, _, _, _ => none
  | n + 1, d, mi, pc, L, st, M => match mm_cd mi pc with
    | none => none
    | some i => match mm_cl (mm_ow mi) i st M with
      | some (k, as, r) => (match d with
        | 0 => none
        | d + 1 => match mm_ex S n d k 0 (mm_en k as) [] M with
          | none => none
          | some (v, M1) => mm_ex S n (d + 1) mi (pc + 3) L (v.toList ++ r) M1)
      | none => match mm_rv i (mm_rt mi) st with
        | some v => some (v, M)
        | none => match mm_oi (mm_ow mi) d i st with
          | some r => mm_ex S n d mi (pc + 3) L r M
          | none => match mm_st (mm_ow mi) (mm_in mi) S i pc L st M with
            | none => none
            | some (pc', L', st', M') => mm_ex S n d mi pc' L' st' M'
