/-! ===== THE SMALL MACHINE: the bytecode of this system run over numbers, addresses and cells alone =====
An address 0 is the script; every other is a cell that the run has made, in the order of making. -/
abbrev mm_E : Type := (Nat × vp_A) ⊕ (Nat × List Value)
abbrev mm_M : Type := (Nat → Option mm_E) × Nat × Nat
abbrev mm_L : Type := List (Option Value)
abbrev mm_S : Type := Nat × (Nat → Int32)
def mm_y (k : Nat) : MethodName := mm_yL.getD k yL_law
def mm_by (k : Nat) : ByteArray := mm_byL.getD k code
def mm_mx (k : Nat) : Nat := mm_mxL.getD k 0
def mm_rt (k : Nat) : Option FieldType := mm_rtL.getD k none
def mm_ow (k : Nat) : Nat := mm_owL.getD k 0
def mm_np (k : Nat) : Nat := mm_npL.getD k 0
def mm_in (k : Nat) : Bool := mm_inL.getD k false
def mm_po (k : Nat) : Nat × Nat × Nat × Nat := mm_poL.getD k (0, 0, 0, 0)
def mm_co (k : Nat) : List (Nat × Instr) := mm_coL.getD k []
def mm_lk {α : Type} : List (Nat × α) → Nat → Option α
  | [], _ => none
  | x :: r, p => if p = x.1 then some x.2 else mm_lk r p
def mm_l2 {α : Type} : List ((Nat × Nat) × α) → Nat → Nat → Option α
  | [], _, _ => none
  | x :: r, p, q => if p = x.1.1 ∧ q = x.1.2 then some x.2 else mm_l2 r p q
theorem mm_lk_mem {α : Type} {l : List (Nat × α)} {p : Nat} {v : α} (h : mm_lk l p = some v) : (p, v) ∈ l := by
  induction l with
  | nil => cases h
  | cons x r ih =>
    unfold mm_lk at h
    by_cases hp : p = x.1
    · rw [if_pos hp] at h
      cases h
      rw [hp]
      exact List.mem_cons_self
    · rw [if_neg hp] at h
      exact List.mem_cons_of_mem _ (ih h)
theorem mm_l2_mem {α : Type} {l : List ((Nat × Nat) × α)} {p q : Nat} {v : α} (h : mm_l2 l p q = some v) : ((p, q), v) ∈ l := by
  induction l with
  | nil => cases h
  | cons x r ih =>
    unfold mm_l2 at h
    by_cases hp : p = x.1.1 ∧ q = x.1.2
    · rw [if_pos hp] at h
      cases h
      rw [hp.1, hp.2]
      exact List.mem_cons_self
    · rw [if_neg hp] at h
      exact List.mem_cons_of_mem _ (ih h)
def mm_cd (k pc : Nat) : Option Instr := mm_lk (mm_co k) pc
/-- the length that an instruction must have -/
def mm_ln (i : Instr) (n : Nat) : Bool := match i with
  | .tableswitch .. => true
  | .lookupswitch .. => true
  | .iload _ => n == 2
  | .aload _ => n == 2
  | .istore _ => n == 2
  | .astore _ => n == 2
  | .bipush _ => n == 2
  | .newarray _ => n == 2
  | .ldc _ => n == 2
  | .sipush _ => n == 3
  | .ldc_w _ => n == 3
  | .iinc _ _ => n == 3
  | .if_icmp _ _ => n == 3
  | .ifCond _ _ => n == 3
  | .goto _ => n == 3
  | .getfield _ => n == 3
  | .putfield _ => n == 3
  | .new _ => n == 3
  | .anewarray _ => n == 3
  | .invokevirtual _ => n == 3
  | .invokestatic _ => n == 3
  | .invokespecial _ => n == 3
  | _ => n == 1
def mm_dk (cc : ByteArray) (x : Nat × Instr) : Bool := match decode cc x.1 with
  | .ok (i, n) => decide (i = x.2) && mm_ln i n
  | .error _ => false
def mm_dP (k : Nat) : Prop := (mm_co k).all (mm_dk (mm_by k)) = true
