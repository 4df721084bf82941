/-! ===== RULES: mm_R S d mi pc L st M P: the run from here ends, and its answer and cells have P ===== -/
theorem mm_oi_up {o d d' : Nat} {i : Instr} {st r : List Value} (h : mm_oi o d i st = some r) (hd : d ≤ d') : mm_oi o d' i st = some r := by
  unfold mm_oi at h ⊢
  split at h
  · split at h
    · next hc =>
      (try dsimp only)
      rw [if_pos ⟨hc.1, by omega, hc.2.2⟩]
      exact h
    · cases h
  · split at h
    · next hc =>
      (try dsimp only)
      rw [if_pos ⟨by omega, hc.2⟩]
      exact h
    · cases h
  · cases h
theorem mm_up2 (S : mm_S) : ∀ (n d mi pc : Nat) (L : mm_L) (st : List Value) (M : mm_M) (r : Option Value × mm_M), mm_ex S n d mi pc L st M = some r → ∀ n' d', n ≤ n' → d ≤ d' → mm_ex S n' d' mi pc L st M = some r := by
  intro n
  induction n with
  | zero => intro d mi pc L st M r h; cases h
  | succ n ih =>
    intro d mi pc L st M r h n' d' hn hd
    obtain ⟨n2, rfl⟩ : ∃ k, n' = k + 1 := ⟨n' - 1, by omega⟩
    unfold mm_ex at h ⊢
    split at h
    · cases h
    · next i hi =>
      (try rw [hi])
      (try dsimp only)
      split at h
      · next k as r' hcl =>
        (try rw [hcl])
        (try dsimp only)
        split at h
        · cases h
        · next d1 =>
          obtain ⟨d2, rfl⟩ : ∃ k, d' = k + 1 := ⟨d' - 1, by omega⟩
          (try dsimp only)
          split at h
          · cases h
          · next v1 M1 hcall =>
            rw [ih _ _ _ _ _ _ _ hcall n2 d2 (by omega) (by omega)]
            exact ih _ _ _ _ _ _ _ h n2 (d2 + 1) (by omega) (by omega)
      · next hcl =>
        (try rw [hcl])
        (try dsimp only)
        split at h
        · next v1 hrv =>
          (try rw [hrv])
          exact h
        · next hrv =>
          (try rw [hrv])
          (try dsimp only)
          split at h
          · next r' hoi =>
            rw [mm_oi_up hoi hd]
            exact ih _ _ _ _ _ _ _ h n2 d' (by omega) hd
          · next hoi =>
            cases hoi2 : mm_oi (mm_ow mi) d' i st with
            | none =>
              (try dsimp only)
              split at h
              · cases h
              · next hst =>
                (try rw [hst])
                exact ih _ _ _ _ _ _ _ h n2 d' (by omega) hd
            | some r2 =>
              exfalso
              have hnone : mm_st (mm_ow mi) (mm_in mi) S i pc L st M = none := by
                unfold mm_oi at hoi2
                split at hoi2
                · rfl
                · rfl
                · cases hoi2
              rw [hnone] at h
              cases h
theorem mm_ia_at {t : Nat} {S : mm_S} {pc a n : Nat} {f : Nat → Int32} {i : Int32} {L : mm_L} {st : List Value} {M : mm_M} (ha : M.1 a = some (.inl (t, n, .inl f))) (h0 : a ≠ 0) (hin : vp_in i n) : mm_ia t S pc L (.int i :: .ref a :: st) M = some (pc + 1, L, .int (f i.toNatClampNeg) :: st, M) := by
  obtain ⟨z, rfl⟩ : ∃ z, a = z + 1 := ⟨a - 1, by omega⟩
  unfold mm_ia
  dsimp only
  rw [ha]
  dsimp only
  rw [if_pos ⟨rfl, hin⟩]
def mm_R (S : mm_S) (d mi pc : Nat) (L : mm_L) (st : List Value) (M : mm_M) (P : Option Value → mm_M → Prop) : Prop := ∃ (n : Nat) (v : Option Value) (M' : mm_M), mm_ex S n d mi pc L st M = some (v, M') ∧ P v M'
section RR
variable {S : mm_S} {d mi pc q : Nat} {L : mm_L} {st r : List Value} {M : mm_M} {P : Option Value → mm_M → Prop}
theorem R_mono {P' : Option Value → mm_M → Prop} (h : mm_R S d mi pc L st M P) (hp : ∀ v M', P v M' → P' v M') : mm_R S d mi pc L st M P' := by
  obtain ⟨n, v, M', h1, h2⟩ := h
  exact ⟨n, v, M', h1, hp v M' h2⟩
theorem R_deep {d' : Nat} (h : mm_R S d mi pc L st M P) (hd : d ≤ d') : mm_R S d' mi pc L st M P := by
  obtain ⟨n, v, M', h1, h2⟩ := h
  exact ⟨n, v, M', mm_up2 S _ _ _ _ _ _ _ _ h1 n d' (Nat.le_refl _) hd, h2⟩
theorem R_at {L' : mm_L} {st' : List Value} (hL : L = L') (hst : st = st') (h : mm_R S d mi pc L' st' M P) : mm_R S d mi pc L st M P := by
  subst hL; subst hst; exact h
theorem R_st {i : Instr} {pc' : Nat} {L' : mm_L} {st' : List Value} {M' : mm_M} (hc : mm_cd mi pc = some i) (h1 : mm_cl (mm_ow mi) i st M = none) (h2 : mm_rv i (mm_rt mi) st = none) (h3 : mm_oi (mm_ow mi) d i st = none) (hst : mm_st (mm_ow mi) (mm_in mi) S i pc L st M = some (pc', L', st', M')) (k : mm_R S d mi pc' L' st' M' P) : mm_R S d mi pc L st M P := by
  obtain ⟨n, v, M2, h, hp⟩ := k
  refine ⟨n + 1, v, M2, ?_, hp⟩
  unfold mm_ex
  rw [hc]
  dsimp only
  rw [h1]
  dsimp only
  rw [h2]
  dsimp only
  rw [h3]
  dsimp only
  rw [hst]
  exact h
theorem R_ret {i : Instr} {v : Option Value} (hc : mm_cd mi pc = some i) (h1 : mm_cl (mm_ow mi) i st M = none) (h2 : mm_rv i (mm_rt mi) st = some v) (hp : P v M) : mm_R S d mi pc L st M P := by
  refine ⟨1, v, M, ?_, hp⟩
  unfold mm_ex
  rw [hc]
  dsimp only
  rw [h1]
  dsimp only
  rw [h2]
theorem R_nat {i : Instr} {st' : List Value} (hc : mm_cd mi pc = some i) (h1 : mm_cl (mm_ow mi) i st M = none) (h2 : mm_rv i (mm_rt mi) st = none) (h3 : mm_oi (mm_ow mi) d i st = some st') (hq : pc + 3 = q) (k : mm_R S d mi q L st' M P) : mm_R S d mi pc L st M P := by
  subst hq
  obtain ⟨n, v, M2, h, hp⟩ := k
  refine ⟨n + 1, v, M2, ?_, hp⟩
  unfold mm_ex
  rw [hc]
  dsimp only
  rw [h1]
  dsimp only
  rw [h2]
  dsimp only
  rw [h3]
  exact h
theorem R_call {i : Instr} {k : Nat} {as : List Value} (hc : mm_cd mi pc = some i) (h1 : mm_cl (mm_ow mi) i st M = some (k, as, r)) (hq : pc + 3 = q) (kk : mm_R S d k 0 (mm_en k as) [] M (fun v M' => mm_R S (d + 1) mi q L (v.toList ++ r) M' P)) : mm_R S (d + 1) mi pc L st M P := by
  subst hq
  obtain ⟨n1, v1, M1, h, n2, v2, M2, h', hp⟩ := kk
  refine ⟨n1 + n2 + 1, v2, M2, ?_, hp⟩
  unfold mm_ex
  rw [hc]
  dsimp only
  rw [h1]
  dsimp only
  rw [mm_up2 S _ _ _ _ _ _ _ _ h (n1 + n2) d (by omega) (Nat.le_refl _)]
  exact mm_up2 S _ _ _ _ _ _ _ _ h' (n1 + n2) (d + 1) (by omega) (Nat.le_refl _)
theorem R_iconst {n : Int} {v : Int32} (hc : mm_cd mi pc = some (.iconst n)) (hq : pc + 1 = q) (hv : Int32.ofInt n = v) (k : mm_R S d mi q L (.int v :: st) M P) : mm_R S d mi pc L (st) M P := by
  subst hq
  exact R_st hc rfl rfl rfl (by subst hv; rfl) k
theorem R_bipush {n : Int} {v : Int32} (hc : mm_cd mi pc = some (.bipush n)) (hq : pc + 2 = q) (hv : (Int8.ofInt n).toInt32 = v) (k : mm_R S d mi q L (.int v :: st) M P) : mm_R S d mi pc L (st) M P := by
  subst hq
  exact R_st hc rfl rfl rfl (by subst hv; rfl) k
theorem R_sipush {n : Int} {v : Int32} (hc : mm_cd mi pc = some (.sipush n)) (hq : pc + 3 = q) (hv : (Int16.ofInt n).toInt32 = v) (k : mm_R S d mi q L (.int v :: st) M P) : mm_R S d mi pc L (st) M P := by
  subst hq
  exact R_st hc rfl rfl rfl (by subst hv; rfl) k
theorem R_ldc {c z : Nat} {v : Int32} (hc : mm_cd mi pc = some (.ldc c)) (hq : pc + 2 = q) (hv : mm_l2 mm_cT (mm_ow mi) c = some (v, z)) (k : mm_R S d mi q L (.int v :: st) M P) : mm_R S d mi pc L (st) M P := by
  subst hq
  exact R_st hc rfl rfl rfl (by unfold mm_st; dsimp only; rw [hv]) k
theorem R_ldc_w {c z : Nat} {v : Int32} (hc : mm_cd mi pc = some (.ldc_w c)) (hq : pc + 3 = q) (hv : mm_l2 mm_cT (mm_ow mi) c = some (v, z)) (k : mm_R S d mi q L (.int v :: st) M P) : mm_R S d mi pc L (st) M P := by
  subst hq
  exact R_st hc rfl rfl rfl (by unfold mm_st; dsimp only; rw [hv]) k
theorem R_iload_n {c : Fin 4} {x : Int32} (hc : mm_cd mi pc = some (.iload_n c)) (hq : pc + 1 = q) (hL : L[c.val]? = some (some (.int x))) (k : mm_R S d mi q L (.int x :: st) M P) : mm_R S d mi pc L (st) M P := by
  subst hq
  exact R_st hc rfl rfl rfl (by unfold mm_st; dsimp only; unfold mm_ldi; rw [hL]) k
theorem R_iload {c : Nat} {x : Int32} (hc : mm_cd mi pc = some (.iload c)) (hq : pc + 2 = q) (hL : L[c]? = some (some (.int x))) (k : mm_R S d mi q L (.int x :: st) M P) : mm_R S d mi pc L (st) M P := by
  subst hq
  exact R_st hc rfl rfl rfl (by unfold mm_st; dsimp only; unfold mm_ldi; rw [hL]) k
theorem R_aload_n {c : Fin 4} {x : Nat} (hc : mm_cd mi pc = some (.aload_n c)) (hq : pc + 1 = q) (hL : L[c.val]? = some (some (.ref x))) (k : mm_R S d mi q L (.ref x :: st) M P) : mm_R S d mi pc L (st) M P := by
  subst hq
  exact R_st hc rfl rfl rfl (by unfold mm_st; dsimp only; unfold mm_lda; rw [hL]) k
theorem R_aload {c : Nat} {x : Nat} (hc : mm_cd mi pc = some (.aload c)) (hq : pc + 2 = q) (hL : L[c]? = some (some (.ref x))) (k : mm_R S d mi q L (.ref x :: st) M P) : mm_R S d mi pc L (st) M P := by
  subst hq
  exact R_st hc rfl rfl rfl (by unfold mm_st; dsimp only; unfold mm_lda; rw [hL]) k
theorem R_istore_n {c : Fin 4} {x : Int32} {L2 : mm_L} (hc : mm_cd mi pc = some (.istore_n c)) (hq : pc + 1 = q) (hk : c.val < L.length) (hL : L.set c.val (some (.int x)) = L2) (k : mm_R S d mi q L2 (st) M P) : mm_R S d mi pc L (.int x :: st) M P := by
  subst hq
  exact R_st hc rfl rfl rfl (by subst hL; unfold mm_st; dsimp only; unfold mm_sti; dsimp only; rw [if_pos hk]) k
theorem R_istore {c : Nat} {x : Int32} {L2 : mm_L} (hc : mm_cd mi pc = some (.istore c)) (hq : pc + 2 = q) (hk : c < L.length) (hL : L.set c (some (.int x)) = L2) (k : mm_R S d mi q L2 (st) M P) : mm_R S d mi pc L (.int x :: st) M P := by
  subst hq
  exact R_st hc rfl rfl rfl (by subst hL; unfold mm_st; dsimp only; unfold mm_sti; dsimp only; rw [if_pos hk]) k
theorem R_astore_n {c : Fin 4} {x : Nat} {L2 : mm_L} (hc : mm_cd mi pc = some (.astore_n c)) (hq : pc + 1 = q) (hk : c.val < L.length) (hL : L.set c.val (some (.ref x)) = L2) (k : mm_R S d mi q L2 (st) M P) : mm_R S d mi pc L (.ref x :: st) M P := by
  subst hq
  exact R_st hc rfl rfl rfl (by subst hL; unfold mm_st; dsimp only; unfold mm_sta; dsimp only; rw [if_pos hk]) k
theorem R_astore {c : Nat} {x : Nat} {L2 : mm_L} (hc : mm_cd mi pc = some (.astore c)) (hq : pc + 2 = q) (hk : c < L.length) (hL : L.set c (some (.ref x)) = L2) (k : mm_R S d mi q L2 (st) M P) : mm_R S d mi pc L (.ref x :: st) M P := by
  subst hq
  exact R_st hc rfl rfl rfl (by subst hL; unfold mm_st; dsimp only; unfold mm_sta; dsimp only; rw [if_pos hk]) k
theorem R_iinc {c : Nat} {n : Int} {x y : Int32} {L2 : mm_L} (hc : mm_cd mi pc = some (.iinc c n)) (hq : pc + 3 = q) (hx : L[c]? = some (some (.int x))) (hy : x + Int32.ofInt n = y) (hL : L.set c (some (.int y)) = L2) (k : mm_R S d mi q L2 (st) M P) : mm_R S d mi pc L (st) M P := by
  subst hq
  exact R_st hc rfl rfl rfl (by subst hy; subst hL; unfold mm_st; dsimp only; unfold mm_inc; rw [hx]) k
theorem R_iadd {x y : Int32} (hc : mm_cd mi pc = some (.iadd)) (hq : pc + 1 = q)  (k : mm_R S d mi q L (.int (x + y) :: st) M P) : mm_R S d mi pc L (.int y :: .int x :: st) M P := by
  subst hq
  exact R_st hc rfl rfl rfl rfl k
theorem R_isub {x y : Int32} (hc : mm_cd mi pc = some (.isub)) (hq : pc + 1 = q)  (k : mm_R S d mi q L (.int (x - y) :: st) M P) : mm_R S d mi pc L (.int y :: .int x :: st) M P := by
  subst hq
  exact R_st hc rfl rfl rfl rfl k
theorem R_imul {x y : Int32} (hc : mm_cd mi pc = some (.imul)) (hq : pc + 1 = q)  (k : mm_R S d mi q L (.int (x * y) :: st) M P) : mm_R S d mi pc L (.int y :: .int x :: st) M P := by
  subst hq
  exact R_st hc rfl rfl rfl rfl k
theorem R_iand {x y : Int32} (hc : mm_cd mi pc = some (.iand)) (hq : pc + 1 = q)  (k : mm_R S d mi q L (.int (x &&& y) :: st) M P) : mm_R S d mi pc L (.int y :: .int x :: st) M P := by
  subst hq
  exact R_st hc rfl rfl rfl rfl k
theorem R_ior {x y : Int32} (hc : mm_cd mi pc = some (.ior)) (hq : pc + 1 = q)  (k : mm_R S d mi q L (.int (x ||| y) :: st) M P) : mm_R S d mi pc L (.int y :: .int x :: st) M P := by
  subst hq
  exact R_st hc rfl rfl rfl rfl k
theorem R_ixor {x y : Int32} (hc : mm_cd mi pc = some (.ixor)) (hq : pc + 1 = q)  (k : mm_R S d mi q L (.int (x ^^^ y) :: st) M P) : mm_R S d mi pc L (.int y :: .int x :: st) M P := by
  subst hq
  exact R_st hc rfl rfl rfl rfl k
theorem R_ishl {x y : Int32} (hc : mm_cd mi pc = some (.ishl)) (hq : pc + 1 = q)  (k : mm_R S d mi q L (.int (x <<< (y &&& 31)) :: st) M P) : mm_R S d mi pc L (.int y :: .int x :: st) M P := by
  subst hq
  exact R_st hc rfl rfl rfl rfl k
theorem R_ishr {x y : Int32} (hc : mm_cd mi pc = some (.ishr)) (hq : pc + 1 = q)  (k : mm_R S d mi q L (.int (x >>> (y &&& 31)) :: st) M P) : mm_R S d mi pc L (.int y :: .int x :: st) M P := by
  subst hq
  exact R_st hc rfl rfl rfl rfl k
theorem R_iushr {x y : Int32} (hc : mm_cd mi pc = some (.iushr)) (hq : pc + 1 = q)  (k : mm_R S d mi q L (.int ((x.toUInt32 >>> (y.toUInt32 &&& Int32.toUInt32 31)).toInt32) :: st) M P) : mm_R S d mi pc L (.int y :: .int x :: st) M P := by
  subst hq
  exact R_st hc rfl rfl rfl rfl k
theorem R_idiv {x y : Int32} (hc : mm_cd mi pc = some (.idiv)) (hq : pc + 1 = q) (hy : ¬ y = 0) (k : mm_R S d mi q L (.int (x / y) :: st) M P) : mm_R S d mi pc L (.int y :: .int x :: st) M P := by
  subst hq
  exact R_st hc rfl rfl rfl (by unfold mm_st; dsimp only; unfold mm_b3; dsimp only; rw [if_neg hy]) k
theorem R_irem {x y : Int32} (hc : mm_cd mi pc = some (.irem)) (hq : pc + 1 = q) (hy : ¬ y = 0) (k : mm_R S d mi q L (.int (x - x / y * y) :: st) M P) : mm_R S d mi pc L (.int y :: .int x :: st) M P := by
  subst hq
  exact R_st hc rfl rfl rfl (by unfold mm_st; dsimp only; unfold mm_b3; dsimp only; rw [if_neg hy]) k
theorem R_ineg {x : Int32} (hc : mm_cd mi pc = some (.ineg)) (hq : pc + 1 = q)  (k : mm_R S d mi q L (.int (-x) :: st) M P) : mm_R S d mi pc L (.int x :: st) M P := by
  subst hq
  exact R_st hc rfl rfl rfl rfl k
theorem R_dupi {x : Int32} (hc : mm_cd mi pc = some (.dup)) (hq : pc + 1 = q)  (k : mm_R S d mi q L (.int x :: .int x :: st) M P) : mm_R S d mi pc L (.int x :: st) M P := by
  subst hq
  exact R_st hc rfl rfl rfl rfl k
theorem R_dupa {x : Nat} (hc : mm_cd mi pc = some (.dup)) (hq : pc + 1 = q)  (k : mm_R S d mi q L (.ref x :: .ref x :: st) M P) : mm_R S d mi pc L (.ref x :: st) M P := by
  subst hq
  exact R_st hc rfl rfl rfl rfl k
theorem R_dup2 {x : Nat} {i : Int32} (hc : mm_cd mi pc = some (.dup2)) (hq : pc + 1 = q)  (k : mm_R S d mi q L (.int i :: .ref x :: .int i :: .ref x :: st) M P) : mm_R S d mi pc L (.int i :: .ref x :: st) M P := by
  subst hq
  exact R_st hc rfl rfl rfl rfl k
theorem R_icmp_eq {x y : Int32} {off : Int} {t : Nat} (hc : mm_cd mi pc = some (.if_icmp .eq off)) (hq : pc + 3 = q) (ht : mm_tg pc off = some t) (kt : x = y → mm_R S d mi t L st M P) (kf : ¬ x = y → mm_R S d mi q L st M P) : mm_R S d mi pc L (.int y :: .int x :: st) M P := by
  subst hq
  by_cases h : x = y
  · refine R_st hc rfl rfl rfl (pc' := t) ?_ (kt h)
    have hb : mm_cc .eq x y = true := decide_eq_true h
    unfold mm_st
    dsimp only
    unfold mm_br
    rw [ht, hb]
    rfl
  · refine R_st hc rfl rfl rfl (pc' := pc + 3) ?_ (kf h)
    have hb : mm_cc .eq x y = false := decide_eq_false h
    unfold mm_st
    dsimp only
    unfold mm_br
    rw [ht, hb]
    rfl
theorem R_if_eq {x : Int32} {off : Int} {t : Nat} (hc : mm_cd mi pc = some (.ifCond .eq off)) (hq : pc + 3 = q) (ht : mm_tg pc off = some t) (kt : x = 0 → mm_R S d mi t L st M P) (kf : ¬ x = 0 → mm_R S d mi q L st M P) : mm_R S d mi pc L (.int x :: st) M P := by
  subst hq
  by_cases h : x = 0
  · refine R_st hc rfl rfl rfl (pc' := t) ?_ (kt h)
    have hb : mm_cc .eq x 0 = true := decide_eq_true h
    unfold mm_st
    dsimp only
    unfold mm_br
    rw [ht, hb]
    rfl
  · refine R_st hc rfl rfl rfl (pc' := pc + 3) ?_ (kf h)
    have hb : mm_cc .eq x 0 = false := decide_eq_false h
    unfold mm_st
    dsimp only
    unfold mm_br
    rw [ht, hb]
    rfl
theorem R_icmp_ne {x y : Int32} {off : Int} {t : Nat} (hc : mm_cd mi pc = some (.if_icmp .ne off)) (hq : pc + 3 = q) (ht : mm_tg pc off = some t) (kt : ¬ x = y → mm_R S d mi t L st M P) (kf : x = y → mm_R S d mi q L st M P) : mm_R S d mi pc L (.int y :: .int x :: st) M P := by
  subst hq
  by_cases h : x = y
  · refine R_st hc rfl rfl rfl (pc' := pc + 3) ?_ (kf h)
    have hb : mm_cc .ne x y = false := decide_eq_false (fun z => z h)
    unfold mm_st
    dsimp only
    unfold mm_br
    rw [ht, hb]
    rfl
  · refine R_st hc rfl rfl rfl (pc' := t) ?_ (kt h)
    have hb : mm_cc .ne x y = true := decide_eq_true h
    unfold mm_st
    dsimp only
    unfold mm_br
    rw [ht, hb]
    rfl
theorem R_if_ne {x : Int32} {off : Int} {t : Nat} (hc : mm_cd mi pc = some (.ifCond .ne off)) (hq : pc + 3 = q) (ht : mm_tg pc off = some t) (kt : ¬ x = 0 → mm_R S d mi t L st M P) (kf : x = 0 → mm_R S d mi q L st M P) : mm_R S d mi pc L (.int x :: st) M P := by
  subst hq
  by_cases h : x = 0
  · refine R_st hc rfl rfl rfl (pc' := pc + 3) ?_ (kf h)
    have hb : mm_cc .ne x 0 = false := decide_eq_false (fun z => z h)
    unfold mm_st
    dsimp only
    unfold mm_br
    rw [ht, hb]
    rfl
  · refine R_st hc rfl rfl rfl (pc' := t) ?_ (kt h)
    have hb : mm_cc .ne x 0 = true := decide_eq_true h
    unfold mm_st
    dsimp only
    unfold mm_br
    rw [ht, hb]
    rfl
theorem R_icmp_lt {x y : Int32} {off : Int} {t : Nat} (hc : mm_cd mi pc = some (.if_icmp .lt off)) (hq : pc + 3 = q) (ht : mm_tg pc off = some t) (kt : x < y → mm_R S d mi t L st M P) (kf : ¬ x < y → mm_R S d mi q L st M P) : mm_R S d mi pc L (.int y :: .int x :: st) M P := by
  subst hq
  by_cases h : x < y
  · refine R_st hc rfl rfl rfl (pc' := t) ?_ (kt h)
    have hb : mm_cc .lt x y = true := decide_eq_true h
    unfold mm_st
    dsimp only
    unfold mm_br
    rw [ht, hb]
    rfl
  · refine R_st hc rfl rfl rfl (pc' := pc + 3) ?_ (kf h)
    have hb : mm_cc .lt x y = false := decide_eq_false h
    unfold mm_st
    dsimp only
    unfold mm_br
    rw [ht, hb]
    rfl
theorem R_if_lt {x : Int32} {off : Int} {t : Nat} (hc : mm_cd mi pc = some (.ifCond .lt off)) (hq : pc + 3 = q) (ht : mm_tg pc off = some t) (kt : x < 0 → mm_R S d mi t L st M P) (kf : ¬ x < 0 → mm_R S d mi q L st M P) : mm_R S d mi pc L (.int x :: st) M P := by
  subst hq
  by_cases h : x < 0
  · refine R_st hc rfl rfl rfl (pc' := t) ?_ (kt h)
    have hb : mm_cc .lt x 0 = true := decide_eq_true h
    unfold mm_st
    dsimp only
    unfold mm_br
    rw [ht, hb]
    rfl
  · refine R_st hc rfl rfl rfl (pc' := pc + 3) ?_ (kf h)
    have hb : mm_cc .lt x 0 = false := decide_eq_false h
    unfold mm_st
    dsimp only
    unfold mm_br
    rw [ht, hb]
    rfl
theorem R_icmp_ge {x y : Int32} {off : Int} {t : Nat} (hc : mm_cd mi pc = some (.if_icmp .ge off)) (hq : pc + 3 = q) (ht : mm_tg pc off = some t) (kt : y ≤ x → mm_R S d mi t L st M P) (kf : ¬ y ≤ x → mm_R S d mi q L st M P) : mm_R S d mi pc L (.int y :: .int x :: st) M P := by
  subst hq
  by_cases h : y ≤ x
  · refine R_st hc rfl rfl rfl (pc' := t) ?_ (kt h)
    have hb : mm_cc .ge x y = true := decide_eq_true h
    unfold mm_st
    dsimp only
    unfold mm_br
    rw [ht, hb]
    rfl
  · refine R_st hc rfl rfl rfl (pc' := pc + 3) ?_ (kf h)
    have hb : mm_cc .ge x y = false := decide_eq_false h
    unfold mm_st
    dsimp only
    unfold mm_br
    rw [ht, hb]
    rfl
theorem R_if_ge {x : Int32} {off : Int} {t : Nat} (hc : mm_cd mi pc = some (.ifCond .ge off)) (hq : pc + 3 = q) (ht : mm_tg pc off = some t) (kt : 0 ≤ x → mm_R S d mi t L st M P) (kf : ¬ 0 ≤ x → mm_R S d mi q L st M P) : mm_R S d mi pc L (.int x :: st) M P := by
  subst hq
  by_cases h : 0 ≤ x
  · refine R_st hc rfl rfl rfl (pc' := t) ?_ (kt h)
    have hb : mm_cc .ge x 0 = true := decide_eq_true h
    unfold mm_st
    dsimp only
    unfold mm_br
    rw [ht, hb]
    rfl
  · refine R_st hc rfl rfl rfl (pc' := pc + 3) ?_ (kf h)
    have hb : mm_cc .ge x 0 = false := decide_eq_false h
    unfold mm_st
    dsimp only
    unfold mm_br
    rw [ht, hb]
    rfl
theorem R_icmp_gt {x y : Int32} {off : Int} {t : Nat} (hc : mm_cd mi pc = some (.if_icmp .gt off)) (hq : pc + 3 = q) (ht : mm_tg pc off = some t) (kt : y < x → mm_R S d mi t L st M P) (kf : ¬ y < x → mm_R S d mi q L st M P) : mm_R S d mi pc L (.int y :: .int x :: st) M P := by
  subst hq
  by_cases h : y < x
  · refine R_st hc rfl rfl rfl (pc' := t) ?_ (kt h)
    have hb : mm_cc .gt x y = true := decide_eq_true h
    unfold mm_st
    dsimp only
    unfold mm_br
    rw [ht, hb]
    rfl
  · refine R_st hc rfl rfl rfl (pc' := pc + 3) ?_ (kf h)
    have hb : mm_cc .gt x y = false := decide_eq_false h
    unfold mm_st
    dsimp only
    unfold mm_br
    rw [ht, hb]
    rfl
theorem R_if_gt {x : Int32} {off : Int} {t : Nat} (hc : mm_cd mi pc = some (.ifCond .gt off)) (hq : pc + 3 = q) (ht : mm_tg pc off = some t) (kt : 0 < x → mm_R S d mi t L st M P) (kf : ¬ 0 < x → mm_R S d mi q L st M P) : mm_R S d mi pc L (.int x :: st) M P := by
  subst hq
  by_cases h : 0 < x
  · refine R_st hc rfl rfl rfl (pc' := t) ?_ (kt h)
    have hb : mm_cc .gt x 0 = true := decide_eq_true h
    unfold mm_st
    dsimp only
    unfold mm_br
    rw [ht, hb]
    rfl
  · refine R_st hc rfl rfl rfl (pc' := pc + 3) ?_ (kf h)
    have hb : mm_cc .gt x 0 = false := decide_eq_false h
    unfold mm_st
    dsimp only
    unfold mm_br
    rw [ht, hb]
    rfl
theorem R_icmp_le {x y : Int32} {off : Int} {t : Nat} (hc : mm_cd mi pc = some (.if_icmp .le off)) (hq : pc + 3 = q) (ht : mm_tg pc off = some t) (kt : x ≤ y → mm_R S d mi t L st M P) (kf : ¬ x ≤ y → mm_R S d mi q L st M P) : mm_R S d mi pc L (.int y :: .int x :: st) M P := by
  subst hq
  by_cases h : x ≤ y
  · refine R_st hc rfl rfl rfl (pc' := t) ?_ (kt h)
    have hb : mm_cc .le x y = true := decide_eq_true h
    unfold mm_st
    dsimp only
    unfold mm_br
    rw [ht, hb]
    rfl
  · refine R_st hc rfl rfl rfl (pc' := pc + 3) ?_ (kf h)
    have hb : mm_cc .le x y = false := decide_eq_false h
    unfold mm_st
    dsimp only
    unfold mm_br
    rw [ht, hb]
    rfl
theorem R_if_le {x : Int32} {off : Int} {t : Nat} (hc : mm_cd mi pc = some (.ifCond .le off)) (hq : pc + 3 = q) (ht : mm_tg pc off = some t) (kt : x ≤ 0 → mm_R S d mi t L st M P) (kf : ¬ x ≤ 0 → mm_R S d mi q L st M P) : mm_R S d mi pc L (.int x :: st) M P := by
  subst hq
  by_cases h : x ≤ 0
  · refine R_st hc rfl rfl rfl (pc' := t) ?_ (kt h)
    have hb : mm_cc .le x 0 = true := decide_eq_true h
    unfold mm_st
    dsimp only
    unfold mm_br
    rw [ht, hb]
    rfl
  · refine R_st hc rfl rfl rfl (pc' := pc + 3) ?_ (kf h)
    have hb : mm_cc .le x 0 = false := decide_eq_false h
    unfold mm_st
    dsimp only
    unfold mm_br
    rw [ht, hb]
    rfl
theorem R_goto {off : Int} {t : Nat} (hc : mm_cd mi pc = some (.goto off)) (ht : mm_tg pc off = some t) (k : mm_R S d mi t L st M P) : mm_R S d mi pc L st M P := by
  refine R_st hc rfl rfl rfl ?_ k
  unfold mm_st
  dsimp only
  unfold mm_br
  rw [ht]
  rfl
theorem R_tsw {dd lo hi : Int} {offs : Array Int} {x : Int32} {t : Nat} (hc : mm_cd mi pc = some (.tableswitch dd lo hi offs)) (ht : mm_ts dd lo hi offs pc L (.int x :: st) M = some (t, L, st, M)) (k : mm_R S d mi t L st M P) : mm_R S d mi pc L (.int x :: st) M P := R_st hc rfl rfl rfl ht k
theorem R_lsw {dd : Int} {ps : Array (Int × Int)} {x : Int32} {t : Nat} (hc : mm_cd mi pc = some (.lookupswitch dd ps)) (ht : mm_lw dd ps pc L (.int x :: st) M = some (t, L, st, M)) (k : mm_R S d mi t L st M P) : mm_R S d mi pc L (.int x :: st) M P := R_st hc rfl rfl rfl ht k
theorem R_slen  (hc : mm_cd mi pc = some (.arraylength)) (hq : pc + 1 = q)  (k : mm_R S d mi q L (.int (Int32.ofNat S.1) :: st) M P) : mm_R S d mi pc L (.ref 0 :: st) M P := by
  subst hq
  exact R_st hc rfl rfl rfl rfl k
theorem R_alen {a t n : Nat} {z : (Nat → Int32) ⊕ (Nat → Int64) ⊕ (Nat → UInt32) ⊕ (Nat → UInt64) ⊕ (Nat → Option Nat)} (hc : mm_cd mi pc = some (.arraylength)) (hq : pc + 1 = q) (ha : M.1 (a + 1) = some (.inl (t, n, z))) (h4 : t < 4) (k : mm_R S d mi q L (.int (Int32.ofNat n) :: st) M P) : mm_R S d mi pc L (.ref (a + 1) :: st) M P := by
  subst hq
  exact R_st hc rfl rfl rfl (by unfold mm_st; dsimp only; unfold mm_al; dsimp only; rw [ha]; dsimp only; rw [if_pos h4]) k
theorem R_sld {i : Int32} (hc : mm_cd mi pc = some (.iaload)) (hq : pc + 1 = q) (hin : vp_in i S.1) (k : mm_R S d mi q L (.int (S.2 i.toNatClampNeg) :: st) M P) : mm_R S d mi pc L (.int i :: .ref 0 :: st) M P := by
  subst hq
  exact R_st hc rfl rfl rfl (by unfold mm_st; dsimp only; unfold mm_ia; dsimp only; rw [if_pos ⟨rfl, hin⟩]) k
theorem R_iaload {a n : Nat} {f : Nat → Int32} {i : Int32} (hc : mm_cd mi pc = some (.iaload)) (hq : pc + 1 = q) (ha : M.1 a = some (.inl (0, n, .inl f))) (h0 : a ≠ 0) (hin : vp_in i n) (k : mm_R S d mi q L (.int (f i.toNatClampNeg) :: st) M P) : mm_R S d mi pc L (.int i :: .ref a :: st) M P := by
  subst hq
  exact R_st hc rfl rfl rfl (mm_ia_at ha h0 hin) k
theorem R_baload {a n : Nat} {f : Nat → Int32} {i : Int32} (hc : mm_cd mi pc = some (.baload)) (hq : pc + 1 = q) (ha : M.1 a = some (.inl (1, n, .inl f))) (h0 : a ≠ 0) (hin : vp_in i n) (k : mm_R S d mi q L (.int (f i.toNatClampNeg) :: st) M P) : mm_R S d mi pc L (.int i :: .ref a :: st) M P := by
  subst hq
  exact R_st hc rfl rfl rfl (mm_ia_at ha h0 hin) k
theorem R_aaload {a n t g : Nat} {f : Nat → Option Nat} {i : Int32} (hc : mm_cd mi pc = some (.aaload)) (hq : pc + 1 = q) (ha : M.1 a = some (.inl (t, n, .inr (.inr (.inr (.inr f)))))) (ht : (mm_tc t).isSome = true) (hin : vp_in i n) (hg : f i.toNatClampNeg = some g) (k : mm_R S d mi q L (.ref g :: st) M P) : mm_R S d mi pc L (.int i :: .ref a :: st) M P := by
  subst hq
  exact R_st hc rfl rfl rfl (by unfold mm_st; dsimp only; unfold mm_aa; dsimp only; rw [ha]; dsimp only; rw [if_pos ⟨ht, hin⟩, hg]) k
theorem R_iastore {a n : Nat} {f : Nat → Int32} {i x : Int32} (hc : mm_cd mi pc = some (.iastore)) (hq : pc + 1 = q) (ha : M.1 a = some (.inl (0, n, .inl f))) (hin : vp_in i n) (k : mm_R S d mi q L (st) (mm_put M a (.inl (0, n, .inl (upd f i.toNatClampNeg x)))) P) : mm_R S d mi pc L (.int x :: .int i :: .ref a :: st) M P := by
  subst hq
  exact R_st hc rfl rfl rfl (by unfold mm_st; dsimp only; unfold mm_is; dsimp only; rw [ha]; dsimp only; rw [if_pos ⟨⟨rfl, fun z => absurd z (by decide)⟩, hin⟩]) k
theorem R_bastore {a n : Nat} {f : Nat → Int32} {i x : Int32} (hc : mm_cd mi pc = some (.bastore)) (hq : pc + 1 = q) (ha : M.1 a = some (.inl (1, n, .inl f))) (hin : vp_in i n) (hx : x = 0 ∨ x = 1) (k : mm_R S d mi q L (st) (mm_put M a (.inl (1, n, .inl (upd f i.toNatClampNeg x)))) P) : mm_R S d mi pc L (.int x :: .int i :: .ref a :: st) M P := by
  subst hq
  exact R_st hc rfl rfl rfl (by unfold mm_st; dsimp only; unfold mm_is; dsimp only; rw [ha]; dsimp only; rw [if_pos ⟨⟨rfl, fun _ => hx⟩, hin⟩]) k
theorem R_aastore {a n t v ci : Nat} {vs : List Value} {f : Nat → Option Nat} {i : Int32} (hc : mm_cd mi pc = some (.aastore)) (hq : pc + 1 = q) (ha : M.1 a = some (.inl (t, n, .inr (.inr (.inr (.inr f)))))) (hv : M.1 v = some (.inr (ci, vs))) (ht : mm_tc t = some ci) (hin : vp_in i n) (k : mm_R S d mi q L (st) (mm_put M a (.inl (t, n, .inr (.inr (.inr (.inr (va_up f i.toNatClampNeg (some v)))))))) P) : mm_R S d mi pc L (.ref v :: .int i :: .ref a :: st) M P := by
  subst hq
  exact R_st hc rfl rfl rfl (by unfold mm_st; dsimp only; unfold mm_as; dsimp only; rw [ha, hv]; dsimp only; rw [if_pos ⟨ht, hin⟩]) k
theorem R_getf {c a ci j z : Nat} {fs : List Value} {v : Value} (hc : mm_cd mi pc = some (.getfield c)) (hq : pc + 3 = q) (hf : mm_l2 mm_fT (mm_ow mi) c = some (ci, j, z)) (ha : M.1 a = some (.inr (ci, fs))) (hv : fs[j]? = some v) (k : mm_R S d mi q L (v :: st) M P) : mm_R S d mi pc L (.ref a :: st) M P := by
  subst hq
  exact R_st hc rfl rfl rfl (by unfold mm_st; dsimp only; unfold mm_gf; dsimp only; rw [hf, ha]; dsimp only; rw [if_pos rfl, hv]) k
theorem R_putf {c a ci j z : Nat} {fs fs2 : List Value} {v : Value} (hc : mm_cd mi pc = some (.putfield c)) (hq : pc + 3 = q) (hf : mm_l2 mm_fT (mm_ow mi) c = some (ci, j, z)) (ha : M.1 a = some (.inr (ci, fs))) (hj : j < fs.length) (ht : mm_fit (mm_fy ci j) v = true) (hn : (mm_T ci j).2.2.2 = true → mm_in mi = true ∧ mm_ow mi = ci) (h2 : fs.set j v = fs2) (k : mm_R S d mi q L (st) (mm_put M a (.inr (ci, fs2))) P) : mm_R S d mi pc L (v :: .ref a :: st) M P := by
  subst hq
  exact R_st hc rfl rfl rfl (by subst h2; unfold mm_st; dsimp only; unfold mm_pf; dsimp only; rw [hf, ha]; dsimp only; rw [if_pos ⟨⟨rfl, hj⟩, ht, hn⟩]) k
theorem R_new {c ci z : Nat} (hc : mm_cd mi pc = some (.new c)) (hq : pc + 3 = q) (hf : mm_l2 mm_nT (mm_ow mi) c = some (ci, z)) (k : mm_R S d mi q L (.ref M.2.1 :: st) (mm_add M (.inr (ci, mm_df ci)) (mm_N ci)) P) : mm_R S d mi pc L (st) M P := by
  subst hq
  exact R_st hc rfl rfl rfl (by unfold mm_st; dsimp only; unfold mm_nw; rw [hf]) k
theorem R_newi {n : Int32} (hc : mm_cd mi pc = some (.newarray .int)) (hq : pc + 2 = q) (hn : ¬ (n < 0 ∨ 65536 < n.toNatClampNeg)) (k : mm_R S d mi q L (.ref M.2.1 :: st) (mm_add M (.inl (0, n.toNatClampNeg, .inl (fun _ => 0))) n.toNatClampNeg) P) : mm_R S d mi pc L (.int n :: st) M P := by
  subst hq
  exact R_st hc rfl rfl rfl (by show mm_na 0 pc L (.int n :: st) M = _; unfold mm_na; dsimp only; rw [if_neg hn]) k
theorem R_newz {n : Int32} (hc : mm_cd mi pc = some (.newarray .boolean)) (hq : pc + 2 = q) (hn : ¬ (n < 0 ∨ 65536 < n.toNatClampNeg)) (k : mm_R S d mi q L (.ref M.2.1 :: st) (mm_add M (.inl (1, n.toNatClampNeg, .inl (fun _ => 0))) n.toNatClampNeg) P) : mm_R S d mi pc L (.int n :: st) M P := by
  subst hq
  exact R_st hc rfl rfl rfl (by show mm_na 1 pc L (.int n :: st) M = _; unfold mm_na; dsimp only; rw [if_neg hn]) k
theorem R_anew {c t z1 z2 : Nat} {n : Int32} (hc : mm_cd mi pc = some (.anewarray c)) (hq : pc + 3 = q) (hf : mm_l2 mm_aT (mm_ow mi) c = some (t, z1, z2)) (hn : ¬ (n < 0 ∨ 65536 < n.toNatClampNeg)) (k : mm_R S d mi q L (.ref M.2.1 :: st) (mm_add M (.inl (t, n.toNatClampNeg, .inr (.inr (.inr (.inr (fun _ => none)))))) n.toNatClampNeg) P) : mm_R S d mi pc L (.int n :: st) M P := by
  subst hq
  exact R_st hc rfl rfl rfl (by unfold mm_st; dsimp only; unfold mm_an; dsimp only; rw [hf]; dsimp only; rw [if_neg hn]) k
theorem R_ireturn {x : Int32} (hc : mm_cd mi pc = some .ireturn) (hr : mm_rt mi = some .int) (hp : P (some (.int x)) M) : mm_R S d mi pc L [.int x] M P := R_ret hc rfl (by rw [hr]; rfl) hp
theorem R_zreturn {x : Int32} (hc : mm_cd mi pc = some .ireturn) (hr : mm_rt mi = some .boolean) (hx : x = 0 ∨ x = 1) (hp : P (some (.int x)) M) : mm_R S d mi pc L [.int x] M P := R_ret hc rfl (by rw [hr]; unfold mm_rv; dsimp only; rw [if_pos hx]) hp
theorem R_return (hc : mm_cd mi pc = some .return_) (hr : mm_rt mi = none) (hp : P none M) : mm_R S d mi pc L [] M P := R_ret hc rfl (by rw [hr]; rfl) hp
theorem R_areturn {a : Nat} {cn : String} (hc : mm_cd mi pc = some .areturn) (hr : mm_rt mi = some (.object cn)) (hp : P (some (.ref a)) M) : mm_R S d mi pc L [.ref a] M P := R_ret hc rfl (by rw [hr]; rfl) hp
theorem R_objinit {c a z : Nat} (hc : mm_cd mi pc = some (.invokespecial c)) (hq : pc + 3 = q) (h1 : mm_l2 mm_mT (mm_ow mi) c = none) (ho : mm_l2 mm_oT (mm_ow mi) c = some z) (hd : 1 ≤ d) (hs : (st.map fun v => v.category).sum ≤ 8) (k : mm_R S d mi q L st M P) : mm_R S d mi pc L (.ref a :: st) M P := R_nat hc (by unfold mm_cl; dsimp only; unfold mm_ck; rw [h1]) rfl (by unfold mm_oi; dsimp only; rw [if_pos ⟨by rw [ho]; rfl, hd, hs⟩]) hq k
theorem R_mmax {c z : Nat} {x y : Int32} (hc : mm_cd mi pc = some (.invokestatic c)) (hq : pc + 3 = q) (h1 : mm_l2 mm_mT (mm_ow mi) c = none) (ho : mm_l2 mm_jT (mm_ow mi) c = some (0, z)) (hd : 1 ≤ d) (hs : ((Value.int x :: st).map fun v => v.category).sum ≤ 8) (k : mm_R S d mi q L (.int (if x < y then y else x) :: st) M P) : mm_R S d mi pc L (.int y :: .int x :: st) M P := R_nat hc (by unfold mm_cl; dsimp only; unfold mm_ck; rw [h1]) rfl (by unfold mm_oi; dsimp only; rw [if_pos ⟨hd, hs⟩, ho]; first | rfl | simp) hq k
theorem R_mmin {c z : Nat} {x y : Int32} (hc : mm_cd mi pc = some (.invokestatic c)) (hq : pc + 3 = q) (h1 : mm_l2 mm_mT (mm_ow mi) c = none) (ho : mm_l2 mm_jT (mm_ow mi) c = some (1, z)) (hd : 1 ≤ d) (hs : ((Value.int x :: st).map fun v => v.category).sum ≤ 8) (k : mm_R S d mi q L (.int (if y < x then y else x) :: st) M P) : mm_R S d mi pc L (.int y :: .int x :: st) M P := R_nat hc (by unfold mm_cl; dsimp only; unfold mm_ck; rw [h1]) rfl (by unfold mm_oi; dsimp only; rw [if_pos ⟨hd, hs⟩, ho]; first | rfl | simp) hq k
theorem R_mabs {c z : Nat} {y : Int32} (hc : mm_cd mi pc = some (.invokestatic c)) (hq : pc + 3 = q) (h1 : mm_l2 mm_mT (mm_ow mi) c = none) (ho : mm_l2 mm_jT (mm_ow mi) c = some (2, z)) (hd : 1 ≤ d) (hs : (st.map fun v => v.category).sum ≤ 8) (k : mm_R S d mi q L (.int (if 0 ≤ y then y else 0 - y) :: st) M P) : mm_R S d mi pc L (.int y :: st) M P := R_nat hc (by unfold mm_cl; dsimp only; unfold mm_ck; rw [h1]) rfl (by unfold mm_oi; dsimp only; rw [if_pos ⟨hd, hs⟩, ho]; first | rfl | simp) hq k
theorem R_callv0 {c k ne z a : Nat} {fs : List Value}  (hc : mm_cd mi pc = some (.invokevirtual c)) (hq : pc + 3 = q) (ht : mm_l2 mm_mT (mm_ow mi) c = some (k, 0, ne, z)) (hn : mm_np k = 0) (ha : M.1 a = some (.inr (mm_ow k, fs))) (hs : (st.map fun v => v.category).sum ≤ 8) (hv : (true) = true) (kk : mm_R S d k 0 (mm_en k (.ref a :: [])) [] M (fun v M' => mm_R S (d + 1) mi q L (v.toList ++ st) M' P)) : mm_R S (d + 1) mi pc L (.ref a :: st) M P := by
  refine R_call (r := st) hc ?_ hq kk
  unfold mm_cl
  dsimp only
  unfold mm_ck
  rw [ht]
  have e : mm_nn 0 k = 1 := by unfold mm_nn; rw [hn]; rfl
  dsimp only
  rw [e]
  refine if_pos ⟨⟨rfl, by simp⟩, hs, ?_, ?_⟩
  · simp [Value.category] at hv ⊢
    skip
  · show mm_rc 0 k (.ref a :: []) M = true
    unfold mm_rc
    rw [if_neg (by decide)]
    dsimp only
    rw [ha]
    simp
theorem R_callv1 {c k ne z a : Nat} {fs : List Value} {v1 : Value} (hc : mm_cd mi pc = some (.invokevirtual c)) (hq : pc + 3 = q) (ht : mm_l2 mm_mT (mm_ow mi) c = some (k, 0, ne, z)) (hn : mm_np k = 1) (ha : M.1 a = some (.inr (mm_ow k, fs))) (hs : (st.map fun v => v.category).sum ≤ 8) (hv : ((v1.category == 1)) = true) (kk : mm_R S d k 0 (mm_en k (.ref a :: [v1])) [] M (fun v M' => mm_R S (d + 1) mi q L (v.toList ++ st) M' P)) : mm_R S (d + 1) mi pc L (v1 :: .ref a :: st) M P := by
  refine R_call (r := st) hc ?_ hq kk
  unfold mm_cl
  dsimp only
  unfold mm_ck
  rw [ht]
  have e : mm_nn 0 k = 2 := by unfold mm_nn; rw [hn]; rfl
  dsimp only
  rw [e]
  refine if_pos ⟨⟨rfl, by simp⟩, hs, ?_, ?_⟩
  · simp [Value.category] at hv ⊢
    simp [hv]
  · show mm_rc 0 k (.ref a :: [v1]) M = true
    unfold mm_rc
    rw [if_neg (by decide)]
    dsimp only
    rw [ha]
    simp
theorem R_callv2 {c k ne z a : Nat} {fs : List Value} {v1 v2 : Value} (hc : mm_cd mi pc = some (.invokevirtual c)) (hq : pc + 3 = q) (ht : mm_l2 mm_mT (mm_ow mi) c = some (k, 0, ne, z)) (hn : mm_np k = 2) (ha : M.1 a = some (.inr (mm_ow k, fs))) (hs : (st.map fun v => v.category).sum ≤ 8) (hv : ((v1.category == 1) && (v2.category == 1)) = true) (kk : mm_R S d k 0 (mm_en k (.ref a :: [v1, v2])) [] M (fun v M' => mm_R S (d + 1) mi q L (v.toList ++ st) M' P)) : mm_R S (d + 1) mi pc L (v2 :: v1 :: .ref a :: st) M P := by
  refine R_call (r := st) hc ?_ hq kk
  unfold mm_cl
  dsimp only
  unfold mm_ck
  rw [ht]
  have e : mm_nn 0 k = 3 := by unfold mm_nn; rw [hn]; rfl
  dsimp only
  rw [e]
  refine if_pos ⟨⟨rfl, by simp⟩, hs, ?_, ?_⟩
  · simp [Value.category] at hv ⊢
    simp [hv]
  · show mm_rc 0 k (.ref a :: [v1, v2]) M = true
    unfold mm_rc
    rw [if_neg (by decide)]
    dsimp only
    rw [ha]
    simp
theorem R_callv3 {c k ne z a : Nat} {fs : List Value} {v1 v2 v3 : Value} (hc : mm_cd mi pc = some (.invokevirtual c)) (hq : pc + 3 = q) (ht : mm_l2 mm_mT (mm_ow mi) c = some (k, 0, ne, z)) (hn : mm_np k = 3) (ha : M.1 a = some (.inr (mm_ow k, fs))) (hs : (st.map fun v => v.category).sum ≤ 8) (hv : ((v1.category == 1) && (v2.category == 1) && (v3.category == 1)) = true) (kk : mm_R S d k 0 (mm_en k (.ref a :: [v1, v2, v3])) [] M (fun v M' => mm_R S (d + 1) mi q L (v.toList ++ st) M' P)) : mm_R S (d + 1) mi pc L (v3 :: v2 :: v1 :: .ref a :: st) M P := by
  refine R_call (r := st) hc ?_ hq kk
  unfold mm_cl
  dsimp only
  unfold mm_ck
  rw [ht]
  have e : mm_nn 0 k = 4 := by unfold mm_nn; rw [hn]; rfl
  dsimp only
  rw [e]
  refine if_pos ⟨⟨rfl, by simp⟩, hs, ?_, ?_⟩
  · simp [Value.category] at hv ⊢
    simp [hv]
  · show mm_rc 0 k (.ref a :: [v1, v2, v3]) M = true
    unfold mm_rc
    rw [if_neg (by decide)]
    dsimp only
    rw [ha]
    simp
theorem R_callv4 {c k ne z a : Nat} {fs : List Value} {v1 v2 v3 v4 : Value} (hc : mm_cd mi pc = some (.invokevirtual c)) (hq : pc + 3 = q) (ht : mm_l2 mm_mT (mm_ow mi) c = some (k, 0, ne, z)) (hn : mm_np k = 4) (ha : M.1 a = some (.inr (mm_ow k, fs))) (hs : (st.map fun v => v.category).sum ≤ 8) (hv : ((v1.category == 1) && (v2.category == 1) && (v3.category == 1) && (v4.category == 1)) = true) (kk : mm_R S d k 0 (mm_en k (.ref a :: [v1, v2, v3, v4])) [] M (fun v M' => mm_R S (d + 1) mi q L (v.toList ++ st) M' P)) : mm_R S (d + 1) mi pc L (v4 :: v3 :: v2 :: v1 :: .ref a :: st) M P := by
  refine R_call (r := st) hc ?_ hq kk
  unfold mm_cl
  dsimp only
  unfold mm_ck
  rw [ht]
  have e : mm_nn 0 k = 5 := by unfold mm_nn; rw [hn]; rfl
  dsimp only
  rw [e]
  refine if_pos ⟨⟨rfl, by simp⟩, hs, ?_, ?_⟩
  · simp [Value.category] at hv ⊢
    simp [hv]
  · show mm_rc 0 k (.ref a :: [v1, v2, v3, v4]) M = true
    unfold mm_rc
    rw [if_neg (by decide)]
    dsimp only
    rw [ha]
    simp
theorem R_callv5 {c k ne z a : Nat} {fs : List Value} {v1 v2 v3 v4 v5 : Value} (hc : mm_cd mi pc = some (.invokevirtual c)) (hq : pc + 3 = q) (ht : mm_l2 mm_mT (mm_ow mi) c = some (k, 0, ne, z)) (hn : mm_np k = 5) (ha : M.1 a = some (.inr (mm_ow k, fs))) (hs : (st.map fun v => v.category).sum ≤ 8) (hv : ((v1.category == 1) && (v2.category == 1) && (v3.category == 1) && (v4.category == 1) && (v5.category == 1)) = true) (kk : mm_R S d k 0 (mm_en k (.ref a :: [v1, v2, v3, v4, v5])) [] M (fun v M' => mm_R S (d + 1) mi q L (v.toList ++ st) M' P)) : mm_R S (d + 1) mi pc L (v5 :: v4 :: v3 :: v2 :: v1 :: .ref a :: st) M P := by
  refine R_call (r := st) hc ?_ hq kk
  unfold mm_cl
  dsimp only
  unfold mm_ck
  rw [ht]
  have e : mm_nn 0 k = 6 := by unfold mm_nn; rw [hn]; rfl
  dsimp only
  rw [e]
  refine if_pos ⟨⟨rfl, by simp⟩, hs, ?_, ?_⟩
  · simp [Value.category] at hv ⊢
    simp [hv]
  · show mm_rc 0 k (.ref a :: [v1, v2, v3, v4, v5]) M = true
    unfold mm_rc
    rw [if_neg (by decide)]
    dsimp only
    rw [ha]
    simp
theorem R_callv6 {c k ne z a : Nat} {fs : List Value} {v1 v2 v3 v4 v5 v6 : Value} (hc : mm_cd mi pc = some (.invokevirtual c)) (hq : pc + 3 = q) (ht : mm_l2 mm_mT (mm_ow mi) c = some (k, 0, ne, z)) (hn : mm_np k = 6) (ha : M.1 a = some (.inr (mm_ow k, fs))) (hs : (st.map fun v => v.category).sum ≤ 8) (hv : ((v1.category == 1) && (v2.category == 1) && (v3.category == 1) && (v4.category == 1) && (v5.category == 1) && (v6.category == 1)) = true) (kk : mm_R S d k 0 (mm_en k (.ref a :: [v1, v2, v3, v4, v5, v6])) [] M (fun v M' => mm_R S (d + 1) mi q L (v.toList ++ st) M' P)) : mm_R S (d + 1) mi pc L (v6 :: v5 :: v4 :: v3 :: v2 :: v1 :: .ref a :: st) M P := by
  refine R_call (r := st) hc ?_ hq kk
  unfold mm_cl
  dsimp only
  unfold mm_ck
  rw [ht]
  have e : mm_nn 0 k = 7 := by unfold mm_nn; rw [hn]; rfl
  dsimp only
  rw [e]
  refine if_pos ⟨⟨rfl, by simp⟩, hs, ?_, ?_⟩
  · simp [Value.category] at hv ⊢
    simp [hv]
  · show mm_rc 0 k (.ref a :: [v1, v2, v3, v4, v5, v6]) M = true
    unfold mm_rc
    rw [if_neg (by decide)]
    dsimp only
    rw [ha]
    simp
theorem R_callv7 {c k ne z a : Nat} {fs : List Value} {v1 v2 v3 v4 v5 v6 v7 : Value} (hc : mm_cd mi pc = some (.invokevirtual c)) (hq : pc + 3 = q) (ht : mm_l2 mm_mT (mm_ow mi) c = some (k, 0, ne, z)) (hn : mm_np k = 7) (ha : M.1 a = some (.inr (mm_ow k, fs))) (hs : (st.map fun v => v.category).sum ≤ 8) (hv : ((v1.category == 1) && (v2.category == 1) && (v3.category == 1) && (v4.category == 1) && (v5.category == 1) && (v6.category == 1) && (v7.category == 1)) = true) (kk : mm_R S d k 0 (mm_en k (.ref a :: [v1, v2, v3, v4, v5, v6, v7])) [] M (fun v M' => mm_R S (d + 1) mi q L (v.toList ++ st) M' P)) : mm_R S (d + 1) mi pc L (v7 :: v6 :: v5 :: v4 :: v3 :: v2 :: v1 :: .ref a :: st) M P := by
  refine R_call (r := st) hc ?_ hq kk
  unfold mm_cl
  dsimp only
  unfold mm_ck
  rw [ht]
  have e : mm_nn 0 k = 8 := by unfold mm_nn; rw [hn]; rfl
  dsimp only
  rw [e]
  refine if_pos ⟨⟨rfl, by simp⟩, hs, ?_, ?_⟩
  · simp [Value.category] at hv ⊢
    simp [hv]
  · show mm_rc 0 k (.ref a :: [v1, v2, v3, v4, v5, v6, v7]) M = true
    unfold mm_rc
    rw [if_neg (by decide)]
    dsimp only
    rw [ha]
    simp
theorem R_callv8 {c k ne z a : Nat} {fs : List Value} {v1 v2 v3 v4 v5 v6 v7 v8 : Value} (hc : mm_cd mi pc = some (.invokevirtual c)) (hq : pc + 3 = q) (ht : mm_l2 mm_mT (mm_ow mi) c = some (k, 0, ne, z)) (hn : mm_np k = 8) (ha : M.1 a = some (.inr (mm_ow k, fs))) (hs : (st.map fun v => v.category).sum ≤ 8) (hv : ((v1.category == 1) && (v2.category == 1) && (v3.category == 1) && (v4.category == 1) && (v5.category == 1) && (v6.category == 1) && (v7.category == 1) && (v8.category == 1)) = true) (kk : mm_R S d k 0 (mm_en k (.ref a :: [v1, v2, v3, v4, v5, v6, v7, v8])) [] M (fun v M' => mm_R S (d + 1) mi q L (v.toList ++ st) M' P)) : mm_R S (d + 1) mi pc L (v8 :: v7 :: v6 :: v5 :: v4 :: v3 :: v2 :: v1 :: .ref a :: st) M P := by
  refine R_call (r := st) hc ?_ hq kk
  unfold mm_cl
  dsimp only
  unfold mm_ck
  rw [ht]
  have e : mm_nn 0 k = 9 := by unfold mm_nn; rw [hn]; rfl
  dsimp only
  rw [e]
  refine if_pos ⟨⟨rfl, by simp⟩, hs, ?_, ?_⟩
  · simp [Value.category] at hv ⊢
    simp [hv]
  · show mm_rc 0 k (.ref a :: [v1, v2, v3, v4, v5, v6, v7, v8]) M = true
    unfold mm_rc
    rw [if_neg (by decide)]
    dsimp only
    rw [ha]
    simp
theorem R_calls0 {c k ne z : Nat}  (hc : mm_cd mi pc = some (.invokestatic c)) (hq : pc + 3 = q) (ht : mm_l2 mm_mT (mm_ow mi) c = some (k, 1, ne, z)) (hn : mm_np k = 0) (hs : (st.map fun v => v.category).sum ≤ 8) (hv : (true) = true) (kk : mm_R S d k 0 (mm_en k ([])) [] M (fun v M' => mm_R S (d + 1) mi q L (v.toList ++ st) M' P)) : mm_R S (d + 1) mi pc L (st) M P := by
  refine R_call (r := st) hc ?_ hq kk
  unfold mm_cl
  dsimp only
  unfold mm_ck
  rw [ht]
  have e : mm_nn 1 k = 0 := by unfold mm_nn; rw [hn]; rfl
  dsimp only
  rw [e]
  refine if_pos ⟨⟨rfl, by simp⟩, hs, ?_, rfl⟩
  simp at hv ⊢
  skip
theorem R_calls1 {c k ne z : Nat} {v1 : Value} (hc : mm_cd mi pc = some (.invokestatic c)) (hq : pc + 3 = q) (ht : mm_l2 mm_mT (mm_ow mi) c = some (k, 1, ne, z)) (hn : mm_np k = 1) (hs : (st.map fun v => v.category).sum ≤ 8) (hv : ((v1.category == 1)) = true) (kk : mm_R S d k 0 (mm_en k ([v1])) [] M (fun v M' => mm_R S (d + 1) mi q L (v.toList ++ st) M' P)) : mm_R S (d + 1) mi pc L (v1 :: st) M P := by
  refine R_call (r := st) hc ?_ hq kk
  unfold mm_cl
  dsimp only
  unfold mm_ck
  rw [ht]
  have e : mm_nn 1 k = 1 := by unfold mm_nn; rw [hn]; rfl
  dsimp only
  rw [e]
  refine if_pos ⟨⟨rfl, by simp⟩, hs, ?_, rfl⟩
  simp at hv ⊢
  simp [hv]
theorem R_calls2 {c k ne z : Nat} {v1 v2 : Value} (hc : mm_cd mi pc = some (.invokestatic c)) (hq : pc + 3 = q) (ht : mm_l2 mm_mT (mm_ow mi) c = some (k, 1, ne, z)) (hn : mm_np k = 2) (hs : (st.map fun v => v.category).sum ≤ 8) (hv : ((v1.category == 1) && (v2.category == 1)) = true) (kk : mm_R S d k 0 (mm_en k ([v1, v2])) [] M (fun v M' => mm_R S (d + 1) mi q L (v.toList ++ st) M' P)) : mm_R S (d + 1) mi pc L (v2 :: v1 :: st) M P := by
  refine R_call (r := st) hc ?_ hq kk
  unfold mm_cl
  dsimp only
  unfold mm_ck
  rw [ht]
  have e : mm_nn 1 k = 2 := by unfold mm_nn; rw [hn]; rfl
  dsimp only
  rw [e]
  refine if_pos ⟨⟨rfl, by simp⟩, hs, ?_, rfl⟩
  simp at hv ⊢
  simp [hv]
theorem R_calls3 {c k ne z : Nat} {v1 v2 v3 : Value} (hc : mm_cd mi pc = some (.invokestatic c)) (hq : pc + 3 = q) (ht : mm_l2 mm_mT (mm_ow mi) c = some (k, 1, ne, z)) (hn : mm_np k = 3) (hs : (st.map fun v => v.category).sum ≤ 8) (hv : ((v1.category == 1) && (v2.category == 1) && (v3.category == 1)) = true) (kk : mm_R S d k 0 (mm_en k ([v1, v2, v3])) [] M (fun v M' => mm_R S (d + 1) mi q L (v.toList ++ st) M' P)) : mm_R S (d + 1) mi pc L (v3 :: v2 :: v1 :: st) M P := by
  refine R_call (r := st) hc ?_ hq kk
  unfold mm_cl
  dsimp only
  unfold mm_ck
  rw [ht]
  have e : mm_nn 1 k = 3 := by unfold mm_nn; rw [hn]; rfl
  dsimp only
  rw [e]
  refine if_pos ⟨⟨rfl, by simp⟩, hs, ?_, rfl⟩
  simp at hv ⊢
  simp [hv]
theorem R_calls4 {c k ne z : Nat} {v1 v2 v3 v4 : Value} (hc : mm_cd mi pc = some (.invokestatic c)) (hq : pc + 3 = q) (ht : mm_l2 mm_mT (mm_ow mi) c = some (k, 1, ne, z)) (hn : mm_np k = 4) (hs : (st.map fun v => v.category).sum ≤ 8) (hv : ((v1.category == 1) && (v2.category == 1) && (v3.category == 1) && (v4.category == 1)) = true) (kk : mm_R S d k 0 (mm_en k ([v1, v2, v3, v4])) [] M (fun v M' => mm_R S (d + 1) mi q L (v.toList ++ st) M' P)) : mm_R S (d + 1) mi pc L (v4 :: v3 :: v2 :: v1 :: st) M P := by
  refine R_call (r := st) hc ?_ hq kk
  unfold mm_cl
  dsimp only
  unfold mm_ck
  rw [ht]
  have e : mm_nn 1 k = 4 := by unfold mm_nn; rw [hn]; rfl
  dsimp only
  rw [e]
  refine if_pos ⟨⟨rfl, by simp⟩, hs, ?_, rfl⟩
  simp at hv ⊢
  simp [hv]
theorem R_calls5 {c k ne z : Nat} {v1 v2 v3 v4 v5 : Value} (hc : mm_cd mi pc = some (.invokestatic c)) (hq : pc + 3 = q) (ht : mm_l2 mm_mT (mm_ow mi) c = some (k, 1, ne, z)) (hn : mm_np k = 5) (hs : (st.map fun v => v.category).sum ≤ 8) (hv : ((v1.category == 1) && (v2.category == 1) && (v3.category == 1) && (v4.category == 1) && (v5.category == 1)) = true) (kk : mm_R S d k 0 (mm_en k ([v1, v2, v3, v4, v5])) [] M (fun v M' => mm_R S (d + 1) mi q L (v.toList ++ st) M' P)) : mm_R S (d + 1) mi pc L (v5 :: v4 :: v3 :: v2 :: v1 :: st) M P := by
  refine R_call (r := st) hc ?_ hq kk
  unfold mm_cl
  dsimp only
  unfold mm_ck
  rw [ht]
  have e : mm_nn 1 k = 5 := by unfold mm_nn; rw [hn]; rfl
  dsimp only
  rw [e]
  refine if_pos ⟨⟨rfl, by simp⟩, hs, ?_, rfl⟩
  simp at hv ⊢
  simp [hv]
theorem R_calls6 {c k ne z : Nat} {v1 v2 v3 v4 v5 v6 : Value} (hc : mm_cd mi pc = some (.invokestatic c)) (hq : pc + 3 = q) (ht : mm_l2 mm_mT (mm_ow mi) c = some (k, 1, ne, z)) (hn : mm_np k = 6) (hs : (st.map fun v => v.category).sum ≤ 8) (hv : ((v1.category == 1) && (v2.category == 1) && (v3.category == 1) && (v4.category == 1) && (v5.category == 1) && (v6.category == 1)) = true) (kk : mm_R S d k 0 (mm_en k ([v1, v2, v3, v4, v5, v6])) [] M (fun v M' => mm_R S (d + 1) mi q L (v.toList ++ st) M' P)) : mm_R S (d + 1) mi pc L (v6 :: v5 :: v4 :: v3 :: v2 :: v1 :: st) M P := by
  refine R_call (r := st) hc ?_ hq kk
  unfold mm_cl
  dsimp only
  unfold mm_ck
  rw [ht]
  have e : mm_nn 1 k = 6 := by unfold mm_nn; rw [hn]; rfl
  dsimp only
  rw [e]
  refine if_pos ⟨⟨rfl, by simp⟩, hs, ?_, rfl⟩
  simp at hv ⊢
  simp [hv]
theorem R_calls7 {c k ne z : Nat} {v1 v2 v3 v4 v5 v6 v7 : Value} (hc : mm_cd mi pc = some (.invokestatic c)) (hq : pc + 3 = q) (ht : mm_l2 mm_mT (mm_ow mi) c = some (k, 1, ne, z)) (hn : mm_np k = 7) (hs : (st.map fun v => v.category).sum ≤ 8) (hv : ((v1.category == 1) && (v2.category == 1) && (v3.category == 1) && (v4.category == 1) && (v5.category == 1) && (v6.category == 1) && (v7.category == 1)) = true) (kk : mm_R S d k 0 (mm_en k ([v1, v2, v3, v4, v5, v6, v7])) [] M (fun v M' => mm_R S (d + 1) mi q L (v.toList ++ st) M' P)) : mm_R S (d + 1) mi pc L (v7 :: v6 :: v5 :: v4 :: v3 :: v2 :: v1 :: st) M P := by
  refine R_call (r := st) hc ?_ hq kk
  unfold mm_cl
  dsimp only
  unfold mm_ck
  rw [ht]
  have e : mm_nn 1 k = 7 := by unfold mm_nn; rw [hn]; rfl
  dsimp only
  rw [e]
  refine if_pos ⟨⟨rfl, by simp⟩, hs, ?_, rfl⟩
  simp at hv ⊢
  simp [hv]
theorem R_calls8 {c k ne z : Nat} {v1 v2 v3 v4 v5 v6 v7 v8 : Value} (hc : mm_cd mi pc = some (.invokestatic c)) (hq : pc + 3 = q) (ht : mm_l2 mm_mT (mm_ow mi) c = some (k, 1, ne, z)) (hn : mm_np k = 8) (hs : (st.map fun v => v.category).sum ≤ 8) (hv : ((v1.category == 1) && (v2.category == 1) && (v3.category == 1) && (v4.category == 1) && (v5.category == 1) && (v6.category == 1) && (v7.category == 1) && (v8.category == 1)) = true) (kk : mm_R S d k 0 (mm_en k ([v1, v2, v3, v4, v5, v6, v7, v8])) [] M (fun v M' => mm_R S (d + 1) mi q L (v.toList ++ st) M' P)) : mm_R S (d + 1) mi pc L (v8 :: v7 :: v6 :: v5 :: v4 :: v3 :: v2 :: v1 :: st) M P := by
  refine R_call (r := st) hc ?_ hq kk
  unfold mm_cl
  dsimp only
  unfold mm_ck
  rw [ht]
  have e : mm_nn 1 k = 8 := by unfold mm_nn; rw [hn]; rfl
  dsimp only
  rw [e]
  refine if_pos ⟨⟨rfl, by simp⟩, hs, ?_, rfl⟩
  simp at hv ⊢
  simp [hv]
theorem R_calli0 {c k ne z a : Nat} (hc : mm_cd mi pc = some (.invokespecial c)) (hq : pc + 3 = q) (ht : mm_l2 mm_mT (mm_ow mi) c = some (k, 2, ne, z)) (hn : mm_np k = 0) (hs : (st.map fun v => v.category).sum ≤ 8) (kk : mm_R S d k 0 (mm_en k [.ref a]) [] M (fun v M' => mm_R S (d + 1) mi q L (v.toList ++ st) M' P)) : mm_R S (d + 1) mi pc L (.ref a :: st) M P := by
  refine R_call (r := st) hc ?_ hq kk
  unfold mm_cl
  dsimp only
  unfold mm_ck
  rw [ht]
  have e : mm_nn 2 k = 1 := by unfold mm_nn; rw [hn]; rfl
  dsimp only
  rw [e]
  refine if_pos ⟨⟨rfl, by simp⟩, hs, ?_, rfl⟩
  simp [Value.category]
end RR
