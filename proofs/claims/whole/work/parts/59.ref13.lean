/-! ===== the reference's own calls, XIII: spread, islands ===== -/
def gof (f : Nat → Int32) (w : Bool) (c : Nat) : Bool := bx f c == w
def BFI (g : Nat → Bool) (b : Bool) (a : Nat) (m0 : Nat → Bool) (n : Nat) (qf : Nat → Nat) (mt : Nat → Bool) : Prop := ((∀ i, i < n → qf i < 256 ∧ g (qf i) = true ∧ Rch g b a (qf i)) ∧ ∀ c, c < 256 → (mt c = true ↔ m0 c = true ∨ ∃ i, i < n ∧ qf i = c)) ∧ n + cnr m0 256 0 = cnr mt 256 0
def BAR (n : Nat) (qf : Nat → Nat) (mt : Nat → Bool) (Q MT : Nat → Int32) : Prop := (∀ i, i < n → Q i = nI (qf i)) ∧ ∀ c, c < 256 → MT c = zb (mt c)
def upq (qf : Nat → Nat) (n c : Nat) : Nat → Nat := fun i => if i = n then c else qf i
theorem upq_e {qf : Nat → Nat} {n c : Nat} : upq qf n c n = c := if_pos rfl
theorem upq_n {qf : Nat → Nat} {n c i : Nat} (h : i ≠ n) : upq qf n c i = qf i := if_neg h
theorem cnr_up {a : Nat → Bool} {c : Nat} (ha : a c = false) : ∀ j i, i ≤ c → c < i + j → cnr (upb a c true) j i = cnr a j i + 1 := by
  intro j
  induction j with
  | zero => intro i h1 h2; omega
  | succ j ih =>
    intro i h1 h2
    show (if upb a c true i = true then 1 else 0) + cnr (upb a c true) j (i + 1) = (if a i = true then 1 else 0) + cnr a j (i + 1) + 1
    by_cases hi : i = c
    · rw [hi, upb_e, ha, if_pos rfl, if_neg (by decide), cnr_cg (a := upb a c true) (c := a) j (c + 1) (fun k h3 h4 => upb_n (by omega))]
      omega
    · rw [upb_n hi, ih (i + 1) (by omega) (by omega)]
      omega
theorem BFI_push {g : Nat → Bool} {b : Bool} {a n c : Nat} {m0 mt : Nat → Bool} {qf : Nat → Nat} (h : BFI g b a m0 n qf mt) (hc : c < 256) (hg : g c = true) (hR : Rch g b a c) (hm : mt c = false) : BFI g b a m0 (n + 1) (upq qf n c) (upb mt c true) ∧ n < 256 := by
  obtain ⟨⟨h1, h2⟩, h3⟩ := h
  have h4 := cnr_up hm 256 0 (by omega) (by omega)
  refine ⟨⟨⟨fun i hi => ?_, fun z hz => ?_⟩, by omega⟩, by have := cnr_le (g := upb mt c true) 256 0; omega⟩
  · by_cases hq : i = n
    · rw [hq, upq_e]; exact ⟨hc, hg, hR⟩
    · rw [upq_n hq]; exact h1 i (by omega)
  · by_cases hq : z = c
    · rw [hq, upb_e]
      exact ⟨fun _ => Or.inr ⟨n, by omega, upq_e⟩, fun _ => rfl⟩
    · rw [upb_n hq, h2 z hz]
      constructor
      · intro w
        rcases w with w | ⟨i, i1, i2⟩
        · exact Or.inl w
        · exact Or.inr ⟨i, by omega, by rw [upq_n (by omega)]; exact i2⟩
      · intro w
        rcases w with w | ⟨i, i1, i2⟩
        · exact Or.inl w
        · by_cases hin : i = n
          · rw [hin, upq_e] at i2; exact absurd i2.symm hq
          · rw [upq_n hin] at i2; exact Or.inr ⟨i, by omega, i2⟩
theorem BAR_push {n c : Nat} {qf : Nat → Nat} {mt : Nat → Bool} {Q MT : Nat → Int32} (h : BAR n qf mt Q MT) : BAR (n + 1) (upq qf n c) (upb mt c true) (upd Q n (nI c)) (upd MT c (nI 1)) := by
  refine ⟨fun i hi => ?_, fun z hz => ?_⟩
  · by_cases hq : i = n
    · rw [hq, upq_e, upd_e]
    · rw [upq_n hq, upd_n hq]; exact h.1 i (by omega)
  · by_cases hq : z = c
    · rw [hq, upb_e, upd_e]; rfl
    · rw [upb_n hq, upd_n hq]; exact h.2 z hz
/-- the neighbour d of p -/
def nbd (p d c : Nat) : Prop := c % 16 + 1 = p % 16 + d % 3 ∧ c / 16 + 1 = p / 16 + d / 3
theorem nbr_d {w : Bool} {p c : Nat} (h : nbr (!w) p c) : c = p ∨ ∃ d, d < 9 ∧ (w = false ∨ d % 2 = 1) ∧ nbd p d c := by
  obtain ⟨⟨a1, a2⟩, ⟨a3, a4⟩, a5⟩ := h
  by_cases hq : c = p
  · exact Or.inl hq
  · refine Or.inr ⟨3 * (c / 16 + 1 - p / 16) + (c % 16 + 1 - p % 16), by omega, ?_, by unfold nbd; omega⟩
    cases w
    · exact Or.inl rfl
    · right
      rcases a5 with z | z | z
      · exact absurd z (by decide)
      · omega
      · omega
theorem nbd_nbr {w : Bool} {p d c : Nat} (hd : d < 9) (hw : w = false ∨ d % 2 = 1) (h : nbd p d c) : nbr (!w) p c := by
  unfold nbd at h
  refine ⟨⟨by omega, by omega⟩, ⟨by omega, by omega⟩, ?_⟩
  rcases hw with z | z
  · left; rw [z]; rfl
  · right
    omega
section P59
variable {S : mm_S} {d : Nat} {M : mm_M} {A : AS} {I : Nat → Int32} {sh : Nat → Nat → Int32} {o : OS} {l : LYS} {pi fa tp : IS}
set_option maxRecDepth 8000 in
theorem m170_d {s k a p : Nat} {w rho : Bool} {m0 : Nat → Bool} {t2 : Option Value} {P : Option Value → mm_M → Prop} (hc : CRl A sh) (hs6 : s < 6) (hp : p < 256) (hgp : (gof (sh s) w) p = true) (hRp : Rch (gof (sh s) w) (!w) a p) : ∀ (j dd n : Nat) (qf : Nat → Nat) (mt : Nat → Bool) (Q MT : Nat → Int32) (t10 t11 t12 : Option Value), dd + j = 9 → BFI (gof (sh s) w) (!w) a m0 n qf mt → BAR n qf mt Q MT → (∀ d' v, d' < dd → (w = false ∨ d' % 2 = 1) → v < 256 → (gof (sh s) w) v = true → nbd p d' v → mt v = true) → (∀ (n' : Nat) (qf' : Nat → Nat) (mt' : Nat → Bool) (Q' MT' : Nat → Int32) (t9 t10 t11 t12 : Option Value), BFI (gof (sh s) w) (!w) a m0 n' qf' mt' → BAR n' qf' mt' Q' MT' → n ≤ n' → (∀ i, i < n → qf' i = qf i) → (∀ c, c < 256 → mt c = true → mt' c = true) → (∀ d' v, d' < 9 → (w = false ∨ d' % 2 = 1) → v < 256 → (gof (sh s) w) v = true → nbd p d' v → mt' v = true) → mm_R S (d + 2) 170 235 [some (.ref 73), some (.int (nI s)), t2, some (.int (zb w)), some (.int (nI n')), some (.int (zb rho)), some (.int (nI k)), some (.int (nI (p % 16))), some (.int (nI (p / 16))), t9, t10, t11, t12] [] (mdm M (upa (upa A 105 Q') 106 MT') I) P) → mm_R S (d + 2) 170 93 [some (.ref 73), some (.int (nI s)), t2, some (.int (zb w)), some (.int (nI n)), some (.int (zb rho)), some (.int (nI k)), some (.int (nI (p % 16))), some (.int (nI (p / 16))), some (.int (nI dd)), t10, t11, t12] [] (mdm M (upa (upa A 105 Q) 106 MT) I) P := by
  intro j
  induction j with
  | zero =>
    intro dd n qf mt Q MT t10 t11 t12 hdd hB hR hN hK
    have hd9 : dd = 9 := by omega
    subst hd9
    refine R_iload (q := 95) rfl rfl rfl ?_
    refine R_bipush (q := 97) (v := nI 9) rfl rfl (by decide) ?_
    refine R_icmp_ge (q := 100) (t := 235) rfl rfl rfl (fun h97 => ?_) (fun h97 => absurd (nI_le (by omega) (by omega)) h97)
    exact hK n qf mt Q MT _ _ _ _ hB hR (Nat.le_refl _) (fun _ _ => rfl) (fun _ _ h => h) hN
  | succ j ih =>
    intro dd n qf mt Q MT t10 t11 t12 hdd hB hR hN hK
    have rr1 : CRl (upa (upa A 105 Q) 106 MT) sh := hc
    have eu : (nI (p % 16 + dd % 3) - nI 1).toInt = ((p % 16 + dd % 3 : Nat) : Int) - 1 := pk_sub_toInt (by omega) (by omega)
    have ev : (nI (p / 16 + dd / 3) - nI 1).toInt = ((p / 16 + dd / 3 : Nat) : Int) - 1 := pk_sub_toInt (by omega) (by omega)
    have hno : ∀ (t10 t11 t12 : Option Value), (∀ v, (w = false ∨ dd % 2 = 1) → v < 256 → (gof (sh s) w) v = true → nbd p dd v → mt v = true) → mm_R S (d + 2) 170 229 [some (.ref 73), some (.int (nI s)), t2, some (.int (zb w)), some (.int (nI n)), some (.int (zb rho)), some (.int (nI k)), some (.int (nI (p % 16))), some (.int (nI (p / 16))), some (.int (nI dd)), t10, t11, t12] [] (mdm M (upa (upa A 105 Q) 106 MT) I) P := by
      intro t10 t11 t12 hnn
      refine R_iinc (q := 232) rfl rfl rfl (nI_i1 dd) rfl ?_
      dsimp only [List.set]
      refine R_goto (t := 93) rfl rfl ?_
      refine ih (dd + 1) n qf mt Q MT _ _ _ (by omega) hB hR ?_ hK
      intro d' v h1 h2 h3 h4 h5
      by_cases hq : d' = dd
      · subst hq; exact hnn v h2 h3 h4 h5
      · exact hN d' v (by omega) h2 h3 h4 h5
    have h190 : ∀ (t10 t11 t12 : Option Value), (∀ v, (w = false ∨ dd % 2 = 1) → v < 256 → (gof (sh s) w) v = true → nbd p dd v → mt v = true) → mm_R S (d + 2) 170 190 [some (.ref 73), some (.int (nI s)), t2, some (.int (zb w)), some (.int (nI n)), some (.int (zb rho)), some (.int (nI k)), some (.int (nI (p % 16))), some (.int (nI (p / 16))), some (.int (nI dd)), t10, t11, t12] [.int (nI 0)] (mdm M (upa (upa A 105 Q) 106 MT) I) P := by
      intro t10 t11 t12 hnn
      refine R_istore (q := 192) rfl rfl (Nat.le_of_ble_eq_true rfl) rfl ?_
      dsimp only [List.set]
      refine R_iload (q := 194) rfl rfl rfl ?_
      refine R_if_eq (q := 197) (t := 229) rfl rfl rfl (fun h194 => ?_) (fun h194 => absurd rfl h194)
      exact hno _ _ _ hnn
    have hyes : ∀ (X Y : Nat) (t12 : Option Value), X < 16 → Y < 16 → (w = false ∨ dd % 2 = 1) → nbd p dd (16 * Y + X) → (gof (sh s) w) (16 * Y + X) = true → mt (16 * Y + X) = false → mm_R S (d + 2) 170 190 [some (.ref 73), some (.int (nI s)), t2, some (.int (zb w)), some (.int (nI n)), some (.int (zb rho)), some (.int (nI k)), some (.int (nI (p % 16))), some (.int (nI (p / 16))), some (.int (nI dd)), some (.int (nI X)), some (.int (nI Y)), t12] [.int (nI 1)] (mdm M (upa (upa A 105 Q) 106 MT) I) P := by
      intro X Y t12 hX hY hw hnb hg hm
      have hpu := BFI_push hB (c := 16 * Y + X) (by omega) hg (Rch_s hRp hp (by omega) hg (nbd_nbr (by omega) hw hnb)) hm
      have hn6 := hpu.2
      have hba := BAR_push (c := 16 * Y + X) hR
      refine R_istore (q := 192) rfl rfl (Nat.le_of_ble_eq_true rfl) rfl ?_
      dsimp only [List.set]
      refine R_iload (q := 194) rfl rfl rfl ?_
      refine R_if_eq (q := 197) (t := 229) rfl rfl rfl (fun h194 => absurd h194 (by decide)) (fun h194 => ?_)
      refine R_aload_n (q := 198) rfl rfl rfl ?_
      refine R_getf (q := 201) rfl rfl rfl md_73 rfl ?_
      refine R_bipush (q := 203) (v := nI 16) rfl rfl (by decide) ?_
      refine R_iload (q := 205) rfl rfl rfl ?_
      refine R_imul (q := 206) rfl rfl ?_
      rw [pk_mul]
      refine R_iload (q := 208) rfl rfl rfl ?_
      refine R_iadd (q := 209) rfl rfl ?_
      rw [nI_add]
      refine R_iconst (q := 210) (v := nI 1) rfl rfl (by decide) ?_
      refine R_bastore (q := 211) rfl rfl md_106 (by first | assumption | exact in_nI (by omega) (by decide)) (by first | exact Or.inl rfl | exact Or.inr rfl) ?_
      rw [cl_nI (by omega)]
      rw [md_p106]
      rw [upa_u, upa_e]
      refine R_aload_n (q := 212) rfl rfl rfl ?_
      refine R_getf (q := 215) rfl rfl rfl md_73 rfl ?_
      refine R_iload (q := 217) rfl rfl rfl ?_
      refine R_bipush (q := 219) (v := nI 16) rfl rfl (by decide) ?_
      refine R_iload (q := 221) rfl rfl rfl ?_
      refine R_imul (q := 222) rfl rfl ?_
      rw [pk_mul]
      refine R_iload (q := 224) rfl rfl rfl ?_
      refine R_iadd (q := 225) rfl rfl ?_
      rw [nI_add]
      refine R_iastore (q := 226) rfl rfl md_105 (by first | assumption | exact in_nI (by omega) (by decide)) ?_
      rw [cl_nI (by omega)]
      rw [md_p105]
      rw [upa_cm (a := 106) (b := 105) (by decide), upa_u, show upa (upa A 105 Q) 106 (upd MT (16 * Y + X) (nI 1)) 105 = Q from rfl]
      refine R_iinc (q := 229) rfl rfl rfl (nI_i1 n) rfl ?_
      dsimp only [List.set]
      refine R_iinc (q := 232) rfl rfl rfl (nI_i1 dd) rfl ?_
      dsimp only [List.set]
      refine R_goto (t := 93) rfl rfl ?_
      refine ih (dd + 1) (n + 1) _ _ _ _ _ _ _ (by omega) hpu.1 hba ?_ (fun n' qf' mt' Q' MT' t9 t10 t11 t12 k1 k2 k3 k4 k5 k6 => hK n' qf' mt' Q' MT' _ _ _ _ k1 k2 (by omega) (fun i hi => ?_) (fun c hc hcm => k5 c hc ?_) k6)
      · intro d' v h1 h2 h3 h4 h5
        by_cases hv : v = 16 * Y + X
        · rw [hv, upb_e]
        · rw [upb_n hv]
          by_cases hq : d' = dd
          · subst hq
            exfalso
            unfold nbd at hnb h5
            omega
          · exact hN d' v (by omega) h2 h3 h4 h5
      · rw [k4 i (by omega), upq_n (by omega)]
      · by_cases hv : c = 16 * Y + X
        · rw [hv, upb_e]
        · rw [upb_n hv]; exact hcm
    refine R_iload (q := 95) rfl rfl rfl ?_
    refine R_bipush (q := 97) (v := nI 9) rfl rfl (by decide) ?_
    refine R_icmp_ge (q := 100) (t := 235) rfl rfl rfl (fun h97 => absurd h97 (nI_ge (by omega) (by omega))) (fun h97 => ?_)
    refine R_iload (q := 102) rfl rfl rfl ?_
    refine R_iload (q := 104) rfl rfl rfl ?_
    refine R_iconst (q := 105) (v := nI 3) rfl rfl (by decide) ?_
    refine R_irem (q := 106) rfl rfl (by decide) ?_
    rw [pk_rem (by omega) (by omega) (by omega)]
    refine R_iadd (q := 107) rfl rfl ?_
    rw [nI_add]
    refine R_iconst (q := 108) (v := nI 1) rfl rfl (by decide) ?_
    refine R_isub (q := 109) rfl rfl ?_
    refine R_istore (q := 111) rfl rfl (Nat.le_of_ble_eq_true rfl) rfl ?_
    dsimp only [List.set]
    refine R_iload (q := 113) rfl rfl rfl ?_
    refine R_iload (q := 115) rfl rfl rfl ?_
    refine R_iconst (q := 116) (v := nI 3) rfl rfl (by decide) ?_
    refine R_idiv (q := 117) rfl rfl (by decide) ?_
    rw [pk_div (by omega) (by omega) (by omega)]
    refine R_iadd (q := 118) rfl rfl ?_
    rw [nI_add]
    refine R_iconst (q := 119) (v := nI 1) rfl rfl (by decide) ?_
    refine R_isub (q := 120) rfl rfl ?_
    refine R_istore (q := 122) rfl rfl (Nat.le_of_ble_eq_true rfl) rfl ?_
    dsimp only [List.set]
    refine R_iload_n (q := 123) rfl rfl rfl ?_
    refine R_if_eq (q := 126) (t := 134) rfl rfl rfl (fun h123 => ?_) (fun h123 => ?_)
    · refine R_iload (q := 136) rfl rfl rfl ?_
      refine R_iconst (q := 137) (v := nI 0) rfl rfl (by decide) ?_
      refine R_bipush (q := 139) (v := nI 15) rfl rfl (by decide) ?_
      refine R_calls3 (q := 142) rfl rfl rfl rfl (Nat.le_of_ble_eq_true rfl) rfl ?_
      refine R_mono (m147) (fun v139 M139 hr139 => ?_)
      obtain ⟨rfl, hm139⟩ := hr139
      rw [hm139]
      dsimp only [Option.toList, List.cons_append, List.nil_append]
      refine R_if_eq (q := 145) (t := 189) rfl rfl rfl (fun h142 => ?_) (fun h142 => ?_)
      · refine R_iconst (q := 190) (v := nI 0) rfl rfl (by decide) ?_
        first
          | (have q1 : w = true := zb_ne0.mp h123
             have q2 : ¬ dd % 2 = 1 := fun z => h131 (by rw [z])
             exact h190 _ _ _ (fun v z _ _ _ => by rcases z with z | z; exact absurd (q1.symm.trans z) (by decide); exact absurd z q2))
          | (have q1 := of_decide_eq_false (zb_eq0.mp h142)
             rw [ik_0, ik_15, eu] at q1
             exact h190 _ _ _ (fun v _ z1 _ z2 => by exfalso; unfold nbd at z2; omega))
          | (have q1 := of_decide_eq_false (zb_eq0.mp h153)
             rw [ik_0, ik_15, ev] at q1
             exact h190 _ _ _ (fun v _ z1 _ z2 => by exfalso; unfold nbd at z2; omega))
          | (have q1 : ¬ bt (sh s Y) X = w := fun z => h166 (congrArg zb z)
             exact h190 _ _ _ (fun v _ z1 z2 z3 => by
               rw [huq v z1 z3, hgx] at z2
               exact absurd (eq_of_beq z2) q1))
          | (have q1 : mt (16 * Y + X) = true := zb_ne0.mp h182
             exact h190 _ _ _ (fun v _ z1 _ z3 => by rw [huq v z1 z3]; exact q1))
          | (have q1 : bt (sh s Y) X = w := zb_inj.mp h166
             refine hyes X Y _ hX6 hY6 ?_ hnb (by rw [hgx, q1]; exact beq_self_eq_true _) (zb_eq0.mp h182)
             first
               | exact Or.inl (zb_eq0.mp h123)
               | exact Or.inr (nI_inj (by omega) (by decide) h131))
      · refine R_iload (q := 147) rfl rfl rfl ?_
        refine R_iconst (q := 148) (v := nI 0) rfl rfl (by decide) ?_
        refine R_bipush (q := 150) (v := nI 15) rfl rfl (by decide) ?_
        refine R_calls3 (q := 153) rfl rfl rfl rfl (Nat.le_of_ble_eq_true rfl) rfl ?_
        refine R_mono (m147) (fun v150 M150 hr150 => ?_)
        obtain ⟨rfl, hm150⟩ := hr150
        rw [hm150]
        dsimp only [Option.toList, List.cons_append, List.nil_append]
        refine R_if_eq (q := 156) (t := 189) rfl rfl rfl (fun h153 => ?_) (fun h153 => ?_)
        · refine R_iconst (q := 190) (v := nI 0) rfl rfl (by decide) ?_
          first
            | (have q1 : w = true := zb_ne0.mp h123
               have q2 : ¬ dd % 2 = 1 := fun z => h131 (by rw [z])
               exact h190 _ _ _ (fun v z _ _ _ => by rcases z with z | z; exact absurd (q1.symm.trans z) (by decide); exact absurd z q2))
            | (have q1 := of_decide_eq_false (zb_eq0.mp h142)
               rw [ik_0, ik_15, eu] at q1
               exact h190 _ _ _ (fun v _ z1 _ z2 => by exfalso; unfold nbd at z2; omega))
            | (have q1 := of_decide_eq_false (zb_eq0.mp h153)
               rw [ik_0, ik_15, ev] at q1
               exact h190 _ _ _ (fun v _ z1 _ z2 => by exfalso; unfold nbd at z2; omega))
            | (have q1 : ¬ bt (sh s Y) X = w := fun z => h166 (congrArg zb z)
               exact h190 _ _ _ (fun v _ z1 z2 z3 => by
                 rw [huq v z1 z3, hgx] at z2
                 exact absurd (eq_of_beq z2) q1))
            | (have q1 : mt (16 * Y + X) = true := zb_ne0.mp h182
               exact h190 _ _ _ (fun v _ z1 _ z3 => by rw [huq v z1 z3]; exact q1))
            | (have q1 : bt (sh s Y) X = w := zb_inj.mp h166
               refine hyes X Y _ hX6 hY6 ?_ hnb (by rw [hgx, q1]; exact beq_self_eq_true _) (zb_eq0.mp h182)
               first
                 | exact Or.inl (zb_eq0.mp h123)
                 | exact Or.inr (nI_inj (by omega) (by decide) h131))
        · have gu := of_decide_eq_true (zb_ne0.mp h142)
          have gv := of_decide_eq_true (zb_ne0.mp h153)
          rw [ik_0, ik_15, eu] at gu
          rw [ik_0, ik_15, ev] at gv
          have eu2 : nI (p % 16 + dd % 3) - nI 1 = nI (p % 16 + dd % 3 - 1) := by rw [i_eq, eu, i_n _ (by omega)]; omega
          have ev2 : nI (p / 16 + dd / 3) - nI 1 = nI (p / 16 + dd / 3 - 1) := by rw [i_eq, ev, i_n _ (by omega)]; omega
          rw [eu2, ev2]
          obtain ⟨X, hX⟩ : ∃ X, X = p % 16 + dd % 3 - 1 := ⟨_, rfl⟩
          obtain ⟨Y, hY⟩ : ∃ Y, Y = p / 16 + dd / 3 - 1 := ⟨_, rfl⟩
          rw [← hX, ← hY]
          have hX6 : X < 16 := by omega
          have hY6 : Y < 16 := by omega
          have hnb : nbd p dd (16 * Y + X) := by unfold nbd; omega
          have huq : ∀ v, v < 256 → nbd p dd v → v = 16 * Y + X := by intro v hv h; unfold nbd at h; omega
          have hgx : gof (sh s) w (16 * Y + X) = (bt (sh s Y) X == w) := by unfold gof; rw [bxy hX6]
          refine R_aload_n (q := 157) rfl rfl rfl ?_
          refine R_iload_n (q := 158) rfl rfl rfl ?_
          refine R_iload (q := 160) rfl rfl rfl ?_
          refine R_iload (q := 162) rfl rfl rfl ?_
          refine R_callv3 (q := 165) rfl rfl rfl rfl md_73 (Nat.le_of_ble_eq_true rfl) rfl ?_
          refine R_mono (m149 rr1 hs6) (fun v162 M162 hr162 => ?_)
          obtain ⟨rfl, hm162⟩ := hr162
          rw [hm162]
          dsimp only [Option.toList, List.cons_append, List.nil_append]
          rw [hs_n hX6 hY6]
          refine R_iload_n (q := 166) rfl rfl rfl ?_
          refine R_icmp_ne (q := 169) (t := 189) rfl rfl rfl (fun h166 => ?_) (fun h166 => ?_)
          · refine R_iconst (q := 190) (v := nI 0) rfl rfl (by decide) ?_
            first
              | (have q1 : w = true := zb_ne0.mp h123
                 have q2 : ¬ dd % 2 = 1 := fun z => h131 (by rw [z])
                 exact h190 _ _ _ (fun v z _ _ _ => by rcases z with z | z; exact absurd (q1.symm.trans z) (by decide); exact absurd z q2))
              | (have q1 := of_decide_eq_false (zb_eq0.mp h142)
                 rw [ik_0, ik_15, eu] at q1
                 exact h190 _ _ _ (fun v _ z1 _ z2 => by exfalso; unfold nbd at z2; omega))
              | (have q1 := of_decide_eq_false (zb_eq0.mp h153)
                 rw [ik_0, ik_15, ev] at q1
                 exact h190 _ _ _ (fun v _ z1 _ z2 => by exfalso; unfold nbd at z2; omega))
              | (have q1 : ¬ bt (sh s Y) X = w := fun z => h166 (congrArg zb z)
                 exact h190 _ _ _ (fun v _ z1 z2 z3 => by
                   rw [huq v z1 z3, hgx] at z2
                   exact absurd (eq_of_beq z2) q1))
              | (have q1 : mt (16 * Y + X) = true := zb_ne0.mp h182
                 exact h190 _ _ _ (fun v _ z1 _ z3 => by rw [huq v z1 z3]; exact q1))
              | (have q1 : bt (sh s Y) X = w := zb_inj.mp h166
                 refine hyes X Y _ hX6 hY6 ?_ hnb (by rw [hgx, q1]; exact beq_self_eq_true _) (zb_eq0.mp h182)
                 first
                   | exact Or.inl (zb_eq0.mp h123)
                   | exact Or.inr (nI_inj (by omega) (by decide) h131))
          · refine R_aload_n (q := 170) rfl rfl rfl ?_
            refine R_getf (q := 173) rfl rfl rfl md_73 rfl ?_
            refine R_bipush (q := 175) (v := nI 16) rfl rfl (by decide) ?_
            refine R_iload (q := 177) rfl rfl rfl ?_
            refine R_imul (q := 178) rfl rfl ?_
            rw [pk_mul]
            refine R_iload (q := 180) rfl rfl rfl ?_
            refine R_iadd (q := 181) rfl rfl ?_
            rw [nI_add]
            refine R_baload (q := 182) rfl rfl md_106 (by decide) (by first | assumption | exact in_nI (by omega) (by decide)) ?_
            rw [cl_nI (by omega)]
            rw [upa_e, hR.2 _ (by omega)]
            refine R_if_ne (q := 185) (t := 189) rfl rfl rfl (fun h182 => ?_) (fun h182 => ?_)
            · refine R_iconst (q := 190) (v := nI 0) rfl rfl (by decide) ?_
              first
                | (have q1 : w = true := zb_ne0.mp h123
                   have q2 : ¬ dd % 2 = 1 := fun z => h131 (by rw [z])
                   exact h190 _ _ _ (fun v z _ _ _ => by rcases z with z | z; exact absurd (q1.symm.trans z) (by decide); exact absurd z q2))
                | (have q1 := of_decide_eq_false (zb_eq0.mp h142)
                   rw [ik_0, ik_15, eu] at q1
                   exact h190 _ _ _ (fun v _ z1 _ z2 => by exfalso; unfold nbd at z2; omega))
                | (have q1 := of_decide_eq_false (zb_eq0.mp h153)
                   rw [ik_0, ik_15, ev] at q1
                   exact h190 _ _ _ (fun v _ z1 _ z2 => by exfalso; unfold nbd at z2; omega))
                | (have q1 : ¬ bt (sh s Y) X = w := fun z => h166 (congrArg zb z)
                   exact h190 _ _ _ (fun v _ z1 z2 z3 => by
                     rw [huq v z1 z3, hgx] at z2
                     exact absurd (eq_of_beq z2) q1))
                | (have q1 : mt (16 * Y + X) = true := zb_ne0.mp h182
                   exact h190 _ _ _ (fun v _ z1 _ z3 => by rw [huq v z1 z3]; exact q1))
                | (have q1 : bt (sh s Y) X = w := zb_inj.mp h166
                   refine hyes X Y _ hX6 hY6 ?_ hnb (by rw [hgx, q1]; exact beq_self_eq_true _) (zb_eq0.mp h182)
                   first
                     | exact Or.inl (zb_eq0.mp h123)
                     | exact Or.inr (nI_inj (by omega) (by decide) h131))
            · refine R_iconst (q := 186) (v := nI 1) rfl rfl (by decide) ?_
              refine R_goto (t := 190) rfl rfl ?_
              first
                | (have q1 : w = true := zb_ne0.mp h123
                   have q2 : ¬ dd % 2 = 1 := fun z => h131 (by rw [z])
                   exact h190 _ _ _ (fun v z _ _ _ => by rcases z with z | z; exact absurd (q1.symm.trans z) (by decide); exact absurd z q2))
                | (have q1 := of_decide_eq_false (zb_eq0.mp h142)
                   rw [ik_0, ik_15, eu] at q1
                   exact h190 _ _ _ (fun v _ z1 _ z2 => by exfalso; unfold nbd at z2; omega))
                | (have q1 := of_decide_eq_false (zb_eq0.mp h153)
                   rw [ik_0, ik_15, ev] at q1
                   exact h190 _ _ _ (fun v _ z1 _ z2 => by exfalso; unfold nbd at z2; omega))
                | (have q1 : ¬ bt (sh s Y) X = w := fun z => h166 (congrArg zb z)
                   exact h190 _ _ _ (fun v _ z1 z2 z3 => by
                     rw [huq v z1 z3, hgx] at z2
                     exact absurd (eq_of_beq z2) q1))
                | (have q1 : mt (16 * Y + X) = true := zb_ne0.mp h182
                   exact h190 _ _ _ (fun v _ z1 _ z3 => by rw [huq v z1 z3]; exact q1))
                | (have q1 : bt (sh s Y) X = w := zb_inj.mp h166
                   refine hyes X Y _ hX6 hY6 ?_ hnb (by rw [hgx, q1]; exact beq_self_eq_true _) (zb_eq0.mp h182)
                   first
                     | exact Or.inl (zb_eq0.mp h123)
                     | exact Or.inr (nI_inj (by omega) (by decide) h131))
    · refine R_iload (q := 128) rfl rfl rfl ?_
      refine R_iconst (q := 129) (v := nI 2) rfl rfl (by decide) ?_
      refine R_irem (q := 130) rfl rfl (by decide) ?_
      rw [pk_rem (by omega) (by omega) (by omega)]
      refine R_iconst (q := 131) (v := nI 1) rfl rfl (by decide) ?_
      refine R_icmp_ne (q := 134) (t := 189) rfl rfl rfl (fun h131 => ?_) (fun h131 => ?_)
      · refine R_iconst (q := 190) (v := nI 0) rfl rfl (by decide) ?_
        first
          | (have q1 : w = true := zb_ne0.mp h123
             have q2 : ¬ dd % 2 = 1 := fun z => h131 (by rw [z])
             exact h190 _ _ _ (fun v z _ _ _ => by rcases z with z | z; exact absurd (q1.symm.trans z) (by decide); exact absurd z q2))
          | (have q1 := of_decide_eq_false (zb_eq0.mp h142)
             rw [ik_0, ik_15, eu] at q1
             exact h190 _ _ _ (fun v _ z1 _ z2 => by exfalso; unfold nbd at z2; omega))
          | (have q1 := of_decide_eq_false (zb_eq0.mp h153)
             rw [ik_0, ik_15, ev] at q1
             exact h190 _ _ _ (fun v _ z1 _ z2 => by exfalso; unfold nbd at z2; omega))
          | (have q1 : ¬ bt (sh s Y) X = w := fun z => h166 (congrArg zb z)
             exact h190 _ _ _ (fun v _ z1 z2 z3 => by
               rw [huq v z1 z3, hgx] at z2
               exact absurd (eq_of_beq z2) q1))
          | (have q1 : mt (16 * Y + X) = true := zb_ne0.mp h182
             exact h190 _ _ _ (fun v _ z1 _ z3 => by rw [huq v z1 z3]; exact q1))
          | (have q1 : bt (sh s Y) X = w := zb_inj.mp h166
             refine hyes X Y _ hX6 hY6 ?_ hnb (by rw [hgx, q1]; exact beq_self_eq_true _) (zb_eq0.mp h182)
             first
               | exact Or.inl (zb_eq0.mp h123)
               | exact Or.inr (nI_inj (by omega) (by decide) h131))
      · refine R_iload (q := 136) rfl rfl rfl ?_
        refine R_iconst (q := 137) (v := nI 0) rfl rfl (by decide) ?_
        refine R_bipush (q := 139) (v := nI 15) rfl rfl (by decide) ?_
        refine R_calls3 (q := 142) rfl rfl rfl rfl (Nat.le_of_ble_eq_true rfl) rfl ?_
        refine R_mono (m147) (fun v139 M139 hr139 => ?_)
        obtain ⟨rfl, hm139⟩ := hr139
        rw [hm139]
        dsimp only [Option.toList, List.cons_append, List.nil_append]
        refine R_if_eq (q := 145) (t := 189) rfl rfl rfl (fun h142 => ?_) (fun h142 => ?_)
        · refine R_iconst (q := 190) (v := nI 0) rfl rfl (by decide) ?_
          first
            | (have q1 : w = true := zb_ne0.mp h123
               have q2 : ¬ dd % 2 = 1 := fun z => h131 (by rw [z])
               exact h190 _ _ _ (fun v z _ _ _ => by rcases z with z | z; exact absurd (q1.symm.trans z) (by decide); exact absurd z q2))
            | (have q1 := of_decide_eq_false (zb_eq0.mp h142)
               rw [ik_0, ik_15, eu] at q1
               exact h190 _ _ _ (fun v _ z1 _ z2 => by exfalso; unfold nbd at z2; omega))
            | (have q1 := of_decide_eq_false (zb_eq0.mp h153)
               rw [ik_0, ik_15, ev] at q1
               exact h190 _ _ _ (fun v _ z1 _ z2 => by exfalso; unfold nbd at z2; omega))
            | (have q1 : ¬ bt (sh s Y) X = w := fun z => h166 (congrArg zb z)
               exact h190 _ _ _ (fun v _ z1 z2 z3 => by
                 rw [huq v z1 z3, hgx] at z2
                 exact absurd (eq_of_beq z2) q1))
            | (have q1 : mt (16 * Y + X) = true := zb_ne0.mp h182
               exact h190 _ _ _ (fun v _ z1 _ z3 => by rw [huq v z1 z3]; exact q1))
            | (have q1 : bt (sh s Y) X = w := zb_inj.mp h166
               refine hyes X Y _ hX6 hY6 ?_ hnb (by rw [hgx, q1]; exact beq_self_eq_true _) (zb_eq0.mp h182)
               first
                 | exact Or.inl (zb_eq0.mp h123)
                 | exact Or.inr (nI_inj (by omega) (by decide) h131))
        · refine R_iload (q := 147) rfl rfl rfl ?_
          refine R_iconst (q := 148) (v := nI 0) rfl rfl (by decide) ?_
          refine R_bipush (q := 150) (v := nI 15) rfl rfl (by decide) ?_
          refine R_calls3 (q := 153) rfl rfl rfl rfl (Nat.le_of_ble_eq_true rfl) rfl ?_
          refine R_mono (m147) (fun v150 M150 hr150 => ?_)
          obtain ⟨rfl, hm150⟩ := hr150
          rw [hm150]
          dsimp only [Option.toList, List.cons_append, List.nil_append]
          refine R_if_eq (q := 156) (t := 189) rfl rfl rfl (fun h153 => ?_) (fun h153 => ?_)
          · refine R_iconst (q := 190) (v := nI 0) rfl rfl (by decide) ?_
            first
              | (have q1 : w = true := zb_ne0.mp h123
                 have q2 : ¬ dd % 2 = 1 := fun z => h131 (by rw [z])
                 exact h190 _ _ _ (fun v z _ _ _ => by rcases z with z | z; exact absurd (q1.symm.trans z) (by decide); exact absurd z q2))
              | (have q1 := of_decide_eq_false (zb_eq0.mp h142)
                 rw [ik_0, ik_15, eu] at q1
                 exact h190 _ _ _ (fun v _ z1 _ z2 => by exfalso; unfold nbd at z2; omega))
              | (have q1 := of_decide_eq_false (zb_eq0.mp h153)
                 rw [ik_0, ik_15, ev] at q1
                 exact h190 _ _ _ (fun v _ z1 _ z2 => by exfalso; unfold nbd at z2; omega))
              | (have q1 : ¬ bt (sh s Y) X = w := fun z => h166 (congrArg zb z)
                 exact h190 _ _ _ (fun v _ z1 z2 z3 => by
                   rw [huq v z1 z3, hgx] at z2
                   exact absurd (eq_of_beq z2) q1))
              | (have q1 : mt (16 * Y + X) = true := zb_ne0.mp h182
                 exact h190 _ _ _ (fun v _ z1 _ z3 => by rw [huq v z1 z3]; exact q1))
              | (have q1 : bt (sh s Y) X = w := zb_inj.mp h166
                 refine hyes X Y _ hX6 hY6 ?_ hnb (by rw [hgx, q1]; exact beq_self_eq_true _) (zb_eq0.mp h182)
                 first
                   | exact Or.inl (zb_eq0.mp h123)
                   | exact Or.inr (nI_inj (by omega) (by decide) h131))
          · have gu := of_decide_eq_true (zb_ne0.mp h142)
            have gv := of_decide_eq_true (zb_ne0.mp h153)
            rw [ik_0, ik_15, eu] at gu
            rw [ik_0, ik_15, ev] at gv
            have eu2 : nI (p % 16 + dd % 3) - nI 1 = nI (p % 16 + dd % 3 - 1) := by rw [i_eq, eu, i_n _ (by omega)]; omega
            have ev2 : nI (p / 16 + dd / 3) - nI 1 = nI (p / 16 + dd / 3 - 1) := by rw [i_eq, ev, i_n _ (by omega)]; omega
            rw [eu2, ev2]
            obtain ⟨X, hX⟩ : ∃ X, X = p % 16 + dd % 3 - 1 := ⟨_, rfl⟩
            obtain ⟨Y, hY⟩ : ∃ Y, Y = p / 16 + dd / 3 - 1 := ⟨_, rfl⟩
            rw [← hX, ← hY]
            have hX6 : X < 16 := by omega
            have hY6 : Y < 16 := by omega
            have hnb : nbd p dd (16 * Y + X) := by unfold nbd; omega
            have huq : ∀ v, v < 256 → nbd p dd v → v = 16 * Y + X := by intro v hv h; unfold nbd at h; omega
            have hgx : gof (sh s) w (16 * Y + X) = (bt (sh s Y) X == w) := by unfold gof; rw [bxy hX6]
            refine R_aload_n (q := 157) rfl rfl rfl ?_
            refine R_iload_n (q := 158) rfl rfl rfl ?_
            refine R_iload (q := 160) rfl rfl rfl ?_
            refine R_iload (q := 162) rfl rfl rfl ?_
            refine R_callv3 (q := 165) rfl rfl rfl rfl md_73 (Nat.le_of_ble_eq_true rfl) rfl ?_
            refine R_mono (m149 rr1 hs6) (fun v162 M162 hr162 => ?_)
            obtain ⟨rfl, hm162⟩ := hr162
            rw [hm162]
            dsimp only [Option.toList, List.cons_append, List.nil_append]
            rw [hs_n hX6 hY6]
            refine R_iload_n (q := 166) rfl rfl rfl ?_
            refine R_icmp_ne (q := 169) (t := 189) rfl rfl rfl (fun h166 => ?_) (fun h166 => ?_)
            · refine R_iconst (q := 190) (v := nI 0) rfl rfl (by decide) ?_
              first
                | (have q1 : w = true := zb_ne0.mp h123
                   have q2 : ¬ dd % 2 = 1 := fun z => h131 (by rw [z])
                   exact h190 _ _ _ (fun v z _ _ _ => by rcases z with z | z; exact absurd (q1.symm.trans z) (by decide); exact absurd z q2))
                | (have q1 := of_decide_eq_false (zb_eq0.mp h142)
                   rw [ik_0, ik_15, eu] at q1
                   exact h190 _ _ _ (fun v _ z1 _ z2 => by exfalso; unfold nbd at z2; omega))
                | (have q1 := of_decide_eq_false (zb_eq0.mp h153)
                   rw [ik_0, ik_15, ev] at q1
                   exact h190 _ _ _ (fun v _ z1 _ z2 => by exfalso; unfold nbd at z2; omega))
                | (have q1 : ¬ bt (sh s Y) X = w := fun z => h166 (congrArg zb z)
                   exact h190 _ _ _ (fun v _ z1 z2 z3 => by
                     rw [huq v z1 z3, hgx] at z2
                     exact absurd (eq_of_beq z2) q1))
                | (have q1 : mt (16 * Y + X) = true := zb_ne0.mp h182
                   exact h190 _ _ _ (fun v _ z1 _ z3 => by rw [huq v z1 z3]; exact q1))
                | (have q1 : bt (sh s Y) X = w := zb_inj.mp h166
                   refine hyes X Y _ hX6 hY6 ?_ hnb (by rw [hgx, q1]; exact beq_self_eq_true _) (zb_eq0.mp h182)
                   first
                     | exact Or.inl (zb_eq0.mp h123)
                     | exact Or.inr (nI_inj (by omega) (by decide) h131))
            · refine R_aload_n (q := 170) rfl rfl rfl ?_
              refine R_getf (q := 173) rfl rfl rfl md_73 rfl ?_
              refine R_bipush (q := 175) (v := nI 16) rfl rfl (by decide) ?_
              refine R_iload (q := 177) rfl rfl rfl ?_
              refine R_imul (q := 178) rfl rfl ?_
              rw [pk_mul]
              refine R_iload (q := 180) rfl rfl rfl ?_
              refine R_iadd (q := 181) rfl rfl ?_
              rw [nI_add]
              refine R_baload (q := 182) rfl rfl md_106 (by decide) (by first | assumption | exact in_nI (by omega) (by decide)) ?_
              rw [cl_nI (by omega)]
              rw [upa_e, hR.2 _ (by omega)]
              refine R_if_ne (q := 185) (t := 189) rfl rfl rfl (fun h182 => ?_) (fun h182 => ?_)
              · refine R_iconst (q := 190) (v := nI 0) rfl rfl (by decide) ?_
                first
                  | (have q1 : w = true := zb_ne0.mp h123
                     have q2 : ¬ dd % 2 = 1 := fun z => h131 (by rw [z])
                     exact h190 _ _ _ (fun v z _ _ _ => by rcases z with z | z; exact absurd (q1.symm.trans z) (by decide); exact absurd z q2))
                  | (have q1 := of_decide_eq_false (zb_eq0.mp h142)
                     rw [ik_0, ik_15, eu] at q1
                     exact h190 _ _ _ (fun v _ z1 _ z2 => by exfalso; unfold nbd at z2; omega))
                  | (have q1 := of_decide_eq_false (zb_eq0.mp h153)
                     rw [ik_0, ik_15, ev] at q1
                     exact h190 _ _ _ (fun v _ z1 _ z2 => by exfalso; unfold nbd at z2; omega))
                  | (have q1 : ¬ bt (sh s Y) X = w := fun z => h166 (congrArg zb z)
                     exact h190 _ _ _ (fun v _ z1 z2 z3 => by
                       rw [huq v z1 z3, hgx] at z2
                       exact absurd (eq_of_beq z2) q1))
                  | (have q1 : mt (16 * Y + X) = true := zb_ne0.mp h182
                     exact h190 _ _ _ (fun v _ z1 _ z3 => by rw [huq v z1 z3]; exact q1))
                  | (have q1 : bt (sh s Y) X = w := zb_inj.mp h166
                     refine hyes X Y _ hX6 hY6 ?_ hnb (by rw [hgx, q1]; exact beq_self_eq_true _) (zb_eq0.mp h182)
                     first
                       | exact Or.inl (zb_eq0.mp h123)
                       | exact Or.inr (nI_inj (by omega) (by decide) h131))
              · refine R_iconst (q := 186) (v := nI 1) rfl rfl (by decide) ?_
                refine R_goto (t := 190) rfl rfl ?_
                first
                  | (have q1 : w = true := zb_ne0.mp h123
                     have q2 : ¬ dd % 2 = 1 := fun z => h131 (by rw [z])
                     exact h190 _ _ _ (fun v z _ _ _ => by rcases z with z | z; exact absurd (q1.symm.trans z) (by decide); exact absurd z q2))
                  | (have q1 := of_decide_eq_false (zb_eq0.mp h142)
                     rw [ik_0, ik_15, eu] at q1
                     exact h190 _ _ _ (fun v _ z1 _ z2 => by exfalso; unfold nbd at z2; omega))
                  | (have q1 := of_decide_eq_false (zb_eq0.mp h153)
                     rw [ik_0, ik_15, ev] at q1
                     exact h190 _ _ _ (fun v _ z1 _ z2 => by exfalso; unfold nbd at z2; omega))
                  | (have q1 : ¬ bt (sh s Y) X = w := fun z => h166 (congrArg zb z)
                     exact h190 _ _ _ (fun v _ z1 z2 z3 => by
                       rw [huq v z1 z3, hgx] at z2
                       exact absurd (eq_of_beq z2) q1))
                  | (have q1 : mt (16 * Y + X) = true := zb_ne0.mp h182
                     exact h190 _ _ _ (fun v _ z1 _ z3 => by rw [huq v z1 z3]; exact q1))
                  | (have q1 : bt (sh s Y) X = w := zb_inj.mp h166
                     refine hyes X Y _ hX6 hY6 ?_ hnb (by rw [hgx, q1]; exact beq_self_eq_true _) (zb_eq0.mp h182)
                     first
                       | exact Or.inl (zb_eq0.mp h123)
                       | exact Or.inr (nI_inj (by omega) (by decide) h131))
set_option maxRecDepth 8000 in
theorem m170_k {s a : Nat} {w : Bool} {m0 : Nat → Bool} {t2 : Option Value} (hc : CRl A sh) (hs6 : s < 6) (ha : a < 256) (hm0 : ∀ v, v < 256 → Rch (gof (sh s) w) (!w) a v → m0 v = false) : ∀ (j k n : Nat) (rho : Bool) (qf : Nat → Nat) (mt : Nat → Bool) (Q MT : Nat → Int32) (t7 t8 t9 t10 t11 t12 : Option Value), 256 ≤ k + j → k ≤ n → BFI (gof (sh s) w) (!w) a m0 n qf mt → BAR n qf mt Q MT → (∃ i, i < n ∧ qf i = a) → (∀ i v, i < k → v < 256 → (gof (sh s) w) v = true → nbr (!w) (qf i) v → mt v = true) → (rho = true ↔ ∃ i, i < k ∧ rim (qf i)) → mm_R S (d + 2) 170 23 [some (.ref 73), some (.int (nI s)), t2, some (.int (zb w)), some (.int (nI n)), some (.int (zb rho)), some (.int (nI k)), t7, t8, t9, t10, t11, t12] [] (mdm M (upa (upa A 105 Q) 106 MT) I) (fun v M' => ∃ rho' Q' MT', v = some (.int (zb rho')) ∧ M' = (mdm M (upa (upa A 105 Q') 106 MT') I) ∧ (∃ mt' : Nat → Bool, (∀ c, c < 256 → MT' c = zb (mt' c)) ∧ ∀ c, c < 256 → (mt' c = true ↔ m0 c = true ∨ Rch (gof (sh s) w) (!w) a c)) ∧ (rho' = true ↔ ∃ c, c < 256 ∧ rim c ∧ Rch (gof (sh s) w) (!w) a c)) := by
  intro j
  induction j with
  | zero =>
    intro k n rho qf mt Q MT t7 t8 t9 t10 t11 t12 hj hkn hB hR ha0 hcl hrho
    have hn : n ≤ 256 := by have := hB.2; have := cnr_le (g := mt) 256 0; omega
    have hkk : k = n := by omega
    subst hkk
    refine R_iload (q := 25) rfl rfl rfl ?_
    refine R_iload (q := 27) rfl rfl rfl ?_
    refine R_icmp_ge (q := 30) (t := 241) rfl rfl rfl (fun h27 => ?_) (fun h27 => absurd (nI_le (by omega) (by omega)) h27)
    refine R_iload (q := 243) rfl rfl rfl ?_
    refine R_zreturn rfl rfl (zb_01 _) ?_
    refine ⟨rho, Q, MT, rfl, rfl, ⟨mt, hR.2, fun c hc => ?_⟩, ?_⟩
    · rw [hB.1.2 c hc]
      constructor
      · intro z
        rcases z with z | ⟨i, i1, i2⟩
        · exact Or.inl z
        · rw [← i2]; exact Or.inr (hB.1.1 i i1).2.2
      · intro z
        rcases z with z | z
        · exact Or.inl z
        · refine Or.inr (z (fun q => ∃ i, i < k ∧ qf i = q) ha0 ?_)
          intro u v ⟨i, i1, i2⟩ hu hv hgv hn
          rw [← i2] at hn
          have h1 := hcl i v i1 hv hgv hn
          rcases (hB.1.2 v hv).mp h1 with h2 | h2
          · have h3 := hm0 v hv (Rch_s (hB.1.1 i i1).2.2 (hB.1.1 i i1).1 hv hgv hn)
            rw [h3] at h2
            exact absurd h2 (by decide)
          · exact h2
    · rw [hrho]
      constructor
      · intro ⟨i, i1, i2⟩; exact ⟨qf i, (hB.1.1 i i1).1, i2, (hB.1.1 i i1).2.2⟩
      · intro ⟨c, c1, c2, c3⟩
        have h1 : ∃ i, i < k ∧ qf i = c := by
          refine c3 (fun q => ∃ i, i < k ∧ qf i = q) ha0 ?_
          intro u v ⟨i, i1, i2⟩ hu hv hgv hn
          rw [← i2] at hn
          have h1 := hcl i v i1 hv hgv hn
          rcases (hB.1.2 v hv).mp h1 with h2 | h2
          · have h3 := hm0 v hv (Rch_s (hB.1.1 i i1).2.2 (hB.1.1 i i1).1 hv hgv hn)
            rw [h3] at h2
            exact absurd h2 (by decide)
          · exact h2
        obtain ⟨i, i1, i2⟩ := h1
        exact ⟨i, i1, by rw [i2]; exact c2⟩
  | succ j ih =>
    intro k n rho qf mt Q MT t7 t8 t9 t10 t11 t12 hj hkn hB hR ha0 hcl hrho
    have hn : n ≤ 256 := by have := hB.2; have := cnr_le (g := mt) 256 0; omega
    by_cases hkk : k = n
    case pos =>
      subst hkk
      refine R_iload (q := 25) rfl rfl rfl ?_
      refine R_iload (q := 27) rfl rfl rfl ?_
      refine R_icmp_ge (q := 30) (t := 241) rfl rfl rfl (fun h27 => ?_) (fun h27 => absurd (nI_le (by omega) (by omega)) h27)
      refine R_iload (q := 243) rfl rfl rfl ?_
      refine R_zreturn rfl rfl (zb_01 _) ?_
      refine ⟨rho, Q, MT, rfl, rfl, ⟨mt, hR.2, fun c hc => ?_⟩, ?_⟩
      · rw [hB.1.2 c hc]
        constructor
        · intro z
          rcases z with z | ⟨i, i1, i2⟩
          · exact Or.inl z
          · rw [← i2]; exact Or.inr (hB.1.1 i i1).2.2
        · intro z
          rcases z with z | z
          · exact Or.inl z
          · refine Or.inr (z (fun q => ∃ i, i < k ∧ qf i = q) ha0 ?_)
            intro u v ⟨i, i1, i2⟩ hu hv hgv hn
            rw [← i2] at hn
            have h1 := hcl i v i1 hv hgv hn
            rcases (hB.1.2 v hv).mp h1 with h2 | h2
            · have h3 := hm0 v hv (Rch_s (hB.1.1 i i1).2.2 (hB.1.1 i i1).1 hv hgv hn)
              rw [h3] at h2
              exact absurd h2 (by decide)
            · exact h2
      · rw [hrho]
        constructor
        · intro ⟨i, i1, i2⟩; exact ⟨qf i, (hB.1.1 i i1).1, i2, (hB.1.1 i i1).2.2⟩
        · intro ⟨c, c1, c2, c3⟩
          have h1 : ∃ i, i < k ∧ qf i = c := by
            refine c3 (fun q => ∃ i, i < k ∧ qf i = q) ha0 ?_
            intro u v ⟨i, i1, i2⟩ hu hv hgv hn
            rw [← i2] at hn
            have h1 := hcl i v i1 hv hgv hn
            rcases (hB.1.2 v hv).mp h1 with h2 | h2
            · have h3 := hm0 v hv (Rch_s (hB.1.1 i i1).2.2 (hB.1.1 i i1).1 hv hgv hn)
              rw [h3] at h2
              exact absurd h2 (by decide)
            · exact h2
          obtain ⟨i, i1, i2⟩ := h1
          exact ⟨i, i1, by rw [i2]; exact c2⟩
    case neg =>
      have hk : k < n := by omega
      obtain ⟨p, hpq⟩ : ∃ p, p = qf k := ⟨_, rfl⟩
      have hb1 := hB.1.1 k hk
      rw [← hpq] at hb1
      have eQ : upa (upa A 105 Q) 106 MT 105 k = nI p := by rw [hpq]; exact hR.1 k hk
      have hp6 := hb1.1
      have h88 : ∀ (v : Int32) (rho2 : Bool) (t9 t10 t11 t12 : Option Value), v = zb rho2 → (rho2 = true ↔ ∃ i, i < k + 1 ∧ rim (qf i)) → mm_R S (d + 2) 170 88 [some (.ref 73), some (.int (nI s)), t2, some (.int (zb w)), some (.int (nI n)), some (.int (zb rho)), some (.int (nI k)), some (.int (nI (p % 16))), some (.int (nI (p / 16))), t9, t10, t11, t12] [.int v] (mdm M (upa (upa A 105 Q) 106 MT) I) (fun v M' => ∃ rho' Q' MT', v = some (.int (zb rho')) ∧ M' = (mdm M (upa (upa A 105 Q') 106 MT') I) ∧ (∃ mt' : Nat → Bool, (∀ c, c < 256 → MT' c = zb (mt' c)) ∧ ∀ c, c < 256 → (mt' c = true ↔ m0 c = true ∨ Rch (gof (sh s) w) (!w) a c)) ∧ (rho' = true ↔ ∃ c, c < 256 ∧ rim c ∧ Rch (gof (sh s) w) (!w) a c)) := by
        intro v rho2 t9 t10 t11 t12 hv hr2
        rw [hv]
        refine R_istore (q := 90) rfl rfl (Nat.le_of_ble_eq_true rfl) rfl ?_
        dsimp only [List.set]
        refine R_iconst (q := 91) (v := nI 0) rfl rfl (by decide) ?_
        refine R_istore (q := 93) rfl rfl (Nat.le_of_ble_eq_true rfl) rfl ?_
        dsimp only [List.set]
        refine m170_d hc hs6 hp6 hb1.2.1 hb1.2.2 9 0 n qf mt Q MT _ _ _ (by omega) hB hR (fun d' v h => absurd h (Nat.not_lt_zero _)) (fun n' qf' mt' Q' MT' t9 t10 t11 t12 k1 k2 k3 k4 k5 k6 => ?_)
        refine R_iinc (q := 238) rfl rfl rfl (nI_i1 k) rfl ?_
        dsimp only [List.set]
        refine R_goto (t := 23) rfl rfl ?_
        refine ih (k + 1) n' rho2 qf' mt' Q' MT' _ _ _ _ _ _ (by omega) (by omega) k1 k2 ?_ ?_ ?_
        · obtain ⟨i, i1, i2⟩ := ha0
          exact ⟨i, by omega, by rw [k4 i i1]; exact i2⟩
        · intro i v i1 i2 i3 i4
          rw [k4 i (by omega)] at i4
          by_cases hik : i = k
          · rw [hik, ← hpq] at i4
            rcases nbr_d i4 with z | ⟨d', z1, z2, z3⟩
            · rw [z]
              exact k5 p hp6 ((hB.1.2 p hp6).mpr (Or.inr ⟨k, hk, hpq.symm⟩))
            · exact k6 d' v z1 z2 i2 i3 z3
          · exact k5 v i2 (hcl i v (by omega) i2 i3 i4)
        · rw [hr2]
          constructor
          · intro ⟨i, i1, i2⟩; exact ⟨i, i1, by rw [k4 i (by omega)]; exact i2⟩
          · intro ⟨i, i1, i2⟩; exact ⟨i, i1, by rw [k4 i (by omega)] at i2; exact i2⟩
      refine R_iload (q := 25) rfl rfl rfl ?_
      refine R_iload (q := 27) rfl rfl rfl ?_
      refine R_icmp_ge (q := 30) (t := 241) rfl rfl rfl (fun h27 => absurd h27 (nI_ge (by omega) (by omega))) (fun h27 => ?_)
      refine R_aload_n (q := 31) rfl rfl rfl ?_
      refine R_getf (q := 34) rfl rfl rfl md_73 rfl ?_
      refine R_iload (q := 36) rfl rfl rfl ?_
      refine R_iaload (q := 37) rfl rfl md_105 (by decide) (by first | assumption | exact in_nI (by omega) (by decide)) ?_
      rw [cl_nI (by omega)]
      rw [eQ]
      refine R_bipush (q := 39) (v := nI 16) rfl rfl (by decide) ?_
      refine R_irem (q := 40) rfl rfl (by decide) ?_
      rw [pk_rem (by omega) (by omega) (by omega)]
      refine R_istore (q := 42) rfl rfl (Nat.le_of_ble_eq_true rfl) rfl ?_
      dsimp only [List.set]
      refine R_aload_n (q := 43) rfl rfl rfl ?_
      refine R_getf (q := 46) rfl rfl rfl md_73 rfl ?_
      refine R_iload (q := 48) rfl rfl rfl ?_
      refine R_iaload (q := 49) rfl rfl md_105 (by decide) (by first | assumption | exact in_nI (by omega) (by decide)) ?_
      rw [cl_nI (by omega)]
      rw [eQ]
      refine R_bipush (q := 51) (v := nI 16) rfl rfl (by decide) ?_
      refine R_idiv (q := 52) rfl rfl (by decide) ?_
      rw [pk_div (by omega) (by omega) (by omega)]
      refine R_istore (q := 54) rfl rfl (Nat.le_of_ble_eq_true rfl) rfl ?_
      dsimp only [List.set]
      refine R_iload (q := 56) rfl rfl rfl ?_
      refine R_if_ne (q := 59) (t := 83) rfl rfl rfl (fun h56 => ?_) (fun h56 => ?_)
      · refine R_iconst (q := 84) (v := nI 1) rfl rfl (by decide) ?_
        refine R_goto (t := 88) rfl rfl ?_
        first
          | (have q0 := zb_ne0.mp h56
             obtain ⟨i, i1, i2⟩ := hrho.mp q0
             exact h88 _ true _ _ _ _ rfl ⟨fun _ => ⟨i, by omega, i2⟩, fun _ => rfl⟩)
          | (have q := nI_0_of h61
             exact h88 _ true _ _ _ _ rfl ⟨fun _ => ⟨k, by omega, by rw [← hpq]; exact Or.inl (Or.inl q)⟩, fun _ => rfl⟩)
          | (have q : p % 16 = 15 := nI_inj (by omega) (by decide) h68
             exact h88 _ true _ _ _ _ rfl ⟨fun _ => ⟨k, by omega, by rw [← hpq]; exact Or.inl (Or.inr q)⟩, fun _ => rfl⟩)
          | (have q := nI_0_of h73
             exact h88 _ true _ _ _ _ rfl ⟨fun _ => ⟨k, by omega, by rw [← hpq]; exact Or.inr (Or.inl q)⟩, fun _ => rfl⟩)
          | (have q : p / 16 = 15 := nI_inj (by omega) (by decide) h80
             exact h88 _ true _ _ _ _ rfl ⟨fun _ => ⟨k, by omega, by rw [← hpq]; exact Or.inr (Or.inr q)⟩, fun _ => rfl⟩)
          | (refine h88 _ false _ _ _ _ rfl ⟨fun z => absurd z (by decide), fun ⟨i, i1, i2⟩ => ?_⟩
             by_cases hik : i = k
             · rw [hik, ← hpq] at i2
               rcases i2 with (z | z) | z | z
               · exact absurd (congrArg nI z) h61
               · exact absurd (congrArg nI z) h68
               · exact absurd (congrArg nI z) h73
               · exact absurd (congrArg nI z) h80
             · have := hrho.mpr ⟨i, by omega, i2⟩
               rw [zb_eq0.mp h56] at this
               exact this)
      · refine R_iload (q := 61) rfl rfl rfl ?_
        refine R_if_eq (q := 64) (t := 83) rfl rfl rfl (fun h61 => ?_) (fun h61 => ?_)
        · refine R_iconst (q := 84) (v := nI 1) rfl rfl (by decide) ?_
          refine R_goto (t := 88) rfl rfl ?_
          first
            | (have q0 := zb_ne0.mp h56
               obtain ⟨i, i1, i2⟩ := hrho.mp q0
               exact h88 _ true _ _ _ _ rfl ⟨fun _ => ⟨i, by omega, i2⟩, fun _ => rfl⟩)
            | (have q := nI_0_of h61
               exact h88 _ true _ _ _ _ rfl ⟨fun _ => ⟨k, by omega, by rw [← hpq]; exact Or.inl (Or.inl q)⟩, fun _ => rfl⟩)
            | (have q : p % 16 = 15 := nI_inj (by omega) (by decide) h68
               exact h88 _ true _ _ _ _ rfl ⟨fun _ => ⟨k, by omega, by rw [← hpq]; exact Or.inl (Or.inr q)⟩, fun _ => rfl⟩)
            | (have q := nI_0_of h73
               exact h88 _ true _ _ _ _ rfl ⟨fun _ => ⟨k, by omega, by rw [← hpq]; exact Or.inr (Or.inl q)⟩, fun _ => rfl⟩)
            | (have q : p / 16 = 15 := nI_inj (by omega) (by decide) h80
               exact h88 _ true _ _ _ _ rfl ⟨fun _ => ⟨k, by omega, by rw [← hpq]; exact Or.inr (Or.inr q)⟩, fun _ => rfl⟩)
            | (refine h88 _ false _ _ _ _ rfl ⟨fun z => absurd z (by decide), fun ⟨i, i1, i2⟩ => ?_⟩
               by_cases hik : i = k
               · rw [hik, ← hpq] at i2
                 rcases i2 with (z | z) | z | z
                 · exact absurd (congrArg nI z) h61
                 · exact absurd (congrArg nI z) h68
                 · exact absurd (congrArg nI z) h73
                 · exact absurd (congrArg nI z) h80
               · have := hrho.mpr ⟨i, by omega, i2⟩
                 rw [zb_eq0.mp h56] at this
                 exact this)
        · refine R_iload (q := 66) rfl rfl rfl ?_
          refine R_bipush (q := 68) (v := nI 15) rfl rfl (by decide) ?_
          refine R_icmp_eq (q := 71) (t := 83) rfl rfl rfl (fun h68 => ?_) (fun h68 => ?_)
          · refine R_iconst (q := 84) (v := nI 1) rfl rfl (by decide) ?_
            refine R_goto (t := 88) rfl rfl ?_
            first
              | (have q0 := zb_ne0.mp h56
                 obtain ⟨i, i1, i2⟩ := hrho.mp q0
                 exact h88 _ true _ _ _ _ rfl ⟨fun _ => ⟨i, by omega, i2⟩, fun _ => rfl⟩)
              | (have q := nI_0_of h61
                 exact h88 _ true _ _ _ _ rfl ⟨fun _ => ⟨k, by omega, by rw [← hpq]; exact Or.inl (Or.inl q)⟩, fun _ => rfl⟩)
              | (have q : p % 16 = 15 := nI_inj (by omega) (by decide) h68
                 exact h88 _ true _ _ _ _ rfl ⟨fun _ => ⟨k, by omega, by rw [← hpq]; exact Or.inl (Or.inr q)⟩, fun _ => rfl⟩)
              | (have q := nI_0_of h73
                 exact h88 _ true _ _ _ _ rfl ⟨fun _ => ⟨k, by omega, by rw [← hpq]; exact Or.inr (Or.inl q)⟩, fun _ => rfl⟩)
              | (have q : p / 16 = 15 := nI_inj (by omega) (by decide) h80
                 exact h88 _ true _ _ _ _ rfl ⟨fun _ => ⟨k, by omega, by rw [← hpq]; exact Or.inr (Or.inr q)⟩, fun _ => rfl⟩)
              | (refine h88 _ false _ _ _ _ rfl ⟨fun z => absurd z (by decide), fun ⟨i, i1, i2⟩ => ?_⟩
                 by_cases hik : i = k
                 · rw [hik, ← hpq] at i2
                   rcases i2 with (z | z) | z | z
                   · exact absurd (congrArg nI z) h61
                   · exact absurd (congrArg nI z) h68
                   · exact absurd (congrArg nI z) h73
                   · exact absurd (congrArg nI z) h80
                 · have := hrho.mpr ⟨i, by omega, i2⟩
                   rw [zb_eq0.mp h56] at this
                   exact this)
          · refine R_iload (q := 73) rfl rfl rfl ?_
            refine R_if_eq (q := 76) (t := 83) rfl rfl rfl (fun h73 => ?_) (fun h73 => ?_)
            · refine R_iconst (q := 84) (v := nI 1) rfl rfl (by decide) ?_
              refine R_goto (t := 88) rfl rfl ?_
              first
                | (have q0 := zb_ne0.mp h56
                   obtain ⟨i, i1, i2⟩ := hrho.mp q0
                   exact h88 _ true _ _ _ _ rfl ⟨fun _ => ⟨i, by omega, i2⟩, fun _ => rfl⟩)
                | (have q := nI_0_of h61
                   exact h88 _ true _ _ _ _ rfl ⟨fun _ => ⟨k, by omega, by rw [← hpq]; exact Or.inl (Or.inl q)⟩, fun _ => rfl⟩)
                | (have q : p % 16 = 15 := nI_inj (by omega) (by decide) h68
                   exact h88 _ true _ _ _ _ rfl ⟨fun _ => ⟨k, by omega, by rw [← hpq]; exact Or.inl (Or.inr q)⟩, fun _ => rfl⟩)
                | (have q := nI_0_of h73
                   exact h88 _ true _ _ _ _ rfl ⟨fun _ => ⟨k, by omega, by rw [← hpq]; exact Or.inr (Or.inl q)⟩, fun _ => rfl⟩)
                | (have q : p / 16 = 15 := nI_inj (by omega) (by decide) h80
                   exact h88 _ true _ _ _ _ rfl ⟨fun _ => ⟨k, by omega, by rw [← hpq]; exact Or.inr (Or.inr q)⟩, fun _ => rfl⟩)
                | (refine h88 _ false _ _ _ _ rfl ⟨fun z => absurd z (by decide), fun ⟨i, i1, i2⟩ => ?_⟩
                   by_cases hik : i = k
                   · rw [hik, ← hpq] at i2
                     rcases i2 with (z | z) | z | z
                     · exact absurd (congrArg nI z) h61
                     · exact absurd (congrArg nI z) h68
                     · exact absurd (congrArg nI z) h73
                     · exact absurd (congrArg nI z) h80
                   · have := hrho.mpr ⟨i, by omega, i2⟩
                     rw [zb_eq0.mp h56] at this
                     exact this)
            · refine R_iload (q := 78) rfl rfl rfl ?_
              refine R_bipush (q := 80) (v := nI 15) rfl rfl (by decide) ?_
              refine R_icmp_ne (q := 83) (t := 87) rfl rfl rfl (fun h80 => ?_) (fun h80 => ?_)
              · refine R_iconst (q := 88) (v := nI 0) rfl rfl (by decide) ?_
                first
                  | (have q0 := zb_ne0.mp h56
                     obtain ⟨i, i1, i2⟩ := hrho.mp q0
                     exact h88 _ true _ _ _ _ rfl ⟨fun _ => ⟨i, by omega, i2⟩, fun _ => rfl⟩)
                  | (have q := nI_0_of h61
                     exact h88 _ true _ _ _ _ rfl ⟨fun _ => ⟨k, by omega, by rw [← hpq]; exact Or.inl (Or.inl q)⟩, fun _ => rfl⟩)
                  | (have q : p % 16 = 15 := nI_inj (by omega) (by decide) h68
                     exact h88 _ true _ _ _ _ rfl ⟨fun _ => ⟨k, by omega, by rw [← hpq]; exact Or.inl (Or.inr q)⟩, fun _ => rfl⟩)
                  | (have q := nI_0_of h73
                     exact h88 _ true _ _ _ _ rfl ⟨fun _ => ⟨k, by omega, by rw [← hpq]; exact Or.inr (Or.inl q)⟩, fun _ => rfl⟩)
                  | (have q : p / 16 = 15 := nI_inj (by omega) (by decide) h80
                     exact h88 _ true _ _ _ _ rfl ⟨fun _ => ⟨k, by omega, by rw [← hpq]; exact Or.inr (Or.inr q)⟩, fun _ => rfl⟩)
                  | (refine h88 _ false _ _ _ _ rfl ⟨fun z => absurd z (by decide), fun ⟨i, i1, i2⟩ => ?_⟩
                     by_cases hik : i = k
                     · rw [hik, ← hpq] at i2
                       rcases i2 with (z | z) | z | z
                       · exact absurd (congrArg nI z) h61
                       · exact absurd (congrArg nI z) h68
                       · exact absurd (congrArg nI z) h73
                       · exact absurd (congrArg nI z) h80
                     · have := hrho.mpr ⟨i, by omega, i2⟩
                       rw [zb_eq0.mp h56] at this
                       exact this)
              · refine R_iconst (q := 84) (v := nI 1) rfl rfl (by decide) ?_
                refine R_goto (t := 88) rfl rfl ?_
                first
                  | (have q0 := zb_ne0.mp h56
                     obtain ⟨i, i1, i2⟩ := hrho.mp q0
                     exact h88 _ true _ _ _ _ rfl ⟨fun _ => ⟨i, by omega, i2⟩, fun _ => rfl⟩)
                  | (have q := nI_0_of h61
                     exact h88 _ true _ _ _ _ rfl ⟨fun _ => ⟨k, by omega, by rw [← hpq]; exact Or.inl (Or.inl q)⟩, fun _ => rfl⟩)
                  | (have q : p % 16 = 15 := nI_inj (by omega) (by decide) h68
                     exact h88 _ true _ _ _ _ rfl ⟨fun _ => ⟨k, by omega, by rw [← hpq]; exact Or.inl (Or.inr q)⟩, fun _ => rfl⟩)
                  | (have q := nI_0_of h73
                     exact h88 _ true _ _ _ _ rfl ⟨fun _ => ⟨k, by omega, by rw [← hpq]; exact Or.inr (Or.inl q)⟩, fun _ => rfl⟩)
                  | (have q : p / 16 = 15 := nI_inj (by omega) (by decide) h80
                     exact h88 _ true _ _ _ _ rfl ⟨fun _ => ⟨k, by omega, by rw [← hpq]; exact Or.inr (Or.inr q)⟩, fun _ => rfl⟩)
                  | (refine h88 _ false _ _ _ _ rfl ⟨fun z => absurd z (by decide), fun ⟨i, i1, i2⟩ => ?_⟩
                     by_cases hik : i = k
                     · rw [hik, ← hpq] at i2
                       rcases i2 with (z | z) | z | z
                       · exact absurd (congrArg nI z) h61
                       · exact absurd (congrArg nI z) h68
                       · exact absurd (congrArg nI z) h73
                       · exact absurd (congrArg nI z) h80
                     · have := hrho.mpr ⟨i, by omega, i2⟩
                       rw [zb_eq0.mp h56] at this
                       exact this)
set_option maxRecDepth 8000 in
theorem m170 {s a : Nat} {w : Bool} {m0 : Nat → Bool} (hc : CRl A sh) (hs6 : s < 6) (ha : a < 256) (hga : (gof (sh s) w) a = true) (hm : ∀ c, c < 256 → A 106 c = zb (m0 c)) (hm0 : ∀ v, v < 256 → Rch (gof (sh s) w) (!w) a v → m0 v = false) : mm_R S (d + 2) 170 0 (mm_en 170 [.ref 73, .int (nI s), .int (nI a), .int (zb w)]) [] (mdm M A I) (fun v M' => ∃ rho' Q' MT', v = some (.int (zb rho')) ∧ M' = (mdm M (upa (upa A 105 Q') 106 MT') I) ∧ (∃ mt' : Nat → Bool, (∀ c, c < 256 → MT' c = zb (mt' c)) ∧ ∀ c, c < 256 → (mt' c = true ↔ m0 c = true ∨ Rch (gof (sh s) w) (!w) a c)) ∧ (rho' = true ↔ ∃ c, c < 256 ∧ rim c ∧ Rch (gof (sh s) w) (!w) a c)) := by
  show mm_R S (d + 2) 170 0 [some (.ref 73), some (.int (nI s)), some (.int (nI a)), some (.int (zb w)), none, none, none, none, none, none, none, none, none] [] (mdm M A I) _
  have hB : BFI (gof (sh s) w) (!w) a m0 1 (fun _ => a) (upb m0 a true) := by
    have h4 := cnr_up (hm0 a ha Rch_0) 256 0 (by omega) (by omega)
    refine ⟨⟨fun i hi => ⟨ha, hga, Rch_0⟩, fun c hc => ?_⟩, by omega⟩
    by_cases hq : c = a
    · rw [hq, upb_e]; exact ⟨fun _ => Or.inr ⟨0, by omega, rfl⟩, fun _ => rfl⟩
    · rw [upb_n hq]; exact ⟨fun z => Or.inl z, fun z => z.elim id (fun ⟨i, _, z⟩ => absurd z.symm hq)⟩
  have hR : BAR 1 (fun _ => a) (upb m0 a true) (upd (A 105) 0 (nI a)) (upd (A 106) a (nI 1)) := by
    refine ⟨fun i hi => by rw [show i = 0 by omega, upd_e], fun c hc => ?_⟩
    by_cases hq : c = a
    · rw [hq, upb_e, upd_e]; rfl
    · rw [upb_n hq, upd_n hq]; exact hm c hc
  refine R_iconst (q := 1) (v := nI 1) rfl rfl (by decide) ?_
  refine R_istore (q := 3) rfl rfl (Nat.le_of_ble_eq_true rfl) rfl ?_
  dsimp only [List.set]
  refine R_iconst (q := 4) (v := nI 0) rfl rfl (by decide) ?_
  refine R_istore (q := 6) rfl rfl (Nat.le_of_ble_eq_true rfl) rfl ?_
  dsimp only [List.set]
  refine R_aload_n (q := 7) rfl rfl rfl ?_
  refine R_getf (q := 10) rfl rfl rfl md_73 rfl ?_
  refine R_iconst (q := 11) (v := nI 0) rfl rfl (by decide) ?_
  refine R_iload_n (q := 12) rfl rfl rfl ?_
  refine R_iastore (q := 13) rfl rfl md_105 (by first | assumption | exact in_nI (by omega) (by decide)) ?_
  rw [cl_nI (by omega)]
  rw [md_p105]
  refine R_aload_n (q := 14) rfl rfl rfl ?_
  refine R_getf (q := 17) rfl rfl rfl md_73 rfl ?_
  refine R_iload_n (q := 18) rfl rfl rfl ?_
  refine R_iconst (q := 19) (v := nI 1) rfl rfl (by decide) ?_
  refine R_bastore (q := 20) rfl rfl md_106 (by first | assumption | exact in_nI (by omega) (by decide)) (by first | exact Or.inl rfl | exact Or.inr rfl) ?_
  rw [cl_nI (by omega)]
  rw [md_p106]
  rw [show upa A 105 (upd (A 105) 0 (nI a)) 106 = A 106 from rfl]
  refine R_iconst (q := 21) (v := nI 0) rfl rfl (by decide) ?_
  refine R_istore (q := 23) rfl rfl (Nat.le_of_ble_eq_true rfl) rfl ?_
  dsimp only [List.set]
  exact m170_k hc hs6 ha hm0 256 0 1 false (fun _ => a) (upb m0 a true) _ _ _ _ _ _ _ _ (by omega) (by omega) hB hR ⟨0, by omega, rfl⟩ (fun i v h => absurd h (Nat.not_lt_zero _)) ⟨fun z => absurd z (by decide), fun ⟨i, h, _⟩ => absurd h (Nat.not_lt_zero _)⟩
set_option maxRecDepth 8000 in
theorem m171 {s : Nat} {w : Bool} (hc : CRl A sh) (hs6 : s < 6) : mm_R S (d + 3) 171 0 (mm_en 171 [.ref 73, .int (nI s), .int (zb w)]) [] (mdm M A I) (fun v M' => ∃ n Q MT, v = some (.int (nI n)) ∧ M' = (mdm M (upa (upa A 105 Q) 106 MT) I) ∧ CNT (fun i => mnP (gof (sh s) w) (!w) i ∧ (w = true ∨ inn (gof (sh s) w) (!w) i)) 256 n) := by
  show mm_R S (d + 3) 171 0 [some (.ref 73), some (.int (nI s)), some (.int (zb w)), none, none, none] [] (mdm M A I) _
  have hlp : ∀ (j k n : Nat) (mt : Nat → Bool) (Q MT : Nat → Int32) (t5 : Option Value), k + j = 256 → (∀ c, c < 256 → MT c = zb (mt c)) → (∀ c, c < 256 → (mt c = true ↔ ERl (gof (sh s) w) (!w) k c)) → CNT (fun i => mnP (gof (sh s) w) (!w) i ∧ (w = true ∨ inn (gof (sh s) w) (!w) i)) k n → mm_R S (d + 3) 171 30 [some (.ref 73), some (.int (nI s)), some (.int (zb w)), some (.int (nI n)), some (.int (nI k)), t5] [] (mdm M (upa (upa A 105 Q) 106 MT) I) (fun v M' => ∃ n Q MT, v = some (.int (nI n)) ∧ M' = (mdm M (upa (upa A 105 Q) 106 MT) I) ∧ CNT (fun i => mnP (gof (sh s) w) (!w) i ∧ (w = true ∨ inn (gof (sh s) w) (!w) i)) 256 n) := by
    intro j
    induction j with
    | zero =>
      intro k n mt Q MT t5 hk hM hE hC
      have hk6 : k = 256 := by omega
      subst hk6
      refine R_iload (q := 32) rfl rfl rfl ?_
      refine R_sipush (q := 35) (v := nI 256) rfl rfl (by decide) ?_
      refine R_icmp_ge (q := 38) (t := 98) rfl rfl rfl (fun h35 => ?_) (fun h35 => absurd (nI_le (by omega) (by omega)) h35)
      refine R_iload_n (q := 99) rfl rfl rfl ?_
      refine R_ireturn rfl rfl ?_
      exact ⟨n, Q, MT, rfl, rfl, hC⟩
    | succ j ih =>
      intro k n mt Q MT t5 hk hM hE hC
      have hk6 : k < 256 := by omega
      have hn := CNT_le hC
      have rr1 : CRl (upa (upa A 105 Q) 106 MT) sh := hc
      have ecl : upa (upa A 105 Q) 106 MT 74 (256 * s + k) = zb (bx (sh s) k) := CR_k rr1 hs6 hk6
      have hes : ∀ c, ERl (gof (sh s) w) (!w) (k + 1) c ↔ ERl (gof (sh s) w) (!w) k c ∨ ((gof (sh s) w) k = true ∧ Rch (gof (sh s) w) (!w) k c) := by
        intro c
        constructor
        · intro ⟨z, z1, z2, z3, z4⟩
          by_cases hz : z = k
          · rw [hz] at z3 z4; exact Or.inr ⟨z3, z4⟩
          · exact Or.inl ⟨z, by omega, z2, z3, z4⟩
        · intro q
          rcases q with ⟨z, z1, z2, z3, z4⟩ | ⟨z3, z4⟩
          · exact ⟨z, by omega, z2, z3, z4⟩
          · exact ⟨k, by omega, hk6, z3, z4⟩
      have hgo : ∀ (n : Nat) (mt : Nat → Bool) (Q MT : Nat → Int32) (t5 : Option Value), (∀ c, c < 256 → MT c = zb (mt c)) → (∀ c, c < 256 → (mt c = true ↔ ERl (gof (sh s) w) (!w) (k + 1) c)) → CNT (fun i => mnP (gof (sh s) w) (!w) i ∧ (w = true ∨ inn (gof (sh s) w) (!w) i)) (k + 1) n → mm_R S (d + 3) 171 92 [some (.ref 73), some (.int (nI s)), some (.int (zb w)), some (.int (nI n)), some (.int (nI k)), t5] [] (mdm M (upa (upa A 105 Q) 106 MT) I) (fun v M' => ∃ n Q MT, v = some (.int (nI n)) ∧ M' = (mdm M (upa (upa A 105 Q) 106 MT) I) ∧ CNT (fun i => mnP (gof (sh s) w) (!w) i ∧ (w = true ∨ inn (gof (sh s) w) (!w) i)) 256 n) := by
        intro n mt Q MT t5 h1 h2 h3
        refine R_iinc (q := 95) rfl rfl rfl (nI_i1 k) rfl ?_
        dsimp only [List.set]
        refine R_goto (t := 30) rfl rfl ?_
        exact ih (k + 1) n mt Q MT _ (by omega) h1 h2 h3
      have hskip : ∀ (t5 : Option Value), (mt k = true ∨ ¬ (gof (sh s) w) k = true) → mm_R S (d + 3) 171 92 [some (.ref 73), some (.int (nI s)), some (.int (zb w)), some (.int (nI n)), some (.int (nI k)), t5] [] (mdm M (upa (upa A 105 Q) 106 MT) I) (fun v M' => ∃ n Q MT, v = some (.int (nI n)) ∧ M' = (mdm M (upa (upa A 105 Q) 106 MT) I) ∧ CNT (fun i => mnP (gof (sh s) w) (!w) i ∧ (w = true ∨ inn (gof (sh s) w) (!w) i)) 256 n) := by
        intro t5 hcs
        refine hgo n mt Q MT _ hM (fun c hc => ?_) (CNT_n hC (fun hm => ?_))
        · rw [hE c hc, hes c]
          refine ⟨Or.inl, fun q => q.elim id (fun ⟨z1, z2⟩ => ?_)⟩
          rcases hcs with z | z
          · exact ERl_t ((hE k hk6).mp z) z2
          · exact absurd z1 z
        · rcases hcs with z | z
          · obtain ⟨i, i1, i2, i3, i4⟩ := (hE k hk6).mp z
            exact hm.1.2 i i1 i3 i4
          · exact z hm.1.1
      refine R_iload (q := 32) rfl rfl rfl ?_
      refine R_sipush (q := 35) (v := nI 256) rfl rfl (by decide) ?_
      refine R_icmp_ge (q := 38) (t := 98) rfl rfl rfl (fun h35 => absurd h35 (nI_ge (by omega) (by omega))) (fun h35 => ?_)
      refine R_aload_n (q := 39) rfl rfl rfl ?_
      refine R_getf (q := 42) rfl rfl rfl md_73 rfl ?_
      refine R_iload (q := 44) rfl rfl rfl ?_
      refine R_baload (q := 45) rfl rfl md_106 (by decide) (by first | assumption | exact in_nI (by omega) (by decide)) ?_
      rw [cl_nI (by omega)]
      rw [upa_e, hM k hk6]
      refine R_if_ne (q := 48) (t := 92) rfl rfl rfl (fun h45 => ?_) (fun h45 => ?_)
      · first
          | exact hskip _ (Or.inl (zb_ne0.mp h45))
          | exact hskip _ (Or.inr (fun z => h62 (congrArg zb (eq_of_beq z))))
          | (refine hgo _ mt2 Q2 MT2 _ hM2 (fun c hc => ?_) ?_
             · rw [hE2 c hc, hes c, hE c hc]
               exact ⟨fun z => z.imp id (fun y => ⟨hgk, y⟩), fun z => z.imp id And.right⟩
             · first
                 | exact CNT_y hC ⟨hmn, Or.inl (zb_ne0.mp h77)⟩
                 | exact CNT_n hC (fun z => by
                     rcases z.2 with y | y
                     · rw [zb_eq0.mp h77] at y; exact absurd y (by decide)
                     · exact y (hrho.mp (zb_ne0.mp h82)))
                 | exact CNT_y hC ⟨hmn, Or.inr (fun y => by
                     have := hrho.mpr y
                     rw [zb_eq0.mp h82] at this
                     exact absurd this (by decide))⟩)
      · refine R_aload_n (q := 49) rfl rfl rfl ?_
        refine R_getf (q := 52) rfl rfl rfl md_73 rfl ?_
        refine R_sipush (q := 55) (v := nI 256) rfl rfl (by decide) ?_
        refine R_iload_n (q := 56) rfl rfl rfl ?_
        refine R_imul (q := 57) rfl rfl ?_
        rw [pk_mul]
        refine R_iload (q := 59) rfl rfl rfl ?_
        refine R_iadd (q := 60) rfl rfl ?_
        rw [nI_add]
        refine R_baload (q := 61) rfl rfl md_74 (by decide) (by first | assumption | exact in_nI (by omega) (by decide)) ?_
        rw [cl_nI (by omega)]
        rw [ecl]
        refine R_iload_n (q := 62) rfl rfl rfl ?_
        refine R_icmp_ne (q := 65) (t := 92) rfl rfl rfl (fun h62 => ?_) (fun h62 => ?_)
        · first
            | exact hskip _ (Or.inl (zb_ne0.mp h45))
            | exact hskip _ (Or.inr (fun z => h62 (congrArg zb (eq_of_beq z))))
            | (refine hgo _ mt2 Q2 MT2 _ hM2 (fun c hc => ?_) ?_
               · rw [hE2 c hc, hes c, hE c hc]
                 exact ⟨fun z => z.imp id (fun y => ⟨hgk, y⟩), fun z => z.imp id And.right⟩
               · first
                   | exact CNT_y hC ⟨hmn, Or.inl (zb_ne0.mp h77)⟩
                   | exact CNT_n hC (fun z => by
                       rcases z.2 with y | y
                       · rw [zb_eq0.mp h77] at y; exact absurd y (by decide)
                       · exact y (hrho.mp (zb_ne0.mp h82)))
                   | exact CNT_y hC ⟨hmn, Or.inr (fun y => by
                       have := hrho.mpr y
                       rw [zb_eq0.mp h82] at this
                       exact absurd this (by decide))⟩)
        · have hmk : mt k = false := zb_eq0.mp h45
          have hgk : gof (sh s) w k = true := by
            have q : bx (sh s) k = w := zb_inj.mp h62
            unfold gof; rw [q]; exact beq_self_eq_true _
          have hnE : ¬ ERl (gof (sh s) w) (!w) k k := fun z => by
            have := (hE k hk6).mpr z
            rw [hmk] at this
            exact absurd this (by decide)
          have hm0 : ∀ v, v < 256 → Rch (gof (sh s) w) (!w) k v → mt v = false := fun v hv hR => Bool.eq_false_iff.mpr (fun z => hnE (ERl_t ((hE v hv).mp z) (Rch_sy hk6 hgk hR)))
          have hmn : mnP (gof (sh s) w) (!w) k := ⟨hgk, fun i i1 i2 i3 => hnE ⟨i, i1, by omega, i2, i3⟩⟩
          have hMM : ∀ c, c < 256 → upa (upa A 105 Q) 106 MT 106 c = zb (mt c) := hM
          refine R_aload_n (q := 66) rfl rfl rfl ?_
          refine R_iload_n (q := 67) rfl rfl rfl ?_
          refine R_iload (q := 69) rfl rfl rfl ?_
          refine R_iload_n (q := 70) rfl rfl rfl ?_
          refine R_callv3 (q := 73) rfl rfl rfl rfl md_73 (Nat.le_of_ble_eq_true rfl) rfl ?_
          refine R_mono (m170 rr1 hs6 hk6 hgk hMM hm0) (fun v70 M70 hr70 => ?_)
          obtain ⟨rho, Q2, MT2, rfl, hm70, ⟨mt2, hM2, hE2⟩, hrho⟩ := hr70
          rw [hm70]
          dsimp only [Option.toList, List.cons_append, List.nil_append]
          rw [upa_cm (a := 106) (b := 105) (by decide), upa_u, upa_u]
          refine R_istore (q := 75) rfl rfl (Nat.le_of_ble_eq_true rfl) rfl ?_
          dsimp only [List.set]
          refine R_iload_n (q := 76) rfl rfl rfl ?_
          refine R_iload_n (q := 77) rfl rfl rfl ?_
          refine R_if_ne (q := 80) (t := 85) rfl rfl rfl (fun h77 => ?_) (fun h77 => ?_)
          · refine R_iconst (q := 86) (v := nI 1) rfl rfl (by decide) ?_
            refine R_goto (t := 90) rfl rfl ?_
            refine R_iadd (q := 91) rfl rfl ?_
            rw [nI_add]
            refine R_istore_n (q := 92) rfl rfl (Nat.le_of_ble_eq_true rfl) rfl ?_
            dsimp only [List.set]
            first
              | exact hskip _ (Or.inl (zb_ne0.mp h45))
              | exact hskip _ (Or.inr (fun z => h62 (congrArg zb (eq_of_beq z))))
              | (refine hgo _ mt2 Q2 MT2 _ hM2 (fun c hc => ?_) ?_
                 · rw [hE2 c hc, hes c, hE c hc]
                   exact ⟨fun z => z.imp id (fun y => ⟨hgk, y⟩), fun z => z.imp id And.right⟩
                 · first
                     | exact CNT_y hC ⟨hmn, Or.inl (zb_ne0.mp h77)⟩
                     | exact CNT_n hC (fun z => by
                         rcases z.2 with y | y
                         · rw [zb_eq0.mp h77] at y; exact absurd y (by decide)
                         · exact y (hrho.mp (zb_ne0.mp h82)))
                     | exact CNT_y hC ⟨hmn, Or.inr (fun y => by
                         have := hrho.mpr y
                         rw [zb_eq0.mp h82] at this
                         exact absurd this (by decide))⟩)
          · refine R_iload (q := 82) rfl rfl rfl ?_
            refine R_if_ne (q := 85) (t := 89) rfl rfl rfl (fun h82 => ?_) (fun h82 => ?_)
            · refine R_iconst (q := 90) (v := nI 0) rfl rfl (by decide) ?_
              refine R_iadd (q := 91) rfl rfl ?_
              rw [nI_add]
              refine R_istore_n (q := 92) rfl rfl (Nat.le_of_ble_eq_true rfl) rfl ?_
              dsimp only [List.set]
              first
                | exact hskip _ (Or.inl (zb_ne0.mp h45))
                | exact hskip _ (Or.inr (fun z => h62 (congrArg zb (eq_of_beq z))))
                | (refine hgo _ mt2 Q2 MT2 _ hM2 (fun c hc => ?_) ?_
                   · rw [hE2 c hc, hes c, hE c hc]
                     exact ⟨fun z => z.imp id (fun y => ⟨hgk, y⟩), fun z => z.imp id And.right⟩
                   · first
                       | exact CNT_y hC ⟨hmn, Or.inl (zb_ne0.mp h77)⟩
                       | exact CNT_n hC (fun z => by
                           rcases z.2 with y | y
                           · rw [zb_eq0.mp h77] at y; exact absurd y (by decide)
                           · exact y (hrho.mp (zb_ne0.mp h82)))
                       | exact CNT_y hC ⟨hmn, Or.inr (fun y => by
                           have := hrho.mpr y
                           rw [zb_eq0.mp h82] at this
                           exact absurd this (by decide))⟩)
            · refine R_iconst (q := 86) (v := nI 1) rfl rfl (by decide) ?_
              refine R_goto (t := 90) rfl rfl ?_
              refine R_iadd (q := 91) rfl rfl ?_
              rw [nI_add]
              refine R_istore_n (q := 92) rfl rfl (Nat.le_of_ble_eq_true rfl) rfl ?_
              dsimp only [List.set]
              first
                | exact hskip _ (Or.inl (zb_ne0.mp h45))
                | exact hskip _ (Or.inr (fun z => h62 (congrArg zb (eq_of_beq z))))
                | (refine hgo _ mt2 Q2 MT2 _ hM2 (fun c hc => ?_) ?_
                   · rw [hE2 c hc, hes c, hE c hc]
                     exact ⟨fun z => z.imp id (fun y => ⟨hgk, y⟩), fun z => z.imp id And.right⟩
                   · first
                       | exact CNT_y hC ⟨hmn, Or.inl (zb_ne0.mp h77)⟩
                       | exact CNT_n hC (fun z => by
                           rcases z.2 with y | y
                           · rw [zb_eq0.mp h77] at y; exact absurd y (by decide)
                           · exact y (hrho.mp (zb_ne0.mp h82)))
                       | exact CNT_y hC ⟨hmn, Or.inr (fun y => by
                           have := hrho.mpr y
                           rw [zb_eq0.mp h82] at this
                           exact absurd this (by decide))⟩)
  have hcl : ∀ (j k : Nat) (t5 : Option Value), k + j = 256 → mm_R S (d + 3) 171 5 [some (.ref 73), some (.int (nI s)), some (.int (zb w)), some (.int (nI 0)), some (.int (nI k)), t5] [] (mdm M (upa A 106 (ifl (fun _ => nI 0) (A 106) k)) I) (fun v M' => ∃ n Q MT, v = some (.int (nI n)) ∧ M' = (mdm M (upa (upa A 105 Q) 106 MT) I) ∧ CNT (fun i => mnP (gof (sh s) w) (!w) i ∧ (w = true ∨ inn (gof (sh s) w) (!w) i)) 256 n) := by
    intro j
    induction j with
    | zero =>
      intro k t5 hk
      have hk6 : k = 256 := by omega
      subst hk6
      refine R_iload (q := 7) rfl rfl rfl ?_
      refine R_sipush (q := 10) (v := nI 256) rfl rfl (by decide) ?_
      refine R_icmp_ge (q := 13) (t := 27) rfl rfl rfl (fun h10 => ?_) (fun h10 => absurd (nI_le (by omega) (by omega)) h10)
      refine R_iconst (q := 28) (v := nI 0) rfl rfl (by decide) ?_
      refine R_istore (q := 30) rfl rfl (Nat.le_of_ble_eq_true rfl) rfl ?_
      dsimp only [List.set]
      have h0 := hlp 256 0 0 (fun _ => false) (A 105) (ifl (fun _ => nI 0) (A 106) 256) t5 (by omega) (fun c hc => ifl_lt hc) (fun c hc => ⟨fun z => absurd z (by decide), fun ⟨z, h, _⟩ => absurd h (Nat.not_lt_zero _)⟩) CNT_0
      rw [upa_s] at h0
      exact h0
    | succ j ih =>
      intro k t5 hk
      refine R_iload (q := 7) rfl rfl rfl ?_
      refine R_sipush (q := 10) (v := nI 256) rfl rfl (by decide) ?_
      refine R_icmp_ge (q := 13) (t := 27) rfl rfl rfl (fun h10 => absurd h10 (nI_ge (by omega) (by omega))) (fun h10 => ?_)
      refine R_aload_n (q := 14) rfl rfl rfl ?_
      refine R_getf (q := 17) rfl rfl rfl md_73 rfl ?_
      refine R_iload (q := 19) rfl rfl rfl ?_
      refine R_iconst (q := 20) (v := nI 0) rfl rfl (by decide) ?_
      refine R_bastore (q := 21) rfl rfl md_106 (by first | assumption | exact in_nI (by omega) (by decide)) (by first | exact Or.inl rfl | exact Or.inr rfl) ?_
      rw [cl_nI (by omega)]
      rw [md_p106]
      rw [upa_u, upa_e, ifl_s (n := fun _ => nI 0)]
      refine R_iinc (q := 24) rfl rfl rfl (nI_i1 k) rfl ?_
      dsimp only [List.set]
      refine R_goto (t := 5) rfl rfl ?_
      exact ih (k + 1) _ (by omega)
  refine R_iconst (q := 1) (v := nI 0) rfl rfl (by decide) ?_
  refine R_istore_n (q := 2) rfl rfl (Nat.le_of_ble_eq_true rfl) rfl ?_
  dsimp only [List.set]
  refine R_iconst (q := 3) (v := nI 0) rfl rfl (by decide) ?_
  refine R_istore (q := 5) rfl rfl (Nat.le_of_ble_eq_true rfl) rfl ?_
  dsimp only [List.set]
  have h0 := hcl 256 0 none (by omega)
  rw [ifl_0, upa_s] at h0
  exact h0
set_option maxRecDepth 8000 in
theorem m172 {b : Bool} {M : mm_M} : mm_R S (d + 0) 172 0 (mm_en 172 [.int (zb b)]) [] M (fun v M' => v = some (.int (zb b)) ∧ M' = M) := by
  show mm_R S (d + 0) 172 0 [some (.int (zb b))] [] M _
  refine R_iload_n (q := 1) rfl rfl rfl ?_
  refine R_if_eq (q := 4) (t := 8) rfl rfl rfl (fun h1 => ?_) (fun h1 => ?_)
  · refine R_iconst (q := 9) (v := nI 0) rfl rfl (by decide) ?_
    refine R_ireturn rfl rfl ?_
    refine ⟨congrArg some (congrArg Value.int ?_), rfl⟩
    first
      | (rw [zb_eq0.mp h1]; rfl)
      | (rw [zb_ne0.mp h1]; rfl)
  · refine R_iconst (q := 5) (v := nI 1) rfl rfl (by decide) ?_
    refine R_goto (t := 9) rfl rfl ?_
    refine R_ireturn rfl rfl ?_
    refine ⟨congrArg some (congrArg Value.int ?_), rfl⟩
    first
      | (rw [zb_eq0.mp h1]; rfl)
      | (rw [zb_ne0.mp h1]; rfl)
end P59
