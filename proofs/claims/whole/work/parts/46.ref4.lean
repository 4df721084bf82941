/-! ===== the reference's own calls, III: ring ===== -/
section P46
variable {S : mm_S} {d : Nat} {M : mm_M} {A : AS} {I : Nat → Int32} {sh : Nat → Nat → Int32} {o : OS} {l : LYS} {pi fa tp : IS}
theorem aft_mod {n i : Nat} (h : i < n) : (i + 1) % n = aft n i := by
  unfold aft
  split
  · exact Nat.mod_eq_of_lt (by assumption)
  · have : i + 1 = n := by omega
    rw [this, Nat.mod_self]
theorem aft_lt {n i : Nat} (h : i < n) : aft n i < n := by
  unfold aft
  split <;> omega
theorem aft_mod2 {n i : Nat} (h : i < n) : (i + 2) % n = aft n (aft n i) := by
  rw [← aft_mod (aft_lt h), ← aft_mod h, Nat.mod_add_mod]
def rgk (n : Nat) (px py : Nat → Int32) (i : Nat) : Bool := !(lvb n px i == lvb n py i) && ((lvb n px i == lvb n py (aft n i)) && (lvb n py i == lvb n px (aft n i)))
theorem rgk_rok {n : Nat} {px py : Nat → Int32} : allr (rgk n px py) n 0 = allr (rok n px py) n 0 := by
  have key : ∀ a b c d : Bool, (!(a == b)) = true → (!(c == d)) = true → ((!(a == b) && ((a == d) && (b == c))) = true ↔ (!(a == b) && !(a == c)) = true) := by decide
  apply Bool.eq_iff_iff.mpr
  rw [allr_iff, allr_iff]
  constructor
  · intro h j h1 h2
    have hj := h j h1 h2
    have ha := h (aft n j) (Nat.zero_le _) (by have := aft_lt (n := n) (i := j) (by omega); omega)
    unfold rgk at hj ha
    rw [Bool.and_eq_true] at ha
    have hj1 := hj
    rw [Bool.and_eq_true] at hj1
    exact (key _ _ _ _ hj1.1 ha.1).mp hj
  · intro h j h1 h2
    have hj := h j h1 h2
    have ha := h (aft n j) (Nat.zero_le _) (by have := aft_lt (n := n) (i := j) (by omega); omega)
    unfold rok at hj ha
    rw [Bool.and_eq_true] at ha
    have hj1 := hj
    rw [Bool.and_eq_true] at hj1
    exact (key _ _ _ _ hj1.1 ha.1).mpr hj
theorem zb_dn {x y : Int32} : (¬ x = y → nI 1 = zb (decide (¬ x = y))) ∧ (x = y → nI 0 = zb (decide (¬ x = y))) := ⟨fun h => by rw [decide_eq_true h]; rfl, fun h => by rw [decide_eq_false (fun q => q h)]; rfl⟩
set_option maxRecDepth 8000 in
theorem m154 (hV : VS sh o l pi fa tp) (h : MRl A I sh o l pi fa tp) : mm_R S (d + 0) 154 0 (mm_en 154 [.ref 73]) [] (mdm M A I) (fun v M' => v = some (.int (zb (ringb o.1 o.2.1 o.2.2))) ∧ M' = mdm M A I) := by
  show mm_R S (d + 0) 154 0 [some (.ref 73), none, none, none, none, none, none] [] (mdm M A I) _
  obtain ⟨-, ⟨r2a, r2b⟩, -⟩ := h
  have hn := hV.2.1.1
  have hl : ∀ (j i : Nat) (g : Bool) (t3 t4 t5 t6 : Option Value), i + j = o.1 → mm_R S (d + 0) 154 25 [some (.ref 73), some (.int (zb g)), some (.int (nI i)), t3, t4, t5, t6] [] (mdm M A I) (fun v M' => v = some (.int (zb (g && allr (rgk o.1 o.2.1 o.2.2) j i))) ∧ M' = mdm M A I) := by
    intro j
    induction j with
    | zero =>
      intro i g t3 t4 t5 t6 hi
      rw [show (g && allr (rgk o.1 o.2.1 o.2.2) 0 i) = g from Bool.and_true g]
      refine R_iload_n (q := 26) rfl rfl rfl ?_
      refine R_aload_n (q := 27) rfl rfl rfl ?_
      refine R_getf (q := 30) rfl rfl rfl md_73 rfl ?_
      rw [r2a]
      refine R_icmp_ge (q := 33) (t := 171) rfl rfl rfl (fun h30 => ?_) (fun h30 => absurd (nI_le (by omega) (by omega)) h30)
      refine R_iload_n (q := 172) rfl rfl rfl ?_
      refine R_zreturn rfl rfl (zb_01 _) ?_
      exact ⟨rfl, rfl⟩
    | succ j ih =>
      intro i g t3 t4 t5 t6 hi
      have hin : i < o.1 := by omega
      have ha1 := aft_lt hin
      have ha2 := aft_lt ha1
      have e0 := r2b i hin
      have e1 := r2b (aft o.1 i) ha1
      have e2 := r2b (aft o.1 (aft o.1 i)) ha2
      cases g with
      | false =>
        rw [show (false && allr (rgk o.1 o.2.1 o.2.2) (j + 1) i) = false from rfl]
        refine R_iload_n (q := 26) rfl rfl rfl ?_
        refine R_aload_n (q := 27) rfl rfl rfl ?_
        refine R_getf (q := 30) rfl rfl rfl md_73 rfl ?_
        rw [r2a]
        refine R_icmp_ge (q := 33) (t := 171) rfl rfl rfl (fun h30 => absurd h30 (nI_ge (by omega) (by omega))) (fun h30 => ?_)
        refine R_iload_n (q := 34) rfl rfl rfl ?_
        refine R_if_eq (q := 37) (t := 171) rfl rfl rfl (fun h34 => ?_) (fun h34 => absurd rfl h34)
        refine R_iload_n (q := 172) rfl rfl rfl ?_
        refine R_zreturn rfl rfl (zb_01 false) ?_
        exact ⟨rfl, rfl⟩
      | true =>
        have h164 : ∀ (v : Int32) (t5 t6 : Option Value), v = zb (rgk o.1 o.2.1 o.2.2 i) → mm_R S (d + 0) 154 164 [some (.ref 73), some (.int (zb true)), some (.int (nI i)), some (.int (nI (aft o.1 i))), some (.int (nI (aft o.1 (aft o.1 i)))), t5, t6] [.int v] (mdm M A I) (fun v M' => v = some (.int (zb (true && allr (rgk o.1 o.2.1 o.2.2) (j + 1) i))) ∧ M' = mdm M A I) := by
          intro v t5 t6 hv
          refine R_istore_n (q := 165) rfl rfl (Nat.le_of_ble_eq_true rfl) rfl ?_
          dsimp only [List.set]
          refine R_iinc (q := 168) rfl rfl rfl (nI_i1 i) rfl ?_
          dsimp only [List.set]
          refine R_goto (t := 25) rfl rfl ?_
          rw [hv]
          refine R_mono (ih (i + 1) (rgk o.1 o.2.1 o.2.2 i) _ _ _ _ (by omega)) (fun v M' hr => ?_)
          exact hr
        have h156 : ∀ v : Int32, v = zb (lvb o.1 o.2.1 (aft o.1 i)) → ¬ (zb (lvb o.1 o.2.1 i)) = (zb (lvb o.1 o.2.2 i)) → (zb (lvb o.1 o.2.1 i)) = zb (lvb o.1 o.2.2 (aft o.1 i)) → mm_R S (d + 0) 154 156 [some (.ref 73), some (.int (zb true)), some (.int (nI i)), some (.int (nI (aft o.1 i))), some (.int (nI (aft o.1 (aft o.1 i)))), some (.int (zb (lvb o.1 o.2.1 i))), some (.int (zb (lvb o.1 o.2.2 i)))] [.int v, .int (zb (lvb o.1 o.2.2 i))] (mdm M A I) (fun v M' => v = some (.int (zb (true && allr (rgk o.1 o.2.1 o.2.2) (j + 1) i))) ∧ M' = mdm M A I) := by
          intro v hv hb1 hb2
          rw [zb_inj] at hb1 hb2
          refine R_icmp_ne (q := 159) (t := 163) rfl rfl rfl (fun h156 => ?_) (fun h156 => ?_)
          · refine R_iconst (q := 164) (v := nI 0) rfl rfl (by decide) ?_
            refine h164 _ _ _ ?_
            unfold rgk
            rw [hv, zb_inj] at h156
            first
              | (rw [h156, ← hb2]; revert hb1 h156; generalize lvb o.1 o.2.1 i = p; generalize lvb o.1 o.2.2 i = q; intro hb1 h156; rw [← h156]; revert hb1; cases p <;> cases q <;> intro hb1 <;> first | rfl | exact absurd rfl hb1)
              | (rw [← hb2]; revert hb1 h156; generalize lvb o.1 o.2.1 i = p; generalize lvb o.1 o.2.2 i = q; generalize lvb o.1 o.2.1 (aft o.1 i) = s; cases p <;> cases q <;> cases s <;> intro hb1 h156 <;> first | rfl | exact absurd rfl hb1 | exact absurd rfl h156)
          · refine R_iconst (q := 160) (v := nI 1) rfl rfl (by decide) ?_
            refine R_goto (t := 164) rfl rfl ?_
            refine h164 _ _ _ ?_
            unfold rgk
            rw [hv, zb_inj] at h156
            first
              | (rw [h156, ← hb2]; revert hb1 h156; generalize lvb o.1 o.2.1 i = p; generalize lvb o.1 o.2.2 i = q; intro hb1 h156; rw [← h156]; revert hb1; cases p <;> cases q <;> intro hb1 <;> first | rfl | exact absurd rfl hb1)
              | (rw [← hb2]; revert hb1 h156; generalize lvb o.1 o.2.1 i = p; generalize lvb o.1 o.2.2 i = q; generalize lvb o.1 o.2.1 (aft o.1 i) = s; cases p <;> cases q <;> cases s <;> intro hb1 h156 <;> first | rfl | exact absurd rfl hb1 | exact absurd rfl h156)
        have h130 : ∀ v : Int32, v = zb (lvb o.1 o.2.2 (aft o.1 i)) → ¬ (zb (lvb o.1 o.2.1 i)) = (zb (lvb o.1 o.2.2 i)) → mm_R S (d + 0) 154 130 [some (.ref 73), some (.int (zb true)), some (.int (nI i)), some (.int (nI (aft o.1 i))), some (.int (nI (aft o.1 (aft o.1 i)))), some (.int (zb (lvb o.1 o.2.1 i))), some (.int (zb (lvb o.1 o.2.2 i)))] [.int v, .int (zb (lvb o.1 o.2.1 i))] (mdm M A I) (fun v M' => v = some (.int (zb (true && allr (rgk o.1 o.2.1 o.2.2) (j + 1) i))) ∧ M' = mdm M A I) := by
          intro v hv hb1
          refine R_icmp_ne (q := 133) (t := 163) rfl rfl rfl (fun h130 => ?_) (fun h130 => ?_)
          · refine R_iconst (q := 164) (v := nI 0) rfl rfl (by decide) ?_
            refine h164 _ _ _ ?_
            unfold rgk
            rw [hv, zb_inj] at h130
            revert h130
            generalize lvb o.1 o.2.1 i = p
            generalize lvb o.1 o.2.2 (aft o.1 i) = q
            intro h130
            rw [show (p == q) = false from by cases p <;> cases q <;> first | rfl | exact absurd rfl h130, Bool.false_and, Bool.and_false]
            rfl
          · refine R_iload (q := 135) rfl rfl rfl ?_
            refine R_aload_n (q := 136) rfl rfl rfl ?_
            refine R_getf (q := 139) rfl rfl rfl md_73 rfl ?_
            refine R_iload_n (q := 140) rfl rfl rfl ?_
            refine R_iaload (q := 141) rfl rfl md_76 (by decide) (by first | assumption | exact in_nI (by omega) (by decide)) ?_
            rw [cl_nI (by omega), e1.1]
            refine R_aload_n (q := 142) rfl rfl rfl ?_
            refine R_getf (q := 145) rfl rfl rfl md_73 rfl ?_
            refine R_iload (q := 147) rfl rfl rfl ?_
            refine R_iaload (q := 148) rfl rfl md_76 (by decide) (by first | assumption | exact in_nI (by omega) (by decide)) ?_
            rw [cl_nI (by omega), e2.1]
            refine R_icmp_eq (q := 151) (t := 155) rfl rfl rfl (fun h148 => ?_) (fun h148 => ?_)
            · refine R_iconst (q := 156) (v := nI 0) rfl rfl (by decide) ?_
              first
                | exact h156 _ (zb_dn.1 h148) hb1 (h130.trans hv)
                | exact h156 _ (zb_dn.2 h148) hb1 (h130.trans hv)
            · refine R_iconst (q := 152) (v := nI 1) rfl rfl (by decide) ?_
              refine R_goto (t := 156) rfl rfl ?_
              first
                | exact h156 _ (zb_dn.1 h148) hb1 (h130.trans hv)
                | exact h156 _ (zb_dn.2 h148) hb1 (h130.trans hv)
        have h98 : ∀ (v : Int32) (t6 : Option Value), v = (zb (lvb o.1 o.2.2 i)) → mm_R S (d + 0) 154 98 [some (.ref 73), some (.int (zb true)), some (.int (nI i)), some (.int (nI (aft o.1 i))), some (.int (nI (aft o.1 (aft o.1 i)))), some (.int (zb (lvb o.1 o.2.1 i))), t6] [.int v] (mdm M A I) (fun v M' => v = some (.int (zb (true && allr (rgk o.1 o.2.1 o.2.2) (j + 1) i))) ∧ M' = mdm M A I) := by
          intro v t6 hv
          subst hv
          refine R_istore (q := 100) rfl rfl (Nat.le_of_ble_eq_true rfl) rfl ?_
          dsimp only [List.set]
          refine R_iload (q := 102) rfl rfl rfl ?_
          refine R_iload (q := 104) rfl rfl rfl ?_
          refine R_icmp_eq (q := 107) (t := 163) rfl rfl rfl (fun h104 => ?_) (fun h104 => ?_)
          · refine R_iconst (q := 164) (v := nI 0) rfl rfl (by decide) ?_
            refine h164 _ _ _ ?_
            unfold rgk
            rw [zb_inj.mp h104, beq_self_eq_true]
            rfl
          · refine R_iload (q := 109) rfl rfl rfl ?_
            refine R_aload_n (q := 110) rfl rfl rfl ?_
            refine R_getf (q := 113) rfl rfl rfl md_73 rfl ?_
            refine R_iload_n (q := 114) rfl rfl rfl ?_
            refine R_iaload (q := 115) rfl rfl md_77 (by decide) (by first | assumption | exact in_nI (by omega) (by decide)) ?_
            rw [cl_nI (by omega), e1.2]
            refine R_aload_n (q := 116) rfl rfl rfl ?_
            refine R_getf (q := 119) rfl rfl rfl md_73 rfl ?_
            refine R_iload (q := 121) rfl rfl rfl ?_
            refine R_iaload (q := 122) rfl rfl md_77 (by decide) (by first | assumption | exact in_nI (by omega) (by decide)) ?_
            rw [cl_nI (by omega), e2.2]
            refine R_icmp_eq (q := 125) (t := 129) rfl rfl rfl (fun h122 => ?_) (fun h122 => ?_)
            · refine R_iconst (q := 130) (v := nI 0) rfl rfl (by decide) ?_
              first
                | exact h130 _ (zb_dn.1 h122) h104
                | exact h130 _ (zb_dn.2 h122) h104
            · refine R_iconst (q := 126) (v := nI 1) rfl rfl (by decide) ?_
              refine R_goto (t := 130) rfl rfl ?_
              first
                | exact h130 _ (zb_dn.1 h122) h104
                | exact h130 _ (zb_dn.2 h122) h104
        have h76 : ∀ (v : Int32) (t5 t6 : Option Value), v = (zb (lvb o.1 o.2.1 i)) → mm_R S (d + 0) 154 76 [some (.ref 73), some (.int (zb true)), some (.int (nI i)), some (.int (nI (aft o.1 i))), some (.int (nI (aft o.1 (aft o.1 i)))), t5, t6] [.int v] (mdm M A I) (fun v M' => v = some (.int (zb (true && allr (rgk o.1 o.2.1 o.2.2) (j + 1) i))) ∧ M' = mdm M A I) := by
          intro v t5 t6 hv
          subst hv
          refine R_istore (q := 78) rfl rfl (Nat.le_of_ble_eq_true rfl) rfl ?_
          dsimp only [List.set]
          refine R_aload_n (q := 79) rfl rfl rfl ?_
          refine R_getf (q := 82) rfl rfl rfl md_73 rfl ?_
          refine R_iload_n (q := 83) rfl rfl rfl ?_
          refine R_iaload (q := 84) rfl rfl md_77 (by decide) (by first | assumption | exact in_nI (by omega) (by decide)) ?_
          rw [cl_nI (by omega), e0.2]
          refine R_aload_n (q := 85) rfl rfl rfl ?_
          refine R_getf (q := 88) rfl rfl rfl md_73 rfl ?_
          refine R_iload_n (q := 89) rfl rfl rfl ?_
          refine R_iaload (q := 90) rfl rfl md_77 (by decide) (by first | assumption | exact in_nI (by omega) (by decide)) ?_
          rw [cl_nI (by omega), e1.2]
          refine R_icmp_eq (q := 93) (t := 97) rfl rfl rfl (fun h90 => ?_) (fun h90 => ?_)
          · refine R_iconst (q := 98) (v := nI 0) rfl rfl (by decide) ?_
            first
              | exact h98 _ _ (zb_dn.1 h90)
              | exact h98 _ _ (zb_dn.2 h90)
          · refine R_iconst (q := 94) (v := nI 1) rfl rfl (by decide) ?_
            refine R_goto (t := 98) rfl rfl ?_
            first
              | exact h98 _ _ (zb_dn.1 h90)
              | exact h98 _ _ (zb_dn.2 h90)
        refine R_iload_n (q := 26) rfl rfl rfl ?_
        refine R_aload_n (q := 27) rfl rfl rfl ?_
        refine R_getf (q := 30) rfl rfl rfl md_73 rfl ?_
        rw [r2a]
        refine R_icmp_ge (q := 33) (t := 171) rfl rfl rfl (fun h30 => absurd h30 (nI_ge (by omega) (by omega))) (fun h30 => ?_)
        refine R_iload_n (q := 34) rfl rfl rfl ?_
        refine R_if_eq (q := 37) (t := 171) rfl rfl rfl (fun h34 => absurd h34 (by decide)) (fun h34 => ?_)
        refine R_iload_n (q := 38) rfl rfl rfl ?_
        refine R_iconst (q := 39) (v := nI 1) rfl rfl (by decide) ?_
        refine R_iadd (q := 40) rfl rfl ?_
        rw [nI_add]
        refine R_aload_n (q := 41) rfl rfl rfl ?_
        refine R_getf (q := 44) rfl rfl rfl md_73 rfl ?_
        rw [r2a]
        refine R_irem (q := 45) rfl rfl (nI_ne0 (by omega) (by omega)) ?_
        rw [pk_rem (by omega) (by omega) (by omega), aft_mod hin]
        refine R_istore_n (q := 46) rfl rfl (Nat.le_of_ble_eq_true rfl) rfl ?_
        dsimp only [List.set]
        refine R_iload_n (q := 47) rfl rfl rfl ?_
        refine R_iconst (q := 48) (v := nI 2) rfl rfl (by decide) ?_
        refine R_iadd (q := 49) rfl rfl ?_
        rw [nI_add]
        refine R_aload_n (q := 50) rfl rfl rfl ?_
        refine R_getf (q := 53) rfl rfl rfl md_73 rfl ?_
        rw [r2a]
        refine R_irem (q := 54) rfl rfl (nI_ne0 (by omega) (by omega)) ?_
        rw [pk_rem (by omega) (by omega) (by omega), aft_mod2 hin]
        refine R_istore (q := 56) rfl rfl (Nat.le_of_ble_eq_true rfl) rfl ?_
        dsimp only [List.set]
        refine R_aload_n (q := 57) rfl rfl rfl ?_
        refine R_getf (q := 60) rfl rfl rfl md_73 rfl ?_
        refine R_iload_n (q := 61) rfl rfl rfl ?_
        refine R_iaload (q := 62) rfl rfl md_76 (by decide) (by first | assumption | exact in_nI (by omega) (by decide)) ?_
        rw [cl_nI (by omega), e0.1]
        refine R_aload_n (q := 63) rfl rfl rfl ?_
        refine R_getf (q := 66) rfl rfl rfl md_73 rfl ?_
        refine R_iload_n (q := 67) rfl rfl rfl ?_
        refine R_iaload (q := 68) rfl rfl md_76 (by decide) (by first | assumption | exact in_nI (by omega) (by decide)) ?_
        rw [cl_nI (by omega), e1.1]
        refine R_icmp_eq (q := 71) (t := 75) rfl rfl rfl (fun h68 => ?_) (fun h68 => ?_)
        · refine R_iconst (q := 76) (v := nI 0) rfl rfl (by decide) ?_
          first
            | exact h76 _ _ _ (zb_dn.1 h68)
            | exact h76 _ _ _ (zb_dn.2 h68)
        · refine R_iconst (q := 72) (v := nI 1) rfl rfl (by decide) ?_
          refine R_goto (t := 76) rfl rfl ?_
          first
            | exact h76 _ _ _ (zb_dn.1 h68)
            | exact h76 _ _ _ (zb_dn.2 h68)
  rw [show ringb o.1 o.2.1 o.2.2 = (decide (4 ≤ o.1 ∧ o.1 % 2 = 0) && allr (rgk o.1 o.2.1 o.2.2) o.1 0) from by rw [rgk_rok]; rfl]
  refine R_aload_n (q := 1) rfl rfl rfl ?_
  refine R_getf (q := 4) rfl rfl rfl md_73 rfl ?_
  rw [r2a]
  refine R_iconst (q := 5) (v := nI 4) rfl rfl (by decide) ?_
  refine R_icmp_lt (q := 8) (t := 21) rfl rfl rfl (fun h5 => ?_) (fun h5 => ?_)
  · refine R_iconst (q := 22) (v := nI 0) rfl rfl (by decide) ?_
    refine R_istore_n (q := 23) rfl rfl (Nat.le_of_ble_eq_true rfl) rfl ?_
    dsimp only [List.set]
    refine R_iconst (q := 24) (v := nI 0) rfl rfl (by decide) ?_
    refine R_istore_n (q := 25) rfl rfl (Nat.le_of_ble_eq_true rfl) rfl ?_
    dsimp only [List.set]
    first
      | (rw [show decide (4 ≤ o.1 ∧ o.1 % 2 = 0) = true from decide_eq_true ⟨by rw [i_lt, ik_4, i_n _ (by omega)] at h5; omega, nI_0_of h14⟩]
         exact hl o.1 0 true none none none none (by omega))
      | (rw [show decide (4 ≤ o.1 ∧ o.1 % 2 = 0) = false from decide_eq_false (fun q => h14 (by rw [q.2]; rfl))]
         exact hl o.1 0 false none none none none (by omega))
      | (rw [show decide (4 ≤ o.1 ∧ o.1 % 2 = 0) = false from decide_eq_false (fun q => by rw [i_lt, ik_4, i_n _ (by omega)] at h5; omega)]
         exact hl o.1 0 false none none none none (by omega))
  · refine R_aload_n (q := 9) rfl rfl rfl ?_
    refine R_getf (q := 12) rfl rfl rfl md_73 rfl ?_
    rw [r2a]
    refine R_iconst (q := 13) (v := nI 2) rfl rfl (by decide) ?_
    refine R_irem (q := 14) rfl rfl (by decide) ?_
    rw [pk_rem (by omega) (by omega) (by omega)]
    refine R_if_ne (q := 17) (t := 21) rfl rfl rfl (fun h14 => ?_) (fun h14 => ?_)
    · refine R_iconst (q := 22) (v := nI 0) rfl rfl (by decide) ?_
      refine R_istore_n (q := 23) rfl rfl (Nat.le_of_ble_eq_true rfl) rfl ?_
      dsimp only [List.set]
      refine R_iconst (q := 24) (v := nI 0) rfl rfl (by decide) ?_
      refine R_istore_n (q := 25) rfl rfl (Nat.le_of_ble_eq_true rfl) rfl ?_
      dsimp only [List.set]
      first
        | (rw [show decide (4 ≤ o.1 ∧ o.1 % 2 = 0) = true from decide_eq_true ⟨by rw [i_lt, ik_4, i_n _ (by omega)] at h5; omega, nI_0_of h14⟩]
           exact hl o.1 0 true none none none none (by omega))
        | (rw [show decide (4 ≤ o.1 ∧ o.1 % 2 = 0) = false from decide_eq_false (fun q => h14 (by rw [q.2]; rfl))]
           exact hl o.1 0 false none none none none (by omega))
        | (rw [show decide (4 ≤ o.1 ∧ o.1 % 2 = 0) = false from decide_eq_false (fun q => by rw [i_lt, ik_4, i_n _ (by omega)] at h5; omega)]
           exact hl o.1 0 false none none none none (by omega))
    · refine R_iconst (q := 18) (v := nI 1) rfl rfl (by decide) ?_
      refine R_goto (t := 22) rfl rfl ?_
      refine R_istore_n (q := 23) rfl rfl (Nat.le_of_ble_eq_true rfl) rfl ?_
      dsimp only [List.set]
      refine R_iconst (q := 24) (v := nI 0) rfl rfl (by decide) ?_
      refine R_istore_n (q := 25) rfl rfl (Nat.le_of_ble_eq_true rfl) rfl ?_
      dsimp only [List.set]
      first
        | (rw [show decide (4 ≤ o.1 ∧ o.1 % 2 = 0) = true from decide_eq_true ⟨by rw [i_lt, ik_4, i_n _ (by omega)] at h5; omega, nI_0_of h14⟩]
           exact hl o.1 0 true none none none none (by omega))
        | (rw [show decide (4 ≤ o.1 ∧ o.1 % 2 = 0) = false from decide_eq_false (fun q => h14 (by rw [q.2]; rfl))]
           exact hl o.1 0 false none none none none (by omega))
        | (rw [show decide (4 ≤ o.1 ∧ o.1 % 2 = 0) = false from decide_eq_false (fun q => by rw [i_lt, ik_4, i_n _ (by omega)] at h5; omega)]
           exact hl o.1 0 false none none none none (by omega))
/-- the parity of the upright edges left of a cell -/
def insb (n : Nat) (X Y : Nat → Nat) (x y : Nat) : Nat → Bool
  | 0 => false
  | i + 1 => if ((Y i ≤ y ∧ y < Y (aft n i)) ∨ (Y (aft n i) ≤ y ∧ y < Y i)) ∧ X i ≤ x then !insb n X Y x y i else insb n X Y x y i
theorem gi_ins {n : Nat} {X Y : Nat → Nat} {x y : Nat} (hx : x < 16) (hX : ∀ i, i < n → X i ≤ 16) : ∀ i, i ≤ n → bt (gi n X Y (fun _ => nI 0) i y) x = insb n X Y x y i := by
  intro i
  induction i with
  | zero => intro _; exact b_0 x
  | succ i ih =>
    intro hi
    have h1 := ih (by omega)
    have h2 := hX i (by omega)
    unfold gi ifr insb
    dsimp only
    by_cases hq : min (Y i) (Y (aft n i)) ≤ y ∧ y < max (Y i) (Y (aft n i))
    · rw [if_pos hq, b_and, b_xor, b_65535, decide_eq_true hx, Bool.and_true, h1, b_shl (X i) (by omega) 65535 (by omega), b_65535]
      by_cases hXx : X i ≤ x
      · rw [if_pos ⟨by omega, hXx⟩, decide_eq_true hXx, decide_eq_true (show x - X i < 16 by omega)]
        cases insb n X Y x y i <;> rfl
      · rw [if_neg (fun q => hXx q.2), decide_eq_false hXx]
        cases insb n X Y x y i <;> rfl
    · rw [if_neg hq, if_neg (fun q => hq (by omega))]
      exact h1
set_option maxRecDepth 8000 in
theorem m155o {x y : Nat} (hx : x < 16) (hy : y < 16) (hV : o.1 ≤ 24 ∧ (∀ i, i < o.1 → o.2.1 i = nI (oX o.2.1 i) ∧ oX o.2.1 i ≤ 16) ∧ ∀ i, i < o.1 → o.2.2 i = nI (oX o.2.2 i) ∧ oX o.2.2 i ≤ 16) (h : ORl A I o) : mm_R S (d + 0) 155 0 (mm_en 155 [.ref 73, .int (nI x), .int (nI y)]) [] (mdm M A I) (fun v M' => v = some (.int (zb (insb o.1 (oX o.2.1) (oX o.2.2) x y o.1))) ∧ M' = mdm M A I) := by
  show mm_R S (d + 0) 155 0 [some (.ref 73), some (.int (nI x)), some (.int (nI y)), none, none, none, none] [] (mdm M A I) _
  obtain ⟨r2a, r2b⟩ := h
  obtain ⟨hn, hX, hY⟩ := hV
  have hl : ∀ (j i : Nat) (t5 t6 : Option Value), i + j = o.1 → mm_R S (d + 0) 155 5 [some (.ref 73), some (.int (nI x)), some (.int (nI y)), some (.int (zb (insb o.1 (oX o.2.1) (oX o.2.2) x y i))), some (.int (nI i)), t5, t6] [] (mdm M A I) (fun v M' => v = some (.int (zb (insb o.1 (oX o.2.1) (oX o.2.2) x y o.1))) ∧ M' = mdm M A I) := by
    intro j
    induction j with
    | zero =>
      intro i t5 t6 hi
      have hii : i = o.1 := by omega
      subst hii
      refine R_iload (q := 7) rfl rfl rfl ?_
      refine R_aload_n (q := 8) rfl rfl rfl ?_
      refine R_getf (q := 11) rfl rfl rfl md_73 rfl ?_
      rw [r2a]
      refine R_icmp_ge (q := 14) (t := 112) rfl rfl rfl (fun h11 => ?_) (fun h11 => absurd (nI_le (by omega) (by omega)) h11)
      refine R_iload_n (q := 113) rfl rfl rfl ?_
      refine R_zreturn rfl rfl (zb_01 _) ?_
      exact ⟨rfl, rfl⟩
    | succ j ih =>
      intro i t5 t6 hi
      have hin : i < o.1 := by omega
      have ha1 := aft_lt hin
      have e0 := r2b i hin
      have e1 := r2b (aft o.1 i) ha1
      have x0 := hX i hin
      have y0 := hY i hin
      have y1 := hY (aft o.1 i) ha1
      have h105 : ∀ (v : Int32) (t5 t6 : Option Value), v = zb (insb o.1 (oX o.2.1) (oX o.2.2) x y (i + 1)) → mm_R S (d + 0) 155 105 [some (.ref 73), some (.int (nI x)), some (.int (nI y)), some (.int (zb (insb o.1 (oX o.2.1) (oX o.2.2) x y i))), some (.int (nI i)), t5, t6] [.int v] (mdm M A I) (fun v M' => v = some (.int (zb (insb o.1 (oX o.2.1) (oX o.2.2) x y o.1))) ∧ M' = mdm M A I) := by
        intro v t5 t6 hv
        refine R_istore_n (q := 106) rfl rfl (Nat.le_of_ble_eq_true rfl) rfl ?_
        dsimp only [List.set]
        refine R_iinc (q := 109) rfl rfl rfl (nI_i1 i) rfl ?_
        dsimp only [List.set]
        refine R_goto (t := 5) rfl rfl ?_
        rw [hv]
        exact ih (i + 1) _ _ (by omega)
      have hstp : insb o.1 (oX o.2.1) (oX o.2.2) x y (i + 1) = if ((oX o.2.2 i ≤ y ∧ y < oX o.2.2 (aft o.1 i)) ∨ (oX o.2.2 (aft o.1 i) ≤ y ∧ y < oX o.2.2 i)) ∧ oX o.2.1 i ≤ x then !insb o.1 (oX o.2.1) (oX o.2.2) x y i else insb o.1 (oX o.2.1) (oX o.2.2) x y i := rfl
      rw [hstp] at h105
      clear hstp
      have h76 : ∀ (b : Bool) (t5 : Option Value), b = decide ((oX o.2.2 i ≤ y ∧ y < oX o.2.2 (aft o.1 i)) ∨ (oX o.2.2 (aft o.1 i) ≤ y ∧ y < oX o.2.2 i)) → mm_R S (d + 0) 155 76 [some (.ref 73), some (.int (nI x)), some (.int (nI y)), some (.int (zb (insb o.1 (oX o.2.1) (oX o.2.2) x y i))), some (.int (nI i)), t5, some (.int (zb b))] [] (mdm M A I) (fun v M' => v = some (.int (zb (insb o.1 (oX o.2.1) (oX o.2.2) x y o.1))) ∧ M' = mdm M A I) := by
        intro b t5 hb
        refine R_iload (q := 78) rfl rfl rfl ?_
        refine R_if_eq (q := 81) (t := 104) rfl rfl rfl (fun h78 => ?_) (fun h78 => ?_)
        · refine R_iload_n (q := 105) rfl rfl rfl ?_
          refine h105 _ _ _ ?_
          first
            | (rw [if_neg (fun q => by rw [decide_eq_true q.1] at hb; rw [hb] at h78; exact absurd h78 (by decide))])
            | (rw [if_neg (fun q => by rw [i_lt, i_n _ (by omega), i_n _ (by omega)] at h89; omega)])
            | (rw [if_pos ⟨of_decide_eq_true (hb.symm.trans (zb_ne0.mp h78)), by rw [i_lt, i_n _ (by omega), i_n _ (by omega)] at h89; omega⟩]
               first
                 | (rw [zb_ne0.mp h93]; rfl)
                 | (rw [zb_eq0.mp h93]; rfl))
        · refine R_aload_n (q := 82) rfl rfl rfl ?_
          refine R_getf (q := 85) rfl rfl rfl md_73 rfl ?_
          refine R_iload (q := 87) rfl rfl rfl ?_
          refine R_iaload (q := 88) rfl rfl md_76 (by decide) (by first | assumption | exact in_nI (by omega) (by decide)) ?_
          rw [cl_nI (by omega), e0.1, x0.1]
          refine R_iload_n (q := 89) rfl rfl rfl ?_
          refine R_icmp_gt (q := 92) (t := 104) rfl rfl rfl (fun h89 => ?_) (fun h89 => ?_)
          · refine R_iload_n (q := 105) rfl rfl rfl ?_
            refine h105 _ _ _ ?_
            first
              | (rw [if_neg (fun q => by rw [decide_eq_true q.1] at hb; rw [hb] at h78; exact absurd h78 (by decide))])
              | (rw [if_neg (fun q => by rw [i_lt, i_n _ (by omega), i_n _ (by omega)] at h89; omega)])
              | (rw [if_pos ⟨of_decide_eq_true (hb.symm.trans (zb_ne0.mp h78)), by rw [i_lt, i_n _ (by omega), i_n _ (by omega)] at h89; omega⟩]
                 first
                   | (rw [zb_ne0.mp h93]; rfl)
                   | (rw [zb_eq0.mp h93]; rfl))
          · refine R_iload_n (q := 93) rfl rfl rfl ?_
            refine R_if_ne (q := 96) (t := 100) rfl rfl rfl (fun h93 => ?_) (fun h93 => ?_)
            · refine R_iconst (q := 101) (v := nI 0) rfl rfl (by decide) ?_
              refine R_goto (t := 105) rfl rfl ?_
              refine h105 _ _ _ ?_
              first
                | (rw [if_neg (fun q => by rw [decide_eq_true q.1] at hb; rw [hb] at h78; exact absurd h78 (by decide))])
                | (rw [if_neg (fun q => by rw [i_lt, i_n _ (by omega), i_n _ (by omega)] at h89; omega)])
                | (rw [if_pos ⟨of_decide_eq_true (hb.symm.trans (zb_ne0.mp h78)), by rw [i_lt, i_n _ (by omega), i_n _ (by omega)] at h89; omega⟩]
                   first
                     | (rw [zb_ne0.mp h93]; rfl)
                     | (rw [zb_eq0.mp h93]; rfl))
            · refine R_iconst (q := 97) (v := nI 1) rfl rfl (by decide) ?_
              refine R_goto (t := 105) rfl rfl ?_
              refine h105 _ _ _ ?_
              first
                | (rw [if_neg (fun q => by rw [decide_eq_true q.1] at hb; rw [hb] at h78; exact absurd h78 (by decide))])
                | (rw [if_neg (fun q => by rw [i_lt, i_n _ (by omega), i_n _ (by omega)] at h89; omega)])
                | (rw [if_pos ⟨of_decide_eq_true (hb.symm.trans (zb_ne0.mp h78)), by rw [i_lt, i_n _ (by omega), i_n _ (by omega)] at h89; omega⟩]
                   first
                     | (rw [zb_ne0.mp h93]; rfl)
                     | (rw [zb_eq0.mp h93]; rfl))
      refine R_iload (q := 7) rfl rfl rfl ?_
      refine R_aload_n (q := 8) rfl rfl rfl ?_
      refine R_getf (q := 11) rfl rfl rfl md_73 rfl ?_
      rw [r2a]
      refine R_icmp_ge (q := 14) (t := 112) rfl rfl rfl (fun h11 => absurd h11 (nI_ge (by omega) (by omega))) (fun h11 => ?_)
      refine R_iload (q := 16) rfl rfl rfl ?_
      refine R_iconst (q := 17) (v := nI 1) rfl rfl (by decide) ?_
      refine R_iadd (q := 18) rfl rfl ?_
      rw [nI_add]
      refine R_aload_n (q := 19) rfl rfl rfl ?_
      refine R_getf (q := 22) rfl rfl rfl md_73 rfl ?_
      rw [r2a]
      refine R_irem (q := 23) rfl rfl (nI_ne0 (by omega) (by omega)) ?_
      rw [pk_rem (by omega) (by omega) (by omega), aft_mod hin]
      refine R_istore (q := 25) rfl rfl (Nat.le_of_ble_eq_true rfl) rfl ?_
      dsimp only [List.set]
      refine R_aload_n (q := 26) rfl rfl rfl ?_
      refine R_getf (q := 29) rfl rfl rfl md_73 rfl ?_
      refine R_iload (q := 31) rfl rfl rfl ?_
      refine R_iaload (q := 32) rfl rfl md_77 (by decide) (by first | assumption | exact in_nI (by omega) (by decide)) ?_
      rw [cl_nI (by omega), e0.2, y0.1]
      refine R_iload_n (q := 33) rfl rfl rfl ?_
      refine R_icmp_gt (q := 36) (t := 47) rfl rfl rfl (fun h33 => ?_) (fun h33 => ?_)
      · refine R_aload_n (q := 48) rfl rfl rfl ?_
        refine R_getf (q := 51) rfl rfl rfl md_73 rfl ?_
        refine R_iload (q := 53) rfl rfl rfl ?_
        refine R_iaload (q := 54) rfl rfl md_77 (by decide) (by first | assumption | exact in_nI (by omega) (by decide)) ?_
        rw [cl_nI (by omega), e1.2, y1.1]
        refine R_iload_n (q := 55) rfl rfl rfl ?_
        refine R_icmp_gt (q := 58) (t := 73) rfl rfl rfl (fun h55 => ?_) (fun h55 => ?_)
        · refine R_iconst (q := 74) (v := nI 0) rfl rfl (by decide) ?_
          refine R_istore (q := 76) rfl rfl (Nat.le_of_ble_eq_true rfl) rfl ?_
          dsimp only [List.set]
          first
            | (refine h76 true _ ?_
               symm
               apply decide_eq_true
               (try simp only [i_lt, i_le, i_n _ (show oX o.2.2 i < 2147483648 by omega), i_n _ (show oX o.2.2 (aft o.1 i) < 2147483648 by omega), i_n _ (show y < 2147483648 by omega)] at *)
               omega)
            | (refine h76 false _ ?_
               symm
               apply decide_eq_false
               (try simp only [i_lt, i_le, i_n _ (show oX o.2.2 i < 2147483648 by omega), i_n _ (show oX o.2.2 (aft o.1 i) < 2147483648 by omega), i_n _ (show y < 2147483648 by omega)] at *)
               omega)
        · refine R_iload_n (q := 59) rfl rfl rfl ?_
          refine R_aload_n (q := 60) rfl rfl rfl ?_
          refine R_getf (q := 63) rfl rfl rfl md_73 rfl ?_
          refine R_iload (q := 65) rfl rfl rfl ?_
          refine R_iaload (q := 66) rfl rfl md_77 (by decide) (by first | assumption | exact in_nI (by omega) (by decide)) ?_
          rw [cl_nI (by omega), e0.2, y0.1]
          refine R_icmp_ge (q := 69) (t := 73) rfl rfl rfl (fun h66 => ?_) (fun h66 => ?_)
          · refine R_iconst (q := 74) (v := nI 0) rfl rfl (by decide) ?_
            refine R_istore (q := 76) rfl rfl (Nat.le_of_ble_eq_true rfl) rfl ?_
            dsimp only [List.set]
            first
              | (refine h76 true _ ?_
                 symm
                 apply decide_eq_true
                 (try simp only [i_lt, i_le, i_n _ (show oX o.2.2 i < 2147483648 by omega), i_n _ (show oX o.2.2 (aft o.1 i) < 2147483648 by omega), i_n _ (show y < 2147483648 by omega)] at *)
                 omega)
              | (refine h76 false _ ?_
                 symm
                 apply decide_eq_false
                 (try simp only [i_lt, i_le, i_n _ (show oX o.2.2 i < 2147483648 by omega), i_n _ (show oX o.2.2 (aft o.1 i) < 2147483648 by omega), i_n _ (show y < 2147483648 by omega)] at *)
                 omega)
          · refine R_iconst (q := 70) (v := nI 1) rfl rfl (by decide) ?_
            refine R_goto (t := 74) rfl rfl ?_
            refine R_istore (q := 76) rfl rfl (Nat.le_of_ble_eq_true rfl) rfl ?_
            dsimp only [List.set]
            first
              | (refine h76 true _ ?_
                 symm
                 apply decide_eq_true
                 (try simp only [i_lt, i_le, i_n _ (show oX o.2.2 i < 2147483648 by omega), i_n _ (show oX o.2.2 (aft o.1 i) < 2147483648 by omega), i_n _ (show y < 2147483648 by omega)] at *)
                 omega)
              | (refine h76 false _ ?_
                 symm
                 apply decide_eq_false
                 (try simp only [i_lt, i_le, i_n _ (show oX o.2.2 i < 2147483648 by omega), i_n _ (show oX o.2.2 (aft o.1 i) < 2147483648 by omega), i_n _ (show y < 2147483648 by omega)] at *)
                 omega)
      · refine R_iload_n (q := 37) rfl rfl rfl ?_
        refine R_aload_n (q := 38) rfl rfl rfl ?_
        refine R_getf (q := 41) rfl rfl rfl md_73 rfl ?_
        refine R_iload (q := 43) rfl rfl rfl ?_
        refine R_iaload (q := 44) rfl rfl md_77 (by decide) (by first | assumption | exact in_nI (by omega) (by decide)) ?_
        rw [cl_nI (by omega), e1.2, y1.1]
        refine R_icmp_lt (q := 47) (t := 69) rfl rfl rfl (fun h44 => ?_) (fun h44 => ?_)
        · refine R_iconst (q := 70) (v := nI 1) rfl rfl (by decide) ?_
          refine R_goto (t := 74) rfl rfl ?_
          refine R_istore (q := 76) rfl rfl (Nat.le_of_ble_eq_true rfl) rfl ?_
          dsimp only [List.set]
          first
            | (refine h76 true _ ?_
               symm
               apply decide_eq_true
               (try simp only [i_lt, i_le, i_n _ (show oX o.2.2 i < 2147483648 by omega), i_n _ (show oX o.2.2 (aft o.1 i) < 2147483648 by omega), i_n _ (show y < 2147483648 by omega)] at *)
               omega)
            | (refine h76 false _ ?_
               symm
               apply decide_eq_false
               (try simp only [i_lt, i_le, i_n _ (show oX o.2.2 i < 2147483648 by omega), i_n _ (show oX o.2.2 (aft o.1 i) < 2147483648 by omega), i_n _ (show y < 2147483648 by omega)] at *)
               omega)
        · refine R_aload_n (q := 48) rfl rfl rfl ?_
          refine R_getf (q := 51) rfl rfl rfl md_73 rfl ?_
          refine R_iload (q := 53) rfl rfl rfl ?_
          refine R_iaload (q := 54) rfl rfl md_77 (by decide) (by first | assumption | exact in_nI (by omega) (by decide)) ?_
          rw [cl_nI (by omega), e1.2, y1.1]
          refine R_iload_n (q := 55) rfl rfl rfl ?_
          refine R_icmp_gt (q := 58) (t := 73) rfl rfl rfl (fun h55 => ?_) (fun h55 => ?_)
          · refine R_iconst (q := 74) (v := nI 0) rfl rfl (by decide) ?_
            refine R_istore (q := 76) rfl rfl (Nat.le_of_ble_eq_true rfl) rfl ?_
            dsimp only [List.set]
            first
              | (refine h76 true _ ?_
                 symm
                 apply decide_eq_true
                 (try simp only [i_lt, i_le, i_n _ (show oX o.2.2 i < 2147483648 by omega), i_n _ (show oX o.2.2 (aft o.1 i) < 2147483648 by omega), i_n _ (show y < 2147483648 by omega)] at *)
                 omega)
              | (refine h76 false _ ?_
                 symm
                 apply decide_eq_false
                 (try simp only [i_lt, i_le, i_n _ (show oX o.2.2 i < 2147483648 by omega), i_n _ (show oX o.2.2 (aft o.1 i) < 2147483648 by omega), i_n _ (show y < 2147483648 by omega)] at *)
                 omega)
          · refine R_iload_n (q := 59) rfl rfl rfl ?_
            refine R_aload_n (q := 60) rfl rfl rfl ?_
            refine R_getf (q := 63) rfl rfl rfl md_73 rfl ?_
            refine R_iload (q := 65) rfl rfl rfl ?_
            refine R_iaload (q := 66) rfl rfl md_77 (by decide) (by first | assumption | exact in_nI (by omega) (by decide)) ?_
            rw [cl_nI (by omega), e0.2, y0.1]
            refine R_icmp_ge (q := 69) (t := 73) rfl rfl rfl (fun h66 => ?_) (fun h66 => ?_)
            · refine R_iconst (q := 74) (v := nI 0) rfl rfl (by decide) ?_
              refine R_istore (q := 76) rfl rfl (Nat.le_of_ble_eq_true rfl) rfl ?_
              dsimp only [List.set]
              first
                | (refine h76 true _ ?_
                   symm
                   apply decide_eq_true
                   (try simp only [i_lt, i_le, i_n _ (show oX o.2.2 i < 2147483648 by omega), i_n _ (show oX o.2.2 (aft o.1 i) < 2147483648 by omega), i_n _ (show y < 2147483648 by omega)] at *)
                   omega)
                | (refine h76 false _ ?_
                   symm
                   apply decide_eq_false
                   (try simp only [i_lt, i_le, i_n _ (show oX o.2.2 i < 2147483648 by omega), i_n _ (show oX o.2.2 (aft o.1 i) < 2147483648 by omega), i_n _ (show y < 2147483648 by omega)] at *)
                   omega)
            · refine R_iconst (q := 70) (v := nI 1) rfl rfl (by decide) ?_
              refine R_goto (t := 74) rfl rfl ?_
              refine R_istore (q := 76) rfl rfl (Nat.le_of_ble_eq_true rfl) rfl ?_
              dsimp only [List.set]
              first
                | (refine h76 true _ ?_
                   symm
                   apply decide_eq_true
                   (try simp only [i_lt, i_le, i_n _ (show oX o.2.2 i < 2147483648 by omega), i_n _ (show oX o.2.2 (aft o.1 i) < 2147483648 by omega), i_n _ (show y < 2147483648 by omega)] at *)
                   omega)
                | (refine h76 false _ ?_
                   symm
                   apply decide_eq_false
                   (try simp only [i_lt, i_le, i_n _ (show oX o.2.2 i < 2147483648 by omega), i_n _ (show oX o.2.2 (aft o.1 i) < 2147483648 by omega), i_n _ (show y < 2147483648 by omega)] at *)
                   omega)
  refine R_iconst (q := 1) (v := nI 0) rfl rfl (by decide) ?_
  refine R_istore_n (q := 2) rfl rfl (Nat.le_of_ble_eq_true rfl) rfl ?_
  dsimp only [List.set]
  refine R_iconst (q := 3) (v := nI 0) rfl rfl (by decide) ?_
  refine R_istore (q := 5) rfl rfl (Nat.le_of_ble_eq_true rfl) rfl ?_
  dsimp only [List.set]
  exact hl o.1 0 none none (by omega)
def rjf (sh : Nat → Nat → Int32) (o : OS) (t : Nat) (i : Nat) : Int32 := zb (bt (rgs (sh t) o ((i - 256 * t) / 16)) ((i - 256 * t) % 16))
set_option maxRecDepth 8000 in
theorem m156 {s : Int32} (hV : VS sh o l pi fa tp) (h : MRl A I sh o l pi fa tp) : mm_R S (d + 2) 156 0 (mm_en 156 [.ref 73, .int s]) [] (mdm M A I) (fun v M' => FM (mdm M A I) M' ∧ YN v (shp s ∧ ringb o.1 o.2.1 o.2.2 = true) (MI M' (ups sh (sn s) (rgs (sh (sn s)) o)) (0, o.2) l pi fa tp) (MI M' sh (0, o.2) l pi fa tp)) := by
  show mm_R S (d + 2) 156 0 [some (.ref 73), some (.int s), none, none] [] (mdm M A I) _
  obtain ⟨r1, r2, r3, r4, r5, r6, r7, r8⟩ := id h
  have hX := hV.2.1.2.1
  have hl : ∀ k : Nat, k < 6 → ∀ (j i : Nat), i + j = 256 → mm_R S (d + 2) 156 22 [some (.ref 73), some (.int (nI k)), some (.int (nI 1)), some (.int (nI i))] [] (mdm M (upa A 74 (ifr (rjf sh o k) (A 74) (256 * k) (256 * k + i))) I) (fun v M' => v = some (.int (nI 1)) ∧ M' = mdm M (upa A 74 (ifr (rjf sh o k) (A 74) (256 * k) (256 * k + 256))) (upd I 4 (nI 0))) := by
    intro k hk j
    induction j with
    | zero =>
      intro i hi
      have hii : i = 256 := by omega
      subst hii
      refine R_iload_n (q := 23) rfl rfl rfl ?_
      refine R_sipush (q := 26) (v := nI 256) rfl rfl (by decide) ?_
      refine R_icmp_ge (q := 29) (t := 86) rfl rfl rfl (fun h26 => ?_) (fun h26 => absurd (nI_le (by omega) (by omega)) h26)
      refine R_aload_n (q := 87) rfl rfl rfl ?_
      refine R_iconst (q := 88) (v := nI 0) rfl rfl (by decide) ?_
      refine R_putf (q := 91) rfl rfl rfl md_73 (Nat.le_of_ble_eq_true rfl) rfl (fun hf => absurd hf (by decide)) rfl ?_
      dsimp only [List.set]
      rw [md_f4]
      refine R_iload_n (q := 92) rfl rfl rfl ?_
      refine R_zreturn rfl rfl (by first | exact Or.inl rfl | exact Or.inr rfl | assumption) ?_
      exact ⟨rfl, rfl⟩
    | succ j ih =>
      intro i hi
      have e2 : ifr (rjf sh o k) (A 74) (256 * k) (256 * k + i) (256 * k + i) = zb (bt (sh k (i / 16)) (i % 16)) := by
        rw [← CR_k r1 hk (by omega)]; exact if_neg (by omega)
      have hgi : rjf sh o k (256 * k + i) = zb (bt (sh k (i / 16)) (i % 16) || insb o.1 (oX o.2.1) (oX o.2.2) (i % 16) (i / 16) o.1) := by
        unfold rjf rgs
        rw [show 256 * k + i - 256 * k = i by omega, ifl_lt (by omega), b_or, gi_ins (by omega) (fun i hi => (hX i hi).2) o.1 (Nat.le_refl _)]
      have hst : ∀ (v : Int32), v = rjf sh o k (256 * k + i) → mm_R S (d + 2) 156 79 [some (.ref 73), some (.int (nI k)), some (.int (nI 1)), some (.int (nI i))] [.int v, .int (nI (256 * k + i)), .ref 74] (mdm M (upa A 74 (ifr (rjf sh o k) (A 74) (256 * k) (256 * k + i))) I) (fun v M' => v = some (.int (nI 1)) ∧ M' = mdm M (upa A 74 (ifr (rjf sh o k) (A 74) (256 * k) (256 * k + 256))) (upd I 4 (nI 0))) := by
        intro v hv
        have h01 : v = 0 ∨ v = 1 := by rw [hv]; exact zb_01 _
        refine R_bastore (q := 80) rfl rfl md_74 (by first | assumption | exact in_nI (by omega) (by decide)) h01 ?_
        rw [cl_nI (by omega)]
        rw [upa_e]
        rw [md_p74]
        refine R_iinc (q := 83) rfl rfl rfl (nI_i1 i) rfl ?_
        dsimp only [List.set]
        refine R_goto (t := 22) rfl rfl ?_
        rw [upa_u, hv, ifr_s (n := rjf sh o k) (by omega)]
        exact ih (i + 1) (by omega)
      rw [hgi] at hst
      have hins : mm_R S (d + 1) 155 0 (mm_en 155 [.ref 73, .int (nI (i % 16)), .int (nI (i / 16))]) [] (mdm M (upa A 74 (ifr (rjf sh o k) (A 74) (256 * k) (256 * k + i))) I) (fun v M' => v = some (.int (zb (insb o.1 (oX o.2.1) (oX o.2.2) (i % 16) (i / 16) o.1))) ∧ M' = (mdm M (upa A 74 (ifr (rjf sh o k) (A 74) (256 * k) (256 * k + i))) I)) := m155o (by omega) (by omega) hV.2.1 r2
      refine R_iload_n (q := 23) rfl rfl rfl ?_
      refine R_sipush (q := 26) (v := nI 256) rfl rfl (by decide) ?_
      refine R_icmp_ge (q := 29) (t := 86) rfl rfl rfl (fun h26 => absurd h26 (nI_ge (by omega) (by omega))) (fun h26 => ?_)
      refine R_iload_n (q := 30) rfl rfl rfl ?_
      refine R_if_eq (q := 33) (t := 86) rfl rfl rfl (fun h30 => absurd h30 (by decide)) (fun h30 => ?_)
      refine R_aload_n (q := 34) rfl rfl rfl ?_
      refine R_getf (q := 37) rfl rfl rfl md_73 rfl ?_
      refine R_sipush (q := 40) (v := nI 256) rfl rfl (by decide) ?_
      refine R_iload_n (q := 41) rfl rfl rfl ?_
      refine R_imul (q := 42) rfl rfl ?_
      rw [pk_mul]
      refine R_iload_n (q := 43) rfl rfl rfl ?_
      refine R_iadd (q := 44) rfl rfl ?_
      rw [nI_add]
      refine R_aload_n (q := 45) rfl rfl rfl ?_
      refine R_getf (q := 48) rfl rfl rfl md_73 rfl ?_
      refine R_sipush (q := 51) (v := nI 256) rfl rfl (by decide) ?_
      refine R_iload_n (q := 52) rfl rfl rfl ?_
      refine R_imul (q := 53) rfl rfl ?_
      rw [pk_mul]
      refine R_iload_n (q := 54) rfl rfl rfl ?_
      refine R_iadd (q := 55) rfl rfl ?_
      rw [nI_add]
      refine R_baload (q := 56) rfl rfl md_74 (by decide) (by first | assumption | exact in_nI (by omega) (by decide)) ?_
      rw [cl_nI (by omega)]
      rw [upa_e, e2]
      refine R_if_ne (q := 59) (t := 74) rfl rfl rfl (fun h56 => ?_) (fun h56 => ?_)
      · refine R_iconst (q := 75) (v := nI 1) rfl rfl (by decide) ?_
        refine R_goto (t := 79) rfl rfl ?_
        refine hst _ ?_
        first
          | (rw [zb_ne0.mp h56]; rfl)
          | (rw [zb_eq0.mp h56, zb_ne0.mp h71]; rfl)
          | (rw [zb_eq0.mp h56, zb_eq0.mp h71]; rfl)
      · refine R_aload_n (q := 60) rfl rfl rfl ?_
        refine R_iload_n (q := 61) rfl rfl rfl ?_
        refine R_bipush (q := 63) (v := nI 16) rfl rfl (by decide) ?_
        refine R_irem (q := 64) rfl rfl (by decide) ?_
        rw [pk_rem (by omega) (by omega) (by omega)]
        refine R_iload_n (q := 65) rfl rfl rfl ?_
        refine R_bipush (q := 67) (v := nI 16) rfl rfl (by decide) ?_
        refine R_idiv (q := 68) rfl rfl (by decide) ?_
        rw [pk_div (by omega) (by omega) (by omega)]
        refine R_callv2 (q := 71) rfl rfl rfl rfl md_73 (Nat.le_of_ble_eq_true rfl) rfl ?_
        refine R_mono (hins) (fun v68 M68 hr68 => ?_)
        obtain ⟨rfl, hm68⟩ := hr68
        rw [hm68]
        dsimp only [Option.toList, List.cons_append, List.nil_append]
        refine R_if_eq (q := 74) (t := 78) rfl rfl rfl (fun h71 => ?_) (fun h71 => ?_)
        · refine R_iconst (q := 79) (v := nI 0) rfl rfl (by decide) ?_
          refine hst _ ?_
          first
            | (rw [zb_ne0.mp h56]; rfl)
            | (rw [zb_eq0.mp h56, zb_ne0.mp h71]; rfl)
            | (rw [zb_eq0.mp h56, zb_eq0.mp h71]; rfl)
        · refine R_iconst (q := 75) (v := nI 1) rfl rfl (by decide) ?_
          refine R_goto (t := 79) rfl rfl ?_
          refine hst _ ?_
          first
            | (rw [zb_ne0.mp h56]; rfl)
            | (rw [zb_eq0.mp h56, zb_ne0.mp h71]; rfl)
            | (rw [zb_eq0.mp h56, zb_eq0.mp h71]; rfl)
  have hN : ¬ (shp s ∧ ringb o.1 o.2.1 o.2.2 = true) → mm_R S (d + 2) 156 22 [some (.ref 73), some (.int s), some (.int (nI 0)), some (.int (nI 0))] [] (mdm M A I) (fun v M' => FM (mdm M A I) M' ∧ YN v (shp s ∧ ringb o.1 o.2.1 o.2.2 = true) (MI M' (ups sh (sn s) (rgs (sh (sn s)) o)) (0, o.2) l pi fa tp) (MI M' sh (0, o.2) l pi fa tp)) := by
    intro hP
    refine R_iload_n (q := 23) rfl rfl rfl ?_
    refine R_sipush (q := 26) (v := nI 256) rfl rfl (by decide) ?_
    refine R_icmp_ge (q := 29) (t := 86) rfl rfl rfl (fun h26 => absurd h26 (by decide)) (fun h26 => ?_)
    refine R_iload_n (q := 30) rfl rfl rfl ?_
    refine R_if_eq (q := 33) (t := 86) rfl rfl rfl (fun h30 => ?_) (fun h30 => absurd rfl h30)
    refine R_aload_n (q := 87) rfl rfl rfl ?_
    refine R_iconst (q := 88) (v := nI 0) rfl rfl (by decide) ?_
    refine R_putf (q := 91) rfl rfl rfl md_73 (Nat.le_of_ble_eq_true rfl) rfl (fun hf => absurd hf (by decide)) rfl ?_
    dsimp only [List.set]
    rw [md_f4]
    refine R_iload_n (q := 92) rfl rfl rfl ?_
    refine R_zreturn rfl rfl (by first | exact Or.inl rfl | exact Or.inr rfl | assumption) ?_
    exact ⟨FM_md, Or.inr ⟨hP, rfl, MI_md ⟨r1, ⟨rfl, fun i hi => absurd hi (Nat.not_lt_zero _)⟩, r3, r4, r5, r6, r7, r8⟩⟩⟩
  have hY : (shp s ∧ ringb o.1 o.2.1 o.2.2 = true) → mm_R S (d + 2) 156 22 [some (.ref 73), some (.int s), some (.int (nI 1)), some (.int (nI 0))] [] (mdm M A I) (fun v M' => FM (mdm M A I) M' ∧ YN v (shp s ∧ ringb o.1 o.2.1 o.2.2 = true) (MI M' (ups sh (sn s) (rgs (sh (sn s)) o)) (0, o.2) l pi fa tp) (MI M' sh (0, o.2) l pi fa tp)) := by
    intro hP
    obtain ⟨k, hk, rfl⟩ := i_ix (a := s) 6 (by decide) hP.1.1 hP.1.2
    rw [show sn (nI k) = k from cl_nI (by omega)]
    have h0 := hl k hk 256 0 (by omega)
    rw [show 256 * k + 0 = 256 * k from rfl, ifr_0, upa_s] at h0
    refine R_mono h0 (fun v M' hr => ?_)
    obtain ⟨rfl, rfl⟩ := hr
    refine ⟨FM_md, Or.inl ⟨hP, rfl, MI_md ⟨CR_loop r1 hk (fun y x hy hx => ?_), ⟨rfl, fun i hi => absurd hi (Nat.not_lt_zero _)⟩, r3, r4, r5, r6, r7, r8⟩⟩⟩
    unfold rjf
    rw [show (256 * k + 16 * y + x - 256 * k) / 16 = y by omega, show (256 * k + 16 * y + x - 256 * k) % 16 = x by omega]
  refine R_iload_n (q := 1) rfl rfl rfl ?_
  refine R_calls1 (q := 4) rfl rfl rfl rfl (Nat.le_of_ble_eq_true rfl) rfl ?_
  refine R_mono (m148) (fun v1 M1 hr1 => ?_)
  obtain ⟨rfl, hm1⟩ := hr1
  rw [hm1]
  dsimp only [Option.toList, List.cons_append, List.nil_append]
  refine R_if_eq (q := 7) (t := 18) rfl rfl rfl (fun h4 => ?_) (fun h4 => ?_)
  · refine R_iconst (q := 19) (v := nI 0) rfl rfl (by decide) ?_
    refine R_istore_n (q := 20) rfl rfl (Nat.le_of_ble_eq_true rfl) rfl ?_
    dsimp only [List.set]
    refine R_iconst (q := 21) (v := nI 0) rfl rfl (by decide) ?_
    refine R_istore_n (q := 22) rfl rfl (Nat.le_of_ble_eq_true rfl) rfl ?_
    dsimp only [List.set]
    first
      | exact hN (fun hP => absurd hP.1 (of_decide_eq_false (zb_eq0.mp h4)))
      | exact hN (fun hP => absurd (hP.2.symm.trans (zb_eq0.mp h11)) (by decide))
      | exact hY (And.intro (of_decide_eq_true (zb_ne0.mp h4)) (zb_ne0.mp h11))
  · refine R_aload_n (q := 8) rfl rfl rfl ?_
    refine R_callv0 (q := 11) rfl rfl rfl rfl md_73 (Nat.le_of_ble_eq_true rfl) rfl ?_
    refine R_mono (m154 hV h) (fun v8 M8 hr8 => ?_)
    obtain ⟨rfl, hm8⟩ := hr8
    rw [hm8]
    dsimp only [Option.toList, List.cons_append, List.nil_append]
    refine R_if_eq (q := 14) (t := 18) rfl rfl rfl (fun h11 => ?_) (fun h11 => ?_)
    · refine R_iconst (q := 19) (v := nI 0) rfl rfl (by decide) ?_
      refine R_istore_n (q := 20) rfl rfl (Nat.le_of_ble_eq_true rfl) rfl ?_
      dsimp only [List.set]
      refine R_iconst (q := 21) (v := nI 0) rfl rfl (by decide) ?_
      refine R_istore_n (q := 22) rfl rfl (Nat.le_of_ble_eq_true rfl) rfl ?_
      dsimp only [List.set]
      first
        | exact hN (fun hP => absurd hP.1 (of_decide_eq_false (zb_eq0.mp h4)))
        | exact hN (fun hP => absurd (hP.2.symm.trans (zb_eq0.mp h11)) (by decide))
        | exact hY (And.intro (of_decide_eq_true (zb_ne0.mp h4)) (zb_ne0.mp h11))
    · refine R_iconst (q := 15) (v := nI 1) rfl rfl (by decide) ?_
      refine R_goto (t := 19) rfl rfl ?_
      refine R_istore_n (q := 20) rfl rfl (Nat.le_of_ble_eq_true rfl) rfl ?_
      dsimp only [List.set]
      refine R_iconst (q := 21) (v := nI 0) rfl rfl (by decide) ?_
      refine R_istore_n (q := 22) rfl rfl (Nat.le_of_ble_eq_true rfl) rfl ?_
      dsimp only [List.set]
      first
        | exact hN (fun hP => absurd hP.1 (of_decide_eq_false (zb_eq0.mp h4)))
        | exact hN (fun hP => absurd (hP.2.symm.trans (zb_eq0.mp h11)) (by decide))
        | exact hY (And.intro (of_decide_eq_true (zb_ne0.mp h4)) (zb_ne0.mp h11))
end P46
