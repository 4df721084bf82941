/-! ===== the reference's own calls, XVI: measure ===== -/
theorem sumr_cg {g h : Nat → Nat} : ∀ j y, (∀ k, y ≤ k → k < y + j → g k = h k) → sumr g j y = sumr h j y := by
  intro j
  induction j with
  | zero => intro y _; rfl
  | succ j ih =>
    intro y hh
    show g y + sumr g j (y + 1) = h y + sumr h j (y + 1)
    rw [hh y (by omega) (by omega), ih (y + 1) (fun k h1 h2 => hh k (by omega) (by omega))]
theorem cnr_lst {f : Nat → Int32} {n y : Nat} (h : crn f n y = false) : cnr (fun x => crn f x y) (n + 1) 0 = cnr (fun x => crn f x y) n 0 := by
  rw [cnr_sn, Nat.zero_add, h, if_neg (by decide)]
  rfl
theorem COR_c {f : Nat → Int32} {a : Int32} (hf : ∀ y, y < 16 → hb (f y)) (h : COR f a) : a = nI (cnr (fun z => crn f (z % 17) (z / 17)) 289 0) := by
  obtain ⟨co, rfl⟩ := h
  rw [cntv_c 17 (fun y hy => by rw [ifl_lt hy]; exact cornv_hb hf (by omega))]
  have h0 := cnr_fl (P := crn f) (W := 17) (by decide) 17 0
  rw [Nat.mul_zero, show 17 * 17 = 289 from rfl] at h0
  have key : ∀ n, n = 16 → sumr (fun y => cnr (bt (ifl (cornv f) co (n + 1) y)) n 0) (n + 1) 0 = sumr (fun y => cnr (fun x => crn f x y) (n + 1) 0) (n + 1) 0 := by
    intro n hn
    refine sumr_cg (n + 1) 0 (fun y _ hy => ?_)
    rw [cnr_lst (crn_rim (Or.inr (Or.inl hn))), ifl_lt (by omega)]
    exact cnr_cg n 0 (fun x _ hx => cornv_bt hf (by omega) (by omega))
  have h1 := key 16 rfl
  rw [show 16 + 1 = 17 from rfl] at h1
  rw [h1, ← h0]
theorem FND_r {f co ln st en : Nat → Int32} {s1 s2 : KS} (hf : ∀ y, y < 16 → hb (f y)) (h : FND f co ln st en s1 s2) : s1 = rlf f true 289 0 (0, ln, st, en) ∧ s2 = rlf f false 289 0 s1 := by
  obtain ⟨h1, h2⟩ := h
  constructor
  · rw [← h1]
    refine (rlf_all (lv := true) (fun y x a1 a2 a3 => ?_) (fun y t a1 a2 a3 => ?_) _).symm
    · show bt (ifl (cornv f) co 17 y) x = crn f x y
      rw [ifl_lt (by omega)]
      exact cornv_bt hf a3 (by omega)
    · exact inL_bt hf (by omega)
  · rw [← h2]
    refine (rlf_all (lv := false) (fun x y a1 a2 a3 => ?_) (fun x t a1 a2 a3 => ?_) _).symm
    · show bt (ifl (cornv f) co 17 y) x = crn f x y
      rw [ifl_lt (by omega)]
      exact cornv_bt hf (by omega) a3
    · exact inU_bt ⟨a1, a2⟩ a3
section P63
variable {S : mm_S} {d : Nat} {M : mm_M} {A : AS} {I : Nat → Int32} {sh : Nat → Nat → Int32} {o : OS} {l : LYS} {pi fa tp : IS}
set_option maxRecDepth 8000 in
theorem m177 {s q a : Int32} (hV : VS sh o l pi fa tp) (h : MRl A I sh o l pi fa tp) (hR : shp s ∧ MSR (sh (sn s)) q a ∨ ¬ shp s ∧ a = (-1000)) : mm_R S (d + 5) 177 0 (mm_en 177 [.ref 73, .int s, .int q]) [] (mdm M A I) (fun v M' => FM (mdm M A I) M' ∧ MI M' sh o l pi fa tp ∧ v = some (.int a)) := by
  show mm_R S (d + 5) 177 0 [some (.ref 73), some (.int s), some (.int q), none, none] [] (mdm M A I) _
  obtain ⟨r1, r2, r3, r4, r5, r6, r7, r8⟩ := id h
  refine R_iload_n (q := 1) rfl rfl rfl ?_
  refine R_calls1 (q := 4) rfl rfl rfl rfl (Nat.le_of_ble_eq_true rfl) rfl ?_
  refine R_mono (m148) (fun v1 M1 hr1 => ?_)
  obtain ⟨rfl, hm1⟩ := hr1
  rw [hm1]
  dsimp only [Option.toList, List.cons_append, List.nil_append]
  refine R_if_eq (q := 7) (t := 16) rfl rfl rfl (fun h4 => ?_) (fun h4 => ?_)
  · refine R_sipush (q := 19) (v := (-1000)) rfl rfl (by decide) ?_
    refine R_ireturn rfl rfl ?_
    refine ⟨FM_md, MI_md h, ?_⟩
    rcases hR with ⟨g1, g2⟩ | ⟨g1, g2⟩
    · rcases g2 with ⟨z1, z2⟩ | ⟨z1, z2⟩ | ⟨z1, z2⟩ | ⟨z1, z2⟩ | ⟨z1, z2⟩ | ⟨z1, z2⟩
      · first
          | exact absurd g1 (of_decide_eq_false (zb_eq0.mp h4))
          | exact absurd (by rw [z1]; decide) (of_decide_eq_false (zb_eq0.mp h13))
      · first
          | exact absurd g1 (of_decide_eq_false (zb_eq0.mp h4))
          | exact absurd (by rw [z1]; decide) (of_decide_eq_false (zb_eq0.mp h13))
      · first
          | exact absurd g1 (of_decide_eq_false (zb_eq0.mp h4))
          | exact absurd (by rw [z1]; decide) (of_decide_eq_false (zb_eq0.mp h13))
      · first
          | exact absurd g1 (of_decide_eq_false (zb_eq0.mp h4))
          | exact absurd (by rw [z1]; decide) (of_decide_eq_false (zb_eq0.mp h13))
      · first
          | exact absurd g1 (of_decide_eq_false (zb_eq0.mp h4))
          | exact absurd (by rw [z1]; decide) (of_decide_eq_false (zb_eq0.mp h13))
      · rw [z2]
    · rw [g2]
  · refine R_iload_n (q := 8) rfl rfl rfl ?_
    refine R_iconst (q := 9) (v := nI 0) rfl rfl (by decide) ?_
    refine R_iconst (q := 10) (v := nI 4) rfl rfl (by decide) ?_
    refine R_calls3 (q := 13) rfl rfl rfl rfl (Nat.le_of_ble_eq_true rfl) rfl ?_
    refine R_mono (m147) (fun v10 M10 hr10 => ?_)
    obtain ⟨rfl, hm10⟩ := hr10
    rw [hm10]
    dsimp only [Option.toList, List.cons_append, List.nil_append]
    refine R_if_ne (q := 16) (t := 20) rfl rfl rfl (fun h13 => ?_) (fun h13 => ?_)
    · have hP : shp s := of_decide_eq_true (zb_ne0.mp h4)
      have hq := of_decide_eq_true (zb_ne0.mp h13)
      rw [ik_0, ik_4] at hq
      obtain ⟨k, hk, rfl⟩ := i_ix (a := s) 6 (by decide) hP.1 hP.2
      have hM : MSR (sh k) q a := by
        rcases hR with hR | hR
        · rw [show sn (nI k) = k from cl_nI (by omega)] at hR; exact hR.2
        · exact absurd hP hR.1
      have hf : ∀ y, y < 16 → hb (sh k y) := hV.1 k hk
      have h58 : mm_R S (d + 5) 177 58 [some (.ref 73), some (.int (nI k)), some (.int q), some (.int (nI (cnr (bx (sh k)) 256 0))), some (.int (nI 256))] [] (mdm M A I) (fun v M' => FM (mdm M A I) M' ∧ MI M' sh o l pi fa tp ∧ v = some (.int a)) := by
        rcases hM with ⟨z1, z2⟩ | ⟨z1, z2⟩ | ⟨z1, z2⟩ | ⟨z1, z2⟩ | ⟨z1, z2⟩ | ⟨z1, z2⟩
        · rw [z1]
          refine R_iload_n (q := 59) rfl rfl rfl ?_
          refine R_iconst (q := 60) (v := nI 3) rfl rfl (by decide) ?_
          refine R_icmp_ge (q := 63) (t := 87) rfl rfl rfl (fun h60 => absurd h60 (by decide)) (fun h60 => ?_)
          refine R_iload_n (q := 64) rfl rfl rfl ?_
          refine R_if_ne (q := 67) (t := 71) rfl rfl rfl (fun h64 => absurd rfl h64) (fun h64 => ?_)
          refine R_iload_n (q := 68) rfl rfl rfl ?_
          refine R_goto (t := 86) rfl rfl ?_
          refine R_ireturn rfl rfl ?_
          exact ⟨FM_md, MI_md ⟨r1, r2, r3, r4, r5, r6, r7, r8⟩, by rw [z2, cells_c hf]⟩
        · rw [z1]
          refine R_iload_n (q := 59) rfl rfl rfl ?_
          refine R_iconst (q := 60) (v := nI 3) rfl rfl (by decide) ?_
          refine R_icmp_ge (q := 63) (t := 87) rfl rfl rfl (fun h60 => absurd h60 (by decide)) (fun h60 => ?_)
          refine R_iload_n (q := 64) rfl rfl rfl ?_
          refine R_if_ne (q := 67) (t := 71) rfl rfl rfl (fun h64 => ?_) (fun h64 => absurd h64 (by decide))
          refine R_aload_n (q := 72) rfl rfl rfl ?_
          refine R_iload_n (q := 73) rfl rfl rfl ?_
          refine R_iload_n (q := 74) rfl rfl rfl ?_
          refine R_iconst (q := 75) (v := nI 1) rfl rfl (by decide) ?_
          refine R_icmp_ne (q := 78) (t := 82) rfl rfl rfl (fun h75 => absurd rfl h75) (fun h75 => ?_)
          refine R_iconst (q := 79) (v := nI 1) rfl rfl (by decide) ?_
          refine R_goto (t := 83) rfl rfl ?_
          refine R_callv2 (q := 86) rfl rfl rfl rfl md_73 (Nat.le_of_ble_eq_true rfl) rfl ?_
          refine R_mono (m171 (w := true) r1 hk) (fun v83 M83 hr83 => ?_)
          obtain ⟨n, Q, MT, rfl, hm83, hC⟩ := hr83
          rw [hm83]
          dsimp only [Option.toList, List.cons_append, List.nil_append]
          refine R_ireturn rfl rfl ?_
          obtain ⟨n', e1, e2⟩ := ISL_C hf z2
          have e3 : n = n' := CNT_uq hC (CNT_cg e2 (fun i hi => by
            rw [mnP_cg (g := bx (sh k)) (g' := gof (sh k) true) hi (fun v _ => by unfold gof; cases bx (sh k) v <;> rfl)]
            exact ⟨fun y => ⟨y, Or.inl rfl⟩, And.left⟩))
          exact ⟨FM_md, MI_md ⟨r1, r2, r3, r4, r5, r6, r7, r8⟩, by rw [e1, e3]⟩
        · rw [z1]
          refine R_iload_n (q := 59) rfl rfl rfl ?_
          refine R_iconst (q := 60) (v := nI 3) rfl rfl (by decide) ?_
          refine R_icmp_ge (q := 63) (t := 87) rfl rfl rfl (fun h60 => absurd h60 (by decide)) (fun h60 => ?_)
          refine R_iload_n (q := 64) rfl rfl rfl ?_
          refine R_if_ne (q := 67) (t := 71) rfl rfl rfl (fun h64 => ?_) (fun h64 => absurd h64 (by decide))
          refine R_aload_n (q := 72) rfl rfl rfl ?_
          refine R_iload_n (q := 73) rfl rfl rfl ?_
          refine R_iload_n (q := 74) rfl rfl rfl ?_
          refine R_iconst (q := 75) (v := nI 1) rfl rfl (by decide) ?_
          refine R_icmp_ne (q := 78) (t := 82) rfl rfl rfl (fun h75 => ?_) (fun h75 => absurd h75 (by decide))
          refine R_iconst (q := 83) (v := nI 0) rfl rfl (by decide) ?_
          refine R_callv2 (q := 86) rfl rfl rfl rfl md_73 (Nat.le_of_ble_eq_true rfl) rfl ?_
          refine R_mono (m171 (w := false) r1 hk) (fun v83 M83 hr83 => ?_)
          obtain ⟨n, Q, MT, rfl, hm83, hC⟩ := hr83
          rw [hm83]
          dsimp only [Option.toList, List.cons_append, List.nil_append]
          refine R_ireturn rfl rfl ?_
          obtain ⟨n', e1, e2⟩ := HOL_C z2
          have hgg : (fun c => !(bx (sh k) c)) = gof (sh k) false := by funext c; unfold gof; cases bx (sh k) c <;> rfl
          rw [hgg] at e2
          have e3 : n = n' := CNT_uq hC (CNT_cg e2 (fun i hi => ⟨fun y => ⟨y.1, Or.inr y.2⟩, fun y => ⟨y.1, y.2.elim (fun w => absurd w (by decide)) id⟩⟩))
          exact ⟨FM_md, MI_md ⟨r1, r2, r3, r4, r5, r6, r7, r8⟩, by rw [e1, e3]⟩
        · rw [z1]
          refine R_iload_n (q := 59) rfl rfl rfl ?_
          refine R_iconst (q := 60) (v := nI 3) rfl rfl (by decide) ?_
          refine R_icmp_ge (q := 63) (t := 87) rfl rfl rfl (fun h60 => ?_) (fun h60 => absurd (by decide) h60)
          refine R_aload_n (q := 88) rfl rfl rfl ?_
          refine R_iload_n (q := 89) rfl rfl rfl ?_
          refine R_callv1 (q := 92) rfl rfl rfl rfl md_73 (Nat.le_of_ble_eq_true rfl) rfl ?_
          refine R_mono (m175 (u := (0, A 98, A 98, A 98)) rfl r1 hk) (fun v89 M89 hr89 => ?_)
          obtain ⟨rfl, X, Y, F, T, B, en, n, c1, c2, hm89, hE, hc1, hKR, -⟩ := hr89
          rw [hm89]
          dsimp only [Option.toList, List.cons_append, List.nil_append]
          refine R_iload_n (q := 93) rfl rfl rfl ?_
          refine R_iconst (q := 94) (v := nI 3) rfl rfl (by decide) ?_
          refine R_icmp_ne (q := 97) (t := 104) rfl rfl rfl (fun h94 => absurd rfl h94) (fun h94 => ?_)
          refine R_aload_n (q := 98) rfl rfl rfl ?_
          refine R_getf (q := 101) rfl rfl rfl md_73 rfl ?_
          rw [upd_n (by decide), upd_n (by decide), upd_e]
          refine R_goto (t := 108) rfl rfl ?_
          refine R_ireturn rfl rfl ?_
          exact ⟨FM_md, MI_md ⟨r1, r2, r3, r4, r5, r6, r7, r8⟩, by rw [COR_c hf z2, hE.2.2.2]⟩
        · rw [z1]
          obtain ⟨co, ln, st, en0, s1, s2, w1, w2⟩ := z2
          have hFN := FND_r hf w1
          refine R_iload_n (q := 59) rfl rfl rfl ?_
          refine R_iconst (q := 60) (v := nI 3) rfl rfl (by decide) ?_
          refine R_icmp_ge (q := 63) (t := 87) rfl rfl rfl (fun h60 => ?_) (fun h60 => absurd (by decide) h60)
          refine R_aload_n (q := 88) rfl rfl rfl ?_
          refine R_iload_n (q := 89) rfl rfl rfl ?_
          refine R_callv1 (q := 92) rfl rfl rfl rfl md_73 (Nat.le_of_ble_eq_true rfl) rfl ?_
          refine R_mono (m175 (u := (0, ln, st, en0)) rfl r1 hk) (fun v89 M89 hr89 => ?_)
          obtain ⟨rfl, X, Y, F, T, B, en, n, c1, c2, hm89, hE, hc1, hKR, -⟩ := hr89
          rw [hm89]
          dsimp only [Option.toList, List.cons_append, List.nil_append]
          refine R_iload_n (q := 93) rfl rfl rfl ?_
          refine R_iconst (q := 94) (v := nI 3) rfl rfl (by decide) ?_
          refine R_icmp_ne (q := 97) (t := 104) rfl rfl rfl (fun h94 => ?_) (fun h94 => absurd h94 (by decide))
          refine R_aload_n (q := 105) rfl rfl rfl ?_
          refine R_getf (q := 108) rfl rfl rfl md_73 rfl ?_
          rw [upd_e]
          refine R_ireturn rfl rfl ?_
          exact ⟨FM_md, MI_md ⟨r1, r2, r3, r4, r5, r6, r7, r8⟩, by rw [w2, hFN.2, hFN.1, hKR.1]⟩
        · omega
      have hlp : ∀ (j i : Nat), i + j = 256 → mm_R S (d + 5) 177 25 [some (.ref 73), some (.int (nI k)), some (.int q), some (.int (nI (cnr (bx (sh k)) i 0))), some (.int (nI i))] [] (mdm M A I) (fun v M' => FM (mdm M A I) M' ∧ MI M' sh o l pi fa tp ∧ v = some (.int a)) := by
        intro j
        induction j with
        | zero =>
          intro i hi
          have hii : i = 256 := by omega
          subst hii
          refine R_iload (q := 27) rfl rfl rfl ?_
          refine R_sipush (q := 30) (v := nI 256) rfl rfl (by decide) ?_
          refine R_icmp_ge (q := 33) (t := 58) rfl rfl rfl (fun h30 => ?_) (fun h30 => absurd (nI_le (by omega) (by omega)) h30)
          exact h58
        | succ j ih =>
          intro i hi
          have ecl : A 74 (256 * k + i) = zb (bx (sh k) i) := CR_k r1 hk (by omega)
          have esn : cnr (bx (sh k)) (i + 1) 0 = cnr (bx (sh k)) i 0 + (if bx (sh k) i = true then 1 else 0) := by rw [cnr_sn, Nat.zero_add]
          have ezb : zb (bx (sh k) i) = nI (if bx (sh k) i = true then 1 else 0) := by cases bx (sh k) i <;> rfl
          refine R_iload (q := 27) rfl rfl rfl ?_
          refine R_sipush (q := 30) (v := nI 256) rfl rfl (by decide) ?_
          refine R_icmp_ge (q := 33) (t := 58) rfl rfl rfl (fun h30 => absurd h30 (nI_ge (by omega) (by omega))) (fun h30 => ?_)
          refine R_iload_n (q := 34) rfl rfl rfl ?_
          refine R_aload_n (q := 35) rfl rfl rfl ?_
          refine R_getf (q := 38) rfl rfl rfl md_73 rfl ?_
          refine R_sipush (q := 41) (v := nI 256) rfl rfl (by decide) ?_
          refine R_iload_n (q := 42) rfl rfl rfl ?_
          refine R_imul (q := 43) rfl rfl ?_
          rw [pk_mul]
          refine R_iload (q := 45) rfl rfl rfl ?_
          refine R_iadd (q := 46) rfl rfl ?_
          rw [nI_add]
          refine R_baload (q := 47) rfl rfl md_74 (by decide) (by first | assumption | exact in_nI (by omega) (by decide)) ?_
          rw [cl_nI (by omega)]
          rw [ecl]
          refine R_calls1 (q := 50) rfl rfl rfl rfl (Nat.le_of_ble_eq_true rfl) rfl ?_
          refine R_mono (m172) (fun v47 M47 hr47 => ?_)
          obtain ⟨rfl, hm47⟩ := hr47
          rw [hm47]
          dsimp only [Option.toList, List.cons_append, List.nil_append]
          refine R_iadd (q := 51) rfl rfl ?_
          rw [ezb, nI_add, ← esn]
          refine R_istore_n (q := 52) rfl rfl (Nat.le_of_ble_eq_true rfl) rfl ?_
          dsimp only [List.set]
          refine R_iinc (q := 55) rfl rfl rfl (nI_i1 i) rfl ?_
          dsimp only [List.set]
          refine R_goto (t := 25) rfl rfl ?_
          exact ih (i + 1) (by omega)
      refine R_iconst (q := 21) (v := nI 0) rfl rfl (by decide) ?_
      refine R_istore_n (q := 22) rfl rfl (Nat.le_of_ble_eq_true rfl) rfl ?_
      dsimp only [List.set]
      refine R_iconst (q := 23) (v := nI 0) rfl rfl (by decide) ?_
      refine R_istore (q := 25) rfl rfl (Nat.le_of_ble_eq_true rfl) rfl ?_
      dsimp only [List.set]
      exact hlp 256 0 (by omega)
    · refine R_sipush (q := 19) (v := (-1000)) rfl rfl (by decide) ?_
      refine R_ireturn rfl rfl ?_
      refine ⟨FM_md, MI_md h, ?_⟩
      rcases hR with ⟨g1, g2⟩ | ⟨g1, g2⟩
      · rcases g2 with ⟨z1, z2⟩ | ⟨z1, z2⟩ | ⟨z1, z2⟩ | ⟨z1, z2⟩ | ⟨z1, z2⟩ | ⟨z1, z2⟩
        · first
            | exact absurd g1 (of_decide_eq_false (zb_eq0.mp h4))
            | exact absurd (by rw [z1]; decide) (of_decide_eq_false (zb_eq0.mp h13))
        · first
            | exact absurd g1 (of_decide_eq_false (zb_eq0.mp h4))
            | exact absurd (by rw [z1]; decide) (of_decide_eq_false (zb_eq0.mp h13))
        · first
            | exact absurd g1 (of_decide_eq_false (zb_eq0.mp h4))
            | exact absurd (by rw [z1]; decide) (of_decide_eq_false (zb_eq0.mp h13))
        · first
            | exact absurd g1 (of_decide_eq_false (zb_eq0.mp h4))
            | exact absurd (by rw [z1]; decide) (of_decide_eq_false (zb_eq0.mp h13))
        · first
            | exact absurd g1 (of_decide_eq_false (zb_eq0.mp h4))
            | exact absurd (by rw [z1]; decide) (of_decide_eq_false (zb_eq0.mp h13))
        · rw [z2]
      · rw [g2]
end P63
