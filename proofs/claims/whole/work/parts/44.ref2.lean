/-! ===== the reference's own calls, I ===== -/
section P44
variable {S : mm_S} {d : Nat} {M : mm_M} {A : AS} {I : Nat → Int32} {sh : Nat → Nat → Int32} {o : OS} {l : LYS} {pi fa tp : IS}
set_option maxRecDepth 8000 in
theorem m152 {s x y w h1 : Int32} (hV : VS sh o l pi fa tp) (h : MRl A I sh o l pi fa tp) : mm_R S (d + 2) 152 0 (mm_en 152 [.ref 73, .int s, .int x, .int y, .int w, .int h1]) [] (mdm M A I) (fun v M' => FM (mdm M A I) M' ∧ YN v (shp s ∧ on4 (x, y, w, h1) = true) (MI M' (ups sh (sn s) (add4 (sh (sn s)) (x, y, w, h1))) o l pi fa tp) (MI M' sh o l pi fa tp)) := by
  show mm_R S (d + 2) 152 0 [some (.ref 73), some (.int s), some (.int x), some (.int y), some (.int w), some (.int h1)] [] (mdm M A I) _
  refine R_iload_n (q := 1) rfl rfl rfl ?_
  refine R_calls1 (q := 4) rfl rfl rfl rfl (Nat.le_of_ble_eq_true rfl) rfl ?_
  refine R_mono (m148) (fun v1 M1 hr1 => ?_)
  obtain ⟨rfl, hm1⟩ := hr1
  rw [hm1]
  dsimp only [Option.toList, List.cons_append, List.nil_append]
  refine R_if_eq (q := 7) (t := 19) rfl rfl rfl (fun h4 => ?_) (fun h4 => ?_)
  · refine R_iconst (q := 20) (v := nI 0) rfl rfl (by decide) ?_
    refine R_zreturn rfl rfl (by first | exact Or.inl rfl | exact Or.inr rfl | assumption) ?_
    first
      | exact ⟨FM_md, Or.inr ⟨(fun hP => absurd hP.1 (of_decide_eq_false (zb_eq0.mp h4))), rfl, MI_md h⟩⟩
      | exact ⟨FM_md, Or.inr ⟨(fun hP => absurd (hP.2.symm.trans (zb_eq0.mp h16)) (by decide)), rfl, MI_md h⟩⟩
  · refine R_iload_n (q := 8) rfl rfl rfl ?_
    refine R_iload_n (q := 9) rfl rfl rfl ?_
    refine R_iload (q := 11) rfl rfl rfl ?_
    refine R_iload (q := 13) rfl rfl rfl ?_
    refine R_calls4 (q := 16) rfl rfl rfl rfl (Nat.le_of_ble_eq_true rfl) rfl ?_
    refine R_mono (m151) (fun v13 M13 hr13 => ?_)
    obtain ⟨rfl, hm13⟩ := hr13
    rw [hm13]
    dsimp only [Option.toList, List.cons_append, List.nil_append]
    refine R_if_ne (q := 19) (t := 21) rfl rfl rfl (fun h16 => ?_) (fun h16 => ?_)
    · have hP : shp s ∧ on4 (x, y, w, h1) = true := ⟨of_decide_eq_true (zb_ne0.mp h4), zb_ne0.mp h16⟩
      obtain ⟨k, hk, rfl⟩ := i_ix (a := s) 6 (by decide) hP.1.1 hP.1.2
      rw [show sn (nI k) = k from cl_nI (by omega)]
      have g := of_decide_eq_true hP.2
      dsimp only at g
      obtain ⟨x, hx, rfl⟩ := i_ix (a := x) 16 (by decide) (by omega) (by omega)
      obtain ⟨y, hy, rfl⟩ := i_ix (a := y) 16 (by decide) (by omega) (by omega)
      obtain ⟨w, hw, rfl⟩ := i_ix (a := w) 17 (by decide) (by omega) (by omega)
      obtain ⟨h1, hh1, rfl⟩ := i_ix (a := h1) 17 (by decide) (by omega) (by omega)
      rw [i_n x (by omega), i_n y (by omega), i_n w (by omega), i_n h1 (by omega)] at g
      have hcr := CR_fill h.1 hk hP.2
      dsimp only at hcr
      rw [cl_nI (by omega), cl_nI (by omega), cl_nI (by omega), cl_nI (by omega)] at hcr
      refine R_aload_n (q := 22) rfl rfl rfl ?_
      refine R_iload_n (q := 23) rfl rfl rfl ?_
      refine R_iload_n (q := 24) rfl rfl rfl ?_
      refine R_iload_n (q := 25) rfl rfl rfl ?_
      refine R_iload (q := 27) rfl rfl rfl ?_
      refine R_iload (q := 29) rfl rfl rfl ?_
      refine R_callv5 (q := 32) rfl rfl rfl rfl md_73 (Nat.le_of_ble_eq_true rfl) rfl ?_
      refine R_mono (m150 hk (by omega) (by omega)) (fun v29 M29 hr29 => ?_)
      obtain ⟨rfl, hm29⟩ := hr29
      rw [hm29]
      dsimp only [Option.toList, List.cons_append, List.nil_append]
      refine R_iconst (q := 33) (v := nI 1) rfl rfl (by decide) ?_
      refine R_zreturn rfl rfl (by first | exact Or.inl rfl | exact Or.inr rfl | assumption) ?_
      refine ⟨FM_md, Or.inl ⟨hP, rfl, MI_md ?_⟩⟩
      obtain ⟨-, r2, r3, r4, r5, r6, r7, r8⟩ := h
      exact ⟨hcr, r2, r3, r4, r5, r6, r7, r8⟩
    · refine R_iconst (q := 20) (v := nI 0) rfl rfl (by decide) ?_
      refine R_zreturn rfl rfl (by first | exact Or.inl rfl | exact Or.inr rfl | assumption) ?_
      first
        | exact ⟨FM_md, Or.inr ⟨(fun hP => absurd hP.1 (of_decide_eq_false (zb_eq0.mp h4))), rfl, MI_md h⟩⟩
        | exact ⟨FM_md, Or.inr ⟨(fun hP => absurd (hP.2.symm.trans (zb_eq0.mp h16)) (by decide)), rfl, MI_md h⟩⟩
set_option maxRecDepth 8000 in
theorem m169 {s x y : Int32} (hV : VS sh o l pi fa tp) (h : MRl A I sh o l pi fa tp) : mm_R S (d + 2) 169 0 (mm_en 169 [.ref 73, .int s, .int x, .int y]) [] (mdm M A I) (fun v M' => M' = mdm M A I ∧ v = some (.int (zb (decide (shp s) && (decide (0 ≤ x.toInt ∧ x.toInt < 16) && bt (rowv (sh (sn s)) y) (sn x)))))) := by
  show mm_R S (d + 2) 169 0 [some (.ref 73), some (.int s), some (.int x), some (.int y)] [] (mdm M A I) _
  refine R_iload_n (q := 1) rfl rfl rfl ?_
  refine R_calls1 (q := 4) rfl rfl rfl rfl (Nat.le_of_ble_eq_true rfl) rfl ?_
  refine R_mono (m148) (fun v1 M1 hr1 => ?_)
  obtain ⟨rfl, hm1⟩ := hr1
  rw [hm1]
  dsimp only [Option.toList, List.cons_append, List.nil_append]
  refine R_if_eq (q := 7) (t := 21) rfl rfl rfl (fun h4 => ?_) (fun h4 => ?_)
  · refine R_iconst (q := 22) (v := nI 0) rfl rfl (by decide) ?_
    refine R_zreturn rfl rfl (by first | exact Or.inl rfl | exact Or.inr rfl | assumption) ?_
    refine ⟨rfl, congrArg some (congrArg Value.int ?_)⟩
    first
      | (rw [zb_eq0.mp h4]; rfl)
      | (have q2 := zb_eq0.mp h14; unfold hs at q2; rw [zb_ne0.mp h4, show sn (nI k) = k from cl_nI (by omega), q2]; rfl)
      | (have q2 := zb_ne0.mp h14; unfold hs at q2; rw [zb_ne0.mp h4, show sn (nI k) = k from cl_nI (by omega), q2]; rfl)
  · have hP : shp s := of_decide_eq_true (zb_ne0.mp h4)
    obtain ⟨k, hk, rfl⟩ := i_ix (a := s) 6 (by decide) hP.1 hP.2
    refine R_aload_n (q := 8) rfl rfl rfl ?_
    refine R_iload_n (q := 9) rfl rfl rfl ?_
    refine R_iload_n (q := 10) rfl rfl rfl ?_
    refine R_iload_n (q := 11) rfl rfl rfl ?_
    refine R_callv3 (q := 14) rfl rfl rfl rfl md_73 (Nat.le_of_ble_eq_true rfl) rfl ?_
    refine R_mono (m149 h.1 hk) (fun v11 M11 hr11 => ?_)
    obtain ⟨rfl, hm11⟩ := hr11
    rw [hm11]
    dsimp only [Option.toList, List.cons_append, List.nil_append]
    refine R_if_eq (q := 17) (t := 21) rfl rfl rfl (fun h14 => ?_) (fun h14 => ?_)
    · refine R_iconst (q := 22) (v := nI 0) rfl rfl (by decide) ?_
      refine R_zreturn rfl rfl (by first | exact Or.inl rfl | exact Or.inr rfl | assumption) ?_
      refine ⟨rfl, congrArg some (congrArg Value.int ?_)⟩
      first
        | (rw [zb_eq0.mp h4]; rfl)
        | (have q2 := zb_eq0.mp h14; unfold hs at q2; rw [zb_ne0.mp h4, show sn (nI k) = k from cl_nI (by omega), q2]; rfl)
        | (have q2 := zb_ne0.mp h14; unfold hs at q2; rw [zb_ne0.mp h4, show sn (nI k) = k from cl_nI (by omega), q2]; rfl)
    · refine R_iconst (q := 18) (v := nI 1) rfl rfl (by decide) ?_
      refine R_goto (t := 22) rfl rfl ?_
      refine R_zreturn rfl rfl (by first | exact Or.inl rfl | exact Or.inr rfl | assumption) ?_
      refine ⟨rfl, congrArg some (congrArg Value.int ?_)⟩
      first
        | (rw [zb_eq0.mp h4]; rfl)
        | (have q2 := zb_eq0.mp h14; unfold hs at q2; rw [zb_ne0.mp h4, show sn (nI k) = k from cl_nI (by omega), q2]; rfl)
        | (have q2 := zb_ne0.mp h14; unfold hs at q2; rw [zb_ne0.mp h4, show sn (nI k) = k from cl_nI (by omega), q2]; rfl)
set_option maxRecDepth 8000 in
theorem m153 {x y : Int32} (hV : VS sh o l pi fa tp) (h : MRl A I sh o l pi fa tp) : mm_R S (d + 1) 153 0 (mm_en 153 [.ref 73, .int x, .int y]) [] (mdm M A I) (fun v M' => FM (mdm M A I) M' ∧ YN v (ptok o.1 x y) (MI M' sh (o.1 + 1, upd o.2.1 o.1 x, upd o.2.2 o.1 y) l pi fa tp) (MI M' sh o l pi fa tp)) := by
  show mm_R S (d + 1) 153 0 [some (.ref 73), some (.int x), some (.int y)] [] (mdm M A I) _
  obtain ⟨r1, ⟨r2a, r2b⟩, r3, r4, r5, r6, r7, r8⟩ := id h
  have hn := hV.2.1.1
  refine R_iload_n (q := 1) rfl rfl rfl ?_
  refine R_iconst (q := 2) (v := nI 0) rfl rfl (by decide) ?_
  refine R_bipush (q := 4) (v := nI 16) rfl rfl (by decide) ?_
  refine R_calls3 (q := 7) rfl rfl rfl rfl (Nat.le_of_ble_eq_true rfl) rfl ?_
  refine R_mono (m147) (fun v4 M4 hr4 => ?_)
  obtain ⟨rfl, hm4⟩ := hr4
  rw [hm4]
  dsimp only [Option.toList, List.cons_append, List.nil_append]
  refine R_if_eq (q := 10) (t := 29) rfl rfl rfl (fun h7 => ?_) (fun h7 => ?_)
  · refine R_iconst (q := 30) (v := nI 0) rfl rfl (by decide) ?_
    refine R_zreturn rfl rfl (by first | exact Or.inl rfl | exact Or.inr rfl | assumption) ?_
    first
      | exact ⟨FM_md, Or.inr ⟨(fun hP => of_decide_eq_false (zb_eq0.mp h7) (by have q1 := hP.2.1; rw [ik_0, ik_16]; omega)), rfl, MI_md h⟩⟩
      | exact ⟨FM_md, Or.inr ⟨(fun hP => of_decide_eq_false (zb_eq0.mp h17) (by have q1 := hP.2.2; rw [ik_0, ik_16]; omega)), rfl, MI_md h⟩⟩
      | exact ⟨FM_md, Or.inr ⟨(fun hP => by have q1 := hP.1; have := nI_inj (by omega) (by decide) h26; omega), rfl, MI_md h⟩⟩
  · refine R_iload_n (q := 11) rfl rfl rfl ?_
    refine R_iconst (q := 12) (v := nI 0) rfl rfl (by decide) ?_
    refine R_bipush (q := 14) (v := nI 16) rfl rfl (by decide) ?_
    refine R_calls3 (q := 17) rfl rfl rfl rfl (Nat.le_of_ble_eq_true rfl) rfl ?_
    refine R_mono (m147) (fun v14 M14 hr14 => ?_)
    obtain ⟨rfl, hm14⟩ := hr14
    rw [hm14]
    dsimp only [Option.toList, List.cons_append, List.nil_append]
    refine R_if_eq (q := 20) (t := 29) rfl rfl rfl (fun h17 => ?_) (fun h17 => ?_)
    · refine R_iconst (q := 30) (v := nI 0) rfl rfl (by decide) ?_
      refine R_zreturn rfl rfl (by first | exact Or.inl rfl | exact Or.inr rfl | assumption) ?_
      first
        | exact ⟨FM_md, Or.inr ⟨(fun hP => of_decide_eq_false (zb_eq0.mp h7) (by have q1 := hP.2.1; rw [ik_0, ik_16]; omega)), rfl, MI_md h⟩⟩
        | exact ⟨FM_md, Or.inr ⟨(fun hP => of_decide_eq_false (zb_eq0.mp h17) (by have q1 := hP.2.2; rw [ik_0, ik_16]; omega)), rfl, MI_md h⟩⟩
        | exact ⟨FM_md, Or.inr ⟨(fun hP => by have q1 := hP.1; have := nI_inj (by omega) (by decide) h26; omega), rfl, MI_md h⟩⟩
    · refine R_aload_n (q := 21) rfl rfl rfl ?_
      refine R_getf (q := 24) rfl rfl rfl md_73 rfl ?_
      rw [r2a]
      refine R_bipush (q := 26) (v := nI 24) rfl rfl (by decide) ?_
      refine R_icmp_ne (q := 29) (t := 31) rfl rfl rfl (fun h26 => ?_) (fun h26 => ?_)
      · have hP : ptok o.1 x y := by
          have g7 := of_decide_eq_true (zb_ne0.mp h7)
          have g17 := of_decide_eq_true (zb_ne0.mp h17)
          rw [ik_0, ik_16] at g7 g17
          have : ¬ o.1 = 24 := fun q => h26 (congrArg nI q)
          exact ⟨by omega, g7, g17⟩
        have hP1 := hP.1
        refine R_aload_n (q := 32) rfl rfl rfl ?_
        refine R_getf (q := 35) rfl rfl rfl md_73 rfl ?_
        refine R_aload_n (q := 36) rfl rfl rfl ?_
        refine R_getf (q := 39) rfl rfl rfl md_73 rfl ?_
        rw [r2a]
        refine R_iload_n (q := 40) rfl rfl rfl ?_
        refine R_iastore (q := 41) rfl rfl md_76 (by first | assumption | exact in_nI (by omega) (by decide)) ?_
        rw [cl_nI (by omega)]
        rw [md_p76]
        refine R_aload_n (q := 42) rfl rfl rfl ?_
        refine R_getf (q := 45) rfl rfl rfl md_73 rfl ?_
        refine R_aload_n (q := 46) rfl rfl rfl ?_
        refine R_getf (q := 49) rfl rfl rfl md_73 rfl ?_
        rw [r2a]
        refine R_iload_n (q := 50) rfl rfl rfl ?_
        refine R_iastore (q := 51) rfl rfl md_77 (by first | assumption | exact in_nI (by omega) (by decide)) ?_
        rw [cl_nI (by omega)]
        rw [md_p77]
        refine R_aload_n (q := 52) rfl rfl rfl ?_
        first | refine R_dupa (q := 53) rfl rfl ?_ | refine R_dupi (q := 53) rfl rfl ?_
        refine R_getf (q := 56) rfl rfl rfl md_73 rfl ?_
        rw [r2a]
        refine R_iconst (q := 57) (v := nI 1) rfl rfl (by decide) ?_
        refine R_iadd (q := 58) rfl rfl ?_
        rw [nI_add]
        refine R_putf (q := 61) rfl rfl rfl md_73 (Nat.le_of_ble_eq_true rfl) rfl (fun hf => absurd hf (by decide)) rfl ?_
        dsimp only [List.set]
        rw [md_f4]
        refine R_iconst (q := 62) (v := nI 1) rfl rfl (by decide) ?_
        refine R_zreturn rfl rfl (by first | exact Or.inl rfl | exact Or.inr rfl | assumption) ?_
        refine ⟨FM_md, Or.inl ⟨hP, rfl, MI_md ⟨r1, ⟨rfl, fun i hi => ?_⟩, r3, r4, r5, r6, r7, r8⟩⟩⟩
        have hi : i < o.1 + 1 := hi
        show upd (A 76) o.1 x i = upd o.2.1 o.1 x i ∧ upd (A 77) o.1 y i = upd o.2.2 o.1 y i
        unfold upd
        by_cases hq : i = o.1
        · rw [if_pos hq, if_pos hq, if_pos hq, if_pos hq]; exact ⟨rfl, rfl⟩
        · rw [if_neg hq, if_neg hq, if_neg hq, if_neg hq]; exact r2b i (by omega)
      · refine R_iconst (q := 30) (v := nI 0) rfl rfl (by decide) ?_
        refine R_zreturn rfl rfl (by first | exact Or.inl rfl | exact Or.inr rfl | assumption) ?_
        first
          | exact ⟨FM_md, Or.inr ⟨(fun hP => of_decide_eq_false (zb_eq0.mp h7) (by have q1 := hP.2.1; rw [ik_0, ik_16]; omega)), rfl, MI_md h⟩⟩
          | exact ⟨FM_md, Or.inr ⟨(fun hP => of_decide_eq_false (zb_eq0.mp h17) (by have q1 := hP.2.2; rw [ik_0, ik_16]; omega)), rfl, MI_md h⟩⟩
          | exact ⟨FM_md, Or.inr ⟨(fun hP => by have q1 := hP.1; have := nI_inj (by omega) (by decide) h26; omega), rfl, MI_md h⟩⟩
set_option maxRecDepth 8000 in
theorem m161 {x y t : Int32} (hV : VS sh o l pi fa tp) (h : MRl A I sh o l pi fa tp) : mm_R S (d + 1) 161 0 (mm_en 161 [.ref 73, .int x, .int y, .int t]) [] (mdm M A I) (fun v M' => FM (mdm M A I) M' ∧ YN v ((upt x 16 ∧ upt y 16) ∧ btw t 0 7) (MI M' sh o (l.1, l.2.1, l.2.2.1, l.2.2.2.1, upd (upd (upd l.2.2.2.2 2 x) 3 y) 1 t) pi fa tp) (MI M' sh o l pi fa tp)) := by
  show mm_R S (d + 1) 161 0 [some (.ref 73), some (.int x), some (.int y), some (.int t)] [] (mdm M A I) _
  obtain ⟨r1, r2, r3, r4, r5, r6, r7, r8⟩ := id h
  refine R_iload_n (q := 1) rfl rfl rfl ?_
  refine R_bipush (q := 3) (v := (-16)) rfl rfl (by decide) ?_
  refine R_bipush (q := 5) (v := nI 16) rfl rfl (by decide) ?_
  refine R_calls3 (q := 8) rfl rfl rfl rfl (Nat.le_of_ble_eq_true rfl) rfl ?_
  refine R_mono (m147) (fun v5 M5 hr5 => ?_)
  obtain ⟨rfl, hm5⟩ := hr5
  rw [hm5]
  dsimp only [Option.toList, List.cons_append, List.nil_append]
  refine R_if_eq (q := 11) (t := 32) rfl rfl rfl (fun h8 => ?_) (fun h8 => ?_)
  · refine R_iconst (q := 33) (v := nI 0) rfl rfl (by decide) ?_
    refine R_zreturn rfl rfl (by first | exact Or.inl rfl | exact Or.inr rfl | assumption) ?_
    first
      | exact ⟨FM_md, Or.inr ⟨(fun hP => of_decide_eq_false (zb_eq0.mp h8) (by have q1 := hP.1.1; rw [ikm_16, ik_16]; omega)), rfl, MI_md h⟩⟩
      | exact ⟨FM_md, Or.inr ⟨(fun hP => of_decide_eq_false (zb_eq0.mp h19) (by have q1 := hP.1.2; rw [ikm_16, ik_16]; omega)), rfl, MI_md h⟩⟩
      | exact ⟨FM_md, Or.inr ⟨(fun hP => of_decide_eq_false (zb_eq0.mp h29) (by have q1 := hP.2; rw [ik_0, ik_7]; omega)), rfl, MI_md h⟩⟩
  · refine R_iload_n (q := 12) rfl rfl rfl ?_
    refine R_bipush (q := 14) (v := (-16)) rfl rfl (by decide) ?_
    refine R_bipush (q := 16) (v := nI 16) rfl rfl (by decide) ?_
    refine R_calls3 (q := 19) rfl rfl rfl rfl (Nat.le_of_ble_eq_true rfl) rfl ?_
    refine R_mono (m147) (fun v16 M16 hr16 => ?_)
    obtain ⟨rfl, hm16⟩ := hr16
    rw [hm16]
    dsimp only [Option.toList, List.cons_append, List.nil_append]
    refine R_if_eq (q := 22) (t := 32) rfl rfl rfl (fun h19 => ?_) (fun h19 => ?_)
    · refine R_iconst (q := 33) (v := nI 0) rfl rfl (by decide) ?_
      refine R_zreturn rfl rfl (by first | exact Or.inl rfl | exact Or.inr rfl | assumption) ?_
      first
        | exact ⟨FM_md, Or.inr ⟨(fun hP => of_decide_eq_false (zb_eq0.mp h8) (by have q1 := hP.1.1; rw [ikm_16, ik_16]; omega)), rfl, MI_md h⟩⟩
        | exact ⟨FM_md, Or.inr ⟨(fun hP => of_decide_eq_false (zb_eq0.mp h19) (by have q1 := hP.1.2; rw [ikm_16, ik_16]; omega)), rfl, MI_md h⟩⟩
        | exact ⟨FM_md, Or.inr ⟨(fun hP => of_decide_eq_false (zb_eq0.mp h29) (by have q1 := hP.2; rw [ik_0, ik_7]; omega)), rfl, MI_md h⟩⟩
    · refine R_iload_n (q := 23) rfl rfl rfl ?_
      refine R_iconst (q := 24) (v := nI 0) rfl rfl (by decide) ?_
      refine R_bipush (q := 26) (v := nI 7) rfl rfl (by decide) ?_
      refine R_calls3 (q := 29) rfl rfl rfl rfl (Nat.le_of_ble_eq_true rfl) rfl ?_
      refine R_mono (m147) (fun v26 M26 hr26 => ?_)
      obtain ⟨rfl, hm26⟩ := hr26
      rw [hm26]
      dsimp only [Option.toList, List.cons_append, List.nil_append]
      refine R_if_ne (q := 32) (t := 34) rfl rfl rfl (fun h29 => ?_) (fun h29 => ?_)
      · refine R_aload_n (q := 35) rfl rfl rfl ?_
        refine R_iload_n (q := 36) rfl rfl rfl ?_
        refine R_putf (q := 39) rfl rfl rfl md_73 (Nat.le_of_ble_eq_true rfl) rfl (fun hf => absurd hf (by decide)) rfl ?_
        dsimp only [List.set]
        rw [md_f19]
        refine R_aload_n (q := 40) rfl rfl rfl ?_
        refine R_iload_n (q := 41) rfl rfl rfl ?_
        refine R_putf (q := 44) rfl rfl rfl md_73 (Nat.le_of_ble_eq_true rfl) rfl (fun hf => absurd hf (by decide)) rfl ?_
        dsimp only [List.set]
        rw [md_f20]
        refine R_aload_n (q := 45) rfl rfl rfl ?_
        refine R_iload_n (q := 46) rfl rfl rfl ?_
        refine R_putf (q := 49) rfl rfl rfl md_73 (Nat.le_of_ble_eq_true rfl) rfl (fun hf => absurd hf (by decide)) rfl ?_
        dsimp only [List.set]
        rw [md_f21]
        refine R_iconst (q := 50) (v := nI 1) rfl rfl (by decide) ?_
        refine R_zreturn rfl rfl (by first | exact Or.inl rfl | exact Or.inr rfl | assumption) ?_
        refine ⟨FM_md, Or.inl ⟨?_, rfl, MI_md ⟨r1, r2, r3, ⟨⟨rfl, rfl, rfl⟩, r4.2⟩, r5, r6, r7, r8⟩⟩⟩
        have g8 := of_decide_eq_true (zb_ne0.mp h8)
        have g19 := of_decide_eq_true (zb_ne0.mp h19)
        have g29 := of_decide_eq_true (zb_ne0.mp h29)
        rw [ikm_16, ik_16] at g8 g19
        rw [ik_0, ik_7] at g29
        exact ⟨⟨g8, g19⟩, g29⟩
      · refine R_iconst (q := 33) (v := nI 0) rfl rfl (by decide) ?_
        refine R_zreturn rfl rfl (by first | exact Or.inl rfl | exact Or.inr rfl | assumption) ?_
        first
          | exact ⟨FM_md, Or.inr ⟨(fun hP => of_decide_eq_false (zb_eq0.mp h8) (by have q1 := hP.1.1; rw [ikm_16, ik_16]; omega)), rfl, MI_md h⟩⟩
          | exact ⟨FM_md, Or.inr ⟨(fun hP => of_decide_eq_false (zb_eq0.mp h19) (by have q1 := hP.1.2; rw [ikm_16, ik_16]; omega)), rfl, MI_md h⟩⟩
          | exact ⟨FM_md, Or.inr ⟨(fun hP => of_decide_eq_false (zb_eq0.mp h29) (by have q1 := hP.2; rw [ik_0, ik_7]; omega)), rfl, MI_md h⟩⟩
set_option maxRecDepth 8000 in
theorem m162 {x y : Int32} (hV : VS sh o l pi fa tp) (h : MRl A I sh o l pi fa tp) : mm_R S (d + 1) 162 0 (mm_en 162 [.ref 73, .int x, .int y]) [] (mdm M A I) (fun v M' => FM (mdm M A I) M' ∧ YN v (upt x 16 ∧ upt y 16) (MI M' sh o (l.1, l.2.1, l.2.2.1, l.2.2.2.1, upd (upd l.2.2.2.2 4 x) 5 y) pi fa tp) (MI M' sh o l pi fa tp)) := by
  show mm_R S (d + 1) 162 0 [some (.ref 73), some (.int x), some (.int y)] [] (mdm M A I) _
  obtain ⟨r1, r2, r3, r4, r5, r6, r7, r8⟩ := id h
  refine R_iload_n (q := 1) rfl rfl rfl ?_
  refine R_bipush (q := 3) (v := (-16)) rfl rfl (by decide) ?_
  refine R_bipush (q := 5) (v := nI 16) rfl rfl (by decide) ?_
  refine R_calls3 (q := 8) rfl rfl rfl rfl (Nat.le_of_ble_eq_true rfl) rfl ?_
  refine R_mono (m147) (fun v5 M5 hr5 => ?_)
  obtain ⟨rfl, hm5⟩ := hr5
  rw [hm5]
  dsimp only [Option.toList, List.cons_append, List.nil_append]
  refine R_if_eq (q := 11) (t := 22) rfl rfl rfl (fun h8 => ?_) (fun h8 => ?_)
  · refine R_iconst (q := 23) (v := nI 0) rfl rfl (by decide) ?_
    refine R_zreturn rfl rfl (by first | exact Or.inl rfl | exact Or.inr rfl | assumption) ?_
    first
      | exact ⟨FM_md, Or.inr ⟨(fun hP => of_decide_eq_false (zb_eq0.mp h8) (by have q1 := hP.1; rw [ikm_16, ik_16]; omega)), rfl, MI_md h⟩⟩
      | exact ⟨FM_md, Or.inr ⟨(fun hP => of_decide_eq_false (zb_eq0.mp h19) (by have q1 := hP.2; rw [ikm_16, ik_16]; omega)), rfl, MI_md h⟩⟩
  · refine R_iload_n (q := 12) rfl rfl rfl ?_
    refine R_bipush (q := 14) (v := (-16)) rfl rfl (by decide) ?_
    refine R_bipush (q := 16) (v := nI 16) rfl rfl (by decide) ?_
    refine R_calls3 (q := 19) rfl rfl rfl rfl (Nat.le_of_ble_eq_true rfl) rfl ?_
    refine R_mono (m147) (fun v16 M16 hr16 => ?_)
    obtain ⟨rfl, hm16⟩ := hr16
    rw [hm16]
    dsimp only [Option.toList, List.cons_append, List.nil_append]
    refine R_if_ne (q := 22) (t := 24) rfl rfl rfl (fun h19 => ?_) (fun h19 => ?_)
    · refine R_aload_n (q := 25) rfl rfl rfl ?_
      refine R_iload_n (q := 26) rfl rfl rfl ?_
      refine R_putf (q := 29) rfl rfl rfl md_73 (Nat.le_of_ble_eq_true rfl) rfl (fun hf => absurd hf (by decide)) rfl ?_
      dsimp only [List.set]
      rw [md_f22]
      refine R_aload_n (q := 30) rfl rfl rfl ?_
      refine R_iload_n (q := 31) rfl rfl rfl ?_
      refine R_putf (q := 34) rfl rfl rfl md_73 (Nat.le_of_ble_eq_true rfl) rfl (fun hf => absurd hf (by decide)) rfl ?_
      dsimp only [List.set]
      rw [md_f23]
      refine R_iconst (q := 35) (v := nI 1) rfl rfl (by decide) ?_
      refine R_zreturn rfl rfl (by first | exact Or.inl rfl | exact Or.inr rfl | assumption) ?_
      refine ⟨FM_md, Or.inl ⟨?_, rfl, MI_md ⟨r1, r2, r3, ⟨r4.1, rfl, rfl⟩, r5, r6, r7, r8⟩⟩⟩
      have g8 := of_decide_eq_true (zb_ne0.mp h8)
      have g19 := of_decide_eq_true (zb_ne0.mp h19)
      rw [ikm_16, ik_16] at g8 g19
      exact ⟨g8, g19⟩
    · refine R_iconst (q := 23) (v := nI 0) rfl rfl (by decide) ?_
      refine R_zreturn rfl rfl (by first | exact Or.inl rfl | exact Or.inr rfl | assumption) ?_
      first
        | exact ⟨FM_md, Or.inr ⟨(fun hP => of_decide_eq_false (zb_eq0.mp h8) (by have q1 := hP.1; rw [ikm_16, ik_16]; omega)), rfl, MI_md h⟩⟩
        | exact ⟨FM_md, Or.inr ⟨(fun hP => of_decide_eq_false (zb_eq0.mp h19) (by have q1 := hP.2; rw [ikm_16, ik_16]; omega)), rfl, MI_md h⟩⟩
set_option maxRecDepth 8000 in
theorem m194 {b : Int32} (hV : VS sh o l pi fa tp) (h : MRl A I sh o l pi fa tp) : mm_R S (d + 1) 194 0 (mm_en 194 [.ref 73, .int b]) [] (mdm M A I) (fun v M' => FM (mdm M A I) M' ∧ YN v (btw b 0 255 ∧ tp.1 < 400) (MI M' sh o l pi fa (tp.1 + 1, upd tp.2 tp.1 b)) (MI M' sh o l pi fa tp)) := by
  show mm_R S (d + 1) 194 0 [some (.ref 73), some (.int b)] [] (mdm M A I) _
  obtain ⟨r1, r2, r3, r4, r5, r6, ⟨r7a, r7b⟩, r8⟩ := id h
  have hn := hV.2.2.2.2.2.1
  refine R_iload_n (q := 1) rfl rfl rfl ?_
  refine R_iconst (q := 2) (v := nI 0) rfl rfl (by decide) ?_
  refine R_sipush (q := 5) (v := nI 255) rfl rfl (by decide) ?_
  refine R_calls3 (q := 8) rfl rfl rfl rfl (Nat.le_of_ble_eq_true rfl) rfl ?_
  refine R_mono (m147) (fun v5 M5 hr5 => ?_)
  obtain ⟨rfl, hm5⟩ := hr5
  rw [hm5]
  dsimp only [Option.toList, List.cons_append, List.nil_append]
  refine R_if_eq (q := 11) (t := 21) rfl rfl rfl (fun h8 => ?_) (fun h8 => ?_)
  · refine R_iconst (q := 22) (v := nI 0) rfl rfl (by decide) ?_
    refine R_zreturn rfl rfl (by first | exact Or.inl rfl | exact Or.inr rfl | assumption) ?_
    first
      | exact ⟨FM_md, Or.inr ⟨(fun hP => of_decide_eq_false (zb_eq0.mp h8) (by have q1 := hP.1; rw [ik_0, ik_255]; omega)), rfl, MI_md h⟩⟩
      | exact ⟨FM_md, Or.inr ⟨(fun hP => by have q1 := hP.2; have := nI_inj (by omega) (by decide) h18; omega), rfl, MI_md h⟩⟩
  · refine R_aload_n (q := 12) rfl rfl rfl ?_
    refine R_getf (q := 15) rfl rfl rfl md_73 rfl ?_
    rw [r7a]
    refine R_sipush (q := 18) (v := nI 400) rfl rfl (by decide) ?_
    refine R_icmp_ne (q := 21) (t := 23) rfl rfl rfl (fun h18 => ?_) (fun h18 => ?_)
    · have hP : btw b 0 255 ∧ tp.1 < 400 := by
        have g8 := of_decide_eq_true (zb_ne0.mp h8)
        rw [ik_0, ik_255] at g8
        have : ¬ tp.1 = 400 := fun q => h18 (congrArg nI q)
        exact ⟨g8, by omega⟩
      have hP1 := hP.2
      refine R_aload_n (q := 24) rfl rfl rfl ?_
      refine R_getf (q := 27) rfl rfl rfl md_73 rfl ?_
      refine R_aload_n (q := 28) rfl rfl rfl ?_
      refine R_getf (q := 31) rfl rfl rfl md_73 rfl ?_
      rw [r7a]
      refine R_iload_n (q := 32) rfl rfl rfl ?_
      refine R_iastore (q := 33) rfl rfl md_109 (by first | assumption | exact in_nI (by omega) (by decide)) ?_
      rw [cl_nI (by omega)]
      rw [md_p109]
      refine R_aload_n (q := 34) rfl rfl rfl ?_
      first | refine R_dupa (q := 35) rfl rfl ?_ | refine R_dupi (q := 35) rfl rfl ?_
      refine R_getf (q := 38) rfl rfl rfl md_73 rfl ?_
      rw [r7a]
      refine R_iconst (q := 39) (v := nI 1) rfl rfl (by decide) ?_
      refine R_iadd (q := 40) rfl rfl ?_
      rw [nI_add]
      refine R_putf (q := 43) rfl rfl rfl md_73 (Nat.le_of_ble_eq_true rfl) rfl (fun hf => absurd hf (by decide)) rfl ?_
      dsimp only [List.set]
      rw [md_f48]
      refine R_iconst (q := 44) (v := nI 1) rfl rfl (by decide) ?_
      refine R_zreturn rfl rfl (by first | exact Or.inl rfl | exact Or.inr rfl | assumption) ?_
      refine ⟨FM_md, Or.inl ⟨hP, rfl, MI_md ⟨r1, r2, r3, r4, r5, r6, ⟨rfl, fun i hi => ?_⟩, r8⟩⟩⟩
      have hi : i < tp.1 + 1 := hi
      show upd (A 109) tp.1 b i = upd tp.2 tp.1 b i
      unfold upd
      by_cases hq : i = tp.1
      · rw [if_pos hq, if_pos hq]
      · rw [if_neg hq, if_neg hq]; exact r7b i (by omega)
    · refine R_iconst (q := 22) (v := nI 0) rfl rfl (by decide) ?_
      refine R_zreturn rfl rfl (by first | exact Or.inl rfl | exact Or.inr rfl | assumption) ?_
      first
        | exact ⟨FM_md, Or.inr ⟨(fun hP => of_decide_eq_false (zb_eq0.mp h8) (by have q1 := hP.1; rw [ik_0, ik_255]; omega)), rfl, MI_md h⟩⟩
        | exact ⟨FM_md, Or.inr ⟨(fun hP => by have q1 := hP.2; have := nI_inj (by omega) (by decide) h18; omega), rfl, MI_md h⟩⟩
set_option maxRecDepth 8000 in
theorem m195 {i : Int32} (hV : VS sh o l pi fa tp) (h : MRl A I sh o l pi fa tp) : mm_R S (d + 1) 195 0 (mm_en 195 [.ref 73, .int i]) [] (mdm M A I) (fun v M' => M' = mdm M A I ∧ v = some (.int (byA tp i))) := by
  show mm_R S (d + 1) 195 0 [some (.ref 73), some (.int i)] [] (mdm M A I) _
  obtain ⟨r1, r2, r3, r4, r5, r6, ⟨r7a, r7b⟩, r8⟩ := id h
  have hn := hV.2.2.2.2.2.1
  have s1 : (nI tp.1 - nI 1).toInt = tp.1 - 1 := by rw [i_sub (by rw [i_n _ (by omega), ik_1]; omega), i_n _ (by omega), ik_1]
  unfold byA
  refine R_iload_n (q := 1) rfl rfl rfl ?_
  refine R_iconst (q := 2) (v := (-1)) rfl rfl (by decide) ?_
  refine R_icmp_ne (q := 5) (t := 12) rfl rfl rfl (fun h2 => ?_) (fun h2 => ?_)
  · refine R_iload_n (q := 13) rfl rfl rfl ?_
    refine R_iconst (q := 14) (v := nI 0) rfl rfl (by decide) ?_
    refine R_aload_n (q := 15) rfl rfl rfl ?_
    refine R_getf (q := 18) rfl rfl rfl md_73 rfl ?_
    rw [r7a]
    refine R_iconst (q := 19) (v := nI 1) rfl rfl (by decide) ?_
    refine R_isub (q := 20) rfl rfl ?_
    refine R_calls3 (q := 23) rfl rfl rfl rfl (Nat.le_of_ble_eq_true rfl) rfl ?_
    refine R_mono (m147) (fun v20 M20 hr20 => ?_)
    obtain ⟨rfl, hm20⟩ := hr20
    rw [hm20]
    dsimp only [Option.toList, List.cons_append, List.nil_append]
    refine R_if_eq (q := 26) (t := 35) rfl rfl rfl (fun h23 => ?_) (fun h23 => ?_)
    · refine R_sipush (q := 38) (v := (-1000)) rfl rfl (by decide) ?_
      refine R_ireturn rfl rfl ?_
      first
        | (rw [if_pos h2]; exact ⟨rfl, rfl⟩)
        | (rw [if_neg h2, if_pos (by rw [i_n j (by omega)]; omega), show sn (nI j) = j from cl_nI (by omega)]; exact ⟨rfl, rfl⟩)
        | (rw [if_neg h2, if_neg (fun q => of_decide_eq_false (zb_eq0.mp h23) (by rw [ik_0, s1]; omega))]; exact ⟨rfl, rfl⟩)
    · have g := of_decide_eq_true (zb_ne0.mp h23)
      rw [ik_0, s1] at g
      obtain ⟨j, hj, rfl⟩ := i_ix (a := i) tp.1 (by omega) (by omega) (by omega)
      refine R_aload_n (q := 27) rfl rfl rfl ?_
      refine R_getf (q := 30) rfl rfl rfl md_73 rfl ?_
      refine R_iload_n (q := 31) rfl rfl rfl ?_
      refine R_iaload (q := 32) rfl rfl md_109 (by decide) (by first | assumption | exact in_nI (by omega) (by decide)) ?_
      rw [cl_nI (by omega), r7b j hj]
      refine R_goto (t := 38) rfl rfl ?_
      refine R_ireturn rfl rfl ?_
      first
        | (rw [if_pos h2]; exact ⟨rfl, rfl⟩)
        | (rw [if_neg h2, if_pos (by rw [i_n j (by omega)]; omega), show sn (nI j) = j from cl_nI (by omega)]; exact ⟨rfl, rfl⟩)
        | (rw [if_neg h2, if_neg (fun q => of_decide_eq_false (zb_eq0.mp h23) (by rw [ik_0, s1]; omega))]; exact ⟨rfl, rfl⟩)
  · refine R_aload_n (q := 6) rfl rfl rfl ?_
    refine R_getf (q := 9) rfl rfl rfl md_73 rfl ?_
    rw [r7a]
    refine R_goto (t := 38) rfl rfl ?_
    refine R_ireturn rfl rfl ?_
    first
      | (rw [if_pos h2]; exact ⟨rfl, rfl⟩)
      | (rw [if_neg h2, if_pos (by rw [i_n j (by omega)]; omega), show sn (nI j) = j from cl_nI (by omega)]; exact ⟨rfl, rfl⟩)
      | (rw [if_neg h2, if_neg (fun q => of_decide_eq_false (zb_eq0.mp h23) (by rw [ik_0, s1]; omega))]; exact ⟨rfl, rfl⟩)
set_option maxRecDepth 8000 in
theorem m189 {a i q : Int32} (hV : VS sh o l pi fa tp) (h : MRl A I sh o l pi fa tp) : mm_R S (d + 1) 189 0 (mm_en 189 [.ref 73, .int a, .int i, .int q]) [] (mdm M A I) (fun v M' => M' = mdm M A I ∧ v = some (.int (itA pi fa i q a))) := by
  show mm_R S (d + 1) 189 0 [some (.ref 73), some (.int a), some (.int i), some (.int q), none] [] (mdm M A I) _
  obtain ⟨r1, r2, r3, r4, ⟨r5a, r5b⟩, ⟨r6a, r6b⟩, r7, r8⟩ := id h
  have hn := hV.2.2.2.1
  have hn2 := hV.2.2.2.2.1
  have s1 : ∀ n : Nat, n ≤ 256 → (nI n - nI 1).toInt = n - 1 := fun n hn => by rw [i_sub (by rw [i_n _ (by omega), ik_1]; omega), i_n _ (by omega), ik_1]
  have hend : ∀ n : Nat, n ≤ 256 → (a = 0 ∧ n = pi.1 ∨ ¬ a = 0 ∧ a = 1 ∧ n = fa.1 ∨ ¬ a = 0 ∧ ¬ a = 1 ∧ n = 0) → mm_R S (d + 1) 189 26 [some (.ref 73), some (.int a), some (.int i), some (.int q), some (.int (nI n))] [] (mdm M A I) (fun v M' => M' = mdm M A I ∧ v = some (.int (itA pi fa i q a))) := by
    intro n hn0 hc
    refine R_iload_n (q := 27) rfl rfl rfl ?_
    refine R_iconst (q := 28) (v := nI 0) rfl rfl (by decide) ?_
    refine R_iload (q := 30) rfl rfl rfl ?_
    refine R_iconst (q := 31) (v := nI 1) rfl rfl (by decide) ?_
    refine R_isub (q := 32) rfl rfl ?_
    refine R_calls3 (q := 35) rfl rfl rfl rfl (Nat.le_of_ble_eq_true rfl) rfl ?_
    refine R_mono (m147) (fun v32 M32 hr32 => ?_)
    obtain ⟨rfl, hm32⟩ := hr32
    rw [hm32]
    dsimp only [Option.toList, List.cons_append, List.nil_append]
    refine R_if_eq (q := 38) (t := 47) rfl rfl rfl (fun h35 => ?_) (fun h35 => ?_)
    · refine R_sipush (q := 50) (v := (-1000)) rfl rfl (by decide) ?_
      refine R_ireturn rfl rfl ?_
      refine ⟨rfl, congrArg some (congrArg Value.int ?_)⟩
      unfold itA itv
      rcases hc with ⟨c1, c2⟩ | ⟨c1, c2, c3⟩ | ⟨c1, c2, c3⟩
      · rw [if_pos c1, if_neg]
        intro z
        first
          | exact of_decide_eq_false (zb_eq0.mp h35) (by rw [ik_0, s1 n hn0]; omega)
          | exact of_decide_eq_false (zb_eq0.mp h44) (by rw [ik_0, ik_3]; omega)
      · rw [if_neg c1, if_pos c2, if_neg]
        intro z
        first
          | exact of_decide_eq_false (zb_eq0.mp h35) (by rw [ik_0, s1 n hn0]; omega)
          | exact of_decide_eq_false (zb_eq0.mp h44) (by rw [ik_0, ik_3]; omega)
      · rw [if_neg c1, if_neg c2]
    · refine R_iload_n (q := 39) rfl rfl rfl ?_
      refine R_iconst (q := 40) (v := nI 0) rfl rfl (by decide) ?_
      refine R_iconst (q := 41) (v := nI 3) rfl rfl (by decide) ?_
      refine R_calls3 (q := 44) rfl rfl rfl rfl (Nat.le_of_ble_eq_true rfl) rfl ?_
      refine R_mono (m147) (fun v41 M41 hr41 => ?_)
      obtain ⟨rfl, hm41⟩ := hr41
      rw [hm41]
      dsimp only [Option.toList, List.cons_append, List.nil_append]
      refine R_if_ne (q := 47) (t := 51) rfl rfl rfl (fun h44 => ?_) (fun h44 => ?_)
      · have g1 := of_decide_eq_true (zb_ne0.mp h35)
        have g2 := of_decide_eq_true (zb_ne0.mp h44)
        rw [ik_0, s1 n hn0] at g1
        rw [ik_0, ik_3] at g2
        obtain ⟨i, hi, rfl⟩ := i_ix (a := i) n (by omega) (by omega) (by omega)
        obtain ⟨q, hq, rfl⟩ := i_ix (a := q) 4 (by decide) (by omega) (by omega)
        refine R_iload_n (q := 52) rfl rfl rfl ?_
        refine R_if_ne (q := 55) (t := 68) rfl rfl rfl (fun h52 => ?_) (fun h52 => ?_)
        · refine R_aload_n (q := 69) rfl rfl rfl ?_
          refine R_getf (q := 72) rfl rfl rfl md_73 rfl ?_
          refine R_iconst (q := 73) (v := nI 4) rfl rfl (by decide) ?_
          refine R_iload_n (q := 74) rfl rfl rfl ?_
          refine R_imul (q := 75) rfl rfl ?_
          rw [pk_mul]
          refine R_iload_n (q := 76) rfl rfl rfl ?_
          refine R_iadd (q := 77) rfl rfl ?_
          rw [nI_add]
          refine R_iaload (q := 78) rfl rfl md_108 (by decide) (by first | assumption | exact in_nI (by omega) (by decide)) ?_
          rw [cl_nI (by omega)]
          refine R_ireturn rfl rfl ?_
          refine ⟨rfl, congrArg some (congrArg Value.int ?_)⟩
          unfold itA
          rcases hc with ⟨c1, c2⟩ | ⟨c1, c2, c3⟩ | ⟨c1, c2, c3⟩
          · rw [if_pos c1]
            first
              | exact r5b i q (by omega) hq
              | exact absurd c1 h52
          · rw [if_neg c1, if_pos c2]
            first
              | exact r6b i q (by omega) hq
              | exact absurd h52 c1
          · omega
        · refine R_aload_n (q := 56) rfl rfl rfl ?_
          refine R_getf (q := 59) rfl rfl rfl md_73 rfl ?_
          refine R_iconst (q := 60) (v := nI 4) rfl rfl (by decide) ?_
          refine R_iload_n (q := 61) rfl rfl rfl ?_
          refine R_imul (q := 62) rfl rfl ?_
          rw [pk_mul]
          refine R_iload_n (q := 63) rfl rfl rfl ?_
          refine R_iadd (q := 64) rfl rfl ?_
          rw [nI_add]
          refine R_iaload (q := 65) rfl rfl md_107 (by decide) (by first | assumption | exact in_nI (by omega) (by decide)) ?_
          rw [cl_nI (by omega)]
          refine R_goto (t := 78) rfl rfl ?_
          refine R_ireturn rfl rfl ?_
          refine ⟨rfl, congrArg some (congrArg Value.int ?_)⟩
          unfold itA
          rcases hc with ⟨c1, c2⟩ | ⟨c1, c2, c3⟩ | ⟨c1, c2, c3⟩
          · rw [if_pos c1]
            first
              | exact r5b i q (by omega) hq
              | exact absurd c1 h52
          · rw [if_neg c1, if_pos c2]
            first
              | exact r6b i q (by omega) hq
              | exact absurd h52 c1
          · omega
      · refine R_sipush (q := 50) (v := (-1000)) rfl rfl (by decide) ?_
        refine R_ireturn rfl rfl ?_
        refine ⟨rfl, congrArg some (congrArg Value.int ?_)⟩
        unfold itA itv
        rcases hc with ⟨c1, c2⟩ | ⟨c1, c2, c3⟩ | ⟨c1, c2, c3⟩
        · rw [if_pos c1, if_neg]
          intro z
          first
            | exact of_decide_eq_false (zb_eq0.mp h35) (by rw [ik_0, s1 n hn0]; omega)
            | exact of_decide_eq_false (zb_eq0.mp h44) (by rw [ik_0, ik_3]; omega)
        · rw [if_neg c1, if_pos c2, if_neg]
          intro z
          first
            | exact of_decide_eq_false (zb_eq0.mp h35) (by rw [ik_0, s1 n hn0]; omega)
            | exact of_decide_eq_false (zb_eq0.mp h44) (by rw [ik_0, ik_3]; omega)
        · rw [if_neg c1, if_neg c2]
  refine R_iload_n (q := 1) rfl rfl rfl ?_
  refine R_if_ne (q := 4) (t := 11) rfl rfl rfl (fun h1 => ?_) (fun h1 => ?_)
  · refine R_iload_n (q := 12) rfl rfl rfl ?_
    refine R_iconst (q := 13) (v := nI 1) rfl rfl (by decide) ?_
    refine R_icmp_ne (q := 16) (t := 23) rfl rfl rfl (fun h13 => ?_) (fun h13 => ?_)
    · refine R_iconst (q := 24) (v := nI 0) rfl rfl (by decide) ?_
      refine R_istore (q := 26) rfl rfl (Nat.le_of_ble_eq_true rfl) rfl ?_
      dsimp only [List.set]
      first
        | exact hend pi.1 hn (Or.inl ⟨h1, rfl⟩)
        | exact hend fa.1 hn2 (Or.inr (Or.inl ⟨h1, h13, rfl⟩))
        | exact hend 0 (by decide) (Or.inr (Or.inr ⟨h1, h13, rfl⟩))
    · refine R_aload_n (q := 17) rfl rfl rfl ?_
      refine R_getf (q := 20) rfl rfl rfl md_73 rfl ?_
      rw [r6a]
      refine R_goto (t := 24) rfl rfl ?_
      refine R_istore (q := 26) rfl rfl (Nat.le_of_ble_eq_true rfl) rfl ?_
      dsimp only [List.set]
      first
        | exact hend pi.1 hn (Or.inl ⟨h1, rfl⟩)
        | exact hend fa.1 hn2 (Or.inr (Or.inl ⟨h1, h13, rfl⟩))
        | exact hend 0 (by decide) (Or.inr (Or.inr ⟨h1, h13, rfl⟩))
  · refine R_aload_n (q := 5) rfl rfl rfl ?_
    refine R_getf (q := 8) rfl rfl rfl md_73 rfl ?_
    rw [r5a]
    refine R_goto (t := 24) rfl rfl ?_
    refine R_istore (q := 26) rfl rfl (Nat.le_of_ble_eq_true rfl) rfl ?_
    dsimp only [List.set]
    first
      | exact hend pi.1 hn (Or.inl ⟨h1, rfl⟩)
      | exact hend fa.1 hn2 (Or.inr (Or.inl ⟨h1, h13, rfl⟩))
      | exact hend 0 (by decide) (Or.inr (Or.inr ⟨h1, h13, rfl⟩))
set_option maxRecDepth 8000 in
theorem m164 {c : Int32} (hV : VS sh o l pi fa tp) (h : MRl A I sh o l pi fa tp) : mm_R S (d + 2) 164 0 (mm_en 164 [.ref 73, .int c]) [] (mdm M A I) (fun v M' => FM (mdm M A I) M' ∧ YN v (shp c) (MI M' sh o (upc l.1 (sn c) 0, upc l.2.1 (sn c) 0, upc l.2.2.1 (sn c) (l.2.2.1 (sn c)), upc l.2.2.2.1 (sn c) (l.2.2.2.1 (sn c)), l.2.2.2.2) pi fa tp) (MI M' sh o l pi fa tp)) := by
  show mm_R S (d + 2) 164 0 [some (.ref 73), some (.int c)] [] (mdm M A I) _
  obtain ⟨r1, r2, r3, r4, r5, r6, r7, r8⟩ := id h
  refine R_iload_n (q := 1) rfl rfl rfl ?_
  refine R_calls1 (q := 4) rfl rfl rfl rfl (Nat.le_of_ble_eq_true rfl) rfl ?_
  refine R_mono (m159) (fun v1 M1 hr1 => ?_)
  obtain ⟨rfl, hm1⟩ := hr1
  rw [hm1]
  dsimp only [Option.toList, List.cons_append, List.nil_append]
  refine R_if_ne (q := 7) (t := 9) rfl rfl rfl (fun h4 => ?_) (fun h4 => ?_)
  · have hP : shp c := of_decide_eq_true (zb_ne0.mp h4)
    obtain ⟨k, hk, rfl⟩ := i_ix (a := c) 6 (by decide) hP.1 hP.2
    rw [show sn (nI k) = k from cl_nI (by omega)]
    refine R_aload_n (q := 10) rfl rfl rfl ?_
    refine R_getf (q := 13) rfl rfl rfl md_73 rfl ?_
    refine R_iload_n (q := 14) rfl rfl rfl ?_
    refine R_iconst (q := 15) (v := nI 0) rfl rfl (by decide) ?_
    refine R_iastore (q := 16) rfl rfl md_78 (by first | assumption | exact in_nI (by omega) (by decide)) ?_
    rw [cl_nI (by omega)]
    rw [md_p78]
    refine R_aload_n (q := 17) rfl rfl rfl ?_
    refine R_getf (q := 20) rfl rfl rfl md_73 rfl ?_
    refine R_iload_n (q := 21) rfl rfl rfl ?_
    refine R_iconst (q := 22) (v := nI 0) rfl rfl (by decide) ?_
    refine R_iastore (q := 23) rfl rfl md_83 (by first | assumption | exact in_nI (by omega) (by decide)) ?_
    rw [cl_nI (by omega)]
    rw [md_p83]
    refine R_iconst (q := 24) (v := nI 1) rfl rfl (by decide) ?_
    refine R_zreturn rfl rfl (by first | exact Or.inl rfl | exact Or.inr rfl | assumption) ?_
    refine ⟨FM_md, Or.inl ⟨hP, rfl, MI_md ⟨r1, r2, ?_, r4, r5, r6, r7, r8⟩⟩⟩
    intro c hc
    by_cases hq : c = k
    · subst hq
      refine ⟨⟨?_, ?_⟩, fun j hj => ?_, fun j hj => ?_⟩
      · show upd (A 78) c (nI 0) c = nI (upc l.1 c 0 c); rw [upc_e]; exact if_pos rfl
      · show upd (A 83) c (nI 0) c = nI (upc l.2.1 c 0 c); rw [upc_e]; exact if_pos rfl
      · have hj : j < upc l.1 c 0 c := hj
        rw [upc_e] at hj; omega
      · have hj : j < upc l.2.1 c 0 c := hj
        rw [upc_e] at hj; omega
    · have g := r3 c hc
      refine ⟨⟨?_, ?_⟩, ?_, ?_⟩
      · show upd (A 78) k (nI 0) c = nI (upc l.1 k 0 c); rw [upc_n hq]; exact (if_neg hq).trans g.1.1
      · show upd (A 83) k (nI 0) c = nI (upc l.2.1 k 0 c); rw [upc_n hq]; exact (if_neg hq).trans g.1.2
      · dsimp only
        rw [upc_n hq, upc_n hq]; exact g.2.1
      · dsimp only
        rw [upc_n hq, upc_n hq]; exact g.2.2
  · refine R_iconst (q := 8) (v := nI 0) rfl rfl (by decide) ?_
    refine R_zreturn rfl rfl (by first | exact Or.inl rfl | exact Or.inr rfl | assumption) ?_
    first
      | exact ⟨FM_md, Or.inr ⟨(fun hP => absurd hP (of_decide_eq_false (zb_eq0.mp h4))), rfl, MI_md h⟩⟩
end P44
