/-! ===== the reference's own calls, II: box, place, join ===== -/
section P45
variable {S : mm_S} {d : Nat} {M : mm_M} {A : AS} {I : Nat → Int32} {sh : Nat → Nat → Int32} {o : OS} {l : LYS} {pi fa tp : IS}
theorem upd_e {f : Nat → Int32} {k : Nat} {x : Int32} : upd f k x k = x := if_pos rfl
theorem upd_n {f : Nat → Int32} {k j : Nat} {x : Int32} (h : j ≠ k) : upd f k x j = f j := if_neg h
set_option maxRecDepth 8000 in
theorem m160 {c x y w h1 : Int32} (hV : VS sh o l pi fa tp) (h : MRl A I sh o l pi fa tp) : mm_R S (d + 2) 160 0 (mm_en 160 [.ref 73, .int c, .int x, .int y, .int w, .int h1]) [] (mdm M A I) (fun v M' => FM (mdm M A I) M' ∧ YN v ((shp c ∧ upt x 16 ∧ upt y 16 ∧ btw w 1 16 ∧ btw h1 1 16) ∧ l.1 (sn c) < 6) (MI M' sh o (upc l.1 (sn c) (l.1 (sn c) + 1), upc l.2.1 (sn c) (l.2.1 (sn c)), upc l.2.2.1 (sn c) (up4 (l.2.2.1 (sn c)) (l.1 (sn c) * 4) x y w h1), upc l.2.2.2.1 (sn c) (l.2.2.2.1 (sn c)), l.2.2.2.2) pi fa tp) (MI M' sh o l pi fa tp)) := by
  show mm_R S (d + 2) 160 0 [some (.ref 73), some (.int c), some (.int x), some (.int y), some (.int w), some (.int h1), none] [] (mdm M A I) _
  obtain ⟨r1, r2, r3, r4, r5, r6, r7, r8⟩ := id h
  have hB := hV.2.2.1.1
  refine R_iload_n (q := 1) rfl rfl rfl ?_
  refine R_calls1 (q := 4) rfl rfl rfl rfl (Nat.le_of_ble_eq_true rfl) rfl ?_
  refine R_mono (m159) (fun v1 M1 hr1 => ?_)
  obtain ⟨rfl, hm1⟩ := hr1
  rw [hm1]
  dsimp only [Option.toList, List.cons_append, List.nil_append]
  refine R_if_eq (q := 7) (t := 62) rfl rfl rfl (fun h4 => ?_) (fun h4 => ?_)
  · refine R_iconst (q := 63) (v := nI 0) rfl rfl (by decide) ?_
    refine R_zreturn rfl rfl (by first | exact Or.inl rfl | exact Or.inr rfl | assumption) ?_
    first
      | exact ⟨FM_md, Or.inr ⟨(fun hP => absurd hP.1.1 (of_decide_eq_false (zb_eq0.mp h4))), rfl, MI_md h⟩⟩
      | exact ⟨FM_md, Or.inr ⟨(fun hP => by have q1 := hP.2; have := nI_inj (by omega) (by decide) h15; omega), rfl, MI_md h⟩⟩
      | exact ⟨FM_md, Or.inr ⟨(fun hP => of_decide_eq_false (zb_eq0.mp h26) (by have q1 := hP.1.2.1; rw [ikm_16, ik_16]; omega)), rfl, MI_md h⟩⟩
      | exact ⟨FM_md, Or.inr ⟨(fun hP => of_decide_eq_false (zb_eq0.mp h37) (by have q1 := hP.1.2.2.1; rw [ikm_16, ik_16]; omega)), rfl, MI_md h⟩⟩
      | exact ⟨FM_md, Or.inr ⟨(fun hP => of_decide_eq_false (zb_eq0.mp h48) (by have q1 := hP.1.2.2.2.1; rw [ik_1, ik_16]; omega)), rfl, MI_md h⟩⟩
      | exact ⟨FM_md, Or.inr ⟨(fun hP => of_decide_eq_false (zb_eq0.mp h59) (by have q1 := hP.1.2.2.2.2; rw [ik_1, ik_16]; omega)), rfl, MI_md h⟩⟩
  · have hP0 : shp c := of_decide_eq_true (zb_ne0.mp h4)
    obtain ⟨k, hk, rfl⟩ := i_ix (a := c) 6 (by decide) hP0.1 hP0.2
    rw [show sn (nI k) = k from cl_nI (by omega)]
    have hb6 := (hB k hk).1
    refine R_aload_n (q := 8) rfl rfl rfl ?_
    refine R_getf (q := 11) rfl rfl rfl md_73 rfl ?_
    refine R_iload_n (q := 12) rfl rfl rfl ?_
    refine R_iaload (q := 13) rfl rfl md_78 (by decide) (by first | assumption | exact in_nI (by omega) (by decide)) ?_
    rw [cl_nI (by omega)]
    rw [(r3 k hk).1.1]
    refine R_bipush (q := 15) (v := nI 6) rfl rfl (by decide) ?_
    refine R_icmp_eq (q := 18) (t := 62) rfl rfl rfl (fun h15 => ?_) (fun h15 => ?_)
    · refine R_iconst (q := 63) (v := nI 0) rfl rfl (by decide) ?_
      refine R_zreturn rfl rfl (by first | exact Or.inl rfl | exact Or.inr rfl | assumption) ?_
      first
        | exact ⟨FM_md, Or.inr ⟨(fun hP => absurd hP.1.1 (of_decide_eq_false (zb_eq0.mp h4))), rfl, MI_md h⟩⟩
        | exact ⟨FM_md, Or.inr ⟨(fun hP => by have q1 := hP.2; have := nI_inj (by omega) (by decide) h15; omega), rfl, MI_md h⟩⟩
        | exact ⟨FM_md, Or.inr ⟨(fun hP => of_decide_eq_false (zb_eq0.mp h26) (by have q1 := hP.1.2.1; rw [ikm_16, ik_16]; omega)), rfl, MI_md h⟩⟩
        | exact ⟨FM_md, Or.inr ⟨(fun hP => of_decide_eq_false (zb_eq0.mp h37) (by have q1 := hP.1.2.2.1; rw [ikm_16, ik_16]; omega)), rfl, MI_md h⟩⟩
        | exact ⟨FM_md, Or.inr ⟨(fun hP => of_decide_eq_false (zb_eq0.mp h48) (by have q1 := hP.1.2.2.2.1; rw [ik_1, ik_16]; omega)), rfl, MI_md h⟩⟩
        | exact ⟨FM_md, Or.inr ⟨(fun hP => of_decide_eq_false (zb_eq0.mp h59) (by have q1 := hP.1.2.2.2.2; rw [ik_1, ik_16]; omega)), rfl, MI_md h⟩⟩
    · refine R_iload_n (q := 19) rfl rfl rfl ?_
      refine R_bipush (q := 21) (v := (-16)) rfl rfl (by decide) ?_
      refine R_bipush (q := 23) (v := nI 16) rfl rfl (by decide) ?_
      refine R_calls3 (q := 26) rfl rfl rfl rfl (Nat.le_of_ble_eq_true rfl) rfl ?_
      refine R_mono (m147) (fun v23 M23 hr23 => ?_)
      obtain ⟨rfl, hm23⟩ := hr23
      rw [hm23]
      dsimp only [Option.toList, List.cons_append, List.nil_append]
      refine R_if_eq (q := 29) (t := 62) rfl rfl rfl (fun h26 => ?_) (fun h26 => ?_)
      · refine R_iconst (q := 63) (v := nI 0) rfl rfl (by decide) ?_
        refine R_zreturn rfl rfl (by first | exact Or.inl rfl | exact Or.inr rfl | assumption) ?_
        first
          | exact ⟨FM_md, Or.inr ⟨(fun hP => absurd hP.1.1 (of_decide_eq_false (zb_eq0.mp h4))), rfl, MI_md h⟩⟩
          | exact ⟨FM_md, Or.inr ⟨(fun hP => by have q1 := hP.2; have := nI_inj (by omega) (by decide) h15; omega), rfl, MI_md h⟩⟩
          | exact ⟨FM_md, Or.inr ⟨(fun hP => of_decide_eq_false (zb_eq0.mp h26) (by have q1 := hP.1.2.1; rw [ikm_16, ik_16]; omega)), rfl, MI_md h⟩⟩
          | exact ⟨FM_md, Or.inr ⟨(fun hP => of_decide_eq_false (zb_eq0.mp h37) (by have q1 := hP.1.2.2.1; rw [ikm_16, ik_16]; omega)), rfl, MI_md h⟩⟩
          | exact ⟨FM_md, Or.inr ⟨(fun hP => of_decide_eq_false (zb_eq0.mp h48) (by have q1 := hP.1.2.2.2.1; rw [ik_1, ik_16]; omega)), rfl, MI_md h⟩⟩
          | exact ⟨FM_md, Or.inr ⟨(fun hP => of_decide_eq_false (zb_eq0.mp h59) (by have q1 := hP.1.2.2.2.2; rw [ik_1, ik_16]; omega)), rfl, MI_md h⟩⟩
      · refine R_iload_n (q := 30) rfl rfl rfl ?_
        refine R_bipush (q := 32) (v := (-16)) rfl rfl (by decide) ?_
        refine R_bipush (q := 34) (v := nI 16) rfl rfl (by decide) ?_
        refine R_calls3 (q := 37) rfl rfl rfl rfl (Nat.le_of_ble_eq_true rfl) rfl ?_
        refine R_mono (m147) (fun v34 M34 hr34 => ?_)
        obtain ⟨rfl, hm34⟩ := hr34
        rw [hm34]
        dsimp only [Option.toList, List.cons_append, List.nil_append]
        refine R_if_eq (q := 40) (t := 62) rfl rfl rfl (fun h37 => ?_) (fun h37 => ?_)
        · refine R_iconst (q := 63) (v := nI 0) rfl rfl (by decide) ?_
          refine R_zreturn rfl rfl (by first | exact Or.inl rfl | exact Or.inr rfl | assumption) ?_
          first
            | exact ⟨FM_md, Or.inr ⟨(fun hP => absurd hP.1.1 (of_decide_eq_false (zb_eq0.mp h4))), rfl, MI_md h⟩⟩
            | exact ⟨FM_md, Or.inr ⟨(fun hP => by have q1 := hP.2; have := nI_inj (by omega) (by decide) h15; omega), rfl, MI_md h⟩⟩
            | exact ⟨FM_md, Or.inr ⟨(fun hP => of_decide_eq_false (zb_eq0.mp h26) (by have q1 := hP.1.2.1; rw [ikm_16, ik_16]; omega)), rfl, MI_md h⟩⟩
            | exact ⟨FM_md, Or.inr ⟨(fun hP => of_decide_eq_false (zb_eq0.mp h37) (by have q1 := hP.1.2.2.1; rw [ikm_16, ik_16]; omega)), rfl, MI_md h⟩⟩
            | exact ⟨FM_md, Or.inr ⟨(fun hP => of_decide_eq_false (zb_eq0.mp h48) (by have q1 := hP.1.2.2.2.1; rw [ik_1, ik_16]; omega)), rfl, MI_md h⟩⟩
            | exact ⟨FM_md, Or.inr ⟨(fun hP => of_decide_eq_false (zb_eq0.mp h59) (by have q1 := hP.1.2.2.2.2; rw [ik_1, ik_16]; omega)), rfl, MI_md h⟩⟩
        · refine R_iload (q := 42) rfl rfl rfl ?_
          refine R_iconst (q := 43) (v := nI 1) rfl rfl (by decide) ?_
          refine R_bipush (q := 45) (v := nI 16) rfl rfl (by decide) ?_
          refine R_calls3 (q := 48) rfl rfl rfl rfl (Nat.le_of_ble_eq_true rfl) rfl ?_
          refine R_mono (m147) (fun v45 M45 hr45 => ?_)
          obtain ⟨rfl, hm45⟩ := hr45
          rw [hm45]
          dsimp only [Option.toList, List.cons_append, List.nil_append]
          refine R_if_eq (q := 51) (t := 62) rfl rfl rfl (fun h48 => ?_) (fun h48 => ?_)
          · refine R_iconst (q := 63) (v := nI 0) rfl rfl (by decide) ?_
            refine R_zreturn rfl rfl (by first | exact Or.inl rfl | exact Or.inr rfl | assumption) ?_
            first
              | exact ⟨FM_md, Or.inr ⟨(fun hP => absurd hP.1.1 (of_decide_eq_false (zb_eq0.mp h4))), rfl, MI_md h⟩⟩
              | exact ⟨FM_md, Or.inr ⟨(fun hP => by have q1 := hP.2; have := nI_inj (by omega) (by decide) h15; omega), rfl, MI_md h⟩⟩
              | exact ⟨FM_md, Or.inr ⟨(fun hP => of_decide_eq_false (zb_eq0.mp h26) (by have q1 := hP.1.2.1; rw [ikm_16, ik_16]; omega)), rfl, MI_md h⟩⟩
              | exact ⟨FM_md, Or.inr ⟨(fun hP => of_decide_eq_false (zb_eq0.mp h37) (by have q1 := hP.1.2.2.1; rw [ikm_16, ik_16]; omega)), rfl, MI_md h⟩⟩
              | exact ⟨FM_md, Or.inr ⟨(fun hP => of_decide_eq_false (zb_eq0.mp h48) (by have q1 := hP.1.2.2.2.1; rw [ik_1, ik_16]; omega)), rfl, MI_md h⟩⟩
              | exact ⟨FM_md, Or.inr ⟨(fun hP => of_decide_eq_false (zb_eq0.mp h59) (by have q1 := hP.1.2.2.2.2; rw [ik_1, ik_16]; omega)), rfl, MI_md h⟩⟩
          · refine R_iload (q := 53) rfl rfl rfl ?_
            refine R_iconst (q := 54) (v := nI 1) rfl rfl (by decide) ?_
            refine R_bipush (q := 56) (v := nI 16) rfl rfl (by decide) ?_
            refine R_calls3 (q := 59) rfl rfl rfl rfl (Nat.le_of_ble_eq_true rfl) rfl ?_
            refine R_mono (m147) (fun v56 M56 hr56 => ?_)
            obtain ⟨rfl, hm56⟩ := hr56
            rw [hm56]
            dsimp only [Option.toList, List.cons_append, List.nil_append]
            refine R_if_ne (q := 62) (t := 64) rfl rfl rfl (fun h59 => ?_) (fun h59 => ?_)
            · have hP : (shp (nI k) ∧ upt x 16 ∧ upt y 16 ∧ btw w 1 16 ∧ btw h1 1 16) ∧ l.1 k < 6 := by
                have g1 := of_decide_eq_true (zb_ne0.mp h26)
                have g2 := of_decide_eq_true (zb_ne0.mp h37)
                have g3 := of_decide_eq_true (zb_ne0.mp h48)
                have g4 := of_decide_eq_true (zb_ne0.mp h59)
                rw [ikm_16, ik_16] at g1 g2
                rw [ik_1, ik_16] at g3 g4
                have : ¬ l.1 k = 6 := fun q => h15 (congrArg nI q)
                exact ⟨⟨hP0, g1, g2, g3, g4⟩, by omega⟩
              have hb5 := hP.2
              refine R_bipush (q := 66) (v := nI 6) rfl rfl (by decide) ?_
              refine R_iload_n (q := 67) rfl rfl rfl ?_
              refine R_imul (q := 68) rfl rfl ?_
              rw [pk_mul]
              refine R_aload_n (q := 69) rfl rfl rfl ?_
              refine R_getf (q := 72) rfl rfl rfl md_73 rfl ?_
              refine R_iload_n (q := 73) rfl rfl rfl ?_
              refine R_iaload (q := 74) rfl rfl md_78 (by decide) (by first | assumption | exact in_nI (by omega) (by decide)) ?_
              rw [cl_nI (by omega)]
              rw [(r3 k hk).1.1]
              refine R_iadd (q := 75) rfl rfl ?_
              rw [nI_add]
              refine R_istore (q := 77) rfl rfl (Nat.le_of_ble_eq_true rfl) rfl ?_
              dsimp only [List.set]
              refine R_aload_n (q := 78) rfl rfl rfl ?_
              refine R_getf (q := 81) rfl rfl rfl md_73 rfl ?_
              refine R_iload (q := 83) rfl rfl rfl ?_
              refine R_iload_n (q := 84) rfl rfl rfl ?_
              refine R_iastore (q := 85) rfl rfl md_79 (by first | assumption | exact in_nI (by omega) (by decide)) ?_
              rw [cl_nI (by omega)]
              rw [md_p79]
              refine R_aload_n (q := 86) rfl rfl rfl ?_
              refine R_getf (q := 89) rfl rfl rfl md_73 rfl ?_
              refine R_iload (q := 91) rfl rfl rfl ?_
              refine R_iload_n (q := 92) rfl rfl rfl ?_
              refine R_iastore (q := 93) rfl rfl md_80 (by first | assumption | exact in_nI (by omega) (by decide)) ?_
              rw [cl_nI (by omega)]
              rw [md_p80]
              refine R_aload_n (q := 94) rfl rfl rfl ?_
              refine R_getf (q := 97) rfl rfl rfl md_73 rfl ?_
              refine R_iload (q := 99) rfl rfl rfl ?_
              refine R_iload (q := 101) rfl rfl rfl ?_
              refine R_iastore (q := 102) rfl rfl md_81 (by first | assumption | exact in_nI (by omega) (by decide)) ?_
              rw [cl_nI (by omega)]
              rw [md_p81]
              refine R_aload_n (q := 103) rfl rfl rfl ?_
              refine R_getf (q := 106) rfl rfl rfl md_73 rfl ?_
              refine R_iload (q := 108) rfl rfl rfl ?_
              refine R_iload (q := 110) rfl rfl rfl ?_
              refine R_iastore (q := 111) rfl rfl md_82 (by first | assumption | exact in_nI (by omega) (by decide)) ?_
              rw [cl_nI (by omega)]
              rw [md_p82]
              refine R_aload_n (q := 112) rfl rfl rfl ?_
              refine R_getf (q := 115) rfl rfl rfl md_73 rfl ?_
              refine R_iload_n (q := 116) rfl rfl rfl ?_
              refine R_dup2 (q := 117) rfl rfl ?_
              refine R_iaload (q := 118) rfl rfl md_78 (by decide) (by first | assumption | exact in_nI (by omega) (by decide)) ?_
              rw [cl_nI (by omega)]
              rw [upa_n (by decide), upa_n (by decide), upa_n (by decide), upa_n (by decide), (r3 k hk).1.1]
              refine R_iconst (q := 119) (v := nI 1) rfl rfl (by decide) ?_
              refine R_iadd (q := 120) rfl rfl ?_
              rw [nI_add]
              refine R_iastore (q := 121) rfl rfl md_78 (by first | assumption | exact in_nI (by omega) (by decide)) ?_
              rw [cl_nI (by omega)]
              rw [md_p78]
              refine R_iconst (q := 122) (v := nI 1) rfl rfl (by decide) ?_
              refine R_zreturn rfl rfl (by first | exact Or.inl rfl | exact Or.inr rfl | assumption) ?_
              refine ⟨FM_md, Or.inl ⟨hP, rfl, MI_md ⟨r1, r2, ?_, r4, r5, r6, r7, r8⟩⟩⟩
              intro c hc
              have hbc := hB c hc
              refine ⟨⟨?_, ?_⟩, fun j hj => ?_, ?_⟩
              · show upd (A 78) k (nI (l.1 k + 1)) c = nI (upc l.1 k (l.1 k + 1) c)
                by_cases hq : c = k
                · subst hq; rw [upd_e, upc_e]
                · rw [upd_n hq, upc_n hq]; exact (r3 c hc).1.1
              · show A 83 c = nI (upc l.2.1 k (l.2.1 k) c)
                by_cases hq : c = k
                · subst hq; rw [upc_e]; exact (r3 c hc).1.2
                · rw [upc_n hq]; exact (r3 c hc).1.2
              · have hj : j < upc l.1 k (l.1 k + 1) c := hj
                show upd (A 79) (6 * k + l.1 k) x (6 * c + j) = upc l.2.2.1 k (up4 (l.2.2.1 k) (l.1 k * 4) x y w h1) c (j * 4 + 0) ∧ upd (A 80) (6 * k + l.1 k) y (6 * c + j) = upc l.2.2.1 k (up4 (l.2.2.1 k) (l.1 k * 4) x y w h1) c (j * 4 + 1) ∧ upd (A 81) (6 * k + l.1 k) w (6 * c + j) = upc l.2.2.1 k (up4 (l.2.2.1 k) (l.1 k * 4) x y w h1) c (j * 4 + 2) ∧ upd (A 82) (6 * k + l.1 k) h1 (6 * c + j) = upc l.2.2.1 k (up4 (l.2.2.1 k) (l.1 k * 4) x y w h1) c (j * 4 + 3)
                by_cases hq : c = k
                · subst hq
                  rw [upc_e] at hj ⊢
                  by_cases hjn : j = l.1 c
                  · subst hjn
                    rw [upd_e, upd_e, upd_e, upd_e, up4_0, up4_1, up4_2, up4_3]
                    exact ⟨rfl, rfl, rfl, rfl⟩
                  · rw [upd_n (by omega), upd_n (by omega), upd_n (by omega), upd_n (by omega), up4_o (by omega), up4_o (by omega), up4_o (by omega), up4_o (by omega)]
                    exact (r3 c hc).2.1 j (by omega)
                · rw [upc_n hq] at hj ⊢
                  rw [upd_n (by omega), upd_n (by omega), upd_n (by omega), upd_n (by omega)]
                  exact (r3 c hc).2.1 j hj
              · by_cases hq : c = k
                · subst hq
                  dsimp only
                  rw [upc_e, upc_e]
                  exact (r3 c hc).2.2
                · dsimp only
                  rw [upc_n hq, upc_n hq]
                  exact (r3 c hc).2.2
            · refine R_iconst (q := 63) (v := nI 0) rfl rfl (by decide) ?_
              refine R_zreturn rfl rfl (by first | exact Or.inl rfl | exact Or.inr rfl | assumption) ?_
              first
                | exact ⟨FM_md, Or.inr ⟨(fun hP => absurd hP.1.1 (of_decide_eq_false (zb_eq0.mp h4))), rfl, MI_md h⟩⟩
                | exact ⟨FM_md, Or.inr ⟨(fun hP => by have q1 := hP.2; have := nI_inj (by omega) (by decide) h15; omega), rfl, MI_md h⟩⟩
                | exact ⟨FM_md, Or.inr ⟨(fun hP => of_decide_eq_false (zb_eq0.mp h26) (by have q1 := hP.1.2.1; rw [ikm_16, ik_16]; omega)), rfl, MI_md h⟩⟩
                | exact ⟨FM_md, Or.inr ⟨(fun hP => of_decide_eq_false (zb_eq0.mp h37) (by have q1 := hP.1.2.2.1; rw [ikm_16, ik_16]; omega)), rfl, MI_md h⟩⟩
                | exact ⟨FM_md, Or.inr ⟨(fun hP => of_decide_eq_false (zb_eq0.mp h48) (by have q1 := hP.1.2.2.2.1; rw [ik_1, ik_16]; omega)), rfl, MI_md h⟩⟩
                | exact ⟨FM_md, Or.inr ⟨(fun hP => of_decide_eq_false (zb_eq0.mp h59) (by have q1 := hP.1.2.2.2.2; rw [ik_1, ik_16]; omega)), rfl, MI_md h⟩⟩
set_option maxRecDepth 8000 in
theorem m163 {c z x y : Int32} (hV : VS sh o l pi fa tp) (h : MRl A I sh o l pi fa tp) : mm_R S (d + 2) 163 0 (mm_en 163 [.ref 73, .int c, .int z, .int x, .int y]) [] (mdm M A I) (fun v M' => FM (mdm M A I) M' ∧ YN v (((shp c ∧ shp z ∧ z.toInt < c.toInt) ∧ btw x 1 4 ∧ btw y 1 4) ∧ l.2.1 (sn c) < 4) (MI M' sh o (upc l.1 (sn c) (l.1 (sn c)), upc l.2.1 (sn c) (l.2.1 (sn c) + 1), upc l.2.2.1 (sn c) (l.2.2.1 (sn c)), upc l.2.2.2.1 (sn c) (upn (l.2.2.2.1 (sn c)) (upd (upd (upd l.2.2.2.2 0 z) 6 x) 7 y) (l.2.1 (sn c) * 8) 8), l.2.2.2.2) pi fa tp) (MI M' sh o l pi fa tp)) := by
  show mm_R S (d + 2) 163 0 [some (.ref 73), some (.int c), some (.int z), some (.int x), some (.int y), none] [] (mdm M A I) _
  obtain ⟨r1, r2, r3, r4, r5, r6, r7, r8⟩ := id h
  obtain ⟨⟨n1, n2, n3⟩, n4, n5⟩ := id r4
  have hB := hV.2.2.1.1
  refine R_iload_n (q := 1) rfl rfl rfl ?_
  refine R_calls1 (q := 4) rfl rfl rfl rfl (Nat.le_of_ble_eq_true rfl) rfl ?_
  refine R_mono (m159) (fun v1 M1 hr1 => ?_)
  obtain ⟨rfl, hm1⟩ := hr1
  rw [hm1]
  dsimp only [Option.toList, List.cons_append, List.nil_append]
  refine R_if_eq (q := 7) (t := 48) rfl rfl rfl (fun h4 => ?_) (fun h4 => ?_)
  · refine R_iconst (q := 49) (v := nI 0) rfl rfl (by decide) ?_
    refine R_zreturn rfl rfl (by first | exact Or.inl rfl | exact Or.inr rfl | assumption) ?_
    first
      | exact ⟨FM_md, Or.inr ⟨(fun hP => absurd hP.1.1.1 (of_decide_eq_false (zb_eq0.mp h4))), rfl, MI_md h⟩⟩
      | exact ⟨FM_md, Or.inr ⟨(fun hP => absurd hP.1.1.2.1 (of_decide_eq_false (zb_eq0.mp h11))), rfl, MI_md h⟩⟩
      | exact ⟨FM_md, Or.inr ⟨(fun hP => by have q1 := hP.1.1.2.2; rw [i_le] at h16; omega), rfl, MI_md h⟩⟩
      | exact ⟨FM_md, Or.inr ⟨(fun hP => by have q1 := hP.2; have := nI_inj (by omega) (by decide) h26; omega), rfl, MI_md h⟩⟩
      | exact ⟨FM_md, Or.inr ⟨(fun hP => of_decide_eq_false (zb_eq0.mp h35) (by have q1 := hP.1.2.1; rw [ik_1, ik_4]; omega)), rfl, MI_md h⟩⟩
      | exact ⟨FM_md, Or.inr ⟨(fun hP => of_decide_eq_false (zb_eq0.mp h45) (by have q1 := hP.1.2.2; rw [ik_1, ik_4]; omega)), rfl, MI_md h⟩⟩
  · refine R_iload_n (q := 8) rfl rfl rfl ?_
    refine R_calls1 (q := 11) rfl rfl rfl rfl (Nat.le_of_ble_eq_true rfl) rfl ?_
    refine R_mono (m159) (fun v8 M8 hr8 => ?_)
    obtain ⟨rfl, hm8⟩ := hr8
    rw [hm8]
    dsimp only [Option.toList, List.cons_append, List.nil_append]
    refine R_if_eq (q := 14) (t := 48) rfl rfl rfl (fun h11 => ?_) (fun h11 => ?_)
    · refine R_iconst (q := 49) (v := nI 0) rfl rfl (by decide) ?_
      refine R_zreturn rfl rfl (by first | exact Or.inl rfl | exact Or.inr rfl | assumption) ?_
      first
        | exact ⟨FM_md, Or.inr ⟨(fun hP => absurd hP.1.1.1 (of_decide_eq_false (zb_eq0.mp h4))), rfl, MI_md h⟩⟩
        | exact ⟨FM_md, Or.inr ⟨(fun hP => absurd hP.1.1.2.1 (of_decide_eq_false (zb_eq0.mp h11))), rfl, MI_md h⟩⟩
        | exact ⟨FM_md, Or.inr ⟨(fun hP => by have q1 := hP.1.1.2.2; rw [i_le] at h16; omega), rfl, MI_md h⟩⟩
        | exact ⟨FM_md, Or.inr ⟨(fun hP => by have q1 := hP.2; have := nI_inj (by omega) (by decide) h26; omega), rfl, MI_md h⟩⟩
        | exact ⟨FM_md, Or.inr ⟨(fun hP => of_decide_eq_false (zb_eq0.mp h35) (by have q1 := hP.1.2.1; rw [ik_1, ik_4]; omega)), rfl, MI_md h⟩⟩
        | exact ⟨FM_md, Or.inr ⟨(fun hP => of_decide_eq_false (zb_eq0.mp h45) (by have q1 := hP.1.2.2; rw [ik_1, ik_4]; omega)), rfl, MI_md h⟩⟩
    · have hP0 : shp c := of_decide_eq_true (zb_ne0.mp h4)
      have hP1 : shp z := of_decide_eq_true (zb_ne0.mp h11)
      obtain ⟨k, hk, rfl⟩ := i_ix (a := c) 6 (by decide) hP0.1 hP0.2
      rw [show sn (nI k) = k from cl_nI (by omega)]
      have hb6 := (hB k hk).2
      refine R_iload_n (q := 15) rfl rfl rfl ?_
      refine R_iload_n (q := 16) rfl rfl rfl ?_
      refine R_icmp_ge (q := 19) (t := 48) rfl rfl rfl (fun h16 => ?_) (fun h16 => ?_)
      · refine R_iconst (q := 49) (v := nI 0) rfl rfl (by decide) ?_
        refine R_zreturn rfl rfl (by first | exact Or.inl rfl | exact Or.inr rfl | assumption) ?_
        first
          | exact ⟨FM_md, Or.inr ⟨(fun hP => absurd hP.1.1.1 (of_decide_eq_false (zb_eq0.mp h4))), rfl, MI_md h⟩⟩
          | exact ⟨FM_md, Or.inr ⟨(fun hP => absurd hP.1.1.2.1 (of_decide_eq_false (zb_eq0.mp h11))), rfl, MI_md h⟩⟩
          | exact ⟨FM_md, Or.inr ⟨(fun hP => by have q1 := hP.1.1.2.2; rw [i_le] at h16; omega), rfl, MI_md h⟩⟩
          | exact ⟨FM_md, Or.inr ⟨(fun hP => by have q1 := hP.2; have := nI_inj (by omega) (by decide) h26; omega), rfl, MI_md h⟩⟩
          | exact ⟨FM_md, Or.inr ⟨(fun hP => of_decide_eq_false (zb_eq0.mp h35) (by have q1 := hP.1.2.1; rw [ik_1, ik_4]; omega)), rfl, MI_md h⟩⟩
          | exact ⟨FM_md, Or.inr ⟨(fun hP => of_decide_eq_false (zb_eq0.mp h45) (by have q1 := hP.1.2.2; rw [ik_1, ik_4]; omega)), rfl, MI_md h⟩⟩
      · refine R_aload_n (q := 20) rfl rfl rfl ?_
        refine R_getf (q := 23) rfl rfl rfl md_73 rfl ?_
        refine R_iload_n (q := 24) rfl rfl rfl ?_
        refine R_iaload (q := 25) rfl rfl md_83 (by decide) (by first | assumption | exact in_nI (by omega) (by decide)) ?_
        rw [cl_nI (by omega)]
        rw [(r3 k hk).1.2]
        refine R_iconst (q := 26) (v := nI 4) rfl rfl (by decide) ?_
        refine R_icmp_eq (q := 29) (t := 48) rfl rfl rfl (fun h26 => ?_) (fun h26 => ?_)
        · refine R_iconst (q := 49) (v := nI 0) rfl rfl (by decide) ?_
          refine R_zreturn rfl rfl (by first | exact Or.inl rfl | exact Or.inr rfl | assumption) ?_
          first
            | exact ⟨FM_md, Or.inr ⟨(fun hP => absurd hP.1.1.1 (of_decide_eq_false (zb_eq0.mp h4))), rfl, MI_md h⟩⟩
            | exact ⟨FM_md, Or.inr ⟨(fun hP => absurd hP.1.1.2.1 (of_decide_eq_false (zb_eq0.mp h11))), rfl, MI_md h⟩⟩
            | exact ⟨FM_md, Or.inr ⟨(fun hP => by have q1 := hP.1.1.2.2; rw [i_le] at h16; omega), rfl, MI_md h⟩⟩
            | exact ⟨FM_md, Or.inr ⟨(fun hP => by have q1 := hP.2; have := nI_inj (by omega) (by decide) h26; omega), rfl, MI_md h⟩⟩
            | exact ⟨FM_md, Or.inr ⟨(fun hP => of_decide_eq_false (zb_eq0.mp h35) (by have q1 := hP.1.2.1; rw [ik_1, ik_4]; omega)), rfl, MI_md h⟩⟩
            | exact ⟨FM_md, Or.inr ⟨(fun hP => of_decide_eq_false (zb_eq0.mp h45) (by have q1 := hP.1.2.2; rw [ik_1, ik_4]; omega)), rfl, MI_md h⟩⟩
        · refine R_iload_n (q := 30) rfl rfl rfl ?_
          refine R_iconst (q := 31) (v := nI 1) rfl rfl (by decide) ?_
          refine R_iconst (q := 32) (v := nI 4) rfl rfl (by decide) ?_
          refine R_calls3 (q := 35) rfl rfl rfl rfl (Nat.le_of_ble_eq_true rfl) rfl ?_
          refine R_mono (m147) (fun v32 M32 hr32 => ?_)
          obtain ⟨rfl, hm32⟩ := hr32
          rw [hm32]
          dsimp only [Option.toList, List.cons_append, List.nil_append]
          refine R_if_eq (q := 38) (t := 48) rfl rfl rfl (fun h35 => ?_) (fun h35 => ?_)
          · refine R_iconst (q := 49) (v := nI 0) rfl rfl (by decide) ?_
            refine R_zreturn rfl rfl (by first | exact Or.inl rfl | exact Or.inr rfl | assumption) ?_
            first
              | exact ⟨FM_md, Or.inr ⟨(fun hP => absurd hP.1.1.1 (of_decide_eq_false (zb_eq0.mp h4))), rfl, MI_md h⟩⟩
              | exact ⟨FM_md, Or.inr ⟨(fun hP => absurd hP.1.1.2.1 (of_decide_eq_false (zb_eq0.mp h11))), rfl, MI_md h⟩⟩
              | exact ⟨FM_md, Or.inr ⟨(fun hP => by have q1 := hP.1.1.2.2; rw [i_le] at h16; omega), rfl, MI_md h⟩⟩
              | exact ⟨FM_md, Or.inr ⟨(fun hP => by have q1 := hP.2; have := nI_inj (by omega) (by decide) h26; omega), rfl, MI_md h⟩⟩
              | exact ⟨FM_md, Or.inr ⟨(fun hP => of_decide_eq_false (zb_eq0.mp h35) (by have q1 := hP.1.2.1; rw [ik_1, ik_4]; omega)), rfl, MI_md h⟩⟩
              | exact ⟨FM_md, Or.inr ⟨(fun hP => of_decide_eq_false (zb_eq0.mp h45) (by have q1 := hP.1.2.2; rw [ik_1, ik_4]; omega)), rfl, MI_md h⟩⟩
          · refine R_iload (q := 40) rfl rfl rfl ?_
            refine R_iconst (q := 41) (v := nI 1) rfl rfl (by decide) ?_
            refine R_iconst (q := 42) (v := nI 4) rfl rfl (by decide) ?_
            refine R_calls3 (q := 45) rfl rfl rfl rfl (Nat.le_of_ble_eq_true rfl) rfl ?_
            refine R_mono (m147) (fun v42 M42 hr42 => ?_)
            obtain ⟨rfl, hm42⟩ := hr42
            rw [hm42]
            dsimp only [Option.toList, List.cons_append, List.nil_append]
            refine R_if_ne (q := 48) (t := 50) rfl rfl rfl (fun h45 => ?_) (fun h45 => ?_)
            · have hP : ((shp (nI k) ∧ shp z ∧ z.toInt < (nI k).toInt) ∧ btw x 1 4 ∧ btw y 1 4) ∧ l.2.1 k < 4 := by
                have g3 := of_decide_eq_true (zb_ne0.mp h35)
                have g4 := of_decide_eq_true (zb_ne0.mp h45)
                rw [ik_1, ik_4] at g3 g4
                rw [i_le] at h16
                have : ¬ l.2.1 k = 4 := fun q => h26 (congrArg nI q)
                exact ⟨⟨⟨hP0, hP1, by omega⟩, g3, g4⟩, by omega⟩
              have hb5 := hP.2
              refine R_iconst (q := 51) (v := nI 4) rfl rfl (by decide) ?_
              refine R_iload_n (q := 52) rfl rfl rfl ?_
              refine R_imul (q := 53) rfl rfl ?_
              rw [pk_mul]
              refine R_aload_n (q := 54) rfl rfl rfl ?_
              refine R_getf (q := 57) rfl rfl rfl md_73 rfl ?_
              refine R_iload_n (q := 58) rfl rfl rfl ?_
              refine R_iaload (q := 59) rfl rfl md_83 (by decide) (by first | assumption | exact in_nI (by omega) (by decide)) ?_
              rw [cl_nI (by omega)]
              rw [(r3 k hk).1.2]
              refine R_iadd (q := 60) rfl rfl ?_
              rw [nI_add]
              refine R_istore (q := 62) rfl rfl (Nat.le_of_ble_eq_true rfl) rfl ?_
              dsimp only [List.set]
              refine R_aload_n (q := 63) rfl rfl rfl ?_
              refine R_getf (q := 66) rfl rfl rfl md_73 rfl ?_
              refine R_iload (q := 68) rfl rfl rfl ?_
              refine R_iload_n (q := 69) rfl rfl rfl ?_
              refine R_iastore (q := 70) rfl rfl md_84 (by first | assumption | exact in_nI (by omega) (by decide)) ?_
              rw [cl_nI (by omega)]
              rw [md_p84]
              refine R_aload_n (q := 71) rfl rfl rfl ?_
              refine R_getf (q := 74) rfl rfl rfl md_73 rfl ?_
              refine R_iload (q := 76) rfl rfl rfl ?_
              refine R_aload_n (q := 77) rfl rfl rfl ?_
              refine R_getf (q := 80) rfl rfl rfl md_73 rfl ?_
              refine R_iastore (q := 81) rfl rfl md_85 (by first | assumption | exact in_nI (by omega) (by decide)) ?_
              rw [cl_nI (by omega)]
              rw [md_p85]
              refine R_aload_n (q := 82) rfl rfl rfl ?_
              refine R_getf (q := 85) rfl rfl rfl md_73 rfl ?_
              refine R_iload (q := 87) rfl rfl rfl ?_
              refine R_aload_n (q := 88) rfl rfl rfl ?_
              refine R_getf (q := 91) rfl rfl rfl md_73 rfl ?_
              refine R_iastore (q := 92) rfl rfl md_86 (by first | assumption | exact in_nI (by omega) (by decide)) ?_
              rw [cl_nI (by omega)]
              rw [md_p86]
              refine R_aload_n (q := 93) rfl rfl rfl ?_
              refine R_getf (q := 96) rfl rfl rfl md_73 rfl ?_
              refine R_iload (q := 98) rfl rfl rfl ?_
              refine R_aload_n (q := 99) rfl rfl rfl ?_
              refine R_getf (q := 102) rfl rfl rfl md_73 rfl ?_
              refine R_iastore (q := 103) rfl rfl md_87 (by first | assumption | exact in_nI (by omega) (by decide)) ?_
              rw [cl_nI (by omega)]
              rw [md_p87]
              refine R_aload_n (q := 104) rfl rfl rfl ?_
              refine R_getf (q := 107) rfl rfl rfl md_73 rfl ?_
              refine R_iload (q := 109) rfl rfl rfl ?_
              refine R_aload_n (q := 110) rfl rfl rfl ?_
              refine R_getf (q := 113) rfl rfl rfl md_73 rfl ?_
              refine R_iastore (q := 114) rfl rfl md_88 (by first | assumption | exact in_nI (by omega) (by decide)) ?_
              rw [cl_nI (by omega)]
              rw [md_p88]
              refine R_aload_n (q := 115) rfl rfl rfl ?_
              refine R_getf (q := 118) rfl rfl rfl md_73 rfl ?_
              refine R_iload (q := 120) rfl rfl rfl ?_
              refine R_aload_n (q := 121) rfl rfl rfl ?_
              refine R_getf (q := 124) rfl rfl rfl md_73 rfl ?_
              refine R_iastore (q := 125) rfl rfl md_89 (by first | assumption | exact in_nI (by omega) (by decide)) ?_
              rw [cl_nI (by omega)]
              rw [md_p89]
              refine R_aload_n (q := 126) rfl rfl rfl ?_
              refine R_getf (q := 129) rfl rfl rfl md_73 rfl ?_
              refine R_iload (q := 131) rfl rfl rfl ?_
              refine R_iload_n (q := 132) rfl rfl rfl ?_
              refine R_iastore (q := 133) rfl rfl md_90 (by first | assumption | exact in_nI (by omega) (by decide)) ?_
              rw [cl_nI (by omega)]
              rw [md_p90]
              refine R_aload_n (q := 134) rfl rfl rfl ?_
              refine R_getf (q := 137) rfl rfl rfl md_73 rfl ?_
              refine R_iload (q := 139) rfl rfl rfl ?_
              refine R_iload (q := 141) rfl rfl rfl ?_
              refine R_iastore (q := 142) rfl rfl md_91 (by first | assumption | exact in_nI (by omega) (by decide)) ?_
              rw [cl_nI (by omega)]
              rw [md_p91]
              refine R_aload_n (q := 143) rfl rfl rfl ?_
              refine R_getf (q := 146) rfl rfl rfl md_73 rfl ?_
              refine R_iload_n (q := 147) rfl rfl rfl ?_
              refine R_dup2 (q := 148) rfl rfl ?_
              refine R_iaload (q := 149) rfl rfl md_83 (by decide) (by first | assumption | exact in_nI (by omega) (by decide)) ?_
              rw [cl_nI (by omega)]
              rw [upa_n (by decide), upa_n (by decide), upa_n (by decide), upa_n (by decide), upa_n (by decide), upa_n (by decide), upa_n (by decide), upa_n (by decide), (r3 k hk).1.2]
              refine R_iconst (q := 150) (v := nI 1) rfl rfl (by decide) ?_
              refine R_iadd (q := 151) rfl rfl ?_
              rw [nI_add]
              refine R_iastore (q := 152) rfl rfl md_83 (by first | assumption | exact in_nI (by omega) (by decide)) ?_
              rw [cl_nI (by omega)]
              rw [md_p83]
              refine R_iconst (q := 153) (v := nI 1) rfl rfl (by decide) ?_
              refine R_zreturn rfl rfl (by first | exact Or.inl rfl | exact Or.inr rfl | assumption) ?_
              refine ⟨FM_md, Or.inl ⟨hP, rfl, MI_md ⟨r1, r2, ?_, r4, r5, r6, r7, r8⟩⟩⟩
              intro c hc
              have hbc := hB c hc
              refine ⟨⟨?_, ?_⟩, ?_, fun j hj => ?_⟩
              · show A 78 c = nI (upc l.1 k (l.1 k) c)
                by_cases hq : c = k
                · subst hq; rw [upc_e]; exact (r3 c hc).1.1
                · rw [upc_n hq]; exact (r3 c hc).1.1
              · show upd (A 83) k (nI (l.2.1 k + 1)) c = nI (upc l.2.1 k (l.2.1 k + 1) c)
                by_cases hq : c = k
                · subst hq; rw [upd_e, upc_e]
                · rw [upd_n hq, upc_n hq]; exact (r3 c hc).1.2
              · by_cases hq : c = k
                · subst hq
                  dsimp only
                  rw [upc_e, upc_e]
                  exact (r3 c hc).2.1
                · dsimp only
                  rw [upc_n hq, upc_n hq]
                  exact (r3 c hc).2.1
              · have hj : j < upc l.2.1 k (l.2.1 k + 1) c := hj
                show (upd (A 84) (4 * k + l.2.1 k) (z) (4 * c + j) = upc l.2.2.2.1 k (upn (l.2.2.2.1 k) (upd (upd (upd l.2.2.2.2 0 z) 6 x) 7 y) (l.2.1 k * 8) 8) c (j * 8 + 0) ∧ upd (A 87) (4 * k + l.2.1 k) (I 21) (4 * c + j) = upc l.2.2.2.1 k (upn (l.2.2.2.1 k) (upd (upd (upd l.2.2.2.2 0 z) 6 x) 7 y) (l.2.1 k * 8) 8) c (j * 8 + 1)) ∧ (upd (A 85) (4 * k + l.2.1 k) (I 19) (4 * c + j) = upc l.2.2.2.1 k (upn (l.2.2.2.1 k) (upd (upd (upd l.2.2.2.2 0 z) 6 x) 7 y) (l.2.1 k * 8) 8) c (j * 8 + 2) ∧ upd (A 86) (4 * k + l.2.1 k) (I 20) (4 * c + j) = upc l.2.2.2.1 k (upn (l.2.2.2.1 k) (upd (upd (upd l.2.2.2.2 0 z) 6 x) 7 y) (l.2.1 k * 8) 8) c (j * 8 + 3)) ∧ (upd (A 88) (4 * k + l.2.1 k) (I 22) (4 * c + j) = upc l.2.2.2.1 k (upn (l.2.2.2.1 k) (upd (upd (upd l.2.2.2.2 0 z) 6 x) 7 y) (l.2.1 k * 8) 8) c (j * 8 + 4) ∧ upd (A 89) (4 * k + l.2.1 k) (I 23) (4 * c + j) = upc l.2.2.2.1 k (upn (l.2.2.2.1 k) (upd (upd (upd l.2.2.2.2 0 z) 6 x) 7 y) (l.2.1 k * 8) 8) c (j * 8 + 5)) ∧ upd (A 90) (4 * k + l.2.1 k) (x) (4 * c + j) = upc l.2.2.2.1 k (upn (l.2.2.2.1 k) (upd (upd (upd l.2.2.2.2 0 z) 6 x) 7 y) (l.2.1 k * 8) 8) c (j * 8 + 6) ∧ upd (A 91) (4 * k + l.2.1 k) (y) (4 * c + j) = upc l.2.2.2.1 k (upn (l.2.2.2.1 k) (upd (upd (upd l.2.2.2.2 0 z) 6 x) 7 y) (l.2.1 k * 8) 8) c (j * 8 + 7)
                by_cases hq : c = k
                · subst hq
                  rw [upc_e] at hj ⊢
                  by_cases hjn : j = l.2.1 c
                  · subst hjn
                    rw [upd_e, upd_e, upd_e, upd_e, upd_e, upd_e, upd_e, upd_e, upn_i 8 (by decide), upn_i 8 (by decide), upn_i 8 (by decide), upn_i 8 (by decide), upn_i 8 (by decide), upn_i 8 (by decide), upn_i 8 (by decide), upn_i 8 (by decide)]
                    exact ⟨⟨rfl, n3⟩, ⟨n1, n2⟩, ⟨n4, n5⟩, rfl, rfl⟩
                  · rw [upd_n (by omega), upd_n (by omega), upd_n (by omega), upd_n (by omega), upd_n (by omega), upd_n (by omega), upd_n (by omega), upd_n (by omega), upn_o 8 (by omega), upn_o 8 (by omega), upn_o 8 (by omega), upn_o 8 (by omega), upn_o 8 (by omega), upn_o 8 (by omega), upn_o 8 (by omega), upn_o 8 (by omega)]
                    exact (r3 c hc).2.2 j (by omega)
                · rw [upc_n hq] at hj ⊢
                  rw [upd_n (by omega), upd_n (by omega), upd_n (by omega), upd_n (by omega), upd_n (by omega), upd_n (by omega), upd_n (by omega), upd_n (by omega)]
                  exact (r3 c hc).2.2 j hj
            · refine R_iconst (q := 49) (v := nI 0) rfl rfl (by decide) ?_
              refine R_zreturn rfl rfl (by first | exact Or.inl rfl | exact Or.inr rfl | assumption) ?_
              first
                | exact ⟨FM_md, Or.inr ⟨(fun hP => absurd hP.1.1.1 (of_decide_eq_false (zb_eq0.mp h4))), rfl, MI_md h⟩⟩
                | exact ⟨FM_md, Or.inr ⟨(fun hP => absurd hP.1.1.2.1 (of_decide_eq_false (zb_eq0.mp h11))), rfl, MI_md h⟩⟩
                | exact ⟨FM_md, Or.inr ⟨(fun hP => by have q1 := hP.1.1.2.2; rw [i_le] at h16; omega), rfl, MI_md h⟩⟩
                | exact ⟨FM_md, Or.inr ⟨(fun hP => by have q1 := hP.2; have := nI_inj (by omega) (by decide) h26; omega), rfl, MI_md h⟩⟩
                | exact ⟨FM_md, Or.inr ⟨(fun hP => of_decide_eq_false (zb_eq0.mp h35) (by have q1 := hP.1.2.1; rw [ik_1, ik_4]; omega)), rfl, MI_md h⟩⟩
                | exact ⟨FM_md, Or.inr ⟨(fun hP => of_decide_eq_false (zb_eq0.mp h45) (by have q1 := hP.1.2.2; rw [ik_1, ik_4]; omega)), rfl, MI_md h⟩⟩
def jgf (sh : Nat → Nat → Int32) (t a b kk : Nat) (i : Nat) : Int32 := zb (bt (cmb kk (sh a ((i - 256 * t) / 16)) (sh b ((i - 256 * t) / 16))) ((i - 256 * t) % 16))
theorem CR_k {s i : Nat} (h : CRl A sh) (hs' : s < 6) (hi : i < 256) : A 74 (256 * s + i) = zb (bt (sh s (i / 16)) (i % 16)) := by
  have := h s (i / 16) (i % 16) hs' (by omega) (by omega)
  rw [← this]
  congr 1
  omega
theorem CR_loop {t : Nat} {g : Nat → Int32} {G : Nat → Int32} (h : CRl A sh) (ht : t < 6) (hg : ∀ y x, y < 16 → x < 16 → g (256 * t + 16 * y + x) = zb (bt (G y) x)) : CRl (upa A 74 (ifr g (A 74) (256 * t) (256 * t + 256))) (ups sh t G) := by
  intro s y x hs' hy hx
  rw [upa_e]
  unfold ifr ups
  by_cases hq : s = t
  · subst hq
    rw [if_pos rfl, if_pos (by omega)]
    exact hg y x hy hx
  · rw [if_neg hq, if_neg (by omega)]
    exact h s y x hs' hy hx
set_option maxRecDepth 8000 in
theorem m157 {t a b kk : Int32} (hV : VS sh o l pi fa tp) (h : MRl A I sh o l pi fa tp) : mm_R S (d + 2) 157 0 (mm_en 157 [.ref 73, .int t, .int a, .int b, .int kk]) [] (mdm M A I) (fun v M' => FM (mdm M A I) M' ∧ YN v ((shp t ∧ shp a ∧ shp b) ∧ btw kk 0 3) (MI M' (ups sh (sn t) (ifl (fun i => cmb (sn kk) (sh (sn a) i) (sh (sn b) i)) (sh (sn t)) 16)) o l pi fa tp) (MI M' sh o l pi fa tp)) := by
  show mm_R S (d + 2) 157 0 [some (.ref 73), some (.int t), some (.int a), some (.int b), some (.int kk), none, none, none] [] (mdm M A I) _
  obtain ⟨r1, r2, r3, r4, r5, r6, r7, r8⟩ := id h
  have hl : ∀ (k k2 k3 k4 : Nat), k < 6 → k2 < 6 → k3 < 6 → k4 < 4 → ∀ (j i : Nat) (t6 t7 : Option Value), i + j = 256 → mm_R S (d + 2) 157 36 [some (.ref 73), some (.int (nI k)), some (.int (nI k2)), some (.int (nI k3)), some (.int (nI k4)), some (.int (nI i)), t6, t7] [] (mdm M (upa A 74 (ifr (jgf sh k k2 k3 k4) (A 74) (256 * k) (256 * k + i))) I) (fun v M' => v = some (.int (nI 1)) ∧ M' = mdm M (upa A 74 (ifr (jgf sh k k2 k3 k4) (A 74) (256 * k) (256 * k + 256))) I) := by
    intro k k2 k3 k4 hk hk2 hk3 hk4 j
    induction j with
    | zero =>
      intro i t6 t7 hi
      have hii : i = 256 := by omega
      subst hii
      refine R_iload (q := 38) rfl rfl rfl ?_
      refine R_sipush (q := 41) (v := nI 256) rfl rfl (by decide) ?_
      refine R_icmp_ge (q := 44) (t := 176) rfl rfl rfl (fun h41 => ?_) (fun h41 => absurd (nI_le (by omega) (by omega)) h41)
      refine R_iconst (q := 177) (v := nI 1) rfl rfl (by decide) ?_
      refine R_zreturn rfl rfl (by first | exact Or.inl rfl | exact Or.inr rfl | assumption) ?_
      exact ⟨rfl, rfl⟩
    | succ j ih =>
      intro i t6 t7 hi
      have e2 : ifr (jgf sh k k2 k3 k4) (A 74) (256 * k) (256 * k + i) (256 * k2 + i) = zb (bt (sh k2 (i / 16)) (i % 16)) := by
        rw [← CR_k r1 hk2 (by omega)]; exact if_neg (by omega)
      have e3 : ifr (jgf sh k k2 k3 k4) (A 74) (256 * k) (256 * k + i) (256 * k3 + i) = zb (bt (sh k3 (i / 16)) (i % 16)) := by
        rw [← CR_k r1 hk3 (by omega)]; exact if_neg (by omega)
      have hst : ∀ (v : Int32) (t6 t7 : Option Value), v = jgf sh k k2 k3 k4 (256 * k + i) → mm_R S (d + 2) 157 169 [some (.ref 73), some (.int (nI k)), some (.int (nI k2)), some (.int (nI k3)), some (.int (nI k4)), some (.int (nI i)), t6, t7] [.int v, .int (nI (256 * k + i)), .ref 74] (mdm M (upa A 74 (ifr (jgf sh k k2 k3 k4) (A 74) (256 * k) (256 * k + i))) I) (fun v M' => v = some (.int (nI 1)) ∧ M' = mdm M (upa A 74 (ifr (jgf sh k k2 k3 k4) (A 74) (256 * k) (256 * k + 256))) I) := by
        intro v t6 t7 hv
        have h01 : v = 0 ∨ v = 1 := by rw [hv]; exact zb_01 _
        refine R_bastore (q := 170) rfl rfl md_74 (by first | assumption | exact in_nI (by omega) (by decide)) h01 ?_
        rw [cl_nI (by omega)]
        rw [upa_e, md_p74]
        refine R_iinc (q := 173) rfl rfl rfl (nI_i1 i) rfl ?_
        dsimp only [List.set]
        refine R_goto (t := 36) rfl rfl ?_
        rw [upa_u, hv, ifr_s (n := jgf sh k k2 k3 k4) (by omega)]
        exact ih (i + 1) _ _ (by omega)
      have hgi : jgf sh k k2 k3 k4 (256 * k + i) = zb (bt (cmb k4 (sh k2 (i / 16)) (sh k3 (i / 16))) (i % 16)) := by
        unfold jgf
        rw [show 256 * k + i - 256 * k = i by omega]
      rw [hgi] at hst
      generalize sh k2 (i / 16) = X at *
      generalize sh k3 (i / 16) = Y at *
      have hi16 : i % 16 < 32 := by omega
      generalize i % 16 = b at *
      match k4, hk4 with
      | 0, _ =>
        refine R_iload (q := 38) rfl rfl rfl ?_
        refine R_sipush (q := 41) (v := nI 256) rfl rfl (by decide) ?_
        refine R_icmp_ge (q := 44) (t := 176) rfl rfl rfl (fun h41 => absurd h41 (nI_ge (by omega) (by omega))) (fun h41 => ?_)
        refine R_aload_n (q := 45) rfl rfl rfl ?_
        refine R_getf (q := 48) rfl rfl rfl md_73 rfl ?_
        refine R_sipush (q := 51) (v := nI 256) rfl rfl (by decide) ?_
        refine R_iload_n (q := 52) rfl rfl rfl ?_
        refine R_imul (q := 53) rfl rfl ?_
        rw [pk_mul]
        refine R_iload (q := 55) rfl rfl rfl ?_
        refine R_iadd (q := 56) rfl rfl ?_
        rw [nI_add]
        refine R_baload (q := 57) rfl rfl md_74 (by decide) (by first | assumption | exact in_nI (by omega) (by decide)) ?_
        rw [cl_nI (by omega)]
        rw [upa_e, e2]
        refine R_istore (q := 59) rfl rfl (Nat.le_of_ble_eq_true rfl) rfl ?_
        dsimp only [List.set]
        refine R_aload_n (q := 60) rfl rfl rfl ?_
        refine R_getf (q := 63) rfl rfl rfl md_73 rfl ?_
        refine R_sipush (q := 66) (v := nI 256) rfl rfl (by decide) ?_
        refine R_iload_n (q := 67) rfl rfl rfl ?_
        refine R_imul (q := 68) rfl rfl ?_
        rw [pk_mul]
        refine R_iload (q := 70) rfl rfl rfl ?_
        refine R_iadd (q := 71) rfl rfl ?_
        rw [nI_add]
        refine R_baload (q := 72) rfl rfl md_74 (by decide) (by first | assumption | exact in_nI (by omega) (by decide)) ?_
        rw [cl_nI (by omega)]
        rw [upa_e, e3]
        refine R_istore (q := 74) rfl rfl (Nat.le_of_ble_eq_true rfl) rfl ?_
        dsimp only [List.set]
        refine R_aload_n (q := 75) rfl rfl rfl ?_
        refine R_getf (q := 78) rfl rfl rfl md_73 rfl ?_
        refine R_sipush (q := 81) (v := nI 256) rfl rfl (by decide) ?_
        refine R_iload_n (q := 82) rfl rfl rfl ?_
        refine R_imul (q := 83) rfl rfl ?_
        rw [pk_mul]
        refine R_iload (q := 85) rfl rfl rfl ?_
        refine R_iadd (q := 86) rfl rfl ?_
        rw [nI_add]
        refine R_iload (q := 88) rfl rfl rfl ?_
        refine R_if_ne (q := 91) (t := 109) rfl rfl rfl (fun h88 => absurd rfl h88) (fun h88 => ?_)
        refine R_iload (q := 93) rfl rfl rfl ?_
        refine R_if_ne (q := 96) (t := 101) rfl rfl rfl (fun h93 => ?_) (fun h93 => ?_)
        · refine R_iconst (q := 102) (v := nI 1) rfl rfl (by decide) ?_
          refine R_goto (t := 169) rfl rfl ?_
          refine hst _ _ _ ?_
          show _ = zb (bt (X ||| Y) b)
          rw [b_or]
          first
            | (rw [zb_ne0.mp h93]; rfl)
            | (rw [zb_eq0.mp h93, zb_ne0.mp h98]; rfl)
            | (rw [zb_eq0.mp h93, zb_eq0.mp h98]; rfl)
        · refine R_iload (q := 98) rfl rfl rfl ?_
          refine R_if_eq (q := 101) (t := 105) rfl rfl rfl (fun h98 => ?_) (fun h98 => ?_)
          · refine R_iconst (q := 106) (v := nI 0) rfl rfl (by decide) ?_
            refine R_goto (t := 169) rfl rfl ?_
            refine hst _ _ _ ?_
            show _ = zb (bt (X ||| Y) b)
            rw [b_or]
            first
              | (rw [zb_ne0.mp h93]; rfl)
              | (rw [zb_eq0.mp h93, zb_ne0.mp h98]; rfl)
              | (rw [zb_eq0.mp h93, zb_eq0.mp h98]; rfl)
          · refine R_iconst (q := 102) (v := nI 1) rfl rfl (by decide) ?_
            refine R_goto (t := 169) rfl rfl ?_
            refine hst _ _ _ ?_
            show _ = zb (bt (X ||| Y) b)
            rw [b_or]
            first
              | (rw [zb_ne0.mp h93]; rfl)
              | (rw [zb_eq0.mp h93, zb_ne0.mp h98]; rfl)
              | (rw [zb_eq0.mp h93, zb_eq0.mp h98]; rfl)
      | 1, _ =>
        refine R_iload (q := 38) rfl rfl rfl ?_
        refine R_sipush (q := 41) (v := nI 256) rfl rfl (by decide) ?_
        refine R_icmp_ge (q := 44) (t := 176) rfl rfl rfl (fun h41 => absurd h41 (nI_ge (by omega) (by omega))) (fun h41 => ?_)
        refine R_aload_n (q := 45) rfl rfl rfl ?_
        refine R_getf (q := 48) rfl rfl rfl md_73 rfl ?_
        refine R_sipush (q := 51) (v := nI 256) rfl rfl (by decide) ?_
        refine R_iload_n (q := 52) rfl rfl rfl ?_
        refine R_imul (q := 53) rfl rfl ?_
        rw [pk_mul]
        refine R_iload (q := 55) rfl rfl rfl ?_
        refine R_iadd (q := 56) rfl rfl ?_
        rw [nI_add]
        refine R_baload (q := 57) rfl rfl md_74 (by decide) (by first | assumption | exact in_nI (by omega) (by decide)) ?_
        rw [cl_nI (by omega)]
        rw [upa_e, e2]
        refine R_istore (q := 59) rfl rfl (Nat.le_of_ble_eq_true rfl) rfl ?_
        dsimp only [List.set]
        refine R_aload_n (q := 60) rfl rfl rfl ?_
        refine R_getf (q := 63) rfl rfl rfl md_73 rfl ?_
        refine R_sipush (q := 66) (v := nI 256) rfl rfl (by decide) ?_
        refine R_iload_n (q := 67) rfl rfl rfl ?_
        refine R_imul (q := 68) rfl rfl ?_
        rw [pk_mul]
        refine R_iload (q := 70) rfl rfl rfl ?_
        refine R_iadd (q := 71) rfl rfl ?_
        rw [nI_add]
        refine R_baload (q := 72) rfl rfl md_74 (by decide) (by first | assumption | exact in_nI (by omega) (by decide)) ?_
        rw [cl_nI (by omega)]
        rw [upa_e, e3]
        refine R_istore (q := 74) rfl rfl (Nat.le_of_ble_eq_true rfl) rfl ?_
        dsimp only [List.set]
        refine R_aload_n (q := 75) rfl rfl rfl ?_
        refine R_getf (q := 78) rfl rfl rfl md_73 rfl ?_
        refine R_sipush (q := 81) (v := nI 256) rfl rfl (by decide) ?_
        refine R_iload_n (q := 82) rfl rfl rfl ?_
        refine R_imul (q := 83) rfl rfl ?_
        rw [pk_mul]
        refine R_iload (q := 85) rfl rfl rfl ?_
        refine R_iadd (q := 86) rfl rfl ?_
        rw [nI_add]
        refine R_iload (q := 88) rfl rfl rfl ?_
        refine R_if_ne (q := 91) (t := 109) rfl rfl rfl (fun h88 => ?_) (fun h88 => absurd h88 (by decide))
        refine R_iload (q := 111) rfl rfl rfl ?_
        refine R_iconst (q := 112) (v := nI 1) rfl rfl (by decide) ?_
        refine R_icmp_ne (q := 115) (t := 133) rfl rfl rfl (fun h112 => absurd rfl h112) (fun h112 => ?_)
        refine R_iload (q := 117) rfl rfl rfl ?_
        refine R_if_eq (q := 120) (t := 129) rfl rfl rfl (fun h117 => ?_) (fun h117 => ?_)
        · refine R_iconst (q := 130) (v := nI 0) rfl rfl (by decide) ?_
          refine R_goto (t := 169) rfl rfl ?_
          refine hst _ _ _ ?_
          show _ = zb (bt (X &&& Y) b)
          rw [b_and]
          first
            | (rw [zb_eq0.mp h117]; rfl)
            | (rw [zb_ne0.mp h117, zb_eq0.mp h122]; rfl)
            | (rw [zb_ne0.mp h117, zb_ne0.mp h122]; rfl)
        · refine R_iload (q := 122) rfl rfl rfl ?_
          refine R_if_eq (q := 125) (t := 129) rfl rfl rfl (fun h122 => ?_) (fun h122 => ?_)
          · refine R_iconst (q := 130) (v := nI 0) rfl rfl (by decide) ?_
            refine R_goto (t := 169) rfl rfl ?_
            refine hst _ _ _ ?_
            show _ = zb (bt (X &&& Y) b)
            rw [b_and]
            first
              | (rw [zb_eq0.mp h117]; rfl)
              | (rw [zb_ne0.mp h117, zb_eq0.mp h122]; rfl)
              | (rw [zb_ne0.mp h117, zb_ne0.mp h122]; rfl)
          · refine R_iconst (q := 126) (v := nI 1) rfl rfl (by decide) ?_
            refine R_goto (t := 169) rfl rfl ?_
            refine hst _ _ _ ?_
            show _ = zb (bt (X &&& Y) b)
            rw [b_and]
            first
              | (rw [zb_eq0.mp h117]; rfl)
              | (rw [zb_ne0.mp h117, zb_eq0.mp h122]; rfl)
              | (rw [zb_ne0.mp h117, zb_ne0.mp h122]; rfl)
      | 2, _ =>
        refine R_iload (q := 38) rfl rfl rfl ?_
        refine R_sipush (q := 41) (v := nI 256) rfl rfl (by decide) ?_
        refine R_icmp_ge (q := 44) (t := 176) rfl rfl rfl (fun h41 => absurd h41 (nI_ge (by omega) (by omega))) (fun h41 => ?_)
        refine R_aload_n (q := 45) rfl rfl rfl ?_
        refine R_getf (q := 48) rfl rfl rfl md_73 rfl ?_
        refine R_sipush (q := 51) (v := nI 256) rfl rfl (by decide) ?_
        refine R_iload_n (q := 52) rfl rfl rfl ?_
        refine R_imul (q := 53) rfl rfl ?_
        rw [pk_mul]
        refine R_iload (q := 55) rfl rfl rfl ?_
        refine R_iadd (q := 56) rfl rfl ?_
        rw [nI_add]
        refine R_baload (q := 57) rfl rfl md_74 (by decide) (by first | assumption | exact in_nI (by omega) (by decide)) ?_
        rw [cl_nI (by omega)]
        rw [upa_e, e2]
        refine R_istore (q := 59) rfl rfl (Nat.le_of_ble_eq_true rfl) rfl ?_
        dsimp only [List.set]
        refine R_aload_n (q := 60) rfl rfl rfl ?_
        refine R_getf (q := 63) rfl rfl rfl md_73 rfl ?_
        refine R_sipush (q := 66) (v := nI 256) rfl rfl (by decide) ?_
        refine R_iload_n (q := 67) rfl rfl rfl ?_
        refine R_imul (q := 68) rfl rfl ?_
        rw [pk_mul]
        refine R_iload (q := 70) rfl rfl rfl ?_
        refine R_iadd (q := 71) rfl rfl ?_
        rw [nI_add]
        refine R_baload (q := 72) rfl rfl md_74 (by decide) (by first | assumption | exact in_nI (by omega) (by decide)) ?_
        rw [cl_nI (by omega)]
        rw [upa_e, e3]
        refine R_istore (q := 74) rfl rfl (Nat.le_of_ble_eq_true rfl) rfl ?_
        dsimp only [List.set]
        refine R_aload_n (q := 75) rfl rfl rfl ?_
        refine R_getf (q := 78) rfl rfl rfl md_73 rfl ?_
        refine R_sipush (q := 81) (v := nI 256) rfl rfl (by decide) ?_
        refine R_iload_n (q := 82) rfl rfl rfl ?_
        refine R_imul (q := 83) rfl rfl ?_
        rw [pk_mul]
        refine R_iload (q := 85) rfl rfl rfl ?_
        refine R_iadd (q := 86) rfl rfl ?_
        rw [nI_add]
        refine R_iload (q := 88) rfl rfl rfl ?_
        refine R_if_ne (q := 91) (t := 109) rfl rfl rfl (fun h88 => ?_) (fun h88 => absurd h88 (by decide))
        refine R_iload (q := 111) rfl rfl rfl ?_
        refine R_iconst (q := 112) (v := nI 1) rfl rfl (by decide) ?_
        refine R_icmp_ne (q := 115) (t := 133) rfl rfl rfl (fun h112 => ?_) (fun h112 => absurd h112 (by decide))
        refine R_iload (q := 135) rfl rfl rfl ?_
        refine R_iconst (q := 136) (v := nI 2) rfl rfl (by decide) ?_
        refine R_icmp_ne (q := 139) (t := 157) rfl rfl rfl (fun h136 => absurd rfl h136) (fun h136 => ?_)
        refine R_iload (q := 141) rfl rfl rfl ?_
        refine R_if_eq (q := 144) (t := 153) rfl rfl rfl (fun h141 => ?_) (fun h141 => ?_)
        · refine R_iconst (q := 154) (v := nI 0) rfl rfl (by decide) ?_
          refine R_goto (t := 169) rfl rfl ?_
          refine hst _ _ _ ?_
          show _ = zb (bt (X &&& (Y ^^^ (-1))) b)
          rw [b_and, b_xor, b_m1 b hi16]
          first
            | (rw [zb_eq0.mp h141]; rfl)
            | (rw [zb_ne0.mp h141, zb_ne0.mp h146]; rfl)
            | (rw [zb_ne0.mp h141, zb_eq0.mp h146]; rfl)
        · refine R_iload (q := 146) rfl rfl rfl ?_
          refine R_if_ne (q := 149) (t := 153) rfl rfl rfl (fun h146 => ?_) (fun h146 => ?_)
          · refine R_iconst (q := 154) (v := nI 0) rfl rfl (by decide) ?_
            refine R_goto (t := 169) rfl rfl ?_
            refine hst _ _ _ ?_
            show _ = zb (bt (X &&& (Y ^^^ (-1))) b)
            rw [b_and, b_xor, b_m1 b hi16]
            first
              | (rw [zb_eq0.mp h141]; rfl)
              | (rw [zb_ne0.mp h141, zb_ne0.mp h146]; rfl)
              | (rw [zb_ne0.mp h141, zb_eq0.mp h146]; rfl)
          · refine R_iconst (q := 150) (v := nI 1) rfl rfl (by decide) ?_
            refine R_goto (t := 169) rfl rfl ?_
            refine hst _ _ _ ?_
            show _ = zb (bt (X &&& (Y ^^^ (-1))) b)
            rw [b_and, b_xor, b_m1 b hi16]
            first
              | (rw [zb_eq0.mp h141]; rfl)
              | (rw [zb_ne0.mp h141, zb_ne0.mp h146]; rfl)
              | (rw [zb_ne0.mp h141, zb_eq0.mp h146]; rfl)
      | 3, _ =>
        refine R_iload (q := 38) rfl rfl rfl ?_
        refine R_sipush (q := 41) (v := nI 256) rfl rfl (by decide) ?_
        refine R_icmp_ge (q := 44) (t := 176) rfl rfl rfl (fun h41 => absurd h41 (nI_ge (by omega) (by omega))) (fun h41 => ?_)
        refine R_aload_n (q := 45) rfl rfl rfl ?_
        refine R_getf (q := 48) rfl rfl rfl md_73 rfl ?_
        refine R_sipush (q := 51) (v := nI 256) rfl rfl (by decide) ?_
        refine R_iload_n (q := 52) rfl rfl rfl ?_
        refine R_imul (q := 53) rfl rfl ?_
        rw [pk_mul]
        refine R_iload (q := 55) rfl rfl rfl ?_
        refine R_iadd (q := 56) rfl rfl ?_
        rw [nI_add]
        refine R_baload (q := 57) rfl rfl md_74 (by decide) (by first | assumption | exact in_nI (by omega) (by decide)) ?_
        rw [cl_nI (by omega)]
        rw [upa_e, e2]
        refine R_istore (q := 59) rfl rfl (Nat.le_of_ble_eq_true rfl) rfl ?_
        dsimp only [List.set]
        refine R_aload_n (q := 60) rfl rfl rfl ?_
        refine R_getf (q := 63) rfl rfl rfl md_73 rfl ?_
        refine R_sipush (q := 66) (v := nI 256) rfl rfl (by decide) ?_
        refine R_iload_n (q := 67) rfl rfl rfl ?_
        refine R_imul (q := 68) rfl rfl ?_
        rw [pk_mul]
        refine R_iload (q := 70) rfl rfl rfl ?_
        refine R_iadd (q := 71) rfl rfl ?_
        rw [nI_add]
        refine R_baload (q := 72) rfl rfl md_74 (by decide) (by first | assumption | exact in_nI (by omega) (by decide)) ?_
        rw [cl_nI (by omega)]
        rw [upa_e, e3]
        refine R_istore (q := 74) rfl rfl (Nat.le_of_ble_eq_true rfl) rfl ?_
        dsimp only [List.set]
        refine R_aload_n (q := 75) rfl rfl rfl ?_
        refine R_getf (q := 78) rfl rfl rfl md_73 rfl ?_
        refine R_sipush (q := 81) (v := nI 256) rfl rfl (by decide) ?_
        refine R_iload_n (q := 82) rfl rfl rfl ?_
        refine R_imul (q := 83) rfl rfl ?_
        rw [pk_mul]
        refine R_iload (q := 85) rfl rfl rfl ?_
        refine R_iadd (q := 86) rfl rfl ?_
        rw [nI_add]
        refine R_iload (q := 88) rfl rfl rfl ?_
        refine R_if_ne (q := 91) (t := 109) rfl rfl rfl (fun h88 => ?_) (fun h88 => absurd h88 (by decide))
        refine R_iload (q := 111) rfl rfl rfl ?_
        refine R_iconst (q := 112) (v := nI 1) rfl rfl (by decide) ?_
        refine R_icmp_ne (q := 115) (t := 133) rfl rfl rfl (fun h112 => ?_) (fun h112 => absurd h112 (by decide))
        refine R_iload (q := 135) rfl rfl rfl ?_
        refine R_iconst (q := 136) (v := nI 2) rfl rfl (by decide) ?_
        refine R_icmp_ne (q := 139) (t := 157) rfl rfl rfl (fun h136 => ?_) (fun h136 => absurd h136 (by decide))
        refine R_iload (q := 159) rfl rfl rfl ?_
        refine R_iload (q := 161) rfl rfl rfl ?_
        refine R_icmp_eq (q := 164) (t := 168) rfl rfl rfl (fun h161 => ?_) (fun h161 => ?_)
        · refine R_iconst (q := 169) (v := nI 0) rfl rfl (by decide) ?_
          refine hst _ _ _ ?_
          show _ = zb (bt (X ^^^ Y) b)
          rw [b_xor]
          first
            | (rw [zb_inj.mp h161]; cases bt Y b <;> rfl)
            | (revert h161; cases bt X b <;> cases bt Y b <;> intro h161 <;> first | rfl | exact absurd rfl h161)
        · refine R_iconst (q := 165) (v := nI 1) rfl rfl (by decide) ?_
          refine R_goto (t := 169) rfl rfl ?_
          refine hst _ _ _ ?_
          show _ = zb (bt (X ^^^ Y) b)
          rw [b_xor]
          first
            | (rw [zb_inj.mp h161]; cases bt Y b <;> rfl)
            | (revert h161; cases bt X b <;> cases bt Y b <;> intro h161 <;> first | rfl | exact absurd rfl h161)
  refine R_iload_n (q := 1) rfl rfl rfl ?_
  refine R_calls1 (q := 4) rfl rfl rfl rfl (Nat.le_of_ble_eq_true rfl) rfl ?_
  refine R_mono (m148) (fun v1 M1 hr1 => ?_)
  obtain ⟨rfl, hm1⟩ := hr1
  rw [hm1]
  dsimp only [Option.toList, List.cons_append, List.nil_append]
  refine R_if_eq (q := 7) (t := 31) rfl rfl rfl (fun h4 => ?_) (fun h4 => ?_)
  · refine R_iconst (q := 32) (v := nI 0) rfl rfl (by decide) ?_
    refine R_zreturn rfl rfl (by first | exact Or.inl rfl | exact Or.inr rfl | assumption) ?_
    first
      | exact ⟨FM_md, Or.inr ⟨(fun hP => absurd hP.1.1 (of_decide_eq_false (zb_eq0.mp h4))), rfl, MI_md h⟩⟩
      | exact ⟨FM_md, Or.inr ⟨(fun hP => absurd hP.1.2.1 (of_decide_eq_false (zb_eq0.mp h11))), rfl, MI_md h⟩⟩
      | exact ⟨FM_md, Or.inr ⟨(fun hP => absurd hP.1.2.2 (of_decide_eq_false (zb_eq0.mp h18))), rfl, MI_md h⟩⟩
      | exact ⟨FM_md, Or.inr ⟨(fun hP => of_decide_eq_false (zb_eq0.mp h28) (by have q1 := hP.2; rw [ik_0, ik_3]; omega)), rfl, MI_md h⟩⟩
  · refine R_iload_n (q := 8) rfl rfl rfl ?_
    refine R_calls1 (q := 11) rfl rfl rfl rfl (Nat.le_of_ble_eq_true rfl) rfl ?_
    refine R_mono (m148) (fun v8 M8 hr8 => ?_)
    obtain ⟨rfl, hm8⟩ := hr8
    rw [hm8]
    dsimp only [Option.toList, List.cons_append, List.nil_append]
    refine R_if_eq (q := 14) (t := 31) rfl rfl rfl (fun h11 => ?_) (fun h11 => ?_)
    · refine R_iconst (q := 32) (v := nI 0) rfl rfl (by decide) ?_
      refine R_zreturn rfl rfl (by first | exact Or.inl rfl | exact Or.inr rfl | assumption) ?_
      first
        | exact ⟨FM_md, Or.inr ⟨(fun hP => absurd hP.1.1 (of_decide_eq_false (zb_eq0.mp h4))), rfl, MI_md h⟩⟩
        | exact ⟨FM_md, Or.inr ⟨(fun hP => absurd hP.1.2.1 (of_decide_eq_false (zb_eq0.mp h11))), rfl, MI_md h⟩⟩
        | exact ⟨FM_md, Or.inr ⟨(fun hP => absurd hP.1.2.2 (of_decide_eq_false (zb_eq0.mp h18))), rfl, MI_md h⟩⟩
        | exact ⟨FM_md, Or.inr ⟨(fun hP => of_decide_eq_false (zb_eq0.mp h28) (by have q1 := hP.2; rw [ik_0, ik_3]; omega)), rfl, MI_md h⟩⟩
    · refine R_iload_n (q := 15) rfl rfl rfl ?_
      refine R_calls1 (q := 18) rfl rfl rfl rfl (Nat.le_of_ble_eq_true rfl) rfl ?_
      refine R_mono (m148) (fun v15 M15 hr15 => ?_)
      obtain ⟨rfl, hm15⟩ := hr15
      rw [hm15]
      dsimp only [Option.toList, List.cons_append, List.nil_append]
      refine R_if_eq (q := 21) (t := 31) rfl rfl rfl (fun h18 => ?_) (fun h18 => ?_)
      · refine R_iconst (q := 32) (v := nI 0) rfl rfl (by decide) ?_
        refine R_zreturn rfl rfl (by first | exact Or.inl rfl | exact Or.inr rfl | assumption) ?_
        first
          | exact ⟨FM_md, Or.inr ⟨(fun hP => absurd hP.1.1 (of_decide_eq_false (zb_eq0.mp h4))), rfl, MI_md h⟩⟩
          | exact ⟨FM_md, Or.inr ⟨(fun hP => absurd hP.1.2.1 (of_decide_eq_false (zb_eq0.mp h11))), rfl, MI_md h⟩⟩
          | exact ⟨FM_md, Or.inr ⟨(fun hP => absurd hP.1.2.2 (of_decide_eq_false (zb_eq0.mp h18))), rfl, MI_md h⟩⟩
          | exact ⟨FM_md, Or.inr ⟨(fun hP => of_decide_eq_false (zb_eq0.mp h28) (by have q1 := hP.2; rw [ik_0, ik_3]; omega)), rfl, MI_md h⟩⟩
      · refine R_iload (q := 23) rfl rfl rfl ?_
        refine R_iconst (q := 24) (v := nI 0) rfl rfl (by decide) ?_
        refine R_iconst (q := 25) (v := nI 3) rfl rfl (by decide) ?_
        refine R_calls3 (q := 28) rfl rfl rfl rfl (Nat.le_of_ble_eq_true rfl) rfl ?_
        refine R_mono (m147) (fun v25 M25 hr25 => ?_)
        obtain ⟨rfl, hm25⟩ := hr25
        rw [hm25]
        dsimp only [Option.toList, List.cons_append, List.nil_append]
        refine R_if_ne (q := 31) (t := 33) rfl rfl rfl (fun h28 => ?_) (fun h28 => ?_)
        · have hP : (shp t ∧ shp a ∧ shp b) ∧ btw kk 0 3 := by
            have g := of_decide_eq_true (zb_ne0.mp h28)
            rw [ik_0, ik_3] at g
            exact ⟨⟨of_decide_eq_true (zb_ne0.mp h4), of_decide_eq_true (zb_ne0.mp h11), of_decide_eq_true (zb_ne0.mp h18)⟩, g⟩
          obtain ⟨k, hk, rfl⟩ := i_ix (a := t) 6 (by decide) hP.1.1.1 hP.1.1.2
          obtain ⟨k2, hk2, rfl⟩ := i_ix (a := a) 6 (by decide) hP.1.2.1.1 hP.1.2.1.2
          obtain ⟨k3, hk3, rfl⟩ := i_ix (a := b) 6 (by decide) hP.1.2.2.1 hP.1.2.2.2
          obtain ⟨k4, hk4, rfl⟩ := i_ix (a := kk) 4 (by decide) hP.2.1 (by have := hP.2.2; omega)
          rw [show sn (nI k) = k from cl_nI (by omega), show sn (nI k2) = k2 from cl_nI (by omega), show sn (nI k3) = k3 from cl_nI (by omega), show sn (nI k4) = k4 from cl_nI (by omega)]
          refine R_iconst (q := 34) (v := nI 0) rfl rfl (by decide) ?_
          refine R_istore (q := 36) rfl rfl (Nat.le_of_ble_eq_true rfl) rfl ?_
          dsimp only [List.set]
          have h0 := hl k k2 k3 k4 hk hk2 hk3 hk4 256 0 none none (by omega)
          rw [show 256 * k + 0 = 256 * k from rfl, ifr_0, upa_s] at h0
          refine R_mono h0 (fun v M' hr => ?_)
          obtain ⟨rfl, rfl⟩ := hr
          refine ⟨FM_md, Or.inl ⟨hP, rfl, MI_md ⟨CR_loop r1 hk (fun y x hy hx => ?_), r2, r3, r4, r5, r6, r7, r8⟩⟩⟩
          rw [ifl_lt hy]
          unfold jgf
          rw [show (256 * k + 16 * y + x - 256 * k) / 16 = y by omega, show (256 * k + 16 * y + x - 256 * k) % 16 = x by omega]
        · refine R_iconst (q := 32) (v := nI 0) rfl rfl (by decide) ?_
          refine R_zreturn rfl rfl (by first | exact Or.inl rfl | exact Or.inr rfl | assumption) ?_
          first
            | exact ⟨FM_md, Or.inr ⟨(fun hP => absurd hP.1.1 (of_decide_eq_false (zb_eq0.mp h4))), rfl, MI_md h⟩⟩
            | exact ⟨FM_md, Or.inr ⟨(fun hP => absurd hP.1.2.1 (of_decide_eq_false (zb_eq0.mp h11))), rfl, MI_md h⟩⟩
            | exact ⟨FM_md, Or.inr ⟨(fun hP => absurd hP.1.2.2 (of_decide_eq_false (zb_eq0.mp h18))), rfl, MI_md h⟩⟩
            | exact ⟨FM_md, Or.inr ⟨(fun hP => of_decide_eq_false (zb_eq0.mp h28) (by have q1 := hP.2; rw [ik_0, ik_3]; omega)), rfl, MI_md h⟩⟩
end P45
