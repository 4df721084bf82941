/-! ===== a new reference; the law's own run ===== -/
def A0 : AS := fun k => if k = 94 then trn else fun _ => 0
theorem trn_up : ∀ i, i < 32 → (upd (upd (upd (upd (upd (upd (upd (upd (upd (upd (upd (upd (upd (upd (upd (upd (upd (upd (upd (upd (upd (upd (upd (upd (upd (upd (upd (upd (upd (upd (upd (upd (fun _ => 0) 0 (nI 1)) 1 (nI 0)) 2 (nI 0)) 3 (nI 1)) 4 (nI 0)) 5 ((-1))) 6 (nI 1)) 7 (nI 0)) 8 ((-1))) 9 (nI 0)) 10 (nI 0)) 11 ((-1))) 12 (nI 0)) 13 (nI 1)) 14 ((-1))) 15 (nI 0)) 16 ((-1))) 17 (nI 0)) 18 (nI 0)) 19 (nI 1)) 20 (nI 0)) 21 ((-1))) 22 ((-1))) 23 (nI 0)) 24 (nI 1)) 25 (nI 0)) 26 (nI 0)) 27 ((-1))) 28 (nI 0)) 29 (nI 1)) 30 (nI 1)) 31 (nI 0) : Nat → Int32) i = trn i := by decide +kernel
section P73
variable {S : mm_S} {d : Nat} {M : mm_M}
theorem i_ref {w : Nat} (ha : M.1 73 = some (.inr (12, mm_df 12))) (hm : M.2 = (74, w)) : mm_R S (d + 1) 146 0 (mm_en 146 [.ref 73]) [] M (fun v M' => v = none ∧ M'.2 = (111, w + 12553) ∧ (∀ k, k < 73 → M'.1 k = M.1 k) ∧ MI M' (fun _ _ => 0) (0, fun _ => 0, fun _ => 0) (fun _ => 0, fun _ => 0, fun _ _ => 0, fun _ _ => 0, fun _ => 0) (0, fun _ => 0) (0, fun _ => 0) (0, fun _ => 0)) := by
  refine R_mono (i146 ha hm (by decide)) (fun v M' hr => ?_)
  obtain ⟨rfl, hm', hf, ho, c0, c1, c2, c3, c4, c5, c6, c7, c8, c9, c10, c11, c12, c13, c14, c15, c16, c17, c18, c19, c20, c21, c22, c23, c24, c25, c26, c27, c28, c29, c30, c31, c32, c33, c34, c35, c36⟩ := hr
  refine ⟨rfl, hm', fun k hk => hf k (by omega) (by omega), fun k => if k = 94 then (upd (upd (upd (upd (upd (upd (upd (upd (upd (upd (upd (upd (upd (upd (upd (upd (upd (upd (upd (upd (upd (upd (upd (upd (upd (upd (upd (upd (upd (upd (upd (upd (fun _ => 0) 0 (nI 1)) 1 (nI 0)) 2 (nI 0)) 3 (nI 1)) 4 (nI 0)) 5 ((-1))) 6 (nI 1)) 7 (nI 0)) 8 ((-1))) 9 (nI 0)) 10 (nI 0)) 11 ((-1))) 12 (nI 0)) 13 (nI 1)) 14 ((-1))) 15 (nI 0)) 16 ((-1))) 17 (nI 0)) 18 (nI 0)) 19 (nI 1)) 20 (nI 0)) 21 ((-1))) 22 ((-1))) 23 (nI 0)) 24 (nI 1)) 25 (nI 0)) 26 (nI 0)) 27 ((-1))) 28 (nI 0)) 29 (nI 1)) 30 (nI 1)) 31 (nI 0)) else fun _ => 0, fun _ => 0, md_self ho (fun k h1 h2 => ?_), ⟨fun s y x _ _ _ => ?_, ⟨rfl, fun i hi => absurd hi (Nat.not_lt_zero _)⟩, fun c hc => ⟨⟨rfl, rfl⟩, fun k hk => absurd hk (Nat.not_lt_zero _), fun k hk => absurd hk (Nat.not_lt_zero _)⟩, ⟨⟨rfl, rfl, rfl⟩, rfl, rfl⟩, ⟨rfl, fun k g hk => absurd hk (Nat.not_lt_zero _)⟩, ⟨rfl, fun k g hk => absurd hk (Nat.not_lt_zero _)⟩, ⟨rfl, fun k hk => absurd hk (Nat.not_lt_zero _)⟩, fun i hi => trn_up i hi⟩⟩
  · have hk : k = 74 ∨ k = 75 ∨ k = 76 ∨ k = 77 ∨ k = 78 ∨ k = 79 ∨ k = 80 ∨ k = 81 ∨ k = 82 ∨ k = 83 ∨ k = 84 ∨ k = 85 ∨ k = 86 ∨ k = 87 ∨ k = 88 ∨ k = 89 ∨ k = 90 ∨ k = 91 ∨ k = 92 ∨ k = 93 ∨ k = 94 ∨ k = 95 ∨ k = 96 ∨ k = 97 ∨ k = 98 ∨ k = 99 ∨ k = 100 ∨ k = 101 ∨ k = 102 ∨ k = 103 ∨ k = 104 ∨ k = 105 ∨ k = 106 ∨ k = 107 ∨ k = 108 ∨ k = 109 ∨ k = 110 := by omega
    rcases hk with rfl | rfl | rfl | rfl | rfl | rfl | rfl | rfl | rfl | rfl | rfl | rfl | rfl | rfl | rfl | rfl | rfl | rfl | rfl | rfl | rfl | rfl | rfl | rfl | rfl | rfl | rfl | rfl | rfl | rfl | rfl | rfl | rfl | rfl | rfl | rfl | rfl
    · exact c0
    · exact c1
    · exact c2
    · exact c3
    · exact c4
    · exact c5
    · exact c6
    · exact c7
    · exact c8
    · exact c9
    · exact c10
    · exact c11
    · exact c12
    · exact c13
    · exact c14
    · exact c15
    · exact c16
    · exact c17
    · exact c18
    · exact c19
    · exact c20
    · exact c21
    · exact c22
    · exact c23
    · exact c24
    · exact c25
    · exact c26
    · exact c27
    · exact c28
    · exact c29
    · exact c30
    · exact c31
    · exact c32
    · exact c33
    · exact c34
    · exact c35
    · exact c36
  · show (0 : Int32) = zb (bt 0 x)
    rw [b_0]
    rfl
theorem CI_m2 {M M' : mm_M} {sh : Nat → Nat → Int32} {o : OS} {l : LYS} {pi fa tp : IS} (h : CI M sh o l pi fa tp) (g : M'.1 = M.1) : CI M' sh o l pi fa tp := by
  obtain ⟨m, z⟩ := M
  obtain ⟨m', z'⟩ := M'
  have g : m' = m := g
  subst g
  exact h
def ST (M : mm_M) : Prop := ∃ sh o l pi fa tp, CI M sh o l pi fa tp ∧ MI M sh o l pi fa tp ∧ PV pi
theorem PV_0 : PV (0, fun _ => 0) := ⟨⟨Nat.zero_le _, fun i g hi => absurd hi (Nat.not_lt_zero _), fun i hi => absurd hi (Nat.not_lt_zero _)⟩, fun i j _ hj => absurd hj (Nat.not_lt_zero _)⟩
theorem pr2 {M1 M2 : mm_M} {A : AS} {I : Nat → Int32} {x : Int32} {v2 va vb : Option Value} {P : Prop} {s1 s0 : Nat → Nat → Int32} {o1 o0 : OS} {l1 l0 : LYS} {pi f1 f0 t1 t0 : IS} (hmd : mdm M1 A I = M1) (hF : FM (mdm M1 A I) M2) (hpv : PV pi) (h1 : (P ∧ some (.int x) = va ∧ CI M1 s1 o1 l1 pi f1 t1) ∨ (¬ P ∧ some (.int x) = vb ∧ CI M1 s0 o0 l0 pi f0 t0)) (h2 : (P ∧ v2 = va ∧ MI M2 s1 o1 l1 pi f1 t1) ∨ (¬ P ∧ v2 = vb ∧ MI M2 s0 o0 l0 pi f0 t0)) : v2 = some (.int x) ∧ ST M2 := by
  rw [hmd] at hF
  rcases h1 with ⟨a1, a2, a3⟩ | ⟨a1, a2, a3⟩
  · rcases h2 with ⟨b1, b2, b3⟩ | ⟨b1, b2, b3⟩
    · exact ⟨b2.trans a2.symm, _, _, _, _, _, _, CI_FM a3 hF, b3, hpv⟩
    · exact absurd a1 b1
  · rcases h2 with ⟨b1, b2, b3⟩ | ⟨b1, b2, b3⟩
    · exact absurd b1 a1
    · exact ⟨b2.trans a2.symm, _, _, _, _, _, _, CI_FM a3 hF, b3, hpv⟩
theorem or_v {v va vb : Option Value} {x y : Int32} {P Q A B : Prop} (h : (P ∧ v = va ∧ A) ∨ (Q ∧ v = vb ∧ B)) (ha : va = some (.int x)) (hb : vb = some (.int y)) : ∃ z, v = some (.int z) := by
  rcases h with ⟨-, h, -⟩ | ⟨-, h, -⟩
  · exact ⟨x, h.trans ha⟩
  · exact ⟨y, h.trans hb⟩
theorem and31 (x : Int32) : ∃ n, n < 32 ∧ x &&& nI 31 = nI n := by
  have h1 : (x &&& nI 31).toBitVec.toNat ≤ 31 := by
    rw [Int32.toBitVec_and, BitVec.toNat_and, show (nI 31).toBitVec.toNat = 31 from rfl]
    exact Nat.and_le_right
  refine ⟨(x &&& nI 31).toBitVec.toNat, by omega, ?_⟩
  apply b_ext
  intro i hi
  rw [bt_nI hi]
  rfl

set_option maxRecDepth 100000 in
theorem law_lp {Lx w0 : Nat} {xs : Nat → Int32} (hL : Lx ≤ 3072) : ∀ (j i : Nat) (M : mm_M), Lx ≤ i + 6 * j → i ≤ 3072 + 6 → ST M → M.2 = (111, w0) → mm_R (Lx, xs) (d + 20) 0 18 [some (.ref 0), some (.ref 1), some (.ref 73), some (.int (nI i))] [] M (fun v M' => v = some (.int 1) ∧ M'.2 = (111, w0)) := by
  intro j
  have hsub : (Int32.ofNat Lx - nI 6).toInt = (Lx : Int) - 6 := pk_sub_toInt (a := Lx) (b := 6) (by omega) (by omega)
  have hex : ∀ (i : Nat) (M : mm_M), i ≤ 3072 + 6 → Lx < i + 6 → M.2 = (111, w0) → mm_R (Lx, xs) (d + 20) 0 18 [some (.ref 0), some (.ref 1), some (.ref 73), some (.int (nI i))] [] M (fun v M' => v = some (.int 1) ∧ M'.2 = (111, w0)) := by
    intro i M hi hlt hm
    refine R_iload_n (q := 19) rfl rfl rfl ?_
    refine R_aload_n (q := 20) rfl rfl rfl ?_
    refine R_slen (q := 21) rfl rfl ?_
    refine R_bipush (q := 23) (v := nI 6) rfl rfl (by decide) ?_
    refine R_isub (q := 24) rfl rfl ?_
    refine R_icmp_gt (q := 27) (t := 884) rfl rfl rfl (fun h24 => ?_) (fun h24 => absurd (by show (Int32.ofNat Lx - nI 6) < nI i; rw [i_lt, hsub, i_n _ (by omega)]; omega) h24)
    refine R_iconst (q := 885) (v := nI 1) rfl rfl (by decide) ?_
    refine R_zreturn rfl rfl (by first | exact Or.inl rfl | exact Or.inr rfl | assumption) ?_
    exact ⟨rfl, hm⟩
  induction j with
  | zero => intro i M h1 h2 _ hm; exact hex i M h2 (by omega) hm
  | succ j ih =>
    intro i M h1 h2 hST hm
    by_cases hi6 : Lx < i + 6
    case pos => exact hex i M h2 hi6 hm
    case neg =>
      have hnext : ∀ M', ST M' → M'.2 = (111, w0) → mm_R (Lx, xs) (d + 20) 0 878 [some (.ref 0), some (.ref 1), some (.ref 73), some (.int (nI i))] [] M' (fun v M' => v = some (.int 1) ∧ M'.2 = (111, w0)) := by
        intro M' hs hm' 
        refine R_iinc (q := 881) rfl rfl rfl (nI_add i 6) rfl ?_
        dsimp only [List.set]
        refine R_goto (t := 18) rfl rfl ?_
        exact ih (i + 6) M' (by omega) (by omega) hs hm'
      obtain ⟨sh, o, l, pi, fa, tp, hCI, hMI, hpv⟩ := hST
      obtain ⟨hq1, -⟩ := ci_0 hCI
      have hVS := CI_VS hCI
      obtain ⟨A0, I0, hmd0, hMR0⟩ := id hMI
      have hop0 : mm_R (Lx, xs) (d + 20) 0 128 [some (.ref 0), some (.ref 1), some (.ref 73), some (.int (nI i))] [] M (fun v M' => v = some (.int 1) ∧ M'.2 = (111, w0)) := by
        refine R_aload_n (q := 129) rfl rfl rfl ?_
        refine R_aload_n (q := 130) rfl rfl rfl ?_
        refine R_iload_n (q := 131) rfl rfl rfl ?_
        refine R_iconst (q := 132) (v := nI 1) rfl rfl (by decide) ?_
        refine R_iadd (q := 133) rfl rfl ?_
        rw [nI_add]
        refine R_sld (q := 134) rfl rfl (show vp_in _ Lx from in_nI (by omega) (by omega)) ?_
        rw [cl_nI (by omega)]
        refine R_aload_n (q := 135) rfl rfl rfl ?_
        refine R_iload_n (q := 136) rfl rfl rfl ?_
        refine R_iconst (q := 137) (v := nI 2) rfl rfl (by decide) ?_
        refine R_iadd (q := 138) rfl rfl ?_
        rw [nI_add]
        refine R_sld (q := 139) rfl rfl (show vp_in _ Lx from in_nI (by omega) (by omega)) ?_
        rw [cl_nI (by omega)]
        refine R_aload_n (q := 140) rfl rfl rfl ?_
        refine R_iload_n (q := 141) rfl rfl rfl ?_
        refine R_iconst (q := 142) (v := nI 3) rfl rfl (by decide) ?_
        refine R_iadd (q := 143) rfl rfl ?_
        rw [nI_add]
        refine R_sld (q := 144) rfl rfl (show vp_in _ Lx from in_nI (by omega) (by omega)) ?_
        rw [cl_nI (by omega)]
        refine R_aload_n (q := 145) rfl rfl rfl ?_
        refine R_iload_n (q := 146) rfl rfl rfl ?_
        refine R_iconst (q := 147) (v := nI 4) rfl rfl (by decide) ?_
        refine R_iadd (q := 148) rfl rfl ?_
        rw [nI_add]
        refine R_sld (q := 149) rfl rfl (show vp_in _ Lx from in_nI (by omega) (by omega)) ?_
        rw [cl_nI (by omega)]
        refine R_aload_n (q := 150) rfl rfl rfl ?_
        refine R_iload_n (q := 151) rfl rfl rfl ?_
        refine R_iconst (q := 152) (v := nI 5) rfl rfl (by decide) ?_
        refine R_iadd (q := 153) rfl rfl ?_
        rw [nI_add]
        refine R_sld (q := 154) rfl rfl (show vp_in _ Lx from in_nI (by omega) (by omega)) ?_
        rw [cl_nI (by omega)]
        refine R_callv5 (q := 157) rfl rfl rfl rfl hq1 (Nat.le_of_ble_eq_true rfl) rfl ?_
        refine R_mono (c119 hCI) (fun v154 M154 hr154 => ?_)
        obtain ⟨hFR, hy⟩ := hr154
        obtain ⟨x1, rfl⟩ := or_v hy rfl rfl
        dsimp only [Option.toList, List.cons_append, List.nil_append]
        have hMI1 := MI_FR hMI hFR
        obtain ⟨A, I, hmd, hMR⟩ := id hMI1
        rw [← hmd]
        refine R_aload_n (q := 158) rfl rfl rfl ?_
        refine R_aload_n (q := 159) rfl rfl rfl ?_
        refine R_iload_n (q := 160) rfl rfl rfl ?_
        refine R_iconst (q := 161) (v := nI 1) rfl rfl (by decide) ?_
        refine R_iadd (q := 162) rfl rfl ?_
        rw [nI_add]
        refine R_sld (q := 163) rfl rfl (show vp_in _ Lx from in_nI (by omega) (by omega)) ?_
        rw [cl_nI (by omega)]
        refine R_aload_n (q := 164) rfl rfl rfl ?_
        refine R_iload_n (q := 165) rfl rfl rfl ?_
        refine R_iconst (q := 166) (v := nI 2) rfl rfl (by decide) ?_
        refine R_iadd (q := 167) rfl rfl ?_
        rw [nI_add]
        refine R_sld (q := 168) rfl rfl (show vp_in _ Lx from in_nI (by omega) (by omega)) ?_
        rw [cl_nI (by omega)]
        refine R_aload_n (q := 169) rfl rfl rfl ?_
        refine R_iload_n (q := 170) rfl rfl rfl ?_
        refine R_iconst (q := 171) (v := nI 3) rfl rfl (by decide) ?_
        refine R_iadd (q := 172) rfl rfl ?_
        rw [nI_add]
        refine R_sld (q := 173) rfl rfl (show vp_in _ Lx from in_nI (by omega) (by omega)) ?_
        rw [cl_nI (by omega)]
        refine R_aload_n (q := 174) rfl rfl rfl ?_
        refine R_iload_n (q := 175) rfl rfl rfl ?_
        refine R_iconst (q := 176) (v := nI 4) rfl rfl (by decide) ?_
        refine R_iadd (q := 177) rfl rfl ?_
        rw [nI_add]
        refine R_sld (q := 178) rfl rfl (show vp_in _ Lx from in_nI (by omega) (by omega)) ?_
        rw [cl_nI (by omega)]
        refine R_aload_n (q := 179) rfl rfl rfl ?_
        refine R_iload_n (q := 180) rfl rfl rfl ?_
        refine R_iconst (q := 181) (v := nI 5) rfl rfl (by decide) ?_
        refine R_iadd (q := 182) rfl rfl ?_
        rw [nI_add]
        refine R_sld (q := 183) rfl rfl (show vp_in _ Lx from in_nI (by omega) (by omega)) ?_
        rw [cl_nI (by omega)]
        refine R_callv5 (q := 186) rfl rfl rfl rfl md_73 (Nat.le_of_ble_eq_true rfl) rfl ?_
        refine R_mono (m152 hVS hMR) (fun v183 M183 hr183 => ?_)
        obtain ⟨hF2, hy2⟩ := hr183
        obtain ⟨rfl, hst⟩ := pr2 hmd hF2 hpv hy hy2
        dsimp only [Option.toList, List.cons_append, List.nil_append]
        refine R_icmp_eq (q := 189) (t := 878) rfl rfl rfl (fun h186 => ?_) (fun h186 => absurd rfl h186)
        exact hnext _ hst (hF2.1.trans ((congrArg Prod.snd hmd).trans (hFR.1.trans hm)))
      have hop1 : mm_R (Lx, xs) (d + 20) 0 191 [some (.ref 0), some (.ref 1), some (.ref 73), some (.int (nI i))] [] M (fun v M' => v = some (.int 1) ∧ M'.2 = (111, w0)) := by
        refine R_aload_n (q := 192) rfl rfl rfl ?_
        refine R_aload_n (q := 193) rfl rfl rfl ?_
        refine R_iload_n (q := 194) rfl rfl rfl ?_
        refine R_iconst (q := 195) (v := nI 1) rfl rfl (by decide) ?_
        refine R_iadd (q := 196) rfl rfl ?_
        rw [nI_add]
        refine R_sld (q := 197) rfl rfl (show vp_in _ Lx from in_nI (by omega) (by omega)) ?_
        rw [cl_nI (by omega)]
        refine R_aload_n (q := 198) rfl rfl rfl ?_
        refine R_iload_n (q := 199) rfl rfl rfl ?_
        refine R_iconst (q := 200) (v := nI 2) rfl rfl (by decide) ?_
        refine R_iadd (q := 201) rfl rfl ?_
        rw [nI_add]
        refine R_sld (q := 202) rfl rfl (show vp_in _ Lx from in_nI (by omega) (by omega)) ?_
        rw [cl_nI (by omega)]
        refine R_callv2 (q := 205) rfl rfl rfl rfl hq1 (Nat.le_of_ble_eq_true rfl) rfl ?_
        refine R_mono (c120 hCI) (fun v202 M202 hr202 => ?_)
        obtain ⟨hFR, hy⟩ := hr202
        obtain ⟨x1, rfl⟩ := or_v hy rfl rfl
        dsimp only [Option.toList, List.cons_append, List.nil_append]
        have hMI1 := MI_FR hMI hFR
        obtain ⟨A, I, hmd, hMR⟩ := id hMI1
        rw [← hmd]
        refine R_aload_n (q := 206) rfl rfl rfl ?_
        refine R_aload_n (q := 207) rfl rfl rfl ?_
        refine R_iload_n (q := 208) rfl rfl rfl ?_
        refine R_iconst (q := 209) (v := nI 1) rfl rfl (by decide) ?_
        refine R_iadd (q := 210) rfl rfl ?_
        rw [nI_add]
        refine R_sld (q := 211) rfl rfl (show vp_in _ Lx from in_nI (by omega) (by omega)) ?_
        rw [cl_nI (by omega)]
        refine R_aload_n (q := 212) rfl rfl rfl ?_
        refine R_iload_n (q := 213) rfl rfl rfl ?_
        refine R_iconst (q := 214) (v := nI 2) rfl rfl (by decide) ?_
        refine R_iadd (q := 215) rfl rfl ?_
        rw [nI_add]
        refine R_sld (q := 216) rfl rfl (show vp_in _ Lx from in_nI (by omega) (by omega)) ?_
        rw [cl_nI (by omega)]
        refine R_callv2 (q := 219) rfl rfl rfl rfl md_73 (Nat.le_of_ble_eq_true rfl) rfl ?_
        refine R_mono (m153 hVS hMR) (fun v216 M216 hr216 => ?_)
        obtain ⟨hF2, hy2⟩ := hr216
        obtain ⟨rfl, hst⟩ := pr2 hmd hF2 hpv hy hy2
        dsimp only [Option.toList, List.cons_append, List.nil_append]
        refine R_icmp_eq (q := 222) (t := 878) rfl rfl rfl (fun h219 => ?_) (fun h219 => absurd rfl h219)
        exact hnext _ hst (hF2.1.trans ((congrArg Prod.snd hmd).trans (hFR.1.trans hm)))
      have hop2 : mm_R (Lx, xs) (d + 20) 0 224 [some (.ref 0), some (.ref 1), some (.ref 73), some (.int (nI i))] [] M (fun v M' => v = some (.int 1) ∧ M'.2 = (111, w0)) := by
        refine R_aload_n (q := 225) rfl rfl rfl ?_
        refine R_aload_n (q := 226) rfl rfl rfl ?_
        refine R_iload_n (q := 227) rfl rfl rfl ?_
        refine R_iconst (q := 228) (v := nI 1) rfl rfl (by decide) ?_
        refine R_iadd (q := 229) rfl rfl ?_
        rw [nI_add]
        refine R_sld (q := 230) rfl rfl (show vp_in _ Lx from in_nI (by omega) (by omega)) ?_
        rw [cl_nI (by omega)]
        refine R_callv1 (q := 233) rfl rfl rfl rfl hq1 (Nat.le_of_ble_eq_true rfl) rfl ?_
        refine R_mono (c121 hCI) (fun v230 M230 hr230 => ?_)
        obtain ⟨hFR, hy⟩ := hr230
        obtain ⟨x1, rfl⟩ := or_v hy rfl rfl
        dsimp only [Option.toList, List.cons_append, List.nil_append]
        have hMI1 := MI_FR hMI hFR
        obtain ⟨A, I, hmd, hMR⟩ := id hMI1
        rw [← hmd]
        refine R_aload_n (q := 234) rfl rfl rfl ?_
        refine R_aload_n (q := 235) rfl rfl rfl ?_
        refine R_iload_n (q := 236) rfl rfl rfl ?_
        refine R_iconst (q := 237) (v := nI 1) rfl rfl (by decide) ?_
        refine R_iadd (q := 238) rfl rfl ?_
        rw [nI_add]
        refine R_sld (q := 239) rfl rfl (show vp_in _ Lx from in_nI (by omega) (by omega)) ?_
        rw [cl_nI (by omega)]
        refine R_callv1 (q := 242) rfl rfl rfl rfl md_73 (Nat.le_of_ble_eq_true rfl) rfl ?_
        refine R_mono (m156 hVS hMR) (fun v239 M239 hr239 => ?_)
        obtain ⟨hF2, hy2⟩ := hr239
        obtain ⟨rfl, hst⟩ := pr2 hmd hF2 hpv hy hy2
        dsimp only [Option.toList, List.cons_append, List.nil_append]
        refine R_icmp_eq (q := 245) (t := 878) rfl rfl rfl (fun h242 => ?_) (fun h242 => absurd rfl h242)
        exact hnext _ hst (hF2.1.trans ((congrArg Prod.snd hmd).trans (hFR.1.trans hm)))
      have hop3 : mm_R (Lx, xs) (d + 20) 0 247 [some (.ref 0), some (.ref 1), some (.ref 73), some (.int (nI i))] [] M (fun v M' => v = some (.int 1) ∧ M'.2 = (111, w0)) := by
        refine R_aload_n (q := 248) rfl rfl rfl ?_
        refine R_aload_n (q := 249) rfl rfl rfl ?_
        refine R_iload_n (q := 250) rfl rfl rfl ?_
        refine R_iconst (q := 251) (v := nI 1) rfl rfl (by decide) ?_
        refine R_iadd (q := 252) rfl rfl ?_
        rw [nI_add]
        refine R_sld (q := 253) rfl rfl (show vp_in _ Lx from in_nI (by omega) (by omega)) ?_
        rw [cl_nI (by omega)]
        refine R_aload_n (q := 254) rfl rfl rfl ?_
        refine R_iload_n (q := 255) rfl rfl rfl ?_
        refine R_iconst (q := 256) (v := nI 2) rfl rfl (by decide) ?_
        refine R_iadd (q := 257) rfl rfl ?_
        rw [nI_add]
        refine R_sld (q := 258) rfl rfl (show vp_in _ Lx from in_nI (by omega) (by omega)) ?_
        rw [cl_nI (by omega)]
        refine R_aload_n (q := 259) rfl rfl rfl ?_
        refine R_iload_n (q := 260) rfl rfl rfl ?_
        refine R_iconst (q := 261) (v := nI 3) rfl rfl (by decide) ?_
        refine R_iadd (q := 262) rfl rfl ?_
        rw [nI_add]
        refine R_sld (q := 263) rfl rfl (show vp_in _ Lx from in_nI (by omega) (by omega)) ?_
        rw [cl_nI (by omega)]
        refine R_aload_n (q := 264) rfl rfl rfl ?_
        refine R_iload_n (q := 265) rfl rfl rfl ?_
        refine R_iconst (q := 266) (v := nI 4) rfl rfl (by decide) ?_
        refine R_iadd (q := 267) rfl rfl ?_
        rw [nI_add]
        refine R_sld (q := 268) rfl rfl (show vp_in _ Lx from in_nI (by omega) (by omega)) ?_
        rw [cl_nI (by omega)]
        refine R_callv4 (q := 271) rfl rfl rfl rfl hq1 (Nat.le_of_ble_eq_true rfl) rfl ?_
        refine R_mono (c122 hCI) (fun v268 M268 hr268 => ?_)
        obtain ⟨hFR, hy⟩ := hr268
        obtain ⟨x1, rfl⟩ := or_v hy rfl rfl
        dsimp only [Option.toList, List.cons_append, List.nil_append]
        have hMI1 := MI_FR hMI hFR
        obtain ⟨A, I, hmd, hMR⟩ := id hMI1
        rw [← hmd]
        refine R_aload_n (q := 272) rfl rfl rfl ?_
        refine R_aload_n (q := 273) rfl rfl rfl ?_
        refine R_iload_n (q := 274) rfl rfl rfl ?_
        refine R_iconst (q := 275) (v := nI 1) rfl rfl (by decide) ?_
        refine R_iadd (q := 276) rfl rfl ?_
        rw [nI_add]
        refine R_sld (q := 277) rfl rfl (show vp_in _ Lx from in_nI (by omega) (by omega)) ?_
        rw [cl_nI (by omega)]
        refine R_aload_n (q := 278) rfl rfl rfl ?_
        refine R_iload_n (q := 279) rfl rfl rfl ?_
        refine R_iconst (q := 280) (v := nI 2) rfl rfl (by decide) ?_
        refine R_iadd (q := 281) rfl rfl ?_
        rw [nI_add]
        refine R_sld (q := 282) rfl rfl (show vp_in _ Lx from in_nI (by omega) (by omega)) ?_
        rw [cl_nI (by omega)]
        refine R_aload_n (q := 283) rfl rfl rfl ?_
        refine R_iload_n (q := 284) rfl rfl rfl ?_
        refine R_iconst (q := 285) (v := nI 3) rfl rfl (by decide) ?_
        refine R_iadd (q := 286) rfl rfl ?_
        rw [nI_add]
        refine R_sld (q := 287) rfl rfl (show vp_in _ Lx from in_nI (by omega) (by omega)) ?_
        rw [cl_nI (by omega)]
        refine R_aload_n (q := 288) rfl rfl rfl ?_
        refine R_iload_n (q := 289) rfl rfl rfl ?_
        refine R_iconst (q := 290) (v := nI 4) rfl rfl (by decide) ?_
        refine R_iadd (q := 291) rfl rfl ?_
        rw [nI_add]
        refine R_sld (q := 292) rfl rfl (show vp_in _ Lx from in_nI (by omega) (by omega)) ?_
        rw [cl_nI (by omega)]
        refine R_callv4 (q := 295) rfl rfl rfl rfl md_73 (Nat.le_of_ble_eq_true rfl) rfl ?_
        refine R_mono (m157 hVS hMR) (fun v292 M292 hr292 => ?_)
        obtain ⟨hF2, hy2⟩ := hr292
        obtain ⟨rfl, hst⟩ := pr2 hmd hF2 hpv hy hy2
        dsimp only [Option.toList, List.cons_append, List.nil_append]
        refine R_icmp_eq (q := 298) (t := 878) rfl rfl rfl (fun h295 => ?_) (fun h295 => absurd rfl h295)
        exact hnext _ hst (hF2.1.trans ((congrArg Prod.snd hmd).trans (hFR.1.trans hm)))
      have hop4 : mm_R (Lx, xs) (d + 20) 0 300 [some (.ref 0), some (.ref 1), some (.ref 73), some (.int (nI i))] [] M (fun v M' => v = some (.int 1) ∧ M'.2 = (111, w0)) := by
        refine R_aload_n (q := 301) rfl rfl rfl ?_
        refine R_aload_n (q := 302) rfl rfl rfl ?_
        refine R_iload_n (q := 303) rfl rfl rfl ?_
        refine R_iconst (q := 304) (v := nI 1) rfl rfl (by decide) ?_
        refine R_iadd (q := 305) rfl rfl ?_
        rw [nI_add]
        refine R_sld (q := 306) rfl rfl (show vp_in _ Lx from in_nI (by omega) (by omega)) ?_
        rw [cl_nI (by omega)]
        refine R_aload_n (q := 307) rfl rfl rfl ?_
        refine R_iload_n (q := 308) rfl rfl rfl ?_
        refine R_iconst (q := 309) (v := nI 2) rfl rfl (by decide) ?_
        refine R_iadd (q := 310) rfl rfl ?_
        rw [nI_add]
        refine R_sld (q := 311) rfl rfl (show vp_in _ Lx from in_nI (by omega) (by omega)) ?_
        rw [cl_nI (by omega)]
        refine R_aload_n (q := 312) rfl rfl rfl ?_
        refine R_iload_n (q := 313) rfl rfl rfl ?_
        refine R_iconst (q := 314) (v := nI 3) rfl rfl (by decide) ?_
        refine R_iadd (q := 315) rfl rfl ?_
        rw [nI_add]
        refine R_sld (q := 316) rfl rfl (show vp_in _ Lx from in_nI (by omega) (by omega)) ?_
        rw [cl_nI (by omega)]
        refine R_callv3 (q := 319) rfl rfl rfl rfl hq1 (Nat.le_of_ble_eq_true rfl) rfl ?_
        refine R_mono (c123 hCI) (fun v316 M316 hr316 => ?_)
        obtain ⟨hFR, hy⟩ := hr316
        obtain ⟨x1, rfl⟩ := or_v hy rfl rfl
        dsimp only [Option.toList, List.cons_append, List.nil_append]
        have hMI1 := MI_FR hMI hFR
        obtain ⟨A, I, hmd, hMR⟩ := id hMI1
        rw [← hmd]
        refine R_aload_n (q := 320) rfl rfl rfl ?_
        refine R_aload_n (q := 321) rfl rfl rfl ?_
        refine R_iload_n (q := 322) rfl rfl rfl ?_
        refine R_iconst (q := 323) (v := nI 1) rfl rfl (by decide) ?_
        refine R_iadd (q := 324) rfl rfl ?_
        rw [nI_add]
        refine R_sld (q := 325) rfl rfl (show vp_in _ Lx from in_nI (by omega) (by omega)) ?_
        rw [cl_nI (by omega)]
        refine R_aload_n (q := 326) rfl rfl rfl ?_
        refine R_iload_n (q := 327) rfl rfl rfl ?_
        refine R_iconst (q := 328) (v := nI 2) rfl rfl (by decide) ?_
        refine R_iadd (q := 329) rfl rfl ?_
        rw [nI_add]
        refine R_sld (q := 330) rfl rfl (show vp_in _ Lx from in_nI (by omega) (by omega)) ?_
        rw [cl_nI (by omega)]
        refine R_aload_n (q := 331) rfl rfl rfl ?_
        refine R_iload_n (q := 332) rfl rfl rfl ?_
        refine R_iconst (q := 333) (v := nI 3) rfl rfl (by decide) ?_
        refine R_iadd (q := 334) rfl rfl ?_
        rw [nI_add]
        refine R_sld (q := 335) rfl rfl (show vp_in _ Lx from in_nI (by omega) (by omega)) ?_
        rw [cl_nI (by omega)]
        refine R_callv3 (q := 338) rfl rfl rfl rfl md_73 (Nat.le_of_ble_eq_true rfl) rfl ?_
        refine R_mono (m158 hVS hMR) (fun v335 M335 hr335 => ?_)
        obtain ⟨hF2, hy2⟩ := hr335
        obtain ⟨rfl, hst⟩ := pr2 hmd hF2 hpv hy hy2
        dsimp only [Option.toList, List.cons_append, List.nil_append]
        refine R_icmp_eq (q := 341) (t := 878) rfl rfl rfl (fun h338 => ?_) (fun h338 => absurd rfl h338)
        exact hnext _ hst (hF2.1.trans ((congrArg Prod.snd hmd).trans (hFR.1.trans hm)))
      have hop5 : mm_R (Lx, xs) (d + 20) 0 343 [some (.ref 0), some (.ref 1), some (.ref 73), some (.int (nI i))] [] M (fun v M' => v = some (.int 1) ∧ M'.2 = (111, w0)) := by
        refine R_aload_n (q := 344) rfl rfl rfl ?_
        refine R_aload_n (q := 345) rfl rfl rfl ?_
        refine R_iload_n (q := 346) rfl rfl rfl ?_
        refine R_iconst (q := 347) (v := nI 1) rfl rfl (by decide) ?_
        refine R_iadd (q := 348) rfl rfl ?_
        rw [nI_add]
        refine R_sld (q := 349) rfl rfl (show vp_in _ Lx from in_nI (by omega) (by omega)) ?_
        rw [cl_nI (by omega)]
        refine R_aload_n (q := 350) rfl rfl rfl ?_
        refine R_iload_n (q := 351) rfl rfl rfl ?_
        refine R_iconst (q := 352) (v := nI 2) rfl rfl (by decide) ?_
        refine R_iadd (q := 353) rfl rfl ?_
        rw [nI_add]
        refine R_sld (q := 354) rfl rfl (show vp_in _ Lx from in_nI (by omega) (by omega)) ?_
        rw [cl_nI (by omega)]
        refine R_aload_n (q := 355) rfl rfl rfl ?_
        refine R_iload_n (q := 356) rfl rfl rfl ?_
        refine R_iconst (q := 357) (v := nI 3) rfl rfl (by decide) ?_
        refine R_iadd (q := 358) rfl rfl ?_
        rw [nI_add]
        refine R_sld (q := 359) rfl rfl (show vp_in _ Lx from in_nI (by omega) (by omega)) ?_
        rw [cl_nI (by omega)]
        refine R_aload_n (q := 360) rfl rfl rfl ?_
        refine R_iload_n (q := 361) rfl rfl rfl ?_
        refine R_iconst (q := 362) (v := nI 4) rfl rfl (by decide) ?_
        refine R_iadd (q := 363) rfl rfl ?_
        rw [nI_add]
        refine R_sld (q := 364) rfl rfl (show vp_in _ Lx from in_nI (by omega) (by omega)) ?_
        rw [cl_nI (by omega)]
        refine R_aload_n (q := 365) rfl rfl rfl ?_
        refine R_iload_n (q := 366) rfl rfl rfl ?_
        refine R_iconst (q := 367) (v := nI 5) rfl rfl (by decide) ?_
        refine R_iadd (q := 368) rfl rfl ?_
        rw [nI_add]
        refine R_sld (q := 369) rfl rfl (show vp_in _ Lx from in_nI (by omega) (by omega)) ?_
        rw [cl_nI (by omega)]
        refine R_callv5 (q := 372) rfl rfl rfl rfl hq1 (Nat.le_of_ble_eq_true rfl) rfl ?_
        refine R_mono (c124 hCI) (fun v369 M369 hr369 => ?_)
        obtain ⟨hFR, hy⟩ := hr369
        obtain ⟨x1, rfl⟩ := or_v hy rfl rfl
        dsimp only [Option.toList, List.cons_append, List.nil_append]
        have hMI1 := MI_FR hMI hFR
        obtain ⟨A, I, hmd, hMR⟩ := id hMI1
        rw [← hmd]
        refine R_aload_n (q := 373) rfl rfl rfl ?_
        refine R_aload_n (q := 374) rfl rfl rfl ?_
        refine R_iload_n (q := 375) rfl rfl rfl ?_
        refine R_iconst (q := 376) (v := nI 1) rfl rfl (by decide) ?_
        refine R_iadd (q := 377) rfl rfl ?_
        rw [nI_add]
        refine R_sld (q := 378) rfl rfl (show vp_in _ Lx from in_nI (by omega) (by omega)) ?_
        rw [cl_nI (by omega)]
        refine R_aload_n (q := 379) rfl rfl rfl ?_
        refine R_iload_n (q := 380) rfl rfl rfl ?_
        refine R_iconst (q := 381) (v := nI 2) rfl rfl (by decide) ?_
        refine R_iadd (q := 382) rfl rfl ?_
        rw [nI_add]
        refine R_sld (q := 383) rfl rfl (show vp_in _ Lx from in_nI (by omega) (by omega)) ?_
        rw [cl_nI (by omega)]
        refine R_aload_n (q := 384) rfl rfl rfl ?_
        refine R_iload_n (q := 385) rfl rfl rfl ?_
        refine R_iconst (q := 386) (v := nI 3) rfl rfl (by decide) ?_
        refine R_iadd (q := 387) rfl rfl ?_
        rw [nI_add]
        refine R_sld (q := 388) rfl rfl (show vp_in _ Lx from in_nI (by omega) (by omega)) ?_
        rw [cl_nI (by omega)]
        refine R_aload_n (q := 389) rfl rfl rfl ?_
        refine R_iload_n (q := 390) rfl rfl rfl ?_
        refine R_iconst (q := 391) (v := nI 4) rfl rfl (by decide) ?_
        refine R_iadd (q := 392) rfl rfl ?_
        rw [nI_add]
        refine R_sld (q := 393) rfl rfl (show vp_in _ Lx from in_nI (by omega) (by omega)) ?_
        rw [cl_nI (by omega)]
        refine R_aload_n (q := 394) rfl rfl rfl ?_
        refine R_iload_n (q := 395) rfl rfl rfl ?_
        refine R_iconst (q := 396) (v := nI 5) rfl rfl (by decide) ?_
        refine R_iadd (q := 397) rfl rfl ?_
        rw [nI_add]
        refine R_sld (q := 398) rfl rfl (show vp_in _ Lx from in_nI (by omega) (by omega)) ?_
        rw [cl_nI (by omega)]
        refine R_callv5 (q := 401) rfl rfl rfl rfl md_73 (Nat.le_of_ble_eq_true rfl) rfl ?_
        refine R_mono (m160 hVS hMR) (fun v398 M398 hr398 => ?_)
        obtain ⟨hF2, hy2⟩ := hr398
        obtain ⟨rfl, hst⟩ := pr2 hmd hF2 hpv hy hy2
        dsimp only [Option.toList, List.cons_append, List.nil_append]
        refine R_icmp_eq (q := 404) (t := 878) rfl rfl rfl (fun h401 => ?_) (fun h401 => absurd rfl h401)
        exact hnext _ hst (hF2.1.trans ((congrArg Prod.snd hmd).trans (hFR.1.trans hm)))
      have hop6 : mm_R (Lx, xs) (d + 20) 0 406 [some (.ref 0), some (.ref 1), some (.ref 73), some (.int (nI i))] [] M (fun v M' => v = some (.int 1) ∧ M'.2 = (111, w0)) := by
        refine R_aload_n (q := 407) rfl rfl rfl ?_
        refine R_aload_n (q := 408) rfl rfl rfl ?_
        refine R_iload_n (q := 409) rfl rfl rfl ?_
        refine R_iconst (q := 410) (v := nI 1) rfl rfl (by decide) ?_
        refine R_iadd (q := 411) rfl rfl ?_
        rw [nI_add]
        refine R_sld (q := 412) rfl rfl (show vp_in _ Lx from in_nI (by omega) (by omega)) ?_
        rw [cl_nI (by omega)]
        refine R_aload_n (q := 413) rfl rfl rfl ?_
        refine R_iload_n (q := 414) rfl rfl rfl ?_
        refine R_iconst (q := 415) (v := nI 2) rfl rfl (by decide) ?_
        refine R_iadd (q := 416) rfl rfl ?_
        rw [nI_add]
        refine R_sld (q := 417) rfl rfl (show vp_in _ Lx from in_nI (by omega) (by omega)) ?_
        rw [cl_nI (by omega)]
        refine R_aload_n (q := 418) rfl rfl rfl ?_
        refine R_iload_n (q := 419) rfl rfl rfl ?_
        refine R_iconst (q := 420) (v := nI 3) rfl rfl (by decide) ?_
        refine R_iadd (q := 421) rfl rfl ?_
        rw [nI_add]
        refine R_sld (q := 422) rfl rfl (show vp_in _ Lx from in_nI (by omega) (by omega)) ?_
        rw [cl_nI (by omega)]
        refine R_callv3 (q := 425) rfl rfl rfl rfl hq1 (Nat.le_of_ble_eq_true rfl) rfl ?_
        refine R_mono (c125 hCI) (fun v422 M422 hr422 => ?_)
        obtain ⟨hFR, hy⟩ := hr422
        obtain ⟨x1, rfl⟩ := or_v hy rfl rfl
        dsimp only [Option.toList, List.cons_append, List.nil_append]
        have hMI1 := MI_FR hMI hFR
        obtain ⟨A, I, hmd, hMR⟩ := id hMI1
        rw [← hmd]
        refine R_aload_n (q := 426) rfl rfl rfl ?_
        refine R_aload_n (q := 427) rfl rfl rfl ?_
        refine R_iload_n (q := 428) rfl rfl rfl ?_
        refine R_iconst (q := 429) (v := nI 1) rfl rfl (by decide) ?_
        refine R_iadd (q := 430) rfl rfl ?_
        rw [nI_add]
        refine R_sld (q := 431) rfl rfl (show vp_in _ Lx from in_nI (by omega) (by omega)) ?_
        rw [cl_nI (by omega)]
        refine R_aload_n (q := 432) rfl rfl rfl ?_
        refine R_iload_n (q := 433) rfl rfl rfl ?_
        refine R_iconst (q := 434) (v := nI 2) rfl rfl (by decide) ?_
        refine R_iadd (q := 435) rfl rfl ?_
        rw [nI_add]
        refine R_sld (q := 436) rfl rfl (show vp_in _ Lx from in_nI (by omega) (by omega)) ?_
        rw [cl_nI (by omega)]
        refine R_aload_n (q := 437) rfl rfl rfl ?_
        refine R_iload_n (q := 438) rfl rfl rfl ?_
        refine R_iconst (q := 439) (v := nI 3) rfl rfl (by decide) ?_
        refine R_iadd (q := 440) rfl rfl ?_
        rw [nI_add]
        refine R_sld (q := 441) rfl rfl (show vp_in _ Lx from in_nI (by omega) (by omega)) ?_
        rw [cl_nI (by omega)]
        refine R_callv3 (q := 444) rfl rfl rfl rfl md_73 (Nat.le_of_ble_eq_true rfl) rfl ?_
        refine R_mono (m161 hVS hMR) (fun v441 M441 hr441 => ?_)
        obtain ⟨hF2, hy2⟩ := hr441
        obtain ⟨rfl, hst⟩ := pr2 hmd hF2 hpv hy hy2
        dsimp only [Option.toList, List.cons_append, List.nil_append]
        refine R_icmp_eq (q := 447) (t := 878) rfl rfl rfl (fun h444 => ?_) (fun h444 => absurd rfl h444)
        exact hnext _ hst (hF2.1.trans ((congrArg Prod.snd hmd).trans (hFR.1.trans hm)))
      have hop7 : mm_R (Lx, xs) (d + 20) 0 449 [some (.ref 0), some (.ref 1), some (.ref 73), some (.int (nI i))] [] M (fun v M' => v = some (.int 1) ∧ M'.2 = (111, w0)) := by
        refine R_aload_n (q := 450) rfl rfl rfl ?_
        refine R_aload_n (q := 451) rfl rfl rfl ?_
        refine R_iload_n (q := 452) rfl rfl rfl ?_
        refine R_iconst (q := 453) (v := nI 1) rfl rfl (by decide) ?_
        refine R_iadd (q := 454) rfl rfl ?_
        rw [nI_add]
        refine R_sld (q := 455) rfl rfl (show vp_in _ Lx from in_nI (by omega) (by omega)) ?_
        rw [cl_nI (by omega)]
        refine R_aload_n (q := 456) rfl rfl rfl ?_
        refine R_iload_n (q := 457) rfl rfl rfl ?_
        refine R_iconst (q := 458) (v := nI 2) rfl rfl (by decide) ?_
        refine R_iadd (q := 459) rfl rfl ?_
        rw [nI_add]
        refine R_sld (q := 460) rfl rfl (show vp_in _ Lx from in_nI (by omega) (by omega)) ?_
        rw [cl_nI (by omega)]
        refine R_callv2 (q := 463) rfl rfl rfl rfl hq1 (Nat.le_of_ble_eq_true rfl) rfl ?_
        refine R_mono (c126 hCI) (fun v460 M460 hr460 => ?_)
        obtain ⟨hFR, hy⟩ := hr460
        obtain ⟨x1, rfl⟩ := or_v hy rfl rfl
        dsimp only [Option.toList, List.cons_append, List.nil_append]
        have hMI1 := MI_FR hMI hFR
        obtain ⟨A, I, hmd, hMR⟩ := id hMI1
        rw [← hmd]
        refine R_aload_n (q := 464) rfl rfl rfl ?_
        refine R_aload_n (q := 465) rfl rfl rfl ?_
        refine R_iload_n (q := 466) rfl rfl rfl ?_
        refine R_iconst (q := 467) (v := nI 1) rfl rfl (by decide) ?_
        refine R_iadd (q := 468) rfl rfl ?_
        rw [nI_add]
        refine R_sld (q := 469) rfl rfl (show vp_in _ Lx from in_nI (by omega) (by omega)) ?_
        rw [cl_nI (by omega)]
        refine R_aload_n (q := 470) rfl rfl rfl ?_
        refine R_iload_n (q := 471) rfl rfl rfl ?_
        refine R_iconst (q := 472) (v := nI 2) rfl rfl (by decide) ?_
        refine R_iadd (q := 473) rfl rfl ?_
        rw [nI_add]
        refine R_sld (q := 474) rfl rfl (show vp_in _ Lx from in_nI (by omega) (by omega)) ?_
        rw [cl_nI (by omega)]
        refine R_callv2 (q := 477) rfl rfl rfl rfl md_73 (Nat.le_of_ble_eq_true rfl) rfl ?_
        refine R_mono (m162 hVS hMR) (fun v474 M474 hr474 => ?_)
        obtain ⟨hF2, hy2⟩ := hr474
        obtain ⟨rfl, hst⟩ := pr2 hmd hF2 hpv hy hy2
        dsimp only [Option.toList, List.cons_append, List.nil_append]
        refine R_icmp_eq (q := 480) (t := 878) rfl rfl rfl (fun h477 => ?_) (fun h477 => absurd rfl h477)
        exact hnext _ hst (hF2.1.trans ((congrArg Prod.snd hmd).trans (hFR.1.trans hm)))
      have hop8 : mm_R (Lx, xs) (d + 20) 0 482 [some (.ref 0), some (.ref 1), some (.ref 73), some (.int (nI i))] [] M (fun v M' => v = some (.int 1) ∧ M'.2 = (111, w0)) := by
        refine R_aload_n (q := 483) rfl rfl rfl ?_
        refine R_aload_n (q := 484) rfl rfl rfl ?_
        refine R_iload_n (q := 485) rfl rfl rfl ?_
        refine R_iconst (q := 486) (v := nI 1) rfl rfl (by decide) ?_
        refine R_iadd (q := 487) rfl rfl ?_
        rw [nI_add]
        refine R_sld (q := 488) rfl rfl (show vp_in _ Lx from in_nI (by omega) (by omega)) ?_
        rw [cl_nI (by omega)]
        refine R_aload_n (q := 489) rfl rfl rfl ?_
        refine R_iload_n (q := 490) rfl rfl rfl ?_
        refine R_iconst (q := 491) (v := nI 2) rfl rfl (by decide) ?_
        refine R_iadd (q := 492) rfl rfl ?_
        rw [nI_add]
        refine R_sld (q := 493) rfl rfl (show vp_in _ Lx from in_nI (by omega) (by omega)) ?_
        rw [cl_nI (by omega)]
        refine R_aload_n (q := 494) rfl rfl rfl ?_
        refine R_iload_n (q := 495) rfl rfl rfl ?_
        refine R_iconst (q := 496) (v := nI 3) rfl rfl (by decide) ?_
        refine R_iadd (q := 497) rfl rfl ?_
        rw [nI_add]
        refine R_sld (q := 498) rfl rfl (show vp_in _ Lx from in_nI (by omega) (by omega)) ?_
        rw [cl_nI (by omega)]
        refine R_aload_n (q := 499) rfl rfl rfl ?_
        refine R_iload_n (q := 500) rfl rfl rfl ?_
        refine R_iconst (q := 501) (v := nI 4) rfl rfl (by decide) ?_
        refine R_iadd (q := 502) rfl rfl ?_
        rw [nI_add]
        refine R_sld (q := 503) rfl rfl (show vp_in _ Lx from in_nI (by omega) (by omega)) ?_
        rw [cl_nI (by omega)]
        refine R_callv4 (q := 506) rfl rfl rfl rfl hq1 (Nat.le_of_ble_eq_true rfl) rfl ?_
        refine R_mono (c127 hCI) (fun v503 M503 hr503 => ?_)
        obtain ⟨hFR, hy⟩ := hr503
        obtain ⟨x1, rfl⟩ := or_v hy rfl rfl
        dsimp only [Option.toList, List.cons_append, List.nil_append]
        have hMI1 := MI_FR hMI hFR
        obtain ⟨A, I, hmd, hMR⟩ := id hMI1
        rw [← hmd]
        refine R_aload_n (q := 507) rfl rfl rfl ?_
        refine R_aload_n (q := 508) rfl rfl rfl ?_
        refine R_iload_n (q := 509) rfl rfl rfl ?_
        refine R_iconst (q := 510) (v := nI 1) rfl rfl (by decide) ?_
        refine R_iadd (q := 511) rfl rfl ?_
        rw [nI_add]
        refine R_sld (q := 512) rfl rfl (show vp_in _ Lx from in_nI (by omega) (by omega)) ?_
        rw [cl_nI (by omega)]
        refine R_aload_n (q := 513) rfl rfl rfl ?_
        refine R_iload_n (q := 514) rfl rfl rfl ?_
        refine R_iconst (q := 515) (v := nI 2) rfl rfl (by decide) ?_
        refine R_iadd (q := 516) rfl rfl ?_
        rw [nI_add]
        refine R_sld (q := 517) rfl rfl (show vp_in _ Lx from in_nI (by omega) (by omega)) ?_
        rw [cl_nI (by omega)]
        refine R_aload_n (q := 518) rfl rfl rfl ?_
        refine R_iload_n (q := 519) rfl rfl rfl ?_
        refine R_iconst (q := 520) (v := nI 3) rfl rfl (by decide) ?_
        refine R_iadd (q := 521) rfl rfl ?_
        rw [nI_add]
        refine R_sld (q := 522) rfl rfl (show vp_in _ Lx from in_nI (by omega) (by omega)) ?_
        rw [cl_nI (by omega)]
        refine R_aload_n (q := 523) rfl rfl rfl ?_
        refine R_iload_n (q := 524) rfl rfl rfl ?_
        refine R_iconst (q := 525) (v := nI 4) rfl rfl (by decide) ?_
        refine R_iadd (q := 526) rfl rfl ?_
        rw [nI_add]
        refine R_sld (q := 527) rfl rfl (show vp_in _ Lx from in_nI (by omega) (by omega)) ?_
        rw [cl_nI (by omega)]
        refine R_callv4 (q := 530) rfl rfl rfl rfl md_73 (Nat.le_of_ble_eq_true rfl) rfl ?_
        refine R_mono (m163 hVS hMR) (fun v527 M527 hr527 => ?_)
        obtain ⟨hF2, hy2⟩ := hr527
        obtain ⟨rfl, hst⟩ := pr2 hmd hF2 hpv hy hy2
        dsimp only [Option.toList, List.cons_append, List.nil_append]
        refine R_icmp_eq (q := 533) (t := 878) rfl rfl rfl (fun h530 => ?_) (fun h530 => absurd rfl h530)
        exact hnext _ hst (hF2.1.trans ((congrArg Prod.snd hmd).trans (hFR.1.trans hm)))
      have hop9 : mm_R (Lx, xs) (d + 20) 0 535 [some (.ref 0), some (.ref 1), some (.ref 73), some (.int (nI i))] [] M (fun v M' => v = some (.int 1) ∧ M'.2 = (111, w0)) := by
        refine R_aload_n (q := 536) rfl rfl rfl ?_
        refine R_aload_n (q := 537) rfl rfl rfl ?_
        refine R_iload_n (q := 538) rfl rfl rfl ?_
        refine R_iconst (q := 539) (v := nI 1) rfl rfl (by decide) ?_
        refine R_iadd (q := 540) rfl rfl ?_
        rw [nI_add]
        refine R_sld (q := 541) rfl rfl (show vp_in _ Lx from in_nI (by omega) (by omega)) ?_
        rw [cl_nI (by omega)]
        refine R_callv1 (q := 544) rfl rfl rfl rfl hq1 (Nat.le_of_ble_eq_true rfl) rfl ?_
        refine R_mono (c128 hCI) (fun v541 M541 hr541 => ?_)
        obtain ⟨hFR, hy⟩ := hr541
        obtain ⟨x1, rfl⟩ := or_v hy rfl rfl
        dsimp only [Option.toList, List.cons_append, List.nil_append]
        have hMI1 := MI_FR hMI hFR
        obtain ⟨A, I, hmd, hMR⟩ := id hMI1
        rw [← hmd]
        refine R_aload_n (q := 545) rfl rfl rfl ?_
        refine R_aload_n (q := 546) rfl rfl rfl ?_
        refine R_iload_n (q := 547) rfl rfl rfl ?_
        refine R_iconst (q := 548) (v := nI 1) rfl rfl (by decide) ?_
        refine R_iadd (q := 549) rfl rfl ?_
        rw [nI_add]
        refine R_sld (q := 550) rfl rfl (show vp_in _ Lx from in_nI (by omega) (by omega)) ?_
        rw [cl_nI (by omega)]
        refine R_callv1 (q := 553) rfl rfl rfl rfl md_73 (Nat.le_of_ble_eq_true rfl) rfl ?_
        refine R_mono (m164 hVS hMR) (fun v550 M550 hr550 => ?_)
        obtain ⟨hF2, hy2⟩ := hr550
        obtain ⟨rfl, hst⟩ := pr2 hmd hF2 hpv hy hy2
        dsimp only [Option.toList, List.cons_append, List.nil_append]
        refine R_icmp_eq (q := 556) (t := 878) rfl rfl rfl (fun h553 => ?_) (fun h553 => absurd rfl h553)
        exact hnext _ hst (hF2.1.trans ((congrArg Prod.snd hmd).trans (hFR.1.trans hm)))
      have hop10 : mm_R (Lx, xs) (d + 20) 0 558 [some (.ref 0), some (.ref 1), some (.ref 73), some (.int (nI i))] [] M (fun v M' => v = some (.int 1) ∧ M'.2 = (111, w0)) := by
        refine R_aload_n (q := 559) rfl rfl rfl ?_
        refine R_aload_n (q := 560) rfl rfl rfl ?_
        refine R_iload_n (q := 561) rfl rfl rfl ?_
        refine R_iconst (q := 562) (v := nI 1) rfl rfl (by decide) ?_
        refine R_iadd (q := 563) rfl rfl ?_
        rw [nI_add]
        refine R_sld (q := 564) rfl rfl (show vp_in _ Lx from in_nI (by omega) (by omega)) ?_
        rw [cl_nI (by omega)]
        refine R_aload_n (q := 565) rfl rfl rfl ?_
        refine R_iload_n (q := 566) rfl rfl rfl ?_
        refine R_iconst (q := 567) (v := nI 2) rfl rfl (by decide) ?_
        refine R_iadd (q := 568) rfl rfl ?_
        rw [nI_add]
        refine R_sld (q := 569) rfl rfl (show vp_in _ Lx from in_nI (by omega) (by omega)) ?_
        rw [cl_nI (by omega)]
        refine R_aload_n (q := 570) rfl rfl rfl ?_
        refine R_iload_n (q := 571) rfl rfl rfl ?_
        refine R_iconst (q := 572) (v := nI 3) rfl rfl (by decide) ?_
        refine R_iadd (q := 573) rfl rfl ?_
        rw [nI_add]
        refine R_sld (q := 574) rfl rfl (show vp_in _ Lx from in_nI (by omega) (by omega)) ?_
        rw [cl_nI (by omega)]
        refine R_aload_n (q := 575) rfl rfl rfl ?_
        refine R_iload_n (q := 576) rfl rfl rfl ?_
        refine R_iconst (q := 577) (v := nI 4) rfl rfl (by decide) ?_
        refine R_iadd (q := 578) rfl rfl ?_
        rw [nI_add]
        refine R_sld (q := 579) rfl rfl (show vp_in _ Lx from in_nI (by omega) (by omega)) ?_
        rw [cl_nI (by omega)]
        refine R_callv4 (q := 582) rfl rfl rfl rfl hq1 (Nat.le_of_ble_eq_true rfl) rfl ?_
        refine R_mono (c129 hCI) (fun v579 M579 hr579 => ?_)
        obtain ⟨hFR, hy⟩ := hr579
        obtain ⟨x1, rfl⟩ := or_v hy rfl rfl
        dsimp only [Option.toList, List.cons_append, List.nil_append]
        have hMI1 := MI_FR hMI hFR
        obtain ⟨A, I, hmd, hMR⟩ := id hMI1
        rw [← hmd]
        refine R_aload_n (q := 583) rfl rfl rfl ?_
        refine R_aload_n (q := 584) rfl rfl rfl ?_
        refine R_iload_n (q := 585) rfl rfl rfl ?_
        refine R_iconst (q := 586) (v := nI 1) rfl rfl (by decide) ?_
        refine R_iadd (q := 587) rfl rfl ?_
        rw [nI_add]
        refine R_sld (q := 588) rfl rfl (show vp_in _ Lx from in_nI (by omega) (by omega)) ?_
        rw [cl_nI (by omega)]
        refine R_aload_n (q := 589) rfl rfl rfl ?_
        refine R_iload_n (q := 590) rfl rfl rfl ?_
        refine R_iconst (q := 591) (v := nI 2) rfl rfl (by decide) ?_
        refine R_iadd (q := 592) rfl rfl ?_
        rw [nI_add]
        refine R_sld (q := 593) rfl rfl (show vp_in _ Lx from in_nI (by omega) (by omega)) ?_
        rw [cl_nI (by omega)]
        refine R_aload_n (q := 594) rfl rfl rfl ?_
        refine R_iload_n (q := 595) rfl rfl rfl ?_
        refine R_iconst (q := 596) (v := nI 3) rfl rfl (by decide) ?_
        refine R_iadd (q := 597) rfl rfl ?_
        rw [nI_add]
        refine R_sld (q := 598) rfl rfl (show vp_in _ Lx from in_nI (by omega) (by omega)) ?_
        rw [cl_nI (by omega)]
        refine R_aload_n (q := 599) rfl rfl rfl ?_
        refine R_iload_n (q := 600) rfl rfl rfl ?_
        refine R_iconst (q := 601) (v := nI 4) rfl rfl (by decide) ?_
        refine R_iadd (q := 602) rfl rfl ?_
        rw [nI_add]
        refine R_sld (q := 603) rfl rfl (show vp_in _ Lx from in_nI (by omega) (by omega)) ?_
        rw [cl_nI (by omega)]
        refine R_callv4 (q := 606) rfl rfl rfl rfl md_73 (Nat.le_of_ble_eq_true rfl) rfl ?_
        refine R_mono (m168 hVS hMR) (fun v603 M603 hr603 => ?_)
        obtain ⟨hF2, hy2⟩ := hr603
        obtain ⟨rfl, hst⟩ := pr2 hmd hF2 hpv hy hy2
        dsimp only [Option.toList, List.cons_append, List.nil_append]
        refine R_icmp_eq (q := 609) (t := 878) rfl rfl rfl (fun h606 => ?_) (fun h606 => absurd rfl h606)
        exact hnext _ hst (hF2.1.trans ((congrArg Prod.snd hmd).trans (hFR.1.trans hm)))
      have hop11 : mm_R (Lx, xs) (d + 20) 0 611 [some (.ref 0), some (.ref 1), some (.ref 73), some (.int (nI i))] [] M (fun v M' => v = some (.int 1) ∧ M'.2 = (111, w0)) := by
        refine R_aload_n (q := 612) rfl rfl rfl ?_
        refine R_aload_n (q := 613) rfl rfl rfl ?_
        refine R_iload_n (q := 614) rfl rfl rfl ?_
        refine R_iconst (q := 615) (v := nI 1) rfl rfl (by decide) ?_
        refine R_iadd (q := 616) rfl rfl ?_
        rw [nI_add]
        refine R_sld (q := 617) rfl rfl (show vp_in _ Lx from in_nI (by omega) (by omega)) ?_
        rw [cl_nI (by omega)]
        refine R_aload_n (q := 618) rfl rfl rfl ?_
        refine R_iload_n (q := 619) rfl rfl rfl ?_
        refine R_iconst (q := 620) (v := nI 2) rfl rfl (by decide) ?_
        refine R_iadd (q := 621) rfl rfl ?_
        rw [nI_add]
        refine R_sld (q := 622) rfl rfl (show vp_in _ Lx from in_nI (by omega) (by omega)) ?_
        rw [cl_nI (by omega)]
        refine R_aload_n (q := 623) rfl rfl rfl ?_
        refine R_iload_n (q := 624) rfl rfl rfl ?_
        refine R_iconst (q := 625) (v := nI 3) rfl rfl (by decide) ?_
        refine R_iadd (q := 626) rfl rfl ?_
        rw [nI_add]
        refine R_sld (q := 627) rfl rfl (show vp_in _ Lx from in_nI (by omega) (by omega)) ?_
        rw [cl_nI (by omega)]
        refine R_callv3 (q := 630) rfl rfl rfl rfl hq1 (Nat.le_of_ble_eq_true rfl) rfl ?_
        refine R_mono (c130 hCI) (fun v627 M627 hr627 => ?_)
        obtain ⟨hmm, rfl⟩ := hr627
        rw [hmm]
        dsimp only [Option.toList, List.cons_append, List.nil_append]
        rw [← hmd0]
        refine R_aload_n (q := 631) rfl rfl rfl ?_
        refine R_aload_n (q := 632) rfl rfl rfl ?_
        refine R_iload_n (q := 633) rfl rfl rfl ?_
        refine R_iconst (q := 634) (v := nI 1) rfl rfl (by decide) ?_
        refine R_iadd (q := 635) rfl rfl ?_
        rw [nI_add]
        refine R_sld (q := 636) rfl rfl (show vp_in _ Lx from in_nI (by omega) (by omega)) ?_
        rw [cl_nI (by omega)]
        refine R_aload_n (q := 637) rfl rfl rfl ?_
        refine R_iload_n (q := 638) rfl rfl rfl ?_
        refine R_iconst (q := 639) (v := nI 2) rfl rfl (by decide) ?_
        refine R_iadd (q := 640) rfl rfl ?_
        rw [nI_add]
        refine R_sld (q := 641) rfl rfl (show vp_in _ Lx from in_nI (by omega) (by omega)) ?_
        rw [cl_nI (by omega)]
        refine R_aload_n (q := 642) rfl rfl rfl ?_
        refine R_iload_n (q := 643) rfl rfl rfl ?_
        refine R_iconst (q := 644) (v := nI 3) rfl rfl (by decide) ?_
        refine R_iadd (q := 645) rfl rfl ?_
        rw [nI_add]
        refine R_sld (q := 646) rfl rfl (show vp_in _ Lx from in_nI (by omega) (by omega)) ?_
        rw [cl_nI (by omega)]
        refine R_callv3 (q := 649) rfl rfl rfl rfl md_73 (Nat.le_of_ble_eq_true rfl) rfl ?_
        refine R_mono (m169 hVS hMR0) (fun v646 M646 hr646 => ?_)
        obtain ⟨hmm2, rfl⟩ := hr646
        rw [hmm2, hmd0]
        dsimp only [Option.toList, List.cons_append, List.nil_append]
        refine R_icmp_eq (q := 652) (t := 878) rfl rfl rfl (fun h649 => ?_) (fun h649 => absurd rfl h649)
        exact hnext M ⟨sh, o, l, pi, fa, tp, hCI, hMI, hpv⟩ hm
      have hop12 : mm_R (Lx, xs) (d + 20) 0 654 [some (.ref 0), some (.ref 1), some (.ref 73), some (.int (nI i))] [] M (fun v M' => v = some (.int 1) ∧ M'.2 = (111, w0)) := by
        refine R_aload_n (q := 655) rfl rfl rfl ?_
        refine R_aload_n (q := 656) rfl rfl rfl ?_
        refine R_iload_n (q := 657) rfl rfl rfl ?_
        refine R_iconst (q := 658) (v := nI 1) rfl rfl (by decide) ?_
        refine R_iadd (q := 659) rfl rfl ?_
        rw [nI_add]
        refine R_sld (q := 660) rfl rfl (show vp_in _ Lx from in_nI (by omega) (by omega)) ?_
        rw [cl_nI (by omega)]
        refine R_aload_n (q := 661) rfl rfl rfl ?_
        refine R_iload_n (q := 662) rfl rfl rfl ?_
        refine R_iconst (q := 663) (v := nI 2) rfl rfl (by decide) ?_
        refine R_iadd (q := 664) rfl rfl ?_
        rw [nI_add]
        refine R_sld (q := 665) rfl rfl (show vp_in _ Lx from in_nI (by omega) (by omega)) ?_
        rw [cl_nI (by omega)]
        refine R_callv2 (q := 668) rfl rfl rfl rfl hq1 (Nat.le_of_ble_eq_true rfl) rfl ?_
        refine R_mono (c131 hCI) (fun v665 M665 hr665 => ?_)
        obtain ⟨hFR, hCI1, x1, rfl, hR1⟩ := hr665
        dsimp only [Option.toList, List.cons_append, List.nil_append]
        have hMI1 := MI_FR hMI hFR
        obtain ⟨A, I, hmd, hMR⟩ := id hMI1
        rw [← hmd]
        refine R_aload_n (q := 669) rfl rfl rfl ?_
        refine R_aload_n (q := 670) rfl rfl rfl ?_
        refine R_iload_n (q := 671) rfl rfl rfl ?_
        refine R_iconst (q := 672) (v := nI 1) rfl rfl (by decide) ?_
        refine R_iadd (q := 673) rfl rfl ?_
        rw [nI_add]
        refine R_sld (q := 674) rfl rfl (show vp_in _ Lx from in_nI (by omega) (by omega)) ?_
        rw [cl_nI (by omega)]
        refine R_aload_n (q := 675) rfl rfl rfl ?_
        refine R_iload_n (q := 676) rfl rfl rfl ?_
        refine R_iconst (q := 677) (v := nI 2) rfl rfl (by decide) ?_
        refine R_iadd (q := 678) rfl rfl ?_
        rw [nI_add]
        refine R_sld (q := 679) rfl rfl (show vp_in _ Lx from in_nI (by omega) (by omega)) ?_
        rw [cl_nI (by omega)]
        refine R_callv2 (q := 682) rfl rfl rfl rfl md_73 (Nat.le_of_ble_eq_true rfl) rfl ?_
        refine R_mono (m177 hVS hMR hR1) (fun v679 M679 hr679 => ?_)
        obtain ⟨hF2, hMI2, rfl⟩ := hr679
        have hst : ST M679 := ⟨sh, o, l, pi, fa, tp, CI_FM hCI1 (hmd ▸ hF2), hMI2, hpv⟩
        dsimp only [Option.toList, List.cons_append, List.nil_append]
        refine R_icmp_eq (q := 685) (t := 878) rfl rfl rfl (fun h682 => ?_) (fun h682 => absurd rfl h682)
        exact hnext _ hst (hF2.1.trans ((congrArg Prod.snd hmd).trans (hFR.1.trans hm)))
      have hop13 : mm_R (Lx, xs) (d + 20) 0 687 [some (.ref 0), some (.ref 1), some (.ref 73), some (.int (nI i))] [] M (fun v M' => v = some (.int 1) ∧ M'.2 = (111, w0)) := by
        refine R_aload_n (q := 688) rfl rfl rfl ?_
        refine R_aload_n (q := 689) rfl rfl rfl ?_
        refine R_iload_n (q := 690) rfl rfl rfl ?_
        refine R_iconst (q := 691) (v := nI 1) rfl rfl (by decide) ?_
        refine R_iadd (q := 692) rfl rfl ?_
        rw [nI_add]
        refine R_sld (q := 693) rfl rfl (show vp_in _ Lx from in_nI (by omega) (by omega)) ?_
        rw [cl_nI (by omega)]
        refine R_aload_n (q := 694) rfl rfl rfl ?_
        refine R_iload_n (q := 695) rfl rfl rfl ?_
        refine R_iconst (q := 696) (v := nI 2) rfl rfl (by decide) ?_
        refine R_iadd (q := 697) rfl rfl ?_
        rw [nI_add]
        refine R_sld (q := 698) rfl rfl (show vp_in _ Lx from in_nI (by omega) (by omega)) ?_
        rw [cl_nI (by omega)]
        refine R_aload_n (q := 699) rfl rfl rfl ?_
        refine R_iload_n (q := 700) rfl rfl rfl ?_
        refine R_iconst (q := 701) (v := nI 3) rfl rfl (by decide) ?_
        refine R_iadd (q := 702) rfl rfl ?_
        rw [nI_add]
        refine R_sld (q := 703) rfl rfl (show vp_in _ Lx from in_nI (by omega) (by omega)) ?_
        rw [cl_nI (by omega)]
        refine R_callv3 (q := 706) rfl rfl rfl rfl hq1 (Nat.le_of_ble_eq_true rfl) rfl ?_
        refine R_mono (c132 hCI) (fun v703 M703 hr703 => ?_)
        obtain ⟨hFR, hy⟩ := hr703
        obtain ⟨x1, rfl⟩ := or_v hy rfl rfl
        dsimp only [Option.toList, List.cons_append, List.nil_append]
        have hMI1 := MI_FR hMI hFR
        obtain ⟨A, I, hmd, hMR⟩ := id hMI1
        rw [← hmd]
        refine R_aload_n (q := 707) rfl rfl rfl ?_
        refine R_aload_n (q := 708) rfl rfl rfl ?_
        refine R_iload_n (q := 709) rfl rfl rfl ?_
        refine R_iconst (q := 710) (v := nI 1) rfl rfl (by decide) ?_
        refine R_iadd (q := 711) rfl rfl ?_
        rw [nI_add]
        refine R_sld (q := 712) rfl rfl (show vp_in _ Lx from in_nI (by omega) (by omega)) ?_
        rw [cl_nI (by omega)]
        refine R_aload_n (q := 713) rfl rfl rfl ?_
        refine R_iload_n (q := 714) rfl rfl rfl ?_
        refine R_iconst (q := 715) (v := nI 2) rfl rfl (by decide) ?_
        refine R_iadd (q := 716) rfl rfl ?_
        rw [nI_add]
        refine R_sld (q := 717) rfl rfl (show vp_in _ Lx from in_nI (by omega) (by omega)) ?_
        rw [cl_nI (by omega)]
        refine R_aload_n (q := 718) rfl rfl rfl ?_
        refine R_iload_n (q := 719) rfl rfl rfl ?_
        refine R_iconst (q := 720) (v := nI 3) rfl rfl (by decide) ?_
        refine R_iadd (q := 721) rfl rfl ?_
        rw [nI_add]
        refine R_sld (q := 722) rfl rfl (show vp_in _ Lx from in_nI (by omega) (by omega)) ?_
        rw [cl_nI (by omega)]
        refine R_callv3 (q := 725) rfl rfl rfl rfl md_73 (Nat.le_of_ble_eq_true rfl) rfl ?_
        refine R_mono (m179 hVS hMR) (fun v722 M722 hr722 => ?_)
        obtain ⟨hF2, hy2⟩ := hr722
        obtain ⟨rfl, hst⟩ := pr2 hmd hF2 hpv hy hy2
        dsimp only [Option.toList, List.cons_append, List.nil_append]
        refine R_icmp_eq (q := 728) (t := 878) rfl rfl rfl (fun h725 => ?_) (fun h725 => absurd rfl h725)
        exact hnext _ hst (hF2.1.trans ((congrArg Prod.snd hmd).trans (hFR.1.trans hm)))
      have hop14 : mm_R (Lx, xs) (d + 20) 0 730 [some (.ref 0), some (.ref 1), some (.ref 73), some (.int (nI i))] [] M (fun v M' => v = some (.int 1) ∧ M'.2 = (111, w0)) := by
        refine R_aload_n (q := 731) rfl rfl rfl ?_
        refine R_aload_n (q := 732) rfl rfl rfl ?_
        refine R_iload_n (q := 733) rfl rfl rfl ?_
        refine R_iconst (q := 734) (v := nI 1) rfl rfl (by decide) ?_
        refine R_iadd (q := 735) rfl rfl ?_
        rw [nI_add]
        refine R_sld (q := 736) rfl rfl (show vp_in _ Lx from in_nI (by omega) (by omega)) ?_
        rw [cl_nI (by omega)]
        refine R_callv1 (q := 739) rfl rfl rfl rfl hq1 (Nat.le_of_ble_eq_true rfl) rfl ?_
        refine R_mono (c133 hCI) (fun v736 M736 hr736 => ?_)
        obtain ⟨hFR, hy⟩ := hr736
        rcases hy with ⟨hP, X, hX, rfl, hci⟩ | ⟨hN, rfl, hci⟩
        · dsimp only [Option.toList, List.cons_append, List.nil_append]
          have hMI1 := MI_FR hMI hFR
          obtain ⟨A, I, hmd, hMR⟩ := id hMI1
          rw [← hmd]
          refine R_aload_n (q := 740) rfl rfl rfl ?_
          refine R_aload_n (q := 741) rfl rfl rfl ?_
          refine R_iload_n (q := 742) rfl rfl rfl ?_
          refine R_iconst (q := 743) (v := nI 1) rfl rfl (by decide) ?_
          refine R_iadd (q := 744) rfl rfl ?_
          rw [nI_add]
          refine R_sld (q := 745) rfl rfl (show vp_in _ Lx from in_nI (by omega) (by omega)) ?_
          rw [cl_nI (by omega)]
          refine R_callv1 (q := 748) rfl rfl rfl rfl md_73 (Nat.le_of_ble_eq_true rfl) rfl ?_
          refine R_mono (m188_Y hVS hMR hP hX) (fun v745 M745 hr745 => ?_)
          obtain ⟨hF2, rfl, hMI2, hpv2⟩ := hr745
          have hst : ST M745 := ⟨sh, o, l, X, fa, tp, CI_FM hci (hmd ▸ hF2), hMI2, hpv2⟩
          dsimp only [Option.toList, List.cons_append, List.nil_append]
          refine R_icmp_eq (q := 751) (t := 878) rfl rfl rfl (fun h748 => ?_) (fun h748 => absurd rfl h748)
          exact hnext _ hst (hF2.1.trans ((congrArg Prod.snd hmd).trans (hFR.1.trans hm)))
        · dsimp only [Option.toList, List.cons_append, List.nil_append]
          have hMI1 := MI_FR hMI hFR
          obtain ⟨A, I, hmd, hMR⟩ := id hMI1
          rw [← hmd]
          refine R_aload_n (q := 740) rfl rfl rfl ?_
          refine R_aload_n (q := 741) rfl rfl rfl ?_
          refine R_iload_n (q := 742) rfl rfl rfl ?_
          refine R_iconst (q := 743) (v := nI 1) rfl rfl (by decide) ?_
          refine R_iadd (q := 744) rfl rfl ?_
          rw [nI_add]
          refine R_sld (q := 745) rfl rfl (show vp_in _ Lx from in_nI (by omega) (by omega)) ?_
          rw [cl_nI (by omega)]
          refine R_callv1 (q := 748) rfl rfl rfl rfl md_73 (Nat.le_of_ble_eq_true rfl) rfl ?_
          refine R_mono (m188_N hVS hMR hN) (fun v745 M745 hr745 => ?_)
          obtain ⟨hF2, rfl, hMI2⟩ := hr745
          have hst : ST M745 := ⟨sh, o, l, pi, fa, tp, CI_FM hci (hmd ▸ hF2), hMI2, hpv⟩
          dsimp only [Option.toList, List.cons_append, List.nil_append]
          refine R_icmp_eq (q := 751) (t := 878) rfl rfl rfl (fun h748 => ?_) (fun h748 => absurd rfl h748)
          exact hnext _ hst (hF2.1.trans ((congrArg Prod.snd hmd).trans (hFR.1.trans hm)))
      have hop15 : mm_R (Lx, xs) (d + 20) 0 753 [some (.ref 0), some (.ref 1), some (.ref 73), some (.int (nI i))] [] M (fun v M' => v = some (.int 1) ∧ M'.2 = (111, w0)) := by
        refine R_aload_n (q := 754) rfl rfl rfl ?_
        refine R_aload_n (q := 755) rfl rfl rfl ?_
        refine R_iload_n (q := 756) rfl rfl rfl ?_
        refine R_iconst (q := 757) (v := nI 1) rfl rfl (by decide) ?_
        refine R_iadd (q := 758) rfl rfl ?_
        rw [nI_add]
        refine R_sld (q := 759) rfl rfl (show vp_in _ Lx from in_nI (by omega) (by omega)) ?_
        rw [cl_nI (by omega)]
        refine R_aload_n (q := 760) rfl rfl rfl ?_
        refine R_iload_n (q := 761) rfl rfl rfl ?_
        refine R_iconst (q := 762) (v := nI 2) rfl rfl (by decide) ?_
        refine R_iadd (q := 763) rfl rfl ?_
        rw [nI_add]
        refine R_sld (q := 764) rfl rfl (show vp_in _ Lx from in_nI (by omega) (by omega)) ?_
        rw [cl_nI (by omega)]
        refine R_aload_n (q := 765) rfl rfl rfl ?_
        refine R_iload_n (q := 766) rfl rfl rfl ?_
        refine R_iconst (q := 767) (v := nI 3) rfl rfl (by decide) ?_
        refine R_iadd (q := 768) rfl rfl ?_
        rw [nI_add]
        refine R_sld (q := 769) rfl rfl (show vp_in _ Lx from in_nI (by omega) (by omega)) ?_
        rw [cl_nI (by omega)]
        refine R_callv3 (q := 772) rfl rfl rfl rfl hq1 (Nat.le_of_ble_eq_true rfl) rfl ?_
        refine R_mono (c134 hCI) (fun v769 M769 hr769 => ?_)
        obtain ⟨hmm, rfl⟩ := hr769
        rw [hmm]
        dsimp only [Option.toList, List.cons_append, List.nil_append]
        rw [← hmd0]
        refine R_aload_n (q := 773) rfl rfl rfl ?_
        refine R_aload_n (q := 774) rfl rfl rfl ?_
        refine R_iload_n (q := 775) rfl rfl rfl ?_
        refine R_iconst (q := 776) (v := nI 1) rfl rfl (by decide) ?_
        refine R_iadd (q := 777) rfl rfl ?_
        rw [nI_add]
        refine R_sld (q := 778) rfl rfl (show vp_in _ Lx from in_nI (by omega) (by omega)) ?_
        rw [cl_nI (by omega)]
        refine R_aload_n (q := 779) rfl rfl rfl ?_
        refine R_iload_n (q := 780) rfl rfl rfl ?_
        refine R_iconst (q := 781) (v := nI 2) rfl rfl (by decide) ?_
        refine R_iadd (q := 782) rfl rfl ?_
        rw [nI_add]
        refine R_sld (q := 783) rfl rfl (show vp_in _ Lx from in_nI (by omega) (by omega)) ?_
        rw [cl_nI (by omega)]
        refine R_aload_n (q := 784) rfl rfl rfl ?_
        refine R_iload_n (q := 785) rfl rfl rfl ?_
        refine R_iconst (q := 786) (v := nI 3) rfl rfl (by decide) ?_
        refine R_iadd (q := 787) rfl rfl ?_
        rw [nI_add]
        refine R_sld (q := 788) rfl rfl (show vp_in _ Lx from in_nI (by omega) (by omega)) ?_
        rw [cl_nI (by omega)]
        refine R_callv3 (q := 791) rfl rfl rfl rfl md_73 (Nat.le_of_ble_eq_true rfl) rfl ?_
        refine R_mono (m189 hVS hMR0) (fun v788 M788 hr788 => ?_)
        obtain ⟨hmm2, rfl⟩ := hr788
        rw [hmm2, hmd0]
        dsimp only [Option.toList, List.cons_append, List.nil_append]
        refine R_icmp_eq (q := 794) (t := 878) rfl rfl rfl (fun h791 => ?_) (fun h791 => absurd rfl h791)
        exact hnext M ⟨sh, o, l, pi, fa, tp, hCI, hMI, hpv⟩ hm
      have hop16 : mm_R (Lx, xs) (d + 20) 0 796 [some (.ref 0), some (.ref 1), some (.ref 73), some (.int (nI i))] [] M (fun v M' => v = some (.int 1) ∧ M'.2 = (111, w0)) := by
        refine R_aload_n (q := 797) rfl rfl rfl ?_
        refine R_callv0 (q := 800) rfl rfl rfl rfl hq1 (Nat.le_of_ble_eq_true rfl) rfl ?_
        refine R_mono (c135 (WRT_EG hpv) hCI) (fun v797 M797 hr797 => ?_)
        obtain ⟨hFR, X, hX, hy⟩ := hr797
        obtain ⟨x1, rfl⟩ := or_v hy rfl rfl
        dsimp only [Option.toList, List.cons_append, List.nil_append]
        have hMI1 := MI_FR hMI hFR
        obtain ⟨A, I, hmd, hMR⟩ := id hMI1
        rw [← hmd]
        refine R_aload_n (q := 801) rfl rfl rfl ?_
        refine R_callv0 (q := 804) rfl rfl rfl rfl md_73 (Nat.le_of_ble_eq_true rfl) rfl ?_
        refine R_mono (m193 hVS hMR hpv hX) (fun v801 M801 hr801 => ?_)
        obtain ⟨hF2, hy2⟩ := hr801
        obtain ⟨rfl, hst⟩ := pr2 (P := X.2 = true) hmd hF2 hpv (hy.imp id (fun z => ⟨by rw [z.1]; decide, z.2⟩)) (hy2.imp id (fun z => ⟨by rw [z.1]; decide, z.2⟩))
        dsimp only [Option.toList, List.cons_append, List.nil_append]
        refine R_icmp_eq (q := 807) (t := 878) rfl rfl rfl (fun h804 => ?_) (fun h804 => absurd rfl h804)
        exact hnext _ hst (hF2.1.trans ((congrArg Prod.snd hmd).trans (hFR.1.trans hm)))
      have hop17 : mm_R (Lx, xs) (d + 20) 0 809 [some (.ref 0), some (.ref 1), some (.ref 73), some (.int (nI i))] [] M (fun v M' => v = some (.int 1) ∧ M'.2 = (111, w0)) := by
        refine R_aload_n (q := 810) rfl rfl rfl ?_
        refine R_aload_n (q := 811) rfl rfl rfl ?_
        refine R_iload_n (q := 812) rfl rfl rfl ?_
        refine R_iconst (q := 813) (v := nI 1) rfl rfl (by decide) ?_
        refine R_iadd (q := 814) rfl rfl ?_
        rw [nI_add]
        refine R_sld (q := 815) rfl rfl (show vp_in _ Lx from in_nI (by omega) (by omega)) ?_
        rw [cl_nI (by omega)]
        refine R_callv1 (q := 818) rfl rfl rfl rfl hq1 (Nat.le_of_ble_eq_true rfl) rfl ?_
        refine R_mono (c136 hCI) (fun v815 M815 hr815 => ?_)
        obtain ⟨hFR, hy⟩ := hr815
        obtain ⟨x1, rfl⟩ := or_v hy rfl rfl
        dsimp only [Option.toList, List.cons_append, List.nil_append]
        have hMI1 := MI_FR hMI hFR
        obtain ⟨A, I, hmd, hMR⟩ := id hMI1
        rw [← hmd]
        refine R_aload_n (q := 819) rfl rfl rfl ?_
        refine R_aload_n (q := 820) rfl rfl rfl ?_
        refine R_iload_n (q := 821) rfl rfl rfl ?_
        refine R_iconst (q := 822) (v := nI 1) rfl rfl (by decide) ?_
        refine R_iadd (q := 823) rfl rfl ?_
        rw [nI_add]
        refine R_sld (q := 824) rfl rfl (show vp_in _ Lx from in_nI (by omega) (by omega)) ?_
        rw [cl_nI (by omega)]
        refine R_callv1 (q := 827) rfl rfl rfl rfl md_73 (Nat.le_of_ble_eq_true rfl) rfl ?_
        refine R_mono (m194 hVS hMR) (fun v824 M824 hr824 => ?_)
        obtain ⟨hF2, hy2⟩ := hr824
        obtain ⟨rfl, hst⟩ := pr2 hmd hF2 hpv hy hy2
        dsimp only [Option.toList, List.cons_append, List.nil_append]
        refine R_icmp_eq (q := 830) (t := 878) rfl rfl rfl (fun h827 => ?_) (fun h827 => absurd rfl h827)
        exact hnext _ hst (hF2.1.trans ((congrArg Prod.snd hmd).trans (hFR.1.trans hm)))
      have hop18 : mm_R (Lx, xs) (d + 20) 0 832 [some (.ref 0), some (.ref 1), some (.ref 73), some (.int (nI i))] [] M (fun v M' => v = some (.int 1) ∧ M'.2 = (111, w0)) := by
        refine R_aload_n (q := 833) rfl rfl rfl ?_
        refine R_aload_n (q := 834) rfl rfl rfl ?_
        refine R_iload_n (q := 835) rfl rfl rfl ?_
        refine R_iconst (q := 836) (v := nI 1) rfl rfl (by decide) ?_
        refine R_iadd (q := 837) rfl rfl ?_
        rw [nI_add]
        refine R_sld (q := 838) rfl rfl (show vp_in _ Lx from in_nI (by omega) (by omega)) ?_
        rw [cl_nI (by omega)]
        refine R_callv1 (q := 841) rfl rfl rfl rfl hq1 (Nat.le_of_ble_eq_true rfl) rfl ?_
        refine R_mono (c137 hCI) (fun v838 M838 hr838 => ?_)
        obtain ⟨hmm, rfl⟩ := hr838
        rw [hmm]
        dsimp only [Option.toList, List.cons_append, List.nil_append]
        rw [← hmd0]
        refine R_aload_n (q := 842) rfl rfl rfl ?_
        refine R_aload_n (q := 843) rfl rfl rfl ?_
        refine R_iload_n (q := 844) rfl rfl rfl ?_
        refine R_iconst (q := 845) (v := nI 1) rfl rfl (by decide) ?_
        refine R_iadd (q := 846) rfl rfl ?_
        rw [nI_add]
        refine R_sld (q := 847) rfl rfl (show vp_in _ Lx from in_nI (by omega) (by omega)) ?_
        rw [cl_nI (by omega)]
        refine R_callv1 (q := 850) rfl rfl rfl rfl md_73 (Nat.le_of_ble_eq_true rfl) rfl ?_
        refine R_mono (m195 hVS hMR0) (fun v847 M847 hr847 => ?_)
        obtain ⟨hmm2, rfl⟩ := hr847
        rw [hmm2, hmd0]
        dsimp only [Option.toList, List.cons_append, List.nil_append]
        refine R_icmp_eq (q := 853) (t := 878) rfl rfl rfl (fun h850 => ?_) (fun h850 => absurd rfl h850)
        exact hnext M ⟨sh, o, l, pi, fa, tp, hCI, hMI, hpv⟩ hm
      have hop19 : mm_R (Lx, xs) (d + 20) 0 855 [some (.ref 0), some (.ref 1), some (.ref 73), some (.int (nI i))] [] M (fun v M' => v = some (.int 1) ∧ M'.2 = (111, w0)) := by
        refine R_aload_n (q := 856) rfl rfl rfl ?_
        refine R_aload_n (q := 857) rfl rfl rfl ?_
        refine R_iload_n (q := 858) rfl rfl rfl ?_
        refine R_iconst (q := 859) (v := nI 1) rfl rfl (by decide) ?_
        refine R_iadd (q := 860) rfl rfl ?_
        rw [nI_add]
        refine R_sld (q := 861) rfl rfl (show vp_in _ Lx from in_nI (by omega) (by omega)) ?_
        rw [cl_nI (by omega)]
        refine R_callv1 (q := 864) rfl rfl rfl rfl hq1 (Nat.le_of_ble_eq_true rfl) rfl ?_
        refine R_mono (c138 hCI) (fun v861 M861 hr861 => ?_)
        obtain ⟨hFR, hy⟩ := hr861
        rcases hy with ⟨hN, rfl, hci⟩ | ⟨hP, x1, G, hRD, rfl, hc⟩
        · dsimp only [Option.toList, List.cons_append, List.nil_append]
          have hMI1 := MI_FR hMI hFR
          obtain ⟨A, I, hmd, hMR⟩ := id hMI1
          rw [← hmd]
          refine R_aload_n (q := 865) rfl rfl rfl ?_
          refine R_aload_n (q := 866) rfl rfl rfl ?_
          refine R_iload_n (q := 867) rfl rfl rfl ?_
          refine R_iconst (q := 868) (v := nI 1) rfl rfl (by decide) ?_
          refine R_iadd (q := 869) rfl rfl ?_
          rw [nI_add]
          refine R_sld (q := 870) rfl rfl (show vp_in _ Lx from in_nI (by omega) (by omega)) ?_
          rw [cl_nI (by omega)]
          refine R_callv1 (q := 873) rfl rfl rfl rfl md_73 (Nat.le_of_ble_eq_true rfl) rfl ?_
          refine R_mono (m200 (a := (rdd tp.1 tp.2 (0, 0, 0, 0, 0, 0, 0, 0, 0, 0) (fun _ => 0)).1) (G := (rdd tp.1 tp.2 (0, 0, 0, 0, 0, 0, 0, 0, 0, 0) (fun _ => 0)).2.2.2) hVS hMR ⟨(0, 0, 0, 0, 0, 0, 0, 0, 0, 0), fun _ => 0, rfl, rfl⟩) (fun v870 M870 hr870 => ?_)
          obtain ⟨hF2, hy2⟩ := hr870
          rcases hy2 with ⟨-, rfl, hMI2⟩ | ⟨hP, -⟩
          case inr => exact absurd hP hN
          have hst : ST M870 := ⟨sh, o, l, pi, fa, tp, CI_FM hci (hmd ▸ hF2), hMI2, hpv⟩
          dsimp only [Option.toList, List.cons_append, List.nil_append]
          refine R_icmp_eq (q := 876) (t := 878) rfl rfl rfl (fun h873 => ?_) (fun h873 => absurd rfl h873)
          exact hnext _ hst (hF2.1.trans ((congrArg Prod.snd hmd).trans (hFR.1.trans hm)))
        · dsimp only [Option.toList, List.cons_append, List.nil_append]
          have hMI1 := MI_FR hMI hFR
          obtain ⟨A, I, hmd, hMR⟩ := id hMI1
          rw [← hmd]
          refine R_aload_n (q := 865) rfl rfl rfl ?_
          refine R_aload_n (q := 866) rfl rfl rfl ?_
          refine R_iload_n (q := 867) rfl rfl rfl ?_
          refine R_iconst (q := 868) (v := nI 1) rfl rfl (by decide) ?_
          refine R_iadd (q := 869) rfl rfl ?_
          rw [nI_add]
          refine R_sld (q := 870) rfl rfl (show vp_in _ Lx from in_nI (by omega) (by omega)) ?_
          rw [cl_nI (by omega)]
          refine R_callv1 (q := 873) rfl rfl rfl rfl md_73 (Nat.le_of_ble_eq_true rfl) rfl ?_
          refine R_mono (m200 hVS hMR hRD) (fun v870 M870 hr870 => ?_)
          obtain ⟨hF2, hy2⟩ := hr870
          rcases hy2 with ⟨hN, -⟩ | ⟨-, rfl, hc2⟩
          case inl => exact absurd hP hN
          have hst : ST M870 := by
            rcases hc with ⟨c1, hci⟩ | ⟨c1, hci⟩
            · rcases hc2 with ⟨c2, hmi⟩ | ⟨c2, hmi⟩
              · exact ⟨_, _, _, _, _, _, CI_FM hci (hmd ▸ hF2), hmi, hpv⟩
              · exact absurd c1 c2
            · rcases hc2 with ⟨c2, hmi⟩ | ⟨c2, hmi⟩
              · exact absurd c2 c1
              · exact ⟨_, _, _, _, _, _, CI_FM hci (hmd ▸ hF2), hmi, hpv⟩
          dsimp only [Option.toList, List.cons_append, List.nil_append]
          refine R_icmp_eq (q := 876) (t := 878) rfl rfl rfl (fun h873 => ?_) (fun h873 => absurd rfl h873)
          exact hnext _ hst (hF2.1.trans ((congrArg Prod.snd hmd).trans (hFR.1.trans hm)))
      have hdef : mm_R (Lx, xs) (d + 20) 0 878 [some (.ref 0), some (.ref 1), some (.ref 73), some (.int (nI i))] [] M (fun v M' => v = some (.int 1) ∧ M'.2 = (111, w0)) := hnext M ⟨sh, o, l, pi, fa, tp, hCI, hMI, hpv⟩ hm
      have hsw : ∀ n, n < 32 → mm_R (Lx, xs) (d + 20) 0 33 [some (.ref 0), some (.ref 1), some (.ref 73), some (.int (nI i))] [.int (nI n)] M (fun v M' => v = some (.int 1) ∧ M'.2 = (111, w0)) := by
        intro n hn
        match n, hn with
        | 0, _ => exact R_tsw (t := 128) rfl rfl hop0
        | 1, _ => exact R_tsw (t := 191) rfl rfl hop1
        | 2, _ => exact R_tsw (t := 224) rfl rfl hop2
        | 3, _ => exact R_tsw (t := 247) rfl rfl hop3
        | 4, _ => exact R_tsw (t := 300) rfl rfl hop4
        | 5, _ => exact R_tsw (t := 343) rfl rfl hop5
        | 6, _ => exact R_tsw (t := 406) rfl rfl hop6
        | 7, _ => exact R_tsw (t := 449) rfl rfl hop7
        | 8, _ => exact R_tsw (t := 482) rfl rfl hop8
        | 9, _ => exact R_tsw (t := 535) rfl rfl hop9
        | 10, _ => exact R_tsw (t := 558) rfl rfl hop10
        | 11, _ => exact R_tsw (t := 611) rfl rfl hop11
        | 12, _ => exact R_tsw (t := 654) rfl rfl hop12
        | 13, _ => exact R_tsw (t := 687) rfl rfl hop13
        | 14, _ => exact R_tsw (t := 730) rfl rfl hop14
        | 15, _ => exact R_tsw (t := 753) rfl rfl hop15
        | 16, _ => exact R_tsw (t := 796) rfl rfl hop16
        | 17, _ => exact R_tsw (t := 809) rfl rfl hop17
        | 18, _ => exact R_tsw (t := 832) rfl rfl hop18
        | 19, _ => exact R_tsw (t := 855) rfl rfl hop19
        | 20, _ => exact R_tsw (t := 878) rfl rfl hdef
        | 21, _ => exact R_tsw (t := 878) rfl rfl hdef
        | 22, _ => exact R_tsw (t := 878) rfl rfl hdef
        | 23, _ => exact R_tsw (t := 878) rfl rfl hdef
        | 24, _ => exact R_tsw (t := 878) rfl rfl hdef
        | 25, _ => exact R_tsw (t := 878) rfl rfl hdef
        | 26, _ => exact R_tsw (t := 878) rfl rfl hdef
        | 27, _ => exact R_tsw (t := 878) rfl rfl hdef
        | 28, _ => exact R_tsw (t := 878) rfl rfl hdef
        | 29, _ => exact R_tsw (t := 878) rfl rfl hdef
        | 30, _ => exact R_tsw (t := 878) rfl rfl hdef
        | 31, _ => exact R_tsw (t := 878) rfl rfl hdef
        | n + 32, hn => exact absurd hn (by omega)
      obtain ⟨n, hn, hxn⟩ := and31 (xs i)
      refine R_iload_n (q := 19) rfl rfl rfl ?_
      refine R_aload_n (q := 20) rfl rfl rfl ?_
      refine R_slen (q := 21) rfl rfl ?_
      refine R_bipush (q := 23) (v := nI 6) rfl rfl (by decide) ?_
      refine R_isub (q := 24) rfl rfl ?_
      refine R_icmp_gt (q := 27) (t := 884) rfl rfl rfl (fun h24 => absurd (by have z : (Int32.ofNat Lx - nI 6) < nI i := h24; rw [i_lt, hsub, i_n _ (by omega)] at z; omega) (by decide : ¬ False)) (fun h24 => ?_)
      refine R_aload_n (q := 28) rfl rfl rfl ?_
      refine R_iload_n (q := 29) rfl rfl rfl ?_
      refine R_sld (q := 30) rfl rfl (show vp_in _ Lx from in_nI (by omega) (by omega)) ?_
      rw [cl_nI (by omega)]
      refine R_bipush (q := 32) (v := nI 31) rfl rfl (by decide) ?_
      refine R_iand (q := 33) rfl rfl ?_
      rw [show ((Lx, xs) : mm_S).2 i = xs i from rfl, hxn]
      exact hsw n hn
set_option maxRecDepth 100000 in
theorem mm_law : mm_Law := by
  intro Lx xs hL
  have key : mm_R (Lx, xs) (0 + 20) 0 0 (mm_en 0 [.ref 0]) [] mm_M0 (fun v M' => v = some (.int 1) ∧ M'.2 = (111, 15245)) := by
    show mm_R (Lx, xs) (0 + 20) 0 0 [some (.ref 0), none, none, none] [] mm_M0 _
    have e1 : (mm_add mm_M0 (.inr (11, mm_df 11)) (mm_N 11)).1 1 = some (.inr (11, mm_df 11)) := rfl
    have e2 : (mm_add mm_M0 (.inr (11, mm_df 11)) (mm_N 11)).2 = (2, 12) := rfl
    refine R_new (q := 3) rfl rfl rfl ?_
    refine R_dupa (q := 4) rfl rfl ?_
    refine R_calli0 (q := 7) rfl rfl rfl rfl (Nat.le_of_ble_eq_true rfl) ?_
    refine R_mono (i_desk (w := 12) e1 e2) (fun v4 M4 hr4 => ?_)
    obtain ⟨rfl, hm4, -, hCI⟩ := hr4
    dsimp only [Option.toList, List.cons_append, List.nil_append]
    refine R_astore_n (q := 8) rfl rfl (Nat.le_of_ble_eq_true rfl) rfl ?_
    dsimp only [List.set]
    have hM4 : M4.2.1 = 73 := by rw [hm4]
    have hM4' : M4.2.2 = 2641 := by rw [hm4]
    refine R_new (q := 11) rfl rfl rfl ?_
    rw [hM4]
    have f1 : (mm_add M4 (.inr (12, mm_df 12)) (mm_N 12)).1 73 = some (.inr (12, mm_df 12)) := by
      show mm_u M4.1 M4.2.1 _ 73 = _
      rw [hM4]
      exact if_pos rfl
    have f2 : (mm_add M4 (.inr (12, mm_df 12)) (mm_N 12)).2 = (74, 2692) := by
      show (M4.2.1 + 1, M4.2.2 + mm_N 12) = _
      rw [hM4, hM4']
      rfl
    have f3 : ∀ k, k < 73 → (mm_add M4 (.inr (12, mm_df 12)) (mm_N 12)).1 k = M4.1 k := by
      intro k hk
      show mm_u M4.1 M4.2.1 _ k = _
      rw [hM4]
      exact if_neg (by omega)
    refine R_dupa (q := 12) rfl rfl ?_
    refine R_calli0 (q := 15) rfl rfl rfl rfl (Nat.le_of_ble_eq_true rfl) ?_
    refine R_mono (i_ref (w := 2692) f1 f2) (fun v12 M12 hr12 => ?_)
    obtain ⟨rfl, hm12, hfr, hMI⟩ := hr12
    dsimp only [Option.toList, List.cons_append, List.nil_append]
    refine R_astore_n (q := 16) rfl rfl (Nat.le_of_ble_eq_true rfl) rfl ?_
    dsimp only [List.set]
    refine R_iconst (q := 17) (v := nI 0) rfl rfl (by decide) ?_
    refine R_istore_n (q := 18) rfl rfl (Nat.le_of_ble_eq_true rfl) rfl ?_
    dsimp only [List.set]
    have hCI12 := CI_FM (M' := (M12.1, M4.2)) hCI ⟨rfl, fun k hk => (hfr k hk).trans (f3 k hk)⟩
    have hCI3 := CI_m2 (M' := M12) hCI12 rfl
    exact law_lp hL Lx 0 M12 (by omega) (by omega) ⟨_, _, _, _, _, _, hCI3, hMI, PV_0⟩ hm12
  obtain ⟨n, v, M', h1, h2, h3⟩ := key
  exact ⟨n, 20, M', by rw [h1, h2], by decide, by rw [h3]; decide, by rw [h3]; decide⟩
end P73
