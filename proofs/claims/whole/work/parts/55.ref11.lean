/-! ===== the reference's own calls, XI: layOut, expand ===== -/
def CHI (l : LYS) (n p : Nat) (td0 td : Nat → Int32) (m : Nat) (ch : Nat → EN) : Prop := (∀ i, i < m → (ch i).1 < p ∧ EOK l (ch i) ∧ enc td (n + i) (ch i)) ∧ ∀ i, i < 7 * n → td i = td0 i
def snc (ch : Nat → EN) (m : Nat) (e : EN) : Nat → EN := fun i => if i = m then e else ch i
theorem snc_e {ch : Nat → EN} {m : Nat} {e : EN} : snc ch m e m = e := if_pos rfl
theorem snc_n {ch : Nat → EN} {m i : Nat} {e : EN} (h : i ≠ m) : snc ch m e i = ch i := if_neg h
theorem enc_up7 {td : Nat → Int32} {k t p : Nat} {c a b q r x y : Int32} (hc : c = nI p) (ha : a = trn (4 * t)) (hb' : b = trn (4 * t + 1)) (hq : q = trn (4 * t + 2)) (hr : r = trn (4 * t + 3)) : enc (up7 td (7 * k) c a b q r x y) k (p, t, x, y) := by
  have h := up7_i (f := td) (k := 7 * k) (c := c) (a := a) (b := b) (p := q) (q := r) (x := x) (y := y)
  obtain ⟨⟨h1, h2, h3, h4⟩, h5, h6, h7⟩ := h
  unfold enc
  rw [h1, h2, h3, h4, h5, h6, h7]
  exact ⟨⟨hc, ha, hb', hq⟩, hr, rfl, rfl⟩
theorem CHI_push {l : LYS} {n p m t : Nat} {td0 td : Nat → Int32} {ch : Nat → EN} {c a b q r x y : Int32} {d : Nat} (h : CHI l n p td0 td m ch) (hd : d < p) (hE : EOK l (d, t, x, y)) (hc : c = nI d) (ha : a = trn (4 * t)) (hb' : b = trn (4 * t + 1)) (hq : q = trn (4 * t + 2)) (hr : r = trn (4 * t + 3)) : CHI l n p td0 (up7 td (7 * (n + m)) c a b q r x y) (m + 1) (snc ch m (d, t, x, y)) := by
  refine ⟨fun i hi => ?_, fun i hi => ?_⟩
  · by_cases hz : i = m
    · rw [hz, snc_e]
      exact ⟨hd, hE, enc_up7 hc ha hb' hq hr⟩
    · rw [snc_n hz]
      have h1 := h.1 i (by omega)
      exact ⟨h1.1, h1.2.1, enc_cg (n := n + m) h1.2.2 (fun j hj => up7_o (by omega)) (by omega)⟩
  · rw [up7_o (by omega)]
    exact h.2 i hi
theorem sT_push {l : LYS} {ch : Nat → EN} {m : Nat} {e : EN} : sT l (snc ch m e) (m + 1) = sT l ch m + TT l e.1 := by
  show sT l (snc ch m e) m + TT l (snc ch m e m).1 = _
  rw [sT_cg m (fun i hi => snc_n (by omega)), snc_e]
theorem nI_m1 (n : Nat) (h : n < 1000) : nI (n + 1) + Int32.ofInt (-1) = nI n := by
  rw [i_eq, i_add (by rw [i_n _ (by omega), show (Int32.ofInt (-1)).toInt = -1 from rfl]; omega), i_n _ (by omega), i_n _ (by omega), show (Int32.ofInt (-1)).toInt = -1 from rfl]
  omega
section P55
variable {S : mm_S} {d : Nat} {M : mm_M} {A : AS} {I : Nat → Int32} {sh : Nat → Nat → Int32} {o : OS} {l : LYS} {pi fa tp : IS}
variable {u1 u2 u3 : Option Value} {P : Option Value → mm_M → Prop}
set_option maxRecDepth 8000 in
theorem m167_cp {n p t k cnt : Nat} {x y : Int32} {td0 lf : Nat → Int32} (hV : VS sh o l pi fa tp) (hB : BRl A l) (hT : ∀ i, i < 32 → A 94 i = trn i) (hp : p < 6) (ht : t < 8) (hx : bdd p x) (hy : bdd p y) (hk : k < l.2.1 p) (hT0 : ¬ TT l (pq (l.2.2.2.1 p) k 0) = 0) : ∀ (j i m : Nat) (ch : Nat → EN) (td : Nat → Int32) (t16 t17 : Option Value), i + j = pq (l.2.2.2.1 p) k 6 * pq (l.2.2.2.1 p) k 7 → CHI l n p td0 td m ch → n + sT l ch m + j * TT l (pq (l.2.2.2.1 p) k 0) ≤ 200 → (∀ (m' : Nat) (ch' : Nat → EN) (td' : Nat → Int32) (t13 t14 t15 t16 t17 : Option Value), CHI l n p td0 td' m' ch' → sT l ch' m' = sT l ch m + j * TT l (pq (l.2.2.2.1 p) k 0) → (∀ r, (∃ a, a < m' ∧ r ∈ RR l (ch' a)) ↔ (∃ a, a < m ∧ r ∈ RR l (ch a)) ∨ ∃ i', (i ≤ i' ∧ i' < pq (l.2.2.2.1 p) k 6 * pq (l.2.2.2.1 p) k 7) ∧ r ∈ RR l (chd l p k t x y i')) → mm_R S (d + 1) 167 681 [some (.ref 73), u1, u2, u3, some (.int (nI (n + m'))), some (.int (nI p)), some (.int (trn (4 * t))), some (.int (trn (4 * t + 1))), some (.int (trn (4 * t + 2))), some (.int (trn (4 * t + 3))), some (.int x), some (.int y), some (.int (nI (4 * p + k))), t13, t14, t15, t16, t17] [] (mdm M (upa (upa A 93 td') 95 lf) (upd I 28 (nI cnt))) P) → mm_R S (d + 1) 167 473 [some (.ref 73), u1, u2, u3, some (.int (nI (n + m))), some (.int (nI p)), some (.int (trn (4 * t))), some (.int (trn (4 * t + 1))), some (.int (trn (4 * t + 2))), some (.int (trn (4 * t + 3))), some (.int x), some (.int y), some (.int (nI (4 * p + k))), some (.int (nI (pq (l.2.2.2.1 p) k 6 * pq (l.2.2.2.1 p) k 7))), some (.int (nI (4 * pq (l.2.2.2.1 p) k 1))), some (.int (nI i)), t16, t17] [] (mdm M (upa (upa A 93 td) 95 lf) (upd I 28 (nI cnt))) P := by
  have hv := hV.2.2.1.2.1
  have hnp := (hV.2.2.1.1 p hp).2
  have r3 := (hB p hp).2.2 k hk
  obtain ⟨⟨e84, e87⟩, ⟨e85, e86⟩, ⟨e88, e89⟩, e90, e91⟩ := r3
  obtain ⟨⟨p0, p0'⟩, ⟨p1, p1'⟩, ⟨p2, p3⟩, ⟨p4, p5⟩, ⟨p6, p6', p6''⟩, ⟨p7, p7', p7''⟩⟩ := (hv p hp).2 k hk
  have hcp : pq (l.2.2.2.1 p) k 6 * pq (l.2.2.2.1 p) k 7 ≤ 4 * 4 := Nat.mul_le_mul p6'' p7''
  intro j
  induction j with
  | zero =>
    intro i m ch td t16 t17 hi hC hbu hK
    refine R_iload (q := 475) rfl rfl rfl ?_
    refine R_iload (q := 477) rfl rfl rfl ?_
    refine R_icmp_ge (q := 480) (t := 681) rfl rfl rfl (fun h477 => ?_) (fun h477 => absurd (nI_le (by omega) (by omega)) h477)
    refine hK m ch td _ _ _ _ _ hC (by omega) (fun r => ?_)
    constructor
    · intro h; exact Or.inl h
    · intro h
      rcases h with h | ⟨i', h1, h2⟩
      · exact h
      · omega
  | succ j ih =>
    intro i m ch td t16 t17 hi hC hbu hK
    have hbu : n + sT l ch m + (j + 1) * TT l (pq (l.2.2.2.1 p) k 0) ≤ 200 := hbu
    rw [Nat.add_mul, Nat.one_mul] at hbu
    have hlen := sT_ge m (fun i hi => (hC.1 i hi).2.1)
    have hok := chd_ok hv (i := i) hp hk ht hx hy (by omega) hT0
    have e84' : upa (upa A 93 td) 95 lf 84 (4 * p + k) = nI (pq (l.2.2.2.1 p) k 0) := e84.trans p0
    have e85' : upa (upa A 93 td) 95 lf 85 (4 * p + k) = l.2.2.2.1 p (k * 8 + 2) := e85
    have e86' : upa (upa A 93 td) 95 lf 86 (4 * p + k) = l.2.2.2.1 p (k * 8 + 3) := e86
    have e88' : upa (upa A 93 td) 95 lf 88 (4 * p + k) = l.2.2.2.1 p (k * 8 + 4) := e88
    have e89' : upa (upa A 93 td) 95 lf 89 (4 * p + k) = l.2.2.2.1 p (k * 8 + 5) := e89
    have e90' : upa (upa A 93 td) 95 lf 90 (4 * p + k) = nI (pq (l.2.2.2.1 p) k 6) := e90.trans p6
    have e94 : ∀ i, i < 32 → upa (upa A 93 td) 95 lf 94 i = trn i := hT
    have hm := mT ht (pxv (l.2.2.2.1 p) k (i % pq (l.2.2.2.1 p) k 6)) (pyv (l.2.2.2.1 p) k (i / pq (l.2.2.2.1 p) k 6))
    have hta := tA_mat t ht _ p1' 
    refine R_iload (q := 475) rfl rfl rfl ?_
    refine R_iload (q := 477) rfl rfl rfl ?_
    refine R_icmp_ge (q := 480) (t := 681) rfl rfl rfl (fun h477 => absurd h477 (nI_ge (by omega) (by omega))) (fun h477 => ?_)
    refine R_aload_n (q := 481) rfl rfl rfl ?_
    refine R_getf (q := 484) rfl rfl rfl md_73 rfl ?_
    refine R_iload (q := 486) rfl rfl rfl ?_
    refine R_iaload (q := 487) rfl rfl md_85 (by decide) (by first | assumption | exact in_nI (by omega) (by decide)) ?_
    rw [cl_nI (by omega)]
    rw [e85']
    refine R_iload (q := 489) rfl rfl rfl ?_
    refine R_aload_n (q := 490) rfl rfl rfl ?_
    refine R_getf (q := 493) rfl rfl rfl md_73 rfl ?_
    refine R_iload (q := 495) rfl rfl rfl ?_
    refine R_iaload (q := 496) rfl rfl md_90 (by decide) (by first | assumption | exact in_nI (by omega) (by decide)) ?_
    rw [cl_nI (by omega)]
    rw [e90']
    refine R_irem (q := 497) rfl rfl (fun z => by have := nI_0_of z; omega) ?_
    rw [pk_rem (by omega) (by omega) (by omega)]
    refine R_aload_n (q := 498) rfl rfl rfl ?_
    refine R_getf (q := 501) rfl rfl rfl md_73 rfl ?_
    refine R_iload (q := 503) rfl rfl rfl ?_
    refine R_iaload (q := 504) rfl rfl md_88 (by decide) (by first | assumption | exact in_nI (by omega) (by decide)) ?_
    rw [cl_nI (by omega)]
    rw [e88']
    refine R_imul (q := 505) rfl rfl ?_
    refine R_iadd (q := 506) rfl rfl ?_
    refine R_istore (q := 508) rfl rfl (Nat.le_of_ble_eq_true rfl) rfl ?_
    dsimp only [List.set]
    refine R_aload_n (q := 509) rfl rfl rfl ?_
    refine R_getf (q := 512) rfl rfl rfl md_73 rfl ?_
    refine R_iload (q := 514) rfl rfl rfl ?_
    refine R_iaload (q := 515) rfl rfl md_86 (by decide) (by first | assumption | exact in_nI (by omega) (by decide)) ?_
    rw [cl_nI (by omega)]
    rw [e86']
    refine R_iload (q := 517) rfl rfl rfl ?_
    refine R_aload_n (q := 518) rfl rfl rfl ?_
    refine R_getf (q := 521) rfl rfl rfl md_73 rfl ?_
    refine R_iload (q := 523) rfl rfl rfl ?_
    refine R_iaload (q := 524) rfl rfl md_90 (by decide) (by first | assumption | exact in_nI (by omega) (by decide)) ?_
    rw [cl_nI (by omega)]
    rw [e90']
    refine R_idiv (q := 525) rfl rfl (fun z => by have := nI_0_of z; omega) ?_
    rw [pk_div (by omega) (by omega) (by omega)]
    refine R_aload_n (q := 526) rfl rfl rfl ?_
    refine R_getf (q := 529) rfl rfl rfl md_73 rfl ?_
    refine R_iload (q := 531) rfl rfl rfl ?_
    refine R_iaload (q := 532) rfl rfl md_89 (by decide) (by first | assumption | exact in_nI (by omega) (by decide)) ?_
    rw [cl_nI (by omega)]
    rw [e89']
    refine R_imul (q := 533) rfl rfl ?_
    refine R_iadd (q := 534) rfl rfl ?_
    refine R_istore (q := 536) rfl rfl (Nat.le_of_ble_eq_true rfl) rfl ?_
    dsimp only [List.set]
    rw [show (l.2.2.2.1 p (k * 8 + 2) + nI (i % pq (l.2.2.2.1 p) k 6) * l.2.2.2.1 p (k * 8 + 4)) = pxv (l.2.2.2.1 p) k (i % pq (l.2.2.2.1 p) k 6) from rfl, show (l.2.2.2.1 p (k * 8 + 3) + nI (i / pq (l.2.2.2.1 p) k 6) * l.2.2.2.1 p (k * 8 + 5)) = pyv (l.2.2.2.1 p) k (i / pq (l.2.2.2.1 p) k 6) from rfl]
    refine R_aload_n (q := 537) rfl rfl rfl ?_
    refine R_iload (q := 539) rfl rfl rfl ?_
    refine R_aload_n (q := 540) rfl rfl rfl ?_
    refine R_getf (q := 543) rfl rfl rfl md_73 rfl ?_
    refine R_iload (q := 545) rfl rfl rfl ?_
    refine R_iaload (q := 546) rfl rfl md_84 (by decide) (by first | assumption | exact in_nI (by omega) (by decide)) ?_
    rw [cl_nI (by omega)]
    rw [e84']
    refine R_iload (q := 548) rfl rfl rfl ?_
    refine R_aload_n (q := 549) rfl rfl rfl ?_
    refine R_getf (q := 552) rfl rfl rfl md_73 rfl ?_
    refine R_iload (q := 554) rfl rfl rfl ?_
    refine R_iaload (q := 555) rfl rfl md_94 (by decide) (by first | assumption | exact in_nI (by omega) (by decide)) ?_
    rw [cl_nI (by omega)]
    rw [e94 _ (by omega)]
    refine R_imul (q := 556) rfl rfl ?_
    refine R_iload (q := 558) rfl rfl rfl ?_
    refine R_aload_n (q := 559) rfl rfl rfl ?_
    refine R_getf (q := 562) rfl rfl rfl md_73 rfl ?_
    refine R_iload (q := 564) rfl rfl rfl ?_
    refine R_iconst (q := 565) (v := nI 2) rfl rfl (by decide) ?_
    refine R_iadd (q := 566) rfl rfl ?_
    rw [nI_add]
    refine R_iaload (q := 567) rfl rfl md_94 (by decide) (by first | assumption | exact in_nI (by omega) (by decide)) ?_
    rw [cl_nI (by omega)]
    rw [e94 _ (by omega)]
    refine R_imul (q := 568) rfl rfl ?_
    refine R_iadd (q := 569) rfl rfl ?_
    refine R_iload (q := 571) rfl rfl rfl ?_
    refine R_aload_n (q := 572) rfl rfl rfl ?_
    refine R_getf (q := 575) rfl rfl rfl md_73 rfl ?_
    refine R_iload (q := 577) rfl rfl rfl ?_
    refine R_iconst (q := 578) (v := nI 1) rfl rfl (by decide) ?_
    refine R_iadd (q := 579) rfl rfl ?_
    rw [nI_add]
    refine R_iaload (q := 580) rfl rfl md_94 (by decide) (by first | assumption | exact in_nI (by omega) (by decide)) ?_
    rw [cl_nI (by omega)]
    rw [e94 _ (by omega)]
    refine R_imul (q := 581) rfl rfl ?_
    refine R_iload (q := 583) rfl rfl rfl ?_
    refine R_aload_n (q := 584) rfl rfl rfl ?_
    refine R_getf (q := 587) rfl rfl rfl md_73 rfl ?_
    refine R_iload (q := 589) rfl rfl rfl ?_
    refine R_iconst (q := 590) (v := nI 3) rfl rfl (by decide) ?_
    refine R_iadd (q := 591) rfl rfl ?_
    rw [nI_add]
    refine R_iaload (q := 592) rfl rfl md_94 (by decide) (by first | assumption | exact in_nI (by omega) (by decide)) ?_
    rw [cl_nI (by omega)]
    rw [e94 _ (by omega)]
    refine R_imul (q := 593) rfl rfl ?_
    refine R_iadd (q := 594) rfl rfl ?_
    refine R_iload (q := 596) rfl rfl rfl ?_
    refine R_aload_n (q := 597) rfl rfl rfl ?_
    refine R_getf (q := 600) rfl rfl rfl md_73 rfl ?_
    refine R_iload (q := 602) rfl rfl rfl ?_
    refine R_iaload (q := 603) rfl rfl md_94 (by decide) (by first | assumption | exact in_nI (by omega) (by decide)) ?_
    rw [cl_nI (by omega)]
    rw [e94 _ (by omega)]
    refine R_imul (q := 604) rfl rfl ?_
    refine R_iload (q := 606) rfl rfl rfl ?_
    refine R_aload_n (q := 607) rfl rfl rfl ?_
    refine R_getf (q := 610) rfl rfl rfl md_73 rfl ?_
    refine R_iload (q := 612) rfl rfl rfl ?_
    refine R_iconst (q := 613) (v := nI 2) rfl rfl (by decide) ?_
    refine R_iadd (q := 614) rfl rfl ?_
    rw [nI_add]
    refine R_iaload (q := 615) rfl rfl md_94 (by decide) (by first | assumption | exact in_nI (by omega) (by decide)) ?_
    rw [cl_nI (by omega)]
    rw [e94 _ (by omega)]
    refine R_imul (q := 616) rfl rfl ?_
    refine R_iadd (q := 617) rfl rfl ?_
    refine R_iload (q := 619) rfl rfl rfl ?_
    refine R_aload_n (q := 620) rfl rfl rfl ?_
    refine R_getf (q := 623) rfl rfl rfl md_73 rfl ?_
    refine R_iload (q := 625) rfl rfl rfl ?_
    refine R_iconst (q := 626) (v := nI 1) rfl rfl (by decide) ?_
    refine R_iadd (q := 627) rfl rfl ?_
    rw [nI_add]
    refine R_iaload (q := 628) rfl rfl md_94 (by decide) (by first | assumption | exact in_nI (by omega) (by decide)) ?_
    rw [cl_nI (by omega)]
    rw [e94 _ (by omega)]
    refine R_imul (q := 629) rfl rfl ?_
    refine R_iload (q := 631) rfl rfl rfl ?_
    refine R_aload_n (q := 632) rfl rfl rfl ?_
    refine R_getf (q := 635) rfl rfl rfl md_73 rfl ?_
    refine R_iload (q := 637) rfl rfl rfl ?_
    refine R_iconst (q := 638) (v := nI 3) rfl rfl (by decide) ?_
    refine R_iadd (q := 639) rfl rfl ?_
    rw [nI_add]
    refine R_iaload (q := 640) rfl rfl md_94 (by decide) (by first | assumption | exact in_nI (by omega) (by decide)) ?_
    rw [cl_nI (by omega)]
    rw [e94 _ (by omega)]
    refine R_imul (q := 641) rfl rfl ?_
    refine R_iadd (q := 642) rfl rfl ?_
    refine R_iload (q := 644) rfl rfl rfl ?_
    refine R_iload (q := 646) rfl rfl rfl ?_
    refine R_imul (q := 647) rfl rfl ?_
    refine R_iload (q := 649) rfl rfl rfl ?_
    refine R_iload (q := 651) rfl rfl rfl ?_
    refine R_imul (q := 652) rfl rfl ?_
    refine R_iadd (q := 653) rfl rfl ?_
    refine R_iload (q := 655) rfl rfl rfl ?_
    refine R_iadd (q := 656) rfl rfl ?_
    refine R_iload (q := 658) rfl rfl rfl ?_
    refine R_iload (q := 660) rfl rfl rfl ?_
    refine R_imul (q := 661) rfl rfl ?_
    refine R_iload (q := 663) rfl rfl rfl ?_
    refine R_iload (q := 665) rfl rfl rfl ?_
    refine R_imul (q := 666) rfl rfl ?_
    refine R_iadd (q := 667) rfl rfl ?_
    refine R_iload (q := 669) rfl rfl rfl ?_
    refine R_iadd (q := 670) rfl rfl ?_
    refine R_callv8 (q := 673) rfl rfl rfl rfl md_73 (Nat.le_of_ble_eq_true rfl) rfl ?_
    refine R_mono (m166 (n := n + m) (by omega)) (fun v670 M670 hr670 => ?_)
    obtain ⟨rfl, hm670⟩ := hr670
    rw [hm670]
    dsimp only [Option.toList, List.cons_append, List.nil_append]
    rw [upa_cm (a := 95) (b := 93) (by decide), upa_u, show upa (upa A 93 td) 95 lf 93 = td from rfl]
    refine R_istore (q := 675) rfl rfl (Nat.le_of_ble_eq_true rfl) rfl ?_
    dsimp only [List.set]
    refine R_iinc (q := 678) rfl rfl rfl (nI_i1 i) rfl ?_
    dsimp only [List.set]
    refine R_goto (t := 473) rfl rfl ?_
    rw [hm.1, hm.2, Int32.add_comm (tX _ _ _) x, Int32.add_comm (tY _ _ _) y]
    refine ih (i + 1) (m + 1) _ _ _ _ (by omega) (CHI_push hC hok.1 hok.2 rfl hta.1.1 hta.1.2 hta.2.1.1 hta.2.1.2) (by rw [sT_push]; show n + (sT l ch m + TT l (pq (l.2.2.2.1 p) k 0)) + _ ≤ 200; omega) (fun m' ch' td' t13 t14 t15 t16 t17 k1 k2 k3 => ?_)
    refine hK m' ch' td' _ _ _ _ _ k1 (by rw [k2, sT_push, Nat.add_mul, Nat.one_mul]; show sT l ch m + TT l (pq (l.2.2.2.1 p) k 0) + _ = _; omega) (fun r => ?_)
    rw [k3 r]
    constructor
    · intro z
      rcases z with ⟨a, ha, z⟩ | ⟨i', z1, z2⟩
      · by_cases hq : a = m
        · rw [hq, snc_e] at z
          exact Or.inr ⟨i, by omega, z⟩
        · rw [snc_n hq] at z
          exact Or.inl ⟨a, by omega, z⟩
      · exact Or.inr ⟨i', by omega, z2⟩
    · intro z
      rcases z with ⟨a, ha, z⟩ | ⟨i', z1, z2⟩
      · exact Or.inl ⟨a, by omega, by rw [snc_n (by omega)]; exact z⟩
      · by_cases hq : i' = i
        · subst hq; exact Or.inl ⟨m, by omega, by rw [snc_e]; exact z2⟩
        · exact Or.inr ⟨i', by omega, z2⟩
set_option maxRecDepth 8000 in
theorem m167_pl {n p t cnt : Nat} {x y : Int32} {td0 lf : Nat → Int32} (hV : VS sh o l pi fa tp) (hB : BRl A l) (hT : ∀ i, i < 32 → A 94 i = trn i) (hS : ∀ i, i < 6 → A 92 i = nI (TT l i)) (hp : p < 6) (ht : t < 8) (hx : bdd p x) (hy : bdd p y) (hbu : n + tsum (l.2.2.2.1 p) (TT l) (l.2.1 p) ≤ 200) (K : ∀ (m' : Nat) (ch' : Nat → EN) (td' : Nat → Int32), CHI l n p td0 td' m' ch' → sT l ch' m' = tsum (l.2.2.2.1 p) (TT l) (l.2.1 p) → (∀ r, (∃ a, a < m' ∧ r ∈ RR l (ch' a)) ↔ ∃ k, k < l.2.1 p ∧ ∃ i, i < pq (l.2.2.2.1 p) k 6 * pq (l.2.2.2.1 p) k 7 ∧ r ∈ RR l (chd l p k t x y i)) → HD S d M A I u1 u2 u3 P (n + m') td' lf cnt) : ∀ (j k m : Nat) (ch : Nat → EN) (td : Nat → Int32) (t13 t14 t15 t16 t17 : Option Value), k + j = l.2.1 p → CHI l n p td0 td m ch → sT l ch m = tsum (l.2.2.2.1 p) (TT l) k → (∀ r, (∃ a, a < m ∧ r ∈ RR l (ch a)) ↔ ∃ k', k' < k ∧ ∃ i, i < pq (l.2.2.2.1 p) k' 6 * pq (l.2.2.2.1 p) k' 7 ∧ r ∈ RR l (chd l p k' t x y i)) → mm_R S (d + 1) 167 406 [some (.ref 73), u1, u2, u3, some (.int (nI (n + m))), some (.int (nI p)), some (.int (trn (4 * t))), some (.int (trn (4 * t + 1))), some (.int (trn (4 * t + 2))), some (.int (trn (4 * t + 3))), some (.int x), some (.int y), some (.int (nI (4 * p + k))), t13, t14, t15, t16, t17] [] (mdm M (upa (upa A 93 td) 95 lf) (upd I 28 (nI cnt))) P := by
  have hv := hV.2.2.1.2.1
  have hnp := (hV.2.2.1.1 p hp).2
  have r3 := hB p hp
  intro j
  induction j with
  | zero =>
    intro k m ch td t13 t14 t15 t16 t17 hk hC hs hm
    have hk0 : k = l.2.1 p := by omega
    subst hk0
    have e83 : upa (upa A 93 td) 95 lf 83 p = nI (l.2.1 p) := r3.1.2
    refine R_iload (q := 408) rfl rfl rfl ?_
    refine R_iconst (q := 409) (v := nI 4) rfl rfl (by decide) ?_
    refine R_iload (q := 411) rfl rfl rfl ?_
    refine R_imul (q := 412) rfl rfl ?_
    rw [pk_mul]
    refine R_aload_n (q := 413) rfl rfl rfl ?_
    refine R_getf (q := 416) rfl rfl rfl md_73 rfl ?_
    refine R_iload (q := 418) rfl rfl rfl ?_
    refine R_iaload (q := 419) rfl rfl md_83 (by decide) (by first | assumption | exact in_nI (by omega) (by decide)) ?_
    rw [cl_nI (by omega)]
    rw [e83]
    refine R_iadd (q := 420) rfl rfl ?_
    rw [nI_add]
    refine R_icmp_ge (q := 423) (t := 687) rfl rfl rfl (fun h420 => ?_) (fun h420 => absurd (nI_le (by omega) (by omega)) h420)
    refine R_goto (t := 32) rfl rfl ?_
    exact K m ch td hC hs hm _ _ _ _ _ _ _ _ _ _ _ _ _
  | succ j ih =>
    intro k m ch td t13 t14 t15 t16 t17 hk hC hs hm
    have hkl : k < l.2.1 p := by omega
    have e83 : upa (upa A 93 td) 95 lf 83 p = nI (l.2.1 p) := r3.1.2
    obtain ⟨⟨e84, e87⟩, -, -, e90, e91⟩ := r3.2.2 k hkl
    obtain ⟨⟨p0, p0'⟩, ⟨p1, p1'⟩, -, -, ⟨p6, p6', p6''⟩, ⟨p7, p7', p7''⟩⟩ := (hv p hp).2 k hkl
    have hcp : pq (l.2.2.2.1 p) k 6 * pq (l.2.2.2.1 p) k 7 ≤ 4 * 4 := Nat.mul_le_mul p6'' p7''
    have hts := tsum_mono (p := l.2.2.2.1 p) (T := TT l) (l.2.1 p) (k + 1) (by omega)
    have hts1 : tsum (l.2.2.2.1 p) (TT l) (k + 1) = tsum (l.2.2.2.1 p) (TT l) k + pq (l.2.2.2.1 p) k 6 * pq (l.2.2.2.1 p) k 7 * TT l (pq (l.2.2.2.1 p) k 0) := rfl
    have hTl : TT l (pq (l.2.2.2.1 p) k 0) ≤ 201 := totL_le _ _
    have e84' : upa (upa A 93 td) 95 lf 84 (4 * p + k) = nI (pq (l.2.2.2.1 p) k 0) := e84.trans p0
    have e87' : upa (upa A 93 td) 95 lf 87 (4 * p + k) = nI (pq (l.2.2.2.1 p) k 1) := e87.trans p1
    have e90' : upa (upa A 93 td) 95 lf 90 (4 * p + k) = nI (pq (l.2.2.2.1 p) k 6) := e90.trans p6
    have e91' : upa (upa A 93 td) 95 lf 91 (4 * p + k) = nI (pq (l.2.2.2.1 p) k 7) := e91.trans p7
    have e92 : upa (upa A 93 td) 95 lf 92 (pq (l.2.2.2.1 p) k 0) = nI (TT l (pq (l.2.2.2.1 p) k 0)) := hS _ (by omega)
    have h681 : ∀ (m' : Nat) (ch' : Nat → EN) (td' : Nat → Int32) (t13 t14 t15 t16 t17 : Option Value), CHI l n p td0 td' m' ch' → sT l ch' m' = tsum (l.2.2.2.1 p) (TT l) (k + 1) → (∀ r, (∃ a, a < m' ∧ r ∈ RR l (ch' a)) ↔ ∃ k', k' < k + 1 ∧ ∃ i, i < pq (l.2.2.2.1 p) k' 6 * pq (l.2.2.2.1 p) k' 7 ∧ r ∈ RR l (chd l p k' t x y i)) → mm_R S (d + 1) 167 681 [some (.ref 73), u1, u2, u3, some (.int (nI (n + m'))), some (.int (nI p)), some (.int (trn (4 * t))), some (.int (trn (4 * t + 1))), some (.int (trn (4 * t + 2))), some (.int (trn (4 * t + 3))), some (.int x), some (.int y), some (.int (nI (4 * p + k))), t13, t14, t15, t16, t17] [] (mdm M (upa (upa A 93 td') 95 lf) (upd I 28 (nI cnt))) P := by
      intro m' ch' td' t13 t14 t15 t16 t17 k1 k2 k3
      refine R_iinc (q := 684) rfl rfl rfl (nI_i1 (4 * p + k)) rfl ?_
      dsimp only [List.set]
      refine R_goto (t := 406) rfl rfl ?_
      exact ih (k + 1) m' ch' td' _ _ _ _ _ (by omega) k1 k2 k3
    by_cases hT0 : TT l (pq (l.2.2.2.1 p) k 0) = 0
    · rw [hT0] at e92 hts1
      refine R_iload (q := 408) rfl rfl rfl ?_
      refine R_iconst (q := 409) (v := nI 4) rfl rfl (by decide) ?_
      refine R_iload (q := 411) rfl rfl rfl ?_
      refine R_imul (q := 412) rfl rfl ?_
      rw [pk_mul]
      refine R_aload_n (q := 413) rfl rfl rfl ?_
      refine R_getf (q := 416) rfl rfl rfl md_73 rfl ?_
      refine R_iload (q := 418) rfl rfl rfl ?_
      refine R_iaload (q := 419) rfl rfl md_83 (by decide) (by first | assumption | exact in_nI (by omega) (by decide)) ?_
      rw [cl_nI (by omega)]
      rw [e83]
      refine R_iadd (q := 420) rfl rfl ?_
      rw [nI_add]
      refine R_icmp_ge (q := 423) (t := 687) rfl rfl rfl (fun h420 => absurd h420 (nI_ge (by omega) (by omega))) (fun h420 => ?_)
      refine R_aload_n (q := 424) rfl rfl rfl ?_
      refine R_getf (q := 427) rfl rfl rfl md_73 rfl ?_
      refine R_aload_n (q := 428) rfl rfl rfl ?_
      refine R_getf (q := 431) rfl rfl rfl md_73 rfl ?_
      refine R_iload (q := 433) rfl rfl rfl ?_
      refine R_iaload (q := 434) rfl rfl md_84 (by decide) (by first | assumption | exact in_nI (by omega) (by decide)) ?_
      rw [cl_nI (by omega)]
      rw [e84']
      refine R_iaload (q := 435) rfl rfl md_92 (by decide) (by first | assumption | exact in_nI (by omega) (by decide)) ?_
      rw [cl_nI (by omega)]
      rw [e92]
      refine R_if_le (q := 438) (t := 456) rfl rfl rfl (fun h435 => ?_) (fun h435 => absurd (by decide) h435)
      refine R_iconst (q := 457) (v := nI 0) rfl rfl (by decide) ?_
      refine R_istore (q := 459) rfl rfl (Nat.le_of_ble_eq_true rfl) rfl ?_
      dsimp only [List.set]
      refine R_iconst (q := 460) (v := nI 4) rfl rfl (by decide) ?_
      refine R_aload_n (q := 461) rfl rfl rfl ?_
      refine R_getf (q := 464) rfl rfl rfl md_73 rfl ?_
      refine R_iload (q := 466) rfl rfl rfl ?_
      refine R_iaload (q := 467) rfl rfl md_87 (by decide) (by first | assumption | exact in_nI (by omega) (by decide)) ?_
      rw [cl_nI (by omega)]
      rw [e87']
      refine R_imul (q := 468) rfl rfl ?_
      rw [pk_mul]
      refine R_istore (q := 470) rfl rfl (Nat.le_of_ble_eq_true rfl) rfl ?_
      dsimp only [List.set]
      refine R_iconst (q := 471) (v := nI 0) rfl rfl (by decide) ?_
      refine R_istore (q := 473) rfl rfl (Nat.le_of_ble_eq_true rfl) rfl ?_
      dsimp only [List.set]
      refine R_iload (q := 475) rfl rfl rfl ?_
      refine R_iload (q := 477) rfl rfl rfl ?_
      refine R_icmp_ge (q := 480) (t := 681) rfl rfl rfl (fun h477 => ?_) (fun h477 => absurd (by decide) h477)
      refine h681 m ch td _ _ _ _ _ hC (by rw [hs, hts1]; rfl) (fun r => ?_)
      rw [hm r]
      constructor
      · intro ⟨k', z1, z2⟩; exact ⟨k', by omega, z2⟩
      · intro ⟨k', z1, i, z2, z3⟩
        by_cases hq : k' = k
        · subst hq
          rw [RR_nil hv (by show pq (l.2.2.2.1 p) k' 0 < 6; omega) hT0] at z3
          exact absurd z3 (List.not_mem_nil)
        · exact ⟨k', by omega, i, z2, z3⟩
    · skip
      refine R_iload (q := 408) rfl rfl rfl ?_
      refine R_iconst (q := 409) (v := nI 4) rfl rfl (by decide) ?_
      refine R_iload (q := 411) rfl rfl rfl ?_
      refine R_imul (q := 412) rfl rfl ?_
      rw [pk_mul]
      refine R_aload_n (q := 413) rfl rfl rfl ?_
      refine R_getf (q := 416) rfl rfl rfl md_73 rfl ?_
      refine R_iload (q := 418) rfl rfl rfl ?_
      refine R_iaload (q := 419) rfl rfl md_83 (by decide) (by first | assumption | exact in_nI (by omega) (by decide)) ?_
      rw [cl_nI (by omega)]
      rw [e83]
      refine R_iadd (q := 420) rfl rfl ?_
      rw [nI_add]
      refine R_icmp_ge (q := 423) (t := 687) rfl rfl rfl (fun h420 => absurd h420 (nI_ge (by omega) (by omega))) (fun h420 => ?_)
      refine R_aload_n (q := 424) rfl rfl rfl ?_
      refine R_getf (q := 427) rfl rfl rfl md_73 rfl ?_
      refine R_aload_n (q := 428) rfl rfl rfl ?_
      refine R_getf (q := 431) rfl rfl rfl md_73 rfl ?_
      refine R_iload (q := 433) rfl rfl rfl ?_
      refine R_iaload (q := 434) rfl rfl md_84 (by decide) (by first | assumption | exact in_nI (by omega) (by decide)) ?_
      rw [cl_nI (by omega)]
      rw [e84']
      refine R_iaload (q := 435) rfl rfl md_92 (by decide) (by first | assumption | exact in_nI (by omega) (by decide)) ?_
      rw [cl_nI (by omega)]
      rw [e92]
      refine R_if_le (q := 438) (t := 456) rfl rfl rfl (fun h435 => absurd h435 (by rw [i_le, i_n _ (by omega), i_0]; omega)) (fun h435 => ?_)
      refine R_aload_n (q := 439) rfl rfl rfl ?_
      refine R_getf (q := 442) rfl rfl rfl md_73 rfl ?_
      refine R_iload (q := 444) rfl rfl rfl ?_
      refine R_iaload (q := 445) rfl rfl md_90 (by decide) (by first | assumption | exact in_nI (by omega) (by decide)) ?_
      rw [cl_nI (by omega)]
      rw [e90']
      refine R_aload_n (q := 446) rfl rfl rfl ?_
      refine R_getf (q := 449) rfl rfl rfl md_73 rfl ?_
      refine R_iload (q := 451) rfl rfl rfl ?_
      refine R_iaload (q := 452) rfl rfl md_91 (by decide) (by first | assumption | exact in_nI (by omega) (by decide)) ?_
      rw [cl_nI (by omega)]
      rw [e91']
      refine R_imul (q := 453) rfl rfl ?_
      rw [pk_mul]
      refine R_goto (t := 457) rfl rfl ?_
      refine R_istore (q := 459) rfl rfl (Nat.le_of_ble_eq_true rfl) rfl ?_
      dsimp only [List.set]
      refine R_iconst (q := 460) (v := nI 4) rfl rfl (by decide) ?_
      refine R_aload_n (q := 461) rfl rfl rfl ?_
      refine R_getf (q := 464) rfl rfl rfl md_73 rfl ?_
      refine R_iload (q := 466) rfl rfl rfl ?_
      refine R_iaload (q := 467) rfl rfl md_87 (by decide) (by first | assumption | exact in_nI (by omega) (by decide)) ?_
      rw [cl_nI (by omega)]
      rw [e87']
      refine R_imul (q := 468) rfl rfl ?_
      rw [pk_mul]
      refine R_istore (q := 470) rfl rfl (Nat.le_of_ble_eq_true rfl) rfl ?_
      dsimp only [List.set]
      refine R_iconst (q := 471) (v := nI 0) rfl rfl (by decide) ?_
      refine R_istore (q := 473) rfl rfl (Nat.le_of_ble_eq_true rfl) rfl ?_
      dsimp only [List.set]
      refine m167_cp hV hB hT hp ht hx hy hkl hT0 (pq (l.2.2.2.1 p) k 6 * pq (l.2.2.2.1 p) k 7) 0 m ch td _ _ (by omega) hC (by omega) (fun m' ch' td' t13 t14 t15 t16 t17 k1 k2 k3 => h681 m' ch' td' _ _ _ _ _ k1 (by omega) (fun r => ?_))
      rw [k3 r, hm r]
      constructor
      · intro z
        rcases z with ⟨k', z1, z2⟩ | ⟨i, z1, z2⟩
        · exact ⟨k', by omega, z2⟩
        · exact ⟨k, by omega, i, z1.2, z2⟩
      · intro ⟨k', z1, i, z2, z3⟩
        by_cases hq : k' = k
        · subst hq; exact Or.inr ⟨i, ⟨by omega, z2⟩, z3⟩
        · exact Or.inl ⟨k', by omega, i, z2, z3⟩
set_option maxRecDepth 8000 in
theorem m167_pop (hV : VS sh o l pi fa tp) (hB : BRl A l) (hT : ∀ i, i < 32 → A 94 i = trn i) (hS : ∀ i, i < 6 → A 92 i = nI (TT l i)) : ∀ c, c ≤ 6 → POP S d M A I l u1 u2 u3 P c := by
  have hv := hV.2.2.1.2.1
  intro c
  induction c with
  | zero => intro _ n b cnt e td lf h; exact absurd h (Nat.not_lt_zero _)
  | succ c ih =>
    intro hc n b cnt e td lf h1 hE hen hnb hbu K
    have ih := ih (by omega)
    obtain ⟨p, t, x, y⟩ := e
    obtain ⟨⟨hp, ht⟩, ⟨hx, hy⟩, hT1⟩ := id hE
    obtain ⟨⟨f1, f2, f3, f4⟩, f5, f6, f7⟩ := id hen
    dsimp only at h1 hp ht hx hy hT1 hbu f1 f2 f3 f4 f5 f6 f7
    have hTe := TT_eq hv hp
    have hTe2 : TT l p = l.1 p + tsum (l.2.2.2.1 p) (TT l) (l.2.1 p) := by omega
    have e93 : upa (upa A 93 td) 95 lf 93 = td := rfl
    intro t5 t6 t7 t8 t9 t10 t11 t12 t13 t14 t15 t16 t17
    refine R_iload (q := 34) rfl rfl rfl ?_
    refine R_if_le (q := 37) (t := 690) rfl rfl rfl (fun h34 => absurd h34 (by rw [i_le, i_n _ (by omega), i_0]; omega)) (fun h34 => ?_)
    refine R_iinc (q := 40) rfl rfl rfl (nI_m1 n (by omega)) rfl ?_
    dsimp only [List.set]
    refine R_aload_n (q := 41) rfl rfl rfl ?_
    refine R_getf (q := 44) rfl rfl rfl md_73 rfl ?_
    refine R_bipush (q := 46) (v := nI 7) rfl rfl (by decide) ?_
    refine R_iload (q := 48) rfl rfl rfl ?_
    refine R_imul (q := 49) rfl rfl ?_
    rw [pk_mul]
    refine R_iaload (q := 50) rfl rfl md_93 (by decide) (by first | assumption | exact in_nI (by omega) (by decide)) ?_
    rw [cl_nI (by omega)]
    rw [e93, f1]
    refine R_istore (q := 52) rfl rfl (Nat.le_of_ble_eq_true rfl) rfl ?_
    dsimp only [List.set]
    refine R_aload_n (q := 53) rfl rfl rfl ?_
    refine R_getf (q := 56) rfl rfl rfl md_73 rfl ?_
    refine R_bipush (q := 58) (v := nI 7) rfl rfl (by decide) ?_
    refine R_iload (q := 60) rfl rfl rfl ?_
    refine R_imul (q := 61) rfl rfl ?_
    rw [pk_mul]
    refine R_iconst (q := 62) (v := nI 1) rfl rfl (by decide) ?_
    refine R_iadd (q := 63) rfl rfl ?_
    rw [nI_add]
    refine R_iaload (q := 64) rfl rfl md_93 (by decide) (by first | assumption | exact in_nI (by omega) (by decide)) ?_
    rw [cl_nI (by omega)]
    rw [e93, f2]
    refine R_istore (q := 66) rfl rfl (Nat.le_of_ble_eq_true rfl) rfl ?_
    dsimp only [List.set]
    refine R_aload_n (q := 67) rfl rfl rfl ?_
    refine R_getf (q := 70) rfl rfl rfl md_73 rfl ?_
    refine R_bipush (q := 72) (v := nI 7) rfl rfl (by decide) ?_
    refine R_iload (q := 74) rfl rfl rfl ?_
    refine R_imul (q := 75) rfl rfl ?_
    rw [pk_mul]
    refine R_iconst (q := 76) (v := nI 2) rfl rfl (by decide) ?_
    refine R_iadd (q := 77) rfl rfl ?_
    rw [nI_add]
    refine R_iaload (q := 78) rfl rfl md_93 (by decide) (by first | assumption | exact in_nI (by omega) (by decide)) ?_
    rw [cl_nI (by omega)]
    rw [e93, f3]
    refine R_istore (q := 80) rfl rfl (Nat.le_of_ble_eq_true rfl) rfl ?_
    dsimp only [List.set]
    refine R_aload_n (q := 81) rfl rfl rfl ?_
    refine R_getf (q := 84) rfl rfl rfl md_73 rfl ?_
    refine R_bipush (q := 86) (v := nI 7) rfl rfl (by decide) ?_
    refine R_iload (q := 88) rfl rfl rfl ?_
    refine R_imul (q := 89) rfl rfl ?_
    rw [pk_mul]
    refine R_iconst (q := 90) (v := nI 3) rfl rfl (by decide) ?_
    refine R_iadd (q := 91) rfl rfl ?_
    rw [nI_add]
    refine R_iaload (q := 92) rfl rfl md_93 (by decide) (by first | assumption | exact in_nI (by omega) (by decide)) ?_
    rw [cl_nI (by omega)]
    rw [e93, f4]
    refine R_istore (q := 94) rfl rfl (Nat.le_of_ble_eq_true rfl) rfl ?_
    dsimp only [List.set]
    refine R_aload_n (q := 95) rfl rfl rfl ?_
    refine R_getf (q := 98) rfl rfl rfl md_73 rfl ?_
    refine R_bipush (q := 100) (v := nI 7) rfl rfl (by decide) ?_
    refine R_iload (q := 102) rfl rfl rfl ?_
    refine R_imul (q := 103) rfl rfl ?_
    rw [pk_mul]
    refine R_iconst (q := 104) (v := nI 4) rfl rfl (by decide) ?_
    refine R_iadd (q := 105) rfl rfl ?_
    rw [nI_add]
    refine R_iaload (q := 106) rfl rfl md_93 (by decide) (by first | assumption | exact in_nI (by omega) (by decide)) ?_
    rw [cl_nI (by omega)]
    rw [e93, f5]
    refine R_istore (q := 108) rfl rfl (Nat.le_of_ble_eq_true rfl) rfl ?_
    dsimp only [List.set]
    refine R_aload_n (q := 109) rfl rfl rfl ?_
    refine R_getf (q := 112) rfl rfl rfl md_73 rfl ?_
    refine R_bipush (q := 114) (v := nI 7) rfl rfl (by decide) ?_
    refine R_iload (q := 116) rfl rfl rfl ?_
    refine R_imul (q := 117) rfl rfl ?_
    rw [pk_mul]
    refine R_iconst (q := 118) (v := nI 5) rfl rfl (by decide) ?_
    refine R_iadd (q := 119) rfl rfl ?_
    rw [nI_add]
    refine R_iaload (q := 120) rfl rfl md_93 (by decide) (by first | assumption | exact in_nI (by omega) (by decide)) ?_
    rw [cl_nI (by omega)]
    rw [e93, f6]
    refine R_istore (q := 122) rfl rfl (Nat.le_of_ble_eq_true rfl) rfl ?_
    dsimp only [List.set]
    refine R_aload_n (q := 123) rfl rfl rfl ?_
    refine R_getf (q := 126) rfl rfl rfl md_73 rfl ?_
    refine R_bipush (q := 128) (v := nI 7) rfl rfl (by decide) ?_
    refine R_iload (q := 130) rfl rfl rfl ?_
    refine R_imul (q := 131) rfl rfl ?_
    rw [pk_mul]
    refine R_bipush (q := 133) (v := nI 6) rfl rfl (by decide) ?_
    refine R_iadd (q := 134) rfl rfl ?_
    rw [nI_add]
    refine R_iaload (q := 135) rfl rfl md_93 (by decide) (by first | assumption | exact in_nI (by omega) (by decide)) ?_
    rw [cl_nI (by omega)]
    rw [e93, f7]
    refine R_istore (q := 137) rfl rfl (Nat.le_of_ble_eq_true rfl) rfl ?_
    dsimp only [List.set]
    refine R_bipush (q := 139) (v := nI 6) rfl rfl (by decide) ?_
    refine R_iload (q := 141) rfl rfl rfl ?_
    refine R_imul (q := 142) rfl rfl ?_
    rw [pk_mul]
    refine R_istore (q := 144) rfl rfl (Nat.le_of_ble_eq_true rfl) rfl ?_
    dsimp only [List.set]
    refine m167_bx (td := td) hV hB hp ht hx hy (l.1 p) 0 cnt lf _ _ _ _ _ (by omega) (by omega) (fun lf2 t12 t13 t14 t15 t16 t17 k1 => ?_)
    refine R_iconst (q := 401) (v := nI 4) rfl rfl (by decide) ?_
    refine R_iload (q := 403) rfl rfl rfl ?_
    refine R_imul (q := 404) rfl rfl ?_
    rw [pk_mul]
    refine R_istore (q := 406) rfl rfl (Nat.le_of_ble_eq_true rfl) rfl ?_
    dsimp only [List.set]
    refine m167_pl (td0 := td) hV hB hT hS hp ht hx hy (by omega) (fun m2 ch2 td2 q1 q2 q3 => ?_) (l.2.1 p) 0 0 (fun _ => (p, t, x, y)) td _ _ _ _ _ (by omega) ⟨fun i hi => absurd hi (Nat.not_lt_zero _), fun _ _ => rfl⟩ rfl (fun r => ⟨fun ⟨a, ha, _⟩ => absurd ha (Nat.not_lt_zero _), fun ⟨a, ha, _⟩ => absurd ha (Nat.not_lt_zero _)⟩)
    refine POP_many ih m2 n b (cnt + l.1 p) ch2 td2 lf2 (fun i hi => ⟨by have := (q1.1 i hi).1; omega, (q1.1 i hi).2⟩) hnb (by omega) (fun td3 lf3 cnt3 j1 j2 j3 => ?_)
    refine K td3 lf3 cnt3 (fun i hi => (j1 i hi).trans (q1.2 i hi)) (by show cnt3 = cnt + TT l p; omega) (fun r => ?_)
    rw [j3 r, k1 r, q3 r, RR_mem hv hp]
    constructor
    · intro z
      rcases z with (z | ⟨i, z1, z2⟩) | z
      · exact Or.inl z
      · exact Or.inr (Or.inl ⟨i, z1.2, z2⟩)
      · exact Or.inr (Or.inr z)
    · intro z
      rcases z with z | ⟨i, z1, z2⟩ | z
      · exact Or.inl (Or.inl z)
      · exact Or.inl (Or.inr ⟨i, ⟨by omega, z1⟩, z2⟩)
      · exact Or.inr z
set_option maxRecDepth 8000 in
theorem m167 {c : Nat} {x y : Int32} (hV : VS sh o l pi fa tp) (hB : BRl A l) (hT : ∀ i, i < 32 → A 94 i = trn i) (hS : ∀ i, i < 6 → A 92 i = nI (TT l i)) (hc : c < 6) (h2 : TT l c ≤ 200) (hx : -32 ≤ x.toInt ∧ x.toInt ≤ 32) (hy : -32 ≤ y.toInt ∧ y.toInt ≤ 32) : mm_R S (d + 1) 167 0 (mm_en 167 [.ref 73, .int (nI c), .int x, .int y]) [] (mdm M A I) (fun v M' => v = none ∧ ∃ td lf, M' = (mdm M (upa (upa A 93 td) 95 lf) (upd I 28 (nI (TT l c)))) ∧ ∀ r, MB lf (TT l c) r ↔ r ∈ RR l (c, 0, x, y)) := by
  show mm_R S (d + 1) 167 0 [some (.ref 73), some (.int (nI c)), some (.int x), some (.int y), none, none, none, none, none, none, none, none, none, none, none, none, none, none] [] (mdm M A I) _
  have hv := hV.2.2.1.2.1
  have e92 : A 92 c = nI (TT l c) := hS c hc
  have hend : ∀ (td lf : Nat → Int32), (∀ r, MB lf (TT l c) r ↔ r ∈ RR l (c, 0, x, y)) → HD S d M A I (some (.int (nI c))) (some (.int x)) (some (.int y)) (fun v M' => v = none ∧ ∃ td lf, M' = (mdm M (upa (upa A 93 td) 95 lf) (upd I 28 (nI (TT l c)))) ∧ ∀ r, MB lf (TT l c) r ↔ r ∈ RR l (c, 0, x, y)) 0 td lf (TT l c) := by
    intro td lf hr t5 t6 t7 t8 t9 t10 t11 t12 t13 t14 t15 t16 t17
    refine R_iload (q := 34) rfl rfl rfl ?_
    refine R_if_le (q := 37) (t := 690) rfl rfl rfl (fun h34 => ?_) (fun h34 => absurd (by decide) h34)
    refine R_return rfl rfl ?_
    exact ⟨rfl, td, lf, rfl, hr⟩
  by_cases hT0 : TT l c = 0
  · have h0 := hend (A 93) (A 95) (fun r => by rw [hT0, RR_nil hv hc hT0]; exact ⟨fun ⟨a, ha, _⟩ => absurd ha (Nat.not_lt_zero _), fun z => absurd z (List.not_mem_nil)⟩)
    rw [hT0] at h0 e92 ⊢
    unfold HD at h0
    rw [upa_s, show A 95 = upa A 93 (A 93) 95 from rfl] at h0
    refine R_aload_n (q := 1) rfl rfl rfl ?_
    refine R_iconst (q := 2) (v := nI 0) rfl rfl (by decide) ?_
    refine R_putf (q := 5) rfl rfl rfl md_73 (Nat.le_of_ble_eq_true rfl) rfl (fun hf => absurd hf (by decide)) rfl ?_
    dsimp only [List.set]
    rw [md_f28]
    refine R_aload_n (q := 6) rfl rfl rfl ?_
    refine R_getf (q := 9) rfl rfl rfl md_73 rfl ?_
    refine R_iload_n (q := 10) rfl rfl rfl ?_
    refine R_iaload (q := 11) rfl rfl md_92 (by decide) (by first | assumption | exact in_nI (by omega) (by decide)) ?_
    rw [cl_nI (by omega)]
    rw [e92]
    refine R_if_le (q := 14) (t := 29) rfl rfl rfl (fun h11 => ?_) (fun h11 => absurd (by decide) h11)
    refine R_iconst (q := 30) (v := nI 0) rfl rfl (by decide) ?_
    refine R_istore (q := 32) rfl rfl (Nat.le_of_ble_eq_true rfl) rfl ?_
    dsimp only [List.set]
    have h1 := h0 none none none none none none none none none none none none none
    rw [upa_s, upa_s] at h1
    exact h1
  · have hpop := m167_pop (S := S) (d := d) (M := M) (A := A) (I := I) (u1 := some (.int (nI c))) (u2 := some (.int x)) (u3 := some (.int y)) (P := fun v M' => v = none ∧ ∃ td lf, M' = (mdm M (upa (upa A 93 td) 95 lf) (upd I 28 (nI (TT l c)))) ∧ ∀ r, MB lf (TT l c) r ↔ r ∈ RR l (c, 0, x, y)) hV hB hT hS 6 (Nat.le_refl _)
    refine R_aload_n (q := 1) rfl rfl rfl ?_
    refine R_iconst (q := 2) (v := nI 0) rfl rfl (by decide) ?_
    refine R_putf (q := 5) rfl rfl rfl md_73 (Nat.le_of_ble_eq_true rfl) rfl (fun hf => absurd hf (by decide)) rfl ?_
    dsimp only [List.set]
    rw [md_f28]
    refine R_aload_n (q := 6) rfl rfl rfl ?_
    refine R_getf (q := 9) rfl rfl rfl md_73 rfl ?_
    refine R_iload_n (q := 10) rfl rfl rfl ?_
    refine R_iaload (q := 11) rfl rfl md_92 (by decide) (by first | assumption | exact in_nI (by omega) (by decide)) ?_
    rw [cl_nI (by omega)]
    rw [e92]
    refine R_if_le (q := 14) (t := 29) rfl rfl rfl (fun h11 => absurd h11 (by rw [i_le, i_n _ (by omega), i_0]; omega)) (fun h11 => ?_)
    refine R_aload_n (q := 15) rfl rfl rfl ?_
    refine R_iconst (q := 16) (v := nI 0) rfl rfl (by decide) ?_
    refine R_iload_n (q := 17) rfl rfl rfl ?_
    refine R_iconst (q := 18) (v := nI 1) rfl rfl (by decide) ?_
    refine R_iconst (q := 19) (v := nI 0) rfl rfl (by decide) ?_
    refine R_iconst (q := 20) (v := nI 0) rfl rfl (by decide) ?_
    refine R_iconst (q := 21) (v := nI 1) rfl rfl (by decide) ?_
    refine R_iload_n (q := 22) rfl rfl rfl ?_
    refine R_iload_n (q := 23) rfl rfl rfl ?_
    refine R_callv8 (q := 26) rfl rfl rfl rfl md_73 (Nat.le_of_ble_eq_true rfl) rfl ?_
    refine R_mono (m166 (n := 0) (by omega)) (fun v23 M23 hr23 => ?_)
    obtain ⟨rfl, hm23⟩ := hr23
    rw [hm23]
    dsimp only [Option.toList, List.cons_append, List.nil_append]
    refine R_goto (t := 30) rfl rfl ?_
    refine R_istore (q := 32) rfl rfl (Nat.le_of_ble_eq_true rfl) rfl ?_
    dsimp only [List.set]
    have h1 := hpop 0 0 0 (c, 0, x, y) (up7 (A 93) (7 * 0) (nI c) (nI 1) (nI 0) (nI 0) (nI 1) x y) (A 95) hc ⟨⟨hc, show (0 : Nat) < 8 by decide⟩, ⟨by unfold bdd; dsimp only; omega, by unfold bdd; dsimp only; omega⟩, by dsimp only; omega⟩ (enc_up7 rfl rfl rfl rfl rfl) (Nat.le_refl _) (by dsimp only; omega) (fun td' lf' cnt' k1 k2 k3 => ?_)
    · have h2' := h1 none none none none none none none none none none none none none
      rw [show A 95 = upa A 93 (up7 (A 93) (7 * 0) (nI c) (nI 1) (nI 0) (nI 0) (nI 1) x y) 95 from rfl, upa_s] at h2'
      exact h2'
    · dsimp only at k2
      rw [Nat.zero_add] at k2
      subst k2
      exact hend td' lf' (fun r => by rw [k3 r]; exact ⟨fun z => z.elim (fun ⟨a, ha, _⟩ => absurd ha (Nat.not_lt_zero _)) id, Or.inr⟩)
end P55
