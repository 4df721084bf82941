section P23
variable {S : mm_S} {d : Nat} {nb np : Nat → Nat} {bx pl : Nat → Nat → Int32}
theorem tsum_0 {p : Nat → Int32} {T : Nat → Nat} {c n : Nat} (hp : ∀ k, k < n → plok c p k) (h : tsum p T n = 0) : ∀ k, k < n → T (pq p k 0) = 0 := by
  induction n with
  | zero => intro k hk; exact absurd hk (by omega)
  | succ n ih =>
    have h' : tsum p T n + pq p n 6 * pq p n 7 * T (pq p n 0) = 0 := h
    intro k hk
    by_cases e : k = n
    · subst e
      obtain ⟨-, -, -, -, ⟨-, h6, -⟩, -, h7, -⟩ := hp k (by omega)
      have h2 : pq p k 6 * pq p k 7 * T (pq p k 0) = 0 := by omega
      have h3 : 0 < pq p k 6 * pq p k 7 := Nat.mul_pos h6 h7
      rcases Nat.mul_eq_zero.mp h2 with q | q
      · omega
      · exact q
    · exact ih (fun k hk => hp k (by omega)) (by omega) k (by omega)
theorem rects_nil (hv : LYV nb np bx pl) : ∀ n i, i < 6 → totL nb np pl (i + 1) i = 0 → ∀ t x y, rects nb np bx pl n i t x y = [] := by
  intro n
  induction n with
  | zero => intro i _ _ t x y; rfl
  | succ n ih =>
    intro i hi h t x y
    have h1 : (if i = i then min (nb i + tsum (pl i) (totL nb np pl i) (np i)) 201 else totL nb np pl i i) = 0 := h
    rw [if_pos rfl] at h1
    have h2 : nb i = 0 := by omega
    have h3 : tsum (pl i) (totL nb np pl i) (np i) = 0 := by omega
    have h4 := tsum_0 (hv i hi).2 h3
    show ((List.range (nb i)).map _) ++ (List.range (np i)).flatMap _ = []
    rw [h2]
    simp only [List.range_zero, List.map_nil, List.nil_append]
    rw [List.flatMap_eq_nil_iff]
    intro k hk
    have hk' := List.mem_range.mp hk
    obtain ⟨⟨-, q0⟩, -⟩ := (hv i hi).2 k hk'
    have h5 : totL nb np pl (pq (pl i) k 0 + 1) (pq (pl i) k 0) = 0 := by
      rw [← totL_lt (p := pq (pl i) k 0 + 1) (q := i) (by omega) (by omega)]
      exact h4 k hk'
    rw [List.flatMap_eq_nil_iff]
    intro i' _
    rw [List.flatMap_eq_nil_iff]
    intro j' _
    exact ih _ (by omega) h5 _ _ _
set_option maxRecDepth 8000 in
theorem c61 {n top : Nat} {tt : Nat → Int32} (ih : layP S d nb np bx pl tt top n) (hv : LYV nb np bx pl) (htop : top < 6) (htt : ∀ i, i ≤ top → tt i = nI (totL nb np pl (i + 1) i)) : layP S d nb np bx pl tt top (n + 1) := by
  intro c t x y g M hc hct ht hF hg
  have htt' : ∀ i, i ≤ top → ∃ T, T ≤ 201 ∧ tt i = nI T ∧ (T = 0 → ∀ t x y, rects nb np bx pl n i t x y = []) := fun i hi => ⟨_, totL_le _ _, htt i hi, fun h0 => rects_nil hv n i (by omega) h0⟩
  have h62 := fun (k : Nat) (hk : k < np c) (g : Nat → Int32) (M : mm_M) (hF : LF M nb np bx pl tt) (hg : CA M 3 g) => c62 (S := S) (d := d) (x := x) (y := y) ih hv htt' hc hct htop hk ht hF hg
  show mm_R S (d + 3 + 2 * n + 1 + 1) 61 0 [some (.ref 8), some (.int (nI c)), some (.int (nI t)), some (.int x), some (.int y), some (.ref 3), none, none] [] M (LR (((List.range (nb c)).map (fun i => rct (bx c) i t x y)) ++ (List.range (np c)).flatMap (fun k => (List.range (pq (pl c) k 6)).flatMap fun i => (List.range (pq (pl c) k 7)).flatMap fun j => rects nb np bx pl n (pq (pl c) k 0) (tA (pq (pl c) k 1) t) (x + tX t (pxv (pl c) k i) (pyv (pl c) k j)) (y + tY t (pxv (pl c) k i) (pyv (pl c) k j)))) g M)
  generalize hF0 : (fun k => (List.range (pq (pl c) k 6)).flatMap fun i => (List.range (pq (pl c) k 7)).flatMap fun j => rects nb np bx pl n (pq (pl c) k 0) (tA (pq (pl c) k 1) t) (x + tX t (pxv (pl c) k i) (pyv (pl c) k j)) (y + tY t (pxv (pl c) k i) (pyv (pl c) k j))) = F at *
  generalize hB0 : (fun i => rct (bx c) i t x y) = B at *
  have hB1 : ∀ i, rct (bx c) i t x y = B i := fun i => by rw [← hB0]
  have hF1 : ∀ k, ((List.range (pq (pl c) k 6)).flatMap fun i => (List.range (pq (pl c) k 7)).flatMap fun j => rects nb np bx pl n (pq (pl c) k 0) (tA (pq (pl c) k 1) t) (x + tX t (pxv (pl c) k i) (pyv (pl c) k j)) (y + tY t (pxv (pl c) k i) (pyv (pl c) k j))) = F k := fun k => by rw [← hF0]
  obtain ⟨⟨h1, pf, h2, hpf⟩, hp, h10⟩ := id hF
  have hp1 := hp c (by omega)
  obtain ⟨p1, p2, p3, p4, p5⟩ := id hp1
  have hci := in_nI (show c < 6 by omega) (by decide)
  have hl2 : ((List.range (nb c)).map B).all on4 = true → mm_R S (d + 3 + 2 * n + 1 + 1) 61 48 [some (.ref 8), some (.int (nI c)), some (.int (nI t)), some (.int x), some (.int y), some (.ref 3), some (.ref (12 + 3 * c)), some (.int (nI 0))] [] (mm_put M 4 (ro (((List.range (nb c)).map B).foldl add4 g))) (LR (((List.range (nb c)).map B) ++ (List.range (np c)).flatMap F) g M) := by
    intro hall0
    refine R_atM (M' := mm_put M 4 (ro ((((List.range (nb c)).map B) ++ (List.range 0).flatMap F).foldl add4 g))) (by simp) ?_
    refine lpN (fun k => (((List.range (nb c)).map B) ++ (List.range k).flatMap F).all on4 = true → mm_R S (d + 3 + 2 * n + 1 + 1) 61 48 [some (.ref 8), some (.int (nI c)), some (.int (nI t)), some (.int x), some (.int y), some (.ref 3), some (.ref (12 + 3 * c)), some (.int (nI k))] [] (mm_put M 4 (ro ((((List.range (nb c)).map B) ++ (List.range k).flatMap F).foldl add4 g))) (LR (((List.range (nb c)).map B) ++ (List.range (np c)).flatMap F) g M)) (np c) (fun k hk ihk hall => ?_) (fun hall => ?_) 0 (Nat.zero_le _) (by simpa using hall0)
    · have hF2 := LF_4 (c := ro ((((List.range (nb c)).map B) ++ (List.range k).flatMap F).foldl add4 g)) hF
      have hp1 := hF2.2.1 c (by omega)
      obtain ⟨p1, p2, p3, p4, p5⟩ := id hp1
      have h8 := hF2.1.1
      have hcall := h62 k hk ((((List.range (nb c)).map B) ++ (List.range k).flatMap F).foldl add4 g) _ hF2 (CA_34 hg)
      rw [hF1] at hcall
      refine R_iload (q := 50) rfl rfl rfl ?_
      refine R_aload (q := 52) rfl rfl rfl ?_
      refine R_callv0 (q := 55) rfl rfl rfl rfl p1 (Nat.le_of_ble_eq_true rfl) rfl ?_
      refine R_mono (c78 hp1) (fun v52 M52 hr52 => ?_)
      obtain ⟨rfl, hm52⟩ := hr52
      rw [hm52]
      dsimp only [Option.toList, List.cons_append, List.nil_append]
      refine R_icmp_ge (q := 58) (t := 82) rfl rfl rfl (fun h55 => absurd h55 (nI_ge hk (by omega))) (fun h55 => ?_)
      refine R_aload_n (q := 59) rfl rfl rfl ?_
      refine R_iload_n (q := 60) rfl rfl rfl ?_
      refine R_iload (q := 62) rfl rfl rfl ?_
      refine R_iload_n (q := 63) rfl rfl rfl ?_
      refine R_iload_n (q := 64) rfl rfl rfl ?_
      refine R_iload (q := 66) rfl rfl rfl ?_
      refine R_aload (q := 68) rfl rfl rfl ?_
      refine R_callv6 (q := 71) rfl rfl rfl rfl h8 (Nat.le_of_ble_eq_true rfl) rfl ?_
      refine R_mono (hcall) (fun v68 M68 hr68 => ?_)
      obtain ⟨g', hm68, hor68⟩ := hr68
      rw [mm_pp] at hm68
      rw [hm68]
      rcases hor68 with ⟨ha68, rfl, hg68⟩ | ⟨ha68, rfl⟩
      · dsimp only [Option.toList, List.cons_append, List.nil_append]
        refine R_if_ne (q := 74) (t := 76) rfl rfl rfl (fun h71 => ?_) (fun h71 => absurd h71 (by decide))
        refine R_iinc (q := 79) rfl rfl rfl (nI_i1 k) rfl ?_
        dsimp only [List.set]
        refine R_goto (t := 48) rfl rfl ?_
        have hs : (((List.range (nb c)).map B) ++ (List.range (k + 1)).flatMap F) = (((List.range (nb c)).map B) ++ (List.range k).flatMap F) ++ F k := by
          rw [List.range_succ, List.flatMap_append, List.flatMap_singleton, List.append_assoc]
        have hk2 := ihk (by rw [hs, List.all_append, hall, ha68]; rfl)
        rw [hs, List.foldl_append] at hk2
        rw [hg68]
        exact hk2
      · dsimp only [Option.toList, List.cons_append, List.nil_append]
        refine R_if_ne (q := 74) (t := 76) rfl rfl rfl (fun h71 => absurd rfl h71) (fun h71 => ?_)
        refine R_iconst (q := 75) (v := nI 0) rfl rfl (by decide) ?_
        refine R_zreturn rfl rfl (Or.inl rfl) ?_
        exact LR_bad ha68 (fun r hr => List.mem_append_right _ (List.mem_flatMap.mpr ⟨k, List.mem_range.mpr hk, hr⟩))
      
    · refine R_iload (q := 50) rfl rfl rfl ?_
      refine R_aload (q := 52) rfl rfl rfl ?_
      refine R_callv0 (q := 55) rfl rfl rfl rfl ((LF_4 hF).2.1 c (by omega)).1 (Nat.le_of_ble_eq_true rfl) rfl ?_
      refine R_mono (c78 ((LF_4 hF).2.1 c (by omega))) (fun v52 M52 hr52 => ?_)
      obtain ⟨rfl, hm52⟩ := hr52
      rw [hm52]
      dsimp only [Option.toList, List.cons_append, List.nil_append]
      refine R_icmp_ge (q := 58) (t := 82) rfl rfl rfl (fun h55 => ?_) (fun h55 => absurd (nI_le (Nat.le_refl _) (by omega)) h55)
      refine R_iconst (q := 83) (v := nI 1) rfl rfl (by decide) ?_
      refine R_zreturn rfl rfl (by first | exact Or.inl rfl | exact Or.inr rfl | assumption) ?_
      exact ⟨_, rfl, Or.inl ⟨hall, rfl, rfl⟩⟩
  have hl1 : mm_R S (d + 3 + 2 * n + 1 + 1) 61 11 [some (.ref 8), some (.int (nI c)), some (.int (nI t)), some (.int x), some (.int y), some (.ref 3), some (.ref (12 + 3 * c)), some (.int (nI 0))] [] M (LR (((List.range (nb c)).map B) ++ (List.range (np c)).flatMap F) g M) := by
    refine R_atM (M' := mm_put M 4 (ro (((List.range 0).map B).foldl add4 g))) (mm_pself hg.2) ?_
    refine lpN (fun i => ((List.range i).map B).all on4 = true → mm_R S (d + 3 + 2 * n + 1 + 1) 61 11 [some (.ref 8), some (.int (nI c)), some (.int (nI t)), some (.int x), some (.int y), some (.ref 3), some (.ref (12 + 3 * c)), some (.int (nI i))] [] (mm_put M 4 (ro (((List.range i).map B).foldl add4 g))) (LR (((List.range (nb c)).map B) ++ (List.range (np c)).flatMap F) g M)) (nb c) (fun i hi ihi hall => ?_) (fun hall => ?_) 0 (Nat.zero_le _) rfl
    · have hF2 := LF_4 (c := ro (((List.range i).map B).foldl add4 g)) hF
      have hp1 := hF2.2.1 c (by omega)
      obtain ⟨p1, p2, p3, p4, p5⟩ := id hp1
      have hcall := c63 (S := S) (d := d) (i := i) (x := x) (y := y) hp1 (by omega) ht (CA_34 hg)
      rw [hB1] at hcall
      have hs : ((List.range (i + 1)).map B) = ((List.range i).map B) ++ [B i] := by
        rw [List.range_succ, List.map_append]
        rfl
      refine R_iload (q := 13) rfl rfl rfl ?_
      refine R_aload (q := 15) rfl rfl rfl ?_
      refine R_callv0 (q := 18) rfl rfl rfl rfl p1 (Nat.le_of_ble_eq_true rfl) rfl ?_
      refine R_mono (c77 hp1) (fun v15 M15 hr15 => ?_)
      obtain ⟨rfl, hm15⟩ := hr15
      rw [hm15]
      dsimp only [Option.toList, List.cons_append, List.nil_append]
      refine R_icmp_ge (q := 21) (t := 45) rfl rfl rfl (fun h18 => absurd h18 (nI_ge hi (by omega))) (fun h18 => ?_)
      refine R_aload (q := 23) rfl rfl rfl ?_
      refine R_iload (q := 25) rfl rfl rfl ?_
      refine R_iload_n (q := 26) rfl rfl rfl ?_
      refine R_iload_n (q := 27) rfl rfl rfl ?_
      refine R_iload (q := 29) rfl rfl rfl ?_
      refine R_aload (q := 31) rfl rfl rfl ?_
      refine R_calls6 (q := 34) rfl rfl rfl rfl (Nat.le_of_ble_eq_true rfl) rfl ?_
      refine R_mono (R_deep hcall (by omega)) (fun v31 M31 hr31 => ?_)
      obtain ⟨rfl, hm31⟩ := hr31
      dsimp only [Option.toList, List.cons_append, List.nil_append]
      by_cases hon : on4 (B i) = true
      · rw [if_pos hon, mm_pp] at hm31
        rw [hm31, hon]
        refine R_if_ne (q := 37) (t := 39) rfl rfl rfl (fun h34 => ?_) (fun h34 => absurd h34 (by decide))
        refine R_iinc (q := 42) rfl rfl rfl (nI_i1 i) rfl ?_
        dsimp only [List.set]
        refine R_goto (t := 11) rfl rfl ?_
        have hk2 := ihi (by rw [hs, List.all_append, hall]; simp [hon])
        rw [hs, List.foldl_append] at hk2
        exact hk2
      · rw [if_neg hon] at hm31
        have hoff : on4 (B i) = false := by simpa using hon
        rw [hm31, hoff]
        refine R_if_ne (q := 37) (t := 39) rfl rfl rfl (fun h34 => absurd rfl h34) (fun h34 => ?_)
        refine R_iconst (q := 38) (v := nI 0) rfl rfl (by decide) ?_
        refine R_zreturn rfl rfl (Or.inl rfl) ?_
        exact LR_bad (l' := [B i]) (by simp [hoff]) (fun r hr => List.mem_append_left _ (List.mem_map.mpr ⟨i, List.mem_range.mpr hi, (List.mem_singleton.mp hr).symm⟩))
      
    · refine R_iload (q := 13) rfl rfl rfl ?_
      refine R_aload (q := 15) rfl rfl rfl ?_
      refine R_callv0 (q := 18) rfl rfl rfl rfl ((LF_4 hF).2.1 c (by omega)).1 (Nat.le_of_ble_eq_true rfl) rfl ?_
      refine R_mono (c77 ((LF_4 hF).2.1 c (by omega))) (fun v15 M15 hr15 => ?_)
      obtain ⟨rfl, hm15⟩ := hr15
      rw [hm15]
      dsimp only [Option.toList, List.cons_append, List.nil_append]
      refine R_icmp_ge (q := 21) (t := 45) rfl rfl rfl (fun h18 => ?_) (fun h18 => absurd (nI_le (Nat.le_refl _) (by omega)) h18)
      refine R_iconst (q := 46) (v := nI 0) rfl rfl (by decide) ?_
      refine R_istore (q := 48) rfl rfl (Nat.le_of_ble_eq_true rfl) rfl ?_
      dsimp only [List.set]
      exact hl2 hall
  refine R_aload_n (q := 1) rfl rfl rfl ?_
  refine R_getf (q := 4) rfl rfl rfl (by first | assumption | exact mm_pe | (rw [mm_pn (by omega)]; first | assumption | exact mm_pe | (rw [mm_pn (by omega)]; first | assumption | exact mm_pe | (rw [mm_pn (by omega)]; first | assumption | exact mm_pe | (rw [mm_pn (by omega)]; first | assumption | exact mm_pe | (rw [mm_pn (by omega)]; first | assumption | exact mm_pe)))))) rfl ?_
  refine R_iload_n (q := 5) rfl rfl rfl ?_
  refine R_aaload (q := 6) rfl rfl (by first | assumption | exact mm_pe | (rw [mm_pn (by omega)]; first | assumption | exact mm_pe | (rw [mm_pn (by omega)]; first | assumption | exact mm_pe | (rw [mm_pn (by omega)]; first | assumption | exact mm_pe | (rw [mm_pn (by omega)]; first | assumption | exact mm_pe | (rw [mm_pn (by omega)]; first | assumption | exact mm_pe)))))) rfl (by first | assumption | exact in_nI (by omega) (by decide)) (by rw [cl_nI (by omega)]; exact hpf c (by omega)) ?_
  refine R_astore (q := 8) rfl rfl (Nat.le_of_ble_eq_true rfl) rfl ?_
  dsimp only [List.set]
  refine R_iconst (q := 9) (v := nI 0) rfl rfl (by decide) ?_
  refine R_istore (q := 11) rfl rfl (Nat.le_of_ble_eq_true rfl) rfl ?_
  dsimp only [List.set]
  exact hl1
theorem layP_all {top : Nat} {tt : Nat → Int32} (hv : LYV nb np bx pl) (htop : top < 6) (htt : ∀ i, i ≤ top → tt i = nI (totL nb np pl (i + 1) i)) : ∀ n, layP S d nb np bx pl tt top n := by
  intro n
  induction n with
  | zero => intro c t x y g M hc; exact absurd hc (by omega)
  | succ n ih => exact c61 ih hv htop htt
set_option maxRecDepth 8000 in
theorem c60 {c : Nat} {tt g : Nat → Int32} {x y : Int32} {M : mm_M} (hv : LYV nb np bx pl) (hc : c < 6) (htt : ∀ i, i ≤ c → tt i = nI (totL nb np pl (i + 1) i)) (hF : LF M nb np bx pl tt) (hg : CA M 3 g) : mm_R S (d + 16) 60 0 (mm_en 60 [.ref 8, .int (nI c), .int x, .int y, .ref 3]) [] M (fun v M' => ∃ g', M' = mm_put M 4 (ro g') ∧ (((rects nb np bx pl 6 c 0 x y).all on4 = true ∧ v = some (.int (nI 1)) ∧ g' = (rects nb np bx pl 6 c 0 x y).foldl add4 (ifl (fun _ => nI 0) g 16)) ∨ ((rects nb np bx pl 6 c 0 x y).all on4 = false ∧ v = some (.int (nI 0))))) := by
  have hg1 := hg.1
  have h8 := (LF_4 (c := ro (ifl (fun _ => nI 0) g 16)) hF).1.1
  have hcall := layP_all (S := S) (d := d) hv hc htt 6 c 0 x y (ifl (fun _ => nI 0) g 16) _ hc (Nat.le_refl c) (by decide) (LF_4 hF) (CA_34 hg)
  show mm_R S (d + 16) 60 0 [some (.ref 8), some (.int (nI c)), some (.int x), some (.int y), some (.ref 3)] [] M _
  refine R_aload (q := 2) rfl rfl rfl ?_
  refine R_callv0 (q := 5) rfl rfl rfl rfl hg1 (Nat.le_of_ble_eq_true rfl) rfl ?_
  refine R_mono (c7 hg) (fun v2 M2 hr2 => ?_)
  obtain ⟨rfl, hm2⟩ := hr2
  rw [hm2]
  dsimp only [Option.toList, List.cons_append, List.nil_append]
  refine R_aload_n (q := 6) rfl rfl rfl ?_
  refine R_iload_n (q := 7) rfl rfl rfl ?_
  refine R_iconst (q := 8) (v := nI 0) rfl rfl (by decide) ?_
  refine R_iload_n (q := 9) rfl rfl rfl ?_
  refine R_iload_n (q := 10) rfl rfl rfl ?_
  refine R_aload (q := 12) rfl rfl rfl ?_
  refine R_callv5 (q := 15) rfl rfl rfl rfl h8 (Nat.le_of_ble_eq_true rfl) rfl ?_
  refine R_mono ((show mm_R S (d + 15) 61 0 _ [] _ _ from hcall)) (fun v12 M12 hr12 => ?_)
  obtain ⟨g', hm12, hor12⟩ := hr12
  rw [mm_pp] at hm12
  rcases hor12 with ⟨ha12, rfl, hg12⟩ | ⟨ha12, rfl⟩
  · dsimp only [Option.toList, List.cons_append, List.nil_append]
    refine R_zreturn rfl rfl (Or.inr rfl) ?_
    exact ⟨g', hm12, Or.inl ⟨ha12, rfl, hg12⟩⟩
  · dsimp only [Option.toList, List.cons_append, List.nil_append]
    refine R_zreturn rfl rfl (Or.inl rfl) ?_
    exact ⟨g', hm12, Or.inr ⟨ha12, rfl⟩⟩
  
end P23
