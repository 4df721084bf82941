/-! ===== the desk's own calls, III: expand, measure, check ===== -/
section P39
variable {S : mm_S} {d : Nat} {M M' : mm_M} {sh : Nat → Nat → Int32} {o : OS} {l : LYS} {pi fa tp : IS}
def lrs (l : LYS) (c : Nat) (x y : Int32) : List R4 := rects l.1 l.2.1 l.2.2.1 l.2.2.2.1 6 c 0 x y
def ltt (l : LYS) (c : Nat) : Nat := totL l.1 l.2.1 l.2.2.2.1 (c + 1) c
def exs (l : LYS) (c : Nat) (x y : Int32) (f : Nat → Int32) : Nat → Int32 := ifl (fun i => f i ||| (lrs l c x y).foldl add4 (fun _ => nI 0) i) f 16
theorem add4_pt : ∀ (u : List R4) (f f' : Nat → Int32) (i : Nat), f i = f' i → u.foldl add4 f i = u.foldl add4 f' i := by
  intro u
  induction u with
  | nil => intro f f' i h; exact h
  | cons r u ih =>
    intro f f' i h
    refine ih _ _ i ?_
    unfold add4 ifr
    dsimp only
    rw [h]
theorem hb_fold : ∀ (u : List R4) (f : Nat → Int32), u.all on4 = true → (∀ y, y < 16 → hb (f y)) → ∀ y, y < 16 → hb (u.foldl add4 f y) := by
  intro u
  induction u with
  | nil => intro f _ h; exact h
  | cons r u ih =>
    intro f hu h
    have hu2 := List.all_cons ▸ hu
    rw [Bool.and_eq_true] at hu2
    exact ih _ hu2.2 (hb_add4 hu2.1 h)
set_option maxRecDepth 8000 in
theorem c129 {s c x y : Int32} (h : CI M sh o l pi fa tp) : mm_R S (d + 17) 129 0 (mm_en 129 [.ref 1, .int s, .int c, .int x, .int y]) [] M (fun v M' => FR M M' ∧ ((((shp s ∧ shp c) ∧ upt x 32 ∧ upt y 32) ∧ ltt l (sn c) ≤ 200 ∧ (lrs l (sn c) x y).all on4 = true) ∧ v = some (.int (nI (ltt l (sn c)))) ∧ CI M' (ups sh (sn s) (exs l (sn c) x y (sh (sn s)))) o l pi fa tp ∨ ¬ (((shp s ∧ shp c) ∧ upt x 32 ∧ upt y 32) ∧ ltt l (sn c) ≤ 200 ∧ (lrs l (sn c) x y).all on4 = true) ∧ v = some (.int (-1000)) ∧ CI M' sh o l pi fa tp)) := by
  show mm_R S (d + 17) 129 0 [some (.ref 1), some (.int s), some (.int c), some (.int x), some (.int y), none] [] M _
  obtain ⟨hq1, sf, hq2, hsf⟩ := ci_0 h
  obtain ⟨hl1, hl2, hl3, ⟨tt, hl4⟩, hl5, hl6⟩ := ci_l h
  obtain ⟨g0, hg0⟩ := ci_s h
  refine R_iload_n (q := 1) rfl rfl rfl ?_
  refine R_calls1 (q := 4) rfl rfl rfl rfl (Nat.le_of_ble_eq_true rfl) rfl ?_
  refine R_mono (c139) (fun v1 M1 hr1 => ?_)
  obtain ⟨rfl, hm1⟩ := hr1
  rw [hm1]
  dsimp only [Option.toList, List.cons_append, List.nil_append]
  refine R_if_eq (q := 7) (t := 33) rfl rfl rfl (fun h4 => ?_) (fun h4 => ?_)
  · refine R_sipush (q := 36) (v := (-1000)) rfl rfl (by decide) ?_
    refine R_ireturn rfl rfl ?_
    first
      | exact ⟨FR_r, Or.inr ⟨(fun hP => absurd hP.1.1.1 (of_decide_eq_false (zb_eq0.mp h4))), rfl, h⟩⟩
      | exact ⟨FR_r, Or.inr ⟨(fun hP => absurd hP.1.1.2 (of_decide_eq_false (zb_eq0.mp h11))), rfl, h⟩⟩
      | exact ⟨FR_r, Or.inr ⟨(fun hP => absurd hP.1.2.1 (of_decide_eq_false (zb_eq0.mp h20))), rfl, h⟩⟩
      | exact ⟨FR_r, Or.inr ⟨(fun hP => absurd hP.1.2.2 (of_decide_eq_false (zb_eq0.mp h30))), rfl, h⟩⟩
  · refine R_iload_n (q := 8) rfl rfl rfl ?_
    refine R_calls1 (q := 11) rfl rfl rfl rfl (Nat.le_of_ble_eq_true rfl) rfl ?_
    refine R_mono (c140) (fun v8 M8 hr8 => ?_)
    obtain ⟨rfl, hm8⟩ := hr8
    rw [hm8]
    dsimp only [Option.toList, List.cons_append, List.nil_append]
    refine R_if_eq (q := 14) (t := 33) rfl rfl rfl (fun h11 => ?_) (fun h11 => ?_)
    · refine R_sipush (q := 36) (v := (-1000)) rfl rfl (by decide) ?_
      refine R_ireturn rfl rfl ?_
      first
        | exact ⟨FR_r, Or.inr ⟨(fun hP => absurd hP.1.1.1 (of_decide_eq_false (zb_eq0.mp h4))), rfl, h⟩⟩
        | exact ⟨FR_r, Or.inr ⟨(fun hP => absurd hP.1.1.2 (of_decide_eq_false (zb_eq0.mp h11))), rfl, h⟩⟩
        | exact ⟨FR_r, Or.inr ⟨(fun hP => absurd hP.1.2.1 (of_decide_eq_false (zb_eq0.mp h20))), rfl, h⟩⟩
        | exact ⟨FR_r, Or.inr ⟨(fun hP => absurd hP.1.2.2 (of_decide_eq_false (zb_eq0.mp h30))), rfl, h⟩⟩
    · refine R_iload_n (q := 15) rfl rfl rfl ?_
      refine R_bipush (q := 17) (v := nI 32) rfl rfl (by decide) ?_
      refine R_calls2 (q := 20) rfl rfl rfl rfl (Nat.le_of_ble_eq_true rfl) rfl ?_
      refine R_mono (c141 (by decide)) (fun v17 M17 hr17 => ?_)
      obtain ⟨rfl, hm17⟩ := hr17
      rw [hm17]
      dsimp only [Option.toList, List.cons_append, List.nil_append]
      refine R_if_eq (q := 23) (t := 33) rfl rfl rfl (fun h20 => ?_) (fun h20 => ?_)
      · refine R_sipush (q := 36) (v := (-1000)) rfl rfl (by decide) ?_
        refine R_ireturn rfl rfl ?_
        first
          | exact ⟨FR_r, Or.inr ⟨(fun hP => absurd hP.1.1.1 (of_decide_eq_false (zb_eq0.mp h4))), rfl, h⟩⟩
          | exact ⟨FR_r, Or.inr ⟨(fun hP => absurd hP.1.1.2 (of_decide_eq_false (zb_eq0.mp h11))), rfl, h⟩⟩
          | exact ⟨FR_r, Or.inr ⟨(fun hP => absurd hP.1.2.1 (of_decide_eq_false (zb_eq0.mp h20))), rfl, h⟩⟩
          | exact ⟨FR_r, Or.inr ⟨(fun hP => absurd hP.1.2.2 (of_decide_eq_false (zb_eq0.mp h30))), rfl, h⟩⟩
      · refine R_iload (q := 25) rfl rfl rfl ?_
        refine R_bipush (q := 27) (v := nI 32) rfl rfl (by decide) ?_
        refine R_calls2 (q := 30) rfl rfl rfl rfl (Nat.le_of_ble_eq_true rfl) rfl ?_
        refine R_mono (c141 (by decide)) (fun v27 M27 hr27 => ?_)
        obtain ⟨rfl, hm27⟩ := hr27
        rw [hm27]
        dsimp only [Option.toList, List.cons_append, List.nil_append]
        refine R_if_ne (q := 33) (t := 37) rfl rfl rfl (fun h30 => ?_) (fun h30 => ?_)
        · have hP0 : (shp s ∧ shp c) ∧ upt x 32 ∧ upt y 32 := ⟨⟨of_decide_eq_true (zb_ne0.mp h4), of_decide_eq_true (zb_ne0.mp h11)⟩, of_decide_eq_true (zb_ne0.mp h20), of_decide_eq_true (zb_ne0.mp h30)⟩
          obtain ⟨k, hk, rfl⟩ := i_ix (a := s) 6 (by decide) hP0.1.1.1 hP0.1.1.2
          obtain ⟨k2, hk2, rfl⟩ := i_ix (a := c) 6 (by decide) hP0.1.2.1 hP0.1.2.2
          have e1 : sn (nI k) = k := cl_nI (by omega)
          have e2 : sn (nI k2) = k2 := cl_nI (by omega)
          rw [e1, e2]
          have hT : totL l.1 l.2.1 l.2.2.2.1 (k2 + 1) k2 ≤ 201 := totL_le _ _
          have hci := CI_l (M' := mm_put M 10 (.inl (0, 6, .inl (ifl (fun i => nI (totL l.1 l.2.1 l.2.2.2.1 (k2 + 1) i)) tt (k2 + 1))))) h ⟨LYH_off hl1 (by omega), LYP_off hl2 (by omega), hl3, ⟨_, mm_pe⟩, by rw [mm_pn (by decide)]; exact hl5, hl6⟩ (fun k1 hk1 => mm_pn (by omega))
          have hg1 : CA (mm_put M 10 (.inl (0, 6, .inl (ifl (fun i => nI (totL l.1 l.2.1 l.2.2.2.1 (k2 + 1) i)) tt (k2 + 1))))) 3 g0 := CA_off hg0 (by decide) (by decide)
          have hfr : FR M (mm_put M 10 (.inl (0, 6, .inl (ifl (fun i => nI (totL l.1 l.2.1 l.2.2.2.1 (k2 + 1) i)) tt (k2 + 1))))) := FR_p (by decide)
          have hlf : LF (mm_put M 10 (.inl (0, 6, .inl (ifl (fun i => nI (totL l.1 l.2.1 l.2.2.2.1 (k2 + 1) i)) tt (k2 + 1))))) l.1 l.2.1 l.2.2.1 l.2.2.2.1 (ifl (fun i => nI (totL l.1 l.2.1 l.2.2.2.1 (k2 + 1) i)) tt (k2 + 1)) := ⟨LYH_off hl1 (by omega), LYP_off hl2 (by omega), mm_pe⟩
          have htt : ∀ i, i ≤ k2 → ifl (fun i => nI (totL l.1 l.2.1 l.2.2.2.1 (k2 + 1) i)) tt (k2 + 1) i = nI (totL l.1 l.2.1 l.2.2.2.1 (i + 1) i) := fun i hi => by rw [ifl_lt (by omega), totL_lt (p := i + 1) (by omega) (by omega)]
          obtain ⟨hm1, hm1s, hm2, hms⟩ := ci_0 hci
          refine R_aload_n (q := 38) rfl rfl rfl ?_
          refine R_getf (q := 41) rfl rfl rfl hq1 rfl ?_
          refine R_iload_n (q := 42) rfl rfl rfl ?_
          refine R_callv1 (q := 45) rfl rfl rfl rfl hl1.1 (Nat.le_of_ble_eq_true rfl) rfl ?_
          refine R_mono (c59 hl1 hl2 hl3 hl4 hk2) (fun v42 M42 hr42 => ?_)
          obtain ⟨rfl, hm42⟩ := hr42
          rw [hm42]
          dsimp only [Option.toList, List.cons_append, List.nil_append]
          revert hci hg1 hfr hlf htt hm1
          generalize (ifl (fun i => nI (totL l.1 l.2.1 l.2.2.2.1 (k2 + 1) i)) tt (k2 + 1)) = tq
          generalize hMq : mm_put M 10 (.inl (0, 6, .inl tq)) = Mq
          intro hci hg1 hfr hlf htt hm1
          have hL1 := hlf.1.1
          have hS1 := (ci_h hci) k hk
          obtain ⟨hz1, sf2, hz2, hsf2⟩ := ci_0 hci
          refine R_istore (q := 47) rfl rfl (Nat.le_of_ble_eq_true rfl) rfl ?_
          dsimp only [List.set]
          refine R_iload (q := 49) rfl rfl rfl ?_
          refine R_sipush (q := 52) (v := nI 200) rfl rfl (by decide) ?_
          refine R_icmp_gt (q := 55) (t := 73) rfl rfl rfl (fun h52 => ?_) (fun h52 => ?_)
          · refine R_sipush (q := 76) (v := (-1000)) rfl rfl (by decide) ?_
            refine R_ireturn rfl rfl ?_
            exact ⟨hfr, Or.inr ⟨(fun hP => by have q1 := hP.2.1; rw [i_lt, ik_200, i_n _ (by omega)] at h52; unfold ltt at q1; omega), rfl, hci⟩⟩
          · refine R_aload_n (q := 56) rfl rfl rfl ?_
            refine R_getf (q := 59) rfl rfl rfl hz1 rfl ?_
            refine R_iload_n (q := 60) rfl rfl rfl ?_
            refine R_iload_n (q := 61) rfl rfl rfl ?_
            refine R_iload (q := 63) rfl rfl rfl ?_
            refine R_aload_n (q := 64) rfl rfl rfl ?_
            refine R_getf (q := 67) rfl rfl rfl hz1 rfl ?_
            refine R_callv4 (q := 70) rfl rfl rfl rfl hL1 (Nat.le_of_ble_eq_true rfl) rfl ?_
            refine R_mono (c60 hl3 hk2 htt hlf hg1) (fun v67 M67 hr67 => ?_)
            obtain ⟨g', hm67, hr⟩ := hr67
            rw [hm67]
            have hci4 := CI_4 (g := g') hci
            have hS4 := (ci_h hci4) k hk
            have hfr4 : FR M (mm_put Mq 4 (ro g')) := FR_t hfr (FR_p (by decide))
            rcases hr with ⟨hall, rfl, hgg⟩ | ⟨hall, rfl⟩ <;> dsimp only [Option.toList, List.cons_append, List.nil_append]
            · have hex : ifl (fun i => sh k i ||| g' i) (sh k) 16 = exs l k2 x y (sh k) := ifl_c (fun i hi => by rw [hgg]; exact congrArg (fun z => sh k i ||| z) (add4_pt _ _ _ i (ifl_lt hi)))
              refine R_if_ne (q := 73) (t := 77) rfl rfl rfl (fun h70 => ?_) (fun h70 => absurd h70 (by decide))
              refine R_aload_n (q := 78) rfl rfl rfl ?_
              refine R_getf (q := 81) rfl rfl rfl (by rw [mm_pn (by omega)]; exact hz1) rfl ?_
              refine R_iload_n (q := 82) rfl rfl rfl ?_
              refine R_aaload (q := 83) rfl rfl (by rw [mm_pn (by omega)]; exact hz2) rfl (by first | assumption | exact in_nI (by omega) (by decide)) (by rw [cl_nI (by omega)]; exact hsf2 k hk) ?_
              refine R_aload_n (q := 84) rfl rfl rfl ?_
              refine R_getf (q := 87) rfl rfl rfl (by rw [mm_pn (by omega)]; exact hz1) rfl ?_
              refine R_callv1 (q := 90) rfl rfl rfl rfl hS4.1.1 (Nat.le_of_ble_eq_true rfl) rfl ?_
              refine R_mono (c10 hS4.1 (CA_put hg1)) (fun v87 M87 hr87 => ?_)
              obtain ⟨rfl, hm87⟩ := hr87
              rw [hm87]
              dsimp only [Option.toList, List.cons_append, List.nil_append]
              rw [hex]
              refine R_iload (q := 92) rfl rfl rfl ?_
              refine R_ireturn rfl rfl ?_
              refine ⟨FR_t hfr4 (FR_p (by omega)), Or.inl ⟨⟨hP0, ?_, hall⟩, rfl, ?_⟩⟩
              · rw [i_lt, ik_200, i_n _ (by omega)] at h52
                unfold ltt
                omega
              · exact CI_sh hci4 hk (fun y1 hy => by unfold exs; rw [ifl_lt hy]; exact hb_or (((ci_h h) k hk).2 y1 hy) (hb_fold _ _ hall (fun _ _ => hb_0) y1 hy))
            · refine R_if_ne (q := 73) (t := 77) rfl rfl rfl (fun h70 => absurd rfl h70) (fun h70 => ?_)
              refine R_sipush (q := 76) (v := (-1000)) rfl rfl (by decide) ?_
              refine R_ireturn rfl rfl ?_
              exact ⟨hfr4, Or.inr ⟨(fun hP => absurd (hP.2.2.symm.trans hall) (by decide)), rfl, hci4⟩⟩
        · refine R_sipush (q := 36) (v := (-1000)) rfl rfl (by decide) ?_
          refine R_ireturn rfl rfl ?_
          first
            | exact ⟨FR_r, Or.inr ⟨(fun hP => absurd hP.1.1.1 (of_decide_eq_false (zb_eq0.mp h4))), rfl, h⟩⟩
            | exact ⟨FR_r, Or.inr ⟨(fun hP => absurd hP.1.1.2 (of_decide_eq_false (zb_eq0.mp h11))), rfl, h⟩⟩
            | exact ⟨FR_r, Or.inr ⟨(fun hP => absurd hP.1.2.1 (of_decide_eq_false (zb_eq0.mp h20))), rfl, h⟩⟩
            | exact ⟨FR_r, Or.inr ⟨(fun hP => absurd hP.1.2.2 (of_decide_eq_false (zb_eq0.mp h30))), rfl, h⟩⟩
theorem ffl_le {V : Nat → Int32} {g : Bool} {w : Nat} {P : Nat → IS → Nat → Nat → IS} (hP : ∀ y s i n, s.1 ≤ 256 → (P y s i n).1 ≤ 256) : ∀ k y s, s.1 ≤ 256 → (ffl V g w P k y s).1 ≤ 256 := by
  intro k
  induction k with
  | zero => intro y s h; exact h
  | succ k ih =>
    intro y s h
    exact ih (y + 1) _ (ffx_le (hP y) 16 0 s h)
theorem ffall_le {f p : Nat → Int32} {g : Bool} {w : Nat} : (ffall f g w p).1 ≤ 256 := ffl_le (fun _ _ _ _ h => fapp_le h) 16 0 _ (ffl_le (fun _ _ _ _ h => fapp_le h) 16 0 _ (Nat.zero_le _))
set_option maxRecDepth 8000 in
theorem c132 {s kd0 w : Int32} (h : CI M sh o l pi fa tp) : mm_R S (d + 4) 132 0 (mm_en 132 [.ref 1, .int s, .int kd0, .int w]) [] M (fun v M' => FR M M' ∧ (((shp s ∧ btw kd0 0 1) ∧ btw w 1 16) ∧ v = some (.int (nI (ffall (sh (sn s)) (decide (kd0 = nI 1)) (sn w) fa.2).1)) ∧ CI M' sh o l pi (ffall (sh (sn s)) (decide (kd0 = nI 1)) (sn w) fa.2) tp ∨ ¬ ((shp s ∧ btw kd0 0 1) ∧ btw w 1 16) ∧ v = some (.int (-1000)) ∧ CI M' sh o l pi fa tp)) := by
  show mm_R S (d + 4) 132 0 [some (.ref 1), some (.int s), some (.int kd0), some (.int w)] [] M _
  obtain ⟨hq1, sf, hq2, hsf⟩ := ci_0 h
  refine R_iload_n (q := 1) rfl rfl rfl ?_
  refine R_calls1 (q := 4) rfl rfl rfl rfl (Nat.le_of_ble_eq_true rfl) rfl ?_
  refine R_mono (c139) (fun v1 M1 hr1 => ?_)
  obtain ⟨rfl, hm1⟩ := hr1
  rw [hm1]
  dsimp only [Option.toList, List.cons_append, List.nil_append]
  refine R_if_eq (q := 7) (t := 27) rfl rfl rfl (fun h4 => ?_) (fun h4 => ?_)
  · refine R_sipush (q := 30) (v := (-1000)) rfl rfl (by decide) ?_
    refine R_ireturn rfl rfl ?_
    first
      | exact ⟨FR_r, Or.inr ⟨(fun hP => absurd hP.1.1 (of_decide_eq_false (zb_eq0.mp h4))), rfl, h⟩⟩
      | exact ⟨FR_r, Or.inr ⟨(fun hP => by have q1 := hP.1.2; rw [i_lt, i_0] at h8; omega), rfl, h⟩⟩
      | exact ⟨FR_r, Or.inr ⟨(fun hP => by have q1 := hP.1.2; rw [i_lt, ik_1] at h13; omega), rfl, h⟩⟩
      | exact ⟨FR_r, Or.inr ⟨(fun hP => by have q1 := hP.2; rw [i_lt, ik_1] at h18; omega), rfl, h⟩⟩
      | exact ⟨FR_r, Or.inr ⟨(fun hP => by have q1 := hP.2; rw [i_le, ik_16] at h24; omega), rfl, h⟩⟩
  · refine R_iload_n (q := 8) rfl rfl rfl ?_
    refine R_if_lt (q := 11) (t := 27) rfl rfl rfl (fun h8 => ?_) (fun h8 => ?_)
    · refine R_sipush (q := 30) (v := (-1000)) rfl rfl (by decide) ?_
      refine R_ireturn rfl rfl ?_
      first
        | exact ⟨FR_r, Or.inr ⟨(fun hP => absurd hP.1.1 (of_decide_eq_false (zb_eq0.mp h4))), rfl, h⟩⟩
        | exact ⟨FR_r, Or.inr ⟨(fun hP => by have q1 := hP.1.2; rw [i_lt, i_0] at h8; omega), rfl, h⟩⟩
        | exact ⟨FR_r, Or.inr ⟨(fun hP => by have q1 := hP.1.2; rw [i_lt, ik_1] at h13; omega), rfl, h⟩⟩
        | exact ⟨FR_r, Or.inr ⟨(fun hP => by have q1 := hP.2; rw [i_lt, ik_1] at h18; omega), rfl, h⟩⟩
        | exact ⟨FR_r, Or.inr ⟨(fun hP => by have q1 := hP.2; rw [i_le, ik_16] at h24; omega), rfl, h⟩⟩
    · refine R_iload_n (q := 12) rfl rfl rfl ?_
      refine R_iconst (q := 13) (v := nI 1) rfl rfl (by decide) ?_
      refine R_icmp_gt (q := 16) (t := 27) rfl rfl rfl (fun h13 => ?_) (fun h13 => ?_)
      · refine R_sipush (q := 30) (v := (-1000)) rfl rfl (by decide) ?_
        refine R_ireturn rfl rfl ?_
        first
          | exact ⟨FR_r, Or.inr ⟨(fun hP => absurd hP.1.1 (of_decide_eq_false (zb_eq0.mp h4))), rfl, h⟩⟩
          | exact ⟨FR_r, Or.inr ⟨(fun hP => by have q1 := hP.1.2; rw [i_lt, i_0] at h8; omega), rfl, h⟩⟩
          | exact ⟨FR_r, Or.inr ⟨(fun hP => by have q1 := hP.1.2; rw [i_lt, ik_1] at h13; omega), rfl, h⟩⟩
          | exact ⟨FR_r, Or.inr ⟨(fun hP => by have q1 := hP.2; rw [i_lt, ik_1] at h18; omega), rfl, h⟩⟩
          | exact ⟨FR_r, Or.inr ⟨(fun hP => by have q1 := hP.2; rw [i_le, ik_16] at h24; omega), rfl, h⟩⟩
      · refine R_iload_n (q := 17) rfl rfl rfl ?_
        refine R_iconst (q := 18) (v := nI 1) rfl rfl (by decide) ?_
        refine R_icmp_lt (q := 21) (t := 27) rfl rfl rfl (fun h18 => ?_) (fun h18 => ?_)
        · refine R_sipush (q := 30) (v := (-1000)) rfl rfl (by decide) ?_
          refine R_ireturn rfl rfl ?_
          first
            | exact ⟨FR_r, Or.inr ⟨(fun hP => absurd hP.1.1 (of_decide_eq_false (zb_eq0.mp h4))), rfl, h⟩⟩
            | exact ⟨FR_r, Or.inr ⟨(fun hP => by have q1 := hP.1.2; rw [i_lt, i_0] at h8; omega), rfl, h⟩⟩
            | exact ⟨FR_r, Or.inr ⟨(fun hP => by have q1 := hP.1.2; rw [i_lt, ik_1] at h13; omega), rfl, h⟩⟩
            | exact ⟨FR_r, Or.inr ⟨(fun hP => by have q1 := hP.2; rw [i_lt, ik_1] at h18; omega), rfl, h⟩⟩
            | exact ⟨FR_r, Or.inr ⟨(fun hP => by have q1 := hP.2; rw [i_le, ik_16] at h24; omega), rfl, h⟩⟩
        · refine R_iload_n (q := 22) rfl rfl rfl ?_
          refine R_bipush (q := 24) (v := nI 16) rfl rfl (by decide) ?_
          refine R_icmp_le (q := 27) (t := 31) rfl rfl rfl (fun h24 => ?_) (fun h24 => ?_)
          · have hP : (shp s ∧ btw kd0 0 1) ∧ btw w 1 16 := ⟨⟨of_decide_eq_true (zb_ne0.mp h4), by rw [i_lt, i_0] at h8; rw [i_lt, ik_1] at h13; exact ⟨by omega, by omega⟩⟩, by rw [i_lt, ik_1] at h18; rw [i_le, ik_16] at h24; exact ⟨by omega, by omega⟩⟩
            obtain ⟨k, hk, rfl⟩ := i_ix (a := s) 6 (by decide) hP.1.1.1 hP.1.1.2
            obtain ⟨k2, hk2, rfl⟩ := i_ix (a := w) 17 (by decide) (by omega) (by omega)
            have e1 : sn (nI k) = k := cl_nI (by omega)
            have e2 : sn (nI k2) = k2 := cl_nI (by omega)
            rw [e1, e2]
            have hS := (ci_h h) k hk
            have hF := ci_f h
            have hc89 : ∀ (g : Bool) (v : Int32), v = zb g → mm_R S (d + 3) 89 0 (mm_en 89 [.ref 30, .ref (61 + 2 * k), .int v, .int (nI k2), .ref 51]) [] M (fun v M' => v = none ∧ M' = itm M 51 (ffall (sh k) g k2 fa.2)) := fun g v hv => by rw [hv]; exact c89 (by omega) hS.1 (by omega) hF
            have hle : ∀ g : Bool, (ffall (sh k) g k2 fa.2).1 ≤ 256 := fun g => ffall_le
            refine R_aload_n (q := 32) rfl rfl rfl ?_
            refine R_getf (q := 35) rfl rfl rfl hq1 rfl ?_
            refine R_aload_n (q := 36) rfl rfl rfl ?_
            refine R_getf (q := 39) rfl rfl rfl hq1 rfl ?_
            refine R_iload_n (q := 40) rfl rfl rfl ?_
            refine R_aaload (q := 41) rfl rfl hq2 rfl (by first | assumption | exact in_nI (by omega) (by decide)) (by rw [cl_nI (by omega)]; exact hsf k hk) ?_
            refine R_iload_n (q := 42) rfl rfl rfl ?_
            refine R_iconst (q := 43) (v := nI 1) rfl rfl (by decide) ?_
            refine R_icmp_ne (q := 46) (t := 50) rfl rfl rfl (fun h43 => ?_) (fun h43 => ?_)
            · refine R_iconst (q := 51) (v := nI 0) rfl rfl (by decide) ?_
              refine R_iload_n (q := 52) rfl rfl rfl ?_
              refine R_aload_n (q := 53) rfl rfl rfl ?_
              refine R_getf (q := 56) rfl rfl rfl hq1 rfl ?_
              refine R_callv4 (q := 59) rfl rfl rfl rfl (ci_v h).1.1 (Nat.le_of_ble_eq_true rfl) rfl ?_
              refine R_mono (hc89 (decide (kd0 = nI 1)) _ (by first | (rw [decide_eq_true h43]; rfl) | (rw [decide_eq_false h43]; rfl))) (fun v56 M56 hr56 => ?_)
              obtain ⟨rfl, hm56⟩ := hr56
              rw [hm56]
              dsimp only [Option.toList, List.cons_append, List.nil_append]
              refine R_aload_n (q := 60) rfl rfl rfl ?_
              refine R_getf (q := 63) rfl rfl rfl (by unfold itm; rw [mm_pn (by decide), mm_pn (by decide)]; exact hq1) rfl ?_
              refine R_callv0 (q := 66) rfl rfl rfl rfl (itm_IT (hle _)).1 (Nat.le_of_ble_eq_true rfl) rfl ?_
              refine R_mono (c50 (itm_IT (hle _))) (fun v63 M63 hr63 => ?_)
              obtain ⟨rfl, hm63⟩ := hr63
              rw [hm63]
              dsimp only [Option.toList, List.cons_append, List.nil_append]
              refine R_ireturn rfl rfl ?_
              refine ⟨⟨rfl, fun k1 hk1 => by unfold itm; rw [mm_pn (by omega), mm_pn (by omega)]⟩, Or.inl ⟨hP, rfl, ?_⟩⟩
              exact CI_fa h (itm_IT (hle _)) (fun k1 hk1 => by unfold itm; rw [mm_pn (by omega), mm_pn (by omega)])
            · refine R_iconst (q := 47) (v := nI 1) rfl rfl (by decide) ?_
              refine R_goto (t := 51) rfl rfl ?_
              refine R_iload_n (q := 52) rfl rfl rfl ?_
              refine R_aload_n (q := 53) rfl rfl rfl ?_
              refine R_getf (q := 56) rfl rfl rfl hq1 rfl ?_
              refine R_callv4 (q := 59) rfl rfl rfl rfl (ci_v h).1.1 (Nat.le_of_ble_eq_true rfl) rfl ?_
              refine R_mono (hc89 (decide (kd0 = nI 1)) _ (by first | (rw [decide_eq_true h43]; rfl) | (rw [decide_eq_false h43]; rfl))) (fun v56 M56 hr56 => ?_)
              obtain ⟨rfl, hm56⟩ := hr56
              rw [hm56]
              dsimp only [Option.toList, List.cons_append, List.nil_append]
              refine R_aload_n (q := 60) rfl rfl rfl ?_
              refine R_getf (q := 63) rfl rfl rfl (by unfold itm; rw [mm_pn (by decide), mm_pn (by decide)]; exact hq1) rfl ?_
              refine R_callv0 (q := 66) rfl rfl rfl rfl (itm_IT (hle _)).1 (Nat.le_of_ble_eq_true rfl) rfl ?_
              refine R_mono (c50 (itm_IT (hle _))) (fun v63 M63 hr63 => ?_)
              obtain ⟨rfl, hm63⟩ := hr63
              rw [hm63]
              dsimp only [Option.toList, List.cons_append, List.nil_append]
              refine R_ireturn rfl rfl ?_
              refine ⟨⟨rfl, fun k1 hk1 => by unfold itm; rw [mm_pn (by omega), mm_pn (by omega)]⟩, Or.inl ⟨hP, rfl, ?_⟩⟩
              exact CI_fa h (itm_IT (hle _)) (fun k1 hk1 => by unfold itm; rw [mm_pn (by omega), mm_pn (by omega)])
          · refine R_sipush (q := 30) (v := (-1000)) rfl rfl (by decide) ?_
            refine R_ireturn rfl rfl ?_
            first
              | exact ⟨FR_r, Or.inr ⟨(fun hP => absurd hP.1.1 (of_decide_eq_false (zb_eq0.mp h4))), rfl, h⟩⟩
              | exact ⟨FR_r, Or.inr ⟨(fun hP => by have q1 := hP.1.2; rw [i_lt, i_0] at h8; omega), rfl, h⟩⟩
              | exact ⟨FR_r, Or.inr ⟨(fun hP => by have q1 := hP.1.2; rw [i_lt, ik_1] at h13; omega), rfl, h⟩⟩
              | exact ⟨FR_r, Or.inr ⟨(fun hP => by have q1 := hP.2; rw [i_lt, ik_1] at h18; omega), rfl, h⟩⟩
              | exact ⟨FR_r, Or.inr ⟨(fun hP => by have q1 := hP.2; rw [i_le, ik_16] at h24; omega), rfl, h⟩⟩
/-- what measure answers (the rows that it works on hold what they held) -/
def ISL (f : Nat → Int32) (a : Int32) : Prop := ∃ u r, a = nI (cgN false (ifl f u 16) r)
def HOL (f : Nat → Int32) (a : Int32) : Prop := ∃ u r, a = nI (cgN true (gout (hL1 u f) (hR5 u r f)) (hR5 u r f))
def COR (f : Nat → Int32) (a : Int32) : Prop := ∃ co, a = cntv (ifl (cornv f) co 17) 17
def FND (f co ln st en : Nat → Int32) (s1 s2 : KS) : Prop := lvy (fun y => rm f y &&& rowv f (nI y)) (fun y x => bt (ifl (cornv f) co 17 y) x) 15 1 (0, ln, st, en) = s1 ∧ lvy (fun y => colv f (y - 1) 16 &&& colv f y 16) (fun x y => bt (ifl (cornv f) co 17 y) x) 15 1 s1 = s2
def CHO (f : Nat → Int32) (a : Int32) : Prop := ∃ co ln st en s1 s2, FND f co ln st en s1 s2 ∧ a = nI s2.1
def MSR (f : Nat → Int32) (q a : Int32) : Prop := (q = nI 0 ∧ a = cntv f 16) ∨ (q = nI 1 ∧ ISL f a) ∨ (q = nI 2 ∧ HOL f a) ∨ (q = nI 3 ∧ COR f a) ∨ (q = nI 4 ∧ CHO f a) ∨ ((q.toInt < 0 ∨ 4 < q.toInt) ∧ a = (-1000))
theorem ts_no {q : Int32} {Lq : List (Option Value)} {sq : List Value} {Mq : mm_M} (h : q.toInt < 0 ∨ 4 < q.toInt) : mm_ts 116 0 4 #[36, 46, 60, 74, 95] 12 Lq (.int q :: sq) Mq = some (128, Lq, sq, Mq) := by
  unfold mm_ts
  dsimp only
  rw [if_pos h]
  rfl
theorem CI_sv {u r : Nat → Int32} (h : CI M sh o l pi fa tp) : CI (sv M u r) sh o l pi fa tp := by
  obtain ⟨hv, -, -⟩ := ci_v h
  refine CI_v h ⟨⟨sv_30 hv, (sv_l hv).1, (sv_r hv).1⟩, ⟨u, (sv_l hv).2⟩, r, (sv_r hv).2⟩ (fun k hk => ?_)
  unfold sv
  rw [mm_pn (by omega), mm_pn (by omega)]
theorem FR_sv {u r : Nat → Int32} : FR M (sv M u r) := ⟨rfl, fun k hk => by unfold sv; rw [mm_pn (by omega), mm_pn (by omega)]⟩
theorem CI_chm {co ln st en to pa : Nat → Int32} {n lv ch tr : Int32} (h : CI M sh o l pi fa tp) (hp : okp pa) : CI (chm M co ln st en to pa n lv ch tr) sh o l pi fa tp := by
  refine CI_c h ⟨co, ln, st, en, to, pa, n, lv, ch, tr, ⟨rfl, rfl, rfl, rfl, rfl, rfl, rfl⟩, hp⟩ (fun k hk => ?_)
  unfold chm
  dsimp only
  rw [if_neg (by omega), if_neg (by omega), if_neg (by omega), if_neg (by omega), if_neg (by omega), if_neg (by omega), if_neg (by omega)]
theorem FR_chm {co ln st en to pa : Nat → Int32} {n lv ch tr : Int32} : FR M (chm M co ln st en to pa n lv ch tr) := by
  refine ⟨rfl, fun k hk => ?_⟩
  unfold chm
  dsimp only
  rw [if_neg (by omega), if_neg (by omega), if_neg (by omega), if_neg (by omega), if_neg (by omega), if_neg (by omega), if_neg (by omega)]
set_option maxRecDepth 8000 in
theorem c19q {a : Nat} {f : Nat → Int32} (ha : CA M a f) (haa : a + 1 < 35 ∨ 41 < a) (hc : Qc M) : mm_R S (d + 3) 19 0 (mm_en 19 [.ref 35, .ref a]) [] M (fun v M' => v = none ∧ ∃ co ln st en to pa tr s1 s2, FND f co ln st en s1 s2 ∧ okp pa ∧ M' = chk M (ifl (cornv f) co 17) to pa (nI s1.1) (nI 0) tr s2) := by
  obtain ⟨co, ln, st, en, to, pa, n, lv, ch, tr, hc, hp⟩ := hc
  have h := c19 (S := S) (d := d) (M := M) (co := co) (ln := ln) (st := st) (en := en) (to := to) (pa := pa) (nI0 := n) (lvI := lv) (ch := ch) (tr := tr) ha haa rfl rfl
  rw [ch_self hc] at h
  refine R_mono h (fun v M' hr => ?_)
  refine ⟨hr.1, co, ln, st, en, to, pa, tr, _, _, ?_, hp, hr.2⟩
  exact ⟨rfl, rfl⟩
set_option maxRecDepth 8000 in
theorem c131 {s q : Int32} (h : CI M sh o l pi fa tp) : mm_R S (d + 6) 131 0 (mm_en 131 [.ref 1, .int s, .int q]) [] M (fun v M' => FR M M' ∧ CI M' sh o l pi fa tp ∧ ∃ a, v = some (.int a) ∧ (shp s ∧ MSR (sh (sn s)) q a ∨ ¬ shp s ∧ a = (-1000))) := by
  show mm_R S (d + 6) 131 0 [some (.ref 1), some (.int s), some (.int q)] [] M _
  obtain ⟨hq1, sf, hq2, hsf⟩ := ci_0 h
  obtain ⟨hv, ⟨u0, hu0⟩, r0, hr0⟩ := ci_v h
  have hu : CA M 31 u0 := ⟨hv.2.1, hu0⟩
  have hr : CA M 33 r0 := ⟨hv.2.2, hr0⟩
  refine R_iload_n (q := 1) rfl rfl rfl ?_
  refine R_calls1 (q := 4) rfl rfl rfl rfl (Nat.le_of_ble_eq_true rfl) rfl ?_
  refine R_mono (c139) (fun v1 M1 hr1 => ?_)
  obtain ⟨rfl, hm1⟩ := hr1
  rw [hm1]
  dsimp only [Option.toList, List.cons_append, List.nil_append]
  refine R_if_ne (q := 7) (t := 11) rfl rfl rfl (fun h4 => ?_) (fun h4 => ?_)
  · have hP : shp s := of_decide_eq_true (zb_ne0.mp h4)
    obtain ⟨k, hk, rfl⟩ := i_ix (a := s) 6 (by decide) hP.1 hP.2
    have e1 : sn (nI k) = k := cl_nI (by omega)
    rw [e1]
    have hS := ((ci_h h) k hk).1
    refine R_iload_n (q := 12) rfl rfl rfl ?_
    by_cases hq : q.toInt < 0 ∨ 4 < q.toInt
    · refine R_tsw (t := 128) rfl (ts_no hq) ?_
      refine R_sipush (q := 131) (v := (-1000)) rfl rfl (by decide) ?_
      refine R_ireturn rfl rfl ?_
      exact ⟨FR_r, h, _, rfl, Or.inl ⟨hP, Or.inr (Or.inr (Or.inr (Or.inr (Or.inr ⟨hq, rfl⟩))))⟩⟩
    · obtain ⟨j, hj, rfl⟩ := i_ix (a := q) 5 (by decide) (by omega) (by omega)
      match j, hj with
      | 0, _ =>
        refine R_tsw (t := 48) rfl rfl ?_
        refine R_aload_n (q := 49) rfl rfl rfl ?_
        refine R_getf (q := 52) rfl rfl rfl hq1 rfl ?_
        refine R_iload_n (q := 53) rfl rfl rfl ?_
        refine R_aaload (q := 54) rfl rfl hq2 rfl (by first | assumption | exact in_nI (by omega) (by decide)) (by rw [cl_nI (by omega)]; exact hsf k hk) ?_
        refine R_callv0 (q := 57) rfl rfl rfl rfl hS.1 (Nat.le_of_ble_eq_true rfl) rfl ?_
        refine R_mono (c5 hS) (fun v54 M54 hr54 => ?_)
        obtain ⟨rfl, hm54⟩ := hr54
        rw [hm54]
        dsimp only [Option.toList, List.cons_append, List.nil_append]
        refine R_ireturn rfl rfl ?_
        exact ⟨FR_r, h, _, rfl, Or.inl ⟨hP, Or.inl ⟨rfl, rfl⟩⟩⟩
      | 1, _ =>
        refine R_tsw (t := 58) rfl rfl ?_
        refine R_aload_n (q := 59) rfl rfl rfl ?_
        refine R_getf (q := 62) rfl rfl rfl hq1 rfl ?_
        refine R_aload_n (q := 63) rfl rfl rfl ?_
        refine R_getf (q := 66) rfl rfl rfl hq1 rfl ?_
        refine R_iload_n (q := 67) rfl rfl rfl ?_
        refine R_aaload (q := 68) rfl rfl hq2 rfl (by first | assumption | exact in_nI (by omega) (by decide)) (by rw [cl_nI (by omega)]; exact hsf k hk) ?_
        refine R_callv1 (q := 71) rfl rfl rfl rfl hv.1 (Nat.le_of_ble_eq_true rfl) rfl ?_
        refine R_mono (c84 hv hu hr hS (by omega)) (fun v68 M68 hr68 => ?_)
        obtain ⟨rfl, hm68⟩ := hr68
        rw [hm68]
        dsimp only [Option.toList, List.cons_append, List.nil_append]
        refine R_ireturn rfl rfl ?_
        exact ⟨FR_sv, CI_sv h, _, rfl, Or.inl ⟨hP, Or.inr (Or.inl ⟨rfl, _, _, rfl⟩)⟩⟩
      | 2, _ =>
        refine R_tsw (t := 72) rfl rfl ?_
        refine R_aload_n (q := 73) rfl rfl rfl ?_
        refine R_getf (q := 76) rfl rfl rfl hq1 rfl ?_
        refine R_aload_n (q := 77) rfl rfl rfl ?_
        refine R_getf (q := 80) rfl rfl rfl hq1 rfl ?_
        refine R_iload_n (q := 81) rfl rfl rfl ?_
        refine R_aaload (q := 82) rfl rfl hq2 rfl (by first | assumption | exact in_nI (by omega) (by decide)) (by rw [cl_nI (by omega)]; exact hsf k hk) ?_
        refine R_callv1 (q := 85) rfl rfl rfl rfl hv.1 (Nat.le_of_ble_eq_true rfl) rfl ?_
        refine R_mono (c85 hv hu hr hS (by omega)) (fun v82 M82 hr82 => ?_)
        obtain ⟨rfl, hm82⟩ := hr82
        rw [hm82]
        dsimp only [Option.toList, List.cons_append, List.nil_append]
        refine R_ireturn rfl rfl ?_
        exact ⟨FR_sv, CI_sv h, _, rfl, Or.inl ⟨hP, Or.inr (Or.inr (Or.inl ⟨rfl, _, _, rfl⟩))⟩⟩
      | 3, _ =>
        refine R_tsw (t := 86) rfl rfl ?_
        refine R_aload_n (q := 87) rfl rfl rfl ?_
        refine R_getf (q := 90) rfl rfl rfl hq1 rfl ?_
        refine R_aload_n (q := 91) rfl rfl rfl ?_
        refine R_getf (q := 94) rfl rfl rfl hq1 rfl ?_
        refine R_iload_n (q := 95) rfl rfl rfl ?_
        refine R_aaload (q := 96) rfl rfl hq2 rfl (by first | assumption | exact in_nI (by omega) (by decide)) (by rw [cl_nI (by omega)]; exact hsf k hk) ?_
        obtain ⟨z1, z2, z3, z4, z5, z6, z7, z8, z9, z10, hc0, hp0⟩ := ci_c h
        refine R_callv1 (q := 99) rfl rfl rfl rfl hc0.1 (Nat.le_of_ble_eq_true rfl) rfl ?_
        refine R_mono (c19q hS (by omega) (ci_c h)) (fun v96 M96 hr96 => ?_)
        obtain ⟨rfl, co, ln, st, en, to, pa, tr, s1, s2, hfd, hpa, hm96⟩ := hr96
        rw [hm96]
        dsimp only [Option.toList, List.cons_append, List.nil_append]
        unfold chk
        refine R_aload_n (q := 100) rfl rfl rfl ?_
        refine R_getf (q := 103) rfl rfl rfl (by rw [ch_off (by omega)]; exact hq1) rfl ?_
        refine R_callv0 (q := 106) rfl rfl rfl rfl ch_35 (Nat.le_of_ble_eq_true rfl) rfl ?_
        refine R_mono (c22) (fun v103 M103 hr103 => ?_)
        obtain ⟨rfl, hm103⟩ := hr103
        rw [hm103]
        dsimp only [Option.toList, List.cons_append, List.nil_append]
        refine R_ireturn rfl rfl ?_
        exact ⟨FR_chm, CI_chm h hpa, _, rfl, Or.inl ⟨hP, Or.inr (Or.inr (Or.inr (Or.inl ⟨rfl, _, rfl⟩)))⟩⟩
      | 4, _ =>
        refine R_tsw (t := 107) rfl rfl ?_
        refine R_aload_n (q := 108) rfl rfl rfl ?_
        refine R_getf (q := 111) rfl rfl rfl hq1 rfl ?_
        refine R_aload_n (q := 112) rfl rfl rfl ?_
        refine R_getf (q := 115) rfl rfl rfl hq1 rfl ?_
        refine R_iload_n (q := 116) rfl rfl rfl ?_
        refine R_aaload (q := 117) rfl rfl hq2 rfl (by first | assumption | exact in_nI (by omega) (by decide)) (by rw [cl_nI (by omega)]; exact hsf k hk) ?_
        obtain ⟨z1, z2, z3, z4, z5, z6, z7, z8, z9, z10, hc0, hp0⟩ := ci_c h
        refine R_callv1 (q := 120) rfl rfl rfl rfl hc0.1 (Nat.le_of_ble_eq_true rfl) rfl ?_
        refine R_mono (c19q hS (by omega) (ci_c h)) (fun v117 M117 hr117 => ?_)
        obtain ⟨rfl, co, ln, st, en, to, pa, tr, s1, s2, hfd, hpa, hm117⟩ := hr117
        rw [hm117]
        dsimp only [Option.toList, List.cons_append, List.nil_append]
        unfold chk
        refine R_aload_n (q := 121) rfl rfl rfl ?_
        refine R_getf (q := 124) rfl rfl rfl (by rw [ch_off (by omega)]; exact hq1) rfl ?_
        refine R_callv0 (q := 127) rfl rfl rfl rfl ch_35 (Nat.le_of_ble_eq_true rfl) rfl ?_
        refine R_mono (c20) (fun v124 M124 hr124 => ?_)
        obtain ⟨rfl, hm124⟩ := hr124
        rw [hm124]
        dsimp only [Option.toList, List.cons_append, List.nil_append]
        refine R_ireturn rfl rfl ?_
        exact ⟨FR_chm, CI_chm h hpa, _, rfl, Or.inl ⟨hP, Or.inr (Or.inr (Or.inr (Or.inr (Or.inl ⟨rfl, _, _, _, _, s1, s2, hfd, rfl⟩))))⟩⟩
  · refine R_sipush (q := 10) (v := (-1000)) rfl rfl (by decide) ?_
    refine R_ireturn rfl rfl ?_
    exact ⟨FR_r, h, _, rfl, Or.inr ⟨of_decide_eq_false (zb_eq0.mp h4), rfl⟩⟩
end P39
