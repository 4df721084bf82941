def mm_at (p : Nat) (w : Cond) : Bool := decide (lw_tbl[p]? = some w)
/-- the words that stay when the tables warm -/
def mm_tb : List Cond := lw_tbl.filter goodWord
theorem mm_at_in {p : Nat} {w : Cond} (h : mm_at p w = true) : w ∈ lw_tbl := List.mem_of_getElem? (of_decide_eq_true h)
theorem mm_tb_in {w : Cond} (h : w ∈ lw_tbl) (hg : goodWord w = true) : w ∈ mm_tb := List.mem_filter.mpr ⟨h, hg⟩
theorem mm_at_mem {p : Nat} {w : Cond} (h : mm_at p w = true) (hg : goodWord w = true) : w ∈ mm_tb := mm_tb_in (mm_at_in h) hg
theorem mm_posmem {ws : List Cond} (ps : List Nat) (h : ws = ps.filterMap (fun i => lw_tbl[i]?)) (hg : ws.all goodWord = true) : ∀ w ∈ ws, w ∈ mm_tb := by
  intro w hw
  have h2 := List.all_eq_true.mp hg w hw
  rw [h] at hw
  obtain ⟨i, -, hi⟩ := List.mem_filterMap.mp hw
  exact mm_tb_in (List.mem_of_getElem? hi) h2
theorem mm_good : GoodIn mm_tb mm_tb := fun w hw => ⟨hw, good_of_word (List.mem_filter.mp hw).2⟩
def mm_fok (x : (Nat × Nat) × Nat × Nat × Nat) : Bool := mm_at x.2.2.2 (.fieldLink (mm_cn x.1.1) x.1.2 (mm_cn x.2.1) (mm_T x.2.1 x.2.2.1).2.1 (mm_T x.2.1 x.2.2.1).2.2.1) && decide (x.2.2.1 < mm_N x.2.1 ∧ x.2.1 < 13 ∧ (mm_T x.2.1 x.2.2.1).1 = mm_cn x.2.1)
theorem mm_fok_all : mm_fT.all mm_fok = true := by decide +kernel
def mm_nok (x : (Nat × Nat) × Nat × Nat) : Bool := mm_at x.2.2 (.classLink (mm_cn x.1.1) x.1.2 (mm_cn x.2.1)) && decide (x.2.1 < 13)
theorem mm_nok_all : mm_nT.all mm_nok = true := by decide +kernel
def mm_aok (x : (Nat × Nat) × Nat × Nat × Nat) : Bool := match mm_tc x.2.1 with
  | some c => mm_at x.2.2.1 (.classLink (mm_cn x.1.1) x.1.2 (mm_cn c)) && mm_at x.2.2.2 (.arrayOver (.object (mm_cn c)))
  | none => false
theorem mm_aok_all : mm_aT.all mm_aok = true := by decide +kernel
def mm_cok (x : (Nat × Nat) × Int32 × Nat) : Bool := mm_at x.2.2 (.constant (mm_cn x.1.1) x.1.2 x.2.1)
theorem mm_cok_all : mm_cT.all mm_cok = true := by decide +kernel
def mm_ook (x : (Nat × Nat) × Nat) : Bool := mm_at x.2 (.methodLink (mm_cn x.1.1) x.1.2 Lib.objectInit)
theorem mm_ook_all : mm_oT.all mm_ook = true := by decide +kernel
theorem mm_oi1 : (.instanceMethod Lib.objectInit : Cond) ∈ mm_tb := mm_at_mem (p := 85) (by decide +kernel) rfl
theorem mm_oi2 : (.code Lib.objectInit ⟨#[0xb1]⟩ 1 none : Cond) ∈ mm_tb := mm_tb_in (List.mem_of_getElem? (i := 86) (by decide +kernel)) rfl
theorem mm_ac0 : (.arrayClass .int : Cond) ∈ mm_tb := mm_at_mem (p := 98) (by decide +kernel) rfl
theorem mm_ac1 : (.arrayClass .boolean : Cond) ∈ mm_tb := mm_at_mem (p := 1081) (by decide +kernel) rfl
/-- a method, and a call of it -/
def mm_kok (k : Nat) : Bool := mm_at (mm_po k).2.2.2 (.initialized (mm_cn (mm_ow k))) && decide ((mm_y k).cls = mm_cn (mm_ow k) ∧ (mm_y k).cls ≠ "java/lang/invoke/MethodHandle" ∧ (mm_y k).cls ≠ "java/lang/invoke/VarHandle" ∧ (parseMethodDescriptor (mm_y k).desc).map (fun d => d.parameters.length) = some (mm_np k) ∧ mm_mx k ≤ 30 ∧ (mm_in k = true → (mm_y k).name = "<init>"))
theorem mm_kok_all : (List.range 205).all mm_kok = true := by decide +kernel
def mm_mok (x : (Nat × Nat) × Nat × Nat × Nat × Nat) : Bool :=
  (if x.2.2.2.1 = 0 then mm_at x.2.2.2.2 (.methodLink (mm_cn x.1.1) x.1.2 (mm_y x.2.1)) else mm_at x.2.2.2.2 (.methodLinkNest (mm_cn x.1.1) x.1.2 (mm_y x.2.1) "MaskDesk")) &&
  decide (1 ≤ x.2.1 ∧ x.2.1 < 205 ∧ mm_nn x.2.2.1 x.2.1 ≤ mm_mx x.2.1 ∧ plainName (mm_y x.2.1).cls = true) &&
  (if x.2.2.1 = 1 then mm_at (mm_po x.2.1).2.1 (.static (mm_y x.2.1)) else mm_at (mm_po x.2.1).2.1 (.instanceMethod (mm_y x.2.1)) && (if x.2.2.1 = 0 then mm_at (mm_po x.2.1).2.2.1 (.selects (mm_cn (mm_ow x.2.1)) (mm_y x.2.1) (mm_y x.2.1)) && decide (mm_ow x.2.1 < 13) else decide (x.2.2.1 = 2 ∧ (mm_y x.2.1).name = "<init>" ∧ mm_rt x.2.1 = none)))
theorem mm_mok_all : mm_mT.all mm_mok = true := by decide +kernel
def mm_cP (k : Nat) : Prop := 1 ≤ k → (.code (mm_y k) (mm_by k) (mm_mx k) (mm_rt k) : Cond) ∈ mm_tb
def mm_jok (x : (Nat × Nat) × Nat × Nat) : Bool := (match x.2.1 with
  | 0 => mm_at x.2.2 (.methodLink (mm_cn x.1.1) x.1.2 Lib.Math.max.name)
  | 1 => mm_at x.2.2 (.methodLink (mm_cn x.1.1) x.1.2 Lib.Math.min.name)
  | _ => mm_at x.2.2 (.methodLink (mm_cn x.1.1) x.1.2 Lib.Math.abs.name))
theorem mm_jok_all : mm_jT.all mm_jok = true := by decide +kernel
theorem mm_ji : (.initialized "java/lang/Math" : Cond) ∈ mm_tb := mm_at_mem (p := 77) (by decide +kernel) rfl
theorem mm_js0 : (.static Lib.Math.max.name : Cond) ∈ mm_tb := mm_at_mem (p := 406) (by decide +kernel) rfl
theorem mm_js1 : (.static Lib.Math.min.name : Cond) ∈ mm_tb := mm_at_mem (p := 409) (by decide +kernel) rfl
theorem mm_js2 : (.static Lib.Math.abs.name : Cond) ∈ mm_tb := mm_at_mem (p := 559) (by decide +kernel) rfl
theorem mm_jc0 : (.code Lib.Math.max.name Lib.Math.max.code 2 (some .int) : Cond) ∈ mm_tb := mm_tb_in (List.mem_of_getElem? (i := 407) (by decide +kernel)) rfl
theorem mm_jc1 : (.code Lib.Math.min.name Lib.Math.min.code 2 (some .int) : Cond) ∈ mm_tb := mm_tb_in (List.mem_of_getElem? (i := 410) (by decide +kernel)) rfl
theorem mm_jc2 : (.code Lib.Math.abs.name Lib.Math.abs.code 1 (some .int) : Cond) ∈ mm_tb := mm_tb_in (List.mem_of_getElem? (i := 560) (by decide +kernel)) rfl
theorem cv_0 : mm_cP 0 := fun h => absurd h (by decide)
set_option maxRecDepth 100000 in
theorem cv_1 : mm_cP 1 := fun _ => mm_tb_in (List.mem_of_getElem? (i := 92) rfl) rfl
set_option maxRecDepth 100000 in
theorem cv_2 : mm_cP 2 := fun _ => mm_tb_in (List.mem_of_getElem? (i := 414) rfl) rfl
set_option maxRecDepth 100000 in
theorem cv_3 : mm_cP 3 := fun _ => mm_tb_in (List.mem_of_getElem? (i := 661) rfl) rfl
set_option maxRecDepth 100000 in
theorem cv_4 : mm_cP 4 := fun _ => mm_tb_in (List.mem_of_getElem? (i := 577) rfl) rfl
set_option maxRecDepth 100000 in
theorem cv_5 : mm_cP 5 := fun _ => mm_tb_in (List.mem_of_getElem? (i := 588) rfl) rfl
set_option maxRecDepth 100000 in
theorem cv_6 : mm_cP 6 := fun _ => mm_tb_in (List.mem_of_getElem? (i := 419) rfl) rfl
set_option maxRecDepth 100000 in
theorem cv_7 : mm_cP 7 := fun _ => mm_tb_in (List.mem_of_getElem? (i := 404) rfl) rfl
set_option maxRecDepth 100000 in
theorem cv_8 : mm_cP 8 := fun _ => mm_tb_in (List.mem_of_getElem? (i := 450) rfl) rfl
set_option maxRecDepth 100000 in
theorem cv_9 : mm_cP 9 := fun _ => mm_tb_in (List.mem_of_getElem? (i := 626) rfl) rfl
set_option maxRecDepth 100000 in
theorem cv_10 : mm_cP 10 := fun _ => mm_tb_in (List.mem_of_getElem? (i := 424) rfl) rfl
set_option maxRecDepth 100000 in
theorem cv_11 : mm_cP 11 := fun _ => mm_tb_in (List.mem_of_getElem? (i := 618) rfl) rfl
set_option maxRecDepth 100000 in
theorem cv_12 : mm_cP 12 := fun _ => mm_tb_in (List.mem_of_getElem? (i := 364) rfl) rfl
set_option maxRecDepth 100000 in
theorem cv_13 : mm_cP 13 := fun _ => mm_tb_in (List.mem_of_getElem? (i := 793) rfl) rfl
set_option maxRecDepth 100000 in
theorem cv_14 : mm_cP 14 := fun _ => mm_tb_in (List.mem_of_getElem? (i := 436) rfl) rfl
set_option maxRecDepth 100000 in
theorem cv_15 : mm_cP 15 := fun _ => mm_tb_in (List.mem_of_getElem? (i := 439) rfl) rfl
set_option maxRecDepth 100000 in
theorem cv_16 : mm_cP 16 := fun _ => mm_tb_in (List.mem_of_getElem? (i := 454) rfl) rfl
set_option maxRecDepth 100000 in
theorem cv_17 : mm_cP 17 := fun _ => mm_tb_in (List.mem_of_getElem? (i := 459) rfl) rfl
set_option maxRecDepth 100000 in
theorem cv_18 : mm_cP 18 := fun _ => mm_tb_in (List.mem_of_getElem? (i := 170) rfl) rfl
set_option maxRecDepth 100000 in
theorem cv_19 : mm_cP 19 := fun _ => mm_tb_in (List.mem_of_getElem? (i := 631) rfl) rfl
set_option maxRecDepth 100000 in
theorem cv_20 : mm_cP 20 := fun _ => mm_tb_in (List.mem_of_getElem? (i := 670) rfl) rfl
set_option maxRecDepth 100000 in
theorem cv_21 : mm_cP 21 := fun _ => mm_tb_in (List.mem_of_getElem? (i := 705) rfl) rfl
set_option maxRecDepth 100000 in
theorem cv_22 : mm_cP 22 := fun _ => mm_tb_in (List.mem_of_getElem? (i := 665) rfl) rfl
set_option maxRecDepth 100000 in
theorem cv_23 : mm_cP 23 := fun _ => mm_tb_in (List.mem_of_getElem? (i := 734) rfl) rfl
set_option maxRecDepth 100000 in
theorem cv_24 : mm_cP 24 := fun _ => mm_tb_in (List.mem_of_getElem? (i := 739) rfl) rfl
set_option maxRecDepth 100000 in
theorem cv_25 : mm_cP 25 := fun _ => mm_tb_in (List.mem_of_getElem? (i := 759) rfl) rfl
set_option maxRecDepth 100000 in
theorem cv_26 : mm_cP 26 := fun _ => mm_tb_in (List.mem_of_getElem? (i := 747) rfl) rfl
set_option maxRecDepth 100000 in
theorem cv_27 : mm_cP 27 := fun _ => mm_tb_in (List.mem_of_getElem? (i := 751) rfl) rfl
set_option maxRecDepth 100000 in
theorem cv_28 : mm_cP 28 := fun _ => mm_tb_in (List.mem_of_getElem? (i := 755) rfl) rfl
set_option maxRecDepth 100000 in
theorem cv_29 : mm_cP 29 := fun _ => mm_tb_in (List.mem_of_getElem? (i := 635) rfl) rfl
set_option maxRecDepth 100000 in
theorem cv_30 : mm_cP 30 := fun _ => mm_tb_in (List.mem_of_getElem? (i := 640) rfl) rfl
set_option maxRecDepth 100000 in
theorem cv_31 : mm_cP 31 := fun _ => mm_tb_in (List.mem_of_getElem? (i := 657) rfl) rfl
set_option maxRecDepth 100000 in
theorem cv_32 : mm_cP 32 := fun _ => mm_tb_in (List.mem_of_getElem? (i := 644) rfl) rfl
set_option maxRecDepth 100000 in
theorem cv_33 : mm_cP 33 := fun _ => mm_tb_in (List.mem_of_getElem? (i := 653) rfl) rfl
set_option maxRecDepth 100000 in
theorem cv_34 : mm_cP 34 := fun _ => mm_tb_in (List.mem_of_getElem? (i := 709) rfl) rfl
set_option maxRecDepth 100000 in
theorem cv_35 : mm_cP 35 := fun _ => mm_tb_in (List.mem_of_getElem? (i := 714) rfl) rfl
set_option maxRecDepth 100000 in
theorem cv_36 : mm_cP 36 := fun _ => mm_tb_in (List.mem_of_getElem? (i := 718) rfl) rfl
set_option maxRecDepth 100000 in
theorem cv_37 : mm_cP 37 := fun _ => mm_tb_in (List.mem_of_getElem? (i := 722) rfl) rfl
set_option maxRecDepth 100000 in
theorem cv_38 : mm_cP 38 := fun _ => mm_tb_in (List.mem_of_getElem? (i := 726) rfl) rfl
set_option maxRecDepth 100000 in
theorem cv_39 : mm_cP 39 := fun _ => mm_tb_in (List.mem_of_getElem? (i := 207) rfl) rfl
set_option maxRecDepth 100000 in
theorem cv_40 : mm_cP 40 := fun _ => mm_tb_in (List.mem_of_getElem? (i := 730) rfl) rfl
set_option maxRecDepth 100000 in
theorem cv_41 : mm_cP 41 := fun _ => mm_tb_in (List.mem_of_getElem? (i := 743) rfl) rfl
set_option maxRecDepth 100000 in
theorem cv_42 : mm_cP 42 := fun _ => mm_tb_in (List.mem_of_getElem? (i := 763) rfl) rfl
set_option maxRecDepth 100000 in
theorem cv_43 : mm_cP 43 := fun _ => mm_tb_in (List.mem_of_getElem? (i := 768) rfl) rfl
set_option maxRecDepth 100000 in
theorem cv_44 : mm_cP 44 := fun _ => mm_tb_in (List.mem_of_getElem? (i := 774) rfl) rfl
set_option maxRecDepth 100000 in
theorem cv_45 : mm_cP 45 := fun _ => mm_tb_in (List.mem_of_getElem? (i := 778) rfl) rfl
set_option maxRecDepth 100000 in
theorem cv_46 : mm_cP 46 := fun _ => mm_tb_in (List.mem_of_getElem? (i := 785) rfl) rfl
set_option maxRecDepth 100000 in
theorem cv_47 : mm_cP 47 := fun _ => mm_tb_in (List.mem_of_getElem? (i := 789) rfl) rfl
set_option maxRecDepth 100000 in
theorem cv_48 : mm_cP 48 := fun _ => mm_tb_in (List.mem_of_getElem? (i := 231) rfl) rfl
set_option maxRecDepth 100000 in
theorem cv_49 : mm_cP 49 := fun _ => mm_tb_in (List.mem_of_getElem? (i := 682) rfl) rfl
set_option maxRecDepth 100000 in
theorem cv_50 : mm_cP 50 := fun _ => mm_tb_in (List.mem_of_getElem? (i := 697) rfl) rfl
set_option maxRecDepth 100000 in
theorem cv_51 : mm_cP 51 := fun _ => mm_tb_in (List.mem_of_getElem? (i := 692) rfl) rfl
set_option maxRecDepth 100000 in
theorem cv_52 : mm_cP 52 := fun _ => mm_tb_in (List.mem_of_getElem? (i := 802) rfl) rfl
set_option maxRecDepth 100000 in
theorem cv_53 : mm_cP 53 := fun _ => mm_tb_in (List.mem_of_getElem? (i := 119) rfl) rfl
set_option maxRecDepth 100000 in
theorem cv_54 : mm_cP 54 := fun _ => mm_tb_in (List.mem_of_getElem? (i := 470) rfl) rfl
set_option maxRecDepth 100000 in
theorem cv_55 : mm_cP 55 := fun _ => mm_tb_in (List.mem_of_getElem? (i := 482) rfl) rfl
set_option maxRecDepth 100000 in
theorem cv_56 : mm_cP 56 := fun _ => mm_tb_in (List.mem_of_getElem? (i := 490) rfl) rfl
set_option maxRecDepth 100000 in
theorem cv_57 : mm_cP 57 := fun _ => mm_tb_in (List.mem_of_getElem? (i := 498) rfl) rfl
set_option maxRecDepth 100000 in
theorem cv_58 : mm_cP 58 := fun _ => mm_tb_in (List.mem_of_getElem? (i := 510) rfl) rfl
set_option maxRecDepth 100000 in
theorem cv_59 : mm_cP 59 := fun _ => mm_tb_in (List.mem_of_getElem? (i := 522) rfl) rfl
set_option maxRecDepth 100000 in
theorem cv_60 : mm_cP 60 := fun _ => mm_tb_in (List.mem_of_getElem? (i := 539) rfl) rfl
set_option maxRecDepth 100000 in
theorem cv_61 : mm_cP 61 := fun _ => mm_tb_in (List.mem_of_getElem? (i := 544) rfl) rfl
set_option maxRecDepth 100000 in
theorem cv_62 : mm_cP 62 := fun _ => mm_tb_in (List.mem_of_getElem? (i := 566) rfl) rfl
set_option maxRecDepth 100000 in
theorem cv_63 : mm_cP 63 := fun _ => mm_tb_in (List.mem_of_getElem? (i := 547) rfl) rfl
set_option maxRecDepth 100000 in
theorem cv_64 : mm_cP 64 := fun _ => mm_tb_in (List.mem_of_getElem? (i := 554) rfl) rfl
set_option maxRecDepth 100000 in
theorem cv_65 : mm_cP 65 := fun _ => mm_tb_in (List.mem_of_getElem? (i := 557) rfl) rfl
set_option maxRecDepth 100000 in
theorem cv_66 : mm_cP 66 := fun _ => mm_tb_in (List.mem_of_getElem? (i := 569) rfl) rfl
set_option maxRecDepth 100000 in
theorem cv_67 : mm_cP 67 := fun _ => mm_tb_in (List.mem_of_getElem? (i := 103) rfl) rfl
set_option maxRecDepth 100000 in
theorem cv_68 : mm_cP 68 := fun _ => mm_tb_in (List.mem_of_getElem? (i := 376) rfl) rfl
set_option maxRecDepth 100000 in
theorem cv_69 : mm_cP 69 := fun _ => mm_tb_in (List.mem_of_getElem? (i := 428) rfl) rfl
set_option maxRecDepth 100000 in
theorem cv_70 : mm_cP 70 := fun _ => mm_tb_in (List.mem_of_getElem? (i := 384) rfl) rfl
set_option maxRecDepth 100000 in
theorem cv_71 : mm_cP 71 := fun _ => mm_tb_in (List.mem_of_getElem? (i := 400) rfl) rfl
set_option maxRecDepth 100000 in
theorem cv_72 : mm_cP 72 := fun _ => mm_tb_in (List.mem_of_getElem? (i := 388) rfl) rfl
set_option maxRecDepth 100000 in
theorem cv_73 : mm_cP 73 := fun _ => mm_tb_in (List.mem_of_getElem? (i := 392) rfl) rfl
set_option maxRecDepth 100000 in
theorem cv_74 : mm_cP 74 := fun _ => mm_tb_in (List.mem_of_getElem? (i := 396) rfl) rfl
set_option maxRecDepth 100000 in
theorem cv_75 : mm_cP 75 := fun _ => mm_tb_in (List.mem_of_getElem? (i := 126) rfl) rfl
set_option maxRecDepth 100000 in
theorem cv_76 : mm_cP 76 := fun _ => mm_tb_in (List.mem_of_getElem? (i := 514) rfl) rfl
set_option maxRecDepth 100000 in
theorem cv_77 : mm_cP 77 := fun _ => mm_tb_in (List.mem_of_getElem? (i := 526) rfl) rfl
set_option maxRecDepth 100000 in
theorem cv_78 : mm_cP 78 := fun _ => mm_tb_in (List.mem_of_getElem? (i := 530) rfl) rfl
set_option maxRecDepth 100000 in
theorem cv_79 : mm_cP 79 := fun _ => mm_tb_in (List.mem_of_getElem? (i := 474) rfl) rfl
set_option maxRecDepth 100000 in
theorem cv_80 : mm_cP 80 := fun _ => mm_tb_in (List.mem_of_getElem? (i := 502) rfl) rfl
set_option maxRecDepth 100000 in
theorem cv_81 : mm_cP 81 := fun _ => mm_tb_in (List.mem_of_getElem? (i := 551) rfl) rfl
set_option maxRecDepth 100000 in
theorem cv_82 : mm_cP 82 := fun _ => mm_tb_in (List.mem_of_getElem? (i := 534) rfl) rfl
set_option maxRecDepth 100000 in
theorem cv_83 : mm_cP 83 := fun _ => mm_tb_in (List.mem_of_getElem? (i := 155) rfl) rfl
set_option maxRecDepth 100000 in
theorem cv_84 : mm_cP 84 := fun _ => mm_tb_in (List.mem_of_getElem? (i := 598) rfl) rfl
set_option maxRecDepth 100000 in
theorem cv_85 : mm_cP 85 := fun _ => mm_tb_in (List.mem_of_getElem? (i := 622) rfl) rfl
set_option maxRecDepth 100000 in
theorem cv_86 : mm_cP 86 := fun _ => mm_tb_in (List.mem_of_getElem? (i := 603) rfl) rfl
set_option maxRecDepth 100000 in
theorem cv_87 : mm_cP 87 := fun _ => mm_tb_in (List.mem_of_getElem? (i := 610) rfl) rfl
set_option maxRecDepth 100000 in
theorem cv_88 : mm_cP 88 := fun _ => mm_tb_in (List.mem_of_getElem? (i := 614) rfl) rfl
set_option maxRecDepth 100000 in
theorem cv_89 : mm_cP 89 := fun _ => mm_tb_in (List.mem_of_getElem? (i := 678) rfl) rfl
set_option maxRecDepth 100000 in
theorem cv_90 : mm_cP 90 := fun _ => mm_tb_in (List.mem_of_getElem? (i := 685) rfl) rfl
set_option maxRecDepth 100000 in
theorem cv_91 : mm_cP 91 := fun _ => mm_tb_in (List.mem_of_getElem? (i := 244) rfl) rfl
set_option maxRecDepth 100000 in
theorem cv_92 : mm_cP 92 := fun _ => mm_tb_in (List.mem_of_getElem? (i := 814) rfl) rfl
set_option maxRecDepth 100000 in
theorem cv_93 : mm_cP 93 := fun _ => mm_tb_in (List.mem_of_getElem? (i := 866) rfl) rfl
set_option maxRecDepth 100000 in
theorem cv_94 : mm_cP 94 := fun _ => mm_tb_in (List.mem_of_getElem? (i := 879) rfl) rfl
set_option maxRecDepth 100000 in
theorem cv_95 : mm_cP 95 := fun _ => mm_tb_in (List.mem_of_getElem? (i := 883) rfl) rfl
set_option maxRecDepth 100000 in
theorem cv_96 : mm_cP 96 := fun _ => mm_tb_in (List.mem_of_getElem? (i := 838) rfl) rfl
set_option maxRecDepth 100000 in
theorem cv_97 : mm_cP 97 := fun _ => mm_tb_in (List.mem_of_getElem? (i := 862) rfl) rfl
set_option maxRecDepth 100000 in
theorem cv_98 : mm_cP 98 := fun _ => mm_tb_in (List.mem_of_getElem? (i := 281) rfl) rfl
set_option maxRecDepth 100000 in
theorem cv_99 : mm_cP 99 := fun _ => mm_tb_in (List.mem_of_getElem? (i := 892) rfl) rfl
set_option maxRecDepth 100000 in
theorem cv_100 : mm_cP 100 := fun _ => mm_tb_in (List.mem_of_getElem? (i := 899) rfl) rfl
set_option maxRecDepth 100000 in
theorem cv_101 : mm_cP 101 := fun _ => mm_tb_in (List.mem_of_getElem? (i := 903) rfl) rfl
set_option maxRecDepth 100000 in
theorem cv_102 : mm_cP 102 := fun _ => mm_tb_in (List.mem_of_getElem? (i := 907) rfl) rfl
set_option maxRecDepth 100000 in
theorem cv_103 : mm_cP 103 := fun _ => mm_tb_in (List.mem_of_getElem? (i := 915) rfl) rfl
set_option maxRecDepth 100000 in
theorem cv_104 : mm_cP 104 := fun _ => mm_tb_in (List.mem_of_getElem? (i := 919) rfl) rfl
set_option maxRecDepth 100000 in
theorem cv_105 : mm_cP 105 := fun _ => mm_tb_in (List.mem_of_getElem? (i := 911) rfl) rfl
set_option maxRecDepth 100000 in
theorem cv_106 : mm_cP 106 := fun _ => mm_tb_in (List.mem_of_getElem? (i := 257) rfl) rfl
set_option maxRecDepth 100000 in
theorem cv_107 : mm_cP 107 := fun _ => mm_tb_in (List.mem_of_getElem? (i := 858) rfl) rfl
set_option maxRecDepth 100000 in
theorem cv_108 : mm_cP 108 := fun _ => mm_tb_in (List.mem_of_getElem? (i := 810) rfl) rfl
set_option maxRecDepth 100000 in
theorem cv_109 : mm_cP 109 := fun _ => mm_tb_in (List.mem_of_getElem? (i := 821) rfl) rfl
set_option maxRecDepth 100000 in
theorem cv_110 : mm_cP 110 := fun _ => mm_tb_in (List.mem_of_getElem? (i := 817) rfl) rfl
set_option maxRecDepth 100000 in
theorem cv_111 : mm_cP 111 := fun _ => mm_tb_in (List.mem_of_getElem? (i := 826) rfl) rfl
set_option maxRecDepth 100000 in
theorem cv_112 : mm_cP 112 := fun _ => mm_tb_in (List.mem_of_getElem? (i := 830) rfl) rfl
set_option maxRecDepth 100000 in
theorem cv_113 : mm_cP 113 := fun _ => mm_tb_in (List.mem_of_getElem? (i := 842) rfl) rfl
set_option maxRecDepth 100000 in
theorem cv_114 : mm_cP 114 := fun _ => mm_tb_in (List.mem_of_getElem? (i := 846) rfl) rfl
set_option maxRecDepth 100000 in
theorem cv_115 : mm_cP 115 := fun _ => mm_tb_in (List.mem_of_getElem? (i := 850) rfl) rfl
set_option maxRecDepth 100000 in
theorem cv_116 : mm_cP 116 := fun _ => mm_tb_in (List.mem_of_getElem? (i := 854) rfl) rfl
set_option maxRecDepth 100000 in
theorem cv_117 : mm_cP 117 := fun _ => mm_tb_in (List.mem_of_getElem? (i := 834) rfl) rfl
set_option maxRecDepth 100000 in
theorem cv_118 : mm_cP 118 := fun _ => mm_tb_in (List.mem_of_getElem? (i := 83) rfl) rfl
set_option maxRecDepth 100000 in
theorem cv_119 : mm_cP 119 := fun _ => mm_tb_in (List.mem_of_getElem? (i := 354) rfl) rfl
set_option maxRecDepth 100000 in
theorem cv_120 : mm_cP 120 := fun _ => mm_tb_in (List.mem_of_getElem? (i := 372) rfl) rfl
set_option maxRecDepth 100000 in
theorem cv_121 : mm_cP 121 := fun _ => mm_tb_in (List.mem_of_getElem? (i := 380) rfl) rfl
set_option maxRecDepth 100000 in
theorem cv_122 : mm_cP 122 := fun _ => mm_tb_in (List.mem_of_getElem? (i := 432) rfl) rfl
set_option maxRecDepth 100000 in
theorem cv_123 : mm_cP 123 := fun _ => mm_tb_in (List.mem_of_getElem? (i := 443) rfl) rfl
set_option maxRecDepth 100000 in
theorem cv_124 : mm_cP 124 := fun _ => mm_tb_in (List.mem_of_getElem? (i := 463) rfl) rfl
set_option maxRecDepth 100000 in
theorem cv_125 : mm_cP 125 := fun _ => mm_tb_in (List.mem_of_getElem? (i := 478) rfl) rfl
set_option maxRecDepth 100000 in
theorem cv_126 : mm_cP 126 := fun _ => mm_tb_in (List.mem_of_getElem? (i := 486) rfl) rfl
set_option maxRecDepth 100000 in
theorem cv_127 : mm_cP 127 := fun _ => mm_tb_in (List.mem_of_getElem? (i := 494) rfl) rfl
set_option maxRecDepth 100000 in
theorem cv_128 : mm_cP 128 := fun _ => mm_tb_in (List.mem_of_getElem? (i := 506) rfl) rfl
set_option maxRecDepth 100000 in
theorem cv_129 : mm_cP 129 := fun _ => mm_tb_in (List.mem_of_getElem? (i := 518) rfl) rfl
set_option maxRecDepth 100000 in
theorem cv_130 : mm_cP 130 := fun _ => mm_tb_in (List.mem_of_getElem? (i := 573) rfl) rfl
set_option maxRecDepth 100000 in
theorem cv_131 : mm_cP 131 := fun _ => mm_tb_in (List.mem_of_getElem? (i := 584) rfl) rfl
set_option maxRecDepth 100000 in
theorem cv_132 : mm_cP 132 := fun _ => mm_tb_in (List.mem_of_getElem? (i := 674) rfl) rfl
set_option maxRecDepth 100000 in
theorem cv_133 : mm_cP 133 := fun _ => mm_tb_in (List.mem_of_getElem? (i := 701) rfl) rfl
set_option maxRecDepth 100000 in
theorem cv_134 : mm_cP 134 := fun _ => mm_tb_in (List.mem_of_getElem? (i := 798) rfl) rfl
set_option maxRecDepth 100000 in
theorem cv_135 : mm_cP 135 := fun _ => mm_tb_in (List.mem_of_getElem? (i := 806) rfl) rfl
set_option maxRecDepth 100000 in
theorem cv_136 : mm_cP 136 := fun _ => mm_tb_in (List.mem_of_getElem? (i := 870) rfl) rfl
set_option maxRecDepth 100000 in
theorem cv_137 : mm_cP 137 := fun _ => mm_tb_in (List.mem_of_getElem? (i := 875) rfl) rfl
set_option maxRecDepth 100000 in
theorem cv_138 : mm_cP 138 := fun _ => mm_tb_in (List.mem_of_getElem? (i := 888) rfl) rfl
set_option maxRecDepth 100000 in
theorem cv_139 : mm_cP 139 := fun _ => mm_tb_in (List.mem_of_getElem? (i := 357) rfl) rfl
set_option maxRecDepth 100000 in
theorem cv_140 : mm_cP 140 := fun _ => mm_tb_in (List.mem_of_getElem? (i := 466) rfl) rfl
set_option maxRecDepth 100000 in
theorem cv_141 : mm_cP 141 := fun _ => mm_tb_in (List.mem_of_getElem? (i := 446) rfl) rfl
set_option maxRecDepth 100000 in
theorem cv_142 : mm_cP 142 := fun _ => mm_tb_in (List.mem_of_getElem? (i := 580) rfl) rfl
set_option maxRecDepth 100000 in
theorem cv_143 : mm_cP 143 := fun _ => mm_tb_in (List.mem_of_getElem? (i := 360) rfl) rfl
set_option maxRecDepth 100000 in
theorem cv_144 : mm_cP 144 := fun _ => mm_tb_in (List.mem_of_getElem? (i := 648) rfl) rfl
set_option maxRecDepth 100000 in
theorem cv_145 : mm_cP 145 := fun _ => mm_tb_in (List.mem_of_getElem? (i := 368) rfl) rfl
set_option maxRecDepth 100000 in
theorem cv_146 : mm_cP 146 := fun _ => mm_tb_in (List.mem_of_getElem? (i := 925) rfl) rfl
set_option maxRecDepth 100000 in
theorem cv_147 : mm_cP 147 := fun _ => mm_tb_in (List.mem_of_getElem? (i := 1091) rfl) rfl
set_option maxRecDepth 100000 in
theorem cv_148 : mm_cP 148 := fun _ => mm_tb_in (List.mem_of_getElem? (i := 1088) rfl) rfl
set_option maxRecDepth 100000 in
theorem cv_149 : mm_cP 149 := fun _ => mm_tb_in (List.mem_of_getElem? (i := 1126) rfl) rfl
set_option maxRecDepth 100000 in
theorem cv_150 : mm_cP 150 := fun _ => mm_tb_in (List.mem_of_getElem? (i := 1098) rfl) rfl
set_option maxRecDepth 100000 in
theorem cv_151 : mm_cP 151 := fun _ => mm_tb_in (List.mem_of_getElem? (i := 1094) rfl) rfl
set_option maxRecDepth 100000 in
theorem cv_152 : mm_cP 152 := fun _ => mm_tb_in (List.mem_of_getElem? (i := 1085) rfl) rfl
set_option maxRecDepth 100000 in
theorem cv_153 : mm_cP 153 := fun _ => mm_tb_in (List.mem_of_getElem? (i := 1102) rfl) rfl
set_option maxRecDepth 100000 in
theorem cv_154 : mm_cP 154 := fun _ => mm_tb_in (List.mem_of_getElem? (i := 1110) rfl) rfl
set_option maxRecDepth 100000 in
theorem cv_155 : mm_cP 155 := fun _ => mm_tb_in (List.mem_of_getElem? (i := 1114) rfl) rfl
set_option maxRecDepth 100000 in
theorem cv_156 : mm_cP 156 := fun _ => mm_tb_in (List.mem_of_getElem? (i := 1106) rfl) rfl
set_option maxRecDepth 100000 in
theorem cv_157 : mm_cP 157 := fun _ => mm_tb_in (List.mem_of_getElem? (i := 1118) rfl) rfl
set_option maxRecDepth 100000 in
theorem cv_158 : mm_cP 158 := fun _ => mm_tb_in (List.mem_of_getElem? (i := 1122) rfl) rfl
set_option maxRecDepth 100000 in
theorem cv_159 : mm_cP 159 := fun _ => mm_tb_in (List.mem_of_getElem? (i := 1133) rfl) rfl
set_option maxRecDepth 100000 in
theorem cv_160 : mm_cP 160 := fun _ => mm_tb_in (List.mem_of_getElem? (i := 1130) rfl) rfl
set_option maxRecDepth 100000 in
theorem cv_161 : mm_cP 161 := fun _ => mm_tb_in (List.mem_of_getElem? (i := 1137) rfl) rfl
set_option maxRecDepth 100000 in
theorem cv_162 : mm_cP 162 := fun _ => mm_tb_in (List.mem_of_getElem? (i := 1141) rfl) rfl
set_option maxRecDepth 100000 in
theorem cv_163 : mm_cP 163 := fun _ => mm_tb_in (List.mem_of_getElem? (i := 1145) rfl) rfl
set_option maxRecDepth 100000 in
theorem cv_164 : mm_cP 164 := fun _ => mm_tb_in (List.mem_of_getElem? (i := 1149) rfl) rfl
set_option maxRecDepth 100000 in
theorem cv_165 : mm_cP 165 := fun _ => mm_tb_in (List.mem_of_getElem? (i := 1157) rfl) rfl
set_option maxRecDepth 100000 in
theorem cv_166 : mm_cP 166 := fun _ => mm_tb_in (List.mem_of_getElem? (i := 1165) rfl) rfl
set_option maxRecDepth 100000 in
theorem cv_167 : mm_cP 167 := fun _ => mm_tb_in (List.mem_of_getElem? (i := 1161) rfl) rfl
set_option maxRecDepth 100000 in
theorem cv_168 : mm_cP 168 := fun _ => mm_tb_in (List.mem_of_getElem? (i := 1153) rfl) rfl
set_option maxRecDepth 100000 in
theorem cv_169 : mm_cP 169 := fun _ => mm_tb_in (List.mem_of_getElem? (i := 1169) rfl) rfl
set_option maxRecDepth 100000 in
theorem cv_170 : mm_cP 170 := fun _ => mm_tb_in (List.mem_of_getElem? (i := 1184) rfl) rfl
set_option maxRecDepth 100000 in
theorem cv_171 : mm_cP 171 := fun _ => mm_tb_in (List.mem_of_getElem? (i := 1180) rfl) rfl
set_option maxRecDepth 100000 in
theorem cv_172 : mm_cP 172 := fun _ => mm_tb_in (List.mem_of_getElem? (i := 1176) rfl) rfl
set_option maxRecDepth 100000 in
theorem cv_173 : mm_cP 173 := fun _ => mm_tb_in (List.mem_of_getElem? (i := 1192) rfl) rfl
set_option maxRecDepth 100000 in
theorem cv_174 : mm_cP 174 := fun _ => mm_tb_in (List.mem_of_getElem? (i := 1200) rfl) rfl
set_option maxRecDepth 100000 in
theorem cv_175 : mm_cP 175 := fun _ => mm_tb_in (List.mem_of_getElem? (i := 1188) rfl) rfl
set_option maxRecDepth 100000 in
theorem cv_176 : mm_cP 176 := fun _ => mm_tb_in (List.mem_of_getElem? (i := 1196) rfl) rfl
set_option maxRecDepth 100000 in
theorem cv_177 : mm_cP 177 := fun _ => mm_tb_in (List.mem_of_getElem? (i := 1173) rfl) rfl
set_option maxRecDepth 100000 in
theorem cv_178 : mm_cP 178 := fun _ => mm_tb_in (List.mem_of_getElem? (i := 1208) rfl) rfl
set_option maxRecDepth 100000 in
theorem cv_179 : mm_cP 179 := fun _ => mm_tb_in (List.mem_of_getElem? (i := 1204) rfl) rfl
set_option maxRecDepth 100000 in
theorem cv_180 : mm_cP 180 := fun _ => mm_tb_in (List.mem_of_getElem? (i := 1228) rfl) rfl
set_option maxRecDepth 100000 in
theorem cv_181 : mm_cP 181 := fun _ => mm_tb_in (List.mem_of_getElem? (i := 1216) rfl) rfl
set_option maxRecDepth 100000 in
theorem cv_182 : mm_cP 182 := fun _ => mm_tb_in (List.mem_of_getElem? (i := 1224) rfl) rfl
set_option maxRecDepth 100000 in
theorem cv_183 : mm_cP 183 := fun _ => mm_tb_in (List.mem_of_getElem? (i := 1220) rfl) rfl
set_option maxRecDepth 100000 in
theorem cv_184 : mm_cP 184 := fun _ => mm_tb_in (List.mem_of_getElem? (i := 1236) rfl) rfl
set_option maxRecDepth 100000 in
theorem cv_185 : mm_cP 185 := fun _ => mm_tb_in (List.mem_of_getElem? (i := 1232) rfl) rfl
set_option maxRecDepth 100000 in
theorem cv_186 : mm_cP 186 := fun _ => mm_tb_in (List.mem_of_getElem? (i := 1240) rfl) rfl
set_option maxRecDepth 100000 in
theorem cv_187 : mm_cP 187 := fun _ => mm_tb_in (List.mem_of_getElem? (i := 1244) rfl) rfl
set_option maxRecDepth 100000 in
theorem cv_188 : mm_cP 188 := fun _ => mm_tb_in (List.mem_of_getElem? (i := 1212) rfl) rfl
set_option maxRecDepth 100000 in
theorem cv_189 : mm_cP 189 := fun _ => mm_tb_in (List.mem_of_getElem? (i := 1248) rfl) rfl
set_option maxRecDepth 100000 in
theorem cv_190 : mm_cP 190 := fun _ => mm_tb_in (List.mem_of_getElem? (i := 1260) rfl) rfl
set_option maxRecDepth 100000 in
theorem cv_191 : mm_cP 191 := fun _ => mm_tb_in (List.mem_of_getElem? (i := 1256) rfl) rfl
set_option maxRecDepth 100000 in
theorem cv_192 : mm_cP 192 := fun _ => mm_tb_in (List.mem_of_getElem? (i := 1264) rfl) rfl
set_option maxRecDepth 100000 in
theorem cv_193 : mm_cP 193 := fun _ => mm_tb_in (List.mem_of_getElem? (i := 1252) rfl) rfl
set_option maxRecDepth 100000 in
theorem cv_194 : mm_cP 194 := fun _ => mm_tb_in (List.mem_of_getElem? (i := 1268) rfl) rfl
set_option maxRecDepth 100000 in
theorem cv_195 : mm_cP 195 := fun _ => mm_tb_in (List.mem_of_getElem? (i := 1272) rfl) rfl
set_option maxRecDepth 100000 in
theorem cv_196 : mm_cP 196 := fun _ => mm_tb_in (List.mem_of_getElem? (i := 1284) rfl) rfl
set_option maxRecDepth 100000 in
theorem cv_197 : mm_cP 197 := fun _ => mm_tb_in (List.mem_of_getElem? (i := 1288) rfl) rfl
set_option maxRecDepth 100000 in
theorem cv_198 : mm_cP 198 := fun _ => mm_tb_in (List.mem_of_getElem? (i := 1291) rfl) rfl
set_option maxRecDepth 100000 in
theorem cv_199 : mm_cP 199 := fun _ => mm_tb_in (List.mem_of_getElem? (i := 1280) rfl) rfl
set_option maxRecDepth 100000 in
theorem cv_200 : mm_cP 200 := fun _ => mm_tb_in (List.mem_of_getElem? (i := 1276) rfl) rfl
set_option maxRecDepth 100000 in
theorem cv_201 : mm_cP 201 := fun _ => mm_tb_in (List.mem_of_getElem? (i := 591) rfl) rfl
set_option maxRecDepth 100000 in
theorem cv_202 : mm_cP 202 := fun _ => mm_tb_in (List.mem_of_getElem? (i := 560) rfl) rfl
set_option maxRecDepth 100000 in
theorem cv_203 : mm_cP 203 := fun _ => mm_tb_in (List.mem_of_getElem? (i := 407) rfl) rfl
set_option maxRecDepth 100000 in
theorem cv_204 : mm_cP 204 := fun _ => mm_tb_in (List.mem_of_getElem? (i := 410) rfl) rfl
theorem cq_0 : ∀ a, a < 0 → mm_cP a := lt_0
theorem cq_1 : ∀ a, a < 1 → mm_cP a := lt_s (i := 0) cq_0 cv_0
theorem cq_2 : ∀ a, a < 2 → mm_cP a := lt_s (i := 1) cq_1 cv_1
theorem cq_3 : ∀ a, a < 3 → mm_cP a := lt_s (i := 2) cq_2 cv_2
theorem cq_4 : ∀ a, a < 4 → mm_cP a := lt_s (i := 3) cq_3 cv_3
theorem cq_5 : ∀ a, a < 5 → mm_cP a := lt_s (i := 4) cq_4 cv_4
theorem cq_6 : ∀ a, a < 6 → mm_cP a := lt_s (i := 5) cq_5 cv_5
theorem cq_7 : ∀ a, a < 7 → mm_cP a := lt_s (i := 6) cq_6 cv_6
theorem cq_8 : ∀ a, a < 8 → mm_cP a := lt_s (i := 7) cq_7 cv_7
theorem cq_9 : ∀ a, a < 9 → mm_cP a := lt_s (i := 8) cq_8 cv_8
theorem cq_10 : ∀ a, a < 10 → mm_cP a := lt_s (i := 9) cq_9 cv_9
theorem cq_11 : ∀ a, a < 11 → mm_cP a := lt_s (i := 10) cq_10 cv_10
theorem cq_12 : ∀ a, a < 12 → mm_cP a := lt_s (i := 11) cq_11 cv_11
theorem cq_13 : ∀ a, a < 13 → mm_cP a := lt_s (i := 12) cq_12 cv_12
theorem cq_14 : ∀ a, a < 14 → mm_cP a := lt_s (i := 13) cq_13 cv_13
theorem cq_15 : ∀ a, a < 15 → mm_cP a := lt_s (i := 14) cq_14 cv_14
theorem cq_16 : ∀ a, a < 16 → mm_cP a := lt_s (i := 15) cq_15 cv_15
theorem cq_17 : ∀ a, a < 17 → mm_cP a := lt_s (i := 16) cq_16 cv_16
theorem cq_18 : ∀ a, a < 18 → mm_cP a := lt_s (i := 17) cq_17 cv_17
theorem cq_19 : ∀ a, a < 19 → mm_cP a := lt_s (i := 18) cq_18 cv_18
theorem cq_20 : ∀ a, a < 20 → mm_cP a := lt_s (i := 19) cq_19 cv_19
theorem cq_21 : ∀ a, a < 21 → mm_cP a := lt_s (i := 20) cq_20 cv_20
theorem cq_22 : ∀ a, a < 22 → mm_cP a := lt_s (i := 21) cq_21 cv_21
theorem cq_23 : ∀ a, a < 23 → mm_cP a := lt_s (i := 22) cq_22 cv_22
theorem cq_24 : ∀ a, a < 24 → mm_cP a := lt_s (i := 23) cq_23 cv_23
theorem cq_25 : ∀ a, a < 25 → mm_cP a := lt_s (i := 24) cq_24 cv_24
theorem cq_26 : ∀ a, a < 26 → mm_cP a := lt_s (i := 25) cq_25 cv_25
theorem cq_27 : ∀ a, a < 27 → mm_cP a := lt_s (i := 26) cq_26 cv_26
theorem cq_28 : ∀ a, a < 28 → mm_cP a := lt_s (i := 27) cq_27 cv_27
theorem cq_29 : ∀ a, a < 29 → mm_cP a := lt_s (i := 28) cq_28 cv_28
theorem cq_30 : ∀ a, a < 30 → mm_cP a := lt_s (i := 29) cq_29 cv_29
theorem cq_31 : ∀ a, a < 31 → mm_cP a := lt_s (i := 30) cq_30 cv_30
theorem cq_32 : ∀ a, a < 32 → mm_cP a := lt_s (i := 31) cq_31 cv_31
theorem cq_33 : ∀ a, a < 33 → mm_cP a := lt_s (i := 32) cq_32 cv_32
theorem cq_34 : ∀ a, a < 34 → mm_cP a := lt_s (i := 33) cq_33 cv_33
theorem cq_35 : ∀ a, a < 35 → mm_cP a := lt_s (i := 34) cq_34 cv_34
theorem cq_36 : ∀ a, a < 36 → mm_cP a := lt_s (i := 35) cq_35 cv_35
theorem cq_37 : ∀ a, a < 37 → mm_cP a := lt_s (i := 36) cq_36 cv_36
theorem cq_38 : ∀ a, a < 38 → mm_cP a := lt_s (i := 37) cq_37 cv_37
theorem cq_39 : ∀ a, a < 39 → mm_cP a := lt_s (i := 38) cq_38 cv_38
theorem cq_40 : ∀ a, a < 40 → mm_cP a := lt_s (i := 39) cq_39 cv_39
theorem cq_41 : ∀ a, a < 41 → mm_cP a := lt_s (i := 40) cq_40 cv_40
theorem cq_42 : ∀ a, a < 42 → mm_cP a := lt_s (i := 41) cq_41 cv_41
theorem cq_43 : ∀ a, a < 43 → mm_cP a := lt_s (i := 42) cq_42 cv_42
theorem cq_44 : ∀ a, a < 44 → mm_cP a := lt_s (i := 43) cq_43 cv_43
theorem cq_45 : ∀ a, a < 45 → mm_cP a := lt_s (i := 44) cq_44 cv_44
theorem cq_46 : ∀ a, a < 46 → mm_cP a := lt_s (i := 45) cq_45 cv_45
theorem cq_47 : ∀ a, a < 47 → mm_cP a := lt_s (i := 46) cq_46 cv_46
theorem cq_48 : ∀ a, a < 48 → mm_cP a := lt_s (i := 47) cq_47 cv_47
theorem cq_49 : ∀ a, a < 49 → mm_cP a := lt_s (i := 48) cq_48 cv_48
theorem cq_50 : ∀ a, a < 50 → mm_cP a := lt_s (i := 49) cq_49 cv_49
theorem cq_51 : ∀ a, a < 51 → mm_cP a := lt_s (i := 50) cq_50 cv_50
theorem cq_52 : ∀ a, a < 52 → mm_cP a := lt_s (i := 51) cq_51 cv_51
theorem cq_53 : ∀ a, a < 53 → mm_cP a := lt_s (i := 52) cq_52 cv_52
theorem cq_54 : ∀ a, a < 54 → mm_cP a := lt_s (i := 53) cq_53 cv_53
theorem cq_55 : ∀ a, a < 55 → mm_cP a := lt_s (i := 54) cq_54 cv_54
theorem cq_56 : ∀ a, a < 56 → mm_cP a := lt_s (i := 55) cq_55 cv_55
theorem cq_57 : ∀ a, a < 57 → mm_cP a := lt_s (i := 56) cq_56 cv_56
theorem cq_58 : ∀ a, a < 58 → mm_cP a := lt_s (i := 57) cq_57 cv_57
theorem cq_59 : ∀ a, a < 59 → mm_cP a := lt_s (i := 58) cq_58 cv_58
theorem cq_60 : ∀ a, a < 60 → mm_cP a := lt_s (i := 59) cq_59 cv_59
theorem cq_61 : ∀ a, a < 61 → mm_cP a := lt_s (i := 60) cq_60 cv_60
theorem cq_62 : ∀ a, a < 62 → mm_cP a := lt_s (i := 61) cq_61 cv_61
theorem cq_63 : ∀ a, a < 63 → mm_cP a := lt_s (i := 62) cq_62 cv_62
theorem cq_64 : ∀ a, a < 64 → mm_cP a := lt_s (i := 63) cq_63 cv_63
theorem cq_65 : ∀ a, a < 65 → mm_cP a := lt_s (i := 64) cq_64 cv_64
theorem cq_66 : ∀ a, a < 66 → mm_cP a := lt_s (i := 65) cq_65 cv_65
theorem cq_67 : ∀ a, a < 67 → mm_cP a := lt_s (i := 66) cq_66 cv_66
theorem cq_68 : ∀ a, a < 68 → mm_cP a := lt_s (i := 67) cq_67 cv_67
theorem cq_69 : ∀ a, a < 69 → mm_cP a := lt_s (i := 68) cq_68 cv_68
theorem cq_70 : ∀ a, a < 70 → mm_cP a := lt_s (i := 69) cq_69 cv_69
theorem cq_71 : ∀ a, a < 71 → mm_cP a := lt_s (i := 70) cq_70 cv_70
theorem cq_72 : ∀ a, a < 72 → mm_cP a := lt_s (i := 71) cq_71 cv_71
theorem cq_73 : ∀ a, a < 73 → mm_cP a := lt_s (i := 72) cq_72 cv_72
theorem cq_74 : ∀ a, a < 74 → mm_cP a := lt_s (i := 73) cq_73 cv_73
theorem cq_75 : ∀ a, a < 75 → mm_cP a := lt_s (i := 74) cq_74 cv_74
theorem cq_76 : ∀ a, a < 76 → mm_cP a := lt_s (i := 75) cq_75 cv_75
theorem cq_77 : ∀ a, a < 77 → mm_cP a := lt_s (i := 76) cq_76 cv_76
theorem cq_78 : ∀ a, a < 78 → mm_cP a := lt_s (i := 77) cq_77 cv_77
theorem cq_79 : ∀ a, a < 79 → mm_cP a := lt_s (i := 78) cq_78 cv_78
theorem cq_80 : ∀ a, a < 80 → mm_cP a := lt_s (i := 79) cq_79 cv_79
theorem cq_81 : ∀ a, a < 81 → mm_cP a := lt_s (i := 80) cq_80 cv_80
theorem cq_82 : ∀ a, a < 82 → mm_cP a := lt_s (i := 81) cq_81 cv_81
theorem cq_83 : ∀ a, a < 83 → mm_cP a := lt_s (i := 82) cq_82 cv_82
theorem cq_84 : ∀ a, a < 84 → mm_cP a := lt_s (i := 83) cq_83 cv_83
theorem cq_85 : ∀ a, a < 85 → mm_cP a := lt_s (i := 84) cq_84 cv_84
theorem cq_86 : ∀ a, a < 86 → mm_cP a := lt_s (i := 85) cq_85 cv_85
theorem cq_87 : ∀ a, a < 87 → mm_cP a := lt_s (i := 86) cq_86 cv_86
theorem cq_88 : ∀ a, a < 88 → mm_cP a := lt_s (i := 87) cq_87 cv_87
theorem cq_89 : ∀ a, a < 89 → mm_cP a := lt_s (i := 88) cq_88 cv_88
theorem cq_90 : ∀ a, a < 90 → mm_cP a := lt_s (i := 89) cq_89 cv_89
theorem cq_91 : ∀ a, a < 91 → mm_cP a := lt_s (i := 90) cq_90 cv_90
theorem cq_92 : ∀ a, a < 92 → mm_cP a := lt_s (i := 91) cq_91 cv_91
theorem cq_93 : ∀ a, a < 93 → mm_cP a := lt_s (i := 92) cq_92 cv_92
theorem cq_94 : ∀ a, a < 94 → mm_cP a := lt_s (i := 93) cq_93 cv_93
theorem cq_95 : ∀ a, a < 95 → mm_cP a := lt_s (i := 94) cq_94 cv_94
theorem cq_96 : ∀ a, a < 96 → mm_cP a := lt_s (i := 95) cq_95 cv_95
theorem cq_97 : ∀ a, a < 97 → mm_cP a := lt_s (i := 96) cq_96 cv_96
theorem cq_98 : ∀ a, a < 98 → mm_cP a := lt_s (i := 97) cq_97 cv_97
theorem cq_99 : ∀ a, a < 99 → mm_cP a := lt_s (i := 98) cq_98 cv_98
theorem cq_100 : ∀ a, a < 100 → mm_cP a := lt_s (i := 99) cq_99 cv_99
theorem cq_101 : ∀ a, a < 101 → mm_cP a := lt_s (i := 100) cq_100 cv_100
theorem cq_102 : ∀ a, a < 102 → mm_cP a := lt_s (i := 101) cq_101 cv_101
theorem cq_103 : ∀ a, a < 103 → mm_cP a := lt_s (i := 102) cq_102 cv_102
theorem cq_104 : ∀ a, a < 104 → mm_cP a := lt_s (i := 103) cq_103 cv_103
theorem cq_105 : ∀ a, a < 105 → mm_cP a := lt_s (i := 104) cq_104 cv_104
theorem cq_106 : ∀ a, a < 106 → mm_cP a := lt_s (i := 105) cq_105 cv_105
theorem cq_107 : ∀ a, a < 107 → mm_cP a := lt_s (i := 106) cq_106 cv_106
theorem cq_108 : ∀ a, a < 108 → mm_cP a := lt_s (i := 107) cq_107 cv_107
theorem cq_109 : ∀ a, a < 109 → mm_cP a := lt_s (i := 108) cq_108 cv_108
theorem cq_110 : ∀ a, a < 110 → mm_cP a := lt_s (i := 109) cq_109 cv_109
theorem cq_111 : ∀ a, a < 111 → mm_cP a := lt_s (i := 110) cq_110 cv_110
theorem cq_112 : ∀ a, a < 112 → mm_cP a := lt_s (i := 111) cq_111 cv_111
theorem cq_113 : ∀ a, a < 113 → mm_cP a := lt_s (i := 112) cq_112 cv_112
theorem cq_114 : ∀ a, a < 114 → mm_cP a := lt_s (i := 113) cq_113 cv_113
theorem cq_115 : ∀ a, a < 115 → mm_cP a := lt_s (i := 114) cq_114 cv_114
theorem cq_116 : ∀ a, a < 116 → mm_cP a := lt_s (i := 115) cq_115 cv_115
theorem cq_117 : ∀ a, a < 117 → mm_cP a := lt_s (i := 116) cq_116 cv_116
theorem cq_118 : ∀ a, a < 118 → mm_cP a := lt_s (i := 117) cq_117 cv_117
theorem cq_119 : ∀ a, a < 119 → mm_cP a := lt_s (i := 118) cq_118 cv_118
theorem cq_120 : ∀ a, a < 120 → mm_cP a := lt_s (i := 119) cq_119 cv_119
theorem cq_121 : ∀ a, a < 121 → mm_cP a := lt_s (i := 120) cq_120 cv_120
theorem cq_122 : ∀ a, a < 122 → mm_cP a := lt_s (i := 121) cq_121 cv_121
theorem cq_123 : ∀ a, a < 123 → mm_cP a := lt_s (i := 122) cq_122 cv_122
theorem cq_124 : ∀ a, a < 124 → mm_cP a := lt_s (i := 123) cq_123 cv_123
theorem cq_125 : ∀ a, a < 125 → mm_cP a := lt_s (i := 124) cq_124 cv_124
theorem cq_126 : ∀ a, a < 126 → mm_cP a := lt_s (i := 125) cq_125 cv_125
theorem cq_127 : ∀ a, a < 127 → mm_cP a := lt_s (i := 126) cq_126 cv_126
theorem cq_128 : ∀ a, a < 128 → mm_cP a := lt_s (i := 127) cq_127 cv_127
theorem cq_129 : ∀ a, a < 129 → mm_cP a := lt_s (i := 128) cq_128 cv_128
theorem cq_130 : ∀ a, a < 130 → mm_cP a := lt_s (i := 129) cq_129 cv_129
theorem cq_131 : ∀ a, a < 131 → mm_cP a := lt_s (i := 130) cq_130 cv_130
theorem cq_132 : ∀ a, a < 132 → mm_cP a := lt_s (i := 131) cq_131 cv_131
theorem cq_133 : ∀ a, a < 133 → mm_cP a := lt_s (i := 132) cq_132 cv_132
theorem cq_134 : ∀ a, a < 134 → mm_cP a := lt_s (i := 133) cq_133 cv_133
theorem cq_135 : ∀ a, a < 135 → mm_cP a := lt_s (i := 134) cq_134 cv_134
theorem cq_136 : ∀ a, a < 136 → mm_cP a := lt_s (i := 135) cq_135 cv_135
theorem cq_137 : ∀ a, a < 137 → mm_cP a := lt_s (i := 136) cq_136 cv_136
theorem cq_138 : ∀ a, a < 138 → mm_cP a := lt_s (i := 137) cq_137 cv_137
theorem cq_139 : ∀ a, a < 139 → mm_cP a := lt_s (i := 138) cq_138 cv_138
theorem cq_140 : ∀ a, a < 140 → mm_cP a := lt_s (i := 139) cq_139 cv_139
theorem cq_141 : ∀ a, a < 141 → mm_cP a := lt_s (i := 140) cq_140 cv_140
theorem cq_142 : ∀ a, a < 142 → mm_cP a := lt_s (i := 141) cq_141 cv_141
theorem cq_143 : ∀ a, a < 143 → mm_cP a := lt_s (i := 142) cq_142 cv_142
theorem cq_144 : ∀ a, a < 144 → mm_cP a := lt_s (i := 143) cq_143 cv_143
theorem cq_145 : ∀ a, a < 145 → mm_cP a := lt_s (i := 144) cq_144 cv_144
theorem cq_146 : ∀ a, a < 146 → mm_cP a := lt_s (i := 145) cq_145 cv_145
theorem cq_147 : ∀ a, a < 147 → mm_cP a := lt_s (i := 146) cq_146 cv_146
theorem cq_148 : ∀ a, a < 148 → mm_cP a := lt_s (i := 147) cq_147 cv_147
theorem cq_149 : ∀ a, a < 149 → mm_cP a := lt_s (i := 148) cq_148 cv_148
theorem cq_150 : ∀ a, a < 150 → mm_cP a := lt_s (i := 149) cq_149 cv_149
theorem cq_151 : ∀ a, a < 151 → mm_cP a := lt_s (i := 150) cq_150 cv_150
theorem cq_152 : ∀ a, a < 152 → mm_cP a := lt_s (i := 151) cq_151 cv_151
theorem cq_153 : ∀ a, a < 153 → mm_cP a := lt_s (i := 152) cq_152 cv_152
theorem cq_154 : ∀ a, a < 154 → mm_cP a := lt_s (i := 153) cq_153 cv_153
theorem cq_155 : ∀ a, a < 155 → mm_cP a := lt_s (i := 154) cq_154 cv_154
theorem cq_156 : ∀ a, a < 156 → mm_cP a := lt_s (i := 155) cq_155 cv_155
theorem cq_157 : ∀ a, a < 157 → mm_cP a := lt_s (i := 156) cq_156 cv_156
theorem cq_158 : ∀ a, a < 158 → mm_cP a := lt_s (i := 157) cq_157 cv_157
theorem cq_159 : ∀ a, a < 159 → mm_cP a := lt_s (i := 158) cq_158 cv_158
theorem cq_160 : ∀ a, a < 160 → mm_cP a := lt_s (i := 159) cq_159 cv_159
theorem cq_161 : ∀ a, a < 161 → mm_cP a := lt_s (i := 160) cq_160 cv_160
theorem cq_162 : ∀ a, a < 162 → mm_cP a := lt_s (i := 161) cq_161 cv_161
theorem cq_163 : ∀ a, a < 163 → mm_cP a := lt_s (i := 162) cq_162 cv_162
theorem cq_164 : ∀ a, a < 164 → mm_cP a := lt_s (i := 163) cq_163 cv_163
theorem cq_165 : ∀ a, a < 165 → mm_cP a := lt_s (i := 164) cq_164 cv_164
theorem cq_166 : ∀ a, a < 166 → mm_cP a := lt_s (i := 165) cq_165 cv_165
theorem cq_167 : ∀ a, a < 167 → mm_cP a := lt_s (i := 166) cq_166 cv_166
theorem cq_168 : ∀ a, a < 168 → mm_cP a := lt_s (i := 167) cq_167 cv_167
theorem cq_169 : ∀ a, a < 169 → mm_cP a := lt_s (i := 168) cq_168 cv_168
theorem cq_170 : ∀ a, a < 170 → mm_cP a := lt_s (i := 169) cq_169 cv_169
theorem cq_171 : ∀ a, a < 171 → mm_cP a := lt_s (i := 170) cq_170 cv_170
theorem cq_172 : ∀ a, a < 172 → mm_cP a := lt_s (i := 171) cq_171 cv_171
theorem cq_173 : ∀ a, a < 173 → mm_cP a := lt_s (i := 172) cq_172 cv_172
theorem cq_174 : ∀ a, a < 174 → mm_cP a := lt_s (i := 173) cq_173 cv_173
theorem cq_175 : ∀ a, a < 175 → mm_cP a := lt_s (i := 174) cq_174 cv_174
theorem cq_176 : ∀ a, a < 176 → mm_cP a := lt_s (i := 175) cq_175 cv_175
theorem cq_177 : ∀ a, a < 177 → mm_cP a := lt_s (i := 176) cq_176 cv_176
theorem cq_178 : ∀ a, a < 178 → mm_cP a := lt_s (i := 177) cq_177 cv_177
theorem cq_179 : ∀ a, a < 179 → mm_cP a := lt_s (i := 178) cq_178 cv_178
theorem cq_180 : ∀ a, a < 180 → mm_cP a := lt_s (i := 179) cq_179 cv_179
theorem cq_181 : ∀ a, a < 181 → mm_cP a := lt_s (i := 180) cq_180 cv_180
theorem cq_182 : ∀ a, a < 182 → mm_cP a := lt_s (i := 181) cq_181 cv_181
theorem cq_183 : ∀ a, a < 183 → mm_cP a := lt_s (i := 182) cq_182 cv_182
theorem cq_184 : ∀ a, a < 184 → mm_cP a := lt_s (i := 183) cq_183 cv_183
theorem cq_185 : ∀ a, a < 185 → mm_cP a := lt_s (i := 184) cq_184 cv_184
theorem cq_186 : ∀ a, a < 186 → mm_cP a := lt_s (i := 185) cq_185 cv_185
theorem cq_187 : ∀ a, a < 187 → mm_cP a := lt_s (i := 186) cq_186 cv_186
theorem cq_188 : ∀ a, a < 188 → mm_cP a := lt_s (i := 187) cq_187 cv_187
theorem cq_189 : ∀ a, a < 189 → mm_cP a := lt_s (i := 188) cq_188 cv_188
theorem cq_190 : ∀ a, a < 190 → mm_cP a := lt_s (i := 189) cq_189 cv_189
theorem cq_191 : ∀ a, a < 191 → mm_cP a := lt_s (i := 190) cq_190 cv_190
theorem cq_192 : ∀ a, a < 192 → mm_cP a := lt_s (i := 191) cq_191 cv_191
theorem cq_193 : ∀ a, a < 193 → mm_cP a := lt_s (i := 192) cq_192 cv_192
theorem cq_194 : ∀ a, a < 194 → mm_cP a := lt_s (i := 193) cq_193 cv_193
theorem cq_195 : ∀ a, a < 195 → mm_cP a := lt_s (i := 194) cq_194 cv_194
theorem cq_196 : ∀ a, a < 196 → mm_cP a := lt_s (i := 195) cq_195 cv_195
theorem cq_197 : ∀ a, a < 197 → mm_cP a := lt_s (i := 196) cq_196 cv_196
theorem cq_198 : ∀ a, a < 198 → mm_cP a := lt_s (i := 197) cq_197 cv_197
theorem cq_199 : ∀ a, a < 199 → mm_cP a := lt_s (i := 198) cq_198 cv_198
theorem cq_200 : ∀ a, a < 200 → mm_cP a := lt_s (i := 199) cq_199 cv_199
theorem cq_201 : ∀ a, a < 201 → mm_cP a := lt_s (i := 200) cq_200 cv_200
theorem cq_202 : ∀ a, a < 202 → mm_cP a := lt_s (i := 201) cq_201 cv_201
theorem cq_203 : ∀ a, a < 203 → mm_cP a := lt_s (i := 202) cq_202 cv_202
theorem cq_204 : ∀ a, a < 204 → mm_cP a := lt_s (i := 203) cq_203 cv_203
theorem cq_205 : ∀ a, a < 205 → mm_cP a := lt_s (i := 204) cq_204 cv_204
def mm_clP (c : Nat) : Prop := vwCl[c]? = some (mm_cn c, mm_T c, mm_N c) ∧ (∀ w ∈ u_ws (mm_cn c) (mm_T c) (mm_N c), w ∈ mm_tb) ∧ (∀ a, a < mm_N c → ∀ b, b < mm_N c → a ≠ b → (mm_T c a).2.1 ≠ (mm_T c b).2.1) ∧ (∀ k, k < mm_N c → parseFieldDescriptor (mm_T c k).2.2.1 = some (mm_fy c k)) ∧ (∀ j, j < mm_N c → defaultValue (mm_fy c j) = vp_V (mm_df c) j) ∧ (mm_df c).length = mm_N c ∧ (.instantiable (mm_cn c) (mm_N c) : Cond) ∈ mm_tb ∧ (.initialized (mm_cn c) : Cond) ∈ mm_tb
theorem cc_0 : mm_clP 0 := ⟨rfl, mm_posmem mm_fp0 (by decide +kernel) (by decide +kernel), nmX0, tyX0_ok, by decide +kernel, rfl, mm_at_mem (p := 89) (by decide +kernel) rfl, mm_at_mem (p := 65) (by decide +kernel) rfl⟩
theorem cc_1 : mm_clP 1 := ⟨rfl, mm_posmem mm_fp1 (by decide +kernel) (by decide +kernel), nmX1, tyX1_ok, by decide +kernel, rfl, mm_at_mem (p := 167) (by decide +kernel) rfl, mm_at_mem (p := 70) (by decide +kernel) rfl⟩
theorem cc_2 : mm_clP 2 := ⟨rfl, mm_posmem mm_fp2 (by decide +kernel) (by decide +kernel), nmX2, tyX2_ok, by decide +kernel, rfl, mm_at_mem (p := 204) (by decide +kernel) rfl, mm_at_mem (p := 71) (by decide +kernel) rfl⟩
theorem cc_3 : mm_clP 3 := ⟨rfl, mm_posmem mm_fp3 (by decide +kernel) (by decide +kernel), nmX3, tyX3_ok, by decide +kernel, rfl, mm_at_mem (p := 228) (by decide +kernel) rfl, mm_at_mem (p := 72) (by decide +kernel) rfl⟩
theorem cc_4 : mm_clP 4 := ⟨rfl, mm_posmem mm_fp4 (by decide +kernel) (by decide +kernel), nmX4, tyX4_ok, by decide +kernel, rfl, mm_at_mem (p := 116) (by decide +kernel) rfl, mm_at_mem (p := 67) (by decide +kernel) rfl⟩
theorem cc_5 : mm_clP 5 := ⟨rfl, mm_posmem mm_fp5 (by decide +kernel) (by decide +kernel), nmX5, tyX5_ok, by decide +kernel, rfl, mm_at_mem (p := 100) (by decide +kernel) rfl, mm_at_mem (p := 66) (by decide +kernel) rfl⟩
theorem cc_6 : mm_clP 6 := ⟨rfl, mm_posmem mm_fp6 (by decide +kernel) (by decide +kernel), nmX6, tyX6_ok, by decide +kernel, rfl, mm_at_mem (p := 123) (by decide +kernel) rfl, mm_at_mem (p := 68) (by decide +kernel) rfl⟩
theorem cc_7 : mm_clP 7 := ⟨rfl, mm_posmem mm_fp7 (by decide +kernel) (by decide +kernel), nmX7, tyX7_ok, by decide +kernel, rfl, mm_at_mem (p := 152) (by decide +kernel) rfl, mm_at_mem (p := 69) (by decide +kernel) rfl⟩
theorem cc_8 : mm_clP 8 := ⟨rfl, mm_posmem mm_fp8 (by decide +kernel) (by decide +kernel), nmX8, tyX8_ok, by decide +kernel, rfl, mm_at_mem (p := 241) (by decide +kernel) rfl, mm_at_mem (p := 73) (by decide +kernel) rfl⟩
theorem cc_9 : mm_clP 9 := ⟨rfl, mm_posmem mm_fp9 (by decide +kernel) (by decide +kernel), nmX9, tyX9_ok, by decide +kernel, rfl, mm_at_mem (p := 278) (by decide +kernel) rfl, mm_at_mem (p := 75) (by decide +kernel) rfl⟩
theorem cc_10 : mm_clP 10 := ⟨rfl, mm_posmem mm_fp10 (by decide +kernel) (by decide +kernel), nmX10, tyX10_ok, by decide +kernel, rfl, mm_at_mem (p := 254) (by decide +kernel) rfl, mm_at_mem (p := 74) (by decide +kernel) rfl⟩
theorem cc_11 : mm_clP 11 := ⟨rfl, mm_posmem mm_fp11 (by decide +kernel) (by decide +kernel), nmX11, tyX11_ok, by decide +kernel, rfl, mm_at_mem (p := 80) (by decide +kernel) rfl, mm_at_mem (p := 64) (by decide +kernel) rfl⟩
theorem cc_12 : mm_clP 12 := ⟨rfl, mm_posmem mm_fp12 (by decide +kernel) (by decide +kernel), nmX12, tyX12_ok, by decide +kernel, rfl, mm_at_mem (p := 922) (by decide +kernel) rfl, mm_at_mem (p := 76) (by decide +kernel) rfl⟩
theorem ce_0 : ∀ a, a < 0 → mm_clP a := lt_0
theorem ce_1 : ∀ a, a < 1 → mm_clP a := lt_s (i := 0) ce_0 cc_0
theorem ce_2 : ∀ a, a < 2 → mm_clP a := lt_s (i := 1) ce_1 cc_1
theorem ce_3 : ∀ a, a < 3 → mm_clP a := lt_s (i := 2) ce_2 cc_2
theorem ce_4 : ∀ a, a < 4 → mm_clP a := lt_s (i := 3) ce_3 cc_3
theorem ce_5 : ∀ a, a < 5 → mm_clP a := lt_s (i := 4) ce_4 cc_4
theorem ce_6 : ∀ a, a < 6 → mm_clP a := lt_s (i := 5) ce_5 cc_5
theorem ce_7 : ∀ a, a < 7 → mm_clP a := lt_s (i := 6) ce_6 cc_6
theorem ce_8 : ∀ a, a < 8 → mm_clP a := lt_s (i := 7) ce_7 cc_7
theorem ce_9 : ∀ a, a < 9 → mm_clP a := lt_s (i := 8) ce_8 cc_8
theorem ce_10 : ∀ a, a < 10 → mm_clP a := lt_s (i := 9) ce_9 cc_9
theorem ce_11 : ∀ a, a < 11 → mm_clP a := lt_s (i := 10) ce_10 cc_10
theorem ce_12 : ∀ a, a < 12 → mm_clP a := lt_s (i := 11) ce_11 cc_11
theorem ce_13 : ∀ a, a < 13 → mm_clP a := lt_s (i := 12) ce_12 cc_12
