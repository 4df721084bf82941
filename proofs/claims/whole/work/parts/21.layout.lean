/-! ===== Layout: the object at 8, its parts' row at 9, totals at 10, what comes at 11, the parts from 12 on, three cells each ===== -/
def LYH (M : mm_M) : Prop := M.1 8 = some (.inr (4, [.ref 9, .ref 10, .ref 11])) ∧ ∃ pf, M.1 9 = some (.inl (3, 6, .inr (.inr (.inr (.inr pf))))) ∧ ∀ c, c < 6 → pf c = some (12 + 3 * c)
def LYP (M : mm_M) (nb np : Nat → Nat) (bx pl : Nat → Nat → Int32) : Prop := ∀ c, c < 6 → PT M (12 + 3 * c) (nb c) (np c) (bx c) (pl c)
theorem PT_off {M : mm_M} {a nb np x : Nat} {bx pl : Nat → Int32} {c : mm_E} (h : PT M a nb np bx pl) (hx : x < a ∨ a + 2 < x) : PT (mm_put M x c) a nb np bx pl := ⟨by rw [mm_pn (by omega)]; exact h.1, by rw [mm_pn (by omega)]; exact h.2.1, by rw [mm_pn (by omega)]; exact h.2.2.1, h.2.2.2⟩
theorem LYH_off {M : mm_M} {x : Nat} {c : mm_E} (h : LYH M) (hx : x < 8 ∨ 9 < x) : LYH (mm_put M x c) := by
  obtain ⟨h1, pf, h2, h3⟩ := h
  exact ⟨by rw [mm_pn (by omega)]; exact h1, pf, by rw [mm_pn (by omega)]; exact h2, h3⟩
theorem LYP_off {M : mm_M} {nb np : Nat → Nat} {bx pl : Nat → Nat → Int32} {x : Nat} {c : mm_E} (h : LYP M nb np bx pl) (hx : x < 12 ∨ 29 < x) : LYP (mm_put M x c) nb np bx pl := fun k hk => PT_off (h k hk) (by omega)
def pq (p : Nat → Int32) (k f : Nat) : Nat := (p (k * 8 + f)).toNatClampNeg
def sm (x : Int32) : Prop := -16 ≤ x.toInt ∧ x.toInt ≤ 16
def plok (c : Nat) (p : Nat → Int32) (k : Nat) : Prop := (p (k * 8 + 0) = nI (pq p k 0) ∧ pq p k 0 < c) ∧ (p (k * 8 + 1) = nI (pq p k 1) ∧ pq p k 1 < 8) ∧ (sm (p (k * 8 + 2)) ∧ sm (p (k * 8 + 3))) ∧ (sm (p (k * 8 + 4)) ∧ sm (p (k * 8 + 5))) ∧ (p (k * 8 + 6) = nI (pq p k 6) ∧ 1 ≤ pq p k 6 ∧ pq p k 6 ≤ 4) ∧ (p (k * 8 + 7) = nI (pq p k 7) ∧ 1 ≤ pq p k 7 ∧ pq p k 7 ≤ 4)
def bxok (p : Nat → Int32) (k : Nat) : Prop := (sm (p (k * 4 + 0)) ∧ sm (p (k * 4 + 1))) ∧ (1 ≤ (p (k * 4 + 2)).toInt ∧ (p (k * 4 + 2)).toInt ≤ 16) ∧ (1 ≤ (p (k * 4 + 3)).toInt ∧ (p (k * 4 + 3)).toInt ≤ 16)
def LYV (nb np : Nat → Nat) (bx pl : Nat → Nat → Int32) : Prop := ∀ c, c < 6 → (∀ k, k < nb c → bxok (bx c) k) ∧ ∀ k, k < np c → plok c (pl c) k
section P21
variable {S : mm_S} {d : Nat} {M : mm_M} {nb np : Nat → Nat} {bx pl : Nat → Nat → Int32}
set_option maxRecDepth 8000 in
theorem c54_full {c : Nat} {x y w h1 : Int32} (h : LYH M) (hp : LYP M nb np bx pl) (hc : c < 6) (hn : nb c = 6) : mm_R S (d + 1) 54 0 (mm_en 54 [.ref 8, .int (nI c), .int x, .int y, .int w, .int h1]) [] M (fun v M' => v = some (.int (nI 0)) ∧ M' = M) := by
  obtain ⟨hh1, pf, h2, hpf⟩ := h
  have hp1 := hp c hc
  obtain ⟨p1, p2, p3, p4, p5⟩ := id hp1
  have hci := in_nI hc (by decide)
  show mm_R S (d + 1) 54 0 [some (.ref 8), some (.int (nI c)), some (.int x), some (.int y), some (.int w), some (.int h1)] [] M _
  refine R_aload_n (q := 1) rfl rfl rfl ?_
  refine R_getf (q := 4) rfl rfl rfl (by first | assumption | exact mm_pe | (rw [mm_pn (by omega)]; first | assumption | exact mm_pe | (rw [mm_pn (by omega)]; first | assumption | exact mm_pe | (rw [mm_pn (by omega)]; first | assumption | exact mm_pe | (rw [mm_pn (by omega)]; first | assumption | exact mm_pe | (rw [mm_pn (by omega)]; first | assumption | exact mm_pe)))))) rfl ?_
  refine R_iload_n (q := 5) rfl rfl rfl ?_
  refine R_aaload (q := 6) rfl rfl (by first | assumption | exact mm_pe | (rw [mm_pn (by omega)]; first | assumption | exact mm_pe | (rw [mm_pn (by omega)]; first | assumption | exact mm_pe | (rw [mm_pn (by omega)]; first | assumption | exact mm_pe | (rw [mm_pn (by omega)]; first | assumption | exact mm_pe | (rw [mm_pn (by omega)]; first | assumption | exact mm_pe)))))) rfl (by first | assumption | exact in_nI (by omega) (by decide)) (by rw [cl_nI (by omega)]; exact hpf c hc) ?_
  refine R_iload_n (q := 7) rfl rfl rfl ?_
  refine R_iload_n (q := 8) rfl rfl rfl ?_
  refine R_iload (q := 10) rfl rfl rfl ?_
  refine R_iload (q := 12) rfl rfl rfl ?_
  refine R_callv4 (q := 15) rfl rfl rfl rfl p1 (Nat.le_of_ble_eq_true rfl) rfl ?_
  refine R_mono (c79_full hp1 hn) (fun v12 M12 hr12 => ?_)
  obtain ⟨rfl, hm12⟩ := hr12
  rw [hm12]
  dsimp only [Option.toList, List.cons_append, List.nil_append]
  refine R_zreturn rfl rfl (Or.inl rfl) ?_
  exact ⟨rfl, rfl⟩
set_option maxRecDepth 8000 in
theorem c54 {c : Nat} {x y w h1 : Int32} (h : LYH M) (hp : LYP M nb np bx pl) (hc : c < 6) (hn : nb c < 6) : mm_R S (d + 1) 54 0 (mm_en 54 [.ref 8, .int (nI c), .int x, .int y, .int w, .int h1]) [] M (fun v M' => v = some (.int (nI 1)) ∧ M' = mm_put (mm_put M (12 + 3 * c + 1) (.inl (0, 24, .inl (up4 (bx c) (nb c * 4) x y w h1)))) (12 + 3 * c) (.inr (6, [.ref (12 + 3 * c + 1), .ref (12 + 3 * c + 2), .int (nI (nb c + 1)), .int (nI (np c))]))) := by
  obtain ⟨hh1, pf, h2, hpf⟩ := h
  have hp1 := hp c hc
  obtain ⟨p1, p2, p3, p4, p5⟩ := id hp1
  have hci := in_nI hc (by decide)
  show mm_R S (d + 1) 54 0 [some (.ref 8), some (.int (nI c)), some (.int x), some (.int y), some (.int w), some (.int h1)] [] M _
  refine R_aload_n (q := 1) rfl rfl rfl ?_
  refine R_getf (q := 4) rfl rfl rfl (by first | assumption | exact mm_pe | (rw [mm_pn (by omega)]; first | assumption | exact mm_pe | (rw [mm_pn (by omega)]; first | assumption | exact mm_pe | (rw [mm_pn (by omega)]; first | assumption | exact mm_pe | (rw [mm_pn (by omega)]; first | assumption | exact mm_pe | (rw [mm_pn (by omega)]; first | assumption | exact mm_pe)))))) rfl ?_
  refine R_iload_n (q := 5) rfl rfl rfl ?_
  refine R_aaload (q := 6) rfl rfl (by first | assumption | exact mm_pe | (rw [mm_pn (by omega)]; first | assumption | exact mm_pe | (rw [mm_pn (by omega)]; first | assumption | exact mm_pe | (rw [mm_pn (by omega)]; first | assumption | exact mm_pe | (rw [mm_pn (by omega)]; first | assumption | exact mm_pe | (rw [mm_pn (by omega)]; first | assumption | exact mm_pe)))))) rfl (by first | assumption | exact in_nI (by omega) (by decide)) (by rw [cl_nI (by omega)]; exact hpf c hc) ?_
  refine R_iload_n (q := 7) rfl rfl rfl ?_
  refine R_iload_n (q := 8) rfl rfl rfl ?_
  refine R_iload (q := 10) rfl rfl rfl ?_
  refine R_iload (q := 12) rfl rfl rfl ?_
  refine R_callv4 (q := 15) rfl rfl rfl rfl p1 (Nat.le_of_ble_eq_true rfl) rfl ?_
  refine R_mono (c79 hp1 hn) (fun v12 M12 hr12 => ?_)
  obtain ⟨rfl, hm12⟩ := hr12
  rw [hm12]
  dsimp only [Option.toList, List.cons_append, List.nil_append]
  refine R_zreturn rfl rfl (Or.inr rfl) ?_
  exact ⟨rfl, rfl⟩
set_option maxRecDepth 8000 in
theorem c58 {c : Nat} (h : LYH M) (hp : LYP M nb np bx pl) (hc : c < 6) : mm_R S (d + 1) 58 0 (mm_en 58 [.ref 8, .int (nI c)]) [] M (fun v M' => v = none ∧ M' = mm_put M (12 + 3 * c) (.inr (6, [.ref (12 + 3 * c + 1), .ref (12 + 3 * c + 2), .int (nI 0), .int (nI 0)]))) := by
  obtain ⟨h1, pf, h2, hpf⟩ := h
  have hp1 := hp c hc
  obtain ⟨p1, p2, p3, p4, p5⟩ := id hp1
  have hci := in_nI hc (by decide)
  show mm_R S (d + 1) 58 0 [some (.ref 8), some (.int (nI c))] [] M _
  refine R_aload_n (q := 1) rfl rfl rfl ?_
  refine R_getf (q := 4) rfl rfl rfl (by first | assumption | exact mm_pe | (rw [mm_pn (by omega)]; first | assumption | exact mm_pe | (rw [mm_pn (by omega)]; first | assumption | exact mm_pe | (rw [mm_pn (by omega)]; first | assumption | exact mm_pe | (rw [mm_pn (by omega)]; first | assumption | exact mm_pe | (rw [mm_pn (by omega)]; first | assumption | exact mm_pe)))))) rfl ?_
  refine R_iload_n (q := 5) rfl rfl rfl ?_
  refine R_aaload (q := 6) rfl rfl (by first | assumption | exact mm_pe | (rw [mm_pn (by omega)]; first | assumption | exact mm_pe | (rw [mm_pn (by omega)]; first | assumption | exact mm_pe | (rw [mm_pn (by omega)]; first | assumption | exact mm_pe | (rw [mm_pn (by omega)]; first | assumption | exact mm_pe | (rw [mm_pn (by omega)]; first | assumption | exact mm_pe)))))) rfl (by first | assumption | exact in_nI (by omega) (by decide)) (by rw [cl_nI (by omega)]; exact hpf c hc) ?_
  refine R_callv0 (q := 9) rfl rfl rfl rfl p1 (Nat.le_of_ble_eq_true rfl) rfl ?_
  refine R_mono (c76 hp1) (fun v6 M6 hr6 => ?_)
  obtain ⟨rfl, hm6⟩ := hr6
  rw [hm6]
  dsimp only [Option.toList, List.cons_append, List.nil_append]
  refine R_return rfl rfl ?_
  exact ⟨rfl, rfl⟩
set_option maxRecDepth 8000 in
theorem c55 {x y t : Int32} {cm : Nat → Int32} (h : LYH M) (hm : M.1 11 = some (.inl (0, 8, .inl cm))) : mm_R S d 55 0 (mm_en 55 [.ref 8, .int x, .int y, .int t]) [] M (fun v M' => v = none ∧ M' = mm_put M 11 (.inl (0, 8, .inl (upd (upd (upd cm 2 x) 3 y) 1 t)))) := by
  obtain ⟨h1, pf, h2, hpf⟩ := h
  show mm_R S d 55 0 [some (.ref 8), some (.int x), some (.int y), some (.int t)] [] M _
  refine R_aload_n (q := 1) rfl rfl rfl ?_
  refine R_getf (q := 4) rfl rfl rfl (by first | assumption | exact mm_pe | (rw [mm_pn (by omega)]; first | assumption | exact mm_pe | (rw [mm_pn (by omega)]; first | assumption | exact mm_pe | (rw [mm_pn (by omega)]; first | assumption | exact mm_pe | (rw [mm_pn (by omega)]; first | assumption | exact mm_pe | (rw [mm_pn (by omega)]; first | assumption | exact mm_pe)))))) rfl ?_
  refine R_iconst (q := 5) (v := nI 2) rfl rfl (by decide) ?_
  refine R_iload_n (q := 6) rfl rfl rfl ?_
  refine R_iastore (q := 7) rfl rfl (by first | assumption | exact mm_pe | (rw [mm_pn (by omega)]; first | assumption | exact mm_pe | (rw [mm_pn (by omega)]; first | assumption | exact mm_pe | (rw [mm_pn (by omega)]; first | assumption | exact mm_pe | (rw [mm_pn (by omega)]; first | assumption | exact mm_pe | (rw [mm_pn (by omega)]; first | assumption | exact mm_pe)))))) (by first | assumption | exact in_nI (by omega) (by decide)) ?_
  rw [cl_nI (by omega)]
  refine R_aload_n (q := 8) rfl rfl rfl ?_
  refine R_getf (q := 11) rfl rfl rfl (by first | assumption | exact mm_pe | (rw [mm_pn (by omega)]; first | assumption | exact mm_pe | (rw [mm_pn (by omega)]; first | assumption | exact mm_pe | (rw [mm_pn (by omega)]; first | assumption | exact mm_pe | (rw [mm_pn (by omega)]; first | assumption | exact mm_pe | (rw [mm_pn (by omega)]; first | assumption | exact mm_pe)))))) rfl ?_
  refine R_iconst (q := 12) (v := nI 3) rfl rfl (by decide) ?_
  refine R_iload_n (q := 13) rfl rfl rfl ?_
  refine R_iastore (q := 14) rfl rfl (by first | assumption | exact mm_pe | (rw [mm_pn (by omega)]; first | assumption | exact mm_pe | (rw [mm_pn (by omega)]; first | assumption | exact mm_pe | (rw [mm_pn (by omega)]; first | assumption | exact mm_pe | (rw [mm_pn (by omega)]; first | assumption | exact mm_pe | (rw [mm_pn (by omega)]; first | assumption | exact mm_pe)))))) (by first | assumption | exact in_nI (by omega) (by decide)) ?_
  rw [cl_nI (by omega), mm_pp]
  refine R_aload_n (q := 15) rfl rfl rfl ?_
  refine R_getf (q := 18) rfl rfl rfl (by first | assumption | exact mm_pe | (rw [mm_pn (by omega)]; first | assumption | exact mm_pe | (rw [mm_pn (by omega)]; first | assumption | exact mm_pe | (rw [mm_pn (by omega)]; first | assumption | exact mm_pe | (rw [mm_pn (by omega)]; first | assumption | exact mm_pe | (rw [mm_pn (by omega)]; first | assumption | exact mm_pe)))))) rfl ?_
  refine R_iconst (q := 19) (v := nI 1) rfl rfl (by decide) ?_
  refine R_iload_n (q := 20) rfl rfl rfl ?_
  refine R_iastore (q := 21) rfl rfl (by first | assumption | exact mm_pe | (rw [mm_pn (by omega)]; first | assumption | exact mm_pe | (rw [mm_pn (by omega)]; first | assumption | exact mm_pe | (rw [mm_pn (by omega)]; first | assumption | exact mm_pe | (rw [mm_pn (by omega)]; first | assumption | exact mm_pe | (rw [mm_pn (by omega)]; first | assumption | exact mm_pe)))))) (by first | assumption | exact in_nI (by omega) (by decide)) ?_
  rw [cl_nI (by omega), mm_pp]
  refine R_return rfl rfl ?_
  exact ⟨rfl, rfl⟩
set_option maxRecDepth 8000 in
theorem c56 {x y : Int32} {cm : Nat → Int32} (h : LYH M) (hm : M.1 11 = some (.inl (0, 8, .inl cm))) : mm_R S d 56 0 (mm_en 56 [.ref 8, .int x, .int y]) [] M (fun v M' => v = none ∧ M' = mm_put M 11 (.inl (0, 8, .inl (upd (upd cm 4 x) 5 y)))) := by
  obtain ⟨h1, pf, h2, hpf⟩ := h
  show mm_R S d 56 0 [some (.ref 8), some (.int x), some (.int y)] [] M _
  refine R_aload_n (q := 1) rfl rfl rfl ?_
  refine R_getf (q := 4) rfl rfl rfl (by first | assumption | exact mm_pe | (rw [mm_pn (by omega)]; first | assumption | exact mm_pe | (rw [mm_pn (by omega)]; first | assumption | exact mm_pe | (rw [mm_pn (by omega)]; first | assumption | exact mm_pe | (rw [mm_pn (by omega)]; first | assumption | exact mm_pe | (rw [mm_pn (by omega)]; first | assumption | exact mm_pe)))))) rfl ?_
  refine R_iconst (q := 5) (v := nI 4) rfl rfl (by decide) ?_
  refine R_iload_n (q := 6) rfl rfl rfl ?_
  refine R_iastore (q := 7) rfl rfl (by first | assumption | exact mm_pe | (rw [mm_pn (by omega)]; first | assumption | exact mm_pe | (rw [mm_pn (by omega)]; first | assumption | exact mm_pe | (rw [mm_pn (by omega)]; first | assumption | exact mm_pe | (rw [mm_pn (by omega)]; first | assumption | exact mm_pe | (rw [mm_pn (by omega)]; first | assumption | exact mm_pe)))))) (by first | assumption | exact in_nI (by omega) (by decide)) ?_
  rw [cl_nI (by omega)]
  refine R_aload_n (q := 8) rfl rfl rfl ?_
  refine R_getf (q := 11) rfl rfl rfl (by first | assumption | exact mm_pe | (rw [mm_pn (by omega)]; first | assumption | exact mm_pe | (rw [mm_pn (by omega)]; first | assumption | exact mm_pe | (rw [mm_pn (by omega)]; first | assumption | exact mm_pe | (rw [mm_pn (by omega)]; first | assumption | exact mm_pe | (rw [mm_pn (by omega)]; first | assumption | exact mm_pe)))))) rfl ?_
  refine R_iconst (q := 12) (v := nI 5) rfl rfl (by decide) ?_
  refine R_iload_n (q := 13) rfl rfl rfl ?_
  refine R_iastore (q := 14) rfl rfl (by first | assumption | exact mm_pe | (rw [mm_pn (by omega)]; first | assumption | exact mm_pe | (rw [mm_pn (by omega)]; first | assumption | exact mm_pe | (rw [mm_pn (by omega)]; first | assumption | exact mm_pe | (rw [mm_pn (by omega)]; first | assumption | exact mm_pe | (rw [mm_pn (by omega)]; first | assumption | exact mm_pe)))))) (by first | assumption | exact in_nI (by omega) (by decide)) ?_
  rw [cl_nI (by omega), mm_pp]
  refine R_return rfl rfl ?_
  exact ⟨rfl, rfl⟩
set_option maxRecDepth 8000 in
theorem c57_full {c : Nat} {z x y : Int32} {cm : Nat → Int32} (h : LYH M) (hp : LYP M nb np bx pl) (hm : M.1 11 = some (.inl (0, 8, .inl cm))) (hc : c < 6) (hn : np c = 4) : mm_R S (d + 1) 57 0 (mm_en 57 [.ref 8, .int (nI c), .int z, .int x, .int y]) [] M (fun v M' => v = some (.int (nI 0)) ∧ M' = (mm_put M 11 (.inl (0, 8, .inl (upd (upd (upd cm 0 z) 6 x) 7 y))))) := by
  have hp1 := LYP_off (x := 11) (c := .inl (0, 8, .inl (upd (upd (upd cm 0 z) 6 x) 7 y))) hp (by omega) c hc
  obtain ⟨h1, pf, h2, hpf⟩ := h
  obtain ⟨p1, p2, p3, p4, p5⟩ := id hp1
  have hci := in_nI hc (by decide)
  show mm_R S (d + 1) 57 0 [some (.ref 8), some (.int (nI c)), some (.int z), some (.int x), some (.int y)] [] M _
  refine R_aload_n (q := 1) rfl rfl rfl ?_
  refine R_getf (q := 4) rfl rfl rfl (by first | assumption | exact mm_pe | (rw [mm_pn (by omega)]; first | assumption | exact mm_pe | (rw [mm_pn (by omega)]; first | assumption | exact mm_pe | (rw [mm_pn (by omega)]; first | assumption | exact mm_pe | (rw [mm_pn (by omega)]; first | assumption | exact mm_pe | (rw [mm_pn (by omega)]; first | assumption | exact mm_pe)))))) rfl ?_
  refine R_iconst (q := 5) (v := nI 0) rfl rfl (by decide) ?_
  refine R_iload_n (q := 6) rfl rfl rfl ?_
  refine R_iastore (q := 7) rfl rfl (by first | assumption | exact mm_pe | (rw [mm_pn (by omega)]; first | assumption | exact mm_pe | (rw [mm_pn (by omega)]; first | assumption | exact mm_pe | (rw [mm_pn (by omega)]; first | assumption | exact mm_pe | (rw [mm_pn (by omega)]; first | assumption | exact mm_pe | (rw [mm_pn (by omega)]; first | assumption | exact mm_pe)))))) (by first | assumption | exact in_nI (by omega) (by decide)) ?_
  rw [cl_nI (by omega)]
  refine R_aload_n (q := 8) rfl rfl rfl ?_
  refine R_getf (q := 11) rfl rfl rfl (by first | assumption | exact mm_pe | (rw [mm_pn (by omega)]; first | assumption | exact mm_pe | (rw [mm_pn (by omega)]; first | assumption | exact mm_pe | (rw [mm_pn (by omega)]; first | assumption | exact mm_pe | (rw [mm_pn (by omega)]; first | assumption | exact mm_pe | (rw [mm_pn (by omega)]; first | assumption | exact mm_pe)))))) rfl ?_
  refine R_bipush (q := 13) (v := nI 6) rfl rfl (by decide) ?_
  refine R_iload_n (q := 14) rfl rfl rfl ?_
  refine R_iastore (q := 15) rfl rfl (by first | assumption | exact mm_pe | (rw [mm_pn (by omega)]; first | assumption | exact mm_pe | (rw [mm_pn (by omega)]; first | assumption | exact mm_pe | (rw [mm_pn (by omega)]; first | assumption | exact mm_pe | (rw [mm_pn (by omega)]; first | assumption | exact mm_pe | (rw [mm_pn (by omega)]; first | assumption | exact mm_pe)))))) (by first | assumption | exact in_nI (by omega) (by decide)) ?_
  rw [cl_nI (by omega), mm_pp]
  refine R_aload_n (q := 16) rfl rfl rfl ?_
  refine R_getf (q := 19) rfl rfl rfl (by first | assumption | exact mm_pe | (rw [mm_pn (by omega)]; first | assumption | exact mm_pe | (rw [mm_pn (by omega)]; first | assumption | exact mm_pe | (rw [mm_pn (by omega)]; first | assumption | exact mm_pe | (rw [mm_pn (by omega)]; first | assumption | exact mm_pe | (rw [mm_pn (by omega)]; first | assumption | exact mm_pe)))))) rfl ?_
  refine R_bipush (q := 21) (v := nI 7) rfl rfl (by decide) ?_
  refine R_iload (q := 23) rfl rfl rfl ?_
  refine R_iastore (q := 24) rfl rfl (by first | assumption | exact mm_pe | (rw [mm_pn (by omega)]; first | assumption | exact mm_pe | (rw [mm_pn (by omega)]; first | assumption | exact mm_pe | (rw [mm_pn (by omega)]; first | assumption | exact mm_pe | (rw [mm_pn (by omega)]; first | assumption | exact mm_pe | (rw [mm_pn (by omega)]; first | assumption | exact mm_pe)))))) (by first | assumption | exact in_nI (by omega) (by decide)) ?_
  rw [cl_nI (by omega), mm_pp]
  refine R_aload_n (q := 25) rfl rfl rfl ?_
  refine R_getf (q := 28) rfl rfl rfl (by first | assumption | exact mm_pe | (rw [mm_pn (by omega)]; first | assumption | exact mm_pe | (rw [mm_pn (by omega)]; first | assumption | exact mm_pe | (rw [mm_pn (by omega)]; first | assumption | exact mm_pe | (rw [mm_pn (by omega)]; first | assumption | exact mm_pe | (rw [mm_pn (by omega)]; first | assumption | exact mm_pe)))))) rfl ?_
  refine R_iload_n (q := 29) rfl rfl rfl ?_
  refine R_aaload (q := 30) rfl rfl (by first | assumption | exact mm_pe | (rw [mm_pn (by omega)]; first | assumption | exact mm_pe | (rw [mm_pn (by omega)]; first | assumption | exact mm_pe | (rw [mm_pn (by omega)]; first | assumption | exact mm_pe | (rw [mm_pn (by omega)]; first | assumption | exact mm_pe | (rw [mm_pn (by omega)]; first | assumption | exact mm_pe)))))) rfl (by first | assumption | exact in_nI (by omega) (by decide)) (by rw [cl_nI (by omega)]; exact hpf c hc) ?_
  refine R_aload_n (q := 31) rfl rfl rfl ?_
  refine R_getf (q := 34) rfl rfl rfl (by first | assumption | exact mm_pe | (rw [mm_pn (by omega)]; first | assumption | exact mm_pe | (rw [mm_pn (by omega)]; first | assumption | exact mm_pe | (rw [mm_pn (by omega)]; first | assumption | exact mm_pe | (rw [mm_pn (by omega)]; first | assumption | exact mm_pe | (rw [mm_pn (by omega)]; first | assumption | exact mm_pe)))))) rfl ?_
  refine R_callv1 (q := 37) rfl rfl rfl rfl p1 (Nat.le_of_ble_eq_true rfl) rfl ?_
  refine R_mono (c80_full hp1 hn) (fun v34 M34 hr34 => ?_)
  obtain ⟨rfl, hm34⟩ := hr34
  rw [hm34]
  dsimp only [Option.toList, List.cons_append, List.nil_append]
  refine R_zreturn rfl rfl (Or.inl rfl) ?_
  exact ⟨rfl, rfl⟩
set_option maxRecDepth 8000 in
theorem c57 {c : Nat} {z x y : Int32} {cm : Nat → Int32} (h : LYH M) (hp : LYP M nb np bx pl) (hm : M.1 11 = some (.inl (0, 8, .inl cm))) (hc : c < 6) (hn : np c < 4) : mm_R S (d + 1) 57 0 (mm_en 57 [.ref 8, .int (nI c), .int z, .int x, .int y]) [] M (fun v M' => v = some (.int (nI 1)) ∧ M' = mm_put (mm_put (mm_put M 11 (.inl (0, 8, .inl (upd (upd (upd cm 0 z) 6 x) 7 y)))) (12 + 3 * c + 2) (.inl (0, 32, .inl (upn (pl c) (upd (upd (upd cm 0 z) 6 x) 7 y) (np c * 8) 8)))) (12 + 3 * c) (.inr (6, [.ref (12 + 3 * c + 1), .ref (12 + 3 * c + 2), .int (nI (nb c)), .int (nI (np c + 1))]))) := by
  have hp1 := LYP_off (x := 11) (c := .inl (0, 8, .inl (upd (upd (upd cm 0 z) 6 x) 7 y))) hp (by omega) c hc
  obtain ⟨h1, pf, h2, hpf⟩ := h
  obtain ⟨p1, p2, p3, p4, p5⟩ := id hp1
  have hci := in_nI hc (by decide)
  show mm_R S (d + 1) 57 0 [some (.ref 8), some (.int (nI c)), some (.int z), some (.int x), some (.int y)] [] M _
  refine R_aload_n (q := 1) rfl rfl rfl ?_
  refine R_getf (q := 4) rfl rfl rfl (by first | assumption | exact mm_pe | (rw [mm_pn (by omega)]; first | assumption | exact mm_pe | (rw [mm_pn (by omega)]; first | assumption | exact mm_pe | (rw [mm_pn (by omega)]; first | assumption | exact mm_pe | (rw [mm_pn (by omega)]; first | assumption | exact mm_pe | (rw [mm_pn (by omega)]; first | assumption | exact mm_pe)))))) rfl ?_
  refine R_iconst (q := 5) (v := nI 0) rfl rfl (by decide) ?_
  refine R_iload_n (q := 6) rfl rfl rfl ?_
  refine R_iastore (q := 7) rfl rfl (by first | assumption | exact mm_pe | (rw [mm_pn (by omega)]; first | assumption | exact mm_pe | (rw [mm_pn (by omega)]; first | assumption | exact mm_pe | (rw [mm_pn (by omega)]; first | assumption | exact mm_pe | (rw [mm_pn (by omega)]; first | assumption | exact mm_pe | (rw [mm_pn (by omega)]; first | assumption | exact mm_pe)))))) (by first | assumption | exact in_nI (by omega) (by decide)) ?_
  rw [cl_nI (by omega)]
  refine R_aload_n (q := 8) rfl rfl rfl ?_
  refine R_getf (q := 11) rfl rfl rfl (by first | assumption | exact mm_pe | (rw [mm_pn (by omega)]; first | assumption | exact mm_pe | (rw [mm_pn (by omega)]; first | assumption | exact mm_pe | (rw [mm_pn (by omega)]; first | assumption | exact mm_pe | (rw [mm_pn (by omega)]; first | assumption | exact mm_pe | (rw [mm_pn (by omega)]; first | assumption | exact mm_pe)))))) rfl ?_
  refine R_bipush (q := 13) (v := nI 6) rfl rfl (by decide) ?_
  refine R_iload_n (q := 14) rfl rfl rfl ?_
  refine R_iastore (q := 15) rfl rfl (by first | assumption | exact mm_pe | (rw [mm_pn (by omega)]; first | assumption | exact mm_pe | (rw [mm_pn (by omega)]; first | assumption | exact mm_pe | (rw [mm_pn (by omega)]; first | assumption | exact mm_pe | (rw [mm_pn (by omega)]; first | assumption | exact mm_pe | (rw [mm_pn (by omega)]; first | assumption | exact mm_pe)))))) (by first | assumption | exact in_nI (by omega) (by decide)) ?_
  rw [cl_nI (by omega), mm_pp]
  refine R_aload_n (q := 16) rfl rfl rfl ?_
  refine R_getf (q := 19) rfl rfl rfl (by first | assumption | exact mm_pe | (rw [mm_pn (by omega)]; first | assumption | exact mm_pe | (rw [mm_pn (by omega)]; first | assumption | exact mm_pe | (rw [mm_pn (by omega)]; first | assumption | exact mm_pe | (rw [mm_pn (by omega)]; first | assumption | exact mm_pe | (rw [mm_pn (by omega)]; first | assumption | exact mm_pe)))))) rfl ?_
  refine R_bipush (q := 21) (v := nI 7) rfl rfl (by decide) ?_
  refine R_iload (q := 23) rfl rfl rfl ?_
  refine R_iastore (q := 24) rfl rfl (by first | assumption | exact mm_pe | (rw [mm_pn (by omega)]; first | assumption | exact mm_pe | (rw [mm_pn (by omega)]; first | assumption | exact mm_pe | (rw [mm_pn (by omega)]; first | assumption | exact mm_pe | (rw [mm_pn (by omega)]; first | assumption | exact mm_pe | (rw [mm_pn (by omega)]; first | assumption | exact mm_pe)))))) (by first | assumption | exact in_nI (by omega) (by decide)) ?_
  rw [cl_nI (by omega), mm_pp]
  refine R_aload_n (q := 25) rfl rfl rfl ?_
  refine R_getf (q := 28) rfl rfl rfl (by first | assumption | exact mm_pe | (rw [mm_pn (by omega)]; first | assumption | exact mm_pe | (rw [mm_pn (by omega)]; first | assumption | exact mm_pe | (rw [mm_pn (by omega)]; first | assumption | exact mm_pe | (rw [mm_pn (by omega)]; first | assumption | exact mm_pe | (rw [mm_pn (by omega)]; first | assumption | exact mm_pe)))))) rfl ?_
  refine R_iload_n (q := 29) rfl rfl rfl ?_
  refine R_aaload (q := 30) rfl rfl (by first | assumption | exact mm_pe | (rw [mm_pn (by omega)]; first | assumption | exact mm_pe | (rw [mm_pn (by omega)]; first | assumption | exact mm_pe | (rw [mm_pn (by omega)]; first | assumption | exact mm_pe | (rw [mm_pn (by omega)]; first | assumption | exact mm_pe | (rw [mm_pn (by omega)]; first | assumption | exact mm_pe)))))) rfl (by first | assumption | exact in_nI (by omega) (by decide)) (by rw [cl_nI (by omega)]; exact hpf c hc) ?_
  refine R_aload_n (q := 31) rfl rfl rfl ?_
  refine R_getf (q := 34) rfl rfl rfl (by first | assumption | exact mm_pe | (rw [mm_pn (by omega)]; first | assumption | exact mm_pe | (rw [mm_pn (by omega)]; first | assumption | exact mm_pe | (rw [mm_pn (by omega)]; first | assumption | exact mm_pe | (rw [mm_pn (by omega)]; first | assumption | exact mm_pe | (rw [mm_pn (by omega)]; first | assumption | exact mm_pe)))))) rfl ?_
  refine R_callv1 (q := 37) rfl rfl rfl rfl p1 (Nat.le_of_ble_eq_true rfl) rfl ?_
  refine R_mono (c80 (q := 10) hp1 hn mm_pe (by omega)) (fun v34 M34 hr34 => ?_)
  obtain ⟨rfl, hm34⟩ := hr34
  rw [hm34]
  dsimp only [Option.toList, List.cons_append, List.nil_append]
  refine R_zreturn rfl rfl (Or.inr rfl) ?_
  exact ⟨rfl, rfl⟩
def tsum (p : Nat → Int32) (T : Nat → Nat) : Nat → Nat
  | 0 => 0
  | k + 1 => tsum p T k + pq p k 6 * pq p k 7 * T (pq p k 0)
def totL (nb np : Nat → Nat) (pl : Nat → Nat → Int32) : Nat → Nat → Nat
  | 0 => fun _ => 0
  | p + 1 => fun i => if i = p then min (nb p + tsum (pl p) (totL nb np pl p) (np p)) 201 else totL nb np pl p i
theorem totL_le : ∀ p i, totL nb np pl p i ≤ 201 := by
  intro p
  induction p with
  | zero => intro i; exact Nat.zero_le _
  | succ p ih =>
    intro i
    show (if i = p then min _ 201 else totL nb np pl p i) ≤ 201
    split
    · omega
    · exact ih i
theorem tsum_le {p : Nat → Int32} {T : Nat → Nat} {c n : Nat} (hp : ∀ k, k < n → plok c p k) (hT : ∀ i, T i ≤ 201) : ∀ k, k ≤ n → tsum p T k ≤ k * 3216 := by
  intro k
  induction k with
  | zero => intro _; exact Nat.le_refl _
  | succ k ih =>
    intro hk
    obtain ⟨-, -, -, -, ⟨-, -, h6⟩, -, -, h7⟩ := hp k (by omega)
    have h1 := ih (by omega)
    have h2 : pq p k 6 * pq p k 7 ≤ 16 := Nat.mul_le_mul h6 h7
    have h3 : pq p k 6 * pq p k 7 * T (pq p k 0) ≤ 16 * 201 := Nat.mul_le_mul h2 (hT _)
    show tsum p T k + pq p k 6 * pq p k 7 * T (pq p k 0) ≤ (k + 1) * 3216
    omega
theorem totL_lt {p i q : Nat} (h : i < p) (hq : p ≤ q) : totL nb np pl q i = totL nb np pl p i := by
  obtain ⟨k, rfl⟩ : ∃ k, q = p + k := ⟨q - p, by omega⟩
  clear hq
  induction k with
  | zero => rfl
  | succ k ih =>
    show (if i = p + k then _ else totL nb np pl (p + k) i) = _
    rw [if_neg (by omega)]
    exact ih
theorem TT_s {tt : Nat → Int32} {p : Nat} : upd (ifl (fun i => nI (totL nb np pl p i)) tt p) p (nI (min (nb p + tsum (pl p) (totL nb np pl p) (np p)) 201)) = ifl (fun i => nI (totL nb np pl (p + 1) i)) tt (p + 1) := by
  funext i
  unfold upd ifl
  by_cases h : i = p
  · subst h
    rw [if_pos rfl, if_pos (by omega)]
    show _ = nI (if i = i then _ else _)
    rw [if_pos rfl]
  · rw [if_neg h]
    by_cases h2 : i < p
    · rw [if_pos h2, if_pos (by omega)]
      show _ = nI (if i = p then _ else _)
      rw [if_neg h]
    · rw [if_neg h2, if_neg (by omega)]
set_option maxRecDepth 8000 in
theorem c59 {c : Nat} {tt : Nat → Int32} (h : LYH M) (hp : LYP M nb np bx pl) (hv : LYV nb np bx pl) (ht : M.1 10 = some (.inl (0, 6, .inl tt))) (hc : c < 6) : mm_R S (d + 1) 59 0 (mm_en 59 [.ref 8, .int (nI c)]) [] M (fun v M' => v = some (.int (nI (totL nb np pl (c + 1) c))) ∧ M' = mm_put M 10 (.inl (0, 6, .inl (ifl (fun i => nI (totL nb np pl (c + 1) i)) tt (c + 1))))) := by
  show mm_R S (d + 1) 59 0 [some (.ref 8), some (.int (nI c)), none, none, none, none, none] [] M _
  refine R_iconst (q := 1) (v := nI 0) rfl rfl (by decide) ?_
  refine R_istore_n (q := 2) rfl rfl (Nat.le_of_ble_eq_true rfl) rfl ?_
  dsimp only [List.set]
  refine R_atM (M' := mm_put M 10 (.inl (0, 6, .inl (ifl (fun i => nI (totL nb np pl 0 i)) tt 0)))) (by rw [ifl_0]; exact mm_pself ht) ?_
  refine lpN (fun p => ∀ t3 t4 t5 t6 : Option Value, mm_R S (d + 1) 59 2 [some (.ref 8), some (.int (nI c)), some (.int (nI p)), t3, t4, t5, t6] [] (mm_put M 10 (.inl (0, 6, .inl (ifl (fun i => nI (totL nb np pl p i)) tt p)))) (fun v M' => v = some (.int (nI (totL nb np pl (c + 1) c))) ∧ M' = mm_put M 10 (.inl (0, 6, .inl (ifl (fun i => nI (totL nb np pl (c + 1) i)) tt (c + 1)))))) (c + 1) (fun p hpc ih t3 t4 t5 t6 => ?_) (fun t3 t4 t5 t6 => ?_) 0 (Nat.zero_le _) none none none none
  · have hh := LYH_off (x := 10) (c := (.inl (0, 6, .inl (ifl (fun i => nI (totL nb np pl p i)) tt p)))) h (by omega)
    have hpp := LYP_off (x := 10) (c := (.inl (0, 6, .inl (ifl (fun i => nI (totL nb np pl p i)) tt p)))) hp (by omega) p (by omega)
    have hvp := (hv p (by omega)).2
    have hpc' : (mm_put M 10 (.inl (0, 6, .inl (ifl (fun i => nI (totL nb np pl p i)) tt p)))).1 10 = some (.inl (0, 6, .inl (ifl (fun i => nI (totL nb np pl p i)) tt p))) := mm_pe
    obtain ⟨h1, pf, h2, hpf⟩ := hh
    obtain ⟨p1, p2, p3, p4, p5⟩ := id hpp
    have hci := in_nI (show p < 6 by omega) (by decide)
    refine R_iload_n (q := 3) rfl rfl rfl ?_
    refine R_iload_n (q := 4) rfl rfl rfl ?_
    refine R_icmp_gt (q := 7) (t := 97) rfl rfl rfl (fun h4 => absurd h4 (nI_nlt (by omega) (by omega))) (fun h4 => ?_)
    refine R_aload_n (q := 8) rfl rfl rfl ?_
    refine R_getf (q := 11) rfl rfl rfl (by first | assumption | exact mm_pe | (rw [mm_pn (by omega)]; first | assumption | exact mm_pe | (rw [mm_pn (by omega)]; first | assumption | exact mm_pe | (rw [mm_pn (by omega)]; first | assumption | exact mm_pe | (rw [mm_pn (by omega)]; first | assumption | exact mm_pe | (rw [mm_pn (by omega)]; first | assumption | exact mm_pe)))))) rfl ?_
    refine R_iload_n (q := 12) rfl rfl rfl ?_
    refine R_aaload (q := 13) rfl rfl (by first | assumption | exact mm_pe | (rw [mm_pn (by omega)]; first | assumption | exact mm_pe | (rw [mm_pn (by omega)]; first | assumption | exact mm_pe | (rw [mm_pn (by omega)]; first | assumption | exact mm_pe | (rw [mm_pn (by omega)]; first | assumption | exact mm_pe | (rw [mm_pn (by omega)]; first | assumption | exact mm_pe)))))) rfl (by first | assumption | exact in_nI (by omega) (by decide)) (by rw [cl_nI (by omega)]; exact hpf p (by omega)) ?_
    refine R_astore_n (q := 14) rfl rfl (Nat.le_of_ble_eq_true rfl) rfl ?_
    dsimp only [List.set]
    refine R_aload_n (q := 15) rfl rfl rfl ?_
    refine R_callv0 (q := 18) rfl rfl rfl rfl p1 (Nat.le_of_ble_eq_true rfl) rfl ?_
    refine R_mono (c77 hpp) (fun v15 M15 hr15 => ?_)
    obtain ⟨rfl, hm15⟩ := hr15
    rw [hm15]
    dsimp only [Option.toList, List.cons_append, List.nil_append]
    refine R_istore (q := 20) rfl rfl (Nat.le_of_ble_eq_true rfl) rfl ?_
    dsimp only [List.set]
    refine R_iconst (q := 21) (v := nI 0) rfl rfl (by decide) ?_
    refine R_istore (q := 23) rfl rfl (Nat.le_of_ble_eq_true rfl) rfl ?_
    dsimp only [List.set]
    refine lpN (fun k => ∀ t6 : Option Value, mm_R S (d + 1) 59 23 [some (.ref 8), some (.int (nI c)), some (.int (nI p)), some (.ref (12 + 3 * p)), some (.int (nI (nb p + tsum (pl p) (totL nb np pl p) k))), some (.int (nI k)), t6] [] (mm_put M 10 (.inl (0, 6, .inl (ifl (fun i => nI (totL nb np pl p i)) tt p)))) (fun v M' => v = some (.int (nI (totL nb np pl (c + 1) c))) ∧ M' = mm_put M 10 (.inl (0, 6, .inl (ifl (fun i => nI (totL nb np pl (c + 1) i)) tt (c + 1)))))) (np p) (fun k hk ihk t6 => ?_) (fun t6 => ?_) 0 (Nat.zero_le _) _
    · obtain ⟨⟨q0, q0'⟩, -, -, -, ⟨q6, q6', q6''⟩, q7, q7', q7''⟩ := hvp k hk
      have hts := tsum_le hvp (totL_le (nb := nb) (np := np) (pl := pl) p) k (by omega)
      have htp := totL_le (nb := nb) (np := np) (pl := pl) p (pq (pl p) k 0)
      have hq0i := in_nI (show pq (pl p) k 0 < 6 by omega) (by decide)
      refine R_iload (q := 25) rfl rfl rfl ?_
      refine R_aload_n (q := 26) rfl rfl rfl ?_
      refine R_callv0 (q := 29) rfl rfl rfl rfl p1 (Nat.le_of_ble_eq_true rfl) rfl ?_
      refine R_mono (c78 hpp) (fun v26 M26 hr26 => ?_)
      obtain ⟨rfl, hm26⟩ := hr26
      rw [hm26]
      dsimp only [Option.toList, List.cons_append, List.nil_append]
      refine R_icmp_ge (q := 32) (t := 77) rfl rfl rfl (fun h29 => absurd h29 (nI_ge hk (by omega))) (fun h29 => ?_)
      refine R_aload_n (q := 33) rfl rfl rfl ?_
      refine R_iload (q := 35) rfl rfl rfl ?_
      refine R_bipush (q := 37) (v := nI 6) rfl rfl (by decide) ?_
      refine R_callv2 (q := 40) rfl rfl rfl rfl p1 (Nat.le_of_ble_eq_true rfl) rfl ?_
      refine R_mono (c82 (q := 6) hpp (by omega)) (fun v37 M37 hr37 => ?_)
      obtain ⟨rfl, hm37⟩ := hr37
      rw [hm37]
      dsimp only [Option.toList, List.cons_append, List.nil_append]
      rw [q6]
      refine R_aload_n (q := 41) rfl rfl rfl ?_
      refine R_iload (q := 43) rfl rfl rfl ?_
      refine R_bipush (q := 45) (v := nI 7) rfl rfl (by decide) ?_
      refine R_callv2 (q := 48) rfl rfl rfl rfl p1 (Nat.le_of_ble_eq_true rfl) rfl ?_
      refine R_mono (c82 (q := 7) hpp (by omega)) (fun v45 M45 hr45 => ?_)
      obtain ⟨rfl, hm45⟩ := hr45
      rw [hm45]
      dsimp only [Option.toList, List.cons_append, List.nil_append]
      rw [q7]
      refine R_imul (q := 49) rfl rfl ?_
      rw [pk_mul]
      refine R_istore (q := 51) rfl rfl (Nat.le_of_ble_eq_true rfl) rfl ?_
      dsimp only [List.set]
      refine R_iload (q := 53) rfl rfl rfl ?_
      refine R_iload (q := 55) rfl rfl rfl ?_
      refine R_aload_n (q := 56) rfl rfl rfl ?_
      refine R_getf (q := 59) rfl rfl rfl (by first | assumption | exact mm_pe | (rw [mm_pn (by omega)]; first | assumption | exact mm_pe | (rw [mm_pn (by omega)]; first | assumption | exact mm_pe | (rw [mm_pn (by omega)]; first | assumption | exact mm_pe | (rw [mm_pn (by omega)]; first | assumption | exact mm_pe | (rw [mm_pn (by omega)]; first | assumption | exact mm_pe)))))) rfl ?_
      refine R_aload_n (q := 60) rfl rfl rfl ?_
      refine R_iload (q := 62) rfl rfl rfl ?_
      refine R_iconst (q := 63) (v := nI 0) rfl rfl (by decide) ?_
      refine R_callv2 (q := 66) rfl rfl rfl rfl p1 (Nat.le_of_ble_eq_true rfl) rfl ?_
      refine R_mono (c82 (q := 0) hpp (by omega)) (fun v63 M63 hr63 => ?_)
      obtain ⟨rfl, hm63⟩ := hr63
      rw [hm63]
      dsimp only [Option.toList, List.cons_append, List.nil_append]
      rw [q0]
      refine R_iaload (q := 67) rfl rfl (by first | assumption | exact mm_pe | (rw [mm_pn (by omega)]; first | assumption | exact mm_pe | (rw [mm_pn (by omega)]; first | assumption | exact mm_pe | (rw [mm_pn (by omega)]; first | assumption | exact mm_pe | (rw [mm_pn (by omega)]; first | assumption | exact mm_pe | (rw [mm_pn (by omega)]; first | assumption | exact mm_pe)))))) (by omega) (by first | assumption | exact in_nI (by omega) (by decide)) ?_
      rw [cl_nI (by omega), ifl_lt (by omega)]
      refine R_imul (q := 68) rfl rfl ?_
      rw [pk_mul]
      refine R_iadd (q := 69) rfl rfl ?_
      rw [nI_add, Nat.add_assoc]
      refine R_istore (q := 71) rfl rfl (Nat.le_of_ble_eq_true rfl) rfl ?_
      dsimp only [List.set]
      refine R_iinc (q := 74) rfl rfl rfl (nI_i1 k) rfl ?_
      dsimp only [List.set]
      refine R_goto (t := 23) rfl rfl ?_
      exact ihk _
    · have hts := tsum_le hvp (totL_le (nb := nb) (np := np) (pl := pl) p) (np p) (Nat.le_refl _)
      refine R_iload (q := 25) rfl rfl rfl ?_
      refine R_aload_n (q := 26) rfl rfl rfl ?_
      refine R_callv0 (q := 29) rfl rfl rfl rfl p1 (Nat.le_of_ble_eq_true rfl) rfl ?_
      refine R_mono (c78 hpp) (fun v26 M26 hr26 => ?_)
      obtain ⟨rfl, hm26⟩ := hr26
      rw [hm26]
      dsimp only [Option.toList, List.cons_append, List.nil_append]
      refine R_icmp_ge (q := 32) (t := 77) rfl rfl rfl (fun h29 => ?_) (fun h29 => absurd (nI_le (Nat.le_refl _) (by omega)) h29)
      refine R_aload_n (q := 78) rfl rfl rfl ?_
      refine R_getf (q := 81) rfl rfl rfl (by first | assumption | exact mm_pe | (rw [mm_pn (by omega)]; first | assumption | exact mm_pe | (rw [mm_pn (by omega)]; first | assumption | exact mm_pe | (rw [mm_pn (by omega)]; first | assumption | exact mm_pe | (rw [mm_pn (by omega)]; first | assumption | exact mm_pe | (rw [mm_pn (by omega)]; first | assumption | exact mm_pe)))))) rfl ?_
      refine R_iload_n (q := 82) rfl rfl rfl ?_
      refine R_iload (q := 84) rfl rfl rfl ?_
      refine R_sipush (q := 87) (v := nI 201) rfl rfl (by decide) ?_
      refine R_mmin (q := 90) rfl rfl (by decide +kernel) rfl (by omega) (Nat.le_of_ble_eq_true rfl) ?_
      rw [mn_nI (by omega) (by omega)]
      refine R_iastore (q := 91) rfl rfl (by first | assumption | exact mm_pe | (rw [mm_pn (by omega)]; first | assumption | exact mm_pe | (rw [mm_pn (by omega)]; first | assumption | exact mm_pe | (rw [mm_pn (by omega)]; first | assumption | exact mm_pe | (rw [mm_pn (by omega)]; first | assumption | exact mm_pe | (rw [mm_pn (by omega)]; first | assumption | exact mm_pe)))))) (by first | assumption | exact in_nI (by omega) (by decide)) ?_
      rw [mm_pp, cl_nI (by omega), TT_s]
      refine R_iinc (q := 94) rfl rfl rfl (nI_i1 p) rfl ?_
      dsimp only [List.set]
      refine R_goto (t := 2) rfl rfl ?_
      exact ih _ _ _ _
  · have hh := LYH_off (x := 10) (c := (.inl (0, 6, .inl (ifl (fun i => nI (totL nb np pl (c + 1) i)) tt (c + 1))))) h (by omega)
    obtain ⟨h1, pf, h2, hpf⟩ := hh
    have hci := in_nI (show c < 6 by omega) (by decide)
    refine R_iload_n (q := 3) rfl rfl rfl ?_
    refine R_iload_n (q := 4) rfl rfl rfl ?_
    refine R_icmp_gt (q := 7) (t := 97) rfl rfl rfl (fun h4 => ?_) (fun h4 => absurd (nI_lt (by omega) (by omega)) h4)
    refine R_aload_n (q := 98) rfl rfl rfl ?_
    refine R_getf (q := 101) rfl rfl rfl (by first | assumption | exact mm_pe | (rw [mm_pn (by omega)]; first | assumption | exact mm_pe | (rw [mm_pn (by omega)]; first | assumption | exact mm_pe | (rw [mm_pn (by omega)]; first | assumption | exact mm_pe | (rw [mm_pn (by omega)]; first | assumption | exact mm_pe | (rw [mm_pn (by omega)]; first | assumption | exact mm_pe)))))) rfl ?_
    refine R_iload_n (q := 102) rfl rfl rfl ?_
    refine R_iaload (q := 103) rfl rfl (by first | assumption | exact mm_pe | (rw [mm_pn (by omega)]; first | assumption | exact mm_pe | (rw [mm_pn (by omega)]; first | assumption | exact mm_pe | (rw [mm_pn (by omega)]; first | assumption | exact mm_pe | (rw [mm_pn (by omega)]; first | assumption | exact mm_pe | (rw [mm_pn (by omega)]; first | assumption | exact mm_pe)))))) (by omega) (by first | assumption | exact in_nI (by omega) (by decide)) ?_
    rw [cl_nI (by omega), ifl_lt (by omega)]
    refine R_ireturn rfl rfl ?_
    exact ⟨rfl, rfl⟩
def tX (t : Nat) (x y : Int32) : Int32 := match t with
  | 0 => x | 6 => x | 1 => -y | 5 => -y | 2 => -x | 4 => -x | _ => y
def tY (t : Nat) (x y : Int32) : Int32 := match t with
  | 0 => y | 4 => y | 1 => x | 7 => x | 2 => -y | 6 => -y | _ => -x
set_option maxRecDepth 8000 in
theorem c64 {x y : Int32} {t : Nat} (ht : t < 8) : mm_R S d 64 0 (mm_en 64 [.int (nI t), .int x, .int y]) [] M (fun v M' => v = some (.int (tX t x y)) ∧ M' = M) := by
  show mm_R S d 64 0 [some (.int (nI t)), some (.int x), some (.int y)] [] M _
  match t, ht with
  | 0, _ =>
    refine R_iload_n (q := 1) rfl rfl rfl ?_
    refine R_tsw (t := 44) rfl rfl ?_
    refine R_iload_n (q := 45) rfl rfl rfl ?_
    refine R_ireturn rfl rfl ?_
    exact ⟨rfl, rfl⟩
  | 1, _ =>
    refine R_iload_n (q := 1) rfl rfl rfl ?_
    refine R_tsw (t := 46) rfl rfl ?_
    refine R_iload_n (q := 47) rfl rfl rfl ?_
    refine R_ineg (q := 48) rfl rfl ?_
    refine R_ireturn rfl rfl ?_
    exact ⟨rfl, rfl⟩
  | 2, _ =>
    refine R_iload_n (q := 1) rfl rfl rfl ?_
    refine R_tsw (t := 49) rfl rfl ?_
    refine R_iload_n (q := 50) rfl rfl rfl ?_
    refine R_ineg (q := 51) rfl rfl ?_
    refine R_ireturn rfl rfl ?_
    exact ⟨rfl, rfl⟩
  | 3, _ =>
    refine R_iload_n (q := 1) rfl rfl rfl ?_
    refine R_tsw (t := 52) rfl rfl ?_
    refine R_iload_n (q := 53) rfl rfl rfl ?_
    refine R_ireturn rfl rfl ?_
    exact ⟨rfl, rfl⟩
  | 4, _ =>
    refine R_iload_n (q := 1) rfl rfl rfl ?_
    refine R_tsw (t := 49) rfl rfl ?_
    refine R_iload_n (q := 50) rfl rfl rfl ?_
    refine R_ineg (q := 51) rfl rfl ?_
    refine R_ireturn rfl rfl ?_
    exact ⟨rfl, rfl⟩
  | 5, _ =>
    refine R_iload_n (q := 1) rfl rfl rfl ?_
    refine R_tsw (t := 46) rfl rfl ?_
    refine R_iload_n (q := 47) rfl rfl rfl ?_
    refine R_ineg (q := 48) rfl rfl ?_
    refine R_ireturn rfl rfl ?_
    exact ⟨rfl, rfl⟩
  | 6, _ =>
    refine R_iload_n (q := 1) rfl rfl rfl ?_
    refine R_tsw (t := 44) rfl rfl ?_
    refine R_iload_n (q := 45) rfl rfl rfl ?_
    refine R_ireturn rfl rfl ?_
    exact ⟨rfl, rfl⟩
  | 7, _ =>
    refine R_iload_n (q := 1) rfl rfl rfl ?_
    refine R_tsw (t := 52) rfl rfl ?_
    refine R_iload_n (q := 53) rfl rfl rfl ?_
    refine R_ireturn rfl rfl ?_
    exact ⟨rfl, rfl⟩
set_option maxRecDepth 8000 in
theorem c65 {x y : Int32} {t : Nat} (ht : t < 8) : mm_R S d 65 0 (mm_en 65 [.int (nI t), .int x, .int y]) [] M (fun v M' => v = some (.int (tY t x y)) ∧ M' = M) := by
  show mm_R S d 65 0 [some (.int (nI t)), some (.int x), some (.int y)] [] M _
  match t, ht with
  | 0, _ =>
    refine R_iload_n (q := 1) rfl rfl rfl ?_
    refine R_tsw (t := 48) rfl rfl ?_
    refine R_iload_n (q := 49) rfl rfl rfl ?_
    refine R_ireturn rfl rfl ?_
    exact ⟨rfl, rfl⟩
  | 1, _ =>
    refine R_iload_n (q := 1) rfl rfl rfl ?_
    refine R_tsw (t := 50) rfl rfl ?_
    refine R_iload_n (q := 51) rfl rfl rfl ?_
    refine R_ireturn rfl rfl ?_
    exact ⟨rfl, rfl⟩
  | 2, _ =>
    refine R_iload_n (q := 1) rfl rfl rfl ?_
    refine R_tsw (t := 52) rfl rfl ?_
    refine R_iload_n (q := 53) rfl rfl rfl ?_
    refine R_ineg (q := 54) rfl rfl ?_
    refine R_ireturn rfl rfl ?_
    exact ⟨rfl, rfl⟩
  | 3, _ =>
    refine R_iload_n (q := 1) rfl rfl rfl ?_
    refine R_tsw (t := 55) rfl rfl ?_
    refine R_iload_n (q := 56) rfl rfl rfl ?_
    refine R_ineg (q := 57) rfl rfl ?_
    refine R_ireturn rfl rfl ?_
    exact ⟨rfl, rfl⟩
  | 4, _ =>
    refine R_iload_n (q := 1) rfl rfl rfl ?_
    refine R_tsw (t := 48) rfl rfl ?_
    refine R_iload_n (q := 49) rfl rfl rfl ?_
    refine R_ireturn rfl rfl ?_
    exact ⟨rfl, rfl⟩
  | 5, _ =>
    refine R_iload_n (q := 1) rfl rfl rfl ?_
    refine R_tsw (t := 55) rfl rfl ?_
    refine R_iload_n (q := 56) rfl rfl rfl ?_
    refine R_ineg (q := 57) rfl rfl ?_
    refine R_ireturn rfl rfl ?_
    exact ⟨rfl, rfl⟩
  | 6, _ =>
    refine R_iload_n (q := 1) rfl rfl rfl ?_
    refine R_tsw (t := 52) rfl rfl ?_
    refine R_iload_n (q := 53) rfl rfl rfl ?_
    refine R_ineg (q := 54) rfl rfl ?_
    refine R_ireturn rfl rfl ?_
    exact ⟨rfl, rfl⟩
  | 7, _ =>
    refine R_iload_n (q := 1) rfl rfl rfl ?_
    refine R_tsw (t := 50) rfl rfl ?_
    refine R_iload_n (q := 51) rfl rfl rfl ?_
    refine R_ireturn rfl rfl ?_
    exact ⟨rfl, rfl⟩
def tA (s t : Nat) : Nat := ((s ^^^ t) &&& 4) ||| ((if t < 4 then t + s else t + 8 - s) &&& 3)
theorem tA_ok : ∀ s, s < 8 → ∀ t, t < 8 → ((nI s ^^^ nI t) &&& nI 4) ||| ((if nI 4 ≤ nI t then nI t - nI s else nI t + nI s) &&& nI 3) = nI (tA s t) ∧ tA s t < 8 := by decide +kernel
set_option maxRecDepth 8000 in
theorem c66 {s t : Nat} (hs : s < 8) (ht : t < 8) : mm_R S d 66 0 (mm_en 66 [.int (nI s), .int (nI t)]) [] M (fun v M' => v = some (.int (nI (tA s t))) ∧ M' = M) := by
  have hk := (tA_ok s hs t ht).1
  show mm_R S d 66 0 [some (.int (nI s)), some (.int (nI t)), none, none] [] M _
  refine R_iload_n (q := 1) rfl rfl rfl ?_
  refine R_iconst (q := 2) (v := nI 4) rfl rfl (by decide) ?_
  refine R_icmp_ge (q := 5) (t := 11) rfl rfl rfl (fun h2 => ?_) (fun h2 => ?_)
  · refine R_iload_n (q := 12) rfl rfl rfl ?_
    refine R_iload_n (q := 13) rfl rfl rfl ?_
    refine R_isub (q := 14) rfl rfl ?_
    refine R_istore_n (q := 15) rfl rfl (Nat.le_of_ble_eq_true rfl) rfl ?_
    dsimp only [List.set]
    refine R_iload_n (q := 16) rfl rfl rfl ?_
    refine R_iload_n (q := 17) rfl rfl rfl ?_
    refine R_ixor (q := 18) rfl rfl ?_
    refine R_iconst (q := 19) (v := nI 4) rfl rfl (by decide) ?_
    refine R_iand (q := 20) rfl rfl ?_
    refine R_istore_n (q := 21) rfl rfl (Nat.le_of_ble_eq_true rfl) rfl ?_
    dsimp only [List.set]
    refine R_iload_n (q := 22) rfl rfl rfl ?_
    refine R_iload_n (q := 23) rfl rfl rfl ?_
    refine R_iconst (q := 24) (v := nI 3) rfl rfl (by decide) ?_
    refine R_iand (q := 25) rfl rfl ?_
    refine R_ior (q := 26) rfl rfl ?_
    refine R_ireturn rfl rfl ?_
    refine ⟨congrArg some (congrArg Value.int ?_), rfl⟩
    rw [← hk]
    first | rw [if_pos h2] | rw [if_neg h2]
  · refine R_iload_n (q := 6) rfl rfl rfl ?_
    refine R_iload_n (q := 7) rfl rfl rfl ?_
    refine R_iadd (q := 8) rfl rfl ?_
    refine R_goto (t := 14) rfl rfl ?_
    refine R_istore_n (q := 15) rfl rfl (Nat.le_of_ble_eq_true rfl) rfl ?_
    dsimp only [List.set]
    refine R_iload_n (q := 16) rfl rfl rfl ?_
    refine R_iload_n (q := 17) rfl rfl rfl ?_
    refine R_ixor (q := 18) rfl rfl ?_
    refine R_iconst (q := 19) (v := nI 4) rfl rfl (by decide) ?_
    refine R_iand (q := 20) rfl rfl ?_
    refine R_istore_n (q := 21) rfl rfl (Nat.le_of_ble_eq_true rfl) rfl ?_
    dsimp only [List.set]
    refine R_iload_n (q := 22) rfl rfl rfl ?_
    refine R_iload_n (q := 23) rfl rfl rfl ?_
    refine R_iconst (q := 24) (v := nI 3) rfl rfl (by decide) ?_
    refine R_iand (q := 25) rfl rfl ?_
    refine R_ior (q := 26) rfl rfl ?_
    refine R_ireturn rfl rfl ?_
    refine ⟨congrArg some (congrArg Value.int ?_), rfl⟩
    rw [← hk]
    first | rw [if_pos h2] | rw [if_neg h2]
end P21
