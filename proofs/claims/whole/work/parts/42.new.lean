/-! ===== a new desk ===== -/
section P42
variable {S : mm_S} {d : Nat} {M : mm_M}
theorem va_6 {b : Nat} (p : Nat) : ∀ s, s < 6 → (va_up (va_up (va_up (va_up (va_up (va_up (fun _ => none) 0 (some b)) 1 (some (b + p))) 2 (some (b + p * 2))) 3 (some (b + p * 3))) 4 (some (b + p * 4))) 5 (some (b + p * 5)) : Nat → Option Nat) s = some (b + p * s) := by
  intro s hs
  match s, hs with
  | 0, _ => rfl
  | 1, _ => show some (b + p) = some (b + p * 1); rw [Nat.mul_one]
  | 2, _ => rfl
  | 3, _ => rfl
  | 4, _ => rfl
  | 5, _ => rfl
theorem i_desk {w : Nat} (ha : M.1 1 = some (.inr (11, mm_df 11))) (hm : M.2 = (2, w)) : mm_R S (d + 3) 118 0 (mm_en 118 [.ref 1]) [] M (fun v M' => v = none ∧ M'.2 = (73, w + 2629) ∧ (∀ k, k < 1 → M'.1 k = M.1 k) ∧ CI M' (fun _ _ => 0) (0, fun _ => 0, fun _ => 0) (fun _ => 0, fun _ => 0, fun _ _ => 0, fun _ _ => 0, fun _ => 0) (0, fun _ => 0) (0, fun _ => 0) (0, fun _ => 0)) := by
  refine R_mono (i118 ha hm (by decide)) (fun v M' hr => ?_)
  obtain ⟨rfl, hm', hf, c0, c1, c2, c3, c4, c5, c6, c7, c8, c9, c10, c11, c12, c13, c14, c15, c16, c17, c18, c19, c20, c21, c22, c23, c24, c25, c26, c27, c28, c29, c30, c31, c32, c33, c34, c35, c36, c37, c38, c39, c40, c41, c42, c43, c44, c45, c46, c47, c48, c49, c50, c51, c52, c53, c54, c55, c56, c57, c58, c59, c60, c61, c62, c63, c64, c65, c66, c67, c68, c69, c70, c71⟩ := hr
  refine ⟨rfl, hm', fun k hk => hf k (by omega) (by omega), ⟨c0, _, c1, ?_⟩, ⟨_, c2, c3⟩, ⟨⟨c4, c5, c6, Nat.zero_le _⟩, fun i hi => absurd hi (Nat.not_lt_zero _), fun i hi => absurd hi (Nat.not_lt_zero _)⟩, ⟨⟨c7, _, c8, ?_⟩, ?_, ?_, ⟨_, c9⟩, ⟨_, c10, fun _ _ _ => rfl⟩, ?_⟩, ⟨⟨c29, c30, c32⟩, ⟨_, c31⟩, _, c33⟩, ⟨fun _ => 0, fun _ => 0, fun _ => 0, fun _ => 0, fun _ => 0, fun _ => 0, 0, 0, 0, 0, ⟨c34, c35, c36, c37, c38, c39, c40⟩, fun j _ => Or.inr ⟨0, by decide, rfl⟩⟩, ⟨c41, ⟨_, _, _, _, c42, c43, c44, c45⟩, c46, _, c47⟩, ⟨c48, c49, Nat.zero_le _⟩, ⟨c50, c51, Nat.zero_le _⟩, ⟨⟨c52, c53, Nat.zero_le _⟩, fun i hi => absurd hi (Nat.not_lt_zero _)⟩, ⟨((0, fun _ => 0), false), (0, fun _ => 0, fun _ => 0), Nat.zero_le _, c54, c55, c56, c57, c58⟩, ⟨(0, 0, 0, 0, 0, 0, 0, 0, 0, 0), c59⟩, ?_⟩
  · exact va_6 (b := 61) 2
  · exact va_6 (b := 12) 3
  · intro c hc
    match c, hc with
    | 0, _ => exact ⟨c11, c12, c13, Nat.zero_le _, Nat.zero_le _⟩
    | 1, _ => exact ⟨c14, c15, c16, Nat.zero_le _, Nat.zero_le _⟩
    | 2, _ => exact ⟨c17, c18, c19, Nat.zero_le _, Nat.zero_le _⟩
    | 3, _ => exact ⟨c20, c21, c22, Nat.zero_le _, Nat.zero_le _⟩
    | 4, _ => exact ⟨c23, c24, c25, Nat.zero_le _, Nat.zero_le _⟩
    | 5, _ => exact ⟨c26, c27, c28, Nat.zero_le _, Nat.zero_le _⟩
  · exact fun c _ => ⟨fun k hk => absurd hk (Nat.not_lt_zero _), fun k hk => absurd hk (Nat.not_lt_zero _)⟩
  · exact ⟨⟨rfl, by decide⟩, ⟨⟨by decide, by decide⟩, by decide, by decide⟩, ⟨by decide, by decide⟩, by decide, by decide⟩
  · intro s hs
    match s, hs with
    | 0, _ => exact ⟨⟨c60, c61⟩, fun _ _ => hb_0⟩
    | 1, _ => exact ⟨⟨c62, c63⟩, fun _ _ => hb_0⟩
    | 2, _ => exact ⟨⟨c64, c65⟩, fun _ _ => hb_0⟩
    | 3, _ => exact ⟨⟨c66, c67⟩, fun _ _ => hb_0⟩
    | 4, _ => exact ⟨⟨c68, c69⟩, fun _ _ => hb_0⟩
    | 5, _ => exact ⟨⟨c70, c71⟩, fun _ _ => hb_0⟩
end P42
