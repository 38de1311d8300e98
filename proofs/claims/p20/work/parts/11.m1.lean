section M1
variable {l : Launch} {G : xG} {N : Nat} {I : Nat → Nat → Int32} {J : Nat → Nat → Int64} {P : Nat → Nat → Option xQ} {V : Nat → Nat → Int32} {A : Nat → Nat → Int32} {B : Nat → Nat → Int64}
variable {h : xH}
def b01 (p : Prop) [Decidable p] : Int32 := if p then 1 else 0
theorem b01_t {p : Prop} [Decidable p] (h : p) : b01 p = 1 := if_pos h
theorem b01_f {p : Prop} [Decidable p] (h : ¬ p) : b01 p = 0 := if_neg h
theorem b01_z {p : Prop} [Decidable p] : b01 p = 0 ↔ ¬ p := by
  unfold b01
  split
  · constructor
    · intro q; exact absurd q (by decide)
    · intro q; contradiction
  · constructor
    · intro _; assumption
    · intro _; rfl
theorem b01_nz {p : Prop} [Decidable p] : ¬ b01 p = 0 ↔ p := by
  rw [b01_z]; exact Decidable.not_not
theorem b01_n (p : Prop) [Decidable p] : narrow .boolean (.int (b01 p)) = .int (b01 p) := by
  unfold b01
  split <;> rfl
theorem cC_isMember (m : Int32) : x_C l G mC_isMember 0 0 0 [xI m] (h) [] (x_is (some (xI (b01 (¬ m < 0 ∧ ¬ 5 ≤ m)))) h) := by
  refine x_C.at [some (xI m)] rfl (Nat.le_of_ble_eq_true rfl) rfl ?_
  refine x_iload_n 1 dC_isMember_0 rfl rfl ?_
  refine x_if_lt 13 4 dC_isMember_1 (by decide) rfl (fun h1 => ?_) (fun h1 => ?_)
  · skip
    refine x_iconst 0 14 dC_isMember_13 rfl rfl ?_
    exact x_iret dC_isMember_14 rfl rfl ⟨congrArg (fun v => some (xI v)) (b01_f (by simp [h1])).symm, rfl⟩
  · skip
    refine x_iload_n 5 dC_isMember_4 rfl rfl ?_
    refine x_iconst 5 6 dC_isMember_5 rfl rfl ?_
    refine x_icmp_ge 13 9 dC_isMember_6 (by decide) rfl (fun h6 => ?_) (fun h6 => ?_)
    · skip
      refine x_iconst 0 14 dC_isMember_13 rfl rfl ?_
      exact x_iret dC_isMember_14 rfl rfl ⟨congrArg (fun v => some (xI v)) (b01_f (by simp [h1, h6])).symm, rfl⟩
    · skip
      refine x_iconst 1 10 dC_isMember_9 rfl rfl ?_
      refine x_goto 14 dC_isMember_10 (by decide) ?_
      exact x_iret dC_isMember_14 rfl rfl ⟨congrArg (fun v => some (xI v)) (b01_t (by simp [h1, h6])).symm, rfl⟩
theorem cC_isInstrument (m : Int32) : x_C l G mC_isInstrument 0 0 0 [xI m] (h) [] (x_is (some (xI (b01 (¬ m < 0 ∧ ¬ 2 ≤ m)))) h) := by
  refine x_C.at [some (xI m)] rfl (Nat.le_of_ble_eq_true rfl) rfl ?_
  refine x_iload_n 1 dC_isInstrument_0 rfl rfl ?_
  refine x_if_lt 13 4 dC_isInstrument_1 (by decide) rfl (fun h1 => ?_) (fun h1 => ?_)
  · skip
    refine x_iconst 0 14 dC_isInstrument_13 rfl rfl ?_
    exact x_iret dC_isInstrument_14 rfl rfl ⟨congrArg (fun v => some (xI v)) (b01_f (by simp [h1])).symm, rfl⟩
  · skip
    refine x_iload_n 5 dC_isInstrument_4 rfl rfl ?_
    refine x_iconst 2 6 dC_isInstrument_5 rfl rfl ?_
    refine x_icmp_ge 13 9 dC_isInstrument_6 (by decide) rfl (fun h6 => ?_) (fun h6 => ?_)
    · skip
      refine x_iconst 0 14 dC_isInstrument_13 rfl rfl ?_
      exact x_iret dC_isInstrument_14 rfl rfl ⟨congrArg (fun v => some (xI v)) (b01_f (by simp [h1, h6])).symm, rfl⟩
    · skip
      refine x_iconst 1 10 dC_isInstrument_9 rfl rfl ?_
      refine x_goto 14 dC_isInstrument_10 (by decide) ?_
      exact x_iret dC_isInstrument_14 rfl rfl ⟨congrArg (fun v => some (xI v)) (b01_t (by simp [h1, h6])).symm, rfl⟩
theorem cC_isHow (m : Int32) : x_C l G mC_isHow 0 0 0 [xI m] (h) [] (x_is (some (xI (b01 (¬ m < 0 ∧ ¬ 12 ≤ m)))) h) := by
  refine x_C.at [some (xI m)] rfl (Nat.le_of_ble_eq_true rfl) rfl ?_
  refine x_iload_n 1 dC_isHow_0 rfl rfl ?_
  refine x_if_lt 14 4 dC_isHow_1 (by decide) rfl (fun h1 => ?_) (fun h1 => ?_)
  · skip
    refine x_iconst 0 15 dC_isHow_14 rfl rfl ?_
    exact x_iret dC_isHow_15 rfl rfl ⟨congrArg (fun v => some (xI v)) (b01_f (by simp [h1])).symm, rfl⟩
  · skip
    refine x_iload_n 5 dC_isHow_4 rfl rfl ?_
    refine x_bipush (12) 7 dC_isHow_5 rfl rfl ?_
    refine x_icmp_ge 14 10 dC_isHow_7 (by decide) rfl (fun h7 => ?_) (fun h7 => ?_)
    · skip
      refine x_iconst 0 15 dC_isHow_14 rfl rfl ?_
      exact x_iret dC_isHow_15 rfl rfl ⟨congrArg (fun v => some (xI v)) (b01_f (by simp [h1, h7])).symm, rfl⟩
    · skip
      refine x_iconst 1 11 dC_isHow_10 rfl rfl ?_
      refine x_goto 15 dC_isHow_11 (by decide) ?_
      exact x_iret dC_isHow_15 rfl rfl ⟨congrArg (fun v => some (xI v)) (b01_t (by simp [h1, h7])).symm, rfl⟩
theorem cC_isSide (m : Int32) : x_C l G mC_isSide 0 0 0 [xI m] (h) [] (x_is (some (xI (b01 (m = 0 ∨ m = 1)))) h) := by
  refine x_C.at [some (xI m)] rfl (Nat.le_of_ble_eq_true rfl) rfl ?_
  refine x_iload_n 1 dC_isSide_0 rfl rfl ?_
  refine x_if_eq 9 4 dC_isSide_1 (by decide) rfl (fun h1 => ?_) (fun h1 => ?_)
  · skip
    refine x_iconst 1 10 dC_isSide_9 rfl rfl ?_
    refine x_goto 14 dC_isSide_10 (by decide) ?_
    exact x_iret dC_isSide_14 rfl rfl ⟨congrArg (fun v => some (xI v)) (b01_t (by simp [h1])).symm, rfl⟩
  · skip
    refine x_iload_n 5 dC_isSide_4 rfl rfl ?_
    refine x_iconst 1 6 dC_isSide_5 rfl rfl ?_
    refine x_icmp_ne 13 9 dC_isSide_6 (by decide) rfl (fun h6 => ?_) (fun h6 => ?_)
    · skip
      refine x_iconst 0 14 dC_isSide_13 rfl rfl ?_
      exact x_iret dC_isSide_14 rfl rfl ⟨congrArg (fun v => some (xI v)) (b01_f (by simp [h1, h6])).symm, rfl⟩
    · skip
      refine x_iconst 1 10 dC_isSide_9 rfl rfl ?_
      refine x_goto 14 dC_isSide_10 (by decide) ?_
      exact x_iret dC_isSide_14 rfl rfl ⟨congrArg (fun v => some (xI v)) (b01_t (by simp [h1, h6])).symm, rfl⟩
theorem cC_isPrice (m : Int32) : x_C l G mC_isPrice 0 0 0 [xI m] (h) [] (x_is (some (xI (b01 (¬ m < 1 ∧ ¬ 63 < m)))) h) := by
  refine x_C.at [some (xI m)] rfl (Nat.le_of_ble_eq_true rfl) rfl ?_
  refine x_iload_n 1 dC_isPrice_0 rfl rfl ?_
  refine x_iconst 1 2 dC_isPrice_1 rfl rfl ?_
  refine x_icmp_lt 15 5 dC_isPrice_2 (by decide) rfl (fun h2 => ?_) (fun h2 => ?_)
  · skip
    refine x_iconst 0 16 dC_isPrice_15 rfl rfl ?_
    exact x_iret dC_isPrice_16 rfl rfl ⟨congrArg (fun v => some (xI v)) (b01_f (by simp [h2])).symm, rfl⟩
  · skip
    refine x_iload_n 6 dC_isPrice_5 rfl rfl ?_
    refine x_bipush (63) 8 dC_isPrice_6 rfl rfl ?_
    refine x_icmp_gt 15 11 dC_isPrice_8 (by decide) rfl (fun h8 => ?_) (fun h8 => ?_)
    · skip
      refine x_iconst 0 16 dC_isPrice_15 rfl rfl ?_
      exact x_iret dC_isPrice_16 rfl rfl ⟨congrArg (fun v => some (xI v)) (b01_f (by simp [h2, h8])).symm, rfl⟩
    · skip
      refine x_iconst 1 12 dC_isPrice_11 rfl rfl ?_
      refine x_goto 16 dC_isPrice_12 (by decide) ?_
      exact x_iret dC_isPrice_16 rfl rfl ⟨congrArg (fun v => some (xI v)) (b01_t (by simp [h2, h8])).symm, rfl⟩
theorem cR_outside (v a b : Int32) : x_C l G mR_outside 0 0 0 [xI v, xI a, xI b] (h) [] (x_is (some (xI (b01 (v < a ∨ ¬ v ≤ b)))) h) := by
  refine x_C.at [some (xI v), some (xI a), some (xI b)] rfl (Nat.le_of_ble_eq_true rfl) rfl ?_
  refine x_iload_n 1 dR_outside_0 rfl rfl ?_
  refine x_iload_n 2 dR_outside_1 rfl rfl ?_
  refine x_icmp_lt 10 5 dR_outside_2 (by decide) rfl (fun h2 => ?_) (fun h2 => ?_)
  · skip
    refine x_iconst 1 11 dR_outside_10 rfl rfl ?_
    refine x_goto 15 dR_outside_11 (by decide) ?_
    exact x_iret dR_outside_15 rfl rfl ⟨congrArg (fun v => some (xI v)) (b01_t (by simp [h2])).symm, rfl⟩
  · skip
    refine x_iload_n 6 dR_outside_5 rfl rfl ?_
    refine x_iload_n 7 dR_outside_6 rfl rfl ?_
    refine x_icmp_le 14 10 dR_outside_7 (by decide) rfl (fun h7 => ?_) (fun h7 => ?_)
    · skip
      refine x_iconst 0 15 dR_outside_14 rfl rfl ?_
      exact x_iret dR_outside_15 rfl rfl ⟨congrArg (fun v => some (xI v)) (b01_f (by simp [h2, h7])).symm, rfl⟩
    · skip
      refine x_iconst 1 11 dR_outside_10 rfl rfl ?_
      refine x_goto 15 dR_outside_11 (by decide) ?_
      exact x_iret dR_outside_15 rfl rfl ⟨congrArg (fun v => some (xI v)) (b01_t (by simp [h2, h7])).symm, rfl⟩
end M1
