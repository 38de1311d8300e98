section M8d
variable {l : Launch} {G : xG} {N : Nat} {I : Nat → Nat → Int32} {J : Nat → Nat → Int64} {P : Nat → Nat → Option xQ} {V : Nat → Nat → Int32} {A : Nat → Nat → Int32} {B : Nat → Nat → Int64}
variable {h : xH} {ls : Nat → List Nat}
theorem chs_rng (v g rf : Int32) : ∀ (n : Nat) (p le gr ne amb ams : Int32), p.toInt + n = 64 → 1 ≤ p.toInt → (0 ≤ le.toInt ∧ le.toInt ≤ 63) → (0 ≤ gr.toInt ∧ gr.toInt ≤ 63) → (0 ≤ ne.toInt ∧ ne.toInt ≤ 63) → 0 ≤ (chs I v g rf n p le gr ne amb ams).toInt ∧ (chs I v g rf n p le gr ne amb ams).toInt ≤ 63 := by
  intro n
  induction n with
  | zero =>
    intro p le gr ne amb ams _ _ h1 h2 h3
    unfold chs
    split
    · split
      · exact h3
      · exact h1
    · exact h2
  | succ n ih =>
    intro p le gr ne amb ams hp1 hp2 h1 h2 h3
    have e := i_inc (p := p) (by omega) (by omega)
    unfold chs
    split
    · split
      · refine ih _ _ _ _ _ _ (by rw [e]; omega) (by rw [e]; omega) ?_ (by omega) ?_
        · split
          · omega
          · exact h1
        · split
          · omega
          · split
            · exact h3
            · omega
      · exact ih _ _ _ _ _ _ (by rw [e]; omega) (by rw [e]; omega) h1 h2 h3
    · exact ih _ _ _ _ _ _ (by rw [e]; omega) (by rw [e]; omega) h1 h2 h3
theorem fcp_rng (rf : Int32) : ∀ (n : Nat) (p mv lg : Int32), 0 ≤ (fcp I rf n p mv lg).toInt ∧ (fcp I rf n p mv lg).toInt ≤ 63 := by
  intro n
  induction n with
  | zero =>
    intro p mv lg
    unfold fcp
    split
    · decide
    · exact chs_rng _ _ _ 63 1 0 0 0 1 1 (by decide) (by decide) (by decide) (by decide) (by decide)
  | succ n ih =>
    intro p mv lg
    unfold fcp
    split
    · exact ih _ _ _
    · split
      · split
        · exact ih _ _ _
        · exact ih _ _ _
      · exact ih _ _ _
theorem cprice_in (i : Nat) : vp_in (cprice I ls i) 65 := by
  have := fcp_rng (I := wgh I (ls (2 * i)) (ls (2 * i + 1))) (wgh I (ls (2 * i)) (ls (2 * i + 1)) 11 i) 63 1 0 0
  rw [← cprice_eq] at this
  exact vp_of this.1 (by omega)
noncomputable def inS (I : Nat → Nat → Int32) (J : Nat → Nat → Int64) (V : Nat → Nat → Int32) (ls : Nat → List Nat) (i p : Int32) : Int32 × cS := if isN i = 0 then (-1, (I, J, V, ls)) else if cprice I ls i.toNatClampNeg = 0 then (-6, (wgL I ls i.toNatClampNeg, J, V, ls)) else if p = 0 then (cprice I ls i.toNatClampNeg, (wgL I ls i.toNatClampNeg, J, V, ls)) else if p = 1 then (vol (wgL I ls i.toNatClampNeg) (cprice I ls i.toNatClampNeg), (wgL I ls i.toNatClampNeg, J, V, ls)) else if p = 2 then (sur (wgL I ls i.toNatClampNeg) (cprice I ls i.toNatClampNeg), (wgL I ls i.toNatClampNeg, J, V, ls)) else (-1, (wgL I ls i.toNatClampNeg, J, V, ls))

end M8d
