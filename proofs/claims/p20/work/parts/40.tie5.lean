section TIE5
variable {N : Nat} {I : Nat → Nat → Int32} {J : Nat → Nat → Int64} {V : Nat → Nat → Int32} {ls : Nat → List Nat} {A : Nat → Nat → Int32} {B : Nat → Nat → Int64} {t : Int} {E : Nat → Prop}
theorem mo {m : Int32} : isM m = 0 ↔ ¬ out m 0 4 = 0 := by
  have e5 : (5 : Int32).toInt = 5 := by decide
  have e4 : (4 : Int32).toInt = 4 := by decide
  have e0 : (0 : Int32).toInt = 0 := by decide
  rw [b01_z, b01_z, i_lt, i_le, i_le, e0, e4, e5]
  omega
theorem not_not_out {p : Prop} [Decidable p] (h : ¬ ¬ p) : p := Decidable.byContradiction h
/-- an order's number: found in the class just where the reference has it -/
theorem fo (h : Tie E N I J V ls A B) (hV : CV N I ls t) (hM : MV A t) (x : Int32) : fnd I x = none ↔ ¬ out x 0 (A 13 0 - 1) = 0 := by
  have e0 : (0 : Int32).toInt = 0 := by decide
  have hN := h.1.1
  have h12 := hV.2.1
  have hm := i_m1 hM.1.1.1
  rw [b01_z, i_lt, i_le, hm, e0]
  unfold fnd
  by_cases c0 : x < 0
  · rw [if_pos c0]
    rw [i_lt, e0] at c0
    exact ⟨fun _ z => z (Or.inl c0), fun _ => rfl⟩
  · rw [if_neg c0]
    by_cases c1 : I 12 0 ≤ x
    · rw [if_pos c1]
      rw [i_le] at c1
      exact ⟨fun _ z => z (Or.inr (by omega)), fun _ => rfl⟩
    · rw [if_neg c1]
      rw [i_le] at c1
      rw [i_lt, e0] at c0
      constructor
      · intro z
        cases z
      · intro z
        exfalso
        apply z
        rintro (w | w)
        · exact c0 w
        · exact w (by omega)
theorem le_eq (h : Tie E N I J V ls A B) (hV : CV N I ls t) (hM : MV A t) (h3 : ∀ k, k < N → ¬ A 7 k = 3) (x : Int32) : lfA I 6 x = leM A x ∧ lfA I 8 x = stM A x := by
  unfold lfA leM stM
  by_cases c : fnd I x = none
  · have := (fo h hV hM x).mp c
    rw [if_pos c, if_pos c, if_neg this, if_neg this]
    exact ⟨rfl, rfl⟩
  · have c' : out x 0 (A 13 0 - 1) = 0 := not_not_out (fun z => c ((fo h hV hM x).mpr z))
    have hx := vOc hM.1.1 c'
    have hlt : x.toNatClampNeg < N := by rw [i_nat]; have := h.1.1; omega
    have hk := (h.1.2 x.toNatClampNeg hlt).1
    rw [if_neg c, if_neg c, if_pos c', if_pos c', hk.2.2.2.2.2.1, hk.2.2.2.2.2.2, if_neg (h3 _ hlt)]
    exact ⟨rfl, rfl⟩
theorem po_eq (h : Tie E N I J V ls A B) (m i : Int32) : poA V m i = poM A m i := by
  unfold poA poM
  by_cases c0 : isM m = 0
  · rw [if_pos c0, if_neg (mo.mp c0)]
  · rw [if_neg c0, if_pos (not_not_out (fun z => c0 (mo.mpr z)))]
    by_cases c1 : isN i = 0
    · rw [if_pos c1, if_neg (io.mp c1)]
    · have hm := vM c0
      have hi := vN c1
      rw [if_neg c1, if_pos (not_not_out (fun z => c1 (io.mpr z))), (h.2.2.1 _ (vp_lt hm)).2.2 _ (vp_lt hi)]
      congr 1
      rw [i_nat, i_nat, i_nat, (held_in hm hi).1]
      have := vp_to hm
      have := vp_to hi
      omega
theorem mo_eq (h : Tie E N I J V ls A B) (m : Int32) : moA J 0 m = moM B 0 m ∧ moA J 1 m = moM B 1 m := by
  unfold moA moM
  by_cases c0 : isM m = 0
  · rw [if_pos c0, if_pos c0, if_neg (mo.mp c0), if_neg (mo.mp c0)]
    exact ⟨rfl, rfl⟩
  · have c0' := not_not_out (fun z => c0 (mo.mpr z))
    have hm := vM c0
    have hJ := h.2.2.1 _ (vp_lt hm)
    rw [if_neg c0, if_neg c0, if_pos c0', if_pos c0', hJ.1, hJ.2.1]
    exact ⟨rfl, rfl⟩
theorem ri_eq (h : Tie E N I J V ls A B) (hV : CV N I ls t) (hM : MV A t) (hp1 : ∀ m i, m < 5 → i < 2 → -900000000 ≤ (V m i).toInt ∧ (V m i).toInt ≤ 900000000) (m : Int32) : riA I V ls m = riM A m := by
  unfold riA riM
  by_cases c0 : isM m = 0
  · rw [if_pos c0, if_neg (mo.mp c0)]
  · rw [if_neg c0, if_pos (not_not_out (fun z => c0 (mo.mpr z))), rsk_eq h hV hM hp1 (vM c0) (by decide) (by decide)]
end TIE5
