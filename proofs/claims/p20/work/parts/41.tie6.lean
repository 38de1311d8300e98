section TIE6
variable {N : Nat} {I : Nat → Nat → Int32} {J : Nat → Nat → Int64} {V : Nat → Nat → Int32} {ls : Nat → List Nat} {A : Nat → Nat → Int32} {B : Nat → Nat → Int64} {t : Int} {E : Nat → Prop}
theorem so {s : Int32} : isD s = 0 ↔ ¬ out s 0 1 = 0 := by
  have e1 : (1 : Int32).toInt = 1 := by decide
  have e0 : (0 : Int32).toInt = 0 := by decide
  rw [b01_z, b01_z, i_lt, i_le, ← Int32.toInt_inj, ← Int32.toInt_inj, e0, e1]
  omega
/-- the front of a side, in class and reference -/
theorem Tie.front (h : Tie E N I J V ls A B) (hV : CV N I ls t) (hM : MV A t) {i s : Int32} (hi : vp_in i 2) (hs : s = 0 ∨ s = 1) : (ls (sdx i.toNatClampNeg s) = [] ∧ (fr A i s).toInt < 0) ∨ ∃ o c', ls (sdx i.toNatClampNeg s) = o :: c' ∧ 0 ≤ (fr A i s).toInt ∧ (fr A i s).toNatClampNeg = o := by
  have hcN : (A 13 0).toNatClampNeg = N := by rw [i_nat, h.1.1]; omega
  refine fr_head hM.1.1 (fun k => ?_) ?_
  · rw [h.mem hV hi hs k, pw_t, hcN]
  · have hsr := h.2.1.2.1 _ (vp_lt hi)
    rcases hs with hs | hs
    · subst hs
      rw [show sdx i.toNatClampNeg 0 = 2 * i.toNatClampNeg from if_pos rfl]
      exact hsr.1
    · subst hs
      rw [show sdx i.toNatClampNeg 1 = 2 * i.toNatClampNeg + 1 from if_neg (by decide)]
      exact hsr.2
theorem be_eq (h : Tie E N I J V ls A B) (hV : CV N I ls t) (hM : MV A t) (i s : Int32) : bsA I ls i s = beM A i s := by
  have e0 : (0 : Int32).toInt = 0 := by decide
  unfold bsA beM
  by_cases c0 : isN i = 0
  · rw [if_pos c0, if_neg (io.mp c0)]
  · rw [if_neg c0, if_pos (not_not_out (fun z => c0 (io.mpr z)))]
    by_cases c1 : isD s = 0
    · rw [if_pos c1, if_neg (so.mp c1)]
    · rw [if_neg c1, if_pos (not_not_out (fun z => c1 (so.mpr z)))]
      rcases h.front hV hM (vN c0) (b01_nz.mp c1) with ⟨hl, hf⟩ | ⟨o, c, hl, hf, ho⟩
      · rw [hl, if_neg (by rw [i_le, e0]; omega)]
      · rw [hl, if_pos (by rw [i_le, e0]; exact hf), ho]
        have hm := (h.mem hV (vN c0) (b01_nz.mp c1) o).mp (by rw [hl]; exact List.mem_cons_self)
        exact ((h.1.2 o hm.1).2 (pw_t.mp hm.2).1).1
end TIE6
