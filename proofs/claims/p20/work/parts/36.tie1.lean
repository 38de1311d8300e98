section TIE1
variable {A : Nat → Nat → Int32}
/-- order k stands ahead of order f on side s -/
abbrev bef (A : Nat → Nat → Int32) (s : Int32) (k f : Nat) : Prop := btm s (A 4 k) (A 4 f) ∨ (A 4 k = A 4 f ∧ A 8 k < A 8 f)
theorem btm_tr {s a b c : Int32} (h1 : btm s a b) (h2 : btm s b c) : btm s a c := by
  rcases h1 with ⟨s1, h1⟩ | ⟨s1, h1⟩
  · rcases h2 with ⟨s2, h2⟩ | ⟨s2, h2⟩
    · rw [i_le] at h1 h2
      exact Or.inl ⟨s1, by rw [i_le]; omega⟩
    · exact absurd s1 s2
  · rcases h2 with ⟨s2, h2⟩ | ⟨s2, h2⟩
    · exact absurd s2 s1
    · rw [i_le] at h1 h2
      exact Or.inr ⟨s1, by rw [i_le]; omega⟩
theorem btm_ir {s a : Int32} : ¬ btm s a a := by
  rintro (⟨-, h⟩ | ⟨-, h⟩)
  · rw [i_le] at h; omega
  · rw [i_le] at h; omega
theorem bef_tr {s : Int32} {a b c : Nat} (h1 : bef A s a b) (h2 : bef A s b c) : bef A s a c := by
  rcases h1 with h1 | ⟨h1, h1'⟩
  · rcases h2 with h2 | ⟨h2, h2'⟩
    · exact Or.inl (btm_tr h1 h2)
    · exact Or.inl (h2 ▸ h1)
  · rcases h2 with h2 | ⟨h2, h2'⟩
    · exact Or.inl (by rw [h1]; exact h2)
    · refine Or.inr ⟨h1.trans h2, ?_⟩
      rw [i_lt] at h1' h2' ⊢
      omega
theorem bef_ir {s : Int32} {a : Nat} : ¬ bef A s a a := by
  rintro (h | ⟨-, h⟩)
  · exact btm_ir h
  · rw [i_lt] at h; omega
/-- one step of the search: the new one is taken just where it waits and stands ahead, or nobody was found -/
theorem frS_w {i s o f : Int32} (hw : wts A o.toNatClampNeg i s) : frS A i s o f = if f < 0 ∨ bef A s o.toNatClampNeg f.toNatClampNeg then o else f := by
  unfold frS
  rw [if_neg (b01_nz.mpr hw)]
  by_cases h0 : f < 0
  · rw [if_pos h0, if_pos (Or.inl h0)]
  · rw [if_neg h0]
    by_cases h1 : btm s (A 4 o.toNatClampNeg) (A 4 f.toNatClampNeg)
    · rw [if_neg (b01_nz.mpr h1), if_pos (Or.inr (Or.inl h1))]
    · rw [if_pos (b01_z.mpr h1)]
      by_cases h2 : A 4 o.toNatClampNeg = A 4 f.toNatClampNeg
      · rw [if_pos h2]
        by_cases h3 : A 8 f.toNatClampNeg ≤ A 8 o.toNatClampNeg
        · rw [if_pos h3, if_neg]
          rintro (q | q | ⟨-, q⟩)
          · exact h0 q
          · exact h1 q
          · rw [i_le] at h3; rw [i_lt] at q; omega
        · rw [if_neg h3, if_pos]
          refine Or.inr (Or.inr ⟨h2, ?_⟩)
          rw [i_le] at h3; rw [i_lt]; omega
      · rw [if_neg h2, if_neg]
        rintro (q | q | ⟨q, -⟩)
        · exact h0 q
        · exact h1 q
        · exact h2 q
theorem frS_n {i s o f : Int32} (hw : ¬ wts A o.toNatClampNeg i s) : frS A i s o f = f := by
  unfold frS
  rw [if_pos (b01_z.mpr hw)]
/-- what the search finds: nobody waits, or one that waits and nobody stands ahead of -/
def frP (A : Nat → Nat → Int32) (i s f : Int32) (c : Nat) : Prop := (f.toInt < 0 ∧ ∀ k < c, ¬ wts A k i s) ∨ (0 ≤ f.toInt ∧ f.toInt < c ∧ wts A f.toNatClampNeg i s ∧ ∀ k < c, wts A k i s → ¬ bef A s k f.toNatClampNeg)
theorem frF_P (i s : Int32) : ∀ (n : Nat) (o f : Int32), 0 ≤ o.toInt → o.toInt + n ≤ 120 → frP A i s f o.toNatClampNeg → frP A i s (frF A i s n o f) (o.toNatClampNeg + n)
  | 0, _, _, _, _, h => h
  | n + 1, o, f, h0, h1, h => by
    have e := i_inc (p := o) (by omega) (by omega)
    have hoN : (o.toNatClampNeg : Int) = o.toInt := by rw [i_nat]; omega
    have eN : (o + Int32.ofInt 1).toNatClampNeg = o.toNatClampNeg + 1 := by rw [i_nat, e, i_nat]; omega
    have z0 : (0 : Int32).toInt = 0 := by decide
    unfold frF
    have key : frP A i s (frS A i s o f) (o.toNatClampNeg + 1) := by
      by_cases hw : wts A o.toNatClampNeg i s
      · rw [frS_w hw]
        by_cases hc : f < 0 ∨ bef A s o.toNatClampNeg f.toNatClampNeg
        · rw [if_pos hc]
          refine Or.inr ⟨h0, by omega, hw, fun k hk hkw hb => ?_⟩
          by_cases hko : k = o.toNatClampNeg
          · subst hko; exact bef_ir hb
          · rcases h with ⟨-, h⟩ | ⟨hf0, -, -, h⟩
            · exact h k (by omega) hkw
            · rcases hc with hc | hc
              · rw [i_lt, z0] at hc; omega
              · exact h k (by omega) hkw (bef_tr hb hc)
        · rw [if_neg hc]
          have hf0 : ¬ f.toInt < 0 := fun q => hc (Or.inl (by rw [i_lt, z0]; exact q))
          rcases h with ⟨h, -⟩ | ⟨hf, hf1, hfw, h⟩
          · exact absurd h hf0
          · refine Or.inr ⟨hf, by omega, hfw, fun k hk hkw hb => ?_⟩
            by_cases hko : k = o.toNatClampNeg
            · subst hko; exact hc (Or.inr hb)
            · exact h k (by omega) hkw hb
      · rw [frS_n hw]
        rcases h with ⟨h, hn⟩ | ⟨hf, hf1, hfw, h⟩
        · refine Or.inl ⟨h, fun k hk => ?_⟩
          by_cases hko : k = o.toNatClampNeg
          · subst hko; exact hw
          · exact hn k (by omega)
        · refine Or.inr ⟨hf, by omega, hfw, fun k hk hkw => ?_⟩
          by_cases hko : k = o.toNatClampNeg
          · subst hko; exact absurd hkw hw
          · exact h k (by omega) hkw
    have := frF_P i s n (o + Int32.ofInt 1) _ (by rw [e]; omega) (by rw [e]; omega) (by rw [eN]; exact key)
    rw [eN] at this
    have e3 : o.toNatClampNeg + 1 + n = o.toNatClampNeg + (n + 1) := by omega
    rw [e3] at this
    exact this
theorem fr_P (hc : MC A) (i s : Int32) : frP A i s (fr A i s) (A 13 0).toNatClampNeg := by
  have e : ((A 13 0).toNatClampNeg : Int) = (A 13 0).toInt := by rw [i_nat]; have := hc.1; omega
  have := hc.2
  have zN : (0 : Int32).toNatClampNeg = 0 := by decide
  have z0 : (0 : Int32).toInt = 0 := by decide
  have h := frF_P (A := A) i s (A 13 0).toNatClampNeg 0 (-1) (by decide) (by omega) (Or.inl ⟨by decide, fun k hk => by rw [zN] at hk; omega⟩)
  rw [zN, Nat.zero_add] at h
  exact h
/-- the chain c holds just the orders that wait, those ahead first -/
def Srt (A : Nat → Nat → Int32) (s : Int32) : List Nat → Prop
  | [] => True
  | o :: c => (∀ k ∈ c, bef A s o k) ∧ Srt A s c
/-- who stands in front is the chain's head -/
theorem fr_head (hc : MC A) {i s : Int32} {c : List Nat} (hm : ∀ k, k ∈ c ↔ k < (A 13 0).toNatClampNeg ∧ wts A k i s) (hs : Srt A s c) : (c = [] ∧ (fr A i s).toInt < 0) ∨ ∃ o c', c = o :: c' ∧ 0 ≤ (fr A i s).toInt ∧ (fr A i s).toNatClampNeg = o := by
  rcases fr_P hc i s with ⟨h, hn⟩ | ⟨h0, h1, hw, h⟩
  · left
    refine ⟨?_, h⟩
    cases c with
    | nil => rfl
    | cons o c => exact absurd ((hm o).mp List.mem_cons_self).2 (hn o ((hm o).mp List.mem_cons_self).1)
  · right
    have hlt : (fr A i s).toNatClampNeg < (A 13 0).toNatClampNeg := by rw [i_nat]; omega
    have hin := (hm _).mpr ⟨hlt, hw⟩
    cases c with
    | nil => cases hin
    | cons o c =>
      refine ⟨o, c, rfl, h0, ?_⟩
      rcases List.mem_cons.mp hin with q | q
      · exact q
      · have ho := (hm o).mp List.mem_cons_self
        exact absurd (hs.1 _ q) (h o ho.1 ho.2)
end TIE1
