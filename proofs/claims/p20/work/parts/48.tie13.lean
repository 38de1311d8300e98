section TIE13
variable {N : Nat} {I : Nat → Nat → Int32} {J : Nat → Nat → Int64} {P : Nat → Nat → Option xQ} {V : Nat → Nat → Int32} {ls : Nat → List Nat} {A : Nat → Nat → Int32} {B : Nat → Nat → Int64} {t : Int} {E : Nat → Prop}
/-- orders that are refused for what waits over there -/
theorem rf_eq (h : Tie nE N I J V ls A B) (hV : CV N I ls t) (hM : MV A t) {m i how b q : Int32} (hi : vp_in i 2) (hh : ¬ how < 0 ∧ ¬ 12 ≤ how) : rfsP I ls N m i how b q = uf A m i (how / 2) (how - how / 2 * 2) b q := by
  have hN := h.1.1
  have hcN : (A 13 0).toNatClampNeg = N := by rw [i_nat]; omega
  have hc := hM.1.1
  have z0 : (0 : Int32).toInt = 0 := by decide
  have zN : (0 : Int32).toNatClampNeg = 0 := by decide
  have hs := how_side hh.1 hh.2
  have at1 := nw_at (I := I) (N := N) m i how b q
  have hfs := fdx_sdx (i := i.toNatClampNeg) hs
  have hmem := h.mem hV hi hfs.2
  have hlen := h.len hV hi hfs.2
  have hj4 := fdx_lt (vp_lt hi) (how - how / 2 * 2)
  have hnd := h.2.1.2.2 _ hj4
  have hsr := h.2.1.srt hj4
  have hpar := sdx_par hfs.2 hfs.1.symm
  rw [← hpar] at hsr
  unfold rfsP
  rw [at1.2.2.1]
  rw [← hfs.1] at hmem hlen
  generalize ls (fdx i.toNatClampNeg (how - how / 2 * 2)) = c at *
  unfold rfs
  rw [at1.2.2.2.1, at1.2.2.2.2.2.1]
  have hr : ∀ j : Nat, j < N → 0 ≤ (A 5 j).toInt ∧ (A 5 j).toInt ≤ 99 := fun j hj => by have := hM.2.1 j (by omega); exact ⟨this.1, this.2.1⟩
  have hsum := ufF_sum (A := A) m i (how / 2) (how - how / 2 * 2) b (A 13 0).toNatClampNeg 0 0 0 (by decide) (by rw [z0, hcN]; have := hc.2; omega) (fun j hj => hr j (by rw [z0, hcN] at hj; omega)) (by rw [z0]; omega) (by rw [z0]; omega)
  unfold uf
  rw [hcN, zN, Nat.zero_add] at hsum
  rw [hcN]
  have sg0 : ∀ (f : Nat → Int) (p : Nat → Bool), sgn f p 0 = 0 := fun _ _ => rfl
  rw [sg0, sg0] at hsum
  generalize ufF A m i (how / 2) (how - how / 2 * 2) b N 0 0 0 = T at hsum ⊢
  -- the chain's orders
  have hcn : ¬ how / 2 = 3 → ∀ o ∈ c, (acc (nwO I N m i how b q) N (nwO I N m i how b q 5 o) ↔ gdm (how / 2) (how - how / 2 * 2) b (A 4 o)) ∧ nwO I N m i how b q 1 o = A 0 o ∧ nwO I N m i how b q 6 o = A 5 o ∧ 0 ≤ (A 5 o).toInt ∧ (A 5 o).toInt ≤ 99 := fun h3 o ho => by
    have hm := (hmem o).mp ho
    have hw := pw_t.mp hm.2
    have qo := h.1.2 o hm.1
    have q5 := (qo.2 hw.1).1
    have hoN : o ≠ N := by omega
    have hrr := hr o hm.1
    refine ⟨?_, (nwO_k (by decide) hoN m i how b q).trans qo.1.2.1, (nwO_k (by decide) hoN m i how b q).trans qo.1.2.2.2.2.2.1, hrr.1, hrr.2⟩
    rw [nwO_k (c := 5) (by decide) hoN, q5]
    unfold acc gdm
    rw [at1.2.2.1, at1.2.2.2.2.1, if_neg h3]
    exact ⟨Or.inr, fun z => z.resolve_left h3⟩
  unfold ufR
  by_cases k4 : how / 2 = 4
  · rw [if_pos k4, if_pos k4]
    have k3 : ¬ how / 2 = 3 := by rw [k4]; decide
    have k2 : ¬ how / 2 = 2 := by rw [k4]; decide
    rw [if_neg k2]
    have hp := (sgn_pos (p := pg A i (how / 2) (how - how / 2 * 2) b) N).2
    have hmt : (0 < T.1) ↔ ∃ k, k < N ∧ pg A i (how / 2) (how - how / 2 * 2) b k = true := by
      rw [i_lt, hsum.1, z0, ← hp]
      constructor <;> intro z <;> omega
    cases c with
    | nil =>
      have : ¬ 0 < T.1 := fun z => by
        obtain ⟨k, hk, hg⟩ := hmt.mp z
        exact absurd ((hmem k).mpr ⟨hk, pw_t.mpr (pg_t.mp hg).1⟩) List.not_mem_nil
      rw [if_neg this]
    | cons o c =>
      have ho := hcn k3 o List.mem_cons_self
      have hmo := (hmem o).mp List.mem_cons_self
      by_cases g : gdm (how / 2) (how - how / 2 * 2) b (A 4 o)
      · have : 0 < T.1 := hmt.mpr ⟨o, hmo.1, pg_t.mpr ⟨pw_t.mp hmo.2, g⟩⟩
        rw [if_pos this]
        exact if_pos (ho.1.mpr g)
      · have : ¬ 0 < T.1 := fun z => by
          obtain ⟨k, hk, hg⟩ := hmt.mp z
          have hg := pg_t.mp hg
          rcases List.mem_cons.mp ((hmem k).mpr ⟨hk, pw_t.mpr hg.1⟩) with e | hkc
          · subst e; exact g hg.2
          · exact g (gd_mono (hsr.1 k hkc) hs hg.2)
        rw [if_neg this]
        exact if_neg (fun z => g (ho.1.mp z))
  · rw [if_neg k4, if_neg k4]
    by_cases k2 : how / 2 = 2
    · rw [if_pos k2, if_pos k2]
      have k3 : ¬ how / 2 = 3 := by rw [k2]; decide
      have hl := lff_sum (A := A) (I := nwO I N m i how b q) (k := N) (kd := how / 2) (b := b) hs at1.1 c 0 (hcn k3) hsr (by decide) (by rw [z0]; omega)
      rw [sum_tie N c hnd hmem, z0] at hl
      have e2 : sgn (fun o => if gdm (how / 2) (how - how / 2 * 2) b (A 4 o) then (if A 0 o = m then 0 else (A 5 o).toInt) else 0) (pw A i (1 - (how - how / 2 * 2))) N = sgn (fun j => if A 0 j = m then 0 else (A 5 j).toInt) (pg A i (how / 2) (how - how / 2 * 2) b) N := sgn_re N (fun k hk => by
        by_cases c0 : wts A k i (1 - (how - how / 2 * 2))
        · rw [if_pos (pw_t.mpr c0)]
          by_cases c1 : gdm (how / 2) (how - how / 2 * 2) b (A 4 k)
          · rw [if_pos (pg_t.mpr ⟨c0, c1⟩)]; exact if_pos c1
          · rw [if_neg (fun z => c1 (pg_t.mp z).2)]; exact if_neg c1
        · rw [if_neg (fun z => c0 (pw_t.mp z)), if_neg (fun z => c0 (pg_t.mp z).1)])
      rw [e2] at hl
      have e3 : lff (nwO I N m i how b q) N 0 c = T.2 := Int32.toInt_inj.mp (by rw [hl, hsum.2, z0]; omega)
      rw [e3]
    · rw [if_neg k2, if_neg k2]
end TIE13
