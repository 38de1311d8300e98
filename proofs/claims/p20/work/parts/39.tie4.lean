section TIE4
variable {N : Nat} {I : Nat → Nat → Int32} {J : Nat → Nat → Int64} {V : Nat → Nat → Int32} {ls : Nat → List Nat} {A : Nat → Nat → Int32} {B : Nat → Nat → Int64} {t : Int} {E : Nat → Prop}
theorem i_abs_Z {a : Int32} (h : -1000000000 ≤ a.toInt) : (i_abs a).toInt = if 0 ≤ a.toInt then a.toInt else -a.toInt := by
  have z0 : (0 : Int32).toInt = 0 := by decide
  have hb := a.toInt_lt
  unfold i_abs
  by_cases h0 : 0 ≤ a
  · rw [if_pos h0]
    rw [i_le, z0] at h0
    rw [if_pos h0]
  · rw [if_neg h0]
    rw [i_le, z0] at h0
    rw [if_neg h0, Kit.i32_sub (by omega) (by omega), z0]
    omega
theorem i_max_Z (a b : Int32) : (i_max a b).toInt = if a.toInt < b.toInt then b.toInt else a.toInt := by
  unfold i_max
  by_cases h : a < b
  · rw [if_pos h]; rw [i_lt] at h; rw [if_pos h]
  · rw [if_neg h]; rw [i_lt] at h; rw [if_neg h]
theorem j_abs_Z {v : Int64} (h : -1000000000 ≤ v.toInt) : (j_abs v).toInt = if 0 ≤ v.toInt then v.toInt else -v.toInt := by
  have z0 : (0 : Int64).toInt = 0 := by decide
  unfold j_abs
  by_cases h0 : 0 ≤ lg_cmp v 0
  · rw [if_pos h0]
    rw [lg_cmp_ge, Int64.le_iff_toInt_le, z0] at h0
    rw [if_pos h0]
  · rw [if_neg h0]
    rw [lg_cmp_ge, Int64.le_iff_toInt_le, z0] at h0
    rw [if_neg h0, Kit.i64_neg (by omega)]
theorem sgn_rng : ∀ c : Nat, (∀ k < c, 0 ≤ (A 5 k).toInt ∧ (A 5 k).toInt ≤ 99) → ∀ p : Nat → Bool, 0 ≤ sgn (fun j => (A 5 j).toInt) p c ∧ sgn (fun j => (A 5 j).toInt) p c ≤ 99 * c := by
  intro c
  induction c with
  | zero => intro _ p; exact ⟨Int.le_refl _, by simp [sgn]⟩
  | succ c ih =>
    intro hh p
    have i1 := ih (fun k hk => hh k (Nat.lt_succ_of_lt hk)) p
    have i2 := hh c (Nat.lt_succ_self c)
    unfold sgn
    split <;> omega
/-- the risk of one instrument: class and reference have the same -/
theorem rk_eq (h : Tie E N I J V ls A B) (hV : CV N I ls t) (hM : MV A t) (hp1 : ∀ m i, m < 5 → i < 2 → -900000000 ≤ (V m i).toInt ∧ (V m i).toInt ≤ 900000000) {m i s q e : Int32} (hm : vp_in m 5) (he : vp_in e 2) (hq0 : 0 ≤ q.toInt) (hq1 : q.toInt ≤ 99) : rk1 I V ls m i s q e = rk2 A m e (ri0 A m i s q e).1 (ri0 A m i s q e).2 := by
  have hN := h.1.1
  have hc := hM.1.1
  have hcN : (A 13 0).toNatClampNeg = N := by rw [i_nat]; omega
  have heZ := vp_to he
  have hmZ := vp_to hm
  have z32 : (0 : Int32).toInt = 0 := by decide
  have z64 : (0 : Int64).toInt = 0 := by decide
  have zN : (0 : Int32).toNatClampNeg = 0 := by decide
  have qj : q.toInt64.toInt = q.toInt := Kit.i64_of_i32 _
  have hr : ∀ j : Nat, j < N → 0 ≤ (A 5 j).toInt ∧ (A 5 j).toInt ≤ 99 := fun j hj => by have := hM.2.1 j (by omega); exact ⟨this.1, this.2.1⟩
  -- the reference's sums
  generalize hb0 : (if i = e then (if s = 0 then q.toInt64 else 0) else 0 : Int64) = b0
  generalize hs0 : (if i = e then (if s = 1 then q.toInt64 else 0) else 0 : Int64) = s0
  have hb0r : b0.toInt = (if i = e then (if s = 0 then q.toInt else 0) else 0) := by
    rw [← hb0]
    split
    · split
      · exact qj
      · exact z64
    · exact z64
  have hs0r : s0.toInt = (if i = e then (if s = 1 then q.toInt else 0) else 0) := by
    rw [← hs0]
    split
    · split
      · exact qj
      · exact z64
    · exact z64
  have hbr : 0 ≤ b0.toInt ∧ b0.toInt ≤ 99 := by rw [hb0r]; split <;> (try split) <;> omega
  have hsr : 0 ≤ s0.toInt ∧ s0.toInt ≤ 99 := by rw [hs0r]; split <;> (try split) <;> omega
  have hri := riF_sum (A := A) m e (A 13 0).toNatClampNeg 0 b0 s0 (by decide) (by rw [z32, hcN]; have := hc.2; omega) (fun j hj => hr j (by rw [z32, hcN] at hj; omega)) (by rw [z32]; omega) (by rw [z32]; omega)
  have e0 : ri0 A m i s q e = riF A m e (A 13 0).toNatClampNeg 0 b0 s0 := by unfold ri0; rw [hb0, hs0]
  rw [e0]
  rw [zN, Nat.zero_add, hcN] at hri
  have sg0 : ∀ p : Nat → Bool, sgn (fun j => (A 5 j).toInt) p 0 = 0 := fun _ => rfl
  rw [sg0, sg0] at hri
  rw [hcN]
  -- the class's sums
  have hB := h.left (m := m) hV hM he (Or.inl rfl)
  have hS := h.left (m := m) hV hM he (Or.inr rfl)
  have d0 : sdx e.toNatClampNeg 0 = 2 * e.toNatClampNeg := if_pos rfl
  have d1 : sdx e.toNatClampNeg 1 = 2 * e.toNatClampNeg + 1 := if_neg (by decide)
  rw [d0] at hB
  rw [d1] at hS
  have rB := sgn_rng N hr (prM A m e 0)
  have rS := sgn_rng N hr (prM A m e 1)
  have hN120 := hV.2.2.1
  generalize sgn (fun j => (A 5 j).toInt) (prM A m e 0) N = SB at *
  generalize sgn (fun j => (A 5 j).toInt) (prM A m e 1) N = SS at *
  have hpos : A 9 (2 * m + e).toNatClampNeg = V m.toNatClampNeg e.toNatClampNeg := by
    rw [(h.2.2.1 _ (vp_lt hm)).2.2 _ (vp_lt he)]
    congr 1
    rw [i_nat, (held_in hm he).1, i_nat, i_nat]
    omega
  have hpr := hp1 _ _ (vp_lt hm) (vp_lt he)
  unfold rk1 rk2
  rw [hpos]
  generalize V m.toNatClampNeg e.toNatClampNeg = p at *
  generalize lfo I m 0 (ls (2 * e.toNatClampNeg)) = LB at *
  generalize lfo I m 0 (ls (2 * e.toNatClampNeg + 1)) = LS0 at *
  have a1 : (p + LB).toInt = p.toInt + LB.toInt := Kit.i32_add (by omega) (by omega)
  have a2 : (p - LS0).toInt = p.toInt - LS0.toInt := Kit.i32_sub (by omega) (by omega)
  have hH : (if e = i then (if s = 0 then p + LB + q else p + LB) else p + LB : Int32).toInt = p.toInt + SB + b0.toInt := by
    rw [hb0r]
    by_cases c : e = i
    · rw [if_pos c, if_pos c.symm]
      by_cases c2 : s = 0
      · rw [if_pos c2, if_pos c2, Kit.i32_add (by omega) (by omega)]; omega
      · rw [if_neg c2, if_neg c2]; omega
    · rw [if_neg c, if_neg (fun z => c z.symm)]; omega
  have hL : (if e = i then (if s = 1 then p - LS0 - q else p - LS0) else p - LS0 : Int32).toInt = p.toInt - SS - s0.toInt := by
    rw [hs0r]
    by_cases c : e = i
    · rw [if_pos c, if_pos c.symm]
      by_cases c2 : s = 1
      · rw [if_pos c2, if_pos c2, Kit.i32_sub (by omega) (by omega)]; omega
      · rw [if_neg c2, if_neg c2]; omega
    · rw [if_neg c, if_neg (fun z => c z.symm)]; omega
  generalize (if e = i then (if s = 0 then p + LB + q else p + LB) else p + LB : Int32) = H at *
  generalize (if e = i then (if s = 1 then p - LS0 - q else p - LS0) else p - LS0 : Int32) = L at *
  generalize riF A m e N 0 b0 s0 = T at *
  have pj : p.toInt64.toInt = p.toInt := Kit.i64_of_i32 _
  have u1 : (p.toInt64 + T.1).toInt = p.toInt + T.1.toInt := by rw [Kit.i64_add (by rw [pj]; omega) (by rw [pj]; omega), pj]
  have u2 : (p.toInt64 - T.2).toInt = p.toInt - T.2.toInt := by rw [Kit.i64_sub (by rw [pj]; omega) (by rw [pj]; omega), pj]
  have v1 := j_abs_Z (v := p.toInt64 + T.1) (by rw [u1]; omega)
  have v2 := j_abs_Z (v := p.toInt64 - T.2) (by rw [u2]; omega)
  have w1 := i_abs_Z (a := H) (by rw [hH]; omega)
  have w2 := i_abs_Z (a := L) (by rw [hL]; omega)
  have w3 := i_max_Z (i_abs H) (i_abs L)
  rw [u1, show p.toInt + T.1.toInt = H.toInt by rw [hH]; omega] at v1
  rw [u2, show p.toInt - T.2.toInt = L.toInt by rw [hL]; omega] at v2
  rw [← w1] at v1
  rw [← w2] at v2
  have hval : (i_max (i_abs H) (i_abs L)).toInt64 = if lg_cmp (j_abs (p.toInt64 + T.1)) (j_abs (p.toInt64 - T.2)) ≤ 0 then j_abs (p.toInt64 - T.2) else j_abs (p.toInt64 + T.1) := by
    apply Int64.toInt_inj.mp
    rw [Kit.i64_of_i32, w3]
    by_cases c : lg_cmp (j_abs (p.toInt64 + T.1)) (j_abs (p.toInt64 - T.2)) ≤ 0
    · rw [if_pos c, v2]
      rw [lg_cmp_le, Int64.le_iff_toInt_le, v1, v2] at c
      split <;> omega
    · rw [if_neg c, v1]
      rw [lg_cmp_le, Int64.le_iff_toInt_le, v1, v2] at c
      rw [if_neg (by omega)]
  rw [hval]
  congr 2
  by_cases c : e = 0
  · rw [if_pos c, if_pos (by rw [c]; decide)]
  · rw [if_neg c, if_neg (fun z => c (Int32.toInt_inj.mp (by rw [i_nat] at z; omega)))]
/-- a member's risk -/
theorem rsk_eq (h : Tie E N I J V ls A B) (hV : CV N I ls t) (hM : MV A t) (hp1 : ∀ m i, m < 5 → i < 2 → -900000000 ≤ (V m i).toInt ∧ (V m i).toInt ≤ 900000000) {m i s q : Int32} (hm : vp_in m 5) (hq0 : 0 ≤ q.toInt) (hq1 : q.toInt ≤ 99) : rsk I V ls m i s q = rskM A m i s q := by
  have r0 := rk_eq (i := i) (s := s) h hV hM hp1 (e := 0) hm (vp_of (by decide) (by decide)) hq0 hq1
  have r1 := rk_eq (i := i) (s := s) h hV hM hp1 (e := 0 + Int32.ofInt 1) hm (vp_of (by decide) (by decide)) hq0 hq1
  unfold rsk rskM
  simp only [rkF, rkM]
  rw [r0, r1]
/-- deposit answers alike -/
theorem dp_eq (h : Tie E N I J V ls A B) (hV : CV N I ls t) (hM : MV A t) (hp1 : ∀ m i, m < 5 → i < 2 → -900000000 ≤ (V m i).toInt ∧ (V m i).toInt ≤ 900000000) (m a : Int32) : (dpS I J V ls m a).1 = (dpM A B m a).1 := by
  have mo : isM m = 0 ↔ ¬ out m 0 4 = 0 := by
    have e5 : (5 : Int32).toInt = 5 := by decide
    have e4 : (4 : Int32).toInt = 4 := by decide
    have e0 : (0 : Int32).toInt = 0 := by decide
    rw [b01_z, b01_z, i_lt, i_le, i_le, e0, e4, e5]
    omega
  unfold dpS dpM
  by_cases c0 : isM m = 0
  · rw [if_pos c0, if_neg (mo.mp c0)]
  · have c0' : out m 0 4 = 0 := Decidable.byContradiction (fun q => c0 (mo.mpr q))
    have hm := vM c0
    have hJ := (h.2.2.1 _ (vp_lt hm)).1
    rw [if_neg c0, if_pos c0', rsk_eq h hV hM hp1 hm (by decide) (by decide), hJ]
    by_cases c1 : a < -1000000
    · rw [if_pos c1, if_neg (b01_nz.mpr (Or.inl c1))]
    · rw [if_neg c1]
      by_cases c2 : a ≤ 1000000
      · rw [if_pos c2, if_pos (b01_z.mpr (fun z => z.elim c1 (fun z => z c2)))]
        by_cases c3 : 0 ≤ a
        · rw [if_pos c3, if_pos c3]
        · rw [if_neg c3, if_neg c3]
          by_cases c4 : 0 ≤ lg_cmp (B 0 m.toNatClampNeg + a.toInt64) (rskM A m 0 0 0)
          · rw [if_pos c4, if_pos c4]
          · rw [if_neg c4, if_neg c4]
      · rw [if_neg c2, if_neg (b01_nz.mpr (Or.inr c2))]
end TIE4
