section TIE14
variable {N : Nat} {I : Nat → Nat → Int32} {J : Nat → Nat → Int64} {P : Nat → Nat → Option xQ} {V : Nat → Nat → Int32} {ls : Nat → List Nat} {A : Nat → Nat → Int32} {B : Nat → Nat → Int64} {t : Int} {E : Nat → Prop}
/-- between two calls -/
def TX (N : Nat) (S : cS) (R : mAB) (t : Int) : Prop := Tie nE N S.1 S.2.1 S.2.2.1 S.2.2.2 R.1 R.2 ∧ (∀ k, k < N → ¬ R.1 7 k = 3) ∧ (0 ≤ (R.1 14 0).toInt ∧ (R.1 14 0).toInt ≤ t) ∧ bV S.2.2.1 (99 * t)
theorem TX.up {S : cS} {R : mAB} {t' : Int} (h : TX N S R t) (ht : t ≤ t') : TX N S R t' := ⟨h.1, h.2.1, ⟨h.2.2.1.1, Int.le_trans h.2.2.1.2 ht⟩, h.2.2.2.up (by omega)⟩
theorem TX.pos {S : cS} {R : mAB} (h : TX N S R t) (ht : t < 9000000) : ∀ m i, m < 5 → i < 2 → -900000000 ≤ (S.2.2.1 m i).toInt ∧ (S.2.2.1 m i).toInt ≤ 900000000 := fun m i hm hi => by have := h.2.2.2 m i hm hi; omega
theorem mt2_n3 {o k : Nat} (h : ¬ A 7 o = 3) : ¬ mt2 A k 7 o = 3 := by
  by_cases c : o = k
  · subst c
    unfold mt2
    split
    · rw [si_eq]; decide
    · split
      · split
        · have : qeA A o 7 o = 0 := si_eq A 7 o 0
          rw [this]; decide
        · exact h
      · exact h
  · rw [mt2_7 c]; exact h
theorem me_n3 (x : Int32) {o : Nat} (h : ¬ A 7 o = 3) : ¬ (meM A B x).2.1 7 o = 3 := by
  unfold meM
  split
  · exact h
  · split
    · exact h
    · split
      · exact h
      · split
        · show ¬ si A 7 _ 2 7 o = 3
          by_cases c : o = (fr A (A 1 x.toNatClampNeg) (1 - A 2 x.toNatClampNeg)).toNatClampNeg
          · rw [← c, si_eq]; decide
          · rw [si_k c]; exact h
        · show ¬ mt1 A x _ _ 7 o = 3
          unfold mt1
          split
          · exact mt2_n3 (by exact h)
          · exact mt2_n3 (by exact h)
theorem mm_n3 (x : Int32) {o : Nat} : ∀ (n : Nat) (S : mAB), ¬ S.1 7 o = 3 → ¬ (mmF x n S).1 7 o = 3
  | 0, _, h => h
  | n + 1, S, h => by
    unfold mmF
    split
    · exact me_n3 x h
    · exact mm_n3 x n _ (me_n3 x h)
/-- an admitted order -/
theorem adm_tie (h : TX N (I, J, V, ls) (A, B) t) (hV : CV N I ls t) (hQ : QS N P ls) (hM : MV A t) (ht0 : 0 ≤ t) (ht : t + 12000 < 9000000) (h120 : ¬ A 13 0 = 120) {m i how b q : Int32} (hm : vp_in m 5) (hi : vp_in i 2) (hh : ¬ how < 0 ∧ ¬ 12 ≤ how) (hl : how / 2 = 3 ∨ (1 ≤ b.toInt ∧ b.toInt ≤ 63)) (hq1 : 1 ≤ q.toInt) (hq2 : q.toInt ≤ 99) : (adS (plI I N m i how b q) J V ls N i.toNatClampNeg).1 0 N = (pm4 220 A B m i how b q).1 ∧ TX (N + 1) (adS (plI I N m i how b q) J V ls N i.toNatClampNeg) (pm4 220 A B m i how b q).2 (t + 12000) := by
  have hT : Tie nE N I J V ls A B := h.1
  have hN : (A 13 0).toInt = N := hT.1.1
  have hcN : (A 13 0).toNatClampNeg = N := by rw [i_nat]; omega
  have hN120 := hV.2.2.1
  have hNlt : N < 120 := by
    have : ¬ (A 13 0).toInt = 120 := fun z => h120 (Int32.toInt_inj.mp (by rw [z]; decide))
    omega
  have h14 : 0 ≤ (A 14 0).toInt ∧ (A 14 0).toInt ≤ t := h.2.2.1
  have T0 := nw_tie (how := how) (b := b) hT hV hM h120 hm hi hq1 hq2
  have C0 := pl_CI (q := q) hV hQ hm hi hh hl
  have M0 := nw_m (how := how) (b := b) hM h120 hm hi hq1 hq2
  have at1 := nw_at (I := I) (N := N) m i how b q
  have at2 := nwM_at hcN m i how b q
  have e12 : (plI I N m i how b q 12 0).toInt = (N : Int) + 1 := by
    show (I 12 0 + 1).toInt = _
    have := hV.2.1
    rw [i_p1 (by omega) (by omega)]; omega
  have V0 : CV (N + 1) (plI I N m i how b q) ls t := ⟨C0, by rw [e12]; omega, by omega, hV.2.2.2⟩
  have e10 : I 10 i.toNatClampNeg = A 10 i.toNatClampNeg := (hT.2.2.2.1 _ (vp_lt hi)).1
  have hx0 : 0 ≤ (A 13 0).toInt := by omega
  have e13 : A 13 0 = Int32.ofNat N := Int32.toInt_inj.mp (by rw [of_nat (by omega), hN])
  have n3 : ∀ o, o ≠ N → o < N + 1 → ¬ nwM A m i how b q 7 o = 3 := fun o ho hoN => by
    rw [nwM_k (by decide) hcN ho]
    exact h.2.1 o (by omega)
  have hl0 : ¬ how / 2 = 3 → plI I N m i how b q 5 N = nwM A m i how b q 4 N := fun z => by
    rw [plI_c (by decide), at1.2.2.2.2.1, if_neg z, at2.2.2.2.2.1]
  have p10 : plI I N m i how b q 10 i.toNatClampNeg = I 10 i.toNatClampNeg := rfl
  have p3 : plI I N m i how b q 3 N = how - how / 2 * 2 := by rw [plI_c (by decide), at1.2.2.1]
  have n14 : nwM A m i how b q 14 = A 14 := rfl
  unfold adS pm4
  rw [p10, e10]
  by_cases c : A 10 i.toNatClampNeg = 0
  · rw [if_pos c, if_pos c]
    obtain ⟨a1, a2, a3, a4⟩ := ad_tie (x := A 13 0) (kd := how / 2) (k := N) (i := i.toNatClampNeg) T0 C0 hcN (by omega) at2.2.2.2.2.2.2 (fun z => hl0 (fun w => z (by rw [at2.2.2.2.1]; exact w))) at2.2.2.2.1 (by rw [at2.2.1]) (vp_lt hi) (by rw [n14]; exact h14.1) (by rw [n14]; have := h14.2; omega)
    refine ⟨?_, a1, fun o ho => ?_, ⟨a4.1, ?_⟩, ?_⟩
    · rw [(a1.1.2 N (by omega)).1.1]; exact e13.symm
    · by_cases e : o = N
      · subst e; exact a3
      · rw [show (pmE (nwM A m i how b q) (how / 2) (A 13 0), B).1 7 o = nwM A m i how b q 7 o from a2 o ho e]
        exact n3 o e ho
    · have := a4.2
      have h2 := h14.2
      rw [n14] at this
      simp only
      omega
    · have e : (ad2 (plI I N m i how b q, J, V, ls) N i.toNatClampNeg).2.2.1 = V := by
        unfold ad2
        split
        · rfl
        · split
          · rfl
          · split <;> rfl
      rw [e]
      exact h.2.2.2.up (by omega)
  · rw [if_neg c, if_neg c, p3]
    have hj : fdx (nwM A m i how b q 1 N).toNatClampNeg (nwM A m i how b q 2 N) = fdx i.toNatClampNeg (how - how / 2 * 2) := by rw [at2.2.1, at2.2.2.1]
    have T := mt_tie (x := A 13 0) (k := N) (N := N + 1) (j := fdx i.toNatClampNeg (how - how / 2 * 2)) hcN hx0 (by omega) 219 (plI I N m i how b q) J V ls (nwM A m i how b q) B t t (99 * t) T0 V0 M0.1 at2.2.2.2.2.2.2 ⟨fun z => by
      rw [at2.2.2.2.1] at z
      rw [plI_c (by decide), at1.2.2.2.2.1, if_pos z, at2.2.2.1], fun z => hl0 (fun w => z (by rw [at2.2.2.2.1]; exact w))⟩ hj (by rw [n14]; exact h14.1) (by rw [n14]; exact h14.2) (by omega) (by omega) h.2.2.2 (by omega) (by
        have := rc_c (A := nwM A m i how b q) (N + 1)
        rw [at2.2.2.2.2.2.1]; omega)
    rw [show (219 : Nat) + 1 = 220 from rfl] at T
    have n3' : ∀ o, o ≠ N → o < N + 1 → ¬ (mmF (A 13 0) 220 (nwM A m i how b q, B)).1 7 o = 3 := fun o ho hoN => mm_n3 (A 13 0) 220 (nwM A m i how b q, B) (n3 o ho hoN)
    generalize mtF N (fdx i.toNatClampNeg (how - how / 2 * 2)) 219 (plI I N m i how b q, J, V, ls) = S at T ⊢
    generalize mmF (A 13 0) 220 (nwM A m i how b q, B) = R at T n3' ⊢
    obtain ⟨SI, SJ, SV, Sl⟩ := S
    obtain ⟨RA, RB⟩ := R
    obtain ⟨q1, q2, q3, q4, q5, q6, q7, q8⟩ := T
    simp only at q1 q2 q3 q4 q5 q6 q7 q8 n3'
    obtain ⟨a1, a2, a3, a4⟩ := ad_tie (x := A 13 0) (kd := how / 2) (k := N) (i := i.toNatClampNeg) q1 q7.1 hcN (by omega) q2 (fun z => by
      rw [q6.2.2.2.1, at2.2.2.2.1] at z
      rw [q5.2.2.2.2.2.1, q6.2.2.2.2.1]
      exact hl0 z) (by rw [q6.2.2.2.1]; exact at2.2.2.2.1) (by rw [q6.2.1, at2.2.1]) (vp_lt hi) q3.1 (by omega)
    refine ⟨?_, a1, fun o ho => ?_, ⟨a4.1, ?_⟩, ?_⟩
    · rw [(a1.1.2 N (by omega)).1.1]; exact e13.symm
    · by_cases e : o = N
      · subst e; exact a3
      · rw [show (pmE RA (how / 2) (A 13 0), RB).1 7 o = RA 7 o from a2 o ho e]
        exact n3' o e ho
    · have := a4.2
      have h2 := q3.2
      simp only
      omega
    · have e : (ad2 (SI, SJ, SV, Sl) N i.toNatClampNeg).2.2.1 = SV := by
        unfold ad2
        split
        · rfl
        · split
          · rfl
          · split <;> rfl
      rw [e]
      exact q4.up (by omega)
end TIE14
