section MINV3
variable {A : Nat → Nat → Int32} {B : Nat → Nat → Int64} {t : Int}
theorem MV.up {t' : Int} (q : MV A t) (h : t ≤ t') : MV A t' := ⟨q.1, q.2.1, Int.le_trans q.2.2 h⟩
theorem MV.re {A' : Nat → Nat → Int32} (q : MV A t) (h0 : A' 0 = A 0) (h1 : A' 1 = A 1) (h13 : A' 13 = A 13) (h15 : A' 15 = A 15) (hr : ∀ k : Nat, (k : Int) < (A 13 0).toInt → RQ A' k) : MV A' t := by
  refine ⟨⟨?_, fun k hk => ?_, ?_⟩, fun k hk => hr k (by rw [h13] at hk; exact hk), ?_⟩
  · unfold MC; rw [h13]; exact q.1.1
  · unfold OM1; rw [h0, h1]; rw [h13] at hk; exact q.1.2.1 k hk
  · rw [h15]; exact q.1.2.2
  · rw [h15]; exact q.2.2
theorem dp_m (hV : MV A t) (m a : Int32) : MV (dpM A B m a).2.1 t ∧ (dpM A B m a).2.1 10 = A 10 := by
  unfold dpM
  split
  · split
    · split
      · exact ⟨hV, rfl⟩
      · split
        · exact ⟨hV, rfl⟩
        · exact ⟨hV, rfl⟩
    · exact ⟨hV, rfl⟩
  · exact ⟨hV, rfl⟩
/-- a status that isn't 'resting' -/
theorem st_m (hV : MV A t) {x : Nat} {v : Int32} (hv : ¬ v = 0) : MV (si A 7 x v) t := by
  refine MV.re (A' := si A 7 x v) hV rfl rfl rfl rfl (fun k hk => ?_)
  by_cases hkx : k = x
  · subst hkx
    have hq := hV.2.1 k hk
    refine ⟨hq.1, hq.2.1, fun z => ?_⟩
    have z : x_uf (A 7) k v k = 0 := z
    rw [x_uf_self] at z
    exact absurd z hv
  · exact (hV.2.1 k hk).re rfl rfl (x_uf_ne _ _ hkx) rfl
theorem cn_m (hV : MV A t) (m x : Int32) : MV (cnM A B m x).2.1 t ∧ (cnM A B m x).2.1 10 = A 10 := by
  unfold cnM
  split
  · exact ⟨hV, rfl⟩
  · split
    · exact ⟨st_m hV (by decide), rfl⟩
    · exact ⟨hV, rfl⟩
theorem am_m (hV : MV A t) (m x q : Int32) : MV (amM A B m x q).2.1 t ∧ (amM A B m x q).2.1 10 = A 10 := by
  unfold amM
  split
  · exact ⟨hV, rfl⟩
  · rename_i h5
    have hr := rsM_nz h5
    have hx := vOc hV.1.1 hr.1
    have hxk : (x.toNatClampNeg : Int) < (A 13 0).toInt := by rw [i_nat]; omega
    have hq := hV.2.1 _ hxk
    have h1 := (hq.2.2 hr.2)
    split
    · split
      · rename_i ho
        have hb := b01_z.mp ho
        have q1 : ¬ q < 1 := fun z => hb (Or.inl z)
        have q2 : q ≤ A 5 x.toNatClampNeg - 1 := Decidable.byContradiction fun z => hb (Or.inr z)
        rw [i_lt, show (1 : Int32).toInt = 1 by decide] at q1
        rw [i_le, i_m1 hq.1] at q2
        have h99 := hq.2.1
        have key : ∀ v : Int32, (A 3 x.toNatClampNeg = 5 → 1 ≤ v.toInt ∧ v.toInt ≤ q.toInt) → MV (si (si A 5 x.toNatClampNeg q) 6 x.toNatClampNeg v) t := by
          intro v hv
          refine MV.re (A' := si (si A 5 x.toNatClampNeg q) 6 x.toNatClampNeg v) hV rfl rfl rfl rfl (fun k hk => ?_)
          by_cases hkx : k = x.toNatClampNeg
          · subst hkx
            have e5 : si (si A 5 x.toNatClampNeg q) 6 x.toNatClampNeg v 5 x.toNatClampNeg = q := x_uf_self (A 5) _ _
            have e6 : si (si A 5 x.toNatClampNeg q) 6 x.toNatClampNeg v 6 x.toNatClampNeg = v := x_uf_self (A 6) _ _
            unfold RQ
            rw [e5, e6]
            exact ⟨by omega, by omega, fun _ => ⟨by omega, hv⟩⟩
          · exact (hV.2.1 k hk).re (x_uf_ne (A 5) _ hkx) (x_uf_ne (A 6) _ hkx) rfl rfl
        split
        · exact ⟨key q (fun _ => by omega), rfl⟩
        · rename_i hle
          rw [i_le] at hle
          exact ⟨key (A 6 x.toNatClampNeg) (fun h3 => ⟨(h1.2 h3).1, by omega⟩), rfl⟩
      · exact ⟨hV, rfl⟩
    · exact ⟨hV, rfl⟩
theorem cl_m (hV : MV A t) (i : Int32) : MV (clM A B i).2.1 t := by
  unfold clM
  split
  · split
    · exact hV
    · exact MV.re (A' := si A 10 i.toNatClampNeg 0) hV rfl rfl rfl rfl (fun k hk => (hV.2.1 k hk).re rfl rfl rfl rfl)
  · exact hV
theorem lk_m (hV : MV A t) (i : Int32) : MV (lkA A i) t := by
  have hk := lkA_KM A i
  refine MV.re hV hk.1.1 hk.1.2.1 hk.1.2.2.2.2.2.2 hk.2 (fun k hkk => (hV.2.1 k hkk).re ?_ ?_ ?_ ?_)
  · rw [lkA_ne A i (by decide) (by decide) (by decide)]
  · rw [lkA_ne A i (by decide) (by decide) (by decide)]
  · rw [lkA_ne A i (by decide) (by decide) (by decide)]
  · rw [hk.1.2.2.2.1]
theorem in_m (hV : MV A t) (i p : Int32) : MV (inM A B i p).2.1 t ∧ (inM A B i p).2.1 10 = A 10 := by
  have main : MV (lkA A i) t ∧ lkA A i 10 = A 10 := ⟨lk_m hV i, (lkA_KM A i).1.2.2.2.2.2.1⟩
  unfold inM
  split
  · split
    · split
      · exact main
      · split
        · exact main
        · split
          · exact main
          · exact main
    · exact ⟨hV, rfl⟩
  · exact ⟨hV, rfl⟩
theorem op_m (hV : MV A t) (ht : t + 12000 < 2147483647) (i : Int32) : (vp_in i 2 → opT i 12000 (si (lkA A i) 10 i.toNatClampNeg 1, B) (lkA A i 17 0)) ∧ MV (opM 12000 A B i).2.1 (t + 12000) ∧ (opM 12000 A B i).2.1 10 = (if out i 0 1 = 0 then (if A 10 i.toNatClampNeg = 0 then x_uf (A 10) i.toNatClampNeg 1 else A 10) else A 10) := by
  have hk := lkA_KM A i
  have hL := lk_m hV i
  have hV' : MV (si (lkA A i) 10 i.toNatClampNeg 1) t := MV.re (A' := si (lkA A i) 10 i.toNatClampNeg 1) hL rfl rfl rfl rfl (fun k hkk => (hL.2.1 k hkk).re rfl rfl rfl rfl)
  have ec : cn (si (lkA A i) 10 i.toNatClampNeg 1) = cn A := congrArg (fun f : Nat → Int32 => (f 0).toNatClampNeg) hk.1.2.2.2.2.2.2
  have e17 := lkA_17 A i
  have hc := hV.1.1
  have hcN : ((cn A : Nat) : Int) = (A 13 0).toInt := by rw [cn, i_nat]; have := hc.1; omega
  have hsm : ∀ s : Int32, sm (si (lkA A i) 10 i.toNatClampNeg 1) i s (cn A) = sm A i s (cn A) := fun s => sm_re (A' := si (lkA A i) 10 i.toNatClampNeg 1) i s (show lkA A i 1 = A 1 from hk.1.2.1) (show lkA A i 2 = A 2 from hk.1.2.2.1) (show lkA A i 5 = A 5 from lkA_ne A i (by decide) (by decide) (by decide)) (show lkA A i 7 = A 7 from lkA_ne A i (by decide) (by decide) (by decide)) _
  have hr : ∀ k < cn A, 0 ≤ (A 5 k).toInt ∧ (A 5 k).toInt ≤ 99 := fun k hkk => by have := hV.2.1 k (by omega); exact ⟨this.1, this.2.1⟩
  have r0 := sm_rng (A := A) i 0 (cn A) hr
  have r1 := sm_rng (A := A) i 1 (cn A) hr
  have z0 : (0 : Int32).toInt = 0 := by decide
  have hle := lk1_le hV i 63 1 0 0 (by rw [z0]; exact r0.1) (by rw [z0]; exact r1.1)
  rw [← e17] at hle
  have h120 := hc.2
  have hge : ∀ (n : Nat) (q mo le : Int32), 0 ≤ mo.toInt → 0 ≤ (lk1 A i n q mo le).1.toInt := by
    intro n
    induction n with
    | zero => intro q mo le h; exact h
    | succ n ih =>
      intro q mo le h
      unfold lk1
      split
      · rename_i hlt; rw [i_lt] at hlt; exact ih _ _ _ (by omega)
      · split
        · rename_i he
          split
          · exact ih _ _ _ h
          · exact ih _ _ _ (by rw [he]; exact h)
        · exact ih _ _ _ h
  have hg := hge 63 1 0 0 (by decide)
  rw [← e17] at hg
  have main := op_T i 12000 (si (lkA A i) 10 i.toNatClampNeg 1) B (lkA A i 17 0) t hV' (by rw [ec, hsm]; exact hle.1) (by rw [ec, hsm]; exact hle.2) (by omega) (by decide) (by omega) (by omega)
  refine ⟨fun _ => main.1, ?_⟩
  unfold opM
  split
  · split
    · refine ⟨main.2.1, ?_⟩
      have h10 := main.2.2.2.2.2.2.2.1
      show (opF i 12000 (si (lkA A i) 10 i.toNatClampNeg 1, B) (lkA A i 17 0)).1 10 = _
      rw [h10]
      show x_uf (lkA A i 10) i.toNatClampNeg 1 = _
      rw [hk.1.2.2.2.2.2.1]
    · exact ⟨hV.up (by omega), rfl⟩
  · exact ⟨hV.up (by omega), rfl⟩
theorem smA_ok : ∀ (n : Nat) (o : Int32) (A : Nat → Nat → Int32), MV A t → MV (smA n o A) t ∧ smA n o A 10 = A 10
  | 0, _, A, h => ⟨h, rfl⟩
  | n + 1, o, A, h => by
    unfold smA
    have h1 : MV (si A 7 o.toNatClampNeg (if A 7 o.toNatClampNeg = 0 then 2 else A 7 o.toNatClampNeg)) t := by
      apply st_m h
      split
      · decide
      · assumption
    have := smA_ok n (o + Int32.ofInt 1) _ h1
    exact ⟨this.1, this.2⟩
theorem sm_m (hV : MV A t) : MV (smM A B).2.1 t ∧ (smM A B).2.1 10 = x_uf (x_uf (A 10) 0 0) 1 0 := by
  have h := smA_ok (A 13 0).toNatClampNeg 0 A hV
  refine ⟨?_, ?_⟩
  · exact MV.re (A' := smE (smA (A 13 0).toNatClampNeg 0 A)) h.1 rfl rfl rfl rfl (fun k hk => (h.1.2.1 k hk).re rfl rfl rfl rfl)
  · show x_uf (x_uf (smA (A 13 0).toNatClampNeg 0 A 10) (0 : Int32).toNatClampNeg 0) (1 : Int32).toNatClampNeg 0 = _
    rw [h.2]
    rfl
theorem pe_m {x k : Int32} (hV : MV A t) (hx0 : 0 ≤ x.toInt) (hx1 : x.toInt < (A 13 0).toInt) : MV (pmE A k x) t ∧ pmE A k x 10 = A 10 := by
  have hxk : (x.toNatClampNeg : Int) < (A 13 0).toInt := by rw [i_nat]; omega
  unfold pmE
  split
  · exact ⟨st_m hV (by decide), rfl⟩
  · rename_i h5
    split
    · exact ⟨st_m hV (by decide), rfl⟩
    · split
      · exact ⟨st_m hV (by decide), rfl⟩
      · refine ⟨MV.re (A' := qeA A x.toNatClampNeg) hV rfl rfl rfl rfl (fun j hj => ?_), rfl⟩
        by_cases hjx : j = x.toNatClampNeg
        · subst hjx
          have hq := hV.2.1 _ hxk
          have h1 : 1 ≤ (A 5 x.toNatClampNeg).toInt := by
            have : (A 5 x.toNatClampNeg).toInt ≠ 0 := fun q => h5 (Int32.toInt_inj.mp (by rw [q]; decide))
            have := hq.1
            omega
          have hm := qm_rng h1
          have e6 : qeA A x.toNatClampNeg 6 x.toNatClampNeg = qm A x.toNatClampNeg := x_uf_self (A 6) _ _
          have e5 : qeA A x.toNatClampNeg 5 = A 5 := rfl
          unfold RQ
          rw [e6, e5]
          exact ⟨hq.1, hq.2.1, fun _ => ⟨h1, fun _ => hm⟩⟩
        · exact (hV.2.1 j hj).re rfl (x_uf_ne (A 6) _ hjx) (x_uf_ne (A 7) _ hjx) rfl
theorem nw_m (hV : MV A t) (h120 : ¬ A 13 0 = 120) {m i how b q : Int32} (hm : vp_in m 5) (hi : vp_in i 2) (hq1 : 1 ≤ q.toInt) (hq2 : q.toInt ≤ 99) : MV (nwM A m i how b q) t ∧ (nwM A m i how b q 13 0).toInt = (A 13 0).toInt + 1 ∧ nwM A m i how b q 7 (A 13 0).toNatClampNeg = 3 ∧ nwM A m i how b q 5 (A 13 0).toNatClampNeg = q := by
  have hN := nm_OM hV.1 h120 (how := how) (b := b) (q := q) hm hi
  have e7 : nwM A m i how b q 7 (A 13 0).toNatClampNeg = 3 := x_uf_self (A 7) _ _
  have e5 : nwM A m i how b q 5 (A 13 0).toNatClampNeg = q := x_uf_self (A 5) _ _
  refine ⟨⟨hN.1, fun k hk => ?_, hV.2.2⟩, hN.2, e7, e5⟩
  by_cases hkx : k = (A 13 0).toNatClampNeg
  · subst hkx
    unfold RQ
    rw [e5, e7]
    exact ⟨by omega, hq2, fun z => absurd z (by decide)⟩
  · have hlt : (k : Int) < (A 13 0).toInt := by
      rw [hN.2] at hk
      rw [i_nat] at hkx
      have := hV.1.1.1
      omega
    exact (hV.2.1 k hlt).re (x_uf_ne (A 5) _ hkx) rfl (x_uf_ne (A 7) _ hkx) (x_uf_ne (A 3) _ hkx)
theorem pm4_m (hV : MV A t) (ht : t + 220 < 2147483648) (h120 : ¬ A 13 0 = 120) {m i how b q : Int32} (hm : vp_in m 5) (hi : vp_in i 2) (hq1 : 1 ≤ q.toInt) (hq2 : q.toInt ≤ 99) : mmT (A 13 0) 220 (nwM A m i how b q, B) ∧ MV (pm4 220 A B m i how b q).2.1 (t + 220) ∧ (pm4 220 A B m i how b q).2.1 10 = A 10 := by
  obtain ⟨n1, n2, n3, n4⟩ := nw_m hV h120 (how := how) (b := b) hm hi hq1 hq2
  have hx0 := hV.1.1.1
  have hcc := n1.1.1.2
  have hrc := rc_c (A := nwM A m i how b q) (nwM A m i how b q 13 0).toNatClampNeg
  have hcN : ((nwM A m i how b q 13 0).toNatClampNeg : Int) = (nwM A m i how b q 13 0).toInt := by rw [i_nat]; omega
  obtain ⟨k1, k2, k3, k4⟩ := mm_ok hx0 220 (nwM A m i how b q) B t n1 (by rw [n2]; omega) (by rw [n3]; decide) (by omega) (by rw [n4]; omega)
  refine ⟨k1, ?_⟩
  unfold pm4
  split
  · have := pe_m (k := how / 2) (x := A 13 0) n1 hx0 (by rw [n2]; omega)
    exact ⟨this.1.up (by omega), this.2⟩
  · have := pe_m (k := how / 2) (x := A 13 0) k2 hx0 (by rw [k3.2.2.2.2.2.2, n2]; omega)
    exact ⟨this.1, this.2.trans k3.2.2.2.2.2.1⟩
theorem vQ {q : Int32} (h : out q 1 99 = 0) : 1 ≤ q.toInt ∧ q.toInt ≤ 99 := by
  have hb := b01_z.mp h
  have q1 : ¬ q < 1 := fun z => hb (Or.inl z)
  have q2 : q ≤ 99 := Decidable.byContradiction fun z => hb (Or.inr z)
  rw [i_lt, show (1 : Int32).toInt = 1 by decide] at q1
  rw [i_le, show (99 : Int32).toInt = 99 by decide] at q2
  omega
theorem pm1_m (hV : MV A t) (ht : t + 220 < 2147483648) {m i how b q : Int32} (hm : vp_in m 5) (hi : vp_in i 2) (hq1 : 1 ≤ q.toInt) (hq2 : q.toInt ≤ 99) : MV (pm1 220 A B m i how b q).2.1 (t + 220) ∧ (pm1 220 A B m i how b q).2.1 10 = A 10 := by
  have same : MV A (t + 220) ∧ A 10 = A 10 := ⟨hV.up (by omega), rfl⟩
  unfold pm1
  by_cases h120 : A 13 0 = 120
  · rw [if_pos h120]; exact same
  · rw [if_neg h120]
    have h4 := (pm4_m (B := B) hV ht h120 (how := how) (b := b) hm hi hq1 hq2).2
    have h3 : MV (pm3 220 A B m i how b q).2.1 (t + 220) ∧ (pm3 220 A B m i how b q).2.1 10 = A 10 := by
      unfold pm3
      by_cases c1 : lg_cmp (rskM A m i (how - how / 2 * 2) q) (B 0 m.toNatClampNeg) ≤ 0
      · rw [if_pos c1]
        by_cases c2 : uf A m i (how / 2) (how - how / 2 * 2) b q = 0
        · rw [if_pos c2]; exact h4
        · rw [if_neg c2]; exact same
      · rw [if_neg c1]; exact same
    by_cases c1 : A 10 i.toNatClampNeg = 0
    · rw [if_pos c1]
      by_cases c2 : how / 2 = 0
      · rw [if_pos c2]; exact h3
      · rw [if_neg c2]
        by_cases c3 : how / 2 = 5
        · rw [if_pos c3]; exact h3
        · rw [if_neg c3]; exact same
    · rw [if_neg c1]; exact h3
theorem pm_m (hV : MV A t) (ht : t + 220 < 2147483648) (m i how b q : Int32) : MV (pmS 220 A B m i how b q).2.1 (t + 220) ∧ (pmS 220 A B m i how b q).2.1 10 = A 10 := by
  have same : MV A (t + 220) ∧ A 10 = A 10 := ⟨hV.up (by omega), rfl⟩
  unfold pmS
  by_cases h14 : out m 0 4 = 0
  · rw [if_pos h14]
    by_cases h23 : out i 0 1 = 0
    · rw [if_pos h23]
      by_cases h33 : out how 0 11 = 0
      · rw [if_pos h33]
        by_cases h44 : out q 1 99 = 0
        · rw [if_pos h44]
          have h1 := pm1_m (B := B) hV ht (how := how) (b := b) (vO5 h14) (vO2 h23) (vQ h44).1 (vQ h44).2
          by_cases c1 : how / 2 = 3
          · rw [if_pos c1]; exact h1
          · rw [if_neg c1]
            by_cases c2 : out b 1 63 = 0
            · rw [if_pos c2]; exact h1
            · rw [if_neg c2]; exact same
        · rw [if_neg h44]; exact same
      · rw [if_neg h33]; exact same
    · rw [if_neg h23]; exact same
  · rw [if_neg h14]; exact same
end MINV3
