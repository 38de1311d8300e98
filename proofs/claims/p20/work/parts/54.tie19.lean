section TIE19
variable {N : Nat} {I : Nat → Nat → Int32} {J : Nat → Nat → Int64} {P : Nat → Nat → Option xQ} {V : Nat → Nat → Int32} {ls : Nat → List Nat} {A : Nat → Nat → Int32} {B : Nat → Nat → Int64} {t : Int} {E : Nat → Prop}
theorem fl_lt (I : Nat → Nat → Int32) (c : Nat) {n k : Nat} (h : k < n) : fl I c n c k = 0 := by
  unfold fl
  rw [if_pos rfl]
  exact if_pos h
theorem fl_ne (I : Nat → Nat → Int32) {c x : Nat} (n : Nat) (h : x ≠ c) : fl I c n x = I x := if_neg h
theorem wgh_tab {cb cs : List Nat} {l f : Nat → Int32} (hb : ∀ o ∈ cb, I 5 o = l o ∧ I 6 o = f o ∧ 0 ≤ (f o).toInt ∧ (f o).toInt ≤ 99) (hbl : ∀ o ∈ cb, 1 ≤ (l o).toInt ∧ (l o).toInt ≤ 63) (hs : ∀ o ∈ cs, I 5 o = l o ∧ I 6 o = f o ∧ 0 ≤ (f o).toInt ∧ (f o).toInt ≤ 99) (hsl : ∀ o ∈ cs, 1 ≤ (l o).toInt ∧ (l o).toInt ≤ 63) (lb : cb.length ≤ 120) (lc : cs.length ≤ 120) : ∀ k, 1 ≤ k → k ≤ 63 → (wgh I cb cs 15 k).toInt = sumZ (fun o => if k ≤ (l o).toNatClampNeg then (f o).toInt else 0) cb ∧ (wgh I cb cs 16 k).toInt = sumZ (fun o => if (l o).toNatClampNeg ≤ k then (f o).toInt else 0) cs := by
  have z0 : (0 : Int32).toInt = 0 := by decide
  have e63 : (63 : Int32).toInt = 63 := by decide
  have e1 : (1 : Int32).toInt = 1 := by decide
  have n1 : (1 : Int32).toNatClampNeg = 1 := by decide
  unfold wgh
  have W05 : fl (fl I 15 65) 16 65 5 = I 5 := rfl
  have W06 : fl (fl I 15 65) 16 65 6 = I 6 := rfl
  have W015 : ∀ k, k < 65 → fl (fl I 15 65) 16 65 15 k = 0 := fun k hk => by rw [fl_ne _ _ (by decide)]; exact fl_lt _ _ hk
  have W016 : ∀ k, k < 65 → fl (fl I 15 65) 16 65 16 k = 0 := fun k hk => fl_lt _ _ hk
  generalize fl (fl I 15 65) 16 65 = W0 at *
  have s1 : ∀ k, k < 65 → (wgB 15 W0 cb 15 k).toInt = sumZ (fun o => if (l o).toNatClampNeg = k then (f o).toInt else 0) cb := fun k hk => by
    rw [wgB_sum (Or.inl rfl) (l := l) (f := f) cb W0 k (fun o ho => by rw [W05, W06]; exact hb o ho) (by rw [W015 k hk]; decide) (by rw [W015 k hk, z0]; omega), W015 k hk, z0, Int.zero_add]
  have n15 : ∀ x, x ≠ 15 → wgB 15 W0 cb x = W0 x := fun x hx => wgB_ne 15 cb W0 x hx
  generalize wgB 15 W0 cb = W1 at *
  have s2 : ∀ k, k < 65 → (wgB 16 W1 cs 16 k).toInt = sumZ (fun o => if (l o).toNatClampNeg = k then (f o).toInt else 0) cs := fun k hk => by
    have w16 : W1 16 k = 0 := by rw [n15 16 (by decide)]; exact W016 k hk
    rw [wgB_sum (Or.inr rfl) (l := l) (f := f) cs W1 k (fun o ho => by rw [n15 5 (by decide), n15 6 (by decide), W05, W06]; exact hs o ho) (by rw [w16]; decide) (by rw [w16, z0]; omega), w16, z0, Int.zero_add]
  have n16 : wgB 16 W1 cs 15 = W1 15 := wgB_ne 16 cs W1 15 (by decide)
  generalize wgB 16 W1 cs = W2 at *
  have cb3 := cumB_rec 63 63 W2 e63 (by decide)
  have n3 : cumB 63 63 W2 16 = W2 16 := cumB_ne 63 63 W2 16 (by decide)
  generalize cumB 63 63 W2 = W3 at *
  have cs4 := cumS_rec 63 1 W3 (by decide) (by decide)
  have n4 : cumS 63 1 W3 15 = W3 15 := cumS_ne 63 1 W3 15 (by decide)
  generalize cumS 63 1 W3 = W4 at *
  rw [n1] at cs4
  intro k h1 h2
  have rng : ∀ (c : List Nat) (p : Nat → Nat → Prop) [∀ k o, Decidable (p k o)], (∀ o ∈ c, 0 ≤ (f o).toInt ∧ (f o).toInt ≤ 99) → c.length ≤ 120 → ∀ k, 0 ≤ sumZ (fun o => if p k o then (f o).toInt else 0) c ∧ sumZ (fun o => if p k o then (f o).toInt else 0) c ≤ 20000 := fun c p _ hf hl k => by
    have := sumZ_rng (f := fun o => if p k o then (f o).toInt else 0) (b := 99) (c := c) (fun o ho => by
      have := hf o ho
      split <;> omega)
    omega
  constructor
  · rw [n4]
    refine down_sum (W := W1 15) (Z := fun k => sumZ (fun o => if k ≤ (l o).toNatClampNeg then (f o).toInt else 0) cb) (b := 20000) (by decide) (fun k a b => ?_) ?_ (fun k a b => ?_) (rng cb (fun k o => k ≤ (l o).toNatClampNeg) (fun o ho => ⟨(hb o ho).2.2.1, (hb o ho).2.2.2⟩) lb) (64 - k) k (by omega) h1
    · rw [cb3.2 k a b, n16]
    · rw [cb3.1 64 (by decide), n16, s1 64 (by decide)]
      refine sumZ_re (fun o ho => ?_)
      have := hbl o ho
      have e : (l o).toNatClampNeg = (l o).toInt.toNat := i_nat _
      rw [if_neg (by omega), if_neg (by omega)]
    · rw [s1 k (by omega)]
      refine sumZ_add (fun o _ => ?_)
      split <;> split <;> (try split) <;> omega
  · refine up_sum (R := W4 16) (W := W2 16) (Z := fun k => sumZ (fun o => if (l o).toNatClampNeg ≤ k then (f o).toInt else 0) cs) (b := 20000) (by decide) (fun k a b => ?_) ?_ (fun k a b => ?_) (rng cs (fun k o => (l o).toNatClampNeg ≤ k) (fun o ho => ⟨(hs o ho).2.2.1, (hs o ho).2.2.2⟩) lc) k h2
    · rw [cs4.2 k (by omega) (by omega), n3]
    · rw [cs4.1 0 (by omega), n3, s2 0 (by decide)]
      refine sumZ_re (fun o ho => ?_)
      have := hsl o ho
      have e : (l o).toNatClampNeg = (l o).toInt.toNat := i_nat _
      rw [if_neg (by omega), if_neg (by omega)]
    · rw [s2 k (by omega)]
      refine sumZ_add (fun o _ => ?_)
      split <;> split <;> (try split) <;> omega
/-- the class's table is the reference's sums -/
theorem wg_wl (h : Tie E N I J V ls A B) (hV : CV N I ls t) (hM : MV A t) {i q : Int32} (hi : vp_in i 2) (hq0 : 1 ≤ q.toInt) (hq1 : q.toInt ≤ 63) : wgL I ls i.toNatClampNeg 15 q.toNatClampNeg = wl A i 0 q ∧ wgL I ls i.toNatClampNeg 16 q.toNatClampNeg = wl A i 1 q := by
  have hN := h.1.1
  have ne : ¬ (1 : Int32) = 0 := by decide
  have d0 : sdx i.toNatClampNeg 0 = 2 * i.toNatClampNeg := if_pos rfl
  have d1 : sdx i.toNatClampNeg 1 = 2 * i.toNatClampNeg + 1 := if_neg (by decide)
  have m0 := h.mem hV hi (Or.inl rfl)
  have m1 := h.mem hV hi (Or.inr rfl)
  have l0 := h.len hV hi (Or.inl rfl)
  have l1 := h.len hV hi (Or.inr rfl)
  have nd0 := h.2.1.2.2 _ (sdx_lt (vp_lt hi) 0)
  have nd1 := h.2.1.2.2 _ (sdx_lt (vp_lt hi) 1)
  rw [d0] at m0 l0 nd0
  rw [d1] at m1 l1 nd1
  have key : ∀ s : Int32, ∀ o, o < N ∧ pw A i s o = true → (I 5 o = A 4 o ∧ I 6 o = A 5 o ∧ 0 ≤ (A 5 o).toInt ∧ (A 5 o).toInt ≤ 99) ∧ (1 ≤ (A 4 o).toInt ∧ (A 4 o).toInt ≤ 63) := fun s o ho => by
    have w := pw_t.mp ho.2
    have q := h.1.2 o ho.1
    have q5 := (q.2 w.1).1
    have ok := hV.1.1 o ho.1
    have rq := hM.2.1 o (by omega)
    exact ⟨⟨q5, q.1.2.2.2.2.2.1, rq.1, rq.2.1⟩, by rw [← q5]; exact ok.2.2.2⟩
  rw [wgL_eq]
  have T := wgh_tab (I := I) (cb := ls (2 * i.toNatClampNeg)) (cs := ls (2 * i.toNatClampNeg + 1)) (l := A 4) (f := A 5) (fun o ho => (key 0 o ((m0 o).mp ho)).1) (fun o ho => (key 0 o ((m0 o).mp ho)).2) (fun o ho => (key 1 o ((m1 o).mp ho)).1) (fun o ho => (key 1 o ((m1 o).mp ho)).2) l0 l1 q.toNatClampNeg (by rw [i_nat]; omega) (by rw [i_nat]; omega)
  have qN : q.toNatClampNeg = q.toInt.toNat := i_nat q
  constructor
  · apply Int32.toInt_inj.mp
    rw [T.1, wl_sum hM hN, ← sum_tie N _ nd0 m0]
    refine sumZ_re (fun o ho => ?_)
    have k := (key 0 o ((m0 o).mp ho)).2
    have e : (A 4 o).toNatClampNeg = (A 4 o).toInt.toNat := i_nat _
    unfold fw
    by_cases c : q ≤ A 4 o
    · rw [if_pos (by rw [i_le] at c; omega), if_neg]
      rintro (⟨-, z⟩ | ⟨z, -⟩)
      · exact z c
      · exact z rfl
    · rw [if_neg (by rw [i_le] at c; omega), if_pos (Or.inl ⟨rfl, c⟩)]
  · apply Int32.toInt_inj.mp
    rw [T.2, wl_sum hM hN, ← sum_tie N _ nd1 m1]
    refine sumZ_re (fun o ho => ?_)
    have k := (key 1 o ((m1 o).mp ho)).2
    have e : (A 4 o).toNatClampNeg = (A 4 o).toInt.toNat := i_nat _
    unfold fw
    by_cases c : A 4 o ≤ q
    · rw [if_pos (by rw [i_le] at c; omega), if_neg]
      rintro (⟨z, -⟩ | ⟨-, z⟩)
      · exact ne z
      · exact z c
    · rw [if_neg (by rw [i_le] at c; omega), if_pos (Or.inr ⟨ne, c⟩)]
end TIE19
