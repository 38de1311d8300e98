section TIE10
variable {N : Nat} {I : Nat → Nat → Int32} {J : Nat → Nat → Int64} {V : Nat → Nat → Int32} {ls : Nat → List Nat} {A : Nat → Nat → Int32} {B : Nat → Nat → Int64} {t : Int} {E : Nat → Prop}
theorem fdx_sdx {i : Nat} {s : Int32} (hs : s = 0 ∨ s = 1) : fdx i s = sdx i (1 - s) ∧ (1 - s = 0 ∨ 1 - s = 1) := by
  rcases hs with e | e
  · subst e; exact ⟨rfl, Or.inr (by decide)⟩
  · subst e; exact ⟨rfl, Or.inl (by decide)⟩
/-- a limit accepts a price, in class and reference -/
theorem gdm_acc {k : Nat} {p : Int32} (h3 : I 3 k = A 2 k) (hl : (A 3 k = 3 → I 5 k = if A 2 k = 0 then 63 else 1) ∧ (¬ A 3 k = 3 → I 5 k = A 4 k)) (hp0 : 1 ≤ p.toInt) (hp1 : p.toInt ≤ 63) : acc I k p ↔ gdm (A 3 k) (A 2 k) (A 4 k) p := by
  have e63 : (63 : Int32).toInt = 63 := by decide
  have e1 : (1 : Int32).toInt = 1 := by decide
  unfold acc gdm
  rw [h3]
  by_cases c : A 3 k = 3
  · rw [hl.1 c]
    refine ⟨fun _ => Or.inl c, fun _ => ?_⟩
    by_cases d : A 2 k = 0
    · rw [if_pos d, i_lt, e63]; exact Or.inl ⟨d, by omega⟩
    · rw [if_neg d, i_lt, i_lt, e1]; exact Or.inr ⟨d, by omega⟩
  · rw [hl.2 c]
    exact ⟨Or.inr, fun z => z.resolve_left c⟩
theorem mtF_s0 {k j : Nat} (h : I 6 k ≤ 0) : ∀ n : Nat, mtF k j n (I, J, V, ls) = (I, J, V, ls)
  | 0 => rfl
  | n + 1 => by unfold mtF; exact if_pos h
theorem mtF_s1 {k j : Nat} (h : ls j = []) : ∀ n : Nat, mtF k j n (I, J, V, ls) = (I, J, V, ls)
  | 0 => rfl
  | n + 1 => by
    unfold mtF
    simp only [h]
    split <;> rfl
theorem mtF_s2 {k j r : Nat} {c : List Nat} (h : ls j = r :: c) (ha : ¬ acc I k (I 5 r)) : ∀ n : Nat, mtF k j n (I, J, V, ls) = (I, J, V, ls)
  | 0 => rfl
  | n + 1 => by
    unfold mtF
    by_cases c6 : I 6 k ≤ 0
    · simp only [if_pos c6]
    · simp only [h, if_neg c6, if_neg ha]
theorem tws_eq {k r j : Nat} {p n : Int32} (hp : I 5 r = p) (hn : i_min (I 6 k) (I 7 r) = n) : tws I J V ls k r j = if I 3 k = 0 then tw2 (exI (si I 7 r (I 7 r - n)) k r p n) (exJ (si I 7 r (I 7 r - n)) J k r p n) (exV (si I 7 r (I 7 r - n)) V k r n) ls r j else tw2 (exI (si I 7 r (I 7 r - n)) r k p n) (exJ (si I 7 r (I 7 r - n)) J r k p n) (exV (si I 7 r (I 7 r - n)) V r k n) ls r j := by
  unfold tws tw1
  rw [hp, hn]
theorem tw2_V (r j : Nat) : (tw2 I J V ls r j).2.2.1 = V := by
  unfold tw2
  split
  · rfl
  · split <;> rfl
/-- one step of the meeting -/
theorem mt_step (h : Tie nE N I J V ls A B) (hV : CV N I ls t) (hM : MV A t) {x : Int32} {k j : Nat} {v : Int} (hxk : x.toNatClampNeg = k) (hx0 : 0 ≤ x.toInt) (hk : k < N) (h3 : A 7 k = 3) (hl : (A 3 k = 3 → I 5 k = if A 2 k = 0 then 63 else 1) ∧ (¬ A 3 k = 3 → I 5 k = A 4 k)) (hj : fdx (A 1 k).toNatClampNeg (A 2 k) = j) (h0 : 0 ≤ (A 14 0).toInt) (h1 : (A 14 0).toInt < 2147483647) (ht : t < 2147483647) (hbv : bV V v) (hv : v + 198 < 2147483648) :
    ((meM A B x).1 = 0 ∧ (meM A B x).2 = (A, B) ∧ ∀ n, mtF k j n (I, J, V, ls) = (I, J, V, ls)) ∨
    ∃ (I' : Nat → Nat → Int32) (J' : Nat → Nat → Int64) (V' : Nat → Nat → Int32) (ls' : Nat → List Nat), (∀ n, mtF k j (n + 1) (I, J, V, ls) = mtF k j n (I', J', V', ls')) ∧ ¬ (meM A B x).1 = 0 ∧ Tie nE N I' J' V' ls' (meM A B x).2.1 (meM A B x).2.2 ∧ CV N I' ls' (t + 1) ∧ KP I I' ∧ (meM A B x).2.1 7 k = 3 ∧ (0 ≤ ((meM A B x).2.1 14 0).toInt ∧ ((meM A B x).2.1 14 0).toInt ≤ (A 14 0).toInt + 1) ∧ bV V' (v + 198) := by
  have hN := h.1.1
  have qk := h.1.2 k hk
  have okk := hV.1.1 k hk
  have hi2 : vp_in (A 1 k) 2 := by rw [← qk.1.2.2.1]; exact okk.2.1
  have hs2 : A 2 k = 0 ∨ A 2 k = 1 := by rw [← qk.1.2.2.2.1]; exact okk.2.2.1
  have hfs := fdx_sdx (i := (A 1 k).toNatClampNeg) hs2
  have z0 : (0 : Int32).toInt = 0 := by decide
  have hj4 : j < 4 := by rw [← hj]; exact fdx_lt (vp_lt hi2) _
  have rqk := hM.2.1 k (by omega)
  have hfr := h.front hV hM hi2 hfs.2
  rw [← hfs.1, hj] at hfr
  have e6 := qk.1.2.2.2.2.2.1
  unfold meM
  rw [hxk]
  generalize fr A (A 1 k) (1 - A 2 k) = y at hfr ⊢
  by_cases c1 : A 5 k = 0
  · rw [if_pos c1]
    exact Or.inl ⟨rfl, rfl, mtF_s0 (by rw [e6, c1]; decide)⟩
  have c1' : ¬ I 6 k ≤ 0 := by
    rw [e6, i_le, z0]
    intro q
    have := rqk.1
    exact c1 (Int32.toInt_inj.mp (by omega))
  rcases hfr with ⟨hl0, hy⟩ | ⟨r, c, hlr, hy0, hyr⟩
  · rw [if_neg c1, if_pos (by rw [i_lt, z0]; exact hy)]
    exact Or.inl ⟨rfl, rfl, mtF_s1 hl0⟩
  rw [if_neg c1, if_neg (show ¬ y < 0 by rw [i_lt, z0]; omega), hyr]
  have hm := (h.2.1.1 j hj4 r).mp (by rw [hlr]; exact List.mem_cons_self)
  have hr := hm.1
  have qr := h.1.2 r hr
  have qr2 := qr.2 hm.2.1
  have okr := hV.1.1 r hr
  have rqr := hM.2.1 r (by omega)
  have hg := gdm_acc (I := I) (A := A) (k := k) (p := A 4 r) qk.1.2.2.2.1 hl (by rw [← qr2.1]; exact okr.2.2.2.1) (by rw [← qr2.1]; exact okr.2.2.2.2)
  rw [← qr2.1] at hg
  rw [← qr2.1]
  by_cases c3' : ¬ acc I k (I 5 r)
  · have c3 := c3'
    rw [if_pos (b01_z.mpr (fun z => c3 (hg.mpr z)))]
    exact Or.inl ⟨rfl, rfl, mtF_s2 hlr c3⟩
  have c3 := not_not_out c3'
  rw [if_neg (b01_nz.mpr (hg.mp c3))]
  have em : I 1 r = I 1 k ↔ A 0 r = A 0 k := by rw [qr.1.2.1, qk.1.2.1]
  have hkr : k ≠ r := fun e => by rw [e, hm.2.1] at h3; exact absurd h3 (by decide)
  have hcv := hV.2.2.2
  by_cases c4 : A 0 r = A 0 k
  · rw [if_pos c4]
    refine Or.inr ⟨_, _, _, _, fun n => mtF_a c1' hlr c3 (em.mpr c4), (show ¬ (1 : Int32) = 0 by decide), h.tk hr (by decide) (by decide), ?_, ?_, ?_, ?_, hbv.up (by omega)⟩
    · exact hV.re (tk_CI hV.1) rfl hcv.1 (by have := hcv.2; show (I 13 0).toInt ≤ _; omega)
    · exact ⟨rfl, rfl, rfl, rfl, rfl, rfl, rfl, rfl⟩
    · show si A 7 r 2 7 k = 3
      rw [si_k hkr]; exact h3
    · have e : si A 7 r 2 14 = A 14 := si_c (by decide)
      show 0 ≤ (si A 7 r 2 14 0).toInt ∧ (si A 7 r 2 14 0).toInt ≤ _
      rw [e]; omega
  rw [if_neg c4]
  have hsh := qr2.2.1 (fun z => z)
  have hnm : i_min (I 6 k) (I 7 r) = mtN A x y := mt_am (by rw [e6, hxk]) (by rw [hsh, hyr])
  have hn0 : 0 ≤ (mtN A x y).toInt ∧ (mtN A x y).toInt ≤ 99 := by
    unfold mtN
    rw [hxk, hyr]
    split
    · unfold shs
      have w := rqr.2.2 hm.2.1
      split
      · rename_i h5
        have := w.2 h5
        have := rqr.2.1
        omega
      · have := rqr.2.1
        omega
    · have := rqk.2.1
      have := rqk.1
      omega
  have hsd : sdx (I 2 r).toNatClampNeg (I 3 r) = j := by rw [qr.1.2.2.1, qr.1.2.2.2.1]; exact hm.2.2
  have hkp := tws_KP (I := I) (J := J) (V := V) (ls := ls) k r j
  have hci := tws_CI (J := J) (V := V) (k := k) hV.1 hsd
  have hite := tws_eq (I := I) (J := J) (V := V) (ls := ls) (k := k) (j := j) (p := I 5 r) rfl hnm
  have hi1 : A 1 r = A 1 k := by
    have w := (h.mem hV hi2 hfs.2 r).mp (by rw [← hfs.1, hj, hlr]; exact List.mem_cons_self)
    exact (pw_t.mp w.2).2.1
  have e13 : (I 13 0 + 1).toInt = (I 13 0).toInt + 1 := i_p1 hcv.1 (by omega)
  refine Or.inr ⟨(tws I J V ls k r j).1, (tws I J V ls k r j).2.1, (tws I J V ls k r j).2.2.1, (tws I J V ls k r j).2.2.2, fun n => mtF_b c1' hlr c3 (fun z => c4 (em.mp z)), (show ¬ (1 : Int32) = 0 by decide), ?_, ?_, hkp.1, ?_, ?_, ?_⟩
  · show Tie nE N _ _ _ _ (mt1 A x y (mtN A x y)) (mtB A B x y (mtN A x y))
    rw [hite]
    unfold mt1 mtB
    rw [hxk, hyr, qk.1.2.2.2.1, qr2.1]
    by_cases c5 : A 2 k = 0
    · simp only [if_pos c5]
      have T := ex_tie h hM hxk hyr hx0 hy0 hk hr h3 hm.2.1 hi1 (p := A 4 r) (n := mtN A x y) (by omega) (b := x) (s := y) (Or.inl ⟨rfl, rfl⟩)
      rw [hxk, hyr] at T
      exact tw2_tie T (hV.1.re (exI_c (c := 1) (by decide) (by decide)) (exI_c (c := 2) (by decide) (by decide)) (exI_c (c := 3) (by decide) (by decide)) (exI_c (c := 5) (by decide) (by decide)) (fun _ _ _ q => Or.inl q)) hr (by exact hm.2.1) (by exact hm.2.2) hj4 (by exact h0) (by exact h1)
    · simp only [if_neg c5]
      have T := ex_tie h hM hxk hyr hx0 hy0 hk hr h3 hm.2.1 hi1 (p := A 4 r) (n := mtN A x y) (by omega) (b := y) (s := x) (Or.inr ⟨rfl, rfl⟩)
      rw [hxk, hyr] at T
      exact tw2_tie T (hV.1.re (exI_c (c := 1) (by decide) (by decide)) (exI_c (c := 2) (by decide) (by decide)) (exI_c (c := 3) (by decide) (by decide)) (exI_c (c := 5) (by decide) (by decide)) (fun _ _ _ q => Or.inl q)) hr (by exact hm.2.1) (by exact hm.2.2) hj4 (by exact h0) (by exact h1)
  · exact hV.re hci (by rw [hkp.1.2.2.2.2.2.2.2]) (by rw [hkp.2, e13]; omega) (by rw [hkp.2, e13]; omega)
  · show mt1 A x y (mtN A x y) 7 k = 3
    unfold mt1
    rw [hyr]
    split
    · rw [mt2_7 hkr]; exact h3
    · rw [mt2_7 hkr]; exact h3
  · show 0 ≤ (mt1 A x y (mtN A x y) 14 0).toInt ∧ (mt1 A x y (mtN A x y) 14 0).toInt ≤ _
    unfold mt1
    rw [hyr]
    split
    · have := mt2_14 (A := si (swA A x y (A 4 r) (mtN A x y)) 6 r (A 6 r - mtN A x y)) (r := r) (by exact h0) (by exact h1)
      have e : si (swA A x y (A 4 r) (mtN A x y)) 6 r (A 6 r - mtN A x y) 14 = A 14 := rfl
      rw [e] at this
      omega
    · have := mt2_14 (A := si (swA A y x (A 4 r) (mtN A x y)) 6 r (A 6 r - mtN A x y)) (r := r) (by exact h0) (by exact h1)
      have e : si (swA A y x (A 4 r) (mtN A x y)) 6 r (A 6 r - mtN A x y) 14 = A 14 := rfl
      rw [e] at this
      omega
  · rw [hite]
    split
    · rw [tw2_V]; exact hbv.ex hn0.1 hn0.2 hv
    · rw [tw2_V]; exact hbv.ex hn0.1 hn0.2 hv
end TIE10
