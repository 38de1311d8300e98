section TIE17
variable {N : Nat} {I : Nat → Nat → Int32} {J : Nat → Nat → Int64} {P : Nat → Nat → Option xQ} {V : Nat → Nat → Int32} {ls : Nat → List Nat} {A : Nat → Nat → Int32} {B : Nat → Nat → Int64} {t : Int} {E : Nat → Prop}
theorem in_tie (h : TX N (I, J, V, ls) (A, B) t) (i p : Int32) : TX N (inS I J V ls i p).2 (inM A B i p).2 t := by
  have hT : Tie nE N I J V ls A B := h.1
  have w := h.wl i.toNatClampNeg i
  have w1 : TX N (wgL I ls i.toNatClampNeg, J, V, ls) (A, B) t := by
    have ei : ∀ c, c < 15 → wgL I ls i.toNatClampNeg c = I c := fun c hc => wgL_ne _ (by omega) (by omega)
    exact ⟨⟨hT.1.re (fun c hc => ei c (by omega)) (fun _ _ => rfl) rfl rfl, hT.2.1, hT.2.2.re (ei 10 (by decide)) (ei 11 (by decide)) (ei 13 (by decide)) (ei 14 (by decide)) rfl rfl rfl rfl rfl⟩, h.2⟩
  unfold inS inM
  by_cases c1 : isN i = 0
  · rw [if_pos c1, if_neg (io.mp c1)]; exact h
  rw [if_neg c1, if_pos (not_not_out (fun z => c1 (io.mpr z)))]
  have hL : TX N (if cprice I ls i.toNatClampNeg = 0 then ((-6 : Int32), (wgL I ls i.toNatClampNeg, J, V, ls)) else if p = 0 then (cprice I ls i.toNatClampNeg, (wgL I ls i.toNatClampNeg, J, V, ls)) else if p = 1 then (vol (wgL I ls i.toNatClampNeg) (cprice I ls i.toNatClampNeg), (wgL I ls i.toNatClampNeg, J, V, ls)) else if p = 2 then (sur (wgL I ls i.toNatClampNeg) (cprice I ls i.toNatClampNeg), (wgL I ls i.toNatClampNeg, J, V, ls)) else (-1, (wgL I ls i.toNatClampNeg, J, V, ls))).2 = TX N (wgL I ls i.toNatClampNeg, J, V, ls) := by
    split
    · rfl
    · split
      · rfl
      · split
        · rfl
        · split <;> rfl
  rw [hL]
  split
  · split
    · exact w
    · split
      · exact w
      · split <;> exact w
  · exact w1
/-- a trade that was made -/
theorem tr_eq (h : Tie E N I J V ls A B) (hM : MV A t) (k p : Int32) : trA I k p = trM A k p := by
  have z0 : (0 : Int32).toInt = 0 := by decide
  have z3 : (3 : Int32).toInt = 3 := by decide
  have z4 : (4 : Int32).toInt = 4 := by decide
  have z100 : (100 : Int32).toInt = 100 := by decide
  have h13 := h.2.2.2.2.1
  have h15 := hM.1.2.2
  have hb := (A 15 0).toInt_lt
  have e100 : (A 15 0 - 100).toInt = (A 15 0).toInt - 100 := by rw [Kit.i32_sub (by rw [z100]; omega) (by rw [z100]; omega), z100]
  unfold trA trM
  rw [h13]
  by_cases c0 : p < 0
  · rw [if_pos c0, if_neg (b01_nz.mpr (Or.inl c0))]
  rw [if_neg c0]
  by_cases c1 : p < 4
  · have co : out p 0 3 = 0 := b01_z.mpr (fun w => w.elim c0 (fun w => by rw [i_le, z3] at w; rw [i_lt, z4] at c1; omega))
    rw [if_pos c1, if_pos co]
    by_cases d0 : k < 0
    · rw [if_pos d0, if_pos (b01_z.mpr (fun w => w.1 d0))]
    rw [if_neg d0]
    by_cases d1 : A 15 0 ≤ k
    · rw [if_pos d1, if_pos (b01_z.mpr (fun w => w.2.1 d1))]
    rw [if_neg d1]
    by_cases d2 : A 15 0 - 100 ≤ k
    · have d2' : ¬ k < A 15 0 - 100 := by rw [i_lt]; rw [i_le] at d2; omega
      rw [if_pos d2, if_neg (b01_nz.mpr ⟨d0, d1, d2'⟩)]
      rw [i_lt, z0] at c0 d0
      rw [i_lt, z4] at c1
      exact h.2.2.2.2.2 _ (vp_lt (trow_p (by omega) (by omega) c1))
    · have d2' : k < A 15 0 - 100 := by rw [i_lt]; rw [i_le] at d2; omega
      rw [if_neg d2, if_pos (b01_z.mpr (fun w => w.2.2 d2'))]
  · rw [if_neg c1, if_neg (b01_nz.mpr (Or.inr (by rw [i_le, z3]; rw [i_lt, z4] at c1; omega)))]
/-- what is shown of an order that waits -/
theorem shs_rng (hM : MV A t) (hN : (A 13 0).toInt = N) {o : Nat} (ho : o < N) (h0 : A 7 o = 0) : 0 ≤ (shs A o).toInt ∧ (shs A o).toInt ≤ 99 := by
  have rq := hM.2.1 o (by omega)
  have r2 := rq.2.2 h0
  unfold shs
  split
  · rename_i k5
    have := r2.2 k5
    have := rq.2.1
    omega
  · have := rq.2.1
    omega
theorem siq_none {p : Int32} {f : Nat → Int32} : ∀ (c : List Nat) (s0 : Int32), (∀ o ∈ c, I 5 o = A 4 o ∧ I 7 o = f o ∧ 0 ≤ (f o).toInt ∧ (f o).toInt ≤ 99) → 0 ≤ s0.toInt → s0.toInt + 99 * c.length < 2147483648 → (siq I p none s0 c).toInt = s0.toInt + sumZ (fun o => if A 4 o = p then (f o).toInt else 0) c
  | [], s0, _, _, _ => by simp [siq, sumZ]
  | o :: c, s0, h, h0, h1 => by
    have ho := h o List.mem_cons_self
    have hr : ∀ x ∈ c, _ := fun x hx => h x (List.mem_cons_of_mem _ hx)
    rw [List.length_cons, Int.natCast_succ] at h1
    unfold siq sumZ
    rw [if_neg (fun z => by cases z), ho.1, ho.2.1]
    by_cases c0 : A 4 o = p
    · have e : (s0 + f o).toInt = s0.toInt + (f o).toInt := Kit.i32_add (by omega) (by omega)
      rw [if_pos c0, if_pos c0, siq_none c _ hr (by rw [e]; omega) (by rw [e]; omega), e]
      omega
    · rw [if_neg c0, if_neg c0, siq_none c _ hr h0 (by omega)]
      omega
/-- a sum of the reference over orders that wait -/
theorem dmF_sum (i s p : Int32) : ∀ (n : Nat) (o sm : Int32), 0 ≤ o.toInt → o.toInt + n ≤ 120 → (∀ j : Nat, (j : Int) < o.toInt + n → A 7 j = 0 → 0 ≤ (shs A j).toInt ∧ (shs A j).toInt ≤ 99) → (0 ≤ sm.toInt ∧ sm.toInt ≤ 99 * o.toInt) →
    (dmF A i s p n o sm).toInt = sm.toInt + (sgn (fun j => if A 4 j = p then (shs A j).toInt else 0) (pw A i s) (o.toNatClampNeg + n) - sgn (fun j => if A 4 j = p then (shs A j).toInt else 0) (pw A i s) o.toNatClampNeg)
  | 0, o, sm, _, _, _, _ => by
    show sm.toInt = _
    rw [Nat.add_zero]; omega
  | n + 1, o, sm, h0, h1, hr, hb => by
    have e := i_inc (p := o) (by omega) (by omega)
    have hoN : (o.toNatClampNeg : Int) = o.toInt := by rw [i_nat]; omega
    have eN : (o + Int32.ofInt 1).toNatClampNeg = o.toNatClampNeg + 1 := by rw [i_nat, e, i_nat]; omega
    have e3 : o.toNatClampNeg + 1 + n = o.toNatClampNeg + (n + 1) := by omega
    have z0 : (0 : Int32).toInt = 0 := by decide
    have hk := hr o.toNatClampNeg (by omega)
    obtain ⟨v, hv, ev⟩ : ∃ v : Int32, (0 ≤ v.toInt ∧ v.toInt ≤ 99 ∧ v.toInt = (if pw A i s o.toNatClampNeg = true then (if A 4 o.toNatClampNeg = p then (shs A o.toNatClampNeg).toInt else 0) else 0)) ∧ (if b01 (wts A o.toNatClampNeg i s) = 0 then 0 else if A 4 o.toNatClampNeg = p then shs A o.toNatClampNeg else 0) = v := by
      refine ⟨_, ?_, rfl⟩
      by_cases c : wts A o.toNatClampNeg i s
      · rw [if_neg (b01_nz.mpr c), if_pos (pw_t.mpr c)]
        have hk := hk c.1
        by_cases d : A 4 o.toNatClampNeg = p
        · rw [if_pos d, if_pos d]; omega
        · rw [if_neg d, if_neg d]; omega
      · rw [if_pos (b01_z.mpr c), if_neg (fun z => c (pw_t.mp z))]; omega
    have es : (sm + v).toInt = sm.toInt + v.toInt := Kit.i32_add (by omega) (by omega)
    have ih := dmF_sum i s p n (o + Int32.ofInt 1) (sm + v) (by rw [e]; omega) (by rw [e]; omega) (fun j hj => hr j (by rw [e] at hj; omega)) (by rw [es, e]; omega)
    unfold dmF
    rw [ev, ih, eN, e3, es]
    have u0 : sgn (fun j => if A 4 j = p then (shs A j).toInt else 0) (pw A i s) (o.toNatClampNeg + 1) = sgn (fun j => if A 4 j = p then (shs A j).toInt else 0) (pw A i s) o.toNatClampNeg + (if pw A i s o.toNatClampNeg = true then (if A 4 o.toNatClampNeg = p then (shs A o.toNatClampNeg).toInt else 0) else 0) := rfl
    rw [u0, ← hv.2.2]; omega
theorem de_eq (h : Tie nE N I J V ls A B) (hV : CV N I ls t) (hM : MV A t) (i s p : Int32) : deA I ls i s p = deM A i s p := by
  have z1 : (1 : Int32).toInt = 1 := by decide
  have z0 : (0 : Int32).toInt = 0 := by decide
  have z63 : (63 : Int32).toInt = 63 := by decide
  have zN : (0 : Int32).toNatClampNeg = 0 := by decide
  have hN := h.1.1
  have hcN : (A 13 0).toNatClampNeg = N := by rw [i_nat]; omega
  have hc := hM.1.1
  unfold deA deM
  by_cases c0 : isN i = 0
  · rw [if_pos c0, if_neg (io.mp c0)]
  rw [if_neg c0, if_pos (not_not_out (fun z => c0 (io.mpr z)))]
  by_cases c1 : isD s = 0
  · rw [if_pos c1, if_neg (so.mp c1)]
  rw [if_neg c1, if_pos (not_not_out (fun z => c1 (so.mpr z)))]
  have hp : isP p = 0 ↔ ¬ out p 1 63 = 0 := by
    rw [b01_z, b01_z, i_lt, i_le, i_lt, z1, z63]; omega
  by_cases c2 : isP p = 0
  · rw [if_pos c2, if_neg (hp.mp c2)]
  rw [if_neg c2, if_pos (not_not_out (fun z => c2 (hp.mpr z)))]
  have hi := vN c0
  have hs := b01_nz.mp c1
  have hmem := h.mem hV hi hs
  have hlen := h.len hV hi hs
  have hnd := h.2.1.2.2 _ (sdx_lt (vp_lt hi) s)
  have e1 := siq_none (A := A) (p := p) (f := fun o => shs A o) (ls (sdx i.toNatClampNeg s)) 0 (fun o ho => by
    have hm := (hmem o).mp ho
    have w := pw_t.mp hm.2
    have q := (h.1.2 o hm.1).2 w.1
    have r := shs_rng hM hN hm.1 w.1
    exact ⟨q.1, q.2.1 (fun z => z), r.1, r.2⟩) (by decide) (by rw [z0]; omega)
  have e2 := dmF_sum (A := A) i s p (A 13 0).toNatClampNeg 0 0 (by decide) (by rw [z0, hcN]; have := hc.2; omega) (fun j hj h7 => shs_rng hM hN (by rw [z0, hcN] at hj; omega) h7) (by rw [z0]; omega)
  apply Int32.toInt_inj.mp
  rw [sum_tie N _ hnd hmem, z0] at e1
  rw [hcN, zN, Nat.zero_add, z0] at e2
  rw [hcN, e1, e2]
  have : sgn (fun j => if A 4 j = p then (shs A j).toInt else 0) (pw A i s) 0 = 0 := rfl
  omega
/-- what stands ahead of one in its chain -/
theorem siq_some {x : Nat} {s : Int32} : ∀ (c : List Nat) (s0 : Int32), (∀ o ∈ c, I 5 o = A 4 o ∧ I 7 o = shs A o ∧ 0 ≤ (shs A o).toInt ∧ (shs A o).toInt ≤ 99) → Srt A s c → x ∈ c → 0 ≤ s0.toInt → s0.toInt + 99 * c.length < 2147483648 → (siq I (A 4 x) (some (0, x)) s0 c).toInt = s0.toInt + sumZ (fun o => if A 4 o = A 4 x then (if A 8 x ≤ A 8 o then 0 else (shs A o).toInt) else 0) c
  | [], _, _, _, hx, _, _ => absurd hx List.not_mem_nil
  | o :: c, s0, h, hc, hx, h0, h1 => by
    have ho := h o List.mem_cons_self
    have hr : ∀ x ∈ c, _ := fun x hx => h x (List.mem_cons_of_mem _ hx)
    rw [List.length_cons, Int.natCast_succ] at h1
    unfold siq sumZ
    by_cases e : o = x
    · subst e
      rw [if_pos rfl, if_pos rfl, if_pos (by rw [i_le]; omega), sumZ_0 (fun y hy => ?_)]
      · omega
      · by_cases c0 : A 4 y = A 4 o
        · rw [if_pos c0]
          rcases hc.1 y hy with q | ⟨-, q⟩
          · rw [c0] at q; exact absurd q btm_ir
          · rw [if_pos (by rw [i_le]; rw [i_lt] at q; omega)]
        · rw [if_neg c0]
    · have hx' : x ∈ c := (List.mem_cons.mp hx).resolve_left (fun z => e z.symm)
      rw [if_neg (fun z => e (by cases z; rfl)), ho.1, ho.2.1]
      by_cases c0 : A 4 o = A 4 x
      · have hlt : ¬ A 8 x ≤ A 8 o := by
          rcases hc.1 x hx' with q | ⟨-, q⟩
          · rw [c0] at q; exact absurd q btm_ir
          · rw [i_le]; rw [i_lt] at q; omega
        have e1 : (s0 + shs A o).toInt = s0.toInt + (shs A o).toInt := Kit.i32_add (by omega) (by omega)
        rw [if_pos c0, if_pos c0, if_neg hlt, siq_some c _ hr hc.2 hx' (by rw [e1]; omega) (by rw [e1]; omega), e1]
        omega
      · rw [if_neg c0, if_neg c0, siq_some c _ hr hc.2 hx' h0 (by omega)]
        omega
theorem ahF_sum (x : Int32) : ∀ (n : Nat) (o sm : Int32), 0 ≤ o.toInt → o.toInt + n ≤ 120 → (∀ j : Nat, (j : Int) < o.toInt + n → A 7 j = 0 → 0 ≤ (shs A j).toInt ∧ (shs A j).toInt ≤ 99) → (0 ≤ sm.toInt ∧ sm.toInt ≤ 99 * o.toInt) →
    (ahF A x n o sm).toInt = sm.toInt + (sgn (fun j => if A 4 j = A 4 x.toNatClampNeg then (if A 8 x.toNatClampNeg ≤ A 8 j then 0 else (shs A j).toInt) else 0) (pw A (A 1 x.toNatClampNeg) (A 2 x.toNatClampNeg)) (o.toNatClampNeg + n) - sgn (fun j => if A 4 j = A 4 x.toNatClampNeg then (if A 8 x.toNatClampNeg ≤ A 8 j then 0 else (shs A j).toInt) else 0) (pw A (A 1 x.toNatClampNeg) (A 2 x.toNatClampNeg)) o.toNatClampNeg)
  | 0, o, sm, _, _, _, _ => by
    show sm.toInt = _
    rw [Nat.add_zero]; omega
  | n + 1, o, sm, h0, h1, hr, hb => by
    have e := i_inc (p := o) (by omega) (by omega)
    have hoN : (o.toNatClampNeg : Int) = o.toInt := by rw [i_nat]; omega
    have eN : (o + Int32.ofInt 1).toNatClampNeg = o.toNatClampNeg + 1 := by rw [i_nat, e, i_nat]; omega
    have e3 : o.toNatClampNeg + 1 + n = o.toNatClampNeg + (n + 1) := by omega
    have z0 : (0 : Int32).toInt = 0 := by decide
    have hk := hr o.toNatClampNeg (by omega)
    obtain ⟨v, hv, ev⟩ : ∃ v : Int32, (0 ≤ v.toInt ∧ v.toInt ≤ 99 ∧ v.toInt = (if pw A (A 1 x.toNatClampNeg) (A 2 x.toNatClampNeg) o.toNatClampNeg = true then (if A 4 o.toNatClampNeg = A 4 x.toNatClampNeg then (if A 8 x.toNatClampNeg ≤ A 8 o.toNatClampNeg then 0 else (shs A o.toNatClampNeg).toInt) else 0) else 0)) ∧ (if b01 (wts A o.toNatClampNeg (A 1 x.toNatClampNeg) (A 2 x.toNatClampNeg)) = 0 then 0 else if A 4 o.toNatClampNeg = A 4 x.toNatClampNeg then (if A 8 x.toNatClampNeg ≤ A 8 o.toNatClampNeg then 0 else shs A o.toNatClampNeg) else 0) = v := by
      refine ⟨_, ?_, rfl⟩
      by_cases c : wts A o.toNatClampNeg (A 1 x.toNatClampNeg) (A 2 x.toNatClampNeg)
      · rw [if_neg (b01_nz.mpr c), if_pos (pw_t.mpr c)]
        have hk := hk c.1
        by_cases d : A 4 o.toNatClampNeg = A 4 x.toNatClampNeg
        · rw [if_pos d, if_pos d]
          by_cases f : A 8 x.toNatClampNeg ≤ A 8 o.toNatClampNeg
          · rw [if_pos f, if_pos f]; omega
          · rw [if_neg f, if_neg f]; omega
        · rw [if_neg d, if_neg d]; omega
      · rw [if_pos (b01_z.mpr c), if_neg (fun z => c (pw_t.mp z))]; omega
    have es : (sm + v).toInt = sm.toInt + v.toInt := Kit.i32_add (by omega) (by omega)
    have ih := ahF_sum x n (o + Int32.ofInt 1) (sm + v) (by rw [e]; omega) (by rw [e]; omega) (fun j hj => hr j (by rw [e] at hj; omega)) (by rw [es, e]; omega)
    unfold ahF
    rw [ev, ih, eN, e3, es]
    have u0 : sgn (fun j => if A 4 j = A 4 x.toNatClampNeg then (if A 8 x.toNatClampNeg ≤ A 8 j then 0 else (shs A j).toInt) else 0) (pw A (A 1 x.toNatClampNeg) (A 2 x.toNatClampNeg)) (o.toNatClampNeg + 1) = sgn (fun j => if A 4 j = A 4 x.toNatClampNeg then (if A 8 x.toNatClampNeg ≤ A 8 j then 0 else (shs A j).toInt) else 0) (pw A (A 1 x.toNatClampNeg) (A 2 x.toNatClampNeg)) o.toNatClampNeg + (if pw A (A 1 x.toNatClampNeg) (A 2 x.toNatClampNeg) o.toNatClampNeg = true then (if A 4 o.toNatClampNeg = A 4 x.toNatClampNeg then (if A 8 x.toNatClampNeg ≤ A 8 o.toNatClampNeg then 0 else (shs A o.toNatClampNeg).toInt) else 0) else 0) := rfl
    rw [u0, ← hv.2.2]; omega
theorem ah_eq (h : TX N (I, J, V, ls) (A, B) t) (hV : CV N I ls t) (hM : MV A t) (x : Int32) : ahA I ls x = ahM A x := by
  have hT : Tie nE N I J V ls A B := h.1
  have z0 : (0 : Int32).toInt = 0 := by decide
  have zN : (0 : Int32).toNatClampNeg = 0 := by decide
  have hN : (A 13 0).toInt = N := hT.1.1
  have hcN : (A 13 0).toNatClampNeg = N := by rw [i_nat]; omega
  have hc := hM.1.1
  have hf := fo hT hV hM x
  unfold ahA ahM
  by_cases c : fnd I x = none
  · rw [if_pos c, if_pos (by unfold rsM; rw [if_neg (hf.mp c)])]
  · have c' := not_not_out (fun w => c (hf.mpr w))
    have hx := vOc hM.1.1 c'
    have hlt : x.toNatClampNeg < N := by rw [i_nat]; omega
    have q := hT.1.2 _ hlt
    have n3 : ¬ A 7 x.toNatClampNeg = 3 := h.2.1 _ hlt
    have e8 := q.1.2.2.2.2.2.2
    rw [if_neg n3] at e8
    rw [if_neg c, e8]
    by_cases d : A 7 x.toNatClampNeg = 0
    · have hi : vp_in (A 1 x.toNatClampNeg) 2 := by rw [← q.1.2.2.1]; exact (hV.1.1 _ hlt).2.1
      have hs : A 2 x.toNatClampNeg = 0 ∨ A 2 x.toNatClampNeg = 1 := by rw [← q.1.2.2.2.1]; exact (hV.1.1 _ hlt).2.2.1
      have hmem := hT.mem hV hi hs
      have hlen := hT.len hV hi hs
      have hj := sdx_lt (vp_lt hi) (A 2 x.toNatClampNeg)
      have hnd := hT.2.1.2.2 _ hj
      have hsr := hT.2.1.srt hj
      rw [if_pos d, if_neg (by unfold rsM; rw [if_pos c', if_pos d]; decide), q.1.2.2.1, q.1.2.2.2.1, (q.2 d).1]
      have e1 := siq_some (I := I) (A := A) (x := x.toNatClampNeg) (ls (sdx (A 1 x.toNatClampNeg).toNatClampNeg (A 2 x.toNatClampNeg))) 0 (fun o ho => by
        have hm := (hmem o).mp ho
        have w := pw_t.mp hm.2
        have q := (hT.1.2 o hm.1).2 w.1
        have r := shs_rng hM hN hm.1 w.1
        exact ⟨q.1, q.2.1 (fun z => z), r.1, r.2⟩) hsr ((hmem _).mpr ⟨hlt, pw_t.mpr ⟨d, rfl, rfl⟩⟩) (by decide) (by rw [z0]; omega)
      have e2 := ahF_sum (A := A) x (A 13 0).toNatClampNeg 0 0 (by decide) (by rw [z0, hcN]; have := hc.2; omega) (fun j hj h7 => shs_rng hM hN (by rw [z0, hcN] at hj; omega) h7) (by rw [z0]; omega)
      apply Int32.toInt_inj.mp
      rw [sum_tie N _ hnd hmem, z0] at e1
      rw [hcN, zN, Nat.zero_add, z0] at e2
      rw [hcN, e1, e2]
      have : ∀ (f : Nat → Int) (p : Nat → Bool), sgn f p 0 = 0 := fun _ _ => rfl
      rw [this]
      omega
    · rw [if_neg d, if_pos (by unfold rsM; rw [if_pos c', if_neg d])]
end TIE17
