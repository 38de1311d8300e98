section TIE18
variable {N : Nat} {I : Nat → Nat → Int32} {J : Nat → Nat → Int64} {P : Nat → Nat → Option xQ} {V : Nat → Nat → Int32} {ls : Nat → List Nat} {A : Nat → Nat → Int32} {B : Nat → Nat → Int64} {t : Int} {E : Nat → Prop}
/-- what an order that waits at a price as good brings -/
def fw (A : Nat → Nat → Int32) (s q : Int32) (j : Nat) : Int := if btm s q (A 4 j) then 0 else (A 5 j).toInt
theorem wlF_sum (i s q : Int32) : ∀ (n : Nat) (o sm : Int32), 0 ≤ o.toInt → o.toInt + n ≤ 120 → (∀ j : Nat, (j : Int) < o.toInt + n → 0 ≤ (A 5 j).toInt ∧ (A 5 j).toInt ≤ 99) → (0 ≤ sm.toInt ∧ sm.toInt ≤ 99 * o.toInt) →
    (wlF A i s q n o sm).toInt = sm.toInt + (sgn (fw A s q) (pw A i s) (o.toNatClampNeg + n) - sgn (fw A s q) (pw A i s) o.toNatClampNeg)
  | 0, o, sm, _, _, _, _ => by
    show sm.toInt = _
    rw [Nat.add_zero]; omega
  | n + 1, o, sm, h0, h1, hr, hb => by
    have e := i_inc (p := o) (by omega) (by omega)
    have hoN : (o.toNatClampNeg : Int) = o.toInt := by rw [i_nat]; omega
    have eN : (o + Int32.ofInt 1).toNatClampNeg = o.toNatClampNeg + 1 := by rw [i_nat, e, i_nat]; omega
    have e3 : o.toNatClampNeg + 1 + n = o.toNatClampNeg + (n + 1) := by omega
    have z0 : (0 : Int32).toInt = 0 := by decide
    have hk := hr o.toNatClampNeg (by omega)
    obtain ⟨v, hv, ev⟩ : ∃ v : Int32, (0 ≤ v.toInt ∧ v.toInt ≤ 99 ∧ v.toInt = (if pw A i s o.toNatClampNeg = true then fw A s q o.toNatClampNeg else 0)) ∧ (if b01 (wts A o.toNatClampNeg i s) = 0 then 0 else if b01 (btm s q (A 4 o.toNatClampNeg)) = 0 then A 5 o.toNatClampNeg else 0) = v := by
      refine ⟨_, ?_, rfl⟩
      by_cases c : wts A o.toNatClampNeg i s
      · rw [if_neg (b01_nz.mpr c), if_pos (pw_t.mpr c)]
        unfold fw
        by_cases d : btm s q (A 4 o.toNatClampNeg)
        · rw [if_pos d, if_neg (b01_nz.mpr d)]; omega
        · rw [if_neg d, if_pos (b01_z.mpr d)]; omega
      · rw [if_pos (b01_z.mpr c), if_neg (fun z => c (pw_t.mp z))]; omega
    have es : (sm + v).toInt = sm.toInt + v.toInt := Kit.i32_add (by omega) (by omega)
    have ih := wlF_sum i s q n (o + Int32.ofInt 1) (sm + v) (by rw [e]; omega) (by rw [e]; omega) (fun j hj => hr j (by rw [e] at hj; omega)) (by rw [es, e]; omega)
    unfold wlF
    rw [ev, ih, eN, e3, es]
    have u0 : sgn (fw A s q) (pw A i s) (o.toNatClampNeg + 1) = sgn (fw A s q) (pw A i s) o.toNatClampNeg + (if pw A i s o.toNatClampNeg = true then fw A s q o.toNatClampNeg else 0) := rfl
    rw [u0, ← hv.2.2]; omega
theorem wl_sum (hM : MV A t) (hN : (A 13 0).toInt = N) (i s q : Int32) : (wl A i s q).toInt = sgn (fw A s q) (pw A i s) N := by
  have z0 : (0 : Int32).toInt = 0 := by decide
  have zN : (0 : Int32).toNatClampNeg = 0 := by decide
  have hcN : (A 13 0).toNatClampNeg = N := by rw [i_nat]; omega
  have hc := hM.1.1
  have e := wlF_sum (A := A) i s q (A 13 0).toNatClampNeg 0 0 (by decide) (by rw [z0, hcN]; have := hc.2; omega) (fun j hj => by have := hM.2.1 j (by rw [z0, hcN] at hj; omega); exact ⟨this.1, this.2.1⟩) (by rw [z0]; omega)
  rw [hcN, zN, Nat.zero_add, z0] at e
  unfold wl
  rw [hcN, e]
  have : sgn (fw A s q) (pw A i s) 0 = 0 := rfl
  omega
theorem sumZ_add {f g h : Nat → Int} : ∀ {c : List Nat}, (∀ o ∈ c, h o = f o + g o) → sumZ h c = sumZ f c + sumZ g c
  | [], _ => rfl
  | o :: c, hh => by
    unfold sumZ
    rw [hh o List.mem_cons_self, sumZ_add (fun x hx => hh x (List.mem_cons_of_mem _ hx))]; omega
/-- the table's base: what waits at just one limit -/
theorem wgB_sum {c0 : Nat} (hc : c0 = 15 ∨ c0 = 16) {l f : Nat → Int32} : ∀ (c : List Nat) (W : Nat → Nat → Int32) (k : Nat), (∀ o ∈ c, W 5 o = l o ∧ W 6 o = f o ∧ 0 ≤ (f o).toInt ∧ (f o).toInt ≤ 99) → 0 ≤ (W c0 k).toInt → (W c0 k).toInt + 99 * c.length < 2147483648 → (wgB c0 W c c0 k).toInt = (W c0 k).toInt + sumZ (fun o => if (l o).toNatClampNeg = k then (f o).toInt else 0) c
  | [], W, k, _, _, _ => by simp [wgB, sumZ]
  | o :: c, W, k, h, h0, h1 => by
    have ho := h o List.mem_cons_self
    rw [List.length_cons, Int.natCast_succ] at h1
    show (wgB c0 (si W c0 (W 5 o).toNatClampNeg (W c0 (W 5 o).toNatClampNeg + W 6 o)) c c0 k).toInt = (W c0 k).toInt + ((if (l o).toNatClampNeg = k then (f o).toInt else 0) + sumZ _ c)
    rw [ho.1, ho.2.1]
    have hr : ∀ x ∈ c, si W c0 (l o).toNatClampNeg (W c0 (l o).toNatClampNeg + f o) 5 x = l x ∧ si W c0 (l o).toNatClampNeg (W c0 (l o).toNatClampNeg + f o) 6 x = f x ∧ 0 ≤ (f x).toInt ∧ (f x).toInt ≤ 99 := fun x hx => by
      rw [si_c (by omega), si_c (by omega)]
      exact h x (List.mem_cons_of_mem _ hx)
    have e : (si W c0 (l o).toNatClampNeg (W c0 (l o).toNatClampNeg + f o) c0 k).toInt = (W c0 k).toInt + (if (l o).toNatClampNeg = k then (f o).toInt else 0) := by
      by_cases ck : (l o).toNatClampNeg = k
      · rw [ck, if_pos rfl, si_eq, Kit.i32_add (by omega) (by omega)]
      · rw [if_neg ck, si_k (fun z => ck z.symm)]; omega
    have hb : 0 ≤ (if (l o).toNatClampNeg = k then (f o).toInt else 0) ∧ (if (l o).toNatClampNeg = k then (f o).toInt else 0) ≤ 99 := by split <;> omega
    rw [wgB_sum hc c _ k hr (by rw [e]; omega) (by rw [e]; omega), e]
    omega
theorem cumB_rec : ∀ (n : Nat) (p : Int32) (W : Nat → Nat → Int32), p.toInt = n → n ≤ 63 → (∀ k, n < k → cumB n p W 15 k = W 15 k) ∧ ∀ k, 1 ≤ k → k ≤ n → cumB n p W 15 k = W 15 k + cumB n p W 15 (k + 1)
  | 0, p, W, _, _ => ⟨fun _ _ => rfl, fun k h1 h2 => by omega⟩
  | n + 1, p, W, hp, hn => by
    have e1 := i_dec (p := p) (by omega)
    have pN : p.toNatClampNeg = n + 1 := by rw [i_nat]; omega
    have p1 : (p + 1).toNatClampNeg = n + 2 := by rw [i_nat, i_p1 (by omega) (by omega)]; omega
    have ih := cumB_rec n (p + Int32.ofInt (-1)) (si W 15 p.toNatClampNeg (W 15 p.toNatClampNeg + W 15 (p + 1).toNatClampNeg)) (by omega) (by omega)
    unfold cumB
    rw [pN, p1] at ih ⊢
    generalize cumB n (p + Int32.ofInt (-1)) (si W 15 (n + 1) (W 15 (n + 1) + W 15 (n + 2))) = R at ih ⊢
    refine ⟨fun k hk => ?_, fun k h1 h2 => ?_⟩
    · rw [ih.1 k (by omega), si_k (by omega)]
    · by_cases c : k = n + 1
      · subst c
        rw [ih.1 (n + 1) (by omega), ih.1 (n + 1 + 1) (by omega), si_eq, si_k (by omega)]
      · rw [ih.2 k h1 (by omega), si_k c]
theorem cumS_rec : ∀ (n : Nat) (p : Int32) (W : Nat → Nat → Int32), 1 ≤ p.toInt → p.toInt + n ≤ 64 → (∀ k, k < p.toNatClampNeg ∨ p.toNatClampNeg + n ≤ k → cumS n p W 16 k = W 16 k) ∧ ∀ k, p.toNatClampNeg ≤ k → k < p.toNatClampNeg + n → cumS n p W 16 k = W 16 k + cumS n p W 16 (k - 1)
  | 0, p, W, _, _ => ⟨fun _ _ => rfl, fun k h1 h2 => by omega⟩
  | n + 1, p, W, hp, hn => by
    have e1 := i_inc (p := p) (by omega) (by omega)
    have pN : (p + Int32.ofInt 1).toNatClampNeg = p.toNatClampNeg + 1 := by rw [i_nat, e1, i_nat]; omega
    have p1 : (p - 1).toNatClampNeg = p.toNatClampNeg - 1 := by rw [i_nat, i_m1 (by omega), i_nat]; omega
    have pos : 1 ≤ p.toNatClampNeg := by rw [i_nat]; omega
    have ih := cumS_rec n (p + Int32.ofInt 1) (si W 16 p.toNatClampNeg (W 16 p.toNatClampNeg + W 16 (p - 1).toNatClampNeg)) (by omega) (by omega)
    unfold cumS
    rw [pN, p1] at ih
    rw [p1]
    generalize cumS n (p + Int32.ofInt 1) (si W 16 p.toNatClampNeg (W 16 p.toNatClampNeg + W 16 (p.toNatClampNeg - 1))) = R at ih ⊢
    generalize p.toNatClampNeg = a at *
    refine ⟨fun k hk => ?_, fun k h1 h2 => ?_⟩
    · rw [ih.1 k (by omega), si_k (by omega)]
    · by_cases c : k = a
      · subst c
        rw [ih.1 k (by omega), ih.1 (k - 1) (by omega), si_eq, si_k (by omega)]
      · rw [ih.2 k (by omega) (by omega), si_k c]
/-- bought from the top: the table against a sum -/
theorem down_sum {R W : Nat → Int32} {Z : Nat → Int} {b : Int} (hb : b < 2147483648) (hR : ∀ k, 1 ≤ k → k ≤ 63 → R k = W k + R (k + 1)) (h64 : (R 64).toInt = Z 64) (hZ : ∀ k, 1 ≤ k → k ≤ 63 → Z k = (W k).toInt + Z (k + 1)) (hr : ∀ k, 0 ≤ Z k ∧ Z k ≤ b) : ∀ n k : Nat, k + n = 64 → 1 ≤ k → (R k).toInt = Z k
  | 0, k, h, _ => by have : k = 64 := by omega
                     subst this; exact h64
  | n + 1, k, h, h1 => by
    have ih := down_sum hb hR h64 hZ hr n (k + 1) (by omega) (by omega)
    have z := hZ k h1 (by omega)
    have r0 := hr k
    rw [hR k h1 (by omega), Kit.i32_add (by rw [ih]; omega) (by rw [ih]; omega), ih, z]
theorem up_sum {R W : Nat → Int32} {Z : Nat → Int} {b : Int} (hb : b < 2147483648) (hR : ∀ k, 1 ≤ k → k ≤ 63 → R k = W k + R (k - 1)) (h0 : (R 0).toInt = Z 0) (hZ : ∀ k, 1 ≤ k → k ≤ 63 → Z k = (W k).toInt + Z (k - 1)) (hr : ∀ k, 0 ≤ Z k ∧ Z k ≤ b) : ∀ k : Nat, k ≤ 63 → (R k).toInt = Z k
  | 0, _ => h0
  | k + 1, h => by
    have ih := up_sum hb hR h0 hZ hr k (by omega)
    have z := hZ (k + 1) (by omega) h
    have r0 := hr (k + 1)
    have e : k + 1 - 1 = k := by omega
    rw [e] at z
    have rr := hR (k + 1) (by omega) h
    rw [e] at rr
    rw [rr, Kit.i32_add (by rw [ih]; omega) (by rw [ih]; omega), ih, z]
end TIE18
