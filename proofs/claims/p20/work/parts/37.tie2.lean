section TIE2
def sumZ (f : Nat → Int) : List Nat → Int
  | [] => 0
  | o :: c => f o + sumZ f c
theorem sumZ_perm {f : Nat → Int} {l l' : List Nat} (h : l.Perm l') : sumZ f l = sumZ f l' := by
  induction h with
  | nil => rfl
  | cons x _ ih => unfold sumZ; rw [ih]
  | swap x y l => unfold sumZ; unfold sumZ; omega
  | trans _ _ ih1 ih2 => exact ih1.trans ih2
theorem sumZ_rng {f : Nat → Int} {b : Int} : ∀ {c : List Nat}, (∀ o ∈ c, 0 ≤ f o ∧ f o ≤ b) → 0 ≤ sumZ f c ∧ sumZ f c ≤ b * c.length
  | [], _ => ⟨Int.le_refl _, by simp [sumZ]⟩
  | o :: c, h => by
    have ih := sumZ_rng (fun x hx => h x (List.mem_cons_of_mem _ hx))
    have ho := h o List.mem_cons_self
    unfold sumZ
    rw [List.length_cons, Int.natCast_succ, Int.mul_add, Int.mul_one]
    omega
theorem sumZ_re {f g : Nat → Int} : ∀ {c : List Nat}, (∀ o ∈ c, f o = g o) → sumZ f c = sumZ g c
  | [], _ => rfl
  | o :: c, h => by
    unfold sumZ
    rw [h o List.mem_cons_self, sumZ_re (fun x hx => h x (List.mem_cons_of_mem _ hx))]
/-- a sum over the numbers below N that fulfil p -/
def sgn (f : Nat → Int) (p : Nat → Bool) : Nat → Int
  | 0 => 0
  | c + 1 => sgn f p c + (if p c = true then f c else 0)
theorem sum_tie {f : Nat → Int} {p : Nat → Bool} : ∀ (N : Nat) (c : List Nat), c.Nodup → (∀ k, k ∈ c ↔ k < N ∧ p k = true) → sumZ f c = sgn f p N
  | 0, c, _, hm => by
    cases c with
    | nil => rfl
    | cons o c => exact absurd ((hm o).mp List.mem_cons_self).1 (Nat.not_lt_zero _)
  | N + 1, c, hn, hm => by
    unfold sgn
    by_cases hp : p N = true
    · have hN : N ∈ c := (hm N).mpr ⟨Nat.lt_succ_self N, hp⟩
      have h1 := sumZ_perm (f := f) (List.perm_cons_erase hN)
      have ih := sum_tie (f := f) (p := p) N (c.erase N) (hn.erase N) (fun k => by
        rw [List.Nodup.mem_erase_iff hn, hm k]
        constructor
        · rintro ⟨a, b, d⟩; exact ⟨by omega, d⟩
        · rintro ⟨a, d⟩; exact ⟨by omega, by omega, d⟩)
      rw [h1, if_pos hp, ← ih]
      show f N + sumZ f (c.erase N) = _
      omega
    · rw [if_neg hp, sum_tie (f := f) (p := p) N c hn (fun k => by
        rw [hm k]
        constructor
        · rintro ⟨a, d⟩
          refine ⟨?_, d⟩
          by_cases hk : k = N
          · subst hk; exact absurd d hp
          · omega
        · rintro ⟨a, d⟩; exact ⟨by omega, d⟩)]
      omega
/-- what a member has left on a chain, as a sum -/
theorem lfo_sum {I : Nat → Nat → Int32} (m : Int32) : ∀ (c : List Nat) (s : Int32), (∀ o ∈ c, 0 ≤ (I 6 o).toInt ∧ (I 6 o).toInt ≤ 99) → 0 ≤ s.toInt → s.toInt + 99 * c.length < 2147483648 → (lfo I m s c).toInt = s.toInt + sumZ (fun o => if I 1 o = m then (I 6 o).toInt else 0) c
  | [], s, _, _, _ => by simp [lfo, sumZ]
  | o :: c, s, h, h0, h1 => by
    have ho := h o List.mem_cons_self
    rw [List.length_cons, Int.natCast_succ] at h1
    unfold lfo sumZ
    by_cases hm : I 1 o = m
    · have e : (s + I 6 o).toInt = s.toInt + (I 6 o).toInt := Kit.i32_add (by omega) (by omega)
      rw [if_pos hm, lfo_sum m c _ (fun x hx => h x (List.mem_cons_of_mem _ hx)) (by rw [e]; omega) (by rw [e]; omega), e]
      simp only [if_pos hm]
      omega
    · rw [if_neg hm, lfo_sum m c _ (fun x hx => h x (List.mem_cons_of_mem _ hx)) h0 (by omega)]
      simp only [if_neg hm]
      omega
/-- an order of the member m that rests on the side sd of the instrument k -/
def prM (A : Nat → Nat → Int32) (m k sd : Int32) (j : Nat) : Bool := A 0 j == m && (A 7 j == 0 && (A 1 j == k && A 2 j == sd))
theorem prM_t {A : Nat → Nat → Int32} {m k sd : Int32} {j : Nat} : prM A m k sd j = true ↔ A 0 j = m ∧ A 7 j = 0 ∧ A 1 j = k ∧ A 2 j = sd := by
  simp [prM]
/-- the reference's sums of a member, by instrument -/
theorem riF_sum {A : Nat → Nat → Int32} (m k : Int32) : ∀ (n : Nat) (o : Int32) (b s : Int64), 0 ≤ o.toInt → o.toInt + n ≤ 120 → (∀ j : Nat, (j : Int) < o.toInt + n → 0 ≤ (A 5 j).toInt ∧ (A 5 j).toInt ≤ 99) → (0 ≤ b.toInt ∧ b.toInt ≤ 1000 + 99 * o.toInt) → (0 ≤ s.toInt ∧ s.toInt ≤ 1000 + 99 * o.toInt) →
    ((riF A m k n o b s).1.toInt = b.toInt + (sgn (fun j => (A 5 j).toInt) (prM A m k 0) (o.toNatClampNeg + n) - sgn (fun j => (A 5 j).toInt) (prM A m k 0) o.toNatClampNeg)) ∧
    ((riF A m k n o b s).2.toInt = s.toInt + (sgn (fun j => (A 5 j).toInt) (prM A m k 1) (o.toNatClampNeg + n) - sgn (fun j => (A 5 j).toInt) (prM A m k 1) o.toNatClampNeg))
  | 0, o, b, s, _, _, _, _, _ => by
    constructor
    · show b.toInt = _
      rw [Nat.add_zero]; omega
    · show s.toInt = _
      rw [Nat.add_zero]; omega
  | n + 1, o, b, s, h0, h1, hr, hb, hs => by
    have e := i_inc (p := o) (by omega) (by omega)
    have hoN : (o.toNatClampNeg : Int) = o.toInt := by rw [i_nat]; omega
    have eN : (o + Int32.ofInt 1).toNatClampNeg = o.toNatClampNeg + 1 := by rw [i_nat, e, i_nat]; omega
    have hk := hr o.toNatClampNeg (by omega)
    have e3 : o.toNatClampNeg + 1 + n = o.toNatClampNeg + (n + 1) := by omega
    have z0 : (0 : Int64).toInt = 0 := by decide
    have ej : (A 5 o.toNatClampNeg).toInt64.toInt = (A 5 o.toNatClampNeg).toInt := Kit.i64_of_i32 _
    obtain ⟨b', s', eb, es, er⟩ : ∃ b' s' : Int64, b'.toInt = b.toInt + (if prM A m k 0 o.toNatClampNeg = true then (A 5 o.toNatClampNeg).toInt else 0) ∧ s'.toInt = s.toInt + (if prM A m k 1 o.toNatClampNeg = true then (A 5 o.toNatClampNeg).toInt else 0) ∧ riF A m k (n + 1) o b s = riF A m k n (o + Int32.ofInt 1) b' s' := by
      have out : ¬ (A 0 o.toNatClampNeg = m ∧ A 7 o.toNatClampNeg = 0 ∧ A 1 o.toNatClampNeg = k) → ∀ sd : Int32, ¬ prM A m k sd o.toNatClampNeg = true := fun q sd z => q (by have := prM_t.mp z; exact ⟨this.1, this.2.1, this.2.2.1⟩)
      by_cases c0 : A 0 o.toNatClampNeg = m
      · by_cases c7 : A 7 o.toNatClampNeg = 0
        · by_cases c1 : A 1 o.toNatClampNeg = k
          · refine ⟨b + (if A 2 o.toNatClampNeg = 0 then (A 5 o.toNatClampNeg).toInt64 else 0), s + (if A 2 o.toNatClampNeg = 1 then (A 5 o.toNatClampNeg).toInt64 else 0), ?_, ?_, by simp only [riF, if_pos c0, if_pos c7, if_pos c1]⟩
            · by_cases c2 : A 2 o.toNatClampNeg = 0
              · rw [if_pos c2, if_pos (prM_t.mpr ⟨c0, c7, c1, c2⟩), Kit.i64_add (by rw [ej]; omega) (by rw [ej]; omega), ej]
              · rw [if_neg c2, if_neg (fun z => c2 (prM_t.mp z).2.2.2), Kit.i64_add (by omega) (by omega), z0]
            · by_cases c2 : A 2 o.toNatClampNeg = 1
              · rw [if_pos c2, if_pos (prM_t.mpr ⟨c0, c7, c1, c2⟩), Kit.i64_add (by rw [ej]; omega) (by rw [ej]; omega), ej]
              · rw [if_neg c2, if_neg (fun z => c2 (prM_t.mp z).2.2.2), Kit.i64_add (by omega) (by omega), z0]
          · have q := out (fun z => c1 z.2.2)
            exact ⟨b, s, by rw [if_neg (q 0)]; omega, by rw [if_neg (q 1)]; omega, by simp only [riF, if_pos c0, if_pos c7, if_neg c1]⟩
        · have q := out (fun z => c7 z.2.1)
          exact ⟨b, s, by rw [if_neg (q 0)]; omega, by rw [if_neg (q 1)]; omega, by simp only [riF, if_pos c0, if_neg c7]⟩
      · have q := out (fun z => c0 z.1)
        exact ⟨b, s, by rw [if_neg (q 0)]; omega, by rw [if_neg (q 1)]; omega, by simp only [riF, if_neg c0]⟩
    have hb' : 0 ≤ b'.toInt ∧ b'.toInt ≤ 1000 + 99 * (o + Int32.ofInt 1).toInt := by rw [eb, e]; split <;> omega
    have hs' : 0 ≤ s'.toInt ∧ s'.toInt ≤ 1000 + 99 * (o + Int32.ofInt 1).toInt := by rw [es, e]; split <;> omega
    have ih := riF_sum m k n (o + Int32.ofInt 1) b' s' (by rw [e]; omega) (by rw [e]; omega) (fun j hj => hr j (by rw [e] at hj; omega)) hb' hs'
    rw [eN, e3] at ih
    have u0 : sgn (fun j => (A 5 j).toInt) (prM A m k 0) (o.toNatClampNeg + 1) = sgn (fun j => (A 5 j).toInt) (prM A m k 0) o.toNatClampNeg + (if prM A m k 0 o.toNatClampNeg = true then (A 5 o.toNatClampNeg).toInt else 0) := rfl
    have u1 : sgn (fun j => (A 5 j).toInt) (prM A m k 1) (o.toNatClampNeg + 1) = sgn (fun j => (A 5 j).toInt) (prM A m k 1) o.toNatClampNeg + (if prM A m k 1 o.toNatClampNeg = true then (A 5 o.toNatClampNeg).toInt else 0) := rfl
    rw [er]
    refine ⟨?_, ?_⟩
    · rw [ih.1, eb, u0]; omega
    · rw [ih.2, es, u1]; omega
end TIE2
