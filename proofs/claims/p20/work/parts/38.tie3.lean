section TIE3
variable {N : Nat} {I : Nat → Nat → Int32} {J : Nat → Nat → Int64} {V : Nat → Nat → Int32} {ls : Nat → List Nat} {A : Nat → Nat → Int32} {B : Nat → Nat → Int64} {t : Int} {E : Nat → Prop}
/-- orders of class and reference; E: those whose shown part may differ -/
def tiO (E : Nat → Prop) (N : Nat) (I A : Nat → Nat → Int32) : Prop :=
  (A 13 0).toInt = N ∧ ∀ k, k < N → (I 0 k = Int32.ofNat k ∧ I 1 k = A 0 k ∧ I 2 k = A 1 k ∧ I 3 k = A 2 k ∧ I 4 k = A 3 k ∧ I 6 k = A 5 k ∧ I 8 k = (if A 7 k = 3 then 0 else A 7 k)) ∧ (A 7 k = 0 → I 5 k = A 4 k ∧ (¬ E k → I 7 k = shs A k) ∧ (A 8 k).toInt < (A 14 0).toInt)
/-- chains against the reference's waiting orders -/
def tiL (N : Nat) (ls : Nat → List Nat) (A : Nat → Nat → Int32) : Prop :=
  (∀ j, j < 4 → ∀ o, o ∈ ls j ↔ o < N ∧ A 7 o = 0 ∧ sdx (A 1 o).toNatClampNeg (A 2 o) = j)
  ∧ (∀ i, i < 2 → Srt A 0 (ls (2 * i)) ∧ Srt A 1 (ls (2 * i + 1)))
  ∧ ∀ j, j < 4 → (ls j).Nodup
/-- accounts, flags, reference prices and the tape -/
def tiA (I : Nat → Nat → Int32) (J : Nat → Nat → Int64) (V : Nat → Nat → Int32) (A : Nat → Nat → Int32) (B : Nat → Nat → Int64) : Prop :=
  (∀ m, m < 5 → J 0 m = B 0 m ∧ J 1 m = B 1 m ∧ ∀ i, i < 2 → V m i = A 9 (2 * m + i))
  ∧ (∀ i, i < 2 → I 10 i = A 10 i ∧ I 11 i = A 11 i)
  ∧ I 13 0 = A 15 0 ∧ ∀ r, r < 400 → I 14 r = A 12 r
/-- the tie of class and reference -/
def Tie (E : Nat → Prop) (N : Nat) (I : Nat → Nat → Int32) (J : Nat → Nat → Int64) (V : Nat → Nat → Int32) (ls : Nat → List Nat) (A : Nat → Nat → Int32) (B : Nat → Nat → Int64) : Prop := tiO E N I A ∧ tiL N ls A ∧ tiA I J V A B
theorem sgn_re {f g : Nat → Int} {p q : Nat → Bool} : ∀ c : Nat, (∀ k < c, (if p k = true then f k else 0) = (if q k = true then g k else 0)) → sgn f p c = sgn g q c
  | 0, _ => rfl
  | c + 1, h => by
    unfold sgn
    rw [sgn_re c (fun k hk => h k (Nat.lt_succ_of_lt hk)), h c (Nat.lt_succ_self c)]
theorem sgn_one {p : Nat → Bool} : ∀ c : Nat, sgn (fun _ => 1) p c ≤ c
  | 0 => Int.le_refl _
  | c + 1 => by
    have := sgn_one (p := p) c
    unfold sgn
    split <;> omega
theorem sumZ_one : ∀ c : List Nat, sumZ (fun _ => 1) c = c.length
  | [] => rfl
  | o :: c => by
    unfold sumZ
    rw [sumZ_one c, List.length_cons]
    omega
/-- the orders that wait on a side -/
def pw (A : Nat → Nat → Int32) (i s : Int32) (j : Nat) : Bool := A 7 j == 0 && (A 1 j == i && A 2 j == s)
theorem pw_t {i s : Int32} {j : Nat} : pw A i s j = true ↔ wts A j i s := by
  simp [pw, wts]
/-- a chain holds just the orders that wait on its side -/
theorem Tie.mem (h : Tie E N I J V ls A B) (hV : CV N I ls t) {i s : Int32} (hi : vp_in i 2) (hs : s = 0 ∨ s = 1) : ∀ k, k ∈ ls (sdx i.toNatClampNeg s) ↔ k < N ∧ pw A i s k = true := by
  intro k
  rw [h.2.1.1 _ (sdx_lt (vp_lt hi) s) k, pw_t]
  constructor
  · rintro ⟨a, b, c⟩
    have ok := hV.1.1 k a
    have e := (h.1.2 k a).1
    have h2 := vp_to ok.2.1
    have hii := vp_to hi
    rw [e.2.2.1] at h2
    have h3 := ok.2.2.1
    rw [e.2.2.2.1] at h3
    have c' : sdx (A 1 k).toNatClampNeg (A 2 k) = sdx i.toNatClampNeg s := c
    unfold sdx at c'
    have n1 := i_nat (A 1 k)
    have n2 := i_nat i
    have ne : ¬ (1 : Int32) = 0 := by decide
    rcases h3 with h3 | h3 <;> rcases hs with hs | hs <;> subst hs <;> rw [h3] at c'
    · simp only [if_true] at c'
      exact ⟨a, b, Int32.toInt_inj.mp (by omega), h3⟩
    · rw [if_pos rfl, if_neg ne] at c'; omega
    · rw [if_neg ne, if_pos rfl] at c'; omega
    · rw [if_neg ne, if_neg ne] at c'
      exact ⟨a, b, Int32.toInt_inj.mp (by omega), h3⟩
  · rintro ⟨a, b, c, d⟩
    exact ⟨a, b, by rw [c, d]⟩
theorem Tie.len (h : Tie E N I J V ls A B) (hV : CV N I ls t) {i s : Int32} (hi : vp_in i 2) (hs : s = 0 ∨ s = 1) : (ls (sdx i.toNatClampNeg s)).length ≤ 120 := by
  have h1 := sum_tie (f := fun _ => 1) N _ (h.2.1.2.2 _ (sdx_lt (vp_lt hi) s)) (h.mem hV hi hs)
  rw [sumZ_one] at h1
  have h2 := sgn_one (p := pw A i s) N
  have h3 := hV.2.2.1
  omega
/-- what a member has left on a side: the class's sum is the reference's -/
theorem Tie.left (h : Tie E N I J V ls A B) (hV : CV N I ls t) (hM : MV A t) {m i s : Int32} (hi : vp_in i 2) (hs : s = 0 ∨ s = 1) : (lfo I m 0 (ls (sdx i.toNatClampNeg s))).toInt = sgn (fun j => (A 5 j).toInt) (prM A m i s) N := by
  have hmem := h.mem hV hi hs
  have hN := h.1.1
  have hr : ∀ o ∈ ls (sdx i.toNatClampNeg s), 0 ≤ (I 6 o).toInt ∧ (I 6 o).toInt ≤ 99 := fun o ho => by
    have a := (hmem o).mp ho
    have q := hM.2.1 o (by omega)
    rw [(h.1.2 o a.1).1.2.2.2.2.2.1]
    exact ⟨q.1, q.2.1⟩
  have z0 : (0 : Int32).toInt = 0 := by decide
  have hl := h.len hV hi hs
  rw [lfo_sum m _ 0 hr (by decide) (by omega), z0]
  have e1 : sumZ (fun o => if I 1 o = m then (I 6 o).toInt else 0) (ls (sdx i.toNatClampNeg s)) = sumZ (fun o => if A 0 o = m then (A 5 o).toInt else 0) (ls (sdx i.toNatClampNeg s)) := sumZ_re (fun o ho => by
    have a := (hmem o).mp ho
    have e := (h.1.2 o a.1).1
    rw [e.2.1, e.2.2.2.2.2.1])
  rw [e1, sum_tie N _ (h.2.1.2.2 _ (sdx_lt (vp_lt hi) s)) hmem]
  rw [sgn_re (g := fun j => (A 5 j).toInt) (q := prM A m i s) N (fun k _ => ?_)]
  · omega
  · by_cases c0 : A 0 k = m
    · by_cases c1 : pw A i s k = true
      · have w := pw_t.mp c1
        rw [if_pos c1, if_pos (prM_t.mpr ⟨c0, w.1, w.2.1, w.2.2⟩)]
        simp only [if_pos c0]
      · rw [if_neg c1, if_neg (fun z => c1 (pw_t.mpr ⟨(prM_t.mp z).2.1, (prM_t.mp z).2.2.1, (prM_t.mp z).2.2.2⟩))]
    · rw [if_neg (fun z => c0 (prM_t.mp z).1)]
      simp only [if_neg c0]
      split <;> rfl
end TIE3
