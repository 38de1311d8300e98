section TIE12
variable {N : Nat} {I : Nat → Nat → Int32} {J : Nat → Nat → Int64} {P : Nat → Nat → Option xQ} {V : Nat → Nat → Int32} {ls : Nat → List Nat} {A : Nat → Nat → Int32} {B : Nat → Nat → Int64} {t : Int} {E : Nat → Prop}
theorem nwO_k {c k : Nat} (hc : c < 9) (hk : k ≠ N) (m i how lim q : Int32) : nwO I N m i how lim q c k = I c k := by
  unfold nwO nwI nw5
  rw [si_k hk, si_k hk, si_k hk, si_k hk, si_k hk, si_k hk, si_k hk, si_k hk, si_k hk]
  unfold zI
  rw [if_pos hc]
  exact x_uf_ne _ _ hk
theorem plI_c {c : Nat} (hc : c ≠ 12) (m i how lim q : Int32) : plI I N m i how lim q c = nwO I N m i how lim q c := si_c hc
theorem nwM_k {c k : Nat} (hc : c ≠ 13) (hN : (A 13 0).toNatClampNeg = N) (hk : k ≠ N) (m i how b q : Int32) : nwM A m i how b q c k = A c k := by
  unfold nwM
  rw [hN, si_c hc, si_k hk, si_k hk, si_k hk, si_k hk, si_k hk, si_k hk, si_k hk]
theorem nwM_at (hN : (A 13 0).toNatClampNeg = N) (m i how b q : Int32) : nwM A m i how b q 0 N = m ∧ nwM A m i how b q 1 N = i ∧ nwM A m i how b q 2 N = how - how / 2 * 2 ∧ nwM A m i how b q 3 N = how / 2 ∧ nwM A m i how b q 4 N = b ∧ nwM A m i how b q 5 N = q ∧ nwM A m i how b q 7 N = 3 := by
  unfold nwM
  rw [hN]
  exact ⟨x_uf_self (A 0) N m, x_uf_self (A 1) N i, x_uf_self (A 2) N _, x_uf_self (A 3) N _, x_uf_self (A 4) N b, x_uf_self (A 5) N q, x_uf_self (A 7) N 3⟩
/-- a new order -/
theorem nw_tie (h : Tie nE N I J V ls A B) (hV : CV N I ls t) (hM : MV A t) (h120 : ¬ A 13 0 = 120) {m i how b q : Int32} (hm : vp_in m 5) (hi : vp_in i 2) (hq1 : 1 ≤ q.toInt) (hq2 : q.toInt ≤ 99) : Tie nE (N + 1) (plI I N m i how b q) J V ls (nwM A m i how b q) B := by
  have hN := h.1.1
  have hcN : (A 13 0).toNatClampNeg = N := by rw [i_nat]; omega
  have hnw := nw_m (how := how) (b := b) hM h120 hm hi hq1 hq2
  have at1 := nw_at (I := I) (N := N) m i how b q
  have at2 := nwM_at hcN m i how b q
  have e14 : nwM A m i how b q 14 = A 14 := rfl
  have hlt : ∀ j, j < 4 → ∀ o ∈ ls j, o < N := fun j hj o ho => ((h.2.1.1 j hj o).mp ho).1
  refine ⟨⟨by rw [hnw.2.1, hN]; omega, fun k hk => ?_⟩, tiL.of (fun j hj o => ?_) (fun j hj => Srt_re (A := A) (fun k hk => ?_) (h.2.1.srt hj)) h.2.1.2.2, h.2.2.re rfl rfl rfl rfl rfl rfl rfl rfl rfl⟩
  · by_cases c : k = N
    · subst c
      have e12 : I 12 0 = Int32.ofNat k := Int32.toInt_inj.mp (by rw [of_nat (by have := hV.2.2.1; omega), hV.2.1])
      rw [plI_c (c := 0) (by decide), plI_c (c := 1) (by decide), plI_c (c := 2) (by decide), plI_c (c := 3) (by decide), plI_c (c := 4) (by decide), plI_c (c := 6) (by decide), plI_c (c := 8) (by decide), at1.1, at1.2.1, at1.2.2.1, at1.2.2.2.1, at1.2.2.2.2.2.1, at1.2.2.2.2.2.2.1, at1.2.2.2.2.2.2.2.2, at2.1, at2.2.1, at2.2.2.1, at2.2.2.2.1, at2.2.2.2.2.2.1, at2.2.2.2.2.2.2, if_pos rfl]
      exact ⟨⟨e12, rfl, rfl, rfl, rfl, rfl, rfl⟩, fun z => absurd z (by decide)⟩
    · exact oR.re (e := False) (h.1.2 k (by omega)) (fun c' hc' => by rw [plI_c (by omega), nwO_k hc' c]) (fun c' hc' => nwM_k (by omega) hcN c m i how b q) (by rw [e14]; exact Int.le_refl _) id
  · rw [h.2.1.1 j hj o]
    by_cases c : o = N
    · subst c
      rw [at2.2.2.2.2.2.2]
      exact ⟨fun z => absurd z.1 (Nat.lt_irrefl _), fun z => absurd z.2.1 (by decide)⟩
    · rw [nwM_k (by decide) hcN c, nwM_k (by decide) hcN c, nwM_k (by decide) hcN c]
      exact ⟨fun z => ⟨by omega, z.2⟩, fun z => ⟨by omega, z.2⟩⟩
  · have c : k ≠ N := fun e => by have := hlt j hj k hk; omega
    exact ⟨nwM_k (by decide) hcN c m i how b q, nwM_k (by decide) hcN c m i how b q⟩
theorem gd_mono {kd s b : Int32} {o k : Nat} (hb : bef A (1 - s) o k) (hs : s = 0 ∨ s = 1) (g : gdm kd s b (A 4 k)) : gdm kd s b (A 4 o) := by
  unfold gdm at g ⊢
  rcases g with g | g
  · exact Or.inl g
  · right
    have ne : ¬ (1 : Int32) = 0 := by decide
    have e10 : (1 : Int32) - 0 = 1 := by decide
    have e11 : (1 : Int32) - 1 = 0 := by decide
    rcases hs with e | e
    · subst e
      rw [e10] at hb
      rcases g with ⟨-, g⟩ | ⟨g, -⟩
      · refine Or.inl ⟨rfl, ?_⟩
        rw [i_lt] at g ⊢
        rcases hb with (⟨z, -⟩ | ⟨-, z⟩) | ⟨z, -⟩
        · exact absurd z ne
        · rw [i_le] at z; omega
        · rw [z]; exact g
      · exact absurd rfl g
    · subst e
      rw [e11] at hb
      rcases g with ⟨z, -⟩ | ⟨-, g⟩
      · exact absurd z ne
      · refine Or.inr ⟨ne, ?_⟩
        rw [i_lt] at g ⊢
        rcases hb with (⟨-, z⟩ | ⟨z, -⟩) | ⟨z, -⟩
        · rw [i_le] at z; omega
        · exact absurd rfl z
        · rw [z]; exact g
theorem sumZ_0 {f : Nat → Int} : ∀ {c : List Nat}, (∀ o ∈ c, f o = 0) → sumZ f c = 0
  | [], _ => rfl
  | o :: c, h => by
    unfold sumZ
    rw [h o List.mem_cons_self, sumZ_0 (fun x hx => h x (List.mem_cons_of_mem _ hx))]; rfl
/-- what others offer within the limit: the class's walk along the chain -/
theorem lff_sum {k : Nat} {kd s b m : Int32} (hs : s = 0 ∨ s = 1) (hm : I 1 k = m) : ∀ (c : List Nat) (s0 : Int32), (∀ o ∈ c, (acc I k (I 5 o) ↔ gdm kd s b (A 4 o)) ∧ I 1 o = A 0 o ∧ I 6 o = A 5 o ∧ 0 ≤ (A 5 o).toInt ∧ (A 5 o).toInt ≤ 99) → Srt A (1 - s) c → 0 ≤ s0.toInt → s0.toInt + 99 * c.length < 2147483648 → (lff I k s0 c).toInt = s0.toInt + sumZ (fun o => if gdm kd s b (A 4 o) then (if A 0 o = m then 0 else (A 5 o).toInt) else 0) c
  | [], s0, _, _, _, _ => by simp [lff, sumZ]
  | o :: c, s0, h, hc, h0, h1 => by
    have ho := h o List.mem_cons_self
    have hr : ∀ x ∈ c, _ := fun x hx => h x (List.mem_cons_of_mem _ hx)
    rw [List.length_cons, Int.natCast_succ] at h1
    unfold lff sumZ
    by_cases g : gdm kd s b (A 4 o)
    · rw [if_pos (ho.1.mpr g), hm, ho.2.1, ho.2.2.1]
      simp only [if_pos g]
      by_cases c0 : A 0 o = m
      · rw [if_pos c0, if_pos c0, lff_sum hs hm c s0 hr hc.2 h0 (by omega)]
        omega
      · have e : (s0 + A 5 o).toInt = s0.toInt + (A 5 o).toInt := Kit.i32_add (by omega) (by omega)
        rw [if_neg c0, if_neg c0, lff_sum hs hm c _ hr hc.2 (by rw [e]; omega) (by rw [e]; omega), e]
        omega
    · rw [if_neg (fun z => g (ho.1.mp z))]
      simp only [if_neg g]
      rw [sumZ_0 (fun x hx => if_neg (fun z => g (gd_mono (hc.1 x hx) hs z)))]
      omega
/-- an order that waits over there at a price within the limit -/
def pg (A : Nat → Nat → Int32) (i kd s b : Int32) (j : Nat) : Bool := decide (wts A j i (1 - s) ∧ gdm kd s b (A 4 j))
theorem pg_t {i kd s b : Int32} {j : Nat} : pg A i kd s b j = true ↔ wts A j i (1 - s) ∧ gdm kd s b (A 4 j) := decide_eq_true_iff
theorem ufF_sum (m i kd s b : Int32) : ∀ (n : Nat) (o mt ot : Int32), 0 ≤ o.toInt → o.toInt + n ≤ 120 → (∀ j : Nat, (j : Int) < o.toInt + n → 0 ≤ (A 5 j).toInt ∧ (A 5 j).toInt ≤ 99) → (0 ≤ mt.toInt ∧ mt.toInt ≤ o.toInt) → (0 ≤ ot.toInt ∧ ot.toInt ≤ 99 * o.toInt) →
    ((ufF A m i kd s b n o mt ot).1.toInt = mt.toInt + (sgn (fun _ => 1) (pg A i kd s b) (o.toNatClampNeg + n) - sgn (fun _ => 1) (pg A i kd s b) o.toNatClampNeg)) ∧
    ((ufF A m i kd s b n o mt ot).2.toInt = ot.toInt + (sgn (fun j => if A 0 j = m then 0 else (A 5 j).toInt) (pg A i kd s b) (o.toNatClampNeg + n) - sgn (fun j => if A 0 j = m then 0 else (A 5 j).toInt) (pg A i kd s b) o.toNatClampNeg))
  | 0, o, mt, ot, _, _, _, _, _ => by
    constructor
    · show mt.toInt = _
      rw [Nat.add_zero]; omega
    · show ot.toInt = _
      rw [Nat.add_zero]; omega
  | n + 1, o, mt, ot, h0, h1, hr, hb, hs => by
    have e := i_inc (p := o) (by omega) (by omega)
    have hoN : (o.toNatClampNeg : Int) = o.toInt := by rw [i_nat]; omega
    have eN : (o + Int32.ofInt 1).toNatClampNeg = o.toNatClampNeg + 1 := by rw [i_nat, e, i_nat]; omega
    have hk := hr o.toNatClampNeg (by omega)
    have e3 : o.toNatClampNeg + 1 + n = o.toNatClampNeg + (n + 1) := by omega
    have z0 : (0 : Int32).toInt = 0 := by decide
    obtain ⟨mt', ot', eb, es, er⟩ : ∃ mt' ot' : Int32, mt'.toInt = mt.toInt + (if pg A i kd s b o.toNatClampNeg = true then 1 else 0) ∧ ot'.toInt = ot.toInt + (if pg A i kd s b o.toNatClampNeg = true then (if A 0 o.toNatClampNeg = m then 0 else (A 5 o.toNatClampNeg).toInt) else 0) ∧ ufF A m i kd s b (n + 1) o mt ot = ufF A m i kd s b n (o + Int32.ofInt 1) mt' ot' := by
      by_cases c0 : wts A o.toNatClampNeg i (1 - s)
      · by_cases c1 : gdm kd s b (A 4 o.toNatClampNeg)
        · refine ⟨mt + Int32.ofInt 1, ot + (if A 0 o.toNatClampNeg = m then 0 else A 5 o.toNatClampNeg), ?_, ?_, by simp only [ufF, if_neg (b01_nz.mpr c0), if_neg (b01_nz.mpr c1)]⟩
          · rw [if_pos (pg_t.mpr ⟨c0, c1⟩), i_inc (by omega) (by omega)]
          · rw [if_pos (pg_t.mpr ⟨c0, c1⟩)]
            by_cases c2 : A 0 o.toNatClampNeg = m
            · rw [if_pos c2, if_pos c2, Kit.i32_add (by omega) (by omega), z0]
            · rw [if_neg c2, if_neg c2, Kit.i32_add (by omega) (by omega)]
        · have q : ¬ pg A i kd s b o.toNatClampNeg = true := fun z => c1 (pg_t.mp z).2
          exact ⟨mt, ot, by rw [if_neg q]; omega, by rw [if_neg q]; omega, by simp only [ufF, if_neg (b01_nz.mpr c0), if_pos (b01_z.mpr c1)]⟩
      · have q : ¬ pg A i kd s b o.toNatClampNeg = true := fun z => c0 (pg_t.mp z).1
        exact ⟨mt, ot, by rw [if_neg q]; omega, by rw [if_neg q]; omega, by simp only [ufF, if_pos (b01_z.mpr c0)]⟩
    have hb' : 0 ≤ mt'.toInt ∧ mt'.toInt ≤ (o + Int32.ofInt 1).toInt := by rw [eb, e]; split <;> omega
    have hs' : 0 ≤ ot'.toInt ∧ ot'.toInt ≤ 99 * (o + Int32.ofInt 1).toInt := by rw [es, e]; split <;> (try split) <;> omega
    have ih := ufF_sum m i kd s b n (o + Int32.ofInt 1) mt' ot' (by rw [e]; omega) (by rw [e]; omega) (fun j hj => hr j (by rw [e] at hj; omega)) hb' hs'
    rw [eN, e3] at ih
    have u0 : sgn (fun _ => 1) (pg A i kd s b) (o.toNatClampNeg + 1) = sgn (fun _ => 1) (pg A i kd s b) o.toNatClampNeg + (if pg A i kd s b o.toNatClampNeg = true then 1 else 0) := rfl
    have u1 : sgn (fun j => if A 0 j = m then 0 else (A 5 j).toInt) (pg A i kd s b) (o.toNatClampNeg + 1) = sgn (fun j => if A 0 j = m then 0 else (A 5 j).toInt) (pg A i kd s b) o.toNatClampNeg + (if pg A i kd s b o.toNatClampNeg = true then (if A 0 o.toNatClampNeg = m then 0 else (A 5 o.toNatClampNeg).toInt) else 0) := rfl
    rw [er]
    refine ⟨?_, ?_⟩
    · rw [ih.1, eb, u0]; omega
    · rw [ih.2, es, u1]; omega
theorem sgn_pos {p : Nat → Bool} : ∀ c : Nat, 0 ≤ sgn (fun _ => 1) p c ∧ (0 < sgn (fun _ => 1) p c ↔ ∃ k, k < c ∧ p k = true)
  | 0 => ⟨Int.le_refl _, ⟨fun z => absurd z (Int.lt_irrefl 0), fun ⟨k, hk, _⟩ => absurd hk (Nat.not_lt_zero _)⟩⟩
  | c + 1 => by
    have ih := sgn_pos (p := p) c
    unfold sgn
    by_cases h : p c = true
    · rw [if_pos h]
      exact ⟨by omega, ⟨fun _ => ⟨c, by omega, h⟩, fun _ => by omega⟩⟩
    · rw [if_neg h]
      refine ⟨by omega, ?_⟩
      rw [Int.add_zero, ih.2]
      constructor
      · rintro ⟨k, hk, hp⟩; exact ⟨k, by omega, hp⟩
      · rintro ⟨k, hk, hp⟩
        refine ⟨k, ?_, hp⟩
        by_cases e : k = c
        · subst e; exact absurd hp h
        · omega
end TIE12
