section TIE8
variable {N : Nat} {I : Nat → Nat → Int32} {J : Nat → Nat → Int64} {V : Nat → Nat → Int32} {ls : Nat → List Nat} {A : Nat → Nat → Int32} {B : Nat → Nat → Int64} {t : Int} {E : Nat → Prop}
theorem exI_c {b s c : Nat} {p a : Int32} (hc : c < 9) (h6 : c ≠ 6) : exI I b s p a c = I c := by
  unfold exI twr
  rw [si_c (show c ≠ 13 by omega), si_c (show c ≠ 14 by omega), si_c (show c ≠ 14 by omega), si_c (show c ≠ 14 by omega), si_c (show c ≠ 14 by omega), si_c (show c ≠ 11 by omega), si_c h6, si_c h6]
theorem exI_6 {b s : Nat} {p a : Int32} (hbs : b ≠ s) (k : Nat) : exI I b s p a 6 k = if k = s then I 6 s - a else if k = b then I 6 b - a else I 6 k := by
  show x_uf (x_uf (I 6) b (I 6 b - a)) s (x_uf (I 6) b (I 6 b - a) s - a) k = _
  rw [x_uf_ne (I 6) _ (Ne.symm hbs)]
  unfold x_uf
  rfl
theorem swA_c {b s p n : Int32} {c : Nat} (hc : c < 9) (h5 : c ≠ 5) : swA A b s p n c = A c := by
  unfold swA sw5 sw3
  rw [si_c (show c ≠ 9 by omega), si_c (show c ≠ 9 by omega), si_c h5, si_c h5, si_c (show c ≠ 11 by omega), si_c (show c ≠ 15 by omega), si_c (show c ≠ 12 by omega), si_c (show c ≠ 12 by omega), si_c (show c ≠ 12 by omega), si_c (show c ≠ 12 by omega)]
/-- after an exchange: orders -/
theorem tiO.ex {b s p a : Int32} (h : tiO E N I A) (hbs : b.toNatClampNeg ≠ s.toNatClampNeg) : tiO (fun k => E k ∨ k = b.toNatClampNeg ∨ k = s.toNatClampNeg) N (exI I b.toNatClampNeg s.toNatClampNeg p a) (swA A b s p a) := by
  have n3 : swA A b s p a 3 = A 3 := rfl
  have n6 : swA A b s p a 6 = A 6 := rfl
  have n13 : swA A b s p a 13 = A 13 := rfl
  have n14 : swA A b s p a 14 = A 14 := rfl
  refine ⟨by rw [n13]; exact h.1, fun k hk => ?_⟩
  have q := h.2 k hk
  have e6 := exI_6 (I := I) (p := p) (a := a) hbs k
  have e5 := sw_rest (A := A) p a k hbs
  have e65 : exI I b.toNatClampNeg s.toNatClampNeg p a 6 k = swA A b s p a 5 k := by
    rw [e6, e5]
    by_cases c1 : k = s.toNatClampNeg
    · rw [if_pos c1, if_pos c1, ← c1, q.1.2.2.2.2.2.1]
    · rw [if_neg c1, if_neg c1]
      by_cases c2 : k = b.toNatClampNeg
      · rw [if_pos c2, if_pos c2, ← c2, q.1.2.2.2.2.2.1]
      · rw [if_neg c2, if_neg c2]; exact q.1.2.2.2.2.2.1
  rw [exI_c (c := 0) (by decide) (by decide), exI_c (c := 1) (by decide) (by decide), exI_c (c := 2) (by decide) (by decide), exI_c (c := 3) (by decide) (by decide), exI_c (c := 4) (by decide) (by decide), exI_c (c := 5) (by decide) (by decide), exI_c (c := 7) (by decide) (by decide), exI_c (c := 8) (by decide) (by decide), swA_c (c := 0) (by decide) (by decide), swA_c (c := 1) (by decide) (by decide), swA_c (c := 2) (by decide) (by decide), swA_c (c := 4) (by decide) (by decide), swA_c (c := 7) (by decide) (by decide), swA_c (c := 8) (by decide) (by decide), n3, n14]
  refine ⟨⟨q.1.1, q.1.2.1, q.1.2.2.1, q.1.2.2.2.1, q.1.2.2.2.2.1, e65, q.1.2.2.2.2.2.2⟩, fun z => ⟨(q.2 z).1, fun w => ?_, (q.2 z).2.2⟩⟩
  rw [(q.2 z).2.1 (fun e => w (Or.inl e))]
  unfold shs
  rw [n3, n6, e5, if_neg (fun e => w (Or.inr (Or.inr e))), if_neg (fun e => w (Or.inr (Or.inl e)))]
theorem tiL.ex {b s p a : Int32} (h : tiL N ls A) : tiL N ls (swA A b s p a) := h.re rfl rfl rfl rfl rfl
theorem uf_re {f g : Nat → Int32} {n k : Nat} {v w : Int32} (h : ∀ r, r < n → f r = g r) (hv : v = w) : ∀ r, r < n → x_uf f k v r = x_uf g k w r := fun r hr => by
  by_cases c : r = k
  · rw [x_ufe _ _ c, x_ufe _ _ c, hv]
  · rw [x_uf_ne _ _ c, x_uf_ne _ _ c, h r hr]
theorem nat32 {b : Int32} (h : 0 ≤ b.toInt) : Int32.ofNat b.toNatClampNeg = b := by
  apply Int32.toInt_inj.mp
  have := b.toInt_lt
  have e : b.toNatClampNeg = b.toInt.toNat := i_nat b
  rw [of_nat (by omega)]
  omega
theorem neg_mulJ {a p : Int32} (h : ¬ a.toInt = -2147483648) (x : Int64) : x - (-a).toInt64 * p.toInt64 = x + a.toInt64 * p.toInt64 := by
  have e : (-a).toInt64 = -a.toInt64 := by
    apply Int64.toInt_inj.mp
    have := a.toInt_lt
    have := a.le_toInt
    have e1 : a.toInt64.toInt = a.toInt := Kit.i64_of_i32 _
    rw [Kit.i64_of_i32, Kit.i32_neg (by omega), Kit.i64_neg (by rw [e1]; omega), e1]
  rw [e, Int64.neg_mul, Int64.sub_neg]
theorem held_nat {a b : Int32} (ha : vp_in a 5) (hb : vp_in b 2) : (2 * a + b).toNatClampNeg = 2 * a.toNatClampNeg + b.toNatClampNeg := by
  have h1 := vp_to ha
  have h2 := vp_to hb
  rw [i_nat, (held_in ha hb).1, i_nat, i_nat]
  omega
/-- after an exchange: accounts, flags, tape -/
theorem tiA.ex {b s p a : Int32} (h : tiA I J V A B) (hb0 : 0 ≤ b.toInt) (hs0 : 0 ≤ s.toInt) (hb : oR (E b.toNatClampNeg) I A b.toNatClampNeg) (hs : oR (E s.toNatClampNeg) I A s.toNatClampNeg) (hbs : A 1 s.toNatClampNeg = A 1 b.toNatClampNeg) (okb : OM1 A b.toNatClampNeg) (oks : OM1 A s.toNatClampNeg) (ha : ¬ a.toInt = -2147483648) : tiA (exI I b.toNatClampNeg s.toNatClampNeg p a) (exJ I J b.toNatClampNeg s.toNatClampNeg p a) (exV I V b.toNatClampNeg s.toNatClampNeg a) (swA A b s p a) (swB A B b s p a) := by
  have Ib0 : I 0 b.toNatClampNeg = b := hb.1.1.trans (nat32 hb0)
  have Is0 : I 0 s.toNatClampNeg = s := hs.1.1.trans (nat32 hs0)
  have Ib1 := hb.1.2.1
  have Is1 := hs.1.2.1
  have Ib2 := hb.1.2.2.1
  have Is2 := hs.1.2.2.1
  have mb := vp_lt okb.1
  have ms := vp_lt oks.1
  have ib := vp_lt okb.2
  have kb := held_nat okb.1 okb.2
  have ks := held_nat oks.1 okb.2
  have hJ : ∀ m, m < 5 → exJ I J b.toNatClampNeg s.toNatClampNeg p a 1 m = swB A B b s p a 1 m := by
    intro m hm
    show x_uf (x_uf (J 1) (I 1 b.toNatClampNeg).toNatClampNeg (J 1 (I 1 b.toNatClampNeg).toNatClampNeg - a.toInt64 * p.toInt64)) (I 1 s.toNatClampNeg).toNatClampNeg (x_uf (J 1) (I 1 b.toNatClampNeg).toNatClampNeg (J 1 (I 1 b.toNatClampNeg).toNatClampNeg - a.toInt64 * p.toInt64) (I 1 s.toNatClampNeg).toNatClampNeg - (-a).toInt64 * p.toInt64) m = x_uf (x_uf (B 1) (A 0 b.toNatClampNeg).toNatClampNeg (B 1 (A 0 b.toNatClampNeg).toNatClampNeg - a.toInt64 * p.toInt64)) (A 0 s.toNatClampNeg).toNatClampNeg (x_uf (B 1) (A 0 b.toNatClampNeg).toNatClampNeg (B 1 (A 0 b.toNatClampNeg).toNatClampNeg - a.toInt64 * p.toInt64) (A 0 s.toNatClampNeg).toNatClampNeg + a.toInt64 * p.toInt64) m
    rw [Ib1, Is1, neg_mulJ ha, (h.1 _ mb).2.1]
    have e : ∀ m', m' < 5 → x_uf (J 1) (A 0 b.toNatClampNeg).toNatClampNeg (B 1 (A 0 b.toNatClampNeg).toNatClampNeg - a.toInt64 * p.toInt64) m' = x_uf (B 1) (A 0 b.toNatClampNeg).toNatClampNeg (B 1 (A 0 b.toNatClampNeg).toNatClampNeg - a.toInt64 * p.toInt64) m' := fun m' hm' => by
      by_cases c : m' = (A 0 b.toNatClampNeg).toNatClampNeg
      · rw [x_ufe _ _ c, x_ufe _ _ c]
      · rw [x_uf_ne _ _ c, x_uf_ne _ _ c, (h.1 _ hm').2.1]
    rw [e _ ms]
    by_cases c : m = (A 0 s.toNatClampNeg).toNatClampNeg
    · rw [x_ufe _ _ c, x_ufe _ _ c]
    · rw [x_uf_ne _ _ c, x_uf_ne _ _ c, e _ hm]
  have hV : ∀ m, m < 5 → ∀ i, i < 2 → exV I V b.toNatClampNeg s.toNatClampNeg a m i = swA A b s p a 9 (2 * m + i) := by
    intro m hm i hi
    show si (si V (I 1 b.toNatClampNeg).toNatClampNeg (I 2 b.toNatClampNeg).toNatClampNeg (V (I 1 b.toNatClampNeg).toNatClampNeg (I 2 b.toNatClampNeg).toNatClampNeg + a)) (I 1 s.toNatClampNeg).toNatClampNeg (I 2 s.toNatClampNeg).toNatClampNeg (si V (I 1 b.toNatClampNeg).toNatClampNeg (I 2 b.toNatClampNeg).toNatClampNeg (V (I 1 b.toNatClampNeg).toNatClampNeg (I 2 b.toNatClampNeg).toNatClampNeg + a) (I 1 s.toNatClampNeg).toNatClampNeg (I 2 s.toNatClampNeg).toNatClampNeg + -a) m i = x_uf (x_uf (A 9) (2 * A 0 b.toNatClampNeg + A 1 b.toNatClampNeg).toNatClampNeg (A 9 (2 * A 0 b.toNatClampNeg + A 1 b.toNatClampNeg).toNatClampNeg + a)) (2 * A 0 s.toNatClampNeg + A 1 b.toNatClampNeg).toNatClampNeg (x_uf (A 9) (2 * A 0 b.toNatClampNeg + A 1 b.toNatClampNeg).toNatClampNeg (A 9 (2 * A 0 b.toNatClampNeg + A 1 b.toNatClampNeg).toNatClampNeg + a) (2 * A 0 s.toNatClampNeg + A 1 b.toNatClampNeg).toNatClampNeg - a) (2 * m + i)
    rw [Ib1, Is1, Ib2, Is2, hbs, kb, ks, (h.1 _ mb).2.2 _ ib]
    generalize (A 0 b.toNatClampNeg).toNatClampNeg = x at *
    generalize (A 0 s.toNatClampNeg).toNatClampNeg = y at *
    generalize (A 1 b.toNatClampNeg).toNatClampNeg = z at *
    have e : ∀ (W : Nat → Nat → Int32) (f : Nat → Int32) (x : Nat) (v w : Int32), (∀ m, m < 5 → ∀ i, i < 2 → W m i = f (2 * m + i)) → v = w → ∀ m, m < 5 → ∀ i, i < 2 → si W x z v m i = x_uf f (2 * x + z) w (2 * m + i) := fun W f x v w hW hvw m' hm' i' hi' => by
      by_cases c : m' = x ∧ i' = z
      · rw [c.1, c.2, si_eq, x_uf_self, hvw]
      · rw [x_uf_ne _ _ (by omega)]
        by_cases c1 : m' = x
        · rw [si_k (fun q => c ⟨c1, q⟩)]; exact hW m' hm' i' hi'
        · rw [si_c c1]; exact hW m' hm' i' hi'
    have e1 := e V (A 9) x (A 9 (2 * x + z) + a) (A 9 (2 * x + z) + a) (fun m' hm' i' hi' => (h.1 _ hm').2.2 _ hi') rfl
    refine e _ _ y _ _ e1 ?_ m hm i hi
    rw [e1 y ms z ib, Int32.sub_eq_add_neg]
  refine ⟨fun m hm => ⟨(h.1 m hm).1, hJ m hm, fun i hi => hV m hm i hi⟩, fun i hi => ⟨(h.2.1 i hi).1, ?_⟩, ?_, ?_⟩
  · show x_uf (I 11) (I 2 b.toNatClampNeg).toNatClampNeg p i = x_uf (A 11) (A 1 b.toNatClampNeg).toNatClampNeg p i
    rw [Ib2]
    exact uf_re (n := 2) (fun r hr => (h.2.1 r hr).2) rfl i hi
  · show I 13 0 + 1 = A 15 0 + 1
    rw [h.2.2.1]
  · show ∀ r, r < 400 → x_uf (x_uf (x_uf (x_uf (I 14) (trow (I 13 0)).toNatClampNeg (I 0 b.toNatClampNeg)) (trow (I 13 0) + 1).toNatClampNeg (I 0 s.toNatClampNeg)) (trow (I 13 0) + 2).toNatClampNeg p) (trow (I 13 0) + 3).toNatClampNeg a r = x_uf (x_uf (x_uf (x_uf (A 12) (trow (A 15 0)).toNatClampNeg b) (trow (A 15 0) + 1).toNatClampNeg s) (trow (A 15 0) + 2).toNatClampNeg p) (trow (A 15 0) + 3).toNatClampNeg a r
    rw [h.2.2.1, Ib0, Is0]
    exact uf_re (uf_re (uf_re (uf_re h.2.2.2 rfl) rfl) rfl) rfl
end TIE8
