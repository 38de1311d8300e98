section TIE9
variable {N : Nat} {I : Nat → Nat → Int32} {J : Nat → Nat → Int64} {V : Nat → Nat → Int32} {ls : Nat → List Nat} {A : Nat → Nat → Int32} {B : Nat → Nat → Int64} {t : Int} {E : Nat → Prop}
/-- no exceptions -/
abbrev nE : Nat → Prop := fun _ => False
theorem sdx_par {i j : Nat} {s : Int32} (hs : s = 0 ∨ s = 1) (h : sdx i s = j) : s = if j % 2 = 0 then 0 else 1 := by
  have ne : ¬ (1 : Int32) = 0 := by decide
  unfold sdx at h
  rcases hs with e | e
  · rw [if_pos e] at h; rw [if_pos (by omega)]; exact e
  · rw [e, if_neg ne] at h; rw [if_neg (by omega)]; exact e
theorem tiO.e7 (h : tiO E N I A) (o : Nat) (v : Int32) : tiO (fun k => E k ∨ k = o) N (si I 7 o v) A := by
  refine h.upd (fun k => k = o) rfl (Int.le_refl _) (fun k _ hk => ⟨fun c _ => si_k hk, fun c _ => rfl, Or.inl⟩) (fun k hk he => ?_)
  subst he
  have q := h.2 k hk
  exact ⟨q.1, fun z => ⟨(q.2 z).1, fun w => absurd (Or.inr rfl) w, (q.2 z).2.2⟩⟩
theorem tiO.fin (h : tiO E N I A) {r k : Nat} {w : Int32} (hE : ∀ j, E j → j = r ∨ j = k) (hk : ¬ A 7 k = 0) (hr : A 7 r = 0 → I 7 r = if A 3 r = 5 then w else A 5 r) : tiO nE N I (si A 6 r w) := by
  refine h.upd (fun j => j = r ∨ j = k) rfl (Int.le_refl _) (fun j _ hj => ⟨fun c _ => rfl, fun c _ => si_k (fun e => hj (Or.inl e)), fun e => hj (hE j e)⟩) (fun j hj he => ?_)
  have q := h.2 j hj
  refine ⟨q.1, fun z => ⟨(q.2 z).1, fun _ => ?_, (q.2 z).2.2⟩⟩
  have z' : A 7 j = 0 := z
  rcases he with e | e
  · subst e
    rw [hr z']
    unfold shs
    rw [si_eq]
    rfl
  · subst e; exact absurd z' hk
/-- the amounts of a meeting are alike -/
theorem mt_am {x y : Int32} {k r : Nat} (h6 : I 6 k = A 5 x.toNatClampNeg) (h7 : I 7 r = shs A y.toNatClampNeg) : i_min (I 6 k) (I 7 r) = mtN A x y := by
  unfold i_min mtN
  rw [h6, h7]
  by_cases c : shs A y.toNatClampNeg < A 5 x.toNatClampNeg
  · rw [if_pos c, if_pos (by rw [i_le]; rw [i_lt] at c; omega)]
  · rw [if_neg c]
    by_cases d : shs A y.toNatClampNeg ≤ A 5 x.toNatClampNeg
    · rw [if_pos d]; rw [i_le] at d; rw [i_lt] at c; exact Int32.toInt_inj.mp (by omega)
    · rw [if_neg d]
/-- the state after a taking, in class and reference -/
theorem Tie.tk (h : Tie E N I J V ls A B) {o : Nat} {st : Int32} (ho : o < N) (h0 : ¬ st = 0) (h3 : ¬ st = 3) : Tie E N (si I 8 o st) J V (tkL I ls o) (si A 7 o st) B := by
  have q := (h.1.2 o ho).1
  refine ⟨h.1.st h0 h3, ?_, h.2.2.re rfl rfl rfl rfl rfl rfl rfl rfl rfl⟩
  unfold tkL
  rw [q.2.2.1, q.2.2.2.1]
  exact h.2.1.lv rfl h0
/-- a requeued order -/
theorem Tie.rq (h : Tie E N I J V ls A B) (hC : CI N I ls) {r j : Nat} (hr : r < N) (h7 : A 7 r = 0) (hj : sdx (A 1 r).toNatClampNeg (A 2 r) = j) (hj4 : j < 4) (h0 : 0 ≤ (A 14 0).toInt) (h1 : (A 14 0).toInt < 2147483647) : Tie E N (si I 7 r (shw I r)) J V (jnL (si I 7 r (shw I r)) (lvL ls j r) j r) (qeA A r) B := by
  have q := h.1.2 r hr
  have hs : A 2 r = 0 ∨ A 2 r = 1 := by rw [← q.1.2.2.2.1]; exact (hC.1 r hr).2.2.1
  have o1 := h.1.pk h7
  have l1 := h.2.1.lv (st := 3) hj (by decide)
  have e : qeA (si A 7 r 3) r = qeA A r := by
    unfold qeA
    have e1 : si (si A 7 r 3) 7 r 0 = si A 7 r 0 := by
      funext c k
      by_cases ck : k = r
      · subst ck
        by_cases cc : c = 7
        · subst cc; rw [si_eq, si_eq]
        · rw [si_c cc, si_c cc, si_c cc]
      · rw [si_k ck, si_k ck, si_k ck]
    rw [e1]
    rfl
  have e7 : si A 7 r 3 7 r = 3 := si_eq _ _ _ _
  have o2 := o1.jn (o := r) (by exact (q.2 h7).1) e7 h0 h1
  have l2 := tiL.jn (I' := si I 7 r (shw I r)) o1 l1 (o := r) hr hj hj4 (by exact sdx_par hs hj) rfl rfl (by exact (q.2 h7).1) e7
  rw [e] at o2 l2
  exact ⟨o2, l2, h.2.2.re rfl rfl rfl rfl rfl rfl rfl rfl rfl⟩
/-- what follows an exchange with a waiting order -/
theorem tw2_tie (h : Tie nE N I J V ls A B) (hC : CI N I ls) {r j : Nat} (hr : r < N) (h7 : A 7 r = 0) (hj : sdx (A 1 r).toNatClampNeg (A 2 r) = j) (hj4 : j < 4) (h0 : 0 ≤ (A 14 0).toInt) (h1 : (A 14 0).toInt < 2147483647) : Tie nE N (tw2 I J V ls r j).1 (tw2 I J V ls r j).2.1 (tw2 I J V ls r j).2.2.1 (tw2 I J V ls r j).2.2.2 (mt2 A r) B := by
  have q := h.1.2 r hr
  have e7 := (q.2 h7).2.1 (fun z => z)
  unfold tw2 mt2
  by_cases c : A 5 r = 0
  · rw [if_pos c, if_pos (q.1.2.2.2.2.2.1.trans c)]
    exact h.tk hr (by decide) (by decide)
  · rw [if_neg c, if_neg (fun z => c (q.1.2.2.2.2.2.1.symm.trans z)), e7]
    unfold shs
    by_cases d : A 3 r = 5
    · rw [if_pos d, if_pos d]
      by_cases e : A 6 r = 0
      · rw [if_pos e, if_pos e]
        exact h.rq hC hr h7 hj hj4 h0 h1
      · rw [if_neg e, if_neg e]; exact h
    · rw [if_neg d, if_neg d, if_neg c]; exact h
theorem mt2_7 {r k : Nat} (h : k ≠ r) : mt2 A r 7 k = A 7 k := by
  unfold mt2
  split
  · exact si_k h
  · split
    · split
      · exact qe_c (by decide) h
      · rfl
    · rfl
theorem mt2_14 {r : Nat} (h0 : 0 ≤ (A 14 0).toInt) (h1 : (A 14 0).toInt < 2147483647) : (A 14 0).toInt ≤ (mt2 A r 14 0).toInt ∧ (mt2 A r 14 0).toInt ≤ (A 14 0).toInt + 1 := by
  have e : (qeA A r 14 0).toInt = (A 14 0).toInt + 1 := i_p1 h0 h1
  unfold mt2
  split
  · have : si A 7 r 1 14 = A 14 := rfl
    rw [this]; omega
  · split
    · split
      · omega
      · omega
    · omega
/-- positions within v -/
def bV (V : Nat → Nat → Int32) (v : Int) : Prop := ∀ m i, m < 5 → i < 2 → -v ≤ (V m i).toInt ∧ (V m i).toInt ≤ v
theorem bV.up {v w : Int} (h : bV V v) (hw : v ≤ w) : bV V w := fun m i hm hi => by have := h m i hm hi; omega
theorem bV_si {v w : Int} (h : bV V v) (hw : v ≤ w) {m i : Nat} {x : Int32} (hx : m < 5 → i < 2 → -w ≤ x.toInt ∧ x.toInt ≤ w) : bV (si V m i x) w := fun m' i' hm hi => by
  by_cases c : m' = m
  · by_cases d : i' = i
    · subst c; subst d; rw [si_eq]; exact hx hm hi
    · rw [si_k d]; have := h m' i' hm hi; omega
  · rw [si_c c]; have := h m' i' hm hi; omega
theorem bV.ex {v : Int} (h : bV V v) {b s : Nat} {a : Int32} (ha0 : 0 ≤ a.toInt) (ha1 : a.toInt ≤ 99) (hv : v + 198 < 2147483648) : bV (exV I V b s a) (v + 198) := by
  have hn : (-a).toInt = -a.toInt := Kit.i32_neg (by omega)
  unfold exV
  have h1 : bV (si V (I 1 b).toNatClampNeg (I 2 b).toNatClampNeg (V (I 1 b).toNatClampNeg (I 2 b).toNatClampNeg + a)) (v + 99) := bV_si h (by omega) (fun hm hi => by
    have := h _ _ hm hi
    rw [Kit.i32_add (by omega) (by omega)]; omega)
  refine bV_si h1 (by omega) (fun hm hi => ?_)
  have := h1 _ _ hm hi
  rw [Kit.i32_add (by rw [hn]; omega) (by rw [hn]; omega), hn]; omega
/-- an exchange with a waiting order, up to its state -/
theorem ex_tie (h : Tie nE N I J V ls A B) (hM : MV A t) {x y : Int32} {k r : Nat} (hxk : x.toNatClampNeg = k) (hyr : y.toNatClampNeg = r) (hx0 : 0 ≤ x.toInt) (hy0 : 0 ≤ y.toInt) (hk : k < N) (hr : r < N) (hk7 : A 7 k = 3) (hr7 : A 7 r = 0) (hi : A 1 r = A 1 k) {p n : Int32} (hn : ¬ n.toInt = -2147483648) {b s : Int32} (hbs : (b = x ∧ s = y) ∨ (b = y ∧ s = x)) :
    Tie nE N (exI (si I 7 r (I 7 r - n)) b.toNatClampNeg s.toNatClampNeg p n) (exJ (si I 7 r (I 7 r - n)) J b.toNatClampNeg s.toNatClampNeg p n) (exV (si I 7 r (I 7 r - n)) V b.toNatClampNeg s.toNatClampNeg n) ls (si (swA A b s p n) 6 r (A 6 r - n)) (swB A B b s p n) := by
  have hkr : k ≠ r := fun e => by rw [e, hr7] at hk7; exact absurd hk7 (by decide)
  have hN := h.1.1
  have o1 := h.1.e7 r (I 7 r - n)
  have a1 : tiA (si I 7 r (I 7 r - n)) J V A B := h.2.2.re rfl rfl rfl rfl rfl rfl rfl rfl rfl
  have ne : b.toNatClampNeg ≠ s.toNatClampNeg := by
    rcases hbs with ⟨e1, e2⟩ | ⟨e1, e2⟩
    · rw [e1, e2, hxk, hyr]; exact hkr
    · rw [e1, e2, hxk, hyr]; exact hkr.symm
  have hb0 : 0 ≤ b.toInt := by rcases hbs with ⟨e1, e2⟩ | ⟨e1, e2⟩ <;> rw [e1] <;> assumption
  have hs0 : 0 ≤ s.toInt := by rcases hbs with ⟨e1, e2⟩ | ⟨e1, e2⟩ <;> rw [e2] <;> assumption
  have hbN : b.toNatClampNeg < N := by rcases hbs with ⟨e1, e2⟩ | ⟨e1, e2⟩ <;> rw [e1] <;> omega
  have hsN : s.toNatClampNeg < N := by rcases hbs with ⟨e1, e2⟩ | ⟨e1, e2⟩ <;> rw [e2] <;> omega
  have hii : A 1 s.toNatClampNeg = A 1 b.toNatClampNeg := by
    rcases hbs with ⟨e1, e2⟩ | ⟨e1, e2⟩
    · rw [e1, e2, hxk, hyr]; exact hi
    · rw [e1, e2, hxk, hyr]; exact hi.symm
  have okb : OM1 A b.toNatClampNeg := hM.1.2.1 _ (by omega)
  have oks : OM1 A s.toNatClampNeg := hM.1.2.1 _ (by omega)
  have o2 := o1.ex (p := p) (a := n) ne
  have a2 := a1.ex (E := fun j => nE j ∨ j = r) (p := p) hb0 hs0 (o1.2 _ hbN) (o1.2 _ hsN) hii okb oks hn
  have l2 : tiL N ls (si (swA A b s p n) 6 r (A 6 r - n)) := (h.2.1.ex (b := b) (s := s) (p := p) (a := n)).re (si_c (by decide)) (si_c (by decide)) (si_c (by decide)) (si_c (by decide)) (si_c (by decide))
  have a3 := a2.re (A' := si (swA A b s p n) 6 r (A 6 r - n)) rfl rfl rfl rfl (si_c (by decide)) (si_c (by decide)) (si_c (by decide)) (si_c (by decide)) (si_c (by decide))
  refine ⟨o2.fin (r := r) (k := k) (fun j hj => ?_) ?_ (fun _ => ?_), l2, a3⟩
  · rcases hj with (hj | hj) | hj | hj
    · exact absurd hj id
    · exact Or.inl hj
    · rcases hbs with ⟨e1, e2⟩ | ⟨e1, e2⟩
      · exact Or.inr (by rw [hj, e1, hxk])
      · exact Or.inl (by rw [hj, e1, hyr])
    · rcases hbs with ⟨e1, e2⟩ | ⟨e1, e2⟩
      · exact Or.inl (by rw [hj, e2, hyr])
      · exact Or.inr (by rw [hj, e2, hxk])
  · have e7 : swA A b s p n 7 = A 7 := rfl
    rw [e7, hk7]; decide
  · rw [exI_c (c := 7) (by decide) (by decide), si_eq]
    have e7 := ((h.1.2 r hr).2 hr7).2.1 (fun z => z)
    have e3 : swA A b s p n 3 = A 3 := rfl
    have e5 : swA A b s p n 5 r = A 5 r - n := by
      rw [sw_rest p n r ne]
      rcases hbs with ⟨e1, e2⟩ | ⟨e1, e2⟩
      · rw [e2, hyr, if_pos rfl]
      · rw [e1, e2, hyr, hxk, if_neg hkr.symm, if_pos rfl]
    rw [e7, e3, e5]
    unfold shs
    by_cases c : A 3 r = 5
    · rw [if_pos c, if_pos c]
    · rw [if_neg c, if_neg c]
end TIE9
