section TIE22
variable {N : Nat} {I : Nat → Nat → Int32} {J : Nat → Nat → Int64} {P : Nat → Nat → Option xQ} {V : Nat → Nat → Int32} {ls : Nat → List Nat} {A : Nat → Nat → Int32} {B : Nat → Nat → Int64} {t : Int} {E : Nat → Prop}
/-- reference prices are prices -/
def R11 (I : Nat → Nat → Int32) : Prop := ∀ i, 1 ≤ (I 11 i).toInt ∧ (I 11 i).toInt ≤ 63
theorem R11.re {I' : Nat → Nat → Int32} (h : R11 I) (e : I' 11 = I 11) : R11 I' := by
  unfold R11
  rw [e]; exact h
theorem R11.uf {I' : Nat → Nat → Int32} (h : R11 I) {k : Nat} {p : Int32} (e : I' 11 = x_uf (I 11) k p) (h0 : 1 ≤ p.toInt) (h1 : p.toInt ≤ 63) : R11 I' := by
  unfold R11
  rw [e]
  intro i
  by_cases c : i = k
  · rw [x_ufe _ _ c]; exact ⟨h0, h1⟩
  · rw [x_uf_ne _ _ c]; exact h i
theorem exI_11 {b s : Nat} {p a : Int32} : exI I b s p a 11 = x_uf (I 11) (I 2 b).toNatClampNeg p := rfl
theorem tw2_11 (r j : Nat) : (tw2 I J V ls r j).1 11 = I 11 := by
  unfold tw2
  split
  · rfl
  · split <;> rfl
theorem kfS_11 (o : Nat) : (kfS I J V ls o).1 11 = I 11 := by
  unfold kfS
  split <;> rfl
theorem r_tws (h : R11 I) {k r j : Nat} (h0 : 1 ≤ (I 5 r).toInt) (h1 : (I 5 r).toInt ≤ 63) : R11 (tws I J V ls k r j).1 := by
  unfold tws
  split
  · refine R11.uf (k := ((tw1 I k r) 2 k).toNatClampNeg) (p := I 5 r) h ?_ h0 h1
    rw [tw2_11, exI_11]
    rfl
  · refine R11.uf (k := ((tw1 I k r) 2 r).toNatClampNeg) (p := I 5 r) h ?_ h0 h1
    rw [tw2_11, exI_11]
    rfl
theorem r_mt (k j : Nat) (hj : j < 4) : ∀ (n : Nat) (I : Nat → Nat → Int32) (J : Nat → Nat → Int64) (V : Nat → Nat → Int32) (ls : Nat → List Nat), CI N I ls → (∀ i, i < 4 → ∀ o ∈ ls i, o < N) → R11 I → R11 (mtF k j n (I, J, V, ls)).1
  | 0, _, _, _, _, _, _, h => h
  | n + 1, I, J, V, ls, hC, hl, h => by
    by_cases c6 : I 6 k ≤ 0
    · rw [mtF_s0 c6]; exact h
    · cases e : ls j with
      | nil => rw [mtF_s1 e]; exact h
      | cons r c =>
        have hr : r ∈ ls j := by rw [e]; exact List.mem_cons_self
        by_cases ha : acc I k (I 5 r)
        · by_cases hm : I 1 r = I 1 k
          · rw [mtF_a c6 e ha hm]
            exact r_mt k j hj n _ _ _ _ (tk_CI hC) (fun i hi o ho => hl i hi o (lvL_sub ho)) (h.re rfl)
          · rw [mtF_b c6 e ha hm]
            have hsd := hC.2 j hj r hr
            refine r_mt k j hj n _ _ _ _ (tws_CI hC hsd) (fun i hi o ho => ?_) (r_tws h (hC.1 r (hl j hj r hr)).2.2.2.1 (hC.1 r (hl j hj r hr)).2.2.2.2)
            rcases tws_ls hsd i hi o ho with q | ⟨-, q⟩
            · exact hl i hi o q
            · rw [q]; exact hl j hj r hr
        · rw [mtF_s2 e ha]; exact h
theorem r_tas (h : R11 I) {b s : Nat} {p : Int32} (h0 : 1 ≤ p.toInt) (h1 : p.toInt ≤ 63) : R11 (tas I J V ls b s p).1 := by
  refine R11.uf (k := (I 2 b).toNatClampNeg) (p := p) h ?_ h0 h1
  unfold tas kf2
  rw [kfS_11, kfS_11]
  rfl
theorem r_ta {p : Int32} (i : Nat) (h0 : 1 ≤ p.toInt) (h1 : p.toInt ≤ 63) : ∀ (n : Nat) (I : Nat → Nat → Int32) (J : Nat → Nat → Int64) (V : Nat → Nat → Int32) (ls : Nat → List Nat) (v : Int32), R11 I → R11 (taF i p n (I, J, V, ls) v).2.1
  | 0, _, _, _, _, _, h => h
  | n + 1, I, J, V, ls, v, h => by
    cases eb : ls (2 * i) with
    | nil => rw [taF_0 (Or.inl eb)]; exact h
    | cons b cb =>
      cases es : ls (2 * i + 1) with
      | nil => rw [taF_0 (Or.inr (Or.inl es))]; exact h
      | cons s cs =>
        by_cases ha : acc I b p
        · by_cases ha2 : acc I s p
          · rw [taF_s eb es ha ha2]
            exact r_ta i h0 h1 n _ _ _ _ _ (r_tas h h0 h1)
          · rw [taF_0 (Or.inr (Or.inr ⟨b, cb, s, cs, eb, es, Or.inr ha2⟩))]; exact h
        · rw [taF_0 (Or.inr (Or.inr ⟨b, cb, s, cs, eb, es, Or.inl ha⟩))]; exact h
theorem r_dp (h : R11 I) (m a : Int32) : R11 (dpS I J V ls m a).2.1 := by
  refine h.re ?_
  unfold dpS
  split
  · rfl
  · split
    · rfl
    · split
      · split
        · rfl
        · split <;> rfl
      · rfl
theorem r_cn (h : R11 I) (m x : Int32) : R11 (cnS I J V ls m x).2.1 := by
  refine h.re ?_
  unfold cnS
  split <;> rfl
theorem r_am (h : R11 I) (m x q : Int32) : R11 (amS I J V ls m x q).2.1 := by
  refine h.re ?_
  unfold amS
  split
  · rfl
  · split
    · rfl
    · split <;> rfl
theorem r_cl (h : R11 I) (i : Int32) : R11 (clS I J V ls i).2.1 := by
  refine h.re ?_
  unfold clS
  split
  · rfl
  · split <;> rfl
theorem r_st (h : R11 I) : R11 (stS I J V ls).2.1 := by
  refine h.re ?_
  show (edS (edS I J V ls 0).1 J V (edS I J V ls 0).2.2.2 1).1 11 = I 11
  rw [edS_c (by decide) (by decide), edS_c (by decide) (by decide)]
theorem r_in (h : R11 I) (i p : Int32) : R11 (inS I J V ls i p).2.1 := by
  refine h.re ?_
  unfold inS
  have w := wgL_ne (I := I) (ls := ls) i.toNatClampNeg (x := 11) (by decide) (by decide)
  split
  · rfl
  · split
    · exact w
    · split
      · exact w
      · split
        · exact w
        · split <;> exact w
theorem cp_rng (i : Nat) : 0 ≤ (cprice I ls i).toInt ∧ (cprice I ls i).toInt ≤ 63 := by
  rw [cprice_eq]
  exact fcp_rng _ _ _ _ _
theorem r_op (h : R11 I) (i : Int32) : R11 (opS I J V ls i).2.1 := by
  have w := wgL_ne (I := I) (ls := ls) i.toNatClampNeg (x := 11) (by decide) (by decide)
  have w' : si (wgL I ls i.toNatClampNeg) 10 i.toNatClampNeg 1 11 = I 11 := (si_c (by decide)).trans w
  unfold opS
  split
  · exact h
  · split
    · split
      · exact h.re w'
      · rename_i c
        have := cp_rng (I := I) (ls := ls) i.toNatClampNeg
        have c' : ¬ (cprice I ls i.toNatClampNeg).toInt = 0 := fun z => c (Int32.toInt_inj.mp (by rw [z]; decide))
        exact r_ta _ (by omega) (by omega) _ _ _ _ _ _ (h.re w')
    · exact h
theorem r_ad (h : R11 I) (k i : Nat) : R11 (ad2 (I, J, V, ls) k i).1 := by
  refine h.re ?_
  unfold ad2
  split
  · rfl
  · split
    · rfl
    · split <;> rfl
theorem r_pl4 (h : R11 I) (hV : CV N I ls t) (hQ : QS N P ls) {m i how lim q : Int32} (hm : vp_in m 5) (hi : vp_in i 2) (hh : ¬ how < 0 ∧ ¬ 12 ≤ how) (hl : how / 2 = 3 ∨ (1 ≤ lim.toInt ∧ lim.toInt ≤ 63)) : R11 (pl4 N I J V ls m i how lim q).2.2.1 := by
  have hC := pl_CI (q := q) hV hQ hm hi hh hl
  have h' : R11 (plI I N m i how lim q) := h.re rfl
  unfold pl4
  split
  · show R11 (adS (plI I N m i how lim q) J V ls N i.toNatClampNeg).1
    unfold adS
    split
    · exact r_ad h' _ _
    · have T := r_mt (N := N + 1) N (fdx i.toNatClampNeg (plI I N m i how lim q 3 N)) (fdx_lt (vp_lt hi) _) 219 (plI I N m i how lim q) J V ls hC (fun j hj o ho => by have := hQ.2.1 j hj o ho; omega) h'
      generalize mtF N (fdx i.toNatClampNeg (plI I N m i how lim q 3 N)) 219 (plI I N m i how lim q, J, V, ls) = S at T ⊢
      obtain ⟨a, b, c, d⟩ := S
      exact r_ad T _ _
  · exact h
theorem r_pl3 (h : R11 I) (hV : CV N I ls t) (hQ : QS N P ls) {m i how lim q : Int32} (hm : vp_in m 5) (hi : vp_in i 2) (hh : ¬ how < 0 ∧ ¬ 12 ≤ how) (hl : how / 2 = 3 ∨ (1 ≤ lim.toInt ∧ lim.toInt ≤ 63)) : R11 (pl1 N I J V ls m i how lim q).2.2.1 := by
  have key := r_pl4 (J := J) (V := V) (q := q) h hV hQ hm hi hh hl
  have key3 : R11 (pl3 N I J V ls m i how lim q).2.2.1 := by
    unfold pl3
    split
    · exact key
    · exact h
  unfold pl1
  split
  · split
    · split
      · exact key3
      · split
        · exact key3
        · exact h
    · exact key3
  · exact h
theorem r_pl (h : R11 I) (hV : CV N I ls t) (hQ : QS N P ls) (m i how lim q : Int32) : R11 (plS N I J V ls m i how lim q).2.2.1 := by
  unfold plS
  by_cases c0 : isM m = 0
  · rw [if_pos c0]; exact h
  by_cases c1 : isN i = 0
  · rw [if_neg c0, if_pos c1]; exact h
  by_cases c2 : isH how = 0
  · rw [if_neg c0, if_neg c1, if_pos c2]; exact h
  by_cases c3 : q < 1
  · rw [if_neg c0, if_neg c1, if_neg c2, if_pos c3]; exact h
  by_cases c4 : 99 < q
  · rw [if_neg c0, if_neg c1, if_neg c2, if_neg c3, if_pos c4]; exact h
  rw [if_neg c0, if_neg c1, if_neg c2, if_neg c3, if_neg c4]
  by_cases c5 : how / 2 = 3
  · rw [if_pos c5]; exact r_pl3 h hV hQ (vM c0) (vN c1) (b01_nz.mp c2) (Or.inl c5)
  rw [if_neg c5]
  by_cases c6 : isP lim = 0
  · rw [if_pos c6]; exact h
  rw [if_neg c6]
  exact r_pl3 h hV hQ (vM c0) (vN c1) (b01_nz.mp c2) (Or.inr (vL c6))
end TIE22
