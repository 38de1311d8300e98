section CINV
variable {N : Nat} {I : Nat → Nat → Int32} {J : Nat → Nat → Int64} {P : Nat → Nat → Option xQ} {V : Nat → Nat → Int32} {ls : Nat → List Nat} {t : Int}
theorem CV.up {t' : Int} (q : CV N I ls t) (h : t ≤ t') : CV N I ls t' := ⟨q.1, q.2.1, q.2.2.1, q.2.2.2.1, Int.le_trans q.2.2.2.2 h⟩
theorem CV.re {I' : Nat → Nat → Int32} {ls' : Nat → List Nat} {t' : Int} (q : CV N I ls t) (hC : CI N I' ls') (h12 : I' 12 0 = I 12 0) (h0 : 0 ≤ (I' 13 0).toInt) (h1 : (I' 13 0).toInt ≤ t') : CV N I' ls' t' := ⟨hC, by rw [h12]; exact q.2.1, q.2.2.1, h0, h1⟩
theorem dp_ok (hV : CV N I ls t) (m a : Int32) : CV N (dpS I J V ls m a).2.1 (dpS I J V ls m a).2.2.2.2 t ∧ (dpS I J V ls m a).2.1 10 = I 10 := by
  unfold dpS
  split
  · exact ⟨hV, rfl⟩
  · split
    · exact ⟨hV, rfl⟩
    · split
      · split
        · exact ⟨hV, rfl⟩
        · split
          · exact ⟨hV, rfl⟩
          · exact ⟨hV, rfl⟩
      · exact ⟨hV, rfl⟩
theorem cn_ok (hV : CV N I ls t) (m x : Int32) : CV N (cnS I J V ls m x).2.1 (cnS I J V ls m x).2.2.2.2 t ∧ (cnS I J V ls m x).2.1 10 = I 10 := by
  unfold cnS
  split
  · exact ⟨hV, rfl⟩
  · exact ⟨hV.re (tk_CI hV.1) rfl hV.2.2.2.1 hV.2.2.2.2, rfl⟩
theorem am_ok (hV : CV N I ls t) (m x q : Int32) : CV N (amS I J V ls m x q).2.1 (amS I J V ls m x q).2.2.2.2 t ∧ (amS I J V ls m x q).2.1 10 = I 10 := by
  unfold amS
  split
  · exact ⟨hV, rfl⟩
  · split
    · exact ⟨hV, rfl⟩
    · split
      · refine ⟨hV.re ?_ rfl hV.2.2.2.1 hV.2.2.2.2, rfl⟩
        exact CI.re (I' := si (si I 6 x.toNatClampNeg q) 7 x.toNatClampNeg (i_min (I 7 x.toNatClampNeg) q)) hV.1 rfl rfl rfl rfl (fun _ _ _ h => Or.inl h)
      · exact ⟨hV, rfl⟩
theorem cl_ok (hV : CV N I ls t) (i : Int32) : CV N (clS I J V ls i).2.1 (clS I J V ls i).2.2.2.2 t := by
  unfold clS
  split
  · exact hV
  · split
    · exact hV
    · refine hV.re ?_ rfl hV.2.2.2.1 hV.2.2.2.2
      exact CI.re (I' := si I 10 i.toNatClampNeg 0) hV.1 rfl rfl rfl rfl (fun _ _ _ h => Or.inl h)
theorem CI.kp {I' : Nat → Nat → Int32} (q : CI N I ls) (k : KP I I') : CI N I' ls := q.re k.2.1 k.2.2.1 k.2.2.2.1 k.2.2.2.2.2.1 (fun _ _ _ h => Or.inl h)
theorem in_ok (hV : CV N I ls t) (i p : Int32) : CV N (inS I J V ls i p).2.1 (inS I J V ls i p).2.2.2.2 t ∧ (inS I J V ls i p).2.1 10 = I 10 := by
  have hk := wgL_KP I ls i.toNatClampNeg
  have main : CV N (wgL I ls i.toNatClampNeg) ls t ∧ wgL I ls i.toNatClampNeg 10 = I 10 := by
    refine ⟨hV.re (hV.1.kp hk.1) ?_ ?_ ?_, hk.1.2.2.2.2.2.2.1⟩
    · rw [hk.1.2.2.2.2.2.2.2]
    · rw [hk.2]; exact hV.2.2.2.1
    · rw [hk.2]; exact hV.2.2.2.2
  unfold inS
  split
  · exact ⟨hV, rfl⟩
  · split
    · exact main
    · split
      · exact main
      · split
        · exact main
        · split
          · exact main
          · exact main
theorem taF_ok (i : Nat) (p : Int32) : ∀ (n : Nat) (I : Nat → Nat → Int32) (J : Nat → Nat → Int64) (V : Nat → Nat → Int32) (ls : Nat → List Nat) (v : Int32), CI N I ls → 0 ≤ (I 13 0).toInt → (I 13 0).toInt + n < 2147483648 →
    KP I (taF i p n (I, J, V, ls) v).2.1 ∧ CI N (taF i p n (I, J, V, ls) v).2.1 (taF i p n (I, J, V, ls) v).2.2.2.2 ∧ (I 13 0).toInt ≤ ((taF i p n (I, J, V, ls) v).2.1 13 0).toInt ∧ ((taF i p n (I, J, V, ls) v).2.1 13 0).toInt ≤ (I 13 0).toInt + n := by
  intro n
  induction n with
  | zero => intro I J V ls v hC h0 h1; exact ⟨KP.rf I, hC, Int.le_refl _, by simp [taF]⟩
  | succ n ih =>
    intro I J V ls v hC h0 h1
    have same : taF i p (n + 1) (I, J, V, ls) v = (v, (I, J, V, ls)) → KP I (taF i p (n + 1) (I, J, V, ls) v).2.1 ∧ CI N (taF i p (n + 1) (I, J, V, ls) v).2.1 (taF i p (n + 1) (I, J, V, ls) v).2.2.2.2 ∧ (I 13 0).toInt ≤ ((taF i p (n + 1) (I, J, V, ls) v).2.1 13 0).toInt ∧ ((taF i p (n + 1) (I, J, V, ls) v).2.1 13 0).toInt ≤ (I 13 0).toInt + (n + 1 : Nat) := by
      intro e
      rw [e]
      exact ⟨KP.rf I, hC, Int.le_refl _, by dsimp only; omega⟩
    cases hb : ls (2 * i) with
    | nil => exact same (taF_0 (Or.inl hb))
    | cons b cb =>
      cases hs : ls (2 * i + 1) with
      | nil => exact same (taF_0 (Or.inr (Or.inl hs)))
      | cons s cs =>
        by_cases ha : acc I b p
        · by_cases ha2 : acc I s p
          · rw [taF_s hb hs ha ha2]
            have hT := tas_ok (I := I) (J := J) (V := V) (ls := ls) b s p
            have h13 : ((tas I J V ls b s p).1 13 0).toInt = (I 13 0).toInt + 1 := by rw [hT.2.1]; exact i_p1 h0 (by omega)
            obtain ⟨a1, a2, a3, a4⟩ := ih (tas I J V ls b s p).1 (tas I J V ls b s p).2.1 (tas I J V ls b s p).2.2.1 (tas I J V ls b s p).2.2.2 (v + i_min (I 6 b) (I 6 s)) (hC.sub hT.1 hT.2.2) (by omega) (by omega)
            refine ⟨KP.tr hT.1 a1, a2, ?_, ?_⟩
            · exact Int.le_trans (by omega) a3
            · refine Int.le_trans a4 ?_
              omega
          · exact same (taF_0 (Or.inr (Or.inr ⟨b, cb, s, cs, hb, hs, Or.inr ha2⟩)))
        · exact same (taF_0 (Or.inr (Or.inr ⟨b, cb, s, cs, hb, hs, Or.inl ha⟩)))
theorem si_10 (W : Nat → Nat → Int32) (x : Nat) (v : Int32) : si W 10 x v 10 = x_uf (W 10) x v := rfl
theorem op_ok (hV : CV N I ls t) (ht : t + 120 < 2147483648) (i : Int32) : CV N (opS I J V ls i).2.1 (opS I J V ls i).2.2.2.2 (t + 120) ∧ (opS I J V ls i).2.1 10 = (if isN i = 0 then I 10 else if I 10 i.toNatClampNeg = 0 then x_uf (I 10) i.toNatClampNeg 1 else I 10) := by
  have hk := wgL_KP I ls i.toNatClampNeg
  have h13 := wg_13 I ls i.toNatClampNeg i.toNatClampNeg 1
  have h12 : si (wgL I ls i.toNatClampNeg) 10 i.toNatClampNeg 1 12 0 = I 12 0 := congrFun hk.1.2.2.2.2.2.2.2 0
  have hC := hV.1.wg i.toNatClampNeg i.toNatClampNeg 1
  have h10 : si (wgL I ls i.toNatClampNeg) 10 i.toNatClampNeg 1 10 = x_uf (I 10) i.toNatClampNeg 1 := by rw [si_10, hk.1.2.2.2.2.2.2.1]
  have hb0 := hV.2.2.2.1
  have hb1 := hV.2.2.2.2
  unfold opS
  split
  · exact ⟨hV.up (by omega), rfl⟩
  · split
    · split
      · exact ⟨hV.re hC h12 (by dsimp only; rw [h13]; exact hb0) (by dsimp only; rw [h13]; omega), h10⟩
      · obtain ⟨a1, a2, a3, a4⟩ := taF_ok (N := N) i.toNatClampNeg (cprice I ls i.toNatClampNeg) 120 (si (wgL I ls i.toNatClampNeg) 10 i.toNatClampNeg 1) J V ls 0 hC (by rw [h13]; exact hb0) (by rw [h13]; omega)
        rw [h13] at a3 a4
        refine ⟨hV.re a2 ?_ (by omega) (by omega), ?_⟩
        · rw [a1.2.2.2.2.2.2.2]; exact h12
        · rw [a1.2.2.2.2.2.2.1]; exact h10
    · exact ⟨hV.up (by omega), rfl⟩
theorem wdI_ne : ∀ (c : List Nat) (I : Nat → Nat → Int32) {x : Nat}, x ≠ 8 → wdI I c x = I x
  | [], _, _, _ => rfl
  | o :: c, I, x, h => by
    rw [wdI, wdI_ne c _ h]
    exact if_neg h
theorem ed_ok (hC : CI N I ls) (i : Nat) : CI N (edS I J V ls i).1 (edS I J V ls i).2.2.2 ∧ (edS I J V ls i).1 12 = I 12 ∧ (edS I J V ls i).1 13 = I 13 ∧ (edS I J V ls i).1 10 = x_uf (I 10) i 0 := by
  have k : ∀ x, x ≠ 8 → wdI (wdI I (ls (2 * i))) (x_uf ls (2 * i) [] (2 * i + 1)) x = I x := fun x hx => by rw [wdI_ne _ _ hx, wdI_ne _ _ hx]
  refine ⟨?_, ?_, ?_, ?_⟩
  · refine CI.re (I' := (edS I J V ls i).1) hC ?_ ?_ ?_ ?_ (fun j _ o ho => ?_)
    · exact k 1 (by decide)
    · exact k 2 (by decide)
    · exact k 3 (by decide)
    · exact k 5 (by decide)
    · have ho : o ∈ x_uf (x_uf ls (2 * i) []) (2 * i + 1) [] j := ho
      by_cases h1 : j = 2 * i + 1
      · subst h1; rw [x_uf_self] at ho; cases ho
      · rw [x_uf_ne _ _ h1] at ho
        by_cases h2 : j = 2 * i
        · subst h2; rw [x_uf_self] at ho; cases ho
        · rw [x_uf_ne _ _ h2] at ho; exact Or.inl ho
  · exact k 12 (by decide)
  · exact k 13 (by decide)
  · show x_uf (wdI (wdI I (ls (2 * i))) (x_uf ls (2 * i) [] (2 * i + 1)) 10) i 0 = _
    rw [k 10 (by decide)]
theorem st_ok (hV : CV N I ls t) : CV N (stS I J V ls).2.1 (stS I J V ls).2.2.2.2 t ∧ (stS I J V ls).2.1 10 = x_uf (x_uf (I 10) 0 0) 1 0 := by
  have e1 := ed_ok (J := J) (V := V) hV.1 0
  have e2 := ed_ok (J := J) (V := V) e1.1 1
  refine ⟨hV.re e2.1 ?_ ?_ ?_, ?_⟩
  · exact (congrFun e2.2.1 0).trans (congrFun e1.2.1 0)
  · have : (edS (edS I J V ls 0).1 J V (edS I J V ls 0).2.2.2 1).1 13 0 = I 13 0 := (congrFun e2.2.2.1 0).trans (congrFun e1.2.2.1 0)
    show 0 ≤ ((edS (edS I J V ls 0).1 J V (edS I J V ls 0).2.2.2 1).1 13 0).toInt
    rw [this]; exact hV.2.2.2.1
  · have : (edS (edS I J V ls 0).1 J V (edS I J V ls 0).2.2.2 1).1 13 0 = I 13 0 := (congrFun e2.2.2.1 0).trans (congrFun e1.2.2.1 0)
    show ((edS (edS I J V ls 0).1 J V (edS I J V ls 0).2.2.2 1).1 13 0).toInt ≤ t
    rw [this]; exact hV.2.2.2.2
  · show (edS (edS I J V ls 0).1 J V (edS I J V ls 0).2.2.2 1).1 10 = _
    rw [e2.2.2.2, e1.2.2.2]
theorem ad2_ok {S : cS} (hC : CI N S.1 S.2.2.2) {k i : Nat} (hi : (S.1 2 k).toNatClampNeg = i) : CI N (ad2 S k i).1 (ad2 S k i).2.2.2 ∧ KP S.1 (ad2 S k i).1 ∧ (ad2 S k i).1 13 = S.1 13 := by
  unfold ad2
  split
  · exact ⟨CI.re (I' := si S.1 8 k 1) hC rfl rfl rfl rfl (fun _ _ _ h => Or.inl h), ⟨rfl, rfl, rfl, rfl, rfl, rfl, rfl, rfl⟩, rfl⟩
  · split
    · exact ⟨CI.re (I' := si S.1 8 k 2) hC rfl rfl rfl rfl (fun _ _ _ h => Or.inl h), ⟨rfl, rfl, rfl, rfl, rfl, rfl, rfl, rfl⟩, rfl⟩
    · split
      · refine ⟨CI.re (I' := si S.1 7 k (shw S.1 k)) hC rfl rfl rfl rfl (fun j _ o ho => ?_), ⟨rfl, rfl, rfl, rfl, rfl, rfl, rfl, rfl⟩, rfl⟩
        rcases mem_jnL ho with h | h
        · exact Or.inl h
        · exact Or.inr (by rw [h.1, h.2, hi])
      · exact ⟨CI.re (I' := si S.1 8 k 2) hC rfl rfl rfl rfl (fun _ _ _ h => Or.inl h), ⟨rfl, rfl, rfl, rfl, rfl, rfl, rfl, rfl⟩, rfl⟩
theorem pl4_ok (hV : CV N I ls t) (hQ : QS N P ls) (ht : t + 219 < 2147483648) (hc : I 12 0 < 120) {m i how lim q : Int32} (hm : vp_in m 5) (hi : vp_in i 2) (hh : ¬ how < 0 ∧ ¬ 12 ≤ how) (hl : how / 2 = 3 ∨ (1 ≤ lim.toInt ∧ lim.toInt ≤ 63)) : CV (pl4 N I J V ls m i how lim q).2.1 (pl4 N I J V ls m i how lim q).2.2.1 (pl4 N I J V ls m i how lim q).2.2.2.2.2 (t + 219) ∧ (pl4 N I J V ls m i how lim q).2.2.1 10 = I 10 := by
  have hb0 := hV.2.2.2.1
  have hb1 := hV.2.2.2.2
  have hN := hV.2.1
  have hlt : (I 12 0).toInt < 120 := by rw [i_lt, c120] at hc; exact hc
  have hC := pl_CI (q := q) hV hQ hm hi hh hl
  have e12 : (plI I N m i how lim q 12 0).toInt = (N : Int) + 1 := by
    show (I 12 0 + 1).toInt = _
    rw [i_p1 (by omega) (by omega)]; omega
  have e2 : (plI I N m i how lim q 2 N).toNatClampNeg = i.toNatClampNeg := by
    show (nwO I N m i how lim q 2 N).toNatClampNeg = _
    rw [(nw_at (I := I) (N := N) m i how lim q).2.1]
  unfold pl4
  split
  · dsimp only
    have key : ∀ S : cS, CI (N + 1) S.1 S.2.2.2 → KP (plI I N m i how lim q) S.1 → 0 ≤ (S.1 13 0).toInt → (S.1 13 0).toInt ≤ t + 219 → CV (N + 1) (ad2 S N i.toNatClampNeg).1 (ad2 S N i.toNatClampNeg).2.2.2 (t + 219) ∧ (ad2 S N i.toNatClampNeg).1 10 = I 10 := by
      intro S hS hk h0 h1
      obtain ⟨b1, b2, b3⟩ := ad2_ok hS (k := N) (i := i.toNatClampNeg) (by rw [hk.2.2.1]; exact e2)
      refine ⟨⟨b1, ?_, by omega, by rw [b3]; exact h0, by rw [b3]; exact h1⟩, ?_⟩
      · rw [b2.2.2.2.2.2.2.2, hk.2.2.2.2.2.2.2, e12]; omega
      · rw [b2.2.2.2.2.2.2.1, hk.2.2.2.2.2.2.1]; rfl
    unfold adS
    split
    · exact key (plI I N m i how lim q, J, V, ls) hC (KP.rf _) hb0 (by show (I 13 0).toInt ≤ _; omega)
    · have hm13 : (plI I N m i how lim q 13 0) = I 13 0 := rfl
      obtain ⟨a1, a2, -, a4, a5⟩ := mtF_ok (N := N + 1) N (fdx i.toNatClampNeg (plI I N m i how lim q 3 N)) (fdx_lt (vp_lt hi) _) 219 (plI I N m i how lim q) J V ls hC hb0 (by rw [hm13]; omega)
      rw [hm13] at a4 a5
      exact key (mtF N (fdx i.toNatClampNeg (plI I N m i how lim q 3 N)) 219 (plI I N m i how lim q, J, V, ls)) a2 a1 (by omega) (by omega)
  · exact ⟨hV.up (by omega), rfl⟩
theorem pl1_ok (hV : CV N I ls t) (hQ : QS N P ls) (ht : t + 219 < 2147483648) {m i how lim q : Int32} (hm : vp_in m 5) (hi : vp_in i 2) (hh : ¬ how < 0 ∧ ¬ 12 ≤ how) (hl : how / 2 = 3 ∨ (1 ≤ lim.toInt ∧ lim.toInt ≤ 63)) : CV (pl1 N I J V ls m i how lim q).2.1 (pl1 N I J V ls m i how lim q).2.2.1 (pl1 N I J V ls m i how lim q).2.2.2.2.2 (t + 219) ∧ (pl1 N I J V ls m i how lim q).2.2.1 10 = I 10 := by
  have same : CV N I ls (t + 219) ∧ I 10 = I 10 := ⟨hV.up (by omega), rfl⟩
  unfold pl1
  split
  · rename_i hc
    have h3 : CV (pl3 N I J V ls m i how lim q).2.1 (pl3 N I J V ls m i how lim q).2.2.1 (pl3 N I J V ls m i how lim q).2.2.2.2.2 (t + 219) ∧ (pl3 N I J V ls m i how lim q).2.2.1 10 = I 10 := by
      unfold pl3
      split
      · exact pl4_ok hV hQ ht hc hm hi hh hl
      · exact same
    split
    · split
      · exact h3
      · split
        · exact h3
        · exact same
    · exact h3
  · exact same
theorem pl_ok (hV : CV N I ls t) (hQ : QS N P ls) (ht : t + 219 < 2147483648) (m i how lim q : Int32) : CV (plS N I J V ls m i how lim q).2.1 (plS N I J V ls m i how lim q).2.2.1 (plS N I J V ls m i how lim q).2.2.2.2.2 (t + 219) ∧ (plS N I J V ls m i how lim q).2.2.1 10 = I 10 := by
  have same : CV N I ls (t + 219) ∧ I 10 = I 10 := ⟨hV.up (by omega), rfl⟩
  unfold plS
  split
  · exact same
  · split
    · exact same
    · split
      · exact same
      · split
        · exact same
        · split
          · exact same
          · split
            · exact pl1_ok hV hQ ht (vM (by assumption)) (vN (by assumption)) (b01_nz.mp (by assumption)) (Or.inl (by assumption))
            · split
              · exact same
              · exact pl1_ok hV hQ ht (vM (by assumption)) (vN (by assumption)) (b01_nz.mp (by assumption)) (Or.inr (vL (by assumption)))
end CINV
