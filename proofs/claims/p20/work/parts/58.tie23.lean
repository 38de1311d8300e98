section TIE23
variable {N : Nat} {I : Nat → Nat → Int32} {J : Nat → Nat → Int64} {P : Nat → Nat → Option xQ} {V : Nat → Nat → Int32} {ls : Nat → List Nat} {A : Nat → Nat → Int32} {B : Nat → Nat → Int64} {t : Int} {E : Nat → Prop}
theorem ox_7 {b s n : Int32} (hbs : b.toNatClampNeg ≠ s.toNatClampNeg) (k : Nat) : (oxS A B b s n).1 7 k = if k = s.toNatClampNeg then (if A 5 s.toNatClampNeg - n = 0 then 1 else 0) else if k = b.toNatClampNeg then (if A 5 b.toNatClampNeg - n = 0 then 1 else 0) else A 7 k := by
  have e7 : swA A b s (A 16 0) n 7 = A 7 := rfl
  show afA (afA (swA A b s (A 16 0) n) b.toNatClampNeg) s.toNatClampNeg 7 k = _
  rw [af_7, af_5, af_7, e7, sw_rest _ _ _ hbs, sw_rest _ _ _ hbs, if_pos rfl, if_neg hbs, if_pos rfl]
  by_cases c : k = s.toNatClampNeg
  · rw [x_ufe _ _ c, if_pos c]
  · rw [x_uf_ne _ _ c, if_neg c]
    by_cases d : k = b.toNatClampNeg
    · rw [x_ufe _ _ d, if_pos d]
    · rw [x_uf_ne _ _ d, if_neg d]
theorem ox_5 {b s n : Int32} (k : Nat) : (oxS A B b s n).1 5 k = swA A b s (A 16 0) n 5 k := by
  show afA (afA (swA A b s (A 16 0) n) b.toNatClampNeg) s.toNatClampNeg 5 k = _
  rw [af_5, af_5]
theorem ox_14 {b s n : Int32} : (oxS A B b s n).1 14 = A 14 := by
  have e : swA A b s (A 16 0) n 14 = A 14 := rfl
  show afA (afA (swA A b s (A 16 0) n) b.toNatClampNeg) s.toNatClampNeg 14 = _
  rw [af_c (by decide) (by decide), af_c (by decide) (by decide), e]
/-- what accepts the price, after an exchange -/
theorem ox_sum {b s i p n : Int32} {d : Int32} (hb : wts A b.toNatClampNeg i 0) (hs : wts A s.toNatClampNeg i 1) (hbs : b.toNatClampNeg ≠ s.toNatClampNeg) (hd : d = 0 ∨ d = 1) (hx : ¬ btm d p (A 4 (if d = 0 then b.toNatClampNeg else s.toNatClampNeg))) (e5 : (A 5 (if d = 0 then b.toNatClampNeg else s.toNatClampNeg) - n).toInt = (A 5 (if d = 0 then b.toNatClampNeg else s.toNatClampNeg)).toInt - n.toInt) (hlt : (if d = 0 then b.toNatClampNeg else s.toNatClampNeg) < N) : sgn (fw (oxS A B b s n).1 d p) (pw (oxS A B b s n).1 i d) N = sgn (fw A d p) (pw A i d) N - n.toInt := by
  have km := (oxS_KM (A := A) (B := B) b s n).1
  have z0 : (0 : Int32).toInt = 0 := by decide
  have ne : ¬ (1 : Int32) = 0 := by decide
  have k1 : (oxS A B b s n).1 1 = A 1 := km.2.1
  have k2 : (oxS A B b s n).1 2 = A 2 := km.2.2.1
  have k4 : (oxS A B b s n).1 4 = A 4 := km.2.2.2.2.1
  generalize hy : (if d = 0 then b.toNatClampNeg else s.toNatClampNeg) = y at *
  have hyw : wts A y i d := by
    rw [← hy]
    rcases hd with e | e
    · rw [e, if_pos rfl]; exact hb
    · rw [e, if_neg ne]; exact hs
  have y7 : (oxS A B b s n).1 7 y = if A 5 y - n = 0 then 1 else 0 := by
    rw [ox_7 hbs, ← hy]
    rcases hd with e | e
    · rw [e, if_pos rfl, if_neg hbs, if_pos rfl]
    · rw [e, if_neg ne, if_pos rfl]
  have y5 : (oxS A B b s n).1 5 y = A 5 y - n := by
    rw [ox_5, sw_rest _ _ _ hbs, ← hy]
    rcases hd with e | e
    · rw [e, if_pos rfl, if_neg hbs, if_pos rfl]
    · rw [e, if_neg ne, if_pos rfl]
  have h := sgn_upd (f := fw A d p) (g := fw (oxS A B b s n).1 d p) (p := pw A i d) (q := pw (oxS A B b s n).1 i d) (b := y) (n := n.toInt) ?_ (fun k hk => ?_) N
  · rw [h, if_pos hlt]
  · rw [if_pos (pw_t.mpr hyw)]
    unfold fw
    rw [if_neg hx, k4, if_neg hx, y5, e5]
    by_cases c : A 5 y - n = 0
    · rw [if_neg]
      · rw [c, z0] at e5; omega
      · intro z
        have w := (pw_t.mp z).1
        rw [y7, if_pos c] at w
        exact ne w
    · rw [if_pos]
      refine pw_t.mpr ⟨?_, ?_, ?_⟩
      · rw [y7, if_neg c]
      · rw [k1]; exact hyw.2.1
      · rw [k2]; exact hyw.2.2
  · -- the others
    by_cases co : k = b.toNatClampNeg ∨ k = s.toNatClampNeg
    · have hside : ¬ A 2 k = d := by
        rcases hd with e | e
        · rw [e, if_pos rfl] at hy
          rcases co with c | c
          · exact absurd (c.trans hy) hk
          · rw [c, hs.2.2, e]; exact ne
        · rw [e, if_neg ne] at hy
          rcases co with c | c
          · rw [c, hb.2.2, e]; exact fun z => ne z.symm
          · exact absurd (c.trans hy) hk
      rw [if_neg, if_neg]
      · exact fun z => hside (pw_t.mp z).2.2
      · intro z
        have w := (pw_t.mp z).2.2
        rw [k2] at w
        exact hside w
    · have n7 : (oxS A B b s n).1 7 k = A 7 k := by rw [ox_7 hbs, if_neg (fun z => co (Or.inr z)), if_neg (fun z => co (Or.inl z))]
      have n5 : (oxS A B b s n).1 5 k = A 5 k := by rw [ox_5, sw_rest _ _ _ hbs, if_neg (fun z => co (Or.inr z)), if_neg (fun z => co (Or.inl z))]
      have ep : pw (oxS A B b s n).1 i d k = pw A i d k := by
        unfold pw
        rw [n7, k1, k2]
      have ef : fw (oxS A B b s n).1 d p k = fw A d p k := by
        unfold fw
        rw [k4, n5]
      rw [ep, ef]
/-- what an auction has kept -/
def opQ (N : Nat) (S : Int32 × cS) (R : mAB) (A : Nat → Nat → Int32) (v : Int32) (w : Int) : Prop := S.1 = v ∧ Tie nE N S.2.1 S.2.2.1 S.2.2.2.1 S.2.2.2.2 R.1 R.2 ∧ (∀ k, k < N → ¬ R.1 7 k = 3) ∧ R.1 14 0 = A 14 0 ∧ bV S.2.2.2.1 w
theorem rc_pos {k : Nat} (h : A 7 k = 0) : ∀ c : Nat, k < c → 1 ≤ rc A c
  | 0, hk => absurd hk (Nat.not_lt_zero _)
  | c + 1, hk => by
    unfold rc
    by_cases e : k = c
    · subst e; rw [if_pos h]; omega
    · have := rc_pos h c (by omega)
      omega
/-- the front of a side accepts the price, if anything there does -/
def hdQ (N : Nat) (I : Nat → Nat → Int32) (c0 : List Nat) (A : Nat → Nat → Int32) (i d p : Int32) : Prop := (∃ o c, c0 = o :: c ∧ 0 ≤ (fr A i d).toInt ∧ (fr A i d).toNatClampNeg = o ∧ o < N ∧ wts A o i d ∧ I 3 o = d ∧ I 5 o = A 4 o ∧ (¬ sgn (fw A d p) (pw A i d) N = 0 → ¬ btm d p (A 4 o)) ∧ (¬ btm d p (A 4 o) → 1 ≤ sgn (fw A d p) (pw A i d) N)) ∨ (c0 = [] ∧ sgn (fw A d p) (pw A i d) N = 0)
theorem Tie.head (h : Tie nE N I J V ls A B) (hV : CV N I ls t) (hM : MV A t) {i d p : Int32} (hi : vp_in i 2) (hd : d = 0 ∨ d = 1) : hdQ N I (ls (sdx i.toNatClampNeg d)) A i d p := by
  have hN := h.1.1
  have hmem := h.mem hV hi hd
  have hj := sdx_lt (vp_lt hi) d
  rcases h.front hV hM hi hd with ⟨e, -⟩ | ⟨o, c, e, f0, fo⟩
  · right
    refine ⟨e, Decidable.byContradiction (fun z => ?_)⟩
    obtain ⟨k, hk, a, -⟩ := sgn_ex N z
    have := (hmem k).mpr ⟨hk, a⟩
    rw [e] at this
    exact absurd this List.not_mem_nil
  · left
    have ho := (hmem o).mp (by rw [e]; exact List.mem_cons_self)
    have hw := pw_t.mp ho.2
    have q := h.1.2 o ho.1
    have hsr := h.2.1.srt hj
    rw [← sdx_par hd rfl, e] at hsr
    refine ⟨o, c, e, f0, fo, ho.1, hw, by rw [q.1.2.2.2.1]; exact hw.2.2, (q.2 hw.1).1, fun z => ?_, fun z => ?_⟩
    · obtain ⟨k, hk, a, b⟩ := sgn_ex N z
      have hkb : ¬ btm d p (A 4 k) := fun w => b (by unfold fw; rw [if_pos w])
      have hkc := (hmem k).mpr ⟨hk, a⟩
      rw [e] at hkc
      rcases List.mem_cons.mp hkc with w | w
      · rw [← w]; exact hkb
      · exact bef_btm (hsr.1 k w) hkb
    · have g := sgn_ge (f := fw A d p) ho.2 N (fun j hj => (fw_rng hM hN d p hj).1) ho.1
      have e5 : fw A d p o = (A 5 o).toInt := by unfold fw; rw [if_neg z]
      have := ((hM.2.1 o (by omega)).2.2 hw.1).1
      omega
theorem op_loop {i p : Int32} (hi : vp_in i 2) : ∀ (n M : Nat) (I : Nat → Nat → Int32) (J : Nat → Nat → Int64) (V : Nat → Nat → Int32) (ls : Nat → List Nat) (A : Nat → Nat → Int32) (B : Nat → Nat → Int64) (lf v : Int32) (t w : Int), Tie nE N I J V ls A B → CV N I ls t → MV A t → A 16 0 = p → (∀ k, k < N → ¬ A 7 k = 3) → rc A N ≤ n → lf.toInt ≤ M → ((lf.toInt = sgn (fw A 0 p) (pw A i 0) N ∧ lf.toInt ≤ sgn (fw A 1 p) (pw A i 1) N) ∨ (lf.toInt = sgn (fw A 1 p) (pw A i 1) N ∧ lf.toInt ≤ sgn (fw A 0 p) (pw A i 0) N)) → t + n < 2147483647 → bV V w → w + 198 * n < 2147483648 → 0 ≤ v.toInt → v.toInt + lf.toInt < 2147483648 →
    opQ N (taF i.toNatClampNeg p n (I, J, V, ls) v) (opF i M (A, B) lf) A (v + lf) (w + 198 * n)
  | n, M, I, J, V, ls, A, B, lf, v, t, w, h, hV, hM, hp, h3, hrc, hM0, hlf, ht, hbv, hw, hv0, hv1 => by
    have hN := h.1.1
    have z0 : (0 : Int32).toInt = 0 := by decide
    have d0 : sdx i.toNatClampNeg 0 = 2 * i.toNatClampNeg := if_pos rfl
    have d1 : sdx i.toNatClampNeg 1 = 2 * i.toNatClampNeg + 1 := if_neg (by decide)
    have X0 := (sgn_b (f := fw A 0 p) (p := pw A i 0) N (fun k hk => fw_rng hM hN 0 p hk)).1
    have X1 := (sgn_b (f := fw A 1 p) (p := pw A i 1) N (fun k hk => fw_rng hM hN 1 p hk)).1
    have hd0 := h.head hV hM (p := p) hi (Or.inl rfl)
    have hd1 := h.head hV hM (p := p) hi (Or.inr rfl)
    rw [d0] at hd0
    rw [d1] at hd1
    by_cases cl : lf.toInt ≤ 0
    · have l0 : lf = 0 := Int32.toInt_inj.mp (by rw [z0]; omega)
      have eo : opF i M (A, B) lf = (A, B) := by
        cases M with
        | zero => rfl
        | succ M => unfold opF; rw [if_pos (by rw [i_le, z0]; exact cl)]
      have et : taF i.toNatClampNeg p n (I, J, V, ls) v = (v, (I, J, V, ls)) := by
        cases n with
        | zero => rfl
        | succ n =>
          refine taF_0 ?_
          rcases hd0 with ⟨b, cb, eb, -, -, -, -, sb, lb, -, gb⟩ | ⟨eb, -⟩
          · rcases hd1 with ⟨s, cs, es, -, -, -, -, ss, ls', -, gs⟩ | ⟨es, -⟩
            · refine Or.inr (Or.inr ⟨b, cb, s, cs, eb, es, ?_⟩)
              have ab := acc_btm (p := p) sb lb
              have as := acc_btm (p := p) ss ls'
              by_cases c : acc I b p
              · right
                intro c2
                have := gb (ab.mp c)
                have := gs (as.mp c2)
                omega
              · exact Or.inl c
            · exact Or.inr (Or.inl es)
          · exact Or.inl eb
      rw [eo, et, l0]
      have : v + 0 = v := Int32.add_zero v
      rw [this]
      exact ⟨rfl, h, h3, rfl, hbv.up (by omega)⟩
    · have x0 : 0 < sgn (fw A 0 p) (pw A i 0) N := by omega
      have x1 : 0 < sgn (fw A 1 p) (pw A i 1) N := by omega
      obtain ⟨b, cb, eb, fb, fbN, hb, wb, sb, lb, gb, -⟩ := Or.resolve_right hd0 (fun z => by have := z.2; omega)
      obtain ⟨s, cs, es, fs, fsN, hs, ws, ss, ls', gs, -⟩ := Or.resolve_right hd1 (fun z => by have := z.2; omega)
      have gb' := gb (by omega)
      have gs' := gs (by omega)
      have ab := (acc_btm (p := p) sb lb).mpr gb'
      have as := (acc_btm (p := p) ss ls').mpr gs'
      have r1 := rc_pos wb.1 N hb
      match n, M with
      | 0, _ => omega
      | n + 1, 0 => omega
      | n + 1, M + 1 =>
        generalize hbb : fr A i 0 = bb at fb fbN
        generalize hss : fr A i 1 = sx at fs fsN
        have wb' : wts A bb.toNatClampNeg i 0 := by rw [fbN]; exact wb
        have ws' : wts A sx.toNatClampNeg i 1 := by rw [fsN]; exact ws
        have hbN : bb.toInt < (A 13 0).toInt := by have : bb.toNatClampNeg = bb.toInt.toNat := i_nat bb; omega
        have hsN : sx.toInt < (A 13 0).toInt := by have : sx.toNatClampNeg = sx.toInt.toNat := i_nat sx; omega
        obtain ⟨n1, n2, hM', -, -⟩ := ox_ok (B := B) hM (by omega) fb hbN fs hsN wb' ws' rfl
        have hbs : bb.toNatClampNeg ≠ sx.toNatClampNeg := fun e => by
          have := ws'.2.2
          rw [← e, wb'.2.2] at this
          exact absurd this (by decide)
        have T := ox_tie h hM fbN fsN fb fs hb hs wb ws hp (by omega)
        have ham := on_am (I := I) (A := A) (b := bb) (s := sx) (k := b) (r := s) (by rw [fbN]; exact (h.1.2 b hb).1.2.2.2.2.2.1) (by rw [fsN]; exact (h.1.2 s hs).1.2.2.2.2.2.1)
        have hto := tas_ok (I := I) (J := J) (V := V) (ls := ls) b s p
        have hcv := hV.2.2.2
        have e13 : (I 13 0 + 1).toInt = (I 13 0).toInt + 1 := i_p1 hcv.1 (by omega)
        have V' : CV N (tas I J V ls b s p).1 (tas I J V ls b s p).2.2.2 (t + 1) := hV.re (hV.1.sub hto.1 hto.2.2) (by rw [hto.1.2.2.2.2.2.2.2]) (by rw [hto.2.1, e13]; omega) (by rw [hto.2.1, e13]; omega)
        have hkm := oxS_KM (A := A) (B := B) bb sx (onN A bb sx)
        have rb := hM.2.1 b (by omega)
        have rs := hM.2.1 s (by omega)
        have s0 := ox_sum (N := N) (A := A) (B := B) (i := i) (p := p) (n := onN A bb sx) (d := 0) wb' ws' hbs (Or.inl rfl) (by rw [if_pos rfl, fbN]; exact gb') (by rw [if_pos rfl, fbN]; exact Kit.i32_sub (by have := rb.1; omega) (by have := rb.2.1; omega)) (by rw [if_pos rfl, fbN]; exact hb)
        have s1 := ox_sum (N := N) (A := A) (B := B) (i := i) (p := p) (n := onN A bb sx) (d := 1) wb' ws' hbs (Or.inr rfl) (by rw [if_neg (by decide), fsN]; exact gs') (by rw [if_neg (by decide), fsN]; exact Kit.i32_sub (by have := rs.1; omega) (by have := rs.2.1; omega)) (by rw [if_neg (by decide), fsN]; exact hs)
        have hN' : ((oxS A B bb sx (onN A bb sx)).1 13 0).toInt = N := by rw [hkm.1.2.2.2.2.2.2]; exact hN
        have X0' := (sgn_b (f := fw (oxS A B bb sx (onN A bb sx)).1 0 p) (p := pw (oxS A B bb sx (onN A bb sx)).1 i 0) N (fun k hk => fw_rng hM' hN' 0 p hk)).1
        have X1' := (sgn_b (f := fw (oxS A B bb sx (onN A bb sx)).1 1 p) (p := pw (oxS A B bb sx (onN A bb sx)).1 i 1) N (fun k hk => fw_rng hM' hN' 1 p hk)).1
        have eo : ∀ k, A 5 k - A 5 k = 0 := fun k => Int32.sub_self _
        have hrc' : rc (oxS A B bb sx (onN A bb sx)).1 N < rc A N := by
          have sub : ∀ k, k < N → (oxS A B bb sx (onN A bb sx)).1 7 k = 0 → A 7 k = 0 := fun k _ hk => by
            by_cases c1 : k = sx.toNatClampNeg
            · rw [c1]; exact ws'.1
            · by_cases c2 : k = bb.toNatClampNeg
              · rw [c2]; exact wb'.1
              · rw [ox_7 hbs, if_neg c1, if_neg c2] at hk; exact hk
          by_cases c : A 5 sx.toNatClampNeg ≤ A 5 bb.toNatClampNeg
          · have en : onN A bb sx = A 5 sx.toNatClampNeg := by unfold onN; rw [if_pos c]
            refine rc_lt (y := sx.toNatClampNeg) ws'.1 ?_ N (by rw [fsN]; exact hs) sub
            rw [ox_7 hbs, if_pos rfl, en, eo, if_pos rfl]; decide
          · have en : onN A bb sx = A 5 bb.toNatClampNeg := by unfold onN; rw [if_neg c]
            refine rc_lt (y := bb.toNatClampNeg) wb'.1 ?_ N (by rw [fbN]; exact hb) sub
            rw [ox_7 hbs, if_neg hbs, if_pos rfl, en, eo, if_pos rfl]; decide
        have h3' : ∀ k, k < N → ¬ (oxS A B bb sx (onN A bb sx)).1 7 k = 3 := fun k hk => by
          rw [ox_7 hbs]
          split
          · split <;> decide
          · split
            · split <;> decide
            · exact h3 k hk
        have elf : (lf - onN A bb sx).toInt = lf.toInt - (onN A bb sx).toInt := by
          have := lf.toInt_lt
          exact Kit.i32_sub (by omega) (by omega)
        have ev : (v + onN A bb sx).toInt = v.toInt + (onN A bb sx).toInt := Kit.i32_add (by omega) (by omega)
        have evl : v + onN A bb sx + (lf - onN A bb sx) = v + lf := by
          apply Int32.toInt_inj.mp
          rw [Kit.i32_add (by rw [ev, elf]; omega) (by rw [ev, elf]; omega), ev, elf, Kit.i32_add (by omega) (by omega)]
          omega
        have bv : bV (tas I J V ls b s p).2.2.1 (w + 198) := by
          have e : (tas I J V ls b s p).2.2.1 = exV I V b s (onN A bb sx) := by
            have kV : ∀ (I : Nat → Nat → Int32) (J : Nat → Nat → Int64) (V : Nat → Nat → Int32) (ls : Nat → List Nat) (o : Nat), (kfS I J V ls o).2.2.1 = V := fun I J V ls o => by
              unfold kfS
              split <;> rfl
            unfold tas kf2
            rw [kV, kV]
            unfold exS
            rw [ham]
          rw [e]
          exact hbv.ex (by omega) n2 (by omega)
        have ih := op_loop (p := p) hi n M (tas I J V ls b s p).1 (tas I J V ls b s p).2.1 (tas I J V ls b s p).2.2.1 (tas I J V ls b s p).2.2.2 (oxS A B bb sx (onN A bb sx)).1 (oxS A B bb sx (onN A bb sx)).2 (lf - onN A bb sx) (v + onN A bb sx) (t + 1) (w + 198) T V' hM' (by rw [hkm.2.2.2]; exact hp) h3' (by omega) (by rw [elf]; omega) (by rw [elf, s0, s1]; omega) (by omega) bv (by omega) (by rw [ev]; omega) (by rw [ev, elf]; omega)
        rw [evl] at ih
        have et : taF i.toNatClampNeg p (n + 1) (I, J, V, ls) v = taF i.toNatClampNeg p n ((tas I J V ls b s p).1, (tas I J V ls b s p).2.1, (tas I J V ls b s p).2.2.1, (tas I J V ls b s p).2.2.2) (v + onN A bb sx) := by
          rw [taF_s eb es ab as, ham]
        have eop : opF i (M + 1) (A, B) lf = opF i M ((oxS A B bb sx (onN A bb sx)).1, (oxS A B bb sx (onN A bb sx)).2) (lf - onN A bb sx) := by
          conv => lhs; unfold opF
          rw [if_neg (by rw [i_le, z0]; exact cl), hbb, hss]
        rw [et, eop]
        obtain ⟨i1, i2, i3, i4, i5⟩ := ih
        exact ⟨i1, i2, i3, by rw [i4, ox_14], i5.up (by omega)⟩
end TIE23
