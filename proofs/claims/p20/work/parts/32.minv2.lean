section MINV2
variable {A : Nat → Nat → Int32} {B : Nat → Nat → Int64} {t : Int}
/-- what waits on a side, below c -/
def sm (A : Nat → Nat → Int32) (i s : Int32) : Nat → Int
  | 0 => 0
  | c + 1 => sm A i s c + (if wts A c i s then (A 5 c).toInt else 0)
theorem sm_re {A' : Nat → Nat → Int32} (i s : Int32) (h1 : A' 1 = A 1) (h2 : A' 2 = A 2) (h5 : A' 5 = A 5) (h7 : A' 7 = A 7) : ∀ c : Nat, sm A' i s c = sm A i s c
  | 0 => rfl
  | c + 1 => by
    unfold sm wts
    rw [sm_re i s h1 h2 h5 h7 c, h1, h2, h5, h7]
theorem sm_rng (i s : Int32) : ∀ c : Nat, (∀ k < c, 0 ≤ (A 5 k).toInt ∧ (A 5 k).toInt ≤ 99) → 0 ≤ sm A i s c ∧ sm A i s c ≤ 99 * c
  | 0, _ => ⟨Int.le_refl _, by simp [sm]⟩
  | c + 1, h => by
    have ih := sm_rng i s c (fun k hk => h k (Nat.lt_succ_of_lt hk))
    have hc := h c (Nat.lt_succ_self c)
    unfold sm
    split <;> omega
theorem sm_pos (i s : Int32) : ∀ c : Nat, 0 < sm A i s c → ∃ k, k < c ∧ wts A k i s
  | 0, h => absurd h (by simp [sm])
  | c + 1, h => by
    unfold sm at h
    split at h
    · exact ⟨c, Nat.lt_succ_self c, by assumption⟩
    · obtain ⟨k, hk, hw⟩ := sm_pos i s c (by omega)
      exact ⟨k, Nat.lt_succ_of_lt hk, hw⟩
theorem sm_upd {A' : Nat → Nat → Int32} (i s : Int32) {b : Nat} {n : Int} (hb : (if wts A' b i s then (A' 5 b).toInt else 0) = (if wts A b i s then (A 5 b).toInt else 0) - n) (ho : ∀ k, k ≠ b → (if wts A' k i s then (A' 5 k).toInt else 0) = (if wts A k i s then (A 5 k).toInt else 0)) : ∀ c : Nat, sm A' i s c = sm A i s c - (if b < c then n else 0)
  | 0 => by simp [sm]
  | c + 1 => by
    have ih := sm_upd i s hb ho c
    unfold sm
    by_cases hbc : b = c
    · subst hbc
      rw [ih, hb, if_neg (Nat.lt_irrefl b), if_pos (Nat.lt_succ_self b)]
      omega
    · rw [ih, ho c (Ne.symm hbc)]
      by_cases hlt : b < c
      · rw [if_pos hlt, if_pos (show b < c + 1 by omega)]; omega
      · rw [if_neg hlt, if_neg (show ¬ b < c + 1 by omega)]; omega
theorem wlF_le (i s q : Int32) : ∀ (n : Nat) (o sm0 : Int32), 0 ≤ o.toInt → o.toInt + n ≤ 120 → (∀ k : Nat, (k : Int) < o.toInt + n → 0 ≤ (A 5 k).toInt ∧ (A 5 k).toInt ≤ 99) → 0 ≤ sm0.toInt → sm0.toInt ≤ sm A i s o.toNatClampNeg → (wlF A i s q n o sm0).toInt ≤ sm A i s (o.toNatClampNeg + n) ∧ 0 ≤ (wlF A i s q n o sm0).toInt
  | 0, o, sm0, _, _, _, h0, h1 => ⟨h1, h0⟩
  | n + 1, o, sm0, ho, hn, hr, h0, h1 => by
    have e := i_inc (p := o) (by omega) (by omega)
    have hoN : (o.toNatClampNeg : Int) = o.toInt := by rw [i_nat]; omega
    have eN : (o + Int32.ofInt 1).toNatClampNeg = o.toNatClampNeg + 1 := by rw [i_nat, e, i_nat]; omega
    have hb := sm_rng (A := A) i s o.toNatClampNeg (fun k hk => hr k (by omega))
    have hk := hr o.toNatClampNeg (by omega)
    unfold wlF
    have hstep : ∀ x : Int32, (x = 0 ∨ (x = A 5 o.toNatClampNeg ∧ wts A o.toNatClampNeg i s)) → 0 ≤ (sm0 + x).toInt ∧ (sm0 + x).toInt ≤ sm A i s (o.toNatClampNeg + 1) := by
      intro x hx
      show _ ∧ _ ≤ sm A i s o.toNatClampNeg + _
      rcases hx with rfl | ⟨rfl, hw⟩
      · have z0 : (0 : Int32).toInt = 0 := by decide
        have e0 : (sm0 + 0).toInt = sm0.toInt := by rw [Kit.i32_add (by omega) (by omega), z0]; omega
        rw [e0]
        refine ⟨h0, ?_⟩
        split <;> omega
      · have e0 : (sm0 + A 5 o.toNatClampNeg).toInt = sm0.toInt + (A 5 o.toNatClampNeg).toInt := Kit.i32_add (by omega) (by omega)
        rw [e0, if_pos hw]
        omega
    have hx : ((if b01 (wts A o.toNatClampNeg i s) = 0 then (0 : Int32) else if b01 (btm s q (A 4 o.toNatClampNeg)) = 0 then A 5 o.toNatClampNeg else 0) = 0) ∨ ((if b01 (wts A o.toNatClampNeg i s) = 0 then (0 : Int32) else if b01 (btm s q (A 4 o.toNatClampNeg)) = 0 then A 5 o.toNatClampNeg else 0) = A 5 o.toNatClampNeg ∧ wts A o.toNatClampNeg i s) := by
      split
      · exact Or.inl rfl
      · rename_i hw
        split
        · exact Or.inr ⟨rfl, b01_nz.mp hw⟩
        · exact Or.inl rfl
    have hs := hstep _ hx
    have := wlF_le i s q n (o + Int32.ofInt 1) _ (by rw [e]; omega) (by rw [e]; omega) (fun k hk => hr k (by rw [e] at hk; omega)) hs.1 (by rw [eN]; exact hs.2)
    rw [eN] at this
    have e3 : o.toNatClampNeg + 1 + n = o.toNatClampNeg + (n + 1) := by omega
    rw [e3] at this
    exact this
abbrev cn (A : Nat → Nat → Int32) : Nat := (A 13 0).toNatClampNeg
theorem wl_le (hV : MV A t) (i s q : Int32) : (wl A i s q).toInt ≤ sm A i s (cn A) := by
  have hc := hV.1.1
  have e : ((cn A : Nat) : Int) = (A 13 0).toInt := by rw [cn, i_nat]; have := hc.1; omega
  have z0 : (0 : Int32).toInt = 0 := by decide
  have := hc.2
  have h := wlF_le (A := A) i s q (cn A) 0 0 (by decide) (by omega) (fun k hk => by have := hV.2.1 k (by omega); exact ⟨this.1, this.2.1⟩) (by decide) (by rw [show (0 : Int32).toNatClampNeg = 0 by decide, show (0 : Int32).toInt = 0 by decide]; exact Int.le_refl 0)
  have zN : (0 : Int32).toNatClampNeg + cn A = cn A := by rw [show (0 : Int32).toNatClampNeg = 0 by decide]; omega
  rw [zN] at h
  exact h.1
theorem lk1_le (hV : MV A t) (i : Int32) : ∀ (n : Nat) (q mo le : Int32), mo.toInt ≤ sm A i 0 (cn A) → mo.toInt ≤ sm A i 1 (cn A) → (lk1 A i n q mo le).1.toInt ≤ sm A i 0 (cn A) ∧ (lk1 A i n q mo le).1.toInt ≤ sm A i 1 (cn A)
  | 0, _, _, _, h0, h1 => ⟨h0, h1⟩
  | n + 1, q, mo, le, h0, h1 => by
    have hv : (lkv A i q).toInt ≤ sm A i 0 (cn A) ∧ (lkv A i q).toInt ≤ sm A i 1 (cn A) := by
      have a0 := wl_le hV i 0 q
      have a1 := wl_le hV i 1 q
      unfold lkv
      split
      · rename_i h; rw [i_le] at h; omega
      · rename_i h; rw [i_le] at h; omega
    unfold lk1
    split
    · exact lk1_le hV i n _ _ _ hv.1 hv.2
    · split
      · split
        · exact lk1_le hV i n _ _ _ h0 h1
        · exact lk1_le hV i n _ _ _ hv.1 hv.2
      · exact lk1_le hV i n _ _ _ h0 h1
theorem af_5 (A : Nat → Nat → Int32) (k : Nat) : afA A k 5 = A 5 := rfl
theorem af_7 (A : Nat → Nat → Int32) (k : Nat) : afA A k 7 = x_uf (A 7) k (if A 5 k = 0 then 1 else 0) := rfl
theorem af_6 (A : Nat → Nat → Int32) (k : Nat) : afA A k 6 = x_uf (A 6) k (qm A k) := rfl
theorem af_qm (A : Nat → Nat → Int32) (k j : Nat) : qm (afA A k) j = qm A j := by unfold qm; rw [af_5]
/-- one step of the call auction -/
theorem ox_ok (hV : MV A t) (ht : t < 2147483647) {i b s n : Int32} (hb0 : 0 ≤ b.toInt) (hb1 : b.toInt < (A 13 0).toInt) (hs0 : 0 ≤ s.toInt) (hs1 : s.toInt < (A 13 0).toInt) (wb : wts A b.toNatClampNeg i 0) (ws : wts A s.toNatClampNeg i 1) (hn : n = onN A b s) :
    1 ≤ n.toInt ∧ n.toInt ≤ 99 ∧ MV (oxS A B b s n).1 (t + 1) ∧ sm (oxS A B b s n).1 i 0 (cn A) = sm A i 0 (cn A) - n.toInt ∧ sm (oxS A B b s n).1 i 1 (cn A) = sm A i 1 (cn A) - n.toInt := by
  have hO := hV.1
  have hk := oxS_KM (A := A) (B := B) b s n
  have hbN : (b.toNatClampNeg : Int) < (A 13 0).toInt := by rw [i_nat]; omega
  have hsN : (s.toNatClampNeg : Int) < (A 13 0).toInt := by rw [i_nat]; omega
  have hcN : ((cn A : Nat) : Int) = (A 13 0).toInt := by rw [cn, i_nat]; have := hO.1.1; omega
  have hbs : b.toNatClampNeg ≠ s.toNatClampNeg := fun q => by
    have h1 := wb.2.2
    rw [q, ws.2.2] at h1
    exact absurd h1 (by decide)
  have qb := hV.2.1 _ hbN
  have qs := hV.2.1 _ hsN
  have rb := (qb.2.2 wb.1).1
  have rs := (qs.2.2 ws.1).1
  have b99 := qb.2.1
  have s99 := qs.2.1
  have hn1 : 1 ≤ n.toInt ∧ n.toInt ≤ (A 5 b.toNatClampNeg).toInt ∧ n.toInt ≤ (A 5 s.toNatClampNeg).toInt := by
    rw [hn]
    unfold onN
    split
    · rename_i h; rw [i_le] at h; omega
    · rename_i h; rw [i_le] at h; omega
  have eb : (A 5 b.toNatClampNeg - n).toInt = (A 5 b.toNatClampNeg).toInt - n.toInt := Kit.i32_sub (by omega) (by omega)
  have es : (A 5 s.toNatClampNeg - n).toInt = (A 5 s.toNatClampNeg).toInt - n.toInt := Kit.i32_sub (by omega) (by omega)
  generalize hA1 : swA A b s (A 16 0) n = A1 at *
  have c := sw_c (A := A) b s (A 16 0) n
  have r5 := fun k => sw_rest (A := A) (b := b) (s := s) (A 16 0) n k hbs
  rw [hA1] at c
  simp only [hA1] at r5
  have r5b : A1 5 b.toNatClampNeg = A 5 b.toNatClampNeg - n := by rw [r5, if_neg hbs, if_pos rfl]
  have r5s : A1 5 s.toNatClampNeg = A 5 s.toNatClampNeg - n := by rw [r5, if_pos rfl]
  have hA' : (oxS A B b s n).1 = afA (afA A1 b.toNatClampNeg) s.toNatClampNeg := by unfold oxS; rw [hA1]
  have f5 : (oxS A B b s n).1 5 = A1 5 := by rw [hA', af_5, af_5]
  have f3 : (oxS A B b s n).1 3 = A 3 := hk.1.2.2.2.1
  have f7b : (oxS A B b s n).1 7 b.toNatClampNeg = if A1 5 b.toNatClampNeg = 0 then 1 else 0 := by
    rw [hA', af_7, af_7, x_uf_ne _ _ hbs, x_uf_self]
  have f7s : (oxS A B b s n).1 7 s.toNatClampNeg = if A1 5 s.toNatClampNeg = 0 then 1 else 0 := by
    rw [hA', af_7, x_uf_self, af_5]
  have f6b : (oxS A B b s n).1 6 b.toNatClampNeg = qm A1 b.toNatClampNeg := by
    rw [hA', af_6, af_6, x_uf_ne _ _ hbs, x_uf_self]
  have f6s : (oxS A B b s n).1 6 s.toNatClampNeg = qm A1 s.toNatClampNeg := by
    rw [hA', af_6, x_uf_self, af_qm]
  have f7o : ∀ k, k ≠ b.toNatClampNeg → k ≠ s.toNatClampNeg → (oxS A B b s n).1 7 k = A 7 k := fun k k1 k2 => by
    rw [hA', af_7, af_7, x_uf_ne _ _ k2, x_uf_ne _ _ k1, c.2.1]
  have f6o : ∀ k, k ≠ b.toNatClampNeg → k ≠ s.toNatClampNeg → (oxS A B b s n).1 6 k = A 6 k := fun k k1 k2 => by
    rw [hA', af_6, af_6, x_uf_ne _ _ k2, x_uf_ne _ _ k1, c.1]
  have f5o : ∀ k, k ≠ b.toNatClampNeg → k ≠ s.toNatClampNeg → (oxS A B b s n).1 5 k = A 5 k := fun k k1 k2 => by
    rw [f5, r5, if_neg k2, if_neg k1]
  have one : ∀ (k : Nat) (v : Int), (A1 5 k).toInt = v → 0 ≤ v → v ≤ 99 → (oxS A B b s n).1 7 k = (if A1 5 k = 0 then 1 else 0) → (oxS A B b s n).1 6 k = qm A1 k → RQ (oxS A B b s n).1 k := by
    intro k v hv v0 v99 h7 h6
    unfold RQ
    rw [f5, h7, h6, hv]
    refine ⟨v0, v99, fun z => ?_⟩
    by_cases hz : A1 5 k = 0
    · rw [if_pos hz] at z; exact absurd z (by decide)
    · have hv1 : 1 ≤ (A1 5 k).toInt := by
        have : (A1 5 k).toInt ≠ 0 := fun q => hz (Int32.toInt_inj.mp (by rw [q]; decide))
        omega
      have := qm_rng hv1
      rw [hv] at this hv1
      exact ⟨hv1, fun _ => this⟩
  have wnew : ∀ (k : Nat) (sd : Int32), A 1 k = i → A 2 k = sd → (oxS A B b s n).1 7 k = (if A1 5 k = 0 then 1 else 0) → (if wts (oxS A B b s n).1 k i sd then ((oxS A B b s n).1 5 k).toInt else 0) = (A1 5 k).toInt := by
    intro k sd h1 h2 h7
    by_cases hz : A1 5 k = 0
    · rw [if_neg (fun w => by have := w.1; rw [h7, if_pos hz] at this; exact absurd this (by decide)), hz]; decide
    · rw [if_pos ⟨by rw [h7, if_neg hz], by rw [hk.1.2.1]; exact h1, by rw [hk.1.2.2.1]; exact h2⟩, f5]
  have woth : ∀ (k : Nat) (sd : Int32), ¬ A 2 k = sd → (if wts (oxS A B b s n).1 k i sd then ((oxS A B b s n).1 5 k).toInt else 0) = (if wts A k i sd then (A 5 k).toInt else 0) := by
    intro k sd h2
    rw [if_neg (fun w => h2 (by have := w.2.2; rw [hk.1.2.2.1] at this; exact this)), if_neg (fun w => h2 w.2.2)]
  have wsame : ∀ (k : Nat) (sd : Int32), k ≠ b.toNatClampNeg → k ≠ s.toNatClampNeg → (if wts (oxS A B b s n).1 k i sd then ((oxS A B b s n).1 5 k).toInt else 0) = (if wts A k i sd then (A 5 k).toInt else 0) := by
    intro k sd k1 k2
    unfold wts
    rw [f7o k k1 k2, f5o k k1 k2, hk.1.2.1, hk.1.2.2.1]
  have h15 : ((oxS A B b s n).1 15 0).toInt = (A 15 0).toInt + 1 := by rw [hk.2.1]; exact i_p1 hO.2.2 (by have := hV.2.2; omega)
  refine ⟨hn1.1, by omega, ⟨hO.re hk.1 (by rw [h15]; have := hO.2.2; omega), fun k hk2 => ?_, by rw [h15]; have := hV.2.2; omega⟩, ?_, ?_⟩
  · rw [hk.1.2.2.2.2.2.2] at hk2
    by_cases kb : k = b.toNatClampNeg
    · subst kb; exact one _ _ (by rw [r5b, eb]) (by omega) (by omega) f7b f6b
    · by_cases ks : k = s.toNatClampNeg
      · subst ks; exact one _ _ (by rw [r5s, es]) (by omega) (by omega) f7s f6s
      · exact (hV.2.1 k hk2).re (f5o k kb ks) (f6o k kb ks) (f7o k kb ks) (by rw [f3])
  · have := sm_upd (A := A) (A' := (oxS A B b s n).1) i 0 (b := b.toNatClampNeg) (n := n.toInt) (by rw [wnew _ 0 wb.2.1 wb.2.2 f7b, if_pos wb, r5b, eb]) (fun k kb => by
      by_cases ks : k = s.toNatClampNeg
      · subst ks; exact woth _ 0 (by rw [ws.2.2]; decide)
      · exact wsame k 0 kb ks) (cn A)
    rw [this, if_pos (by omega)]
  · have := sm_upd (A := A) (A' := (oxS A B b s n).1) i 1 (b := s.toNatClampNeg) (n := n.toInt) (by rw [wnew _ 1 ws.2.1 ws.2.2 f7s, if_pos ws, r5s, es]) (fun k ks => by
      by_cases kb : k = b.toNatClampNeg
      · subst kb; exact woth _ 1 (by rw [wb.2.2]; decide)
      · exact wsame k 1 kb ks) (cn A)
    rw [this, if_pos (by omega)]
theorem op_T (i : Int32) : ∀ (n : Nat) (A : Nat → Nat → Int32) (B : Nat → Nat → Int64) (lf : Int32) (t : Int), MV A t → lf.toInt ≤ sm A i 0 (cn A) → lf.toInt ≤ sm A i 1 (cn A) → lf.toInt ≤ n → n ≤ 20000 → -1000 ≤ lf.toInt → t + n < 2147483647 → opT i n (A, B) lf ∧ MV (opF i n (A, B) lf).1 (t + n) ∧ KM A (opF i n (A, B) lf).1 := by
  intro n
  induction n with
  | zero =>
    intro A B lf t hV h0 h1 hn _ _ _
    refine ⟨?_, ?_, KM.rf A⟩
    · show lf ≤ 0
      rw [i_le, show (0 : Int32).toInt = 0 by decide]; omega
    · exact ⟨hV.1, hV.2.1, by have := hV.2.2; show (A 15 0).toInt ≤ _; omega⟩
  | succ n ih =>
    intro A B lf t hV h0 h1 hn h2 h3 ht
    by_cases hl : lf ≤ 0
    · refine ⟨Or.inl hl, ?_⟩
      have : opF i (n + 1) (A, B) lf = (A, B) := by simp only [opF, if_pos hl]
      rw [this]
      exact ⟨⟨hV.1, hV.2.1, by have := hV.2.2; show (A 15 0).toInt ≤ _; omega⟩, KM.rf A⟩
    · have hl1 : 1 ≤ lf.toInt := by rw [i_le, show (0 : Int32).toInt = 0 by decide] at hl; omega
      have hc := hV.1.1
      have hcN : ((cn A : Nat) : Int) = (A 13 0).toInt := by rw [cn, i_nat]; have := hc.1; omega
      obtain ⟨kb, kb1, kbw⟩ := sm_pos (A := A) i 0 (cn A) (by omega)
      obtain ⟨ks, ks1, ksw⟩ := sm_pos (A := A) i 1 (cn A) (by omega)
      have hb0 := fr_ge hc i 0 (by omega) kbw
      have hs0 := fr_ge hc i 1 (by omega) ksw
      obtain ⟨n1, n99, hV', e0, e1⟩ := ox_ok (B := B) hV (by omega) (i := i) hb0 (fr_rng hc i 0).2 hs0 (fr_rng hc i 1).2 (fr_w hc i 0 hb0) (fr_w hc i 1 hs0) rfl
      have hk := oxS_KM (A := A) (B := B) (fr A i 0) (fr A i 1) (onN A (fr A i 0) (fr A i 1))
      have ec : cn (oxS A B (fr A i 0) (fr A i 1) (onN A (fr A i 0) (fr A i 1))).1 = cn A := by unfold cn; rw [hk.1.2.2.2.2.2.2]
      have el : (lf - onN A (fr A i 0) (fr A i 1)).toInt = lf.toInt - (onN A (fr A i 0) (fr A i 1)).toInt := Kit.i32_sub (by omega) (by omega)
      obtain ⟨i1, i2, i3⟩ := ih (oxS A B (fr A i 0) (fr A i 1) (onN A (fr A i 0) (fr A i 1))).1 (oxS A B (fr A i 0) (fr A i 1) (onN A (fr A i 0) (fr A i 1))).2 (lf - onN A (fr A i 0) (fr A i 1)) (t + 1) hV' (by rw [ec, e0, el]; omega) (by rw [ec, e1, el]; omega) (by rw [el]; omega) (by omega) (by rw [el]; omega) (by omega)
      have : opF i (n + 1) (A, B) lf = opF i n (oxS A B (fr A i 0) (fr A i 1) (onN A (fr A i 0) (fr A i 1))) (lf - onN A (fr A i 0) (fr A i 1)) := by simp only [opF, if_neg hl]
      rw [this]
      refine ⟨Or.inr ⟨hb0, hs0, i1⟩, ⟨i2.1, i2.2.1, ?_⟩, KM.tr hk.1 i3⟩
      have : ((opF i n (oxS A B (fr A i 0) (fr A i 1) (onN A (fr A i 0) (fr A i 1))) (lf - onN A (fr A i 0) (fr A i 1))).1 15 0).toInt ≤ t + 1 + n := i2.2.2
      omega
end MINV2
