section MINV
variable {A : Nat → Nat → Int32} {B : Nat → Nat → Int64}
/-- an order of the reference: what rests is at least 1 and at most 99 -/
def RQ (A : Nat → Nat → Int32) (k : Nat) : Prop := 0 ≤ (A 5 k).toInt ∧ (A 5 k).toInt ≤ 99 ∧ (A 7 k = 0 → 1 ≤ (A 5 k).toInt ∧ (A 3 k = 5 → 1 ≤ (A 6 k).toInt ∧ (A 6 k).toInt ≤ (A 5 k).toInt))
def MV (A : Nat → Nat → Int32) (t : Int) : Prop := OM A ∧ (∀ k : Nat, (k : Int) < (A 13 0).toInt → RQ A k) ∧ (A 15 0).toInt ≤ t
theorem RQ.re {A' : Nat → Nat → Int32} {k : Nat} (q : RQ A k) (h5 : A' 5 k = A 5 k) (h6 : A' 6 k = A 6 k) (h7 : A' 7 k = A 7 k) (h3 : A' 3 k = A 3 k) : RQ A' k := by
  unfold RQ at q ⊢
  rw [h5, h6, h7, h3]
  exact q
/-- resting orders below c -/
def rc (A : Nat → Nat → Int32) : Nat → Nat
  | 0 => 0
  | c + 1 => rc A c + (if A 7 c = 0 then 1 else 0)
theorem rc_le {A' : Nat → Nat → Int32} : ∀ (c : Nat), (∀ k < c, A' 7 k = 0 → A 7 k = 0) → rc A' c ≤ rc A c
  | 0, _ => Nat.le_refl _
  | c + 1, h => by
    have ih := rc_le c (fun k hk => h k (Nat.lt_succ_of_lt hk))
    unfold rc
    have := h c (Nat.lt_succ_self c)
    by_cases h1 : A' 7 c = 0
    · rw [if_pos h1, if_pos (this h1)]; omega
    · rw [if_neg h1]; omega
theorem rc_lt {A' : Nat → Nat → Int32} {y : Nat} (h0 : A 7 y = 0) (h1 : ¬ A' 7 y = 0) : ∀ (c : Nat), y < c → (∀ k < c, A' 7 k = 0 → A 7 k = 0) → rc A' c < rc A c
  | 0, hy, _ => absurd hy (by omega)
  | c + 1, hy, h => by
    unfold rc
    by_cases hyc : y = c
    · subst hyc
      have ih := rc_le (A := A) (A' := A') y (fun k hk => h k (Nat.lt_succ_of_lt hk))
      rw [if_neg h1, if_pos h0]; omega
    · have ih := rc_lt h0 h1 c (by omega) (fun k hk => h k (Nat.lt_succ_of_lt hk))
      have := h c (Nat.lt_succ_self c)
      by_cases h2 : A' 7 c = 0
      · rw [if_pos h2, if_pos (this h2)]; omega
      · rw [if_neg h2]; omega
theorem rc_c : ∀ c : Nat, rc A c ≤ c
  | 0 => Nat.le_refl _
  | c + 1 => by
    have := rc_c c
    unfold rc
    split <;> omega
/-- who stands in front waits -/
theorem frF_w (i s : Int32) : ∀ (n : Nat) (o f : Int32), 0 ≤ o.toInt → o.toInt + n ≤ 120 → (f.toInt < 0 ∨ wts A f.toNatClampNeg i s) → ((frF A i s n o f).toInt < 0 ∨ wts A (frF A i s n o f).toNatClampNeg i s)
  | 0, _, _, _, _, h => h
  | n + 1, o, f, h0, h1, h => by
    unfold frF
    refine frF_w i s n _ _ (by rw [i_inc (by omega) (by omega)]; omega) (by rw [i_inc (by omega) (by omega)]; omega) ?_
    by_cases hw : b01 (wts A o.toNatClampNeg i s) = 0
    · have : frS A i s o f = f := by unfold frS; rw [if_pos hw]
      rw [this]; exact h
    · rcases frS_cs A i s o f with q | q
      · rw [q]; exact h
      · rw [q]; exact Or.inr (b01_nz.mp hw)
theorem fr_w (hc : MC A) (i s : Int32) (h : 0 ≤ (fr A i s).toInt) : wts A (fr A i s).toNatClampNeg i s := by
  have e : ((A 13 0).toNatClampNeg : Int) = (A 13 0).toInt := by rw [i_nat]; have := hc.1; omega
  have := hc.2
  have z0 : (0 : Int32).toInt = 0 := by decide
  have := frF_w (A := A) i s (A 13 0).toNatClampNeg 0 (-1) (by decide) (by omega) (Or.inl (by decide))
  rcases this with q | q
  · exact absurd h (by unfold fr; omega)
  · exact q
/-- if one waits, one stands in front -/
theorem frF_ge (i s : Int32) : ∀ (n : Nat) (o f : Int32), 0 ≤ o.toInt → o.toInt + n ≤ 120 → -1 ≤ f.toInt → f.toInt < o.toInt → (0 ≤ f.toInt ∨ ∃ k : Nat, o.toInt ≤ k ∧ (k : Int) < o.toInt + n ∧ wts A k i s) → 0 ≤ (frF A i s n o f).toInt
  | 0, o, f, _, _, _, _, h => by
    rcases h with h | ⟨k, h1, h2, -⟩
    · exact h
    · omega
  | n + 1, o, f, h0, h1, h2, h3, h => by
    have e := i_inc (p := o) (by omega) (by omega)
    unfold frF
    have hcs := frS_cs A i s o f
    refine frF_ge i s n _ _ (by rw [e]; omega) (by rw [e]; omega) (by rcases hcs with q | q <;> rw [q] <;> omega) (by rw [e]; rcases hcs with q | q <;> rw [q] <;> omega) ?_
    by_cases hf : 0 ≤ f.toInt
    · rcases hcs with q | q
      · rw [q]; exact Or.inl hf
      · rw [q]; exact Or.inl h0
    · rcases h with h | ⟨k, k1, k2, kw⟩
      · exact absurd h hf
      · by_cases hk : (k : Int) = o.toInt
        · have hko : o.toNatClampNeg = k := by rw [i_nat]; omega
          have : frS A i s o f = o := by
            unfold frS
            rw [if_neg (b01_nz.mpr (by rw [hko]; exact kw)), if_pos (by rw [i_lt]; have : (0 : Int32).toInt = 0 := by decide
                                                                        omega)]
          rw [this]; exact Or.inl h0
        · exact Or.inr ⟨k, by rw [e]; omega, by rw [e]; omega, kw⟩
theorem fr_ge (hc : MC A) (i s : Int32) {k : Nat} (hk : (k : Int) < (A 13 0).toInt) (hw : wts A k i s) : 0 ≤ (fr A i s).toInt := by
  have e : ((A 13 0).toNatClampNeg : Int) = (A 13 0).toInt := by rw [i_nat]; have := hc.1; omega
  have := hc.2
  have z0 : (0 : Int32).toInt = 0 := by decide
  exact frF_ge i s (A 13 0).toNatClampNeg 0 (-1) (by decide) (by omega) (by decide) (by decide) (Or.inr ⟨k, by omega, by omega, hw⟩)
theorem sw_rest {b s : Int32} (p n : Int32) (k : Nat) (hbs : b.toNatClampNeg ≠ s.toNatClampNeg) : swA A b s p n 5 k = if k = s.toNatClampNeg then A 5 s.toNatClampNeg - n else if k = b.toNatClampNeg then A 5 b.toNatClampNeg - n else A 5 k := by
  show x_uf (x_uf (A 5) b.toNatClampNeg (A 5 b.toNatClampNeg - n)) s.toNatClampNeg (x_uf (A 5) b.toNatClampNeg (A 5 b.toNatClampNeg - n) s.toNatClampNeg - n) k = _
  rw [x_uf_ne (A 5) _ (Ne.symm hbs)]
  unfold x_uf
  rfl
theorem sw_c (b s p n : Int32) : swA A b s p n 6 = A 6 ∧ swA A b s p n 7 = A 7 ∧ swA A b s p n 3 = A 3 ∧ swA A b s p n 13 = A 13 := ⟨rfl, rfl, rfl, rfl⟩
theorem si6_5 (W : Nat → Nat → Int32) (k : Nat) (v : Int32) : si W 6 k v 5 = W 5 ∧ si W 6 k v 7 = W 7 ∧ si W 6 k v 3 = W 3 ∧ si W 6 k v 13 = W 13 ∧ si W 6 k v 6 = x_uf (W 6) k v := ⟨rfl, rfl, rfl, rfl, rfl⟩
theorem qm_rng {k : Nat} (h1 : 1 ≤ (A 5 k).toInt) : 1 ≤ (qm A k).toInt ∧ (qm A k).toInt ≤ (A 5 k).toInt := by
  unfold qm
  split
  · rename_i h; rw [i_le, show (5 : Int32).toInt = 5 by decide] at h; rw [show (5 : Int32).toInt = 5 by decide]; omega
  · omega
/-- a meeting of the reference: it ends, or goes on with less -/
theorem meM_ok {x : Int32} {t : Int} (hV : MV A t) (hx0 : 0 ≤ x.toInt) (hx1 : x.toInt < (A 13 0).toInt) (hxs : ¬ A 7 x.toNatClampNeg = 0) (ht : t < 2147483647) :
    ((meM A B x).1 = 0 ∧ (meM A B x).2 = (A, B)) ∨ (¬ (meM A B x).1 = 0 ∧ MV (meM A B x).2.1 (t + 1) ∧ ¬ (meM A B x).2.1 7 x.toNatClampNeg = 0 ∧ ((meM A B x).2.1 5 x.toNatClampNeg).toInt + rc (meM A B x).2.1 (A 13 0).toNatClampNeg < (A 5 x.toNatClampNeg).toInt + rc A (A 13 0).toNatClampNeg) := by
  have hkm := meM_KM (A := A) (B := B) x
  have hO := hV.1
  have hc := hO.1
  have hx : (x.toNatClampNeg : Int) < (A 13 0).toInt := by rw [i_nat]; omega
  have hqx := hV.2.1 _ hx
  have hcN : ((A 13 0).toNatClampNeg : Int) = (A 13 0).toInt := by rw [i_nat]; have := hc.1; omega
  have hO' : OM (meM A B x).2.1 ∧ ((meM A B x).2.1 15 0).toInt ≤ t + 1 := by
    have h15 := hV.2.2
    have h150 := hO.2.2
    rcases hkm.2 with q | q
    · exact ⟨hO.re hkm.1 (by rw [q]; exact h150), by rw [q]; omega⟩
    · have e : ((meM A B x).2.1 15 0).toInt = (A 15 0).toInt + 1 := by rw [q]; exact i_p1 h150 (by omega)
      exact ⟨hO.re hkm.1 (by rw [e]; omega), by rw [e]; omega⟩
  have k13 := hkm.1.2.2.2.2.2.2
  unfold meM at hO' k13 ⊢
  generalize hy : fr A (A 1 x.toNatClampNeg) (1 - A 2 x.toNatClampNeg) = y at hO' k13 ⊢
  by_cases h1 : A 5 x.toNatClampNeg = 0
  · simp only [if_pos h1]; exact Or.inl ⟨trivial, trivial⟩
  by_cases h2 : y < 0
  · simp only [if_neg h1, if_pos h2]; exact Or.inl ⟨trivial, trivial⟩
  by_cases h3 : b01 (gdm (A 3 x.toNatClampNeg) (A 2 x.toNatClampNeg) (A 4 x.toNatClampNeg) (A 4 y.toNatClampNeg)) = 0
  · simp only [if_neg h1, if_neg h2, if_pos h3]; exact Or.inl ⟨trivial, trivial⟩
  have hy0 : 0 ≤ y.toInt := by rw [i_lt, show (0 : Int32).toInt = 0 by decide] at h2; omega
  have hyr : y.toInt < (A 13 0).toInt := by rw [← hy]; exact (fr_rng hc _ _).2
  have hyw : A 7 y.toNatClampNeg = 0 := by rw [← hy] at hy0 ⊢; exact (fr_w hc _ _ hy0).1
  have hyN : (y.toNatClampNeg : Int) < (A 13 0).toInt := by rw [i_nat]; omega
  have hxy : y.toNatClampNeg ≠ x.toNatClampNeg := fun q => hxs (by rw [← q]; exact hyw)
  have hqy := hV.2.1 _ hyN
  by_cases h4 : A 0 y.toNatClampNeg = A 0 x.toNatClampNeg
  · simp only [if_neg h1, if_neg h2, if_neg h3, if_pos h4] at hO' k13 ⊢
    refine Or.inr ⟨by decide, ⟨hO'.1, fun k hk => ?_, hO'.2⟩, ?_, ?_⟩
    · by_cases hky : k = y.toNatClampNeg
      · subst hky
        refine ⟨hqy.1, hqy.2.1, fun z => ?_⟩
        have : x_uf (A 7) y.toNatClampNeg 2 y.toNatClampNeg = 0 := z
        rw [x_uf_self] at this
        exact absurd this (by decide)
      · exact (hV.2.1 k hk).re rfl rfl (x_uf_ne _ _ hky) rfl
    · show ¬ x_uf (A 7) y.toNatClampNeg 2 x.toNatClampNeg = 0
      rw [x_uf_ne _ _ (Ne.symm hxy)]; exact hxs
    · have := rc_lt (A := A) (A' := si A 7 y.toNatClampNeg 2) hyw (by show ¬ x_uf (A 7) y.toNatClampNeg 2 y.toNatClampNeg = 0; rw [x_uf_self]; decide) (A 13 0).toNatClampNeg (by omega) (fun k _ hk => by
        by_cases hky : k = y.toNatClampNeg
        · rw [hky]; exact hyw
        · have hk : x_uf (A 7) y.toNatClampNeg 2 k = 0 := hk
          rwa [x_uf_ne _ _ hky] at hk)
      show (A 5 x.toNatClampNeg).toInt + _ < _
      omega
  · simp only [if_neg h1, if_neg h2, if_neg h3, if_neg h4] at hO' k13 ⊢
    -- the amount
    have hrx : 1 ≤ (A 5 x.toNatClampNeg).toInt := by
      have h5 : (A 5 x.toNatClampNeg).toInt ≠ 0 := fun q => h1 (Int32.toInt_inj.mp (by rw [q]; decide))
      have := hqx.1
      omega
    have hsh : 1 ≤ (shs A y.toNatClampNeg).toInt ∧ (shs A y.toNatClampNeg).toInt ≤ (A 5 y.toNatClampNeg).toInt ∧ (A 3 y.toNatClampNeg = 5 → shs A y.toNatClampNeg = A 6 y.toNatClampNeg) := by
      have h7 := hqy.2.2 hyw
      unfold shs
      split
      · rename_i h5
        exact ⟨(h7.2 h5).1, (h7.2 h5).2, fun _ => rfl⟩
      · rename_i h5
        exact ⟨h7.1, Int.le_refl _, fun z => absurd z h5⟩
    generalize hn : mtN A x y = n at hO' k13 ⊢
    have hn1 : 1 ≤ n.toInt ∧ n.toInt ≤ (A 5 x.toNatClampNeg).toInt ∧ n.toInt ≤ (shs A y.toNatClampNeg).toInt := by
      rw [← hn]
      unfold mtN
      split
      · rename_i h5; rw [i_le] at h5; omega
      · rename_i h5; rw [i_le] at h5; omega
    have hx99 := hqx.2.1
    have hy99 := hqy.2.1
    have ex : (A 5 x.toNatClampNeg - n).toInt = (A 5 x.toNatClampNeg).toInt - n.toInt := Kit.i32_sub (by omega) (by omega)
    have ey : (A 5 y.toNatClampNeg - n).toInt = (A 5 y.toNatClampNeg).toInt - n.toInt := Kit.i32_sub (by omega) (by omega)
    -- the state behind the trade, ahead of its last step
    have key : ∀ A1 : Nat → Nat → Int32, (∀ k, A1 5 k = if k = y.toNatClampNeg then A 5 y.toNatClampNeg - n else if k = x.toNatClampNeg then A 5 x.toNatClampNeg - n else A 5 k) → (∀ k, A1 6 k = if k = y.toNatClampNeg then A 6 y.toNatClampNeg - n else A 6 k) → A1 7 = A 7 → A1 3 = A 3 → A1 13 = A 13 →
        (∀ k : Nat, (k : Int) < (A 13 0).toInt → RQ (mt2 A1 y.toNatClampNeg) k) ∧ ¬ mt2 A1 y.toNatClampNeg 7 x.toNatClampNeg = 0 ∧ (mt2 A1 y.toNatClampNeg 5 x.toNatClampNeg).toInt + rc (mt2 A1 y.toNatClampNeg) (A 13 0).toNatClampNeg < (A 5 x.toNatClampNeg).toInt + rc A (A 13 0).toNatClampNeg := by
      intro A1 a5 a6 a7 a3 a13
      have a5x : A1 5 x.toNatClampNeg = A 5 x.toNatClampNeg - n := by rw [a5, if_neg (Ne.symm hxy), if_pos rfl]
      have a5y : A1 5 y.toNatClampNeg = A 5 y.toNatClampNeg - n := by rw [a5, if_pos rfl]
      have a6y : A1 6 y.toNatClampNeg = A 6 y.toNatClampNeg - n := by rw [a6, if_pos rfl]
      -- other orders
      have oth : ∀ k : Nat, (k : Int) < (A 13 0).toInt → k ≠ y.toNatClampNeg → ∀ A2 : Nat → Nat → Int32, A2 5 k = A1 5 k → A2 6 k = A1 6 k → A2 7 k = A1 7 k → A2 3 k = A1 3 k → RQ A2 k := by
        intro k hk hky A2 b5 b6 b7 b3
        have hq := hV.2.1 k hk
        by_cases hkx : k = x.toNatClampNeg
        · subst hkx
          unfold RQ
          rw [b5, b7, a5x, a7, ex]
          exact ⟨by omega, by omega, fun z => absurd z hxs⟩
        · refine hq.re ?_ ?_ ?_ ?_
          · rw [b5, a5, if_neg hky, if_neg hkx]
          · rw [b6, a6, if_neg hky]
          · rw [b7, a7]
          · rw [b3, a3]
      have fin : ∀ A2 : Nat → Nat → Int32, A2 5 = A1 5 → (∀ k, k ≠ y.toNatClampNeg → A2 7 k = A1 7 k) → ¬ A2 7 x.toNatClampNeg = 0 ∧ (A2 5 x.toNatClampNeg).toInt + rc A2 (A 13 0).toNatClampNeg < (A 5 x.toNatClampNeg).toInt + rc A (A 13 0).toNatClampNeg := by
        intro A2 b5 b7
        refine ⟨by rw [b7 _ (Ne.symm hxy), a7]; exact hxs, ?_⟩
        have := rc_le (A := A) (A' := A2) (A 13 0).toNatClampNeg (fun k _ hk => by
          by_cases hky : k = y.toNatClampNeg
          · rw [hky]; exact hyw
          · rw [b7 k hky, a7] at hk; exact hk)
        rw [b5, a5x, ex]
        omega
      unfold mt2
      by_cases z1 : A1 5 y.toNatClampNeg = 0
      · rw [if_pos z1]
        refine ⟨fun k hk => ?_, fin _ rfl (fun k hk => x_uf_ne _ _ hk)⟩
        by_cases hky : k = y.toNatClampNeg
        · subst hky
          refine ⟨?_, ?_, fun z => ?_⟩
          · show 0 ≤ (A1 5 y.toNatClampNeg).toInt
            rw [a5y, ey]; omega
          · show (A1 5 y.toNatClampNeg).toInt ≤ 99
            rw [a5y, ey]; omega
          · have : x_uf (A1 7) y.toNatClampNeg 1 y.toNatClampNeg = 0 := z
            rw [x_uf_self] at this
            exact absurd this (by decide)
        · exact oth k hk hky _ rfl rfl (x_uf_ne _ _ hky) rfl
      · rw [if_neg z1]
        have hy1 : 1 ≤ (A1 5 y.toNatClampNeg).toInt := by
          have h5 : (A1 5 y.toNatClampNeg).toInt ≠ 0 := fun q => z1 (Int32.toInt_inj.mp (by rw [q]; decide))
          rw [a5y, ey] at h5 ⊢
          omega
        have keep : (A 3 y.toNatClampNeg = 5 → ¬ A1 6 y.toNatClampNeg = 0) → (∀ k : Nat, (k : Int) < (A 13 0).toInt → RQ A1 k) := by
          intro hz k hk
          by_cases hky : k = y.toNatClampNeg
          · subst hky
            refine ⟨by omega, by rw [a5y, ey]; omega, fun _ => ⟨hy1, fun h5 => ?_⟩⟩
            rw [a3] at h5
            have h6 := (hqy.2.2 hyw).2 h5
            have hs := hsh.2.2 h5
            rw [hs] at hn1
            have e6 : (A1 6 y.toNatClampNeg).toInt = (A 6 y.toNatClampNeg).toInt - n.toInt := by rw [a6y]; exact Kit.i32_sub (by omega) (by omega)
            have h60 : (A1 6 y.toNatClampNeg).toInt ≠ 0 := fun q => hz h5 (Int32.toInt_inj.mp (by rw [q]; decide))
            rw [e6] at h60 ⊢
            rw [a5y, ey]
            omega
          · exact oth k hk hky _ rfl rfl rfl rfl
        by_cases z3 : A1 3 y.toNatClampNeg = 5
        · rw [if_pos z3]
          by_cases z6 : A1 6 y.toNatClampNeg = 0
          · rw [if_pos z6]
            refine ⟨fun k hk => ?_, fin _ rfl (fun k hk => x_uf_ne _ _ hk)⟩
            by_cases hky : k = y.toNatClampNeg
            · subst hky
              have hq := qm_rng hy1
              refine ⟨?_, ?_, fun _ => ⟨?_, fun _ => ?_⟩⟩
              · show 0 ≤ (A1 5 y.toNatClampNeg).toInt
                omega
              · show (A1 5 y.toNatClampNeg).toInt ≤ 99
                rw [a5y, ey]; omega
              · show 1 ≤ (A1 5 y.toNatClampNeg).toInt
                exact hy1
              · show 1 ≤ (x_uf (A1 6) y.toNatClampNeg (qm A1 y.toNatClampNeg) y.toNatClampNeg).toInt ∧ (x_uf (A1 6) y.toNatClampNeg (qm A1 y.toNatClampNeg) y.toNatClampNeg).toInt ≤ (A1 5 y.toNatClampNeg).toInt
                rw [x_uf_self]; exact hq
            · exact oth k hk hky _ rfl (x_uf_ne _ _ hky) (x_uf_ne _ _ hky) rfl
          · rw [if_neg z6]
            exact ⟨keep (fun _ => z6), fin _ rfl (fun _ _ => rfl)⟩
        · rw [if_neg z3]
          exact ⟨keep (fun h5 => absurd (by rw [a3]; exact h5) z3), fin _ rfl (fun _ _ => rfl)⟩
    have hxy' := Ne.symm hxy
    by_cases hs : A 2 x.toNatClampNeg = 0
    · have k1 := key (si (swA A x y (A 4 y.toNatClampNeg) n) 6 y.toNatClampNeg (A 6 y.toNatClampNeg - n)) (fun k => by
        rw [(si6_5 _ _ _).1]
        exact sw_rest (A := A) (b := x) (s := y) (A 4 y.toNatClampNeg) n k hxy') (fun k => by rw [(si6_5 _ _ _).2.2.2.2, (sw_c x y _ n).1]; rfl) (by rw [(si6_5 _ _ _).2.1]; exact (sw_c x y _ n).2.1) (by rw [(si6_5 _ _ _).2.2.1]; exact (sw_c x y _ n).2.2.1) (by rw [(si6_5 _ _ _).2.2.2.1]; exact (sw_c x y _ n).2.2.2)
      have e : mt1 A x y n = mt2 (si (swA A x y (A 4 y.toNatClampNeg) n) 6 y.toNatClampNeg (A 6 y.toNatClampNeg - n)) y.toNatClampNeg := if_pos hs
      rw [e] at hO' k13 ⊢
      exact Or.inr ⟨by decide, ⟨hO'.1, fun k hk => k1.1 k (by rw [k13] at hk; exact hk), hO'.2⟩, k1.2⟩
    · have k1 := key (si (swA A y x (A 4 y.toNatClampNeg) n) 6 y.toNatClampNeg (A 6 y.toNatClampNeg - n)) (fun k => by
        have := sw_rest (A := A) (b := y) (s := x) (A 4 y.toNatClampNeg) n k hxy
        rw [(si6_5 _ _ _).1, this]
        by_cases q1 : k = x.toNatClampNeg
        · rw [if_pos q1, if_neg (by rw [q1]; exact hxy'), if_pos q1]
        · rw [if_neg q1]
          by_cases q2 : k = y.toNatClampNeg
          · rw [if_pos q2, if_pos q2]
          · rw [if_neg q2, if_neg q2, if_neg q1]) (fun k => by rw [(si6_5 _ _ _).2.2.2.2, (sw_c y x _ n).1]; rfl) (by rw [(si6_5 _ _ _).2.1]; exact (sw_c y x _ n).2.1) (by rw [(si6_5 _ _ _).2.2.1]; exact (sw_c y x _ n).2.2.1) (by rw [(si6_5 _ _ _).2.2.2.1]; exact (sw_c y x _ n).2.2.2)
      have e : mt1 A x y n = mt2 (si (swA A y x (A 4 y.toNatClampNeg) n) 6 y.toNatClampNeg (A 6 y.toNatClampNeg - n)) y.toNatClampNeg := if_neg hs
      rw [e] at hO' k13 ⊢
      exact Or.inr ⟨by decide, ⟨hO'.1, fun k hk => k1.1 k (by rw [k13] at hk; exact hk), hO'.2⟩, k1.2⟩
theorem mm_ok {x : Int32} (hx0 : 0 ≤ x.toInt) : ∀ (n : Nat) (A : Nat → Nat → Int32) (B : Nat → Nat → Int64) (t : Int), MV A t → x.toInt < (A 13 0).toInt → ¬ A 7 x.toNatClampNeg = 0 → t + n < 2147483648 → (A 5 x.toNatClampNeg).toInt + rc A (A 13 0).toNatClampNeg < n → mmT x n (A, B) ∧ MV (mmF x n (A, B)).1 (t + n) ∧ KM A (mmF x n (A, B)).1 ∧ ¬ (mmF x n (A, B)).1 7 x.toNatClampNeg = 0 := by
  intro n
  induction n with
  | zero =>
    intro A B t hV hx1 _ _ hn
    have := (hV.2.1 x.toNatClampNeg (by rw [i_nat]; omega)).1
    omega
  | succ n ih =>
    intro A B t hV hx1 hxs ht hn
    rcases meM_ok (B := B) hV hx0 hx1 hxs (by omega) with ⟨z, e⟩ | ⟨z, hV', hxs', hmu⟩
    · refine ⟨Or.inl z, ?_⟩
      have : mmF x (n + 1) (A, B) = (A, B) := by simp only [mmF, if_pos z, e]
      rw [this]
      exact ⟨⟨hV.1, hV.2.1, by have := hV.2.2; show (A 15 0).toInt ≤ _; omega⟩, KM.rf A, hxs⟩
    · have hk := (meM_KM (A := A) (B := B) x).1
      have k13 := hk.2.2.2.2.2.2
      obtain ⟨i1, i2, i3, i4⟩ := ih (meM A B x).2.1 (meM A B x).2.2 (t + 1) hV' (by rw [k13]; exact hx1) hxs' (by omega) (by rw [k13]; omega)
      have : mmF x (n + 1) (A, B) = mmF x n (meM A B x).2 := by simp only [mmF, if_neg z]
      rw [this]
      refine ⟨Or.inr i1, ⟨i2.1, i2.2.1, ?_⟩, KM.tr hk i3, i4⟩
      have : ((mmF x n (meM A B x).2).1 15 0).toInt ≤ t + 1 + n := i2.2.2
      omega
end MINV
