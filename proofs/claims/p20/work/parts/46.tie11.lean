section TIE11
variable {N : Nat} {I : Nat → Nat → Int32} {J : Nat → Nat → Int64} {V : Nat → Nat → Int32} {ls : Nat → List Nat} {A : Nat → Nat → Int32} {B : Nat → Nat → Int64} {t : Int} {E : Nat → Prop}
/-- what a meeting has kept -/
def mtQ (N k : Nat) (S : cS) (R : mAB) (I A : Nat → Nat → Int32) (t u v : Int) : Prop := Tie nE N S.1 S.2.1 S.2.2.1 S.2.2.2 R.1 R.2 ∧ R.1 7 k = 3 ∧ (0 ≤ (R.1 14 0).toInt ∧ (R.1 14 0).toInt ≤ u) ∧ bV S.2.2.1 v ∧ KP I S.1 ∧ KM A R.1 ∧ CV N S.1 S.2.2.2 t ∧ MV R.1 t
/-- the meeting, in class and reference -/
theorem mt_tie {x : Int32} {k j : Nat} (hxk : x.toNatClampNeg = k) (hx0 : 0 ≤ x.toInt) (hk : k < N) : ∀ (n : Nat) (I : Nat → Nat → Int32) (J : Nat → Nat → Int64) (V : Nat → Nat → Int32) (ls : Nat → List Nat) (A : Nat → Nat → Int32) (B : Nat → Nat → Int64) (t u v : Int), Tie nE N I J V ls A B → CV N I ls t → MV A t → A 7 k = 3 → ((A 3 k = 3 → I 5 k = if A 2 k = 0 then 63 else 1) ∧ (¬ A 3 k = 3 → I 5 k = A 4 k)) → fdx (A 1 k).toNatClampNeg (A 2 k) = j → 0 ≤ (A 14 0).toInt → (A 14 0).toInt ≤ u → u + n < 2147483647 → t + n < 2147483647 → bV V v → v + 198 * n < 2147483648 → (A 5 k).toInt + rc A N ≤ n →
    mtQ N k (mtF k j n (I, J, V, ls)) (mmF x (n + 1) (A, B)) I A (t + n) (u + n) (v + 198 * n)
  | n, I, J, V, ls, A, B, t, u, v, h, hV, hM, h3, hl, hj, h0, hu, hun, ht, hbv, hv, hms => by
    have hN := h.1.1
    have hcN : (A 13 0).toNatClampNeg = N := by rw [i_nat]; omega
    have hk5 := (hM.2.1 k (by omega)).1
    have z0 : (0 : Int32).toInt = 0 := by decide
    have stop : (meM A B x).1 = 0 → (meM A B x).2 = (A, B) → mtF k j n (I, J, V, ls) = (I, J, V, ls) → mtQ N k (mtF k j n (I, J, V, ls)) (mmF x (n + 1) (A, B)) I A (t + n) (u + n) (v + 198 * n) := fun e1 e2 e3 => by
      have em : mmF x (n + 1) (A, B) = (A, B) := by
        unfold mmF
        rw [if_pos e1, e2]
      rw [em, e3]
      exact ⟨h, h3, ⟨h0, by show (A 14 0).toInt ≤ _; omega⟩, hbv.up (by omega), KP.rf _, KM.rf _, hV.up (by omega), hM.up (by omega)⟩
    match n with
    | 0 =>
      have c5 : A 5 k = 0 := Int32.toInt_inj.mp (by omega)
      refine stop ?_ ?_ rfl
      · unfold meM; rw [hxk, if_pos c5]
      · unfold meM; rw [hxk, if_pos c5]
    | n + 1 =>
      rcases mt_step h hV hM hxk hx0 hk h3 hl hj h0 (by omega) (by omega) hbv (by omega) (B := B) with ⟨e1, e2, e3⟩ | ⟨I', J', V', ls', e1, e2, hT, hV', hkp, h3', h14', hbv'⟩
      · exact stop e1 e2 (e3 _)
      · rcases meM_ok (B := B) hM hx0 (by rw [i_nat] at hxk; omega) (by rw [hxk, h3]; decide) (by omega) with ⟨q, _⟩ | ⟨-, hM', -, hlt⟩
        · exact absurd q e2
        · have hkm := (meM_KM (A := A) (B := B) x).1
          have em : mmF x (n + 1 + 1) (A, B) = mmF x (n + 1) ((meM A B x).2.1, (meM A B x).2.2) := by
            conv => lhs; unfold mmF
            rw [if_neg e2]
          rw [hxk, hcN] at hlt
          have ih := mt_tie (j := j) hxk hx0 hk n I' J' V' ls' (meM A B x).2.1 (meM A B x).2.2 (t + 1) (u + 1) (v + 198) hT hV' hM' h3' (by rw [hkm.2.2.2.1, hkm.2.2.1, hkm.2.2.2.2.1, hkp.2.2.2.2.2.1]; exact hl) (by rw [hkm.2.1, hkm.2.2.1]; exact hj) h14'.1 (by omega) (by omega) (by omega) hbv' (by omega) (by omega)
          rw [e1 n, em]
          obtain ⟨i1, i2, i3, i4, i5, i6, i7, i8⟩ := ih
          exact ⟨i1, i2, ⟨i3.1, by have := i3.2; omega⟩, i4.up (by omega), hkp.tr i5, hkm.tr i6, i7.up (by omega), i8.up (by omega)⟩
/-- the end of an admission -/
theorem ad_tie (h : Tie nE N I J V ls A B) (hC : CI N I ls) {x kd : Int32} {k i : Nat} (hxk : x.toNatClampNeg = k) (hk : k < N) (h3 : A 7 k = 3) (hl : ¬ A 3 k = 3 → I 5 k = A 4 k) (hkd : A 3 k = kd) (hi : (A 1 k).toNatClampNeg = i) (hi2 : i < 2) (h0 : 0 ≤ (A 14 0).toInt) (h1 : (A 14 0).toInt < 2147483647) : Tie nE N (ad2 (I, J, V, ls) k i).1 (ad2 (I, J, V, ls) k i).2.1 (ad2 (I, J, V, ls) k i).2.2.1 (ad2 (I, J, V, ls) k i).2.2.2 (pmE A kd x) B ∧ (∀ o, o < N → o ≠ k → pmE A kd x 7 o = A 7 o) ∧ ¬ pmE A kd x 7 k = 3 ∧ (0 ≤ (pmE A kd x 14 0).toInt ∧ (pmE A kd x 14 0).toInt ≤ (A 14 0).toInt + 1) := by
  have q := (h.1.2 k hk).1
  have hs : A 2 k = 0 ∨ A 2 k = 1 := by rw [← q.2.2.2.1]; exact (hC.1 k hk).2.2.1
  have fin : ∀ st : Int32, ¬ st = 0 → ¬ st = 3 → Tie nE N (si I 8 k st) J V ls (si A 7 k st) B ∧ (∀ o, o < N → o ≠ k → si A 7 k st 7 o = A 7 o) ∧ ¬ si A 7 k st 7 k = 3 ∧ (0 ≤ (si A 7 k st 14 0).toInt ∧ (si A 7 k st 14 0).toInt ≤ (A 14 0).toInt + 1) := fun st s0 s3 => by
    have e14 : si A 7 k st 14 = A 14 := si_c (by decide)
    refine ⟨⟨h.1.st s0 s3, h.2.1.pd (by rw [h3]; decide) s0, h.2.2.re rfl rfl rfl rfl rfl rfl rfl rfl rfl⟩, fun o _ ho => si_k ho, by rw [si_eq]; exact s3, ?_⟩
    rw [e14]; omega
  unfold ad2 pmE
  rw [hxk]
  simp only
  rw [q.2.2.2.2.2.1, q.2.2.2.2.1, hkd]
  by_cases c5 : A 5 k = 0
  · rw [if_pos c5, if_pos c5]; exact fin 1 (by decide) (by decide)
  rw [if_neg c5, if_neg c5]
  by_cases k1 : kd = 1
  · rw [if_pos k1, if_pos k1]; exact fin 2 (by decide) (by decide)
  rw [if_neg k1, if_neg k1]
  by_cases k3 : kd = 3
  · rw [if_pos k3, if_neg (fun z => z k3)]; exact fin 2 (by decide) (by decide)
  rw [if_neg k3, if_pos k3]
  have e5 := hl (by rw [hkd]; exact k3)
  have hj : sdx (A 1 k).toNatClampNeg (A 2 k) = sdx i (I 3 k) := by rw [hi, q.2.2.2.1]
  have e14 : (qeA A k 14 0).toInt = (A 14 0).toInt + 1 := i_p1 h0 h1
  refine ⟨⟨h.1.jn e5 h3 h0 h1, tiL.jn h.1 h.2.1 hk hj (sdx_lt hi2 _) (sdx_par hs hj) rfl rfl e5 h3, h.2.2.re rfl rfl rfl rfl rfl rfl rfl rfl rfl⟩, fun o _ ho => qe_c (by decide) ho, ?_, ?_⟩
  · have : qeA A k 7 k = 0 := si_eq A 7 k 0
    rw [this]; decide
  · rw [e14]; omega
end TIE11
