section TIE24
variable {N : Nat} {I : Nat → Nat → Int32} {J : Nat → Nat → Int64} {P : Nat → Nat → Option xQ} {V : Nat → Nat → Int32} {ls : Nat → List Nat} {A : Nat → Nat → Int32} {B : Nat → Nat → Int64} {t : Int} {E : Nat → Prop}
theorem TX.flag (h : TX N (I, J, V, ls) (A, B) t) (k : Nat) (v : Int32) : TX N (si I 10 k v, J, V, ls) (si A 10 k v, B) t := by
  have hT : Tie nE N I J V ls A B := h.1
  have o1 : tiO nE N (si I 10 k v) (si A 10 k v) := hT.1.re (fun c hc => si_c (by omega)) (fun c hc => si_c (by omega)) (si_c (by decide)) (si_c (by decide))
  have l1 : tiL N ls (si A 10 k v) := hT.2.1.re (si_c (by decide)) (si_c (by decide)) (si_c (by decide)) (si_c (by decide)) (si_c (by decide))
  refine ⟨⟨o1, l1, ⟨fun m hm => ⟨(hT.2.2.1 m hm).1, (hT.2.2.1 m hm).2.1, ?_⟩, fun j hj => ⟨?_, ?_⟩, ?_, ?_⟩⟩, ?_, ?_, h.2.2.2⟩
  · show ∀ i, i < 2 → V m i = si A 10 k v 9 (2 * m + i)
    rw [si_c (by decide)]; exact (hT.2.2.1 m hm).2.2
  · exact uf_re (n := 2) (fun r hr => (hT.2.2.2.1 r hr).1) rfl j hj
  · show si I 10 k v 11 j = si A 10 k v 11 j
    rw [si_c (by decide), si_c (by decide)]; exact (hT.2.2.2.1 j hj).2
  · show si I 10 k v 13 0 = si A 10 k v 15 0
    rw [si_c (by decide), si_c (by decide)]; exact hT.2.2.2.2.1
  · show ∀ r, r < 400 → si I 10 k v 14 r = si A 10 k v 12 r
    rw [si_c (by decide), si_c (by decide)]; exact hT.2.2.2.2.2
  · show ∀ o, o < N → ¬ si A 10 k v 7 o = 3
    rw [si_c (by decide)]; exact h.2.1
  · show 0 ≤ (si A 10 k v 14 0).toInt ∧ (si A 10 k v 14 0).toInt ≤ t
    rw [si_c (by decide)]; exact h.2.2.1
theorem opF_0 {i lf : Int32} (h : lf ≤ 0) : ∀ (n : Nat) (S : mAB), opF i n S lf = S
  | 0, _ => rfl
  | n + 1, S => by unfold opF; rw [if_pos h]
theorem lkA_16 (i : Int32) (h : ¬ (lk1 A i 63 1 0 0).1 ≤ 0) : lkA A i 16 0 = lk2 (si (si A 16 0 0) 17 0 (lk1 A i 63 1 0 0).1) i (lk1 A i 63 1 0 0).1 (lk1 A i 63 1 0 0).2 63 1 1 1 0 0 0 := by
  rw [lkA_eq]
  unfold lkS
  generalize lk2 (si (si A 16 0 0) 17 0 (lk1 A i 63 1 0 0).1) i (lk1 A i 63 1 0 0).1 (lk1 A i 63 1 0 0).2 63 1 1 1 0 0 0 = pr
  generalize (lk1 A i 63 1 0 0).1 = mo at h ⊢
  unfold lkE
  rw [if_neg h, si_c (by decide), si_eq]
/-- the call price, in class and reference -/
theorem cp_eq (h : Tie nE N I J V ls A B) (hV : CV N I ls t) (hM : MV A t) (hr : R11 I) {i : Int32} (hi : vp_in i 2) : ((lk1 A i 63 1 0 0).1 = 0 ∧ cprice I ls i.toNatClampNeg = 0) ∨ (1 ≤ (lk1 A i 63 1 0 0).1.toInt ∧ (lk1 A i 63 1 0 0).1.toInt ≤ 12000 ∧ cprice I ls i.toNatClampNeg = lkA A i 16 0 ∧ 1 ≤ (lkA A i 16 0).toInt ∧ (lkA A i 16 0).toInt ≤ 63 ∧ lkv A i (lkA A i 16 0) = (lk1 A i 63 1 0 0).1) := by
  have z0 : (0 : Int32).toInt = 0 := by decide
  have hW : tW (wgL I ls i.toNatClampNeg) A i := tW_of hM (fun q h0 h1 => wg_wl h hV hM hi h0 h1)
  have e11 : wgL I ls i.toNatClampNeg 11 i.toNatClampNeg = A 11 i.toNatClampNeg := by
    rw [wgL_ne _ (by decide) (by decide)]; exact (h.2.2.2.1 _ (vp_lt hi)).2
  have r11 : 1 ≤ (A 11 i.toNatClampNeg).toInt ∧ (A 11 i.toNatClampNeg).toInt ≤ 63 := by
    rw [← (h.2.2.2.1 _ (vp_lt hi)).2]; exact hr _
  have ec : cprice I ls i.toNatClampNeg = if (lk1 A i 63 1 0 0).1 = 0 then 0 else chs (wgL I ls i.toNatClampNeg) (lk1 A i 63 1 0 0).1 (lk1 A i 63 1 0 0).2 (A 11 i.toNatClampNeg) 63 1 0 0 0 1 1 := by
    rw [cprice_eq, ← wgL_eq, e11]
    exact fcp_lk hW 63 1 0 0 (by decide) (by decide)
  have hatt := lk1_att (A := A) i 63 1 0 0 (by decide) (by decide)
  have h16 := lkA_16 (A := A) i
  rw [ec]
  generalize lk1 A i 63 1 0 0 = r at hatt h16 ⊢
  obtain ⟨mo, le⟩ := r
  simp only at hatt h16 ⊢
  by_cases c : mo = 0
  · left; exact ⟨c, if_pos c⟩
  · right
    rw [if_neg c]
    have hatt' : ∃ p, att A i mo le p := hatt.resolve_left (fun z => c (congrArg Prod.fst z))
    have wlr : ∀ s q, wl (si (si A 16 0 0) 17 0 mo) i s q = wl A i s q := fun s q => wl_re (by rw [si_c (by decide), si_c (by decide)]) (by rw [si_c (by decide), si_c (by decide)]) (by rw [si_c (by decide), si_c (by decide)]) (by rw [si_c (by decide), si_c (by decide)]) (by rw [si_c (by decide), si_c (by decide)]) (by rw [si_c (by decide), si_c (by decide)]) i s q
    have ev : ∀ q, lkv (si (si A 16 0 0) 17 0 mo) i q = lkv A i q := fun q => by unfold lkv; rw [wlr, wlr]
    have ed : ∀ q, lkd (si (si A 16 0 0) 17 0 mo) i q = lkd A i q := fun q => by unfold lkd; rw [wlr, wlr]
    have hW' : tW (wgL I ls i.toNatClampNeg) (si (si A 16 0 0) 17 0 mo) i := fun q h0 h1 => by
      rw [ev, ed, wlr, wlr]; exact hW q h0 h1
    have e11' : si (si A 16 0 0) 17 0 mo 11 i.toNatClampNeg = A 11 i.toNatClampNeg := by rw [si_c (by decide), si_c (by decide)]
    have key := chs_lk (v := mo) (g := le) hW' e11' (by omega) r11.2 63 1 0 0 0 1 1 (by decide) (by decide) (by decide) (by decide)
    obtain ⟨p, hp⟩ := hatt'
    have hp' : att (si (si A 16 0 0) 17 0 mo) i mo le p := ⟨hp.1, hp.2.1, by rw [ev]; exact hp.2.2.1, by rw [ed]; exact hp.2.2.2⟩
    have ha := lk2_att (A := si (si A 16 0 0) 17 0 mo) i mo le 63 1 1 1 0 0 0 (by decide) (by decide) (Or.inr ⟨rfl, rfl, rfl, p, hp', hp.1⟩)
    have hmo : 0 ≤ mo.toInt ∧ mo.toInt ≤ 12000 := by
      have a := wl_rng hM i 0 p
      have b := wl_rng hM i 1 p
      rw [← hp.2.2.1]
      unfold lkv
      split <;> omega
    have hmo1 : 1 ≤ mo.toInt := by
      have : ¬ mo.toInt = 0 := fun z => c (Int32.toInt_inj.mp (by rw [z]; decide))
      omega
    have h16' := h16 (by rw [i_le, z0]; omega)
    rw [key, h16']
    generalize lk2 (si (si A 16 0 0) 17 0 mo) i mo le 63 1 1 1 0 0 0 = pr at ha ⊢
    refine ⟨hmo1, hmo.2, rfl, ha.1, ha.2.1, ?_⟩
    rw [← ev]; exact ha.2.2.1
theorem op_tie (h : TX N (I, J, V, ls) (A, B) t) (hV : CV N I ls t) (hM : MV A t) (hr : R11 I) (ht0 : 0 ≤ t) (ht : t + 12000 < 9000000) (i : Int32) : CX N (opS I J V ls i) (opM 12000 A B i) (t + 12000) := by
  have hT : Tie nE N I J V ls A B := h.1
  have z0 : (0 : Int32).toInt = 0 := by decide
  unfold opS opM
  by_cases c1 : isN i = 0
  · rw [if_pos c1, if_neg (io.mp c1)]; exact ⟨rfl, h.up (by omega)⟩
  rw [if_neg c1, if_pos (not_not_out (fun w => c1 (io.mpr w)))]
  have hi := vN c1
  rw [(hT.2.2.2.1 _ (vp_lt hi)).1]
  by_cases d : A 10 i.toNatClampNeg = 0
  · rw [if_pos d, if_pos d]
    have T2 := (h.wl i.toNatClampNeg i).flag i.toNatClampNeg 1
    have e17 := lkA_17 A i
    have hC2 : CI N (si (wgL I ls i.toNatClampNeg) 10 i.toNatClampNeg 1) ls := hV.1.wg _ _ _
    have e12 : si (wgL I ls i.toNatClampNeg) 10 i.toNatClampNeg 1 12 = I 12 := (si_c (by decide)).trans (wgL_ne _ (by decide) (by decide))
    have e13 : si (wgL I ls i.toNatClampNeg) 10 i.toNatClampNeg 1 13 = I 13 := (si_c (by decide)).trans (wgL_ne _ (by decide) (by decide))
    have V2 : CV N (si (wgL I ls i.toNatClampNeg) 10 i.toNatClampNeg 1) ls t := hV.re hC2 (by rw [e12]) (by rw [e13]; exact hV.2.2.2.1) (by rw [e13]; exact hV.2.2.2.2)
    have ea : ∀ c, c < 16 → c ≠ 10 → si (lkA A i) 10 i.toNatClampNeg 1 c = A c := fun c hc hn => (si_c hn).trans (lkA_ne A i (by omega) (by omega) (by omega))
    have M2 : MV (si (lkA A i) 10 i.toNatClampNeg 1) t := hM.re (ea 0 (by decide) (by decide)) (ea 1 (by decide) (by decide)) (ea 13 (by decide) (by decide)) (ea 15 (by decide) (by decide)) (fun k hk => (hM.2.1 k hk).re (by rw [ea 5 (by decide) (by decide)]) (by rw [ea 6 (by decide) (by decide)]) (by rw [ea 7 (by decide) (by decide)]) (by rw [ea 3 (by decide) (by decide)]))
    rcases cp_eq hT hV hM hr hi with ⟨m0, p0⟩ | ⟨m1, m2, ep, p1, p2, hv⟩
    · rw [if_pos p0, e17, m0, opF_0 (by decide)]
      exact ⟨rfl, T2.up (by omega)⟩
    · have np : ¬ cprice I ls i.toNatClampNeg = 0 := fun z => by rw [← ep, z, z0] at p1; omega
      rw [if_neg np, e17, ep]
      have e16 : si (lkA A i) 10 i.toNatClampNeg 1 16 0 = lkA A i 16 0 := by rw [si_c (by decide)]
      have wlr : ∀ s q, wl (si (lkA A i) 10 i.toNatClampNeg 1) i s q = wl A i s q := fun s q => wl_re (ea 1 (by decide) (by decide)) (ea 2 (by decide) (by decide)) (ea 4 (by decide) (by decide)) (ea 5 (by decide) (by decide)) (ea 7 (by decide) (by decide)) (ea 13 (by decide) (by decide)) i s q
      have hN2 : (si (lkA A i) 10 i.toNatClampNeg 1 13 0).toInt = N := by rw [ea 13 (by decide) (by decide)]; exact hT.1.1
      have s0 := wl_sum M2 hN2 i 0 (lkA A i 16 0)
      have s1 := wl_sum M2 hN2 i 1 (lkA A i 16 0)
      rw [wlr] at s0 s1
      unfold lkv at hv
      have hlf : ((lk1 A i 63 1 0 0).1.toInt = sgn (fw (si (lkA A i) 10 i.toNatClampNeg 1) 0 (lkA A i 16 0)) (pw (si (lkA A i) 10 i.toNatClampNeg 1) i 0) N ∧ (lk1 A i 63 1 0 0).1.toInt ≤ sgn (fw (si (lkA A i) 10 i.toNatClampNeg 1) 1 (lkA A i 16 0)) (pw (si (lkA A i) 10 i.toNatClampNeg 1) i 1) N) ∨ ((lk1 A i 63 1 0 0).1.toInt = sgn (fw (si (lkA A i) 10 i.toNatClampNeg 1) 1 (lkA A i 16 0)) (pw (si (lkA A i) 10 i.toNatClampNeg 1) i 1) N ∧ (lk1 A i 63 1 0 0).1.toInt ≤ sgn (fw (si (lkA A i) 10 i.toNatClampNeg 1) 0 (lkA A i 16 0)) (pw (si (lkA A i) 10 i.toNatClampNeg 1) i 0) N) := by
        rw [← s0, ← s1]
        generalize (lk1 A i 63 1 0 0).1 = mo at hv ⊢
        generalize lkA A i 16 0 = pr at hv ⊢
        by_cases c : wl A i 1 pr ≤ wl A i 0 pr
        · rw [if_pos c] at hv
          rw [i_le] at c
          rw [← hv]
          exact Or.inr ⟨rfl, c⟩
        · rw [if_neg c] at hv
          rw [i_le] at c
          rw [← hv]
          exact Or.inl ⟨rfl, by omega⟩
      have Q := op_loop (p := lkA A i 16 0) hi 120 12000 (si (wgL I ls i.toNatClampNeg) 10 i.toNatClampNeg 1) J V ls (si (lkA A i) 10 i.toNatClampNeg 1) B (lk1 A i 63 1 0 0).1 0 t (99 * t) T2.1 V2 M2 e16 T2.2.1 (Nat.le_trans (rc_c N) hV.2.2.1) (by omega) hlf (by omega) T2.2.2.2 (by omega) (by decide) (by rw [z0]; omega)
      rw [Int32.zero_add] at Q
      generalize (lk1 A i 63 1 0 0).1 = mo at Q ⊢
      generalize taF i.toNatClampNeg (lkA A i 16 0) 120 (si (wgL I ls i.toNatClampNeg) 10 i.toNatClampNeg 1, J, V, ls) 0 = S at Q ⊢
      generalize opF i 12000 (si (lkA A i) 10 i.toNatClampNeg 1, B) mo = R at Q ⊢
      obtain ⟨q1, q2, q3, q4, q5⟩ := Q
      refine ⟨q1, q2, q3, ?_, q5.up (by omega)⟩
      rw [q4, ea 14 (by decide) (by decide)]
      have := h.2.2.1
      exact ⟨this.1, by have := this.2; simp only at this; omega⟩
  · rw [if_neg d, if_neg d]; exact ⟨rfl, h.up (by omega)⟩
end TIE24
