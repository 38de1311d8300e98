section TIE15
variable {N : Nat} {I : Nat → Nat → Int32} {J : Nat → Nat → Int64} {P : Nat → Nat → Option xQ} {V : Nat → Nat → Int32} {ls : Nat → List Nat} {A : Nat → Nat → Int32} {B : Nat → Nat → Int64} {t : Int} {E : Nat → Prop}
theorem tiO.re {I' A' : Nat → Nat → Int32} (h : tiO E N I A) (hI : ∀ c, c < 9 → I' c = I c) (hA : ∀ c, c < 9 → A' c = A c) (h13 : A' 13 = A 13) (h14 : A' 14 = A 14) : tiO E N I' A' :=
  h.upd (fun _ => False) (by rw [h13]) (by rw [h14]; exact Int.le_refl _) (fun k _ _ => ⟨fun c hc => by rw [hI c hc], fun c hc => by rw [hA c hc], id⟩) (fun _ _ z => absurd z id)
/-- place's answers and what it leaves -/
abbrev PX (S : Int32 × Nat × cS) (R : Int32 × mAB) (t : Int) : Prop := S.1 = R.1 ∧ TX S.2.1 S.2.2 R.2 t
theorem pl3_tie (h : TX N (I, J, V, ls) (A, B) t) (hV : CV N I ls t) (hQ : QS N P ls) (hM : MV A t) (ht0 : 0 ≤ t) (ht : t + 12000 < 9000000) (h120 : ¬ A 13 0 = 120) {m i how b q : Int32} (hm : vp_in m 5) (hi : vp_in i 2) (hh : ¬ how < 0 ∧ ¬ 12 ≤ how) (hl : how / 2 = 3 ∨ (1 ≤ b.toInt ∧ b.toInt ≤ 63)) (hq1 : 1 ≤ q.toInt) (hq2 : q.toInt ≤ 99) : PX (pl3 N I J V ls m i how b q) (pm3 220 A B m i how b q) (t + 12000) := by
  have hT : Tie nE N I J V ls A B := h.1
  have hr := rsk_eq (i := i) (s := how - how / 2 * 2) (q := q) hT hV hM (h.pos (by omega)) hm (by omega) hq2
  have hJ := (hT.2.2.1 _ (vp_lt hm)).1
  unfold pl3 pm3
  rw [hr, hJ]
  by_cases c : lg_cmp (rskM A m i (how - how / 2 * 2) q) (B 0 m.toNatClampNeg) ≤ 0
  · rw [if_pos c, if_pos c]
    unfold pl4
    rw [rf_eq hT hV hM hi hh]
    by_cases d : uf A m i (how / 2) (how - how / 2 * 2) b q = 0
    · rw [if_pos d, if_pos d]
      exact adm_tie h hV hQ hM ht0 ht h120 hm hi hh hl hq1 hq2
    · rw [if_neg d, if_neg d]
      exact ⟨rfl, h.up (by omega)⟩
  · rw [if_neg c, if_neg c]
    exact ⟨rfl, h.up (by omega)⟩
theorem pl1_tie (h : TX N (I, J, V, ls) (A, B) t) (hV : CV N I ls t) (hQ : QS N P ls) (hM : MV A t) (ht0 : 0 ≤ t) (ht : t + 12000 < 9000000) {m i how b q : Int32} (hm : vp_in m 5) (hi : vp_in i 2) (hh : ¬ how < 0 ∧ ¬ 12 ≤ how) (hl : how / 2 = 3 ∨ (1 ≤ b.toInt ∧ b.toInt ≤ 63)) (hq1 : 1 ≤ q.toInt) (hq2 : q.toInt ≤ 99) : PX (pl1 N I J V ls m i how b q) (pm1 220 A B m i how b q) (t + 12000) := by
  have hT : Tie nE N I J V ls A B := h.1
  have hN : (A 13 0).toInt = N := hT.1.1
  have h12 := hV.2.1
  have hN120 := hV.2.2.1
  have e10 : I 10 i.toNatClampNeg = A 10 i.toNatClampNeg := (hT.2.2.2.1 _ (vp_lt hi)).1
  have z : PX (-2, N, (I, J, V, ls)) (-2, (A, B)) (t + 12000) := ⟨rfl, h.up (by omega)⟩
  have z3 : PX (-3, N, (I, J, V, ls)) (-3, (A, B)) (t + 12000) := ⟨rfl, h.up (by omega)⟩
  unfold pl1 pm1
  rw [e10]
  by_cases c : A 13 0 = 120
  · rw [if_pos c, if_neg]
    · exact z
    · rw [i_lt, c120, h12]
      rw [c, c120] at hN
      omega
  · have c' : ¬ (A 13 0).toInt = 120 := fun w => c (Int32.toInt_inj.mp (by rw [w]; decide))
    rw [if_neg c, if_pos (by rw [i_lt, c120, h12]; omega)]
    have key := pl3_tie h hV hQ hM ht0 ht c hm hi hh hl hq1 hq2
    by_cases d : A 10 i.toNatClampNeg = 0
    · rw [if_pos d, if_pos d]
      by_cases e : how / 2 = 0
      · rw [if_pos e, if_pos e]; exact key
      · rw [if_neg e, if_neg e]
        by_cases f : how / 2 = 5
        · rw [if_pos f, if_pos f]; exact key
        · rw [if_neg f, if_neg f]; exact z3
    · rw [if_neg d, if_neg d]; exact key
theorem pl_tie (h : TX N (I, J, V, ls) (A, B) t) (hV : CV N I ls t) (hQ : QS N P ls) (hM : MV A t) (ht0 : 0 ≤ t) (ht : t + 12000 < 9000000) (m i how b q : Int32) : PX (plS N I J V ls m i how b q) (pmS 220 A B m i how b q) (t + 12000) := by
  have z : PX (-1, N, (I, J, V, ls)) (-1, (A, B)) (t + 12000) := ⟨rfl, h.up (by omega)⟩
  have z0 : (0 : Int32).toInt = 0 := by decide
  have z1 : (1 : Int32).toInt = 1 := by decide
  have z11 : (11 : Int32).toInt = 11 := by decide
  have z12 : (12 : Int32).toInt = 12 := by decide
  have z99 : (99 : Int32).toInt = 99 := by decide
  have z63 : (63 : Int32).toInt = 63 := by decide
  unfold plS pmS
  by_cases c0 : isM m = 0
  · rw [if_pos c0, if_neg (mo.mp c0)]; exact z
  rw [if_neg c0, if_pos (not_not_out (fun w => c0 (mo.mpr w)))]
  by_cases c1 : isN i = 0
  · rw [if_pos c1, if_neg (io.mp c1)]; exact z
  rw [if_neg c1, if_pos (not_not_out (fun w => c1 (io.mpr w)))]
  have ho : isH how = 0 ↔ ¬ out how 0 11 = 0 := by
    rw [b01_z, b01_z, i_lt, i_le, i_le, z0, z11, z12]; omega
  by_cases c2 : isH how = 0
  · rw [if_pos c2, if_neg (ho.mp c2)]; exact z
  rw [if_neg c2, if_pos (not_not_out (fun w => c2 (ho.mpr w)))]
  by_cases c3 : q < 1
  · rw [if_pos c3, if_neg (b01_nz.mpr (Or.inl c3))]; exact z
  rw [if_neg c3]
  by_cases c4 : 99 < q
  · rw [if_pos c4, if_neg (b01_nz.mpr (Or.inr (by rw [i_le]; rw [i_lt] at c4; omega)))]; exact z
  have co : out q 1 99 = 0 := b01_z.mpr (fun w => w.elim c3 (fun w => by rw [i_le] at w; rw [i_lt] at c4; omega))
  rw [if_neg c4, if_pos co]
  have hq1 : 1 ≤ q.toInt := by rw [i_lt, z1] at c3; omega
  have hq2 : q.toInt ≤ 99 := by rw [i_lt, z99] at c4; omega
  have hh := b01_nz.mp c2
  by_cases c5 : how / 2 = 3
  · rw [if_pos c5, if_pos c5]
    exact pl1_tie h hV hQ hM ht0 ht (vM c0) (vN c1) hh (Or.inl c5) hq1 hq2
  rw [if_neg c5, if_neg c5]
  have hp : isP b = 0 ↔ ¬ out b 1 63 = 0 := by
    rw [b01_z, b01_z, i_lt, i_le, i_lt, z1, z63]; omega
  by_cases c6 : isP b = 0
  · rw [if_pos c6, if_neg (hp.mp c6)]; exact z
  rw [if_neg c6, if_pos (not_not_out (fun w => c6 (hp.mpr w)))]
  exact pl1_tie h hV hQ hM ht0 ht (vM c0) (vN c1) hh (Or.inr (vL c6)) hq1 hq2
/-- the other calls: answers and what they leave -/
abbrev CX (N : Nat) (S : Int32 × cS) (R : Int32 × mAB) (t : Int) : Prop := S.1 = R.1 ∧ TX N S.2 R.2 t
theorem dp_tie (h : TX N (I, J, V, ls) (A, B) t) (hV : CV N I ls t) (hM : MV A t) (ht : t < 9000000) (m a : Int32) : CX N (dpS I J V ls m a) (dpM A B m a) t := by
  have hT : Tie nE N I J V ls A B := h.1
  refine ⟨dp_eq hT hV hM (h.pos ht) m a, ?_⟩
  have up : vp_in m 5 → TX N (I, sj J 0 m.toNatClampNeg (J 0 m.toNatClampNeg + a.toInt64), V, ls) (A, sj B 0 m.toNatClampNeg (B 0 m.toNatClampNeg + a.toInt64)) t := fun hm => by
    refine ⟨⟨hT.1, hT.2.1, ⟨fun k hk => ⟨?_, (hT.2.2.1 k hk).2.1, (hT.2.2.1 k hk).2.2⟩, hT.2.2.2.1, hT.2.2.2.2⟩⟩, h.2⟩
    show x_uf (J 0) m.toNatClampNeg (J 0 m.toNatClampNeg + a.toInt64) k = x_uf (B 0) m.toNatClampNeg (B 0 m.toNatClampNeg + a.toInt64) k
    rw [(hT.2.2.1 _ (vp_lt hm)).1]
    by_cases c : k = m.toNatClampNeg
    · rw [x_ufe _ _ c, x_ufe _ _ c]
    · rw [x_uf_ne _ _ c, x_uf_ne _ _ c, (hT.2.2.1 _ hk).1]
  have e1000000 : ∀ c : Prop, c → c := fun _ => id
  unfold dpS dpM
  by_cases c0 : isM m = 0
  · rw [if_pos c0, if_neg (mo.mp c0)]; exact h
  · have c0' := not_not_out (fun w => c0 (mo.mpr w))
    have hm := vM c0
    rw [if_neg c0, if_pos c0', rsk_eq hT hV hM (h.pos ht) hm (by decide) (by decide)]
    by_cases c1 : a < -1000000
    · rw [if_pos c1, if_neg (b01_nz.mpr (Or.inl c1))]; exact h
    · rw [if_neg c1]
      by_cases c2 : a ≤ 1000000
      · rw [if_pos c2, if_pos (b01_z.mpr (fun z => z.elim c1 (fun z => z c2)))]
        by_cases c3 : 0 ≤ a
        · rw [if_pos c3, if_pos c3]; exact up hm
        · rw [if_neg c3, if_neg c3, (hT.2.2.1 _ (vp_lt hm)).1]
          by_cases c4 : 0 ≤ lg_cmp (B 0 m.toNatClampNeg + a.toInt64) (rskM A m 0 0 0)
          · rw [if_pos c4, if_pos c4]
            have u := up hm
            rw [(hT.2.2.1 _ (vp_lt hm)).1] at u
            exact u
          · rw [if_neg c4, if_neg c4]; exact h
      · rw [if_neg c2, if_neg (b01_nz.mpr (Or.inr c2))]; exact h
/-- a resting order of a member, in class and reference -/
theorem fr_eq (h : TX N (I, J, V, ls) (A, B) t) (hV : CV N I ls t) (hM : MV A t) (m x : Int32) : (fndR I m x = none ∧ (rsM A x = 0 ∨ (¬ rsM A x = 0 ∧ ¬ A 0 x.toNatClampNeg = m))) ∨ (¬ fndR I m x = none ∧ ¬ rsM A x = 0 ∧ A 0 x.toNatClampNeg = m ∧ x.toNatClampNeg < N ∧ A 7 x.toNatClampNeg = 0) := by
  have hT : Tie nE N I J V ls A B := h.1
  have hf := fo hT hV hM x
  by_cases c : fnd I x = none
  · exact Or.inl ⟨fndR_n c, Or.inl (by unfold rsM; rw [if_neg (hf.mp c)])⟩
  · have c' := not_not_out (fun w => c (hf.mpr w))
    have hx := vOc hM.1.1 c'
    have hN : (A 13 0).toInt = N := hT.1.1
    have hlt : x.toNatClampNeg < N := by rw [i_nat]; omega
    have q := (hT.1.2 _ hlt).1
    have n3 : ¬ A 7 x.toNatClampNeg = 3 := h.2.1 _ hlt
    have e8 := q.2.2.2.2.2.2
    rw [if_neg n3] at e8
    have ex := (fnd_cs I x).resolve_left c
    unfold fndR rsM
    rw [if_neg ex.1, if_neg ex.2.1, if_pos c', q.2.1, e8]
    by_cases d : A 0 x.toNatClampNeg = m
    · rw [if_pos d]
      by_cases e : A 7 x.toNatClampNeg = 0
      · rw [if_pos e, if_pos e]
        exact Or.inr ⟨fun w => (by cases w), (by decide), d, hlt, e⟩
      · rw [if_neg e, if_neg e]
        exact Or.inl ⟨rfl, Or.inl rfl⟩
    · rw [if_neg d]
      refine Or.inl ⟨rfl, ?_⟩
      by_cases e : A 7 x.toNatClampNeg = 0
      · rw [if_pos e]; exact Or.inr ⟨by decide, d⟩
      · rw [if_neg e]; exact Or.inl rfl
theorem TX.n3 {S : cS} {R : mAB} (h : TX N S R t) {o : Nat} {st : Int32} (hst : ¬ st = 3) : ∀ k, k < N → ¬ si R.1 7 o st 7 k = 3 := fun k hk => by
  by_cases c : k = o
  · subst c; rw [si_eq]; exact hst
  · rw [si_k c]; exact h.2.1 k hk
theorem cn_tie (h : TX N (I, J, V, ls) (A, B) t) (hV : CV N I ls t) (hM : MV A t) (m x : Int32) : CX N (cnS I J V ls m x) (cnM A B m x) t := by
  have hT : Tie nE N I J V ls A B := h.1
  unfold cnS cnM
  rcases fr_eq h hV hM m x with ⟨c, d | ⟨d, e⟩⟩ | ⟨c, d, e, hx, h0⟩
  · rw [if_pos c, if_pos d]; exact ⟨rfl, h⟩
  · rw [if_pos c, if_neg d, if_neg e]; exact ⟨rfl, h⟩
  · rw [if_neg c, if_neg d, if_pos e]
    exact ⟨rfl, hT.tk hx (by decide) (by decide), h.n3 (by decide), h.2.2.1, h.2.2.2⟩
theorem cl_tie (h : TX N (I, J, V, ls) (A, B) t) (i : Int32) : CX N (clS I J V ls i) (clM A B i) t := by
  have hT : Tie nE N I J V ls A B := h.1
  unfold clS clM
  by_cases c1 : isN i = 0
  · rw [if_pos c1, if_neg (io.mp c1)]; exact ⟨rfl, h⟩
  rw [if_neg c1, if_pos (not_not_out (fun w => c1 (io.mpr w)))]
  have hi := vN c1
  rw [(hT.2.2.2.1 _ (vp_lt hi)).1]
  by_cases d : A 10 i.toNatClampNeg = 0
  · rw [if_pos d, if_pos d]; exact ⟨rfl, h⟩
  · rw [if_neg d, if_neg d]
    refine ⟨rfl, ⟨hT.1.re (fun c hc => si_c (by omega)) (fun c hc => si_c (by omega)) rfl rfl, hT.2.1.re rfl rfl rfl rfl rfl, ⟨hT.2.2.1, fun k hk => ⟨?_, (hT.2.2.2.1 k hk).2⟩, hT.2.2.2.2⟩⟩, h.2⟩
    exact uf_re (n := 2) (fun r hr => (hT.2.2.2.1 r hr).1) rfl k hk
end TIE15
