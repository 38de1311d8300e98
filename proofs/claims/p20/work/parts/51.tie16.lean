section TIE16
variable {N : Nat} {I : Nat → Nat → Int32} {J : Nat → Nat → Int64} {P : Nat → Nat → Option xQ} {V : Nat → Nat → Int32} {ls : Nat → List Nat} {A : Nat → Nat → Int32} {B : Nat → Nat → Int64} {t : Int} {E : Nat → Prop}
theorem am_tie (h : TX N (I, J, V, ls) (A, B) t) (hV : CV N I ls t) (hM : MV A t) (m x q : Int32) : CX N (amS I J V ls m x q) (amM A B m x q) t := by
  have hT : Tie nE N I J V ls A B := h.1
  unfold amS amM
  rcases fr_eq h hV hM m x with ⟨c, d | ⟨d, e⟩⟩ | ⟨c, d, e, hx, h0⟩
  · rw [if_pos c, if_pos d]; exact ⟨rfl, h⟩
  · rw [if_pos c, if_neg d, if_neg e]; exact ⟨rfl, h⟩
  · rw [if_neg c, if_neg d, if_pos e]
    generalize x.toNatClampNeg = k at *
    have hN : (A 13 0).toInt = N := hT.1.1
    have qk := hT.1.2 k hx
    have q2 := qk.2 h0
    have rq := hM.2.1 k (by omega)
    have rq1 := (rq.2.2 h0).1
    have e1 : (1 : Int32).toInt = 1 := by decide
    have em := i_m1 (p := A 5 k) (by omega)
    have hsh := q2.2.1 (fun z => z)
    have ho : out q 1 (A 5 k - 1) = 0 ↔ ¬ q < 1 ∧ q < I 6 k := by
      rw [b01_z, i_lt, i_le, i_lt, em, e1, qk.1.2.2.2.2.2.1]; omega
    by_cases c1 : q < 1
    · rw [if_pos c1, if_neg (fun z => (ho.mp z).1 c1)]; exact ⟨rfl, h⟩
    rw [if_neg c1]
    by_cases c2 : q < I 6 k
    · rw [if_pos c2, if_pos (ho.mpr ⟨c1, c2⟩)]
      have key : ∀ w : Int32, (A 3 k = 5 → i_min (I 7 k) q = w) → TX N (si (si I 6 k q) 7 k (i_min (I 7 k) q), J, V, ls) (si (si A 5 k q) 6 k w, B) t := fun w hw => by
        refine ⟨⟨hT.1.upd (fun o => o = k) rfl (Int.le_refl _) (fun o _ ho => ⟨fun c _ => ?_, fun c _ => ?_, id⟩) (fun o hoN ho => ?_), hT.2.1.re rfl rfl rfl rfl rfl, hT.2.2.re rfl rfl rfl rfl rfl rfl rfl rfl rfl⟩, h.2.1, h.2.2.1, h.2.2.2⟩
        · show si (si I 6 k q) 7 k (i_min (I 7 k) q) c o = I c o
          rw [si_k ho, si_k ho]
        · show si (si A 5 k q) 6 k w c o = A c o
          rw [si_k ho, si_k ho]
        · subst ho
          refine ⟨⟨qk.1.1, qk.1.2.1, qk.1.2.2.1, qk.1.2.2.2.1, qk.1.2.2.2.2.1, ?_, qk.1.2.2.2.2.2.2⟩, fun z => ⟨q2.1, fun _ => ?_, q2.2.2⟩⟩
          · show x_uf (I 6) o q o = x_uf (A 5) o q o
            rw [x_uf_self, x_uf_self]
          · show si (si I 6 o q) 7 o (i_min (I 7 o) q) 7 o = shs (si (si A 5 o q) 6 o w) o
            have e5 : si (si A 5 o q) 6 o w 5 o = q := x_uf_self (A 5) o q
            have e3 : si (si A 5 o q) 6 o w 3 o = A 3 o := rfl
            unfold shs
            rw [si_eq, si_eq, e5, e3]
            by_cases k5 : A 3 o = 5
            · rw [if_pos k5]; exact hw k5
            · rw [if_neg k5, hsh]
              unfold shs
              rw [if_neg k5]
              unfold i_min
              rw [qk.1.2.2.2.2.2.1] at c2
              rw [if_pos c2]
      by_cases c3 : q ≤ A 6 k
      · rw [if_pos c3]
        refine ⟨rfl, key q (fun k5 => ?_)⟩
        rw [hsh]
        unfold shs i_min
        rw [if_pos k5]
        by_cases c4 : q < A 6 k
        · rw [if_pos c4]
        · rw [if_neg c4]; rw [i_le] at c3; rw [i_lt] at c4; exact Int32.toInt_inj.mp (by omega)
      · rw [if_neg c3]
        refine ⟨rfl, key (A 6 k) (fun k5 => ?_)⟩
        rw [hsh]
        unfold shs i_min
        rw [if_pos k5, if_neg (fun z => c3 (by rw [i_le]; rw [i_lt] at z; omega))]
    · rw [if_neg c2, if_neg (fun z => c2 (ho.mp z).2)]; exact ⟨rfl, h⟩
theorem wdI_8 : ∀ (c : List Nat) (I : Nat → Nat → Int32) (k : Nat), wdI I c 8 k = if k ∈ c then 2 else I 8 k
  | [], I, k => by rw [if_neg List.not_mem_nil]; rfl
  | o :: c, I, k => by
    show wdI (si I 8 o 2) c 8 k = _
    rw [wdI_8 c]
    by_cases hc : k ∈ c
    · rw [if_pos hc, if_pos (List.mem_cons_of_mem _ hc)]
    · rw [if_neg hc]
      by_cases e : k = o
      · subst e; rw [if_pos List.mem_cons_self]; exact si_eq _ _ _ _
      · rw [if_neg (fun z => (List.mem_cons.mp z).elim e hc)]; exact si_k e
theorem smA_c {c : Nat} (hc : c ≠ 7) : ∀ (n : Nat) (o : Int32) (A : Nat → Nat → Int32), smA n o A c = A c
  | 0, _, _ => rfl
  | n + 1, o, A => by
    show smA n (o + Int32.ofInt 1) _ c = _
    rw [smA_c hc n]
    exact si_c hc
theorem smA_7 : ∀ (n : Nat) (o : Int32) (A : Nat → Nat → Int32) (k : Nat), 0 ≤ o.toInt → o.toInt + n ≤ 120 → smA n o A 7 k = if o.toNatClampNeg ≤ k ∧ k < o.toNatClampNeg + n then (if A 7 k = 0 then 2 else A 7 k) else A 7 k
  | 0, o, A, k, _, _ => by rw [if_neg (by omega)]; rfl
  | n + 1, o, A, k, h0, h1 => by
    have e := i_inc (p := o) (by omega) (by omega)
    have eN : (o + Int32.ofInt 1).toNatClampNeg = o.toNatClampNeg + 1 := by rw [i_nat, e, i_nat]; omega
    show smA n (o + Int32.ofInt 1) (si A 7 o.toNatClampNeg (if A 7 o.toNatClampNeg = 0 then 2 else A 7 o.toNatClampNeg)) 7 k = _
    rw [smA_7 n _ _ k (by omega) (by omega), eN]
    by_cases c : k = o.toNatClampNeg
    · rw [← c, if_neg (show ¬ (k + 1 ≤ k ∧ k < k + 1 + n) by omega), if_pos (show k ≤ k ∧ k < k + (n + 1) by omega), si_eq]
    · rw [si_k c]
      by_cases d : o.toNatClampNeg + 1 ≤ k ∧ k < o.toNatClampNeg + 1 + n
      · rw [if_pos d, if_pos (show o.toNatClampNeg ≤ k ∧ k < o.toNatClampNeg + (n + 1) by omega)]
      · rw [if_neg d, if_neg (show ¬ (o.toNatClampNeg ≤ k ∧ k < o.toNatClampNeg + (n + 1)) by omega)]
/-- settling: the accounts -/
theorem stF_eq : ∀ (n : Nat) (e : Int32) (J B : Nat → Nat → Int64) (v : Int32), 0 ≤ e.toInt → e.toInt + n ≤ 5 → (∀ m, m < 5 → J 0 m = B 0 m ∧ J 1 m = B 1 m) → (stF n e J v).1 = (smB n e B v).1 ∧ ∀ m, m < 5 → (stF n e J v).2 0 m = (smB n e B v).2 0 m ∧ (stF n e J v).2 1 m = (smB n e B v).2 1 m
  | 0, _, _, _, _, _, _, h => ⟨rfl, h⟩
  | n + 1, e, J, B, v, h0, h1, h => by
    have e1 := i_inc (p := e) (by omega) (by omega)
    have hm : e.toNatClampNeg < 5 := by rw [i_nat]; omega
    have one : Int32.ofInt 1 = 1 := by decide
    unfold stF smB
    rw [(h _ hm).1, (h _ hm).2, ← one]
    refine stF_eq n _ _ _ _ (by omega) (by omega) (fun m hm' => ?_)
    generalize e.toNatClampNeg = k at *
    constructor
    · show x_uf (J 0) k (B 0 k + B 1 k) m = x_uf (B 0) k (B 0 k + B 1 k) m
      by_cases c : m = k
      · rw [x_ufe _ _ c, x_ufe _ _ c]
      · rw [x_uf_ne _ _ c, x_uf_ne _ _ c, (h _ hm').1]
    · show x_uf (J 1) k 0 m = x_uf (B 1) k 0 m
      by_cases c : m = k
      · rw [x_ufe _ _ c, x_ufe _ _ c]
      · rw [x_uf_ne _ _ c, x_uf_ne _ _ c, (h _ hm').2]
theorem edS_c {c : Nat} (h8 : c ≠ 8) (h10 : c ≠ 10) (i : Nat) : (edS I J V ls i).1 c = I c := by
  show si _ 10 i 0 c = _
  rw [si_c h10, wdI_ne _ _ h8, wdI_ne _ _ h8]
theorem edS_8 (i k : Nat) : (edS I J V ls i).1 8 k = if k ∈ ls (2 * i) ∨ k ∈ ls (2 * i + 1) then 2 else I 8 k := by
  show wdI (wdI I (ls (2 * i))) (x_uf ls (2 * i) [] (2 * i + 1)) 8 k = _
  rw [wdI_8, wdI_8, x_uf_ne _ _ (by omega)]
  by_cases a : k ∈ ls (2 * i + 1)
  · rw [if_pos a, if_pos (Or.inr a)]
  · rw [if_neg a]
    by_cases b : k ∈ ls (2 * i)
    · rw [if_pos b, if_pos (Or.inl b)]
    · rw [if_neg b, if_neg (fun z => z.elim b a)]
theorem st_tie (h : TX N (I, J, V, ls) (A, B) t) (hV : CV N I ls t) : CX N (stS I J V ls) (smM A B) t := by
  have hT : Tie nE N I J V ls A B := h.1
  have hN : (A 13 0).toInt = N := hT.1.1
  have hcN : (A 13 0).toNatClampNeg = N := by rw [i_nat]; omega
  have hN120 := hV.2.2.1
  have z0 : (0 : Int32).toInt = 0 := by decide
  have zN : (0 : Int32).toNatClampNeg = 0 := by decide
  have hacc := stF_eq 5 0 J B 0 (by decide) (by decide) (fun m hm => ⟨(hT.2.2.1 m hm).1, (hT.2.2.1 m hm).2.1⟩)
  unfold stS smM
  rw [hcN]
  generalize stF 5 0 J 0 = S at hacc ⊢
  generalize smB 5 0 B 0 = R at hacc ⊢
  have e7 : ∀ k, k < N → smE (smA N 0 A) 7 k = if A 7 k = 0 then 2 else A 7 k := fun k hk => by
    show smA N 0 A 7 k = _
    rw [smA_7 N 0 A k (by decide) (by rw [z0]; omega), zN, if_pos (by omega)]
  have ec : ∀ c, c ≠ 7 → c ≠ 10 → smE (smA N 0 A) c = A c := fun c h7 h10 => by
    unfold smE
    rw [si_c h10, si_c h10, smA_c h7]
  have hin : ∀ k, k < N → (A 7 k = 0 ↔ (k ∈ ls 0 ∨ k ∈ ls 1) ∨ (k ∈ ls 2 ∨ k ∈ ls 3)) := fun k hk => by
    rw [hT.2.1.1 0 (by decide), hT.2.1.1 1 (by decide), hT.2.1.1 2 (by decide), hT.2.1.1 3 (by decide)]
    constructor
    · intro z
      have q := (hT.1.2 k hk).1
      have hj : sdx (A 1 k).toNatClampNeg (A 2 k) < 4 := sdx_lt (by rw [← q.2.2.1]; exact vp_lt (hV.1.1 k hk).2.1) _
      have : ∀ j : Nat, j < 4 → j = 0 ∨ j = 1 ∨ j = 2 ∨ j = 3 := by omega
      rcases this _ hj with e | e | e | e
      · exact Or.inl (Or.inl ⟨hk, z, e⟩)
      · exact Or.inl (Or.inr ⟨hk, z, e⟩)
      · exact Or.inr (Or.inl ⟨hk, z, e⟩)
      · exact Or.inr (Or.inr ⟨hk, z, e⟩)
    · rintro ((z | z) | (z | z)) <;> exact z.2.1
  have ls0 : ∀ j, j < 4 → (edS (edS I J V ls 0).1 J V (edS I J V ls 0).2.2.2 1).2.2.2 j = [] := fun j hj => by
    show x_uf (x_uf (x_uf (x_uf ls 0 []) 1 []) 2 []) 3 [] j = []
    match j, hj with
    | 0, _ => rfl
    | 1, _ => rfl
    | 2, _ => rfl
    | 3, _ => rfl
  have I8 : ∀ k, k < N → (edS (edS I J V ls 0).1 J V (edS I J V ls 0).2.2.2 1).1 8 k = if A 7 k = 0 then 2 else I 8 k := fun k hk => by
    rw [edS_8, edS_8]
    have l2 : (edS I J V ls 0).2.2.2 (2 * 1) = ls 2 := rfl
    have l3 : (edS I J V ls 0).2.2.2 (2 * 1 + 1) = ls 3 := rfl
    have l0 : ls (2 * 0) = ls 0 := rfl
    have l1 : ls (2 * 0 + 1) = ls 1 := rfl
    rw [l2, l3, l0, l1]
    have hk' := hin k hk
    by_cases a : k ∈ ls 2 ∨ k ∈ ls 3
    · rw [if_pos a, if_pos (hk'.mpr (Or.inr a))]
    · rw [if_neg a]
      by_cases b : k ∈ ls 0 ∨ k ∈ ls 1
      · rw [if_pos b, if_pos (hk'.mpr (Or.inl b))]
      · rw [if_neg b, if_neg (fun z => (hk'.mp z).elim b a)]
  have Ic : ∀ c, c ≠ 8 → c ≠ 10 → (edS (edS I J V ls 0).1 J V (edS I J V ls 0).2.2.2 1).1 c = I c := fun c h8 h10 => by rw [edS_c h8 h10, edS_c h8 h10]
  have I10 : (edS (edS I J V ls 0).1 J V (edS I J V ls 0).2.2.2 1).1 10 = x_uf (x_uf (I 10) 0 0) 1 0 := by
    rw [(ed_ok (J := J) (V := V) (ed_ok (J := J) (V := V) hV.1 0).1 1).2.2.2, (ed_ok (J := J) (V := V) hV.1 0).2.2.2]
  have A10 : smE (smA N 0 A) 10 = x_uf (x_uf (A 10) 0 0) 1 0 := by
    have : smE (smA N 0 A) 10 = x_uf (x_uf (smA N 0 A 10) 0 0) 1 0 := rfl
    rw [this, smA_c (by decide)]
  refine ⟨hacc.1, ⟨⟨?_, fun k hk => ?_⟩, ?_, ?_⟩, fun k hk => ?_, ?_, h.2.2.2⟩
  · show (smE (smA N 0 A) 13 0).toInt = N
    rw [ec 13 (by decide) (by decide)]; exact hN
  · have q := hT.1.2 k hk
    have n3 : ¬ A 7 k = 3 := h.2.1 k hk
    show oR False (edS (edS I J V ls 0).1 J V (edS I J V ls 0).2.2.2 1).1 (smE (smA N 0 A)) k
    unfold oR
    rw [e7 k hk, I8 k hk, Ic 0 (by decide) (by decide), Ic 1 (by decide) (by decide), Ic 2 (by decide) (by decide), Ic 3 (by decide) (by decide), Ic 4 (by decide) (by decide), Ic 6 (by decide) (by decide), ec 0 (by decide) (by decide), ec 1 (by decide) (by decide), ec 2 (by decide) (by decide), ec 3 (by decide) (by decide), ec 5 (by decide) (by decide)]
    refine ⟨⟨q.1.1, q.1.2.1, q.1.2.2.1, q.1.2.2.2.1, q.1.2.2.2.2.1, q.1.2.2.2.2.2.1, ?_⟩, fun z => ?_⟩
    · by_cases c : A 7 k = 0
      · rw [if_pos c, if_pos c]; decide
      · rw [if_neg c, if_neg c]; exact q.1.2.2.2.2.2.2
    · exfalso
      by_cases c : A 7 k = 0
      · rw [if_pos c] at z; exact absurd z (by decide)
      · rw [if_neg c] at z; exact c z
  · refine tiL.of (fun j hj o => ?_) (fun j hj => ?_) (fun j hj => ?_)
    · show o ∈ (edS (edS I J V ls 0).1 J V (edS I J V ls 0).2.2.2 1).2.2.2 j ↔ _
      rw [ls0 j hj]
      refine ⟨fun z => absurd z List.not_mem_nil, fun z => ?_⟩
      have w := z.2.1
      rw [show (smE (smA N 0 A), R.2).1 7 o = smE (smA N 0 A) 7 o from rfl, e7 o z.1] at w
      exfalso
      by_cases c : A 7 o = 0
      · rw [if_pos c] at w; exact absurd w (by decide)
      · rw [if_neg c] at w; exact c w
    · show Srt _ _ ((edS (edS I J V ls 0).1 J V (edS I J V ls 0).2.2.2 1).2.2.2 j)
      rw [ls0 j hj]; trivial
    · show ((edS (edS I J V ls 0).1 J V (edS I J V ls 0).2.2.2 1).2.2.2 j).Nodup
      rw [ls0 j hj]; exact List.nodup_nil
  · refine ⟨fun m hm => ⟨(hacc.2 m hm).1, (hacc.2 m hm).2, ?_⟩, fun i hi => ⟨?_, ?_⟩, ?_, ?_⟩
    · show ∀ i, i < 2 → V m i = smE (smA N 0 A) 9 (2 * m + i)
      rw [ec 9 (by decide) (by decide)]; exact (hT.2.2.1 m hm).2.2
    · show (edS (edS I J V ls 0).1 J V (edS I J V ls 0).2.2.2 1).1 10 i = smE (smA N 0 A) 10 i
      rw [I10, A10]
      exact uf_re (n := 2) (uf_re (fun r hr => (hT.2.2.2.1 r hr).1) rfl) rfl i hi
    · show (edS (edS I J V ls 0).1 J V (edS I J V ls 0).2.2.2 1).1 11 i = smE (smA N 0 A) 11 i
      rw [Ic 11 (by decide) (by decide), ec 11 (by decide) (by decide)]; exact (hT.2.2.2.1 i hi).2
    · show (edS (edS I J V ls 0).1 J V (edS I J V ls 0).2.2.2 1).1 13 0 = smE (smA N 0 A) 15 0
      rw [Ic 13 (by decide) (by decide), ec 15 (by decide) (by decide)]; exact hT.2.2.2.2.1
    · show ∀ r, r < 400 → (edS (edS I J V ls 0).1 J V (edS I J V ls 0).2.2.2 1).1 14 r = smE (smA N 0 A) 12 r
      rw [Ic 14 (by decide) (by decide), ec 12 (by decide) (by decide)]; exact hT.2.2.2.2.2
  · show ¬ smE (smA N 0 A) 7 k = 3
    rw [e7 k hk]
    split
    · decide
    · exact h.2.1 k hk
  · show 0 ≤ (smE (smA N 0 A) 14 0).toInt ∧ (smE (smA N 0 A) 14 0).toInt ≤ t
    rw [ec 14 (by decide) (by decide)]; exact h.2.2.1
theorem wgL_ne (i : Nat) {x : Nat} (h5 : x ≠ 15) (h6 : x ≠ 16) : wgL I ls i x = I x := by
  rw [wgL_eq]; exact wgh_ne _ _ _ h5 h6
/-- weighing leaves the tie -/
theorem TX.wl (h : TX N (I, J, V, ls) (A, B) t) (i : Nat) (k : Int32) : TX N (wgL I ls i, J, V, ls) (lkA A k, B) t := by
  have hT : Tie nE N I J V ls A B := h.1
  have ea : ∀ c, c < 16 → lkA A k c = A c := fun c hc => lkA_ne A k (by omega) (by omega) (by omega)
  have ei : ∀ c, c < 15 → wgL I ls i c = I c := fun c hc => wgL_ne i (by omega) (by omega)
  refine ⟨⟨hT.1.re (fun c hc => ei c (by omega)) (fun c hc => ea c (by omega)) (ea 13 (by decide)) (ea 14 (by decide)), hT.2.1.re (ea 1 (by decide)) (ea 2 (by decide)) (ea 4 (by decide)) (ea 7 (by decide)) (ea 8 (by decide)), hT.2.2.re (ei 10 (by decide)) (ei 11 (by decide)) (ei 13 (by decide)) (ei 14 (by decide)) (ea 9 (by decide)) (ea 10 (by decide)) (ea 11 (by decide)) (ea 12 (by decide)) (ea 15 (by decide))⟩, fun o ho => ?_, ?_, h.2.2.2⟩
  · show ¬ lkA A k 7 o = 3
    rw [ea 7 (by decide)]; exact h.2.1 o ho
  · show 0 ≤ (lkA A k 14 0).toInt ∧ (lkA A k 14 0).toInt ≤ t
    rw [ea 14 (by decide)]; exact h.2.2.1
end TIE16
