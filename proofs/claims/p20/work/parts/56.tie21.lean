section TIE21
variable {N : Nat} {I : Nat → Nat → Int32} {J : Nat → Nat → Int64} {P : Nat → Nat → Option xQ} {V : Nat → Nat → Int32} {ls : Nat → List Nat} {A : Nat → Nat → Int32} {B : Nat → Nat → Int64} {t : Int} {E : Nat → Prop}
theorem af_c {k c : Nat} (h6 : c ≠ 6) (h7 : c ≠ 7) : afA A k c = A c := by
  unfold afA
  rw [si_c h6, si_c h7]
/-- an order of the auction after its exchange -/
theorem kf_tie {E' : Nat → Prop} (h : Tie E N I J V ls A B) {o : Nat} (ho : o < N) (h7 : A 7 o = 0) (hE : ∀ k, E k → k = o ∨ E' k) : Tie E' N (kfS I J V ls o).1 (kfS I J V ls o).2.1 (kfS I J V ls o).2.2.1 (kfS I J V ls o).2.2.2 (afA A o) B := by
  have q := h.1.2 o ho
  unfold kfS afA
  by_cases c : A 5 o = 0
  · rw [if_pos c, if_pos (q.1.2.2.2.2.2.1.trans c)]
    have T := h.tk ho (st := 1) (by decide) (by decide)
    have e7 : si A 7 o 1 7 o = 1 := si_eq _ _ _ _
    refine ⟨?_, T.2.1.re (si_c (by decide)) (si_c (by decide)) (si_c (by decide)) (si_c (by decide)) (si_c (by decide)), T.2.2.re rfl rfl rfl rfl (si_c (by decide)) (si_c (by decide)) (si_c (by decide)) (si_c (by decide)) (si_c (by decide))⟩
    refine T.1.upd (fun k => k = o) rfl (Int.le_refl _) (fun k _ hk => ⟨fun _ _ => rfl, fun c _ => si_k hk, fun e => (hE k e).resolve_left hk⟩) (fun k hk he => ?_)
    subst he
    have w := T.1.2 k hk
    refine ⟨w.1, fun z => ?_⟩
    have z' : si A 7 k 1 7 k = 0 := z
    rw [e7] at z'
    exact absurd z' (by decide)
  · rw [if_neg c, if_neg (fun z => c (q.1.2.2.2.2.2.1.symm.trans z))]
    have e : si A 7 o 0 = A := by
      funext c' k'
      by_cases ck : k' = o
      · by_cases cc : c' = 7
        · subst ck; subst cc; rw [si_eq]; exact h7.symm
        · rw [si_c cc]
      · rw [si_k ck]
    rw [e]
    exact ⟨h.1.sh (fun k _ hk z => (hE k z).resolve_left hk) (fun _ => shw_qm q.1.2.2.2.2.1 q.1.2.2.2.2.2.1), h.2.1.re rfl rfl rfl rfl rfl, h.2.2.re rfl rfl rfl rfl rfl rfl rfl rfl rfl⟩
theorem on_am {b s : Int32} {k r : Nat} (hb : I 6 k = A 5 b.toNatClampNeg) (hs : I 6 r = A 5 s.toNatClampNeg) : i_min (I 6 k) (I 6 r) = onN A b s := by
  unfold i_min onN
  rw [hb, hs]
  by_cases c : A 5 s.toNatClampNeg < A 5 b.toNatClampNeg
  · rw [if_pos c, if_pos (by rw [i_le]; rw [i_lt] at c; omega)]
  · rw [if_neg c]
    by_cases d : A 5 s.toNatClampNeg ≤ A 5 b.toNatClampNeg
    · rw [if_pos d]; rw [i_le] at d; rw [i_lt] at c; exact Int32.toInt_inj.mp (by omega)
    · rw [if_neg d]
/-- one exchange of the auction -/
theorem ox_tie (h : Tie nE N I J V ls A B) (hM : MV A t) {b s i p : Int32} {k r : Nat} (hbk : b.toNatClampNeg = k) (hsr : s.toNatClampNeg = r) (hb0 : 0 ≤ b.toInt) (hs0 : 0 ≤ s.toInt) (hk : k < N) (hr : r < N) (wb : wts A k i 0) (ws : wts A r i 1) (hp : A 16 0 = p) (hn : ¬ (onN A b s).toInt = -2147483648) :
    Tie nE N (tas I J V ls k r p).1 (tas I J V ls k r p).2.1 (tas I J V ls k r p).2.2.1 (tas I J V ls k r p).2.2.2 (oxS A B b s (onN A b s)).1 (oxS A B b s (onN A b s)).2 := by
  have hN := h.1.1
  have ne1 : ¬ (0 : Int32) = 1 := by decide
  have hkr : k ≠ r := fun e => by
    have := ws.2.2
    rw [← e, wb.2.2] at this
    exact ne1 this
  have qk := h.1.2 k hk
  have qr := h.1.2 r hr
  have ham := on_am (I := I) (A := A) (b := b) (s := s) (k := k) (r := r) (by rw [hbk]; exact qk.1.2.2.2.2.2.1) (by rw [hsr]; exact qr.1.2.2.2.2.2.1)
  have ne : b.toNatClampNeg ≠ s.toNatClampNeg := by rw [hbk, hsr]; exact hkr
  have okb : OM1 A b.toNatClampNeg := hM.1.2.1 _ (by omega)
  have oks : OM1 A s.toNatClampNeg := hM.1.2.1 _ (by omega)
  have o1 := h.1.ex (p := p) (a := onN A b s) ne
  have l1 := h.2.1.ex (b := b) (s := s) (p := p) (a := onN A b s)
  have a1 := h.2.2.ex (E := nE) (p := p) hb0 hs0 (by rw [hbk]; exact qk) (by rw [hsr]; exact qr) (by rw [hbk, hsr, wb.2.1, ws.2.1]) okb oks hn
  have T1 : Tie (fun j => nE j ∨ j = k ∨ j = r) N (exI I k r p (onN A b s)) (exJ I J k r p (onN A b s)) (exV I V k r (onN A b s)) ls (swA A b s p (onN A b s)) (swB A B b s p (onN A b s)) := by
    rw [hbk, hsr] at o1 a1
    exact ⟨o1, l1, a1⟩
  have e7 : swA A b s p (onN A b s) 7 = A 7 := rfl
  have T2 := kf_tie (E' := fun j => j = r) T1 hk (by rw [e7]; exact wb.1) (fun j hj => by
    rcases hj with z | z | z
    · exact absurd z id
    · exact Or.inl z
    · exact Or.inr z)
  have T3 := kf_tie (E' := nE) T2 hr (by rw [af_7, x_uf_ne _ _ hkr.symm, e7]; exact ws.1) (fun j hj => Or.inl hj)
  unfold tas oxS exS
  rw [ham, hbk, hsr, hp]
  exact T3
theorem sgn_ge {f : Nat → Int} {p : Nat → Bool} {k : Nat} (hp : p k = true) : ∀ c : Nat, (∀ j, j < c → 0 ≤ f j) → k < c → f k ≤ sgn f p c
  | 0, _, h => absurd h (Nat.not_lt_zero _)
  | c + 1, hf, h => by
    have h0 : 0 ≤ sgn f p c := by
      have : ∀ c : Nat, (∀ j, j < c → 0 ≤ f j) → 0 ≤ sgn f p c := by
        intro c
        induction c with
        | zero => intro _; exact Int.le_refl _
        | succ c ih =>
          intro hf
          have := ih (fun j hj => hf j (by omega))
          have := hf c (by omega)
          unfold sgn
          split <;> omega
      exact this c (fun j hj => hf j (by omega))
    unfold sgn
    by_cases e : k = c
    · subst e; rw [if_pos hp]; omega
    · have ih := sgn_ge hp c (fun j hj => hf j (by omega)) (by omega)
      have := hf c (by omega)
      split <;> omega
theorem sgn_ex {f : Nat → Int} {p : Nat → Bool} : ∀ c : Nat, ¬ sgn f p c = 0 → ∃ k, k < c ∧ p k = true ∧ ¬ f k = 0
  | 0, h => absurd rfl h
  | c + 1, h => by
    unfold sgn at h
    by_cases e : sgn f p c = 0
    · by_cases g : p c = true
      · refine ⟨c, by omega, g, fun z => h ?_⟩
        rw [if_pos g, e, z]; rfl
      · rw [if_neg g, e] at h; exact absurd rfl h
    · obtain ⟨k, hk, a, b⟩ := sgn_ex c e
      exact ⟨k, by omega, a, b⟩
theorem sgn_upd {f g : Nat → Int} {p q : Nat → Bool} {b : Nat} {n : Int} (hb : (if q b = true then g b else 0) = (if p b = true then f b else 0) - n) (ho : ∀ k, k ≠ b → (if q k = true then g k else 0) = (if p k = true then f k else 0)) : ∀ c : Nat, sgn g q c = sgn f p c - (if b < c then n else 0)
  | 0 => by simp [sgn]
  | c + 1 => by
    have ih := sgn_upd hb ho c
    unfold sgn
    rw [ih]
    by_cases e : c = b
    · subst e
      rw [hb, if_neg (Nat.lt_irrefl _), if_pos (Nat.lt_succ_self _)]; omega
    · rw [ho c e]
      by_cases d : b < c
      · rw [if_pos d, if_pos (Nat.lt_succ_of_lt d)]; omega
      · rw [if_neg d, if_neg (show ¬ b < c + 1 by omega)]; omega
theorem acc_btm {k : Nat} {s p : Int32} (h3 : I 3 k = s) (h5 : I 5 k = A 4 k) : acc I k p ↔ ¬ btm s p (A 4 k) := by
  unfold acc btm
  rw [h3, h5, i_lt, i_lt, i_le, i_le]
  constructor
  · rintro (⟨a, b⟩ | ⟨a, b⟩) (⟨c, d⟩ | ⟨c, d⟩)
    · omega
    · exact c a
    · exact a c
    · omega
  · intro z
    by_cases c : s = 0
    · exact Or.inl ⟨c, fun w => z (Or.inl ⟨c, by omega⟩)⟩
    · exact Or.inr ⟨c, fun w => z (Or.inr ⟨c, by omega⟩)⟩
/-- ahead of one that accepts a price: accepts it too -/
theorem bef_btm {s p : Int32} {o k : Nat} (hb : bef A s o k) (h : ¬ btm s p (A 4 k)) : ¬ btm s p (A 4 o) := by
  unfold btm at h ⊢
  rw [i_le, i_le] at h ⊢
  intro z
  rcases hb with hb | ⟨hb, -⟩
  · unfold btm at hb
    rw [i_le, i_le] at hb
    rcases z with ⟨a, b⟩ | ⟨a, b⟩
    · rcases hb with ⟨c, d⟩ | ⟨c, d⟩
      · exact h (Or.inl ⟨a, by omega⟩)
      · exact c a
    · rcases hb with ⟨c, d⟩ | ⟨c, d⟩
      · exact a c
      · exact h (Or.inr ⟨a, by omega⟩)
  · rw [hb] at z; exact h z
end TIE21
