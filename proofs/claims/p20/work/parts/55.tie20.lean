section TIE20
variable {N : Nat} {I : Nat → Nat → Int32} {J : Nat → Nat → Int64} {P : Nat → Nat → Option xQ} {V : Nat → Nat → Int32} {ls : Nat → List Nat} {A : Nat → Nat → Int32} {B : Nat → Nat → Int64} {t : Int} {E : Nat → Prop} {W : Nat → Nat → Int32}
theorem sgn_b {f : Nat → Int} {p : Nat → Bool} : ∀ c : Nat, (∀ k, k < c → 0 ≤ f k ∧ f k ≤ 99) → 0 ≤ sgn f p c ∧ sgn f p c ≤ 99 * c
  | 0, _ => ⟨Int.le_refl _, by simp [sgn]⟩
  | c + 1, h => by
    have i1 := sgn_b (p := p) c (fun k hk => h k (Nat.lt_succ_of_lt hk))
    have i2 := h c (Nat.lt_succ_self c)
    unfold sgn
    split <;> omega
theorem fw_rng (hM : MV A t) (hN : (A 13 0).toInt = N) (s q : Int32) {k : Nat} (hk : k < N) : 0 ≤ fw A s q k ∧ fw A s q k ≤ 99 := by
  have rq := hM.2.1 k (by omega)
  have := rq.1
  have := rq.2.1
  unfold fw
  split <;> omega
theorem wl_rng (hM : MV A t) (i s q : Int32) : 0 ≤ (wl A i s q).toInt ∧ (wl A i s q).toInt ≤ 12000 := by
  have hc := hM.1.1
  have hN : (A 13 0).toInt = ((A 13 0).toNatClampNeg : Nat) := by rw [i_nat]; have := hc.1; omega
  have h := sgn_b (f := fw A s q) (p := pw A i s) (A 13 0).toNatClampNeg (fun k hk => fw_rng hM hN s q hk)
  rw [wl_sum hM hN]
  have := hc.2
  omega
theorem wlF_re {A' : Nat → Nat → Int32} (h1 : A' 1 = A 1) (h2 : A' 2 = A 2) (h4 : A' 4 = A 4) (h5 : A' 5 = A 5) (h7 : A' 7 = A 7) (i s q : Int32) : ∀ (n : Nat) (o sm : Int32), wlF A' i s q n o sm = wlF A i s q n o sm
  | 0, _, _ => rfl
  | n + 1, o, sm => by
    unfold wlF
    rw [wlF_re h1 h2 h4 h5 h7 i s q n]
    simp only [wts, h1, h2, h4, h5, h7]
theorem wl_re {A' : Nat → Nat → Int32} (h1 : A' 1 = A 1) (h2 : A' 2 = A 2) (h4 : A' 4 = A 4) (h5 : A' 5 = A 5) (h7 : A' 7 = A 7) (h13 : A' 13 = A 13) (i s q : Int32) : wl A' i s q = wl A i s q := by
  unfold wl
  rw [h13, wlF_re h1 h2 h4 h5 h7]
/-- the class's table W is the reference's sums -/
def tW (W A : Nat → Nat → Int32) (i : Int32) : Prop := ∀ q : Int32, 1 ≤ q.toInt → q.toInt ≤ 63 → vol W q = lkv A i q ∧ i_abs (sur W q) = lkd A i q ∧ (sur W q ≤ 0 ↔ wl A i 0 q ≤ wl A i 1 q) ∧ (0 ≤ sur W q ↔ wl A i 1 q ≤ wl A i 0 q)
theorem abs_dis {a b : Int32} (ha0 : 0 ≤ a.toInt) (ha1 : a.toInt ≤ 100000) (hb0 : 0 ≤ b.toInt) (hb1 : b.toInt ≤ 100000) : i_abs (a - b) = i_dis a b := by
  have z0 : (0 : Int32).toInt = 0 := by decide
  have e : (a - b).toInt = a.toInt - b.toInt := Kit.i32_sub (by omega) (by omega)
  unfold i_abs i_dis
  by_cases c : b ≤ a
  · rw [if_pos c, if_pos (by rw [i_le, z0, e]; rw [i_le] at c; omega)]
  · rw [if_neg c, if_neg (by rw [i_le, z0, e]; rw [i_le] at c; omega)]
    apply Int32.toInt_inj.mp
    rw [Kit.i32_sub (by rw [z0, e]; omega) (by rw [z0, e]; omega), z0, e, Kit.i32_sub (by omega) (by omega)]
    omega
theorem tW_of (hM : MV A t) {i : Int32} (h : ∀ q : Int32, 1 ≤ q.toInt → q.toInt ≤ 63 → W 15 q.toNatClampNeg = wl A i 0 q ∧ W 16 q.toNatClampNeg = wl A i 1 q) : tW W A i := by
  intro q h0 h1
  obtain ⟨e0, e1⟩ := h q h0 h1
  have r0 := wl_rng hM i 0 q
  have r1 := wl_rng hM i 1 q
  have z0 : (0 : Int32).toInt = 0 := by decide
  unfold vol sur lkv lkd
  rw [e0, e1]
  generalize wl A i 0 q = x at *
  generalize wl A i 1 q = y at *
  have es : (x - y).toInt = x.toInt - y.toInt := Kit.i32_sub (by omega) (by omega)
  refine ⟨?_, ?_, ?_, ?_⟩
  · unfold i_min
    by_cases c : y < x
    · rw [if_pos c, if_pos (by rw [i_le]; rw [i_lt] at c; omega)]
    · rw [if_neg c]
      by_cases d : y ≤ x
      · rw [if_pos d]; rw [i_le] at d; rw [i_lt] at c; exact Int32.toInt_inj.mp (by omega)
      · rw [if_neg d]
  · rw [abs_dis r0.1 (by omega) r1.1 (by omega)]
    unfold i_dis
    by_cases c : y ≤ x
    · rw [if_pos c]
      by_cases d : x ≤ y
      · rw [if_pos d]
        have : x = y := Int32.toInt_inj.mp (by rw [i_le] at c d; omega)
        rw [this]
      · rw [if_neg d]
    · rw [if_neg c, if_pos (by rw [i_le] at c ⊢; omega)]
  · rw [i_le, i_le, es, z0]; omega
  · rw [i_le, i_le, es, z0]; omega
theorem fcp_lk {i rf : Int32} (hW : tW W A i) : ∀ (n : Nat) (p mv lg : Int32), p.toInt + n = 64 → 1 ≤ p.toInt → fcp W rf n p mv lg = if (lk1 A i n p mv lg).1 = 0 then 0 else chs W (lk1 A i n p mv lg).1 (lk1 A i n p mv lg).2 rf 63 1 0 0 0 1 1
  | 0, _, _, _, _, _ => by unfold fcp lk1; rfl
  | n + 1, p, mv, lg, h, h0 => by
    have e := i_inc (p := p) (by omega) (by omega)
    have hq := hW p h0 (by omega)
    unfold fcp lk1
    rw [hq.1, hq.2.1]
    by_cases c : mv < lkv A i p
    · rw [if_pos c, if_pos c]; exact fcp_lk hW n _ _ _ (by omega) (by omega)
    · rw [if_neg c, if_neg c]
      by_cases d : lkv A i p = mv
      · rw [if_pos d, if_pos d]
        by_cases f : lg ≤ lkd A i p
        · rw [if_pos f, if_pos f]; exact fcp_lk hW n _ _ _ (by omega) (by omega)
        · rw [if_neg f, if_neg f]; exact fcp_lk hW n _ _ _ (by omega) (by omega)
      · rw [if_neg d, if_neg d]; exact fcp_lk hW n _ _ _ (by omega) (by omega)
theorem chs_lk {i rf v g : Int32} (hW : tW W A i) (hrf : A 11 i.toNatClampNeg = rf) (hr0 : 0 ≤ rf.toInt) (hr1 : rf.toInt ≤ 63) : ∀ (n : Nat) (p le gr ne amb ams : Int32), p.toInt + n = 64 → 1 ≤ p.toInt → 0 ≤ ne.toInt → ne.toInt ≤ 63 → chs W v g rf n p le gr ne amb ams = lk2 A i v g n p amb ams le gr ne
  | 0, _, _, _, _, _, _, _, _, _, _ => by unfold chs lk2; rfl
  | n + 1, p, le, gr, ne, amb, ams, h, h0, hn0, hn1 => by
    have e := i_inc (p := p) (by omega) (by omega)
    have hq := hW p h0 (by omega)
    unfold chs lk2
    rw [hq.1, hq.2.1, hrf]
    by_cases c : lkv A i p = v
    · rw [if_pos c, if_pos c]
      by_cases d : lkd A i p = g
      · rw [if_pos d, if_pos d, abs_dis hn0 (by omega) hr0 (by omega), abs_dis (a := p) (by omega) (by omega) hr0 (by omega)]
        have e1 : (if amb = 0 then 0 else if sur W p ≤ 0 then 0 else (1 : Int32)) = (if amb = 0 then 0 else if wl A i 0 p ≤ wl A i 1 p then 0 else 1) := by
          by_cases x : sur W p ≤ 0
          · rw [if_pos x, if_pos (hq.2.2.1.mp x)]
          · rw [if_neg x, if_neg (fun z => x (hq.2.2.1.mpr z))]
        have e2 : (if ams = 0 then 0 else if 0 ≤ sur W p then 0 else (1 : Int32)) = (if ams = 0 then 0 else if wl A i 1 p ≤ wl A i 0 p then 0 else 1) := by
          by_cases x : 0 ≤ sur W p
          · rw [if_pos x, if_pos (hq.2.2.2.mp x)]
          · rw [if_neg x, if_neg (fun z => x (hq.2.2.2.mpr z))]
        rw [e1, e2]
        refine chs_lk hW hrf hr0 hr1 n _ _ _ _ _ _ (by omega) (by omega) ?_ ?_
        · split
          · omega
          · split <;> omega
        · split
          · omega
          · split <;> omega
      · rw [if_neg d, if_neg d]; exact chs_lk hW hrf hr0 hr1 n _ _ _ _ _ _ (by omega) (by omega) hn0 hn1
    · rw [if_neg c, if_neg c]; exact chs_lk hW hrf hr0 hr1 n _ _ _ _ _ _ (by omega) (by omega) hn0 hn1
/-- a price at which just this is traded and left over -/
def att (A : Nat → Nat → Int32) (i mo le p : Int32) : Prop := 1 ≤ p.toInt ∧ p.toInt ≤ 63 ∧ lkv A i p = mo ∧ lkd A i p = le
theorem lk1_att (i : Int32) : ∀ (n : Nat) (q mo le : Int32), q.toInt + n = 64 → 1 ≤ q.toInt → ((lk1 A i n q mo le) = (mo, le) ∨ ∃ p, att A i (lk1 A i n q mo le).1 (lk1 A i n q mo le).2 p)
  | 0, _, _, _, _, _ => Or.inl rfl
  | n + 1, q, mo, le, h, h0 => by
    have e := i_inc (p := q) (by omega) (by omega)
    have step : (lk1 A i n (q + Int32.ofInt 1) (lkv A i q) (lkd A i q) = (lkv A i q, lkd A i q) ∨ ∃ p, att A i (lk1 A i n (q + Int32.ofInt 1) (lkv A i q) (lkd A i q)).1 (lk1 A i n (q + Int32.ofInt 1) (lkv A i q) (lkd A i q)).2 p) → ∃ p, att A i (lk1 A i n (q + Int32.ofInt 1) (lkv A i q) (lkd A i q)).1 (lk1 A i n (q + Int32.ofInt 1) (lkv A i q) (lkd A i q)).2 p := fun z => by
      rcases z with z | z
      · rw [z]; exact ⟨q, h0, by omega, rfl, rfl⟩
      · exact z
    unfold lk1
    by_cases c : mo < lkv A i q
    · rw [if_pos c]; exact Or.inr (step (lk1_att i n _ _ _ (by omega) (by omega)))
    · rw [if_neg c]
      by_cases d : lkv A i q = mo
      · rw [if_pos d]
        by_cases f : le ≤ lkd A i q
        · rw [if_pos f]; exact lk1_att i n _ _ _ (by omega) (by omega)
        · rw [if_neg f]; exact Or.inr (step (lk1_att i n _ _ _ (by omega) (by omega)))
      · rw [if_neg d]; exact lk1_att i n _ _ _ (by omega) (by omega)
theorem lk2_att (i mo le : Int32) : ∀ (n : Nat) (q ao au lo hi ne : Int32), q.toInt + n = 64 → 1 ≤ q.toInt → ((att A i mo le lo ∧ att A i mo le hi ∧ att A i mo le ne) ∨ (lo = 0 ∧ hi = 0 ∧ ne = 0 ∧ ∃ p, att A i mo le p ∧ q.toInt ≤ p.toInt)) → att A i mo le (lk2 A i mo le n q ao au lo hi ne)
  | 0, q, ao, au, lo, hi, ne, h, h0, hh => by
    rcases hh with ⟨a, b, c⟩ | ⟨-, -, -, p, hp, hq⟩
    · unfold lk2
      split
      · split
        · exact c
        · exact a
      · exact b
    · have := hp.2.1
      omega
  | n + 1, q, ao, au, lo, hi, ne, h, h0, hh => by
    have e := i_inc (p := q) (by omega) (by omega)
    have hz : ∀ x : Int32, att A i mo le x → ¬ x = 0 := fun x hx z => by
      have := hx.1
      rw [z, show (0 : Int32).toInt = 0 by decide] at this
      omega
    have skip : ¬ (lkv A i q = mo ∧ lkd A i q = le) → ((att A i mo le lo ∧ att A i mo le hi ∧ att A i mo le ne) ∨ (lo = 0 ∧ hi = 0 ∧ ne = 0 ∧ ∃ p, att A i mo le p ∧ (q + Int32.ofInt 1).toInt ≤ p.toInt)) := fun hn => by
      rcases hh with a | ⟨a, b, c, p, hp, hq⟩
      · exact Or.inl a
      · refine Or.inr ⟨a, b, c, p, hp, ?_⟩
        by_cases z : p = q
        · subst z; exact absurd ⟨hp.2.2.1, hp.2.2.2⟩ hn
        · have : ¬ p.toInt = q.toInt := fun w => z (Int32.toInt_inj.mp w)
          omega
    unfold lk2
    by_cases c : lkv A i q = mo
    · rw [if_pos c]
      by_cases d : lkd A i q = le
      · rw [if_pos d]
        have hq : att A i mo le q := ⟨h0, by omega, c, d⟩
        refine lk2_att i mo le n _ _ _ _ _ _ (by omega) (by omega) (Or.inl ⟨?_, hq, ?_⟩)
        · rcases hh with ⟨a, b, f⟩ | ⟨a, b, f, -⟩
          · rw [if_neg (hz lo a)]; exact a
          · rw [if_pos a]; exact hq
        · rcases hh with ⟨a, b, f⟩ | ⟨a, b, f, -⟩
          · rw [if_neg (hz ne f)]
            split
            · exact f
            · exact hq
          · rw [if_pos f]; exact hq
      · rw [if_neg d]; exact lk2_att i mo le n _ _ _ _ _ _ (by omega) (by omega) (skip (fun z => d z.2))
    · rw [if_neg c]; exact lk2_att i mo le n _ _ _ _ _ _ (by omega) (by omega) (skip (fun z => c z.1))
end TIE20
