section M6
variable {l : Launch} {G : xG} {N : Nat} {I : Nat → Nat → Int32} {J : Nat → Nat → Int64} {P : Nat → Nat → Option xQ} {V : Nat → Nat → Int32} {A : Nat → Nat → Int32} {B : Nat → Nat → Int64}
variable {h : xH} {ls : Nat → List Nat}
abbrev cS : Type := (Nat → Nat → Int32) × (Nat → Nat → Int64) × (Nat → Nat → Int32) × (Nat → List Nat)
/-- the class's part of the heap is S -/
def HS (N : Nat) (S : cS) (A : Nat → Nat → Int32) (B : Nat → Nat → Int64) (h : xH) : Prop := ∃ P : Nat → Nat → Option xQ, h = hp N S.1 S.2.1 P S.2.2.1 A B ∧ QS N P S.2.2.2 ∧ PP N P
theorem HS.out (q : HS N (I, J, V, ls) A B h) : ∃ P : Nat → Nat → Option xQ, h = hp N I J P V A B ∧ QS N P ls ∧ PP N P := q
theorem trow_in {c : Int32} (h : 0 ≤ c.toInt) : (trow c).toInt = c.toInt % 100 * 4 ∧ vp_in (trow c) 400 ∧ vp_in (trow c + 1) 400 ∧ vp_in (trow c + 2) 400 ∧ vp_in (trow c + 3) 400 := by
  have c100 : (100 : Int32).toInt = 100 := by decide
  have hb := c.toInt_lt
  have e1 : (c / 100).toInt = c.toInt / 100 := by
    rw [Kit.i32_div (by rw [c100]; omega), c100, Int.tdiv_eq_ediv_of_nonneg h]
  have e2 : (c / 100 * 100).toInt = c.toInt / 100 * 100 := by
    rw [Kit.i32_mul (by rw [e1, c100]; omega) (by rw [e1, c100]; omega), e1, c100]
  have e3 : (c - c / 100 * 100).toInt = c.toInt % 100 := by
    rw [Kit.i32_sub (by rw [e2]; omega) (by rw [e2]; omega), e2]
    omega
  have e4 : (trow c).toInt = c.toInt % 100 * 4 := by
    unfold trow
    rw [Kit.i32_mul (by rw [e3, show (4 : Int32).toInt = 4 by decide]; omega) (by rw [e3, show (4 : Int32).toInt = 4 by decide]; omega), e3, show (4 : Int32).toInt = 4 by decide]
  have a1 : (trow c + 1).toInt = (trow c).toInt + 1 := by
    rw [Kit.i32_add (by rw [e4, show (1 : Int32).toInt = 1 by decide]; omega) (by rw [e4, show (1 : Int32).toInt = 1 by decide]; omega), show (1 : Int32).toInt = 1 by decide]
  have a2 : (trow c + 2).toInt = (trow c).toInt + 2 := by
    rw [Kit.i32_add (by rw [e4, show (2 : Int32).toInt = 2 by decide]; omega) (by rw [e4, show (2 : Int32).toInt = 2 by decide]; omega), show (2 : Int32).toInt = 2 by decide]
  have a3 : (trow c + 3).toInt = (trow c).toInt + 3 := by
    rw [Kit.i32_add (by rw [e4, show (3 : Int32).toInt = 3 by decide]; omega) (by rw [e4, show (3 : Int32).toInt = 3 by decide]; omega), show (3 : Int32).toInt = 3 by decide]
  exact ⟨e4, vp_of (by omega) (by omega), vp_of (by omega) (by omega), vp_of (by omega) (by omega), vp_of (by omega) (by omega)⟩
/-- an order's fixed fields are in their ranges -/
def OK1 (I : Nat → Nat → Int32) (k : Nat) : Prop := vp_in (I 1 k) 5 ∧ vp_in (I 2 k) 2 ∧ (I 3 k = 0 ∨ I 3 k = 1) ∧ 1 ≤ (I 5 k).toInt ∧ (I 5 k).toInt ≤ 63
def exI (I : Nat → Nat → Int32) (b s : Nat) (p a : Int32) : Nat → Nat → Int32 := twr (si (si (si I 6 b (I 6 b - a)) 6 s (si I 6 b (I 6 b - a) 6 s - a)) 11 (I 2 b).toNatClampNeg p) (I 0 b) (I 0 s) p a
def exV (I V : Nat → Nat → Int32) (b s : Nat) (a : Int32) : Nat → Nat → Int32 := si (si V (I 1 b).toNatClampNeg (I 2 b).toNatClampNeg (V (I 1 b).toNatClampNeg (I 2 b).toNatClampNeg + a)) (I 1 s).toNatClampNeg (I 2 s).toNatClampNeg (si V (I 1 b).toNatClampNeg (I 2 b).toNatClampNeg (V (I 1 b).toNatClampNeg (I 2 b).toNatClampNeg + a) (I 1 s).toNatClampNeg (I 2 s).toNatClampNeg + -a)
def exJ (I : Nat → Nat → Int32) (J : Nat → Nat → Int64) (b s : Nat) (p a : Int32) : Nat → Nat → Int64 := sj (sj J 1 (I 1 b).toNatClampNeg (J 1 (I 1 b).toNatClampNeg - a.toInt64 * p.toInt64)) 1 (I 1 s).toNatClampNeg (sj J 1 (I 1 b).toNatClampNeg (J 1 (I 1 b).toNatClampNeg - a.toInt64 * p.toInt64) 1 (I 1 s).toNatClampNeg - (-a).toInt64 * p.toInt64)
theorem cC_exchange {b s : Nat} (hb : b < N) (hs : s < N) (ob : OK1 I b) (os : OK1 I s) (hT : 0 ≤ (I 13 0).toInt) (p a : Int32) : x_C l G mC_exchange 1 0 0 [xR (some (5, 0)), xR (some (0, b)), xR (some (0, s)), xI p, xI a] (hp N I J P V A B) [] (x_is none (hp N (exI I b s p a) (exJ I J b s p a) P (exV I V b s a) A B)) := by
  refine x_C.at [some (xR (some (5, 0))), some (xR (some (0, b))), some (xR (some (0, s))), some (xI p), some (xI a)] rfl (Nat.le_of_ble_eq_true rfl) rfl ?_
  refine x_aload_n 1 dC_exchange_0 rfl rfl ?_
  refine x_dup 2 dC_exchange_1 rfl rfl ?_
  refine x_get _ 5 fC_107 dC_exchange_2 rfl (h_O (by assumption)) rfl ?_
  refine x_iload 7 dC_exchange_5 rfl rfl ?_
  refine x_isub 8 dC_exchange_7 rfl ?_
  refine y_O6 11 pC_exchange_107 dC_exchange_8 rfl (by assumption) ?_
  refine x_aload_n 12 dC_exchange_11 rfl rfl ?_
  refine x_dup 13 dC_exchange_12 rfl rfl ?_
  refine x_get _ 16 fC_107 dC_exchange_13 rfl (h_O (by assumption)) rfl ?_
  refine x_iload 18 dC_exchange_16 rfl rfl ?_
  refine x_isub 19 dC_exchange_18 rfl ?_
  refine y_O6 22 pC_exchange_107 dC_exchange_19 rfl (by assumption) ?_
  refine x_aload_n 23 dC_exchange_22 rfl rfl ?_
  refine x_get _ 26 fC_11 dC_exchange_23 rfl rfl rfl ?_
  refine x_aload_n 27 dC_exchange_26 rfl rfl ?_
  refine x_get _ 30 fC_185 dC_exchange_27 rfl (h_O (by assumption)) rfl ?_
  refine x_aald 31 rfl dC_exchange_30 rfl rfl ob.1 ?_
  refine x_aload_n 32 dC_exchange_31 rfl rfl ?_
  refine x_get _ 35 fC_160 dC_exchange_32 rfl (h_O (by assumption)) rfl ?_
  refine x_iload 37 dC_exchange_35 rfl rfl ?_
  refine x_iload_n 38 dC_exchange_37 rfl rfl ?_
  refine x_fVn 41 (cA_enter (vp_lt ob.1) ob.2.1 _ _) kC_240 oA_enter rfl (h_A (vp_lt ob.1)) dC_exchange_38 rfl rfl (by decide) (Nat.le_of_ble_eq_true rfl) ?_
  refine x_aload_n 42 dC_exchange_41 rfl rfl ?_
  refine x_get _ 45 fC_11 dC_exchange_42 rfl rfl rfl ?_
  refine x_aload_n 46 dC_exchange_45 rfl rfl ?_
  refine x_get _ 49 fC_185 dC_exchange_46 rfl (h_O (by assumption)) rfl ?_
  refine x_aald 50 rfl dC_exchange_49 rfl rfl os.1 ?_
  refine x_aload_n 51 dC_exchange_50 rfl rfl ?_
  refine x_get _ 54 fC_160 dC_exchange_51 rfl (h_O (by assumption)) rfl ?_
  refine x_iload 56 dC_exchange_54 rfl rfl ?_
  refine x_ineg 57 dC_exchange_56 rfl ?_
  refine x_iload_n 58 dC_exchange_57 rfl rfl ?_
  refine x_fVn 61 (cA_enter (vp_lt os.1) os.2.1 _ _) kC_240 oA_enter rfl (h_A (vp_lt os.1)) dC_exchange_58 rfl rfl (by decide) (Nat.le_of_ble_eq_true rfl) ?_
  refine x_aload_n 62 dC_exchange_61 rfl rfl ?_
  refine x_get _ 65 fC_17 dC_exchange_62 rfl rfl rfl ?_
  refine x_aload_n 66 dC_exchange_65 rfl rfl ?_
  refine x_get _ 69 fC_160 dC_exchange_66 rfl (h_O (by assumption)) rfl ?_
  refine x_aald 70 rfl dC_exchange_69 rfl rfl ob.2.1 ?_
  refine x_iload_n 71 dC_exchange_70 rfl rfl ?_
  refine y_B3 74 pC_exchange_244 dC_exchange_71 rfl (vp_lt ob.2.1) ?_
  refine x_aload_n 75 dC_exchange_74 rfl rfl ?_
  refine x_get _ 78 fC_30 dC_exchange_75 rfl rfl rfl ?_
  refine x_aload_n 79 dC_exchange_78 rfl rfl ?_
  refine x_get _ 82 fC_96 dC_exchange_79 rfl (h_O (by assumption)) rfl ?_
  refine x_aload_n 83 dC_exchange_82 rfl rfl ?_
  refine x_get _ 86 fC_96 dC_exchange_83 rfl (h_O (by assumption)) rfl ?_
  refine x_iload_n 87 dC_exchange_86 rfl rfl ?_
  refine x_iload 89 dC_exchange_87 rfl rfl ?_
  refine x_fVn 92 (cT_write (by exact (trow_in hT).2.1) (by exact (trow_in hT).2.2.1) (by exact (trow_in hT).2.2.2.1) (by exact (trow_in hT).2.2.2.2) _ _ _ _) kC_247 oT_write rfl rfl dC_exchange_89 rfl rfl (by decide) (Nat.le_of_ble_eq_true rfl) ?_
  exact x_vret dC_exchange_92 rfl ⟨rfl, rfl⟩
theorem HS.ip {c : Prop} [Decidable c] {S1 S2 : cS} (hc : c) (q : HS N S1 A B h) : HS N (if c then S1 else S2) A B h := by rw [if_pos hc]; exact q
theorem HS.ig {c : Prop} [Decidable c] {S1 S2 : cS} (hc : ¬ c) (q : HS N S2 A B h) : HS N (if c then S1 else S2) A B h := by rw [if_neg hc]; exact q
def tkL (I : Nat → Nat → Int32) (ls : Nat → List Nat) (o : Nat) : Nat → List Nat := lvL ls (sdx (I 2 o).toNatClampNeg (I 3 o)) o
theorem cC_takeAway {o : Nat} (hS : HS N (I, J, V, ls) A B h) (ho : o < N) (h2 : vp_in (I 2 o) 2) (st : Int32) : x_C l G mC_takeAway 2 0 0 [xR (some (5, 0)), xR (some (0, o)), xI st] (h) [] (x_ex none (HS N (si I 8 o st, J, V, tkL I ls o) A B)) := by
  obtain ⟨P, rfl, hQ, hP2⟩ := hS.out
  refine x_C.at [some (xR (some (5, 0))), some (xR (some (0, o))), some (xI st)] rfl (Nat.le_of_ble_eq_true rfl) rfl ?_
  refine x_aload_n 1 dC_takeAway_0 rfl rfl ?_
  refine x_get _ 4 fC_17 dC_takeAway_1 rfl rfl rfl ?_
  refine x_aload_n 5 dC_takeAway_4 rfl rfl ?_
  refine x_get _ 8 fC_160 dC_takeAway_5 rfl (h_O (by assumption)) rfl ?_
  refine x_aald 9 rfl dC_takeAway_8 rfl rfl h2 ?_
  refine x_aload_n 10 dC_takeAway_9 rfl rfl ?_
  refine x_get _ 13 fC_163 dC_takeAway_10 rfl (h_O (by assumption)) rfl ?_
  refine x_fVv 16 (cB_on (vp_lt h2) _) kC_136 oB_on rfl (h_B (vp_lt h2)) dC_takeAway_13 rfl rfl (by decide) (Nat.le_of_ble_eq_true rfl) ?_
  refine x_aload_n 17 dC_takeAway_16 rfl rfl ?_
  refine x_fVn 20 (cD_leave (sdx_lt (vp_lt h2) _) ho (hQ.1 _ (sdx_lt (vp_lt h2) _)) (hQ.2.1 _ (sdx_lt (vp_lt h2) _))) kC_234 oD_leave rfl (h_D (sdx_lt (vp_lt h2) _)) dC_takeAway_17 rfl rfl (by decide) (Nat.le_of_ble_eq_true rfl) ?_
  refine x_aload_n 21 dC_takeAway_20 rfl rfl ?_
  refine x_iload_n 22 dC_takeAway_21 rfl rfl ?_
  refine y_O8 25 pC_takeAway_157 dC_takeAway_22 rfl (by assumption) ?_
  exact x_vret dC_takeAway_25 rfl ⟨rfl, _, rfl, (hQ.leave (sdx_lt (vp_lt h2) _)).1, hP2.leave hQ (sdx_lt (vp_lt h2) _)⟩
def kfS (I : Nat → Nat → Int32) (J : Nat → Nat → Int64) (V : Nat → Nat → Int32) (ls : Nat → List Nat) (o : Nat) : cS := if I 6 o = 0 then (si I 8 o 1, J, V, tkL I ls o) else (si I 7 o (shw I o), J, V, ls)
theorem cC_keepOrFill {o : Nat} (hS : HS N (I, J, V, ls) A B h) (ho : o < N) (h2 : vp_in (I 2 o) 2) : x_C l G mC_keepOrFill 3 0 0 [xR (some (5, 0)), xR (some (0, o))] h [] (x_ex none (HS N (kfS I J V ls o) A B)) := by
  obtain ⟨P, rfl, hQ, hP2⟩ := hS.out
  refine x_C.at [some (xR (some (5, 0))), some (xR (some (0, o)))] rfl (Nat.le_of_ble_eq_true rfl) rfl ?_
  refine x_aload_n 1 dC_keepOrFill_0 rfl rfl ?_
  refine x_get _ 4 fC_107 dC_keepOrFill_1 rfl (h_O (by assumption)) rfl ?_
  refine x_if_ne 16 7 dC_keepOrFill_4 (by decide) rfl (fun h4 => ?_) (fun h4 => ?_)
  · skip
    refine x_aload_n 17 dC_keepOrFill_16 rfl rfl ?_
    refine x_fVn 20 (cO_showAnew ho) kC_213 oO_showAnew rfl (h_O (by assumption)) dC_keepOrFill_17 rfl rfl (by decide) (Nat.le_of_ble_eq_true rfl) ?_
    exact x_vret dC_keepOrFill_20 rfl ⟨rfl, by unfold kfS; rw [if_neg h4]; exact ⟨P, rfl, hQ, hP2⟩⟩
  · skip
    refine x_aload_n 8 dC_keepOrFill_7 rfl rfl ?_
    refine x_aload_n 9 dC_keepOrFill_8 rfl rfl ?_
    refine x_iconst 1 10 dC_keepOrFill_9 rfl rfl ?_
    refine x_gVn 13 (cC_takeAway hS ho h2 1) kC_103 oC_takeAway rfl rfl dC_keepOrFill_10 rfl rfl (by decide) (Nat.le_of_ble_eq_true rfl) (fun h1 hq => ?_)
    have hq1 : HS N (kfS I J V ls o) A B h1 := by unfold kfS; rw [if_pos h4]; exact hq
    refine x_goto 20 dC_keepOrFill_13 (by decide) ?_
    exact x_vret dC_keepOrFill_20 rfl ⟨rfl, hq1⟩
def tw1 (I : Nat → Nat → Int32) (k r : Nat) : Nat → Nat → Int32 := si I 7 r (I 7 r - i_min (I 6 k) (I 7 r))
def tw2 (I : Nat → Nat → Int32) (J : Nat → Nat → Int64) (V : Nat → Nat → Int32) (ls : Nat → List Nat) (r j : Nat) : cS := if I 6 r = 0 then (si I 8 r 1, J, V, tkL I ls r) else if I 7 r = 0 then (si I 7 r (shw I r), J, V, jnL (si I 7 r (shw I r)) (lvL ls j r) j r) else (I, J, V, ls)
def tws (I : Nat → Nat → Int32) (J : Nat → Nat → Int64) (V : Nat → Nat → Int32) (ls : Nat → List Nat) (k r j : Nat) : cS := if I 3 k = 0 then tw2 (exI (tw1 I k r) k r (I 5 r) (i_min (I 6 k) (I 7 r))) (exJ (tw1 I k r) J k r (I 5 r) (i_min (I 6 k) (I 7 r))) (exV (tw1 I k r) V k r (i_min (I 6 k) (I 7 r))) ls r j else tw2 (exI (tw1 I k r) r k (I 5 r) (i_min (I 6 k) (I 7 r))) (exJ (tw1 I k r) J r k (I 5 r) (i_min (I 6 k) (I 7 r))) (exV (tw1 I k r) V r k (i_min (I 6 k) (I 7 r))) ls r j
theorem cC_tradeWithShown {k r j : Nat} (hS : HS N (I, J, V, ls) A B h) (hk : k < N) (hr : r < N) (hj : j < 4) (ok : OK1 I k) (or : OK1 I r) (hT : 0 ≤ (I 13 0).toInt) (hrj : ∀ i < 4, r ∈ ls i → i = j) : x_C l G mC_tradeWithShown 3 0 0 [xR (some (5, 0)), xR (some (0, k)), xR (some (0, r)), xR (some (4, j))] h [] (x_ex none (HS N (tws I J V ls k r j) A B)) := by
  obtain ⟨P, rfl, hQ, hP2⟩ := hS.out
  have hlv := hQ.leave (o := r) hj
  have hno : ∀ i < 4, r ∉ lvL ls j r i := fun i hi q => by
    have hij := hrj i hi (lvL_sub q)
    subst hij
    unfold lvL at q
    rw [x_uf_self] at q
    exact (List.Nodup.mem_erase_iff (hQ.2.2.1 i hi)).mp q |>.1 rfl
  refine x_C.at [some (xR (some (5, 0))), some (xR (some (0, k))), some (xR (some (0, r))), some (xR (some (4, j))), none] rfl (Nat.le_of_ble_eq_true rfl) rfl ?_
  refine x_aload_n 1 dC_tradeWithShown_0 rfl rfl ?_
  refine x_get _ 4 fC_107 dC_tradeWithShown_1 rfl (h_O (by assumption)) rfl ?_
  refine x_aload_n 5 dC_tradeWithShown_4 rfl rfl ?_
  refine x_get _ 8 fC_110 dC_tradeWithShown_5 rfl (h_O (by assumption)) rfl ?_
  refine x_mmin 11 kC_113 dC_tradeWithShown_8 rfl (by decide) (Nat.le_of_ble_eq_true rfl) ?_
  refine x_istore 13 dC_tradeWithShown_11 rfl (by decide) rfl ?_
  refine x_aload_n 14 dC_tradeWithShown_13 rfl rfl ?_
  refine x_dup 15 dC_tradeWithShown_14 rfl rfl ?_
  refine x_get _ 18 fC_110 dC_tradeWithShown_15 rfl (h_O (by assumption)) rfl ?_
  refine x_iload 20 dC_tradeWithShown_18 rfl rfl ?_
  refine x_isub 21 dC_tradeWithShown_20 rfl ?_
  refine y_O7 24 pC_tradeWithShown_110 dC_tradeWithShown_21 rfl (by assumption) ?_
  refine x_aload_n 25 dC_tradeWithShown_24 rfl rfl ?_
  refine x_get _ 28 fC_163 dC_tradeWithShown_25 rfl (h_O (by assumption)) rfl ?_
  refine x_if_ne 46 31 dC_tradeWithShown_28 (by decide) rfl (fun h28 => ?_) (fun h28 => ?_)
  · skip
    refine x_aload_n 47 dC_tradeWithShown_46 rfl rfl ?_
    refine x_aload_n 48 dC_tradeWithShown_47 rfl rfl ?_
    refine x_aload_n 49 dC_tradeWithShown_48 rfl rfl ?_
    refine x_aload_n 50 dC_tradeWithShown_49 rfl rfl ?_
    refine x_get _ 53 fC_146 dC_tradeWithShown_50 rfl (h_O (by assumption)) rfl ?_
    refine x_iload 55 dC_tradeWithShown_53 rfl rfl ?_
    refine x_fVn 58 (cC_exchange hr hk (by exact or) (by exact ok) (by exact hT) _ _) kC_230 oC_exchange rfl rfl dC_tradeWithShown_55 rfl rfl (by decide) (Nat.le_of_ble_eq_true rfl) ?_
    refine x_aload_n 59 dC_tradeWithShown_58 rfl rfl ?_
    refine x_get _ 62 fC_107 dC_tradeWithShown_59 rfl (h_O (by assumption)) rfl ?_
    refine x_if_ne 74 65 dC_tradeWithShown_62 (by decide) rfl (fun h62 => ?_) (fun h62 => ?_)
    · skip
      refine x_aload_n 75 dC_tradeWithShown_74 rfl rfl ?_
      refine x_get _ 78 fC_110 dC_tradeWithShown_75 rfl (h_O (by assumption)) rfl ?_
      refine x_if_ne 95 81 dC_tradeWithShown_78 (by decide) rfl (fun h78 => ?_) (fun h78 => ?_)
      · skip
        exact x_vret dC_tradeWithShown_95 rfl ⟨rfl, HS.ig h28 (HS.ig h62 (HS.ig h78 ⟨P, rfl, hQ, hP2⟩))⟩
      · skip
        refine x_aload_n 82 dC_tradeWithShown_81 rfl rfl ?_
        refine x_aload_n 83 dC_tradeWithShown_82 rfl rfl ?_
        refine x_fVn 86 (cD_leave hj hr (hQ.1 j hj) (hQ.2.1 j hj)) kC_234 oD_leave rfl (h_D (by omega)) dC_tradeWithShown_83 rfl rfl (by decide) (Nat.le_of_ble_eq_true rfl) ?_
        refine x_aload_n 87 dC_tradeWithShown_86 rfl rfl ?_
        refine x_fVn 90 (cO_showAnew hr) kC_213 oO_showAnew rfl (h_O (by assumption)) dC_tradeWithShown_87 rfl rfl (by decide) (Nat.le_of_ble_eq_true rfl) ?_
        refine x_aload_n 91 dC_tradeWithShown_90 rfl rfl ?_
        refine x_aload_n 92 dC_tradeWithShown_91 rfl rfl ?_
        refine x_fVn 95 (cD_join hj hr (hlv.1.1 j hj) (hlv.1.2.1 j hj)) kC_216 oD_join rfl (h_D (by omega)) dC_tradeWithShown_92 rfl rfl (by decide) (Nat.le_of_ble_eq_true rfl) ?_
        exact x_vret dC_tradeWithShown_95 rfl ⟨rfl, HS.ig h28 (HS.ig h62 (HS.ip h78 ⟨_, rfl, (hlv.1.join hj hr hno).1, (hP2.leave hQ hj).join hlv.1 hj hr hno⟩))⟩
    · skip
      refine x_aload_n 66 dC_tradeWithShown_65 rfl rfl ?_
      refine x_aload_n 67 dC_tradeWithShown_66 rfl rfl ?_
      refine x_iconst 1 68 dC_tradeWithShown_67 rfl rfl ?_
      refine x_gVn 71 (cC_takeAway (ls := ls) (by exact ⟨P, rfl, hQ, hP2⟩) hr (by exact or.2.1) 1) kC_103 oC_takeAway rfl rfl dC_tradeWithShown_68 rfl rfl (by decide) (Nat.le_of_ble_eq_true rfl) (fun h1 hq => ?_)
      skip
      refine x_goto 95 dC_tradeWithShown_71 (by decide) ?_
      exact x_vret dC_tradeWithShown_95 rfl ⟨rfl, HS.ig h28 (HS.ip h62 hq)⟩
  · skip
    refine x_aload_n 32 dC_tradeWithShown_31 rfl rfl ?_
    refine x_aload_n 33 dC_tradeWithShown_32 rfl rfl ?_
    refine x_aload_n 34 dC_tradeWithShown_33 rfl rfl ?_
    refine x_aload_n 35 dC_tradeWithShown_34 rfl rfl ?_
    refine x_get _ 38 fC_146 dC_tradeWithShown_35 rfl (h_O (by assumption)) rfl ?_
    refine x_iload 40 dC_tradeWithShown_38 rfl rfl ?_
    refine x_fVn 43 (cC_exchange hk hr (by exact ok) (by exact or) (by exact hT) _ _) kC_230 oC_exchange rfl rfl dC_tradeWithShown_40 rfl rfl (by decide) (Nat.le_of_ble_eq_true rfl) ?_
    refine x_goto 58 dC_tradeWithShown_43 (by decide) ?_
    refine x_aload_n 59 dC_tradeWithShown_58 rfl rfl ?_
    refine x_get _ 62 fC_107 dC_tradeWithShown_59 rfl (h_O (by assumption)) rfl ?_
    refine x_if_ne 74 65 dC_tradeWithShown_62 (by decide) rfl (fun h62 => ?_) (fun h62 => ?_)
    · skip
      refine x_aload_n 75 dC_tradeWithShown_74 rfl rfl ?_
      refine x_get _ 78 fC_110 dC_tradeWithShown_75 rfl (h_O (by assumption)) rfl ?_
      refine x_if_ne 95 81 dC_tradeWithShown_78 (by decide) rfl (fun h78 => ?_) (fun h78 => ?_)
      · skip
        exact x_vret dC_tradeWithShown_95 rfl ⟨rfl, HS.ip h28 (HS.ig h62 (HS.ig h78 ⟨P, rfl, hQ, hP2⟩))⟩
      · skip
        refine x_aload_n 82 dC_tradeWithShown_81 rfl rfl ?_
        refine x_aload_n 83 dC_tradeWithShown_82 rfl rfl ?_
        refine x_fVn 86 (cD_leave hj hr (hQ.1 j hj) (hQ.2.1 j hj)) kC_234 oD_leave rfl (h_D (by omega)) dC_tradeWithShown_83 rfl rfl (by decide) (Nat.le_of_ble_eq_true rfl) ?_
        refine x_aload_n 87 dC_tradeWithShown_86 rfl rfl ?_
        refine x_fVn 90 (cO_showAnew hr) kC_213 oO_showAnew rfl (h_O (by assumption)) dC_tradeWithShown_87 rfl rfl (by decide) (Nat.le_of_ble_eq_true rfl) ?_
        refine x_aload_n 91 dC_tradeWithShown_90 rfl rfl ?_
        refine x_aload_n 92 dC_tradeWithShown_91 rfl rfl ?_
        refine x_fVn 95 (cD_join hj hr (hlv.1.1 j hj) (hlv.1.2.1 j hj)) kC_216 oD_join rfl (h_D (by omega)) dC_tradeWithShown_92 rfl rfl (by decide) (Nat.le_of_ble_eq_true rfl) ?_
        exact x_vret dC_tradeWithShown_95 rfl ⟨rfl, HS.ip h28 (HS.ig h62 (HS.ip h78 ⟨_, rfl, (hlv.1.join hj hr hno).1, (hP2.leave hQ hj).join hlv.1 hj hr hno⟩))⟩
    · skip
      refine x_aload_n 66 dC_tradeWithShown_65 rfl rfl ?_
      refine x_aload_n 67 dC_tradeWithShown_66 rfl rfl ?_
      refine x_iconst 1 68 dC_tradeWithShown_67 rfl rfl ?_
      refine x_gVn 71 (cC_takeAway (ls := ls) (by exact ⟨P, rfl, hQ, hP2⟩) hr (by exact or.2.1) 1) kC_103 oC_takeAway rfl rfl dC_tradeWithShown_68 rfl rfl (by decide) (Nat.le_of_ble_eq_true rfl) (fun h1 hq => ?_)
      skip
      refine x_goto 95 dC_tradeWithShown_71 (by decide) ?_
      exact x_vret dC_tradeWithShown_95 rfl ⟨rfl, HS.ip h28 (HS.ip h62 hq)⟩
def tkS (I : Nat → Nat → Int32) (J : Nat → Nat → Int64) (V : Nat → Nat → Int32) (ls : Nat → List Nat) (o : Nat) (st : Int32) : cS := (si I 8 o st, J, V, tkL I ls o)
def mtF (k j : Nat) : Nat → cS → cS
  | 0, S => S
  | n + 1, S => if S.1 6 k ≤ 0 then S else match S.2.2.2 j with
    | [] => S
    | r :: _ => if acc S.1 k (S.1 5 r) then (if S.1 1 r = S.1 1 k then mtF k j n (tkS S.1 S.2.1 S.2.2.1 S.2.2.2 r 2) else mtF k j n (tws S.1 S.2.1 S.2.2.1 S.2.2.2 k r j)) else S
/-- what a meeting needs: orders in their ranges, chains of the right side -/
def CI (N : Nat) (I : Nat → Nat → Int32) (ls : Nat → List Nat) : Prop := (∀ k < N, OK1 I k) ∧ ∀ j < 4, ∀ o ∈ ls j, sdx (I 2 o).toNatClampNeg (I 3 o) = j
theorem CI.re {I I' : Nat → Nat → Int32} {ls ls' : Nat → List Nat} (q : CI N I ls) (h1 : I' 1 = I 1) (h2 : I' 2 = I 2) (h3 : I' 3 = I 3) (h5 : I' 5 = I 5) (hl : ∀ j < 4, ∀ o ∈ ls' j, o ∈ ls j ∨ sdx (I 2 o).toNatClampNeg (I 3 o) = j) : CI N I' ls' := by
  refine ⟨fun k hk => ?_, fun j hj o ho => ?_⟩
  · have := q.1 k hk
    unfold OK1 at this ⊢
    rw [h1, h2, h3, h5]
    exact this
  · rw [h2, h3]
    rcases hl j hj o ho with h | h
    · exact q.2 j hj o h
    · exact h
/-- the fixed fields stay -/
def KP (I I' : Nat → Nat → Int32) : Prop := I' 0 = I 0 ∧ I' 1 = I 1 ∧ I' 2 = I 2 ∧ I' 3 = I 3 ∧ I' 4 = I 4 ∧ I' 5 = I 5 ∧ I' 10 = I 10 ∧ I' 12 = I 12
theorem KP.rf (I : Nat → Nat → Int32) : KP I I := ⟨rfl, rfl, rfl, rfl, rfl, rfl, rfl, rfl⟩
theorem KP.tr {I1 I2 I3 : Nat → Nat → Int32} (a : KP I1 I2) (b : KP I2 I3) : KP I1 I3 := ⟨b.1.trans a.1, b.2.1.trans a.2.1, b.2.2.1.trans a.2.2.1, b.2.2.2.1.trans a.2.2.2.1, b.2.2.2.2.1.trans a.2.2.2.2.1, b.2.2.2.2.2.1.trans a.2.2.2.2.2.1, b.2.2.2.2.2.2.1.trans a.2.2.2.2.2.2.1, b.2.2.2.2.2.2.2.trans a.2.2.2.2.2.2.2⟩
theorem tws_KP (k r j : Nat) : KP I (tws I J V ls k r j).1 ∧ (tws I J V ls k r j).1 13 0 = I 13 0 + 1 := by
  unfold tws tw2
  split <;> (split <;> first | exact ⟨⟨rfl, rfl, rfl, rfl, rfl, rfl, rfl, rfl⟩, rfl⟩ | (split <;> exact ⟨⟨rfl, rfl, rfl, rfl, rfl, rfl, rfl, rfl⟩, rfl⟩))
theorem tws_ls {k r j : Nat} (hr : sdx (I 2 r).toNatClampNeg (I 3 r) = j) : ∀ i < 4, ∀ o ∈ (tws I J V ls k r j).2.2.2 i, o ∈ ls i ∨ (i = j ∧ o = r) := by
  intro i hi o ho
  have key : ∀ (I2 : Nat → Nat → Int32) (J2 : Nat → Nat → Int64) (V2 : Nat → Nat → Int32), o ∈ (tw2 I2 J2 V2 ls r j).2.2.2 i → o ∈ ls i ∨ (i = j ∧ o = r) := by
    intro I2 J2 V2 ho
    unfold tw2 at ho
    split at ho
    · exact Or.inl (lvL_sub ho)
    · split at ho
      · rcases mem_jnL ho with ho | ho
        · exact Or.inl (lvL_sub ho)
        · exact Or.inr ho
      · exact Or.inl ho
  unfold tws at ho
  split at ho
  · exact key _ _ _ ho
  · exact key _ _ _ ho
theorem tws_CI {k r j : Nat} (q : CI N I ls) (hr : sdx (I 2 r).toNatClampNeg (I 3 r) = j) : CI N (tws I J V ls k r j).1 (tws I J V ls k r j).2.2.2 := by
  obtain ⟨⟨-, a1, a2, a3, -, a5, -⟩, -⟩ := tws_KP (I := I) (J := J) (V := V) (ls := ls) k r j
  refine q.re a1 a2 a3 a5 (fun i hi o ho => ?_)
  rcases tws_ls hr i hi o ho with h | h
  · exact Or.inl h
  · exact Or.inr (by rw [h.2, h.1]; exact hr)
theorem tk_CI {r : Nat} {st : Int32} (q : CI N I ls) : CI N (si I 8 r st) (tkL I ls r) := q.re rfl rfl rfl rfl (fun _ _ _ ho => Or.inl (lvL_sub ho))
theorem mtF_a {k j n r : Nat} {c : List Nat} (h24 : ¬ I 6 k ≤ 0) (hl : ls j = r :: c) (ha : acc I k (I 5 r)) (hm : I 1 r = I 1 k) : mtF k j (n + 1) (I, J, V, ls) = mtF k j n (tkS I J V ls r 2) := by
  simp only [mtF, if_neg h24, hl, if_pos ha, if_pos hm]
theorem mtF_b {k j n r : Nat} {c : List Nat} (h24 : ¬ I 6 k ≤ 0) (hl : ls j = r :: c) (ha : acc I k (I 5 r)) (hm : ¬ I 1 r = I 1 k) : mtF k j (n + 1) (I, J, V, ls) = mtF k j n (tws I J V ls k r j) := by
  simp only [mtF, if_neg h24, hl, if_pos ha, if_neg hm]
theorem c219 : (219 : Int32).toInt = 219 := by decide
theorem lp_meet {k i j : Nat} (hk : k < N) (hj : j < 4) (T : cS) : ∀ (n : Nat) (I : Nat → Nat → Int32) (J : Nat → Nat → Int64) (V : Nat → Nat → Int32) (ls : Nat → List Nat) (e : Int32) (x : Option xV) (h : xH), HS N (I, J, V, ls) A B h → CI N I ls → e.toInt + n = 219 → 0 ≤ e.toInt → 0 ≤ (I 13 0).toInt → (I 13 0).toInt + n < 2147483648 → mtF k j n (I, J, V, ls) = T → x_X l G mC_meet 4 0 0 [] (x_ex none (HS N T A B)) 12 [some (xR (some (5, 0))), some (xR (some (0, k))), some (xR (some (3, i))), some (xR (some (4, j))), some (xI e), x] [] h := by
  intro n
  induction n with
  | zero =>
    intro I J V ls e x h hS hC he1 he0 hT0 hT1 hT
    subst hT
    obtain ⟨P, rfl, hQ, hP2⟩ := hS.out
    refine x_iload 14 dC_meet_12 rfl rfl ?_
    refine x_sipush (219) 17 dC_meet_14 rfl rfl ?_
    refine x_icmp_ge 87 20 dC_meet_17 (by decide) rfl (fun h17 => ?_) (fun h17 => absurd (show (219 : Int32) ≤ e from by rw [i_le, c219]; omega) h17)
    exact x_vret dC_meet_87 rfl ⟨rfl, P, rfl, hQ, hP2⟩
  | succ n ih =>
    intro I J V ls e x h hS hC he1 he0 hT0 hT1 hT
    obtain ⟨P, rfl, hQ, hP2⟩ := hS.out
    have hlt : ¬ (219 : Int32) ≤ e := by rw [i_le, c219]; omega
    have hch := hQ.1 j hj
    have hi1 := i_inc (p := e) (by omega) (by omega)
    cases hl : ls j with
    | nil =>
      rw [hl] at hch
      have hch : P 1 j = none := hch
      refine x_iload 14 dC_meet_12 rfl rfl ?_
      refine x_sipush (219) 17 dC_meet_14 rfl rfl ?_
      refine x_icmp_ge 87 20 dC_meet_17 (by decide) rfl (fun h17 => absurd h17 hlt) (fun h17 => ?_)
      refine x_aload_n 21 dC_meet_20 rfl rfl ?_
      refine x_get _ 24 fC_107 dC_meet_21 rfl (h_O (by assumption)) rfl ?_
      refine x_if_le 87 27 dC_meet_24 (by decide) rfl (fun h24 => ?_) (fun h24 => ?_)
      · skip
        exact x_vret dC_meet_87 rfl ⟨rfl, by rw [← hT]; unfold mtF; dsimp only; first | (rw [if_pos h24]; exact ⟨P, rfl, hQ, hP2⟩) | (rw [if_neg h24, hl]; exact ⟨P, rfl, hQ, hP2⟩) | (rw [if_neg h24, hl]; dsimp only; rw [if_neg (b01_z.mp h47)]; exact ⟨P, rfl, hQ, hP2⟩)⟩
      · skip
        refine x_aload_n 28 dC_meet_27 rfl rfl ?_
        refine x_get _ 31 fC_140 dC_meet_28 rfl (h_D (by omega)) rfl ?_
        rw [hch]
        refine x_astore 33 dC_meet_31 rfl (by decide) rfl ?_
        refine x_aload 35 dC_meet_33 rfl rfl ?_
        refine x_ifnull_n 50 38 dC_meet_35 (by decide) rfl ?_
        exact x_vret dC_meet_50 rfl ⟨rfl, by rw [← hT]; unfold mtF; dsimp only; first | (rw [if_pos h24]; exact ⟨P, rfl, hQ, hP2⟩) | (rw [if_neg h24, hl]; exact ⟨P, rfl, hQ, hP2⟩) | (rw [if_neg h24, hl]; dsimp only; rw [if_neg (b01_z.mp h47)]; exact ⟨P, rfl, hQ, hP2⟩)⟩
    | cons r c =>
      rw [hl] at hch
      have hch1 : P 1 j = some (0, r) := hch.1
      have hrl : r ∈ ls j := by rw [hl]; exact List.mem_cons_self
      have hr := hQ.2.1 j hj r hrl
      have ok := hC.1 k hk
      have or := hC.1 r hr
      have hrs := hC.2 j hj r hrl
      have hrj : ∀ i < 4, r ∈ ls i → i = j := fun i hi hri => (hC.2 i hi r hri).symm.trans hrs
      refine x_iload 14 dC_meet_12 rfl rfl ?_
      refine x_sipush (219) 17 dC_meet_14 rfl rfl ?_
      refine x_icmp_ge 87 20 dC_meet_17 (by decide) rfl (fun h17 => absurd h17 hlt) (fun h17 => ?_)
      refine x_aload_n 21 dC_meet_20 rfl rfl ?_
      refine x_get _ 24 fC_107 dC_meet_21 rfl (h_O (by assumption)) rfl ?_
      refine x_if_le 87 27 dC_meet_24 (by decide) rfl (fun h24 => ?_) (fun h24 => ?_)
      · skip
        exact x_vret dC_meet_87 rfl ⟨rfl, by rw [← hT]; unfold mtF; dsimp only; first | (rw [if_pos h24]; exact ⟨P, rfl, hQ, hP2⟩) | (rw [if_neg h24, hl]; exact ⟨P, rfl, hQ, hP2⟩) | (rw [if_neg h24, hl]; dsimp only; rw [if_neg (b01_z.mp h47)]; exact ⟨P, rfl, hQ, hP2⟩)⟩
      · skip
        refine x_aload_n 28 dC_meet_27 rfl rfl ?_
        refine x_get _ 31 fC_140 dC_meet_28 rfl (h_D hj) rfl ?_
        rw [hch1]
        refine x_astore 33 dC_meet_31 rfl (by decide) rfl ?_
        refine x_aload 35 dC_meet_33 rfl rfl ?_
        refine x_ifnull_s 50 38 dC_meet_35 (by decide) rfl ?_
        refine x_aload_n 39 dC_meet_38 rfl rfl ?_
        refine x_aload 41 dC_meet_39 rfl rfl ?_
        refine x_get _ 44 fC_146 dC_meet_41 rfl (h_O (by assumption)) rfl ?_
        refine x_fVv 47 (cO_accepts hk _) kC_223 oO_accepts rfl (h_O (by assumption)) dC_meet_44 rfl rfl (by decide) (Nat.le_of_ble_eq_true rfl) ?_
        refine x_if_ne 51 50 dC_meet_47 (by decide) rfl (fun h47 => ?_) (fun h47 => ?_)
        · skip
          refine x_aload 53 dC_meet_51 rfl rfl ?_
          refine x_get _ 56 fC_185 dC_meet_53 rfl (h_O (by assumption)) rfl ?_
          refine x_aload_n 57 dC_meet_56 rfl rfl ?_
          refine x_get _ 60 fC_185 dC_meet_57 rfl (h_O (by assumption)) rfl ?_
          refine x_icmp_ne 73 63 dC_meet_60 (by decide) rfl (fun h60 => ?_) (fun h60 => ?_)
          · skip
            refine x_aload_n 74 dC_meet_73 rfl rfl ?_
            refine x_aload_n 75 dC_meet_74 rfl rfl ?_
            refine x_aload 77 dC_meet_75 rfl rfl ?_
            refine x_aload_n 78 dC_meet_77 rfl rfl ?_
            refine x_gVn 81 (cC_tradeWithShown hS hk hr hj ok or hT0 hrj) kC_226 oC_tradeWithShown rfl rfl dC_meet_78 rfl rfl (by decide) (Nat.le_of_ble_eq_true rfl) (fun h1 hq => ?_)
            skip
            refine x_iinc 84 dC_meet_81 rfl rfl (by decide) rfl ?_
            refine x_goto 12 dC_meet_84 (by decide) ?_
            have h13 := (tws_KP (I := I) (J := J) (V := V) (ls := ls) k r j).2
            have hi13 : ((tws I J V ls k r j).1 13 0).toInt = (I 13 0).toInt + 1 := by rw [h13]; exact i_p1 hT0 (by omega)
            exact ih (tws I J V ls k r j).1 (tws I J V ls k r j).2.1 (tws I J V ls k r j).2.2.1 (tws I J V ls k r j).2.2.2 _ _ h1 hq (tws_CI hC hrs) (by rw [hi1]; omega) (by rw [hi1]; omega) (by rw [hi13]; omega) (by rw [hi13]; omega) (by rw [← hT, mtF_b h24 hl (b01_nz.mp h47) h60])
          · skip
            refine x_aload_n 64 dC_meet_63 rfl rfl ?_
            refine x_aload 66 dC_meet_64 rfl rfl ?_
            refine x_iconst 2 67 dC_meet_66 rfl rfl ?_
            refine x_gVn 70 (cC_takeAway hS hr or.2.1 2) kC_103 oC_takeAway rfl rfl dC_meet_67 rfl rfl (by decide) (Nat.le_of_ble_eq_true rfl) (fun h1 hq => ?_)
            skip
            refine x_goto 81 dC_meet_70 (by decide) ?_
            refine x_iinc 84 dC_meet_81 rfl rfl (by decide) rfl ?_
            refine x_goto 12 dC_meet_84 (by decide) ?_
            exact ih (si I 8 r 2) J V (tkL I ls r) _ _ h1 hq (tk_CI hC) (by rw [hi1]; omega) (by rw [hi1]; omega) hT0 (by show (I 13 0).toInt + _ < _; omega) (by rw [← hT, mtF_a h24 hl (b01_nz.mp h47) h60]; rfl)
        · skip
          exact x_vret dC_meet_50 rfl ⟨rfl, by rw [← hT]; unfold mtF; dsimp only; first | (rw [if_pos h24]; exact ⟨P, rfl, hQ, hP2⟩) | (rw [if_neg h24, hl]; exact ⟨P, rfl, hQ, hP2⟩) | (rw [if_neg h24, hl]; dsimp only; rw [if_neg (b01_z.mp h47)]; exact ⟨P, rfl, hQ, hP2⟩)⟩
end M6
