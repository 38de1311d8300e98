section M2
variable {l : Launch} {G : xG} {N : Nat} {I : Nat → Nat → Int32} {J : Nat → Nat → Int64} {P : Nat → Nat → Option xQ} {V : Nat → Nat → Int32} {A : Nat → Nat → Int32} {B : Nat → Nat → Int64}
variable {h : xH}
abbrev acc (I : Nat → Nat → Int32) (k : Nat) (p : Int32) : Prop := (I 3 k = 0 ∧ ¬ I 5 k < p) ∨ (¬ I 3 k = 0 ∧ ¬ p < I 5 k)
theorem cC_kindOf (a : Int32) : x_C l G mC_kindOf 0 0 0 [xI a] (h) [] (x_is (some (xI (a / 2))) h) := by
  refine x_C.at [some (xI a)] rfl (Nat.le_of_ble_eq_true rfl) rfl ?_
  refine x_iload_n 1 dC_kindOf_0 rfl rfl ?_
  refine x_iconst 2 2 dC_kindOf_1 rfl rfl ?_
  refine x_idiv 3 dC_kindOf_2 rfl (by decide) ?_
  exact x_iret dC_kindOf_3 rfl rfl ⟨rfl, rfl⟩
theorem cC_sideOf (a : Int32) : x_C l G mC_sideOf 0 0 0 [xI a] (h) [] (x_is (some (xI (a - a / 2 * 2))) h) := by
  refine x_C.at [some (xI a)] rfl (Nat.le_of_ble_eq_true rfl) rfl ?_
  refine x_iload_n 1 dC_sideOf_0 rfl rfl ?_
  refine x_iconst 2 2 dC_sideOf_1 rfl rfl ?_
  refine x_irem 3 dC_sideOf_2 rfl (by decide) ?_
  exact x_iret dC_sideOf_3 rfl rfl ⟨rfl, rfl⟩
theorem cO_accepts {k : Nat} (hk : k < N) (p : Int32) : x_C l G mO_accepts 0 0 0 [xR (some (0, k)), xI p] (hp N I J P V A B) [] (x_is (some (xI (b01 (acc I k p)))) (hp N I J P V A B)) := by
  refine x_C.at [some (xR (some (0, k))), some (xI p)] rfl (Nat.le_of_ble_eq_true rfl) rfl ?_
  refine x_aload_n 1 dO_accepts_0 rfl rfl ?_
  refine x_get _ 4 fO_35 dO_accepts_1 rfl (h_O (by assumption)) rfl ?_
  refine x_if_ne 23 7 dO_accepts_4 (by decide) rfl (fun h4 => ?_) (fun h4 => ?_)
  · skip
    refine x_iload_n 24 dO_accepts_23 rfl rfl ?_
    refine x_aload_n 25 dO_accepts_24 rfl rfl ?_
    refine x_get _ 28 fO_44 dO_accepts_25 rfl (h_O (by assumption)) rfl ?_
    refine x_icmp_lt 35 31 dO_accepts_28 (by decide) rfl (fun h28 => ?_) (fun h28 => ?_)
    · skip
      refine x_iconst 0 36 dO_accepts_35 rfl rfl ?_
      exact x_iret dO_accepts_36 rfl rfl ⟨congrArg (fun v => some (xI v)) (b01_f (by simp [h4, h28, acc])).symm, rfl⟩
    · skip
      refine x_iconst 1 32 dO_accepts_31 rfl rfl ?_
      refine x_goto 36 dO_accepts_32 (by decide) ?_
      exact x_iret dO_accepts_36 rfl rfl ⟨congrArg (fun v => some (xI v)) (b01_t (by simp [h4, h28, acc])).symm, rfl⟩
  · skip
    refine x_iload_n 8 dO_accepts_7 rfl rfl ?_
    refine x_aload_n 9 dO_accepts_8 rfl rfl ?_
    refine x_get _ 12 fO_44 dO_accepts_9 rfl (h_O (by assumption)) rfl ?_
    refine x_icmp_gt 19 15 dO_accepts_12 (by decide) rfl (fun h12 => ?_) (fun h12 => ?_)
    · skip
      refine x_iconst 0 20 dO_accepts_19 rfl rfl ?_
      refine x_goto 36 dO_accepts_20 (by decide) ?_
      exact x_iret dO_accepts_36 rfl rfl ⟨congrArg (fun v => some (xI v)) (b01_f (by simp [h4, h12, acc])).symm, rfl⟩
    · skip
      refine x_iconst 1 16 dO_accepts_15 rfl rfl ?_
      refine x_goto 36 dO_accepts_16 (by decide) ?_
      exact x_iret dO_accepts_36 rfl rfl ⟨congrArg (fun v => some (xI v)) (b01_t (by simp [h4, h12, acc])).symm, rfl⟩
def shw (I : Nat → Nat → Int32) (k : Nat) : Int32 := if I 4 k = 5 then i_min 5 (I 6 k) else I 6 k
theorem cO_showAnew {k : Nat} (hk : k < N) : x_C l G mO_showAnew 1 0 0 [xR (some (0, k))] (hp N I J P V A B) [] (x_is none (hp N (si I 7 k (shw I k)) J P V A B)) := by
  refine x_C.at [some (xR (some (0, k)))] rfl (Nat.le_of_ble_eq_true rfl) rfl ?_
  refine x_aload_n 1 dO_showAnew_0 rfl rfl ?_
  refine x_aload_n 2 dO_showAnew_1 rfl rfl ?_
  refine x_get _ 5 fO_41 dO_showAnew_2 rfl (h_O (by assumption)) rfl ?_
  refine x_iconst 5 6 dO_showAnew_5 rfl rfl ?_
  refine x_icmp_ne 20 9 dO_showAnew_6 (by decide) rfl (fun h6 => ?_) (fun h6 => ?_)
  · skip
    refine x_aload_n 21 dO_showAnew_20 rfl rfl ?_
    refine x_get _ 24 fO_47 dO_showAnew_21 rfl (h_O (by assumption)) rfl ?_
    refine y_O7 27 pO_showAnew_9 dO_showAnew_24 rfl (by assumption) ?_
    exact x_vret dO_showAnew_27 rfl ⟨rfl, by simp [shw, h6]⟩
  · skip
    refine x_iconst 5 10 dO_showAnew_9 rfl rfl ?_
    refine x_aload_n 11 dO_showAnew_10 rfl rfl ?_
    refine x_get _ 14 fO_47 dO_showAnew_11 rfl (h_O (by assumption)) rfl ?_
    refine x_mmin 17 kO_50 dO_showAnew_14 rfl (by decide) (Nat.le_of_ble_eq_true rfl) ?_
    refine x_goto 24 dO_showAnew_17 (by decide) ?_
    refine y_O7 27 pO_showAnew_9 dO_showAnew_24 rfl (by assumption) ?_
    exact x_vret dO_showAnew_27 rfl ⟨rfl, by simp [shw, h6]⟩
abbrev btr (I : Nat → Nat → Int32) (a b : Nat) : Prop := ¬ I 5 a = I 5 b ∧ acc I a (I 5 b)
theorem cD_isBetter {a b : Nat} (ha : a < N) (hb : b < N) : x_C l G mD_isBetter 1 0 0 [xR (some (0, a)), xR (some (0, b))] (hp N I J P V A B) [] (x_is (some (xI (b01 (btr I a b)))) (hp N I J P V A B)) := by
  refine x_C.at [some (xR (some (0, a))), some (xR (some (0, b)))] rfl (Nat.le_of_ble_eq_true rfl) rfl ?_
  refine x_aload_n 1 dD_isBetter_0 rfl rfl ?_
  refine x_get _ 4 fD_35 dD_isBetter_1 rfl (h_O (by assumption)) rfl ?_
  refine x_aload_n 5 dD_isBetter_4 rfl rfl ?_
  refine x_get _ 8 fD_35 dD_isBetter_5 rfl (h_O (by assumption)) rfl ?_
  refine x_icmp_eq 26 11 dD_isBetter_8 (by decide) rfl (fun h8 => ?_) (fun h8 => ?_)
  · skip
    refine x_iconst 0 27 dD_isBetter_26 rfl rfl ?_
    exact x_iret dD_isBetter_27 rfl rfl ⟨congrArg (fun v => some (xI v)) (b01_f (by exact fun q => q.1 h8)).symm, rfl⟩
  · skip
    refine x_aload_n 12 dD_isBetter_11 rfl rfl ?_
    refine x_aload_n 13 dD_isBetter_12 rfl rfl ?_
    refine x_get _ 16 fD_35 dD_isBetter_13 rfl (h_O (by assumption)) rfl ?_
    refine x_fVv 19 (cO_accepts (by assumption) _) kD_38 oO_accepts rfl (h_O (by assumption)) dD_isBetter_16 rfl rfl (by decide) (Nat.le_of_ble_eq_true rfl) ?_
    refine x_if_eq 26 22 dD_isBetter_19 (by decide) rfl (fun h19 => ?_) (fun h19 => ?_)
    · skip
      refine x_iconst 0 27 dD_isBetter_26 rfl rfl ?_
      exact x_iret dD_isBetter_27 rfl rfl ⟨congrArg (fun v => some (xI v)) (b01_f (by exact fun q => b01_z.mp h19 q.2)).symm, rfl⟩
    · skip
      refine x_iconst 1 23 dD_isBetter_22 rfl rfl ?_
      refine x_goto 27 dD_isBetter_23 (by decide) ?_
      exact x_iret dD_isBetter_27 rfl rfl ⟨congrArg (fun v => some (xI v)) (b01_t (by exact ⟨h8, b01_nz.mp h19⟩)).symm, rfl⟩
theorem cD_link_n {j : Nat} (hj : j < 4) (r : Option xQ) : x_C l G mD_link 0 0 0 [xR (some (4, j)), xR none, xR r] (hp N I J P V A B) [] (x_is none (hp N I J (sp P 1 j r) V A B)) := by
  refine x_C.at [some (xR (some (4, j))), some (xR none), some (xR r)] rfl (Nat.le_of_ble_eq_true rfl) rfl ?_
  refine x_aload_n 1 dD_link_0 rfl rfl ?_
  refine x_ifnonnull_n 12 4 dD_link_1 (by decide) rfl ?_
  refine x_aload_n 5 dD_link_4 rfl rfl ?_
  refine x_aload_n 6 dD_link_5 rfl rfl ?_
  refine y_D0 9 pD_link_9 dD_link_6 rfl (by omega) ?_
  refine x_goto 17 dD_link_9 (by decide) ?_
  exact x_vret dD_link_17 rfl ⟨rfl, rfl⟩
theorem cD_link_s {j b : Nat} (hb : b < N) (r : Option xQ) : x_C l G mD_link 0 0 0 [xR (some (4, j)), xR (some (0, b)), xR r] (hp N I J P V A B) [] (x_is none (hp N I J (sp P 0 b r) V A B)) := by
  refine x_C.at [some (xR (some (4, j))), some (xR (some (0, b))), some (xR r)] rfl (Nat.le_of_ble_eq_true rfl) rfl ?_
  refine x_aload_n 1 dD_link_0 rfl rfl ?_
  refine x_ifnonnull_s 12 4 dD_link_1 (by decide) rfl ?_
  refine x_aload_n 13 dD_link_12 rfl rfl ?_
  refine x_aload_n 14 dD_link_13 rfl rfl ?_
  refine y_O9 17 pD_link_19 dD_link_14 rfl (by assumption) ?_
  exact x_vret dD_link_17 rfl ⟨rfl, rfl⟩
theorem cA_enter {m : Nat} (hm : m < 5) {i : Int32} (hi : vp_in i 2) (a p : Int32) : x_C l G mA_enter 0 0 0 [xR (some (1, m)), xI i, xI a, xI p] (hp N I J P V A B) [] (x_is none (hp N I (sj J 1 m (J 1 m - a.toInt64 * p.toInt64)) P (si V m i.toNatClampNeg (V m i.toNatClampNeg + a)) A B)) := by
  refine x_C.at [some (xR (some (1, m))), some (xI i), some (xI a), some (xI p)] rfl (Nat.le_of_ble_eq_true rfl) rfl ?_
  refine x_aload_n 1 dA_enter_0 rfl rfl ?_
  refine x_get _ 4 fA_9 dA_enter_1 rfl (h_A (by assumption)) rfl ?_
  refine x_iload_n 5 dA_enter_4 rfl rfl ?_
  refine x_dup2 6 dA_enter_5 rfl rfl rfl ?_
  refine x_iald 7 dA_enter_6 rfl (h_P (by assumption)) (by assumption) ?_
  refine x_iload_n 8 dA_enter_7 rfl rfl ?_
  refine x_iadd 9 dA_enter_8 rfl ?_
  refine y_P 10 dA_enter_9 rfl (by assumption) (by assumption) ?_
  refine x_aload_n 11 dA_enter_10 rfl rfl ?_
  refine x_dup 12 dA_enter_11 rfl rfl ?_
  refine x_get _ 15 fA_19 dA_enter_12 rfl (h_A (by assumption)) rfl ?_
  refine x_iload_n 16 dA_enter_15 rfl rfl ?_
  refine x_i2l 17 dA_enter_16 rfl ?_
  refine x_iload_n 18 dA_enter_17 rfl rfl ?_
  refine x_i2l 19 dA_enter_18 rfl ?_
  refine x_lmul 20 dA_enter_19 rfl ?_
  refine x_lsub 21 dA_enter_20 rfl ?_
  refine y_A2 24 pA_enter_19 dA_enter_21 rfl (by assumption) ?_
  exact x_vret dA_enter_24 rfl ⟨rfl, rfl⟩
def sdx (i : Nat) (s : Int32) : Nat := if s = 0 then 2 * i else 2 * i + 1
def fdx (i : Nat) (s : Int32) : Nat := if s = 0 then 2 * i + 1 else 2 * i
theorem sdx_lt {i : Nat} (h : i < 2) (s : Int32) : sdx i s < 4 := by unfold sdx; split <;> omega
theorem fdx_lt {i : Nat} (h : i < 2) (s : Int32) : fdx i s < 4 := by unfold fdx; split <;> omega
theorem cB_on {i : Nat} (hi : i < 2) (s : Int32) : x_C l G mB_on 0 0 0 [xR (some (3, i)), xI s] (hp N I J P V A B) [] (x_is (some (xR (some (4, sdx i s)))) (hp N I J P V A B)) := by
  refine x_C.at [some (xR (some (3, i))), some (xI s)] rfl (Nat.le_of_ble_eq_true rfl) rfl ?_
  refine x_iload_n 1 dB_on_0 rfl rfl ?_
  refine x_if_ne 11 4 dB_on_1 (by decide) rfl (fun h1 => ?_) (fun h1 => ?_)
  · skip
    refine x_aload_n 12 dB_on_11 rfl rfl ?_
    refine x_get _ 15 fB_18 dB_on_12 rfl (h_B (by assumption)) rfl ?_
    exact x_aret dB_on_15 rfl (Or.inl ⟨_, rfl⟩) ⟨by simp [sdx, h1], rfl⟩
  · skip
    refine x_aload_n 5 dB_on_4 rfl rfl ?_
    refine x_get _ 8 fB_12 dB_on_5 rfl (h_B (by assumption)) rfl ?_
    refine x_goto 15 dB_on_8 (by decide) ?_
    exact x_aret dB_on_15 rfl (Or.inl ⟨_, rfl⟩) ⟨by simp [sdx, h1], rfl⟩
theorem cB_facing {i : Nat} (hi : i < 2) (s : Int32) : x_C l G mB_facing 0 0 0 [xR (some (3, i)), xI s] (hp N I J P V A B) [] (x_is (some (xR (some (4, fdx i s)))) (hp N I J P V A B)) := by
  refine x_C.at [some (xR (some (3, i))), some (xI s)] rfl (Nat.le_of_ble_eq_true rfl) rfl ?_
  refine x_iload_n 1 dB_facing_0 rfl rfl ?_
  refine x_if_ne 11 4 dB_facing_1 (by decide) rfl (fun h1 => ?_) (fun h1 => ?_)
  · skip
    refine x_aload_n 12 dB_facing_11 rfl rfl ?_
    refine x_get _ 15 fB_12 dB_facing_12 rfl (h_B (by assumption)) rfl ?_
    exact x_aret dB_facing_15 rfl (Or.inl ⟨_, rfl⟩) ⟨by simp [fdx, h1], rfl⟩
  · skip
    refine x_aload_n 5 dB_facing_4 rfl rfl ?_
    refine x_get _ 8 fB_18 dB_facing_5 rfl (h_B (by assumption)) rfl ?_
    refine x_goto 15 dB_facing_8 (by decide) ?_
    exact x_aret dB_facing_15 rfl (Or.inl ⟨_, rfl⟩) ⟨by simp [fdx, h1], rfl⟩
def trow (c : Int32) : Int32 := (c - c / 100 * 100) * 4
def twr (I : Nat → Nat → Int32) (b s p a : Int32) : Nat → Nat → Int32 := si (si (si (si (si I 14 (trow (I 13 0)).toNatClampNeg b) 14 (trow (I 13 0) + 1).toNatClampNeg s) 14 (trow (I 13 0) + 2).toNatClampNeg p) 14 (trow (I 13 0) + 3).toNatClampNeg a) 13 0 (I 13 0 + 1)
theorem cT_write (h0 : vp_in (trow (I 13 0)) 400) (h1 : vp_in (trow (I 13 0) + 1) 400) (h2 : vp_in (trow (I 13 0) + 2) 400) (h3 : vp_in (trow (I 13 0) + 3) 400) (b s p a : Int32) : x_C l G mT_write 0 0 0 [xR (some (9, 0)), xI b, xI s, xI p, xI a] (hp N I J P V A B) [] (x_is none (hp N (twr I b s p a) J P V A B)) := by
  refine x_C.at [some (xR (some (9, 0))), some (xI b), some (xI s), some (xI p), some (xI a), none] rfl (Nat.le_of_ble_eq_true rfl) rfl ?_
  refine x_aload_n 1 dT_write_0 rfl rfl ?_
  refine x_get _ 4 fT_15 dT_write_1 rfl rfl rfl ?_
  refine x_bipush (100) 6 dT_write_4 rfl rfl ?_
  refine x_irem 7 dT_write_6 rfl (by decide) ?_
  refine x_iconst 4 8 dT_write_7 rfl rfl ?_
  refine x_imul 9 dT_write_8 rfl ?_
  refine x_istore 11 dT_write_9 rfl (by decide) rfl ?_
  refine x_aload_n 12 dT_write_11 rfl rfl ?_
  refine x_get _ 15 fT_9 dT_write_12 rfl rfl rfl ?_
  refine x_iload 17 dT_write_15 rfl rfl ?_
  refine x_iload_n 18 dT_write_17 rfl rfl ?_
  refine y_rows 19 dT_write_18 rfl h0 ?_
  refine x_aload_n 20 dT_write_19 rfl rfl ?_
  refine x_get _ 23 fT_9 dT_write_20 rfl rfl rfl ?_
  refine x_iload 25 dT_write_23 rfl rfl ?_
  refine x_iconst 1 26 dT_write_25 rfl rfl ?_
  refine x_iadd 27 dT_write_26 rfl ?_
  refine x_iload_n 28 dT_write_27 rfl rfl ?_
  refine y_rows 29 dT_write_28 rfl h1 ?_
  refine x_aload_n 30 dT_write_29 rfl rfl ?_
  refine x_get _ 33 fT_9 dT_write_30 rfl rfl rfl ?_
  refine x_iload 35 dT_write_33 rfl rfl ?_
  refine x_iconst 2 36 dT_write_35 rfl rfl ?_
  refine x_iadd 37 dT_write_36 rfl ?_
  refine x_iload_n 38 dT_write_37 rfl rfl ?_
  refine y_rows 39 dT_write_38 rfl h2 ?_
  refine x_aload_n 40 dT_write_39 rfl rfl ?_
  refine x_get _ 43 fT_9 dT_write_40 rfl rfl rfl ?_
  refine x_iload 45 dT_write_43 rfl rfl ?_
  refine x_iconst 3 46 dT_write_45 rfl rfl ?_
  refine x_iadd 47 dT_write_46 rfl ?_
  refine x_iload 49 dT_write_47 rfl rfl ?_
  refine y_rows 50 dT_write_49 rfl h3 ?_
  refine x_aload_n 51 dT_write_50 rfl rfl ?_
  refine x_dup 52 dT_write_51 rfl rfl ?_
  refine x_get _ 55 fT_15 dT_write_52 rfl rfl rfl ?_
  refine x_iconst 1 56 dT_write_55 rfl rfl ?_
  refine x_iadd 57 dT_write_56 rfl ?_
  refine y_T1 60 pT_write_15 dT_write_57 rfl ?_
  exact x_vret dT_write_60 rfl ⟨rfl, rfl⟩
theorem cT_holds (k : Int32) : x_C l G mT_holds 0 0 0 [xR (some (9, 0)), xI k] (hp N I J P V A B) [] (x_is (some (xI (b01 (¬ k < 0 ∧ ¬ I 13 0 ≤ k ∧ ¬ k < I 13 0 - 100)))) (hp N I J P V A B)) := by
  refine x_C.at [some (xR (some (9, 0))), some (xI k)] rfl (Nat.le_of_ble_eq_true rfl) rfl ?_
  refine x_iload_n 1 dT_holds_0 rfl rfl ?_
  refine x_if_lt 27 4 dT_holds_1 (by decide) rfl (fun h1 => ?_) (fun h1 => ?_)
  · skip
    refine x_iconst 0 28 dT_holds_27 rfl rfl ?_
    exact x_iret dT_holds_28 rfl rfl ⟨congrArg (fun v => some (xI v)) (b01_f (by simp [h1])).symm, rfl⟩
  · skip
    refine x_iload_n 5 dT_holds_4 rfl rfl ?_
    refine x_aload_n 6 dT_holds_5 rfl rfl ?_
    refine x_get _ 9 fT_15 dT_holds_6 rfl rfl rfl ?_
    refine x_icmp_ge 27 12 dT_holds_9 (by decide) rfl (fun h9 => ?_) (fun h9 => ?_)
    · skip
      refine x_iconst 0 28 dT_holds_27 rfl rfl ?_
      exact x_iret dT_holds_28 rfl rfl ⟨congrArg (fun v => some (xI v)) (b01_f (by simp [h1, h9])).symm, rfl⟩
    · skip
      refine x_iload_n 13 dT_holds_12 rfl rfl ?_
      refine x_aload_n 14 dT_holds_13 rfl rfl ?_
      refine x_get _ 17 fT_15 dT_holds_14 rfl rfl rfl ?_
      refine x_bipush (100) 19 dT_holds_17 rfl rfl ?_
      refine x_isub 20 dT_holds_19 rfl ?_
      refine x_icmp_lt 27 23 dT_holds_20 (by decide) rfl (fun h20 => ?_) (fun h20 => ?_)
      · skip
        refine x_iconst 0 28 dT_holds_27 rfl rfl ?_
        exact x_iret dT_holds_28 rfl rfl ⟨congrArg (fun v => some (xI v)) (b01_f (by simp [h1, h9, h20])).symm, rfl⟩
      · skip
        refine x_iconst 1 24 dT_holds_23 rfl rfl ?_
        refine x_goto 28 dT_holds_24 (by decide) ?_
        exact x_iret dT_holds_28 rfl rfl ⟨congrArg (fun v => some (xI v)) (b01_t (by simp [h1, h9, h20])).symm, rfl⟩
theorem cT_read {k p : Int32} (hi : vp_in (trow k + p) 400) : x_C l G mT_read 0 0 0 [xR (some (9, 0)), xI k, xI p] (hp N I J P V A B) [] (x_is (some (xI (I 14 (trow k + p).toNatClampNeg))) (hp N I J P V A B)) := by
  refine x_C.at [some (xR (some (9, 0))), some (xI k), some (xI p)] rfl (Nat.le_of_ble_eq_true rfl) rfl ?_
  refine x_aload_n 1 dT_read_0 rfl rfl ?_
  refine x_get _ 4 fT_9 dT_read_1 rfl rfl rfl ?_
  refine x_iload_n 5 dT_read_4 rfl rfl ?_
  refine x_bipush (100) 7 dT_read_5 rfl rfl ?_
  refine x_irem 8 dT_read_7 rfl (by decide) ?_
  refine x_iconst 4 9 dT_read_8 rfl rfl ?_
  refine x_imul 10 dT_read_9 rfl ?_
  refine x_iload_n 11 dT_read_10 rfl rfl ?_
  refine x_iadd 12 dT_read_11 rfl ?_
  refine x_iald 13 dT_read_12 rfl rfl hi ?_
  exact x_iret dT_read_13 rfl rfl ⟨rfl, rfl⟩
end M2
