section M8
variable {l : Launch} {G : xG} {N : Nat} {I : Nat → Nat → Int32} {J : Nat → Nat → Int64} {P : Nat → Nat → Option xQ} {V : Nat → Nat → Int32} {A : Nat → Nat → Int32} {B : Nat → Nat → Int64}
variable {h : xH} {ls : Nat → List Nat}
abbrev isM (m : Int32) : Int32 := b01 (¬ m < 0 ∧ ¬ 5 ≤ m)
abbrev isN (m : Int32) : Int32 := b01 (¬ m < 0 ∧ ¬ 2 ≤ m)
abbrev isH (m : Int32) : Int32 := b01 (¬ m < 0 ∧ ¬ 12 ≤ m)
abbrev isD (m : Int32) : Int32 := b01 (m = 0 ∨ m = 1)
abbrev isP (m : Int32) : Int32 := b01 (¬ m < 1 ∧ ¬ 63 < m)
theorem vM {m : Int32} (h : ¬ isM m = 0) : vp_in m 5 := by
  have := b01_nz.mp h
  refine vp_of ?_ ?_
  · have h1 := this.1; rw [i_lt] at h1; have : (0 : Int32).toInt = 0 := by decide
    omega
  · have h1 := this.2; rw [i_le] at h1; have : (5 : Int32).toInt = 5 := by decide
    omega
theorem vN {m : Int32} (h : ¬ isN m = 0) : vp_in m 2 := by
  have := b01_nz.mp h
  refine vp_of ?_ ?_
  · have h1 := this.1; rw [i_lt] at h1; have : (0 : Int32).toInt = 0 := by decide
    omega
  · have h1 := this.2; rw [i_le] at h1; have : (2 : Int32).toInt = 2 := by decide
    omega
/-- the class's state between calls: t trades at most -/
def CV (N : Nat) (I : Nat → Nat → Int32) (ls : Nat → List Nat) (t : Int) : Prop := CI N I ls ∧ (I 12 0).toInt = N ∧ N ≤ 120 ∧ 0 ≤ (I 13 0).toInt ∧ (I 13 0).toInt ≤ t
theorem CV.FD {t : Int} (q : CV N I ls t) (p : PP N P) : FD N I P := by
  intro x h0 h1
  rw [i_lt] at h0
  rw [i_le] at h1
  have e0 : (0 : Int32).toInt = 0 := by decide
  have hx : x.toNatClampNeg < N := by rw [i_nat]; have := q.2.1; omega
  exact ⟨vp_of (by omega) (by have := q.2.1; have := q.2.2.1; omega), p.1 _ hx, hx⟩
theorem Ch.sd (hQ : QS N P ls) : ∀ j < 4, Ch P (P 1 j) (ls j) := hQ.1
-- deposit
def dpS (I : Nat → Nat → Int32) (J : Nat → Nat → Int64) (V : Nat → Nat → Int32) (ls : Nat → List Nat) (m a : Int32) : Int32 × cS := if isM m = 0 then (0, (I, J, V, ls)) else if a < -1000000 then (0, (I, J, V, ls)) else if a ≤ 1000000 then (if 0 ≤ a then (1, (I, sj J 0 m.toNatClampNeg (J 0 m.toNatClampNeg + a.toInt64), V, ls)) else if 0 ≤ lg_cmp (J 0 m.toNatClampNeg + a.toInt64) (rsk I V ls m 0 0 0) then (1, (I, sj J 0 m.toNatClampNeg (J 0 m.toNatClampNeg + a.toInt64), V, ls)) else (0, (I, J, V, ls))) else (0, (I, J, V, ls))
theorem cC_deposit (hS : HS N (I, J, V, ls) A B h) (m a : Int32) : x_C l G mC_deposit 3 0 0 [xR (some (5, 0)), xI m, xI a] (h) [] (QR N (dpS I J V ls m a) A B) := by
  obtain ⟨P, rfl, hQ, hP2⟩ := hS.out
  refine x_C.at [some (xR (some (5, 0))), some (xI m), some (xI a), none] rfl (Nat.le_of_ble_eq_true rfl) rfl ?_
  refine x_iload_n 1 dC_deposit_0 rfl rfl ?_
  refine x_fSv 4 (cC_isMember _) kC_47 oC_isMember dC_deposit_1 rfl rfl (by decide) (Nat.le_of_ble_eq_true rfl) ?_
  refine x_if_eq 19 7 dC_deposit_4 (by decide) rfl (fun h4 => ?_) (fun h4 => ?_)
  · skip
    refine x_iconst 0 20 dC_deposit_19 rfl rfl ?_
    exact x_iret dC_deposit_20 rfl rfl (QR.ip h4 (⟨rfl, P, rfl, hQ, hP2⟩))
  · skip
    refine x_iload_n 8 dC_deposit_7 rfl rfl ?_
    refine x_ldc (-1000000) 10 dC_deposit_8 rfl cC_deposit_51 ?_
    refine x_icmp_lt 19 13 dC_deposit_10 (by decide) rfl (fun h10 => ?_) (fun h10 => ?_)
    · skip
      refine x_iconst 0 20 dC_deposit_19 rfl rfl ?_
      exact x_iret dC_deposit_20 rfl rfl (QR.ig h4 (QR.ip h10 (⟨rfl, P, rfl, hQ, hP2⟩)))
    · skip
      refine x_iload_n 14 dC_deposit_13 rfl rfl ?_
      refine x_ldc (1000000) 16 dC_deposit_14 rfl cC_deposit_52 ?_
      refine x_icmp_le 21 19 dC_deposit_16 (by decide) rfl (fun h16 => ?_) (fun h16 => ?_)
      · skip
        refine x_aload_n 22 dC_deposit_21 rfl rfl ?_
        refine x_get _ 25 fC_11 dC_deposit_22 rfl rfl rfl ?_
        refine x_iload_n 26 dC_deposit_25 rfl rfl ?_
        refine x_aald 27 rfl dC_deposit_26 rfl rfl (vM h4) ?_
        refine x_astore_n 28 dC_deposit_27 rfl (by decide) rfl ?_
        refine x_iload_n 29 dC_deposit_28 rfl rfl ?_
        refine x_if_ge 50 32 dC_deposit_29 (by decide) rfl (fun h29 => ?_) (fun h29 => ?_)
        · skip
          refine x_aload_n 51 dC_deposit_50 rfl rfl ?_
          refine x_dup 52 dC_deposit_51 rfl rfl ?_
          refine x_get _ 55 fC_53 dC_deposit_52 rfl (h_A (vp_lt (vM h4))) rfl ?_
          refine x_iload_n 56 dC_deposit_55 rfl rfl ?_
          refine x_i2l 57 dC_deposit_56 rfl ?_
          refine x_ladd 58 dC_deposit_57 rfl ?_
          refine y_A1 61 pC_deposit_53 dC_deposit_58 rfl (vp_lt (vM h4)) ?_
          refine x_iconst 1 62 dC_deposit_61 rfl rfl ?_
          exact x_iret dC_deposit_62 rfl rfl (QR.ig h4 (QR.ig h10 (QR.ip h16 (QR.ip h29 (⟨rfl, P, rfl, hQ, hP2⟩)))))
        · skip
          refine x_aload_n 33 dC_deposit_32 rfl rfl ?_
          refine x_get _ 36 fC_53 dC_deposit_33 rfl (h_A (vp_lt (vM h4))) rfl ?_
          refine x_iload_n 37 dC_deposit_36 rfl rfl ?_
          refine x_i2l 38 dC_deposit_37 rfl ?_
          refine x_ladd 39 dC_deposit_38 rfl ?_
          refine x_aload_n 40 dC_deposit_39 rfl rfl ?_
          refine x_iload_n 41 dC_deposit_40 rfl rfl ?_
          refine x_fVv 44 (cC_riskOf (vM h4) hQ.1 hQ.2.1) kC_57 oC_riskOf rfl rfl dC_deposit_41 rfl rfl (by decide) (Nat.le_of_ble_eq_true rfl) ?_
          refine x_lcmp 45 dC_deposit_44 rfl ?_
          refine x_if_ge 50 48 dC_deposit_45 (by decide) rfl (fun h45 => ?_) (fun h45 => ?_)
          · skip
            refine x_aload_n 51 dC_deposit_50 rfl rfl ?_
            refine x_dup 52 dC_deposit_51 rfl rfl ?_
            refine x_get _ 55 fC_53 dC_deposit_52 rfl (h_A (vp_lt (vM h4))) rfl ?_
            refine x_iload_n 56 dC_deposit_55 rfl rfl ?_
            refine x_i2l 57 dC_deposit_56 rfl ?_
            refine x_ladd 58 dC_deposit_57 rfl ?_
            refine y_A1 61 pC_deposit_53 dC_deposit_58 rfl (vp_lt (vM h4)) ?_
            refine x_iconst 1 62 dC_deposit_61 rfl rfl ?_
            exact x_iret dC_deposit_62 rfl rfl (QR.ig h4 (QR.ig h10 (QR.ip h16 (QR.ig h29 (QR.ip h45 (⟨rfl, P, rfl, hQ, hP2⟩))))))
          · skip
            refine x_iconst 0 49 dC_deposit_48 rfl rfl ?_
            exact x_iret dC_deposit_49 rfl rfl (QR.ig h4 (QR.ig h10 (QR.ip h16 (QR.ig h29 (QR.ig h45 (⟨rfl, P, rfl, hQ, hP2⟩))))))
      · skip
        refine x_iconst 0 20 dC_deposit_19 rfl rfl ?_
        exact x_iret dC_deposit_20 rfl rfl (QR.ig h4 (QR.ig h10 (QR.ig h16 (⟨rfl, P, rfl, hQ, hP2⟩))))
def cnS (I : Nat → Nat → Int32) (J : Nat → Nat → Int64) (V : Nat → Nat → Int32) (ls : Nat → List Nat) (m x : Int32) : Int32 × cS := if fndR I m x = none then (0, (I, J, V, ls)) else (1, tkS I J V ls x.toNatClampNeg 2)
theorem cC_cancel {t : Int} (hS : HS N (I, J, V, ls) A B h) (hV : CV N I ls t) (m x : Int32) : x_C l G mC_cancel 3 0 0 [xR (some (5, 0)), xI m, xI x] h [] (QR N (cnS I J V ls m x) A B) := by
  obtain ⟨P, rfl, hQ, hP2⟩ := hS.out
  have hf := hV.FD hP2
  refine x_C.at [some (xR (some (5, 0))), some (xI m), some (xI x), none] rfl (Nat.le_of_ble_eq_true rfl) rfl ?_
  rcases fndR_cs I m x with hq | ⟨g1, g2, g3, g4, hq⟩
  · skip
    refine x_aload_n 1 dC_cancel_0 rfl rfl ?_
    refine x_iload_n 2 dC_cancel_1 rfl rfl ?_
    refine x_iload_n 3 dC_cancel_2 rfl rfl ?_
    refine x_fVv 6 (cC_findResting_n hf hq) kC_99 oC_findResting rfl rfl dC_cancel_3 rfl rfl (by decide) (Nat.le_of_ble_eq_true rfl) ?_
    refine x_astore_n 7 dC_cancel_6 rfl (by decide) rfl ?_
    refine x_aload_n 8 dC_cancel_7 rfl rfl ?_
    refine x_ifnonnull_n 13 11 dC_cancel_8 (by decide) rfl ?_
    refine x_iconst 0 12 dC_cancel_11 rfl rfl ?_
    exact x_iret dC_cancel_12 rfl rfl (QR.ip hq ⟨rfl, P, rfl, hQ, hP2⟩)
  · have hqN := hq
    have hk := (hf x g1 g2).2.2
    have ok := hV.1.1 _ hk
    refine x_aload_n 1 dC_cancel_0 rfl rfl ?_
    refine x_iload_n 2 dC_cancel_1 rfl rfl ?_
    refine x_iload_n 3 dC_cancel_2 rfl rfl ?_
    refine x_fVv 6 (cC_findResting_s hf hq) kC_99 oC_findResting rfl rfl dC_cancel_3 rfl rfl (by decide) (Nat.le_of_ble_eq_true rfl) ?_
    refine x_astore_n 7 dC_cancel_6 rfl (by decide) rfl ?_
    refine x_aload_n 8 dC_cancel_7 rfl rfl ?_
    refine x_ifnonnull_s 13 11 dC_cancel_8 (by decide) rfl ?_
    refine x_aload_n 14 dC_cancel_13 rfl rfl ?_
    refine x_aload_n 15 dC_cancel_14 rfl rfl ?_
    refine x_iconst 2 16 dC_cancel_15 rfl rfl ?_
    refine x_gVn 19 (cC_takeAway hS hk ok.2.1 2) kC_103 oC_takeAway rfl rfl dC_cancel_16 rfl rfl (by decide) (Nat.le_of_ble_eq_true rfl) (fun h1 hq => ?_)
    skip
    refine x_iconst 1 20 dC_cancel_19 rfl rfl ?_
    exact x_iret dC_cancel_20 rfl rfl (QR.ig (fun z => by rw [hqN] at z; cases z) ⟨rfl, hq⟩)
def amS (I : Nat → Nat → Int32) (J : Nat → Nat → Int64) (V : Nat → Nat → Int32) (ls : Nat → List Nat) (m x q : Int32) : Int32 × cS := if fndR I m x = none then (-6, (I, J, V, ls)) else if q < 1 then (-1, (I, J, V, ls)) else if q < I 6 x.toNatClampNeg then (0, (si (si I 6 x.toNatClampNeg q) 7 x.toNatClampNeg (i_min (I 7 x.toNatClampNeg) q), J, V, ls)) else (-1, (I, J, V, ls))
theorem cC_amend {t : Int} (hS : HS N (I, J, V, ls) A B h) (hV : CV N I ls t) (m x q : Int32) : x_C l G mC_amend 2 0 0 [xR (some (5, 0)), xI m, xI x, xI q] h [] (QR N (amS I J V ls m x q) A B) := by
  obtain ⟨P, rfl, hQ, hP2⟩ := hS.out
  have hf := hV.FD hP2
  refine x_C.at [some (xR (some (5, 0))), some (xI m), some (xI x), some (xI q), none] rfl (Nat.le_of_ble_eq_true rfl) rfl ?_
  rcases fndR_cs I m x with hq | ⟨g1, g2, g3, g4, hq⟩
  · skip
    refine x_aload_n 1 dC_amend_0 rfl rfl ?_
    refine x_iload_n 2 dC_amend_1 rfl rfl ?_
    refine x_iload_n 3 dC_amend_2 rfl rfl ?_
    refine x_fVv 6 (cC_findResting_n hf hq) kC_99 oC_findResting rfl rfl dC_amend_3 rfl rfl (by decide) (Nat.le_of_ble_eq_true rfl) ?_
    refine x_astore 8 dC_amend_6 rfl (by decide) rfl ?_
    refine x_aload 10 dC_amend_8 rfl rfl ?_
    refine x_ifnonnull_n 16 13 dC_amend_10 (by decide) rfl ?_
    refine x_bipush (-6) 15 dC_amend_13 rfl rfl ?_
    exact x_iret dC_amend_15 rfl rfl (QR.ip hq ⟨rfl, P, rfl, hQ, hP2⟩)
  · have hqN := hq
    have hk := (hf x g1 g2).2.2
    have ok := hV.1.1 _ hk
    refine x_aload_n 1 dC_amend_0 rfl rfl ?_
    refine x_iload_n 2 dC_amend_1 rfl rfl ?_
    refine x_iload_n 3 dC_amend_2 rfl rfl ?_
    refine x_fVv 6 (cC_findResting_s hf hq) kC_99 oC_findResting rfl rfl dC_amend_3 rfl rfl (by decide) (Nat.le_of_ble_eq_true rfl) ?_
    refine x_astore 8 dC_amend_6 rfl (by decide) rfl ?_
    refine x_aload 10 dC_amend_8 rfl rfl ?_
    refine x_ifnonnull_s 16 13 dC_amend_10 (by decide) rfl ?_
    refine x_iload_n 17 dC_amend_16 rfl rfl ?_
    refine x_iconst 1 18 dC_amend_17 rfl rfl ?_
    refine x_icmp_lt 30 21 dC_amend_18 (by decide) rfl (fun h18 => ?_) (fun h18 => ?_)
    · skip
      refine x_iconst (-1) 31 dC_amend_30 rfl rfl ?_
      exact x_iret dC_amend_31 rfl rfl (QR.ig (fun z => by rw [hq] at z; cases z) (QR.ip h18 (⟨rfl, P, rfl, hQ, hP2⟩)))
    · skip
      refine x_iload_n 22 dC_amend_21 rfl rfl ?_
      refine x_aload 24 dC_amend_22 rfl rfl ?_
      refine x_get _ 27 fC_107 dC_amend_24 rfl (h_O (by assumption)) rfl ?_
      refine x_icmp_lt 32 30 dC_amend_27 (by decide) rfl (fun h27 => ?_) (fun h27 => ?_)
      · skip
        refine x_aload 34 dC_amend_32 rfl rfl ?_
        refine x_iload_n 35 dC_amend_34 rfl rfl ?_
        refine y_O6 38 pC_amend_107 dC_amend_35 rfl (by assumption) ?_
        refine x_aload 40 dC_amend_38 rfl rfl ?_
        refine x_aload 42 dC_amend_40 rfl rfl ?_
        refine x_get _ 45 fC_110 dC_amend_42 rfl (h_O (by assumption)) rfl ?_
        refine x_iload_n 46 dC_amend_45 rfl rfl ?_
        refine x_mmin 49 kC_113 dC_amend_46 rfl (by decide) (Nat.le_of_ble_eq_true rfl) ?_
        refine y_O7 52 pC_amend_110 dC_amend_49 rfl (by assumption) ?_
        refine x_iconst 0 53 dC_amend_52 rfl rfl ?_
        exact x_iret dC_amend_53 rfl rfl (QR.ig (fun z => by rw [hq] at z; cases z) (QR.ig h18 (QR.ip h27 (⟨rfl, P, rfl, hQ, hP2⟩))))
      · skip
        refine x_iconst (-1) 31 dC_amend_30 rfl rfl ?_
        exact x_iret dC_amend_31 rfl rfl (QR.ig (fun z => by rw [hq] at z; cases z) (QR.ig h18 (QR.ig h27 (⟨rfl, P, rfl, hQ, hP2⟩))))
def clS (I : Nat → Nat → Int32) (J : Nat → Nat → Int64) (V : Nat → Nat → Int32) (ls : Nat → List Nat) (i : Int32) : Int32 × cS := if isN i = 0 then (-1, (I, J, V, ls)) else if I 10 i.toNatClampNeg = 0 then (-3, (I, J, V, ls)) else (0, (si I 10 i.toNatClampNeg 0, J, V, ls))
theorem cC_close (hS : HS N (I, J, V, ls) A B h) (i : Int32) : x_C l G mC_close 1 0 0 [xR (some (5, 0)), xI i] (h) [] (QR N (clS I J V ls i) A B) := by
  obtain ⟨P, rfl, hQ, hP2⟩ := hS.out
  refine x_C.at [some (xR (some (5, 0))), some (xI i)] rfl (Nat.le_of_ble_eq_true rfl) rfl ?_
  refine x_iload_n 1 dC_close_0 rfl rfl ?_
  refine x_fSv 4 (cC_isInstrument _) kC_61 oC_isInstrument dC_close_1 rfl rfl (by decide) (Nat.le_of_ble_eq_true rfl) ?_
  refine x_if_ne 9 7 dC_close_4 (by decide) rfl (fun h4 => ?_) (fun h4 => ?_)
  · skip
    refine x_aload_n 10 dC_close_9 rfl rfl ?_
    refine x_get _ 13 fC_17 dC_close_10 rfl rfl rfl ?_
    refine x_iload_n 14 dC_close_13 rfl rfl ?_
    refine x_aald 15 rfl dC_close_14 rfl rfl (vN h4) ?_
    refine x_get _ 18 fC_74 dC_close_15 rfl (h_B (vp_lt (vN h4))) rfl ?_
    refine x_if_ne 24 21 dC_close_18 (by decide) rfl (fun h18 => ?_) (fun h18 => ?_)
    · skip
      refine x_aload_n 25 dC_close_24 rfl rfl ?_
      refine x_get _ 28 fC_17 dC_close_25 rfl rfl rfl ?_
      refine x_iload_n 29 dC_close_28 rfl rfl ?_
      refine x_aald 30 rfl dC_close_29 rfl rfl (vN h4) ?_
      refine x_iconst 0 31 dC_close_30 rfl rfl ?_
      refine y_B2 34 pC_close_74 dC_close_31 rfl (vp_lt (vN h4)) (fun _ => ⟨rfl, rfl⟩) ?_
      refine x_iconst 0 35 dC_close_34 rfl rfl ?_
      exact x_iret dC_close_35 rfl rfl (QR.ig h4 (QR.ig h18 (⟨rfl, P, rfl, hQ, hP2⟩)))
    · skip
      refine x_bipush (-3) 23 dC_close_21 rfl rfl ?_
      exact x_iret dC_close_23 rfl rfl (QR.ig h4 (QR.ip h18 (⟨rfl, P, rfl, hQ, hP2⟩)))
  · skip
    refine x_iconst (-1) 8 dC_close_7 rfl rfl ?_
    exact x_iret dC_close_8 rfl rfl (QR.ip h4 (⟨rfl, P, rfl, hQ, hP2⟩))
end M8
