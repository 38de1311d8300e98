section MD
variable {l : Launch} {G : xG} {N : Nat} {I : Nat → Nat → Int32} {J : Nat → Nat → Int64} {P : Nat → Nat → Option xQ} {V : Nat → Nat → Int32} {A : Nat → Nat → Int32} {B : Nat → Nat → Int64}
variable {h : xH}
def wlF (A : Nat → Nat → Int32) (i s q : Int32) : Nat → Int32 → Int32 → Int32
  | 0, _, sm => sm
  | n + 1, o, sm => wlF A i s q n (o + Int32.ofInt 1) (sm + (if b01 (wts A o.toNatClampNeg i s) = 0 then 0 else if b01 (btm s q (A 4 o.toNatClampNeg)) = 0 then A 5 o.toNatClampNeg else 0))
def wl (A : Nat → Nat → Int32) (i s q : Int32) : Int32 := wlF A i s q (A 13 0).toNatClampNeg 0 0
theorem lp_R_willing (hc : MC A) (i s q : Int32) (T : Int32) : ∀ (n : Nat) (e sm : Int32), 0 ≤ e.toInt → e.toInt + n = (A 13 0).toInt → wlF A i s q n e sm = T → x_X l G mR_willing 1 0 0 [] (x_is (some (xI T)) (hp N I J P V A B)) 6 [some (xR (some (14, 0))), some (xI i), some (xI s), some (xI q), some (xI sm), some (xI e)] [] (hp N I J P V A B) := by
  intro n
  induction n with
  | zero =>
    intro e sm he0 he1 hT
    subst hT
    refine x_iload 8 dR_willing_6 rfl rfl ?_
    refine x_aload_n 9 dR_willing_8 rfl rfl ?_
    refine x_get _ 12 fR_57 dR_willing_9 rfl rfl rfl ?_
    refine x_icmp_ge 63 15 dR_willing_12 (by decide) rfl (fun h12 => ?_) (fun h12 => absurd (show A 13 0 ≤ e from by rw [i_le]; omega) h12)
    refine x_iload 65 dR_willing_63 rfl rfl ?_
    exact x_iret dR_willing_65 rfl rfl ⟨rfl, rfl⟩
  | succ n ih =>
    intro e sm he0 he1 hT
    subst hT
    have hc2 := hc.2
    have hin : vp_in e 120 := vp_of (by omega) (by omega)
    have hlt : ¬ A 13 0 ≤ e := by rw [i_le]; omega
    refine x_iload 8 dR_willing_6 rfl rfl ?_
    refine x_aload_n 9 dR_willing_8 rfl rfl ?_
    refine x_get _ 12 fR_57 dR_willing_9 rfl rfl rfl ?_
    refine x_icmp_ge 63 15 dR_willing_12 (by decide) rfl (fun h12 => absurd h12 hlt) (fun h12 => ?_)
    refine x_iload 17 dR_willing_15 rfl rfl ?_
    refine x_aload_n 18 dR_willing_17 rfl rfl ?_
    refine x_iload 20 dR_willing_18 rfl rfl ?_
    refine x_iload_n 21 dR_willing_20 rfl rfl ?_
    refine x_iload_n 22 dR_willing_21 rfl rfl ?_
    refine x_fVv 25 (cR_waits hin _ _) kR_61 oR_waits rfl rfl dR_willing_22 rfl rfl (by decide) (Nat.le_of_ble_eq_true rfl) ?_
    refine x_if_eq 53 28 dR_willing_25 (by decide) rfl (fun h25 => ?_) (fun h25 => ?_)
    · skip
      refine x_iconst 0 54 dR_willing_53 rfl rfl ?_
      refine x_iadd 55 dR_willing_54 rfl ?_
      refine x_istore 57 dR_willing_55 rfl (by decide) rfl ?_
      refine x_iinc 60 dR_willing_57 rfl rfl (by decide) rfl ?_
      refine x_goto 6 dR_willing_60 (by decide) ?_
      exact ih _ _ (by rw [i_inc (by omega) (by omega)]; omega) (by rw [i_inc (by omega) (by omega)]; omega) (by simp only [wlF, if_pos h25])
    · skip
      refine x_iload_n 29 dR_willing_28 rfl rfl ?_
      refine x_iload_n 30 dR_willing_29 rfl rfl ?_
      refine x_aload_n 31 dR_willing_30 rfl rfl ?_
      refine x_get _ 34 fR_22 dR_willing_31 rfl rfl rfl ?_
      refine x_iload 36 dR_willing_34 rfl rfl ?_
      refine x_iald 37 dR_willing_36 rfl (h_ra 4 (by decide)) (by assumption) ?_
      refine x_fSv 40 (cR_better _ _ _) kR_65 oR_better dR_willing_37 rfl rfl (by decide) (Nat.le_of_ble_eq_true rfl) ?_
      refine x_if_ne 53 43 dR_willing_40 (by decide) rfl (fun h40 => ?_) (fun h40 => ?_)
      · skip
        refine x_iconst 0 54 dR_willing_53 rfl rfl ?_
        refine x_iadd 55 dR_willing_54 rfl ?_
        refine x_istore 57 dR_willing_55 rfl (by decide) rfl ?_
        refine x_iinc 60 dR_willing_57 rfl rfl (by decide) rfl ?_
        refine x_goto 6 dR_willing_60 (by decide) ?_
        exact ih _ _ (by rw [i_inc (by omega) (by omega)]; omega) (by rw [i_inc (by omega) (by omega)]; omega) (by simp only [wlF, if_neg h25, if_neg h40])
      · skip
        refine x_aload_n 44 dR_willing_43 rfl rfl ?_
        refine x_get _ 47 fR_25 dR_willing_44 rfl rfl rfl ?_
        refine x_iload 49 dR_willing_47 rfl rfl ?_
        refine x_iald 50 dR_willing_49 rfl (h_ra 5 (by decide)) (by assumption) ?_
        refine x_goto 54 dR_willing_50 (by decide) ?_
        refine x_iadd 55 dR_willing_54 rfl ?_
        refine x_istore 57 dR_willing_55 rfl (by decide) rfl ?_
        refine x_iinc 60 dR_willing_57 rfl rfl (by decide) rfl ?_
        refine x_goto 6 dR_willing_60 (by decide) ?_
        exact ih _ _ (by rw [i_inc (by omega) (by omega)]; omega) (by rw [i_inc (by omega) (by omega)]; omega) (by simp only [wlF, if_neg h25, if_pos h40])
theorem cR_willing (hc : MC A) (i s q : Int32) : x_C l G mR_willing 1 0 0 [xR (some (14, 0)), xI i, xI s, xI q] (hp N I J P V A B) [] (x_is (some (xI (wl A i s q))) (hp N I J P V A B)) := by
  refine x_C.at [some (xR (some (14, 0))), some (xI i), some (xI s), some (xI q), none, none] rfl (Nat.le_of_ble_eq_true rfl) rfl ?_
  refine x_iconst 0 1 dR_willing_0 rfl rfl ?_
  refine x_istore 3 dR_willing_1 rfl (by decide) rfl ?_
  refine x_iconst 0 4 dR_willing_3 rfl rfl ?_
  refine x_istore 6 dR_willing_4 rfl (by decide) rfl ?_
  exact lp_R_willing hc i s q _ (A 13 0).toNatClampNeg 0 0 (by decide) (mc_sum hc) rfl
def dmF (A : Nat → Nat → Int32) (i s p : Int32) : Nat → Int32 → Int32 → Int32
  | 0, _, sm => sm
  | n + 1, o, sm => dmF A i s p n (o + Int32.ofInt 1) (sm + (if b01 (wts A o.toNatClampNeg i s) = 0 then 0 else if A 4 o.toNatClampNeg = p then shs A o.toNatClampNeg else 0))
def deM (A : Nat → Nat → Int32) (i s p : Int32) : Int32 := if out i 0 1 = 0 then (if out s 0 1 = 0 then (if out p 1 63 = 0 then dmF A i s p (A 13 0).toNatClampNeg 0 0 else -1) else -1) else -1
theorem lp_R_depth (hc : MC A) (i s p : Int32) (T : Int32) : ∀ (n : Nat) (e sm : Int32), 0 ≤ e.toInt → e.toInt + n = (A 13 0).toInt → dmF A i s p n e sm = T → x_X l G mR_depth 1 0 0 [] (x_is (some (xI T)) (hp N I J P V A B)) 36 [some (xR (some (14, 0))), some (xI i), some (xI s), some (xI p), some (xI sm), some (xI e)] [] (hp N I J P V A B) := by
  intro n
  induction n with
  | zero =>
    intro e sm he0 he1 hT
    subst hT
    refine x_iload 38 dR_depth_36 rfl rfl ?_
    refine x_aload_n 39 dR_depth_38 rfl rfl ?_
    refine x_get _ 42 fR_57 dR_depth_39 rfl rfl rfl ?_
    refine x_icmp_ge 88 45 dR_depth_42 (by decide) rfl (fun h42 => ?_) (fun h42 => absurd (show A 13 0 ≤ e from by rw [i_le]; omega) h42)
    refine x_iload 90 dR_depth_88 rfl rfl ?_
    exact x_iret dR_depth_90 rfl rfl ⟨rfl, rfl⟩
  | succ n ih =>
    intro e sm he0 he1 hT
    subst hT
    have hc2 := hc.2
    have hin : vp_in e 120 := vp_of (by omega) (by omega)
    have hlt : ¬ A 13 0 ≤ e := by rw [i_le]; omega
    refine x_iload 38 dR_depth_36 rfl rfl ?_
    refine x_aload_n 39 dR_depth_38 rfl rfl ?_
    refine x_get _ 42 fR_57 dR_depth_39 rfl rfl rfl ?_
    refine x_icmp_ge 88 45 dR_depth_42 (by decide) rfl (fun h42 => absurd h42 hlt) (fun h42 => ?_)
    refine x_iload 47 dR_depth_45 rfl rfl ?_
    refine x_aload_n 48 dR_depth_47 rfl rfl ?_
    refine x_iload 50 dR_depth_48 rfl rfl ?_
    refine x_iload_n 51 dR_depth_50 rfl rfl ?_
    refine x_iload_n 52 dR_depth_51 rfl rfl ?_
    refine x_fVv 55 (cR_waits hin _ _) kR_61 oR_waits rfl rfl dR_depth_52 rfl rfl (by decide) (Nat.le_of_ble_eq_true rfl) ?_
    refine x_if_eq 78 58 dR_depth_55 (by decide) rfl (fun h55 => ?_) (fun h55 => ?_)
    · skip
      refine x_iconst 0 79 dR_depth_78 rfl rfl ?_
      refine x_iadd 80 dR_depth_79 rfl ?_
      refine x_istore 82 dR_depth_80 rfl (by decide) rfl ?_
      refine x_iinc 85 dR_depth_82 rfl rfl (by decide) rfl ?_
      refine x_goto 36 dR_depth_85 (by decide) ?_
      exact ih _ _ (by rw [i_inc (by omega) (by omega)]; omega) (by rw [i_inc (by omega) (by omega)]; omega) (by simp only [dmF, if_pos h55])
    · skip
      refine x_aload_n 59 dR_depth_58 rfl rfl ?_
      refine x_get _ 62 fR_22 dR_depth_59 rfl rfl rfl ?_
      refine x_iload 64 dR_depth_62 rfl rfl ?_
      refine x_iald 65 dR_depth_64 rfl (h_ra 4 (by decide)) (by assumption) ?_
      refine x_iload_n 66 dR_depth_65 rfl rfl ?_
      refine x_icmp_ne 78 69 dR_depth_66 (by decide) rfl (fun h66 => ?_) (fun h66 => ?_)
      · skip
        refine x_iconst 0 79 dR_depth_78 rfl rfl ?_
        refine x_iadd 80 dR_depth_79 rfl ?_
        refine x_istore 82 dR_depth_80 rfl (by decide) rfl ?_
        refine x_iinc 85 dR_depth_82 rfl rfl (by decide) rfl ?_
        refine x_goto 36 dR_depth_85 (by decide) ?_
        exact ih _ _ (by rw [i_inc (by omega) (by omega)]; omega) (by rw [i_inc (by omega) (by omega)]; omega) (by simp only [dmF, if_neg h55, if_neg h66])
      · skip
        refine x_aload_n 70 dR_depth_69 rfl rfl ?_
        refine x_iload 72 dR_depth_70 rfl rfl ?_
        refine x_fVv 75 (cR_shows hin) kR_82 oR_shows rfl rfl dR_depth_72 rfl rfl (by decide) (Nat.le_of_ble_eq_true rfl) ?_
        refine x_goto 79 dR_depth_75 (by decide) ?_
        refine x_iadd 80 dR_depth_79 rfl ?_
        refine x_istore 82 dR_depth_80 rfl (by decide) rfl ?_
        refine x_iinc 85 dR_depth_82 rfl rfl (by decide) rfl ?_
        refine x_goto 36 dR_depth_85 (by decide) ?_
        exact ih _ _ (by rw [i_inc (by omega) (by omega)]; omega) (by rw [i_inc (by omega) (by omega)]; omega) (by simp only [dmF, if_neg h55, if_pos h66])
theorem cR_depth (hc : MC A) (i s p : Int32) : x_C l G mR_depth 1 0 0 [xR (some (14, 0)), xI i, xI s, xI p] (hp N I J P V A B) [] (x_is (some (xI (deM A i s p))) (hp N I J P V A B)) := by
  refine x_C.at [some (xR (some (14, 0))), some (xI i), some (xI s), some (xI p), none, none] rfl (Nat.le_of_ble_eq_true rfl) rfl ?_
  refine x_iload_n 1 dR_depth_0 rfl rfl ?_
  refine x_iconst 0 2 dR_depth_1 rfl rfl ?_
  refine x_iconst 1 3 dR_depth_2 rfl rfl ?_
  refine x_fSv 6 (cR_outside _ _ _) kR_98 oR_outside dR_depth_3 rfl rfl (by decide) (Nat.le_of_ble_eq_true rfl) ?_
  refine x_if_ne 28 9 dR_depth_6 (by decide) rfl (fun h6 => ?_) (fun h6 => ?_)
  · skip
    refine x_iconst (-1) 29 dR_depth_28 rfl rfl ?_
    exact x_iret dR_depth_29 rfl rfl ⟨by simp only [deM, if_neg h6], rfl⟩
  · skip
    refine x_iload_n 10 dR_depth_9 rfl rfl ?_
    refine x_iconst 0 11 dR_depth_10 rfl rfl ?_
    refine x_iconst 1 12 dR_depth_11 rfl rfl ?_
    refine x_fSv 15 (cR_outside _ _ _) kR_98 oR_outside dR_depth_12 rfl rfl (by decide) (Nat.le_of_ble_eq_true rfl) ?_
    refine x_if_ne 28 18 dR_depth_15 (by decide) rfl (fun h15 => ?_) (fun h15 => ?_)
    · skip
      refine x_iconst (-1) 29 dR_depth_28 rfl rfl ?_
      exact x_iret dR_depth_29 rfl rfl ⟨by simp only [deM, if_pos h6, if_neg h15], rfl⟩
    · skip
      refine x_iload_n 19 dR_depth_18 rfl rfl ?_
      refine x_iconst 1 20 dR_depth_19 rfl rfl ?_
      refine x_bipush (63) 22 dR_depth_20 rfl rfl ?_
      refine x_fSv 25 (cR_outside _ _ _) kR_98 oR_outside dR_depth_22 rfl rfl (by decide) (Nat.le_of_ble_eq_true rfl) ?_
      refine x_if_eq 30 28 dR_depth_25 (by decide) rfl (fun h25 => ?_) (fun h25 => ?_)
      · skip
        refine x_iconst 0 31 dR_depth_30 rfl rfl ?_
        refine x_istore 33 dR_depth_31 rfl (by decide) rfl ?_
        refine x_iconst 0 34 dR_depth_33 rfl rfl ?_
        refine x_istore 36 dR_depth_34 rfl (by decide) rfl ?_
        exact x_Xm (fun r h1 z => ⟨z.1.trans (by unfold deM; simp only [if_pos h6, if_pos h15, if_pos h25]), z.2⟩) (lp_R_depth hc i s p _ (A 13 0).toNatClampNeg 0 0 (by decide) (mc_sum hc) rfl)
      · skip
        refine x_iconst (-1) 29 dR_depth_28 rfl rfl ?_
        exact x_iret dR_depth_29 rfl rfl ⟨by simp only [deM, if_pos h6, if_pos h15, if_neg h25], rfl⟩
def rsM (A : Nat → Nat → Int32) (x : Int32) : Int32 := if out x 0 (A 13 0 - 1) = 0 then (if A 7 x.toNatClampNeg = 0 then 1 else 0) else 0
theorem vOc (hc : MC A) {x : Int32} (hx : out x 0 (A 13 0 - 1) = 0) : vp_in x 120 ∧ 0 ≤ x.toInt ∧ x.toInt < (A 13 0).toInt := by
  have := b01_z.mp hx
  have h1 : ¬ x < 0 := fun q => this (Or.inl q)
  have h2 : x ≤ A 13 0 - 1 := Decidable.byContradiction fun q => this (Or.inr q)
  rw [i_lt] at h1
  rw [i_le, i_m1 hc.1] at h2
  have : (0 : Int32).toInt = 0 := by decide
  have := hc.2
  exact ⟨vp_of (by omega) (by omega), by omega, by omega⟩
theorem rsM_nz {x : Int32} (hx : ¬ rsM A x = 0) : out x 0 (A 13 0 - 1) = 0 ∧ A 7 x.toNatClampNeg = 0 := by
  unfold rsM at hx
  split at hx
  · split at hx
    · exact ⟨by assumption, by assumption⟩
    · exact absurd rfl hx
  · exact absurd rfl hx
theorem cR_isResting (hc : MC A) (x : Int32) : x_C l G mR_isResting 1 0 0 [xR (some (14, 0)), xI x] (hp N I J P V A B) [] (x_is (some (xI (rsM A x))) (hp N I J P V A B)) := by
  refine x_C.at [some (xR (some (14, 0))), some (xI x)] rfl (Nat.le_of_ble_eq_true rfl) rfl ?_
  refine x_iload_n 1 dR_isResting_0 rfl rfl ?_
  refine x_iconst 0 2 dR_isResting_1 rfl rfl ?_
  refine x_aload_n 3 dR_isResting_2 rfl rfl ?_
  refine x_get _ 6 fR_57 dR_isResting_3 rfl rfl rfl ?_
  refine x_iconst 1 7 dR_isResting_6 rfl rfl ?_
  refine x_isub 8 dR_isResting_7 rfl ?_
  refine x_fSv 11 (cR_outside _ _ _) kR_98 oR_outside dR_isResting_8 rfl rfl (by decide) (Nat.le_of_ble_eq_true rfl) ?_
  refine x_if_ne 27 14 dR_isResting_11 (by decide) rfl (fun h11 => ?_) (fun h11 => ?_)
  · skip
    refine x_iconst 0 28 dR_isResting_27 rfl rfl ?_
    exact x_iret dR_isResting_28 rfl rfl ⟨by simp only [rsM, if_neg h11], rfl⟩
  · skip
    refine x_aload_n 15 dR_isResting_14 rfl rfl ?_
    refine x_get _ 18 fR_31 dR_isResting_15 rfl rfl rfl ?_
    refine x_iload_n 19 dR_isResting_18 rfl rfl ?_
    refine x_iald 20 dR_isResting_19 rfl (h_ra 7 (by decide)) (vOc hc h11).1 ?_
    refine x_if_ne 27 23 dR_isResting_20 (by decide) rfl (fun h20 => ?_) (fun h20 => ?_)
    · skip
      refine x_iconst 0 28 dR_isResting_27 rfl rfl ?_
      exact x_iret dR_isResting_28 rfl rfl ⟨by simp only [rsM, if_pos h11, if_neg h20], rfl⟩
    · skip
      refine x_iconst 1 24 dR_isResting_23 rfl rfl ?_
      refine x_goto 28 dR_isResting_24 (by decide) ?_
      exact x_iret dR_isResting_28 rfl rfl ⟨by simp only [rsM, if_pos h11, if_pos h20], rfl⟩
def cnM (A : Nat → Nat → Int32) (B : Nat → Nat → Int64) (m x : Int32) : Int32 × mAB := if rsM A x = 0 then (0, (A, B)) else if A 0 x.toNatClampNeg = m then (1, (si A 7 x.toNatClampNeg 2, B)) else (0, (A, B))
theorem cR_cancel (hc : MC A) (m x : Int32) : x_C l G mR_cancel 2 0 0 [xR (some (14, 0)), xI m, xI x] (hp N I J P V A B) [] (QM N I J P V (cnM A B m x)) := by
  refine x_C.at [some (xR (some (14, 0))), some (xI m), some (xI x)] rfl (Nat.le_of_ble_eq_true rfl) rfl ?_
  refine x_aload_n 1 dR_cancel_0 rfl rfl ?_
  refine x_iload_n 2 dR_cancel_1 rfl rfl ?_
  refine x_fVv 5 (cR_isResting hc _) kR_118 oR_isResting rfl rfl dR_cancel_2 rfl rfl (by decide) (Nat.le_of_ble_eq_true rfl) ?_
  refine x_if_eq 18 8 dR_cancel_5 (by decide) rfl (fun h5 => ?_) (fun h5 => ?_)
  · skip
    refine x_iconst 0 19 dR_cancel_18 rfl rfl ?_
    exact x_iret dR_cancel_19 rfl rfl (QM.ip h5 (⟨rfl, rfl⟩))
  · skip
    refine x_aload_n 9 dR_cancel_8 rfl rfl ?_
    refine x_get _ 12 fR_7 dR_cancel_9 rfl rfl rfl ?_
    refine x_iload_n 13 dR_cancel_12 rfl rfl ?_
    refine x_iald 14 dR_cancel_13 rfl (h_ra 0 (by decide)) (vOc hc (rsM_nz h5).1).1 ?_
    refine x_iload_n 15 dR_cancel_14 rfl rfl ?_
    refine x_icmp_eq 20 18 dR_cancel_15 (by decide) rfl (fun h15 => ?_) (fun h15 => ?_)
    · skip
      refine x_aload_n 21 dR_cancel_20 rfl rfl ?_
      refine x_get _ 24 fR_31 dR_cancel_21 rfl rfl rfl ?_
      refine x_iload_n 25 dR_cancel_24 rfl rfl ?_
      refine x_iconst 2 26 dR_cancel_25 rfl rfl ?_
      refine y_ra7 27 dR_cancel_26 rfl (vOc hc (rsM_nz h5).1).1 ?_
      refine x_iconst 1 28 dR_cancel_27 rfl rfl ?_
      exact x_iret dR_cancel_28 rfl rfl (QM.ig h5 (QM.ip h15 (⟨rfl, rfl⟩)))
    · skip
      refine x_iconst 0 19 dR_cancel_18 rfl rfl ?_
      exact x_iret dR_cancel_19 rfl rfl (QM.ig h5 (QM.ig h15 (⟨rfl, rfl⟩)))
def amM (A : Nat → Nat → Int32) (B : Nat → Nat → Int64) (m x q : Int32) : Int32 × mAB := if rsM A x = 0 then (-6, (A, B)) else if A 0 x.toNatClampNeg = m then (if out q 1 (A 5 x.toNatClampNeg - 1) = 0 then (if q ≤ A 6 x.toNatClampNeg then (0, (si (si A 5 x.toNatClampNeg q) 6 x.toNatClampNeg q, B)) else (0, (si (si A 5 x.toNatClampNeg q) 6 x.toNatClampNeg (A 6 x.toNatClampNeg), B))) else (-1, (A, B))) else (-6, (A, B))
theorem cR_amend (hc : MC A) (m x q : Int32) : x_C l G mR_amend 2 0 0 [xR (some (14, 0)), xI m, xI x, xI q] (hp N I J P V A B) [] (QM N I J P V (amM A B m x q)) := by
  refine x_C.at [some (xR (some (14, 0))), some (xI m), some (xI x), some (xI q)] rfl (Nat.le_of_ble_eq_true rfl) rfl ?_
  refine x_aload_n 1 dR_amend_0 rfl rfl ?_
  refine x_iload_n 2 dR_amend_1 rfl rfl ?_
  refine x_fVv 5 (cR_isResting hc _) kR_118 oR_isResting rfl rfl dR_amend_2 rfl rfl (by decide) (Nat.le_of_ble_eq_true rfl) ?_
  refine x_if_eq 18 8 dR_amend_5 (by decide) rfl (fun h5 => ?_) (fun h5 => ?_)
  · skip
    refine x_bipush (-6) 20 dR_amend_18 rfl rfl ?_
    exact x_iret dR_amend_20 rfl rfl (QM.ip h5 (⟨rfl, rfl⟩))
  · skip
    refine x_aload_n 9 dR_amend_8 rfl rfl ?_
    refine x_get _ 12 fR_7 dR_amend_9 rfl rfl rfl ?_
    refine x_iload_n 13 dR_amend_12 rfl rfl ?_
    refine x_iald 14 dR_amend_13 rfl (h_ra 0 (by decide)) (vOc hc (rsM_nz h5).1).1 ?_
    refine x_iload_n 15 dR_amend_14 rfl rfl ?_
    refine x_icmp_eq 21 18 dR_amend_15 (by decide) rfl (fun h15 => ?_) (fun h15 => ?_)
    · skip
      refine x_iload_n 22 dR_amend_21 rfl rfl ?_
      refine x_iconst 1 23 dR_amend_22 rfl rfl ?_
      refine x_aload_n 24 dR_amend_23 rfl rfl ?_
      refine x_get _ 27 fR_25 dR_amend_24 rfl rfl rfl ?_
      refine x_iload_n 28 dR_amend_27 rfl rfl ?_
      refine x_iald 29 dR_amend_28 rfl (h_ra 5 (by decide)) (vOc hc (rsM_nz h5).1).1 ?_
      refine x_iconst 1 30 dR_amend_29 rfl rfl ?_
      refine x_isub 31 dR_amend_30 rfl ?_
      refine x_fSv 34 (cR_outside _ _ _) kR_98 oR_outside dR_amend_31 rfl rfl (by decide) (Nat.le_of_ble_eq_true rfl) ?_
      refine x_if_eq 39 37 dR_amend_34 (by decide) rfl (fun h34 => ?_) (fun h34 => ?_)
      · skip
        refine x_aload_n 40 dR_amend_39 rfl rfl ?_
        refine x_get _ 43 fR_25 dR_amend_40 rfl rfl rfl ?_
        refine x_iload_n 44 dR_amend_43 rfl rfl ?_
        refine x_iload_n 45 dR_amend_44 rfl rfl ?_
        refine y_ra5 46 dR_amend_45 rfl (vOc hc (rsM_nz h5).1).1 ?_
        refine x_aload_n 47 dR_amend_46 rfl rfl ?_
        refine x_get _ 50 fR_28 dR_amend_47 rfl rfl rfl ?_
        refine x_iload_n 51 dR_amend_50 rfl rfl ?_
        refine x_aload_n 52 dR_amend_51 rfl rfl ?_
        refine x_get _ 55 fR_28 dR_amend_52 rfl rfl rfl ?_
        refine x_iload_n 56 dR_amend_55 rfl rfl ?_
        refine x_iald 57 dR_amend_56 rfl (h_ra 6 (by decide)) (vOc hc (rsM_nz h5).1).1 ?_
        refine x_iload_n 58 dR_amend_57 rfl rfl ?_
        refine x_icmp_ge 70 61 dR_amend_58 (by decide) rfl (fun h58 => ?_) (fun h58 => ?_)
        · skip
          refine x_iload_n 71 dR_amend_70 rfl rfl ?_
          refine y_ra6 72 dR_amend_71 rfl (vOc hc (rsM_nz h5).1).1 ?_
          refine x_iconst 0 73 dR_amend_72 rfl rfl ?_
          exact x_iret dR_amend_73 rfl rfl (QM.ig h5 (QM.ip h15 (QM.ip h34 (QM.ip h58 (⟨rfl, rfl⟩)))))
        · skip
          refine x_aload_n 62 dR_amend_61 rfl rfl ?_
          refine x_get _ 65 fR_28 dR_amend_62 rfl rfl rfl ?_
          refine x_iload_n 66 dR_amend_65 rfl rfl ?_
          refine x_iald 67 dR_amend_66 rfl (h_ra 6 (by decide)) (vOc hc (rsM_nz h5).1).1 ?_
          refine x_goto 71 dR_amend_67 (by decide) ?_
          refine y_ra6 72 dR_amend_71 rfl (vOc hc (rsM_nz h5).1).1 ?_
          refine x_iconst 0 73 dR_amend_72 rfl rfl ?_
          exact x_iret dR_amend_73 rfl rfl (QM.ig h5 (QM.ip h15 (QM.ip h34 (QM.ig h58 (⟨rfl, rfl⟩)))))
      · skip
        refine x_iconst (-1) 38 dR_amend_37 rfl rfl ?_
        exact x_iret dR_amend_38 rfl rfl (QM.ig h5 (QM.ip h15 (QM.ig h34 (⟨rfl, rfl⟩))))
    · skip
      refine x_bipush (-6) 20 dR_amend_18 rfl rfl ?_
      exact x_iret dR_amend_20 rfl rfl (QM.ig h5 (QM.ig h15 (⟨rfl, rfl⟩)))
def ahF (A : Nat → Nat → Int32) (x : Int32) : Nat → Int32 → Int32 → Int32
  | 0, _, sm => sm
  | n + 1, o, sm => ahF A x n (o + Int32.ofInt 1) (sm + (if b01 (wts A o.toNatClampNeg (A 1 x.toNatClampNeg) (A 2 x.toNatClampNeg)) = 0 then 0 else if A 4 o.toNatClampNeg = A 4 x.toNatClampNeg then (if A 8 x.toNatClampNeg ≤ A 8 o.toNatClampNeg then 0 else shs A o.toNatClampNeg) else 0))
def ahM (A : Nat → Nat → Int32) (x : Int32) : Int32 := if rsM A x = 0 then -6 else ahF A x (A 13 0).toNatClampNeg 0 0
theorem lp_R_ahead (hc : MC A) {x : Int32} (hx : vp_in x 120) (T : Int32) : ∀ (n : Nat) (e sm : Int32), 0 ≤ e.toInt → e.toInt + n = (A 13 0).toInt → ahF A x n e sm = T → x_X l G mR_ahead 1 0 0 [] (x_is (some (xI T)) (hp N I J P V A B)) 15 [some (xR (some (14, 0))), some (xI x), some (xI sm), some (xI e)] [] (hp N I J P V A B) := by
  intro n
  induction n with
  | zero =>
    intro e sm he0 he1 hT
    subst hT
    refine x_iload_n 16 dR_ahead_15 rfl rfl ?_
    refine x_aload_n 17 dR_ahead_16 rfl rfl ?_
    refine x_get _ 20 fR_57 dR_ahead_17 rfl rfl rfl ?_
    refine x_icmp_ge 91 23 dR_ahead_20 (by decide) rfl (fun h20 => ?_) (fun h20 => absurd (show A 13 0 ≤ e from by rw [i_le]; omega) h20)
    refine x_iload_n 92 dR_ahead_91 rfl rfl ?_
    exact x_iret dR_ahead_92 rfl rfl ⟨rfl, rfl⟩
  | succ n ih =>
    intro e sm he0 he1 hT
    subst hT
    have hc2 := hc.2
    have hin : vp_in e 120 := vp_of (by omega) (by omega)
    have hlt : ¬ A 13 0 ≤ e := by rw [i_le]; omega
    refine x_iload_n 16 dR_ahead_15 rfl rfl ?_
    refine x_aload_n 17 dR_ahead_16 rfl rfl ?_
    refine x_get _ 20 fR_57 dR_ahead_17 rfl rfl rfl ?_
    refine x_icmp_ge 91 23 dR_ahead_20 (by decide) rfl (fun h20 => absurd h20 hlt) (fun h20 => ?_)
    refine x_iload_n 24 dR_ahead_23 rfl rfl ?_
    refine x_aload_n 25 dR_ahead_24 rfl rfl ?_
    refine x_iload_n 26 dR_ahead_25 rfl rfl ?_
    refine x_aload_n 27 dR_ahead_26 rfl rfl ?_
    refine x_get _ 30 fR_13 dR_ahead_27 rfl rfl rfl ?_
    refine x_iload_n 31 dR_ahead_30 rfl rfl ?_
    refine x_iald 32 dR_ahead_31 rfl (h_ra 1 (by decide)) hx ?_
    refine x_aload_n 33 dR_ahead_32 rfl rfl ?_
    refine x_get _ 36 fR_16 dR_ahead_33 rfl rfl rfl ?_
    refine x_iload_n 37 dR_ahead_36 rfl rfl ?_
    refine x_iald 38 dR_ahead_37 rfl (h_ra 2 (by decide)) hx ?_
    refine x_fVv 41 (cR_waits hin _ _) kR_61 oR_waits rfl rfl dR_ahead_38 rfl rfl (by decide) (Nat.le_of_ble_eq_true rfl) ?_
    refine x_if_eq 82 44 dR_ahead_41 (by decide) rfl (fun h41 => ?_) (fun h41 => ?_)
    · skip
      refine x_iconst 0 83 dR_ahead_82 rfl rfl ?_
      refine x_iadd 84 dR_ahead_83 rfl ?_
      refine x_istore_n 85 dR_ahead_84 rfl (by decide) rfl ?_
      refine x_iinc 88 dR_ahead_85 rfl rfl (by decide) rfl ?_
      refine x_goto 15 dR_ahead_88 (by decide) ?_
      exact ih _ _ (by rw [i_inc (by omega) (by omega)]; omega) (by rw [i_inc (by omega) (by omega)]; omega) (by simp only [ahF, if_pos h41])
    · skip
      refine x_aload_n 45 dR_ahead_44 rfl rfl ?_
      refine x_get _ 48 fR_22 dR_ahead_45 rfl rfl rfl ?_
      refine x_iload_n 49 dR_ahead_48 rfl rfl ?_
      refine x_iald 50 dR_ahead_49 rfl (h_ra 4 (by decide)) hin ?_
      refine x_aload_n 51 dR_ahead_50 rfl rfl ?_
      refine x_get _ 54 fR_22 dR_ahead_51 rfl rfl rfl ?_
      refine x_iload_n 55 dR_ahead_54 rfl rfl ?_
      refine x_iald 56 dR_ahead_55 rfl (h_ra 4 (by decide)) hx ?_
      refine x_icmp_ne 82 59 dR_ahead_56 (by decide) rfl (fun h56 => ?_) (fun h56 => ?_)
      · skip
        refine x_iconst 0 83 dR_ahead_82 rfl rfl ?_
        refine x_iadd 84 dR_ahead_83 rfl ?_
        refine x_istore_n 85 dR_ahead_84 rfl (by decide) rfl ?_
        refine x_iinc 88 dR_ahead_85 rfl rfl (by decide) rfl ?_
        refine x_goto 15 dR_ahead_88 (by decide) ?_
        exact ih _ _ (by rw [i_inc (by omega) (by omega)]; omega) (by rw [i_inc (by omega) (by omega)]; omega) (by simp only [ahF, if_neg h41, if_neg h56])
      · skip
        refine x_aload_n 60 dR_ahead_59 rfl rfl ?_
        refine x_get _ 63 fR_34 dR_ahead_60 rfl rfl rfl ?_
        refine x_iload_n 64 dR_ahead_63 rfl rfl ?_
        refine x_iald 65 dR_ahead_64 rfl (h_ra 8 (by decide)) hin ?_
        refine x_aload_n 66 dR_ahead_65 rfl rfl ?_
        refine x_get _ 69 fR_34 dR_ahead_66 rfl rfl rfl ?_
        refine x_iload_n 70 dR_ahead_69 rfl rfl ?_
        refine x_iald 71 dR_ahead_70 rfl (h_ra 8 (by decide)) hx ?_
        refine x_icmp_ge 82 74 dR_ahead_71 (by decide) rfl (fun h71 => ?_) (fun h71 => ?_)
        · skip
          refine x_iconst 0 83 dR_ahead_82 rfl rfl ?_
          refine x_iadd 84 dR_ahead_83 rfl ?_
          refine x_istore_n 85 dR_ahead_84 rfl (by decide) rfl ?_
          refine x_iinc 88 dR_ahead_85 rfl rfl (by decide) rfl ?_
          refine x_goto 15 dR_ahead_88 (by decide) ?_
          exact ih _ _ (by rw [i_inc (by omega) (by omega)]; omega) (by rw [i_inc (by omega) (by omega)]; omega) (by simp only [ahF, if_neg h41, if_pos h56, if_pos h71])
        · skip
          refine x_aload_n 75 dR_ahead_74 rfl rfl ?_
          refine x_iload_n 76 dR_ahead_75 rfl rfl ?_
          refine x_fVv 79 (cR_shows hin) kR_82 oR_shows rfl rfl dR_ahead_76 rfl rfl (by decide) (Nat.le_of_ble_eq_true rfl) ?_
          refine x_goto 83 dR_ahead_79 (by decide) ?_
          refine x_iadd 84 dR_ahead_83 rfl ?_
          refine x_istore_n 85 dR_ahead_84 rfl (by decide) rfl ?_
          refine x_iinc 88 dR_ahead_85 rfl rfl (by decide) rfl ?_
          refine x_goto 15 dR_ahead_88 (by decide) ?_
          exact ih _ _ (by rw [i_inc (by omega) (by omega)]; omega) (by rw [i_inc (by omega) (by omega)]; omega) (by simp only [ahF, if_neg h41, if_pos h56, if_neg h71])
theorem cR_ahead (hc : MC A) (x : Int32) : x_C l G mR_ahead 2 0 0 [xR (some (14, 0)), xI x] (hp N I J P V A B) [] (x_is (some (xI (ahM A x))) (hp N I J P V A B)) := by
  refine x_C.at [some (xR (some (14, 0))), some (xI x), none, none] rfl (Nat.le_of_ble_eq_true rfl) rfl ?_
  refine x_aload_n 1 dR_ahead_0 rfl rfl ?_
  refine x_iload_n 2 dR_ahead_1 rfl rfl ?_
  refine x_fVv 5 (cR_isResting hc _) kR_118 oR_isResting rfl rfl dR_ahead_2 rfl rfl (by decide) (Nat.le_of_ble_eq_true rfl) ?_
  refine x_if_ne 11 8 dR_ahead_5 (by decide) rfl (fun h5 => ?_) (fun h5 => ?_)
  · skip
    refine x_iconst 0 12 dR_ahead_11 rfl rfl ?_
    refine x_istore_n 13 dR_ahead_12 rfl (by decide) rfl ?_
    refine x_iconst 0 14 dR_ahead_13 rfl rfl ?_
    refine x_istore_n 15 dR_ahead_14 rfl (by decide) rfl ?_
    exact x_Xm (fun r h1 z => ⟨z.1.trans (by unfold ahM; simp only [if_neg h5]), z.2⟩) (x_wd (by decide) (lp_R_ahead hc (vOc hc (rsM_nz h5).1).1 _ (A 13 0).toNatClampNeg 0 0 (by decide) (mc_sum hc) rfl))
  · skip
    refine x_bipush (-6) 10 dR_ahead_8 rfl rfl ?_
    exact x_iret dR_ahead_10 rfl rfl ⟨by simp only [ahM, if_pos h5], rfl⟩
def leM (A : Nat → Nat → Int32) (x : Int32) : Int32 := if out x 0 (A 13 0 - 1) = 0 then A 5 x.toNatClampNeg else -1
theorem cR_left (hc : MC A) (x : Int32) : x_C l G mR_left 1 0 0 [xR (some (14, 0)), xI x] (hp N I J P V A B) [] (x_is (some (xI (leM A x))) (hp N I J P V A B)) := by
  refine x_C.at [some (xR (some (14, 0))), some (xI x)] rfl (Nat.le_of_ble_eq_true rfl) rfl ?_
  refine x_iload_n 1 dR_left_0 rfl rfl ?_
  refine x_iconst 0 2 dR_left_1 rfl rfl ?_
  refine x_aload_n 3 dR_left_2 rfl rfl ?_
  refine x_get _ 6 fR_57 dR_left_3 rfl rfl rfl ?_
  refine x_iconst 1 7 dR_left_6 rfl rfl ?_
  refine x_isub 8 dR_left_7 rfl ?_
  refine x_fSv 11 (cR_outside _ _ _) kR_98 oR_outside dR_left_8 rfl rfl (by decide) (Nat.le_of_ble_eq_true rfl) ?_
  refine x_if_eq 18 14 dR_left_11 (by decide) rfl (fun h11 => ?_) (fun h11 => ?_)
  · skip
    refine x_aload_n 19 dR_left_18 rfl rfl ?_
    refine x_get _ 22 fR_25 dR_left_19 rfl rfl rfl ?_
    refine x_iload_n 23 dR_left_22 rfl rfl ?_
    refine x_iald 24 dR_left_23 rfl (h_ra 5 (by decide)) (vOc hc h11).1 ?_
    exact x_iret dR_left_24 rfl rfl ⟨by simp only [leM, if_pos h11], rfl⟩
  · skip
    refine x_iconst (-1) 15 dR_left_14 rfl rfl ?_
    refine x_goto 24 dR_left_15 (by decide) ?_
    exact x_iret dR_left_24 rfl rfl ⟨by simp only [leM, if_neg h11], rfl⟩
def stM (A : Nat → Nat → Int32) (x : Int32) : Int32 := if out x 0 (A 13 0 - 1) = 0 then A 7 x.toNatClampNeg else -1
theorem cR_state (hc : MC A) (x : Int32) : x_C l G mR_state 1 0 0 [xR (some (14, 0)), xI x] (hp N I J P V A B) [] (x_is (some (xI (stM A x))) (hp N I J P V A B)) := by
  refine x_C.at [some (xR (some (14, 0))), some (xI x)] rfl (Nat.le_of_ble_eq_true rfl) rfl ?_
  refine x_iload_n 1 dR_state_0 rfl rfl ?_
  refine x_iconst 0 2 dR_state_1 rfl rfl ?_
  refine x_aload_n 3 dR_state_2 rfl rfl ?_
  refine x_get _ 6 fR_57 dR_state_3 rfl rfl rfl ?_
  refine x_iconst 1 7 dR_state_6 rfl rfl ?_
  refine x_isub 8 dR_state_7 rfl ?_
  refine x_fSv 11 (cR_outside _ _ _) kR_98 oR_outside dR_state_8 rfl rfl (by decide) (Nat.le_of_ble_eq_true rfl) ?_
  refine x_if_eq 18 14 dR_state_11 (by decide) rfl (fun h11 => ?_) (fun h11 => ?_)
  · skip
    refine x_aload_n 19 dR_state_18 rfl rfl ?_
    refine x_get _ 22 fR_31 dR_state_19 rfl rfl rfl ?_
    refine x_iload_n 23 dR_state_22 rfl rfl ?_
    refine x_iald 24 dR_state_23 rfl (h_ra 7 (by decide)) (vOc hc h11).1 ?_
    exact x_iret dR_state_24 rfl rfl ⟨by simp only [stM, if_pos h11], rfl⟩
  · skip
    refine x_iconst (-1) 15 dR_state_14 rfl rfl ?_
    refine x_goto 24 dR_state_15 (by decide) ?_
    exact x_iret dR_state_24 rfl rfl ⟨by simp only [stM, if_neg h11], rfl⟩
theorem cR_trades  : x_C l G mR_trades 0 0 0 [xR (some (14, 0))] (hp N I J P V A B) [] (x_is (some (xI (A 15 0))) (hp N I J P V A B)) := by
  refine x_C.at [some (xR (some (14, 0)))] rfl (Nat.le_of_ble_eq_true rfl) rfl ?_
  refine x_aload_n 1 dR_trades_0 rfl rfl ?_
  refine x_get _ 4 fR_71 dR_trades_1 rfl rfl rfl ?_
  exact x_iret dR_trades_4 rfl rfl ⟨rfl, rfl⟩
def trM (A : Nat → Nat → Int32) (k p : Int32) : Int32 := if out p 0 3 = 0 then (if k < 0 then -6 else if A 15 0 ≤ k then -6 else if A 15 0 - 100 ≤ k then A 12 (trow k + p).toNatClampNeg else -6) else -1
theorem trow_m {k p : Int32} (hp1 : out p 0 3 = 0) (hk : ¬ k < 0) : vp_in (trow k + p) 400 := by
  have hv := vp_to (vO (n := 4) hp1 (by decide))
  rw [i_lt] at hk
  have : (0 : Int32).toInt = 0 := by decide
  exact trow_p (by omega) hv.1 hv.2
theorem cR_trade (k p : Int32) : x_C l G mR_trade 1 0 0 [xR (some (14, 0)), xI k, xI p] (hp N I J P V A B) [] (x_is (some (xI (trM A k p))) (hp N I J P V A B)) := by
  refine x_C.at [some (xR (some (14, 0))), some (xI k), some (xI p)] rfl (Nat.le_of_ble_eq_true rfl) rfl ?_
  refine x_iload_n 1 dR_trade_0 rfl rfl ?_
  refine x_iconst 0 2 dR_trade_1 rfl rfl ?_
  refine x_iconst 3 3 dR_trade_2 rfl rfl ?_
  refine x_fSv 6 (cR_outside _ _ _) kR_98 oR_outside dR_trade_3 rfl rfl (by decide) (Nat.le_of_ble_eq_true rfl) ?_
  refine x_if_eq 11 9 dR_trade_6 (by decide) rfl (fun h6 => ?_) (fun h6 => ?_)
  · skip
    refine x_iload_n 12 dR_trade_11 rfl rfl ?_
    refine x_if_lt 34 15 dR_trade_12 (by decide) rfl (fun h12 => ?_) (fun h12 => ?_)
    · skip
      refine x_bipush (-6) 36 dR_trade_34 rfl rfl ?_
      refine x_goto 52 dR_trade_36 (by decide) ?_
      exact x_iret dR_trade_52 rfl rfl ⟨by simp only [trM, trow, if_pos h6, if_pos h12], rfl⟩
    · skip
      refine x_iload_n 16 dR_trade_15 rfl rfl ?_
      refine x_aload_n 17 dR_trade_16 rfl rfl ?_
      refine x_get _ 20 fR_71 dR_trade_17 rfl rfl rfl ?_
      refine x_icmp_ge 34 23 dR_trade_20 (by decide) rfl (fun h20 => ?_) (fun h20 => ?_)
      · skip
        refine x_bipush (-6) 36 dR_trade_34 rfl rfl ?_
        refine x_goto 52 dR_trade_36 (by decide) ?_
        exact x_iret dR_trade_52 rfl rfl ⟨by simp only [trM, trow, if_pos h6, if_neg h12, if_pos h20], rfl⟩
      · skip
        refine x_iload_n 24 dR_trade_23 rfl rfl ?_
        refine x_aload_n 25 dR_trade_24 rfl rfl ?_
        refine x_get _ 28 fR_71 dR_trade_25 rfl rfl rfl ?_
        refine x_bipush (100) 30 dR_trade_28 rfl rfl ?_
        refine x_isub 31 dR_trade_30 rfl ?_
        refine x_icmp_ge 39 34 dR_trade_31 (by decide) rfl (fun h31 => ?_) (fun h31 => ?_)
        · skip
          refine x_aload_n 40 dR_trade_39 rfl rfl ?_
          refine x_get _ 43 fR_54 dR_trade_40 rfl rfl rfl ?_
          refine x_iload_n 44 dR_trade_43 rfl rfl ?_
          refine x_bipush (100) 46 dR_trade_44 rfl rfl ?_
          refine x_irem 47 dR_trade_46 rfl (by decide) ?_
          refine x_iconst 4 48 dR_trade_47 rfl rfl ?_
          refine x_imul 49 dR_trade_48 rfl ?_
          refine x_iload_n 50 dR_trade_49 rfl rfl ?_
          refine x_iadd 51 dR_trade_50 rfl ?_
          refine x_iald 52 dR_trade_51 rfl rfl (trow_m h6 h12) ?_
          exact x_iret dR_trade_52 rfl rfl ⟨by simp only [trM, trow, if_pos h6, if_neg h12, if_neg h20, if_pos h31], rfl⟩
        · skip
          refine x_bipush (-6) 36 dR_trade_34 rfl rfl ?_
          refine x_goto 52 dR_trade_36 (by decide) ?_
          exact x_iret dR_trade_52 rfl rfl ⟨by simp only [trM, trow, if_pos h6, if_neg h12, if_neg h20, if_neg h31], rfl⟩
  · skip
    refine x_iconst (-1) 10 dR_trade_9 rfl rfl ?_
    exact x_iret dR_trade_10 rfl rfl ⟨by simp only [trM, trow, if_neg h6], rfl⟩
def poM (A : Nat → Nat → Int32) (m i : Int32) : Int32 := if out m 0 4 = 0 then (if out i 0 1 = 0 then A 9 (2 * m + i).toNatClampNeg else 0) else 0
theorem cR_position (m i : Int32) : x_C l G mR_position 2 0 0 [xR (some (14, 0)), xI m, xI i] (hp N I J P V A B) [] (x_is (some (xI (poM A m i))) (hp N I J P V A B)) := by
  refine x_C.at [some (xR (some (14, 0))), some (xI m), some (xI i)] rfl (Nat.le_of_ble_eq_true rfl) rfl ?_
  refine x_iload_n 1 dR_position_0 rfl rfl ?_
  refine x_fSv 4 (cR_noMember _) kR_101 oR_noMember dR_position_1 rfl rfl (by decide) (Nat.le_of_ble_eq_true rfl) ?_
  refine x_if_ne 16 7 dR_position_4 (by decide) rfl (fun h4 => ?_) (fun h4 => ?_)
  · skip
    refine x_iconst 0 17 dR_position_16 rfl rfl ?_
    refine x_goto 30 dR_position_17 (by decide) ?_
    exact x_iret dR_position_30 rfl rfl ⟨by simp only [poM, if_neg h4], rfl⟩
  · skip
    refine x_iload_n 8 dR_position_7 rfl rfl ?_
    refine x_iconst 0 9 dR_position_8 rfl rfl ?_
    refine x_iconst 1 10 dR_position_9 rfl rfl ?_
    refine x_fSv 13 (cR_outside _ _ _) kR_98 oR_outside dR_position_10 rfl rfl (by decide) (Nat.le_of_ble_eq_true rfl) ?_
    refine x_if_eq 20 16 dR_position_13 (by decide) rfl (fun h13 => ?_) (fun h13 => ?_)
    · skip
      refine x_aload_n 21 dR_position_20 rfl rfl ?_
      refine x_get _ 24 fR_44 dR_position_21 rfl rfl rfl ?_
      refine x_iconst 2 25 dR_position_24 rfl rfl ?_
      refine x_iload_n 26 dR_position_25 rfl rfl ?_
      refine x_imul 27 dR_position_26 rfl ?_
      refine x_iload_n 28 dR_position_27 rfl rfl ?_
      refine x_iadd 29 dR_position_28 rfl ?_
      refine x_iald 30 dR_position_29 rfl rfl (held_in (vO5 h4) (vO2 h13)).2 ?_
      exact x_iret dR_position_30 rfl rfl ⟨by simp only [poM, if_pos h4, if_pos h13], rfl⟩
    · skip
      refine x_iconst 0 17 dR_position_16 rfl rfl ?_
      refine x_goto 30 dR_position_17 (by decide) ?_
      exact x_iret dR_position_30 rfl rfl ⟨by simp only [poM, if_pos h4, if_neg h13], rfl⟩
def moM (B : Nat → Nat → Int64) (c : Nat) (m : Int32) : Int64 := if out m 0 4 = 0 then B c m.toNatClampNeg else 0
theorem cR_money (m : Int32) : x_C l G mR_money 2 0 0 [xR (some (14, 0)), xI m] (hp N I J P V A B) [] (x_is (some (xJ (moM B 0 m))) (hp N I J P V A B)) := by
  refine x_C.at [some (xR (some (14, 0))), some (xI m)] rfl (Nat.le_of_ble_eq_true rfl) rfl ?_
  refine x_iload_n 1 dR_money_0 rfl rfl ?_
  refine x_fSv 4 (cR_noMember _) kR_101 oR_noMember dR_money_1 rfl rfl (by decide) (Nat.le_of_ble_eq_true rfl) ?_
  refine x_if_eq 11 7 dR_money_4 (by decide) rfl (fun h4 => ?_) (fun h4 => ?_)
  · skip
    refine x_aload_n 12 dR_money_11 rfl rfl ?_
    refine x_get _ 15 fR_37 dR_money_12 rfl rfl rfl ?_
    refine x_iload_n 16 dR_money_15 rfl rfl ?_
    refine x_lald 17 dR_money_16 rfl (h_rl 0 (by decide)) (vO5 h4) ?_
    exact x_lret dR_money_17 rfl ⟨by simp only [moM, if_pos h4], rfl⟩
  · skip
    refine x_lconst 0 8 dR_money_7 rfl rfl ?_
    refine x_goto 17 dR_money_8 (by decide) ?_
    exact x_lret dR_money_17 rfl ⟨by simp only [moM, if_neg h4], rfl⟩
theorem cR_owed (m : Int32) : x_C l G mR_owed 2 0 0 [xR (some (14, 0)), xI m] (hp N I J P V A B) [] (x_is (some (xJ (moM B 1 m))) (hp N I J P V A B)) := by
  refine x_C.at [some (xR (some (14, 0))), some (xI m)] rfl (Nat.le_of_ble_eq_true rfl) rfl ?_
  refine x_iload_n 1 dR_owed_0 rfl rfl ?_
  refine x_fSv 4 (cR_noMember _) kR_101 oR_noMember dR_owed_1 rfl rfl (by decide) (Nat.le_of_ble_eq_true rfl) ?_
  refine x_if_eq 11 7 dR_owed_4 (by decide) rfl (fun h4 => ?_) (fun h4 => ?_)
  · skip
    refine x_aload_n 12 dR_owed_11 rfl rfl ?_
    refine x_get _ 15 fR_41 dR_owed_12 rfl rfl rfl ?_
    refine x_iload_n 16 dR_owed_15 rfl rfl ?_
    refine x_lald 17 dR_owed_16 rfl (h_rl 1 (by decide)) (vO5 h4) ?_
    exact x_lret dR_owed_17 rfl ⟨by simp only [moM, if_pos h4], rfl⟩
  · skip
    refine x_lconst 0 8 dR_owed_7 rfl rfl ?_
    refine x_goto 17 dR_owed_8 (by decide) ?_
    exact x_lret dR_owed_17 rfl ⟨by simp only [moM, if_neg h4], rfl⟩
def clM (A : Nat → Nat → Int32) (B : Nat → Nat → Int64) (i : Int32) : Int32 × mAB := if out i 0 1 = 0 then (if A 10 i.toNatClampNeg = 0 then (-3, (A, B)) else (0, (si A 10 i.toNatClampNeg 0, B))) else (-1, (A, B))
theorem cR_close (i : Int32) : x_C l G mR_close 1 0 0 [xR (some (14, 0)), xI i] (hp N I J P V A B) [] (QM N I J P V (clM A B i)) := by
  refine x_C.at [some (xR (some (14, 0))), some (xI i)] rfl (Nat.le_of_ble_eq_true rfl) rfl ?_
  refine x_iload_n 1 dR_close_0 rfl rfl ?_
  refine x_iconst 0 2 dR_close_1 rfl rfl ?_
  refine x_iconst 1 3 dR_close_2 rfl rfl ?_
  refine x_fSv 6 (cR_outside _ _ _) kR_98 oR_outside dR_close_3 rfl rfl (by decide) (Nat.le_of_ble_eq_true rfl) ?_
  refine x_if_eq 11 9 dR_close_6 (by decide) rfl (fun h6 => ?_) (fun h6 => ?_)
  · skip
    refine x_aload_n 12 dR_close_11 rfl rfl ?_
    refine x_get _ 15 fR_47 dR_close_12 rfl rfl rfl ?_
    refine x_iload_n 16 dR_close_15 rfl rfl ?_
    refine x_bald 17 dR_close_16 rfl rfl (vO2 h6) ?_
    refine x_if_ne 23 20 dR_close_17 (by decide) rfl (fun h17 => ?_) (fun h17 => ?_)
    · skip
      refine x_aload_n 24 dR_close_23 rfl rfl ?_
      refine x_get _ 27 fR_47 dR_close_24 rfl rfl rfl ?_
      refine x_iload_n 28 dR_close_27 rfl rfl ?_
      refine x_iconst 0 29 dR_close_28 rfl rfl ?_
      refine y_isOpen 30 dR_close_29 rfl (vO2 h6) rfl ?_
      refine x_iconst 0 31 dR_close_30 rfl rfl ?_
      exact x_iret dR_close_31 rfl rfl (QM.ip h6 (QM.ig h17 (⟨rfl, rfl⟩)))
    · skip
      refine x_bipush (-3) 22 dR_close_20 rfl rfl ?_
      exact x_iret dR_close_22 rfl rfl (QM.ip h6 (QM.ip h17 (⟨rfl, rfl⟩)))
  · skip
    refine x_iconst (-1) 10 dR_close_9 rfl rfl ?_
    exact x_iret dR_close_10 rfl rfl (QM.ig h6 (⟨rfl, rfl⟩))
def beM (A : Nat → Nat → Int32) (i s : Int32) : Int32 := if out i 0 1 = 0 then (if out s 0 1 = 0 then (if 0 ≤ fr A i s then A 4 (fr A i s).toNatClampNeg else -6) else -1) else -1
theorem cR_best (hc : MC A) (i s : Int32) : x_C l G mR_best 2 0 0 [xR (some (14, 0)), xI i, xI s] (hp N I J P V A B) [] (x_is (some (xI (beM A i s))) (hp N I J P V A B)) := by
  refine x_C.at [some (xR (some (14, 0))), some (xI i), some (xI s), none] rfl (Nat.le_of_ble_eq_true rfl) rfl ?_
  refine x_iload_n 1 dR_best_0 rfl rfl ?_
  refine x_iconst 0 2 dR_best_1 rfl rfl ?_
  refine x_iconst 1 3 dR_best_2 rfl rfl ?_
  refine x_fSv 6 (cR_outside _ _ _) kR_98 oR_outside dR_best_3 rfl rfl (by decide) (Nat.le_of_ble_eq_true rfl) ?_
  refine x_if_ne 18 9 dR_best_6 (by decide) rfl (fun h6 => ?_) (fun h6 => ?_)
  · skip
    refine x_iconst (-1) 19 dR_best_18 rfl rfl ?_
    exact x_iret dR_best_19 rfl rfl ⟨by simp only [beM, if_neg h6], rfl⟩
  · skip
    refine x_iload_n 10 dR_best_9 rfl rfl ?_
    refine x_iconst 0 11 dR_best_10 rfl rfl ?_
    refine x_iconst 1 12 dR_best_11 rfl rfl ?_
    refine x_fSv 15 (cR_outside _ _ _) kR_98 oR_outside dR_best_12 rfl rfl (by decide) (Nat.le_of_ble_eq_true rfl) ?_
    refine x_if_eq 20 18 dR_best_15 (by decide) rfl (fun h15 => ?_) (fun h15 => ?_)
    · skip
      refine x_aload_n 21 dR_best_20 rfl rfl ?_
      refine x_iload_n 22 dR_best_21 rfl rfl ?_
      refine x_iload_n 23 dR_best_22 rfl rfl ?_
      refine x_fVv 26 (cR_front hc _ _) kR_74 oR_front rfl rfl dR_best_23 rfl rfl (by decide) (Nat.le_of_ble_eq_true rfl) ?_
      refine x_istore_n 27 dR_best_26 rfl (by decide) rfl ?_
      refine x_iload_n 28 dR_best_27 rfl rfl ?_
      refine x_if_ge 36 31 dR_best_28 (by decide) rfl (fun h28 => ?_) (fun h28 => ?_)
      · skip
        refine x_aload_n 37 dR_best_36 rfl rfl ?_
        refine x_get _ 40 fR_22 dR_best_37 rfl rfl rfl ?_
        refine x_iload_n 41 dR_best_40 rfl rfl ?_
        refine x_iald 42 dR_best_41 rfl (h_ra 4 (by decide)) (vp_of (by have z := h28; rw [i_le, show (0 : Int32).toInt = 0 by decide] at z; exact z) (by have := (fr_rng hc i s).2; have := hc.2; omega)) ?_
        exact x_iret dR_best_42 rfl rfl ⟨by simp only [beM, if_pos h6, if_pos h15, if_pos h28], rfl⟩
      · skip
        refine x_bipush (-6) 33 dR_best_31 rfl rfl ?_
        refine x_goto 42 dR_best_33 (by decide) ?_
        exact x_iret dR_best_42 rfl rfl ⟨by simp only [beM, if_pos h6, if_pos h15, if_neg h28], rfl⟩
    · skip
      refine x_iconst (-1) 19 dR_best_18 rfl rfl ?_
      exact x_iret dR_best_19 rfl rfl ⟨by simp only [beM, if_pos h6, if_neg h15], rfl⟩
def riF (A : Nat → Nat → Int32) (m k : Int32) : Nat → Int32 → Int64 → Int64 → Int64 × Int64
  | 0, _, b, s => (b, s)
  | n + 1, o, b, s => if A 0 o.toNatClampNeg = m then (if A 7 o.toNatClampNeg = 0 then (if A 1 o.toNatClampNeg = k then riF A m k n (o + Int32.ofInt 1) (b + (if A 2 o.toNatClampNeg = 0 then (A 5 o.toNatClampNeg).toInt64 else 0)) (s + (if A 2 o.toNatClampNeg = 1 then (A 5 o.toNatClampNeg).toInt64 else 0)) else riF A m k n (o + Int32.ofInt 1) b s) else riF A m k n (o + Int32.ofInt 1) b s) else riF A m k n (o + Int32.ofInt 1) b s
def rk2 (A : Nat → Nat → Int32) (m k : Int32) (b s : Int64) : Int64 := (if k = 0 then (3 : Int32) else 5).toInt64 * (if lg_cmp (j_abs ((A 9 (2 * m + k).toNatClampNeg).toInt64 + b)) (j_abs ((A 9 (2 * m + k).toNatClampNeg).toInt64 - s)) ≤ 0 then j_abs ((A 9 (2 * m + k).toNatClampNeg).toInt64 - s) else j_abs ((A 9 (2 * m + k).toNatClampNeg).toInt64 + b))
def ri0 (A : Nat → Nat → Int32) (m i s q k : Int32) : Int64 × Int64 := riF A m k (A 13 0).toNatClampNeg 0 (if i = k then (if s = 0 then q.toInt64 else 0) else 0) (if i = k then (if s = 1 then q.toInt64 else 0) else 0)
def rkM (A : Nat → Nat → Int32) (m i s q : Int32) : Nat → Int32 → Int64 → Int64
  | 0, _, sm => sm
  | n + 1, k, sm => rkM A m i s q n (k + Int32.ofInt 1) (sm + rk2 A m k (ri0 A m i s q k).1 (ri0 A m i s q k).2)
def rskM (A : Nat → Nat → Int32) (m i s q : Int32) : Int64 := rkM A m i s q 2 0 0
theorem lp_R_ri (hc : MC A) (m i s q k : Int32) (sm : Int64) {Q : Option xV → xH → Prop} (T : Int64 × Int64) (x y z : Option xV) (K : ∀ e : Int32, x_X l G mR_riskWith 1 0 0 [] Q 157 [some (xR (some (14, 0))), some (xI m), some (xI i), some (xI s), some (xI q), some (xJ sm), none, some (xI k), some (xJ T.1), none, some (xJ T.2), none, some (xI e), x, y, z] [] (hp N I J P V A B)) : ∀ (n : Nat) (e : Int32) (bb ss : Int64), 0 ≤ e.toInt → e.toInt + n = (A 13 0).toInt → riF A m k n e bb ss = T → x_X l G mR_riskWith 1 0 0 [] Q 54 [some (xR (some (14, 0))), some (xI m), some (xI i), some (xI s), some (xI q), some (xJ sm), none, some (xI k), some (xJ bb), none, some (xJ ss), none, some (xI e), x, y, z] [] (hp N I J P V A B) := by
  intro n
  induction n with
  | zero =>
    intro e bb ss he0 he1 hT
    subst hT
    refine x_iload 56 dR_riskWith_54 rfl rfl ?_
    refine x_aload_n 57 dR_riskWith_56 rfl rfl ?_
    refine x_get _ 60 fR_57 dR_riskWith_57 rfl rfl rfl ?_
    refine x_icmp_ge 157 63 dR_riskWith_60 (by decide) rfl (fun h60 => ?_) (fun h60 => absurd (show A 13 0 ≤ e from by rw [i_le]; omega) h60)
    exact K e
  | succ n ih =>
    intro e bb ss he0 he1 hT
    have hc2 := hc.2
    have hin : vp_in e 120 := vp_of (by omega) (by omega)
    have hlt : ¬ A 13 0 ≤ e := by rw [i_le]; omega
    refine x_iload 56 dR_riskWith_54 rfl rfl ?_
    refine x_aload_n 57 dR_riskWith_56 rfl rfl ?_
    refine x_get _ 60 fR_57 dR_riskWith_57 rfl rfl rfl ?_
    refine x_icmp_ge 157 63 dR_riskWith_60 (by decide) rfl (fun h60 => absurd h60 hlt) (fun h60 => ?_)
    refine x_aload_n 64 dR_riskWith_63 rfl rfl ?_
    refine x_get _ 67 fR_7 dR_riskWith_64 rfl rfl rfl ?_
    refine x_iload 69 dR_riskWith_67 rfl rfl ?_
    refine x_iald 70 dR_riskWith_69 rfl (h_ra 0 (by decide)) (by assumption) ?_
    refine x_iload_n 71 dR_riskWith_70 rfl rfl ?_
    refine x_icmp_ne 151 74 dR_riskWith_71 (by decide) rfl (fun h71 => ?_) (fun h71 => ?_)
    · skip
      refine x_iinc 154 dR_riskWith_151 rfl rfl (by decide) rfl ?_
      refine x_goto 54 dR_riskWith_154 (by decide) ?_
      exact ih _ _ _ (by rw [i_inc (by omega) (by omega)]; omega) (by rw [i_inc (by omega) (by omega)]; omega) (by rw [← hT]; simp only [riF, if_neg h71])
    · skip
      refine x_aload_n 75 dR_riskWith_74 rfl rfl ?_
      refine x_get _ 78 fR_31 dR_riskWith_75 rfl rfl rfl ?_
      refine x_iload 80 dR_riskWith_78 rfl rfl ?_
      refine x_iald 81 dR_riskWith_80 rfl (h_ra 7 (by decide)) (by assumption) ?_
      refine x_if_ne 151 84 dR_riskWith_81 (by decide) rfl (fun h81 => ?_) (fun h81 => ?_)
      · skip
        refine x_iinc 154 dR_riskWith_151 rfl rfl (by decide) rfl ?_
        refine x_goto 54 dR_riskWith_154 (by decide) ?_
        exact ih _ _ _ (by rw [i_inc (by omega) (by omega)]; omega) (by rw [i_inc (by omega) (by omega)]; omega) (by rw [← hT]; simp only [riF, if_pos h71, if_neg h81])
      · skip
        refine x_aload_n 85 dR_riskWith_84 rfl rfl ?_
        refine x_get _ 88 fR_13 dR_riskWith_85 rfl rfl rfl ?_
        refine x_iload 90 dR_riskWith_88 rfl rfl ?_
        refine x_iald 91 dR_riskWith_90 rfl (h_ra 1 (by decide)) (by assumption) ?_
        refine x_iload 93 dR_riskWith_91 rfl rfl ?_
        refine x_icmp_ne 151 96 dR_riskWith_93 (by decide) rfl (fun h93 => ?_) (fun h93 => ?_)
        · skip
          refine x_iinc 154 dR_riskWith_151 rfl rfl (by decide) rfl ?_
          refine x_goto 54 dR_riskWith_154 (by decide) ?_
          exact ih _ _ _ (by rw [i_inc (by omega) (by omega)]; omega) (by rw [i_inc (by omega) (by omega)]; omega) (by rw [← hT]; simp only [riF, if_pos h71, if_pos h81, if_neg h93])
        · skip
          refine x_lload 98 dR_riskWith_96 rfl rfl ?_
          refine x_aload_n 99 dR_riskWith_98 rfl rfl ?_
          refine x_get _ 102 fR_16 dR_riskWith_99 rfl rfl rfl ?_
          refine x_iload 104 dR_riskWith_102 rfl rfl ?_
          refine x_iald 105 dR_riskWith_104 rfl (h_ra 2 (by decide)) (by assumption) ?_
          refine x_if_ne 119 108 dR_riskWith_105 (by decide) rfl (fun h105 => ?_) (fun h105 => ?_)
          · skip
            refine x_lconst 0 120 dR_riskWith_119 rfl rfl ?_
            refine x_ladd 121 dR_riskWith_120 rfl ?_
            refine x_lstore 123 dR_riskWith_121 rfl (by decide) rfl ?_
            refine x_lload 125 dR_riskWith_123 rfl rfl ?_
            refine x_aload_n 126 dR_riskWith_125 rfl rfl ?_
            refine x_get _ 129 fR_16 dR_riskWith_126 rfl rfl rfl ?_
            refine x_iload 131 dR_riskWith_129 rfl rfl ?_
            refine x_iald 132 dR_riskWith_131 rfl (h_ra 2 (by decide)) (by assumption) ?_
            refine x_iconst 1 133 dR_riskWith_132 rfl rfl ?_
            refine x_icmp_ne 147 136 dR_riskWith_133 (by decide) rfl (fun h133 => ?_) (fun h133 => ?_)
            · skip
              refine x_lconst 0 148 dR_riskWith_147 rfl rfl ?_
              refine x_ladd 149 dR_riskWith_148 rfl ?_
              refine x_lstore 151 dR_riskWith_149 rfl (by decide) rfl ?_
              refine x_iinc 154 dR_riskWith_151 rfl rfl (by decide) rfl ?_
              refine x_goto 54 dR_riskWith_154 (by decide) ?_
              exact ih _ _ _ (by rw [i_inc (by omega) (by omega)]; omega) (by rw [i_inc (by omega) (by omega)]; omega) (by rw [← hT]; simp only [riF, if_pos h71, if_pos h81, if_pos h93, if_neg h105, if_neg h133])
            · skip
              refine x_aload_n 137 dR_riskWith_136 rfl rfl ?_
              refine x_get _ 140 fR_25 dR_riskWith_137 rfl rfl rfl ?_
              refine x_iload 142 dR_riskWith_140 rfl rfl ?_
              refine x_iald 143 dR_riskWith_142 rfl (h_ra 5 (by decide)) (by assumption) ?_
              refine x_i2l 144 dR_riskWith_143 rfl ?_
              refine x_goto 148 dR_riskWith_144 (by decide) ?_
              refine x_ladd 149 dR_riskWith_148 rfl ?_
              refine x_lstore 151 dR_riskWith_149 rfl (by decide) rfl ?_
              refine x_iinc 154 dR_riskWith_151 rfl rfl (by decide) rfl ?_
              refine x_goto 54 dR_riskWith_154 (by decide) ?_
              exact ih _ _ _ (by rw [i_inc (by omega) (by omega)]; omega) (by rw [i_inc (by omega) (by omega)]; omega) (by rw [← hT]; simp only [riF, if_pos h71, if_pos h81, if_pos h93, if_neg h105, if_pos h133])
          · skip
            refine x_aload_n 109 dR_riskWith_108 rfl rfl ?_
            refine x_get _ 112 fR_25 dR_riskWith_109 rfl rfl rfl ?_
            refine x_iload 114 dR_riskWith_112 rfl rfl ?_
            refine x_iald 115 dR_riskWith_114 rfl (h_ra 5 (by decide)) (by assumption) ?_
            refine x_i2l 116 dR_riskWith_115 rfl ?_
            refine x_goto 120 dR_riskWith_116 (by decide) ?_
            refine x_ladd 121 dR_riskWith_120 rfl ?_
            refine x_lstore 123 dR_riskWith_121 rfl (by decide) rfl ?_
            refine x_lload 125 dR_riskWith_123 rfl rfl ?_
            refine x_aload_n 126 dR_riskWith_125 rfl rfl ?_
            refine x_get _ 129 fR_16 dR_riskWith_126 rfl rfl rfl ?_
            refine x_iload 131 dR_riskWith_129 rfl rfl ?_
            refine x_iald 132 dR_riskWith_131 rfl (h_ra 2 (by decide)) (by assumption) ?_
            refine x_iconst 1 133 dR_riskWith_132 rfl rfl ?_
            refine x_icmp_ne 147 136 dR_riskWith_133 (by decide) rfl (fun h133 => ?_) (fun h133 => ?_)
            · skip
              refine x_lconst 0 148 dR_riskWith_147 rfl rfl ?_
              refine x_ladd 149 dR_riskWith_148 rfl ?_
              refine x_lstore 151 dR_riskWith_149 rfl (by decide) rfl ?_
              refine x_iinc 154 dR_riskWith_151 rfl rfl (by decide) rfl ?_
              refine x_goto 54 dR_riskWith_154 (by decide) ?_
              exact ih _ _ _ (by rw [i_inc (by omega) (by omega)]; omega) (by rw [i_inc (by omega) (by omega)]; omega) (by rw [← hT]; simp only [riF, if_pos h71, if_pos h81, if_pos h93, if_pos h105, if_neg h133])
            · skip
              refine x_aload_n 137 dR_riskWith_136 rfl rfl ?_
              refine x_get _ 140 fR_25 dR_riskWith_137 rfl rfl rfl ?_
              refine x_iload 142 dR_riskWith_140 rfl rfl ?_
              refine x_iald 143 dR_riskWith_142 rfl (h_ra 5 (by decide)) (by assumption) ?_
              refine x_i2l 144 dR_riskWith_143 rfl ?_
              refine x_goto 148 dR_riskWith_144 (by decide) ?_
              refine x_ladd 149 dR_riskWith_148 rfl ?_
              refine x_lstore 151 dR_riskWith_149 rfl (by decide) rfl ?_
              refine x_iinc 154 dR_riskWith_151 rfl rfl (by decide) rfl ?_
              refine x_goto 54 dR_riskWith_154 (by decide) ?_
              exact ih _ _ _ (by rw [i_inc (by omega) (by omega)]; omega) (by rw [i_inc (by omega) (by omega)]; omega) (by rw [← hT]; simp only [riF, if_pos h71, if_pos h81, if_pos h93, if_pos h105, if_pos h133])
theorem lp_R_rk (hc : MC A) {m : Int32} (hm : vp_in m 5) (i s q : Int32) (T : Int64) : ∀ (n : Nat) (k : Int32) (sm : Int64) (a b c x y z : Option xV), k.toInt + n = 2 → 0 ≤ k.toInt → rkM A m i s q n k sm = T → x_X l G mR_riskWith 1 0 0 [] (x_is (some (xJ T)) (hp N I J P V A B)) 6 [some (xR (some (14, 0))), some (xI m), some (xI i), some (xI s), some (xI q), some (xJ sm), none, some (xI k), a, none, b, none, c, x, y, z] [] (hp N I J P V A B) := by
  intro n
  induction n with
  | zero =>
    intro k sm a b c x y z hk1 hk0 hT
    subst hT
    refine x_iload 8 dR_riskWith_6 rfl rfl ?_
    refine x_iconst 2 9 dR_riskWith_8 rfl rfl ?_
    refine x_icmp_ge 235 12 dR_riskWith_9 (by decide) rfl (fun h9 => ?_) (fun h9 => absurd (show (2 : Int32) ≤ k from by rw [i_le, c2]; omega) h9)
    refine x_lload 237 dR_riskWith_235 rfl rfl ?_
    exact x_lret dR_riskWith_237 rfl ⟨rfl, rfl⟩
  | succ n ih =>
    intro k sm a b c x y z hk1 hk0 hT
    subst hT
    have hk : vp_in k 2 := vp_of (by omega) (by omega)
    have hlt : ¬ (2 : Int32) ≤ k := by rw [i_le, c2]; omega
    have hh := (held_in hm hk).2
    have K : ∀ (bb ss : Int64), rkM A m i s q n (k + Int32.ofInt 1) (sm + rk2 A m k bb ss) = rkM A m i s q (n + 1) k sm → ∀ e : Int32, x_X l G mR_riskWith 1 0 0 [] (x_is (some (xJ (rkM A m i s q (n + 1) k sm))) (hp N I J P V A B)) 157 [some (xR (some (14, 0))), some (xI m), some (xI i), some (xI s), some (xI q), some (xJ sm), none, some (xI k), some (xJ bb), none, some (xJ ss), none, some (xI e), x, y, z] [] (hp N I J P V A B) := by
      intro bb ss hb e
      refine x_aload_n 158 dR_riskWith_157 rfl rfl ?_
      refine x_get _ 161 fR_44 dR_riskWith_158 rfl rfl rfl ?_
      refine x_iconst 2 162 dR_riskWith_161 rfl rfl ?_
      refine x_iload_n 163 dR_riskWith_162 rfl rfl ?_
      refine x_imul 164 dR_riskWith_163 rfl ?_
      refine x_iload 166 dR_riskWith_164 rfl rfl ?_
      refine x_iadd 167 dR_riskWith_166 rfl ?_
      refine x_iald 168 dR_riskWith_167 rfl rfl hh ?_
      refine x_i2l 169 dR_riskWith_168 rfl ?_
      refine x_lload 171 dR_riskWith_169 rfl rfl ?_
      refine x_ladd 172 dR_riskWith_171 rfl ?_
      refine x_fSv 175 (cR_size _) kR_94 oR_size dR_riskWith_172 rfl rfl (by decide) (Nat.le_of_ble_eq_true rfl) ?_
      refine x_lstore 177 dR_riskWith_175 rfl (by decide) rfl ?_
      refine x_aload_n 178 dR_riskWith_177 rfl rfl ?_
      refine x_get _ 181 fR_44 dR_riskWith_178 rfl rfl rfl ?_
      refine x_iconst 2 182 dR_riskWith_181 rfl rfl ?_
      refine x_iload_n 183 dR_riskWith_182 rfl rfl ?_
      refine x_imul 184 dR_riskWith_183 rfl ?_
      refine x_iload 186 dR_riskWith_184 rfl rfl ?_
      refine x_iadd 187 dR_riskWith_186 rfl ?_
      refine x_iald 188 dR_riskWith_187 rfl rfl hh ?_
      refine x_i2l 189 dR_riskWith_188 rfl ?_
      refine x_lload 191 dR_riskWith_189 rfl rfl ?_
      refine x_lsub 192 dR_riskWith_191 rfl ?_
      refine x_fSv 195 (cR_size _) kR_94 oR_size dR_riskWith_192 rfl rfl (by decide) (Nat.le_of_ble_eq_true rfl) ?_
      refine x_lstore 197 dR_riskWith_195 rfl (by decide) rfl ?_
      refine x_lload 199 dR_riskWith_197 rfl rfl ?_
      refine x_iload 201 dR_riskWith_199 rfl rfl ?_
      refine x_if_ne 208 204 dR_riskWith_201 (by decide) rfl (fun h201 => ?_) (fun h201 => ?_)
      · skip
        refine x_iconst 5 209 dR_riskWith_208 rfl rfl ?_
        refine x_i2l 210 dR_riskWith_209 rfl ?_
        refine x_lload 212 dR_riskWith_210 rfl rfl ?_
        refine x_lload 214 dR_riskWith_212 rfl rfl ?_
        refine x_lcmp 215 dR_riskWith_214 rfl ?_
        refine x_if_le 223 218 dR_riskWith_215 (by decide) rfl (fun h215 => ?_) (fun h215 => ?_)
        · skip
          refine x_lload 225 dR_riskWith_223 rfl rfl ?_
          refine x_lmul 226 dR_riskWith_225 rfl ?_
          refine x_ladd 227 dR_riskWith_226 rfl ?_
          refine x_lstore 229 dR_riskWith_227 rfl (by decide) rfl ?_
          refine x_iinc 232 dR_riskWith_229 rfl rfl (by decide) rfl ?_
          refine x_goto 6 dR_riskWith_232 (by decide) ?_
          exact ih _ _ _ _ _ _ _ _ (by rw [i_inc (by omega) (by omega)]; omega) (by rw [i_inc (by omega) (by omega)]; omega) (by rw [← hb]; simp only [rk2, if_neg h201, if_pos h215])
        · skip
          refine x_lload 220 dR_riskWith_218 rfl rfl ?_
          refine x_goto 225 dR_riskWith_220 (by decide) ?_
          refine x_lmul 226 dR_riskWith_225 rfl ?_
          refine x_ladd 227 dR_riskWith_226 rfl ?_
          refine x_lstore 229 dR_riskWith_227 rfl (by decide) rfl ?_
          refine x_iinc 232 dR_riskWith_229 rfl rfl (by decide) rfl ?_
          refine x_goto 6 dR_riskWith_232 (by decide) ?_
          exact ih _ _ _ _ _ _ _ _ (by rw [i_inc (by omega) (by omega)]; omega) (by rw [i_inc (by omega) (by omega)]; omega) (by rw [← hb]; simp only [rk2, if_neg h201, if_neg h215])
      · skip
        refine x_iconst 3 205 dR_riskWith_204 rfl rfl ?_
        refine x_goto 209 dR_riskWith_205 (by decide) ?_
        refine x_i2l 210 dR_riskWith_209 rfl ?_
        refine x_lload 212 dR_riskWith_210 rfl rfl ?_
        refine x_lload 214 dR_riskWith_212 rfl rfl ?_
        refine x_lcmp 215 dR_riskWith_214 rfl ?_
        refine x_if_le 223 218 dR_riskWith_215 (by decide) rfl (fun h215 => ?_) (fun h215 => ?_)
        · skip
          refine x_lload 225 dR_riskWith_223 rfl rfl ?_
          refine x_lmul 226 dR_riskWith_225 rfl ?_
          refine x_ladd 227 dR_riskWith_226 rfl ?_
          refine x_lstore 229 dR_riskWith_227 rfl (by decide) rfl ?_
          refine x_iinc 232 dR_riskWith_229 rfl rfl (by decide) rfl ?_
          refine x_goto 6 dR_riskWith_232 (by decide) ?_
          exact ih _ _ _ _ _ _ _ _ (by rw [i_inc (by omega) (by omega)]; omega) (by rw [i_inc (by omega) (by omega)]; omega) (by rw [← hb]; simp only [rk2, if_pos h201, if_pos h215])
        · skip
          refine x_lload 220 dR_riskWith_218 rfl rfl ?_
          refine x_goto 225 dR_riskWith_220 (by decide) ?_
          refine x_lmul 226 dR_riskWith_225 rfl ?_
          refine x_ladd 227 dR_riskWith_226 rfl ?_
          refine x_lstore 229 dR_riskWith_227 rfl (by decide) rfl ?_
          refine x_iinc 232 dR_riskWith_229 rfl rfl (by decide) rfl ?_
          refine x_goto 6 dR_riskWith_232 (by decide) ?_
          exact ih _ _ _ _ _ _ _ _ (by rw [i_inc (by omega) (by omega)]; omega) (by rw [i_inc (by omega) (by omega)]; omega) (by rw [← hb]; simp only [rk2, if_pos h201, if_neg h215])
    refine x_iload 8 dR_riskWith_6 rfl rfl ?_
    refine x_iconst 2 9 dR_riskWith_8 rfl rfl ?_
    refine x_icmp_ge 235 12 dR_riskWith_9 (by decide) rfl (fun h9 => absurd h9 hlt) (fun h9 => ?_)
    refine x_iload_n 13 dR_riskWith_12 rfl rfl ?_
    refine x_iload 15 dR_riskWith_13 rfl rfl ?_
    refine x_icmp_ne 28 18 dR_riskWith_15 (by decide) rfl (fun h15 => ?_) (fun h15 => ?_)
    · skip
      refine x_lconst 0 29 dR_riskWith_28 rfl rfl ?_
      refine x_lstore 31 dR_riskWith_29 rfl (by decide) rfl ?_
      refine x_iload_n 32 dR_riskWith_31 rfl rfl ?_
      refine x_iload 34 dR_riskWith_32 rfl rfl ?_
      refine x_icmp_ne 48 37 dR_riskWith_34 (by decide) rfl (fun h34 => ?_) (fun h34 => ?_)
      · skip
        refine x_lconst 0 49 dR_riskWith_48 rfl rfl ?_
        refine x_lstore 51 dR_riskWith_49 rfl (by decide) rfl ?_
        refine x_iconst 0 52 dR_riskWith_51 rfl rfl ?_
        refine x_istore 54 dR_riskWith_52 rfl (by decide) rfl ?_
        exact lp_R_ri hc m i s q k sm _ _ _ _ (K _ _ rfl) (A 13 0).toNatClampNeg 0 _ _ (by decide) (mc_sum hc) (by first | (simp only [ri0, if_neg h15, if_neg h34]; done) | contradiction)
      · skip
        refine x_iload_n 38 dR_riskWith_37 rfl rfl ?_
        refine x_iconst 1 39 dR_riskWith_38 rfl rfl ?_
        refine x_icmp_ne 48 42 dR_riskWith_39 (by decide) rfl (fun h39 => ?_) (fun h39 => ?_)
        · skip
          refine x_lconst 0 49 dR_riskWith_48 rfl rfl ?_
          refine x_lstore 51 dR_riskWith_49 rfl (by decide) rfl ?_
          refine x_iconst 0 52 dR_riskWith_51 rfl rfl ?_
          refine x_istore 54 dR_riskWith_52 rfl (by decide) rfl ?_
          exact lp_R_ri hc m i s q k sm _ _ _ _ (K _ _ rfl) (A 13 0).toNatClampNeg 0 _ _ (by decide) (mc_sum hc) (by first | (simp only [ri0, if_neg h15, if_pos h34, if_neg h39]; done) | contradiction)
        · skip
          refine x_iload 44 dR_riskWith_42 rfl rfl ?_
          refine x_i2l 45 dR_riskWith_44 rfl ?_
          refine x_goto 49 dR_riskWith_45 (by decide) ?_
          refine x_lstore 51 dR_riskWith_49 rfl (by decide) rfl ?_
          refine x_iconst 0 52 dR_riskWith_51 rfl rfl ?_
          refine x_istore 54 dR_riskWith_52 rfl (by decide) rfl ?_
          exact lp_R_ri hc m i s q k sm _ _ _ _ (K _ _ rfl) (A 13 0).toNatClampNeg 0 _ _ (by decide) (mc_sum hc) (by first | (simp only [ri0, if_neg h15, if_pos h34, if_pos h39]; done) | contradiction)
    · skip
      refine x_iload_n 19 dR_riskWith_18 rfl rfl ?_
      refine x_if_ne 28 22 dR_riskWith_19 (by decide) rfl (fun h19 => ?_) (fun h19 => ?_)
      · skip
        refine x_lconst 0 29 dR_riskWith_28 rfl rfl ?_
        refine x_lstore 31 dR_riskWith_29 rfl (by decide) rfl ?_
        refine x_iload_n 32 dR_riskWith_31 rfl rfl ?_
        refine x_iload 34 dR_riskWith_32 rfl rfl ?_
        refine x_icmp_ne 48 37 dR_riskWith_34 (by decide) rfl (fun h34 => ?_) (fun h34 => ?_)
        · skip
          refine x_lconst 0 49 dR_riskWith_48 rfl rfl ?_
          refine x_lstore 51 dR_riskWith_49 rfl (by decide) rfl ?_
          refine x_iconst 0 52 dR_riskWith_51 rfl rfl ?_
          refine x_istore 54 dR_riskWith_52 rfl (by decide) rfl ?_
          exact lp_R_ri hc m i s q k sm _ _ _ _ (K _ _ rfl) (A 13 0).toNatClampNeg 0 _ _ (by decide) (mc_sum hc) (by first | (simp only [ri0, if_pos h15, if_neg h19, if_neg h34]; done) | contradiction)
        · skip
          refine x_iload_n 38 dR_riskWith_37 rfl rfl ?_
          refine x_iconst 1 39 dR_riskWith_38 rfl rfl ?_
          refine x_icmp_ne 48 42 dR_riskWith_39 (by decide) rfl (fun h39 => ?_) (fun h39 => ?_)
          · skip
            refine x_lconst 0 49 dR_riskWith_48 rfl rfl ?_
            refine x_lstore 51 dR_riskWith_49 rfl (by decide) rfl ?_
            refine x_iconst 0 52 dR_riskWith_51 rfl rfl ?_
            refine x_istore 54 dR_riskWith_52 rfl (by decide) rfl ?_
            exact lp_R_ri hc m i s q k sm _ _ _ _ (K _ _ rfl) (A 13 0).toNatClampNeg 0 _ _ (by decide) (mc_sum hc) (by first | (simp only [ri0, if_pos h15, if_neg h19, if_pos h34, if_neg h39]; done) | contradiction)
          · skip
            refine x_iload 44 dR_riskWith_42 rfl rfl ?_
            refine x_i2l 45 dR_riskWith_44 rfl ?_
            refine x_goto 49 dR_riskWith_45 (by decide) ?_
            refine x_lstore 51 dR_riskWith_49 rfl (by decide) rfl ?_
            refine x_iconst 0 52 dR_riskWith_51 rfl rfl ?_
            refine x_istore 54 dR_riskWith_52 rfl (by decide) rfl ?_
            exact lp_R_ri hc m i s q k sm _ _ _ _ (K _ _ rfl) (A 13 0).toNatClampNeg 0 _ _ (by decide) (mc_sum hc) (by first | (simp only [ri0, if_pos h15, if_neg h19, if_pos h34, if_pos h39]; done) | contradiction)
      · skip
        refine x_iload 24 dR_riskWith_22 rfl rfl ?_
        refine x_i2l 25 dR_riskWith_24 rfl ?_
        refine x_goto 29 dR_riskWith_25 (by decide) ?_
        refine x_lstore 31 dR_riskWith_29 rfl (by decide) rfl ?_
        refine x_iload_n 32 dR_riskWith_31 rfl rfl ?_
        refine x_iload 34 dR_riskWith_32 rfl rfl ?_
        refine x_icmp_ne 48 37 dR_riskWith_34 (by decide) rfl (fun h34 => ?_) (fun h34 => ?_)
        · skip
          refine x_lconst 0 49 dR_riskWith_48 rfl rfl ?_
          refine x_lstore 51 dR_riskWith_49 rfl (by decide) rfl ?_
          refine x_iconst 0 52 dR_riskWith_51 rfl rfl ?_
          refine x_istore 54 dR_riskWith_52 rfl (by decide) rfl ?_
          exact lp_R_ri hc m i s q k sm _ _ _ _ (K _ _ rfl) (A 13 0).toNatClampNeg 0 _ _ (by decide) (mc_sum hc) (by first | (simp only [ri0, if_pos h15, if_pos h19, if_neg h34]; done) | contradiction)
        · skip
          refine x_iload_n 38 dR_riskWith_37 rfl rfl ?_
          refine x_iconst 1 39 dR_riskWith_38 rfl rfl ?_
          refine x_icmp_ne 48 42 dR_riskWith_39 (by decide) rfl (fun h39 => ?_) (fun h39 => ?_)
          · skip
            refine x_lconst 0 49 dR_riskWith_48 rfl rfl ?_
            refine x_lstore 51 dR_riskWith_49 rfl (by decide) rfl ?_
            refine x_iconst 0 52 dR_riskWith_51 rfl rfl ?_
            refine x_istore 54 dR_riskWith_52 rfl (by decide) rfl ?_
            exact lp_R_ri hc m i s q k sm _ _ _ _ (K _ _ rfl) (A 13 0).toNatClampNeg 0 _ _ (by decide) (mc_sum hc) (by first | (simp only [ri0, if_pos h15, if_pos h19, if_pos h34, if_neg h39]; done) | contradiction)
          · skip
            refine x_iload 44 dR_riskWith_42 rfl rfl ?_
            refine x_i2l 45 dR_riskWith_44 rfl ?_
            refine x_goto 49 dR_riskWith_45 (by decide) ?_
            refine x_lstore 51 dR_riskWith_49 rfl (by decide) rfl ?_
            refine x_iconst 0 52 dR_riskWith_51 rfl rfl ?_
            refine x_istore 54 dR_riskWith_52 rfl (by decide) rfl ?_
            exact lp_R_ri hc m i s q k sm _ _ _ _ (K _ _ rfl) (A 13 0).toNatClampNeg 0 _ _ (by decide) (mc_sum hc) (by first | (simp only [ri0, if_pos h15, if_pos h19, if_pos h34, if_pos h39]; done) | contradiction)
theorem cR_riskWith (hc : MC A) {m : Int32} (hm : vp_in m 5) (i s q : Int32) : x_C l G mR_riskWith 1 0 0 [xR (some (14, 0)), xI m, xI i, xI s, xI q] (hp N I J P V A B) [] (x_is (some (xJ (rskM A m i s q))) (hp N I J P V A B)) := by
  refine x_C.at [some (xR (some (14, 0))), some (xI m), some (xI i), some (xI s), some (xI q), none, none, none, none, none, none, none, none, none, none, none] rfl (Nat.le_of_ble_eq_true rfl) rfl ?_
  refine x_lconst 0 1 dR_riskWith_0 rfl rfl ?_
  refine x_lstore 3 dR_riskWith_1 rfl (by decide) rfl ?_
  refine x_iconst 0 4 dR_riskWith_3 rfl rfl ?_
  refine x_istore 6 dR_riskWith_4 rfl (by decide) rfl ?_
  exact lp_R_rk hc hm i s q _ 2 0 0 _ _ _ _ _ _ (by decide) (by decide) rfl
def riM (A : Nat → Nat → Int32) (m : Int32) : Int64 := if out m 0 4 = 0 then rskM A m 0 0 0 else 0
theorem cR_risk (hc : MC A) (m : Int32) : x_C l G mR_risk 2 0 0 [xR (some (14, 0)), xI m] (hp N I J P V A B) [] (x_is (some (xJ (riM A m))) (hp N I J P V A B)) := by
  refine x_C.at [some (xR (some (14, 0))), some (xI m)] rfl (Nat.le_of_ble_eq_true rfl) rfl ?_
  refine x_iload_n 1 dR_risk_0 rfl rfl ?_
  refine x_fSv 4 (cR_noMember _) kR_101 oR_noMember dR_risk_1 rfl rfl (by decide) (Nat.le_of_ble_eq_true rfl) ?_
  refine x_if_eq 11 7 dR_risk_4 (by decide) rfl (fun h4 => ?_) (fun h4 => ?_)
  · skip
    refine x_aload_n 12 dR_risk_11 rfl rfl ?_
    refine x_iload_n 13 dR_risk_12 rfl rfl ?_
    refine x_iconst 0 14 dR_risk_13 rfl rfl ?_
    refine x_iconst 0 15 dR_risk_14 rfl rfl ?_
    refine x_iconst 0 16 dR_risk_15 rfl rfl ?_
    refine x_fVv 19 (cR_riskWith hc (vO5 h4) 0 0 0) kR_107 oR_riskWith rfl rfl dR_risk_16 rfl rfl (by decide) (Nat.le_of_ble_eq_true rfl) ?_
    exact x_lret dR_risk_19 rfl ⟨by simp only [riM, if_pos h4], rfl⟩
  · skip
    refine x_lconst 0 8 dR_risk_7 rfl rfl ?_
    refine x_goto 19 dR_risk_8 (by decide) ?_
    exact x_lret dR_risk_19 rfl ⟨by simp only [riM, if_neg h4], rfl⟩
def dpM (A : Nat → Nat → Int32) (B : Nat → Nat → Int64) (m a : Int32) : Int32 × mAB := if out m 0 4 = 0 then (if out a (-1000000) 1000000 = 0 then (if 0 ≤ a then (1, (A, sj B 0 m.toNatClampNeg (B 0 m.toNatClampNeg + a.toInt64))) else if 0 ≤ lg_cmp (B 0 m.toNatClampNeg + a.toInt64) (rskM A m 0 0 0) then (1, (A, sj B 0 m.toNatClampNeg (B 0 m.toNatClampNeg + a.toInt64))) else (0, (A, B))) else (0, (A, B))) else (0, (A, B))
theorem cR_deposit (hc : MC A) (m a : Int32) : x_C l G mR_deposit 2 0 0 [xR (some (14, 0)), xI m, xI a] (hp N I J P V A B) [] (QM N I J P V (dpM A B m a)) := by
  refine x_C.at [some (xR (some (14, 0))), some (xI m), some (xI a)] rfl (Nat.le_of_ble_eq_true rfl) rfl ?_
  refine x_iload_n 1 dR_deposit_0 rfl rfl ?_
  refine x_fSv 4 (cR_noMember _) kR_101 oR_noMember dR_deposit_1 rfl rfl (by decide) (Nat.le_of_ble_eq_true rfl) ?_
  refine x_if_ne 43 7 dR_deposit_4 (by decide) rfl (fun h4 => ?_) (fun h4 => ?_)
  · skip
    refine x_iconst 0 44 dR_deposit_43 rfl rfl ?_
    exact x_iret dR_deposit_44 rfl rfl (QM.ig h4 (⟨rfl, rfl⟩))
  · skip
    refine x_iload_n 8 dR_deposit_7 rfl rfl ?_
    refine x_ldc (-1000000) 10 dR_deposit_8 rfl cR_deposit_105 ?_
    refine x_ldc (1000000) 12 dR_deposit_10 rfl cR_deposit_106 ?_
    refine x_fSv 15 (cR_outside _ _ _) kR_98 oR_outside dR_deposit_12 rfl rfl (by decide) (Nat.le_of_ble_eq_true rfl) ?_
    refine x_if_ne 43 18 dR_deposit_15 (by decide) rfl (fun h15 => ?_) (fun h15 => ?_)
    · skip
      refine x_iconst 0 44 dR_deposit_43 rfl rfl ?_
      exact x_iret dR_deposit_44 rfl rfl (QM.ip h4 (QM.ig h15 (⟨rfl, rfl⟩)))
    · skip
      refine x_iload_n 19 dR_deposit_18 rfl rfl ?_
      refine x_if_ge 45 22 dR_deposit_19 (by decide) rfl (fun h19 => ?_) (fun h19 => ?_)
      · skip
        refine x_aload_n 46 dR_deposit_45 rfl rfl ?_
        refine x_get _ 49 fR_37 dR_deposit_46 rfl rfl rfl ?_
        refine x_iload_n 50 dR_deposit_49 rfl rfl ?_
        refine x_dup2 51 dR_deposit_50 rfl rfl rfl ?_
        refine x_lald 52 dR_deposit_51 rfl (h_rl 0 (by decide)) (vO5 h4) ?_
        refine x_iload_n 53 dR_deposit_52 rfl rfl ?_
        refine x_i2l 54 dR_deposit_53 rfl ?_
        refine x_ladd 55 dR_deposit_54 rfl ?_
        refine y_rl0 56 dR_deposit_55 rfl (vO5 h4) ?_
        refine x_iconst 1 57 dR_deposit_56 rfl rfl ?_
        exact x_iret dR_deposit_57 rfl rfl (QM.ip h4 (QM.ip h15 (QM.ip h19 (⟨rfl, rfl⟩))))
      · skip
        refine x_aload_n 23 dR_deposit_22 rfl rfl ?_
        refine x_get _ 26 fR_37 dR_deposit_23 rfl rfl rfl ?_
        refine x_iload_n 27 dR_deposit_26 rfl rfl ?_
        refine x_lald 28 dR_deposit_27 rfl (h_rl 0 (by decide)) (vO5 h4) ?_
        refine x_iload_n 29 dR_deposit_28 rfl rfl ?_
        refine x_i2l 30 dR_deposit_29 rfl ?_
        refine x_ladd 31 dR_deposit_30 rfl ?_
        refine x_aload_n 32 dR_deposit_31 rfl rfl ?_
        refine x_iload_n 33 dR_deposit_32 rfl rfl ?_
        refine x_iconst 0 34 dR_deposit_33 rfl rfl ?_
        refine x_iconst 0 35 dR_deposit_34 rfl rfl ?_
        refine x_iconst 0 36 dR_deposit_35 rfl rfl ?_
        refine x_fVv 39 (cR_riskWith hc (vO5 h4) 0 0 0) kR_107 oR_riskWith rfl rfl dR_deposit_36 rfl rfl (by decide) (Nat.le_of_ble_eq_true rfl) ?_
        refine x_lcmp 40 dR_deposit_39 rfl ?_
        refine x_if_ge 45 43 dR_deposit_40 (by decide) rfl (fun h40 => ?_) (fun h40 => ?_)
        · skip
          refine x_aload_n 46 dR_deposit_45 rfl rfl ?_
          refine x_get _ 49 fR_37 dR_deposit_46 rfl rfl rfl ?_
          refine x_iload_n 50 dR_deposit_49 rfl rfl ?_
          refine x_dup2 51 dR_deposit_50 rfl rfl rfl ?_
          refine x_lald 52 dR_deposit_51 rfl (h_rl 0 (by decide)) (vO5 h4) ?_
          refine x_iload_n 53 dR_deposit_52 rfl rfl ?_
          refine x_i2l 54 dR_deposit_53 rfl ?_
          refine x_ladd 55 dR_deposit_54 rfl ?_
          refine y_rl0 56 dR_deposit_55 rfl (vO5 h4) ?_
          refine x_iconst 1 57 dR_deposit_56 rfl rfl ?_
          exact x_iret dR_deposit_57 rfl rfl (QM.ip h4 (QM.ip h15 (QM.ig h19 (QM.ip h40 (⟨rfl, rfl⟩)))))
        · skip
          refine x_iconst 0 44 dR_deposit_43 rfl rfl ?_
          exact x_iret dR_deposit_44 rfl rfl (QM.ip h4 (QM.ip h15 (QM.ig h19 (QM.ig h40 (⟨rfl, rfl⟩)))))
end MD
