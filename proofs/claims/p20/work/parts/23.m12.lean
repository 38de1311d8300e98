section MC
variable {l : Launch} {G : xG} {N : Nat} {I : Nat → Nat → Int32} {J : Nat → Nat → Int64} {P : Nat → Nat → Option xQ} {V : Nat → Nat → Int32} {A : Nat → Nat → Int32} {B : Nat → Nat → Int64}
variable {h : xH}
theorem h_ra (k : Nat) (hk : k < 9) : hp N I J P V A B (15, k) = some (.inl (0, 120, .inl (A k))) := if_pos hk
theorem h_rl (k : Nat) (hk : k < 2) : hp N I J P V A B (16, k) = some (.inl (1, 5, .inr (.inl (B k)))) := if_pos hk
abbrev wts (A : Nat → Nat → Int32) (k : Nat) (i s : Int32) : Prop := A 7 k = 0 ∧ A 1 k = i ∧ A 2 k = s
def shs (A : Nat → Nat → Int32) (k : Nat) : Int32 := if A 3 k = 5 then A 6 k else A 5 k
abbrev btm (s a b : Int32) : Prop := (s = 0 ∧ ¬ a ≤ b) ∨ (¬ s = 0 ∧ ¬ b ≤ a)
abbrev gdm (k s b p : Int32) : Prop := k = 3 ∨ (s = 0 ∧ ¬ b < p) ∨ (¬ s = 0 ∧ ¬ p < b)
abbrev out (v a b : Int32) : Int32 := b01 (v < a ∨ ¬ v ≤ b)
def i_dis (a b : Int32) : Int32 := if b ≤ a then a - b else b - a
def j_abs (v : Int64) : Int64 := if 0 ≤ lg_cmp v 0 then v else -v
theorem vO {v : Int32} {n : Nat} {b : Int32} (h : out v 0 b = 0) (hb : b.toInt < n) : vp_in v n := by
  have := b01_z.mp h
  have h1 : ¬ v < 0 := fun q => this (Or.inl q)
  have h2 : v ≤ b := Decidable.byContradiction fun q => this (Or.inr q)
  rw [i_lt] at h1
  rw [i_le] at h2
  have : (0 : Int32).toInt = 0 := by decide
  exact vp_of (by omega) (by omega)
theorem vO2 {v : Int32} (h : out v 0 1 = 0) : vp_in v 2 := vO h (by decide)
theorem vO5 {v : Int32} (h : out v 0 4 = 0) : vp_in v 5 := vO h (by decide)
theorem cR_waits {x : Int32} (hx : vp_in x 120) (i s : Int32) : x_C l G mR_waits 0 0 0 [xR (some (14, 0)), xI x, xI i, xI s] (hp N I J P V A B) [] (x_is (some (xI (b01 (wts A x.toNatClampNeg i s)))) (hp N I J P V A B)) := by
  refine x_C.at [some (xR (some (14, 0))), some (xI x), some (xI i), some (xI s)] rfl (Nat.le_of_ble_eq_true rfl) rfl ?_
  refine x_aload_n 1 dR_waits_0 rfl rfl ?_
  refine x_get _ 4 fR_31 dR_waits_1 rfl rfl rfl ?_
  refine x_iload_n 5 dR_waits_4 rfl rfl ?_
  refine x_iald 6 dR_waits_5 rfl (h_ra 7 (by decide)) (by assumption) ?_
  refine x_if_ne 33 9 dR_waits_6 (by decide) rfl (fun h6 => ?_) (fun h6 => ?_)
  · skip
    refine x_iconst 0 34 dR_waits_33 rfl rfl ?_
    exact x_iret dR_waits_34 rfl rfl ⟨congrArg (fun v => some (xI v)) (b01_f (by simp [h6, wts])).symm, rfl⟩
  · skip
    refine x_aload_n 10 dR_waits_9 rfl rfl ?_
    refine x_get _ 13 fR_13 dR_waits_10 rfl rfl rfl ?_
    refine x_iload_n 14 dR_waits_13 rfl rfl ?_
    refine x_iald 15 dR_waits_14 rfl (h_ra 1 (by decide)) (by assumption) ?_
    refine x_iload_n 16 dR_waits_15 rfl rfl ?_
    refine x_icmp_ne 33 19 dR_waits_16 (by decide) rfl (fun h16 => ?_) (fun h16 => ?_)
    · skip
      refine x_iconst 0 34 dR_waits_33 rfl rfl ?_
      exact x_iret dR_waits_34 rfl rfl ⟨congrArg (fun v => some (xI v)) (b01_f (by simp [h6, h16, wts])).symm, rfl⟩
    · skip
      refine x_aload_n 20 dR_waits_19 rfl rfl ?_
      refine x_get _ 23 fR_16 dR_waits_20 rfl rfl rfl ?_
      refine x_iload_n 24 dR_waits_23 rfl rfl ?_
      refine x_iald 25 dR_waits_24 rfl (h_ra 2 (by decide)) (by assumption) ?_
      refine x_iload_n 26 dR_waits_25 rfl rfl ?_
      refine x_icmp_ne 33 29 dR_waits_26 (by decide) rfl (fun h26 => ?_) (fun h26 => ?_)
      · skip
        refine x_iconst 0 34 dR_waits_33 rfl rfl ?_
        exact x_iret dR_waits_34 rfl rfl ⟨congrArg (fun v => some (xI v)) (b01_f (by simp [h6, h16, h26, wts])).symm, rfl⟩
      · skip
        refine x_iconst 1 30 dR_waits_29 rfl rfl ?_
        refine x_goto 34 dR_waits_30 (by decide) ?_
        exact x_iret dR_waits_34 rfl rfl ⟨congrArg (fun v => some (xI v)) (b01_t (by simp [h6, h16, h26, wts])).symm, rfl⟩
theorem cR_shows {x : Int32} (hx : vp_in x 120) : x_C l G mR_shows 0 0 0 [xR (some (14, 0)), xI x] (hp N I J P V A B) [] (x_is (some (xI (shs A x.toNatClampNeg))) (hp N I J P V A B)) := by
  refine x_C.at [some (xR (some (14, 0))), some (xI x)] rfl (Nat.le_of_ble_eq_true rfl) rfl ?_
  refine x_aload_n 1 dR_shows_0 rfl rfl ?_
  refine x_get _ 4 fR_19 dR_shows_1 rfl rfl rfl ?_
  refine x_iload_n 5 dR_shows_4 rfl rfl ?_
  refine x_iald 6 dR_shows_5 rfl (h_ra 3 (by decide)) (by assumption) ?_
  refine x_iconst 5 7 dR_shows_6 rfl rfl ?_
  refine x_icmp_ne 19 10 dR_shows_7 (by decide) rfl (fun h7 => ?_) (fun h7 => ?_)
  · skip
    refine x_aload_n 20 dR_shows_19 rfl rfl ?_
    refine x_get _ 23 fR_25 dR_shows_20 rfl rfl rfl ?_
    refine x_iload_n 24 dR_shows_23 rfl rfl ?_
    refine x_iald 25 dR_shows_24 rfl (h_ra 5 (by decide)) (by assumption) ?_
    exact x_iret dR_shows_25 rfl rfl ⟨by simp only [shs, if_neg h7], rfl⟩
  · skip
    refine x_aload_n 11 dR_shows_10 rfl rfl ?_
    refine x_get _ 14 fR_28 dR_shows_11 rfl rfl rfl ?_
    refine x_iload_n 15 dR_shows_14 rfl rfl ?_
    refine x_iald 16 dR_shows_15 rfl (h_ra 6 (by decide)) (by assumption) ?_
    refine x_goto 25 dR_shows_16 (by decide) ?_
    exact x_iret dR_shows_25 rfl rfl ⟨by simp only [shs, if_pos h7], rfl⟩
theorem cR_better (s a b : Int32) : x_C l G mR_better 0 0 0 [xI s, xI a, xI b] (h) [] (x_is (some (xI (b01 (btm s a b)))) h) := by
  refine x_C.at [some (xI s), some (xI a), some (xI b)] rfl (Nat.le_of_ble_eq_true rfl) rfl ?_
  refine x_iload_n 1 dR_better_0 rfl rfl ?_
  refine x_if_ne 17 4 dR_better_1 (by decide) rfl (fun h1 => ?_) (fun h1 => ?_)
  · skip
    refine x_iload_n 18 dR_better_17 rfl rfl ?_
    refine x_iload_n 19 dR_better_18 rfl rfl ?_
    refine x_icmp_ge 26 22 dR_better_19 (by decide) rfl (fun h19 => ?_) (fun h19 => ?_)
    · skip
      refine x_iconst 0 27 dR_better_26 rfl rfl ?_
      exact x_iret dR_better_27 rfl rfl ⟨congrArg (fun v => some (xI v)) (b01_f (by simp [h1, h19, btm])).symm, rfl⟩
    · skip
      refine x_iconst 1 23 dR_better_22 rfl rfl ?_
      refine x_goto 27 dR_better_23 (by decide) ?_
      exact x_iret dR_better_27 rfl rfl ⟨congrArg (fun v => some (xI v)) (b01_t (by simp [h1, h19, btm])).symm, rfl⟩
  · skip
    refine x_iload_n 5 dR_better_4 rfl rfl ?_
    refine x_iload_n 6 dR_better_5 rfl rfl ?_
    refine x_icmp_le 13 9 dR_better_6 (by decide) rfl (fun h6 => ?_) (fun h6 => ?_)
    · skip
      refine x_iconst 0 14 dR_better_13 rfl rfl ?_
      refine x_goto 27 dR_better_14 (by decide) ?_
      exact x_iret dR_better_27 rfl rfl ⟨congrArg (fun v => some (xI v)) (b01_f (by simp [h1, h6, btm])).symm, rfl⟩
    · skip
      refine x_iconst 1 10 dR_better_9 rfl rfl ?_
      refine x_goto 27 dR_better_10 (by decide) ?_
      exact x_iret dR_better_27 rfl rfl ⟨congrArg (fun v => some (xI v)) (b01_t (by simp [h1, h6, btm])).symm, rfl⟩
theorem cR_good (k s b p : Int32) : x_C l G mR_good 0 0 0 [xI k, xI s, xI b, xI p] (h) [] (x_is (some (xI (b01 (gdm k s b p)))) h) := by
  refine x_C.at [some (xI k), some (xI s), some (xI b), some (xI p)] rfl (Nat.le_of_ble_eq_true rfl) rfl ?_
  refine x_iload_n 1 dR_good_0 rfl rfl ?_
  refine x_iconst 3 2 dR_good_1 rfl rfl ?_
  refine x_icmp_eq 22 5 dR_good_2 (by decide) rfl (fun h2 => ?_) (fun h2 => ?_)
  · skip
    refine x_iconst 1 23 dR_good_22 rfl rfl ?_
    refine x_goto 27 dR_good_23 (by decide) ?_
    exact x_iret dR_good_27 rfl rfl ⟨congrArg (fun v => some (xI v)) (b01_t (by simp [h2, gdm])).symm, rfl⟩
  · skip
    refine x_iload_n 6 dR_good_5 rfl rfl ?_
    refine x_if_ne 17 9 dR_good_6 (by decide) rfl (fun h6 => ?_) (fun h6 => ?_)
    · skip
      refine x_iload_n 18 dR_good_17 rfl rfl ?_
      refine x_iload_n 19 dR_good_18 rfl rfl ?_
      refine x_icmp_lt 26 22 dR_good_19 (by decide) rfl (fun h19 => ?_) (fun h19 => ?_)
      · skip
        refine x_iconst 0 27 dR_good_26 rfl rfl ?_
        exact x_iret dR_good_27 rfl rfl ⟨congrArg (fun v => some (xI v)) (b01_f (by simp [h2, h6, h19, gdm])).symm, rfl⟩
      · skip
        refine x_iconst 1 23 dR_good_22 rfl rfl ?_
        refine x_goto 27 dR_good_23 (by decide) ?_
        exact x_iret dR_good_27 rfl rfl ⟨congrArg (fun v => some (xI v)) (b01_t (by simp [h2, h6, h19, gdm])).symm, rfl⟩
    · skip
      refine x_iload_n 10 dR_good_9 rfl rfl ?_
      refine x_iload_n 11 dR_good_10 rfl rfl ?_
      refine x_icmp_gt 26 14 dR_good_11 (by decide) rfl (fun h11 => ?_) (fun h11 => ?_)
      · skip
        refine x_iconst 0 27 dR_good_26 rfl rfl ?_
        exact x_iret dR_good_27 rfl rfl ⟨congrArg (fun v => some (xI v)) (b01_f (by simp [h2, h6, h11, gdm])).symm, rfl⟩
      · skip
        refine x_goto 22 dR_good_14 (by decide) ?_
        refine x_iconst 1 23 dR_good_22 rfl rfl ?_
        refine x_goto 27 dR_good_23 (by decide) ?_
        exact x_iret dR_good_27 rfl rfl ⟨congrArg (fun v => some (xI v)) (b01_t (by simp [h2, h6, h11, gdm])).symm, rfl⟩
theorem cR_distance (a b : Int32) : x_C l G mR_distance 0 0 0 [xI a, xI b] (h) [] (x_is (some (xI (i_dis a b))) h) := by
  refine x_C.at [some (xI a), some (xI b)] rfl (Nat.le_of_ble_eq_true rfl) rfl ?_
  refine x_iload_n 1 dR_distance_0 rfl rfl ?_
  refine x_iload_n 2 dR_distance_1 rfl rfl ?_
  refine x_icmp_ge 11 5 dR_distance_2 (by decide) rfl (fun h2 => ?_) (fun h2 => ?_)
  · skip
    refine x_iload_n 12 dR_distance_11 rfl rfl ?_
    refine x_iload_n 13 dR_distance_12 rfl rfl ?_
    refine x_isub 14 dR_distance_13 rfl ?_
    exact x_iret dR_distance_14 rfl rfl ⟨by simp only [i_dis, if_pos h2], rfl⟩
  · skip
    refine x_iload_n 6 dR_distance_5 rfl rfl ?_
    refine x_iload_n 7 dR_distance_6 rfl rfl ?_
    refine x_isub 8 dR_distance_7 rfl ?_
    refine x_goto 14 dR_distance_8 (by decide) ?_
    exact x_iret dR_distance_14 rfl rfl ⟨by simp only [i_dis, if_neg h2], rfl⟩
theorem cR_size (v : Int64) : x_C l G mR_size 0 0 0 [xJ v] (h) [] (x_is (some (xJ (j_abs v))) h) := by
  refine x_C.at [some (xJ v), none] rfl (Nat.le_of_ble_eq_true rfl) rfl ?_
  refine x_lload_n 1 dR_size_0 rfl rfl ?_
  refine x_lconst 0 2 dR_size_1 rfl rfl ?_
  refine x_lcmp 3 dR_size_2 rfl ?_
  refine x_if_ge 11 6 dR_size_3 (by decide) rfl (fun h3 => ?_) (fun h3 => ?_)
  · skip
    refine x_lload_n 12 dR_size_11 rfl rfl ?_
    exact x_lret dR_size_12 rfl ⟨by simp only [j_abs, if_pos h3], rfl⟩
  · skip
    refine x_lload_n 7 dR_size_6 rfl rfl ?_
    refine x_lneg 8 dR_size_7 rfl ?_
    refine x_goto 12 dR_size_8 (by decide) ?_
    exact x_lret dR_size_12 rfl ⟨by simp only [j_abs, if_neg h3], rfl⟩
theorem cR_noMember (m : Int32) : x_C l G mR_noMember 1 0 0 [xI m] (h) [] (x_is (some (xI (out m 0 4))) h) := by
  refine x_C.at [some (xI m)] rfl (Nat.le_of_ble_eq_true rfl) rfl ?_
  refine x_iload_n 1 dR_noMember_0 rfl rfl ?_
  refine x_iconst 0 2 dR_noMember_1 rfl rfl ?_
  refine x_iconst 4 3 dR_noMember_2 rfl rfl ?_
  refine x_fSv 6 (cR_outside _ _ _) kR_98 oR_outside dR_noMember_3 rfl rfl (by decide) (Nat.le_of_ble_eq_true rfl) ?_
  exact x_iret dR_noMember_6 rfl (b01_n _) ⟨rfl, rfl⟩
def MC (A : Nat → Nat → Int32) : Prop := 0 ≤ (A 13 0).toInt ∧ (A 13 0).toInt ≤ 120
def frS (A : Nat → Nat → Int32) (i s o f : Int32) : Int32 := if b01 (wts A o.toNatClampNeg i s) = 0 then f else if f < 0 then o else if b01 (btm s (A 4 o.toNatClampNeg) (A 4 f.toNatClampNeg)) = 0 then (if A 4 o.toNatClampNeg = A 4 f.toNatClampNeg then (if A 8 f.toNatClampNeg ≤ A 8 o.toNatClampNeg then f else o) else f) else o
def frF (A : Nat → Nat → Int32) (i s : Int32) : Nat → Int32 → Int32 → Int32
  | 0, _, f => f
  | n + 1, o, f => frF A i s n (o + Int32.ofInt 1) (frS A i s o f)
theorem frS_cs (A : Nat → Nat → Int32) (i s o f : Int32) : frS A i s o f = f ∨ frS A i s o f = o := by
  unfold frS
  split
  · exact Or.inl rfl
  · split
    · exact Or.inr rfl
    · split
      · split
        · split
          · exact Or.inl rfl
          · exact Or.inr rfl
        · exact Or.inl rfl
      · exact Or.inr rfl
def fr (A : Nat → Nat → Int32) (i s : Int32) : Int32 := frF A i s (A 13 0).toNatClampNeg 0 (-1)
theorem frF_rng (A : Nat → Nat → Int32) (i s : Int32) : ∀ (n : Nat) (o f : Int32), 0 ≤ o.toInt → o.toInt + n ≤ 120 → -1 ≤ f.toInt → f.toInt < o.toInt + n → (-1 ≤ f.toInt ∧ f.toInt < o.toInt) → -1 ≤ (frF A i s n o f).toInt ∧ (frF A i s n o f).toInt < o.toInt + n := by
  intro n
  induction n with
  | zero => intro o f h0 h1 h2 h3 h4; exact ⟨h4.1, by have := h4.2; simp only [frF]; omega⟩
  | succ n ih =>
    intro o f h0 h1 h2 h3 h4
    have e := i_inc (p := o) (by omega) (by omega)
    have hr : -1 ≤ (frS A i s o f).toInt ∧ (frS A i s o f).toInt < o.toInt + 1 := by
      rcases frS_cs A i s o f with q | q
      · rw [q]; omega
      · rw [q]; omega
    have := ih (o + Int32.ofInt 1) (frS A i s o f) (by rw [e]; omega) (by rw [e]; omega) hr.1 (by rw [e]; omega) (by rw [e]; exact hr)
    unfold frF
    rw [e] at this
    omega
theorem fr_rng {A : Nat → Nat → Int32} (hc : MC A) (i s : Int32) : -1 ≤ (fr A i s).toInt ∧ (fr A i s).toInt < (A 13 0).toInt := by
  have e : ((A 13 0).toNatClampNeg : Int) = (A 13 0).toInt := by rw [i_nat]; have := hc.1; omega
  have z0 : (0 : Int32).toInt = 0 := by decide
  have z1 : (-1 : Int32).toInt = -1 := by decide
  have := hc.2
  have := frF_rng A i s (A 13 0).toNatClampNeg 0 (-1) (by omega) (by omega) (by omega) (by omega) (by omega)
  unfold fr
  omega
theorem lp_R_front (hc : MC A) (i s T : Int32) : ∀ (n : Nat) (e f : Int32), 0 ≤ e.toInt → e.toInt + n = (A 13 0).toInt → (-1 ≤ f.toInt ∧ f.toInt < e.toInt) → frF A i s n e f = T → x_X l G mR_front 1 0 0 [] (x_is (some (xI T)) (hp N I J P V A B)) 5 [some (xR (some (14, 0))), some (xI i), some (xI s), some (xI f), some (xI e)] [] (hp N I J P V A B) := by
  intro n
  induction n with
  | zero =>
    intro e f he0 he1 hf hT
    subst hT
    refine x_iload 7 dR_front_5 rfl rfl ?_
    refine x_aload_n 8 dR_front_7 rfl rfl ?_
    refine x_get _ 11 fR_57 dR_front_8 rfl rfl rfl ?_
    refine x_icmp_ge 90 14 dR_front_11 (by decide) rfl (fun h11 => ?_) (fun h11 => absurd (show A 13 0 ≤ e from by rw [i_le]; omega) h11)
    refine x_iload_n 91 dR_front_90 rfl rfl ?_
    exact x_iret dR_front_91 rfl rfl ⟨rfl, rfl⟩
  | succ n ih =>
    intro e f he0 he1 hf hT
    subst hT
    have hc2 := hc.2
    have hin : vp_in e 120 := vp_of (by omega) (by have := hc.2; omega)
    have hlt : ¬ A 13 0 ≤ e := by rw [i_le]; omega
    refine x_iload 7 dR_front_5 rfl rfl ?_
    refine x_aload_n 8 dR_front_7 rfl rfl ?_
    refine x_get _ 11 fR_57 dR_front_8 rfl rfl rfl ?_
    refine x_icmp_ge 90 14 dR_front_11 (by decide) rfl (fun h11 => absurd h11 hlt) (fun h11 => ?_)
    refine x_aload_n 15 dR_front_14 rfl rfl ?_
    refine x_iload 17 dR_front_15 rfl rfl ?_
    refine x_iload_n 18 dR_front_17 rfl rfl ?_
    refine x_iload_n 19 dR_front_18 rfl rfl ?_
    refine x_fVv 22 (cR_waits hin _ _) kR_61 oR_waits rfl rfl dR_front_19 rfl rfl (by decide) (Nat.le_of_ble_eq_true rfl) ?_
    refine x_if_eq 84 25 dR_front_22 (by decide) rfl (fun h22 => ?_) (fun h22 => ?_)
    · skip
      refine x_iinc 87 dR_front_84 rfl rfl (by decide) rfl ?_
      refine x_goto 5 dR_front_87 (by decide) ?_
      exact ih _ _ (by rw [i_inc (by omega) (by omega)]; omega) (by rw [i_inc (by omega) (by omega)]; omega) (by rw [i_inc (by omega) (by omega)]; omega) (by simp only [frF, frS, if_pos h22])
    · skip
      refine x_iload_n 26 dR_front_25 rfl rfl ?_
      refine x_if_lt 81 29 dR_front_26 (by decide) rfl (fun h26 => ?_) (fun h26 => ?_)
      · skip
        refine x_iload 83 dR_front_81 rfl rfl ?_
        refine x_istore_n 84 dR_front_83 rfl (by decide) rfl ?_
        refine x_iinc 87 dR_front_84 rfl rfl (by decide) rfl ?_
        refine x_goto 5 dR_front_87 (by decide) ?_
        exact ih _ _ (by rw [i_inc (by omega) (by omega)]; omega) (by rw [i_inc (by omega) (by omega)]; omega) (by rw [i_inc (by omega) (by omega)]; omega) (by simp only [frF, frS, if_neg h22, if_pos h26])
      · skip
        refine x_iload_n 30 dR_front_29 rfl rfl ?_
        refine x_aload_n 31 dR_front_30 rfl rfl ?_
        refine x_get _ 34 fR_22 dR_front_31 rfl rfl rfl ?_
        refine x_iload 36 dR_front_34 rfl rfl ?_
        refine x_iald 37 dR_front_36 rfl (h_ra 4 (by decide)) (by assumption) ?_
        refine x_aload_n 38 dR_front_37 rfl rfl ?_
        refine x_get _ 41 fR_22 dR_front_38 rfl rfl rfl ?_
        refine x_iload_n 42 dR_front_41 rfl rfl ?_
        refine x_iald 43 dR_front_42 rfl (h_ra 4 (by decide)) (vp_of (by have z := h26; rw [i_lt, show (0 : Int32).toInt = 0 by decide] at z; omega) (by omega)) ?_
        refine x_fSv 46 (cR_better _ _ _) kR_65 oR_better dR_front_43 rfl rfl (by decide) (Nat.le_of_ble_eq_true rfl) ?_
        refine x_if_ne 81 49 dR_front_46 (by decide) rfl (fun h46 => ?_) (fun h46 => ?_)
        · skip
          refine x_iload 83 dR_front_81 rfl rfl ?_
          refine x_istore_n 84 dR_front_83 rfl (by decide) rfl ?_
          refine x_iinc 87 dR_front_84 rfl rfl (by decide) rfl ?_
          refine x_goto 5 dR_front_87 (by decide) ?_
          exact ih _ _ (by rw [i_inc (by omega) (by omega)]; omega) (by rw [i_inc (by omega) (by omega)]; omega) (by rw [i_inc (by omega) (by omega)]; omega) (by simp only [frF, frS, if_neg h22, if_neg h26, if_neg h46])
        · skip
          refine x_aload_n 50 dR_front_49 rfl rfl ?_
          refine x_get _ 53 fR_22 dR_front_50 rfl rfl rfl ?_
          refine x_iload 55 dR_front_53 rfl rfl ?_
          refine x_iald 56 dR_front_55 rfl (h_ra 4 (by decide)) (by assumption) ?_
          refine x_aload_n 57 dR_front_56 rfl rfl ?_
          refine x_get _ 60 fR_22 dR_front_57 rfl rfl rfl ?_
          refine x_iload_n 61 dR_front_60 rfl rfl ?_
          refine x_iald 62 dR_front_61 rfl (h_ra 4 (by decide)) (vp_of (by have z := h26; rw [i_lt, show (0 : Int32).toInt = 0 by decide] at z; omega) (by omega)) ?_
          refine x_icmp_ne 84 65 dR_front_62 (by decide) rfl (fun h62 => ?_) (fun h62 => ?_)
          · skip
            refine x_iinc 87 dR_front_84 rfl rfl (by decide) rfl ?_
            refine x_goto 5 dR_front_87 (by decide) ?_
            exact ih _ _ (by rw [i_inc (by omega) (by omega)]; omega) (by rw [i_inc (by omega) (by omega)]; omega) (by rw [i_inc (by omega) (by omega)]; omega) (by simp only [frF, frS, if_neg h22, if_neg h26, if_pos h46, if_neg h62])
          · skip
            refine x_aload_n 66 dR_front_65 rfl rfl ?_
            refine x_get _ 69 fR_34 dR_front_66 rfl rfl rfl ?_
            refine x_iload 71 dR_front_69 rfl rfl ?_
            refine x_iald 72 dR_front_71 rfl (h_ra 8 (by decide)) (by assumption) ?_
            refine x_aload_n 73 dR_front_72 rfl rfl ?_
            refine x_get _ 76 fR_34 dR_front_73 rfl rfl rfl ?_
            refine x_iload_n 77 dR_front_76 rfl rfl ?_
            refine x_iald 78 dR_front_77 rfl (h_ra 8 (by decide)) (vp_of (by have z := h26; rw [i_lt, show (0 : Int32).toInt = 0 by decide] at z; omega) (by omega)) ?_
            refine x_icmp_ge 84 81 dR_front_78 (by decide) rfl (fun h78 => ?_) (fun h78 => ?_)
            · skip
              refine x_iinc 87 dR_front_84 rfl rfl (by decide) rfl ?_
              refine x_goto 5 dR_front_87 (by decide) ?_
              exact ih _ _ (by rw [i_inc (by omega) (by omega)]; omega) (by rw [i_inc (by omega) (by omega)]; omega) (by rw [i_inc (by omega) (by omega)]; omega) (by simp only [frF, frS, if_neg h22, if_neg h26, if_pos h46, if_pos h62, if_pos h78])
            · skip
              refine x_iload 83 dR_front_81 rfl rfl ?_
              refine x_istore_n 84 dR_front_83 rfl (by decide) rfl ?_
              refine x_iinc 87 dR_front_84 rfl rfl (by decide) rfl ?_
              refine x_goto 5 dR_front_87 (by decide) ?_
              exact ih _ _ (by rw [i_inc (by omega) (by omega)]; omega) (by rw [i_inc (by omega) (by omega)]; omega) (by rw [i_inc (by omega) (by omega)]; omega) (by simp only [frF, frS, if_neg h22, if_neg h26, if_pos h46, if_pos h62, if_neg h78])
theorem mc_sum (hc : MC A) : (0 : Int32).toInt + ((A 13 0).toNatClampNeg : Nat) = (A 13 0).toInt := by
  rw [i_nat]
  have := hc.1
  have z0 : (0 : Int32).toInt = 0 := by decide
  omega
theorem cR_front (hc : MC A) (i s : Int32) : x_C l G mR_front 1 0 0 [xR (some (14, 0)), xI i, xI s] (hp N I J P V A B) [] (x_is (some (xI (fr A i s))) (hp N I J P V A B)) := by
  refine x_C.at [some (xR (some (14, 0))), some (xI i), some (xI s), none, none] rfl (Nat.le_of_ble_eq_true rfl) rfl ?_
  refine x_iconst (-1) 1 dR_front_0 rfl rfl ?_
  refine x_istore_n 2 dR_front_1 rfl (by decide) rfl ?_
  refine x_iconst 0 3 dR_front_2 rfl rfl ?_
  refine x_istore 5 dR_front_3 rfl (by decide) rfl ?_
  exact lp_R_front hc i s _ (A 13 0).toNatClampNeg 0 (-1) (by decide) (mc_sum hc) (by decide) rfl
def qm (A : Nat → Nat → Int32) (k : Nat) : Int32 := if 5 ≤ A 5 k then 5 else A 5 k
def qeA (A : Nat → Nat → Int32) (k : Nat) : Nat → Nat → Int32 := si (si (si (si A 7 k 0) 8 k (A 14 0)) 14 0 (A 14 0 + 1)) 6 k (qm A k)
def afA (A : Nat → Nat → Int32) (k : Nat) : Nat → Nat → Int32 := si (si A 7 k (if A 5 k = 0 then 1 else 0)) 6 k (qm A k)
theorem cR_queue {x : Int32} (hx : vp_in x 120) : x_C l G mR_queue 0 0 0 [xR (some (14, 0)), xI x] (hp N I J P V A B) [] (x_is none (hp N I J P V (qeA A x.toNatClampNeg) B)) := by
  refine x_C.at [some (xR (some (14, 0))), some (xI x)] rfl (Nat.le_of_ble_eq_true rfl) rfl ?_
  refine x_aload_n 1 dR_queue_0 rfl rfl ?_
  refine x_get _ 4 fR_31 dR_queue_1 rfl rfl rfl ?_
  refine x_iload_n 5 dR_queue_4 rfl rfl ?_
  refine x_iconst 0 6 dR_queue_5 rfl rfl ?_
  refine y_ra7 7 dR_queue_6 rfl (by assumption) ?_
  refine x_aload_n 8 dR_queue_7 rfl rfl ?_
  refine x_get _ 11 fR_34 dR_queue_8 rfl rfl rfl ?_
  refine x_iload_n 12 dR_queue_11 rfl rfl ?_
  refine x_aload_n 13 dR_queue_12 rfl rfl ?_
  refine x_get _ 16 fR_68 dR_queue_13 rfl rfl rfl ?_
  refine y_ra8 17 dR_queue_16 rfl (by assumption) ?_
  refine x_aload_n 18 dR_queue_17 rfl rfl ?_
  refine x_dup 19 dR_queue_18 rfl rfl ?_
  refine x_get _ 22 fR_68 dR_queue_19 rfl rfl rfl ?_
  refine x_iconst 1 23 dR_queue_22 rfl rfl ?_
  refine x_iadd 24 dR_queue_23 rfl ?_
  refine y_R10 27 pR_queue_68 dR_queue_24 rfl ?_
  refine x_aload_n 28 dR_queue_27 rfl rfl ?_
  refine x_get _ 31 fR_28 dR_queue_28 rfl rfl rfl ?_
  refine x_iload_n 32 dR_queue_31 rfl rfl ?_
  refine x_aload_n 33 dR_queue_32 rfl rfl ?_
  refine x_get _ 36 fR_25 dR_queue_33 rfl rfl rfl ?_
  refine x_iload_n 37 dR_queue_36 rfl rfl ?_
  refine x_iald 38 dR_queue_37 rfl (h_ra 5 (by decide)) (by assumption) ?_
  refine x_iconst 5 39 dR_queue_38 rfl rfl ?_
  refine x_icmp_ge 51 42 dR_queue_39 (by decide) rfl (fun h39 => ?_) (fun h39 => ?_)
  · skip
    refine x_iconst 5 52 dR_queue_51 rfl rfl ?_
    refine y_ra6 53 dR_queue_52 rfl (by assumption) ?_
    exact x_vret dR_queue_53 rfl ⟨rfl, by unfold qeA qm; rw [if_pos (show 5 ≤ A 5 x.toNatClampNeg from h39)]; rfl⟩
  · skip
    refine x_aload_n 43 dR_queue_42 rfl rfl ?_
    refine x_get _ 46 fR_25 dR_queue_43 rfl rfl rfl ?_
    refine x_iload_n 47 dR_queue_46 rfl rfl ?_
    refine x_iald 48 dR_queue_47 rfl (h_ra 5 (by decide)) (by assumption) ?_
    refine x_goto 52 dR_queue_48 (by decide) ?_
    refine y_ra6 53 dR_queue_52 rfl (by assumption) ?_
    exact x_vret dR_queue_53 rfl ⟨rfl, by unfold qeA qm; rw [if_neg (show ¬ 5 ≤ A 5 x.toNatClampNeg from h39)]; rfl⟩
theorem cR_after {x : Int32} (hx : vp_in x 120) : x_C l G mR_after 0 0 0 [xR (some (14, 0)), xI x] (hp N I J P V A B) [] (x_is none (hp N I J P V (afA A x.toNatClampNeg) B)) := by
  refine x_C.at [some (xR (some (14, 0))), some (xI x)] rfl (Nat.le_of_ble_eq_true rfl) rfl ?_
  refine x_aload_n 1 dR_after_0 rfl rfl ?_
  refine x_get _ 4 fR_31 dR_after_1 rfl rfl rfl ?_
  refine x_iload_n 5 dR_after_4 rfl rfl ?_
  refine x_aload_n 6 dR_after_5 rfl rfl ?_
  refine x_get _ 9 fR_25 dR_after_6 rfl rfl rfl ?_
  refine x_iload_n 10 dR_after_9 rfl rfl ?_
  refine x_iald 11 dR_after_10 rfl (h_ra 5 (by decide)) (by assumption) ?_
  refine x_if_ne 18 14 dR_after_11 (by decide) rfl (fun h11 => ?_) (fun h11 => ?_)
  · skip
    refine x_iconst 0 19 dR_after_18 rfl rfl ?_
    refine y_ra7 20 dR_after_19 rfl (by assumption) ?_
    refine x_aload_n 21 dR_after_20 rfl rfl ?_
    refine x_get _ 24 fR_28 dR_after_21 rfl rfl rfl ?_
    refine x_iload_n 25 dR_after_24 rfl rfl ?_
    refine x_aload_n 26 dR_after_25 rfl rfl ?_
    refine x_get _ 29 fR_25 dR_after_26 rfl rfl rfl ?_
    refine x_iload_n 30 dR_after_29 rfl rfl ?_
    refine x_iald 31 dR_after_30 rfl (h_ra 5 (by decide)) (by assumption) ?_
    refine x_iconst 5 32 dR_after_31 rfl rfl ?_
    refine x_icmp_ge 44 35 dR_after_32 (by decide) rfl (fun h32 => ?_) (fun h32 => ?_)
    · skip
      refine x_iconst 5 45 dR_after_44 rfl rfl ?_
      refine y_ra6 46 dR_after_45 rfl (by assumption) ?_
      exact x_vret dR_after_46 rfl ⟨rfl, by unfold afA qm; rw [if_neg h11, if_pos (show 5 ≤ A 5 x.toNatClampNeg from h32)] <;> rfl⟩
    · skip
      refine x_aload_n 36 dR_after_35 rfl rfl ?_
      refine x_get _ 39 fR_25 dR_after_36 rfl rfl rfl ?_
      refine x_iload_n 40 dR_after_39 rfl rfl ?_
      refine x_iald 41 dR_after_40 rfl (h_ra 5 (by decide)) (by assumption) ?_
      refine x_goto 45 dR_after_41 (by decide) ?_
      refine y_ra6 46 dR_after_45 rfl (by assumption) ?_
      exact x_vret dR_after_46 rfl ⟨rfl, by unfold afA qm; rw [if_neg h11, if_neg (show ¬ 5 ≤ A 5 x.toNatClampNeg from h32)] <;> rfl⟩
  · skip
    refine x_iconst 1 15 dR_after_14 rfl rfl ?_
    refine x_goto 19 dR_after_15 (by decide) ?_
    refine y_ra7 20 dR_after_19 rfl (by assumption) ?_
    refine x_aload_n 21 dR_after_20 rfl rfl ?_
    refine x_get _ 24 fR_28 dR_after_21 rfl rfl rfl ?_
    refine x_iload_n 25 dR_after_24 rfl rfl ?_
    refine x_aload_n 26 dR_after_25 rfl rfl ?_
    refine x_get _ 29 fR_25 dR_after_26 rfl rfl rfl ?_
    refine x_iload_n 30 dR_after_29 rfl rfl ?_
    refine x_iald 31 dR_after_30 rfl (h_ra 5 (by decide)) (by assumption) ?_
    refine x_iconst 5 32 dR_after_31 rfl rfl ?_
    refine x_icmp_ge 44 35 dR_after_32 (by decide) rfl (fun h32 => ?_) (fun h32 => ?_)
    · skip
      refine x_iconst 5 45 dR_after_44 rfl rfl ?_
      refine y_ra6 46 dR_after_45 rfl (by assumption) ?_
      exact x_vret dR_after_46 rfl ⟨rfl, by unfold afA qm; rw [if_pos h11, if_pos (show 5 ≤ A 5 x.toNatClampNeg from h32)] <;> rfl⟩
    · skip
      refine x_aload_n 36 dR_after_35 rfl rfl ?_
      refine x_get _ 39 fR_25 dR_after_36 rfl rfl rfl ?_
      refine x_iload_n 40 dR_after_39 rfl rfl ?_
      refine x_iald 41 dR_after_40 rfl (h_ra 5 (by decide)) (by assumption) ?_
      refine x_goto 45 dR_after_41 (by decide) ?_
      refine y_ra6 46 dR_after_45 rfl (by assumption) ?_
      exact x_vret dR_after_46 rfl ⟨rfl, by unfold afA qm; rw [if_pos h11, if_neg (show ¬ 5 ≤ A 5 x.toNatClampNeg from h32)] <;> rfl⟩
def OM1 (A : Nat → Nat → Int32) (k : Nat) : Prop := vp_in (A 0 k) 5 ∧ vp_in (A 1 k) 2
theorem held_in {a b : Int32} (ha : vp_in a 5) (hb : vp_in b 2) : (2 * a + b).toInt = 2 * a.toInt + b.toInt ∧ vp_in (2 * a + b) 10 := by
  have h1 := vp_to ha
  have h2 := vp_to hb
  have e2 : (2 : Int32).toInt = 2 := by decide
  have m1 : (2 * a).toInt = 2 * a.toInt := by
    rw [Kit.i32_mul (by rw [e2]; omega) (by rw [e2]; omega), e2]
  have m2 : (2 * a + b).toInt = 2 * a.toInt + b.toInt := by
    rw [Kit.i32_add (by rw [m1]; omega) (by rw [m1]; omega), m1]
  exact ⟨m2, vp_of (by omega) (by omega)⟩
def sw3 (A : Nat → Nat → Int32) (b s p n : Int32) : Nat → Nat → Int32 := si (si (si (si (si (si A 12 (trow (A 15 0)).toNatClampNeg b) 12 (trow (A 15 0) + 1).toNatClampNeg s) 12 (trow (A 15 0) + 2).toNatClampNeg p) 12 (trow (A 15 0) + 3).toNatClampNeg n) 15 0 (A 15 0 + 1)) 11 (A 1 b.toNatClampNeg).toNatClampNeg p
def sw5 (A : Nat → Nat → Int32) (b s p n : Int32) : Nat → Nat → Int32 := si (si (sw3 A b s p n) 5 b.toNatClampNeg (A 5 b.toNatClampNeg - n)) 5 s.toNatClampNeg (si (sw3 A b s p n) 5 b.toNatClampNeg (A 5 b.toNatClampNeg - n) 5 s.toNatClampNeg - n)
def swA (A : Nat → Nat → Int32) (b s p n : Int32) : Nat → Nat → Int32 := si (si (sw5 A b s p n) 9 (2 * A 0 b.toNatClampNeg + A 1 b.toNatClampNeg).toNatClampNeg (A 9 (2 * A 0 b.toNatClampNeg + A 1 b.toNatClampNeg).toNatClampNeg + n)) 9 (2 * A 0 s.toNatClampNeg + A 1 b.toNatClampNeg).toNatClampNeg (si (sw5 A b s p n) 9 (2 * A 0 b.toNatClampNeg + A 1 b.toNatClampNeg).toNatClampNeg (A 9 (2 * A 0 b.toNatClampNeg + A 1 b.toNatClampNeg).toNatClampNeg + n) 9 (2 * A 0 s.toNatClampNeg + A 1 b.toNatClampNeg).toNatClampNeg - n)
def swB (A : Nat → Nat → Int32) (B : Nat → Nat → Int64) (b s p n : Int32) : Nat → Nat → Int64 := sj (sj B 1 (A 0 b.toNatClampNeg).toNatClampNeg (B 1 (A 0 b.toNatClampNeg).toNatClampNeg - n.toInt64 * p.toInt64)) 1 (A 0 s.toNatClampNeg).toNatClampNeg (sj B 1 (A 0 b.toNatClampNeg).toNatClampNeg (B 1 (A 0 b.toNatClampNeg).toNatClampNeg - n.toInt64 * p.toInt64) 1 (A 0 s.toNatClampNeg).toNatClampNeg + n.toInt64 * p.toInt64)
theorem cR_swap {b s : Int32} (hb : vp_in b 120) (hs : vp_in s 120) (ob : OM1 A b.toNatClampNeg) (os : OM1 A s.toNatClampNeg) (hT : 0 ≤ (A 15 0).toInt) (p n : Int32) : x_C l G mR_swap 0 0 0 [xR (some (14, 0)), xI b, xI s, xI p, xI n] (hp N I J P V A B) [] (x_is none (hp N I J P V (swA A b s p n) (swB A B b s p n))) := by
  refine x_C.at [some (xR (some (14, 0))), some (xI b), some (xI s), some (xI p), some (xI n), none, none, none, none] rfl (Nat.le_of_ble_eq_true rfl) rfl ?_
  refine x_aload_n 1 dR_swap_0 rfl rfl ?_
  refine x_get _ 4 fR_13 dR_swap_1 rfl rfl rfl ?_
  refine x_iload_n 5 dR_swap_4 rfl rfl ?_
  refine x_iald 6 dR_swap_5 rfl (h_ra 1 (by decide)) hb ?_
  refine x_istore 8 dR_swap_6 rfl (by decide) rfl ?_
  refine x_aload_n 9 dR_swap_8 rfl rfl ?_
  refine x_get _ 12 fR_71 dR_swap_9 rfl rfl rfl ?_
  refine x_bipush (100) 14 dR_swap_12 rfl rfl ?_
  refine x_irem 15 dR_swap_14 rfl (by decide) ?_
  refine x_iconst 4 16 dR_swap_15 rfl rfl ?_
  refine x_imul 17 dR_swap_16 rfl ?_
  refine x_istore 19 dR_swap_17 rfl (by decide) rfl ?_
  refine x_aload_n 20 dR_swap_19 rfl rfl ?_
  refine x_get _ 23 fR_54 dR_swap_20 rfl rfl rfl ?_
  refine x_iload 25 dR_swap_23 rfl rfl ?_
  refine x_iload_n 26 dR_swap_25 rfl rfl ?_
  refine y_rec 27 dR_swap_26 rfl (trow_in hT).2.1 ?_
  refine x_aload_n 28 dR_swap_27 rfl rfl ?_
  refine x_get _ 31 fR_54 dR_swap_28 rfl rfl rfl ?_
  refine x_iload 33 dR_swap_31 rfl rfl ?_
  refine x_iconst 1 34 dR_swap_33 rfl rfl ?_
  refine x_iadd 35 dR_swap_34 rfl ?_
  refine x_iload_n 36 dR_swap_35 rfl rfl ?_
  refine y_rec 37 dR_swap_36 rfl (trow_in hT).2.2.1 ?_
  refine x_aload_n 38 dR_swap_37 rfl rfl ?_
  refine x_get _ 41 fR_54 dR_swap_38 rfl rfl rfl ?_
  refine x_iload 43 dR_swap_41 rfl rfl ?_
  refine x_iconst 2 44 dR_swap_43 rfl rfl ?_
  refine x_iadd 45 dR_swap_44 rfl ?_
  refine x_iload_n 46 dR_swap_45 rfl rfl ?_
  refine y_rec 47 dR_swap_46 rfl (trow_in hT).2.2.2.1 ?_
  refine x_aload_n 48 dR_swap_47 rfl rfl ?_
  refine x_get _ 51 fR_54 dR_swap_48 rfl rfl rfl ?_
  refine x_iload 53 dR_swap_51 rfl rfl ?_
  refine x_iconst 3 54 dR_swap_53 rfl rfl ?_
  refine x_iadd 55 dR_swap_54 rfl ?_
  refine x_iload 57 dR_swap_55 rfl rfl ?_
  refine y_rec 58 dR_swap_57 rfl (trow_in hT).2.2.2.2 ?_
  refine x_aload_n 59 dR_swap_58 rfl rfl ?_
  refine x_dup 60 dR_swap_59 rfl rfl ?_
  refine x_get _ 63 fR_71 dR_swap_60 rfl rfl rfl ?_
  refine x_iconst 1 64 dR_swap_63 rfl rfl ?_
  refine x_iadd 65 dR_swap_64 rfl ?_
  refine y_R16 68 pR_swap_71 dR_swap_65 rfl ?_
  refine x_aload_n 69 dR_swap_68 rfl rfl ?_
  refine x_get _ 72 fR_51 dR_swap_69 rfl rfl rfl ?_
  refine x_iload 74 dR_swap_72 rfl rfl ?_
  refine x_iload_n 75 dR_swap_74 rfl rfl ?_
  refine y_ref 76 dR_swap_75 rfl ob.2 ?_
  refine x_aload_n 77 dR_swap_76 rfl rfl ?_
  refine x_get _ 80 fR_25 dR_swap_77 rfl rfl rfl ?_
  refine x_iload_n 81 dR_swap_80 rfl rfl ?_
  refine x_dup2 82 dR_swap_81 rfl rfl rfl ?_
  refine x_iald 83 dR_swap_82 rfl (h_ra 5 (by decide)) hb ?_
  refine x_iload 85 dR_swap_83 rfl rfl ?_
  refine x_isub 86 dR_swap_85 rfl ?_
  refine y_ra5 87 dR_swap_86 rfl hb ?_
  refine x_aload_n 88 dR_swap_87 rfl rfl ?_
  refine x_get _ 91 fR_25 dR_swap_88 rfl rfl rfl ?_
  refine x_iload_n 92 dR_swap_91 rfl rfl ?_
  refine x_dup2 93 dR_swap_92 rfl rfl rfl ?_
  refine x_iald 94 dR_swap_93 rfl (h_ra 5 (by decide)) hs ?_
  refine x_iload 96 dR_swap_94 rfl rfl ?_
  refine x_isub 97 dR_swap_96 rfl ?_
  refine y_ra5 98 dR_swap_97 rfl hs ?_
  refine x_iload 100 dR_swap_98 rfl rfl ?_
  refine x_i2l 101 dR_swap_100 rfl ?_
  refine x_iload_n 102 dR_swap_101 rfl rfl ?_
  refine x_i2l 103 dR_swap_102 rfl ?_
  refine x_lmul 104 dR_swap_103 rfl ?_
  refine x_lstore 106 dR_swap_104 rfl (by decide) rfl ?_
  refine x_aload_n 107 dR_swap_106 rfl rfl ?_
  refine x_get _ 110 fR_44 dR_swap_107 rfl rfl rfl ?_
  refine x_iconst 2 111 dR_swap_110 rfl rfl ?_
  refine x_aload_n 112 dR_swap_111 rfl rfl ?_
  refine x_get _ 115 fR_7 dR_swap_112 rfl rfl rfl ?_
  refine x_iload_n 116 dR_swap_115 rfl rfl ?_
  refine x_iald 117 dR_swap_116 rfl (h_ra 0 (by decide)) hb ?_
  refine x_imul 118 dR_swap_117 rfl ?_
  refine x_iload 120 dR_swap_118 rfl rfl ?_
  refine x_iadd 121 dR_swap_120 rfl ?_
  refine x_dup2 122 dR_swap_121 rfl rfl rfl ?_
  refine x_iald 123 dR_swap_122 rfl rfl (held_in ob.1 ob.2).2 ?_
  refine x_iload 125 dR_swap_123 rfl rfl ?_
  refine x_iadd 126 dR_swap_125 rfl ?_
  refine y_held 127 dR_swap_126 rfl (held_in ob.1 ob.2).2 ?_
  refine x_aload_n 128 dR_swap_127 rfl rfl ?_
  refine x_get _ 131 fR_44 dR_swap_128 rfl rfl rfl ?_
  refine x_iconst 2 132 dR_swap_131 rfl rfl ?_
  refine x_aload_n 133 dR_swap_132 rfl rfl ?_
  refine x_get _ 136 fR_7 dR_swap_133 rfl rfl rfl ?_
  refine x_iload_n 137 dR_swap_136 rfl rfl ?_
  refine x_iald 138 dR_swap_137 rfl (h_ra 0 (by decide)) hs ?_
  refine x_imul 139 dR_swap_138 rfl ?_
  refine x_iload 141 dR_swap_139 rfl rfl ?_
  refine x_iadd 142 dR_swap_141 rfl ?_
  refine x_dup2 143 dR_swap_142 rfl rfl rfl ?_
  refine x_iald 144 dR_swap_143 rfl rfl (held_in os.1 ob.2).2 ?_
  refine x_iload 146 dR_swap_144 rfl rfl ?_
  refine x_isub 147 dR_swap_146 rfl ?_
  refine y_held 148 dR_swap_147 rfl (held_in os.1 ob.2).2 ?_
  refine x_aload_n 149 dR_swap_148 rfl rfl ?_
  refine x_get _ 152 fR_41 dR_swap_149 rfl rfl rfl ?_
  refine x_aload_n 153 dR_swap_152 rfl rfl ?_
  refine x_get _ 156 fR_7 dR_swap_153 rfl rfl rfl ?_
  refine x_iload_n 157 dR_swap_156 rfl rfl ?_
  refine x_iald 158 dR_swap_157 rfl (h_ra 0 (by decide)) hb ?_
  refine x_dup2 159 dR_swap_158 rfl rfl rfl ?_
  refine x_lald 160 dR_swap_159 rfl (h_rl 1 (by decide)) ob.1 ?_
  refine x_lload 162 dR_swap_160 rfl rfl ?_
  refine x_lsub 163 dR_swap_162 rfl ?_
  refine y_rl1 164 dR_swap_163 rfl ob.1 ?_
  refine x_aload_n 165 dR_swap_164 rfl rfl ?_
  refine x_get _ 168 fR_41 dR_swap_165 rfl rfl rfl ?_
  refine x_aload_n 169 dR_swap_168 rfl rfl ?_
  refine x_get _ 172 fR_7 dR_swap_169 rfl rfl rfl ?_
  refine x_iload_n 173 dR_swap_172 rfl rfl ?_
  refine x_iald 174 dR_swap_173 rfl (h_ra 0 (by decide)) hs ?_
  refine x_dup2 175 dR_swap_174 rfl rfl rfl ?_
  refine x_lald 176 dR_swap_175 rfl (h_rl 1 (by decide)) os.1 ?_
  refine x_lload 178 dR_swap_176 rfl rfl ?_
  refine x_ladd 179 dR_swap_178 rfl ?_
  refine y_rl1 180 dR_swap_179 rfl os.1 ?_
  exact x_vret dR_swap_180 rfl ⟨rfl, rfl⟩
def mtN (A : Nat → Nat → Int32) (x y : Int32) : Int32 := if shs A y.toNatClampNeg ≤ A 5 x.toNatClampNeg then shs A y.toNatClampNeg else A 5 x.toNatClampNeg
def mt2 (A : Nat → Nat → Int32) (k : Nat) : Nat → Nat → Int32 := if A 5 k = 0 then si A 7 k 1 else if A 3 k = 5 then (if A 6 k = 0 then qeA A k else A) else A
def mt1 (A : Nat → Nat → Int32) (x y n : Int32) : Nat → Nat → Int32 := if A 2 x.toNatClampNeg = 0 then mt2 (si (swA A x y (A 4 y.toNatClampNeg) n) 6 y.toNatClampNeg (A 6 y.toNatClampNeg - n)) y.toNatClampNeg else mt2 (si (swA A y x (A 4 y.toNatClampNeg) n) 6 y.toNatClampNeg (A 6 y.toNatClampNeg - n)) y.toNatClampNeg
def mtB (A : Nat → Nat → Int32) (B : Nat → Nat → Int64) (x y n : Int32) : Nat → Nat → Int64 := if A 2 x.toNatClampNeg = 0 then swB A B x y (A 4 y.toNatClampNeg) n else swB A B y x (A 4 y.toNatClampNeg) n
abbrev mAB : Type := (Nat → Nat → Int32) × (Nat → Nat → Int64)
def meM (A : Nat → Nat → Int32) (B : Nat → Nat → Int64) (x : Int32) : Int32 × mAB := if A 5 x.toNatClampNeg = 0 then (0, (A, B)) else if fr A (A 1 x.toNatClampNeg) (1 - A 2 x.toNatClampNeg) < 0 then (0, (A, B)) else if b01 (gdm (A 3 x.toNatClampNeg) (A 2 x.toNatClampNeg) (A 4 x.toNatClampNeg) (A 4 (fr A (A 1 x.toNatClampNeg) (1 - A 2 x.toNatClampNeg)).toNatClampNeg)) = 0 then (0, (A, B)) else if A 0 (fr A (A 1 x.toNatClampNeg) (1 - A 2 x.toNatClampNeg)).toNatClampNeg = A 0 x.toNatClampNeg then (1, (si A 7 (fr A (A 1 x.toNatClampNeg) (1 - A 2 x.toNatClampNeg)).toNatClampNeg 2, B)) else (1, (mt1 A x (fr A (A 1 x.toNatClampNeg) (1 - A 2 x.toNatClampNeg)) (mtN A x (fr A (A 1 x.toNatClampNeg) (1 - A 2 x.toNatClampNeg))), mtB A B x (fr A (A 1 x.toNatClampNeg) (1 - A 2 x.toNatClampNeg)) (mtN A x (fr A (A 1 x.toNatClampNeg) (1 - A 2 x.toNatClampNeg)))))
/-- an int and the reference's state -/
def QM (N : Nat) (I : Nat → Nat → Int32) (J : Nat → Nat → Int64) (P : Nat → Nat → Option xQ) (V : Nat → Nat → Int32) (R : Int32 × mAB) : Option xV → xH → Prop := x_is (some (xI R.1)) (hp N I J P V R.2.1 R.2.2)
theorem QM.ip {c : Prop} [Decidable c] {S1 S2 : Int32 × mAB} {r : Option xV} (hc : c) (q : QM N I J P V S1 r h) : QM N I J P V (if c then S1 else S2) r h := by rw [if_pos hc]; exact q
theorem QM.ig {c : Prop} [Decidable c] {S1 S2 : Int32 × mAB} {r : Option xV} (hc : ¬ c) (q : QM N I J P V S2 r h) : QM N I J P V (if c then S1 else S2) r h := by rw [if_neg hc]; exact q
def OM (A : Nat → Nat → Int32) : Prop := MC A ∧ (∀ k : Nat, (k : Int) < (A 13 0).toInt → OM1 A k) ∧ 0 ≤ (A 15 0).toInt
theorem mt1_eq {x y n : Int32} (a : Nat → Nat → Int32) (h1 : A 2 x.toNatClampNeg = 0 → a = mt2 (si (swA A x y (A 4 y.toNatClampNeg) n) 6 y.toNatClampNeg (A 6 y.toNatClampNeg - n)) y.toNatClampNeg) (h2 : ¬ A 2 x.toNatClampNeg = 0 → a = mt2 (si (swA A y x (A 4 y.toNatClampNeg) n) 6 y.toNatClampNeg (A 6 y.toNatClampNeg - n)) y.toNatClampNeg) : a = mt1 A x y n := by
  unfold mt1
  split
  · exact h1 (by assumption)
  · exact h2 (by assumption)
/-- the tail of meet, from the amount on -/
theorem lp_R_meet {x y : Int32} (hx : vp_in x 120) (hy : vp_in y 120) (ox : OM1 A x.toNatClampNeg) (oy : OM1 A y.toNatClampNeg) (hT : 0 ≤ (A 15 0).toInt) (n : Int32) : x_X l G mR_meet 2 0 0 [] (QM N I J P V (1, (mt1 A x y n, mtB A B x y n))) 117 [some (xR (some (14, 0))), some (xI x), some (xI y), some (xI n)] [] (hp N I J P V A B) := by
  by_cases hs : A 2 x.toNatClampNeg = 0
  · skip
    refine x_aload_n 118 dR_meet_117 rfl rfl ?_
    refine x_aload_n 119 dR_meet_118 rfl rfl ?_
    refine x_get _ 122 fR_16 dR_meet_119 rfl rfl rfl ?_
    refine x_iload_n 123 dR_meet_122 rfl rfl ?_
    refine x_iald 124 dR_meet_123 rfl (h_ra 2 (by decide)) (by assumption) ?_
    refine x_if_ne 131 127 dR_meet_124 (by decide) rfl (fun h124 => absurd hs h124) (fun h124 => ?_)
    refine x_iload_n 128 dR_meet_127 rfl rfl ?_
    refine x_goto 132 dR_meet_128 (by decide) ?_
    refine x_aload_n 133 dR_meet_132 rfl rfl ?_
    refine x_get _ 136 fR_16 dR_meet_133 rfl rfl rfl ?_
    refine x_iload_n 137 dR_meet_136 rfl rfl ?_
    refine x_iald 138 dR_meet_137 rfl (h_ra 2 (by decide)) (by assumption) ?_
    refine x_if_ne 145 141 dR_meet_138 (by decide) rfl (fun h138 => absurd hs h138) (fun h138 => ?_)
    refine x_iload_n 142 dR_meet_141 rfl rfl ?_
    refine x_goto 146 dR_meet_142 (by decide) ?_
    refine x_aload_n 147 dR_meet_146 rfl rfl ?_
    refine x_get _ 150 fR_22 dR_meet_147 rfl rfl rfl ?_
    refine x_iload_n 151 dR_meet_150 rfl rfl ?_
    refine x_iald 152 dR_meet_151 rfl (h_ra 4 (by decide)) (by assumption) ?_
    refine x_iload_n 153 dR_meet_152 rfl rfl ?_
    refine x_fVn 156 (cR_swap hx hy ox oy hT _ _) kR_86 oR_swap rfl rfl dR_meet_153 rfl rfl (by decide) (Nat.le_of_ble_eq_true rfl) ?_
    refine x_aload_n 157 dR_meet_156 rfl rfl ?_
    refine x_get _ 160 fR_28 dR_meet_157 rfl rfl rfl ?_
    refine x_iload_n 161 dR_meet_160 rfl rfl ?_
    refine x_dup2 162 dR_meet_161 rfl rfl rfl ?_
    refine x_iald 163 dR_meet_162 rfl (h_ra 6 (by decide)) (by assumption) ?_
    refine x_iload_n 164 dR_meet_163 rfl rfl ?_
    refine x_isub 165 dR_meet_164 rfl ?_
    refine y_ra6 166 dR_meet_165 rfl (by assumption) ?_
    refine x_aload_n 167 dR_meet_166 rfl rfl ?_
    refine x_get _ 170 fR_25 dR_meet_167 rfl rfl rfl ?_
    refine x_iload_n 171 dR_meet_170 rfl rfl ?_
    refine x_iald 172 dR_meet_171 rfl (h_ra 5 (by decide)) (by assumption) ?_
    refine x_if_ne 185 175 dR_meet_172 (by decide) rfl (fun h172 => ?_) (fun h172 => ?_)
    · skip
      refine x_aload_n 186 dR_meet_185 rfl rfl ?_
      refine x_get _ 189 fR_19 dR_meet_186 rfl rfl rfl ?_
      refine x_iload_n 190 dR_meet_189 rfl rfl ?_
      refine x_iald 191 dR_meet_190 rfl (h_ra 3 (by decide)) (by assumption) ?_
      refine x_iconst 5 192 dR_meet_191 rfl rfl ?_
      refine x_icmp_ne 209 195 dR_meet_192 (by decide) rfl (fun h192 => ?_) (fun h192 => ?_)
      · skip
        refine x_iconst 1 210 dR_meet_209 rfl rfl ?_
        exact x_iret dR_meet_210 rfl rfl ⟨rfl, by dsimp only; unfold mt1 mtB mt2; rw [if_pos h124, if_neg (show ¬ (si (swA A x y (A 4 y.toNatClampNeg) n) 6 y.toNatClampNeg (A 6 y.toNatClampNeg - n)) 5 y.toNatClampNeg = 0 from h172), if_neg (show ¬ (si (swA A x y (A 4 y.toNatClampNeg) n) 6 y.toNatClampNeg (A 6 y.toNatClampNeg - n)) 3 y.toNatClampNeg = 5 from h192), if_pos h124]; rfl⟩
      · skip
        refine x_aload_n 196 dR_meet_195 rfl rfl ?_
        refine x_get _ 199 fR_28 dR_meet_196 rfl rfl rfl ?_
        refine x_iload_n 200 dR_meet_199 rfl rfl ?_
        refine x_iald 201 dR_meet_200 rfl (h_ra 6 (by decide)) (by assumption) ?_
        refine x_if_ne 209 204 dR_meet_201 (by decide) rfl (fun h201 => ?_) (fun h201 => ?_)
        · skip
          refine x_iconst 1 210 dR_meet_209 rfl rfl ?_
          exact x_iret dR_meet_210 rfl rfl ⟨rfl, by dsimp only; unfold mt1 mtB mt2; rw [if_pos h124, if_neg (show ¬ (si (swA A x y (A 4 y.toNatClampNeg) n) 6 y.toNatClampNeg (A 6 y.toNatClampNeg - n)) 5 y.toNatClampNeg = 0 from h172), if_pos (show (si (swA A x y (A 4 y.toNatClampNeg) n) 6 y.toNatClampNeg (A 6 y.toNatClampNeg - n)) 3 y.toNatClampNeg = 5 from h192), if_neg (show ¬ (si (swA A x y (A 4 y.toNatClampNeg) n) 6 y.toNatClampNeg (A 6 y.toNatClampNeg - n)) 6 y.toNatClampNeg = 0 from h201), if_pos h124]; rfl⟩
        · skip
          refine x_aload_n 205 dR_meet_204 rfl rfl ?_
          refine x_iload_n 206 dR_meet_205 rfl rfl ?_
          refine x_fVn 209 (cR_queue hy) kR_90 oR_queue rfl rfl dR_meet_206 rfl rfl (by decide) (Nat.le_of_ble_eq_true rfl) ?_
          refine x_iconst 1 210 dR_meet_209 rfl rfl ?_
          exact x_iret dR_meet_210 rfl rfl ⟨rfl, by dsimp only; unfold mt1 mtB mt2; rw [if_pos h124, if_neg (show ¬ (si (swA A x y (A 4 y.toNatClampNeg) n) 6 y.toNatClampNeg (A 6 y.toNatClampNeg - n)) 5 y.toNatClampNeg = 0 from h172), if_pos (show (si (swA A x y (A 4 y.toNatClampNeg) n) 6 y.toNatClampNeg (A 6 y.toNatClampNeg - n)) 3 y.toNatClampNeg = 5 from h192), if_pos (show (si (swA A x y (A 4 y.toNatClampNeg) n) 6 y.toNatClampNeg (A 6 y.toNatClampNeg - n)) 6 y.toNatClampNeg = 0 from h201), if_pos h124]; rfl⟩
    · skip
      refine x_aload_n 176 dR_meet_175 rfl rfl ?_
      refine x_get _ 179 fR_31 dR_meet_176 rfl rfl rfl ?_
      refine x_iload_n 180 dR_meet_179 rfl rfl ?_
      refine x_iconst 1 181 dR_meet_180 rfl rfl ?_
      refine y_ra7 182 dR_meet_181 rfl (by assumption) ?_
      refine x_goto 209 dR_meet_182 (by decide) ?_
      refine x_iconst 1 210 dR_meet_209 rfl rfl ?_
      exact x_iret dR_meet_210 rfl rfl ⟨rfl, by dsimp only; unfold mt1 mtB mt2; rw [if_pos h124, if_pos (show (si (swA A x y (A 4 y.toNatClampNeg) n) 6 y.toNatClampNeg (A 6 y.toNatClampNeg - n)) 5 y.toNatClampNeg = 0 from h172), if_pos h124]; rfl⟩
  · skip
    refine x_aload_n 118 dR_meet_117 rfl rfl ?_
    refine x_aload_n 119 dR_meet_118 rfl rfl ?_
    refine x_get _ 122 fR_16 dR_meet_119 rfl rfl rfl ?_
    refine x_iload_n 123 dR_meet_122 rfl rfl ?_
    refine x_iald 124 dR_meet_123 rfl (h_ra 2 (by decide)) (by assumption) ?_
    refine x_if_ne 131 127 dR_meet_124 (by decide) rfl (fun h124 => ?_) (fun h124 => absurd h124 hs)
    refine x_iload_n 132 dR_meet_131 rfl rfl ?_
    refine x_aload_n 133 dR_meet_132 rfl rfl ?_
    refine x_get _ 136 fR_16 dR_meet_133 rfl rfl rfl ?_
    refine x_iload_n 137 dR_meet_136 rfl rfl ?_
    refine x_iald 138 dR_meet_137 rfl (h_ra 2 (by decide)) (by assumption) ?_
    refine x_if_ne 145 141 dR_meet_138 (by decide) rfl (fun h138 => ?_) (fun h138 => absurd h138 hs)
    refine x_iload_n 146 dR_meet_145 rfl rfl ?_
    refine x_aload_n 147 dR_meet_146 rfl rfl ?_
    refine x_get _ 150 fR_22 dR_meet_147 rfl rfl rfl ?_
    refine x_iload_n 151 dR_meet_150 rfl rfl ?_
    refine x_iald 152 dR_meet_151 rfl (h_ra 4 (by decide)) (by assumption) ?_
    refine x_iload_n 153 dR_meet_152 rfl rfl ?_
    refine x_fVn 156 (cR_swap hy hx oy ox hT _ _) kR_86 oR_swap rfl rfl dR_meet_153 rfl rfl (by decide) (Nat.le_of_ble_eq_true rfl) ?_
    refine x_aload_n 157 dR_meet_156 rfl rfl ?_
    refine x_get _ 160 fR_28 dR_meet_157 rfl rfl rfl ?_
    refine x_iload_n 161 dR_meet_160 rfl rfl ?_
    refine x_dup2 162 dR_meet_161 rfl rfl rfl ?_
    refine x_iald 163 dR_meet_162 rfl (h_ra 6 (by decide)) (by assumption) ?_
    refine x_iload_n 164 dR_meet_163 rfl rfl ?_
    refine x_isub 165 dR_meet_164 rfl ?_
    refine y_ra6 166 dR_meet_165 rfl (by assumption) ?_
    refine x_aload_n 167 dR_meet_166 rfl rfl ?_
    refine x_get _ 170 fR_25 dR_meet_167 rfl rfl rfl ?_
    refine x_iload_n 171 dR_meet_170 rfl rfl ?_
    refine x_iald 172 dR_meet_171 rfl (h_ra 5 (by decide)) (by assumption) ?_
    refine x_if_ne 185 175 dR_meet_172 (by decide) rfl (fun h172 => ?_) (fun h172 => ?_)
    · skip
      refine x_aload_n 186 dR_meet_185 rfl rfl ?_
      refine x_get _ 189 fR_19 dR_meet_186 rfl rfl rfl ?_
      refine x_iload_n 190 dR_meet_189 rfl rfl ?_
      refine x_iald 191 dR_meet_190 rfl (h_ra 3 (by decide)) (by assumption) ?_
      refine x_iconst 5 192 dR_meet_191 rfl rfl ?_
      refine x_icmp_ne 209 195 dR_meet_192 (by decide) rfl (fun h192 => ?_) (fun h192 => ?_)
      · skip
        refine x_iconst 1 210 dR_meet_209 rfl rfl ?_
        exact x_iret dR_meet_210 rfl rfl ⟨rfl, by dsimp only; unfold mt1 mtB mt2; rw [if_neg h124, if_neg (show ¬ (si (swA A y x (A 4 y.toNatClampNeg) n) 6 y.toNatClampNeg (A 6 y.toNatClampNeg - n)) 5 y.toNatClampNeg = 0 from h172), if_neg (show ¬ (si (swA A y x (A 4 y.toNatClampNeg) n) 6 y.toNatClampNeg (A 6 y.toNatClampNeg - n)) 3 y.toNatClampNeg = 5 from h192), if_neg h124]; rfl⟩
      · skip
        refine x_aload_n 196 dR_meet_195 rfl rfl ?_
        refine x_get _ 199 fR_28 dR_meet_196 rfl rfl rfl ?_
        refine x_iload_n 200 dR_meet_199 rfl rfl ?_
        refine x_iald 201 dR_meet_200 rfl (h_ra 6 (by decide)) (by assumption) ?_
        refine x_if_ne 209 204 dR_meet_201 (by decide) rfl (fun h201 => ?_) (fun h201 => ?_)
        · skip
          refine x_iconst 1 210 dR_meet_209 rfl rfl ?_
          exact x_iret dR_meet_210 rfl rfl ⟨rfl, by dsimp only; unfold mt1 mtB mt2; rw [if_neg h124, if_neg (show ¬ (si (swA A y x (A 4 y.toNatClampNeg) n) 6 y.toNatClampNeg (A 6 y.toNatClampNeg - n)) 5 y.toNatClampNeg = 0 from h172), if_pos (show (si (swA A y x (A 4 y.toNatClampNeg) n) 6 y.toNatClampNeg (A 6 y.toNatClampNeg - n)) 3 y.toNatClampNeg = 5 from h192), if_neg (show ¬ (si (swA A y x (A 4 y.toNatClampNeg) n) 6 y.toNatClampNeg (A 6 y.toNatClampNeg - n)) 6 y.toNatClampNeg = 0 from h201), if_neg h124]; rfl⟩
        · skip
          refine x_aload_n 205 dR_meet_204 rfl rfl ?_
          refine x_iload_n 206 dR_meet_205 rfl rfl ?_
          refine x_fVn 209 (cR_queue hy) kR_90 oR_queue rfl rfl dR_meet_206 rfl rfl (by decide) (Nat.le_of_ble_eq_true rfl) ?_
          refine x_iconst 1 210 dR_meet_209 rfl rfl ?_
          exact x_iret dR_meet_210 rfl rfl ⟨rfl, by dsimp only; unfold mt1 mtB mt2; rw [if_neg h124, if_neg (show ¬ (si (swA A y x (A 4 y.toNatClampNeg) n) 6 y.toNatClampNeg (A 6 y.toNatClampNeg - n)) 5 y.toNatClampNeg = 0 from h172), if_pos (show (si (swA A y x (A 4 y.toNatClampNeg) n) 6 y.toNatClampNeg (A 6 y.toNatClampNeg - n)) 3 y.toNatClampNeg = 5 from h192), if_pos (show (si (swA A y x (A 4 y.toNatClampNeg) n) 6 y.toNatClampNeg (A 6 y.toNatClampNeg - n)) 6 y.toNatClampNeg = 0 from h201), if_neg h124]; rfl⟩
    · skip
      refine x_aload_n 176 dR_meet_175 rfl rfl ?_
      refine x_get _ 179 fR_31 dR_meet_176 rfl rfl rfl ?_
      refine x_iload_n 180 dR_meet_179 rfl rfl ?_
      refine x_iconst 1 181 dR_meet_180 rfl rfl ?_
      refine y_ra7 182 dR_meet_181 rfl (by assumption) ?_
      refine x_goto 209 dR_meet_182 (by decide) ?_
      refine x_iconst 1 210 dR_meet_209 rfl rfl ?_
      exact x_iret dR_meet_210 rfl rfl ⟨rfl, by dsimp only; unfold mt1 mtB mt2; rw [if_neg h124, if_pos (show (si (swA A y x (A 4 y.toNatClampNeg) n) 6 y.toNatClampNeg (A 6 y.toNatClampNeg - n)) 5 y.toNatClampNeg = 0 from h172), if_neg h124]; rfl⟩
theorem cR_meet {x : Int32} (hO : OM A) (hx0 : 0 ≤ x.toInt) (hx1 : x.toInt < (A 13 0).toInt) : x_C l G mR_meet 2 0 0 [xR (some (14, 0)), xI x] (hp N I J P V A B) [] (QM N I J P V (meM A B x)) := by
  have hc := hO.1
  have hx : vp_in x 120 := vp_of hx0 (by have := hc.2; omega)
  have ox := hO.2.1 x.toNatClampNeg (by rw [i_nat]; omega)
  have hr := fr_rng hc (A 1 x.toNatClampNeg) (1 - A 2 x.toNatClampNeg)
  refine x_C.at [some (xR (some (14, 0))), some (xI x), none, none] rfl (Nat.le_of_ble_eq_true rfl) rfl ?_
  refine x_aload_n 1 dR_meet_0 rfl rfl ?_
  refine x_aload_n 2 dR_meet_1 rfl rfl ?_
  refine x_get _ 5 fR_13 dR_meet_2 rfl rfl rfl ?_
  refine x_iload_n 6 dR_meet_5 rfl rfl ?_
  refine x_iald 7 dR_meet_6 rfl (h_ra 1 (by decide)) (by assumption) ?_
  refine x_iconst 1 8 dR_meet_7 rfl rfl ?_
  refine x_aload_n 9 dR_meet_8 rfl rfl ?_
  refine x_get _ 12 fR_16 dR_meet_9 rfl rfl rfl ?_
  refine x_iload_n 13 dR_meet_12 rfl rfl ?_
  refine x_iald 14 dR_meet_13 rfl (h_ra 2 (by decide)) (by assumption) ?_
  refine x_isub 15 dR_meet_14 rfl ?_
  refine x_fVv 18 (cR_front hc _ _) kR_74 oR_front rfl rfl dR_meet_15 rfl rfl (by decide) (Nat.le_of_ble_eq_true rfl) ?_
  refine x_istore_n 19 dR_meet_18 rfl (by decide) rfl ?_
  refine x_aload_n 20 dR_meet_19 rfl rfl ?_
  refine x_get _ 23 fR_25 dR_meet_20 rfl rfl rfl ?_
  refine x_iload_n 24 dR_meet_23 rfl rfl ?_
  refine x_iald 25 dR_meet_24 rfl (h_ra 5 (by decide)) (by assumption) ?_
  refine x_if_eq 62 28 dR_meet_25 (by decide) rfl (fun h25 => ?_) (fun h25 => ?_)
  · skip
    refine x_iconst 0 63 dR_meet_62 rfl rfl ?_
    exact x_iret dR_meet_63 rfl rfl (QM.ip h25 (⟨rfl, rfl⟩))
  · skip
    refine x_iload_n 29 dR_meet_28 rfl rfl ?_
    refine x_if_lt 62 32 dR_meet_29 (by decide) rfl (fun h29 => ?_) (fun h29 => ?_)
    · skip
      refine x_iconst 0 63 dR_meet_62 rfl rfl ?_
      exact x_iret dR_meet_63 rfl rfl (QM.ig h25 (QM.ip h29 (⟨rfl, rfl⟩)))
    · skip
      have hy0 : 0 ≤ (fr A (A 1 x.toNatClampNeg) (1 - A 2 x.toNatClampNeg)).toInt := by rw [i_lt, show (0 : Int32).toInt = 0 by decide] at h29; omega
      have hy : vp_in (fr A (A 1 x.toNatClampNeg) (1 - A 2 x.toNatClampNeg)) 120 := vp_of hy0 (by have := hc.2; omega)
      have oy := hO.2.1 (fr A (A 1 x.toNatClampNeg) (1 - A 2 x.toNatClampNeg)).toNatClampNeg (by rw [i_nat]; omega)
      refine x_aload_n 33 dR_meet_32 rfl rfl ?_
      refine x_get _ 36 fR_19 dR_meet_33 rfl rfl rfl ?_
      refine x_iload_n 37 dR_meet_36 rfl rfl ?_
      refine x_iald 38 dR_meet_37 rfl (h_ra 3 (by decide)) (by assumption) ?_
      refine x_aload_n 39 dR_meet_38 rfl rfl ?_
      refine x_get _ 42 fR_16 dR_meet_39 rfl rfl rfl ?_
      refine x_iload_n 43 dR_meet_42 rfl rfl ?_
      refine x_iald 44 dR_meet_43 rfl (h_ra 2 (by decide)) (by assumption) ?_
      refine x_aload_n 45 dR_meet_44 rfl rfl ?_
      refine x_get _ 48 fR_22 dR_meet_45 rfl rfl rfl ?_
      refine x_iload_n 49 dR_meet_48 rfl rfl ?_
      refine x_iald 50 dR_meet_49 rfl (h_ra 4 (by decide)) (by assumption) ?_
      refine x_aload_n 51 dR_meet_50 rfl rfl ?_
      refine x_get _ 54 fR_22 dR_meet_51 rfl rfl rfl ?_
      refine x_iload_n 55 dR_meet_54 rfl rfl ?_
      refine x_iald 56 dR_meet_55 rfl (h_ra 4 (by decide)) (by assumption) ?_
      refine x_fSv 59 (cR_good _ _ _ _) kR_78 oR_good dR_meet_56 rfl rfl (by decide) (Nat.le_of_ble_eq_true rfl) ?_
      refine x_if_ne 64 62 dR_meet_59 (by decide) rfl (fun h59 => ?_) (fun h59 => ?_)
      · skip
        refine x_aload_n 65 dR_meet_64 rfl rfl ?_
        refine x_get _ 68 fR_7 dR_meet_65 rfl rfl rfl ?_
        refine x_iload_n 69 dR_meet_68 rfl rfl ?_
        refine x_iald 70 dR_meet_69 rfl (h_ra 0 (by decide)) (by assumption) ?_
        refine x_aload_n 71 dR_meet_70 rfl rfl ?_
        refine x_get _ 74 fR_7 dR_meet_71 rfl rfl rfl ?_
        refine x_iload_n 75 dR_meet_74 rfl rfl ?_
        refine x_iald 76 dR_meet_75 rfl (h_ra 0 (by decide)) (by assumption) ?_
        refine x_icmp_ne 88 79 dR_meet_76 (by decide) rfl (fun h76 => ?_) (fun h76 => ?_)
        · skip
          refine x_aload_n 89 dR_meet_88 rfl rfl ?_
          refine x_get _ 92 fR_25 dR_meet_89 rfl rfl rfl ?_
          refine x_iload_n 93 dR_meet_92 rfl rfl ?_
          refine x_iald 94 dR_meet_93 rfl (h_ra 5 (by decide)) (by assumption) ?_
          refine x_aload_n 95 dR_meet_94 rfl rfl ?_
          refine x_iload_n 96 dR_meet_95 rfl rfl ?_
          refine x_fVv 99 (cR_shows hy) kR_82 oR_shows rfl rfl dR_meet_96 rfl rfl (by decide) (Nat.le_of_ble_eq_true rfl) ?_
          refine x_icmp_ge 111 102 dR_meet_99 (by decide) rfl (fun h99 => ?_) (fun h99 => ?_)
          · skip
            refine x_aload_n 112 dR_meet_111 rfl rfl ?_
            refine x_iload_n 113 dR_meet_112 rfl rfl ?_
            refine x_fVv 116 (cR_shows hy) kR_82 oR_shows rfl rfl dR_meet_113 rfl rfl (by decide) (Nat.le_of_ble_eq_true rfl) ?_
            refine x_istore_n 117 dR_meet_116 rfl (by decide) rfl ?_
            have hn : mtN A x (fr A (A 1 x.toNatClampNeg) (1 - A 2 x.toNatClampNeg)) = _ := if_pos h99
            exact x_Xm (fun r h1 z => QM.ig h25 (QM.ig h29 (QM.ig h59 (QM.ig h76 (z))))) (by rw [hn]; exact lp_R_meet hx hy ox oy hO.2.2 _)
          · skip
            refine x_aload_n 103 dR_meet_102 rfl rfl ?_
            refine x_get _ 106 fR_25 dR_meet_103 rfl rfl rfl ?_
            refine x_iload_n 107 dR_meet_106 rfl rfl ?_
            refine x_iald 108 dR_meet_107 rfl (h_ra 5 (by decide)) (by assumption) ?_
            refine x_goto 116 dR_meet_108 (by decide) ?_
            refine x_istore_n 117 dR_meet_116 rfl (by decide) rfl ?_
            have hn : mtN A x (fr A (A 1 x.toNatClampNeg) (1 - A 2 x.toNatClampNeg)) = _ := if_neg h99
            exact x_Xm (fun r h1 z => QM.ig h25 (QM.ig h29 (QM.ig h59 (QM.ig h76 (z))))) (by rw [hn]; exact lp_R_meet hx hy ox oy hO.2.2 _)
        · skip
          refine x_aload_n 80 dR_meet_79 rfl rfl ?_
          refine x_get _ 83 fR_31 dR_meet_80 rfl rfl rfl ?_
          refine x_iload_n 84 dR_meet_83 rfl rfl ?_
          refine x_iconst 2 85 dR_meet_84 rfl rfl ?_
          refine y_ra7 86 dR_meet_85 rfl (by assumption) ?_
          refine x_iconst 1 87 dR_meet_86 rfl rfl ?_
          exact x_iret dR_meet_87 rfl rfl (QM.ig h25 (QM.ig h29 (QM.ig h59 (QM.ip h76 (⟨rfl, rfl⟩)))))
      · skip
        refine x_iconst 0 63 dR_meet_62 rfl rfl ?_
        exact x_iret dR_meet_63 rfl rfl (QM.ig h25 (QM.ig h29 (QM.ip h59 (⟨rfl, rfl⟩))))
end MC
