section M9
variable {l : Launch} {G : xG} {N : Nat} {I : Nat → Nat → Int32} {J : Nat → Nat → Int64} {P : Nat → Nat → Option xQ} {V : Nat → Nat → Int32} {A : Nat → Nat → Int32} {B : Nat → Nat → Int64}
variable {h : xH} {ls : Nat → List Nat}
def bsA (I : Nat → Nat → Int32) (ls : Nat → List Nat) (i s : Int32) : Int32 := if isN i = 0 then -1 else if isD s = 0 then -1 else match ls (sdx i.toNatClampNeg s) with
  | [] => -6
  | o :: _ => I 5 o
def deA (I : Nat → Nat → Int32) (ls : Nat → List Nat) (i s p : Int32) : Int32 := if isN i = 0 then -1 else if isD s = 0 then -1 else if isP p = 0 then -1 else siq I p none 0 (ls (sdx i.toNatClampNeg s))
def ahA (I : Nat → Nat → Int32) (ls : Nat → List Nat) (x : Int32) : Int32 := if fnd I x = none then -6 else if I 8 x.toNatClampNeg = 0 then siq I (I 5 x.toNatClampNeg) (some (0, x.toNatClampNeg)) 0 (ls (sdx (I 2 x.toNatClampNeg).toNatClampNeg (I 3 x.toNatClampNeg))) else -6
def lfA (I : Nat → Nat → Int32) (c : Nat) (x : Int32) : Int32 := if fnd I x = none then -1 else I c x.toNatClampNeg
def trA (I : Nat → Nat → Int32) (k p : Int32) : Int32 := if p < 0 then -1 else if p < 4 then (if b01 (¬ k < 0 ∧ ¬ I 13 0 ≤ k ∧ ¬ k < I 13 0 - 100) = 0 then -6 else I 14 (trow k + p).toNatClampNeg) else -1
def poA (V : Nat → Nat → Int32) (m i : Int32) : Int32 := if isM m = 0 then 0 else if isN i = 0 then 0 else V m.toNatClampNeg i.toNatClampNeg
def moA (J : Nat → Nat → Int64) (c : Nat) (m : Int32) : Int64 := if isM m = 0 then 0 else J c m.toNatClampNeg
def riA (I V : Nat → Nat → Int32) (ls : Nat → List Nat) (m : Int32) : Int64 := if isM m = 0 then 0 else rsk I V ls m 0 0 0
theorem trow_p {k p : Int32} (hk : 0 ≤ k.toInt) (h0 : 0 ≤ p.toInt) (h4 : p.toInt < 4) : vp_in (trow k + p) 400 := by
  have e := (trow_in hk).1
  have a : (trow k + p).toInt = (trow k).toInt + p.toInt := Kit.i32_add (by rw [e]; omega) (by rw [e]; omega)
  exact vp_of (by rw [a, e]; omega) (by rw [a, e]; omega)
theorem cC_best (hS : HS N (I, J, V, ls) A B h) (i s : Int32) : x_C l G mC_best 1 0 0 [xR (some (5, 0)), xI i, xI s] h [] (x_is (some (xI (bsA I ls i s))) h) := by
  obtain ⟨P, rfl, hQ, hP2⟩ := hS.out
  refine x_C.at [some (xR (some (5, 0))), some (xI i), some (xI s), none] rfl (Nat.le_of_ble_eq_true rfl) rfl ?_
  cases hl : ls (sdx i.toNatClampNeg s) with
  | nil =>
    refine x_iload_n 1 dC_best_0 rfl rfl ?_
    refine x_fSv 4 (cC_isInstrument _) kC_61 oC_isInstrument dC_best_1 rfl rfl (by decide) (Nat.le_of_ble_eq_true rfl) ?_
    refine x_if_eq 14 7 dC_best_4 (by decide) rfl (fun h4 => ?_) (fun h4 => ?_)
    · skip
      refine x_iconst (-1) 15 dC_best_14 rfl rfl ?_
      exact x_iret dC_best_15 rfl rfl ⟨by unfold bsA; simp only [if_pos h4], rfl⟩
    · skip
      refine x_iload_n 8 dC_best_7 rfl rfl ?_
      refine x_fSv 11 (cC_isSide _) kC_133 oC_isSide dC_best_8 rfl rfl (by decide) (Nat.le_of_ble_eq_true rfl) ?_
      refine x_if_ne 16 14 dC_best_11 (by decide) rfl (fun h11 => ?_) (fun h11 => ?_)
      · skip
        refine x_aload_n 17 dC_best_16 rfl rfl ?_
        refine x_get _ 20 fC_17 dC_best_17 rfl rfl rfl ?_
        refine x_iload_n 21 dC_best_20 rfl rfl ?_
        refine x_aald 22 rfl dC_best_21 rfl rfl (vN h4) ?_
        refine x_iload_n 23 dC_best_22 rfl rfl ?_
        refine x_fVv 26 (cB_on (vp_lt (vN h4)) _) kC_136 oB_on rfl (h_B (vp_lt (vN h4))) dC_best_23 rfl rfl (by decide) (Nat.le_of_ble_eq_true rfl) ?_
        refine x_get _ 29 fC_140 dC_best_26 rfl (h_D (sdx_lt (vp_lt (vN h4)) _)) rfl ?_
        have hch := hQ.1 _ (sdx_lt (vp_lt (vN h4)) s)
        rw [hl] at hch
        rw [show P 1 (sdx i.toNatClampNeg s) = none from hch]
        refine x_astore_n 30 dC_best_29 rfl (by decide) rfl ?_
        refine x_aload_n 31 dC_best_30 rfl rfl ?_
        refine x_ifnonnull_n 39 34 dC_best_31 (by decide) rfl ?_
        refine x_bipush (-6) 36 dC_best_34 rfl rfl ?_
        refine x_goto 43 dC_best_36 (by decide) ?_
        exact x_iret dC_best_43 rfl rfl ⟨by unfold bsA; simp only [if_neg h4, if_neg h11, hl], rfl⟩
      · skip
        refine x_iconst (-1) 15 dC_best_14 rfl rfl ?_
        exact x_iret dC_best_15 rfl rfl ⟨by unfold bsA; simp only [if_neg h4, if_pos h11], rfl⟩
  | cons o c =>
    refine x_iload_n 1 dC_best_0 rfl rfl ?_
    refine x_fSv 4 (cC_isInstrument _) kC_61 oC_isInstrument dC_best_1 rfl rfl (by decide) (Nat.le_of_ble_eq_true rfl) ?_
    refine x_if_eq 14 7 dC_best_4 (by decide) rfl (fun h4 => ?_) (fun h4 => ?_)
    · skip
      refine x_iconst (-1) 15 dC_best_14 rfl rfl ?_
      exact x_iret dC_best_15 rfl rfl ⟨by unfold bsA; simp only [if_pos h4], rfl⟩
    · skip
      refine x_iload_n 8 dC_best_7 rfl rfl ?_
      refine x_fSv 11 (cC_isSide _) kC_133 oC_isSide dC_best_8 rfl rfl (by decide) (Nat.le_of_ble_eq_true rfl) ?_
      refine x_if_ne 16 14 dC_best_11 (by decide) rfl (fun h11 => ?_) (fun h11 => ?_)
      · skip
        refine x_aload_n 17 dC_best_16 rfl rfl ?_
        refine x_get _ 20 fC_17 dC_best_17 rfl rfl rfl ?_
        refine x_iload_n 21 dC_best_20 rfl rfl ?_
        refine x_aald 22 rfl dC_best_21 rfl rfl (vN h4) ?_
        refine x_iload_n 23 dC_best_22 rfl rfl ?_
        refine x_fVv 26 (cB_on (vp_lt (vN h4)) _) kC_136 oB_on rfl (h_B (vp_lt (vN h4))) dC_best_23 rfl rfl (by decide) (Nat.le_of_ble_eq_true rfl) ?_
        refine x_get _ 29 fC_140 dC_best_26 rfl (h_D (sdx_lt (vp_lt (vN h4)) _)) rfl ?_
        have hch := hQ.1 _ (sdx_lt (vp_lt (vN h4)) s)
        rw [hl] at hch
        have ho := hQ.2.1 _ (sdx_lt (vp_lt (vN h4)) s) o (by rw [hl]; exact List.mem_cons_self)
        rw [show P 1 (sdx i.toNatClampNeg s) = some (0, o) from hch.1]
        refine x_astore_n 30 dC_best_29 rfl (by decide) rfl ?_
        refine x_aload_n 31 dC_best_30 rfl rfl ?_
        refine x_ifnonnull_s 39 34 dC_best_31 (by decide) rfl ?_
        refine x_aload_n 40 dC_best_39 rfl rfl ?_
        refine x_get _ 43 fC_146 dC_best_40 rfl (h_O (by assumption)) rfl ?_
        exact x_iret dC_best_43 rfl rfl ⟨by unfold bsA; simp only [if_neg h4, if_neg h11, hl], rfl⟩
      · skip
        refine x_iconst (-1) 15 dC_best_14 rfl rfl ?_
        exact x_iret dC_best_15 rfl rfl ⟨by unfold bsA; simp only [if_neg h4, if_pos h11], rfl⟩
theorem cC_depth (hS : HS N (I, J, V, ls) A B h) (i s p : Int32) : x_C l G mC_depth 1 0 0 [xR (some (5, 0)), xI i, xI s, xI p] (h) [] (x_is (some (xI (deA I ls i s p))) h) := by
  obtain ⟨P, rfl, hQ, hP2⟩ := hS.out
  refine x_C.at [some (xR (some (5, 0))), some (xI i), some (xI s), some (xI p)] rfl (Nat.le_of_ble_eq_true rfl) rfl ?_
  refine x_iload_n 1 dC_depth_0 rfl rfl ?_
  refine x_fSv 4 (cC_isInstrument _) kC_61 oC_isInstrument dC_depth_1 rfl rfl (by decide) (Nat.le_of_ble_eq_true rfl) ?_
  refine x_if_eq 21 7 dC_depth_4 (by decide) rfl (fun h4 => ?_) (fun h4 => ?_)
  · skip
    refine x_iconst (-1) 22 dC_depth_21 rfl rfl ?_
    exact x_iret dC_depth_22 rfl rfl ⟨by unfold deA; simp only [if_pos h4], rfl⟩
  · skip
    refine x_iload_n 8 dC_depth_7 rfl rfl ?_
    refine x_fSv 11 (cC_isSide _) kC_133 oC_isSide dC_depth_8 rfl rfl (by decide) (Nat.le_of_ble_eq_true rfl) ?_
    refine x_if_eq 21 14 dC_depth_11 (by decide) rfl (fun h11 => ?_) (fun h11 => ?_)
    · skip
      refine x_iconst (-1) 22 dC_depth_21 rfl rfl ?_
      exact x_iret dC_depth_22 rfl rfl ⟨by unfold deA; simp only [if_neg h4, if_pos h11], rfl⟩
    · skip
      refine x_iload_n 15 dC_depth_14 rfl rfl ?_
      refine x_fSv 18 (cC_isPrice _) kC_71 oC_isPrice dC_depth_15 rfl rfl (by decide) (Nat.le_of_ble_eq_true rfl) ?_
      refine x_if_ne 23 21 dC_depth_18 (by decide) rfl (fun h18 => ?_) (fun h18 => ?_)
      · skip
        refine x_aload_n 24 dC_depth_23 rfl rfl ?_
        refine x_get _ 27 fC_17 dC_depth_24 rfl rfl rfl ?_
        refine x_iload_n 28 dC_depth_27 rfl rfl ?_
        refine x_aald 29 rfl dC_depth_28 rfl rfl (vN h4) ?_
        refine x_iload_n 30 dC_depth_29 rfl rfl ?_
        refine x_fVv 33 (cB_on (vp_lt (vN h4)) _) kC_136 oB_on rfl (h_B (vp_lt (vN h4))) dC_depth_30 rfl rfl (by decide) (Nat.le_of_ble_eq_true rfl) ?_
        refine x_iload_n 34 dC_depth_33 rfl rfl ?_
        refine x_null 35 dC_depth_34 rfl ?_
        refine x_fVv 38 (cD_shownInQueue (sdx_lt (vp_lt (vN h4)) _) (fun a ha => by cases ha) (hQ.1 _ (sdx_lt (vp_lt (vN h4)) _)) (hQ.2.1 _ (sdx_lt (vp_lt (vN h4)) _)) _) kC_149 oD_shownInQueue rfl (h_D (sdx_lt (vp_lt (vN h4)) _)) dC_depth_35 rfl rfl (by decide) (Nat.le_of_ble_eq_true rfl) ?_
        exact x_iret dC_depth_38 rfl rfl ⟨by unfold deA; simp only [if_neg h4, if_neg h11, if_neg h18], rfl⟩
      · skip
        refine x_iconst (-1) 22 dC_depth_21 rfl rfl ?_
        exact x_iret dC_depth_22 rfl rfl ⟨by unfold deA; simp only [if_neg h4, if_neg h11, if_pos h18], rfl⟩
theorem cC_ahead {t : Int} (hS : HS N (I, J, V, ls) A B h) (hV : CV N I ls t) (x : Int32) : x_C l G mC_ahead 1 0 0 [xR (some (5, 0)), xI x] h [] (x_is (some (xI (ahA I ls x))) h) := by
  obtain ⟨P, rfl, hQ, hP2⟩ := hS.out
  have hf := hV.FD hP2
  refine x_C.at [some (xR (some (5, 0))), some (xI x), none] rfl (Nat.le_of_ble_eq_true rfl) rfl ?_
  rcases fnd_cs I x with hq | ⟨g1, g2, hq⟩
  · skip
    refine x_aload_n 1 dC_ahead_0 rfl rfl ?_
    refine x_iload_n 2 dC_ahead_1 rfl rfl ?_
    refine x_fVv 5 (cC_find_n hf hq) kC_153 oC_find rfl rfl dC_ahead_2 rfl rfl (by decide) (Nat.le_of_ble_eq_true rfl) ?_
    refine x_astore_n 6 dC_ahead_5 rfl (by decide) rfl ?_
    refine x_aload_n 7 dC_ahead_6 rfl rfl ?_
    refine x_ifnull_n 17 10 dC_ahead_7 (by decide) rfl ?_
    refine x_bipush (-6) 19 dC_ahead_17 rfl rfl ?_
    exact x_iret dC_ahead_19 rfl rfl ⟨by unfold ahA; rw [if_pos hq], rfl⟩
  · have hk := (hf x g1 g2).2.2
    have ok := hV.1.1 _ hk
    have hn : ¬ fnd I x = none := fun z => by rw [hq] at z; cases z
    refine x_aload_n 1 dC_ahead_0 rfl rfl ?_
    refine x_iload_n 2 dC_ahead_1 rfl rfl ?_
    refine x_fVv 5 (cC_find_s hf hq) kC_153 oC_find rfl rfl dC_ahead_2 rfl rfl (by decide) (Nat.le_of_ble_eq_true rfl) ?_
    refine x_astore_n 6 dC_ahead_5 rfl (by decide) rfl ?_
    refine x_aload_n 7 dC_ahead_6 rfl rfl ?_
    refine x_ifnull_s 17 10 dC_ahead_7 (by decide) rfl ?_
    refine x_aload_n 11 dC_ahead_10 rfl rfl ?_
    refine x_get _ 14 fC_157 dC_ahead_11 rfl (h_O (by assumption)) rfl ?_
    refine x_if_eq 20 17 dC_ahead_14 (by decide) rfl (fun h14 => ?_) (fun h14 => ?_)
    · skip
      refine x_aload_n 21 dC_ahead_20 rfl rfl ?_
      refine x_get _ 24 fC_17 dC_ahead_21 rfl rfl rfl ?_
      refine x_aload_n 25 dC_ahead_24 rfl rfl ?_
      refine x_get _ 28 fC_160 dC_ahead_25 rfl (h_O (by assumption)) rfl ?_
      refine x_aald 29 rfl dC_ahead_28 rfl rfl ok.2.1 ?_
      refine x_aload_n 30 dC_ahead_29 rfl rfl ?_
      refine x_get _ 33 fC_163 dC_ahead_30 rfl (h_O (by assumption)) rfl ?_
      refine x_fVv 36 (cB_on (vp_lt ok.2.1) _) kC_136 oB_on rfl (h_B (vp_lt ok.2.1)) dC_ahead_33 rfl rfl (by decide) (Nat.le_of_ble_eq_true rfl) ?_
      refine x_aload_n 37 dC_ahead_36 rfl rfl ?_
      refine x_get _ 40 fC_146 dC_ahead_37 rfl (h_O (by assumption)) rfl ?_
      refine x_aload_n 41 dC_ahead_40 rfl rfl ?_
      refine x_fVv 44 (cD_shownInQueue (sdx_lt (vp_lt ok.2.1) _) (h_Oa hk) (hQ.1 _ (sdx_lt (vp_lt ok.2.1) _)) (hQ.2.1 _ (sdx_lt (vp_lt ok.2.1) _)) _) kC_149 oD_shownInQueue rfl (h_D (sdx_lt (vp_lt ok.2.1) _)) dC_ahead_41 rfl rfl (by decide) (Nat.le_of_ble_eq_true rfl) ?_
      exact x_iret dC_ahead_44 rfl rfl ⟨by unfold ahA; rw [if_neg hn, if_pos h14], rfl⟩
    · skip
      refine x_bipush (-6) 19 dC_ahead_17 rfl rfl ?_
      exact x_iret dC_ahead_19 rfl rfl ⟨by unfold ahA; rw [if_neg hn, if_neg h14], rfl⟩
theorem cC_left {t : Int} (hS : HS N (I, J, V, ls) A B h) (hV : CV N I ls t) (x : Int32) : x_C l G mC_left 1 0 0 [xR (some (5, 0)), xI x] h [] (x_is (some (xI (lfA I 6 x))) h) := by
  obtain ⟨P, rfl, hQ, hP2⟩ := hS.out
  have hf := hV.FD hP2
  refine x_C.at [some (xR (some (5, 0))), some (xI x), none] rfl (Nat.le_of_ble_eq_true rfl) rfl ?_
  rcases fnd_cs I x with hq | ⟨g1, g2, hq⟩
  · skip
    refine x_aload_n 1 dC_left_0 rfl rfl ?_
    refine x_iload_n 2 dC_left_1 rfl rfl ?_
    refine x_fVv 5 (cC_find_n hf hq) kC_153 oC_find rfl rfl dC_left_2 rfl rfl (by decide) (Nat.le_of_ble_eq_true rfl) ?_
    refine x_astore_n 6 dC_left_5 rfl (by decide) rfl ?_
    refine x_aload_n 7 dC_left_6 rfl rfl ?_
    refine x_ifnonnull_n 14 10 dC_left_7 (by decide) rfl ?_
    refine x_iconst (-1) 11 dC_left_10 rfl rfl ?_
    refine x_goto 18 dC_left_11 (by decide) ?_
    exact x_iret dC_left_18 rfl rfl ⟨by unfold lfA; rw [if_pos hq], rfl⟩
  · have hk := (hf x g1 g2).2.2
    have ok := hV.1.1 _ hk
    have hn : ¬ fnd I x = none := fun z => by rw [hq] at z; cases z
    refine x_aload_n 1 dC_left_0 rfl rfl ?_
    refine x_iload_n 2 dC_left_1 rfl rfl ?_
    refine x_fVv 5 (cC_find_s hf hq) kC_153 oC_find rfl rfl dC_left_2 rfl rfl (by decide) (Nat.le_of_ble_eq_true rfl) ?_
    refine x_astore_n 6 dC_left_5 rfl (by decide) rfl ?_
    refine x_aload_n 7 dC_left_6 rfl rfl ?_
    refine x_ifnonnull_s 14 10 dC_left_7 (by decide) rfl ?_
    refine x_aload_n 15 dC_left_14 rfl rfl ?_
    refine x_get _ 18 fC_107 dC_left_15 rfl (h_O (by assumption)) rfl ?_
    exact x_iret dC_left_18 rfl rfl ⟨by unfold lfA; rw [if_neg hn], rfl⟩
theorem cC_state {t : Int} (hS : HS N (I, J, V, ls) A B h) (hV : CV N I ls t) (x : Int32) : x_C l G mC_state 1 0 0 [xR (some (5, 0)), xI x] h [] (x_is (some (xI (lfA I 8 x))) h) := by
  obtain ⟨P, rfl, hQ, hP2⟩ := hS.out
  have hf := hV.FD hP2
  refine x_C.at [some (xR (some (5, 0))), some (xI x), none] rfl (Nat.le_of_ble_eq_true rfl) rfl ?_
  rcases fnd_cs I x with hq | ⟨g1, g2, hq⟩
  · skip
    refine x_aload_n 1 dC_state_0 rfl rfl ?_
    refine x_iload_n 2 dC_state_1 rfl rfl ?_
    refine x_fVv 5 (cC_find_n hf hq) kC_153 oC_find rfl rfl dC_state_2 rfl rfl (by decide) (Nat.le_of_ble_eq_true rfl) ?_
    refine x_astore_n 6 dC_state_5 rfl (by decide) rfl ?_
    refine x_aload_n 7 dC_state_6 rfl rfl ?_
    refine x_ifnonnull_n 14 10 dC_state_7 (by decide) rfl ?_
    refine x_iconst (-1) 11 dC_state_10 rfl rfl ?_
    refine x_goto 18 dC_state_11 (by decide) ?_
    exact x_iret dC_state_18 rfl rfl ⟨by unfold lfA; rw [if_pos hq], rfl⟩
  · have hk := (hf x g1 g2).2.2
    have ok := hV.1.1 _ hk
    have hn : ¬ fnd I x = none := fun z => by rw [hq] at z; cases z
    refine x_aload_n 1 dC_state_0 rfl rfl ?_
    refine x_iload_n 2 dC_state_1 rfl rfl ?_
    refine x_fVv 5 (cC_find_s hf hq) kC_153 oC_find rfl rfl dC_state_2 rfl rfl (by decide) (Nat.le_of_ble_eq_true rfl) ?_
    refine x_astore_n 6 dC_state_5 rfl (by decide) rfl ?_
    refine x_aload_n 7 dC_state_6 rfl rfl ?_
    refine x_ifnonnull_s 14 10 dC_state_7 (by decide) rfl ?_
    refine x_aload_n 15 dC_state_14 rfl rfl ?_
    refine x_get _ 18 fC_157 dC_state_15 rfl (h_O (by assumption)) rfl ?_
    exact x_iret dC_state_18 rfl rfl ⟨by unfold lfA; rw [if_neg hn], rfl⟩
theorem cC_trades (hS : HS N (I, J, V, ls) A B h) : x_C l G mC_trades 0 0 0 [xR (some (5, 0))] (h) [] (x_is (some (xI (I 13 0))) h) := by
  obtain ⟨P, rfl, hQ, hP2⟩ := hS.out
  refine x_C.at [some (xR (some (5, 0)))] rfl (Nat.le_of_ble_eq_true rfl) rfl ?_
  refine x_aload_n 1 dC_trades_0 rfl rfl ?_
  refine x_get _ 4 fC_30 dC_trades_1 rfl rfl rfl ?_
  refine x_get _ 7 fC_166 dC_trades_4 rfl rfl rfl ?_
  exact x_iret dC_trades_7 rfl rfl ⟨rfl, rfl⟩
theorem trow_q {I : Nat → Nat → Int32} {k p : Int32} (h : ¬ b01 (¬ k < 0 ∧ ¬ I 13 0 ≤ k ∧ ¬ k < I 13 0 - 100) = 0) (h0 : ¬ p < 0) (h4 : p < 4) : vp_in (trow k + p) 400 := by
  have hz := (b01_nz.mp h).1
  rw [i_lt] at hz h0 h4
  have e0 : (0 : Int32).toInt = 0 := by decide
  have e4 : (4 : Int32).toInt = 4 := by decide
  exact trow_p (by omega) (by omega) (by omega)
theorem cC_trade (hS : HS N (I, J, V, ls) A B h) (k p : Int32) : x_C l G mC_trade 1 0 0 [xR (some (5, 0)), xI k, xI p] (h) [] (x_is (some (xI (trA I k p))) h) := by
  obtain ⟨P, rfl, hQ, hP2⟩ := hS.out
  refine x_C.at [some (xR (some (5, 0))), some (xI k), some (xI p)] rfl (Nat.le_of_ble_eq_true rfl) rfl ?_
  refine x_iload_n 1 dC_trade_0 rfl rfl ?_
  refine x_if_lt 9 4 dC_trade_1 (by decide) rfl (fun h1 => ?_) (fun h1 => ?_)
  · skip
    refine x_iconst (-1) 10 dC_trade_9 rfl rfl ?_
    exact x_iret dC_trade_10 rfl rfl ⟨by unfold trA; simp only [if_pos h1], rfl⟩
  · skip
    refine x_iload_n 5 dC_trade_4 rfl rfl ?_
    refine x_iconst 4 6 dC_trade_5 rfl rfl ?_
    refine x_icmp_lt 11 9 dC_trade_6 (by decide) rfl (fun h6 => ?_) (fun h6 => ?_)
    · skip
      refine x_aload_n 12 dC_trade_11 rfl rfl ?_
      refine x_get _ 15 fC_30 dC_trade_12 rfl rfl rfl ?_
      refine x_iload_n 16 dC_trade_15 rfl rfl ?_
      refine x_fVv 19 (cT_holds _) kC_169 oT_holds rfl rfl dC_trade_16 rfl rfl (by decide) (Nat.le_of_ble_eq_true rfl) ?_
      refine x_if_eq 34 22 dC_trade_19 (by decide) rfl (fun h19 => ?_) (fun h19 => ?_)
      · skip
        refine x_bipush (-6) 36 dC_trade_34 rfl rfl ?_
        exact x_iret dC_trade_36 rfl rfl ⟨by unfold trA; simp only [if_neg h1, if_pos h6, if_pos h19], rfl⟩
      · skip
        refine x_aload_n 23 dC_trade_22 rfl rfl ?_
        refine x_get _ 26 fC_30 dC_trade_23 rfl rfl rfl ?_
        refine x_iload_n 27 dC_trade_26 rfl rfl ?_
        refine x_iload_n 28 dC_trade_27 rfl rfl ?_
        refine x_fVv 31 (cT_read (trow_q h19 h1 h6)) kC_172 oT_read rfl rfl dC_trade_28 rfl rfl (by decide) (Nat.le_of_ble_eq_true rfl) ?_
        refine x_goto 36 dC_trade_31 (by decide) ?_
        exact x_iret dC_trade_36 rfl rfl ⟨by unfold trA; simp only [if_neg h1, if_pos h6, if_neg h19], rfl⟩
    · skip
      refine x_iconst (-1) 10 dC_trade_9 rfl rfl ?_
      exact x_iret dC_trade_10 rfl rfl ⟨by unfold trA; simp only [if_neg h1, if_neg h6], rfl⟩
theorem cC_position (hS : HS N (I, J, V, ls) A B h) (m i : Int32) : x_C l G mC_position 1 0 0 [xR (some (5, 0)), xI m, xI i] (h) [] (x_is (some (xI (poA V m i))) h) := by
  obtain ⟨P, rfl, hQ, hP2⟩ := hS.out
  refine x_C.at [some (xR (some (5, 0))), some (xI m), some (xI i)] rfl (Nat.le_of_ble_eq_true rfl) rfl ?_
  refine x_iload_n 1 dC_position_0 rfl rfl ?_
  refine x_fSv 4 (cC_isMember _) kC_47 oC_isMember dC_position_1 rfl rfl (by decide) (Nat.le_of_ble_eq_true rfl) ?_
  refine x_if_eq 28 7 dC_position_4 (by decide) rfl (fun h4 => ?_) (fun h4 => ?_)
  · skip
    refine x_iconst 0 29 dC_position_28 rfl rfl ?_
    exact x_iret dC_position_29 rfl rfl ⟨by unfold poA; simp only [if_pos h4], rfl⟩
  · skip
    refine x_iload_n 8 dC_position_7 rfl rfl ?_
    refine x_fSv 11 (cC_isInstrument _) kC_61 oC_isInstrument dC_position_8 rfl rfl (by decide) (Nat.le_of_ble_eq_true rfl) ?_
    refine x_if_eq 28 14 dC_position_11 (by decide) rfl (fun h11 => ?_) (fun h11 => ?_)
    · skip
      refine x_iconst 0 29 dC_position_28 rfl rfl ?_
      exact x_iret dC_position_29 rfl rfl ⟨by unfold poA; simp only [if_neg h4, if_pos h11], rfl⟩
    · skip
      refine x_aload_n 15 dC_position_14 rfl rfl ?_
      refine x_get _ 18 fC_11 dC_position_15 rfl rfl rfl ?_
      refine x_iload_n 19 dC_position_18 rfl rfl ?_
      refine x_aald 20 rfl dC_position_19 rfl rfl (vM h4) ?_
      refine x_get _ 23 fC_175 dC_position_20 rfl (h_A (vp_lt (vM h4))) rfl ?_
      refine x_iload_n 24 dC_position_23 rfl rfl ?_
      refine x_iald 25 dC_position_24 rfl (h_P (vp_lt (vM h4))) (vN h11) ?_
      refine x_goto 29 dC_position_25 (by decide) ?_
      exact x_iret dC_position_29 rfl rfl ⟨by unfold poA; simp only [if_neg h4, if_neg h11], rfl⟩
theorem cC_money (hS : HS N (I, J, V, ls) A B h) (m : Int32) : x_C l G mC_money 1 0 0 [xR (some (5, 0)), xI m] (h) [] (x_is (some (xJ (moA J 0 m))) h) := by
  obtain ⟨P, rfl, hQ, hP2⟩ := hS.out
  refine x_C.at [some (xR (some (5, 0))), some (xI m)] rfl (Nat.le_of_ble_eq_true rfl) rfl ?_
  refine x_iload_n 1 dC_money_0 rfl rfl ?_
  refine x_fSv 4 (cC_isMember _) kC_47 oC_isMember dC_money_1 rfl rfl (by decide) (Nat.le_of_ble_eq_true rfl) ?_
  refine x_if_eq 19 7 dC_money_4 (by decide) rfl (fun h4 => ?_) (fun h4 => ?_)
  · skip
    refine x_lconst 0 20 dC_money_19 rfl rfl ?_
    exact x_lret dC_money_20 rfl ⟨by unfold moA; simp only [if_pos h4], rfl⟩
  · skip
    refine x_aload_n 8 dC_money_7 rfl rfl ?_
    refine x_get _ 11 fC_11 dC_money_8 rfl rfl rfl ?_
    refine x_iload_n 12 dC_money_11 rfl rfl ?_
    refine x_aald 13 rfl dC_money_12 rfl rfl (vM h4) ?_
    refine x_get _ 16 fC_53 dC_money_13 rfl (h_A (vp_lt (vM h4))) rfl ?_
    refine x_goto 20 dC_money_16 (by decide) ?_
    exact x_lret dC_money_20 rfl ⟨by unfold moA; simp only [if_neg h4], rfl⟩
theorem cC_owed (hS : HS N (I, J, V, ls) A B h) (m : Int32) : x_C l G mC_owed 1 0 0 [xR (some (5, 0)), xI m] (h) [] (x_is (some (xJ (moA J 1 m))) h) := by
  obtain ⟨P, rfl, hQ, hP2⟩ := hS.out
  refine x_C.at [some (xR (some (5, 0))), some (xI m)] rfl (Nat.le_of_ble_eq_true rfl) rfl ?_
  refine x_iload_n 1 dC_owed_0 rfl rfl ?_
  refine x_fSv 4 (cC_isMember _) kC_47 oC_isMember dC_owed_1 rfl rfl (by decide) (Nat.le_of_ble_eq_true rfl) ?_
  refine x_if_eq 19 7 dC_owed_4 (by decide) rfl (fun h4 => ?_) (fun h4 => ?_)
  · skip
    refine x_lconst 0 20 dC_owed_19 rfl rfl ?_
    exact x_lret dC_owed_20 rfl ⟨by unfold moA; simp only [if_pos h4], rfl⟩
  · skip
    refine x_aload_n 8 dC_owed_7 rfl rfl ?_
    refine x_get _ 11 fC_11 dC_owed_8 rfl rfl rfl ?_
    refine x_iload_n 12 dC_owed_11 rfl rfl ?_
    refine x_aald 13 rfl dC_owed_12 rfl rfl (vM h4) ?_
    refine x_get _ 16 fC_179 dC_owed_13 rfl (h_A (vp_lt (vM h4))) rfl ?_
    refine x_goto 20 dC_owed_16 (by decide) ?_
    exact x_lret dC_owed_20 rfl ⟨by unfold moA; simp only [if_neg h4], rfl⟩
theorem cC_risk (hS : HS N (I, J, V, ls) A B h) (m : Int32) : x_C l G mC_risk 3 0 0 [xR (some (5, 0)), xI m] (h) [] (x_is (some (xJ (riA I V ls m))) h) := by
  obtain ⟨P, rfl, hQ, hP2⟩ := hS.out
  refine x_C.at [some (xR (some (5, 0))), some (xI m)] rfl (Nat.le_of_ble_eq_true rfl) rfl ?_
  refine x_iload_n 1 dC_risk_0 rfl rfl ?_
  refine x_fSv 4 (cC_isMember _) kC_47 oC_isMember dC_risk_1 rfl rfl (by decide) (Nat.le_of_ble_eq_true rfl) ?_
  refine x_if_eq 15 7 dC_risk_4 (by decide) rfl (fun h4 => ?_) (fun h4 => ?_)
  · skip
    refine x_lconst 0 16 dC_risk_15 rfl rfl ?_
    exact x_lret dC_risk_16 rfl ⟨by unfold riA; simp only [if_pos h4], rfl⟩
  · skip
    refine x_aload_n 8 dC_risk_7 rfl rfl ?_
    refine x_iload_n 9 dC_risk_8 rfl rfl ?_
    refine x_fVv 12 (cC_riskOf (vM h4) hQ.1 hQ.2.1) kC_57 oC_riskOf rfl rfl dC_risk_9 rfl rfl (by decide) (Nat.le_of_ble_eq_true rfl) ?_
    refine x_goto 16 dC_risk_12 (by decide) ?_
    exact x_lret dC_risk_16 rfl ⟨by unfold riA; simp only [if_neg h4], rfl⟩
def edS (I : Nat → Nat → Int32) (J : Nat → Nat → Int64) (V : Nat → Nat → Int32) (ls : Nat → List Nat) (i : Nat) : cS := (si (wdI (wdI I (ls (2 * i))) (x_uf ls (2 * i) [] (2 * i + 1))) 10 i 0, J, V, x_uf (x_uf ls (2 * i) []) (2 * i + 1) [])
theorem cB_endDay {i : Nat} (hS : HS N (I, J, V, ls) A B h) (hi : i < 2) : x_C l G mB_endDay 1 0 0 [xR (some (3, i))] (h) [] (x_ex none (HS N (edS I J V ls i) A B)) := by
  obtain ⟨P, rfl, hQ, hP2⟩ := hS.out
  have j0 : 2 * i < 4 := by omega
  have j1 : 2 * i + 1 < 4 := by omega
  have hQ1 := hQ.clear (2 * i)
  refine x_C.at [some (xR (some (3, i)))] rfl (Nat.le_of_ble_eq_true rfl) rfl ?_
  refine x_aload_n 1 dB_endDay_0 rfl rfl ?_
  refine x_get _ 4 fB_12 dB_endDay_1 rfl (h_B (by assumption)) rfl ?_
  refine x_fVn 7 (cD_withdrawAll j0 (hQ.1 _ j0) (hQ.2.1 _ j0)) kB_59 oD_withdrawAll rfl (h_D (by assumption)) dB_endDay_4 rfl rfl (by decide) (Nat.le_of_ble_eq_true rfl) ?_
  refine x_aload_n 8 dB_endDay_7 rfl rfl ?_
  refine x_get _ 11 fB_18 dB_endDay_8 rfl (h_B (by assumption)) rfl ?_
  refine x_fVn 14 (cD_withdrawAll j1 (hQ1.1 _ j1) (hQ1.2.1 _ j1)) kB_59 oD_withdrawAll rfl (h_D (by assumption)) dB_endDay_11 rfl rfl (by decide) (Nat.le_of_ble_eq_true rfl) ?_
  refine x_aload_n 15 dB_endDay_14 rfl rfl ?_
  refine x_iconst 0 16 dB_endDay_15 rfl rfl ?_
  refine y_B2 19 pB_endDay_21 dB_endDay_16 rfl (by assumption) (fun _ => ⟨rfl, rfl⟩) ?_
  exact x_vret dB_endDay_19 rfl ⟨rfl, _, rfl, hQ1.clear _, (hP2.clear _).clear _⟩
def stF : Nat → Int32 → (Nat → Nat → Int64) → Int32 → Int32 × (Nat → Nat → Int64)
  | 0, _, J, n => (n, J)
  | k + 1, e, J, n => stF k (e + Int32.ofInt 1) (sj (sj J 0 e.toNatClampNeg (J 0 e.toNatClampNeg + J 1 e.toNatClampNeg)) 1 e.toNatClampNeg 0) (if lg_cmp (J 1 e.toNatClampNeg) 0 = 0 then n else n + Int32.ofInt 1)
def stS (I : Nat → Nat → Int32) (J : Nat → Nat → Int64) (V : Nat → Nat → Int32) (ls : Nat → List Nat) : Int32 × cS := ((stF 5 0 J 0).1, ((edS (edS I J V ls 0).1 J V (edS I J V ls 0).2.2.2 1).1, (stF 5 0 J 0).2, V, (edS (edS I J V ls 0).1 J V (edS I J V ls 0).2.2.2 1).2.2.2))
theorem c5 : (5 : Int32).toInt = 5 := by decide
theorem lp_settle (T : Int32 × (Nat → Nat → Int64)) (hQ : QS N P ls) (hP2 : PP N P) : ∀ (n : Nat) (e v : Int32) (J : Nat → Nat → Int64) (x : Option xV), e.toInt + n = 5 → 0 ≤ e.toInt → stF n e J v = T → x_X l G mC_settle 2 0 0 [] (QR N (T.1, (I, T.2, V, ls)) A B) 26 [some (xR (some (5, 0))), some (xI v), some (xI e), x] [] (hp N I J P V A B) := by
  intro n
  induction n with
  | zero =>
    intro e v J x he1 he0 hT
    subst hT
    refine x_iload_n 27 dC_settle_26 rfl rfl ?_
    refine x_iconst 5 28 dC_settle_27 rfl rfl ?_
    refine x_icmp_ge 74 31 dC_settle_28 (by decide) rfl (fun h28 => ?_) (fun h28 => absurd (show (5 : Int32) ≤ e from by rw [i_le, c5]; omega) h28)
    refine x_iload_n 75 dC_settle_74 rfl rfl ?_
    exact x_iret dC_settle_75 rfl rfl ⟨rfl, P, rfl, hQ, hP2⟩
  | succ n ih =>
    intro e v J x he1 he0 hT
    subst hT
    have hin : vp_in e 5 := vp_of (by omega) (by omega)
    have he5 := vp_lt hin
    have hlt : ¬ (5 : Int32) ≤ e := by rw [i_le, c5]; omega
    refine x_iload_n 27 dC_settle_26 rfl rfl ?_
    refine x_iconst 5 28 dC_settle_27 rfl rfl ?_
    refine x_icmp_ge 74 31 dC_settle_28 (by decide) rfl (fun h28 => absurd h28 hlt) (fun h28 => ?_)
    refine x_aload_n 32 dC_settle_31 rfl rfl ?_
    refine x_get _ 35 fC_11 dC_settle_32 rfl rfl rfl ?_
    refine x_iload_n 36 dC_settle_35 rfl rfl ?_
    refine x_aald 37 rfl dC_settle_36 rfl rfl (by assumption) ?_
    refine x_astore_n 38 dC_settle_37 rfl (by decide) rfl ?_
    refine x_aload_n 39 dC_settle_38 rfl rfl ?_
    refine x_get _ 42 fC_179 dC_settle_39 rfl (h_A (by assumption)) rfl ?_
    refine x_lconst 0 43 dC_settle_42 rfl rfl ?_
    refine x_lcmp 44 dC_settle_43 rfl ?_
    refine x_if_eq 50 47 dC_settle_44 (by decide) rfl (fun h44 => ?_) (fun h44 => ?_)
    · skip
      refine x_aload_n 51 dC_settle_50 rfl rfl ?_
      refine x_dup 52 dC_settle_51 rfl rfl ?_
      refine x_get _ 55 fC_53 dC_settle_52 rfl (h_A (by assumption)) rfl ?_
      refine x_aload_n 56 dC_settle_55 rfl rfl ?_
      refine x_get _ 59 fC_179 dC_settle_56 rfl (h_A (by assumption)) rfl ?_
      refine x_ladd 60 dC_settle_59 rfl ?_
      refine y_A1 63 pC_settle_53 dC_settle_60 rfl (by assumption) ?_
      refine x_aload_n 64 dC_settle_63 rfl rfl ?_
      refine x_lconst 0 65 dC_settle_64 rfl rfl ?_
      refine y_A2 68 pC_settle_179 dC_settle_65 rfl (by assumption) ?_
      refine x_iinc 71 dC_settle_68 rfl rfl (by decide) rfl ?_
      refine x_goto 26 dC_settle_71 (by decide) ?_
      exact ih _ _ _ _ (by rw [i_inc (by omega) (by omega)]; omega) (by rw [i_inc (by omega) (by omega)]; omega) (by simp only [stF, if_pos h44])
    · skip
      refine x_iinc 50 dC_settle_47 rfl rfl (by decide) rfl ?_
      refine x_aload_n 51 dC_settle_50 rfl rfl ?_
      refine x_dup 52 dC_settle_51 rfl rfl ?_
      refine x_get _ 55 fC_53 dC_settle_52 rfl (h_A (by assumption)) rfl ?_
      refine x_aload_n 56 dC_settle_55 rfl rfl ?_
      refine x_get _ 59 fC_179 dC_settle_56 rfl (h_A (by assumption)) rfl ?_
      refine x_ladd 60 dC_settle_59 rfl ?_
      refine y_A1 63 pC_settle_53 dC_settle_60 rfl (by assumption) ?_
      refine x_aload_n 64 dC_settle_63 rfl rfl ?_
      refine x_lconst 0 65 dC_settle_64 rfl rfl ?_
      refine y_A2 68 pC_settle_179 dC_settle_65 rfl (by assumption) ?_
      refine x_iinc 71 dC_settle_68 rfl rfl (by decide) rfl ?_
      refine x_goto 26 dC_settle_71 (by decide) ?_
      exact ih _ _ _ _ (by rw [i_inc (by omega) (by omega)]; omega) (by rw [i_inc (by omega) (by omega)]; omega) (by simp only [stF, if_neg h44])
theorem cC_settle (hS : HS N (I, J, V, ls) A B h) : x_C l G mC_settle 2 0 0 [xR (some (5, 0))] h [] (QR N (stS I J V ls) A B) := by
  obtain ⟨P, rfl, hQ, hP2⟩ := hS.out
  refine x_C.at [some (xR (some (5, 0))), none, none, none] rfl (Nat.le_of_ble_eq_true rfl) rfl ?_
  refine x_iconst 0 1 dC_settle_0 rfl rfl ?_
  refine x_istore_n 2 dC_settle_1 rfl (by decide) rfl ?_
  refine x_iload_n 3 dC_settle_2 rfl rfl ?_
  refine x_iconst 2 4 dC_settle_3 rfl rfl ?_
  refine x_icmp_ge 22 7 dC_settle_4 (by decide) rfl (fun h4 => absurd h4 (by decide)) (fun h4 => ?_)
  refine x_aload_n 8 dC_settle_7 rfl rfl ?_
  refine x_get _ 11 fC_17 dC_settle_8 rfl rfl rfl ?_
  refine x_iload_n 12 dC_settle_11 rfl rfl ?_
  refine x_aald 13 rfl dC_settle_12 rfl rfl (vp_of (by decide) (by decide)) ?_
  refine x_gVn 16 (cB_endDay (i := 0) hS (by decide)) kC_182 oB_endDay rfl (h_B (by decide)) dC_settle_13 rfl rfl (by decide) (Nat.le_of_ble_eq_true rfl) (fun h1 hq => ?_)
  obtain ⟨P, rfl, hQ, hP2⟩ := hq
  refine x_iinc 19 dC_settle_16 rfl rfl (by decide) rfl ?_
  refine x_goto 2 dC_settle_19 (by decide) ?_
  refine x_iload_n 3 dC_settle_2 rfl rfl ?_
  refine x_iconst 2 4 dC_settle_3 rfl rfl ?_
  refine x_icmp_ge 22 7 dC_settle_4 (by decide) rfl (fun h4 => absurd h4 (by decide)) (fun h4 => ?_)
  refine x_aload_n 8 dC_settle_7 rfl rfl ?_
  refine x_get _ 11 fC_17 dC_settle_8 rfl rfl rfl ?_
  refine x_iload_n 12 dC_settle_11 rfl rfl ?_
  refine x_aald 13 rfl dC_settle_12 rfl rfl (vp_of (by decide) (by decide)) ?_
  refine x_gVn 16 (cB_endDay (i := 1) (I := (edS I J V ls 0).1) (ls := (edS I J V ls 0).2.2.2) (by exact ⟨P, rfl, hQ, hP2⟩) (by decide)) kC_182 oB_endDay rfl (h_B (by decide)) dC_settle_13 rfl rfl (by decide) (Nat.le_of_ble_eq_true rfl) (fun h1 hq => ?_)
  obtain ⟨P, rfl, hQ, hP2⟩ := hq
  refine x_iinc 19 dC_settle_16 rfl rfl (by decide) rfl ?_
  refine x_goto 2 dC_settle_19 (by decide) ?_
  refine x_iload_n 3 dC_settle_2 rfl rfl ?_
  refine x_iconst 2 4 dC_settle_3 rfl rfl ?_
  refine x_icmp_ge 22 7 dC_settle_4 (by decide) rfl (fun h4 => ?_) (fun h4 => absurd (by decide) h4)
  refine x_iconst 0 23 dC_settle_22 rfl rfl ?_
  refine x_istore_n 24 dC_settle_23 rfl (by decide) rfl ?_
  refine x_iconst 0 25 dC_settle_24 rfl rfl ?_
  refine x_istore_n 26 dC_settle_25 rfl (by decide) rfl ?_
  exact lp_settle (stF 5 0 J 0) hQ hP2 5 0 0 J _ (by decide) (by decide) rfl
end M9
