section MA
variable {l : Launch} {G : xG} {N : Nat} {I : Nat → Nat → Int32} {J : Nat → Nat → Int64} {P : Nat → Nat → Option xQ} {V : Nat → Nat → Int32} {A : Nat → Nat → Int32} {B : Nat → Nat → Int64}
variable {h : xH} {ls : Nat → List Nat}
def rfs (I : Nat → Nat → Int32) (k : Nat) (c : List Nat) : Int32 := if I 4 k = 4 then (match c with
  | [] => 0
  | o :: _ => if acc I k (I 5 o) then 1 else 0) else if I 4 k = 2 then (if I 6 k ≤ lff I k 0 c then 0 else 1) else 0
theorem cB_refuses {i k : Nat} (hi : i < 2) (hk : k < N) {c : List Nat} (hc : Ch P (P 1 (fdx i (I 3 k))) c) (hl : ∀ o ∈ c, o < N) : x_C l G mB_refuses 2 0 0 [xR (some (3, i)), xR (some (0, k))] (hp N I J P V A B) [] (x_is (some (xI (rfs I k c))) (hp N I J P V A B)) := by
  refine x_C.at [some (xR (some (3, i))), some (xR (some (0, k))), none] rfl (Nat.le_of_ble_eq_true rfl) rfl ?_
  cases c with
  | nil =>
    refine x_aload_n 1 dB_refuses_0 rfl rfl ?_
    refine x_aload_n 2 dB_refuses_1 rfl rfl ?_
    refine x_get _ 5 fB_29 dB_refuses_2 rfl (h_O (by assumption)) rfl ?_
    refine x_fVv 8 (cB_facing hi _) kB_34 oB_facing rfl (h_B (by assumption)) dB_refuses_5 rfl rfl (by decide) (Nat.le_of_ble_eq_true rfl) ?_
    refine x_astore_n 9 dB_refuses_8 rfl (by decide) rfl ?_
    refine x_aload_n 10 dB_refuses_9 rfl rfl ?_
    refine x_get _ 13 fB_38 dB_refuses_10 rfl (h_O (by assumption)) rfl ?_
    refine x_iconst 4 14 dB_refuses_13 rfl rfl ?_
    refine x_icmp_ne 44 17 dB_refuses_14 (by decide) rfl (fun h14 => ?_) (fun h14 => ?_)
    · skip
      refine x_aload_n 45 dB_refuses_44 rfl rfl ?_
      refine x_get _ 48 fB_38 dB_refuses_45 rfl (h_O (by assumption)) rfl ?_
      refine x_iconst 2 49 dB_refuses_48 rfl rfl ?_
      refine x_icmp_ne 68 52 dB_refuses_49 (by decide) rfl (fun h49 => ?_) (fun h49 => ?_)
      · skip
        refine x_iconst 0 69 dB_refuses_68 rfl rfl ?_
        exact x_iret dB_refuses_69 rfl rfl ⟨by unfold rfs; rw [if_neg h14, if_neg h49], rfl⟩
      · skip
        refine x_aload_n 53 dB_refuses_52 rfl rfl ?_
        refine x_aload_n 54 dB_refuses_53 rfl rfl ?_
        refine x_fVv 57 (cD_leftFor (fdx_lt hi _) hk hc hl) kB_52 oD_leftFor rfl (h_D (fdx_lt hi _)) dB_refuses_54 rfl rfl (by decide) (Nat.le_of_ble_eq_true rfl) ?_
        refine x_aload_n 58 dB_refuses_57 rfl rfl ?_
        refine x_get _ 61 fB_56 dB_refuses_58 rfl (h_O (by assumption)) rfl ?_
        refine x_icmp_ge 68 64 dB_refuses_61 (by decide) rfl (fun h61 => ?_) (fun h61 => ?_)
        · skip
          refine x_iconst 0 69 dB_refuses_68 rfl rfl ?_
          exact x_iret dB_refuses_69 rfl rfl ⟨by unfold rfs; rw [if_neg h14, if_pos h49, if_pos h61], rfl⟩
        · skip
          refine x_iconst 1 65 dB_refuses_64 rfl rfl ?_
          refine x_goto 69 dB_refuses_65 (by decide) ?_
          exact x_iret dB_refuses_69 rfl rfl ⟨by unfold rfs; rw [if_neg h14, if_pos h49, if_neg h61], rfl⟩
    · skip
      refine x_aload_n 18 dB_refuses_17 rfl rfl ?_
      refine x_get _ 21 fB_41 dB_refuses_18 rfl (h_D (fdx_lt hi _)) rfl ?_
      rw [show P 1 (fdx i (I 3 k)) = none from hc]
      refine x_ifnull_n 42 24 dB_refuses_21 (by decide) rfl ?_
      refine x_iconst 0 43 dB_refuses_42 rfl rfl ?_
      exact x_iret dB_refuses_43 rfl rfl ⟨by unfold rfs; rw [if_pos h14], rfl⟩
  | cons a c =>
    have ha := all_hd hl
    refine x_aload_n 1 dB_refuses_0 rfl rfl ?_
    refine x_aload_n 2 dB_refuses_1 rfl rfl ?_
    refine x_get _ 5 fB_29 dB_refuses_2 rfl (h_O (by assumption)) rfl ?_
    refine x_fVv 8 (cB_facing hi _) kB_34 oB_facing rfl (h_B (by assumption)) dB_refuses_5 rfl rfl (by decide) (Nat.le_of_ble_eq_true rfl) ?_
    refine x_astore_n 9 dB_refuses_8 rfl (by decide) rfl ?_
    refine x_aload_n 10 dB_refuses_9 rfl rfl ?_
    refine x_get _ 13 fB_38 dB_refuses_10 rfl (h_O (by assumption)) rfl ?_
    refine x_iconst 4 14 dB_refuses_13 rfl rfl ?_
    refine x_icmp_ne 44 17 dB_refuses_14 (by decide) rfl (fun h14 => ?_) (fun h14 => ?_)
    · skip
      refine x_aload_n 45 dB_refuses_44 rfl rfl ?_
      refine x_get _ 48 fB_38 dB_refuses_45 rfl (h_O (by assumption)) rfl ?_
      refine x_iconst 2 49 dB_refuses_48 rfl rfl ?_
      refine x_icmp_ne 68 52 dB_refuses_49 (by decide) rfl (fun h49 => ?_) (fun h49 => ?_)
      · skip
        refine x_iconst 0 69 dB_refuses_68 rfl rfl ?_
        exact x_iret dB_refuses_69 rfl rfl ⟨by unfold rfs; rw [if_neg h14, if_neg h49], rfl⟩
      · skip
        refine x_aload_n 53 dB_refuses_52 rfl rfl ?_
        refine x_aload_n 54 dB_refuses_53 rfl rfl ?_
        refine x_fVv 57 (cD_leftFor (fdx_lt hi _) hk hc hl) kB_52 oD_leftFor rfl (h_D (fdx_lt hi _)) dB_refuses_54 rfl rfl (by decide) (Nat.le_of_ble_eq_true rfl) ?_
        refine x_aload_n 58 dB_refuses_57 rfl rfl ?_
        refine x_get _ 61 fB_56 dB_refuses_58 rfl (h_O (by assumption)) rfl ?_
        refine x_icmp_ge 68 64 dB_refuses_61 (by decide) rfl (fun h61 => ?_) (fun h61 => ?_)
        · skip
          refine x_iconst 0 69 dB_refuses_68 rfl rfl ?_
          exact x_iret dB_refuses_69 rfl rfl ⟨by unfold rfs; rw [if_neg h14, if_pos h49, if_pos h61], rfl⟩
        · skip
          refine x_iconst 1 65 dB_refuses_64 rfl rfl ?_
          refine x_goto 69 dB_refuses_65 (by decide) ?_
          exact x_iret dB_refuses_69 rfl rfl ⟨by unfold rfs; rw [if_neg h14, if_pos h49, if_neg h61], rfl⟩
    · skip
      refine x_aload_n 18 dB_refuses_17 rfl rfl ?_
      refine x_get _ 21 fB_41 dB_refuses_18 rfl (h_D (fdx_lt hi _)) rfl ?_
      rw [show P 1 (fdx i (I 3 k)) = some (0, a) from hc.1]
      refine x_ifnull_s 42 24 dB_refuses_21 (by decide) rfl ?_
      refine x_aload_n 25 dB_refuses_24 rfl rfl ?_
      refine x_aload_n 26 dB_refuses_25 rfl rfl ?_
      refine x_get _ 29 fB_41 dB_refuses_26 rfl (h_D (fdx_lt hi _)) rfl ?_
      rw [show P 1 (fdx i (I 3 k)) = some (0, a) from hc.1]
      refine x_get _ 32 fB_45 dB_refuses_29 rfl (h_O (by assumption)) rfl ?_
      refine x_fVv 35 (cO_accepts hk _) kB_48 oO_accepts rfl (h_O (by assumption)) dB_refuses_32 rfl rfl (by decide) (Nat.le_of_ble_eq_true rfl) ?_
      refine x_if_eq 42 38 dB_refuses_35 (by decide) rfl (fun h35 => ?_) (fun h35 => ?_)
      · skip
        refine x_iconst 0 43 dB_refuses_42 rfl rfl ?_
        exact x_iret dB_refuses_43 rfl rfl ⟨by unfold rfs; rw [if_pos h14]; dsimp only; rw [if_neg (b01_z.mp h35)], rfl⟩
      · skip
        refine x_iconst 1 39 dB_refuses_38 rfl rfl ?_
        refine x_goto 43 dB_refuses_39 (by decide) ?_
        exact x_iret dB_refuses_43 rfl rfl ⟨by unfold rfs; rw [if_pos h14]; dsimp only; rw [if_pos (b01_nz.mp h35)], rfl⟩
def nw5 (I : Nat → Nat → Int32) (k : Nat) (n m i how : Int32) : Nat → Nat → Int32 := si (si (si (si (si (si (si I 7 k 0) 8 k 0) 0 k n) 1 k m) 2 k i) 3 k (how - how / 2 * 2)) 4 k (how / 2)
def nwL (I : Nat → Nat → Int32) (k : Nat) (n m i how lim : Int32) : Int32 := if nw5 I k n m i how 4 k = 3 then (if nw5 I k n m i how 3 k = 0 then 63 else 1) else lim
def nwI (I : Nat → Nat → Int32) (k : Nat) (n m i how lim q : Int32) : Nat → Nat → Int32 := si (si (nw5 I k n m i how) 5 k (nwL I k n m i how lim)) 6 k q
theorem cO_init {k : Nat} (hk : k < N) (n m i how lim q : Int32) : x_C l G mO_init 1 0 0 [xR (some (0, k)), xI n, xI m, xI i, xI how, xI lim, xI q] (hp N I J P V A B) [] (x_is none (hp N (nwI I k n m i how lim q) J (sp P 0 k none) V A B)) := by
  refine x_C.at [some (xR (some (0, k))), some (xI n), some (xI m), some (xI i), some (xI how), some (xI lim), some (xI q)] rfl (Nat.le_of_ble_eq_true rfl) rfl ?_
  refine x_aload_n 1 dO_init_0 rfl rfl ?_
  refine x_objInit 4 dO_init_1 rfl jO_3 j_i j_c (by decide) (Nat.le_of_ble_eq_true rfl) ?_
  refine x_aload_n 5 dO_init_4 rfl rfl ?_
  refine x_iconst 0 6 dO_init_5 rfl rfl ?_
  refine y_O7 9 pO_init_9 dO_init_6 rfl (by assumption) ?_
  refine x_aload_n 10 dO_init_9 rfl rfl ?_
  refine x_iconst 0 11 dO_init_10 rfl rfl ?_
  refine y_O8 14 pO_init_15 dO_init_11 rfl (by assumption) ?_
  refine x_aload_n 15 dO_init_14 rfl rfl ?_
  refine x_null 16 dO_init_15 rfl ?_
  refine y_O9 19 pO_init_18 dO_init_16 rfl (by assumption) ?_
  refine x_aload_n 20 dO_init_19 rfl rfl ?_
  refine x_iload_n 21 dO_init_20 rfl rfl ?_
  refine y_O0 24 pO_init_22 dO_init_21 rfl (by assumption) ?_
  refine x_aload_n 25 dO_init_24 rfl rfl ?_
  refine x_iload_n 26 dO_init_25 rfl rfl ?_
  refine y_O1 29 pO_init_25 dO_init_26 rfl (by assumption) ?_
  refine x_aload_n 30 dO_init_29 rfl rfl ?_
  refine x_iload_n 31 dO_init_30 rfl rfl ?_
  refine y_O2 34 pO_init_28 dO_init_31 rfl (by assumption) ?_
  refine x_aload_n 35 dO_init_34 rfl rfl ?_
  refine x_iload 37 dO_init_35 rfl rfl ?_
  refine x_fSNv 40 (cC_sideOf _) kO_31 oC_sideOf dO_init_37 rfl rfl (by decide) (Nat.le_of_ble_eq_true rfl) ?_
  refine y_O3 43 pO_init_35 dO_init_40 rfl (by assumption) ?_
  refine x_aload_n 44 dO_init_43 rfl rfl ?_
  refine x_iload 46 dO_init_44 rfl rfl ?_
  refine x_fSNv 49 (cC_kindOf _) kO_38 oC_kindOf dO_init_46 rfl rfl (by decide) (Nat.le_of_ble_eq_true rfl) ?_
  refine y_O4 52 pO_init_41 dO_init_49 rfl (by assumption) ?_
  refine x_aload_n 53 dO_init_52 rfl rfl ?_
  refine x_get _ 56 fO_41 dO_init_53 rfl (h_O (by assumption)) rfl ?_
  refine x_iconst 3 57 dO_init_56 rfl rfl ?_
  refine x_icmp_ne 80 60 dO_init_57 (by decide) rfl (fun h57 => ?_) (fun h57 => ?_)
  · skip
    refine x_aload_n 81 dO_init_80 rfl rfl ?_
    refine x_iload 83 dO_init_81 rfl rfl ?_
    refine y_O5 86 pO_init_44 dO_init_83 rfl (by assumption) ?_
    refine x_aload_n 87 dO_init_86 rfl rfl ?_
    refine x_iload 89 dO_init_87 rfl rfl ?_
    refine y_O6 92 pO_init_47 dO_init_89 rfl (by assumption) ?_
    exact x_vret dO_init_92 rfl ⟨rfl, by unfold nwI nwL; rw [if_neg (show ¬ nw5 I k n m i how 4 k = 3 from h57)]; rfl⟩
  · skip
    refine x_aload_n 61 dO_init_60 rfl rfl ?_
    refine x_aload_n 62 dO_init_61 rfl rfl ?_
    refine x_get _ 65 fO_35 dO_init_62 rfl (h_O (by assumption)) rfl ?_
    refine x_if_ne 73 68 dO_init_65 (by decide) rfl (fun h65 => ?_) (fun h65 => ?_)
    · skip
      refine x_iconst 1 74 dO_init_73 rfl rfl ?_
      refine y_O5 77 pO_init_44 dO_init_74 rfl (by assumption) ?_
      refine x_goto 86 dO_init_77 (by decide) ?_
      refine x_aload_n 87 dO_init_86 rfl rfl ?_
      refine x_iload 89 dO_init_87 rfl rfl ?_
      refine y_O6 92 pO_init_47 dO_init_89 rfl (by assumption) ?_
      exact x_vret dO_init_92 rfl ⟨rfl, by unfold nwI nwL; rw [if_pos (show nw5 I k n m i how 4 k = 3 from h57), if_neg (show ¬ nw5 I k n m i how 3 k = 0 from h65)]; rfl⟩
    · skip
      refine x_bipush (63) 70 dO_init_68 rfl rfl ?_
      refine x_goto 74 dO_init_70 (by decide) ?_
      refine y_O5 77 pO_init_44 dO_init_74 rfl (by assumption) ?_
      refine x_goto 86 dO_init_77 (by decide) ?_
      refine x_aload_n 87 dO_init_86 rfl rfl ?_
      refine x_iload 89 dO_init_87 rfl rfl ?_
      refine y_O6 92 pO_init_47 dO_init_89 rfl (by assumption) ?_
      exact x_vret dO_init_92 rfl ⟨rfl, by unfold nwI nwL; rw [if_pos (show nw5 I k n m i how 4 k = 3 from h57), if_pos (show nw5 I k n m i how 3 k = 0 from h65)]; rfl⟩
def zI (I : Nat → Nat → Int32) (k : Nat) : Nat → Nat → Int32 := fun c => if c < 9 then x_uf (I c) k 0 else I c
theorem hp_new : x_up (hp N I J P V A B) (0, N) (.inr (2, [xI 0, xI 0, xI 0, xI 0, xI 0, xI 0, xI 0, xI 0, xI 0, xR none])) = hp (N + 1) (zI I N) J (sp P 0 N none) V A B := by
  funext a
  obtain ⟨c, i⟩ := a
  by_cases hci : (c, i) = (0, N)
  · cases hci
    rw [x_up_self]
    show some _ = (if N < N + 1 then some _ else none)
    rw [if_pos (Nat.lt_succ_self N)]
    simp [zI, sp, x_uf]
  · rw [x_up_ne _ _ hci]
    match c, hci with
    | 0, hci =>
      have hik : ¬ i = N := fun q => hci (by rw [q])
      show (if i < N then some (e_O I P i) else none) = (if i < N + 1 then some (e_O (zI I N) (sp P 0 N none) i) else none)
      have he : e_O (zI I N) (sp P 0 N none) i = e_O I P i := by simp [e_O, zI, sp, x_uf, hik]
      by_cases hi : i < N
      · rw [if_pos hi, if_pos (Nat.lt_succ_of_lt hi), he]
      · rw [if_neg hi, if_neg (by omega)]
    | 1, _ => rfl
    | 2, _ => rfl
    | 3, _ => rfl
    | 4, _ => rfl
    | 5, _ => rfl
    | 6, _ => rfl
    | 7, _ => rfl
    | 8, _ => rfl
    | 9, _ => rfl
    | 10, _ => rfl
    | 11, _ => rfl
    | 12, _ => rfl
    | 13, _ => rfl
    | 14, _ => rfl
    | 15, _ => rfl
    | 16, _ => rfl
    | 17, _ => rfl
    | 18, _ => rfl
    | 19, _ => rfl
    | 20, _ => rfl
    | n + 21, _ => rfl
theorem hp_nr (hP : PP N P) : ∀ (b : xQ) (e2 : xE), hp N I J P V A B b = some e2 → x_ne (0, N) e2 := by
  intro b e2 he
  obtain ⟨c, i⟩ := b
  match c, he with
  | 0, he =>
    have he : (if i < N then some (e_O I P i) else none) = some e2 := he
    split at he
    · cases he
      intro v hv hva
      rw [hva] at hv
      simp at hv
      have := hP.2.2 0 i (0, N) (by decide) hv.symm
      omega
    · cases he
  | 4, he =>
    have he : (if i < 4 then some (e_D P i) else none) = some e2 := he
    split at he
    · cases he
      intro v hv hva
      rw [hva] at hv
      simp at hv
      have := hP.2.2 1 i (0, N) (by decide) hv.symm
      omega
    · cases he
  | 8, he =>
    have he : (if i = 0 then some (.inl (5, 120, .inr (.inr (P 2)))) else none) = some e2 := he
    split at he
    · cases he
      intro j hj hva
      by_cases hjN : j < N
      · rw [hP.1 j hjN] at hva
        simp at hva
        omega
      · rw [hP.2.1 j (by omega)] at hva
        cases hva
    · cases he
  | 1, he =>
    have he : (if i < 5 then some (e_A J i) else none) = some e2 := he
    split at he
    · cases he
      intro v hv hva
      rw [hva] at hv
      simp at hv
    · cases he
  | 2, he =>
    have he : (if i < 5 then some (.inl (0, 2, .inl (V i))) else none) = some e2 := he
    split at he
    · cases he
      trivial
    · cases he
  | 3, he =>
    have he : (if i < 2 then some (e_B I i) else none) = some e2 := he
    split at he
    · cases he
      intro v hv hva
      rw [hva] at hv
      simp at hv
    · cases he
  | 5, he =>
    have he : (if i = 0 then some (e_C I) else none) = some e2 := he
    split at he
    · cases he
      intro v hv hva
      rw [hva] at hv
      simp at hv
    · cases he
  | 6, he =>
    have he : (if i = 0 then some (.inl (3, 5, .inr (.inr (fun j => some (1, j))))) else none) = some e2 := he
    split at he
    · cases he
      intro j hj hva
      simp at hva
    · cases he
  | 7, he =>
    have he : (if i = 0 then some (.inl (4, 2, .inr (.inr (fun j => some (3, j))))) else none) = some e2 := he
    split at he
    · cases he
      intro j hj hva
      simp at hva
    · cases he
  | 9, he =>
    have he : (if i = 0 then some (e_T I) else none) = some e2 := he
    split at he
    · cases he
      intro v hv hva
      rw [hva] at hv
      simp at hv
    · cases he
  | 10, he =>
    have he : (if i = 0 then some (.inl (0, 400, .inl (I 14))) else none) = some e2 := he
    split at he
    · cases he
      trivial
    · cases he
  | 11, he =>
    have he : (if i = 0 then some (e_S) else none) = some e2 := he
    split at he
    · cases he
      intro v hv hva
      rw [hva] at hv
      simp at hv
    · cases he
  | 12, he =>
    have he : (if i = 0 then some (.inl (0, 65, .inl (I 15))) else none) = some e2 := he
    split at he
    · cases he
      trivial
    · cases he
  | 13, he =>
    have he : (if i = 0 then some (.inl (0, 65, .inl (I 16))) else none) = some e2 := he
    split at he
    · cases he
      trivial
    · cases he
  | 14, he =>
    have he : (if i = 0 then some (e_R A) else none) = some e2 := he
    split at he
    · cases he
      intro v hv hva
      rw [hva] at hv
      simp at hv
    · cases he
  | 15, he =>
    have he : (if i < 9 then some (.inl (0, 120, .inl (A i))) else none) = some e2 := he
    split at he
    · cases he
      trivial
    · cases he
  | 16, he =>
    have he : (if i < 2 then some (.inl (1, 5, .inr (.inl (B i)))) else none) = some e2 := he
    split at he
    · cases he
      trivial
    · cases he
  | 17, he =>
    have he : (if i = 0 then some (.inl (0, 10, .inl (A 9))) else none) = some e2 := he
    split at he
    · cases he
      trivial
    · cases he
  | 18, he =>
    have he : (if i = 0 then some (.inl (2, 2, .inl (A 10))) else none) = some e2 := he
    split at he
    · cases he
      trivial
    · cases he
  | 19, he =>
    have he : (if i = 0 then some (.inl (0, 2, .inl (A 11))) else none) = some e2 := he
    split at he
    · cases he
      trivial
    · cases he
  | 20, he =>
    have he : (if i = 0 then some (.inl (0, 400, .inl (A 12))) else none) = some e2 := he
    split at he
    · cases he
      trivial
    · cases he
  | n + 21, he => cases he
theorem hp_less {I' : Nat → Nat → Int32} {P' : Nat → Nat → Option xQ} (h0 : ∀ k < N, e_O I' P' k = e_O I P k) (h10 : I' 10 = I 10) (h11 : I' 11 = I 11) (h12 : I' 12 0 = I 12 0) (h13 : I' 13 0 = I 13 0) (h14 : I' 14 = I 14) (h15 : I' 15 = I 15) (h16 : I' 16 = I 16) (p1 : P' 1 = P 1) (p2 : P' 2 = P 2) : ∀ (a : xQ) (e : xE), hp N I J P V A B a = some e → hp (N + 1) I' J P' V A B a = some e := by
  intro a e he
  obtain ⟨c, i⟩ := a
  match c, he with
  | 0, he =>
    have he : (if i < N then some (e_O I P i) else none) = some e := he
    split at he
    · rename_i hi
      show (if i < N + 1 then some (e_O I' P' i) else none) = some e
      rw [if_pos (Nat.lt_succ_of_lt hi), h0 i hi]
      exact he
    · cases he
  | 3, he =>
    show (if i < 2 then some (e_B I' i) else none) = some e
    have : e_B I' i = e_B I i := by unfold e_B; rw [h10, h11]
    rw [this]; exact he
  | 4, he =>
    show (if i < 4 then some (e_D P' i) else none) = some e
    have : e_D P' i = e_D P i := by unfold e_D; rw [p1]
    rw [this]; exact he
  | 5, he =>
    show (if i = 0 then some (e_C I') else none) = some e
    have : e_C I' = e_C I := by unfold e_C; rw [h12]
    rw [this]; exact he
  | 8, he =>
    show (if i = 0 then some (.inl (5, 120, .inr (.inr (P' 2)))) else none) = some e
    rw [p2]; exact he
  | 9, he =>
    show (if i = 0 then some (e_T I') else none) = some e
    have : e_T I' = e_T I := by unfold e_T; rw [h13]
    rw [this]; exact he
  | 10, he =>
    show (if i = 0 then some (.inl (0, 400, .inl (I' 14))) else none) = some e
    rw [h14]; exact he
  | 12, he =>
    show (if i = 0 then some (.inl (0, 65, .inl (I' 15))) else none) = some e
    rw [h15]; exact he
  | 13, he =>
    show (if i = 0 then some (.inl (0, 65, .inl (I' 16))) else none) = some e
    rw [h16]; exact he
  | 1, he => exact he
  | 2, he => exact he
  | 6, he => exact he
  | 7, he => exact he
  | 11, he => exact he
  | 14, he => exact he
  | 15, he => exact he
  | 16, he => exact he
  | 17, he => exact he
  | 18, he => exact he
  | 19, he => exact he
  | 20, he => exact he
  | n + 21, he => exact he
abbrev nwO (I : Nat → Nat → Int32) (N : Nat) (m i how lim q : Int32) : Nat → Nat → Int32 := nwI (zI I N) N (I 12 0) m i how lim q
def plI (I : Nat → Nat → Int32) (N : Nat) (m i how lim q : Int32) : Nat → Nat → Int32 := si (nwO I N m i how lim q) 12 0 (I 12 0 + 1)
theorem nw_e {k : Nat} (hk : k < N) (m i how lim q : Int32) (v : Option xQ) : e_O (nwO I N m i how lim q) (sp (sp P 0 N none) 0 N v) k = e_O I P k := by
  have hne : ¬ k = N := by omega
  simp [e_O, nwO, nwI, nw5, zI, si, sp, x_uf, hne]
theorem nw_at (m i how lim q : Int32) : nwO I N m i how lim q 1 N = m ∧ nwO I N m i how lim q 2 N = i ∧ nwO I N m i how lim q 3 N = how - how / 2 * 2 ∧ nwO I N m i how lim q 4 N = how / 2 ∧ nwO I N m i how lim q 5 N = (if how / 2 = 3 then (if how - how / 2 * 2 = 0 then 63 else 1) else lim) ∧ nwO I N m i how lim q 6 N = q ∧ nwO I N m i how lim q 0 N = I 12 0 ∧ nwO I N m i how lim q 7 N = 0 ∧ nwO I N m i how lim q 8 N = 0 := by
  simp [nwO, nwI, nwL, nw5, zI, si, x_uf]
theorem nw_ne {k : Nat} (hk : k < N) (m i how lim q : Int32) : nwO I N m i how lim q 1 k = I 1 k ∧ nwO I N m i how lim q 2 k = I 2 k ∧ nwO I N m i how lim q 3 k = I 3 k ∧ nwO I N m i how lim q 5 k = I 5 k := by
  have hne : ¬ k = N := by omega
  simp [nwO, nwI, nw5, zI, si, x_uf, hne]
theorem how_side {how : Int32} (h0 : ¬ how < 0) (h1 : ¬ 12 ≤ how) : how - how / 2 * 2 = 0 ∨ how - how / 2 * 2 = 1 := by
  rw [i_lt] at h0
  rw [i_le] at h1
  have e0 : (0 : Int32).toInt = 0 := by decide
  have e12 : (12 : Int32).toInt = 12 := by decide
  have e2 : (2 : Int32).toInt = 2 := by decide
  have d1 : (how / 2).toInt = how.toInt / 2 := by
    rw [Kit.i32_div (by rw [e2]; omega), e2, Int.tdiv_eq_ediv_of_nonneg (by omega)]
  have d2 : (how / 2 * 2).toInt = how.toInt / 2 * 2 := by
    rw [Kit.i32_mul (by rw [d1, e2]; omega) (by rw [d1, e2]; omega), d1, e2]
  have d3 : (how - how / 2 * 2).toInt = how.toInt % 2 := by
    rw [Kit.i32_sub (by rw [d2]; omega) (by rw [d2]; omega), d2]
    omega
  have hm : how.toInt % 2 = 0 ∨ how.toInt % 2 = 1 := by omega
  rcases hm with hm | hm
  · exact Or.inl (Int32.toInt_inj.mp (by rw [d3, hm]; decide))
  · exact Or.inr (Int32.toInt_inj.mp (by rw [d3, hm]; decide))
theorem pl_CI {t : Int} (hV : CV N I ls t) (hQ : QS N P ls) {m i how lim q : Int32} (hm : vp_in m 5) (hi : vp_in i 2) (hh : ¬ how < 0 ∧ ¬ 12 ≤ how) (hl : how / 2 = 3 ∨ (1 ≤ lim.toInt ∧ lim.toInt ≤ 63)) : CI (N + 1) (plI I N m i how lim q) ls := by
  refine ⟨fun k hk => ?_, fun j hj o ho => ?_⟩
  · by_cases hkN : k < N
    · obtain ⟨a1, a2, a3, a5⟩ := nw_ne (I := I) hkN m i how lim q
      have := hV.1.1 k hkN
      unfold OK1 at this ⊢
      show vp_in (nwO I N m i how lim q 1 k) 5 ∧ vp_in (nwO I N m i how lim q 2 k) 2 ∧ (nwO I N m i how lim q 3 k = 0 ∨ nwO I N m i how lim q 3 k = 1) ∧ 1 ≤ (nwO I N m i how lim q 5 k).toInt ∧ (nwO I N m i how lim q 5 k).toInt ≤ 63
      rw [a1, a2, a3, a5]
      exact this
    · have hkN : k = N := by omega
      subst hkN
      obtain ⟨a1, a2, a3, a4, a5, -⟩ := nw_at (I := I) (N := k) m i how lim q
      unfold OK1
      show vp_in (nwO I k m i how lim q 1 k) 5 ∧ vp_in (nwO I k m i how lim q 2 k) 2 ∧ (nwO I k m i how lim q 3 k = 0 ∨ nwO I k m i how lim q 3 k = 1) ∧ 1 ≤ (nwO I k m i how lim q 5 k).toInt ∧ (nwO I k m i how lim q 5 k).toInt ≤ 63
      rw [a1, a2, a3, a5]
      refine ⟨hm, hi, how_side hh.1 hh.2, ?_⟩
      split
      · split <;> decide
      · rename_i h3
        rcases hl with hl | hl
        · exact absurd hl h3
        · exact hl
  · have hoN := hQ.2.1 j hj o ho
    obtain ⟨a1, a2, a3, a5⟩ := nw_ne (I := I) hoN m i how lim q
    show sdx (nwO I N m i how lim q 2 o).toNatClampNeg (nwO I N m i how lim q 3 o) = j
    rw [a2, a3]
    exact hV.1.2 j hj o ho
theorem QS.nw (hQ : QS N P ls) : QS (N + 1) (sp (sp (sp P 0 N none) 0 N none) 2 N (some (0, N))) ls := by
  obtain ⟨h1, h2, h3, h4⟩ := hQ
  refine ⟨fun j hj => ?_, fun j hj o ho => Nat.lt_succ_of_lt (h2 j hj o ho), h3, h4⟩
  exact Ch.re (fun o ho => by
    have : ¬ o = N := by have := h2 j hj o ho; omega
    rw [sp_ne (fun q => by cases q.1), sp_ne (fun q => this q.2), sp_ne (fun q => this q.2)]) (h1 j hj)
theorem QS.nw1 (hQ : QS N P ls) : QS (N + 1) (sp (sp P 0 N none) 0 N none) ls := by
  obtain ⟨h1, h2, h3, h4⟩ := hQ
  refine ⟨fun j hj => ?_, fun j hj o ho => Nat.lt_succ_of_lt (h2 j hj o ho), h3, h4⟩
  exact Ch.re (fun o ho => by
    have : ¬ o = N := by have := h2 j hj o ho; omega
    rw [sp_ne (fun q => this q.2), sp_ne (fun q => this q.2)]) (h1 j hj)
theorem PP.nw (hP : PP N P) : PP (N + 1) (sp (sp (sp P 0 N none) 0 N none) 2 N (some (0, N))) := by
  refine ⟨fun k hk => ?_, fun k hk => ?_, ?_⟩
  · by_cases hkN : k = N
    · subst hkN; exact sp_eq
    · rw [sp_ne (fun q => hkN q.2)]
      exact hP.1 k (by omega)
  · rw [sp_ne (fun q => by omega)]
    exact hP.2.1 k (by omega)
  · intro c k a hc ha
    rw [sp_ne (fun q => by omega)] at ha
    by_cases hk : c = 0 ∧ k = N
    · obtain ⟨rfl, rfl⟩ := hk
      rw [sp_eq] at ha
      cases ha
    · rw [sp_ne hk, sp_ne hk] at ha
      have := hP.2.2 c k a hc ha
      omega
end MA
