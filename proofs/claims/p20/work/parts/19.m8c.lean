section M8c
variable {l : Launch} {G : xG} {N : Nat} {I : Nat → Nat → Int32} {J : Nat → Nat → Int64} {P : Nat → Nat → Option xQ} {V : Nat → Nat → Int32} {A : Nat → Nat → Int32} {B : Nat → Nat → Int64}
variable {h : xH} {ls : Nat → List Nat}
theorem cC_open {t : Int} (hS : HS N (I, J, V, ls) A B h) (hV : CV N I ls t) (ht : t + 120 < 2147483648) (i : Int32) : x_C l G mC_open 5 0 0 [xR (some (5, 0)), xI i] (h) [] (QR N (opS I J V ls i) A B) := by
  obtain ⟨P, rfl, hQ, hP2⟩ := hS.out
  refine x_C.at [some (xR (some (5, 0))), some (xI i), none, none] rfl (Nat.le_of_ble_eq_true rfl) rfl ?_
  refine x_iload_n 1 dC_open_0 rfl rfl ?_
  refine x_fSv 4 (cC_isInstrument _) kC_61 oC_isInstrument dC_open_1 rfl rfl (by decide) (Nat.le_of_ble_eq_true rfl) ?_
  refine x_if_ne 9 7 dC_open_4 (by decide) rfl (fun h4 => ?_) (fun h4 => ?_)
  · skip
    refine x_aload_n 10 dC_open_9 rfl rfl ?_
    refine x_get _ 13 fC_17 dC_open_10 rfl rfl rfl ?_
    refine x_iload_n 14 dC_open_13 rfl rfl ?_
    refine x_aald 15 rfl dC_open_14 rfl rfl (vN h4) ?_
    refine x_astore_n 16 dC_open_15 rfl (by decide) rfl ?_
    refine x_aload_n 17 dC_open_16 rfl rfl ?_
    refine x_get _ 20 fC_74 dC_open_17 rfl (h_B (vp_lt (vN h4))) rfl ?_
    refine x_if_eq 26 23 dC_open_20 (by decide) rfl (fun h20 => ?_) (fun h20 => ?_)
    · skip
      refine x_aload_n 27 dC_open_26 rfl rfl ?_
      refine x_get _ 30 fC_37 dC_open_27 rfl rfl rfl ?_
      refine x_aload_n 31 dC_open_30 rfl rfl ?_
      refine x_fVv 34 (cS_fcp hV.1 hQ (vp_lt (vN h4))) kC_119 oS_findCallPrice rfl rfl dC_open_31 rfl rfl (by decide) (Nat.le_of_ble_eq_true rfl) ?_
      refine x_istore_n 35 dC_open_34 rfl (by decide) rfl ?_
      refine x_aload_n 36 dC_open_35 rfl rfl ?_
      refine x_iconst 1 37 dC_open_36 rfl rfl ?_
      refine y_B2 40 pC_open_74 dC_open_37 rfl (vp_lt (vN h4)) (fun _ => ⟨rfl, rfl⟩) ?_
      refine x_iload_n 41 dC_open_40 rfl rfl ?_
      refine x_if_ne 48 44 dC_open_41 (by decide) rfl (fun h41 => ?_) (fun h41 => ?_)
      · skip
        refine x_aload_n 49 dC_open_48 rfl rfl ?_
        refine x_aload_n 50 dC_open_49 rfl rfl ?_
        refine x_iload_n 51 dC_open_50 rfl rfl ?_
        refine x_gVv 54 (cC_tradeAll (I := si (wgL I ls i.toNatClampNeg) 10 i.toNatClampNeg 1) (ls := ls) (by exact ⟨P, rfl, hQ, hP2⟩) (hV.1.wg _ _ _) (vp_lt (vN h4)) _ (by rw [wg_13]; exact hV.2.2.2.1) (by rw [wg_13]; have := hV.2.2.2.2; omega)) kC_123 oC_tradeAll rfl rfl dC_open_51 rfl rfl (by decide) (Nat.le_of_ble_eq_true rfl) (fun h1 hq => ?_)
        skip
        exact x_iret dC_open_54 rfl rfl (QR.ig h4 (QR.ip h20 (QR.ig h41 (⟨rfl, hq⟩))))
      · skip
        refine x_iconst 0 45 dC_open_44 rfl rfl ?_
        refine x_goto 54 dC_open_45 (by decide) ?_
        exact x_iret dC_open_54 rfl rfl (QR.ig h4 (QR.ip h20 (QR.ip h41 (⟨rfl, P, rfl, hQ, hP2⟩))))
    · skip
      refine x_bipush (-3) 25 dC_open_23 rfl rfl ?_
      exact x_iret dC_open_25 rfl rfl (QR.ig h4 (QR.ig h20 (⟨rfl, P, rfl, hQ, hP2⟩)))
  · skip
    refine x_iconst (-1) 8 dC_open_7 rfl rfl ?_
    exact x_iret dC_open_8 rfl rfl (QR.ip h4 (⟨rfl, P, rfl, hQ, hP2⟩))

end M8c
