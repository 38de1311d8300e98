section M8e
variable {l : Launch} {G : xG} {N : Nat} {I : Nat → Nat → Int32} {J : Nat → Nat → Int64} {P : Nat → Nat → Option xQ} {V : Nat → Nat → Int32} {A : Nat → Nat → Int32} {B : Nat → Nat → Int64}
variable {h : xH} {ls : Nat → List Nat}
theorem cC_indication {t : Int} (hS : HS N (I, J, V, ls) A B h) (hV : CV N I ls t) (i p : Int32) : x_C l G mC_indication 4 0 0 [xR (some (5, 0)), xI i, xI p] (h) [] (QR N (inS I J V ls i p) A B) := by
  obtain ⟨P, rfl, hQ, hP2⟩ := hS.out
  refine x_C.at [some (xR (some (5, 0))), some (xI i), some (xI p), none] rfl (Nat.le_of_ble_eq_true rfl) rfl ?_
  refine x_iload_n 1 dC_indication_0 rfl rfl ?_
  refine x_fSv 4 (cC_isInstrument _) kC_61 oC_isInstrument dC_indication_1 rfl rfl (by decide) (Nat.le_of_ble_eq_true rfl) ?_
  refine x_if_ne 9 7 dC_indication_4 (by decide) rfl (fun h4 => ?_) (fun h4 => ?_)
  · skip
    refine x_aload_n 10 dC_indication_9 rfl rfl ?_
    refine x_get _ 13 fC_37 dC_indication_10 rfl rfl rfl ?_
    refine x_aload_n 14 dC_indication_13 rfl rfl ?_
    refine x_get _ 17 fC_17 dC_indication_14 rfl rfl rfl ?_
    refine x_iload_n 18 dC_indication_17 rfl rfl ?_
    refine x_aald 19 rfl dC_indication_18 rfl rfl (vN h4) ?_
    refine x_fVv 22 (cS_fcp hV.1 hQ (vp_lt (vN h4))) kC_119 oS_findCallPrice rfl rfl dC_indication_19 rfl rfl (by decide) (Nat.le_of_ble_eq_true rfl) ?_
    refine x_istore_n 23 dC_indication_22 rfl (by decide) rfl ?_
    refine x_iload_n 24 dC_indication_23 rfl rfl ?_
    refine x_if_ne 30 27 dC_indication_24 (by decide) rfl (fun h24 => ?_) (fun h24 => ?_)
    · skip
      refine x_iload_n 31 dC_indication_30 rfl rfl ?_
      by_cases p0 : p = 0
      · skip
        refine x_tableIn (off := 25) 56 dC_indication_31 (by rw [p0]; decide) (by rw [p0]; decide) (by rw [p0]; rfl) (by decide) ?_
        refine x_iload_n 57 dC_indication_56 rfl rfl ?_
        exact x_iret dC_indication_57 rfl rfl (QR.ig h4 (QR.ig h24 (QR.ip p0 ⟨rfl, P, rfl, hQ, hP2⟩)))
      · by_cases p1 : p = 1
        · skip
          refine x_tableIn (off := 27) 58 dC_indication_31 (by rw [p1]; decide) (by rw [p1]; decide) (by rw [p1]; rfl) (by decide) ?_
          refine x_aload_n 59 dC_indication_58 rfl rfl ?_
          refine x_get _ 62 fC_37 dC_indication_59 rfl rfl rfl ?_
          refine x_iload_n 63 dC_indication_62 rfl rfl ?_
          refine x_fVv 66 (cS_volumeAt (cprice_in _)) kC_127 oS_volumeAt rfl rfl dC_indication_63 rfl rfl (by decide) (Nat.le_of_ble_eq_true rfl) ?_
          exact x_iret dC_indication_66 rfl rfl (QR.ig h4 (QR.ig h24 (QR.ig p0 (QR.ip p1 ⟨rfl, P, rfl, hQ, hP2⟩))))
        · by_cases p2 : p = 2
          · skip
            refine x_tableIn (off := 36) 67 dC_indication_31 (by rw [p2]; decide) (by rw [p2]; decide) (by rw [p2]; rfl) (by decide) ?_
            refine x_aload_n 68 dC_indication_67 rfl rfl ?_
            refine x_get _ 71 fC_37 dC_indication_68 rfl rfl rfl ?_
            refine x_iload_n 72 dC_indication_71 rfl rfl ?_
            refine x_fVv 75 (cS_surplusAt (cprice_in _)) kC_130 oS_surplusAt rfl rfl dC_indication_72 rfl rfl (by decide) (Nat.le_of_ble_eq_true rfl) ?_
            exact x_iret dC_indication_75 rfl rfl (QR.ig h4 (QR.ig h24 (QR.ig p0 (QR.ig p1 (QR.ip p2 ⟨rfl, P, rfl, hQ, hP2⟩)))))
          · refine x_tableOut 76 dC_indication_31 ?_ (by decide) ?_
            · have a0 : p.toInt ≠ 0 := fun q => p0 (Int32.toInt_inj.mp (by rw [q]; decide))
              have a1 : p.toInt ≠ 1 := fun q => p1 (Int32.toInt_inj.mp (by rw [q]; decide))
              have a2 : p.toInt ≠ 2 := fun q => p2 (Int32.toInt_inj.mp (by rw [q]; decide))
              omega
            · refine x_iconst (-1) 77 dC_indication_76 rfl rfl ?_
              exact x_iret dC_indication_77 rfl rfl (QR.ig h4 (QR.ig h24 (QR.ig p0 (QR.ig p1 (QR.ig p2 ⟨rfl, P, rfl, hQ, hP2⟩)))))
    · skip
      refine x_bipush (-6) 29 dC_indication_27 rfl rfl ?_
      exact x_iret dC_indication_29 rfl rfl (QR.ig h4 (QR.ip h24 (⟨rfl, P, rfl, hQ, hP2⟩)))
  · skip
    refine x_iconst (-1) 8 dC_indication_7 rfl rfl ?_
    exact x_iret dC_indication_8 rfl rfl (QR.ip h4 (⟨rfl, P, rfl, hQ, hP2⟩))

end M8e
