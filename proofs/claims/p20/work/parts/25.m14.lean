section ME
variable {l : Launch} {G : xG} {N : Nat} {I : Nat → Nat → Int32} {J : Nat → Nat → Int64} {P : Nat → Nat → Option xQ} {V : Nat → Nat → Int32} {A : Nat → Nat → Int32} {B : Nat → Nat → Int64}
variable {h : xH}
def ufF (A : Nat → Nat → Int32) (m i k s b : Int32) : Nat → Int32 → Int32 → Int32 → Int32 × Int32
  | 0, _, mt, ot => (mt, ot)
  | n + 1, o, mt, ot => if b01 (wts A o.toNatClampNeg i (1 - s)) = 0 then ufF A m i k s b n (o + Int32.ofInt 1) mt ot else if b01 (gdm k s b (A 4 o.toNatClampNeg)) = 0 then ufF A m i k s b n (o + Int32.ofInt 1) mt ot else ufF A m i k s b n (o + Int32.ofInt 1) (mt + Int32.ofInt 1) (ot + (if A 0 o.toNatClampNeg = m then 0 else A 5 o.toNatClampNeg))
def ufR (k q mt ot : Int32) : Int32 := if k = 4 then (if 0 < mt then 1 else (if k = 2 then (if q ≤ ot then 0 else 1) else 0)) else (if k = 2 then (if q ≤ ot then 0 else 1) else 0)
def uf (A : Nat → Nat → Int32) (m i k s b q : Int32) : Int32 := ufR k q (ufF A m i k s b (A 13 0).toNatClampNeg 0 0 0).1 (ufF A m i k s b (A 13 0).toNatClampNeg 0 0 0).2
theorem lp_R_unfit (hc : MC A) (m i k s b q : Int32) (T : Int32 × Int32) : ∀ (n : Nat) (e mt ot : Int32), 0 ≤ e.toInt → e.toInt + n = (A 13 0).toInt → ufF A m i k s b n e mt ot = T → x_X l G mR_unfit 1 0 0 [] (x_is (some (xI (ufR k q T.1 T.2))) (hp N I J P V A B)) 9 [some (xR (some (14, 0))), some (xI m), some (xI i), some (xI k), some (xI s), some (xI b), some (xI q), some (xI mt), some (xI ot), some (xI e)] [] (hp N I J P V A B) := by
  intro n
  induction n with
  | zero =>
    intro e mt ot he0 he1 hT
    subst hT
    refine x_iload 11 dR_unfit_9 rfl rfl ?_
    refine x_aload_n 12 dR_unfit_11 rfl rfl ?_
    refine x_get _ 15 fR_57 dR_unfit_12 rfl rfl rfl ?_
    refine x_icmp_ge 86 18 dR_unfit_15 (by decide) rfl (fun h15 => ?_) (fun h15 => absurd (show A 13 0 ≤ e from by rw [i_le]; omega) h15)
    refine x_iload_n 87 dR_unfit_86 rfl rfl ?_
    refine x_iconst 4 88 dR_unfit_87 rfl rfl ?_
    refine x_icmp_ne 96 91 dR_unfit_88 (by decide) rfl (fun h88 => ?_) (fun h88 => ?_)
    · skip
      refine x_iload_n 97 dR_unfit_96 rfl rfl ?_
      refine x_iconst 2 98 dR_unfit_97 rfl rfl ?_
      refine x_icmp_ne 112 101 dR_unfit_98 (by decide) rfl (fun h98 => ?_) (fun h98 => ?_)
      · skip
        refine x_iconst 0 113 dR_unfit_112 rfl rfl ?_
        exact x_iret dR_unfit_113 rfl rfl ⟨by show some (xI _) = some (xI (ufR k q mt ot)); simp only [ufR, if_neg h88, if_neg h98], rfl⟩
      · skip
        refine x_iload 103 dR_unfit_101 rfl rfl ?_
        refine x_iload 105 dR_unfit_103 rfl rfl ?_
        refine x_icmp_ge 112 108 dR_unfit_105 (by decide) rfl (fun h105 => ?_) (fun h105 => ?_)
        · skip
          refine x_iconst 0 113 dR_unfit_112 rfl rfl ?_
          exact x_iret dR_unfit_113 rfl rfl ⟨by show some (xI _) = some (xI (ufR k q mt ot)); simp only [ufR, if_neg h88, if_pos h98, if_pos h105], rfl⟩
        · skip
          refine x_iconst 1 109 dR_unfit_108 rfl rfl ?_
          refine x_goto 113 dR_unfit_109 (by decide) ?_
          exact x_iret dR_unfit_113 rfl rfl ⟨by show some (xI _) = some (xI (ufR k q mt ot)); simp only [ufR, if_neg h88, if_pos h98, if_neg h105], rfl⟩
    · skip
      refine x_iload 93 dR_unfit_91 rfl rfl ?_
      refine x_if_gt 108 96 dR_unfit_93 (by decide) rfl (fun h93 => ?_) (fun h93 => ?_)
      · skip
        refine x_iconst 1 109 dR_unfit_108 rfl rfl ?_
        refine x_goto 113 dR_unfit_109 (by decide) ?_
        exact x_iret dR_unfit_113 rfl rfl ⟨by show some (xI _) = some (xI (ufR k q mt ot)); simp only [ufR, if_pos h88, if_pos h93], rfl⟩
      · skip
        refine x_iload_n 97 dR_unfit_96 rfl rfl ?_
        refine x_iconst 2 98 dR_unfit_97 rfl rfl ?_
        refine x_icmp_ne 112 101 dR_unfit_98 (by decide) rfl (fun h98 => ?_) (fun h98 => ?_)
        · skip
          refine x_iconst 0 113 dR_unfit_112 rfl rfl ?_
          exact x_iret dR_unfit_113 rfl rfl ⟨by show some (xI _) = some (xI (ufR k q mt ot)); simp only [ufR, if_pos h88, if_neg h93, if_neg h98], rfl⟩
        · skip
          refine x_iload 103 dR_unfit_101 rfl rfl ?_
          refine x_iload 105 dR_unfit_103 rfl rfl ?_
          refine x_icmp_ge 112 108 dR_unfit_105 (by decide) rfl (fun h105 => ?_) (fun h105 => ?_)
          · skip
            refine x_iconst 0 113 dR_unfit_112 rfl rfl ?_
            exact x_iret dR_unfit_113 rfl rfl ⟨by show some (xI _) = some (xI (ufR k q mt ot)); simp only [ufR, if_pos h88, if_neg h93, if_pos h98, if_pos h105], rfl⟩
          · skip
            refine x_iconst 1 109 dR_unfit_108 rfl rfl ?_
            refine x_goto 113 dR_unfit_109 (by decide) ?_
            exact x_iret dR_unfit_113 rfl rfl ⟨by show some (xI _) = some (xI (ufR k q mt ot)); simp only [ufR, if_pos h88, if_neg h93, if_pos h98, if_neg h105], rfl⟩
  | succ n ih =>
    intro e mt ot he0 he1 hT
    have hc2 := hc.2
    have hin : vp_in e 120 := vp_of (by omega) (by omega)
    have hlt : ¬ A 13 0 ≤ e := by rw [i_le]; omega
    refine x_iload 11 dR_unfit_9 rfl rfl ?_
    refine x_aload_n 12 dR_unfit_11 rfl rfl ?_
    refine x_get _ 15 fR_57 dR_unfit_12 rfl rfl rfl ?_
    refine x_icmp_ge 86 18 dR_unfit_15 (by decide) rfl (fun h15 => absurd h15 hlt) (fun h15 => ?_)
    refine x_aload_n 19 dR_unfit_18 rfl rfl ?_
    refine x_iload 21 dR_unfit_19 rfl rfl ?_
    refine x_iload_n 22 dR_unfit_21 rfl rfl ?_
    refine x_iconst 1 23 dR_unfit_22 rfl rfl ?_
    refine x_iload 25 dR_unfit_23 rfl rfl ?_
    refine x_isub 26 dR_unfit_25 rfl ?_
    refine x_fVv 29 (cR_waits hin _ _) kR_61 oR_waits rfl rfl dR_unfit_26 rfl rfl (by decide) (Nat.le_of_ble_eq_true rfl) ?_
    refine x_if_eq 80 32 dR_unfit_29 (by decide) rfl (fun h29 => ?_) (fun h29 => ?_)
    · skip
      refine x_iinc 83 dR_unfit_80 rfl rfl (by decide) rfl ?_
      refine x_goto 9 dR_unfit_83 (by decide) ?_
      exact ih _ _ _ (by rw [i_inc (by omega) (by omega)]; omega) (by rw [i_inc (by omega) (by omega)]; omega) (by rw [← hT]; simp only [ufF, if_pos h29])
    · skip
      refine x_iload_n 33 dR_unfit_32 rfl rfl ?_
      refine x_iload 35 dR_unfit_33 rfl rfl ?_
      refine x_iload 37 dR_unfit_35 rfl rfl ?_
      refine x_aload_n 38 dR_unfit_37 rfl rfl ?_
      refine x_get _ 41 fR_22 dR_unfit_38 rfl rfl rfl ?_
      refine x_iload 43 dR_unfit_41 rfl rfl ?_
      refine x_iald 44 dR_unfit_43 rfl (h_ra 4 (by decide)) (by assumption) ?_
      refine x_fSv 47 (cR_good _ _ _ _) kR_78 oR_good dR_unfit_44 rfl rfl (by decide) (Nat.le_of_ble_eq_true rfl) ?_
      refine x_if_eq 80 50 dR_unfit_47 (by decide) rfl (fun h47 => ?_) (fun h47 => ?_)
      · skip
        refine x_iinc 83 dR_unfit_80 rfl rfl (by decide) rfl ?_
        refine x_goto 9 dR_unfit_83 (by decide) ?_
        exact ih _ _ _ (by rw [i_inc (by omega) (by omega)]; omega) (by rw [i_inc (by omega) (by omega)]; omega) (by rw [← hT]; simp only [ufF, if_neg h29, if_pos h47])
      · skip
        refine x_iinc 53 dR_unfit_50 rfl rfl (by decide) rfl ?_
        refine x_iload 55 dR_unfit_53 rfl rfl ?_
        refine x_aload_n 56 dR_unfit_55 rfl rfl ?_
        refine x_get _ 59 fR_7 dR_unfit_56 rfl rfl rfl ?_
        refine x_iload 61 dR_unfit_59 rfl rfl ?_
        refine x_iald 62 dR_unfit_61 rfl (h_ra 0 (by decide)) (by assumption) ?_
        refine x_iload_n 63 dR_unfit_62 rfl rfl ?_
        refine x_icmp_ne 70 66 dR_unfit_63 (by decide) rfl (fun h63 => ?_) (fun h63 => ?_)
        · skip
          refine x_aload_n 71 dR_unfit_70 rfl rfl ?_
          refine x_get _ 74 fR_25 dR_unfit_71 rfl rfl rfl ?_
          refine x_iload 76 dR_unfit_74 rfl rfl ?_
          refine x_iald 77 dR_unfit_76 rfl (h_ra 5 (by decide)) (by assumption) ?_
          refine x_iadd 78 dR_unfit_77 rfl ?_
          refine x_istore 80 dR_unfit_78 rfl (by decide) rfl ?_
          refine x_iinc 83 dR_unfit_80 rfl rfl (by decide) rfl ?_
          refine x_goto 9 dR_unfit_83 (by decide) ?_
          exact ih _ _ _ (by rw [i_inc (by omega) (by omega)]; omega) (by rw [i_inc (by omega) (by omega)]; omega) (by rw [← hT]; simp only [ufF, if_neg h29, if_neg h47, if_neg h63])
        · skip
          refine x_iconst 0 67 dR_unfit_66 rfl rfl ?_
          refine x_goto 77 dR_unfit_67 (by decide) ?_
          refine x_iadd 78 dR_unfit_77 rfl ?_
          refine x_istore 80 dR_unfit_78 rfl (by decide) rfl ?_
          refine x_iinc 83 dR_unfit_80 rfl rfl (by decide) rfl ?_
          refine x_goto 9 dR_unfit_83 (by decide) ?_
          exact ih _ _ _ (by rw [i_inc (by omega) (by omega)]; omega) (by rw [i_inc (by omega) (by omega)]; omega) (by rw [← hT]; simp only [ufF, if_neg h29, if_neg h47, if_pos h63])
theorem cR_unfit (hc : MC A) (m i k s b q : Int32) : x_C l G mR_unfit 1 0 0 [xR (some (14, 0)), xI m, xI i, xI k, xI s, xI b, xI q] (hp N I J P V A B) [] (x_is (some (xI (uf A m i k s b q))) (hp N I J P V A B)) := by
  refine x_C.at [some (xR (some (14, 0))), some (xI m), some (xI i), some (xI k), some (xI s), some (xI b), some (xI q), none, none, none] rfl (Nat.le_of_ble_eq_true rfl) rfl ?_
  refine x_iconst 0 1 dR_unfit_0 rfl rfl ?_
  refine x_istore 3 dR_unfit_1 rfl (by decide) rfl ?_
  refine x_iconst 0 4 dR_unfit_3 rfl rfl ?_
  refine x_istore 6 dR_unfit_4 rfl (by decide) rfl ?_
  refine x_iconst 0 7 dR_unfit_6 rfl rfl ?_
  refine x_istore 9 dR_unfit_7 rfl (by decide) rfl ?_
  exact lp_R_unfit hc m i k s b q _ (A 13 0).toNatClampNeg 0 0 0 (by decide) (mc_sum hc) rfl
def mmF (x : Int32) : Nat → mAB → mAB
  | 0, S => S
  | n + 1, S => if (meM S.1 S.2 x).1 = 0 then (meM S.1 S.2 x).2 else mmF x n (meM S.1 S.2 x).2
def mmT (x : Int32) : Nat → mAB → Prop
  | 0, _ => False
  | n + 1, S => (meM S.1 S.2 x).1 = 0 ∨ mmT x n (meM S.1 S.2 x).2
/-- what a meeting of the reference leaves -/
def KM (A A' : Nat → Nat → Int32) : Prop := A' 0 = A 0 ∧ A' 1 = A 1 ∧ A' 2 = A 2 ∧ A' 3 = A 3 ∧ A' 4 = A 4 ∧ A' 10 = A 10 ∧ A' 13 = A 13
theorem KM.rf (A : Nat → Nat → Int32) : KM A A := ⟨rfl, rfl, rfl, rfl, rfl, rfl, rfl⟩
theorem KM.tr {A1 A2 A3 : Nat → Nat → Int32} (a : KM A1 A2) (b : KM A2 A3) : KM A1 A3 := ⟨b.1.trans a.1, b.2.1.trans a.2.1, b.2.2.1.trans a.2.2.1, b.2.2.2.1.trans a.2.2.2.1, b.2.2.2.2.1.trans a.2.2.2.2.1, b.2.2.2.2.2.1.trans a.2.2.2.2.2.1, b.2.2.2.2.2.2.trans a.2.2.2.2.2.2⟩
theorem mt2_KM (k : Nat) : KM A (mt2 A k) ∧ mt2 A k 15 = A 15 := by
  unfold mt2
  split
  · exact ⟨⟨rfl, rfl, rfl, rfl, rfl, rfl, rfl⟩, rfl⟩
  · split
    · split
      · exact ⟨⟨rfl, rfl, rfl, rfl, rfl, rfl, rfl⟩, rfl⟩
      · exact ⟨KM.rf A, rfl⟩
    · exact ⟨KM.rf A, rfl⟩
theorem meM_KM (x : Int32) : KM A (meM A B x).2.1 ∧ ((meM A B x).2.1 15 0 = A 15 0 ∨ (meM A B x).2.1 15 0 = A 15 0 + 1) := by
  unfold meM
  split
  · exact ⟨KM.rf A, Or.inl rfl⟩
  · split
    · exact ⟨KM.rf A, Or.inl rfl⟩
    · split
      · exact ⟨KM.rf A, Or.inl rfl⟩
      · split
        · exact ⟨⟨rfl, rfl, rfl, rfl, rfl, rfl, rfl⟩, Or.inl rfl⟩
        · dsimp only
          generalize fr A (A 1 x.toNatClampNeg) (1 - A 2 x.toNatClampNeg) = y
          generalize mtN A x y = n
          unfold mt1
          split
          · have a := mt2_KM (A := si (swA A x y (A 4 y.toNatClampNeg) n) 6 y.toNatClampNeg (A 6 y.toNatClampNeg - n)) y.toNatClampNeg
            exact ⟨KM.tr ⟨rfl, rfl, rfl, rfl, rfl, rfl, rfl⟩ a.1, Or.inr (by rw [a.2]; rfl)⟩
          · have a := mt2_KM (A := si (swA A y x (A 4 y.toNatClampNeg) n) 6 y.toNatClampNeg (A 6 y.toNatClampNeg - n)) y.toNatClampNeg
            exact ⟨KM.tr ⟨rfl, rfl, rfl, rfl, rfl, rfl, rfl⟩ a.1, Or.inr (by rw [a.2]; rfl)⟩
theorem OM.re {A' : Nat → Nat → Int32} (hO : OM A) (k : KM A A') (h15 : 0 ≤ (A' 15 0).toInt) : OM A' := by
  obtain ⟨k0, k1, k2, k3, k4, k10, k13⟩ := k
  refine ⟨?_, fun j hj => ?_, h15⟩
  · unfold MC; rw [k13]; exact hO.1
  · unfold OM1; rw [k0, k1]; rw [k13] at hj; exact hO.2.1 j hj
theorem lp_R_mm {m i how b q k s x : Int32} {Q : Option xV → xH → Prop} (T : mAB) (hx0 : 0 ≤ x.toInt) (K : ∀ v : Int32, x_X l G mR_place 3 0 0 [] Q 244 [some (xR (some (14, 0))), some (xI m), some (xI i), some (xI how), some (xI b), some (xI q), some (xI k), some (xI s), some (xI x), some (xI v)] [] (hp N I J P V T.1 T.2)) : ∀ (n : Nat) (A : Nat → Nat → Int32) (B : Nat → Nat → Int64) (v : Int32), ¬ v = 0 → OM A → x.toInt < (A 13 0).toInt → (A 15 0).toInt + n < 2147483648 → mmT x n (A, B) → mmF x n (A, B) = T → x_X l G mR_place 3 0 0 [] Q 228 [some (xR (some (14, 0))), some (xI m), some (xI i), some (xI how), some (xI b), some (xI q), some (xI k), some (xI s), some (xI x), some (xI v)] [] (hp N I J P V A B) := by
  intro n
  induction n with
  | zero => intro A B v _ _ _ _ ht; exact absurd ht id
  | succ n ih =>
    intro A B v hv hO hx1 h15 ht hT
    refine x_iload 230 dR_place_228 rfl rfl ?_
    refine x_if_eq 244 233 dR_place_230 (by decide) rfl (fun h230 => absurd h230 hv) (fun h230 => ?_)
    refine x_aload_n 234 dR_place_233 rfl rfl ?_
    refine x_iload 236 dR_place_234 rfl rfl ?_
    refine x_fVv 239 (cR_meet hO hx0 hx1) kR_115 oR_meet rfl rfl dR_place_236 rfl rfl (by decide) (Nat.le_of_ble_eq_true rfl) ?_
    refine x_istore 241 dR_place_239 rfl (by decide) rfl ?_
    refine x_goto 228 dR_place_241 (by decide) ?_
    have hkm := meM_KM (A := A) (B := B) x
    by_cases hz : (meM A B x).1 = 0
    · refine x_iload 230 dR_place_228 rfl rfl ?_
      refine x_if_eq 244 233 dR_place_230 (by decide) rfl (fun _ => ?_) (fun h9 => absurd hz h9)
      have hE : (meM A B x).2 = T := by rw [← hT]; simp only [mmF, if_pos hz]
      have := K (meM A B x).1
      rw [← hE] at this
      exact this
    · have h15' : 0 ≤ ((meM A B x).2.1 15 0).toInt ∧ ((meM A B x).2.1 15 0).toInt + n < 2147483648 := by
        rcases hkm.2 with q | q
        · rw [q]; exact ⟨hO.2.2, by omega⟩
        · rw [q, i_p1 hO.2.2 (by omega)]; have := hO.2.2; omega
      exact ih (meM A B x).2.1 (meM A B x).2.2 _ hz (hO.re hkm.1 h15'.1) (by rw [hkm.1.2.2.2.2.2.2]; exact hx1) h15'.2 (by rcases ht with q | q; exact absurd q hz; exact q) (by rw [← hT]; simp only [mmF, if_neg hz])
def pmE (A : Nat → Nat → Int32) (k x : Int32) : Nat → Nat → Int32 := if A 5 x.toNatClampNeg = 0 then si A 7 x.toNatClampNeg 1 else if k = 1 then si A 7 x.toNatClampNeg 2 else if k = 3 then si A 7 x.toNatClampNeg 2 else qeA A x.toNatClampNeg
def nwM (A : Nat → Nat → Int32) (m i how b q : Int32) : Nat → Nat → Int32 := si (si (si (si (si (si (si (si A 0 (A 13 0).toNatClampNeg m) 1 (A 13 0).toNatClampNeg i) 2 (A 13 0).toNatClampNeg (how - how / 2 * 2)) 3 (A 13 0).toNatClampNeg (how / 2)) 4 (A 13 0).toNatClampNeg b) 5 (A 13 0).toNatClampNeg q) 7 (A 13 0).toNatClampNeg 3) 13 0 (A 13 0 + 1)
def pm4 (n : Nat) (A : Nat → Nat → Int32) (B : Nat → Nat → Int64) (m i how b q : Int32) : Int32 × mAB := if A 10 i.toNatClampNeg = 0 then (A 13 0, (pmE (nwM A m i how b q) (how / 2) (A 13 0), B)) else (A 13 0, (pmE (mmF (A 13 0) n (nwM A m i how b q, B)).1 (how / 2) (A 13 0), (mmF (A 13 0) n (nwM A m i how b q, B)).2))
def pm3 (n : Nat) (A : Nat → Nat → Int32) (B : Nat → Nat → Int64) (m i how b q : Int32) : Int32 × mAB := if lg_cmp (rskM A m i (how - how / 2 * 2) q) (B 0 m.toNatClampNeg) ≤ 0 then (if uf A m i (how / 2) (how - how / 2 * 2) b q = 0 then pm4 n A B m i how b q else (-5, (A, B))) else (-4, (A, B))
def pm1 (n : Nat) (A : Nat → Nat → Int32) (B : Nat → Nat → Int64) (m i how b q : Int32) : Int32 × mAB := if A 13 0 = 120 then (-2, (A, B)) else if A 10 i.toNatClampNeg = 0 then (if how / 2 = 0 then pm3 n A B m i how b q else if how / 2 = 5 then pm3 n A B m i how b q else (-3, (A, B))) else pm3 n A B m i how b q
def pmS (n : Nat) (A : Nat → Nat → Int32) (B : Nat → Nat → Int64) (m i how b q : Int32) : Int32 × mAB := if out m 0 4 = 0 then (if out i 0 1 = 0 then (if out how 0 11 = 0 then (if out q 1 99 = 0 then (if how / 2 = 3 then pm1 n A B m i how b q else if out b 1 63 = 0 then pm1 n A B m i how b q else (-1, (A, B))) else (-1, (A, B))) else (-1, (A, B))) else (-1, (A, B))) else (-1, (A, B))
/-- the tail: what becomes of the order -/
theorem lp_R_pe {m i how b q k s x : Int32} (hx : vp_in x 120) (v : Option xV) : x_X l G mR_place 3 0 0 [] (QM N I J P V (x, (pmE A k x, B))) 244 [some (xR (some (14, 0))), some (xI m), some (xI i), some (xI how), some (xI b), some (xI q), some (xI k), some (xI s), some (xI x), v] [] (hp N I J P V A B) := by
  refine x_aload_n 245 dR_place_244 rfl rfl ?_
  refine x_get _ 248 fR_25 dR_place_245 rfl rfl rfl ?_
  refine x_iload 250 dR_place_248 rfl rfl ?_
  refine x_iald 251 dR_place_250 rfl (h_ra 5 (by decide)) hx ?_
  refine x_if_ne 265 254 dR_place_251 (by decide) rfl (fun h251 => ?_) (fun h251 => ?_)
  · skip
    refine x_iload 267 dR_place_265 rfl rfl ?_
    refine x_iconst 1 268 dR_place_267 rfl rfl ?_
    refine x_icmp_eq 277 271 dR_place_268 (by decide) rfl (fun h268 => ?_) (fun h268 => ?_)
    · skip
      refine x_aload_n 278 dR_place_277 rfl rfl ?_
      refine x_get _ 281 fR_31 dR_place_278 rfl rfl rfl ?_
      refine x_iload 283 dR_place_281 rfl rfl ?_
      refine x_iconst 2 284 dR_place_283 rfl rfl ?_
      refine y_ra7 285 dR_place_284 rfl hx ?_
      refine x_goto 294 dR_place_285 (by decide) ?_
      refine x_iload 296 dR_place_294 rfl rfl ?_
      exact x_iret dR_place_296 rfl rfl ⟨rfl, by dsimp only; unfold pmE; rw [if_neg h251, if_pos h268]⟩
    · skip
      refine x_iload 273 dR_place_271 rfl rfl ?_
      refine x_iconst 3 274 dR_place_273 rfl rfl ?_
      refine x_icmp_ne 288 277 dR_place_274 (by decide) rfl (fun h274 => ?_) (fun h274 => ?_)
      · skip
        refine x_aload_n 289 dR_place_288 rfl rfl ?_
        refine x_iload 291 dR_place_289 rfl rfl ?_
        refine x_fVn 294 (cR_queue hx) kR_90 oR_queue rfl rfl dR_place_291 rfl rfl (by decide) (Nat.le_of_ble_eq_true rfl) ?_
        refine x_iload 296 dR_place_294 rfl rfl ?_
        exact x_iret dR_place_296 rfl rfl ⟨rfl, by dsimp only; unfold pmE; rw [if_neg h251, if_neg h268, if_neg h274]⟩
      · skip
        refine x_aload_n 278 dR_place_277 rfl rfl ?_
        refine x_get _ 281 fR_31 dR_place_278 rfl rfl rfl ?_
        refine x_iload 283 dR_place_281 rfl rfl ?_
        refine x_iconst 2 284 dR_place_283 rfl rfl ?_
        refine y_ra7 285 dR_place_284 rfl hx ?_
        refine x_goto 294 dR_place_285 (by decide) ?_
        refine x_iload 296 dR_place_294 rfl rfl ?_
        exact x_iret dR_place_296 rfl rfl ⟨rfl, by dsimp only; unfold pmE; rw [if_neg h251, if_neg h268, if_pos h274]⟩
  · skip
    refine x_aload_n 255 dR_place_254 rfl rfl ?_
    refine x_get _ 258 fR_31 dR_place_255 rfl rfl rfl ?_
    refine x_iload 260 dR_place_258 rfl rfl ?_
    refine x_iconst 1 261 dR_place_260 rfl rfl ?_
    refine y_ra7 262 dR_place_261 rfl hx ?_
    refine x_goto 294 dR_place_262 (by decide) ?_
    refine x_iload 296 dR_place_294 rfl rfl ?_
    exact x_iret dR_place_296 rfl rfl ⟨rfl, by dsimp only; unfold pmE; rw [if_pos h251]⟩
theorem nm_OM (hO : OM A) (h120 : ¬ A 13 0 = 120) {m i how b q : Int32} (hm : vp_in m 5) (hi : vp_in i 2) : OM (nwM A m i how b q) ∧ (nwM A m i how b q 13 0).toInt = (A 13 0).toInt + 1 := by
  have h0 := hO.1.1
  have h1 := hO.1.2
  have h2 : (A 13 0).toInt ≠ 120 := fun z => h120 (Int32.toInt_inj.mp (by rw [z]; decide))
  have e : (nwM A m i how b q 13 0).toInt = (A 13 0).toInt + 1 := i_p1 h0 (by omega)
  refine ⟨⟨⟨by omega, by omega⟩, fun k hk => ?_, hO.2.2⟩, e⟩
  rw [e] at hk
  by_cases hkx : k = (A 13 0).toNatClampNeg
  · subst hkx
    unfold OM1
    have a0 : nwM A m i how b q 0 (A 13 0).toNatClampNeg = m := x_uf_self _ _ _
    have a1 : nwM A m i how b q 1 (A 13 0).toNatClampNeg = i := x_uf_self _ _ _
    rw [a0, a1]
    exact ⟨hm, hi⟩
  · have hlt : (k : Int) < (A 13 0).toInt := by
      rw [i_nat] at hkx
      omega
    have := hO.2.1 k hlt
    unfold OM1 at this ⊢
    have a0 : nwM A m i how b q 0 k = A 0 k := x_uf_ne _ _ hkx
    have a1 : nwM A m i how b q 1 k = A 1 k := x_uf_ne _ _ hkx
    rw [a0, a1]
    exact this
theorem lp_R_pm4 (hO : OM A) {m i how b q : Int32} (hm : vp_in m 5) (hi : vp_in i 2) (n : Nat) (h15 : (A 15 0).toInt + n < 2147483648) (ht : ¬ A 10 i.toNatClampNeg = 0 → ¬ A 13 0 = 120 → mmT (A 13 0) n (nwM A m i how b q, B)) (h120 : ¬ A 13 0 = 120) : x_X l G mR_place 3 0 0 [] (QM N I J P V (pm4 n A B m i how b q)) 144 [some (xR (some (14, 0))), some (xI m), some (xI i), some (xI how), some (xI b), some (xI q), some (xI (how / 2)), some (xI (how - how / 2 * 2)), none, none] [] (hp N I J P V A B) := by
  have hN := nm_OM hO h120 (how := how) (b := b) (q := q) hm hi
  have hx : vp_in (A 13 0) 120 := vp_of hO.1.1 (by
    have h2 : (A 13 0).toInt ≠ 120 := fun z => h120 (Int32.toInt_inj.mp (by rw [z]; decide))
    have := hO.1.2
    omega)
  refine x_aload_n 145 dR_place_144 rfl rfl ?_
  refine x_get _ 148 fR_57 dR_place_145 rfl rfl rfl ?_
  refine x_istore 150 dR_place_148 rfl (by decide) rfl ?_
  refine x_aload_n 151 dR_place_150 rfl rfl ?_
  refine x_get _ 154 fR_7 dR_place_151 rfl rfl rfl ?_
  refine x_iload 156 dR_place_154 rfl rfl ?_
  refine x_iload_n 157 dR_place_156 rfl rfl ?_
  refine y_ra0 158 dR_place_157 rfl hx ?_
  refine x_aload_n 159 dR_place_158 rfl rfl ?_
  refine x_get _ 162 fR_13 dR_place_159 rfl rfl rfl ?_
  refine x_iload 164 dR_place_162 rfl rfl ?_
  refine x_iload_n 165 dR_place_164 rfl rfl ?_
  refine y_ra1 166 dR_place_165 rfl hx ?_
  refine x_aload_n 167 dR_place_166 rfl rfl ?_
  refine x_get _ 170 fR_16 dR_place_167 rfl rfl rfl ?_
  refine x_iload 172 dR_place_170 rfl rfl ?_
  refine x_iload 174 dR_place_172 rfl rfl ?_
  refine y_ra2 175 dR_place_174 rfl hx ?_
  refine x_aload_n 176 dR_place_175 rfl rfl ?_
  refine x_get _ 179 fR_19 dR_place_176 rfl rfl rfl ?_
  refine x_iload 181 dR_place_179 rfl rfl ?_
  refine x_iload 183 dR_place_181 rfl rfl ?_
  refine y_ra3 184 dR_place_183 rfl hx ?_
  refine x_aload_n 185 dR_place_184 rfl rfl ?_
  refine x_get _ 188 fR_22 dR_place_185 rfl rfl rfl ?_
  refine x_iload 190 dR_place_188 rfl rfl ?_
  refine x_iload 192 dR_place_190 rfl rfl ?_
  refine y_ra4 193 dR_place_192 rfl hx ?_
  refine x_aload_n 194 dR_place_193 rfl rfl ?_
  refine x_get _ 197 fR_25 dR_place_194 rfl rfl rfl ?_
  refine x_iload 199 dR_place_197 rfl rfl ?_
  refine x_iload 201 dR_place_199 rfl rfl ?_
  refine y_ra5 202 dR_place_201 rfl hx ?_
  refine x_aload_n 203 dR_place_202 rfl rfl ?_
  refine x_get _ 206 fR_31 dR_place_203 rfl rfl rfl ?_
  refine x_iload 208 dR_place_206 rfl rfl ?_
  refine x_iconst 3 209 dR_place_208 rfl rfl ?_
  refine y_ra7 210 dR_place_209 rfl hx ?_
  refine x_aload_n 211 dR_place_210 rfl rfl ?_
  refine x_dup 212 dR_place_211 rfl rfl ?_
  refine x_get _ 215 fR_57 dR_place_212 rfl rfl rfl ?_
  refine x_iconst 1 216 dR_place_215 rfl rfl ?_
  refine x_iadd 217 dR_place_216 rfl ?_
  refine y_R0 220 pR_place_57 dR_place_217 rfl ?_
  refine x_aload_n 221 dR_place_220 rfl rfl ?_
  refine x_get _ 224 fR_47 dR_place_221 rfl rfl rfl ?_
  refine x_iload_n 225 dR_place_224 rfl rfl ?_
  refine x_bald 226 dR_place_225 rfl rfl hi ?_
  refine x_istore 228 dR_place_226 rfl (by decide) rfl ?_
  show x_X l G mR_place 3 0 0 [] _ 228 _ [] (hp N I J P V (nwM A m i how b q) B)
  by_cases hz : A 10 i.toNatClampNeg = 0
  · refine x_iload 230 dR_place_228 rfl rfl ?_
    refine x_if_eq 244 233 dR_place_230 (by decide) rfl (fun _ => ?_) (fun h9 => absurd hz h9)
    exact x_Xm (fun r h1 z => QM.ip hz z) (lp_R_pe (A := nwM A m i how b q) (k := how / 2) hx _)
  · exact lp_R_mm (x := A 13 0) (mmF (A 13 0) n (nwM A m i how b q, B)) hO.1.1 (fun v => x_Xm (fun r h1 z => QM.ig hz z) (lp_R_pe hx _)) n (nwM A m i how b q) B _ hz hN.1 (by rw [hN.2]; omega) h15 (ht hz h120) rfl
theorem lp_R_pm1 (hO : OM A) {m i how b q : Int32} (hm : vp_in m 5) (hi : vp_in i 2) (n : Nat) (h15 : (A 15 0).toInt + n < 2147483648) (ht : ¬ A 10 i.toNatClampNeg = 0 → ¬ A 13 0 = 120 → mmT (A 13 0) n (nwM A m i how b q, B)) : x_X l G mR_place 3 0 0 [] (QM N I J P V (pm1 n A B m i how b q)) 66 [some (xR (some (14, 0))), some (xI m), some (xI i), some (xI how), some (xI b), some (xI q), some (xI (how / 2)), some (xI (how - how / 2 * 2)), none, none] [] (hp N I J P V A B) := by
  refine x_aload_n 67 dR_place_66 rfl rfl ?_
  refine x_get _ 70 fR_57 dR_place_67 rfl rfl rfl ?_
  refine x_bipush (120) 72 dR_place_70 rfl rfl ?_
  refine x_icmp_ne 78 75 dR_place_72 (by decide) rfl (fun h72 => ?_) (fun h72 => ?_)
  · skip
    refine x_aload_n 79 dR_place_78 rfl rfl ?_
    refine x_get _ 82 fR_47 dR_place_79 rfl rfl rfl ?_
    refine x_iload_n 83 dR_place_82 rfl rfl ?_
    refine x_bald 84 dR_place_83 rfl rfl hi ?_
    refine x_if_ne 101 87 dR_place_84 (by decide) rfl (fun h84 => ?_) (fun h84 => ?_)
    · skip
      refine x_aload_n 102 dR_place_101 rfl rfl ?_
      refine x_iload_n 103 dR_place_102 rfl rfl ?_
      refine x_iload_n 104 dR_place_103 rfl rfl ?_
      refine x_iload 106 dR_place_104 rfl rfl ?_
      refine x_iload 108 dR_place_106 rfl rfl ?_
      refine x_fVv 111 (cR_riskWith hO.1 hm _ _ _) kR_107 oR_riskWith rfl rfl dR_place_108 rfl rfl (by decide) (Nat.le_of_ble_eq_true rfl) ?_
      refine x_aload_n 112 dR_place_111 rfl rfl ?_
      refine x_get _ 115 fR_37 dR_place_112 rfl rfl rfl ?_
      refine x_iload_n 116 dR_place_115 rfl rfl ?_
      refine x_lald 117 dR_place_116 rfl (h_rl 0 (by decide)) hm ?_
      refine x_lcmp 118 dR_place_117 rfl ?_
      refine x_if_le 124 121 dR_place_118 (by decide) rfl (fun h118 => ?_) (fun h118 => ?_)
      · skip
        refine x_aload_n 125 dR_place_124 rfl rfl ?_
        refine x_iload_n 126 dR_place_125 rfl rfl ?_
        refine x_iload_n 127 dR_place_126 rfl rfl ?_
        refine x_iload 129 dR_place_127 rfl rfl ?_
        refine x_iload 131 dR_place_129 rfl rfl ?_
        refine x_iload 133 dR_place_131 rfl rfl ?_
        refine x_iload 135 dR_place_133 rfl rfl ?_
        refine x_fVv 138 (cR_unfit hO.1 _ _ _ _ _ _) kR_111 oR_unfit rfl rfl dR_place_135 rfl rfl (by decide) (Nat.le_of_ble_eq_true rfl) ?_
        refine x_if_eq 144 141 dR_place_138 (by decide) rfl (fun h138 => ?_) (fun h138 => ?_)
        · skip
          exact x_Xm (fun r h1 z => QM.ig h72 (QM.ig h84 (QM.ip h118 (QM.ip h138 (z))))) (lp_R_pm4 hO hm hi n h15 ht h72)
        · skip
          refine x_bipush (-5) 143 dR_place_141 rfl rfl ?_
          exact x_iret dR_place_143 rfl rfl (QM.ig h72 (QM.ig h84 (QM.ip h118 (QM.ig h138 (⟨rfl, rfl⟩)))))
      · skip
        refine x_bipush (-4) 123 dR_place_121 rfl rfl ?_
        exact x_iret dR_place_123 rfl rfl (QM.ig h72 (QM.ig h84 (QM.ig h118 (⟨rfl, rfl⟩))))
    · skip
      refine x_iload 89 dR_place_87 rfl rfl ?_
      refine x_if_eq 101 92 dR_place_89 (by decide) rfl (fun h89 => ?_) (fun h89 => ?_)
      · skip
        refine x_aload_n 102 dR_place_101 rfl rfl ?_
        refine x_iload_n 103 dR_place_102 rfl rfl ?_
        refine x_iload_n 104 dR_place_103 rfl rfl ?_
        refine x_iload 106 dR_place_104 rfl rfl ?_
        refine x_iload 108 dR_place_106 rfl rfl ?_
        refine x_fVv 111 (cR_riskWith hO.1 hm _ _ _) kR_107 oR_riskWith rfl rfl dR_place_108 rfl rfl (by decide) (Nat.le_of_ble_eq_true rfl) ?_
        refine x_aload_n 112 dR_place_111 rfl rfl ?_
        refine x_get _ 115 fR_37 dR_place_112 rfl rfl rfl ?_
        refine x_iload_n 116 dR_place_115 rfl rfl ?_
        refine x_lald 117 dR_place_116 rfl (h_rl 0 (by decide)) hm ?_
        refine x_lcmp 118 dR_place_117 rfl ?_
        refine x_if_le 124 121 dR_place_118 (by decide) rfl (fun h118 => ?_) (fun h118 => ?_)
        · skip
          refine x_aload_n 125 dR_place_124 rfl rfl ?_
          refine x_iload_n 126 dR_place_125 rfl rfl ?_
          refine x_iload_n 127 dR_place_126 rfl rfl ?_
          refine x_iload 129 dR_place_127 rfl rfl ?_
          refine x_iload 131 dR_place_129 rfl rfl ?_
          refine x_iload 133 dR_place_131 rfl rfl ?_
          refine x_iload 135 dR_place_133 rfl rfl ?_
          refine x_fVv 138 (cR_unfit hO.1 _ _ _ _ _ _) kR_111 oR_unfit rfl rfl dR_place_135 rfl rfl (by decide) (Nat.le_of_ble_eq_true rfl) ?_
          refine x_if_eq 144 141 dR_place_138 (by decide) rfl (fun h138 => ?_) (fun h138 => ?_)
          · skip
            exact x_Xm (fun r h1 z => QM.ig h72 (QM.ip h84 (QM.ip h89 (QM.ip h118 (QM.ip h138 (z)))))) (lp_R_pm4 hO hm hi n h15 ht h72)
          · skip
            refine x_bipush (-5) 143 dR_place_141 rfl rfl ?_
            exact x_iret dR_place_143 rfl rfl (QM.ig h72 (QM.ip h84 (QM.ip h89 (QM.ip h118 (QM.ig h138 (⟨rfl, rfl⟩))))))
        · skip
          refine x_bipush (-4) 123 dR_place_121 rfl rfl ?_
          exact x_iret dR_place_123 rfl rfl (QM.ig h72 (QM.ip h84 (QM.ip h89 (QM.ig h118 (⟨rfl, rfl⟩)))))
      · skip
        refine x_iload 94 dR_place_92 rfl rfl ?_
        refine x_iconst 5 95 dR_place_94 rfl rfl ?_
        refine x_icmp_eq 101 98 dR_place_95 (by decide) rfl (fun h95 => ?_) (fun h95 => ?_)
        · skip
          refine x_aload_n 102 dR_place_101 rfl rfl ?_
          refine x_iload_n 103 dR_place_102 rfl rfl ?_
          refine x_iload_n 104 dR_place_103 rfl rfl ?_
          refine x_iload 106 dR_place_104 rfl rfl ?_
          refine x_iload 108 dR_place_106 rfl rfl ?_
          refine x_fVv 111 (cR_riskWith hO.1 hm _ _ _) kR_107 oR_riskWith rfl rfl dR_place_108 rfl rfl (by decide) (Nat.le_of_ble_eq_true rfl) ?_
          refine x_aload_n 112 dR_place_111 rfl rfl ?_
          refine x_get _ 115 fR_37 dR_place_112 rfl rfl rfl ?_
          refine x_iload_n 116 dR_place_115 rfl rfl ?_
          refine x_lald 117 dR_place_116 rfl (h_rl 0 (by decide)) hm ?_
          refine x_lcmp 118 dR_place_117 rfl ?_
          refine x_if_le 124 121 dR_place_118 (by decide) rfl (fun h118 => ?_) (fun h118 => ?_)
          · skip
            refine x_aload_n 125 dR_place_124 rfl rfl ?_
            refine x_iload_n 126 dR_place_125 rfl rfl ?_
            refine x_iload_n 127 dR_place_126 rfl rfl ?_
            refine x_iload 129 dR_place_127 rfl rfl ?_
            refine x_iload 131 dR_place_129 rfl rfl ?_
            refine x_iload 133 dR_place_131 rfl rfl ?_
            refine x_iload 135 dR_place_133 rfl rfl ?_
            refine x_fVv 138 (cR_unfit hO.1 _ _ _ _ _ _) kR_111 oR_unfit rfl rfl dR_place_135 rfl rfl (by decide) (Nat.le_of_ble_eq_true rfl) ?_
            refine x_if_eq 144 141 dR_place_138 (by decide) rfl (fun h138 => ?_) (fun h138 => ?_)
            · skip
              exact x_Xm (fun r h1 z => QM.ig h72 (QM.ip h84 (QM.ig h89 (QM.ip h95 (QM.ip h118 (QM.ip h138 (z))))))) (lp_R_pm4 hO hm hi n h15 ht h72)
            · skip
              refine x_bipush (-5) 143 dR_place_141 rfl rfl ?_
              exact x_iret dR_place_143 rfl rfl (QM.ig h72 (QM.ip h84 (QM.ig h89 (QM.ip h95 (QM.ip h118 (QM.ig h138 (⟨rfl, rfl⟩)))))))
          · skip
            refine x_bipush (-4) 123 dR_place_121 rfl rfl ?_
            exact x_iret dR_place_123 rfl rfl (QM.ig h72 (QM.ip h84 (QM.ig h89 (QM.ip h95 (QM.ig h118 (⟨rfl, rfl⟩))))))
        · skip
          refine x_bipush (-3) 100 dR_place_98 rfl rfl ?_
          exact x_iret dR_place_100 rfl rfl (QM.ig h72 (QM.ip h84 (QM.ig h89 (QM.ig h95 (⟨rfl, rfl⟩)))))
  · skip
    refine x_bipush (-2) 77 dR_place_75 rfl rfl ?_
    exact x_iret dR_place_77 rfl rfl (QM.ip h72 (⟨rfl, rfl⟩))
theorem cR_place (hO : OM A) (m i how b q : Int32) (n : Nat) (h15 : (A 15 0).toInt + n < 2147483648) (ht : out m 0 4 = 0 → out i 0 1 = 0 → out q 1 99 = 0 → ¬ A 10 i.toNatClampNeg = 0 → ¬ A 13 0 = 120 → mmT (A 13 0) n (nwM A m i how b q, B)) : x_C l G mR_place 3 0 0 [xR (some (14, 0)), xI m, xI i, xI how, xI b, xI q] (hp N I J P V A B) [] (QM N I J P V (pmS n A B m i how b q)) := by
  refine x_C.at [some (xR (some (14, 0))), some (xI m), some (xI i), some (xI how), some (xI b), some (xI q), none, none, none, none] rfl (Nat.le_of_ble_eq_true rfl) rfl ?_
  refine x_iload_n 1 dR_place_0 rfl rfl ?_
  refine x_iconst 2 2 dR_place_1 rfl rfl ?_
  refine x_idiv 3 dR_place_2 rfl (by decide) ?_
  refine x_istore 5 dR_place_3 rfl (by decide) rfl ?_
  refine x_iload_n 6 dR_place_5 rfl rfl ?_
  refine x_iconst 2 7 dR_place_6 rfl rfl ?_
  refine x_irem 8 dR_place_7 rfl (by decide) ?_
  refine x_istore 10 dR_place_8 rfl (by decide) rfl ?_
  refine x_iload_n 11 dR_place_10 rfl rfl ?_
  refine x_fSv 14 (cR_noMember _) kR_101 oR_noMember dR_place_11 rfl rfl (by decide) (Nat.le_of_ble_eq_true rfl) ?_
  refine x_if_ne 64 17 dR_place_14 (by decide) rfl (fun h14 => ?_) (fun h14 => ?_)
  · skip
    refine x_iconst (-1) 65 dR_place_64 rfl rfl ?_
    exact x_iret dR_place_65 rfl rfl (QM.ig h14 (⟨rfl, rfl⟩))
  · skip
    refine x_iload_n 18 dR_place_17 rfl rfl ?_
    refine x_iconst 0 19 dR_place_18 rfl rfl ?_
    refine x_iconst 1 20 dR_place_19 rfl rfl ?_
    refine x_fSv 23 (cR_outside _ _ _) kR_98 oR_outside dR_place_20 rfl rfl (by decide) (Nat.le_of_ble_eq_true rfl) ?_
    refine x_if_ne 64 26 dR_place_23 (by decide) rfl (fun h23 => ?_) (fun h23 => ?_)
    · skip
      refine x_iconst (-1) 65 dR_place_64 rfl rfl ?_
      exact x_iret dR_place_65 rfl rfl (QM.ip h14 (QM.ig h23 (⟨rfl, rfl⟩)))
    · skip
      refine x_iload_n 27 dR_place_26 rfl rfl ?_
      refine x_iconst 0 28 dR_place_27 rfl rfl ?_
      refine x_bipush (11) 30 dR_place_28 rfl rfl ?_
      refine x_fSv 33 (cR_outside _ _ _) kR_98 oR_outside dR_place_30 rfl rfl (by decide) (Nat.le_of_ble_eq_true rfl) ?_
      refine x_if_ne 64 36 dR_place_33 (by decide) rfl (fun h33 => ?_) (fun h33 => ?_)
      · skip
        refine x_iconst (-1) 65 dR_place_64 rfl rfl ?_
        exact x_iret dR_place_65 rfl rfl (QM.ip h14 (QM.ip h23 (QM.ig h33 (⟨rfl, rfl⟩))))
      · skip
        refine x_iload 38 dR_place_36 rfl rfl ?_
        refine x_iconst 1 39 dR_place_38 rfl rfl ?_
        refine x_bipush (99) 41 dR_place_39 rfl rfl ?_
        refine x_fSv 44 (cR_outside _ _ _) kR_98 oR_outside dR_place_41 rfl rfl (by decide) (Nat.le_of_ble_eq_true rfl) ?_
        refine x_if_ne 64 47 dR_place_44 (by decide) rfl (fun h44 => ?_) (fun h44 => ?_)
        · skip
          refine x_iconst (-1) 65 dR_place_64 rfl rfl ?_
          exact x_iret dR_place_65 rfl rfl (QM.ip h14 (QM.ip h23 (QM.ip h33 (QM.ig h44 (⟨rfl, rfl⟩)))))
        · skip
          refine x_iload 49 dR_place_47 rfl rfl ?_
          refine x_iconst 3 50 dR_place_49 rfl rfl ?_
          refine x_icmp_eq 66 53 dR_place_50 (by decide) rfl (fun h50 => ?_) (fun h50 => ?_)
          · skip
            exact x_Xm (fun r h1 z => QM.ip h14 (QM.ip h23 (QM.ip h33 (QM.ip h44 (QM.ip h50 (z)))))) (lp_R_pm1 hO (vO5 h14) (vO2 h23) n h15 (ht h14 h23 h44))
          · skip
            refine x_iload 55 dR_place_53 rfl rfl ?_
            refine x_iconst 1 56 dR_place_55 rfl rfl ?_
            refine x_bipush (63) 58 dR_place_56 rfl rfl ?_
            refine x_fSv 61 (cR_outside _ _ _) kR_98 oR_outside dR_place_58 rfl rfl (by decide) (Nat.le_of_ble_eq_true rfl) ?_
            refine x_if_eq 66 64 dR_place_61 (by decide) rfl (fun h61 => ?_) (fun h61 => ?_)
            · skip
              exact x_Xm (fun r h1 z => QM.ip h14 (QM.ip h23 (QM.ip h33 (QM.ip h44 (QM.ig h50 (QM.ip h61 (z))))))) (lp_R_pm1 hO (vO5 h14) (vO2 h23) n h15 (ht h14 h23 h44))
            · skip
              refine x_iconst (-1) 65 dR_place_64 rfl rfl ?_
              exact x_iret dR_place_65 rfl rfl (QM.ip h14 (QM.ip h23 (QM.ip h33 (QM.ip h44 (QM.ig h50 (QM.ig h61 (⟨rfl, rfl⟩)))))))
end ME
