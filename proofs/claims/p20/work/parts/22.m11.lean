section XMo
variable {l : Launch} {G : xG} {M : xM} {d kc ks : Nat} {nk : List xQ} {Q Q1 : Option xV → xH → Prop} {pc : Nat} {L : List (Option xV)} {st : List xV} {h : xH}
/-- more is known behind -/
theorem x_Xm (hq : ∀ r h1, Q1 r h1 → Q r h1) (k : x_X l G M d kc ks nk Q1 pc L st h) : x_X l G M d kc ks nk Q pc L st h := by
  intro p e R s m args below meth c H locs cells slots mc ms ls z0 z C hc hz hW hS hL T hT X
  obtain ⟨t, a1, o, b1, b2, ⟨r, h', z', c1, c2, c3⟩, b4⟩ := k p e R s m args below meth c H locs cells slots mc ms ls z0 z C hc hz hW hS hL T hT X
  exact ⟨t, a1, o, b1, b2, ⟨r, h', z', c1, hq r h' c2, c3⟩, b4⟩
end XMo
section MB
variable {l : Launch} {G : xG} {N : Nat} {I : Nat → Nat → Int32} {J : Nat → Nat → Int64} {P : Nat → Nat → Option xQ} {V : Nat → Nat → Int32} {A : Nat → Nat → Int32} {B : Nat → Nat → Int64}
variable {h : xH} {ls : Nat → List Nat}
def QP (R : Int32 × Nat × cS) (A : Nat → Nat → Int32) (B : Nat → Nat → Int64) : Option xV → xH → Prop := x_ex (some (xI R.1)) (HS R.2.1 R.2.2 A B)
theorem QP.ip {c : Prop} [Decidable c] {S1 S2 : Int32 × Nat × cS} {r : Option xV} (hc : c) (q : QP S1 A B r h) : QP (if c then S1 else S2) A B r h := by rw [if_pos hc]; exact q
theorem QP.ig {c : Prop} [Decidable c] {S1 S2 : Int32 × Nat × cS} {r : Option xV} (hc : ¬ c) (q : QP S2 A B r h) : QP (if c then S1 else S2) A B r h := by rw [if_neg hc]; exact q
abbrev rfsP (I : Nat → Nat → Int32) (ls : Nat → List Nat) (N : Nat) (m i how lim q : Int32) : Int32 := rfs (nwO I N m i how lim q) N (ls (fdx i.toNatClampNeg (nwO I N m i how lim q 3 N)))
def pl4 (N : Nat) (I : Nat → Nat → Int32) (J : Nat → Nat → Int64) (V : Nat → Nat → Int32) (ls : Nat → List Nat) (m i how lim q : Int32) : Int32 × Nat × cS := if rfsP I ls N m i how lim q = 0 then ((adS (plI I N m i how lim q) J V ls N i.toNatClampNeg).1 0 N, N + 1, adS (plI I N m i how lim q) J V ls N i.toNatClampNeg) else (-5, N, (I, J, V, ls))
def pl3 (N : Nat) (I : Nat → Nat → Int32) (J : Nat → Nat → Int64) (V : Nat → Nat → Int32) (ls : Nat → List Nat) (m i how lim q : Int32) : Int32 × Nat × cS := if lg_cmp (rsk I V ls m i (how - how / 2 * 2) q) (J 0 m.toNatClampNeg) ≤ 0 then pl4 N I J V ls m i how lim q else (-4, N, (I, J, V, ls))
def pl1 (N : Nat) (I : Nat → Nat → Int32) (J : Nat → Nat → Int64) (V : Nat → Nat → Int32) (ls : Nat → List Nat) (m i how lim q : Int32) : Int32 × Nat × cS := if I 12 0 < 120 then (if I 10 i.toNatClampNeg = 0 then (if how / 2 = 0 then pl3 N I J V ls m i how lim q else if how / 2 = 5 then pl3 N I J V ls m i how lim q else (-3, N, (I, J, V, ls))) else pl3 N I J V ls m i how lim q) else (-2, N, (I, J, V, ls))
def plS (N : Nat) (I : Nat → Nat → Int32) (J : Nat → Nat → Int64) (V : Nat → Nat → Int32) (ls : Nat → List Nat) (m i how lim q : Int32) : Int32 × Nat × cS := if isM m = 0 then (-1, N, (I, J, V, ls)) else if isN i = 0 then (-1, N, (I, J, V, ls)) else if isH how = 0 then (-1, N, (I, J, V, ls)) else if q < 1 then (-1, N, (I, J, V, ls)) else if 99 < q then (-1, N, (I, J, V, ls)) else if how / 2 = 3 then pl1 N I J V ls m i how lim q else if isP lim = 0 then (-1, N, (I, J, V, ls)) else pl1 N I J V ls m i how lim q
theorem lp_place128 {t : Int} (hS : HS N (I, J, V, ls) A B h) (hV : CV N I ls t) (ht : t + 219 < 2147483648) {m i how lim q : Int32} (hm : vp_in m 5) (hi : vp_in i 2) (hh : ¬ how < 0 ∧ ¬ 12 ≤ how) (hl : how / 2 = 3 ∨ (1 ≤ lim.toInt ∧ lim.toInt ≤ 63)) (hc : I 12 0 < 120) (x : Option xV) : x_X l G mC_place 6 1 10 [(0, N)] (QP (pl4 N I J V ls m i how lim q) A B) 128 [some (xR (some (5, 0))), some (xI m), some (xI i), some (xI how), some (xI lim), some (xI q), some (xR (some (3, i.toNatClampNeg))), some (xI (how / 2)), x] [] h := by
  obtain ⟨P, rfl, hQ, hP2⟩ := hS.out
  have hN := hV.2.1
  have eN : (I 12 0).toNatClampNeg = N := by rw [i_nat]; omega
  have h120 : vp_in (I 12 0) 120 := vp_of (by omega) (by rw [i_lt, c120] at hc; exact hc)
  refine x_less (L' := [some (xR (some (5, 0))), some (xI m), some (xI i), some (xI how), some (xI lim), some (xI q), some (xR (some (3, i.toNatClampNeg))), some (xI (how / 2)), none]) (fun j v hj => by
    match j, hj with
    | 0, hj => exact hj
    | 1, hj => exact hj
    | 2, hj => exact hj
    | 3, hj => exact hj
    | 4, hj => exact hj
    | 5, hj => exact hj
    | 6, hj => exact hj
    | 7, hj => exact hj
    | 8, hj => cases hj
    | j + 9, hj => simp at hj) ?_
  refine x_new (0, N) 131 nC_place_21 dC_place_128 rfl (by decide) (by decide) (List.mem_singleton.mpr rfl) (if_neg (Nat.lt_irrefl N)) (hp_nr hP2) (fun v hv a ha hva => by rw [List.mem_singleton.mp ha] at hva; rw [hva] at hv; simp at hv) (fun v hv a ha hva => by rw [List.mem_singleton.mp ha] at hva; rw [hva] at hv; simp at hv) ?_
  rw [hp_new]
  refine x_dup 132 dC_place_131 rfl rfl ?_
  refine x_aload_n 133 dC_place_132 rfl rfl ?_
  refine x_get _ 136 fC_41 dC_place_133 rfl rfl rfl ?_
  refine x_iload_n 137 dC_place_136 rfl rfl ?_
  refine x_iload_n 138 dC_place_137 rfl rfl ?_
  refine x_iload_n 139 dC_place_138 rfl rfl ?_
  refine x_iload 141 dC_place_139 rfl rfl ?_
  refine x_iload 143 dC_place_141 rfl rfl ?_
  refine x_callI 146 (cO_init (Nat.lt_succ_self N) _ _ _ _ _ _) kC_85 oO_init dC_place_143 rfl rfl (by decide) (Nat.zero_le _) (Nat.zero_le _) (Nat.le_of_ble_eq_true rfl) (fun _ q => nomatch q) (fun _ _ _ q => nomatch q) (fun _ _ _ q => nomatch q) (fun r h1 hq => ?_)
  obtain ⟨rfl, rfl⟩ := hq
  show x_X l G mC_place 6 _ _ _ _ 146 _ [xR (some (0, N))] (hp (N + 1) (nwO I N m i how lim q) J (sp (sp P 0 N none) 0 N none) V A B)
  refine x_astore 148 dC_place_146 rfl (by decide) rfl ?_
  refine x_aload 150 dC_place_148 rfl rfl ?_
  refine x_aload 152 dC_place_150 rfl rfl ?_
  refine x_fVv 155 (cB_refuses (vp_lt hi) (Nat.lt_succ_self N) (hQ.nw1.1 _ (fdx_lt (vp_lt hi) _)) (hQ.nw1.2.1 _ (fdx_lt (vp_lt hi) _))) kC_88 oB_refuses rfl (h_B (vp_lt hi)) dC_place_152 rfl rfl (by decide) (Nat.le_of_ble_eq_true rfl) ?_
  refine x_if_eq 161 158 dC_place_155 (by decide) rfl (fun h155 => ?_) (fun h155 => ?_)
  · skip
    refine x_aload_n 162 dC_place_161 rfl rfl ?_
    refine x_get _ 165 fC_23 dC_place_162 rfl rfl rfl ?_
    refine x_aload_n 166 dC_place_165 rfl rfl ?_
    refine x_get _ 169 fC_41 dC_place_166 rfl rfl rfl ?_
    refine x_aload 171 dC_place_169 rfl rfl ?_
    refine y_orders 172 dC_place_171 rfl (Nat.lt_succ_self N) h120 ?_
    rw [show (nwO I N m i how lim q 12 0).toNatClampNeg = N from eN]
    refine x_aload_n 173 dC_place_172 rfl rfl ?_
    refine x_dup 174 dC_place_173 rfl rfl ?_
    refine x_get _ 177 fC_41 dC_place_174 rfl rfl rfl ?_
    refine x_iconst 1 178 dC_place_177 rfl rfl ?_
    refine x_iadd 179 dC_place_178 rfl ?_
    refine y_C5 182 pC_place_41 dC_place_179 rfl ?_
    refine x_aload_n 183 dC_place_182 rfl rfl ?_
    refine x_aload 185 dC_place_183 rfl rfl ?_
    refine x_aload 187 dC_place_185 rfl rfl ?_
    refine x_gVn 190 (cC_admit (N := N + 1) (I := plI I N m i how lim q) (ls := ls) (by exact ⟨_, rfl, hQ.nw, hP2.nw⟩) (pl_CI hV hQ hm hi hh hl) (Nat.lt_succ_self N) (vp_lt hi) (fun j hj q => Nat.lt_irrefl N (hQ.2.1 j hj N q)) (by exact hV.2.2.2.1) (by show (I 13 0).toInt + 219 < _; have := hV.2.2.2.2; omega)) kC_92 oC_admit rfl rfl dC_place_187 rfl rfl (by decide) (Nat.le_of_ble_eq_true rfl) (fun h1 hq => ?_)
    obtain ⟨P1, rfl, hQ1, hP21⟩ := hq
    refine x_aload 192 dC_place_190 rfl rfl ?_
    refine x_get _ 195 fC_96 dC_place_192 rfl (h_O (Nat.lt_succ_self N)) rfl ?_
    exact x_iret dC_place_195 rfl rfl (QP.ip h155 ⟨rfl, P1, rfl, hQ1, hP21⟩)
  · skip
    refine x_sub (hp_less (fun k hk => nw_e hk m i how lim q none) rfl rfl rfl rfl rfl rfl rfl rfl rfl) ?_
    refine x_bipush (-5) 160 dC_place_158 rfl rfl ?_
    exact x_iret dC_place_160 rfl rfl (QP.ig h155 ⟨rfl, P, rfl, hQ, hP2⟩)
theorem lp_place52 {t : Int} (hS : HS N (I, J, V, ls) A B h) (hV : CV N I ls t) (ht : t + 219 < 2147483648) {m i how lim q : Int32} (hm : vp_in m 5) (hi : vp_in i 2) (hh : ¬ how < 0 ∧ ¬ 12 ≤ how) (hl : how / 2 = 3 ∨ (1 ≤ lim.toInt ∧ lim.toInt ≤ 63)) : x_X l G mC_place 6 1 10 [(0, N)] (QP (pl1 N I J V ls m i how lim q) A B) 52 [some (xR (some (5, 0))), some (xI m), some (xI i), some (xI how), some (xI lim), some (xI q), none, none, none] [] h := by
  obtain ⟨P, rfl, hQ, hP2⟩ := hS.out
  refine x_aload_n 53 dC_place_52 rfl rfl ?_
  refine x_get _ 56 fC_41 dC_place_53 rfl rfl rfl ?_
  refine x_bipush (120) 58 dC_place_56 rfl rfl ?_
  refine x_icmp_lt 64 61 dC_place_58 (by decide) rfl (fun h58 => ?_) (fun h58 => ?_)
  · skip
    refine x_aload_n 65 dC_place_64 rfl rfl ?_
    refine x_get _ 68 fC_17 dC_place_65 rfl rfl rfl ?_
    refine x_iload_n 69 dC_place_68 rfl rfl ?_
    refine x_aald 70 rfl dC_place_69 rfl rfl hi ?_
    refine x_astore 72 dC_place_70 rfl (by decide) rfl ?_
    refine x_iload_n 73 dC_place_72 rfl rfl ?_
    refine x_fSv 76 (cC_kindOf _) kC_67 oC_kindOf dC_place_73 rfl rfl (by decide) (Nat.le_of_ble_eq_true rfl) ?_
    refine x_istore 78 dC_place_76 rfl (by decide) rfl ?_
    refine x_aload 80 dC_place_78 rfl rfl ?_
    refine x_get _ 83 fC_74 dC_place_80 rfl (h_B (vp_lt hi)) rfl ?_
    refine x_if_ne 100 86 dC_place_83 (by decide) rfl (fun h83 => ?_) (fun h83 => ?_)
    · skip
      refine x_aload_n 101 dC_place_100 rfl rfl ?_
      refine x_iload_n 102 dC_place_101 rfl rfl ?_
      refine x_iload_n 103 dC_place_102 rfl rfl ?_
      refine x_iload_n 104 dC_place_103 rfl rfl ?_
      refine x_fSv 107 (cC_sideOf _) kC_78 oC_sideOf dC_place_104 rfl rfl (by decide) (Nat.le_of_ble_eq_true rfl) ?_
      refine x_iload 109 dC_place_107 rfl rfl ?_
      refine x_fVv 112 (cC_riskWith hm hQ.1 hQ.2.1 _ _ _) kC_81 oC_riskWith rfl rfl dC_place_109 rfl rfl (by decide) (Nat.le_of_ble_eq_true rfl) ?_
      refine x_aload_n 113 dC_place_112 rfl rfl ?_
      refine x_get _ 116 fC_11 dC_place_113 rfl rfl rfl ?_
      refine x_iload_n 117 dC_place_116 rfl rfl ?_
      refine x_aald 118 rfl dC_place_117 rfl rfl hm ?_
      refine x_get _ 121 fC_53 dC_place_118 rfl (h_A (vp_lt hm)) rfl ?_
      refine x_lcmp 122 dC_place_121 rfl ?_
      refine x_if_le 128 125 dC_place_122 (by decide) rfl (fun h122 => ?_) (fun h122 => ?_)
      · skip
        exact x_Xm (fun r h1 z => QP.ip h58 (QP.ig h83 (QP.ip h122 (z)))) (lp_place128 hS hV ht hm hi hh hl h58 _)
      · skip
        refine x_bipush (-4) 127 dC_place_125 rfl rfl ?_
        exact x_iret dC_place_127 rfl rfl (QP.ip h58 (QP.ig h83 (QP.ig h122 (⟨rfl, P, rfl, hQ, hP2⟩))))
    · skip
      refine x_iload 88 dC_place_86 rfl rfl ?_
      refine x_if_eq 100 91 dC_place_88 (by decide) rfl (fun h88 => ?_) (fun h88 => ?_)
      · skip
        refine x_aload_n 101 dC_place_100 rfl rfl ?_
        refine x_iload_n 102 dC_place_101 rfl rfl ?_
        refine x_iload_n 103 dC_place_102 rfl rfl ?_
        refine x_iload_n 104 dC_place_103 rfl rfl ?_
        refine x_fSv 107 (cC_sideOf _) kC_78 oC_sideOf dC_place_104 rfl rfl (by decide) (Nat.le_of_ble_eq_true rfl) ?_
        refine x_iload 109 dC_place_107 rfl rfl ?_
        refine x_fVv 112 (cC_riskWith hm hQ.1 hQ.2.1 _ _ _) kC_81 oC_riskWith rfl rfl dC_place_109 rfl rfl (by decide) (Nat.le_of_ble_eq_true rfl) ?_
        refine x_aload_n 113 dC_place_112 rfl rfl ?_
        refine x_get _ 116 fC_11 dC_place_113 rfl rfl rfl ?_
        refine x_iload_n 117 dC_place_116 rfl rfl ?_
        refine x_aald 118 rfl dC_place_117 rfl rfl hm ?_
        refine x_get _ 121 fC_53 dC_place_118 rfl (h_A (vp_lt hm)) rfl ?_
        refine x_lcmp 122 dC_place_121 rfl ?_
        refine x_if_le 128 125 dC_place_122 (by decide) rfl (fun h122 => ?_) (fun h122 => ?_)
        · skip
          exact x_Xm (fun r h1 z => QP.ip h58 (QP.ip h83 (QP.ip h88 (QP.ip h122 (z))))) (lp_place128 hS hV ht hm hi hh hl h58 _)
        · skip
          refine x_bipush (-4) 127 dC_place_125 rfl rfl ?_
          exact x_iret dC_place_127 rfl rfl (QP.ip h58 (QP.ip h83 (QP.ip h88 (QP.ig h122 (⟨rfl, P, rfl, hQ, hP2⟩)))))
      · skip
        refine x_iload 93 dC_place_91 rfl rfl ?_
        refine x_iconst 5 94 dC_place_93 rfl rfl ?_
        refine x_icmp_eq 100 97 dC_place_94 (by decide) rfl (fun h94 => ?_) (fun h94 => ?_)
        · skip
          refine x_aload_n 101 dC_place_100 rfl rfl ?_
          refine x_iload_n 102 dC_place_101 rfl rfl ?_
          refine x_iload_n 103 dC_place_102 rfl rfl ?_
          refine x_iload_n 104 dC_place_103 rfl rfl ?_
          refine x_fSv 107 (cC_sideOf _) kC_78 oC_sideOf dC_place_104 rfl rfl (by decide) (Nat.le_of_ble_eq_true rfl) ?_
          refine x_iload 109 dC_place_107 rfl rfl ?_
          refine x_fVv 112 (cC_riskWith hm hQ.1 hQ.2.1 _ _ _) kC_81 oC_riskWith rfl rfl dC_place_109 rfl rfl (by decide) (Nat.le_of_ble_eq_true rfl) ?_
          refine x_aload_n 113 dC_place_112 rfl rfl ?_
          refine x_get _ 116 fC_11 dC_place_113 rfl rfl rfl ?_
          refine x_iload_n 117 dC_place_116 rfl rfl ?_
          refine x_aald 118 rfl dC_place_117 rfl rfl hm ?_
          refine x_get _ 121 fC_53 dC_place_118 rfl (h_A (vp_lt hm)) rfl ?_
          refine x_lcmp 122 dC_place_121 rfl ?_
          refine x_if_le 128 125 dC_place_122 (by decide) rfl (fun h122 => ?_) (fun h122 => ?_)
          · skip
            exact x_Xm (fun r h1 z => QP.ip h58 (QP.ip h83 (QP.ig h88 (QP.ip h94 (QP.ip h122 (z)))))) (lp_place128 hS hV ht hm hi hh hl h58 _)
          · skip
            refine x_bipush (-4) 127 dC_place_125 rfl rfl ?_
            exact x_iret dC_place_127 rfl rfl (QP.ip h58 (QP.ip h83 (QP.ig h88 (QP.ip h94 (QP.ig h122 (⟨rfl, P, rfl, hQ, hP2⟩))))))
        · skip
          refine x_bipush (-3) 99 dC_place_97 rfl rfl ?_
          exact x_iret dC_place_99 rfl rfl (QP.ip h58 (QP.ip h83 (QP.ig h88 (QP.ig h94 (⟨rfl, P, rfl, hQ, hP2⟩)))))
  · skip
    refine x_bipush (-2) 63 dC_place_61 rfl rfl ?_
    exact x_iret dC_place_63 rfl rfl (QP.ig h58 (⟨rfl, P, rfl, hQ, hP2⟩))
theorem vL {lim : Int32} (h : ¬ isP lim = 0) : 1 ≤ lim.toInt ∧ lim.toInt ≤ 63 := by
  have := b01_nz.mp h
  have h1 := this.1
  have h2 := this.2
  rw [i_lt] at h1 h2
  have e1 : (1 : Int32).toInt = 1 := by decide
  have e2 := c63
  omega
theorem cC_place {t : Int} (hS : HS N (I, J, V, ls) A B h) (hV : CV N I ls t) (ht : t + 219 < 2147483648) (m i how lim q : Int32) : x_C l G mC_place 6 1 10 [xR (some (5, 0)), xI m, xI i, xI how, xI lim, xI q] (h) [(0, N)] (QP (plS N I J V ls m i how lim q) A B) := by
  obtain ⟨P, rfl, hQ, hP2⟩ := hS.out
  refine x_C.at [some (xR (some (5, 0))), some (xI m), some (xI i), some (xI how), some (xI lim), some (xI q), none, none, none] rfl (Nat.le_of_ble_eq_true rfl) rfl ?_
  refine x_iload_n 1 dC_place_0 rfl rfl ?_
  refine x_fSv 4 (cC_isMember _) kC_47 oC_isMember dC_place_1 rfl rfl (by decide) (Nat.le_of_ble_eq_true rfl) ?_
  refine x_if_eq 50 7 dC_place_4 (by decide) rfl (fun h4 => ?_) (fun h4 => ?_)
  · skip
    refine x_iconst (-1) 51 dC_place_50 rfl rfl ?_
    exact x_iret dC_place_51 rfl rfl (QP.ip h4 (⟨rfl, P, rfl, hQ, hP2⟩))
  · skip
    refine x_iload_n 8 dC_place_7 rfl rfl ?_
    refine x_fSv 11 (cC_isInstrument _) kC_61 oC_isInstrument dC_place_8 rfl rfl (by decide) (Nat.le_of_ble_eq_true rfl) ?_
    refine x_if_eq 50 14 dC_place_11 (by decide) rfl (fun h11 => ?_) (fun h11 => ?_)
    · skip
      refine x_iconst (-1) 51 dC_place_50 rfl rfl ?_
      exact x_iret dC_place_51 rfl rfl (QP.ig h4 (QP.ip h11 (⟨rfl, P, rfl, hQ, hP2⟩)))
    · skip
      refine x_iload_n 15 dC_place_14 rfl rfl ?_
      refine x_fSv 18 (cC_isHow _) kC_64 oC_isHow dC_place_15 rfl rfl (by decide) (Nat.le_of_ble_eq_true rfl) ?_
      refine x_if_eq 50 21 dC_place_18 (by decide) rfl (fun h18 => ?_) (fun h18 => ?_)
      · skip
        refine x_iconst (-1) 51 dC_place_50 rfl rfl ?_
        exact x_iret dC_place_51 rfl rfl (QP.ig h4 (QP.ig h11 (QP.ip h18 (⟨rfl, P, rfl, hQ, hP2⟩))))
      · skip
        refine x_iload 23 dC_place_21 rfl rfl ?_
        refine x_iconst 1 24 dC_place_23 rfl rfl ?_
        refine x_icmp_lt 50 27 dC_place_24 (by decide) rfl (fun h24 => ?_) (fun h24 => ?_)
        · skip
          refine x_iconst (-1) 51 dC_place_50 rfl rfl ?_
          exact x_iret dC_place_51 rfl rfl (QP.ig h4 (QP.ig h11 (QP.ig h18 (QP.ip h24 (⟨rfl, P, rfl, hQ, hP2⟩)))))
        · skip
          refine x_iload 29 dC_place_27 rfl rfl ?_
          refine x_bipush (99) 31 dC_place_29 rfl rfl ?_
          refine x_icmp_gt 50 34 dC_place_31 (by decide) rfl (fun h31 => ?_) (fun h31 => ?_)
          · skip
            refine x_iconst (-1) 51 dC_place_50 rfl rfl ?_
            exact x_iret dC_place_51 rfl rfl (QP.ig h4 (QP.ig h11 (QP.ig h18 (QP.ig h24 (QP.ip h31 (⟨rfl, P, rfl, hQ, hP2⟩))))))
          · skip
            refine x_iload_n 35 dC_place_34 rfl rfl ?_
            refine x_fSv 38 (cC_kindOf _) kC_67 oC_kindOf dC_place_35 rfl rfl (by decide) (Nat.le_of_ble_eq_true rfl) ?_
            refine x_iconst 3 39 dC_place_38 rfl rfl ?_
            refine x_icmp_eq 52 42 dC_place_39 (by decide) rfl (fun h39 => ?_) (fun h39 => ?_)
            · skip
              exact x_Xm (fun r h1 z => QP.ig h4 (QP.ig h11 (QP.ig h18 (QP.ig h24 (QP.ig h31 (QP.ip h39 (z))))))) (lp_place52 hS hV ht (vM h4) (vN h11) (b01_nz.mp h18) (Or.inl h39))
            · skip
              refine x_iload 44 dC_place_42 rfl rfl ?_
              refine x_fSv 47 (cC_isPrice _) kC_71 oC_isPrice dC_place_44 rfl rfl (by decide) (Nat.le_of_ble_eq_true rfl) ?_
              refine x_if_ne 52 50 dC_place_47 (by decide) rfl (fun h47 => ?_) (fun h47 => ?_)
              · skip
                exact x_Xm (fun r h1 z => QP.ig h4 (QP.ig h11 (QP.ig h18 (QP.ig h24 (QP.ig h31 (QP.ig h39 (QP.ig h47 (z)))))))) (lp_place52 hS hV ht (vM h4) (vN h11) (b01_nz.mp h18) (Or.inr (vL h47)))
              · skip
                refine x_iconst (-1) 51 dC_place_50 rfl rfl ?_
                exact x_iret dC_place_51 rfl rfl (QP.ig h4 (QP.ig h11 (QP.ig h18 (QP.ig h24 (QP.ig h31 (QP.ig h39 (QP.ip h47 (⟨rfl, P, rfl, hQ, hP2⟩))))))))
end MB
