section LAW2
variable {l : Launch} {G : xG}
theorem i_add6 {p : Int32} (h0 : 0 ≤ p.toInt) (hk : p.toInt < 100000) : (p + Int32.ofInt 6).toInt = p.toInt + 6 := by
  have e6 : (Int32.ofInt 6).toInt = 6 := by decide
  rw [Kit.i32_add (by rw [e6]; omega) (by rw [e6]; omega), e6]
theorem lw_loop (hL : G.2.2.2.2.1 ≤ 3072) : ∀ (n : Nat) (e : Int32) (t : Int) (N : Nat) (I : Nat → Nat → Int32) (J : Nat → Nat → Int64) (V : Nat → Nat → Int32) (ls : Nat → List Nat) (A : Nat → Nat → Int32) (B : Nat → Nat → Int64) (h : xH) (kc ks : Nat), 0 ≤ e.toInt → e.toInt ≤ 3078 → (G.2.2.2.2.1 : Int) - 6 < e.toInt + 6 * n → 0 ≤ t → t + 12000 * n < 9000000 → HS N (I, J, V, ls) A B h → CV N I ls t → MV A t → TX N (I, J, V, ls) (A, B) t → R11 I → n ≤ kc → 10 * n ≤ ks → x_X l G mL_law 9 kc ks nkL (fun r _ => r = some (xI 1)) 18 [some (xS G.2.2.2.1.2), some (xR (some (5, 0))), some (xR (some (14, 0))), some (xI e)] [] h := by
  intro n
  induction n with
  | zero =>
    intro e t N I J V ls A B h kc ks he0 he1 he2 ht0 ht1 hS hV hM hT hR hkc hks
    have eL : (Int32.ofNat G.2.2.2.2.1).toInt = G.2.2.2.2.1 := of_nat (by omega)
    have e6 : (6 : Int32).toInt = 6 := by decide
    have eL6 : (Int32.ofNat G.2.2.2.2.1 - 6).toInt = (G.2.2.2.2.1 : Int) - 6 := by rw [Kit.i32_sub (by rw [eL, e6]; omega) (by rw [eL, e6]; omega), eL, e6]
    refine x_iload_n 19 dL_law_18 rfl rfl ?_
    refine x_aload_n 20 dL_law_19 rfl rfl ?_
    refine x_slen 21 dL_law_20 rfl ?_
    refine x_bipush (6) 23 dL_law_21 rfl rfl ?_
    refine x_isub 24 dL_law_23 rfl ?_
    refine x_icmp_gt 687 27 dL_law_24 (by decide) rfl (fun h24 => ?_) (fun h24 => absurd (show Int32.ofNat G.2.2.2.2.1 - 6 < e from by rw [i_lt, eL6]; omega) h24)
    refine x_iconst 1 688 dL_law_687 rfl rfl ?_
    exact x_iret dL_law_688 rfl rfl rfl
  | succ n ih =>
    intro e t N I J V ls A B h kc ks he0 he1 he2 ht0 ht1 hS hV hM hT hR hkc hks
    have eL : (Int32.ofNat G.2.2.2.2.1).toInt = G.2.2.2.2.1 := of_nat (by omega)
    have e6 : (6 : Int32).toInt = 6 := by decide
    have eL6 : (Int32.ofNat G.2.2.2.2.1 - 6).toInt = (G.2.2.2.2.1 : Int) - 6 := by rw [Kit.i32_sub (by rw [eL, e6]; omega) (by rw [eL, e6]; omega), eL, e6]
    by_cases hend : Int32.ofNat G.2.2.2.2.1 - 6 < e
    · skip
      refine x_iload_n 19 dL_law_18 rfl rfl ?_
      refine x_aload_n 20 dL_law_19 rfl rfl ?_
      refine x_slen 21 dL_law_20 rfl ?_
      refine x_bipush (6) 23 dL_law_21 rfl rfl ?_
      refine x_isub 24 dL_law_23 rfl ?_
      refine x_icmp_gt 687 27 dL_law_24 (by decide) rfl (fun h24 => ?_) (fun h24 => absurd hend h24)
      refine x_iconst 1 688 dL_law_687 rfl rfl ?_
      exact x_iret dL_law_688 rfl rfl rfl
    · have hle : e.toInt ≤ (G.2.2.2.2.1 : Int) - 6 := by rw [i_lt, eL6] at hend; omega
      have hse : vp_in e G.2.2.2.2.1 := vp_of he0 (by omega)
      have hsc : ∀ c : Int32, 1 ≤ c.toInt → c.toInt ≤ 5 → vp_in (e + c) G.2.2.2.2.1 := fun c c1 c5 => by
        have ec : (e + c).toInt = e.toInt + c.toInt := Kit.i32_add (by omega) (by omega)
        exact vp_of (by rw [ec]; omega) (by rw [ec]; omega)
      have hX : NX l G e n (t + 12000) := by
        intro N I J V ls A B h kc ks hS hV hM hT hR hkc hks
        refine x_iinc 684 dL_law_681 rfl rfl (by decide) rfl ?_
        refine x_goto 18 dL_law_684 (by decide) ?_
        have e66 := i_add6 he0 (by omega)
        exact ih _ (t + 12000) N I J V ls A B h kc ks (by rw [e66]; omega) (by rw [e66]; omega) (by rw [e66]; omega) (by omega) (by omega) hS hV hM hT hR hkc hks
      refine x_iload_n 19 dL_law_18 rfl rfl ?_
      refine x_aload_n 20 dL_law_19 rfl rfl ?_
      refine x_slen 21 dL_law_20 rfl ?_
      refine x_bipush (6) 23 dL_law_21 rfl rfl ?_
      refine x_isub 24 dL_law_23 rfl ?_
      refine x_icmp_gt 687 27 dL_law_24 (by decide) rfl (fun z => absurd z hend) (fun _ => ?_)
      refine x_aload_n 28 dL_law_27 rfl rfl ?_
      refine x_iload_n 29 dL_law_28 rfl rfl ?_
      refine x_sld 30 dL_law_29 rfl hse ?_
      refine x_bipush (31) 32 dL_law_30 rfl rfl ?_
      refine x_iand 33 dL_law_32 rfl ?_
      generalize hv : G.2.2.2.2.2 e.toNatClampNeg &&& 31 = v
      by_cases c0 : v = 0
      · exact x_tableIn (off := 91) 124 dL_law_33 (by rw [c0]; decide) (by rw [c0]; decide) (by rw [c0]; rfl) (by decide) (lw_case0 hX hS hV hM hT hR (by omega) (by omega) ht0 (by omega) hsc)
      by_cases c1 : v = 1
      · exact x_tableIn (off := 124) 157 dL_law_33 (by rw [c1]; decide) (by rw [c1]; decide) (by rw [c1]; rfl) (by decide) (lw_case1 hX hS hV hM hT hR (by omega) (by omega) ht0 (by omega) hsc)
      by_cases c2 : v = 2
      · exact x_tableIn (off := 187) 220 dL_law_33 (by rw [c2]; decide) (by rw [c2]; decide) (by rw [c2]; rfl) (by decide) (lw_case2 hX hS hV hM hT hR (by omega) (by omega) ht0 (by omega) hsc)
      by_cases c3 : v = 3
      · exact x_tableIn (off := 220) 253 dL_law_33 (by rw [c3]; decide) (by rw [c3]; decide) (by rw [c3]; rfl) (by decide) (lw_case3 hX hS hV hM hT hR (by omega) (by omega) ht0 (by omega) hsc)
      by_cases c4 : v = 4
      · exact x_tableIn (off := 263) 296 dL_law_33 (by rw [c4]; decide) (by rw [c4]; decide) (by rw [c4]; rfl) (by decide) (lw_case4 hX hS hV hM hT hR (by omega) (by omega) ht0 (by omega) hsc)
      by_cases c5 : v = 5
      · exact x_tableIn (off := 286) 319 dL_law_33 (by rw [c5]; decide) (by rw [c5]; decide) (by rw [c5]; rfl) (by decide) (lw_case5 hX hS hV hM hT hR (by omega) (by omega) ht0 (by omega) hsc)
      by_cases c6 : v = 6
      · exact x_tableIn (off := 309) 342 dL_law_33 (by rw [c6]; decide) (by rw [c6]; decide) (by rw [c6]; rfl) (by decide) (lw_case6 hX hS hV hM hT hR (by omega) (by omega) ht0 (by omega) hsc)
      by_cases c7 : v = 7
      · exact x_tableIn (off := 342) 375 dL_law_33 (by rw [c7]; decide) (by rw [c7]; decide) (by rw [c7]; rfl) (by decide) (lw_case7 hX hS hV hM hT hR (by omega) (by omega) ht0 (by omega) hsc)
      by_cases c8 : v = 8
      · exact x_tableIn (off := 375) 408 dL_law_33 (by rw [c8]; decide) (by rw [c8]; decide) (by rw [c8]; rfl) (by decide) (lw_case8 hX hS hV hM hT hR (by omega) (by omega) ht0 (by omega) hsc)
      by_cases c9 : v = 9
      · exact x_tableIn (off := 418) 451 dL_law_33 (by rw [c9]; decide) (by rw [c9]; decide) (by rw [c9]; rfl) (by decide) (lw_case9 hX hS hV hM hT hR (by omega) (by omega) ht0 (by omega) hsc)
      by_cases c10 : v = 10
      · exact x_tableIn (off := 441) 474 dL_law_33 (by rw [c10]; decide) (by rw [c10]; decide) (by rw [c10]; rfl) (by decide) (lw_case10 hX hS hV hM hT hR (by omega) (by omega) ht0 (by omega) hsc)
      by_cases c11 : v = 11
      · exact x_tableIn (off := 464) 497 dL_law_33 (by rw [c11]; decide) (by rw [c11]; decide) (by rw [c11]; rfl) (by decide) (lw_case11 hX hS hV hM hT hR (by omega) (by omega) ht0 (by omega) hsc)
      by_cases c12 : v = 12
      · exact x_tableIn (off := 487) 520 dL_law_33 (by rw [c12]; decide) (by rw [c12]; decide) (by rw [c12]; rfl) (by decide) (lw_case12 hX hS hV hM hT hR (by omega) (by omega) ht0 (by omega) hsc)
      by_cases c13 : v = 13
      · exact x_tableIn (off := 500) 533 dL_law_33 (by rw [c13]; decide) (by rw [c13]; decide) (by rw [c13]; rfl) (by decide) (lw_case13 hX hS hV hM hT hR (by omega) (by omega) ht0 (by omega) hsc)
      by_cases c14 : v = 14
      · exact x_tableIn (off := 533) 566 dL_law_33 (by rw [c14]; decide) (by rw [c14]; decide) (by rw [c14]; rfl) (by decide) (lw_case14 hX hS hV hM hT hR (by omega) (by omega) ht0 (by omega) hsc)
      by_cases c15 : v = 15
      · exact x_tableIn (off := 566) 599 dL_law_33 (by rw [c15]; decide) (by rw [c15]; decide) (by rw [c15]; rfl) (by decide) (lw_case15 hX hS hV hM hT hR (by omega) (by omega) ht0 (by omega) hsc)
      by_cases c16 : v = 16
      · exact x_tableIn (off := 589) 622 dL_law_33 (by rw [c16]; decide) (by rw [c16]; decide) (by rw [c16]; rfl) (by decide) (lw_case16 hX hS hV hM hT hR (by omega) (by omega) ht0 (by omega) hsc)
      by_cases c17 : v = 17
      · exact x_tableIn (off := 612) 645 dL_law_33 (by rw [c17]; decide) (by rw [c17]; decide) (by rw [c17]; rfl) (by decide) (lw_case17 hX hS hV hM hT hR (by omega) (by omega) ht0 (by omega) hsc)
      by_cases c18 : v = 18
      · exact x_tableIn (off := 635) 668 dL_law_33 (by rw [c18]; decide) (by rw [c18]; decide) (by rw [c18]; rfl) (by decide) (lw_case18 hX hS hV hM hT hR (by omega) (by omega) ht0 (by omega) hsc)
      have d0 : v.toInt ≠ 0 := fun q => c0 (Int32.toInt_inj.mp (by rw [q]; decide))
      have d1 : v.toInt ≠ 1 := fun q => c1 (Int32.toInt_inj.mp (by rw [q]; decide))
      have d2 : v.toInt ≠ 2 := fun q => c2 (Int32.toInt_inj.mp (by rw [q]; decide))
      have d3 : v.toInt ≠ 3 := fun q => c3 (Int32.toInt_inj.mp (by rw [q]; decide))
      have d4 : v.toInt ≠ 4 := fun q => c4 (Int32.toInt_inj.mp (by rw [q]; decide))
      have d5 : v.toInt ≠ 5 := fun q => c5 (Int32.toInt_inj.mp (by rw [q]; decide))
      have d6 : v.toInt ≠ 6 := fun q => c6 (Int32.toInt_inj.mp (by rw [q]; decide))
      have d7 : v.toInt ≠ 7 := fun q => c7 (Int32.toInt_inj.mp (by rw [q]; decide))
      have d8 : v.toInt ≠ 8 := fun q => c8 (Int32.toInt_inj.mp (by rw [q]; decide))
      have d9 : v.toInt ≠ 9 := fun q => c9 (Int32.toInt_inj.mp (by rw [q]; decide))
      have d10 : v.toInt ≠ 10 := fun q => c10 (Int32.toInt_inj.mp (by rw [q]; decide))
      have d11 : v.toInt ≠ 11 := fun q => c11 (Int32.toInt_inj.mp (by rw [q]; decide))
      have d12 : v.toInt ≠ 12 := fun q => c12 (Int32.toInt_inj.mp (by rw [q]; decide))
      have d13 : v.toInt ≠ 13 := fun q => c13 (Int32.toInt_inj.mp (by rw [q]; decide))
      have d14 : v.toInt ≠ 14 := fun q => c14 (Int32.toInt_inj.mp (by rw [q]; decide))
      have d15 : v.toInt ≠ 15 := fun q => c15 (Int32.toInt_inj.mp (by rw [q]; decide))
      have d16 : v.toInt ≠ 16 := fun q => c16 (Int32.toInt_inj.mp (by rw [q]; decide))
      have d17 : v.toInt ≠ 17 := fun q => c17 (Int32.toInt_inj.mp (by rw [q]; decide))
      have d18 : v.toInt ≠ 18 := fun q => c18 (Int32.toInt_inj.mp (by rw [q]; decide))
      refine x_tableOut 681 dL_law_33 (by omega) (by decide) ?_
      exact hX N I J V ls A B h kc ks hS (hV.up (by omega)) (hM.up (by omega)) (hT.up (by omega)) hR (by omega) (by omega)
theorem far_of {nk : List xQ} {vs : List xV} (h : ∀ v ∈ vs, ∀ k : xQ, v = xR (some k) → k ∉ nk) : x_far nk vs := fun v hv a ha hva => h v hv a hva ha
theorem farL_of {nk : List xQ} {L : List (Option xV)} (h : ∀ v : xV, some v ∈ L → ∀ k : xQ, v = xR (some k) → k ∉ nk) : x_farL nk L := fun v hv a ha hva => h v hv a hva ha
theorem start_eqv {h1 h2 : xH} (hq : ∀ (a : xQ) (e : xE), hq0 a = some e → ∃ e', h1 a = some e' ∧ x_eqv e e') (hk : kR h1 h2) : ∀ (a : xQ) (e : xE), hp 0 I0 J0 P0 V0 A0 J0 a = some e → ∃ e', h2 a = some e' ∧ x_eqv e e' := by
  obtain ⟨k0, k14, k15, k16, k17, k18, k19, k20⟩ := hk
  intro a e he
  by_cases ha : a.1 < 14
  · obtain ⟨e', h1e, hv⟩ := hq a e (by unfold hq0; rw [if_pos ha]; exact he)
    exact ⟨e', by rw [k0 a ha]; exact h1e, hv⟩
  · obtain ⟨c, i⟩ := a
    have hz : ∀ {x : xE} {b : Nat}, (if i = 0 then some x else none) = some e → i = 0 ∧ x = e := fun {x b} q => by
      split at q
      · cases q; exact ⟨by assumption, rfl⟩
      · cases q
    obtain ⟨d, rfl⟩ : ∃ d, c = d + 14 := ⟨c - 14, by have ha : ¬ c < 14 := ha; omega⟩
    match d, he with
    | 0, he =>
      obtain ⟨rfl, rfl⟩ := hz (b := 0) (show (if i = 0 then some (e_R A0) else none) = some e from he)
      exact ⟨_, k14, Or.inl rfl⟩
    | 1, he =>
      have he : (if i < 9 then some (.inl (0, 120, .inl (A0 i))) else none) = some e := he
      split at he
      · rename_i hi
        cases he
        refine ⟨_, k15 i hi, Or.inl ?_⟩
        have : A0 i = fun _ => 0 := if_neg (by omega)
        rw [this]
      · cases he
    | 2, he =>
      have he : (if i < 2 then some (.inl (1, 5, .inr (.inl (J0 i)))) else none) = some e := he
      split at he
      · rename_i hi
        cases he
        exact ⟨_, k16 i hi, Or.inl rfl⟩
      · cases he
    | 3, he =>
      obtain ⟨rfl, rfl⟩ := hz (b := 0) (show (if i = 0 then some (.inl (0, 10, .inl (A0 9))) else none) = some e from he)
      exact ⟨_, k17, Or.inl rfl⟩
    | 4, he =>
      obtain ⟨rfl, rfl⟩ := hz (b := 0) (show (if i = 0 then some (.inl (2, 2, .inl (A0 10))) else none) = some e from he)
      exact ⟨_, k18, Or.inl rfl⟩
    | 5, he =>
      obtain ⟨rfl, rfl⟩ := hz (b := 0) (show (if i = 0 then some (.inl (0, 2, .inl (A0 11))) else none) = some e from he)
      exact ⟨_, k19, Or.inl rfl⟩
    | 6, he =>
      obtain ⟨rfl, rfl⟩ := hz (b := 0) (show (if i = 0 then some (.inl (0, 400, .inl (A0 12))) else none) = some e from he)
      exact ⟨_, k20, Or.inl rfl⟩
    | d + 7, he => cases he
theorem st_HS : HS 0 (I0, J0, V0, fun _ => []) A0 J0 (hp 0 I0 J0 P0 V0 A0 J0) := by
  refine ⟨P0, rfl, ⟨fun _ _ => rfl, fun _ _ _ h => (by cases h), fun _ _ => List.nodup_nil, fun _ _ _ _ _ _ h => (by cases h)⟩, ⟨fun _ h => absurd h (Nat.not_lt_zero _), fun _ _ => rfl, fun _ _ _ _ h => (by cases h)⟩⟩
theorem st_CV : CV 0 I0 (fun _ => []) 0 := ⟨⟨fun _ h => absurd h (Nat.not_lt_zero _), fun _ _ _ h => (by cases h)⟩, by decide, by decide, by decide, by decide⟩
theorem st_MV : MV A0 0 := by
  have z : (A0 13 0).toInt = 0 := by decide
  refine ⟨⟨⟨by decide, by decide⟩, fun k hk => ?_, by decide⟩, fun k hk => ?_, by decide⟩
  · rw [z] at hk; omega
  · rw [z] at hk; omega
theorem st_R : R11 I0 := fun _ => ⟨by show (1 : Int) ≤ (32 : Int32).toInt; decide, by show (32 : Int32).toInt ≤ 63; decide⟩
theorem st_TX : TX 0 (I0, J0, V0, fun _ => []) (A0, J0) 0 := by
  refine ⟨⟨⟨by decide, fun k hk => absurd hk (Nat.not_lt_zero _)⟩, tiL.of (fun j _ o => ⟨fun z => absurd z List.not_mem_nil, fun z => absurd z.1 (Nat.not_lt_zero _)⟩) (fun _ _ => trivial) (fun _ _ => List.nodup_nil), ⟨fun m _ => ⟨rfl, rfl, fun i _ => rfl⟩, fun i hi => ⟨rfl, ?_⟩, rfl, fun _ _ => rfl⟩⟩, fun k hk => absurd hk (Nat.not_lt_zero _), ⟨by decide, by decide⟩, fun _ _ _ _ => ⟨by show -(99 * (0 : Int)) ≤ (0 : Int32).toInt; decide, by show (0 : Int32).toInt ≤ 99 * (0 : Int); decide⟩⟩
  match i, hi with
  | 0, _ => rfl
  | 1, _ => rfl
theorem lw_run (hL : G.2.2.2.2.1 ≤ 3072) : x_X l G mL_law 9 20000 200000 nkL (fun r _ => r = some (xI 1)) 0 [some (xS G.2.2.2.1.2), none, none, none] [] (fun _ => none) := by
  refine x_new (5, 0) 3 nL_law_7 dL_law_0 rfl (by decide) (by decide) (by decide) rfl (fun _ _ q => by cases q) (fun v hv a ha hva => by rw [List.mem_singleton.mp ha] at hva; rw [hva] at hv; simp at hv) (fun v hv a ha hva => by rw [List.mem_singleton.mp ha] at hva; rw [hva] at hv; simp at hv) ?_
  refine x_dup 4 dL_law_3 rfl rfl ?_
  refine x_aI 7 (cC_init) kL_9 oC_init dL_law_4 rfl rfl (by decide) (by decide) (by decide) (Nat.le_of_ble_eq_true rfl) (by decide) ?_ ?_ (fun h1 hq => ?_)
  · refine far_of (fun v hv k hk => ?_)
    rw [hk] at hv
    simp at hv
    subst hv
    decide
  · refine farL_of (fun v hv k hk => ?_)
    rw [hk] at hv
    simp at hv
  obtain ⟨hN1, hq1⟩ := hq
  refine x_astore_n 8 dL_law_7 rfl (by decide) rfl ?_
  refine x_new (14, 0) 11 nL_law_10 dL_law_8 rfl (by decide) (by decide) (by decide) (hN1.1 _ (by decide)) (fun b e hb => hN1.2 b e hb _ (by decide)) (fun v hv a ha hva => by rw [List.mem_singleton.mp ha] at hva; rw [hva] at hv; simp at hv) (fun v hv a ha hva => by rw [List.mem_singleton.mp ha] at hva; rw [hva] at hv; simp at hv) ?_
  refine x_dup 12 dL_law_11 rfl rfl ?_
  refine x_aI 15 (cR_init hN1) kL_12 oR_init dL_law_12 rfl rfl (by decide) (by decide) (by decide) (Nat.le_of_ble_eq_true rfl) (by decide) ?_ ?_ (fun h2 hq => ?_)
  · refine far_of (fun v hv k hk => ?_)
    rw [hk] at hv
    simp at hv
    subst hv
    decide
  · refine farL_of (fun v hv k hk => ?_)
    rw [hk] at hv
    simp at hv
    subst hv
    decide
  refine x_astore_n 16 dL_law_15 rfl (by decide) rfl ?_
  refine x_iconst 0 17 dL_law_16 rfl rfl ?_
  refine x_istore_n 18 dL_law_17 rfl (by decide) rfl ?_
  refine x_subE (start_eqv hq1 hq) ?_
  have z0 : (0 : Int32).toInt = 0 := by decide
  exact lw_loop hL 513 0 0 0 I0 J0 V0 (fun _ => []) A0 J0 _ _ _ (by decide) (by decide) (by omega) (by decide) (by decide) st_HS st_CV st_MV st_TX st_R (by decide) (by decide)
end LAW2
