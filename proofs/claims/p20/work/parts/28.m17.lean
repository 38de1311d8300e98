section MH
variable {l : Launch} {G : xG}
/-- alike: the same, or arrays of references that are the same below their length -/
def x_eqv (e e' : xE) : Prop := e = e' ∨ ∃ (t n : Nat) (f g : Nat → Option xQ), e = .inl (t, n, .inr (.inr f)) ∧ e' = .inl (t, n, .inr (.inr g)) ∧ ∀ j, j < n → f j = g j
theorem x_W.subE {z : xZ} {h h1 : xH} {H : Heap} (hW : x_W G z h H) (hs : ∀ (a : xQ) (e : xE), h1 a = some e → ∃ e', h a = some e' ∧ x_eqv e e') : x_W G z h1 H := by
  have hn : ∀ a : xQ, h1 a ≠ none → h a ≠ none := fun a ha => by
    cases hc : h1 a with
    | none => exact absurd hc ha
    | some e =>
      obtain ⟨e', he', -⟩ := hs a e hc
      rw [he']
      exact fun q => by cases q
  refine ⟨fun a e ha => ?_, fun a b ha hb => hW.2 a b (hn a ha) (hn b hb)⟩
  obtain ⟨e', he', hq⟩ := hs a e ha
  have hh := hW.1 a e' he'
  rcases hq with rfl | ⟨t, n, f, g, rfl, rfl, hfg⟩
  · exact hh
  · refine ⟨va_at_arr ?_ hh.1, hh.2⟩
    show arrV _ n (fun j => va_rf ((g j).map z)) = arrV _ n (fun j => va_rf ((f j).map z))
    unfold arrV
    congr 2
    funext j
    show va_rf ((g j.val).map z) = va_rf ((f j.val).map z)
    rw [hfg j.val j.isLt]
theorem x_subE {M : xM} {d kc ks : Nat} {nk : List xQ} {Q : Option xV → xH → Prop} {pc : Nat} {L : List (Option xV)} {st : List xV} {h h1 : xH} (hs : ∀ (a : xQ) (e : xE), h1 a = some e → ∃ e', h a = some e' ∧ x_eqv e e') (k : x_X l G M d kc ks nk Q pc L st h1) : x_X l G M d kc ks nk Q pc L st h := by
  intro p e R s m args below meth c H locs cells slots mc ms ls z0 z C hc hz hW hS hL
  exact k p e R s m args below meth c H locs cells slots mc ms ls z0 z C hc hz (hW.subE hs) hS hL
-- the state at the start
def I0 : Nat → Nat → Int32 := fun c => if c = 11 then (fun _ => 32) else (fun _ => 0)
def J0 : Nat → Nat → Int64 := fun _ _ => 0
def P0 : Nat → Nat → Option xQ := fun _ _ => none
def V0 : Nat → Nat → Int32 := fun _ _ => 0
def A0 : Nat → Nat → Int32 := fun c => if c = 11 then x_uf (x_uf (fun _ => 0) (0 : Int32).toNatClampNeg 32) (1 : Int32).toNatClampNeg 32 else (fun _ => 0)
/-- the class's cells at the start -/
def hq0 : xH := fun a => if a.1 < 14 then hp 0 I0 J0 P0 V0 A0 J0 a else none
def nkC : List xQ := [(6, 0), (7, 0), (8, 0), (9, 0), (10, 0), (11, 0), (12, 0), (13, 0), (1, 0), (2, 0), (1, 1), (2, 1), (1, 2), (2, 2), (1, 3), (2, 3), (1, 4), (2, 4), (3, 0), (4, 0), (4, 1), (3, 1), (4, 2), (4, 3)]
def dkC : List xQ := (5, 0) :: nkC
def hN0 : xH := x_up (fun _ => none) (5, 0) (.inr (6, [xR none, xR none, xR none, xR none, xR none, xI 0]))
theorem NR.perm {D D' : List xQ} {h : xH} (q : NR D h) (hs : ∀ x ∈ D, x ∈ D') : NR D' h := ⟨fun a ha => q.1 a (fun z => ha (hs a z)), fun b e hb a ha => q.2 b e hb a (fun z => ha (hs a z))⟩
theorem hq0_1 (j : Nat) : hq0 (1, j + 5) = none := (if_neg (by omega) : (if j + 5 < 5 then some (e_A J0 (j + 5)) else none) = none)
theorem hq0_2 (j : Nat) : hq0 (2, j + 5) = none := (if_neg (by omega) : (if j + 5 < 5 then some (.inl (0, 2, .inl (V0 (j + 5)))) else none) = (none : Option xE))
theorem hq0_3 (j : Nat) : hq0 (3, j + 2) = none := (if_neg (by omega) : (if j + 2 < 2 then some (e_B I0 (j + 2)) else none) = none)
theorem hq0_4 (j : Nat) : hq0 (4, j + 4) = none := (if_neg (by omega) : (if j + 4 < 4 then some (e_D P0 (j + 4)) else none) = none)
theorem cC_init : x_C l G mC_init 3 24 698 [xR (some (5, 0))] hN0 nkC (x_ex none (fun h1 => NR dkC h1 ∧ ∀ (a : xQ) (e : xE), hq0 a = some e → ∃ e', h1 a = some e' ∧ x_eqv e e')) := by
  refine x_C.at [some (xR (some (5, 0))), none] rfl (Nat.le_of_ble_eq_true rfl) rfl ?_
  have hN : NR [(5, 0)] hN0 := NR.nil.add (no_obj 6 _ rfl)
  unfold hN0 at hN ⊢
  refine x_aload_n 1 dC_init_0 rfl rfl ?_
  refine x_objInit 4 dC_init_1 rfl jC_1 j_i j_c (by decide) (Nat.le_of_ble_eq_true rfl) ?_
  refine x_aload_n 5 dC_init_4 rfl rfl ?_
  refine x_iconst 5 6 dC_init_5 rfl rfl ?_
  refine x_newq (ty := 3) (C0 := "CallMarket$Account") (N := 5) (6, 0) 9 rfl aC_init_9 (fun _ q => q.2.1) dC_init_6 rfl (by decide) rfl (by decide) (by decide) (by decide) (by decide) (hN.1 _ (by decide)) (fun b e hb => hN.2 b e hb _ (by decide)) (fun v hv a ha hva => by rw [List.mem_singleton.mp ha] at hva; rw [hva] at hv; simp at hv) (fun v hv a ha hva => by rw [List.mem_singleton.mp ha] at hva; rw [hva] at hv; simp at hv) ?_
  have hN := hN.add (c := (6, 0)) (e := .inl (3, 5, .inr (.inr (fun _ => none)))) (ne_ref RF.none0)
  refine x_put 12 pC_init_11 dC_init_9 rfl rfl (x_fit_a _ _) (Nat.le_of_ble_eq_true rfl) ?_
  have hN := hN.set (c := (5, 0)) (e := .inr (6, [xR (some (6, 0)), xR none, xR none, xR none, xR none, xI 0])) (by decide) (ne_obj (by decide))
  refine x_aload_n 13 dC_init_12 rfl rfl ?_
  refine x_iconst 2 14 dC_init_13 rfl rfl ?_
  refine x_newq (ty := 4) (C0 := "CallMarket$Book") (N := 2) (7, 0) 17 rfl aC_init_15 (fun _ q => q.2.2.1) dC_init_14 rfl (by decide) rfl (by decide) (by decide) (by decide) (by decide) (hN.1 _ (by decide)) (fun b e hb => hN.2 b e hb _ (by decide)) (fun v hv a ha hva => by rw [List.mem_singleton.mp ha] at hva; rw [hva] at hv; simp at hv) (fun v hv a ha hva => by rw [List.mem_singleton.mp ha] at hva; rw [hva] at hv; simp at hv) ?_
  have hN := hN.add (c := (7, 0)) (e := .inl (4, 2, .inr (.inr (fun _ => none)))) (ne_ref RF.none0)
  refine x_put 20 pC_init_17 dC_init_17 rfl rfl (x_fit_a _ _) (Nat.le_of_ble_eq_true rfl) ?_
  have hN := hN.set (c := (5, 0)) (e := .inr (6, [xR (some (6, 0)), xR (some (7, 0)), xR none, xR none, xR none, xI 0])) (by decide) (ne_obj (by decide))
  refine x_aload_n 21 dC_init_20 rfl rfl ?_
  refine x_bipush (120) 23 dC_init_21 rfl rfl ?_
  refine x_newq (ty := 5) (C0 := "CallMarket$Order") (N := 120) (8, 0) 26 rfl aC_init_21 (fun _ q => q.2.2.2) dC_init_23 rfl (by decide) rfl (by decide) (by decide) (by decide) (by decide) (hN.1 _ (by decide)) (fun b e hb => hN.2 b e hb _ (by decide)) (fun v hv a ha hva => by rw [List.mem_singleton.mp ha] at hva; rw [hva] at hv; simp at hv) (fun v hv a ha hva => by rw [List.mem_singleton.mp ha] at hva; rw [hva] at hv; simp at hv) ?_
  have hN := hN.add (c := (8, 0)) (e := .inl (5, 120, .inr (.inr (fun _ => none)))) (ne_ref RF.none0)
  refine x_put 29 pC_init_23 dC_init_26 rfl rfl (x_fit_a _ _) (Nat.le_of_ble_eq_true rfl) ?_
  have hN := hN.set (c := (5, 0)) (e := .inr (6, [xR (some (6, 0)), xR (some (7, 0)), xR (some (8, 0)), xR none, xR none, xI 0])) (by decide) (ne_obj (by decide))
  refine x_aload_n 30 dC_init_29 rfl rfl ?_
  refine x_new (9, 0) 33 nC_init_27 dC_init_30 rfl (by decide) (by decide) (by decide) (hN.1 _ (by decide)) (fun b e hb => hN.2 b e hb _ (by decide)) (fun v hv a ha hva => by rw [List.mem_singleton.mp ha] at hva; rw [hva] at hv; simp at hv) (fun v hv a ha hva => by rw [List.mem_singleton.mp ha] at hva; rw [hva] at hv; simp at hv) ?_
  have hN := hN.add (c := (9, 0)) (e := .inr (5, [xR none, xI 0])) (no_obj 5 _ rfl)
  refine x_dup 34 dC_init_33 rfl rfl ?_
  refine x_aIN 37 (cT_init rfl hN (by decide)) kC_29 oT_init dC_init_34 rfl rfl (by decide) (by decide) (by decide) (Nat.le_of_ble_eq_true rfl) (by decide) (fun v hv a ha hva => by simp only [List.mem_cons, List.not_mem_nil, or_false] at ha; rw [hva] at hv; subst ha; simp at hv) (fun v hv a ha hva => by simp only [List.mem_cons, List.not_mem_nil, or_false] at ha; rw [hva] at hv; subst ha; simp at hv) (fun h1 hq => ?_)
  subst hq
  have hN := (hN.add (c := (10, 0)) (e := .inl (0, 400, .inl (fun _ => 0))) ne_int).set (c := (9, 0)) (e := .inr (5, [xR (some (10, 0)), xI 0])) (by decide) (ne_obj (by decide))
  refine x_put 40 pC_init_30 dC_init_37 rfl rfl (x_fit_o _ _) (Nat.le_of_ble_eq_true rfl) ?_
  have hN := hN.set (c := (5, 0)) (e := .inr (6, [xR (some (6, 0)), xR (some (7, 0)), xR (some (8, 0)), xR (some (9, 0)), xR none, xI 0])) (by decide) (ne_obj (by decide))
  refine x_aload_n 41 dC_init_40 rfl rfl ?_
  refine x_new (11, 0) 44 nC_init_34 dC_init_41 rfl (by decide) (by decide) (by decide) (hN.1 _ (by decide)) (fun b e hb => hN.2 b e hb _ (by decide)) (fun v hv a ha hva => by rw [List.mem_singleton.mp ha] at hva; rw [hva] at hv; simp at hv) (fun v hv a ha hva => by rw [List.mem_singleton.mp ha] at hva; rw [hva] at hv; simp at hv) ?_
  have hN := hN.add (c := (11, 0)) (e := .inr (3, [xR none, xR none])) (no_obj 3 _ rfl)
  refine x_dup 45 dC_init_44 rfl rfl ?_
  refine x_aIN 48 (cS_init rfl hN (by decide) (by decide) (by decide)) kC_36 oS_init dC_init_45 rfl rfl (by decide) (by decide) (by decide) (Nat.le_of_ble_eq_true rfl) (by decide) (fun v hv a ha hva => by simp only [List.mem_cons, List.not_mem_nil, or_false] at ha; rw [hva] at hv; rcases ha with rfl | rfl <;> simp at hv) (fun v hv a ha hva => by simp only [List.mem_cons, List.not_mem_nil, or_false] at ha; rw [hva] at hv; rcases ha with rfl | rfl <;> simp at hv) (fun h1 hq => ?_)
  subst hq
  have hN := (((hN.add (c := (12, 0)) (e := .inl (0, 65, .inl (fun _ => 0))) ne_int).set (c := (11, 0)) (e := .inr (3, [xR (some (12, 0)), xR none])) (by decide) (ne_obj (by decide))).add (c := (13, 0)) (e := .inl (0, 65, .inl (fun _ => 0))) ne_int).set (c := (11, 0)) (e := .inr (3, [xR (some (12, 0)), xR (some (13, 0))])) (by decide) (ne_obj (by decide))
  refine x_put 51 pC_init_37 dC_init_48 rfl rfl (x_fit_o _ _) (Nat.le_of_ble_eq_true rfl) ?_
  have hN := hN.set (c := (5, 0)) (e := .inr (6, [xR (some (6, 0)), xR (some (7, 0)), xR (some (8, 0)), xR (some (9, 0)), xR (some (11, 0)), xI 0])) (by decide) (ne_obj (by decide))
  refine x_aload_n 52 dC_init_51 rfl rfl ?_
  refine x_iconst 0 53 dC_init_52 rfl rfl ?_
  refine x_put 56 pC_init_41 dC_init_53 rfl rfl (x_fit_i _) (Nat.le_of_ble_eq_true rfl) ?_
  have hN := hN.set (c := (5, 0)) (e := .inr (6, [xR (some (6, 0)), xR (some (7, 0)), xR (some (8, 0)), xR (some (9, 0)), xR (some (11, 0)), xI 0])) (by decide) (ne_obj (by decide))
  refine x_iconst 0 57 dC_init_56 rfl rfl ?_
  refine x_istore_n 58 dC_init_57 rfl (by decide) rfl ?_
  refine x_iload_n 59 dC_init_58 rfl rfl ?_
  refine x_iconst 5 60 dC_init_59 rfl rfl ?_
  refine x_icmp_ge 82 63 dC_init_60 (by decide) rfl (fun z => absurd z (by decide)) (fun _ => ?_)
  refine x_aload_n 64 dC_init_63 rfl rfl ?_
  refine x_get _ 67 fC_11 dC_init_64 rfl rfl rfl ?_
  refine x_iload_n 68 dC_init_67 rfl rfl ?_
  refine x_new (1, 0) 71 nC_init_9 dC_init_68 rfl (by decide) (by decide) (by decide) (hN.1 _ (by decide)) (fun b e hb => hN.2 b e hb _ (by decide)) (fun v hv a ha hva => by rw [List.mem_singleton.mp ha] at hva; rw [hva] at hv; simp at hv) (fun v hv a ha hva => by rw [List.mem_singleton.mp ha] at hva; rw [hva] at hv; simp at hv) ?_
  have hN := hN.add (c := (1, 0)) (e := .inr (0, [xR none, xJ 0, xJ 0])) (no_obj 0 _ rfl)
  refine x_dup 72 dC_init_71 rfl rfl ?_
  refine x_aIN 75 (cA_init (m := 0) rfl hN (by decide)) kC_45 oA_init dC_init_72 rfl rfl (by decide) (by decide) (by decide) (Nat.le_of_ble_eq_true rfl) (by decide) (fun v hv a ha hva => by simp only [List.mem_cons, List.not_mem_nil, or_false] at ha; rw [hva] at hv; subst ha; simp at hv) (fun v hv a ha hva => by simp only [List.mem_cons, List.not_mem_nil, or_false] at ha; rw [hva] at hv; subst ha; simp at hv) (fun h1 hq => ?_)
  subst hq
  have hN := (hN.add (c := (2, 0)) (e := .inl (0, 2, .inl (fun _ => 0))) ne_int).set (c := (1, 0)) (e := .inr (0, [xR (some (2, 0)), xJ 0, xJ 0])) (by decide) (ne_obj (by decide))
  refine x_aast (v := (1, 0)) (r := (RA, TA, 3)) 76 rfl rfl dC_init_75 rfl rfl rfl (vp_of (by decide) (by decide)) ?_
  have hN := hN.set (c := (6, 0)) (e := .inl (3, 5, .inr (.inr (x_uf (fun _ => none) (0 : Int32).toNatClampNeg (some (1, 0)))))) (by decide) (ne_ref (RF.uf RF.none0 (by decide)))
  refine x_iinc 79 dC_init_76 rfl rfl (by decide) rfl ?_
  refine x_goto 58 dC_init_79 (by decide) ?_
  refine x_iload_n 59 dC_init_58 rfl rfl ?_
  refine x_iconst 5 60 dC_init_59 rfl rfl ?_
  refine x_icmp_ge 82 63 dC_init_60 (by decide) rfl (fun z => absurd z (by decide)) (fun _ => ?_)
  refine x_aload_n 64 dC_init_63 rfl rfl ?_
  refine x_get _ 67 fC_11 dC_init_64 rfl rfl rfl ?_
  refine x_iload_n 68 dC_init_67 rfl rfl ?_
  refine x_new (1, 1) 71 nC_init_9 dC_init_68 rfl (by decide) (by decide) (by decide) (hN.1 _ (by decide)) (fun b e hb => hN.2 b e hb _ (by decide)) (fun v hv a ha hva => by rw [List.mem_singleton.mp ha] at hva; rw [hva] at hv; simp at hv) (fun v hv a ha hva => by rw [List.mem_singleton.mp ha] at hva; rw [hva] at hv; simp at hv) ?_
  have hN := hN.add (c := (1, 1)) (e := .inr (0, [xR none, xJ 0, xJ 0])) (no_obj 0 _ rfl)
  refine x_dup 72 dC_init_71 rfl rfl ?_
  refine x_aIN 75 (cA_init (m := 1) rfl hN (by decide)) kC_45 oA_init dC_init_72 rfl rfl (by decide) (by decide) (by decide) (Nat.le_of_ble_eq_true rfl) (by decide) (fun v hv a ha hva => by simp only [List.mem_cons, List.not_mem_nil, or_false] at ha; rw [hva] at hv; subst ha; simp at hv) (fun v hv a ha hva => by simp only [List.mem_cons, List.not_mem_nil, or_false] at ha; rw [hva] at hv; subst ha; simp at hv) (fun h1 hq => ?_)
  subst hq
  have hN := (hN.add (c := (2, 1)) (e := .inl (0, 2, .inl (fun _ => 0))) ne_int).set (c := (1, 1)) (e := .inr (0, [xR (some (2, 1)), xJ 0, xJ 0])) (by decide) (ne_obj (by decide))
  refine x_aast (v := (1, 1)) (r := (RA, TA, 3)) 76 rfl rfl dC_init_75 rfl rfl rfl (vp_of (by decide) (by decide)) ?_
  have hN := hN.set (c := (6, 0)) (e := .inl (3, 5, .inr (.inr (x_uf (x_uf (fun _ => none) (0 : Int32).toNatClampNeg (some (1, 0))) ((0 : Int32) + Int32.ofInt 1).toNatClampNeg (some (1, 1)))))) (by decide) (ne_ref (RF.uf (RF.uf RF.none0 (by decide)) (by decide)))
  refine x_iinc 79 dC_init_76 rfl rfl (by decide) rfl ?_
  refine x_goto 58 dC_init_79 (by decide) ?_
  refine x_iload_n 59 dC_init_58 rfl rfl ?_
  refine x_iconst 5 60 dC_init_59 rfl rfl ?_
  refine x_icmp_ge 82 63 dC_init_60 (by decide) rfl (fun z => absurd z (by decide)) (fun _ => ?_)
  refine x_aload_n 64 dC_init_63 rfl rfl ?_
  refine x_get _ 67 fC_11 dC_init_64 rfl rfl rfl ?_
  refine x_iload_n 68 dC_init_67 rfl rfl ?_
  refine x_new (1, 2) 71 nC_init_9 dC_init_68 rfl (by decide) (by decide) (by decide) (hN.1 _ (by decide)) (fun b e hb => hN.2 b e hb _ (by decide)) (fun v hv a ha hva => by rw [List.mem_singleton.mp ha] at hva; rw [hva] at hv; simp at hv) (fun v hv a ha hva => by rw [List.mem_singleton.mp ha] at hva; rw [hva] at hv; simp at hv) ?_
  have hN := hN.add (c := (1, 2)) (e := .inr (0, [xR none, xJ 0, xJ 0])) (no_obj 0 _ rfl)
  refine x_dup 72 dC_init_71 rfl rfl ?_
  refine x_aIN 75 (cA_init (m := 2) rfl hN (by decide)) kC_45 oA_init dC_init_72 rfl rfl (by decide) (by decide) (by decide) (Nat.le_of_ble_eq_true rfl) (by decide) (fun v hv a ha hva => by simp only [List.mem_cons, List.not_mem_nil, or_false] at ha; rw [hva] at hv; subst ha; simp at hv) (fun v hv a ha hva => by simp only [List.mem_cons, List.not_mem_nil, or_false] at ha; rw [hva] at hv; subst ha; simp at hv) (fun h1 hq => ?_)
  subst hq
  have hN := (hN.add (c := (2, 2)) (e := .inl (0, 2, .inl (fun _ => 0))) ne_int).set (c := (1, 2)) (e := .inr (0, [xR (some (2, 2)), xJ 0, xJ 0])) (by decide) (ne_obj (by decide))
  refine x_aast (v := (1, 2)) (r := (RA, TA, 3)) 76 rfl rfl dC_init_75 rfl rfl rfl (vp_of (by decide) (by decide)) ?_
  have hN := hN.set (c := (6, 0)) (e := .inl (3, 5, .inr (.inr (x_uf (x_uf (x_uf (fun _ => none) (0 : Int32).toNatClampNeg (some (1, 0))) ((0 : Int32) + Int32.ofInt 1).toNatClampNeg (some (1, 1))) (((0 : Int32) + Int32.ofInt 1) + Int32.ofInt 1).toNatClampNeg (some (1, 2)))))) (by decide) (ne_ref (RF.uf (RF.uf (RF.uf RF.none0 (by decide)) (by decide)) (by decide)))
  refine x_iinc 79 dC_init_76 rfl rfl (by decide) rfl ?_
  refine x_goto 58 dC_init_79 (by decide) ?_
  refine x_iload_n 59 dC_init_58 rfl rfl ?_
  refine x_iconst 5 60 dC_init_59 rfl rfl ?_
  refine x_icmp_ge 82 63 dC_init_60 (by decide) rfl (fun z => absurd z (by decide)) (fun _ => ?_)
  refine x_aload_n 64 dC_init_63 rfl rfl ?_
  refine x_get _ 67 fC_11 dC_init_64 rfl rfl rfl ?_
  refine x_iload_n 68 dC_init_67 rfl rfl ?_
  refine x_new (1, 3) 71 nC_init_9 dC_init_68 rfl (by decide) (by decide) (by decide) (hN.1 _ (by decide)) (fun b e hb => hN.2 b e hb _ (by decide)) (fun v hv a ha hva => by rw [List.mem_singleton.mp ha] at hva; rw [hva] at hv; simp at hv) (fun v hv a ha hva => by rw [List.mem_singleton.mp ha] at hva; rw [hva] at hv; simp at hv) ?_
  have hN := hN.add (c := (1, 3)) (e := .inr (0, [xR none, xJ 0, xJ 0])) (no_obj 0 _ rfl)
  refine x_dup 72 dC_init_71 rfl rfl ?_
  refine x_aIN 75 (cA_init (m := 3) rfl hN (by decide)) kC_45 oA_init dC_init_72 rfl rfl (by decide) (by decide) (by decide) (Nat.le_of_ble_eq_true rfl) (by decide) (fun v hv a ha hva => by simp only [List.mem_cons, List.not_mem_nil, or_false] at ha; rw [hva] at hv; subst ha; simp at hv) (fun v hv a ha hva => by simp only [List.mem_cons, List.not_mem_nil, or_false] at ha; rw [hva] at hv; subst ha; simp at hv) (fun h1 hq => ?_)
  subst hq
  have hN := (hN.add (c := (2, 3)) (e := .inl (0, 2, .inl (fun _ => 0))) ne_int).set (c := (1, 3)) (e := .inr (0, [xR (some (2, 3)), xJ 0, xJ 0])) (by decide) (ne_obj (by decide))
  refine x_aast (v := (1, 3)) (r := (RA, TA, 3)) 76 rfl rfl dC_init_75 rfl rfl rfl (vp_of (by decide) (by decide)) ?_
  have hN := hN.set (c := (6, 0)) (e := .inl (3, 5, .inr (.inr (x_uf (x_uf (x_uf (x_uf (fun _ => none) (0 : Int32).toNatClampNeg (some (1, 0))) ((0 : Int32) + Int32.ofInt 1).toNatClampNeg (some (1, 1))) (((0 : Int32) + Int32.ofInt 1) + Int32.ofInt 1).toNatClampNeg (some (1, 2))) ((((0 : Int32) + Int32.ofInt 1) + Int32.ofInt 1) + Int32.ofInt 1).toNatClampNeg (some (1, 3)))))) (by decide) (ne_ref (RF.uf (RF.uf (RF.uf (RF.uf RF.none0 (by decide)) (by decide)) (by decide)) (by decide)))
  refine x_iinc 79 dC_init_76 rfl rfl (by decide) rfl ?_
  refine x_goto 58 dC_init_79 (by decide) ?_
  refine x_iload_n 59 dC_init_58 rfl rfl ?_
  refine x_iconst 5 60 dC_init_59 rfl rfl ?_
  refine x_icmp_ge 82 63 dC_init_60 (by decide) rfl (fun z => absurd z (by decide)) (fun _ => ?_)
  refine x_aload_n 64 dC_init_63 rfl rfl ?_
  refine x_get _ 67 fC_11 dC_init_64 rfl rfl rfl ?_
  refine x_iload_n 68 dC_init_67 rfl rfl ?_
  refine x_new (1, 4) 71 nC_init_9 dC_init_68 rfl (by decide) (by decide) (by decide) (hN.1 _ (by decide)) (fun b e hb => hN.2 b e hb _ (by decide)) (fun v hv a ha hva => by rw [List.mem_singleton.mp ha] at hva; rw [hva] at hv; simp at hv) (fun v hv a ha hva => by rw [List.mem_singleton.mp ha] at hva; rw [hva] at hv; simp at hv) ?_
  have hN := hN.add (c := (1, 4)) (e := .inr (0, [xR none, xJ 0, xJ 0])) (no_obj 0 _ rfl)
  refine x_dup 72 dC_init_71 rfl rfl ?_
  refine x_aIN 75 (cA_init (m := 4) rfl hN (by decide)) kC_45 oA_init dC_init_72 rfl rfl (by decide) (by decide) (by decide) (Nat.le_of_ble_eq_true rfl) (by decide) (fun v hv a ha hva => by simp only [List.mem_cons, List.not_mem_nil, or_false] at ha; rw [hva] at hv; subst ha; simp at hv) (fun v hv a ha hva => by simp only [List.mem_cons, List.not_mem_nil, or_false] at ha; rw [hva] at hv; subst ha; simp at hv) (fun h1 hq => ?_)
  subst hq
  have hN := (hN.add (c := (2, 4)) (e := .inl (0, 2, .inl (fun _ => 0))) ne_int).set (c := (1, 4)) (e := .inr (0, [xR (some (2, 4)), xJ 0, xJ 0])) (by decide) (ne_obj (by decide))
  refine x_aast (v := (1, 4)) (r := (RA, TA, 3)) 76 rfl rfl dC_init_75 rfl rfl rfl (vp_of (by decide) (by decide)) ?_
  have hN := hN.set (c := (6, 0)) (e := .inl (3, 5, .inr (.inr (x_uf (x_uf (x_uf (x_uf (x_uf (fun _ => none) (0 : Int32).toNatClampNeg (some (1, 0))) ((0 : Int32) + Int32.ofInt 1).toNatClampNeg (some (1, 1))) (((0 : Int32) + Int32.ofInt 1) + Int32.ofInt 1).toNatClampNeg (some (1, 2))) ((((0 : Int32) + Int32.ofInt 1) + Int32.ofInt 1) + Int32.ofInt 1).toNatClampNeg (some (1, 3))) (((((0 : Int32) + Int32.ofInt 1) + Int32.ofInt 1) + Int32.ofInt 1) + Int32.ofInt 1).toNatClampNeg (some (1, 4)))))) (by decide) (ne_ref (RF.uf (RF.uf (RF.uf (RF.uf (RF.uf RF.none0 (by decide)) (by decide)) (by decide)) (by decide)) (by decide)))
  refine x_iinc 79 dC_init_76 rfl rfl (by decide) rfl ?_
  refine x_goto 58 dC_init_79 (by decide) ?_
  refine x_iload_n 59 dC_init_58 rfl rfl ?_
  refine x_iconst 5 60 dC_init_59 rfl rfl ?_
  refine x_icmp_ge 82 63 dC_init_60 (by decide) rfl (fun _ => ?_) (fun z => absurd (by decide) z)
  refine x_iconst 0 83 dC_init_82 rfl rfl ?_
  refine x_istore_n 84 dC_init_83 rfl (by decide) rfl ?_
  refine x_iload_n 85 dC_init_84 rfl rfl ?_
  refine x_iconst 2 86 dC_init_85 rfl rfl ?_
  refine x_icmp_ge 108 89 dC_init_86 (by decide) rfl (fun z => absurd z (by decide)) (fun _ => ?_)
  refine x_aload_n 90 dC_init_89 rfl rfl ?_
  refine x_get _ 93 fC_17 dC_init_90 rfl rfl rfl ?_
  refine x_iload_n 94 dC_init_93 rfl rfl ?_
  refine x_new (3, 0) 97 nC_init_15 dC_init_94 rfl (by decide) (by decide) (by decide) (hN.1 _ (by decide)) (fun b e hb => hN.2 b e hb _ (by decide)) (fun v hv a ha hva => by rw [List.mem_singleton.mp ha] at hva; rw [hva] at hv; simp at hv) (fun v hv a ha hva => by rw [List.mem_singleton.mp ha] at hva; rw [hva] at hv; simp at hv) ?_
  have hN := hN.add (c := (3, 0)) (e := .inr (1, [xR none, xR none, xI 0, xI 0])) (no_obj 1 _ rfl)
  refine x_dup 98 dC_init_97 rfl rfl ?_
  refine x_aIN 101 (cB_init (i := 0) (a := 0) (b := 1) (by decide) rfl hN (by decide) (by decide) (by decide)) kC_46 oB_init dC_init_98 rfl rfl (by decide) (by decide) (by decide) (Nat.le_of_ble_eq_true rfl) (by decide) (fun v hv a ha hva => by simp only [List.mem_cons, List.not_mem_nil, or_false] at ha; rw [hva] at hv; rcases ha with rfl | rfl <;> simp at hv) (fun v hv a ha hva => by simp only [List.mem_cons, List.not_mem_nil, or_false] at ha; rw [hva] at hv; rcases ha with rfl | rfl <;> simp at hv) (fun h1 hq => ?_)
  subst hq
  have hN := (((hN.add (c := (4, 0)) (e := .inr (4, [xR none])) (no_obj 4 _ rfl)).set (c := (3, 0)) (e := .inr (1, [xR (some (4, 0)), xR none, xI 0, xI 0])) (by decide) (ne_obj (by decide))).add (c := (4, 1)) (e := .inr (4, [xR none])) (no_obj 4 _ rfl)).set (c := (3, 0)) (e := .inr (1, [xR (some (4, 0)), xR (some (4, 1)), xI 0, xI 32])) (by decide) (ne_obj (by decide))
  refine x_aast (v := (3, 0)) (r := (RB, TB, 4)) 102 rfl rfl dC_init_101 rfl rfl rfl (vp_of (by decide) (by decide)) ?_
  have hN := hN.set (c := (7, 0)) (e := .inl (4, 2, .inr (.inr (x_uf (fun _ => none) (0 : Int32).toNatClampNeg (some (3, 0)))))) (by decide) (ne_ref (RF.uf RF.none0 (by decide)))
  refine x_iinc 105 dC_init_102 rfl rfl (by decide) rfl ?_
  refine x_goto 84 dC_init_105 (by decide) ?_
  refine x_iload_n 85 dC_init_84 rfl rfl ?_
  refine x_iconst 2 86 dC_init_85 rfl rfl ?_
  refine x_icmp_ge 108 89 dC_init_86 (by decide) rfl (fun z => absurd z (by decide)) (fun _ => ?_)
  refine x_aload_n 90 dC_init_89 rfl rfl ?_
  refine x_get _ 93 fC_17 dC_init_90 rfl rfl rfl ?_
  refine x_iload_n 94 dC_init_93 rfl rfl ?_
  refine x_new (3, 1) 97 nC_init_15 dC_init_94 rfl (by decide) (by decide) (by decide) (hN.1 _ (by decide)) (fun b e hb => hN.2 b e hb _ (by decide)) (fun v hv a ha hva => by rw [List.mem_singleton.mp ha] at hva; rw [hva] at hv; simp at hv) (fun v hv a ha hva => by rw [List.mem_singleton.mp ha] at hva; rw [hva] at hv; simp at hv) ?_
  have hN := hN.add (c := (3, 1)) (e := .inr (1, [xR none, xR none, xI 0, xI 0])) (no_obj 1 _ rfl)
  refine x_dup 98 dC_init_97 rfl rfl ?_
  refine x_aIN 101 (cB_init (i := 1) (a := 2) (b := 3) (by decide) rfl hN (by decide) (by decide) (by decide)) kC_46 oB_init dC_init_98 rfl rfl (by decide) (by decide) (by decide) (Nat.le_of_ble_eq_true rfl) (by decide) (fun v hv a ha hva => by simp only [List.mem_cons, List.not_mem_nil, or_false] at ha; rw [hva] at hv; rcases ha with rfl | rfl <;> simp at hv) (fun v hv a ha hva => by simp only [List.mem_cons, List.not_mem_nil, or_false] at ha; rw [hva] at hv; rcases ha with rfl | rfl <;> simp at hv) (fun h1 hq => ?_)
  subst hq
  have hN := (((hN.add (c := (4, 2)) (e := .inr (4, [xR none])) (no_obj 4 _ rfl)).set (c := (3, 1)) (e := .inr (1, [xR (some (4, 2)), xR none, xI 0, xI 0])) (by decide) (ne_obj (by decide))).add (c := (4, 3)) (e := .inr (4, [xR none])) (no_obj 4 _ rfl)).set (c := (3, 1)) (e := .inr (1, [xR (some (4, 2)), xR (some (4, 3)), xI 0, xI 32])) (by decide) (ne_obj (by decide))
  refine x_aast (v := (3, 1)) (r := (RB, TB, 4)) 102 rfl rfl dC_init_101 rfl rfl rfl (vp_of (by decide) (by decide)) ?_
  have hN := hN.set (c := (7, 0)) (e := .inl (4, 2, .inr (.inr (x_uf (x_uf (fun _ => none) (0 : Int32).toNatClampNeg (some (3, 0))) ((0 : Int32) + Int32.ofInt 1).toNatClampNeg (some (3, 1)))))) (by decide) (ne_ref (RF.uf (RF.uf RF.none0 (by decide)) (by decide)))
  refine x_iinc 105 dC_init_102 rfl rfl (by decide) rfl ?_
  refine x_goto 84 dC_init_105 (by decide) ?_
  refine x_iload_n 85 dC_init_84 rfl rfl ?_
  refine x_iconst 2 86 dC_init_85 rfl rfl ?_
  refine x_icmp_ge 108 89 dC_init_86 (by decide) rfl (fun _ => ?_) (fun z => absurd (by decide) z)
  refine x_vret dC_init_108 rfl ⟨rfl, hN.perm (by decide), ?_⟩
  clear hN
  intro a e he
  obtain ⟨c, i⟩ := a
  match c, he with
  | 0, he => cases he
  | 1, he =>
    match i, he with
    | 0, he => exact ⟨e, he, Or.inl rfl⟩
    | 1, he => exact ⟨e, he, Or.inl rfl⟩
    | 2, he => exact ⟨e, he, Or.inl rfl⟩
    | 3, he => exact ⟨e, he, Or.inl rfl⟩
    | 4, he => exact ⟨e, he, Or.inl rfl⟩
    | j + 5, he => rw [hq0_1] at he; cases he
  | 2, he =>
    match i, he with
    | 0, he => exact ⟨e, he, Or.inl rfl⟩
    | 1, he => exact ⟨e, he, Or.inl rfl⟩
    | 2, he => exact ⟨e, he, Or.inl rfl⟩
    | 3, he => exact ⟨e, he, Or.inl rfl⟩
    | 4, he => exact ⟨e, he, Or.inl rfl⟩
    | j + 5, he => rw [hq0_2] at he; cases he
  | 3, he =>
    match i, he with
    | 0, he => exact ⟨e, he, Or.inl rfl⟩
    | 1, he => exact ⟨e, he, Or.inl rfl⟩
    | j + 2, he => rw [hq0_3] at he; cases he
  | 4, he =>
    match i, he with
    | 0, he => exact ⟨e, he, Or.inl rfl⟩
    | 1, he => exact ⟨e, he, Or.inl rfl⟩
    | 2, he => exact ⟨e, he, Or.inl rfl⟩
    | 3, he => exact ⟨e, he, Or.inl rfl⟩
    | j + 4, he => rw [hq0_4] at he; cases he
  | 5, he =>
    match i, he with
    | 0, he => exact ⟨e, he, Or.inl rfl⟩
    | j + 1, he => cases he
  | 8, he =>
    match i, he with
    | 0, he => exact ⟨e, he, Or.inl rfl⟩
    | j + 1, he => cases he
  | 9, he =>
    match i, he with
    | 0, he => exact ⟨e, he, Or.inl rfl⟩
    | j + 1, he => cases he
  | 10, he =>
    match i, he with
    | 0, he => exact ⟨e, he, Or.inl rfl⟩
    | j + 1, he => cases he
  | 11, he =>
    match i, he with
    | 0, he => exact ⟨e, he, Or.inl rfl⟩
    | j + 1, he => cases he
  | 12, he =>
    match i, he with
    | 0, he => exact ⟨e, he, Or.inl rfl⟩
    | j + 1, he => cases he
  | 13, he =>
    match i, he with
    | 0, he => exact ⟨e, he, Or.inl rfl⟩
    | j + 1, he => cases he
  | 6, he =>
    match i, he with
    | 0, he => cases he; exact ⟨_, rfl, Or.inr ⟨3, 5, _, _, rfl, rfl, fun j hj => by match j, hj with | 0, _ => rfl | 1, _ => rfl | 2, _ => rfl | 3, _ => rfl | 4, _ => rfl⟩⟩
    | j + 1, he => cases he
  | 7, he =>
    match i, he with
    | 0, he => cases he; exact ⟨_, rfl, Or.inr ⟨4, 2, _, _, rfl, rfl, fun j hj => by match j, hj with | 0, _ => rfl | 1, _ => rfl⟩⟩
    | j + 1, he => cases he
  | c + 14, he => exact absurd he (by show ¬ (if c + 14 < 14 then hp 0 I0 J0 P0 V0 A0 J0 (c + 14, i) else none) = some e; rw [if_neg (by omega)]; exact fun q => by cases q)
def nkR : List xQ := [(15, 0), (15, 1), (15, 2), (15, 3), (15, 4), (15, 5), (15, 6), (15, 7), (15, 8), (16, 0), (16, 1), (17, 0), (18, 0), (19, 0), (20, 0)]
def hR0 (h : xH) : xH := x_up h (14, 0) (.inr (7, [xI 0, xR none, xR none, xR none, xR none, xR none, xR none, xR none, xR none, xR none, xI 0, xR none, xR none, xR none, xR none, xR none, xI 0, xR none, xI 0, xI 0, xI 0]))
def kR (h h2 : xH) : Prop := (∀ a : xQ, a.1 < 14 → h2 a = h a) ∧ h2 (14, 0) = some (e_R A0) ∧ (∀ k, k < 9 → h2 (15, k) = some (.inl (0, 120, .inl (fun _ => 0)))) ∧ (∀ k, k < 2 → h2 (16, k) = some (.inl (1, 5, .inr (.inl (fun _ => 0))))) ∧ h2 (17, 0) = some (.inl (0, 10, .inl (fun _ => 0))) ∧ h2 (18, 0) = some (.inl (2, 2, .inl (fun _ => 0))) ∧ h2 (19, 0) = some (.inl (0, 2, .inl (A0 11))) ∧ h2 (20, 0) = some (.inl (0, 400, .inl (fun _ => 0)))
theorem x_up_lt {h : xH} {k : Nat × Nat} {e : xE} {a : xQ} (ha : a.1 < 14) (hk : 14 ≤ k.1) : x_up h k e a = h a := x_up_ne _ _ (fun q => by rw [q] at ha; omega)
theorem cR_init {h : xH} (hN1 : NR dkC h) : x_C l G mR_init 1 15 1504 [xR (some (14, 0))] (hR0 h) nkR (x_ex none (kR h)) := by
  refine x_C.at [some (xR (some (14, 0)))] rfl (Nat.le_of_ble_eq_true rfl) rfl ?_
  have hN : NR ((14, 0) :: dkC) (hR0 h) := hN1.add (no_obj 7 _ rfl)
  unfold hR0 at hN ⊢
  refine x_aload_n 1 dR_init_0 rfl rfl ?_
  refine x_objInit 4 dR_init_1 rfl jR_1 j_i j_c (by decide) (Nat.le_of_ble_eq_true rfl) ?_
  refine x_aload_n 5 dR_init_4 rfl rfl ?_
  refine x_bipush (120) 7 dR_init_5 rfl rfl ?_
  refine x_newarr (ty := 0) (f := .inl (fun _ => 0)) (N := 120) (15, 0) 9 rfl rfl (fun _ _ z => z) wa_int dR_init_7 rfl (by decide) rfl (by decide) (fun _ _ => rfl) (by decide) (by decide) (by decide) (hN.1 _ (by decide)) (fun b e hb => hN.2 b e hb _ (by decide)) (fun v hv a ha hva => by rw [List.mem_singleton.mp ha] at hva; rw [hva] at hv; simp at hv) (fun v hv a ha hva => by rw [List.mem_singleton.mp ha] at hva; rw [hva] at hv; simp at hv) ?_
  have hN := hN.add (c := (15, 0)) (e := .inl (0, 120, .inl (fun _ => 0))) ne_int
  refine x_put 12 pR_init_7 dR_init_9 rfl rfl (x_fit_a _ _) (Nat.le_of_ble_eq_true rfl) ?_
  have hN := hN.set (c := (14, 0)) (e := .inr (7, [xI 0, xR (some (15, 0)), xR none, xR none, xR none, xR none, xR none, xR none, xR none, xR none, xI 0, xR none, xR none, xR none, xR none, xR none, xI 0, xR none, xI 0, xI 0, xI 0])) (by decide) (ne_obj (by decide))
  refine x_aload_n 13 dR_init_12 rfl rfl ?_
  refine x_bipush (120) 15 dR_init_13 rfl rfl ?_
  refine x_newarr (ty := 0) (f := .inl (fun _ => 0)) (N := 120) (15, 1) 17 rfl rfl (fun _ _ z => z) wa_int dR_init_15 rfl (by decide) rfl (by decide) (fun _ _ => rfl) (by decide) (by decide) (by decide) (hN.1 _ (by decide)) (fun b e hb => hN.2 b e hb _ (by decide)) (fun v hv a ha hva => by rw [List.mem_singleton.mp ha] at hva; rw [hva] at hv; simp at hv) (fun v hv a ha hva => by rw [List.mem_singleton.mp ha] at hva; rw [hva] at hv; simp at hv) ?_
  have hN := hN.add (c := (15, 1)) (e := .inl (0, 120, .inl (fun _ => 0))) ne_int
  refine x_put 20 pR_init_13 dR_init_17 rfl rfl (x_fit_a _ _) (Nat.le_of_ble_eq_true rfl) ?_
  have hN := hN.set (c := (14, 0)) (e := .inr (7, [xI 0, xR (some (15, 0)), xR (some (15, 1)), xR none, xR none, xR none, xR none, xR none, xR none, xR none, xI 0, xR none, xR none, xR none, xR none, xR none, xI 0, xR none, xI 0, xI 0, xI 0])) (by decide) (ne_obj (by decide))
  refine x_aload_n 21 dR_init_20 rfl rfl ?_
  refine x_bipush (120) 23 dR_init_21 rfl rfl ?_
  refine x_newarr (ty := 0) (f := .inl (fun _ => 0)) (N := 120) (15, 2) 25 rfl rfl (fun _ _ z => z) wa_int dR_init_23 rfl (by decide) rfl (by decide) (fun _ _ => rfl) (by decide) (by decide) (by decide) (hN.1 _ (by decide)) (fun b e hb => hN.2 b e hb _ (by decide)) (fun v hv a ha hva => by rw [List.mem_singleton.mp ha] at hva; rw [hva] at hv; simp at hv) (fun v hv a ha hva => by rw [List.mem_singleton.mp ha] at hva; rw [hva] at hv; simp at hv) ?_
  have hN := hN.add (c := (15, 2)) (e := .inl (0, 120, .inl (fun _ => 0))) ne_int
  refine x_put 28 pR_init_16 dR_init_25 rfl rfl (x_fit_a _ _) (Nat.le_of_ble_eq_true rfl) ?_
  have hN := hN.set (c := (14, 0)) (e := .inr (7, [xI 0, xR (some (15, 0)), xR (some (15, 1)), xR (some (15, 2)), xR none, xR none, xR none, xR none, xR none, xR none, xI 0, xR none, xR none, xR none, xR none, xR none, xI 0, xR none, xI 0, xI 0, xI 0])) (by decide) (ne_obj (by decide))
  refine x_aload_n 29 dR_init_28 rfl rfl ?_
  refine x_bipush (120) 31 dR_init_29 rfl rfl ?_
  refine x_newarr (ty := 0) (f := .inl (fun _ => 0)) (N := 120) (15, 3) 33 rfl rfl (fun _ _ z => z) wa_int dR_init_31 rfl (by decide) rfl (by decide) (fun _ _ => rfl) (by decide) (by decide) (by decide) (hN.1 _ (by decide)) (fun b e hb => hN.2 b e hb _ (by decide)) (fun v hv a ha hva => by rw [List.mem_singleton.mp ha] at hva; rw [hva] at hv; simp at hv) (fun v hv a ha hva => by rw [List.mem_singleton.mp ha] at hva; rw [hva] at hv; simp at hv) ?_
  have hN := hN.add (c := (15, 3)) (e := .inl (0, 120, .inl (fun _ => 0))) ne_int
  refine x_put 36 pR_init_19 dR_init_33 rfl rfl (x_fit_a _ _) (Nat.le_of_ble_eq_true rfl) ?_
  have hN := hN.set (c := (14, 0)) (e := .inr (7, [xI 0, xR (some (15, 0)), xR (some (15, 1)), xR (some (15, 2)), xR (some (15, 3)), xR none, xR none, xR none, xR none, xR none, xI 0, xR none, xR none, xR none, xR none, xR none, xI 0, xR none, xI 0, xI 0, xI 0])) (by decide) (ne_obj (by decide))
  refine x_aload_n 37 dR_init_36 rfl rfl ?_
  refine x_bipush (120) 39 dR_init_37 rfl rfl ?_
  refine x_newarr (ty := 0) (f := .inl (fun _ => 0)) (N := 120) (15, 4) 41 rfl rfl (fun _ _ z => z) wa_int dR_init_39 rfl (by decide) rfl (by decide) (fun _ _ => rfl) (by decide) (by decide) (by decide) (hN.1 _ (by decide)) (fun b e hb => hN.2 b e hb _ (by decide)) (fun v hv a ha hva => by rw [List.mem_singleton.mp ha] at hva; rw [hva] at hv; simp at hv) (fun v hv a ha hva => by rw [List.mem_singleton.mp ha] at hva; rw [hva] at hv; simp at hv) ?_
  have hN := hN.add (c := (15, 4)) (e := .inl (0, 120, .inl (fun _ => 0))) ne_int
  refine x_put 44 pR_init_22 dR_init_41 rfl rfl (x_fit_a _ _) (Nat.le_of_ble_eq_true rfl) ?_
  have hN := hN.set (c := (14, 0)) (e := .inr (7, [xI 0, xR (some (15, 0)), xR (some (15, 1)), xR (some (15, 2)), xR (some (15, 3)), xR (some (15, 4)), xR none, xR none, xR none, xR none, xI 0, xR none, xR none, xR none, xR none, xR none, xI 0, xR none, xI 0, xI 0, xI 0])) (by decide) (ne_obj (by decide))
  refine x_aload_n 45 dR_init_44 rfl rfl ?_
  refine x_bipush (120) 47 dR_init_45 rfl rfl ?_
  refine x_newarr (ty := 0) (f := .inl (fun _ => 0)) (N := 120) (15, 5) 49 rfl rfl (fun _ _ z => z) wa_int dR_init_47 rfl (by decide) rfl (by decide) (fun _ _ => rfl) (by decide) (by decide) (by decide) (hN.1 _ (by decide)) (fun b e hb => hN.2 b e hb _ (by decide)) (fun v hv a ha hva => by rw [List.mem_singleton.mp ha] at hva; rw [hva] at hv; simp at hv) (fun v hv a ha hva => by rw [List.mem_singleton.mp ha] at hva; rw [hva] at hv; simp at hv) ?_
  have hN := hN.add (c := (15, 5)) (e := .inl (0, 120, .inl (fun _ => 0))) ne_int
  refine x_put 52 pR_init_25 dR_init_49 rfl rfl (x_fit_a _ _) (Nat.le_of_ble_eq_true rfl) ?_
  have hN := hN.set (c := (14, 0)) (e := .inr (7, [xI 0, xR (some (15, 0)), xR (some (15, 1)), xR (some (15, 2)), xR (some (15, 3)), xR (some (15, 4)), xR (some (15, 5)), xR none, xR none, xR none, xI 0, xR none, xR none, xR none, xR none, xR none, xI 0, xR none, xI 0, xI 0, xI 0])) (by decide) (ne_obj (by decide))
  refine x_aload_n 53 dR_init_52 rfl rfl ?_
  refine x_bipush (120) 55 dR_init_53 rfl rfl ?_
  refine x_newarr (ty := 0) (f := .inl (fun _ => 0)) (N := 120) (15, 6) 57 rfl rfl (fun _ _ z => z) wa_int dR_init_55 rfl (by decide) rfl (by decide) (fun _ _ => rfl) (by decide) (by decide) (by decide) (hN.1 _ (by decide)) (fun b e hb => hN.2 b e hb _ (by decide)) (fun v hv a ha hva => by rw [List.mem_singleton.mp ha] at hva; rw [hva] at hv; simp at hv) (fun v hv a ha hva => by rw [List.mem_singleton.mp ha] at hva; rw [hva] at hv; simp at hv) ?_
  have hN := hN.add (c := (15, 6)) (e := .inl (0, 120, .inl (fun _ => 0))) ne_int
  refine x_put 60 pR_init_28 dR_init_57 rfl rfl (x_fit_a _ _) (Nat.le_of_ble_eq_true rfl) ?_
  have hN := hN.set (c := (14, 0)) (e := .inr (7, [xI 0, xR (some (15, 0)), xR (some (15, 1)), xR (some (15, 2)), xR (some (15, 3)), xR (some (15, 4)), xR (some (15, 5)), xR (some (15, 6)), xR none, xR none, xI 0, xR none, xR none, xR none, xR none, xR none, xI 0, xR none, xI 0, xI 0, xI 0])) (by decide) (ne_obj (by decide))
  refine x_aload_n 61 dR_init_60 rfl rfl ?_
  refine x_bipush (120) 63 dR_init_61 rfl rfl ?_
  refine x_newarr (ty := 0) (f := .inl (fun _ => 0)) (N := 120) (15, 7) 65 rfl rfl (fun _ _ z => z) wa_int dR_init_63 rfl (by decide) rfl (by decide) (fun _ _ => rfl) (by decide) (by decide) (by decide) (hN.1 _ (by decide)) (fun b e hb => hN.2 b e hb _ (by decide)) (fun v hv a ha hva => by rw [List.mem_singleton.mp ha] at hva; rw [hva] at hv; simp at hv) (fun v hv a ha hva => by rw [List.mem_singleton.mp ha] at hva; rw [hva] at hv; simp at hv) ?_
  have hN := hN.add (c := (15, 7)) (e := .inl (0, 120, .inl (fun _ => 0))) ne_int
  refine x_put 68 pR_init_31 dR_init_65 rfl rfl (x_fit_a _ _) (Nat.le_of_ble_eq_true rfl) ?_
  have hN := hN.set (c := (14, 0)) (e := .inr (7, [xI 0, xR (some (15, 0)), xR (some (15, 1)), xR (some (15, 2)), xR (some (15, 3)), xR (some (15, 4)), xR (some (15, 5)), xR (some (15, 6)), xR (some (15, 7)), xR none, xI 0, xR none, xR none, xR none, xR none, xR none, xI 0, xR none, xI 0, xI 0, xI 0])) (by decide) (ne_obj (by decide))
  refine x_aload_n 69 dR_init_68 rfl rfl ?_
  refine x_bipush (120) 71 dR_init_69 rfl rfl ?_
  refine x_newarr (ty := 0) (f := .inl (fun _ => 0)) (N := 120) (15, 8) 73 rfl rfl (fun _ _ z => z) wa_int dR_init_71 rfl (by decide) rfl (by decide) (fun _ _ => rfl) (by decide) (by decide) (by decide) (hN.1 _ (by decide)) (fun b e hb => hN.2 b e hb _ (by decide)) (fun v hv a ha hva => by rw [List.mem_singleton.mp ha] at hva; rw [hva] at hv; simp at hv) (fun v hv a ha hva => by rw [List.mem_singleton.mp ha] at hva; rw [hva] at hv; simp at hv) ?_
  have hN := hN.add (c := (15, 8)) (e := .inl (0, 120, .inl (fun _ => 0))) ne_int
  refine x_put 76 pR_init_34 dR_init_73 rfl rfl (x_fit_a _ _) (Nat.le_of_ble_eq_true rfl) ?_
  have hN := hN.set (c := (14, 0)) (e := .inr (7, [xI 0, xR (some (15, 0)), xR (some (15, 1)), xR (some (15, 2)), xR (some (15, 3)), xR (some (15, 4)), xR (some (15, 5)), xR (some (15, 6)), xR (some (15, 7)), xR (some (15, 8)), xI 0, xR none, xR none, xR none, xR none, xR none, xI 0, xR none, xI 0, xI 0, xI 0])) (by decide) (ne_obj (by decide))
  refine x_aload_n 77 dR_init_76 rfl rfl ?_
  refine x_iconst 5 78 dR_init_77 rfl rfl ?_
  refine x_newarr (ty := 1) (f := .inr (.inl (fun _ => 0))) (N := 5) (16, 0) 80 rfl rfl (fun _ _ z => z) wa_long dR_init_78 rfl (by decide) rfl (by decide) (fun _ _ => rfl) (by decide) (by decide) (by decide) (hN.1 _ (by decide)) (fun b e hb => hN.2 b e hb _ (by decide)) (fun v hv a ha hva => by rw [List.mem_singleton.mp ha] at hva; rw [hva] at hv; simp at hv) (fun v hv a ha hva => by rw [List.mem_singleton.mp ha] at hva; rw [hva] at hv; simp at hv) ?_
  have hN := hN.add (c := (16, 0)) (e := .inl (1, 5, .inr (.inl (fun _ => 0)))) ne_long
  refine x_put 83 pR_init_37 dR_init_80 rfl rfl (x_fit_a _ _) (Nat.le_of_ble_eq_true rfl) ?_
  have hN := hN.set (c := (14, 0)) (e := .inr (7, [xI 0, xR (some (15, 0)), xR (some (15, 1)), xR (some (15, 2)), xR (some (15, 3)), xR (some (15, 4)), xR (some (15, 5)), xR (some (15, 6)), xR (some (15, 7)), xR (some (15, 8)), xI 0, xR (some (16, 0)), xR none, xR none, xR none, xR none, xI 0, xR none, xI 0, xI 0, xI 0])) (by decide) (ne_obj (by decide))
  refine x_aload_n 84 dR_init_83 rfl rfl ?_
  refine x_iconst 5 85 dR_init_84 rfl rfl ?_
  refine x_newarr (ty := 1) (f := .inr (.inl (fun _ => 0))) (N := 5) (16, 1) 87 rfl rfl (fun _ _ z => z) wa_long dR_init_85 rfl (by decide) rfl (by decide) (fun _ _ => rfl) (by decide) (by decide) (by decide) (hN.1 _ (by decide)) (fun b e hb => hN.2 b e hb _ (by decide)) (fun v hv a ha hva => by rw [List.mem_singleton.mp ha] at hva; rw [hva] at hv; simp at hv) (fun v hv a ha hva => by rw [List.mem_singleton.mp ha] at hva; rw [hva] at hv; simp at hv) ?_
  have hN := hN.add (c := (16, 1)) (e := .inl (1, 5, .inr (.inl (fun _ => 0)))) ne_long
  refine x_put 90 pR_init_41 dR_init_87 rfl rfl (x_fit_a _ _) (Nat.le_of_ble_eq_true rfl) ?_
  have hN := hN.set (c := (14, 0)) (e := .inr (7, [xI 0, xR (some (15, 0)), xR (some (15, 1)), xR (some (15, 2)), xR (some (15, 3)), xR (some (15, 4)), xR (some (15, 5)), xR (some (15, 6)), xR (some (15, 7)), xR (some (15, 8)), xI 0, xR (some (16, 0)), xR (some (16, 1)), xR none, xR none, xR none, xI 0, xR none, xI 0, xI 0, xI 0])) (by decide) (ne_obj (by decide))
  refine x_aload_n 91 dR_init_90 rfl rfl ?_
  refine x_bipush (10) 93 dR_init_91 rfl rfl ?_
  refine x_newarr (ty := 0) (f := .inl (fun _ => 0)) (N := 10) (17, 0) 95 rfl rfl (fun _ _ z => z) wa_int dR_init_93 rfl (by decide) rfl (by decide) (fun _ _ => rfl) (by decide) (by decide) (by decide) (hN.1 _ (by decide)) (fun b e hb => hN.2 b e hb _ (by decide)) (fun v hv a ha hva => by rw [List.mem_singleton.mp ha] at hva; rw [hva] at hv; simp at hv) (fun v hv a ha hva => by rw [List.mem_singleton.mp ha] at hva; rw [hva] at hv; simp at hv) ?_
  have hN := hN.add (c := (17, 0)) (e := .inl (0, 10, .inl (fun _ => 0))) ne_int
  refine x_put 98 pR_init_44 dR_init_95 rfl rfl (x_fit_a _ _) (Nat.le_of_ble_eq_true rfl) ?_
  have hN := hN.set (c := (14, 0)) (e := .inr (7, [xI 0, xR (some (15, 0)), xR (some (15, 1)), xR (some (15, 2)), xR (some (15, 3)), xR (some (15, 4)), xR (some (15, 5)), xR (some (15, 6)), xR (some (15, 7)), xR (some (15, 8)), xI 0, xR (some (16, 0)), xR (some (16, 1)), xR (some (17, 0)), xR none, xR none, xI 0, xR none, xI 0, xI 0, xI 0])) (by decide) (ne_obj (by decide))
  refine x_aload_n 99 dR_init_98 rfl rfl ?_
  refine x_iconst 2 100 dR_init_99 rfl rfl ?_
  refine x_newarr (ty := 2) (f := .inl (fun _ => 0)) (N := 2) (18, 0) 102 rfl rfl (fun _ _ z => z) wa_boolean dR_init_100 rfl (by decide) rfl (by decide) (fun _ _ => rfl) (by decide) (by decide) (by decide) (hN.1 _ (by decide)) (fun b e hb => hN.2 b e hb _ (by decide)) (fun v hv a ha hva => by rw [List.mem_singleton.mp ha] at hva; rw [hva] at hv; simp at hv) (fun v hv a ha hva => by rw [List.mem_singleton.mp ha] at hva; rw [hva] at hv; simp at hv) ?_
  have hN := hN.add (c := (18, 0)) (e := .inl (2, 2, .inl (fun _ => 0))) ne_int
  refine x_put 105 pR_init_47 dR_init_102 rfl rfl (x_fit_a _ _) (Nat.le_of_ble_eq_true rfl) ?_
  have hN := hN.set (c := (14, 0)) (e := .inr (7, [xI 0, xR (some (15, 0)), xR (some (15, 1)), xR (some (15, 2)), xR (some (15, 3)), xR (some (15, 4)), xR (some (15, 5)), xR (some (15, 6)), xR (some (15, 7)), xR (some (15, 8)), xI 0, xR (some (16, 0)), xR (some (16, 1)), xR (some (17, 0)), xR (some (18, 0)), xR none, xI 0, xR none, xI 0, xI 0, xI 0])) (by decide) (ne_obj (by decide))
  refine x_aload_n 106 dR_init_105 rfl rfl ?_
  refine x_iconst 2 107 dR_init_106 rfl rfl ?_
  refine x_newarr (ty := 0) (f := .inl (fun _ => 0)) (N := 2) (19, 0) 109 rfl rfl (fun _ _ z => z) wa_int dR_init_107 rfl (by decide) rfl (by decide) (fun _ _ => rfl) (by decide) (by decide) (by decide) (hN.1 _ (by decide)) (fun b e hb => hN.2 b e hb _ (by decide)) (fun v hv a ha hva => by rw [List.mem_singleton.mp ha] at hva; rw [hva] at hv; simp at hv) (fun v hv a ha hva => by rw [List.mem_singleton.mp ha] at hva; rw [hva] at hv; simp at hv) ?_
  have hN := hN.add (c := (19, 0)) (e := .inl (0, 2, .inl (fun _ => 0))) ne_int
  refine x_put 112 pR_init_51 dR_init_109 rfl rfl (x_fit_a _ _) (Nat.le_of_ble_eq_true rfl) ?_
  have hN := hN.set (c := (14, 0)) (e := .inr (7, [xI 0, xR (some (15, 0)), xR (some (15, 1)), xR (some (15, 2)), xR (some (15, 3)), xR (some (15, 4)), xR (some (15, 5)), xR (some (15, 6)), xR (some (15, 7)), xR (some (15, 8)), xI 0, xR (some (16, 0)), xR (some (16, 1)), xR (some (17, 0)), xR (some (18, 0)), xR (some (19, 0)), xI 0, xR none, xI 0, xI 0, xI 0])) (by decide) (ne_obj (by decide))
  refine x_aload_n 113 dR_init_112 rfl rfl ?_
  refine x_sipush (400) 116 dR_init_113 rfl rfl ?_
  refine x_newarr (ty := 0) (f := .inl (fun _ => 0)) (N := 400) (20, 0) 118 rfl rfl (fun _ _ z => z) wa_int dR_init_116 rfl (by decide) rfl (by decide) (fun _ _ => rfl) (by decide) (by decide) (by decide) (hN.1 _ (by decide)) (fun b e hb => hN.2 b e hb _ (by decide)) (fun v hv a ha hva => by rw [List.mem_singleton.mp ha] at hva; rw [hva] at hv; simp at hv) (fun v hv a ha hva => by rw [List.mem_singleton.mp ha] at hva; rw [hva] at hv; simp at hv) ?_
  have hN := hN.add (c := (20, 0)) (e := .inl (0, 400, .inl (fun _ => 0))) ne_int
  refine x_put 121 pR_init_54 dR_init_118 rfl rfl (x_fit_a _ _) (Nat.le_of_ble_eq_true rfl) ?_
  have hN := hN.set (c := (14, 0)) (e := .inr (7, [xI 0, xR (some (15, 0)), xR (some (15, 1)), xR (some (15, 2)), xR (some (15, 3)), xR (some (15, 4)), xR (some (15, 5)), xR (some (15, 6)), xR (some (15, 7)), xR (some (15, 8)), xI 0, xR (some (16, 0)), xR (some (16, 1)), xR (some (17, 0)), xR (some (18, 0)), xR (some (19, 0)), xI 0, xR (some (20, 0)), xI 0, xI 0, xI 0])) (by decide) (ne_obj (by decide))
  refine x_aload_n 122 dR_init_121 rfl rfl ?_
  refine x_get _ 125 fR_51 dR_init_122 rfl rfl rfl ?_
  refine x_iconst 0 126 dR_init_125 rfl rfl ?_
  refine x_bipush (32) 128 dR_init_126 rfl rfl ?_
  refine x_iast 129 dR_init_128 rfl rfl (vp_of (by decide) (by decide)) ?_
  refine x_aload_n 130 dR_init_129 rfl rfl ?_
  refine x_get _ 133 fR_51 dR_init_130 rfl rfl rfl ?_
  refine x_iconst 1 134 dR_init_133 rfl rfl ?_
  refine x_bipush (32) 136 dR_init_134 rfl rfl ?_
  refine x_iast 137 dR_init_136 rfl rfl (vp_of (by decide) (by decide)) ?_
  refine x_vret dR_init_137 rfl ⟨rfl, ?_⟩
  clear hN hN1
  refine ⟨fun a ha => ?_, rfl, fun k hk => ?_, fun k hk => ?_, rfl, rfl, rfl, rfl⟩
  · repeat rw [x_up_lt ha (by decide)]
  · match k, hk with
    | 0, _ => rfl
    | 1, _ => rfl
    | 2, _ => rfl
    | 3, _ => rfl
    | 4, _ => rfl
    | 5, _ => rfl
    | 6, _ => rfl
    | 7, _ => rfl
    | 8, _ => rfl
  · match k, hk with
    | 0, _ => rfl
    | 1, _ => rfl
end MH
