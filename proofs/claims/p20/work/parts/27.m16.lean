section MG
variable {l : Launch} {G : xG} {h : xH} {D : List xQ}
/-- keys outside D are free, and nobody refers to them -/
def NR (D : List xQ) (h : xH) : Prop := (∀ a, a ∉ D → h a = none) ∧ ∀ (b : xQ) (e : xE), h b = some e → ∀ a, a ∉ D → x_ne a e
theorem NR.nil : NR [] (fun _ => none) := ⟨fun _ _ => rfl, fun _ _ h => by cases h⟩
theorem NR.add (q : NR D h) {c : xQ} {e : xE} (he : ∀ a, a ∉ c :: D → x_ne a e) : NR (c :: D) (x_up h c e) := by
  refine ⟨fun a ha => ?_, fun b e2 hb a ha => ?_⟩
  · rw [x_up_ne _ _ (fun z => ha (by rw [z]; exact List.mem_cons_self))]
    exact q.1 a (fun z => ha (List.mem_cons_of_mem _ z))
  · by_cases hbc : b = c
    · subst hbc
      rw [x_up_self] at hb
      cases hb
      exact he a ha
    · rw [x_up_ne _ _ hbc] at hb
      exact q.2 b e2 hb a (fun z => ha (List.mem_cons_of_mem _ z))
theorem NR.set (q : NR D h) {c : xQ} {e : xE} (hc : c ∈ D) (he : ∀ a, a ∉ D → x_ne a e) : NR D (x_up h c e) := by
  refine ⟨fun a ha => ?_, fun b e2 hb a ha => ?_⟩
  · rw [x_up_ne _ _ (fun z => ha (by rw [z]; exact hc))]
    exact q.1 a ha
  · by_cases hbc : b = c
    · subst hbc
      rw [x_up_self] at hb
      cases hb
      exact he a ha
    · rw [x_up_ne _ _ hbc] at hb
      exact q.2 b e2 hb a ha
def x_rks (fs : List xV) : List xQ := fs.filterMap (fun v => match v with
  | .inr (.inr (.inl q)) => q
  | _ => none)
theorem ne_obj {ci : Nat} {fs : List xV} (hr : ∀ k ∈ x_rks fs, k ∈ D) : ∀ a, a ∉ D → x_ne a (.inr (ci, fs)) := by
  intro a ha v hv hva
  refine ha (hr a ?_)
  unfold x_rks
  rw [List.mem_filterMap]
  exact ⟨v, hv, by rw [hva]⟩
theorem ne_int {ty n : Nat} {f : Nat → Int32} : ∀ a, a ∉ D → x_ne a (.inl (ty, n, .inl f)) := fun _ _ => trivial
theorem ne_long {ty n : Nat} {f : Nat → Int64} : ∀ a, a ∉ D → x_ne a (.inl (ty, n, .inr (.inl f))) := fun _ _ => trivial
def RF (D : List xQ) (f : Nat → Option xQ) : Prop := ∀ j k, f j = some k → k ∈ D
theorem RF.none0 : RF D (fun _ => none) := fun _ _ h => by cases h
theorem RF.uf {f : Nat → Option xQ} (q : RF D f) {i : Nat} {k : xQ} (hk : k ∈ D) : RF D (x_uf f i (some k)) := by
  intro j k' hj
  unfold x_uf at hj
  split at hj
  · cases hj; exact hk
  · exact q j k' hj
theorem RF.mono {D' : List xQ} {f : Nat → Option xQ} (q : RF D f) (hs : ∀ x ∈ D, x ∈ D') : RF D' f := fun j k h => hs k (q j k h)
theorem ne_ref {ty n : Nat} {f : Nat → Option xQ} (q : RF D f) : ∀ a, a ∉ D → x_ne a (.inl (ty, n, .inr (.inr f))) := fun a ha j _ hj => ha (q j a hj)
theorem x_up_up (h : xH) (a : xQ) (e e' : xE) : x_up (x_up h a e) a e' = x_up h a e' := by
  funext b
  unfold x_up
  split <;> rfl
theorem wa_int : Cond.arrayClass .int ∈ wsA := w_at 65 (by decide +kernel) rfl
theorem wa_long : Cond.arrayClass .long ∈ wsA := w_at 540 (by decide +kernel) rfl
theorem wa_boolean : Cond.arrayClass .boolean ∈ wsA := w_at 541 (by decide +kernel) rfl
theorem no_obj (ci : Nat) (fs : List xV) (hr : x_rks fs = []) : ∀ a, a ∉ D → x_ne a (.inr (ci, fs)) := ne_obj (fun k hk => by rw [hr] at hk; cases hk)
theorem cA_init {m : Nat} (hs : h (1, m) = some (.inr (0, [xR none, xJ 0, xJ 0]))) (hN : NR D h) (hf : (2, m) ∉ D) : x_C l G mA_init 1 1 2 [xR (some (1, m))] h [(2, m)] (x_ex none (fun h1 => h1 = x_up (x_up h (2, m) (.inl (0, 2, .inl (fun _ => 0)))) (1, m) (.inr (0, [xR (some (2, m)), xJ 0, xJ 0])))) := by
  refine x_C.at [some (xR (some (1, m)))] rfl (Nat.le_of_ble_eq_true rfl) rfl ?_
  refine x_aload_n 1 dA_init_0 rfl rfl ?_
  refine x_objInit 4 dA_init_1 rfl jA_3 j_i j_c (by decide) (Nat.le_of_ble_eq_true rfl) ?_
  refine x_aload_n 5 dA_init_4 rfl rfl ?_
  refine x_iconst 2 6 dA_init_5 rfl rfl ?_
  refine x_newarr (ty := 0) (f := .inl (fun _ => 0)) (N := 2) (2, m) 8 rfl rfl (fun _ _ z => z) wa_int dA_init_6 rfl (by decide) rfl (by decide) (fun _ _ => rfl) (by decide) (by decide) (by simp) (hN.1 _ hf) (fun b e hb => hN.2 b e hb _ hf) (fun v hv a ha hva => by rw [List.mem_singleton.mp ha] at hva; rw [hva] at hv; simp at hv) (fun v hv a ha hva => by rw [List.mem_singleton.mp ha] at hva; rw [hva] at hv; simp at hv) ?_
  have hs1 : x_up h (2, m) (.inl (0, 2, .inl (fun _ => 0))) (1, m) = some (.inr (0, [xR none, xJ 0, xJ 0])) := by rw [x_up_ne _ _ (by simp)]; exact hs
  refine x_put 11 pA_init_9 dA_init_8 rfl hs1 (x_fit_a _ _) (Nat.le_of_ble_eq_true rfl) ?_
  refine x_aload_n 12 dA_init_11 rfl rfl ?_
  refine x_lconst 0 13 dA_init_12 rfl rfl ?_
  refine x_put 16 pA_init_15 dA_init_13 rfl (x_up_self _ _ _) (x_fit_l _) (Nat.le_of_ble_eq_true rfl) ?_
  refine x_aload_n 17 dA_init_16 rfl rfl ?_
  refine x_lconst 0 18 dA_init_17 rfl rfl ?_
  refine x_put 21 pA_init_19 dA_init_18 rfl (x_up_self _ _ _) (x_fit_l _) (Nat.le_of_ble_eq_true rfl) ?_
  exact x_vret dA_init_21 rfl ⟨rfl, by rw [x_up_up, x_up_up]; rfl⟩
theorem cD_init {j : Nat} (hs : h (4, j) = some (.inr (4, [xR none]))) : x_C l G mD_init 1 0 0 [xR (some (4, j))] h [] (x_ex none (fun h1 => h1 = x_up h (4, j) (.inr (4, [xR none])))) := by
  refine x_C.at [some (xR (some (4, j)))] rfl (Nat.le_of_ble_eq_true rfl) rfl ?_
  refine x_aload_n 1 dD_init_0 rfl rfl ?_
  refine x_objInit 4 dD_init_1 rfl jD_3 j_i j_c (by decide) (Nat.le_of_ble_eq_true rfl) ?_
  refine x_aload_n 5 dD_init_4 rfl rfl ?_
  refine x_null 6 dD_init_5 rfl ?_
  refine x_put 9 pD_init_9 dD_init_6 rfl hs (x_fit_o _ _) (Nat.le_of_ble_eq_true rfl) ?_
  exact x_vret dD_init_9 rfl ⟨rfl, rfl⟩
theorem cT_init (hs : h (9, 0) = some (.inr (5, [xR none, xI 0]))) (hN : NR D h) (hf : (10, 0) ∉ D) : x_C l G mT_init 1 1 400 [xR (some (9, 0))] h [(10, 0)] (x_ex none (fun h1 => h1 = x_up (x_up h (10, 0) (.inl (0, 400, .inl (fun _ => 0)))) (9, 0) (.inr (5, [xR (some (10, 0)), xI 0])))) := by
  refine x_C.at [some (xR (some (9, 0)))] rfl (Nat.le_of_ble_eq_true rfl) rfl ?_
  refine x_aload_n 1 dT_init_0 rfl rfl ?_
  refine x_objInit 4 dT_init_1 rfl jT_3 j_i j_c (by decide) (Nat.le_of_ble_eq_true rfl) ?_
  refine x_aload_n 5 dT_init_4 rfl rfl ?_
  refine x_sipush (400) 8 dT_init_5 rfl rfl ?_
  refine x_newarr (ty := 0) (f := .inl (fun _ => 0)) (N := 400) (10, 0) 10 rfl rfl (fun _ _ z => z) wa_int dT_init_8 rfl (by decide) rfl (by decide) (fun _ _ => rfl) (by decide) (by decide) (by simp) (hN.1 _ hf) (fun b e hb => hN.2 b e hb _ hf) (fun v hv a ha hva => by rw [List.mem_singleton.mp ha] at hva; rw [hva] at hv; simp at hv) (fun v hv a ha hva => by rw [List.mem_singleton.mp ha] at hva; rw [hva] at hv; simp at hv) ?_
  have hs1 : x_up h (10, 0) (.inl (0, 400, .inl (fun _ => 0))) (9, 0) = some (.inr (5, [xR none, xI 0])) := by rw [x_up_ne _ _ (by simp)]; exact hs
  refine x_put 13 pT_init_9 dT_init_10 rfl hs1 (x_fit_a _ _) (Nat.le_of_ble_eq_true rfl) ?_
  refine x_aload_n 14 dT_init_13 rfl rfl ?_
  refine x_iconst 0 15 dT_init_14 rfl rfl ?_
  refine x_put 18 pT_init_15 dT_init_15 rfl (x_up_self _ _ _) (x_fit_i _) (Nat.le_of_ble_eq_true rfl) ?_
  exact x_vret dT_init_18 rfl ⟨rfl, by rw [x_up_up]; rfl⟩
theorem cS_init (hs : h (11, 0) = some (.inr (3, [xR none, xR none]))) (hN : NR D h) (hs0 : (11, 0) ∈ D) (hf : (12, 0) ∉ D) (hf2 : (13, 0) ∉ D) : x_C l G mS_init 1 2 130 [xR (some (11, 0))] h [(12, 0), (13, 0)] (x_ex none (fun h1 => h1 = x_up (x_up (x_up (x_up h (12, 0) (.inl (0, 65, .inl (fun _ => 0)))) (11, 0) (.inr (3, [xR (some (12, 0)), xR none]))) (13, 0) (.inl (0, 65, .inl (fun _ => 0)))) (11, 0) (.inr (3, [xR (some (12, 0)), xR (some (13, 0))])))) := by
  refine x_C.at [some (xR (some (11, 0)))] rfl (Nat.le_of_ble_eq_true rfl) rfl ?_
  refine x_aload_n 1 dS_init_0 rfl rfl ?_
  refine x_objInit 4 dS_init_1 rfl jS_3 j_i j_c (by decide) (Nat.le_of_ble_eq_true rfl) ?_
  refine x_aload_n 5 dS_init_4 rfl rfl ?_
  refine x_bipush (65) 7 dS_init_5 rfl rfl ?_
  refine x_newarr (ty := 0) (f := .inl (fun _ => 0)) (N := 65) (12, 0) 9 rfl rfl (fun _ _ z => z) wa_int dS_init_7 rfl (by decide) rfl (by decide) (fun _ _ => rfl) (by decide) (by decide) (by simp) (hN.1 _ hf) (fun b e hb => hN.2 b e hb _ hf) (fun v hv a ha hva => by rw [List.mem_singleton.mp ha] at hva; rw [hva] at hv; simp at hv) (fun v hv a ha hva => by rw [List.mem_singleton.mp ha] at hva; rw [hva] at hv; simp at hv) ?_
  have hs1 : x_up h (12, 0) (.inl (0, 65, .inl (fun _ => 0))) (11, 0) = some (.inr (3, [xR none, xR none])) := by rw [x_up_ne _ _ (by simp)]; exact hs
  refine x_put 12 pS_init_9 dS_init_9 rfl hs1 (x_fit_a _ _) (Nat.le_of_ble_eq_true rfl) ?_
  have hN1 : NR ((12, 0) :: D) (x_up h (12, 0) (.inl (0, 65, .inl (fun _ => 0)))) := hN.add ne_int
  have hN2 := hN1.set (c := (11, 0)) (e := .inr (3, [xR none, xR none].set 0 (xR (some (12, 0))))) (List.mem_cons_of_mem _ hs0) (ne_obj (fun k hk => by have hk : k ∈ [((12 : Nat), (0 : Nat))] := hk; rw [List.mem_singleton.mp hk]; exact List.mem_cons_self))
  have hf3 : (13, 0) ∉ (12, 0) :: D := fun z => by rcases List.mem_cons.mp z with z | z; cases z; exact hf2 z
  refine x_aload_n 13 dS_init_12 rfl rfl ?_
  refine x_bipush (65) 15 dS_init_13 rfl rfl ?_
  refine x_newarr (ty := 0) (f := .inl (fun _ => 0)) (N := 65) (13, 0) 17 rfl rfl (fun _ _ z => z) wa_int dS_init_15 rfl (by decide) rfl (by decide) (fun _ _ => rfl) (by decide) (by decide) (by simp) (hN2.1 _ hf3) (fun b e hb => hN2.2 b e hb _ hf3) (fun v hv a ha hva => by rw [List.mem_singleton.mp ha] at hva; rw [hva] at hv; simp at hv) (fun v hv a ha hva => by rw [List.mem_singleton.mp ha] at hva; rw [hva] at hv; simp at hv) ?_
  refine x_put 20 pS_init_15 dS_init_17 rfl ((x_up_ne _ _ (by simp)).trans (x_up_self _ _ _)) (x_fit_a _ _) (Nat.le_of_ble_eq_true rfl) ?_
  exact x_vret dS_init_20 rfl ⟨rfl, rfl⟩
theorem cB_init {i a b : Nat} (hab : a ≠ b) (hs : h (3, i) = some (.inr (1, [xR none, xR none, xI 0, xI 0]))) (hN : NR D h) (hs0 : (3, i) ∈ D) (hf : (4, a) ∉ D) (hf2 : (4, b) ∉ D) : x_C l G mB_init 2 2 2 [xR (some (3, i))] h [(4, a), (4, b)] (x_ex none (fun h1 => h1 = x_up (x_up (x_up (x_up h (4, a) (.inr (4, [xR none]))) (3, i) (.inr (1, [xR (some (4, a)), xR none, xI 0, xI 0]))) (4, b) (.inr (4, [xR none]))) (3, i) (.inr (1, [xR (some (4, a)), xR (some (4, b)), xI 0, xI 32])))) := by
  refine x_C.at [some (xR (some (3, i)))] rfl (Nat.le_of_ble_eq_true rfl) rfl ?_
  refine x_aload_n 1 dB_init_0 rfl rfl ?_
  refine x_objInit 4 dB_init_1 rfl jB_3 j_i j_c (by decide) (Nat.le_of_ble_eq_true rfl) ?_
  refine x_aload_n 5 dB_init_4 rfl rfl ?_
  refine x_new (4, a) 8 nB_init_9 dB_init_5 rfl (by decide) (by decide) (by simp) (hN.1 _ hf) (fun b e hb => hN.2 b e hb _ hf) (fun v hv a ha hva => by rw [List.mem_singleton.mp ha] at hva; rw [hva] at hv; simp at hv) (fun v hv a ha hva => by rw [List.mem_singleton.mp ha] at hva; rw [hva] at hv; simp at hv) ?_
  refine x_dup 9 dB_init_8 rfl rfl ?_
  refine x_aIN 12 (cD_init (x_up_self _ _ _)) kB_11 oD_init dB_init_9 rfl rfl (by decide) (Nat.zero_le _) (Nat.zero_le _) (Nat.le_of_ble_eq_true rfl) (fun _ q => nomatch q) (fun _ _ _ q => nomatch q) (fun _ _ _ q => nomatch q) (fun h1 hq => ?_)
  subst hq
  rw [x_up_up]
  have hs1 : x_up h (4, a) (.inr (4, [xR none])) (3, i) = some (.inr (1, [xR none, xR none, xI 0, xI 0])) := by rw [x_up_ne _ _ (by simp)]; exact hs
  refine x_put 15 pB_init_12 dB_init_12 rfl hs1 (x_fit_o _ _) (Nat.le_of_ble_eq_true rfl) ?_
  have hN1 : NR ((4, a) :: D) (x_up h (4, a) (.inr (4, [xR none]))) := hN.add (no_obj 4 _ rfl)
  have hN2 := hN1.set (c := (3, i)) (e := .inr (1, [xR none, xR none, xI 0, xI 0].set 0 (xR (some (4, a))))) (List.mem_cons_of_mem _ hs0) (ne_obj (fun k hk => by have hk : k ∈ [((4 : Nat), a)] := hk; rw [List.mem_singleton.mp hk]; exact List.mem_cons_self))
  have hf3 : (4, b) ∉ (4, a) :: D := fun z => by rcases List.mem_cons.mp z with z | z; cases z; exact hab rfl; exact hf2 z
  refine x_aload_n 16 dB_init_15 rfl rfl ?_
  refine x_new (4, b) 19 nB_init_9 dB_init_16 rfl (by decide) (by decide) (by simp) (hN2.1 _ hf3) (fun b e hb => hN2.2 b e hb _ hf3) (fun v hv a ha hva => by rw [List.mem_singleton.mp ha] at hva; rw [hva] at hv; simp at hv) (fun v hv a ha hva => by rw [List.mem_singleton.mp ha] at hva; rw [hva] at hv; simp at hv) ?_
  refine x_dup 20 dB_init_19 rfl rfl ?_
  refine x_aIN 23 (cD_init (x_up_self _ _ _)) kB_11 oD_init dB_init_20 rfl rfl (by decide) (Nat.zero_le _) (Nat.zero_le _) (Nat.le_of_ble_eq_true rfl) (fun _ q => nomatch q) (fun _ _ _ q => nomatch q) (fun _ _ _ q => nomatch q) (fun h1 hq => ?_)
  subst hq
  rw [x_up_up]
  refine x_put 26 pB_init_18 dB_init_23 rfl ((x_up_ne _ _ (by simp)).trans (x_up_self _ _ _)) (x_fit_o _ _) (Nat.le_of_ble_eq_true rfl) ?_
  refine x_aload_n 27 dB_init_26 rfl rfl ?_
  refine x_iconst 0 28 dB_init_27 rfl rfl ?_
  refine x_put 31 pB_init_21 dB_init_28 rfl (x_up_self _ _ _) (fun _ => ⟨rfl, rfl⟩) (Nat.le_of_ble_eq_true rfl) ?_
  refine x_aload_n 32 dB_init_31 rfl rfl ?_
  refine x_bipush (32) 34 dB_init_32 rfl rfl ?_
  refine x_put 37 pB_init_25 dB_init_34 rfl (x_up_self _ _ _) (x_fit_i _) (Nat.le_of_ble_eq_true rfl) ?_
  exact x_vret dB_init_37 rfl ⟨rfl, by rw [x_up_up, x_up_up]; rfl⟩
end MG
