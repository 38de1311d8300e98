def R_law : String := "CallMarketLaw"
def lw_At (p : Program) (s : State) (m : MethodId) (meth : Method) (c : Code) (b L : Nat) (xs : Nat → Int32) : Prop :=
  p.tables.exec = Jvm.exec ∧ c.code = code ∧ meth.sig.returnType = ret ∧ c.maxLocals = 4 ∧ s.vm.findClass R_law = some m.cls ∧ (∀ w ∈ lw_tbl, w.before #[Value.ref b] s = true) ∧ va_X b L xs s s.heap ∧ b < s.heap.size ∧ meth.locks = false ∧ (Jvm.Cond.and given_1 narrow_1).before #[Value.ref b] s = true
theorem x_arr1 {s : State} {args : Array Value} {ty : FieldType} (h : (Cond.arrayClass ty).before args s = true) : ∃ cA : ClassId, ArrOfT s cA ty ∧ s.vm.findClass ("[" ++ ty.toString) = some cA := by
  obtain ⟨c, k, comp, h1, h2, h3⟩ := Cond.arrayClass_spec h
  exact ⟨c, fun n z => ⟨fun k h => (by cases h), k, h2, comp, h3⟩, h1⟩
theorem x_arr2 {s : State} {args : Array Value} {C : String} (h : (Cond.arrayOver (.object C)).before args s = true) : ∃ cA : ClassId, ArrOfT s cA (.object C) ∧ va_RA s cA (.object C) := by
  obtain ⟨comp, c, k, h1, -, h2, h3, h4⟩ := Cond.arrayOver_spec h
  exact ⟨c, fun n z => ⟨fun k h => (by cases h), k, h2, comp, h3⟩, k, comp, h2, h3, h1, h4⟩
theorem x_start {p : Program} {s : State} {m : MethodId} {meth : Method} {c : Code} {b L : Nat} {xs : Nat → Int32} (C0 : lw_At p s m meth c b L xs) : ∃ G : xG, G.2.2.1 = s.heap.size ∧ G.2.2.2.1.2 = b ∧ G.2.2.2.2.1 = L ∧ G.2.2.2.2.2 = xs ∧ x_K G s ∧ x_N s ∧ x_Z G s s.heap := by
  obtain ⟨-, -, -, -, -, hts, hX, hbl, -, hgv⟩ := C0
  have hwA : ∀ w ∈ wsA, w.before #[Value.ref b] s = true := fun w hw => hts w (List.mem_filter.mp hw).1
  have at_ : ∀ (i : Nat) (w : Cond), lw_tbl[i]? = some w → w.before #[Value.ref b] s = true := fun i w h => hts w (List.mem_of_getElem? h)
  obtain ⟨cA, iA, kA⟩ := u_known (n := 3) hwA uA (at_ 79 (Cond.instantiable RA 3) (by decide +kernel))
  obtain ⟨cB, iB, kB⟩ := u_known (n := 4) hwA uB (at_ 97 (Cond.instantiable RB 4) (by decide +kernel))
  obtain ⟨cO, iO, kO⟩ := u_known (n := 10) hwA uO (at_ 202 (Cond.instantiable RO 10) (by decide +kernel))
  obtain ⟨cS, iS, kS⟩ := u_known (n := 2) hwA uS (at_ 67 (Cond.instantiable RS 2) (by decide +kernel))
  obtain ⟨cD, iD, kD⟩ := u_known (n := 1) hwA uD (at_ 103 (Cond.instantiable RD 1) (by decide +kernel))
  obtain ⟨cT, iT, kT⟩ := u_known (n := 2) hwA uT (at_ 52 (Cond.instantiable RT 2) (by decide +kernel))
  obtain ⟨cC, iC, kC⟩ := u_known (n := 6) hwA uC (at_ 38 (Cond.instantiable RC 6) (by decide +kernel))
  obtain ⟨cR, iR, kR⟩ := u_known (n := 21) hwA uR (at_ 471 (Cond.instantiable RR 21) (by decide +kernel))
  obtain ⟨a0, a0a, a0b⟩ := x_arr1 (ty := .int) (at_ 65 (Cond.arrayClass .int) (by decide +kernel))
  obtain ⟨a1, a1a, a1b⟩ := x_arr1 (ty := .long) (at_ 540 (Cond.arrayClass .long) (by decide +kernel))
  obtain ⟨a2, a2a, a2b⟩ := x_arr1 (ty := .boolean) (at_ 541 (Cond.arrayClass .boolean) (by decide +kernel))
  have o3 := at_ 46 (Cond.arrayOver (.object "CallMarket$Account")) (by decide +kernel)
  have o4 := at_ 48 (Cond.arrayOver (.object "CallMarket$Book")) (by decide +kernel)
  have o5 := at_ 50 (Cond.arrayOver (.object "CallMarket$Order")) (by decide +kernel)
  obtain ⟨a3, a3a, a3b⟩ := x_arr2 o3
  obtain ⟨a4, a4a, a4b⟩ := x_arr2 o4
  obtain ⟨a5, a5a, a5b⟩ := x_arr2 o5
  have hs := flat_of_before _ hgv
  have g1 : (Cond.arrayOf (.static "CallMarket" "RISK_RATES" "[I") .int).before #[Value.ref b] s = true := hs _ (by decide +kernel)
  have g2 : (Cond.eq (.length (.static "CallMarket" "RISK_RATES" "[I")) (.int 2)).before #[Value.ref b] s = true := hs _ (by decide +kernel)
  have g3 : (Cond.eq (.elem (.static "CallMarket" "RISK_RATES" "[I") (.int 0)) (.int 3)).before #[Value.ref b] s = true := hs _ (by decide +kernel)
  have g4 : (Cond.eq (.elem (.static "CallMarket" "RISK_RATES" "[I") (.int 1)) (.int 5)).before #[Value.ref b] s = true := hs _ (by decide +kernel)
  have hAz : ∀ a : Nat, a < s.heap.size → ¬ s.heap.size ≤ a := fun a h => Nat.not_le.mpr h
  obtain ⟨t, t1, t2⟩ := va_Tof (tm := .static "CallMarket" "RISK_RATES" "[I") (ty := .int) (N := 2) (f := x_rt) (A := fun q => s.heap.size ≤ q) (by decide) g1 (va_eqt g2) (fun j hj => by
    match j, hj with
    | 0, _ => exact va_eqt g3
    | 1, _ => exact va_eqt g4) hAz
  have hZ := va_Zof (A := fun q => s.heap.size ≤ q) (at_ 176 (Cond.laysStatic "CallMarket" "RISK_RATES" "[I") (by decide +kernel)) (at_ 27 (Cond.initialized "CallMarket") (by decide +kernel)) t1 hAz
  refine ⟨((fun n => match n with | 0 => cA | 1 => cB | 2 => cO | 3 => cS | 4 => cD | 5 => cT | 6 => cC | _ => cR, fun n => match n with | 0 => iA | 1 => iB | 2 => iO | 3 => iS | 4 => iD | 5 => iT | 6 => iC | _ => iR), (fun n => match n with | 0 => a0 | 1 => a1 | 2 => a2 | 3 => a3 | 4 => a4 | _ => a5), s.heap.size, (t, b), (L, xs)), rfl, rfl, rfl, rfl, ⟨fun c q hq => ?_, fun i ty hi => ?_⟩, ⟨fun q hq => ?_, va_AO.of o3, va_AO.of o4, va_AO.of o5⟩, hZ, t2, hX, hbl, hbl⟩
  · match c, hq with
    | 0, hq => cases hq; exact kA
    | 1, hq => cases hq; exact kB
    | 2, hq => cases hq; exact kO
    | 3, hq => cases hq; exact kS
    | 4, hq => cases hq; exact kD
    | 5, hq => cases hq; exact kT
    | 6, hq => cases hq; exact kC
    | 7, hq => cases hq; exact kR
    | c + 8, hq => simp at hq
  · match i, hi with
    | 0, hi => cases hi; exact ⟨a0a, a0b⟩
    | 1, hi => cases hi; exact ⟨a1a, a1b⟩
    | 2, hi => cases hi; exact ⟨a2a, a2b⟩
    | 3, hi => cases hi; exact ⟨a3a, a3b⟩
    | 4, hi => cases hi; exact ⟨a4a, a4b⟩
    | 5, hi => cases hi; exact ⟨a5a, a5b⟩
    | i + 6, hi => simp at hi
  · simp only [xNs, List.mem_cons, List.not_mem_nil, or_false] at hq
    rcases hq with rfl | rfl | rfl | rfl | rfl | rfl | rfl
    · exact va_tabs rfl rfl (at_ 104 (Cond.methodLinkNest "CallMarket$Book" 11 ⟨"CallMarket$Side", "<init>", "()V"⟩ "CallMarket") (by decide +kernel))
    · exact va_tabs rfl rfl (at_ 207 (Cond.methodLinkNest "CallMarket$Order" 31 ⟨"CallMarket", "sideOf", "(I)I"⟩ "CallMarket") (by decide +kernel))
    · exact va_tabs rfl rfl (at_ 208 (Cond.methodLinkNest "CallMarket$Order" 38 ⟨"CallMarket", "kindOf", "(I)I"⟩ "CallMarket") (by decide +kernel))
    · exact va_tabs rfl rfl (at_ 53 (Cond.methodLinkNest "CallMarket" 29 ⟨"CallMarket$Tape", "<init>", "()V"⟩ "CallMarket") (by decide +kernel))
    · exact va_tabs rfl rfl (at_ 68 (Cond.methodLinkNest "CallMarket" 36 ⟨"CallMarket$Scale", "<init>", "()V"⟩ "CallMarket") (by decide +kernel))
    · exact va_tabs rfl rfl (at_ 80 (Cond.methodLinkNest "CallMarket" 45 ⟨"CallMarket$Account", "<init>", "()V"⟩ "CallMarket") (by decide +kernel))
    · exact va_tabs rfl rfl (at_ 98 (Cond.methodLinkNest "CallMarket" 46 ⟨"CallMarket$Book", "<init>", "()V"⟩ "CallMarket") (by decide +kernel))
