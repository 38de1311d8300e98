section XC
variable {l : Launch} {G : xG} {M M' : xM} {d kc ks d' kc' ks' : Nat} {nk nk' : List xQ} {Q Q' : Option xV → xH → Prop} {pc index : Nat} {L : List (Option xV)} {st st0 As : List xV} {h : xH}
theorem x_In.blind {z : xZ} {U : State} (g : JFrame) (mk : MethodId) (a : Array Value) (q : x_In G z h U) : x_In G z h (U.calling g mk a) := ⟨q.1, q.2.1.moved (Vm.Alike.refl U.vm), x_N_same (U := U.calling g mk a) rfl q.2.2.1, x_Z_moved (U := U.calling g mk a) (Vm.Alike.refl U.vm) q.2.2.2.1, q.2.2.2.2⟩
theorem x_blind (z : xZ) (av : List xV) : FrameBlind (va_Pc (x_s z av) (x_In G z h)) := fun a U g mk q => ⟨q.1, q.2.blind g mk a⟩
/-- the world at the call -/
theorem x_at {p : Program} {R : Room} {s : State} {m : MethodId} {args : Array Value} {meth : Method} {c : Code} {H : Heap} {locs : List Loc} {z : xZ} (C : x_Cx p G M R s m args meth c d) (hW : x_W G z h H) (hS : va_S (x_A G) s.heap H locs) (U : State) (hU : U.heap = H) (hw : s.WarmedH U.vm) : x_In G z h U := by
  obtain ⟨hx, hb, hml, hown, hret, hlk, hnm, hts, hfr, hlo, hK, hN, hZ, hA⟩ := C
  refine ⟨by rw [hU]; exact hW, hK.moved hw.alike, x_N_warm hw hN, ?_, by rw [hU]; exact Nat.le_trans hA hS.1⟩
  rw [hU]
  exact x_Z_moved hw.alike (x_Z_kept hZ hS.1 (fun q h1 h2 => hS.2.1 q h1 h2))
/-- behind a call -/
theorem x_after {p : Program} {e : Env} {R : Room} {s : State} {m : MethodId} {args a : Array Value} {below : List Frame} {meth : Method} {c : Code} {H : Heap} {locs : List Loc} {cells slots mc ms : Nat} {ls : Array Slot} {z0 z : xZ}
    (hr : va_Run p l e R s m args below meth c H locs cells slots kc' ks' (F0 m pc ls (x_s z st0)) (x_s z st) (x_Qc G z nk' Q' a) (x_A G)) (C : x_Cx p G M R s m args meth c d) (hc : cells + kc ≤ mc ∧ slots + ks ≤ ms ∧ mc ≤ R.cells ∧ ms ≤ R.slots) (hz : ∀ a : xQ, a ∉ nk → z a = z0 a) (h1 : kc' ≤ kc) (h2 : ks' ≤ ks) (hS : va_S (x_A G) s.heap H locs) (hL : x_L ls M.2.2.1 z L)
    (hnk : ∀ a ∈ nk', a ∈ nk) (hfS : x_far nk' st) (hfL : x_farL nk' L)
    (kk : ∀ (r : Option xV) (h1 : xH), Q' r h1 → x_X l G M d (kc - kc') (ks - ks') nk Q (pc + 3) L (r.toList ++ st) h1) : W p l e R s m args below meth c H locs cells slots (MQ below (x_Qc G z0 nk Q) args s mc ms (x_A G)) (F0 m pc ls (x_s z st0)) := by
  intro T hT X
  obtain ⟨v, st₀, t, T', Lo, h0, X', hLo, e1, e2, ⟨r, h', z', hv, hq, hW', ⟨hsz, hk⟩, hz'⟩, stp⟩ := hr T hT X
  cases hv
  rw [h0] at hsz hk
  obtain ⟨t2, a1, b1⟩ := kk r h' hq p e R s m args below meth c T'.heap (locs ++ Lo) (cells + kc') (slots + ks') mc ms ls z0 z' C ⟨by omega, by omega, hc.2.2.1, hc.2.2.2⟩ (fun b hb => (hz' b (fun q => hb (hnk b q))).trans (hz b hb)) (by rw [e1]; exact hW')
    ⟨Nat.le_trans hS.1 (by rw [e1]; exact hsz), fun q g1 g2 => by rw [e1, hk q (Nat.lt_of_lt_of_le g1 hS.1) g2]; exact hS.2.1 q g1 g2, fun q hq => by
      rcases List.mem_append.mp hq with g | g
      · exact hS.2.2 q g
      · exact hLo q g⟩ (hL.re hz' hfL) T' rfl X'
  refine ⟨t2, stp t2 ?_, b1⟩
  have hs : x_s z' (r.toList ++ st) = (r.map (x_v z')).toList ++ x_s z st := by
    rw [← x_s_same hz' hfS]
    cases r <;> rfl
  rw [hs] at a1
  exact a1
/-- the callee: its code's word is there, its name is a plain one, it takes n arguments beside the receiver, it has few locals -/
def x_ok1 (M' : xM) (n : Nat) : Prop := Cond.code M'.1 M'.2.1 M'.2.2.1 M'.2.2.2 ∈ wsA ∧ (M'.1.cls ≠ "java/lang/invoke/MethodHandle" ∧ M'.1.cls ≠ "java/lang/invoke/VarHandle" ∧ (parseMethodDescriptor M'.1.desc).map (fun d => d.parameters.length) = some n) ∧ M'.2.2.1 ≤ 17
theorem x_good {w : Cond} (h : w ∈ wsA) : w ∈ wsA ∧ ((w.onTables && w.keeps) = true ∨ ∃ ty, w = .arrayClass ty) := ⟨h, good_of_word (List.mem_filter.mp h).2⟩
theorem x_goodIn {ws : List Cond} (h : ∀ w ∈ ws, w ∈ wsA) : GoodIn wsA ws := fun w hw => x_good (h w hw)
theorem x_gc {c : Cond} (h : c ∈ wsA) : GoodIn wsA (c :: wsA) := x_goodIn (fun w hw => (List.mem_cons.mp hw).elim (fun e => e ▸ h) (fun z => z))
/-- links of calls: by a receiver of its class, of a static method, of a constructor; and of nest mates' -/
def x_kV (own : String) (index : Nat) (M' : xM) : Prop := Cond.methodLink own index M'.1 ∈ wsA ∧ Cond.instanceMethod M'.1 ∈ wsA ∧ Cond.selects M'.1.cls M'.1 M'.1 ∈ wsA ∧ Cond.initialized M'.1.cls ∈ wsA
def x_kS (own : String) (index : Nat) (M' : xM) : Prop := Cond.methodLink own index M'.1 ∈ wsA ∧ Cond.static M'.1 ∈ wsA ∧ Cond.initialized M'.1.cls ∈ wsA
def x_kI (own : String) (index : Nat) (M' : xM) : Prop := Cond.methodLink own index M'.1 ∈ wsA ∧ Cond.instanceMethod M'.1 ∈ wsA ∧ Cond.initialized M'.1.cls ∈ wsA ∧ M'.1.name = "<init>" ∧ M'.2.2.2 = none
def x_kSN (own : String) (index : Nat) (M' : xM) (host : String) : Prop := (own, index, M'.1, host) ∈ xNs ∧ Cond.static M'.1 ∈ wsA ∧ Cond.initialized M'.1.cls ∈ wsA
def x_kIN (own : String) (index : Nat) (M' : xM) (host : String) : Prop := (own, index, M'.1, host) ∈ xNs ∧ Cond.instanceMethod M'.1 ∈ wsA ∧ Cond.initialized M'.1.cls ∈ wsA ∧ M'.1.name = "<init>" ∧ M'.2.2.2 = none
theorem x_callV {ci : Nat} {b : xQ} {fs : List xV} {T : u_T} {N : Nat} (t : Nat) (hM : x_C l G M' d' kc' ks' (xR (some b) :: As) h nk' Q') (hg : x_kV M.1.cls index M') (ho : x_ok1 M' As.length) (hcl : vwCl[ci]? = some (M'.1.cls, T, N)) (he : h b = some (.inr (ci, fs))) (hd : decode M.2.1 pc = .ok (.invokevirtual index, 3)) (ht : pc + 3 = t) (hst : st0 = As.reverse ++ xR (some b) :: st) (hdd : d' + 1 ≤ d) (h1 : kc' ≤ kc) (h2 : ks' ≤ ks) (h8 : (st.map x_cat).sum ≤ 8)
    (hnk : ∀ a ∈ nk', a ∈ nk) (hfS : x_far nk' st) (hfL : x_farL nk' L)
    (kk : ∀ (r : Option xV) (h1 : xH), Q' r h1 → x_X l G M d (kc - kc') (ks - ks') nk Q t L (r.toList ++ st) h1) : x_X l G M d kc ks nk Q pc L st0 h := by
  subst ht
  intro p e R s m args below meth c H locs cells slots mc ms ls z0 z C hc hz hW hS hL
  have C' := C
  obtain ⟨hx, hb, hml, hown, hret, hlk, hnm, hts, hfr, hlo, hK, hN⟩ := C'
  obtain ⟨hcode, hn, hnl⟩ := ho
  have hR1 : d' + 1 ≤ R.frames := by omega
  have hR2 : 8 + (M'.2.2.1 + 11) + 36 * d' ≤ R.locals := by omega
  obtain ⟨g1, g2, g3, g4⟩ := hg
  have hG : GoodIn wsA (wsV M.1.cls index M'.1.cls M'.1 (Cond.code M'.1 M'.2.1 M'.2.2.1 M'.2.2.2 :: wsA)) := x_goodIn (fun w hw => by
    rcases List.mem_append.mp hw with h | h
    · simp only [List.mem_cons, List.not_mem_nil, or_false] at h
      rcases h with rfl | rfl | rfl | rfl
      · exact g1
      · exact g2
      · exact g3
      · exact g4
    · exact (x_gc hcode w h).1)
  have hrecv : ∃ cell : Cell, H[z b]? = some cell ∧ cell.vm.isStatics = false ∧ s.vm.findClass M'.1.cls = some cell.cls := va_recv (ws := [(z b, x_e G z (.inr (ci, fs)))]) hK.no (x_P1 hW he) hcl (q0 := 0) rfl
  have hrun := va_runV (b := z b) (As := x_s z As) (rest := x_s z st) (g := F0 m pc ls (x_s z st0)) (below := below) (e := e) (locs := locs) (meth := meth) (cells := cells) (slots := slots) ⟨hx, hb, hml, hown, hts⟩ (hM z) (cwV As.length hts hG rfl rfl rfl ⟨rfl, hn⟩ ⟨hR1, hR2⟩)
    ⟨x_blind z _, hrecv, fun U hU hw => ⟨rfl, x_at C hW hS U hU hw⟩⟩ rfl (by simp) hL.1 (by subst hst; simp [va_rf, x_v]) (lv_room (by rw [x_sum]; exact h8)) hd ⟨by omega, by omega⟩
  exact x_after hrun C hc hz h1 h2 hS hL hnk hfS hfL kk
theorem x_callS (t : Nat) (hM : x_C l G M' d' kc' ks' As h nk' Q') (hg : x_kS M.1.cls index M') (ho : x_ok1 M' As.length) (hd : decode M.2.1 pc = .ok (.invokestatic index, 3)) (ht : pc + 3 = t) (hst : st0 = As.reverse ++ st) (hdd : d' + 1 ≤ d) (h1 : kc' ≤ kc) (h2 : ks' ≤ ks) (h8 : (st.map x_cat).sum ≤ 8)
    (hnk : ∀ a ∈ nk', a ∈ nk) (hfS : x_far nk' st) (hfL : x_farL nk' L)
    (kk : ∀ (r : Option xV) (h1 : xH), Q' r h1 → x_X l G M d (kc - kc') (ks - ks') nk Q t L (r.toList ++ st) h1) : x_X l G M d kc ks nk Q pc L st0 h := by
  subst ht
  intro p e R s m args below meth c H locs cells slots mc ms ls z0 z C hc hz hW hS hL
  have C' := C
  obtain ⟨hx, hb, hml, hown, hret, hlk, hnm, hts, hfr, hlo, hK, hN⟩ := C'
  obtain ⟨hcode, hn, hnl⟩ := ho
  have hR1 : d' + 1 ≤ R.frames := by omega
  have hR2 : 8 + (M'.2.2.1 + 11) + 36 * d' ≤ R.locals := by omega
  obtain ⟨g1, g2, g3⟩ := hg
  have hG : GoodIn wsA (va_wsS M.1.cls index M'.1 (Cond.code M'.1 M'.2.1 M'.2.2.1 M'.2.2.2 :: wsA)) := x_goodIn (fun w hw => by
    rcases List.mem_append.mp hw with h | h
    · simp only [List.mem_cons, List.not_mem_nil, or_false] at h
      rcases h with rfl | rfl | rfl
      · exact g1
      · exact g2
      · exact g3
    · exact (x_gc hcode w h).1)
  have hrun := va_runS (As := x_s z As) (rest := x_s z st) (g := F0 m pc ls (x_s z st0)) (below := below) (e := e) (locs := locs) (meth := meth) (cells := cells) (slots := slots) ⟨hx, hb, hml, hown, hts⟩ (hM z) (va_cwS As.length hts hG rfl rfl rfl hn ⟨hR1, hR2⟩)
    ⟨x_blind z _, fun U hU hw => ⟨rfl, x_at C hW hS U hU hw⟩⟩ rfl (by simp) hL.1 (by subst hst; simp) (lv_room (by rw [x_sum]; exact h8)) hd ⟨by omega, by omega⟩
  exact x_after hrun C hc hz h1 h2 hS hL hnk hfS hfL kk
theorem x_callI {b : xQ} (t : Nat) (hM : x_C l G M' d' kc' ks' (xR (some b) :: As) h nk' Q') (hg : x_kI M.1.cls index M') (ho : x_ok1 M' As.length) (hd : decode M.2.1 pc = .ok (.invokespecial index, 3)) (ht : pc + 3 = t) (hst : st0 = As.reverse ++ xR (some b) :: st) (hdd : d' + 1 ≤ d) (h1 : kc' ≤ kc) (h2 : ks' ≤ ks) (h8 : (st.map x_cat).sum ≤ 8)
    (hnk : ∀ a ∈ nk', a ∈ nk) (hfS : x_far nk' st) (hfL : x_farL nk' L)
    (kk : ∀ (r : Option xV) (h1 : xH), Q' r h1 → x_X l G M d (kc - kc') (ks - ks') nk Q t L (r.toList ++ st) h1) : x_X l G M d kc ks nk Q pc L st0 h := by
  subst ht
  intro p e R s m args below meth c H locs cells slots mc ms ls z0 z C hc hz hW hS hL
  have C' := C
  obtain ⟨hx, hb, hml, hown, hret, hlk, hnm, hts, hfr, hlo, hK, hN⟩ := C'
  obtain ⟨hcode, hn, hnl⟩ := ho
  have hR1 : d' + 1 ≤ R.frames := by omega
  have hR2 : 8 + (M'.2.2.1 + 11) + 36 * d' ≤ R.locals := by omega
  obtain ⟨g1, g2, g3, g4, g5⟩ := hg
  have hM' := hM z
  rw [g5] at hM' hcode
  have hrun := va_runI (b := z b) (As := x_s z As) (rest := x_s z st) (g := F0 m pc ls (x_s z st0)) (below := below) (e := e) (locs := locs) (meth := meth) (cells := cells) (slots := slots) ⟨hx, hb, hml, hown, hts⟩ hM' (cwI As.length hts (x_gc hcode) rfl rfl rfl (hts _ g3) (hts _ g1) (hts _ g2) g4 hn ⟨hR1, hR2⟩)
    ⟨x_blind z _, fun U hU hw => ⟨rfl, x_at C hW hS U hU hw⟩⟩ rfl (by simp) hL.1 (by subst hst; simp [va_rf, x_v]) (lv_room (by rw [x_sum]; exact h8)) hd ⟨by omega, by omega⟩
  exact x_after hrun C hc hz h1 h2 hS hL hnk hfS hfL kk
theorem x_callSN {host : String} (t : Nat) (hM : x_C l G M' d' kc' ks' As h nk' Q') (hg : x_kSN M.1.cls index M' host) (ho : x_ok1 M' As.length) (hd : decode M.2.1 pc = .ok (.invokestatic index, 3)) (ht : pc + 3 = t) (hst : st0 = As.reverse ++ st) (hdd : d' + 1 ≤ d) (h1 : kc' ≤ kc) (h2 : ks' ≤ ks) (h8 : (st.map x_cat).sum ≤ 8)
    (hnk : ∀ a ∈ nk', a ∈ nk) (hfS : x_far nk' st) (hfL : x_farL nk' L)
    (kk : ∀ (r : Option xV) (h1 : xH), Q' r h1 → x_X l G M d (kc - kc') (ks - ks') nk Q t L (r.toList ++ st) h1) : x_X l G M d kc ks nk Q pc L st0 h := by
  subst ht
  intro p e R s m args below meth c H locs cells slots mc ms ls z0 z C hc hz hW hS hL
  have C' := C
  obtain ⟨hx, hb, hml, hown, hret, hlk, hnm, hts, hfr, hlo, hK, hN, hZ, hA⟩ := C'
  obtain ⟨hcode, hn, hnl⟩ := ho
  have hR1 : d' + 1 ≤ R.frames := by omega
  have hR2 : 8 + (M'.2.2.1 + 11) + 36 * d' ≤ R.locals := by omega
  obtain ⟨g1, g2, g3⟩ := hg
  have hrun := va_runSN (As := x_s z As) (rest := x_s z st) (g := F0 m pc ls (x_s z st0)) (below := below) (e := e) (locs := locs) (meth := meth) (cells := cells) (slots := slots) ⟨hx, hb, hml, hown, hts⟩ (hM z) ⟨va_cnB As.length hts (x_gc hcode) rfl rfl rfl (hN.1 _ g1) (hts _ g3) hn ⟨hR1, hR2⟩, hts _ g2, trivial⟩
    ⟨x_blind z _, fun U hU hw => ⟨rfl, x_at C hW hS U hU hw⟩⟩ rfl (by simp) hL.1 (by subst hst; simp) (lv_room (by rw [x_sum]; exact h8)) hd ⟨by omega, by omega⟩
  exact x_after hrun C hc hz h1 h2 hS hL hnk hfS hfL kk
theorem x_callIN {host : String} {b : xQ} (t : Nat) (hM : x_C l G M' d' kc' ks' (xR (some b) :: As) h nk' Q') (hg : x_kIN M.1.cls index M' host) (ho : x_ok1 M' As.length) (hd : decode M.2.1 pc = .ok (.invokespecial index, 3)) (ht : pc + 3 = t) (hst : st0 = As.reverse ++ xR (some b) :: st) (hdd : d' + 1 ≤ d) (h1 : kc' ≤ kc) (h2 : ks' ≤ ks) (h8 : (st.map x_cat).sum ≤ 8)
    (hnk : ∀ a ∈ nk', a ∈ nk) (hfS : x_far nk' st) (hfL : x_farL nk' L)
    (kk : ∀ (r : Option xV) (h1 : xH), Q' r h1 → x_X l G M d (kc - kc') (ks - ks') nk Q t L (r.toList ++ st) h1) : x_X l G M d kc ks nk Q pc L st0 h := by
  subst ht
  intro p e R s m args below meth c H locs cells slots mc ms ls z0 z C hc hz hW hS hL
  have C' := C
  obtain ⟨hx, hb, hml, hown, hret, hlk, hnm, hts, hfr, hlo, hK, hN, hZ, hA⟩ := C'
  obtain ⟨hcode, hn, hnl⟩ := ho
  have hR1 : d' + 1 ≤ R.frames := by omega
  have hR2 : 8 + (M'.2.2.1 + 11) + 36 * d' ≤ R.locals := by omega
  obtain ⟨g1, g2, g3, g4, g5⟩ := hg
  have hM' := hM z
  rw [g5] at hM' hcode
  have hrun := va_runIN (b := z b) (As := x_s z As) (rest := x_s z st) (g := F0 m pc ls (x_s z st0)) (below := below) (e := e) (locs := locs) (meth := meth) (cells := cells) (slots := slots) ⟨hx, hb, hml, hown, hts⟩ hM' ⟨va_cnB As.length hts (x_gc hcode) rfl rfl rfl (hN.1 _ g1) (hts _ g3) hn ⟨hR1, hR2⟩, g4, hts _ g2⟩
    ⟨x_blind z _, fun U hU hw => ⟨rfl, x_at C hW hS U hU hw⟩⟩ rfl (by simp) hL.1 (by subst hst; simp [va_rf, x_v]) (lv_room (by rw [x_sum]; exact h8)) hd ⟨by omega, by omega⟩
  exact x_after hrun C hc hz h1 h2 hS hL hnk hfS hfL kk
end XC
