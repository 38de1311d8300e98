theorem x_sum (z : xZ) (st : List xV) : ((x_s z st).map fun v => v.category).sum = (st.map x_cat).sum := by
  rw [List.map_map]
  congr 1
  exact List.map_congr_left (fun v _ => x_cat_v z v)
section XH
variable {l : Launch} {G : xG} {M : xM} {d kc ks : Nat} {nk : List xQ} {Q : Option xV → xH → Prop} {pc : Nat} {L : List (Option xV)} {st : List xV} {h : xH}
/-- a field's link: the class's place, the field's place -/
def x_fl (own : String) (index ci k : Nat) : Prop := ∃ (C : String) (T : u_T) (N : Nat), vwCl[ci]? = some (C, T, N) ∧ (∀ w ∈ u_ws C T N, w ∈ wsA) ∧ k < N ∧ Cond.fieldLink own index (T k).1 (T k).2.1 (T k).2.2.1 ∈ wsA
theorem x_get {index ci k : Nat} {a : xQ} {fs : List xV} (v : xV) (t : Nat) (hf : x_fl M.1.cls index ci k) (hd : decode M.2.1 pc = .ok (.getfield index, 3)) (ht : pc + 3 = t) (he : h a = some (.inr (ci, fs))) (hv : fs[k]? = some v) (kk : x_X l G M d kc ks nk Q t L (v :: st) h) : x_X l G M d kc ks nk Q pc L (xR (some a) :: st) h := by
  subst ht
  obtain ⟨C0, T, N, hc0, hin, hk, hl⟩ := hf
  intro p e R s m args below meth c H locs cells slots mc ms ls z0 z C hc hz hW hS hL
  have C' := C
  obtain ⟨hx, hb, hml, hown, hret, hlk, hnm, hts, hfr, hlo, hK, hN⟩ := C'
  exact va_get (D := G.1) (cl := vwCl) (ws := [(z a, x_e G z (.inr (ci, fs)))]) (v := x_v z v) (rest := x_s z st) hx hb hts hin hown hK.no (x_P1 hW he) 0 rfl hc0 k hk (hts _ hl) (fun _ h9 => h9) (by rw [List.getElem?_map, hv]; rfl) hd (kk p e R s m args below meth c H locs cells slots mc ms ls z0 z C hc hz hW hS hL)
def x_fit (ty : FieldType) (v : xV) : Prop := ∀ z : xZ, narrow ty (x_v z v) = x_v z v ∧ fits ty (x_v z v) = true
theorem x_fit_i (x : Int32) : x_fit .int (xI x) := fun _ => ⟨rfl, rfl⟩
theorem x_fit_l (x : Int64) : x_fit .long (xJ x) := fun _ => ⟨rfl, rfl⟩
theorem x_fit_o (C : String) (q : Option xQ) : x_fit (.object C) (xR q) := fun _ => by cases q <;> exact ⟨rfl, rfl⟩
theorem x_fit_a (t : FieldType) (q : Option xQ) : x_fit (.array t) (xR q) := fun _ => by cases q <;> exact ⟨rfl, rfl⟩
/-- a field that may be written: its type -/
def x_pl (M : xM) (index ci k : Nat) (ty : FieldType) : Prop := ∃ (C : String) (T : u_T) (N : Nat) (ty0 : Nat → FieldType), vwCl[ci]? = some (C, T, N) ∧ (∀ w ∈ u_ws C T N, w ∈ wsA) ∧ k < N ∧ Cond.fieldLink M.1.cls index (T k).1 (T k).2.1 (T k).2.2.1 ∈ wsA ∧ (∀ k, k < N → parseFieldDescriptor (T k).2.2.1 = some (ty0 k)) ∧ (∀ a, a < N → ∀ b, b < N → a ≠ b → (T a).2.1 ≠ (T b).2.1) ∧ parseFieldDescriptor (T k).2.2.1 = some ty ∧ ((T k).2.2.2 = false ∨ ((T k).2.2.2 = true ∧ M.1.name = "<init>" ∧ (T k).1 = M.1.cls))
theorem x_put {index ci k : Nat} {a : xQ} {ty : FieldType} {fs : List xV} {v : xV} (t : Nat) (hf : x_pl M index ci k ty) (hd : decode M.2.1 pc = .ok (.putfield index, 3)) (ht : pc + 3 = t) (he : h a = some (.inr (ci, fs))) (hfit : x_fit ty v) (hl : k < fs.length) (kk : x_X l G M d kc ks nk Q t L st (x_up h a (.inr (ci, fs.set k v)))) : x_X l G M d kc ks nk Q pc L (v :: xR (some a) :: st) h := by
  subst ht
  obtain ⟨C0, T, N, ty0, hc0, hin, hk, hlink, hty, hnmT, hdT, hfin⟩ := hf
  intro p e R s m args below meth c H locs cells slots mc ms ls z0 z C hc hz hW hS hL
  have C' := C
  obtain ⟨hx, hb, hml, hown, hret, hlk, hnm, hts, hfr, hlo, hK, hN⟩ := C'
  have hap := va_apart (own := M.1.cls) hts hin ty0 hty hnmT hK.no hc0
  have hat : va_at G.1 vwCl (z a, .inr (ci, fs.map (x_v z))) H := (hW.1 a _ he).1
  have haA : x_A G (z a) := (hW.1 a _ he).2
  obtain ⟨r, h1, cell, q1, q2, q3, q4⟩ := hat
  have hr : r = (C0, T, N) := Option.some.inj (h1.symm.trans hc0)
  subst hr
  obtain ⟨hSl, hfc, kC, hkC, hkind⟩ := hK.1 ci _ hc0
  obtain ⟨cf, kf, fi, f, hi, hsl⟩ := hSl k hk
  have hlay := hts _ (hin _ (u_in_lay hk))
  have hst := (u_facts hfc hkC (u_lays hts hin hk) hi).1
  have fin : ∀ H' : Heap, H'[z a]? = some (cell.setSlot f.slot (x_v z v)) → H'.size = H.size → (∀ q, q ≠ z a → H'[q]? = H[q]?) → W p l e R s m args below meth c H' (locs ++ [⟨z a, f.slot⟩]) cells slots (MQ below (x_Qc G z0 nk Q) args s mc ms (x_A G)) (F0 m (pc + 3) ls (x_s z st)) := by
    intro H' e1 e2 e3
    rw [hsl] at e1 ⊢
    have hl2 : k < (fs.map (x_v z)).length := by rw [List.length_map]; exact hl
    refine kk p e R s m args below meth c H' _ cells slots mc ms ls z0 z C hc hz (hW.set (e := .inr (ci, fs.set k v)) he ⟨_, hc0, t_OB.to (V := updV (vp_V (fs.map (x_v z))) k (x_v z v)) ⟨_, e1, q2, q3, t_set q4 hap hk (x_v z v)⟩ (fun j _ => ?_)⟩ e3) (hS.put e2 e3 haA) hL
    show updV (vp_V (fs.map (x_v z))) k (x_v z v) j = vp_V ((fs.set k v).map (x_v z)) j
    rw [List.map_set]
    exact vp_updV_set hl2 (x_v z v) j
  unfold u_lay at hlay
  rcases hfin with hfin | ⟨hfin, hini, hdecl⟩
  · rw [if_neg (by rw [hfin]; decide)] at hlay
    have h6 := u_store hfc hkC hkind hlay hi hdT (hfit z).1 (hfit z).2
    exact W.putK hx hb (f := f) ⟨hown, hts _ hlink, ⟨_, _, _, hi⟩, hst⟩ (by rw [q2]; exact h6) q1 q3 (by rw [hsl]; exact k2_hasslot (q4 k hk)) rfl rfl hd fin
  · rw [if_pos hfin] at hlay
    have hcf : m.cls = cf := by
      obtain ⟨_, _, c', _, _, _, -, -, hf', -, -, -, hown2, -⟩ := Cond.laysFinal_spec hlay
      have e1 : c' = cf := by have := hi.symm.trans hf'; simp at this; exact this.1.symm
      rw [hdecl] at hown2
      rw [← e1]; exact Option.some.inj (hown.symm.trans hown2)
    have h6 := u_fits hfc hkC hkind (Or.inr hlay) hi hdT (hfit z).1 (hfit z).2
    exact W.putFinK hx hb hown (hts _ hlink) hi hst hcf (hnm.trans hini) (by rw [q2]; exact h6) q1 q3 (by rw [hsl]; exact k2_hasslot (q4 k hk)) rfl rfl hd fin
-- arrays: reading
theorem x_iald {a : xQ} {n : Nat} {f : Nat → Int32} {i : Int32} (t : Nat) (hd : decode M.2.1 pc = .ok (.iaload, 1)) (ht : pc + 1 = t) (he : h a = some (.inl (0, n, .inl f))) (hi : vp_in i n) (kk : x_X l G M d kc ks nk Q t L (xI (f i.toNatClampNeg) :: st) h) : x_X l G M d kc ks nk Q pc L (xI i :: xR (some a) :: st) h := by
  subst ht
  intro p e R s m args below meth c H locs cells slots mc ms ls z0 z C hc hz hW hS hL
  have C' := C
  obtain ⟨hx, hb, hml, hown, hret, hlk, hnm, hts, hfr, hlo, hK, hN⟩ := C'
  exact va_iald (D := G.1) (cl := vwCl) (ws := [(z a, x_e G z (.inl (0, n, .inl f)))]) (rest := x_s z st) hx hb (hK.one (i := 0) rfl) (x_P1 hW he) 0 0 rfl rfl hi hd (kk p e R s m args below meth c H locs cells slots mc ms ls z0 z C hc hz hW hS hL)
theorem x_lald {a : xQ} {n : Nat} {f : Nat → Int64} {i : Int32} (t : Nat) (hd : decode M.2.1 pc = .ok (.laload, 1)) (ht : pc + 1 = t) (he : h a = some (.inl (1, n, .inr (.inl f)))) (hi : vp_in i n) (kk : x_X l G M d kc ks nk Q t L (xJ (f i.toNatClampNeg) :: st) h) : x_X l G M d kc ks nk Q pc L (xI i :: xR (some a) :: st) h := by
  subst ht
  intro p e R s m args below meth c H locs cells slots mc ms ls z0 z C hc hz hW hS hL
  have C' := C
  obtain ⟨hx, hb, hml, hown, hret, hlk, hnm, hts, hfr, hlo, hK, hN⟩ := C'
  exact va_lald (D := G.1) (cl := vwCl) (ws := [(z a, x_e G z (.inl (1, n, .inr (.inl f))))]) (rest := x_s z st) hx hb (hK.one (i := 1) rfl) (x_P1 hW he) 0 0 rfl rfl hi hd (kk p e R s m args below meth c H locs cells slots mc ms ls z0 z C hc hz hW hS hL)
theorem x_bald {a : xQ} {n : Nat} {f : Nat → Int32} {i : Int32} (t : Nat) (hd : decode M.2.1 pc = .ok (.baload, 1)) (ht : pc + 1 = t) (he : h a = some (.inl (2, n, .inl f))) (hi : vp_in i n) (kk : x_X l G M d kc ks nk Q t L (xI (f i.toNatClampNeg) :: st) h) : x_X l G M d kc ks nk Q pc L (xI i :: xR (some a) :: st) h := by
  subst ht
  intro p e R s m args below meth c H locs cells slots mc ms ls z0 z C hc hz hW hS hL
  have C' := C
  obtain ⟨hx, hb, hml, hown, hret, hlk, hnm, hts, hfr, hlo, hK, hN⟩ := C'
  exact va_zald (D := G.1) (cl := vwCl) (ws := [(z a, x_e G z (.inl (2, n, .inl f)))]) (rest := x_s z st) hx hb (hK.one (i := 2) rfl) (x_P1 hW he) 0 0 rfl rfl hi hd (kk p e R s m args below meth c H locs cells slots mc ms ls z0 z C hc hz hW hS hL)
theorem x_aald {a : xQ} {ty n : Nat} {f : Nat → Option xQ} {C0 : String} {i : Int32} (t : Nat) (hty : xTy[ty]? = some (.object C0)) (hd : decode M.2.1 pc = .ok (.aaload, 1)) (ht : pc + 1 = t) (he : h a = some (.inl (ty, n, .inr (.inr f)))) (hi : vp_in i n) (kk : x_X l G M d kc ks nk Q t L (xR (f i.toNatClampNeg) :: st) h) : x_X l G M d kc ks nk Q pc L (xI i :: xR (some a) :: st) h := by
  subst ht
  intro p e R s m args below meth c H locs cells slots mc ms ls z0 z C hc hz hW hS hL
  have C' := C
  obtain ⟨hx, hb, hml, hown, hret, hlk, hnm, hts, hfr, hlo, hK, hN⟩ := C'
  exact va_aldq (D := G.1) (cl := vwCl) (ws := [(z a, x_e G z (.inl (ty, n, .inr (.inr f))))]) (rest := x_s z st) hx hb (hK.one hty) (x_P1 hW he) 0 0 rfl rfl hi hd (kk p e R s m args below meth c H locs cells slots mc ms ls z0 z C hc hz hW hS hL)
theorem x_alen {a : xQ} {ty n : Nat} {f : xA} {fty : FieldType} (t : Nat) (hty : xTy[ty]? = some fty) (hd : decode M.2.1 pc = .ok (.arraylength, 1)) (ht : pc + 1 = t) (he : h a = some (.inl (ty, n, f))) (kk : x_X l G M d kc ks nk Q t L (xI (Int32.ofNat n) :: st) h) : x_X l G M d kc ks nk Q pc L (xR (some a) :: st) h := by
  subst ht
  intro p e R s m args below meth c H locs cells slots mc ms ls z0 z C hc hz hW hS hL
  have C' := C
  obtain ⟨hx, hb, hml, hown, hret, hlk, hnm, hts, hfr, hlo, hK, hN⟩ := C'
  exact va_alen (D := G.1) (cl := vwCl) (ws := [(z a, x_e G z (.inl (ty, n, f)))]) (x := (n, x_a z f)) (rest := x_s z st) hx hb (hK.one hty) (x_P1 hW he) 0 0 rfl rfl rfl hd (kk p e R s m args below meth c H locs cells slots mc ms ls z0 z C hc hz hW hS hL)
-- arrays: writing
theorem x_iast {a : xQ} {n : Nat} {f : Nat → Int32} {i x : Int32} (t : Nat) (hd : decode M.2.1 pc = .ok (.iastore, 1)) (ht : pc + 1 = t) (he : h a = some (.inl (0, n, .inl f))) (hi : vp_in i n) (kk : x_X l G M d kc ks nk Q t L st (x_up h a (.inl (0, n, .inl (x_uf f i.toNatClampNeg x))))) : x_X l G M d kc ks nk Q pc L (xI x :: xI i :: xR (some a) :: st) h := by
  subst ht
  intro p e R s m args below meth c H locs cells slots mc ms ls z0 z C hc hz hW hS hL
  have C' := C
  obtain ⟨hx, hb, hml, hown, hret, hlk, hnm, hts, hfr, hlo, hK, hN⟩ := C'
  have hat : H[z a]? = some (vp_cell (G.2.1 0) (n, .inl f)) := (hW.1 a _ he).1
  have haA : x_A G (z a) := (hW.1 a _ he).2
  refine W.iast (rest := x_s z st) hx hb hat ((hK.2 0 _ rfl).1 n (fun j => .int (f j))) (fun q => by cases q) (by show ¬ (i < 0 ∨ (arrV _ _ _).slots.size ≤ _); rw [arrV_size]; exact hi) rfl rfl hd fun H1 e1 z1 oq => ?_
  refine kk p e R s m args below meth c H1 _ cells slots mc ms ls z0 z C hc hz (hW.set (e := .inl (0, n, .inl (x_uf f i.toNatClampNeg x))) he ?_ oq) (hS.put z1 oq haA) hL
  show H1[z a]? = some (vp_cell _ (n, .inl (x_uf f i.toNatClampNeg x)))
  rw [e1, vp_cell_i, vp_cell_i, arrV_store]
  congr 2
  funext q
  by_cases hq : q = i.toNatClampNeg
  · subst hq
    simp [updV, x_uf]
  · simp [updV, x_uf, hq]
theorem x_last {a : xQ} {n : Nat} {f : Nat → Int64} {i : Int32} {x : Int64} (t : Nat) (hd : decode M.2.1 pc = .ok (.lastore, 1)) (ht : pc + 1 = t) (he : h a = some (.inl (1, n, .inr (.inl f)))) (hi : vp_in i n) (kk : x_X l G M d kc ks nk Q t L st (x_up h a (.inl (1, n, .inr (.inl (x_uf f i.toNatClampNeg x)))))) : x_X l G M d kc ks nk Q pc L (xJ x :: xI i :: xR (some a) :: st) h := by
  subst ht
  intro p e R s m args below meth c H locs cells slots mc ms ls z0 z C hc hz hW hS hL
  have C' := C
  obtain ⟨hx, hb, hml, hown, hret, hlk, hnm, hts, hfr, hlo, hK, hN⟩ := C'
  have hat : H[z a]? = some (vp_cell (G.2.1 1) (n, .inr (.inl f))) := (hW.1 a _ he).1
  have haA : x_A G (z a) := (hW.1 a _ he).2
  refine W.last (rest := x_s z st) hx hb hat ((hK.2 1 _ rfl).1 n (fun j => .long (f j))) (fun q => by cases q) (by show ¬ (i < 0 ∨ (arrV _ _ _).slots.size ≤ _); rw [arrV_size]; exact hi) rfl rfl hd fun H1 e1 z1 oq => ?_
  refine kk p e R s m args below meth c H1 _ cells slots mc ms ls z0 z C hc hz (hW.set (e := .inl (1, n, .inr (.inl (x_uf f i.toNatClampNeg x)))) he ?_ oq) (hS.put z1 oq haA) hL
  show H1[z a]? = some (vp_cell _ (n, .inr (.inl (x_uf f i.toNatClampNeg x))))
  rw [e1, vp_cell_l, vp_cell_l, arrV_store]
  congr 2
  funext q
  by_cases hq : q = i.toNatClampNeg
  · subst hq
    simp [updV, x_uf]
  · simp [updV, x_uf, hq]
theorem x_aast {a v : xQ} {ty n ci : Nat} {f : Nat → Option xQ} {r : vw_C} {vs : List xV} {i : Int32} (t : Nat) (hty : xTy[ty]? = some (.object r.1)) (hcl : vwCl[ci]? = some r) (hd : decode M.2.1 pc = .ok (.aastore, 1)) (ht : pc + 1 = t) (he : h a = some (.inl (ty, n, .inr (.inr f)))) (hv : h v = some (.inr (ci, vs))) (hi : vp_in i n) (kk : x_X l G M d kc ks nk Q t L st (x_up h a (.inl (ty, n, .inr (.inr (x_uf f i.toNatClampNeg (some v))))))) : x_X l G M d kc ks nk Q pc L (xR (some v) :: xI i :: xR (some a) :: st) h := by
  subst ht
  intro p e R s m args below meth c H locs cells slots mc ms ls z0 z C hc hz hW hS hL
  have C' := C
  obtain ⟨hx, hb, hml, hown, hret, hlk, hnm, hts, hfr, hlo, hK, hN⟩ := C'
  have hat : H[z a]? = some (vp_cell (G.2.1 ty) (n, .inr (.inr (.inr (.inr (fun j => (f j).map z)))))) := (hW.1 a _ he).1
  have haA : x_A G (z a) := (hW.1 a _ he).2
  have hlt : i.toNatClampNeg < n := Nat.not_le.mp fun q => hi (Or.inr q)
  have h0 : ¬ i < 0 := fun q => hi (Or.inl q)
  have hvt : va_at G.1 vwCl (z v, .inr (ci, vs.map (x_v z))) H := (hW.1 v _ hv).1
  obtain ⟨r', hr', cellV, g1, g2, g3, -⟩ := hvt
  have hcls := (hK.1 ci r hcl).2
  obtain ⟨kA, comp, k1, k2, k3, -⟩ := (hK.2 ty _ hty).2
  have hcomp : comp = G.1.1 ci := Option.some.inj (k3.symm.trans hcls.1)
  subst hcomp
  obtain ⟨kC, hkC, -⟩ := hcls.2
  refine W.aast (rest := x_s z st) hx hb hat (fun q h => by cases h) (fun h => by cases h) k1 k2 rfl hkC ⟨h0, by show _ < (arrV _ _ _).slots.size; rw [arrV_size]; exact hlt⟩ g1 (fun q h => by rw [g3] at h; cases h) (by rw [g2]; exact hkC) (by rw [g2]; exact va_assign hcls) rfl rfl hd fun H1 e1 z1 oq => ?_
  refine kk p e R s m args below meth c H1 _ cells slots mc ms ls z0 z C hc hz (hW.set (e := .inl (ty, n, .inr (.inr (x_uf f i.toNatClampNeg (some v))))) he ?_ oq) (hS.put z1 oq haA) hL
  show H1[z a]? = some (vp_cell _ (n, .inr (.inr (.inr (.inr (fun j => (x_uf f i.toNatClampNeg (some v) j).map z))))))
  rw [e1, vp_cell_q, vp_cell_q, arrV_store]
  congr 2
  funext q
  by_cases hq : q = i.toNatClampNeg
  · subst hq
    simp [updV, x_uf, va_rf]
  · simp [updV, x_uf, hq]
-- making
/-- the world behind a making: the key's place is new -/
theorem x_made {z z0 : xZ} {a : xQ} {q : Nat} {ls : Array Slot} {nL : Nat} (hk : a ∈ nk) (hz : ∀ b : xQ, b ∉ nk → z b = z0 b) (hL : x_L ls nL z L) (hfS : x_far [a] st) (hfL : x_farL [a] L) : (∀ b : xQ, b ∉ nk → x_up1 z a q b = z0 b) ∧ x_L ls nL (x_up1 z a q) L ∧ x_s (x_up1 z a q) (xR (some a) :: st) = .ref q :: x_s z st := by
  have h1 : ∀ b : xQ, b ∉ [a] → x_up1 z a q b = z b := fun b hb => x_up1_ne _ _ (fun e => hb (by rw [e]; exact List.mem_cons_self))
  refine ⟨fun b hb => ?_, hL.re h1 hfL, ?_⟩
  · rw [h1 b (fun e => ?_)]
    · exact hz b hb
    · rw [List.mem_singleton.mp e] at hb; exact hb hk
  · show va_rf (some (x_up1 z a q a)) :: x_s (x_up1 z a q) st = _
    rw [x_s_same h1 hfS, x_up1_self]
    rfl
def x_nl (M : xM) (index ci ns : Nat) (fs : List xV) : Prop := ∃ (C : String) (T : u_T) (ty0 : Nat → FieldType), vwCl[ci]? = some (C, T, ns) ∧ (∀ w ∈ u_ws C T ns, w ∈ wsA) ∧ (∀ k, k < ns → parseFieldDescriptor (T k).2.2.1 = some (ty0 k)) ∧ Cond.classLink M.1.cls index C ∈ wsA ∧ Cond.instantiable C ns ∈ wsA ∧ Cond.initialized C ∈ wsA ∧ ∀ (z : xZ) (j : Nat), j < ns → defaultValue (ty0 j) = vp_V (fs.map (x_v z)) j
theorem x_new {index ci ns : Nat} {fs : List xV} (a : xQ) (t : Nat) (hf : x_nl M index ci ns fs) (hd : decode M.2.1 pc = .ok (.new index, 3)) (ht : pc + 3 = t) (h1 : 1 ≤ kc) (h2 : ns ≤ ks) (hk : a ∈ nk) (h0 : h a = none) (hn : ∀ (b : xQ) (e2 : xE), h b = some e2 → x_ne a e2) (hfS : x_far [a] st) (hfL : x_farL [a] L) (kk : x_X l G M d (kc - 1) (ks - ns) nk Q t L (xR (some a) :: st) (x_up h a (.inr (ci, fs)))) : x_X l G M d kc ks nk Q pc L st h := by
  subst ht
  obtain ⟨C0, T, ty0, hc0, hin, hty, hcl, hinst, hini, hfs⟩ := hf
  intro p e R s m args below meth c H locs cells slots mc ms ls z0 z C hc hz hW hS hL
  have C' := C
  obtain ⟨hx, hb, hml, hown, hret, hlk, hnm, hts, hfr, hlo, hK, hN, hZ, hA⟩ := C'
  have hKn := hK.1 ci _ hc0
  obtain ⟨m1, m2, m3⟩ := x_made (q := H.size) hk hz hL hfS hfL
  refine W.newcK hx hb hown (hts _ hcl) (hts _ hinst) (hts _ hini) rfl hd (by omega) (by omega) hKn.2.1 rfl fun H1 kC hkC e1 z1 o1 => ?_
  have kk1 := kk p e R s m args below meth c H1 locs (cells + 1) (slots + ns) mc ms ls z0 (x_up1 z a H.size) C ⟨by omega, by omega, hc.2.2.1, hc.2.2.2⟩ m1 (hW.push (e := .inr (ci, fs)) h0 hn (Nat.le_trans hA hS.1) ?_ o1) ⟨Nat.le_trans hS.1 (by omega), fun q g1 g2 => (o1 q (Nat.lt_of_lt_of_le g1 hS.1)).trans (hS.2.1 q g1 g2), hS.2.2⟩ m2
  · rw [m3] at kk1
    exact kk1
  · exact ⟨_, hc0, (u_born ty0 hts hin hKn hkC e1 hty).to (hfs _)⟩
theorem x_newarr {at0 : ArrayType} {ty : Nat} {fty : FieldType} {n : Int32} {N : Nat} {f : xA} (a : xQ) (t : Nat) (hty : xTy[ty]? = some fty) (hat : newarray.typeOf at0 = fty) (hno : ∀ (U : State) (cA : ClassId), va_RA U cA fty → U.vm.findClass ("[" ++ fty.toString) = some cA) (hw : Cond.arrayClass fty ∈ wsA) (hd : decode M.2.1 pc = .ok (.newarray at0, 2)) (ht : pc + 2 = t) (hn0 : ¬ n < 0) (hN : n.toNatClampNeg = N) (hby : N * componentBytes fty ≤ 536870912) (hf : ∀ (z : xZ) (cA : ClassId), vp_cell cA (N, x_a z f) = arrV cA N (fun _ => defaultValue fty)) (h1 : 1 ≤ kc) (h2 : N ≤ ks) (hk : a ∈ nk) (h0 : h a = none) (hn : ∀ (b : xQ) (e2 : xE), h b = some e2 → x_ne a e2) (hfS : x_far [a] st) (hfL : x_farL [a] L) (kk : x_X l G M d (kc - 1) (ks - N) nk Q t L (xR (some a) :: st) (x_up h a (.inl (ty, N, f)))) : x_X l G M d kc ks nk Q pc L (xI n :: st) h := by
  subst ht
  subst hat
  intro p e R s m args below meth c H locs cells slots mc ms ls z0 z C hc hz hW hS hL
  have C' := C
  obtain ⟨hx, hb, hml, hown, hret, hlk, hnm, hts, hfr, hlo, hK, hN', hZ, hA⟩ := C'
  obtain ⟨m1, m2, m3⟩ := x_made (q := H.size) hk hz hL hfS hfL
  refine va_newaK (atype := at0) (rest := x_s z st) hx hb (hts _ hw) rfl hd rfl hn0 hN hby (by omega) (by omega) rfl fun H1 cA e1 z1 o1 hAr hNm => ?_
  have hcA : cA = G.2.1 ty := Option.some.inj (hNm.symm.trans (hno _ _ (hK.2 ty _ hty).2))
  subst hcA
  have kk1 := kk p e R s m args below meth c H1 locs (cells + 1) (slots + N) mc ms ls z0 (x_up1 z a H.size) C ⟨by omega, by omega, hc.2.2.1, hc.2.2.2⟩ m1 (hW.push (e := .inl (ty, N, f)) h0 hn (Nat.le_trans hA hS.1) ?_ o1) ⟨Nat.le_trans hS.1 (by omega), fun q g1 g2 => (o1 q (Nat.lt_of_lt_of_le g1 hS.1)).trans (hS.2.1 q g1 g2), hS.2.2⟩ m2
  · rw [m3] at kk1
    exact kk1
  · show H1[H.size]? = some (vp_cell _ (N, x_a _ f))
    rw [hf]
    exact e1
theorem x_newq {ty index : Nat} {C0 : String} {n : Int32} {N : Nat} (a : xQ) (t : Nat) (hty : xTy[ty]? = some (.object C0)) (hcl : Cond.classLink M.1.cls index C0 ∈ wsA) (ho : ∀ U : State, x_N U → va_AO C0 U) (hd : decode M.2.1 pc = .ok (.anewarray index, 3)) (ht : pc + 3 = t) (hn0 : ¬ n < 0) (hN : n.toNatClampNeg = N) (hby : N * 4 ≤ 536870912) (h1 : 1 ≤ kc) (h2 : N ≤ ks) (hk : a ∈ nk) (h0 : h a = none) (hn : ∀ (b : xQ) (e2 : xE), h b = some e2 → x_ne a e2) (hfS : x_far [a] st) (hfL : x_farL [a] L) (kk : x_X l G M d (kc - 1) (ks - N) nk Q t L (xR (some a) :: st) (x_up h a (.inl (ty, N, .inr (.inr (fun _ => none)))))) : x_X l G M d kc ks nk Q pc L (xI n :: st) h := by
  subst ht
  subst hN
  intro p e R s m args below meth c H locs cells slots mc ms ls z0 z C hc hz hW hS hL
  have C' := C
  obtain ⟨hx, hb, hml, hown, hret, hlk, hnm, hts, hfr, hlo, hK, hN', hZ, hA⟩ := C'
  obtain ⟨m1, m2, m3⟩ := x_made (q := H.size) hk hz hL hfS hfL
  refine W.anew (rest := x_s z st) hx hb hown (hts _ hcl) (va_AO.use (ho s hN')) rfl hd rfl hn0 hby (by omega) (by omega) fun cA kA comp f1 f2 f3 f4 => ?_
  obtain ⟨kA', comp', g1, g2, g3, g4⟩ := (hK.2 ty _ hty).2
  have hcA : cA = G.2.1 ty := Option.some.inj (f1.symm.trans g4)
  subst hcA
  generalize hH1 : H.push ({ cls := G.2.1 ty, slots := Array.replicate n.toNatClampNeg .null, vm := .none } : Cell) = H1
  have z1 : H1.size = H.size + 1 := by rw [← hH1, Array.size_push]
  have e1 : H1[H.size]? = some (arrV (G.2.1 ty) n.toNatClampNeg (fun _ => .null)) := by rw [← hH1, Array.getElem?_push_size, ← arrV_new]
  have o1 : ∀ q : Nat, q < H.size → H1[q]? = H[q]? := fun q hq => by rw [← hH1, Array.getElem?_push, if_neg (Nat.ne_of_lt hq)]
  have kk1 := kk p e R s m args below meth c H1 locs (cells + 1) (slots + n.toNatClampNeg) mc ms ls z0 (x_up1 z a H.size) C ⟨by omega, by omega, hc.2.2.1, hc.2.2.2⟩ m1 (hW.push (e := .inl (ty, n.toNatClampNeg, .inr (.inr (fun _ => none)))) h0 hn (Nat.le_trans hA hS.1) ?_ o1) ⟨Nat.le_trans hS.1 (by omega), fun q g1 g2 => (o1 q (Nat.lt_of_lt_of_le g1 hS.1)).trans (hS.2.1 q g1 g2), hS.2.2⟩ m2
  · rw [m3] at kk1
    exact kk1
  · exact e1
theorem x_objInit {idx : Nat} {a : xQ} (t : Nat) (hd : decode M.2.1 pc = .ok (.invokespecial idx, 3)) (ht : pc + 3 = t) (hl : Cond.methodLink M.1.cls idx Lib.objectInit ∈ wsA) (hi : Cond.instanceMethod Lib.objectInit ∈ wsA) (hcd : Cond.code Lib.objectInit ⟨#[0xb1]⟩ 1 none ∈ wsA) (h1 : 1 ≤ d) (hst : (st.map x_cat).sum ≤ 20) (kk : x_X l G M d kc ks nk Q t L st h) : x_X l G M d kc ks nk Q pc L (xR (some a) :: st) h := by
  subst ht
  intro p e R s m args below meth c H locs cells slots mc ms ls z0 z C hc hz hW hS hL
  have C' := C
  obtain ⟨hx, hb, hml, hown, hret, hlk, hnm, hts, hfr, hlo, hK, hN, hZ, hA⟩ := C'
  have hsum := x_sum z st
  refine W.objInit (rest := x_s z st) hx hb hown (hts _ hl) (hts _ hi) (hts _ hcd) rfl (by rw [hml]; exact hL.1) rfl hd (by omega) ?_ (kk p e R s m args below meth c H locs cells slots mc ms ls z0 z C hc hz hW hS hL)
  rw [hsum]
  show 2 * (F0 m pc ls (x_s z (xR (some a) :: st))).monitorRoom + _ + 12 ≤ R.locals
  have hz1 : (F0 m pc ls (x_s z (xR (some a) :: st))).monitorRoom = 0 := rfl
  rw [hz1]
  omega
theorem x_bast {a : xQ} {n : Nat} {f : Nat → Int32} {i x : Int32} (t : Nat) (hd : decode M.2.1 pc = .ok (.bastore, 1)) (ht : pc + 1 = t) (he : h a = some (.inl (2, n, .inl f))) (hi : vp_in i n) (h01 : narrow .boolean (.int x) = .int x) (kk : x_X l G M d kc ks nk Q t L st (x_up h a (.inl (2, n, .inl (x_uf f i.toNatClampNeg x))))) : x_X l G M d kc ks nk Q pc L (xI x :: xI i :: xR (some a) :: st) h := by
  subst ht
  intro p e R s m args below meth c H locs cells slots mc ms ls z0 z C hc hz hW hS hL
  have C' := C
  obtain ⟨hx, hb, hml, hown, hret, hlk, hnm, hts, hfr, hlo, hK, hN⟩ := C'
  have hat : H[z a]? = some (vp_cell (G.2.1 2) (n, .inl f)) := (hW.1 a _ he).1
  have haA : x_A G (z a) := (hW.1 a _ he).2
  refine W.zast (rest := x_s z st) hx hb hat ((hK.2 2 _ rfl).1 n (fun j => .int (f j))) (fun q => by cases q) (by show ¬ (i < 0 ∨ (arrV _ _ _).slots.size ≤ _); rw [arrV_size]; exact hi) rfl rfl hd fun H1 e1 z1 oq => ?_
  refine kk p e R s m args below meth c H1 _ cells slots mc ms ls z0 z C hc hz (hW.set (e := .inl (2, n, .inl (x_uf f i.toNatClampNeg x))) he ?_ oq) (hS.put z1 oq haA) hL
  show H1[z a]? = some (vp_cell _ (n, .inl (x_uf f i.toNatClampNeg x)))
  rw [e1, h01, vp_cell_i, vp_cell_i, arrV_store]
  congr 2
  funext q
  by_cases hq : q = i.toNatClampNeg
  · subst hq
    simp [updV, x_uf]
  · simp [updV, x_uf, hq]
-- the static table of rates, the script
theorem x_gets {index : Nat} (t : Nat) (hl : Cond.fieldLink M.1.cls index "CallMarket" "RISK_RATES" "[I" ∈ wsA) (hd : decode M.2.1 pc = .ok (.getstatic index, 3)) (ht : pc + 3 = t) (kk : x_X l G M d kc ks nk Q t L (xS G.2.2.2.1.1 :: st) h) : x_X l G M d kc ks nk Q pc L st h := by
  subst ht
  intro p e R s m args below meth c H locs cells slots mc ms ls z0 z C hc hz hW hS hL
  have C' := C
  obtain ⟨hx, hb, hml, hown, hret, hlk, hnm, hts, hfr, hlo, hK, hN, hZ, hA⟩ := C'
  exact va_gets (rest := x_s z st) hx hb hZ.1 hS hown (hts _ hl) (fun _ h9 => h9) hd (kk p e R s m args below meth c H locs cells slots mc ms ls z0 z C hc hz hW hS hL)
theorem x_rate {i : Int32} (t : Nat) (hd : decode M.2.1 pc = .ok (.iaload, 1)) (ht : pc + 1 = t) (hi : vp_in i 2) (kk : x_X l G M d kc ks nk Q t L (xI (if i.toNatClampNeg = 0 then 3 else 5) :: st) h) : x_X l G M d kc ks nk Q pc L (xI i :: xS G.2.2.2.1.1 :: st) h := by
  subst ht
  intro p e R s m args below meth c H locs cells slots mc ms ls z0 z C hc hz hW hS hL
  have C' := C
  obtain ⟨hx, hb, hml, hown, hret, hlk, hnm, hts, hfr, hlo, hK, hN, hZ, hA⟩ := C'
  exact va_ti (rest := x_s z st) hx hb hZ.2.1 hS hi (v := .int (if i.toNatClampNeg = 0 then 3 else 5)) rfl hd (kk p e R s m args below meth c H locs cells slots mc ms ls z0 z C hc hz hW hS hL)
theorem x_sld {i : Int32} (t : Nat) (hd : decode M.2.1 pc = .ok (.iaload, 1)) (ht : pc + 1 = t) (hi : vp_in i G.2.2.2.2.1) (kk : x_X l G M d kc ks nk Q t L (xI (G.2.2.2.2.2 i.toNatClampNeg) :: st) h) : x_X l G M d kc ks nk Q pc L (xI i :: xS G.2.2.2.1.2 :: st) h := by
  subst ht
  intro p e R s m args below meth c H locs cells slots mc ms ls z0 z C hc hz hW hS hL
  have C' := C
  obtain ⟨hx, hb, hml, hown, hret, hlk, hnm, hts, hfr, hlo, hK, hN, hZ, hA⟩ := C'
  exact va_sld (rest := x_s z st) hx hb hZ.2.2.1 hZ.2.2.2.2 (Nat.not_le.mpr hZ.2.2.2.1) hS hi hd (kk p e R s m args below meth c H locs cells slots mc ms ls z0 z C hc hz hW hS hL)
theorem x_slen (t : Nat) (hd : decode M.2.1 pc = .ok (.arraylength, 1)) (ht : pc + 1 = t) (kk : x_X l G M d kc ks nk Q t L (xI (Int32.ofNat G.2.2.2.2.1) :: st) h) : x_X l G M d kc ks nk Q pc L (xS G.2.2.2.1.2 :: st) h := by
  subst ht
  intro p e R s m args below meth c H locs cells slots mc ms ls z0 z C hc hz hW hS hL
  have C' := C
  obtain ⟨hx, hb, hml, hown, hret, hlk, hnm, hts, hfr, hlo, hK, hN, hZ, hA⟩ := C'
  exact va_slen (rest := x_s z st) hx hb hZ.2.2.1 hZ.2.2.2.2 (Nat.not_le.mpr hZ.2.2.2.1) hS hd (kk p e R s m args below meth c H locs cells slots mc ms ls z0 z C hc hz hW hS hL)
-- a contract out of a walk from its first instruction
def x_ent : List xV → List (Option xV)
  | [] => []
  | v :: vs => if x_cat v = 2 then some v :: none :: x_ent vs else some v :: x_ent vs
theorem x_ent_cons (v : xV) (vs : List xV) : x_ent (v :: vs) = if x_cat v = 2 then some v :: none :: x_ent vs else some v :: x_ent vs := rfl
theorem x_ent_args (z : xZ) : ∀ (vs : List xV) (k i : Nat) (v : xV), (x_ent vs)[i]? = some (some v) → (k + i, x_v z v) ∈ lv_args k (x_s z vs)
  | [], k, i, v, h => by simp [x_ent] at h
  | w :: vs, k, i, v, h => by
    have hc := x_cat_v z w
    show (k + i, x_v z v) ∈ lv_args k (x_v z w :: x_s z vs)
    unfold lv_args
    unfold x_ent at h
    by_cases h2 : x_cat w = 2
    · rw [if_pos h2] at h
      match i, h with
      | 0, h => cases h; simp
      | 1, h => simp at h
      | i + 2, h =>
        have := x_ent_args z vs (k + 2) i v (by simpa using h)
        simp only [hc, h2]
        refine List.mem_cons_of_mem _ ?_
        have e : k + (i + 2) = k + 2 + i := by omega
        rw [e]
        simpa using this
    · rw [if_neg h2] at h
      match i, h with
      | 0, h => cases h; simp
      | i + 1, h =>
        have h1 : x_cat w = 1 := by rcases w with x | y | q <;> first | rfl | exact absurd rfl h2
        have := x_ent_args z vs (k + 1) i v (by simpa using h)
        refine List.mem_cons_of_mem _ ?_
        have e : k + (i + 1) = k + 1 + i := by omega
        rw [e]
        simpa [hc, h1] using this
theorem x_ent_len (z : xZ) : ∀ vs : List xV, (lg_sl (x_s z vs)).length = (x_ent vs).length
  | [] => rfl
  | w :: vs => by
    have ih := x_ent_len z vs
    have hc := x_cat_v z w
    show (lg_sl (x_v z w :: x_s z vs)).length = _
    unfold lg_sl at ih ⊢
    rw [List.flatMap_cons, List.length_append, ih, x_ent_cons]
    by_cases h2 : x_cat w = 2
    · rw [if_pos (hc.trans h2), if_pos h2]; simp; omega
    · rw [if_neg (fun q => h2 (hc.symm.trans q)), if_neg h2]; simp; omega
theorem x_C.of {av : List xV} (hy : plainName M.1.cls = true) (hn : (x_ent av).length ≤ M.2.2.1) (hX : x_X l G M d kc ks nk Q 0 (x_ent av) [] h) : x_C l G M d kc ks av h nk Q := by
  intro z
  refine Met.ofW (cc := M.2.1) (maxL := M.2.2.1) (ret := M.2.2.2) hy rfl ?_
  intro p e s m args below meth c s₁ B hml hv
  obtain ⟨rfl, hW, hK, hN, hZ, hA⟩ := hv
  have hts := atoms_spec (ws := Cond.code M.1 M.2.1 M.2.2.1 M.2.2.2 :: wsA) B.pre
  have hown : s.vm.findClass M.1.cls = some m.cls := findClass_of_methodNamed B.named
  have hl := lv_entry (x_s z av) (n := M.2.2.1) (by rw [x_ent_len]; exact hn)
  rw [lg_entry_eq]
  generalize (lg_sl (x_s z av) ++ List.replicate (M.2.2.1 - (lg_sl (x_s z av)).length) Slot.unset).toArray = ls at hl ⊢
  exact hX p e (x_rm d kc ks) s m _ below meth c s.heap [] 0 0 kc ks ls z z ⟨B.exec, B.bytes, hml, hown, B.returns, B.notSynchronized, (name_of_methodNamed B.named B.method).1, fun w hw => hts w (List.mem_cons_of_mem _ hw), Nat.le_refl _, Nat.le_refl _, hK, hN, hZ, hA⟩ ⟨by omega, by omega, Nat.le_refl _, Nat.le_refl _⟩ (fun _ _ => rfl) hW va_S.rf ⟨hl.1, hl.2.1, fun i v hi => by
    have := hl.2.2 _ (x_ent_args z av 0 i v hi)
    simpa using this⟩
end XH
