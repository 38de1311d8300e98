section XR
variable {l : Launch} {G : xG} {M : xM} {d kc ks : Nat} {nk : List xQ} {Q : Option xV → xH → Prop} {pc : Nat} {L : List (Option xV)} {st : List xV} {h : xH}
theorem x_iadd {x y : Int32} (t : Nat) (hd : decode M.2.1 pc = .ok (.iadd, 1)) (ht : pc + 1 = t) (k : x_X l G M d kc ks nk Q t L (xI (x + y) :: st) h) : x_X l G M d kc ks nk Q pc L (xI y :: xI x :: st) h := by
  subst ht
  intro p e R s m args below meth c H locs cells slots mc ms ls z0 z C hc hz hW hS hL
  exact lv_iadd (x := x) (y := y) (rest := x_s z st) C.1 C.2.1 hd (k p e R s m args below meth c H locs cells slots mc ms ls z0 z C hc hz hW hS hL)
theorem x_isub {x y : Int32} (t : Nat) (hd : decode M.2.1 pc = .ok (.isub, 1)) (ht : pc + 1 = t) (k : x_X l G M d kc ks nk Q t L (xI (x - y) :: st) h) : x_X l G M d kc ks nk Q pc L (xI y :: xI x :: st) h := by
  subst ht
  intro p e R s m args below meth c H locs cells slots mc ms ls z0 z C hc hz hW hS hL
  exact lv_isub (x := x) (y := y) (rest := x_s z st) C.1 C.2.1 hd (k p e R s m args below meth c H locs cells slots mc ms ls z0 z C hc hz hW hS hL)
theorem x_imul {x y : Int32} (t : Nat) (hd : decode M.2.1 pc = .ok (.imul, 1)) (ht : pc + 1 = t) (k : x_X l G M d kc ks nk Q t L (xI (x * y) :: st) h) : x_X l G M d kc ks nk Q pc L (xI y :: xI x :: st) h := by
  subst ht
  intro p e R s m args below meth c H locs cells slots mc ms ls z0 z C hc hz hW hS hL
  exact lv_imul (x := x) (y := y) (rest := x_s z st) C.1 C.2.1 hd (k p e R s m args below meth c H locs cells slots mc ms ls z0 z C hc hz hW hS hL)
theorem x_iand {x y : Int32} (t : Nat) (hd : decode M.2.1 pc = .ok (.iand, 1)) (ht : pc + 1 = t) (k : x_X l G M d kc ks nk Q t L (xI (x &&& y) :: st) h) : x_X l G M d kc ks nk Q pc L (xI y :: xI x :: st) h := by
  subst ht
  intro p e R s m args below meth c H locs cells slots mc ms ls z0 z C hc hz hW hS hL
  exact lv_iand (x := x) (y := y) (rest := x_s z st) C.1 C.2.1 hd (k p e R s m args below meth c H locs cells slots mc ms ls z0 z C hc hz hW hS hL)
theorem x_ior {x y : Int32} (t : Nat) (hd : decode M.2.1 pc = .ok (.ior, 1)) (ht : pc + 1 = t) (k : x_X l G M d kc ks nk Q t L (xI (x ||| y) :: st) h) : x_X l G M d kc ks nk Q pc L (xI y :: xI x :: st) h := by
  subst ht
  intro p e R s m args below meth c H locs cells slots mc ms ls z0 z C hc hz hW hS hL
  exact lv_ior (x := x) (y := y) (rest := x_s z st) C.1 C.2.1 hd (k p e R s m args below meth c H locs cells slots mc ms ls z0 z C hc hz hW hS hL)
theorem x_ixor {x y : Int32} (t : Nat) (hd : decode M.2.1 pc = .ok (.ixor, 1)) (ht : pc + 1 = t) (k : x_X l G M d kc ks nk Q t L (xI (x ^^^ y) :: st) h) : x_X l G M d kc ks nk Q pc L (xI y :: xI x :: st) h := by
  subst ht
  intro p e R s m args below meth c H locs cells slots mc ms ls z0 z C hc hz hW hS hL
  exact lv_ixor (x := x) (y := y) (rest := x_s z st) C.1 C.2.1 hd (k p e R s m args below meth c H locs cells slots mc ms ls z0 z C hc hz hW hS hL)
theorem x_idiv {x y : Int32} (t : Nat) (hd : decode M.2.1 pc = .ok (.idiv, 1)) (ht : pc + 1 = t) (hne : ¬ y = 0) (k : x_X l G M d kc ks nk Q t L (xI (x / y) :: st) h) : x_X l G M d kc ks nk Q pc L (xI y :: xI x :: st) h := by
  subst ht
  intro p e R s m args below meth c H locs cells slots mc ms ls z0 z C hc hz hW hS hL
  exact lv_idiv (x := x) (y := y) (rest := x_s z st) C.1 C.2.1 hd hne (k p e R s m args below meth c H locs cells slots mc ms ls z0 z C hc hz hW hS hL)
theorem x_irem {x y : Int32} (t : Nat) (hd : decode M.2.1 pc = .ok (.irem, 1)) (ht : pc + 1 = t) (hne : ¬ y = 0) (k : x_X l G M d kc ks nk Q t L (xI (x - x / y * y) :: st) h) : x_X l G M d kc ks nk Q pc L (xI y :: xI x :: st) h := by
  subst ht
  intro p e R s m args below meth c H locs cells slots mc ms ls z0 z C hc hz hW hS hL
  exact lv_irem (x := x) (y := y) (rest := x_s z st) C.1 C.2.1 hd hne (k p e R s m args below meth c H locs cells slots mc ms ls z0 z C hc hz hW hS hL)
theorem x_ineg {x : Int32} (t : Nat) (hd : decode M.2.1 pc = .ok (.ineg, 1)) (ht : pc + 1 = t) (k : x_X l G M d kc ks nk Q t L (xI (-x) :: st) h) : x_X l G M d kc ks nk Q pc L (xI x :: st) h := by
  subst ht
  intro p e R s m args below meth c H locs cells slots mc ms ls z0 z C hc hz hW hS hL
  exact lv_ineg (x := x) (rest := x_s z st) C.1 C.2.1 hd (k p e R s m args below meth c H locs cells slots mc ms ls z0 z C hc hz hW hS hL)
theorem x_ladd {x y : Int64} (t : Nat) (hd : decode M.2.1 pc = .ok (.ladd, 1)) (ht : pc + 1 = t) (k : x_X l G M d kc ks nk Q t L (xJ (x + y) :: st) h) : x_X l G M d kc ks nk Q pc L (xJ y :: xJ x :: st) h := by
  subst ht
  intro p e R s m args below meth c H locs cells slots mc ms ls z0 z C hc hz hW hS hL
  exact lv_ladd (x := x) (y := y) (rest := x_s z st) C.1 C.2.1 hd (k p e R s m args below meth c H locs cells slots mc ms ls z0 z C hc hz hW hS hL)
theorem x_lsub {x y : Int64} (t : Nat) (hd : decode M.2.1 pc = .ok (.lsub, 1)) (ht : pc + 1 = t) (k : x_X l G M d kc ks nk Q t L (xJ (x - y) :: st) h) : x_X l G M d kc ks nk Q pc L (xJ y :: xJ x :: st) h := by
  subst ht
  intro p e R s m args below meth c H locs cells slots mc ms ls z0 z C hc hz hW hS hL
  exact lv_lsub (x := x) (y := y) (rest := x_s z st) C.1 C.2.1 hd (k p e R s m args below meth c H locs cells slots mc ms ls z0 z C hc hz hW hS hL)
theorem x_lmul {x y : Int64} (t : Nat) (hd : decode M.2.1 pc = .ok (.lmul, 1)) (ht : pc + 1 = t) (k : x_X l G M d kc ks nk Q t L (xJ (x * y) :: st) h) : x_X l G M d kc ks nk Q pc L (xJ y :: xJ x :: st) h := by
  subst ht
  intro p e R s m args below meth c H locs cells slots mc ms ls z0 z C hc hz hW hS hL
  exact lv_lmul (x := x) (y := y) (rest := x_s z st) C.1 C.2.1 hd (k p e R s m args below meth c H locs cells slots mc ms ls z0 z C hc hz hW hS hL)
theorem x_lneg {x : Int64} (t : Nat) (hd : decode M.2.1 pc = .ok (.lneg, 1)) (ht : pc + 1 = t) (k : x_X l G M d kc ks nk Q t L (xJ (-x) :: st) h) : x_X l G M d kc ks nk Q pc L (xJ x :: st) h := by
  subst ht
  intro p e R s m args below meth c H locs cells slots mc ms ls z0 z C hc hz hW hS hL
  exact lv_lneg (x := x) (rest := x_s z st) C.1 C.2.1 hd (k p e R s m args below meth c H locs cells slots mc ms ls z0 z C hc hz hW hS hL)
theorem x_lcmp {x y : Int64} (t : Nat) (hd : decode M.2.1 pc = .ok (.lcmp, 1)) (ht : pc + 1 = t) (k : x_X l G M d kc ks nk Q t L (xI (lg_cmp x y) :: st) h) : x_X l G M d kc ks nk Q pc L (xJ y :: xJ x :: st) h := by
  subst ht
  intro p e R s m args below meth c H locs cells slots mc ms ls z0 z C hc hz hW hS hL
  exact W.lcmp (x := x) (y := y) (rest := x_s z st) C.1 C.2.1 hd (k p e R s m args below meth c H locs cells slots mc ms ls z0 z C hc hz hW hS hL)
theorem x_i2l {x : Int32} (t : Nat) (hd : decode M.2.1 pc = .ok (.i2l, 1)) (ht : pc + 1 = t) (k : x_X l G M d kc ks nk Q t L (xJ x.toInt64 :: st) h) : x_X l G M d kc ks nk Q pc L (xI x :: st) h := by
  subst ht
  intro p e R s m args below meth c H locs cells slots mc ms ls z0 z C hc hz hW hS hL
  exact lv_i2l (x := x) (rest := x_s z st) C.1 C.2.1 hd rfl (k p e R s m args below meth c H locs cells slots mc ms ls z0 z C hc hz hW hS hL)
theorem x_iconst {n : Int} (v : Int32) (t : Nat) (hd : decode M.2.1 pc = .ok (.iconst n, 1)) (ht : pc + 1 = t) (hv : Int32.ofInt n = v) (k : x_X l G M d kc ks nk Q t L (xI v :: st) h) : x_X l G M d kc ks nk Q pc L (st) h := by
  subst ht
  intro p e R s m args below meth c H locs cells slots mc ms ls z0 z C hc hz hW hS hL
  exact lv_iconst (v := v) (rest := x_s z st) C.1 C.2.1 hd hv (k p e R s m args below meth c H locs cells slots mc ms ls z0 z C hc hz hW hS hL)
theorem x_bipush {n : Int} (v : Int32) (t : Nat) (hd : decode M.2.1 pc = .ok (.bipush n, 2)) (ht : pc + 2 = t) (hv : (Int8.ofInt n).toInt32 = v) (k : x_X l G M d kc ks nk Q t L (xI v :: st) h) : x_X l G M d kc ks nk Q pc L (st) h := by
  subst ht
  intro p e R s m args below meth c H locs cells slots mc ms ls z0 z C hc hz hW hS hL
  exact lv_bipush (v := v) (rest := x_s z st) C.1 C.2.1 hd hv (k p e R s m args below meth c H locs cells slots mc ms ls z0 z C hc hz hW hS hL)
theorem x_sipush {n : Int} (v : Int32) (t : Nat) (hd : decode M.2.1 pc = .ok (.sipush n, 3)) (ht : pc + 3 = t) (hv : (Int16.ofInt n).toInt32 = v) (k : x_X l G M d kc ks nk Q t L (xI v :: st) h) : x_X l G M d kc ks nk Q pc L (st) h := by
  subst ht
  intro p e R s m args below meth c H locs cells slots mc ms ls z0 z C hc hz hW hS hL
  exact lv_sipush (v := v) (rest := x_s z st) C.1 C.2.1 hd hv (k p e R s m args below meth c H locs cells slots mc ms ls z0 z C hc hz hW hS hL)
theorem x_lconst {n : Fin 2} (v : Int64) (t : Nat) (hd : decode M.2.1 pc = .ok (.lconst n, 1)) (ht : pc + 1 = t) (hv : Int64.ofNat (n : Nat) = v) (k : x_X l G M d kc ks nk Q t L (xJ v :: st) h) : x_X l G M d kc ks nk Q pc L (st) h := by
  subst ht
  intro p e R s m args below meth c H locs cells slots mc ms ls z0 z C hc hz hW hS hL
  exact lv_lconst (v := v) (rest := x_s z st) C.1 C.2.1 hd hv (k p e R s m args below meth c H locs cells slots mc ms ls z0 z C hc hz hW hS hL)
theorem x_ldc {index : Nat} (v : Int32) (t : Nat) (hd : decode M.2.1 pc = .ok (.ldc index, 2)) (ht : pc + 2 = t) (hv : Cond.constant M.1.cls index v ∈ wsA) (k : x_X l G M d kc ks nk Q t L (xI v :: st) h) : x_X l G M d kc ks nk Q pc L st h := by
  subst ht
  intro p e R s m args below meth c H locs cells slots mc ms ls z0 z C hc hz hW hS hL
  have C' := C
  obtain ⟨hx, hb, hml, hown, hret, hlk, hnm, hts, hfr, hlo, hK, hN⟩ := C'
  exact lv_ldc (rest := x_s z st) hx hb hown (hts _ hv) hd (k p e R s m args below meth c H locs cells slots mc ms ls z0 z C hc hz hW hS hL)
theorem x_dup {u : xV} (t : Nat) (hd : decode M.2.1 pc = .ok (.dup, 1)) (ht : pc + 1 = t) (cu : x_cat u = 1) (k : x_X l G M d kc ks nk Q t L (u :: u :: st) h) : x_X l G M d kc ks nk Q pc L (u :: st) h := by
  subst ht
  intro p e R s m args below meth c H locs cells slots mc ms ls z0 z C hc hz hW hS hL
  exact lv_dup (va := x_v z u) (rest := x_s z st) C.1 C.2.1 hd (by rw [x_cat_v]; exact cu) (k p e R s m args below meth c H locs cells slots mc ms ls z0 z C hc hz hW hS hL)
theorem x_pop {u : xV} (t : Nat) (hd : decode M.2.1 pc = .ok (.pop, 1)) (ht : pc + 1 = t) (cu : x_cat u = 1) (k : x_X l G M d kc ks nk Q t L (st) h) : x_X l G M d kc ks nk Q pc L (u :: st) h := by
  subst ht
  intro p e R s m args below meth c H locs cells slots mc ms ls z0 z C hc hz hW hS hL
  exact lv_pop (va := x_v z u) (rest := x_s z st) C.1 C.2.1 hd (by rw [x_cat_v]; exact cu) (k p e R s m args below meth c H locs cells slots mc ms ls z0 z C hc hz hW hS hL)
theorem x_dup_x1 {u v : xV} (t : Nat) (hd : decode M.2.1 pc = .ok (.dup_x1, 1)) (ht : pc + 1 = t) (cu : x_cat u = 1) (cv : x_cat v = 1) (k : x_X l G M d kc ks nk Q t L (u :: v :: u :: st) h) : x_X l G M d kc ks nk Q pc L (u :: v :: st) h := by
  subst ht
  intro p e R s m args below meth c H locs cells slots mc ms ls z0 z C hc hz hW hS hL
  exact lv_dup_x1 (va := x_v z u) (vb := x_v z v) (rest := x_s z st) C.1 C.2.1 hd (by rw [x_cat_v]; exact cu) (by rw [x_cat_v]; exact cv) (k p e R s m args below meth c H locs cells slots mc ms ls z0 z C hc hz hW hS hL)
theorem x_dup_x2 {a u v : xV} (t : Nat) (hd : decode M.2.1 pc = .ok (.dup_x2, 1)) (ht : pc + 1 = t) (ca : x_cat a = 1) (cu : x_cat u = 1) (cv : x_cat v = 1) (k : x_X l G M d kc ks nk Q t L (a :: u :: v :: a :: st) h) : x_X l G M d kc ks nk Q pc L (a :: u :: v :: st) h := by
  subst ht
  intro p e R s m args below meth c H locs cells slots mc ms ls z0 z C hc hz hW hS hL
  exact lv_dup_x2 (va := x_v z a) (vb := x_v z u) (vd := x_v z v) (rest := x_s z st) C.1 C.2.1 hd (by rw [x_cat_v]; exact ca) (by rw [x_cat_v]; exact cu) (by rw [x_cat_v]; exact cv) (k p e R s m args below meth c H locs cells slots mc ms ls z0 z C hc hz hW hS hL)
theorem x_dup2 {u v : xV} (t : Nat) (hd : decode M.2.1 pc = .ok (.dup2, 1)) (ht : pc + 1 = t) (cu : x_cat u = 1) (cv : x_cat v = 1) (k : x_X l G M d kc ks nk Q t L (u :: v :: u :: v :: st) h) : x_X l G M d kc ks nk Q pc L (u :: v :: st) h := by
  subst ht
  intro p e R s m args below meth c H locs cells slots mc ms ls z0 z C hc hz hW hS hL
  exact lv_dup2_11 (va := x_v z u) (vb := x_v z v) (rest := x_s z st) C.1 C.2.1 hd (by rw [x_cat_v]; exact cu) (by rw [x_cat_v]; exact cv) (k p e R s m args below meth c H locs cells slots mc ms ls z0 z C hc hz hW hS hL)
theorem x_dup2l {u : xV} (t : Nat) (hd : decode M.2.1 pc = .ok (.dup2, 1)) (ht : pc + 1 = t) (cu : x_cat u = 2) (k : x_X l G M d kc ks nk Q t L (u :: u :: st) h) : x_X l G M d kc ks nk Q pc L (u :: st) h := by
  subst ht
  intro p e R s m args below meth c H locs cells slots mc ms ls z0 z C hc hz hW hS hL
  exact lv_dup2_2 (va := x_v z u) (rest := x_s z st) C.1 C.2.1 hd (by rw [x_cat_v]; exact cu) (k p e R s m args below meth c H locs cells slots mc ms ls z0 z C hc hz hW hS hL)
theorem x_pop2l {u : xV} (t : Nat) (hd : decode M.2.1 pc = .ok (.pop2, 1)) (ht : pc + 1 = t) (cu : x_cat u = 2) (k : x_X l G M d kc ks nk Q t L (st) h) : x_X l G M d kc ks nk Q pc L (u :: st) h := by
  subst ht
  intro p e R s m args below meth c H locs cells slots mc ms ls z0 z C hc hz hW hS hL
  exact lv_pop2_2 (va := x_v z u) (rest := x_s z st) C.1 C.2.1 hd (by rw [x_cat_v]; exact cu) (k p e R s m args below meth c H locs cells slots mc ms ls z0 z C hc hz hW hS hL)
theorem x_if_eq {x : Int32} {off : Int} (tgt t : Nat) (hd : decode M.2.1 pc = .ok (.ifCond .eq off, 3)) (hg : (pc : Int) + off = (tgt : Int)) (ht : pc + 3 = t) (kt : x = 0 → x_X l G M d kc ks nk Q tgt L st h) (kf : ¬ x = 0 → x_X l G M d kc ks nk Q t L st h) : x_X l G M d kc ks nk Q pc L (xI x :: st) h := by
  subst ht
  intro p e R s m args below meth c H locs cells slots mc ms ls z0 z C hc hz hW hS hL
  exact lv_if_eq (x := x) (rest := x_s z st) C.1 C.2.1 hd hg (fun q => kt q p e R s m args below meth c H locs cells slots mc ms ls z0 z C hc hz hW hS hL) (fun q => kf q p e R s m args below meth c H locs cells slots mc ms ls z0 z C hc hz hW hS hL)
theorem x_icmp_eq {x y : Int32} {off : Int} (tgt t : Nat) (hd : decode M.2.1 pc = .ok (.if_icmp .eq off, 3)) (hg : (pc : Int) + off = (tgt : Int)) (ht : pc + 3 = t) (kt : x = y → x_X l G M d kc ks nk Q tgt L st h) (kf : ¬ x = y → x_X l G M d kc ks nk Q t L st h) : x_X l G M d kc ks nk Q pc L (xI y :: xI x :: st) h := by
  subst ht
  intro p e R s m args below meth c H locs cells slots mc ms ls z0 z C hc hz hW hS hL
  exact lv_icmp_eq (x := x) (y := y) (rest := x_s z st) C.1 C.2.1 hd hg (fun q => kt q p e R s m args below meth c H locs cells slots mc ms ls z0 z C hc hz hW hS hL) (fun q => kf q p e R s m args below meth c H locs cells slots mc ms ls z0 z C hc hz hW hS hL)
theorem x_if_ne {x : Int32} {off : Int} (tgt t : Nat) (hd : decode M.2.1 pc = .ok (.ifCond .ne off, 3)) (hg : (pc : Int) + off = (tgt : Int)) (ht : pc + 3 = t) (kt : ¬ x = 0 → x_X l G M d kc ks nk Q tgt L st h) (kf : x = 0 → x_X l G M d kc ks nk Q t L st h) : x_X l G M d kc ks nk Q pc L (xI x :: st) h := by
  subst ht
  intro p e R s m args below meth c H locs cells slots mc ms ls z0 z C hc hz hW hS hL
  exact lv_if_ne (x := x) (rest := x_s z st) C.1 C.2.1 hd hg (fun q => kt q p e R s m args below meth c H locs cells slots mc ms ls z0 z C hc hz hW hS hL) (fun q => kf q p e R s m args below meth c H locs cells slots mc ms ls z0 z C hc hz hW hS hL)
theorem x_icmp_ne {x y : Int32} {off : Int} (tgt t : Nat) (hd : decode M.2.1 pc = .ok (.if_icmp .ne off, 3)) (hg : (pc : Int) + off = (tgt : Int)) (ht : pc + 3 = t) (kt : ¬ x = y → x_X l G M d kc ks nk Q tgt L st h) (kf : x = y → x_X l G M d kc ks nk Q t L st h) : x_X l G M d kc ks nk Q pc L (xI y :: xI x :: st) h := by
  subst ht
  intro p e R s m args below meth c H locs cells slots mc ms ls z0 z C hc hz hW hS hL
  exact lv_icmp_ne (x := x) (y := y) (rest := x_s z st) C.1 C.2.1 hd hg (fun q => kt q p e R s m args below meth c H locs cells slots mc ms ls z0 z C hc hz hW hS hL) (fun q => kf q p e R s m args below meth c H locs cells slots mc ms ls z0 z C hc hz hW hS hL)
theorem x_if_lt {x : Int32} {off : Int} (tgt t : Nat) (hd : decode M.2.1 pc = .ok (.ifCond .lt off, 3)) (hg : (pc : Int) + off = (tgt : Int)) (ht : pc + 3 = t) (kt : x < 0 → x_X l G M d kc ks nk Q tgt L st h) (kf : ¬ x < 0 → x_X l G M d kc ks nk Q t L st h) : x_X l G M d kc ks nk Q pc L (xI x :: st) h := by
  subst ht
  intro p e R s m args below meth c H locs cells slots mc ms ls z0 z C hc hz hW hS hL
  exact lv_if_lt (x := x) (rest := x_s z st) C.1 C.2.1 hd hg (fun q => kt q p e R s m args below meth c H locs cells slots mc ms ls z0 z C hc hz hW hS hL) (fun q => kf q p e R s m args below meth c H locs cells slots mc ms ls z0 z C hc hz hW hS hL)
theorem x_icmp_lt {x y : Int32} {off : Int} (tgt t : Nat) (hd : decode M.2.1 pc = .ok (.if_icmp .lt off, 3)) (hg : (pc : Int) + off = (tgt : Int)) (ht : pc + 3 = t) (kt : x < y → x_X l G M d kc ks nk Q tgt L st h) (kf : ¬ x < y → x_X l G M d kc ks nk Q t L st h) : x_X l G M d kc ks nk Q pc L (xI y :: xI x :: st) h := by
  subst ht
  intro p e R s m args below meth c H locs cells slots mc ms ls z0 z C hc hz hW hS hL
  exact lv_icmp_lt (x := x) (y := y) (rest := x_s z st) C.1 C.2.1 hd hg (fun q => kt q p e R s m args below meth c H locs cells slots mc ms ls z0 z C hc hz hW hS hL) (fun q => kf q p e R s m args below meth c H locs cells slots mc ms ls z0 z C hc hz hW hS hL)
theorem x_if_ge {x : Int32} {off : Int} (tgt t : Nat) (hd : decode M.2.1 pc = .ok (.ifCond .ge off, 3)) (hg : (pc : Int) + off = (tgt : Int)) (ht : pc + 3 = t) (kt : 0 ≤ x → x_X l G M d kc ks nk Q tgt L st h) (kf : ¬ 0 ≤ x → x_X l G M d kc ks nk Q t L st h) : x_X l G M d kc ks nk Q pc L (xI x :: st) h := by
  subst ht
  intro p e R s m args below meth c H locs cells slots mc ms ls z0 z C hc hz hW hS hL
  exact lv_if_ge (x := x) (rest := x_s z st) C.1 C.2.1 hd hg (fun q => kt q p e R s m args below meth c H locs cells slots mc ms ls z0 z C hc hz hW hS hL) (fun q => kf q p e R s m args below meth c H locs cells slots mc ms ls z0 z C hc hz hW hS hL)
theorem x_icmp_ge {x y : Int32} {off : Int} (tgt t : Nat) (hd : decode M.2.1 pc = .ok (.if_icmp .ge off, 3)) (hg : (pc : Int) + off = (tgt : Int)) (ht : pc + 3 = t) (kt : y ≤ x → x_X l G M d kc ks nk Q tgt L st h) (kf : ¬ y ≤ x → x_X l G M d kc ks nk Q t L st h) : x_X l G M d kc ks nk Q pc L (xI y :: xI x :: st) h := by
  subst ht
  intro p e R s m args below meth c H locs cells slots mc ms ls z0 z C hc hz hW hS hL
  exact lv_icmp_ge (x := x) (y := y) (rest := x_s z st) C.1 C.2.1 hd hg (fun q => kt q p e R s m args below meth c H locs cells slots mc ms ls z0 z C hc hz hW hS hL) (fun q => kf q p e R s m args below meth c H locs cells slots mc ms ls z0 z C hc hz hW hS hL)
theorem x_if_gt {x : Int32} {off : Int} (tgt t : Nat) (hd : decode M.2.1 pc = .ok (.ifCond .gt off, 3)) (hg : (pc : Int) + off = (tgt : Int)) (ht : pc + 3 = t) (kt : 0 < x → x_X l G M d kc ks nk Q tgt L st h) (kf : ¬ 0 < x → x_X l G M d kc ks nk Q t L st h) : x_X l G M d kc ks nk Q pc L (xI x :: st) h := by
  subst ht
  intro p e R s m args below meth c H locs cells slots mc ms ls z0 z C hc hz hW hS hL
  exact lv_if_gt (x := x) (rest := x_s z st) C.1 C.2.1 hd hg (fun q => kt q p e R s m args below meth c H locs cells slots mc ms ls z0 z C hc hz hW hS hL) (fun q => kf q p e R s m args below meth c H locs cells slots mc ms ls z0 z C hc hz hW hS hL)
theorem x_icmp_gt {x y : Int32} {off : Int} (tgt t : Nat) (hd : decode M.2.1 pc = .ok (.if_icmp .gt off, 3)) (hg : (pc : Int) + off = (tgt : Int)) (ht : pc + 3 = t) (kt : y < x → x_X l G M d kc ks nk Q tgt L st h) (kf : ¬ y < x → x_X l G M d kc ks nk Q t L st h) : x_X l G M d kc ks nk Q pc L (xI y :: xI x :: st) h := by
  subst ht
  intro p e R s m args below meth c H locs cells slots mc ms ls z0 z C hc hz hW hS hL
  exact lv_icmp_gt (x := x) (y := y) (rest := x_s z st) C.1 C.2.1 hd hg (fun q => kt q p e R s m args below meth c H locs cells slots mc ms ls z0 z C hc hz hW hS hL) (fun q => kf q p e R s m args below meth c H locs cells slots mc ms ls z0 z C hc hz hW hS hL)
theorem x_if_le {x : Int32} {off : Int} (tgt t : Nat) (hd : decode M.2.1 pc = .ok (.ifCond .le off, 3)) (hg : (pc : Int) + off = (tgt : Int)) (ht : pc + 3 = t) (kt : x ≤ 0 → x_X l G M d kc ks nk Q tgt L st h) (kf : ¬ x ≤ 0 → x_X l G M d kc ks nk Q t L st h) : x_X l G M d kc ks nk Q pc L (xI x :: st) h := by
  subst ht
  intro p e R s m args below meth c H locs cells slots mc ms ls z0 z C hc hz hW hS hL
  exact lv_if_le (x := x) (rest := x_s z st) C.1 C.2.1 hd hg (fun q => kt q p e R s m args below meth c H locs cells slots mc ms ls z0 z C hc hz hW hS hL) (fun q => kf q p e R s m args below meth c H locs cells slots mc ms ls z0 z C hc hz hW hS hL)
theorem x_icmp_le {x y : Int32} {off : Int} (tgt t : Nat) (hd : decode M.2.1 pc = .ok (.if_icmp .le off, 3)) (hg : (pc : Int) + off = (tgt : Int)) (ht : pc + 3 = t) (kt : x ≤ y → x_X l G M d kc ks nk Q tgt L st h) (kf : ¬ x ≤ y → x_X l G M d kc ks nk Q t L st h) : x_X l G M d kc ks nk Q pc L (xI y :: xI x :: st) h := by
  subst ht
  intro p e R s m args below meth c H locs cells slots mc ms ls z0 z C hc hz hW hS hL
  exact lv_icmp_le (x := x) (y := y) (rest := x_s z st) C.1 C.2.1 hd hg (fun q => kt q p e R s m args below meth c H locs cells slots mc ms ls z0 z C hc hz hW hS hL) (fun q => kf q p e R s m args below meth c H locs cells slots mc ms ls z0 z C hc hz hW hS hL)
theorem x_goto {off : Int} (tgt : Nat) (hd : decode M.2.1 pc = .ok (.goto off, 3)) (ht : (pc : Int) + off = (tgt : Int)) (k : x_X l G M d kc ks nk Q tgt L st h) : x_X l G M d kc ks nk Q pc L st h := by
  intro p e R s m args below meth c H locs cells slots mc ms ls z0 z C hc hz hW hS hL
  exact lv_goto (rest := x_s z st) C.1 C.2.1 hd ht (k p e R s m args below meth c H locs cells slots mc ms ls z0 z C hc hz hW hS hL)
theorem x_null (t : Nat) (hd : decode M.2.1 pc = .ok (.aconst_null, 1)) (ht : pc + 1 = t) (k : x_X l G M d kc ks nk Q t L (xR none :: st) h) : x_X l G M d kc ks nk Q pc L st h := by
  subst ht
  intro p e R s m args below meth c H locs cells slots mc ms ls z0 z C hc hz hW hS hL
  exact lv_null (rest := x_s z st) C.1 C.2.1 hd (k p e R s m args below meth c H locs cells slots mc ms ls z0 z C hc hz hW hS hL)
theorem x_ifnull {q : Option xQ} {off : Int} (tgt t : Nat) (hd : decode M.2.1 pc = .ok (.ifnull off, 3)) (hg : (pc : Int) + off = (tgt : Int)) (ht : pc + 3 = t) (kt : q = none → x_X l G M d kc ks nk Q tgt L st h) (kf : ∀ a : xQ, q = some a → x_X l G M d kc ks nk Q t L st h) : x_X l G M d kc ks nk Q pc L (xR q :: st) h := by
  subst ht
  intro p e R s m args below meth c H locs cells slots mc ms ls z0 z C hc hz hW hS hL
  cases q with
  | none => exact lv_ifnullN (rest := x_s z st) C.1 C.2.1 hd hg (kt rfl p e R s m args below meth c H locs cells slots mc ms ls z0 z C hc hz hW hS hL)
  | some a => exact lv_ifnull (x := z a) (rest := x_s z st) C.1 C.2.1 hd (kf a rfl p e R s m args below meth c H locs cells slots mc ms ls z0 z C hc hz hW hS hL)
theorem x_ifnonnull {q : Option xQ} {off : Int} (tgt t : Nat) (hd : decode M.2.1 pc = .ok (.ifnonnull off, 3)) (hg : (pc : Int) + off = (tgt : Int)) (ht : pc + 3 = t) (kt : ∀ a : xQ, q = some a → x_X l G M d kc ks nk Q tgt L st h) (kf : q = none → x_X l G M d kc ks nk Q t L st h) : x_X l G M d kc ks nk Q pc L (xR q :: st) h := by
  subst ht
  intro p e R s m args below meth c H locs cells slots mc ms ls z0 z C hc hz hW hS hL
  cases q with
  | none => exact lv_ifnonnullN (rest := x_s z st) C.1 C.2.1 hd (kf rfl p e R s m args below meth c H locs cells slots mc ms ls z0 z C hc hz hW hS hL)
  | some a => exact lv_ifnonnull (x := z a) (rest := x_s z st) C.1 C.2.1 hd hg (kt a rfl p e R s m args below meth c H locs cells slots mc ms ls z0 z C hc hz hW hS hL)
theorem x_inj {z : xZ} {H : Heap} (hW : x_W G z h H) {rx ry : Option xQ} (hx : ∀ a : xQ, rx = some a → h a ≠ none) (hy : ∀ a : xQ, ry = some a → h a ≠ none) : rx.map z = ry.map z ↔ rx = ry := by
  constructor
  · intro q
    cases rx with
    | none => cases ry with
      | none => rfl
      | some b => simp at q
    | some a => cases ry with
      | none => simp at q
      | some b =>
        have := hW.2 a b (hx a rfl) (hy b rfl) (by simpa using q)
        rw [this]
  · intro q
    rw [q]
theorem x_acmp_eq {rx ry : Option xQ} {off : Int} (tgt t : Nat) (hd : decode M.2.1 pc = .ok (.if_acmp .eq off, 3)) (hg : (pc : Int) + off = (tgt : Int)) (ht : pc + 3 = t) (hx : ∀ a : xQ, rx = some a → h a ≠ none) (hy : ∀ a : xQ, ry = some a → h a ≠ none) (kt : rx = ry → x_X l G M d kc ks nk Q tgt L st h) (kf : ¬ rx = ry → x_X l G M d kc ks nk Q t L st h) : x_X l G M d kc ks nk Q pc L (xR ry :: xR rx :: st) h := by
  subst ht
  intro p e R s m args below meth c H locs cells slots mc ms ls z0 z C hc hz hW hS hL
  exact lv_acmp_eq (rx := rx.map z) (ry := ry.map z) (rest := x_s z st) C.1 C.2.1 hd hg (fun q => kt ((x_inj hW hx hy).mp q) p e R s m args below meth c H locs cells slots mc ms ls z0 z C hc hz hW hS hL) (fun q => kf (fun w => q ((x_inj hW hx hy).mpr w)) p e R s m args below meth c H locs cells slots mc ms ls z0 z C hc hz hW hS hL)
theorem x_acmp_ne {rx ry : Option xQ} {off : Int} (tgt t : Nat) (hd : decode M.2.1 pc = .ok (.if_acmp .ne off, 3)) (hg : (pc : Int) + off = (tgt : Int)) (ht : pc + 3 = t) (hx : ∀ a : xQ, rx = some a → h a ≠ none) (hy : ∀ a : xQ, ry = some a → h a ≠ none) (kt : ¬ rx = ry → x_X l G M d kc ks nk Q tgt L st h) (kf : rx = ry → x_X l G M d kc ks nk Q t L st h) : x_X l G M d kc ks nk Q pc L (xR ry :: xR rx :: st) h := by
  subst ht
  intro p e R s m args below meth c H locs cells slots mc ms ls z0 z C hc hz hW hS hL
  exact lv_acmp_ne (rx := rx.map z) (ry := ry.map z) (rest := x_s z st) C.1 C.2.1 hd hg (fun q => kt (fun w => q ((x_inj hW hx hy).mpr w)) p e R s m args below meth c H locs cells slots mc ms ls z0 z C hc hz hW hS hL) (fun q => kf ((x_inj hW hx hy).mp q) p e R s m args below meth c H locs cells slots mc ms ls z0 z C hc hz hW hS hL)
theorem x_iload_n {n : Fin 4} {x : Int32} (t : Nat) (hd : decode M.2.1 pc = .ok (.iload_n n, 1)) (ht : pc + 1 = t) (hl : L[(n : Nat)]? = some (some (xI x))) (k : x_X l G M d kc ks nk Q t L (xI x :: st) h) : x_X l G M d kc ks nk Q pc L st h := by
  subst ht
  intro p e R s m args below meth c H locs cells slots mc ms ls z0 z C hc hz hW hS hL
  exact lv_iload_n (x := x) (rest := x_s z st) C.1 C.2.1 hd rfl (hL.2.2 _ _ hl) (k p e R s m args below meth c H locs cells slots mc ms ls z0 z C hc hz hW hS hL)
theorem x_iload {i : Nat} {x : Int32} (t : Nat) (hd : decode M.2.1 pc = .ok (.iload i, 2)) (ht : pc + 2 = t) (hl : L[i]? = some (some (xI x))) (k : x_X l G M d kc ks nk Q t L (xI x :: st) h) : x_X l G M d kc ks nk Q pc L st h := by
  subst ht
  intro p e R s m args below meth c H locs cells slots mc ms ls z0 z C hc hz hW hS hL
  exact lv_iload (x := x) (rest := x_s z st) C.1 C.2.1 hd (hL.2.2 _ _ hl) (k p e R s m args below meth c H locs cells slots mc ms ls z0 z C hc hz hW hS hL)
theorem x_lload_n {n : Fin 4} {x : Int64} (t : Nat) (hd : decode M.2.1 pc = .ok (.lload_n n, 1)) (ht : pc + 1 = t) (hl : L[(n : Nat)]? = some (some (xJ x))) (k : x_X l G M d kc ks nk Q t L (xJ x :: st) h) : x_X l G M d kc ks nk Q pc L st h := by
  subst ht
  intro p e R s m args below meth c H locs cells slots mc ms ls z0 z C hc hz hW hS hL
  exact lv_lload_n (x := x) (rest := x_s z st) C.1 C.2.1 hd rfl (hL.2.2 _ _ hl) (k p e R s m args below meth c H locs cells slots mc ms ls z0 z C hc hz hW hS hL)
theorem x_lload {i : Nat} {x : Int64} (t : Nat) (hd : decode M.2.1 pc = .ok (.lload i, 2)) (ht : pc + 2 = t) (hl : L[i]? = some (some (xJ x))) (k : x_X l G M d kc ks nk Q t L (xJ x :: st) h) : x_X l G M d kc ks nk Q pc L st h := by
  subst ht
  intro p e R s m args below meth c H locs cells slots mc ms ls z0 z C hc hz hW hS hL
  exact lv_lload (x := x) (rest := x_s z st) C.1 C.2.1 hd (hL.2.2 _ _ hl) (k p e R s m args below meth c H locs cells slots mc ms ls z0 z C hc hz hW hS hL)
theorem x_aload_n {n : Fin 4} {r : Option xQ ⊕ Nat} (t : Nat) (hd : decode M.2.1 pc = .ok (.aload_n n, 1)) (ht : pc + 1 = t) (hl : L[(n : Nat)]? = some (some (Sum.inr (Sum.inr r)))) (k : x_X l G M d kc ks nk Q t L (Sum.inr (Sum.inr r) :: st) h) : x_X l G M d kc ks nk Q pc L st h := by
  subst ht
  intro p e R s m args below meth c H locs cells slots mc ms ls z0 z C hc hz hW hS hL
  rcases r with (_ | a) | a
  · exact lv_aload_nN (rest := x_s z st) C.1 C.2.1 hd rfl (hL.2.2 _ _ hl) (k p e R s m args below meth c H locs cells slots mc ms ls z0 z C hc hz hW hS hL)
  · exact lv_aload_n (x := z a) (rest := x_s z st) C.1 C.2.1 hd rfl (hL.2.2 _ _ hl) (k p e R s m args below meth c H locs cells slots mc ms ls z0 z C hc hz hW hS hL)
  · exact lv_aload_n (x := a) (rest := x_s z st) C.1 C.2.1 hd rfl (hL.2.2 _ _ hl) (k p e R s m args below meth c H locs cells slots mc ms ls z0 z C hc hz hW hS hL)
theorem x_aload {i : Nat} {r : Option xQ ⊕ Nat} (t : Nat) (hd : decode M.2.1 pc = .ok (.aload i, 2)) (ht : pc + 2 = t) (hl : L[i]? = some (some (Sum.inr (Sum.inr r)))) (k : x_X l G M d kc ks nk Q t L (Sum.inr (Sum.inr r) :: st) h) : x_X l G M d kc ks nk Q pc L st h := by
  subst ht
  intro p e R s m args below meth c H locs cells slots mc ms ls z0 z C hc hz hW hS hL
  rcases r with (_ | a) | a
  · exact lv_aloadN (rest := x_s z st) C.1 C.2.1 hd (hL.2.2 _ _ hl) (k p e R s m args below meth c H locs cells slots mc ms ls z0 z C hc hz hW hS hL)
  · exact lv_aload (x := z a) (rest := x_s z st) C.1 C.2.1 hd (hL.2.2 _ _ hl) (k p e R s m args below meth c H locs cells slots mc ms ls z0 z C hc hz hW hS hL)
  · exact lv_aload (x := a) (rest := x_s z st) C.1 C.2.1 hd (hL.2.2 _ _ hl) (k p e R s m args below meth c H locs cells slots mc ms ls z0 z C hc hz hW hS hL)
theorem x_istore_n {n : Fin 4} {x : Int32} (t : Nat) (hd : decode M.2.1 pc = .ok (.istore_n n, 1)) (ht : pc + 1 = t) (hn : (n : Nat) < M.2.2.1) (ho : x_ok L (n : Nat) = true) (k : x_X l G M d kc ks nk Q t (L.set (n : Nat) (some (xI x))) st h) : x_X l G M d kc ks nk Q pc L (xI x :: st) h := by
  subst ht
  intro p e R s m args below meth c H locs cells slots mc ms ls z0 z C hc hz hW hS hL
  exact lv_istore_n (x := x) (rest := x_s z st) C.1 C.2.1 hd rfl hL.has hn rfl (fun ls1 h1 => k p e R s m args below meth c H locs cells slots mc ms ls1 z0 z C hc hz hW hS (x_L.set1 (v := xI x) ho h1))
theorem x_lstore_n {n : Fin 4} {x : Int64} (t : Nat) (hd : decode M.2.1 pc = .ok (.lstore_n n, 1)) (ht : pc + 1 = t) (hn : (n : Nat) + 1 < M.2.2.1) (ho : x_ok L (n : Nat) = true) (k : x_X l G M d kc ks nk Q t ((L.set (n : Nat) (some (xJ x))).set ((n : Nat) + 1) none) st h) : x_X l G M d kc ks nk Q pc L (xJ x :: st) h := by
  subst ht
  intro p e R s m args below meth c H locs cells slots mc ms ls z0 z C hc hz hW hS hL
  exact lv_lstore_n (x := x) (rest := x_s z st) C.1 C.2.1 hd rfl hL.has hn rfl (fun ls1 h1 => k p e R s m args below meth c H locs cells slots mc ms ls1 z0 z C hc hz hW hS (x_L.set2 (v := xJ x) ho h1))
theorem x_astore_n {n : Fin 4} {q : Option xQ} (t : Nat) (hd : decode M.2.1 pc = .ok (.astore_n n, 1)) (ht : pc + 1 = t) (hn : (n : Nat) < M.2.2.1) (ho : x_ok L (n : Nat) = true) (k : x_X l G M d kc ks nk Q t (L.set (n : Nat) (some (xR q))) st h) : x_X l G M d kc ks nk Q pc L (xR q :: st) h := by
  subst ht
  intro p e R s m args below meth c H locs cells slots mc ms ls z0 z C hc hz hW hS hL
  cases q with
  | none => exact lv_astore_nN (rest := x_s z st) C.1 C.2.1 hd rfl hL.has hn rfl (fun ls1 h1 => k p e R s m args below meth c H locs cells slots mc ms ls1 z0 z C hc hz hW hS (x_L.set1 (v := xR none) ho h1))
  | some a => exact lv_astore_n (x := z a) (rest := x_s z st) C.1 C.2.1 hd rfl hL.has hn rfl (fun ls1 h1 => k p e R s m args below meth c H locs cells slots mc ms ls1 z0 z C hc hz hW hS (x_L.set1 (v := xR (some a)) ho h1))
theorem x_istore {i : Nat} {x : Int32} (t : Nat) (hd : decode M.2.1 pc = .ok (.istore i, 2)) (ht : pc + 2 = t) (hn : i < M.2.2.1) (ho : x_ok L i = true) (k : x_X l G M d kc ks nk Q t (L.set i (some (xI x))) st h) : x_X l G M d kc ks nk Q pc L (xI x :: st) h := by
  subst ht
  intro p e R s m args below meth c H locs cells slots mc ms ls z0 z C hc hz hW hS hL
  exact lv_istore (x := x) (rest := x_s z st) C.1 C.2.1 hd hL.has hn rfl (fun ls1 h1 => k p e R s m args below meth c H locs cells slots mc ms ls1 z0 z C hc hz hW hS (x_L.set1 (v := xI x) ho h1))
theorem x_lstore {i : Nat} {x : Int64} (t : Nat) (hd : decode M.2.1 pc = .ok (.lstore i, 2)) (ht : pc + 2 = t) (hn : i + 1 < M.2.2.1) (ho : x_ok L i = true) (k : x_X l G M d kc ks nk Q t ((L.set i (some (xJ x))).set (i + 1) none) st h) : x_X l G M d kc ks nk Q pc L (xJ x :: st) h := by
  subst ht
  intro p e R s m args below meth c H locs cells slots mc ms ls z0 z C hc hz hW hS hL
  exact lv_lstore (x := x) (rest := x_s z st) C.1 C.2.1 hd hL.has hn rfl (fun ls1 h1 => k p e R s m args below meth c H locs cells slots mc ms ls1 z0 z C hc hz hW hS (x_L.set2 (v := xJ x) ho h1))
theorem x_astore {i : Nat} {q : Option xQ} (t : Nat) (hd : decode M.2.1 pc = .ok (.astore i, 2)) (ht : pc + 2 = t) (hn : i < M.2.2.1) (ho : x_ok L i = true) (k : x_X l G M d kc ks nk Q t (L.set i (some (xR q))) st h) : x_X l G M d kc ks nk Q pc L (xR q :: st) h := by
  subst ht
  intro p e R s m args below meth c H locs cells slots mc ms ls z0 z C hc hz hW hS hL
  cases q with
  | none => exact lv_astoreN (rest := x_s z st) C.1 C.2.1 hd hL.has hn rfl (fun ls1 h1 => k p e R s m args below meth c H locs cells slots mc ms ls1 z0 z C hc hz hW hS (x_L.set1 (v := xR none) ho h1))
  | some a => exact lv_astore (x := z a) (rest := x_s z st) C.1 C.2.1 hd hL.has hn rfl (fun ls1 h1 => k p e R s m args below meth c H locs cells slots mc ms ls1 z0 z C hc hz hW hS (x_L.set1 (v := xR (some a)) ho h1))
theorem x_iinc {i : Nat} {n : Int} {x : Int32} (t : Nat) (hd : decode M.2.1 pc = .ok (.iinc i n, 3)) (ht : pc + 3 = t) (hl : L[i]? = some (some (xI x))) (hn : i < M.2.2.1) (ho : x_ok L i = true) (k : x_X l G M d kc ks nk Q t (L.set i (some (xI (x + Int32.ofInt n)))) st h) : x_X l G M d kc ks nk Q pc L st h := by
  subst ht
  intro p e R s m args below meth c H locs cells slots mc ms ls z0 z C hc hz hW hS hL
  obtain ⟨j, hj⟩ := List.getElem?_of_mem (x_lp_mem.mpr ⟨xI x, hl, rfl⟩ : (i, x_v z (xI x)) ∈ x_lp z L)
  exact lv_iinc (x := x) (rest := x_s z st) C.1 C.2.1 hd hL.has hj rfl hn rfl (fun ls1 h1 => k p e R s m args below meth c H locs cells slots mc ms ls1 z0 z C hc hz hW hS (x_L.set1 (v := xI (x + Int32.ofInt n)) ho h1))
theorem x_less {L' : List (Option xV)} (hl : x_le L L') (k : x_X l G M d kc ks nk Q pc L' st h) : x_X l G M d kc ks nk Q pc L st h := by
  intro p e R s m args below meth c H locs cells slots mc ms ls z0 z C hc hz hW hS hL
  exact k p e R s m args below meth c H locs cells slots mc ms ls z0 z C hc hz hW hS (hL.less hl)
theorem x_sub {h1 : xH} (hs : ∀ (a : xQ) (e : xE), h1 a = some e → h a = some e) (k : x_X l G M d kc ks nk Q pc L st h1) : x_X l G M d kc ks nk Q pc L st h := by
  intro p e R s m args below meth c H locs cells slots mc ms ls z0 z C hc hz hW hS hL
  exact k p e R s m args below meth c H locs cells slots mc ms ls z0 z C hc hz (hW.sub hs) hS hL
theorem x_tableIn {dflt lo hi : Int} {offs : Array Int} {len : Nat} {x : Int32} {off : Int} (tgt : Nat) (hd : decode M.2.1 pc = .ok (.tableswitch dflt lo hi offs, len)) (h1 : ¬ x.toInt < lo) (h2 : ¬ hi < x.toInt) (ho : offs[(x.toInt - lo).toNat]? = some off) (ht : (pc : Int) + off = (tgt : Int)) (k : x_X l G M d kc ks nk Q tgt L st h) : x_X l G M d kc ks nk Q pc L (xI x :: st) h := by
  intro p e R s m args below meth c H locs cells slots mc ms ls z0 z C hc hz hW hS hL
  exact lv_tableIn (x := x) (rest := x_s z st) C.1 C.2.1 hd h1 h2 ho ht (k p e R s m args below meth c H locs cells slots mc ms ls z0 z C hc hz hW hS hL)
theorem x_tableOut {dflt lo hi : Int} {offs : Array Int} {len : Nat} {x : Int32} (tgt : Nat) (hd : decode M.2.1 pc = .ok (.tableswitch dflt lo hi offs, len)) (h1 : x.toInt < lo ∨ hi < x.toInt) (ht : (pc : Int) + dflt = (tgt : Int)) (k : x_X l G M d kc ks nk Q tgt L st h) : x_X l G M d kc ks nk Q pc L (xI x :: st) h := by
  intro p e R s m args below meth c H locs cells slots mc ms ls z0 z C hc hz hW hS hL
  exact lv_tableOut (x := x) (rest := x_s z st) C.1 C.2.1 hd h1 ht (k p e R s m args below meth c H locs cells slots mc ms ls z0 z C hc hz hW hS hL)
theorem x_iret {x : Int32} {ty : FieldType} (hd : decode M.2.1 pc = .ok (.ireturn, 1)) (hr : M.2.2.2 = some ty) (hn : narrow ty (.int x) = .int x) (q : Q (some (xI x)) h) : x_X l G M d kc ks nk Q pc L [xI x] h := by
  intro p e R s m args below meth c H locs cells slots mc ms ls z0 z C hc hz hW hS hL
  obtain ⟨hx, hb, hml, hown, hret, hlk, hC⟩ := C
  refine W.widen (k := mc) (n := ms) (by omega) (by omega) ?_
  exact W.zret (v := x) hx hb (hret.trans hr) hn (fun t ht hW9 => ⟨some (xI x), h, z, rfl, q, by rw [ht]; exact hW, hS.F ht, hz⟩) hS.2.2 hd hlk
theorem x_lret {x : Int64} (hd : decode M.2.1 pc = .ok (.lreturn, 1)) (hr : M.2.2.2 = some .long) (q : Q (some (xJ x)) h) : x_X l G M d kc ks nk Q pc L [xJ x] h := by
  intro p e R s m args below meth c H locs cells slots mc ms ls z0 z C hc hz hW hS hL
  obtain ⟨hx, hb, hml, hown, hret, hlk, hC⟩ := C
  refine W.widen (k := mc) (n := ms) (by omega) (by omega) ?_
  exact W.lret (v := x) hx hb (hret.trans hr) (fun t ht hW9 => ⟨some (xJ x), h, z, rfl, q, by rw [ht]; exact hW, hS.F ht, hz⟩) hS.2.2 hd hlk
theorem x_vret (hd : decode M.2.1 pc = .ok (.return_, 1)) (hr : M.2.2.2 = none) (q : Q none h) : x_X l G M d kc ks nk Q pc L [] h := by
  intro p e R s m args below meth c H locs cells slots mc ms ls z0 z C hc hz hW hS hL
  obtain ⟨hx, hb, hml, hown, hret, hlk, hC⟩ := C
  refine W.widen (k := mc) (n := ms) (by omega) (by omega) ?_
  exact W.vret hx hb (hret.trans hr) (fun t ht hW9 => ⟨none, h, z, rfl, q, by rw [ht]; exact hW, hS.F ht, hz⟩) hS.2.2 hd hlk
theorem x_aret {r : Option xQ} {rt : FieldType} (hd : decode M.2.1 pc = .ok (.areturn, 1)) (hr : M.2.2.2 = some rt) (hrt : (∃ n, rt = .object n) ∨ ∃ t, rt = .array t) (q : Q (some (xR r)) h) : x_X l G M d kc ks nk Q pc L [xR r] h := by
  intro p e R s m args below meth c H locs cells slots mc ms ls z0 z C hc hz hW hS hL
  obtain ⟨hx, hb, hml, hown, hret, hlk, hC⟩ := C
  refine W.widen (k := mc) (n := ms) (by omega) (by omega) ?_
  refine W.aret (v := va_rf (r.map z)) hx hb (hret.trans hr) hrt ?_ (fun t ht hW9 => ⟨some (xR r), h, z, rfl, q, by rw [ht]; exact hW, hS.F ht, hz⟩) hS.2.2 hd hlk
  cases r with
  | none => exact Or.inl rfl
  | some a => exact Or.inr ⟨z a, rfl⟩
end XR
