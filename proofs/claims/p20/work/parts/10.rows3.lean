section XM
variable {l : Launch} {G : xG} {M : xM} {d kc ks : Nat} {nk : List xQ} {Q : Option xV → xH → Prop} {pc index : Nat} {L : List (Option xV)} {st : List xV} {h : xH}
def i_min (a b : Int32) : Int32 := if b < a then b else a
def i_max (a b : Int32) : Int32 := if a < b then b else a
def i_abs (a : Int32) : Int32 := if 0 ≤ a then a else 0 - a
theorem m_min_c : mM_min.2.1 = Lib.Math.min.code := by decide +kernel
theorem m_max_c : mM_max.2.1 = Lib.Math.max.code := by decide +kernel
theorem m_abs_c : mM_abs.2.1 = Lib.Math.abs.code := by decide +kernel
theorem x_mmin {x y : Int32} (t : Nat) (hg : x_kS M.1.cls index mM_min) (hd : decode M.2.1 pc = .ok (.invokestatic index, 3)) (ht : pc + 3 = t) (hdd : 1 ≤ d) (h8 : (st.map x_cat).sum ≤ 20) (kk : x_X l G M d kc ks nk Q t L (xI (i_min x y) :: st) h) : x_X l G M d kc ks nk Q pc L (xI y :: xI x :: st) h := by
  subst ht
  intro p e R s m args below meth c H locs cells slots mc ms ls z0 z C hc hz hW hS hL
  have C' := C
  obtain ⟨hx, hb, hml, hown, hret, hlk, hnm, hts, hfr, hlo, hK, hN⟩ := C'
  have hco := hts _ oM_min.1
  rw [m_min_c] at hco
  exact va_mmin (x := x) (y := y) (rest := x_s z st) hx hb (by rw [hml]; exact hL.1.symm) hown (hts _ hg.1) (hts _ hg.2.1) (hts _ hg.2.2) hco (by omega) (by rw [x_sum]; omega) (by omega) (by omega) hd (kk p e R s m args below meth c H locs cells slots mc ms ls z0 z C hc hz hW hS hL)
theorem x_mmax {x y : Int32} (t : Nat) (hg : x_kS M.1.cls index mM_max) (hd : decode M.2.1 pc = .ok (.invokestatic index, 3)) (ht : pc + 3 = t) (hdd : 1 ≤ d) (h8 : (st.map x_cat).sum ≤ 20) (kk : x_X l G M d kc ks nk Q t L (xI (i_max x y) :: st) h) : x_X l G M d kc ks nk Q pc L (xI y :: xI x :: st) h := by
  subst ht
  intro p e R s m args below meth c H locs cells slots mc ms ls z0 z C hc hz hW hS hL
  have C' := C
  obtain ⟨hx, hb, hml, hown, hret, hlk, hnm, hts, hfr, hlo, hK, hN⟩ := C'
  have hco := hts _ oM_max.1
  rw [m_max_c] at hco
  exact va_mmax (x := x) (y := y) (rest := x_s z st) hx hb (by rw [hml]; exact hL.1.symm) hown (hts _ hg.1) (hts _ hg.2.1) (hts _ hg.2.2) hco (by omega) (by rw [x_sum]; omega) (by omega) (by omega) hd (kk p e R s m args below meth c H locs cells slots mc ms ls z0 z C hc hz hW hS hL)
theorem x_mabs {x : Int32} (t : Nat) (hg : x_kS M.1.cls index mM_abs) (hd : decode M.2.1 pc = .ok (.invokestatic index, 3)) (ht : pc + 3 = t) (hdd : 1 ≤ d) (h8 : (st.map x_cat).sum ≤ 20) (kk : x_X l G M d kc ks nk Q t L (xI (i_abs x) :: st) h) : x_X l G M d kc ks nk Q pc L (xI x :: st) h := by
  subst ht
  intro p e R s m args below meth c H locs cells slots mc ms ls z0 z C hc hz hW hS hL
  have C' := C
  obtain ⟨hx, hb, hml, hown, hret, hlk, hnm, hts, hfr, hlo, hK, hN⟩ := C'
  have hco := hts _ oM_abs.1
  rw [m_abs_c] at hco
  exact va_mabs (x := x) (rest := x_s z st) hx hb (by rw [hml]; exact hL.1.symm) hown (hts _ hg.1) (hts _ hg.2.1) (hts _ hg.2.2) hco (by omega) (by rw [x_sum]; omega) (by omega) (by omega) hd (kk p e R s m args below meth c H locs cells slots mc ms ls z0 z C hc hz hW hS hL)
theorem x_C.at {av : List xV} (L0 : List (Option xV)) (hy : plainName M.1.cls = true) (hn : (x_ent av).length ≤ M.2.2.1) (hL0 : x_ent av ++ List.replicate (M.2.2.1 - (x_ent av).length) none = L0) (hX : x_X l G M d kc ks nk Q 0 L0 [] h) : x_C l G M d kc ks av h nk Q := by
  refine x_C.of hy hn (x_less (fun i v hi => ?_) hX)
  rw [← hL0] at hi
  rw [List.getElem?_append] at hi
  split at hi
  · exact hi
  · rw [List.getElem?_replicate] at hi
    split at hi
    · cases hi
    · cases hi
end XM
section XD
variable {l : Launch} {G : xG} {M : xM} {d d1 kc ks : Nat} {nk : List xQ} {Q Q1 : Option xV → xH → Prop} {pc : Nat} {L : List (Option xV)} {st : List xV} {h : xH}
/-- more frames may be left -/
theorem x_wd (hd : d ≤ d1) (k : x_X l G M d kc ks nk Q pc L st h) : x_X l G M d1 kc ks nk Q pc L st h := by
  intro p e R s m args below meth c H locs cells slots mc ms ls z0 z C hc hz hW hS hL
  obtain ⟨hx, hb, hml, hown, hret, hlk, hnm, hts, hfr, hlo, hr⟩ := C
  exact k p e R s m args below meth c H locs cells slots mc ms ls z0 z ⟨hx, hb, hml, hown, hret, hlk, hnm, hts, by omega, by omega, hr⟩ hc hz hW hS hL
end XD
