def x_is (r : Option xV) (h : xH) : Option xV → xH → Prop := fun r' h' => r' = r ∧ h' = h
section XF
variable {l : Launch} {G : xG} {M M' : xM} {d kc ks d' : Nat} {nk : List xQ} {Q : Option xV → xH → Prop} {pc index : Nat} {L : List (Option xV)} {st st0 As : List xV} {h h' : xH} {v : xV}
theorem x_fVv {ci : Nat} {b : xQ} {fs : List xV} {T : u_T} {n : Nat} (t : Nat) (hM : x_C l G M' d' 0 0 (xR (some b) :: As) h [] (x_is (some v) h')) (hg : x_kV M.1.cls index M') (ho : x_ok1 M' As.length) (hcl : vwCl[ci]? = some (M'.1.cls, T, n)) (he : h b = some (.inr (ci, fs))) (hd : decode M.2.1 pc = .ok (.invokevirtual index, 3)) (ht : pc + 3 = t) (hst : st0 = As.reverse ++ xR (some b) :: st) (hdd : d' + 1 ≤ d) (h8 : (st.map x_cat).sum ≤ 8) (kk : x_X l G M d kc ks nk Q t L (v :: st) h') : x_X l G M d kc ks nk Q pc L st0 h :=
  x_callV t hM hg ho hcl he hd ht hst hdd (Nat.zero_le _) (Nat.zero_le _) h8 (fun _ q => nomatch q) (fun _ _ _ q => nomatch q) (fun _ _ _ q => nomatch q) (fun r h1 hq => by obtain ⟨rfl, rfl⟩ := hq; exact kk)
theorem x_fSv (t : Nat) (hM : x_C l G M' d' 0 0 As h [] (x_is (some v) h')) (hg : x_kS M.1.cls index M') (ho : x_ok1 M' As.length) (hd : decode M.2.1 pc = .ok (.invokestatic index, 3)) (ht : pc + 3 = t) (hst : st0 = As.reverse ++ st) (hdd : d' + 1 ≤ d) (h8 : (st.map x_cat).sum ≤ 8) (kk : x_X l G M d kc ks nk Q t L (v :: st) h') : x_X l G M d kc ks nk Q pc L st0 h :=
  x_callS t hM hg ho hd ht hst hdd (Nat.zero_le _) (Nat.zero_le _) h8 (fun _ q => nomatch q) (fun _ _ _ q => nomatch q) (fun _ _ _ q => nomatch q) (fun r h1 hq => by obtain ⟨rfl, rfl⟩ := hq; exact kk)
theorem x_fVn {ci : Nat} {b : xQ} {fs : List xV} {T : u_T} {n : Nat} (t : Nat) (hM : x_C l G M' d' 0 0 (xR (some b) :: As) h [] (x_is none h')) (hg : x_kV M.1.cls index M') (ho : x_ok1 M' As.length) (hcl : vwCl[ci]? = some (M'.1.cls, T, n)) (he : h b = some (.inr (ci, fs))) (hd : decode M.2.1 pc = .ok (.invokevirtual index, 3)) (ht : pc + 3 = t) (hst : st0 = As.reverse ++ xR (some b) :: st) (hdd : d' + 1 ≤ d) (h8 : (st.map x_cat).sum ≤ 8) (kk : x_X l G M d kc ks nk Q t L st h') : x_X l G M d kc ks nk Q pc L st0 h :=
  x_callV t hM hg ho hcl he hd ht hst hdd (Nat.zero_le _) (Nat.zero_le _) h8 (fun _ q => nomatch q) (fun _ _ _ q => nomatch q) (fun _ _ _ q => nomatch q) (fun r h1 hq => by obtain ⟨rfl, rfl⟩ := hq; exact kk)
theorem x_fSn (t : Nat) (hM : x_C l G M' d' 0 0 As h [] (x_is none h')) (hg : x_kS M.1.cls index M') (ho : x_ok1 M' As.length) (hd : decode M.2.1 pc = .ok (.invokestatic index, 3)) (ht : pc + 3 = t) (hst : st0 = As.reverse ++ st) (hdd : d' + 1 ≤ d) (h8 : (st.map x_cat).sum ≤ 8) (kk : x_X l G M d kc ks nk Q t L st h') : x_X l G M d kc ks nk Q pc L st0 h :=
  x_callS t hM hg ho hd ht hst hdd (Nat.zero_le _) (Nat.zero_le _) h8 (fun _ q => nomatch q) (fun _ _ _ q => nomatch q) (fun _ _ _ q => nomatch q) (fun r h1 hq => by obtain ⟨rfl, rfl⟩ := hq; exact kk)
theorem x_fSNv {host : String} (t : Nat) (hM : x_C l G M' d' 0 0 As h [] (x_is (some v) h')) (hg : x_kSN M.1.cls index M' host) (ho : x_ok1 M' As.length) (hd : decode M.2.1 pc = .ok (.invokestatic index, 3)) (ht : pc + 3 = t) (hst : st0 = As.reverse ++ st) (hdd : d' + 1 ≤ d) (h8 : (st.map x_cat).sum ≤ 8) (kk : x_X l G M d kc ks nk Q t L (v :: st) h') : x_X l G M d kc ks nk Q pc L st0 h :=
  x_callSN t hM hg ho hd ht hst hdd (Nat.zero_le _) (Nat.zero_le _) h8 (fun _ q => nomatch q) (fun _ _ _ q => nomatch q) (fun _ _ _ q => nomatch q) (fun r h1 hq => by obtain ⟨rfl, rfl⟩ := hq; exact kk)
theorem x_ifnull_n {off : Int} (tgt t : Nat) (hd : decode M.2.1 pc = .ok (.ifnull off, 3)) (hg : (pc : Int) + off = (tgt : Int)) (ht : pc + 3 = t) (kk : x_X l G M d kc ks nk Q tgt L st h) : x_X l G M d kc ks nk Q pc L (xR none :: st) h :=
  x_ifnull tgt t hd hg ht (fun _ => kk) (fun _ q => by cases q)
theorem x_ifnull_s {a : xQ} {off : Int} (tgt t : Nat) (hd : decode M.2.1 pc = .ok (.ifnull off, 3)) (hg : (pc : Int) + off = (tgt : Int)) (ht : pc + 3 = t) (kk : x_X l G M d kc ks nk Q t L st h) : x_X l G M d kc ks nk Q pc L (xR (some a) :: st) h :=
  x_ifnull tgt t hd hg ht (fun q => by cases q) (fun _ _ => kk)
theorem x_ifnonnull_n {off : Int} (tgt t : Nat) (hd : decode M.2.1 pc = .ok (.ifnonnull off, 3)) (hg : (pc : Int) + off = (tgt : Int)) (ht : pc + 3 = t) (kk : x_X l G M d kc ks nk Q t L st h) : x_X l G M d kc ks nk Q pc L (xR none :: st) h :=
  x_ifnonnull tgt t hd hg ht (fun _ q => by cases q) (fun _ => kk)
theorem x_ifnonnull_s {a : xQ} {off : Int} (tgt t : Nat) (hd : decode M.2.1 pc = .ok (.ifnonnull off, 3)) (hg : (pc : Int) + off = (tgt : Int)) (ht : pc + 3 = t) (kk : x_X l G M d kc ks nk Q tgt L st h) : x_X l G M d kc ks nk Q pc L (xR (some a) :: st) h :=
  x_ifnonnull tgt t hd hg ht (fun _ _ => kk) (fun q => by cases q)
end XF
section XY
variable {l : Launch} {G : xG} {M : xM} {d kc ks : Nat} {nk : List xQ} {Q : Option xV → xH → Prop} {pc index : Nat} {L : List (Option xV)} {st : List xV} {N : Nat} {I : Nat → Nat → Int32} {J : Nat → Nat → Int64} {P : Nat → Nat → Option xQ} {V : Nat → Nat → Int32} {A : Nat → Nat → Int32} {B : Nat → Nat → Int64}
theorem y_O0 {k : Nat} {v : Int32} (t : Nat) (hf : x_pl M index 2 0 .int) (hd : decode M.2.1 pc = .ok (.putfield index, 3)) (ht : pc + 3 = t) (hk : k < N) (kk : x_X l G M d kc ks nk Q t L st (hp N (si I 0 k v) J P V A B)) : x_X l G M d kc ks nk Q pc L (xI v :: xR (some (0, k)) :: st) (hp N I J P V A B) :=
  x_put t hf hd ht (h_O hk) (x_fit_i v) (Nat.le_of_ble_eq_true rfl) (by rw [u_O0 hk]; exact kk)
theorem y_O1 {k : Nat} {v : Int32} (t : Nat) (hf : x_pl M index 2 1 .int) (hd : decode M.2.1 pc = .ok (.putfield index, 3)) (ht : pc + 3 = t) (hk : k < N) (kk : x_X l G M d kc ks nk Q t L st (hp N (si I 1 k v) J P V A B)) : x_X l G M d kc ks nk Q pc L (xI v :: xR (some (0, k)) :: st) (hp N I J P V A B) :=
  x_put t hf hd ht (h_O hk) (x_fit_i v) (Nat.le_of_ble_eq_true rfl) (by rw [u_O1 hk]; exact kk)
theorem y_O2 {k : Nat} {v : Int32} (t : Nat) (hf : x_pl M index 2 2 .int) (hd : decode M.2.1 pc = .ok (.putfield index, 3)) (ht : pc + 3 = t) (hk : k < N) (kk : x_X l G M d kc ks nk Q t L st (hp N (si I 2 k v) J P V A B)) : x_X l G M d kc ks nk Q pc L (xI v :: xR (some (0, k)) :: st) (hp N I J P V A B) :=
  x_put t hf hd ht (h_O hk) (x_fit_i v) (Nat.le_of_ble_eq_true rfl) (by rw [u_O2 hk]; exact kk)
theorem y_O3 {k : Nat} {v : Int32} (t : Nat) (hf : x_pl M index 2 3 .int) (hd : decode M.2.1 pc = .ok (.putfield index, 3)) (ht : pc + 3 = t) (hk : k < N) (kk : x_X l G M d kc ks nk Q t L st (hp N (si I 3 k v) J P V A B)) : x_X l G M d kc ks nk Q pc L (xI v :: xR (some (0, k)) :: st) (hp N I J P V A B) :=
  x_put t hf hd ht (h_O hk) (x_fit_i v) (Nat.le_of_ble_eq_true rfl) (by rw [u_O3 hk]; exact kk)
theorem y_O4 {k : Nat} {v : Int32} (t : Nat) (hf : x_pl M index 2 4 .int) (hd : decode M.2.1 pc = .ok (.putfield index, 3)) (ht : pc + 3 = t) (hk : k < N) (kk : x_X l G M d kc ks nk Q t L st (hp N (si I 4 k v) J P V A B)) : x_X l G M d kc ks nk Q pc L (xI v :: xR (some (0, k)) :: st) (hp N I J P V A B) :=
  x_put t hf hd ht (h_O hk) (x_fit_i v) (Nat.le_of_ble_eq_true rfl) (by rw [u_O4 hk]; exact kk)
theorem y_O5 {k : Nat} {v : Int32} (t : Nat) (hf : x_pl M index 2 5 .int) (hd : decode M.2.1 pc = .ok (.putfield index, 3)) (ht : pc + 3 = t) (hk : k < N) (kk : x_X l G M d kc ks nk Q t L st (hp N (si I 5 k v) J P V A B)) : x_X l G M d kc ks nk Q pc L (xI v :: xR (some (0, k)) :: st) (hp N I J P V A B) :=
  x_put t hf hd ht (h_O hk) (x_fit_i v) (Nat.le_of_ble_eq_true rfl) (by rw [u_O5 hk]; exact kk)
theorem y_O6 {k : Nat} {v : Int32} (t : Nat) (hf : x_pl M index 2 6 .int) (hd : decode M.2.1 pc = .ok (.putfield index, 3)) (ht : pc + 3 = t) (hk : k < N) (kk : x_X l G M d kc ks nk Q t L st (hp N (si I 6 k v) J P V A B)) : x_X l G M d kc ks nk Q pc L (xI v :: xR (some (0, k)) :: st) (hp N I J P V A B) :=
  x_put t hf hd ht (h_O hk) (x_fit_i v) (Nat.le_of_ble_eq_true rfl) (by rw [u_O6 hk]; exact kk)
theorem y_O7 {k : Nat} {v : Int32} (t : Nat) (hf : x_pl M index 2 7 .int) (hd : decode M.2.1 pc = .ok (.putfield index, 3)) (ht : pc + 3 = t) (hk : k < N) (kk : x_X l G M d kc ks nk Q t L st (hp N (si I 7 k v) J P V A B)) : x_X l G M d kc ks nk Q pc L (xI v :: xR (some (0, k)) :: st) (hp N I J P V A B) :=
  x_put t hf hd ht (h_O hk) (x_fit_i v) (Nat.le_of_ble_eq_true rfl) (by rw [u_O7 hk]; exact kk)
theorem y_O8 {k : Nat} {v : Int32} (t : Nat) (hf : x_pl M index 2 8 .int) (hd : decode M.2.1 pc = .ok (.putfield index, 3)) (ht : pc + 3 = t) (hk : k < N) (kk : x_X l G M d kc ks nk Q t L st (hp N (si I 8 k v) J P V A B)) : x_X l G M d kc ks nk Q pc L (xI v :: xR (some (0, k)) :: st) (hp N I J P V A B) :=
  x_put t hf hd ht (h_O hk) (x_fit_i v) (Nat.le_of_ble_eq_true rfl) (by rw [u_O8 hk]; exact kk)
theorem y_O9 {k : Nat} {v : Option xQ} (t : Nat) (hf : x_pl M index 2 9 (.object "CallMarket$Order")) (hd : decode M.2.1 pc = .ok (.putfield index, 3)) (ht : pc + 3 = t) (hk : k < N) (kk : x_X l G M d kc ks nk Q t L st (hp N I J (sp P 0 k v) V A B)) : x_X l G M d kc ks nk Q pc L (xR v :: xR (some (0, k)) :: st) (hp N I J P V A B) :=
  x_put t hf hd ht (h_O hk) (x_fit_o _ v) (Nat.le_of_ble_eq_true rfl) (by rw [u_O9 hk]; exact kk)
theorem y_A1 {k : Nat} {v : Int64} (t : Nat) (hf : x_pl M index 0 1 .long) (hd : decode M.2.1 pc = .ok (.putfield index, 3)) (ht : pc + 3 = t) (hk : k < 5) (kk : x_X l G M d kc ks nk Q t L st (hp N I (sj J 0 k v) P V A B)) : x_X l G M d kc ks nk Q pc L (xJ v :: xR (some (1, k)) :: st) (hp N I J P V A B) :=
  x_put t hf hd ht (h_A hk) (x_fit_l v) (Nat.le_of_ble_eq_true rfl) (by rw [u_A1 hk]; exact kk)
theorem y_A2 {k : Nat} {v : Int64} (t : Nat) (hf : x_pl M index 0 2 .long) (hd : decode M.2.1 pc = .ok (.putfield index, 3)) (ht : pc + 3 = t) (hk : k < 5) (kk : x_X l G M d kc ks nk Q t L st (hp N I (sj J 1 k v) P V A B)) : x_X l G M d kc ks nk Q pc L (xJ v :: xR (some (1, k)) :: st) (hp N I J P V A B) :=
  x_put t hf hd ht (h_A hk) (x_fit_l v) (Nat.le_of_ble_eq_true rfl) (by rw [u_A2 hk]; exact kk)
theorem y_B2 {k : Nat} {v : Int32} (t : Nat) (hf : x_pl M index 1 2 .boolean) (hd : decode M.2.1 pc = .ok (.putfield index, 3)) (ht : pc + 3 = t) (hk : k < 2) (h01 : x_fit .boolean (xI v)) (kk : x_X l G M d kc ks nk Q t L st (hp N (si I 10 k v) J P V A B)) : x_X l G M d kc ks nk Q pc L (xI v :: xR (some (3, k)) :: st) (hp N I J P V A B) :=
  x_put t hf hd ht (h_B hk) h01 (Nat.le_of_ble_eq_true rfl) (by rw [u_B2 hk]; exact kk)
theorem y_B3 {k : Nat} {v : Int32} (t : Nat) (hf : x_pl M index 1 3 .int) (hd : decode M.2.1 pc = .ok (.putfield index, 3)) (ht : pc + 3 = t) (hk : k < 2) (kk : x_X l G M d kc ks nk Q t L st (hp N (si I 11 k v) J P V A B)) : x_X l G M d kc ks nk Q pc L (xI v :: xR (some (3, k)) :: st) (hp N I J P V A B) :=
  x_put t hf hd ht (h_B hk) (x_fit_i v) (Nat.le_of_ble_eq_true rfl) (by rw [u_B3 hk]; exact kk)
theorem y_D0 {k : Nat} {v : Option xQ} (t : Nat) (hf : x_pl M index 4 0 (.object "CallMarket$Order")) (hd : decode M.2.1 pc = .ok (.putfield index, 3)) (ht : pc + 3 = t) (hk : k < 4) (kk : x_X l G M d kc ks nk Q t L st (hp N I J (sp P 1 k v) V A B)) : x_X l G M d kc ks nk Q pc L (xR v :: xR (some (4, k)) :: st) (hp N I J P V A B) :=
  x_put t hf hd ht (h_D hk) (x_fit_o _ v) (Nat.le_of_ble_eq_true rfl) (by rw [u_D0 hk]; exact kk)
theorem y_C5 {v : Int32} (t : Nat) (hf : x_pl M index 6 5 .int) (hd : decode M.2.1 pc = .ok (.putfield index, 3)) (ht : pc + 3 = t) (kk : x_X l G M d kc ks nk Q t L st (hp N (si I 12 0 v) J P V A B)) : x_X l G M d kc ks nk Q pc L (xI v :: xR (some (5, 0)) :: st) (hp N I J P V A B) :=
  x_put t hf hd ht rfl (x_fit_i v) (Nat.le_of_ble_eq_true rfl) (by rw [u_C5]; exact kk)
theorem y_T1 {v : Int32} (t : Nat) (hf : x_pl M index 5 1 .int) (hd : decode M.2.1 pc = .ok (.putfield index, 3)) (ht : pc + 3 = t) (kk : x_X l G M d kc ks nk Q t L st (hp N (si I 13 0 v) J P V A B)) : x_X l G M d kc ks nk Q pc L (xI v :: xR (some (9, 0)) :: st) (hp N I J P V A B) :=
  x_put t hf hd ht rfl (x_fit_i v) (Nat.le_of_ble_eq_true rfl) (by rw [u_T1]; exact kk)
theorem y_R0 {v : Int32} (t : Nat) (hf : x_pl M index 7 0 .int) (hd : decode M.2.1 pc = .ok (.putfield index, 3)) (ht : pc + 3 = t) (kk : x_X l G M d kc ks nk Q t L st (hp N I J P V (si A 13 0 v) B)) : x_X l G M d kc ks nk Q pc L (xI v :: xR (some (14, 0)) :: st) (hp N I J P V A B) :=
  x_put t hf hd ht rfl (x_fit_i v) (Nat.le_of_ble_eq_true rfl) (by rw [u_R0]; exact kk)
theorem y_R10 {v : Int32} (t : Nat) (hf : x_pl M index 7 10 .int) (hd : decode M.2.1 pc = .ok (.putfield index, 3)) (ht : pc + 3 = t) (kk : x_X l G M d kc ks nk Q t L st (hp N I J P V (si A 14 0 v) B)) : x_X l G M d kc ks nk Q pc L (xI v :: xR (some (14, 0)) :: st) (hp N I J P V A B) :=
  x_put t hf hd ht rfl (x_fit_i v) (Nat.le_of_ble_eq_true rfl) (by rw [u_R10]; exact kk)
theorem y_R16 {v : Int32} (t : Nat) (hf : x_pl M index 7 16 .int) (hd : decode M.2.1 pc = .ok (.putfield index, 3)) (ht : pc + 3 = t) (kk : x_X l G M d kc ks nk Q t L st (hp N I J P V (si A 15 0 v) B)) : x_X l G M d kc ks nk Q pc L (xI v :: xR (some (14, 0)) :: st) (hp N I J P V A B) :=
  x_put t hf hd ht rfl (x_fit_i v) (Nat.le_of_ble_eq_true rfl) (by rw [u_R16]; exact kk)
theorem y_R18 {v : Int32} (t : Nat) (hf : x_pl M index 7 18 .int) (hd : decode M.2.1 pc = .ok (.putfield index, 3)) (ht : pc + 3 = t) (kk : x_X l G M d kc ks nk Q t L st (hp N I J P V (si A 16 0 v) B)) : x_X l G M d kc ks nk Q pc L (xI v :: xR (some (14, 0)) :: st) (hp N I J P V A B) :=
  x_put t hf hd ht rfl (x_fit_i v) (Nat.le_of_ble_eq_true rfl) (by rw [u_R18]; exact kk)
theorem y_R19 {v : Int32} (t : Nat) (hf : x_pl M index 7 19 .int) (hd : decode M.2.1 pc = .ok (.putfield index, 3)) (ht : pc + 3 = t) (kk : x_X l G M d kc ks nk Q t L st (hp N I J P V (si A 17 0 v) B)) : x_X l G M d kc ks nk Q pc L (xI v :: xR (some (14, 0)) :: st) (hp N I J P V A B) :=
  x_put t hf hd ht rfl (x_fit_i v) (Nat.le_of_ble_eq_true rfl) (by rw [u_R19]; exact kk)
theorem y_R20 {v : Int32} (t : Nat) (hf : x_pl M index 7 20 .int) (hd : decode M.2.1 pc = .ok (.putfield index, 3)) (ht : pc + 3 = t) (kk : x_X l G M d kc ks nk Q t L st (hp N I J P V (si A 18 0 v) B)) : x_X l G M d kc ks nk Q pc L (xI v :: xR (some (14, 0)) :: st) (hp N I J P V A B) :=
  x_put t hf hd ht rfl (x_fit_i v) (Nat.le_of_ble_eq_true rfl) (by rw [u_R20]; exact kk)
theorem y_rows {i : Int32} {v : Int32} (t : Nat) (hd : decode M.2.1 pc = .ok (.iastore, 1)) (ht : pc + 1 = t) (hi : vp_in i 400) (kk : x_X l G M d kc ks nk Q t L st (hp N (si I 14 i.toNatClampNeg v) J P V A B)) : x_X l G M d kc ks nk Q pc L (xI v :: xI i :: xR (some (10, 0)) :: st) (hp N I J P V A B) :=
  x_iast t hd ht rfl hi (by rw [u_rows]; exact kk)
theorem y_bought {i : Int32} {v : Int32} (t : Nat) (hd : decode M.2.1 pc = .ok (.iastore, 1)) (ht : pc + 1 = t) (hi : vp_in i 65) (kk : x_X l G M d kc ks nk Q t L st (hp N (si I 15 i.toNatClampNeg v) J P V A B)) : x_X l G M d kc ks nk Q pc L (xI v :: xI i :: xR (some (12, 0)) :: st) (hp N I J P V A B) :=
  x_iast t hd ht rfl hi (by rw [u_bought]; exact kk)
theorem y_sold {i : Int32} {v : Int32} (t : Nat) (hd : decode M.2.1 pc = .ok (.iastore, 1)) (ht : pc + 1 = t) (hi : vp_in i 65) (kk : x_X l G M d kc ks nk Q t L st (hp N (si I 16 i.toNatClampNeg v) J P V A B)) : x_X l G M d kc ks nk Q pc L (xI v :: xI i :: xR (some (13, 0)) :: st) (hp N I J P V A B) :=
  x_iast t hd ht rfl hi (by rw [u_sold]; exact kk)
theorem y_P {k : Nat} {i v : Int32} (t : Nat) (hd : decode M.2.1 pc = .ok (.iastore, 1)) (ht : pc + 1 = t) (hk : k < 5) (hi : vp_in i 2) (kk : x_X l G M d kc ks nk Q t L st (hp N I J P (si V k i.toNatClampNeg v) A B)) : x_X l G M d kc ks nk Q pc L (xI v :: xI i :: xR (some (2, k)) :: st) (hp N I J P V A B) :=
  x_iast t hd ht (h_P hk) hi (by rw [u_P hk]; exact kk)
theorem y_orders {k : Nat} {i : Int32} (t : Nat) (hd : decode M.2.1 pc = .ok (.aastore, 1)) (ht : pc + 1 = t) (hk : k < N) (hi : vp_in i 120) (kk : x_X l G M d kc ks nk Q t L st (hp N I J (sp P 2 i.toNatClampNeg (some (0, k))) V A B)) : x_X l G M d kc ks nk Q pc L (xR (some (0, k)) :: xI i :: xR (some (8, 0)) :: st) (hp N I J P V A B) :=
  x_aast (r := (RO, TO, 10)) t rfl rfl hd ht rfl (h_O hk) hi (by rw [u_orders]; exact kk)
theorem y_ra0 {i : Int32} {v : Int32} (t : Nat) (hd : decode M.2.1 pc = .ok (.iastore, 1)) (ht : pc + 1 = t) (hi : vp_in i 120) (kk : x_X l G M d kc ks nk Q t L st (hp N I J P V (si A 0 i.toNatClampNeg v) B)) : x_X l G M d kc ks nk Q pc L (xI v :: xI i :: xR (some (15, 0)) :: st) (hp N I J P V A B) :=
  x_iast t hd ht rfl hi (by rw [u_ra0]; exact kk)
theorem y_ra1 {i : Int32} {v : Int32} (t : Nat) (hd : decode M.2.1 pc = .ok (.iastore, 1)) (ht : pc + 1 = t) (hi : vp_in i 120) (kk : x_X l G M d kc ks nk Q t L st (hp N I J P V (si A 1 i.toNatClampNeg v) B)) : x_X l G M d kc ks nk Q pc L (xI v :: xI i :: xR (some (15, 1)) :: st) (hp N I J P V A B) :=
  x_iast t hd ht rfl hi (by rw [u_ra1]; exact kk)
theorem y_ra2 {i : Int32} {v : Int32} (t : Nat) (hd : decode M.2.1 pc = .ok (.iastore, 1)) (ht : pc + 1 = t) (hi : vp_in i 120) (kk : x_X l G M d kc ks nk Q t L st (hp N I J P V (si A 2 i.toNatClampNeg v) B)) : x_X l G M d kc ks nk Q pc L (xI v :: xI i :: xR (some (15, 2)) :: st) (hp N I J P V A B) :=
  x_iast t hd ht rfl hi (by rw [u_ra2]; exact kk)
theorem y_ra3 {i : Int32} {v : Int32} (t : Nat) (hd : decode M.2.1 pc = .ok (.iastore, 1)) (ht : pc + 1 = t) (hi : vp_in i 120) (kk : x_X l G M d kc ks nk Q t L st (hp N I J P V (si A 3 i.toNatClampNeg v) B)) : x_X l G M d kc ks nk Q pc L (xI v :: xI i :: xR (some (15, 3)) :: st) (hp N I J P V A B) :=
  x_iast t hd ht rfl hi (by rw [u_ra3]; exact kk)
theorem y_ra4 {i : Int32} {v : Int32} (t : Nat) (hd : decode M.2.1 pc = .ok (.iastore, 1)) (ht : pc + 1 = t) (hi : vp_in i 120) (kk : x_X l G M d kc ks nk Q t L st (hp N I J P V (si A 4 i.toNatClampNeg v) B)) : x_X l G M d kc ks nk Q pc L (xI v :: xI i :: xR (some (15, 4)) :: st) (hp N I J P V A B) :=
  x_iast t hd ht rfl hi (by rw [u_ra4]; exact kk)
theorem y_ra5 {i : Int32} {v : Int32} (t : Nat) (hd : decode M.2.1 pc = .ok (.iastore, 1)) (ht : pc + 1 = t) (hi : vp_in i 120) (kk : x_X l G M d kc ks nk Q t L st (hp N I J P V (si A 5 i.toNatClampNeg v) B)) : x_X l G M d kc ks nk Q pc L (xI v :: xI i :: xR (some (15, 5)) :: st) (hp N I J P V A B) :=
  x_iast t hd ht rfl hi (by rw [u_ra5]; exact kk)
theorem y_ra6 {i : Int32} {v : Int32} (t : Nat) (hd : decode M.2.1 pc = .ok (.iastore, 1)) (ht : pc + 1 = t) (hi : vp_in i 120) (kk : x_X l G M d kc ks nk Q t L st (hp N I J P V (si A 6 i.toNatClampNeg v) B)) : x_X l G M d kc ks nk Q pc L (xI v :: xI i :: xR (some (15, 6)) :: st) (hp N I J P V A B) :=
  x_iast t hd ht rfl hi (by rw [u_ra6]; exact kk)
theorem y_ra7 {i : Int32} {v : Int32} (t : Nat) (hd : decode M.2.1 pc = .ok (.iastore, 1)) (ht : pc + 1 = t) (hi : vp_in i 120) (kk : x_X l G M d kc ks nk Q t L st (hp N I J P V (si A 7 i.toNatClampNeg v) B)) : x_X l G M d kc ks nk Q pc L (xI v :: xI i :: xR (some (15, 7)) :: st) (hp N I J P V A B) :=
  x_iast t hd ht rfl hi (by rw [u_ra7]; exact kk)
theorem y_ra8 {i : Int32} {v : Int32} (t : Nat) (hd : decode M.2.1 pc = .ok (.iastore, 1)) (ht : pc + 1 = t) (hi : vp_in i 120) (kk : x_X l G M d kc ks nk Q t L st (hp N I J P V (si A 8 i.toNatClampNeg v) B)) : x_X l G M d kc ks nk Q pc L (xI v :: xI i :: xR (some (15, 8)) :: st) (hp N I J P V A B) :=
  x_iast t hd ht rfl hi (by rw [u_ra8]; exact kk)
theorem y_rl0 {i : Int32} {v : Int64} (t : Nat) (hd : decode M.2.1 pc = .ok (.lastore, 1)) (ht : pc + 1 = t) (hi : vp_in i 5) (kk : x_X l G M d kc ks nk Q t L st (hp N I J P V A (sj B 0 i.toNatClampNeg v))) : x_X l G M d kc ks nk Q pc L (xJ v :: xI i :: xR (some (16, 0)) :: st) (hp N I J P V A B) :=
  x_last t hd ht rfl hi (by rw [u_rl0]; exact kk)
theorem y_rl1 {i : Int32} {v : Int64} (t : Nat) (hd : decode M.2.1 pc = .ok (.lastore, 1)) (ht : pc + 1 = t) (hi : vp_in i 5) (kk : x_X l G M d kc ks nk Q t L st (hp N I J P V A (sj B 1 i.toNatClampNeg v))) : x_X l G M d kc ks nk Q pc L (xJ v :: xI i :: xR (some (16, 1)) :: st) (hp N I J P V A B) :=
  x_last t hd ht rfl hi (by rw [u_rl1]; exact kk)
theorem y_held {i : Int32} {v : Int32} (t : Nat) (hd : decode M.2.1 pc = .ok (.iastore, 1)) (ht : pc + 1 = t) (hi : vp_in i 10) (kk : x_X l G M d kc ks nk Q t L st (hp N I J P V (si A 9 i.toNatClampNeg v) B)) : x_X l G M d kc ks nk Q pc L (xI v :: xI i :: xR (some (17, 0)) :: st) (hp N I J P V A B) :=
  x_iast t hd ht rfl hi (by rw [u_held]; exact kk)
theorem y_ref {i : Int32} {v : Int32} (t : Nat) (hd : decode M.2.1 pc = .ok (.iastore, 1)) (ht : pc + 1 = t) (hi : vp_in i 2) (kk : x_X l G M d kc ks nk Q t L st (hp N I J P V (si A 11 i.toNatClampNeg v) B)) : x_X l G M d kc ks nk Q pc L (xI v :: xI i :: xR (some (19, 0)) :: st) (hp N I J P V A B) :=
  x_iast t hd ht rfl hi (by rw [u_ref]; exact kk)
theorem y_rec {i : Int32} {v : Int32} (t : Nat) (hd : decode M.2.1 pc = .ok (.iastore, 1)) (ht : pc + 1 = t) (hi : vp_in i 400) (kk : x_X l G M d kc ks nk Q t L st (hp N I J P V (si A 12 i.toNatClampNeg v) B)) : x_X l G M d kc ks nk Q pc L (xI v :: xI i :: xR (some (20, 0)) :: st) (hp N I J P V A B) :=
  x_iast t hd ht rfl hi (by rw [u_rec]; exact kk)
theorem y_isOpen {i : Int32} {v : Int32} (t : Nat) (hd : decode M.2.1 pc = .ok (.bastore, 1)) (ht : pc + 1 = t) (hi : vp_in i 2) (h01 : narrow .boolean (.int v) = .int v) (kk : x_X l G M d kc ks nk Q t L st (hp N I J P V (si A 10 i.toNatClampNeg v) B)) : x_X l G M d kc ks nk Q pc L (xI v :: xI i :: xR (some (18, 0)) :: st) (hp N I J P V A B) :=
  x_bast t hd ht rfl hi h01 (by rw [u_isOpen]; exact kk)
end XY
