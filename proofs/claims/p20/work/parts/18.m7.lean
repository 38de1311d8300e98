section M7
variable {l : Launch} {G : xG} {N : Nat} {I : Nat → Nat → Int32} {J : Nat → Nat → Int64} {P : Nat → Nat → Option xQ} {V : Nat → Nat → Int32} {A : Nat → Nat → Int32} {B : Nat → Nat → Int64}
variable {h : xH} {ls : Nat → List Nat}
theorem cC_meet {k i : Nat} (hS : HS N (I, J, V, ls) A B h) (hC : CI N I ls) (hk : k < N) (hi : i < 2) (hT0 : 0 ≤ (I 13 0).toInt) (hT1 : (I 13 0).toInt + 219 < 2147483648) : x_C l G mC_meet 4 0 0 [xR (some (5, 0)), xR (some (0, k)), xR (some (3, i))] (h) [] (x_ex none (HS N (mtF k (fdx i (I 3 k)) 219 (I, J, V, ls)) A B)) := by
  obtain ⟨P, rfl, hQ, hP2⟩ := hS.out
  refine x_C.at [some (xR (some (5, 0))), some (xR (some (0, k))), some (xR (some (3, i))), none, none, none] rfl (Nat.le_of_ble_eq_true rfl) rfl ?_
  refine x_aload_n 1 dC_meet_0 rfl rfl ?_
  refine x_aload_n 2 dC_meet_1 rfl rfl ?_
  refine x_get _ 5 fC_163 dC_meet_2 rfl (h_O (by assumption)) rfl ?_
  refine x_fVv 8 (cB_facing hi _) kC_220 oB_facing rfl (h_B (by assumption)) dC_meet_5 rfl rfl (by decide) (Nat.le_of_ble_eq_true rfl) ?_
  refine x_astore_n 9 dC_meet_8 rfl (by decide) rfl ?_
  refine x_iconst 0 10 dC_meet_9 rfl rfl ?_
  refine x_istore 12 dC_meet_10 rfl (by decide) rfl ?_
  exact lp_meet hk (fdx_lt hi _) _ 219 I J V ls 0 _ _ hS hC (by decide) (by decide) hT0 (by omega) rfl
/-- what a meeting leaves as it was -/
theorem mtF_ok (k j : Nat) (hj : j < 4) : ∀ (n : Nat) (I : Nat → Nat → Int32) (J : Nat → Nat → Int64) (V : Nat → Nat → Int32) (ls : Nat → List Nat), CI N I ls → 0 ≤ (I 13 0).toInt → (I 13 0).toInt + n < 2147483648 →
    KP I (mtF k j n (I, J, V, ls)).1 ∧ CI N (mtF k j n (I, J, V, ls)).1 (mtF k j n (I, J, V, ls)).2.2.2 ∧ (∀ i < 4, ∀ o ∈ (mtF k j n (I, J, V, ls)).2.2.2 i, o ∈ ls i) ∧ (I 13 0).toInt ≤ ((mtF k j n (I, J, V, ls)).1 13 0).toInt ∧ ((mtF k j n (I, J, V, ls)).1 13 0).toInt ≤ (I 13 0).toInt + n := by
  intro n
  induction n with
  | zero => intro I J V ls hC h0 h1; exact ⟨KP.rf I, hC, fun _ _ _ q => q, Int.le_refl _, by simp [mtF]⟩
  | succ n ih =>
    intro I J V ls hC h0 h1
    have same : mtF k j (n + 1) (I, J, V, ls) = (I, J, V, ls) → KP I (mtF k j (n + 1) (I, J, V, ls)).1 ∧ CI N (mtF k j (n + 1) (I, J, V, ls)).1 (mtF k j (n + 1) (I, J, V, ls)).2.2.2 ∧ (∀ i < 4, ∀ o ∈ (mtF k j (n + 1) (I, J, V, ls)).2.2.2 i, o ∈ ls i) ∧ (I 13 0).toInt ≤ ((mtF k j (n + 1) (I, J, V, ls)).1 13 0).toInt ∧ ((mtF k j (n + 1) (I, J, V, ls)).1 13 0).toInt ≤ (I 13 0).toInt + (n + 1 : Nat) := by
      intro e
      rw [e]
      exact ⟨KP.rf I, hC, fun _ _ _ q => q, Int.le_refl _, by dsimp only; omega⟩
    by_cases h24 : I 6 k ≤ 0
    · exact same (by simp only [mtF, if_pos h24])
    · cases hl : ls j with
      | nil => exact same (by simp only [mtF, if_neg h24, hl])
      | cons r c =>
        by_cases ha : acc I k (I 5 r)
        · have hrl : r ∈ ls j := by rw [hl]; exact List.mem_cons_self
          have hrs := hC.2 j hj r hrl
          by_cases hm : I 1 r = I 1 k
          · rw [mtF_a h24 hl ha hm]
            obtain ⟨a1, a2, a3, a4, a5⟩ := ih (si I 8 r 2) J V (tkL I ls r) (tk_CI hC) h0 (by show (I 13 0).toInt + _ < _; omega)
            exact ⟨KP.tr ⟨rfl, rfl, rfl, rfl, rfl, rfl, rfl, rfl⟩ a1, a2, fun i hi o ho => lvL_sub (a3 i hi o ho), a4, by refine Int.le_trans a5 ?_; show (I 13 0).toInt + (n : Int) ≤ _; omega⟩
          · rw [mtF_b h24 hl ha hm]
            have hT := tws_KP (I := I) (J := J) (V := V) (ls := ls) k r j
            have hi13 : ((tws I J V ls k r j).1 13 0).toInt = (I 13 0).toInt + 1 := by rw [hT.2]; exact i_p1 h0 (by omega)
            obtain ⟨a1, a2, a3, a4, a5⟩ := ih (tws I J V ls k r j).1 (tws I J V ls k r j).2.1 (tws I J V ls k r j).2.2.1 (tws I J V ls k r j).2.2.2 (tws_CI hC hrs) (by omega) (by omega)
            refine ⟨KP.tr hT.1 a1, a2, fun i hi o ho => ?_, ?_, ?_⟩
            · rcases tws_ls hrs i hi o (a3 i hi o ho) with q | q
              · exact q
              · rw [q.1, q.2]; exact hrl
            · exact Int.le_trans (by omega) a4
            · refine Int.le_trans a5 ?_
              omega
        · exact same (by simp only [mtF, if_neg h24, hl, if_neg ha])
def ad2 (S : cS) (k i : Nat) : cS := if S.1 6 k = 0 then (si S.1 8 k 1, S.2.1, S.2.2.1, S.2.2.2) else if S.1 4 k = 1 then (si S.1 8 k 2, S.2.1, S.2.2.1, S.2.2.2) else if ¬ S.1 4 k = 3 then (si S.1 7 k (shw S.1 k), S.2.1, S.2.2.1, jnL (si S.1 7 k (shw S.1 k)) S.2.2.2 (sdx i (S.1 3 k)) k) else (si S.1 8 k 2, S.2.1, S.2.2.1, S.2.2.2)
def adS (I : Nat → Nat → Int32) (J : Nat → Nat → Int64) (V : Nat → Nat → Int32) (ls : Nat → List Nat) (k i : Nat) : cS := if I 10 i = 0 then ad2 (I, J, V, ls) k i else ad2 (mtF k (fdx i (I 3 k)) 219 (I, J, V, ls)) k i
theorem lp_admit {k i : Nat} (hS : HS N (I, J, V, ls) A B h) (hk : k < N) (hi : i < 2) (hno : ∀ j < 4, k ∉ ls j) : x_X l G mC_admit 5 0 0 [] (x_ex none (HS N (ad2 (I, J, V, ls) k i) A B)) 13 [some (xR (some (5, 0))), some (xR (some (0, k))), some (xR (some (3, i)))] [] h := by
  obtain ⟨P, rfl, hQ, hP2⟩ := hS.out
  refine x_aload_n 14 dC_admit_13 rfl rfl ?_
  refine x_get _ 17 fC_107 dC_admit_14 rfl (h_O (by assumption)) rfl ?_
  refine x_if_ne 28 20 dC_admit_17 (by decide) rfl (fun h17 => ?_) (fun h17 => ?_)
  · skip
    refine x_aload_n 29 dC_admit_28 rfl rfl ?_
    refine x_get _ 32 fC_210 dC_admit_29 rfl (h_O (by assumption)) rfl ?_
    refine x_iconst 1 33 dC_admit_32 rfl rfl ?_
    refine x_icmp_eq 44 36 dC_admit_33 (by decide) rfl (fun h33 => ?_) (fun h33 => ?_)
    · skip
      refine x_aload_n 45 dC_admit_44 rfl rfl ?_
      refine x_iconst 2 46 dC_admit_45 rfl rfl ?_
      refine y_O8 49 pC_admit_157 dC_admit_46 rfl (by assumption) ?_
      refine x_goto 68 dC_admit_49 (by decide) ?_
      exact x_vret dC_admit_68 rfl ⟨rfl, HS.ig h17 (HS.ip h33 (⟨P, rfl, hQ, hP2⟩))⟩
    · skip
      refine x_aload_n 37 dC_admit_36 rfl rfl ?_
      refine x_get _ 40 fC_210 dC_admit_37 rfl (h_O (by assumption)) rfl ?_
      refine x_iconst 3 41 dC_admit_40 rfl rfl ?_
      refine x_icmp_ne 52 44 dC_admit_41 (by decide) rfl (fun h41 => ?_) (fun h41 => ?_)
      · skip
        refine x_aload_n 53 dC_admit_52 rfl rfl ?_
        refine x_fVn 56 (cO_showAnew hk) kC_213 oO_showAnew rfl (h_O (by assumption)) dC_admit_53 rfl rfl (by decide) (Nat.le_of_ble_eq_true rfl) ?_
        refine x_aload_n 57 dC_admit_56 rfl rfl ?_
        refine x_aload_n 58 dC_admit_57 rfl rfl ?_
        refine x_get _ 61 fC_163 dC_admit_58 rfl (h_O (by assumption)) rfl ?_
        refine x_fVv 64 (cB_on hi _) kC_136 oB_on rfl (h_B (by assumption)) dC_admit_61 rfl rfl (by decide) (Nat.le_of_ble_eq_true rfl) ?_
        refine x_aload_n 65 dC_admit_64 rfl rfl ?_
        refine x_fVn 68 (cD_join (sdx_lt hi _) hk (hQ.1 _ (sdx_lt hi _)) (hQ.2.1 _ (sdx_lt hi _))) kC_216 oD_join rfl (h_D (sdx_lt hi _)) dC_admit_65 rfl rfl (by decide) (Nat.le_of_ble_eq_true rfl) ?_
        exact x_vret dC_admit_68 rfl ⟨rfl, HS.ig h17 (HS.ig h33 (HS.ip h41 (⟨_, rfl, (hQ.join (sdx_lt hi _) hk hno).1, hP2.join hQ (sdx_lt hi _) hk hno⟩)))⟩
      · skip
        refine x_aload_n 45 dC_admit_44 rfl rfl ?_
        refine x_iconst 2 46 dC_admit_45 rfl rfl ?_
        refine y_O8 49 pC_admit_157 dC_admit_46 rfl (by assumption) ?_
        refine x_goto 68 dC_admit_49 (by decide) ?_
        exact x_vret dC_admit_68 rfl ⟨rfl, HS.ig h17 (HS.ig h33 (HS.ig (fun q => q h41) (⟨P, rfl, hQ, hP2⟩)))⟩
  · skip
    refine x_aload_n 21 dC_admit_20 rfl rfl ?_
    refine x_iconst 1 22 dC_admit_21 rfl rfl ?_
    refine y_O8 25 pC_admit_157 dC_admit_22 rfl (by assumption) ?_
    refine x_goto 68 dC_admit_25 (by decide) ?_
    exact x_vret dC_admit_68 rfl ⟨rfl, HS.ip h17 (⟨P, rfl, hQ, hP2⟩)⟩
theorem cC_admit {k i : Nat} (hS : HS N (I, J, V, ls) A B h) (hC : CI N I ls) (hk : k < N) (hi : i < 2) (hno : ∀ j < 4, k ∉ ls j) (hT0 : 0 ≤ (I 13 0).toInt) (hT1 : (I 13 0).toInt + 219 < 2147483648) : x_C l G mC_admit 5 0 0 [xR (some (5, 0)), xR (some (0, k)), xR (some (3, i))] h [] (x_ex none (HS N (adS I J V ls k i) A B)) := by
  obtain ⟨P, rfl, hQ, hP2⟩ := hS.out
  refine x_C.at [some (xR (some (5, 0))), some (xR (some (0, k))), some (xR (some (3, i)))] rfl (Nat.le_of_ble_eq_true rfl) rfl ?_
  refine x_aload_n 1 dC_admit_0 rfl rfl ?_
  refine x_get _ 4 fC_74 dC_admit_1 rfl (h_B (by assumption)) rfl ?_
  refine x_if_eq 13 7 dC_admit_4 (by decide) rfl (fun h4 => ?_) (fun h4 => ?_)
  · skip
    have hx := lp_admit (l := l) (G := G) hS hk hi hno
    unfold adS
    rw [if_pos h4]
    exact hx
  · skip
    refine x_aload_n 8 dC_admit_7 rfl rfl ?_
    refine x_aload_n 9 dC_admit_8 rfl rfl ?_
    refine x_aload_n 10 dC_admit_9 rfl rfl ?_
    refine x_gVn 13 (cC_meet hS hC hk hi hT0 hT1) kC_207 oC_meet rfl rfl dC_admit_10 rfl rfl (by decide) (Nat.le_of_ble_eq_true rfl) (fun h1 hq => ?_)
    skip
    have hm := (mtF_ok k (fdx i (I 3 k)) (fdx_lt hi _) 219 I J V ls hC hT0 (by omega)).2.2.1
    have hx := lp_admit (l := l) (G := G) (I := (mtF k (fdx i (I 3 k)) 219 (I, J, V, ls)).1) (J := (mtF k (fdx i (I 3 k)) 219 (I, J, V, ls)).2.1) (V := (mtF k (fdx i (I 3 k)) 219 (I, J, V, ls)).2.2.1) (ls := (mtF k (fdx i (I 3 k)) 219 (I, J, V, ls)).2.2.2) hq hk hi (fun j hj q => hno j hj (hm j hj k q))
    unfold adS
    rw [if_neg h4]
    exact hx
def exS (I : Nat → Nat → Int32) (J : Nat → Nat → Int64) (V : Nat → Nat → Int32) (ls : Nat → List Nat) (b s : Nat) (p : Int32) : cS := (exI I b s p (i_min (I 6 b) (I 6 s)), exJ I J b s p (i_min (I 6 b) (I 6 s)), exV I V b s (i_min (I 6 b) (I 6 s)), ls)
def kf2 (S : cS) (o : Nat) : cS := kfS S.1 S.2.1 S.2.2.1 S.2.2.2 o
def tas (I : Nat → Nat → Int32) (J : Nat → Nat → Int64) (V : Nat → Nat → Int32) (ls : Nat → List Nat) (b s : Nat) (p : Int32) : cS := kf2 (kf2 (exS I J V ls b s p) b) s
def taF (i : Nat) (p : Int32) : Nat → cS → Int32 → Int32 × cS
  | 0, S, v => (v, S)
  | n + 1, S, v => match S.2.2.2 (2 * i), S.2.2.2 (2 * i + 1) with
    | b :: _, s :: _ => if acc S.1 b p then (if acc S.1 s p then taF i p n (tas S.1 S.2.1 S.2.2.1 S.2.2.2 b s p) (v + i_min (S.1 6 b) (S.1 6 s)) else (v, S)) else (v, S)
    | _, _ => (v, S)
theorem kfS_KP (o : Nat) : KP I (kfS I J V ls o).1 ∧ (kfS I J V ls o).1 13 = I 13 := by
  unfold kfS
  split <;> exact ⟨⟨rfl, rfl, rfl, rfl, rfl, rfl, rfl, rfl⟩, rfl⟩
theorem kfS_ls (o : Nat) : ∀ i, ∀ x ∈ (kfS I J V ls o).2.2.2 i, x ∈ ls i := by
  unfold kfS
  intro i x hx
  split at hx
  · exact lvL_sub hx
  · exact hx
theorem tas_ok (b s : Nat) (p : Int32) : KP I (tas I J V ls b s p).1 ∧ (tas I J V ls b s p).1 13 0 = I 13 0 + 1 ∧ ∀ i, ∀ x ∈ (tas I J V ls b s p).2.2.2 i, x ∈ ls i := by
  have e1 : KP I (exS I J V ls b s p).1 ∧ (exS I J V ls b s p).1 13 0 = I 13 0 + 1 := ⟨⟨rfl, rfl, rfl, rfl, rfl, rfl, rfl, rfl⟩, rfl⟩
  have e2 := kfS_KP (I := (exS I J V ls b s p).1) (J := (exS I J V ls b s p).2.1) (V := (exS I J V ls b s p).2.2.1) (ls := (exS I J V ls b s p).2.2.2) b
  have e3 := kfS_KP (I := (kf2 (exS I J V ls b s p) b).1) (J := (kf2 (exS I J V ls b s p) b).2.1) (V := (kf2 (exS I J V ls b s p) b).2.2.1) (ls := (kf2 (exS I J V ls b s p) b).2.2.2) s
  refine ⟨KP.tr e1.1 (KP.tr e2.1 e3.1), ?_, fun i x hx => kfS_ls b i x (kfS_ls s i x hx)⟩
  have h3 : (tas I J V ls b s p).1 13 = (kf2 (exS I J V ls b s p) b).1 13 := e3.2
  have h2 : (kf2 (exS I J V ls b s p) b).1 13 = (exS I J V ls b s p).1 13 := e2.2
  rw [h3, h2]
  exact e1.2
theorem CI.sub {I' : Nat → Nat → Int32} {ls' : Nat → List Nat} (q : CI N I ls) (hk : KP I I') (hl : ∀ i, ∀ x ∈ ls' i, x ∈ ls i) : CI N I' ls' := q.re hk.2.1 hk.2.2.1 hk.2.2.2.1 hk.2.2.2.2.2.1 (fun j _ o ho => Or.inl (hl j o ho))
theorem taF_s {i n b s : Nat} {p v : Int32} {cb cs : List Nat} (hb : ls (2 * i) = b :: cb) (hs : ls (2 * i + 1) = s :: cs) (ha : acc I b p) (ha2 : acc I s p) : taF i p (n + 1) (I, J, V, ls) v = taF i p n (tas I J V ls b s p) (v + i_min (I 6 b) (I 6 s)) := by
  simp only [taF, hb, hs, if_pos ha, if_pos ha2]
theorem taF_0 {i n : Nat} {p v : Int32} (h0 : ls (2 * i) = [] ∨ ls (2 * i + 1) = [] ∨ ∃ b cb s cs, ls (2 * i) = b :: cb ∧ ls (2 * i + 1) = s :: cs ∧ (¬ acc I b p ∨ ¬ acc I s p)) : taF i p (n + 1) (I, J, V, ls) v = (v, (I, J, V, ls)) := by
  rcases h0 with h0 | h0 | ⟨b, cb, s, cs, hb, hs, h0⟩
  · simp only [taF, h0]
  · cases hb : ls (2 * i) with
    | nil => simp only [taF, hb]
    | cons b cb => simp only [taF, hb, h0]
  · rcases h0 with h0 | h0
    · simp only [taF, hb, hs, if_neg h0]
    · by_cases ha : acc I b p
      · simp only [taF, hb, hs, if_pos ha, if_neg h0]
      · simp only [taF, hb, hs, if_neg ha]
theorem c120 : (120 : Int32).toInt = 120 := by decide
/-- an int and the class's state -/
def QR (N : Nat) (R : Int32 × cS) (A : Nat → Nat → Int32) (B : Nat → Nat → Int64) : Option xV → xH → Prop := x_ex (some (xI R.1)) (HS N R.2 A B)
theorem QR.ip {c : Prop} [Decidable c] {S1 S2 : Int32 × cS} {r : Option xV} (hc : c) (q : QR N S1 A B r h) : QR N (if c then S1 else S2) A B r h := by rw [if_pos hc]; exact q
theorem QR.ig {c : Prop} [Decidable c] {S1 S2 : Int32 × cS} {r : Option xV} (hc : ¬ c) (q : QR N S2 A B r h) : QR N (if c then S1 else S2) A B r h := by rw [if_neg hc]; exact q
theorem lp_tradeAll {i : Nat} (hi : i < 2) (p : Int32) (T : Int32 × cS) : ∀ (n : Nat) (I : Nat → Nat → Int32) (J : Nat → Nat → Int64) (V : Nat → Nat → Int32) (ls : Nat → List Nat) (v e : Int32) (x y z : Option xV) (h : xH), HS N (I, J, V, ls) A B h → CI N I ls → e.toInt + n = 120 → 0 ≤ e.toInt → 0 ≤ (I 13 0).toInt → (I 13 0).toInt + n < 2147483648 → taF i p n (I, J, V, ls) v = T → x_X l G mC_tradeAll 4 0 0 [] (QR N T A B) 5 [some (xR (some (5, 0))), some (xR (some (3, i))), some (xI p), some (xI v), some (xI e), x, y, z] [] h := by
  intro n
  induction n with
  | zero =>
    intro I J V ls v e x y z h hS hC he1 he0 hT0 hT1 hT
    subst hT
    obtain ⟨P, rfl, hQ, hP2⟩ := hS.out
    refine x_iload 7 dC_tradeAll_5 rfl rfl ?_
    refine x_bipush (120) 9 dC_tradeAll_7 rfl rfl ?_
    refine x_icmp_ge 109 12 dC_tradeAll_9 (by decide) rfl (fun h9 => ?_) (fun h9 => absurd (show (120 : Int32) ≤ e from by rw [i_le, c120]; omega) h9)
    refine x_iload_n 110 dC_tradeAll_109 rfl rfl ?_
    exact x_iret dC_tradeAll_110 rfl rfl ⟨rfl, P, rfl, hQ, hP2⟩
  | succ n ih =>
    intro I J V ls v e x y z h hS hC he1 he0 hT0 hT1 hT
    obtain ⟨P, rfl, hQ, hP2⟩ := hS.out
    have hlt : ¬ (120 : Int32) ≤ e := by rw [i_le, c120]; omega
    have hj0 : 2 * i < 4 := by omega
    have hj1 : 2 * i + 1 < 4 := by omega
    have hcb := hQ.1 (2 * i) hj0
    have hcs := hQ.1 (2 * i + 1) hj1
    have hi1 := i_inc (p := e) (by omega) (by omega)
    cases hlb : ls (2 * i) with
    | nil =>
      rw [hlb] at hcb
      have hcb : P 1 (2 * i) = none := hcb
      refine x_iload 7 dC_tradeAll_5 rfl rfl ?_
      refine x_bipush (120) 9 dC_tradeAll_7 rfl rfl ?_
      refine x_icmp_ge 109 12 dC_tradeAll_9 (by decide) rfl (fun h9 => absurd h9 hlt) (fun h9 => ?_)
      refine x_aload_n 13 dC_tradeAll_12 rfl rfl ?_
      refine x_get _ 16 fC_188 dC_tradeAll_13 rfl (h_B (by assumption)) rfl ?_
      refine x_get _ 19 fC_140 dC_tradeAll_16 rfl (h_D (by assumption)) rfl ?_
      rw [hcb]
      refine x_astore 21 dC_tradeAll_19 rfl (by decide) rfl ?_
      refine x_aload_n 22 dC_tradeAll_21 rfl rfl ?_
      refine x_get _ 25 fC_195 dC_tradeAll_22 rfl (h_B (by assumption)) rfl ?_
      refine x_get _ 28 fC_140 dC_tradeAll_25 rfl (h_D (by assumption)) rfl ?_
      refine x_astore 30 dC_tradeAll_28 rfl (by decide) rfl ?_
      refine x_aload 32 dC_tradeAll_30 rfl rfl ?_
      refine x_ifnull_n 58 35 dC_tradeAll_32 (by decide) rfl ?_
      refine x_iload_n 59 dC_tradeAll_58 rfl rfl ?_
      exact x_iret dC_tradeAll_59 rfl rfl ⟨by rw [← hT, taF_0 (Or.inl hlb)], by rw [← hT, taF_0 (Or.inl hlb)]; exact ⟨P, rfl, hQ, hP2⟩⟩
    | cons b cb =>
      rw [hlb] at hcb
      have hcb : P 1 (2 * i) = some (0, b) := hcb.1
      have hbl : b ∈ ls (2 * i) := by rw [hlb]; exact List.mem_cons_self
      have hb := hQ.2.1 _ hj0 b hbl
      have ob := hC.1 b hb
      cases hls : ls (2 * i + 1) with
      | nil =>
        rw [hls] at hcs
        have hcs : P 1 (2 * i + 1) = none := hcs
        refine x_iload 7 dC_tradeAll_5 rfl rfl ?_
        refine x_bipush (120) 9 dC_tradeAll_7 rfl rfl ?_
        refine x_icmp_ge 109 12 dC_tradeAll_9 (by decide) rfl (fun h9 => absurd h9 hlt) (fun h9 => ?_)
        refine x_aload_n 13 dC_tradeAll_12 rfl rfl ?_
        refine x_get _ 16 fC_188 dC_tradeAll_13 rfl (h_B (by assumption)) rfl ?_
        refine x_get _ 19 fC_140 dC_tradeAll_16 rfl (h_D (by assumption)) rfl ?_
        rw [hcb]
        refine x_astore 21 dC_tradeAll_19 rfl (by decide) rfl ?_
        refine x_aload_n 22 dC_tradeAll_21 rfl rfl ?_
        refine x_get _ 25 fC_195 dC_tradeAll_22 rfl (h_B (by assumption)) rfl ?_
        refine x_get _ 28 fC_140 dC_tradeAll_25 rfl (h_D (by assumption)) rfl ?_
        rw [hcs]
        refine x_astore 30 dC_tradeAll_28 rfl (by decide) rfl ?_
        refine x_aload 32 dC_tradeAll_30 rfl rfl ?_
        refine x_ifnull_s 58 35 dC_tradeAll_32 (by decide) rfl ?_
        refine x_aload 37 dC_tradeAll_35 rfl rfl ?_
        refine x_ifnull_n 58 40 dC_tradeAll_37 (by decide) rfl ?_
        refine x_iload_n 59 dC_tradeAll_58 rfl rfl ?_
        exact x_iret dC_tradeAll_59 rfl rfl ⟨by rw [← hT, taF_0 (Or.inr (Or.inl hls))], by rw [← hT, taF_0 (Or.inr (Or.inl hls))]; exact ⟨P, rfl, hQ, hP2⟩⟩
      | cons s cs =>
        rw [hls] at hcs
        have hcs : P 1 (2 * i + 1) = some (0, s) := hcs.1
        have hsl : s ∈ ls (2 * i + 1) := by rw [hls]; exact List.mem_cons_self
        have hs := hQ.2.1 _ hj1 s hsl
        have os := hC.1 s hs
        refine x_iload 7 dC_tradeAll_5 rfl rfl ?_
        refine x_bipush (120) 9 dC_tradeAll_7 rfl rfl ?_
        refine x_icmp_ge 109 12 dC_tradeAll_9 (by decide) rfl (fun h9 => absurd h9 hlt) (fun h9 => ?_)
        refine x_aload_n 13 dC_tradeAll_12 rfl rfl ?_
        refine x_get _ 16 fC_188 dC_tradeAll_13 rfl (h_B (by assumption)) rfl ?_
        refine x_get _ 19 fC_140 dC_tradeAll_16 rfl (h_D (by assumption)) rfl ?_
        rw [hcb]
        refine x_astore 21 dC_tradeAll_19 rfl (by decide) rfl ?_
        refine x_aload_n 22 dC_tradeAll_21 rfl rfl ?_
        refine x_get _ 25 fC_195 dC_tradeAll_22 rfl (h_B (by assumption)) rfl ?_
        refine x_get _ 28 fC_140 dC_tradeAll_25 rfl (h_D (by assumption)) rfl ?_
        rw [hcs]
        refine x_astore 30 dC_tradeAll_28 rfl (by decide) rfl ?_
        refine x_aload 32 dC_tradeAll_30 rfl rfl ?_
        refine x_ifnull_s 58 35 dC_tradeAll_32 (by decide) rfl ?_
        refine x_aload 37 dC_tradeAll_35 rfl rfl ?_
        refine x_ifnull_s 58 40 dC_tradeAll_37 (by decide) rfl ?_
        refine x_aload 42 dC_tradeAll_40 rfl rfl ?_
        refine x_iload_n 43 dC_tradeAll_42 rfl rfl ?_
        refine x_fVv 46 (cO_accepts hb _) kC_223 oO_accepts rfl (h_O (by assumption)) dC_tradeAll_43 rfl rfl (by decide) (Nat.le_of_ble_eq_true rfl) ?_
        refine x_if_eq 58 49 dC_tradeAll_46 (by decide) rfl (fun h46 => ?_) (fun h46 => ?_)
        · skip
          refine x_iload_n 59 dC_tradeAll_58 rfl rfl ?_
          exact x_iret dC_tradeAll_59 rfl rfl ⟨by rw [← hT, taF_0 (Or.inr (Or.inr ⟨b, cb, s, cs, hlb, hls, Or.inl (b01_z.mp h46)⟩))], by rw [← hT, taF_0 (Or.inr (Or.inr ⟨b, cb, s, cs, hlb, hls, Or.inl (b01_z.mp h46)⟩))]; exact ⟨P, rfl, hQ, hP2⟩⟩
        · skip
          refine x_aload 51 dC_tradeAll_49 rfl rfl ?_
          refine x_iload_n 52 dC_tradeAll_51 rfl rfl ?_
          refine x_fVv 55 (cO_accepts hs _) kC_223 oO_accepts rfl (h_O (by assumption)) dC_tradeAll_52 rfl rfl (by decide) (Nat.le_of_ble_eq_true rfl) ?_
          refine x_if_ne 60 58 dC_tradeAll_55 (by decide) rfl (fun h55 => ?_) (fun h55 => ?_)
          · skip
            refine x_aload 62 dC_tradeAll_60 rfl rfl ?_
            refine x_get _ 65 fC_107 dC_tradeAll_62 rfl (h_O (by assumption)) rfl ?_
            refine x_aload 67 dC_tradeAll_65 rfl rfl ?_
            refine x_get _ 70 fC_107 dC_tradeAll_67 rfl (h_O (by assumption)) rfl ?_
            refine x_mmin 73 kC_113 dC_tradeAll_70 rfl (by decide) (Nat.le_of_ble_eq_true rfl) ?_
            refine x_istore 75 dC_tradeAll_73 rfl (by decide) rfl ?_
            refine x_aload_n 76 dC_tradeAll_75 rfl rfl ?_
            refine x_aload 78 dC_tradeAll_76 rfl rfl ?_
            refine x_aload 80 dC_tradeAll_78 rfl rfl ?_
            refine x_iload_n 81 dC_tradeAll_80 rfl rfl ?_
            refine x_iload 83 dC_tradeAll_81 rfl rfl ?_
            refine x_fVn 86 (cC_exchange hb hs ob os hT0 _ _) kC_230 oC_exchange rfl rfl dC_tradeAll_83 rfl rfl (by decide) (Nat.le_of_ble_eq_true rfl) ?_
            refine x_aload_n 87 dC_tradeAll_86 rfl rfl ?_
            refine x_aload 89 dC_tradeAll_87 rfl rfl ?_
            refine x_gVn 92 (cC_keepOrFill (I := (exS I J V ls b s p).1) (J := (exS I J V ls b s p).2.1) (V := (exS I J V ls b s p).2.2.1) (ls := ls) (by exact ⟨P, rfl, hQ, hP2⟩) hb (by exact ob.2.1)) kC_237 oC_keepOrFill rfl rfl dC_tradeAll_89 rfl rfl (by decide) (Nat.le_of_ble_eq_true rfl) (fun h1 hq => ?_)
            have hq1 : HS N (kf2 (exS I J V ls b s p) b) A B h1 := hq
            clear hq
            obtain ⟨P1, hh1, hQ1, hP21⟩ := hq1
            subst hh1
            refine x_aload_n 93 dC_tradeAll_92 rfl rfl ?_
            refine x_aload 95 dC_tradeAll_93 rfl rfl ?_
            refine x_gVn 98 (cC_keepOrFill (I := (kf2 (exS I J V ls b s p) b).1) (J := (kf2 (exS I J V ls b s p) b).2.1) (V := (kf2 (exS I J V ls b s p) b).2.2.1) (ls := (kf2 (exS I J V ls b s p) b).2.2.2) (by exact ⟨P1, rfl, hQ1, hP21⟩) hs (by have := (kfS_KP (I := (exS I J V ls b s p).1) (J := (exS I J V ls b s p).2.1) (V := (exS I J V ls b s p).2.2.1) (ls := (exS I J V ls b s p).2.2.2) b).1.2.2.1; show vp_in ((kfS _ _ _ _ b).1 2 s) 2; rw [this]; exact os.2.1)) kC_237 oC_keepOrFill rfl rfl dC_tradeAll_95 rfl rfl (by decide) (Nat.le_of_ble_eq_true rfl) (fun h1 hq => ?_)
            skip
            refine x_iload_n 99 dC_tradeAll_98 rfl rfl ?_
            refine x_iload 101 dC_tradeAll_99 rfl rfl ?_
            refine x_iadd 102 dC_tradeAll_101 rfl ?_
            refine x_istore_n 103 dC_tradeAll_102 rfl (by decide) rfl ?_
            refine x_iinc 106 dC_tradeAll_103 rfl rfl (by decide) rfl ?_
            refine x_goto 5 dC_tradeAll_106 (by decide) ?_
            have ht := tas_ok (I := I) (J := J) (V := V) (ls := ls) b s p
            have hi13 : ((tas I J V ls b s p).1 13 0).toInt = (I 13 0).toInt + 1 := by rw [ht.2.1]; exact i_p1 hT0 (by omega)
            exact ih (tas I J V ls b s p).1 (tas I J V ls b s p).2.1 (tas I J V ls b s p).2.2.1 (tas I J V ls b s p).2.2.2 _ _ _ _ _ h1 hq (hC.sub ht.1 ht.2.2) (by rw [hi1]; omega) (by rw [hi1]; omega) (by rw [hi13]; omega) (by rw [hi13]; omega) (by rw [← hT, taF_s hlb hls (b01_nz.mp h46) (b01_nz.mp h55)])
          · skip
            refine x_iload_n 59 dC_tradeAll_58 rfl rfl ?_
            exact x_iret dC_tradeAll_59 rfl rfl ⟨by rw [← hT, taF_0 (Or.inr (Or.inr ⟨b, cb, s, cs, hlb, hls, Or.inr (b01_z.mp h55)⟩))], by rw [← hT, taF_0 (Or.inr (Or.inr ⟨b, cb, s, cs, hlb, hls, Or.inr (b01_z.mp h55)⟩))]; exact ⟨P, rfl, hQ, hP2⟩⟩
theorem cC_tradeAll {i : Nat} (hS : HS N (I, J, V, ls) A B h) (hC : CI N I ls) (hi : i < 2) (p : Int32) (hT0 : 0 ≤ (I 13 0).toInt) (hT1 : (I 13 0).toInt + 120 < 2147483648) : x_C l G mC_tradeAll 4 0 0 [xR (some (5, 0)), xR (some (3, i)), xI p] (h) [] (QR N (taF i p 120 (I, J, V, ls) 0) A B) := by
  obtain ⟨P, rfl, hQ, hP2⟩ := hS.out
  refine x_C.at [some (xR (some (5, 0))), some (xR (some (3, i))), some (xI p), none, none, none, none, none] rfl (Nat.le_of_ble_eq_true rfl) rfl ?_
  refine x_iconst 0 1 dC_tradeAll_0 rfl rfl ?_
  refine x_istore_n 2 dC_tradeAll_1 rfl (by decide) rfl ?_
  refine x_iconst 0 3 dC_tradeAll_2 rfl rfl ?_
  refine x_istore 5 dC_tradeAll_3 rfl (by decide) rfl ?_
  exact lp_tradeAll hi p _ 120 I J V ls 0 0 _ _ _ _ hS hC (by decide) (by decide) hT0 (by omega) rfl
end M7
