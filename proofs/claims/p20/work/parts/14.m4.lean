section M4
variable {l : Launch} {G : xG} {N : Nat} {I : Nat → Nat → Int32} {J : Nat → Nat → Int64} {P : Nat → Nat → Option xQ} {V : Nat → Nat → Int32} {A : Nat → Nat → Int32} {B : Nat → Nat → Int64}
variable {h : xH}
theorem i_nat (i : Int32) : i.toNatClampNeg = i.toInt.toNat := rfl
theorem vp_of {i : Int32} {n : Nat} (h0 : 0 ≤ i.toInt) (h1 : i.toInt < n) : vp_in i n := by
  rintro (h | h)
  · rw [Int32.lt_iff_toInt_lt, Int32.toInt_zero] at h
    omega
  · rw [i_nat] at h
    omega
theorem vp_to {i : Int32} {n : Nat} (h : vp_in i n) : 0 ≤ i.toInt ∧ i.toInt < n := by
  have h0 : ¬ i < 0 := fun q => h (Or.inl q)
  have h1 := vp_lt h
  rw [Int32.lt_iff_toInt_lt, Int32.toInt_zero] at h0
  rw [i_nat] at h1
  omega
theorem i_one : (Int32.ofInt 1).toInt = 1 := by decide
theorem i_mone : (Int32.ofInt (-1)).toInt = -1 := by decide
theorem i_inc {p : Int32} (h0 : -2147483648 ≤ p.toInt) (hk : p.toInt < 2147483647) : (p + Int32.ofInt 1).toInt = p.toInt + 1 := by
  rw [Kit.i32_add (by rw [i_one]; omega) (by rw [i_one]; omega), i_one]
theorem i_dec {p : Int32} (h0 : -2147483648 < p.toInt) : (p + Int32.ofInt (-1)).toInt = p.toInt - 1 := by
  have := p.toInt_lt
  rw [Kit.i32_add (by rw [i_mone]; omega) (by rw [i_mone]; omega), i_mone]
  omega
theorem i_lt {a b : Int32} : a < b ↔ a.toInt < b.toInt := Int32.lt_iff_toInt_lt
theorem i_le {a b : Int32} : a ≤ b ↔ a.toInt ≤ b.toInt := Int32.le_iff_toInt_le
theorem i_p1 {p : Int32} (h0 : 0 ≤ p.toInt) (hk : p.toInt < 2147483647) : (p + 1).toInt = p.toInt + 1 := i_inc (by omega) hk
theorem i_m1 {p : Int32} (h0 : 0 ≤ p.toInt) : (p - 1).toInt = p.toInt - 1 := by
  have := p.toInt_lt
  rw [Kit.i32_sub (by rw [show (1 : Int32).toInt = 1 by decide]; omega) (by rw [show (1 : Int32).toInt = 1 by decide]; omega)]
  rfl
def vol (I : Nat → Nat → Int32) (p : Int32) : Int32 := i_min (I 15 p.toNatClampNeg) (I 16 p.toNatClampNeg)
def sur (I : Nat → Nat → Int32) (p : Int32) : Int32 := I 15 p.toNatClampNeg - I 16 p.toNatClampNeg
theorem cS_volumeAt {p : Int32} (hp1 : vp_in p 65) : x_C l G mS_volumeAt 1 0 0 [xR (some (11, 0)), xI p] (hp N I J P V A B) [] (x_is (some (xI (vol I p))) (hp N I J P V A B)) := by
  refine x_C.at [some (xR (some (11, 0))), some (xI p)] rfl (Nat.le_of_ble_eq_true rfl) rfl ?_
  refine x_aload_n 1 dS_volumeAt_0 rfl rfl ?_
  refine x_get _ 4 fS_9 dS_volumeAt_1 rfl rfl rfl ?_
  refine x_iload_n 5 dS_volumeAt_4 rfl rfl ?_
  refine x_iald 6 dS_volumeAt_5 rfl rfl (by assumption) ?_
  refine x_aload_n 7 dS_volumeAt_6 rfl rfl ?_
  refine x_get _ 10 fS_15 dS_volumeAt_7 rfl rfl rfl ?_
  refine x_iload_n 11 dS_volumeAt_10 rfl rfl ?_
  refine x_iald 12 dS_volumeAt_11 rfl rfl (by assumption) ?_
  refine x_mmin 15 kS_44 dS_volumeAt_12 rfl (by decide) (Nat.le_of_ble_eq_true rfl) ?_
  exact x_iret dS_volumeAt_15 rfl rfl ⟨rfl, rfl⟩
theorem cS_surplusAt {p : Int32} (hp1 : vp_in p 65) : x_C l G mS_surplusAt 0 0 0 [xR (some (11, 0)), xI p] (hp N I J P V A B) [] (x_is (some (xI (sur I p))) (hp N I J P V A B)) := by
  refine x_C.at [some (xR (some (11, 0))), some (xI p)] rfl (Nat.le_of_ble_eq_true rfl) rfl ?_
  refine x_aload_n 1 dS_surplusAt_0 rfl rfl ?_
  refine x_get _ 4 fS_9 dS_surplusAt_1 rfl rfl rfl ?_
  refine x_iload_n 5 dS_surplusAt_4 rfl rfl ?_
  refine x_iald 6 dS_surplusAt_5 rfl rfl (by assumption) ?_
  refine x_aload_n 7 dS_surplusAt_6 rfl rfl ?_
  refine x_get _ 10 fS_15 dS_surplusAt_7 rfl rfl rfl ?_
  refine x_iload_n 11 dS_surplusAt_10 rfl rfl ?_
  refine x_iald 12 dS_surplusAt_11 rfl rfl (by assumption) ?_
  refine x_isub 13 dS_surplusAt_12 rfl ?_
  exact x_iret dS_surplusAt_13 rfl rfl ⟨rfl, rfl⟩
def fl (I : Nat → Nat → Int32) (c n : Nat) : Nat → Nat → Int32 := fun c' => if c' = c then (fun k => if k < n then 0 else I c k) else I c'
theorem fl_step (I : Nat → Nat → Int32) (c n : Nat) : si (fl I c n) c n 0 = fl I c (n + 1) := by
  funext c' k
  by_cases hc : c' = c
  · subst hc
    simp only [si, fl, if_true, x_uf]
    by_cases hk : k = n
    · subst hk; simp
    · have h1 : (k < n) ↔ (k < n + 1) := by omega
      simp [hk, h1]
  · simp [si, fl, hc]
theorem fl_zero (I : Nat → Nat → Int32) (c : Nat) : fl I c 0 = I := by
  funext c' k
  by_cases hc : c' = c
  · subst hc; simp [fl]
  · simp [fl, hc]
theorem of_nat {n : Nat} (h : n < 2147483648) : (Int32.ofNat n).toInt = n := by
  rw [Int32.toInt_ofNat_of_lt (by omega)]
theorem lp_fill_bought : ∀ (n k : Nat) (i : Int32), i.toInt = k → k + n = 65 → x_X l G mY_fill 0 0 0 [] (x_is none (hp N (fl I 15 65) J P V A B)) 5 [some (xR (some (12, 0))), some (xI 0), some (xI i), some (xI (Int32.ofNat 65))] [] (hp N (fl I 15 k) J P V A B) := by
  intro n
  induction n with
  | zero =>
    intro k i hi hk
    refine x_iload_n 6 dY_fill_5 rfl rfl ?_
    refine x_iload_n 7 dY_fill_6 rfl rfl ?_
    refine x_icmp_ge 20 10 dY_fill_7 (by decide) rfl (fun h7 => ?_) (fun h7 => absurd (show (Int32.ofNat 65) ≤ i from by rw [i_le, of_nat (by decide)]; omega) h7)
    exact x_vret dY_fill_20 rfl ⟨rfl, by rw [show k = 65 by omega]⟩
  | succ n ih =>
    intro k i hi hk
    have hin : vp_in i 65 := vp_of (by omega) (by omega)
    refine x_iload_n 6 dY_fill_5 rfl rfl ?_
    refine x_iload_n 7 dY_fill_6 rfl rfl ?_
    refine x_icmp_ge 20 10 dY_fill_7 (by decide) rfl (fun h7 => absurd h7 (show ¬ (Int32.ofNat 65) ≤ i from by rw [i_le, of_nat (by decide)]; omega)) (fun h7 => ?_)
    refine x_aload_n 11 dY_fill_10 rfl rfl ?_
    refine x_iload_n 12 dY_fill_11 rfl rfl ?_
    refine x_iload_n 13 dY_fill_12 rfl rfl ?_
    refine y_bought 14 dY_fill_13 rfl (by assumption) ?_
    refine x_iinc 17 dY_fill_14 rfl rfl (by decide) rfl ?_
    refine x_goto 5 dY_fill_17 (by decide) ?_
    rw [show i.toNatClampNeg = k by rw [i_nat]; omega, fl_step]
    exact ih (k + 1) _ (by rw [i_inc (by omega) (by omega)]; omega) (by omega)
theorem cY_fill_bought  : x_C l G mY_fill 0 0 0 [xR (some (12, 0)), xI 0] (hp N I J P V A B) [] (x_is none (hp N (fl I 15 65) J P V A B)) := by
  refine x_C.at [some (xR (some (12, 0))), some (xI 0), none, none] rfl (Nat.le_of_ble_eq_true rfl) rfl ?_
  refine x_iconst 0 1 dY_fill_0 rfl rfl ?_
  refine x_istore_n 2 dY_fill_1 rfl (by decide) rfl ?_
  refine x_aload_n 3 dY_fill_2 rfl rfl ?_
  refine x_alen 4 rfl dY_fill_3 rfl rfl ?_
  refine x_istore_n 5 dY_fill_4 rfl (by decide) rfl ?_
  have := lp_fill_bought (l := l) (G := G) (N := N) (I := I) (J := J) (P := P) (V := V) (A := A) (B := B) 65 0 0 rfl rfl
  rw [fl_zero] at this
  exact this
theorem lp_fill_sold : ∀ (n k : Nat) (i : Int32), i.toInt = k → k + n = 65 → x_X l G mY_fill 0 0 0 [] (x_is none (hp N (fl I 16 65) J P V A B)) 5 [some (xR (some (13, 0))), some (xI 0), some (xI i), some (xI (Int32.ofNat 65))] [] (hp N (fl I 16 k) J P V A B) := by
  intro n
  induction n with
  | zero =>
    intro k i hi hk
    refine x_iload_n 6 dY_fill_5 rfl rfl ?_
    refine x_iload_n 7 dY_fill_6 rfl rfl ?_
    refine x_icmp_ge 20 10 dY_fill_7 (by decide) rfl (fun h7 => ?_) (fun h7 => absurd (show (Int32.ofNat 65) ≤ i from by rw [i_le, of_nat (by decide)]; omega) h7)
    exact x_vret dY_fill_20 rfl ⟨rfl, by rw [show k = 65 by omega]⟩
  | succ n ih =>
    intro k i hi hk
    have hin : vp_in i 65 := vp_of (by omega) (by omega)
    refine x_iload_n 6 dY_fill_5 rfl rfl ?_
    refine x_iload_n 7 dY_fill_6 rfl rfl ?_
    refine x_icmp_ge 20 10 dY_fill_7 (by decide) rfl (fun h7 => absurd h7 (show ¬ (Int32.ofNat 65) ≤ i from by rw [i_le, of_nat (by decide)]; omega)) (fun h7 => ?_)
    refine x_aload_n 11 dY_fill_10 rfl rfl ?_
    refine x_iload_n 12 dY_fill_11 rfl rfl ?_
    refine x_iload_n 13 dY_fill_12 rfl rfl ?_
    refine y_sold 14 dY_fill_13 rfl (by assumption) ?_
    refine x_iinc 17 dY_fill_14 rfl rfl (by decide) rfl ?_
    refine x_goto 5 dY_fill_17 (by decide) ?_
    rw [show i.toNatClampNeg = k by rw [i_nat]; omega, fl_step]
    exact ih (k + 1) _ (by rw [i_inc (by omega) (by omega)]; omega) (by omega)
theorem cY_fill_sold  : x_C l G mY_fill 0 0 0 [xR (some (13, 0)), xI 0] (hp N I J P V A B) [] (x_is none (hp N (fl I 16 65) J P V A B)) := by
  refine x_C.at [some (xR (some (13, 0))), some (xI 0), none, none] rfl (Nat.le_of_ble_eq_true rfl) rfl ?_
  refine x_iconst 0 1 dY_fill_0 rfl rfl ?_
  refine x_istore_n 2 dY_fill_1 rfl (by decide) rfl ?_
  refine x_aload_n 3 dY_fill_2 rfl rfl ?_
  refine x_alen 4 rfl dY_fill_3 rfl rfl ?_
  refine x_istore_n 5 dY_fill_4 rfl (by decide) rfl ?_
  have := lp_fill_sold (l := l) (G := G) (N := N) (I := I) (J := J) (P := P) (V := V) (A := A) (B := B) 65 0 0 rfl rfl
  rw [fl_zero] at this
  exact this
def wgB (c0 : Nat) (I : Nat → Nat → Int32) : List Nat → Nat → Nat → Int32
  | [] => I
  | o :: c => wgB c0 (si I c0 (I 5 o).toNatClampNeg (I c0 (I 5 o).toNatClampNeg + I 6 o)) c
def cumB : Nat → Int32 → (Nat → Nat → Int32) → Nat → Nat → Int32
  | 0, _, I => I
  | n + 1, p, I => cumB n (p + Int32.ofInt (-1)) (si I 15 p.toNatClampNeg (I 15 p.toNatClampNeg + I 15 (p + 1).toNatClampNeg))
def cumS : Nat → Int32 → (Nat → Nat → Int32) → Nat → Nat → Int32
  | 0, _, I => I
  | n + 1, p, I => cumS n (p + Int32.ofInt 1) (si I 16 p.toNatClampNeg (I 16 p.toNatClampNeg + I 16 (p - 1).toNatClampNeg))
def wgh (I : Nat → Nat → Int32) (cb cs : List Nat) : Nat → Nat → Int32 := cumS 63 1 (cumB 63 63 (wgB 16 (wgB 15 (fl (fl I 15 65) 16 65) cb) cs))
theorem wgB_5 (I : Nat → Nat → Int32) (c0 : Nat) (hc : c0 = 15 ∨ c0 = 16) : ∀ c : List Nat, wgB c0 I c 5 = I 5
  | [] => rfl
  | o :: c => by
    rw [wgB, wgB_5 _ c0 hc c]
    rcases hc with rfl | rfl <;> rfl
theorem lp_w4 {i : Nat} (T : Nat → Nat → Int32) : ∀ (n : Nat) (p : Int32) (I : Nat → Nat → Int32), p.toInt + n = 64 → 1 ≤ p.toInt → cumS n p I = T → x_X l G mS_weigh 0 0 0 [] (x_is none (hp N T J P V A B)) 121 [some (xR (some (11, 0))), some (xR (some (3, i))), some (xI p)] [] (hp N I J P V A B) := by
  intro n
  induction n with
  | zero =>
    intro p I hp1 hp2 hT
    subst hT
    refine x_iload_n 122 dS_weigh_121 rfl rfl ?_
    refine x_bipush (63) 124 dS_weigh_122 rfl rfl ?_
    refine x_icmp_gt 150 127 dS_weigh_124 (by decide) rfl (fun h124 => ?_) (fun h124 => absurd (show (63 : Int32) < p from by rw [i_lt, show (63 : Int32).toInt = 63 by decide]; omega) h124)
    exact x_vret dS_weigh_150 rfl ⟨rfl, rfl⟩
  | succ n ih =>
    intro p I hp1 hp2 hT
    subst hT
    have hin : vp_in p 65 := vp_of (by omega) (by omega)
    have hin1 : vp_in (p - 1) 65 := vp_of (by rw [i_m1 (by omega)]; omega) (by rw [i_m1 (by omega)]; omega)
    refine x_iload_n 122 dS_weigh_121 rfl rfl ?_
    refine x_bipush (63) 124 dS_weigh_122 rfl rfl ?_
    refine x_icmp_gt 150 127 dS_weigh_124 (by decide) rfl (fun h124 => absurd h124 (show ¬ (63 : Int32) < p from by rw [i_lt, show (63 : Int32).toInt = 63 by decide]; omega)) (fun h124 => ?_)
    refine x_aload_n 128 dS_weigh_127 rfl rfl ?_
    refine x_get _ 131 fS_15 dS_weigh_128 rfl rfl rfl ?_
    refine x_iload_n 132 dS_weigh_131 rfl rfl ?_
    refine x_dup2 133 dS_weigh_132 rfl rfl rfl ?_
    refine x_iald 134 dS_weigh_133 rfl rfl hin ?_
    refine x_aload_n 135 dS_weigh_134 rfl rfl ?_
    refine x_get _ 138 fS_15 dS_weigh_135 rfl rfl rfl ?_
    refine x_iload_n 139 dS_weigh_138 rfl rfl ?_
    refine x_iconst 1 140 dS_weigh_139 rfl rfl ?_
    refine x_isub 141 dS_weigh_140 rfl ?_
    refine x_iald 142 dS_weigh_141 rfl rfl hin1 ?_
    refine x_iadd 143 dS_weigh_142 rfl ?_
    refine y_sold 144 dS_weigh_143 rfl hin ?_
    refine x_iinc 147 dS_weigh_144 rfl rfl (by decide) rfl ?_
    refine x_goto 121 dS_weigh_147 (by decide) ?_
    exact ih _ _ (by rw [i_inc (by omega) (by omega)]; omega) (by rw [i_inc (by omega) (by omega)]; omega) rfl
theorem lp_w3 {i : Nat} (T : Nat → Nat → Int32) : ∀ (n : Nat) (p : Int32) (I : Nat → Nat → Int32), p.toInt = n → n ≤ 63 → cumS 63 1 (cumB n p I) = T → x_X l G mS_weigh 0 0 0 [] (x_is none (hp N T J P V A B)) 91 [some (xR (some (11, 0))), some (xR (some (3, i))), some (xI p)] [] (hp N I J P V A B) := by
  intro n
  induction n with
  | zero =>
    intro p I hp1 hp2 hT
    subst hT
    refine x_iload_n 92 dS_weigh_91 rfl rfl ?_
    refine x_iconst 1 93 dS_weigh_92 rfl rfl ?_
    refine x_icmp_lt 119 96 dS_weigh_93 (by decide) rfl (fun h93 => ?_) (fun h93 => absurd (show p < (1 : Int32) from by rw [i_lt, show (1 : Int32).toInt = 1 by decide]; omega) h93)
    refine x_iconst 1 120 dS_weigh_119 rfl rfl ?_
    refine x_istore_n 121 dS_weigh_120 rfl (by decide) rfl ?_
    exact lp_w4 _ 63 1 _ (by decide) (by decide) rfl
  | succ n ih =>
    intro p I hp1 hp2 hT
    subst hT
    have hin : vp_in p 65 := vp_of (by omega) (by omega)
    have hin1 : vp_in (p + 1) 65 := vp_of (by rw [i_p1 (by omega) (by omega)]; omega) (by rw [i_p1 (by omega) (by omega)]; omega)
    refine x_iload_n 92 dS_weigh_91 rfl rfl ?_
    refine x_iconst 1 93 dS_weigh_92 rfl rfl ?_
    refine x_icmp_lt 119 96 dS_weigh_93 (by decide) rfl (fun h93 => absurd h93 (show ¬ p < (1 : Int32) from by rw [i_lt, show (1 : Int32).toInt = 1 by decide]; omega)) (fun h93 => ?_)
    refine x_aload_n 97 dS_weigh_96 rfl rfl ?_
    refine x_get _ 100 fS_9 dS_weigh_97 rfl rfl rfl ?_
    refine x_iload_n 101 dS_weigh_100 rfl rfl ?_
    refine x_dup2 102 dS_weigh_101 rfl rfl rfl ?_
    refine x_iald 103 dS_weigh_102 rfl rfl hin ?_
    refine x_aload_n 104 dS_weigh_103 rfl rfl ?_
    refine x_get _ 107 fS_9 dS_weigh_104 rfl rfl rfl ?_
    refine x_iload_n 108 dS_weigh_107 rfl rfl ?_
    refine x_iconst 1 109 dS_weigh_108 rfl rfl ?_
    refine x_iadd 110 dS_weigh_109 rfl ?_
    refine x_iald 111 dS_weigh_110 rfl rfl hin1 ?_
    refine x_iadd 112 dS_weigh_111 rfl ?_
    refine y_bought 113 dS_weigh_112 rfl hin ?_
    refine x_iinc 116 dS_weigh_113 rfl rfl (by decide) rfl ?_
    refine x_goto 91 dS_weigh_116 (by decide) ?_
    exact ih _ _ (by rw [i_dec (by omega)]; omega) (by omega) rfl
theorem lp_w2 {i : Nat} (T : Nat → Nat → Int32) : ∀ (c : List Nat) (I : Nat → Nat → Int32) (q : Option xQ), Ch P q c → (∀ o ∈ c, o < N) → (∀ o ∈ c, vp_in (I 5 o) 65) → cumS 63 1 (cumB 63 63 (wgB 16 I c)) = T → x_X l G mS_weigh 0 0 0 [] (x_is none (hp N T J P V A B)) 60 [some (xR (some (11, 0))), some (xR (some (3, i))), some (xR q)] [] (hp N I J P V A B) := by
  intro c
  induction c with
  | nil =>
    intro I q hc hl h5 hT
    subst hT
    have hq : q = none := hc
    subst hq
    refine x_aload_n 61 dS_weigh_60 rfl rfl ?_
    refine x_ifnull_n 88 64 dS_weigh_61 (by decide) rfl ?_
    refine x_bipush (63) 90 dS_weigh_88 rfl rfl ?_
    refine x_istore_n 91 dS_weigh_90 rfl (by decide) rfl ?_
    exact lp_w3 _ 63 63 _ (by decide) (by decide) rfl
  | cons a c ih =>
    intro I q hc hl h5 hT
    subst hT
    obtain ⟨rfl, hc⟩ := hc
    have ha := all_hd hl
    have hl := all_tl hl
    have h5a : vp_in (I 5 a) 65 := h5 a List.mem_cons_self
    have h5 : ∀ o ∈ c, vp_in (I 5 o) 65 := fun o ho => h5 o (List.mem_cons_of_mem _ ho)
    refine x_aload_n 61 dS_weigh_60 rfl rfl ?_
    refine x_ifnull_s 88 64 dS_weigh_61 (by decide) rfl ?_
    refine x_aload_n 65 dS_weigh_64 rfl rfl ?_
    refine x_get _ 68 fS_15 dS_weigh_65 rfl rfl rfl ?_
    refine x_aload_n 69 dS_weigh_68 rfl rfl ?_
    refine x_get _ 72 fS_64 dS_weigh_69 rfl (h_O (by assumption)) rfl ?_
    refine x_dup2 73 dS_weigh_72 rfl rfl rfl ?_
    refine x_iald 74 dS_weigh_73 rfl rfl h5a ?_
    refine x_aload_n 75 dS_weigh_74 rfl rfl ?_
    refine x_get _ 78 fS_69 dS_weigh_75 rfl (h_O (by assumption)) rfl ?_
    refine x_iadd 79 dS_weigh_78 rfl ?_
    refine y_sold 80 dS_weigh_79 rfl h5a ?_
    refine x_aload_n 81 dS_weigh_80 rfl rfl ?_
    refine x_get _ 84 fS_72 dS_weigh_81 rfl (h_O (by assumption)) rfl ?_
    refine x_astore_n 85 dS_weigh_84 rfl (by decide) rfl ?_
    refine x_goto 60 dS_weigh_85 (by decide) ?_
    exact ih _ _ hc hl h5 rfl
theorem lp_w1 {i : Nat} (hi : i < 2) (T : Nat → Nat → Int32) {cs : List Nat} (hcs : Ch P (P 1 (2 * i + 1)) cs) (hls : ∀ o ∈ cs, o < N) : ∀ (c : List Nat) (I : Nat → Nat → Int32) (q : Option xQ), Ch P q c → (∀ o ∈ c, o < N) → (∀ o ∈ c, vp_in (I 5 o) 65) → (∀ o ∈ cs, vp_in (I 5 o) 65) → cumS 63 1 (cumB 63 63 (wgB 16 (wgB 15 I c) cs)) = T → x_X l G mS_weigh 0 0 0 [] (x_is none (hp N T J P V A B)) 24 [some (xR (some (11, 0))), some (xR (some (3, i))), some (xR q)] [] (hp N I J P V A B) := by
  intro c
  induction c with
  | nil =>
    intro I q hc hl h5 h5s hT
    subst hT
    have hq : q = none := hc
    subst hq
    refine x_aload_n 25 dS_weigh_24 rfl rfl ?_
    refine x_ifnull_n 52 28 dS_weigh_25 (by decide) rfl ?_
    refine x_aload_n 53 dS_weigh_52 rfl rfl ?_
    refine x_get _ 56 fS_75 dS_weigh_53 rfl (h_B (by assumption)) rfl ?_
    refine x_get _ 59 fS_58 dS_weigh_56 rfl (h_D (by omega)) rfl ?_
    refine x_astore_n 60 dS_weigh_59 rfl (by decide) rfl ?_
    exact lp_w2 _ cs _ _ hcs hls h5s rfl
  | cons a c ih =>
    intro I q hc hl h5 h5s hT
    subst hT
    obtain ⟨rfl, hc⟩ := hc
    have ha := all_hd hl
    have hl := all_tl hl
    have h5a : vp_in (I 5 a) 65 := h5 a List.mem_cons_self
    have h5 : ∀ o ∈ c, vp_in (I 5 o) 65 := fun o ho => h5 o (List.mem_cons_of_mem _ ho)
    refine x_aload_n 25 dS_weigh_24 rfl rfl ?_
    refine x_ifnull_s 52 28 dS_weigh_25 (by decide) rfl ?_
    refine x_aload_n 29 dS_weigh_28 rfl rfl ?_
    refine x_get _ 32 fS_9 dS_weigh_29 rfl rfl rfl ?_
    refine x_aload_n 33 dS_weigh_32 rfl rfl ?_
    refine x_get _ 36 fS_64 dS_weigh_33 rfl (h_O (by assumption)) rfl ?_
    refine x_dup2 37 dS_weigh_36 rfl rfl rfl ?_
    refine x_iald 38 dS_weigh_37 rfl rfl h5a ?_
    refine x_aload_n 39 dS_weigh_38 rfl rfl ?_
    refine x_get _ 42 fS_69 dS_weigh_39 rfl (h_O (by assumption)) rfl ?_
    refine x_iadd 43 dS_weigh_42 rfl ?_
    refine y_bought 44 dS_weigh_43 rfl h5a ?_
    refine x_aload_n 45 dS_weigh_44 rfl rfl ?_
    refine x_get _ 48 fS_72 dS_weigh_45 rfl (h_O (by assumption)) rfl ?_
    refine x_astore_n 49 dS_weigh_48 rfl (by decide) rfl ?_
    refine x_goto 24 dS_weigh_49 (by decide) ?_
    exact ih _ _ hc hl h5 h5s rfl
theorem cS_weigh {i : Nat} (hi : i < 2) {cb cs : List Nat} (hcb : Ch P (P 1 (2 * i)) cb) (hlb : ∀ o ∈ cb, o < N) (hcs : Ch P (P 1 (2 * i + 1)) cs) (hls : ∀ o ∈ cs, o < N) (h5b : ∀ o ∈ cb, vp_in (I 5 o) 65) (h5s : ∀ o ∈ cs, vp_in (I 5 o) 65) : x_C l G mS_weigh 1 0 0 [xR (some (11, 0)), xR (some (3, i))] (hp N I J P V A B) [] (x_is none (hp N (wgh I cb cs) J P V A B)) := by
  refine x_C.at [some (xR (some (11, 0))), some (xR (some (3, i))), none] rfl (Nat.le_of_ble_eq_true rfl) rfl ?_
  refine x_aload_n 1 dS_weigh_0 rfl rfl ?_
  refine x_get _ 4 fS_9 dS_weigh_1 rfl rfl rfl ?_
  refine x_iconst 0 5 dS_weigh_4 rfl rfl ?_
  refine x_fSn 8 (cY_fill_bought) kS_48 oY_fill dS_weigh_5 rfl rfl (by decide) (Nat.le_of_ble_eq_true rfl) ?_
  refine x_aload_n 9 dS_weigh_8 rfl rfl ?_
  refine x_get _ 12 fS_15 dS_weigh_9 rfl rfl rfl ?_
  refine x_iconst 0 13 dS_weigh_12 rfl rfl ?_
  refine x_fSn 16 (cY_fill_sold) kS_48 oY_fill dS_weigh_13 rfl rfl (by decide) (Nat.le_of_ble_eq_true rfl) ?_
  refine x_aload_n 17 dS_weigh_16 rfl rfl ?_
  refine x_get _ 20 fS_54 dS_weigh_17 rfl (h_B (by assumption)) rfl ?_
  refine x_get _ 23 fS_58 dS_weigh_20 rfl (h_D (by omega)) rfl ?_
  refine x_astore_n 24 dS_weigh_23 rfl (by decide) rfl ?_
  exact x_wd (by decide) (lp_w1 hi _ hcs hls cb _ _ hcb hlb h5b h5s rfl)
end M4
