section M3
variable {l : Launch} {G : xG} {N : Nat} {I : Nat → Nat → Int32} {J : Nat → Nat → Int64} {P : Nat → Nat → Option xQ} {V : Nat → Nat → Int32} {A : Nat → Nat → Int32} {B : Nat → Nat → Int64}
/-- the chain from q on holds the orders c -/
def Ch (P : Nat → Nat → Option xQ) : Option xQ → List Nat → Prop
  | q, [] => q = none
  | q, o :: c => q = some (0, o) ∧ Ch P (P 0 o) c
def lfo (I : Nat → Nat → Int32) (m : Int32) : Int32 → List Nat → Int32
  | s, [] => s
  | s, o :: c => lfo I m (if I 1 o = m then s + I 6 o else s) c
def lff (I : Nat → Nat → Int32) (k : Nat) : Int32 → List Nat → Int32
  | s, [] => s
  | s, o :: c => if acc I k (I 5 o) then lff I k (if I 1 o = I 1 k then s else s + I 6 o) c else s
def siq (I : Nat → Nat → Int32) (p : Int32) (e : Option xQ) : Int32 → List Nat → Int32
  | s, [] => s
  | s, o :: c => if some (0, o) = e then s else siq I p e (if I 5 o = p then s + I 7 o else s) c
def lnk (P : Nat → Nat → Option xQ) (j : Nat) (b : Option Nat) (r : Option xQ) : Nat → Nat → Option xQ := match b with
  | none => sp P 1 j r
  | some b => sp P 0 b r
def lvP (P : Nat → Nat → Option xQ) (j o : Nat) : Option Nat → List Nat → Nat → Nat → Option xQ
  | _, [] => P
  | b, a :: c => if a = o then sp (lnk P j b (P 0 a)) 0 a none else lvP P j o (some a) c
def jnP (I : Nat → Nat → Int32) (P : Nat → Nat → Option xQ) (j o : Nat) : Option Nat → List Nat → Nat → Nat → Option xQ
  | b, [] => lnk (sp P 0 o none) j b (some (0, o))
  | b, a :: c => if btr I o a then lnk (sp P 0 o (some (0, a))) j b (some (0, o)) else jnP I P j o (some a) c
def wdI (I : Nat → Nat → Int32) : List Nat → Nat → Nat → Int32
  | [] => I
  | o :: c => wdI (si I 8 o 2) c
theorem all_tl {N a : Nat} {c : List Nat} (h : ∀ o ∈ a :: c, o < N) : ∀ o ∈ c, o < N := fun o ho => h o (List.mem_cons_of_mem _ ho)
theorem all_hd {N a : Nat} {c : List Nat} (h : ∀ o ∈ a :: c, o < N) : a < N := h a List.mem_cons_self
abbrev ko (b : Option Nat) : Option xQ := b.map (fun o => (0, o))
theorem h_Oa {o : Nat} (ho : o < N) : ∀ a : xQ, some (0, o) = some a → hp N I J P V A B a ≠ none := fun a ha => by
  cases ha
  rw [h_O ho]
  exact fun q => by cases q
theorem lp_D_leftOf {j : Nat} (m T : Int32) : ∀ (c : List Nat) (q : Option xQ) (s : Int32), Ch P q c → (∀ o ∈ c, o < N) → lfo I m s c = T → x_X l G mD_leftOf 0 0 0 [] (x_is (some (xI T)) (hp N I J P V A B)) 7 [some (xR (some (4, j))), some (xI m), some (xI s), some (xR q)] [] (hp N I J P V A B) := by
  intro c
  induction c with
  | nil =>
    intro q s hc hl hT
    subst hT
    have hq : q = none := hc
    subst hq
    refine x_aload_n 8 dD_leftOf_7 rfl rfl ?_
    refine x_ifnull_n 34 11 dD_leftOf_8 (by decide) rfl ?_
    refine x_iload_n 35 dD_leftOf_34 rfl rfl ?_
    exact x_iret dD_leftOf_35 rfl rfl ⟨rfl, rfl⟩
  | cons a c ih =>
    intro q s hc hl hT
    subst hT
    obtain ⟨rfl, hc⟩ := hc
    have ha := all_hd hl
    have hl := all_tl hl
    refine x_aload_n 8 dD_leftOf_7 rfl rfl ?_
    refine x_ifnull_s 34 11 dD_leftOf_8 (by decide) rfl ?_
    refine x_aload_n 12 dD_leftOf_11 rfl rfl ?_
    refine x_get _ 15 fD_28 dD_leftOf_12 rfl (h_O (by assumption)) rfl ?_
    refine x_iload_n 16 dD_leftOf_15 rfl rfl ?_
    refine x_icmp_ne 26 19 dD_leftOf_16 (by decide) rfl (fun h16 => ?_) (fun h16 => ?_)
    · skip
      refine x_aload_n 27 dD_leftOf_26 rfl rfl ?_
      refine x_get _ 30 fD_19 dD_leftOf_27 rfl (h_O (by assumption)) rfl ?_
      refine x_astore_n 31 dD_leftOf_30 rfl (by decide) rfl ?_
      refine x_goto 7 dD_leftOf_31 (by decide) ?_
      exact ih _ _ hc hl (by simp only [lfo, h16, if_true, if_false])
    · skip
      refine x_iload_n 20 dD_leftOf_19 rfl rfl ?_
      refine x_aload_n 21 dD_leftOf_20 rfl rfl ?_
      refine x_get _ 24 fD_32 dD_leftOf_21 rfl (h_O (by assumption)) rfl ?_
      refine x_iadd 25 dD_leftOf_24 rfl ?_
      refine x_istore_n 26 dD_leftOf_25 rfl (by decide) rfl ?_
      refine x_aload_n 27 dD_leftOf_26 rfl rfl ?_
      refine x_get _ 30 fD_19 dD_leftOf_27 rfl (h_O (by assumption)) rfl ?_
      refine x_astore_n 31 dD_leftOf_30 rfl (by decide) rfl ?_
      refine x_goto 7 dD_leftOf_31 (by decide) ?_
      exact ih _ _ hc hl (by simp only [lfo, h16, if_true, if_false])
theorem cD_leftOf {j : Nat} (hj : j < 4) {c : List Nat} (hc : Ch P (P 1 j) c) (hl : ∀ o ∈ c, o < N) (m : Int32) : x_C l G mD_leftOf 0 0 0 [xR (some (4, j)), xI m] (hp N I J P V A B) [] (x_is (some (xI (lfo I m 0 c))) (hp N I J P V A B)) := by
  refine x_C.at [some (xR (some (4, j))), some (xI m), none, none] rfl (Nat.le_of_ble_eq_true rfl) rfl ?_
  refine x_iconst 0 1 dD_leftOf_0 rfl rfl ?_
  refine x_istore_n 2 dD_leftOf_1 rfl (by decide) rfl ?_
  refine x_aload_n 3 dD_leftOf_2 rfl rfl ?_
  refine x_get _ 6 fD_9 dD_leftOf_3 rfl (h_D (by omega)) rfl ?_
  refine x_astore_n 7 dD_leftOf_6 rfl (by decide) rfl ?_
  exact lp_D_leftOf _ _ c _ _ hc hl rfl
theorem lp_D_leftFor {j k : Nat} (hk : k < N) (T : Int32) : ∀ (c : List Nat) (q : Option xQ) (s : Int32), Ch P q c → (∀ o ∈ c, o < N) → lff I k s c = T → x_X l G mD_leftFor 1 0 0 [] (x_is (some (xI T)) (hp N I J P V A B)) 7 [some (xR (some (4, j))), some (xR (some (0, k))), some (xI s), some (xR q)] [] (hp N I J P V A B) := by
  intro c
  induction c with
  | nil =>
    intro q s hc hl hT
    subst hT
    have hq : q = none := hc
    subst hq
    refine x_aload_n 8 dD_leftFor_7 rfl rfl ?_
    refine x_ifnull_n 48 11 dD_leftFor_8 (by decide) rfl ?_
    refine x_iload_n 49 dD_leftFor_48 rfl rfl ?_
    exact x_iret dD_leftFor_49 rfl rfl ⟨rfl, rfl⟩
  | cons a c ih =>
    intro q s hc hl hT
    subst hT
    obtain ⟨rfl, hc⟩ := hc
    have ha := all_hd hl
    have hl := all_tl hl
    refine x_aload_n 8 dD_leftFor_7 rfl rfl ?_
    refine x_ifnull_s 48 11 dD_leftFor_8 (by decide) rfl ?_
    refine x_aload_n 12 dD_leftFor_11 rfl rfl ?_
    refine x_aload_n 13 dD_leftFor_12 rfl rfl ?_
    refine x_get _ 16 fD_35 dD_leftFor_13 rfl (h_O (by assumption)) rfl ?_
    refine x_fVv 19 (cO_accepts (by assumption) _) kD_38 oO_accepts rfl (h_O (by assumption)) dD_leftFor_16 rfl rfl (by decide) (Nat.le_of_ble_eq_true rfl) ?_
    refine x_if_eq 48 22 dD_leftFor_19 (by decide) rfl (fun h19 => ?_) (fun h19 => ?_)
    · skip
      refine x_iload_n 49 dD_leftFor_48 rfl rfl ?_
      exact x_iret dD_leftFor_49 rfl rfl ⟨by simp only [lff, if_neg (b01_z.mp h19)], rfl⟩
    · skip
      refine x_aload_n 23 dD_leftFor_22 rfl rfl ?_
      refine x_get _ 26 fD_28 dD_leftFor_23 rfl (h_O (by assumption)) rfl ?_
      refine x_aload_n 27 dD_leftFor_26 rfl rfl ?_
      refine x_get _ 30 fD_28 dD_leftFor_27 rfl (h_O (by assumption)) rfl ?_
      refine x_icmp_eq 40 33 dD_leftFor_30 (by decide) rfl (fun h30 => ?_) (fun h30 => ?_)
      · skip
        refine x_aload_n 41 dD_leftFor_40 rfl rfl ?_
        refine x_get _ 44 fD_19 dD_leftFor_41 rfl (h_O (by assumption)) rfl ?_
        refine x_astore_n 45 dD_leftFor_44 rfl (by decide) rfl ?_
        refine x_goto 7 dD_leftFor_45 (by decide) ?_
        exact ih _ _ hc hl (by simp only [lff, if_pos (b01_nz.mp h19), h30, if_true, if_false])
      · skip
        refine x_iload_n 34 dD_leftFor_33 rfl rfl ?_
        refine x_aload_n 35 dD_leftFor_34 rfl rfl ?_
        refine x_get _ 38 fD_32 dD_leftFor_35 rfl (h_O (by assumption)) rfl ?_
        refine x_iadd 39 dD_leftFor_38 rfl ?_
        refine x_istore_n 40 dD_leftFor_39 rfl (by decide) rfl ?_
        refine x_aload_n 41 dD_leftFor_40 rfl rfl ?_
        refine x_get _ 44 fD_19 dD_leftFor_41 rfl (h_O (by assumption)) rfl ?_
        refine x_astore_n 45 dD_leftFor_44 rfl (by decide) rfl ?_
        refine x_goto 7 dD_leftFor_45 (by decide) ?_
        exact ih _ _ hc hl (by simp only [lff, if_pos (b01_nz.mp h19), h30, if_true, if_false])
theorem cD_leftFor {j k : Nat} (hj : j < 4) (hk : k < N) {c : List Nat} (hc : Ch P (P 1 j) c) (hl : ∀ o ∈ c, o < N) : x_C l G mD_leftFor 1 0 0 [xR (some (4, j)), xR (some (0, k))] (hp N I J P V A B) [] (x_is (some (xI (lff I k 0 c))) (hp N I J P V A B)) := by
  refine x_C.at [some (xR (some (4, j))), some (xR (some (0, k))), none, none] rfl (Nat.le_of_ble_eq_true rfl) rfl ?_
  refine x_iconst 0 1 dD_leftFor_0 rfl rfl ?_
  refine x_istore_n 2 dD_leftFor_1 rfl (by decide) rfl ?_
  refine x_aload_n 3 dD_leftFor_2 rfl rfl ?_
  refine x_get _ 6 fD_9 dD_leftFor_3 rfl (h_D (by omega)) rfl ?_
  refine x_astore_n 7 dD_leftFor_6 rfl (by decide) rfl ?_
  exact lp_D_leftFor hk _ c _ _ hc hl rfl
theorem lp_D_shownInQueue {j : Nat} {e : Option xQ} (he : ∀ a : xQ, e = some a → hp N I J P V A B a ≠ none) (p T : Int32) : ∀ (c : List Nat) (q : Option xQ) (s : Int32), Ch P q c → (∀ o ∈ c, o < N) → siq I p e s c = T → x_X l G mD_shownInQueue 0 0 0 [] (x_is (some (xI T)) (hp N I J P V A B)) 8 [some (xR (some (4, j))), some (xI p), some (xR e), some (xI s), some (xR q)] [] (hp N I J P V A B) := by
  intro c
  induction c with
  | nil =>
    intro q s hc hl hT
    subst hT
    have hq : q = none := hc
    subst hq
    refine x_aload 10 dD_shownInQueue_8 rfl rfl ?_
    refine x_ifnull_n 46 13 dD_shownInQueue_10 (by decide) rfl ?_
    refine x_iload_n 47 dD_shownInQueue_46 rfl rfl ?_
    exact x_iret dD_shownInQueue_47 rfl rfl ⟨rfl, rfl⟩
  | cons a c ih =>
    intro q s hc hl hT
    subst hT
    obtain ⟨rfl, hc⟩ := hc
    have ha := all_hd hl
    have hl := all_tl hl
    refine x_aload 10 dD_shownInQueue_8 rfl rfl ?_
    refine x_ifnull_s 46 13 dD_shownInQueue_10 (by decide) rfl ?_
    refine x_aload 15 dD_shownInQueue_13 rfl rfl ?_
    refine x_aload_n 16 dD_shownInQueue_15 rfl rfl ?_
    refine x_acmp_eq 46 19 dD_shownInQueue_16 (by decide) rfl (h_Oa ha) he (fun h16 => ?_) (fun h16 => ?_)
    · skip
      refine x_iload_n 47 dD_shownInQueue_46 rfl rfl ?_
      exact x_iret dD_shownInQueue_47 rfl rfl ⟨by simp only [siq, if_pos h16], rfl⟩
    · skip
      refine x_aload 21 dD_shownInQueue_19 rfl rfl ?_
      refine x_get _ 24 fD_35 dD_shownInQueue_21 rfl (h_O (by assumption)) rfl ?_
      refine x_iload_n 25 dD_shownInQueue_24 rfl rfl ?_
      refine x_icmp_ne 36 28 dD_shownInQueue_25 (by decide) rfl (fun h25 => ?_) (fun h25 => ?_)
      · skip
        refine x_aload 38 dD_shownInQueue_36 rfl rfl ?_
        refine x_get _ 41 fD_19 dD_shownInQueue_38 rfl (h_O (by assumption)) rfl ?_
        refine x_astore 43 dD_shownInQueue_41 rfl (by decide) rfl ?_
        refine x_goto 8 dD_shownInQueue_43 (by decide) ?_
        exact ih _ _ hc hl (by simp only [siq, h16, h25, if_true, if_false])
      · skip
        refine x_iload_n 29 dD_shownInQueue_28 rfl rfl ?_
        refine x_aload 31 dD_shownInQueue_29 rfl rfl ?_
        refine x_get _ 34 fD_42 dD_shownInQueue_31 rfl (h_O (by assumption)) rfl ?_
        refine x_iadd 35 dD_shownInQueue_34 rfl ?_
        refine x_istore_n 36 dD_shownInQueue_35 rfl (by decide) rfl ?_
        refine x_aload 38 dD_shownInQueue_36 rfl rfl ?_
        refine x_get _ 41 fD_19 dD_shownInQueue_38 rfl (h_O (by assumption)) rfl ?_
        refine x_astore 43 dD_shownInQueue_41 rfl (by decide) rfl ?_
        refine x_goto 8 dD_shownInQueue_43 (by decide) ?_
        exact ih _ _ hc hl (by simp only [siq, h16, h25, if_true, if_false])
theorem cD_shownInQueue {j : Nat} (hj : j < 4) {e : Option xQ} (he : ∀ a : xQ, e = some a → hp N I J P V A B a ≠ none) {c : List Nat} (hc : Ch P (P 1 j) c) (hl : ∀ o ∈ c, o < N) (p : Int32) : x_C l G mD_shownInQueue 0 0 0 [xR (some (4, j)), xI p, xR e] (hp N I J P V A B) [] (x_is (some (xI (siq I p e 0 c))) (hp N I J P V A B)) := by
  refine x_C.at [some (xR (some (4, j))), some (xI p), some (xR e), none, none] rfl (Nat.le_of_ble_eq_true rfl) rfl ?_
  refine x_iconst 0 1 dD_shownInQueue_0 rfl rfl ?_
  refine x_istore_n 2 dD_shownInQueue_1 rfl (by decide) rfl ?_
  refine x_aload_n 3 dD_shownInQueue_2 rfl rfl ?_
  refine x_get _ 6 fD_9 dD_shownInQueue_3 rfl (h_D (by omega)) rfl ?_
  refine x_astore 8 dD_shownInQueue_6 rfl (by decide) rfl ?_
  exact lp_D_shownInQueue he _ _ c _ _ hc hl rfl
theorem cD_link {j : Nat} (hj : j < 4) {b : Option Nat} (hb : ∀ k : Nat, b = some k → k < N) (r : Option xQ) : x_C l G mD_link 0 0 0 [xR (some (4, j)), xR (ko b), xR r] (hp N I J P V A B) [] (x_is none (hp N I J (lnk P j b r) V A B)) := by
  cases b with
  | none => exact cD_link_n hj r
  | some k => exact cD_link_s (hb k rfl) r
theorem lp_D_leave {j o : Nat} (hj : j < 4) (ho : o < N) (T : Nat → Nat → Option xQ) : ∀ (c : List Nat) (b : Option Nat) (q : Option xQ), Ch P q c → (∀ o ∈ c, o < N) → (∀ k : Nat, b = some k → k < N) → lvP P j o b c = T → x_X l G mD_leave 1 0 0 [] (x_is none (hp N I J T V A B)) 7 [some (xR (some (4, j))), some (xR (some (0, o))), some (xR (ko b)), some (xR q)] [] (hp N I J P V A B) := by
  intro c
  induction c with
  | nil =>
    intro b q hc hl hb hT
    subst hT
    have hq : q = none := hc
    subst hq
    refine x_aload_n 8 dD_leave_7 rfl rfl ?_
    refine x_ifnull_n 26 11 dD_leave_8 (by decide) rfl ?_
    refine x_aload_n 27 dD_leave_26 rfl rfl ?_
    refine x_ifnull_n 44 30 dD_leave_27 (by decide) rfl ?_
    exact x_vret dD_leave_44 rfl ⟨rfl, rfl⟩
  | cons a c ih =>
    intro b q hc hl hb hT
    subst hT
    obtain ⟨rfl, hc⟩ := hc
    have ha := all_hd hl
    have hl := all_tl hl
    refine x_aload_n 8 dD_leave_7 rfl rfl ?_
    refine x_ifnull_s 26 11 dD_leave_8 (by decide) rfl ?_
    refine x_aload_n 12 dD_leave_11 rfl rfl ?_
    refine x_aload_n 13 dD_leave_12 rfl rfl ?_
    refine x_acmp_eq 26 16 dD_leave_13 (by decide) rfl (h_Oa ha) (h_Oa ho) (fun h13 => ?_) (fun h13 => ?_)
    · skip
      refine x_aload_n 27 dD_leave_26 rfl rfl ?_
      refine x_ifnull_s 44 30 dD_leave_27 (by decide) rfl ?_
      refine x_aload_n 31 dD_leave_30 rfl rfl ?_
      refine x_aload_n 32 dD_leave_31 rfl rfl ?_
      refine x_aload_n 33 dD_leave_32 rfl rfl ?_
      refine x_get _ 36 fD_19 dD_leave_33 rfl (h_O (by assumption)) rfl ?_
      refine x_fVn 39 (cD_link hj hb _) kD_24 oD_link rfl (h_D (by omega)) dD_leave_36 rfl rfl (by decide) (Nat.le_of_ble_eq_true rfl) ?_
      refine x_aload_n 40 dD_leave_39 rfl rfl ?_
      refine x_null 41 dD_leave_40 rfl ?_
      refine y_O9 44 pD_leave_19 dD_leave_41 rfl (by assumption) ?_
      exact x_vret dD_leave_44 rfl ⟨rfl, by simp only [lvP, if_pos (show a = o from by cases h13; rfl)]⟩
    · skip
      refine x_aload_n 17 dD_leave_16 rfl rfl ?_
      refine x_astore_n 18 dD_leave_17 rfl (by decide) rfl ?_
      refine x_aload_n 19 dD_leave_18 rfl rfl ?_
      refine x_get _ 22 fD_19 dD_leave_19 rfl (h_O (by assumption)) rfl ?_
      refine x_astore_n 23 dD_leave_22 rfl (by decide) rfl ?_
      refine x_goto 7 dD_leave_23 (by decide) ?_
      exact ih (some a) _ hc hl (fun k hk => by cases hk; exact ha) (by simp only [lvP, if_neg (show ¬ a = o from fun q => h13 (by rw [q]))])
theorem cD_leave {j o : Nat} (hj : j < 4) (ho : o < N) {c : List Nat} (hc : Ch P (P 1 j) c) (hl : ∀ o ∈ c, o < N) : x_C l G mD_leave 1 0 0 [xR (some (4, j)), xR (some (0, o))] (hp N I J P V A B) [] (x_is none (hp N I J (lvP P j o none c) V A B)) := by
  refine x_C.at [some (xR (some (4, j))), some (xR (some (0, o))), none, none] rfl (Nat.le_of_ble_eq_true rfl) rfl ?_
  refine x_null 1 dD_leave_0 rfl ?_
  refine x_astore_n 2 dD_leave_1 rfl (by decide) rfl ?_
  refine x_aload_n 3 dD_leave_2 rfl rfl ?_
  refine x_get _ 6 fD_9 dD_leave_3 rfl (h_D (by omega)) rfl ?_
  refine x_astore_n 7 dD_leave_6 rfl (by decide) rfl ?_
  exact lp_D_leave hj ho _ c none _ hc hl (fun k hk => by cases hk) rfl
theorem lp_D_join {j o : Nat} (hj : j < 4) (ho : o < N) (T : Nat → Nat → Option xQ) : ∀ (c : List Nat) (b : Option Nat) (q : Option xQ), Ch P q c → (∀ o ∈ c, o < N) → (∀ k : Nat, b = some k → k < N) → jnP I P j o b c = T → x_X l G mD_join 2 0 0 [] (x_is none (hp N I J T V A B)) 7 [some (xR (some (4, j))), some (xR (some (0, o))), some (xR (ko b)), some (xR q)] [] (hp N I J P V A B) := by
  intro c
  induction c with
  | nil =>
    intro b q hc hl hb hT
    subst hT
    have hq : q = none := hc
    subst hq
    refine x_aload_n 8 dD_join_7 rfl rfl ?_
    refine x_ifnull_n 29 11 dD_join_8 (by decide) rfl ?_
    refine x_aload_n 30 dD_join_29 rfl rfl ?_
    refine x_aload_n 31 dD_join_30 rfl rfl ?_
    refine y_O9 34 pD_join_19 dD_join_31 rfl (by assumption) ?_
    refine x_aload_n 35 dD_join_34 rfl rfl ?_
    refine x_aload_n 36 dD_join_35 rfl rfl ?_
    refine x_aload_n 37 dD_join_36 rfl rfl ?_
    refine x_fVn 40 (cD_link hj hb _) kD_24 oD_link rfl (h_D (by omega)) dD_join_37 rfl rfl (by decide) (Nat.le_of_ble_eq_true rfl) ?_
    exact x_vret dD_join_40 rfl ⟨rfl, rfl⟩
  | cons a c ih =>
    intro b q hc hl hb hT
    subst hT
    obtain ⟨rfl, hc⟩ := hc
    have ha := all_hd hl
    have hl := all_tl hl
    refine x_aload_n 8 dD_join_7 rfl rfl ?_
    refine x_ifnull_s 29 11 dD_join_8 (by decide) rfl ?_
    refine x_aload_n 12 dD_join_11 rfl rfl ?_
    refine x_aload_n 13 dD_join_12 rfl rfl ?_
    refine x_fSv 16 (cD_isBetter ho ha) kD_15 oD_isBetter dD_join_13 rfl rfl (by decide) (Nat.le_of_ble_eq_true rfl) ?_
    refine x_if_ne 29 19 dD_join_16 (by decide) rfl (fun h16 => ?_) (fun h16 => ?_)
    · skip
      refine x_aload_n 30 dD_join_29 rfl rfl ?_
      refine x_aload_n 31 dD_join_30 rfl rfl ?_
      refine y_O9 34 pD_join_19 dD_join_31 rfl (by assumption) ?_
      refine x_aload_n 35 dD_join_34 rfl rfl ?_
      refine x_aload_n 36 dD_join_35 rfl rfl ?_
      refine x_aload_n 37 dD_join_36 rfl rfl ?_
      refine x_fVn 40 (cD_link hj hb _) kD_24 oD_link rfl (h_D (by omega)) dD_join_37 rfl rfl (by decide) (Nat.le_of_ble_eq_true rfl) ?_
      exact x_vret dD_join_40 rfl ⟨rfl, by simp only [jnP, if_pos (b01_nz.mp h16)]⟩
    · skip
      refine x_aload_n 20 dD_join_19 rfl rfl ?_
      refine x_astore_n 21 dD_join_20 rfl (by decide) rfl ?_
      refine x_aload_n 22 dD_join_21 rfl rfl ?_
      refine x_get _ 25 fD_19 dD_join_22 rfl (h_O (by assumption)) rfl ?_
      refine x_astore_n 26 dD_join_25 rfl (by decide) rfl ?_
      refine x_goto 7 dD_join_26 (by decide) ?_
      exact ih (some a) _ hc hl (fun k hk => by cases hk; exact ha) (by simp only [jnP, if_neg (b01_z.mp h16)])
theorem cD_join {j o : Nat} (hj : j < 4) (ho : o < N) {c : List Nat} (hc : Ch P (P 1 j) c) (hl : ∀ o ∈ c, o < N) : x_C l G mD_join 2 0 0 [xR (some (4, j)), xR (some (0, o))] (hp N I J P V A B) [] (x_is none (hp N I J (jnP I P j o none c) V A B)) := by
  refine x_C.at [some (xR (some (4, j))), some (xR (some (0, o))), none, none] rfl (Nat.le_of_ble_eq_true rfl) rfl ?_
  refine x_null 1 dD_join_0 rfl ?_
  refine x_astore_n 2 dD_join_1 rfl (by decide) rfl ?_
  refine x_aload_n 3 dD_join_2 rfl rfl ?_
  refine x_get _ 6 fD_9 dD_join_3 rfl (h_D (by omega)) rfl ?_
  refine x_astore_n 7 dD_join_6 rfl (by decide) rfl ?_
  exact lp_D_join hj ho _ c none _ hc hl (fun k hk => by cases hk) rfl
theorem lp_D_withdrawAll {j : Nat} (hj : j < 4) (T : Nat → Nat → Int32) : ∀ (c : List Nat) (I : Nat → Nat → Int32) (q : Option xQ), Ch P q c → (∀ o ∈ c, o < N) → wdI I c = T → x_X l G mD_withdrawAll 0 0 0 [] (x_is none (hp N T J (sp P 1 j none) V A B)) 5 [some (xR (some (4, j))), some (xR q)] [] (hp N I J P V A B) := by
  intro c
  induction c with
  | nil =>
    intro I q hc hl hT
    subst hT
    have hq : q = none := hc
    subst hq
    refine x_aload_n 6 dD_withdrawAll_5 rfl rfl ?_
    refine x_ifnull_n 22 9 dD_withdrawAll_6 (by decide) rfl ?_
    refine x_aload_n 23 dD_withdrawAll_22 rfl rfl ?_
    refine x_null 24 dD_withdrawAll_23 rfl ?_
    refine y_D0 27 pD_withdrawAll_9 dD_withdrawAll_24 rfl (by omega) ?_
    exact x_vret dD_withdrawAll_27 rfl ⟨rfl, rfl⟩
  | cons a c ih =>
    intro I q hc hl hT
    subst hT
    obtain ⟨rfl, hc⟩ := hc
    have ha := all_hd hl
    have hl := all_tl hl
    refine x_aload_n 6 dD_withdrawAll_5 rfl rfl ?_
    refine x_ifnull_s 22 9 dD_withdrawAll_6 (by decide) rfl ?_
    refine x_aload_n 10 dD_withdrawAll_9 rfl rfl ?_
    refine x_iconst 2 11 dD_withdrawAll_10 rfl rfl ?_
    refine y_O8 14 pD_withdrawAll_45 dD_withdrawAll_11 rfl (by assumption) ?_
    refine x_aload_n 15 dD_withdrawAll_14 rfl rfl ?_
    refine x_get _ 18 fD_19 dD_withdrawAll_15 rfl (h_O (by assumption)) rfl ?_
    refine x_astore_n 19 dD_withdrawAll_18 rfl (by decide) rfl ?_
    refine x_goto 5 dD_withdrawAll_19 (by decide) ?_
    exact ih _ _ hc hl rfl
theorem cD_withdrawAll {j : Nat} (hj : j < 4) {c : List Nat} (hc : Ch P (P 1 j) c) (hl : ∀ o ∈ c, o < N) : x_C l G mD_withdrawAll 0 0 0 [xR (some (4, j))] (hp N I J P V A B) [] (x_is none (hp N (wdI I c) J (sp P 1 j none) V A B)) := by
  refine x_C.at [some (xR (some (4, j))), none] rfl (Nat.le_of_ble_eq_true rfl) rfl ?_
  refine x_aload_n 1 dD_withdrawAll_0 rfl rfl ?_
  refine x_get _ 4 fD_9 dD_withdrawAll_1 rfl (h_D (by omega)) rfl ?_
  refine x_astore_n 5 dD_withdrawAll_4 rfl (by decide) rfl ?_
  exact lp_D_withdrawAll hj _ c _ _ hc hl rfl
end M3
