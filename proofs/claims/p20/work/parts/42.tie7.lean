section TIE7
variable {N : Nat} {I : Nat → Nat → Int32} {J : Nat → Nat → Int64} {V : Nat → Nat → Int32} {ls : Nat → List Nat} {A : Nat → Nat → Int32} {B : Nat → Nat → Int64} {t : Int} {E : Nat → Prop}
theorem si_c {c k c' : Nat} {v : Int32} (h : c' ≠ c) : si A c k v c' = A c' := if_neg h
theorem si_k {c k c' k' : Nat} {v : Int32} (h : k' ≠ k) : si A c k v c' k' = A c' k' := by
  unfold si
  split
  · rename_i e; subst e; exact x_uf_ne _ _ h
  · rfl
/-- one order in class and reference -/
def oR (e : Prop) (I A : Nat → Nat → Int32) (k : Nat) : Prop :=
  (I 0 k = Int32.ofNat k ∧ I 1 k = A 0 k ∧ I 2 k = A 1 k ∧ I 3 k = A 2 k ∧ I 4 k = A 3 k ∧ I 6 k = A 5 k ∧ I 8 k = (if A 7 k = 3 then 0 else A 7 k)) ∧ (A 7 k = 0 → I 5 k = A 4 k ∧ (¬ e → I 7 k = shs A k) ∧ (A 8 k).toInt < (A 14 0).toInt)
theorem oR.re {e e' : Prop} {I' A' : Nat → Nat → Int32} {k : Nat} (h : oR e I A k) (hI : ∀ c, c < 9 → I' c k = I c k) (hA : ∀ c, c < 9 → A' c k = A c k) (h14 : (A 14 0).toInt ≤ (A' 14 0).toInt) (he : e → e') : oR e' I' A' k := by
  have hs : shs A' k = shs A k := by unfold shs; rw [hA 3 (by decide), hA 5 (by decide), hA 6 (by decide)]
  unfold oR
  rw [hs, hI 0 (by decide), hI 1 (by decide), hI 2 (by decide), hI 3 (by decide), hI 4 (by decide), hI 5 (by decide), hI 6 (by decide), hI 7 (by decide), hI 8 (by decide), hA 0 (by decide), hA 1 (by decide), hA 2 (by decide), hA 3 (by decide), hA 4 (by decide), hA 5 (by decide), hA 7 (by decide), hA 8 (by decide)]
  exact ⟨h.1, fun z => ⟨(h.2 z).1, fun w => (h.2 z).2.1 (fun q => w (he q)), Int.lt_of_lt_of_le (h.2 z).2.2 h14⟩⟩
/-- orders but those of S stay -/
theorem tiO.upd {E' : Nat → Prop} {I' A' : Nat → Nat → Int32} (h : tiO E N I A) (S : Nat → Prop) (h13 : A' 13 0 = A 13 0) (h14 : (A 14 0).toInt ≤ (A' 14 0).toInt) (hn : ∀ k, k < N → ¬ S k → (∀ c, c < 9 → I' c k = I c k) ∧ (∀ c, c < 9 → A' c k = A c k) ∧ (E k → E' k)) (hs : ∀ k, k < N → S k → oR (E' k) I' A' k) : tiO E' N I' A' := by
  refine ⟨by rw [h13]; exact h.1, fun k hk => ?_⟩
  by_cases c : S k
  · exact hs k hk c
  · have q := hn k hk c
    exact oR.re (h.2 k hk) q.1 q.2.1 h14 q.2.2
theorem Srt_re {A' : Nat → Nat → Int32} {s : Int32} : ∀ {c : List Nat}, (∀ k ∈ c, A' 4 k = A 4 k ∧ A' 8 k = A 8 k) → Srt A s c → Srt A' s c
  | [], _, _ => trivial
  | o :: c, h, hs => by
    refine ⟨fun k hk => ?_, Srt_re (fun k hk => h k (List.mem_cons_of_mem _ hk)) hs.2⟩
    have a := h o List.mem_cons_self
    have b := h k (List.mem_cons_of_mem _ hk)
    have := hs.1 k hk
    unfold bef at this ⊢
    rw [a.1, a.2, b.1, b.2]
    exact this
theorem Srt_erase {s : Int32} (x : Nat) : ∀ {c : List Nat}, Srt A s c → Srt A s (c.erase x)
  | [], _ => trivial
  | o :: c, h => by
    rw [List.erase_cons]
    split
    · exact h.2
    · exact ⟨fun k hk => h.1 k (List.mem_of_mem_erase hk), Srt_erase x h.2⟩
theorem tiL.re {A' : Nat → Nat → Int32} (h : tiL N ls A) (h1 : A' 1 = A 1) (h2 : A' 2 = A 2) (h4 : A' 4 = A 4) (h7 : A' 7 = A 7) (h8 : A' 8 = A 8) : tiL N ls A' := by
  unfold tiL
  rw [h1, h2, h7]
  exact ⟨h.1, fun i hi => ⟨Srt_re (fun k _ => by rw [h4, h8]; exact ⟨rfl, rfl⟩) (h.2.1 i hi).1, Srt_re (fun k _ => by rw [h4, h8]; exact ⟨rfl, rfl⟩) (h.2.1 i hi).2⟩, h.2.2⟩
theorem tiA.re {I' A' : Nat → Nat → Int32} (h : tiA I J V A B) (h10 : I' 10 = I 10) (h11 : I' 11 = I 11) (h13 : I' 13 = I 13) (h14 : I' 14 = I 14) (a9 : A' 9 = A 9) (a10 : A' 10 = A 10) (a11 : A' 11 = A 11) (a12 : A' 12 = A 12) (a15 : A' 15 = A 15) : tiA I' J V A' B := by
  unfold tiA
  rw [h10, h11, h13, h14, a9, a10, a11, a12, a15]
  exact h
/-- sorted halves, by chain -/
theorem tiL.srt (h : tiL N ls A) {j : Nat} (hj : j < 4) : Srt A (if j % 2 = 0 then 0 else 1) (ls j) := by
  have h0 := h.2.1 0 (by decide)
  have h1 := h.2.1 1 (by decide)
  match j, hj with
  | 0, _ => exact h0.1
  | 1, _ => exact h0.2
  | 2, _ => exact h1.1
  | 3, _ => exact h1.2
theorem tiL.of {A' : Nat → Nat → Int32} {ls' : Nat → List Nat} (hm : ∀ j, j < 4 → ∀ o, o ∈ ls' j ↔ o < N ∧ A' 7 o = 0 ∧ sdx (A' 1 o).toNatClampNeg (A' 2 o) = j) (hs : ∀ j, j < 4 → Srt A' (if j % 2 = 0 then 0 else 1) (ls' j)) (hn : ∀ j, j < 4 → (ls' j).Nodup) : tiL N ls' A' := by
  refine ⟨hm, fun i hi => ?_, hn⟩
  match i, hi with
  | 0, _ => exact ⟨hs 0 (by decide), hs 1 (by decide)⟩
  | 1, _ => exact ⟨hs 2 (by decide), hs 3 (by decide)⟩
theorem x_ufe {α : Type} (f : Nat → α) {i j : Nat} (v : α) (h : j = i) : x_uf f i v j = v := by subst h; exact x_uf_self _ _ _
/-- an order leaves its chain -/
theorem tiL.lv (h : tiL N ls A) {o j : Nat} {st : Int32} (hj : sdx (A 1 o).toNatClampNeg (A 2 o) = j) (hst : ¬ st = 0) : tiL N (lvL ls j o) (si A 7 o st) := by
  have e7 : ∀ k, si A 7 o st 7 k = x_uf (A 7) o st k := fun _ => rfl
  refine tiL.of (fun i hi k => ?_) (fun i hi => ?_) (fun i hi => ?_)
  · rw [e7]
    have hk := h.1 i hi k
    show _ ↔ k < N ∧ x_uf (A 7) o st k = 0 ∧ sdx (A 1 k).toNatClampNeg (A 2 k) = i
    unfold lvL
    by_cases c : i = j
    · rw [x_ufe _ _ c]
      subst c
      rw [List.Nodup.mem_erase_iff (h.2.2 i hi), hk]
      by_cases ck : k = o
      · subst ck; rw [x_uf_self]
        exact ⟨fun q => absurd rfl q.1, fun q => absurd q.2.1 hst⟩
      · rw [x_uf_ne _ _ ck]
        exact ⟨fun q => q.2, fun q => ⟨ck, q⟩⟩
    · rw [x_uf_ne _ _ c, hk]
      by_cases ck : k = o
      · subst ck; rw [x_uf_self]
        exact ⟨fun q => absurd (q.2.2.symm.trans hj) c, fun q => absurd q.2.1 hst⟩
      · rw [x_uf_ne _ _ ck]
  · refine Srt_re (A := A) (fun k _ => ⟨rfl, rfl⟩) ?_
    unfold lvL
    by_cases c : i = j
    · rw [x_ufe _ _ c]
      subst c
      exact Srt_erase _ (h.srt hi)
    · rw [x_uf_ne _ _ c]; exact h.srt hi
  · unfold lvL
    by_cases c : i = j
    · rw [x_ufe _ _ c]
      subst c
      exact (h.2.2 i hi).erase _
    · rw [x_uf_ne _ _ c]; exact h.2.2 i hi
/-- one that waits in no chain gets another state -/
theorem tiL.pd (h : tiL N ls A) {o : Nat} {st : Int32} (h0 : ¬ A 7 o = 0) (hst : ¬ st = 0) : tiL N ls (si A 7 o st) := by
  refine tiL.of (fun i hi k => ?_) (fun i hi => Srt_re (A := A) (fun k _ => ⟨rfl, rfl⟩) (h.srt hi)) h.2.2
  rw [h.1 i hi k]
  show _ ↔ k < N ∧ x_uf (A 7) o st k = 0 ∧ sdx (A 1 k).toNatClampNeg (A 2 k) = i
  by_cases ck : k = o
  · subst ck; rw [x_uf_self]
    exact ⟨fun q => absurd q.2.1 h0, fun q => absurd q.2.1 hst⟩
  · rw [x_uf_ne _ _ ck]
theorem tiO.st (h : tiO E N I A) {o : Nat} {st : Int32} (hst : ¬ st = 0) (h3 : ¬ st = 3) : tiO E N (si I 8 o st) (si A 7 o st) := by
  refine h.upd (fun k => k = o) rfl (Int.le_refl _) (fun k _ hk => ⟨fun c _ => si_k hk, fun c _ => si_k hk, id⟩) (fun k hk he => ?_)
  subst he
  have q := (h.2 k hk).1
  have e : si A 7 k st 7 k = st := si_eq _ _ _ _
  refine ⟨⟨q.1, q.2.1, q.2.2.1, q.2.2.2.1, q.2.2.2.2.1, q.2.2.2.2.2.1, ?_⟩, fun z => ?_⟩
  · rw [e, if_neg h3]; exact si_eq _ _ _ _
  · rw [e] at z; exact absurd z hst
theorem tiO.pk (h : tiO E N I A) {o : Nat} (h0 : A 7 o = 0) : tiO E N I (si A 7 o 3) := by
  refine h.upd (fun k => k = o) rfl (Int.le_refl _) (fun k _ hk => ⟨fun c _ => rfl, fun c _ => si_k hk, id⟩) (fun k hk he => ?_)
  subst he
  have q := (h.2 k hk).1
  have e : si A 7 k 3 7 k = 3 := si_eq _ _ _ _
  refine ⟨⟨q.1, q.2.1, q.2.2.1, q.2.2.2.1, q.2.2.2.2.1, q.2.2.2.2.2.1, ?_⟩, fun z => ?_⟩
  · rw [e, if_pos rfl]
    have := q.2.2.2.2.2.2
    rw [h0] at this
    exact this
  · rw [e] at z; exact absurd z (by decide)
/-- shown parts brought together -/
theorem tiO.sh {E' : Nat → Prop} (h : tiO E N I A) {o : Nat} {v w : Int32} (hE : ∀ k, k < N → k ≠ o → E k → E' k) (hv : A 7 o = 0 → v = if A 3 o = 5 then w else A 5 o) : tiO E' N (si I 7 o v) (si A 6 o w) := by
  refine h.upd (fun k => k = o) rfl (Int.le_refl _) (fun k hk' hk => ⟨fun c _ => si_k hk, fun c _ => si_k hk, hE k hk' hk⟩) (fun k hk he => ?_)
  subst he
  have q := h.2 k hk
  refine ⟨q.1, fun z => ⟨(q.2 z).1, fun _ => ?_, (q.2 z).2.2⟩⟩
  have e : shs (si A 6 k w) k = if A 3 k = 5 then w else A 5 k := by
    unfold shs
    rw [si_eq]
    rfl
  rw [e, ← hv z]
  exact si_eq _ _ _ _
/-- a waiting order joins -/
theorem shw_qm {I A : Nat → Nat → Int32} {o : Nat} (h4 : I 4 o = A 3 o) (h6 : I 6 o = A 5 o) : shw I o = if A 3 o = 5 then qm A o else A 5 o := by
  unfold shw qm i_min
  rw [h4, h6]
  by_cases c : A 3 o = 5
  · rw [if_pos c, if_pos c]
    by_cases d : A 5 o < 5
    · rw [if_pos d, if_neg (fun q => by rw [i_le] at q; rw [i_lt] at d; omega)]
    · rw [if_neg d, if_pos (by rw [i_le]; rw [i_lt] at d; omega)]
  · rw [if_neg c, if_neg c]
theorem qe_c {o c k : Nat} (hc : c ≠ 14) (hk : k ≠ o) : qeA A o c k = A c k := by
  unfold qeA
  rw [si_k hk, si_c hc, si_k hk, si_k hk]
theorem tiO.jn (h : tiO E N I A) {o : Nat} (h5 : I 5 o = A 4 o) (h7 : A 7 o = 3) (h0 : 0 ≤ (A 14 0).toInt) (h1 : (A 14 0).toInt < 2147483647) : tiO E N (si I 7 o (shw I o)) (qeA A o) := by
  have e14 : (qeA A o 14 0).toInt = (A 14 0).toInt + 1 := i_p1 h0 h1
  refine h.upd (fun k => k = o) rfl (by rw [e14]; omega) (fun k _ hk => ⟨fun c _ => si_k hk, fun c hc => qe_c (by omega) hk, id⟩) (fun k hk he => ?_)
  subst he
  have q := (h.2 k hk).1
  have e7 : qeA A k 7 k = 0 := si_eq A 7 k 0
  have e8 : qeA A k 8 k = A 14 0 := si_eq (si A 7 k 0) 8 k (A 14 0)
  have e6 : qeA A k 6 k = qm A k := si_eq _ 6 k (qm A k)
  refine ⟨⟨q.1, q.2.1, q.2.2.1, q.2.2.2.1, q.2.2.2.2.1, q.2.2.2.2.2.1, ?_⟩, fun _ => ⟨h5, fun _ => ?_, ?_⟩⟩
  · rw [e7]
    have := q.2.2.2.2.2.2
    rw [h7] at this
    exact this
  · rw [si_eq, shw_qm q.2.2.2.2.1 q.2.2.2.2.2.1]
    unfold shs
    rw [e6]
    rfl
  · rw [e8, e14]; omega
theorem btr_btm {I A : Nat → Nat → Int32} {o a : Nat} (h3 : I 3 o = A 2 o) (h5 : I 5 o = A 4 o) (h5a : I 5 a = A 4 a) : btr I o a ↔ btm (A 2 o) (A 4 o) (A 4 a) := by
  unfold btr acc btm
  rw [h3, h5, h5a, i_lt, i_lt, i_le, i_le, ← Int32.toInt_inj]
  constructor
  · rintro ⟨a, ⟨b, c⟩ | ⟨b, c⟩⟩
    · exact Or.inl ⟨b, by omega⟩
    · exact Or.inr ⟨b, by omega⟩
  · rintro (⟨b, c⟩ | ⟨b, c⟩)
    · exact ⟨by omega, Or.inl ⟨b, by omega⟩⟩
    · exact ⟨by omega, Or.inr ⟨b, by omega⟩⟩
/-- a newcomer with the last stamp keeps the order -/
theorem Srt_ins {o : Nat} {s : Int32} (hs : A 2 o = s) (h3 : I 3 o = A 2 o) (h5 : I 5 o = A 4 o) : ∀ {c : List Nat}, (∀ a ∈ c, I 5 a = A 4 a ∧ A 8 a < A 8 o) → Srt A s c → Srt A s (ins I o c)
  | [], _, _ => ⟨fun _ hk => absurd hk List.not_mem_nil, trivial⟩
  | a :: c, h, hc => by
    have ha := h a List.mem_cons_self
    have key := btr_btm (I := I) (A := A) (o := o) (a := a) h3 h5 ha.1
    rw [hs] at key
    unfold ins
    by_cases b : btr I o a
    · rw [if_pos b]
      have b' : bef A s o a := Or.inl (key.mp b)
      refine ⟨fun k hk => ?_, hc⟩
      rcases List.mem_cons.mp hk with e | hk
      · rw [e]; exact b'
      · exact bef_tr b' (hc.1 k hk)
    · rw [if_neg b]
      refine ⟨fun k hk => ?_, Srt_ins hs h3 h5 (fun x hx => h x (List.mem_cons_of_mem _ hx)) hc.2⟩
      rcases mem_ins.mp hk with e | hk
      · rw [e]
        have nb : ¬ btm s (A 4 o) (A 4 a) := fun z => b (key.mpr z)
        unfold bef
        unfold btm at nb ⊢
        rw [i_le, i_le] at nb
        rw [i_le, i_le]
        by_cases c0 : s = 0
        · have : ¬ ¬ (A 4 o).toInt ≤ (A 4 a).toInt := fun z => nb (Or.inl ⟨c0, z⟩)
          by_cases c1 : (A 4 a).toInt = (A 4 o).toInt
          · exact Or.inr ⟨Int32.toInt_inj.mp c1, ha.2⟩
          · exact Or.inl (Or.inl ⟨c0, by omega⟩)
        · have : ¬ ¬ (A 4 a).toInt ≤ (A 4 o).toInt := fun z => nb (Or.inr ⟨c0, z⟩)
          by_cases c1 : (A 4 a).toInt = (A 4 o).toInt
          · exact Or.inr ⟨Int32.toInt_inj.mp c1, ha.2⟩
          · exact Or.inl (Or.inr ⟨c0, by omega⟩)
      · exact hc.1 k hk
theorem tiL.jn (hO : tiO E N I A) (h : tiL N ls A) {I' : Nat → Nat → Int32} {o j : Nat} (ho : o < N) (hj : sdx (A 1 o).toNatClampNeg (A 2 o) = j) (hj4 : j < 4) (hsd : A 2 o = if j % 2 = 0 then 0 else 1) (h3' : I' 3 = I 3) (h5' : I' 5 = I 5) (h5 : I 5 o = A 4 o) (h7 : A 7 o = 3) : tiL N (jnL I' ls j o) (qeA A o) := by
  have hno : ∀ i, i < 4 → o ∉ ls i := fun i hi z => by have := ((h.1 i hi o).mp z).2.1; rw [h7] at this; exact absurd this (by decide)
  have e8 : qeA A o 8 o = A 14 0 := si_eq (si A 7 o 0) 8 o (A 14 0)
  refine tiL.of (fun i hi k => ?_) (fun i hi => ?_) (fun i hi => ?_)
  · show _ ↔ k < N ∧ x_uf (A 7) o 0 k = 0 ∧ sdx (A 1 k).toNatClampNeg (A 2 k) = i
    unfold jnL
    by_cases c : i = j
    · rw [x_ufe _ _ c]
      subst c
      rw [mem_ins, h.1 i hi k]
      by_cases ck : k = o
      · subst ck; rw [x_uf_self]
        exact ⟨fun _ => ⟨ho, rfl, hj⟩, fun _ => Or.inl rfl⟩
      · rw [x_uf_ne _ _ ck]
        exact ⟨fun q => q.resolve_left ck, Or.inr⟩
    · rw [x_uf_ne _ _ c, h.1 i hi k]
      by_cases ck : k = o
      · subst ck; rw [x_uf_self]
        exact ⟨fun q => by have := q.2.1; rw [h7] at this; exact absurd this (by decide), fun q => absurd (q.2.2.symm.trans hj) c⟩
      · rw [x_uf_ne _ _ ck]
  · have re : Srt (qeA A o) (if i % 2 = 0 then 0 else 1) (ls i) := Srt_re (A := A) (fun k hk => ⟨rfl, qe_c (by decide) (fun e => hno i hi (e ▸ hk))⟩) (h.srt hi)
    unfold jnL
    by_cases c : i = j
    · rw [x_ufe _ _ c]
      subst c
      refine Srt_ins (I := I') (A := qeA A o) (by exact hsd) (by rw [h3']; exact (hO.2 o ho).1.2.2.2.1) (by rw [h5']; exact h5) (fun a ha => ?_) re
      have hm := (h.1 i hi a).mp ha
      have q := (hO.2 a hm.1).2 hm.2.1
      refine ⟨by rw [h5']; exact q.1, ?_⟩
      rw [e8, qe_c (A := A) (o := o) (c := 8) (k := a) (by decide) (fun e => hno i hi (e ▸ ha)), i_lt]
      exact q.2.2
    · rw [x_uf_ne _ _ c]; exact re
  · unfold jnL
    by_cases c : i = j
    · rw [x_ufe _ _ c]
      subst c
      exact nodup_ins (h.2.2 i hi) (hno i hi)
    · rw [x_uf_ne _ _ c]; exact h.2.2 i hi
end TIE7
