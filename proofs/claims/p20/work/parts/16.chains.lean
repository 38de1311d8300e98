/-! the four chains, and what leaving and joining do to them -/
def QS (N : Nat) (P : Nat → Nat → Option xQ) (ls : Nat → List Nat) : Prop := (∀ j < 4, Ch P (P 1 j) (ls j)) ∧ (∀ j < 4, ∀ o ∈ ls j, o < N) ∧ (∀ j < 4, (ls j).Nodup) ∧ ∀ i < 4, ∀ j < 4, i ≠ j → ∀ o ∈ ls i, o ∉ ls j
def ptr (P : Nat → Nat → Option xQ) (j : Nat) (b : Option Nat) : Option xQ := match b with
  | none => P 1 j
  | some k => P 0 k
theorem Ch.re {P P' : Nat → Nat → Option xQ} : ∀ {c : List Nat} {q : Option xQ}, (∀ o ∈ c, P' 0 o = P 0 o) → Ch P q c → Ch P' q c
  | [], _, _, h => h
  | o :: c, q, he, h => ⟨h.1, by rw [he o List.mem_cons_self]; exact Ch.re (fun x hx => he x (List.mem_cons_of_mem _ hx)) h.2⟩
theorem sp_ne {P : Nat → Nat → Option xQ} {c k : Nat} {v : Option xQ} {c' k' : Nat} (h : ¬ (c' = c ∧ k' = k)) : sp P c k v c' k' = P c' k' := by
  unfold sp
  by_cases hc : c' = c
  · subst hc
    rw [if_pos rfl, x_uf_ne _ _ (fun q => h ⟨rfl, q⟩)]
  · rw [if_neg hc]
theorem sp_eq {P : Nat → Nat → Option xQ} {c k : Nat} {v : Option xQ} : sp P c k v c k = v := by
  unfold sp
  rw [if_pos rfl, x_uf_self]
theorem lnk_ptr (P : Nat → Nat → Option xQ) (j : Nat) (b : Option Nat) (r : Option xQ) : ptr (lnk P j b r) j b = r := by
  cases b with
  | none => show sp P 1 j r 1 j = r; exact sp_eq
  | some k => show sp P 0 k r 0 k = r; exact sp_eq
theorem lnk_0 {P : Nat → Nat → Option xQ} {j : Nat} {b : Option Nat} {r : Option xQ} {x : Nat} (h : b ≠ some x) : lnk P j b r 0 x = P 0 x := by
  cases b with
  | none => exact sp_ne (fun q => by cases q.1)
  | some k => exact sp_ne (fun q => h (by rw [q.2]))
theorem lnk_1 {P : Nat → Nat → Option xQ} {j : Nat} {b : Option Nat} {r : Option xQ} {x : Nat} (h : x ≠ j ∨ b ≠ none) : lnk P j b r 1 x = P 1 x := by
  cases b with
  | none => exact sp_ne (fun q => by rcases h with h | h; exact h q.2; exact h rfl)
  | some k => exact sp_ne (fun q => by cases q.1)
theorem lnk_2 {P : Nat → Nat → Option xQ} {j : Nat} {b : Option Nat} {r : Option xQ} : lnk P j b r 2 = P 2 := by
  cases b <;> rfl
/-- leaving: what the pointer of b holds, who else is touched -/
theorem lvP_ok {P : Nat → Nat → Option xQ} {j o : Nat} : ∀ (c : List Nat) (b : Option Nat), Ch P (ptr P j b) c → c.Nodup → (∀ x ∈ c, b ≠ some x) →
    Ch (lvP P j o b c) (ptr (lvP P j o b c) j b) (c.erase o) ∧ (∀ x, x ∉ c → b ≠ some x → lvP P j o b c 0 x = P 0 x) ∧ (∀ x, x ≠ j ∨ b ≠ none → lvP P j o b c 1 x = P 1 x) ∧ lvP P j o b c 2 = P 2
  | [], b, hc, _, _ => ⟨hc, fun _ _ _ => rfl, fun _ _ => rfl, rfl⟩
  | a :: c, b, hc, hn, hb => by
    obtain ⟨hq, hc⟩ := hc
    have hna : a ∉ c := (List.nodup_cons.mp hn).1
    have hnc : c.Nodup := (List.nodup_cons.mp hn).2
    have hba : b ≠ some a := hb a List.mem_cons_self
    unfold lvP
    by_cases ha : a = o
    · subst ha
      rw [if_pos rfl, List.erase_cons_head]
      have e0 : ∀ x, x ≠ a → b ≠ some x → sp (lnk P j b (P 0 a)) 0 a none 0 x = P 0 x := fun x hx hbx => by
        rw [sp_ne (fun q => hx q.2), lnk_0 hbx]
      refine ⟨?_, fun x hx hbx => e0 x (fun q => hx (by rw [q]; exact List.mem_cons_self)) hbx, fun x hx => ?_, ?_⟩
      · have hp1 : ptr (sp (lnk P j b (P 0 a)) 0 a none) j b = P 0 a := by
          have := lnk_ptr P j b (P 0 a)
          cases b with
          | none => exact this
          | some k =>
            show sp (lnk P j (some k) (P 0 a)) 0 a none 0 k = P 0 a
            rw [sp_ne (fun q => hba (by rw [q.2]))]
            exact this
        rw [hp1]
        exact Ch.re (fun x hx => e0 x (fun q => hna (by rw [← q]; exact hx)) (hb x (List.mem_cons_of_mem _ hx))) hc
      · rw [sp_ne (fun q => by cases q.1), lnk_1 hx]
      · show lnk P j b (P 0 a) 2 = P 2
        exact lnk_2
    · rw [if_neg ha]
      obtain ⟨i1, i2, i3, i4⟩ := lvP_ok (P := P) (j := j) (o := o) c (some a) hc hnc (fun x hx q => hna (by cases q; exact hx))
      have hpt : ptr (lvP P j o (some a) c) j b = some (0, a) := by
        cases b with
        | none => rw [← hq]; exact i3 j (Or.inr (fun q => by cases q))
        | some k =>
          rw [← hq]
          exact i2 k (fun hk => hb k (List.mem_cons_of_mem _ hk) rfl) (fun q => hba (by cases q; rfl))
      refine ⟨?_, fun x hx hbx => i2 x (fun q => hx (List.mem_cons_of_mem _ q)) (fun q => hx (by cases q; exact List.mem_cons_self)), fun x _ => i3 x (Or.inr (fun q => by cases q)), i4⟩
      rw [List.erase_cons_tail (by simpa using ha)]
      exact ⟨hpt, i1⟩
theorem x_ufs {α : Type} (f : Nat → α) (j : Nat) (v : α) : x_uf f j v j = v := x_uf_self f j v
def lvL (ls : Nat → List Nat) (j o : Nat) : Nat → List Nat := x_uf ls j ((ls j).erase o)
theorem lvL_sub {ls : Nat → List Nat} {j o i x : Nat} (h : x ∈ lvL ls j o i) : x ∈ ls i := by
  unfold lvL at h
  by_cases hi : i = j
  · subst hi
    rw [x_uf_self] at h
    exact List.mem_of_mem_erase h
  · rw [x_uf_ne _ _ hi] at h
    exact h
theorem QS.leave {N : Nat} {P : Nat → Nat → Option xQ} {ls : Nat → List Nat} (h : QS N P ls) {j o : Nat} (hj : j < 4) : QS N (lvP P j o none (ls j)) (lvL ls j o) ∧ lvP P j o none (ls j) 2 = P 2 := by
  obtain ⟨h1, h2, h3, h4⟩ := h
  obtain ⟨i1, i2, i3, i4⟩ := lvP_ok (o := o) (ls j) none (h1 j hj) (h3 j hj) (fun x _ q => by cases q)
  refine ⟨⟨fun i hi => ?_, fun i hi x hx => h2 i hi x (lvL_sub hx), fun i hi => ?_, fun i hi k hk hik x hx => fun q => h4 i hi k hk hik x (lvL_sub hx) (lvL_sub q)⟩, i4⟩
  · by_cases hij : i = j
    · subst hij
      unfold lvL
      rw [x_uf_self]
      exact i1
    · unfold lvL
      rw [x_uf_ne _ _ hij, i3 i (Or.inl hij)]
      exact Ch.re (fun x hx => i2 x (h4 i hi j hj hij x hx) (fun q => by cases q)) (h1 i hi)
  · unfold lvL
    by_cases hij : i = j
    · subst hij
      rw [x_uf_self]
      exact (h3 i hi).erase o
    · rw [x_uf_ne _ _ hij]
      exact h3 i hi
/-- joining -/
def ins (I : Nat → Nat → Int32) (o : Nat) : List Nat → List Nat
  | [] => [o]
  | a :: c => if btr I o a then o :: a :: c else a :: ins I o c
theorem mem_ins {I : Nat → Nat → Int32} {o x : Nat} : ∀ {c : List Nat}, x ∈ ins I o c ↔ x = o ∨ x ∈ c
  | [] => by simp [ins]
  | a :: c => by
    unfold ins
    split
    · simp
    · rw [List.mem_cons, mem_ins, List.mem_cons]
      constructor
      · rintro (h | h | h)
        · exact Or.inr (Or.inl h)
        · exact Or.inl h
        · exact Or.inr (Or.inr h)
      · rintro (h | h | h)
        · exact Or.inr (Or.inl h)
        · exact Or.inl h
        · exact Or.inr (Or.inr h)
theorem nodup_ins {I : Nat → Nat → Int32} {o : Nat} : ∀ {c : List Nat}, c.Nodup → o ∉ c → (ins I o c).Nodup
  | [], _, _ => by simp [ins]
  | a :: c, hn, ho => by
    unfold ins
    split
    · exact List.nodup_cons.mpr ⟨ho, hn⟩
    · have h1 := List.nodup_cons.mp hn
      refine List.nodup_cons.mpr ⟨fun q => ?_, nodup_ins h1.2 (fun q => ho (List.mem_cons_of_mem _ q))⟩
      rcases mem_ins.mp q with q | q
      · exact ho (by rw [← q]; exact List.mem_cons_self)
      · exact h1.1 q
theorem jnP_ok {I : Nat → Nat → Int32} {P : Nat → Nat → Option xQ} {j o : Nat} : ∀ (c : List Nat) (b : Option Nat), Ch P (ptr P j b) c → o ∉ c → b ≠ some o → c.Nodup → (∀ x ∈ c, b ≠ some x) →
    Ch (jnP I P j o b c) (ptr (jnP I P j o b c) j b) (ins I o c) ∧ (∀ x, x ∉ c → x ≠ o → b ≠ some x → jnP I P j o b c 0 x = P 0 x) ∧ (∀ x, x ≠ j ∨ b ≠ none → jnP I P j o b c 1 x = P 1 x) ∧ jnP I P j o b c 2 = P 2
  | [], b, _, _, hbo, _, _ => by
    unfold jnP ins
    refine ⟨?_, fun x _ hx hb => ?_, fun x hx => ?_, ?_⟩
    · rw [lnk_ptr]
      refine ⟨rfl, ?_⟩
      show lnk (sp P 0 o none) j b (some (0, o)) 0 o = none
      rw [lnk_0 hbo, sp_eq]
    · rw [lnk_0 hb, sp_ne (fun q => hx q.2)]
    · rw [lnk_1 hx, sp_ne (fun q => by cases q.1)]
    · rw [lnk_2]; rfl
  | a :: c, b, hc, ho, hbo, hn, hb => by
    obtain ⟨hq, hc⟩ := hc
    have hna : a ∉ c := (List.nodup_cons.mp hn).1
    have hnc : c.Nodup := (List.nodup_cons.mp hn).2
    have hba : b ≠ some a := hb a List.mem_cons_self
    have hao : a ≠ o := fun q => ho (by rw [q]; exact List.mem_cons_self)
    unfold jnP ins
    by_cases ht : btr I o a
    · rw [if_pos ht, if_pos ht]
      have e0 : ∀ x, x ≠ o → b ≠ some x → lnk (sp P 0 o (some (0, a))) j b (some (0, o)) 0 x = P 0 x := fun x hx hb => by
        rw [lnk_0 hb, sp_ne (fun q => hx q.2)]
      refine ⟨?_, fun x _ hx hb => e0 x hx hb, fun x hx => ?_, ?_⟩
      · rw [lnk_ptr]
        refine ⟨rfl, ?_, ?_⟩
        · rw [lnk_0 hbo, sp_eq]
        · rw [e0 a hao hba]
          exact Ch.re (fun x hx => e0 x (fun q => ho (by rw [← q]; exact List.mem_cons_of_mem _ hx)) (hb x (List.mem_cons_of_mem _ hx))) hc
      · rw [lnk_1 hx, sp_ne (fun q => by cases q.1)]
      · rw [lnk_2]; rfl
    · rw [if_neg ht, if_neg ht]
      obtain ⟨i1, i2, i3, i4⟩ := jnP_ok (I := I) (P := P) (j := j) (o := o) c (some a) hc (fun q => ho (List.mem_cons_of_mem _ q)) (fun q => hao (by cases q; rfl)) hnc (fun x hx q => hna (by cases q; exact hx))
      have hpt : ptr (jnP I P j o (some a) c) j b = some (0, a) := by
        cases b with
        | none => rw [← hq]; exact i3 j (Or.inr (fun q => by cases q))
        | some k =>
          rw [← hq]
          exact i2 k (fun hk => hb k (List.mem_cons_of_mem _ hk) rfl) (fun q => hbo (by rw [q])) (fun q => hba (by cases q; rfl))
      exact ⟨⟨hpt, i1⟩, fun x hx hxo hbx => i2 x (fun q => hx (List.mem_cons_of_mem _ q)) hxo (fun q => hx (by cases q; exact List.mem_cons_self)), fun x _ => i3 x (Or.inr (fun q => by cases q)), i4⟩
def jnL (I : Nat → Nat → Int32) (ls : Nat → List Nat) (j o : Nat) : Nat → List Nat := x_uf ls j (ins I o (ls j))
theorem mem_jnL {I : Nat → Nat → Int32} {ls : Nat → List Nat} {j o i x : Nat} (h : x ∈ jnL I ls j o i) : x ∈ ls i ∨ (i = j ∧ x = o) := by
  unfold jnL at h
  by_cases hi : i = j
  · subst hi
    rw [x_uf_self] at h
    rcases mem_ins.mp h with h | h
    · exact Or.inr ⟨rfl, h⟩
    · exact Or.inl h
  · rw [x_uf_ne _ _ hi] at h
    exact Or.inl h
theorem QS.join {N : Nat} {I : Nat → Nat → Int32} {P : Nat → Nat → Option xQ} {ls : Nat → List Nat} (h : QS N P ls) {j o : Nat} (hj : j < 4) (ho : o < N) (hno : ∀ i < 4, o ∉ ls i) : QS N (jnP I P j o none (ls j)) (jnL I ls j o) ∧ jnP I P j o none (ls j) 2 = P 2 := by
  obtain ⟨h1, h2, h3, h4⟩ := h
  obtain ⟨i1, i2, i3, i4⟩ := jnP_ok (I := I) (o := o) (ls j) none (h1 j hj) (hno j hj) (fun q => by cases q) (h3 j hj) (fun x _ q => by cases q)
  refine ⟨⟨fun i hi => ?_, fun i hi x hx => ?_, fun i hi => ?_, fun i hi k hk hik x hx q => ?_⟩, i4⟩
  · unfold jnL
    by_cases hij : i = j
    · subst hij
      rw [x_uf_self]
      exact i1
    · rw [x_uf_ne _ _ hij, i3 i (Or.inl hij)]
      exact Ch.re (fun x hx => i2 x (h4 i hi j hj hij x hx) (fun q => hno i hi (by rw [← q]; exact hx)) (fun q => by cases q)) (h1 i hi)
  · rcases mem_jnL hx with hx | hx
    · exact h2 i hi x hx
    · rw [hx.2]; exact ho
  · unfold jnL
    by_cases hij : i = j
    · subst hij
      rw [x_uf_self]
      exact nodup_ins (h3 i hi) (hno i hi)
    · rw [x_uf_ne _ _ hij]
      exact h3 i hi
  · rcases mem_jnL hx with hx | hx
    · rcases mem_jnL q with q | q
      · exact h4 i hi k hk hik x hx q
      · rw [q.2] at hx; exact hno i hi hx
    · rcases mem_jnL q with q | q
      · rw [hx.2] at q; exact hno k hk q
      · exact hik (hx.1.trans q.1.symm)
/-- references stay within the orders -/
def RG (N : Nat) (P : Nat → Nat → Option xQ) : Prop := ∀ (c k : Nat) (a : xQ), c < 2 → P c k = some a → a.1 = 0 ∧ a.2 < N
def PP (N : Nat) (P : Nat → Nat → Option xQ) : Prop := (∀ k, k < N → P 2 k = some (0, k)) ∧ (∀ k, N ≤ k → P 2 k = none) ∧ RG N P
theorem RG.sp {N : Nat} {P : Nat → Nat → Option xQ} (h : RG N P) {c k : Nat} {v : Option xQ} (hv : ∀ a, v = some a → a.1 = 0 ∧ a.2 < N) : RG N (sp P c k v) := by
  intro c' k' a hc ha
  by_cases hk : c' = c ∧ k' = k
  · obtain ⟨rfl, rfl⟩ := hk
    rw [sp_eq] at ha
    exact hv a ha
  · rw [sp_ne hk] at ha
    exact h c' k' a hc ha
theorem RG.lnk {N : Nat} {P : Nat → Nat → Option xQ} (h : RG N P) {j : Nat} {b : Option Nat} {v : Option xQ} (hv : ∀ a, v = some a → a.1 = 0 ∧ a.2 < N) : RG N (lnk P j b v) := by
  cases b with
  | none => exact h.sp hv
  | some k => exact h.sp hv
theorem RG.lv {N : Nat} {P : Nat → Nat → Option xQ} (h : RG N P) {j o : Nat} : ∀ (c : List Nat) (b : Option Nat), RG N (lvP P j o b c)
  | [], _ => h
  | a :: c, b => by
    unfold lvP
    split
    · exact (h.lnk (fun x hx => h 0 a x (by decide) hx)).sp (fun x hx => by cases hx)
    · exact h.lv c (some a)
theorem RG.jn {N : Nat} {I : Nat → Nat → Int32} {P : Nat → Nat → Option xQ} (h : RG N P) {j o : Nat} (ho : o < N) : ∀ (c : List Nat) (b : Option Nat), (∀ x ∈ c, x < N) → RG N (jnP I P j o b c)
  | [], b, _ => by
    unfold jnP
    exact (h.sp (fun x hx => by cases hx)).lnk (fun x hx => by cases hx; exact ⟨rfl, ho⟩)
  | a :: c, b, hl => by
    unfold jnP
    split
    · exact (h.sp (fun x hx => by cases hx; exact ⟨rfl, hl a List.mem_cons_self⟩)).lnk (fun x hx => by cases hx; exact ⟨rfl, ho⟩)
    · exact h.jn ho c (some a) (fun x hx => hl x (List.mem_cons_of_mem _ hx))
theorem PP.leave {N : Nat} {P : Nat → Nat → Option xQ} {ls : Nat → List Nat} (q : PP N P) (h : QS N P ls) {j o : Nat} (hj : j < 4) : PP N (lvP P j o none (ls j)) := by
  refine ⟨fun k hk => ?_, fun k hk => ?_, q.2.2.lv _ _⟩
  · rw [(h.leave hj).2]; exact q.1 k hk
  · rw [(h.leave hj).2]; exact q.2.1 k hk
theorem PP.join {N : Nat} {I : Nat → Nat → Int32} {P : Nat → Nat → Option xQ} {ls : Nat → List Nat} (q : PP N P) (h : QS N P ls) {j o : Nat} (hj : j < 4) (ho : o < N) (hno : ∀ i < 4, o ∉ ls i) : PP N (jnP I P j o none (ls j)) := by
  refine ⟨fun k hk => ?_, fun k hk => ?_, q.2.2.jn ho _ _ (h.2.1 j hj)⟩
  · rw [(h.join hj ho hno).2]; exact q.1 k hk
  · rw [(h.join hj ho hno).2]; exact q.2.1 k hk
theorem QS.clear {N : Nat} {P : Nat → Nat → Option xQ} {ls : Nat → List Nat} (h : QS N P ls) (j : Nat) : QS N (sp P 1 j none) (x_uf ls j []) := by
  obtain ⟨h1, h2, h3, h4⟩ := h
  have hs : ∀ i x, x ∈ x_uf ls j [] i → x ∈ ls i := fun i x hx => by
    by_cases hij : i = j
    · subst hij; rw [x_uf_self] at hx; cases hx
    · rwa [x_uf_ne _ _ hij] at hx
  refine ⟨fun i hi => ?_, fun i hi x hx => h2 i hi x (hs i x hx), fun i hi => ?_, fun i hi k hk hik x hx q => h4 i hi k hk hik x (hs i x hx) (hs k x q)⟩
  · by_cases hij : i = j
    · subst hij
      rw [x_uf_self, sp_eq]
      rfl
    · rw [x_uf_ne _ _ hij, sp_ne (fun q => hij q.2)]
      exact Ch.re (fun x _ => sp_ne (fun q => by cases q.1)) (h1 i hi)
  · by_cases hij : i = j
    · subst hij; rw [x_uf_self]; exact List.nodup_nil
    · rw [x_uf_ne _ _ hij]; exact h3 i hi
theorem PP.clear {N : Nat} {P : Nat → Nat → Option xQ} (q : PP N P) (j : Nat) : PP N (sp P 1 j none) := ⟨q.1, q.2.1, q.2.2.sp (fun x hx => by cases hx)⟩
