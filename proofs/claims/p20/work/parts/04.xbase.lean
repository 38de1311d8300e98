/-! THE X LAYER: a heap of ours is a function of keys (kind, index); where a key lies in the machine's heap is hidden in the judgement x_X, which bundles all that the machine's judgement carries along. -/
abbrev xQ : Type := Nat × Nat
abbrev xZ : Type := xQ → Nat
-- a value: an int, a long, a reference (a key) or null, a foreign reference (an address)
abbrev xV : Type := Int32 ⊕ Int64 ⊕ Option xQ ⊕ Nat
abbrev xI (x : Int32) : xV := Sum.inl x
abbrev xJ (x : Int64) : xV := Sum.inr (Sum.inl x)
abbrev xR (q : Option xQ) : xV := Sum.inr (Sum.inr (Sum.inl q))
abbrev xS (a : Nat) : xV := Sum.inr (Sum.inr (Sum.inr a))
def x_v (z : xZ) (v : xV) : Value := match v with
  | .inl x => .int x
  | .inr (.inl y) => .long y
  | .inr (.inr (.inl q)) => va_rf (q.map z)
  | .inr (.inr (.inr a)) => .ref a
def x_cat (v : xV) : Nat := match v with
  | .inl _ => 1
  | .inr (.inl _) => 2
  | .inr (.inr _) => 1
theorem x_cat_v (z : xZ) (v : xV) : (x_v z v).category = x_cat v := by
  rcases v with x | y | (_ | q) | a <;> rfl
abbrev x_s (z : xZ) (st : List xV) : List Value := st.map (x_v z)
-- a cell: an array (its type's place in xTy, its length, its contents), or an object (its class's place in vwCl, its fields)
abbrev xA : Type := (Nat → Int32) ⊕ (Nat → Int64) ⊕ (Nat → Option xQ)
abbrev xE : Type := (Nat × Nat × xA) ⊕ (Nat × List xV)
abbrev xH : Type := xQ → Option xE
-- classes' numbers and slots; array classes' numbers; the first address that is ours; addresses of the static table and of the script; the script
abbrev xG : Type := va_G × (Nat → ClassId) × Nat × (Nat × Nat) × (Nat × (Nat → Int32))
def x_a (z : xZ) (a : xA) : (Nat → Int32) ⊕ (Nat → Int64) ⊕ (Nat → UInt32) ⊕ (Nat → UInt64) ⊕ (Nat → Option Nat) := match a with
  | .inl f => .inl f
  | .inr (.inl f) => .inr (.inl f)
  | .inr (.inr f) => .inr (.inr (.inr (.inr (fun j => (f j).map z))))
def x_e (G : xG) (z : xZ) (e : xE) : va_E := match e with
  | .inl (t, n, a) => .inl (G.2.1 t, n, x_a z a)
  | .inr (c, fs) => .inr (c, fs.map (x_v z))
/-- the heap H holds the heap h of ours, at the places z -/
def x_W (G : xG) (z : xZ) (h : xH) (H : Heap) : Prop := (∀ (a : xQ) (e : xE), h a = some e → va_at G.1 vwCl (z a, x_e G z e) H ∧ G.2.2.1 ≤ z a) ∧ ∀ a b : xQ, h a ≠ none → h b ≠ none → z a = z b → a = b
/-- the address is one of ours -/
abbrev x_A (G : xG) : Nat → Prop := fun q => G.2.2.1 ≤ q
def x_up (h : xH) (a : xQ) (e : xE) : xH := fun b => if b = a then some e else h b
theorem x_up_self (h : xH) (a : xQ) (e : xE) : x_up h a e a = some e := by simp [x_up]
theorem x_up_ne (h : xH) {a b : xQ} (e : xE) (g : b ≠ a) : x_up h a e b = h b := by simp [x_up, g]
def x_uf {α : Type} (f : Nat → α) (i : Nat) (v : α) : Nat → α := fun j => if j = i then v else f j
/-- the tables: classes, array classes -/
def x_K (G : xG) (U : State) : Prop := (∀ (c : Nat) (q : vw_C), vwCl[c]? = some q → u_Kn U q.1 q.2.1 q.2.2 (G.1.1 c) (G.1.2 c)) ∧ ∀ (i : Nat) (ty : FieldType), xTy[i]? = some ty → ArrOfT U (G.2.1 i) ty ∧ va_RA U (G.2.1 i) ty
theorem x_K.moved {G : xG} {u U : State} (hvm : u.vm.Alike U.vm) (h : x_K G u) : x_K G U := ⟨fun c q hq => u_Kn_moved hvm (h.1 c q hq), fun i ty hi => ⟨arrOfT_moved hvm (h.2 i ty hi).1, (h.2 i ty hi).2.moved hvm⟩⟩
theorem x_K.one {G : xG} {U : State} (h : x_K G U) {i : Nat} {ty : FieldType} (hi : xTy[i]? = some ty) : va_K G.1 vwCl [(G.2.1 i, ty)] U := by
  refine ⟨h.1, fun k q hk => ?_⟩
  have hz : k < 1 := (List.getElem?_eq_some_iff.mp hk).1
  have hk0 : k = 0 := by omega
  subst hk0
  cases hk
  exact h.2 i ty hi
theorem x_K.no {G : xG} {U : State} (h : x_K G U) : va_K G.1 vwCl [] U := ⟨h.1, fun k q hk => by simp at hk⟩
theorem x_P1 {G : xG} {z : xZ} {h : xH} {H : Heap} (hW : x_W G z h H) {a : xQ} {e : xE} (he : h a = some e) : va_P G.1 vwCl [(z a, x_e G z e)] H := by
  intro k q hk
  have hz : k < 1 := (List.getElem?_eq_some_iff.mp hk).1
  have hk0 : k = 0 := by omega
  subst hk0
  cases hk
  exact (hW.1 a e he).1
theorem x_W.sub {G : xG} {z : xZ} {h h1 : xH} {H : Heap} (hW : x_W G z h H) (hs : ∀ (a : xQ) (e : xE), h1 a = some e → h a = some e) : x_W G z h1 H := by
  refine ⟨fun a e ha => hW.1 a e (hs a e ha), fun a b ha hb => hW.2 a b ?_ ?_⟩
  · cases hc : h1 a with
    | none => exact absurd hc ha
    | some e => rw [hs a e hc]; exact fun q => by cases q
  · cases hc : h1 b with
    | none => exact absurd hc hb
    | some e => rw [hs b e hc]; exact fun q => by cases q
-- a cell of ours changes, the others stay
theorem x_W.set {G : xG} {z : xZ} {h : xH} {H H1 : Heap} (hW : x_W G z h H) {a : xQ} {e0 e : xE} (h0 : h a = some e0) (he : va_at G.1 vwCl (z a, x_e G z e) H1) (oq : ∀ q : Nat, q ≠ z a → H1[q]? = H[q]?) : x_W G z (x_up h a e) H1 := by
  have hno : h a ≠ none := by rw [h0]; exact fun q => by cases q
  refine ⟨fun b e2 hb => ?_, fun b b2 hb hb2 => hW.2 b b2 ?_ ?_⟩
  · by_cases hba : b = a
    · subst hba
      rw [x_up_self] at hb
      cases hb
      exact ⟨he, (hW.1 b e0 h0).2⟩
    · rw [x_up_ne _ _ hba] at hb
      have hbn : h b ≠ none := by rw [hb]; exact fun q => by cases q
      exact ⟨(hW.1 b e2 hb).1.kept (oq _ (fun q => hba (hW.2 b a hbn hno q))), (hW.1 b e2 hb).2⟩
  · by_cases hba : b = a
    · rw [hba]; exact hno
    · rwa [x_up_ne _ _ hba] at hb
  · by_cases hba : b2 = a
    · rw [hba]; exact hno
    · rwa [x_up_ne _ _ hba] at hb2
-- no reference to the key
def x_nv (a : xQ) (v : xV) : Prop := v ≠ xR (some a)
def x_ne (a : xQ) (e : xE) : Prop := match e with
  | .inl (_, n, .inr (.inr f)) => ∀ j : Nat, j < n → f j ≠ some a
  | .inl _ => True
  | .inr (_, fs) => ∀ v ∈ fs, x_nv a v
def x_far (nk : List xQ) (vs : List xV) : Prop := ∀ v ∈ vs, ∀ a ∈ nk, x_nv a v
def x_farL (nk : List xQ) (L : List (Option xV)) : Prop := ∀ v : xV, some v ∈ L → ∀ a ∈ nk, x_nv a v
theorem x_v_same {z z1 : xZ} {v : xV} (h : ∀ a : xQ, v = xR (some a) → z1 a = z a) : x_v z1 v = x_v z v := by
  rcases v with x | y | (_ | q) | a
  · rfl
  · rfl
  · rfl
  · have := h q rfl
    show va_rf (some (z1 q)) = va_rf (some (z q))
    rw [this]
  · rfl
theorem x_s_same {z z1 : xZ} {vs : List xV} {nk : List xQ} (hz : ∀ a : xQ, a ∉ nk → z1 a = z a) (hf : x_far nk vs) : x_s z1 vs = x_s z vs := by
  refine List.map_congr_left (fun v hv => x_v_same (fun a ha => hz a (fun hn => hf v hv a hn ha)))
def x_up1 (z : xZ) (a : xQ) (q : Nat) : xZ := fun b => if b = a then q else z b
theorem x_up1_self (z : xZ) (a : xQ) (q : Nat) : x_up1 z a q a = q := by simp [x_up1]
theorem x_up1_ne (z : xZ) {a b : xQ} (q : Nat) (h : b ≠ a) : x_up1 z a q b = z b := by simp [x_up1, h]
-- cells that are read alike
theorem va_at_arr {D : va_G} {a : Nat} {cA : ClassId} {x y : vp_A} {H : Heap} (h : vp_cell cA x = vp_cell cA y) (hx : va_at D vwCl (a, .inl (cA, x)) H) : va_at D vwCl (a, .inl (cA, y)) H := by
  have h1 : H[a]? = some (vp_cell cA x) := hx
  show H[a]? = some (vp_cell cA y)
  rw [h1, h]
theorem x_e_same {G : xG} {z z1 : xZ} {a : xQ} {e : xE} {q : Nat} {H : Heap} (hz : ∀ b : xQ, b ≠ a → z1 b = z b) (hn : x_ne a e) (h : va_at G.1 vwCl (q, x_e G z e) H) : va_at G.1 vwCl (q, x_e G z1 e) H := by
  rcases e with ⟨t, n, f | f | f⟩ | ⟨c, fs⟩
  · exact h
  · exact h
  · refine va_at_arr ?_ h
    show arrV _ n (fun j => va_rf ((f j).map z)) = arrV _ n (fun j => va_rf ((f j).map z1))
    unfold arrV
    congr 2
    funext j
    have hj : f j.val ≠ some a := hn j.val j.isLt
    show va_rf ((f j.val).map z) = va_rf ((f j.val).map z1)
    cases hf : f j.val with
    | none => rfl
    | some b =>
      have hb : b ≠ a := fun q => hj (by rw [hf, q])
      show va_rf (some (z b)) = va_rf (some (z1 b))
      rw [hz b hb]
  · have he : x_e G z1 (.inr (c, fs)) = x_e G z (.inr (c, fs)) := by
      show (Sum.inr (c, fs.map (x_v z1)) : va_E) = Sum.inr (c, fs.map (x_v z))
      congr 2
      refine List.map_congr_left (fun v hv => x_v_same (fun b hb => hz b (fun q => ?_)))
      subst q
      exact hn v hv hb
    rw [he]
    exact h
-- a cell comes
theorem x_W.push {G : xG} {z : xZ} {h : xH} {H H1 : Heap} (hW : x_W G z h H) {a : xQ} {e : xE} (h0 : h a = none) (hn : ∀ (b : xQ) (e2 : xE), h b = some e2 → x_ne a e2) (ha : G.2.2.1 ≤ H.size) (he : va_at G.1 vwCl (H.size, x_e G (x_up1 z a H.size) e) H1) (oq : ∀ q : Nat, q < H.size → H1[q]? = H[q]?) : x_W G (x_up1 z a H.size) (x_up h a e) H1 := by
  have hlt : ∀ b : xQ, h b ≠ none → z b < H.size := fun b hb => by
    cases hc : h b with
    | none => exact absurd hc hb
    | some e2 => exact (hW.1 b e2 hc).1.lt
  refine ⟨fun b e2 hb => ?_, fun b b2 hb hb2 hz => ?_⟩
  · by_cases hba : b = a
    · subst hba
      rw [x_up_self] at hb
      cases hb
      rw [x_up1_self]
      exact ⟨he, ha⟩
    · rw [x_up_ne _ _ hba] at hb
      rw [x_up1_ne _ _ hba]
      refine ⟨x_e_same (fun b hb => x_up1_ne _ _ hb) (hn b e2 hb) ((hW.1 b e2 hb).1.kept (oq _ ?_)), (hW.1 b e2 hb).2⟩
      exact (hW.1 b e2 hb).1.lt
  · by_cases hba : b = a
    · by_cases hb2a : b2 = a
      · rw [hba, hb2a]
      · rw [x_up_ne _ _ hb2a] at hb2
        rw [hba, x_up1_self, x_up1_ne _ _ hb2a] at hz
        have := hlt b2 hb2
        omega
    · rw [x_up_ne _ _ hba] at hb
      by_cases hb2a : b2 = a
      · rw [hb2a, x_up1_self, x_up1_ne _ _ hba] at hz
        have := hlt b hb
        omega
      · rw [x_up_ne _ _ hb2a] at hb2
        rw [x_up1_ne _ _ hba, x_up1_ne _ _ hb2a] at hz
        exact hW.2 b b2 hb hb2 hz
-- locals by place
def x_L (ls : Array Slot) (nL : Nat) (z : xZ) (L : List (Option xV)) : Prop := ls.size = nL ∧ lv_wf ls ∧ ∀ (i : Nat) (v : xV), L[i]? = some (some v) → ls[i]? = some (.val (x_v z v))
def x_lp (z : xZ) (L : List (Option xV)) : List (Nat × Value) := (List.range L.length).filterMap (fun i => match L[i]? with
  | some (some v) => some (i, x_v z v)
  | _ => none)
theorem x_lp_mem {z : xZ} {L : List (Option xV)} {q : Nat × Value} : q ∈ x_lp z L ↔ ∃ v : xV, L[q.1]? = some (some v) ∧ q.2 = x_v z v := by
  unfold x_lp
  rw [List.mem_filterMap]
  constructor
  · rintro ⟨i, -, hi⟩
    split at hi
    · rename_i v hv
      cases hi
      exact ⟨v, hv, rfl⟩
    · cases hi
  · rintro ⟨v, hv, hq⟩
    refine ⟨q.1, List.mem_range.mpr (List.getElem?_eq_some_iff.mp hv).1, ?_⟩
    rw [hv]
    obtain ⟨q1, q2⟩ := q
    have hq' : q2 = x_v z v := hq
    subst hq'
    rfl
theorem x_L.has {ls : Array Slot} {nL : Nat} {z : xZ} {L : List (Option xV)} (h : x_L ls nL z L) : lv_has ls nL (x_lp z L) := by
  refine ⟨h.1, h.2.1, fun q hq => ?_⟩
  obtain ⟨v, hv, he⟩ := x_lp_mem.mp hq
  rw [he]
  exact h.2.2 q.1 v hv
theorem x_L.re {ls : Array Slot} {nL : Nat} {z z1 : xZ} {L : List (Option xV)} {nk : List xQ} (h : x_L ls nL z L) (hz : ∀ a : xQ, a ∉ nk → z1 a = z a) (hf : x_farL nk L) : x_L ls nL z1 L := by
  refine ⟨h.1, h.2.1, fun i v hi => ?_⟩
  rw [h.2.2 i v hi, x_v_same (fun a ha => hz a (fun hn => hf v (List.mem_of_getElem? hi) a hn ha))]
/-- no long ends just ahead of the place -/
def x_ok (L : List (Option xV)) (i : Nat) : Bool := match i with
  | 0 => true
  | j + 1 => match L[j]? with
    | some (some (.inr (.inl _))) => false
    | _ => true
theorem x_ok_of {L : List (Option xV)} {i j : Nat} {w : xV} (h : x_ok L i = true) (hj : j + 1 = i) (hw : L[j]? = some (some w)) : x_cat w = 1 := by
  subst hj
  rcases w with x | y | q
  · rfl
  · simp [x_ok, hw] at h
  · rfl
theorem x_L.set1 {ls : Array Slot} {nL : Nat} {z : xZ} {L : List (Option xV)} {i : Nat} {v : xV} (ho : x_ok L i = true) (h : lv_has ls nL ((i, x_v z v) :: (x_lp z L).filter (fun q => !(q.1 == i) && !(q.1 + 1 == i && q.2.category == 2)))) : x_L ls nL z (L.set i (some v)) := by
  refine ⟨h.1, h.2.1, fun j w hj => ?_⟩
  by_cases hji : i = j
  · subst hji
    rw [List.getElem?_set] at hj
    simp only [if_true] at hj
    split at hj
    · cases hj
      exact h.2.2 (i, x_v z v) List.mem_cons_self
    · cases hj
  · rw [List.getElem?_set_ne hji] at hj
    refine h.2.2 (j, x_v z w) (List.mem_cons_of_mem _ (List.mem_filter.mpr ⟨x_lp_mem.mpr ⟨w, hj, rfl⟩, ?_⟩))
    have h1 : ¬ j = i := fun q => hji q.symm
    by_cases h2 : j + 1 = i
    · simp [h1, x_cat_v, x_ok_of ho h2 hj]
    · simp [h1, h2]
theorem x_L.set2 {ls : Array Slot} {nL : Nat} {z : xZ} {L : List (Option xV)} {i : Nat} {v : xV} (ho : x_ok L i = true) (h : lv_has ls nL ((i, x_v z v) :: (x_lp z L).filter (fun q => !(q.1 == i) && (!(q.1 == i + 1) && !(q.1 + 1 == i && q.2.category == 2))))) : x_L ls nL z ((L.set i (some v)).set (i + 1) none) := by
  refine ⟨h.1, h.2.1, fun j w hj => ?_⟩
  by_cases hj1 : i + 1 = j
  · subst hj1
    rw [List.getElem?_set] at hj
    simp only [if_true] at hj
    split at hj <;> simp at hj
  · rw [List.getElem?_set_ne hj1] at hj
    by_cases hji : i = j
    · subst hji
      rw [List.getElem?_set] at hj
      simp only [if_true] at hj
      split at hj
      · cases hj
        exact h.2.2 (i, x_v z v) List.mem_cons_self
      · cases hj
    · rw [List.getElem?_set_ne hji] at hj
      refine h.2.2 (j, x_v z w) (List.mem_cons_of_mem _ (List.mem_filter.mpr ⟨x_lp_mem.mpr ⟨w, hj, rfl⟩, ?_⟩))
      have h1 : ¬ j = i := fun q => hji q.symm
      have h3 : ¬ j = i + 1 := fun q => hj1 q.symm
      by_cases h2 : j + 1 = i
      · simp [h1, h3, x_cat_v, x_ok_of ho h2 hj]
      · simp [h1, h2, h3]
/-- fewer locals are known -/
def x_le (L L' : List (Option xV)) : Prop := ∀ (i : Nat) (v : xV), L'[i]? = some (some v) → L[i]? = some (some v)
theorem x_L.less {ls : Array Slot} {nL : Nat} {z : xZ} {L L' : List (Option xV)} (h : x_L ls nL z L) (hl : x_le L L') : x_L ls nL z L' := ⟨h.1, h.2.1, fun i v hi => h.2.2 i v (hl i v hi)⟩
/-- words of nest mates, and of arrays of references -/
def x_N (U : State) : Prop := (∀ q ∈ xNs, va_Nw (.methodLinkNest q.1 q.2.1 q.2.2.1 q.2.2.2) U) ∧ va_AO "CallMarket$Account" U ∧ va_AO "CallMarket$Book" U ∧ va_AO "CallMarket$Order" U
theorem x_N_same {u U : State} (h : u.vm = U.vm) (q : x_N u) : x_N U := by
  have ha : u.vm.Alike U.vm := by rw [h]; exact Vm.Alike.refl U.vm
  exact ⟨fun w hw => va_Nw.same rfl h (q.1 w hw), q.2.1.moved ha, q.2.2.1.moved ha, q.2.2.2.moved ha⟩
theorem x_N_warm {s U : State} (hW : s.WarmedH U.vm) (q : x_N s) : x_N U := ⟨fun w hw => va_Nw.warmM hW (q.1 w hw), q.2.1.moved hW.alike, q.2.2.1.moved hW.alike, q.2.2.2.moved hW.alike⟩
/-- what nobody writes: the static table of rates, the script -/
def x_rt (j : Nat) : Value := .int (if j = 0 then 3 else 5)
def x_Z (G : xG) (U : State) (H : Heap) : Prop := va_Z "CallMarket" "RISK_RATES" "[I" (.ref G.2.2.2.1.1) (x_A G) U H ∧ va_T .int G.2.2.2.1.1 2 x_rt (x_A G) U H ∧ va_X G.2.2.2.1.2 G.2.2.2.2.1 G.2.2.2.2.2 U H ∧ G.2.2.2.1.2 < G.2.2.1 ∧ G.2.2.2.1.2 < H.size
theorem x_Z_moved {G : xG} {u U : State} {H : Heap} (hvm : u.vm.Alike U.vm) (q : x_Z G u H) : x_Z G U H := ⟨q.1.moved hvm, q.2.1.moved hvm, q.2.2.1.moved hvm, q.2.2.2⟩
theorem x_Z_kept {G : xG} {U : State} {H H1 : Heap} (q : x_Z G U H) (hz : H.size ≤ H1.size) (hq : ∀ a : Nat, a < H.size → ¬ x_A G a → H1[a]? = H[a]?) : x_Z G U H1 := ⟨q.1.kept hq, q.2.1.kept hq, q.2.2.1.kept (hq _ q.2.2.2.2 (Nat.not_le.mpr q.2.2.2.1)), q.2.2.2.1, Nat.lt_of_lt_of_le q.2.2.2.2 hz⟩
/-- what a world is at a state: the heap of ours, the tables, the words of nest mates, the statics -/
def x_In (G : xG) (z : xZ) (h : xH) (U : State) : Prop := x_W G z h U.heap ∧ x_K G U ∧ x_N U ∧ x_Z G U U.heap ∧ G.2.2.1 ≤ U.heap.size
def x_Qc (G : xG) (z : xZ) (nk : List xQ) (Q : Option xV → xH → Prop) : Array Value → State → Outcome → State → Prop := fun _ st oc t => ∃ (r : Option xV) (h' : xH) (z' : xZ), oc = .returned (r.map (x_v z')) ∧ Q r h' ∧ x_W G z' h' t.heap ∧ va_F (x_A G) st t ∧ ∀ a : xQ, a ∉ nk → z' a = z a
def x_rm (d kc ks : Nat) : Room := { frames := d, cells := kc, slots := ks, locals := 36 * d }
/-- a method's contract: from the heap h with the arguments av it returns, Q of its answer and of the heap then; new cells lie at the keys nk -/
def x_C (l : Launch) (G : xG) (M : xM) (d kc ks : Nat) (av : List xV) (h : xH) (nk : List xQ) (Q : Option xV → xH → Prop) : Prop := ∀ z : xZ, Met l M.1 (Cond.code M.1 M.2.1 M.2.2.1 M.2.2.2 :: wsA) (x_rm d kc ks) (va_Pc (x_s z av) (x_In G z h)) (x_Qc G z nk Q) kc ks (x_A G)
/-- what stays the same over a method's run -/
def x_Cx (p : Program) (G : xG) (M : xM) (R : Room) (s : State) (m : MethodId) (args : Array Value) (meth : Method) (c : Code) (d : Nat) : Prop :=
  p.tables.exec = Jvm.exec ∧ c.code = M.2.1 ∧ c.maxLocals = M.2.2.1 ∧ s.vm.findClass M.1.cls = some m.cls ∧ meth.sig.returnType = M.2.2.2 ∧ meth.locks = false ∧ meth.name = M.1.name ∧ (∀ w ∈ wsA, w.before args s = true) ∧ d ≤ R.frames ∧ 36 * d ≤ R.locals ∧ x_K G s ∧ x_N s ∧ x_Z G s s.heap ∧ G.2.2.1 ≤ s.heap.size
/-- from here the method returns, and Q holds of its answer and of the heap of ours then; d frames, kc cells of ks slots are left -/
def x_X (l : Launch) (G : xG) (M : xM) (d kc ks : Nat) (nk : List xQ) (Q : Option xV → xH → Prop) (pc : Nat) (L : List (Option xV)) (st : List xV) (h : xH) : Prop :=
  ∀ (p : Program) (e : Env) (R : Room) (s : State) (m : MethodId) (args : Array Value) (below : List Frame) (meth : Method) (c : Code) (H : Heap) (locs : List Loc) (cells slots mc ms : Nat) (ls : Array Slot) (z0 z : xZ),
    x_Cx p G M R s m args meth c d → (cells + kc ≤ mc ∧ slots + ks ≤ ms ∧ mc ≤ R.cells ∧ ms ≤ R.slots) → (∀ a : xQ, a ∉ nk → z a = z0 a) → x_W G z h H → va_S (x_A G) s.heap H locs → x_L ls M.2.2.1 z L →
      W p l e R s m args below meth c H locs cells slots (MQ below (x_Qc G z0 nk Q) args s mc ms (x_A G)) (F0 m pc ls (x_s z st))
