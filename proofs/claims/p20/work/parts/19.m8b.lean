section M8b
variable {l : Launch} {G : xG} {N : Nat} {I : Nat → Nat → Int32} {J : Nat → Nat → Int64} {P : Nat → Nat → Option xQ} {V : Nat → Nat → Int32} {A : Nat → Nat → Int32} {B : Nat → Nat → Int64}
variable {h : xH} {ls : Nat → List Nat}
theorem wgB_ne (c0 : Nat) : ∀ (c : List Nat) (I : Nat → Nat → Int32) (x : Nat), x ≠ c0 → wgB c0 I c x = I x
  | [], _, _, _ => rfl
  | o :: c, I, x, h => by
    rw [wgB, wgB_ne c0 c _ x h]
    exact if_neg h
theorem cumB_ne : ∀ (n : Nat) (p : Int32) (I : Nat → Nat → Int32) (x : Nat), x ≠ 15 → cumB n p I x = I x
  | 0, _, _, _, _ => rfl
  | n + 1, p, I, x, h => by
    rw [cumB, cumB_ne n _ _ x h]
    exact if_neg h
theorem cumS_ne : ∀ (n : Nat) (p : Int32) (I : Nat → Nat → Int32) (x : Nat), x ≠ 16 → cumS n p I x = I x
  | 0, _, _, _, _ => rfl
  | n + 1, p, I, x, h => by
    rw [cumS, cumS_ne n _ _ x h]
    exact if_neg h
theorem wgh_ne (I : Nat → Nat → Int32) (cb cs : List Nat) {x : Nat} (h5 : x ≠ 15) (h6 : x ≠ 16) : wgh I cb cs x = I x := by
  unfold wgh
  rw [cumS_ne _ _ _ _ h6, cumB_ne _ _ _ _ h5, wgB_ne _ _ _ _ h6, wgB_ne _ _ _ _ h5]
  show (if x = 16 then _ else (if x = 15 then _ else I x)) = I x
  rw [if_neg h6, if_neg h5]
theorem wgh_KP (I : Nat → Nat → Int32) (cb cs : List Nat) : KP I (wgh I cb cs) ∧ wgh I cb cs 13 = I 13 := by
  refine ⟨⟨?_, ?_, ?_, ?_, ?_, ?_, ?_, ?_⟩, ?_⟩ <;> exact wgh_ne I cb cs (by decide) (by decide)
theorem seal_ex {α : Type} (x : α) : ∃ y : α, y = x := ⟨x, rfl⟩
/-- a value that no unfolding opens -/
noncomputable def sealed {α : Type} (x : α) : α := Classical.choose (seal_ex x)
theorem sealed_eq {α : Type} (x : α) : sealed x = x := Classical.choose_spec (seal_ex x)
noncomputable def wgL (I : Nat → Nat → Int32) (ls : Nat → List Nat) (i : Nat) : Nat → Nat → Int32 := sealed (wgh I (ls (2 * i)) (ls (2 * i + 1)))
noncomputable def cprice (I : Nat → Nat → Int32) (ls : Nat → List Nat) (i : Nat) : Int32 := sealed (fcp (wgL I ls i) (wgL I ls i 11 i) 63 1 0 0)
theorem wgL_eq (I : Nat → Nat → Int32) (ls : Nat → List Nat) (i : Nat) : wgL I ls i = wgh I (ls (2 * i)) (ls (2 * i + 1)) := sealed_eq _
theorem cprice_eq (I : Nat → Nat → Int32) (ls : Nat → List Nat) (i : Nat) : cprice I ls i = fcp (wgh I (ls (2 * i)) (ls (2 * i + 1))) (wgh I (ls (2 * i)) (ls (2 * i + 1)) 11 i) 63 1 0 0 := by
  unfold cprice
  rw [sealed_eq, wgL_eq]
theorem h5_of (hC : CI N I ls) (hQ : QS N P ls) {j : Nat} (hj : j < 4) : ∀ o ∈ ls j, vp_in (I 5 o) 65 := fun o ho => by
  have := (hC.1 o (hQ.2.1 j hj o ho)).2.2.2
  exact vp_of (by omega) (by omega)
theorem cS_fcp {i : Nat} (hC : CI N I ls) (hQ : QS N P ls) (hi : i < 2) : x_C l G mS_findCallPrice 3 0 0 [xR (some (11, 0)), xR (some (3, i))] (hp N I J P V A B) [] (x_is (some (xI (cprice I ls i))) (hp N (wgL I ls i) J P V A B)) := by
  rw [cprice_eq, wgL_eq]
  have a0 : 2 * i < 4 := by omega
  have a1 : 2 * i + 1 < 4 := by omega
  exact cS_findCallPrice (cb := ls (2 * i)) (cs := ls (2 * i + 1)) hi (hQ.1 _ a0) (hQ.2.1 _ a0) (hQ.1 _ a1) (hQ.2.1 _ a1) (h5_of hC hQ a0) (h5_of hC hQ a1)
noncomputable def opS (I : Nat → Nat → Int32) (J : Nat → Nat → Int64) (V : Nat → Nat → Int32) (ls : Nat → List Nat) (i : Int32) : Int32 × cS := if isN i = 0 then (-1, (I, J, V, ls)) else if I 10 i.toNatClampNeg = 0 then (if cprice I ls i.toNatClampNeg = 0 then (0, (si (wgL I ls i.toNatClampNeg) 10 i.toNatClampNeg 1, J, V, ls)) else taF i.toNatClampNeg (cprice I ls i.toNatClampNeg) 120 (si (wgL I ls i.toNatClampNeg) 10 i.toNatClampNeg 1, J, V, ls) 0) else (-3, (I, J, V, ls))
theorem wgL_KP (I : Nat → Nat → Int32) (ls : Nat → List Nat) (i : Nat) : KP I (wgL I ls i) ∧ wgL I ls i 13 = I 13 := by rw [wgL_eq]; exact wgh_KP I (ls (2 * i)) (ls (2 * i + 1))
theorem CI.wgx {W : Nat → Nat → Int32} (q : CI N I ls) (k : KP I W) (x : Nat) (v : Int32) : CI N (si W 10 x v) ls := by
  refine CI.re (I' := si W 10 x v) (ls' := ls) q ?_ ?_ ?_ ?_ (fun _ _ _ h => Or.inl h)
  · show W 1 = I 1; exact k.2.1
  · show W 2 = I 2; exact k.2.2.1
  · show W 3 = I 3; exact k.2.2.2.1
  · show W 5 = I 5; exact k.2.2.2.2.2.1
theorem si_13 (W : Nat → Nat → Int32) (x : Nat) (v : Int32) : si W 10 x v 13 0 = W 13 0 := rfl
theorem CI.wg (q : CI N I ls) (i x : Nat) (v : Int32) : CI N (si (wgL I ls i) 10 x v) ls := CI.wgx q (wgL_KP I ls i).1 x v
theorem wg_13 (I : Nat → Nat → Int32) (ls : Nat → List Nat) (i x : Nat) (v : Int32) : si (wgL I ls i) 10 x v 13 0 = I 13 0 := (si_13 (wgL I ls i) x v).trans (congrFun (wgL_KP I ls i).2 0)

end M8b
