/-! THE HEAP: the class's objects by N (orders), I (ints), J (longs), P (references); the reference's by A (ints), B (longs) -/
def si (I : Nat → Nat → Int32) (c k : Nat) (v : Int32) : Nat → Nat → Int32 := fun c' => if c' = c then x_uf (I c) k v else I c'
def sj (I : Nat → Nat → Int64) (c k : Nat) (v : Int64) : Nat → Nat → Int64 := fun c' => if c' = c then x_uf (I c) k v else I c'
def sp (I : Nat → Nat → Option xQ) (c k : Nat) (v : Option xQ) : Nat → Nat → Option xQ := fun c' => if c' = c then x_uf (I c) k v else I c'
theorem x_uf_self {α : Type} (f : Nat → α) (i : Nat) (v : α) : x_uf f i v i = v := by simp [x_uf]
theorem x_uf_ne {α : Type} (f : Nat → α) {i j : Nat} (v : α) (h : j ≠ i) : x_uf f i v j = f j := by simp [x_uf, h]
abbrev e_O (I : Nat → Nat → Int32) (P : Nat → Nat → Option xQ) (k : Nat) : xE := .inr (2, [xI (I 0 k), xI (I 1 k), xI (I 2 k), xI (I 3 k), xI (I 4 k), xI (I 5 k), xI (I 6 k), xI (I 7 k), xI (I 8 k), xR (P 0 k)])
abbrev e_A (J : Nat → Nat → Int64) (m : Nat) : xE := .inr (0, [xR (some (2, m)), xJ (J 0 m), xJ (J 1 m)])
abbrev e_B (I : Nat → Nat → Int32) (i : Nat) : xE := .inr (1, [xR (some (4, 2 * i)), xR (some (4, 2 * i + 1)), xI (I 10 i), xI (I 11 i)])
abbrev e_D (P : Nat → Nat → Option xQ) (j : Nat) : xE := .inr (4, [xR (P 1 j)])
abbrev e_C (I : Nat → Nat → Int32) : xE := .inr (6, [xR (some (6, 0)), xR (some (7, 0)), xR (some (8, 0)), xR (some (9, 0)), xR (some (11, 0)), xI (I 12 0)])
abbrev e_T (I : Nat → Nat → Int32) : xE := .inr (5, [xR (some (10, 0)), xI (I 13 0)])
abbrev e_S : xE := .inr (3, [xR (some (12, 0)), xR (some (13, 0))])
abbrev e_R (A : Nat → Nat → Int32) : xE := .inr (7, [xI (A 13 0), xR (some (15, 0)), xR (some (15, 1)), xR (some (15, 2)), xR (some (15, 3)), xR (some (15, 4)), xR (some (15, 5)), xR (some (15, 6)), xR (some (15, 7)), xR (some (15, 8)), xI (A 14 0), xR (some (16, 0)), xR (some (16, 1)), xR (some (17, 0)), xR (some (18, 0)), xR (some (19, 0)), xI (A 15 0), xR (some (20, 0)), xI (A 16 0), xI (A 17 0), xI (A 18 0)])
def hp (N : Nat) (I : Nat → Nat → Int32) (J : Nat → Nat → Int64) (P : Nat → Nat → Option xQ) (V : Nat → Nat → Int32) (A : Nat → Nat → Int32) (B : Nat → Nat → Int64) : xH := fun a => match a.1 with
  | 0 => if a.2 < N then some (e_O I P a.2) else none
  | 1 => if a.2 < 5 then some (e_A J a.2) else none
  | 2 => if a.2 < 5 then some (.inl (0, 2, .inl (V a.2))) else none
  | 3 => if a.2 < 2 then some (e_B I a.2) else none
  | 4 => if a.2 < 4 then some (e_D P a.2) else none
  | 5 => if a.2 = 0 then some (e_C I) else none
  | 6 => if a.2 = 0 then some (.inl (3, 5, .inr (.inr (fun j => some (1, j))))) else none
  | 7 => if a.2 = 0 then some (.inl (4, 2, .inr (.inr (fun j => some (3, j))))) else none
  | 8 => if a.2 = 0 then some (.inl (5, 120, .inr (.inr (P 2)))) else none
  | 9 => if a.2 = 0 then some (e_T I) else none
  | 10 => if a.2 = 0 then some (.inl (0, 400, .inl (I 14))) else none
  | 11 => if a.2 = 0 then some e_S else none
  | 12 => if a.2 = 0 then some (.inl (0, 65, .inl (I 15))) else none
  | 13 => if a.2 = 0 then some (.inl (0, 65, .inl (I 16))) else none
  | 14 => if a.2 = 0 then some (e_R A) else none
  | 15 => if a.2 < 9 then some (.inl (0, 120, .inl (A a.2))) else none
  | 16 => if a.2 < 2 then some (.inl (1, 5, .inr (.inl (B a.2)))) else none
  | 17 => if a.2 = 0 then some (.inl (0, 10, .inl (A 9))) else none
  | 18 => if a.2 = 0 then some (.inl (2, 2, .inl (A 10))) else none
  | 19 => if a.2 = 0 then some (.inl (0, 2, .inl (A 11))) else none
  | 20 => if a.2 = 0 then some (.inl (0, 400, .inl (A 12))) else none
  | _ => none
section HP
variable {N : Nat} {I : Nat → Nat → Int32} {J : Nat → Nat → Int64} {P : Nat → Nat → Option xQ} {V : Nat → Nat → Int32} {A : Nat → Nat → Int32} {B : Nat → Nat → Int64}
theorem h_O {k : Nat} (h : k < N) : hp N I J P V A B (0, k) = some (e_O I P k) := if_pos h
theorem h_A {k : Nat} (h : k < 5) : hp N I J P V A B (1, k) = some (e_A J k) := if_pos h
theorem h_P {k : Nat} (h : k < 5) : hp N I J P V A B (2, k) = some (.inl (0, 2, .inl (V k))) := if_pos h
theorem h_B {k : Nat} (h : k < 2) : hp N I J P V A B (3, k) = some (e_B I k) := if_pos h
theorem h_D {k : Nat} (h : k < 4) : hp N I J P V A B (4, k) = some (e_D P k) := if_pos h
theorem vp_lt {i : Int32} {n : Nat} (h : vp_in i n) : i.toNatClampNeg < n := Nat.not_le.mp fun q => h (Or.inr q)
theorem u_O0 {k : Nat} (hk : k < N) (v : Int32) : x_up (hp N I J P V A B) (0, k) (.inr (2, [xI (I 0 k), xI (I 1 k), xI (I 2 k), xI (I 3 k), xI (I 4 k), xI (I 5 k), xI (I 6 k), xI (I 7 k), xI (I 8 k), xR (P 0 k)].set 0 (xI v))) = hp N (si I 0 k v) J P V A B := by
  funext a
  obtain ⟨c, i⟩ := a
  by_cases hci : (c, i) = (0, k)
  · cases hci
    rw [x_up_self]
    show some _ = (if _ < N then some _ else none)
    rw [if_pos hk]
    simp [si, sj, sp, x_uf]
  · rw [x_up_ne _ _ hci]
    match c, hci with
    | 0, hci =>
      have hik : ¬ i = k := fun q => hci (by rw [q])
      have he : e_O (si I 0 k v) P i = e_O I P i := by simp [e_O, e_A, e_B, e_D, si, sj, sp, x_uf, hik]
      exact congrArg (fun e => if i < N then some ((e) : xE) else none) he.symm
    | 1, _ => rfl
    | 2, _ => rfl
    | 3, _ => rfl
    | 4, _ => rfl
    | 5, _ => rfl
    | 6, _ => rfl
    | 7, _ => rfl
    | 8, _ => rfl
    | 9, _ => rfl
    | 10, _ => rfl
    | 11, _ => rfl
    | 12, _ => rfl
    | 13, _ => rfl
    | 14, _ => rfl
    | 15, _ => rfl
    | 16, _ => rfl
    | 17, _ => rfl
    | 18, _ => rfl
    | 19, _ => rfl
    | 20, _ => rfl
    | n + 21, _ => rfl
theorem u_O1 {k : Nat} (hk : k < N) (v : Int32) : x_up (hp N I J P V A B) (0, k) (.inr (2, [xI (I 0 k), xI (I 1 k), xI (I 2 k), xI (I 3 k), xI (I 4 k), xI (I 5 k), xI (I 6 k), xI (I 7 k), xI (I 8 k), xR (P 0 k)].set 1 (xI v))) = hp N (si I 1 k v) J P V A B := by
  funext a
  obtain ⟨c, i⟩ := a
  by_cases hci : (c, i) = (0, k)
  · cases hci
    rw [x_up_self]
    show some _ = (if _ < N then some _ else none)
    rw [if_pos hk]
    simp [si, sj, sp, x_uf]
  · rw [x_up_ne _ _ hci]
    match c, hci with
    | 0, hci =>
      have hik : ¬ i = k := fun q => hci (by rw [q])
      have he : e_O (si I 1 k v) P i = e_O I P i := by simp [e_O, e_A, e_B, e_D, si, sj, sp, x_uf, hik]
      exact congrArg (fun e => if i < N then some ((e) : xE) else none) he.symm
    | 1, _ => rfl
    | 2, _ => rfl
    | 3, _ => rfl
    | 4, _ => rfl
    | 5, _ => rfl
    | 6, _ => rfl
    | 7, _ => rfl
    | 8, _ => rfl
    | 9, _ => rfl
    | 10, _ => rfl
    | 11, _ => rfl
    | 12, _ => rfl
    | 13, _ => rfl
    | 14, _ => rfl
    | 15, _ => rfl
    | 16, _ => rfl
    | 17, _ => rfl
    | 18, _ => rfl
    | 19, _ => rfl
    | 20, _ => rfl
    | n + 21, _ => rfl
theorem u_O2 {k : Nat} (hk : k < N) (v : Int32) : x_up (hp N I J P V A B) (0, k) (.inr (2, [xI (I 0 k), xI (I 1 k), xI (I 2 k), xI (I 3 k), xI (I 4 k), xI (I 5 k), xI (I 6 k), xI (I 7 k), xI (I 8 k), xR (P 0 k)].set 2 (xI v))) = hp N (si I 2 k v) J P V A B := by
  funext a
  obtain ⟨c, i⟩ := a
  by_cases hci : (c, i) = (0, k)
  · cases hci
    rw [x_up_self]
    show some _ = (if _ < N then some _ else none)
    rw [if_pos hk]
    simp [si, sj, sp, x_uf]
  · rw [x_up_ne _ _ hci]
    match c, hci with
    | 0, hci =>
      have hik : ¬ i = k := fun q => hci (by rw [q])
      have he : e_O (si I 2 k v) P i = e_O I P i := by simp [e_O, e_A, e_B, e_D, si, sj, sp, x_uf, hik]
      exact congrArg (fun e => if i < N then some ((e) : xE) else none) he.symm
    | 1, _ => rfl
    | 2, _ => rfl
    | 3, _ => rfl
    | 4, _ => rfl
    | 5, _ => rfl
    | 6, _ => rfl
    | 7, _ => rfl
    | 8, _ => rfl
    | 9, _ => rfl
    | 10, _ => rfl
    | 11, _ => rfl
    | 12, _ => rfl
    | 13, _ => rfl
    | 14, _ => rfl
    | 15, _ => rfl
    | 16, _ => rfl
    | 17, _ => rfl
    | 18, _ => rfl
    | 19, _ => rfl
    | 20, _ => rfl
    | n + 21, _ => rfl
theorem u_O3 {k : Nat} (hk : k < N) (v : Int32) : x_up (hp N I J P V A B) (0, k) (.inr (2, [xI (I 0 k), xI (I 1 k), xI (I 2 k), xI (I 3 k), xI (I 4 k), xI (I 5 k), xI (I 6 k), xI (I 7 k), xI (I 8 k), xR (P 0 k)].set 3 (xI v))) = hp N (si I 3 k v) J P V A B := by
  funext a
  obtain ⟨c, i⟩ := a
  by_cases hci : (c, i) = (0, k)
  · cases hci
    rw [x_up_self]
    show some _ = (if _ < N then some _ else none)
    rw [if_pos hk]
    simp [si, sj, sp, x_uf]
  · rw [x_up_ne _ _ hci]
    match c, hci with
    | 0, hci =>
      have hik : ¬ i = k := fun q => hci (by rw [q])
      have he : e_O (si I 3 k v) P i = e_O I P i := by simp [e_O, e_A, e_B, e_D, si, sj, sp, x_uf, hik]
      exact congrArg (fun e => if i < N then some ((e) : xE) else none) he.symm
    | 1, _ => rfl
    | 2, _ => rfl
    | 3, _ => rfl
    | 4, _ => rfl
    | 5, _ => rfl
    | 6, _ => rfl
    | 7, _ => rfl
    | 8, _ => rfl
    | 9, _ => rfl
    | 10, _ => rfl
    | 11, _ => rfl
    | 12, _ => rfl
    | 13, _ => rfl
    | 14, _ => rfl
    | 15, _ => rfl
    | 16, _ => rfl
    | 17, _ => rfl
    | 18, _ => rfl
    | 19, _ => rfl
    | 20, _ => rfl
    | n + 21, _ => rfl
theorem u_O4 {k : Nat} (hk : k < N) (v : Int32) : x_up (hp N I J P V A B) (0, k) (.inr (2, [xI (I 0 k), xI (I 1 k), xI (I 2 k), xI (I 3 k), xI (I 4 k), xI (I 5 k), xI (I 6 k), xI (I 7 k), xI (I 8 k), xR (P 0 k)].set 4 (xI v))) = hp N (si I 4 k v) J P V A B := by
  funext a
  obtain ⟨c, i⟩ := a
  by_cases hci : (c, i) = (0, k)
  · cases hci
    rw [x_up_self]
    show some _ = (if _ < N then some _ else none)
    rw [if_pos hk]
    simp [si, sj, sp, x_uf]
  · rw [x_up_ne _ _ hci]
    match c, hci with
    | 0, hci =>
      have hik : ¬ i = k := fun q => hci (by rw [q])
      have he : e_O (si I 4 k v) P i = e_O I P i := by simp [e_O, e_A, e_B, e_D, si, sj, sp, x_uf, hik]
      exact congrArg (fun e => if i < N then some ((e) : xE) else none) he.symm
    | 1, _ => rfl
    | 2, _ => rfl
    | 3, _ => rfl
    | 4, _ => rfl
    | 5, _ => rfl
    | 6, _ => rfl
    | 7, _ => rfl
    | 8, _ => rfl
    | 9, _ => rfl
    | 10, _ => rfl
    | 11, _ => rfl
    | 12, _ => rfl
    | 13, _ => rfl
    | 14, _ => rfl
    | 15, _ => rfl
    | 16, _ => rfl
    | 17, _ => rfl
    | 18, _ => rfl
    | 19, _ => rfl
    | 20, _ => rfl
    | n + 21, _ => rfl
theorem u_O5 {k : Nat} (hk : k < N) (v : Int32) : x_up (hp N I J P V A B) (0, k) (.inr (2, [xI (I 0 k), xI (I 1 k), xI (I 2 k), xI (I 3 k), xI (I 4 k), xI (I 5 k), xI (I 6 k), xI (I 7 k), xI (I 8 k), xR (P 0 k)].set 5 (xI v))) = hp N (si I 5 k v) J P V A B := by
  funext a
  obtain ⟨c, i⟩ := a
  by_cases hci : (c, i) = (0, k)
  · cases hci
    rw [x_up_self]
    show some _ = (if _ < N then some _ else none)
    rw [if_pos hk]
    simp [si, sj, sp, x_uf]
  · rw [x_up_ne _ _ hci]
    match c, hci with
    | 0, hci =>
      have hik : ¬ i = k := fun q => hci (by rw [q])
      have he : e_O (si I 5 k v) P i = e_O I P i := by simp [e_O, e_A, e_B, e_D, si, sj, sp, x_uf, hik]
      exact congrArg (fun e => if i < N then some ((e) : xE) else none) he.symm
    | 1, _ => rfl
    | 2, _ => rfl
    | 3, _ => rfl
    | 4, _ => rfl
    | 5, _ => rfl
    | 6, _ => rfl
    | 7, _ => rfl
    | 8, _ => rfl
    | 9, _ => rfl
    | 10, _ => rfl
    | 11, _ => rfl
    | 12, _ => rfl
    | 13, _ => rfl
    | 14, _ => rfl
    | 15, _ => rfl
    | 16, _ => rfl
    | 17, _ => rfl
    | 18, _ => rfl
    | 19, _ => rfl
    | 20, _ => rfl
    | n + 21, _ => rfl
theorem u_O6 {k : Nat} (hk : k < N) (v : Int32) : x_up (hp N I J P V A B) (0, k) (.inr (2, [xI (I 0 k), xI (I 1 k), xI (I 2 k), xI (I 3 k), xI (I 4 k), xI (I 5 k), xI (I 6 k), xI (I 7 k), xI (I 8 k), xR (P 0 k)].set 6 (xI v))) = hp N (si I 6 k v) J P V A B := by
  funext a
  obtain ⟨c, i⟩ := a
  by_cases hci : (c, i) = (0, k)
  · cases hci
    rw [x_up_self]
    show some _ = (if _ < N then some _ else none)
    rw [if_pos hk]
    simp [si, sj, sp, x_uf]
  · rw [x_up_ne _ _ hci]
    match c, hci with
    | 0, hci =>
      have hik : ¬ i = k := fun q => hci (by rw [q])
      have he : e_O (si I 6 k v) P i = e_O I P i := by simp [e_O, e_A, e_B, e_D, si, sj, sp, x_uf, hik]
      exact congrArg (fun e => if i < N then some ((e) : xE) else none) he.symm
    | 1, _ => rfl
    | 2, _ => rfl
    | 3, _ => rfl
    | 4, _ => rfl
    | 5, _ => rfl
    | 6, _ => rfl
    | 7, _ => rfl
    | 8, _ => rfl
    | 9, _ => rfl
    | 10, _ => rfl
    | 11, _ => rfl
    | 12, _ => rfl
    | 13, _ => rfl
    | 14, _ => rfl
    | 15, _ => rfl
    | 16, _ => rfl
    | 17, _ => rfl
    | 18, _ => rfl
    | 19, _ => rfl
    | 20, _ => rfl
    | n + 21, _ => rfl
theorem u_O7 {k : Nat} (hk : k < N) (v : Int32) : x_up (hp N I J P V A B) (0, k) (.inr (2, [xI (I 0 k), xI (I 1 k), xI (I 2 k), xI (I 3 k), xI (I 4 k), xI (I 5 k), xI (I 6 k), xI (I 7 k), xI (I 8 k), xR (P 0 k)].set 7 (xI v))) = hp N (si I 7 k v) J P V A B := by
  funext a
  obtain ⟨c, i⟩ := a
  by_cases hci : (c, i) = (0, k)
  · cases hci
    rw [x_up_self]
    show some _ = (if _ < N then some _ else none)
    rw [if_pos hk]
    simp [si, sj, sp, x_uf]
  · rw [x_up_ne _ _ hci]
    match c, hci with
    | 0, hci =>
      have hik : ¬ i = k := fun q => hci (by rw [q])
      have he : e_O (si I 7 k v) P i = e_O I P i := by simp [e_O, e_A, e_B, e_D, si, sj, sp, x_uf, hik]
      exact congrArg (fun e => if i < N then some ((e) : xE) else none) he.symm
    | 1, _ => rfl
    | 2, _ => rfl
    | 3, _ => rfl
    | 4, _ => rfl
    | 5, _ => rfl
    | 6, _ => rfl
    | 7, _ => rfl
    | 8, _ => rfl
    | 9, _ => rfl
    | 10, _ => rfl
    | 11, _ => rfl
    | 12, _ => rfl
    | 13, _ => rfl
    | 14, _ => rfl
    | 15, _ => rfl
    | 16, _ => rfl
    | 17, _ => rfl
    | 18, _ => rfl
    | 19, _ => rfl
    | 20, _ => rfl
    | n + 21, _ => rfl
theorem u_O8 {k : Nat} (hk : k < N) (v : Int32) : x_up (hp N I J P V A B) (0, k) (.inr (2, [xI (I 0 k), xI (I 1 k), xI (I 2 k), xI (I 3 k), xI (I 4 k), xI (I 5 k), xI (I 6 k), xI (I 7 k), xI (I 8 k), xR (P 0 k)].set 8 (xI v))) = hp N (si I 8 k v) J P V A B := by
  funext a
  obtain ⟨c, i⟩ := a
  by_cases hci : (c, i) = (0, k)
  · cases hci
    rw [x_up_self]
    show some _ = (if _ < N then some _ else none)
    rw [if_pos hk]
    simp [si, sj, sp, x_uf]
  · rw [x_up_ne _ _ hci]
    match c, hci with
    | 0, hci =>
      have hik : ¬ i = k := fun q => hci (by rw [q])
      have he : e_O (si I 8 k v) P i = e_O I P i := by simp [e_O, e_A, e_B, e_D, si, sj, sp, x_uf, hik]
      exact congrArg (fun e => if i < N then some ((e) : xE) else none) he.symm
    | 1, _ => rfl
    | 2, _ => rfl
    | 3, _ => rfl
    | 4, _ => rfl
    | 5, _ => rfl
    | 6, _ => rfl
    | 7, _ => rfl
    | 8, _ => rfl
    | 9, _ => rfl
    | 10, _ => rfl
    | 11, _ => rfl
    | 12, _ => rfl
    | 13, _ => rfl
    | 14, _ => rfl
    | 15, _ => rfl
    | 16, _ => rfl
    | 17, _ => rfl
    | 18, _ => rfl
    | 19, _ => rfl
    | 20, _ => rfl
    | n + 21, _ => rfl
theorem u_O9 {k : Nat} (hk : k < N) (v : Option xQ) : x_up (hp N I J P V A B) (0, k) (.inr (2, [xI (I 0 k), xI (I 1 k), xI (I 2 k), xI (I 3 k), xI (I 4 k), xI (I 5 k), xI (I 6 k), xI (I 7 k), xI (I 8 k), xR (P 0 k)].set 9 (xR v))) = hp N I J (sp P 0 k v) V A B := by
  funext a
  obtain ⟨c, i⟩ := a
  by_cases hci : (c, i) = (0, k)
  · cases hci
    rw [x_up_self]
    show some _ = (if _ < N then some _ else none)
    rw [if_pos hk]
    simp [si, sj, sp, x_uf]
  · rw [x_up_ne _ _ hci]
    match c, hci with
    | 0, hci =>
      have hik : ¬ i = k := fun q => hci (by rw [q])
      have he : e_O I (sp P 0 k v) i = e_O I P i := by simp [e_O, e_A, e_B, e_D, si, sj, sp, x_uf, hik]
      exact congrArg (fun e => if i < N then some ((e) : xE) else none) he.symm
    | 1, _ => rfl
    | 2, _ => rfl
    | 3, _ => rfl
    | 4, _ => rfl
    | 5, _ => rfl
    | 6, _ => rfl
    | 7, _ => rfl
    | 8, _ => rfl
    | 9, _ => rfl
    | 10, _ => rfl
    | 11, _ => rfl
    | 12, _ => rfl
    | 13, _ => rfl
    | 14, _ => rfl
    | 15, _ => rfl
    | 16, _ => rfl
    | 17, _ => rfl
    | 18, _ => rfl
    | 19, _ => rfl
    | 20, _ => rfl
    | n + 21, _ => rfl
theorem u_A1 {k : Nat} (hk : k < 5) (v : Int64) : x_up (hp N I J P V A B) (1, k) (.inr (0, [xR (some (2, k)), xJ (J 0 k), xJ (J 1 k)].set 1 (xJ v))) = hp N I (sj J 0 k v) P V A B := by
  funext a
  obtain ⟨c, i⟩ := a
  by_cases hci : (c, i) = (1, k)
  · cases hci
    rw [x_up_self]
    show some _ = (if _ < 5 then some _ else none)
    rw [if_pos hk]
    simp [si, sj, sp, x_uf]
  · rw [x_up_ne _ _ hci]
    match c, hci with
    | 0, _ => rfl
    | 1, hci =>
      have hik : ¬ i = k := fun q => hci (by rw [q])
      have he : e_A (sj J 0 k v) i = e_A J i := by simp [e_O, e_A, e_B, e_D, si, sj, sp, x_uf, hik]
      exact congrArg (fun e => if i < 5 then some ((e) : xE) else none) he.symm
    | 2, _ => rfl
    | 3, _ => rfl
    | 4, _ => rfl
    | 5, _ => rfl
    | 6, _ => rfl
    | 7, _ => rfl
    | 8, _ => rfl
    | 9, _ => rfl
    | 10, _ => rfl
    | 11, _ => rfl
    | 12, _ => rfl
    | 13, _ => rfl
    | 14, _ => rfl
    | 15, _ => rfl
    | 16, _ => rfl
    | 17, _ => rfl
    | 18, _ => rfl
    | 19, _ => rfl
    | 20, _ => rfl
    | n + 21, _ => rfl
theorem u_A2 {k : Nat} (hk : k < 5) (v : Int64) : x_up (hp N I J P V A B) (1, k) (.inr (0, [xR (some (2, k)), xJ (J 0 k), xJ (J 1 k)].set 2 (xJ v))) = hp N I (sj J 1 k v) P V A B := by
  funext a
  obtain ⟨c, i⟩ := a
  by_cases hci : (c, i) = (1, k)
  · cases hci
    rw [x_up_self]
    show some _ = (if _ < 5 then some _ else none)
    rw [if_pos hk]
    simp [si, sj, sp, x_uf]
  · rw [x_up_ne _ _ hci]
    match c, hci with
    | 0, _ => rfl
    | 1, hci =>
      have hik : ¬ i = k := fun q => hci (by rw [q])
      have he : e_A (sj J 1 k v) i = e_A J i := by simp [e_O, e_A, e_B, e_D, si, sj, sp, x_uf, hik]
      exact congrArg (fun e => if i < 5 then some ((e) : xE) else none) he.symm
    | 2, _ => rfl
    | 3, _ => rfl
    | 4, _ => rfl
    | 5, _ => rfl
    | 6, _ => rfl
    | 7, _ => rfl
    | 8, _ => rfl
    | 9, _ => rfl
    | 10, _ => rfl
    | 11, _ => rfl
    | 12, _ => rfl
    | 13, _ => rfl
    | 14, _ => rfl
    | 15, _ => rfl
    | 16, _ => rfl
    | 17, _ => rfl
    | 18, _ => rfl
    | 19, _ => rfl
    | 20, _ => rfl
    | n + 21, _ => rfl
theorem u_P {k : Nat} (hk : k < 5) (j : Nat) (v : Int32) : x_up (hp N I J P V A B) (2, k) (.inl (0, 2, .inl (x_uf (V k) j v))) = hp N I J P (si V k j v) A B := by
  funext a
  obtain ⟨c, i⟩ := a
  by_cases hci : (c, i) = (2, k)
  · cases hci
    rw [x_up_self]
    show some _ = (if _ < 5 then some _ else none)
    rw [if_pos hk]
    simp [si, sj, sp, x_uf]
  · rw [x_up_ne _ _ hci]
    match c, hci with
    | 0, _ => rfl
    | 1, _ => rfl
    | 2, hci =>
      have hik : ¬ i = k := fun q => hci (by rw [q])
      have he : si V k j v i = V i := by simp [e_O, e_A, e_B, e_D, si, sj, sp, x_uf, hik]
      exact congrArg (fun e => if i < 5 then some ((.inl (0, 2, .inl e)) : xE) else none) he.symm
    | 3, _ => rfl
    | 4, _ => rfl
    | 5, _ => rfl
    | 6, _ => rfl
    | 7, _ => rfl
    | 8, _ => rfl
    | 9, _ => rfl
    | 10, _ => rfl
    | 11, _ => rfl
    | 12, _ => rfl
    | 13, _ => rfl
    | 14, _ => rfl
    | 15, _ => rfl
    | 16, _ => rfl
    | 17, _ => rfl
    | 18, _ => rfl
    | 19, _ => rfl
    | 20, _ => rfl
    | n + 21, _ => rfl
theorem u_B2 {k : Nat} (hk : k < 2) (v : Int32) : x_up (hp N I J P V A B) (3, k) (.inr (1, [xR (some (4, 2 * k)), xR (some (4, 2 * k + 1)), xI (I 10 k), xI (I 11 k)].set 2 (xI v))) = hp N (si I 10 k v) J P V A B := by
  funext a
  obtain ⟨c, i⟩ := a
  by_cases hci : (c, i) = (3, k)
  · cases hci
    rw [x_up_self]
    show some _ = (if _ < 2 then some _ else none)
    rw [if_pos hk]
    simp [si, sj, sp, x_uf]
  · rw [x_up_ne _ _ hci]
    match c, hci with
    | 0, _ => rfl
    | 1, _ => rfl
    | 2, _ => rfl
    | 3, hci =>
      have hik : ¬ i = k := fun q => hci (by rw [q])
      have he : e_B (si I 10 k v) i = e_B I i := by simp [e_O, e_A, e_B, e_D, si, sj, sp, x_uf, hik]
      exact congrArg (fun e => if i < 2 then some ((e) : xE) else none) he.symm
    | 4, _ => rfl
    | 5, _ => rfl
    | 6, _ => rfl
    | 7, _ => rfl
    | 8, _ => rfl
    | 9, _ => rfl
    | 10, _ => rfl
    | 11, _ => rfl
    | 12, _ => rfl
    | 13, _ => rfl
    | 14, _ => rfl
    | 15, _ => rfl
    | 16, _ => rfl
    | 17, _ => rfl
    | 18, _ => rfl
    | 19, _ => rfl
    | 20, _ => rfl
    | n + 21, _ => rfl
theorem u_B3 {k : Nat} (hk : k < 2) (v : Int32) : x_up (hp N I J P V A B) (3, k) (.inr (1, [xR (some (4, 2 * k)), xR (some (4, 2 * k + 1)), xI (I 10 k), xI (I 11 k)].set 3 (xI v))) = hp N (si I 11 k v) J P V A B := by
  funext a
  obtain ⟨c, i⟩ := a
  by_cases hci : (c, i) = (3, k)
  · cases hci
    rw [x_up_self]
    show some _ = (if _ < 2 then some _ else none)
    rw [if_pos hk]
    simp [si, sj, sp, x_uf]
  · rw [x_up_ne _ _ hci]
    match c, hci with
    | 0, _ => rfl
    | 1, _ => rfl
    | 2, _ => rfl
    | 3, hci =>
      have hik : ¬ i = k := fun q => hci (by rw [q])
      have he : e_B (si I 11 k v) i = e_B I i := by simp [e_O, e_A, e_B, e_D, si, sj, sp, x_uf, hik]
      exact congrArg (fun e => if i < 2 then some ((e) : xE) else none) he.symm
    | 4, _ => rfl
    | 5, _ => rfl
    | 6, _ => rfl
    | 7, _ => rfl
    | 8, _ => rfl
    | 9, _ => rfl
    | 10, _ => rfl
    | 11, _ => rfl
    | 12, _ => rfl
    | 13, _ => rfl
    | 14, _ => rfl
    | 15, _ => rfl
    | 16, _ => rfl
    | 17, _ => rfl
    | 18, _ => rfl
    | 19, _ => rfl
    | 20, _ => rfl
    | n + 21, _ => rfl
theorem u_D0 {k : Nat} (hk : k < 4) (v : Option xQ) : x_up (hp N I J P V A B) (4, k) (.inr (4, [xR (P 1 k)].set 0 (xR v))) = hp N I J (sp P 1 k v) V A B := by
  funext a
  obtain ⟨c, i⟩ := a
  by_cases hci : (c, i) = (4, k)
  · cases hci
    rw [x_up_self]
    show some _ = (if _ < 4 then some _ else none)
    rw [if_pos hk]
    simp [si, sj, sp, x_uf]
  · rw [x_up_ne _ _ hci]
    match c, hci with
    | 0, _ => rfl
    | 1, _ => rfl
    | 2, _ => rfl
    | 3, _ => rfl
    | 4, hci =>
      have hik : ¬ i = k := fun q => hci (by rw [q])
      have he : e_D (sp P 1 k v) i = e_D P i := by simp [e_O, e_A, e_B, e_D, si, sj, sp, x_uf, hik]
      exact congrArg (fun e => if i < 4 then some ((e) : xE) else none) he.symm
    | 5, _ => rfl
    | 6, _ => rfl
    | 7, _ => rfl
    | 8, _ => rfl
    | 9, _ => rfl
    | 10, _ => rfl
    | 11, _ => rfl
    | 12, _ => rfl
    | 13, _ => rfl
    | 14, _ => rfl
    | 15, _ => rfl
    | 16, _ => rfl
    | 17, _ => rfl
    | 18, _ => rfl
    | 19, _ => rfl
    | 20, _ => rfl
    | n + 21, _ => rfl
theorem u_C5 (v : Int32) : x_up (hp N I J P V A B) (5, 0) (.inr (6, [xR (some (6, 0)), xR (some (7, 0)), xR (some (8, 0)), xR (some (9, 0)), xR (some (11, 0)), xI (I 12 0)].set 5 (xI v))) = hp N (si I 12 0 v) J P V A B := by
  funext a
  obtain ⟨c, i⟩ := a
  by_cases hci : (c, i) = (5, 0)
  · cases hci
    rw [x_up_self]
    rfl
  · rw [x_up_ne _ _ hci]
    match c, hci with
    | 0, _ => rfl
    | 1, _ => rfl
    | 2, _ => rfl
    | 3, _ => rfl
    | 4, _ => rfl
    | 5, hci =>
      have hik : ¬ i = 0 := fun q => hci (by rw [q])
      show (if i = 0 then some _ else none) = (if i = 0 then some _ else none)
      rw [if_neg hik, if_neg hik]
    | 6, _ => rfl
    | 7, _ => rfl
    | 8, _ => rfl
    | 9, _ => rfl
    | 10, _ => rfl
    | 11, _ => rfl
    | 12, _ => rfl
    | 13, _ => rfl
    | 14, _ => rfl
    | 15, _ => rfl
    | 16, _ => rfl
    | 17, _ => rfl
    | 18, _ => rfl
    | 19, _ => rfl
    | 20, _ => rfl
    | n + 21, _ => rfl
theorem u_T1 (v : Int32) : x_up (hp N I J P V A B) (9, 0) (.inr (5, [xR (some (10, 0)), xI (I 13 0)].set 1 (xI v))) = hp N (si I 13 0 v) J P V A B := by
  funext a
  obtain ⟨c, i⟩ := a
  by_cases hci : (c, i) = (9, 0)
  · cases hci
    rw [x_up_self]
    rfl
  · rw [x_up_ne _ _ hci]
    match c, hci with
    | 0, _ => rfl
    | 1, _ => rfl
    | 2, _ => rfl
    | 3, _ => rfl
    | 4, _ => rfl
    | 5, _ => rfl
    | 6, _ => rfl
    | 7, _ => rfl
    | 8, _ => rfl
    | 9, hci =>
      have hik : ¬ i = 0 := fun q => hci (by rw [q])
      show (if i = 0 then some _ else none) = (if i = 0 then some _ else none)
      rw [if_neg hik, if_neg hik]
    | 10, _ => rfl
    | 11, _ => rfl
    | 12, _ => rfl
    | 13, _ => rfl
    | 14, _ => rfl
    | 15, _ => rfl
    | 16, _ => rfl
    | 17, _ => rfl
    | 18, _ => rfl
    | 19, _ => rfl
    | 20, _ => rfl
    | n + 21, _ => rfl
theorem u_orders (j : Nat) (v : Option xQ) : x_up (hp N I J P V A B) (8, 0) (.inl (5, 120, .inr (.inr (x_uf (P 2) j v)))) = hp N I J (sp P 2 j v) V A B := by
  funext a
  obtain ⟨c, i⟩ := a
  by_cases hci : (c, i) = (8, 0)
  · cases hci
    rw [x_up_self]
    rfl
  · rw [x_up_ne _ _ hci]
    match c, hci with
    | 0, _ => rfl
    | 1, _ => rfl
    | 2, _ => rfl
    | 3, _ => rfl
    | 4, _ => rfl
    | 5, _ => rfl
    | 6, _ => rfl
    | 7, _ => rfl
    | 8, hci =>
      have hik : ¬ i = 0 := fun q => hci (by rw [q])
      show (if i = 0 then some _ else none) = (if i = 0 then some _ else none)
      rw [if_neg hik, if_neg hik]
    | 9, _ => rfl
    | 10, _ => rfl
    | 11, _ => rfl
    | 12, _ => rfl
    | 13, _ => rfl
    | 14, _ => rfl
    | 15, _ => rfl
    | 16, _ => rfl
    | 17, _ => rfl
    | 18, _ => rfl
    | 19, _ => rfl
    | 20, _ => rfl
    | n + 21, _ => rfl
theorem u_rows (j : Nat) (v : Int32) : x_up (hp N I J P V A B) (10, 0) (.inl (0, 400, .inl (x_uf (I 14) j v))) = hp N (si I 14 j v) J P V A B := by
  funext a
  obtain ⟨c, i⟩ := a
  by_cases hci : (c, i) = (10, 0)
  · cases hci
    rw [x_up_self]
    rfl
  · rw [x_up_ne _ _ hci]
    match c, hci with
    | 0, _ => rfl
    | 1, _ => rfl
    | 2, _ => rfl
    | 3, _ => rfl
    | 4, _ => rfl
    | 5, _ => rfl
    | 6, _ => rfl
    | 7, _ => rfl
    | 8, _ => rfl
    | 9, _ => rfl
    | 10, hci =>
      have hik : ¬ i = 0 := fun q => hci (by rw [q])
      show (if i = 0 then some _ else none) = (if i = 0 then some _ else none)
      rw [if_neg hik, if_neg hik]
    | 11, _ => rfl
    | 12, _ => rfl
    | 13, _ => rfl
    | 14, _ => rfl
    | 15, _ => rfl
    | 16, _ => rfl
    | 17, _ => rfl
    | 18, _ => rfl
    | 19, _ => rfl
    | 20, _ => rfl
    | n + 21, _ => rfl
theorem u_bought (j : Nat) (v : Int32) : x_up (hp N I J P V A B) (12, 0) (.inl (0, 65, .inl (x_uf (I 15) j v))) = hp N (si I 15 j v) J P V A B := by
  funext a
  obtain ⟨c, i⟩ := a
  by_cases hci : (c, i) = (12, 0)
  · cases hci
    rw [x_up_self]
    rfl
  · rw [x_up_ne _ _ hci]
    match c, hci with
    | 0, _ => rfl
    | 1, _ => rfl
    | 2, _ => rfl
    | 3, _ => rfl
    | 4, _ => rfl
    | 5, _ => rfl
    | 6, _ => rfl
    | 7, _ => rfl
    | 8, _ => rfl
    | 9, _ => rfl
    | 10, _ => rfl
    | 11, _ => rfl
    | 12, hci =>
      have hik : ¬ i = 0 := fun q => hci (by rw [q])
      show (if i = 0 then some _ else none) = (if i = 0 then some _ else none)
      rw [if_neg hik, if_neg hik]
    | 13, _ => rfl
    | 14, _ => rfl
    | 15, _ => rfl
    | 16, _ => rfl
    | 17, _ => rfl
    | 18, _ => rfl
    | 19, _ => rfl
    | 20, _ => rfl
    | n + 21, _ => rfl
theorem u_sold (j : Nat) (v : Int32) : x_up (hp N I J P V A B) (13, 0) (.inl (0, 65, .inl (x_uf (I 16) j v))) = hp N (si I 16 j v) J P V A B := by
  funext a
  obtain ⟨c, i⟩ := a
  by_cases hci : (c, i) = (13, 0)
  · cases hci
    rw [x_up_self]
    rfl
  · rw [x_up_ne _ _ hci]
    match c, hci with
    | 0, _ => rfl
    | 1, _ => rfl
    | 2, _ => rfl
    | 3, _ => rfl
    | 4, _ => rfl
    | 5, _ => rfl
    | 6, _ => rfl
    | 7, _ => rfl
    | 8, _ => rfl
    | 9, _ => rfl
    | 10, _ => rfl
    | 11, _ => rfl
    | 12, _ => rfl
    | 13, hci =>
      have hik : ¬ i = 0 := fun q => hci (by rw [q])
      show (if i = 0 then some _ else none) = (if i = 0 then some _ else none)
      rw [if_neg hik, if_neg hik]
    | 14, _ => rfl
    | 15, _ => rfl
    | 16, _ => rfl
    | 17, _ => rfl
    | 18, _ => rfl
    | 19, _ => rfl
    | 20, _ => rfl
    | n + 21, _ => rfl
theorem u_R0 (v : Int32) : x_up (hp N I J P V A B) (14, 0) (.inr (7, [xI (A 13 0), xR (some (15, 0)), xR (some (15, 1)), xR (some (15, 2)), xR (some (15, 3)), xR (some (15, 4)), xR (some (15, 5)), xR (some (15, 6)), xR (some (15, 7)), xR (some (15, 8)), xI (A 14 0), xR (some (16, 0)), xR (some (16, 1)), xR (some (17, 0)), xR (some (18, 0)), xR (some (19, 0)), xI (A 15 0), xR (some (20, 0)), xI (A 16 0), xI (A 17 0), xI (A 18 0)].set 0 (xI v))) = hp N I J P V (si A 13 0 v) B := by
  funext a
  obtain ⟨c, i⟩ := a
  by_cases hci : (c, i) = (14, 0)
  · cases hci
    rw [x_up_self]
    rfl
  · rw [x_up_ne _ _ hci]
    match c, hci with
    | 0, _ => rfl
    | 1, _ => rfl
    | 2, _ => rfl
    | 3, _ => rfl
    | 4, _ => rfl
    | 5, _ => rfl
    | 6, _ => rfl
    | 7, _ => rfl
    | 8, _ => rfl
    | 9, _ => rfl
    | 10, _ => rfl
    | 11, _ => rfl
    | 12, _ => rfl
    | 13, _ => rfl
    | 14, hci =>
      have hik : ¬ i = 0 := fun q => hci (by rw [q])
      show (if i = 0 then some _ else none) = (if i = 0 then some _ else none)
      rw [if_neg hik, if_neg hik]
    | 15, _ =>
      by_cases h9 : i < 9
      · show (if i < 9 then some _ else none) = (if i < 9 then some _ else none)
        rw [if_pos h9, if_pos h9, show si A 13 0 v i = A i from if_neg (by omega)]
      · show (if i < 9 then some _ else none) = (if i < 9 then some _ else none)
        rw [if_neg h9, if_neg h9]
    | 16, _ => rfl
    | 17, _ => rfl
    | 18, _ => rfl
    | 19, _ => rfl
    | 20, _ => rfl
    | n + 21, _ => rfl
theorem u_R10 (v : Int32) : x_up (hp N I J P V A B) (14, 0) (.inr (7, [xI (A 13 0), xR (some (15, 0)), xR (some (15, 1)), xR (some (15, 2)), xR (some (15, 3)), xR (some (15, 4)), xR (some (15, 5)), xR (some (15, 6)), xR (some (15, 7)), xR (some (15, 8)), xI (A 14 0), xR (some (16, 0)), xR (some (16, 1)), xR (some (17, 0)), xR (some (18, 0)), xR (some (19, 0)), xI (A 15 0), xR (some (20, 0)), xI (A 16 0), xI (A 17 0), xI (A 18 0)].set 10 (xI v))) = hp N I J P V (si A 14 0 v) B := by
  funext a
  obtain ⟨c, i⟩ := a
  by_cases hci : (c, i) = (14, 0)
  · cases hci
    rw [x_up_self]
    rfl
  · rw [x_up_ne _ _ hci]
    match c, hci with
    | 0, _ => rfl
    | 1, _ => rfl
    | 2, _ => rfl
    | 3, _ => rfl
    | 4, _ => rfl
    | 5, _ => rfl
    | 6, _ => rfl
    | 7, _ => rfl
    | 8, _ => rfl
    | 9, _ => rfl
    | 10, _ => rfl
    | 11, _ => rfl
    | 12, _ => rfl
    | 13, _ => rfl
    | 14, hci =>
      have hik : ¬ i = 0 := fun q => hci (by rw [q])
      show (if i = 0 then some _ else none) = (if i = 0 then some _ else none)
      rw [if_neg hik, if_neg hik]
    | 15, _ =>
      by_cases h9 : i < 9
      · show (if i < 9 then some _ else none) = (if i < 9 then some _ else none)
        rw [if_pos h9, if_pos h9, show si A 14 0 v i = A i from if_neg (by omega)]
      · show (if i < 9 then some _ else none) = (if i < 9 then some _ else none)
        rw [if_neg h9, if_neg h9]
    | 16, _ => rfl
    | 17, _ => rfl
    | 18, _ => rfl
    | 19, _ => rfl
    | 20, _ => rfl
    | n + 21, _ => rfl
theorem u_R16 (v : Int32) : x_up (hp N I J P V A B) (14, 0) (.inr (7, [xI (A 13 0), xR (some (15, 0)), xR (some (15, 1)), xR (some (15, 2)), xR (some (15, 3)), xR (some (15, 4)), xR (some (15, 5)), xR (some (15, 6)), xR (some (15, 7)), xR (some (15, 8)), xI (A 14 0), xR (some (16, 0)), xR (some (16, 1)), xR (some (17, 0)), xR (some (18, 0)), xR (some (19, 0)), xI (A 15 0), xR (some (20, 0)), xI (A 16 0), xI (A 17 0), xI (A 18 0)].set 16 (xI v))) = hp N I J P V (si A 15 0 v) B := by
  funext a
  obtain ⟨c, i⟩ := a
  by_cases hci : (c, i) = (14, 0)
  · cases hci
    rw [x_up_self]
    rfl
  · rw [x_up_ne _ _ hci]
    match c, hci with
    | 0, _ => rfl
    | 1, _ => rfl
    | 2, _ => rfl
    | 3, _ => rfl
    | 4, _ => rfl
    | 5, _ => rfl
    | 6, _ => rfl
    | 7, _ => rfl
    | 8, _ => rfl
    | 9, _ => rfl
    | 10, _ => rfl
    | 11, _ => rfl
    | 12, _ => rfl
    | 13, _ => rfl
    | 14, hci =>
      have hik : ¬ i = 0 := fun q => hci (by rw [q])
      show (if i = 0 then some _ else none) = (if i = 0 then some _ else none)
      rw [if_neg hik, if_neg hik]
    | 15, _ =>
      by_cases h9 : i < 9
      · show (if i < 9 then some _ else none) = (if i < 9 then some _ else none)
        rw [if_pos h9, if_pos h9, show si A 15 0 v i = A i from if_neg (by omega)]
      · show (if i < 9 then some _ else none) = (if i < 9 then some _ else none)
        rw [if_neg h9, if_neg h9]
    | 16, _ => rfl
    | 17, _ => rfl
    | 18, _ => rfl
    | 19, _ => rfl
    | 20, _ => rfl
    | n + 21, _ => rfl
theorem u_R18 (v : Int32) : x_up (hp N I J P V A B) (14, 0) (.inr (7, [xI (A 13 0), xR (some (15, 0)), xR (some (15, 1)), xR (some (15, 2)), xR (some (15, 3)), xR (some (15, 4)), xR (some (15, 5)), xR (some (15, 6)), xR (some (15, 7)), xR (some (15, 8)), xI (A 14 0), xR (some (16, 0)), xR (some (16, 1)), xR (some (17, 0)), xR (some (18, 0)), xR (some (19, 0)), xI (A 15 0), xR (some (20, 0)), xI (A 16 0), xI (A 17 0), xI (A 18 0)].set 18 (xI v))) = hp N I J P V (si A 16 0 v) B := by
  funext a
  obtain ⟨c, i⟩ := a
  by_cases hci : (c, i) = (14, 0)
  · cases hci
    rw [x_up_self]
    rfl
  · rw [x_up_ne _ _ hci]
    match c, hci with
    | 0, _ => rfl
    | 1, _ => rfl
    | 2, _ => rfl
    | 3, _ => rfl
    | 4, _ => rfl
    | 5, _ => rfl
    | 6, _ => rfl
    | 7, _ => rfl
    | 8, _ => rfl
    | 9, _ => rfl
    | 10, _ => rfl
    | 11, _ => rfl
    | 12, _ => rfl
    | 13, _ => rfl
    | 14, hci =>
      have hik : ¬ i = 0 := fun q => hci (by rw [q])
      show (if i = 0 then some _ else none) = (if i = 0 then some _ else none)
      rw [if_neg hik, if_neg hik]
    | 15, _ =>
      by_cases h9 : i < 9
      · show (if i < 9 then some _ else none) = (if i < 9 then some _ else none)
        rw [if_pos h9, if_pos h9, show si A 16 0 v i = A i from if_neg (by omega)]
      · show (if i < 9 then some _ else none) = (if i < 9 then some _ else none)
        rw [if_neg h9, if_neg h9]
    | 16, _ => rfl
    | 17, _ => rfl
    | 18, _ => rfl
    | 19, _ => rfl
    | 20, _ => rfl
    | n + 21, _ => rfl
theorem u_R19 (v : Int32) : x_up (hp N I J P V A B) (14, 0) (.inr (7, [xI (A 13 0), xR (some (15, 0)), xR (some (15, 1)), xR (some (15, 2)), xR (some (15, 3)), xR (some (15, 4)), xR (some (15, 5)), xR (some (15, 6)), xR (some (15, 7)), xR (some (15, 8)), xI (A 14 0), xR (some (16, 0)), xR (some (16, 1)), xR (some (17, 0)), xR (some (18, 0)), xR (some (19, 0)), xI (A 15 0), xR (some (20, 0)), xI (A 16 0), xI (A 17 0), xI (A 18 0)].set 19 (xI v))) = hp N I J P V (si A 17 0 v) B := by
  funext a
  obtain ⟨c, i⟩ := a
  by_cases hci : (c, i) = (14, 0)
  · cases hci
    rw [x_up_self]
    rfl
  · rw [x_up_ne _ _ hci]
    match c, hci with
    | 0, _ => rfl
    | 1, _ => rfl
    | 2, _ => rfl
    | 3, _ => rfl
    | 4, _ => rfl
    | 5, _ => rfl
    | 6, _ => rfl
    | 7, _ => rfl
    | 8, _ => rfl
    | 9, _ => rfl
    | 10, _ => rfl
    | 11, _ => rfl
    | 12, _ => rfl
    | 13, _ => rfl
    | 14, hci =>
      have hik : ¬ i = 0 := fun q => hci (by rw [q])
      show (if i = 0 then some _ else none) = (if i = 0 then some _ else none)
      rw [if_neg hik, if_neg hik]
    | 15, _ =>
      by_cases h9 : i < 9
      · show (if i < 9 then some _ else none) = (if i < 9 then some _ else none)
        rw [if_pos h9, if_pos h9, show si A 17 0 v i = A i from if_neg (by omega)]
      · show (if i < 9 then some _ else none) = (if i < 9 then some _ else none)
        rw [if_neg h9, if_neg h9]
    | 16, _ => rfl
    | 17, _ => rfl
    | 18, _ => rfl
    | 19, _ => rfl
    | 20, _ => rfl
    | n + 21, _ => rfl
theorem u_R20 (v : Int32) : x_up (hp N I J P V A B) (14, 0) (.inr (7, [xI (A 13 0), xR (some (15, 0)), xR (some (15, 1)), xR (some (15, 2)), xR (some (15, 3)), xR (some (15, 4)), xR (some (15, 5)), xR (some (15, 6)), xR (some (15, 7)), xR (some (15, 8)), xI (A 14 0), xR (some (16, 0)), xR (some (16, 1)), xR (some (17, 0)), xR (some (18, 0)), xR (some (19, 0)), xI (A 15 0), xR (some (20, 0)), xI (A 16 0), xI (A 17 0), xI (A 18 0)].set 20 (xI v))) = hp N I J P V (si A 18 0 v) B := by
  funext a
  obtain ⟨c, i⟩ := a
  by_cases hci : (c, i) = (14, 0)
  · cases hci
    rw [x_up_self]
    rfl
  · rw [x_up_ne _ _ hci]
    match c, hci with
    | 0, _ => rfl
    | 1, _ => rfl
    | 2, _ => rfl
    | 3, _ => rfl
    | 4, _ => rfl
    | 5, _ => rfl
    | 6, _ => rfl
    | 7, _ => rfl
    | 8, _ => rfl
    | 9, _ => rfl
    | 10, _ => rfl
    | 11, _ => rfl
    | 12, _ => rfl
    | 13, _ => rfl
    | 14, hci =>
      have hik : ¬ i = 0 := fun q => hci (by rw [q])
      show (if i = 0 then some _ else none) = (if i = 0 then some _ else none)
      rw [if_neg hik, if_neg hik]
    | 15, _ =>
      by_cases h9 : i < 9
      · show (if i < 9 then some _ else none) = (if i < 9 then some _ else none)
        rw [if_pos h9, if_pos h9, show si A 18 0 v i = A i from if_neg (by omega)]
      · show (if i < 9 then some _ else none) = (if i < 9 then some _ else none)
        rw [if_neg h9, if_neg h9]
    | 16, _ => rfl
    | 17, _ => rfl
    | 18, _ => rfl
    | 19, _ => rfl
    | 20, _ => rfl
    | n + 21, _ => rfl
theorem u_ra0 (j : Nat) (v : Int32) : x_up (hp N I J P V A B) (15, 0) (.inl (0, 120, .inl (x_uf (A 0) j v))) = hp N I J P V (si A 0 j v) B := by
  funext a
  obtain ⟨c, i⟩ := a
  by_cases hci : (c, i) = (15, 0)
  · cases hci
    rw [x_up_self]
    rfl
  · rw [x_up_ne _ _ hci]
    match c, hci with
    | 0, _ => rfl
    | 1, _ => rfl
    | 2, _ => rfl
    | 3, _ => rfl
    | 4, _ => rfl
    | 5, _ => rfl
    | 6, _ => rfl
    | 7, _ => rfl
    | 8, _ => rfl
    | 9, _ => rfl
    | 10, _ => rfl
    | 11, _ => rfl
    | 12, _ => rfl
    | 13, _ => rfl
    | 14, _ => rfl
    | 15, hci =>
      have hik : ¬ i = 0 := fun q => hci (by rw [q])
      have he : si A 0 j v i = A i := by simp [e_O, e_A, e_B, e_D, si, sj, sp, x_uf, hik]
      exact congrArg (fun e => if i < 9 then some ((.inl (0, 120, .inl e)) : xE) else none) he.symm
    | 16, _ => rfl
    | 17, _ => rfl
    | 18, _ => rfl
    | 19, _ => rfl
    | 20, _ => rfl
    | n + 21, _ => rfl
theorem u_ra1 (j : Nat) (v : Int32) : x_up (hp N I J P V A B) (15, 1) (.inl (0, 120, .inl (x_uf (A 1) j v))) = hp N I J P V (si A 1 j v) B := by
  funext a
  obtain ⟨c, i⟩ := a
  by_cases hci : (c, i) = (15, 1)
  · cases hci
    rw [x_up_self]
    rfl
  · rw [x_up_ne _ _ hci]
    match c, hci with
    | 0, _ => rfl
    | 1, _ => rfl
    | 2, _ => rfl
    | 3, _ => rfl
    | 4, _ => rfl
    | 5, _ => rfl
    | 6, _ => rfl
    | 7, _ => rfl
    | 8, _ => rfl
    | 9, _ => rfl
    | 10, _ => rfl
    | 11, _ => rfl
    | 12, _ => rfl
    | 13, _ => rfl
    | 14, _ => rfl
    | 15, hci =>
      have hik : ¬ i = 1 := fun q => hci (by rw [q])
      have he : si A 1 j v i = A i := by simp [e_O, e_A, e_B, e_D, si, sj, sp, x_uf, hik]
      exact congrArg (fun e => if i < 9 then some ((.inl (0, 120, .inl e)) : xE) else none) he.symm
    | 16, _ => rfl
    | 17, _ => rfl
    | 18, _ => rfl
    | 19, _ => rfl
    | 20, _ => rfl
    | n + 21, _ => rfl
theorem u_ra2 (j : Nat) (v : Int32) : x_up (hp N I J P V A B) (15, 2) (.inl (0, 120, .inl (x_uf (A 2) j v))) = hp N I J P V (si A 2 j v) B := by
  funext a
  obtain ⟨c, i⟩ := a
  by_cases hci : (c, i) = (15, 2)
  · cases hci
    rw [x_up_self]
    rfl
  · rw [x_up_ne _ _ hci]
    match c, hci with
    | 0, _ => rfl
    | 1, _ => rfl
    | 2, _ => rfl
    | 3, _ => rfl
    | 4, _ => rfl
    | 5, _ => rfl
    | 6, _ => rfl
    | 7, _ => rfl
    | 8, _ => rfl
    | 9, _ => rfl
    | 10, _ => rfl
    | 11, _ => rfl
    | 12, _ => rfl
    | 13, _ => rfl
    | 14, _ => rfl
    | 15, hci =>
      have hik : ¬ i = 2 := fun q => hci (by rw [q])
      have he : si A 2 j v i = A i := by simp [e_O, e_A, e_B, e_D, si, sj, sp, x_uf, hik]
      exact congrArg (fun e => if i < 9 then some ((.inl (0, 120, .inl e)) : xE) else none) he.symm
    | 16, _ => rfl
    | 17, _ => rfl
    | 18, _ => rfl
    | 19, _ => rfl
    | 20, _ => rfl
    | n + 21, _ => rfl
theorem u_ra3 (j : Nat) (v : Int32) : x_up (hp N I J P V A B) (15, 3) (.inl (0, 120, .inl (x_uf (A 3) j v))) = hp N I J P V (si A 3 j v) B := by
  funext a
  obtain ⟨c, i⟩ := a
  by_cases hci : (c, i) = (15, 3)
  · cases hci
    rw [x_up_self]
    rfl
  · rw [x_up_ne _ _ hci]
    match c, hci with
    | 0, _ => rfl
    | 1, _ => rfl
    | 2, _ => rfl
    | 3, _ => rfl
    | 4, _ => rfl
    | 5, _ => rfl
    | 6, _ => rfl
    | 7, _ => rfl
    | 8, _ => rfl
    | 9, _ => rfl
    | 10, _ => rfl
    | 11, _ => rfl
    | 12, _ => rfl
    | 13, _ => rfl
    | 14, _ => rfl
    | 15, hci =>
      have hik : ¬ i = 3 := fun q => hci (by rw [q])
      have he : si A 3 j v i = A i := by simp [e_O, e_A, e_B, e_D, si, sj, sp, x_uf, hik]
      exact congrArg (fun e => if i < 9 then some ((.inl (0, 120, .inl e)) : xE) else none) he.symm
    | 16, _ => rfl
    | 17, _ => rfl
    | 18, _ => rfl
    | 19, _ => rfl
    | 20, _ => rfl
    | n + 21, _ => rfl
theorem u_ra4 (j : Nat) (v : Int32) : x_up (hp N I J P V A B) (15, 4) (.inl (0, 120, .inl (x_uf (A 4) j v))) = hp N I J P V (si A 4 j v) B := by
  funext a
  obtain ⟨c, i⟩ := a
  by_cases hci : (c, i) = (15, 4)
  · cases hci
    rw [x_up_self]
    rfl
  · rw [x_up_ne _ _ hci]
    match c, hci with
    | 0, _ => rfl
    | 1, _ => rfl
    | 2, _ => rfl
    | 3, _ => rfl
    | 4, _ => rfl
    | 5, _ => rfl
    | 6, _ => rfl
    | 7, _ => rfl
    | 8, _ => rfl
    | 9, _ => rfl
    | 10, _ => rfl
    | 11, _ => rfl
    | 12, _ => rfl
    | 13, _ => rfl
    | 14, _ => rfl
    | 15, hci =>
      have hik : ¬ i = 4 := fun q => hci (by rw [q])
      have he : si A 4 j v i = A i := by simp [e_O, e_A, e_B, e_D, si, sj, sp, x_uf, hik]
      exact congrArg (fun e => if i < 9 then some ((.inl (0, 120, .inl e)) : xE) else none) he.symm
    | 16, _ => rfl
    | 17, _ => rfl
    | 18, _ => rfl
    | 19, _ => rfl
    | 20, _ => rfl
    | n + 21, _ => rfl
theorem u_ra5 (j : Nat) (v : Int32) : x_up (hp N I J P V A B) (15, 5) (.inl (0, 120, .inl (x_uf (A 5) j v))) = hp N I J P V (si A 5 j v) B := by
  funext a
  obtain ⟨c, i⟩ := a
  by_cases hci : (c, i) = (15, 5)
  · cases hci
    rw [x_up_self]
    rfl
  · rw [x_up_ne _ _ hci]
    match c, hci with
    | 0, _ => rfl
    | 1, _ => rfl
    | 2, _ => rfl
    | 3, _ => rfl
    | 4, _ => rfl
    | 5, _ => rfl
    | 6, _ => rfl
    | 7, _ => rfl
    | 8, _ => rfl
    | 9, _ => rfl
    | 10, _ => rfl
    | 11, _ => rfl
    | 12, _ => rfl
    | 13, _ => rfl
    | 14, _ => rfl
    | 15, hci =>
      have hik : ¬ i = 5 := fun q => hci (by rw [q])
      have he : si A 5 j v i = A i := by simp [e_O, e_A, e_B, e_D, si, sj, sp, x_uf, hik]
      exact congrArg (fun e => if i < 9 then some ((.inl (0, 120, .inl e)) : xE) else none) he.symm
    | 16, _ => rfl
    | 17, _ => rfl
    | 18, _ => rfl
    | 19, _ => rfl
    | 20, _ => rfl
    | n + 21, _ => rfl
theorem u_ra6 (j : Nat) (v : Int32) : x_up (hp N I J P V A B) (15, 6) (.inl (0, 120, .inl (x_uf (A 6) j v))) = hp N I J P V (si A 6 j v) B := by
  funext a
  obtain ⟨c, i⟩ := a
  by_cases hci : (c, i) = (15, 6)
  · cases hci
    rw [x_up_self]
    rfl
  · rw [x_up_ne _ _ hci]
    match c, hci with
    | 0, _ => rfl
    | 1, _ => rfl
    | 2, _ => rfl
    | 3, _ => rfl
    | 4, _ => rfl
    | 5, _ => rfl
    | 6, _ => rfl
    | 7, _ => rfl
    | 8, _ => rfl
    | 9, _ => rfl
    | 10, _ => rfl
    | 11, _ => rfl
    | 12, _ => rfl
    | 13, _ => rfl
    | 14, _ => rfl
    | 15, hci =>
      have hik : ¬ i = 6 := fun q => hci (by rw [q])
      have he : si A 6 j v i = A i := by simp [e_O, e_A, e_B, e_D, si, sj, sp, x_uf, hik]
      exact congrArg (fun e => if i < 9 then some ((.inl (0, 120, .inl e)) : xE) else none) he.symm
    | 16, _ => rfl
    | 17, _ => rfl
    | 18, _ => rfl
    | 19, _ => rfl
    | 20, _ => rfl
    | n + 21, _ => rfl
theorem u_ra7 (j : Nat) (v : Int32) : x_up (hp N I J P V A B) (15, 7) (.inl (0, 120, .inl (x_uf (A 7) j v))) = hp N I J P V (si A 7 j v) B := by
  funext a
  obtain ⟨c, i⟩ := a
  by_cases hci : (c, i) = (15, 7)
  · cases hci
    rw [x_up_self]
    rfl
  · rw [x_up_ne _ _ hci]
    match c, hci with
    | 0, _ => rfl
    | 1, _ => rfl
    | 2, _ => rfl
    | 3, _ => rfl
    | 4, _ => rfl
    | 5, _ => rfl
    | 6, _ => rfl
    | 7, _ => rfl
    | 8, _ => rfl
    | 9, _ => rfl
    | 10, _ => rfl
    | 11, _ => rfl
    | 12, _ => rfl
    | 13, _ => rfl
    | 14, _ => rfl
    | 15, hci =>
      have hik : ¬ i = 7 := fun q => hci (by rw [q])
      have he : si A 7 j v i = A i := by simp [e_O, e_A, e_B, e_D, si, sj, sp, x_uf, hik]
      exact congrArg (fun e => if i < 9 then some ((.inl (0, 120, .inl e)) : xE) else none) he.symm
    | 16, _ => rfl
    | 17, _ => rfl
    | 18, _ => rfl
    | 19, _ => rfl
    | 20, _ => rfl
    | n + 21, _ => rfl
theorem u_ra8 (j : Nat) (v : Int32) : x_up (hp N I J P V A B) (15, 8) (.inl (0, 120, .inl (x_uf (A 8) j v))) = hp N I J P V (si A 8 j v) B := by
  funext a
  obtain ⟨c, i⟩ := a
  by_cases hci : (c, i) = (15, 8)
  · cases hci
    rw [x_up_self]
    rfl
  · rw [x_up_ne _ _ hci]
    match c, hci with
    | 0, _ => rfl
    | 1, _ => rfl
    | 2, _ => rfl
    | 3, _ => rfl
    | 4, _ => rfl
    | 5, _ => rfl
    | 6, _ => rfl
    | 7, _ => rfl
    | 8, _ => rfl
    | 9, _ => rfl
    | 10, _ => rfl
    | 11, _ => rfl
    | 12, _ => rfl
    | 13, _ => rfl
    | 14, _ => rfl
    | 15, hci =>
      have hik : ¬ i = 8 := fun q => hci (by rw [q])
      have he : si A 8 j v i = A i := by simp [e_O, e_A, e_B, e_D, si, sj, sp, x_uf, hik]
      exact congrArg (fun e => if i < 9 then some ((.inl (0, 120, .inl e)) : xE) else none) he.symm
    | 16, _ => rfl
    | 17, _ => rfl
    | 18, _ => rfl
    | 19, _ => rfl
    | 20, _ => rfl
    | n + 21, _ => rfl
theorem u_rl0 (j : Nat) (v : Int64) : x_up (hp N I J P V A B) (16, 0) (.inl (1, 5, .inr (.inl (x_uf (B 0) j v)))) = hp N I J P V A (sj B 0 j v) := by
  funext a
  obtain ⟨c, i⟩ := a
  by_cases hci : (c, i) = (16, 0)
  · cases hci
    rw [x_up_self]
    rfl
  · rw [x_up_ne _ _ hci]
    match c, hci with
    | 0, _ => rfl
    | 1, _ => rfl
    | 2, _ => rfl
    | 3, _ => rfl
    | 4, _ => rfl
    | 5, _ => rfl
    | 6, _ => rfl
    | 7, _ => rfl
    | 8, _ => rfl
    | 9, _ => rfl
    | 10, _ => rfl
    | 11, _ => rfl
    | 12, _ => rfl
    | 13, _ => rfl
    | 14, _ => rfl
    | 15, _ => rfl
    | 16, hci =>
      have hik : ¬ i = 0 := fun q => hci (by rw [q])
      have he : sj B 0 j v i = B i := by simp [e_O, e_A, e_B, e_D, si, sj, sp, x_uf, hik]
      exact congrArg (fun e => if i < 2 then some ((.inl (1, 5, .inr (.inl e))) : xE) else none) he.symm
    | 17, _ => rfl
    | 18, _ => rfl
    | 19, _ => rfl
    | 20, _ => rfl
    | n + 21, _ => rfl
theorem u_rl1 (j : Nat) (v : Int64) : x_up (hp N I J P V A B) (16, 1) (.inl (1, 5, .inr (.inl (x_uf (B 1) j v)))) = hp N I J P V A (sj B 1 j v) := by
  funext a
  obtain ⟨c, i⟩ := a
  by_cases hci : (c, i) = (16, 1)
  · cases hci
    rw [x_up_self]
    rfl
  · rw [x_up_ne _ _ hci]
    match c, hci with
    | 0, _ => rfl
    | 1, _ => rfl
    | 2, _ => rfl
    | 3, _ => rfl
    | 4, _ => rfl
    | 5, _ => rfl
    | 6, _ => rfl
    | 7, _ => rfl
    | 8, _ => rfl
    | 9, _ => rfl
    | 10, _ => rfl
    | 11, _ => rfl
    | 12, _ => rfl
    | 13, _ => rfl
    | 14, _ => rfl
    | 15, _ => rfl
    | 16, hci =>
      have hik : ¬ i = 1 := fun q => hci (by rw [q])
      have he : sj B 1 j v i = B i := by simp [e_O, e_A, e_B, e_D, si, sj, sp, x_uf, hik]
      exact congrArg (fun e => if i < 2 then some ((.inl (1, 5, .inr (.inl e))) : xE) else none) he.symm
    | 17, _ => rfl
    | 18, _ => rfl
    | 19, _ => rfl
    | 20, _ => rfl
    | n + 21, _ => rfl
theorem u_held (j : Nat) (v : Int32) : x_up (hp N I J P V A B) (17, 0) (.inl (0, 10, .inl (x_uf (A 9) j v))) = hp N I J P V (si A 9 j v) B := by
  funext a
  obtain ⟨c, i⟩ := a
  by_cases hci : (c, i) = (17, 0)
  · cases hci
    rw [x_up_self]
    rfl
  · rw [x_up_ne _ _ hci]
    match c, hci with
    | 0, _ => rfl
    | 1, _ => rfl
    | 2, _ => rfl
    | 3, _ => rfl
    | 4, _ => rfl
    | 5, _ => rfl
    | 6, _ => rfl
    | 7, _ => rfl
    | 8, _ => rfl
    | 9, _ => rfl
    | 10, _ => rfl
    | 11, _ => rfl
    | 12, _ => rfl
    | 13, _ => rfl
    | 14, _ => rfl
    | 15, _ =>
      by_cases h9 : i < 9
      · show (if i < 9 then some _ else none) = (if i < 9 then some _ else none)
        rw [if_pos h9, if_pos h9, show si A 9 j v i = A i from if_neg (by omega)]
      · show (if i < 9 then some _ else none) = (if i < 9 then some _ else none)
        rw [if_neg h9, if_neg h9]
    | 16, _ => rfl
    | 17, hci =>
      have hik : ¬ i = 0 := fun q => hci (by rw [q])
      show (if i = 0 then some _ else none) = (if i = 0 then some _ else none)
      rw [if_neg hik, if_neg hik]
    | 18, _ => rfl
    | 19, _ => rfl
    | 20, _ => rfl
    | n + 21, _ => rfl
theorem u_isOpen (j : Nat) (v : Int32) : x_up (hp N I J P V A B) (18, 0) (.inl (2, 2, .inl (x_uf (A 10) j v))) = hp N I J P V (si A 10 j v) B := by
  funext a
  obtain ⟨c, i⟩ := a
  by_cases hci : (c, i) = (18, 0)
  · cases hci
    rw [x_up_self]
    rfl
  · rw [x_up_ne _ _ hci]
    match c, hci with
    | 0, _ => rfl
    | 1, _ => rfl
    | 2, _ => rfl
    | 3, _ => rfl
    | 4, _ => rfl
    | 5, _ => rfl
    | 6, _ => rfl
    | 7, _ => rfl
    | 8, _ => rfl
    | 9, _ => rfl
    | 10, _ => rfl
    | 11, _ => rfl
    | 12, _ => rfl
    | 13, _ => rfl
    | 14, _ => rfl
    | 15, _ =>
      by_cases h9 : i < 9
      · show (if i < 9 then some _ else none) = (if i < 9 then some _ else none)
        rw [if_pos h9, if_pos h9, show si A 10 j v i = A i from if_neg (by omega)]
      · show (if i < 9 then some _ else none) = (if i < 9 then some _ else none)
        rw [if_neg h9, if_neg h9]
    | 16, _ => rfl
    | 17, _ => rfl
    | 18, hci =>
      have hik : ¬ i = 0 := fun q => hci (by rw [q])
      show (if i = 0 then some _ else none) = (if i = 0 then some _ else none)
      rw [if_neg hik, if_neg hik]
    | 19, _ => rfl
    | 20, _ => rfl
    | n + 21, _ => rfl
theorem u_ref (j : Nat) (v : Int32) : x_up (hp N I J P V A B) (19, 0) (.inl (0, 2, .inl (x_uf (A 11) j v))) = hp N I J P V (si A 11 j v) B := by
  funext a
  obtain ⟨c, i⟩ := a
  by_cases hci : (c, i) = (19, 0)
  · cases hci
    rw [x_up_self]
    rfl
  · rw [x_up_ne _ _ hci]
    match c, hci with
    | 0, _ => rfl
    | 1, _ => rfl
    | 2, _ => rfl
    | 3, _ => rfl
    | 4, _ => rfl
    | 5, _ => rfl
    | 6, _ => rfl
    | 7, _ => rfl
    | 8, _ => rfl
    | 9, _ => rfl
    | 10, _ => rfl
    | 11, _ => rfl
    | 12, _ => rfl
    | 13, _ => rfl
    | 14, _ => rfl
    | 15, _ =>
      by_cases h9 : i < 9
      · show (if i < 9 then some _ else none) = (if i < 9 then some _ else none)
        rw [if_pos h9, if_pos h9, show si A 11 j v i = A i from if_neg (by omega)]
      · show (if i < 9 then some _ else none) = (if i < 9 then some _ else none)
        rw [if_neg h9, if_neg h9]
    | 16, _ => rfl
    | 17, _ => rfl
    | 18, _ => rfl
    | 19, hci =>
      have hik : ¬ i = 0 := fun q => hci (by rw [q])
      show (if i = 0 then some _ else none) = (if i = 0 then some _ else none)
      rw [if_neg hik, if_neg hik]
    | 20, _ => rfl
    | n + 21, _ => rfl
theorem u_rec (j : Nat) (v : Int32) : x_up (hp N I J P V A B) (20, 0) (.inl (0, 400, .inl (x_uf (A 12) j v))) = hp N I J P V (si A 12 j v) B := by
  funext a
  obtain ⟨c, i⟩ := a
  by_cases hci : (c, i) = (20, 0)
  · cases hci
    rw [x_up_self]
    rfl
  · rw [x_up_ne _ _ hci]
    match c, hci with
    | 0, _ => rfl
    | 1, _ => rfl
    | 2, _ => rfl
    | 3, _ => rfl
    | 4, _ => rfl
    | 5, _ => rfl
    | 6, _ => rfl
    | 7, _ => rfl
    | 8, _ => rfl
    | 9, _ => rfl
    | 10, _ => rfl
    | 11, _ => rfl
    | 12, _ => rfl
    | 13, _ => rfl
    | 14, _ => rfl
    | 15, _ =>
      by_cases h9 : i < 9
      · show (if i < 9 then some _ else none) = (if i < 9 then some _ else none)
        rw [if_pos h9, if_pos h9, show si A 12 j v i = A i from if_neg (by omega)]
      · show (if i < 9 then some _ else none) = (if i < 9 then some _ else none)
        rw [if_neg h9, if_neg h9]
    | 16, _ => rfl
    | 17, _ => rfl
    | 18, _ => rfl
    | 19, _ => rfl
    | 20, hci =>
      have hik : ¬ i = 0 := fun q => hci (by rw [q])
      show (if i = 0 then some _ else none) = (if i = 0 then some _ else none)
      rw [if_neg hik, if_neg hik]
    | n + 21, _ => rfl
end HP
