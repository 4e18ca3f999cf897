section Small3
variable {xs : Nat → Int32} {Ln : Nat} {I : Nat → Nat → Int32} {J : Nat → Nat → Int64} {Z : Nat → Nat → Bool} {w : Nat → Nat} {rem : Nat}
theorem l_inN {k n : Nat} (h : k < n) (hn : n ≤ 2 ^ 31) : l_in (Int32.ofNat k) n = true := by
  unfold l_in
  rw [n_int (by omega)]
  exact decide_eq_true (by omega)
theorem d_28N (k : Nat) (h : k < 12) : w_R xs Ln 28 (0, [(0, .int (Int32.ofNat k))], [], (I, J, kR w rem, Z), 0, 0) (fun o s => o = .inl (some (.int (s_b true))) ∧ s = (I, J, kR w rem, Z)) := by
  have h1 := d_28 (xs := xs) (Ln := Ln) (I := I) (J := J) (Z := Z) (w := w) (rem := rem) (Int32.ofNat k)
  rw [l_inN h (by decide)] at h1
  exact h1
theorem d_29N (k : Nat) (h : k < 4) : w_R xs Ln 29 (0, [(0, .int (Int32.ofNat k))], [], (I, J, kR w rem, Z), 0, 0) (fun o s => o = .inl (some (.int (s_b true))) ∧ s = (I, J, kR w rem, Z)) := by
  have h1 := d_29 (xs := xs) (Ln := Ln) (I := I) (J := J) (Z := Z) (w := w) (rem := rem) (Int32.ofNat k)
  rw [l_inN h (by decide)] at h1
  exact h1
theorem d_30N (k : Nat) (h : k < 16) : w_R xs Ln 30 (0, [(0, .int (Int32.ofNat k))], [], (I, J, kR w rem, Z), 0, 0) (fun o s => o = .inl (some (.int (s_b true))) ∧ s = (I, J, kR w rem, Z)) := by
  have h1 := d_30 (xs := xs) (Ln := Ln) (I := I) (J := J) (Z := Z) (w := w) (rem := rem) (Int32.ofNat k)
  rw [l_inN h (by decide)] at h1
  exact h1
theorem d_31N (k : Nat) (h : k < 6) : w_R xs Ln 31 (0, [(0, .int (Int32.ofNat k))], [], (I, J, kR w rem, Z), 0, 0) (fun o s => o = .inl (some (.int (s_b true))) ∧ s = (I, J, kR w rem, Z)) := by
  have h1 := d_31 (xs := xs) (Ln := Ln) (I := I) (J := J) (Z := Z) (w := w) (rem := rem) (Int32.ofNat k)
  rw [l_inN h (by decide)] at h1
  exact h1
theorem d_32N (k : Nat) (h : k < 2) : w_R xs Ln 32 (0, [(0, .int (Int32.ofNat k))], [], (I, J, kR w rem, Z), 0, 0) (fun o s => o = .inl (some (.int (s_b true))) ∧ s = (I, J, kR w rem, Z)) := by
  have h1 := d_32 (xs := xs) (Ln := Ln) (I := I) (J := J) (Z := Z) (w := w) (rem := rem) (Int32.ofNat k)
  rw [l_inN h (by decide)] at h1
  exact h1
theorem d_33N (k : Nat) (h : k < 16) : w_R xs Ln 33 (0, [(0, .int (Int32.ofNat k))], [], (I, J, kR w rem, Z), 0, 0) (fun o s => o = .inl (some (.int (s_b true))) ∧ s = (I, J, kR w rem, Z)) := by
  have h1 := d_33 (xs := xs) (Ln := Ln) (I := I) (J := J) (Z := Z) (w := w) (rem := rem) (Int32.ofNat k)
  rw [l_inN h (by decide)] at h1
  exact h1
def v_34 (I : Nat → Nat → Int32) (J : Nat → Nat → Int64) (Z : Nat → Nat → Bool) (r : Nat) : Int32 := Int32.ofNat (1 - r)
theorem d_34 (r : Nat) (hr : r < 2) : w_R xs Ln 34 (0, [(0, .int (Int32.ofNat r))], [], (I, J, kR w rem, Z), 0, 0) (fun o s => o = .inl (some (.int (v_34 I J Z r))) ∧ s = (I, J, kR w rem, Z)) := by
  refine w_R.go (c' := (3, [(0, .int (Int32.ofNat r))], [.int (Int32.ofNat 1 - Int32.ofNat r)], (I, J, kR w rem, Z), 0, 0)) 3 ?_ (fun m_ x_ Q_ k_ => ⟨trivial, trivial, trivial, k_⟩)
  rw [n_sub (a := 1) (b := r) (by omega)]
  show w_R xs Ln 34 (3, [(0, .int (Int32.ofNat r))], [.int (Int32.ofNat (1 - r))], (I, J, kR w rem, Z), 0, 0) _
  refine w_R.ret 1 (.inl (some (.int (Int32.ofNat (1 - r))))) (I, J, kR w rem, Z) ?_ (fun x_ Q_ k_ => ⟨trivial, ⟨Nat.le_of_ble_eq_true rfl, Nat.le_of_ble_eq_true rfl⟩, k_⟩)
  exact ⟨by rw [show v_34 I J Z r = (Int32.ofNat (1 - r)) from by unfold v_34; rfl] <;> rfl, rfl⟩
def v_36 (I : Nat → Nat → Int32) (J : Nat → Nat → Int64) (Z : Nat → Nat → Bool) (r : Nat) (q : Nat) (d : Nat) : Bool := if 0 < (v_92 I J Z r d) then true else false
theorem d_36 (r : Nat) (q : Nat) (d : Nat) (hr : r < 2) (hq : q < 12) (hd : d < 4) (hdq : I 3 q = Int32.ofNat d) : w_R xs Ln 36 (0, [(0, .ref 1), (1, .int (Int32.ofNat r)), (2, .int (Int32.ofNat q))], [], (I, J, kR w rem, Z), 0, 0) (fun o s => o = .inl (some (.int (s_b (v_36 I J Z r q d)))) ∧ s = (I, J, kR w rem, Z)) := by
  refine w_R.go (c' := (6, [(0, .ref 1), (1, .int (Int32.ofNat r)), (2, .int (Int32.ofNat q))], [.ref (kR w rem 12 (Int32.ofNat r).toNatClampNeg)], (I, J, kR w rem, Z), 0, 0)) 4 ?_ (fun m_ x_ Q_ k_ => ⟨trivial, ⟨sh_1, (Nat.succ_ne_zero 11)⟩, trivial, ⟨⟨_, sh_12, (n_in (a := r) (by omega) (by decide))⟩, (show kR w rem 12 (Int32.ofNat r).toNatClampNeg ≠ 0 by rw [n_cl (a := r) (by omega), r_room (w := w) (rem := rem) (r := r) (by omega)]; omega)⟩, k_⟩)
  rw [n_cl (a := r) (by omega)]
  rw [r_room (w := w) (rem := rem) (r := r) (by omega)]
  show w_R xs Ln 36 (6, [(0, .ref 1), (1, .int (Int32.ofNat r)), (2, .int (Int32.ofNat q))], [.ref (141 + 29 * r)], (I, J, kR w rem, Z), 0, 0) _
  refine w_R.go (c' := (15, [(0, .ref 1), (1, .int (Int32.ofNat r)), (2, .int (Int32.ofNat q))], [.int (I 3 (Int32.ofNat q).toNatClampNeg), .ref (141 + 29 * r)], (I, J, kR w rem, Z), 0, 0)) 5 ?_ (fun m_ x_ Q_ k_ => ⟨trivial, ⟨sh_1, (Nat.succ_ne_zero 1)⟩, ⟨sh_2, (Nat.succ_ne_zero 2)⟩, trivial, ⟨_, sh_3, (n_in (a := q) (by omega) (by decide))⟩, k_⟩)
  rw [n_cl (a := q) (by omega)]
  rw [hdq]
  show w_R xs Ln 36 (15, [(0, .ref 1), (1, .int (Int32.ofNat r)), (2, .int (Int32.ofNat q))], [.int (Int32.ofNat d), .ref (141 + 29 * r)], (I, J, kR w rem, Z), 0, 0) _
  refine w_R.callV (ce' := 0) (sl' := 0) (v := some (.int (v_92 I J Z r d))) (σ' := (I, J, kR w rem, Z)) (as := [.ref (141 + 29 * r), .int (Int32.ofNat d)]) (rest := []) (d_92 r d (by omega) (by omega)) ?_ rfl rfl rfl rfl rfl (sh_room (by omega)) rfl rfl rfl rfl
  show w_R xs Ln 36 (18, [(0, .ref 1), (1, .int (Int32.ofNat r)), (2, .int (Int32.ofNat q))], [.int (v_92 I J Z r d)], (I, J, kR w rem, Z), 0, 0) _
  refine w_R.go (c' := (i_br .le (v_92 I J Z r d) 0 25 21, [(0, .ref 1), (1, .int (Int32.ofNat r)), (2, .int (Int32.ofNat q))], [], (I, J, kR w rem, Z), 0, 0)) 1 ?_ (fun m_ x_ Q_ k_ => ⟨trivial, k_⟩)
  refine w_R.br_le (fun h1 => ?_) (fun h1 => ?_)
  · refine w_R.ret 2 (.inl (some (.int 0))) (I, J, kR w rem, Z) ?_ (fun x_ Q_ k_ => ⟨trivial, Or.inl rfl, ⟨Nat.le_of_ble_eq_true rfl, Nat.le_of_ble_eq_true rfl⟩, k_⟩)
    exact ⟨by rw [show v_36 I J Z r q d = false from by unfold v_36; rw [if_neg h1]] <;> rfl, rfl⟩
  · refine w_R.ret 3 (.inl (some (.int 1))) (I, J, kR w rem, Z) ?_ (fun x_ Q_ k_ => ⟨trivial, trivial, Or.inr rfl, ⟨Nat.le_of_ble_eq_true rfl, Nat.le_of_ble_eq_true rfl⟩, k_⟩)
    exact ⟨by rw [show v_36 I J Z r q d = true from by unfold v_36; rw [if_pos h1]] <;> rfl, rfl⟩
def v_72 (I : Nat → Nat → Int32) (J : Nat → Nat → Int64) (Z : Nat → Nat → Bool) (x0 : Int32) (x1 : Int32) (x2 : Int32) (x3 : Int32) (x4 : Int32) (n : Nat) (p : Nat) : Nat := if n < 48 then 35 + 2 * p else 35 + 2 * p
def i_72 (I : Nat → Nat → Int32) (J : Nat → Nat → Int64) (Z : Nat → Nat → Bool) (x0 : Int32) (x1 : Int32) (x2 : Int32) (x3 : Int32) (x4 : Int32) (n : Nat) (p : Nat) : Nat → Nat → Int32 := if n < 48 then s_up (s_up (s_up (s_up (s_up (s_up I 33 1 (Int32.ofNat (n + 1))) (35 + 2 * p) 0 x0) (35 + 2 * p) 1 x1) (35 + 2 * p) 2 x2) (35 + 2 * p) 3 x3) (35 + 2 * p) 4 x4 else s_up (s_up (s_up (s_up (s_up I (35 + 2 * p) 0 x0) (35 + 2 * p) 1 x1) (35 + 2 * p) 2 x2) (35 + 2 * p) 3 x3) (35 + 2 * p) 4 x4
theorem d_72 (x0 : Int32) (x1 : Int32) (x2 : Int32) (x3 : Int32) (x4 : Int32) (n : Nat) (p : Nat) (hn : n ≤ 48) (hp : p < 50) (hc : I 33 1 = Int32.ofNat n) (hw : w n = 35 + 2 * p) : w_R xs Ln 72 (0, [(0, .ref 33), (1, .int x0), (2, .int x1), (3, .int x2), (4, .int x3), (5, .int x4)], [], (I, J, kR w rem, Z), 0, 0) (fun o s => o = .inl (some (.ref (v_72 I J Z x0 x1 x2 x3 x4 n p))) ∧ s = (i_72 I J Z x0 x1 x2 x3 x4 n p, J, kR w rem, Z)) := by
  refine w_R.go (c' := (8, [(0, .ref 33), (1, .int x0), (2, .int x1), (3, .int x2), (4, .int x3), (5, .int x4)], [.int (I 33 1), .ref 34], (I, J, kR w rem, Z), 0, 0)) 4 ?_ (fun m_ x_ Q_ k_ => ⟨trivial, ⟨sh_33, (Nat.succ_ne_zero 33)⟩, trivial, ⟨sh_33, trivial⟩, k_⟩)
  rw [hc]
  show w_R xs Ln 72 (8, [(0, .ref 33), (1, .int x0), (2, .int x1), (3, .int x2), (4, .int x3), (5, .int x4)], [.int (Int32.ofNat n), .ref 34], (I, J, kR w rem, Z), 0, 0) _
  refine w_R.go (c' := (9, [(0, .ref 33), (1, .int x0), (2, .int x1), (3, .int x2), (4, .int x3), (5, .int x4)], [.ref (kR w rem 34 ((Int32.ofNat n).toNatClampNeg))], (I, J, kR w rem, Z), 0, 0)) 1 ?_ (fun m_ x_ Q_ k_ => ⟨⟨⟨_, sh_34, (n_in (a := n) (by omega) (by decide))⟩, (show kR w rem 34 ((Int32.ofNat n).toNatClampNeg) ≠ 0 by rw [n_cl (a := n) (by omega), show kR w rem 34 n = w n from rfl, hw]; omega)⟩, k_⟩)
  rw [n_cl (a := n) (by omega)]
  rw [show kR w rem 34 n = w n from rfl]
  rw [hw]
  show w_R xs Ln 72 (9, [(0, .ref 33), (1, .int x0), (2, .int x1), (3, .int x2), (4, .int x3), (5, .int x4)], [.ref (35 + 2 * p)], (I, J, kR w rem, Z), 0, 0) _
  refine w_R.go (c' := (15, [(6, .ref (35 + 2 * p)), (0, .ref 33), (1, .int x0), (2, .int x1), (3, .int x2), (4, .int x3), (5, .int x4)], [.int (I 33 1)], (I, J, kR w rem, Z), 0, 0)) 3 ?_ (fun m_ x_ Q_ k_ => ⟨trivial, trivial, ⟨sh_33, trivial⟩, k_⟩)
  rw [hc]
  show w_R xs Ln 72 (15, [(6, .ref (35 + 2 * p)), (0, .ref 33), (1, .int x0), (2, .int x1), (3, .int x2), (4, .int x3), (5, .int x4)], [.int (Int32.ofNat n)], (I, J, kR w rem, Z), 0, 0) _
  refine w_R.go (c' := (i_br .ge (Int32.ofNat n) 48 30 20, [(6, .ref (35 + 2 * p)), (0, .ref 33), (1, .int x0), (2, .int x1), (3, .int x2), (4, .int x3), (5, .int x4)], [], (I, J, kR w rem, Z), 0, 0)) 2 ?_ (fun m_ x_ Q_ k_ => ⟨trivial, trivial, k_⟩)
  refine w_R.br_ge (fun h1 => ?_) (fun h1 => ?_)
  · replace h1 := mt (n_lt (a := n) (b := 48) (by omega) (by omega)).mpr h1
    refine w_R.ret 17 (.inl (some (.ref (35 + 2 * p)))) (s_up (s_up (s_up (s_up (s_up I (35 + 2 * p) 0 x0) (35 + 2 * p) 1 x1) (35 + 2 * p) 2 x2) (35 + 2 * p) 3 x3) (35 + 2 * p) 4 x4, J, kR w rem, Z) ?_ (fun x_ Q_ k_ => ⟨trivial, trivial, ⟨(sh_let hp), trivial⟩, trivial, trivial, ⟨(sh_let hp), trivial⟩, trivial, trivial, ⟨(sh_let hp), trivial⟩, trivial, trivial, ⟨(sh_let hp), trivial⟩, trivial, trivial, ⟨(sh_let hp), trivial⟩, trivial, ⟨Nat.le_of_ble_eq_true rfl, Nat.le_of_ble_eq_true rfl⟩, k_⟩)
    exact ⟨by rw [show v_72 I J Z x0 x1 x2 x3 x4 n p = (35 + 2 * p) from by unfold v_72; rw [if_neg h1]] <;> rfl, by rw [show i_72 I J Z x0 x1 x2 x3 x4 n p = (s_up (s_up (s_up (s_up (s_up I (35 + 2 * p) 0 x0) (35 + 2 * p) 1 x1) (35 + 2 * p) 2 x2) (35 + 2 * p) 3 x3) (35 + 2 * p) 4 x4) from by unfold i_72; rw [if_neg h1]]⟩
  · replace h1 := (n_lt (a := n) (b := 48) (by omega) (by omega)).mp h1
    refine w_R.go (c' := (25, [(6, .ref (35 + 2 * p)), (0, .ref 33), (1, .int x0), (2, .int x1), (3, .int x2), (4, .int x3), (5, .int x4)], [.int (I 33 1), .ref 33], (I, J, kR w rem, Z), 0, 0)) 3 ?_ (fun m_ x_ Q_ k_ => ⟨trivial, trivial, ⟨sh_33, trivial⟩, k_⟩)
    rw [hc]
    show w_R xs Ln 72 (25, [(6, .ref (35 + 2 * p)), (0, .ref 33), (1, .int x0), (2, .int x1), (3, .int x2), (4, .int x3), (5, .int x4)], [.int (Int32.ofNat n), .ref 33], (I, J, kR w rem, Z), 0, 0) _
    refine w_R.go (c' := (27, [(6, .ref (35 + 2 * p)), (0, .ref 33), (1, .int x0), (2, .int x1), (3, .int x2), (4, .int x3), (5, .int x4)], [.int (Int32.ofNat n + Int32.ofNat 1), .ref 33], (I, J, kR w rem, Z), 0, 0)) 2 ?_ (fun m_ x_ Q_ k_ => ⟨trivial, trivial, k_⟩)
    rw [n_add n 1]
    show w_R xs Ln 72 (27, [(6, .ref (35 + 2 * p)), (0, .ref 33), (1, .int x0), (2, .int x1), (3, .int x2), (4, .int x3), (5, .int x4)], [.int (Int32.ofNat (n + 1)), .ref 33], (I, J, kR w rem, Z), 0, 0) _
    refine w_R.ret 18 (.inl (some (.ref (35 + 2 * p)))) (s_up (s_up (s_up (s_up (s_up (s_up I 33 1 (Int32.ofNat (n + 1))) (35 + 2 * p) 0 x0) (35 + 2 * p) 1 x1) (35 + 2 * p) 2 x2) (35 + 2 * p) 3 x3) (35 + 2 * p) 4 x4, J, kR w rem, Z) ?_ (fun x_ Q_ k_ => ⟨⟨sh_33, trivial⟩, trivial, trivial, ⟨(sh_let hp), trivial⟩, trivial, trivial, ⟨(sh_let hp), trivial⟩, trivial, trivial, ⟨(sh_let hp), trivial⟩, trivial, trivial, ⟨(sh_let hp), trivial⟩, trivial, trivial, ⟨(sh_let hp), trivial⟩, trivial, ⟨Nat.le_of_ble_eq_true rfl, Nat.le_of_ble_eq_true rfl⟩, k_⟩)
    exact ⟨by rw [show v_72 I J Z x0 x1 x2 x3 x4 n p = (35 + 2 * p) from by unfold v_72; rw [if_pos h1]] <;> rfl, by rw [show i_72 I J Z x0 x1 x2 x3 x4 n p = (s_up (s_up (s_up (s_up (s_up (s_up I 33 1 (Int32.ofNat (n + 1))) (35 + 2 * p) 0 x0) (35 + 2 * p) 1 x1) (35 + 2 * p) 2 x2) (35 + 2 * p) 3 x3) (35 + 2 * p) 4 x4) from by unfold i_72; rw [if_pos h1]]⟩
def i_57 (I : Nat → Nat → Int32) (J : Nat → Nat → Int64) (Z : Nat → Nat → Bool) (u : Nat) (i : Nat) : Nat → Nat → Int32 := if (I (135 + u) 0) = 0 then if (I (35 + 2 * i) 4) < (I (135 + u) 6) then I else s_up (s_up (s_up (s_up I (135 + u) 0 1) (135 + u) 4 (I (35 + 2 * i) 3)) (135 + u) 5 (I (35 + 2 * i) 7)) (135 + u) 6 (I (35 + 2 * i) 4) else I
theorem d_57 (u : Nat) (i : Nat) (hu : u < 6) (hi : i < 50) : w_R xs Ln 57 (0, [(0, .ref (135 + u)), (1, .ref (35 + 2 * i))], [], (I, J, kR w rem, Z), 0, 0) (fun o s => o = .inl none ∧ s = (i_57 I J Z u i, J, kR w rem, Z)) := by
  refine w_R.go (c' := (i_br .ne (I (135 + u) 0) 0 47 7, [(0, .ref (135 + u)), (1, .ref (35 + 2 * i))], [], (I, J, kR w rem, Z), 0, 0)) 3 ?_ (fun m_ x_ Q_ k_ => ⟨trivial, ⟨(sh_amb hu), trivial⟩, trivial, k_⟩)
  refine w_R.br_ne (fun h1 => ?_) (fun h1 => ?_)
  · refine w_R.ret 1 (.inl none) (I, J, kR w rem, Z) ?_ (fun x_ Q_ k_ => ⟨⟨Nat.le_of_ble_eq_true rfl, Nat.le_of_ble_eq_true rfl⟩, k_⟩)
    exact ⟨rfl, by rw [show i_57 I J Z u i = I from by unfold i_57; rw [if_neg h1]]⟩
  · refine w_R.go (c' := (i_br .lt (I (35 + 2 * i) 4) (I (135 + u) 6) 47 18, [(0, .ref (135 + u)), (1, .ref (35 + 2 * i))], [], (I, J, kR w rem, Z), 0, 0)) 5 ?_ (fun m_ x_ Q_ k_ => ⟨trivial, ⟨(sh_let hi), trivial⟩, trivial, ⟨(sh_amb hu), trivial⟩, trivial, k_⟩)
    refine w_R.br_lt (fun h2 => ?_) (fun h2 => ?_)
    · refine w_R.ret 1 (.inl none) (I, J, kR w rem, Z) ?_ (fun x_ Q_ k_ => ⟨⟨Nat.le_of_ble_eq_true rfl, Nat.le_of_ble_eq_true rfl⟩, k_⟩)
      exact ⟨rfl, by rw [show i_57 I J Z u i = I from by unfold i_57; rw [if_pos h1, if_pos h2]]⟩
    · refine w_R.go (c' := (28, [(0, .ref (135 + u)), (1, .ref (35 + 2 * i))], [.int ((s_up I (135 + u) 0 1) (35 + 2 * i) 3), .ref (135 + u)], (s_up I (135 + u) 0 1, J, kR w rem, Z), 0, 0)) 6 ?_ (fun m_ x_ Q_ k_ => ⟨trivial, trivial, ⟨(sh_amb hu), trivial⟩, trivial, trivial, ⟨(sh_let hi), trivial⟩, k_⟩)
      rw [show (s_up I (135 + u) 0 1) (35 + 2 * i) 3 = I (35 + 2 * i) 3 from (s_upk (by decide))]
      show w_R xs Ln 57 (28, [(0, .ref (135 + u)), (1, .ref (35 + 2 * i))], [.int (I (35 + 2 * i) 3), .ref (135 + u)], (s_up I (135 + u) 0 1, J, kR w rem, Z), 0, 0) _
      refine w_R.go (c' := (36, [(0, .ref (135 + u)), (1, .ref (35 + 2 * i))], [.int ((s_up (s_up I (135 + u) 0 1) (135 + u) 4 (I (35 + 2 * i) 3)) (35 + 2 * i) 7), .ref (135 + u)], (s_up (s_up I (135 + u) 0 1) (135 + u) 4 (I (35 + 2 * i) 3), J, kR w rem, Z), 0, 0)) 4 ?_ (fun m_ x_ Q_ k_ => ⟨⟨(sh_amb hu), trivial⟩, trivial, trivial, ⟨(sh_let hi), trivial⟩, k_⟩)
      rw [show (s_up (s_up I (135 + u) 0 1) (135 + u) 4 (I (35 + 2 * i) 3)) (35 + 2 * i) 7 = I (35 + 2 * i) 7 from ((s_upk (by decide)).trans (s_upk (by decide)))]
      show w_R xs Ln 57 (36, [(0, .ref (135 + u)), (1, .ref (35 + 2 * i))], [.int (I (35 + 2 * i) 7), .ref (135 + u)], (s_up (s_up I (135 + u) 0 1) (135 + u) 4 (I (35 + 2 * i) 3), J, kR w rem, Z), 0, 0) _
      refine w_R.go (c' := (44, [(0, .ref (135 + u)), (1, .ref (35 + 2 * i))], [.int ((s_up (s_up (s_up I (135 + u) 0 1) (135 + u) 4 (I (35 + 2 * i) 3)) (135 + u) 5 (I (35 + 2 * i) 7)) (35 + 2 * i) 4), .ref (135 + u)], (s_up (s_up (s_up I (135 + u) 0 1) (135 + u) 4 (I (35 + 2 * i) 3)) (135 + u) 5 (I (35 + 2 * i) 7), J, kR w rem, Z), 0, 0)) 4 ?_ (fun m_ x_ Q_ k_ => ⟨⟨(sh_amb hu), trivial⟩, trivial, trivial, ⟨(sh_let hi), trivial⟩, k_⟩)
      rw [show (s_up (s_up (s_up I (135 + u) 0 1) (135 + u) 4 (I (35 + 2 * i) 3)) (135 + u) 5 (I (35 + 2 * i) 7)) (35 + 2 * i) 4 = I (35 + 2 * i) 4 from ((s_upk (by decide)).trans ((s_upa (by omega)).trans (s_upk (by decide))))]
      show w_R xs Ln 57 (44, [(0, .ref (135 + u)), (1, .ref (35 + 2 * i))], [.int (I (35 + 2 * i) 4), .ref (135 + u)], (s_up (s_up (s_up I (135 + u) 0 1) (135 + u) 4 (I (35 + 2 * i) 3)) (135 + u) 5 (I (35 + 2 * i) 7), J, kR w rem, Z), 0, 0) _
      refine w_R.ret 2 (.inl none) (s_up (s_up (s_up (s_up I (135 + u) 0 1) (135 + u) 4 (I (35 + 2 * i) 3)) (135 + u) 5 (I (35 + 2 * i) 7)) (135 + u) 6 (I (35 + 2 * i) 4), J, kR w rem, Z) ?_ (fun x_ Q_ k_ => ⟨⟨(sh_amb hu), trivial⟩, ⟨Nat.le_of_ble_eq_true rfl, Nat.le_of_ble_eq_true rfl⟩, k_⟩)
      exact ⟨rfl, by rw [show i_57 I J Z u i = (s_up (s_up (s_up (s_up I (135 + u) 0 1) (135 + u) 4 (I (35 + 2 * i) 3)) (135 + u) 5 (I (35 + 2 * i) 7)) (135 + u) 6 (I (35 + 2 * i) 4)) from by unfold i_57; rw [if_pos h1, if_neg h2]]⟩
def i_95 (I : Nat → Nat → Int32) (J : Nat → Nat → Int64) (Z : Nat → Nat → Bool) (r : Nat) (i : Nat) (d : Nat) : Nat → Nat → Int32 := if (I (147 + 29 * r) d) < (I (35 + 2 * i) 4) then s_up (s_up I (147 + 29 * r) d (I (35 + 2 * i) 4)) (142 + 29 * r) d (I (35 + 2 * i) 4) else I
def j_95 (I : Nat → Nat → Int32) (J : Nat → Nat → Int64) (Z : Nat → Nat → Bool) (r : Nat) (i : Nat) (d : Nat) : Nat → Nat → Int64 := if (I (147 + 29 * r) d) < (I (35 + 2 * i) 4) then s_up J (146 + 29 * r) d (J (35 + 2 * i) 6) else J
theorem d_95 (r : Nat) (i : Nat) (d : Nat) (hr : r < 2) (hi : i < 50) (hd : d < 4) (hda : I (35 + 2 * i) 3 = Int32.ofNat d) : w_R xs Ln 95 (0, [(0, .ref (141 + 29 * r)), (1, .ref (35 + 2 * i))], [], (I, J, kR w rem, Z), 0, 0) (fun o s => o = .inl none ∧ s = (i_95 I J Z r i d, j_95 I J Z r i d, kR w rem, Z)) := by
  refine w_R.go (c' := (4, [(0, .ref (141 + 29 * r)), (1, .ref (35 + 2 * i))], [.int (I (35 + 2 * i) 3)], (I, J, kR w rem, Z), 0, 0)) 2 ?_ (fun m_ x_ Q_ k_ => ⟨trivial, ⟨(sh_let hi), trivial⟩, k_⟩)
  rw [hda]
  show w_R xs Ln 95 (4, [(0, .ref (141 + 29 * r)), (1, .ref (35 + 2 * i))], [.int (Int32.ofNat d)], (I, J, kR w rem, Z), 0, 0) _
  refine w_R.go (c' := (13, [(2, .int (Int32.ofNat d)), (0, .ref (141 + 29 * r)), (1, .ref (35 + 2 * i))], [.ref (kR w rem (141 + 29 * r) 9), .int (I (35 + 2 * i) 4)], (I, J, kR w rem, Z), 0, 0)) 5 ?_ (fun m_ x_ Q_ k_ => ⟨trivial, trivial, ⟨(sh_let hi), trivial⟩, trivial, ⟨(sh_room hr), (show kR w rem (141 + 29 * r) 9 ≠ 0 by rw [r_room9 (w := w) (rem := rem) (r := r) hr]; omega)⟩, k_⟩)
  rw [r_room9 (w := w) (rem := rem) (r := r) hr]
  show w_R xs Ln 95 (13, [(2, .int (Int32.ofNat d)), (0, .ref (141 + 29 * r)), (1, .ref (35 + 2 * i))], [.ref (147 + 29 * r), .int (I (35 + 2 * i) 4)], (I, J, kR w rem, Z), 0, 0) _
  refine w_R.go (c' := (15, [(2, .int (Int32.ofNat d)), (0, .ref (141 + 29 * r)), (1, .ref (35 + 2 * i))], [.int (I (147 + 29 * r) (Int32.ofNat d).toNatClampNeg), .int (I (35 + 2 * i) 4)], (I, J, kR w rem, Z), 0, 0)) 2 ?_ (fun m_ x_ Q_ k_ => ⟨trivial, ⟨_, (sh_room9 hr), (n_in (a := d) (by omega) (by decide))⟩, k_⟩)
  rw [n_cl (a := d) (by omega)]
  show w_R xs Ln 95 (15, [(2, .int (Int32.ofNat d)), (0, .ref (141 + 29 * r)), (1, .ref (35 + 2 * i))], [.int (I (147 + 29 * r) d), .int (I (35 + 2 * i) 4)], (I, J, kR w rem, Z), 0, 0) _
  refine w_R.go (c' := (i_br .le (I (35 + 2 * i) 4) (I (147 + 29 * r) d) 48 18, [(2, .int (Int32.ofNat d)), (0, .ref (141 + 29 * r)), (1, .ref (35 + 2 * i))], [], (I, J, kR w rem, Z), 0, 0)) 1 ?_ (fun m_ x_ Q_ k_ => ⟨trivial, k_⟩)
  refine w_R.br_le (fun h1 => ?_) (fun h1 => ?_)
  · refine w_R.ret 1 (.inl none) (I, J, kR w rem, Z) ?_ (fun x_ Q_ k_ => ⟨⟨Nat.le_of_ble_eq_true rfl, Nat.le_of_ble_eq_true rfl⟩, k_⟩)
    exact ⟨rfl, by rw [show i_95 I J Z r i d = I from by unfold i_95; rw [if_neg h1], show j_95 I J Z r i d = J from by unfold j_95; rw [if_neg h1]]⟩
  · refine w_R.go (c' := (22, [(2, .int (Int32.ofNat d)), (0, .ref (141 + 29 * r)), (1, .ref (35 + 2 * i))], [.ref (kR w rem (141 + 29 * r) 9)], (I, J, kR w rem, Z), 0, 0)) 2 ?_ (fun m_ x_ Q_ k_ => ⟨trivial, ⟨(sh_room hr), (show kR w rem (141 + 29 * r) 9 ≠ 0 by rw [r_room9 (w := w) (rem := rem) (r := r) hr]; omega)⟩, k_⟩)
    rw [r_room9 (w := w) (rem := rem) (r := r) hr]
    show w_R xs Ln 95 (22, [(2, .int (Int32.ofNat d)), (0, .ref (141 + 29 * r)), (1, .ref (35 + 2 * i))], [.ref (147 + 29 * r)], (I, J, kR w rem, Z), 0, 0) _
    refine w_R.go (c' := (28, [(2, .int (Int32.ofNat d)), (0, .ref (141 + 29 * r)), (1, .ref (35 + 2 * i))], [], (s_up I (147 + 29 * r) ((Int32.ofNat d).toNatClampNeg) (I (35 + 2 * i) 4), J, kR w rem, Z), 0, 0)) 4 ?_ (fun m_ x_ Q_ k_ => ⟨trivial, trivial, ⟨(sh_let hi), trivial⟩, ⟨_, (sh_room9 hr), (n_in (a := d) (by omega) (by decide))⟩, k_⟩)
    rw [n_cl (a := d) (by omega)]
    show w_R xs Ln 95 (28, [(2, .int (Int32.ofNat d)), (0, .ref (141 + 29 * r)), (1, .ref (35 + 2 * i))], [], (s_up I (147 + 29 * r) d (I (35 + 2 * i) 4), J, kR w rem, Z), 0, 0) _
    refine w_R.go (c' := (32, [(2, .int (Int32.ofNat d)), (0, .ref (141 + 29 * r)), (1, .ref (35 + 2 * i))], [.ref (kR w rem (141 + 29 * r) 4)], (s_up I (147 + 29 * r) d (I (35 + 2 * i) 4), J, kR w rem, Z), 0, 0)) 2 ?_ (fun m_ x_ Q_ k_ => ⟨trivial, ⟨(sh_room hr), (show kR w rem (141 + 29 * r) 4 ≠ 0 by rw [r_room4 (w := w) (rem := rem) (r := r) hr]; omega)⟩, k_⟩)
    rw [r_room4 (w := w) (rem := rem) (r := r) hr]
    show w_R xs Ln 95 (32, [(2, .int (Int32.ofNat d)), (0, .ref (141 + 29 * r)), (1, .ref (35 + 2 * i))], [.ref (142 + 29 * r)], (s_up I (147 + 29 * r) d (I (35 + 2 * i) 4), J, kR w rem, Z), 0, 0) _
    refine w_R.go (c' := (37, [(2, .int (Int32.ofNat d)), (0, .ref (141 + 29 * r)), (1, .ref (35 + 2 * i))], [.int ((s_up I (147 + 29 * r) d (I (35 + 2 * i) 4)) (35 + 2 * i) 4), .int (Int32.ofNat d), .ref (142 + 29 * r)], (s_up I (147 + 29 * r) d (I (35 + 2 * i) 4), J, kR w rem, Z), 0, 0)) 3 ?_ (fun m_ x_ Q_ k_ => ⟨trivial, trivial, ⟨(sh_let hi), trivial⟩, k_⟩)
    rw [show (s_up I (147 + 29 * r) d (I (35 + 2 * i) 4)) (35 + 2 * i) 4 = I (35 + 2 * i) 4 from (s_upa (by omega))]
    show w_R xs Ln 95 (37, [(2, .int (Int32.ofNat d)), (0, .ref (141 + 29 * r)), (1, .ref (35 + 2 * i))], [.int (I (35 + 2 * i) 4), .int (Int32.ofNat d), .ref (142 + 29 * r)], (s_up I (147 + 29 * r) d (I (35 + 2 * i) 4), J, kR w rem, Z), 0, 0) _
    refine w_R.go (c' := (38, [(2, .int (Int32.ofNat d)), (0, .ref (141 + 29 * r)), (1, .ref (35 + 2 * i))], [], (s_up (s_up I (147 + 29 * r) d (I (35 + 2 * i) 4)) (142 + 29 * r) ((Int32.ofNat d).toNatClampNeg) (I (35 + 2 * i) 4), J, kR w rem, Z), 0, 0)) 1 ?_ (fun m_ x_ Q_ k_ => ⟨⟨_, (sh_room4 hr), (n_in (a := d) (by omega) (by decide))⟩, k_⟩)
    rw [n_cl (a := d) (by omega)]
    show w_R xs Ln 95 (38, [(2, .int (Int32.ofNat d)), (0, .ref (141 + 29 * r)), (1, .ref (35 + 2 * i))], [], (s_up (s_up I (147 + 29 * r) d (I (35 + 2 * i) 4)) (142 + 29 * r) d (I (35 + 2 * i) 4), J, kR w rem, Z), 0, 0) _
    refine w_R.go (c' := (42, [(2, .int (Int32.ofNat d)), (0, .ref (141 + 29 * r)), (1, .ref (35 + 2 * i))], [.ref (kR w rem (141 + 29 * r) 8)], (s_up (s_up I (147 + 29 * r) d (I (35 + 2 * i) 4)) (142 + 29 * r) d (I (35 + 2 * i) 4), J, kR w rem, Z), 0, 0)) 2 ?_ (fun m_ x_ Q_ k_ => ⟨trivial, ⟨(sh_room hr), (show kR w rem (141 + 29 * r) 8 ≠ 0 by rw [r_room8 (w := w) (rem := rem) (r := r) hr]; omega)⟩, k_⟩)
    rw [r_room8 (w := w) (rem := rem) (r := r) hr]
    show w_R xs Ln 95 (42, [(2, .int (Int32.ofNat d)), (0, .ref (141 + 29 * r)), (1, .ref (35 + 2 * i))], [.ref (146 + 29 * r)], (s_up (s_up I (147 + 29 * r) d (I (35 + 2 * i) 4)) (142 + 29 * r) d (I (35 + 2 * i) 4), J, kR w rem, Z), 0, 0) _
    refine w_R.go (c' := (48, [(2, .int (Int32.ofNat d)), (0, .ref (141 + 29 * r)), (1, .ref (35 + 2 * i))], [], (s_up (s_up I (147 + 29 * r) d (I (35 + 2 * i) 4)) (142 + 29 * r) d (I (35 + 2 * i) 4), s_up J (146 + 29 * r) ((Int32.ofNat d).toNatClampNeg) (J (35 + 2 * i) 6), kR w rem, Z), 0, 0)) 4 ?_ (fun m_ x_ Q_ k_ => ⟨trivial, trivial, ⟨(sh_let hi), trivial⟩, ⟨_, (sh_room8 hr), (n_in (a := d) (by omega) (by decide))⟩, k_⟩)
    rw [n_cl (a := d) (by omega)]
    show w_R xs Ln 95 (48, [(2, .int (Int32.ofNat d)), (0, .ref (141 + 29 * r)), (1, .ref (35 + 2 * i))], [], (s_up (s_up I (147 + 29 * r) d (I (35 + 2 * i) 4)) (142 + 29 * r) d (I (35 + 2 * i) 4), s_up J (146 + 29 * r) d (J (35 + 2 * i) 6), kR w rem, Z), 0, 0) _
    refine w_R.ret 1 (.inl none) (s_up (s_up I (147 + 29 * r) d (I (35 + 2 * i) 4)) (142 + 29 * r) d (I (35 + 2 * i) 4), s_up J (146 + 29 * r) d (J (35 + 2 * i) 6), kR w rem, Z) ?_ (fun x_ Q_ k_ => ⟨⟨Nat.le_of_ble_eq_true rfl, Nat.le_of_ble_eq_true rfl⟩, k_⟩)
    exact ⟨rfl, by rw [show i_95 I J Z r i d = (s_up (s_up I (147 + 29 * r) d (I (35 + 2 * i) 4)) (142 + 29 * r) d (I (35 + 2 * i) 4)) from by unfold i_95; rw [if_pos h1], show j_95 I J Z r i d = (s_up J (146 + 29 * r) d (J (35 + 2 * i) 6)) from by unfold j_95; rw [if_pos h1]]⟩
def i_99 (I : Nat → Nat → Int32) (J : Nat → Nat → Int64) (Z : Nat → Nat → Bool) (r : Nat) (u : Nat) (i : Nat) : Nat → Nat → Int32 := if (Z (164 + 29 * r + u) 0) = true then if (I (164 + 29 * r + u) 5) < (I (35 + 2 * i) 4) then s_up (s_up (s_up (s_up I (164 + 29 * r + u) 5 (I (35 + 2 * i) 4)) (164 + 29 * r + u) 3 (I (35 + 2 * i) 8)) (164 + 29 * r + u) 2 (I (35 + 2 * i) 7)) (164 + 29 * r + u) 4 (I (35 + 2 * i) 9) else I else s_up (s_up (s_up (s_up I (164 + 29 * r + u) 5 (I (35 + 2 * i) 4)) (164 + 29 * r + u) 3 (I (35 + 2 * i) 8)) (164 + 29 * r + u) 2 (I (35 + 2 * i) 7)) (164 + 29 * r + u) 4 (I (35 + 2 * i) 9)
def z_99 (I : Nat → Nat → Int32) (J : Nat → Nat → Int64) (Z : Nat → Nat → Bool) (r : Nat) (u : Nat) (i : Nat) : Nat → Nat → Bool := if (Z (164 + 29 * r + u) 0) = true then if (I (164 + 29 * r + u) 5) < (I (35 + 2 * i) 4) then s_up (s_up Z (164 + 29 * r + u) 0 true) (164 + 29 * r + u) 1 false else Z else s_up (s_up Z (164 + 29 * r + u) 0 true) (164 + 29 * r + u) 1 false
theorem d_99 (r : Nat) (u : Nat) (i : Nat) (hr : r < 2) (hu : u < 6) (hi : i < 50) : w_R xs Ln 99 (0, [(0, .ref (164 + 29 * r + u)), (1, .ref (35 + 2 * i))], [], (I, J, kR w rem, Z), 0, 0) (fun o s => o = .inl none ∧ s = (i_99 I J Z r u i, J, kR w rem, z_99 I J Z r u i)) := by
  refine w_R.go (c' := (i_br .eq (s_b (Z (164 + 29 * r + u) 0)) 0 19 7, [(0, .ref (164 + 29 * r + u)), (1, .ref (35 + 2 * i))], [], (I, J, kR w rem, Z), 0, 0)) 3 ?_ (fun m_ x_ Q_ k_ => ⟨trivial, ⟨(sh_sight hr hu), trivial⟩, trivial, k_⟩)
  refine w_R.br_z (fun h1 => ?_) (fun h1 => ?_)
  · replace h1 := Bool.eq_false_iff.mp h1
    refine w_R.go (c' := (42, [(0, .ref (164 + 29 * r + u)), (1, .ref (35 + 2 * i))], [.int ((s_up I (164 + 29 * r + u) 5 (I (35 + 2 * i) 4)) (35 + 2 * i) 8), .ref (164 + 29 * r + u)], (s_up I (164 + 29 * r + u) 5 (I (35 + 2 * i) 4), J, kR w rem, s_up (s_up Z (164 + 29 * r + u) 0 true) (164 + 29 * r + u) 1 false), 0, 0)) 13 ?_ (fun m_ x_ Q_ k_ => ⟨trivial, trivial, ⟨(sh_sight hr hu), (Or.inr rfl)⟩, trivial, trivial, ⟨(sh_sight hr hu), (Or.inl rfl)⟩, trivial, trivial, ⟨(sh_let hi), trivial⟩, ⟨(sh_sight hr hu), trivial⟩, trivial, trivial, ⟨(sh_let hi), trivial⟩, k_⟩)
    rw [show (s_up I (164 + 29 * r + u) 5 (I (35 + 2 * i) 4)) (35 + 2 * i) 8 = I (35 + 2 * i) 8 from (s_upk (by decide))]
    show w_R xs Ln 99 (42, [(0, .ref (164 + 29 * r + u)), (1, .ref (35 + 2 * i))], [.int (I (35 + 2 * i) 8), .ref (164 + 29 * r + u)], (s_up I (164 + 29 * r + u) 5 (I (35 + 2 * i) 4), J, kR w rem, s_up (s_up Z (164 + 29 * r + u) 0 true) (164 + 29 * r + u) 1 false), 0, 0) _
    refine w_R.go (c' := (50, [(0, .ref (164 + 29 * r + u)), (1, .ref (35 + 2 * i))], [.int ((s_up (s_up I (164 + 29 * r + u) 5 (I (35 + 2 * i) 4)) (164 + 29 * r + u) 3 (I (35 + 2 * i) 8)) (35 + 2 * i) 7), .ref (164 + 29 * r + u)], (s_up (s_up I (164 + 29 * r + u) 5 (I (35 + 2 * i) 4)) (164 + 29 * r + u) 3 (I (35 + 2 * i) 8), J, kR w rem, s_up (s_up Z (164 + 29 * r + u) 0 true) (164 + 29 * r + u) 1 false), 0, 0)) 4 ?_ (fun m_ x_ Q_ k_ => ⟨⟨(sh_sight hr hu), trivial⟩, trivial, trivial, ⟨(sh_let hi), trivial⟩, k_⟩)
    rw [show (s_up (s_up I (164 + 29 * r + u) 5 (I (35 + 2 * i) 4)) (164 + 29 * r + u) 3 (I (35 + 2 * i) 8)) (35 + 2 * i) 7 = I (35 + 2 * i) 7 from ((s_upk (by decide)).trans (s_upk (by decide)))]
    show w_R xs Ln 99 (50, [(0, .ref (164 + 29 * r + u)), (1, .ref (35 + 2 * i))], [.int (I (35 + 2 * i) 7), .ref (164 + 29 * r + u)], (s_up (s_up I (164 + 29 * r + u) 5 (I (35 + 2 * i) 4)) (164 + 29 * r + u) 3 (I (35 + 2 * i) 8), J, kR w rem, s_up (s_up Z (164 + 29 * r + u) 0 true) (164 + 29 * r + u) 1 false), 0, 0) _
    refine w_R.go (c' := (58, [(0, .ref (164 + 29 * r + u)), (1, .ref (35 + 2 * i))], [.int ((s_up (s_up (s_up I (164 + 29 * r + u) 5 (I (35 + 2 * i) 4)) (164 + 29 * r + u) 3 (I (35 + 2 * i) 8)) (164 + 29 * r + u) 2 (I (35 + 2 * i) 7)) (35 + 2 * i) 9), .ref (164 + 29 * r + u)], (s_up (s_up (s_up I (164 + 29 * r + u) 5 (I (35 + 2 * i) 4)) (164 + 29 * r + u) 3 (I (35 + 2 * i) 8)) (164 + 29 * r + u) 2 (I (35 + 2 * i) 7), J, kR w rem, s_up (s_up Z (164 + 29 * r + u) 0 true) (164 + 29 * r + u) 1 false), 0, 0)) 4 ?_ (fun m_ x_ Q_ k_ => ⟨⟨(sh_sight hr hu), trivial⟩, trivial, trivial, ⟨(sh_let hi), trivial⟩, k_⟩)
    rw [show (s_up (s_up (s_up I (164 + 29 * r + u) 5 (I (35 + 2 * i) 4)) (164 + 29 * r + u) 3 (I (35 + 2 * i) 8)) (164 + 29 * r + u) 2 (I (35 + 2 * i) 7)) (35 + 2 * i) 9 = I (35 + 2 * i) 9 from ((s_upk (by decide)).trans ((s_upk (by decide)).trans (s_upk (by decide))))]
    show w_R xs Ln 99 (58, [(0, .ref (164 + 29 * r + u)), (1, .ref (35 + 2 * i))], [.int (I (35 + 2 * i) 9), .ref (164 + 29 * r + u)], (s_up (s_up (s_up I (164 + 29 * r + u) 5 (I (35 + 2 * i) 4)) (164 + 29 * r + u) 3 (I (35 + 2 * i) 8)) (164 + 29 * r + u) 2 (I (35 + 2 * i) 7), J, kR w rem, s_up (s_up Z (164 + 29 * r + u) 0 true) (164 + 29 * r + u) 1 false), 0, 0) _
    refine w_R.ret 2 (.inl none) (s_up (s_up (s_up (s_up I (164 + 29 * r + u) 5 (I (35 + 2 * i) 4)) (164 + 29 * r + u) 3 (I (35 + 2 * i) 8)) (164 + 29 * r + u) 2 (I (35 + 2 * i) 7)) (164 + 29 * r + u) 4 (I (35 + 2 * i) 9), J, kR w rem, s_up (s_up Z (164 + 29 * r + u) 0 true) (164 + 29 * r + u) 1 false) ?_ (fun x_ Q_ k_ => ⟨⟨(sh_sight hr hu), trivial⟩, ⟨Nat.le_of_ble_eq_true rfl, Nat.le_of_ble_eq_true rfl⟩, k_⟩)
    exact ⟨rfl, by rw [show i_99 I J Z r u i = (s_up (s_up (s_up (s_up I (164 + 29 * r + u) 5 (I (35 + 2 * i) 4)) (164 + 29 * r + u) 3 (I (35 + 2 * i) 8)) (164 + 29 * r + u) 2 (I (35 + 2 * i) 7)) (164 + 29 * r + u) 4 (I (35 + 2 * i) 9)) from by unfold i_99; rw [if_neg h1], show z_99 I J Z r u i = (s_up (s_up Z (164 + 29 * r + u) 0 true) (164 + 29 * r + u) 1 false) from by unfold z_99; rw [if_neg h1]]⟩
  · refine w_R.go (c' := (i_br .gt (I (35 + 2 * i) 4) (I (164 + 29 * r + u) 5) 19 18, [(0, .ref (164 + 29 * r + u)), (1, .ref (35 + 2 * i))], [], (I, J, kR w rem, Z), 0, 0)) 5 ?_ (fun m_ x_ Q_ k_ => ⟨trivial, ⟨(sh_let hi), trivial⟩, trivial, ⟨(sh_sight hr hu), trivial⟩, trivial, k_⟩)
    refine w_R.br_gt (fun h2 => ?_) (fun h2 => ?_)
    · refine w_R.go (c' := (42, [(0, .ref (164 + 29 * r + u)), (1, .ref (35 + 2 * i))], [.int ((s_up I (164 + 29 * r + u) 5 (I (35 + 2 * i) 4)) (35 + 2 * i) 8), .ref (164 + 29 * r + u)], (s_up I (164 + 29 * r + u) 5 (I (35 + 2 * i) 4), J, kR w rem, s_up (s_up Z (164 + 29 * r + u) 0 true) (164 + 29 * r + u) 1 false), 0, 0)) 13 ?_ (fun m_ x_ Q_ k_ => ⟨trivial, trivial, ⟨(sh_sight hr hu), (Or.inr rfl)⟩, trivial, trivial, ⟨(sh_sight hr hu), (Or.inl rfl)⟩, trivial, trivial, ⟨(sh_let hi), trivial⟩, ⟨(sh_sight hr hu), trivial⟩, trivial, trivial, ⟨(sh_let hi), trivial⟩, k_⟩)
      rw [show (s_up I (164 + 29 * r + u) 5 (I (35 + 2 * i) 4)) (35 + 2 * i) 8 = I (35 + 2 * i) 8 from (s_upk (by decide))]
      show w_R xs Ln 99 (42, [(0, .ref (164 + 29 * r + u)), (1, .ref (35 + 2 * i))], [.int (I (35 + 2 * i) 8), .ref (164 + 29 * r + u)], (s_up I (164 + 29 * r + u) 5 (I (35 + 2 * i) 4), J, kR w rem, s_up (s_up Z (164 + 29 * r + u) 0 true) (164 + 29 * r + u) 1 false), 0, 0) _
      refine w_R.go (c' := (50, [(0, .ref (164 + 29 * r + u)), (1, .ref (35 + 2 * i))], [.int ((s_up (s_up I (164 + 29 * r + u) 5 (I (35 + 2 * i) 4)) (164 + 29 * r + u) 3 (I (35 + 2 * i) 8)) (35 + 2 * i) 7), .ref (164 + 29 * r + u)], (s_up (s_up I (164 + 29 * r + u) 5 (I (35 + 2 * i) 4)) (164 + 29 * r + u) 3 (I (35 + 2 * i) 8), J, kR w rem, s_up (s_up Z (164 + 29 * r + u) 0 true) (164 + 29 * r + u) 1 false), 0, 0)) 4 ?_ (fun m_ x_ Q_ k_ => ⟨⟨(sh_sight hr hu), trivial⟩, trivial, trivial, ⟨(sh_let hi), trivial⟩, k_⟩)
      rw [show (s_up (s_up I (164 + 29 * r + u) 5 (I (35 + 2 * i) 4)) (164 + 29 * r + u) 3 (I (35 + 2 * i) 8)) (35 + 2 * i) 7 = I (35 + 2 * i) 7 from ((s_upk (by decide)).trans (s_upk (by decide)))]
      show w_R xs Ln 99 (50, [(0, .ref (164 + 29 * r + u)), (1, .ref (35 + 2 * i))], [.int (I (35 + 2 * i) 7), .ref (164 + 29 * r + u)], (s_up (s_up I (164 + 29 * r + u) 5 (I (35 + 2 * i) 4)) (164 + 29 * r + u) 3 (I (35 + 2 * i) 8), J, kR w rem, s_up (s_up Z (164 + 29 * r + u) 0 true) (164 + 29 * r + u) 1 false), 0, 0) _
      refine w_R.go (c' := (58, [(0, .ref (164 + 29 * r + u)), (1, .ref (35 + 2 * i))], [.int ((s_up (s_up (s_up I (164 + 29 * r + u) 5 (I (35 + 2 * i) 4)) (164 + 29 * r + u) 3 (I (35 + 2 * i) 8)) (164 + 29 * r + u) 2 (I (35 + 2 * i) 7)) (35 + 2 * i) 9), .ref (164 + 29 * r + u)], (s_up (s_up (s_up I (164 + 29 * r + u) 5 (I (35 + 2 * i) 4)) (164 + 29 * r + u) 3 (I (35 + 2 * i) 8)) (164 + 29 * r + u) 2 (I (35 + 2 * i) 7), J, kR w rem, s_up (s_up Z (164 + 29 * r + u) 0 true) (164 + 29 * r + u) 1 false), 0, 0)) 4 ?_ (fun m_ x_ Q_ k_ => ⟨⟨(sh_sight hr hu), trivial⟩, trivial, trivial, ⟨(sh_let hi), trivial⟩, k_⟩)
      rw [show (s_up (s_up (s_up I (164 + 29 * r + u) 5 (I (35 + 2 * i) 4)) (164 + 29 * r + u) 3 (I (35 + 2 * i) 8)) (164 + 29 * r + u) 2 (I (35 + 2 * i) 7)) (35 + 2 * i) 9 = I (35 + 2 * i) 9 from ((s_upk (by decide)).trans ((s_upk (by decide)).trans (s_upk (by decide))))]
      show w_R xs Ln 99 (58, [(0, .ref (164 + 29 * r + u)), (1, .ref (35 + 2 * i))], [.int (I (35 + 2 * i) 9), .ref (164 + 29 * r + u)], (s_up (s_up (s_up I (164 + 29 * r + u) 5 (I (35 + 2 * i) 4)) (164 + 29 * r + u) 3 (I (35 + 2 * i) 8)) (164 + 29 * r + u) 2 (I (35 + 2 * i) 7), J, kR w rem, s_up (s_up Z (164 + 29 * r + u) 0 true) (164 + 29 * r + u) 1 false), 0, 0) _
      refine w_R.ret 2 (.inl none) (s_up (s_up (s_up (s_up I (164 + 29 * r + u) 5 (I (35 + 2 * i) 4)) (164 + 29 * r + u) 3 (I (35 + 2 * i) 8)) (164 + 29 * r + u) 2 (I (35 + 2 * i) 7)) (164 + 29 * r + u) 4 (I (35 + 2 * i) 9), J, kR w rem, s_up (s_up Z (164 + 29 * r + u) 0 true) (164 + 29 * r + u) 1 false) ?_ (fun x_ Q_ k_ => ⟨⟨(sh_sight hr hu), trivial⟩, ⟨Nat.le_of_ble_eq_true rfl, Nat.le_of_ble_eq_true rfl⟩, k_⟩)
      exact ⟨rfl, by rw [show i_99 I J Z r u i = (s_up (s_up (s_up (s_up I (164 + 29 * r + u) 5 (I (35 + 2 * i) 4)) (164 + 29 * r + u) 3 (I (35 + 2 * i) 8)) (164 + 29 * r + u) 2 (I (35 + 2 * i) 7)) (164 + 29 * r + u) 4 (I (35 + 2 * i) 9)) from by unfold i_99; rw [if_pos h1, if_pos h2], show z_99 I J Z r u i = (s_up (s_up Z (164 + 29 * r + u) 0 true) (164 + 29 * r + u) 1 false) from by unfold z_99; rw [if_pos h1, if_pos h2]]⟩
    · refine w_R.ret 1 (.inl none) (I, J, kR w rem, Z) ?_ (fun x_ Q_ k_ => ⟨⟨Nat.le_of_ble_eq_true rfl, Nat.le_of_ble_eq_true rfl⟩, k_⟩)
      exact ⟨rfl, by rw [show i_99 I J Z r u i = I from by unfold i_99; rw [if_pos h1, if_neg h2], show z_99 I J Z r u i = Z from by unfold z_99; rw [if_pos h1, if_neg h2]]⟩
def v_63 (I : Nat → Nat → Int32) (J : Nat → Nat → Int64) (Z : Nat → Nat → Bool) (a : Nat) (b : Nat) : Bool := if (Z a 0) = true then if (I a 8) < (I b 8) then true else if (I b 8) = (I a 8) then if (I a 9) < (I b 9) then true else false else false else true
def i_63 (I : Nat → Nat → Int32) (J : Nat → Nat → Int64) (Z : Nat → Nat → Bool) (a : Nat) (b : Nat) : Nat → Nat → Int32 := if (Z a 0) = true then if (I a 8) < (I b 8) then i_64 I J Z a b else if (I b 8) = (I a 8) then if (I a 9) < (I b 9) then i_64 I J Z a b else I else I else i_64 I J Z a b
def z_63 (I : Nat → Nat → Int32) (J : Nat → Nat → Int64) (Z : Nat → Nat → Bool) (a : Nat) (b : Nat) : Nat → Nat → Bool := if (Z a 0) = true then if (I a 8) < (I b 8) then z_64 I J Z a b else if (I b 8) = (I a 8) then if (I a 9) < (I b 9) then z_64 I J Z a b else Z else Z else z_64 I J Z a b
theorem d_63 (a : Nat) (b : Nat) (ha : sh1[a]? = some (.inl 1)) (hb : sh1[b]? = some (.inl 1)) : w_R xs Ln 63 (0, [(0, .ref a), (1, .ref b)], [], (I, J, kR w rem, Z), 0, 0) (fun o s => o = .inl (some (.int (s_b (v_63 I J Z a b)))) ∧ s = (i_63 I J Z a b, J, kR w rem, z_63 I J Z a b)) := by
  refine w_R.go (c' := (i_br .eq (s_b (Z a 0)) 0 40 7, [(0, .ref a), (1, .ref b)], [], (I, J, kR w rem, Z), 0, 0)) 3 ?_ (fun m_ x_ Q_ k_ => ⟨trivial, ⟨ha, trivial⟩, trivial, k_⟩)
  refine w_R.br_z (fun h1 => ?_) (fun h1 => ?_)
  · replace h1 := Bool.eq_false_iff.mp h1
    refine w_R.go (c' := (52, [(2, .int 1), (0, .ref a), (1, .ref b)], [.ref b, .ref a], (I, J, kR w rem, Z), 0, 0)) 7 ?_ (fun m_ x_ Q_ k_ => ⟨trivial, trivial, trivial, trivial, trivial, trivial, trivial, k_⟩)
    refine w_R.callV (ce' := 0) (sl' := 0) (v := none) (σ' := (i_64 I J Z a b, J, kR w rem, z_64 I J Z a b)) (as := [.ref a, .ref b]) (rest := []) (d_64 a b ha hb) ?_ rfl rfl rfl rfl rfl ha rfl rfl rfl rfl
    show w_R xs Ln 63 (55, [(2, .int 1), (0, .ref a), (1, .ref b)], [], (i_64 I J Z a b, J, kR w rem, z_64 I J Z a b), 0, 0) _
    refine w_R.ret 2 (.inl (some (.int 1))) (i_64 I J Z a b, J, kR w rem, z_64 I J Z a b) ?_ (fun x_ Q_ k_ => ⟨trivial, Or.inr rfl, ⟨Nat.le_of_ble_eq_true rfl, Nat.le_of_ble_eq_true rfl⟩, k_⟩)
    exact ⟨by rw [show v_63 I J Z a b = true from by unfold v_63; rw [if_neg h1]] <;> rfl, by rw [show i_63 I J Z a b = (i_64 I J Z a b) from by unfold i_63; rw [if_neg h1], show z_63 I J Z a b = (z_64 I J Z a b) from by unfold z_63; rw [if_neg h1]]⟩
  · refine w_R.go (c' := (i_br .gt (I b 8) (I a 8) 40 18, [(0, .ref a), (1, .ref b)], [], (I, J, kR w rem, Z), 0, 0)) 5 ?_ (fun m_ x_ Q_ k_ => ⟨trivial, ⟨hb, trivial⟩, trivial, ⟨ha, trivial⟩, trivial, k_⟩)
    refine w_R.br_gt (fun h2 => ?_) (fun h2 => ?_)
    · refine w_R.go (c' := (52, [(2, .int 1), (0, .ref a), (1, .ref b)], [.ref b, .ref a], (I, J, kR w rem, Z), 0, 0)) 7 ?_ (fun m_ x_ Q_ k_ => ⟨trivial, trivial, trivial, trivial, trivial, trivial, trivial, k_⟩)
      refine w_R.callV (ce' := 0) (sl' := 0) (v := none) (σ' := (i_64 I J Z a b, J, kR w rem, z_64 I J Z a b)) (as := [.ref a, .ref b]) (rest := []) (d_64 a b ha hb) ?_ rfl rfl rfl rfl rfl ha rfl rfl rfl rfl
      show w_R xs Ln 63 (55, [(2, .int 1), (0, .ref a), (1, .ref b)], [], (i_64 I J Z a b, J, kR w rem, z_64 I J Z a b), 0, 0) _
      refine w_R.ret 2 (.inl (some (.int 1))) (i_64 I J Z a b, J, kR w rem, z_64 I J Z a b) ?_ (fun x_ Q_ k_ => ⟨trivial, Or.inr rfl, ⟨Nat.le_of_ble_eq_true rfl, Nat.le_of_ble_eq_true rfl⟩, k_⟩)
      exact ⟨by rw [show v_63 I J Z a b = true from by unfold v_63; rw [if_pos h1, if_pos h2]] <;> rfl, by rw [show i_63 I J Z a b = (i_64 I J Z a b) from by unfold i_63; rw [if_pos h1, if_pos h2], show z_63 I J Z a b = (z_64 I J Z a b) from by unfold z_63; rw [if_pos h1, if_pos h2]]⟩
    · refine w_R.go (c' := (i_br .ne (I b 8) (I a 8) 44 29, [(0, .ref a), (1, .ref b)], [], (I, J, kR w rem, Z), 0, 0)) 5 ?_ (fun m_ x_ Q_ k_ => ⟨trivial, ⟨hb, trivial⟩, trivial, ⟨ha, trivial⟩, trivial, k_⟩)
      refine w_R.br_ne (fun h3 => ?_) (fun h3 => ?_)
      · refine w_R.ret 6 (.inl (some (.int 0))) (I, J, kR w rem, Z) ?_ (fun x_ Q_ k_ => ⟨trivial, trivial, trivial, trivial, trivial, Or.inl rfl, ⟨Nat.le_of_ble_eq_true rfl, Nat.le_of_ble_eq_true rfl⟩, k_⟩)
        exact ⟨by rw [show v_63 I J Z a b = false from by unfold v_63; rw [if_pos h1, if_neg h2, if_neg h3]] <;> rfl, by rw [show i_63 I J Z a b = I from by unfold i_63; rw [if_pos h1, if_neg h2, if_neg h3], show z_63 I J Z a b = Z from by unfold z_63; rw [if_pos h1, if_neg h2, if_neg h3]]⟩
      · refine w_R.go (c' := (i_br .le (I b 9) (I a 9) 44 40, [(0, .ref a), (1, .ref b)], [], (I, J, kR w rem, Z), 0, 0)) 5 ?_ (fun m_ x_ Q_ k_ => ⟨trivial, ⟨hb, trivial⟩, trivial, ⟨ha, trivial⟩, trivial, k_⟩)
        refine w_R.br_le (fun h4 => ?_) (fun h4 => ?_)
        · refine w_R.ret 6 (.inl (some (.int 0))) (I, J, kR w rem, Z) ?_ (fun x_ Q_ k_ => ⟨trivial, trivial, trivial, trivial, trivial, Or.inl rfl, ⟨Nat.le_of_ble_eq_true rfl, Nat.le_of_ble_eq_true rfl⟩, k_⟩)
          exact ⟨by rw [show v_63 I J Z a b = false from by unfold v_63; rw [if_pos h1, if_neg h2, if_pos h3, if_neg h4]] <;> rfl, by rw [show i_63 I J Z a b = I from by unfold i_63; rw [if_pos h1, if_neg h2, if_pos h3, if_neg h4], show z_63 I J Z a b = Z from by unfold z_63; rw [if_pos h1, if_neg h2, if_pos h3, if_neg h4]]⟩
        · refine w_R.go (c' := (52, [(2, .int 1), (0, .ref a), (1, .ref b)], [.ref b, .ref a], (I, J, kR w rem, Z), 0, 0)) 7 ?_ (fun m_ x_ Q_ k_ => ⟨trivial, trivial, trivial, trivial, trivial, trivial, trivial, k_⟩)
          refine w_R.callV (ce' := 0) (sl' := 0) (v := none) (σ' := (i_64 I J Z a b, J, kR w rem, z_64 I J Z a b)) (as := [.ref a, .ref b]) (rest := []) (d_64 a b ha hb) ?_ rfl rfl rfl rfl rfl ha rfl rfl rfl rfl
          show w_R xs Ln 63 (55, [(2, .int 1), (0, .ref a), (1, .ref b)], [], (i_64 I J Z a b, J, kR w rem, z_64 I J Z a b), 0, 0) _
          refine w_R.ret 2 (.inl (some (.int 1))) (i_64 I J Z a b, J, kR w rem, z_64 I J Z a b) ?_ (fun x_ Q_ k_ => ⟨trivial, Or.inr rfl, ⟨Nat.le_of_ble_eq_true rfl, Nat.le_of_ble_eq_true rfl⟩, k_⟩)
          exact ⟨by rw [show v_63 I J Z a b = true from by unfold v_63; rw [if_pos h1, if_neg h2, if_pos h3, if_pos h4]] <;> rfl, by rw [show i_63 I J Z a b = (i_64 I J Z a b) from by unfold i_63; rw [if_pos h1, if_neg h2, if_pos h3, if_pos h4], show z_63 I J Z a b = (z_64 I J Z a b) from by unfold z_63; rw [if_pos h1, if_neg h2, if_pos h3, if_pos h4]]⟩
def v_69 (I : Nat → Nat → Int32) (J : Nat → Nat → Int64) (Z : Nat → Nat → Bool) (i : Nat) (x : Int32) : Int32 := if x = 0 then I (35 + 2 * i) 0 else if x = 1 then I (35 + 2 * i) 1 else if x = 2 then I (35 + 2 * i) 2 else if x = 3 then I (35 + 2 * i) 3 else if x = 4 then I (35 + 2 * i) 4 else (-1)
theorem d_69 (i : Nat) (x : Int32) (hi : i < 50) : w_R xs Ln 69 (0, [(0, .ref (35 + 2 * i)), (1, .int x)], [], (I, J, kR w rem, Z), 0, 0) (fun o s => o = .inl (some (.int (v_69 I J Z i x))) ∧ s = (I, J, kR w rem, Z)) := by
  refine w_R.go (c' := (if x.toInt < 0 ∨ 4 < x.toInt then 61 else i_tg 1 ((#[35, 40, 45, 50, 55] : Array Int).getD (x.toInt - 0).toNat 0), [(0, .ref (35 + 2 * i)), (1, .int x)], [], (I, J, kR w rem, Z), 0, 0)) 2 ?_ (fun m_ x_ Q_ k_ => ⟨trivial, trivial, k_⟩)
  by_cases h1 : x = 0
  · rw [show (if x.toInt < 0 ∨ 4 < x.toInt then 61 else i_tg 1 ((#[35, 40, 45, 50, 55] : Array Int).getD (x.toInt - 0).toNat 0)) = 36 by rw [h1]; rfl]
    refine w_R.ret 3 (.inl (some (.int (I (35 + 2 * i) 0)))) (I, J, kR w rem, Z) ?_ (fun x_ Q_ k_ => ⟨trivial, ⟨(sh_let hi), trivial⟩, trivial, ⟨Nat.le_of_ble_eq_true rfl, Nat.le_of_ble_eq_true rfl⟩, k_⟩)
    exact ⟨by rw [show v_69 I J Z i x = (I (35 + 2 * i) 0) from by unfold v_69; rw [if_pos h1]] <;> rfl, rfl⟩
  by_cases h2 : x = 1
  · rw [show (if x.toInt < 0 ∨ 4 < x.toInt then 61 else i_tg 1 ((#[35, 40, 45, 50, 55] : Array Int).getD (x.toInt - 0).toNat 0)) = 41 by rw [h2]; rfl]
    refine w_R.ret 3 (.inl (some (.int (I (35 + 2 * i) 1)))) (I, J, kR w rem, Z) ?_ (fun x_ Q_ k_ => ⟨trivial, ⟨(sh_let hi), trivial⟩, trivial, ⟨Nat.le_of_ble_eq_true rfl, Nat.le_of_ble_eq_true rfl⟩, k_⟩)
    exact ⟨by rw [show v_69 I J Z i x = (I (35 + 2 * i) 1) from by unfold v_69; rw [if_neg h1, if_pos h2]] <;> rfl, rfl⟩
  by_cases h3 : x = 2
  · rw [show (if x.toInt < 0 ∨ 4 < x.toInt then 61 else i_tg 1 ((#[35, 40, 45, 50, 55] : Array Int).getD (x.toInt - 0).toNat 0)) = 46 by rw [h3]; rfl]
    refine w_R.ret 3 (.inl (some (.int (I (35 + 2 * i) 2)))) (I, J, kR w rem, Z) ?_ (fun x_ Q_ k_ => ⟨trivial, ⟨(sh_let hi), trivial⟩, trivial, ⟨Nat.le_of_ble_eq_true rfl, Nat.le_of_ble_eq_true rfl⟩, k_⟩)
    exact ⟨by rw [show v_69 I J Z i x = (I (35 + 2 * i) 2) from by unfold v_69; rw [if_neg h1, if_neg h2, if_pos h3]] <;> rfl, rfl⟩
  by_cases h4 : x = 3
  · rw [show (if x.toInt < 0 ∨ 4 < x.toInt then 61 else i_tg 1 ((#[35, 40, 45, 50, 55] : Array Int).getD (x.toInt - 0).toNat 0)) = 51 by rw [h4]; rfl]
    refine w_R.ret 3 (.inl (some (.int (I (35 + 2 * i) 3)))) (I, J, kR w rem, Z) ?_ (fun x_ Q_ k_ => ⟨trivial, ⟨(sh_let hi), trivial⟩, trivial, ⟨Nat.le_of_ble_eq_true rfl, Nat.le_of_ble_eq_true rfl⟩, k_⟩)
    exact ⟨by rw [show v_69 I J Z i x = (I (35 + 2 * i) 3) from by unfold v_69; rw [if_neg h1, if_neg h2, if_neg h3, if_pos h4]] <;> rfl, rfl⟩
  by_cases h5 : x = 4
  · rw [show (if x.toInt < 0 ∨ 4 < x.toInt then 61 else i_tg 1 ((#[35, 40, 45, 50, 55] : Array Int).getD (x.toInt - 0).toNat 0)) = 56 by rw [h5]; rfl]
    refine w_R.ret 3 (.inl (some (.int (I (35 + 2 * i) 4)))) (I, J, kR w rem, Z) ?_ (fun x_ Q_ k_ => ⟨trivial, ⟨(sh_let hi), trivial⟩, trivial, ⟨Nat.le_of_ble_eq_true rfl, Nat.le_of_ble_eq_true rfl⟩, k_⟩)
    exact ⟨by rw [show v_69 I J Z i x = (I (35 + 2 * i) 4) from by unfold v_69; rw [if_neg h1, if_neg h2, if_neg h3, if_neg h4, if_pos h5]] <;> rfl, rfl⟩
  rw [if_pos (l_out (x := x) (a := 4) (n := 5) (by omega) rfl (by intro k hk; (rcases k with _ | _ | _ | _ | _ | k) <;> first | assumption | omega))]
  refine w_R.ret 2 (.inl (some (.int (-1)))) (I, J, kR w rem, Z) ?_ (fun x_ Q_ k_ => ⟨trivial, trivial, ⟨Nat.le_of_ble_eq_true rfl, Nat.le_of_ble_eq_true rfl⟩, k_⟩)
  exact ⟨by rw [show v_69 I J Z i x = (-1) from by unfold v_69; rw [if_neg h1, if_neg h2, if_neg h3, if_neg h4, if_neg h5]] <;> rfl, rfl⟩
def v_103 (I : Nat → Nat → Int32) (J : Nat → Nat → Int64) (Z : Nat → Nat → Bool) (r : Nat) (u : Nat) (x : Int32) : Int32 := if x = 0 then I (164 + 29 * r + u) 3 else if x = 1 then I (164 + 29 * r + u) 2 else if x = 2 then I (164 + 29 * r + u) 4 else if x = 3 then I (164 + 29 * r + u) 5 else if x = 4 then if (v_101 I J Z (164 + 29 * r + u)) = true then 0 else 1 else (-1)
theorem d_103 (r : Nat) (u : Nat) (x : Int32) (hr : r < 2) (hu : u < 6) : w_R xs Ln 103 (0, [(0, .ref (164 + 29 * r + u)), (1, .int x)], [], (I, J, kR w rem, Z), 0, 0) (fun o s => o = .inl (some (.int (v_103 I J Z r u x))) ∧ s = (I, J, kR w rem, Z)) := by
  refine w_R.go (c' := (if x.toInt < 0 ∨ 4 < x.toInt then 69 else i_tg 1 ((#[35, 40, 45, 50, 55] : Array Int).getD (x.toInt - 0).toNat 0), [(0, .ref (164 + 29 * r + u)), (1, .int x)], [], (I, J, kR w rem, Z), 0, 0)) 2 ?_ (fun m_ x_ Q_ k_ => ⟨trivial, trivial, k_⟩)
  by_cases h1 : x = 0
  · rw [show (if x.toInt < 0 ∨ 4 < x.toInt then 69 else i_tg 1 ((#[35, 40, 45, 50, 55] : Array Int).getD (x.toInt - 0).toNat 0)) = 36 by rw [h1]; rfl]
    refine w_R.ret 3 (.inl (some (.int (I (164 + 29 * r + u) 3)))) (I, J, kR w rem, Z) ?_ (fun x_ Q_ k_ => ⟨trivial, ⟨(sh_sight hr hu), trivial⟩, trivial, ⟨Nat.le_of_ble_eq_true rfl, Nat.le_of_ble_eq_true rfl⟩, k_⟩)
    exact ⟨by rw [show v_103 I J Z r u x = (I (164 + 29 * r + u) 3) from by unfold v_103; rw [if_pos h1]] <;> rfl, rfl⟩
  by_cases h2 : x = 1
  · rw [show (if x.toInt < 0 ∨ 4 < x.toInt then 69 else i_tg 1 ((#[35, 40, 45, 50, 55] : Array Int).getD (x.toInt - 0).toNat 0)) = 41 by rw [h2]; rfl]
    refine w_R.ret 3 (.inl (some (.int (I (164 + 29 * r + u) 2)))) (I, J, kR w rem, Z) ?_ (fun x_ Q_ k_ => ⟨trivial, ⟨(sh_sight hr hu), trivial⟩, trivial, ⟨Nat.le_of_ble_eq_true rfl, Nat.le_of_ble_eq_true rfl⟩, k_⟩)
    exact ⟨by rw [show v_103 I J Z r u x = (I (164 + 29 * r + u) 2) from by unfold v_103; rw [if_neg h1, if_pos h2]] <;> rfl, rfl⟩
  by_cases h3 : x = 2
  · rw [show (if x.toInt < 0 ∨ 4 < x.toInt then 69 else i_tg 1 ((#[35, 40, 45, 50, 55] : Array Int).getD (x.toInt - 0).toNat 0)) = 46 by rw [h3]; rfl]
    refine w_R.ret 3 (.inl (some (.int (I (164 + 29 * r + u) 4)))) (I, J, kR w rem, Z) ?_ (fun x_ Q_ k_ => ⟨trivial, ⟨(sh_sight hr hu), trivial⟩, trivial, ⟨Nat.le_of_ble_eq_true rfl, Nat.le_of_ble_eq_true rfl⟩, k_⟩)
    exact ⟨by rw [show v_103 I J Z r u x = (I (164 + 29 * r + u) 4) from by unfold v_103; rw [if_neg h1, if_neg h2, if_pos h3]] <;> rfl, rfl⟩
  by_cases h4 : x = 3
  · rw [show (if x.toInt < 0 ∨ 4 < x.toInt then 69 else i_tg 1 ((#[35, 40, 45, 50, 55] : Array Int).getD (x.toInt - 0).toNat 0)) = 51 by rw [h4]; rfl]
    refine w_R.ret 3 (.inl (some (.int (I (164 + 29 * r + u) 5)))) (I, J, kR w rem, Z) ?_ (fun x_ Q_ k_ => ⟨trivial, ⟨(sh_sight hr hu), trivial⟩, trivial, ⟨Nat.le_of_ble_eq_true rfl, Nat.le_of_ble_eq_true rfl⟩, k_⟩)
    exact ⟨by rw [show v_103 I J Z r u x = (I (164 + 29 * r + u) 5) from by unfold v_103; rw [if_neg h1, if_neg h2, if_neg h3, if_pos h4]] <;> rfl, rfl⟩
  by_cases h5 : x = 4
  · rw [show (if x.toInt < 0 ∨ 4 < x.toInt then 69 else i_tg 1 ((#[35, 40, 45, 50, 55] : Array Int).getD (x.toInt - 0).toNat 0)) = 56 by rw [h5]; rfl]
    refine w_R.go (c' := (57, [(0, .ref (164 + 29 * r + u)), (1, .int x)], [.ref (164 + 29 * r + u)], (I, J, kR w rem, Z), 0, 0)) 1 ?_ (fun m_ x_ Q_ k_ => ⟨trivial, k_⟩)
    refine w_R.callV (ce' := 0) (sl' := 0) (v := some (.int (s_b (v_101 I J Z (164 + 29 * r + u))))) (σ' := (I, J, kR w rem, Z)) (as := [.ref (164 + 29 * r + u)]) (rest := []) (d_101 (164 + 29 * r + u) (sh_sight hr hu)) ?_ rfl rfl rfl rfl rfl (sh_sight hr hu) rfl rfl rfl rfl
    show w_R xs Ln 103 (60, [(0, .ref (164 + 29 * r + u)), (1, .int x)], [.int (s_b (v_101 I J Z (164 + 29 * r + u)))], (I, J, kR w rem, Z), 0, 0) _
    refine w_R.go (c' := (i_br .eq (s_b (v_101 I J Z (164 + 29 * r + u))) 0 67 63, [(0, .ref (164 + 29 * r + u)), (1, .int x)], [], (I, J, kR w rem, Z), 0, 0)) 1 ?_ (fun m_ x_ Q_ k_ => ⟨trivial, k_⟩)
    refine w_R.br_z (fun h6 => ?_) (fun h6 => ?_)
    · replace h6 := Bool.eq_false_iff.mp h6
      refine w_R.ret 2 (.inl (some (.int 1))) (I, J, kR w rem, Z) ?_ (fun x_ Q_ k_ => ⟨trivial, trivial, ⟨Nat.le_of_ble_eq_true rfl, Nat.le_of_ble_eq_true rfl⟩, k_⟩)
      exact ⟨by rw [show v_103 I J Z r u x = 1 from by unfold v_103; rw [if_neg h1, if_neg h2, if_neg h3, if_neg h4, if_pos h5, if_neg h6]] <;> rfl, rfl⟩
    · refine w_R.ret 3 (.inl (some (.int 0))) (I, J, kR w rem, Z) ?_ (fun x_ Q_ k_ => ⟨trivial, trivial, trivial, ⟨Nat.le_of_ble_eq_true rfl, Nat.le_of_ble_eq_true rfl⟩, k_⟩)
      exact ⟨by rw [show v_103 I J Z r u x = 0 from by unfold v_103; rw [if_neg h1, if_neg h2, if_neg h3, if_neg h4, if_pos h5, if_pos h6]] <;> rfl, rfl⟩
  rw [if_pos (l_out (x := x) (a := 4) (n := 5) (by omega) rfl (by intro k hk; (rcases k with _ | _ | _ | _ | _ | k) <;> first | assumption | omega))]
  refine w_R.ret 2 (.inl (some (.int (-1)))) (I, J, kR w rem, Z) ?_ (fun x_ Q_ k_ => ⟨trivial, trivial, ⟨Nat.le_of_ble_eq_true rfl, Nat.le_of_ble_eq_true rfl⟩, k_⟩)
  exact ⟨by rw [show v_103 I J Z r u x = (-1) from by unfold v_103; rw [if_neg h1, if_neg h2, if_neg h3, if_neg h4, if_neg h5]] <;> rfl, rfl⟩
end Small3
