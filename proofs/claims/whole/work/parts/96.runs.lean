section RunsP
variable {xs : Nat → Int32} {Ln : Nat} {I : Nat → Nat → Int32} {J : Nat → Nat → Int64} {Z : Nat → Nat → Bool} {w : Nat → Nat} {rem : Nat}
theorem s89i (f : Nat) (z : Bool) (hf : f < 12) (Q : i_O → s_S → Prop) (hx : w_R xs Ln 89 (12, [(3, .int 0), (2, .int (Int32.ofNat f)), (1, .int (s_b z)), (0, .ref 2)], [], (I, J, kR w rem, Z), 0, 0) Q) : w_R xs Ln 89 (4, [(2, .int (Int32.ofNat f)), (1, .int (s_b z)), (0, .ref 2)], [], (I, J, kR w rem, Z), 0, 0) Q := by
  refine w_R.go (c' := (i_br .ge (Int32.ofNat f) 12 96 10, [(2, .int (Int32.ofNat f)), (1, .int (s_b z)), (0, .ref 2)], [], (I, J, kR w rem, Z), 0, 0)) 3 ?_ (fun m_ x_ Q_ k_ => ⟨trivial, trivial, trivial, k_⟩)
  rw [show i_br .ge (Int32.ofNat f) 12 96 10 = 10 from if_neg (Int32.not_le.mpr ((n_lt (a := f) (b := 12) (by omega) (by omega)).mpr (by omega)))]
  show w_R xs Ln 89 (10, [(2, .int (Int32.ofNat f)), (1, .int (s_b z)), (0, .ref 2)], [], (I, J, kR w rem, Z), 0, 0) _
  refine w_R.go (c' := (12, [(3, .int 0), (2, .int (Int32.ofNat f)), (1, .int (s_b z)), (0, .ref 2)], [], (I, J, kR w rem, Z), 0, 0)) 2 ?_ (fun m_ x_ Q_ k_ => ⟨trivial, trivial, k_⟩)
  exact hx
theorem s89x1 (f : Nat) (z : Bool) (hf : f < 12) (Q : i_O → s_S → Prop) (hx : w_R xs Ln 89 (4, [(2, .int (Int32.ofNat (f + 1))), (1, .int (s_b z)), (0, .ref 2)], [], (I, J, kR w rem, Z), 0, 0) Q) : w_R xs Ln 89 (12, [(3, .int 12), (2, .int (Int32.ofNat f)), (1, .int (s_b z)), (0, .ref 2)], [], (I, J, kR w rem, Z), 0, 0) Q := by
  refine w_R.go (c' := (90, [(3, .int 12), (2, .int (Int32.ofNat f)), (1, .int (s_b z)), (0, .ref 2)], [], (I, J, kR w rem, Z), 0, 0)) 3 ?_ (fun m_ x_ Q_ k_ => ⟨trivial, trivial, trivial, k_⟩)
  refine w_R.go (c' := (93, [(2, .int (Int32.ofNat f + Int32.ofNat 1)), (3, .int 12), (1, .int (s_b z)), (0, .ref 2)], [], (I, J, kR w rem, Z), 0, 0)) 1 ?_ (fun m_ x_ Q_ k_ => ⟨trivial, k_⟩)
  rw [n_add f 1]
  show w_R xs Ln 89 (93, [(2, .int (Int32.ofNat (f + 1))), (3, .int 12), (1, .int (s_b z)), (0, .ref 2)], [], (I, J, kR w rem, Z), 0, 0) _
  refine w_R.go (c' := (4, [(2, .int (Int32.ofNat (f + 1))), (3, .int 12), (1, .int (s_b z)), (0, .ref 2)], [], (I, J, kR w rem, Z), 0, 0)) 1 ?_ (fun m_ x_ Q_ k_ => ⟨trivial, k_⟩)
  refine w_R.drop (fun i => decide (i = 3)) ?_
  exact hx
theorem s89x2 (f : Nat) (hf : f < 12) (Q : i_O → s_S → Prop) (hx : w_R xs Ln 89 (4, [(2, .int (Int32.ofNat (f + 1))), (1, .int 1), (0, .ref 2)], [], (I, J, kR w rem, Z), 0, 0) Q) : w_R xs Ln 89 (12, [(3, .int 12), (1, .int 1), (2, .int (Int32.ofNat f)), (0, .ref 2)], [], (I, J, kR w rem, Z), 0, 0) Q := by
  refine w_R.go (c' := (90, [(3, .int 12), (1, .int 1), (2, .int (Int32.ofNat f)), (0, .ref 2)], [], (I, J, kR w rem, Z), 0, 0)) 3 ?_ (fun m_ x_ Q_ k_ => ⟨trivial, trivial, trivial, k_⟩)
  refine w_R.go (c' := (93, [(2, .int (Int32.ofNat f + Int32.ofNat 1)), (3, .int 12), (1, .int 1), (0, .ref 2)], [], (I, J, kR w rem, Z), 0, 0)) 1 ?_ (fun m_ x_ Q_ k_ => ⟨trivial, k_⟩)
  rw [n_add f 1]
  show w_R xs Ln 89 (93, [(2, .int (Int32.ofNat (f + 1))), (3, .int 12), (1, .int 1), (0, .ref 2)], [], (I, J, kR w rem, Z), 0, 0) _
  refine w_R.go (c' := (4, [(2, .int (Int32.ofNat (f + 1))), (3, .int 12), (1, .int 1), (0, .ref 2)], [], (I, J, kR w rem, Z), 0, 0)) 1 ?_ (fun m_ x_ Q_ k_ => ⟨trivial, k_⟩)
  refine w_R.drop (fun i => decide (i = 3)) ?_
  exact hx
theorem s89r (z : Bool) : w_R xs Ln 89 (4, [(2, .int 12), (1, .int (s_b z)), (0, .ref 2)], [], (I, J, kR w rem, Z), 0, 0) (fun o s => o = .inl (some (.int (s_b z))) ∧ s = (I, J, kR w rem, Z)) := by
  refine w_R.go (c' := (96, [(2, .int 12), (1, .int (s_b z)), (0, .ref 2)], [], (I, J, kR w rem, Z), 0, 0)) 3 ?_ (fun m_ x_ Q_ k_ => ⟨trivial, trivial, trivial, k_⟩)
  refine w_R.ret 2 (.inl (some (.int (s_b z)))) (I, J, kR w rem, Z) ?_ (fun x_ Q_ k_ => ⟨trivial, l_b _, ⟨Nat.le_of_ble_eq_true rfl, Nat.le_of_ble_eq_true rfl⟩, k_⟩)
  exact ⟨rfl, rfl⟩
theorem s89y   (Q : i_O → s_S → Prop) (hx : w_R xs Ln 89 (4, [(2, .int 0), (1, .int 0), (0, .ref 2)], [], (I, J, kR w rem, Z), 0, 0) Q) : w_R xs Ln 89 (0, [(0, .ref 2)], [], (I, J, kR w rem, Z), 0, 0) Q := by
  refine w_R.go (c' := (4, [(2, .int 0), (1, .int 0), (0, .ref 2)], [], (I, J, kR w rem, Z), 0, 0)) 4 ?_ (fun m_ x_ Q_ k_ => ⟨trivial, trivial, trivial, trivial, k_⟩)
  exact hx
theorem l_88 (q : Nat) (hq : q < 12) : ∀ (f k : Nat), k + f = 12 → ∀ (Q : i_O → s_S → Prop), w_R xs Ln 88 (21, [(2, .int 12), (0, .ref 2), (1, .int (Int32.ofNat q))], [], (s_fl I 4 (-1) 12, J, kR w rem, Z), 0, 0) Q → w_R xs Ln 88 (2, [(2, .int (Int32.ofNat k)), (0, .ref 2), (1, .int (Int32.ofNat q))], [], (s_fl I 4 (-1) k, J, kR w rem, Z), 0, 0) Q := by
  intro f
  induction f with
  | zero =>
    intro k hk Q hx
    have e : k = 12 := by omega
    rw [e]
    refine w_R.go (c' := (21, [(2, .int 12), (0, .ref 2), (1, .int (Int32.ofNat q))], [], (s_fl I 4 (-1) 12, J, kR w rem, Z), 0, 0)) 3 ?_ (fun m_ x_ Q_ k_ => ⟨trivial, trivial, trivial, k_⟩)
    exact hx
  | succ f ih =>
    intro k hk Q hx
    have hkc : k < 12 := by omega
    refine w_R.go (c' := (i_br .ge (Int32.ofNat k) 12 21 8, [(2, .int (Int32.ofNat k)), (0, .ref 2), (1, .int (Int32.ofNat q))], [], (s_fl I 4 (-1) k, J, kR w rem, Z), 0, 0)) 3 ?_ (fun m_ x_ Q_ k_ => ⟨trivial, trivial, trivial, k_⟩)
    rw [show i_br .ge (Int32.ofNat k) 12 21 8 = 8 from if_neg (Int32.not_le.mpr ((n_lt (a := k) (b := 12) (by omega) (by omega)).mpr (by omega)))]
    show w_R xs Ln 88 (8, [(2, .int (Int32.ofNat k)), (0, .ref 2), (1, .int (Int32.ofNat q))], [], (s_fl I 4 (-1) k, J, kR w rem, Z), 0, 0) _
    refine w_R.go (c' := (15, [(2, .int (Int32.ofNat k)), (0, .ref 2), (1, .int (Int32.ofNat q))], [], (s_up (s_fl I 4 (-1) k) 4 ((Int32.ofNat k).toNatClampNeg) (-1), J, kR w rem, Z), 0, 0)) 5 ?_ (fun m_ x_ Q_ k_ => ⟨trivial, ⟨sh_2, (Nat.succ_ne_zero 3)⟩, trivial, trivial, ⟨_, sh_4, (n_in (a := k) (by omega) (by decide))⟩, k_⟩)
    rw [n_cl (a := k) (by omega)]
    show w_R xs Ln 88 (15, [(2, .int (Int32.ofNat k)), (0, .ref 2), (1, .int (Int32.ofNat q))], [], (s_up (s_fl I 4 (-1) k) 4 k (-1), J, kR w rem, Z), 0, 0) _
    refine w_R.go (c' := (18, [(2, .int (Int32.ofNat k + Int32.ofNat 1)), (0, .ref 2), (1, .int (Int32.ofNat q))], [], (s_up (s_fl I 4 (-1) k) 4 k (-1), J, kR w rem, Z), 0, 0)) 1 ?_ (fun m_ x_ Q_ k_ => ⟨trivial, k_⟩)
    rw [n_add k 1]
    show w_R xs Ln 88 (18, [(2, .int (Int32.ofNat (k + 1))), (0, .ref 2), (1, .int (Int32.ofNat q))], [], (s_up (s_fl I 4 (-1) k) 4 k (-1), J, kR w rem, Z), 0, 0) _
    refine w_R.go (c' := (2, [(2, .int (Int32.ofNat (k + 1))), (0, .ref 2), (1, .int (Int32.ofNat q))], [], (s_up (s_fl I 4 (-1) k) 4 k (-1), J, kR w rem, Z), 0, 0)) 1 ?_ (fun m_ x_ Q_ k_ => ⟨trivial, k_⟩)
    exact ih (k + 1) (by omega) Q hx
theorem s88y (q : Nat)  (Q : i_O → s_S → Prop) (hx : w_R xs Ln 88 (2, [(2, .int 0), (0, .ref 2), (1, .int (Int32.ofNat q))], [], (I, J, kR w rem, Z), 0, 0) Q) : w_R xs Ln 88 (0, [(0, .ref 2), (1, .int (Int32.ofNat q))], [], (I, J, kR w rem, Z), 0, 0) Q := by
  refine w_R.go (c' := (2, [(2, .int 0), (0, .ref 2), (1, .int (Int32.ofNat q))], [], (I, J, kR w rem, Z), 0, 0)) 2 ?_ (fun m_ x_ Q_ k_ => ⟨trivial, trivial, k_⟩)
  exact hx
theorem s88z (q : Nat) (hq : q < 12) (Q : i_O → s_S → Prop) (hx : w_R xs Ln 88 (32, [(3, .int 1), (2, .int 1), (0, .ref 2), (1, .int (Int32.ofNat q))], [], (s_up I 4 q 0, J, kR w rem, Z), 0, 0) Q) : w_R xs Ln 88 (21, [(2, .int 12), (0, .ref 2), (1, .int (Int32.ofNat q))], [], (I, J, kR w rem, Z), 0, 0) Q := by
  refine w_R.go (c' := (28, [(2, .int 12), (0, .ref 2), (1, .int (Int32.ofNat q))], [], (s_up I 4 ((Int32.ofNat q).toNatClampNeg) 0, J, kR w rem, Z), 0, 0)) 5 ?_ (fun m_ x_ Q_ k_ => ⟨trivial, ⟨sh_2, (Nat.succ_ne_zero 3)⟩, trivial, trivial, ⟨_, sh_4, (n_in (a := q) (by omega) (by decide))⟩, k_⟩)
  rw [n_cl (a := q) (by omega)]
  show w_R xs Ln 88 (28, [(2, .int 12), (0, .ref 2), (1, .int (Int32.ofNat q))], [], (s_up I 4 q 0, J, kR w rem, Z), 0, 0) _
  refine w_R.go (c' := (32, [(3, .int 1), (2, .int 1), (0, .ref 2), (1, .int (Int32.ofNat q))], [], (s_up I 4 q 0, J, kR w rem, Z), 0, 0)) 4 ?_ (fun m_ x_ Q_ k_ => ⟨trivial, trivial, trivial, trivial, k_⟩)
  exact hx
theorem s88t (q : Nat) (r : Nat) (z1 : Bool) (I1 : Nat → Nat → Int32) (hr : 1 ≤ r ∧ r < 12) (h89 : w_R xs Ln 89 (0, [(0, .ref 2)], [], (I, J, kR w rem, Z), 0, 0) (fun o s => o = .inl (some (.int (s_b z1))) ∧ s = (I1, J, kR w rem, Z))) (Q : i_O → s_S → Prop) (hx : w_R xs Ln 88 (32, [(3, .int (Int32.ofNat (r + 1))), (2, .int (s_b z1)), (0, .ref 2), (1, .int (Int32.ofNat q))], [], (I1, J, kR w rem, Z), 0, 0) Q) : w_R xs Ln 88 (32, [(3, .int (Int32.ofNat r)), (2, .int (s_b true)), (0, .ref 2), (1, .int (Int32.ofNat q))], [], (I, J, kR w rem, Z), 0, 0) Q := by
  refine w_R.go (c' := (i_br .ge (Int32.ofNat r) 12 53 38, [(3, .int (Int32.ofNat r)), (2, .int (s_b true)), (0, .ref 2), (1, .int (Int32.ofNat q))], [], (I, J, kR w rem, Z), 0, 0)) 3 ?_ (fun m_ x_ Q_ k_ => ⟨trivial, trivial, trivial, k_⟩)
  rw [show i_br .ge (Int32.ofNat r) 12 53 38 = 38 from if_neg (Int32.not_le.mpr ((n_lt (a := r) (b := 12) (by omega) (by omega)).mpr (by omega)))]
  show w_R xs Ln 88 (38, [(3, .int (Int32.ofNat r)), (2, .int (s_b true)), (0, .ref 2), (1, .int (Int32.ofNat q))], [], (I, J, kR w rem, Z), 0, 0) _
  refine w_R.go (c' := (42, [(3, .int (Int32.ofNat r)), (2, .int (s_b true)), (0, .ref 2), (1, .int (Int32.ofNat q))], [], (I, J, kR w rem, Z), 0, 0)) 2 ?_ (fun m_ x_ Q_ k_ => ⟨trivial, trivial, k_⟩)
  refine w_R.go (c' := (43, [(3, .int (Int32.ofNat r)), (2, .int (s_b true)), (0, .ref 2), (1, .int (Int32.ofNat q))], [.ref 2], (I, J, kR w rem, Z), 0, 0)) 1 ?_ (fun m_ x_ Q_ k_ => ⟨trivial, k_⟩)
  refine w_R.callV (ce' := 0) (sl' := 0) (v := some (.int (s_b z1))) (σ' := (I1, J, kR w rem, Z)) (as := [.ref 2]) (rest := []) h89 ?_ rfl rfl rfl rfl rfl sh_2 rfl rfl rfl rfl
  show w_R xs Ln 88 (46, [(3, .int (Int32.ofNat r)), (2, .int (s_b true)), (0, .ref 2), (1, .int (Int32.ofNat q))], [.int (s_b z1)], (I1, J, kR w rem, Z), 0, 0) _
  refine w_R.go (c' := (50, [(3, .int (Int32.ofNat r + Int32.ofNat 1)), (2, .int (s_b z1)), (0, .ref 2), (1, .int (Int32.ofNat q))], [], (I1, J, kR w rem, Z), 0, 0)) 2 ?_ (fun m_ x_ Q_ k_ => ⟨trivial, trivial, k_⟩)
  rw [n_add r 1]
  show w_R xs Ln 88 (50, [(3, .int (Int32.ofNat (r + 1))), (2, .int (s_b z1)), (0, .ref 2), (1, .int (Int32.ofNat q))], [], (I1, J, kR w rem, Z), 0, 0) _
  refine w_R.go (c' := (32, [(3, .int (Int32.ofNat (r + 1))), (2, .int (s_b z1)), (0, .ref 2), (1, .int (Int32.ofNat q))], [], (I1, J, kR w rem, Z), 0, 0)) 1 ?_ (fun m_ x_ Q_ k_ => ⟨trivial, k_⟩)
  exact hx
theorem s88f (q : Nat) (r : Nat) (hr : 1 ≤ r ∧ r < 12) (Q : i_O → s_S → Prop) (hx : w_R xs Ln 88 (53, [(3, .int (Int32.ofNat r)), (2, .int (s_b false)), (0, .ref 2), (1, .int (Int32.ofNat q))], [], (I, J, kR w rem, Z), 0, 0) Q) : w_R xs Ln 88 (32, [(3, .int (Int32.ofNat r)), (2, .int (s_b false)), (0, .ref 2), (1, .int (Int32.ofNat q))], [], (I, J, kR w rem, Z), 0, 0) Q := by
  refine w_R.go (c' := (i_br .ge (Int32.ofNat r) 12 53 38, [(3, .int (Int32.ofNat r)), (2, .int (s_b false)), (0, .ref 2), (1, .int (Int32.ofNat q))], [], (I, J, kR w rem, Z), 0, 0)) 3 ?_ (fun m_ x_ Q_ k_ => ⟨trivial, trivial, trivial, k_⟩)
  rw [show i_br .ge (Int32.ofNat r) 12 53 38 = 38 from if_neg (Int32.not_le.mpr ((n_lt (a := r) (b := 12) (by omega) (by omega)).mpr (by omega)))]
  show w_R xs Ln 88 (38, [(3, .int (Int32.ofNat r)), (2, .int (s_b false)), (0, .ref 2), (1, .int (Int32.ofNat q))], [], (I, J, kR w rem, Z), 0, 0) _
  refine w_R.go (c' := (53, [(3, .int (Int32.ofNat r)), (2, .int (s_b false)), (0, .ref 2), (1, .int (Int32.ofNat q))], [], (I, J, kR w rem, Z), 0, 0)) 2 ?_ (fun m_ x_ Q_ k_ => ⟨trivial, trivial, k_⟩)
  exact hx
theorem s88x (q : Nat) (z : Bool)  (Q : i_O → s_S → Prop) (hx : w_R xs Ln 88 (53, [(3, .int 12), (2, .int (s_b z)), (0, .ref 2), (1, .int (Int32.ofNat q))], [], (I, J, kR w rem, Z), 0, 0) Q) : w_R xs Ln 88 (32, [(3, .int 12), (2, .int (s_b z)), (0, .ref 2), (1, .int (Int32.ofNat q))], [], (I, J, kR w rem, Z), 0, 0) Q := by
  refine w_R.go (c' := (53, [(3, .int 12), (2, .int (s_b z)), (0, .ref 2), (1, .int (Int32.ofNat q))], [], (I, J, kR w rem, Z), 0, 0)) 3 ?_ (fun m_ x_ Q_ k_ => ⟨trivial, trivial, trivial, k_⟩)
  exact hx
theorem s88r (q r : Nat) (z : Bool) : w_R xs Ln 88 (53, [(3, .int (Int32.ofNat r)), (2, .int (s_b z)), (0, .ref 2), (1, .int (Int32.ofNat q))], [], (I, J, kR w rem, Z), 0, 0) (fun o s => o = .inl none ∧ s = (I, J, kR w rem, Z)) := by
  refine w_R.ret 1 (.inl none) (I, J, kR w rem, Z) ?_ (fun x_ Q_ k_ => ⟨⟨Nat.le_of_ble_eq_true rfl, Nat.le_of_ble_eq_true rfl⟩, k_⟩)
  exact ⟨rfl, rfl⟩
theorem s113y (f : Nat) (t : Nat)  (Q : i_O → s_S → Prop) (hx : w_R xs Ln 113 (2, [(3, .int 0), (0, .ref 199), (1, .int (Int32.ofNat f)), (2, .int (Int32.ofNat t))], [], (I, J, kR w rem, Z), 0, 0) Q) : w_R xs Ln 113 (0, [(0, .ref 199), (1, .int (Int32.ofNat f)), (2, .int (Int32.ofNat t))], [], (I, J, kR w rem, Z), 0, 0) Q := by
  refine w_R.go (c' := (2, [(3, .int 0), (0, .ref 199), (1, .int (Int32.ofNat f)), (2, .int (Int32.ofNat t))], [], (I, J, kR w rem, Z), 0, 0)) 2 ?_ (fun m_ x_ Q_ k_ => ⟨trivial, trivial, k_⟩)
  exact hx
theorem s113e (f : Nat) (t : Nat) (k : Nat) (hf : f < 12) (ht : t < 12) (hk : k < 12) (hs : k = f) (Q : i_O → s_S → Prop) (hx : w_R xs Ln 113 (2, [(3, .int (Int32.ofNat (k + 1))), (0, .ref 199), (1, .int (Int32.ofNat f)), (2, .int (Int32.ofNat t))], [], (s_up I 202 k 0, J, kR w rem, Z), 0, 0) Q) : w_R xs Ln 113 (2, [(3, .int (Int32.ofNat k)), (0, .ref 199), (1, .int (Int32.ofNat f)), (2, .int (Int32.ofNat t))], [], (I, J, kR w rem, Z), 0, 0) Q := by
  refine w_R.go (c' := (i_br .ge (Int32.ofNat k) 12 31 8, [(3, .int (Int32.ofNat k)), (0, .ref 199), (1, .int (Int32.ofNat f)), (2, .int (Int32.ofNat t))], [], (I, J, kR w rem, Z), 0, 0)) 3 ?_ (fun m_ x_ Q_ k_ => ⟨trivial, trivial, trivial, k_⟩)
  rw [show i_br .ge (Int32.ofNat k) 12 31 8 = 8 from if_neg (Int32.not_le.mpr ((n_lt (a := k) (b := 12) (by omega) (by omega)).mpr (by omega)))]
  show w_R xs Ln 113 (8, [(3, .int (Int32.ofNat k)), (0, .ref 199), (1, .int (Int32.ofNat f)), (2, .int (Int32.ofNat t))], [], (I, J, kR w rem, Z), 0, 0) _
  refine w_R.go (c' := (i_br .ne (Int32.ofNat k) (Int32.ofNat f) 22 18, [(3, .int (Int32.ofNat k)), (0, .ref 199), (1, .int (Int32.ofNat f)), (2, .int (Int32.ofNat t))], [.int (Int32.ofNat k), .ref 202], (I, J, kR w rem, Z), 0, 0)) 6 ?_ (fun m_ x_ Q_ k_ => ⟨trivial, ⟨sh_199, (Nat.succ_ne_zero 201)⟩, trivial, trivial, trivial, trivial, k_⟩)
  rw [show i_br .ne (Int32.ofNat k) (Int32.ofNat f) 22 18 = 18 from if_pos ((n_eq (a := k) (b := f) (by omega) (by omega)).mpr (by omega))]
  show w_R xs Ln 113 (18, [(3, .int (Int32.ofNat k)), (0, .ref 199), (1, .int (Int32.ofNat f)), (2, .int (Int32.ofNat t))], [.int (Int32.ofNat k), .ref 202], (I, J, kR w rem, Z), 0, 0) _
  refine w_R.go (c' := (25, [(3, .int (Int32.ofNat k)), (0, .ref 199), (1, .int (Int32.ofNat f)), (2, .int (Int32.ofNat t))], [], (s_up I 202 ((Int32.ofNat k).toNatClampNeg) 0, J, kR w rem, Z), 0, 0)) 3 ?_ (fun m_ x_ Q_ k_ => ⟨trivial, trivial, ⟨_, sh_202, (n_in (a := k) (by omega) (by decide))⟩, k_⟩)
  rw [n_cl (a := k) (by omega)]
  show w_R xs Ln 113 (25, [(3, .int (Int32.ofNat k)), (0, .ref 199), (1, .int (Int32.ofNat f)), (2, .int (Int32.ofNat t))], [], (s_up I 202 k 0, J, kR w rem, Z), 0, 0) _
  refine w_R.go (c' := (28, [(3, .int (Int32.ofNat k + Int32.ofNat 1)), (0, .ref 199), (1, .int (Int32.ofNat f)), (2, .int (Int32.ofNat t))], [], (s_up I 202 k 0, J, kR w rem, Z), 0, 0)) 1 ?_ (fun m_ x_ Q_ k_ => ⟨trivial, k_⟩)
  rw [n_add k 1]
  show w_R xs Ln 113 (28, [(3, .int (Int32.ofNat (k + 1))), (0, .ref 199), (1, .int (Int32.ofNat f)), (2, .int (Int32.ofNat t))], [], (s_up I 202 k 0, J, kR w rem, Z), 0, 0) _
  refine w_R.go (c' := (2, [(3, .int (Int32.ofNat (k + 1))), (0, .ref 199), (1, .int (Int32.ofNat f)), (2, .int (Int32.ofNat t))], [], (s_up I 202 k 0, J, kR w rem, Z), 0, 0)) 1 ?_ (fun m_ x_ Q_ k_ => ⟨trivial, k_⟩)
  exact hx
theorem s113n (f : Nat) (t : Nat) (k : Nat) (hf : f < 12) (ht : t < 12) (hk : k < 12) (hs : ¬ k = f) (Q : i_O → s_S → Prop) (hx : w_R xs Ln 113 (2, [(3, .int (Int32.ofNat (k + 1))), (0, .ref 199), (1, .int (Int32.ofNat f)), (2, .int (Int32.ofNat t))], [], (s_up I 202 k 1000000, J, kR w rem, Z), 0, 0) Q) : w_R xs Ln 113 (2, [(3, .int (Int32.ofNat k)), (0, .ref 199), (1, .int (Int32.ofNat f)), (2, .int (Int32.ofNat t))], [], (I, J, kR w rem, Z), 0, 0) Q := by
  refine w_R.go (c' := (i_br .ge (Int32.ofNat k) 12 31 8, [(3, .int (Int32.ofNat k)), (0, .ref 199), (1, .int (Int32.ofNat f)), (2, .int (Int32.ofNat t))], [], (I, J, kR w rem, Z), 0, 0)) 3 ?_ (fun m_ x_ Q_ k_ => ⟨trivial, trivial, trivial, k_⟩)
  rw [show i_br .ge (Int32.ofNat k) 12 31 8 = 8 from if_neg (Int32.not_le.mpr ((n_lt (a := k) (b := 12) (by omega) (by omega)).mpr (by omega)))]
  show w_R xs Ln 113 (8, [(3, .int (Int32.ofNat k)), (0, .ref 199), (1, .int (Int32.ofNat f)), (2, .int (Int32.ofNat t))], [], (I, J, kR w rem, Z), 0, 0) _
  refine w_R.go (c' := (i_br .ne (Int32.ofNat k) (Int32.ofNat f) 22 18, [(3, .int (Int32.ofNat k)), (0, .ref 199), (1, .int (Int32.ofNat f)), (2, .int (Int32.ofNat t))], [.int (Int32.ofNat k), .ref 202], (I, J, kR w rem, Z), 0, 0)) 6 ?_ (fun m_ x_ Q_ k_ => ⟨trivial, ⟨sh_199, (Nat.succ_ne_zero 201)⟩, trivial, trivial, trivial, trivial, k_⟩)
  rw [show i_br .ne (Int32.ofNat k) (Int32.ofNat f) 22 18 = 22 from if_neg (mt (n_eq (a := k) (b := f) (by omega) (by omega)).mp (by omega))]
  show w_R xs Ln 113 (22, [(3, .int (Int32.ofNat k)), (0, .ref 199), (1, .int (Int32.ofNat f)), (2, .int (Int32.ofNat t))], [.int (Int32.ofNat k), .ref 202], (I, J, kR w rem, Z), 0, 0) _
  refine w_R.go (c' := (25, [(3, .int (Int32.ofNat k)), (0, .ref 199), (1, .int (Int32.ofNat f)), (2, .int (Int32.ofNat t))], [], (s_up I 202 ((Int32.ofNat k).toNatClampNeg) 1000000, J, kR w rem, Z), 0, 0)) 2 ?_ (fun m_ x_ Q_ k_ => ⟨trivial, ⟨_, sh_202, (n_in (a := k) (by omega) (by decide))⟩, k_⟩)
  rw [n_cl (a := k) (by omega)]
  show w_R xs Ln 113 (25, [(3, .int (Int32.ofNat k)), (0, .ref 199), (1, .int (Int32.ofNat f)), (2, .int (Int32.ofNat t))], [], (s_up I 202 k 1000000, J, kR w rem, Z), 0, 0) _
  refine w_R.go (c' := (28, [(3, .int (Int32.ofNat k + Int32.ofNat 1)), (0, .ref 199), (1, .int (Int32.ofNat f)), (2, .int (Int32.ofNat t))], [], (s_up I 202 k 1000000, J, kR w rem, Z), 0, 0)) 1 ?_ (fun m_ x_ Q_ k_ => ⟨trivial, k_⟩)
  rw [n_add k 1]
  show w_R xs Ln 113 (28, [(3, .int (Int32.ofNat (k + 1))), (0, .ref 199), (1, .int (Int32.ofNat f)), (2, .int (Int32.ofNat t))], [], (s_up I 202 k 1000000, J, kR w rem, Z), 0, 0) _
  refine w_R.go (c' := (2, [(3, .int (Int32.ofNat (k + 1))), (0, .ref 199), (1, .int (Int32.ofNat f)), (2, .int (Int32.ofNat t))], [], (s_up I 202 k 1000000, J, kR w rem, Z), 0, 0)) 1 ?_ (fun m_ x_ Q_ k_ => ⟨trivial, k_⟩)
  exact hx
theorem s113x (f : Nat) (t : Nat)  (Q : i_O → s_S → Prop) (hx : w_R xs Ln 113 (33, [(3, .int 0), (0, .ref 199), (1, .int (Int32.ofNat f)), (2, .int (Int32.ofNat t))], [], (I, J, kR w rem, Z), 0, 0) Q) : w_R xs Ln 113 (2, [(3, .int 12), (0, .ref 199), (1, .int (Int32.ofNat f)), (2, .int (Int32.ofNat t))], [], (I, J, kR w rem, Z), 0, 0) Q := by
  refine w_R.go (c' := (31, [(3, .int 12), (0, .ref 199), (1, .int (Int32.ofNat f)), (2, .int (Int32.ofNat t))], [], (I, J, kR w rem, Z), 0, 0)) 3 ?_ (fun m_ x_ Q_ k_ => ⟨trivial, trivial, trivial, k_⟩)
  refine w_R.go (c' := (33, [(3, .int 0), (0, .ref 199), (1, .int (Int32.ofNat f)), (2, .int (Int32.ofNat t))], [], (I, J, kR w rem, Z), 0, 0)) 2 ?_ (fun m_ x_ Q_ k_ => ⟨trivial, trivial, k_⟩)
  exact hx
theorem s113a (f : Nat) (t : Nat) (r : Nat) (k : Nat) (e : Nat) (x : Nat) (y : Nat) (hf : f < 12) (ht : t < 12) (hr : r < 12) (hk : k < 144) (he : I 200 k = Int32.ofNat e) (hx9 : x < 1000000000) (hx : I 202 (k / 12) = Int32.ofNat x) (hy9 : y < 1000000000) (hy : I 202 (k % 12) = Int32.ofNat y) (he0 : e = 0) (Q : i_O → s_S → Prop) (hq : w_R xs Ln 113 (42, [(4, .int (Int32.ofNat (k + 1))), (3, .int (Int32.ofNat r)), (0, .ref 199), (1, .int (Int32.ofNat f)), (2, .int (Int32.ofNat t))], [], (I, J, kR w rem, Z), 0, 0) Q) : w_R xs Ln 113 (42, [(4, .int (Int32.ofNat k)), (3, .int (Int32.ofNat r)), (0, .ref 199), (1, .int (Int32.ofNat f)), (2, .int (Int32.ofNat t))], [], (I, J, kR w rem, Z), 0, 0) Q := by
  refine w_R.go (c' := (i_br .ge (Int32.ofNat k) 144 113 50, [(4, .int (Int32.ofNat k)), (3, .int (Int32.ofNat r)), (0, .ref 199), (1, .int (Int32.ofNat f)), (2, .int (Int32.ofNat t))], [], (I, J, kR w rem, Z), 0, 0)) 3 ?_ (fun m_ x_ Q_ k_ => ⟨trivial, trivial, trivial, k_⟩)
  rw [show i_br .ge (Int32.ofNat k) 144 113 50 = 50 from if_neg (Int32.not_le.mpr ((n_lt (a := k) (b := 144) (by omega) (by omega)).mpr (by omega)))]
  show w_R xs Ln 113 (50, [(4, .int (Int32.ofNat k)), (3, .int (Int32.ofNat r)), (0, .ref 199), (1, .int (Int32.ofNat f)), (2, .int (Int32.ofNat t))], [], (I, J, kR w rem, Z), 0, 0) _
  refine w_R.go (c' := (59, [(4, .int (Int32.ofNat k)), (3, .int (Int32.ofNat r)), (0, .ref 199), (1, .int (Int32.ofNat f)), (2, .int (Int32.ofNat t))], [.int (Int32.ofNat k / Int32.ofNat 12), .ref 202], (I, J, kR w rem, Z), 0, 0)) 5 ?_ (fun m_ x_ Q_ k_ => ⟨trivial, ⟨sh_199, (Nat.succ_ne_zero 201)⟩, trivial, trivial, (by decide), k_⟩)
  rw [n_div (a := k) (b := 12) (by omega) (by decide)]
  show w_R xs Ln 113 (59, [(4, .int (Int32.ofNat k)), (3, .int (Int32.ofNat r)), (0, .ref 199), (1, .int (Int32.ofNat f)), (2, .int (Int32.ofNat t))], [.int (Int32.ofNat (k / 12)), .ref 202], (I, J, kR w rem, Z), 0, 0) _
  refine w_R.go (c' := (60, [(4, .int (Int32.ofNat k)), (3, .int (Int32.ofNat r)), (0, .ref 199), (1, .int (Int32.ofNat f)), (2, .int (Int32.ofNat t))], [.int (I 202 (Int32.ofNat (k / 12)).toNatClampNeg)], (I, J, kR w rem, Z), 0, 0)) 1 ?_ (fun m_ x_ Q_ k_ => ⟨⟨_, sh_202, (n_in (a := k / 12) (by omega) (by decide))⟩, k_⟩)
  rw [n_cl (a := k / 12) (by omega)]
  rw [hx]
  show w_R xs Ln 113 (60, [(4, .int (Int32.ofNat k)), (3, .int (Int32.ofNat r)), (0, .ref 199), (1, .int (Int32.ofNat f)), (2, .int (Int32.ofNat t))], [.int (Int32.ofNat x)], (I, J, kR w rem, Z), 0, 0) _
  refine w_R.go (c' := (67, [(4, .int (Int32.ofNat k)), (3, .int (Int32.ofNat r)), (0, .ref 199), (1, .int (Int32.ofNat f)), (2, .int (Int32.ofNat t))], [.int (I 200 (Int32.ofNat k).toNatClampNeg), .int (Int32.ofNat x)], (I, J, kR w rem, Z), 0, 0)) 4 ?_ (fun m_ x_ Q_ k_ => ⟨trivial, ⟨sh_199, (Nat.succ_ne_zero 199)⟩, trivial, ⟨_, sh_200, (n_in (a := k) (by omega) (by decide))⟩, k_⟩)
  rw [n_cl (a := k) (by omega)]
  rw [he]
  show w_R xs Ln 113 (67, [(4, .int (Int32.ofNat k)), (3, .int (Int32.ofNat r)), (0, .ref 199), (1, .int (Int32.ofNat f)), (2, .int (Int32.ofNat t))], [.int (Int32.ofNat e), .int (Int32.ofNat x)], (I, J, kR w rem, Z), 0, 0) _
  refine w_R.go (c' := (68, [(4, .int (Int32.ofNat k)), (3, .int (Int32.ofNat r)), (0, .ref 199), (1, .int (Int32.ofNat f)), (2, .int (Int32.ofNat t))], [.int (Int32.ofNat x + Int32.ofNat e)], (I, J, kR w rem, Z), 0, 0)) 1 ?_ (fun m_ x_ Q_ k_ => ⟨trivial, k_⟩)
  rw [n_add x e]
  show w_R xs Ln 113 (68, [(4, .int (Int32.ofNat k)), (3, .int (Int32.ofNat r)), (0, .ref 199), (1, .int (Int32.ofNat f)), (2, .int (Int32.ofNat t))], [.int (Int32.ofNat (x + e))], (I, J, kR w rem, Z), 0, 0) _
  refine w_R.go (c' := (77, [(5, .int (Int32.ofNat (x + e))), (4, .int (Int32.ofNat k)), (3, .int (Int32.ofNat r)), (0, .ref 199), (1, .int (Int32.ofNat f)), (2, .int (Int32.ofNat t))], [.int (I 200 (Int32.ofNat k).toNatClampNeg)], (I, J, kR w rem, Z), 0, 0)) 5 ?_ (fun m_ x_ Q_ k_ => ⟨trivial, trivial, ⟨sh_199, (Nat.succ_ne_zero 199)⟩, trivial, ⟨_, sh_200, (n_in (a := k) (by omega) (by decide))⟩, k_⟩)
  rw [n_cl (a := k) (by omega)]
  rw [he]
  show w_R xs Ln 113 (77, [(5, .int (Int32.ofNat (x + e))), (4, .int (Int32.ofNat k)), (3, .int (Int32.ofNat r)), (0, .ref 199), (1, .int (Int32.ofNat f)), (2, .int (Int32.ofNat t))], [.int (Int32.ofNat e)], (I, J, kR w rem, Z), 0, 0) _
  refine w_R.go (c' := (i_br .le (Int32.ofNat e) 0 107 80, [(5, .int (Int32.ofNat (x + e))), (4, .int (Int32.ofNat k)), (3, .int (Int32.ofNat r)), (0, .ref 199), (1, .int (Int32.ofNat f)), (2, .int (Int32.ofNat t))], [], (I, J, kR w rem, Z), 0, 0)) 1 ?_ (fun m_ x_ Q_ k_ => ⟨trivial, k_⟩)
  rw [show i_br .le (Int32.ofNat e) 0 107 80 = 107 from if_pos (Int32.not_lt.mp (mt (n_lt (a := 0) (b := e) (by omega) (by omega)).mp (by omega)))]
  show w_R xs Ln 113 (107, [(5, .int (Int32.ofNat (x + e))), (4, .int (Int32.ofNat k)), (3, .int (Int32.ofNat r)), (0, .ref 199), (1, .int (Int32.ofNat f)), (2, .int (Int32.ofNat t))], [], (I, J, kR w rem, Z), 0, 0) _
  refine w_R.go (c' := (110, [(4, .int (Int32.ofNat k + Int32.ofNat 1)), (5, .int (Int32.ofNat (x + e))), (3, .int (Int32.ofNat r)), (0, .ref 199), (1, .int (Int32.ofNat f)), (2, .int (Int32.ofNat t))], [], (I, J, kR w rem, Z), 0, 0)) 1 ?_ (fun m_ x_ Q_ k_ => ⟨trivial, k_⟩)
  rw [n_add k 1]
  show w_R xs Ln 113 (110, [(4, .int (Int32.ofNat (k + 1))), (5, .int (Int32.ofNat (x + e))), (3, .int (Int32.ofNat r)), (0, .ref 199), (1, .int (Int32.ofNat f)), (2, .int (Int32.ofNat t))], [], (I, J, kR w rem, Z), 0, 0) _
  refine w_R.go (c' := (42, [(4, .int (Int32.ofNat (k + 1))), (5, .int (Int32.ofNat (x + e))), (3, .int (Int32.ofNat r)), (0, .ref 199), (1, .int (Int32.ofNat f)), (2, .int (Int32.ofNat t))], [], (I, J, kR w rem, Z), 0, 0)) 1 ?_ (fun m_ x_ Q_ k_ => ⟨trivial, k_⟩)
  refine w_R.drop (fun i => decide (i = 5)) ?_
  exact hq
theorem s113b (f : Nat) (t : Nat) (r : Nat) (k : Nat) (e : Nat) (x : Nat) (y : Nat) (hf : f < 12) (ht : t < 12) (hr : r < 12) (hk : k < 144) (he : I 200 k = Int32.ofNat e) (hx9 : x < 1000000000) (hx : I 202 (k / 12) = Int32.ofNat x) (hy9 : y < 1000000000) (hy : I 202 (k % 12) = Int32.ofNat y) (he0 : 1 ≤ e ∧ e < 1000) (hl : ¬ x + e < y) (Q : i_O → s_S → Prop) (hq : w_R xs Ln 113 (42, [(4, .int (Int32.ofNat (k + 1))), (3, .int (Int32.ofNat r)), (0, .ref 199), (1, .int (Int32.ofNat f)), (2, .int (Int32.ofNat t))], [], (I, J, kR w rem, Z), 0, 0) Q) : w_R xs Ln 113 (42, [(4, .int (Int32.ofNat k)), (3, .int (Int32.ofNat r)), (0, .ref 199), (1, .int (Int32.ofNat f)), (2, .int (Int32.ofNat t))], [], (I, J, kR w rem, Z), 0, 0) Q := by
  refine w_R.go (c' := (i_br .ge (Int32.ofNat k) 144 113 50, [(4, .int (Int32.ofNat k)), (3, .int (Int32.ofNat r)), (0, .ref 199), (1, .int (Int32.ofNat f)), (2, .int (Int32.ofNat t))], [], (I, J, kR w rem, Z), 0, 0)) 3 ?_ (fun m_ x_ Q_ k_ => ⟨trivial, trivial, trivial, k_⟩)
  rw [show i_br .ge (Int32.ofNat k) 144 113 50 = 50 from if_neg (Int32.not_le.mpr ((n_lt (a := k) (b := 144) (by omega) (by omega)).mpr (by omega)))]
  show w_R xs Ln 113 (50, [(4, .int (Int32.ofNat k)), (3, .int (Int32.ofNat r)), (0, .ref 199), (1, .int (Int32.ofNat f)), (2, .int (Int32.ofNat t))], [], (I, J, kR w rem, Z), 0, 0) _
  refine w_R.go (c' := (59, [(4, .int (Int32.ofNat k)), (3, .int (Int32.ofNat r)), (0, .ref 199), (1, .int (Int32.ofNat f)), (2, .int (Int32.ofNat t))], [.int (Int32.ofNat k / Int32.ofNat 12), .ref 202], (I, J, kR w rem, Z), 0, 0)) 5 ?_ (fun m_ x_ Q_ k_ => ⟨trivial, ⟨sh_199, (Nat.succ_ne_zero 201)⟩, trivial, trivial, (by decide), k_⟩)
  rw [n_div (a := k) (b := 12) (by omega) (by decide)]
  show w_R xs Ln 113 (59, [(4, .int (Int32.ofNat k)), (3, .int (Int32.ofNat r)), (0, .ref 199), (1, .int (Int32.ofNat f)), (2, .int (Int32.ofNat t))], [.int (Int32.ofNat (k / 12)), .ref 202], (I, J, kR w rem, Z), 0, 0) _
  refine w_R.go (c' := (60, [(4, .int (Int32.ofNat k)), (3, .int (Int32.ofNat r)), (0, .ref 199), (1, .int (Int32.ofNat f)), (2, .int (Int32.ofNat t))], [.int (I 202 (Int32.ofNat (k / 12)).toNatClampNeg)], (I, J, kR w rem, Z), 0, 0)) 1 ?_ (fun m_ x_ Q_ k_ => ⟨⟨_, sh_202, (n_in (a := k / 12) (by omega) (by decide))⟩, k_⟩)
  rw [n_cl (a := k / 12) (by omega)]
  rw [hx]
  show w_R xs Ln 113 (60, [(4, .int (Int32.ofNat k)), (3, .int (Int32.ofNat r)), (0, .ref 199), (1, .int (Int32.ofNat f)), (2, .int (Int32.ofNat t))], [.int (Int32.ofNat x)], (I, J, kR w rem, Z), 0, 0) _
  refine w_R.go (c' := (67, [(4, .int (Int32.ofNat k)), (3, .int (Int32.ofNat r)), (0, .ref 199), (1, .int (Int32.ofNat f)), (2, .int (Int32.ofNat t))], [.int (I 200 (Int32.ofNat k).toNatClampNeg), .int (Int32.ofNat x)], (I, J, kR w rem, Z), 0, 0)) 4 ?_ (fun m_ x_ Q_ k_ => ⟨trivial, ⟨sh_199, (Nat.succ_ne_zero 199)⟩, trivial, ⟨_, sh_200, (n_in (a := k) (by omega) (by decide))⟩, k_⟩)
  rw [n_cl (a := k) (by omega)]
  rw [he]
  show w_R xs Ln 113 (67, [(4, .int (Int32.ofNat k)), (3, .int (Int32.ofNat r)), (0, .ref 199), (1, .int (Int32.ofNat f)), (2, .int (Int32.ofNat t))], [.int (Int32.ofNat e), .int (Int32.ofNat x)], (I, J, kR w rem, Z), 0, 0) _
  refine w_R.go (c' := (68, [(4, .int (Int32.ofNat k)), (3, .int (Int32.ofNat r)), (0, .ref 199), (1, .int (Int32.ofNat f)), (2, .int (Int32.ofNat t))], [.int (Int32.ofNat x + Int32.ofNat e)], (I, J, kR w rem, Z), 0, 0)) 1 ?_ (fun m_ x_ Q_ k_ => ⟨trivial, k_⟩)
  rw [n_add x e]
  show w_R xs Ln 113 (68, [(4, .int (Int32.ofNat k)), (3, .int (Int32.ofNat r)), (0, .ref 199), (1, .int (Int32.ofNat f)), (2, .int (Int32.ofNat t))], [.int (Int32.ofNat (x + e))], (I, J, kR w rem, Z), 0, 0) _
  refine w_R.go (c' := (77, [(5, .int (Int32.ofNat (x + e))), (4, .int (Int32.ofNat k)), (3, .int (Int32.ofNat r)), (0, .ref 199), (1, .int (Int32.ofNat f)), (2, .int (Int32.ofNat t))], [.int (I 200 (Int32.ofNat k).toNatClampNeg)], (I, J, kR w rem, Z), 0, 0)) 5 ?_ (fun m_ x_ Q_ k_ => ⟨trivial, trivial, ⟨sh_199, (Nat.succ_ne_zero 199)⟩, trivial, ⟨_, sh_200, (n_in (a := k) (by omega) (by decide))⟩, k_⟩)
  rw [n_cl (a := k) (by omega)]
  rw [he]
  show w_R xs Ln 113 (77, [(5, .int (Int32.ofNat (x + e))), (4, .int (Int32.ofNat k)), (3, .int (Int32.ofNat r)), (0, .ref 199), (1, .int (Int32.ofNat f)), (2, .int (Int32.ofNat t))], [.int (Int32.ofNat e)], (I, J, kR w rem, Z), 0, 0) _
  refine w_R.go (c' := (i_br .le (Int32.ofNat e) 0 107 80, [(5, .int (Int32.ofNat (x + e))), (4, .int (Int32.ofNat k)), (3, .int (Int32.ofNat r)), (0, .ref 199), (1, .int (Int32.ofNat f)), (2, .int (Int32.ofNat t))], [], (I, J, kR w rem, Z), 0, 0)) 1 ?_ (fun m_ x_ Q_ k_ => ⟨trivial, k_⟩)
  rw [show i_br .le (Int32.ofNat e) 0 107 80 = 80 from if_neg (Int32.not_le.mpr ((n_lt (a := 0) (b := e) (by omega) (by omega)).mpr (by omega)))]
  show w_R xs Ln 113 (80, [(5, .int (Int32.ofNat (x + e))), (4, .int (Int32.ofNat k)), (3, .int (Int32.ofNat r)), (0, .ref 199), (1, .int (Int32.ofNat f)), (2, .int (Int32.ofNat t))], [], (I, J, kR w rem, Z), 0, 0) _
  refine w_R.go (c' := (91, [(5, .int (Int32.ofNat (x + e))), (4, .int (Int32.ofNat k)), (3, .int (Int32.ofNat r)), (0, .ref 199), (1, .int (Int32.ofNat f)), (2, .int (Int32.ofNat t))], [.int (Int32.ofNat k - Int32.ofNat k / Int32.ofNat 12 * Int32.ofNat 12), .ref 202, .int (Int32.ofNat (x + e))], (I, J, kR w rem, Z), 0, 0)) 6 ?_ (fun m_ x_ Q_ k_ => ⟨trivial, trivial, ⟨sh_199, (Nat.succ_ne_zero 201)⟩, trivial, trivial, (by decide), k_⟩)
  rw [n_rem (a := k) (b := 12) (by omega) (by decide)]
  show w_R xs Ln 113 (91, [(5, .int (Int32.ofNat (x + e))), (4, .int (Int32.ofNat k)), (3, .int (Int32.ofNat r)), (0, .ref 199), (1, .int (Int32.ofNat f)), (2, .int (Int32.ofNat t))], [.int (Int32.ofNat (k % 12)), .ref 202, .int (Int32.ofNat (x + e))], (I, J, kR w rem, Z), 0, 0) _
  refine w_R.go (c' := (92, [(5, .int (Int32.ofNat (x + e))), (4, .int (Int32.ofNat k)), (3, .int (Int32.ofNat r)), (0, .ref 199), (1, .int (Int32.ofNat f)), (2, .int (Int32.ofNat t))], [.int (I 202 (Int32.ofNat (k % 12)).toNatClampNeg), .int (Int32.ofNat (x + e))], (I, J, kR w rem, Z), 0, 0)) 1 ?_ (fun m_ x_ Q_ k_ => ⟨⟨_, sh_202, (n_in (a := k % 12) (by omega) (by decide))⟩, k_⟩)
  rw [n_cl (a := k % 12) (by omega)]
  rw [hy]
  show w_R xs Ln 113 (92, [(5, .int (Int32.ofNat (x + e))), (4, .int (Int32.ofNat k)), (3, .int (Int32.ofNat r)), (0, .ref 199), (1, .int (Int32.ofNat f)), (2, .int (Int32.ofNat t))], [.int (Int32.ofNat y), .int (Int32.ofNat (x + e))], (I, J, kR w rem, Z), 0, 0) _
  refine w_R.go (c' := (i_br .ge (Int32.ofNat (x + e)) (Int32.ofNat y) 107 95, [(5, .int (Int32.ofNat (x + e))), (4, .int (Int32.ofNat k)), (3, .int (Int32.ofNat r)), (0, .ref 199), (1, .int (Int32.ofNat f)), (2, .int (Int32.ofNat t))], [], (I, J, kR w rem, Z), 0, 0)) 1 ?_ (fun m_ x_ Q_ k_ => ⟨trivial, k_⟩)
  rw [show i_br .ge (Int32.ofNat (x + e)) (Int32.ofNat y) 107 95 = 107 from if_pos (Int32.not_lt.mp (mt (n_lt (a := x + e) (b := y) (by omega) (by omega)).mp (by omega)))]
  show w_R xs Ln 113 (107, [(5, .int (Int32.ofNat (x + e))), (4, .int (Int32.ofNat k)), (3, .int (Int32.ofNat r)), (0, .ref 199), (1, .int (Int32.ofNat f)), (2, .int (Int32.ofNat t))], [], (I, J, kR w rem, Z), 0, 0) _
  refine w_R.go (c' := (110, [(4, .int (Int32.ofNat k + Int32.ofNat 1)), (5, .int (Int32.ofNat (x + e))), (3, .int (Int32.ofNat r)), (0, .ref 199), (1, .int (Int32.ofNat f)), (2, .int (Int32.ofNat t))], [], (I, J, kR w rem, Z), 0, 0)) 1 ?_ (fun m_ x_ Q_ k_ => ⟨trivial, k_⟩)
  rw [n_add k 1]
  show w_R xs Ln 113 (110, [(4, .int (Int32.ofNat (k + 1))), (5, .int (Int32.ofNat (x + e))), (3, .int (Int32.ofNat r)), (0, .ref 199), (1, .int (Int32.ofNat f)), (2, .int (Int32.ofNat t))], [], (I, J, kR w rem, Z), 0, 0) _
  refine w_R.go (c' := (42, [(4, .int (Int32.ofNat (k + 1))), (5, .int (Int32.ofNat (x + e))), (3, .int (Int32.ofNat r)), (0, .ref 199), (1, .int (Int32.ofNat f)), (2, .int (Int32.ofNat t))], [], (I, J, kR w rem, Z), 0, 0)) 1 ?_ (fun m_ x_ Q_ k_ => ⟨trivial, k_⟩)
  refine w_R.drop (fun i => decide (i = 5)) ?_
  exact hq
theorem s113c (f : Nat) (t : Nat) (r : Nat) (k : Nat) (e : Nat) (x : Nat) (y : Nat) (hf : f < 12) (ht : t < 12) (hr : r < 12) (hk : k < 144) (he : I 200 k = Int32.ofNat e) (hx9 : x < 1000000000) (hx : I 202 (k / 12) = Int32.ofNat x) (hy9 : y < 1000000000) (hy : I 202 (k % 12) = Int32.ofNat y) (he0 : 1 ≤ e ∧ e < 1000) (hl : x + e < y) (Q : i_O → s_S → Prop) (hq : w_R xs Ln 113 (42, [(4, .int (Int32.ofNat (k + 1))), (3, .int (Int32.ofNat r)), (0, .ref 199), (1, .int (Int32.ofNat f)), (2, .int (Int32.ofNat t))], [], (s_up I 202 (k % 12) (Int32.ofNat (x + e)), J, kR w rem, Z), 0, 0) Q) : w_R xs Ln 113 (42, [(4, .int (Int32.ofNat k)), (3, .int (Int32.ofNat r)), (0, .ref 199), (1, .int (Int32.ofNat f)), (2, .int (Int32.ofNat t))], [], (I, J, kR w rem, Z), 0, 0) Q := by
  refine w_R.go (c' := (i_br .ge (Int32.ofNat k) 144 113 50, [(4, .int (Int32.ofNat k)), (3, .int (Int32.ofNat r)), (0, .ref 199), (1, .int (Int32.ofNat f)), (2, .int (Int32.ofNat t))], [], (I, J, kR w rem, Z), 0, 0)) 3 ?_ (fun m_ x_ Q_ k_ => ⟨trivial, trivial, trivial, k_⟩)
  rw [show i_br .ge (Int32.ofNat k) 144 113 50 = 50 from if_neg (Int32.not_le.mpr ((n_lt (a := k) (b := 144) (by omega) (by omega)).mpr (by omega)))]
  show w_R xs Ln 113 (50, [(4, .int (Int32.ofNat k)), (3, .int (Int32.ofNat r)), (0, .ref 199), (1, .int (Int32.ofNat f)), (2, .int (Int32.ofNat t))], [], (I, J, kR w rem, Z), 0, 0) _
  refine w_R.go (c' := (59, [(4, .int (Int32.ofNat k)), (3, .int (Int32.ofNat r)), (0, .ref 199), (1, .int (Int32.ofNat f)), (2, .int (Int32.ofNat t))], [.int (Int32.ofNat k / Int32.ofNat 12), .ref 202], (I, J, kR w rem, Z), 0, 0)) 5 ?_ (fun m_ x_ Q_ k_ => ⟨trivial, ⟨sh_199, (Nat.succ_ne_zero 201)⟩, trivial, trivial, (by decide), k_⟩)
  rw [n_div (a := k) (b := 12) (by omega) (by decide)]
  show w_R xs Ln 113 (59, [(4, .int (Int32.ofNat k)), (3, .int (Int32.ofNat r)), (0, .ref 199), (1, .int (Int32.ofNat f)), (2, .int (Int32.ofNat t))], [.int (Int32.ofNat (k / 12)), .ref 202], (I, J, kR w rem, Z), 0, 0) _
  refine w_R.go (c' := (60, [(4, .int (Int32.ofNat k)), (3, .int (Int32.ofNat r)), (0, .ref 199), (1, .int (Int32.ofNat f)), (2, .int (Int32.ofNat t))], [.int (I 202 (Int32.ofNat (k / 12)).toNatClampNeg)], (I, J, kR w rem, Z), 0, 0)) 1 ?_ (fun m_ x_ Q_ k_ => ⟨⟨_, sh_202, (n_in (a := k / 12) (by omega) (by decide))⟩, k_⟩)
  rw [n_cl (a := k / 12) (by omega)]
  rw [hx]
  show w_R xs Ln 113 (60, [(4, .int (Int32.ofNat k)), (3, .int (Int32.ofNat r)), (0, .ref 199), (1, .int (Int32.ofNat f)), (2, .int (Int32.ofNat t))], [.int (Int32.ofNat x)], (I, J, kR w rem, Z), 0, 0) _
  refine w_R.go (c' := (67, [(4, .int (Int32.ofNat k)), (3, .int (Int32.ofNat r)), (0, .ref 199), (1, .int (Int32.ofNat f)), (2, .int (Int32.ofNat t))], [.int (I 200 (Int32.ofNat k).toNatClampNeg), .int (Int32.ofNat x)], (I, J, kR w rem, Z), 0, 0)) 4 ?_ (fun m_ x_ Q_ k_ => ⟨trivial, ⟨sh_199, (Nat.succ_ne_zero 199)⟩, trivial, ⟨_, sh_200, (n_in (a := k) (by omega) (by decide))⟩, k_⟩)
  rw [n_cl (a := k) (by omega)]
  rw [he]
  show w_R xs Ln 113 (67, [(4, .int (Int32.ofNat k)), (3, .int (Int32.ofNat r)), (0, .ref 199), (1, .int (Int32.ofNat f)), (2, .int (Int32.ofNat t))], [.int (Int32.ofNat e), .int (Int32.ofNat x)], (I, J, kR w rem, Z), 0, 0) _
  refine w_R.go (c' := (68, [(4, .int (Int32.ofNat k)), (3, .int (Int32.ofNat r)), (0, .ref 199), (1, .int (Int32.ofNat f)), (2, .int (Int32.ofNat t))], [.int (Int32.ofNat x + Int32.ofNat e)], (I, J, kR w rem, Z), 0, 0)) 1 ?_ (fun m_ x_ Q_ k_ => ⟨trivial, k_⟩)
  rw [n_add x e]
  show w_R xs Ln 113 (68, [(4, .int (Int32.ofNat k)), (3, .int (Int32.ofNat r)), (0, .ref 199), (1, .int (Int32.ofNat f)), (2, .int (Int32.ofNat t))], [.int (Int32.ofNat (x + e))], (I, J, kR w rem, Z), 0, 0) _
  refine w_R.go (c' := (77, [(5, .int (Int32.ofNat (x + e))), (4, .int (Int32.ofNat k)), (3, .int (Int32.ofNat r)), (0, .ref 199), (1, .int (Int32.ofNat f)), (2, .int (Int32.ofNat t))], [.int (I 200 (Int32.ofNat k).toNatClampNeg)], (I, J, kR w rem, Z), 0, 0)) 5 ?_ (fun m_ x_ Q_ k_ => ⟨trivial, trivial, ⟨sh_199, (Nat.succ_ne_zero 199)⟩, trivial, ⟨_, sh_200, (n_in (a := k) (by omega) (by decide))⟩, k_⟩)
  rw [n_cl (a := k) (by omega)]
  rw [he]
  show w_R xs Ln 113 (77, [(5, .int (Int32.ofNat (x + e))), (4, .int (Int32.ofNat k)), (3, .int (Int32.ofNat r)), (0, .ref 199), (1, .int (Int32.ofNat f)), (2, .int (Int32.ofNat t))], [.int (Int32.ofNat e)], (I, J, kR w rem, Z), 0, 0) _
  refine w_R.go (c' := (i_br .le (Int32.ofNat e) 0 107 80, [(5, .int (Int32.ofNat (x + e))), (4, .int (Int32.ofNat k)), (3, .int (Int32.ofNat r)), (0, .ref 199), (1, .int (Int32.ofNat f)), (2, .int (Int32.ofNat t))], [], (I, J, kR w rem, Z), 0, 0)) 1 ?_ (fun m_ x_ Q_ k_ => ⟨trivial, k_⟩)
  rw [show i_br .le (Int32.ofNat e) 0 107 80 = 80 from if_neg (Int32.not_le.mpr ((n_lt (a := 0) (b := e) (by omega) (by omega)).mpr (by omega)))]
  show w_R xs Ln 113 (80, [(5, .int (Int32.ofNat (x + e))), (4, .int (Int32.ofNat k)), (3, .int (Int32.ofNat r)), (0, .ref 199), (1, .int (Int32.ofNat f)), (2, .int (Int32.ofNat t))], [], (I, J, kR w rem, Z), 0, 0) _
  refine w_R.go (c' := (91, [(5, .int (Int32.ofNat (x + e))), (4, .int (Int32.ofNat k)), (3, .int (Int32.ofNat r)), (0, .ref 199), (1, .int (Int32.ofNat f)), (2, .int (Int32.ofNat t))], [.int (Int32.ofNat k - Int32.ofNat k / Int32.ofNat 12 * Int32.ofNat 12), .ref 202, .int (Int32.ofNat (x + e))], (I, J, kR w rem, Z), 0, 0)) 6 ?_ (fun m_ x_ Q_ k_ => ⟨trivial, trivial, ⟨sh_199, (Nat.succ_ne_zero 201)⟩, trivial, trivial, (by decide), k_⟩)
  rw [n_rem (a := k) (b := 12) (by omega) (by decide)]
  show w_R xs Ln 113 (91, [(5, .int (Int32.ofNat (x + e))), (4, .int (Int32.ofNat k)), (3, .int (Int32.ofNat r)), (0, .ref 199), (1, .int (Int32.ofNat f)), (2, .int (Int32.ofNat t))], [.int (Int32.ofNat (k % 12)), .ref 202, .int (Int32.ofNat (x + e))], (I, J, kR w rem, Z), 0, 0) _
  refine w_R.go (c' := (92, [(5, .int (Int32.ofNat (x + e))), (4, .int (Int32.ofNat k)), (3, .int (Int32.ofNat r)), (0, .ref 199), (1, .int (Int32.ofNat f)), (2, .int (Int32.ofNat t))], [.int (I 202 (Int32.ofNat (k % 12)).toNatClampNeg), .int (Int32.ofNat (x + e))], (I, J, kR w rem, Z), 0, 0)) 1 ?_ (fun m_ x_ Q_ k_ => ⟨⟨_, sh_202, (n_in (a := k % 12) (by omega) (by decide))⟩, k_⟩)
  rw [n_cl (a := k % 12) (by omega)]
  rw [hy]
  show w_R xs Ln 113 (92, [(5, .int (Int32.ofNat (x + e))), (4, .int (Int32.ofNat k)), (3, .int (Int32.ofNat r)), (0, .ref 199), (1, .int (Int32.ofNat f)), (2, .int (Int32.ofNat t))], [.int (Int32.ofNat y), .int (Int32.ofNat (x + e))], (I, J, kR w rem, Z), 0, 0) _
  refine w_R.go (c' := (i_br .ge (Int32.ofNat (x + e)) (Int32.ofNat y) 107 95, [(5, .int (Int32.ofNat (x + e))), (4, .int (Int32.ofNat k)), (3, .int (Int32.ofNat r)), (0, .ref 199), (1, .int (Int32.ofNat f)), (2, .int (Int32.ofNat t))], [], (I, J, kR w rem, Z), 0, 0)) 1 ?_ (fun m_ x_ Q_ k_ => ⟨trivial, k_⟩)
  rw [show i_br .ge (Int32.ofNat (x + e)) (Int32.ofNat y) 107 95 = 95 from if_neg (Int32.not_le.mpr ((n_lt (a := x + e) (b := y) (by omega) (by omega)).mpr (by omega)))]
  show w_R xs Ln 113 (95, [(5, .int (Int32.ofNat (x + e))), (4, .int (Int32.ofNat k)), (3, .int (Int32.ofNat r)), (0, .ref 199), (1, .int (Int32.ofNat f)), (2, .int (Int32.ofNat t))], [], (I, J, kR w rem, Z), 0, 0) _
  refine w_R.go (c' := (104, [(5, .int (Int32.ofNat (x + e))), (4, .int (Int32.ofNat k)), (3, .int (Int32.ofNat r)), (0, .ref 199), (1, .int (Int32.ofNat f)), (2, .int (Int32.ofNat t))], [.int (Int32.ofNat k - Int32.ofNat k / Int32.ofNat 12 * Int32.ofNat 12), .ref 202], (I, J, kR w rem, Z), 0, 0)) 5 ?_ (fun m_ x_ Q_ k_ => ⟨trivial, ⟨sh_199, (Nat.succ_ne_zero 201)⟩, trivial, trivial, (by decide), k_⟩)
  rw [n_rem (a := k) (b := 12) (by omega) (by decide)]
  show w_R xs Ln 113 (104, [(5, .int (Int32.ofNat (x + e))), (4, .int (Int32.ofNat k)), (3, .int (Int32.ofNat r)), (0, .ref 199), (1, .int (Int32.ofNat f)), (2, .int (Int32.ofNat t))], [.int (Int32.ofNat (k % 12)), .ref 202], (I, J, kR w rem, Z), 0, 0) _
  refine w_R.go (c' := (107, [(5, .int (Int32.ofNat (x + e))), (4, .int (Int32.ofNat k)), (3, .int (Int32.ofNat r)), (0, .ref 199), (1, .int (Int32.ofNat f)), (2, .int (Int32.ofNat t))], [], (s_up I 202 ((Int32.ofNat (k % 12)).toNatClampNeg) (Int32.ofNat (x + e)), J, kR w rem, Z), 0, 0)) 2 ?_ (fun m_ x_ Q_ k_ => ⟨trivial, ⟨_, sh_202, (n_in (a := k % 12) (by omega) (by decide))⟩, k_⟩)
  rw [n_cl (a := k % 12) (by omega)]
  show w_R xs Ln 113 (107, [(5, .int (Int32.ofNat (x + e))), (4, .int (Int32.ofNat k)), (3, .int (Int32.ofNat r)), (0, .ref 199), (1, .int (Int32.ofNat f)), (2, .int (Int32.ofNat t))], [], (s_up I 202 (k % 12) (Int32.ofNat (x + e)), J, kR w rem, Z), 0, 0) _
  refine w_R.go (c' := (110, [(4, .int (Int32.ofNat k + Int32.ofNat 1)), (5, .int (Int32.ofNat (x + e))), (3, .int (Int32.ofNat r)), (0, .ref 199), (1, .int (Int32.ofNat f)), (2, .int (Int32.ofNat t))], [], (s_up I 202 (k % 12) (Int32.ofNat (x + e)), J, kR w rem, Z), 0, 0)) 1 ?_ (fun m_ x_ Q_ k_ => ⟨trivial, k_⟩)
  rw [n_add k 1]
  show w_R xs Ln 113 (110, [(4, .int (Int32.ofNat (k + 1))), (5, .int (Int32.ofNat (x + e))), (3, .int (Int32.ofNat r)), (0, .ref 199), (1, .int (Int32.ofNat f)), (2, .int (Int32.ofNat t))], [], (s_up I 202 (k % 12) (Int32.ofNat (x + e)), J, kR w rem, Z), 0, 0) _
  refine w_R.go (c' := (42, [(4, .int (Int32.ofNat (k + 1))), (5, .int (Int32.ofNat (x + e))), (3, .int (Int32.ofNat r)), (0, .ref 199), (1, .int (Int32.ofNat f)), (2, .int (Int32.ofNat t))], [], (s_up I 202 (k % 12) (Int32.ofNat (x + e)), J, kR w rem, Z), 0, 0)) 1 ?_ (fun m_ x_ Q_ k_ => ⟨trivial, k_⟩)
  refine w_R.drop (fun i => decide (i = 5)) ?_
  exact hq
theorem s113i (f : Nat) (t : Nat) (r : Nat) (hr : r < 12) (Q : i_O → s_S → Prop) (hx : w_R xs Ln 113 (42, [(4, .int 0), (3, .int (Int32.ofNat r)), (0, .ref 199), (1, .int (Int32.ofNat f)), (2, .int (Int32.ofNat t))], [], (I, J, kR w rem, Z), 0, 0) Q) : w_R xs Ln 113 (33, [(3, .int (Int32.ofNat r)), (0, .ref 199), (1, .int (Int32.ofNat f)), (2, .int (Int32.ofNat t))], [], (I, J, kR w rem, Z), 0, 0) Q := by
  refine w_R.go (c' := (i_br .ge (Int32.ofNat r) 12 119 39, [(3, .int (Int32.ofNat r)), (0, .ref 199), (1, .int (Int32.ofNat f)), (2, .int (Int32.ofNat t))], [], (I, J, kR w rem, Z), 0, 0)) 3 ?_ (fun m_ x_ Q_ k_ => ⟨trivial, trivial, trivial, k_⟩)
  rw [show i_br .ge (Int32.ofNat r) 12 119 39 = 39 from if_neg (Int32.not_le.mpr ((n_lt (a := r) (b := 12) (by omega) (by omega)).mpr (by omega)))]
  show w_R xs Ln 113 (39, [(3, .int (Int32.ofNat r)), (0, .ref 199), (1, .int (Int32.ofNat f)), (2, .int (Int32.ofNat t))], [], (I, J, kR w rem, Z), 0, 0) _
  refine w_R.go (c' := (42, [(4, .int 0), (3, .int (Int32.ofNat r)), (0, .ref 199), (1, .int (Int32.ofNat f)), (2, .int (Int32.ofNat t))], [], (I, J, kR w rem, Z), 0, 0)) 2 ?_ (fun m_ x_ Q_ k_ => ⟨trivial, trivial, k_⟩)
  exact hx
theorem s113j (f : Nat) (t : Nat) (r : Nat) (hr : r < 12) (Q : i_O → s_S → Prop) (hx : w_R xs Ln 113 (33, [(3, .int (Int32.ofNat (r + 1))), (0, .ref 199), (1, .int (Int32.ofNat f)), (2, .int (Int32.ofNat t))], [], (I, J, kR w rem, Z), 0, 0) Q) : w_R xs Ln 113 (42, [(4, .int 144), (3, .int (Int32.ofNat r)), (0, .ref 199), (1, .int (Int32.ofNat f)), (2, .int (Int32.ofNat t))], [], (I, J, kR w rem, Z), 0, 0) Q := by
  refine w_R.go (c' := (113, [(4, .int 144), (3, .int (Int32.ofNat r)), (0, .ref 199), (1, .int (Int32.ofNat f)), (2, .int (Int32.ofNat t))], [], (I, J, kR w rem, Z), 0, 0)) 3 ?_ (fun m_ x_ Q_ k_ => ⟨trivial, trivial, trivial, k_⟩)
  refine w_R.go (c' := (116, [(3, .int (Int32.ofNat r + Int32.ofNat 1)), (4, .int 144), (0, .ref 199), (1, .int (Int32.ofNat f)), (2, .int (Int32.ofNat t))], [], (I, J, kR w rem, Z), 0, 0)) 1 ?_ (fun m_ x_ Q_ k_ => ⟨trivial, k_⟩)
  rw [n_add r 1]
  show w_R xs Ln 113 (116, [(3, .int (Int32.ofNat (r + 1))), (4, .int 144), (0, .ref 199), (1, .int (Int32.ofNat f)), (2, .int (Int32.ofNat t))], [], (I, J, kR w rem, Z), 0, 0) _
  refine w_R.go (c' := (33, [(3, .int (Int32.ofNat (r + 1))), (4, .int 144), (0, .ref 199), (1, .int (Int32.ofNat f)), (2, .int (Int32.ofNat t))], [], (I, J, kR w rem, Z), 0, 0)) 1 ?_ (fun m_ x_ Q_ k_ => ⟨trivial, k_⟩)
  refine w_R.drop (fun i => decide (i = 4)) ?_
  exact hx
theorem s113F (f : Nat) (t : Nat) (ht : t < 12) (hy : I 202 t = Int32.ofNat 1000000) : w_R xs Ln 113 (33, [(3, .int 12), (0, .ref 199), (1, .int (Int32.ofNat f)), (2, .int (Int32.ofNat t))], [], (I, J, kR w rem, Z), 0, 0) (fun o s => o = .inl (some (.int (-1))) ∧ s = (I, J, kR w rem, Z)) := by
  refine w_R.go (c' := (119, [(3, .int 12), (0, .ref 199), (1, .int (Int32.ofNat f)), (2, .int (Int32.ofNat t))], [], (I, J, kR w rem, Z), 0, 0)) 3 ?_ (fun m_ x_ Q_ k_ => ⟨trivial, trivial, trivial, k_⟩)
  refine w_R.go (c' := (125, [(3, .int 12), (0, .ref 199), (1, .int (Int32.ofNat f)), (2, .int (Int32.ofNat t))], [.int (I 202 (Int32.ofNat t).toNatClampNeg)], (I, J, kR w rem, Z), 0, 0)) 4 ?_ (fun m_ x_ Q_ k_ => ⟨trivial, ⟨sh_199, (Nat.succ_ne_zero 201)⟩, trivial, ⟨_, sh_202, (n_in (a := t) (by omega) (by decide))⟩, k_⟩)
  rw [n_cl (a := t) (by omega)]
  rw [hy]
  show w_R xs Ln 113 (125, [(3, .int 12), (0, .ref 199), (1, .int (Int32.ofNat f)), (2, .int (Int32.ofNat t))], [.int (Int32.ofNat 1000000)], (I, J, kR w rem, Z), 0, 0) _
  refine w_R.go (c' := (130, [(3, .int 12), (0, .ref 199), (1, .int (Int32.ofNat f)), (2, .int (Int32.ofNat t))], [], (I, J, kR w rem, Z), 0, 0)) 2 ?_ (fun m_ x_ Q_ k_ => ⟨trivial, trivial, k_⟩)
  refine w_R.ret 3 (.inl (some (.int (-1)))) (I, J, kR w rem, Z) ?_ (fun x_ Q_ k_ => ⟨trivial, trivial, trivial, ⟨Nat.le_of_ble_eq_true rfl, Nat.le_of_ble_eq_true rfl⟩, k_⟩)
  exact ⟨rfl, rfl⟩
theorem s113R (f : Nat) (t : Nat) (y : Nat) (ht : t < 12) (hy : I 202 t = Int32.ofNat y) (hy0 : y < 20000) : w_R xs Ln 113 (33, [(3, .int 12), (0, .ref 199), (1, .int (Int32.ofNat f)), (2, .int (Int32.ofNat t))], [], (I, J, kR w rem, Z), 0, 0) (fun o s => o = .inl (some (.int (Int32.ofNat y))) ∧ s = (I, J, kR w rem, Z)) := by
  refine w_R.go (c' := (119, [(3, .int 12), (0, .ref 199), (1, .int (Int32.ofNat f)), (2, .int (Int32.ofNat t))], [], (I, J, kR w rem, Z), 0, 0)) 3 ?_ (fun m_ x_ Q_ k_ => ⟨trivial, trivial, trivial, k_⟩)
  refine w_R.go (c' := (125, [(3, .int 12), (0, .ref 199), (1, .int (Int32.ofNat f)), (2, .int (Int32.ofNat t))], [.int (I 202 (Int32.ofNat t).toNatClampNeg)], (I, J, kR w rem, Z), 0, 0)) 4 ?_ (fun m_ x_ Q_ k_ => ⟨trivial, ⟨sh_199, (Nat.succ_ne_zero 201)⟩, trivial, ⟨_, sh_202, (n_in (a := t) (by omega) (by decide))⟩, k_⟩)
  rw [n_cl (a := t) (by omega)]
  rw [hy]
  show w_R xs Ln 113 (125, [(3, .int 12), (0, .ref 199), (1, .int (Int32.ofNat f)), (2, .int (Int32.ofNat t))], [.int (Int32.ofNat y)], (I, J, kR w rem, Z), 0, 0) _
  refine w_R.go (c' := (i_br .ne (Int32.ofNat y) 1000000 134 130, [(3, .int 12), (0, .ref 199), (1, .int (Int32.ofNat f)), (2, .int (Int32.ofNat t))], [], (I, J, kR w rem, Z), 0, 0)) 2 ?_ (fun m_ x_ Q_ k_ => ⟨trivial, trivial, k_⟩)
  rw [show i_br .ne (Int32.ofNat y) 1000000 134 130 = 134 from if_neg (mt (n_eq (a := y) (b := 1000000) (by omega) (by omega)).mp (by omega))]
  show w_R xs Ln 113 (134, [(3, .int 12), (0, .ref 199), (1, .int (Int32.ofNat f)), (2, .int (Int32.ofNat t))], [], (I, J, kR w rem, Z), 0, 0) _
  refine w_R.go (c' := (140, [(3, .int 12), (0, .ref 199), (1, .int (Int32.ofNat f)), (2, .int (Int32.ofNat t))], [.int (I 202 (Int32.ofNat t).toNatClampNeg)], (I, J, kR w rem, Z), 0, 0)) 4 ?_ (fun m_ x_ Q_ k_ => ⟨trivial, ⟨sh_199, (Nat.succ_ne_zero 201)⟩, trivial, ⟨_, sh_202, (n_in (a := t) (by omega) (by decide))⟩, k_⟩)
  rw [n_cl (a := t) (by omega)]
  rw [hy]
  show w_R xs Ln 113 (140, [(3, .int 12), (0, .ref 199), (1, .int (Int32.ofNat f)), (2, .int (Int32.ofNat t))], [.int (Int32.ofNat y)], (I, J, kR w rem, Z), 0, 0) _
  refine w_R.ret 1 (.inl (some (.int (Int32.ofNat y)))) (I, J, kR w rem, Z) ?_ (fun x_ Q_ k_ => ⟨trivial, ⟨Nat.le_of_ble_eq_true rfl, Nat.le_of_ble_eq_true rfl⟩, k_⟩)
  exact ⟨rfl, rfl⟩
end RunsP
