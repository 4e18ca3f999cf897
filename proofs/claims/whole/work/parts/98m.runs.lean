section RunsP
variable {xs : Nat → Int32} {Ln : Nat} {I : Nat → Nat → Int32} {J : Nat → Nat → Int64} {Z : Nat → Nat → Bool} {w : Nat → Nat} {rem : Nat}
theorem s82a (k : Nat) (hk : k < 16) (hz : v_78 I J Z k = true) (Q : i_O → s_S → Prop) (hx : w_R xs Ln 82 (2, [(1, .int (Int32.ofNat (k + 1))), (0, .ref 6)], [], (I, J, kR w rem, Z), 0, 0) Q) : w_R xs Ln 82 (2, [(1, .int (Int32.ofNat k)), (0, .ref 6)], [], (I, J, kR w rem, Z), 0, 0) Q := by
  refine w_R.go (c' := (i_br .ge (Int32.ofNat k) 16 55 8, [(1, .int (Int32.ofNat k)), (0, .ref 6)], [], (I, J, kR w rem, Z), 0, 0)) 3 ?_ (fun m_ x_ Q_ k_ => ⟨trivial, trivial, trivial, k_⟩)
  rw [show i_br .ge (Int32.ofNat k) 16 55 8 = 8 from if_neg (Int32.not_le.mpr ((n_lt (a := k) (b := 16) (by omega) (by omega)).mpr (by omega)))]
  show w_R xs Ln 82 (8, [(1, .int (Int32.ofNat k)), (0, .ref 6)], [], (I, J, kR w rem, Z), 0, 0) _
  refine w_R.go (c' := (10, [(1, .int (Int32.ofNat k)), (0, .ref 6)], [.int (Int32.ofNat k), .ref 6], (I, J, kR w rem, Z), 0, 0)) 2 ?_ (fun m_ x_ Q_ k_ => ⟨trivial, trivial, k_⟩)
  refine w_R.callV (ce' := 0) (sl' := 0) (v := some (.int (s_b (v_78 I J Z k)))) (σ' := (I, J, kR w rem, Z)) (as := [.ref 6, .int (Int32.ofNat k)]) (rest := []) (d_78 k (by omega)) ?_ rfl rfl rfl rfl rfl sh_6 rfl rfl rfl rfl
  rw [show v_78 I J Z k = true from hz]
  show w_R xs Ln 82 (13, [(1, .int (Int32.ofNat k)), (0, .ref 6)], [.int (s_b true)], (I, J, kR w rem, Z), 0, 0) _
  refine w_R.go (c' := (49, [(1, .int (Int32.ofNat k)), (0, .ref 6)], [], (I, J, kR w rem, Z), 0, 0)) 1 ?_ (fun m_ x_ Q_ k_ => ⟨trivial, k_⟩)
  refine w_R.go (c' := (52, [(1, .int (Int32.ofNat k + Int32.ofNat 1)), (0, .ref 6)], [], (I, J, kR w rem, Z), 0, 0)) 1 ?_ (fun m_ x_ Q_ k_ => ⟨trivial, k_⟩)
  rw [n_add k 1]
  show w_R xs Ln 82 (52, [(1, .int (Int32.ofNat (k + 1))), (0, .ref 6)], [], (I, J, kR w rem, Z), 0, 0) _
  refine w_R.go (c' := (2, [(1, .int (Int32.ofNat (k + 1))), (0, .ref 6)], [], (I, J, kR w rem, Z), 0, 0)) 1 ?_ (fun m_ x_ Q_ k_ => ⟨trivial, k_⟩)
  exact hx
theorem s82b (k : Nat) (y : Nat) (z : Nat) (a : Nat) (b : Nat) (hk : k < 16) (hz : v_78 I J Z k = false) (hy : y < 16) (hz2 : z < 16) (ha : I 7 k = Int32.ofNat y) (hb : I 8 k = Int32.ofNat z) (h1 : I 10 y = Int32.ofNat a) (h2 : I 10 z = Int32.ofNat b) (Q : i_O → s_S → Prop) (hx : w_R xs Ln 82 (2, [(1, .int (Int32.ofNat (k + 1))), (0, .ref 6)], [], (s_up I 10 k (1 + (if (Int32.ofNat a) < (Int32.ofNat b) then (Int32.ofNat b) else (Int32.ofNat a))), J, kR w rem, Z), 0, 0) Q) : w_R xs Ln 82 (2, [(1, .int (Int32.ofNat k)), (0, .ref 6)], [], (I, J, kR w rem, Z), 0, 0) Q := by
  refine w_R.go (c' := (i_br .ge (Int32.ofNat k) 16 55 8, [(1, .int (Int32.ofNat k)), (0, .ref 6)], [], (I, J, kR w rem, Z), 0, 0)) 3 ?_ (fun m_ x_ Q_ k_ => ⟨trivial, trivial, trivial, k_⟩)
  rw [show i_br .ge (Int32.ofNat k) 16 55 8 = 8 from if_neg (Int32.not_le.mpr ((n_lt (a := k) (b := 16) (by omega) (by omega)).mpr (by omega)))]
  show w_R xs Ln 82 (8, [(1, .int (Int32.ofNat k)), (0, .ref 6)], [], (I, J, kR w rem, Z), 0, 0) _
  refine w_R.go (c' := (10, [(1, .int (Int32.ofNat k)), (0, .ref 6)], [.int (Int32.ofNat k), .ref 6], (I, J, kR w rem, Z), 0, 0)) 2 ?_ (fun m_ x_ Q_ k_ => ⟨trivial, trivial, k_⟩)
  refine w_R.callV (ce' := 0) (sl' := 0) (v := some (.int (s_b (v_78 I J Z k)))) (σ' := (I, J, kR w rem, Z)) (as := [.ref 6, .int (Int32.ofNat k)]) (rest := []) (d_78 k (by omega)) ?_ rfl rfl rfl rfl rfl sh_6 rfl rfl rfl rfl
  rw [show v_78 I J Z k = false from hz]
  show w_R xs Ln 82 (13, [(1, .int (Int32.ofNat k)), (0, .ref 6)], [.int (s_b false)], (I, J, kR w rem, Z), 0, 0) _
  refine w_R.go (c' := (16, [(1, .int (Int32.ofNat k)), (0, .ref 6)], [], (I, J, kR w rem, Z), 0, 0)) 1 ?_ (fun m_ x_ Q_ k_ => ⟨trivial, k_⟩)
  refine w_R.go (c' := (32, [(1, .int (Int32.ofNat k)), (0, .ref 6)], [.int (I 7 (Int32.ofNat k).toNatClampNeg), .ref 10, .int 1, .int (Int32.ofNat k), .ref 10], (I, J, kR w rem, Z), 0, 0)) 10 ?_ (fun m_ x_ Q_ k_ => ⟨trivial, ⟨sh_6, (Nat.succ_ne_zero 9)⟩, trivial, trivial, trivial, ⟨sh_6, (Nat.succ_ne_zero 9)⟩, trivial, ⟨sh_6, (Nat.succ_ne_zero 6)⟩, trivial, ⟨_, sh_7, (n_in (a := k) (by omega) (by decide))⟩, k_⟩)
  rw [n_cl (a := k) (by omega)]
  rw [ha]
  show w_R xs Ln 82 (32, [(1, .int (Int32.ofNat k)), (0, .ref 6)], [.int (Int32.ofNat y), .ref 10, .int 1, .int (Int32.ofNat k), .ref 10], (I, J, kR w rem, Z), 0, 0) _
  refine w_R.go (c' := (33, [(1, .int (Int32.ofNat k)), (0, .ref 6)], [.int (I 10 (Int32.ofNat y).toNatClampNeg), .int 1, .int (Int32.ofNat k), .ref 10], (I, J, kR w rem, Z), 0, 0)) 1 ?_ (fun m_ x_ Q_ k_ => ⟨⟨_, sh_10, (n_in (a := y) (by omega) (by decide))⟩, k_⟩)
  rw [n_cl (a := y) (by omega)]
  rw [h1]
  show w_R xs Ln 82 (33, [(1, .int (Int32.ofNat k)), (0, .ref 6)], [.int (Int32.ofNat a), .int 1, .int (Int32.ofNat k), .ref 10], (I, J, kR w rem, Z), 0, 0) _
  refine w_R.go (c' := (43, [(1, .int (Int32.ofNat k)), (0, .ref 6)], [.int (I 8 (Int32.ofNat k).toNatClampNeg), .ref 10, .int (Int32.ofNat a), .int 1, .int (Int32.ofNat k), .ref 10], (I, J, kR w rem, Z), 0, 0)) 6 ?_ (fun m_ x_ Q_ k_ => ⟨trivial, ⟨sh_6, (Nat.succ_ne_zero 9)⟩, trivial, ⟨sh_6, (Nat.succ_ne_zero 7)⟩, trivial, ⟨_, sh_8, (n_in (a := k) (by omega) (by decide))⟩, k_⟩)
  rw [n_cl (a := k) (by omega)]
  rw [hb]
  show w_R xs Ln 82 (43, [(1, .int (Int32.ofNat k)), (0, .ref 6)], [.int (Int32.ofNat z), .ref 10, .int (Int32.ofNat a), .int 1, .int (Int32.ofNat k), .ref 10], (I, J, kR w rem, Z), 0, 0) _
  refine w_R.go (c' := (44, [(1, .int (Int32.ofNat k)), (0, .ref 6)], [.int (I 10 (Int32.ofNat z).toNatClampNeg), .int (Int32.ofNat a), .int 1, .int (Int32.ofNat k), .ref 10], (I, J, kR w rem, Z), 0, 0)) 1 ?_ (fun m_ x_ Q_ k_ => ⟨⟨_, sh_10, (n_in (a := z) (by omega) (by decide))⟩, k_⟩)
  rw [n_cl (a := z) (by omega)]
  rw [h2]
  show w_R xs Ln 82 (44, [(1, .int (Int32.ofNat k)), (0, .ref 6)], [.int (Int32.ofNat b), .int (Int32.ofNat a), .int 1, .int (Int32.ofNat k), .ref 10], (I, J, kR w rem, Z), 0, 0) _
  refine w_R.go (c' := (49, [(1, .int (Int32.ofNat k)), (0, .ref 6)], [], (s_up I 10 ((Int32.ofNat k).toNatClampNeg) (1 + (if (Int32.ofNat a) < (Int32.ofNat b) then (Int32.ofNat b) else (Int32.ofNat a))), J, kR w rem, Z), 0, 0)) 3 ?_ (fun m_ x_ Q_ k_ => ⟨rfl, ⟨Nat.le_of_ble_eq_true rfl, Nat.le_of_ble_eq_true rfl⟩, trivial, ⟨_, sh_10, (n_in (a := k) (by omega) (by decide))⟩, k_⟩)
  rw [n_cl (a := k) (by omega)]
  show w_R xs Ln 82 (49, [(1, .int (Int32.ofNat k)), (0, .ref 6)], [], (s_up I 10 k (1 + (if (Int32.ofNat a) < (Int32.ofNat b) then (Int32.ofNat b) else (Int32.ofNat a))), J, kR w rem, Z), 0, 0) _
  refine w_R.go (c' := (52, [(1, .int (Int32.ofNat k + Int32.ofNat 1)), (0, .ref 6)], [], (s_up I 10 k (1 + (if (Int32.ofNat a) < (Int32.ofNat b) then (Int32.ofNat b) else (Int32.ofNat a))), J, kR w rem, Z), 0, 0)) 1 ?_ (fun m_ x_ Q_ k_ => ⟨trivial, k_⟩)
  rw [n_add k 1]
  show w_R xs Ln 82 (52, [(1, .int (Int32.ofNat (k + 1))), (0, .ref 6)], [], (s_up I 10 k (1 + (if (Int32.ofNat a) < (Int32.ofNat b) then (Int32.ofNat b) else (Int32.ofNat a))), J, kR w rem, Z), 0, 0) _
  refine w_R.go (c' := (2, [(1, .int (Int32.ofNat (k + 1))), (0, .ref 6)], [], (s_up I 10 k (1 + (if (Int32.ofNat a) < (Int32.ofNat b) then (Int32.ofNat b) else (Int32.ofNat a))), J, kR w rem, Z), 0, 0)) 1 ?_ (fun m_ x_ Q_ k_ => ⟨trivial, k_⟩)
  exact hx
theorem s82x   : w_R xs Ln 82 (2, [(1, .int 16), (0, .ref 6)], [], (I, J, kR w rem, Z), 0, 0) (fun o s => o = .inl none ∧ s = (I, J, kR w rem, Z)) := by
  refine w_R.go (c' := (55, [(1, .int 16), (0, .ref 6)], [], (I, J, kR w rem, Z), 0, 0)) 3 ?_ (fun m_ x_ Q_ k_ => ⟨trivial, trivial, trivial, k_⟩)
  refine w_R.ret 1 (.inl none) (I, J, kR w rem, Z) ?_ (fun x_ Q_ k_ => ⟨⟨Nat.le_of_ble_eq_true rfl, Nat.le_of_ble_eq_true rfl⟩, k_⟩)
  exact ⟨rfl, rfl⟩
theorem s82y   (Q : i_O → s_S → Prop) (hx : w_R xs Ln 82 (2, [(1, .int 0), (0, .ref 6)], [], (I, J, kR w rem, Z), 0, 0) Q) : w_R xs Ln 82 (0, [(0, .ref 6)], [], (I, J, kR w rem, Z), 0, 0) Q := by
  refine w_R.go (c' := (2, [(1, .int 0), (0, .ref 6)], [], (I, J, kR w rem, Z), 0, 0)) 2 ?_ (fun m_ x_ Q_ k_ => ⟨trivial, trivial, k_⟩)
  exact hx
theorem s81a (n : Nat) (k : Nat) (hk : k < 16) (Q : i_O → s_S → Prop) (hx : w_R xs Ln 81 (2, [(2, .int (Int32.ofNat (k + 1))), (0, .ref 6), (1, .int (Int32.ofNat n))], [], (s_up I 10 k 0, J, kR w rem, Z), 0, 0) Q) : w_R xs Ln 81 (2, [(2, .int (Int32.ofNat k)), (0, .ref 6), (1, .int (Int32.ofNat n))], [], (I, J, kR w rem, Z), 0, 0) Q := by
  refine w_R.go (c' := (i_br .ge (Int32.ofNat k) 16 21 8, [(2, .int (Int32.ofNat k)), (0, .ref 6), (1, .int (Int32.ofNat n))], [], (I, J, kR w rem, Z), 0, 0)) 3 ?_ (fun m_ x_ Q_ k_ => ⟨trivial, trivial, trivial, k_⟩)
  rw [show i_br .ge (Int32.ofNat k) 16 21 8 = 8 from if_neg (Int32.not_le.mpr ((n_lt (a := k) (b := 16) (by omega) (by omega)).mpr (by omega)))]
  show w_R xs Ln 81 (8, [(2, .int (Int32.ofNat k)), (0, .ref 6), (1, .int (Int32.ofNat n))], [], (I, J, kR w rem, Z), 0, 0) _
  refine w_R.go (c' := (15, [(2, .int (Int32.ofNat k)), (0, .ref 6), (1, .int (Int32.ofNat n))], [], (s_up I 10 ((Int32.ofNat k).toNatClampNeg) 0, J, kR w rem, Z), 0, 0)) 5 ?_ (fun m_ x_ Q_ k_ => ⟨trivial, ⟨sh_6, (Nat.succ_ne_zero 9)⟩, trivial, trivial, ⟨_, sh_10, (n_in (a := k) (by omega) (by decide))⟩, k_⟩)
  rw [n_cl (a := k) (by omega)]
  show w_R xs Ln 81 (15, [(2, .int (Int32.ofNat k)), (0, .ref 6), (1, .int (Int32.ofNat n))], [], (s_up I 10 k 0, J, kR w rem, Z), 0, 0) _
  refine w_R.go (c' := (18, [(2, .int (Int32.ofNat k + Int32.ofNat 1)), (0, .ref 6), (1, .int (Int32.ofNat n))], [], (s_up I 10 k 0, J, kR w rem, Z), 0, 0)) 1 ?_ (fun m_ x_ Q_ k_ => ⟨trivial, k_⟩)
  rw [n_add k 1]
  show w_R xs Ln 81 (18, [(2, .int (Int32.ofNat (k + 1))), (0, .ref 6), (1, .int (Int32.ofNat n))], [], (s_up I 10 k 0, J, kR w rem, Z), 0, 0) _
  refine w_R.go (c' := (2, [(2, .int (Int32.ofNat (k + 1))), (0, .ref 6), (1, .int (Int32.ofNat n))], [], (s_up I 10 k 0, J, kR w rem, Z), 0, 0)) 1 ?_ (fun m_ x_ Q_ k_ => ⟨trivial, k_⟩)
  exact hx
theorem s81b (n : Nat)  (Q : i_O → s_S → Prop) (hx : w_R xs Ln 81 (23, [(2, .int 0), (0, .ref 6), (1, .int (Int32.ofNat n))], [], (I, J, kR w rem, Z), 0, 0) Q) : w_R xs Ln 81 (2, [(2, .int 16), (0, .ref 6), (1, .int (Int32.ofNat n))], [], (I, J, kR w rem, Z), 0, 0) Q := by
  refine w_R.go (c' := (21, [(2, .int 16), (0, .ref 6), (1, .int (Int32.ofNat n))], [], (I, J, kR w rem, Z), 0, 0)) 3 ?_ (fun m_ x_ Q_ k_ => ⟨trivial, trivial, trivial, k_⟩)
  refine w_R.go (c' := (23, [(2, .int 0), (0, .ref 6), (1, .int (Int32.ofNat n))], [], (I, J, kR w rem, Z), 0, 0)) 2 ?_ (fun m_ x_ Q_ k_ => ⟨trivial, trivial, k_⟩)
  exact hx
theorem s81c (n : Nat) (k : Nat) (I1 : Nat → Nat → Int32) (hk : k < 16) (h82 : w_R xs Ln 82 (0, [(0, .ref 6)], [], (I, J, kR w rem, Z), 0, 0) (fun o s => o = .inl none ∧ s = (I1, J, kR w rem, Z))) (Q : i_O → s_S → Prop) (hx : w_R xs Ln 81 (23, [(2, .int (Int32.ofNat (k + 1))), (0, .ref 6), (1, .int (Int32.ofNat n))], [], (I1, J, kR w rem, Z), 0, 0) Q) : w_R xs Ln 81 (23, [(2, .int (Int32.ofNat k)), (0, .ref 6), (1, .int (Int32.ofNat n))], [], (I, J, kR w rem, Z), 0, 0) Q := by
  refine w_R.go (c' := (i_br .ge (Int32.ofNat k) 16 39 29, [(2, .int (Int32.ofNat k)), (0, .ref 6), (1, .int (Int32.ofNat n))], [], (I, J, kR w rem, Z), 0, 0)) 3 ?_ (fun m_ x_ Q_ k_ => ⟨trivial, trivial, trivial, k_⟩)
  rw [show i_br .ge (Int32.ofNat k) 16 39 29 = 29 from if_neg (Int32.not_le.mpr ((n_lt (a := k) (b := 16) (by omega) (by omega)).mpr (by omega)))]
  show w_R xs Ln 81 (29, [(2, .int (Int32.ofNat k)), (0, .ref 6), (1, .int (Int32.ofNat n))], [], (I, J, kR w rem, Z), 0, 0) _
  refine w_R.go (c' := (30, [(2, .int (Int32.ofNat k)), (0, .ref 6), (1, .int (Int32.ofNat n))], [.ref 6], (I, J, kR w rem, Z), 0, 0)) 1 ?_ (fun m_ x_ Q_ k_ => ⟨trivial, k_⟩)
  refine w_R.callV (ce' := 0) (sl' := 0) (v := none) (σ' := (I1, J, kR w rem, Z)) (as := [.ref 6]) (rest := []) h82 ?_ rfl rfl rfl rfl rfl sh_6 rfl rfl rfl rfl
  show w_R xs Ln 81 (33, [(2, .int (Int32.ofNat k)), (0, .ref 6), (1, .int (Int32.ofNat n))], [], (I1, J, kR w rem, Z), 0, 0) _
  refine w_R.go (c' := (36, [(2, .int (Int32.ofNat k + Int32.ofNat 1)), (0, .ref 6), (1, .int (Int32.ofNat n))], [], (I1, J, kR w rem, Z), 0, 0)) 1 ?_ (fun m_ x_ Q_ k_ => ⟨trivial, k_⟩)
  rw [n_add k 1]
  show w_R xs Ln 81 (36, [(2, .int (Int32.ofNat (k + 1))), (0, .ref 6), (1, .int (Int32.ofNat n))], [], (I1, J, kR w rem, Z), 0, 0) _
  refine w_R.go (c' := (23, [(2, .int (Int32.ofNat (k + 1))), (0, .ref 6), (1, .int (Int32.ofNat n))], [], (I1, J, kR w rem, Z), 0, 0)) 1 ?_ (fun m_ x_ Q_ k_ => ⟨trivial, k_⟩)
  exact hx
theorem s81r (n : Nat) (a : Nat) (hn : n < 16) (ha : I 10 n = Int32.ofNat a) (h1 : Int32.ofNat a < 16) : w_R xs Ln 81 (23, [(2, .int 16), (0, .ref 6), (1, .int (Int32.ofNat n))], [], (I, J, kR w rem, Z), 0, 0) (fun o s => o = .inl (some (.int (Int32.ofNat a))) ∧ s = (I, J, kR w rem, Z)) := by
  refine w_R.go (c' := (39, [(2, .int 16), (0, .ref 6), (1, .int (Int32.ofNat n))], [], (I, J, kR w rem, Z), 0, 0)) 3 ?_ (fun m_ x_ Q_ k_ => ⟨trivial, trivial, trivial, k_⟩)
  refine w_R.go (c' := (45, [(2, .int 16), (0, .ref 6), (1, .int (Int32.ofNat n))], [.int (I 10 (Int32.ofNat n).toNatClampNeg)], (I, J, kR w rem, Z), 0, 0)) 4 ?_ (fun m_ x_ Q_ k_ => ⟨trivial, ⟨sh_6, (Nat.succ_ne_zero 9)⟩, trivial, ⟨_, sh_10, (n_in (a := n) (by omega) (by decide))⟩, k_⟩)
  rw [n_cl (a := n) (by omega)]
  rw [ha]
  show w_R xs Ln 81 (45, [(2, .int 16), (0, .ref 6), (1, .int (Int32.ofNat n))], [.int (Int32.ofNat a)], (I, J, kR w rem, Z), 0, 0) _
  refine w_R.go (c' := (i_br .ge (Int32.ofNat a) 16 59 50, [(2, .int 16), (0, .ref 6), (1, .int (Int32.ofNat n))], [], (I, J, kR w rem, Z), 0, 0)) 2 ?_ (fun m_ x_ Q_ k_ => ⟨trivial, trivial, k_⟩)
  rw [show i_br .ge (Int32.ofNat a) 16 59 50 = 50 from if_neg (Int32.not_le.mpr h1)]
  show w_R xs Ln 81 (50, [(2, .int 16), (0, .ref 6), (1, .int (Int32.ofNat n))], [], (I, J, kR w rem, Z), 0, 0) _
  refine w_R.go (c' := (56, [(2, .int 16), (0, .ref 6), (1, .int (Int32.ofNat n))], [.int (I 10 (Int32.ofNat n).toNatClampNeg)], (I, J, kR w rem, Z), 0, 0)) 4 ?_ (fun m_ x_ Q_ k_ => ⟨trivial, ⟨sh_6, (Nat.succ_ne_zero 9)⟩, trivial, ⟨_, sh_10, (n_in (a := n) (by omega) (by decide))⟩, k_⟩)
  rw [n_cl (a := n) (by omega)]
  rw [ha]
  show w_R xs Ln 81 (56, [(2, .int 16), (0, .ref 6), (1, .int (Int32.ofNat n))], [.int (Int32.ofNat a)], (I, J, kR w rem, Z), 0, 0) _
  refine w_R.ret 2 (.inl (some (.int (Int32.ofNat a)))) (I, J, kR w rem, Z) ?_ (fun x_ Q_ k_ => ⟨trivial, trivial, ⟨Nat.le_of_ble_eq_true rfl, Nat.le_of_ble_eq_true rfl⟩, k_⟩)
  exact ⟨rfl, rfl⟩
theorem s81s (n : Nat) (a : Nat) (hn : n < 16) (ha : I 10 n = Int32.ofNat a) (h1 : ¬ Int32.ofNat a < 16) : w_R xs Ln 81 (23, [(2, .int 16), (0, .ref 6), (1, .int (Int32.ofNat n))], [], (I, J, kR w rem, Z), 0, 0) (fun o s => o = .inl (some (.int (-1))) ∧ s = (I, J, kR w rem, Z)) := by
  refine w_R.go (c' := (39, [(2, .int 16), (0, .ref 6), (1, .int (Int32.ofNat n))], [], (I, J, kR w rem, Z), 0, 0)) 3 ?_ (fun m_ x_ Q_ k_ => ⟨trivial, trivial, trivial, k_⟩)
  refine w_R.go (c' := (45, [(2, .int 16), (0, .ref 6), (1, .int (Int32.ofNat n))], [.int (I 10 (Int32.ofNat n).toNatClampNeg)], (I, J, kR w rem, Z), 0, 0)) 4 ?_ (fun m_ x_ Q_ k_ => ⟨trivial, ⟨sh_6, (Nat.succ_ne_zero 9)⟩, trivial, ⟨_, sh_10, (n_in (a := n) (by omega) (by decide))⟩, k_⟩)
  rw [n_cl (a := n) (by omega)]
  rw [ha]
  show w_R xs Ln 81 (45, [(2, .int 16), (0, .ref 6), (1, .int (Int32.ofNat n))], [.int (Int32.ofNat a)], (I, J, kR w rem, Z), 0, 0) _
  refine w_R.go (c' := (i_br .ge (Int32.ofNat a) 16 59 50, [(2, .int 16), (0, .ref 6), (1, .int (Int32.ofNat n))], [], (I, J, kR w rem, Z), 0, 0)) 2 ?_ (fun m_ x_ Q_ k_ => ⟨trivial, trivial, k_⟩)
  rw [show i_br .ge (Int32.ofNat a) 16 59 50 = 59 from if_pos (Int32.not_lt.mp h1)]
  show w_R xs Ln 81 (59, [(2, .int 16), (0, .ref 6), (1, .int (Int32.ofNat n))], [], (I, J, kR w rem, Z), 0, 0) _
  refine w_R.ret 2 (.inl (some (.int (-1)))) (I, J, kR w rem, Z) ?_ (fun x_ Q_ k_ => ⟨trivial, trivial, ⟨Nat.le_of_ble_eq_true rfl, Nat.le_of_ble_eq_true rfl⟩, k_⟩)
  exact ⟨rfl, rfl⟩
theorem s81y (n : Nat)  (Q : i_O → s_S → Prop) (hx : w_R xs Ln 81 (2, [(2, .int 0), (0, .ref 6), (1, .int (Int32.ofNat n))], [], (I, J, kR w rem, Z), 0, 0) Q) : w_R xs Ln 81 (0, [(0, .ref 6), (1, .int (Int32.ofNat n))], [], (I, J, kR w rem, Z), 0, 0) Q := by
  refine w_R.go (c' := (2, [(2, .int 0), (0, .ref 6), (1, .int (Int32.ofNat n))], [], (I, J, kR w rem, Z), 0, 0)) 2 ?_ (fun m_ x_ Q_ k_ => ⟨trivial, trivial, k_⟩)
  exact hx
theorem b_4_0 (n : Int32) (hn : l_rg n 0 16 = false) : w_R xs Ln 4 (0, [(0, .ref 1), (1, .int n)], [], (I, J, kR w rem, Z), 0, 0) (fun o s => o = .inl (some (.int (-1))) ∧ s = (I, J, kR w rem, Z)) := by
  refine w_R.go (c' := (1, [(0, .ref 1), (1, .int n)], [.int n], (I, J, kR w rem, Z), 0, 0)) 1 ?_ (fun m_ x_ Q_ k_ => ⟨trivial, k_⟩)
  refine w_R.callS (ce' := 0) (sl' := 0) (v := some (.int (s_b false))) (σ' := (I, J, kR w rem, Z)) (as := [.int n]) (rest := []) (d_30F n hn) ?_ rfl rfl rfl rfl rfl rfl rfl rfl rfl
  show w_R xs Ln 4 (4, [(0, .ref 1), (1, .int n)], [.int (s_b false)], (I, J, kR w rem, Z), 0, 0) _
  refine w_R.go (c' := (18, [(0, .ref 1), (1, .int n)], [], (I, J, kR w rem, Z), 0, 0)) 1 ?_ (fun m_ x_ Q_ k_ => ⟨trivial, k_⟩)
  refine w_R.ret 2 (.inl (some (.int (-1)))) (I, J, kR w rem, Z) ?_ (fun x_ Q_ k_ => ⟨trivial, trivial, ⟨Nat.le_of_ble_eq_true rfl, Nat.le_of_ble_eq_true rfl⟩, k_⟩)
  exact ⟨rfl, rfl⟩
theorem d_4 (n : Nat) (y : Int32) (I1 : Nat → Nat → Int32) (hn : n < 16) (h81 : w_R xs Ln 81 (0, [(0, .ref 6), (1, .int (Int32.ofNat n))], [], (I, J, kR w rem, Z), 0, 0) (fun o s => o = .inl (some (.int y)) ∧ s = (I1, J, kR w rem, Z))) : w_R xs Ln 4 (0, [(0, .ref 1), (1, .int (Int32.ofNat n))], [], (I, J, kR w rem, Z), 0, 0) (fun o s => o = .inl (some (.int y)) ∧ s = (I1, J, kR w rem, Z)) := by
  refine w_R.go (c' := (1, [(0, .ref 1), (1, .int (Int32.ofNat n))], [.int (Int32.ofNat n)], (I, J, kR w rem, Z), 0, 0)) 1 ?_ (fun m_ x_ Q_ k_ => ⟨trivial, k_⟩)
  refine w_R.callS (ce' := 0) (sl' := 0) (v := some (.int (s_b true))) (σ' := (I, J, kR w rem, Z)) (as := [.int (Int32.ofNat n)]) (rest := []) (d_30N n (by omega)) ?_ rfl rfl rfl rfl rfl rfl rfl rfl rfl
  show w_R xs Ln 4 (4, [(0, .ref 1), (1, .int (Int32.ofNat n))], [.int (s_b true)], (I, J, kR w rem, Z), 0, 0) _
  refine w_R.go (c' := (7, [(0, .ref 1), (1, .int (Int32.ofNat n))], [], (I, J, kR w rem, Z), 0, 0)) 1 ?_ (fun m_ x_ Q_ k_ => ⟨trivial, k_⟩)
  refine w_R.go (c' := (12, [(0, .ref 1), (1, .int (Int32.ofNat n))], [.int (Int32.ofNat n), .ref 6], (I, J, kR w rem, Z), 0, 0)) 3 ?_ (fun m_ x_ Q_ k_ => ⟨trivial, ⟨sh_1, (Nat.succ_ne_zero 5)⟩, trivial, k_⟩)
  refine w_R.callV (ce' := 0) (sl' := 0) (v := some (.int y)) (σ' := (I1, J, kR w rem, Z)) (as := [.ref 6, .int (Int32.ofNat n)]) (rest := []) h81 ?_ rfl rfl rfl rfl rfl sh_6 rfl rfl rfl rfl
  show w_R xs Ln 4 (15, [(0, .ref 1), (1, .int (Int32.ofNat n))], [.int y], (I1, J, kR w rem, Z), 0, 0) _
  refine w_R.ret 2 (.inl (some (.int y))) (I1, J, kR w rem, Z) ?_ (fun x_ Q_ k_ => ⟨trivial, trivial, ⟨Nat.le_of_ble_eq_true rfl, Nat.le_of_ble_eq_true rfl⟩, k_⟩)
  exact ⟨rfl, rfl⟩
theorem b_115_0 (n : Int32) (hn : l_rg n 0 16 = false) : w_R xs Ln 115 (0, [(0, .ref 199), (1, .int n)], [], (I, J, kR w rem, Z), 0, 0) (fun o s => o = .inl (some (.int (-1))) ∧ s = (s_up I 199 59 0, J, kR w rem, Z)) := by
  refine w_R.go (c' := (9, [(0, .ref 199), (1, .int n)], [.int 15, .int 0, .int n], (s_up I 199 59 0, J, kR w rem, Z), 0, 0)) 6 ?_ (fun m_ x_ Q_ k_ => ⟨trivial, trivial, ⟨sh_199, trivial⟩, trivial, trivial, trivial, k_⟩)
  refine w_R.callS (ce' := 0) (sl' := 0) (v := some (.int (s_b false))) (σ' := (s_up I 199 59 0, J, kR w rem, Z)) (as := [.int n, .int 0, .int 15]) (rest := []) (d_106F n 0 15 (by decide) (by decide) hn) ?_ rfl rfl rfl rfl rfl rfl rfl rfl rfl
  show w_R xs Ln 115 (12, [(0, .ref 199), (1, .int n)], [.int (s_b false)], (s_up I 199 59 0, J, kR w rem, Z), 0, 0) _
  refine w_R.go (c' := (15, [(0, .ref 199), (1, .int n)], [], (s_up I 199 59 0, J, kR w rem, Z), 0, 0)) 1 ?_ (fun m_ x_ Q_ k_ => ⟨trivial, k_⟩)
  refine w_R.ret 2 (.inl (some (.int (-1)))) (s_up I 199 59 0, J, kR w rem, Z) ?_ (fun x_ Q_ k_ => ⟨trivial, trivial, ⟨Nat.le_of_ble_eq_true rfl, Nat.le_of_ble_eq_true rfl⟩, k_⟩)
  exact ⟨rfl, rfl⟩
theorem s115y (n : Nat) (hn : n < 16) (Q : i_O → s_S → Prop) (hx : w_R xs Ln 115 (19, [(2, .int 0), (0, .ref 199), (1, .int (Int32.ofNat n))], [], (s_up I 199 59 0, J, kR w rem, Z), 0, 0) Q) : w_R xs Ln 115 (0, [(0, .ref 199), (1, .int (Int32.ofNat n))], [], (I, J, kR w rem, Z), 0, 0) Q := by
  refine w_R.go (c' := (9, [(0, .ref 199), (1, .int (Int32.ofNat n))], [.int 15, .int 0, .int (Int32.ofNat n)], (s_up I 199 59 0, J, kR w rem, Z), 0, 0)) 6 ?_ (fun m_ x_ Q_ k_ => ⟨trivial, trivial, ⟨sh_199, trivial⟩, trivial, trivial, trivial, k_⟩)
  refine w_R.callS (ce' := 0) (sl' := 0) (v := some (.int (s_b true))) (σ' := (s_up I 199 59 0, J, kR w rem, Z)) (as := [.int (Int32.ofNat n), .int 0, .int 15]) (rest := []) (d_106T n 0 15 (by omega) (by omega) (by decide)) ?_ rfl rfl rfl rfl rfl rfl rfl rfl rfl
  show w_R xs Ln 115 (12, [(0, .ref 199), (1, .int (Int32.ofNat n))], [.int (s_b true)], (s_up I 199 59 0, J, kR w rem, Z), 0, 0) _
  refine w_R.go (c' := (17, [(0, .ref 199), (1, .int (Int32.ofNat n))], [], (s_up I 199 59 0, J, kR w rem, Z), 0, 0)) 1 ?_ (fun m_ x_ Q_ k_ => ⟨trivial, k_⟩)
  refine w_R.go (c' := (19, [(2, .int 0), (0, .ref 199), (1, .int (Int32.ofNat n))], [], (s_up I 199 59 0, J, kR w rem, Z), 0, 0)) 2 ?_ (fun m_ x_ Q_ k_ => ⟨trivial, trivial, k_⟩)
  exact hx
theorem s115a (n : Nat) (k : Nat) (hk : k < 16) (Q : i_O → s_S → Prop) (hx : w_R xs Ln 115 (19, [(2, .int (Int32.ofNat (k + 1))), (0, .ref 199), (1, .int (Int32.ofNat n))], [], (s_up I 206 k 0, J, kR w rem, Z), 0, 0) Q) : w_R xs Ln 115 (19, [(2, .int (Int32.ofNat k)), (0, .ref 199), (1, .int (Int32.ofNat n))], [], (I, J, kR w rem, Z), 0, 0) Q := by
  refine w_R.go (c' := (i_br .ge (Int32.ofNat k) 16 38 25, [(2, .int (Int32.ofNat k)), (0, .ref 199), (1, .int (Int32.ofNat n))], [], (I, J, kR w rem, Z), 0, 0)) 3 ?_ (fun m_ x_ Q_ k_ => ⟨trivial, trivial, trivial, k_⟩)
  rw [show i_br .ge (Int32.ofNat k) 16 38 25 = 25 from if_neg (Int32.not_le.mpr ((n_lt (a := k) (b := 16) (by omega) (by omega)).mpr (by omega)))]
  show w_R xs Ln 115 (25, [(2, .int (Int32.ofNat k)), (0, .ref 199), (1, .int (Int32.ofNat n))], [], (I, J, kR w rem, Z), 0, 0) _
  refine w_R.go (c' := (32, [(2, .int (Int32.ofNat k)), (0, .ref 199), (1, .int (Int32.ofNat n))], [], (s_up I 206 ((Int32.ofNat k).toNatClampNeg) 0, J, kR w rem, Z), 0, 0)) 5 ?_ (fun m_ x_ Q_ k_ => ⟨trivial, ⟨sh_199, (Nat.succ_ne_zero 205)⟩, trivial, trivial, ⟨_, sh_206, (n_in (a := k) (by omega) (by decide))⟩, k_⟩)
  rw [n_cl (a := k) (by omega)]
  show w_R xs Ln 115 (32, [(2, .int (Int32.ofNat k)), (0, .ref 199), (1, .int (Int32.ofNat n))], [], (s_up I 206 k 0, J, kR w rem, Z), 0, 0) _
  refine w_R.go (c' := (35, [(2, .int (Int32.ofNat k + Int32.ofNat 1)), (0, .ref 199), (1, .int (Int32.ofNat n))], [], (s_up I 206 k 0, J, kR w rem, Z), 0, 0)) 1 ?_ (fun m_ x_ Q_ k_ => ⟨trivial, k_⟩)
  rw [n_add k 1]
  show w_R xs Ln 115 (35, [(2, .int (Int32.ofNat (k + 1))), (0, .ref 199), (1, .int (Int32.ofNat n))], [], (s_up I 206 k 0, J, kR w rem, Z), 0, 0) _
  refine w_R.go (c' := (19, [(2, .int (Int32.ofNat (k + 1))), (0, .ref 199), (1, .int (Int32.ofNat n))], [], (s_up I 206 k 0, J, kR w rem, Z), 0, 0)) 1 ?_ (fun m_ x_ Q_ k_ => ⟨trivial, k_⟩)
  exact hx
theorem s115b (n : Nat)  (Q : i_O → s_S → Prop) (hx : w_R xs Ln 115 (40, [(2, .int 0), (0, .ref 199), (1, .int (Int32.ofNat n))], [], (I, J, kR w rem, Z), 0, 0) Q) : w_R xs Ln 115 (19, [(2, .int 16), (0, .ref 199), (1, .int (Int32.ofNat n))], [], (I, J, kR w rem, Z), 0, 0) Q := by
  refine w_R.go (c' := (38, [(2, .int 16), (0, .ref 199), (1, .int (Int32.ofNat n))], [], (I, J, kR w rem, Z), 0, 0)) 3 ?_ (fun m_ x_ Q_ k_ => ⟨trivial, trivial, trivial, k_⟩)
  refine w_R.go (c' := (40, [(2, .int 0), (0, .ref 199), (1, .int (Int32.ofNat n))], [], (I, J, kR w rem, Z), 0, 0)) 2 ?_ (fun m_ x_ Q_ k_ => ⟨trivial, trivial, k_⟩)
  exact hx
theorem s115c (n : Nat) (i : Nat) (hi : i < 17) (Q : i_O → s_S → Prop) (hx : w_R xs Ln 115 (48, [(3, .int 0), (2, .int (Int32.ofNat i)), (0, .ref 199), (1, .int (Int32.ofNat n))], [], (I, J, kR w rem, Z), 0, 0) Q) : w_R xs Ln 115 (40, [(2, .int (Int32.ofNat i)), (0, .ref 199), (1, .int (Int32.ofNat n))], [], (I, J, kR w rem, Z), 0, 0) Q := by
  refine w_R.go (c' := (i_br .gt (Int32.ofNat i) 16 166 46, [(2, .int (Int32.ofNat i)), (0, .ref 199), (1, .int (Int32.ofNat n))], [], (I, J, kR w rem, Z), 0, 0)) 3 ?_ (fun m_ x_ Q_ k_ => ⟨trivial, trivial, trivial, k_⟩)
  rw [show i_br .gt (Int32.ofNat i) 16 166 46 = 46 from if_neg (mt (n_lt (a := 16) (b := i) (by omega) (by omega)).mp (by omega))]
  show w_R xs Ln 115 (46, [(2, .int (Int32.ofNat i)), (0, .ref 199), (1, .int (Int32.ofNat n))], [], (I, J, kR w rem, Z), 0, 0) _
  refine w_R.go (c' := (48, [(3, .int 0), (2, .int (Int32.ofNat i)), (0, .ref 199), (1, .int (Int32.ofNat n))], [], (I, J, kR w rem, Z), 0, 0)) 2 ?_ (fun m_ x_ Q_ k_ => ⟨trivial, trivial, k_⟩)
  exact hx
theorem s115d (n : Nat) (i : Nat) (k : Nat) (hk : k < 16) (hl : ¬ I 203 k = 0) (Q : i_O → s_S → Prop) (hx : w_R xs Ln 115 (48, [(3, .int (Int32.ofNat (k + 1))), (2, .int (Int32.ofNat i)), (0, .ref 199), (1, .int (Int32.ofNat n))], [], (s_up I 207 k 0, J, kR w rem, Z), 0, 0) Q) : w_R xs Ln 115 (48, [(3, .int (Int32.ofNat k)), (2, .int (Int32.ofNat i)), (0, .ref 199), (1, .int (Int32.ofNat n))], [], (I, J, kR w rem, Z), 0, 0) Q := by
  refine w_R.go (c' := (i_br .ge (Int32.ofNat k) 16 134 54, [(3, .int (Int32.ofNat k)), (2, .int (Int32.ofNat i)), (0, .ref 199), (1, .int (Int32.ofNat n))], [], (I, J, kR w rem, Z), 0, 0)) 3 ?_ (fun m_ x_ Q_ k_ => ⟨trivial, trivial, trivial, k_⟩)
  rw [show i_br .ge (Int32.ofNat k) 16 134 54 = 54 from if_neg (Int32.not_le.mpr ((n_lt (a := k) (b := 16) (by omega) (by omega)).mpr (by omega)))]
  show w_R xs Ln 115 (54, [(3, .int (Int32.ofNat k)), (2, .int (Int32.ofNat i)), (0, .ref 199), (1, .int (Int32.ofNat n))], [], (I, J, kR w rem, Z), 0, 0) _
  refine w_R.go (c' := (63, [(4, .int 0), (3, .int (Int32.ofNat k)), (2, .int (Int32.ofNat i)), (0, .ref 199), (1, .int (Int32.ofNat n))], [.int (I 203 (Int32.ofNat k).toNatClampNeg)], (I, J, kR w rem, Z), 0, 0)) 6 ?_ (fun m_ x_ Q_ k_ => ⟨trivial, trivial, trivial, ⟨sh_199, (Nat.succ_ne_zero 202)⟩, trivial, ⟨_, sh_203, (n_in (a := k) (by omega) (by decide))⟩, k_⟩)
  rw [n_cl (a := k) (by omega)]
  show w_R xs Ln 115 (63, [(4, .int 0), (3, .int (Int32.ofNat k)), (2, .int (Int32.ofNat i)), (0, .ref 199), (1, .int (Int32.ofNat n))], [.int (I 203 k)], (I, J, kR w rem, Z), 0, 0) _
  refine w_R.go (c' := (i_br .ne (I 203 k) 0 120 66, [(4, .int 0), (3, .int (Int32.ofNat k)), (2, .int (Int32.ofNat i)), (0, .ref 199), (1, .int (Int32.ofNat n))], [], (I, J, kR w rem, Z), 0, 0)) 1 ?_ (fun m_ x_ Q_ k_ => ⟨trivial, k_⟩)
  rw [show i_br .ne (I 203 k) 0 120 66 = 120 from if_neg hl]
  show w_R xs Ln 115 (120, [(4, .int 0), (3, .int (Int32.ofNat k)), (2, .int (Int32.ofNat i)), (0, .ref 199), (1, .int (Int32.ofNat n))], [], (I, J, kR w rem, Z), 0, 0) _
  refine w_R.go (c' := (128, [(4, .int 0), (3, .int (Int32.ofNat k)), (2, .int (Int32.ofNat i)), (0, .ref 199), (1, .int (Int32.ofNat n))], [], (s_up I 207 ((Int32.ofNat k).toNatClampNeg) 0, J, kR w rem, Z), 0, 0)) 5 ?_ (fun m_ x_ Q_ k_ => ⟨trivial, ⟨sh_199, (Nat.succ_ne_zero 206)⟩, trivial, trivial, ⟨_, sh_207, (n_in (a := k) (by omega) (by decide))⟩, k_⟩)
  rw [n_cl (a := k) (by omega)]
  show w_R xs Ln 115 (128, [(4, .int 0), (3, .int (Int32.ofNat k)), (2, .int (Int32.ofNat i)), (0, .ref 199), (1, .int (Int32.ofNat n))], [], (s_up I 207 k 0, J, kR w rem, Z), 0, 0) _
  refine w_R.go (c' := (131, [(3, .int (Int32.ofNat k + Int32.ofNat 1)), (4, .int 0), (2, .int (Int32.ofNat i)), (0, .ref 199), (1, .int (Int32.ofNat n))], [], (s_up I 207 k 0, J, kR w rem, Z), 0, 0)) 1 ?_ (fun m_ x_ Q_ k_ => ⟨trivial, k_⟩)
  rw [n_add k 1]
  show w_R xs Ln 115 (131, [(3, .int (Int32.ofNat (k + 1))), (4, .int 0), (2, .int (Int32.ofNat i)), (0, .ref 199), (1, .int (Int32.ofNat n))], [], (s_up I 207 k 0, J, kR w rem, Z), 0, 0) _
  refine w_R.go (c' := (48, [(3, .int (Int32.ofNat (k + 1))), (4, .int 0), (2, .int (Int32.ofNat i)), (0, .ref 199), (1, .int (Int32.ofNat n))], [], (s_up I 207 k 0, J, kR w rem, Z), 0, 0)) 1 ?_ (fun m_ x_ Q_ k_ => ⟨trivial, k_⟩)
  refine w_R.drop (fun i => decide (4 ≤ i)) ?_
  exact hx
theorem s115e (n : Nat) (i : Nat) (k : Nat) (y : Nat) (z : Nat) (a : Nat) (b : Nat) (hk : k < 16) (hl : I 203 k = 0) (hy : y < 16) (hz2 : z < 16) (ha : I 204 k = Int32.ofNat y) (hb : I 205 k = Int32.ofNat z) (h1 : I 206 y = Int32.ofNat a) (h2 : I 206 z = Int32.ofNat b) (h3 : (Int32.ofNat b) < (Int32.ofNat a)) (Q : i_O → s_S → Prop) (hx : w_R xs Ln 115 (48, [(3, .int (Int32.ofNat (k + 1))), (2, .int (Int32.ofNat i)), (0, .ref 199), (1, .int (Int32.ofNat n))], [], (s_up I 207 k (Int32.ofNat (1 + a)), J, kR w rem, Z), 0, 0) Q) : w_R xs Ln 115 (48, [(3, .int (Int32.ofNat k)), (2, .int (Int32.ofNat i)), (0, .ref 199), (1, .int (Int32.ofNat n))], [], (I, J, kR w rem, Z), 0, 0) Q := by
  refine w_R.go (c' := (i_br .ge (Int32.ofNat k) 16 134 54, [(3, .int (Int32.ofNat k)), (2, .int (Int32.ofNat i)), (0, .ref 199), (1, .int (Int32.ofNat n))], [], (I, J, kR w rem, Z), 0, 0)) 3 ?_ (fun m_ x_ Q_ k_ => ⟨trivial, trivial, trivial, k_⟩)
  rw [show i_br .ge (Int32.ofNat k) 16 134 54 = 54 from if_neg (Int32.not_le.mpr ((n_lt (a := k) (b := 16) (by omega) (by omega)).mpr (by omega)))]
  show w_R xs Ln 115 (54, [(3, .int (Int32.ofNat k)), (2, .int (Int32.ofNat i)), (0, .ref 199), (1, .int (Int32.ofNat n))], [], (I, J, kR w rem, Z), 0, 0) _
  refine w_R.go (c' := (63, [(4, .int 0), (3, .int (Int32.ofNat k)), (2, .int (Int32.ofNat i)), (0, .ref 199), (1, .int (Int32.ofNat n))], [.int (I 203 (Int32.ofNat k).toNatClampNeg)], (I, J, kR w rem, Z), 0, 0)) 6 ?_ (fun m_ x_ Q_ k_ => ⟨trivial, trivial, trivial, ⟨sh_199, (Nat.succ_ne_zero 202)⟩, trivial, ⟨_, sh_203, (n_in (a := k) (by omega) (by decide))⟩, k_⟩)
  rw [n_cl (a := k) (by omega)]
  show w_R xs Ln 115 (63, [(4, .int 0), (3, .int (Int32.ofNat k)), (2, .int (Int32.ofNat i)), (0, .ref 199), (1, .int (Int32.ofNat n))], [.int (I 203 k)], (I, J, kR w rem, Z), 0, 0) _
  refine w_R.go (c' := (i_br .ne (I 203 k) 0 120 66, [(4, .int 0), (3, .int (Int32.ofNat k)), (2, .int (Int32.ofNat i)), (0, .ref 199), (1, .int (Int32.ofNat n))], [], (I, J, kR w rem, Z), 0, 0)) 1 ?_ (fun m_ x_ Q_ k_ => ⟨trivial, k_⟩)
  rw [show i_br .ne (I 203 k) 0 120 66 = 66 from if_pos hl]
  show w_R xs Ln 115 (66, [(4, .int 0), (3, .int (Int32.ofNat k)), (2, .int (Int32.ofNat i)), (0, .ref 199), (1, .int (Int32.ofNat n))], [], (I, J, kR w rem, Z), 0, 0) _
  refine w_R.go (c' := (77, [(4, .int 0), (3, .int (Int32.ofNat k)), (2, .int (Int32.ofNat i)), (0, .ref 199), (1, .int (Int32.ofNat n))], [.int (I 204 (Int32.ofNat k).toNatClampNeg), .ref 206, .int 1], (I, J, kR w rem, Z), 0, 0)) 7 ?_ (fun m_ x_ Q_ k_ => ⟨trivial, trivial, ⟨sh_199, (Nat.succ_ne_zero 205)⟩, trivial, ⟨sh_199, (Nat.succ_ne_zero 203)⟩, trivial, ⟨_, sh_204, (n_in (a := k) (by omega) (by decide))⟩, k_⟩)
  rw [n_cl (a := k) (by omega)]
  rw [ha]
  show w_R xs Ln 115 (77, [(4, .int 0), (3, .int (Int32.ofNat k)), (2, .int (Int32.ofNat i)), (0, .ref 199), (1, .int (Int32.ofNat n))], [.int (Int32.ofNat y), .ref 206, .int 1], (I, J, kR w rem, Z), 0, 0) _
  refine w_R.go (c' := (78, [(4, .int 0), (3, .int (Int32.ofNat k)), (2, .int (Int32.ofNat i)), (0, .ref 199), (1, .int (Int32.ofNat n))], [.int (I 206 (Int32.ofNat y).toNatClampNeg), .int 1], (I, J, kR w rem, Z), 0, 0)) 1 ?_ (fun m_ x_ Q_ k_ => ⟨⟨_, sh_206, (n_in (a := y) (by omega) (by decide))⟩, k_⟩)
  rw [n_cl (a := y) (by omega)]
  rw [h1]
  show w_R xs Ln 115 (78, [(4, .int 0), (3, .int (Int32.ofNat k)), (2, .int (Int32.ofNat i)), (0, .ref 199), (1, .int (Int32.ofNat n))], [.int (Int32.ofNat a), .int 1], (I, J, kR w rem, Z), 0, 0) _
  refine w_R.go (c' := (88, [(4, .int 0), (3, .int (Int32.ofNat k)), (2, .int (Int32.ofNat i)), (0, .ref 199), (1, .int (Int32.ofNat n))], [.int (I 205 (Int32.ofNat k).toNatClampNeg), .ref 206, .int (Int32.ofNat a), .int 1], (I, J, kR w rem, Z), 0, 0)) 6 ?_ (fun m_ x_ Q_ k_ => ⟨trivial, ⟨sh_199, (Nat.succ_ne_zero 205)⟩, trivial, ⟨sh_199, (Nat.succ_ne_zero 204)⟩, trivial, ⟨_, sh_205, (n_in (a := k) (by omega) (by decide))⟩, k_⟩)
  rw [n_cl (a := k) (by omega)]
  rw [hb]
  show w_R xs Ln 115 (88, [(4, .int 0), (3, .int (Int32.ofNat k)), (2, .int (Int32.ofNat i)), (0, .ref 199), (1, .int (Int32.ofNat n))], [.int (Int32.ofNat z), .ref 206, .int (Int32.ofNat a), .int 1], (I, J, kR w rem, Z), 0, 0) _
  refine w_R.go (c' := (89, [(4, .int 0), (3, .int (Int32.ofNat k)), (2, .int (Int32.ofNat i)), (0, .ref 199), (1, .int (Int32.ofNat n))], [.int (I 206 (Int32.ofNat z).toNatClampNeg), .int (Int32.ofNat a), .int 1], (I, J, kR w rem, Z), 0, 0)) 1 ?_ (fun m_ x_ Q_ k_ => ⟨⟨_, sh_206, (n_in (a := z) (by omega) (by decide))⟩, k_⟩)
  rw [n_cl (a := z) (by omega)]
  rw [h2]
  show w_R xs Ln 115 (89, [(4, .int 0), (3, .int (Int32.ofNat k)), (2, .int (Int32.ofNat i)), (0, .ref 199), (1, .int (Int32.ofNat n))], [.int (Int32.ofNat b), .int (Int32.ofNat a), .int 1], (I, J, kR w rem, Z), 0, 0) _
  refine w_R.go (c' := (i_br .le (Int32.ofNat a) (Int32.ofNat b) 106 92, [(4, .int 0), (3, .int (Int32.ofNat k)), (2, .int (Int32.ofNat i)), (0, .ref 199), (1, .int (Int32.ofNat n))], [.int 1], (I, J, kR w rem, Z), 0, 0)) 1 ?_ (fun m_ x_ Q_ k_ => ⟨trivial, k_⟩)
  rw [show i_br .le (Int32.ofNat a) (Int32.ofNat b) 106 92 = 92 from if_neg (Int32.not_le.mpr h3)]
  show w_R xs Ln 115 (92, [(4, .int 0), (3, .int (Int32.ofNat k)), (2, .int (Int32.ofNat i)), (0, .ref 199), (1, .int (Int32.ofNat n))], [.int 1], (I, J, kR w rem, Z), 0, 0) _
  refine w_R.go (c' := (102, [(4, .int 0), (3, .int (Int32.ofNat k)), (2, .int (Int32.ofNat i)), (0, .ref 199), (1, .int (Int32.ofNat n))], [.int (I 204 (Int32.ofNat k).toNatClampNeg), .ref 206, .int 1], (I, J, kR w rem, Z), 0, 0)) 6 ?_ (fun m_ x_ Q_ k_ => ⟨trivial, ⟨sh_199, (Nat.succ_ne_zero 205)⟩, trivial, ⟨sh_199, (Nat.succ_ne_zero 203)⟩, trivial, ⟨_, sh_204, (n_in (a := k) (by omega) (by decide))⟩, k_⟩)
  rw [n_cl (a := k) (by omega)]
  rw [ha]
  show w_R xs Ln 115 (102, [(4, .int 0), (3, .int (Int32.ofNat k)), (2, .int (Int32.ofNat i)), (0, .ref 199), (1, .int (Int32.ofNat n))], [.int (Int32.ofNat y), .ref 206, .int 1], (I, J, kR w rem, Z), 0, 0) _
  refine w_R.go (c' := (103, [(4, .int 0), (3, .int (Int32.ofNat k)), (2, .int (Int32.ofNat i)), (0, .ref 199), (1, .int (Int32.ofNat n))], [.int (I 206 (Int32.ofNat y).toNatClampNeg), .int 1], (I, J, kR w rem, Z), 0, 0)) 1 ?_ (fun m_ x_ Q_ k_ => ⟨⟨_, sh_206, (n_in (a := y) (by omega) (by decide))⟩, k_⟩)
  rw [n_cl (a := y) (by omega)]
  rw [h1]
  show w_R xs Ln 115 (103, [(4, .int 0), (3, .int (Int32.ofNat k)), (2, .int (Int32.ofNat i)), (0, .ref 199), (1, .int (Int32.ofNat n))], [.int (Int32.ofNat a), .int 1], (I, J, kR w rem, Z), 0, 0) _
  refine w_R.go (c' := (118, [(4, .int 0), (3, .int (Int32.ofNat k)), (2, .int (Int32.ofNat i)), (0, .ref 199), (1, .int (Int32.ofNat n))], [.int (Int32.ofNat 1 + Int32.ofNat a)], (I, J, kR w rem, Z), 0, 0)) 2 ?_ (fun m_ x_ Q_ k_ => ⟨trivial, trivial, k_⟩)
  rw [n_add 1 a]
  show w_R xs Ln 115 (118, [(4, .int 0), (3, .int (Int32.ofNat k)), (2, .int (Int32.ofNat i)), (0, .ref 199), (1, .int (Int32.ofNat n))], [.int (Int32.ofNat (1 + a))], (I, J, kR w rem, Z), 0, 0) _
  refine w_R.go (c' := (128, [(4, .int (Int32.ofNat (1 + a))), (3, .int (Int32.ofNat k)), (2, .int (Int32.ofNat i)), (0, .ref 199), (1, .int (Int32.ofNat n))], [], (s_up I 207 ((Int32.ofNat k).toNatClampNeg) (Int32.ofNat (1 + a)), J, kR w rem, Z), 0, 0)) 6 ?_ (fun m_ x_ Q_ k_ => ⟨trivial, trivial, ⟨sh_199, (Nat.succ_ne_zero 206)⟩, trivial, trivial, ⟨_, sh_207, (n_in (a := k) (by omega) (by decide))⟩, k_⟩)
  rw [n_cl (a := k) (by omega)]
  show w_R xs Ln 115 (128, [(4, .int (Int32.ofNat (1 + a))), (3, .int (Int32.ofNat k)), (2, .int (Int32.ofNat i)), (0, .ref 199), (1, .int (Int32.ofNat n))], [], (s_up I 207 k (Int32.ofNat (1 + a)), J, kR w rem, Z), 0, 0) _
  refine w_R.go (c' := (131, [(3, .int (Int32.ofNat k + Int32.ofNat 1)), (4, .int (Int32.ofNat (1 + a))), (2, .int (Int32.ofNat i)), (0, .ref 199), (1, .int (Int32.ofNat n))], [], (s_up I 207 k (Int32.ofNat (1 + a)), J, kR w rem, Z), 0, 0)) 1 ?_ (fun m_ x_ Q_ k_ => ⟨trivial, k_⟩)
  rw [n_add k 1]
  show w_R xs Ln 115 (131, [(3, .int (Int32.ofNat (k + 1))), (4, .int (Int32.ofNat (1 + a))), (2, .int (Int32.ofNat i)), (0, .ref 199), (1, .int (Int32.ofNat n))], [], (s_up I 207 k (Int32.ofNat (1 + a)), J, kR w rem, Z), 0, 0) _
  refine w_R.go (c' := (48, [(3, .int (Int32.ofNat (k + 1))), (4, .int (Int32.ofNat (1 + a))), (2, .int (Int32.ofNat i)), (0, .ref 199), (1, .int (Int32.ofNat n))], [], (s_up I 207 k (Int32.ofNat (1 + a)), J, kR w rem, Z), 0, 0)) 1 ?_ (fun m_ x_ Q_ k_ => ⟨trivial, k_⟩)
  refine w_R.drop (fun i => decide (4 ≤ i)) ?_
  exact hx
theorem s115f (n : Nat) (i : Nat) (k : Nat) (y : Nat) (z : Nat) (a : Nat) (b : Nat) (hk : k < 16) (hl : I 203 k = 0) (hy : y < 16) (hz2 : z < 16) (ha : I 204 k = Int32.ofNat y) (hb : I 205 k = Int32.ofNat z) (h1 : I 206 y = Int32.ofNat a) (h2 : I 206 z = Int32.ofNat b) (h3 : ¬ (Int32.ofNat b) < (Int32.ofNat a)) (Q : i_O → s_S → Prop) (hx : w_R xs Ln 115 (48, [(3, .int (Int32.ofNat (k + 1))), (2, .int (Int32.ofNat i)), (0, .ref 199), (1, .int (Int32.ofNat n))], [], (s_up I 207 k (Int32.ofNat (1 + b)), J, kR w rem, Z), 0, 0) Q) : w_R xs Ln 115 (48, [(3, .int (Int32.ofNat k)), (2, .int (Int32.ofNat i)), (0, .ref 199), (1, .int (Int32.ofNat n))], [], (I, J, kR w rem, Z), 0, 0) Q := by
  refine w_R.go (c' := (i_br .ge (Int32.ofNat k) 16 134 54, [(3, .int (Int32.ofNat k)), (2, .int (Int32.ofNat i)), (0, .ref 199), (1, .int (Int32.ofNat n))], [], (I, J, kR w rem, Z), 0, 0)) 3 ?_ (fun m_ x_ Q_ k_ => ⟨trivial, trivial, trivial, k_⟩)
  rw [show i_br .ge (Int32.ofNat k) 16 134 54 = 54 from if_neg (Int32.not_le.mpr ((n_lt (a := k) (b := 16) (by omega) (by omega)).mpr (by omega)))]
  show w_R xs Ln 115 (54, [(3, .int (Int32.ofNat k)), (2, .int (Int32.ofNat i)), (0, .ref 199), (1, .int (Int32.ofNat n))], [], (I, J, kR w rem, Z), 0, 0) _
  refine w_R.go (c' := (63, [(4, .int 0), (3, .int (Int32.ofNat k)), (2, .int (Int32.ofNat i)), (0, .ref 199), (1, .int (Int32.ofNat n))], [.int (I 203 (Int32.ofNat k).toNatClampNeg)], (I, J, kR w rem, Z), 0, 0)) 6 ?_ (fun m_ x_ Q_ k_ => ⟨trivial, trivial, trivial, ⟨sh_199, (Nat.succ_ne_zero 202)⟩, trivial, ⟨_, sh_203, (n_in (a := k) (by omega) (by decide))⟩, k_⟩)
  rw [n_cl (a := k) (by omega)]
  show w_R xs Ln 115 (63, [(4, .int 0), (3, .int (Int32.ofNat k)), (2, .int (Int32.ofNat i)), (0, .ref 199), (1, .int (Int32.ofNat n))], [.int (I 203 k)], (I, J, kR w rem, Z), 0, 0) _
  refine w_R.go (c' := (i_br .ne (I 203 k) 0 120 66, [(4, .int 0), (3, .int (Int32.ofNat k)), (2, .int (Int32.ofNat i)), (0, .ref 199), (1, .int (Int32.ofNat n))], [], (I, J, kR w rem, Z), 0, 0)) 1 ?_ (fun m_ x_ Q_ k_ => ⟨trivial, k_⟩)
  rw [show i_br .ne (I 203 k) 0 120 66 = 66 from if_pos hl]
  show w_R xs Ln 115 (66, [(4, .int 0), (3, .int (Int32.ofNat k)), (2, .int (Int32.ofNat i)), (0, .ref 199), (1, .int (Int32.ofNat n))], [], (I, J, kR w rem, Z), 0, 0) _
  refine w_R.go (c' := (77, [(4, .int 0), (3, .int (Int32.ofNat k)), (2, .int (Int32.ofNat i)), (0, .ref 199), (1, .int (Int32.ofNat n))], [.int (I 204 (Int32.ofNat k).toNatClampNeg), .ref 206, .int 1], (I, J, kR w rem, Z), 0, 0)) 7 ?_ (fun m_ x_ Q_ k_ => ⟨trivial, trivial, ⟨sh_199, (Nat.succ_ne_zero 205)⟩, trivial, ⟨sh_199, (Nat.succ_ne_zero 203)⟩, trivial, ⟨_, sh_204, (n_in (a := k) (by omega) (by decide))⟩, k_⟩)
  rw [n_cl (a := k) (by omega)]
  rw [ha]
  show w_R xs Ln 115 (77, [(4, .int 0), (3, .int (Int32.ofNat k)), (2, .int (Int32.ofNat i)), (0, .ref 199), (1, .int (Int32.ofNat n))], [.int (Int32.ofNat y), .ref 206, .int 1], (I, J, kR w rem, Z), 0, 0) _
  refine w_R.go (c' := (78, [(4, .int 0), (3, .int (Int32.ofNat k)), (2, .int (Int32.ofNat i)), (0, .ref 199), (1, .int (Int32.ofNat n))], [.int (I 206 (Int32.ofNat y).toNatClampNeg), .int 1], (I, J, kR w rem, Z), 0, 0)) 1 ?_ (fun m_ x_ Q_ k_ => ⟨⟨_, sh_206, (n_in (a := y) (by omega) (by decide))⟩, k_⟩)
  rw [n_cl (a := y) (by omega)]
  rw [h1]
  show w_R xs Ln 115 (78, [(4, .int 0), (3, .int (Int32.ofNat k)), (2, .int (Int32.ofNat i)), (0, .ref 199), (1, .int (Int32.ofNat n))], [.int (Int32.ofNat a), .int 1], (I, J, kR w rem, Z), 0, 0) _
  refine w_R.go (c' := (88, [(4, .int 0), (3, .int (Int32.ofNat k)), (2, .int (Int32.ofNat i)), (0, .ref 199), (1, .int (Int32.ofNat n))], [.int (I 205 (Int32.ofNat k).toNatClampNeg), .ref 206, .int (Int32.ofNat a), .int 1], (I, J, kR w rem, Z), 0, 0)) 6 ?_ (fun m_ x_ Q_ k_ => ⟨trivial, ⟨sh_199, (Nat.succ_ne_zero 205)⟩, trivial, ⟨sh_199, (Nat.succ_ne_zero 204)⟩, trivial, ⟨_, sh_205, (n_in (a := k) (by omega) (by decide))⟩, k_⟩)
  rw [n_cl (a := k) (by omega)]
  rw [hb]
  show w_R xs Ln 115 (88, [(4, .int 0), (3, .int (Int32.ofNat k)), (2, .int (Int32.ofNat i)), (0, .ref 199), (1, .int (Int32.ofNat n))], [.int (Int32.ofNat z), .ref 206, .int (Int32.ofNat a), .int 1], (I, J, kR w rem, Z), 0, 0) _
  refine w_R.go (c' := (89, [(4, .int 0), (3, .int (Int32.ofNat k)), (2, .int (Int32.ofNat i)), (0, .ref 199), (1, .int (Int32.ofNat n))], [.int (I 206 (Int32.ofNat z).toNatClampNeg), .int (Int32.ofNat a), .int 1], (I, J, kR w rem, Z), 0, 0)) 1 ?_ (fun m_ x_ Q_ k_ => ⟨⟨_, sh_206, (n_in (a := z) (by omega) (by decide))⟩, k_⟩)
  rw [n_cl (a := z) (by omega)]
  rw [h2]
  show w_R xs Ln 115 (89, [(4, .int 0), (3, .int (Int32.ofNat k)), (2, .int (Int32.ofNat i)), (0, .ref 199), (1, .int (Int32.ofNat n))], [.int (Int32.ofNat b), .int (Int32.ofNat a), .int 1], (I, J, kR w rem, Z), 0, 0) _
  refine w_R.go (c' := (i_br .le (Int32.ofNat a) (Int32.ofNat b) 106 92, [(4, .int 0), (3, .int (Int32.ofNat k)), (2, .int (Int32.ofNat i)), (0, .ref 199), (1, .int (Int32.ofNat n))], [.int 1], (I, J, kR w rem, Z), 0, 0)) 1 ?_ (fun m_ x_ Q_ k_ => ⟨trivial, k_⟩)
  rw [show i_br .le (Int32.ofNat a) (Int32.ofNat b) 106 92 = 106 from if_pos (Int32.not_lt.mp h3)]
  show w_R xs Ln 115 (106, [(4, .int 0), (3, .int (Int32.ofNat k)), (2, .int (Int32.ofNat i)), (0, .ref 199), (1, .int (Int32.ofNat n))], [.int 1], (I, J, kR w rem, Z), 0, 0) _
  refine w_R.go (c' := (116, [(4, .int 0), (3, .int (Int32.ofNat k)), (2, .int (Int32.ofNat i)), (0, .ref 199), (1, .int (Int32.ofNat n))], [.int (I 205 (Int32.ofNat k).toNatClampNeg), .ref 206, .int 1], (I, J, kR w rem, Z), 0, 0)) 6 ?_ (fun m_ x_ Q_ k_ => ⟨trivial, ⟨sh_199, (Nat.succ_ne_zero 205)⟩, trivial, ⟨sh_199, (Nat.succ_ne_zero 204)⟩, trivial, ⟨_, sh_205, (n_in (a := k) (by omega) (by decide))⟩, k_⟩)
  rw [n_cl (a := k) (by omega)]
  rw [hb]
  show w_R xs Ln 115 (116, [(4, .int 0), (3, .int (Int32.ofNat k)), (2, .int (Int32.ofNat i)), (0, .ref 199), (1, .int (Int32.ofNat n))], [.int (Int32.ofNat z), .ref 206, .int 1], (I, J, kR w rem, Z), 0, 0) _
  refine w_R.go (c' := (117, [(4, .int 0), (3, .int (Int32.ofNat k)), (2, .int (Int32.ofNat i)), (0, .ref 199), (1, .int (Int32.ofNat n))], [.int (I 206 (Int32.ofNat z).toNatClampNeg), .int 1], (I, J, kR w rem, Z), 0, 0)) 1 ?_ (fun m_ x_ Q_ k_ => ⟨⟨_, sh_206, (n_in (a := z) (by omega) (by decide))⟩, k_⟩)
  rw [n_cl (a := z) (by omega)]
  rw [h2]
  show w_R xs Ln 115 (117, [(4, .int 0), (3, .int (Int32.ofNat k)), (2, .int (Int32.ofNat i)), (0, .ref 199), (1, .int (Int32.ofNat n))], [.int (Int32.ofNat b), .int 1], (I, J, kR w rem, Z), 0, 0) _
  refine w_R.go (c' := (118, [(4, .int 0), (3, .int (Int32.ofNat k)), (2, .int (Int32.ofNat i)), (0, .ref 199), (1, .int (Int32.ofNat n))], [.int (Int32.ofNat 1 + Int32.ofNat b)], (I, J, kR w rem, Z), 0, 0)) 1 ?_ (fun m_ x_ Q_ k_ => ⟨trivial, k_⟩)
  rw [n_add 1 b]
  show w_R xs Ln 115 (118, [(4, .int 0), (3, .int (Int32.ofNat k)), (2, .int (Int32.ofNat i)), (0, .ref 199), (1, .int (Int32.ofNat n))], [.int (Int32.ofNat (1 + b))], (I, J, kR w rem, Z), 0, 0) _
  refine w_R.go (c' := (128, [(4, .int (Int32.ofNat (1 + b))), (3, .int (Int32.ofNat k)), (2, .int (Int32.ofNat i)), (0, .ref 199), (1, .int (Int32.ofNat n))], [], (s_up I 207 ((Int32.ofNat k).toNatClampNeg) (Int32.ofNat (1 + b)), J, kR w rem, Z), 0, 0)) 6 ?_ (fun m_ x_ Q_ k_ => ⟨trivial, trivial, ⟨sh_199, (Nat.succ_ne_zero 206)⟩, trivial, trivial, ⟨_, sh_207, (n_in (a := k) (by omega) (by decide))⟩, k_⟩)
  rw [n_cl (a := k) (by omega)]
  show w_R xs Ln 115 (128, [(4, .int (Int32.ofNat (1 + b))), (3, .int (Int32.ofNat k)), (2, .int (Int32.ofNat i)), (0, .ref 199), (1, .int (Int32.ofNat n))], [], (s_up I 207 k (Int32.ofNat (1 + b)), J, kR w rem, Z), 0, 0) _
  refine w_R.go (c' := (131, [(3, .int (Int32.ofNat k + Int32.ofNat 1)), (4, .int (Int32.ofNat (1 + b))), (2, .int (Int32.ofNat i)), (0, .ref 199), (1, .int (Int32.ofNat n))], [], (s_up I 207 k (Int32.ofNat (1 + b)), J, kR w rem, Z), 0, 0)) 1 ?_ (fun m_ x_ Q_ k_ => ⟨trivial, k_⟩)
  rw [n_add k 1]
  show w_R xs Ln 115 (131, [(3, .int (Int32.ofNat (k + 1))), (4, .int (Int32.ofNat (1 + b))), (2, .int (Int32.ofNat i)), (0, .ref 199), (1, .int (Int32.ofNat n))], [], (s_up I 207 k (Int32.ofNat (1 + b)), J, kR w rem, Z), 0, 0) _
  refine w_R.go (c' := (48, [(3, .int (Int32.ofNat (k + 1))), (4, .int (Int32.ofNat (1 + b))), (2, .int (Int32.ofNat i)), (0, .ref 199), (1, .int (Int32.ofNat n))], [], (s_up I 207 k (Int32.ofNat (1 + b)), J, kR w rem, Z), 0, 0)) 1 ?_ (fun m_ x_ Q_ k_ => ⟨trivial, k_⟩)
  refine w_R.drop (fun i => decide (4 ≤ i)) ?_
  exact hx
theorem s115g (n : Nat) (i : Nat)  (Q : i_O → s_S → Prop) (hx : w_R xs Ln 115 (136, [(3, .int 0), (2, .int (Int32.ofNat i)), (0, .ref 199), (1, .int (Int32.ofNat n))], [], (I, J, kR w rem, Z), 0, 0) Q) : w_R xs Ln 115 (48, [(3, .int 16), (2, .int (Int32.ofNat i)), (0, .ref 199), (1, .int (Int32.ofNat n))], [], (I, J, kR w rem, Z), 0, 0) Q := by
  refine w_R.go (c' := (134, [(3, .int 16), (2, .int (Int32.ofNat i)), (0, .ref 199), (1, .int (Int32.ofNat n))], [], (I, J, kR w rem, Z), 0, 0)) 3 ?_ (fun m_ x_ Q_ k_ => ⟨trivial, trivial, trivial, k_⟩)
  refine w_R.go (c' := (136, [(3, .int 0), (2, .int (Int32.ofNat i)), (0, .ref 199), (1, .int (Int32.ofNat n))], [], (I, J, kR w rem, Z), 0, 0)) 2 ?_ (fun m_ x_ Q_ k_ => ⟨trivial, trivial, k_⟩)
  exact hx
theorem s115h (n : Nat) (i : Nat) (k : Nat) (hk : k < 16) (Q : i_O → s_S → Prop) (hx : w_R xs Ln 115 (136, [(3, .int (Int32.ofNat (k + 1))), (2, .int (Int32.ofNat i)), (0, .ref 199), (1, .int (Int32.ofNat n))], [], (s_up I 206 k (I 207 k), J, kR w rem, Z), 0, 0) Q) : w_R xs Ln 115 (136, [(3, .int (Int32.ofNat k)), (2, .int (Int32.ofNat i)), (0, .ref 199), (1, .int (Int32.ofNat n))], [], (I, J, kR w rem, Z), 0, 0) Q := by
  refine w_R.go (c' := (i_br .ge (Int32.ofNat k) 16 160 142, [(3, .int (Int32.ofNat k)), (2, .int (Int32.ofNat i)), (0, .ref 199), (1, .int (Int32.ofNat n))], [], (I, J, kR w rem, Z), 0, 0)) 3 ?_ (fun m_ x_ Q_ k_ => ⟨trivial, trivial, trivial, k_⟩)
  rw [show i_br .ge (Int32.ofNat k) 16 160 142 = 142 from if_neg (Int32.not_le.mpr ((n_lt (a := k) (b := 16) (by omega) (by omega)).mpr (by omega)))]
  show w_R xs Ln 115 (142, [(3, .int (Int32.ofNat k)), (2, .int (Int32.ofNat i)), (0, .ref 199), (1, .int (Int32.ofNat n))], [], (I, J, kR w rem, Z), 0, 0) _
  refine w_R.go (c' := (153, [(3, .int (Int32.ofNat k)), (2, .int (Int32.ofNat i)), (0, .ref 199), (1, .int (Int32.ofNat n))], [.int (I 207 (Int32.ofNat k).toNatClampNeg), .int (Int32.ofNat k), .ref 206], (I, J, kR w rem, Z), 0, 0)) 7 ?_ (fun m_ x_ Q_ k_ => ⟨trivial, ⟨sh_199, (Nat.succ_ne_zero 205)⟩, trivial, trivial, ⟨sh_199, (Nat.succ_ne_zero 206)⟩, trivial, ⟨_, sh_207, (n_in (a := k) (by omega) (by decide))⟩, k_⟩)
  rw [n_cl (a := k) (by omega)]
  show w_R xs Ln 115 (153, [(3, .int (Int32.ofNat k)), (2, .int (Int32.ofNat i)), (0, .ref 199), (1, .int (Int32.ofNat n))], [.int (I 207 k), .int (Int32.ofNat k), .ref 206], (I, J, kR w rem, Z), 0, 0) _
  refine w_R.go (c' := (154, [(3, .int (Int32.ofNat k)), (2, .int (Int32.ofNat i)), (0, .ref 199), (1, .int (Int32.ofNat n))], [], (s_up I 206 ((Int32.ofNat k).toNatClampNeg) (I 207 k), J, kR w rem, Z), 0, 0)) 1 ?_ (fun m_ x_ Q_ k_ => ⟨⟨_, sh_206, (n_in (a := k) (by omega) (by decide))⟩, k_⟩)
  rw [n_cl (a := k) (by omega)]
  show w_R xs Ln 115 (154, [(3, .int (Int32.ofNat k)), (2, .int (Int32.ofNat i)), (0, .ref 199), (1, .int (Int32.ofNat n))], [], (s_up I 206 k (I 207 k), J, kR w rem, Z), 0, 0) _
  refine w_R.go (c' := (157, [(3, .int (Int32.ofNat k + Int32.ofNat 1)), (2, .int (Int32.ofNat i)), (0, .ref 199), (1, .int (Int32.ofNat n))], [], (s_up I 206 k (I 207 k), J, kR w rem, Z), 0, 0)) 1 ?_ (fun m_ x_ Q_ k_ => ⟨trivial, k_⟩)
  rw [n_add k 1]
  show w_R xs Ln 115 (157, [(3, .int (Int32.ofNat (k + 1))), (2, .int (Int32.ofNat i)), (0, .ref 199), (1, .int (Int32.ofNat n))], [], (s_up I 206 k (I 207 k), J, kR w rem, Z), 0, 0) _
  refine w_R.go (c' := (136, [(3, .int (Int32.ofNat (k + 1))), (2, .int (Int32.ofNat i)), (0, .ref 199), (1, .int (Int32.ofNat n))], [], (s_up I 206 k (I 207 k), J, kR w rem, Z), 0, 0)) 1 ?_ (fun m_ x_ Q_ k_ => ⟨trivial, k_⟩)
  exact hx
set_option maxRecDepth 4096 in
theorem s115i (n : Nat) (i : Nat)  (Q : i_O → s_S → Prop) (hx : w_R xs Ln 115 (40, [(2, .int (Int32.ofNat (i + 1))), (0, .ref 199), (1, .int (Int32.ofNat n))], [], (I, J, kR w rem, Z), 0, 0) Q) : w_R xs Ln 115 (136, [(3, .int 16), (2, .int (Int32.ofNat i)), (0, .ref 199), (1, .int (Int32.ofNat n))], [], (I, J, kR w rem, Z), 0, 0) Q := by
  refine w_R.go (c' := (160, [(3, .int 16), (2, .int (Int32.ofNat i)), (0, .ref 199), (1, .int (Int32.ofNat n))], [], (I, J, kR w rem, Z), 0, 0)) 3 ?_ (fun m_ x_ Q_ k_ => ⟨trivial, trivial, trivial, k_⟩)
  refine w_R.go (c' := (163, [(2, .int (Int32.ofNat i + Int32.ofNat 1)), (3, .int 16), (0, .ref 199), (1, .int (Int32.ofNat n))], [], (I, J, kR w rem, Z), 0, 0)) 1 ?_ (fun m_ x_ Q_ k_ => ⟨trivial, k_⟩)
  rw [n_add i 1]
  show w_R xs Ln 115 (163, [(2, .int (Int32.ofNat (i + 1))), (3, .int 16), (0, .ref 199), (1, .int (Int32.ofNat n))], [], (I, J, kR w rem, Z), 0, 0) _
  refine w_R.go (c' := (40, [(2, .int (Int32.ofNat (i + 1))), (3, .int 16), (0, .ref 199), (1, .int (Int32.ofNat n))], [], (I, J, kR w rem, Z), 0, 0)) 1 ?_ (fun m_ x_ Q_ k_ => ⟨trivial, k_⟩)
  refine w_R.drop (fun i => decide (3 ≤ i)) ?_
  exact hx
theorem s115r (n : Nat) (a : Nat) (hn : n < 16) (ha : I 206 n = Int32.ofNat a) (h1 : ¬ 16 < Int32.ofNat a) : w_R xs Ln 115 (40, [(2, .int 17), (0, .ref 199), (1, .int (Int32.ofNat n))], [], (I, J, kR w rem, Z), 0, 0) (fun o s => o = .inl (some (.int (Int32.ofNat a))) ∧ s = (I, J, kR w rem, Z)) := by
  refine w_R.go (c' := (166, [(2, .int 17), (0, .ref 199), (1, .int (Int32.ofNat n))], [], (I, J, kR w rem, Z), 0, 0)) 3 ?_ (fun m_ x_ Q_ k_ => ⟨trivial, trivial, trivial, k_⟩)
  refine w_R.go (c' := (172, [(2, .int 17), (0, .ref 199), (1, .int (Int32.ofNat n))], [.int (I 206 (Int32.ofNat n).toNatClampNeg)], (I, J, kR w rem, Z), 0, 0)) 4 ?_ (fun m_ x_ Q_ k_ => ⟨trivial, ⟨sh_199, (Nat.succ_ne_zero 205)⟩, trivial, ⟨_, sh_206, (n_in (a := n) (by omega) (by decide))⟩, k_⟩)
  rw [n_cl (a := n) (by omega)]
  rw [ha]
  show w_R xs Ln 115 (172, [(2, .int 17), (0, .ref 199), (1, .int (Int32.ofNat n))], [.int (Int32.ofNat a)], (I, J, kR w rem, Z), 0, 0) _
  refine w_R.go (c' := (i_br .le (Int32.ofNat a) 16 181 177, [(2, .int 17), (0, .ref 199), (1, .int (Int32.ofNat n))], [], (I, J, kR w rem, Z), 0, 0)) 2 ?_ (fun m_ x_ Q_ k_ => ⟨trivial, trivial, k_⟩)
  rw [show i_br .le (Int32.ofNat a) 16 181 177 = 181 from if_pos (Int32.not_lt.mp h1)]
  show w_R xs Ln 115 (181, [(2, .int 17), (0, .ref 199), (1, .int (Int32.ofNat n))], [], (I, J, kR w rem, Z), 0, 0) _
  refine w_R.go (c' := (187, [(2, .int 17), (0, .ref 199), (1, .int (Int32.ofNat n))], [.int (I 206 (Int32.ofNat n).toNatClampNeg)], (I, J, kR w rem, Z), 0, 0)) 4 ?_ (fun m_ x_ Q_ k_ => ⟨trivial, ⟨sh_199, (Nat.succ_ne_zero 205)⟩, trivial, ⟨_, sh_206, (n_in (a := n) (by omega) (by decide))⟩, k_⟩)
  rw [n_cl (a := n) (by omega)]
  rw [ha]
  show w_R xs Ln 115 (187, [(2, .int 17), (0, .ref 199), (1, .int (Int32.ofNat n))], [.int (Int32.ofNat a)], (I, J, kR w rem, Z), 0, 0) _
  refine w_R.ret 1 (.inl (some (.int (Int32.ofNat a)))) (I, J, kR w rem, Z) ?_ (fun x_ Q_ k_ => ⟨trivial, ⟨Nat.le_of_ble_eq_true rfl, Nat.le_of_ble_eq_true rfl⟩, k_⟩)
  exact ⟨rfl, rfl⟩
theorem s115s (n : Nat) (a : Nat) (hn : n < 16) (ha : I 206 n = Int32.ofNat a) (h1 : 16 < Int32.ofNat a) : w_R xs Ln 115 (40, [(2, .int 17), (0, .ref 199), (1, .int (Int32.ofNat n))], [], (I, J, kR w rem, Z), 0, 0) (fun o s => o = .inl (some (.int (-1))) ∧ s = (I, J, kR w rem, Z)) := by
  refine w_R.go (c' := (166, [(2, .int 17), (0, .ref 199), (1, .int (Int32.ofNat n))], [], (I, J, kR w rem, Z), 0, 0)) 3 ?_ (fun m_ x_ Q_ k_ => ⟨trivial, trivial, trivial, k_⟩)
  refine w_R.go (c' := (172, [(2, .int 17), (0, .ref 199), (1, .int (Int32.ofNat n))], [.int (I 206 (Int32.ofNat n).toNatClampNeg)], (I, J, kR w rem, Z), 0, 0)) 4 ?_ (fun m_ x_ Q_ k_ => ⟨trivial, ⟨sh_199, (Nat.succ_ne_zero 205)⟩, trivial, ⟨_, sh_206, (n_in (a := n) (by omega) (by decide))⟩, k_⟩)
  rw [n_cl (a := n) (by omega)]
  rw [ha]
  show w_R xs Ln 115 (172, [(2, .int 17), (0, .ref 199), (1, .int (Int32.ofNat n))], [.int (Int32.ofNat a)], (I, J, kR w rem, Z), 0, 0) _
  refine w_R.go (c' := (i_br .le (Int32.ofNat a) 16 181 177, [(2, .int 17), (0, .ref 199), (1, .int (Int32.ofNat n))], [], (I, J, kR w rem, Z), 0, 0)) 2 ?_ (fun m_ x_ Q_ k_ => ⟨trivial, trivial, k_⟩)
  rw [show i_br .le (Int32.ofNat a) 16 181 177 = 177 from if_neg (Int32.not_le.mpr h1)]
  show w_R xs Ln 115 (177, [(2, .int 17), (0, .ref 199), (1, .int (Int32.ofNat n))], [], (I, J, kR w rem, Z), 0, 0) _
  refine w_R.ret 3 (.inl (some (.int (-1)))) (I, J, kR w rem, Z) ?_ (fun x_ Q_ k_ => ⟨trivial, trivial, trivial, ⟨Nat.le_of_ble_eq_true rfl, Nat.le_of_ble_eq_true rfl⟩, k_⟩)
  exact ⟨rfl, rfl⟩
end RunsP
