section RunsP
variable {xs : Nat → Int32} {Ln : Nat} {I : Nat → Nat → Int32} {J : Nat → Nat → Int64} {Z : Nat → Nat → Bool} {w : Nat → Nat} {rem : Nat}
theorem s52Y (r : Nat) (t : Int32)  (Q : i_O → s_S → Prop) (hx : w_R xs Ln 52 (2, [(3, .int 0), (0, .ref 1), (1, .int (Int32.ofNat r)), (2, .int t)], [], (I, J, kR w rem, Z), 0, 0) Q) : w_R xs Ln 52 (0, [(0, .ref 1), (1, .int (Int32.ofNat r)), (2, .int t)], [], (I, J, kR w rem, Z), 0, 0) Q := by
  refine w_R.go (c' := (2, [(3, .int 0), (0, .ref 1), (1, .int (Int32.ofNat r)), (2, .int t)], [], (I, J, kR w rem, Z), 0, 0)) 2 ?_ (fun m_ x_ Q_ k_ => ⟨trivial, trivial, k_⟩)
  exact hx
theorem s52R (r : Nat) (t : Int32) : w_R xs Ln 52 (45, [(3, .int 16), (0, .ref 1), (1, .int (Int32.ofNat r)), (2, .int t)], [], (I, J, kR w rem, Z), 0, 0) (fun o s => o = .inl none ∧ s = (I, J, kR w rem, Z)) := by
  refine w_R.ret 1 (.inl none) (I, J, kR w rem, Z) ?_ (fun x_ Q_ k_ => ⟨⟨Nat.le_of_ble_eq_true rfl, Nat.le_of_ble_eq_true rfl⟩, k_⟩)
  exact ⟨rfl, rfl⟩
theorem s50R (b : Nat) (x5 : Nat) (x4 : Int32) (d : Nat) (r : Nat) : w_R xs Ln 50 (122, [(6, .int 16), (5, .ref x5), (4, .int x4), (3, .int (Int32.ofNat d)), (2, .int (Int32.ofNat r)), (0, .ref 1), (1, .ref (35 + 2 * b))], [], (I, J, kR w rem, Z), 0, 0) (fun o s => o = .inl none ∧ s = (I, J, kR w rem, Z)) := by
  refine w_R.ret 1 (.inl none) (I, J, kR w rem, Z) ?_ (fun x_ Q_ k_ => ⟨⟨Nat.le_of_ble_eq_true rfl, Nat.le_of_ble_eq_true rfl⟩, k_⟩)
  exact ⟨rfl, rfl⟩
theorem s123R (d : Nat) (r : Nat) (x3 : Int32) : w_R xs Ln 123 (185, [(4, .int 16), (3, .int x3), (2, .int (Int32.ofNat r)), (1, .int (Int32.ofNat d)), (0, .ref 199)], [], (I, J, kR w rem, Z), 0, 0) (fun o s => o = .inl none ∧ s = (I, J, kR w rem, Z)) := by
  refine w_R.ret 1 (.inl none) (I, J, kR w rem, Z) ?_ (fun x_ Q_ k_ => ⟨⟨Nat.le_of_ble_eq_true rfl, Nat.le_of_ble_eq_true rfl⟩, k_⟩)
  exact ⟨rfl, rfl⟩
theorem s128R (r : Nat) : w_R xs Ln 128 (184, [(2, .int 16), (0, .ref 199), (1, .int (Int32.ofNat r))], [], (I, J, kR w rem, Z), 0, 0) (fun o s => o = .inl none ∧ s = (I, J, kR w rem, Z)) := by
  refine w_R.ret 1 (.inl none) (I, J, kR w rem, Z) ?_ (fun x_ Q_ k_ => ⟨⟨Nat.le_of_ble_eq_true rfl, Nat.le_of_ble_eq_true rfl⟩, k_⟩)
  exact ⟨rfl, rfl⟩
theorem s128Y (r : Nat) (hr : r < 2) (hkd : I 242 48 = Int32.ofNat 7) (hz : Z 217 r = false) (Q : i_O → s_S → Prop) (hx : w_R xs Ln 128 (144, [(2, .int 0), (0, .ref 199), (1, .int (Int32.ofNat r))], [], (I, J, kR w rem, Z), 0, 0) Q) : w_R xs Ln 128 (0, [(0, .ref 199), (1, .int (Int32.ofNat r))], [], (I, J, kR w rem, Z), 0, 0) Q := by
  refine w_R.go (c' := (i_br .ge (Int32.ofNat r) 2 15 5, [(0, .ref 199), (1, .int (Int32.ofNat r))], [], (I, J, kR w rem, Z), 0, 0)) 3 ?_ (fun m_ x_ Q_ k_ => ⟨trivial, trivial, trivial, k_⟩)
  rw [show i_br .ge (Int32.ofNat r) 2 15 5 = 5 from if_neg (Int32.not_le.mpr ((n_lt (a := r) (b := 2) (by omega) (by omega)).mpr (by omega)))]
  show w_R xs Ln 128 (5, [(0, .ref 199), (1, .int (Int32.ofNat r))], [], (I, J, kR w rem, Z), 0, 0) _
  refine w_R.go (c' := (11, [(0, .ref 199), (1, .int (Int32.ofNat r))], [.int (s_b (Z 217 (Int32.ofNat r).toNatClampNeg))], (I, J, kR w rem, Z), 0, 0)) 4 ?_ (fun m_ x_ Q_ k_ => ⟨trivial, ⟨sh_199, (Nat.succ_ne_zero 216)⟩, trivial, ⟨_, sh_217, (n_in (a := r) (by omega) (by decide))⟩, k_⟩)
  rw [n_cl (a := r) (by omega)]
  rw [hz]
  show w_R xs Ln 128 (11, [(0, .ref 199), (1, .int (Int32.ofNat r))], [.int (s_b false)], (I, J, kR w rem, Z), 0, 0) _
  refine w_R.go (c' := (15, [(0, .ref 199), (1, .int (Int32.ofNat r))], [], (I, J, kR w rem, Z), 0, 0)) 1 ?_ (fun m_ x_ Q_ k_ => ⟨trivial, k_⟩)
  refine w_R.go (c' := (22, [(0, .ref 199), (1, .int (Int32.ofNat r))], [.int (I 242 48)], (I, J, kR w rem, Z), 0, 0)) 4 ?_ (fun m_ x_ Q_ k_ => ⟨trivial, ⟨sh_199, (Nat.succ_ne_zero 241)⟩, trivial, ⟨_, sh_242, (n_in (a := 48) (by omega) (by decide))⟩, k_⟩)
  rw [hkd]
  show w_R xs Ln 128 (22, [(0, .ref 199), (1, .int (Int32.ofNat r))], [.int (Int32.ofNat 7)], (I, J, kR w rem, Z), 0, 0) _
  refine w_R.go (c' := (142, [(0, .ref 199), (1, .int (Int32.ofNat r))], [], (I, J, kR w rem, Z), 0, 0)) 1 ?_ (fun m_ x_ Q_ k_ => ⟨trivial, k_⟩)
  refine w_R.go (c' := (144, [(2, .int 0), (0, .ref 199), (1, .int (Int32.ofNat r))], [], (I, J, kR w rem, Z), 0, 0)) 2 ?_ (fun m_ x_ Q_ k_ => ⟨trivial, trivial, k_⟩)
  exact hx
theorem d_128a (I1 : Nat → Nat → Int32) (J1 : Nat → Nat → Int64) (Z1 : Nat → Nat → Bool) (hkd : I 242 48 = Int32.ofNat 0) (h123 : w_R xs Ln 123 (0, [(0, .ref 199)], [], (I, J, kR w rem, Z), 0, 0) (fun o s => o = .inl none ∧ s = (I1, J1, kR w rem, Z1))) : w_R xs Ln 128 (0, [(0, .ref 199), (1, .int 2)], [], (I, J, kR w rem, Z), 0, 0) (fun o s => o = .inl none ∧ s = (I1, J1, kR w rem, Z1)) := by
  refine w_R.go (c' := (15, [(0, .ref 199), (1, .int 2)], [], (I, J, kR w rem, Z), 0, 0)) 3 ?_ (fun m_ x_ Q_ k_ => ⟨trivial, trivial, trivial, k_⟩)
  refine w_R.go (c' := (22, [(0, .ref 199), (1, .int 2)], [.int (I 242 48)], (I, J, kR w rem, Z), 0, 0)) 4 ?_ (fun m_ x_ Q_ k_ => ⟨trivial, ⟨sh_199, (Nat.succ_ne_zero 241)⟩, trivial, ⟨_, sh_242, (n_in (a := 48) (by omega) (by decide))⟩, k_⟩)
  rw [hkd]
  show w_R xs Ln 128 (22, [(0, .ref 199), (1, .int 2)], [.int (Int32.ofNat 0)], (I, J, kR w rem, Z), 0, 0) _
  refine w_R.go (c' := (64, [(0, .ref 199), (1, .int 2)], [], (I, J, kR w rem, Z), 0, 0)) 1 ?_ (fun m_ x_ Q_ k_ => ⟨trivial, k_⟩)
  refine w_R.go (c' := (65, [(0, .ref 199), (1, .int 2)], [.ref 199], (I, J, kR w rem, Z), 0, 0)) 1 ?_ (fun m_ x_ Q_ k_ => ⟨trivial, k_⟩)
  refine w_R.callV (ce' := 0) (sl' := 0) (v := none) (σ' := (I1, J1, kR w rem, Z1)) (as := [.ref 199]) (rest := []) h123 ?_ rfl rfl rfl rfl rfl sh_199 rfl rfl rfl rfl
  show w_R xs Ln 128 (68, [(0, .ref 199), (1, .int 2)], [], (I1, J1, kR w rem, Z1), 0, 0) _
  refine w_R.ret 2 (.inl none) (I1, J1, kR w rem, Z1) ?_ (fun x_ Q_ k_ => ⟨trivial, ⟨Nat.le_of_ble_eq_true rfl, Nat.le_of_ble_eq_true rfl⟩, k_⟩)
  exact ⟨rfl, rfl⟩
theorem d_51u (b : Nat) (r : Nat) (f : Nat) (I1 : Nat → Nat → Int32) (J1 : Nat → Nat → Int64) (Z1 : Nat → Nat → Bool) (hb : b < 50) (hr : r < 2) (hrv : I (35 + 2 * b) 2 = Int32.ofNat r) (hf : f < 2) (hsd : I (35 + 2 * b) 1 = Int32.ofNat f) (hkd : I (35 + 2 * b) 0 = Int32.ofNat 7) (h52 : w_R xs Ln 52 (0, [(0, .ref 1), (1, .int (Int32.ofNat r)), (2, .int (Int32.ofNat f))], [], (I, J, kR w rem, Z), 0, 0) (fun o s => o = .inl none ∧ s = (I1, J1, kR w rem, Z1))) : w_R xs Ln 51 (0, [(0, .ref 1), (1, .ref (35 + 2 * b))], [], (I, J, kR w rem, Z), 0, 0) (fun o s => o = .inl none ∧ s = (I1, J1, kR w rem, Z1)) := by
  refine w_R.go (c' := (8, [(0, .ref 1), (1, .ref (35 + 2 * b))], [.int (I (35 + 2 * b) 2), .ref 12], (I, J, kR w rem, Z), 0, 0)) 4 ?_ (fun m_ x_ Q_ k_ => ⟨trivial, ⟨sh_1, (Nat.succ_ne_zero 11)⟩, trivial, ⟨(sh_let hb), trivial⟩, k_⟩)
  rw [hrv]
  show w_R xs Ln 51 (8, [(0, .ref 1), (1, .ref (35 + 2 * b))], [.int (Int32.ofNat r), .ref 12], (I, J, kR w rem, Z), 0, 0) _
  refine w_R.go (c' := (9, [(0, .ref 1), (1, .ref (35 + 2 * b))], [.ref (kR w rem 12 (Int32.ofNat r).toNatClampNeg)], (I, J, kR w rem, Z), 0, 0)) 1 ?_ (fun m_ x_ Q_ k_ => ⟨⟨⟨_, sh_12, (n_in (a := r) (by omega) (by decide))⟩, (show kR w rem 12 (Int32.ofNat r).toNatClampNeg ≠ 0 by rw [n_cl (a := r) (by omega), r_room (w := w) (rem := rem) (r := r) (by omega)]; omega)⟩, k_⟩)
  rw [n_cl (a := r) (by omega)]
  rw [r_room (w := w) (rem := rem) (r := r) (by omega)]
  show w_R xs Ln 51 (9, [(0, .ref 1), (1, .ref (35 + 2 * b))], [.ref (141 + 29 * r)], (I, J, kR w rem, Z), 0, 0) _
  refine w_R.go (c' := (14, [(2, .ref (141 + 29 * r)), (0, .ref 1), (1, .ref (35 + 2 * b))], [.int (I (35 + 2 * b) 0)], (I, J, kR w rem, Z), 0, 0)) 3 ?_ (fun m_ x_ Q_ k_ => ⟨trivial, trivial, ⟨(sh_let hb), trivial⟩, k_⟩)
  rw [hkd]
  show w_R xs Ln 51 (14, [(2, .ref (141 + 29 * r)), (0, .ref 1), (1, .ref (35 + 2 * b))], [.int (Int32.ofNat 7)], (I, J, kR w rem, Z), 0, 0) _
  refine w_R.go (c' := (115, [(2, .ref (141 + 29 * r)), (0, .ref 1), (1, .ref (35 + 2 * b))], [], (I, J, kR w rem, Z), 0, 0)) 1 ?_ (fun m_ x_ Q_ k_ => ⟨trivial, k_⟩)
  refine w_R.go (c' := (120, [(2, .ref (141 + 29 * r)), (0, .ref 1), (1, .ref (35 + 2 * b))], [.int (I (35 + 2 * b) 2), .ref 1], (I, J, kR w rem, Z), 0, 0)) 3 ?_ (fun m_ x_ Q_ k_ => ⟨trivial, trivial, ⟨(sh_let hb), trivial⟩, k_⟩)
  rw [hrv]
  show w_R xs Ln 51 (120, [(2, .ref (141 + 29 * r)), (0, .ref 1), (1, .ref (35 + 2 * b))], [.int (Int32.ofNat r), .ref 1], (I, J, kR w rem, Z), 0, 0) _
  refine w_R.go (c' := (124, [(2, .ref (141 + 29 * r)), (0, .ref 1), (1, .ref (35 + 2 * b))], [.int (I (35 + 2 * b) 1), .int (Int32.ofNat r), .ref 1], (I, J, kR w rem, Z), 0, 0)) 2 ?_ (fun m_ x_ Q_ k_ => ⟨trivial, ⟨(sh_let hb), trivial⟩, k_⟩)
  rw [hsd]
  show w_R xs Ln 51 (124, [(2, .ref (141 + 29 * r)), (0, .ref 1), (1, .ref (35 + 2 * b))], [.int (Int32.ofNat f), .int (Int32.ofNat r), .ref 1], (I, J, kR w rem, Z), 0, 0) _
  refine w_R.callV (ce' := 0) (sl' := 0) (v := none) (σ' := (I1, J1, kR w rem, Z1)) (as := [.ref 1, .int (Int32.ofNat r), .int (Int32.ofNat f)]) (rest := []) h52 ?_ rfl rfl rfl rfl rfl sh_1 rfl rfl rfl rfl
  show w_R xs Ln 51 (127, [(2, .ref (141 + 29 * r)), (0, .ref 1), (1, .ref (35 + 2 * b))], [], (I1, J1, kR w rem, Z1), 0, 0) _
  refine w_R.ret 2 (.inl none) (I1, J1, kR w rem, Z1) ?_ (fun x_ Q_ k_ => ⟨trivial, ⟨Nat.le_of_ble_eq_true rfl, Nat.le_of_ble_eq_true rfl⟩, k_⟩)
  exact ⟨rfl, rfl⟩
theorem d_49a (b : Nat) (I1 : Nat → Nat → Int32) (J1 : Nat → Nat → Int64) (Z1 : Nat → Nat → Bool) (hb : b < 50) (hkd : I (35 + 2 * b) 0 = Int32.ofNat 0) (h50 : w_R xs Ln 50 (0, [(0, .ref 1), (1, .ref (35 + 2 * b))], [], (I, J, kR w rem, Z), 0, 0) (fun o s => o = .inl none ∧ s = (I1, J1, kR w rem, Z1))) : w_R xs Ln 49 (0, [(0, .ref 1), (1, .ref (35 + 2 * b))], [], (I, J, kR w rem, Z), 0, 0) (fun o s => o = .inl none ∧ s = (I1, J1, kR w rem, Z1)) := by
  refine w_R.go (c' := (4, [(0, .ref 1), (1, .ref (35 + 2 * b))], [.int (I (35 + 2 * b) 0)], (I, J, kR w rem, Z), 0, 0)) 2 ?_ (fun m_ x_ Q_ k_ => ⟨trivial, ⟨(sh_let hb), trivial⟩, k_⟩)
  rw [hkd]
  show w_R xs Ln 49 (4, [(0, .ref 1), (1, .ref (35 + 2 * b))], [.int (Int32.ofNat 0)], (I, J, kR w rem, Z), 0, 0) _
  refine w_R.go (c' := (7, [(0, .ref 1), (1, .ref (35 + 2 * b))], [], (I, J, kR w rem, Z), 0, 0)) 1 ?_ (fun m_ x_ Q_ k_ => ⟨trivial, k_⟩)
  refine w_R.go (c' := (9, [(0, .ref 1), (1, .ref (35 + 2 * b))], [.ref (35 + 2 * b), .ref 1], (I, J, kR w rem, Z), 0, 0)) 2 ?_ (fun m_ x_ Q_ k_ => ⟨trivial, trivial, k_⟩)
  refine w_R.callV (ce' := 0) (sl' := 0) (v := none) (σ' := (I1, J1, kR w rem, Z1)) (as := [.ref 1, .ref (35 + 2 * b)]) (rest := []) h50 ?_ rfl rfl rfl rfl rfl sh_1 rfl rfl rfl rfl
  show w_R xs Ln 49 (12, [(0, .ref 1), (1, .ref (35 + 2 * b))], [], (I1, J1, kR w rem, Z1), 0, 0) _
  refine w_R.ret 2 (.inl none) (I1, J1, kR w rem, Z1) ?_ (fun x_ Q_ k_ => ⟨trivial, ⟨Nat.le_of_ble_eq_true rfl, Nat.le_of_ble_eq_true rfl⟩, k_⟩)
  exact ⟨rfl, rfl⟩
theorem t18o (b : Nat) (i : Nat) (v : Nat) (I1 : Nat → Nat → Int32) (J1 : Nat → Nat → Int64) (Z1 : Nat → Nat → Bool) (hb : b < 50) (hv : 3 ≤ v ∧ v < 9) (hrv : I (35 + 2 * b) 2 = Int32.ofNat v) (h53 : w_R xs Ln 53 (0, [(0, .ref 1), (1, .ref (35 + 2 * b))], [], (I, J, kR w rem, Z), 0, 0) (fun o s => o = .inl none ∧ s = (I1, J1, kR w rem, Z1))) : w_R xs Ln 18 (22, [(2, .ref (35 + 2 * b)), (0, .ref 1), (1, .int (Int32.ofNat i))], [], (I, J, kR w rem, Z), 0, 0) (fun o s => o = .inl (some (.int 1)) ∧ s = (I1, J1, kR w rem, Z1)) := by
  refine w_R.go (c' := (26, [(2, .ref (35 + 2 * b)), (0, .ref 1), (1, .int (Int32.ofNat i))], [.int (I (35 + 2 * b) 2)], (I, J, kR w rem, Z), 0, 0)) 2 ?_ (fun m_ x_ Q_ k_ => ⟨trivial, ⟨(sh_let hb), trivial⟩, k_⟩)
  rw [hrv]
  show w_R xs Ln 18 (26, [(2, .ref (35 + 2 * b)), (0, .ref 1), (1, .int (Int32.ofNat i))], [.int (Int32.ofNat v)], (I, J, kR w rem, Z), 0, 0) _
  refine w_R.go (c' := (i_br .lt (Int32.ofNat v) 3 38 30, [(2, .ref (35 + 2 * b)), (0, .ref 1), (1, .int (Int32.ofNat i))], [], (I, J, kR w rem, Z), 0, 0)) 2 ?_ (fun m_ x_ Q_ k_ => ⟨trivial, trivial, k_⟩)
  rw [show i_br .lt (Int32.ofNat v) 3 38 30 = 30 from if_neg (mt (n_lt (a := v) (b := 3) (by omega) (by omega)).mp (by omega))]
  show w_R xs Ln 18 (30, [(2, .ref (35 + 2 * b)), (0, .ref 1), (1, .int (Int32.ofNat i))], [], (I, J, kR w rem, Z), 0, 0) _
  refine w_R.go (c' := (32, [(2, .ref (35 + 2 * b)), (0, .ref 1), (1, .int (Int32.ofNat i))], [.ref (35 + 2 * b), .ref 1], (I, J, kR w rem, Z), 0, 0)) 2 ?_ (fun m_ x_ Q_ k_ => ⟨trivial, trivial, k_⟩)
  refine w_R.callV (ce' := 0) (sl' := 0) (v := none) (σ' := (I1, J1, kR w rem, Z1)) (as := [.ref 1, .ref (35 + 2 * b)]) (rest := []) h53 ?_ rfl rfl rfl rfl rfl sh_1 rfl rfl rfl rfl
  show w_R xs Ln 18 (35, [(2, .ref (35 + 2 * b)), (0, .ref 1), (1, .int (Int32.ofNat i))], [], (I1, J1, kR w rem, Z1), 0, 0) _
  refine w_R.ret 3 (.inl (some (.int 1))) (I1, J1, kR w rem, Z1) ?_ (fun x_ Q_ k_ => ⟨trivial, trivial, Or.inr rfl, ⟨Nat.le_of_ble_eq_true rfl, Nat.le_of_ble_eq_true rfl⟩, k_⟩)
  exact ⟨rfl, rfl⟩
theorem t18f (b : Nat) (i : Nat) (I1 : Nat → Nat → Int32) (J1 : Nat → Nat → Int64) (Z1 : Nat → Nat → Bool) (hb : b < 50) (hrv : I (35 + 2 * b) 2 = Int32.ofNat 2) (h49 : w_R xs Ln 49 (0, [(0, .ref 1), (1, .ref (35 + 2 * b))], [], (I, J, kR w rem, Z), 0, 0) (fun o s => o = .inl none ∧ s = (I1, J1, kR w rem, Z1))) : w_R xs Ln 18 (22, [(2, .ref (35 + 2 * b)), (0, .ref 1), (1, .int (Int32.ofNat i))], [], (I, J, kR w rem, Z), 0, 0) (fun o s => o = .inl (some (.int 1)) ∧ s = (I1, J1, kR w rem, Z1)) := by
  refine w_R.go (c' := (26, [(2, .ref (35 + 2 * b)), (0, .ref 1), (1, .int (Int32.ofNat i))], [.int (I (35 + 2 * b) 2)], (I, J, kR w rem, Z), 0, 0)) 2 ?_ (fun m_ x_ Q_ k_ => ⟨trivial, ⟨(sh_let hb), trivial⟩, k_⟩)
  rw [hrv]
  show w_R xs Ln 18 (26, [(2, .ref (35 + 2 * b)), (0, .ref 1), (1, .int (Int32.ofNat i))], [.int (Int32.ofNat 2)], (I, J, kR w rem, Z), 0, 0) _
  refine w_R.go (c' := (38, [(2, .ref (35 + 2 * b)), (0, .ref 1), (1, .int (Int32.ofNat i))], [], (I, J, kR w rem, Z), 0, 0)) 2 ?_ (fun m_ x_ Q_ k_ => ⟨trivial, trivial, k_⟩)
  refine w_R.go (c' := (42, [(2, .ref (35 + 2 * b)), (0, .ref 1), (1, .int (Int32.ofNat i))], [.int (I (35 + 2 * b) 2)], (I, J, kR w rem, Z), 0, 0)) 2 ?_ (fun m_ x_ Q_ k_ => ⟨trivial, ⟨(sh_let hb), trivial⟩, k_⟩)
  rw [hrv]
  show w_R xs Ln 18 (42, [(2, .ref (35 + 2 * b)), (0, .ref 1), (1, .int (Int32.ofNat i))], [.int (Int32.ofNat 2)], (I, J, kR w rem, Z), 0, 0) _
  refine w_R.go (c' := (46, [(2, .ref (35 + 2 * b)), (0, .ref 1), (1, .int (Int32.ofNat i))], [], (I, J, kR w rem, Z), 0, 0)) 2 ?_ (fun m_ x_ Q_ k_ => ⟨trivial, trivial, k_⟩)
  refine w_R.go (c' := (48, [(2, .ref (35 + 2 * b)), (0, .ref 1), (1, .int (Int32.ofNat i))], [.ref (35 + 2 * b), .ref 1], (I, J, kR w rem, Z), 0, 0)) 2 ?_ (fun m_ x_ Q_ k_ => ⟨trivial, trivial, k_⟩)
  refine w_R.callV (ce' := 0) (sl' := 0) (v := none) (σ' := (I1, J1, kR w rem, Z1)) (as := [.ref 1, .ref (35 + 2 * b)]) (rest := []) h49 ?_ rfl rfl rfl rfl rfl sh_1 rfl rfl rfl rfl
  show w_R xs Ln 18 (51, [(2, .ref (35 + 2 * b)), (0, .ref 1), (1, .int (Int32.ofNat i))], [], (I1, J1, kR w rem, Z1), 0, 0) _
  refine w_R.ret 3 (.inl (some (.int 1))) (I1, J1, kR w rem, Z1) ?_ (fun x_ Q_ k_ => ⟨trivial, trivial, Or.inr rfl, ⟨Nat.le_of_ble_eq_true rfl, Nat.le_of_ble_eq_true rfl⟩, k_⟩)
  exact ⟨rfl, rfl⟩
theorem t18u (b : Nat) (i : Nat) (r : Nat) (I1 : Nat → Nat → Int32) (J1 : Nat → Nat → Int64) (Z1 : Nat → Nat → Bool) (hb : b < 50) (hr : r < 2) (hrv : I (35 + 2 * b) 2 = Int32.ofNat r) (hz : Z (141 + 29 * r) 0 = true) (h51 : w_R xs Ln 51 (0, [(0, .ref 1), (1, .ref (35 + 2 * b))], [], (I, J, kR w rem, Z), 0, 0) (fun o s => o = .inl none ∧ s = (I1, J1, kR w rem, Z1))) : w_R xs Ln 18 (22, [(2, .ref (35 + 2 * b)), (0, .ref 1), (1, .int (Int32.ofNat i))], [], (I, J, kR w rem, Z), 0, 0) (fun o s => o = .inl (some (.int 1)) ∧ s = (I1, J1, kR w rem, Z1)) := by
  refine w_R.go (c' := (26, [(2, .ref (35 + 2 * b)), (0, .ref 1), (1, .int (Int32.ofNat i))], [.int (I (35 + 2 * b) 2)], (I, J, kR w rem, Z), 0, 0)) 2 ?_ (fun m_ x_ Q_ k_ => ⟨trivial, ⟨(sh_let hb), trivial⟩, k_⟩)
  rw [hrv]
  show w_R xs Ln 18 (26, [(2, .ref (35 + 2 * b)), (0, .ref 1), (1, .int (Int32.ofNat i))], [.int (Int32.ofNat r)], (I, J, kR w rem, Z), 0, 0) _
  refine w_R.go (c' := (i_br .lt (Int32.ofNat r) 3 38 30, [(2, .ref (35 + 2 * b)), (0, .ref 1), (1, .int (Int32.ofNat i))], [], (I, J, kR w rem, Z), 0, 0)) 2 ?_ (fun m_ x_ Q_ k_ => ⟨trivial, trivial, k_⟩)
  rw [show i_br .lt (Int32.ofNat r) 3 38 30 = 38 from if_pos ((n_lt (a := r) (b := 3) (by omega) (by omega)).mpr (by omega))]
  show w_R xs Ln 18 (38, [(2, .ref (35 + 2 * b)), (0, .ref 1), (1, .int (Int32.ofNat i))], [], (I, J, kR w rem, Z), 0, 0) _
  refine w_R.go (c' := (42, [(2, .ref (35 + 2 * b)), (0, .ref 1), (1, .int (Int32.ofNat i))], [.int (I (35 + 2 * b) 2)], (I, J, kR w rem, Z), 0, 0)) 2 ?_ (fun m_ x_ Q_ k_ => ⟨trivial, ⟨(sh_let hb), trivial⟩, k_⟩)
  rw [hrv]
  show w_R xs Ln 18 (42, [(2, .ref (35 + 2 * b)), (0, .ref 1), (1, .int (Int32.ofNat i))], [.int (Int32.ofNat r)], (I, J, kR w rem, Z), 0, 0) _
  refine w_R.go (c' := (i_br .ne (Int32.ofNat r) 2 54 46, [(2, .ref (35 + 2 * b)), (0, .ref 1), (1, .int (Int32.ofNat i))], [], (I, J, kR w rem, Z), 0, 0)) 2 ?_ (fun m_ x_ Q_ k_ => ⟨trivial, trivial, k_⟩)
  rw [show i_br .ne (Int32.ofNat r) 2 54 46 = 54 from if_neg (mt (n_eq (a := r) (b := 2) (by omega) (by omega)).mp (by omega))]
  show w_R xs Ln 18 (54, [(2, .ref (35 + 2 * b)), (0, .ref 1), (1, .int (Int32.ofNat i))], [], (I, J, kR w rem, Z), 0, 0) _
  refine w_R.go (c' := (62, [(2, .ref (35 + 2 * b)), (0, .ref 1), (1, .int (Int32.ofNat i))], [.int (I (35 + 2 * b) 2), .ref 12], (I, J, kR w rem, Z), 0, 0)) 4 ?_ (fun m_ x_ Q_ k_ => ⟨trivial, ⟨sh_1, (Nat.succ_ne_zero 11)⟩, trivial, ⟨(sh_let hb), trivial⟩, k_⟩)
  rw [hrv]
  show w_R xs Ln 18 (62, [(2, .ref (35 + 2 * b)), (0, .ref 1), (1, .int (Int32.ofNat i))], [.int (Int32.ofNat r), .ref 12], (I, J, kR w rem, Z), 0, 0) _
  refine w_R.go (c' := (63, [(2, .ref (35 + 2 * b)), (0, .ref 1), (1, .int (Int32.ofNat i))], [.ref (kR w rem 12 (Int32.ofNat r).toNatClampNeg)], (I, J, kR w rem, Z), 0, 0)) 1 ?_ (fun m_ x_ Q_ k_ => ⟨⟨⟨_, sh_12, (n_in (a := r) (by omega) (by decide))⟩, (show kR w rem 12 (Int32.ofNat r).toNatClampNeg ≠ 0 by rw [n_cl (a := r) (by omega), r_room (w := w) (rem := rem) (r := r) (by omega)]; omega)⟩, k_⟩)
  rw [n_cl (a := r) (by omega)]
  rw [r_room (w := w) (rem := rem) (r := r) (by omega)]
  show w_R xs Ln 18 (63, [(2, .ref (35 + 2 * b)), (0, .ref 1), (1, .int (Int32.ofNat i))], [.ref (141 + 29 * r)], (I, J, kR w rem, Z), 0, 0) _
  refine w_R.go (c' := (66, [(2, .ref (35 + 2 * b)), (0, .ref 1), (1, .int (Int32.ofNat i))], [.int (s_b (Z (141 + 29 * r) 0))], (I, J, kR w rem, Z), 0, 0)) 1 ?_ (fun m_ x_ Q_ k_ => ⟨⟨(sh_room (by omega)), trivial⟩, k_⟩)
  rw [hz]
  show w_R xs Ln 18 (66, [(2, .ref (35 + 2 * b)), (0, .ref 1), (1, .int (Int32.ofNat i))], [.int (s_b true)], (I, J, kR w rem, Z), 0, 0) _
  refine w_R.go (c' := (69, [(2, .ref (35 + 2 * b)), (0, .ref 1), (1, .int (Int32.ofNat i))], [], (I, J, kR w rem, Z), 0, 0)) 1 ?_ (fun m_ x_ Q_ k_ => ⟨trivial, k_⟩)
  refine w_R.go (c' := (71, [(2, .ref (35 + 2 * b)), (0, .ref 1), (1, .int (Int32.ofNat i))], [.ref (35 + 2 * b), .ref 1], (I, J, kR w rem, Z), 0, 0)) 2 ?_ (fun m_ x_ Q_ k_ => ⟨trivial, trivial, k_⟩)
  refine w_R.callV (ce' := 0) (sl' := 0) (v := none) (σ' := (I1, J1, kR w rem, Z1)) (as := [.ref 1, .ref (35 + 2 * b)]) (rest := []) h51 ?_ rfl rfl rfl rfl rfl sh_1 rfl rfl rfl rfl
  show w_R xs Ln 18 (74, [(2, .ref (35 + 2 * b)), (0, .ref 1), (1, .int (Int32.ofNat i))], [], (I1, J1, kR w rem, Z1), 0, 0) _
  refine w_R.ret 2 (.inl (some (.int 1))) (I1, J1, kR w rem, Z1) ?_ (fun x_ Q_ k_ => ⟨trivial, Or.inr rfl, ⟨Nat.le_of_ble_eq_true rfl, Nat.le_of_ble_eq_true rfl⟩, k_⟩)
  exact ⟨rfl, rfl⟩
theorem t18d (b : Nat) (i : Nat) (r : Nat) (hb : b < 50) (hr : r < 2) (hrv : I (35 + 2 * b) 2 = Int32.ofNat r) (hz : Z (141 + 29 * r) 0 = false) : w_R xs Ln 18 (22, [(2, .ref (35 + 2 * b)), (0, .ref 1), (1, .int (Int32.ofNat i))], [], (I, J, kR w rem, Z), 0, 0) (fun o s => o = .inl (some (.int 1)) ∧ s = (I, J, kR w rem, Z)) := by
  refine w_R.go (c' := (26, [(2, .ref (35 + 2 * b)), (0, .ref 1), (1, .int (Int32.ofNat i))], [.int (I (35 + 2 * b) 2)], (I, J, kR w rem, Z), 0, 0)) 2 ?_ (fun m_ x_ Q_ k_ => ⟨trivial, ⟨(sh_let hb), trivial⟩, k_⟩)
  rw [hrv]
  show w_R xs Ln 18 (26, [(2, .ref (35 + 2 * b)), (0, .ref 1), (1, .int (Int32.ofNat i))], [.int (Int32.ofNat r)], (I, J, kR w rem, Z), 0, 0) _
  refine w_R.go (c' := (i_br .lt (Int32.ofNat r) 3 38 30, [(2, .ref (35 + 2 * b)), (0, .ref 1), (1, .int (Int32.ofNat i))], [], (I, J, kR w rem, Z), 0, 0)) 2 ?_ (fun m_ x_ Q_ k_ => ⟨trivial, trivial, k_⟩)
  rw [show i_br .lt (Int32.ofNat r) 3 38 30 = 38 from if_pos ((n_lt (a := r) (b := 3) (by omega) (by omega)).mpr (by omega))]
  show w_R xs Ln 18 (38, [(2, .ref (35 + 2 * b)), (0, .ref 1), (1, .int (Int32.ofNat i))], [], (I, J, kR w rem, Z), 0, 0) _
  refine w_R.go (c' := (42, [(2, .ref (35 + 2 * b)), (0, .ref 1), (1, .int (Int32.ofNat i))], [.int (I (35 + 2 * b) 2)], (I, J, kR w rem, Z), 0, 0)) 2 ?_ (fun m_ x_ Q_ k_ => ⟨trivial, ⟨(sh_let hb), trivial⟩, k_⟩)
  rw [hrv]
  show w_R xs Ln 18 (42, [(2, .ref (35 + 2 * b)), (0, .ref 1), (1, .int (Int32.ofNat i))], [.int (Int32.ofNat r)], (I, J, kR w rem, Z), 0, 0) _
  refine w_R.go (c' := (i_br .ne (Int32.ofNat r) 2 54 46, [(2, .ref (35 + 2 * b)), (0, .ref 1), (1, .int (Int32.ofNat i))], [], (I, J, kR w rem, Z), 0, 0)) 2 ?_ (fun m_ x_ Q_ k_ => ⟨trivial, trivial, k_⟩)
  rw [show i_br .ne (Int32.ofNat r) 2 54 46 = 54 from if_neg (mt (n_eq (a := r) (b := 2) (by omega) (by omega)).mp (by omega))]
  show w_R xs Ln 18 (54, [(2, .ref (35 + 2 * b)), (0, .ref 1), (1, .int (Int32.ofNat i))], [], (I, J, kR w rem, Z), 0, 0) _
  refine w_R.go (c' := (62, [(2, .ref (35 + 2 * b)), (0, .ref 1), (1, .int (Int32.ofNat i))], [.int (I (35 + 2 * b) 2), .ref 12], (I, J, kR w rem, Z), 0, 0)) 4 ?_ (fun m_ x_ Q_ k_ => ⟨trivial, ⟨sh_1, (Nat.succ_ne_zero 11)⟩, trivial, ⟨(sh_let hb), trivial⟩, k_⟩)
  rw [hrv]
  show w_R xs Ln 18 (62, [(2, .ref (35 + 2 * b)), (0, .ref 1), (1, .int (Int32.ofNat i))], [.int (Int32.ofNat r), .ref 12], (I, J, kR w rem, Z), 0, 0) _
  refine w_R.go (c' := (63, [(2, .ref (35 + 2 * b)), (0, .ref 1), (1, .int (Int32.ofNat i))], [.ref (kR w rem 12 (Int32.ofNat r).toNatClampNeg)], (I, J, kR w rem, Z), 0, 0)) 1 ?_ (fun m_ x_ Q_ k_ => ⟨⟨⟨_, sh_12, (n_in (a := r) (by omega) (by decide))⟩, (show kR w rem 12 (Int32.ofNat r).toNatClampNeg ≠ 0 by rw [n_cl (a := r) (by omega), r_room (w := w) (rem := rem) (r := r) (by omega)]; omega)⟩, k_⟩)
  rw [n_cl (a := r) (by omega)]
  rw [r_room (w := w) (rem := rem) (r := r) (by omega)]
  show w_R xs Ln 18 (63, [(2, .ref (35 + 2 * b)), (0, .ref 1), (1, .int (Int32.ofNat i))], [.ref (141 + 29 * r)], (I, J, kR w rem, Z), 0, 0) _
  refine w_R.go (c' := (66, [(2, .ref (35 + 2 * b)), (0, .ref 1), (1, .int (Int32.ofNat i))], [.int (s_b (Z (141 + 29 * r) 0))], (I, J, kR w rem, Z), 0, 0)) 1 ?_ (fun m_ x_ Q_ k_ => ⟨⟨(sh_room (by omega)), trivial⟩, k_⟩)
  rw [hz]
  show w_R xs Ln 18 (66, [(2, .ref (35 + 2 * b)), (0, .ref 1), (1, .int (Int32.ofNat i))], [.int (s_b false)], (I, J, kR w rem, Z), 0, 0) _
  refine w_R.go (c' := (74, [(2, .ref (35 + 2 * b)), (0, .ref 1), (1, .int (Int32.ofNat i))], [], (I, J, kR w rem, Z), 0, 0)) 1 ?_ (fun m_ x_ Q_ k_ => ⟨trivial, k_⟩)
  refine w_R.ret 2 (.inl (some (.int 1))) (I, J, kR w rem, Z) ?_ (fun x_ Q_ k_ => ⟨trivial, Or.inr rfl, ⟨Nat.le_of_ble_eq_true rfl, Nat.le_of_ble_eq_true rfl⟩, k_⟩)
  exact ⟨rfl, rfl⟩
theorem s18Y (i : Nat) (n : Nat) (q0 : Nat) (p : Nat → Nat) (hi : i < n) (hn : n ≤ 48) (hc : I 33 1 = Int32.ofNat n) (hpl : ∀ i, i < 49 → p i < 50) (hw : ∀ i, i < 49 → w i = 35 + 2 * p i) (hq0 : q0 < 50) (Q : i_O → s_S → Prop) (hx : w_R xs Ln 18 (22, [(2, .ref (35 + 2 * (p i))), (0, .ref 1), (1, .int (Int32.ofNat i))], [], (s_up I 33 1 (Int32.ofNat (n - 1)), J, kR (m_wf w p i n q0) (35 + 2 * (p i)), Z), 0, 0) Q) : w_R xs Ln 18 (0, [(0, .ref 1), (1, .int (Int32.ofNat i))], [], (I, J, kR w (35 + 2 * q0), Z), 0, 0) Q := by
  refine w_R.go (c' := (5, [(0, .ref 1), (1, .int (Int32.ofNat i))], [.int (Int32.ofNat i), .ref 33], (I, J, kR w (35 + 2 * q0), Z), 0, 0)) 3 ?_ (fun m_ x_ Q_ k_ => ⟨trivial, ⟨sh_1, (Nat.succ_ne_zero 32)⟩, trivial, k_⟩)
  refine w_R.callV (ce' := 0) (sl' := 0) (v := some (.int (s_b true))) (σ' := (I, J, kR w (35 + 2 * q0), Z)) (as := [.ref 33, .int (Int32.ofNat i)]) (rest := []) (d_71N i n (by omega) (by omega) hc) ?_ rfl rfl rfl rfl rfl sh_33 rfl rfl rfl rfl
  show w_R xs Ln 18 (8, [(0, .ref 1), (1, .int (Int32.ofNat i))], [.int (s_b true)], (I, J, kR w (35 + 2 * q0), Z), 0, 0) _
  refine w_R.go (c' := (13, [(0, .ref 1), (1, .int (Int32.ofNat i))], [], (I, J, kR w (35 + 2 * q0), Z), 0, 0)) 1 ?_ (fun m_ x_ Q_ k_ => ⟨trivial, k_⟩)
  refine w_R.go (c' := (18, [(0, .ref 1), (1, .int (Int32.ofNat i))], [.int (Int32.ofNat i), .ref 33], (I, J, kR w (35 + 2 * q0), Z), 0, 0)) 3 ?_ (fun m_ x_ Q_ k_ => ⟨trivial, ⟨sh_1, (Nat.succ_ne_zero 32)⟩, trivial, k_⟩)
  refine w_R.callV (ce' := 0) (sl' := 0) (v := some (.ref (35 + 2 * (p i)))) (σ' := (s_up I 33 1 (Int32.ofNat (n - 1)), J, kR (m_wf w p i n q0) (35 + 2 * (p i)), Z)) (as := [.ref 33, .int (Int32.ofNat i)]) (rest := []) (d_74 i n q0 p hi hn hc hpl hw hq0) ?_ rfl rfl rfl rfl rfl sh_33 rfl rfl rfl rfl
  show w_R xs Ln 18 (21, [(0, .ref 1), (1, .int (Int32.ofNat i))], [.ref (35 + 2 * (p i))], (s_up I 33 1 (Int32.ofNat (n - 1)), J, kR (m_wf w p i n q0) (35 + 2 * (p i)), Z), 0, 0) _
  refine w_R.go (c' := (22, [(2, .ref (35 + 2 * (p i))), (0, .ref 1), (1, .int (Int32.ofNat i))], [], (s_up I 33 1 (Int32.ofNat (n - 1)), J, kR (m_wf w p i n q0) (35 + 2 * (p i)), Z), 0, 0)) 1 ?_ (fun m_ x_ Q_ k_ => ⟨trivial, k_⟩)
  exact hx
theorem b_18_0 (i : Int32) (n : Nat) (hi : l_rg i 0 n = false) (hn : n ≤ 48) (hc : I 33 1 = Int32.ofNat n) : w_R xs Ln 18 (0, [(0, .ref 1), (1, .int i)], [], (I, J, kR w rem, Z), 0, 0) (fun o s => o = .inl (some (.int 0)) ∧ s = (I, J, kR w rem, Z)) := by
  refine w_R.go (c' := (5, [(0, .ref 1), (1, .int i)], [.int i, .ref 33], (I, J, kR w rem, Z), 0, 0)) 3 ?_ (fun m_ x_ Q_ k_ => ⟨trivial, ⟨sh_1, (Nat.succ_ne_zero 32)⟩, trivial, k_⟩)
  refine w_R.callV (ce' := 0) (sl' := 0) (v := some (.int (s_b false))) (σ' := (I, J, kR w rem, Z)) (as := [.ref 33, .int i]) (rest := []) (d_71F i n hi (by omega) hc) ?_ rfl rfl rfl rfl rfl sh_33 rfl rfl rfl rfl
  show w_R xs Ln 18 (8, [(0, .ref 1), (1, .int i)], [.int (s_b false)], (I, J, kR w rem, Z), 0, 0) _
  refine w_R.go (c' := (11, [(0, .ref 1), (1, .int i)], [], (I, J, kR w rem, Z), 0, 0)) 1 ?_ (fun m_ x_ Q_ k_ => ⟨trivial, k_⟩)
  refine w_R.ret 2 (.inl (some (.int 0))) (I, J, kR w rem, Z) ?_ (fun x_ Q_ k_ => ⟨trivial, Or.inl rfl, ⟨Nat.le_of_ble_eq_true rfl, Nat.le_of_ble_eq_true rfl⟩, k_⟩)
  exact ⟨rfl, rfl⟩
theorem b_130_0 (i : Int32) (n : Nat) (hi : l_rg i 0 n = false) (hn : n ≤ 48) (hc2 : I 199 44 = Int32.ofNat n) : w_R xs Ln 130 (0, [(0, .ref 199), (1, .int i)], [], (I, J, kR w rem, Z), 0, 0) (fun o s => o = .inl (some (.int 0)) ∧ s = (s_up I 199 59 0, J, kR w rem, Z)) := by
  refine w_R.go (c' := (7, [(0, .ref 199), (1, .int i)], [.int i, .ref 199], (s_up I 199 59 0, J, kR w rem, Z), 0, 0)) 5 ?_ (fun m_ x_ Q_ k_ => ⟨trivial, trivial, ⟨sh_199, trivial⟩, trivial, trivial, k_⟩)
  refine w_R.callV (ce' := 0) (sl' := 0) (v := some (.int 0)) (σ' := (s_up I 199 59 0, J, kR w rem, Z)) (as := [.ref 199, .int i]) (rest := []) (b_129_0 i n hi hn (by first | exact hc2 | (simp (disch := omega) only [s_upf]; exact hc2))) ?_ rfl rfl rfl rfl rfl sh_199 rfl rfl rfl rfl
  show w_R xs Ln 130 (10, [(0, .ref 199), (1, .int i)], [.int 0], (s_up I 199 59 0, J, kR w rem, Z), 0, 0) _
  refine w_R.go (c' := (13, [(0, .ref 199), (1, .int i)], [], (s_up I 199 59 0, J, kR w rem, Z), 0, 0)) 1 ?_ (fun m_ x_ Q_ k_ => ⟨trivial, k_⟩)
  refine w_R.ret 2 (.inl (some (.int 0))) (s_up I 199 59 0, J, kR w rem, Z) ?_ (fun x_ Q_ k_ => ⟨trivial, Or.inl rfl, ⟨Nat.le_of_ble_eq_true rfl, Nat.le_of_ble_eq_true rfl⟩, k_⟩)
  exact ⟨rfl, rfl⟩
theorem d_130 (i : Nat) (n : Nat) (W : Int32) (I2 : Nat → Nat → Int32) (J2 : Nat → Nat → Int64) (Z2 : Nat → Nat → Bool) (hi : i < n) (hn : n ≤ 48) (hc2 : I 199 44 = Int32.ofNat n) (hW : (m_si (s_up (i_116 (s_up I 199 59 0) J Z i 48) 199 44 (Int32.ofNat (n - 1))) i (n - 1 - i)) 244 48 = W) (h128 : w_R xs Ln 128 (0, [(0, .ref 199), (1, .int W)], [], (m_si (s_up (i_116 (s_up I 199 59 0) J Z i 48) 199 44 (Int32.ofNat (n - 1))) i (n - 1 - i), m_sj (j_116 (s_up I 199 59 0) J Z i 48) i (n - 1 - i), kR w rem, Z), 0, 0) (fun o s => o = .inl none ∧ s = (I2, J2, kR w rem, Z2))) : w_R xs Ln 130 (0, [(0, .ref 199), (1, .int (Int32.ofNat i))], [], (I, J, kR w rem, Z), 0, 0) (fun o s => o = .inl (some (.int 1)) ∧ s = (I2, J2, kR w rem, Z2)) := by
  refine w_R.go (c' := (7, [(0, .ref 199), (1, .int (Int32.ofNat i))], [.int (Int32.ofNat i), .ref 199], (s_up I 199 59 0, J, kR w rem, Z), 0, 0)) 5 ?_ (fun m_ x_ Q_ k_ => ⟨trivial, trivial, ⟨sh_199, trivial⟩, trivial, trivial, k_⟩)
  refine w_R.callV (ce' := 0) (sl' := 0) (v := some (.int 1)) (σ' := (m_si (s_up (i_116 (s_up I 199 59 0) J Z i 48) 199 44 (Int32.ofNat (n - 1))) i (n - 1 - i), m_sj (j_116 (s_up I 199 59 0) J Z i 48) i (n - 1 - i), kR w rem, Z)) (as := [.ref 199, .int (Int32.ofNat i)]) (rest := []) (d_129 i n hi hn (by first | exact hc2 | (simp (disch := omega) only [s_upf]; exact hc2))) ?_ rfl rfl rfl rfl rfl sh_199 rfl rfl rfl rfl
  show w_R xs Ln 130 (10, [(0, .ref 199), (1, .int (Int32.ofNat i))], [.int 1], (m_si (s_up (i_116 (s_up I 199 59 0) J Z i 48) 199 44 (Int32.ofNat (n - 1))) i (n - 1 - i), m_sj (j_116 (s_up I 199 59 0) J Z i 48) i (n - 1 - i), kR w rem, Z), 0, 0) _
  refine w_R.go (c' := (15, [(0, .ref 199), (1, .int (Int32.ofNat i))], [], (m_si (s_up (i_116 (s_up I 199 59 0) J Z i 48) 199 44 (Int32.ofNat (n - 1))) i (n - 1 - i), m_sj (j_116 (s_up I 199 59 0) J Z i 48) i (n - 1 - i), kR w rem, Z), 0, 0)) 1 ?_ (fun m_ x_ Q_ k_ => ⟨trivial, k_⟩)
  refine w_R.go (c' := (23, [(0, .ref 199), (1, .int (Int32.ofNat i))], [.int ((m_si (s_up (i_116 (s_up I 199 59 0) J Z i 48) 199 44 (Int32.ofNat (n - 1))) i (n - 1 - i)) 244 48), .ref 199], (m_si (s_up (i_116 (s_up I 199 59 0) J Z i 48) 199 44 (Int32.ofNat (n - 1))) i (n - 1 - i), m_sj (j_116 (s_up I 199 59 0) J Z i 48) i (n - 1 - i), kR w rem, Z), 0, 0)) 5 ?_ (fun m_ x_ Q_ k_ => ⟨trivial, trivial, ⟨sh_199, (Nat.succ_ne_zero 243)⟩, trivial, ⟨_, sh_244, (n_in (a := 48) (by omega) (by decide))⟩, k_⟩)
  rw [hW]
  show w_R xs Ln 130 (23, [(0, .ref 199), (1, .int (Int32.ofNat i))], [.int W, .ref 199], (m_si (s_up (i_116 (s_up I 199 59 0) J Z i 48) 199 44 (Int32.ofNat (n - 1))) i (n - 1 - i), m_sj (j_116 (s_up I 199 59 0) J Z i 48) i (n - 1 - i), kR w rem, Z), 0, 0) _
  refine w_R.callV (ce' := 0) (sl' := 0) (v := none) (σ' := (I2, J2, kR w rem, Z2)) (as := [.ref 199, .int W]) (rest := []) h128 ?_ rfl rfl rfl rfl rfl sh_199 rfl rfl rfl rfl
  show w_R xs Ln 130 (26, [(0, .ref 199), (1, .int (Int32.ofNat i))], [], (I2, J2, kR w rem, Z2), 0, 0) _
  refine w_R.ret 2 (.inl (some (.int 1))) (I2, J2, kR w rem, Z2) ?_ (fun x_ Q_ k_ => ⟨trivial, Or.inr rfl, ⟨Nat.le_of_ble_eq_true rfl, Nat.le_of_ble_eq_true rfl⟩, k_⟩)
  exact ⟨rfl, rfl⟩
end RunsP
