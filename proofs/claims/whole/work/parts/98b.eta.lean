section RunsP
variable {xs : Nat → Int32} {Ln : Nat} {I : Nat → Nat → Int32} {J : Nat → Nat → Int64} {Z : Nat → Nat → Bool} {w : Nat → Nat} {rem : Nat}
theorem b_23_0 (u : Int32) (j : Int32) (hu : l_rg u 0 6 = false) : w_R xs Ln 23 (0, [(0, .ref 1), (1, .int u), (2, .int j)], [], (I, J, kR w rem, Z), 0, 0) (fun o s => o = .inl (some (.int (-1))) ∧ s = (I, J, kR w rem, Z)) := by
  refine w_R.go (c' := (1, [(0, .ref 1), (1, .int u), (2, .int j)], [.int u], (I, J, kR w rem, Z), 0, 0)) 1 ?_ (fun m_ x_ Q_ k_ => ⟨trivial, k_⟩)
  refine w_R.callS (ce' := 0) (sl' := 0) (v := some (.int (s_b false))) (σ' := (I, J, kR w rem, Z)) (as := [.int u]) (rest := []) (d_31F u hu) ?_ rfl rfl rfl rfl rfl rfl rfl rfl rfl
  show w_R xs Ln 23 (4, [(0, .ref 1), (1, .int u), (2, .int j)], [.int (s_b false)], (I, J, kR w rem, Z), 0, 0) _
  refine w_R.go (c' := (14, [(0, .ref 1), (1, .int u), (2, .int j)], [], (I, J, kR w rem, Z), 0, 0)) 1 ?_ (fun m_ x_ Q_ k_ => ⟨trivial, k_⟩)
  refine w_R.ret 2 (.inl (some (.int (-1)))) (I, J, kR w rem, Z) ?_ (fun x_ Q_ k_ => ⟨trivial, trivial, ⟨Nat.le_of_ble_eq_true rfl, Nat.le_of_ble_eq_true rfl⟩, k_⟩)
  exact ⟨rfl, rfl⟩
theorem b_157_0 (u : Int32) (j : Int32) (hu : l_rg u 0 6 = false) : w_R xs Ln 157 (0, [(0, .ref 199), (1, .int u), (2, .int j)], [], (I, J, kR w rem, Z), 0, 0) (fun o s => o = .inl (some (.int (-1))) ∧ s = (s_up I 199 59 0, J, kR w rem, Z)) := by
  refine w_R.go (c' := (6, [(0, .ref 199), (1, .int u), (2, .int j)], [.int u], (s_up I 199 59 0, J, kR w rem, Z), 0, 0)) 4 ?_ (fun m_ x_ Q_ k_ => ⟨trivial, trivial, ⟨sh_199, trivial⟩, trivial, k_⟩)
  refine w_R.callS (ce' := 0) (sl' := 0) (v := some (.int (s_b false))) (σ' := (s_up I 199 59 0, J, kR w rem, Z)) (as := [.int u]) (rest := []) (d_109F u hu) ?_ rfl rfl rfl rfl rfl rfl rfl rfl rfl
  show w_R xs Ln 157 (9, [(0, .ref 199), (1, .int u), (2, .int j)], [.int (s_b false)], (s_up I 199 59 0, J, kR w rem, Z), 0, 0) _
  refine w_R.go (c' := (33, [(0, .ref 199), (1, .int u), (2, .int j)], [], (s_up I 199 59 0, J, kR w rem, Z), 0, 0)) 1 ?_ (fun m_ x_ Q_ k_ => ⟨trivial, k_⟩)
  refine w_R.ret 2 (.inl (some (.int (-1)))) (s_up I 199 59 0, J, kR w rem, Z) ?_ (fun x_ Q_ k_ => ⟨trivial, trivial, ⟨Nat.le_of_ble_eq_true rfl, Nat.le_of_ble_eq_true rfl⟩, k_⟩)
  exact ⟨rfl, rfl⟩
theorem b_23_1 (u : Nat) (j : Int32) (hu : u < 6) (hj : l_rg j 0 12 = false) : w_R xs Ln 23 (0, [(0, .ref 1), (1, .int (Int32.ofNat u)), (2, .int j)], [], (I, J, kR w rem, Z), 0, 0) (fun o s => o = .inl (some (.int (-1))) ∧ s = (I, J, kR w rem, Z)) := by
  refine w_R.go (c' := (1, [(0, .ref 1), (1, .int (Int32.ofNat u)), (2, .int j)], [.int (Int32.ofNat u)], (I, J, kR w rem, Z), 0, 0)) 1 ?_ (fun m_ x_ Q_ k_ => ⟨trivial, k_⟩)
  refine w_R.callS (ce' := 0) (sl' := 0) (v := some (.int (s_b true))) (σ' := (I, J, kR w rem, Z)) (as := [.int (Int32.ofNat u)]) (rest := []) (d_31N u (by omega)) ?_ rfl rfl rfl rfl rfl rfl rfl rfl rfl
  show w_R xs Ln 23 (4, [(0, .ref 1), (1, .int (Int32.ofNat u)), (2, .int j)], [.int (s_b true)], (I, J, kR w rem, Z), 0, 0) _
  refine w_R.go (c' := (7, [(0, .ref 1), (1, .int (Int32.ofNat u)), (2, .int j)], [], (I, J, kR w rem, Z), 0, 0)) 1 ?_ (fun m_ x_ Q_ k_ => ⟨trivial, k_⟩)
  refine w_R.go (c' := (8, [(0, .ref 1), (1, .int (Int32.ofNat u)), (2, .int j)], [.int j], (I, J, kR w rem, Z), 0, 0)) 1 ?_ (fun m_ x_ Q_ k_ => ⟨trivial, k_⟩)
  refine w_R.callS (ce' := 0) (sl' := 0) (v := some (.int (s_b false))) (σ' := (I, J, kR w rem, Z)) (as := [.int j]) (rest := []) (d_28F j hj) ?_ rfl rfl rfl rfl rfl rfl rfl rfl rfl
  show w_R xs Ln 23 (11, [(0, .ref 1), (1, .int (Int32.ofNat u)), (2, .int j)], [.int (s_b false)], (I, J, kR w rem, Z), 0, 0) _
  refine w_R.go (c' := (14, [(0, .ref 1), (1, .int (Int32.ofNat u)), (2, .int j)], [], (I, J, kR w rem, Z), 0, 0)) 1 ?_ (fun m_ x_ Q_ k_ => ⟨trivial, k_⟩)
  refine w_R.ret 2 (.inl (some (.int (-1)))) (I, J, kR w rem, Z) ?_ (fun x_ Q_ k_ => ⟨trivial, trivial, ⟨Nat.le_of_ble_eq_true rfl, Nat.le_of_ble_eq_true rfl⟩, k_⟩)
  exact ⟨rfl, rfl⟩
theorem b_157_1 (u : Nat) (j : Int32) (hu : u < 6) (hj : l_rg j 0 12 = false) : w_R xs Ln 157 (0, [(0, .ref 199), (1, .int (Int32.ofNat u)), (2, .int j)], [], (I, J, kR w rem, Z), 0, 0) (fun o s => o = .inl (some (.int (-1))) ∧ s = (s_up I 199 59 0, J, kR w rem, Z)) := by
  refine w_R.go (c' := (6, [(0, .ref 199), (1, .int (Int32.ofNat u)), (2, .int j)], [.int (Int32.ofNat u)], (s_up I 199 59 0, J, kR w rem, Z), 0, 0)) 4 ?_ (fun m_ x_ Q_ k_ => ⟨trivial, trivial, ⟨sh_199, trivial⟩, trivial, k_⟩)
  refine w_R.callS (ce' := 0) (sl' := 0) (v := some (.int (s_b true))) (σ' := (s_up I 199 59 0, J, kR w rem, Z)) (as := [.int (Int32.ofNat u)]) (rest := []) (d_109N u (by omega)) ?_ rfl rfl rfl rfl rfl rfl rfl rfl rfl
  show w_R xs Ln 157 (9, [(0, .ref 199), (1, .int (Int32.ofNat u)), (2, .int j)], [.int (s_b true)], (s_up I 199 59 0, J, kR w rem, Z), 0, 0) _
  refine w_R.go (c' := (12, [(0, .ref 199), (1, .int (Int32.ofNat u)), (2, .int j)], [], (s_up I 199 59 0, J, kR w rem, Z), 0, 0)) 1 ?_ (fun m_ x_ Q_ k_ => ⟨trivial, k_⟩)
  refine w_R.go (c' := (13, [(0, .ref 199), (1, .int (Int32.ofNat u)), (2, .int j)], [.int j], (s_up I 199 59 0, J, kR w rem, Z), 0, 0)) 1 ?_ (fun m_ x_ Q_ k_ => ⟨trivial, k_⟩)
  refine w_R.callS (ce' := 0) (sl' := 0) (v := some (.int (s_b false))) (σ' := (s_up I 199 59 0, J, kR w rem, Z)) (as := [.int j]) (rest := []) (d_107F j hj) ?_ rfl rfl rfl rfl rfl rfl rfl rfl rfl
  show w_R xs Ln 157 (16, [(0, .ref 199), (1, .int (Int32.ofNat u)), (2, .int j)], [.int (s_b false)], (s_up I 199 59 0, J, kR w rem, Z), 0, 0) _
  refine w_R.go (c' := (33, [(0, .ref 199), (1, .int (Int32.ofNat u)), (2, .int j)], [], (s_up I 199 59 0, J, kR w rem, Z), 0, 0)) 1 ?_ (fun m_ x_ Q_ k_ => ⟨trivial, k_⟩)
  refine w_R.ret 2 (.inl (some (.int (-1)))) (s_up I 199 59 0, J, kR w rem, Z) ?_ (fun x_ Q_ k_ => ⟨trivial, trivial, ⟨Nat.le_of_ble_eq_true rfl, Nat.le_of_ble_eq_true rfl⟩, k_⟩)
  exact ⟨rfl, rfl⟩
theorem d_23 (u : Nat) (j : Nat) (q : Nat) (I1 : Nat → Nat → Int32) (hu : u < 6) (hj : j < 12) (hq : q < 12) (hjq : I1 (135 + u) 1 = Int32.ofNat q) (h88 : w_R xs Ln 88 (0, [(0, .ref 2), (1, .int (Int32.ofNat j))], [], (I, J, kR w rem, Z), 0, 0) (fun o s => o = .inl none ∧ s = (I1, J, kR w rem, Z))) : w_R xs Ln 23 (0, [(0, .ref 1), (1, .int (Int32.ofNat u)), (2, .int (Int32.ofNat j))], [], (I, J, kR w rem, Z), 0, 0) (fun o s => o = .inl (some (.int (I1 4 q))) ∧ s = (I1, J, kR w rem, Z)) := by
  refine w_R.go (c' := (1, [(0, .ref 1), (1, .int (Int32.ofNat u)), (2, .int (Int32.ofNat j))], [.int (Int32.ofNat u)], (I, J, kR w rem, Z), 0, 0)) 1 ?_ (fun m_ x_ Q_ k_ => ⟨trivial, k_⟩)
  refine w_R.callS (ce' := 0) (sl' := 0) (v := some (.int (s_b true))) (σ' := (I, J, kR w rem, Z)) (as := [.int (Int32.ofNat u)]) (rest := []) (d_31N u (by omega)) ?_ rfl rfl rfl rfl rfl rfl rfl rfl rfl
  show w_R xs Ln 23 (4, [(0, .ref 1), (1, .int (Int32.ofNat u)), (2, .int (Int32.ofNat j))], [.int (s_b true)], (I, J, kR w rem, Z), 0, 0) _
  refine w_R.go (c' := (7, [(0, .ref 1), (1, .int (Int32.ofNat u)), (2, .int (Int32.ofNat j))], [], (I, J, kR w rem, Z), 0, 0)) 1 ?_ (fun m_ x_ Q_ k_ => ⟨trivial, k_⟩)
  refine w_R.go (c' := (8, [(0, .ref 1), (1, .int (Int32.ofNat u)), (2, .int (Int32.ofNat j))], [.int (Int32.ofNat j)], (I, J, kR w rem, Z), 0, 0)) 1 ?_ (fun m_ x_ Q_ k_ => ⟨trivial, k_⟩)
  refine w_R.callS (ce' := 0) (sl' := 0) (v := some (.int (s_b true))) (σ' := (I, J, kR w rem, Z)) (as := [.int (Int32.ofNat j)]) (rest := []) (d_28N j (by omega)) ?_ rfl rfl rfl rfl rfl rfl rfl rfl rfl
  show w_R xs Ln 23 (11, [(0, .ref 1), (1, .int (Int32.ofNat u)), (2, .int (Int32.ofNat j))], [.int (s_b true)], (I, J, kR w rem, Z), 0, 0) _
  refine w_R.go (c' := (16, [(0, .ref 1), (1, .int (Int32.ofNat u)), (2, .int (Int32.ofNat j))], [], (I, J, kR w rem, Z), 0, 0)) 1 ?_ (fun m_ x_ Q_ k_ => ⟨trivial, k_⟩)
  refine w_R.go (c' := (21, [(0, .ref 1), (1, .int (Int32.ofNat u)), (2, .int (Int32.ofNat j))], [.int (Int32.ofNat j), .ref 2], (I, J, kR w rem, Z), 0, 0)) 3 ?_ (fun m_ x_ Q_ k_ => ⟨trivial, ⟨sh_1, (Nat.succ_ne_zero 1)⟩, trivial, k_⟩)
  refine w_R.callV (ce' := 0) (sl' := 0) (v := none) (σ' := (I1, J, kR w rem, Z)) (as := [.ref 2, .int (Int32.ofNat j)]) (rest := []) h88 ?_ rfl rfl rfl rfl rfl sh_2 rfl rfl rfl rfl
  show w_R xs Ln 23 (24, [(0, .ref 1), (1, .int (Int32.ofNat u)), (2, .int (Int32.ofNat j))], [], (I1, J, kR w rem, Z), 0, 0) _
  refine w_R.go (c' := (37, [(0, .ref 1), (1, .int (Int32.ofNat u)), (2, .int (Int32.ofNat j))], [.ref (kR w rem 11 (Int32.ofNat u).toNatClampNeg), .ref 4], (I1, J, kR w rem, Z), 0, 0)) 7 ?_ (fun m_ x_ Q_ k_ => ⟨trivial, ⟨sh_1, (Nat.succ_ne_zero 1)⟩, ⟨sh_2, (Nat.succ_ne_zero 3)⟩, trivial, ⟨sh_1, (Nat.succ_ne_zero 10)⟩, trivial, ⟨⟨_, sh_11, (n_in (a := u) (by omega) (by decide))⟩, (show kR w rem 11 (Int32.ofNat u).toNatClampNeg ≠ 0 by rw [n_cl (a := u) (by omega), r_amb (w := w) (rem := rem) (u := u) (by omega)]; omega)⟩, k_⟩)
  rw [n_cl (a := u) (by omega)]
  rw [r_amb (w := w) (rem := rem) (u := u) (by omega)]
  show w_R xs Ln 23 (37, [(0, .ref 1), (1, .int (Int32.ofNat u)), (2, .int (Int32.ofNat j))], [.ref (135 + u), .ref 4], (I1, J, kR w rem, Z), 0, 0) _
  refine w_R.go (c' := (40, [(0, .ref 1), (1, .int (Int32.ofNat u)), (2, .int (Int32.ofNat j))], [.int (I1 (135 + u) 1), .ref 4], (I1, J, kR w rem, Z), 0, 0)) 1 ?_ (fun m_ x_ Q_ k_ => ⟨⟨(sh_amb (by omega)), trivial⟩, k_⟩)
  rw [hjq]
  show w_R xs Ln 23 (40, [(0, .ref 1), (1, .int (Int32.ofNat u)), (2, .int (Int32.ofNat j))], [.int (Int32.ofNat q), .ref 4], (I1, J, kR w rem, Z), 0, 0) _
  refine w_R.go (c' := (41, [(0, .ref 1), (1, .int (Int32.ofNat u)), (2, .int (Int32.ofNat j))], [.int (I1 4 (Int32.ofNat q).toNatClampNeg)], (I1, J, kR w rem, Z), 0, 0)) 1 ?_ (fun m_ x_ Q_ k_ => ⟨⟨_, sh_4, (n_in (a := q) (by omega) (by decide))⟩, k_⟩)
  rw [n_cl (a := q) (by omega)]
  show w_R xs Ln 23 (41, [(0, .ref 1), (1, .int (Int32.ofNat u)), (2, .int (Int32.ofNat j))], [.int (I1 4 q)], (I1, J, kR w rem, Z), 0, 0) _
  refine w_R.ret 1 (.inl (some (.int (I1 4 q)))) (I1, J, kR w rem, Z) ?_ (fun x_ Q_ k_ => ⟨trivial, ⟨Nat.le_of_ble_eq_true rfl, Nat.le_of_ble_eq_true rfl⟩, k_⟩)
  exact ⟨rfl, rfl⟩
theorem d_157 (u : Nat) (j : Nat) (q : Nat) (x : Int32) (I1 : Nat → Nat → Int32) (hu : u < 6) (hj : j < 12) (hq : q < 12) (hjq : I 208 u = Int32.ofNat q) (h113 : w_R xs Ln 113 (0, [(0, .ref 199), (1, .int (Int32.ofNat q)), (2, .int (Int32.ofNat j))], [], (s_up I 199 59 0, J, kR w rem, Z), 0, 0) (fun o s => o = .inl (some (.int x)) ∧ s = (I1, J, kR w rem, Z))) : w_R xs Ln 157 (0, [(0, .ref 199), (1, .int (Int32.ofNat u)), (2, .int (Int32.ofNat j))], [], (I, J, kR w rem, Z), 0, 0) (fun o s => o = .inl (some (.int x)) ∧ s = (I1, J, kR w rem, Z)) := by
  refine w_R.go (c' := (6, [(0, .ref 199), (1, .int (Int32.ofNat u)), (2, .int (Int32.ofNat j))], [.int (Int32.ofNat u)], (s_up I 199 59 0, J, kR w rem, Z), 0, 0)) 4 ?_ (fun m_ x_ Q_ k_ => ⟨trivial, trivial, ⟨sh_199, trivial⟩, trivial, k_⟩)
  refine w_R.callS (ce' := 0) (sl' := 0) (v := some (.int (s_b true))) (σ' := (s_up I 199 59 0, J, kR w rem, Z)) (as := [.int (Int32.ofNat u)]) (rest := []) (d_109N u (by omega)) ?_ rfl rfl rfl rfl rfl rfl rfl rfl rfl
  show w_R xs Ln 157 (9, [(0, .ref 199), (1, .int (Int32.ofNat u)), (2, .int (Int32.ofNat j))], [.int (s_b true)], (s_up I 199 59 0, J, kR w rem, Z), 0, 0) _
  refine w_R.go (c' := (12, [(0, .ref 199), (1, .int (Int32.ofNat u)), (2, .int (Int32.ofNat j))], [], (s_up I 199 59 0, J, kR w rem, Z), 0, 0)) 1 ?_ (fun m_ x_ Q_ k_ => ⟨trivial, k_⟩)
  refine w_R.go (c' := (13, [(0, .ref 199), (1, .int (Int32.ofNat u)), (2, .int (Int32.ofNat j))], [.int (Int32.ofNat j)], (s_up I 199 59 0, J, kR w rem, Z), 0, 0)) 1 ?_ (fun m_ x_ Q_ k_ => ⟨trivial, k_⟩)
  refine w_R.callS (ce' := 0) (sl' := 0) (v := some (.int (s_b true))) (σ' := (s_up I 199 59 0, J, kR w rem, Z)) (as := [.int (Int32.ofNat j)]) (rest := []) (d_107N j (by omega)) ?_ rfl rfl rfl rfl rfl rfl rfl rfl rfl
  show w_R xs Ln 157 (16, [(0, .ref 199), (1, .int (Int32.ofNat u)), (2, .int (Int32.ofNat j))], [.int (s_b true)], (s_up I 199 59 0, J, kR w rem, Z), 0, 0) _
  refine w_R.go (c' := (19, [(0, .ref 199), (1, .int (Int32.ofNat u)), (2, .int (Int32.ofNat j))], [], (s_up I 199 59 0, J, kR w rem, Z), 0, 0)) 1 ?_ (fun m_ x_ Q_ k_ => ⟨trivial, k_⟩)
  refine w_R.go (c' := (26, [(0, .ref 199), (1, .int (Int32.ofNat u)), (2, .int (Int32.ofNat j))], [.int ((s_up I 199 59 0) 208 (Int32.ofNat u).toNatClampNeg), .ref 199], (s_up I 199 59 0, J, kR w rem, Z), 0, 0)) 5 ?_ (fun m_ x_ Q_ k_ => ⟨trivial, trivial, ⟨sh_199, (Nat.succ_ne_zero 207)⟩, trivial, ⟨_, sh_208, (n_in (a := u) (by omega) (by decide))⟩, k_⟩)
  rw [n_cl (a := u) (by omega)]
  rw [show (s_up I 199 59 0) 208 u = I 208 u from (s_upa (by decide))]
  rw [hjq]
  show w_R xs Ln 157 (26, [(0, .ref 199), (1, .int (Int32.ofNat u)), (2, .int (Int32.ofNat j))], [.int (Int32.ofNat q), .ref 199], (s_up I 199 59 0, J, kR w rem, Z), 0, 0) _
  refine w_R.go (c' := (27, [(0, .ref 199), (1, .int (Int32.ofNat u)), (2, .int (Int32.ofNat j))], [.int (Int32.ofNat j), .int (Int32.ofNat q), .ref 199], (s_up I 199 59 0, J, kR w rem, Z), 0, 0)) 1 ?_ (fun m_ x_ Q_ k_ => ⟨trivial, k_⟩)
  refine w_R.callV (ce' := 0) (sl' := 0) (v := some (.int x)) (σ' := (I1, J, kR w rem, Z)) (as := [.ref 199, .int (Int32.ofNat q), .int (Int32.ofNat j)]) (rest := []) h113 ?_ rfl rfl rfl rfl rfl sh_199 rfl rfl rfl rfl
  show w_R xs Ln 157 (30, [(0, .ref 199), (1, .int (Int32.ofNat u)), (2, .int (Int32.ofNat j))], [.int x], (I1, J, kR w rem, Z), 0, 0) _
  refine w_R.ret 2 (.inl (some (.int x))) (I1, J, kR w rem, Z) ?_ (fun x_ Q_ k_ => ⟨trivial, trivial, ⟨Nat.le_of_ble_eq_true rfl, Nat.le_of_ble_eq_true rfl⟩, k_⟩)
  exact ⟨rfl, rfl⟩
end RunsP
section Eta
variable {xs : Nat → Int32} {Ln : Nat}
def g_E (I : Nat → Nat → Int32) (v u : Nat) : Nat := if v < 12 ∧ u < 12 then (I 5 (v * 12 + u)).toNatClampNeg else 0
theorem g_E_v {m n : Nat} {p : Nat → Nat} {I I' : Nat → Nat → Int32} {J J' : Nat → Nat → Int64} {Z Z' : Nat → Nat → Bool} (h : g_V m n p I J Z I' J' Z') {v u : Nat} (hv : v < 12) (hu : u < 12) : I 5 (v * 12 + u) = Int32.ofNat (g_E I v u) ∧ g_E I v u ≤ 999 := by
  obtain ⟨k, hk, e⟩ := l_of (h.R.road (v * 12 + u) (by omega)).2
  unfold g_E
  rw [if_pos ⟨hv, hu⟩, e, n_cl (by omega)]
  exact ⟨rfl, by omega⟩
theorem g_E_9 {m n : Nat} {p : Nat → Nat} {I I' : Nat → Nat → Int32} {J J' : Nat → Nat → Int64} {Z Z' : Nat → Nat → Bool} (h : g_V m n p I J Z I' J' Z') (v u : Nat) : g_E I v u ≤ 999 := by
  by_cases hc : v < 12 ∧ u < 12
  · exact (g_E_v h hc.1 hc.2).2
  · unfold g_E; rw [if_neg hc]; omega
theorem g_E_m {m n : Nat} {p : Nat → Nat} {I I' : Nat → Nat → Int32} {J J' : Nat → Nat → Int64} {Z Z' : Nat → Nat → Bool} (h : g_V m n p I J Z I' J' Z') {k : Nat} (hk : k < 144) : I' 200 k = Int32.ofNat ((fun a b => g_E I b a) (k % 12) (k / 12)) := by
  have h1 := (g_E_v h (show k / 12 < 12 by omega) (show k % 12 < 12 by omega)).1
  rw [show k / 12 * 12 + k % 12 = k by omega] at h1
  exact (h.R.road k hk).1.symm.trans h1
/-- the ways of the class, measured -/
theorem g_ways {m n rem : Nat} {p w : Nat → Nat} {I I' : Nat → Nat → Int32} {J J' : Nat → Nat → Int64} {Z Z' : Nat → Nat → Bool} (h : g_V m n p I J Z I' J' Z') {q : Nat} (hq : q < 12) : ∃ I1 : Nat → Nat → Int32, w_R xs Ln 88 (0, [(0, .ref 2), (1, .int (Int32.ofNat q))], [], (I, J, kR w rem, Z), 0, 0) (fun o s => o = .inl none ∧ s = (I1, J, kR w rem, Z)) ∧ (∀ a k, a ≠ 4 → I1 a k = I a k) ∧ ∀ v, v < 12 → y_is (g_E I) q v (I1 4 v) :=
  y_88 (g_E_9 h) hq (fun v u hv hu => (g_E_v h hv hu).1)
/-- the way of the reference is that of the class -/
theorem g_way1 {m n rem : Nat} {p w : Nat → Nat} {I I' A : Nat → Nat → Int32} {J J' B : Nat → Nat → Int64} {Z Z' C : Nat → Nat → Bool} (h : g_V m n p I J Z I' J' Z') (hA : ∀ k, A 200 k = I' 200 k) {f t : Nat} (hf : f < 12) (ht : t < 12) {y : Int32} (hy : y_is (g_E I) t f y) : ∃ I1 : Nat → Nat → Int32, w_R xs Ln 113 (0, [(0, .ref 199), (1, .int (Int32.ofNat f)), (2, .int (Int32.ofNat t))], [], (A, B, kR w rem, C), 0, 0) (fun o s => o = .inl (some (.int y)) ∧ s = (I1, B, kR w rem, C)) ∧ (∀ a k, a ≠ 202 → I1 a k = A a k) := by
  obtain ⟨I1, x, h1, h2, h3⟩ := y_113 (xs := xs) (Ln := Ln) (J := B) (Z := C) (w := w) (rem := rem) (E := fun a b => g_E I b a) (I := A) (fun v u => g_E_9 h u v) hf ht (fun k hk => (hA k).trans (g_E_m h hk))
  have := y_is_one hy h3
  subst this
  exact ⟨I1, h1, h2⟩
theorem op_22 : ∀ a0 a1, lw_ok xs Ln g_Rel 23 157 [.int a0, .int a1] := by
  intro a0 a1 m σ hR hm
  obtain ⟨I, J, Z, w, rem, p, q0, n, rfl, hP, hV⟩ := hR
  by_cases c0 : l_rg a0 0 6 = false
  · exact lw_bad (b_23_0 a0 a1 c0) (b_157_0 a0 a1 c0) rfl hP hV
  replace c0 := eq_true_of_ne_false c0
  obtain ⟨u, hu, rfl⟩ := l_of c0
  by_cases c1 : l_rg a1 0 12 = false
  · exact lw_bad (b_23_1 u a1 hu c1) (b_157_1 u a1 hu c1) rfl hP hV
  replace c1 := eq_true_of_ne_false c1
  obtain ⟨j, hj, rfl⟩ := l_of c1
  obtain ⟨e0, e1, -, -, -, -, -, -, f1, -⟩ := hV.R.unit u hu
  obtain ⟨q, hq, hjq⟩ := l_of f1
  obtain ⟨I1, h1, h2, h3⟩ := g_ways (xs := xs) (Ln := Ln) (w := w) (rem := rem) hV hj
  have hc := d_23 (I := I) (J := J) (Z := Z) (w := w) (rem := rem) (xs := xs) (Ln := Ln) u j q I1 hu hj hq ((h2 _ _ (by omega)).trans (e1.trans hjq)) h1
  obtain ⟨I2, g1, g2⟩ := g_way1 (xs := xs) (Ln := Ln) (w := w) (rem := rem) (A := s_up I1 199 59 0) (B := J) (C := Z) hV (fun k => (s_upa (by omega)).trans (h2 200 k (by omega))) hq hj (h3 q hq)
  have hd := d_157 (I := I1) (J := J) (Z := Z) (w := w) (rem := rem) (xs := xs) (Ln := Ln) u j q (I1 4 q) I2 hu hj hq ((h2 208 u (by omega)).trans hjq) g1
  refine lw_fin (n := n) hc hd rfl hP (g_V.mono (hV.congr (fun a k h ha _ => h2 a k ha) (fun _ _ _ => rfl) (fun _ _ _ => rfl) (fun a k h _ h202 _ _ _ h59 => ?_) (fun _ _ _ _ => rfl) (fun _ _ _ _ => rfl))) (fun a k h => ?_) (fun _ _ _ => rfl) (fun _ _ _ => rfl)
  · rw [g2 a k h202]
    by_cases ha : a = 199
    · rw [s_upk (fun e => h59 ⟨ha, e⟩)]; exact h2 a k (by omega)
    · rw [s_upa ha]; exact h2 a k (by omega)
  · rw [g2 a k (by omega)]; exact s_upa (by omega)
end Eta
