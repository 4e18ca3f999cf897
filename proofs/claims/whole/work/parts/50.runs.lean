section Small5
variable {xs : Nat → Int32} {Ln : Nat} {I : Nat → Nat → Int32} {J : Nat → Nat → Int64} {Z : Nat → Nat → Bool} {w : Nat → Nat} {rem : Nat}
theorem b_25_0 (u : Int32) (x : Int32) (hu : l_rg u 0 6 = false) : w_R xs Ln 25 (0, [(0, .ref 1), (1, .int u), (2, .int x)], [], (I, J, kR w rem, Z), 0, 0) (fun o s => o = .inl (some (.int (-1))) ∧ s = (I, J, kR w rem, Z)) := by
  refine w_R.go (c' := (1, [(0, .ref 1), (1, .int u), (2, .int x)], [.int u], (I, J, kR w rem, Z), 0, 0)) 1 ?_ (fun m_ x_ Q_ k_ => ⟨trivial, k_⟩)
  refine w_R.callS (ce' := 0) (sl' := 0) (v := some (.int (s_b false))) (σ' := (I, J, kR w rem, Z)) (as := [.int u]) (rest := []) (d_31F u hu) ?_ rfl rfl rfl rfl rfl rfl rfl rfl rfl
  show w_R xs Ln 25 (4, [(0, .ref 1), (1, .int u), (2, .int x)], [.int (s_b false)], (I, J, kR w rem, Z), 0, 0) _
  refine w_R.ret 3 (.inl (some (.int (-1)))) (I, J, kR w rem, Z) ?_ (fun x_ Q_ k_ => ⟨trivial, trivial, trivial, ⟨Nat.le_of_ble_eq_true rfl, Nat.le_of_ble_eq_true rfl⟩, k_⟩)
  exact ⟨rfl, rfl⟩
theorem b_159_0 (u : Int32) (x : Int32) (hu : l_rg u 0 6 = false) : w_R xs Ln 159 (0, [(0, .ref 199), (1, .int u), (2, .int x)], [], (I, J, kR w rem, Z), 0, 0) (fun o s => o = .inl (some (.int (-1))) ∧ s = (s_up I 199 59 0, J, kR w rem, Z)) := by
  refine w_R.go (c' := (6, [(0, .ref 199), (1, .int u), (2, .int x)], [.int u], (s_up I 199 59 0, J, kR w rem, Z), 0, 0)) 4 ?_ (fun m_ x_ Q_ k_ => ⟨trivial, trivial, ⟨sh_199, trivial⟩, trivial, k_⟩)
  refine w_R.callS (ce' := 0) (sl' := 0) (v := some (.int (s_b false))) (σ' := (s_up I 199 59 0, J, kR w rem, Z)) (as := [.int u]) (rest := []) (d_109F u hu) ?_ rfl rfl rfl rfl rfl rfl rfl rfl rfl
  show w_R xs Ln 159 (9, [(0, .ref 199), (1, .int u), (2, .int x)], [.int (s_b false)], (s_up I 199 59 0, J, kR w rem, Z), 0, 0) _
  refine w_R.ret 3 (.inl (some (.int (-1)))) (s_up I 199 59 0, J, kR w rem, Z) ?_ (fun x_ Q_ k_ => ⟨trivial, trivial, trivial, ⟨Nat.le_of_ble_eq_true rfl, Nat.le_of_ble_eq_true rfl⟩, k_⟩)
  exact ⟨rfl, rfl⟩
def v_25 (I : Nat → Nat → Int32) (J : Nat → Nat → Int64) (Z : Nat → Nat → Bool) (u : Nat) (x : Int32) : Int32 := v_58 I J Z u x
theorem d_25 (u : Nat) (x : Int32) (hu : u < 6) : w_R xs Ln 25 (0, [(0, .ref 1), (1, .int (Int32.ofNat u)), (2, .int x)], [], (I, J, kR w rem, Z), 0, 0) (fun o s => o = .inl (some (.int (v_25 I J Z u x))) ∧ s = (I, J, kR w rem, Z)) := by
  refine w_R.go (c' := (1, [(0, .ref 1), (1, .int (Int32.ofNat u)), (2, .int x)], [.int (Int32.ofNat u)], (I, J, kR w rem, Z), 0, 0)) 1 ?_ (fun m_ x_ Q_ k_ => ⟨trivial, k_⟩)
  refine w_R.callS (ce' := 0) (sl' := 0) (v := some (.int (s_b true))) (σ' := (I, J, kR w rem, Z)) (as := [.int (Int32.ofNat u)]) (rest := []) (d_31N u (by omega)) ?_ rfl rfl rfl rfl rfl rfl rfl rfl rfl
  show w_R xs Ln 25 (4, [(0, .ref 1), (1, .int (Int32.ofNat u)), (2, .int x)], [.int (s_b true)], (I, J, kR w rem, Z), 0, 0) _
  refine w_R.go (c' := (13, [(0, .ref 1), (1, .int (Int32.ofNat u)), (2, .int x)], [.ref (kR w rem 11 (Int32.ofNat u).toNatClampNeg)], (I, J, kR w rem, Z), 0, 0)) 5 ?_ (fun m_ x_ Q_ k_ => ⟨trivial, trivial, ⟨sh_1, (Nat.succ_ne_zero 10)⟩, trivial, ⟨⟨_, sh_11, (n_in (a := u) (by omega) (by decide))⟩, (show kR w rem 11 (Int32.ofNat u).toNatClampNeg ≠ 0 by rw [n_cl (a := u) (by omega), r_amb (w := w) (rem := rem) (u := u) (by omega)]; omega)⟩, k_⟩)
  rw [n_cl (a := u) (by omega)]
  rw [r_amb (w := w) (rem := rem) (u := u) (by omega)]
  show w_R xs Ln 25 (13, [(0, .ref 1), (1, .int (Int32.ofNat u)), (2, .int x)], [.ref (135 + u)], (I, J, kR w rem, Z), 0, 0) _
  refine w_R.go (c' := (14, [(0, .ref 1), (1, .int (Int32.ofNat u)), (2, .int x)], [.int x, .ref (135 + u)], (I, J, kR w rem, Z), 0, 0)) 1 ?_ (fun m_ x_ Q_ k_ => ⟨trivial, k_⟩)
  refine w_R.callV (ce' := 0) (sl' := 0) (v := some (.int (v_58 I J Z u x))) (σ' := (I, J, kR w rem, Z)) (as := [.ref (135 + u), .int x]) (rest := []) (d_58 u x (by omega)) ?_ rfl rfl rfl rfl rfl (sh_amb (by omega)) rfl rfl rfl rfl
  show w_R xs Ln 25 (17, [(0, .ref 1), (1, .int (Int32.ofNat u)), (2, .int x)], [.int (v_58 I J Z u x)], (I, J, kR w rem, Z), 0, 0) _
  refine w_R.ret 2 (.inl (some (.int (v_58 I J Z u x)))) (I, J, kR w rem, Z) ?_ (fun x_ Q_ k_ => ⟨trivial, trivial, ⟨Nat.le_of_ble_eq_true rfl, Nat.le_of_ble_eq_true rfl⟩, k_⟩)
  exact ⟨by rw [show v_25 I J Z u x = (v_58 I J Z u x) from by unfold v_25; rfl] <;> rfl, rfl⟩
def v_159 (I : Nat → Nat → Int32) (J : Nat → Nat → Int64) (Z : Nat → Nat → Bool) (u : Nat) (x : Int32) : Int32 := if x = 0 then I 210 u else if x = 1 then I 208 u else if x = 2 then I 211 u else if x = 3 then I 214 u else if x = 4 then I 213 u else if x = 5 then I 209 u else (-1)
def i_159 (I : Nat → Nat → Int32) (J : Nat → Nat → Int64) (Z : Nat → Nat → Bool) (u : Nat) (x : Int32) : Nat → Nat → Int32 := s_up I 199 59 0
theorem d_159 (u : Nat) (x : Int32) (hu : u < 6) : w_R xs Ln 159 (0, [(0, .ref 199), (1, .int (Int32.ofNat u)), (2, .int x)], [], (I, J, kR w rem, Z), 0, 0) (fun o s => o = .inl (some (.int (v_159 I J Z u x))) ∧ s = (i_159 I J Z u x, J, kR w rem, Z)) := by
  refine w_R.go (c' := (6, [(0, .ref 199), (1, .int (Int32.ofNat u)), (2, .int x)], [.int (Int32.ofNat u)], (s_up I 199 59 0, J, kR w rem, Z), 0, 0)) 4 ?_ (fun m_ x_ Q_ k_ => ⟨trivial, trivial, ⟨sh_199, trivial⟩, trivial, k_⟩)
  refine w_R.callS (ce' := 0) (sl' := 0) (v := some (.int (s_b true))) (σ' := (s_up I 199 59 0, J, kR w rem, Z)) (as := [.int (Int32.ofNat u)]) (rest := []) (d_109N u (by omega)) ?_ rfl rfl rfl rfl rfl rfl rfl rfl rfl
  show w_R xs Ln 159 (9, [(0, .ref 199), (1, .int (Int32.ofNat u)), (2, .int x)], [.int (s_b true)], (s_up I 199 59 0, J, kR w rem, Z), 0, 0) _
  refine w_R.go (c' := (if x.toInt < 0 ∨ 5 < x.toInt then 94 else i_tg 15 ((#[37, 44, 51, 58, 65, 72] : Array Int).getD (x.toInt - 0).toNat 0), [(0, .ref 199), (1, .int (Int32.ofNat u)), (2, .int x)], [], (s_up I 199 59 0, J, kR w rem, Z), 0, 0)) 3 ?_ (fun m_ x_ Q_ k_ => ⟨trivial, trivial, trivial, k_⟩)
  by_cases h1 : x = 0
  · rw [show (if x.toInt < 0 ∨ 5 < x.toInt then 94 else i_tg 15 ((#[37, 44, 51, 58, 65, 72] : Array Int).getD (x.toInt - 0).toNat 0)) = 52 by rw [h1]; rfl]
    refine w_R.go (c' := (58, [(0, .ref 199), (1, .int (Int32.ofNat u)), (2, .int x)], [.int ((s_up I 199 59 0) 210 (Int32.ofNat u).toNatClampNeg)], (s_up I 199 59 0, J, kR w rem, Z), 0, 0)) 4 ?_ (fun m_ x_ Q_ k_ => ⟨trivial, ⟨sh_199, (Nat.succ_ne_zero 209)⟩, trivial, ⟨_, sh_210, (n_in (a := u) (by omega) (by decide))⟩, k_⟩)
    rw [n_cl (a := u) (by omega)]
    rw [show (s_up I 199 59 0) 210 u = I 210 u from (s_upa (by decide))]
    show w_R xs Ln 159 (58, [(0, .ref 199), (1, .int (Int32.ofNat u)), (2, .int x)], [.int (I 210 u)], (s_up I 199 59 0, J, kR w rem, Z), 0, 0) _
    refine w_R.ret 1 (.inl (some (.int (I 210 u)))) (s_up I 199 59 0, J, kR w rem, Z) ?_ (fun x_ Q_ k_ => ⟨trivial, ⟨Nat.le_of_ble_eq_true rfl, Nat.le_of_ble_eq_true rfl⟩, k_⟩)
    exact ⟨by rw [show v_159 I J Z u x = (I 210 u) from by unfold v_159; rw [if_pos h1]] <;> rfl, by rw [show i_159 I J Z u x = (s_up I 199 59 0) from by unfold i_159; rfl]⟩
  by_cases h2 : x = 1
  · rw [show (if x.toInt < 0 ∨ 5 < x.toInt then 94 else i_tg 15 ((#[37, 44, 51, 58, 65, 72] : Array Int).getD (x.toInt - 0).toNat 0)) = 59 by rw [h2]; rfl]
    refine w_R.go (c' := (65, [(0, .ref 199), (1, .int (Int32.ofNat u)), (2, .int x)], [.int ((s_up I 199 59 0) 208 (Int32.ofNat u).toNatClampNeg)], (s_up I 199 59 0, J, kR w rem, Z), 0, 0)) 4 ?_ (fun m_ x_ Q_ k_ => ⟨trivial, ⟨sh_199, (Nat.succ_ne_zero 207)⟩, trivial, ⟨_, sh_208, (n_in (a := u) (by omega) (by decide))⟩, k_⟩)
    rw [n_cl (a := u) (by omega)]
    rw [show (s_up I 199 59 0) 208 u = I 208 u from (s_upa (by decide))]
    show w_R xs Ln 159 (65, [(0, .ref 199), (1, .int (Int32.ofNat u)), (2, .int x)], [.int (I 208 u)], (s_up I 199 59 0, J, kR w rem, Z), 0, 0) _
    refine w_R.ret 1 (.inl (some (.int (I 208 u)))) (s_up I 199 59 0, J, kR w rem, Z) ?_ (fun x_ Q_ k_ => ⟨trivial, ⟨Nat.le_of_ble_eq_true rfl, Nat.le_of_ble_eq_true rfl⟩, k_⟩)
    exact ⟨by rw [show v_159 I J Z u x = (I 208 u) from by unfold v_159; rw [if_neg h1, if_pos h2]] <;> rfl, by rw [show i_159 I J Z u x = (s_up I 199 59 0) from by unfold i_159; rfl]⟩
  by_cases h3 : x = 2
  · rw [show (if x.toInt < 0 ∨ 5 < x.toInt then 94 else i_tg 15 ((#[37, 44, 51, 58, 65, 72] : Array Int).getD (x.toInt - 0).toNat 0)) = 66 by rw [h3]; rfl]
    refine w_R.go (c' := (72, [(0, .ref 199), (1, .int (Int32.ofNat u)), (2, .int x)], [.int ((s_up I 199 59 0) 211 (Int32.ofNat u).toNatClampNeg)], (s_up I 199 59 0, J, kR w rem, Z), 0, 0)) 4 ?_ (fun m_ x_ Q_ k_ => ⟨trivial, ⟨sh_199, (Nat.succ_ne_zero 210)⟩, trivial, ⟨_, sh_211, (n_in (a := u) (by omega) (by decide))⟩, k_⟩)
    rw [n_cl (a := u) (by omega)]
    rw [show (s_up I 199 59 0) 211 u = I 211 u from (s_upa (by decide))]
    show w_R xs Ln 159 (72, [(0, .ref 199), (1, .int (Int32.ofNat u)), (2, .int x)], [.int (I 211 u)], (s_up I 199 59 0, J, kR w rem, Z), 0, 0) _
    refine w_R.ret 1 (.inl (some (.int (I 211 u)))) (s_up I 199 59 0, J, kR w rem, Z) ?_ (fun x_ Q_ k_ => ⟨trivial, ⟨Nat.le_of_ble_eq_true rfl, Nat.le_of_ble_eq_true rfl⟩, k_⟩)
    exact ⟨by rw [show v_159 I J Z u x = (I 211 u) from by unfold v_159; rw [if_neg h1, if_neg h2, if_pos h3]] <;> rfl, by rw [show i_159 I J Z u x = (s_up I 199 59 0) from by unfold i_159; rfl]⟩
  by_cases h4 : x = 3
  · rw [show (if x.toInt < 0 ∨ 5 < x.toInt then 94 else i_tg 15 ((#[37, 44, 51, 58, 65, 72] : Array Int).getD (x.toInt - 0).toNat 0)) = 73 by rw [h4]; rfl]
    refine w_R.go (c' := (79, [(0, .ref 199), (1, .int (Int32.ofNat u)), (2, .int x)], [.int ((s_up I 199 59 0) 214 (Int32.ofNat u).toNatClampNeg)], (s_up I 199 59 0, J, kR w rem, Z), 0, 0)) 4 ?_ (fun m_ x_ Q_ k_ => ⟨trivial, ⟨sh_199, (Nat.succ_ne_zero 213)⟩, trivial, ⟨_, sh_214, (n_in (a := u) (by omega) (by decide))⟩, k_⟩)
    rw [n_cl (a := u) (by omega)]
    rw [show (s_up I 199 59 0) 214 u = I 214 u from (s_upa (by decide))]
    show w_R xs Ln 159 (79, [(0, .ref 199), (1, .int (Int32.ofNat u)), (2, .int x)], [.int (I 214 u)], (s_up I 199 59 0, J, kR w rem, Z), 0, 0) _
    refine w_R.ret 1 (.inl (some (.int (I 214 u)))) (s_up I 199 59 0, J, kR w rem, Z) ?_ (fun x_ Q_ k_ => ⟨trivial, ⟨Nat.le_of_ble_eq_true rfl, Nat.le_of_ble_eq_true rfl⟩, k_⟩)
    exact ⟨by rw [show v_159 I J Z u x = (I 214 u) from by unfold v_159; rw [if_neg h1, if_neg h2, if_neg h3, if_pos h4]] <;> rfl, by rw [show i_159 I J Z u x = (s_up I 199 59 0) from by unfold i_159; rfl]⟩
  by_cases h5 : x = 4
  · rw [show (if x.toInt < 0 ∨ 5 < x.toInt then 94 else i_tg 15 ((#[37, 44, 51, 58, 65, 72] : Array Int).getD (x.toInt - 0).toNat 0)) = 80 by rw [h5]; rfl]
    refine w_R.go (c' := (86, [(0, .ref 199), (1, .int (Int32.ofNat u)), (2, .int x)], [.int ((s_up I 199 59 0) 213 (Int32.ofNat u).toNatClampNeg)], (s_up I 199 59 0, J, kR w rem, Z), 0, 0)) 4 ?_ (fun m_ x_ Q_ k_ => ⟨trivial, ⟨sh_199, (Nat.succ_ne_zero 212)⟩, trivial, ⟨_, sh_213, (n_in (a := u) (by omega) (by decide))⟩, k_⟩)
    rw [n_cl (a := u) (by omega)]
    rw [show (s_up I 199 59 0) 213 u = I 213 u from (s_upa (by decide))]
    show w_R xs Ln 159 (86, [(0, .ref 199), (1, .int (Int32.ofNat u)), (2, .int x)], [.int (I 213 u)], (s_up I 199 59 0, J, kR w rem, Z), 0, 0) _
    refine w_R.ret 1 (.inl (some (.int (I 213 u)))) (s_up I 199 59 0, J, kR w rem, Z) ?_ (fun x_ Q_ k_ => ⟨trivial, ⟨Nat.le_of_ble_eq_true rfl, Nat.le_of_ble_eq_true rfl⟩, k_⟩)
    exact ⟨by rw [show v_159 I J Z u x = (I 213 u) from by unfold v_159; rw [if_neg h1, if_neg h2, if_neg h3, if_neg h4, if_pos h5]] <;> rfl, by rw [show i_159 I J Z u x = (s_up I 199 59 0) from by unfold i_159; rfl]⟩
  by_cases h6 : x = 5
  · rw [show (if x.toInt < 0 ∨ 5 < x.toInt then 94 else i_tg 15 ((#[37, 44, 51, 58, 65, 72] : Array Int).getD (x.toInt - 0).toNat 0)) = 87 by rw [h6]; rfl]
    refine w_R.go (c' := (93, [(0, .ref 199), (1, .int (Int32.ofNat u)), (2, .int x)], [.int ((s_up I 199 59 0) 209 (Int32.ofNat u).toNatClampNeg)], (s_up I 199 59 0, J, kR w rem, Z), 0, 0)) 4 ?_ (fun m_ x_ Q_ k_ => ⟨trivial, ⟨sh_199, (Nat.succ_ne_zero 208)⟩, trivial, ⟨_, sh_209, (n_in (a := u) (by omega) (by decide))⟩, k_⟩)
    rw [n_cl (a := u) (by omega)]
    rw [show (s_up I 199 59 0) 209 u = I 209 u from (s_upa (by decide))]
    show w_R xs Ln 159 (93, [(0, .ref 199), (1, .int (Int32.ofNat u)), (2, .int x)], [.int (I 209 u)], (s_up I 199 59 0, J, kR w rem, Z), 0, 0) _
    refine w_R.ret 1 (.inl (some (.int (I 209 u)))) (s_up I 199 59 0, J, kR w rem, Z) ?_ (fun x_ Q_ k_ => ⟨trivial, ⟨Nat.le_of_ble_eq_true rfl, Nat.le_of_ble_eq_true rfl⟩, k_⟩)
    exact ⟨by rw [show v_159 I J Z u x = (I 209 u) from by unfold v_159; rw [if_neg h1, if_neg h2, if_neg h3, if_neg h4, if_neg h5, if_pos h6]] <;> rfl, by rw [show i_159 I J Z u x = (s_up I 199 59 0) from by unfold i_159; rfl]⟩
  rw [if_pos (l_out (x := x) (a := 5) (n := 6) (by omega) rfl (by intro k hk; (rcases k with _ | _ | _ | _ | _ | _ | k) <;> first | assumption | omega))]
  refine w_R.ret 2 (.inl (some (.int (-1)))) (s_up I 199 59 0, J, kR w rem, Z) ?_ (fun x_ Q_ k_ => ⟨trivial, trivial, ⟨Nat.le_of_ble_eq_true rfl, Nat.le_of_ble_eq_true rfl⟩, k_⟩)
  exact ⟨by rw [show v_159 I J Z u x = (-1) from by unfold v_159; rw [if_neg h1, if_neg h2, if_neg h3, if_neg h4, if_neg h5, if_neg h6]] <;> rfl, by rw [show i_159 I J Z u x = (s_up I 199 59 0) from by unfold i_159; rfl]⟩
theorem b_2_0 (j : Int32) (d : Int32) (hj : l_rg j 0 12 = false) : w_R xs Ln 2 (0, [(0, .ref 1), (1, .int j), (2, .int d)], [], (I, J, kR w rem, Z), 0, 0) (fun o s => o = .inl (some (.int 0)) ∧ s = (I, J, kR w rem, Z)) := by
  refine w_R.go (c' := (1, [(0, .ref 1), (1, .int j), (2, .int d)], [.int j], (I, J, kR w rem, Z), 0, 0)) 1 ?_ (fun m_ x_ Q_ k_ => ⟨trivial, k_⟩)
  refine w_R.callS (ce' := 0) (sl' := 0) (v := some (.int (s_b false))) (σ' := (I, J, kR w rem, Z)) (as := [.int j]) (rest := []) (d_28F j hj) ?_ rfl rfl rfl rfl rfl rfl rfl rfl rfl
  show w_R xs Ln 2 (4, [(0, .ref 1), (1, .int j), (2, .int d)], [.int (s_b false)], (I, J, kR w rem, Z), 0, 0) _
  refine w_R.ret 3 (.inl (some (.int 0))) (I, J, kR w rem, Z) ?_ (fun x_ Q_ k_ => ⟨trivial, trivial, Or.inl rfl, ⟨Nat.le_of_ble_eq_true rfl, Nat.le_of_ble_eq_true rfl⟩, k_⟩)
  exact ⟨rfl, rfl⟩
theorem b_112_0 (j : Int32) (d : Int32) (hj : l_rg j 0 12 = false) : w_R xs Ln 112 (0, [(0, .ref 199), (1, .int j), (2, .int d)], [], (I, J, kR w rem, Z), 0, 0) (fun o s => o = .inl (some (.int 0)) ∧ s = (s_up I 199 59 0, J, kR w rem, Z)) := by
  refine w_R.go (c' := (6, [(0, .ref 199), (1, .int j), (2, .int d)], [.int j], (s_up I 199 59 0, J, kR w rem, Z), 0, 0)) 4 ?_ (fun m_ x_ Q_ k_ => ⟨trivial, trivial, ⟨sh_199, trivial⟩, trivial, k_⟩)
  refine w_R.callS (ce' := 0) (sl' := 0) (v := some (.int (s_b false))) (σ' := (s_up I 199 59 0, J, kR w rem, Z)) (as := [.int j]) (rest := []) (d_107F j hj) ?_ rfl rfl rfl rfl rfl rfl rfl rfl rfl
  show w_R xs Ln 112 (9, [(0, .ref 199), (1, .int j), (2, .int d)], [.int (s_b false)], (s_up I 199 59 0, J, kR w rem, Z), 0, 0) _
  refine w_R.ret 3 (.inl (some (.int 0))) (s_up I 199 59 0, J, kR w rem, Z) ?_ (fun x_ Q_ k_ => ⟨trivial, trivial, Or.inl rfl, ⟨Nat.le_of_ble_eq_true rfl, Nat.le_of_ble_eq_true rfl⟩, k_⟩)
  exact ⟨rfl, rfl⟩
theorem b_2_1 (j : Nat) (d : Int32) (hj : j < 12) (hd : l_rg d 0 4 = false) : w_R xs Ln 2 (0, [(0, .ref 1), (1, .int (Int32.ofNat j)), (2, .int d)], [], (I, J, kR w rem, Z), 0, 0) (fun o s => o = .inl (some (.int 0)) ∧ s = (I, J, kR w rem, Z)) := by
  refine w_R.go (c' := (1, [(0, .ref 1), (1, .int (Int32.ofNat j)), (2, .int d)], [.int (Int32.ofNat j)], (I, J, kR w rem, Z), 0, 0)) 1 ?_ (fun m_ x_ Q_ k_ => ⟨trivial, k_⟩)
  refine w_R.callS (ce' := 0) (sl' := 0) (v := some (.int (s_b true))) (σ' := (I, J, kR w rem, Z)) (as := [.int (Int32.ofNat j)]) (rest := []) (d_28N j (by omega)) ?_ rfl rfl rfl rfl rfl rfl rfl rfl rfl
  show w_R xs Ln 2 (4, [(0, .ref 1), (1, .int (Int32.ofNat j)), (2, .int d)], [.int (s_b true)], (I, J, kR w rem, Z), 0, 0) _
  refine w_R.go (c' := (8, [(0, .ref 1), (1, .int (Int32.ofNat j)), (2, .int d)], [.int d], (I, J, kR w rem, Z), 0, 0)) 2 ?_ (fun m_ x_ Q_ k_ => ⟨trivial, trivial, k_⟩)
  refine w_R.callS (ce' := 0) (sl' := 0) (v := some (.int (s_b false))) (σ' := (I, J, kR w rem, Z)) (as := [.int d]) (rest := []) (d_29F d hd) ?_ rfl rfl rfl rfl rfl rfl rfl rfl rfl
  show w_R xs Ln 2 (11, [(0, .ref 1), (1, .int (Int32.ofNat j)), (2, .int d)], [.int (s_b false)], (I, J, kR w rem, Z), 0, 0) _
  refine w_R.ret 3 (.inl (some (.int 0))) (I, J, kR w rem, Z) ?_ (fun x_ Q_ k_ => ⟨trivial, trivial, Or.inl rfl, ⟨Nat.le_of_ble_eq_true rfl, Nat.le_of_ble_eq_true rfl⟩, k_⟩)
  exact ⟨rfl, rfl⟩
theorem b_112_1 (j : Nat) (d : Int32) (hj : j < 12) (hd : l_rg d 0 4 = false) : w_R xs Ln 112 (0, [(0, .ref 199), (1, .int (Int32.ofNat j)), (2, .int d)], [], (I, J, kR w rem, Z), 0, 0) (fun o s => o = .inl (some (.int 0)) ∧ s = (s_up I 199 59 0, J, kR w rem, Z)) := by
  refine w_R.go (c' := (6, [(0, .ref 199), (1, .int (Int32.ofNat j)), (2, .int d)], [.int (Int32.ofNat j)], (s_up I 199 59 0, J, kR w rem, Z), 0, 0)) 4 ?_ (fun m_ x_ Q_ k_ => ⟨trivial, trivial, ⟨sh_199, trivial⟩, trivial, k_⟩)
  refine w_R.callS (ce' := 0) (sl' := 0) (v := some (.int (s_b true))) (σ' := (s_up I 199 59 0, J, kR w rem, Z)) (as := [.int (Int32.ofNat j)]) (rest := []) (d_107N j (by omega)) ?_ rfl rfl rfl rfl rfl rfl rfl rfl rfl
  show w_R xs Ln 112 (9, [(0, .ref 199), (1, .int (Int32.ofNat j)), (2, .int d)], [.int (s_b true)], (s_up I 199 59 0, J, kR w rem, Z), 0, 0) _
  refine w_R.go (c' := (13, [(0, .ref 199), (1, .int (Int32.ofNat j)), (2, .int d)], [.int d], (s_up I 199 59 0, J, kR w rem, Z), 0, 0)) 2 ?_ (fun m_ x_ Q_ k_ => ⟨trivial, trivial, k_⟩)
  refine w_R.callS (ce' := 0) (sl' := 0) (v := some (.int (s_b false))) (σ' := (s_up I 199 59 0, J, kR w rem, Z)) (as := [.int d]) (rest := []) (d_110F d hd) ?_ rfl rfl rfl rfl rfl rfl rfl rfl rfl
  show w_R xs Ln 112 (16, [(0, .ref 199), (1, .int (Int32.ofNat j)), (2, .int d)], [.int (s_b false)], (s_up I 199 59 0, J, kR w rem, Z), 0, 0) _
  refine w_R.ret 3 (.inl (some (.int 0))) (s_up I 199 59 0, J, kR w rem, Z) ?_ (fun x_ Q_ k_ => ⟨trivial, trivial, Or.inl rfl, ⟨Nat.le_of_ble_eq_true rfl, Nat.le_of_ble_eq_true rfl⟩, k_⟩)
  exact ⟨rfl, rfl⟩
def v_2 (I : Nat → Nat → Int32) (J : Nat → Nat → Int64) (Z : Nat → Nat → Bool) (j : Nat) (d : Nat) : Bool := true
def i_2 (I : Nat → Nat → Int32) (J : Nat → Nat → Int64) (Z : Nat → Nat → Bool) (j : Nat) (d : Nat) : Nat → Nat → Int32 := s_up I 3 j (Int32.ofNat d)
theorem d_2 (j : Nat) (d : Nat) (hj : j < 12) (hd : d < 4) : w_R xs Ln 2 (0, [(0, .ref 1), (1, .int (Int32.ofNat j)), (2, .int (Int32.ofNat d))], [], (I, J, kR w rem, Z), 0, 0) (fun o s => o = .inl (some (.int (s_b (v_2 I J Z j d)))) ∧ s = (i_2 I J Z j d, J, kR w rem, Z)) := by
  refine w_R.go (c' := (1, [(0, .ref 1), (1, .int (Int32.ofNat j)), (2, .int (Int32.ofNat d))], [.int (Int32.ofNat j)], (I, J, kR w rem, Z), 0, 0)) 1 ?_ (fun m_ x_ Q_ k_ => ⟨trivial, k_⟩)
  refine w_R.callS (ce' := 0) (sl' := 0) (v := some (.int (s_b true))) (σ' := (I, J, kR w rem, Z)) (as := [.int (Int32.ofNat j)]) (rest := []) (d_28N j (by omega)) ?_ rfl rfl rfl rfl rfl rfl rfl rfl rfl
  show w_R xs Ln 2 (4, [(0, .ref 1), (1, .int (Int32.ofNat j)), (2, .int (Int32.ofNat d))], [.int (s_b true)], (I, J, kR w rem, Z), 0, 0) _
  refine w_R.go (c' := (8, [(0, .ref 1), (1, .int (Int32.ofNat j)), (2, .int (Int32.ofNat d))], [.int (Int32.ofNat d)], (I, J, kR w rem, Z), 0, 0)) 2 ?_ (fun m_ x_ Q_ k_ => ⟨trivial, trivial, k_⟩)
  refine w_R.callS (ce' := 0) (sl' := 0) (v := some (.int (s_b true))) (σ' := (I, J, kR w rem, Z)) (as := [.int (Int32.ofNat d)]) (rest := []) (d_29N d (by omega)) ?_ rfl rfl rfl rfl rfl rfl rfl rfl rfl
  show w_R xs Ln 2 (11, [(0, .ref 1), (1, .int (Int32.ofNat j)), (2, .int (Int32.ofNat d))], [.int (s_b true)], (I, J, kR w rem, Z), 0, 0) _
  refine w_R.go (c' := (26, [(0, .ref 1), (1, .int (Int32.ofNat j)), (2, .int (Int32.ofNat d))], [], (s_up I 3 ((Int32.ofNat j).toNatClampNeg) (Int32.ofNat d), J, kR w rem, Z), 0, 0)) 7 ?_ (fun m_ x_ Q_ k_ => ⟨trivial, trivial, ⟨sh_1, (Nat.succ_ne_zero 1)⟩, ⟨sh_2, (Nat.succ_ne_zero 2)⟩, trivial, trivial, ⟨_, sh_3, (n_in (a := j) (by omega) (by decide))⟩, k_⟩)
  rw [n_cl (a := j) (by omega)]
  show w_R xs Ln 2 (26, [(0, .ref 1), (1, .int (Int32.ofNat j)), (2, .int (Int32.ofNat d))], [], (s_up I 3 j (Int32.ofNat d), J, kR w rem, Z), 0, 0) _
  refine w_R.ret 2 (.inl (some (.int 1))) (s_up I 3 j (Int32.ofNat d), J, kR w rem, Z) ?_ (fun x_ Q_ k_ => ⟨trivial, Or.inr rfl, ⟨Nat.le_of_ble_eq_true rfl, Nat.le_of_ble_eq_true rfl⟩, k_⟩)
  exact ⟨by rw [show v_2 I J Z j d = true from by unfold v_2; rfl] <;> rfl, by rw [show i_2 I J Z j d = (s_up I 3 j (Int32.ofNat d)) from by unfold i_2; rfl]⟩
def v_112 (I : Nat → Nat → Int32) (J : Nat → Nat → Int64) (Z : Nat → Nat → Bool) (j : Nat) (d : Nat) : Bool := true
def i_112 (I : Nat → Nat → Int32) (J : Nat → Nat → Int64) (Z : Nat → Nat → Bool) (j : Nat) (d : Nat) : Nat → Nat → Int32 := s_up (s_up I 199 59 0) 201 j (Int32.ofNat d)
theorem d_112 (j : Nat) (d : Nat) (hj : j < 12) (hd : d < 4) : w_R xs Ln 112 (0, [(0, .ref 199), (1, .int (Int32.ofNat j)), (2, .int (Int32.ofNat d))], [], (I, J, kR w rem, Z), 0, 0) (fun o s => o = .inl (some (.int (s_b (v_112 I J Z j d)))) ∧ s = (i_112 I J Z j d, J, kR w rem, Z)) := by
  refine w_R.go (c' := (6, [(0, .ref 199), (1, .int (Int32.ofNat j)), (2, .int (Int32.ofNat d))], [.int (Int32.ofNat j)], (s_up I 199 59 0, J, kR w rem, Z), 0, 0)) 4 ?_ (fun m_ x_ Q_ k_ => ⟨trivial, trivial, ⟨sh_199, trivial⟩, trivial, k_⟩)
  refine w_R.callS (ce' := 0) (sl' := 0) (v := some (.int (s_b true))) (σ' := (s_up I 199 59 0, J, kR w rem, Z)) (as := [.int (Int32.ofNat j)]) (rest := []) (d_107N j (by omega)) ?_ rfl rfl rfl rfl rfl rfl rfl rfl rfl
  show w_R xs Ln 112 (9, [(0, .ref 199), (1, .int (Int32.ofNat j)), (2, .int (Int32.ofNat d))], [.int (s_b true)], (s_up I 199 59 0, J, kR w rem, Z), 0, 0) _
  refine w_R.go (c' := (13, [(0, .ref 199), (1, .int (Int32.ofNat j)), (2, .int (Int32.ofNat d))], [.int (Int32.ofNat d)], (s_up I 199 59 0, J, kR w rem, Z), 0, 0)) 2 ?_ (fun m_ x_ Q_ k_ => ⟨trivial, trivial, k_⟩)
  refine w_R.callS (ce' := 0) (sl' := 0) (v := some (.int (s_b true))) (σ' := (s_up I 199 59 0, J, kR w rem, Z)) (as := [.int (Int32.ofNat d)]) (rest := []) (d_110N d (by omega)) ?_ rfl rfl rfl rfl rfl rfl rfl rfl rfl
  show w_R xs Ln 112 (16, [(0, .ref 199), (1, .int (Int32.ofNat j)), (2, .int (Int32.ofNat d))], [.int (s_b true)], (s_up I 199 59 0, J, kR w rem, Z), 0, 0) _
  refine w_R.go (c' := (28, [(0, .ref 199), (1, .int (Int32.ofNat j)), (2, .int (Int32.ofNat d))], [], (s_up (s_up I 199 59 0) 201 ((Int32.ofNat j).toNatClampNeg) (Int32.ofNat d), J, kR w rem, Z), 0, 0)) 6 ?_ (fun m_ x_ Q_ k_ => ⟨trivial, trivial, ⟨sh_199, (Nat.succ_ne_zero 200)⟩, trivial, trivial, ⟨_, sh_201, (n_in (a := j) (by omega) (by decide))⟩, k_⟩)
  rw [n_cl (a := j) (by omega)]
  show w_R xs Ln 112 (28, [(0, .ref 199), (1, .int (Int32.ofNat j)), (2, .int (Int32.ofNat d))], [], (s_up (s_up I 199 59 0) 201 j (Int32.ofNat d), J, kR w rem, Z), 0, 0) _
  refine w_R.ret 2 (.inl (some (.int 1))) (s_up (s_up I 199 59 0) 201 j (Int32.ofNat d), J, kR w rem, Z) ?_ (fun x_ Q_ k_ => ⟨trivial, Or.inr rfl, ⟨Nat.le_of_ble_eq_true rfl, Nat.le_of_ble_eq_true rfl⟩, k_⟩)
  exact ⟨by rw [show v_112 I J Z j d = true from by unfold v_112; rfl] <;> rfl, by rw [show i_112 I J Z j d = (s_up (s_up I 199 59 0) 201 j (Int32.ofNat d)) from by unfold i_112; rfl]⟩
theorem b_7_0 (r : Int32) (v : Int32) (hr : l_rg r 0 2 = false) : w_R xs Ln 7 (0, [(0, .ref 1), (1, .int r), (2, .int v)], [], (I, J, kR w rem, Z), 0, 0) (fun o s => o = .inl (some (.int 0)) ∧ s = (I, J, kR w rem, Z)) := by
  refine w_R.go (c' := (1, [(0, .ref 1), (1, .int r), (2, .int v)], [.int r], (I, J, kR w rem, Z), 0, 0)) 1 ?_ (fun m_ x_ Q_ k_ => ⟨trivial, k_⟩)
  refine w_R.callS (ce' := 0) (sl' := 0) (v := some (.int (s_b false))) (σ' := (I, J, kR w rem, Z)) (as := [.int r]) (rest := []) (d_32F r hr) ?_ rfl rfl rfl rfl rfl rfl rfl rfl rfl
  show w_R xs Ln 7 (4, [(0, .ref 1), (1, .int r), (2, .int v)], [.int (s_b false)], (I, J, kR w rem, Z), 0, 0) _
  refine w_R.ret 3 (.inl (some (.int 0))) (I, J, kR w rem, Z) ?_ (fun x_ Q_ k_ => ⟨trivial, trivial, Or.inl rfl, ⟨Nat.le_of_ble_eq_true rfl, Nat.le_of_ble_eq_true rfl⟩, k_⟩)
  exact ⟨rfl, rfl⟩
theorem b_137_0 (r : Int32) (v : Int32) (hr : l_rg r 0 2 = false) : w_R xs Ln 137 (0, [(0, .ref 199), (1, .int r), (2, .int v)], [], (I, J, kR w rem, Z), 0, 0) (fun o s => o = .inl (some (.int 0)) ∧ s = (s_up I 199 59 0, J, kR w rem, Z)) := by
  refine w_R.go (c' := (6, [(0, .ref 199), (1, .int r), (2, .int v)], [.int r], (s_up I 199 59 0, J, kR w rem, Z), 0, 0)) 4 ?_ (fun m_ x_ Q_ k_ => ⟨trivial, trivial, ⟨sh_199, trivial⟩, trivial, k_⟩)
  refine w_R.callS (ce' := 0) (sl' := 0) (v := some (.int (s_b false))) (σ' := (s_up I 199 59 0, J, kR w rem, Z)) (as := [.int r]) (rest := []) (d_108F r hr) ?_ rfl rfl rfl rfl rfl rfl rfl rfl rfl
  show w_R xs Ln 137 (9, [(0, .ref 199), (1, .int r), (2, .int v)], [.int (s_b false)], (s_up I 199 59 0, J, kR w rem, Z), 0, 0) _
  refine w_R.ret 3 (.inl (some (.int 0))) (s_up I 199 59 0, J, kR w rem, Z) ?_ (fun x_ Q_ k_ => ⟨trivial, trivial, Or.inl rfl, ⟨Nat.le_of_ble_eq_true rfl, Nat.le_of_ble_eq_true rfl⟩, k_⟩)
  exact ⟨rfl, rfl⟩
theorem b_7_1 (r : Nat) (v : Int32) (hr : r < 2) (hv : l_rg v 49 52 = false) : w_R xs Ln 7 (0, [(0, .ref 1), (1, .int (Int32.ofNat r)), (2, .int v)], [], (I, J, kR w rem, Z), 0, 0) (fun o s => o = .inl (some (.int 0)) ∧ s = (I, J, kR w rem, Z)) := by
  refine w_R.go (c' := (1, [(0, .ref 1), (1, .int (Int32.ofNat r)), (2, .int v)], [.int (Int32.ofNat r)], (I, J, kR w rem, Z), 0, 0)) 1 ?_ (fun m_ x_ Q_ k_ => ⟨trivial, k_⟩)
  refine w_R.callS (ce' := 0) (sl' := 0) (v := some (.int (s_b true))) (σ' := (I, J, kR w rem, Z)) (as := [.int (Int32.ofNat r)]) (rest := []) (d_32N r (by omega)) ?_ rfl rfl rfl rfl rfl rfl rfl rfl rfl
  show w_R xs Ln 7 (4, [(0, .ref 1), (1, .int (Int32.ofNat r)), (2, .int v)], [.int (s_b true)], (I, J, kR w rem, Z), 0, 0) _
  refine w_R.go (c' := (i_br .lt v 49 19 13, [(0, .ref 1), (1, .int (Int32.ofNat r)), (2, .int v)], [], (I, J, kR w rem, Z), 0, 0)) 4 ?_ (fun m_ x_ Q_ k_ => ⟨trivial, trivial, trivial, trivial, k_⟩)
  refine w_R.br_lt (fun h1 => ?_) (fun h1 => ?_)
  · refine w_R.ret 2 (.inl (some (.int 0))) (I, J, kR w rem, Z) ?_ (fun x_ Q_ k_ => ⟨trivial, Or.inl rfl, ⟨Nat.le_of_ble_eq_true rfl, Nat.le_of_ble_eq_true rfl⟩, k_⟩)
    exact ⟨rfl, rfl⟩
  · refine w_R.go (c' := (i_br .le v 51 21 19, [(0, .ref 1), (1, .int (Int32.ofNat r)), (2, .int v)], [], (I, J, kR w rem, Z), 0, 0)) 3 ?_ (fun m_ x_ Q_ k_ => ⟨trivial, trivial, trivial, k_⟩)
    refine w_R.br_le (fun h2 => ?_) (fun h2 => ?_)
    · exact (l_no hv h1 h2 rfl rfl).elim
    · refine w_R.ret 2 (.inl (some (.int 0))) (I, J, kR w rem, Z) ?_ (fun x_ Q_ k_ => ⟨trivial, Or.inl rfl, ⟨Nat.le_of_ble_eq_true rfl, Nat.le_of_ble_eq_true rfl⟩, k_⟩)
      exact ⟨rfl, rfl⟩
theorem b_137_1 (r : Nat) (v : Int32) (hr : r < 2) (hv : l_rg v 49 52 = false) : w_R xs Ln 137 (0, [(0, .ref 199), (1, .int (Int32.ofNat r)), (2, .int v)], [], (I, J, kR w rem, Z), 0, 0) (fun o s => o = .inl (some (.int 0)) ∧ s = (s_up I 199 59 0, J, kR w rem, Z)) := by
  refine w_R.go (c' := (6, [(0, .ref 199), (1, .int (Int32.ofNat r)), (2, .int v)], [.int (Int32.ofNat r)], (s_up I 199 59 0, J, kR w rem, Z), 0, 0)) 4 ?_ (fun m_ x_ Q_ k_ => ⟨trivial, trivial, ⟨sh_199, trivial⟩, trivial, k_⟩)
  refine w_R.callS (ce' := 0) (sl' := 0) (v := some (.int (s_b true))) (σ' := (s_up I 199 59 0, J, kR w rem, Z)) (as := [.int (Int32.ofNat r)]) (rest := []) (d_108N r (by omega)) ?_ rfl rfl rfl rfl rfl rfl rfl rfl rfl
  show w_R xs Ln 137 (9, [(0, .ref 199), (1, .int (Int32.ofNat r)), (2, .int v)], [.int (s_b true)], (s_up I 199 59 0, J, kR w rem, Z), 0, 0) _
  refine w_R.go (c' := (17, [(0, .ref 199), (1, .int (Int32.ofNat r)), (2, .int v)], [.int 51, .int 49, .int v], (s_up I 199 59 0, J, kR w rem, Z), 0, 0)) 4 ?_ (fun m_ x_ Q_ k_ => ⟨trivial, trivial, trivial, trivial, k_⟩)
  refine w_R.callS (ce' := 0) (sl' := 0) (v := some (.int (s_b false))) (σ' := (s_up I 199 59 0, J, kR w rem, Z)) (as := [.int v, .int 49, .int 51]) (rest := []) (d_106F v 49 51 (by decide) (by decide) hv) ?_ rfl rfl rfl rfl rfl rfl rfl rfl rfl
  show w_R xs Ln 137 (20, [(0, .ref 199), (1, .int (Int32.ofNat r)), (2, .int v)], [.int (s_b false)], (s_up I 199 59 0, J, kR w rem, Z), 0, 0) _
  refine w_R.ret 3 (.inl (some (.int 0))) (s_up I 199 59 0, J, kR w rem, Z) ?_ (fun x_ Q_ k_ => ⟨trivial, trivial, Or.inl rfl, ⟨Nat.le_of_ble_eq_true rfl, Nat.le_of_ble_eq_true rfl⟩, k_⟩)
  exact ⟨rfl, rfl⟩
def v_7 (I : Nat → Nat → Int32) (J : Nat → Nat → Int64) (Z : Nat → Nat → Bool) (r : Nat) (v : Nat) : Bool := true
def i_7 (I : Nat → Nat → Int32) (J : Nat → Nat → Int64) (Z : Nat → Nat → Bool) (r : Nat) (v : Nat) : Nat → Nat → Int32 := s_up I (141 + 29 * r) 1 (Int32.ofNat v)
theorem d_7 (r : Nat) (v : Nat) (hr : r < 2) (hv : 49 ≤ v ∧ v < 52) : w_R xs Ln 7 (0, [(0, .ref 1), (1, .int (Int32.ofNat r)), (2, .int (Int32.ofNat v))], [], (I, J, kR w rem, Z), 0, 0) (fun o s => o = .inl (some (.int (s_b (v_7 I J Z r v)))) ∧ s = (i_7 I J Z r v, J, kR w rem, Z)) := by
  refine w_R.go (c' := (1, [(0, .ref 1), (1, .int (Int32.ofNat r)), (2, .int (Int32.ofNat v))], [.int (Int32.ofNat r)], (I, J, kR w rem, Z), 0, 0)) 1 ?_ (fun m_ x_ Q_ k_ => ⟨trivial, k_⟩)
  refine w_R.callS (ce' := 0) (sl' := 0) (v := some (.int (s_b true))) (σ' := (I, J, kR w rem, Z)) (as := [.int (Int32.ofNat r)]) (rest := []) (d_32N r (by omega)) ?_ rfl rfl rfl rfl rfl rfl rfl rfl rfl
  show w_R xs Ln 7 (4, [(0, .ref 1), (1, .int (Int32.ofNat r)), (2, .int (Int32.ofNat v))], [.int (s_b true)], (I, J, kR w rem, Z), 0, 0) _
  refine w_R.go (c' := (i_br .lt (Int32.ofNat v) 49 19 13, [(0, .ref 1), (1, .int (Int32.ofNat r)), (2, .int (Int32.ofNat v))], [], (I, J, kR w rem, Z), 0, 0)) 4 ?_ (fun m_ x_ Q_ k_ => ⟨trivial, trivial, trivial, trivial, k_⟩)
  rw [show i_br .lt (Int32.ofNat v) 49 19 13 = 13 from if_neg (mt (n_lt (a := v) (b := 49) (by omega) (by omega)).mp (by omega))]
  show w_R xs Ln 7 (13, [(0, .ref 1), (1, .int (Int32.ofNat r)), (2, .int (Int32.ofNat v))], [], (I, J, kR w rem, Z), 0, 0) _
  refine w_R.go (c' := (i_br .le (Int32.ofNat v) 51 21 19, [(0, .ref 1), (1, .int (Int32.ofNat r)), (2, .int (Int32.ofNat v))], [], (I, J, kR w rem, Z), 0, 0)) 3 ?_ (fun m_ x_ Q_ k_ => ⟨trivial, trivial, trivial, k_⟩)
  rw [show i_br .le (Int32.ofNat v) 51 21 19 = 21 from if_pos (Int32.not_lt.mp (mt (n_lt (a := 51) (b := v) (by omega) (by omega)).mp (by omega)))]
  show w_R xs Ln 7 (21, [(0, .ref 1), (1, .int (Int32.ofNat r)), (2, .int (Int32.ofNat v))], [], (I, J, kR w rem, Z), 0, 0) _
  refine w_R.go (c' := (27, [(0, .ref 1), (1, .int (Int32.ofNat r)), (2, .int (Int32.ofNat v))], [.ref (kR w rem 12 (Int32.ofNat r).toNatClampNeg)], (I, J, kR w rem, Z), 0, 0)) 4 ?_ (fun m_ x_ Q_ k_ => ⟨trivial, ⟨sh_1, (Nat.succ_ne_zero 11)⟩, trivial, ⟨⟨_, sh_12, (n_in (a := r) (by omega) (by decide))⟩, (show kR w rem 12 (Int32.ofNat r).toNatClampNeg ≠ 0 by rw [n_cl (a := r) (by omega), r_room (w := w) (rem := rem) (r := r) (by omega)]; omega)⟩, k_⟩)
  rw [n_cl (a := r) (by omega)]
  rw [r_room (w := w) (rem := rem) (r := r) (by omega)]
  show w_R xs Ln 7 (27, [(0, .ref 1), (1, .int (Int32.ofNat r)), (2, .int (Int32.ofNat v))], [.ref (141 + 29 * r)], (I, J, kR w rem, Z), 0, 0) _
  refine w_R.ret 4 (.inl (some (.int 1))) (s_up I (141 + 29 * r) 1 (Int32.ofNat v), J, kR w rem, Z) ?_ (fun x_ Q_ k_ => ⟨trivial, ⟨(sh_room (by omega)), trivial⟩, trivial, Or.inr rfl, ⟨Nat.le_of_ble_eq_true rfl, Nat.le_of_ble_eq_true rfl⟩, k_⟩)
  exact ⟨by rw [show v_7 I J Z r v = true from by unfold v_7; rfl] <;> rfl, by rw [show i_7 I J Z r v = (s_up I (141 + 29 * r) 1 (Int32.ofNat v)) from by unfold i_7; rfl]⟩
def v_137 (I : Nat → Nat → Int32) (J : Nat → Nat → Int64) (Z : Nat → Nat → Bool) (r : Nat) (v : Nat) : Bool := true
def i_137 (I : Nat → Nat → Int32) (J : Nat → Nat → Int64) (Z : Nat → Nat → Bool) (r : Nat) (v : Nat) : Nat → Nat → Int32 := s_up (s_up I 199 59 0) 216 r (Int32.ofNat v)
theorem d_137 (r : Nat) (v : Nat) (hr : r < 2) (hv : 49 ≤ v ∧ v < 52) : w_R xs Ln 137 (0, [(0, .ref 199), (1, .int (Int32.ofNat r)), (2, .int (Int32.ofNat v))], [], (I, J, kR w rem, Z), 0, 0) (fun o s => o = .inl (some (.int (s_b (v_137 I J Z r v)))) ∧ s = (i_137 I J Z r v, J, kR w rem, Z)) := by
  refine w_R.go (c' := (6, [(0, .ref 199), (1, .int (Int32.ofNat r)), (2, .int (Int32.ofNat v))], [.int (Int32.ofNat r)], (s_up I 199 59 0, J, kR w rem, Z), 0, 0)) 4 ?_ (fun m_ x_ Q_ k_ => ⟨trivial, trivial, ⟨sh_199, trivial⟩, trivial, k_⟩)
  refine w_R.callS (ce' := 0) (sl' := 0) (v := some (.int (s_b true))) (σ' := (s_up I 199 59 0, J, kR w rem, Z)) (as := [.int (Int32.ofNat r)]) (rest := []) (d_108N r (by omega)) ?_ rfl rfl rfl rfl rfl rfl rfl rfl rfl
  show w_R xs Ln 137 (9, [(0, .ref 199), (1, .int (Int32.ofNat r)), (2, .int (Int32.ofNat v))], [.int (s_b true)], (s_up I 199 59 0, J, kR w rem, Z), 0, 0) _
  refine w_R.go (c' := (17, [(0, .ref 199), (1, .int (Int32.ofNat r)), (2, .int (Int32.ofNat v))], [.int 51, .int 49, .int (Int32.ofNat v)], (s_up I 199 59 0, J, kR w rem, Z), 0, 0)) 4 ?_ (fun m_ x_ Q_ k_ => ⟨trivial, trivial, trivial, trivial, k_⟩)
  refine w_R.callS (ce' := 0) (sl' := 0) (v := some (.int (s_b true))) (σ' := (s_up I 199 59 0, J, kR w rem, Z)) (as := [.int (Int32.ofNat v), .int 49, .int 51]) (rest := []) (d_106T v 49 51 (by omega) (by omega) (by decide)) ?_ rfl rfl rfl rfl rfl rfl rfl rfl rfl
  show w_R xs Ln 137 (20, [(0, .ref 199), (1, .int (Int32.ofNat r)), (2, .int (Int32.ofNat v))], [.int (s_b true)], (s_up I 199 59 0, J, kR w rem, Z), 0, 0) _
  refine w_R.go (c' := (32, [(0, .ref 199), (1, .int (Int32.ofNat r)), (2, .int (Int32.ofNat v))], [], (s_up (s_up I 199 59 0) 216 ((Int32.ofNat r).toNatClampNeg) (Int32.ofNat v), J, kR w rem, Z), 0, 0)) 6 ?_ (fun m_ x_ Q_ k_ => ⟨trivial, trivial, ⟨sh_199, (Nat.succ_ne_zero 215)⟩, trivial, trivial, ⟨_, sh_216, (n_in (a := r) (by omega) (by decide))⟩, k_⟩)
  rw [n_cl (a := r) (by omega)]
  show w_R xs Ln 137 (32, [(0, .ref 199), (1, .int (Int32.ofNat r)), (2, .int (Int32.ofNat v))], [], (s_up (s_up I 199 59 0) 216 r (Int32.ofNat v), J, kR w rem, Z), 0, 0) _
  refine w_R.ret 2 (.inl (some (.int 1))) (s_up (s_up I 199 59 0) 216 r (Int32.ofNat v), J, kR w rem, Z) ?_ (fun x_ Q_ k_ => ⟨trivial, Or.inr rfl, ⟨Nat.le_of_ble_eq_true rfl, Nat.le_of_ble_eq_true rfl⟩, k_⟩)
  exact ⟨by rw [show v_137 I J Z r v = true from by unfold v_137; rfl] <;> rfl, by rw [show i_137 I J Z r v = (s_up (s_up I 199 59 0) 216 r (Int32.ofNat v)) from by unfold i_137; rfl]⟩
theorem b_5_0 (u : Int32) (j : Int32) (k : Int32) (hu : l_rg u 0 6 = false) : w_R xs Ln 5 (0, [(0, .ref 1), (1, .int u), (2, .int j), (3, .int k)], [], (I, J, kR w rem, Z), 0, 0) (fun o s => o = .inl (some (.int 0)) ∧ s = (I, J, kR w rem, Z)) := by
  refine w_R.go (c' := (1, [(0, .ref 1), (1, .int u), (2, .int j), (3, .int k)], [.int u], (I, J, kR w rem, Z), 0, 0)) 1 ?_ (fun m_ x_ Q_ k_ => ⟨trivial, k_⟩)
  refine w_R.callS (ce' := 0) (sl' := 0) (v := some (.int (s_b false))) (σ' := (I, J, kR w rem, Z)) (as := [.int u]) (rest := []) (d_31F u hu) ?_ rfl rfl rfl rfl rfl rfl rfl rfl rfl
  show w_R xs Ln 5 (4, [(0, .ref 1), (1, .int u), (2, .int j), (3, .int k)], [.int (s_b false)], (I, J, kR w rem, Z), 0, 0) _
  refine w_R.ret 3 (.inl (some (.int 0))) (I, J, kR w rem, Z) ?_ (fun x_ Q_ k_ => ⟨trivial, trivial, Or.inl rfl, ⟨Nat.le_of_ble_eq_true rfl, Nat.le_of_ble_eq_true rfl⟩, k_⟩)
  exact ⟨rfl, rfl⟩
theorem b_135_0 (u : Int32) (j : Int32) (k : Int32) (hu : l_rg u 0 6 = false) : w_R xs Ln 135 (0, [(0, .ref 199), (1, .int u), (2, .int j), (3, .int k)], [], (I, J, kR w rem, Z), 0, 0) (fun o s => o = .inl (some (.int 0)) ∧ s = (s_up I 199 59 0, J, kR w rem, Z)) := by
  refine w_R.go (c' := (6, [(0, .ref 199), (1, .int u), (2, .int j), (3, .int k)], [.int u], (s_up I 199 59 0, J, kR w rem, Z), 0, 0)) 4 ?_ (fun m_ x_ Q_ k_ => ⟨trivial, trivial, ⟨sh_199, trivial⟩, trivial, k_⟩)
  refine w_R.callS (ce' := 0) (sl' := 0) (v := some (.int (s_b false))) (σ' := (s_up I 199 59 0, J, kR w rem, Z)) (as := [.int u]) (rest := []) (d_109F u hu) ?_ rfl rfl rfl rfl rfl rfl rfl rfl rfl
  show w_R xs Ln 135 (9, [(0, .ref 199), (1, .int u), (2, .int j), (3, .int k)], [.int (s_b false)], (s_up I 199 59 0, J, kR w rem, Z), 0, 0) _
  refine w_R.ret 3 (.inl (some (.int 0))) (s_up I 199 59 0, J, kR w rem, Z) ?_ (fun x_ Q_ k_ => ⟨trivial, trivial, Or.inl rfl, ⟨Nat.le_of_ble_eq_true rfl, Nat.le_of_ble_eq_true rfl⟩, k_⟩)
  exact ⟨rfl, rfl⟩
theorem b_5_1 (u : Nat) (j : Int32) (k : Int32) (hu : u < 6) (hj : l_rg j 0 12 = false) : w_R xs Ln 5 (0, [(0, .ref 1), (1, .int (Int32.ofNat u)), (2, .int j), (3, .int k)], [], (I, J, kR w rem, Z), 0, 0) (fun o s => o = .inl (some (.int 0)) ∧ s = (I, J, kR w rem, Z)) := by
  refine w_R.go (c' := (1, [(0, .ref 1), (1, .int (Int32.ofNat u)), (2, .int j), (3, .int k)], [.int (Int32.ofNat u)], (I, J, kR w rem, Z), 0, 0)) 1 ?_ (fun m_ x_ Q_ k_ => ⟨trivial, k_⟩)
  refine w_R.callS (ce' := 0) (sl' := 0) (v := some (.int (s_b true))) (σ' := (I, J, kR w rem, Z)) (as := [.int (Int32.ofNat u)]) (rest := []) (d_31N u (by omega)) ?_ rfl rfl rfl rfl rfl rfl rfl rfl rfl
  show w_R xs Ln 5 (4, [(0, .ref 1), (1, .int (Int32.ofNat u)), (2, .int j), (3, .int k)], [.int (s_b true)], (I, J, kR w rem, Z), 0, 0) _
  refine w_R.go (c' := (8, [(0, .ref 1), (1, .int (Int32.ofNat u)), (2, .int j), (3, .int k)], [.int j], (I, J, kR w rem, Z), 0, 0)) 2 ?_ (fun m_ x_ Q_ k_ => ⟨trivial, trivial, k_⟩)
  refine w_R.callS (ce' := 0) (sl' := 0) (v := some (.int (s_b false))) (σ' := (I, J, kR w rem, Z)) (as := [.int j]) (rest := []) (d_28F j hj) ?_ rfl rfl rfl rfl rfl rfl rfl rfl rfl
  show w_R xs Ln 5 (11, [(0, .ref 1), (1, .int (Int32.ofNat u)), (2, .int j), (3, .int k)], [.int (s_b false)], (I, J, kR w rem, Z), 0, 0) _
  refine w_R.ret 3 (.inl (some (.int 0))) (I, J, kR w rem, Z) ?_ (fun x_ Q_ k_ => ⟨trivial, trivial, Or.inl rfl, ⟨Nat.le_of_ble_eq_true rfl, Nat.le_of_ble_eq_true rfl⟩, k_⟩)
  exact ⟨rfl, rfl⟩
theorem b_135_1 (u : Nat) (j : Int32) (k : Int32) (hu : u < 6) (hj : l_rg j 0 12 = false) : w_R xs Ln 135 (0, [(0, .ref 199), (1, .int (Int32.ofNat u)), (2, .int j), (3, .int k)], [], (I, J, kR w rem, Z), 0, 0) (fun o s => o = .inl (some (.int 0)) ∧ s = (s_up I 199 59 0, J, kR w rem, Z)) := by
  refine w_R.go (c' := (6, [(0, .ref 199), (1, .int (Int32.ofNat u)), (2, .int j), (3, .int k)], [.int (Int32.ofNat u)], (s_up I 199 59 0, J, kR w rem, Z), 0, 0)) 4 ?_ (fun m_ x_ Q_ k_ => ⟨trivial, trivial, ⟨sh_199, trivial⟩, trivial, k_⟩)
  refine w_R.callS (ce' := 0) (sl' := 0) (v := some (.int (s_b true))) (σ' := (s_up I 199 59 0, J, kR w rem, Z)) (as := [.int (Int32.ofNat u)]) (rest := []) (d_109N u (by omega)) ?_ rfl rfl rfl rfl rfl rfl rfl rfl rfl
  show w_R xs Ln 135 (9, [(0, .ref 199), (1, .int (Int32.ofNat u)), (2, .int j), (3, .int k)], [.int (s_b true)], (s_up I 199 59 0, J, kR w rem, Z), 0, 0) _
  refine w_R.go (c' := (13, [(0, .ref 199), (1, .int (Int32.ofNat u)), (2, .int j), (3, .int k)], [.int j], (s_up I 199 59 0, J, kR w rem, Z), 0, 0)) 2 ?_ (fun m_ x_ Q_ k_ => ⟨trivial, trivial, k_⟩)
  refine w_R.callS (ce' := 0) (sl' := 0) (v := some (.int (s_b false))) (σ' := (s_up I 199 59 0, J, kR w rem, Z)) (as := [.int j]) (rest := []) (d_107F j hj) ?_ rfl rfl rfl rfl rfl rfl rfl rfl rfl
  show w_R xs Ln 135 (16, [(0, .ref 199), (1, .int (Int32.ofNat u)), (2, .int j), (3, .int k)], [.int (s_b false)], (s_up I 199 59 0, J, kR w rem, Z), 0, 0) _
  refine w_R.ret 3 (.inl (some (.int 0))) (s_up I 199 59 0, J, kR w rem, Z) ?_ (fun x_ Q_ k_ => ⟨trivial, trivial, Or.inl rfl, ⟨Nat.le_of_ble_eq_true rfl, Nat.le_of_ble_eq_true rfl⟩, k_⟩)
  exact ⟨rfl, rfl⟩
theorem b_5_2 (u : Nat) (j : Nat) (k : Int32) (hu : u < 6) (hj : j < 12) (hk : l_rg k 0 3 = false) : w_R xs Ln 5 (0, [(0, .ref 1), (1, .int (Int32.ofNat u)), (2, .int (Int32.ofNat j)), (3, .int k)], [], (I, J, kR w rem, Z), 0, 0) (fun o s => o = .inl (some (.int 0)) ∧ s = (I, J, kR w rem, Z)) := by
  refine w_R.go (c' := (1, [(0, .ref 1), (1, .int (Int32.ofNat u)), (2, .int (Int32.ofNat j)), (3, .int k)], [.int (Int32.ofNat u)], (I, J, kR w rem, Z), 0, 0)) 1 ?_ (fun m_ x_ Q_ k_ => ⟨trivial, k_⟩)
  refine w_R.callS (ce' := 0) (sl' := 0) (v := some (.int (s_b true))) (σ' := (I, J, kR w rem, Z)) (as := [.int (Int32.ofNat u)]) (rest := []) (d_31N u (by omega)) ?_ rfl rfl rfl rfl rfl rfl rfl rfl rfl
  show w_R xs Ln 5 (4, [(0, .ref 1), (1, .int (Int32.ofNat u)), (2, .int (Int32.ofNat j)), (3, .int k)], [.int (s_b true)], (I, J, kR w rem, Z), 0, 0) _
  refine w_R.go (c' := (8, [(0, .ref 1), (1, .int (Int32.ofNat u)), (2, .int (Int32.ofNat j)), (3, .int k)], [.int (Int32.ofNat j)], (I, J, kR w rem, Z), 0, 0)) 2 ?_ (fun m_ x_ Q_ k_ => ⟨trivial, trivial, k_⟩)
  refine w_R.callS (ce' := 0) (sl' := 0) (v := some (.int (s_b true))) (σ' := (I, J, kR w rem, Z)) (as := [.int (Int32.ofNat j)]) (rest := []) (d_28N j (by omega)) ?_ rfl rfl rfl rfl rfl rfl rfl rfl rfl
  show w_R xs Ln 5 (11, [(0, .ref 1), (1, .int (Int32.ofNat u)), (2, .int (Int32.ofNat j)), (3, .int k)], [.int (s_b true)], (I, J, kR w rem, Z), 0, 0) _
  refine w_R.go (c' := (i_br .lt k 0 23 18, [(0, .ref 1), (1, .int (Int32.ofNat u)), (2, .int (Int32.ofNat j)), (3, .int k)], [], (I, J, kR w rem, Z), 0, 0)) 3 ?_ (fun m_ x_ Q_ k_ => ⟨trivial, trivial, trivial, k_⟩)
  refine w_R.br_lt (fun h1 => ?_) (fun h1 => ?_)
  · refine w_R.ret 2 (.inl (some (.int 0))) (I, J, kR w rem, Z) ?_ (fun x_ Q_ k_ => ⟨trivial, Or.inl rfl, ⟨Nat.le_of_ble_eq_true rfl, Nat.le_of_ble_eq_true rfl⟩, k_⟩)
    exact ⟨rfl, rfl⟩
  · refine w_R.go (c' := (i_br .le k 2 25 23, [(0, .ref 1), (1, .int (Int32.ofNat u)), (2, .int (Int32.ofNat j)), (3, .int k)], [], (I, J, kR w rem, Z), 0, 0)) 3 ?_ (fun m_ x_ Q_ k_ => ⟨trivial, trivial, trivial, k_⟩)
    refine w_R.br_le (fun h2 => ?_) (fun h2 => ?_)
    · exact (l_no hk h1 h2 rfl rfl).elim
    · refine w_R.ret 2 (.inl (some (.int 0))) (I, J, kR w rem, Z) ?_ (fun x_ Q_ k_ => ⟨trivial, Or.inl rfl, ⟨Nat.le_of_ble_eq_true rfl, Nat.le_of_ble_eq_true rfl⟩, k_⟩)
      exact ⟨rfl, rfl⟩
theorem b_135_2 (u : Nat) (j : Nat) (k : Int32) (hu : u < 6) (hj : j < 12) (hk : l_rg k 0 3 = false) : w_R xs Ln 135 (0, [(0, .ref 199), (1, .int (Int32.ofNat u)), (2, .int (Int32.ofNat j)), (3, .int k)], [], (I, J, kR w rem, Z), 0, 0) (fun o s => o = .inl (some (.int 0)) ∧ s = (s_up I 199 59 0, J, kR w rem, Z)) := by
  refine w_R.go (c' := (6, [(0, .ref 199), (1, .int (Int32.ofNat u)), (2, .int (Int32.ofNat j)), (3, .int k)], [.int (Int32.ofNat u)], (s_up I 199 59 0, J, kR w rem, Z), 0, 0)) 4 ?_ (fun m_ x_ Q_ k_ => ⟨trivial, trivial, ⟨sh_199, trivial⟩, trivial, k_⟩)
  refine w_R.callS (ce' := 0) (sl' := 0) (v := some (.int (s_b true))) (σ' := (s_up I 199 59 0, J, kR w rem, Z)) (as := [.int (Int32.ofNat u)]) (rest := []) (d_109N u (by omega)) ?_ rfl rfl rfl rfl rfl rfl rfl rfl rfl
  show w_R xs Ln 135 (9, [(0, .ref 199), (1, .int (Int32.ofNat u)), (2, .int (Int32.ofNat j)), (3, .int k)], [.int (s_b true)], (s_up I 199 59 0, J, kR w rem, Z), 0, 0) _
  refine w_R.go (c' := (13, [(0, .ref 199), (1, .int (Int32.ofNat u)), (2, .int (Int32.ofNat j)), (3, .int k)], [.int (Int32.ofNat j)], (s_up I 199 59 0, J, kR w rem, Z), 0, 0)) 2 ?_ (fun m_ x_ Q_ k_ => ⟨trivial, trivial, k_⟩)
  refine w_R.callS (ce' := 0) (sl' := 0) (v := some (.int (s_b true))) (σ' := (s_up I 199 59 0, J, kR w rem, Z)) (as := [.int (Int32.ofNat j)]) (rest := []) (d_107N j (by omega)) ?_ rfl rfl rfl rfl rfl rfl rfl rfl rfl
  show w_R xs Ln 135 (16, [(0, .ref 199), (1, .int (Int32.ofNat u)), (2, .int (Int32.ofNat j)), (3, .int k)], [.int (s_b true)], (s_up I 199 59 0, J, kR w rem, Z), 0, 0) _
  refine w_R.go (c' := (22, [(0, .ref 199), (1, .int (Int32.ofNat u)), (2, .int (Int32.ofNat j)), (3, .int k)], [.int 2, .int 0, .int k], (s_up I 199 59 0, J, kR w rem, Z), 0, 0)) 4 ?_ (fun m_ x_ Q_ k_ => ⟨trivial, trivial, trivial, trivial, k_⟩)
  refine w_R.callS (ce' := 0) (sl' := 0) (v := some (.int (s_b false))) (σ' := (s_up I 199 59 0, J, kR w rem, Z)) (as := [.int k, .int 0, .int 2]) (rest := []) (d_106F k 0 2 (by decide) (by decide) hk) ?_ rfl rfl rfl rfl rfl rfl rfl rfl rfl
  show w_R xs Ln 135 (25, [(0, .ref 199), (1, .int (Int32.ofNat u)), (2, .int (Int32.ofNat j)), (3, .int k)], [.int (s_b false)], (s_up I 199 59 0, J, kR w rem, Z), 0, 0) _
  refine w_R.ret 3 (.inl (some (.int 0))) (s_up I 199 59 0, J, kR w rem, Z) ?_ (fun x_ Q_ k_ => ⟨trivial, trivial, Or.inl rfl, ⟨Nat.le_of_ble_eq_true rfl, Nat.le_of_ble_eq_true rfl⟩, k_⟩)
  exact ⟨rfl, rfl⟩
def v_5 (I : Nat → Nat → Int32) (J : Nat → Nat → Int64) (Z : Nat → Nat → Bool) (u : Nat) (j : Nat) (k : Nat) : Bool := if (I (135 + u) 0) = 0 then true else if (I (135 + u) 0) = 3 then true else false
def i_5 (I : Nat → Nat → Int32) (J : Nat → Nat → Int64) (Z : Nat → Nat → Bool) (u : Nat) (j : Nat) (k : Nat) : Nat → Nat → Int32 := if (I (135 + u) 0) = 0 then s_up (s_up I (135 + u) 1 (Int32.ofNat j)) (135 + u) 2 (Int32.ofNat k) else if (I (135 + u) 0) = 3 then s_up (s_up I (135 + u) 1 (Int32.ofNat j)) (135 + u) 2 (Int32.ofNat k) else I
theorem d_5 (u : Nat) (j : Nat) (k : Nat) (hu : u < 6) (hj : j < 12) (hk : k < 3) : w_R xs Ln 5 (0, [(0, .ref 1), (1, .int (Int32.ofNat u)), (2, .int (Int32.ofNat j)), (3, .int (Int32.ofNat k))], [], (I, J, kR w rem, Z), 0, 0) (fun o s => o = .inl (some (.int (s_b (v_5 I J Z u j k)))) ∧ s = (i_5 I J Z u j k, J, kR w rem, Z)) := by
  refine w_R.go (c' := (1, [(0, .ref 1), (1, .int (Int32.ofNat u)), (2, .int (Int32.ofNat j)), (3, .int (Int32.ofNat k))], [.int (Int32.ofNat u)], (I, J, kR w rem, Z), 0, 0)) 1 ?_ (fun m_ x_ Q_ k_ => ⟨trivial, k_⟩)
  refine w_R.callS (ce' := 0) (sl' := 0) (v := some (.int (s_b true))) (σ' := (I, J, kR w rem, Z)) (as := [.int (Int32.ofNat u)]) (rest := []) (d_31N u (by omega)) ?_ rfl rfl rfl rfl rfl rfl rfl rfl rfl
  show w_R xs Ln 5 (4, [(0, .ref 1), (1, .int (Int32.ofNat u)), (2, .int (Int32.ofNat j)), (3, .int (Int32.ofNat k))], [.int (s_b true)], (I, J, kR w rem, Z), 0, 0) _
  refine w_R.go (c' := (8, [(0, .ref 1), (1, .int (Int32.ofNat u)), (2, .int (Int32.ofNat j)), (3, .int (Int32.ofNat k))], [.int (Int32.ofNat j)], (I, J, kR w rem, Z), 0, 0)) 2 ?_ (fun m_ x_ Q_ k_ => ⟨trivial, trivial, k_⟩)
  refine w_R.callS (ce' := 0) (sl' := 0) (v := some (.int (s_b true))) (σ' := (I, J, kR w rem, Z)) (as := [.int (Int32.ofNat j)]) (rest := []) (d_28N j (by omega)) ?_ rfl rfl rfl rfl rfl rfl rfl rfl rfl
  show w_R xs Ln 5 (11, [(0, .ref 1), (1, .int (Int32.ofNat u)), (2, .int (Int32.ofNat j)), (3, .int (Int32.ofNat k))], [.int (s_b true)], (I, J, kR w rem, Z), 0, 0) _
  refine w_R.go (c' := (i_br .lt (Int32.ofNat k) 0 23 18, [(0, .ref 1), (1, .int (Int32.ofNat u)), (2, .int (Int32.ofNat j)), (3, .int (Int32.ofNat k))], [], (I, J, kR w rem, Z), 0, 0)) 3 ?_ (fun m_ x_ Q_ k_ => ⟨trivial, trivial, trivial, k_⟩)
  rw [show i_br .lt (Int32.ofNat k) 0 23 18 = 18 from if_neg (mt (n_lt (a := k) (b := 0) (by omega) (by omega)).mp (by omega))]
  show w_R xs Ln 5 (18, [(0, .ref 1), (1, .int (Int32.ofNat u)), (2, .int (Int32.ofNat j)), (3, .int (Int32.ofNat k))], [], (I, J, kR w rem, Z), 0, 0) _
  refine w_R.go (c' := (i_br .le (Int32.ofNat k) 2 25 23, [(0, .ref 1), (1, .int (Int32.ofNat u)), (2, .int (Int32.ofNat j)), (3, .int (Int32.ofNat k))], [], (I, J, kR w rem, Z), 0, 0)) 3 ?_ (fun m_ x_ Q_ k_ => ⟨trivial, trivial, trivial, k_⟩)
  rw [show i_br .le (Int32.ofNat k) 2 25 23 = 25 from if_pos (Int32.not_lt.mp (mt (n_lt (a := 2) (b := k) (by omega) (by omega)).mp (by omega)))]
  show w_R xs Ln 5 (25, [(0, .ref 1), (1, .int (Int32.ofNat u)), (2, .int (Int32.ofNat j)), (3, .int (Int32.ofNat k))], [], (I, J, kR w rem, Z), 0, 0) _
  refine w_R.go (c' := (31, [(0, .ref 1), (1, .int (Int32.ofNat u)), (2, .int (Int32.ofNat j)), (3, .int (Int32.ofNat k))], [.ref (kR w rem 11 (Int32.ofNat u).toNatClampNeg)], (I, J, kR w rem, Z), 0, 0)) 4 ?_ (fun m_ x_ Q_ k_ => ⟨trivial, ⟨sh_1, (Nat.succ_ne_zero 10)⟩, trivial, ⟨⟨_, sh_11, (n_in (a := u) (by omega) (by decide))⟩, (show kR w rem 11 (Int32.ofNat u).toNatClampNeg ≠ 0 by rw [n_cl (a := u) (by omega), r_amb (w := w) (rem := rem) (u := u) (by omega)]; omega)⟩, k_⟩)
  rw [n_cl (a := u) (by omega)]
  rw [r_amb (w := w) (rem := rem) (u := u) (by omega)]
  show w_R xs Ln 5 (31, [(0, .ref 1), (1, .int (Int32.ofNat u)), (2, .int (Int32.ofNat j)), (3, .int (Int32.ofNat k))], [.ref (135 + u)], (I, J, kR w rem, Z), 0, 0) _
  refine w_R.go (c' := (i_br .eq (I (135 + u) 0) 0 52 41, [(4, .ref (135 + u)), (0, .ref 1), (1, .int (Int32.ofNat u)), (2, .int (Int32.ofNat j)), (3, .int (Int32.ofNat k))], [], (I, J, kR w rem, Z), 0, 0)) 4 ?_ (fun m_ x_ Q_ k_ => ⟨trivial, trivial, ⟨(sh_amb (by omega)), trivial⟩, trivial, k_⟩)
  refine w_R.br_eq (fun h1 => ?_) (fun h1 => ?_)
  · refine w_R.ret 8 (.inl (some (.int 1))) (s_up (s_up I (135 + u) 1 (Int32.ofNat j)) (135 + u) 2 (Int32.ofNat k), J, kR w rem, Z) ?_ (fun x_ Q_ k_ => ⟨trivial, trivial, ⟨(sh_amb (by omega)), trivial⟩, trivial, trivial, ⟨(sh_amb (by omega)), trivial⟩, trivial, Or.inr rfl, ⟨Nat.le_of_ble_eq_true rfl, Nat.le_of_ble_eq_true rfl⟩, k_⟩)
    exact ⟨by rw [show v_5 I J Z u j k = true from by unfold v_5; rw [if_pos h1]] <;> rfl, by rw [show i_5 I J Z u j k = (s_up (s_up I (135 + u) 1 (Int32.ofNat j)) (135 + u) 2 (Int32.ofNat k)) from by unfold i_5; rw [if_pos h1]]⟩
  · refine w_R.go (c' := (i_br .eq (I (135 + u) 0) 3 52 50, [(4, .ref (135 + u)), (0, .ref 1), (1, .int (Int32.ofNat u)), (2, .int (Int32.ofNat j)), (3, .int (Int32.ofNat k))], [], (I, J, kR w rem, Z), 0, 0)) 4 ?_ (fun m_ x_ Q_ k_ => ⟨trivial, ⟨(sh_amb (by omega)), trivial⟩, trivial, trivial, k_⟩)
    refine w_R.br_eq (fun h2 => ?_) (fun h2 => ?_)
    · refine w_R.ret 8 (.inl (some (.int 1))) (s_up (s_up I (135 + u) 1 (Int32.ofNat j)) (135 + u) 2 (Int32.ofNat k), J, kR w rem, Z) ?_ (fun x_ Q_ k_ => ⟨trivial, trivial, ⟨(sh_amb (by omega)), trivial⟩, trivial, trivial, ⟨(sh_amb (by omega)), trivial⟩, trivial, Or.inr rfl, ⟨Nat.le_of_ble_eq_true rfl, Nat.le_of_ble_eq_true rfl⟩, k_⟩)
      exact ⟨by rw [show v_5 I J Z u j k = true from by unfold v_5; rw [if_neg h1, if_pos h2]] <;> rfl, by rw [show i_5 I J Z u j k = (s_up (s_up I (135 + u) 1 (Int32.ofNat j)) (135 + u) 2 (Int32.ofNat k)) from by unfold i_5; rw [if_neg h1, if_pos h2]]⟩
    · refine w_R.ret 2 (.inl (some (.int 0))) (I, J, kR w rem, Z) ?_ (fun x_ Q_ k_ => ⟨trivial, Or.inl rfl, ⟨Nat.le_of_ble_eq_true rfl, Nat.le_of_ble_eq_true rfl⟩, k_⟩)
      exact ⟨by rw [show v_5 I J Z u j k = false from by unfold v_5; rw [if_neg h1, if_neg h2]] <;> rfl, by rw [show i_5 I J Z u j k = I from by unfold i_5; rw [if_neg h1, if_neg h2]]⟩
def v_135 (I : Nat → Nat → Int32) (J : Nat → Nat → Int64) (Z : Nat → Nat → Bool) (u : Nat) (j : Nat) (k : Nat) : Bool := if (I 210 u) = 0 then true else if (I 210 u) = 3 then true else false
def i_135 (I : Nat → Nat → Int32) (J : Nat → Nat → Int64) (Z : Nat → Nat → Bool) (u : Nat) (j : Nat) (k : Nat) : Nat → Nat → Int32 := if (I 210 u) = 0 then s_up (s_up (s_up I 199 59 0) 208 u (Int32.ofNat j)) 209 u (Int32.ofNat k) else if (I 210 u) = 3 then s_up (s_up (s_up I 199 59 0) 208 u (Int32.ofNat j)) 209 u (Int32.ofNat k) else s_up I 199 59 0
theorem d_135 (u : Nat) (j : Nat) (k : Nat) (hu : u < 6) (hj : j < 12) (hk : k < 3) : w_R xs Ln 135 (0, [(0, .ref 199), (1, .int (Int32.ofNat u)), (2, .int (Int32.ofNat j)), (3, .int (Int32.ofNat k))], [], (I, J, kR w rem, Z), 0, 0) (fun o s => o = .inl (some (.int (s_b (v_135 I J Z u j k)))) ∧ s = (i_135 I J Z u j k, J, kR w rem, Z)) := by
  refine w_R.go (c' := (6, [(0, .ref 199), (1, .int (Int32.ofNat u)), (2, .int (Int32.ofNat j)), (3, .int (Int32.ofNat k))], [.int (Int32.ofNat u)], (s_up I 199 59 0, J, kR w rem, Z), 0, 0)) 4 ?_ (fun m_ x_ Q_ k_ => ⟨trivial, trivial, ⟨sh_199, trivial⟩, trivial, k_⟩)
  refine w_R.callS (ce' := 0) (sl' := 0) (v := some (.int (s_b true))) (σ' := (s_up I 199 59 0, J, kR w rem, Z)) (as := [.int (Int32.ofNat u)]) (rest := []) (d_109N u (by omega)) ?_ rfl rfl rfl rfl rfl rfl rfl rfl rfl
  show w_R xs Ln 135 (9, [(0, .ref 199), (1, .int (Int32.ofNat u)), (2, .int (Int32.ofNat j)), (3, .int (Int32.ofNat k))], [.int (s_b true)], (s_up I 199 59 0, J, kR w rem, Z), 0, 0) _
  refine w_R.go (c' := (13, [(0, .ref 199), (1, .int (Int32.ofNat u)), (2, .int (Int32.ofNat j)), (3, .int (Int32.ofNat k))], [.int (Int32.ofNat j)], (s_up I 199 59 0, J, kR w rem, Z), 0, 0)) 2 ?_ (fun m_ x_ Q_ k_ => ⟨trivial, trivial, k_⟩)
  refine w_R.callS (ce' := 0) (sl' := 0) (v := some (.int (s_b true))) (σ' := (s_up I 199 59 0, J, kR w rem, Z)) (as := [.int (Int32.ofNat j)]) (rest := []) (d_107N j (by omega)) ?_ rfl rfl rfl rfl rfl rfl rfl rfl rfl
  show w_R xs Ln 135 (16, [(0, .ref 199), (1, .int (Int32.ofNat u)), (2, .int (Int32.ofNat j)), (3, .int (Int32.ofNat k))], [.int (s_b true)], (s_up I 199 59 0, J, kR w rem, Z), 0, 0) _
  refine w_R.go (c' := (22, [(0, .ref 199), (1, .int (Int32.ofNat u)), (2, .int (Int32.ofNat j)), (3, .int (Int32.ofNat k))], [.int 2, .int 0, .int (Int32.ofNat k)], (s_up I 199 59 0, J, kR w rem, Z), 0, 0)) 4 ?_ (fun m_ x_ Q_ k_ => ⟨trivial, trivial, trivial, trivial, k_⟩)
  refine w_R.callS (ce' := 0) (sl' := 0) (v := some (.int (s_b true))) (σ' := (s_up I 199 59 0, J, kR w rem, Z)) (as := [.int (Int32.ofNat k), .int 0, .int 2]) (rest := []) (d_106T k 0 2 (by omega) (by omega) (by decide)) ?_ rfl rfl rfl rfl rfl rfl rfl rfl rfl
  show w_R xs Ln 135 (25, [(0, .ref 199), (1, .int (Int32.ofNat u)), (2, .int (Int32.ofNat j)), (3, .int (Int32.ofNat k))], [.int (s_b true)], (s_up I 199 59 0, J, kR w rem, Z), 0, 0) _
  refine w_R.go (c' := (34, [(0, .ref 199), (1, .int (Int32.ofNat u)), (2, .int (Int32.ofNat j)), (3, .int (Int32.ofNat k))], [.int ((s_up I 199 59 0) 210 (Int32.ofNat u).toNatClampNeg)], (s_up I 199 59 0, J, kR w rem, Z), 0, 0)) 5 ?_ (fun m_ x_ Q_ k_ => ⟨trivial, trivial, ⟨sh_199, (Nat.succ_ne_zero 209)⟩, trivial, ⟨_, sh_210, (n_in (a := u) (by omega) (by decide))⟩, k_⟩)
  rw [n_cl (a := u) (by omega)]
  rw [show (s_up I 199 59 0) 210 u = I 210 u from (s_upa (by decide))]
  show w_R xs Ln 135 (34, [(0, .ref 199), (1, .int (Int32.ofNat u)), (2, .int (Int32.ofNat j)), (3, .int (Int32.ofNat k))], [.int (I 210 u)], (s_up I 199 59 0, J, kR w rem, Z), 0, 0) _
  refine w_R.go (c' := (i_br .eq (I 210 u) 0 49 37, [(0, .ref 199), (1, .int (Int32.ofNat u)), (2, .int (Int32.ofNat j)), (3, .int (Int32.ofNat k))], [], (s_up I 199 59 0, J, kR w rem, Z), 0, 0)) 1 ?_ (fun m_ x_ Q_ k_ => ⟨trivial, k_⟩)
  refine w_R.br_eq (fun h1 => ?_) (fun h1 => ?_)
  · refine w_R.go (c' := (56, [(0, .ref 199), (1, .int (Int32.ofNat u)), (2, .int (Int32.ofNat j)), (3, .int (Int32.ofNat k))], [], (s_up (s_up I 199 59 0) 208 ((Int32.ofNat u).toNatClampNeg) (Int32.ofNat j), J, kR w rem, Z), 0, 0)) 5 ?_ (fun m_ x_ Q_ k_ => ⟨trivial, ⟨sh_199, (Nat.succ_ne_zero 207)⟩, trivial, trivial, ⟨_, sh_208, (n_in (a := u) (by omega) (by decide))⟩, k_⟩)
    rw [n_cl (a := u) (by omega)]
    show w_R xs Ln 135 (56, [(0, .ref 199), (1, .int (Int32.ofNat u)), (2, .int (Int32.ofNat j)), (3, .int (Int32.ofNat k))], [], (s_up (s_up I 199 59 0) 208 u (Int32.ofNat j), J, kR w rem, Z), 0, 0) _
    refine w_R.go (c' := (63, [(0, .ref 199), (1, .int (Int32.ofNat u)), (2, .int (Int32.ofNat j)), (3, .int (Int32.ofNat k))], [], (s_up (s_up (s_up I 199 59 0) 208 u (Int32.ofNat j)) 209 ((Int32.ofNat u).toNatClampNeg) (Int32.ofNat k), J, kR w rem, Z), 0, 0)) 5 ?_ (fun m_ x_ Q_ k_ => ⟨trivial, ⟨sh_199, (Nat.succ_ne_zero 208)⟩, trivial, trivial, ⟨_, sh_209, (n_in (a := u) (by omega) (by decide))⟩, k_⟩)
    rw [n_cl (a := u) (by omega)]
    show w_R xs Ln 135 (63, [(0, .ref 199), (1, .int (Int32.ofNat u)), (2, .int (Int32.ofNat j)), (3, .int (Int32.ofNat k))], [], (s_up (s_up (s_up I 199 59 0) 208 u (Int32.ofNat j)) 209 u (Int32.ofNat k), J, kR w rem, Z), 0, 0) _
    refine w_R.ret 2 (.inl (some (.int 1))) (s_up (s_up (s_up I 199 59 0) 208 u (Int32.ofNat j)) 209 u (Int32.ofNat k), J, kR w rem, Z) ?_ (fun x_ Q_ k_ => ⟨trivial, Or.inr rfl, ⟨Nat.le_of_ble_eq_true rfl, Nat.le_of_ble_eq_true rfl⟩, k_⟩)
    exact ⟨by rw [show v_135 I J Z u j k = true from by unfold v_135; rw [if_pos h1]] <;> rfl, by rw [show i_135 I J Z u j k = (s_up (s_up (s_up I 199 59 0) 208 u (Int32.ofNat j)) 209 u (Int32.ofNat k)) from by unfold i_135; rw [if_pos h1]]⟩
  · refine w_R.go (c' := (43, [(0, .ref 199), (1, .int (Int32.ofNat u)), (2, .int (Int32.ofNat j)), (3, .int (Int32.ofNat k))], [.int ((s_up I 199 59 0) 210 (Int32.ofNat u).toNatClampNeg)], (s_up I 199 59 0, J, kR w rem, Z), 0, 0)) 4 ?_ (fun m_ x_ Q_ k_ => ⟨trivial, ⟨sh_199, (Nat.succ_ne_zero 209)⟩, trivial, ⟨_, sh_210, (n_in (a := u) (by omega) (by decide))⟩, k_⟩)
    rw [n_cl (a := u) (by omega)]
    rw [show (s_up I 199 59 0) 210 u = I 210 u from (s_upa (by decide))]
    show w_R xs Ln 135 (43, [(0, .ref 199), (1, .int (Int32.ofNat u)), (2, .int (Int32.ofNat j)), (3, .int (Int32.ofNat k))], [.int (I 210 u)], (s_up I 199 59 0, J, kR w rem, Z), 0, 0) _
    refine w_R.go (c' := (i_br .eq (I 210 u) 3 49 47, [(0, .ref 199), (1, .int (Int32.ofNat u)), (2, .int (Int32.ofNat j)), (3, .int (Int32.ofNat k))], [], (s_up I 199 59 0, J, kR w rem, Z), 0, 0)) 2 ?_ (fun m_ x_ Q_ k_ => ⟨trivial, trivial, k_⟩)
    refine w_R.br_eq (fun h2 => ?_) (fun h2 => ?_)
    · refine w_R.go (c' := (56, [(0, .ref 199), (1, .int (Int32.ofNat u)), (2, .int (Int32.ofNat j)), (3, .int (Int32.ofNat k))], [], (s_up (s_up I 199 59 0) 208 ((Int32.ofNat u).toNatClampNeg) (Int32.ofNat j), J, kR w rem, Z), 0, 0)) 5 ?_ (fun m_ x_ Q_ k_ => ⟨trivial, ⟨sh_199, (Nat.succ_ne_zero 207)⟩, trivial, trivial, ⟨_, sh_208, (n_in (a := u) (by omega) (by decide))⟩, k_⟩)
      rw [n_cl (a := u) (by omega)]
      show w_R xs Ln 135 (56, [(0, .ref 199), (1, .int (Int32.ofNat u)), (2, .int (Int32.ofNat j)), (3, .int (Int32.ofNat k))], [], (s_up (s_up I 199 59 0) 208 u (Int32.ofNat j), J, kR w rem, Z), 0, 0) _
      refine w_R.go (c' := (63, [(0, .ref 199), (1, .int (Int32.ofNat u)), (2, .int (Int32.ofNat j)), (3, .int (Int32.ofNat k))], [], (s_up (s_up (s_up I 199 59 0) 208 u (Int32.ofNat j)) 209 ((Int32.ofNat u).toNatClampNeg) (Int32.ofNat k), J, kR w rem, Z), 0, 0)) 5 ?_ (fun m_ x_ Q_ k_ => ⟨trivial, ⟨sh_199, (Nat.succ_ne_zero 208)⟩, trivial, trivial, ⟨_, sh_209, (n_in (a := u) (by omega) (by decide))⟩, k_⟩)
      rw [n_cl (a := u) (by omega)]
      show w_R xs Ln 135 (63, [(0, .ref 199), (1, .int (Int32.ofNat u)), (2, .int (Int32.ofNat j)), (3, .int (Int32.ofNat k))], [], (s_up (s_up (s_up I 199 59 0) 208 u (Int32.ofNat j)) 209 u (Int32.ofNat k), J, kR w rem, Z), 0, 0) _
      refine w_R.ret 2 (.inl (some (.int 1))) (s_up (s_up (s_up I 199 59 0) 208 u (Int32.ofNat j)) 209 u (Int32.ofNat k), J, kR w rem, Z) ?_ (fun x_ Q_ k_ => ⟨trivial, Or.inr rfl, ⟨Nat.le_of_ble_eq_true rfl, Nat.le_of_ble_eq_true rfl⟩, k_⟩)
      exact ⟨by rw [show v_135 I J Z u j k = true from by unfold v_135; rw [if_neg h1, if_pos h2]] <;> rfl, by rw [show i_135 I J Z u j k = (s_up (s_up (s_up I 199 59 0) 208 u (Int32.ofNat j)) 209 u (Int32.ofNat k)) from by unfold i_135; rw [if_neg h1, if_pos h2]]⟩
    · refine w_R.ret 2 (.inl (some (.int 0))) (s_up I 199 59 0, J, kR w rem, Z) ?_ (fun x_ Q_ k_ => ⟨trivial, Or.inl rfl, ⟨Nat.le_of_ble_eq_true rfl, Nat.le_of_ble_eq_true rfl⟩, k_⟩)
      exact ⟨by rw [show v_135 I J Z u j k = false from by unfold v_135; rw [if_neg h1, if_neg h2]] <;> rfl, by rw [show i_135 I J Z u j k = (s_up I 199 59 0) from by unfold i_135; rw [if_neg h1, if_neg h2]]⟩
end Small5
