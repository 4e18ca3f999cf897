section Small5
variable {xs : Nat → Int32} {Ln : Nat} {I : Nat → Nat → Int32} {J : Nat → Nat → Int64} {Z : Nat → Nat → Bool} {w : Nat → Nat} {rem : Nat}
theorem b_25_0 (u : Int32) (x : Int32) (hu : l_rg u 0 6 = false) : w_R xs Ln 25 (0, [(0, .ref 1), (1, .int u), (2, .int x)], [], (I, J, kR w rem, Z), 0, 0) (fun o s => o = .inl (some (.int (-1))) ∧ s = (I, J, kR w rem, Z)) := by
  refine w_R.go (c' := (1, [(0, .ref 1), (1, .int u), (2, .int x)], [.int u], (I, J, kR w rem, Z), 0, 0)) 1 ?_ (fun m_ x_ Q_ k_ => ⟨trivial, k_⟩)
  refine w_R.callS (ce' := 0) (sl' := 0) (v := some (.int (s_b false))) (σ' := (I, J, kR w rem, Z)) (as := [.int u]) (rest := []) (d_31F u hu) ?_ rfl rfl rfl rfl rfl rfl rfl rfl rfl
  show w_R xs Ln 25 (4, [(0, .ref 1), (1, .int u), (2, .int x)], [.int (s_b false)], (I, J, kR w rem, Z), 0, 0) _
  refine w_R.ret 3 (.inl (some (.int (-1)))) (I, J, kR w rem, Z) ?_ (fun x_ Q_ k_ => ⟨trivial, trivial, trivial, ⟨Nat.le_of_ble_eq_true rfl, Nat.le_of_ble_eq_true rfl⟩, k_⟩)
  exact ⟨rfl, rfl⟩
theorem b_159_0 (u : Int32) (x : Int32) (hu : l_rg u 0 6 = false) : w_R xs Ln 159 (0, [(0, .ref 199), (1, .int u), (2, .int x)], [], (I, J, kR w rem, Z), 0, 0) (fun o s => o = .inl (some (.int (-1))) ∧ s = (s_up I 199 59 0, J, kR w rem, Z)) := by
  refine w_R.go (c' := (6, [(0, .ref 199), (1, .int u), (2, .int x)], [.int u], (s_up I 199 59 0, J, kR w rem, Z), 0, 0)) 4 ?_ (fun m_ x_ Q_ k_ => ⟨trivial, trivial, ⟨sh_199, trivial⟩, trivial, k_⟩)
  refine w_R.callS (ce' := 0) (sl' := 0) (v := some (.int (s_b false))) (σ' := (s_up I 199 59 0, J, kR w rem, Z)) (as := [.int u]) (rest := []) (d_109F u hu) ?_ rfl rfl rfl rfl rfl rfl rfl rfl rfl
  show w_R xs Ln 159 (9, [(0, .ref 199), (1, .int u), (2, .int x)], [.int (s_b false)], (s_up I 199 59 0, J, kR w rem, Z), 0, 0) _
  refine w_R.ret 3 (.inl (some (.int (-1)))) (s_up I 199 59 0, J, kR w rem, Z) ?_ (fun x_ Q_ k_ => ⟨trivial, trivial, trivial, ⟨Nat.le_of_ble_eq_true rfl, Nat.le_of_ble_eq_true rfl⟩, k_⟩)
  exact ⟨rfl, rfl⟩
def v_25 (I : Nat → Nat → Int32) (J : Nat → Nat → Int64) (Z : Nat → Nat → Bool) (u : Nat) (x : Int32) : Int32 := v_58 I J Z u x
theorem d_25 (u : Nat) (x : Int32) (hu : u < 6) : w_R xs Ln 25 (0, [(0, .ref 1), (1, .int (Int32.ofNat u)), (2, .int x)], [], (I, J, kR w rem, Z), 0, 0) (fun o s => o = .inl (some (.int (v_25 I J Z u x))) ∧ s = (I, J, kR w rem, Z)) := by
  refine w_R.go (c' := (1, [(0, .ref 1), (1, .int (Int32.ofNat u)), (2, .int x)], [.int (Int32.ofNat u)], (I, J, kR w rem, Z), 0, 0)) 1 ?_ (fun m_ x_ Q_ k_ => ⟨trivial, k_⟩)
  refine w_R.callS (ce' := 0) (sl' := 0) (v := some (.int (s_b true))) (σ' := (I, J, kR w rem, Z)) (as := [.int (Int32.ofNat u)]) (rest := []) (d_31N u (by omega)) ?_ rfl rfl rfl rfl rfl rfl rfl rfl rfl
  show w_R xs Ln 25 (4, [(0, .ref 1), (1, .int (Int32.ofNat u)), (2, .int x)], [.int (s_b true)], (I, J, kR w rem, Z), 0, 0) _
  refine w_R.go (c' := (13, [(0, .ref 1), (1, .int (Int32.ofNat u)), (2, .int x)], [.ref (kR w rem 11 (Int32.ofNat u).toNatClampNeg)], (I, J, kR w rem, Z), 0, 0)) 5 ?_ (fun m_ x_ Q_ k_ => ⟨trivial, trivial, ⟨sh_1, (Nat.succ_ne_zero 10)⟩, trivial, ⟨⟨_, sh_11, (n_in (a := u) (by omega) (by decide))⟩, (show kR w rem 11 (Int32.ofNat u).toNatClampNeg ≠ 0 by rw [n_cl (a := u) (by omega), r_amb (w := w) (rem := rem) (u := u) (by omega)]; omega)⟩, k_⟩)
  rw [n_cl (a := u) (by omega)]
  rw [r_amb (w := w) (rem := rem) (u := u) (by omega)]
  show w_R xs Ln 25 (13, [(0, .ref 1), (1, .int (Int32.ofNat u)), (2, .int x)], [.ref (135 + u)], (I, J, kR w rem, Z), 0, 0) _
  refine w_R.go (c' := (14, [(0, .ref 1), (1, .int (Int32.ofNat u)), (2, .int x)], [.int x, .ref (135 + u)], (I, J, kR w rem, Z), 0, 0)) 1 ?_ (fun m_ x_ Q_ k_ => ⟨trivial, k_⟩)
  refine w_R.callV (ce' := 0) (sl' := 0) (v := some (.int (v_58 I J Z u x))) (σ' := (I, J, kR w rem, Z)) (as := [.ref (135 + u), .int x]) (rest := []) (d_58 u x (by omega)) ?_ rfl rfl rfl rfl rfl (sh_amb (by omega)) rfl rfl rfl rfl
  show w_R xs Ln 25 (17, [(0, .ref 1), (1, .int (Int32.ofNat u)), (2, .int x)], [.int (v_58 I J Z u x)], (I, J, kR w rem, Z), 0, 0) _
  refine w_R.ret 2 (.inl (some (.int (v_58 I J Z u x)))) (I, J, kR w rem, Z) ?_ (fun x_ Q_ k_ => ⟨trivial, trivial, ⟨Nat.le_of_ble_eq_true rfl, Nat.le_of_ble_eq_true rfl⟩, k_⟩)
  exact ⟨by rw [show v_25 I J Z u x = (v_58 I J Z u x) from by unfold v_25; rfl] <;> rfl, rfl⟩
def v_159 (I : Nat → Nat → Int32) (J : Nat → Nat → Int64) (Z : Nat → Nat → Bool) (u : Nat) (x : Int32) : Int32 := if x = 0 then I 210 u else if x = 1 then I 208 u else if x = 2 then I 211 u else if x = 3 then I 214 u else if x = 4 then I 213 u else if x = 5 then I 209 u else (-1)
def i_159 (I : Nat → Nat → Int32) (J : Nat → Nat → Int64) (Z : Nat → Nat → Bool) (u : Nat) (x : Int32) : Nat → Nat → Int32 := s_up I 199 59 0
theorem d_159 (u : Nat) (x : Int32) (hu : u < 6) : w_R xs Ln 159 (0, [(0, .ref 199), (1, .int (Int32.ofNat u)), (2, .int x)], [], (I, J, kR w rem, Z), 0, 0) (fun o s => o = .inl (some (.int (v_159 I J Z u x))) ∧ s = (i_159 I J Z u x, J, kR w rem, Z)) := by
  refine w_R.go (c' := (6, [(0, .ref 199), (1, .int (Int32.ofNat u)), (2, .int x)], [.int (Int32.ofNat u)], (s_up I 199 59 0, J, kR w rem, Z), 0, 0)) 4 ?_ (fun m_ x_ Q_ k_ => ⟨trivial, trivial, ⟨sh_199, trivial⟩, trivial, k_⟩)
  refine w_R.callS (ce' := 0) (sl' := 0) (v := some (.int (s_b true))) (σ' := (s_up I 199 59 0, J, kR w rem, Z)) (as := [.int (Int32.ofNat u)]) (rest := []) (d_109N u (by omega)) ?_ rfl rfl rfl rfl rfl rfl rfl rfl rfl
  show w_R xs Ln 159 (9, [(0, .ref 199), (1, .int (Int32.ofNat u)), (2, .int x)], [.int (s_b true)], (s_up I 199 59 0, J, kR w rem, Z), 0, 0) _
  refine w_R.go (c' := (if x.toInt < 0 ∨ 5 < x.toInt then 94 else i_tg 15 ((#[37, 44, 51, 58, 65, 72] : Array Int).getD (x.toInt - 0).toNat 0), [(0, .ref 199), (1, .int (Int32.ofNat u)), (2, .int x)], [], (s_up I 199 59 0, J, kR w rem, Z), 0, 0)) 3 ?_ (fun m_ x_ Q_ k_ => ⟨trivial, trivial, trivial, k_⟩)
  by_cases h1 : x = 0
  · rw [show (if x.toInt < 0 ∨ 5 < x.toInt then 94 else i_tg 15 ((#[37, 44, 51, 58, 65, 72] : Array Int).getD (x.toInt - 0).toNat 0)) = 52 by rw [h1]; rfl]
    refine w_R.go (c' := (58, [(0, .ref 199), (1, .int (Int32.ofNat u)), (2, .int x)], [.int ((s_up I 199 59 0) 210 (Int32.ofNat u).toNatClampNeg)], (s_up I 199 59 0, J, kR w rem, Z), 0, 0)) 4 ?_ (fun m_ x_ Q_ k_ => ⟨trivial, ⟨sh_199, (Nat.succ_ne_zero 209)⟩, trivial, ⟨_, sh_210, (n_in (a := u) (by omega) (by decide))⟩, k_⟩)
    rw [n_cl (a := u) (by omega)]
    rw [show (s_up I 199 59 0) 210 u = I 210 u from (s_upa (by decide))]
    show w_R xs Ln 159 (58, [(0, .ref 199), (1, .int (Int32.ofNat u)), (2, .int x)], [.int (I 210 u)], (s_up I 199 59 0, J, kR w rem, Z), 0, 0) _
    refine w_R.ret 1 (.inl (some (.int (I 210 u)))) (s_up I 199 59 0, J, kR w rem, Z) ?_ (fun x_ Q_ k_ => ⟨trivial, ⟨Nat.le_of_ble_eq_true rfl, Nat.le_of_ble_eq_true rfl⟩, k_⟩)
    exact ⟨by rw [show v_159 I J Z u x = (I 210 u) from by unfold v_159; rw [if_pos h1]] <;> rfl, by rw [show i_159 I J Z u x = (s_up I 199 59 0) from by unfold i_159; rfl]⟩
  by_cases h2 : x = 1
  · rw [show (if x.toInt < 0 ∨ 5 < x.toInt then 94 else i_tg 15 ((#[37, 44, 51, 58, 65, 72] : Array Int).getD (x.toInt - 0).toNat 0)) = 59 by rw [h2]; rfl]
    refine w_R.go (c' := (65, [(0, .ref 199), (1, .int (Int32.ofNat u)), (2, .int x)], [.int ((s_up I 199 59 0) 208 (Int32.ofNat u).toNatClampNeg)], (s_up I 199 59 0, J, kR w rem, Z), 0, 0)) 4 ?_ (fun m_ x_ Q_ k_ => ⟨trivial, ⟨sh_199, (Nat.succ_ne_zero 207)⟩, trivial, ⟨_, sh_208, (n_in (a := u) (by omega) (by decide))⟩, k_⟩)
    rw [n_cl (a := u) (by omega)]
    rw [show (s_up I 199 59 0) 208 u = I 208 u from (s_upa (by decide))]
    show w_R xs Ln 159 (65, [(0, .ref 199), (1, .int (Int32.ofNat u)), (2, .int x)], [.int (I 208 u)], (s_up I 199 59 0, J, kR w rem, Z), 0, 0) _
    refine w_R.ret 1 (.inl (some (.int (I 208 u)))) (s_up I 199 59 0, J, kR w rem, Z) ?_ (fun x_ Q_ k_ => ⟨trivial, ⟨Nat.le_of_ble_eq_true rfl, Nat.le_of_ble_eq_true rfl⟩, k_⟩)
    exact ⟨by rw [show v_159 I J Z u x = (I 208 u) from by unfold v_159; rw [if_neg h1, if_pos h2]] <;> rfl, by rw [show i_159 I J Z u x = (s_up I 199 59 0) from by unfold i_159; rfl]⟩
  by_cases h3 : x = 2
  · rw [show (if x.toInt < 0 ∨ 5 < x.toInt then 94 else i_tg 15 ((#[37, 44, 51, 58, 65, 72] : Array Int).getD (x.toInt - 0).toNat 0)) = 66 by rw [h3]; rfl]
    refine w_R.go (c' := (72, [(0, .ref 199), (1, .int (Int32.ofNat u)), (2, .int x)], [.int ((s_up I 199 59 0) 211 (Int32.ofNat u).toNatClampNeg)], (s_up I 199 59 0, J, kR w rem, Z), 0, 0)) 4 ?_ (fun m_ x_ Q_ k_ => ⟨trivial, ⟨sh_199, (Nat.succ_ne_zero 210)⟩, trivial, ⟨_, sh_211, (n_in (a := u) (by omega) (by decide))⟩, k_⟩)
    rw [n_cl (a := u) (by omega)]
    rw [show (s_up I 199 59 0) 211 u = I 211 u from (s_upa (by decide))]
    show w_R xs Ln 159 (72, [(0, .ref 199), (1, .int (Int32.ofNat u)), (2, .int x)], [.int (I 211 u)], (s_up I 199 59 0, J, kR w rem, Z), 0, 0) _
    refine w_R.ret 1 (.inl (some (.int (I 211 u)))) (s_up I 199 59 0, J, kR w rem, Z) ?_ (fun x_ Q_ k_ => ⟨trivial, ⟨Nat.le_of_ble_eq_true rfl, Nat.le_of_ble_eq_true rfl⟩, k_⟩)
    exact ⟨by rw [show v_159 I J Z u x = (I 211 u) from by unfold v_159; rw [if_neg h1, if_neg h2, if_pos h3]] <;> rfl, by rw [show i_159 I J Z u x = (s_up I 199 59 0) from by unfold i_159; rfl]⟩
  by_cases h4 : x = 3
  · rw [show (if x.toInt < 0 ∨ 5 < x.toInt then 94 else i_tg 15 ((#[37, 44, 51, 58, 65, 72] : Array Int).getD (x.toInt - 0).toNat 0)) = 73 by rw [h4]; rfl]
    refine w_R.go (c' := (79, [(0, .ref 199), (1, .int (Int32.ofNat u)), (2, .int x)], [.int ((s_up I 199 59 0) 214 (Int32.ofNat u).toNatClampNeg)], (s_up I 199 59 0, J, kR w rem, Z), 0, 0)) 4 ?_ (fun m_ x_ Q_ k_ => ⟨trivial, ⟨sh_199, (Nat.succ_ne_zero 213)⟩, trivial, ⟨_, sh_214, (n_in (a := u) (by omega) (by decide))⟩, k_⟩)
    rw [n_cl (a := u) (by omega)]
    rw [show (s_up I 199 59 0) 214 u = I 214 u from (s_upa (by decide))]
    show w_R xs Ln 159 (79, [(0, .ref 199), (1, .int (Int32.ofNat u)), (2, .int x)], [.int (I 214 u)], (s_up I 199 59 0, J, kR w rem, Z), 0, 0) _
    refine w_R.ret 1 (.inl (some (.int (I 214 u)))) (s_up I 199 59 0, J, kR w rem, Z) ?_ (fun x_ Q_ k_ => ⟨trivial, ⟨Nat.le_of_ble_eq_true rfl, Nat.le_of_ble_eq_true rfl⟩, k_⟩)
    exact ⟨by rw [show v_159 I J Z u x = (I 214 u) from by unfold v_159; rw [if_neg h1, if_neg h2, if_neg h3, if_pos h4]] <;> rfl, by rw [show i_159 I J Z u x = (s_up I 199 59 0) from by unfold i_159; rfl]⟩
  by_cases h5 : x = 4
  · rw [show (if x.toInt < 0 ∨ 5 < x.toInt then 94 else i_tg 15 ((#[37, 44, 51, 58, 65, 72] : Array Int).getD (x.toInt - 0).toNat 0)) = 80 by rw [h5]; rfl]
    refine w_R.go (c' := (86, [(0, .ref 199), (1, .int (Int32.ofNat u)), (2, .int x)], [.int ((s_up I 199 59 0) 213 (Int32.ofNat u).toNatClampNeg)], (s_up I 199 59 0, J, kR w rem, Z), 0, 0)) 4 ?_ (fun m_ x_ Q_ k_ => ⟨trivial, ⟨sh_199, (Nat.succ_ne_zero 212)⟩, trivial, ⟨_, sh_213, (n_in (a := u) (by omega) (by decide))⟩, k_⟩)
    rw [n_cl (a := u) (by omega)]
    rw [show (s_up I 199 59 0) 213 u = I 213 u from (s_upa (by decide))]
    show w_R xs Ln 159 (86, [(0, .ref 199), (1, .int (Int32.ofNat u)), (2, .int x)], [.int (I 213 u)], (s_up I 199 59 0, J, kR w rem, Z), 0, 0) _
    refine w_R.ret 1 (.inl (some (.int (I 213 u)))) (s_up I 199 59 0, J, kR w rem, Z) ?_ (fun x_ Q_ k_ => ⟨trivial, ⟨Nat.le_of_ble_eq_true rfl, Nat.le_of_ble_eq_true rfl⟩, k_⟩)
    exact ⟨by rw [show v_159 I J Z u x = (I 213 u) from by unfold v_159; rw [if_neg h1, if_neg h2, if_neg h3, if_neg h4, if_pos h5]] <;> rfl, by rw [show i_159 I J Z u x = (s_up I 199 59 0) from by unfold i_159; rfl]⟩
  by_cases h6 : x = 5
  · rw [show (if x.toInt < 0 ∨ 5 < x.toInt then 94 else i_tg 15 ((#[37, 44, 51, 58, 65, 72] : Array Int).getD (x.toInt - 0).toNat 0)) = 87 by rw [h6]; rfl]
    refine w_R.go (c' := (93, [(0, .ref 199), (1, .int (Int32.ofNat u)), (2, .int x)], [.int ((s_up I 199 59 0) 209 (Int32.ofNat u).toNatClampNeg)], (s_up I 199 59 0, J, kR w rem, Z), 0, 0)) 4 ?_ (fun m_ x_ Q_ k_ => ⟨trivial, ⟨sh_199, (Nat.succ_ne_zero 208)⟩, trivial, ⟨_, sh_209, (n_in (a := u) (by omega) (by decide))⟩, k_⟩)
    rw [n_cl (a := u) (by omega)]
    rw [show (s_up I 199 59 0) 209 u = I 209 u from (s_upa (by decide))]
    show w_R xs Ln 159 (93, [(0, .ref 199), (1, .int (Int32.ofNat u)), (2, .int x)], [.int (I 209 u)], (s_up I 199 59 0, J, kR w rem, Z), 0, 0) _
    refine w_R.ret 1 (.inl (some (.int (I 209 u)))) (s_up I 199 59 0, J, kR w rem, Z) ?_ (fun x_ Q_ k_ => ⟨trivial, ⟨Nat.le_of_ble_eq_true rfl, Nat.le_of_ble_eq_true rfl⟩, k_⟩)
    exact ⟨by rw [show v_159 I J Z u x = (I 209 u) from by unfold v_159; rw [if_neg h1, if_neg h2, if_neg h3, if_neg h4, if_neg h5, if_pos h6]] <;> rfl, by rw [show i_159 I J Z u x = (s_up I 199 59 0) from by unfold i_159; rfl]⟩
  rw [if_pos (l_out (x := x) (a := 5) (n := 6) (by omega) rfl (by intro k hk; (rcases k with _ | _ | _ | _ | _ | _ | k) <;> first | assumption | omega))]
  refine w_R.ret 2 (.inl (some (.int (-1)))) (s_up I 199 59 0, J, kR w rem, Z) ?_ (fun x_ Q_ k_ => ⟨trivial, trivial, ⟨Nat.le_of_ble_eq_true rfl, Nat.le_of_ble_eq_true rfl⟩, k_⟩)
  exact ⟨by rw [show v_159 I J Z u x = (-1) from by unfold v_159; rw [if_neg h1, if_neg h2, if_neg h3, if_neg h4, if_neg h5, if_neg h6]] <;> rfl, by rw [show i_159 I J Z u x = (s_up I 199 59 0) from by unfold i_159; rfl]⟩
theorem b_2_0 (j : Int32) (d : Int32) (hj : l_rg j 0 12 = false) : w_R xs Ln 2 (0, [(0, .ref 1), (1, .int j), (2, .int d)], [], (I, J, kR w rem, Z), 0, 0) (fun o s => o = .inl (some (.int 0)) ∧ s = (I, J, kR w rem, Z)) := by
  refine w_R.go (c' := (1, [(0, .ref 1), (1, .int j), (2, .int d)], [.int j], (I, J, kR w rem, Z), 0, 0)) 1 ?_ (fun m_ x_ Q_ k_ => ⟨trivial, k_⟩)
  refine w_R.callS (ce' := 0) (sl' := 0) (v := some (.int (s_b false))) (σ' := (I, J, kR w rem, Z)) (as := [.int j]) (rest := []) (d_28F j hj) ?_ rfl rfl rfl rfl rfl rfl rfl rfl rfl
  show w_R xs Ln 2 (4, [(0, .ref 1), (1, .int j), (2, .int d)], [.int (s_b false)], (I, J, kR w rem, Z), 0, 0) _
  refine w_R.ret 3 (.inl (some (.int 0))) (I, J, kR w rem, Z) ?_ (fun x_ Q_ k_ => ⟨trivial, trivial, Or.inl rfl, ⟨Nat.le_of_ble_eq_true rfl, Nat.le_of_ble_eq_true rfl⟩, k_⟩)
  exact ⟨rfl, rfl⟩
theorem b_112_0 (j : Int32) (d : Int32) (hj : l_rg j 0 12 = false) : w_R xs Ln 112 (0, [(0, .ref 199), (1, .int j), (2, .int d)], [], (I, J, kR w rem, Z), 0, 0) (fun o s => o = .inl (some (.int 0)) ∧ s = (s_up I 199 59 0, J, kR w rem, Z)) := by
  refine w_R.go (c' := (6, [(0, .ref 199), (1, .int j), (2, .int d)], [.int j], (s_up I 199 59 0, J, kR w rem, Z), 0, 0)) 4 ?_ (fun m_ x_ Q_ k_ => ⟨trivial, trivial, ⟨sh_199, trivial⟩, trivial, k_⟩)
  refine w_R.callS (ce' := 0) (sl' := 0) (v := some (.int (s_b false))) (σ' := (s_up I 199 59 0, J, kR w rem, Z)) (as := [.int j]) (rest := []) (d_107F j hj) ?_ rfl rfl rfl rfl rfl rfl rfl rfl rfl
  show w_R xs Ln 112 (9, [(0, .ref 199), (1, .int j), (2, .int d)], [.int (s_b false)], (s_up I 199 59 0, J, kR w rem, Z), 0, 0) _
  refine w_R.ret 3 (.inl (some (.int 0))) (s_up I 199 59 0, J, kR w rem, Z) ?_ (fun x_ Q_ k_ => ⟨trivial, trivial, Or.inl rfl, ⟨Nat.le_of_ble_eq_true rfl, Nat.le_of_ble_eq_true rfl⟩, k_⟩)
  exact ⟨rfl, rfl⟩
theorem b_2_1 (j : Nat) (d : Int32) (hj : j < 12) (hd : l_rg d 0 4 = false) : w_R xs Ln 2 (0, [(0, .ref 1), (1, .int (Int32.ofNat j)), (2, .int d)], [], (I, J, kR w rem, Z), 0, 0) (fun o s => o = .inl (some (.int 0)) ∧ s = (I, J, kR w rem, Z)) := by
  refine w_R.go (c' := (1, [(0, .ref 1), (1, .int (Int32.ofNat j)), (2, .int d)], [.int (Int32.ofNat j)], (I, J, kR w rem, Z), 0, 0)) 1 ?_ (fun m_ x_ Q_ k_ => ⟨trivial, k_⟩)
  refine w_R.callS (ce' := 0) (sl' := 0) (v := some (.int (s_b true))) (σ' := (I, J, kR w rem, Z)) (as := [.int (Int32.ofNat j)]) (rest := []) (d_28N j (by omega)) ?_ rfl rfl rfl rfl rfl rfl rfl rfl rfl
  show w_R xs Ln 2 (4, [(0, .ref 1), (1, .int (Int32.ofNat j)), (2, .int d)], [.int (s_b true)], (I, J, kR w rem, Z), 0, 0) _
  refine w_R.go (c' := (8, [(0, .ref 1), (1, .int (Int32.ofNat j)), (2, .int d)], [.int d], (I, J, kR w rem, Z), 0, 0)) 2 ?_ (fun m_ x_ Q_ k_ => ⟨trivial, trivial, k_⟩)
  refine w_R.callS (ce' := 0) (sl' := 0) (v := some (.int (s_b false))) (σ' := (I, J, kR w rem, Z)) (as := [.int d]) (rest := []) (d_29F d hd) ?_ rfl rfl rfl rfl rfl rfl rfl rfl rfl
  show w_R xs Ln 2 (11, [(0, .ref 1), (1, .int (Int32.ofNat j)), (2, .int d)], [.int (s_b false)], (I, J, kR w rem, Z), 0, 0) _
  refine w_R.ret 3 (.inl (some (.int 0))) (I, J, kR w rem, Z) ?_ (fun x_ Q_ k_ => ⟨trivial, trivial, Or.inl rfl, ⟨Nat.le_of_ble_eq_true rfl, Nat.le_of_ble_eq_true rfl⟩, k_⟩)
  exact ⟨rfl, rfl⟩
theorem b_112_1 (j : Nat) (d : Int32) (hj : j < 12) (hd : l_rg d 0 4 = false) : w_R xs Ln 112 (0, [(0, .ref 199), (1, .int (Int32.ofNat j)), (2, .int d)], [], (I, J, kR w rem, Z), 0, 0) (fun o s => o = .inl (some (.int 0)) ∧ s = (s_up I 199 59 0, J, kR w rem, Z)) := by
  refine w_R.go (c' := (6, [(0, .ref 199), (1, .int (Int32.ofNat j)), (2, .int d)], [.int (Int32.ofNat j)], (s_up I 199 59 0, J, kR w rem, Z), 0, 0)) 4 ?_ (fun m_ x_ Q_ k_ => ⟨trivial, trivial, ⟨sh_199, trivial⟩, trivial, k_⟩)
  refine w_R.callS (ce' := 0) (sl' := 0) (v := some (.int (s_b true))) (σ' := (s_up I 199 59 0, J, kR w rem, Z)) (as := [.int (Int32.ofNat j)]) (rest := []) (d_107N j (by omega)) ?_ rfl rfl rfl rfl rfl rfl rfl rfl rfl
  show w_R xs Ln 112 (9, [(0, .ref 199), (1, .int (Int32.ofNat j)), (2, .int d)], [.int (s_b true)], (s_up I 199 59 0, J, kR w rem, Z), 0, 0) _
  refine w_R.go (c' := (13, [(0, .ref 199), (1, .int (Int32.ofNat j)), (2, .int d)], [.int d], (s_up I 199 59 0, J, kR w rem, Z), 0, 0)) 2 ?_ (fun m_ x_ Q_ k_ => ⟨trivial, trivial, k_⟩)
  refine w_R.callS (ce' := 0) (sl' := 0) (v := some (.int (s_b false))) (σ' := (s_up I 199 59 0, J, kR w rem, Z)) (as := [.int d]) (rest := []) (d_110F d hd) ?_ rfl rfl rfl rfl rfl rfl rfl rfl rfl
  show w_R xs Ln 112 (16, [(0, .ref 199), (1, .int (Int32.ofNat j)), (2, .int d)], [.int (s_b false)], (s_up I 199 59 0, J, kR w rem, Z), 0, 0) _
  refine w_R.ret 3 (.inl (some (.int 0))) (s_up I 199 59 0, J, kR w rem, Z) ?_ (fun x_ Q_ k_ => ⟨trivial, trivial, Or.inl rfl, ⟨Nat.le_of_ble_eq_true rfl, Nat.le_of_ble_eq_true rfl⟩, k_⟩)
  exact ⟨rfl, rfl⟩
def v_2 (I : Nat → Nat → Int32) (J : Nat → Nat → Int64) (Z : Nat → Nat → Bool) (j : Nat) (d : Nat) : Bool := true
def i_2 (I : Nat → Nat → Int32) (J : Nat → Nat → Int64) (Z : Nat → Nat → Bool) (j : Nat) (d : Nat) : Nat → Nat → Int32 := s_up I 3 j (Int32.ofNat d)
theorem d_2 (j : Nat) (d : Nat) (hj : j < 12) (hd : d < 4) : w_R xs Ln 2 (0, [(0, .ref 1), (1, .int (Int32.ofNat j)), (2, .int (Int32.ofNat d))], [], (I, J, kR w rem, Z), 0, 0) (fun o s => o = .inl (some (.int (s_b (v_2 I J Z j d)))) ∧ s = (i_2 I J Z j d, J, kR w rem, Z)) := by
  refine w_R.go (c' := (1, [(0, .ref 1), (1, .int (Int32.ofNat j)), (2, .int (Int32.ofNat d))], [.int (Int32.ofNat j)], (I, J, kR w rem, Z), 0, 0)) 1 ?_ (fun m_ x_ Q_ k_ => ⟨trivial, k_⟩)
  refine w_R.callS (ce' := 0) (sl' := 0) (v := some (.int (s_b true))) (σ' := (I, J, kR w rem, Z)) (as := [.int (Int32.ofNat j)]) (rest := []) (d_28N j (by omega)) ?_ rfl rfl rfl rfl rfl rfl rfl rfl rfl
  show w_R xs Ln 2 (4, [(0, .ref 1), (1, .int (Int32.ofNat j)), (2, .int (Int32.ofNat d))], [.int (s_b true)], (I, J, kR w rem, Z), 0, 0) _
  refine w_R.go (c' := (8, [(0, .ref 1), (1, .int (Int32.ofNat j)), (2, .int (Int32.ofNat d))], [.int (Int32.ofNat d)], (I, J, kR w rem, Z), 0, 0)) 2 ?_ (fun m_ x_ Q_ k_ => ⟨trivial, trivial, k_⟩)
  refine w_R.callS (ce' := 0) (sl' := 0) (v := some (.int (s_b true))) (σ' := (I, J, kR w rem, Z)) (as := [.int (Int32.ofNat d)]) (rest := []) (d_29N d (by omega)) ?_ rfl rfl rfl rfl rfl rfl rfl rfl rfl
  show w_R xs Ln 2 (11, [(0, .ref 1), (1, .int (Int32.ofNat j)), (2, .int (Int32.ofNat d))], [.int (s_b true)], (I, J, kR w rem, Z), 0, 0) _
  refine w_R.go (c' := (26, [(0, .ref 1), (1, .int (Int32.ofNat j)), (2, .int (Int32.ofNat d))], [], (s_up I 3 ((Int32.ofNat j).toNatClampNeg) (Int32.ofNat d), J, kR w rem, Z), 0, 0)) 7 ?_ (fun m_ x_ Q_ k_ => ⟨trivial, trivial, ⟨sh_1, (Nat.succ_ne_zero 1)⟩, ⟨sh_2, (Nat.succ_ne_zero 2)⟩, trivial, trivial, ⟨_, sh_3, (n_in (a := j) (by omega) (by decide))⟩, k_⟩)
  rw [n_cl (a := j) (by omega)]
  show w_R xs Ln 2 (26, [(0, .ref 1), (1, .int (Int32.ofNat j)), (2, .int (Int32.ofNat d))], [], (s_up I 3 j (Int32.ofNat d), J, kR w rem, Z), 0, 0) _
  refine w_R.ret 2 (.inl (some (.int 1))) (s_up I 3 j (Int32.ofNat d), J, kR w rem, Z) ?_ (fun x_ Q_ k_ => ⟨trivial, Or.inr rfl, ⟨Nat.le_of_ble_eq_true rfl, Nat.le_of_ble_eq_true rfl⟩, k_⟩)
  exact ⟨by rw [show v_2 I J Z j d = true from by unfold v_2; rfl] <;> rfl, by rw [show i_2 I J Z j d = (s_up I 3 j (Int32.ofNat d)) from by unfold i_2; rfl]⟩
def v_112 (I : Nat → Nat → Int32) (J : Nat → Nat → Int64) (Z : Nat → Nat → Bool) (j : Nat) (d : Nat) : Bool := true
def i_112 (I : Nat → Nat → Int32) (J : Nat → Nat → Int64) (Z : Nat → Nat → Bool) (j : Nat) (d : Nat) : Nat → Nat → Int32 := s_up (s_up I 199 59 0) 201 j (Int32.ofNat d)
theorem d_112 (j : Nat) (d : Nat) (hj : j < 12) (hd : d < 4) : w_R xs Ln 112 (0, [(0, .ref 199), (1, .int (Int32.ofNat j)), (2, .int (Int32.ofNat d))], [], (I, J, kR w rem, Z), 0, 0) (fun o s => o = .inl (some (.int (s_b (v_112 I J Z j d)))) ∧ s = (i_112 I J Z j d, J, kR w rem, Z)) := by
  refine w_R.go (c' := (6, [(0, .ref 199), (1, .int (Int32.ofNat j)), (2, .int (Int32.ofNat d))], [.int (Int32.ofNat j)], (s_up I 199 59 0, J, kR w rem, Z), 0, 0)) 4 ?_ (fun m_ x_ Q_ k_ => ⟨trivial, trivial, ⟨sh_199, trivial⟩, trivial, k_⟩)
  refine w_R.callS (ce' := 0) (sl' := 0) (v := some (.int (s_b true))) (σ' := (s_up I 199 59 0, J, kR w rem, Z)) (as := [.int (Int32.ofNat j)]) (rest := []) (d_107N j (by omega)) ?_ rfl rfl rfl rfl rfl rfl rfl rfl rfl
  show w_R xs Ln 112 (9, [(0, .ref 199), (1, .int (Int32.ofNat j)), (2, .int (Int32.ofNat d))], [.int (s_b true)], (s_up I 199 59 0, J, kR w rem, Z), 0, 0) _
  refine w_R.go (c' := (13, [(0, .ref 199), (1, .int (Int32.ofNat j)), (2, .int (Int32.ofNat d))], [.int (Int32.ofNat d)], (s_up I 199 59 0, J, kR w rem, Z), 0, 0)) 2 ?_ (fun m_ x_ Q_ k_ => ⟨trivial, trivial, k_⟩)
  refine w_R.callS (ce' := 0) (sl' := 0) (v := some (.int (s_b true))) (σ' := (s_up I 199 59 0, J, kR w rem, Z)) (as := [.int (Int32.ofNat d)]) (rest := []) (d_110N d (by omega)) ?_ rfl rfl rfl rfl rfl rfl rfl rfl rfl
  show w_R xs Ln 112 (16, [(0, .ref 199), (1, .int (Int32.ofNat j)), (2, .int (Int32.ofNat d))], [.int (s_b true)], (s_up I 199 59 0, J, kR w rem, Z), 0, 0) _
  refine w_R.go (c' := (28, [(0, .ref 199), (1, .int (Int32.ofNat j)), (2, .int (Int32.ofNat d))], [], (s_up (s_up I 199 59 0) 201 ((Int32.ofNat j).toNatClampNeg) (Int32.ofNat d), J, kR w rem, Z), 0, 0)) 6 ?_ (fun m_ x_ Q_ k_ => ⟨trivial, trivial, ⟨sh_199, (Nat.succ_ne_zero 200)⟩, trivial, trivial, ⟨_, sh_201, (n_in (a := j) (by omega) (by decide))⟩, k_⟩)
  rw [n_cl (a := j) (by omega)]
  show w_R xs Ln 112 (28, [(0, .ref 199), (1, .int (Int32.ofNat j)), (2, .int (Int32.ofNat d))], [], (s_up (s_up I 199 59 0) 201 j (Int32.ofNat d), J, kR w rem, Z), 0, 0) _
  refine w_R.ret 2 (.inl (some (.int 1))) (s_up (s_up I 199 59 0) 201 j (Int32.ofNat d), J, kR w rem, Z) ?_ (fun x_ Q_ k_ => ⟨trivial, Or.inr rfl, ⟨Nat.le_of_ble_eq_true rfl, Nat.le_of_ble_eq_true rfl⟩, k_⟩)
  exact ⟨by rw [show v_112 I J Z j d = true from by unfold v_112; rfl] <;> rfl, by rw [show i_112 I J Z j d = (s_up (s_up I 199 59 0) 201 j (Int32.ofNat d)) from by unfold i_112; rfl]⟩
theorem b_7_0 (r : Int32) (v : Int32) (hr : l_rg r 0 2 = false) : w_R xs Ln 7 (0, [(0, .ref 1), (1, .int r), (2, .int v)], [], (I, J, kR w rem, Z), 0, 0) (fun o s => o = .inl (some (.int 0)) ∧ s = (I, J, kR w rem, Z)) := by
  refine w_R.go (c' := (1, [(0, .ref 1), (1, .int r), (2, .int v)], [.int r], (I, J, kR w rem, Z), 0, 0)) 1 ?_ (fun m_ x_ Q_ k_ => ⟨trivial, k_⟩)
  refine w_R.callS (ce' := 0) (sl' := 0) (v := some (.int (s_b false))) (σ' := (I, J, kR w rem, Z)) (as := [.int r]) (rest := []) (d_32F r hr) ?_ rfl rfl rfl rfl rfl rfl rfl rfl rfl
  show w_R xs Ln 7 (4, [(0, .ref 1), (1, .int r), (2, .int v)], [.int (s_b false)], (I, J, kR w rem, Z), 0, 0) _
  refine w_R.ret 3 (.inl (some (.int 0))) (I, J, kR w rem, Z) ?_ (fun x_ Q_ k_ => ⟨trivial, trivial, Or.inl rfl, ⟨Nat.le_of_ble_eq_true rfl, Nat.le_of_ble_eq_true rfl⟩, k_⟩)
  exact ⟨rfl, rfl⟩
theorem b_137_0 (r : Int32) (v : Int32) (hr : l_rg r 0 2 = false) : w_R xs Ln 137 (0, [(0, .ref 199), (1, .int r), (2, .int v)], [], (I, J, kR w rem, Z), 0, 0) (fun o s => o = .inl (some (.int 0)) ∧ s = (s_up I 199 59 0, J, kR w rem, Z)) := by
  refine w_R.go (c' := (6, [(0, .ref 199), (1, .int r), (2, .int v)], [.int r], (s_up I 199 59 0, J, kR w rem, Z), 0, 0)) 4 ?_ (fun m_ x_ Q_ k_ => ⟨trivial, trivial, ⟨sh_199, trivial⟩, trivial, k_⟩)
  refine w_R.callS (ce' := 0) (sl' := 0) (v := some (.int (s_b false))) (σ' := (s_up I 199 59 0, J, kR w rem, Z)) (as := [.int r]) (rest := []) (d_108F r hr) ?_ rfl rfl rfl rfl rfl rfl rfl rfl rfl
  show w_R xs Ln 137 (9, [(0, .ref 199), (1, .int r), (2, .int v)], [.int (s_b false)], (s_up I 199 59 0, J, kR w rem, Z), 0, 0) _
  refine w_R.ret 3 (.inl (some (.int 0))) (s_up I 199 59 0, J, kR w rem, Z) ?_ (fun x_ Q_ k_ => ⟨trivial, trivial, Or.inl rfl, ⟨Nat.le_of_ble_eq_true rfl, Nat.le_of_ble_eq_true rfl⟩, k_⟩)
  exact ⟨rfl, rfl⟩
theorem b_7_1 (r : Nat) (v : Int32) (hr : r < 2) (hv : l_rg v 49 52 = false) : w_R xs Ln 7 (0, [(0, .ref 1), (1, .int (Int32.ofNat r)), (2, .int v)], [], (I, J, kR w rem, Z), 0, 0) (fun o s => o = .inl (some (.int 0)) ∧ s = (I, J, kR w rem, Z)) := by
  refine w_R.go (c' := (1, [(0, .ref 1), (1, .int (Int32.ofNat r)), (2, .int v)], [.int (Int32.ofNat r)], (I, J, kR w rem, Z), 0, 0)) 1 ?_ (fun m_ x_ Q_ k_ => ⟨trivial, k_⟩)
  refine w_R.callS (ce' := 0) (sl' := 0) (v := some (.int (s_b true))) (σ' := (I, J, kR w rem, Z)) (as := [.int (Int32.ofNat r)]) (rest := []) (d_32N r (by omega)) ?_ rfl rfl rfl rfl rfl rfl rfl rfl rfl
  show w_R xs Ln 7 (4, [(0, .ref 1), (1, .int (Int32.ofNat r)), (2, .int v)], [.int (s_b true)], (I, J, kR w rem, Z), 0, 0) _
  refine w_R.go (c' := (i_br .lt v 49 19 13, [(0, .ref 1), (1, .int (Int32.ofNat r)), (2, .int v)], [], (I, J, kR w rem, Z), 0, 0)) 4 ?_ (fun m_ x_ Q_ k_ => ⟨trivial, trivial, trivial, trivial, k_⟩)
  refine w_R.br_lt (fun h1 => ?_) (fun h1 => ?_)
  · refine w_R.ret 2 (.inl (some (.int 0))) (I, J, kR w rem, Z) ?_ (fun x_ Q_ k_ => ⟨trivial, Or.inl rfl, ⟨Nat.le_of_ble_eq_true rfl, Nat.le_of_ble_eq_true rfl⟩, k_⟩)
    exact ⟨rfl, rfl⟩
  · refine w_R.go (c' := (i_br .le v 51 21 19, [(0, .ref 1), (1, .int (Int32.ofNat r)), (2, .int v)], [], (I, J, kR w rem, Z), 0, 0)) 3 ?_ (fun m_ x_ Q_ k_ => ⟨trivial, trivial, trivial, k_⟩)
    refine w_R.br_le (fun h2 => ?_) (fun h2 => ?_)
    · exact (l_no hv h1 h2 rfl rfl).elim
    · refine w_R.ret 2 (.inl (some (.int 0))) (I, J, kR w rem, Z) ?_ (fun x_ Q_ k_ => ⟨trivial, Or.inl rfl, ⟨Nat.le_of_ble_eq_true rfl, Nat.le_of_ble_eq_true rfl⟩, k_⟩)
      exact ⟨rfl, rfl⟩
theorem b_137_1 (r : Nat) (v : Int32) (hr : r < 2) (hv : l_rg v 49 52 = false) : w_R xs Ln 137 (0, [(0, .ref 199), (1, .int (Int32.ofNat r)), (2, .int v)], [], (I, J, kR w rem, Z), 0, 0) (fun o s => o = .inl (some (.int 0)) ∧ s = (s_up I 199 59 0, J, kR w rem, Z)) := by
  refine w_R.go (c' := (6, [(0, .ref 199), (1, .int (Int32.ofNat r)), (2, .int v)], [.int (Int32.ofNat r)], (s_up I 199 59 0, J, kR w rem, Z), 0, 0)) 4 ?_ (fun m_ x_ Q_ k_ => ⟨trivial, trivial, ⟨sh_199, trivial⟩, trivial, k_⟩)
  refine w_R.callS (ce' := 0) (sl' := 0) (v := some (.int (s_b true))) (σ' := (s_up I 199 59 0, J, kR w rem, Z)) (as := [.int (Int32.ofNat r)]) (rest := []) (d_108N r (by omega)) ?_ rfl rfl rfl rfl rfl rfl rfl rfl rfl
  show w_R xs Ln 137 (9, [(0, .ref 199), (1, .int (Int32.ofNat r)), (2, .int v)], [.int (s_b true)], (s_up I 199 59 0, J, kR w rem, Z), 0, 0) _
  refine w_R.go (c' := (17, [(0, .ref 199), (1, .int (Int32.ofNat r)), (2, .int v)], [.int 51, .int 49, .int v], (s_up I 199 59 0, J, kR w rem, Z), 0, 0)) 4 ?_ (fun m_ x_ Q_ k_ => ⟨trivial, trivial, trivial, trivial, k_⟩)
  refine w_R.callS (ce' := 0) (sl' := 0) (v := some (.int (s_b false))) (σ' := (s_up I 199 59 0, J, kR w rem, Z)) (as := [.int v, .int 49, .int 51]) (rest := []) (d_106F v 49 51 (by decide) (by decide) hv) ?_ rfl rfl rfl rfl rfl rfl rfl rfl rfl
  show w_R xs Ln 137 (20, [(0, .ref 199), (1, .int (Int32.ofNat r)), (2, .int v)], [.int (s_b false)], (s_up I 199 59 0, J, kR w rem, Z), 0, 0) _
  refine w_R.ret 3 (.inl (some (.int 0))) (s_up I 199 59 0, J, kR w rem, Z) ?_ (fun x_ Q_ k_ => ⟨trivial, trivial, Or.inl rfl, ⟨Nat.le_of_ble_eq_true rfl, Nat.le_of_ble_eq_true rfl⟩, k_⟩)
  exact ⟨rfl, rfl⟩
def v_7 (I : Nat → Nat → Int32) (J : Nat → Nat → Int64) (Z : Nat → Nat → Bool) (r : Nat) (v : Nat) : Bool := true
def i_7 (I : Nat → Nat → Int32) (J : Nat → Nat → Int64) (Z : Nat → Nat → Bool) (r : Nat) (v : Nat) : Nat → Nat → Int32 := s_up I (141 + 29 * r) 1 (Int32.ofNat v)
theorem d_7 (r : Nat) (v : Nat) (hr : r < 2) (hv : 49 ≤ v ∧ v < 52) : w_R xs Ln 7 (0, [(0, .ref 1), (1, .int (Int32.ofNat r)), (2, .int (Int32.ofNat v))], [], (I, J, kR w rem, Z), 0, 0) (fun o s => o = .inl (some (.int (s_b (v_7 I J Z r v)))) ∧ s = (i_7 I J Z r v, J, kR w rem, Z)) := by
  refine w_R.go (c' := (1, [(0, .ref 1), (1, .int (Int32.ofNat r)), (2, .int (Int32.ofNat v))], [.int (Int32.ofNat r)], (I, J, kR w rem, Z), 0, 0)) 1 ?_ (fun m_ x_ Q_ k_ => ⟨trivial, k_⟩)
  refine w_R.callS (ce' := 0) (sl' := 0) (v := some (.int (s_b true))) (σ' := (I, J, kR w rem, Z)) (as := [.int (Int32.ofNat r)]) (rest := []) (d_32N r (by omega)) ?_ rfl rfl rfl rfl rfl rfl rfl rfl rfl
  show w_R xs Ln 7 (4, [(0, .ref 1), (1, .int (Int32.ofNat r)), (2, .int (Int32.ofNat v))], [.int (s_b true)], (I, J, kR w rem, Z), 0, 0) _
  refine w_R.go (c' := (i_br .lt (Int32.ofNat v) 49 19 13, [(0, .ref 1), (1, .int (Int32.ofNat r)), (2, .int (Int32.ofNat v))], [], (I, J, kR w rem, Z), 0, 0)) 4 ?_ (fun m_ x_ Q_ k_ => ⟨trivial, trivial, trivial, trivial, k_⟩)
  rw [show i_br .lt (Int32.ofNat v) 49 19 13 = 13 from if_neg (mt (n_lt (a := v) (b := 49) (by omega) (by omega)).mp (by omega))]
  show w_R xs Ln 7 (13, [(0, .ref 1), (1, .int (Int32.ofNat r)), (2, .int (Int32.ofNat v))], [], (I, J, kR w rem, Z), 0, 0) _
  refine w_R.go (c' := (i_br .le (Int32.ofNat v) 51 21 19, [(0, .ref 1), (1, .int (Int32.ofNat r)), (2, .int (Int32.ofNat v))], [], (I, J, kR w rem, Z), 0, 0)) 3 ?_ (fun m_ x_ Q_ k_ => ⟨trivial, trivial, trivial, k_⟩)
  rw [show i_br .le (Int32.ofNat v) 51 21 19 = 21 from if_pos (Int32.not_lt.mp (mt (n_lt (a := 51) (b := v) (by omega) (by omega)).mp (by omega)))]
  show w_R xs Ln 7 (21, [(0, .ref 1), (1, .int (Int32.ofNat r)), (2, .int (Int32.ofNat v))], [], (I, J, kR w rem, Z), 0, 0) _
  refine w_R.go (c' := (27, [(0, .ref 1), (1, .int (Int32.ofNat r)), (2, .int (Int32.ofNat v))], [.ref (kR w rem 12 (Int32.ofNat r).toNatClampNeg)], (I, J, kR w rem, Z), 0, 0)) 4 ?_ (fun m_ x_ Q_ k_ => ⟨trivial, ⟨sh_1, (Nat.succ_ne_zero 11)⟩, trivial, ⟨⟨_, sh_12, (n_in (a := r) (by omega) (by decide))⟩, (show kR w rem 12 (Int32.ofNat r).toNatClampNeg ≠ 0 by rw [n_cl (a := r) (by omega), r_room (w := w) (rem := rem) (r := r) (by omega)]; omega)⟩, k_⟩)
  rw [n_cl (a := r) (by omega)]
  rw [r_room (w := w) (rem := rem) (r := r) (by omega)]
  show w_R xs Ln 7 (27, [(0, .ref 1), (1, .int (Int32.ofNat r)), (2, .int (Int32.ofNat v))], [.ref (141 + 29 * r)], (I, J, kR w rem, Z), 0, 0) _
  refine w_R.ret 4 (.inl (some (.int 1))) (s_up I (141 + 29 * r) 1 (Int32.ofNat v), J, kR w rem, Z) ?_ (fun x_ Q_ k_ => ⟨trivial, ⟨(sh_room (by omega)), trivial⟩, trivial, Or.inr rfl, ⟨Nat.le_of_ble_eq_true rfl, Nat.le_of_ble_eq_true rfl⟩, k_⟩)
  exact ⟨by rw [show v_7 I J Z r v = true from by unfold v_7; rfl] <;> rfl, by rw [show i_7 I J Z r v = (s_up I (141 + 29 * r) 1 (Int32.ofNat v)) from by unfold i_7; rfl]⟩
def v_137 (I : Nat → Nat → Int32) (J : Nat → Nat → Int64) (Z : Nat → Nat → Bool) (r : Nat) (v : Nat) : Bool := true
def i_137 (I : Nat → Nat → Int32) (J : Nat → Nat → Int64) (Z : Nat → Nat → Bool) (r : Nat) (v : Nat) : Nat → Nat → Int32 := s_up (s_up I 199 59 0) 216 r (Int32.ofNat v)
theorem d_137 (r : Nat) (v : Nat) (hr : r < 2) (hv : 49 ≤ v ∧ v < 52) : w_R xs Ln 137 (0, [(0, .ref 199), (1, .int (Int32.ofNat r)), (2, .int (Int32.ofNat v))], [], (I, J, kR w rem, Z), 0, 0) (fun o s => o = .inl (some (.int (s_b (v_137 I J Z r v)))) ∧ s = (i_137 I J Z r v, J, kR w rem, Z)) := by
  refine w_R.go (c' := (6, [(0, .ref 199), (1, .int (Int32.ofNat r)), (2, .int (Int32.ofNat v))], [.int (Int32.ofNat r)], (s_up I 199 59 0, J, kR w rem, Z), 0, 0)) 4 ?_ (fun m_ x_ Q_ k_ => ⟨trivial, trivial, ⟨sh_199, trivial⟩, trivial, k_⟩)
  refine w_R.callS (ce' := 0) (sl' := 0) (v := some (.int (s_b true))) (σ' := (s_up I 199 59 0, J, kR w rem, Z)) (as := [.int (Int32.ofNat r)]) (rest := []) (d_108N r (by omega)) ?_ rfl rfl rfl rfl rfl rfl rfl rfl rfl
  show w_R xs Ln 137 (9, [(0, .ref 199), (1, .int (Int32.ofNat r)), (2, .int (Int32.ofNat v))], [.int (s_b true)], (s_up I 199 59 0, J, kR w rem, Z), 0, 0) _
  refine w_R.go (c' := (17, [(0, .ref 199), (1, .int (Int32.ofNat r)), (2, .int (Int32.ofNat v))], [.int 51, .int 49, .int (Int32.ofNat v)], (s_up I 199 59 0, J, kR w rem, Z), 0, 0)) 4 ?_ (fun m_ x_ Q_ k_ => ⟨trivial, trivial, trivial, trivial, k_⟩)
  refine w_R.callS (ce' := 0) (sl' := 0) (v := some (.int (s_b true))) (σ' := (s_up I 199 59 0, J, kR w rem, Z)) (as := [.int (Int32.ofNat v), .int 49, .int 51]) (rest := []) (d_106T v 49 51 (by omega) (by omega) (by decide)) ?_ rfl rfl rfl rfl rfl rfl rfl rfl rfl
  show w_R xs Ln 137 (20, [(0, .ref 199), (1, .int (Int32.ofNat r)), (2, .int (Int32.ofNat v))], [.int (s_b true)], (s_up I 199 59 0, J, kR w rem, Z), 0, 0) _
  refine w_R.go (c' := (32, [(0, .ref 199), (1, .int (Int32.ofNat r)), (2, .int (Int32.ofNat v))], [], (s_up (s_up I 199 59 0) 216 ((Int32.ofNat r).toNatClampNeg) (Int32.ofNat v), J, kR w rem, Z), 0, 0)) 6 ?_ (fun m_ x_ Q_ k_ => ⟨trivial, trivial, ⟨sh_199, (Nat.succ_ne_zero 215)⟩, trivial, trivial, ⟨_, sh_216, (n_in (a := r) (by omega) (by decide))⟩, k_⟩)
  rw [n_cl (a := r) (by omega)]
  show w_R xs Ln 137 (32, [(0, .ref 199), (1, .int (Int32.ofNat r)), (2, .int (Int32.ofNat v))], [], (s_up (s_up I 199 59 0) 216 r (Int32.ofNat v), J, kR w rem, Z), 0, 0) _
  refine w_R.ret 2 (.inl (some (.int 1))) (s_up (s_up I 199 59 0) 216 r (Int32.ofNat v), J, kR w rem, Z) ?_ (fun x_ Q_ k_ => ⟨trivial, Or.inr rfl, ⟨Nat.le_of_ble_eq_true rfl, Nat.le_of_ble_eq_true rfl⟩, k_⟩)
  exact ⟨by rw [show v_137 I J Z r v = true from by unfold v_137; rfl] <;> rfl, by rw [show i_137 I J Z r v = (s_up (s_up I 199 59 0) 216 r (Int32.ofNat v)) from by unfold i_137; rfl]⟩
theorem b_5_0 (u : Int32) (j : Int32) (k : Int32) (hu : l_rg u 0 6 = false) : w_R xs Ln 5 (0, [(0, .ref 1), (1, .int u), (2, .int j), (3, .int k)], [], (I, J, kR w rem, Z), 0, 0) (fun o s => o = .inl (some (.int 0)) ∧ s = (I, J, kR w rem, Z)) := by
  refine w_R.go (c' := (1, [(0, .ref 1), (1, .int u), (2, .int j), (3, .int k)], [.int u], (I, J, kR w rem, Z), 0, 0)) 1 ?_ (fun m_ x_ Q_ k_ => ⟨trivial, k_⟩)
  refine w_R.callS (ce' := 0) (sl' := 0) (v := some (.int (s_b false))) (σ' := (I, J, kR w rem, Z)) (as := [.int u]) (rest := []) (d_31F u hu) ?_ rfl rfl rfl rfl rfl rfl rfl rfl rfl
  show w_R xs Ln 5 (4, [(0, .ref 1), (1, .int u), (2, .int j), (3, .int k)], [.int (s_b false)], (I, J, kR w rem, Z), 0, 0) _
  refine w_R.ret 3 (.inl (some (.int 0))) (I, J, kR w rem, Z) ?_ (fun x_ Q_ k_ => ⟨trivial, trivial, Or.inl rfl, ⟨Nat.le_of_ble_eq_true rfl, Nat.le_of_ble_eq_true rfl⟩, k_⟩)
  exact ⟨rfl, rfl⟩
theorem b_135_0 (u : Int32) (j : Int32) (k : Int32) (hu : l_rg u 0 6 = false) : w_R xs Ln 135 (0, [(0, .ref 199), (1, .int u), (2, .int j), (3, .int k)], [], (I, J, kR w rem, Z), 0, 0) (fun o s => o = .inl (some (.int 0)) ∧ s = (s_up I 199 59 0, J, kR w rem, Z)) := by
  refine w_R.go (c' := (6, [(0, .ref 199), (1, .int u), (2, .int j), (3, .int k)], [.int u], (s_up I 199 59 0, J, kR w rem, Z), 0, 0)) 4 ?_ (fun m_ x_ Q_ k_ => ⟨trivial, trivial, ⟨sh_199, trivial⟩, trivial, k_⟩)
  refine w_R.callS (ce' := 0) (sl' := 0) (v := some (.int (s_b false))) (σ' := (s_up I 199 59 0, J, kR w rem, Z)) (as := [.int u]) (rest := []) (d_109F u hu) ?_ rfl rfl rfl rfl rfl rfl rfl rfl rfl
  show w_R xs Ln 135 (9, [(0, .ref 199), (1, .int u), (2, .int j), (3, .int k)], [.int (s_b false)], (s_up I 199 59 0, J, kR w rem, Z), 0, 0) _
  refine w_R.ret 3 (.inl (some (.int 0))) (s_up I 199 59 0, J, kR w rem, Z) ?_ (fun x_ Q_ k_ => ⟨trivial, trivial, Or.inl rfl, ⟨Nat.le_of_ble_eq_true rfl, Nat.le_of_ble_eq_true rfl⟩, k_⟩)
  exact ⟨rfl, rfl⟩
theorem b_5_1 (u : Nat) (j : Int32) (k : Int32) (hu : u < 6) (hj : l_rg j 0 12 = false) : w_R xs Ln 5 (0, [(0, .ref 1), (1, .int (Int32.ofNat u)), (2, .int j), (3, .int k)], [], (I, J, kR w rem, Z), 0, 0) (fun o s => o = .inl (some (.int 0)) ∧ s = (I, J, kR w rem, Z)) := by
  refine w_R.go (c' := (1, [(0, .ref 1), (1, .int (Int32.ofNat u)), (2, .int j), (3, .int k)], [.int (Int32.ofNat u)], (I, J, kR w rem, Z), 0, 0)) 1 ?_ (fun m_ x_ Q_ k_ => ⟨trivial, k_⟩)
  refine w_R.callS (ce' := 0) (sl' := 0) (v := some (.int (s_b true))) (σ' := (I, J, kR w rem, Z)) (as := [.int (Int32.ofNat u)]) (rest := []) (d_31N u (by omega)) ?_ rfl rfl rfl rfl rfl rfl rfl rfl rfl
  show w_R xs Ln 5 (4, [(0, .ref 1), (1, .int (Int32.ofNat u)), (2, .int j), (3, .int k)], [.int (s_b true)], (I, J, kR w rem, Z), 0, 0) _
  refine w_R.go (c' := (8, [(0, .ref 1), (1, .int (Int32.ofNat u)), (2, .int j), (3, .int k)], [.int j], (I, J, kR w rem, Z), 0, 0)) 2 ?_ (fun m_ x_ Q_ k_ => ⟨trivial, trivial, k_⟩)
  refine w_R.callS (ce' := 0) (sl' := 0) (v := some (.int (s_b false))) (σ' := (I, J, kR w rem, Z)) (as := [.int j]) (rest := []) (d_28F j hj) ?_ rfl rfl rfl rfl rfl rfl rfl rfl rfl
  show w_R xs Ln 5 (11, [(0, .ref 1), (1, .int (Int32.ofNat u)), (2, .int j), (3, .int k)], [.int (s_b false)], (I, J, kR w rem, Z), 0, 0) _
  refine w_R.ret 3 (.inl (some (.int 0))) (I, J, kR w rem, Z) ?_ (fun x_ Q_ k_ => ⟨trivial, trivial, Or.inl rfl, ⟨Nat.le_of_ble_eq_true rfl, Nat.le_of_ble_eq_true rfl⟩, k_⟩)
  exact ⟨rfl, rfl⟩
theorem b_135_1 (u : Nat) (j : Int32) (k : Int32) (hu : u < 6) (hj : l_rg j 0 12 = false) : w_R xs Ln 135 (0, [(0, .ref 199), (1, .int (Int32.ofNat u)), (2, .int j), (3, .int k)], [], (I, J, kR w rem, Z), 0, 0) (fun o s => o = .inl (some (.int 0)) ∧ s = (s_up I 199 59 0, J, kR w rem, Z)) := by
  refine w_R.go (c' := (6, [(0, .ref 199), (1, .int (Int32.ofNat u)), (2, .int j), (3, .int k)], [.int (Int32.ofNat u)], (s_up I 199 59 0, J, kR w rem, Z), 0, 0)) 4 ?_ (fun m_ x_ Q_ k_ => ⟨trivial, trivial, ⟨sh_199, trivial⟩, trivial, k_⟩)
  refine w_R.callS (ce' := 0) (sl' := 0) (v := some (.int (s_b true))) (σ' := (s_up I 199 59 0, J, kR w rem, Z)) (as := [.int (Int32.ofNat u)]) (rest := []) (d_109N u (by omega)) ?_ rfl rfl rfl rfl rfl rfl rfl rfl rfl
  show w_R xs Ln 135 (9, [(0, .ref 199), (1, .int (Int32.ofNat u)), (2, .int j), (3, .int k)], [.int (s_b true)], (s_up I 199 59 0, J, kR w rem, Z), 0, 0) _
  refine w_R.go (c' := (13, [(0, .ref 199), (1, .int (Int32.ofNat u)), (2, .int j), (3, .int k)], [.int j], (s_up I 199 59 0, J, kR w rem, Z), 0, 0)) 2 ?_ (fun m_ x_ Q_ k_ => ⟨trivial, trivial, k_⟩)
  refine w_R.callS (ce' := 0) (sl' := 0) (v := some (.int (s_b false))) (σ' := (s_up I 199 59 0, J, kR w rem, Z)) (as := [.int j]) (rest := []) (d_107F j hj) ?_ rfl rfl rfl rfl rfl rfl rfl rfl rfl
  show w_R xs Ln 135 (16, [(0, .ref 199), (1, .int (Int32.ofNat u)), (2, .int j), (3, .int k)], [.int (s_b false)], (s_up I 199 59 0, J, kR w rem, Z), 0, 0) _
  refine w_R.ret 3 (.inl (some (.int 0))) (s_up I 199 59 0, J, kR w rem, Z) ?_ (fun x_ Q_ k_ => ⟨trivial, trivial, Or.inl rfl, ⟨Nat.le_of_ble_eq_true rfl, Nat.le_of_ble_eq_true rfl⟩, k_⟩)
  exact ⟨rfl, rfl⟩
theorem b_5_2 (u : Nat) (j : Nat) (k : Int32) (hu : u < 6) (hj : j < 12) (hk : l_rg k 0 3 = false) : w_R xs Ln 5 (0, [(0, .ref 1), (1, .int (Int32.ofNat u)), (2, .int (Int32.ofNat j)), (3, .int k)], [], (I, J, kR w rem, Z), 0, 0) (fun o s => o = .inl (some (.int 0)) ∧ s = (I, J, kR w rem, Z)) := by
  refine w_R.go (c' := (1, [(0, .ref 1), (1, .int (Int32.ofNat u)), (2, .int (Int32.ofNat j)), (3, .int k)], [.int (Int32.ofNat u)], (I, J, kR w rem, Z), 0, 0)) 1 ?_ (fun m_ x_ Q_ k_ => ⟨trivial, k_⟩)
  refine w_R.callS (ce' := 0) (sl' := 0) (v := some (.int (s_b true))) (σ' := (I, J, kR w rem, Z)) (as := [.int (Int32.ofNat u)]) (rest := []) (d_31N u (by omega)) ?_ rfl rfl rfl rfl rfl rfl rfl rfl rfl
  show w_R xs Ln 5 (4, [(0, .ref 1), (1, .int (Int32.ofNat u)), (2, .int (Int32.ofNat j)), (3, .int k)], [.int (s_b true)], (I, J, kR w rem, Z), 0, 0) _
  refine w_R.go (c' := (8, [(0, .ref 1), (1, .int (Int32.ofNat u)), (2, .int (Int32.ofNat j)), (3, .int k)], [.int (Int32.ofNat j)], (I, J, kR w rem, Z), 0, 0)) 2 ?_ (fun m_ x_ Q_ k_ => ⟨trivial, trivial, k_⟩)
  refine w_R.callS (ce' := 0) (sl' := 0) (v := some (.int (s_b true))) (σ' := (I, J, kR w rem, Z)) (as := [.int (Int32.ofNat j)]) (rest := []) (d_28N j (by omega)) ?_ rfl rfl rfl rfl rfl rfl rfl rfl rfl
  show w_R xs Ln 5 (11, [(0, .ref 1), (1, .int (Int32.ofNat u)), (2, .int (Int32.ofNat j)), (3, .int k)], [.int (s_b true)], (I, J, kR w rem, Z), 0, 0) _
  refine w_R.go (c' := (i_br .lt k 0 23 18, [(0, .ref 1), (1, .int (Int32.ofNat u)), (2, .int (Int32.ofNat j)), (3, .int k)], [], (I, J, kR w rem, Z), 0, 0)) 3 ?_ (fun m_ x_ Q_ k_ => ⟨trivial, trivial, trivial, k_⟩)
  refine w_R.br_lt (fun h1 => ?_) (fun h1 => ?_)
  · refine w_R.ret 2 (.inl (some (.int 0))) (I, J, kR w rem, Z) ?_ (fun x_ Q_ k_ => ⟨trivial, Or.inl rfl, ⟨Nat.le_of_ble_eq_true rfl, Nat.le_of_ble_eq_true rfl⟩, k_⟩)
    exact ⟨rfl, rfl⟩
  · refine w_R.go (c' := (i_br .le k 2 25 23, [(0, .ref 1), (1, .int (Int32.ofNat u)), (2, .int (Int32.ofNat j)), (3, .int k)], [], (I, J, kR w rem, Z), 0, 0)) 3 ?_ (fun m_ x_ Q_ k_ => ⟨trivial, trivial, trivial, k_⟩)
    refine w_R.br_le (fun h2 => ?_) (fun h2 => ?_)
    · exact (l_no hk h1 h2 rfl rfl).elim
    · refine w_R.ret 2 (.inl (some (.int 0))) (I, J, kR w rem, Z) ?_ (fun x_ Q_ k_ => ⟨trivial, Or.inl rfl, ⟨Nat.le_of_ble_eq_true rfl, Nat.le_of_ble_eq_true rfl⟩, k_⟩)
      exact ⟨rfl, rfl⟩
theorem b_135_2 (u : Nat) (j : Nat) (k : Int32) (hu : u < 6) (hj : j < 12) (hk : l_rg k 0 3 = false) : w_R xs Ln 135 (0, [(0, .ref 199), (1, .int (Int32.ofNat u)), (2, .int (Int32.ofNat j)), (3, .int k)], [], (I, J, kR w rem, Z), 0, 0) (fun o s => o = .inl (some (.int 0)) ∧ s = (s_up I 199 59 0, J, kR w rem, Z)) := by
  refine w_R.go (c' := (6, [(0, .ref 199), (1, .int (Int32.ofNat u)), (2, .int (Int32.ofNat j)), (3, .int k)], [.int (Int32.ofNat u)], (s_up I 199 59 0, J, kR w rem, Z), 0, 0)) 4 ?_ (fun m_ x_ Q_ k_ => ⟨trivial, trivial, ⟨sh_199, trivial⟩, trivial, k_⟩)
  refine w_R.callS (ce' := 0) (sl' := 0) (v := some (.int (s_b true))) (σ' := (s_up I 199 59 0, J, kR w rem, Z)) (as := [.int (Int32.ofNat u)]) (rest := []) (d_109N u (by omega)) ?_ rfl rfl rfl rfl rfl rfl rfl rfl rfl
  show w_R xs Ln 135 (9, [(0, .ref 199), (1, .int (Int32.ofNat u)), (2, .int (Int32.ofNat j)), (3, .int k)], [.int (s_b true)], (s_up I 199 59 0, J, kR w rem, Z), 0, 0) _
  refine w_R.go (c' := (13, [(0, .ref 199), (1, .int (Int32.ofNat u)), (2, .int (Int32.ofNat j)), (3, .int k)], [.int (Int32.ofNat j)], (s_up I 199 59 0, J, kR w rem, Z), 0, 0)) 2 ?_ (fun m_ x_ Q_ k_ => ⟨trivial, trivial, k_⟩)
  refine w_R.callS (ce' := 0) (sl' := 0) (v := some (.int (s_b true))) (σ' := (s_up I 199 59 0, J, kR w rem, Z)) (as := [.int (Int32.ofNat j)]) (rest := []) (d_107N j (by omega)) ?_ rfl rfl rfl rfl rfl rfl rfl rfl rfl
  show w_R xs Ln 135 (16, [(0, .ref 199), (1, .int (Int32.ofNat u)), (2, .int (Int32.ofNat j)), (3, .int k)], [.int (s_b true)], (s_up I 199 59 0, J, kR w rem, Z), 0, 0) _
  refine w_R.go (c' := (22, [(0, .ref 199), (1, .int (Int32.ofNat u)), (2, .int (Int32.ofNat j)), (3, .int k)], [.int 2, .int 0, .int k], (s_up I 199 59 0, J, kR w rem, Z), 0, 0)) 4 ?_ (fun m_ x_ Q_ k_ => ⟨trivial, trivial, trivial, trivial, k_⟩)
  refine w_R.callS (ce' := 0) (sl' := 0) (v := some (.int (s_b false))) (σ' := (s_up I 199 59 0, J, kR w rem, Z)) (as := [.int k, .int 0, .int 2]) (rest := []) (d_106F k 0 2 (by decide) (by decide) hk) ?_ rfl rfl rfl rfl rfl rfl rfl rfl rfl
  show w_R xs Ln 135 (25, [(0, .ref 199), (1, .int (Int32.ofNat u)), (2, .int (Int32.ofNat j)), (3, .int k)], [.int (s_b false)], (s_up I 199 59 0, J, kR w rem, Z), 0, 0) _
  refine w_R.ret 3 (.inl (some (.int 0))) (s_up I 199 59 0, J, kR w rem, Z) ?_ (fun x_ Q_ k_ => ⟨trivial, trivial, Or.inl rfl, ⟨Nat.le_of_ble_eq_true rfl, Nat.le_of_ble_eq_true rfl⟩, k_⟩)
  exact ⟨rfl, rfl⟩
def v_5 (I : Nat → Nat → Int32) (J : Nat → Nat → Int64) (Z : Nat → Nat → Bool) (u : Nat) (j : Nat) (k : Nat) : Bool := if (I (135 + u) 0) = 0 then true else if (I (135 + u) 0) = 3 then true else false
def i_5 (I : Nat → Nat → Int32) (J : Nat → Nat → Int64) (Z : Nat → Nat → Bool) (u : Nat) (j : Nat) (k : Nat) : Nat → Nat → Int32 := if (I (135 + u) 0) = 0 then s_up (s_up I (135 + u) 1 (Int32.ofNat j)) (135 + u) 2 (Int32.ofNat k) else if (I (135 + u) 0) = 3 then s_up (s_up I (135 + u) 1 (Int32.ofNat j)) (135 + u) 2 (Int32.ofNat k) else I
theorem d_5 (u : Nat) (j : Nat) (k : Nat) (hu : u < 6) (hj : j < 12) (hk : k < 3) : w_R xs Ln 5 (0, [(0, .ref 1), (1, .int (Int32.ofNat u)), (2, .int (Int32.ofNat j)), (3, .int (Int32.ofNat k))], [], (I, J, kR w rem, Z), 0, 0) (fun o s => o = .inl (some (.int (s_b (v_5 I J Z u j k)))) ∧ s = (i_5 I J Z u j k, J, kR w rem, Z)) := by
  refine w_R.go (c' := (1, [(0, .ref 1), (1, .int (Int32.ofNat u)), (2, .int (Int32.ofNat j)), (3, .int (Int32.ofNat k))], [.int (Int32.ofNat u)], (I, J, kR w rem, Z), 0, 0)) 1 ?_ (fun m_ x_ Q_ k_ => ⟨trivial, k_⟩)
  refine w_R.callS (ce' := 0) (sl' := 0) (v := some (.int (s_b true))) (σ' := (I, J, kR w rem, Z)) (as := [.int (Int32.ofNat u)]) (rest := []) (d_31N u (by omega)) ?_ rfl rfl rfl rfl rfl rfl rfl rfl rfl
  show w_R xs Ln 5 (4, [(0, .ref 1), (1, .int (Int32.ofNat u)), (2, .int (Int32.ofNat j)), (3, .int (Int32.ofNat k))], [.int (s_b true)], (I, J, kR w rem, Z), 0, 0) _
  refine w_R.go (c' := (8, [(0, .ref 1), (1, .int (Int32.ofNat u)), (2, .int (Int32.ofNat j)), (3, .int (Int32.ofNat k))], [.int (Int32.ofNat j)], (I, J, kR w rem, Z), 0, 0)) 2 ?_ (fun m_ x_ Q_ k_ => ⟨trivial, trivial, k_⟩)
  refine w_R.callS (ce' := 0) (sl' := 0) (v := some (.int (s_b true))) (σ' := (I, J, kR w rem, Z)) (as := [.int (Int32.ofNat j)]) (rest := []) (d_28N j (by omega)) ?_ rfl rfl rfl rfl rfl rfl rfl rfl rfl
  show w_R xs Ln 5 (11, [(0, .ref 1), (1, .int (Int32.ofNat u)), (2, .int (Int32.ofNat j)), (3, .int (Int32.ofNat k))], [.int (s_b true)], (I, J, kR w rem, Z), 0, 0) _
  refine w_R.go (c' := (i_br .lt (Int32.ofNat k) 0 23 18, [(0, .ref 1), (1, .int (Int32.ofNat u)), (2, .int (Int32.ofNat j)), (3, .int (Int32.ofNat k))], [], (I, J, kR w rem, Z), 0, 0)) 3 ?_ (fun m_ x_ Q_ k_ => ⟨trivial, trivial, trivial, k_⟩)
  rw [show i_br .lt (Int32.ofNat k) 0 23 18 = 18 from if_neg (mt (n_lt (a := k) (b := 0) (by omega) (by omega)).mp (by omega))]
  show w_R xs Ln 5 (18, [(0, .ref 1), (1, .int (Int32.ofNat u)), (2, .int (Int32.ofNat j)), (3, .int (Int32.ofNat k))], [], (I, J, kR w rem, Z), 0, 0) _
  refine w_R.go (c' := (i_br .le (Int32.ofNat k) 2 25 23, [(0, .ref 1), (1, .int (Int32.ofNat u)), (2, .int (Int32.ofNat j)), (3, .int (Int32.ofNat k))], [], (I, J, kR w rem, Z), 0, 0)) 3 ?_ (fun m_ x_ Q_ k_ => ⟨trivial, trivial, trivial, k_⟩)
  rw [show i_br .le (Int32.ofNat k) 2 25 23 = 25 from if_pos (Int32.not_lt.mp (mt (n_lt (a := 2) (b := k) (by omega) (by omega)).mp (by omega)))]
  show w_R xs Ln 5 (25, [(0, .ref 1), (1, .int (Int32.ofNat u)), (2, .int (Int32.ofNat j)), (3, .int (Int32.ofNat k))], [], (I, J, kR w rem, Z), 0, 0) _
  refine w_R.go (c' := (31, [(0, .ref 1), (1, .int (Int32.ofNat u)), (2, .int (Int32.ofNat j)), (3, .int (Int32.ofNat k))], [.ref (kR w rem 11 (Int32.ofNat u).toNatClampNeg)], (I, J, kR w rem, Z), 0, 0)) 4 ?_ (fun m_ x_ Q_ k_ => ⟨trivial, ⟨sh_1, (Nat.succ_ne_zero 10)⟩, trivial, ⟨⟨_, sh_11, (n_in (a := u) (by omega) (by decide))⟩, (show kR w rem 11 (Int32.ofNat u).toNatClampNeg ≠ 0 by rw [n_cl (a := u) (by omega), r_amb (w := w) (rem := rem) (u := u) (by omega)]; omega)⟩, k_⟩)
  rw [n_cl (a := u) (by omega)]
  rw [r_amb (w := w) (rem := rem) (u := u) (by omega)]
  show w_R xs Ln 5 (31, [(0, .ref 1), (1, .int (Int32.ofNat u)), (2, .int (Int32.ofNat j)), (3, .int (Int32.ofNat k))], [.ref (135 + u)], (I, J, kR w rem, Z), 0, 0) _
  refine w_R.go (c' := (i_br .eq (I (135 + u) 0) 0 52 41, [(4, .ref (135 + u)), (0, .ref 1), (1, .int (Int32.ofNat u)), (2, .int (Int32.ofNat j)), (3, .int (Int32.ofNat k))], [], (I, J, kR w rem, Z), 0, 0)) 4 ?_ (fun m_ x_ Q_ k_ => ⟨trivial, trivial, ⟨(sh_amb (by omega)), trivial⟩, trivial, k_⟩)
  refine w_R.br_eq (fun h1 => ?_) (fun h1 => ?_)
  · refine w_R.ret 8 (.inl (some (.int 1))) (s_up (s_up I (135 + u) 1 (Int32.ofNat j)) (135 + u) 2 (Int32.ofNat k), J, kR w rem, Z) ?_ (fun x_ Q_ k_ => ⟨trivial, trivial, ⟨(sh_amb (by omega)), trivial⟩, trivial, trivial, ⟨(sh_amb (by omega)), trivial⟩, trivial, Or.inr rfl, ⟨Nat.le_of_ble_eq_true rfl, Nat.le_of_ble_eq_true rfl⟩, k_⟩)
    exact ⟨by rw [show v_5 I J Z u j k = true from by unfold v_5; rw [if_pos h1]] <;> rfl, by rw [show i_5 I J Z u j k = (s_up (s_up I (135 + u) 1 (Int32.ofNat j)) (135 + u) 2 (Int32.ofNat k)) from by unfold i_5; rw [if_pos h1]]⟩
  · refine w_R.go (c' := (i_br .eq (I (135 + u) 0) 3 52 50, [(4, .ref (135 + u)), (0, .ref 1), (1, .int (Int32.ofNat u)), (2, .int (Int32.ofNat j)), (3, .int (Int32.ofNat k))], [], (I, J, kR w rem, Z), 0, 0)) 4 ?_ (fun m_ x_ Q_ k_ => ⟨trivial, ⟨(sh_amb (by omega)), trivial⟩, trivial, trivial, k_⟩)
    refine w_R.br_eq (fun h2 => ?_) (fun h2 => ?_)
    · refine w_R.ret 8 (.inl (some (.int 1))) (s_up (s_up I (135 + u) 1 (Int32.ofNat j)) (135 + u) 2 (Int32.ofNat k), J, kR w rem, Z) ?_ (fun x_ Q_ k_ => ⟨trivial, trivial, ⟨(sh_amb (by omega)), trivial⟩, trivial, trivial, ⟨(sh_amb (by omega)), trivial⟩, trivial, Or.inr rfl, ⟨Nat.le_of_ble_eq_true rfl, Nat.le_of_ble_eq_true rfl⟩, k_⟩)
      exact ⟨by rw [show v_5 I J Z u j k = true from by unfold v_5; rw [if_neg h1, if_pos h2]] <;> rfl, by rw [show i_5 I J Z u j k = (s_up (s_up I (135 + u) 1 (Int32.ofNat j)) (135 + u) 2 (Int32.ofNat k)) from by unfold i_5; rw [if_neg h1, if_pos h2]]⟩
    · refine w_R.ret 2 (.inl (some (.int 0))) (I, J, kR w rem, Z) ?_ (fun x_ Q_ k_ => ⟨trivial, Or.inl rfl, ⟨Nat.le_of_ble_eq_true rfl, Nat.le_of_ble_eq_true rfl⟩, k_⟩)
      exact ⟨by rw [show v_5 I J Z u j k = false from by unfold v_5; rw [if_neg h1, if_neg h2]] <;> rfl, by rw [show i_5 I J Z u j k = I from by unfold i_5; rw [if_neg h1, if_neg h2]]⟩
def v_135 (I : Nat → Nat → Int32) (J : Nat → Nat → Int64) (Z : Nat → Nat → Bool) (u : Nat) (j : Nat) (k : Nat) : Bool := if (I 210 u) = 0 then true else if (I 210 u) = 3 then true else false
def i_135 (I : Nat → Nat → Int32) (J : Nat → Nat → Int64) (Z : Nat → Nat → Bool) (u : Nat) (j : Nat) (k : Nat) : Nat → Nat → Int32 := if (I 210 u) = 0 then s_up (s_up (s_up I 199 59 0) 208 u (Int32.ofNat j)) 209 u (Int32.ofNat k) else if (I 210 u) = 3 then s_up (s_up (s_up I 199 59 0) 208 u (Int32.ofNat j)) 209 u (Int32.ofNat k) else s_up I 199 59 0
theorem d_135 (u : Nat) (j : Nat) (k : Nat) (hu : u < 6) (hj : j < 12) (hk : k < 3) : w_R xs Ln 135 (0, [(0, .ref 199), (1, .int (Int32.ofNat u)), (2, .int (Int32.ofNat j)), (3, .int (Int32.ofNat k))], [], (I, J, kR w rem, Z), 0, 0) (fun o s => o = .inl (some (.int (s_b (v_135 I J Z u j k)))) ∧ s = (i_135 I J Z u j k, J, kR w rem, Z)) := by
  refine w_R.go (c' := (6, [(0, .ref 199), (1, .int (Int32.ofNat u)), (2, .int (Int32.ofNat j)), (3, .int (Int32.ofNat k))], [.int (Int32.ofNat u)], (s_up I 199 59 0, J, kR w rem, Z), 0, 0)) 4 ?_ (fun m_ x_ Q_ k_ => ⟨trivial, trivial, ⟨sh_199, trivial⟩, trivial, k_⟩)
  refine w_R.callS (ce' := 0) (sl' := 0) (v := some (.int (s_b true))) (σ' := (s_up I 199 59 0, J, kR w rem, Z)) (as := [.int (Int32.ofNat u)]) (rest := []) (d_109N u (by omega)) ?_ rfl rfl rfl rfl rfl rfl rfl rfl rfl
  show w_R xs Ln 135 (9, [(0, .ref 199), (1, .int (Int32.ofNat u)), (2, .int (Int32.ofNat j)), (3, .int (Int32.ofNat k))], [.int (s_b true)], (s_up I 199 59 0, J, kR w rem, Z), 0, 0) _
  refine w_R.go (c' := (13, [(0, .ref 199), (1, .int (Int32.ofNat u)), (2, .int (Int32.ofNat j)), (3, .int (Int32.ofNat k))], [.int (Int32.ofNat j)], (s_up I 199 59 0, J, kR w rem, Z), 0, 0)) 2 ?_ (fun m_ x_ Q_ k_ => ⟨trivial, trivial, k_⟩)
  refine w_R.callS (ce' := 0) (sl' := 0) (v := some (.int (s_b true))) (σ' := (s_up I 199 59 0, J, kR w rem, Z)) (as := [.int (Int32.ofNat j)]) (rest := []) (d_107N j (by omega)) ?_ rfl rfl rfl rfl rfl rfl rfl rfl rfl
  show w_R xs Ln 135 (16, [(0, .ref 199), (1, .int (Int32.ofNat u)), (2, .int (Int32.ofNat j)), (3, .int (Int32.ofNat k))], [.int (s_b true)], (s_up I 199 59 0, J, kR w rem, Z), 0, 0) _
  refine w_R.go (c' := (22, [(0, .ref 199), (1, .int (Int32.ofNat u)), (2, .int (Int32.ofNat j)), (3, .int (Int32.ofNat k))], [.int 2, .int 0, .int (Int32.ofNat k)], (s_up I 199 59 0, J, kR w rem, Z), 0, 0)) 4 ?_ (fun m_ x_ Q_ k_ => ⟨trivial, trivial, trivial, trivial, k_⟩)
  refine w_R.callS (ce' := 0) (sl' := 0) (v := some (.int (s_b true))) (σ' := (s_up I 199 59 0, J, kR w rem, Z)) (as := [.int (Int32.ofNat k), .int 0, .int 2]) (rest := []) (d_106T k 0 2 (by omega) (by omega) (by decide)) ?_ rfl rfl rfl rfl rfl rfl rfl rfl rfl
  show w_R xs Ln 135 (25, [(0, .ref 199), (1, .int (Int32.ofNat u)), (2, .int (Int32.ofNat j)), (3, .int (Int32.ofNat k))], [.int (s_b true)], (s_up I 199 59 0, J, kR w rem, Z), 0, 0) _
  refine w_R.go (c' := (34, [(0, .ref 199), (1, .int (Int32.ofNat u)), (2, .int (Int32.ofNat j)), (3, .int (Int32.ofNat k))], [.int ((s_up I 199 59 0) 210 (Int32.ofNat u).toNatClampNeg)], (s_up I 199 59 0, J, kR w rem, Z), 0, 0)) 5 ?_ (fun m_ x_ Q_ k_ => ⟨trivial, trivial, ⟨sh_199, (Nat.succ_ne_zero 209)⟩, trivial, ⟨_, sh_210, (n_in (a := u) (by omega) (by decide))⟩, k_⟩)
  rw [n_cl (a := u) (by omega)]
  rw [show (s_up I 199 59 0) 210 u = I 210 u from (s_upa (by decide))]
  show w_R xs Ln 135 (34, [(0, .ref 199), (1, .int (Int32.ofNat u)), (2, .int (Int32.ofNat j)), (3, .int (Int32.ofNat k))], [.int (I 210 u)], (s_up I 199 59 0, J, kR w rem, Z), 0, 0) _
  refine w_R.go (c' := (i_br .eq (I 210 u) 0 49 37, [(0, .ref 199), (1, .int (Int32.ofNat u)), (2, .int (Int32.ofNat j)), (3, .int (Int32.ofNat k))], [], (s_up I 199 59 0, J, kR w rem, Z), 0, 0)) 1 ?_ (fun m_ x_ Q_ k_ => ⟨trivial, k_⟩)
  refine w_R.br_eq (fun h1 => ?_) (fun h1 => ?_)
  · refine w_R.go (c' := (56, [(0, .ref 199), (1, .int (Int32.ofNat u)), (2, .int (Int32.ofNat j)), (3, .int (Int32.ofNat k))], [], (s_up (s_up I 199 59 0) 208 ((Int32.ofNat u).toNatClampNeg) (Int32.ofNat j), J, kR w rem, Z), 0, 0)) 5 ?_ (fun m_ x_ Q_ k_ => ⟨trivial, ⟨sh_199, (Nat.succ_ne_zero 207)⟩, trivial, trivial, ⟨_, sh_208, (n_in (a := u) (by omega) (by decide))⟩, k_⟩)
    rw [n_cl (a := u) (by omega)]
    show w_R xs Ln 135 (56, [(0, .ref 199), (1, .int (Int32.ofNat u)), (2, .int (Int32.ofNat j)), (3, .int (Int32.ofNat k))], [], (s_up (s_up I 199 59 0) 208 u (Int32.ofNat j), J, kR w rem, Z), 0, 0) _
    refine w_R.go (c' := (63, [(0, .ref 199), (1, .int (Int32.ofNat u)), (2, .int (Int32.ofNat j)), (3, .int (Int32.ofNat k))], [], (s_up (s_up (s_up I 199 59 0) 208 u (Int32.ofNat j)) 209 ((Int32.ofNat u).toNatClampNeg) (Int32.ofNat k), J, kR w rem, Z), 0, 0)) 5 ?_ (fun m_ x_ Q_ k_ => ⟨trivial, ⟨sh_199, (Nat.succ_ne_zero 208)⟩, trivial, trivial, ⟨_, sh_209, (n_in (a := u) (by omega) (by decide))⟩, k_⟩)
    rw [n_cl (a := u) (by omega)]
    show w_R xs Ln 135 (63, [(0, .ref 199), (1, .int (Int32.ofNat u)), (2, .int (Int32.ofNat j)), (3, .int (Int32.ofNat k))], [], (s_up (s_up (s_up I 199 59 0) 208 u (Int32.ofNat j)) 209 u (Int32.ofNat k), J, kR w rem, Z), 0, 0) _
    refine w_R.ret 2 (.inl (some (.int 1))) (s_up (s_up (s_up I 199 59 0) 208 u (Int32.ofNat j)) 209 u (Int32.ofNat k), J, kR w rem, Z) ?_ (fun x_ Q_ k_ => ⟨trivial, Or.inr rfl, ⟨Nat.le_of_ble_eq_true rfl, Nat.le_of_ble_eq_true rfl⟩, k_⟩)
    exact ⟨by rw [show v_135 I J Z u j k = true from by unfold v_135; rw [if_pos h1]] <;> rfl, by rw [show i_135 I J Z u j k = (s_up (s_up (s_up I 199 59 0) 208 u (Int32.ofNat j)) 209 u (Int32.ofNat k)) from by unfold i_135; rw [if_pos h1]]⟩
  · refine w_R.go (c' := (43, [(0, .ref 199), (1, .int (Int32.ofNat u)), (2, .int (Int32.ofNat j)), (3, .int (Int32.ofNat k))], [.int ((s_up I 199 59 0) 210 (Int32.ofNat u).toNatClampNeg)], (s_up I 199 59 0, J, kR w rem, Z), 0, 0)) 4 ?_ (fun m_ x_ Q_ k_ => ⟨trivial, ⟨sh_199, (Nat.succ_ne_zero 209)⟩, trivial, ⟨_, sh_210, (n_in (a := u) (by omega) (by decide))⟩, k_⟩)
    rw [n_cl (a := u) (by omega)]
    rw [show (s_up I 199 59 0) 210 u = I 210 u from (s_upa (by decide))]
    show w_R xs Ln 135 (43, [(0, .ref 199), (1, .int (Int32.ofNat u)), (2, .int (Int32.ofNat j)), (3, .int (Int32.ofNat k))], [.int (I 210 u)], (s_up I 199 59 0, J, kR w rem, Z), 0, 0) _
    refine w_R.go (c' := (i_br .eq (I 210 u) 3 49 47, [(0, .ref 199), (1, .int (Int32.ofNat u)), (2, .int (Int32.ofNat j)), (3, .int (Int32.ofNat k))], [], (s_up I 199 59 0, J, kR w rem, Z), 0, 0)) 2 ?_ (fun m_ x_ Q_ k_ => ⟨trivial, trivial, k_⟩)
    refine w_R.br_eq (fun h2 => ?_) (fun h2 => ?_)
    · refine w_R.go (c' := (56, [(0, .ref 199), (1, .int (Int32.ofNat u)), (2, .int (Int32.ofNat j)), (3, .int (Int32.ofNat k))], [], (s_up (s_up I 199 59 0) 208 ((Int32.ofNat u).toNatClampNeg) (Int32.ofNat j), J, kR w rem, Z), 0, 0)) 5 ?_ (fun m_ x_ Q_ k_ => ⟨trivial, ⟨sh_199, (Nat.succ_ne_zero 207)⟩, trivial, trivial, ⟨_, sh_208, (n_in (a := u) (by omega) (by decide))⟩, k_⟩)
      rw [n_cl (a := u) (by omega)]
      show w_R xs Ln 135 (56, [(0, .ref 199), (1, .int (Int32.ofNat u)), (2, .int (Int32.ofNat j)), (3, .int (Int32.ofNat k))], [], (s_up (s_up I 199 59 0) 208 u (Int32.ofNat j), J, kR w rem, Z), 0, 0) _
      refine w_R.go (c' := (63, [(0, .ref 199), (1, .int (Int32.ofNat u)), (2, .int (Int32.ofNat j)), (3, .int (Int32.ofNat k))], [], (s_up (s_up (s_up I 199 59 0) 208 u (Int32.ofNat j)) 209 ((Int32.ofNat u).toNatClampNeg) (Int32.ofNat k), J, kR w rem, Z), 0, 0)) 5 ?_ (fun m_ x_ Q_ k_ => ⟨trivial, ⟨sh_199, (Nat.succ_ne_zero 208)⟩, trivial, trivial, ⟨_, sh_209, (n_in (a := u) (by omega) (by decide))⟩, k_⟩)
      rw [n_cl (a := u) (by omega)]
      show w_R xs Ln 135 (63, [(0, .ref 199), (1, .int (Int32.ofNat u)), (2, .int (Int32.ofNat j)), (3, .int (Int32.ofNat k))], [], (s_up (s_up (s_up I 199 59 0) 208 u (Int32.ofNat j)) 209 u (Int32.ofNat k), J, kR w rem, Z), 0, 0) _
      refine w_R.ret 2 (.inl (some (.int 1))) (s_up (s_up (s_up I 199 59 0) 208 u (Int32.ofNat j)) 209 u (Int32.ofNat k), J, kR w rem, Z) ?_ (fun x_ Q_ k_ => ⟨trivial, Or.inr rfl, ⟨Nat.le_of_ble_eq_true rfl, Nat.le_of_ble_eq_true rfl⟩, k_⟩)
      exact ⟨by rw [show v_135 I J Z u j k = true from by unfold v_135; rw [if_neg h1, if_pos h2]] <;> rfl, by rw [show i_135 I J Z u j k = (s_up (s_up (s_up I 199 59 0) 208 u (Int32.ofNat j)) 209 u (Int32.ofNat k)) from by unfold i_135; rw [if_neg h1, if_pos h2]]⟩
    · refine w_R.ret 2 (.inl (some (.int 0))) (s_up I 199 59 0, J, kR w rem, Z) ?_ (fun x_ Q_ k_ => ⟨trivial, Or.inl rfl, ⟨Nat.le_of_ble_eq_true rfl, Nat.le_of_ble_eq_true rfl⟩, k_⟩)
      exact ⟨by rw [show v_135 I J Z u j k = false from by unfold v_135; rw [if_neg h1, if_neg h2]] <;> rfl, by rw [show i_135 I J Z u j k = (s_up I 199 59 0) from by unfold i_135; rw [if_neg h1, if_neg h2]]⟩
def v_140 (I : Nat → Nat → Int32) (J : Nat → Nat → Int64) (Z : Nat → Nat → Bool) (r : Nat) (d : Nat) : Int32 := if (Z 217 r) = true then 0 else if 0 < (I 221 ((4 * r) + d)) then if (lg_cmp ((J 215 r) - (J 223 ((4 * r) + d))) 2000) < 0 then I 221 ((4 * r) + d) else 0 else 0
theorem d_140 (r : Nat) (d : Nat) (hr : r < 2) (hd : d < 4) : w_R xs Ln 140 (0, [(0, .ref 199), (1, .int (Int32.ofNat r)), (2, .int (Int32.ofNat d))], [], (I, J, kR w rem, Z), 0, 0) (fun o s => o = .inl (some (.int (v_140 I J Z r d))) ∧ s = (I, J, kR w rem, Z)) := by
  refine w_R.go (c' := (3, [(0, .ref 199), (1, .int (Int32.ofNat r)), (2, .int (Int32.ofNat d))], [.int (Int32.ofNat 4 * Int32.ofNat r)], (I, J, kR w rem, Z), 0, 0)) 3 ?_ (fun m_ x_ Q_ k_ => ⟨trivial, trivial, trivial, k_⟩)
  rw [n_mul 4 r]
  show w_R xs Ln 140 (3, [(0, .ref 199), (1, .int (Int32.ofNat r)), (2, .int (Int32.ofNat d))], [.int (Int32.ofNat (4 * r))], (I, J, kR w rem, Z), 0, 0) _
  refine w_R.go (c' := (5, [(0, .ref 199), (1, .int (Int32.ofNat r)), (2, .int (Int32.ofNat d))], [.int (Int32.ofNat (4 * r) + Int32.ofNat d)], (I, J, kR w rem, Z), 0, 0)) 2 ?_ (fun m_ x_ Q_ k_ => ⟨trivial, trivial, k_⟩)
  rw [n_add (4 * r) d]
  show w_R xs Ln 140 (5, [(0, .ref 199), (1, .int (Int32.ofNat r)), (2, .int (Int32.ofNat d))], [.int (Int32.ofNat ((4 * r) + d))], (I, J, kR w rem, Z), 0, 0) _
  refine w_R.go (c' := (12, [(3, .int (Int32.ofNat ((4 * r) + d))), (0, .ref 199), (1, .int (Int32.ofNat r)), (2, .int (Int32.ofNat d))], [.int (s_b (Z 217 (Int32.ofNat r).toNatClampNeg))], (I, J, kR w rem, Z), 0, 0)) 5 ?_ (fun m_ x_ Q_ k_ => ⟨trivial, trivial, ⟨sh_199, (Nat.succ_ne_zero 216)⟩, trivial, ⟨_, sh_217, (n_in (a := r) (by omega) (by decide))⟩, k_⟩)
  rw [n_cl (a := r) (by omega)]
  show w_R xs Ln 140 (12, [(3, .int (Int32.ofNat ((4 * r) + d))), (0, .ref 199), (1, .int (Int32.ofNat r)), (2, .int (Int32.ofNat d))], [.int (s_b (Z 217 r))], (I, J, kR w rem, Z), 0, 0) _
  refine w_R.go (c' := (i_br .ne (s_b (Z 217 r)) 0 53 15, [(3, .int (Int32.ofNat ((4 * r) + d))), (0, .ref 199), (1, .int (Int32.ofNat r)), (2, .int (Int32.ofNat d))], [], (I, J, kR w rem, Z), 0, 0)) 1 ?_ (fun m_ x_ Q_ k_ => ⟨trivial, k_⟩)
  refine w_R.br_nz (fun h1 => ?_) (fun h1 => ?_)
  · refine w_R.ret 2 (.inl (some (.int 0))) (I, J, kR w rem, Z) ?_ (fun x_ Q_ k_ => ⟨trivial, trivial, ⟨Nat.le_of_ble_eq_true rfl, Nat.le_of_ble_eq_true rfl⟩, k_⟩)
    exact ⟨by rw [show v_140 I J Z r d = 0 from by unfold v_140; rw [if_pos h1]] <;> rfl, rfl⟩
  · replace h1 := Bool.eq_false_iff.mp h1
    refine w_R.go (c' := (21, [(3, .int (Int32.ofNat ((4 * r) + d))), (0, .ref 199), (1, .int (Int32.ofNat r)), (2, .int (Int32.ofNat d))], [.int (I 221 (Int32.ofNat ((4 * r) + d)).toNatClampNeg)], (I, J, kR w rem, Z), 0, 0)) 4 ?_ (fun m_ x_ Q_ k_ => ⟨trivial, ⟨sh_199, (Nat.succ_ne_zero 220)⟩, trivial, ⟨_, sh_221, (n_in (a := (4 * r) + d) (by omega) (by decide))⟩, k_⟩)
    rw [n_cl (a := (4 * r) + d) (by omega)]
    show w_R xs Ln 140 (21, [(3, .int (Int32.ofNat ((4 * r) + d))), (0, .ref 199), (1, .int (Int32.ofNat r)), (2, .int (Int32.ofNat d))], [.int (I 221 ((4 * r) + d))], (I, J, kR w rem, Z), 0, 0) _
    refine w_R.go (c' := (i_br .le (I 221 ((4 * r) + d)) 0 53 24, [(3, .int (Int32.ofNat ((4 * r) + d))), (0, .ref 199), (1, .int (Int32.ofNat r)), (2, .int (Int32.ofNat d))], [], (I, J, kR w rem, Z), 0, 0)) 1 ?_ (fun m_ x_ Q_ k_ => ⟨trivial, k_⟩)
    refine w_R.br_le (fun h2 => ?_) (fun h2 => ?_)
    · refine w_R.ret 2 (.inl (some (.int 0))) (I, J, kR w rem, Z) ?_ (fun x_ Q_ k_ => ⟨trivial, trivial, ⟨Nat.le_of_ble_eq_true rfl, Nat.le_of_ble_eq_true rfl⟩, k_⟩)
      exact ⟨by rw [show v_140 I J Z r d = 0 from by unfold v_140; rw [if_neg h1, if_neg h2]] <;> rfl, rfl⟩
    · refine w_R.go (c' := (30, [(3, .int (Int32.ofNat ((4 * r) + d))), (0, .ref 199), (1, .int (Int32.ofNat r)), (2, .int (Int32.ofNat d))], [.long (J 215 (Int32.ofNat r).toNatClampNeg)], (I, J, kR w rem, Z), 0, 0)) 4 ?_ (fun m_ x_ Q_ k_ => ⟨trivial, ⟨sh_199, (Nat.succ_ne_zero 214)⟩, trivial, ⟨_, sh_215, (n_in (a := r) (by omega) (by decide))⟩, k_⟩)
      rw [n_cl (a := r) (by omega)]
      show w_R xs Ln 140 (30, [(3, .int (Int32.ofNat ((4 * r) + d))), (0, .ref 199), (1, .int (Int32.ofNat r)), (2, .int (Int32.ofNat d))], [.long (J 215 r)], (I, J, kR w rem, Z), 0, 0) _
      refine w_R.go (c' := (36, [(3, .int (Int32.ofNat ((4 * r) + d))), (0, .ref 199), (1, .int (Int32.ofNat r)), (2, .int (Int32.ofNat d))], [.long (J 223 (Int32.ofNat ((4 * r) + d)).toNatClampNeg), .long (J 215 r)], (I, J, kR w rem, Z), 0, 0)) 4 ?_ (fun m_ x_ Q_ k_ => ⟨trivial, ⟨sh_199, (Nat.succ_ne_zero 222)⟩, trivial, ⟨_, sh_223, (n_in (a := (4 * r) + d) (by omega) (by decide))⟩, k_⟩)
      rw [n_cl (a := (4 * r) + d) (by omega)]
      show w_R xs Ln 140 (36, [(3, .int (Int32.ofNat ((4 * r) + d))), (0, .ref 199), (1, .int (Int32.ofNat r)), (2, .int (Int32.ofNat d))], [.long (J 223 ((4 * r) + d)), .long (J 215 r)], (I, J, kR w rem, Z), 0, 0) _
      refine w_R.go (c' := (i_br .ge (lg_cmp ((J 215 r) - (J 223 ((4 * r) + d))) 2000) 0 53 44, [(3, .int (Int32.ofNat ((4 * r) + d))), (0, .ref 199), (1, .int (Int32.ofNat r)), (2, .int (Int32.ofNat d))], [], (I, J, kR w rem, Z), 0, 0)) 4 ?_ (fun m_ x_ Q_ k_ => ⟨trivial, trivial, trivial, trivial, k_⟩)
      refine w_R.br_ge (fun h3 => ?_) (fun h3 => ?_)
      · refine w_R.ret 2 (.inl (some (.int 0))) (I, J, kR w rem, Z) ?_ (fun x_ Q_ k_ => ⟨trivial, trivial, ⟨Nat.le_of_ble_eq_true rfl, Nat.le_of_ble_eq_true rfl⟩, k_⟩)
        exact ⟨by rw [show v_140 I J Z r d = 0 from by unfold v_140; rw [if_neg h1, if_pos h2, if_neg h3]] <;> rfl, rfl⟩
      · refine w_R.go (c' := (50, [(3, .int (Int32.ofNat ((4 * r) + d))), (0, .ref 199), (1, .int (Int32.ofNat r)), (2, .int (Int32.ofNat d))], [.int (I 221 (Int32.ofNat ((4 * r) + d)).toNatClampNeg)], (I, J, kR w rem, Z), 0, 0)) 4 ?_ (fun m_ x_ Q_ k_ => ⟨trivial, ⟨sh_199, (Nat.succ_ne_zero 220)⟩, trivial, ⟨_, sh_221, (n_in (a := (4 * r) + d) (by omega) (by decide))⟩, k_⟩)
        rw [n_cl (a := (4 * r) + d) (by omega)]
        show w_R xs Ln 140 (50, [(3, .int (Int32.ofNat ((4 * r) + d))), (0, .ref 199), (1, .int (Int32.ofNat r)), (2, .int (Int32.ofNat d))], [.int (I 221 ((4 * r) + d))], (I, J, kR w rem, Z), 0, 0) _
        refine w_R.ret 2 (.inl (some (.int (I 221 ((4 * r) + d))))) (I, J, kR w rem, Z) ?_ (fun x_ Q_ k_ => ⟨trivial, trivial, ⟨Nat.le_of_ble_eq_true rfl, Nat.le_of_ble_eq_true rfl⟩, k_⟩)
        exact ⟨by rw [show v_140 I J Z r d = (I 221 ((4 * r) + d)) from by unfold v_140; rw [if_neg h1, if_pos h2, if_pos h3]] <;> rfl, rfl⟩
theorem b_10_0 (r : Int32) (d : Int32) (hr : l_rg r 0 2 = false) : w_R xs Ln 10 (0, [(0, .ref 1), (1, .int r), (2, .int d)], [], (I, J, kR w rem, Z), 0, 0) (fun o s => o = .inl (some (.int 0)) ∧ s = (I, J, kR w rem, Z)) := by
  refine w_R.go (c' := (1, [(0, .ref 1), (1, .int r), (2, .int d)], [.int r], (I, J, kR w rem, Z), 0, 0)) 1 ?_ (fun m_ x_ Q_ k_ => ⟨trivial, k_⟩)
  refine w_R.callS (ce' := 0) (sl' := 0) (v := some (.int (s_b false))) (σ' := (I, J, kR w rem, Z)) (as := [.int r]) (rest := []) (d_32F r hr) ?_ rfl rfl rfl rfl rfl rfl rfl rfl rfl
  show w_R xs Ln 10 (4, [(0, .ref 1), (1, .int r), (2, .int d)], [.int (s_b false)], (I, J, kR w rem, Z), 0, 0) _
  refine w_R.ret 3 (.inl (some (.int 0))) (I, J, kR w rem, Z) ?_ (fun x_ Q_ k_ => ⟨trivial, trivial, trivial, ⟨Nat.le_of_ble_eq_true rfl, Nat.le_of_ble_eq_true rfl⟩, k_⟩)
  exact ⟨rfl, rfl⟩
theorem b_141_0 (r : Int32) (d : Int32) (hr : l_rg r 0 2 = false) : w_R xs Ln 141 (0, [(0, .ref 199), (1, .int r), (2, .int d)], [], (I, J, kR w rem, Z), 0, 0) (fun o s => o = .inl (some (.int 0)) ∧ s = (s_up I 199 59 0, J, kR w rem, Z)) := by
  refine w_R.go (c' := (6, [(0, .ref 199), (1, .int r), (2, .int d)], [.int r], (s_up I 199 59 0, J, kR w rem, Z), 0, 0)) 4 ?_ (fun m_ x_ Q_ k_ => ⟨trivial, trivial, ⟨sh_199, trivial⟩, trivial, k_⟩)
  refine w_R.callS (ce' := 0) (sl' := 0) (v := some (.int (s_b false))) (σ' := (s_up I 199 59 0, J, kR w rem, Z)) (as := [.int r]) (rest := []) (d_108F r hr) ?_ rfl rfl rfl rfl rfl rfl rfl rfl rfl
  show w_R xs Ln 141 (9, [(0, .ref 199), (1, .int r), (2, .int d)], [.int (s_b false)], (s_up I 199 59 0, J, kR w rem, Z), 0, 0) _
  refine w_R.ret 3 (.inl (some (.int 0))) (s_up I 199 59 0, J, kR w rem, Z) ?_ (fun x_ Q_ k_ => ⟨trivial, trivial, trivial, ⟨Nat.le_of_ble_eq_true rfl, Nat.le_of_ble_eq_true rfl⟩, k_⟩)
  exact ⟨rfl, rfl⟩
theorem b_10_1 (r : Nat) (d : Int32) (hr : r < 2) (hd : l_rg d 0 4 = false) : w_R xs Ln 10 (0, [(0, .ref 1), (1, .int (Int32.ofNat r)), (2, .int d)], [], (I, J, kR w rem, Z), 0, 0) (fun o s => o = .inl (some (.int 0)) ∧ s = (I, J, kR w rem, Z)) := by
  refine w_R.go (c' := (1, [(0, .ref 1), (1, .int (Int32.ofNat r)), (2, .int d)], [.int (Int32.ofNat r)], (I, J, kR w rem, Z), 0, 0)) 1 ?_ (fun m_ x_ Q_ k_ => ⟨trivial, k_⟩)
  refine w_R.callS (ce' := 0) (sl' := 0) (v := some (.int (s_b true))) (σ' := (I, J, kR w rem, Z)) (as := [.int (Int32.ofNat r)]) (rest := []) (d_32N r (by omega)) ?_ rfl rfl rfl rfl rfl rfl rfl rfl rfl
  show w_R xs Ln 10 (4, [(0, .ref 1), (1, .int (Int32.ofNat r)), (2, .int d)], [.int (s_b true)], (I, J, kR w rem, Z), 0, 0) _
  refine w_R.go (c' := (8, [(0, .ref 1), (1, .int (Int32.ofNat r)), (2, .int d)], [.int d], (I, J, kR w rem, Z), 0, 0)) 2 ?_ (fun m_ x_ Q_ k_ => ⟨trivial, trivial, k_⟩)
  refine w_R.callS (ce' := 0) (sl' := 0) (v := some (.int (s_b false))) (σ' := (I, J, kR w rem, Z)) (as := [.int d]) (rest := []) (d_29F d hd) ?_ rfl rfl rfl rfl rfl rfl rfl rfl rfl
  show w_R xs Ln 10 (11, [(0, .ref 1), (1, .int (Int32.ofNat r)), (2, .int d)], [.int (s_b false)], (I, J, kR w rem, Z), 0, 0) _
  refine w_R.ret 3 (.inl (some (.int 0))) (I, J, kR w rem, Z) ?_ (fun x_ Q_ k_ => ⟨trivial, trivial, trivial, ⟨Nat.le_of_ble_eq_true rfl, Nat.le_of_ble_eq_true rfl⟩, k_⟩)
  exact ⟨rfl, rfl⟩
theorem b_141_1 (r : Nat) (d : Int32) (hr : r < 2) (hd : l_rg d 0 4 = false) : w_R xs Ln 141 (0, [(0, .ref 199), (1, .int (Int32.ofNat r)), (2, .int d)], [], (I, J, kR w rem, Z), 0, 0) (fun o s => o = .inl (some (.int 0)) ∧ s = (s_up I 199 59 0, J, kR w rem, Z)) := by
  refine w_R.go (c' := (6, [(0, .ref 199), (1, .int (Int32.ofNat r)), (2, .int d)], [.int (Int32.ofNat r)], (s_up I 199 59 0, J, kR w rem, Z), 0, 0)) 4 ?_ (fun m_ x_ Q_ k_ => ⟨trivial, trivial, ⟨sh_199, trivial⟩, trivial, k_⟩)
  refine w_R.callS (ce' := 0) (sl' := 0) (v := some (.int (s_b true))) (σ' := (s_up I 199 59 0, J, kR w rem, Z)) (as := [.int (Int32.ofNat r)]) (rest := []) (d_108N r (by omega)) ?_ rfl rfl rfl rfl rfl rfl rfl rfl rfl
  show w_R xs Ln 141 (9, [(0, .ref 199), (1, .int (Int32.ofNat r)), (2, .int d)], [.int (s_b true)], (s_up I 199 59 0, J, kR w rem, Z), 0, 0) _
  refine w_R.go (c' := (13, [(0, .ref 199), (1, .int (Int32.ofNat r)), (2, .int d)], [.int d], (s_up I 199 59 0, J, kR w rem, Z), 0, 0)) 2 ?_ (fun m_ x_ Q_ k_ => ⟨trivial, trivial, k_⟩)
  refine w_R.callS (ce' := 0) (sl' := 0) (v := some (.int (s_b false))) (σ' := (s_up I 199 59 0, J, kR w rem, Z)) (as := [.int d]) (rest := []) (d_110F d hd) ?_ rfl rfl rfl rfl rfl rfl rfl rfl rfl
  show w_R xs Ln 141 (16, [(0, .ref 199), (1, .int (Int32.ofNat r)), (2, .int d)], [.int (s_b false)], (s_up I 199 59 0, J, kR w rem, Z), 0, 0) _
  refine w_R.ret 3 (.inl (some (.int 0))) (s_up I 199 59 0, J, kR w rem, Z) ?_ (fun x_ Q_ k_ => ⟨trivial, trivial, trivial, ⟨Nat.le_of_ble_eq_true rfl, Nat.le_of_ble_eq_true rfl⟩, k_⟩)
  exact ⟨rfl, rfl⟩
def v_10 (I : Nat → Nat → Int32) (J : Nat → Nat → Int64) (Z : Nat → Nat → Bool) (r : Nat) (d : Nat) : Int32 := v_92 I J Z r d
theorem d_10 (r : Nat) (d : Nat) (hr : r < 2) (hd : d < 4) : w_R xs Ln 10 (0, [(0, .ref 1), (1, .int (Int32.ofNat r)), (2, .int (Int32.ofNat d))], [], (I, J, kR w rem, Z), 0, 0) (fun o s => o = .inl (some (.int (v_10 I J Z r d))) ∧ s = (I, J, kR w rem, Z)) := by
  refine w_R.go (c' := (1, [(0, .ref 1), (1, .int (Int32.ofNat r)), (2, .int (Int32.ofNat d))], [.int (Int32.ofNat r)], (I, J, kR w rem, Z), 0, 0)) 1 ?_ (fun m_ x_ Q_ k_ => ⟨trivial, k_⟩)
  refine w_R.callS (ce' := 0) (sl' := 0) (v := some (.int (s_b true))) (σ' := (I, J, kR w rem, Z)) (as := [.int (Int32.ofNat r)]) (rest := []) (d_32N r (by omega)) ?_ rfl rfl rfl rfl rfl rfl rfl rfl rfl
  show w_R xs Ln 10 (4, [(0, .ref 1), (1, .int (Int32.ofNat r)), (2, .int (Int32.ofNat d))], [.int (s_b true)], (I, J, kR w rem, Z), 0, 0) _
  refine w_R.go (c' := (8, [(0, .ref 1), (1, .int (Int32.ofNat r)), (2, .int (Int32.ofNat d))], [.int (Int32.ofNat d)], (I, J, kR w rem, Z), 0, 0)) 2 ?_ (fun m_ x_ Q_ k_ => ⟨trivial, trivial, k_⟩)
  refine w_R.callS (ce' := 0) (sl' := 0) (v := some (.int (s_b true))) (σ' := (I, J, kR w rem, Z)) (as := [.int (Int32.ofNat d)]) (rest := []) (d_29N d (by omega)) ?_ rfl rfl rfl rfl rfl rfl rfl rfl rfl
  show w_R xs Ln 10 (11, [(0, .ref 1), (1, .int (Int32.ofNat r)), (2, .int (Int32.ofNat d))], [.int (s_b true)], (I, J, kR w rem, Z), 0, 0) _
  refine w_R.go (c' := (20, [(0, .ref 1), (1, .int (Int32.ofNat r)), (2, .int (Int32.ofNat d))], [.ref (kR w rem 12 (Int32.ofNat r).toNatClampNeg)], (I, J, kR w rem, Z), 0, 0)) 5 ?_ (fun m_ x_ Q_ k_ => ⟨trivial, trivial, ⟨sh_1, (Nat.succ_ne_zero 11)⟩, trivial, ⟨⟨_, sh_12, (n_in (a := r) (by omega) (by decide))⟩, (show kR w rem 12 (Int32.ofNat r).toNatClampNeg ≠ 0 by rw [n_cl (a := r) (by omega), r_room (w := w) (rem := rem) (r := r) (by omega)]; omega)⟩, k_⟩)
  rw [n_cl (a := r) (by omega)]
  rw [r_room (w := w) (rem := rem) (r := r) (by omega)]
  show w_R xs Ln 10 (20, [(0, .ref 1), (1, .int (Int32.ofNat r)), (2, .int (Int32.ofNat d))], [.ref (141 + 29 * r)], (I, J, kR w rem, Z), 0, 0) _
  refine w_R.go (c' := (21, [(0, .ref 1), (1, .int (Int32.ofNat r)), (2, .int (Int32.ofNat d))], [.int (Int32.ofNat d), .ref (141 + 29 * r)], (I, J, kR w rem, Z), 0, 0)) 1 ?_ (fun m_ x_ Q_ k_ => ⟨trivial, k_⟩)
  refine w_R.callV (ce' := 0) (sl' := 0) (v := some (.int (v_92 I J Z r d))) (σ' := (I, J, kR w rem, Z)) (as := [.ref (141 + 29 * r), .int (Int32.ofNat d)]) (rest := []) (d_92 r d (by omega) (by omega)) ?_ rfl rfl rfl rfl rfl (sh_room (by omega)) rfl rfl rfl rfl
  show w_R xs Ln 10 (24, [(0, .ref 1), (1, .int (Int32.ofNat r)), (2, .int (Int32.ofNat d))], [.int (v_92 I J Z r d)], (I, J, kR w rem, Z), 0, 0) _
  refine w_R.ret 2 (.inl (some (.int (v_92 I J Z r d)))) (I, J, kR w rem, Z) ?_ (fun x_ Q_ k_ => ⟨trivial, trivial, ⟨Nat.le_of_ble_eq_true rfl, Nat.le_of_ble_eq_true rfl⟩, k_⟩)
  exact ⟨by rw [show v_10 I J Z r d = (v_92 I J Z r d) from by unfold v_10; rfl] <;> rfl, rfl⟩
def v_141 (I : Nat → Nat → Int32) (J : Nat → Nat → Int64) (Z : Nat → Nat → Bool) (r : Nat) (d : Nat) : Int32 := v_140 (s_up I 199 59 0) J Z r d
def i_141 (I : Nat → Nat → Int32) (J : Nat → Nat → Int64) (Z : Nat → Nat → Bool) (r : Nat) (d : Nat) : Nat → Nat → Int32 := s_up I 199 59 0
theorem d_141 (r : Nat) (d : Nat) (hr : r < 2) (hd : d < 4) : w_R xs Ln 141 (0, [(0, .ref 199), (1, .int (Int32.ofNat r)), (2, .int (Int32.ofNat d))], [], (I, J, kR w rem, Z), 0, 0) (fun o s => o = .inl (some (.int (v_141 I J Z r d))) ∧ s = (i_141 I J Z r d, J, kR w rem, Z)) := by
  refine w_R.go (c' := (6, [(0, .ref 199), (1, .int (Int32.ofNat r)), (2, .int (Int32.ofNat d))], [.int (Int32.ofNat r)], (s_up I 199 59 0, J, kR w rem, Z), 0, 0)) 4 ?_ (fun m_ x_ Q_ k_ => ⟨trivial, trivial, ⟨sh_199, trivial⟩, trivial, k_⟩)
  refine w_R.callS (ce' := 0) (sl' := 0) (v := some (.int (s_b true))) (σ' := (s_up I 199 59 0, J, kR w rem, Z)) (as := [.int (Int32.ofNat r)]) (rest := []) (d_108N r (by omega)) ?_ rfl rfl rfl rfl rfl rfl rfl rfl rfl
  show w_R xs Ln 141 (9, [(0, .ref 199), (1, .int (Int32.ofNat r)), (2, .int (Int32.ofNat d))], [.int (s_b true)], (s_up I 199 59 0, J, kR w rem, Z), 0, 0) _
  refine w_R.go (c' := (13, [(0, .ref 199), (1, .int (Int32.ofNat r)), (2, .int (Int32.ofNat d))], [.int (Int32.ofNat d)], (s_up I 199 59 0, J, kR w rem, Z), 0, 0)) 2 ?_ (fun m_ x_ Q_ k_ => ⟨trivial, trivial, k_⟩)
  refine w_R.callS (ce' := 0) (sl' := 0) (v := some (.int (s_b true))) (σ' := (s_up I 199 59 0, J, kR w rem, Z)) (as := [.int (Int32.ofNat d)]) (rest := []) (d_110N d (by omega)) ?_ rfl rfl rfl rfl rfl rfl rfl rfl rfl
  show w_R xs Ln 141 (16, [(0, .ref 199), (1, .int (Int32.ofNat r)), (2, .int (Int32.ofNat d))], [.int (s_b true)], (s_up I 199 59 0, J, kR w rem, Z), 0, 0) _
  refine w_R.go (c' := (22, [(0, .ref 199), (1, .int (Int32.ofNat r)), (2, .int (Int32.ofNat d))], [.int (Int32.ofNat d), .int (Int32.ofNat r), .ref 199], (s_up I 199 59 0, J, kR w rem, Z), 0, 0)) 4 ?_ (fun m_ x_ Q_ k_ => ⟨trivial, trivial, trivial, trivial, k_⟩)
  refine w_R.callV (ce' := 0) (sl' := 0) (v := some (.int (v_140 (s_up I 199 59 0) J Z r d))) (σ' := (s_up I 199 59 0, J, kR w rem, Z)) (as := [.ref 199, .int (Int32.ofNat r), .int (Int32.ofNat d)]) (rest := []) (d_140 r d (by omega) (by omega)) ?_ rfl rfl rfl rfl rfl sh_199 rfl rfl rfl rfl
  show w_R xs Ln 141 (25, [(0, .ref 199), (1, .int (Int32.ofNat r)), (2, .int (Int32.ofNat d))], [.int (v_140 (s_up I 199 59 0) J Z r d)], (s_up I 199 59 0, J, kR w rem, Z), 0, 0) _
  refine w_R.ret 2 (.inl (some (.int (v_140 (s_up I 199 59 0) J Z r d)))) (s_up I 199 59 0, J, kR w rem, Z) ?_ (fun x_ Q_ k_ => ⟨trivial, trivial, ⟨Nat.le_of_ble_eq_true rfl, Nat.le_of_ble_eq_true rfl⟩, k_⟩)
  exact ⟨by rw [show v_141 I J Z r d = (v_140 (s_up I 199 59 0) J Z r d) from by unfold v_141; rfl] <;> rfl, by rw [show i_141 I J Z r d = (s_up I 199 59 0) from by unfold i_141; rfl]⟩
theorem b_26_0 (r : Int32) (u : Int32) (x : Int32) (hr : l_rg r 0 2 = false) : w_R xs Ln 26 (0, [(0, .ref 1), (1, .int r), (2, .int u), (3, .int x)], [], (I, J, kR w rem, Z), 0, 0) (fun o s => o = .inl (some (.int (-1))) ∧ s = (I, J, kR w rem, Z)) := by
  refine w_R.go (c' := (1, [(0, .ref 1), (1, .int r), (2, .int u), (3, .int x)], [.int r], (I, J, kR w rem, Z), 0, 0)) 1 ?_ (fun m_ x_ Q_ k_ => ⟨trivial, k_⟩)
  refine w_R.callS (ce' := 0) (sl' := 0) (v := some (.int (s_b false))) (σ' := (I, J, kR w rem, Z)) (as := [.int r]) (rest := []) (d_32F r hr) ?_ rfl rfl rfl rfl rfl rfl rfl rfl rfl
  show w_R xs Ln 26 (4, [(0, .ref 1), (1, .int r), (2, .int u), (3, .int x)], [.int (s_b false)], (I, J, kR w rem, Z), 0, 0) _
  refine w_R.ret 3 (.inl (some (.int (-1)))) (I, J, kR w rem, Z) ?_ (fun x_ Q_ k_ => ⟨trivial, trivial, trivial, ⟨Nat.le_of_ble_eq_true rfl, Nat.le_of_ble_eq_true rfl⟩, k_⟩)
  exact ⟨rfl, rfl⟩
theorem b_160_0 (r : Int32) (u : Int32) (x : Int32) (hr : l_rg r 0 2 = false) : w_R xs Ln 160 (0, [(0, .ref 199), (1, .int r), (2, .int u), (3, .int x)], [], (I, J, kR w rem, Z), 0, 0) (fun o s => o = .inl (some (.int (-1))) ∧ s = (s_up I 199 59 0, J, kR w rem, Z)) := by
  refine w_R.go (c' := (6, [(0, .ref 199), (1, .int r), (2, .int u), (3, .int x)], [.int r], (s_up I 199 59 0, J, kR w rem, Z), 0, 0)) 4 ?_ (fun m_ x_ Q_ k_ => ⟨trivial, trivial, ⟨sh_199, trivial⟩, trivial, k_⟩)
  refine w_R.callS (ce' := 0) (sl' := 0) (v := some (.int (s_b false))) (σ' := (s_up I 199 59 0, J, kR w rem, Z)) (as := [.int r]) (rest := []) (d_108F r hr) ?_ rfl rfl rfl rfl rfl rfl rfl rfl rfl
  show w_R xs Ln 160 (9, [(0, .ref 199), (1, .int r), (2, .int u), (3, .int x)], [.int (s_b false)], (s_up I 199 59 0, J, kR w rem, Z), 0, 0) _
  refine w_R.ret 3 (.inl (some (.int (-1)))) (s_up I 199 59 0, J, kR w rem, Z) ?_ (fun x_ Q_ k_ => ⟨trivial, trivial, trivial, ⟨Nat.le_of_ble_eq_true rfl, Nat.le_of_ble_eq_true rfl⟩, k_⟩)
  exact ⟨rfl, rfl⟩
theorem b_26_1 (r : Nat) (u : Int32) (x : Int32) (hr : r < 2) (hu : l_rg u 0 6 = false) : w_R xs Ln 26 (0, [(0, .ref 1), (1, .int (Int32.ofNat r)), (2, .int u), (3, .int x)], [], (I, J, kR w rem, Z), 0, 0) (fun o s => o = .inl (some (.int (-1))) ∧ s = (I, J, kR w rem, Z)) := by
  refine w_R.go (c' := (1, [(0, .ref 1), (1, .int (Int32.ofNat r)), (2, .int u), (3, .int x)], [.int (Int32.ofNat r)], (I, J, kR w rem, Z), 0, 0)) 1 ?_ (fun m_ x_ Q_ k_ => ⟨trivial, k_⟩)
  refine w_R.callS (ce' := 0) (sl' := 0) (v := some (.int (s_b true))) (σ' := (I, J, kR w rem, Z)) (as := [.int (Int32.ofNat r)]) (rest := []) (d_32N r (by omega)) ?_ rfl rfl rfl rfl rfl rfl rfl rfl rfl
  show w_R xs Ln 26 (4, [(0, .ref 1), (1, .int (Int32.ofNat r)), (2, .int u), (3, .int x)], [.int (s_b true)], (I, J, kR w rem, Z), 0, 0) _
  refine w_R.go (c' := (8, [(0, .ref 1), (1, .int (Int32.ofNat r)), (2, .int u), (3, .int x)], [.int u], (I, J, kR w rem, Z), 0, 0)) 2 ?_ (fun m_ x_ Q_ k_ => ⟨trivial, trivial, k_⟩)
  refine w_R.callS (ce' := 0) (sl' := 0) (v := some (.int (s_b false))) (σ' := (I, J, kR w rem, Z)) (as := [.int u]) (rest := []) (d_31F u hu) ?_ rfl rfl rfl rfl rfl rfl rfl rfl rfl
  show w_R xs Ln 26 (11, [(0, .ref 1), (1, .int (Int32.ofNat r)), (2, .int u), (3, .int x)], [.int (s_b false)], (I, J, kR w rem, Z), 0, 0) _
  refine w_R.ret 3 (.inl (some (.int (-1)))) (I, J, kR w rem, Z) ?_ (fun x_ Q_ k_ => ⟨trivial, trivial, trivial, ⟨Nat.le_of_ble_eq_true rfl, Nat.le_of_ble_eq_true rfl⟩, k_⟩)
  exact ⟨rfl, rfl⟩
theorem b_160_1 (r : Nat) (u : Int32) (x : Int32) (hr : r < 2) (hu : l_rg u 0 6 = false) : w_R xs Ln 160 (0, [(0, .ref 199), (1, .int (Int32.ofNat r)), (2, .int u), (3, .int x)], [], (I, J, kR w rem, Z), 0, 0) (fun o s => o = .inl (some (.int (-1))) ∧ s = (s_up I 199 59 0, J, kR w rem, Z)) := by
  refine w_R.go (c' := (6, [(0, .ref 199), (1, .int (Int32.ofNat r)), (2, .int u), (3, .int x)], [.int (Int32.ofNat r)], (s_up I 199 59 0, J, kR w rem, Z), 0, 0)) 4 ?_ (fun m_ x_ Q_ k_ => ⟨trivial, trivial, ⟨sh_199, trivial⟩, trivial, k_⟩)
  refine w_R.callS (ce' := 0) (sl' := 0) (v := some (.int (s_b true))) (σ' := (s_up I 199 59 0, J, kR w rem, Z)) (as := [.int (Int32.ofNat r)]) (rest := []) (d_108N r (by omega)) ?_ rfl rfl rfl rfl rfl rfl rfl rfl rfl
  show w_R xs Ln 160 (9, [(0, .ref 199), (1, .int (Int32.ofNat r)), (2, .int u), (3, .int x)], [.int (s_b true)], (s_up I 199 59 0, J, kR w rem, Z), 0, 0) _
  refine w_R.go (c' := (13, [(0, .ref 199), (1, .int (Int32.ofNat r)), (2, .int u), (3, .int x)], [.int u], (s_up I 199 59 0, J, kR w rem, Z), 0, 0)) 2 ?_ (fun m_ x_ Q_ k_ => ⟨trivial, trivial, k_⟩)
  refine w_R.callS (ce' := 0) (sl' := 0) (v := some (.int (s_b false))) (σ' := (s_up I 199 59 0, J, kR w rem, Z)) (as := [.int u]) (rest := []) (d_109F u hu) ?_ rfl rfl rfl rfl rfl rfl rfl rfl rfl
  show w_R xs Ln 160 (16, [(0, .ref 199), (1, .int (Int32.ofNat r)), (2, .int u), (3, .int x)], [.int (s_b false)], (s_up I 199 59 0, J, kR w rem, Z), 0, 0) _
  refine w_R.ret 3 (.inl (some (.int (-1)))) (s_up I 199 59 0, J, kR w rem, Z) ?_ (fun x_ Q_ k_ => ⟨trivial, trivial, trivial, ⟨Nat.le_of_ble_eq_true rfl, Nat.le_of_ble_eq_true rfl⟩, k_⟩)
  exact ⟨rfl, rfl⟩
def v_26 (I : Nat → Nat → Int32) (J : Nat → Nat → Int64) (Z : Nat → Nat → Bool) (r : Nat) (u : Nat) (x : Int32) : Int32 := if (Z (164 + 29 * r + u) 0) = true then v_103 I J Z r u x else (-1)
theorem d_26 (r : Nat) (u : Nat) (x : Int32) (hr : r < 2) (hu : u < 6) : w_R xs Ln 26 (0, [(0, .ref 1), (1, .int (Int32.ofNat r)), (2, .int (Int32.ofNat u)), (3, .int x)], [], (I, J, kR w rem, Z), 0, 0) (fun o s => o = .inl (some (.int (v_26 I J Z r u x))) ∧ s = (I, J, kR w rem, Z)) := by
  refine w_R.go (c' := (1, [(0, .ref 1), (1, .int (Int32.ofNat r)), (2, .int (Int32.ofNat u)), (3, .int x)], [.int (Int32.ofNat r)], (I, J, kR w rem, Z), 0, 0)) 1 ?_ (fun m_ x_ Q_ k_ => ⟨trivial, k_⟩)
  refine w_R.callS (ce' := 0) (sl' := 0) (v := some (.int (s_b true))) (σ' := (I, J, kR w rem, Z)) (as := [.int (Int32.ofNat r)]) (rest := []) (d_32N r (by omega)) ?_ rfl rfl rfl rfl rfl rfl rfl rfl rfl
  show w_R xs Ln 26 (4, [(0, .ref 1), (1, .int (Int32.ofNat r)), (2, .int (Int32.ofNat u)), (3, .int x)], [.int (s_b true)], (I, J, kR w rem, Z), 0, 0) _
  refine w_R.go (c' := (8, [(0, .ref 1), (1, .int (Int32.ofNat r)), (2, .int (Int32.ofNat u)), (3, .int x)], [.int (Int32.ofNat u)], (I, J, kR w rem, Z), 0, 0)) 2 ?_ (fun m_ x_ Q_ k_ => ⟨trivial, trivial, k_⟩)
  refine w_R.callS (ce' := 0) (sl' := 0) (v := some (.int (s_b true))) (σ' := (I, J, kR w rem, Z)) (as := [.int (Int32.ofNat u)]) (rest := []) (d_31N u (by omega)) ?_ rfl rfl rfl rfl rfl rfl rfl rfl rfl
  show w_R xs Ln 26 (11, [(0, .ref 1), (1, .int (Int32.ofNat r)), (2, .int (Int32.ofNat u)), (3, .int x)], [.int (s_b true)], (I, J, kR w rem, Z), 0, 0) _
  refine w_R.go (c' := (20, [(0, .ref 1), (1, .int (Int32.ofNat r)), (2, .int (Int32.ofNat u)), (3, .int x)], [.ref (kR w rem 12 (Int32.ofNat r).toNatClampNeg)], (I, J, kR w rem, Z), 0, 0)) 5 ?_ (fun m_ x_ Q_ k_ => ⟨trivial, trivial, ⟨sh_1, (Nat.succ_ne_zero 11)⟩, trivial, ⟨⟨_, sh_12, (n_in (a := r) (by omega) (by decide))⟩, (show kR w rem 12 (Int32.ofNat r).toNatClampNeg ≠ 0 by rw [n_cl (a := r) (by omega), r_room (w := w) (rem := rem) (r := r) (by omega)]; omega)⟩, k_⟩)
  rw [n_cl (a := r) (by omega)]
  rw [r_room (w := w) (rem := rem) (r := r) (by omega)]
  show w_R xs Ln 26 (20, [(0, .ref 1), (1, .int (Int32.ofNat r)), (2, .int (Int32.ofNat u)), (3, .int x)], [.ref (141 + 29 * r)], (I, J, kR w rem, Z), 0, 0) _
  refine w_R.go (c' := (23, [(0, .ref 1), (1, .int (Int32.ofNat r)), (2, .int (Int32.ofNat u)), (3, .int x)], [.ref (kR w rem (141 + 29 * r) 7)], (I, J, kR w rem, Z), 0, 0)) 1 ?_ (fun m_ x_ Q_ k_ => ⟨⟨(sh_room (by omega)), (show kR w rem (141 + 29 * r) 7 ≠ 0 by rw [r_room7 (w := w) (rem := rem) (r := r) (by omega)]; omega)⟩, k_⟩)
  rw [r_room7 (w := w) (rem := rem) (r := r) (by omega)]
  show w_R xs Ln 26 (23, [(0, .ref 1), (1, .int (Int32.ofNat r)), (2, .int (Int32.ofNat u)), (3, .int x)], [.ref (145 + 29 * r)], (I, J, kR w rem, Z), 0, 0) _
  refine w_R.go (c' := (25, [(0, .ref 1), (1, .int (Int32.ofNat r)), (2, .int (Int32.ofNat u)), (3, .int x)], [.ref (kR w rem (145 + 29 * r) (Int32.ofNat u).toNatClampNeg)], (I, J, kR w rem, Z), 0, 0)) 2 ?_ (fun m_ x_ Q_ k_ => ⟨trivial, ⟨⟨_, (sh_room7 (by omega)), (n_in (a := u) (by omega) (by decide))⟩, (show kR w rem (145 + 29 * r) (Int32.ofNat u).toNatClampNeg ≠ 0 by rw [n_cl (a := u) (by omega), r_sight (w := w) (rem := rem) (r := r) (u := u) (by omega) (by omega)]; omega)⟩, k_⟩)
  rw [n_cl (a := u) (by omega)]
  rw [r_sight (w := w) (rem := rem) (r := r) (u := u) (by omega) (by omega)]
  show w_R xs Ln 26 (25, [(0, .ref 1), (1, .int (Int32.ofNat r)), (2, .int (Int32.ofNat u)), (3, .int x)], [.ref (164 + 29 * r + u)], (I, J, kR w rem, Z), 0, 0) _
  refine w_R.go (c' := (i_br .ne (s_b (Z (164 + 29 * r + u) 0)) 0 33 31, [(0, .ref 1), (1, .int (Int32.ofNat r)), (2, .int (Int32.ofNat u)), (3, .int x)], [], (I, J, kR w rem, Z), 0, 0)) 2 ?_ (fun m_ x_ Q_ k_ => ⟨⟨(sh_sight (by omega) (by omega)), trivial⟩, trivial, k_⟩)
  refine w_R.br_nz (fun h1 => ?_) (fun h1 => ?_)
  · refine w_R.go (c' := (39, [(0, .ref 1), (1, .int (Int32.ofNat r)), (2, .int (Int32.ofNat u)), (3, .int x)], [.ref (kR w rem 12 (Int32.ofNat r).toNatClampNeg)], (I, J, kR w rem, Z), 0, 0)) 4 ?_ (fun m_ x_ Q_ k_ => ⟨trivial, ⟨sh_1, (Nat.succ_ne_zero 11)⟩, trivial, ⟨⟨_, sh_12, (n_in (a := r) (by omega) (by decide))⟩, (show kR w rem 12 (Int32.ofNat r).toNatClampNeg ≠ 0 by rw [n_cl (a := r) (by omega), r_room (w := w) (rem := rem) (r := r) (by omega)]; omega)⟩, k_⟩)
    rw [n_cl (a := r) (by omega)]
    rw [r_room (w := w) (rem := rem) (r := r) (by omega)]
    show w_R xs Ln 26 (39, [(0, .ref 1), (1, .int (Int32.ofNat r)), (2, .int (Int32.ofNat u)), (3, .int x)], [.ref (141 + 29 * r)], (I, J, kR w rem, Z), 0, 0) _
    refine w_R.go (c' := (42, [(0, .ref 1), (1, .int (Int32.ofNat r)), (2, .int (Int32.ofNat u)), (3, .int x)], [.ref (kR w rem (141 + 29 * r) 7)], (I, J, kR w rem, Z), 0, 0)) 1 ?_ (fun m_ x_ Q_ k_ => ⟨⟨(sh_room (by omega)), (show kR w rem (141 + 29 * r) 7 ≠ 0 by rw [r_room7 (w := w) (rem := rem) (r := r) (by omega)]; omega)⟩, k_⟩)
    rw [r_room7 (w := w) (rem := rem) (r := r) (by omega)]
    show w_R xs Ln 26 (42, [(0, .ref 1), (1, .int (Int32.ofNat r)), (2, .int (Int32.ofNat u)), (3, .int x)], [.ref (145 + 29 * r)], (I, J, kR w rem, Z), 0, 0) _
    refine w_R.go (c' := (44, [(0, .ref 1), (1, .int (Int32.ofNat r)), (2, .int (Int32.ofNat u)), (3, .int x)], [.ref (kR w rem (145 + 29 * r) (Int32.ofNat u).toNatClampNeg)], (I, J, kR w rem, Z), 0, 0)) 2 ?_ (fun m_ x_ Q_ k_ => ⟨trivial, ⟨⟨_, (sh_room7 (by omega)), (n_in (a := u) (by omega) (by decide))⟩, (show kR w rem (145 + 29 * r) (Int32.ofNat u).toNatClampNeg ≠ 0 by rw [n_cl (a := u) (by omega), r_sight (w := w) (rem := rem) (r := r) (u := u) (by omega) (by omega)]; omega)⟩, k_⟩)
    rw [n_cl (a := u) (by omega)]
    rw [r_sight (w := w) (rem := rem) (r := r) (u := u) (by omega) (by omega)]
    show w_R xs Ln 26 (44, [(0, .ref 1), (1, .int (Int32.ofNat r)), (2, .int (Int32.ofNat u)), (3, .int x)], [.ref (164 + 29 * r + u)], (I, J, kR w rem, Z), 0, 0) _
    refine w_R.go (c' := (45, [(0, .ref 1), (1, .int (Int32.ofNat r)), (2, .int (Int32.ofNat u)), (3, .int x)], [.int x, .ref (164 + 29 * r + u)], (I, J, kR w rem, Z), 0, 0)) 1 ?_ (fun m_ x_ Q_ k_ => ⟨trivial, k_⟩)
    refine w_R.callV (ce' := 0) (sl' := 0) (v := some (.int (v_103 I J Z r u x))) (σ' := (I, J, kR w rem, Z)) (as := [.ref (164 + 29 * r + u), .int x]) (rest := []) (d_103 r u x (by omega) (by omega)) ?_ rfl rfl rfl rfl rfl (sh_sight (by omega) (by omega)) rfl rfl rfl rfl
    show w_R xs Ln 26 (48, [(0, .ref 1), (1, .int (Int32.ofNat r)), (2, .int (Int32.ofNat u)), (3, .int x)], [.int (v_103 I J Z r u x)], (I, J, kR w rem, Z), 0, 0) _
    refine w_R.ret 1 (.inl (some (.int (v_103 I J Z r u x)))) (I, J, kR w rem, Z) ?_ (fun x_ Q_ k_ => ⟨trivial, ⟨Nat.le_of_ble_eq_true rfl, Nat.le_of_ble_eq_true rfl⟩, k_⟩)
    exact ⟨by rw [show v_26 I J Z r u x = (v_103 I J Z r u x) from by unfold v_26; rw [if_pos h1]] <;> rfl, rfl⟩
  · replace h1 := Bool.eq_false_iff.mp h1
    refine w_R.ret 2 (.inl (some (.int (-1)))) (I, J, kR w rem, Z) ?_ (fun x_ Q_ k_ => ⟨trivial, trivial, ⟨Nat.le_of_ble_eq_true rfl, Nat.le_of_ble_eq_true rfl⟩, k_⟩)
    exact ⟨by rw [show v_26 I J Z r u x = (-1) from by unfold v_26; rw [if_neg h1]] <;> rfl, rfl⟩
def v_160 (I : Nat → Nat → Int32) (J : Nat → Nat → Int64) (Z : Nat → Nat → Bool) (r : Nat) (u : Nat) (x : Int32) : Int32 := if (Z 236 ((6 * r) + u)) = true then if x = 0 then I 237 ((6 * r) + u) else if x = 1 then I 238 ((6 * r) + u) else if x = 2 then I 239 ((6 * r) + u) else if x = 3 then I 240 ((6 * r) + u) else if x = 4 then if (Z 241 ((6 * r) + u)) = true then 1 else if (I 237 ((6 * r) + u)) = 0 then 0 else 1 else (-1) else (-1)
def i_160 (I : Nat → Nat → Int32) (J : Nat → Nat → Int64) (Z : Nat → Nat → Bool) (r : Nat) (u : Nat) (x : Int32) : Nat → Nat → Int32 := s_up I 199 59 0
theorem d_160 (r : Nat) (u : Nat) (x : Int32) (hr : r < 2) (hu : u < 6) : w_R xs Ln 160 (0, [(0, .ref 199), (1, .int (Int32.ofNat r)), (2, .int (Int32.ofNat u)), (3, .int x)], [], (I, J, kR w rem, Z), 0, 0) (fun o s => o = .inl (some (.int (v_160 I J Z r u x))) ∧ s = (i_160 I J Z r u x, J, kR w rem, Z)) := by
  refine w_R.go (c' := (6, [(0, .ref 199), (1, .int (Int32.ofNat r)), (2, .int (Int32.ofNat u)), (3, .int x)], [.int (Int32.ofNat r)], (s_up I 199 59 0, J, kR w rem, Z), 0, 0)) 4 ?_ (fun m_ x_ Q_ k_ => ⟨trivial, trivial, ⟨sh_199, trivial⟩, trivial, k_⟩)
  refine w_R.callS (ce' := 0) (sl' := 0) (v := some (.int (s_b true))) (σ' := (s_up I 199 59 0, J, kR w rem, Z)) (as := [.int (Int32.ofNat r)]) (rest := []) (d_108N r (by omega)) ?_ rfl rfl rfl rfl rfl rfl rfl rfl rfl
  show w_R xs Ln 160 (9, [(0, .ref 199), (1, .int (Int32.ofNat r)), (2, .int (Int32.ofNat u)), (3, .int x)], [.int (s_b true)], (s_up I 199 59 0, J, kR w rem, Z), 0, 0) _
  refine w_R.go (c' := (13, [(0, .ref 199), (1, .int (Int32.ofNat r)), (2, .int (Int32.ofNat u)), (3, .int x)], [.int (Int32.ofNat u)], (s_up I 199 59 0, J, kR w rem, Z), 0, 0)) 2 ?_ (fun m_ x_ Q_ k_ => ⟨trivial, trivial, k_⟩)
  refine w_R.callS (ce' := 0) (sl' := 0) (v := some (.int (s_b true))) (σ' := (s_up I 199 59 0, J, kR w rem, Z)) (as := [.int (Int32.ofNat u)]) (rest := []) (d_109N u (by omega)) ?_ rfl rfl rfl rfl rfl rfl rfl rfl rfl
  show w_R xs Ln 160 (16, [(0, .ref 199), (1, .int (Int32.ofNat r)), (2, .int (Int32.ofNat u)), (3, .int x)], [.int (s_b true)], (s_up I 199 59 0, J, kR w rem, Z), 0, 0) _
  refine w_R.go (c' := (25, [(0, .ref 199), (1, .int (Int32.ofNat r)), (2, .int (Int32.ofNat u)), (3, .int x)], [.int (Int32.ofNat 6 * Int32.ofNat r)], (s_up I 199 59 0, J, kR w rem, Z), 0, 0)) 4 ?_ (fun m_ x_ Q_ k_ => ⟨trivial, trivial, trivial, trivial, k_⟩)
  rw [n_mul 6 r]
  show w_R xs Ln 160 (25, [(0, .ref 199), (1, .int (Int32.ofNat r)), (2, .int (Int32.ofNat u)), (3, .int x)], [.int (Int32.ofNat (6 * r))], (s_up I 199 59 0, J, kR w rem, Z), 0, 0) _
  refine w_R.go (c' := (27, [(0, .ref 199), (1, .int (Int32.ofNat r)), (2, .int (Int32.ofNat u)), (3, .int x)], [.int (Int32.ofNat (6 * r) + Int32.ofNat u)], (s_up I 199 59 0, J, kR w rem, Z), 0, 0)) 2 ?_ (fun m_ x_ Q_ k_ => ⟨trivial, trivial, k_⟩)
  rw [n_add (6 * r) u]
  show w_R xs Ln 160 (27, [(0, .ref 199), (1, .int (Int32.ofNat r)), (2, .int (Int32.ofNat u)), (3, .int x)], [.int (Int32.ofNat ((6 * r) + u))], (s_up I 199 59 0, J, kR w rem, Z), 0, 0) _
  refine w_R.go (c' := (36, [(4, .int (Int32.ofNat ((6 * r) + u))), (0, .ref 199), (1, .int (Int32.ofNat r)), (2, .int (Int32.ofNat u)), (3, .int x)], [.int (s_b (Z 236 (Int32.ofNat ((6 * r) + u)).toNatClampNeg))], (s_up I 199 59 0, J, kR w rem, Z), 0, 0)) 5 ?_ (fun m_ x_ Q_ k_ => ⟨trivial, trivial, ⟨sh_199, (Nat.succ_ne_zero 235)⟩, trivial, ⟨_, sh_236, (n_in (a := (6 * r) + u) (by omega) (by decide))⟩, k_⟩)
  rw [n_cl (a := (6 * r) + u) (by omega)]
  show w_R xs Ln 160 (36, [(4, .int (Int32.ofNat ((6 * r) + u))), (0, .ref 199), (1, .int (Int32.ofNat r)), (2, .int (Int32.ofNat u)), (3, .int x)], [.int (s_b (Z 236 ((6 * r) + u)))], (s_up I 199 59 0, J, kR w rem, Z), 0, 0) _
  refine w_R.go (c' := (i_br .ne (s_b (Z 236 ((6 * r) + u))) 0 41 39, [(4, .int (Int32.ofNat ((6 * r) + u))), (0, .ref 199), (1, .int (Int32.ofNat r)), (2, .int (Int32.ofNat u)), (3, .int x)], [], (s_up I 199 59 0, J, kR w rem, Z), 0, 0)) 1 ?_ (fun m_ x_ Q_ k_ => ⟨trivial, k_⟩)
  refine w_R.br_nz (fun h1 => ?_) (fun h1 => ?_)
  · refine w_R.go (c' := (if x.toInt < 0 ∨ 4 < x.toInt then 134 else i_tg 42 ((#[34, 42, 50, 58, 66] : Array Int).getD (x.toInt - 0).toNat 0), [(4, .int (Int32.ofNat ((6 * r) + u))), (0, .ref 199), (1, .int (Int32.ofNat r)), (2, .int (Int32.ofNat u)), (3, .int x)], [], (s_up I 199 59 0, J, kR w rem, Z), 0, 0)) 2 ?_ (fun m_ x_ Q_ k_ => ⟨trivial, trivial, k_⟩)
    by_cases h2 : x = 0
    · rw [show (if x.toInt < 0 ∨ 4 < x.toInt then 134 else i_tg 42 ((#[34, 42, 50, 58, 66] : Array Int).getD (x.toInt - 0).toNat 0)) = 76 by rw [h2]; rfl]
      refine w_R.go (c' := (83, [(4, .int (Int32.ofNat ((6 * r) + u))), (0, .ref 199), (1, .int (Int32.ofNat r)), (2, .int (Int32.ofNat u)), (3, .int x)], [.int ((s_up I 199 59 0) 237 (Int32.ofNat ((6 * r) + u)).toNatClampNeg)], (s_up I 199 59 0, J, kR w rem, Z), 0, 0)) 4 ?_ (fun m_ x_ Q_ k_ => ⟨trivial, ⟨sh_199, (Nat.succ_ne_zero 236)⟩, trivial, ⟨_, sh_237, (n_in (a := (6 * r) + u) (by omega) (by decide))⟩, k_⟩)
      rw [n_cl (a := (6 * r) + u) (by omega)]
      rw [show (s_up I 199 59 0) 237 ((6 * r) + u) = I 237 ((6 * r) + u) from (s_upa (by decide))]
      show w_R xs Ln 160 (83, [(4, .int (Int32.ofNat ((6 * r) + u))), (0, .ref 199), (1, .int (Int32.ofNat r)), (2, .int (Int32.ofNat u)), (3, .int x)], [.int (I 237 ((6 * r) + u))], (s_up I 199 59 0, J, kR w rem, Z), 0, 0) _
      refine w_R.ret 1 (.inl (some (.int (I 237 ((6 * r) + u))))) (s_up I 199 59 0, J, kR w rem, Z) ?_ (fun x_ Q_ k_ => ⟨trivial, ⟨Nat.le_of_ble_eq_true rfl, Nat.le_of_ble_eq_true rfl⟩, k_⟩)
      exact ⟨by rw [show v_160 I J Z r u x = (I 237 ((6 * r) + u)) from by unfold v_160; rw [if_pos h1, if_pos h2]] <;> rfl, by rw [show i_160 I J Z r u x = (s_up I 199 59 0) from by unfold i_160; rfl]⟩
    by_cases h3 : x = 1
    · rw [show (if x.toInt < 0 ∨ 4 < x.toInt then 134 else i_tg 42 ((#[34, 42, 50, 58, 66] : Array Int).getD (x.toInt - 0).toNat 0)) = 84 by rw [h3]; rfl]
      refine w_R.go (c' := (91, [(4, .int (Int32.ofNat ((6 * r) + u))), (0, .ref 199), (1, .int (Int32.ofNat r)), (2, .int (Int32.ofNat u)), (3, .int x)], [.int ((s_up I 199 59 0) 238 (Int32.ofNat ((6 * r) + u)).toNatClampNeg)], (s_up I 199 59 0, J, kR w rem, Z), 0, 0)) 4 ?_ (fun m_ x_ Q_ k_ => ⟨trivial, ⟨sh_199, (Nat.succ_ne_zero 237)⟩, trivial, ⟨_, sh_238, (n_in (a := (6 * r) + u) (by omega) (by decide))⟩, k_⟩)
      rw [n_cl (a := (6 * r) + u) (by omega)]
      rw [show (s_up I 199 59 0) 238 ((6 * r) + u) = I 238 ((6 * r) + u) from (s_upa (by decide))]
      show w_R xs Ln 160 (91, [(4, .int (Int32.ofNat ((6 * r) + u))), (0, .ref 199), (1, .int (Int32.ofNat r)), (2, .int (Int32.ofNat u)), (3, .int x)], [.int (I 238 ((6 * r) + u))], (s_up I 199 59 0, J, kR w rem, Z), 0, 0) _
      refine w_R.ret 1 (.inl (some (.int (I 238 ((6 * r) + u))))) (s_up I 199 59 0, J, kR w rem, Z) ?_ (fun x_ Q_ k_ => ⟨trivial, ⟨Nat.le_of_ble_eq_true rfl, Nat.le_of_ble_eq_true rfl⟩, k_⟩)
      exact ⟨by rw [show v_160 I J Z r u x = (I 238 ((6 * r) + u)) from by unfold v_160; rw [if_pos h1, if_neg h2, if_pos h3]] <;> rfl, by rw [show i_160 I J Z r u x = (s_up I 199 59 0) from by unfold i_160; rfl]⟩
    by_cases h4 : x = 2
    · rw [show (if x.toInt < 0 ∨ 4 < x.toInt then 134 else i_tg 42 ((#[34, 42, 50, 58, 66] : Array Int).getD (x.toInt - 0).toNat 0)) = 92 by rw [h4]; rfl]
      refine w_R.go (c' := (99, [(4, .int (Int32.ofNat ((6 * r) + u))), (0, .ref 199), (1, .int (Int32.ofNat r)), (2, .int (Int32.ofNat u)), (3, .int x)], [.int ((s_up I 199 59 0) 239 (Int32.ofNat ((6 * r) + u)).toNatClampNeg)], (s_up I 199 59 0, J, kR w rem, Z), 0, 0)) 4 ?_ (fun m_ x_ Q_ k_ => ⟨trivial, ⟨sh_199, (Nat.succ_ne_zero 238)⟩, trivial, ⟨_, sh_239, (n_in (a := (6 * r) + u) (by omega) (by decide))⟩, k_⟩)
      rw [n_cl (a := (6 * r) + u) (by omega)]
      rw [show (s_up I 199 59 0) 239 ((6 * r) + u) = I 239 ((6 * r) + u) from (s_upa (by decide))]
      show w_R xs Ln 160 (99, [(4, .int (Int32.ofNat ((6 * r) + u))), (0, .ref 199), (1, .int (Int32.ofNat r)), (2, .int (Int32.ofNat u)), (3, .int x)], [.int (I 239 ((6 * r) + u))], (s_up I 199 59 0, J, kR w rem, Z), 0, 0) _
      refine w_R.ret 1 (.inl (some (.int (I 239 ((6 * r) + u))))) (s_up I 199 59 0, J, kR w rem, Z) ?_ (fun x_ Q_ k_ => ⟨trivial, ⟨Nat.le_of_ble_eq_true rfl, Nat.le_of_ble_eq_true rfl⟩, k_⟩)
      exact ⟨by rw [show v_160 I J Z r u x = (I 239 ((6 * r) + u)) from by unfold v_160; rw [if_pos h1, if_neg h2, if_neg h3, if_pos h4]] <;> rfl, by rw [show i_160 I J Z r u x = (s_up I 199 59 0) from by unfold i_160; rfl]⟩
    by_cases h5 : x = 3
    · rw [show (if x.toInt < 0 ∨ 4 < x.toInt then 134 else i_tg 42 ((#[34, 42, 50, 58, 66] : Array Int).getD (x.toInt - 0).toNat 0)) = 100 by rw [h5]; rfl]
      refine w_R.go (c' := (107, [(4, .int (Int32.ofNat ((6 * r) + u))), (0, .ref 199), (1, .int (Int32.ofNat r)), (2, .int (Int32.ofNat u)), (3, .int x)], [.int ((s_up I 199 59 0) 240 (Int32.ofNat ((6 * r) + u)).toNatClampNeg)], (s_up I 199 59 0, J, kR w rem, Z), 0, 0)) 4 ?_ (fun m_ x_ Q_ k_ => ⟨trivial, ⟨sh_199, (Nat.succ_ne_zero 239)⟩, trivial, ⟨_, sh_240, (n_in (a := (6 * r) + u) (by omega) (by decide))⟩, k_⟩)
      rw [n_cl (a := (6 * r) + u) (by omega)]
      rw [show (s_up I 199 59 0) 240 ((6 * r) + u) = I 240 ((6 * r) + u) from (s_upa (by decide))]
      show w_R xs Ln 160 (107, [(4, .int (Int32.ofNat ((6 * r) + u))), (0, .ref 199), (1, .int (Int32.ofNat r)), (2, .int (Int32.ofNat u)), (3, .int x)], [.int (I 240 ((6 * r) + u))], (s_up I 199 59 0, J, kR w rem, Z), 0, 0) _
      refine w_R.ret 1 (.inl (some (.int (I 240 ((6 * r) + u))))) (s_up I 199 59 0, J, kR w rem, Z) ?_ (fun x_ Q_ k_ => ⟨trivial, ⟨Nat.le_of_ble_eq_true rfl, Nat.le_of_ble_eq_true rfl⟩, k_⟩)
      exact ⟨by rw [show v_160 I J Z r u x = (I 240 ((6 * r) + u)) from by unfold v_160; rw [if_pos h1, if_neg h2, if_neg h3, if_neg h4, if_pos h5]] <;> rfl, by rw [show i_160 I J Z r u x = (s_up I 199 59 0) from by unfold i_160; rfl]⟩
    by_cases h6 : x = 4
    · rw [show (if x.toInt < 0 ∨ 4 < x.toInt then 134 else i_tg 42 ((#[34, 42, 50, 58, 66] : Array Int).getD (x.toInt - 0).toNat 0)) = 108 by rw [h6]; rfl]
      refine w_R.go (c' := (115, [(4, .int (Int32.ofNat ((6 * r) + u))), (0, .ref 199), (1, .int (Int32.ofNat r)), (2, .int (Int32.ofNat u)), (3, .int x)], [.int (s_b (Z 241 (Int32.ofNat ((6 * r) + u)).toNatClampNeg))], (s_up I 199 59 0, J, kR w rem, Z), 0, 0)) 4 ?_ (fun m_ x_ Q_ k_ => ⟨trivial, ⟨sh_199, (Nat.succ_ne_zero 240)⟩, trivial, ⟨_, sh_241, (n_in (a := (6 * r) + u) (by omega) (by decide))⟩, k_⟩)
      rw [n_cl (a := (6 * r) + u) (by omega)]
      show w_R xs Ln 160 (115, [(4, .int (Int32.ofNat ((6 * r) + u))), (0, .ref 199), (1, .int (Int32.ofNat r)), (2, .int (Int32.ofNat u)), (3, .int x)], [.int (s_b (Z 241 ((6 * r) + u)))], (s_up I 199 59 0, J, kR w rem, Z), 0, 0) _
      refine w_R.go (c' := (i_br .ne (s_b (Z 241 ((6 * r) + u))) 0 128 118, [(4, .int (Int32.ofNat ((6 * r) + u))), (0, .ref 199), (1, .int (Int32.ofNat r)), (2, .int (Int32.ofNat u)), (3, .int x)], [], (s_up I 199 59 0, J, kR w rem, Z), 0, 0)) 1 ?_ (fun m_ x_ Q_ k_ => ⟨trivial, k_⟩)
      refine w_R.br_nz (fun h7 => ?_) (fun h7 => ?_)
      · refine w_R.ret 3 (.inl (some (.int 1))) (s_up I 199 59 0, J, kR w rem, Z) ?_ (fun x_ Q_ k_ => ⟨trivial, trivial, trivial, ⟨Nat.le_of_ble_eq_true rfl, Nat.le_of_ble_eq_true rfl⟩, k_⟩)
        exact ⟨by rw [show v_160 I J Z r u x = 1 from by unfold v_160; rw [if_pos h1, if_neg h2, if_neg h3, if_neg h4, if_neg h5, if_pos h6, if_pos h7]] <;> rfl, by rw [show i_160 I J Z r u x = (s_up I 199 59 0) from by unfold i_160; rfl]⟩
      · replace h7 := Bool.eq_false_iff.mp h7
        refine w_R.go (c' := (125, [(4, .int (Int32.ofNat ((6 * r) + u))), (0, .ref 199), (1, .int (Int32.ofNat r)), (2, .int (Int32.ofNat u)), (3, .int x)], [.int ((s_up I 199 59 0) 237 (Int32.ofNat ((6 * r) + u)).toNatClampNeg)], (s_up I 199 59 0, J, kR w rem, Z), 0, 0)) 4 ?_ (fun m_ x_ Q_ k_ => ⟨trivial, ⟨sh_199, (Nat.succ_ne_zero 236)⟩, trivial, ⟨_, sh_237, (n_in (a := (6 * r) + u) (by omega) (by decide))⟩, k_⟩)
        rw [n_cl (a := (6 * r) + u) (by omega)]
        rw [show (s_up I 199 59 0) 237 ((6 * r) + u) = I 237 ((6 * r) + u) from (s_upa (by decide))]
        show w_R xs Ln 160 (125, [(4, .int (Int32.ofNat ((6 * r) + u))), (0, .ref 199), (1, .int (Int32.ofNat r)), (2, .int (Int32.ofNat u)), (3, .int x)], [.int (I 237 ((6 * r) + u))], (s_up I 199 59 0, J, kR w rem, Z), 0, 0) _
        refine w_R.go (c' := (i_br .eq (I 237 ((6 * r) + u)) 0 132 128, [(4, .int (Int32.ofNat ((6 * r) + u))), (0, .ref 199), (1, .int (Int32.ofNat r)), (2, .int (Int32.ofNat u)), (3, .int x)], [], (s_up I 199 59 0, J, kR w rem, Z), 0, 0)) 1 ?_ (fun m_ x_ Q_ k_ => ⟨trivial, k_⟩)
        refine w_R.br_eq (fun h8 => ?_) (fun h8 => ?_)
        · refine w_R.ret 2 (.inl (some (.int 0))) (s_up I 199 59 0, J, kR w rem, Z) ?_ (fun x_ Q_ k_ => ⟨trivial, trivial, ⟨Nat.le_of_ble_eq_true rfl, Nat.le_of_ble_eq_true rfl⟩, k_⟩)
          exact ⟨by rw [show v_160 I J Z r u x = 0 from by unfold v_160; rw [if_pos h1, if_neg h2, if_neg h3, if_neg h4, if_neg h5, if_pos h6, if_neg h7, if_pos h8]] <;> rfl, by rw [show i_160 I J Z r u x = (s_up I 199 59 0) from by unfold i_160; rfl]⟩
        · refine w_R.ret 3 (.inl (some (.int 1))) (s_up I 199 59 0, J, kR w rem, Z) ?_ (fun x_ Q_ k_ => ⟨trivial, trivial, trivial, ⟨Nat.le_of_ble_eq_true rfl, Nat.le_of_ble_eq_true rfl⟩, k_⟩)
          exact ⟨by rw [show v_160 I J Z r u x = 1 from by unfold v_160; rw [if_pos h1, if_neg h2, if_neg h3, if_neg h4, if_neg h5, if_pos h6, if_neg h7, if_neg h8]] <;> rfl, by rw [show i_160 I J Z r u x = (s_up I 199 59 0) from by unfold i_160; rfl]⟩
    rw [if_pos (l_out (x := x) (a := 4) (n := 5) (by omega) rfl (by intro k hk; (rcases k with _ | _ | _ | _ | _ | k) <;> first | assumption | omega))]
    refine w_R.ret 2 (.inl (some (.int (-1)))) (s_up I 199 59 0, J, kR w rem, Z) ?_ (fun x_ Q_ k_ => ⟨trivial, trivial, ⟨Nat.le_of_ble_eq_true rfl, Nat.le_of_ble_eq_true rfl⟩, k_⟩)
    exact ⟨by rw [show v_160 I J Z r u x = (-1) from by unfold v_160; rw [if_pos h1, if_neg h2, if_neg h3, if_neg h4, if_neg h5, if_neg h6]] <;> rfl, by rw [show i_160 I J Z r u x = (s_up I 199 59 0) from by unfold i_160; rfl]⟩
  · replace h1 := Bool.eq_false_iff.mp h1
    refine w_R.ret 2 (.inl (some (.int (-1)))) (s_up I 199 59 0, J, kR w rem, Z) ?_ (fun x_ Q_ k_ => ⟨trivial, trivial, ⟨Nat.le_of_ble_eq_true rfl, Nat.le_of_ble_eq_true rfl⟩, k_⟩)
    exact ⟨by rw [show v_160 I J Z r u x = (-1) from by unfold v_160; rw [if_neg h1]] <;> rfl, by rw [show i_160 I J Z r u x = (s_up I 199 59 0) from by unfold i_160; rfl]⟩
def v_133 (I : Nat → Nat → Int32) (J : Nat → Nat → Int64) (Z : Nat → Nat → Bool)  : Int32 := I 199 44
def i_133 (I : Nat → Nat → Int32) (J : Nat → Nat → Int64) (Z : Nat → Nat → Bool)  : Nat → Nat → Int32 := s_up I 199 59 0
theorem d_133   : w_R xs Ln 133 (0, [(0, .ref 199)], [], (I, J, kR w rem, Z), 0, 0) (fun o s => o = .inl (some (.int (v_133 I J Z))) ∧ s = (i_133 I J Z, J, kR w rem, Z)) := by
  refine w_R.go (c' := (9, [(0, .ref 199)], [.int ((s_up I 199 59 0) 199 44)], (s_up I 199 59 0, J, kR w rem, Z), 0, 0)) 5 ?_ (fun m_ x_ Q_ k_ => ⟨trivial, trivial, ⟨sh_199, trivial⟩, trivial, ⟨sh_199, trivial⟩, k_⟩)
  rw [show (s_up I 199 59 0) 199 44 = I 199 44 from (s_upk (by decide))]
  show w_R xs Ln 133 (9, [(0, .ref 199)], [.int (I 199 44)], (s_up I 199 59 0, J, kR w rem, Z), 0, 0) _
  refine w_R.ret 1 (.inl (some (.int (I 199 44)))) (s_up I 199 59 0, J, kR w rem, Z) ?_ (fun x_ Q_ k_ => ⟨trivial, ⟨Nat.le_of_ble_eq_true rfl, Nat.le_of_ble_eq_true rfl⟩, k_⟩)
  exact ⟨by rw [show v_133 I J Z = (I 199 44) from by unfold v_133; rfl] <;> rfl, by rw [show i_133 I J Z = (s_up I 199 59 0) from by unfold i_133; rfl]⟩
theorem b_17_0 (i : Int32) (x : Int32) (n : Nat) (hi : l_rg i 0 n = false) (hn : n ≤ 48) (hc : I 33 1 = Int32.ofNat n) : w_R xs Ln 17 (0, [(0, .ref 1), (1, .int i), (2, .int x)], [], (I, J, kR w rem, Z), 0, 0) (fun o s => o = .inl (some (.int (-1))) ∧ s = (I, J, kR w rem, Z)) := by
  refine w_R.go (c' := (5, [(0, .ref 1), (1, .int i), (2, .int x)], [.int i, .ref 33], (I, J, kR w rem, Z), 0, 0)) 3 ?_ (fun m_ x_ Q_ k_ => ⟨trivial, ⟨sh_1, (Nat.succ_ne_zero 32)⟩, trivial, k_⟩)
  refine w_R.callV (ce' := 0) (sl' := 0) (v := some (.int (s_b false))) (σ' := (I, J, kR w rem, Z)) (as := [.ref 33, .int i]) (rest := []) (d_71F i n hi (by omega) hc) ?_ rfl rfl rfl rfl rfl sh_33 rfl rfl rfl rfl
  show w_R xs Ln 17 (8, [(0, .ref 1), (1, .int i), (2, .int x)], [.int (s_b false)], (I, J, kR w rem, Z), 0, 0) _
  refine w_R.ret 3 (.inl (some (.int (-1)))) (I, J, kR w rem, Z) ?_ (fun x_ Q_ k_ => ⟨trivial, trivial, trivial, ⟨Nat.le_of_ble_eq_true rfl, Nat.le_of_ble_eq_true rfl⟩, k_⟩)
  exact ⟨rfl, rfl⟩
theorem b_134_0 (i : Int32) (x : Int32) (n : Nat) (hi : l_rg i 0 n = false) (hn : n ≤ 48) (hc2 : I 199 44 = Int32.ofNat n) : w_R xs Ln 134 (0, [(0, .ref 199), (1, .int i), (2, .int x)], [], (I, J, kR w rem, Z), 0, 0) (fun o s => o = .inl (some (.int (-1))) ∧ s = (s_up I 199 59 0, J, kR w rem, Z)) := by
  refine w_R.go (c' := (i_br .lt i 0 17 9, [(0, .ref 199), (1, .int i), (2, .int x)], [], (s_up I 199 59 0, J, kR w rem, Z), 0, 0)) 5 ?_ (fun m_ x_ Q_ k_ => ⟨trivial, trivial, ⟨sh_199, trivial⟩, trivial, trivial, k_⟩)
  refine w_R.br_lt (fun h1 => ?_) (fun h1 => ?_)
  · refine w_R.ret 2 (.inl (some (.int (-1)))) (s_up I 199 59 0, J, kR w rem, Z) ?_ (fun x_ Q_ k_ => ⟨trivial, trivial, ⟨Nat.le_of_ble_eq_true rfl, Nat.le_of_ble_eq_true rfl⟩, k_⟩)
    exact ⟨rfl, rfl⟩
  · refine w_R.go (c' := (14, [(0, .ref 199), (1, .int i), (2, .int x)], [.int ((s_up I 199 59 0) 199 44), .int i], (s_up I 199 59 0, J, kR w rem, Z), 0, 0)) 3 ?_ (fun m_ x_ Q_ k_ => ⟨trivial, trivial, ⟨sh_199, trivial⟩, k_⟩)
    rw [show (s_up I 199 59 0) 199 44 = I 199 44 from (s_upk (by decide))]
    rw [hc2]
    show w_R xs Ln 134 (14, [(0, .ref 199), (1, .int i), (2, .int x)], [.int (Int32.ofNat n), .int i], (s_up I 199 59 0, J, kR w rem, Z), 0, 0) _
    refine w_R.go (c' := (i_br .lt i (Int32.ofNat n) 19 17, [(0, .ref 199), (1, .int i), (2, .int x)], [], (s_up I 199 59 0, J, kR w rem, Z), 0, 0)) 1 ?_ (fun m_ x_ Q_ k_ => ⟨trivial, k_⟩)
    refine w_R.br_lt (fun h2 => ?_) (fun h2 => ?_)
    · exact (l_noN hi h1 h2 (by omega)).elim
    · refine w_R.ret 2 (.inl (some (.int (-1)))) (s_up I 199 59 0, J, kR w rem, Z) ?_ (fun x_ Q_ k_ => ⟨trivial, trivial, ⟨Nat.le_of_ble_eq_true rfl, Nat.le_of_ble_eq_true rfl⟩, k_⟩)
      exact ⟨rfl, rfl⟩
def v_17 (I : Nat → Nat → Int32) (J : Nat → Nat → Int64) (Z : Nat → Nat → Bool) (i : Nat) (x : Int32) (n : Nat) (p : Nat) : Int32 := v_69 I J Z p x
theorem d_17 (i : Nat) (x : Int32) (n : Nat) (p : Nat) (hi : i < n) (hn : n ≤ 48) (hc : I 33 1 = Int32.ofNat n) (hp : p < 50) (hw : w i = 35 + 2 * p) : w_R xs Ln 17 (0, [(0, .ref 1), (1, .int (Int32.ofNat i)), (2, .int x)], [], (I, J, kR w rem, Z), 0, 0) (fun o s => o = .inl (some (.int (v_17 I J Z i x n p))) ∧ s = (I, J, kR w rem, Z)) := by
  refine w_R.go (c' := (5, [(0, .ref 1), (1, .int (Int32.ofNat i)), (2, .int x)], [.int (Int32.ofNat i), .ref 33], (I, J, kR w rem, Z), 0, 0)) 3 ?_ (fun m_ x_ Q_ k_ => ⟨trivial, ⟨sh_1, (Nat.succ_ne_zero 32)⟩, trivial, k_⟩)
  refine w_R.callV (ce' := 0) (sl' := 0) (v := some (.int (s_b true))) (σ' := (I, J, kR w rem, Z)) (as := [.ref 33, .int (Int32.ofNat i)]) (rest := []) (d_71N i n (by omega) (by omega) hc) ?_ rfl rfl rfl rfl rfl sh_33 rfl rfl rfl rfl
  show w_R xs Ln 17 (8, [(0, .ref 1), (1, .int (Int32.ofNat i)), (2, .int x)], [.int (s_b true)], (I, J, kR w rem, Z), 0, 0) _
  refine w_R.go (c' := (20, [(0, .ref 1), (1, .int (Int32.ofNat i)), (2, .int x)], [.ref (kR w rem 34 ((Int32.ofNat i).toNatClampNeg))], (I, J, kR w rem, Z), 0, 0)) 6 ?_ (fun m_ x_ Q_ k_ => ⟨trivial, trivial, ⟨sh_1, (Nat.succ_ne_zero 32)⟩, ⟨sh_33, (Nat.succ_ne_zero 33)⟩, trivial, ⟨⟨_, sh_34, (n_in (a := i) (by omega) (by decide))⟩, (show kR w rem 34 ((Int32.ofNat i).toNatClampNeg) ≠ 0 by rw [n_cl (a := i) (by omega), show kR w rem 34 i = w i from rfl, hw]; omega)⟩, k_⟩)
  rw [n_cl (a := i) (by omega)]
  rw [show kR w rem 34 i = w i from rfl]
  rw [hw]
  show w_R xs Ln 17 (20, [(0, .ref 1), (1, .int (Int32.ofNat i)), (2, .int x)], [.ref (35 + 2 * p)], (I, J, kR w rem, Z), 0, 0) _
  refine w_R.go (c' := (21, [(0, .ref 1), (1, .int (Int32.ofNat i)), (2, .int x)], [.int x, .ref (35 + 2 * p)], (I, J, kR w rem, Z), 0, 0)) 1 ?_ (fun m_ x_ Q_ k_ => ⟨trivial, k_⟩)
  refine w_R.callV (ce' := 0) (sl' := 0) (v := some (.int (v_69 I J Z p x))) (σ' := (I, J, kR w rem, Z)) (as := [.ref (35 + 2 * p), .int x]) (rest := []) (d_69 p x hp) ?_ rfl rfl rfl rfl rfl (sh_let hp) rfl rfl rfl rfl
  show w_R xs Ln 17 (24, [(0, .ref 1), (1, .int (Int32.ofNat i)), (2, .int x)], [.int (v_69 I J Z p x)], (I, J, kR w rem, Z), 0, 0) _
  refine w_R.ret 2 (.inl (some (.int (v_69 I J Z p x)))) (I, J, kR w rem, Z) ?_ (fun x_ Q_ k_ => ⟨trivial, trivial, ⟨Nat.le_of_ble_eq_true rfl, Nat.le_of_ble_eq_true rfl⟩, k_⟩)
  exact ⟨by rw [show v_17 I J Z i x n p = (v_69 I J Z p x) from by unfold v_17; rfl] <;> rfl, rfl⟩
def v_134 (I : Nat → Nat → Int32) (J : Nat → Nat → Int64) (Z : Nat → Nat → Bool) (i : Nat) (x : Int32) (n : Nat) : Int32 := if x = 0 then I 242 i else if x = 1 then I 243 i else if x = 2 then I 244 i else if x = 3 then I 245 i else if x = 4 then I 246 i else (-1)
def i_134 (I : Nat → Nat → Int32) (J : Nat → Nat → Int64) (Z : Nat → Nat → Bool) (i : Nat) (x : Int32) (n : Nat) : Nat → Nat → Int32 := s_up I 199 59 0
theorem d_134 (i : Nat) (x : Int32) (n : Nat) (hi : i < n) (hn : n ≤ 48) (hc2 : I 199 44 = Int32.ofNat n) : w_R xs Ln 134 (0, [(0, .ref 199), (1, .int (Int32.ofNat i)), (2, .int x)], [], (I, J, kR w rem, Z), 0, 0) (fun o s => o = .inl (some (.int (v_134 I J Z i x n))) ∧ s = (i_134 I J Z i x n, J, kR w rem, Z)) := by
  refine w_R.go (c' := (i_br .lt (Int32.ofNat i) 0 17 9, [(0, .ref 199), (1, .int (Int32.ofNat i)), (2, .int x)], [], (s_up I 199 59 0, J, kR w rem, Z), 0, 0)) 5 ?_ (fun m_ x_ Q_ k_ => ⟨trivial, trivial, ⟨sh_199, trivial⟩, trivial, trivial, k_⟩)
  rw [show i_br .lt (Int32.ofNat i) 0 17 9 = 9 from if_neg (mt (n_lt (a := i) (b := 0) (by omega) (by omega)).mp (by omega))]
  show w_R xs Ln 134 (9, [(0, .ref 199), (1, .int (Int32.ofNat i)), (2, .int x)], [], (s_up I 199 59 0, J, kR w rem, Z), 0, 0) _
  refine w_R.go (c' := (14, [(0, .ref 199), (1, .int (Int32.ofNat i)), (2, .int x)], [.int ((s_up I 199 59 0) 199 44), .int (Int32.ofNat i)], (s_up I 199 59 0, J, kR w rem, Z), 0, 0)) 3 ?_ (fun m_ x_ Q_ k_ => ⟨trivial, trivial, ⟨sh_199, trivial⟩, k_⟩)
  rw [show (s_up I 199 59 0) 199 44 = I 199 44 from (s_upk (by decide))]
  rw [hc2]
  show w_R xs Ln 134 (14, [(0, .ref 199), (1, .int (Int32.ofNat i)), (2, .int x)], [.int (Int32.ofNat n), .int (Int32.ofNat i)], (s_up I 199 59 0, J, kR w rem, Z), 0, 0) _
  refine w_R.go (c' := (i_br .lt (Int32.ofNat i) (Int32.ofNat n) 19 17, [(0, .ref 199), (1, .int (Int32.ofNat i)), (2, .int x)], [], (s_up I 199 59 0, J, kR w rem, Z), 0, 0)) 1 ?_ (fun m_ x_ Q_ k_ => ⟨trivial, k_⟩)
  rw [show i_br .lt (Int32.ofNat i) (Int32.ofNat n) 19 17 = 19 from if_pos ((n_lt (a := i) (b := n) (by omega) (by omega)).mpr (by omega))]
  show w_R xs Ln 134 (19, [(0, .ref 199), (1, .int (Int32.ofNat i)), (2, .int x)], [], (s_up I 199 59 0, J, kR w rem, Z), 0, 0) _
  refine w_R.go (c' := (i_br .ne x 0 32 23, [(0, .ref 199), (1, .int (Int32.ofNat i)), (2, .int x)], [], (s_up I 199 59 0, J, kR w rem, Z), 0, 0)) 2 ?_ (fun m_ x_ Q_ k_ => ⟨trivial, trivial, k_⟩)
  refine w_R.br_ne (fun h1 => ?_) (fun h1 => ?_)
  · refine w_R.go (c' := (i_br .ne x 1 46 37, [(0, .ref 199), (1, .int (Int32.ofNat i)), (2, .int x)], [], (s_up I 199 59 0, J, kR w rem, Z), 0, 0)) 3 ?_ (fun m_ x_ Q_ k_ => ⟨trivial, trivial, trivial, k_⟩)
    refine w_R.br_ne (fun h2 => ?_) (fun h2 => ?_)
    · refine w_R.go (c' := (i_br .ne x 2 60 51, [(0, .ref 199), (1, .int (Int32.ofNat i)), (2, .int x)], [], (s_up I 199 59 0, J, kR w rem, Z), 0, 0)) 3 ?_ (fun m_ x_ Q_ k_ => ⟨trivial, trivial, trivial, k_⟩)
      refine w_R.br_ne (fun h3 => ?_) (fun h3 => ?_)
      · refine w_R.go (c' := (i_br .ne x 3 74 65, [(0, .ref 199), (1, .int (Int32.ofNat i)), (2, .int x)], [], (s_up I 199 59 0, J, kR w rem, Z), 0, 0)) 3 ?_ (fun m_ x_ Q_ k_ => ⟨trivial, trivial, trivial, k_⟩)
        refine w_R.br_ne (fun h4 => ?_) (fun h4 => ?_)
        · refine w_R.go (c' := (i_br .ne x 4 88 79, [(0, .ref 199), (1, .int (Int32.ofNat i)), (2, .int x)], [], (s_up I 199 59 0, J, kR w rem, Z), 0, 0)) 3 ?_ (fun m_ x_ Q_ k_ => ⟨trivial, trivial, trivial, k_⟩)
          refine w_R.br_ne (fun h5 => ?_) (fun h5 => ?_)
          · refine w_R.ret 2 (.inl (some (.int (-1)))) (s_up I 199 59 0, J, kR w rem, Z) ?_ (fun x_ Q_ k_ => ⟨trivial, trivial, ⟨Nat.le_of_ble_eq_true rfl, Nat.le_of_ble_eq_true rfl⟩, k_⟩)
            exact ⟨by rw [show v_134 I J Z i x n = (-1) from by unfold v_134; rw [if_neg h1, if_neg h2, if_neg h3, if_neg h4, if_neg h5]] <;> rfl, by rw [show i_134 I J Z i x n = (s_up I 199 59 0) from by unfold i_134; rfl]⟩
          · refine w_R.go (c' := (85, [(0, .ref 199), (1, .int (Int32.ofNat i)), (2, .int x)], [.int ((s_up I 199 59 0) 246 (Int32.ofNat i).toNatClampNeg)], (s_up I 199 59 0, J, kR w rem, Z), 0, 0)) 4 ?_ (fun m_ x_ Q_ k_ => ⟨trivial, ⟨sh_199, (Nat.succ_ne_zero 245)⟩, trivial, ⟨_, sh_246, (n_in (a := i) (by omega) (by decide))⟩, k_⟩)
            rw [n_cl (a := i) (by omega)]
            rw [show (s_up I 199 59 0) 246 i = I 246 i from (s_upa (by decide))]
            show w_R xs Ln 134 (85, [(0, .ref 199), (1, .int (Int32.ofNat i)), (2, .int x)], [.int (I 246 i)], (s_up I 199 59 0, J, kR w rem, Z), 0, 0) _
            refine w_R.ret 2 (.inl (some (.int (I 246 i)))) (s_up I 199 59 0, J, kR w rem, Z) ?_ (fun x_ Q_ k_ => ⟨trivial, trivial, ⟨Nat.le_of_ble_eq_true rfl, Nat.le_of_ble_eq_true rfl⟩, k_⟩)
            exact ⟨by rw [show v_134 I J Z i x n = (I 246 i) from by unfold v_134; rw [if_neg h1, if_neg h2, if_neg h3, if_neg h4, if_pos h5]] <;> rfl, by rw [show i_134 I J Z i x n = (s_up I 199 59 0) from by unfold i_134; rfl]⟩
        · refine w_R.go (c' := (71, [(0, .ref 199), (1, .int (Int32.ofNat i)), (2, .int x)], [.int ((s_up I 199 59 0) 245 (Int32.ofNat i).toNatClampNeg)], (s_up I 199 59 0, J, kR w rem, Z), 0, 0)) 4 ?_ (fun m_ x_ Q_ k_ => ⟨trivial, ⟨sh_199, (Nat.succ_ne_zero 244)⟩, trivial, ⟨_, sh_245, (n_in (a := i) (by omega) (by decide))⟩, k_⟩)
          rw [n_cl (a := i) (by omega)]
          rw [show (s_up I 199 59 0) 245 i = I 245 i from (s_upa (by decide))]
          show w_R xs Ln 134 (71, [(0, .ref 199), (1, .int (Int32.ofNat i)), (2, .int x)], [.int (I 245 i)], (s_up I 199 59 0, J, kR w rem, Z), 0, 0) _
          refine w_R.ret 2 (.inl (some (.int (I 245 i)))) (s_up I 199 59 0, J, kR w rem, Z) ?_ (fun x_ Q_ k_ => ⟨trivial, trivial, ⟨Nat.le_of_ble_eq_true rfl, Nat.le_of_ble_eq_true rfl⟩, k_⟩)
          exact ⟨by rw [show v_134 I J Z i x n = (I 245 i) from by unfold v_134; rw [if_neg h1, if_neg h2, if_neg h3, if_pos h4]] <;> rfl, by rw [show i_134 I J Z i x n = (s_up I 199 59 0) from by unfold i_134; rfl]⟩
      · refine w_R.go (c' := (57, [(0, .ref 199), (1, .int (Int32.ofNat i)), (2, .int x)], [.int ((s_up I 199 59 0) 244 (Int32.ofNat i).toNatClampNeg)], (s_up I 199 59 0, J, kR w rem, Z), 0, 0)) 4 ?_ (fun m_ x_ Q_ k_ => ⟨trivial, ⟨sh_199, (Nat.succ_ne_zero 243)⟩, trivial, ⟨_, sh_244, (n_in (a := i) (by omega) (by decide))⟩, k_⟩)
        rw [n_cl (a := i) (by omega)]
        rw [show (s_up I 199 59 0) 244 i = I 244 i from (s_upa (by decide))]
        show w_R xs Ln 134 (57, [(0, .ref 199), (1, .int (Int32.ofNat i)), (2, .int x)], [.int (I 244 i)], (s_up I 199 59 0, J, kR w rem, Z), 0, 0) _
        refine w_R.ret 2 (.inl (some (.int (I 244 i)))) (s_up I 199 59 0, J, kR w rem, Z) ?_ (fun x_ Q_ k_ => ⟨trivial, trivial, ⟨Nat.le_of_ble_eq_true rfl, Nat.le_of_ble_eq_true rfl⟩, k_⟩)
        exact ⟨by rw [show v_134 I J Z i x n = (I 244 i) from by unfold v_134; rw [if_neg h1, if_neg h2, if_pos h3]] <;> rfl, by rw [show i_134 I J Z i x n = (s_up I 199 59 0) from by unfold i_134; rfl]⟩
    · refine w_R.go (c' := (43, [(0, .ref 199), (1, .int (Int32.ofNat i)), (2, .int x)], [.int ((s_up I 199 59 0) 243 (Int32.ofNat i).toNatClampNeg)], (s_up I 199 59 0, J, kR w rem, Z), 0, 0)) 4 ?_ (fun m_ x_ Q_ k_ => ⟨trivial, ⟨sh_199, (Nat.succ_ne_zero 242)⟩, trivial, ⟨_, sh_243, (n_in (a := i) (by omega) (by decide))⟩, k_⟩)
      rw [n_cl (a := i) (by omega)]
      rw [show (s_up I 199 59 0) 243 i = I 243 i from (s_upa (by decide))]
      show w_R xs Ln 134 (43, [(0, .ref 199), (1, .int (Int32.ofNat i)), (2, .int x)], [.int (I 243 i)], (s_up I 199 59 0, J, kR w rem, Z), 0, 0) _
      refine w_R.ret 2 (.inl (some (.int (I 243 i)))) (s_up I 199 59 0, J, kR w rem, Z) ?_ (fun x_ Q_ k_ => ⟨trivial, trivial, ⟨Nat.le_of_ble_eq_true rfl, Nat.le_of_ble_eq_true rfl⟩, k_⟩)
      exact ⟨by rw [show v_134 I J Z i x n = (I 243 i) from by unfold v_134; rw [if_neg h1, if_pos h2]] <;> rfl, by rw [show i_134 I J Z i x n = (s_up I 199 59 0) from by unfold i_134; rfl]⟩
  · refine w_R.go (c' := (29, [(0, .ref 199), (1, .int (Int32.ofNat i)), (2, .int x)], [.int ((s_up I 199 59 0) 242 (Int32.ofNat i).toNatClampNeg)], (s_up I 199 59 0, J, kR w rem, Z), 0, 0)) 4 ?_ (fun m_ x_ Q_ k_ => ⟨trivial, ⟨sh_199, (Nat.succ_ne_zero 241)⟩, trivial, ⟨_, sh_242, (n_in (a := i) (by omega) (by decide))⟩, k_⟩)
    rw [n_cl (a := i) (by omega)]
    rw [show (s_up I 199 59 0) 242 i = I 242 i from (s_upa (by decide))]
    show w_R xs Ln 134 (29, [(0, .ref 199), (1, .int (Int32.ofNat i)), (2, .int x)], [.int (I 242 i)], (s_up I 199 59 0, J, kR w rem, Z), 0, 0) _
    refine w_R.ret 2 (.inl (some (.int (I 242 i)))) (s_up I 199 59 0, J, kR w rem, Z) ?_ (fun x_ Q_ k_ => ⟨trivial, trivial, ⟨Nat.le_of_ble_eq_true rfl, Nat.le_of_ble_eq_true rfl⟩, k_⟩)
    exact ⟨by rw [show v_134 I J Z i x n = (I 242 i) from by unfold v_134; rw [if_pos h1]] <;> rfl, by rw [show i_134 I J Z i x n = (s_up I 199 59 0) from by unfold i_134; rfl]⟩
theorem b_3_0 (n : Int32) (x : Int32) (y : Int32) (g : Int32) (hn : l_rg n 0 16 = false) : w_R xs Ln 3 (0, [(0, .ref 1), (1, .int n), (2, .int x), (3, .int y), (4, .int g)], [], (I, J, kR w rem, Z), 0, 0) (fun o s => o = .inl (some (.int 0)) ∧ s = (I, J, kR w rem, Z)) := by
  refine w_R.go (c' := (1, [(0, .ref 1), (1, .int n), (2, .int x), (3, .int y), (4, .int g)], [.int n], (I, J, kR w rem, Z), 0, 0)) 1 ?_ (fun m_ x_ Q_ k_ => ⟨trivial, k_⟩)
  refine w_R.callS (ce' := 0) (sl' := 0) (v := some (.int (s_b false))) (σ' := (I, J, kR w rem, Z)) (as := [.int n]) (rest := []) (d_30F n hn) ?_ rfl rfl rfl rfl rfl rfl rfl rfl rfl
  show w_R xs Ln 3 (4, [(0, .ref 1), (1, .int n), (2, .int x), (3, .int y), (4, .int g)], [.int (s_b false)], (I, J, kR w rem, Z), 0, 0) _
  refine w_R.ret 3 (.inl (some (.int 0))) (I, J, kR w rem, Z) ?_ (fun x_ Q_ k_ => ⟨trivial, trivial, Or.inl rfl, ⟨Nat.le_of_ble_eq_true rfl, Nat.le_of_ble_eq_true rfl⟩, k_⟩)
  exact ⟨rfl, rfl⟩
theorem b_114_0 (n : Int32) (x : Int32) (y : Int32) (g : Int32) (hn : l_rg n 0 16 = false) : w_R xs Ln 114 (0, [(0, .ref 199), (1, .int n), (2, .int x), (3, .int y), (4, .int g)], [], (I, J, kR w rem, Z), 0, 0) (fun o s => o = .inl (some (.int 0)) ∧ s = (s_up I 199 59 0, J, kR w rem, Z)) := by
  refine w_R.go (c' := (i_br .ne g 0 34 10, [(0, .ref 199), (1, .int n), (2, .int x), (3, .int y), (4, .int g)], [], (s_up I 199 59 0, J, kR w rem, Z), 0, 0)) 5 ?_ (fun m_ x_ Q_ k_ => ⟨trivial, trivial, ⟨sh_199, trivial⟩, trivial, trivial, k_⟩)
  refine w_R.br_ne (fun h1 => ?_) (fun h1 => ?_)
  · refine w_R.go (c' := (41, [(5, .int 0), (0, .ref 199), (1, .int n), (2, .int x), (3, .int y), (4, .int g)], [.int 15, .int 0, .int n], (s_up I 199 59 0, J, kR w rem, Z), 0, 0)) 5 ?_ (fun m_ x_ Q_ k_ => ⟨trivial, trivial, trivial, trivial, trivial, k_⟩)
    refine w_R.callS (ce' := 0) (sl' := 0) (v := some (.int (s_b false))) (σ' := (s_up I 199 59 0, J, kR w rem, Z)) (as := [.int n, .int 0, .int 15]) (rest := []) (d_106F n 0 15 (by decide) (by decide) hn) ?_ rfl rfl rfl rfl rfl rfl rfl rfl rfl
    show w_R xs Ln 114 (44, [(5, .int 0), (0, .ref 199), (1, .int n), (2, .int x), (3, .int y), (4, .int g)], [.int (s_b false)], (s_up I 199 59 0, J, kR w rem, Z), 0, 0) _
    refine w_R.ret 3 (.inl (some (.int 0))) (s_up I 199 59 0, J, kR w rem, Z) ?_ (fun x_ Q_ k_ => ⟨trivial, trivial, Or.inl rfl, ⟨Nat.le_of_ble_eq_true rfl, Nat.le_of_ble_eq_true rfl⟩, k_⟩)
    exact ⟨rfl, rfl⟩
  · refine w_R.go (c' := (14, [(0, .ref 199), (1, .int n), (2, .int x), (3, .int y), (4, .int g)], [.int 15, .int 0, .int x], (s_up I 199 59 0, J, kR w rem, Z), 0, 0)) 3 ?_ (fun m_ x_ Q_ k_ => ⟨trivial, trivial, trivial, k_⟩)
    refine w_R.callS (ce' := 0) (sl' := 0) (v := some (.int (s_b (l_rg x 0 (15 + 1))))) (σ' := (s_up I 199 59 0, J, kR w rem, Z)) (as := [.int x, .int 0, .int 15]) (rest := []) (d_106L x 0 15 (by decide) (by decide)) ?_ rfl rfl rfl rfl rfl rfl rfl rfl rfl
    show w_R xs Ln 114 (17, [(0, .ref 199), (1, .int n), (2, .int x), (3, .int y), (4, .int g)], [.int (s_b (l_rg x 0 (15 + 1)))], (s_up I 199 59 0, J, kR w rem, Z), 0, 0) _
    refine w_R.go (c' := (i_br .eq (s_b (l_rg x 0 (15 + 1))) 0 34 20, [(0, .ref 199), (1, .int n), (2, .int x), (3, .int y), (4, .int g)], [], (s_up I 199 59 0, J, kR w rem, Z), 0, 0)) 1 ?_ (fun m_ x_ Q_ k_ => ⟨trivial, k_⟩)
    refine w_R.br_z (fun h2 => ?_) (fun h2 => ?_)
    · replace h2 := Bool.eq_false_iff.mp h2
      refine w_R.go (c' := (41, [(5, .int 0), (0, .ref 199), (1, .int n), (2, .int x), (3, .int y), (4, .int g)], [.int 15, .int 0, .int n], (s_up I 199 59 0, J, kR w rem, Z), 0, 0)) 5 ?_ (fun m_ x_ Q_ k_ => ⟨trivial, trivial, trivial, trivial, trivial, k_⟩)
      refine w_R.callS (ce' := 0) (sl' := 0) (v := some (.int (s_b false))) (σ' := (s_up I 199 59 0, J, kR w rem, Z)) (as := [.int n, .int 0, .int 15]) (rest := []) (d_106F n 0 15 (by decide) (by decide) hn) ?_ rfl rfl rfl rfl rfl rfl rfl rfl rfl
      show w_R xs Ln 114 (44, [(5, .int 0), (0, .ref 199), (1, .int n), (2, .int x), (3, .int y), (4, .int g)], [.int (s_b false)], (s_up I 199 59 0, J, kR w rem, Z), 0, 0) _
      refine w_R.ret 3 (.inl (some (.int 0))) (s_up I 199 59 0, J, kR w rem, Z) ?_ (fun x_ Q_ k_ => ⟨trivial, trivial, Or.inl rfl, ⟨Nat.le_of_ble_eq_true rfl, Nat.le_of_ble_eq_true rfl⟩, k_⟩)
      exact ⟨rfl, rfl⟩
    · refine w_R.go (c' := (24, [(0, .ref 199), (1, .int n), (2, .int x), (3, .int y), (4, .int g)], [.int 15, .int 0, .int y], (s_up I 199 59 0, J, kR w rem, Z), 0, 0)) 3 ?_ (fun m_ x_ Q_ k_ => ⟨trivial, trivial, trivial, k_⟩)
      refine w_R.callS (ce' := 0) (sl' := 0) (v := some (.int (s_b (l_rg y 0 (15 + 1))))) (σ' := (s_up I 199 59 0, J, kR w rem, Z)) (as := [.int y, .int 0, .int 15]) (rest := []) (d_106L y 0 15 (by decide) (by decide)) ?_ rfl rfl rfl rfl rfl rfl rfl rfl rfl
      show w_R xs Ln 114 (27, [(0, .ref 199), (1, .int n), (2, .int x), (3, .int y), (4, .int g)], [.int (s_b (l_rg y 0 (15 + 1)))], (s_up I 199 59 0, J, kR w rem, Z), 0, 0) _
      refine w_R.go (c' := (i_br .eq (s_b (l_rg y 0 (15 + 1))) 0 34 30, [(0, .ref 199), (1, .int n), (2, .int x), (3, .int y), (4, .int g)], [], (s_up I 199 59 0, J, kR w rem, Z), 0, 0)) 1 ?_ (fun m_ x_ Q_ k_ => ⟨trivial, k_⟩)
      refine w_R.br_z (fun h3 => ?_) (fun h3 => ?_)
      · replace h3 := Bool.eq_false_iff.mp h3
        refine w_R.go (c' := (41, [(5, .int 0), (0, .ref 199), (1, .int n), (2, .int x), (3, .int y), (4, .int g)], [.int 15, .int 0, .int n], (s_up I 199 59 0, J, kR w rem, Z), 0, 0)) 5 ?_ (fun m_ x_ Q_ k_ => ⟨trivial, trivial, trivial, trivial, trivial, k_⟩)
        refine w_R.callS (ce' := 0) (sl' := 0) (v := some (.int (s_b false))) (σ' := (s_up I 199 59 0, J, kR w rem, Z)) (as := [.int n, .int 0, .int 15]) (rest := []) (d_106F n 0 15 (by decide) (by decide) hn) ?_ rfl rfl rfl rfl rfl rfl rfl rfl rfl
        show w_R xs Ln 114 (44, [(5, .int 0), (0, .ref 199), (1, .int n), (2, .int x), (3, .int y), (4, .int g)], [.int (s_b false)], (s_up I 199 59 0, J, kR w rem, Z), 0, 0) _
        refine w_R.ret 3 (.inl (some (.int 0))) (s_up I 199 59 0, J, kR w rem, Z) ?_ (fun x_ Q_ k_ => ⟨trivial, trivial, Or.inl rfl, ⟨Nat.le_of_ble_eq_true rfl, Nat.le_of_ble_eq_true rfl⟩, k_⟩)
        exact ⟨rfl, rfl⟩
      · refine w_R.go (c' := (41, [(5, .int 1), (0, .ref 199), (1, .int n), (2, .int x), (3, .int y), (4, .int g)], [.int 15, .int 0, .int n], (s_up I 199 59 0, J, kR w rem, Z), 0, 0)) 6 ?_ (fun m_ x_ Q_ k_ => ⟨trivial, trivial, trivial, trivial, trivial, trivial, k_⟩)
        refine w_R.callS (ce' := 0) (sl' := 0) (v := some (.int (s_b false))) (σ' := (s_up I 199 59 0, J, kR w rem, Z)) (as := [.int n, .int 0, .int 15]) (rest := []) (d_106F n 0 15 (by decide) (by decide) hn) ?_ rfl rfl rfl rfl rfl rfl rfl rfl rfl
        show w_R xs Ln 114 (44, [(5, .int 1), (0, .ref 199), (1, .int n), (2, .int x), (3, .int y), (4, .int g)], [.int (s_b false)], (s_up I 199 59 0, J, kR w rem, Z), 0, 0) _
        refine w_R.ret 3 (.inl (some (.int 0))) (s_up I 199 59 0, J, kR w rem, Z) ?_ (fun x_ Q_ k_ => ⟨trivial, trivial, Or.inl rfl, ⟨Nat.le_of_ble_eq_true rfl, Nat.le_of_ble_eq_true rfl⟩, k_⟩)
        exact ⟨rfl, rfl⟩
theorem b_3_3 (n : Nat) (x : Int32) (y : Int32) (g : Int32) (hn : n < 16) (hg : l_rg g 0 6 = false) : w_R xs Ln 3 (0, [(0, .ref 1), (1, .int (Int32.ofNat n)), (2, .int x), (3, .int y), (4, .int g)], [], (I, J, kR w rem, Z), 0, 0) (fun o s => o = .inl (some (.int 0)) ∧ s = (I, J, kR w rem, Z)) := by
  refine w_R.go (c' := (1, [(0, .ref 1), (1, .int (Int32.ofNat n)), (2, .int x), (3, .int y), (4, .int g)], [.int (Int32.ofNat n)], (I, J, kR w rem, Z), 0, 0)) 1 ?_ (fun m_ x_ Q_ k_ => ⟨trivial, k_⟩)
  refine w_R.callS (ce' := 0) (sl' := 0) (v := some (.int (s_b true))) (σ' := (I, J, kR w rem, Z)) (as := [.int (Int32.ofNat n)]) (rest := []) (d_30N n (by omega)) ?_ rfl rfl rfl rfl rfl rfl rfl rfl rfl
  show w_R xs Ln 3 (4, [(0, .ref 1), (1, .int (Int32.ofNat n)), (2, .int x), (3, .int y), (4, .int g)], [.int (s_b true)], (I, J, kR w rem, Z), 0, 0) _
  refine w_R.go (c' := (i_br .lt g 0 18 12, [(0, .ref 1), (1, .int (Int32.ofNat n)), (2, .int x), (3, .int y), (4, .int g)], [], (I, J, kR w rem, Z), 0, 0)) 3 ?_ (fun m_ x_ Q_ k_ => ⟨trivial, trivial, trivial, k_⟩)
  refine w_R.br_lt (fun h1 => ?_) (fun h1 => ?_)
  · refine w_R.ret 2 (.inl (some (.int 0))) (I, J, kR w rem, Z) ?_ (fun x_ Q_ k_ => ⟨trivial, Or.inl rfl, ⟨Nat.le_of_ble_eq_true rfl, Nat.le_of_ble_eq_true rfl⟩, k_⟩)
    exact ⟨rfl, rfl⟩
  · refine w_R.go (c' := (i_br .le g 5 20 18, [(0, .ref 1), (1, .int (Int32.ofNat n)), (2, .int x), (3, .int y), (4, .int g)], [], (I, J, kR w rem, Z), 0, 0)) 3 ?_ (fun m_ x_ Q_ k_ => ⟨trivial, trivial, trivial, k_⟩)
    refine w_R.br_le (fun h2 => ?_) (fun h2 => ?_)
    · exact (l_no hg h1 h2 rfl rfl).elim
    · refine w_R.ret 2 (.inl (some (.int 0))) (I, J, kR w rem, Z) ?_ (fun x_ Q_ k_ => ⟨trivial, Or.inl rfl, ⟨Nat.le_of_ble_eq_true rfl, Nat.le_of_ble_eq_true rfl⟩, k_⟩)
      exact ⟨rfl, rfl⟩
theorem b_114_3 (n : Nat) (x : Int32) (y : Int32) (g : Int32) (hn : n < 16) (hg : l_rg g 0 6 = false) : w_R xs Ln 114 (0, [(0, .ref 199), (1, .int (Int32.ofNat n)), (2, .int x), (3, .int y), (4, .int g)], [], (I, J, kR w rem, Z), 0, 0) (fun o s => o = .inl (some (.int 0)) ∧ s = (s_up I 199 59 0, J, kR w rem, Z)) := by
  refine w_R.go (c' := (i_br .ne g 0 34 10, [(0, .ref 199), (1, .int (Int32.ofNat n)), (2, .int x), (3, .int y), (4, .int g)], [], (s_up I 199 59 0, J, kR w rem, Z), 0, 0)) 5 ?_ (fun m_ x_ Q_ k_ => ⟨trivial, trivial, ⟨sh_199, trivial⟩, trivial, trivial, k_⟩)
  refine w_R.br_ne (fun h1 => ?_) (fun h1 => ?_)
  · refine w_R.go (c' := (41, [(5, .int 0), (0, .ref 199), (1, .int (Int32.ofNat n)), (2, .int x), (3, .int y), (4, .int g)], [.int 15, .int 0, .int (Int32.ofNat n)], (s_up I 199 59 0, J, kR w rem, Z), 0, 0)) 5 ?_ (fun m_ x_ Q_ k_ => ⟨trivial, trivial, trivial, trivial, trivial, k_⟩)
    refine w_R.callS (ce' := 0) (sl' := 0) (v := some (.int (s_b true))) (σ' := (s_up I 199 59 0, J, kR w rem, Z)) (as := [.int (Int32.ofNat n), .int 0, .int 15]) (rest := []) (d_106T n 0 15 (by omega) (by omega) (by decide)) ?_ rfl rfl rfl rfl rfl rfl rfl rfl rfl
    show w_R xs Ln 114 (44, [(5, .int 0), (0, .ref 199), (1, .int (Int32.ofNat n)), (2, .int x), (3, .int y), (4, .int g)], [.int (s_b true)], (s_up I 199 59 0, J, kR w rem, Z), 0, 0) _
    refine w_R.go (c' := (56, [(5, .int 0), (0, .ref 199), (1, .int (Int32.ofNat n)), (2, .int x), (3, .int y), (4, .int g)], [.int 5, .int 1, .int g], (s_up I 199 59 0, J, kR w rem, Z), 0, 0)) 6 ?_ (fun m_ x_ Q_ k_ => ⟨trivial, trivial, trivial, trivial, trivial, trivial, k_⟩)
    refine w_R.callS (ce' := 0) (sl' := 0) (v := some (.int (s_b false))) (σ' := (s_up I 199 59 0, J, kR w rem, Z)) (as := [.int g, .int 1, .int 5]) (rest := []) (d_106F g 1 5 (by decide) (by decide) (l_sub hg (by decide) (by decide))) ?_ rfl rfl rfl rfl rfl rfl rfl rfl rfl
    show w_R xs Ln 114 (59, [(5, .int 0), (0, .ref 199), (1, .int (Int32.ofNat n)), (2, .int x), (3, .int y), (4, .int g)], [.int (s_b false)], (s_up I 199 59 0, J, kR w rem, Z), 0, 0) _
    refine w_R.ret 3 (.inl (some (.int 0))) (s_up I 199 59 0, J, kR w rem, Z) ?_ (fun x_ Q_ k_ => ⟨trivial, trivial, Or.inl rfl, ⟨Nat.le_of_ble_eq_true rfl, Nat.le_of_ble_eq_true rfl⟩, k_⟩)
    exact ⟨rfl, rfl⟩
  · rw [h1] at hg; exact absurd hg (by decide)
theorem b_3_1 (n : Nat) (x : Int32) (y : Int32) (hn : n < 16) (hx : l_rg x 0 16 = false) : w_R xs Ln 3 (0, [(0, .ref 1), (1, .int (Int32.ofNat n)), (2, .int x), (3, .int y), (4, .int 0)], [], (I, J, kR w rem, Z), 0, 0) (fun o s => o = .inl (some (.int 0)) ∧ s = (I, J, kR w rem, Z)) := by
  refine w_R.go (c' := (1, [(0, .ref 1), (1, .int (Int32.ofNat n)), (2, .int x), (3, .int y), (4, .int 0)], [.int (Int32.ofNat n)], (I, J, kR w rem, Z), 0, 0)) 1 ?_ (fun m_ x_ Q_ k_ => ⟨trivial, k_⟩)
  refine w_R.callS (ce' := 0) (sl' := 0) (v := some (.int (s_b true))) (σ' := (I, J, kR w rem, Z)) (as := [.int (Int32.ofNat n)]) (rest := []) (d_30N n (by omega)) ?_ rfl rfl rfl rfl rfl rfl rfl rfl rfl
  show w_R xs Ln 3 (4, [(0, .ref 1), (1, .int (Int32.ofNat n)), (2, .int x), (3, .int y), (4, .int 0)], [.int (s_b true)], (I, J, kR w rem, Z), 0, 0) _
  refine w_R.go (c' := (38, [(0, .ref 1), (1, .int (Int32.ofNat n)), (2, .int x), (3, .int y), (4, .int 0)], [.int x], (I, J, kR w rem, Z), 0, 0)) 9 ?_ (fun m_ x_ Q_ k_ => ⟨trivial, trivial, trivial, trivial, trivial, trivial, trivial, trivial, trivial, k_⟩)
  refine w_R.callS (ce' := 0) (sl' := 0) (v := some (.int (s_b false))) (σ' := (I, J, kR w rem, Z)) (as := [.int x]) (rest := []) (d_30F x hx) ?_ rfl rfl rfl rfl rfl rfl rfl rfl rfl
  show w_R xs Ln 3 (41, [(0, .ref 1), (1, .int (Int32.ofNat n)), (2, .int x), (3, .int y), (4, .int 0)], [.int (s_b false)], (I, J, kR w rem, Z), 0, 0) _
  refine w_R.ret 3 (.inl (some (.int 0))) (I, J, kR w rem, Z) ?_ (fun x_ Q_ k_ => ⟨trivial, trivial, Or.inl rfl, ⟨Nat.le_of_ble_eq_true rfl, Nat.le_of_ble_eq_true rfl⟩, k_⟩)
  exact ⟨rfl, rfl⟩
theorem b_114_1 (n : Nat) (x : Int32) (y : Int32) (hn : n < 16) (hx : l_rg x 0 16 = false) : w_R xs Ln 114 (0, [(0, .ref 199), (1, .int (Int32.ofNat n)), (2, .int x), (3, .int y), (4, .int 0)], [], (I, J, kR w rem, Z), 0, 0) (fun o s => o = .inl (some (.int 0)) ∧ s = (s_up I 199 59 0, J, kR w rem, Z)) := by
  refine w_R.go (c' := (14, [(0, .ref 199), (1, .int (Int32.ofNat n)), (2, .int x), (3, .int y), (4, .int 0)], [.int 15, .int 0, .int x], (s_up I 199 59 0, J, kR w rem, Z), 0, 0)) 8 ?_ (fun m_ x_ Q_ k_ => ⟨trivial, trivial, ⟨sh_199, trivial⟩, trivial, trivial, trivial, trivial, trivial, k_⟩)
  refine w_R.callS (ce' := 0) (sl' := 0) (v := some (.int (s_b false))) (σ' := (s_up I 199 59 0, J, kR w rem, Z)) (as := [.int x, .int 0, .int 15]) (rest := []) (d_106F x 0 15 (by decide) (by decide) hx) ?_ rfl rfl rfl rfl rfl rfl rfl rfl rfl
  show w_R xs Ln 114 (17, [(0, .ref 199), (1, .int (Int32.ofNat n)), (2, .int x), (3, .int y), (4, .int 0)], [.int (s_b false)], (s_up I 199 59 0, J, kR w rem, Z), 0, 0) _
  refine w_R.go (c' := (41, [(5, .int 0), (0, .ref 199), (1, .int (Int32.ofNat n)), (2, .int x), (3, .int y), (4, .int 0)], [.int 15, .int 0, .int (Int32.ofNat n)], (s_up I 199 59 0, J, kR w rem, Z), 0, 0)) 6 ?_ (fun m_ x_ Q_ k_ => ⟨trivial, trivial, trivial, trivial, trivial, trivial, k_⟩)
  refine w_R.callS (ce' := 0) (sl' := 0) (v := some (.int (s_b true))) (σ' := (s_up I 199 59 0, J, kR w rem, Z)) (as := [.int (Int32.ofNat n), .int 0, .int 15]) (rest := []) (d_106T n 0 15 (by omega) (by omega) (by decide)) ?_ rfl rfl rfl rfl rfl rfl rfl rfl rfl
  show w_R xs Ln 114 (44, [(5, .int 0), (0, .ref 199), (1, .int (Int32.ofNat n)), (2, .int x), (3, .int y), (4, .int 0)], [.int (s_b true)], (s_up I 199 59 0, J, kR w rem, Z), 0, 0) _
  refine w_R.go (c' := (56, [(5, .int 0), (0, .ref 199), (1, .int (Int32.ofNat n)), (2, .int x), (3, .int y), (4, .int 0)], [.int 5, .int 1, .int 0], (s_up I 199 59 0, J, kR w rem, Z), 0, 0)) 6 ?_ (fun m_ x_ Q_ k_ => ⟨trivial, trivial, trivial, trivial, trivial, trivial, k_⟩)
  refine w_R.callS (ce' := 0) (sl' := 0) (v := some (.int (s_b false))) (σ' := (s_up I 199 59 0, J, kR w rem, Z)) (as := [.int 0, .int 1, .int 5]) (rest := []) (d_106F 0 1 5 (by decide) (by decide) (by decide)) ?_ rfl rfl rfl rfl rfl rfl rfl rfl rfl
  show w_R xs Ln 114 (59, [(5, .int 0), (0, .ref 199), (1, .int (Int32.ofNat n)), (2, .int x), (3, .int y), (4, .int 0)], [.int (s_b false)], (s_up I 199 59 0, J, kR w rem, Z), 0, 0) _
  refine w_R.ret 3 (.inl (some (.int 0))) (s_up I 199 59 0, J, kR w rem, Z) ?_ (fun x_ Q_ k_ => ⟨trivial, trivial, Or.inl rfl, ⟨Nat.le_of_ble_eq_true rfl, Nat.le_of_ble_eq_true rfl⟩, k_⟩)
  exact ⟨rfl, rfl⟩
theorem b_3_2 (n : Nat) (x : Nat) (y : Int32) (hn : n < 16) (hx : x < 16) (hy : l_rg y 0 16 = false) : w_R xs Ln 3 (0, [(0, .ref 1), (1, .int (Int32.ofNat n)), (2, .int (Int32.ofNat x)), (3, .int y), (4, .int 0)], [], (I, J, kR w rem, Z), 0, 0) (fun o s => o = .inl (some (.int 0)) ∧ s = (I, J, kR w rem, Z)) := by
  refine w_R.go (c' := (1, [(0, .ref 1), (1, .int (Int32.ofNat n)), (2, .int (Int32.ofNat x)), (3, .int y), (4, .int 0)], [.int (Int32.ofNat n)], (I, J, kR w rem, Z), 0, 0)) 1 ?_ (fun m_ x_ Q_ k_ => ⟨trivial, k_⟩)
  refine w_R.callS (ce' := 0) (sl' := 0) (v := some (.int (s_b true))) (σ' := (I, J, kR w rem, Z)) (as := [.int (Int32.ofNat n)]) (rest := []) (d_30N n (by omega)) ?_ rfl rfl rfl rfl rfl rfl rfl rfl rfl
  show w_R xs Ln 3 (4, [(0, .ref 1), (1, .int (Int32.ofNat n)), (2, .int (Int32.ofNat x)), (3, .int y), (4, .int 0)], [.int (s_b true)], (I, J, kR w rem, Z), 0, 0) _
  refine w_R.go (c' := (38, [(0, .ref 1), (1, .int (Int32.ofNat n)), (2, .int (Int32.ofNat x)), (3, .int y), (4, .int 0)], [.int (Int32.ofNat x)], (I, J, kR w rem, Z), 0, 0)) 9 ?_ (fun m_ x_ Q_ k_ => ⟨trivial, trivial, trivial, trivial, trivial, trivial, trivial, trivial, trivial, k_⟩)
  refine w_R.callS (ce' := 0) (sl' := 0) (v := some (.int (s_b true))) (σ' := (I, J, kR w rem, Z)) (as := [.int (Int32.ofNat x)]) (rest := []) (d_30N x (by omega)) ?_ rfl rfl rfl rfl rfl rfl rfl rfl rfl
  show w_R xs Ln 3 (41, [(0, .ref 1), (1, .int (Int32.ofNat n)), (2, .int (Int32.ofNat x)), (3, .int y), (4, .int 0)], [.int (s_b true)], (I, J, kR w rem, Z), 0, 0) _
  refine w_R.go (c' := (45, [(0, .ref 1), (1, .int (Int32.ofNat n)), (2, .int (Int32.ofNat x)), (3, .int y), (4, .int 0)], [.int y], (I, J, kR w rem, Z), 0, 0)) 2 ?_ (fun m_ x_ Q_ k_ => ⟨trivial, trivial, k_⟩)
  refine w_R.callS (ce' := 0) (sl' := 0) (v := some (.int (s_b false))) (σ' := (I, J, kR w rem, Z)) (as := [.int y]) (rest := []) (d_30F y hy) ?_ rfl rfl rfl rfl rfl rfl rfl rfl rfl
  show w_R xs Ln 3 (48, [(0, .ref 1), (1, .int (Int32.ofNat n)), (2, .int (Int32.ofNat x)), (3, .int y), (4, .int 0)], [.int (s_b false)], (I, J, kR w rem, Z), 0, 0) _
  refine w_R.ret 3 (.inl (some (.int 0))) (I, J, kR w rem, Z) ?_ (fun x_ Q_ k_ => ⟨trivial, trivial, Or.inl rfl, ⟨Nat.le_of_ble_eq_true rfl, Nat.le_of_ble_eq_true rfl⟩, k_⟩)
  exact ⟨rfl, rfl⟩
theorem b_114_2 (n : Nat) (x : Nat) (y : Int32) (hn : n < 16) (hx : x < 16) (hy : l_rg y 0 16 = false) : w_R xs Ln 114 (0, [(0, .ref 199), (1, .int (Int32.ofNat n)), (2, .int (Int32.ofNat x)), (3, .int y), (4, .int 0)], [], (I, J, kR w rem, Z), 0, 0) (fun o s => o = .inl (some (.int 0)) ∧ s = (s_up I 199 59 0, J, kR w rem, Z)) := by
  refine w_R.go (c' := (14, [(0, .ref 199), (1, .int (Int32.ofNat n)), (2, .int (Int32.ofNat x)), (3, .int y), (4, .int 0)], [.int 15, .int 0, .int (Int32.ofNat x)], (s_up I 199 59 0, J, kR w rem, Z), 0, 0)) 8 ?_ (fun m_ x_ Q_ k_ => ⟨trivial, trivial, ⟨sh_199, trivial⟩, trivial, trivial, trivial, trivial, trivial, k_⟩)
  refine w_R.callS (ce' := 0) (sl' := 0) (v := some (.int (s_b true))) (σ' := (s_up I 199 59 0, J, kR w rem, Z)) (as := [.int (Int32.ofNat x), .int 0, .int 15]) (rest := []) (d_106T x 0 15 (by omega) (by omega) (by decide)) ?_ rfl rfl rfl rfl rfl rfl rfl rfl rfl
  show w_R xs Ln 114 (17, [(0, .ref 199), (1, .int (Int32.ofNat n)), (2, .int (Int32.ofNat x)), (3, .int y), (4, .int 0)], [.int (s_b true)], (s_up I 199 59 0, J, kR w rem, Z), 0, 0) _
  refine w_R.go (c' := (24, [(0, .ref 199), (1, .int (Int32.ofNat n)), (2, .int (Int32.ofNat x)), (3, .int y), (4, .int 0)], [.int 15, .int 0, .int y], (s_up I 199 59 0, J, kR w rem, Z), 0, 0)) 4 ?_ (fun m_ x_ Q_ k_ => ⟨trivial, trivial, trivial, trivial, k_⟩)
  refine w_R.callS (ce' := 0) (sl' := 0) (v := some (.int (s_b false))) (σ' := (s_up I 199 59 0, J, kR w rem, Z)) (as := [.int y, .int 0, .int 15]) (rest := []) (d_106F y 0 15 (by decide) (by decide) hy) ?_ rfl rfl rfl rfl rfl rfl rfl rfl rfl
  show w_R xs Ln 114 (27, [(0, .ref 199), (1, .int (Int32.ofNat n)), (2, .int (Int32.ofNat x)), (3, .int y), (4, .int 0)], [.int (s_b false)], (s_up I 199 59 0, J, kR w rem, Z), 0, 0) _
  refine w_R.go (c' := (41, [(5, .int 0), (0, .ref 199), (1, .int (Int32.ofNat n)), (2, .int (Int32.ofNat x)), (3, .int y), (4, .int 0)], [.int 15, .int 0, .int (Int32.ofNat n)], (s_up I 199 59 0, J, kR w rem, Z), 0, 0)) 6 ?_ (fun m_ x_ Q_ k_ => ⟨trivial, trivial, trivial, trivial, trivial, trivial, k_⟩)
  refine w_R.callS (ce' := 0) (sl' := 0) (v := some (.int (s_b true))) (σ' := (s_up I 199 59 0, J, kR w rem, Z)) (as := [.int (Int32.ofNat n), .int 0, .int 15]) (rest := []) (d_106T n 0 15 (by omega) (by omega) (by decide)) ?_ rfl rfl rfl rfl rfl rfl rfl rfl rfl
  show w_R xs Ln 114 (44, [(5, .int 0), (0, .ref 199), (1, .int (Int32.ofNat n)), (2, .int (Int32.ofNat x)), (3, .int y), (4, .int 0)], [.int (s_b true)], (s_up I 199 59 0, J, kR w rem, Z), 0, 0) _
  refine w_R.go (c' := (56, [(5, .int 0), (0, .ref 199), (1, .int (Int32.ofNat n)), (2, .int (Int32.ofNat x)), (3, .int y), (4, .int 0)], [.int 5, .int 1, .int 0], (s_up I 199 59 0, J, kR w rem, Z), 0, 0)) 6 ?_ (fun m_ x_ Q_ k_ => ⟨trivial, trivial, trivial, trivial, trivial, trivial, k_⟩)
  refine w_R.callS (ce' := 0) (sl' := 0) (v := some (.int (s_b false))) (σ' := (s_up I 199 59 0, J, kR w rem, Z)) (as := [.int 0, .int 1, .int 5]) (rest := []) (d_106F 0 1 5 (by decide) (by decide) (by decide)) ?_ rfl rfl rfl rfl rfl rfl rfl rfl rfl
  show w_R xs Ln 114 (59, [(5, .int 0), (0, .ref 199), (1, .int (Int32.ofNat n)), (2, .int (Int32.ofNat x)), (3, .int y), (4, .int 0)], [.int (s_b false)], (s_up I 199 59 0, J, kR w rem, Z), 0, 0) _
  refine w_R.ret 3 (.inl (some (.int 0))) (s_up I 199 59 0, J, kR w rem, Z) ?_ (fun x_ Q_ k_ => ⟨trivial, trivial, Or.inl rfl, ⟨Nat.le_of_ble_eq_true rfl, Nat.le_of_ble_eq_true rfl⟩, k_⟩)
  exact ⟨rfl, rfl⟩
def v_3l (I : Nat → Nat → Int32) (J : Nat → Nat → Int64) (Z : Nat → Nat → Bool) (n : Nat) (x : Int32) (y : Int32) (g : Nat) : Bool := true
def i_3l (I : Nat → Nat → Int32) (J : Nat → Nat → Int64) (Z : Nat → Nat → Bool) (n : Nat) (x : Int32) (y : Int32) (g : Nat) : Nat → Nat → Int32 := i_76 I J Z n (Int32.ofNat g)
theorem d_3l (n : Nat) (x : Int32) (y : Int32) (g : Nat) (hn : n < 16) (hg : 1 ≤ g ∧ g < 6) : w_R xs Ln 3 (0, [(0, .ref 1), (1, .int (Int32.ofNat n)), (2, .int x), (3, .int y), (4, .int (Int32.ofNat g))], [], (I, J, kR w rem, Z), 0, 0) (fun o s => o = .inl (some (.int (s_b (v_3l I J Z n x y g)))) ∧ s = (i_3l I J Z n x y g, J, kR w rem, Z)) := by
  refine w_R.go (c' := (1, [(0, .ref 1), (1, .int (Int32.ofNat n)), (2, .int x), (3, .int y), (4, .int (Int32.ofNat g))], [.int (Int32.ofNat n)], (I, J, kR w rem, Z), 0, 0)) 1 ?_ (fun m_ x_ Q_ k_ => ⟨trivial, k_⟩)
  refine w_R.callS (ce' := 0) (sl' := 0) (v := some (.int (s_b true))) (σ' := (I, J, kR w rem, Z)) (as := [.int (Int32.ofNat n)]) (rest := []) (d_30N n (by omega)) ?_ rfl rfl rfl rfl rfl rfl rfl rfl rfl
  show w_R xs Ln 3 (4, [(0, .ref 1), (1, .int (Int32.ofNat n)), (2, .int x), (3, .int y), (4, .int (Int32.ofNat g))], [.int (s_b true)], (I, J, kR w rem, Z), 0, 0) _
  refine w_R.go (c' := (i_br .lt (Int32.ofNat g) 0 18 12, [(0, .ref 1), (1, .int (Int32.ofNat n)), (2, .int x), (3, .int y), (4, .int (Int32.ofNat g))], [], (I, J, kR w rem, Z), 0, 0)) 3 ?_ (fun m_ x_ Q_ k_ => ⟨trivial, trivial, trivial, k_⟩)
  rw [show i_br .lt (Int32.ofNat g) 0 18 12 = 12 from if_neg (mt (n_lt (a := g) (b := 0) (by omega) (by omega)).mp (by omega))]
  show w_R xs Ln 3 (12, [(0, .ref 1), (1, .int (Int32.ofNat n)), (2, .int x), (3, .int y), (4, .int (Int32.ofNat g))], [], (I, J, kR w rem, Z), 0, 0) _
  refine w_R.go (c' := (i_br .le (Int32.ofNat g) 5 20 18, [(0, .ref 1), (1, .int (Int32.ofNat n)), (2, .int x), (3, .int y), (4, .int (Int32.ofNat g))], [], (I, J, kR w rem, Z), 0, 0)) 3 ?_ (fun m_ x_ Q_ k_ => ⟨trivial, trivial, trivial, k_⟩)
  rw [show i_br .le (Int32.ofNat g) 5 20 18 = 20 from if_pos (Int32.not_lt.mp (mt (n_lt (a := 5) (b := g) (by omega) (by omega)).mp (by omega)))]
  show w_R xs Ln 3 (20, [(0, .ref 1), (1, .int (Int32.ofNat n)), (2, .int x), (3, .int y), (4, .int (Int32.ofNat g))], [], (I, J, kR w rem, Z), 0, 0) _
  refine w_R.go (c' := (i_br .le (Int32.ofNat g) 0 37 25, [(0, .ref 1), (1, .int (Int32.ofNat n)), (2, .int x), (3, .int y), (4, .int (Int32.ofNat g))], [], (I, J, kR w rem, Z), 0, 0)) 2 ?_ (fun m_ x_ Q_ k_ => ⟨trivial, trivial, k_⟩)
  rw [show i_br .le (Int32.ofNat g) 0 37 25 = 25 from if_neg (Int32.not_le.mpr ((n_lt (a := 0) (b := g) (by omega) (by omega)).mpr (by omega)))]
  show w_R xs Ln 3 (25, [(0, .ref 1), (1, .int (Int32.ofNat n)), (2, .int x), (3, .int y), (4, .int (Int32.ofNat g))], [], (I, J, kR w rem, Z), 0, 0) _
  refine w_R.go (c' := (32, [(0, .ref 1), (1, .int (Int32.ofNat n)), (2, .int x), (3, .int y), (4, .int (Int32.ofNat g))], [.int (Int32.ofNat g), .int (Int32.ofNat n), .ref 6], (I, J, kR w rem, Z), 0, 0)) 4 ?_ (fun m_ x_ Q_ k_ => ⟨trivial, ⟨sh_1, (Nat.succ_ne_zero 5)⟩, trivial, trivial, k_⟩)
  refine w_R.callV (ce' := 0) (sl' := 0) (v := none) (σ' := (i_76 I J Z n (Int32.ofNat g), J, kR w rem, Z)) (as := [.ref 6, .int (Int32.ofNat n), .int (Int32.ofNat g)]) (rest := []) (d_76 n (Int32.ofNat g) (by omega)) ?_ rfl rfl rfl rfl rfl sh_6 rfl rfl rfl rfl
  show w_R xs Ln 3 (35, [(0, .ref 1), (1, .int (Int32.ofNat n)), (2, .int x), (3, .int y), (4, .int (Int32.ofNat g))], [], (i_76 I J Z n (Int32.ofNat g), J, kR w rem, Z), 0, 0) _
  refine w_R.ret 2 (.inl (some (.int 1))) (i_76 I J Z n (Int32.ofNat g), J, kR w rem, Z) ?_ (fun x_ Q_ k_ => ⟨trivial, Or.inr rfl, ⟨Nat.le_of_ble_eq_true rfl, Nat.le_of_ble_eq_true rfl⟩, k_⟩)
  exact ⟨by rw [show v_3l I J Z n x y g = true from by unfold v_3l; rfl] <;> rfl, by rw [show i_3l I J Z n x y g = (i_76 I J Z n (Int32.ofNat g)) from by unfold i_3l; rfl]⟩
def v_114l (I : Nat → Nat → Int32) (J : Nat → Nat → Int64) (Z : Nat → Nat → Bool) (n : Nat) (x : Int32) (y : Int32) (g : Nat) : Bool := true
def i_114l (I : Nat → Nat → Int32) (J : Nat → Nat → Int64) (Z : Nat → Nat → Bool) (n : Nat) (x : Int32) (y : Int32) (g : Nat) : Nat → Nat → Int32 := s_up (s_up (s_up (s_up I 199 59 0) 203 n (Int32.ofNat g)) 204 n x) 205 n y
theorem d_114l (n : Nat) (x : Int32) (y : Int32) (g : Nat) (hn : n < 16) (hg : 1 ≤ g ∧ g < 6) : w_R xs Ln 114 (0, [(0, .ref 199), (1, .int (Int32.ofNat n)), (2, .int x), (3, .int y), (4, .int (Int32.ofNat g))], [], (I, J, kR w rem, Z), 0, 0) (fun o s => o = .inl (some (.int (s_b (v_114l I J Z n x y g)))) ∧ s = (i_114l I J Z n x y g, J, kR w rem, Z)) := by
  refine w_R.go (c' := (i_br .ne (Int32.ofNat g) 0 34 10, [(0, .ref 199), (1, .int (Int32.ofNat n)), (2, .int x), (3, .int y), (4, .int (Int32.ofNat g))], [], (s_up I 199 59 0, J, kR w rem, Z), 0, 0)) 5 ?_ (fun m_ x_ Q_ k_ => ⟨trivial, trivial, ⟨sh_199, trivial⟩, trivial, trivial, k_⟩)
  rw [show i_br .ne (Int32.ofNat g) 0 34 10 = 34 from if_neg (mt (n_eq (a := g) (b := 0) (by omega) (by omega)).mp (by omega))]
  show w_R xs Ln 114 (34, [(0, .ref 199), (1, .int (Int32.ofNat n)), (2, .int x), (3, .int y), (4, .int (Int32.ofNat g))], [], (s_up I 199 59 0, J, kR w rem, Z), 0, 0) _
  refine w_R.go (c' := (41, [(5, .int 0), (0, .ref 199), (1, .int (Int32.ofNat n)), (2, .int x), (3, .int y), (4, .int (Int32.ofNat g))], [.int 15, .int 0, .int (Int32.ofNat n)], (s_up I 199 59 0, J, kR w rem, Z), 0, 0)) 5 ?_ (fun m_ x_ Q_ k_ => ⟨trivial, trivial, trivial, trivial, trivial, k_⟩)
  refine w_R.callS (ce' := 0) (sl' := 0) (v := some (.int (s_b true))) (σ' := (s_up I 199 59 0, J, kR w rem, Z)) (as := [.int (Int32.ofNat n), .int 0, .int 15]) (rest := []) (d_106T n 0 15 (by omega) (by omega) (by decide)) ?_ rfl rfl rfl rfl rfl rfl rfl rfl rfl
  show w_R xs Ln 114 (44, [(5, .int 0), (0, .ref 199), (1, .int (Int32.ofNat n)), (2, .int x), (3, .int y), (4, .int (Int32.ofNat g))], [.int (s_b true)], (s_up I 199 59 0, J, kR w rem, Z), 0, 0) _
  refine w_R.go (c' := (56, [(5, .int 0), (0, .ref 199), (1, .int (Int32.ofNat n)), (2, .int x), (3, .int y), (4, .int (Int32.ofNat g))], [.int 5, .int 1, .int (Int32.ofNat g)], (s_up I 199 59 0, J, kR w rem, Z), 0, 0)) 6 ?_ (fun m_ x_ Q_ k_ => ⟨trivial, trivial, trivial, trivial, trivial, trivial, k_⟩)
  refine w_R.callS (ce' := 0) (sl' := 0) (v := some (.int (s_b true))) (σ' := (s_up I 199 59 0, J, kR w rem, Z)) (as := [.int (Int32.ofNat g), .int 1, .int 5]) (rest := []) (d_106T g 1 5 (by omega) (by omega) (by decide)) ?_ rfl rfl rfl rfl rfl rfl rfl rfl rfl
  show w_R xs Ln 114 (59, [(5, .int 0), (0, .ref 199), (1, .int (Int32.ofNat n)), (2, .int x), (3, .int y), (4, .int (Int32.ofNat g))], [.int (s_b true)], (s_up I 199 59 0, J, kR w rem, Z), 0, 0) _
  refine w_R.go (c' := (72, [(5, .int 0), (0, .ref 199), (1, .int (Int32.ofNat n)), (2, .int x), (3, .int y), (4, .int (Int32.ofNat g))], [], (s_up (s_up I 199 59 0) 203 ((Int32.ofNat n).toNatClampNeg) (Int32.ofNat g), J, kR w rem, Z), 0, 0)) 6 ?_ (fun m_ x_ Q_ k_ => ⟨trivial, trivial, ⟨sh_199, (Nat.succ_ne_zero 202)⟩, trivial, trivial, ⟨_, sh_203, (n_in (a := n) (by omega) (by decide))⟩, k_⟩)
  rw [n_cl (a := n) (by omega)]
  show w_R xs Ln 114 (72, [(5, .int 0), (0, .ref 199), (1, .int (Int32.ofNat n)), (2, .int x), (3, .int y), (4, .int (Int32.ofNat g))], [], (s_up (s_up I 199 59 0) 203 n (Int32.ofNat g), J, kR w rem, Z), 0, 0) _
  refine w_R.go (c' := (79, [(5, .int 0), (0, .ref 199), (1, .int (Int32.ofNat n)), (2, .int x), (3, .int y), (4, .int (Int32.ofNat g))], [], (s_up (s_up (s_up I 199 59 0) 203 n (Int32.ofNat g)) 204 ((Int32.ofNat n).toNatClampNeg) x, J, kR w rem, Z), 0, 0)) 5 ?_ (fun m_ x_ Q_ k_ => ⟨trivial, ⟨sh_199, (Nat.succ_ne_zero 203)⟩, trivial, trivial, ⟨_, sh_204, (n_in (a := n) (by omega) (by decide))⟩, k_⟩)
  rw [n_cl (a := n) (by omega)]
  show w_R xs Ln 114 (79, [(5, .int 0), (0, .ref 199), (1, .int (Int32.ofNat n)), (2, .int x), (3, .int y), (4, .int (Int32.ofNat g))], [], (s_up (s_up (s_up I 199 59 0) 203 n (Int32.ofNat g)) 204 n x, J, kR w rem, Z), 0, 0) _
  refine w_R.go (c' := (86, [(5, .int 0), (0, .ref 199), (1, .int (Int32.ofNat n)), (2, .int x), (3, .int y), (4, .int (Int32.ofNat g))], [], (s_up (s_up (s_up (s_up I 199 59 0) 203 n (Int32.ofNat g)) 204 n x) 205 ((Int32.ofNat n).toNatClampNeg) y, J, kR w rem, Z), 0, 0)) 5 ?_ (fun m_ x_ Q_ k_ => ⟨trivial, ⟨sh_199, (Nat.succ_ne_zero 204)⟩, trivial, trivial, ⟨_, sh_205, (n_in (a := n) (by omega) (by decide))⟩, k_⟩)
  rw [n_cl (a := n) (by omega)]
  show w_R xs Ln 114 (86, [(5, .int 0), (0, .ref 199), (1, .int (Int32.ofNat n)), (2, .int x), (3, .int y), (4, .int (Int32.ofNat g))], [], (s_up (s_up (s_up (s_up I 199 59 0) 203 n (Int32.ofNat g)) 204 n x) 205 n y, J, kR w rem, Z), 0, 0) _
  refine w_R.ret 2 (.inl (some (.int 1))) (s_up (s_up (s_up (s_up I 199 59 0) 203 n (Int32.ofNat g)) 204 n x) 205 n y, J, kR w rem, Z) ?_ (fun x_ Q_ k_ => ⟨trivial, Or.inr rfl, ⟨Nat.le_of_ble_eq_true rfl, Nat.le_of_ble_eq_true rfl⟩, k_⟩)
  exact ⟨by rw [show v_114l I J Z n x y g = true from by unfold v_114l; rfl] <;> rfl, by rw [show i_114l I J Z n x y g = (s_up (s_up (s_up (s_up I 199 59 0) 203 n (Int32.ofNat g)) 204 n x) 205 n y) from by unfold i_114l; rfl]⟩
def v_3q (I : Nat → Nat → Int32) (J : Nat → Nat → Int64) (Z : Nat → Nat → Bool) (n : Nat) (x : Nat) (y : Nat) : Bool := true
def i_3q (I : Nat → Nat → Int32) (J : Nat → Nat → Int64) (Z : Nat → Nat → Bool) (n : Nat) (x : Nat) (y : Nat) : Nat → Nat → Int32 := i_77 I J Z n (Int32.ofNat x) (Int32.ofNat y)
theorem d_3q (n : Nat) (x : Nat) (y : Nat) (hn : n < 16) (hx : x < 16) (hy : y < 16) : w_R xs Ln 3 (0, [(0, .ref 1), (1, .int (Int32.ofNat n)), (2, .int (Int32.ofNat x)), (3, .int (Int32.ofNat y)), (4, .int 0)], [], (I, J, kR w rem, Z), 0, 0) (fun o s => o = .inl (some (.int (s_b (v_3q I J Z n x y)))) ∧ s = (i_3q I J Z n x y, J, kR w rem, Z)) := by
  refine w_R.go (c' := (1, [(0, .ref 1), (1, .int (Int32.ofNat n)), (2, .int (Int32.ofNat x)), (3, .int (Int32.ofNat y)), (4, .int 0)], [.int (Int32.ofNat n)], (I, J, kR w rem, Z), 0, 0)) 1 ?_ (fun m_ x_ Q_ k_ => ⟨trivial, k_⟩)
  refine w_R.callS (ce' := 0) (sl' := 0) (v := some (.int (s_b true))) (σ' := (I, J, kR w rem, Z)) (as := [.int (Int32.ofNat n)]) (rest := []) (d_30N n (by omega)) ?_ rfl rfl rfl rfl rfl rfl rfl rfl rfl
  show w_R xs Ln 3 (4, [(0, .ref 1), (1, .int (Int32.ofNat n)), (2, .int (Int32.ofNat x)), (3, .int (Int32.ofNat y)), (4, .int 0)], [.int (s_b true)], (I, J, kR w rem, Z), 0, 0) _
  refine w_R.go (c' := (38, [(0, .ref 1), (1, .int (Int32.ofNat n)), (2, .int (Int32.ofNat x)), (3, .int (Int32.ofNat y)), (4, .int 0)], [.int (Int32.ofNat x)], (I, J, kR w rem, Z), 0, 0)) 9 ?_ (fun m_ x_ Q_ k_ => ⟨trivial, trivial, trivial, trivial, trivial, trivial, trivial, trivial, trivial, k_⟩)
  refine w_R.callS (ce' := 0) (sl' := 0) (v := some (.int (s_b true))) (σ' := (I, J, kR w rem, Z)) (as := [.int (Int32.ofNat x)]) (rest := []) (d_30N x (by omega)) ?_ rfl rfl rfl rfl rfl rfl rfl rfl rfl
  show w_R xs Ln 3 (41, [(0, .ref 1), (1, .int (Int32.ofNat n)), (2, .int (Int32.ofNat x)), (3, .int (Int32.ofNat y)), (4, .int 0)], [.int (s_b true)], (I, J, kR w rem, Z), 0, 0) _
  refine w_R.go (c' := (45, [(0, .ref 1), (1, .int (Int32.ofNat n)), (2, .int (Int32.ofNat x)), (3, .int (Int32.ofNat y)), (4, .int 0)], [.int (Int32.ofNat y)], (I, J, kR w rem, Z), 0, 0)) 2 ?_ (fun m_ x_ Q_ k_ => ⟨trivial, trivial, k_⟩)
  refine w_R.callS (ce' := 0) (sl' := 0) (v := some (.int (s_b true))) (σ' := (I, J, kR w rem, Z)) (as := [.int (Int32.ofNat y)]) (rest := []) (d_30N y (by omega)) ?_ rfl rfl rfl rfl rfl rfl rfl rfl rfl
  show w_R xs Ln 3 (48, [(0, .ref 1), (1, .int (Int32.ofNat n)), (2, .int (Int32.ofNat x)), (3, .int (Int32.ofNat y)), (4, .int 0)], [.int (s_b true)], (I, J, kR w rem, Z), 0, 0) _
  refine w_R.go (c' := (60, [(0, .ref 1), (1, .int (Int32.ofNat n)), (2, .int (Int32.ofNat x)), (3, .int (Int32.ofNat y)), (4, .int 0)], [.int (Int32.ofNat y), .int (Int32.ofNat x), .int (Int32.ofNat n), .ref 6], (I, J, kR w rem, Z), 0, 0)) 6 ?_ (fun m_ x_ Q_ k_ => ⟨trivial, trivial, ⟨sh_1, (Nat.succ_ne_zero 5)⟩, trivial, trivial, trivial, k_⟩)
  refine w_R.callV (ce' := 0) (sl' := 0) (v := none) (σ' := (i_77 I J Z n (Int32.ofNat x) (Int32.ofNat y), J, kR w rem, Z)) (as := [.ref 6, .int (Int32.ofNat n), .int (Int32.ofNat x), .int (Int32.ofNat y)]) (rest := []) (d_77 n (Int32.ofNat x) (Int32.ofNat y) (by omega)) ?_ rfl rfl rfl rfl rfl sh_6 rfl rfl rfl rfl
  show w_R xs Ln 3 (63, [(0, .ref 1), (1, .int (Int32.ofNat n)), (2, .int (Int32.ofNat x)), (3, .int (Int32.ofNat y)), (4, .int 0)], [], (i_77 I J Z n (Int32.ofNat x) (Int32.ofNat y), J, kR w rem, Z), 0, 0) _
  refine w_R.ret 2 (.inl (some (.int 1))) (i_77 I J Z n (Int32.ofNat x) (Int32.ofNat y), J, kR w rem, Z) ?_ (fun x_ Q_ k_ => ⟨trivial, Or.inr rfl, ⟨Nat.le_of_ble_eq_true rfl, Nat.le_of_ble_eq_true rfl⟩, k_⟩)
  exact ⟨by rw [show v_3q I J Z n x y = true from by unfold v_3q; rfl] <;> rfl, by rw [show i_3q I J Z n x y = (i_77 I J Z n (Int32.ofNat x) (Int32.ofNat y)) from by unfold i_3q; rfl]⟩
def v_114q (I : Nat → Nat → Int32) (J : Nat → Nat → Int64) (Z : Nat → Nat → Bool) (n : Nat) (x : Nat) (y : Nat) : Bool := true
def i_114q (I : Nat → Nat → Int32) (J : Nat → Nat → Int64) (Z : Nat → Nat → Bool) (n : Nat) (x : Nat) (y : Nat) : Nat → Nat → Int32 := s_up (s_up (s_up (s_up I 199 59 0) 203 n 0) 204 n (Int32.ofNat x)) 205 n (Int32.ofNat y)
theorem d_114q (n : Nat) (x : Nat) (y : Nat) (hn : n < 16) (hx : x < 16) (hy : y < 16) : w_R xs Ln 114 (0, [(0, .ref 199), (1, .int (Int32.ofNat n)), (2, .int (Int32.ofNat x)), (3, .int (Int32.ofNat y)), (4, .int 0)], [], (I, J, kR w rem, Z), 0, 0) (fun o s => o = .inl (some (.int (s_b (v_114q I J Z n x y)))) ∧ s = (i_114q I J Z n x y, J, kR w rem, Z)) := by
  refine w_R.go (c' := (14, [(0, .ref 199), (1, .int (Int32.ofNat n)), (2, .int (Int32.ofNat x)), (3, .int (Int32.ofNat y)), (4, .int 0)], [.int 15, .int 0, .int (Int32.ofNat x)], (s_up I 199 59 0, J, kR w rem, Z), 0, 0)) 8 ?_ (fun m_ x_ Q_ k_ => ⟨trivial, trivial, ⟨sh_199, trivial⟩, trivial, trivial, trivial, trivial, trivial, k_⟩)
  refine w_R.callS (ce' := 0) (sl' := 0) (v := some (.int (s_b true))) (σ' := (s_up I 199 59 0, J, kR w rem, Z)) (as := [.int (Int32.ofNat x), .int 0, .int 15]) (rest := []) (d_106T x 0 15 (by omega) (by omega) (by decide)) ?_ rfl rfl rfl rfl rfl rfl rfl rfl rfl
  show w_R xs Ln 114 (17, [(0, .ref 199), (1, .int (Int32.ofNat n)), (2, .int (Int32.ofNat x)), (3, .int (Int32.ofNat y)), (4, .int 0)], [.int (s_b true)], (s_up I 199 59 0, J, kR w rem, Z), 0, 0) _
  refine w_R.go (c' := (24, [(0, .ref 199), (1, .int (Int32.ofNat n)), (2, .int (Int32.ofNat x)), (3, .int (Int32.ofNat y)), (4, .int 0)], [.int 15, .int 0, .int (Int32.ofNat y)], (s_up I 199 59 0, J, kR w rem, Z), 0, 0)) 4 ?_ (fun m_ x_ Q_ k_ => ⟨trivial, trivial, trivial, trivial, k_⟩)
  refine w_R.callS (ce' := 0) (sl' := 0) (v := some (.int (s_b true))) (σ' := (s_up I 199 59 0, J, kR w rem, Z)) (as := [.int (Int32.ofNat y), .int 0, .int 15]) (rest := []) (d_106T y 0 15 (by omega) (by omega) (by decide)) ?_ rfl rfl rfl rfl rfl rfl rfl rfl rfl
  show w_R xs Ln 114 (27, [(0, .ref 199), (1, .int (Int32.ofNat n)), (2, .int (Int32.ofNat x)), (3, .int (Int32.ofNat y)), (4, .int 0)], [.int (s_b true)], (s_up I 199 59 0, J, kR w rem, Z), 0, 0) _
  refine w_R.go (c' := (41, [(5, .int 1), (0, .ref 199), (1, .int (Int32.ofNat n)), (2, .int (Int32.ofNat x)), (3, .int (Int32.ofNat y)), (4, .int 0)], [.int 15, .int 0, .int (Int32.ofNat n)], (s_up I 199 59 0, J, kR w rem, Z), 0, 0)) 7 ?_ (fun m_ x_ Q_ k_ => ⟨trivial, trivial, trivial, trivial, trivial, trivial, trivial, k_⟩)
  refine w_R.callS (ce' := 0) (sl' := 0) (v := some (.int (s_b true))) (σ' := (s_up I 199 59 0, J, kR w rem, Z)) (as := [.int (Int32.ofNat n), .int 0, .int 15]) (rest := []) (d_106T n 0 15 (by omega) (by omega) (by decide)) ?_ rfl rfl rfl rfl rfl rfl rfl rfl rfl
  show w_R xs Ln 114 (44, [(5, .int 1), (0, .ref 199), (1, .int (Int32.ofNat n)), (2, .int (Int32.ofNat x)), (3, .int (Int32.ofNat y)), (4, .int 0)], [.int (s_b true)], (s_up I 199 59 0, J, kR w rem, Z), 0, 0) _
  refine w_R.go (c' := (72, [(5, .int 1), (0, .ref 199), (1, .int (Int32.ofNat n)), (2, .int (Int32.ofNat x)), (3, .int (Int32.ofNat y)), (4, .int 0)], [], (s_up (s_up I 199 59 0) 203 ((Int32.ofNat n).toNatClampNeg) 0, J, kR w rem, Z), 0, 0)) 8 ?_ (fun m_ x_ Q_ k_ => ⟨trivial, trivial, trivial, trivial, ⟨sh_199, (Nat.succ_ne_zero 202)⟩, trivial, trivial, ⟨_, sh_203, (n_in (a := n) (by omega) (by decide))⟩, k_⟩)
  rw [n_cl (a := n) (by omega)]
  show w_R xs Ln 114 (72, [(5, .int 1), (0, .ref 199), (1, .int (Int32.ofNat n)), (2, .int (Int32.ofNat x)), (3, .int (Int32.ofNat y)), (4, .int 0)], [], (s_up (s_up I 199 59 0) 203 n 0, J, kR w rem, Z), 0, 0) _
  refine w_R.go (c' := (79, [(5, .int 1), (0, .ref 199), (1, .int (Int32.ofNat n)), (2, .int (Int32.ofNat x)), (3, .int (Int32.ofNat y)), (4, .int 0)], [], (s_up (s_up (s_up I 199 59 0) 203 n 0) 204 ((Int32.ofNat n).toNatClampNeg) (Int32.ofNat x), J, kR w rem, Z), 0, 0)) 5 ?_ (fun m_ x_ Q_ k_ => ⟨trivial, ⟨sh_199, (Nat.succ_ne_zero 203)⟩, trivial, trivial, ⟨_, sh_204, (n_in (a := n) (by omega) (by decide))⟩, k_⟩)
  rw [n_cl (a := n) (by omega)]
  show w_R xs Ln 114 (79, [(5, .int 1), (0, .ref 199), (1, .int (Int32.ofNat n)), (2, .int (Int32.ofNat x)), (3, .int (Int32.ofNat y)), (4, .int 0)], [], (s_up (s_up (s_up I 199 59 0) 203 n 0) 204 n (Int32.ofNat x), J, kR w rem, Z), 0, 0) _
  refine w_R.go (c' := (86, [(5, .int 1), (0, .ref 199), (1, .int (Int32.ofNat n)), (2, .int (Int32.ofNat x)), (3, .int (Int32.ofNat y)), (4, .int 0)], [], (s_up (s_up (s_up (s_up I 199 59 0) 203 n 0) 204 n (Int32.ofNat x)) 205 ((Int32.ofNat n).toNatClampNeg) (Int32.ofNat y), J, kR w rem, Z), 0, 0)) 5 ?_ (fun m_ x_ Q_ k_ => ⟨trivial, ⟨sh_199, (Nat.succ_ne_zero 204)⟩, trivial, trivial, ⟨_, sh_205, (n_in (a := n) (by omega) (by decide))⟩, k_⟩)
  rw [n_cl (a := n) (by omega)]
  show w_R xs Ln 114 (86, [(5, .int 1), (0, .ref 199), (1, .int (Int32.ofNat n)), (2, .int (Int32.ofNat x)), (3, .int (Int32.ofNat y)), (4, .int 0)], [], (s_up (s_up (s_up (s_up I 199 59 0) 203 n 0) 204 n (Int32.ofNat x)) 205 n (Int32.ofNat y), J, kR w rem, Z), 0, 0) _
  refine w_R.ret 2 (.inl (some (.int 1))) (s_up (s_up (s_up (s_up I 199 59 0) 203 n 0) 204 n (Int32.ofNat x)) 205 n (Int32.ofNat y), J, kR w rem, Z) ?_ (fun x_ Q_ k_ => ⟨trivial, Or.inr rfl, ⟨Nat.le_of_ble_eq_true rfl, Nat.le_of_ble_eq_true rfl⟩, k_⟩)
  exact ⟨by rw [show v_114q I J Z n x y = true from by unfold v_114q; rfl] <;> rfl, by rw [show i_114q I J Z n x y = (s_up (s_up (s_up (s_up I 199 59 0) 203 n 0) 204 n (Int32.ofNat x)) 205 n (Int32.ofNat y)) from by unfold i_114q; rfl]⟩
def v_35 (I : Nat → Nat → Int32) (J : Nat → Nat → Int64) (Z : Nat → Nat → Bool) (r : Nat) (c : Nat) : Bool := if (Z (148 + 29 * r + c) 0) = true then true else false
theorem d_35 (r : Nat) (c : Nat) (hr : r < 2) (hc : c < 16) : w_R xs Ln 35 (0, [(0, .ref 1), (1, .int (Int32.ofNat r)), (2, .int (Int32.ofNat c))], [], (I, J, kR w rem, Z), 0, 0) (fun o s => o = .inl (some (.int (s_b (v_35 I J Z r c)))) ∧ s = (I, J, kR w rem, Z)) := by
  refine w_R.go (c' := (1, [(0, .ref 1), (1, .int (Int32.ofNat r)), (2, .int (Int32.ofNat c))], [.int (Int32.ofNat r)], (I, J, kR w rem, Z), 0, 0)) 1 ?_ (fun m_ x_ Q_ k_ => ⟨trivial, k_⟩)
  refine w_R.callS (ce' := 0) (sl' := 0) (v := some (.int (s_b true))) (σ' := (I, J, kR w rem, Z)) (as := [.int (Int32.ofNat r)]) (rest := []) (d_32N r (by omega)) ?_ rfl rfl rfl rfl rfl rfl rfl rfl rfl
  show w_R xs Ln 35 (4, [(0, .ref 1), (1, .int (Int32.ofNat r)), (2, .int (Int32.ofNat c))], [.int (s_b true)], (I, J, kR w rem, Z), 0, 0) _
  refine w_R.go (c' := (8, [(0, .ref 1), (1, .int (Int32.ofNat r)), (2, .int (Int32.ofNat c))], [.int (Int32.ofNat c)], (I, J, kR w rem, Z), 0, 0)) 2 ?_ (fun m_ x_ Q_ k_ => ⟨trivial, trivial, k_⟩)
  refine w_R.callS (ce' := 0) (sl' := 0) (v := some (.int (s_b true))) (σ' := (I, J, kR w rem, Z)) (as := [.int (Int32.ofNat c)]) (rest := []) (d_33N c (by omega)) ?_ rfl rfl rfl rfl rfl rfl rfl rfl rfl
  show w_R xs Ln 35 (11, [(0, .ref 1), (1, .int (Int32.ofNat r)), (2, .int (Int32.ofNat c))], [.int (s_b true)], (I, J, kR w rem, Z), 0, 0) _
  refine w_R.go (c' := (20, [(0, .ref 1), (1, .int (Int32.ofNat r)), (2, .int (Int32.ofNat c))], [.ref (kR w rem 12 (Int32.ofNat r).toNatClampNeg)], (I, J, kR w rem, Z), 0, 0)) 5 ?_ (fun m_ x_ Q_ k_ => ⟨trivial, trivial, ⟨sh_1, (Nat.succ_ne_zero 11)⟩, trivial, ⟨⟨_, sh_12, (n_in (a := r) (by omega) (by decide))⟩, (show kR w rem 12 (Int32.ofNat r).toNatClampNeg ≠ 0 by rw [n_cl (a := r) (by omega), r_room (w := w) (rem := rem) (r := r) (by omega)]; omega)⟩, k_⟩)
  rw [n_cl (a := r) (by omega)]
  rw [r_room (w := w) (rem := rem) (r := r) (by omega)]
  show w_R xs Ln 35 (20, [(0, .ref 1), (1, .int (Int32.ofNat r)), (2, .int (Int32.ofNat c))], [.ref (141 + 29 * r)], (I, J, kR w rem, Z), 0, 0) _
  refine w_R.go (c' := (23, [(0, .ref 1), (1, .int (Int32.ofNat r)), (2, .int (Int32.ofNat c))], [.ref (kR w rem (141 + 29 * r) 5)], (I, J, kR w rem, Z), 0, 0)) 1 ?_ (fun m_ x_ Q_ k_ => ⟨⟨(sh_room (by omega)), (show kR w rem (141 + 29 * r) 5 ≠ 0 by rw [r_room5 (w := w) (rem := rem) (r := r) (by omega)]; omega)⟩, k_⟩)
  rw [r_room5 (w := w) (rem := rem) (r := r) (by omega)]
  show w_R xs Ln 35 (23, [(0, .ref 1), (1, .int (Int32.ofNat r)), (2, .int (Int32.ofNat c))], [.ref (143 + 29 * r)], (I, J, kR w rem, Z), 0, 0) _
  refine w_R.go (c' := (25, [(0, .ref 1), (1, .int (Int32.ofNat r)), (2, .int (Int32.ofNat c))], [.ref (kR w rem (143 + 29 * r) (Int32.ofNat c).toNatClampNeg)], (I, J, kR w rem, Z), 0, 0)) 2 ?_ (fun m_ x_ Q_ k_ => ⟨trivial, ⟨⟨_, (sh_room5 (by omega)), (n_in (a := c) (by omega) (by decide))⟩, (show kR w rem (143 + 29 * r) (Int32.ofNat c).toNatClampNeg ≠ 0 by rw [n_cl (a := c) (by omega), r_rec (w := w) (rem := rem) (r := r) (c := c) (by omega) (by omega)]; omega)⟩, k_⟩)
  rw [n_cl (a := c) (by omega)]
  rw [r_rec (w := w) (rem := rem) (r := r) (c := c) (by omega) (by omega)]
  show w_R xs Ln 35 (25, [(0, .ref 1), (1, .int (Int32.ofNat r)), (2, .int (Int32.ofNat c))], [.ref (148 + 29 * r + c)], (I, J, kR w rem, Z), 0, 0) _
  refine w_R.go (c' := (i_br .eq (s_b (Z (148 + 29 * r + c) 0)) 0 35 31, [(0, .ref 1), (1, .int (Int32.ofNat r)), (2, .int (Int32.ofNat c))], [], (I, J, kR w rem, Z), 0, 0)) 2 ?_ (fun m_ x_ Q_ k_ => ⟨⟨(sh_rec (by omega) (by omega)), trivial⟩, trivial, k_⟩)
  refine w_R.br_z (fun h1 => ?_) (fun h1 => ?_)
  · replace h1 := Bool.eq_false_iff.mp h1
    refine w_R.ret 2 (.inl (some (.int 0))) (I, J, kR w rem, Z) ?_ (fun x_ Q_ k_ => ⟨trivial, Or.inl rfl, ⟨Nat.le_of_ble_eq_true rfl, Nat.le_of_ble_eq_true rfl⟩, k_⟩)
    exact ⟨by rw [show v_35 I J Z r c = false from by unfold v_35; rw [if_neg h1]] <;> rfl, rfl⟩
  · refine w_R.ret 3 (.inl (some (.int 1))) (I, J, kR w rem, Z) ?_ (fun x_ Q_ k_ => ⟨trivial, trivial, Or.inr rfl, ⟨Nat.le_of_ble_eq_true rfl, Nat.le_of_ble_eq_true rfl⟩, k_⟩)
    exact ⟨by rw [show v_35 I J Z r c = true from by unfold v_35; rw [if_pos h1]] <;> rfl, rfl⟩
theorem b_35_0 (r : Int32) (c : Int32) (hr : l_rg r 0 2 = false) : w_R xs Ln 35 (0, [(0, .ref 1), (1, .int r), (2, .int c)], [], (I, J, kR w rem, Z), 0, 0) (fun o s => o = .inl (some (.int (s_b false))) ∧ s = (I, J, kR w rem, Z)) := by
  refine w_R.go (c' := (1, [(0, .ref 1), (1, .int r), (2, .int c)], [.int r], (I, J, kR w rem, Z), 0, 0)) 1 ?_ (fun m_ x_ Q_ k_ => ⟨trivial, k_⟩)
  refine w_R.callS (ce' := 0) (sl' := 0) (v := some (.int (s_b false))) (σ' := (I, J, kR w rem, Z)) (as := [.int r]) (rest := []) (d_32F r hr) ?_ rfl rfl rfl rfl rfl rfl rfl rfl rfl
  show w_R xs Ln 35 (4, [(0, .ref 1), (1, .int r), (2, .int c)], [.int (s_b false)], (I, J, kR w rem, Z), 0, 0) _
  refine w_R.ret 3 (.inl (some (.int 0))) (I, J, kR w rem, Z) ?_ (fun x_ Q_ k_ => ⟨trivial, trivial, Or.inl rfl, ⟨Nat.le_of_ble_eq_true rfl, Nat.le_of_ble_eq_true rfl⟩, k_⟩)
  exact ⟨rfl, rfl⟩
theorem b_35_1 (r : Nat) (c : Int32) (hr : r < 2) (hc : l_rg c 0 16 = false) : w_R xs Ln 35 (0, [(0, .ref 1), (1, .int (Int32.ofNat r)), (2, .int c)], [], (I, J, kR w rem, Z), 0, 0) (fun o s => o = .inl (some (.int (s_b false))) ∧ s = (I, J, kR w rem, Z)) := by
  refine w_R.go (c' := (1, [(0, .ref 1), (1, .int (Int32.ofNat r)), (2, .int c)], [.int (Int32.ofNat r)], (I, J, kR w rem, Z), 0, 0)) 1 ?_ (fun m_ x_ Q_ k_ => ⟨trivial, k_⟩)
  refine w_R.callS (ce' := 0) (sl' := 0) (v := some (.int (s_b true))) (σ' := (I, J, kR w rem, Z)) (as := [.int (Int32.ofNat r)]) (rest := []) (d_32N r (by omega)) ?_ rfl rfl rfl rfl rfl rfl rfl rfl rfl
  show w_R xs Ln 35 (4, [(0, .ref 1), (1, .int (Int32.ofNat r)), (2, .int c)], [.int (s_b true)], (I, J, kR w rem, Z), 0, 0) _
  refine w_R.go (c' := (8, [(0, .ref 1), (1, .int (Int32.ofNat r)), (2, .int c)], [.int c], (I, J, kR w rem, Z), 0, 0)) 2 ?_ (fun m_ x_ Q_ k_ => ⟨trivial, trivial, k_⟩)
  refine w_R.callS (ce' := 0) (sl' := 0) (v := some (.int (s_b false))) (σ' := (I, J, kR w rem, Z)) (as := [.int c]) (rest := []) (d_33F c hc) ?_ rfl rfl rfl rfl rfl rfl rfl rfl rfl
  show w_R xs Ln 35 (11, [(0, .ref 1), (1, .int (Int32.ofNat r)), (2, .int c)], [.int (s_b false)], (I, J, kR w rem, Z), 0, 0) _
  refine w_R.ret 3 (.inl (some (.int 0))) (I, J, kR w rem, Z) ?_ (fun x_ Q_ k_ => ⟨trivial, trivial, Or.inl rfl, ⟨Nat.le_of_ble_eq_true rfl, Nat.le_of_ble_eq_true rfl⟩, k_⟩)
  exact ⟨rfl, rfl⟩
theorem b_27_0 (r : Int32) (c : Int32) (x : Int32) (hr : l_rg r 0 3 = false) : w_R xs Ln 27 (0, [(0, .ref 1), (1, .int r), (2, .int c), (3, .int x)], [], (I, J, kR w rem, Z), 0, 0) (fun o s => o = .inl (some (.int (-1))) ∧ s = (I, J, kR w rem, Z)) := by
  refine w_R.go (c' := (i_br .ne r 2 31 5, [(0, .ref 1), (1, .int r), (2, .int c), (3, .int x)], [], (I, J, kR w rem, Z), 0, 0)) 3 ?_ (fun m_ x_ Q_ k_ => ⟨trivial, trivial, trivial, k_⟩)
  refine w_R.br_ne (fun h1 => ?_) (fun h1 => ?_)
  · refine w_R.go (c' := (34, [(0, .ref 1), (1, .int r), (2, .int c), (3, .int x)], [.int c, .int r, .ref 1], (I, J, kR w rem, Z), 0, 0)) 3 ?_ (fun m_ x_ Q_ k_ => ⟨trivial, trivial, trivial, k_⟩)
    refine w_R.callV (ce' := 0) (sl' := 0) (v := some (.int (s_b false))) (σ' := (I, J, kR w rem, Z)) (as := [.ref 1, .int r, .int c]) (rest := []) (b_35_0 r c (l_sub hr (by decide) (by decide))) ?_ rfl rfl rfl rfl rfl sh_1 rfl rfl rfl rfl
    show w_R xs Ln 27 (37, [(0, .ref 1), (1, .int r), (2, .int c), (3, .int x)], [.int (s_b false)], (I, J, kR w rem, Z), 0, 0) _
    refine w_R.ret 3 (.inl (some (.int (-1)))) (I, J, kR w rem, Z) ?_ (fun x_ Q_ k_ => ⟨trivial, trivial, trivial, ⟨Nat.le_of_ble_eq_true rfl, Nat.le_of_ble_eq_true rfl⟩, k_⟩)
    exact ⟨rfl, rfl⟩
  · rw [h1] at hr; exact absurd hr (by decide)
theorem b_161_0 (r : Int32) (c : Int32) (x : Int32) (hr : l_rg r 0 3 = false) : w_R xs Ln 161 (0, [(0, .ref 199), (1, .int r), (2, .int c), (3, .int x)], [], (I, J, kR w rem, Z), 0, 0) (fun o s => o = .inl (some (.int (-1))) ∧ s = (s_up I 199 59 0, J, kR w rem, Z)) := by
  refine w_R.go (c' := (8, [(0, .ref 199), (1, .int r), (2, .int c), (3, .int x)], [.int 2, .int 0, .int r], (s_up I 199 59 0, J, kR w rem, Z), 0, 0)) 6 ?_ (fun m_ x_ Q_ k_ => ⟨trivial, trivial, ⟨sh_199, trivial⟩, trivial, trivial, trivial, k_⟩)
  refine w_R.callS (ce' := 0) (sl' := 0) (v := some (.int (s_b false))) (σ' := (s_up I 199 59 0, J, kR w rem, Z)) (as := [.int r, .int 0, .int 2]) (rest := []) (d_106F r 0 2 (by decide) (by decide) hr) ?_ rfl rfl rfl rfl rfl rfl rfl rfl rfl
  show w_R xs Ln 161 (11, [(0, .ref 199), (1, .int r), (2, .int c), (3, .int x)], [.int (s_b false)], (s_up I 199 59 0, J, kR w rem, Z), 0, 0) _
  refine w_R.ret 3 (.inl (some (.int (-1)))) (s_up I 199 59 0, J, kR w rem, Z) ?_ (fun x_ Q_ k_ => ⟨trivial, trivial, trivial, ⟨Nat.le_of_ble_eq_true rfl, Nat.le_of_ble_eq_true rfl⟩, k_⟩)
  exact ⟨rfl, rfl⟩
theorem b_27_1 (r : Nat) (c : Int32) (x : Int32) (hr : r < 2) (hc : l_rg c 0 16 = false) : w_R xs Ln 27 (0, [(0, .ref 1), (1, .int (Int32.ofNat r)), (2, .int c), (3, .int x)], [], (I, J, kR w rem, Z), 0, 0) (fun o s => o = .inl (some (.int (-1))) ∧ s = (I, J, kR w rem, Z)) := by
  refine w_R.go (c' := (i_br .ne (Int32.ofNat r) 2 31 5, [(0, .ref 1), (1, .int (Int32.ofNat r)), (2, .int c), (3, .int x)], [], (I, J, kR w rem, Z), 0, 0)) 3 ?_ (fun m_ x_ Q_ k_ => ⟨trivial, trivial, trivial, k_⟩)
  rw [show i_br .ne (Int32.ofNat r) 2 31 5 = 31 from if_neg (mt (n_eq (a := r) (b := 2) (by omega) (by omega)).mp (by omega))]
  show w_R xs Ln 27 (31, [(0, .ref 1), (1, .int (Int32.ofNat r)), (2, .int c), (3, .int x)], [], (I, J, kR w rem, Z), 0, 0) _
  refine w_R.go (c' := (34, [(0, .ref 1), (1, .int (Int32.ofNat r)), (2, .int c), (3, .int x)], [.int c, .int (Int32.ofNat r), .ref 1], (I, J, kR w rem, Z), 0, 0)) 3 ?_ (fun m_ x_ Q_ k_ => ⟨trivial, trivial, trivial, k_⟩)
  refine w_R.callV (ce' := 0) (sl' := 0) (v := some (.int (s_b false))) (σ' := (I, J, kR w rem, Z)) (as := [.ref 1, .int (Int32.ofNat r), .int c]) (rest := []) (b_35_1 r c (by omega) hc) ?_ rfl rfl rfl rfl rfl sh_1 rfl rfl rfl rfl
  show w_R xs Ln 27 (37, [(0, .ref 1), (1, .int (Int32.ofNat r)), (2, .int c), (3, .int x)], [.int (s_b false)], (I, J, kR w rem, Z), 0, 0) _
  refine w_R.ret 3 (.inl (some (.int (-1)))) (I, J, kR w rem, Z) ?_ (fun x_ Q_ k_ => ⟨trivial, trivial, trivial, ⟨Nat.le_of_ble_eq_true rfl, Nat.le_of_ble_eq_true rfl⟩, k_⟩)
  exact ⟨rfl, rfl⟩
theorem b_161_1 (r : Nat) (c : Int32) (x : Int32) (hr : r < 2) (hc : l_rg c 0 16 = false) : w_R xs Ln 161 (0, [(0, .ref 199), (1, .int (Int32.ofNat r)), (2, .int c), (3, .int x)], [], (I, J, kR w rem, Z), 0, 0) (fun o s => o = .inl (some (.int (-1))) ∧ s = (s_up I 199 59 0, J, kR w rem, Z)) := by
  refine w_R.go (c' := (8, [(0, .ref 199), (1, .int (Int32.ofNat r)), (2, .int c), (3, .int x)], [.int 2, .int 0, .int (Int32.ofNat r)], (s_up I 199 59 0, J, kR w rem, Z), 0, 0)) 6 ?_ (fun m_ x_ Q_ k_ => ⟨trivial, trivial, ⟨sh_199, trivial⟩, trivial, trivial, trivial, k_⟩)
  refine w_R.callS (ce' := 0) (sl' := 0) (v := some (.int (s_b true))) (σ' := (s_up I 199 59 0, J, kR w rem, Z)) (as := [.int (Int32.ofNat r), .int 0, .int 2]) (rest := []) (d_106T r 0 2 (by omega) (by omega) (by decide)) ?_ rfl rfl rfl rfl rfl rfl rfl rfl rfl
  show w_R xs Ln 161 (11, [(0, .ref 199), (1, .int (Int32.ofNat r)), (2, .int c), (3, .int x)], [.int (s_b true)], (s_up I 199 59 0, J, kR w rem, Z), 0, 0) _
  refine w_R.go (c' := (18, [(0, .ref 199), (1, .int (Int32.ofNat r)), (2, .int c), (3, .int x)], [.int 15, .int 0, .int c], (s_up I 199 59 0, J, kR w rem, Z), 0, 0)) 4 ?_ (fun m_ x_ Q_ k_ => ⟨trivial, trivial, trivial, trivial, k_⟩)
  refine w_R.callS (ce' := 0) (sl' := 0) (v := some (.int (s_b false))) (σ' := (s_up I 199 59 0, J, kR w rem, Z)) (as := [.int c, .int 0, .int 15]) (rest := []) (d_106F c 0 15 (by decide) (by decide) hc) ?_ rfl rfl rfl rfl rfl rfl rfl rfl rfl
  show w_R xs Ln 161 (21, [(0, .ref 199), (1, .int (Int32.ofNat r)), (2, .int c), (3, .int x)], [.int (s_b false)], (s_up I 199 59 0, J, kR w rem, Z), 0, 0) _
  refine w_R.ret 3 (.inl (some (.int (-1)))) (s_up I 199 59 0, J, kR w rem, Z) ?_ (fun x_ Q_ k_ => ⟨trivial, trivial, trivial, ⟨Nat.le_of_ble_eq_true rfl, Nat.le_of_ble_eq_true rfl⟩, k_⟩)
  exact ⟨rfl, rfl⟩
theorem b_27_2 (c : Int32) (x : Int32) (hc : l_rg c 0 16 = false) : w_R xs Ln 27 (0, [(0, .ref 1), (1, .int 2), (2, .int c), (3, .int x)], [], (I, J, kR w rem, Z), 0, 0) (fun o s => o = .inl (some (.int (-1))) ∧ s = (I, J, kR w rem, Z)) := by
  refine w_R.go (c' := (6, [(0, .ref 1), (1, .int 2), (2, .int c), (3, .int x)], [.int c], (I, J, kR w rem, Z), 0, 0)) 4 ?_ (fun m_ x_ Q_ k_ => ⟨trivial, trivial, trivial, trivial, k_⟩)
  refine w_R.callS (ce' := 0) (sl' := 0) (v := some (.int (s_b false))) (σ' := (I, J, kR w rem, Z)) (as := [.int c]) (rest := []) (d_33F c hc) ?_ rfl rfl rfl rfl rfl rfl rfl rfl rfl
  show w_R xs Ln 27 (9, [(0, .ref 1), (1, .int 2), (2, .int c), (3, .int x)], [.int (s_b false)], (I, J, kR w rem, Z), 0, 0) _
  refine w_R.ret 3 (.inl (some (.int (-1)))) (I, J, kR w rem, Z) ?_ (fun x_ Q_ k_ => ⟨trivial, trivial, trivial, ⟨Nat.le_of_ble_eq_true rfl, Nat.le_of_ble_eq_true rfl⟩, k_⟩)
  exact ⟨rfl, rfl⟩
theorem b_161_2 (c : Int32) (x : Int32) (hc : l_rg c 0 16 = false) : w_R xs Ln 161 (0, [(0, .ref 199), (1, .int 2), (2, .int c), (3, .int x)], [], (I, J, kR w rem, Z), 0, 0) (fun o s => o = .inl (some (.int (-1))) ∧ s = (s_up I 199 59 0, J, kR w rem, Z)) := by
  refine w_R.go (c' := (8, [(0, .ref 199), (1, .int 2), (2, .int c), (3, .int x)], [.int 2, .int 0, .int 2], (s_up I 199 59 0, J, kR w rem, Z), 0, 0)) 6 ?_ (fun m_ x_ Q_ k_ => ⟨trivial, trivial, ⟨sh_199, trivial⟩, trivial, trivial, trivial, k_⟩)
  refine w_R.callS (ce' := 0) (sl' := 0) (v := some (.int (s_b true))) (σ' := (s_up I 199 59 0, J, kR w rem, Z)) (as := [.int 2, .int 0, .int 2]) (rest := []) (d_106T 2 0 2 (by decide) (by decide) (by decide)) ?_ rfl rfl rfl rfl rfl rfl rfl rfl rfl
  show w_R xs Ln 161 (11, [(0, .ref 199), (1, .int 2), (2, .int c), (3, .int x)], [.int (s_b true)], (s_up I 199 59 0, J, kR w rem, Z), 0, 0) _
  refine w_R.go (c' := (18, [(0, .ref 199), (1, .int 2), (2, .int c), (3, .int x)], [.int 15, .int 0, .int c], (s_up I 199 59 0, J, kR w rem, Z), 0, 0)) 4 ?_ (fun m_ x_ Q_ k_ => ⟨trivial, trivial, trivial, trivial, k_⟩)
  refine w_R.callS (ce' := 0) (sl' := 0) (v := some (.int (s_b false))) (σ' := (s_up I 199 59 0, J, kR w rem, Z)) (as := [.int c, .int 0, .int 15]) (rest := []) (d_106F c 0 15 (by decide) (by decide) hc) ?_ rfl rfl rfl rfl rfl rfl rfl rfl rfl
  show w_R xs Ln 161 (21, [(0, .ref 199), (1, .int 2), (2, .int c), (3, .int x)], [.int (s_b false)], (s_up I 199 59 0, J, kR w rem, Z), 0, 0) _
  refine w_R.ret 3 (.inl (some (.int (-1)))) (s_up I 199 59 0, J, kR w rem, Z) ?_ (fun x_ Q_ k_ => ⟨trivial, trivial, trivial, ⟨Nat.le_of_ble_eq_true rfl, Nat.le_of_ble_eq_true rfl⟩, k_⟩)
  exact ⟨rfl, rfl⟩
def v_27 (I : Nat → Nat → Int32) (J : Nat → Nat → Int64) (Z : Nat → Nat → Bool) (r : Nat) (c : Nat) (x : Int32) : Int32 := if (v_35 I J Z r c) = true then v_66 I J Z (148 + 29 * r + c) x (Z (144 + 29 * r) c) else (-1)
theorem d_27 (r : Nat) (c : Nat) (x : Int32) (hr : r < 2) (hc : c < 16) : w_R xs Ln 27 (0, [(0, .ref 1), (1, .int (Int32.ofNat r)), (2, .int (Int32.ofNat c)), (3, .int x)], [], (I, J, kR w rem, Z), 0, 0) (fun o s => o = .inl (some (.int (v_27 I J Z r c x))) ∧ s = (I, J, kR w rem, Z)) := by
  refine w_R.go (c' := (i_br .ne (Int32.ofNat r) 2 31 5, [(0, .ref 1), (1, .int (Int32.ofNat r)), (2, .int (Int32.ofNat c)), (3, .int x)], [], (I, J, kR w rem, Z), 0, 0)) 3 ?_ (fun m_ x_ Q_ k_ => ⟨trivial, trivial, trivial, k_⟩)
  rw [show i_br .ne (Int32.ofNat r) 2 31 5 = 31 from if_neg (mt (n_eq (a := r) (b := 2) (by omega) (by omega)).mp (by omega))]
  show w_R xs Ln 27 (31, [(0, .ref 1), (1, .int (Int32.ofNat r)), (2, .int (Int32.ofNat c)), (3, .int x)], [], (I, J, kR w rem, Z), 0, 0) _
  refine w_R.go (c' := (34, [(0, .ref 1), (1, .int (Int32.ofNat r)), (2, .int (Int32.ofNat c)), (3, .int x)], [.int (Int32.ofNat c), .int (Int32.ofNat r), .ref 1], (I, J, kR w rem, Z), 0, 0)) 3 ?_ (fun m_ x_ Q_ k_ => ⟨trivial, trivial, trivial, k_⟩)
  refine w_R.callV (ce' := 0) (sl' := 0) (v := some (.int (s_b (v_35 I J Z r c)))) (σ' := (I, J, kR w rem, Z)) (as := [.ref 1, .int (Int32.ofNat r), .int (Int32.ofNat c)]) (rest := []) (d_35 r c (by omega) (by omega)) ?_ rfl rfl rfl rfl rfl sh_1 rfl rfl rfl rfl
  show w_R xs Ln 27 (37, [(0, .ref 1), (1, .int (Int32.ofNat r)), (2, .int (Int32.ofNat c)), (3, .int x)], [.int (s_b (v_35 I J Z r c))], (I, J, kR w rem, Z), 0, 0) _
  refine w_R.go (c' := (i_br .ne (s_b (v_35 I J Z r c)) 0 42 40, [(0, .ref 1), (1, .int (Int32.ofNat r)), (2, .int (Int32.ofNat c)), (3, .int x)], [], (I, J, kR w rem, Z), 0, 0)) 1 ?_ (fun m_ x_ Q_ k_ => ⟨trivial, k_⟩)
  refine w_R.br_nz (fun h1 => ?_) (fun h1 => ?_)
  · refine w_R.go (c' := (48, [(0, .ref 1), (1, .int (Int32.ofNat r)), (2, .int (Int32.ofNat c)), (3, .int x)], [.ref (kR w rem 12 (Int32.ofNat r).toNatClampNeg)], (I, J, kR w rem, Z), 0, 0)) 4 ?_ (fun m_ x_ Q_ k_ => ⟨trivial, ⟨sh_1, (Nat.succ_ne_zero 11)⟩, trivial, ⟨⟨_, sh_12, (n_in (a := r) (by omega) (by decide))⟩, (show kR w rem 12 (Int32.ofNat r).toNatClampNeg ≠ 0 by rw [n_cl (a := r) (by omega), r_room (w := w) (rem := rem) (r := r) (by omega)]; omega)⟩, k_⟩)
    rw [n_cl (a := r) (by omega)]
    rw [r_room (w := w) (rem := rem) (r := r) (by omega)]
    show w_R xs Ln 27 (48, [(0, .ref 1), (1, .int (Int32.ofNat r)), (2, .int (Int32.ofNat c)), (3, .int x)], [.ref (141 + 29 * r)], (I, J, kR w rem, Z), 0, 0) _
    refine w_R.go (c' := (51, [(0, .ref 1), (1, .int (Int32.ofNat r)), (2, .int (Int32.ofNat c)), (3, .int x)], [.ref (kR w rem (141 + 29 * r) 5)], (I, J, kR w rem, Z), 0, 0)) 1 ?_ (fun m_ x_ Q_ k_ => ⟨⟨(sh_room (by omega)), (show kR w rem (141 + 29 * r) 5 ≠ 0 by rw [r_room5 (w := w) (rem := rem) (r := r) (by omega)]; omega)⟩, k_⟩)
    rw [r_room5 (w := w) (rem := rem) (r := r) (by omega)]
    show w_R xs Ln 27 (51, [(0, .ref 1), (1, .int (Int32.ofNat r)), (2, .int (Int32.ofNat c)), (3, .int x)], [.ref (143 + 29 * r)], (I, J, kR w rem, Z), 0, 0) _
    refine w_R.go (c' := (53, [(0, .ref 1), (1, .int (Int32.ofNat r)), (2, .int (Int32.ofNat c)), (3, .int x)], [.ref (kR w rem (143 + 29 * r) (Int32.ofNat c).toNatClampNeg)], (I, J, kR w rem, Z), 0, 0)) 2 ?_ (fun m_ x_ Q_ k_ => ⟨trivial, ⟨⟨_, (sh_room5 (by omega)), (n_in (a := c) (by omega) (by decide))⟩, (show kR w rem (143 + 29 * r) (Int32.ofNat c).toNatClampNeg ≠ 0 by rw [n_cl (a := c) (by omega), r_rec (w := w) (rem := rem) (r := r) (c := c) (by omega) (by omega)]; omega)⟩, k_⟩)
    rw [n_cl (a := c) (by omega)]
    rw [r_rec (w := w) (rem := rem) (r := r) (c := c) (by omega) (by omega)]
    show w_R xs Ln 27 (53, [(0, .ref 1), (1, .int (Int32.ofNat r)), (2, .int (Int32.ofNat c)), (3, .int x)], [.ref (148 + 29 * r + c)], (I, J, kR w rem, Z), 0, 0) _
    refine w_R.go (c' := (60, [(0, .ref 1), (1, .int (Int32.ofNat r)), (2, .int (Int32.ofNat c)), (3, .int x)], [.ref (kR w rem 12 (Int32.ofNat r).toNatClampNeg), .int x, .ref (148 + 29 * r + c)], (I, J, kR w rem, Z), 0, 0)) 5 ?_ (fun m_ x_ Q_ k_ => ⟨trivial, trivial, ⟨sh_1, (Nat.succ_ne_zero 11)⟩, trivial, ⟨⟨_, sh_12, (n_in (a := r) (by omega) (by decide))⟩, (show kR w rem 12 (Int32.ofNat r).toNatClampNeg ≠ 0 by rw [n_cl (a := r) (by omega), r_room (w := w) (rem := rem) (r := r) (by omega)]; omega)⟩, k_⟩)
    rw [n_cl (a := r) (by omega)]
    rw [r_room (w := w) (rem := rem) (r := r) (by omega)]
    show w_R xs Ln 27 (60, [(0, .ref 1), (1, .int (Int32.ofNat r)), (2, .int (Int32.ofNat c)), (3, .int x)], [.ref (141 + 29 * r), .int x, .ref (148 + 29 * r + c)], (I, J, kR w rem, Z), 0, 0) _
    refine w_R.go (c' := (63, [(0, .ref 1), (1, .int (Int32.ofNat r)), (2, .int (Int32.ofNat c)), (3, .int x)], [.ref (kR w rem (141 + 29 * r) 6), .int x, .ref (148 + 29 * r + c)], (I, J, kR w rem, Z), 0, 0)) 1 ?_ (fun m_ x_ Q_ k_ => ⟨⟨(sh_room (by omega)), (show kR w rem (141 + 29 * r) 6 ≠ 0 by rw [r_room6 (w := w) (rem := rem) (r := r) (by omega)]; omega)⟩, k_⟩)
    rw [r_room6 (w := w) (rem := rem) (r := r) (by omega)]
    show w_R xs Ln 27 (63, [(0, .ref 1), (1, .int (Int32.ofNat r)), (2, .int (Int32.ofNat c)), (3, .int x)], [.ref (144 + 29 * r), .int x, .ref (148 + 29 * r + c)], (I, J, kR w rem, Z), 0, 0) _
    refine w_R.go (c' := (65, [(0, .ref 1), (1, .int (Int32.ofNat r)), (2, .int (Int32.ofNat c)), (3, .int x)], [.int (s_b (Z (144 + 29 * r) (Int32.ofNat c).toNatClampNeg)), .int x, .ref (148 + 29 * r + c)], (I, J, kR w rem, Z), 0, 0)) 2 ?_ (fun m_ x_ Q_ k_ => ⟨trivial, ⟨_, (sh_room6 (by omega)), (n_in (a := c) (by omega) (by decide))⟩, k_⟩)
    rw [n_cl (a := c) (by omega)]
    show w_R xs Ln 27 (65, [(0, .ref 1), (1, .int (Int32.ofNat r)), (2, .int (Int32.ofNat c)), (3, .int x)], [.int (s_b (Z (144 + 29 * r) c)), .int x, .ref (148 + 29 * r + c)], (I, J, kR w rem, Z), 0, 0) _
    refine w_R.callV (ce' := 0) (sl' := 0) (v := some (.int (v_66 I J Z (148 + 29 * r + c) x (Z (144 + 29 * r) c)))) (σ' := (I, J, kR w rem, Z)) (as := [.ref (148 + 29 * r + c), .int x, .int (s_b (Z (144 + 29 * r) c))]) (rest := []) (d_66 (148 + 29 * r + c) x (Z (144 + 29 * r) c) (sh_rec (by omega) (by omega))) ?_ rfl rfl rfl rfl rfl (sh_rec (by omega) (by omega)) rfl rfl rfl rfl
    show w_R xs Ln 27 (68, [(0, .ref 1), (1, .int (Int32.ofNat r)), (2, .int (Int32.ofNat c)), (3, .int x)], [.int (v_66 I J Z (148 + 29 * r + c) x (Z (144 + 29 * r) c))], (I, J, kR w rem, Z), 0, 0) _
    refine w_R.ret 1 (.inl (some (.int (v_66 I J Z (148 + 29 * r + c) x (Z (144 + 29 * r) c))))) (I, J, kR w rem, Z) ?_ (fun x_ Q_ k_ => ⟨trivial, ⟨Nat.le_of_ble_eq_true rfl, Nat.le_of_ble_eq_true rfl⟩, k_⟩)
    exact ⟨by rw [show v_27 I J Z r c x = (v_66 I J Z (148 + 29 * r + c) x (Z (144 + 29 * r) c)) from by unfold v_27; rw [if_pos h1]] <;> rfl, rfl⟩
  · replace h1 := Bool.eq_false_iff.mp h1
    refine w_R.ret 2 (.inl (some (.int (-1)))) (I, J, kR w rem, Z) ?_ (fun x_ Q_ k_ => ⟨trivial, trivial, ⟨Nat.le_of_ble_eq_true rfl, Nat.le_of_ble_eq_true rfl⟩, k_⟩)
    exact ⟨by rw [show v_27 I J Z r c x = (-1) from by unfold v_27; rw [if_neg h1]] <;> rfl, rfl⟩
def v_161 (I : Nat → Nat → Int32) (J : Nat → Nat → Int64) (Z : Nat → Nat → Bool) (r : Nat) (c : Nat) (x : Int32) : Int32 := if (Z 225 ((16 * r) + c)) = true then if x = 0 then I 226 ((16 * r) + c) else if x = 1 then I 228 ((16 * r) + c) else if x = 2 then I 229 ((16 * r) + c) else if x = 3 then I 230 ((16 * r) + c) else if x = 4 then I 231 ((16 * r) + c) else if x = 5 then I 232 ((16 * r) + c) else if x = 6 then I 233 ((16 * r) + c) else if x = 7 then I 234 ((16 * r) + c) else if x = 8 then if (Z 235 ((16 * r) + c)) = true then 1 else 0 else (-1) else (-1)
def i_161 (I : Nat → Nat → Int32) (J : Nat → Nat → Int64) (Z : Nat → Nat → Bool) (r : Nat) (c : Nat) (x : Int32) : Nat → Nat → Int32 := s_up I 199 59 0
theorem d_161 (r : Nat) (c : Nat) (x : Int32) (hr : r < 2) (hc : c < 16) : w_R xs Ln 161 (0, [(0, .ref 199), (1, .int (Int32.ofNat r)), (2, .int (Int32.ofNat c)), (3, .int x)], [], (I, J, kR w rem, Z), 0, 0) (fun o s => o = .inl (some (.int (v_161 I J Z r c x))) ∧ s = (i_161 I J Z r c x, J, kR w rem, Z)) := by
  refine w_R.go (c' := (8, [(0, .ref 199), (1, .int (Int32.ofNat r)), (2, .int (Int32.ofNat c)), (3, .int x)], [.int 2, .int 0, .int (Int32.ofNat r)], (s_up I 199 59 0, J, kR w rem, Z), 0, 0)) 6 ?_ (fun m_ x_ Q_ k_ => ⟨trivial, trivial, ⟨sh_199, trivial⟩, trivial, trivial, trivial, k_⟩)
  refine w_R.callS (ce' := 0) (sl' := 0) (v := some (.int (s_b true))) (σ' := (s_up I 199 59 0, J, kR w rem, Z)) (as := [.int (Int32.ofNat r), .int 0, .int 2]) (rest := []) (d_106T r 0 2 (by omega) (by omega) (by decide)) ?_ rfl rfl rfl rfl rfl rfl rfl rfl rfl
  show w_R xs Ln 161 (11, [(0, .ref 199), (1, .int (Int32.ofNat r)), (2, .int (Int32.ofNat c)), (3, .int x)], [.int (s_b true)], (s_up I 199 59 0, J, kR w rem, Z), 0, 0) _
  refine w_R.go (c' := (18, [(0, .ref 199), (1, .int (Int32.ofNat r)), (2, .int (Int32.ofNat c)), (3, .int x)], [.int 15, .int 0, .int (Int32.ofNat c)], (s_up I 199 59 0, J, kR w rem, Z), 0, 0)) 4 ?_ (fun m_ x_ Q_ k_ => ⟨trivial, trivial, trivial, trivial, k_⟩)
  refine w_R.callS (ce' := 0) (sl' := 0) (v := some (.int (s_b true))) (σ' := (s_up I 199 59 0, J, kR w rem, Z)) (as := [.int (Int32.ofNat c), .int 0, .int 15]) (rest := []) (d_106T c 0 15 (by omega) (by omega) (by decide)) ?_ rfl rfl rfl rfl rfl rfl rfl rfl rfl
  show w_R xs Ln 161 (21, [(0, .ref 199), (1, .int (Int32.ofNat r)), (2, .int (Int32.ofNat c)), (3, .int x)], [.int (s_b true)], (s_up I 199 59 0, J, kR w rem, Z), 0, 0) _
  refine w_R.go (c' := (30, [(0, .ref 199), (1, .int (Int32.ofNat r)), (2, .int (Int32.ofNat c)), (3, .int x)], [.int (Int32.ofNat 16 * Int32.ofNat r)], (s_up I 199 59 0, J, kR w rem, Z), 0, 0)) 4 ?_ (fun m_ x_ Q_ k_ => ⟨trivial, trivial, trivial, trivial, k_⟩)
  rw [n_mul 16 r]
  show w_R xs Ln 161 (30, [(0, .ref 199), (1, .int (Int32.ofNat r)), (2, .int (Int32.ofNat c)), (3, .int x)], [.int (Int32.ofNat (16 * r))], (s_up I 199 59 0, J, kR w rem, Z), 0, 0) _
  refine w_R.go (c' := (32, [(0, .ref 199), (1, .int (Int32.ofNat r)), (2, .int (Int32.ofNat c)), (3, .int x)], [.int (Int32.ofNat (16 * r) + Int32.ofNat c)], (s_up I 199 59 0, J, kR w rem, Z), 0, 0)) 2 ?_ (fun m_ x_ Q_ k_ => ⟨trivial, trivial, k_⟩)
  rw [n_add (16 * r) c]
  show w_R xs Ln 161 (32, [(0, .ref 199), (1, .int (Int32.ofNat r)), (2, .int (Int32.ofNat c)), (3, .int x)], [.int (Int32.ofNat ((16 * r) + c))], (s_up I 199 59 0, J, kR w rem, Z), 0, 0) _
  refine w_R.go (c' := (41, [(4, .int (Int32.ofNat ((16 * r) + c))), (0, .ref 199), (1, .int (Int32.ofNat r)), (2, .int (Int32.ofNat c)), (3, .int x)], [.int (s_b (Z 225 (Int32.ofNat ((16 * r) + c)).toNatClampNeg))], (s_up I 199 59 0, J, kR w rem, Z), 0, 0)) 5 ?_ (fun m_ x_ Q_ k_ => ⟨trivial, trivial, ⟨sh_199, (Nat.succ_ne_zero 224)⟩, trivial, ⟨_, sh_225, (n_in (a := (16 * r) + c) (by omega) (by decide))⟩, k_⟩)
  rw [n_cl (a := (16 * r) + c) (by omega)]
  show w_R xs Ln 161 (41, [(4, .int (Int32.ofNat ((16 * r) + c))), (0, .ref 199), (1, .int (Int32.ofNat r)), (2, .int (Int32.ofNat c)), (3, .int x)], [.int (s_b (Z 225 ((16 * r) + c)))], (s_up I 199 59 0, J, kR w rem, Z), 0, 0) _
  refine w_R.go (c' := (i_br .ne (s_b (Z 225 ((16 * r) + c))) 0 46 44, [(4, .int (Int32.ofNat ((16 * r) + c))), (0, .ref 199), (1, .int (Int32.ofNat r)), (2, .int (Int32.ofNat c)), (3, .int x)], [], (s_up I 199 59 0, J, kR w rem, Z), 0, 0)) 1 ?_ (fun m_ x_ Q_ k_ => ⟨trivial, k_⟩)
  refine w_R.br_nz (fun h1 => ?_) (fun h1 => ?_)
  · refine w_R.go (c' := (if x.toInt < 0 ∨ 8 < x.toInt then 176 else i_tg 47 ((#[49, 57, 65, 73, 81, 89, 97, 105, 113] : Array Int).getD (x.toInt - 0).toNat 0), [(4, .int (Int32.ofNat ((16 * r) + c))), (0, .ref 199), (1, .int (Int32.ofNat r)), (2, .int (Int32.ofNat c)), (3, .int x)], [], (s_up I 199 59 0, J, kR w rem, Z), 0, 0)) 2 ?_ (fun m_ x_ Q_ k_ => ⟨trivial, trivial, k_⟩)
    by_cases h2 : x = 0
    · rw [show (if x.toInt < 0 ∨ 8 < x.toInt then 176 else i_tg 47 ((#[49, 57, 65, 73, 81, 89, 97, 105, 113] : Array Int).getD (x.toInt - 0).toNat 0)) = 96 by rw [h2]; rfl]
      refine w_R.go (c' := (103, [(4, .int (Int32.ofNat ((16 * r) + c))), (0, .ref 199), (1, .int (Int32.ofNat r)), (2, .int (Int32.ofNat c)), (3, .int x)], [.int ((s_up I 199 59 0) 226 (Int32.ofNat ((16 * r) + c)).toNatClampNeg)], (s_up I 199 59 0, J, kR w rem, Z), 0, 0)) 4 ?_ (fun m_ x_ Q_ k_ => ⟨trivial, ⟨sh_199, (Nat.succ_ne_zero 225)⟩, trivial, ⟨_, sh_226, (n_in (a := (16 * r) + c) (by omega) (by decide))⟩, k_⟩)
      rw [n_cl (a := (16 * r) + c) (by omega)]
      rw [show (s_up I 199 59 0) 226 ((16 * r) + c) = I 226 ((16 * r) + c) from (s_upa (by decide))]
      show w_R xs Ln 161 (103, [(4, .int (Int32.ofNat ((16 * r) + c))), (0, .ref 199), (1, .int (Int32.ofNat r)), (2, .int (Int32.ofNat c)), (3, .int x)], [.int (I 226 ((16 * r) + c))], (s_up I 199 59 0, J, kR w rem, Z), 0, 0) _
      refine w_R.ret 1 (.inl (some (.int (I 226 ((16 * r) + c))))) (s_up I 199 59 0, J, kR w rem, Z) ?_ (fun x_ Q_ k_ => ⟨trivial, ⟨Nat.le_of_ble_eq_true rfl, Nat.le_of_ble_eq_true rfl⟩, k_⟩)
      exact ⟨by rw [show v_161 I J Z r c x = (I 226 ((16 * r) + c)) from by unfold v_161; rw [if_pos h1, if_pos h2]] <;> rfl, by rw [show i_161 I J Z r c x = (s_up I 199 59 0) from by unfold i_161; rfl]⟩
    by_cases h3 : x = 1
    · rw [show (if x.toInt < 0 ∨ 8 < x.toInt then 176 else i_tg 47 ((#[49, 57, 65, 73, 81, 89, 97, 105, 113] : Array Int).getD (x.toInt - 0).toNat 0)) = 104 by rw [h3]; rfl]
      refine w_R.go (c' := (111, [(4, .int (Int32.ofNat ((16 * r) + c))), (0, .ref 199), (1, .int (Int32.ofNat r)), (2, .int (Int32.ofNat c)), (3, .int x)], [.int ((s_up I 199 59 0) 228 (Int32.ofNat ((16 * r) + c)).toNatClampNeg)], (s_up I 199 59 0, J, kR w rem, Z), 0, 0)) 4 ?_ (fun m_ x_ Q_ k_ => ⟨trivial, ⟨sh_199, (Nat.succ_ne_zero 227)⟩, trivial, ⟨_, sh_228, (n_in (a := (16 * r) + c) (by omega) (by decide))⟩, k_⟩)
      rw [n_cl (a := (16 * r) + c) (by omega)]
      rw [show (s_up I 199 59 0) 228 ((16 * r) + c) = I 228 ((16 * r) + c) from (s_upa (by decide))]
      show w_R xs Ln 161 (111, [(4, .int (Int32.ofNat ((16 * r) + c))), (0, .ref 199), (1, .int (Int32.ofNat r)), (2, .int (Int32.ofNat c)), (3, .int x)], [.int (I 228 ((16 * r) + c))], (s_up I 199 59 0, J, kR w rem, Z), 0, 0) _
      refine w_R.ret 1 (.inl (some (.int (I 228 ((16 * r) + c))))) (s_up I 199 59 0, J, kR w rem, Z) ?_ (fun x_ Q_ k_ => ⟨trivial, ⟨Nat.le_of_ble_eq_true rfl, Nat.le_of_ble_eq_true rfl⟩, k_⟩)
      exact ⟨by rw [show v_161 I J Z r c x = (I 228 ((16 * r) + c)) from by unfold v_161; rw [if_pos h1, if_neg h2, if_pos h3]] <;> rfl, by rw [show i_161 I J Z r c x = (s_up I 199 59 0) from by unfold i_161; rfl]⟩
    by_cases h4 : x = 2
    · rw [show (if x.toInt < 0 ∨ 8 < x.toInt then 176 else i_tg 47 ((#[49, 57, 65, 73, 81, 89, 97, 105, 113] : Array Int).getD (x.toInt - 0).toNat 0)) = 112 by rw [h4]; rfl]
      refine w_R.go (c' := (119, [(4, .int (Int32.ofNat ((16 * r) + c))), (0, .ref 199), (1, .int (Int32.ofNat r)), (2, .int (Int32.ofNat c)), (3, .int x)], [.int ((s_up I 199 59 0) 229 (Int32.ofNat ((16 * r) + c)).toNatClampNeg)], (s_up I 199 59 0, J, kR w rem, Z), 0, 0)) 4 ?_ (fun m_ x_ Q_ k_ => ⟨trivial, ⟨sh_199, (Nat.succ_ne_zero 228)⟩, trivial, ⟨_, sh_229, (n_in (a := (16 * r) + c) (by omega) (by decide))⟩, k_⟩)
      rw [n_cl (a := (16 * r) + c) (by omega)]
      rw [show (s_up I 199 59 0) 229 ((16 * r) + c) = I 229 ((16 * r) + c) from (s_upa (by decide))]
      show w_R xs Ln 161 (119, [(4, .int (Int32.ofNat ((16 * r) + c))), (0, .ref 199), (1, .int (Int32.ofNat r)), (2, .int (Int32.ofNat c)), (3, .int x)], [.int (I 229 ((16 * r) + c))], (s_up I 199 59 0, J, kR w rem, Z), 0, 0) _
      refine w_R.ret 1 (.inl (some (.int (I 229 ((16 * r) + c))))) (s_up I 199 59 0, J, kR w rem, Z) ?_ (fun x_ Q_ k_ => ⟨trivial, ⟨Nat.le_of_ble_eq_true rfl, Nat.le_of_ble_eq_true rfl⟩, k_⟩)
      exact ⟨by rw [show v_161 I J Z r c x = (I 229 ((16 * r) + c)) from by unfold v_161; rw [if_pos h1, if_neg h2, if_neg h3, if_pos h4]] <;> rfl, by rw [show i_161 I J Z r c x = (s_up I 199 59 0) from by unfold i_161; rfl]⟩
    by_cases h5 : x = 3
    · rw [show (if x.toInt < 0 ∨ 8 < x.toInt then 176 else i_tg 47 ((#[49, 57, 65, 73, 81, 89, 97, 105, 113] : Array Int).getD (x.toInt - 0).toNat 0)) = 120 by rw [h5]; rfl]
      refine w_R.go (c' := (127, [(4, .int (Int32.ofNat ((16 * r) + c))), (0, .ref 199), (1, .int (Int32.ofNat r)), (2, .int (Int32.ofNat c)), (3, .int x)], [.int ((s_up I 199 59 0) 230 (Int32.ofNat ((16 * r) + c)).toNatClampNeg)], (s_up I 199 59 0, J, kR w rem, Z), 0, 0)) 4 ?_ (fun m_ x_ Q_ k_ => ⟨trivial, ⟨sh_199, (Nat.succ_ne_zero 229)⟩, trivial, ⟨_, sh_230, (n_in (a := (16 * r) + c) (by omega) (by decide))⟩, k_⟩)
      rw [n_cl (a := (16 * r) + c) (by omega)]
      rw [show (s_up I 199 59 0) 230 ((16 * r) + c) = I 230 ((16 * r) + c) from (s_upa (by decide))]
      show w_R xs Ln 161 (127, [(4, .int (Int32.ofNat ((16 * r) + c))), (0, .ref 199), (1, .int (Int32.ofNat r)), (2, .int (Int32.ofNat c)), (3, .int x)], [.int (I 230 ((16 * r) + c))], (s_up I 199 59 0, J, kR w rem, Z), 0, 0) _
      refine w_R.ret 1 (.inl (some (.int (I 230 ((16 * r) + c))))) (s_up I 199 59 0, J, kR w rem, Z) ?_ (fun x_ Q_ k_ => ⟨trivial, ⟨Nat.le_of_ble_eq_true rfl, Nat.le_of_ble_eq_true rfl⟩, k_⟩)
      exact ⟨by rw [show v_161 I J Z r c x = (I 230 ((16 * r) + c)) from by unfold v_161; rw [if_pos h1, if_neg h2, if_neg h3, if_neg h4, if_pos h5]] <;> rfl, by rw [show i_161 I J Z r c x = (s_up I 199 59 0) from by unfold i_161; rfl]⟩
    by_cases h6 : x = 4
    · rw [show (if x.toInt < 0 ∨ 8 < x.toInt then 176 else i_tg 47 ((#[49, 57, 65, 73, 81, 89, 97, 105, 113] : Array Int).getD (x.toInt - 0).toNat 0)) = 128 by rw [h6]; rfl]
      refine w_R.go (c' := (135, [(4, .int (Int32.ofNat ((16 * r) + c))), (0, .ref 199), (1, .int (Int32.ofNat r)), (2, .int (Int32.ofNat c)), (3, .int x)], [.int ((s_up I 199 59 0) 231 (Int32.ofNat ((16 * r) + c)).toNatClampNeg)], (s_up I 199 59 0, J, kR w rem, Z), 0, 0)) 4 ?_ (fun m_ x_ Q_ k_ => ⟨trivial, ⟨sh_199, (Nat.succ_ne_zero 230)⟩, trivial, ⟨_, sh_231, (n_in (a := (16 * r) + c) (by omega) (by decide))⟩, k_⟩)
      rw [n_cl (a := (16 * r) + c) (by omega)]
      rw [show (s_up I 199 59 0) 231 ((16 * r) + c) = I 231 ((16 * r) + c) from (s_upa (by decide))]
      show w_R xs Ln 161 (135, [(4, .int (Int32.ofNat ((16 * r) + c))), (0, .ref 199), (1, .int (Int32.ofNat r)), (2, .int (Int32.ofNat c)), (3, .int x)], [.int (I 231 ((16 * r) + c))], (s_up I 199 59 0, J, kR w rem, Z), 0, 0) _
      refine w_R.ret 1 (.inl (some (.int (I 231 ((16 * r) + c))))) (s_up I 199 59 0, J, kR w rem, Z) ?_ (fun x_ Q_ k_ => ⟨trivial, ⟨Nat.le_of_ble_eq_true rfl, Nat.le_of_ble_eq_true rfl⟩, k_⟩)
      exact ⟨by rw [show v_161 I J Z r c x = (I 231 ((16 * r) + c)) from by unfold v_161; rw [if_pos h1, if_neg h2, if_neg h3, if_neg h4, if_neg h5, if_pos h6]] <;> rfl, by rw [show i_161 I J Z r c x = (s_up I 199 59 0) from by unfold i_161; rfl]⟩
    by_cases h7 : x = 5
    · rw [show (if x.toInt < 0 ∨ 8 < x.toInt then 176 else i_tg 47 ((#[49, 57, 65, 73, 81, 89, 97, 105, 113] : Array Int).getD (x.toInt - 0).toNat 0)) = 136 by rw [h7]; rfl]
      refine w_R.go (c' := (143, [(4, .int (Int32.ofNat ((16 * r) + c))), (0, .ref 199), (1, .int (Int32.ofNat r)), (2, .int (Int32.ofNat c)), (3, .int x)], [.int ((s_up I 199 59 0) 232 (Int32.ofNat ((16 * r) + c)).toNatClampNeg)], (s_up I 199 59 0, J, kR w rem, Z), 0, 0)) 4 ?_ (fun m_ x_ Q_ k_ => ⟨trivial, ⟨sh_199, (Nat.succ_ne_zero 231)⟩, trivial, ⟨_, sh_232, (n_in (a := (16 * r) + c) (by omega) (by decide))⟩, k_⟩)
      rw [n_cl (a := (16 * r) + c) (by omega)]
      rw [show (s_up I 199 59 0) 232 ((16 * r) + c) = I 232 ((16 * r) + c) from (s_upa (by decide))]
      show w_R xs Ln 161 (143, [(4, .int (Int32.ofNat ((16 * r) + c))), (0, .ref 199), (1, .int (Int32.ofNat r)), (2, .int (Int32.ofNat c)), (3, .int x)], [.int (I 232 ((16 * r) + c))], (s_up I 199 59 0, J, kR w rem, Z), 0, 0) _
      refine w_R.ret 1 (.inl (some (.int (I 232 ((16 * r) + c))))) (s_up I 199 59 0, J, kR w rem, Z) ?_ (fun x_ Q_ k_ => ⟨trivial, ⟨Nat.le_of_ble_eq_true rfl, Nat.le_of_ble_eq_true rfl⟩, k_⟩)
      exact ⟨by rw [show v_161 I J Z r c x = (I 232 ((16 * r) + c)) from by unfold v_161; rw [if_pos h1, if_neg h2, if_neg h3, if_neg h4, if_neg h5, if_neg h6, if_pos h7]] <;> rfl, by rw [show i_161 I J Z r c x = (s_up I 199 59 0) from by unfold i_161; rfl]⟩
    by_cases h8 : x = 6
    · rw [show (if x.toInt < 0 ∨ 8 < x.toInt then 176 else i_tg 47 ((#[49, 57, 65, 73, 81, 89, 97, 105, 113] : Array Int).getD (x.toInt - 0).toNat 0)) = 144 by rw [h8]; rfl]
      refine w_R.go (c' := (151, [(4, .int (Int32.ofNat ((16 * r) + c))), (0, .ref 199), (1, .int (Int32.ofNat r)), (2, .int (Int32.ofNat c)), (3, .int x)], [.int ((s_up I 199 59 0) 233 (Int32.ofNat ((16 * r) + c)).toNatClampNeg)], (s_up I 199 59 0, J, kR w rem, Z), 0, 0)) 4 ?_ (fun m_ x_ Q_ k_ => ⟨trivial, ⟨sh_199, (Nat.succ_ne_zero 232)⟩, trivial, ⟨_, sh_233, (n_in (a := (16 * r) + c) (by omega) (by decide))⟩, k_⟩)
      rw [n_cl (a := (16 * r) + c) (by omega)]
      rw [show (s_up I 199 59 0) 233 ((16 * r) + c) = I 233 ((16 * r) + c) from (s_upa (by decide))]
      show w_R xs Ln 161 (151, [(4, .int (Int32.ofNat ((16 * r) + c))), (0, .ref 199), (1, .int (Int32.ofNat r)), (2, .int (Int32.ofNat c)), (3, .int x)], [.int (I 233 ((16 * r) + c))], (s_up I 199 59 0, J, kR w rem, Z), 0, 0) _
      refine w_R.ret 1 (.inl (some (.int (I 233 ((16 * r) + c))))) (s_up I 199 59 0, J, kR w rem, Z) ?_ (fun x_ Q_ k_ => ⟨trivial, ⟨Nat.le_of_ble_eq_true rfl, Nat.le_of_ble_eq_true rfl⟩, k_⟩)
      exact ⟨by rw [show v_161 I J Z r c x = (I 233 ((16 * r) + c)) from by unfold v_161; rw [if_pos h1, if_neg h2, if_neg h3, if_neg h4, if_neg h5, if_neg h6, if_neg h7, if_pos h8]] <;> rfl, by rw [show i_161 I J Z r c x = (s_up I 199 59 0) from by unfold i_161; rfl]⟩
    by_cases h9 : x = 7
    · rw [show (if x.toInt < 0 ∨ 8 < x.toInt then 176 else i_tg 47 ((#[49, 57, 65, 73, 81, 89, 97, 105, 113] : Array Int).getD (x.toInt - 0).toNat 0)) = 152 by rw [h9]; rfl]
      refine w_R.go (c' := (159, [(4, .int (Int32.ofNat ((16 * r) + c))), (0, .ref 199), (1, .int (Int32.ofNat r)), (2, .int (Int32.ofNat c)), (3, .int x)], [.int ((s_up I 199 59 0) 234 (Int32.ofNat ((16 * r) + c)).toNatClampNeg)], (s_up I 199 59 0, J, kR w rem, Z), 0, 0)) 4 ?_ (fun m_ x_ Q_ k_ => ⟨trivial, ⟨sh_199, (Nat.succ_ne_zero 233)⟩, trivial, ⟨_, sh_234, (n_in (a := (16 * r) + c) (by omega) (by decide))⟩, k_⟩)
      rw [n_cl (a := (16 * r) + c) (by omega)]
      rw [show (s_up I 199 59 0) 234 ((16 * r) + c) = I 234 ((16 * r) + c) from (s_upa (by decide))]
      show w_R xs Ln 161 (159, [(4, .int (Int32.ofNat ((16 * r) + c))), (0, .ref 199), (1, .int (Int32.ofNat r)), (2, .int (Int32.ofNat c)), (3, .int x)], [.int (I 234 ((16 * r) + c))], (s_up I 199 59 0, J, kR w rem, Z), 0, 0) _
      refine w_R.ret 1 (.inl (some (.int (I 234 ((16 * r) + c))))) (s_up I 199 59 0, J, kR w rem, Z) ?_ (fun x_ Q_ k_ => ⟨trivial, ⟨Nat.le_of_ble_eq_true rfl, Nat.le_of_ble_eq_true rfl⟩, k_⟩)
      exact ⟨by rw [show v_161 I J Z r c x = (I 234 ((16 * r) + c)) from by unfold v_161; rw [if_pos h1, if_neg h2, if_neg h3, if_neg h4, if_neg h5, if_neg h6, if_neg h7, if_neg h8, if_pos h9]] <;> rfl, by rw [show i_161 I J Z r c x = (s_up I 199 59 0) from by unfold i_161; rfl]⟩
    by_cases h10 : x = 8
    · rw [show (if x.toInt < 0 ∨ 8 < x.toInt then 176 else i_tg 47 ((#[49, 57, 65, 73, 81, 89, 97, 105, 113] : Array Int).getD (x.toInt - 0).toNat 0)) = 160 by rw [h10]; rfl]
      refine w_R.go (c' := (167, [(4, .int (Int32.ofNat ((16 * r) + c))), (0, .ref 199), (1, .int (Int32.ofNat r)), (2, .int (Int32.ofNat c)), (3, .int x)], [.int (s_b (Z 235 (Int32.ofNat ((16 * r) + c)).toNatClampNeg))], (s_up I 199 59 0, J, kR w rem, Z), 0, 0)) 4 ?_ (fun m_ x_ Q_ k_ => ⟨trivial, ⟨sh_199, (Nat.succ_ne_zero 234)⟩, trivial, ⟨_, sh_235, (n_in (a := (16 * r) + c) (by omega) (by decide))⟩, k_⟩)
      rw [n_cl (a := (16 * r) + c) (by omega)]
      show w_R xs Ln 161 (167, [(4, .int (Int32.ofNat ((16 * r) + c))), (0, .ref 199), (1, .int (Int32.ofNat r)), (2, .int (Int32.ofNat c)), (3, .int x)], [.int (s_b (Z 235 ((16 * r) + c)))], (s_up I 199 59 0, J, kR w rem, Z), 0, 0) _
      refine w_R.go (c' := (i_br .eq (s_b (Z 235 ((16 * r) + c))) 0 174 170, [(4, .int (Int32.ofNat ((16 * r) + c))), (0, .ref 199), (1, .int (Int32.ofNat r)), (2, .int (Int32.ofNat c)), (3, .int x)], [], (s_up I 199 59 0, J, kR w rem, Z), 0, 0)) 1 ?_ (fun m_ x_ Q_ k_ => ⟨trivial, k_⟩)
      refine w_R.br_z (fun h11 => ?_) (fun h11 => ?_)
      · replace h11 := Bool.eq_false_iff.mp h11
        refine w_R.ret 2 (.inl (some (.int 0))) (s_up I 199 59 0, J, kR w rem, Z) ?_ (fun x_ Q_ k_ => ⟨trivial, trivial, ⟨Nat.le_of_ble_eq_true rfl, Nat.le_of_ble_eq_true rfl⟩, k_⟩)
        exact ⟨by rw [show v_161 I J Z r c x = 0 from by unfold v_161; rw [if_pos h1, if_neg h2, if_neg h3, if_neg h4, if_neg h5, if_neg h6, if_neg h7, if_neg h8, if_neg h9, if_pos h10, if_neg h11]] <;> rfl, by rw [show i_161 I J Z r c x = (s_up I 199 59 0) from by unfold i_161; rfl]⟩
      · refine w_R.ret 3 (.inl (some (.int 1))) (s_up I 199 59 0, J, kR w rem, Z) ?_ (fun x_ Q_ k_ => ⟨trivial, trivial, trivial, ⟨Nat.le_of_ble_eq_true rfl, Nat.le_of_ble_eq_true rfl⟩, k_⟩)
        exact ⟨by rw [show v_161 I J Z r c x = 1 from by unfold v_161; rw [if_pos h1, if_neg h2, if_neg h3, if_neg h4, if_neg h5, if_neg h6, if_neg h7, if_neg h8, if_neg h9, if_pos h10, if_pos h11]] <;> rfl, by rw [show i_161 I J Z r c x = (s_up I 199 59 0) from by unfold i_161; rfl]⟩
    rw [if_pos (l_out (x := x) (a := 8) (n := 9) (by omega) rfl (by intro k hk; (rcases k with _ | _ | _ | _ | _ | _ | _ | _ | _ | k) <;> first | assumption | omega))]
    refine w_R.ret 2 (.inl (some (.int (-1)))) (s_up I 199 59 0, J, kR w rem, Z) ?_ (fun x_ Q_ k_ => ⟨trivial, trivial, ⟨Nat.le_of_ble_eq_true rfl, Nat.le_of_ble_eq_true rfl⟩, k_⟩)
    exact ⟨by rw [show v_161 I J Z r c x = (-1) from by unfold v_161; rw [if_pos h1, if_neg h2, if_neg h3, if_neg h4, if_neg h5, if_neg h6, if_neg h7, if_neg h8, if_neg h9, if_neg h10]] <;> rfl, by rw [show i_161 I J Z r c x = (s_up I 199 59 0) from by unfold i_161; rfl]⟩
  · replace h1 := Bool.eq_false_iff.mp h1
    refine w_R.ret 2 (.inl (some (.int (-1)))) (s_up I 199 59 0, J, kR w rem, Z) ?_ (fun x_ Q_ k_ => ⟨trivial, trivial, ⟨Nat.le_of_ble_eq_true rfl, Nat.le_of_ble_eq_true rfl⟩, k_⟩)
    exact ⟨by rw [show v_161 I J Z r c x = (-1) from by unfold v_161; rw [if_neg h1]] <;> rfl, by rw [show i_161 I J Z r c x = (s_up I 199 59 0) from by unfold i_161; rfl]⟩
def v_27r (I : Nat → Nat → Int32) (J : Nat → Nat → Int64) (Z : Nat → Nat → Bool) (c : Nat) (x : Int32) : Int32 := v_66 I J Z (17 + c) x false
theorem d_27r (c : Nat) (x : Int32) (hc : c < 16) : w_R xs Ln 27 (0, [(0, .ref 1), (1, .int 2), (2, .int (Int32.ofNat c)), (3, .int x)], [], (I, J, kR w rem, Z), 0, 0) (fun o s => o = .inl (some (.int (v_27r I J Z c x))) ∧ s = (I, J, kR w rem, Z)) := by
  refine w_R.go (c' := (6, [(0, .ref 1), (1, .int 2), (2, .int (Int32.ofNat c)), (3, .int x)], [.int (Int32.ofNat c)], (I, J, kR w rem, Z), 0, 0)) 4 ?_ (fun m_ x_ Q_ k_ => ⟨trivial, trivial, trivial, trivial, k_⟩)
  refine w_R.callS (ce' := 0) (sl' := 0) (v := some (.int (s_b true))) (σ' := (I, J, kR w rem, Z)) (as := [.int (Int32.ofNat c)]) (rest := []) (d_33N c (by omega)) ?_ rfl rfl rfl rfl rfl rfl rfl rfl rfl
  show w_R xs Ln 27 (9, [(0, .ref 1), (1, .int 2), (2, .int (Int32.ofNat c)), (3, .int x)], [.int (s_b true)], (I, J, kR w rem, Z), 0, 0) _
  refine w_R.go (c' := (21, [(0, .ref 1), (1, .int 2), (2, .int (Int32.ofNat c)), (3, .int x)], [.ref (kR w rem 14 (Int32.ofNat c).toNatClampNeg)], (I, J, kR w rem, Z), 0, 0)) 6 ?_ (fun m_ x_ Q_ k_ => ⟨trivial, trivial, ⟨sh_1, (Nat.succ_ne_zero 12)⟩, ⟨sh_13, (Nat.succ_ne_zero 13)⟩, trivial, ⟨⟨_, sh_14, (n_in (a := c) (by omega) (by decide))⟩, (show kR w rem 14 (Int32.ofNat c).toNatClampNeg ≠ 0 by rw [n_cl (a := c) (by omega), r_rrec (w := w) (rem := rem) (c := c) (by omega)]; omega)⟩, k_⟩)
  rw [n_cl (a := c) (by omega)]
  rw [r_rrec (w := w) (rem := rem) (c := c) (by omega)]
  show w_R xs Ln 27 (21, [(0, .ref 1), (1, .int 2), (2, .int (Int32.ofNat c)), (3, .int x)], [.ref (17 + c)], (I, J, kR w rem, Z), 0, 0) _
  refine w_R.go (c' := (23, [(0, .ref 1), (1, .int 2), (2, .int (Int32.ofNat c)), (3, .int x)], [.int 0, .int x, .ref (17 + c)], (I, J, kR w rem, Z), 0, 0)) 2 ?_ (fun m_ x_ Q_ k_ => ⟨trivial, trivial, k_⟩)
  refine w_R.callV (ce' := 0) (sl' := 0) (v := some (.int (v_66 I J Z (17 + c) x false))) (σ' := (I, J, kR w rem, Z)) (as := [.ref (17 + c), .int x, .int 0]) (rest := []) (d_66 (17 + c) x false (sh_rrec (by omega))) ?_ rfl rfl rfl rfl rfl (sh_rrec (by omega)) rfl rfl rfl rfl
  show w_R xs Ln 27 (26, [(0, .ref 1), (1, .int 2), (2, .int (Int32.ofNat c)), (3, .int x)], [.int (v_66 I J Z (17 + c) x false)], (I, J, kR w rem, Z), 0, 0) _
  refine w_R.ret 2 (.inl (some (.int (v_66 I J Z (17 + c) x false)))) (I, J, kR w rem, Z) ?_ (fun x_ Q_ k_ => ⟨trivial, trivial, ⟨Nat.le_of_ble_eq_true rfl, Nat.le_of_ble_eq_true rfl⟩, k_⟩)
  exact ⟨by rw [show v_27r I J Z c x = (v_66 I J Z (17 + c) x false) from by unfold v_27r; rfl] <;> rfl, rfl⟩
def v_161r (I : Nat → Nat → Int32) (J : Nat → Nat → Int64) (Z : Nat → Nat → Bool) (c : Nat) (x : Int32) : Int32 := if (Z 225 (32 + c)) = true then if x = 0 then I 226 (32 + c) else if x = 1 then I 228 (32 + c) else if x = 2 then I 229 (32 + c) else if x = 3 then I 230 (32 + c) else if x = 4 then I 231 (32 + c) else if x = 5 then I 232 (32 + c) else if x = 6 then I 233 (32 + c) else if x = 7 then I 234 (32 + c) else if x = 8 then if (Z 235 (32 + c)) = true then 1 else 0 else (-1) else (-1)
def i_161r (I : Nat → Nat → Int32) (J : Nat → Nat → Int64) (Z : Nat → Nat → Bool) (c : Nat) (x : Int32) : Nat → Nat → Int32 := s_up I 199 59 0
theorem d_161r (c : Nat) (x : Int32) (hc : c < 16) : w_R xs Ln 161 (0, [(0, .ref 199), (1, .int 2), (2, .int (Int32.ofNat c)), (3, .int x)], [], (I, J, kR w rem, Z), 0, 0) (fun o s => o = .inl (some (.int (v_161r I J Z c x))) ∧ s = (i_161r I J Z c x, J, kR w rem, Z)) := by
  refine w_R.go (c' := (8, [(0, .ref 199), (1, .int 2), (2, .int (Int32.ofNat c)), (3, .int x)], [.int 2, .int 0, .int 2], (s_up I 199 59 0, J, kR w rem, Z), 0, 0)) 6 ?_ (fun m_ x_ Q_ k_ => ⟨trivial, trivial, ⟨sh_199, trivial⟩, trivial, trivial, trivial, k_⟩)
  refine w_R.callS (ce' := 0) (sl' := 0) (v := some (.int (s_b true))) (σ' := (s_up I 199 59 0, J, kR w rem, Z)) (as := [.int 2, .int 0, .int 2]) (rest := []) (d_106T 2 0 2 (by decide) (by decide) (by decide)) ?_ rfl rfl rfl rfl rfl rfl rfl rfl rfl
  show w_R xs Ln 161 (11, [(0, .ref 199), (1, .int 2), (2, .int (Int32.ofNat c)), (3, .int x)], [.int (s_b true)], (s_up I 199 59 0, J, kR w rem, Z), 0, 0) _
  refine w_R.go (c' := (18, [(0, .ref 199), (1, .int 2), (2, .int (Int32.ofNat c)), (3, .int x)], [.int 15, .int 0, .int (Int32.ofNat c)], (s_up I 199 59 0, J, kR w rem, Z), 0, 0)) 4 ?_ (fun m_ x_ Q_ k_ => ⟨trivial, trivial, trivial, trivial, k_⟩)
  refine w_R.callS (ce' := 0) (sl' := 0) (v := some (.int (s_b true))) (σ' := (s_up I 199 59 0, J, kR w rem, Z)) (as := [.int (Int32.ofNat c), .int 0, .int 15]) (rest := []) (d_106T c 0 15 (by omega) (by omega) (by decide)) ?_ rfl rfl rfl rfl rfl rfl rfl rfl rfl
  show w_R xs Ln 161 (21, [(0, .ref 199), (1, .int 2), (2, .int (Int32.ofNat c)), (3, .int x)], [.int (s_b true)], (s_up I 199 59 0, J, kR w rem, Z), 0, 0) _
  refine w_R.go (c' := (32, [(0, .ref 199), (1, .int 2), (2, .int (Int32.ofNat c)), (3, .int x)], [.int (Int32.ofNat 32 + Int32.ofNat c)], (s_up I 199 59 0, J, kR w rem, Z), 0, 0)) 6 ?_ (fun m_ x_ Q_ k_ => ⟨trivial, trivial, trivial, trivial, trivial, trivial, k_⟩)
  rw [n_add 32 c]
  show w_R xs Ln 161 (32, [(0, .ref 199), (1, .int 2), (2, .int (Int32.ofNat c)), (3, .int x)], [.int (Int32.ofNat (32 + c))], (s_up I 199 59 0, J, kR w rem, Z), 0, 0) _
  refine w_R.go (c' := (41, [(4, .int (Int32.ofNat (32 + c))), (0, .ref 199), (1, .int 2), (2, .int (Int32.ofNat c)), (3, .int x)], [.int (s_b (Z 225 (Int32.ofNat (32 + c)).toNatClampNeg))], (s_up I 199 59 0, J, kR w rem, Z), 0, 0)) 5 ?_ (fun m_ x_ Q_ k_ => ⟨trivial, trivial, ⟨sh_199, (Nat.succ_ne_zero 224)⟩, trivial, ⟨_, sh_225, (n_in (a := 32 + c) (by omega) (by decide))⟩, k_⟩)
  rw [n_cl (a := 32 + c) (by omega)]
  show w_R xs Ln 161 (41, [(4, .int (Int32.ofNat (32 + c))), (0, .ref 199), (1, .int 2), (2, .int (Int32.ofNat c)), (3, .int x)], [.int (s_b (Z 225 (32 + c)))], (s_up I 199 59 0, J, kR w rem, Z), 0, 0) _
  refine w_R.go (c' := (i_br .ne (s_b (Z 225 (32 + c))) 0 46 44, [(4, .int (Int32.ofNat (32 + c))), (0, .ref 199), (1, .int 2), (2, .int (Int32.ofNat c)), (3, .int x)], [], (s_up I 199 59 0, J, kR w rem, Z), 0, 0)) 1 ?_ (fun m_ x_ Q_ k_ => ⟨trivial, k_⟩)
  refine w_R.br_nz (fun h1 => ?_) (fun h1 => ?_)
  · refine w_R.go (c' := (if x.toInt < 0 ∨ 8 < x.toInt then 176 else i_tg 47 ((#[49, 57, 65, 73, 81, 89, 97, 105, 113] : Array Int).getD (x.toInt - 0).toNat 0), [(4, .int (Int32.ofNat (32 + c))), (0, .ref 199), (1, .int 2), (2, .int (Int32.ofNat c)), (3, .int x)], [], (s_up I 199 59 0, J, kR w rem, Z), 0, 0)) 2 ?_ (fun m_ x_ Q_ k_ => ⟨trivial, trivial, k_⟩)
    by_cases h2 : x = 0
    · rw [show (if x.toInt < 0 ∨ 8 < x.toInt then 176 else i_tg 47 ((#[49, 57, 65, 73, 81, 89, 97, 105, 113] : Array Int).getD (x.toInt - 0).toNat 0)) = 96 by rw [h2]; rfl]
      refine w_R.go (c' := (103, [(4, .int (Int32.ofNat (32 + c))), (0, .ref 199), (1, .int 2), (2, .int (Int32.ofNat c)), (3, .int x)], [.int ((s_up I 199 59 0) 226 (Int32.ofNat (32 + c)).toNatClampNeg)], (s_up I 199 59 0, J, kR w rem, Z), 0, 0)) 4 ?_ (fun m_ x_ Q_ k_ => ⟨trivial, ⟨sh_199, (Nat.succ_ne_zero 225)⟩, trivial, ⟨_, sh_226, (n_in (a := 32 + c) (by omega) (by decide))⟩, k_⟩)
      rw [n_cl (a := 32 + c) (by omega)]
      rw [show (s_up I 199 59 0) 226 (32 + c) = I 226 (32 + c) from (s_upa (by decide))]
      show w_R xs Ln 161 (103, [(4, .int (Int32.ofNat (32 + c))), (0, .ref 199), (1, .int 2), (2, .int (Int32.ofNat c)), (3, .int x)], [.int (I 226 (32 + c))], (s_up I 199 59 0, J, kR w rem, Z), 0, 0) _
      refine w_R.ret 1 (.inl (some (.int (I 226 (32 + c))))) (s_up I 199 59 0, J, kR w rem, Z) ?_ (fun x_ Q_ k_ => ⟨trivial, ⟨Nat.le_of_ble_eq_true rfl, Nat.le_of_ble_eq_true rfl⟩, k_⟩)
      exact ⟨by rw [show v_161r I J Z c x = (I 226 (32 + c)) from by unfold v_161r; rw [if_pos h1, if_pos h2]] <;> rfl, by rw [show i_161r I J Z c x = (s_up I 199 59 0) from by unfold i_161r; rfl]⟩
    by_cases h3 : x = 1
    · rw [show (if x.toInt < 0 ∨ 8 < x.toInt then 176 else i_tg 47 ((#[49, 57, 65, 73, 81, 89, 97, 105, 113] : Array Int).getD (x.toInt - 0).toNat 0)) = 104 by rw [h3]; rfl]
      refine w_R.go (c' := (111, [(4, .int (Int32.ofNat (32 + c))), (0, .ref 199), (1, .int 2), (2, .int (Int32.ofNat c)), (3, .int x)], [.int ((s_up I 199 59 0) 228 (Int32.ofNat (32 + c)).toNatClampNeg)], (s_up I 199 59 0, J, kR w rem, Z), 0, 0)) 4 ?_ (fun m_ x_ Q_ k_ => ⟨trivial, ⟨sh_199, (Nat.succ_ne_zero 227)⟩, trivial, ⟨_, sh_228, (n_in (a := 32 + c) (by omega) (by decide))⟩, k_⟩)
      rw [n_cl (a := 32 + c) (by omega)]
      rw [show (s_up I 199 59 0) 228 (32 + c) = I 228 (32 + c) from (s_upa (by decide))]
      show w_R xs Ln 161 (111, [(4, .int (Int32.ofNat (32 + c))), (0, .ref 199), (1, .int 2), (2, .int (Int32.ofNat c)), (3, .int x)], [.int (I 228 (32 + c))], (s_up I 199 59 0, J, kR w rem, Z), 0, 0) _
      refine w_R.ret 1 (.inl (some (.int (I 228 (32 + c))))) (s_up I 199 59 0, J, kR w rem, Z) ?_ (fun x_ Q_ k_ => ⟨trivial, ⟨Nat.le_of_ble_eq_true rfl, Nat.le_of_ble_eq_true rfl⟩, k_⟩)
      exact ⟨by rw [show v_161r I J Z c x = (I 228 (32 + c)) from by unfold v_161r; rw [if_pos h1, if_neg h2, if_pos h3]] <;> rfl, by rw [show i_161r I J Z c x = (s_up I 199 59 0) from by unfold i_161r; rfl]⟩
    by_cases h4 : x = 2
    · rw [show (if x.toInt < 0 ∨ 8 < x.toInt then 176 else i_tg 47 ((#[49, 57, 65, 73, 81, 89, 97, 105, 113] : Array Int).getD (x.toInt - 0).toNat 0)) = 112 by rw [h4]; rfl]
      refine w_R.go (c' := (119, [(4, .int (Int32.ofNat (32 + c))), (0, .ref 199), (1, .int 2), (2, .int (Int32.ofNat c)), (3, .int x)], [.int ((s_up I 199 59 0) 229 (Int32.ofNat (32 + c)).toNatClampNeg)], (s_up I 199 59 0, J, kR w rem, Z), 0, 0)) 4 ?_ (fun m_ x_ Q_ k_ => ⟨trivial, ⟨sh_199, (Nat.succ_ne_zero 228)⟩, trivial, ⟨_, sh_229, (n_in (a := 32 + c) (by omega) (by decide))⟩, k_⟩)
      rw [n_cl (a := 32 + c) (by omega)]
      rw [show (s_up I 199 59 0) 229 (32 + c) = I 229 (32 + c) from (s_upa (by decide))]
      show w_R xs Ln 161 (119, [(4, .int (Int32.ofNat (32 + c))), (0, .ref 199), (1, .int 2), (2, .int (Int32.ofNat c)), (3, .int x)], [.int (I 229 (32 + c))], (s_up I 199 59 0, J, kR w rem, Z), 0, 0) _
      refine w_R.ret 1 (.inl (some (.int (I 229 (32 + c))))) (s_up I 199 59 0, J, kR w rem, Z) ?_ (fun x_ Q_ k_ => ⟨trivial, ⟨Nat.le_of_ble_eq_true rfl, Nat.le_of_ble_eq_true rfl⟩, k_⟩)
      exact ⟨by rw [show v_161r I J Z c x = (I 229 (32 + c)) from by unfold v_161r; rw [if_pos h1, if_neg h2, if_neg h3, if_pos h4]] <;> rfl, by rw [show i_161r I J Z c x = (s_up I 199 59 0) from by unfold i_161r; rfl]⟩
    by_cases h5 : x = 3
    · rw [show (if x.toInt < 0 ∨ 8 < x.toInt then 176 else i_tg 47 ((#[49, 57, 65, 73, 81, 89, 97, 105, 113] : Array Int).getD (x.toInt - 0).toNat 0)) = 120 by rw [h5]; rfl]
      refine w_R.go (c' := (127, [(4, .int (Int32.ofNat (32 + c))), (0, .ref 199), (1, .int 2), (2, .int (Int32.ofNat c)), (3, .int x)], [.int ((s_up I 199 59 0) 230 (Int32.ofNat (32 + c)).toNatClampNeg)], (s_up I 199 59 0, J, kR w rem, Z), 0, 0)) 4 ?_ (fun m_ x_ Q_ k_ => ⟨trivial, ⟨sh_199, (Nat.succ_ne_zero 229)⟩, trivial, ⟨_, sh_230, (n_in (a := 32 + c) (by omega) (by decide))⟩, k_⟩)
      rw [n_cl (a := 32 + c) (by omega)]
      rw [show (s_up I 199 59 0) 230 (32 + c) = I 230 (32 + c) from (s_upa (by decide))]
      show w_R xs Ln 161 (127, [(4, .int (Int32.ofNat (32 + c))), (0, .ref 199), (1, .int 2), (2, .int (Int32.ofNat c)), (3, .int x)], [.int (I 230 (32 + c))], (s_up I 199 59 0, J, kR w rem, Z), 0, 0) _
      refine w_R.ret 1 (.inl (some (.int (I 230 (32 + c))))) (s_up I 199 59 0, J, kR w rem, Z) ?_ (fun x_ Q_ k_ => ⟨trivial, ⟨Nat.le_of_ble_eq_true rfl, Nat.le_of_ble_eq_true rfl⟩, k_⟩)
      exact ⟨by rw [show v_161r I J Z c x = (I 230 (32 + c)) from by unfold v_161r; rw [if_pos h1, if_neg h2, if_neg h3, if_neg h4, if_pos h5]] <;> rfl, by rw [show i_161r I J Z c x = (s_up I 199 59 0) from by unfold i_161r; rfl]⟩
    by_cases h6 : x = 4
    · rw [show (if x.toInt < 0 ∨ 8 < x.toInt then 176 else i_tg 47 ((#[49, 57, 65, 73, 81, 89, 97, 105, 113] : Array Int).getD (x.toInt - 0).toNat 0)) = 128 by rw [h6]; rfl]
      refine w_R.go (c' := (135, [(4, .int (Int32.ofNat (32 + c))), (0, .ref 199), (1, .int 2), (2, .int (Int32.ofNat c)), (3, .int x)], [.int ((s_up I 199 59 0) 231 (Int32.ofNat (32 + c)).toNatClampNeg)], (s_up I 199 59 0, J, kR w rem, Z), 0, 0)) 4 ?_ (fun m_ x_ Q_ k_ => ⟨trivial, ⟨sh_199, (Nat.succ_ne_zero 230)⟩, trivial, ⟨_, sh_231, (n_in (a := 32 + c) (by omega) (by decide))⟩, k_⟩)
      rw [n_cl (a := 32 + c) (by omega)]
      rw [show (s_up I 199 59 0) 231 (32 + c) = I 231 (32 + c) from (s_upa (by decide))]
      show w_R xs Ln 161 (135, [(4, .int (Int32.ofNat (32 + c))), (0, .ref 199), (1, .int 2), (2, .int (Int32.ofNat c)), (3, .int x)], [.int (I 231 (32 + c))], (s_up I 199 59 0, J, kR w rem, Z), 0, 0) _
      refine w_R.ret 1 (.inl (some (.int (I 231 (32 + c))))) (s_up I 199 59 0, J, kR w rem, Z) ?_ (fun x_ Q_ k_ => ⟨trivial, ⟨Nat.le_of_ble_eq_true rfl, Nat.le_of_ble_eq_true rfl⟩, k_⟩)
      exact ⟨by rw [show v_161r I J Z c x = (I 231 (32 + c)) from by unfold v_161r; rw [if_pos h1, if_neg h2, if_neg h3, if_neg h4, if_neg h5, if_pos h6]] <;> rfl, by rw [show i_161r I J Z c x = (s_up I 199 59 0) from by unfold i_161r; rfl]⟩
    by_cases h7 : x = 5
    · rw [show (if x.toInt < 0 ∨ 8 < x.toInt then 176 else i_tg 47 ((#[49, 57, 65, 73, 81, 89, 97, 105, 113] : Array Int).getD (x.toInt - 0).toNat 0)) = 136 by rw [h7]; rfl]
      refine w_R.go (c' := (143, [(4, .int (Int32.ofNat (32 + c))), (0, .ref 199), (1, .int 2), (2, .int (Int32.ofNat c)), (3, .int x)], [.int ((s_up I 199 59 0) 232 (Int32.ofNat (32 + c)).toNatClampNeg)], (s_up I 199 59 0, J, kR w rem, Z), 0, 0)) 4 ?_ (fun m_ x_ Q_ k_ => ⟨trivial, ⟨sh_199, (Nat.succ_ne_zero 231)⟩, trivial, ⟨_, sh_232, (n_in (a := 32 + c) (by omega) (by decide))⟩, k_⟩)
      rw [n_cl (a := 32 + c) (by omega)]
      rw [show (s_up I 199 59 0) 232 (32 + c) = I 232 (32 + c) from (s_upa (by decide))]
      show w_R xs Ln 161 (143, [(4, .int (Int32.ofNat (32 + c))), (0, .ref 199), (1, .int 2), (2, .int (Int32.ofNat c)), (3, .int x)], [.int (I 232 (32 + c))], (s_up I 199 59 0, J, kR w rem, Z), 0, 0) _
      refine w_R.ret 1 (.inl (some (.int (I 232 (32 + c))))) (s_up I 199 59 0, J, kR w rem, Z) ?_ (fun x_ Q_ k_ => ⟨trivial, ⟨Nat.le_of_ble_eq_true rfl, Nat.le_of_ble_eq_true rfl⟩, k_⟩)
      exact ⟨by rw [show v_161r I J Z c x = (I 232 (32 + c)) from by unfold v_161r; rw [if_pos h1, if_neg h2, if_neg h3, if_neg h4, if_neg h5, if_neg h6, if_pos h7]] <;> rfl, by rw [show i_161r I J Z c x = (s_up I 199 59 0) from by unfold i_161r; rfl]⟩
    by_cases h8 : x = 6
    · rw [show (if x.toInt < 0 ∨ 8 < x.toInt then 176 else i_tg 47 ((#[49, 57, 65, 73, 81, 89, 97, 105, 113] : Array Int).getD (x.toInt - 0).toNat 0)) = 144 by rw [h8]; rfl]
      refine w_R.go (c' := (151, [(4, .int (Int32.ofNat (32 + c))), (0, .ref 199), (1, .int 2), (2, .int (Int32.ofNat c)), (3, .int x)], [.int ((s_up I 199 59 0) 233 (Int32.ofNat (32 + c)).toNatClampNeg)], (s_up I 199 59 0, J, kR w rem, Z), 0, 0)) 4 ?_ (fun m_ x_ Q_ k_ => ⟨trivial, ⟨sh_199, (Nat.succ_ne_zero 232)⟩, trivial, ⟨_, sh_233, (n_in (a := 32 + c) (by omega) (by decide))⟩, k_⟩)
      rw [n_cl (a := 32 + c) (by omega)]
      rw [show (s_up I 199 59 0) 233 (32 + c) = I 233 (32 + c) from (s_upa (by decide))]
      show w_R xs Ln 161 (151, [(4, .int (Int32.ofNat (32 + c))), (0, .ref 199), (1, .int 2), (2, .int (Int32.ofNat c)), (3, .int x)], [.int (I 233 (32 + c))], (s_up I 199 59 0, J, kR w rem, Z), 0, 0) _
      refine w_R.ret 1 (.inl (some (.int (I 233 (32 + c))))) (s_up I 199 59 0, J, kR w rem, Z) ?_ (fun x_ Q_ k_ => ⟨trivial, ⟨Nat.le_of_ble_eq_true rfl, Nat.le_of_ble_eq_true rfl⟩, k_⟩)
      exact ⟨by rw [show v_161r I J Z c x = (I 233 (32 + c)) from by unfold v_161r; rw [if_pos h1, if_neg h2, if_neg h3, if_neg h4, if_neg h5, if_neg h6, if_neg h7, if_pos h8]] <;> rfl, by rw [show i_161r I J Z c x = (s_up I 199 59 0) from by unfold i_161r; rfl]⟩
    by_cases h9 : x = 7
    · rw [show (if x.toInt < 0 ∨ 8 < x.toInt then 176 else i_tg 47 ((#[49, 57, 65, 73, 81, 89, 97, 105, 113] : Array Int).getD (x.toInt - 0).toNat 0)) = 152 by rw [h9]; rfl]
      refine w_R.go (c' := (159, [(4, .int (Int32.ofNat (32 + c))), (0, .ref 199), (1, .int 2), (2, .int (Int32.ofNat c)), (3, .int x)], [.int ((s_up I 199 59 0) 234 (Int32.ofNat (32 + c)).toNatClampNeg)], (s_up I 199 59 0, J, kR w rem, Z), 0, 0)) 4 ?_ (fun m_ x_ Q_ k_ => ⟨trivial, ⟨sh_199, (Nat.succ_ne_zero 233)⟩, trivial, ⟨_, sh_234, (n_in (a := 32 + c) (by omega) (by decide))⟩, k_⟩)
      rw [n_cl (a := 32 + c) (by omega)]
      rw [show (s_up I 199 59 0) 234 (32 + c) = I 234 (32 + c) from (s_upa (by decide))]
      show w_R xs Ln 161 (159, [(4, .int (Int32.ofNat (32 + c))), (0, .ref 199), (1, .int 2), (2, .int (Int32.ofNat c)), (3, .int x)], [.int (I 234 (32 + c))], (s_up I 199 59 0, J, kR w rem, Z), 0, 0) _
      refine w_R.ret 1 (.inl (some (.int (I 234 (32 + c))))) (s_up I 199 59 0, J, kR w rem, Z) ?_ (fun x_ Q_ k_ => ⟨trivial, ⟨Nat.le_of_ble_eq_true rfl, Nat.le_of_ble_eq_true rfl⟩, k_⟩)
      exact ⟨by rw [show v_161r I J Z c x = (I 234 (32 + c)) from by unfold v_161r; rw [if_pos h1, if_neg h2, if_neg h3, if_neg h4, if_neg h5, if_neg h6, if_neg h7, if_neg h8, if_pos h9]] <;> rfl, by rw [show i_161r I J Z c x = (s_up I 199 59 0) from by unfold i_161r; rfl]⟩
    by_cases h10 : x = 8
    · rw [show (if x.toInt < 0 ∨ 8 < x.toInt then 176 else i_tg 47 ((#[49, 57, 65, 73, 81, 89, 97, 105, 113] : Array Int).getD (x.toInt - 0).toNat 0)) = 160 by rw [h10]; rfl]
      refine w_R.go (c' := (167, [(4, .int (Int32.ofNat (32 + c))), (0, .ref 199), (1, .int 2), (2, .int (Int32.ofNat c)), (3, .int x)], [.int (s_b (Z 235 (Int32.ofNat (32 + c)).toNatClampNeg))], (s_up I 199 59 0, J, kR w rem, Z), 0, 0)) 4 ?_ (fun m_ x_ Q_ k_ => ⟨trivial, ⟨sh_199, (Nat.succ_ne_zero 234)⟩, trivial, ⟨_, sh_235, (n_in (a := 32 + c) (by omega) (by decide))⟩, k_⟩)
      rw [n_cl (a := 32 + c) (by omega)]
      show w_R xs Ln 161 (167, [(4, .int (Int32.ofNat (32 + c))), (0, .ref 199), (1, .int 2), (2, .int (Int32.ofNat c)), (3, .int x)], [.int (s_b (Z 235 (32 + c)))], (s_up I 199 59 0, J, kR w rem, Z), 0, 0) _
      refine w_R.go (c' := (i_br .eq (s_b (Z 235 (32 + c))) 0 174 170, [(4, .int (Int32.ofNat (32 + c))), (0, .ref 199), (1, .int 2), (2, .int (Int32.ofNat c)), (3, .int x)], [], (s_up I 199 59 0, J, kR w rem, Z), 0, 0)) 1 ?_ (fun m_ x_ Q_ k_ => ⟨trivial, k_⟩)
      refine w_R.br_z (fun h11 => ?_) (fun h11 => ?_)
      · replace h11 := Bool.eq_false_iff.mp h11
        refine w_R.ret 2 (.inl (some (.int 0))) (s_up I 199 59 0, J, kR w rem, Z) ?_ (fun x_ Q_ k_ => ⟨trivial, trivial, ⟨Nat.le_of_ble_eq_true rfl, Nat.le_of_ble_eq_true rfl⟩, k_⟩)
        exact ⟨by rw [show v_161r I J Z c x = 0 from by unfold v_161r; rw [if_pos h1, if_neg h2, if_neg h3, if_neg h4, if_neg h5, if_neg h6, if_neg h7, if_neg h8, if_neg h9, if_pos h10, if_neg h11]] <;> rfl, by rw [show i_161r I J Z c x = (s_up I 199 59 0) from by unfold i_161r; rfl]⟩
      · refine w_R.ret 3 (.inl (some (.int 1))) (s_up I 199 59 0, J, kR w rem, Z) ?_ (fun x_ Q_ k_ => ⟨trivial, trivial, trivial, ⟨Nat.le_of_ble_eq_true rfl, Nat.le_of_ble_eq_true rfl⟩, k_⟩)
        exact ⟨by rw [show v_161r I J Z c x = 1 from by unfold v_161r; rw [if_pos h1, if_neg h2, if_neg h3, if_neg h4, if_neg h5, if_neg h6, if_neg h7, if_neg h8, if_neg h9, if_pos h10, if_pos h11]] <;> rfl, by rw [show i_161r I J Z c x = (s_up I 199 59 0) from by unfold i_161r; rfl]⟩
    rw [if_pos (l_out (x := x) (a := 8) (n := 9) (by omega) rfl (by intro k hk; (rcases k with _ | _ | _ | _ | _ | _ | _ | _ | _ | k) <;> first | assumption | omega))]
    refine w_R.ret 2 (.inl (some (.int (-1)))) (s_up I 199 59 0, J, kR w rem, Z) ?_ (fun x_ Q_ k_ => ⟨trivial, trivial, ⟨Nat.le_of_ble_eq_true rfl, Nat.le_of_ble_eq_true rfl⟩, k_⟩)
    exact ⟨by rw [show v_161r I J Z c x = (-1) from by unfold v_161r; rw [if_pos h1, if_neg h2, if_neg h3, if_neg h4, if_neg h5, if_neg h6, if_neg h7, if_neg h8, if_neg h9, if_neg h10]] <;> rfl, by rw [show i_161r I J Z c x = (s_up I 199 59 0) from by unfold i_161r; rfl]⟩
  · replace h1 := Bool.eq_false_iff.mp h1
    refine w_R.ret 2 (.inl (some (.int (-1)))) (s_up I 199 59 0, J, kR w rem, Z) ?_ (fun x_ Q_ k_ => ⟨trivial, trivial, ⟨Nat.le_of_ble_eq_true rfl, Nat.le_of_ble_eq_true rfl⟩, k_⟩)
    exact ⟨by rw [show v_161r I J Z c x = (-1) from by unfold v_161r; rw [if_neg h1]] <;> rfl, by rw [show i_161r I J Z c x = (s_up I 199 59 0) from by unfold i_161r; rfl]⟩
theorem b_1_0 (f : Int32) (t : Int32) (y : Int32) (hf : l_rg f 0 12 = false) : w_R xs Ln 1 (0, [(0, .ref 1), (1, .int f), (2, .int t), (3, .int y)], [], (I, J, kR w rem, Z), 0, 0) (fun o s => o = .inl (some (.int 0)) ∧ s = (I, J, kR w rem, Z)) := by
  refine w_R.go (c' := (1, [(0, .ref 1), (1, .int f), (2, .int t), (3, .int y)], [.int f], (I, J, kR w rem, Z), 0, 0)) 1 ?_ (fun m_ x_ Q_ k_ => ⟨trivial, k_⟩)
  refine w_R.callS (ce' := 0) (sl' := 0) (v := some (.int (s_b false))) (σ' := (I, J, kR w rem, Z)) (as := [.int f]) (rest := []) (d_28F f hf) ?_ rfl rfl rfl rfl rfl rfl rfl rfl rfl
  show w_R xs Ln 1 (4, [(0, .ref 1), (1, .int f), (2, .int t), (3, .int y)], [.int (s_b false)], (I, J, kR w rem, Z), 0, 0) _
  refine w_R.ret 3 (.inl (some (.int 0))) (I, J, kR w rem, Z) ?_ (fun x_ Q_ k_ => ⟨trivial, trivial, Or.inl rfl, ⟨Nat.le_of_ble_eq_true rfl, Nat.le_of_ble_eq_true rfl⟩, k_⟩)
  exact ⟨rfl, rfl⟩
theorem b_111_0 (f : Int32) (t : Int32) (y : Int32) (hf : l_rg f 0 12 = false) : w_R xs Ln 111 (0, [(0, .ref 199), (1, .int f), (2, .int t), (3, .int y)], [], (I, J, kR w rem, Z), 0, 0) (fun o s => o = .inl (some (.int 0)) ∧ s = (s_up I 199 59 0, J, kR w rem, Z)) := by
  refine w_R.go (c' := (10, [(0, .ref 199), (1, .int f), (2, .int t), (3, .int y)], [.int 999, .int 0, .int y], (s_up I 199 59 0, J, kR w rem, Z), 0, 0)) 6 ?_ (fun m_ x_ Q_ k_ => ⟨trivial, trivial, ⟨sh_199, trivial⟩, trivial, trivial, trivial, k_⟩)
  refine w_R.callS (ce' := 0) (sl' := 0) (v := some (.int (s_b (l_rg y 0 (999 + 1))))) (σ' := (s_up I 199 59 0, J, kR w rem, Z)) (as := [.int y, .int 0, .int 999]) (rest := []) (d_106L y 0 999 (by decide) (by decide)) ?_ rfl rfl rfl rfl rfl rfl rfl rfl rfl
  show w_R xs Ln 111 (13, [(0, .ref 199), (1, .int f), (2, .int t), (3, .int y)], [.int (s_b (l_rg y 0 (999 + 1)))], (s_up I 199 59 0, J, kR w rem, Z), 0, 0) _
  refine w_R.go (c' := (i_br .eq (s_b (l_rg y 0 (999 + 1))) 0 35 16, [(0, .ref 199), (1, .int f), (2, .int t), (3, .int y)], [], (s_up I 199 59 0, J, kR w rem, Z), 0, 0)) 1 ?_ (fun m_ x_ Q_ k_ => ⟨trivial, k_⟩)
  refine w_R.br_z (fun h1 => ?_) (fun h1 => ?_)
  · replace h1 := Bool.eq_false_iff.mp h1
    refine w_R.ret 2 (.inl (some (.int 0))) (s_up I 199 59 0, J, kR w rem, Z) ?_ (fun x_ Q_ k_ => ⟨trivial, Or.inl rfl, ⟨Nat.le_of_ble_eq_true rfl, Nat.le_of_ble_eq_true rfl⟩, k_⟩)
    exact ⟨rfl, rfl⟩
  · refine w_R.go (c' := (17, [(0, .ref 199), (1, .int f), (2, .int t), (3, .int y)], [.int f], (s_up I 199 59 0, J, kR w rem, Z), 0, 0)) 1 ?_ (fun m_ x_ Q_ k_ => ⟨trivial, k_⟩)
    refine w_R.callS (ce' := 0) (sl' := 0) (v := some (.int (s_b false))) (σ' := (s_up I 199 59 0, J, kR w rem, Z)) (as := [.int f]) (rest := []) (d_107F f hf) ?_ rfl rfl rfl rfl rfl rfl rfl rfl rfl
    show w_R xs Ln 111 (20, [(0, .ref 199), (1, .int f), (2, .int t), (3, .int y)], [.int (s_b false)], (s_up I 199 59 0, J, kR w rem, Z), 0, 0) _
    refine w_R.ret 3 (.inl (some (.int 0))) (s_up I 199 59 0, J, kR w rem, Z) ?_ (fun x_ Q_ k_ => ⟨trivial, trivial, Or.inl rfl, ⟨Nat.le_of_ble_eq_true rfl, Nat.le_of_ble_eq_true rfl⟩, k_⟩)
    exact ⟨rfl, rfl⟩
theorem b_1_1 (f : Nat) (t : Int32) (y : Int32) (hf : f < 12) (ht : l_rg t 0 12 = false) : w_R xs Ln 1 (0, [(0, .ref 1), (1, .int (Int32.ofNat f)), (2, .int t), (3, .int y)], [], (I, J, kR w rem, Z), 0, 0) (fun o s => o = .inl (some (.int 0)) ∧ s = (I, J, kR w rem, Z)) := by
  refine w_R.go (c' := (1, [(0, .ref 1), (1, .int (Int32.ofNat f)), (2, .int t), (3, .int y)], [.int (Int32.ofNat f)], (I, J, kR w rem, Z), 0, 0)) 1 ?_ (fun m_ x_ Q_ k_ => ⟨trivial, k_⟩)
  refine w_R.callS (ce' := 0) (sl' := 0) (v := some (.int (s_b true))) (σ' := (I, J, kR w rem, Z)) (as := [.int (Int32.ofNat f)]) (rest := []) (d_28N f (by omega)) ?_ rfl rfl rfl rfl rfl rfl rfl rfl rfl
  show w_R xs Ln 1 (4, [(0, .ref 1), (1, .int (Int32.ofNat f)), (2, .int t), (3, .int y)], [.int (s_b true)], (I, J, kR w rem, Z), 0, 0) _
  refine w_R.go (c' := (8, [(0, .ref 1), (1, .int (Int32.ofNat f)), (2, .int t), (3, .int y)], [.int t], (I, J, kR w rem, Z), 0, 0)) 2 ?_ (fun m_ x_ Q_ k_ => ⟨trivial, trivial, k_⟩)
  refine w_R.callS (ce' := 0) (sl' := 0) (v := some (.int (s_b false))) (σ' := (I, J, kR w rem, Z)) (as := [.int t]) (rest := []) (d_28F t ht) ?_ rfl rfl rfl rfl rfl rfl rfl rfl rfl
  show w_R xs Ln 1 (11, [(0, .ref 1), (1, .int (Int32.ofNat f)), (2, .int t), (3, .int y)], [.int (s_b false)], (I, J, kR w rem, Z), 0, 0) _
  refine w_R.ret 3 (.inl (some (.int 0))) (I, J, kR w rem, Z) ?_ (fun x_ Q_ k_ => ⟨trivial, trivial, Or.inl rfl, ⟨Nat.le_of_ble_eq_true rfl, Nat.le_of_ble_eq_true rfl⟩, k_⟩)
  exact ⟨rfl, rfl⟩
theorem b_111_1 (f : Nat) (t : Int32) (y : Int32) (hf : f < 12) (ht : l_rg t 0 12 = false) : w_R xs Ln 111 (0, [(0, .ref 199), (1, .int (Int32.ofNat f)), (2, .int t), (3, .int y)], [], (I, J, kR w rem, Z), 0, 0) (fun o s => o = .inl (some (.int 0)) ∧ s = (s_up I 199 59 0, J, kR w rem, Z)) := by
  refine w_R.go (c' := (10, [(0, .ref 199), (1, .int (Int32.ofNat f)), (2, .int t), (3, .int y)], [.int 999, .int 0, .int y], (s_up I 199 59 0, J, kR w rem, Z), 0, 0)) 6 ?_ (fun m_ x_ Q_ k_ => ⟨trivial, trivial, ⟨sh_199, trivial⟩, trivial, trivial, trivial, k_⟩)
  refine w_R.callS (ce' := 0) (sl' := 0) (v := some (.int (s_b (l_rg y 0 (999 + 1))))) (σ' := (s_up I 199 59 0, J, kR w rem, Z)) (as := [.int y, .int 0, .int 999]) (rest := []) (d_106L y 0 999 (by decide) (by decide)) ?_ rfl rfl rfl rfl rfl rfl rfl rfl rfl
  show w_R xs Ln 111 (13, [(0, .ref 199), (1, .int (Int32.ofNat f)), (2, .int t), (3, .int y)], [.int (s_b (l_rg y 0 (999 + 1)))], (s_up I 199 59 0, J, kR w rem, Z), 0, 0) _
  refine w_R.go (c' := (i_br .eq (s_b (l_rg y 0 (999 + 1))) 0 35 16, [(0, .ref 199), (1, .int (Int32.ofNat f)), (2, .int t), (3, .int y)], [], (s_up I 199 59 0, J, kR w rem, Z), 0, 0)) 1 ?_ (fun m_ x_ Q_ k_ => ⟨trivial, k_⟩)
  refine w_R.br_z (fun h1 => ?_) (fun h1 => ?_)
  · replace h1 := Bool.eq_false_iff.mp h1
    refine w_R.ret 2 (.inl (some (.int 0))) (s_up I 199 59 0, J, kR w rem, Z) ?_ (fun x_ Q_ k_ => ⟨trivial, Or.inl rfl, ⟨Nat.le_of_ble_eq_true rfl, Nat.le_of_ble_eq_true rfl⟩, k_⟩)
    exact ⟨rfl, rfl⟩
  · refine w_R.go (c' := (17, [(0, .ref 199), (1, .int (Int32.ofNat f)), (2, .int t), (3, .int y)], [.int (Int32.ofNat f)], (s_up I 199 59 0, J, kR w rem, Z), 0, 0)) 1 ?_ (fun m_ x_ Q_ k_ => ⟨trivial, k_⟩)
    refine w_R.callS (ce' := 0) (sl' := 0) (v := some (.int (s_b true))) (σ' := (s_up I 199 59 0, J, kR w rem, Z)) (as := [.int (Int32.ofNat f)]) (rest := []) (d_107N f (by omega)) ?_ rfl rfl rfl rfl rfl rfl rfl rfl rfl
    show w_R xs Ln 111 (20, [(0, .ref 199), (1, .int (Int32.ofNat f)), (2, .int t), (3, .int y)], [.int (s_b true)], (s_up I 199 59 0, J, kR w rem, Z), 0, 0) _
    refine w_R.go (c' := (24, [(0, .ref 199), (1, .int (Int32.ofNat f)), (2, .int t), (3, .int y)], [.int t], (s_up I 199 59 0, J, kR w rem, Z), 0, 0)) 2 ?_ (fun m_ x_ Q_ k_ => ⟨trivial, trivial, k_⟩)
    refine w_R.callS (ce' := 0) (sl' := 0) (v := some (.int (s_b false))) (σ' := (s_up I 199 59 0, J, kR w rem, Z)) (as := [.int t]) (rest := []) (d_107F t ht) ?_ rfl rfl rfl rfl rfl rfl rfl rfl rfl
    show w_R xs Ln 111 (27, [(0, .ref 199), (1, .int (Int32.ofNat f)), (2, .int t), (3, .int y)], [.int (s_b false)], (s_up I 199 59 0, J, kR w rem, Z), 0, 0) _
    refine w_R.ret 3 (.inl (some (.int 0))) (s_up I 199 59 0, J, kR w rem, Z) ?_ (fun x_ Q_ k_ => ⟨trivial, trivial, Or.inl rfl, ⟨Nat.le_of_ble_eq_true rfl, Nat.le_of_ble_eq_true rfl⟩, k_⟩)
    exact ⟨rfl, rfl⟩
theorem b_1_2 (f : Nat) (t : Nat) (y : Int32) (hf : f < 12) (ht : t < 12) (hy : l_rg y 0 1000 = false) : w_R xs Ln 1 (0, [(0, .ref 1), (1, .int (Int32.ofNat f)), (2, .int (Int32.ofNat t)), (3, .int y)], [], (I, J, kR w rem, Z), 0, 0) (fun o s => o = .inl (some (.int 0)) ∧ s = (I, J, kR w rem, Z)) := by
  refine w_R.go (c' := (1, [(0, .ref 1), (1, .int (Int32.ofNat f)), (2, .int (Int32.ofNat t)), (3, .int y)], [.int (Int32.ofNat f)], (I, J, kR w rem, Z), 0, 0)) 1 ?_ (fun m_ x_ Q_ k_ => ⟨trivial, k_⟩)
  refine w_R.callS (ce' := 0) (sl' := 0) (v := some (.int (s_b true))) (σ' := (I, J, kR w rem, Z)) (as := [.int (Int32.ofNat f)]) (rest := []) (d_28N f (by omega)) ?_ rfl rfl rfl rfl rfl rfl rfl rfl rfl
  show w_R xs Ln 1 (4, [(0, .ref 1), (1, .int (Int32.ofNat f)), (2, .int (Int32.ofNat t)), (3, .int y)], [.int (s_b true)], (I, J, kR w rem, Z), 0, 0) _
  refine w_R.go (c' := (8, [(0, .ref 1), (1, .int (Int32.ofNat f)), (2, .int (Int32.ofNat t)), (3, .int y)], [.int (Int32.ofNat t)], (I, J, kR w rem, Z), 0, 0)) 2 ?_ (fun m_ x_ Q_ k_ => ⟨trivial, trivial, k_⟩)
  refine w_R.callS (ce' := 0) (sl' := 0) (v := some (.int (s_b true))) (σ' := (I, J, kR w rem, Z)) (as := [.int (Int32.ofNat t)]) (rest := []) (d_28N t (by omega)) ?_ rfl rfl rfl rfl rfl rfl rfl rfl rfl
  show w_R xs Ln 1 (11, [(0, .ref 1), (1, .int (Int32.ofNat f)), (2, .int (Int32.ofNat t)), (3, .int y)], [.int (s_b true)], (I, J, kR w rem, Z), 0, 0) _
  refine w_R.go (c' := (i_br .ne (Int32.ofNat f) (Int32.ofNat t) 21 19, [(0, .ref 1), (1, .int (Int32.ofNat f)), (2, .int (Int32.ofNat t)), (3, .int y)], [], (I, J, kR w rem, Z), 0, 0)) 4 ?_ (fun m_ x_ Q_ k_ => ⟨trivial, trivial, trivial, trivial, k_⟩)
  refine w_R.br_ne (fun h1 => ?_) (fun h1 => ?_)
  · replace h1 := mt (n_eq (a := f) (b := t) (by omega) (by omega)).mpr h1
    refine w_R.go (c' := (i_br .lt y 0 32 25, [(0, .ref 1), (1, .int (Int32.ofNat f)), (2, .int (Int32.ofNat t)), (3, .int y)], [], (I, J, kR w rem, Z), 0, 0)) 2 ?_ (fun m_ x_ Q_ k_ => ⟨trivial, trivial, k_⟩)
    refine w_R.br_lt (fun h2 => ?_) (fun h2 => ?_)
    · refine w_R.ret 2 (.inl (some (.int 0))) (I, J, kR w rem, Z) ?_ (fun x_ Q_ k_ => ⟨trivial, Or.inl rfl, ⟨Nat.le_of_ble_eq_true rfl, Nat.le_of_ble_eq_true rfl⟩, k_⟩)
      exact ⟨rfl, rfl⟩
    · refine w_R.go (c' := (i_br .le y 999 34 32, [(0, .ref 1), (1, .int (Int32.ofNat f)), (2, .int (Int32.ofNat t)), (3, .int y)], [], (I, J, kR w rem, Z), 0, 0)) 3 ?_ (fun m_ x_ Q_ k_ => ⟨trivial, trivial, trivial, k_⟩)
      refine w_R.br_le (fun h3 => ?_) (fun h3 => ?_)
      · exact (l_no hy h2 h3 rfl rfl).elim
      · refine w_R.ret 2 (.inl (some (.int 0))) (I, J, kR w rem, Z) ?_ (fun x_ Q_ k_ => ⟨trivial, Or.inl rfl, ⟨Nat.le_of_ble_eq_true rfl, Nat.le_of_ble_eq_true rfl⟩, k_⟩)
        exact ⟨rfl, rfl⟩
  · replace h1 := (n_eq (a := f) (b := t) (by omega) (by omega)).mp h1
    refine w_R.ret 2 (.inl (some (.int 0))) (I, J, kR w rem, Z) ?_ (fun x_ Q_ k_ => ⟨trivial, Or.inl rfl, ⟨Nat.le_of_ble_eq_true rfl, Nat.le_of_ble_eq_true rfl⟩, k_⟩)
    exact ⟨rfl, rfl⟩
theorem b_111_2 (f : Nat) (t : Nat) (y : Int32) (hf : f < 12) (ht : t < 12) (hy : l_rg y 0 1000 = false) : w_R xs Ln 111 (0, [(0, .ref 199), (1, .int (Int32.ofNat f)), (2, .int (Int32.ofNat t)), (3, .int y)], [], (I, J, kR w rem, Z), 0, 0) (fun o s => o = .inl (some (.int 0)) ∧ s = (s_up I 199 59 0, J, kR w rem, Z)) := by
  refine w_R.go (c' := (10, [(0, .ref 199), (1, .int (Int32.ofNat f)), (2, .int (Int32.ofNat t)), (3, .int y)], [.int 999, .int 0, .int y], (s_up I 199 59 0, J, kR w rem, Z), 0, 0)) 6 ?_ (fun m_ x_ Q_ k_ => ⟨trivial, trivial, ⟨sh_199, trivial⟩, trivial, trivial, trivial, k_⟩)
  refine w_R.callS (ce' := 0) (sl' := 0) (v := some (.int (s_b false))) (σ' := (s_up I 199 59 0, J, kR w rem, Z)) (as := [.int y, .int 0, .int 999]) (rest := []) (d_106F y 0 999 (by decide) (by decide) hy) ?_ rfl rfl rfl rfl rfl rfl rfl rfl rfl
  show w_R xs Ln 111 (13, [(0, .ref 199), (1, .int (Int32.ofNat f)), (2, .int (Int32.ofNat t)), (3, .int y)], [.int (s_b false)], (s_up I 199 59 0, J, kR w rem, Z), 0, 0) _
  refine w_R.ret 3 (.inl (some (.int 0))) (s_up I 199 59 0, J, kR w rem, Z) ?_ (fun x_ Q_ k_ => ⟨trivial, trivial, Or.inl rfl, ⟨Nat.le_of_ble_eq_true rfl, Nat.le_of_ble_eq_true rfl⟩, k_⟩)
  exact ⟨rfl, rfl⟩
def v_1 (I : Nat → Nat → Int32) (J : Nat → Nat → Int64) (Z : Nat → Nat → Bool) (f : Nat) (t : Nat) (y : Nat) : Bool := if f = t then false else v_87 I J Z f t (Int32.ofNat y)
def i_1 (I : Nat → Nat → Int32) (J : Nat → Nat → Int64) (Z : Nat → Nat → Bool) (f : Nat) (t : Nat) (y : Nat) : Nat → Nat → Int32 := if f = t then I else i_87 I J Z f t (Int32.ofNat y)
theorem d_1 (f : Nat) (t : Nat) (y : Nat) (hf : f < 12) (ht : t < 12) (hy : y < 1000) : w_R xs Ln 1 (0, [(0, .ref 1), (1, .int (Int32.ofNat f)), (2, .int (Int32.ofNat t)), (3, .int (Int32.ofNat y))], [], (I, J, kR w rem, Z), 0, 0) (fun o s => o = .inl (some (.int (s_b (v_1 I J Z f t y)))) ∧ s = (i_1 I J Z f t y, J, kR w rem, Z)) := by
  refine w_R.go (c' := (1, [(0, .ref 1), (1, .int (Int32.ofNat f)), (2, .int (Int32.ofNat t)), (3, .int (Int32.ofNat y))], [.int (Int32.ofNat f)], (I, J, kR w rem, Z), 0, 0)) 1 ?_ (fun m_ x_ Q_ k_ => ⟨trivial, k_⟩)
  refine w_R.callS (ce' := 0) (sl' := 0) (v := some (.int (s_b true))) (σ' := (I, J, kR w rem, Z)) (as := [.int (Int32.ofNat f)]) (rest := []) (d_28N f (by omega)) ?_ rfl rfl rfl rfl rfl rfl rfl rfl rfl
  show w_R xs Ln 1 (4, [(0, .ref 1), (1, .int (Int32.ofNat f)), (2, .int (Int32.ofNat t)), (3, .int (Int32.ofNat y))], [.int (s_b true)], (I, J, kR w rem, Z), 0, 0) _
  refine w_R.go (c' := (8, [(0, .ref 1), (1, .int (Int32.ofNat f)), (2, .int (Int32.ofNat t)), (3, .int (Int32.ofNat y))], [.int (Int32.ofNat t)], (I, J, kR w rem, Z), 0, 0)) 2 ?_ (fun m_ x_ Q_ k_ => ⟨trivial, trivial, k_⟩)
  refine w_R.callS (ce' := 0) (sl' := 0) (v := some (.int (s_b true))) (σ' := (I, J, kR w rem, Z)) (as := [.int (Int32.ofNat t)]) (rest := []) (d_28N t (by omega)) ?_ rfl rfl rfl rfl rfl rfl rfl rfl rfl
  show w_R xs Ln 1 (11, [(0, .ref 1), (1, .int (Int32.ofNat f)), (2, .int (Int32.ofNat t)), (3, .int (Int32.ofNat y))], [.int (s_b true)], (I, J, kR w rem, Z), 0, 0) _
  refine w_R.go (c' := (i_br .ne (Int32.ofNat f) (Int32.ofNat t) 21 19, [(0, .ref 1), (1, .int (Int32.ofNat f)), (2, .int (Int32.ofNat t)), (3, .int (Int32.ofNat y))], [], (I, J, kR w rem, Z), 0, 0)) 4 ?_ (fun m_ x_ Q_ k_ => ⟨trivial, trivial, trivial, trivial, k_⟩)
  refine w_R.br_ne (fun h1 => ?_) (fun h1 => ?_)
  · replace h1 := mt (n_eq (a := f) (b := t) (by omega) (by omega)).mpr h1
    refine w_R.go (c' := (i_br .lt (Int32.ofNat y) 0 32 25, [(0, .ref 1), (1, .int (Int32.ofNat f)), (2, .int (Int32.ofNat t)), (3, .int (Int32.ofNat y))], [], (I, J, kR w rem, Z), 0, 0)) 2 ?_ (fun m_ x_ Q_ k_ => ⟨trivial, trivial, k_⟩)
    rw [show i_br .lt (Int32.ofNat y) 0 32 25 = 25 from if_neg (mt (n_lt (a := y) (b := 0) (by omega) (by omega)).mp (by omega))]
    show w_R xs Ln 1 (25, [(0, .ref 1), (1, .int (Int32.ofNat f)), (2, .int (Int32.ofNat t)), (3, .int (Int32.ofNat y))], [], (I, J, kR w rem, Z), 0, 0) _
    refine w_R.go (c' := (i_br .le (Int32.ofNat y) 999 34 32, [(0, .ref 1), (1, .int (Int32.ofNat f)), (2, .int (Int32.ofNat t)), (3, .int (Int32.ofNat y))], [], (I, J, kR w rem, Z), 0, 0)) 3 ?_ (fun m_ x_ Q_ k_ => ⟨trivial, trivial, trivial, k_⟩)
    rw [show i_br .le (Int32.ofNat y) 999 34 32 = 34 from if_pos (Int32.not_lt.mp (mt (n_lt (a := 999) (b := y) (by omega) (by omega)).mp (by omega)))]
    show w_R xs Ln 1 (34, [(0, .ref 1), (1, .int (Int32.ofNat f)), (2, .int (Int32.ofNat t)), (3, .int (Int32.ofNat y))], [], (I, J, kR w rem, Z), 0, 0) _
    refine w_R.go (c' := (41, [(0, .ref 1), (1, .int (Int32.ofNat f)), (2, .int (Int32.ofNat t)), (3, .int (Int32.ofNat y))], [.int (Int32.ofNat y), .int (Int32.ofNat t), .int (Int32.ofNat f), .ref 2], (I, J, kR w rem, Z), 0, 0)) 5 ?_ (fun m_ x_ Q_ k_ => ⟨trivial, ⟨sh_1, (Nat.succ_ne_zero 1)⟩, trivial, trivial, trivial, k_⟩)
    refine w_R.callV (ce' := 0) (sl' := 0) (v := some (.int (s_b (v_87 I J Z f t (Int32.ofNat y))))) (σ' := (i_87 I J Z f t (Int32.ofNat y), J, kR w rem, Z)) (as := [.ref 2, .int (Int32.ofNat f), .int (Int32.ofNat t), .int (Int32.ofNat y)]) (rest := []) (d_87 f t (Int32.ofNat y) (by omega) (by omega)) ?_ rfl rfl rfl rfl rfl sh_2 rfl rfl rfl rfl
    show w_R xs Ln 1 (44, [(0, .ref 1), (1, .int (Int32.ofNat f)), (2, .int (Int32.ofNat t)), (3, .int (Int32.ofNat y))], [.int (s_b (v_87 I J Z f t (Int32.ofNat y)))], (i_87 I J Z f t (Int32.ofNat y), J, kR w rem, Z), 0, 0) _
    refine w_R.ret 1 (.inl (some (.int (s_b (v_87 I J Z f t (Int32.ofNat y)))))) (i_87 I J Z f t (Int32.ofNat y), J, kR w rem, Z) ?_ (fun x_ Q_ k_ => ⟨l_b _, ⟨Nat.le_of_ble_eq_true rfl, Nat.le_of_ble_eq_true rfl⟩, k_⟩)
    exact ⟨by rw [show v_1 I J Z f t y = (v_87 I J Z f t (Int32.ofNat y)) from by unfold v_1; rw [if_neg h1]] <;> rfl, by rw [show i_1 I J Z f t y = (i_87 I J Z f t (Int32.ofNat y)) from by unfold i_1; rw [if_neg h1]]⟩
  · replace h1 := (n_eq (a := f) (b := t) (by omega) (by omega)).mp h1
    refine w_R.ret 2 (.inl (some (.int 0))) (I, J, kR w rem, Z) ?_ (fun x_ Q_ k_ => ⟨trivial, Or.inl rfl, ⟨Nat.le_of_ble_eq_true rfl, Nat.le_of_ble_eq_true rfl⟩, k_⟩)
    exact ⟨by rw [show v_1 I J Z f t y = false from by unfold v_1; rw [if_pos h1]] <;> rfl, by rw [show i_1 I J Z f t y = I from by unfold i_1; rw [if_pos h1]]⟩
def v_111 (I : Nat → Nat → Int32) (J : Nat → Nat → Int64) (Z : Nat → Nat → Bool) (f : Nat) (t : Nat) (y : Nat) : Bool := if f = t then false else if (I 200 ((12 * f) + t)) = 0 then if 0 < y then if (I 199 1) = 30 then false else true else true else true
def i_111 (I : Nat → Nat → Int32) (J : Nat → Nat → Int64) (Z : Nat → Nat → Bool) (f : Nat) (t : Nat) (y : Nat) : Nat → Nat → Int32 := if f = t then s_up I 199 59 0 else if (I 200 ((12 * f) + t)) = 0 then if 0 < y then if (I 199 1) = 30 then s_up I 199 59 0 else if 0 < (I 200 ((12 * f) + t)) then if 0 < y then s_up (s_up (s_up (s_up I 199 59 0) 199 1 ((I 199 1) - 1)) 200 ((12 * f) + t) (Int32.ofNat y)) 199 1 (((I 199 1) - 1) + 1) else s_up (s_up (s_up I 199 59 0) 199 1 ((I 199 1) - 1)) 200 ((12 * f) + t) (Int32.ofNat y) else if 0 < y then s_up (s_up (s_up I 199 59 0) 200 ((12 * f) + t) (Int32.ofNat y)) 199 1 ((I 199 1) + 1) else s_up (s_up I 199 59 0) 200 ((12 * f) + t) (Int32.ofNat y) else if 0 < (I 200 ((12 * f) + t)) then if 0 < y then s_up (s_up (s_up (s_up I 199 59 0) 199 1 ((I 199 1) - 1)) 200 ((12 * f) + t) (Int32.ofNat y)) 199 1 (((I 199 1) - 1) + 1) else s_up (s_up (s_up I 199 59 0) 199 1 ((I 199 1) - 1)) 200 ((12 * f) + t) (Int32.ofNat y) else if 0 < y then s_up (s_up (s_up I 199 59 0) 200 ((12 * f) + t) (Int32.ofNat y)) 199 1 ((I 199 1) + 1) else s_up (s_up I 199 59 0) 200 ((12 * f) + t) (Int32.ofNat y) else if 0 < (I 200 ((12 * f) + t)) then if 0 < y then s_up (s_up (s_up (s_up I 199 59 0) 199 1 ((I 199 1) - 1)) 200 ((12 * f) + t) (Int32.ofNat y)) 199 1 (((I 199 1) - 1) + 1) else s_up (s_up (s_up I 199 59 0) 199 1 ((I 199 1) - 1)) 200 ((12 * f) + t) (Int32.ofNat y) else if 0 < y then s_up (s_up (s_up I 199 59 0) 200 ((12 * f) + t) (Int32.ofNat y)) 199 1 ((I 199 1) + 1) else s_up (s_up I 199 59 0) 200 ((12 * f) + t) (Int32.ofNat y)
theorem d_111 (f : Nat) (t : Nat) (y : Nat) (hf : f < 12) (ht : t < 12) (hy : y < 1000) : w_R xs Ln 111 (0, [(0, .ref 199), (1, .int (Int32.ofNat f)), (2, .int (Int32.ofNat t)), (3, .int (Int32.ofNat y))], [], (I, J, kR w rem, Z), 0, 0) (fun o s => o = .inl (some (.int (s_b (v_111 I J Z f t y)))) ∧ s = (i_111 I J Z f t y, J, kR w rem, Z)) := by
  refine w_R.go (c' := (10, [(0, .ref 199), (1, .int (Int32.ofNat f)), (2, .int (Int32.ofNat t)), (3, .int (Int32.ofNat y))], [.int 999, .int 0, .int (Int32.ofNat y)], (s_up I 199 59 0, J, kR w rem, Z), 0, 0)) 6 ?_ (fun m_ x_ Q_ k_ => ⟨trivial, trivial, ⟨sh_199, trivial⟩, trivial, trivial, trivial, k_⟩)
  refine w_R.callS (ce' := 0) (sl' := 0) (v := some (.int (s_b true))) (σ' := (s_up I 199 59 0, J, kR w rem, Z)) (as := [.int (Int32.ofNat y), .int 0, .int 999]) (rest := []) (d_106T y 0 999 (by omega) (by omega) (by decide)) ?_ rfl rfl rfl rfl rfl rfl rfl rfl rfl
  show w_R xs Ln 111 (13, [(0, .ref 199), (1, .int (Int32.ofNat f)), (2, .int (Int32.ofNat t)), (3, .int (Int32.ofNat y))], [.int (s_b true)], (s_up I 199 59 0, J, kR w rem, Z), 0, 0) _
  refine w_R.go (c' := (17, [(0, .ref 199), (1, .int (Int32.ofNat f)), (2, .int (Int32.ofNat t)), (3, .int (Int32.ofNat y))], [.int (Int32.ofNat f)], (s_up I 199 59 0, J, kR w rem, Z), 0, 0)) 2 ?_ (fun m_ x_ Q_ k_ => ⟨trivial, trivial, k_⟩)
  refine w_R.callS (ce' := 0) (sl' := 0) (v := some (.int (s_b true))) (σ' := (s_up I 199 59 0, J, kR w rem, Z)) (as := [.int (Int32.ofNat f)]) (rest := []) (d_107N f (by omega)) ?_ rfl rfl rfl rfl rfl rfl rfl rfl rfl
  show w_R xs Ln 111 (20, [(0, .ref 199), (1, .int (Int32.ofNat f)), (2, .int (Int32.ofNat t)), (3, .int (Int32.ofNat y))], [.int (s_b true)], (s_up I 199 59 0, J, kR w rem, Z), 0, 0) _
  refine w_R.go (c' := (24, [(0, .ref 199), (1, .int (Int32.ofNat f)), (2, .int (Int32.ofNat t)), (3, .int (Int32.ofNat y))], [.int (Int32.ofNat t)], (s_up I 199 59 0, J, kR w rem, Z), 0, 0)) 2 ?_ (fun m_ x_ Q_ k_ => ⟨trivial, trivial, k_⟩)
  refine w_R.callS (ce' := 0) (sl' := 0) (v := some (.int (s_b true))) (σ' := (s_up I 199 59 0, J, kR w rem, Z)) (as := [.int (Int32.ofNat t)]) (rest := []) (d_107N t (by omega)) ?_ rfl rfl rfl rfl rfl rfl rfl rfl rfl
  show w_R xs Ln 111 (27, [(0, .ref 199), (1, .int (Int32.ofNat f)), (2, .int (Int32.ofNat t)), (3, .int (Int32.ofNat y))], [.int (s_b true)], (s_up I 199 59 0, J, kR w rem, Z), 0, 0) _
  refine w_R.go (c' := (i_br .ne (Int32.ofNat f) (Int32.ofNat t) 37 35, [(0, .ref 199), (1, .int (Int32.ofNat f)), (2, .int (Int32.ofNat t)), (3, .int (Int32.ofNat y))], [], (s_up I 199 59 0, J, kR w rem, Z), 0, 0)) 4 ?_ (fun m_ x_ Q_ k_ => ⟨trivial, trivial, trivial, trivial, k_⟩)
  refine w_R.br_ne (fun h1 => ?_) (fun h1 => ?_)
  · replace h1 := mt (n_eq (a := f) (b := t) (by omega) (by omega)).mpr h1
    refine w_R.go (c' := (41, [(0, .ref 199), (1, .int (Int32.ofNat f)), (2, .int (Int32.ofNat t)), (3, .int (Int32.ofNat y))], [.int (Int32.ofNat 12 * Int32.ofNat f)], (s_up I 199 59 0, J, kR w rem, Z), 0, 0)) 3 ?_ (fun m_ x_ Q_ k_ => ⟨trivial, trivial, trivial, k_⟩)
    rw [n_mul 12 f]
    show w_R xs Ln 111 (41, [(0, .ref 199), (1, .int (Int32.ofNat f)), (2, .int (Int32.ofNat t)), (3, .int (Int32.ofNat y))], [.int (Int32.ofNat (12 * f))], (s_up I 199 59 0, J, kR w rem, Z), 0, 0) _
    refine w_R.go (c' := (43, [(0, .ref 199), (1, .int (Int32.ofNat f)), (2, .int (Int32.ofNat t)), (3, .int (Int32.ofNat y))], [.int (Int32.ofNat (12 * f) + Int32.ofNat t)], (s_up I 199 59 0, J, kR w rem, Z), 0, 0)) 2 ?_ (fun m_ x_ Q_ k_ => ⟨trivial, trivial, k_⟩)
    rw [n_add (12 * f) t]
    show w_R xs Ln 111 (43, [(0, .ref 199), (1, .int (Int32.ofNat f)), (2, .int (Int32.ofNat t)), (3, .int (Int32.ofNat y))], [.int (Int32.ofNat ((12 * f) + t))], (s_up I 199 59 0, J, kR w rem, Z), 0, 0) _
    refine w_R.go (c' := (52, [(4, .int (Int32.ofNat ((12 * f) + t))), (0, .ref 199), (1, .int (Int32.ofNat f)), (2, .int (Int32.ofNat t)), (3, .int (Int32.ofNat y))], [.int ((s_up I 199 59 0) 200 (Int32.ofNat ((12 * f) + t)).toNatClampNeg)], (s_up I 199 59 0, J, kR w rem, Z), 0, 0)) 5 ?_ (fun m_ x_ Q_ k_ => ⟨trivial, trivial, ⟨sh_199, (Nat.succ_ne_zero 199)⟩, trivial, ⟨_, sh_200, (n_in (a := (12 * f) + t) (by omega) (by decide))⟩, k_⟩)
    rw [n_cl (a := (12 * f) + t) (by omega)]
    rw [show (s_up I 199 59 0) 200 ((12 * f) + t) = I 200 ((12 * f) + t) from (s_upa (by decide))]
    show w_R xs Ln 111 (52, [(4, .int (Int32.ofNat ((12 * f) + t))), (0, .ref 199), (1, .int (Int32.ofNat f)), (2, .int (Int32.ofNat t)), (3, .int (Int32.ofNat y))], [.int (I 200 ((12 * f) + t))], (s_up I 199 59 0, J, kR w rem, Z), 0, 0) _
    refine w_R.go (c' := (i_br .ne (I 200 ((12 * f) + t)) 0 70 55, [(4, .int (Int32.ofNat ((12 * f) + t))), (0, .ref 199), (1, .int (Int32.ofNat f)), (2, .int (Int32.ofNat t)), (3, .int (Int32.ofNat y))], [], (s_up I 199 59 0, J, kR w rem, Z), 0, 0)) 1 ?_ (fun m_ x_ Q_ k_ => ⟨trivial, k_⟩)
    refine w_R.br_ne (fun h2 => ?_) (fun h2 => ?_)
    · refine w_R.go (c' := (77, [(4, .int (Int32.ofNat ((12 * f) + t))), (0, .ref 199), (1, .int (Int32.ofNat f)), (2, .int (Int32.ofNat t)), (3, .int (Int32.ofNat y))], [.int ((s_up I 199 59 0) 200 (Int32.ofNat ((12 * f) + t)).toNatClampNeg)], (s_up I 199 59 0, J, kR w rem, Z), 0, 0)) 4 ?_ (fun m_ x_ Q_ k_ => ⟨trivial, ⟨sh_199, (Nat.succ_ne_zero 199)⟩, trivial, ⟨_, sh_200, (n_in (a := (12 * f) + t) (by omega) (by decide))⟩, k_⟩)
      rw [n_cl (a := (12 * f) + t) (by omega)]
      rw [show (s_up I 199 59 0) 200 ((12 * f) + t) = I 200 ((12 * f) + t) from (s_upa (by decide))]
      show w_R xs Ln 111 (77, [(4, .int (Int32.ofNat ((12 * f) + t))), (0, .ref 199), (1, .int (Int32.ofNat f)), (2, .int (Int32.ofNat t)), (3, .int (Int32.ofNat y))], [.int (I 200 ((12 * f) + t))], (s_up I 199 59 0, J, kR w rem, Z), 0, 0) _
      refine w_R.go (c' := (i_br .le (I 200 ((12 * f) + t)) 0 90 80, [(4, .int (Int32.ofNat ((12 * f) + t))), (0, .ref 199), (1, .int (Int32.ofNat f)), (2, .int (Int32.ofNat t)), (3, .int (Int32.ofNat y))], [], (s_up I 199 59 0, J, kR w rem, Z), 0, 0)) 1 ?_ (fun m_ x_ Q_ k_ => ⟨trivial, k_⟩)
      refine w_R.br_le (fun h3 => ?_) (fun h3 => ?_)
      · refine w_R.go (c' := (98, [(4, .int (Int32.ofNat ((12 * f) + t))), (0, .ref 199), (1, .int (Int32.ofNat f)), (2, .int (Int32.ofNat t)), (3, .int (Int32.ofNat y))], [], (s_up (s_up I 199 59 0) 200 ((Int32.ofNat ((12 * f) + t)).toNatClampNeg) (Int32.ofNat y), J, kR w rem, Z), 0, 0)) 5 ?_ (fun m_ x_ Q_ k_ => ⟨trivial, ⟨sh_199, (Nat.succ_ne_zero 199)⟩, trivial, trivial, ⟨_, sh_200, (n_in (a := (12 * f) + t) (by omega) (by decide))⟩, k_⟩)
        rw [n_cl (a := (12 * f) + t) (by omega)]
        show w_R xs Ln 111 (98, [(4, .int (Int32.ofNat ((12 * f) + t))), (0, .ref 199), (1, .int (Int32.ofNat f)), (2, .int (Int32.ofNat t)), (3, .int (Int32.ofNat y))], [], (s_up (s_up I 199 59 0) 200 ((12 * f) + t) (Int32.ofNat y), J, kR w rem, Z), 0, 0) _
        refine w_R.go (c' := (i_br .le (Int32.ofNat y) 0 112 102, [(4, .int (Int32.ofNat ((12 * f) + t))), (0, .ref 199), (1, .int (Int32.ofNat f)), (2, .int (Int32.ofNat t)), (3, .int (Int32.ofNat y))], [], (s_up (s_up I 199 59 0) 200 ((12 * f) + t) (Int32.ofNat y), J, kR w rem, Z), 0, 0)) 2 ?_ (fun m_ x_ Q_ k_ => ⟨trivial, trivial, k_⟩)
        refine w_R.br_le (fun h4 => ?_) (fun h4 => ?_)
        · replace h4 := mt (n_lt (a := 0) (b := y) (by omega) (by omega)).mpr h4
          refine w_R.ret 2 (.inl (some (.int 1))) (s_up (s_up I 199 59 0) 200 ((12 * f) + t) (Int32.ofNat y), J, kR w rem, Z) ?_ (fun x_ Q_ k_ => ⟨trivial, Or.inr rfl, ⟨Nat.le_of_ble_eq_true rfl, Nat.le_of_ble_eq_true rfl⟩, k_⟩)
          exact ⟨by rw [show v_111 I J Z f t y = true from by unfold v_111; rw [if_neg h1, if_neg h2]] <;> rfl, by rw [show i_111 I J Z f t y = (s_up (s_up I 199 59 0) 200 ((12 * f) + t) (Int32.ofNat y)) from by unfold i_111; rw [if_neg h1, if_neg h2, if_neg h3, if_neg h4]]⟩
        · replace h4 := (n_lt (a := 0) (b := y) (by omega) (by omega)).mp h4
          refine w_R.go (c' := (107, [(4, .int (Int32.ofNat ((12 * f) + t))), (0, .ref 199), (1, .int (Int32.ofNat f)), (2, .int (Int32.ofNat t)), (3, .int (Int32.ofNat y))], [.int ((s_up (s_up I 199 59 0) 200 ((12 * f) + t) (Int32.ofNat y)) 199 1), .ref 199], (s_up (s_up I 199 59 0) 200 ((12 * f) + t) (Int32.ofNat y), J, kR w rem, Z), 0, 0)) 3 ?_ (fun m_ x_ Q_ k_ => ⟨trivial, trivial, ⟨sh_199, trivial⟩, k_⟩)
          rw [show (s_up (s_up I 199 59 0) 200 ((12 * f) + t) (Int32.ofNat y)) 199 1 = I 199 1 from ((s_upa (by decide)).trans (s_upk (by decide)))]
          show w_R xs Ln 111 (107, [(4, .int (Int32.ofNat ((12 * f) + t))), (0, .ref 199), (1, .int (Int32.ofNat f)), (2, .int (Int32.ofNat t)), (3, .int (Int32.ofNat y))], [.int (I 199 1), .ref 199], (s_up (s_up I 199 59 0) 200 ((12 * f) + t) (Int32.ofNat y), J, kR w rem, Z), 0, 0) _
          refine w_R.ret 5 (.inl (some (.int 1))) (s_up (s_up (s_up I 199 59 0) 200 ((12 * f) + t) (Int32.ofNat y)) 199 1 ((I 199 1) + 1), J, kR w rem, Z) ?_ (fun x_ Q_ k_ => ⟨trivial, trivial, ⟨sh_199, trivial⟩, trivial, Or.inr rfl, ⟨Nat.le_of_ble_eq_true rfl, Nat.le_of_ble_eq_true rfl⟩, k_⟩)
          exact ⟨by rw [show v_111 I J Z f t y = true from by unfold v_111; rw [if_neg h1, if_neg h2]] <;> rfl, by rw [show i_111 I J Z f t y = (s_up (s_up (s_up I 199 59 0) 200 ((12 * f) + t) (Int32.ofNat y)) 199 1 ((I 199 1) + 1)) from by unfold i_111; rw [if_neg h1, if_neg h2, if_neg h3, if_pos h4]]⟩
      · refine w_R.go (c' := (85, [(4, .int (Int32.ofNat ((12 * f) + t))), (0, .ref 199), (1, .int (Int32.ofNat f)), (2, .int (Int32.ofNat t)), (3, .int (Int32.ofNat y))], [.int ((s_up I 199 59 0) 199 1), .ref 199], (s_up I 199 59 0, J, kR w rem, Z), 0, 0)) 3 ?_ (fun m_ x_ Q_ k_ => ⟨trivial, trivial, ⟨sh_199, trivial⟩, k_⟩)
        rw [show (s_up I 199 59 0) 199 1 = I 199 1 from (s_upk (by decide))]
        show w_R xs Ln 111 (85, [(4, .int (Int32.ofNat ((12 * f) + t))), (0, .ref 199), (1, .int (Int32.ofNat f)), (2, .int (Int32.ofNat t)), (3, .int (Int32.ofNat y))], [.int (I 199 1), .ref 199], (s_up I 199 59 0, J, kR w rem, Z), 0, 0) _
        refine w_R.go (c' := (98, [(4, .int (Int32.ofNat ((12 * f) + t))), (0, .ref 199), (1, .int (Int32.ofNat f)), (2, .int (Int32.ofNat t)), (3, .int (Int32.ofNat y))], [], (s_up (s_up (s_up I 199 59 0) 199 1 ((I 199 1) - 1)) 200 ((Int32.ofNat ((12 * f) + t)).toNatClampNeg) (Int32.ofNat y), J, kR w rem, Z), 0, 0)) 8 ?_ (fun m_ x_ Q_ k_ => ⟨trivial, trivial, ⟨sh_199, trivial⟩, trivial, ⟨sh_199, (Nat.succ_ne_zero 199)⟩, trivial, trivial, ⟨_, sh_200, (n_in (a := (12 * f) + t) (by omega) (by decide))⟩, k_⟩)
        rw [n_cl (a := (12 * f) + t) (by omega)]
        show w_R xs Ln 111 (98, [(4, .int (Int32.ofNat ((12 * f) + t))), (0, .ref 199), (1, .int (Int32.ofNat f)), (2, .int (Int32.ofNat t)), (3, .int (Int32.ofNat y))], [], (s_up (s_up (s_up I 199 59 0) 199 1 ((I 199 1) - 1)) 200 ((12 * f) + t) (Int32.ofNat y), J, kR w rem, Z), 0, 0) _
        refine w_R.go (c' := (i_br .le (Int32.ofNat y) 0 112 102, [(4, .int (Int32.ofNat ((12 * f) + t))), (0, .ref 199), (1, .int (Int32.ofNat f)), (2, .int (Int32.ofNat t)), (3, .int (Int32.ofNat y))], [], (s_up (s_up (s_up I 199 59 0) 199 1 ((I 199 1) - 1)) 200 ((12 * f) + t) (Int32.ofNat y), J, kR w rem, Z), 0, 0)) 2 ?_ (fun m_ x_ Q_ k_ => ⟨trivial, trivial, k_⟩)
        refine w_R.br_le (fun h5 => ?_) (fun h5 => ?_)
        · replace h5 := mt (n_lt (a := 0) (b := y) (by omega) (by omega)).mpr h5
          refine w_R.ret 2 (.inl (some (.int 1))) (s_up (s_up (s_up I 199 59 0) 199 1 ((I 199 1) - 1)) 200 ((12 * f) + t) (Int32.ofNat y), J, kR w rem, Z) ?_ (fun x_ Q_ k_ => ⟨trivial, Or.inr rfl, ⟨Nat.le_of_ble_eq_true rfl, Nat.le_of_ble_eq_true rfl⟩, k_⟩)
          exact ⟨by rw [show v_111 I J Z f t y = true from by unfold v_111; rw [if_neg h1, if_neg h2]] <;> rfl, by rw [show i_111 I J Z f t y = (s_up (s_up (s_up I 199 59 0) 199 1 ((I 199 1) - 1)) 200 ((12 * f) + t) (Int32.ofNat y)) from by unfold i_111; rw [if_neg h1, if_neg h2, if_pos h3, if_neg h5]]⟩
        · replace h5 := (n_lt (a := 0) (b := y) (by omega) (by omega)).mp h5
          refine w_R.go (c' := (107, [(4, .int (Int32.ofNat ((12 * f) + t))), (0, .ref 199), (1, .int (Int32.ofNat f)), (2, .int (Int32.ofNat t)), (3, .int (Int32.ofNat y))], [.int ((s_up (s_up (s_up I 199 59 0) 199 1 ((I 199 1) - 1)) 200 ((12 * f) + t) (Int32.ofNat y)) 199 1), .ref 199], (s_up (s_up (s_up I 199 59 0) 199 1 ((I 199 1) - 1)) 200 ((12 * f) + t) (Int32.ofNat y), J, kR w rem, Z), 0, 0)) 3 ?_ (fun m_ x_ Q_ k_ => ⟨trivial, trivial, ⟨sh_199, trivial⟩, k_⟩)
          rw [show (s_up (s_up (s_up I 199 59 0) 199 1 ((I 199 1) - 1)) 200 ((12 * f) + t) (Int32.ofNat y)) 199 1 = (I 199 1) - 1 from ((s_upa (by decide)).trans (s_upe _ _ _ _))]
          show w_R xs Ln 111 (107, [(4, .int (Int32.ofNat ((12 * f) + t))), (0, .ref 199), (1, .int (Int32.ofNat f)), (2, .int (Int32.ofNat t)), (3, .int (Int32.ofNat y))], [.int ((I 199 1) - 1), .ref 199], (s_up (s_up (s_up I 199 59 0) 199 1 ((I 199 1) - 1)) 200 ((12 * f) + t) (Int32.ofNat y), J, kR w rem, Z), 0, 0) _
          refine w_R.ret 5 (.inl (some (.int 1))) (s_up (s_up (s_up (s_up I 199 59 0) 199 1 ((I 199 1) - 1)) 200 ((12 * f) + t) (Int32.ofNat y)) 199 1 (((I 199 1) - 1) + 1), J, kR w rem, Z) ?_ (fun x_ Q_ k_ => ⟨trivial, trivial, ⟨sh_199, trivial⟩, trivial, Or.inr rfl, ⟨Nat.le_of_ble_eq_true rfl, Nat.le_of_ble_eq_true rfl⟩, k_⟩)
          exact ⟨by rw [show v_111 I J Z f t y = true from by unfold v_111; rw [if_neg h1, if_neg h2]] <;> rfl, by rw [show i_111 I J Z f t y = (s_up (s_up (s_up (s_up I 199 59 0) 199 1 ((I 199 1) - 1)) 200 ((12 * f) + t) (Int32.ofNat y)) 199 1 (((I 199 1) - 1) + 1)) from by unfold i_111; rw [if_neg h1, if_neg h2, if_pos h3, if_pos h5]]⟩
    · refine w_R.go (c' := (i_br .le (Int32.ofNat y) 0 70 59, [(4, .int (Int32.ofNat ((12 * f) + t))), (0, .ref 199), (1, .int (Int32.ofNat f)), (2, .int (Int32.ofNat t)), (3, .int (Int32.ofNat y))], [], (s_up I 199 59 0, J, kR w rem, Z), 0, 0)) 2 ?_ (fun m_ x_ Q_ k_ => ⟨trivial, trivial, k_⟩)
      refine w_R.br_le (fun h6 => ?_) (fun h6 => ?_)
      · replace h6 := mt (n_lt (a := 0) (b := y) (by omega) (by omega)).mpr h6
        refine w_R.go (c' := (77, [(4, .int (Int32.ofNat ((12 * f) + t))), (0, .ref 199), (1, .int (Int32.ofNat f)), (2, .int (Int32.ofNat t)), (3, .int (Int32.ofNat y))], [.int ((s_up I 199 59 0) 200 (Int32.ofNat ((12 * f) + t)).toNatClampNeg)], (s_up I 199 59 0, J, kR w rem, Z), 0, 0)) 4 ?_ (fun m_ x_ Q_ k_ => ⟨trivial, ⟨sh_199, (Nat.succ_ne_zero 199)⟩, trivial, ⟨_, sh_200, (n_in (a := (12 * f) + t) (by omega) (by decide))⟩, k_⟩)
        rw [n_cl (a := (12 * f) + t) (by omega)]
        rw [show (s_up I 199 59 0) 200 ((12 * f) + t) = I 200 ((12 * f) + t) from (s_upa (by decide))]
        show w_R xs Ln 111 (77, [(4, .int (Int32.ofNat ((12 * f) + t))), (0, .ref 199), (1, .int (Int32.ofNat f)), (2, .int (Int32.ofNat t)), (3, .int (Int32.ofNat y))], [.int (I 200 ((12 * f) + t))], (s_up I 199 59 0, J, kR w rem, Z), 0, 0) _
        refine w_R.go (c' := (i_br .le (I 200 ((12 * f) + t)) 0 90 80, [(4, .int (Int32.ofNat ((12 * f) + t))), (0, .ref 199), (1, .int (Int32.ofNat f)), (2, .int (Int32.ofNat t)), (3, .int (Int32.ofNat y))], [], (s_up I 199 59 0, J, kR w rem, Z), 0, 0)) 1 ?_ (fun m_ x_ Q_ k_ => ⟨trivial, k_⟩)
        refine w_R.br_le (fun h7 => ?_) (fun h7 => ?_)
        · refine w_R.go (c' := (98, [(4, .int (Int32.ofNat ((12 * f) + t))), (0, .ref 199), (1, .int (Int32.ofNat f)), (2, .int (Int32.ofNat t)), (3, .int (Int32.ofNat y))], [], (s_up (s_up I 199 59 0) 200 ((Int32.ofNat ((12 * f) + t)).toNatClampNeg) (Int32.ofNat y), J, kR w rem, Z), 0, 0)) 5 ?_ (fun m_ x_ Q_ k_ => ⟨trivial, ⟨sh_199, (Nat.succ_ne_zero 199)⟩, trivial, trivial, ⟨_, sh_200, (n_in (a := (12 * f) + t) (by omega) (by decide))⟩, k_⟩)
          rw [n_cl (a := (12 * f) + t) (by omega)]
          show w_R xs Ln 111 (98, [(4, .int (Int32.ofNat ((12 * f) + t))), (0, .ref 199), (1, .int (Int32.ofNat f)), (2, .int (Int32.ofNat t)), (3, .int (Int32.ofNat y))], [], (s_up (s_up I 199 59 0) 200 ((12 * f) + t) (Int32.ofNat y), J, kR w rem, Z), 0, 0) _
          refine w_R.go (c' := (i_br .le (Int32.ofNat y) 0 112 102, [(4, .int (Int32.ofNat ((12 * f) + t))), (0, .ref 199), (1, .int (Int32.ofNat f)), (2, .int (Int32.ofNat t)), (3, .int (Int32.ofNat y))], [], (s_up (s_up I 199 59 0) 200 ((12 * f) + t) (Int32.ofNat y), J, kR w rem, Z), 0, 0)) 2 ?_ (fun m_ x_ Q_ k_ => ⟨trivial, trivial, k_⟩)
          refine w_R.br_le (fun h8 => ?_) (fun h8 => ?_)
          · replace h8 := mt (n_lt (a := 0) (b := y) (by omega) (by omega)).mpr h8
            refine w_R.ret 2 (.inl (some (.int 1))) (s_up (s_up I 199 59 0) 200 ((12 * f) + t) (Int32.ofNat y), J, kR w rem, Z) ?_ (fun x_ Q_ k_ => ⟨trivial, Or.inr rfl, ⟨Nat.le_of_ble_eq_true rfl, Nat.le_of_ble_eq_true rfl⟩, k_⟩)
            exact ⟨by rw [show v_111 I J Z f t y = true from by unfold v_111; rw [if_neg h1, if_pos h2, if_neg h6]] <;> rfl, by rw [show i_111 I J Z f t y = (s_up (s_up I 199 59 0) 200 ((12 * f) + t) (Int32.ofNat y)) from by unfold i_111; rw [if_neg h1, if_pos h2, if_neg h6, if_neg h7, if_neg h8]]⟩
          · replace h8 := (n_lt (a := 0) (b := y) (by omega) (by omega)).mp h8
            refine w_R.go (c' := (107, [(4, .int (Int32.ofNat ((12 * f) + t))), (0, .ref 199), (1, .int (Int32.ofNat f)), (2, .int (Int32.ofNat t)), (3, .int (Int32.ofNat y))], [.int ((s_up (s_up I 199 59 0) 200 ((12 * f) + t) (Int32.ofNat y)) 199 1), .ref 199], (s_up (s_up I 199 59 0) 200 ((12 * f) + t) (Int32.ofNat y), J, kR w rem, Z), 0, 0)) 3 ?_ (fun m_ x_ Q_ k_ => ⟨trivial, trivial, ⟨sh_199, trivial⟩, k_⟩)
            rw [show (s_up (s_up I 199 59 0) 200 ((12 * f) + t) (Int32.ofNat y)) 199 1 = I 199 1 from ((s_upa (by decide)).trans (s_upk (by decide)))]
            show w_R xs Ln 111 (107, [(4, .int (Int32.ofNat ((12 * f) + t))), (0, .ref 199), (1, .int (Int32.ofNat f)), (2, .int (Int32.ofNat t)), (3, .int (Int32.ofNat y))], [.int (I 199 1), .ref 199], (s_up (s_up I 199 59 0) 200 ((12 * f) + t) (Int32.ofNat y), J, kR w rem, Z), 0, 0) _
            refine w_R.ret 5 (.inl (some (.int 1))) (s_up (s_up (s_up I 199 59 0) 200 ((12 * f) + t) (Int32.ofNat y)) 199 1 ((I 199 1) + 1), J, kR w rem, Z) ?_ (fun x_ Q_ k_ => ⟨trivial, trivial, ⟨sh_199, trivial⟩, trivial, Or.inr rfl, ⟨Nat.le_of_ble_eq_true rfl, Nat.le_of_ble_eq_true rfl⟩, k_⟩)
            exact ⟨by rw [show v_111 I J Z f t y = true from by unfold v_111; rw [if_neg h1, if_pos h2, if_neg h6]] <;> rfl, by rw [show i_111 I J Z f t y = (s_up (s_up (s_up I 199 59 0) 200 ((12 * f) + t) (Int32.ofNat y)) 199 1 ((I 199 1) + 1)) from by unfold i_111; rw [if_neg h1, if_pos h2, if_neg h6, if_neg h7, if_pos h8]]⟩
        · refine w_R.go (c' := (85, [(4, .int (Int32.ofNat ((12 * f) + t))), (0, .ref 199), (1, .int (Int32.ofNat f)), (2, .int (Int32.ofNat t)), (3, .int (Int32.ofNat y))], [.int ((s_up I 199 59 0) 199 1), .ref 199], (s_up I 199 59 0, J, kR w rem, Z), 0, 0)) 3 ?_ (fun m_ x_ Q_ k_ => ⟨trivial, trivial, ⟨sh_199, trivial⟩, k_⟩)
          rw [show (s_up I 199 59 0) 199 1 = I 199 1 from (s_upk (by decide))]
          show w_R xs Ln 111 (85, [(4, .int (Int32.ofNat ((12 * f) + t))), (0, .ref 199), (1, .int (Int32.ofNat f)), (2, .int (Int32.ofNat t)), (3, .int (Int32.ofNat y))], [.int (I 199 1), .ref 199], (s_up I 199 59 0, J, kR w rem, Z), 0, 0) _
          refine w_R.go (c' := (98, [(4, .int (Int32.ofNat ((12 * f) + t))), (0, .ref 199), (1, .int (Int32.ofNat f)), (2, .int (Int32.ofNat t)), (3, .int (Int32.ofNat y))], [], (s_up (s_up (s_up I 199 59 0) 199 1 ((I 199 1) - 1)) 200 ((Int32.ofNat ((12 * f) + t)).toNatClampNeg) (Int32.ofNat y), J, kR w rem, Z), 0, 0)) 8 ?_ (fun m_ x_ Q_ k_ => ⟨trivial, trivial, ⟨sh_199, trivial⟩, trivial, ⟨sh_199, (Nat.succ_ne_zero 199)⟩, trivial, trivial, ⟨_, sh_200, (n_in (a := (12 * f) + t) (by omega) (by decide))⟩, k_⟩)
          rw [n_cl (a := (12 * f) + t) (by omega)]
          show w_R xs Ln 111 (98, [(4, .int (Int32.ofNat ((12 * f) + t))), (0, .ref 199), (1, .int (Int32.ofNat f)), (2, .int (Int32.ofNat t)), (3, .int (Int32.ofNat y))], [], (s_up (s_up (s_up I 199 59 0) 199 1 ((I 199 1) - 1)) 200 ((12 * f) + t) (Int32.ofNat y), J, kR w rem, Z), 0, 0) _
          refine w_R.go (c' := (i_br .le (Int32.ofNat y) 0 112 102, [(4, .int (Int32.ofNat ((12 * f) + t))), (0, .ref 199), (1, .int (Int32.ofNat f)), (2, .int (Int32.ofNat t)), (3, .int (Int32.ofNat y))], [], (s_up (s_up (s_up I 199 59 0) 199 1 ((I 199 1) - 1)) 200 ((12 * f) + t) (Int32.ofNat y), J, kR w rem, Z), 0, 0)) 2 ?_ (fun m_ x_ Q_ k_ => ⟨trivial, trivial, k_⟩)
          refine w_R.br_le (fun h9 => ?_) (fun h9 => ?_)
          · replace h9 := mt (n_lt (a := 0) (b := y) (by omega) (by omega)).mpr h9
            refine w_R.ret 2 (.inl (some (.int 1))) (s_up (s_up (s_up I 199 59 0) 199 1 ((I 199 1) - 1)) 200 ((12 * f) + t) (Int32.ofNat y), J, kR w rem, Z) ?_ (fun x_ Q_ k_ => ⟨trivial, Or.inr rfl, ⟨Nat.le_of_ble_eq_true rfl, Nat.le_of_ble_eq_true rfl⟩, k_⟩)
            exact ⟨by rw [show v_111 I J Z f t y = true from by unfold v_111; rw [if_neg h1, if_pos h2, if_neg h6]] <;> rfl, by rw [show i_111 I J Z f t y = (s_up (s_up (s_up I 199 59 0) 199 1 ((I 199 1) - 1)) 200 ((12 * f) + t) (Int32.ofNat y)) from by unfold i_111; rw [if_neg h1, if_pos h2, if_neg h6, if_pos h7, if_neg h9]]⟩
          · replace h9 := (n_lt (a := 0) (b := y) (by omega) (by omega)).mp h9
            refine w_R.go (c' := (107, [(4, .int (Int32.ofNat ((12 * f) + t))), (0, .ref 199), (1, .int (Int32.ofNat f)), (2, .int (Int32.ofNat t)), (3, .int (Int32.ofNat y))], [.int ((s_up (s_up (s_up I 199 59 0) 199 1 ((I 199 1) - 1)) 200 ((12 * f) + t) (Int32.ofNat y)) 199 1), .ref 199], (s_up (s_up (s_up I 199 59 0) 199 1 ((I 199 1) - 1)) 200 ((12 * f) + t) (Int32.ofNat y), J, kR w rem, Z), 0, 0)) 3 ?_ (fun m_ x_ Q_ k_ => ⟨trivial, trivial, ⟨sh_199, trivial⟩, k_⟩)
            rw [show (s_up (s_up (s_up I 199 59 0) 199 1 ((I 199 1) - 1)) 200 ((12 * f) + t) (Int32.ofNat y)) 199 1 = (I 199 1) - 1 from ((s_upa (by decide)).trans (s_upe _ _ _ _))]
            show w_R xs Ln 111 (107, [(4, .int (Int32.ofNat ((12 * f) + t))), (0, .ref 199), (1, .int (Int32.ofNat f)), (2, .int (Int32.ofNat t)), (3, .int (Int32.ofNat y))], [.int ((I 199 1) - 1), .ref 199], (s_up (s_up (s_up I 199 59 0) 199 1 ((I 199 1) - 1)) 200 ((12 * f) + t) (Int32.ofNat y), J, kR w rem, Z), 0, 0) _
            refine w_R.ret 5 (.inl (some (.int 1))) (s_up (s_up (s_up (s_up I 199 59 0) 199 1 ((I 199 1) - 1)) 200 ((12 * f) + t) (Int32.ofNat y)) 199 1 (((I 199 1) - 1) + 1), J, kR w rem, Z) ?_ (fun x_ Q_ k_ => ⟨trivial, trivial, ⟨sh_199, trivial⟩, trivial, Or.inr rfl, ⟨Nat.le_of_ble_eq_true rfl, Nat.le_of_ble_eq_true rfl⟩, k_⟩)
            exact ⟨by rw [show v_111 I J Z f t y = true from by unfold v_111; rw [if_neg h1, if_pos h2, if_neg h6]] <;> rfl, by rw [show i_111 I J Z f t y = (s_up (s_up (s_up (s_up I 199 59 0) 199 1 ((I 199 1) - 1)) 200 ((12 * f) + t) (Int32.ofNat y)) 199 1 (((I 199 1) - 1) + 1)) from by unfold i_111; rw [if_neg h1, if_pos h2, if_neg h6, if_pos h7, if_pos h9]]⟩
      · replace h6 := (n_lt (a := 0) (b := y) (by omega) (by omega)).mp h6
        refine w_R.go (c' := (63, [(4, .int (Int32.ofNat ((12 * f) + t))), (0, .ref 199), (1, .int (Int32.ofNat f)), (2, .int (Int32.ofNat t)), (3, .int (Int32.ofNat y))], [.int ((s_up I 199 59 0) 199 1)], (s_up I 199 59 0, J, kR w rem, Z), 0, 0)) 2 ?_ (fun m_ x_ Q_ k_ => ⟨trivial, ⟨sh_199, trivial⟩, k_⟩)
        rw [show (s_up I 199 59 0) 199 1 = I 199 1 from (s_upk (by decide))]
        show w_R xs Ln 111 (63, [(4, .int (Int32.ofNat ((12 * f) + t))), (0, .ref 199), (1, .int (Int32.ofNat f)), (2, .int (Int32.ofNat t)), (3, .int (Int32.ofNat y))], [.int (I 199 1)], (s_up I 199 59 0, J, kR w rem, Z), 0, 0) _
        refine w_R.go (c' := (i_br .ne (I 199 1) 30 70 68, [(4, .int (Int32.ofNat ((12 * f) + t))), (0, .ref 199), (1, .int (Int32.ofNat f)), (2, .int (Int32.ofNat t)), (3, .int (Int32.ofNat y))], [], (s_up I 199 59 0, J, kR w rem, Z), 0, 0)) 2 ?_ (fun m_ x_ Q_ k_ => ⟨trivial, trivial, k_⟩)
        refine w_R.br_ne (fun h10 => ?_) (fun h10 => ?_)
        · refine w_R.go (c' := (77, [(4, .int (Int32.ofNat ((12 * f) + t))), (0, .ref 199), (1, .int (Int32.ofNat f)), (2, .int (Int32.ofNat t)), (3, .int (Int32.ofNat y))], [.int ((s_up I 199 59 0) 200 (Int32.ofNat ((12 * f) + t)).toNatClampNeg)], (s_up I 199 59 0, J, kR w rem, Z), 0, 0)) 4 ?_ (fun m_ x_ Q_ k_ => ⟨trivial, ⟨sh_199, (Nat.succ_ne_zero 199)⟩, trivial, ⟨_, sh_200, (n_in (a := (12 * f) + t) (by omega) (by decide))⟩, k_⟩)
          rw [n_cl (a := (12 * f) + t) (by omega)]
          rw [show (s_up I 199 59 0) 200 ((12 * f) + t) = I 200 ((12 * f) + t) from (s_upa (by decide))]
          show w_R xs Ln 111 (77, [(4, .int (Int32.ofNat ((12 * f) + t))), (0, .ref 199), (1, .int (Int32.ofNat f)), (2, .int (Int32.ofNat t)), (3, .int (Int32.ofNat y))], [.int (I 200 ((12 * f) + t))], (s_up I 199 59 0, J, kR w rem, Z), 0, 0) _
          refine w_R.go (c' := (i_br .le (I 200 ((12 * f) + t)) 0 90 80, [(4, .int (Int32.ofNat ((12 * f) + t))), (0, .ref 199), (1, .int (Int32.ofNat f)), (2, .int (Int32.ofNat t)), (3, .int (Int32.ofNat y))], [], (s_up I 199 59 0, J, kR w rem, Z), 0, 0)) 1 ?_ (fun m_ x_ Q_ k_ => ⟨trivial, k_⟩)
          refine w_R.br_le (fun h11 => ?_) (fun h11 => ?_)
          · refine w_R.go (c' := (98, [(4, .int (Int32.ofNat ((12 * f) + t))), (0, .ref 199), (1, .int (Int32.ofNat f)), (2, .int (Int32.ofNat t)), (3, .int (Int32.ofNat y))], [], (s_up (s_up I 199 59 0) 200 ((Int32.ofNat ((12 * f) + t)).toNatClampNeg) (Int32.ofNat y), J, kR w rem, Z), 0, 0)) 5 ?_ (fun m_ x_ Q_ k_ => ⟨trivial, ⟨sh_199, (Nat.succ_ne_zero 199)⟩, trivial, trivial, ⟨_, sh_200, (n_in (a := (12 * f) + t) (by omega) (by decide))⟩, k_⟩)
            rw [n_cl (a := (12 * f) + t) (by omega)]
            show w_R xs Ln 111 (98, [(4, .int (Int32.ofNat ((12 * f) + t))), (0, .ref 199), (1, .int (Int32.ofNat f)), (2, .int (Int32.ofNat t)), (3, .int (Int32.ofNat y))], [], (s_up (s_up I 199 59 0) 200 ((12 * f) + t) (Int32.ofNat y), J, kR w rem, Z), 0, 0) _
            refine w_R.go (c' := (i_br .le (Int32.ofNat y) 0 112 102, [(4, .int (Int32.ofNat ((12 * f) + t))), (0, .ref 199), (1, .int (Int32.ofNat f)), (2, .int (Int32.ofNat t)), (3, .int (Int32.ofNat y))], [], (s_up (s_up I 199 59 0) 200 ((12 * f) + t) (Int32.ofNat y), J, kR w rem, Z), 0, 0)) 2 ?_ (fun m_ x_ Q_ k_ => ⟨trivial, trivial, k_⟩)
            refine w_R.br_le (fun h12 => ?_) (fun h12 => ?_)
            · replace h12 := mt (n_lt (a := 0) (b := y) (by omega) (by omega)).mpr h12
              refine w_R.ret 2 (.inl (some (.int 1))) (s_up (s_up I 199 59 0) 200 ((12 * f) + t) (Int32.ofNat y), J, kR w rem, Z) ?_ (fun x_ Q_ k_ => ⟨trivial, Or.inr rfl, ⟨Nat.le_of_ble_eq_true rfl, Nat.le_of_ble_eq_true rfl⟩, k_⟩)
              exact ⟨by rw [show v_111 I J Z f t y = true from by unfold v_111; rw [if_neg h1, if_pos h2, if_pos h6, if_neg h10]] <;> rfl, by rw [show i_111 I J Z f t y = (s_up (s_up I 199 59 0) 200 ((12 * f) + t) (Int32.ofNat y)) from by unfold i_111; rw [if_neg h1, if_pos h2, if_pos h6, if_neg h10, if_neg h11, if_neg h12]]⟩
            · replace h12 := (n_lt (a := 0) (b := y) (by omega) (by omega)).mp h12
              refine w_R.go (c' := (107, [(4, .int (Int32.ofNat ((12 * f) + t))), (0, .ref 199), (1, .int (Int32.ofNat f)), (2, .int (Int32.ofNat t)), (3, .int (Int32.ofNat y))], [.int ((s_up (s_up I 199 59 0) 200 ((12 * f) + t) (Int32.ofNat y)) 199 1), .ref 199], (s_up (s_up I 199 59 0) 200 ((12 * f) + t) (Int32.ofNat y), J, kR w rem, Z), 0, 0)) 3 ?_ (fun m_ x_ Q_ k_ => ⟨trivial, trivial, ⟨sh_199, trivial⟩, k_⟩)
              rw [show (s_up (s_up I 199 59 0) 200 ((12 * f) + t) (Int32.ofNat y)) 199 1 = I 199 1 from ((s_upa (by decide)).trans (s_upk (by decide)))]
              show w_R xs Ln 111 (107, [(4, .int (Int32.ofNat ((12 * f) + t))), (0, .ref 199), (1, .int (Int32.ofNat f)), (2, .int (Int32.ofNat t)), (3, .int (Int32.ofNat y))], [.int (I 199 1), .ref 199], (s_up (s_up I 199 59 0) 200 ((12 * f) + t) (Int32.ofNat y), J, kR w rem, Z), 0, 0) _
              refine w_R.ret 5 (.inl (some (.int 1))) (s_up (s_up (s_up I 199 59 0) 200 ((12 * f) + t) (Int32.ofNat y)) 199 1 ((I 199 1) + 1), J, kR w rem, Z) ?_ (fun x_ Q_ k_ => ⟨trivial, trivial, ⟨sh_199, trivial⟩, trivial, Or.inr rfl, ⟨Nat.le_of_ble_eq_true rfl, Nat.le_of_ble_eq_true rfl⟩, k_⟩)
              exact ⟨by rw [show v_111 I J Z f t y = true from by unfold v_111; rw [if_neg h1, if_pos h2, if_pos h6, if_neg h10]] <;> rfl, by rw [show i_111 I J Z f t y = (s_up (s_up (s_up I 199 59 0) 200 ((12 * f) + t) (Int32.ofNat y)) 199 1 ((I 199 1) + 1)) from by unfold i_111; rw [if_neg h1, if_pos h2, if_pos h6, if_neg h10, if_neg h11, if_pos h12]]⟩
          · refine w_R.go (c' := (85, [(4, .int (Int32.ofNat ((12 * f) + t))), (0, .ref 199), (1, .int (Int32.ofNat f)), (2, .int (Int32.ofNat t)), (3, .int (Int32.ofNat y))], [.int ((s_up I 199 59 0) 199 1), .ref 199], (s_up I 199 59 0, J, kR w rem, Z), 0, 0)) 3 ?_ (fun m_ x_ Q_ k_ => ⟨trivial, trivial, ⟨sh_199, trivial⟩, k_⟩)
            rw [show (s_up I 199 59 0) 199 1 = I 199 1 from (s_upk (by decide))]
            show w_R xs Ln 111 (85, [(4, .int (Int32.ofNat ((12 * f) + t))), (0, .ref 199), (1, .int (Int32.ofNat f)), (2, .int (Int32.ofNat t)), (3, .int (Int32.ofNat y))], [.int (I 199 1), .ref 199], (s_up I 199 59 0, J, kR w rem, Z), 0, 0) _
            refine w_R.go (c' := (98, [(4, .int (Int32.ofNat ((12 * f) + t))), (0, .ref 199), (1, .int (Int32.ofNat f)), (2, .int (Int32.ofNat t)), (3, .int (Int32.ofNat y))], [], (s_up (s_up (s_up I 199 59 0) 199 1 ((I 199 1) - 1)) 200 ((Int32.ofNat ((12 * f) + t)).toNatClampNeg) (Int32.ofNat y), J, kR w rem, Z), 0, 0)) 8 ?_ (fun m_ x_ Q_ k_ => ⟨trivial, trivial, ⟨sh_199, trivial⟩, trivial, ⟨sh_199, (Nat.succ_ne_zero 199)⟩, trivial, trivial, ⟨_, sh_200, (n_in (a := (12 * f) + t) (by omega) (by decide))⟩, k_⟩)
            rw [n_cl (a := (12 * f) + t) (by omega)]
            show w_R xs Ln 111 (98, [(4, .int (Int32.ofNat ((12 * f) + t))), (0, .ref 199), (1, .int (Int32.ofNat f)), (2, .int (Int32.ofNat t)), (3, .int (Int32.ofNat y))], [], (s_up (s_up (s_up I 199 59 0) 199 1 ((I 199 1) - 1)) 200 ((12 * f) + t) (Int32.ofNat y), J, kR w rem, Z), 0, 0) _
            refine w_R.go (c' := (i_br .le (Int32.ofNat y) 0 112 102, [(4, .int (Int32.ofNat ((12 * f) + t))), (0, .ref 199), (1, .int (Int32.ofNat f)), (2, .int (Int32.ofNat t)), (3, .int (Int32.ofNat y))], [], (s_up (s_up (s_up I 199 59 0) 199 1 ((I 199 1) - 1)) 200 ((12 * f) + t) (Int32.ofNat y), J, kR w rem, Z), 0, 0)) 2 ?_ (fun m_ x_ Q_ k_ => ⟨trivial, trivial, k_⟩)
            refine w_R.br_le (fun h13 => ?_) (fun h13 => ?_)
            · replace h13 := mt (n_lt (a := 0) (b := y) (by omega) (by omega)).mpr h13
              refine w_R.ret 2 (.inl (some (.int 1))) (s_up (s_up (s_up I 199 59 0) 199 1 ((I 199 1) - 1)) 200 ((12 * f) + t) (Int32.ofNat y), J, kR w rem, Z) ?_ (fun x_ Q_ k_ => ⟨trivial, Or.inr rfl, ⟨Nat.le_of_ble_eq_true rfl, Nat.le_of_ble_eq_true rfl⟩, k_⟩)
              exact ⟨by rw [show v_111 I J Z f t y = true from by unfold v_111; rw [if_neg h1, if_pos h2, if_pos h6, if_neg h10]] <;> rfl, by rw [show i_111 I J Z f t y = (s_up (s_up (s_up I 199 59 0) 199 1 ((I 199 1) - 1)) 200 ((12 * f) + t) (Int32.ofNat y)) from by unfold i_111; rw [if_neg h1, if_pos h2, if_pos h6, if_neg h10, if_pos h11, if_neg h13]]⟩
            · replace h13 := (n_lt (a := 0) (b := y) (by omega) (by omega)).mp h13
              refine w_R.go (c' := (107, [(4, .int (Int32.ofNat ((12 * f) + t))), (0, .ref 199), (1, .int (Int32.ofNat f)), (2, .int (Int32.ofNat t)), (3, .int (Int32.ofNat y))], [.int ((s_up (s_up (s_up I 199 59 0) 199 1 ((I 199 1) - 1)) 200 ((12 * f) + t) (Int32.ofNat y)) 199 1), .ref 199], (s_up (s_up (s_up I 199 59 0) 199 1 ((I 199 1) - 1)) 200 ((12 * f) + t) (Int32.ofNat y), J, kR w rem, Z), 0, 0)) 3 ?_ (fun m_ x_ Q_ k_ => ⟨trivial, trivial, ⟨sh_199, trivial⟩, k_⟩)
              rw [show (s_up (s_up (s_up I 199 59 0) 199 1 ((I 199 1) - 1)) 200 ((12 * f) + t) (Int32.ofNat y)) 199 1 = (I 199 1) - 1 from ((s_upa (by decide)).trans (s_upe _ _ _ _))]
              show w_R xs Ln 111 (107, [(4, .int (Int32.ofNat ((12 * f) + t))), (0, .ref 199), (1, .int (Int32.ofNat f)), (2, .int (Int32.ofNat t)), (3, .int (Int32.ofNat y))], [.int ((I 199 1) - 1), .ref 199], (s_up (s_up (s_up I 199 59 0) 199 1 ((I 199 1) - 1)) 200 ((12 * f) + t) (Int32.ofNat y), J, kR w rem, Z), 0, 0) _
              refine w_R.ret 5 (.inl (some (.int 1))) (s_up (s_up (s_up (s_up I 199 59 0) 199 1 ((I 199 1) - 1)) 200 ((12 * f) + t) (Int32.ofNat y)) 199 1 (((I 199 1) - 1) + 1), J, kR w rem, Z) ?_ (fun x_ Q_ k_ => ⟨trivial, trivial, ⟨sh_199, trivial⟩, trivial, Or.inr rfl, ⟨Nat.le_of_ble_eq_true rfl, Nat.le_of_ble_eq_true rfl⟩, k_⟩)
              exact ⟨by rw [show v_111 I J Z f t y = true from by unfold v_111; rw [if_neg h1, if_pos h2, if_pos h6, if_neg h10]] <;> rfl, by rw [show i_111 I J Z f t y = (s_up (s_up (s_up (s_up I 199 59 0) 199 1 ((I 199 1) - 1)) 200 ((12 * f) + t) (Int32.ofNat y)) 199 1 (((I 199 1) - 1) + 1)) from by unfold i_111; rw [if_neg h1, if_pos h2, if_pos h6, if_neg h10, if_pos h11, if_pos h13]]⟩
        · refine w_R.ret 2 (.inl (some (.int 0))) (s_up I 199 59 0, J, kR w rem, Z) ?_ (fun x_ Q_ k_ => ⟨trivial, Or.inl rfl, ⟨Nat.le_of_ble_eq_true rfl, Nat.le_of_ble_eq_true rfl⟩, k_⟩)
          exact ⟨by rw [show v_111 I J Z f t y = false from by unfold v_111; rw [if_neg h1, if_pos h2, if_pos h6, if_pos h10]] <;> rfl, by rw [show i_111 I J Z f t y = (s_up I 199 59 0) from by unfold i_111; rw [if_neg h1, if_pos h2, if_pos h6, if_pos h10]]⟩
  · replace h1 := (n_eq (a := f) (b := t) (by omega) (by omega)).mp h1
    refine w_R.ret 2 (.inl (some (.int 0))) (s_up I 199 59 0, J, kR w rem, Z) ?_ (fun x_ Q_ k_ => ⟨trivial, Or.inl rfl, ⟨Nat.le_of_ble_eq_true rfl, Nat.le_of_ble_eq_true rfl⟩, k_⟩)
    exact ⟨by rw [show v_111 I J Z f t y = false from by unfold v_111; rw [if_pos h1]] <;> rfl, by rw [show i_111 I J Z f t y = (s_up I 199 59 0) from by unfold i_111; rw [if_pos h1]]⟩
end Small5
