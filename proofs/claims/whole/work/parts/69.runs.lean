section RunsP
variable {xs : Nat → Int32} {Ln : Nat} {I : Nat → Nat → Int32} {J : Nat → Nat → Int64} {Z : Nat → Nat → Bool} {w : Nat → Nat} {rem : Nat}
theorem q121_c {u n : Nat} {r : Int32} (hn : n ≤ 48) (hc2 : I 199 44 = Int32.ofNat n) : i_121 I J Z u r n 199 44 = Int32.ofNat (g_s n) := by
  unfold i_121 g_s
  split
  · unfold i_121a; simp (disch := omega) only [s_upf]; exact p117_c
  · exact hc2
theorem q118_c {f c n : Nat} {k t : Int32} (hn : n ≤ 48) (hc2 : I 199 44 = Int32.ofNat n) : i_118 I J Z k f t c n 199 44 = Int32.ofNat (g_s n) := by
  unfold i_118 g_s
  split
  · unfold i_118a; simp (disch := omega) only [s_upf]; exact p117_c
  · exact hc2
theorem q120_c {n : Nat} {f : Int32} (hn : n ≤ 48) (hc2 : I 199 44 = Int32.ofNat n) : i_120 I J Z f n 199 44 = Int32.ofNat (g_s n) := by
  unfold i_120 g_s
  split
  · unfold i_120a; simp (disch := omega) only [s_upf]; exact p117_c
  · exact hc2
def i_122 (I : Nat → Nat → Int32) (J : Nat → Nat → Int64) (Z : Nat → Nat → Bool) (u : Nat) (n : Nat) : Nat → Nat → Int32 := i_121 (i_121 (s_up I 213 u ((I 213 u) + 1)) J Z u 0 n) J Z u 1 (g_s n)
theorem d_122 (u : Nat) (n : Nat) (hu : u < 6) (hn : n ≤ 48) (hc2 : I 199 44 = Int32.ofNat n) : w_R xs Ln 122 (0, [(0, .ref 199), (1, .int (Int32.ofNat u))], [], (I, J, kR w rem, Z), 0, 0) (fun o s => o = .inl none ∧ s = (i_122 I J Z u n, J, kR w rem, Z)) := by
  refine w_R.go (c' := (7, [(0, .ref 199), (1, .int (Int32.ofNat u))], [.int (I 213 (Int32.ofNat u).toNatClampNeg), .int (Int32.ofNat u), .ref 213], (I, J, kR w rem, Z), 0, 0)) 5 ?_ (fun m_ x_ Q_ k_ => ⟨trivial, ⟨sh_199, (Nat.succ_ne_zero 212)⟩, trivial, trivial, ⟨_, sh_213, (n_in (a := u) (by omega) (by decide))⟩, k_⟩)
  rw [n_cl (a := u) (by omega)]
  show w_R xs Ln 122 (7, [(0, .ref 199), (1, .int (Int32.ofNat u))], [.int (I 213 u), .int (Int32.ofNat u), .ref 213], (I, J, kR w rem, Z), 0, 0) _
  refine w_R.go (c' := (10, [(0, .ref 199), (1, .int (Int32.ofNat u))], [], (s_up I 213 ((Int32.ofNat u).toNatClampNeg) ((I 213 u) + 1), J, kR w rem, Z), 0, 0)) 3 ?_ (fun m_ x_ Q_ k_ => ⟨trivial, trivial, ⟨_, sh_213, (n_in (a := u) (by omega) (by decide))⟩, k_⟩)
  rw [n_cl (a := u) (by omega)]
  show w_R xs Ln 122 (10, [(0, .ref 199), (1, .int (Int32.ofNat u))], [], (s_up I 213 u ((I 213 u) + 1), J, kR w rem, Z), 0, 0) _
  refine w_R.go (c' := (13, [(0, .ref 199), (1, .int (Int32.ofNat u))], [.int 0, .int (Int32.ofNat u), .ref 199], (s_up I 213 u ((I 213 u) + 1), J, kR w rem, Z), 0, 0)) 3 ?_ (fun m_ x_ Q_ k_ => ⟨trivial, trivial, trivial, k_⟩)
  refine w_R.callV (ce' := 0) (sl' := 0) (v := none) (σ' := (i_121 (s_up I 213 u ((I 213 u) + 1)) J Z u 0 n, J, kR w rem, Z)) (as := [.ref 199, .int (Int32.ofNat u), .int 0]) (rest := []) (d_121 u 0 n (by omega) hn (by first | exact hc2 | (simp (disch := omega) only [s_upf]; exact hc2))) ?_ rfl rfl rfl rfl rfl sh_199 rfl rfl rfl rfl
  show w_R xs Ln 122 (16, [(0, .ref 199), (1, .int (Int32.ofNat u))], [], (i_121 (s_up I 213 u ((I 213 u) + 1)) J Z u 0 n, J, kR w rem, Z), 0, 0) _
  refine w_R.go (c' := (19, [(0, .ref 199), (1, .int (Int32.ofNat u))], [.int 1, .int (Int32.ofNat u), .ref 199], (i_121 (s_up I 213 u ((I 213 u) + 1)) J Z u 0 n, J, kR w rem, Z), 0, 0)) 3 ?_ (fun m_ x_ Q_ k_ => ⟨trivial, trivial, trivial, k_⟩)
  refine w_R.callV (ce' := 0) (sl' := 0) (v := none) (σ' := (i_121 (i_121 (s_up I 213 u ((I 213 u) + 1)) J Z u 0 n) J Z u 1 (g_s n), J, kR w rem, Z)) (as := [.ref 199, .int (Int32.ofNat u), .int 1]) (rest := []) (d_121 u 1 (g_s n) (by omega) (g_s_le hn) (by first | exact (q121_c hn (by first | exact hc2 | (simp (disch := omega) only [s_upf]; exact hc2))) | (simp (disch := omega) only [s_upf]; exact (q121_c hn (by first | exact hc2 | (simp (disch := omega) only [s_upf]; exact hc2)))))) ?_ rfl rfl rfl rfl rfl sh_199 rfl rfl rfl rfl
  show w_R xs Ln 122 (22, [(0, .ref 199), (1, .int (Int32.ofNat u))], [], (i_121 (i_121 (s_up I 213 u ((I 213 u) + 1)) J Z u 0 n) J Z u 1 (g_s n), J, kR w rem, Z), 0, 0) _
  refine w_R.ret 1 (.inl none) (i_121 (i_121 (s_up I 213 u ((I 213 u) + 1)) J Z u 0 n) J Z u 1 (g_s n), J, kR w rem, Z) ?_ (fun x_ Q_ k_ => ⟨⟨Nat.le_of_ble_eq_true rfl, Nat.le_of_ble_eq_true rfl⟩, k_⟩)
  exact ⟨rfl, by rw [show i_122 I J Z u n = (i_121 (i_121 (s_up I 213 u ((I 213 u) + 1)) J Z u 0 n) J Z u 1 (g_s n)) from by unfold i_122; rfl]⟩
theorem q48_c {u n : Nat} {p : Nat → Nat} (hpl : ∀ i, i < 49 → p i < 50) (hn : n ≤ 48) (hc : I 33 1 = Int32.ofNat n) : i_48 I J Z u n p 33 1 = Int32.ofNat (g_s (g_s n)) := by
  have h0 := hpl n (by omega)
  have h1 := hpl (g_s n) (Nat.lt_succ_of_le (g_s_le hn))
  unfold i_48
  simp (disch := omega) only [s_upf]
  refine p72_c ?_
  simp (disch := omega) only [s_upf]
  refine p72_c ?_
  simp (disch := omega) only [s_upf]
  exact hc
theorem q56_c {u : Nat} {x : Int32} (hu : u < 6) : i_56 I J Z u x 33 1 = I 33 1 := by
  unfold i_56
  repeat' split
  all_goals simp (disch := omega) only [s_upf]
def v_6 (I : Nat → Nat → Int32) (J : Nat → Nat → Int64) (Z : Nat → Nat → Bool) (u : Nat) (x : Int32) (n : Nat) (p : Nat → Nat) : Bool := if (v_55 I J Z u x) = true then true else false
def i_6 (I : Nat → Nat → Int32) (J : Nat → Nat → Int64) (Z : Nat → Nat → Bool) (u : Nat) (x : Int32) (n : Nat) (p : Nat → Nat) : Nat → Nat → Int32 := if (v_55 I J Z u x) = true then i_48 (i_56 I J Z u x) J Z u n p else I
theorem d_6 (u : Nat) (x : Int32) (n : Nat) (p : Nat → Nat) (hu : u < 6) (hn : n ≤ 48) (hc : I 33 1 = Int32.ofNat n) (hpl : ∀ i, i < 49 → p i < 50) (hw : ∀ i, i < 49 → w i = 35 + 2 * p i) : w_R xs Ln 6 (0, [(0, .ref 1), (1, .int (Int32.ofNat u)), (2, .int x)], [], (I, J, kR w rem, Z), 0, 0) (fun o s => o = .inl (some (.int (s_b (v_6 I J Z u x n p)))) ∧ s = (i_6 I J Z u x n p, J, kR w rem, Z)) := by
  refine w_R.go (c' := (1, [(0, .ref 1), (1, .int (Int32.ofNat u)), (2, .int x)], [.int (Int32.ofNat u)], (I, J, kR w rem, Z), 0, 0)) 1 ?_ (fun m_ x_ Q_ k_ => ⟨trivial, k_⟩)
  refine w_R.callS (ce' := 0) (sl' := 0) (v := some (.int (s_b true))) (σ' := (I, J, kR w rem, Z)) (as := [.int (Int32.ofNat u)]) (rest := []) (d_31N u (by omega)) ?_ rfl rfl rfl rfl rfl rfl rfl rfl rfl
  show w_R xs Ln 6 (4, [(0, .ref 1), (1, .int (Int32.ofNat u)), (2, .int x)], [.int (s_b true)], (I, J, kR w rem, Z), 0, 0) _
  refine w_R.go (c' := (7, [(0, .ref 1), (1, .int (Int32.ofNat u)), (2, .int x)], [], (I, J, kR w rem, Z), 0, 0)) 1 ?_ (fun m_ x_ Q_ k_ => ⟨trivial, k_⟩)
  refine w_R.go (c' := (13, [(0, .ref 1), (1, .int (Int32.ofNat u)), (2, .int x)], [.ref (kR w rem 11 (Int32.ofNat u).toNatClampNeg)], (I, J, kR w rem, Z), 0, 0)) 4 ?_ (fun m_ x_ Q_ k_ => ⟨trivial, ⟨sh_1, (Nat.succ_ne_zero 10)⟩, trivial, ⟨⟨_, sh_11, (n_in (a := u) (by omega) (by decide))⟩, (show kR w rem 11 (Int32.ofNat u).toNatClampNeg ≠ 0 by rw [n_cl (a := u) (by omega), r_amb (w := w) (rem := rem) (u := u) (by omega)]; omega)⟩, k_⟩)
  rw [n_cl (a := u) (by omega)]
  rw [r_amb (w := w) (rem := rem) (u := u) (by omega)]
  show w_R xs Ln 6 (13, [(0, .ref 1), (1, .int (Int32.ofNat u)), (2, .int x)], [.ref (135 + u)], (I, J, kR w rem, Z), 0, 0) _
  refine w_R.go (c' := (14, [(0, .ref 1), (1, .int (Int32.ofNat u)), (2, .int x)], [.int x, .ref (135 + u)], (I, J, kR w rem, Z), 0, 0)) 1 ?_ (fun m_ x_ Q_ k_ => ⟨trivial, k_⟩)
  refine w_R.callV (ce' := 0) (sl' := 0) (v := some (.int (s_b (v_55 I J Z u x)))) (σ' := (I, J, kR w rem, Z)) (as := [.ref (135 + u), .int x]) (rest := []) (d_55 u x (by omega)) ?_ rfl rfl rfl rfl rfl (sh_amb (by omega)) rfl rfl rfl rfl
  show w_R xs Ln 6 (17, [(0, .ref 1), (1, .int (Int32.ofNat u)), (2, .int x)], [.int (s_b (v_55 I J Z u x))], (I, J, kR w rem, Z), 0, 0) _
  refine w_R.go (c' := (i_br .ne (s_b (v_55 I J Z u x)) 0 22 20, [(0, .ref 1), (1, .int (Int32.ofNat u)), (2, .int x)], [], (I, J, kR w rem, Z), 0, 0)) 1 ?_ (fun m_ x_ Q_ k_ => ⟨trivial, k_⟩)
  refine w_R.br_nz (fun h1 => ?_) (fun h1 => ?_)
  · refine w_R.go (c' := (28, [(0, .ref 1), (1, .int (Int32.ofNat u)), (2, .int x)], [.ref (kR w rem 11 (Int32.ofNat u).toNatClampNeg)], (I, J, kR w rem, Z), 0, 0)) 4 ?_ (fun m_ x_ Q_ k_ => ⟨trivial, ⟨sh_1, (Nat.succ_ne_zero 10)⟩, trivial, ⟨⟨_, sh_11, (n_in (a := u) (by omega) (by decide))⟩, (show kR w rem 11 (Int32.ofNat u).toNatClampNeg ≠ 0 by rw [n_cl (a := u) (by omega), r_amb (w := w) (rem := rem) (u := u) (by omega)]; omega)⟩, k_⟩)
    rw [n_cl (a := u) (by omega)]
    rw [r_amb (w := w) (rem := rem) (u := u) (by omega)]
    show w_R xs Ln 6 (28, [(0, .ref 1), (1, .int (Int32.ofNat u)), (2, .int x)], [.ref (135 + u)], (I, J, kR w rem, Z), 0, 0) _
    refine w_R.go (c' := (29, [(0, .ref 1), (1, .int (Int32.ofNat u)), (2, .int x)], [.int x, .ref (135 + u)], (I, J, kR w rem, Z), 0, 0)) 1 ?_ (fun m_ x_ Q_ k_ => ⟨trivial, k_⟩)
    refine w_R.callV (ce' := 0) (sl' := 0) (v := none) (σ' := (i_56 I J Z u x, J, kR w rem, Z)) (as := [.ref (135 + u), .int x]) (rest := []) (d_56 u x (by omega)) ?_ rfl rfl rfl rfl rfl (sh_amb (by omega)) rfl rfl rfl rfl
    show w_R xs Ln 6 (32, [(0, .ref 1), (1, .int (Int32.ofNat u)), (2, .int x)], [], (i_56 I J Z u x, J, kR w rem, Z), 0, 0) _
    refine w_R.go (c' := (34, [(0, .ref 1), (1, .int (Int32.ofNat u)), (2, .int x)], [.int (Int32.ofNat u), .ref 1], (i_56 I J Z u x, J, kR w rem, Z), 0, 0)) 2 ?_ (fun m_ x_ Q_ k_ => ⟨trivial, trivial, k_⟩)
    refine w_R.callV (ce' := 0) (sl' := 0) (v := none) (σ' := (i_48 (i_56 I J Z u x) J Z u n p, J, kR w rem, Z)) (as := [.ref 1, .int (Int32.ofNat u)]) (rest := []) (d_48 u n p (by omega) hn (by first | exact ((q56_c hu).trans (by first | exact hc | (simp (disch := omega) only [s_upf]; exact hc))) | (simp (disch := omega) only [s_upf]; exact ((q56_c hu).trans (by first | exact hc | (simp (disch := omega) only [s_upf]; exact hc))))) hpl hw) ?_ rfl rfl rfl rfl rfl sh_1 rfl rfl rfl rfl
    show w_R xs Ln 6 (37, [(0, .ref 1), (1, .int (Int32.ofNat u)), (2, .int x)], [], (i_48 (i_56 I J Z u x) J Z u n p, J, kR w rem, Z), 0, 0) _
    refine w_R.ret 2 (.inl (some (.int 1))) (i_48 (i_56 I J Z u x) J Z u n p, J, kR w rem, Z) ?_ (fun x_ Q_ k_ => ⟨trivial, Or.inr rfl, ⟨Nat.le_of_ble_eq_true rfl, Nat.le_of_ble_eq_true rfl⟩, k_⟩)
    exact ⟨by rw [show v_6 I J Z u x n p = true from by unfold v_6; rw [if_pos h1]] <;> rfl, by rw [show i_6 I J Z u x n p = (i_48 (i_56 I J Z u x) J Z u n p) from by unfold i_6; rw [if_pos h1]]⟩
  · replace h1 := Bool.eq_false_iff.mp h1
    refine w_R.ret 2 (.inl (some (.int 0))) (I, J, kR w rem, Z) ?_ (fun x_ Q_ k_ => ⟨trivial, Or.inl rfl, ⟨Nat.le_of_ble_eq_true rfl, Nat.le_of_ble_eq_true rfl⟩, k_⟩)
    exact ⟨by rw [show v_6 I J Z u x n p = false from by unfold v_6; rw [if_neg h1]] <;> rfl, by rw [show i_6 I J Z u x n p = I from by unfold i_6; rw [if_neg h1]]⟩
theorem b_6_0 (u : Int32) (x : Int32) (hu : l_rg u 0 6 = false) : w_R xs Ln 6 (0, [(0, .ref 1), (1, .int u), (2, .int x)], [], (I, J, kR w rem, Z), 0, 0) (fun o s => o = .inl (some (.int 0)) ∧ s = (I, J, kR w rem, Z)) := by
  refine w_R.go (c' := (1, [(0, .ref 1), (1, .int u), (2, .int x)], [.int u], (I, J, kR w rem, Z), 0, 0)) 1 ?_ (fun m_ x_ Q_ k_ => ⟨trivial, k_⟩)
  refine w_R.callS (ce' := 0) (sl' := 0) (v := some (.int (s_b false))) (σ' := (I, J, kR w rem, Z)) (as := [.int u]) (rest := []) (d_31F u hu) ?_ rfl rfl rfl rfl rfl rfl rfl rfl rfl
  show w_R xs Ln 6 (4, [(0, .ref 1), (1, .int u), (2, .int x)], [.int (s_b false)], (I, J, kR w rem, Z), 0, 0) _
  refine w_R.go (c' := (20, [(0, .ref 1), (1, .int u), (2, .int x)], [], (I, J, kR w rem, Z), 0, 0)) 1 ?_ (fun m_ x_ Q_ k_ => ⟨trivial, k_⟩)
  refine w_R.ret 2 (.inl (some (.int 0))) (I, J, kR w rem, Z) ?_ (fun x_ Q_ k_ => ⟨trivial, Or.inl rfl, ⟨Nat.le_of_ble_eq_true rfl, Nat.le_of_ble_eq_true rfl⟩, k_⟩)
  exact ⟨rfl, rfl⟩
theorem b_136_0 (u : Int32) (x : Int32) (hu : l_rg u 0 6 = false) : w_R xs Ln 136 (0, [(0, .ref 199), (1, .int u), (2, .int x)], [], (I, J, kR w rem, Z), 0, 0) (fun o s => o = .inl (some (.int 0)) ∧ s = (s_up I 199 59 0, J, kR w rem, Z)) := by
  refine w_R.go (c' := (6, [(0, .ref 199), (1, .int u), (2, .int x)], [.int u], (s_up I 199 59 0, J, kR w rem, Z), 0, 0)) 4 ?_ (fun m_ x_ Q_ k_ => ⟨trivial, trivial, ⟨sh_199, trivial⟩, trivial, k_⟩)
  refine w_R.callS (ce' := 0) (sl' := 0) (v := some (.int (s_b false))) (σ' := (s_up I 199 59 0, J, kR w rem, Z)) (as := [.int u]) (rest := []) (d_109F u hu) ?_ rfl rfl rfl rfl rfl rfl rfl rfl rfl
  show w_R xs Ln 136 (9, [(0, .ref 199), (1, .int u), (2, .int x)], [.int (s_b false)], (s_up I 199 59 0, J, kR w rem, Z), 0, 0) _
  refine w_R.go (c' := (21, [(0, .ref 199), (1, .int u), (2, .int x)], [], (s_up I 199 59 0, J, kR w rem, Z), 0, 0)) 1 ?_ (fun m_ x_ Q_ k_ => ⟨trivial, k_⟩)
  refine w_R.ret 2 (.inl (some (.int 0))) (s_up I 199 59 0, J, kR w rem, Z) ?_ (fun x_ Q_ k_ => ⟨trivial, Or.inl rfl, ⟨Nat.le_of_ble_eq_true rfl, Nat.le_of_ble_eq_true rfl⟩, k_⟩)
  exact ⟨rfl, rfl⟩
theorem b_136_1 (u : Nat) (x : Int32) (hu : u < 6) (hx : l_rg x 0 4 = false) : w_R xs Ln 136 (0, [(0, .ref 199), (1, .int (Int32.ofNat u)), (2, .int x)], [], (I, J, kR w rem, Z), 0, 0) (fun o s => o = .inl (some (.int 0)) ∧ s = (s_up I 199 59 0, J, kR w rem, Z)) := by
  refine w_R.go (c' := (6, [(0, .ref 199), (1, .int (Int32.ofNat u)), (2, .int x)], [.int (Int32.ofNat u)], (s_up I 199 59 0, J, kR w rem, Z), 0, 0)) 4 ?_ (fun m_ x_ Q_ k_ => ⟨trivial, trivial, ⟨sh_199, trivial⟩, trivial, k_⟩)
  refine w_R.callS (ce' := 0) (sl' := 0) (v := some (.int (s_b true))) (σ' := (s_up I 199 59 0, J, kR w rem, Z)) (as := [.int (Int32.ofNat u)]) (rest := []) (d_109N u (by omega)) ?_ rfl rfl rfl rfl rfl rfl rfl rfl rfl
  show w_R xs Ln 136 (9, [(0, .ref 199), (1, .int (Int32.ofNat u)), (2, .int x)], [.int (s_b true)], (s_up I 199 59 0, J, kR w rem, Z), 0, 0) _
  refine w_R.go (c' := (12, [(0, .ref 199), (1, .int (Int32.ofNat u)), (2, .int x)], [], (s_up I 199 59 0, J, kR w rem, Z), 0, 0)) 1 ?_ (fun m_ x_ Q_ k_ => ⟨trivial, k_⟩)
  refine w_R.go (c' := (15, [(0, .ref 199), (1, .int (Int32.ofNat u)), (2, .int x)], [.int 3, .int 0, .int x], (s_up I 199 59 0, J, kR w rem, Z), 0, 0)) 3 ?_ (fun m_ x_ Q_ k_ => ⟨trivial, trivial, trivial, k_⟩)
  refine w_R.callS (ce' := 0) (sl' := 0) (v := some (.int (s_b false))) (σ' := (s_up I 199 59 0, J, kR w rem, Z)) (as := [.int x, .int 0, .int 3]) (rest := []) (d_106F x 0 3 (by decide) (by decide) hx) ?_ rfl rfl rfl rfl rfl rfl rfl rfl rfl
  show w_R xs Ln 136 (18, [(0, .ref 199), (1, .int (Int32.ofNat u)), (2, .int x)], [.int (s_b false)], (s_up I 199 59 0, J, kR w rem, Z), 0, 0) _
  refine w_R.go (c' := (21, [(0, .ref 199), (1, .int (Int32.ofNat u)), (2, .int x)], [], (s_up I 199 59 0, J, kR w rem, Z), 0, 0)) 1 ?_ (fun m_ x_ Q_ k_ => ⟨trivial, k_⟩)
  refine w_R.ret 2 (.inl (some (.int 0))) (s_up I 199 59 0, J, kR w rem, Z) ?_ (fun x_ Q_ k_ => ⟨trivial, Or.inl rfl, ⟨Nat.le_of_ble_eq_true rfl, Nat.le_of_ble_eq_true rfl⟩, k_⟩)
  exact ⟨rfl, rfl⟩
def v_136_00 (I : Nat → Nat → Int32) (J : Nat → Nat → Int64) (Z : Nat → Nat → Bool) (u : Nat) (n : Nat) : Bool := true
def i_136_00 (I : Nat → Nat → Int32) (J : Nat → Nat → Int64) (Z : Nat → Nat → Bool) (u : Nat) (n : Nat) : Nat → Nat → Int32 := i_122 (s_up (s_up I 199 59 0) 210 u 0) J Z u n
theorem d_136_00 (u : Nat) (n : Nat) (hu : u < 6) (hn : n ≤ 48) (hc2 : I 199 44 = Int32.ofNat n) (hs : I 210 u = Int32.ofNat 0) : w_R xs Ln 136 (0, [(0, .ref 199), (1, .int (Int32.ofNat u)), (2, .int 0)], [], (I, J, kR w rem, Z), 0, 0) (fun o s => o = .inl (some (.int (s_b (v_136_00 I J Z u n)))) ∧ s = (i_136_00 I J Z u n, J, kR w rem, Z)) := by
  refine w_R.go (c' := (6, [(0, .ref 199), (1, .int (Int32.ofNat u)), (2, .int 0)], [.int (Int32.ofNat u)], (s_up I 199 59 0, J, kR w rem, Z), 0, 0)) 4 ?_ (fun m_ x_ Q_ k_ => ⟨trivial, trivial, ⟨sh_199, trivial⟩, trivial, k_⟩)
  refine w_R.callS (ce' := 0) (sl' := 0) (v := some (.int (s_b true))) (σ' := (s_up I 199 59 0, J, kR w rem, Z)) (as := [.int (Int32.ofNat u)]) (rest := []) (d_109N u (by omega)) ?_ rfl rfl rfl rfl rfl rfl rfl rfl rfl
  show w_R xs Ln 136 (9, [(0, .ref 199), (1, .int (Int32.ofNat u)), (2, .int 0)], [.int (s_b true)], (s_up I 199 59 0, J, kR w rem, Z), 0, 0) _
  refine w_R.go (c' := (12, [(0, .ref 199), (1, .int (Int32.ofNat u)), (2, .int 0)], [], (s_up I 199 59 0, J, kR w rem, Z), 0, 0)) 1 ?_ (fun m_ x_ Q_ k_ => ⟨trivial, k_⟩)
  refine w_R.go (c' := (15, [(0, .ref 199), (1, .int (Int32.ofNat u)), (2, .int 0)], [.int 3, .int 0, .int 0], (s_up I 199 59 0, J, kR w rem, Z), 0, 0)) 3 ?_ (fun m_ x_ Q_ k_ => ⟨trivial, trivial, trivial, k_⟩)
  refine w_R.callS (ce' := 0) (sl' := 0) (v := some (.int (s_b true))) (σ' := (s_up I 199 59 0, J, kR w rem, Z)) (as := [.int 0, .int 0, .int 3]) (rest := []) (d_106T 0 0 3 (by decide) (by decide) (by decide)) ?_ rfl rfl rfl rfl rfl rfl rfl rfl rfl
  show w_R xs Ln 136 (18, [(0, .ref 199), (1, .int (Int32.ofNat u)), (2, .int 0)], [.int (s_b true)], (s_up I 199 59 0, J, kR w rem, Z), 0, 0) _
  refine w_R.go (c' := (23, [(0, .ref 199), (1, .int (Int32.ofNat u)), (2, .int 0)], [], (s_up I 199 59 0, J, kR w rem, Z), 0, 0)) 1 ?_ (fun m_ x_ Q_ k_ => ⟨trivial, k_⟩)
  refine w_R.go (c' := (29, [(0, .ref 199), (1, .int (Int32.ofNat u)), (2, .int 0)], [.int ((s_up I 199 59 0) 210 (Int32.ofNat u).toNatClampNeg)], (s_up I 199 59 0, J, kR w rem, Z), 0, 0)) 4 ?_ (fun m_ x_ Q_ k_ => ⟨trivial, ⟨sh_199, (Nat.succ_ne_zero 209)⟩, trivial, ⟨_, sh_210, (n_in (a := u) (by omega) (by decide))⟩, k_⟩)
  rw [n_cl (a := u) (by omega)]
  rw [show (s_up I 199 59 0) 210 u = I 210 u from (s_upa (by decide))]
  rw [hs]
  show w_R xs Ln 136 (29, [(0, .ref 199), (1, .int (Int32.ofNat u)), (2, .int 0)], [.int (Int32.ofNat 0)], (s_up I 199 59 0, J, kR w rem, Z), 0, 0) _
  refine w_R.go (c' := (72, [(3, .int (Int32.ofNat 0)), (0, .ref 199), (1, .int (Int32.ofNat u)), (2, .int 0)], [], (s_up I 199 59 0, J, kR w rem, Z), 0, 0)) 4 ?_ (fun m_ x_ Q_ k_ => ⟨trivial, trivial, trivial, trivial, k_⟩)
  refine w_R.go (c' := (86, [(4, .int 1), (3, .int (Int32.ofNat 0)), (0, .ref 199), (1, .int (Int32.ofNat u)), (2, .int 0)], [], (s_up I 199 59 0, J, kR w rem, Z), 0, 0)) 5 ?_ (fun m_ x_ Q_ k_ => ⟨trivial, trivial, trivial, trivial, trivial, k_⟩)
  refine w_R.go (c' := (108, [(4, .int 1), (3, .int (Int32.ofNat 0)), (0, .ref 199), (1, .int (Int32.ofNat u)), (2, .int 0)], [], (s_up I 199 59 0, J, kR w rem, Z), 0, 0)) 3 ?_ (fun m_ x_ Q_ k_ => ⟨trivial, trivial, trivial, k_⟩)
  refine w_R.go (c' := (124, [(4, .int 1), (3, .int (Int32.ofNat 0)), (0, .ref 199), (1, .int (Int32.ofNat u)), (2, .int 0)], [], (s_up I 199 59 0, J, kR w rem, Z), 0, 0)) 3 ?_ (fun m_ x_ Q_ k_ => ⟨trivial, trivial, trivial, k_⟩)
  refine w_R.go (c' := (131, [(4, .int 1), (3, .int (Int32.ofNat 0)), (0, .ref 199), (1, .int (Int32.ofNat u)), (2, .int 0)], [], (s_up (s_up I 199 59 0) 210 ((Int32.ofNat u).toNatClampNeg) 0, J, kR w rem, Z), 0, 0)) 5 ?_ (fun m_ x_ Q_ k_ => ⟨trivial, ⟨sh_199, (Nat.succ_ne_zero 209)⟩, trivial, trivial, ⟨_, sh_210, (n_in (a := u) (by omega) (by decide))⟩, k_⟩)
  rw [n_cl (a := u) (by omega)]
  show w_R xs Ln 136 (131, [(4, .int 1), (3, .int (Int32.ofNat 0)), (0, .ref 199), (1, .int (Int32.ofNat u)), (2, .int 0)], [], (s_up (s_up I 199 59 0) 210 u 0, J, kR w rem, Z), 0, 0) _
  refine w_R.go (c' := (133, [(4, .int 1), (3, .int (Int32.ofNat 0)), (0, .ref 199), (1, .int (Int32.ofNat u)), (2, .int 0)], [.int (Int32.ofNat u), .ref 199], (s_up (s_up I 199 59 0) 210 u 0, J, kR w rem, Z), 0, 0)) 2 ?_ (fun m_ x_ Q_ k_ => ⟨trivial, trivial, k_⟩)
  refine w_R.callV (ce' := 0) (sl' := 0) (v := none) (σ' := (i_122 (s_up (s_up I 199 59 0) 210 u 0) J Z u n, J, kR w rem, Z)) (as := [.ref 199, .int (Int32.ofNat u)]) (rest := []) (d_122 u n (by omega) hn (by first | exact hc2 | (simp (disch := omega) only [s_upf]; exact hc2))) ?_ rfl rfl rfl rfl rfl sh_199 rfl rfl rfl rfl
  show w_R xs Ln 136 (136, [(4, .int 1), (3, .int (Int32.ofNat 0)), (0, .ref 199), (1, .int (Int32.ofNat u)), (2, .int 0)], [], (i_122 (s_up (s_up I 199 59 0) 210 u 0) J Z u n, J, kR w rem, Z), 0, 0) _
  refine w_R.ret 2 (.inl (some (.int 1))) (i_122 (s_up (s_up I 199 59 0) 210 u 0) J Z u n, J, kR w rem, Z) ?_ (fun x_ Q_ k_ => ⟨trivial, Or.inr rfl, ⟨Nat.le_of_ble_eq_true rfl, Nat.le_of_ble_eq_true rfl⟩, k_⟩)
  exact ⟨by rw [show v_136_00 I J Z u n = true from by unfold v_136_00; rfl] <;> rfl, by rw [show i_136_00 I J Z u n = (i_122 (s_up (s_up I 199 59 0) 210 u 0) J Z u n) from by unfold i_136_00; rfl]⟩
theorem d_136_01 (u : Nat) (hu : u < 6) (hs : I 210 u = Int32.ofNat 0) : w_R xs Ln 136 (0, [(0, .ref 199), (1, .int (Int32.ofNat u)), (2, .int 1)], [], (I, J, kR w rem, Z), 0, 0) (fun o s => o = .inl (some (.int 0)) ∧ s = (s_up I 199 59 0, J, kR w rem, Z)) := by
  refine w_R.go (c' := (6, [(0, .ref 199), (1, .int (Int32.ofNat u)), (2, .int 1)], [.int (Int32.ofNat u)], (s_up I 199 59 0, J, kR w rem, Z), 0, 0)) 4 ?_ (fun m_ x_ Q_ k_ => ⟨trivial, trivial, ⟨sh_199, trivial⟩, trivial, k_⟩)
  refine w_R.callS (ce' := 0) (sl' := 0) (v := some (.int (s_b true))) (σ' := (s_up I 199 59 0, J, kR w rem, Z)) (as := [.int (Int32.ofNat u)]) (rest := []) (d_109N u (by omega)) ?_ rfl rfl rfl rfl rfl rfl rfl rfl rfl
  show w_R xs Ln 136 (9, [(0, .ref 199), (1, .int (Int32.ofNat u)), (2, .int 1)], [.int (s_b true)], (s_up I 199 59 0, J, kR w rem, Z), 0, 0) _
  refine w_R.go (c' := (12, [(0, .ref 199), (1, .int (Int32.ofNat u)), (2, .int 1)], [], (s_up I 199 59 0, J, kR w rem, Z), 0, 0)) 1 ?_ (fun m_ x_ Q_ k_ => ⟨trivial, k_⟩)
  refine w_R.go (c' := (15, [(0, .ref 199), (1, .int (Int32.ofNat u)), (2, .int 1)], [.int 3, .int 0, .int 1], (s_up I 199 59 0, J, kR w rem, Z), 0, 0)) 3 ?_ (fun m_ x_ Q_ k_ => ⟨trivial, trivial, trivial, k_⟩)
  refine w_R.callS (ce' := 0) (sl' := 0) (v := some (.int (s_b true))) (σ' := (s_up I 199 59 0, J, kR w rem, Z)) (as := [.int 1, .int 0, .int 3]) (rest := []) (d_106T 1 0 3 (by decide) (by decide) (by decide)) ?_ rfl rfl rfl rfl rfl rfl rfl rfl rfl
  show w_R xs Ln 136 (18, [(0, .ref 199), (1, .int (Int32.ofNat u)), (2, .int 1)], [.int (s_b true)], (s_up I 199 59 0, J, kR w rem, Z), 0, 0) _
  refine w_R.go (c' := (23, [(0, .ref 199), (1, .int (Int32.ofNat u)), (2, .int 1)], [], (s_up I 199 59 0, J, kR w rem, Z), 0, 0)) 1 ?_ (fun m_ x_ Q_ k_ => ⟨trivial, k_⟩)
  refine w_R.go (c' := (29, [(0, .ref 199), (1, .int (Int32.ofNat u)), (2, .int 1)], [.int ((s_up I 199 59 0) 210 (Int32.ofNat u).toNatClampNeg)], (s_up I 199 59 0, J, kR w rem, Z), 0, 0)) 4 ?_ (fun m_ x_ Q_ k_ => ⟨trivial, ⟨sh_199, (Nat.succ_ne_zero 209)⟩, trivial, ⟨_, sh_210, (n_in (a := u) (by omega) (by decide))⟩, k_⟩)
  rw [n_cl (a := u) (by omega)]
  rw [show (s_up I 199 59 0) 210 u = I 210 u from (s_upa (by decide))]
  rw [hs]
  show w_R xs Ln 136 (29, [(0, .ref 199), (1, .int (Int32.ofNat u)), (2, .int 1)], [.int (Int32.ofNat 0)], (s_up I 199 59 0, J, kR w rem, Z), 0, 0) _
  refine w_R.go (c' := (35, [(3, .int (Int32.ofNat 0)), (0, .ref 199), (1, .int (Int32.ofNat u)), (2, .int 1)], [], (s_up I 199 59 0, J, kR w rem, Z), 0, 0)) 4 ?_ (fun m_ x_ Q_ k_ => ⟨trivial, trivial, trivial, trivial, k_⟩)
  refine w_R.go (c' := (39, [(3, .int (Int32.ofNat 0)), (0, .ref 199), (1, .int (Int32.ofNat u)), (2, .int 1)], [], (s_up I 199 59 0, J, kR w rem, Z), 0, 0)) 2 ?_ (fun m_ x_ Q_ k_ => ⟨trivial, trivial, k_⟩)
  refine w_R.go (c' := (44, [(3, .int (Int32.ofNat 0)), (0, .ref 199), (1, .int (Int32.ofNat u)), (2, .int 1)], [], (s_up I 199 59 0, J, kR w rem, Z), 0, 0)) 3 ?_ (fun m_ x_ Q_ k_ => ⟨trivial, trivial, trivial, k_⟩)
  refine w_R.go (c' := (53, [(3, .int (Int32.ofNat 0)), (0, .ref 199), (1, .int (Int32.ofNat u)), (2, .int 1)], [], (s_up I 199 59 0, J, kR w rem, Z), 0, 0)) 3 ?_ (fun m_ x_ Q_ k_ => ⟨trivial, trivial, trivial, k_⟩)
  refine w_R.go (c' := (63, [(3, .int (Int32.ofNat 0)), (0, .ref 199), (1, .int (Int32.ofNat u)), (2, .int 1)], [], (s_up I 199 59 0, J, kR w rem, Z), 0, 0)) 3 ?_ (fun m_ x_ Q_ k_ => ⟨trivial, trivial, trivial, k_⟩)
  refine w_R.go (c' := (76, [(3, .int (Int32.ofNat 0)), (0, .ref 199), (1, .int (Int32.ofNat u)), (2, .int 1)], [], (s_up I 199 59 0, J, kR w rem, Z), 0, 0)) 3 ?_ (fun m_ x_ Q_ k_ => ⟨trivial, trivial, trivial, k_⟩)
  refine w_R.go (c' := (84, [(4, .int 0), (3, .int (Int32.ofNat 0)), (0, .ref 199), (1, .int (Int32.ofNat u)), (2, .int 1)], [], (s_up I 199 59 0, J, kR w rem, Z), 0, 0)) 4 ?_ (fun m_ x_ Q_ k_ => ⟨trivial, trivial, trivial, trivial, k_⟩)
  refine w_R.ret 2 (.inl (some (.int 0))) (s_up I 199 59 0, J, kR w rem, Z) ?_ (fun x_ Q_ k_ => ⟨trivial, Or.inl rfl, ⟨Nat.le_of_ble_eq_true rfl, Nat.le_of_ble_eq_true rfl⟩, k_⟩)
  exact ⟨rfl, rfl⟩
theorem d_136_02 (u : Nat) (hu : u < 6) (hs : I 210 u = Int32.ofNat 0) : w_R xs Ln 136 (0, [(0, .ref 199), (1, .int (Int32.ofNat u)), (2, .int 2)], [], (I, J, kR w rem, Z), 0, 0) (fun o s => o = .inl (some (.int 0)) ∧ s = (s_up I 199 59 0, J, kR w rem, Z)) := by
  refine w_R.go (c' := (6, [(0, .ref 199), (1, .int (Int32.ofNat u)), (2, .int 2)], [.int (Int32.ofNat u)], (s_up I 199 59 0, J, kR w rem, Z), 0, 0)) 4 ?_ (fun m_ x_ Q_ k_ => ⟨trivial, trivial, ⟨sh_199, trivial⟩, trivial, k_⟩)
  refine w_R.callS (ce' := 0) (sl' := 0) (v := some (.int (s_b true))) (σ' := (s_up I 199 59 0, J, kR w rem, Z)) (as := [.int (Int32.ofNat u)]) (rest := []) (d_109N u (by omega)) ?_ rfl rfl rfl rfl rfl rfl rfl rfl rfl
  show w_R xs Ln 136 (9, [(0, .ref 199), (1, .int (Int32.ofNat u)), (2, .int 2)], [.int (s_b true)], (s_up I 199 59 0, J, kR w rem, Z), 0, 0) _
  refine w_R.go (c' := (12, [(0, .ref 199), (1, .int (Int32.ofNat u)), (2, .int 2)], [], (s_up I 199 59 0, J, kR w rem, Z), 0, 0)) 1 ?_ (fun m_ x_ Q_ k_ => ⟨trivial, k_⟩)
  refine w_R.go (c' := (15, [(0, .ref 199), (1, .int (Int32.ofNat u)), (2, .int 2)], [.int 3, .int 0, .int 2], (s_up I 199 59 0, J, kR w rem, Z), 0, 0)) 3 ?_ (fun m_ x_ Q_ k_ => ⟨trivial, trivial, trivial, k_⟩)
  refine w_R.callS (ce' := 0) (sl' := 0) (v := some (.int (s_b true))) (σ' := (s_up I 199 59 0, J, kR w rem, Z)) (as := [.int 2, .int 0, .int 3]) (rest := []) (d_106T 2 0 3 (by decide) (by decide) (by decide)) ?_ rfl rfl rfl rfl rfl rfl rfl rfl rfl
  show w_R xs Ln 136 (18, [(0, .ref 199), (1, .int (Int32.ofNat u)), (2, .int 2)], [.int (s_b true)], (s_up I 199 59 0, J, kR w rem, Z), 0, 0) _
  refine w_R.go (c' := (23, [(0, .ref 199), (1, .int (Int32.ofNat u)), (2, .int 2)], [], (s_up I 199 59 0, J, kR w rem, Z), 0, 0)) 1 ?_ (fun m_ x_ Q_ k_ => ⟨trivial, k_⟩)
  refine w_R.go (c' := (29, [(0, .ref 199), (1, .int (Int32.ofNat u)), (2, .int 2)], [.int ((s_up I 199 59 0) 210 (Int32.ofNat u).toNatClampNeg)], (s_up I 199 59 0, J, kR w rem, Z), 0, 0)) 4 ?_ (fun m_ x_ Q_ k_ => ⟨trivial, ⟨sh_199, (Nat.succ_ne_zero 209)⟩, trivial, ⟨_, sh_210, (n_in (a := u) (by omega) (by decide))⟩, k_⟩)
  rw [n_cl (a := u) (by omega)]
  rw [show (s_up I 199 59 0) 210 u = I 210 u from (s_upa (by decide))]
  rw [hs]
  show w_R xs Ln 136 (29, [(0, .ref 199), (1, .int (Int32.ofNat u)), (2, .int 2)], [.int (Int32.ofNat 0)], (s_up I 199 59 0, J, kR w rem, Z), 0, 0) _
  refine w_R.go (c' := (35, [(3, .int (Int32.ofNat 0)), (0, .ref 199), (1, .int (Int32.ofNat u)), (2, .int 2)], [], (s_up I 199 59 0, J, kR w rem, Z), 0, 0)) 4 ?_ (fun m_ x_ Q_ k_ => ⟨trivial, trivial, trivial, trivial, k_⟩)
  refine w_R.go (c' := (39, [(3, .int (Int32.ofNat 0)), (0, .ref 199), (1, .int (Int32.ofNat u)), (2, .int 2)], [], (s_up I 199 59 0, J, kR w rem, Z), 0, 0)) 2 ?_ (fun m_ x_ Q_ k_ => ⟨trivial, trivial, k_⟩)
  refine w_R.go (c' := (44, [(3, .int (Int32.ofNat 0)), (0, .ref 199), (1, .int (Int32.ofNat u)), (2, .int 2)], [], (s_up I 199 59 0, J, kR w rem, Z), 0, 0)) 3 ?_ (fun m_ x_ Q_ k_ => ⟨trivial, trivial, trivial, k_⟩)
  refine w_R.go (c' := (53, [(3, .int (Int32.ofNat 0)), (0, .ref 199), (1, .int (Int32.ofNat u)), (2, .int 2)], [], (s_up I 199 59 0, J, kR w rem, Z), 0, 0)) 3 ?_ (fun m_ x_ Q_ k_ => ⟨trivial, trivial, trivial, k_⟩)
  refine w_R.go (c' := (63, [(3, .int (Int32.ofNat 0)), (0, .ref 199), (1, .int (Int32.ofNat u)), (2, .int 2)], [], (s_up I 199 59 0, J, kR w rem, Z), 0, 0)) 3 ?_ (fun m_ x_ Q_ k_ => ⟨trivial, trivial, trivial, k_⟩)
  refine w_R.go (c' := (76, [(3, .int (Int32.ofNat 0)), (0, .ref 199), (1, .int (Int32.ofNat u)), (2, .int 2)], [], (s_up I 199 59 0, J, kR w rem, Z), 0, 0)) 3 ?_ (fun m_ x_ Q_ k_ => ⟨trivial, trivial, trivial, k_⟩)
  refine w_R.go (c' := (84, [(4, .int 0), (3, .int (Int32.ofNat 0)), (0, .ref 199), (1, .int (Int32.ofNat u)), (2, .int 2)], [], (s_up I 199 59 0, J, kR w rem, Z), 0, 0)) 4 ?_ (fun m_ x_ Q_ k_ => ⟨trivial, trivial, trivial, trivial, k_⟩)
  refine w_R.ret 2 (.inl (some (.int 0))) (s_up I 199 59 0, J, kR w rem, Z) ?_ (fun x_ Q_ k_ => ⟨trivial, Or.inl rfl, ⟨Nat.le_of_ble_eq_true rfl, Nat.le_of_ble_eq_true rfl⟩, k_⟩)
  exact ⟨rfl, rfl⟩
def v_136_03 (I : Nat → Nat → Int32) (J : Nat → Nat → Int64) (Z : Nat → Nat → Bool) (u : Nat) (n : Nat) : Bool := true
def i_136_03 (I : Nat → Nat → Int32) (J : Nat → Nat → Int64) (Z : Nat → Nat → Bool) (u : Nat) (n : Nat) : Nat → Nat → Int32 := i_122 (s_up (s_up I 199 59 0) 210 u 3) J Z u n
theorem d_136_03 (u : Nat) (n : Nat) (hu : u < 6) (hn : n ≤ 48) (hc2 : I 199 44 = Int32.ofNat n) (hs : I 210 u = Int32.ofNat 0) : w_R xs Ln 136 (0, [(0, .ref 199), (1, .int (Int32.ofNat u)), (2, .int 3)], [], (I, J, kR w rem, Z), 0, 0) (fun o s => o = .inl (some (.int (s_b (v_136_03 I J Z u n)))) ∧ s = (i_136_03 I J Z u n, J, kR w rem, Z)) := by
  refine w_R.go (c' := (6, [(0, .ref 199), (1, .int (Int32.ofNat u)), (2, .int 3)], [.int (Int32.ofNat u)], (s_up I 199 59 0, J, kR w rem, Z), 0, 0)) 4 ?_ (fun m_ x_ Q_ k_ => ⟨trivial, trivial, ⟨sh_199, trivial⟩, trivial, k_⟩)
  refine w_R.callS (ce' := 0) (sl' := 0) (v := some (.int (s_b true))) (σ' := (s_up I 199 59 0, J, kR w rem, Z)) (as := [.int (Int32.ofNat u)]) (rest := []) (d_109N u (by omega)) ?_ rfl rfl rfl rfl rfl rfl rfl rfl rfl
  show w_R xs Ln 136 (9, [(0, .ref 199), (1, .int (Int32.ofNat u)), (2, .int 3)], [.int (s_b true)], (s_up I 199 59 0, J, kR w rem, Z), 0, 0) _
  refine w_R.go (c' := (12, [(0, .ref 199), (1, .int (Int32.ofNat u)), (2, .int 3)], [], (s_up I 199 59 0, J, kR w rem, Z), 0, 0)) 1 ?_ (fun m_ x_ Q_ k_ => ⟨trivial, k_⟩)
  refine w_R.go (c' := (15, [(0, .ref 199), (1, .int (Int32.ofNat u)), (2, .int 3)], [.int 3, .int 0, .int 3], (s_up I 199 59 0, J, kR w rem, Z), 0, 0)) 3 ?_ (fun m_ x_ Q_ k_ => ⟨trivial, trivial, trivial, k_⟩)
  refine w_R.callS (ce' := 0) (sl' := 0) (v := some (.int (s_b true))) (σ' := (s_up I 199 59 0, J, kR w rem, Z)) (as := [.int 3, .int 0, .int 3]) (rest := []) (d_106T 3 0 3 (by decide) (by decide) (by decide)) ?_ rfl rfl rfl rfl rfl rfl rfl rfl rfl
  show w_R xs Ln 136 (18, [(0, .ref 199), (1, .int (Int32.ofNat u)), (2, .int 3)], [.int (s_b true)], (s_up I 199 59 0, J, kR w rem, Z), 0, 0) _
  refine w_R.go (c' := (23, [(0, .ref 199), (1, .int (Int32.ofNat u)), (2, .int 3)], [], (s_up I 199 59 0, J, kR w rem, Z), 0, 0)) 1 ?_ (fun m_ x_ Q_ k_ => ⟨trivial, k_⟩)
  refine w_R.go (c' := (29, [(0, .ref 199), (1, .int (Int32.ofNat u)), (2, .int 3)], [.int ((s_up I 199 59 0) 210 (Int32.ofNat u).toNatClampNeg)], (s_up I 199 59 0, J, kR w rem, Z), 0, 0)) 4 ?_ (fun m_ x_ Q_ k_ => ⟨trivial, ⟨sh_199, (Nat.succ_ne_zero 209)⟩, trivial, ⟨_, sh_210, (n_in (a := u) (by omega) (by decide))⟩, k_⟩)
  rw [n_cl (a := u) (by omega)]
  rw [show (s_up I 199 59 0) 210 u = I 210 u from (s_upa (by decide))]
  rw [hs]
  show w_R xs Ln 136 (29, [(0, .ref 199), (1, .int (Int32.ofNat u)), (2, .int 3)], [.int (Int32.ofNat 0)], (s_up I 199 59 0, J, kR w rem, Z), 0, 0) _
  refine w_R.go (c' := (35, [(3, .int (Int32.ofNat 0)), (0, .ref 199), (1, .int (Int32.ofNat u)), (2, .int 3)], [], (s_up I 199 59 0, J, kR w rem, Z), 0, 0)) 4 ?_ (fun m_ x_ Q_ k_ => ⟨trivial, trivial, trivial, trivial, k_⟩)
  refine w_R.go (c' := (39, [(3, .int (Int32.ofNat 0)), (0, .ref 199), (1, .int (Int32.ofNat u)), (2, .int 3)], [], (s_up I 199 59 0, J, kR w rem, Z), 0, 0)) 2 ?_ (fun m_ x_ Q_ k_ => ⟨trivial, trivial, k_⟩)
  refine w_R.go (c' := (72, [(3, .int (Int32.ofNat 0)), (0, .ref 199), (1, .int (Int32.ofNat u)), (2, .int 3)], [], (s_up I 199 59 0, J, kR w rem, Z), 0, 0)) 3 ?_ (fun m_ x_ Q_ k_ => ⟨trivial, trivial, trivial, k_⟩)
  refine w_R.go (c' := (86, [(4, .int 1), (3, .int (Int32.ofNat 0)), (0, .ref 199), (1, .int (Int32.ofNat u)), (2, .int 3)], [], (s_up I 199 59 0, J, kR w rem, Z), 0, 0)) 5 ?_ (fun m_ x_ Q_ k_ => ⟨trivial, trivial, trivial, trivial, trivial, k_⟩)
  refine w_R.go (c' := (108, [(4, .int 1), (3, .int (Int32.ofNat 0)), (0, .ref 199), (1, .int (Int32.ofNat u)), (2, .int 3)], [], (s_up I 199 59 0, J, kR w rem, Z), 0, 0)) 3 ?_ (fun m_ x_ Q_ k_ => ⟨trivial, trivial, trivial, k_⟩)
  refine w_R.go (c' := (124, [(4, .int 1), (3, .int (Int32.ofNat 0)), (0, .ref 199), (1, .int (Int32.ofNat u)), (2, .int 3)], [], (s_up I 199 59 0, J, kR w rem, Z), 0, 0)) 3 ?_ (fun m_ x_ Q_ k_ => ⟨trivial, trivial, trivial, k_⟩)
  refine w_R.go (c' := (131, [(4, .int 1), (3, .int (Int32.ofNat 0)), (0, .ref 199), (1, .int (Int32.ofNat u)), (2, .int 3)], [], (s_up (s_up I 199 59 0) 210 ((Int32.ofNat u).toNatClampNeg) 3, J, kR w rem, Z), 0, 0)) 5 ?_ (fun m_ x_ Q_ k_ => ⟨trivial, ⟨sh_199, (Nat.succ_ne_zero 209)⟩, trivial, trivial, ⟨_, sh_210, (n_in (a := u) (by omega) (by decide))⟩, k_⟩)
  rw [n_cl (a := u) (by omega)]
  show w_R xs Ln 136 (131, [(4, .int 1), (3, .int (Int32.ofNat 0)), (0, .ref 199), (1, .int (Int32.ofNat u)), (2, .int 3)], [], (s_up (s_up I 199 59 0) 210 u 3, J, kR w rem, Z), 0, 0) _
  refine w_R.go (c' := (133, [(4, .int 1), (3, .int (Int32.ofNat 0)), (0, .ref 199), (1, .int (Int32.ofNat u)), (2, .int 3)], [.int (Int32.ofNat u), .ref 199], (s_up (s_up I 199 59 0) 210 u 3, J, kR w rem, Z), 0, 0)) 2 ?_ (fun m_ x_ Q_ k_ => ⟨trivial, trivial, k_⟩)
  refine w_R.callV (ce' := 0) (sl' := 0) (v := none) (σ' := (i_122 (s_up (s_up I 199 59 0) 210 u 3) J Z u n, J, kR w rem, Z)) (as := [.ref 199, .int (Int32.ofNat u)]) (rest := []) (d_122 u n (by omega) hn (by first | exact hc2 | (simp (disch := omega) only [s_upf]; exact hc2))) ?_ rfl rfl rfl rfl rfl sh_199 rfl rfl rfl rfl
  show w_R xs Ln 136 (136, [(4, .int 1), (3, .int (Int32.ofNat 0)), (0, .ref 199), (1, .int (Int32.ofNat u)), (2, .int 3)], [], (i_122 (s_up (s_up I 199 59 0) 210 u 3) J Z u n, J, kR w rem, Z), 0, 0) _
  refine w_R.ret 2 (.inl (some (.int 1))) (i_122 (s_up (s_up I 199 59 0) 210 u 3) J Z u n, J, kR w rem, Z) ?_ (fun x_ Q_ k_ => ⟨trivial, Or.inr rfl, ⟨Nat.le_of_ble_eq_true rfl, Nat.le_of_ble_eq_true rfl⟩, k_⟩)
  exact ⟨by rw [show v_136_03 I J Z u n = true from by unfold v_136_03; rfl] <;> rfl, by rw [show i_136_03 I J Z u n = (i_122 (s_up (s_up I 199 59 0) 210 u 3) J Z u n) from by unfold i_136_03; rfl]⟩
theorem d_136_10 (u : Nat) (hu : u < 6) (hs : I 210 u = Int32.ofNat 1) : w_R xs Ln 136 (0, [(0, .ref 199), (1, .int (Int32.ofNat u)), (2, .int 0)], [], (I, J, kR w rem, Z), 0, 0) (fun o s => o = .inl (some (.int 0)) ∧ s = (s_up I 199 59 0, J, kR w rem, Z)) := by
  refine w_R.go (c' := (6, [(0, .ref 199), (1, .int (Int32.ofNat u)), (2, .int 0)], [.int (Int32.ofNat u)], (s_up I 199 59 0, J, kR w rem, Z), 0, 0)) 4 ?_ (fun m_ x_ Q_ k_ => ⟨trivial, trivial, ⟨sh_199, trivial⟩, trivial, k_⟩)
  refine w_R.callS (ce' := 0) (sl' := 0) (v := some (.int (s_b true))) (σ' := (s_up I 199 59 0, J, kR w rem, Z)) (as := [.int (Int32.ofNat u)]) (rest := []) (d_109N u (by omega)) ?_ rfl rfl rfl rfl rfl rfl rfl rfl rfl
  show w_R xs Ln 136 (9, [(0, .ref 199), (1, .int (Int32.ofNat u)), (2, .int 0)], [.int (s_b true)], (s_up I 199 59 0, J, kR w rem, Z), 0, 0) _
  refine w_R.go (c' := (12, [(0, .ref 199), (1, .int (Int32.ofNat u)), (2, .int 0)], [], (s_up I 199 59 0, J, kR w rem, Z), 0, 0)) 1 ?_ (fun m_ x_ Q_ k_ => ⟨trivial, k_⟩)
  refine w_R.go (c' := (15, [(0, .ref 199), (1, .int (Int32.ofNat u)), (2, .int 0)], [.int 3, .int 0, .int 0], (s_up I 199 59 0, J, kR w rem, Z), 0, 0)) 3 ?_ (fun m_ x_ Q_ k_ => ⟨trivial, trivial, trivial, k_⟩)
  refine w_R.callS (ce' := 0) (sl' := 0) (v := some (.int (s_b true))) (σ' := (s_up I 199 59 0, J, kR w rem, Z)) (as := [.int 0, .int 0, .int 3]) (rest := []) (d_106T 0 0 3 (by decide) (by decide) (by decide)) ?_ rfl rfl rfl rfl rfl rfl rfl rfl rfl
  show w_R xs Ln 136 (18, [(0, .ref 199), (1, .int (Int32.ofNat u)), (2, .int 0)], [.int (s_b true)], (s_up I 199 59 0, J, kR w rem, Z), 0, 0) _
  refine w_R.go (c' := (23, [(0, .ref 199), (1, .int (Int32.ofNat u)), (2, .int 0)], [], (s_up I 199 59 0, J, kR w rem, Z), 0, 0)) 1 ?_ (fun m_ x_ Q_ k_ => ⟨trivial, k_⟩)
  refine w_R.go (c' := (29, [(0, .ref 199), (1, .int (Int32.ofNat u)), (2, .int 0)], [.int ((s_up I 199 59 0) 210 (Int32.ofNat u).toNatClampNeg)], (s_up I 199 59 0, J, kR w rem, Z), 0, 0)) 4 ?_ (fun m_ x_ Q_ k_ => ⟨trivial, ⟨sh_199, (Nat.succ_ne_zero 209)⟩, trivial, ⟨_, sh_210, (n_in (a := u) (by omega) (by decide))⟩, k_⟩)
  rw [n_cl (a := u) (by omega)]
  rw [show (s_up I 199 59 0) 210 u = I 210 u from (s_upa (by decide))]
  rw [hs]
  show w_R xs Ln 136 (29, [(0, .ref 199), (1, .int (Int32.ofNat u)), (2, .int 0)], [.int (Int32.ofNat 1)], (s_up I 199 59 0, J, kR w rem, Z), 0, 0) _
  refine w_R.go (c' := (35, [(3, .int (Int32.ofNat 1)), (0, .ref 199), (1, .int (Int32.ofNat u)), (2, .int 0)], [], (s_up I 199 59 0, J, kR w rem, Z), 0, 0)) 4 ?_ (fun m_ x_ Q_ k_ => ⟨trivial, trivial, trivial, trivial, k_⟩)
  refine w_R.go (c' := (44, [(3, .int (Int32.ofNat 1)), (0, .ref 199), (1, .int (Int32.ofNat u)), (2, .int 0)], [], (s_up I 199 59 0, J, kR w rem, Z), 0, 0)) 2 ?_ (fun m_ x_ Q_ k_ => ⟨trivial, trivial, k_⟩)
  refine w_R.go (c' := (53, [(3, .int (Int32.ofNat 1)), (0, .ref 199), (1, .int (Int32.ofNat u)), (2, .int 0)], [], (s_up I 199 59 0, J, kR w rem, Z), 0, 0)) 3 ?_ (fun m_ x_ Q_ k_ => ⟨trivial, trivial, trivial, k_⟩)
  refine w_R.go (c' := (58, [(3, .int (Int32.ofNat 1)), (0, .ref 199), (1, .int (Int32.ofNat u)), (2, .int 0)], [], (s_up I 199 59 0, J, kR w rem, Z), 0, 0)) 3 ?_ (fun m_ x_ Q_ k_ => ⟨trivial, trivial, trivial, k_⟩)
  refine w_R.go (c' := (63, [(3, .int (Int32.ofNat 1)), (0, .ref 199), (1, .int (Int32.ofNat u)), (2, .int 0)], [], (s_up I 199 59 0, J, kR w rem, Z), 0, 0)) 3 ?_ (fun m_ x_ Q_ k_ => ⟨trivial, trivial, trivial, k_⟩)
  refine w_R.go (c' := (76, [(3, .int (Int32.ofNat 1)), (0, .ref 199), (1, .int (Int32.ofNat u)), (2, .int 0)], [], (s_up I 199 59 0, J, kR w rem, Z), 0, 0)) 3 ?_ (fun m_ x_ Q_ k_ => ⟨trivial, trivial, trivial, k_⟩)
  refine w_R.go (c' := (84, [(4, .int 0), (3, .int (Int32.ofNat 1)), (0, .ref 199), (1, .int (Int32.ofNat u)), (2, .int 0)], [], (s_up I 199 59 0, J, kR w rem, Z), 0, 0)) 4 ?_ (fun m_ x_ Q_ k_ => ⟨trivial, trivial, trivial, trivial, k_⟩)
  refine w_R.ret 2 (.inl (some (.int 0))) (s_up I 199 59 0, J, kR w rem, Z) ?_ (fun x_ Q_ k_ => ⟨trivial, Or.inl rfl, ⟨Nat.le_of_ble_eq_true rfl, Nat.le_of_ble_eq_true rfl⟩, k_⟩)
  exact ⟨rfl, rfl⟩
def v_136_11 (I : Nat → Nat → Int32) (J : Nat → Nat → Int64) (Z : Nat → Nat → Bool) (u : Nat) (n : Nat) : Bool := true
def i_136_11 (I : Nat → Nat → Int32) (J : Nat → Nat → Int64) (Z : Nat → Nat → Bool) (u : Nat) (n : Nat) : Nat → Nat → Int32 := i_122 (s_up (s_up I 199 59 0) 210 u 1) J Z u n
theorem d_136_11 (u : Nat) (n : Nat) (hu : u < 6) (hn : n ≤ 48) (hc2 : I 199 44 = Int32.ofNat n) (hs : I 210 u = Int32.ofNat 1) : w_R xs Ln 136 (0, [(0, .ref 199), (1, .int (Int32.ofNat u)), (2, .int 1)], [], (I, J, kR w rem, Z), 0, 0) (fun o s => o = .inl (some (.int (s_b (v_136_11 I J Z u n)))) ∧ s = (i_136_11 I J Z u n, J, kR w rem, Z)) := by
  refine w_R.go (c' := (6, [(0, .ref 199), (1, .int (Int32.ofNat u)), (2, .int 1)], [.int (Int32.ofNat u)], (s_up I 199 59 0, J, kR w rem, Z), 0, 0)) 4 ?_ (fun m_ x_ Q_ k_ => ⟨trivial, trivial, ⟨sh_199, trivial⟩, trivial, k_⟩)
  refine w_R.callS (ce' := 0) (sl' := 0) (v := some (.int (s_b true))) (σ' := (s_up I 199 59 0, J, kR w rem, Z)) (as := [.int (Int32.ofNat u)]) (rest := []) (d_109N u (by omega)) ?_ rfl rfl rfl rfl rfl rfl rfl rfl rfl
  show w_R xs Ln 136 (9, [(0, .ref 199), (1, .int (Int32.ofNat u)), (2, .int 1)], [.int (s_b true)], (s_up I 199 59 0, J, kR w rem, Z), 0, 0) _
  refine w_R.go (c' := (12, [(0, .ref 199), (1, .int (Int32.ofNat u)), (2, .int 1)], [], (s_up I 199 59 0, J, kR w rem, Z), 0, 0)) 1 ?_ (fun m_ x_ Q_ k_ => ⟨trivial, k_⟩)
  refine w_R.go (c' := (15, [(0, .ref 199), (1, .int (Int32.ofNat u)), (2, .int 1)], [.int 3, .int 0, .int 1], (s_up I 199 59 0, J, kR w rem, Z), 0, 0)) 3 ?_ (fun m_ x_ Q_ k_ => ⟨trivial, trivial, trivial, k_⟩)
  refine w_R.callS (ce' := 0) (sl' := 0) (v := some (.int (s_b true))) (σ' := (s_up I 199 59 0, J, kR w rem, Z)) (as := [.int 1, .int 0, .int 3]) (rest := []) (d_106T 1 0 3 (by decide) (by decide) (by decide)) ?_ rfl rfl rfl rfl rfl rfl rfl rfl rfl
  show w_R xs Ln 136 (18, [(0, .ref 199), (1, .int (Int32.ofNat u)), (2, .int 1)], [.int (s_b true)], (s_up I 199 59 0, J, kR w rem, Z), 0, 0) _
  refine w_R.go (c' := (23, [(0, .ref 199), (1, .int (Int32.ofNat u)), (2, .int 1)], [], (s_up I 199 59 0, J, kR w rem, Z), 0, 0)) 1 ?_ (fun m_ x_ Q_ k_ => ⟨trivial, k_⟩)
  refine w_R.go (c' := (29, [(0, .ref 199), (1, .int (Int32.ofNat u)), (2, .int 1)], [.int ((s_up I 199 59 0) 210 (Int32.ofNat u).toNatClampNeg)], (s_up I 199 59 0, J, kR w rem, Z), 0, 0)) 4 ?_ (fun m_ x_ Q_ k_ => ⟨trivial, ⟨sh_199, (Nat.succ_ne_zero 209)⟩, trivial, ⟨_, sh_210, (n_in (a := u) (by omega) (by decide))⟩, k_⟩)
  rw [n_cl (a := u) (by omega)]
  rw [show (s_up I 199 59 0) 210 u = I 210 u from (s_upa (by decide))]
  rw [hs]
  show w_R xs Ln 136 (29, [(0, .ref 199), (1, .int (Int32.ofNat u)), (2, .int 1)], [.int (Int32.ofNat 1)], (s_up I 199 59 0, J, kR w rem, Z), 0, 0) _
  refine w_R.go (c' := (72, [(3, .int (Int32.ofNat 1)), (0, .ref 199), (1, .int (Int32.ofNat u)), (2, .int 1)], [], (s_up I 199 59 0, J, kR w rem, Z), 0, 0)) 4 ?_ (fun m_ x_ Q_ k_ => ⟨trivial, trivial, trivial, trivial, k_⟩)
  refine w_R.go (c' := (86, [(4, .int 1), (3, .int (Int32.ofNat 1)), (0, .ref 199), (1, .int (Int32.ofNat u)), (2, .int 1)], [], (s_up I 199 59 0, J, kR w rem, Z), 0, 0)) 5 ?_ (fun m_ x_ Q_ k_ => ⟨trivial, trivial, trivial, trivial, trivial, k_⟩)
  refine w_R.go (c' := (91, [(4, .int 1), (3, .int (Int32.ofNat 1)), (0, .ref 199), (1, .int (Int32.ofNat u)), (2, .int 1)], [], (s_up I 199 59 0, J, kR w rem, Z), 0, 0)) 3 ?_ (fun m_ x_ Q_ k_ => ⟨trivial, trivial, trivial, k_⟩)
  refine w_R.go (c' := (108, [(4, .int 1), (3, .int (Int32.ofNat 1)), (0, .ref 199), (1, .int (Int32.ofNat u)), (2, .int 1)], [], (s_up I 199 59 0, J, kR w rem, Z), 0, 0)) 3 ?_ (fun m_ x_ Q_ k_ => ⟨trivial, trivial, trivial, k_⟩)
  refine w_R.go (c' := (124, [(4, .int 1), (3, .int (Int32.ofNat 1)), (0, .ref 199), (1, .int (Int32.ofNat u)), (2, .int 1)], [], (s_up I 199 59 0, J, kR w rem, Z), 0, 0)) 3 ?_ (fun m_ x_ Q_ k_ => ⟨trivial, trivial, trivial, k_⟩)
  refine w_R.go (c' := (131, [(4, .int 1), (3, .int (Int32.ofNat 1)), (0, .ref 199), (1, .int (Int32.ofNat u)), (2, .int 1)], [], (s_up (s_up I 199 59 0) 210 ((Int32.ofNat u).toNatClampNeg) 1, J, kR w rem, Z), 0, 0)) 5 ?_ (fun m_ x_ Q_ k_ => ⟨trivial, ⟨sh_199, (Nat.succ_ne_zero 209)⟩, trivial, trivial, ⟨_, sh_210, (n_in (a := u) (by omega) (by decide))⟩, k_⟩)
  rw [n_cl (a := u) (by omega)]
  show w_R xs Ln 136 (131, [(4, .int 1), (3, .int (Int32.ofNat 1)), (0, .ref 199), (1, .int (Int32.ofNat u)), (2, .int 1)], [], (s_up (s_up I 199 59 0) 210 u 1, J, kR w rem, Z), 0, 0) _
  refine w_R.go (c' := (133, [(4, .int 1), (3, .int (Int32.ofNat 1)), (0, .ref 199), (1, .int (Int32.ofNat u)), (2, .int 1)], [.int (Int32.ofNat u), .ref 199], (s_up (s_up I 199 59 0) 210 u 1, J, kR w rem, Z), 0, 0)) 2 ?_ (fun m_ x_ Q_ k_ => ⟨trivial, trivial, k_⟩)
  refine w_R.callV (ce' := 0) (sl' := 0) (v := none) (σ' := (i_122 (s_up (s_up I 199 59 0) 210 u 1) J Z u n, J, kR w rem, Z)) (as := [.ref 199, .int (Int32.ofNat u)]) (rest := []) (d_122 u n (by omega) hn (by first | exact hc2 | (simp (disch := omega) only [s_upf]; exact hc2))) ?_ rfl rfl rfl rfl rfl sh_199 rfl rfl rfl rfl
  show w_R xs Ln 136 (136, [(4, .int 1), (3, .int (Int32.ofNat 1)), (0, .ref 199), (1, .int (Int32.ofNat u)), (2, .int 1)], [], (i_122 (s_up (s_up I 199 59 0) 210 u 1) J Z u n, J, kR w rem, Z), 0, 0) _
  refine w_R.ret 2 (.inl (some (.int 1))) (i_122 (s_up (s_up I 199 59 0) 210 u 1) J Z u n, J, kR w rem, Z) ?_ (fun x_ Q_ k_ => ⟨trivial, Or.inr rfl, ⟨Nat.le_of_ble_eq_true rfl, Nat.le_of_ble_eq_true rfl⟩, k_⟩)
  exact ⟨by rw [show v_136_11 I J Z u n = true from by unfold v_136_11; rfl] <;> rfl, by rw [show i_136_11 I J Z u n = (i_122 (s_up (s_up I 199 59 0) 210 u 1) J Z u n) from by unfold i_136_11; rfl]⟩
def v_136_12 (I : Nat → Nat → Int32) (J : Nat → Nat → Int64) (Z : Nat → Nat → Bool) (u : Nat) (n : Nat) : Bool := true
def i_136_12 (I : Nat → Nat → Int32) (J : Nat → Nat → Int64) (Z : Nat → Nat → Bool) (u : Nat) (n : Nat) : Nat → Nat → Int32 := i_122 (s_up (s_up (s_up I 199 59 0) 208 u (I 212 u)) 210 u 2) J Z u n
theorem d_136_12 (u : Nat) (n : Nat) (hu : u < 6) (hn : n ≤ 48) (hc2 : I 199 44 = Int32.ofNat n) (hs : I 210 u = Int32.ofNat 1) : w_R xs Ln 136 (0, [(0, .ref 199), (1, .int (Int32.ofNat u)), (2, .int 2)], [], (I, J, kR w rem, Z), 0, 0) (fun o s => o = .inl (some (.int (s_b (v_136_12 I J Z u n)))) ∧ s = (i_136_12 I J Z u n, J, kR w rem, Z)) := by
  refine w_R.go (c' := (6, [(0, .ref 199), (1, .int (Int32.ofNat u)), (2, .int 2)], [.int (Int32.ofNat u)], (s_up I 199 59 0, J, kR w rem, Z), 0, 0)) 4 ?_ (fun m_ x_ Q_ k_ => ⟨trivial, trivial, ⟨sh_199, trivial⟩, trivial, k_⟩)
  refine w_R.callS (ce' := 0) (sl' := 0) (v := some (.int (s_b true))) (σ' := (s_up I 199 59 0, J, kR w rem, Z)) (as := [.int (Int32.ofNat u)]) (rest := []) (d_109N u (by omega)) ?_ rfl rfl rfl rfl rfl rfl rfl rfl rfl
  show w_R xs Ln 136 (9, [(0, .ref 199), (1, .int (Int32.ofNat u)), (2, .int 2)], [.int (s_b true)], (s_up I 199 59 0, J, kR w rem, Z), 0, 0) _
  refine w_R.go (c' := (12, [(0, .ref 199), (1, .int (Int32.ofNat u)), (2, .int 2)], [], (s_up I 199 59 0, J, kR w rem, Z), 0, 0)) 1 ?_ (fun m_ x_ Q_ k_ => ⟨trivial, k_⟩)
  refine w_R.go (c' := (15, [(0, .ref 199), (1, .int (Int32.ofNat u)), (2, .int 2)], [.int 3, .int 0, .int 2], (s_up I 199 59 0, J, kR w rem, Z), 0, 0)) 3 ?_ (fun m_ x_ Q_ k_ => ⟨trivial, trivial, trivial, k_⟩)
  refine w_R.callS (ce' := 0) (sl' := 0) (v := some (.int (s_b true))) (σ' := (s_up I 199 59 0, J, kR w rem, Z)) (as := [.int 2, .int 0, .int 3]) (rest := []) (d_106T 2 0 3 (by decide) (by decide) (by decide)) ?_ rfl rfl rfl rfl rfl rfl rfl rfl rfl
  show w_R xs Ln 136 (18, [(0, .ref 199), (1, .int (Int32.ofNat u)), (2, .int 2)], [.int (s_b true)], (s_up I 199 59 0, J, kR w rem, Z), 0, 0) _
  refine w_R.go (c' := (23, [(0, .ref 199), (1, .int (Int32.ofNat u)), (2, .int 2)], [], (s_up I 199 59 0, J, kR w rem, Z), 0, 0)) 1 ?_ (fun m_ x_ Q_ k_ => ⟨trivial, k_⟩)
  refine w_R.go (c' := (29, [(0, .ref 199), (1, .int (Int32.ofNat u)), (2, .int 2)], [.int ((s_up I 199 59 0) 210 (Int32.ofNat u).toNatClampNeg)], (s_up I 199 59 0, J, kR w rem, Z), 0, 0)) 4 ?_ (fun m_ x_ Q_ k_ => ⟨trivial, ⟨sh_199, (Nat.succ_ne_zero 209)⟩, trivial, ⟨_, sh_210, (n_in (a := u) (by omega) (by decide))⟩, k_⟩)
  rw [n_cl (a := u) (by omega)]
  rw [show (s_up I 199 59 0) 210 u = I 210 u from (s_upa (by decide))]
  rw [hs]
  show w_R xs Ln 136 (29, [(0, .ref 199), (1, .int (Int32.ofNat u)), (2, .int 2)], [.int (Int32.ofNat 1)], (s_up I 199 59 0, J, kR w rem, Z), 0, 0) _
  refine w_R.go (c' := (35, [(3, .int (Int32.ofNat 1)), (0, .ref 199), (1, .int (Int32.ofNat u)), (2, .int 2)], [], (s_up I 199 59 0, J, kR w rem, Z), 0, 0)) 4 ?_ (fun m_ x_ Q_ k_ => ⟨trivial, trivial, trivial, trivial, k_⟩)
  refine w_R.go (c' := (44, [(3, .int (Int32.ofNat 1)), (0, .ref 199), (1, .int (Int32.ofNat u)), (2, .int 2)], [], (s_up I 199 59 0, J, kR w rem, Z), 0, 0)) 2 ?_ (fun m_ x_ Q_ k_ => ⟨trivial, trivial, k_⟩)
  refine w_R.go (c' := (53, [(3, .int (Int32.ofNat 1)), (0, .ref 199), (1, .int (Int32.ofNat u)), (2, .int 2)], [], (s_up I 199 59 0, J, kR w rem, Z), 0, 0)) 3 ?_ (fun m_ x_ Q_ k_ => ⟨trivial, trivial, trivial, k_⟩)
  refine w_R.go (c' := (58, [(3, .int (Int32.ofNat 1)), (0, .ref 199), (1, .int (Int32.ofNat u)), (2, .int 2)], [], (s_up I 199 59 0, J, kR w rem, Z), 0, 0)) 3 ?_ (fun m_ x_ Q_ k_ => ⟨trivial, trivial, trivial, k_⟩)
  refine w_R.go (c' := (72, [(3, .int (Int32.ofNat 1)), (0, .ref 199), (1, .int (Int32.ofNat u)), (2, .int 2)], [], (s_up I 199 59 0, J, kR w rem, Z), 0, 0)) 3 ?_ (fun m_ x_ Q_ k_ => ⟨trivial, trivial, trivial, k_⟩)
  refine w_R.go (c' := (86, [(4, .int 1), (3, .int (Int32.ofNat 1)), (0, .ref 199), (1, .int (Int32.ofNat u)), (2, .int 2)], [], (s_up I 199 59 0, J, kR w rem, Z), 0, 0)) 5 ?_ (fun m_ x_ Q_ k_ => ⟨trivial, trivial, trivial, trivial, trivial, k_⟩)
  refine w_R.go (c' := (91, [(4, .int 1), (3, .int (Int32.ofNat 1)), (0, .ref 199), (1, .int (Int32.ofNat u)), (2, .int 2)], [], (s_up I 199 59 0, J, kR w rem, Z), 0, 0)) 3 ?_ (fun m_ x_ Q_ k_ => ⟨trivial, trivial, trivial, k_⟩)
  refine w_R.go (c' := (96, [(4, .int 1), (3, .int (Int32.ofNat 1)), (0, .ref 199), (1, .int (Int32.ofNat u)), (2, .int 2)], [], (s_up I 199 59 0, J, kR w rem, Z), 0, 0)) 3 ?_ (fun m_ x_ Q_ k_ => ⟨trivial, trivial, trivial, k_⟩)
  refine w_R.go (c' := (107, [(4, .int 1), (3, .int (Int32.ofNat 1)), (0, .ref 199), (1, .int (Int32.ofNat u)), (2, .int 2)], [.int ((s_up I 199 59 0) 212 (Int32.ofNat u).toNatClampNeg), .int (Int32.ofNat u), .ref 208], (s_up I 199 59 0, J, kR w rem, Z), 0, 0)) 7 ?_ (fun m_ x_ Q_ k_ => ⟨trivial, ⟨sh_199, (Nat.succ_ne_zero 207)⟩, trivial, trivial, ⟨sh_199, (Nat.succ_ne_zero 211)⟩, trivial, ⟨_, sh_212, (n_in (a := u) (by omega) (by decide))⟩, k_⟩)
  rw [n_cl (a := u) (by omega)]
  rw [show (s_up I 199 59 0) 212 u = I 212 u from (s_upa (by decide))]
  show w_R xs Ln 136 (107, [(4, .int 1), (3, .int (Int32.ofNat 1)), (0, .ref 199), (1, .int (Int32.ofNat u)), (2, .int 2)], [.int (I 212 u), .int (Int32.ofNat u), .ref 208], (s_up I 199 59 0, J, kR w rem, Z), 0, 0) _
  refine w_R.go (c' := (108, [(4, .int 1), (3, .int (Int32.ofNat 1)), (0, .ref 199), (1, .int (Int32.ofNat u)), (2, .int 2)], [], (s_up (s_up I 199 59 0) 208 ((Int32.ofNat u).toNatClampNeg) (I 212 u), J, kR w rem, Z), 0, 0)) 1 ?_ (fun m_ x_ Q_ k_ => ⟨⟨_, sh_208, (n_in (a := u) (by omega) (by decide))⟩, k_⟩)
  rw [n_cl (a := u) (by omega)]
  show w_R xs Ln 136 (108, [(4, .int 1), (3, .int (Int32.ofNat 1)), (0, .ref 199), (1, .int (Int32.ofNat u)), (2, .int 2)], [], (s_up (s_up I 199 59 0) 208 u (I 212 u), J, kR w rem, Z), 0, 0) _
  refine w_R.go (c' := (124, [(4, .int 1), (3, .int (Int32.ofNat 1)), (0, .ref 199), (1, .int (Int32.ofNat u)), (2, .int 2)], [], (s_up (s_up I 199 59 0) 208 u (I 212 u), J, kR w rem, Z), 0, 0)) 3 ?_ (fun m_ x_ Q_ k_ => ⟨trivial, trivial, trivial, k_⟩)
  refine w_R.go (c' := (131, [(4, .int 1), (3, .int (Int32.ofNat 1)), (0, .ref 199), (1, .int (Int32.ofNat u)), (2, .int 2)], [], (s_up (s_up (s_up I 199 59 0) 208 u (I 212 u)) 210 ((Int32.ofNat u).toNatClampNeg) 2, J, kR w rem, Z), 0, 0)) 5 ?_ (fun m_ x_ Q_ k_ => ⟨trivial, ⟨sh_199, (Nat.succ_ne_zero 209)⟩, trivial, trivial, ⟨_, sh_210, (n_in (a := u) (by omega) (by decide))⟩, k_⟩)
  rw [n_cl (a := u) (by omega)]
  show w_R xs Ln 136 (131, [(4, .int 1), (3, .int (Int32.ofNat 1)), (0, .ref 199), (1, .int (Int32.ofNat u)), (2, .int 2)], [], (s_up (s_up (s_up I 199 59 0) 208 u (I 212 u)) 210 u 2, J, kR w rem, Z), 0, 0) _
  refine w_R.go (c' := (133, [(4, .int 1), (3, .int (Int32.ofNat 1)), (0, .ref 199), (1, .int (Int32.ofNat u)), (2, .int 2)], [.int (Int32.ofNat u), .ref 199], (s_up (s_up (s_up I 199 59 0) 208 u (I 212 u)) 210 u 2, J, kR w rem, Z), 0, 0)) 2 ?_ (fun m_ x_ Q_ k_ => ⟨trivial, trivial, k_⟩)
  refine w_R.callV (ce' := 0) (sl' := 0) (v := none) (σ' := (i_122 (s_up (s_up (s_up I 199 59 0) 208 u (I 212 u)) 210 u 2) J Z u n, J, kR w rem, Z)) (as := [.ref 199, .int (Int32.ofNat u)]) (rest := []) (d_122 u n (by omega) hn (by first | exact hc2 | (simp (disch := omega) only [s_upf]; exact hc2))) ?_ rfl rfl rfl rfl rfl sh_199 rfl rfl rfl rfl
  show w_R xs Ln 136 (136, [(4, .int 1), (3, .int (Int32.ofNat 1)), (0, .ref 199), (1, .int (Int32.ofNat u)), (2, .int 2)], [], (i_122 (s_up (s_up (s_up I 199 59 0) 208 u (I 212 u)) 210 u 2) J Z u n, J, kR w rem, Z), 0, 0) _
  refine w_R.ret 2 (.inl (some (.int 1))) (i_122 (s_up (s_up (s_up I 199 59 0) 208 u (I 212 u)) 210 u 2) J Z u n, J, kR w rem, Z) ?_ (fun x_ Q_ k_ => ⟨trivial, Or.inr rfl, ⟨Nat.le_of_ble_eq_true rfl, Nat.le_of_ble_eq_true rfl⟩, k_⟩)
  exact ⟨by rw [show v_136_12 I J Z u n = true from by unfold v_136_12; rfl] <;> rfl, by rw [show i_136_12 I J Z u n = (i_122 (s_up (s_up (s_up I 199 59 0) 208 u (I 212 u)) 210 u 2) J Z u n) from by unfold i_136_12; rfl]⟩
theorem d_136_13 (u : Nat) (hu : u < 6) (hs : I 210 u = Int32.ofNat 1) : w_R xs Ln 136 (0, [(0, .ref 199), (1, .int (Int32.ofNat u)), (2, .int 3)], [], (I, J, kR w rem, Z), 0, 0) (fun o s => o = .inl (some (.int 0)) ∧ s = (s_up I 199 59 0, J, kR w rem, Z)) := by
  refine w_R.go (c' := (6, [(0, .ref 199), (1, .int (Int32.ofNat u)), (2, .int 3)], [.int (Int32.ofNat u)], (s_up I 199 59 0, J, kR w rem, Z), 0, 0)) 4 ?_ (fun m_ x_ Q_ k_ => ⟨trivial, trivial, ⟨sh_199, trivial⟩, trivial, k_⟩)
  refine w_R.callS (ce' := 0) (sl' := 0) (v := some (.int (s_b true))) (σ' := (s_up I 199 59 0, J, kR w rem, Z)) (as := [.int (Int32.ofNat u)]) (rest := []) (d_109N u (by omega)) ?_ rfl rfl rfl rfl rfl rfl rfl rfl rfl
  show w_R xs Ln 136 (9, [(0, .ref 199), (1, .int (Int32.ofNat u)), (2, .int 3)], [.int (s_b true)], (s_up I 199 59 0, J, kR w rem, Z), 0, 0) _
  refine w_R.go (c' := (12, [(0, .ref 199), (1, .int (Int32.ofNat u)), (2, .int 3)], [], (s_up I 199 59 0, J, kR w rem, Z), 0, 0)) 1 ?_ (fun m_ x_ Q_ k_ => ⟨trivial, k_⟩)
  refine w_R.go (c' := (15, [(0, .ref 199), (1, .int (Int32.ofNat u)), (2, .int 3)], [.int 3, .int 0, .int 3], (s_up I 199 59 0, J, kR w rem, Z), 0, 0)) 3 ?_ (fun m_ x_ Q_ k_ => ⟨trivial, trivial, trivial, k_⟩)
  refine w_R.callS (ce' := 0) (sl' := 0) (v := some (.int (s_b true))) (σ' := (s_up I 199 59 0, J, kR w rem, Z)) (as := [.int 3, .int 0, .int 3]) (rest := []) (d_106T 3 0 3 (by decide) (by decide) (by decide)) ?_ rfl rfl rfl rfl rfl rfl rfl rfl rfl
  show w_R xs Ln 136 (18, [(0, .ref 199), (1, .int (Int32.ofNat u)), (2, .int 3)], [.int (s_b true)], (s_up I 199 59 0, J, kR w rem, Z), 0, 0) _
  refine w_R.go (c' := (23, [(0, .ref 199), (1, .int (Int32.ofNat u)), (2, .int 3)], [], (s_up I 199 59 0, J, kR w rem, Z), 0, 0)) 1 ?_ (fun m_ x_ Q_ k_ => ⟨trivial, k_⟩)
  refine w_R.go (c' := (29, [(0, .ref 199), (1, .int (Int32.ofNat u)), (2, .int 3)], [.int ((s_up I 199 59 0) 210 (Int32.ofNat u).toNatClampNeg)], (s_up I 199 59 0, J, kR w rem, Z), 0, 0)) 4 ?_ (fun m_ x_ Q_ k_ => ⟨trivial, ⟨sh_199, (Nat.succ_ne_zero 209)⟩, trivial, ⟨_, sh_210, (n_in (a := u) (by omega) (by decide))⟩, k_⟩)
  rw [n_cl (a := u) (by omega)]
  rw [show (s_up I 199 59 0) 210 u = I 210 u from (s_upa (by decide))]
  rw [hs]
  show w_R xs Ln 136 (29, [(0, .ref 199), (1, .int (Int32.ofNat u)), (2, .int 3)], [.int (Int32.ofNat 1)], (s_up I 199 59 0, J, kR w rem, Z), 0, 0) _
  refine w_R.go (c' := (35, [(3, .int (Int32.ofNat 1)), (0, .ref 199), (1, .int (Int32.ofNat u)), (2, .int 3)], [], (s_up I 199 59 0, J, kR w rem, Z), 0, 0)) 4 ?_ (fun m_ x_ Q_ k_ => ⟨trivial, trivial, trivial, trivial, k_⟩)
  refine w_R.go (c' := (44, [(3, .int (Int32.ofNat 1)), (0, .ref 199), (1, .int (Int32.ofNat u)), (2, .int 3)], [], (s_up I 199 59 0, J, kR w rem, Z), 0, 0)) 2 ?_ (fun m_ x_ Q_ k_ => ⟨trivial, trivial, k_⟩)
  refine w_R.go (c' := (53, [(3, .int (Int32.ofNat 1)), (0, .ref 199), (1, .int (Int32.ofNat u)), (2, .int 3)], [], (s_up I 199 59 0, J, kR w rem, Z), 0, 0)) 3 ?_ (fun m_ x_ Q_ k_ => ⟨trivial, trivial, trivial, k_⟩)
  refine w_R.go (c' := (58, [(3, .int (Int32.ofNat 1)), (0, .ref 199), (1, .int (Int32.ofNat u)), (2, .int 3)], [], (s_up I 199 59 0, J, kR w rem, Z), 0, 0)) 3 ?_ (fun m_ x_ Q_ k_ => ⟨trivial, trivial, trivial, k_⟩)
  refine w_R.go (c' := (63, [(3, .int (Int32.ofNat 1)), (0, .ref 199), (1, .int (Int32.ofNat u)), (2, .int 3)], [], (s_up I 199 59 0, J, kR w rem, Z), 0, 0)) 3 ?_ (fun m_ x_ Q_ k_ => ⟨trivial, trivial, trivial, k_⟩)
  refine w_R.go (c' := (76, [(3, .int (Int32.ofNat 1)), (0, .ref 199), (1, .int (Int32.ofNat u)), (2, .int 3)], [], (s_up I 199 59 0, J, kR w rem, Z), 0, 0)) 3 ?_ (fun m_ x_ Q_ k_ => ⟨trivial, trivial, trivial, k_⟩)
  refine w_R.go (c' := (84, [(4, .int 0), (3, .int (Int32.ofNat 1)), (0, .ref 199), (1, .int (Int32.ofNat u)), (2, .int 3)], [], (s_up I 199 59 0, J, kR w rem, Z), 0, 0)) 4 ?_ (fun m_ x_ Q_ k_ => ⟨trivial, trivial, trivial, trivial, k_⟩)
  refine w_R.ret 2 (.inl (some (.int 0))) (s_up I 199 59 0, J, kR w rem, Z) ?_ (fun x_ Q_ k_ => ⟨trivial, Or.inl rfl, ⟨Nat.le_of_ble_eq_true rfl, Nat.le_of_ble_eq_true rfl⟩, k_⟩)
  exact ⟨rfl, rfl⟩
def v_136_20 (I : Nat → Nat → Int32) (J : Nat → Nat → Int64) (Z : Nat → Nat → Bool) (u : Nat) (n : Nat) : Bool := true
def i_136_20 (I : Nat → Nat → Int32) (J : Nat → Nat → Int64) (Z : Nat → Nat → Bool) (u : Nat) (n : Nat) : Nat → Nat → Int32 := i_122 (s_up (s_up (s_up I 199 59 0) 211 u (-1)) 210 u 0) J Z u n
theorem d_136_20 (u : Nat) (n : Nat) (hu : u < 6) (hn : n ≤ 48) (hc2 : I 199 44 = Int32.ofNat n) (hs : I 210 u = Int32.ofNat 2) : w_R xs Ln 136 (0, [(0, .ref 199), (1, .int (Int32.ofNat u)), (2, .int 0)], [], (I, J, kR w rem, Z), 0, 0) (fun o s => o = .inl (some (.int (s_b (v_136_20 I J Z u n)))) ∧ s = (i_136_20 I J Z u n, J, kR w rem, Z)) := by
  refine w_R.go (c' := (6, [(0, .ref 199), (1, .int (Int32.ofNat u)), (2, .int 0)], [.int (Int32.ofNat u)], (s_up I 199 59 0, J, kR w rem, Z), 0, 0)) 4 ?_ (fun m_ x_ Q_ k_ => ⟨trivial, trivial, ⟨sh_199, trivial⟩, trivial, k_⟩)
  refine w_R.callS (ce' := 0) (sl' := 0) (v := some (.int (s_b true))) (σ' := (s_up I 199 59 0, J, kR w rem, Z)) (as := [.int (Int32.ofNat u)]) (rest := []) (d_109N u (by omega)) ?_ rfl rfl rfl rfl rfl rfl rfl rfl rfl
  show w_R xs Ln 136 (9, [(0, .ref 199), (1, .int (Int32.ofNat u)), (2, .int 0)], [.int (s_b true)], (s_up I 199 59 0, J, kR w rem, Z), 0, 0) _
  refine w_R.go (c' := (12, [(0, .ref 199), (1, .int (Int32.ofNat u)), (2, .int 0)], [], (s_up I 199 59 0, J, kR w rem, Z), 0, 0)) 1 ?_ (fun m_ x_ Q_ k_ => ⟨trivial, k_⟩)
  refine w_R.go (c' := (15, [(0, .ref 199), (1, .int (Int32.ofNat u)), (2, .int 0)], [.int 3, .int 0, .int 0], (s_up I 199 59 0, J, kR w rem, Z), 0, 0)) 3 ?_ (fun m_ x_ Q_ k_ => ⟨trivial, trivial, trivial, k_⟩)
  refine w_R.callS (ce' := 0) (sl' := 0) (v := some (.int (s_b true))) (σ' := (s_up I 199 59 0, J, kR w rem, Z)) (as := [.int 0, .int 0, .int 3]) (rest := []) (d_106T 0 0 3 (by decide) (by decide) (by decide)) ?_ rfl rfl rfl rfl rfl rfl rfl rfl rfl
  show w_R xs Ln 136 (18, [(0, .ref 199), (1, .int (Int32.ofNat u)), (2, .int 0)], [.int (s_b true)], (s_up I 199 59 0, J, kR w rem, Z), 0, 0) _
  refine w_R.go (c' := (23, [(0, .ref 199), (1, .int (Int32.ofNat u)), (2, .int 0)], [], (s_up I 199 59 0, J, kR w rem, Z), 0, 0)) 1 ?_ (fun m_ x_ Q_ k_ => ⟨trivial, k_⟩)
  refine w_R.go (c' := (29, [(0, .ref 199), (1, .int (Int32.ofNat u)), (2, .int 0)], [.int ((s_up I 199 59 0) 210 (Int32.ofNat u).toNatClampNeg)], (s_up I 199 59 0, J, kR w rem, Z), 0, 0)) 4 ?_ (fun m_ x_ Q_ k_ => ⟨trivial, ⟨sh_199, (Nat.succ_ne_zero 209)⟩, trivial, ⟨_, sh_210, (n_in (a := u) (by omega) (by decide))⟩, k_⟩)
  rw [n_cl (a := u) (by omega)]
  rw [show (s_up I 199 59 0) 210 u = I 210 u from (s_upa (by decide))]
  rw [hs]
  show w_R xs Ln 136 (29, [(0, .ref 199), (1, .int (Int32.ofNat u)), (2, .int 0)], [.int (Int32.ofNat 2)], (s_up I 199 59 0, J, kR w rem, Z), 0, 0) _
  refine w_R.go (c' := (35, [(3, .int (Int32.ofNat 2)), (0, .ref 199), (1, .int (Int32.ofNat u)), (2, .int 0)], [], (s_up I 199 59 0, J, kR w rem, Z), 0, 0)) 4 ?_ (fun m_ x_ Q_ k_ => ⟨trivial, trivial, trivial, trivial, k_⟩)
  refine w_R.go (c' := (44, [(3, .int (Int32.ofNat 2)), (0, .ref 199), (1, .int (Int32.ofNat u)), (2, .int 0)], [], (s_up I 199 59 0, J, kR w rem, Z), 0, 0)) 2 ?_ (fun m_ x_ Q_ k_ => ⟨trivial, trivial, k_⟩)
  refine w_R.go (c' := (53, [(3, .int (Int32.ofNat 2)), (0, .ref 199), (1, .int (Int32.ofNat u)), (2, .int 0)], [], (s_up I 199 59 0, J, kR w rem, Z), 0, 0)) 3 ?_ (fun m_ x_ Q_ k_ => ⟨trivial, trivial, trivial, k_⟩)
  refine w_R.go (c' := (63, [(3, .int (Int32.ofNat 2)), (0, .ref 199), (1, .int (Int32.ofNat u)), (2, .int 0)], [], (s_up I 199 59 0, J, kR w rem, Z), 0, 0)) 3 ?_ (fun m_ x_ Q_ k_ => ⟨trivial, trivial, trivial, k_⟩)
  refine w_R.go (c' := (68, [(3, .int (Int32.ofNat 2)), (0, .ref 199), (1, .int (Int32.ofNat u)), (2, .int 0)], [], (s_up I 199 59 0, J, kR w rem, Z), 0, 0)) 3 ?_ (fun m_ x_ Q_ k_ => ⟨trivial, trivial, trivial, k_⟩)
  refine w_R.go (c' := (72, [(3, .int (Int32.ofNat 2)), (0, .ref 199), (1, .int (Int32.ofNat u)), (2, .int 0)], [], (s_up I 199 59 0, J, kR w rem, Z), 0, 0)) 2 ?_ (fun m_ x_ Q_ k_ => ⟨trivial, trivial, k_⟩)
  refine w_R.go (c' := (86, [(4, .int 1), (3, .int (Int32.ofNat 2)), (0, .ref 199), (1, .int (Int32.ofNat u)), (2, .int 0)], [], (s_up I 199 59 0, J, kR w rem, Z), 0, 0)) 5 ?_ (fun m_ x_ Q_ k_ => ⟨trivial, trivial, trivial, trivial, trivial, k_⟩)
  refine w_R.go (c' := (108, [(4, .int 1), (3, .int (Int32.ofNat 2)), (0, .ref 199), (1, .int (Int32.ofNat u)), (2, .int 0)], [], (s_up I 199 59 0, J, kR w rem, Z), 0, 0)) 3 ?_ (fun m_ x_ Q_ k_ => ⟨trivial, trivial, trivial, k_⟩)
  refine w_R.go (c' := (113, [(4, .int 1), (3, .int (Int32.ofNat 2)), (0, .ref 199), (1, .int (Int32.ofNat u)), (2, .int 0)], [], (s_up I 199 59 0, J, kR w rem, Z), 0, 0)) 3 ?_ (fun m_ x_ Q_ k_ => ⟨trivial, trivial, trivial, k_⟩)
  refine w_R.go (c' := (117, [(4, .int 1), (3, .int (Int32.ofNat 2)), (0, .ref 199), (1, .int (Int32.ofNat u)), (2, .int 0)], [], (s_up I 199 59 0, J, kR w rem, Z), 0, 0)) 2 ?_ (fun m_ x_ Q_ k_ => ⟨trivial, trivial, k_⟩)
  refine w_R.go (c' := (124, [(4, .int 1), (3, .int (Int32.ofNat 2)), (0, .ref 199), (1, .int (Int32.ofNat u)), (2, .int 0)], [], (s_up (s_up I 199 59 0) 211 ((Int32.ofNat u).toNatClampNeg) (-1), J, kR w rem, Z), 0, 0)) 5 ?_ (fun m_ x_ Q_ k_ => ⟨trivial, ⟨sh_199, (Nat.succ_ne_zero 210)⟩, trivial, trivial, ⟨_, sh_211, (n_in (a := u) (by omega) (by decide))⟩, k_⟩)
  rw [n_cl (a := u) (by omega)]
  show w_R xs Ln 136 (124, [(4, .int 1), (3, .int (Int32.ofNat 2)), (0, .ref 199), (1, .int (Int32.ofNat u)), (2, .int 0)], [], (s_up (s_up I 199 59 0) 211 u (-1), J, kR w rem, Z), 0, 0) _
  refine w_R.go (c' := (131, [(4, .int 1), (3, .int (Int32.ofNat 2)), (0, .ref 199), (1, .int (Int32.ofNat u)), (2, .int 0)], [], (s_up (s_up (s_up I 199 59 0) 211 u (-1)) 210 ((Int32.ofNat u).toNatClampNeg) 0, J, kR w rem, Z), 0, 0)) 5 ?_ (fun m_ x_ Q_ k_ => ⟨trivial, ⟨sh_199, (Nat.succ_ne_zero 209)⟩, trivial, trivial, ⟨_, sh_210, (n_in (a := u) (by omega) (by decide))⟩, k_⟩)
  rw [n_cl (a := u) (by omega)]
  show w_R xs Ln 136 (131, [(4, .int 1), (3, .int (Int32.ofNat 2)), (0, .ref 199), (1, .int (Int32.ofNat u)), (2, .int 0)], [], (s_up (s_up (s_up I 199 59 0) 211 u (-1)) 210 u 0, J, kR w rem, Z), 0, 0) _
  refine w_R.go (c' := (133, [(4, .int 1), (3, .int (Int32.ofNat 2)), (0, .ref 199), (1, .int (Int32.ofNat u)), (2, .int 0)], [.int (Int32.ofNat u), .ref 199], (s_up (s_up (s_up I 199 59 0) 211 u (-1)) 210 u 0, J, kR w rem, Z), 0, 0)) 2 ?_ (fun m_ x_ Q_ k_ => ⟨trivial, trivial, k_⟩)
  refine w_R.callV (ce' := 0) (sl' := 0) (v := none) (σ' := (i_122 (s_up (s_up (s_up I 199 59 0) 211 u (-1)) 210 u 0) J Z u n, J, kR w rem, Z)) (as := [.ref 199, .int (Int32.ofNat u)]) (rest := []) (d_122 u n (by omega) hn (by first | exact hc2 | (simp (disch := omega) only [s_upf]; exact hc2))) ?_ rfl rfl rfl rfl rfl sh_199 rfl rfl rfl rfl
  show w_R xs Ln 136 (136, [(4, .int 1), (3, .int (Int32.ofNat 2)), (0, .ref 199), (1, .int (Int32.ofNat u)), (2, .int 0)], [], (i_122 (s_up (s_up (s_up I 199 59 0) 211 u (-1)) 210 u 0) J Z u n, J, kR w rem, Z), 0, 0) _
  refine w_R.ret 2 (.inl (some (.int 1))) (i_122 (s_up (s_up (s_up I 199 59 0) 211 u (-1)) 210 u 0) J Z u n, J, kR w rem, Z) ?_ (fun x_ Q_ k_ => ⟨trivial, Or.inr rfl, ⟨Nat.le_of_ble_eq_true rfl, Nat.le_of_ble_eq_true rfl⟩, k_⟩)
  exact ⟨by rw [show v_136_20 I J Z u n = true from by unfold v_136_20; rfl] <;> rfl, by rw [show i_136_20 I J Z u n = (i_122 (s_up (s_up (s_up I 199 59 0) 211 u (-1)) 210 u 0) J Z u n) from by unfold i_136_20; rfl]⟩
theorem d_136_21 (u : Nat) (hu : u < 6) (hs : I 210 u = Int32.ofNat 2) : w_R xs Ln 136 (0, [(0, .ref 199), (1, .int (Int32.ofNat u)), (2, .int 1)], [], (I, J, kR w rem, Z), 0, 0) (fun o s => o = .inl (some (.int 0)) ∧ s = (s_up I 199 59 0, J, kR w rem, Z)) := by
  refine w_R.go (c' := (6, [(0, .ref 199), (1, .int (Int32.ofNat u)), (2, .int 1)], [.int (Int32.ofNat u)], (s_up I 199 59 0, J, kR w rem, Z), 0, 0)) 4 ?_ (fun m_ x_ Q_ k_ => ⟨trivial, trivial, ⟨sh_199, trivial⟩, trivial, k_⟩)
  refine w_R.callS (ce' := 0) (sl' := 0) (v := some (.int (s_b true))) (σ' := (s_up I 199 59 0, J, kR w rem, Z)) (as := [.int (Int32.ofNat u)]) (rest := []) (d_109N u (by omega)) ?_ rfl rfl rfl rfl rfl rfl rfl rfl rfl
  show w_R xs Ln 136 (9, [(0, .ref 199), (1, .int (Int32.ofNat u)), (2, .int 1)], [.int (s_b true)], (s_up I 199 59 0, J, kR w rem, Z), 0, 0) _
  refine w_R.go (c' := (12, [(0, .ref 199), (1, .int (Int32.ofNat u)), (2, .int 1)], [], (s_up I 199 59 0, J, kR w rem, Z), 0, 0)) 1 ?_ (fun m_ x_ Q_ k_ => ⟨trivial, k_⟩)
  refine w_R.go (c' := (15, [(0, .ref 199), (1, .int (Int32.ofNat u)), (2, .int 1)], [.int 3, .int 0, .int 1], (s_up I 199 59 0, J, kR w rem, Z), 0, 0)) 3 ?_ (fun m_ x_ Q_ k_ => ⟨trivial, trivial, trivial, k_⟩)
  refine w_R.callS (ce' := 0) (sl' := 0) (v := some (.int (s_b true))) (σ' := (s_up I 199 59 0, J, kR w rem, Z)) (as := [.int 1, .int 0, .int 3]) (rest := []) (d_106T 1 0 3 (by decide) (by decide) (by decide)) ?_ rfl rfl rfl rfl rfl rfl rfl rfl rfl
  show w_R xs Ln 136 (18, [(0, .ref 199), (1, .int (Int32.ofNat u)), (2, .int 1)], [.int (s_b true)], (s_up I 199 59 0, J, kR w rem, Z), 0, 0) _
  refine w_R.go (c' := (23, [(0, .ref 199), (1, .int (Int32.ofNat u)), (2, .int 1)], [], (s_up I 199 59 0, J, kR w rem, Z), 0, 0)) 1 ?_ (fun m_ x_ Q_ k_ => ⟨trivial, k_⟩)
  refine w_R.go (c' := (29, [(0, .ref 199), (1, .int (Int32.ofNat u)), (2, .int 1)], [.int ((s_up I 199 59 0) 210 (Int32.ofNat u).toNatClampNeg)], (s_up I 199 59 0, J, kR w rem, Z), 0, 0)) 4 ?_ (fun m_ x_ Q_ k_ => ⟨trivial, ⟨sh_199, (Nat.succ_ne_zero 209)⟩, trivial, ⟨_, sh_210, (n_in (a := u) (by omega) (by decide))⟩, k_⟩)
  rw [n_cl (a := u) (by omega)]
  rw [show (s_up I 199 59 0) 210 u = I 210 u from (s_upa (by decide))]
  rw [hs]
  show w_R xs Ln 136 (29, [(0, .ref 199), (1, .int (Int32.ofNat u)), (2, .int 1)], [.int (Int32.ofNat 2)], (s_up I 199 59 0, J, kR w rem, Z), 0, 0) _
  refine w_R.go (c' := (35, [(3, .int (Int32.ofNat 2)), (0, .ref 199), (1, .int (Int32.ofNat u)), (2, .int 1)], [], (s_up I 199 59 0, J, kR w rem, Z), 0, 0)) 4 ?_ (fun m_ x_ Q_ k_ => ⟨trivial, trivial, trivial, trivial, k_⟩)
  refine w_R.go (c' := (44, [(3, .int (Int32.ofNat 2)), (0, .ref 199), (1, .int (Int32.ofNat u)), (2, .int 1)], [], (s_up I 199 59 0, J, kR w rem, Z), 0, 0)) 2 ?_ (fun m_ x_ Q_ k_ => ⟨trivial, trivial, k_⟩)
  refine w_R.go (c' := (53, [(3, .int (Int32.ofNat 2)), (0, .ref 199), (1, .int (Int32.ofNat u)), (2, .int 1)], [], (s_up I 199 59 0, J, kR w rem, Z), 0, 0)) 3 ?_ (fun m_ x_ Q_ k_ => ⟨trivial, trivial, trivial, k_⟩)
  refine w_R.go (c' := (63, [(3, .int (Int32.ofNat 2)), (0, .ref 199), (1, .int (Int32.ofNat u)), (2, .int 1)], [], (s_up I 199 59 0, J, kR w rem, Z), 0, 0)) 3 ?_ (fun m_ x_ Q_ k_ => ⟨trivial, trivial, trivial, k_⟩)
  refine w_R.go (c' := (68, [(3, .int (Int32.ofNat 2)), (0, .ref 199), (1, .int (Int32.ofNat u)), (2, .int 1)], [], (s_up I 199 59 0, J, kR w rem, Z), 0, 0)) 3 ?_ (fun m_ x_ Q_ k_ => ⟨trivial, trivial, trivial, k_⟩)
  refine w_R.go (c' := (76, [(3, .int (Int32.ofNat 2)), (0, .ref 199), (1, .int (Int32.ofNat u)), (2, .int 1)], [], (s_up I 199 59 0, J, kR w rem, Z), 0, 0)) 2 ?_ (fun m_ x_ Q_ k_ => ⟨trivial, trivial, k_⟩)
  refine w_R.go (c' := (84, [(4, .int 0), (3, .int (Int32.ofNat 2)), (0, .ref 199), (1, .int (Int32.ofNat u)), (2, .int 1)], [], (s_up I 199 59 0, J, kR w rem, Z), 0, 0)) 4 ?_ (fun m_ x_ Q_ k_ => ⟨trivial, trivial, trivial, trivial, k_⟩)
  refine w_R.ret 2 (.inl (some (.int 0))) (s_up I 199 59 0, J, kR w rem, Z) ?_ (fun x_ Q_ k_ => ⟨trivial, Or.inl rfl, ⟨Nat.le_of_ble_eq_true rfl, Nat.le_of_ble_eq_true rfl⟩, k_⟩)
  exact ⟨rfl, rfl⟩
def v_136_22 (I : Nat → Nat → Int32) (J : Nat → Nat → Int64) (Z : Nat → Nat → Bool) (u : Nat) (n : Nat) : Bool := true
def i_136_22 (I : Nat → Nat → Int32) (J : Nat → Nat → Int64) (Z : Nat → Nat → Bool) (u : Nat) (n : Nat) : Nat → Nat → Int32 := i_122 (s_up (s_up I 199 59 0) 210 u 2) J Z u n
theorem d_136_22 (u : Nat) (n : Nat) (hu : u < 6) (hn : n ≤ 48) (hc2 : I 199 44 = Int32.ofNat n) (hs : I 210 u = Int32.ofNat 2) : w_R xs Ln 136 (0, [(0, .ref 199), (1, .int (Int32.ofNat u)), (2, .int 2)], [], (I, J, kR w rem, Z), 0, 0) (fun o s => o = .inl (some (.int (s_b (v_136_22 I J Z u n)))) ∧ s = (i_136_22 I J Z u n, J, kR w rem, Z)) := by
  refine w_R.go (c' := (6, [(0, .ref 199), (1, .int (Int32.ofNat u)), (2, .int 2)], [.int (Int32.ofNat u)], (s_up I 199 59 0, J, kR w rem, Z), 0, 0)) 4 ?_ (fun m_ x_ Q_ k_ => ⟨trivial, trivial, ⟨sh_199, trivial⟩, trivial, k_⟩)
  refine w_R.callS (ce' := 0) (sl' := 0) (v := some (.int (s_b true))) (σ' := (s_up I 199 59 0, J, kR w rem, Z)) (as := [.int (Int32.ofNat u)]) (rest := []) (d_109N u (by omega)) ?_ rfl rfl rfl rfl rfl rfl rfl rfl rfl
  show w_R xs Ln 136 (9, [(0, .ref 199), (1, .int (Int32.ofNat u)), (2, .int 2)], [.int (s_b true)], (s_up I 199 59 0, J, kR w rem, Z), 0, 0) _
  refine w_R.go (c' := (12, [(0, .ref 199), (1, .int (Int32.ofNat u)), (2, .int 2)], [], (s_up I 199 59 0, J, kR w rem, Z), 0, 0)) 1 ?_ (fun m_ x_ Q_ k_ => ⟨trivial, k_⟩)
  refine w_R.go (c' := (15, [(0, .ref 199), (1, .int (Int32.ofNat u)), (2, .int 2)], [.int 3, .int 0, .int 2], (s_up I 199 59 0, J, kR w rem, Z), 0, 0)) 3 ?_ (fun m_ x_ Q_ k_ => ⟨trivial, trivial, trivial, k_⟩)
  refine w_R.callS (ce' := 0) (sl' := 0) (v := some (.int (s_b true))) (σ' := (s_up I 199 59 0, J, kR w rem, Z)) (as := [.int 2, .int 0, .int 3]) (rest := []) (d_106T 2 0 3 (by decide) (by decide) (by decide)) ?_ rfl rfl rfl rfl rfl rfl rfl rfl rfl
  show w_R xs Ln 136 (18, [(0, .ref 199), (1, .int (Int32.ofNat u)), (2, .int 2)], [.int (s_b true)], (s_up I 199 59 0, J, kR w rem, Z), 0, 0) _
  refine w_R.go (c' := (23, [(0, .ref 199), (1, .int (Int32.ofNat u)), (2, .int 2)], [], (s_up I 199 59 0, J, kR w rem, Z), 0, 0)) 1 ?_ (fun m_ x_ Q_ k_ => ⟨trivial, k_⟩)
  refine w_R.go (c' := (29, [(0, .ref 199), (1, .int (Int32.ofNat u)), (2, .int 2)], [.int ((s_up I 199 59 0) 210 (Int32.ofNat u).toNatClampNeg)], (s_up I 199 59 0, J, kR w rem, Z), 0, 0)) 4 ?_ (fun m_ x_ Q_ k_ => ⟨trivial, ⟨sh_199, (Nat.succ_ne_zero 209)⟩, trivial, ⟨_, sh_210, (n_in (a := u) (by omega) (by decide))⟩, k_⟩)
  rw [n_cl (a := u) (by omega)]
  rw [show (s_up I 199 59 0) 210 u = I 210 u from (s_upa (by decide))]
  rw [hs]
  show w_R xs Ln 136 (29, [(0, .ref 199), (1, .int (Int32.ofNat u)), (2, .int 2)], [.int (Int32.ofNat 2)], (s_up I 199 59 0, J, kR w rem, Z), 0, 0) _
  refine w_R.go (c' := (72, [(3, .int (Int32.ofNat 2)), (0, .ref 199), (1, .int (Int32.ofNat u)), (2, .int 2)], [], (s_up I 199 59 0, J, kR w rem, Z), 0, 0)) 4 ?_ (fun m_ x_ Q_ k_ => ⟨trivial, trivial, trivial, trivial, k_⟩)
  refine w_R.go (c' := (86, [(4, .int 1), (3, .int (Int32.ofNat 2)), (0, .ref 199), (1, .int (Int32.ofNat u)), (2, .int 2)], [], (s_up I 199 59 0, J, kR w rem, Z), 0, 0)) 5 ?_ (fun m_ x_ Q_ k_ => ⟨trivial, trivial, trivial, trivial, trivial, k_⟩)
  refine w_R.go (c' := (108, [(4, .int 1), (3, .int (Int32.ofNat 2)), (0, .ref 199), (1, .int (Int32.ofNat u)), (2, .int 2)], [], (s_up I 199 59 0, J, kR w rem, Z), 0, 0)) 3 ?_ (fun m_ x_ Q_ k_ => ⟨trivial, trivial, trivial, k_⟩)
  refine w_R.go (c' := (113, [(4, .int 1), (3, .int (Int32.ofNat 2)), (0, .ref 199), (1, .int (Int32.ofNat u)), (2, .int 2)], [], (s_up I 199 59 0, J, kR w rem, Z), 0, 0)) 3 ?_ (fun m_ x_ Q_ k_ => ⟨trivial, trivial, trivial, k_⟩)
  refine w_R.go (c' := (124, [(4, .int 1), (3, .int (Int32.ofNat 2)), (0, .ref 199), (1, .int (Int32.ofNat u)), (2, .int 2)], [], (s_up I 199 59 0, J, kR w rem, Z), 0, 0)) 2 ?_ (fun m_ x_ Q_ k_ => ⟨trivial, trivial, k_⟩)
  refine w_R.go (c' := (131, [(4, .int 1), (3, .int (Int32.ofNat 2)), (0, .ref 199), (1, .int (Int32.ofNat u)), (2, .int 2)], [], (s_up (s_up I 199 59 0) 210 ((Int32.ofNat u).toNatClampNeg) 2, J, kR w rem, Z), 0, 0)) 5 ?_ (fun m_ x_ Q_ k_ => ⟨trivial, ⟨sh_199, (Nat.succ_ne_zero 209)⟩, trivial, trivial, ⟨_, sh_210, (n_in (a := u) (by omega) (by decide))⟩, k_⟩)
  rw [n_cl (a := u) (by omega)]
  show w_R xs Ln 136 (131, [(4, .int 1), (3, .int (Int32.ofNat 2)), (0, .ref 199), (1, .int (Int32.ofNat u)), (2, .int 2)], [], (s_up (s_up I 199 59 0) 210 u 2, J, kR w rem, Z), 0, 0) _
  refine w_R.go (c' := (133, [(4, .int 1), (3, .int (Int32.ofNat 2)), (0, .ref 199), (1, .int (Int32.ofNat u)), (2, .int 2)], [.int (Int32.ofNat u), .ref 199], (s_up (s_up I 199 59 0) 210 u 2, J, kR w rem, Z), 0, 0)) 2 ?_ (fun m_ x_ Q_ k_ => ⟨trivial, trivial, k_⟩)
  refine w_R.callV (ce' := 0) (sl' := 0) (v := none) (σ' := (i_122 (s_up (s_up I 199 59 0) 210 u 2) J Z u n, J, kR w rem, Z)) (as := [.ref 199, .int (Int32.ofNat u)]) (rest := []) (d_122 u n (by omega) hn (by first | exact hc2 | (simp (disch := omega) only [s_upf]; exact hc2))) ?_ rfl rfl rfl rfl rfl sh_199 rfl rfl rfl rfl
  show w_R xs Ln 136 (136, [(4, .int 1), (3, .int (Int32.ofNat 2)), (0, .ref 199), (1, .int (Int32.ofNat u)), (2, .int 2)], [], (i_122 (s_up (s_up I 199 59 0) 210 u 2) J Z u n, J, kR w rem, Z), 0, 0) _
  refine w_R.ret 2 (.inl (some (.int 1))) (i_122 (s_up (s_up I 199 59 0) 210 u 2) J Z u n, J, kR w rem, Z) ?_ (fun x_ Q_ k_ => ⟨trivial, Or.inr rfl, ⟨Nat.le_of_ble_eq_true rfl, Nat.le_of_ble_eq_true rfl⟩, k_⟩)
  exact ⟨by rw [show v_136_22 I J Z u n = true from by unfold v_136_22; rfl] <;> rfl, by rw [show i_136_22 I J Z u n = (i_122 (s_up (s_up I 199 59 0) 210 u 2) J Z u n) from by unfold i_136_22; rfl]⟩
theorem d_136_23 (u : Nat) (hu : u < 6) (hs : I 210 u = Int32.ofNat 2) : w_R xs Ln 136 (0, [(0, .ref 199), (1, .int (Int32.ofNat u)), (2, .int 3)], [], (I, J, kR w rem, Z), 0, 0) (fun o s => o = .inl (some (.int 0)) ∧ s = (s_up I 199 59 0, J, kR w rem, Z)) := by
  refine w_R.go (c' := (6, [(0, .ref 199), (1, .int (Int32.ofNat u)), (2, .int 3)], [.int (Int32.ofNat u)], (s_up I 199 59 0, J, kR w rem, Z), 0, 0)) 4 ?_ (fun m_ x_ Q_ k_ => ⟨trivial, trivial, ⟨sh_199, trivial⟩, trivial, k_⟩)
  refine w_R.callS (ce' := 0) (sl' := 0) (v := some (.int (s_b true))) (σ' := (s_up I 199 59 0, J, kR w rem, Z)) (as := [.int (Int32.ofNat u)]) (rest := []) (d_109N u (by omega)) ?_ rfl rfl rfl rfl rfl rfl rfl rfl rfl
  show w_R xs Ln 136 (9, [(0, .ref 199), (1, .int (Int32.ofNat u)), (2, .int 3)], [.int (s_b true)], (s_up I 199 59 0, J, kR w rem, Z), 0, 0) _
  refine w_R.go (c' := (12, [(0, .ref 199), (1, .int (Int32.ofNat u)), (2, .int 3)], [], (s_up I 199 59 0, J, kR w rem, Z), 0, 0)) 1 ?_ (fun m_ x_ Q_ k_ => ⟨trivial, k_⟩)
  refine w_R.go (c' := (15, [(0, .ref 199), (1, .int (Int32.ofNat u)), (2, .int 3)], [.int 3, .int 0, .int 3], (s_up I 199 59 0, J, kR w rem, Z), 0, 0)) 3 ?_ (fun m_ x_ Q_ k_ => ⟨trivial, trivial, trivial, k_⟩)
  refine w_R.callS (ce' := 0) (sl' := 0) (v := some (.int (s_b true))) (σ' := (s_up I 199 59 0, J, kR w rem, Z)) (as := [.int 3, .int 0, .int 3]) (rest := []) (d_106T 3 0 3 (by decide) (by decide) (by decide)) ?_ rfl rfl rfl rfl rfl rfl rfl rfl rfl
  show w_R xs Ln 136 (18, [(0, .ref 199), (1, .int (Int32.ofNat u)), (2, .int 3)], [.int (s_b true)], (s_up I 199 59 0, J, kR w rem, Z), 0, 0) _
  refine w_R.go (c' := (23, [(0, .ref 199), (1, .int (Int32.ofNat u)), (2, .int 3)], [], (s_up I 199 59 0, J, kR w rem, Z), 0, 0)) 1 ?_ (fun m_ x_ Q_ k_ => ⟨trivial, k_⟩)
  refine w_R.go (c' := (29, [(0, .ref 199), (1, .int (Int32.ofNat u)), (2, .int 3)], [.int ((s_up I 199 59 0) 210 (Int32.ofNat u).toNatClampNeg)], (s_up I 199 59 0, J, kR w rem, Z), 0, 0)) 4 ?_ (fun m_ x_ Q_ k_ => ⟨trivial, ⟨sh_199, (Nat.succ_ne_zero 209)⟩, trivial, ⟨_, sh_210, (n_in (a := u) (by omega) (by decide))⟩, k_⟩)
  rw [n_cl (a := u) (by omega)]
  rw [show (s_up I 199 59 0) 210 u = I 210 u from (s_upa (by decide))]
  rw [hs]
  show w_R xs Ln 136 (29, [(0, .ref 199), (1, .int (Int32.ofNat u)), (2, .int 3)], [.int (Int32.ofNat 2)], (s_up I 199 59 0, J, kR w rem, Z), 0, 0) _
  refine w_R.go (c' := (35, [(3, .int (Int32.ofNat 2)), (0, .ref 199), (1, .int (Int32.ofNat u)), (2, .int 3)], [], (s_up I 199 59 0, J, kR w rem, Z), 0, 0)) 4 ?_ (fun m_ x_ Q_ k_ => ⟨trivial, trivial, trivial, trivial, k_⟩)
  refine w_R.go (c' := (44, [(3, .int (Int32.ofNat 2)), (0, .ref 199), (1, .int (Int32.ofNat u)), (2, .int 3)], [], (s_up I 199 59 0, J, kR w rem, Z), 0, 0)) 2 ?_ (fun m_ x_ Q_ k_ => ⟨trivial, trivial, k_⟩)
  refine w_R.go (c' := (53, [(3, .int (Int32.ofNat 2)), (0, .ref 199), (1, .int (Int32.ofNat u)), (2, .int 3)], [], (s_up I 199 59 0, J, kR w rem, Z), 0, 0)) 3 ?_ (fun m_ x_ Q_ k_ => ⟨trivial, trivial, trivial, k_⟩)
  refine w_R.go (c' := (63, [(3, .int (Int32.ofNat 2)), (0, .ref 199), (1, .int (Int32.ofNat u)), (2, .int 3)], [], (s_up I 199 59 0, J, kR w rem, Z), 0, 0)) 3 ?_ (fun m_ x_ Q_ k_ => ⟨trivial, trivial, trivial, k_⟩)
  refine w_R.go (c' := (68, [(3, .int (Int32.ofNat 2)), (0, .ref 199), (1, .int (Int32.ofNat u)), (2, .int 3)], [], (s_up I 199 59 0, J, kR w rem, Z), 0, 0)) 3 ?_ (fun m_ x_ Q_ k_ => ⟨trivial, trivial, trivial, k_⟩)
  refine w_R.go (c' := (76, [(3, .int (Int32.ofNat 2)), (0, .ref 199), (1, .int (Int32.ofNat u)), (2, .int 3)], [], (s_up I 199 59 0, J, kR w rem, Z), 0, 0)) 2 ?_ (fun m_ x_ Q_ k_ => ⟨trivial, trivial, k_⟩)
  refine w_R.go (c' := (84, [(4, .int 0), (3, .int (Int32.ofNat 2)), (0, .ref 199), (1, .int (Int32.ofNat u)), (2, .int 3)], [], (s_up I 199 59 0, J, kR w rem, Z), 0, 0)) 4 ?_ (fun m_ x_ Q_ k_ => ⟨trivial, trivial, trivial, trivial, k_⟩)
  refine w_R.ret 2 (.inl (some (.int 0))) (s_up I 199 59 0, J, kR w rem, Z) ?_ (fun x_ Q_ k_ => ⟨trivial, Or.inl rfl, ⟨Nat.le_of_ble_eq_true rfl, Nat.le_of_ble_eq_true rfl⟩, k_⟩)
  exact ⟨rfl, rfl⟩
def v_136_30 (I : Nat → Nat → Int32) (J : Nat → Nat → Int64) (Z : Nat → Nat → Bool) (u : Nat) (n : Nat) : Bool := true
def i_136_30 (I : Nat → Nat → Int32) (J : Nat → Nat → Int64) (Z : Nat → Nat → Bool) (u : Nat) (n : Nat) : Nat → Nat → Int32 := i_122 (s_up (s_up I 199 59 0) 210 u 0) J Z u n
theorem d_136_30 (u : Nat) (n : Nat) (hu : u < 6) (hn : n ≤ 48) (hc2 : I 199 44 = Int32.ofNat n) (hs : I 210 u = Int32.ofNat 3) : w_R xs Ln 136 (0, [(0, .ref 199), (1, .int (Int32.ofNat u)), (2, .int 0)], [], (I, J, kR w rem, Z), 0, 0) (fun o s => o = .inl (some (.int (s_b (v_136_30 I J Z u n)))) ∧ s = (i_136_30 I J Z u n, J, kR w rem, Z)) := by
  refine w_R.go (c' := (6, [(0, .ref 199), (1, .int (Int32.ofNat u)), (2, .int 0)], [.int (Int32.ofNat u)], (s_up I 199 59 0, J, kR w rem, Z), 0, 0)) 4 ?_ (fun m_ x_ Q_ k_ => ⟨trivial, trivial, ⟨sh_199, trivial⟩, trivial, k_⟩)
  refine w_R.callS (ce' := 0) (sl' := 0) (v := some (.int (s_b true))) (σ' := (s_up I 199 59 0, J, kR w rem, Z)) (as := [.int (Int32.ofNat u)]) (rest := []) (d_109N u (by omega)) ?_ rfl rfl rfl rfl rfl rfl rfl rfl rfl
  show w_R xs Ln 136 (9, [(0, .ref 199), (1, .int (Int32.ofNat u)), (2, .int 0)], [.int (s_b true)], (s_up I 199 59 0, J, kR w rem, Z), 0, 0) _
  refine w_R.go (c' := (12, [(0, .ref 199), (1, .int (Int32.ofNat u)), (2, .int 0)], [], (s_up I 199 59 0, J, kR w rem, Z), 0, 0)) 1 ?_ (fun m_ x_ Q_ k_ => ⟨trivial, k_⟩)
  refine w_R.go (c' := (15, [(0, .ref 199), (1, .int (Int32.ofNat u)), (2, .int 0)], [.int 3, .int 0, .int 0], (s_up I 199 59 0, J, kR w rem, Z), 0, 0)) 3 ?_ (fun m_ x_ Q_ k_ => ⟨trivial, trivial, trivial, k_⟩)
  refine w_R.callS (ce' := 0) (sl' := 0) (v := some (.int (s_b true))) (σ' := (s_up I 199 59 0, J, kR w rem, Z)) (as := [.int 0, .int 0, .int 3]) (rest := []) (d_106T 0 0 3 (by decide) (by decide) (by decide)) ?_ rfl rfl rfl rfl rfl rfl rfl rfl rfl
  show w_R xs Ln 136 (18, [(0, .ref 199), (1, .int (Int32.ofNat u)), (2, .int 0)], [.int (s_b true)], (s_up I 199 59 0, J, kR w rem, Z), 0, 0) _
  refine w_R.go (c' := (23, [(0, .ref 199), (1, .int (Int32.ofNat u)), (2, .int 0)], [], (s_up I 199 59 0, J, kR w rem, Z), 0, 0)) 1 ?_ (fun m_ x_ Q_ k_ => ⟨trivial, k_⟩)
  refine w_R.go (c' := (29, [(0, .ref 199), (1, .int (Int32.ofNat u)), (2, .int 0)], [.int ((s_up I 199 59 0) 210 (Int32.ofNat u).toNatClampNeg)], (s_up I 199 59 0, J, kR w rem, Z), 0, 0)) 4 ?_ (fun m_ x_ Q_ k_ => ⟨trivial, ⟨sh_199, (Nat.succ_ne_zero 209)⟩, trivial, ⟨_, sh_210, (n_in (a := u) (by omega) (by decide))⟩, k_⟩)
  rw [n_cl (a := u) (by omega)]
  rw [show (s_up I 199 59 0) 210 u = I 210 u from (s_upa (by decide))]
  rw [hs]
  show w_R xs Ln 136 (29, [(0, .ref 199), (1, .int (Int32.ofNat u)), (2, .int 0)], [.int (Int32.ofNat 3)], (s_up I 199 59 0, J, kR w rem, Z), 0, 0) _
  refine w_R.go (c' := (35, [(3, .int (Int32.ofNat 3)), (0, .ref 199), (1, .int (Int32.ofNat u)), (2, .int 0)], [], (s_up I 199 59 0, J, kR w rem, Z), 0, 0)) 4 ?_ (fun m_ x_ Q_ k_ => ⟨trivial, trivial, trivial, trivial, k_⟩)
  refine w_R.go (c' := (44, [(3, .int (Int32.ofNat 3)), (0, .ref 199), (1, .int (Int32.ofNat u)), (2, .int 0)], [], (s_up I 199 59 0, J, kR w rem, Z), 0, 0)) 2 ?_ (fun m_ x_ Q_ k_ => ⟨trivial, trivial, k_⟩)
  refine w_R.go (c' := (49, [(3, .int (Int32.ofNat 3)), (0, .ref 199), (1, .int (Int32.ofNat u)), (2, .int 0)], [], (s_up I 199 59 0, J, kR w rem, Z), 0, 0)) 3 ?_ (fun m_ x_ Q_ k_ => ⟨trivial, trivial, trivial, k_⟩)
  refine w_R.go (c' := (72, [(3, .int (Int32.ofNat 3)), (0, .ref 199), (1, .int (Int32.ofNat u)), (2, .int 0)], [], (s_up I 199 59 0, J, kR w rem, Z), 0, 0)) 2 ?_ (fun m_ x_ Q_ k_ => ⟨trivial, trivial, k_⟩)
  refine w_R.go (c' := (86, [(4, .int 1), (3, .int (Int32.ofNat 3)), (0, .ref 199), (1, .int (Int32.ofNat u)), (2, .int 0)], [], (s_up I 199 59 0, J, kR w rem, Z), 0, 0)) 5 ?_ (fun m_ x_ Q_ k_ => ⟨trivial, trivial, trivial, trivial, trivial, k_⟩)
  refine w_R.go (c' := (108, [(4, .int 1), (3, .int (Int32.ofNat 3)), (0, .ref 199), (1, .int (Int32.ofNat u)), (2, .int 0)], [], (s_up I 199 59 0, J, kR w rem, Z), 0, 0)) 3 ?_ (fun m_ x_ Q_ k_ => ⟨trivial, trivial, trivial, k_⟩)
  refine w_R.go (c' := (124, [(4, .int 1), (3, .int (Int32.ofNat 3)), (0, .ref 199), (1, .int (Int32.ofNat u)), (2, .int 0)], [], (s_up I 199 59 0, J, kR w rem, Z), 0, 0)) 3 ?_ (fun m_ x_ Q_ k_ => ⟨trivial, trivial, trivial, k_⟩)
  refine w_R.go (c' := (131, [(4, .int 1), (3, .int (Int32.ofNat 3)), (0, .ref 199), (1, .int (Int32.ofNat u)), (2, .int 0)], [], (s_up (s_up I 199 59 0) 210 ((Int32.ofNat u).toNatClampNeg) 0, J, kR w rem, Z), 0, 0)) 5 ?_ (fun m_ x_ Q_ k_ => ⟨trivial, ⟨sh_199, (Nat.succ_ne_zero 209)⟩, trivial, trivial, ⟨_, sh_210, (n_in (a := u) (by omega) (by decide))⟩, k_⟩)
  rw [n_cl (a := u) (by omega)]
  show w_R xs Ln 136 (131, [(4, .int 1), (3, .int (Int32.ofNat 3)), (0, .ref 199), (1, .int (Int32.ofNat u)), (2, .int 0)], [], (s_up (s_up I 199 59 0) 210 u 0, J, kR w rem, Z), 0, 0) _
  refine w_R.go (c' := (133, [(4, .int 1), (3, .int (Int32.ofNat 3)), (0, .ref 199), (1, .int (Int32.ofNat u)), (2, .int 0)], [.int (Int32.ofNat u), .ref 199], (s_up (s_up I 199 59 0) 210 u 0, J, kR w rem, Z), 0, 0)) 2 ?_ (fun m_ x_ Q_ k_ => ⟨trivial, trivial, k_⟩)
  refine w_R.callV (ce' := 0) (sl' := 0) (v := none) (σ' := (i_122 (s_up (s_up I 199 59 0) 210 u 0) J Z u n, J, kR w rem, Z)) (as := [.ref 199, .int (Int32.ofNat u)]) (rest := []) (d_122 u n (by omega) hn (by first | exact hc2 | (simp (disch := omega) only [s_upf]; exact hc2))) ?_ rfl rfl rfl rfl rfl sh_199 rfl rfl rfl rfl
  show w_R xs Ln 136 (136, [(4, .int 1), (3, .int (Int32.ofNat 3)), (0, .ref 199), (1, .int (Int32.ofNat u)), (2, .int 0)], [], (i_122 (s_up (s_up I 199 59 0) 210 u 0) J Z u n, J, kR w rem, Z), 0, 0) _
  refine w_R.ret 2 (.inl (some (.int 1))) (i_122 (s_up (s_up I 199 59 0) 210 u 0) J Z u n, J, kR w rem, Z) ?_ (fun x_ Q_ k_ => ⟨trivial, Or.inr rfl, ⟨Nat.le_of_ble_eq_true rfl, Nat.le_of_ble_eq_true rfl⟩, k_⟩)
  exact ⟨by rw [show v_136_30 I J Z u n = true from by unfold v_136_30; rfl] <;> rfl, by rw [show i_136_30 I J Z u n = (i_122 (s_up (s_up I 199 59 0) 210 u 0) J Z u n) from by unfold i_136_30; rfl]⟩
theorem d_136_31 (u : Nat) (hu : u < 6) (hs : I 210 u = Int32.ofNat 3) : w_R xs Ln 136 (0, [(0, .ref 199), (1, .int (Int32.ofNat u)), (2, .int 1)], [], (I, J, kR w rem, Z), 0, 0) (fun o s => o = .inl (some (.int 0)) ∧ s = (s_up I 199 59 0, J, kR w rem, Z)) := by
  refine w_R.go (c' := (6, [(0, .ref 199), (1, .int (Int32.ofNat u)), (2, .int 1)], [.int (Int32.ofNat u)], (s_up I 199 59 0, J, kR w rem, Z), 0, 0)) 4 ?_ (fun m_ x_ Q_ k_ => ⟨trivial, trivial, ⟨sh_199, trivial⟩, trivial, k_⟩)
  refine w_R.callS (ce' := 0) (sl' := 0) (v := some (.int (s_b true))) (σ' := (s_up I 199 59 0, J, kR w rem, Z)) (as := [.int (Int32.ofNat u)]) (rest := []) (d_109N u (by omega)) ?_ rfl rfl rfl rfl rfl rfl rfl rfl rfl
  show w_R xs Ln 136 (9, [(0, .ref 199), (1, .int (Int32.ofNat u)), (2, .int 1)], [.int (s_b true)], (s_up I 199 59 0, J, kR w rem, Z), 0, 0) _
  refine w_R.go (c' := (12, [(0, .ref 199), (1, .int (Int32.ofNat u)), (2, .int 1)], [], (s_up I 199 59 0, J, kR w rem, Z), 0, 0)) 1 ?_ (fun m_ x_ Q_ k_ => ⟨trivial, k_⟩)
  refine w_R.go (c' := (15, [(0, .ref 199), (1, .int (Int32.ofNat u)), (2, .int 1)], [.int 3, .int 0, .int 1], (s_up I 199 59 0, J, kR w rem, Z), 0, 0)) 3 ?_ (fun m_ x_ Q_ k_ => ⟨trivial, trivial, trivial, k_⟩)
  refine w_R.callS (ce' := 0) (sl' := 0) (v := some (.int (s_b true))) (σ' := (s_up I 199 59 0, J, kR w rem, Z)) (as := [.int 1, .int 0, .int 3]) (rest := []) (d_106T 1 0 3 (by decide) (by decide) (by decide)) ?_ rfl rfl rfl rfl rfl rfl rfl rfl rfl
  show w_R xs Ln 136 (18, [(0, .ref 199), (1, .int (Int32.ofNat u)), (2, .int 1)], [.int (s_b true)], (s_up I 199 59 0, J, kR w rem, Z), 0, 0) _
  refine w_R.go (c' := (23, [(0, .ref 199), (1, .int (Int32.ofNat u)), (2, .int 1)], [], (s_up I 199 59 0, J, kR w rem, Z), 0, 0)) 1 ?_ (fun m_ x_ Q_ k_ => ⟨trivial, k_⟩)
  refine w_R.go (c' := (29, [(0, .ref 199), (1, .int (Int32.ofNat u)), (2, .int 1)], [.int ((s_up I 199 59 0) 210 (Int32.ofNat u).toNatClampNeg)], (s_up I 199 59 0, J, kR w rem, Z), 0, 0)) 4 ?_ (fun m_ x_ Q_ k_ => ⟨trivial, ⟨sh_199, (Nat.succ_ne_zero 209)⟩, trivial, ⟨_, sh_210, (n_in (a := u) (by omega) (by decide))⟩, k_⟩)
  rw [n_cl (a := u) (by omega)]
  rw [show (s_up I 199 59 0) 210 u = I 210 u from (s_upa (by decide))]
  rw [hs]
  show w_R xs Ln 136 (29, [(0, .ref 199), (1, .int (Int32.ofNat u)), (2, .int 1)], [.int (Int32.ofNat 3)], (s_up I 199 59 0, J, kR w rem, Z), 0, 0) _
  refine w_R.go (c' := (35, [(3, .int (Int32.ofNat 3)), (0, .ref 199), (1, .int (Int32.ofNat u)), (2, .int 1)], [], (s_up I 199 59 0, J, kR w rem, Z), 0, 0)) 4 ?_ (fun m_ x_ Q_ k_ => ⟨trivial, trivial, trivial, trivial, k_⟩)
  refine w_R.go (c' := (44, [(3, .int (Int32.ofNat 3)), (0, .ref 199), (1, .int (Int32.ofNat u)), (2, .int 1)], [], (s_up I 199 59 0, J, kR w rem, Z), 0, 0)) 2 ?_ (fun m_ x_ Q_ k_ => ⟨trivial, trivial, k_⟩)
  refine w_R.go (c' := (49, [(3, .int (Int32.ofNat 3)), (0, .ref 199), (1, .int (Int32.ofNat u)), (2, .int 1)], [], (s_up I 199 59 0, J, kR w rem, Z), 0, 0)) 3 ?_ (fun m_ x_ Q_ k_ => ⟨trivial, trivial, trivial, k_⟩)
  refine w_R.go (c' := (53, [(3, .int (Int32.ofNat 3)), (0, .ref 199), (1, .int (Int32.ofNat u)), (2, .int 1)], [], (s_up I 199 59 0, J, kR w rem, Z), 0, 0)) 2 ?_ (fun m_ x_ Q_ k_ => ⟨trivial, trivial, k_⟩)
  refine w_R.go (c' := (63, [(3, .int (Int32.ofNat 3)), (0, .ref 199), (1, .int (Int32.ofNat u)), (2, .int 1)], [], (s_up I 199 59 0, J, kR w rem, Z), 0, 0)) 3 ?_ (fun m_ x_ Q_ k_ => ⟨trivial, trivial, trivial, k_⟩)
  refine w_R.go (c' := (76, [(3, .int (Int32.ofNat 3)), (0, .ref 199), (1, .int (Int32.ofNat u)), (2, .int 1)], [], (s_up I 199 59 0, J, kR w rem, Z), 0, 0)) 3 ?_ (fun m_ x_ Q_ k_ => ⟨trivial, trivial, trivial, k_⟩)
  refine w_R.go (c' := (84, [(4, .int 0), (3, .int (Int32.ofNat 3)), (0, .ref 199), (1, .int (Int32.ofNat u)), (2, .int 1)], [], (s_up I 199 59 0, J, kR w rem, Z), 0, 0)) 4 ?_ (fun m_ x_ Q_ k_ => ⟨trivial, trivial, trivial, trivial, k_⟩)
  refine w_R.ret 2 (.inl (some (.int 0))) (s_up I 199 59 0, J, kR w rem, Z) ?_ (fun x_ Q_ k_ => ⟨trivial, Or.inl rfl, ⟨Nat.le_of_ble_eq_true rfl, Nat.le_of_ble_eq_true rfl⟩, k_⟩)
  exact ⟨rfl, rfl⟩
theorem d_136_32 (u : Nat) (hu : u < 6) (hs : I 210 u = Int32.ofNat 3) : w_R xs Ln 136 (0, [(0, .ref 199), (1, .int (Int32.ofNat u)), (2, .int 2)], [], (I, J, kR w rem, Z), 0, 0) (fun o s => o = .inl (some (.int 0)) ∧ s = (s_up I 199 59 0, J, kR w rem, Z)) := by
  refine w_R.go (c' := (6, [(0, .ref 199), (1, .int (Int32.ofNat u)), (2, .int 2)], [.int (Int32.ofNat u)], (s_up I 199 59 0, J, kR w rem, Z), 0, 0)) 4 ?_ (fun m_ x_ Q_ k_ => ⟨trivial, trivial, ⟨sh_199, trivial⟩, trivial, k_⟩)
  refine w_R.callS (ce' := 0) (sl' := 0) (v := some (.int (s_b true))) (σ' := (s_up I 199 59 0, J, kR w rem, Z)) (as := [.int (Int32.ofNat u)]) (rest := []) (d_109N u (by omega)) ?_ rfl rfl rfl rfl rfl rfl rfl rfl rfl
  show w_R xs Ln 136 (9, [(0, .ref 199), (1, .int (Int32.ofNat u)), (2, .int 2)], [.int (s_b true)], (s_up I 199 59 0, J, kR w rem, Z), 0, 0) _
  refine w_R.go (c' := (12, [(0, .ref 199), (1, .int (Int32.ofNat u)), (2, .int 2)], [], (s_up I 199 59 0, J, kR w rem, Z), 0, 0)) 1 ?_ (fun m_ x_ Q_ k_ => ⟨trivial, k_⟩)
  refine w_R.go (c' := (15, [(0, .ref 199), (1, .int (Int32.ofNat u)), (2, .int 2)], [.int 3, .int 0, .int 2], (s_up I 199 59 0, J, kR w rem, Z), 0, 0)) 3 ?_ (fun m_ x_ Q_ k_ => ⟨trivial, trivial, trivial, k_⟩)
  refine w_R.callS (ce' := 0) (sl' := 0) (v := some (.int (s_b true))) (σ' := (s_up I 199 59 0, J, kR w rem, Z)) (as := [.int 2, .int 0, .int 3]) (rest := []) (d_106T 2 0 3 (by decide) (by decide) (by decide)) ?_ rfl rfl rfl rfl rfl rfl rfl rfl rfl
  show w_R xs Ln 136 (18, [(0, .ref 199), (1, .int (Int32.ofNat u)), (2, .int 2)], [.int (s_b true)], (s_up I 199 59 0, J, kR w rem, Z), 0, 0) _
  refine w_R.go (c' := (23, [(0, .ref 199), (1, .int (Int32.ofNat u)), (2, .int 2)], [], (s_up I 199 59 0, J, kR w rem, Z), 0, 0)) 1 ?_ (fun m_ x_ Q_ k_ => ⟨trivial, k_⟩)
  refine w_R.go (c' := (29, [(0, .ref 199), (1, .int (Int32.ofNat u)), (2, .int 2)], [.int ((s_up I 199 59 0) 210 (Int32.ofNat u).toNatClampNeg)], (s_up I 199 59 0, J, kR w rem, Z), 0, 0)) 4 ?_ (fun m_ x_ Q_ k_ => ⟨trivial, ⟨sh_199, (Nat.succ_ne_zero 209)⟩, trivial, ⟨_, sh_210, (n_in (a := u) (by omega) (by decide))⟩, k_⟩)
  rw [n_cl (a := u) (by omega)]
  rw [show (s_up I 199 59 0) 210 u = I 210 u from (s_upa (by decide))]
  rw [hs]
  show w_R xs Ln 136 (29, [(0, .ref 199), (1, .int (Int32.ofNat u)), (2, .int 2)], [.int (Int32.ofNat 3)], (s_up I 199 59 0, J, kR w rem, Z), 0, 0) _
  refine w_R.go (c' := (35, [(3, .int (Int32.ofNat 3)), (0, .ref 199), (1, .int (Int32.ofNat u)), (2, .int 2)], [], (s_up I 199 59 0, J, kR w rem, Z), 0, 0)) 4 ?_ (fun m_ x_ Q_ k_ => ⟨trivial, trivial, trivial, trivial, k_⟩)
  refine w_R.go (c' := (44, [(3, .int (Int32.ofNat 3)), (0, .ref 199), (1, .int (Int32.ofNat u)), (2, .int 2)], [], (s_up I 199 59 0, J, kR w rem, Z), 0, 0)) 2 ?_ (fun m_ x_ Q_ k_ => ⟨trivial, trivial, k_⟩)
  refine w_R.go (c' := (49, [(3, .int (Int32.ofNat 3)), (0, .ref 199), (1, .int (Int32.ofNat u)), (2, .int 2)], [], (s_up I 199 59 0, J, kR w rem, Z), 0, 0)) 3 ?_ (fun m_ x_ Q_ k_ => ⟨trivial, trivial, trivial, k_⟩)
  refine w_R.go (c' := (53, [(3, .int (Int32.ofNat 3)), (0, .ref 199), (1, .int (Int32.ofNat u)), (2, .int 2)], [], (s_up I 199 59 0, J, kR w rem, Z), 0, 0)) 2 ?_ (fun m_ x_ Q_ k_ => ⟨trivial, trivial, k_⟩)
  refine w_R.go (c' := (63, [(3, .int (Int32.ofNat 3)), (0, .ref 199), (1, .int (Int32.ofNat u)), (2, .int 2)], [], (s_up I 199 59 0, J, kR w rem, Z), 0, 0)) 3 ?_ (fun m_ x_ Q_ k_ => ⟨trivial, trivial, trivial, k_⟩)
  refine w_R.go (c' := (76, [(3, .int (Int32.ofNat 3)), (0, .ref 199), (1, .int (Int32.ofNat u)), (2, .int 2)], [], (s_up I 199 59 0, J, kR w rem, Z), 0, 0)) 3 ?_ (fun m_ x_ Q_ k_ => ⟨trivial, trivial, trivial, k_⟩)
  refine w_R.go (c' := (84, [(4, .int 0), (3, .int (Int32.ofNat 3)), (0, .ref 199), (1, .int (Int32.ofNat u)), (2, .int 2)], [], (s_up I 199 59 0, J, kR w rem, Z), 0, 0)) 4 ?_ (fun m_ x_ Q_ k_ => ⟨trivial, trivial, trivial, trivial, k_⟩)
  refine w_R.ret 2 (.inl (some (.int 0))) (s_up I 199 59 0, J, kR w rem, Z) ?_ (fun x_ Q_ k_ => ⟨trivial, Or.inl rfl, ⟨Nat.le_of_ble_eq_true rfl, Nat.le_of_ble_eq_true rfl⟩, k_⟩)
  exact ⟨rfl, rfl⟩
def v_136_33 (I : Nat → Nat → Int32) (J : Nat → Nat → Int64) (Z : Nat → Nat → Bool) (u : Nat) (n : Nat) : Bool := true
def i_136_33 (I : Nat → Nat → Int32) (J : Nat → Nat → Int64) (Z : Nat → Nat → Bool) (u : Nat) (n : Nat) : Nat → Nat → Int32 := i_122 (s_up (s_up I 199 59 0) 210 u 3) J Z u n
theorem d_136_33 (u : Nat) (n : Nat) (hu : u < 6) (hn : n ≤ 48) (hc2 : I 199 44 = Int32.ofNat n) (hs : I 210 u = Int32.ofNat 3) : w_R xs Ln 136 (0, [(0, .ref 199), (1, .int (Int32.ofNat u)), (2, .int 3)], [], (I, J, kR w rem, Z), 0, 0) (fun o s => o = .inl (some (.int (s_b (v_136_33 I J Z u n)))) ∧ s = (i_136_33 I J Z u n, J, kR w rem, Z)) := by
  refine w_R.go (c' := (6, [(0, .ref 199), (1, .int (Int32.ofNat u)), (2, .int 3)], [.int (Int32.ofNat u)], (s_up I 199 59 0, J, kR w rem, Z), 0, 0)) 4 ?_ (fun m_ x_ Q_ k_ => ⟨trivial, trivial, ⟨sh_199, trivial⟩, trivial, k_⟩)
  refine w_R.callS (ce' := 0) (sl' := 0) (v := some (.int (s_b true))) (σ' := (s_up I 199 59 0, J, kR w rem, Z)) (as := [.int (Int32.ofNat u)]) (rest := []) (d_109N u (by omega)) ?_ rfl rfl rfl rfl rfl rfl rfl rfl rfl
  show w_R xs Ln 136 (9, [(0, .ref 199), (1, .int (Int32.ofNat u)), (2, .int 3)], [.int (s_b true)], (s_up I 199 59 0, J, kR w rem, Z), 0, 0) _
  refine w_R.go (c' := (12, [(0, .ref 199), (1, .int (Int32.ofNat u)), (2, .int 3)], [], (s_up I 199 59 0, J, kR w rem, Z), 0, 0)) 1 ?_ (fun m_ x_ Q_ k_ => ⟨trivial, k_⟩)
  refine w_R.go (c' := (15, [(0, .ref 199), (1, .int (Int32.ofNat u)), (2, .int 3)], [.int 3, .int 0, .int 3], (s_up I 199 59 0, J, kR w rem, Z), 0, 0)) 3 ?_ (fun m_ x_ Q_ k_ => ⟨trivial, trivial, trivial, k_⟩)
  refine w_R.callS (ce' := 0) (sl' := 0) (v := some (.int (s_b true))) (σ' := (s_up I 199 59 0, J, kR w rem, Z)) (as := [.int 3, .int 0, .int 3]) (rest := []) (d_106T 3 0 3 (by decide) (by decide) (by decide)) ?_ rfl rfl rfl rfl rfl rfl rfl rfl rfl
  show w_R xs Ln 136 (18, [(0, .ref 199), (1, .int (Int32.ofNat u)), (2, .int 3)], [.int (s_b true)], (s_up I 199 59 0, J, kR w rem, Z), 0, 0) _
  refine w_R.go (c' := (23, [(0, .ref 199), (1, .int (Int32.ofNat u)), (2, .int 3)], [], (s_up I 199 59 0, J, kR w rem, Z), 0, 0)) 1 ?_ (fun m_ x_ Q_ k_ => ⟨trivial, k_⟩)
  refine w_R.go (c' := (29, [(0, .ref 199), (1, .int (Int32.ofNat u)), (2, .int 3)], [.int ((s_up I 199 59 0) 210 (Int32.ofNat u).toNatClampNeg)], (s_up I 199 59 0, J, kR w rem, Z), 0, 0)) 4 ?_ (fun m_ x_ Q_ k_ => ⟨trivial, ⟨sh_199, (Nat.succ_ne_zero 209)⟩, trivial, ⟨_, sh_210, (n_in (a := u) (by omega) (by decide))⟩, k_⟩)
  rw [n_cl (a := u) (by omega)]
  rw [show (s_up I 199 59 0) 210 u = I 210 u from (s_upa (by decide))]
  rw [hs]
  show w_R xs Ln 136 (29, [(0, .ref 199), (1, .int (Int32.ofNat u)), (2, .int 3)], [.int (Int32.ofNat 3)], (s_up I 199 59 0, J, kR w rem, Z), 0, 0) _
  refine w_R.go (c' := (72, [(3, .int (Int32.ofNat 3)), (0, .ref 199), (1, .int (Int32.ofNat u)), (2, .int 3)], [], (s_up I 199 59 0, J, kR w rem, Z), 0, 0)) 4 ?_ (fun m_ x_ Q_ k_ => ⟨trivial, trivial, trivial, trivial, k_⟩)
  refine w_R.go (c' := (86, [(4, .int 1), (3, .int (Int32.ofNat 3)), (0, .ref 199), (1, .int (Int32.ofNat u)), (2, .int 3)], [], (s_up I 199 59 0, J, kR w rem, Z), 0, 0)) 5 ?_ (fun m_ x_ Q_ k_ => ⟨trivial, trivial, trivial, trivial, trivial, k_⟩)
  refine w_R.go (c' := (108, [(4, .int 1), (3, .int (Int32.ofNat 3)), (0, .ref 199), (1, .int (Int32.ofNat u)), (2, .int 3)], [], (s_up I 199 59 0, J, kR w rem, Z), 0, 0)) 3 ?_ (fun m_ x_ Q_ k_ => ⟨trivial, trivial, trivial, k_⟩)
  refine w_R.go (c' := (124, [(4, .int 1), (3, .int (Int32.ofNat 3)), (0, .ref 199), (1, .int (Int32.ofNat u)), (2, .int 3)], [], (s_up I 199 59 0, J, kR w rem, Z), 0, 0)) 3 ?_ (fun m_ x_ Q_ k_ => ⟨trivial, trivial, trivial, k_⟩)
  refine w_R.go (c' := (131, [(4, .int 1), (3, .int (Int32.ofNat 3)), (0, .ref 199), (1, .int (Int32.ofNat u)), (2, .int 3)], [], (s_up (s_up I 199 59 0) 210 ((Int32.ofNat u).toNatClampNeg) 3, J, kR w rem, Z), 0, 0)) 5 ?_ (fun m_ x_ Q_ k_ => ⟨trivial, ⟨sh_199, (Nat.succ_ne_zero 209)⟩, trivial, trivial, ⟨_, sh_210, (n_in (a := u) (by omega) (by decide))⟩, k_⟩)
  rw [n_cl (a := u) (by omega)]
  show w_R xs Ln 136 (131, [(4, .int 1), (3, .int (Int32.ofNat 3)), (0, .ref 199), (1, .int (Int32.ofNat u)), (2, .int 3)], [], (s_up (s_up I 199 59 0) 210 u 3, J, kR w rem, Z), 0, 0) _
  refine w_R.go (c' := (133, [(4, .int 1), (3, .int (Int32.ofNat 3)), (0, .ref 199), (1, .int (Int32.ofNat u)), (2, .int 3)], [.int (Int32.ofNat u), .ref 199], (s_up (s_up I 199 59 0) 210 u 3, J, kR w rem, Z), 0, 0)) 2 ?_ (fun m_ x_ Q_ k_ => ⟨trivial, trivial, k_⟩)
  refine w_R.callV (ce' := 0) (sl' := 0) (v := none) (σ' := (i_122 (s_up (s_up I 199 59 0) 210 u 3) J Z u n, J, kR w rem, Z)) (as := [.ref 199, .int (Int32.ofNat u)]) (rest := []) (d_122 u n (by omega) hn (by first | exact hc2 | (simp (disch := omega) only [s_upf]; exact hc2))) ?_ rfl rfl rfl rfl rfl sh_199 rfl rfl rfl rfl
  show w_R xs Ln 136 (136, [(4, .int 1), (3, .int (Int32.ofNat 3)), (0, .ref 199), (1, .int (Int32.ofNat u)), (2, .int 3)], [], (i_122 (s_up (s_up I 199 59 0) 210 u 3) J Z u n, J, kR w rem, Z), 0, 0) _
  refine w_R.ret 2 (.inl (some (.int 1))) (i_122 (s_up (s_up I 199 59 0) 210 u 3) J Z u n, J, kR w rem, Z) ?_ (fun x_ Q_ k_ => ⟨trivial, Or.inr rfl, ⟨Nat.le_of_ble_eq_true rfl, Nat.le_of_ble_eq_true rfl⟩, k_⟩)
  exact ⟨by rw [show v_136_33 I J Z u n = true from by unfold v_136_33; rfl] <;> rfl, by rw [show i_136_33 I J Z u n = (i_122 (s_up (s_up I 199 59 0) 210 u 3) J Z u n) from by unfold i_136_33; rfl]⟩
end RunsP
