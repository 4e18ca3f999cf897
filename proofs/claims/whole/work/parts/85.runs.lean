section RunsP
variable {xs : Nat → Int32} {Ln : Nat} {I : Nat → Nat → Int32} {J : Nat → Nat → Int64} {Z : Nat → Nat → Bool} {w : Nat → Nat} {rem : Nat}
theorem q63_e {a b x k : Nat} (h : x ≠ a) : i_63 I J Z a b x k = I x k := by
  unfold i_63 i_64
  split <;> (try split) <;> (try split) <;> (try split) <;> first | rfl | simp (disch := omega) only [s_upf]
theorem q63_z {a b x k : Nat} (h : x ≠ a) : z_63 I J Z a b x k = Z x k := by
  unfold z_63 z_64
  split <;> (try split) <;> (try split) <;> (try split) <;> first | rfl | exact s_upa h
def i_96 (I : Nat → Nat → Int32) (J : Nat → Nat → Int64) (Z : Nat → Nat → Bool) (r : Nat) (b : Nat) (e : Nat) : Nat → Nat → Int32 := i_63 I J Z (148 + 29 * r + e) (36 + 2 * b)
def z_96 (I : Nat → Nat → Int32) (J : Nat → Nat → Int64) (Z : Nat → Nat → Bool) (r : Nat) (b : Nat) (e : Nat) : Nat → Nat → Bool := if (v_63 I J Z (148 + 29 * r + e) (36 + 2 * b)) = true then s_up (z_63 I J Z (148 + 29 * r + e) (36 + 2 * b)) (144 + 29 * r) e false else z_63 I J Z (148 + 29 * r + e) (36 + 2 * b)
theorem d_96 (r : Nat) (b : Nat) (e : Nat) (hr : r < 2) (hb : b < 50) (he : e < 16) (hab : I (35 + 2 * b) 3 = Int32.ofNat e) : w_R xs Ln 96 (0, [(0, .ref (141 + 29 * r)), (1, .ref (35 + 2 * b))], [], (I, J, kR w rem, Z), 0, 0) (fun o s => o = .inl none ∧ s = (i_96 I J Z r b e, J, kR w rem, z_96 I J Z r b e)) := by
  refine w_R.go (c' := (4, [(0, .ref (141 + 29 * r)), (1, .ref (35 + 2 * b))], [.ref (kR w rem (141 + 29 * r) 5)], (I, J, kR w rem, Z), 0, 0)) 2 ?_ (fun m_ x_ Q_ k_ => ⟨trivial, ⟨(sh_room hr), (show kR w rem (141 + 29 * r) 5 ≠ 0 by rw [r_room5 (w := w) (rem := rem) (r := r) hr]; omega)⟩, k_⟩)
  rw [r_room5 (w := w) (rem := rem) (r := r) hr]
  show w_R xs Ln 96 (4, [(0, .ref (141 + 29 * r)), (1, .ref (35 + 2 * b))], [.ref (143 + 29 * r)], (I, J, kR w rem, Z), 0, 0) _
  refine w_R.go (c' := (8, [(0, .ref (141 + 29 * r)), (1, .ref (35 + 2 * b))], [.int (I (35 + 2 * b) 3), .ref (143 + 29 * r)], (I, J, kR w rem, Z), 0, 0)) 2 ?_ (fun m_ x_ Q_ k_ => ⟨trivial, ⟨(sh_let hb), trivial⟩, k_⟩)
  rw [hab]
  show w_R xs Ln 96 (8, [(0, .ref (141 + 29 * r)), (1, .ref (35 + 2 * b))], [.int (Int32.ofNat e), .ref (143 + 29 * r)], (I, J, kR w rem, Z), 0, 0) _
  refine w_R.go (c' := (9, [(0, .ref (141 + 29 * r)), (1, .ref (35 + 2 * b))], [.ref (kR w rem (143 + 29 * r) (Int32.ofNat e).toNatClampNeg)], (I, J, kR w rem, Z), 0, 0)) 1 ?_ (fun m_ x_ Q_ k_ => ⟨⟨⟨_, (sh_room5 hr), (n_in (a := e) (by omega) (by decide))⟩, (show kR w rem (143 + 29 * r) (Int32.ofNat e).toNatClampNeg ≠ 0 by rw [n_cl (a := e) (by omega), r_rec (w := w) (rem := rem) (r := r) (c := e) hr (by omega)]; omega)⟩, k_⟩)
  rw [n_cl (a := e) (by omega)]
  rw [r_rec (w := w) (rem := rem) (r := r) (c := e) hr (by omega)]
  show w_R xs Ln 96 (9, [(0, .ref (141 + 29 * r)), (1, .ref (35 + 2 * b))], [.ref (148 + 29 * r + e)], (I, J, kR w rem, Z), 0, 0) _
  refine w_R.go (c' := (13, [(0, .ref (141 + 29 * r)), (1, .ref (35 + 2 * b))], [.ref (kR w rem (35 + 2 * b) 10), .ref (148 + 29 * r + e)], (I, J, kR w rem, Z), 0, 0)) 2 ?_ (fun m_ x_ Q_ k_ => ⟨trivial, ⟨(sh_let hb), (show kR w rem (35 + 2 * b) 10 ≠ 0 by rw [r_let (w := w) (rem := rem) (i := b) hb]; omega)⟩, k_⟩)
  rw [r_let (w := w) (rem := rem) (i := b) hb]
  show w_R xs Ln 96 (13, [(0, .ref (141 + 29 * r)), (1, .ref (35 + 2 * b))], [.ref (36 + 2 * b), .ref (148 + 29 * r + e)], (I, J, kR w rem, Z), 0, 0) _
  refine w_R.callV (ce' := 0) (sl' := 0) (v := some (.int (s_b (v_63 I J Z (148 + 29 * r + e) (36 + 2 * b))))) (σ' := (i_63 I J Z (148 + 29 * r + e) (36 + 2 * b), J, kR w rem, z_63 I J Z (148 + 29 * r + e) (36 + 2 * b))) (as := [.ref (148 + 29 * r + e), .ref (36 + 2 * b)]) (rest := []) (d_63 (148 + 29 * r + e) (36 + 2 * b) (sh_rec hr (by omega)) (sh_letrec hb)) ?_ rfl rfl rfl rfl rfl (sh_rec hr (by omega)) rfl rfl rfl rfl
  show w_R xs Ln 96 (16, [(0, .ref (141 + 29 * r)), (1, .ref (35 + 2 * b))], [.int (s_b (v_63 I J Z (148 + 29 * r + e) (36 + 2 * b)))], (i_63 I J Z (148 + 29 * r + e) (36 + 2 * b), J, kR w rem, z_63 I J Z (148 + 29 * r + e) (36 + 2 * b)), 0, 0) _
  refine w_R.go (c' := (i_br .eq (s_b (v_63 I J Z (148 + 29 * r + e) (36 + 2 * b))) 0 29 19, [(0, .ref (141 + 29 * r)), (1, .ref (35 + 2 * b))], [], (i_63 I J Z (148 + 29 * r + e) (36 + 2 * b), J, kR w rem, z_63 I J Z (148 + 29 * r + e) (36 + 2 * b)), 0, 0)) 1 ?_ (fun m_ x_ Q_ k_ => ⟨trivial, k_⟩)
  refine w_R.br_z (fun h1 => ?_) (fun h1 => ?_)
  · replace h1 := Bool.eq_false_iff.mp h1
    refine w_R.ret 1 (.inl none) (i_63 I J Z (148 + 29 * r + e) (36 + 2 * b), J, kR w rem, z_63 I J Z (148 + 29 * r + e) (36 + 2 * b)) ?_ (fun x_ Q_ k_ => ⟨⟨Nat.le_of_ble_eq_true rfl, Nat.le_of_ble_eq_true rfl⟩, k_⟩)
    exact ⟨rfl, by rw [show i_96 I J Z r b e = (i_63 I J Z (148 + 29 * r + e) (36 + 2 * b)) from by unfold i_96; rfl, show z_96 I J Z r b e = (z_63 I J Z (148 + 29 * r + e) (36 + 2 * b)) from by unfold z_96; rw [if_neg h1]]⟩
  · refine w_R.go (c' := (23, [(0, .ref (141 + 29 * r)), (1, .ref (35 + 2 * b))], [.ref (kR w rem (141 + 29 * r) 6)], (i_63 I J Z (148 + 29 * r + e) (36 + 2 * b), J, kR w rem, z_63 I J Z (148 + 29 * r + e) (36 + 2 * b)), 0, 0)) 2 ?_ (fun m_ x_ Q_ k_ => ⟨trivial, ⟨(sh_room hr), (show kR w rem (141 + 29 * r) 6 ≠ 0 by rw [r_room6 (w := w) (rem := rem) (r := r) hr]; omega)⟩, k_⟩)
    rw [r_room6 (w := w) (rem := rem) (r := r) hr]
    show w_R xs Ln 96 (23, [(0, .ref (141 + 29 * r)), (1, .ref (35 + 2 * b))], [.ref (144 + 29 * r)], (i_63 I J Z (148 + 29 * r + e) (36 + 2 * b), J, kR w rem, z_63 I J Z (148 + 29 * r + e) (36 + 2 * b)), 0, 0) _
    refine w_R.go (c' := (27, [(0, .ref (141 + 29 * r)), (1, .ref (35 + 2 * b))], [.int ((i_63 I J Z (148 + 29 * r + e) (36 + 2 * b)) (35 + 2 * b) 3), .ref (144 + 29 * r)], (i_63 I J Z (148 + 29 * r + e) (36 + 2 * b), J, kR w rem, z_63 I J Z (148 + 29 * r + e) (36 + 2 * b)), 0, 0)) 2 ?_ (fun m_ x_ Q_ k_ => ⟨trivial, ⟨(sh_let hb), trivial⟩, k_⟩)
    rw [show (i_63 I J Z (148 + 29 * r + e) (36 + 2 * b)) (35 + 2 * b) 3 = I (35 + 2 * b) 3 from (q63_e (by omega))]
    rw [hab]
    show w_R xs Ln 96 (27, [(0, .ref (141 + 29 * r)), (1, .ref (35 + 2 * b))], [.int (Int32.ofNat e), .ref (144 + 29 * r)], (i_63 I J Z (148 + 29 * r + e) (36 + 2 * b), J, kR w rem, z_63 I J Z (148 + 29 * r + e) (36 + 2 * b)), 0, 0) _
    refine w_R.go (c' := (29, [(0, .ref (141 + 29 * r)), (1, .ref (35 + 2 * b))], [], (i_63 I J Z (148 + 29 * r + e) (36 + 2 * b), J, kR w rem, s_up (z_63 I J Z (148 + 29 * r + e) (36 + 2 * b)) (144 + 29 * r) ((Int32.ofNat e).toNatClampNeg) false), 0, 0)) 2 ?_ (fun m_ x_ Q_ k_ => ⟨trivial, ⟨⟨_, (sh_room6 hr), (n_in (a := e) (by omega) (by decide))⟩, (Or.inl rfl)⟩, k_⟩)
    rw [n_cl (a := e) (by omega)]
    show w_R xs Ln 96 (29, [(0, .ref (141 + 29 * r)), (1, .ref (35 + 2 * b))], [], (i_63 I J Z (148 + 29 * r + e) (36 + 2 * b), J, kR w rem, s_up (z_63 I J Z (148 + 29 * r + e) (36 + 2 * b)) (144 + 29 * r) e false), 0, 0) _
    refine w_R.ret 1 (.inl none) (i_63 I J Z (148 + 29 * r + e) (36 + 2 * b), J, kR w rem, s_up (z_63 I J Z (148 + 29 * r + e) (36 + 2 * b)) (144 + 29 * r) e false) ?_ (fun x_ Q_ k_ => ⟨⟨Nat.le_of_ble_eq_true rfl, Nat.le_of_ble_eq_true rfl⟩, k_⟩)
    exact ⟨rfl, by rw [show i_96 I J Z r b e = (i_63 I J Z (148 + 29 * r + e) (36 + 2 * b)) from by unfold i_96; rfl, show z_96 I J Z r b e = (s_up (z_63 I J Z (148 + 29 * r + e) (36 + 2 * b)) (144 + 29 * r) e false) from by unfold z_96; rw [if_pos h1]]⟩
def z_97 (I : Nat → Nat → Int32) (J : Nat → Nat → Int64) (Z : Nat → Nat → Bool) (r : Nat) (b : Nat) (e : Nat) : Nat → Nat → Bool := if (v_62 I J Z (148 + 29 * r + e) (I (35 + 2 * b) 4) (I (35 + 2 * b) 5)) = true then s_up Z (144 + 29 * r) e true else Z
theorem d_97 (r : Nat) (b : Nat) (e : Nat) (hr : r < 2) (hb : b < 50) (he : e < 16) (hab : I (35 + 2 * b) 3 = Int32.ofNat e) : w_R xs Ln 97 (0, [(0, .ref (141 + 29 * r)), (1, .ref (35 + 2 * b))], [], (I, J, kR w rem, Z), 0, 0) (fun o s => o = .inl none ∧ s = (I, J, kR w rem, z_97 I J Z r b e)) := by
  refine w_R.go (c' := (4, [(0, .ref (141 + 29 * r)), (1, .ref (35 + 2 * b))], [.ref (kR w rem (141 + 29 * r) 5)], (I, J, kR w rem, Z), 0, 0)) 2 ?_ (fun m_ x_ Q_ k_ => ⟨trivial, ⟨(sh_room hr), (show kR w rem (141 + 29 * r) 5 ≠ 0 by rw [r_room5 (w := w) (rem := rem) (r := r) hr]; omega)⟩, k_⟩)
  rw [r_room5 (w := w) (rem := rem) (r := r) hr]
  show w_R xs Ln 97 (4, [(0, .ref (141 + 29 * r)), (1, .ref (35 + 2 * b))], [.ref (143 + 29 * r)], (I, J, kR w rem, Z), 0, 0) _
  refine w_R.go (c' := (8, [(0, .ref (141 + 29 * r)), (1, .ref (35 + 2 * b))], [.int (I (35 + 2 * b) 3), .ref (143 + 29 * r)], (I, J, kR w rem, Z), 0, 0)) 2 ?_ (fun m_ x_ Q_ k_ => ⟨trivial, ⟨(sh_let hb), trivial⟩, k_⟩)
  rw [hab]
  show w_R xs Ln 97 (8, [(0, .ref (141 + 29 * r)), (1, .ref (35 + 2 * b))], [.int (Int32.ofNat e), .ref (143 + 29 * r)], (I, J, kR w rem, Z), 0, 0) _
  refine w_R.go (c' := (9, [(0, .ref (141 + 29 * r)), (1, .ref (35 + 2 * b))], [.ref (kR w rem (143 + 29 * r) (Int32.ofNat e).toNatClampNeg)], (I, J, kR w rem, Z), 0, 0)) 1 ?_ (fun m_ x_ Q_ k_ => ⟨⟨⟨_, (sh_room5 hr), (n_in (a := e) (by omega) (by decide))⟩, (show kR w rem (143 + 29 * r) (Int32.ofNat e).toNatClampNeg ≠ 0 by rw [n_cl (a := e) (by omega), r_rec (w := w) (rem := rem) (r := r) (c := e) hr (by omega)]; omega)⟩, k_⟩)
  rw [n_cl (a := e) (by omega)]
  rw [r_rec (w := w) (rem := rem) (r := r) (c := e) hr (by omega)]
  show w_R xs Ln 97 (9, [(0, .ref (141 + 29 * r)), (1, .ref (35 + 2 * b))], [.ref (148 + 29 * r + e)], (I, J, kR w rem, Z), 0, 0) _
  refine w_R.go (c' := (17, [(0, .ref (141 + 29 * r)), (1, .ref (35 + 2 * b))], [.int (I (35 + 2 * b) 5), .int (I (35 + 2 * b) 4), .ref (148 + 29 * r + e)], (I, J, kR w rem, Z), 0, 0)) 4 ?_ (fun m_ x_ Q_ k_ => ⟨trivial, ⟨(sh_let hb), trivial⟩, trivial, ⟨(sh_let hb), trivial⟩, k_⟩)
  refine w_R.callV (ce' := 0) (sl' := 0) (v := some (.int (s_b (v_62 I J Z (148 + 29 * r + e) (I (35 + 2 * b) 4) (I (35 + 2 * b) 5))))) (σ' := (I, J, kR w rem, Z)) (as := [.ref (148 + 29 * r + e), .int (I (35 + 2 * b) 4), .int (I (35 + 2 * b) 5)]) (rest := []) (d_62 (148 + 29 * r + e) (I (35 + 2 * b) 4) (I (35 + 2 * b) 5) (sh_rec hr (by omega))) ?_ rfl rfl rfl rfl rfl (sh_rec hr (by omega)) rfl rfl rfl rfl
  show w_R xs Ln 97 (20, [(0, .ref (141 + 29 * r)), (1, .ref (35 + 2 * b))], [.int (s_b (v_62 I J Z (148 + 29 * r + e) (I (35 + 2 * b) 4) (I (35 + 2 * b) 5)))], (I, J, kR w rem, Z), 0, 0) _
  refine w_R.go (c' := (i_br .eq (s_b (v_62 I J Z (148 + 29 * r + e) (I (35 + 2 * b) 4) (I (35 + 2 * b) 5))) 0 33 23, [(0, .ref (141 + 29 * r)), (1, .ref (35 + 2 * b))], [], (I, J, kR w rem, Z), 0, 0)) 1 ?_ (fun m_ x_ Q_ k_ => ⟨trivial, k_⟩)
  refine w_R.br_z (fun h1 => ?_) (fun h1 => ?_)
  · replace h1 := Bool.eq_false_iff.mp h1
    refine w_R.ret 1 (.inl none) (I, J, kR w rem, Z) ?_ (fun x_ Q_ k_ => ⟨⟨Nat.le_of_ble_eq_true rfl, Nat.le_of_ble_eq_true rfl⟩, k_⟩)
    exact ⟨rfl, by rw [show z_97 I J Z r b e = Z from by unfold z_97; rw [if_neg h1]]⟩
  · refine w_R.go (c' := (27, [(0, .ref (141 + 29 * r)), (1, .ref (35 + 2 * b))], [.ref (kR w rem (141 + 29 * r) 6)], (I, J, kR w rem, Z), 0, 0)) 2 ?_ (fun m_ x_ Q_ k_ => ⟨trivial, ⟨(sh_room hr), (show kR w rem (141 + 29 * r) 6 ≠ 0 by rw [r_room6 (w := w) (rem := rem) (r := r) hr]; omega)⟩, k_⟩)
    rw [r_room6 (w := w) (rem := rem) (r := r) hr]
    show w_R xs Ln 97 (27, [(0, .ref (141 + 29 * r)), (1, .ref (35 + 2 * b))], [.ref (144 + 29 * r)], (I, J, kR w rem, Z), 0, 0) _
    refine w_R.go (c' := (31, [(0, .ref (141 + 29 * r)), (1, .ref (35 + 2 * b))], [.int (I (35 + 2 * b) 3), .ref (144 + 29 * r)], (I, J, kR w rem, Z), 0, 0)) 2 ?_ (fun m_ x_ Q_ k_ => ⟨trivial, ⟨(sh_let hb), trivial⟩, k_⟩)
    rw [hab]
    show w_R xs Ln 97 (31, [(0, .ref (141 + 29 * r)), (1, .ref (35 + 2 * b))], [.int (Int32.ofNat e), .ref (144 + 29 * r)], (I, J, kR w rem, Z), 0, 0) _
    refine w_R.go (c' := (33, [(0, .ref (141 + 29 * r)), (1, .ref (35 + 2 * b))], [], (I, J, kR w rem, s_up Z (144 + 29 * r) ((Int32.ofNat e).toNatClampNeg) true), 0, 0)) 2 ?_ (fun m_ x_ Q_ k_ => ⟨trivial, ⟨⟨_, (sh_room6 hr), (n_in (a := e) (by omega) (by decide))⟩, (Or.inr rfl)⟩, k_⟩)
    rw [n_cl (a := e) (by omega)]
    show w_R xs Ln 97 (33, [(0, .ref (141 + 29 * r)), (1, .ref (35 + 2 * b))], [], (I, J, kR w rem, s_up Z (144 + 29 * r) e true), 0, 0) _
    refine w_R.ret 1 (.inl none) (I, J, kR w rem, s_up Z (144 + 29 * r) e true) ?_ (fun x_ Q_ k_ => ⟨⟨Nat.le_of_ble_eq_true rfl, Nat.le_of_ble_eq_true rfl⟩, k_⟩)
    exact ⟨rfl, by rw [show z_97 I J Z r b e = (s_up Z (144 + 29 * r) e true) from by unfold z_97; rw [if_pos h1]]⟩
theorem q46_c {f : Int32} {i n : Nat} {p : Nat → Nat} (hpn : p n < 50) (hc : I 33 1 = Int32.ofNat n) : i_46 I J Z f i n p 33 1 = Int32.ofNat (g_s n) := by
  unfold i_46
  rw [s_upa (by omega)]
  exact p72_c hc
theorem q57_e {u i a k : Nat} (h : a ≠ 135 + u) : i_57 I J Z u i a k = I a k := by
  unfold i_57
  split <;> (try split) <;> first | rfl | simp (disch := omega) only [s_upf]
def i_53 (I : Nat → Nat → Int32) (J : Nat → Nat → Int64) (Z : Nat → Nat → Bool) (b : Nat) (n : Nat) (p : Nat → Nat) (v : Nat) : Nat → Nat → Int32 := i_48 (i_57 I J Z (v - 3) b) J Z (v - 3) n p
theorem d_53 (b : Nat) (n : Nat) (p : Nat → Nat) (v : Nat) (hb : b < 50) (hn : n ≤ 48) (hc : I 33 1 = Int32.ofNat n) (hpl : ∀ i, i < 49 → p i < 50) (hw : ∀ i, i < 49 → w i = 35 + 2 * p i) (hv : 3 ≤ v ∧ v < 9) (hrv : I (35 + 2 * b) 2 = Int32.ofNat v) : w_R xs Ln 53 (0, [(0, .ref 1), (1, .ref (35 + 2 * b))], [], (I, J, kR w rem, Z), 0, 0) (fun o s => o = .inl none ∧ s = (i_53 I J Z b n p v, J, kR w rem, Z)) := by
  refine w_R.go (c' := (4, [(0, .ref 1), (1, .ref (35 + 2 * b))], [.int (I (35 + 2 * b) 2)], (I, J, kR w rem, Z), 0, 0)) 2 ?_ (fun m_ x_ Q_ k_ => ⟨trivial, ⟨(sh_let hb), trivial⟩, k_⟩)
  rw [hrv]
  show w_R xs Ln 53 (4, [(0, .ref 1), (1, .ref (35 + 2 * b))], [.int (Int32.ofNat v)], (I, J, kR w rem, Z), 0, 0) _
  refine w_R.go (c' := (6, [(0, .ref 1), (1, .ref (35 + 2 * b))], [.int (Int32.ofNat v - Int32.ofNat 3)], (I, J, kR w rem, Z), 0, 0)) 2 ?_ (fun m_ x_ Q_ k_ => ⟨trivial, trivial, k_⟩)
  rw [n_sub (a := v) (b := 3) (by omega)]
  show w_R xs Ln 53 (6, [(0, .ref 1), (1, .ref (35 + 2 * b))], [.int (Int32.ofNat (v - 3))], (I, J, kR w rem, Z), 0, 0) _
  refine w_R.go (c' := (13, [(2, .int (Int32.ofNat (v - 3))), (0, .ref 1), (1, .ref (35 + 2 * b))], [.ref (kR w rem 11 (Int32.ofNat (v - 3)).toNatClampNeg)], (I, J, kR w rem, Z), 0, 0)) 5 ?_ (fun m_ x_ Q_ k_ => ⟨trivial, trivial, ⟨sh_1, (Nat.succ_ne_zero 10)⟩, trivial, ⟨⟨_, sh_11, (n_in (a := v - 3) (by omega) (by decide))⟩, (show kR w rem 11 (Int32.ofNat (v - 3)).toNatClampNeg ≠ 0 by rw [n_cl (a := v - 3) (by omega), r_amb (w := w) (rem := rem) (u := (v - 3)) (by omega)]; omega)⟩, k_⟩)
  rw [n_cl (a := v - 3) (by omega)]
  rw [r_amb (w := w) (rem := rem) (u := (v - 3)) (by omega)]
  show w_R xs Ln 53 (13, [(2, .int (Int32.ofNat (v - 3))), (0, .ref 1), (1, .ref (35 + 2 * b))], [.ref (135 + (v - 3))], (I, J, kR w rem, Z), 0, 0) _
  refine w_R.go (c' := (14, [(2, .int (Int32.ofNat (v - 3))), (0, .ref 1), (1, .ref (35 + 2 * b))], [.ref (35 + 2 * b), .ref (135 + (v - 3))], (I, J, kR w rem, Z), 0, 0)) 1 ?_ (fun m_ x_ Q_ k_ => ⟨trivial, k_⟩)
  refine w_R.callV (ce' := 0) (sl' := 0) (v := none) (σ' := (i_57 I J Z (v - 3) b, J, kR w rem, Z)) (as := [.ref (135 + (v - 3)), .ref (35 + 2 * b)]) (rest := []) (d_57 (v - 3) b (by omega) hb) ?_ rfl rfl rfl rfl rfl (sh_amb (by omega)) rfl rfl rfl rfl
  show w_R xs Ln 53 (17, [(2, .int (Int32.ofNat (v - 3))), (0, .ref 1), (1, .ref (35 + 2 * b))], [], (i_57 I J Z (v - 3) b, J, kR w rem, Z), 0, 0) _
  refine w_R.go (c' := (19, [(2, .int (Int32.ofNat (v - 3))), (0, .ref 1), (1, .ref (35 + 2 * b))], [.int (Int32.ofNat (v - 3)), .ref 1], (i_57 I J Z (v - 3) b, J, kR w rem, Z), 0, 0)) 2 ?_ (fun m_ x_ Q_ k_ => ⟨trivial, trivial, k_⟩)
  refine w_R.callV (ce' := 0) (sl' := 0) (v := none) (σ' := (i_48 (i_57 I J Z (v - 3) b) J Z (v - 3) n p, J, kR w rem, Z)) (as := [.ref 1, .int (Int32.ofNat (v - 3))]) (rest := []) (d_48 (v - 3) n p (by omega) hn (by first | exact ((q57_e (by omega)).trans (by first | exact hc | (simp (disch := omega) only [s_upf]; exact hc))) | (simp (disch := omega) only [s_upf]; exact ((q57_e (by omega)).trans (by first | exact hc | (simp (disch := omega) only [s_upf]; exact hc))))) hpl hw) ?_ rfl rfl rfl rfl rfl sh_1 rfl rfl rfl rfl
  show w_R xs Ln 53 (22, [(2, .int (Int32.ofNat (v - 3))), (0, .ref 1), (1, .ref (35 + 2 * b))], [], (i_48 (i_57 I J Z (v - 3) b) J Z (v - 3) n p, J, kR w rem, Z), 0, 0) _
  refine w_R.ret 1 (.inl none) (i_48 (i_57 I J Z (v - 3) b) J Z (v - 3) n p, J, kR w rem, Z) ?_ (fun x_ Q_ k_ => ⟨⟨Nat.le_of_ble_eq_true rfl, Nat.le_of_ble_eq_true rfl⟩, k_⟩)
  exact ⟨rfl, by rw [show i_53 I J Z b n p v = (i_48 (i_57 I J Z (v - 3) b) J Z (v - 3) n p) from by unfold i_53; rfl]⟩
def i_49s (I : Nat → Nat → Int32) (J : Nat → Nat → Int64) (Z : Nat → Nat → Bool) (b : Nat) (n : Nat) (p : Nat → Nat) (e : Nat) : Nat → Nat → Int32 := i_46 (i_63 I J Z (17 + e) (36 + 2 * b)) J (z_63 I J Z (17 + e) (36 + 2 * b)) 2 b n p
def z_49s (I : Nat → Nat → Int32) (J : Nat → Nat → Int64) (Z : Nat → Nat → Bool) (b : Nat) (n : Nat) (p : Nat → Nat) (e : Nat) : Nat → Nat → Bool := z_63 I J Z (17 + e) (36 + 2 * b)
theorem d_49s (b : Nat) (n : Nat) (p : Nat → Nat) (e : Nat) (hb : b < 50) (hn : n ≤ 48) (hc : I 33 1 = Int32.ofNat n) (hpl : ∀ i, i < 49 → p i < 50) (hw : ∀ i, i < 49 → w i = 35 + 2 * p i) (he : e < 16) (hab : I (35 + 2 * b) 3 = Int32.ofNat e) (hkd : I (35 + 2 * b) 0 = Int32.ofNat 4) : w_R xs Ln 49 (0, [(0, .ref 1), (1, .ref (35 + 2 * b))], [], (I, J, kR w rem, Z), 0, 0) (fun o s => o = .inl none ∧ s = (i_49s I J Z b n p e, J, kR w rem, z_49s I J Z b n p e)) := by
  refine w_R.go (c' := (4, [(0, .ref 1), (1, .ref (35 + 2 * b))], [.int (I (35 + 2 * b) 0)], (I, J, kR w rem, Z), 0, 0)) 2 ?_ (fun m_ x_ Q_ k_ => ⟨trivial, ⟨(sh_let hb), trivial⟩, k_⟩)
  rw [hkd]
  show w_R xs Ln 49 (4, [(0, .ref 1), (1, .ref (35 + 2 * b))], [.int (Int32.ofNat 4)], (I, J, kR w rem, Z), 0, 0) _
  refine w_R.go (c' := (15, [(0, .ref 1), (1, .ref (35 + 2 * b))], [], (I, J, kR w rem, Z), 0, 0)) 1 ?_ (fun m_ x_ Q_ k_ => ⟨trivial, k_⟩)
  refine w_R.go (c' := (19, [(0, .ref 1), (1, .ref (35 + 2 * b))], [.int (I (35 + 2 * b) 0)], (I, J, kR w rem, Z), 0, 0)) 2 ?_ (fun m_ x_ Q_ k_ => ⟨trivial, ⟨(sh_let hb), trivial⟩, k_⟩)
  rw [hkd]
  show w_R xs Ln 49 (19, [(0, .ref 1), (1, .ref (35 + 2 * b))], [.int (Int32.ofNat 4)], (I, J, kR w rem, Z), 0, 0) _
  refine w_R.go (c' := (23, [(0, .ref 1), (1, .ref (35 + 2 * b))], [], (I, J, kR w rem, Z), 0, 0)) 2 ?_ (fun m_ x_ Q_ k_ => ⟨trivial, trivial, k_⟩)
  refine w_R.go (c' := (34, [(0, .ref 1), (1, .ref (35 + 2 * b))], [.int (I (35 + 2 * b) 3), .ref 14], (I, J, kR w rem, Z), 0, 0)) 5 ?_ (fun m_ x_ Q_ k_ => ⟨trivial, ⟨sh_1, (Nat.succ_ne_zero 12)⟩, ⟨sh_13, (Nat.succ_ne_zero 13)⟩, trivial, ⟨(sh_let hb), trivial⟩, k_⟩)
  rw [hab]
  show w_R xs Ln 49 (34, [(0, .ref 1), (1, .ref (35 + 2 * b))], [.int (Int32.ofNat e), .ref 14], (I, J, kR w rem, Z), 0, 0) _
  refine w_R.go (c' := (35, [(0, .ref 1), (1, .ref (35 + 2 * b))], [.ref (kR w rem 14 (Int32.ofNat e).toNatClampNeg)], (I, J, kR w rem, Z), 0, 0)) 1 ?_ (fun m_ x_ Q_ k_ => ⟨⟨⟨_, sh_14, (n_in (a := e) (by omega) (by decide))⟩, (show kR w rem 14 (Int32.ofNat e).toNatClampNeg ≠ 0 by rw [n_cl (a := e) (by omega), r_rrec (w := w) (rem := rem) (c := e) (by omega)]; omega)⟩, k_⟩)
  rw [n_cl (a := e) (by omega)]
  rw [r_rrec (w := w) (rem := rem) (c := e) (by omega)]
  show w_R xs Ln 49 (35, [(0, .ref 1), (1, .ref (35 + 2 * b))], [.ref (17 + e)], (I, J, kR w rem, Z), 0, 0) _
  refine w_R.go (c' := (39, [(0, .ref 1), (1, .ref (35 + 2 * b))], [.ref (kR w rem (35 + 2 * b) 10), .ref (17 + e)], (I, J, kR w rem, Z), 0, 0)) 2 ?_ (fun m_ x_ Q_ k_ => ⟨trivial, ⟨(sh_let hb), (show kR w rem (35 + 2 * b) 10 ≠ 0 by rw [r_let (w := w) (rem := rem) (i := b) hb]; omega)⟩, k_⟩)
  rw [r_let (w := w) (rem := rem) (i := b) hb]
  show w_R xs Ln 49 (39, [(0, .ref 1), (1, .ref (35 + 2 * b))], [.ref (36 + 2 * b), .ref (17 + e)], (I, J, kR w rem, Z), 0, 0) _
  refine w_R.callV (ce' := 0) (sl' := 0) (v := some (.int (s_b (v_63 I J Z (17 + e) (36 + 2 * b))))) (σ' := (i_63 I J Z (17 + e) (36 + 2 * b), J, kR w rem, z_63 I J Z (17 + e) (36 + 2 * b))) (as := [.ref (17 + e), .ref (36 + 2 * b)]) (rest := []) (d_63 (17 + e) (36 + 2 * b) (sh_rrec (by omega)) (sh_letrec hb)) ?_ rfl rfl rfl rfl rfl (sh_rrec (by omega)) rfl rfl rfl rfl
  show w_R xs Ln 49 (42, [(0, .ref 1), (1, .ref (35 + 2 * b))], [.int (s_b (v_63 I J Z (17 + e) (36 + 2 * b)))], (i_63 I J Z (17 + e) (36 + 2 * b), J, kR w rem, z_63 I J Z (17 + e) (36 + 2 * b)), 0, 0) _
  refine w_R.go (c' := (46, [(0, .ref 1), (1, .ref (35 + 2 * b))], [.ref (35 + 2 * b), .int 2, .ref 1], (i_63 I J Z (17 + e) (36 + 2 * b), J, kR w rem, z_63 I J Z (17 + e) (36 + 2 * b)), 0, 0)) 4 ?_ (fun m_ x_ Q_ k_ => ⟨trivial, trivial, trivial, trivial, k_⟩)
  refine w_R.callV (ce' := 0) (sl' := 0) (v := none) (σ' := (i_46 (i_63 I J Z (17 + e) (36 + 2 * b)) J (z_63 I J Z (17 + e) (36 + 2 * b)) 2 b n p, J, kR w rem, z_63 I J Z (17 + e) (36 + 2 * b))) (as := [.ref 1, .int 2, .ref (35 + 2 * b)]) (rest := []) (d_46 2 b n p hb hn (by first | exact ((q63_e (by omega)).trans (by first | exact hc | (simp (disch := omega) only [s_upf]; exact hc))) | (simp (disch := omega) only [s_upf]; exact ((q63_e (by omega)).trans (by first | exact hc | (simp (disch := omega) only [s_upf]; exact hc))))) hpl hw) ?_ rfl rfl rfl rfl rfl sh_1 rfl rfl rfl rfl
  show w_R xs Ln 49 (49, [(0, .ref 1), (1, .ref (35 + 2 * b))], [], (i_46 (i_63 I J Z (17 + e) (36 + 2 * b)) J (z_63 I J Z (17 + e) (36 + 2 * b)) 2 b n p, J, kR w rem, z_63 I J Z (17 + e) (36 + 2 * b)), 0, 0) _
  refine w_R.ret 1 (.inl none) (i_46 (i_63 I J Z (17 + e) (36 + 2 * b)) J (z_63 I J Z (17 + e) (36 + 2 * b)) 2 b n p, J, kR w rem, z_63 I J Z (17 + e) (36 + 2 * b)) ?_ (fun x_ Q_ k_ => ⟨⟨Nat.le_of_ble_eq_true rfl, Nat.le_of_ble_eq_true rfl⟩, k_⟩)
  exact ⟨rfl, by rw [show i_49s I J Z b n p e = (i_46 (i_63 I J Z (17 + e) (36 + 2 * b)) J (z_63 I J Z (17 + e) (36 + 2 * b)) 2 b n p) from by unfold i_49s; rfl, show z_49s I J Z b n p e = (z_63 I J Z (17 + e) (36 + 2 * b)) from by unfold z_49s; rfl]⟩
theorem q96_e {r b e a k : Nat} (h : a ≠ 148 + 29 * r + e) : i_96 I J Z r b e a k = I a k := by
  unfold i_96
  first | exact q63_e h | (split <;> exact q63_e h)
def i_51g (I : Nat → Nat → Int32) (J : Nat → Nat → Int64) (Z : Nat → Nat → Bool) (b : Nat) (r : Nat) (d : Nat) : Nat → Nat → Int32 := i_95 I J Z r b d
def j_51g (I : Nat → Nat → Int32) (J : Nat → Nat → Int64) (Z : Nat → Nat → Bool) (b : Nat) (r : Nat) (d : Nat) : Nat → Nat → Int64 := j_95 I J Z r b d
theorem d_51g (b : Nat) (r : Nat) (d : Nat) (hb : b < 50) (hr : r < 2) (hrv : I (35 + 2 * b) 2 = Int32.ofNat r) (hd : d < 4) (hda : I (35 + 2 * b) 3 = Int32.ofNat d) (hkd : I (35 + 2 * b) 0 = Int32.ofNat 1) : w_R xs Ln 51 (0, [(0, .ref 1), (1, .ref (35 + 2 * b))], [], (I, J, kR w rem, Z), 0, 0) (fun o s => o = .inl none ∧ s = (i_51g I J Z b r d, j_51g I J Z b r d, kR w rem, Z)) := by
  refine w_R.go (c' := (8, [(0, .ref 1), (1, .ref (35 + 2 * b))], [.int (I (35 + 2 * b) 2), .ref 12], (I, J, kR w rem, Z), 0, 0)) 4 ?_ (fun m_ x_ Q_ k_ => ⟨trivial, ⟨sh_1, (Nat.succ_ne_zero 11)⟩, trivial, ⟨(sh_let hb), trivial⟩, k_⟩)
  rw [hrv]
  show w_R xs Ln 51 (8, [(0, .ref 1), (1, .ref (35 + 2 * b))], [.int (Int32.ofNat r), .ref 12], (I, J, kR w rem, Z), 0, 0) _
  refine w_R.go (c' := (9, [(0, .ref 1), (1, .ref (35 + 2 * b))], [.ref (kR w rem 12 (Int32.ofNat r).toNatClampNeg)], (I, J, kR w rem, Z), 0, 0)) 1 ?_ (fun m_ x_ Q_ k_ => ⟨⟨⟨_, sh_12, (n_in (a := r) (by omega) (by decide))⟩, (show kR w rem 12 (Int32.ofNat r).toNatClampNeg ≠ 0 by rw [n_cl (a := r) (by omega), r_room (w := w) (rem := rem) (r := r) (by omega)]; omega)⟩, k_⟩)
  rw [n_cl (a := r) (by omega)]
  rw [r_room (w := w) (rem := rem) (r := r) (by omega)]
  show w_R xs Ln 51 (9, [(0, .ref 1), (1, .ref (35 + 2 * b))], [.ref (141 + 29 * r)], (I, J, kR w rem, Z), 0, 0) _
  refine w_R.go (c' := (14, [(2, .ref (141 + 29 * r)), (0, .ref 1), (1, .ref (35 + 2 * b))], [.int (I (35 + 2 * b) 0)], (I, J, kR w rem, Z), 0, 0)) 3 ?_ (fun m_ x_ Q_ k_ => ⟨trivial, trivial, ⟨(sh_let hb), trivial⟩, k_⟩)
  rw [hkd]
  show w_R xs Ln 51 (14, [(2, .ref (141 + 29 * r)), (0, .ref 1), (1, .ref (35 + 2 * b))], [.int (Int32.ofNat 1)], (I, J, kR w rem, Z), 0, 0) _
  refine w_R.go (c' := (56, [(2, .ref (141 + 29 * r)), (0, .ref 1), (1, .ref (35 + 2 * b))], [], (I, J, kR w rem, Z), 0, 0)) 1 ?_ (fun m_ x_ Q_ k_ => ⟨trivial, k_⟩)
  refine w_R.go (c' := (58, [(2, .ref (141 + 29 * r)), (0, .ref 1), (1, .ref (35 + 2 * b))], [.ref (35 + 2 * b), .ref (141 + 29 * r)], (I, J, kR w rem, Z), 0, 0)) 2 ?_ (fun m_ x_ Q_ k_ => ⟨trivial, trivial, k_⟩)
  refine w_R.callV (ce' := 0) (sl' := 0) (v := none) (σ' := (i_95 I J Z r b d, j_95 I J Z r b d, kR w rem, Z)) (as := [.ref (141 + 29 * r), .ref (35 + 2 * b)]) (rest := []) (d_95 r b d (by omega) hb hd (by first | exact hda | (simp (disch := omega) only [s_upf]; exact hda))) ?_ rfl rfl rfl rfl rfl (sh_room (by omega)) rfl rfl rfl rfl
  show w_R xs Ln 51 (61, [(2, .ref (141 + 29 * r)), (0, .ref 1), (1, .ref (35 + 2 * b))], [], (i_95 I J Z r b d, j_95 I J Z r b d, kR w rem, Z), 0, 0) _
  refine w_R.ret 2 (.inl none) (i_95 I J Z r b d, j_95 I J Z r b d, kR w rem, Z) ?_ (fun x_ Q_ k_ => ⟨trivial, ⟨Nat.le_of_ble_eq_true rfl, Nat.le_of_ble_eq_true rfl⟩, k_⟩)
  exact ⟨rfl, by rw [show i_51g I J Z b r d = (i_95 I J Z r b d) from by unfold i_51g; rfl, show j_51g I J Z b r d = (j_95 I J Z r b d) from by unfold j_51g; rfl]⟩
def i_51c (I : Nat → Nat → Int32) (J : Nat → Nat → Int64) (Z : Nat → Nat → Bool) (b : Nat) (n : Nat) (p : Nat → Nat) (r : Nat) (e : Nat) (f : Nat) : Nat → Nat → Int32 := i_46 (i_96 I J Z r b e) J (z_96 I J Z r b e) (Int32.ofNat r) b n p
def z_51c (I : Nat → Nat → Int32) (J : Nat → Nat → Int64) (Z : Nat → Nat → Bool) (b : Nat) (n : Nat) (p : Nat → Nat) (r : Nat) (e : Nat) (f : Nat) : Nat → Nat → Bool := z_96 I J Z r b e
theorem d_51c (b : Nat) (n : Nat) (p : Nat → Nat) (r : Nat) (e : Nat) (f : Nat) (hb : b < 50) (hn : n ≤ 48) (hc : I 33 1 = Int32.ofNat n) (hpl : ∀ i, i < 49 → p i < 50) (hw : ∀ i, i < 49 → w i = 35 + 2 * p i) (hr : r < 2) (hrv : I (35 + 2 * b) 2 = Int32.ofNat r) (he : e < 16) (hab : I (35 + 2 * b) 3 = Int32.ofNat e) (hf : f < 2) (hsd : I (35 + 2 * b) 1 = Int32.ofNat f) (hkd : I (35 + 2 * b) 0 = Int32.ofNat 2) : w_R xs Ln 51 (0, [(0, .ref 1), (1, .ref (35 + 2 * b))], [], (I, J, kR w rem, Z), 0, 0) (fun o s => o = .inl none ∧ s = (i_51c I J Z b n p r e f, J, kR w rem, z_51c I J Z b n p r e f)) := by
  refine w_R.go (c' := (8, [(0, .ref 1), (1, .ref (35 + 2 * b))], [.int (I (35 + 2 * b) 2), .ref 12], (I, J, kR w rem, Z), 0, 0)) 4 ?_ (fun m_ x_ Q_ k_ => ⟨trivial, ⟨sh_1, (Nat.succ_ne_zero 11)⟩, trivial, ⟨(sh_let hb), trivial⟩, k_⟩)
  rw [hrv]
  show w_R xs Ln 51 (8, [(0, .ref 1), (1, .ref (35 + 2 * b))], [.int (Int32.ofNat r), .ref 12], (I, J, kR w rem, Z), 0, 0) _
  refine w_R.go (c' := (9, [(0, .ref 1), (1, .ref (35 + 2 * b))], [.ref (kR w rem 12 (Int32.ofNat r).toNatClampNeg)], (I, J, kR w rem, Z), 0, 0)) 1 ?_ (fun m_ x_ Q_ k_ => ⟨⟨⟨_, sh_12, (n_in (a := r) (by omega) (by decide))⟩, (show kR w rem 12 (Int32.ofNat r).toNatClampNeg ≠ 0 by rw [n_cl (a := r) (by omega), r_room (w := w) (rem := rem) (r := r) (by omega)]; omega)⟩, k_⟩)
  rw [n_cl (a := r) (by omega)]
  rw [r_room (w := w) (rem := rem) (r := r) (by omega)]
  show w_R xs Ln 51 (9, [(0, .ref 1), (1, .ref (35 + 2 * b))], [.ref (141 + 29 * r)], (I, J, kR w rem, Z), 0, 0) _
  refine w_R.go (c' := (14, [(2, .ref (141 + 29 * r)), (0, .ref 1), (1, .ref (35 + 2 * b))], [.int (I (35 + 2 * b) 0)], (I, J, kR w rem, Z), 0, 0)) 3 ?_ (fun m_ x_ Q_ k_ => ⟨trivial, trivial, ⟨(sh_let hb), trivial⟩, k_⟩)
  rw [hkd]
  show w_R xs Ln 51 (14, [(2, .ref (141 + 29 * r)), (0, .ref 1), (1, .ref (35 + 2 * b))], [.int (Int32.ofNat 2)], (I, J, kR w rem, Z), 0, 0) _
  refine w_R.go (c' := (64, [(2, .ref (141 + 29 * r)), (0, .ref 1), (1, .ref (35 + 2 * b))], [], (I, J, kR w rem, Z), 0, 0)) 1 ?_ (fun m_ x_ Q_ k_ => ⟨trivial, k_⟩)
  refine w_R.go (c' := (66, [(2, .ref (141 + 29 * r)), (0, .ref 1), (1, .ref (35 + 2 * b))], [.ref (35 + 2 * b), .ref (141 + 29 * r)], (I, J, kR w rem, Z), 0, 0)) 2 ?_ (fun m_ x_ Q_ k_ => ⟨trivial, trivial, k_⟩)
  refine w_R.callV (ce' := 0) (sl' := 0) (v := none) (σ' := (i_96 I J Z r b e, J, kR w rem, z_96 I J Z r b e)) (as := [.ref (141 + 29 * r), .ref (35 + 2 * b)]) (rest := []) (d_96 r b e (by omega) hb he (by first | exact hab | (simp (disch := omega) only [s_upf]; exact hab))) ?_ rfl rfl rfl rfl rfl (sh_room (by omega)) rfl rfl rfl rfl
  show w_R xs Ln 51 (69, [(2, .ref (141 + 29 * r)), (0, .ref 1), (1, .ref (35 + 2 * b))], [], (i_96 I J Z r b e, J, kR w rem, z_96 I J Z r b e), 0, 0) _
  refine w_R.go (c' := (73, [(2, .ref (141 + 29 * r)), (0, .ref 1), (1, .ref (35 + 2 * b))], [.int ((i_96 I J Z r b e) (35 + 2 * b) 1)], (i_96 I J Z r b e, J, kR w rem, z_96 I J Z r b e), 0, 0)) 2 ?_ (fun m_ x_ Q_ k_ => ⟨trivial, ⟨(sh_let hb), trivial⟩, k_⟩)
  rw [show (i_96 I J Z r b e) (35 + 2 * b) 1 = I (35 + 2 * b) 1 from (q96_e (by omega))]
  rw [hsd]
  show w_R xs Ln 51 (73, [(2, .ref (141 + 29 * r)), (0, .ref 1), (1, .ref (35 + 2 * b))], [.int (Int32.ofNat f)], (i_96 I J Z r b e, J, kR w rem, z_96 I J Z r b e), 0, 0) _
  refine w_R.callS (ce' := 0) (sl' := 0) (v := some (.int (s_b true))) (σ' := (i_96 I J Z r b e, J, kR w rem, z_96 I J Z r b e)) (as := [.int (Int32.ofNat f)]) (rest := []) (d_32N f (by omega)) ?_ rfl rfl rfl rfl rfl rfl rfl rfl rfl
  show w_R xs Ln 51 (76, [(2, .ref (141 + 29 * r)), (0, .ref 1), (1, .ref (35 + 2 * b))], [.int (s_b true)], (i_96 I J Z r b e, J, kR w rem, z_96 I J Z r b e), 0, 0) _
  refine w_R.go (c' := (79, [(2, .ref (141 + 29 * r)), (0, .ref 1), (1, .ref (35 + 2 * b))], [], (i_96 I J Z r b e, J, kR w rem, z_96 I J Z r b e), 0, 0)) 1 ?_ (fun m_ x_ Q_ k_ => ⟨trivial, k_⟩)
  refine w_R.go (c' := (84, [(2, .ref (141 + 29 * r)), (0, .ref 1), (1, .ref (35 + 2 * b))], [.int ((i_96 I J Z r b e) (35 + 2 * b) 2), .ref 1], (i_96 I J Z r b e, J, kR w rem, z_96 I J Z r b e), 0, 0)) 3 ?_ (fun m_ x_ Q_ k_ => ⟨trivial, trivial, ⟨(sh_let hb), trivial⟩, k_⟩)
  rw [show (i_96 I J Z r b e) (35 + 2 * b) 2 = I (35 + 2 * b) 2 from (q96_e (by omega))]
  rw [hrv]
  show w_R xs Ln 51 (84, [(2, .ref (141 + 29 * r)), (0, .ref 1), (1, .ref (35 + 2 * b))], [.int (Int32.ofNat r), .ref 1], (i_96 I J Z r b e, J, kR w rem, z_96 I J Z r b e), 0, 0) _
  refine w_R.go (c' := (85, [(2, .ref (141 + 29 * r)), (0, .ref 1), (1, .ref (35 + 2 * b))], [.ref (35 + 2 * b), .int (Int32.ofNat r), .ref 1], (i_96 I J Z r b e, J, kR w rem, z_96 I J Z r b e), 0, 0)) 1 ?_ (fun m_ x_ Q_ k_ => ⟨trivial, k_⟩)
  refine w_R.callV (ce' := 0) (sl' := 0) (v := none) (σ' := (i_46 (i_96 I J Z r b e) J (z_96 I J Z r b e) (Int32.ofNat r) b n p, J, kR w rem, z_96 I J Z r b e)) (as := [.ref 1, .int (Int32.ofNat r), .ref (35 + 2 * b)]) (rest := []) (d_46 (Int32.ofNat r) b n p hb hn (by first | exact ((q96_e (by omega)).trans (by first | exact hc | (simp (disch := omega) only [s_upf]; exact hc))) | (simp (disch := omega) only [s_upf]; exact ((q96_e (by omega)).trans (by first | exact hc | (simp (disch := omega) only [s_upf]; exact hc))))) hpl hw) ?_ rfl rfl rfl rfl rfl sh_1 rfl rfl rfl rfl
  show w_R xs Ln 51 (88, [(2, .ref (141 + 29 * r)), (0, .ref 1), (1, .ref (35 + 2 * b))], [], (i_46 (i_96 I J Z r b e) J (z_96 I J Z r b e) (Int32.ofNat r) b n p, J, kR w rem, z_96 I J Z r b e), 0, 0) _
  refine w_R.ret 2 (.inl none) (i_46 (i_96 I J Z r b e) J (z_96 I J Z r b e) (Int32.ofNat r) b n p, J, kR w rem, z_96 I J Z r b e) ?_ (fun x_ Q_ k_ => ⟨trivial, ⟨Nat.le_of_ble_eq_true rfl, Nat.le_of_ble_eq_true rfl⟩, k_⟩)
  exact ⟨rfl, by rw [show i_51c I J Z b n p r e f = (i_46 (i_96 I J Z r b e) J (z_96 I J Z r b e) (Int32.ofNat r) b n p) from by unfold i_51c; rfl, show z_51c I J Z b n p r e f = (z_96 I J Z r b e) from by unfold z_51c; rfl]⟩
def i_51d (I : Nat → Nat → Int32) (J : Nat → Nat → Int64) (Z : Nat → Nat → Bool) (b : Nat) (n : Nat) (p : Nat → Nat) (r : Nat) (e : Nat) : Nat → Nat → Int32 := i_96 I J Z r b e
def z_51d (I : Nat → Nat → Int32) (J : Nat → Nat → Int64) (Z : Nat → Nat → Bool) (b : Nat) (n : Nat) (p : Nat → Nat) (r : Nat) (e : Nat) : Nat → Nat → Bool := z_96 I J Z r b e
theorem d_51d (b : Nat) (n : Nat) (p : Nat → Nat) (r : Nat) (e : Nat) (hb : b < 50) (hn : n ≤ 48) (hc : I 33 1 = Int32.ofNat n) (hpl : ∀ i, i < 49 → p i < 50) (hw : ∀ i, i < 49 → w i = 35 + 2 * p i) (hr : r < 2) (hrv : I (35 + 2 * b) 2 = Int32.ofNat r) (he : e < 16) (hab : I (35 + 2 * b) 3 = Int32.ofNat e) (hsd : I (35 + 2 * b) 1 = Int32.ofNat 2) (hkd : I (35 + 2 * b) 0 = Int32.ofNat 2) : w_R xs Ln 51 (0, [(0, .ref 1), (1, .ref (35 + 2 * b))], [], (I, J, kR w rem, Z), 0, 0) (fun o s => o = .inl none ∧ s = (i_51d I J Z b n p r e, J, kR w rem, z_51d I J Z b n p r e)) := by
  refine w_R.go (c' := (8, [(0, .ref 1), (1, .ref (35 + 2 * b))], [.int (I (35 + 2 * b) 2), .ref 12], (I, J, kR w rem, Z), 0, 0)) 4 ?_ (fun m_ x_ Q_ k_ => ⟨trivial, ⟨sh_1, (Nat.succ_ne_zero 11)⟩, trivial, ⟨(sh_let hb), trivial⟩, k_⟩)
  rw [hrv]
  show w_R xs Ln 51 (8, [(0, .ref 1), (1, .ref (35 + 2 * b))], [.int (Int32.ofNat r), .ref 12], (I, J, kR w rem, Z), 0, 0) _
  refine w_R.go (c' := (9, [(0, .ref 1), (1, .ref (35 + 2 * b))], [.ref (kR w rem 12 (Int32.ofNat r).toNatClampNeg)], (I, J, kR w rem, Z), 0, 0)) 1 ?_ (fun m_ x_ Q_ k_ => ⟨⟨⟨_, sh_12, (n_in (a := r) (by omega) (by decide))⟩, (show kR w rem 12 (Int32.ofNat r).toNatClampNeg ≠ 0 by rw [n_cl (a := r) (by omega), r_room (w := w) (rem := rem) (r := r) (by omega)]; omega)⟩, k_⟩)
  rw [n_cl (a := r) (by omega)]
  rw [r_room (w := w) (rem := rem) (r := r) (by omega)]
  show w_R xs Ln 51 (9, [(0, .ref 1), (1, .ref (35 + 2 * b))], [.ref (141 + 29 * r)], (I, J, kR w rem, Z), 0, 0) _
  refine w_R.go (c' := (14, [(2, .ref (141 + 29 * r)), (0, .ref 1), (1, .ref (35 + 2 * b))], [.int (I (35 + 2 * b) 0)], (I, J, kR w rem, Z), 0, 0)) 3 ?_ (fun m_ x_ Q_ k_ => ⟨trivial, trivial, ⟨(sh_let hb), trivial⟩, k_⟩)
  rw [hkd]
  show w_R xs Ln 51 (14, [(2, .ref (141 + 29 * r)), (0, .ref 1), (1, .ref (35 + 2 * b))], [.int (Int32.ofNat 2)], (I, J, kR w rem, Z), 0, 0) _
  refine w_R.go (c' := (64, [(2, .ref (141 + 29 * r)), (0, .ref 1), (1, .ref (35 + 2 * b))], [], (I, J, kR w rem, Z), 0, 0)) 1 ?_ (fun m_ x_ Q_ k_ => ⟨trivial, k_⟩)
  refine w_R.go (c' := (66, [(2, .ref (141 + 29 * r)), (0, .ref 1), (1, .ref (35 + 2 * b))], [.ref (35 + 2 * b), .ref (141 + 29 * r)], (I, J, kR w rem, Z), 0, 0)) 2 ?_ (fun m_ x_ Q_ k_ => ⟨trivial, trivial, k_⟩)
  refine w_R.callV (ce' := 0) (sl' := 0) (v := none) (σ' := (i_96 I J Z r b e, J, kR w rem, z_96 I J Z r b e)) (as := [.ref (141 + 29 * r), .ref (35 + 2 * b)]) (rest := []) (d_96 r b e (by omega) hb he (by first | exact hab | (simp (disch := omega) only [s_upf]; exact hab))) ?_ rfl rfl rfl rfl rfl (sh_room (by omega)) rfl rfl rfl rfl
  show w_R xs Ln 51 (69, [(2, .ref (141 + 29 * r)), (0, .ref 1), (1, .ref (35 + 2 * b))], [], (i_96 I J Z r b e, J, kR w rem, z_96 I J Z r b e), 0, 0) _
  refine w_R.go (c' := (73, [(2, .ref (141 + 29 * r)), (0, .ref 1), (1, .ref (35 + 2 * b))], [.int ((i_96 I J Z r b e) (35 + 2 * b) 1)], (i_96 I J Z r b e, J, kR w rem, z_96 I J Z r b e), 0, 0)) 2 ?_ (fun m_ x_ Q_ k_ => ⟨trivial, ⟨(sh_let hb), trivial⟩, k_⟩)
  rw [show (i_96 I J Z r b e) (35 + 2 * b) 1 = I (35 + 2 * b) 1 from (q96_e (by omega))]
  rw [hsd]
  show w_R xs Ln 51 (73, [(2, .ref (141 + 29 * r)), (0, .ref 1), (1, .ref (35 + 2 * b))], [.int (Int32.ofNat 2)], (i_96 I J Z r b e, J, kR w rem, z_96 I J Z r b e), 0, 0) _
  refine w_R.callS (ce' := 0) (sl' := 0) (v := some (.int (s_b false))) (σ' := (i_96 I J Z r b e, J, kR w rem, z_96 I J Z r b e)) (as := [.int (Int32.ofNat 2)]) (rest := []) (d_32F 2 (by decide)) ?_ rfl rfl rfl rfl rfl rfl rfl rfl rfl
  show w_R xs Ln 51 (76, [(2, .ref (141 + 29 * r)), (0, .ref 1), (1, .ref (35 + 2 * b))], [.int (s_b false)], (i_96 I J Z r b e, J, kR w rem, z_96 I J Z r b e), 0, 0) _
  refine w_R.go (c' := (130, [(2, .ref (141 + 29 * r)), (0, .ref 1), (1, .ref (35 + 2 * b))], [], (i_96 I J Z r b e, J, kR w rem, z_96 I J Z r b e), 0, 0)) 1 ?_ (fun m_ x_ Q_ k_ => ⟨trivial, k_⟩)
  refine w_R.ret 1 (.inl none) (i_96 I J Z r b e, J, kR w rem, z_96 I J Z r b e) ?_ (fun x_ Q_ k_ => ⟨⟨Nat.le_of_ble_eq_true rfl, Nat.le_of_ble_eq_true rfl⟩, k_⟩)
  exact ⟨rfl, by rw [show i_51d I J Z b n p r e = (i_96 I J Z r b e) from by unfold i_51d; rfl, show z_51d I J Z b n p r e = (z_96 I J Z r b e) from by unfold z_51d; rfl]⟩
def z_51r (I : Nat → Nat → Int32) (J : Nat → Nat → Int64) (Z : Nat → Nat → Bool) (b : Nat) (r : Nat) (e : Nat) : Nat → Nat → Bool := z_97 I J Z r b e
theorem d_51r (b : Nat) (r : Nat) (e : Nat) (hb : b < 50) (hr : r < 2) (hrv : I (35 + 2 * b) 2 = Int32.ofNat r) (he : e < 16) (hab : I (35 + 2 * b) 3 = Int32.ofNat e) (hkd : I (35 + 2 * b) 0 = Int32.ofNat 3) : w_R xs Ln 51 (0, [(0, .ref 1), (1, .ref (35 + 2 * b))], [], (I, J, kR w rem, Z), 0, 0) (fun o s => o = .inl none ∧ s = (I, J, kR w rem, z_51r I J Z b r e)) := by
  refine w_R.go (c' := (8, [(0, .ref 1), (1, .ref (35 + 2 * b))], [.int (I (35 + 2 * b) 2), .ref 12], (I, J, kR w rem, Z), 0, 0)) 4 ?_ (fun m_ x_ Q_ k_ => ⟨trivial, ⟨sh_1, (Nat.succ_ne_zero 11)⟩, trivial, ⟨(sh_let hb), trivial⟩, k_⟩)
  rw [hrv]
  show w_R xs Ln 51 (8, [(0, .ref 1), (1, .ref (35 + 2 * b))], [.int (Int32.ofNat r), .ref 12], (I, J, kR w rem, Z), 0, 0) _
  refine w_R.go (c' := (9, [(0, .ref 1), (1, .ref (35 + 2 * b))], [.ref (kR w rem 12 (Int32.ofNat r).toNatClampNeg)], (I, J, kR w rem, Z), 0, 0)) 1 ?_ (fun m_ x_ Q_ k_ => ⟨⟨⟨_, sh_12, (n_in (a := r) (by omega) (by decide))⟩, (show kR w rem 12 (Int32.ofNat r).toNatClampNeg ≠ 0 by rw [n_cl (a := r) (by omega), r_room (w := w) (rem := rem) (r := r) (by omega)]; omega)⟩, k_⟩)
  rw [n_cl (a := r) (by omega)]
  rw [r_room (w := w) (rem := rem) (r := r) (by omega)]
  show w_R xs Ln 51 (9, [(0, .ref 1), (1, .ref (35 + 2 * b))], [.ref (141 + 29 * r)], (I, J, kR w rem, Z), 0, 0) _
  refine w_R.go (c' := (14, [(2, .ref (141 + 29 * r)), (0, .ref 1), (1, .ref (35 + 2 * b))], [.int (I (35 + 2 * b) 0)], (I, J, kR w rem, Z), 0, 0)) 3 ?_ (fun m_ x_ Q_ k_ => ⟨trivial, trivial, ⟨(sh_let hb), trivial⟩, k_⟩)
  rw [hkd]
  show w_R xs Ln 51 (14, [(2, .ref (141 + 29 * r)), (0, .ref 1), (1, .ref (35 + 2 * b))], [.int (Int32.ofNat 3)], (I, J, kR w rem, Z), 0, 0) _
  refine w_R.go (c' := (91, [(2, .ref (141 + 29 * r)), (0, .ref 1), (1, .ref (35 + 2 * b))], [], (I, J, kR w rem, Z), 0, 0)) 1 ?_ (fun m_ x_ Q_ k_ => ⟨trivial, k_⟩)
  refine w_R.go (c' := (93, [(2, .ref (141 + 29 * r)), (0, .ref 1), (1, .ref (35 + 2 * b))], [.ref (35 + 2 * b), .ref (141 + 29 * r)], (I, J, kR w rem, Z), 0, 0)) 2 ?_ (fun m_ x_ Q_ k_ => ⟨trivial, trivial, k_⟩)
  refine w_R.callV (ce' := 0) (sl' := 0) (v := none) (σ' := (I, J, kR w rem, z_97 I J Z r b e)) (as := [.ref (141 + 29 * r), .ref (35 + 2 * b)]) (rest := []) (d_97 r b e (by omega) hb he (by first | exact hab | (simp (disch := omega) only [s_upf]; exact hab))) ?_ rfl rfl rfl rfl rfl (sh_room (by omega)) rfl rfl rfl rfl
  show w_R xs Ln 51 (96, [(2, .ref (141 + 29 * r)), (0, .ref 1), (1, .ref (35 + 2 * b))], [], (I, J, kR w rem, z_97 I J Z r b e), 0, 0) _
  refine w_R.ret 2 (.inl none) (I, J, kR w rem, z_97 I J Z r b e) ?_ (fun x_ Q_ k_ => ⟨trivial, ⟨Nat.le_of_ble_eq_true rfl, Nat.le_of_ble_eq_true rfl⟩, k_⟩)
  exact ⟨rfl, by rw [show z_51r I J Z b r e = (z_97 I J Z r b e) from by unfold z_51r; rfl]⟩
def i_51p (I : Nat → Nat → Int32) (J : Nat → Nat → Int64) (Z : Nat → Nat → Bool) (b : Nat) (r : Nat) (u : Nat) : Nat → Nat → Int32 := i_99 I J Z r u b
def z_51p (I : Nat → Nat → Int32) (J : Nat → Nat → Int64) (Z : Nat → Nat → Bool) (b : Nat) (r : Nat) (u : Nat) : Nat → Nat → Bool := z_99 I J Z r u b
theorem d_51p (b : Nat) (r : Nat) (u : Nat) (hb : b < 50) (hr : r < 2) (hrv : I (35 + 2 * b) 2 = Int32.ofNat r) (hu : u < 6) (hab : I (35 + 2 * b) 3 = Int32.ofNat u) (hkd : I (35 + 2 * b) 0 = Int32.ofNat 6) : w_R xs Ln 51 (0, [(0, .ref 1), (1, .ref (35 + 2 * b))], [], (I, J, kR w rem, Z), 0, 0) (fun o s => o = .inl none ∧ s = (i_51p I J Z b r u, J, kR w rem, z_51p I J Z b r u)) := by
  refine w_R.go (c' := (8, [(0, .ref 1), (1, .ref (35 + 2 * b))], [.int (I (35 + 2 * b) 2), .ref 12], (I, J, kR w rem, Z), 0, 0)) 4 ?_ (fun m_ x_ Q_ k_ => ⟨trivial, ⟨sh_1, (Nat.succ_ne_zero 11)⟩, trivial, ⟨(sh_let hb), trivial⟩, k_⟩)
  rw [hrv]
  show w_R xs Ln 51 (8, [(0, .ref 1), (1, .ref (35 + 2 * b))], [.int (Int32.ofNat r), .ref 12], (I, J, kR w rem, Z), 0, 0) _
  refine w_R.go (c' := (9, [(0, .ref 1), (1, .ref (35 + 2 * b))], [.ref (kR w rem 12 (Int32.ofNat r).toNatClampNeg)], (I, J, kR w rem, Z), 0, 0)) 1 ?_ (fun m_ x_ Q_ k_ => ⟨⟨⟨_, sh_12, (n_in (a := r) (by omega) (by decide))⟩, (show kR w rem 12 (Int32.ofNat r).toNatClampNeg ≠ 0 by rw [n_cl (a := r) (by omega), r_room (w := w) (rem := rem) (r := r) (by omega)]; omega)⟩, k_⟩)
  rw [n_cl (a := r) (by omega)]
  rw [r_room (w := w) (rem := rem) (r := r) (by omega)]
  show w_R xs Ln 51 (9, [(0, .ref 1), (1, .ref (35 + 2 * b))], [.ref (141 + 29 * r)], (I, J, kR w rem, Z), 0, 0) _
  refine w_R.go (c' := (14, [(2, .ref (141 + 29 * r)), (0, .ref 1), (1, .ref (35 + 2 * b))], [.int (I (35 + 2 * b) 0)], (I, J, kR w rem, Z), 0, 0)) 3 ?_ (fun m_ x_ Q_ k_ => ⟨trivial, trivial, ⟨(sh_let hb), trivial⟩, k_⟩)
  rw [hkd]
  show w_R xs Ln 51 (14, [(2, .ref (141 + 29 * r)), (0, .ref 1), (1, .ref (35 + 2 * b))], [.int (Int32.ofNat 6)], (I, J, kR w rem, Z), 0, 0) _
  refine w_R.go (c' := (99, [(2, .ref (141 + 29 * r)), (0, .ref 1), (1, .ref (35 + 2 * b))], [], (I, J, kR w rem, Z), 0, 0)) 1 ?_ (fun m_ x_ Q_ k_ => ⟨trivial, k_⟩)
  refine w_R.go (c' := (103, [(2, .ref (141 + 29 * r)), (0, .ref 1), (1, .ref (35 + 2 * b))], [.ref (kR w rem (141 + 29 * r) 7)], (I, J, kR w rem, Z), 0, 0)) 2 ?_ (fun m_ x_ Q_ k_ => ⟨trivial, ⟨(sh_room (by omega)), (show kR w rem (141 + 29 * r) 7 ≠ 0 by rw [r_room7 (w := w) (rem := rem) (r := r) (by omega)]; omega)⟩, k_⟩)
  rw [r_room7 (w := w) (rem := rem) (r := r) (by omega)]
  show w_R xs Ln 51 (103, [(2, .ref (141 + 29 * r)), (0, .ref 1), (1, .ref (35 + 2 * b))], [.ref (145 + 29 * r)], (I, J, kR w rem, Z), 0, 0) _
  refine w_R.go (c' := (107, [(2, .ref (141 + 29 * r)), (0, .ref 1), (1, .ref (35 + 2 * b))], [.int (I (35 + 2 * b) 3), .ref (145 + 29 * r)], (I, J, kR w rem, Z), 0, 0)) 2 ?_ (fun m_ x_ Q_ k_ => ⟨trivial, ⟨(sh_let hb), trivial⟩, k_⟩)
  rw [hab]
  show w_R xs Ln 51 (107, [(2, .ref (141 + 29 * r)), (0, .ref 1), (1, .ref (35 + 2 * b))], [.int (Int32.ofNat u), .ref (145 + 29 * r)], (I, J, kR w rem, Z), 0, 0) _
  refine w_R.go (c' := (108, [(2, .ref (141 + 29 * r)), (0, .ref 1), (1, .ref (35 + 2 * b))], [.ref (kR w rem (145 + 29 * r) (Int32.ofNat u).toNatClampNeg)], (I, J, kR w rem, Z), 0, 0)) 1 ?_ (fun m_ x_ Q_ k_ => ⟨⟨⟨_, (sh_room7 (by omega)), (n_in (a := u) (by omega) (by decide))⟩, (show kR w rem (145 + 29 * r) (Int32.ofNat u).toNatClampNeg ≠ 0 by rw [n_cl (a := u) (by omega), r_sight (w := w) (rem := rem) (r := r) (u := u) (by omega) (by omega)]; omega)⟩, k_⟩)
  rw [n_cl (a := u) (by omega)]
  rw [r_sight (w := w) (rem := rem) (r := r) (u := u) (by omega) (by omega)]
  show w_R xs Ln 51 (108, [(2, .ref (141 + 29 * r)), (0, .ref 1), (1, .ref (35 + 2 * b))], [.ref (164 + 29 * r + u)], (I, J, kR w rem, Z), 0, 0) _
  refine w_R.go (c' := (109, [(2, .ref (141 + 29 * r)), (0, .ref 1), (1, .ref (35 + 2 * b))], [.ref (35 + 2 * b), .ref (164 + 29 * r + u)], (I, J, kR w rem, Z), 0, 0)) 1 ?_ (fun m_ x_ Q_ k_ => ⟨trivial, k_⟩)
  refine w_R.callV (ce' := 0) (sl' := 0) (v := none) (σ' := (i_99 I J Z r u b, J, kR w rem, z_99 I J Z r u b)) (as := [.ref (164 + 29 * r + u), .ref (35 + 2 * b)]) (rest := []) (d_99 r u b (by omega) (by omega) hb) ?_ rfl rfl rfl rfl rfl (sh_sight (by omega) (by omega)) rfl rfl rfl rfl
  show w_R xs Ln 51 (112, [(2, .ref (141 + 29 * r)), (0, .ref 1), (1, .ref (35 + 2 * b))], [], (i_99 I J Z r u b, J, kR w rem, z_99 I J Z r u b), 0, 0) _
  refine w_R.ret 2 (.inl none) (i_99 I J Z r u b, J, kR w rem, z_99 I J Z r u b) ?_ (fun x_ Q_ k_ => ⟨trivial, ⟨Nat.le_of_ble_eq_true rfl, Nat.le_of_ble_eq_true rfl⟩, k_⟩)
  exact ⟨rfl, by rw [show i_51p I J Z b r u = (i_99 I J Z r u b) from by unfold i_51p; rfl, show z_51p I J Z b r u = (z_99 I J Z r u b) from by unfold z_51p; rfl]⟩
end RunsP
