section RunsP
variable {xs : Nat → Int32} {Ln : Nat} {I : Nat → Nat → Int32} {J : Nat → Nat → Int64} {Z : Nat → Nat → Bool} {w : Nat → Nat} {rem : Nat}
theorem n_div {a b : Nat} (ha : a < 2 ^ 31) (hb : b < 2 ^ 31) : Int32.ofNat a / Int32.ofNat b = Int32.ofNat (a / b) := by
  have h : a / b ≤ a := Nat.div_le_self a b
  rw [← Int32.toInt_inj, Int32.toInt_div, n_int ha, n_int hb, n_int (by omega), ← Int.ofNat_tdiv]
  generalize a / b = c at h ⊢
  exact Int.bmod_eq_of_le (by omega) (by omega)
theorem n_rem {a b : Nat} (ha : a < 2 ^ 31) (hb : b < 2 ^ 31) : Int32.ofNat a - Int32.ofNat a / Int32.ofNat b * Int32.ofNat b = Int32.ofNat (a % b) := by
  have h1 : a / b * b ≤ a := Nat.div_mul_le_self a b
  have h2 := Nat.div_add_mod a b
  rw [Nat.mul_comm] at h2
  rw [n_div ha hb, n_mul, n_sub h1]
  congr 1
  omega
theorem s89a1 (f : Nat) (t : Nat) (e : Nat) (z : Bool) (hf : f < 12) (ht : t < 12) (he : I 5 (f * 12 + t) = Int32.ofNat e) (he0 : e = 0) (Q : i_O → s_S → Prop) (hx : w_R xs Ln 89 (12, [(3, .int (Int32.ofNat (t + 1))), (2, .int (Int32.ofNat f)), (1, .int (s_b z)), (0, .ref 2)], [], (I, J, kR w rem, Z), 0, 0) Q) : w_R xs Ln 89 (12, [(3, .int (Int32.ofNat t)), (2, .int (Int32.ofNat f)), (1, .int (s_b z)), (0, .ref 2)], [], (I, J, kR w rem, Z), 0, 0) Q := by
  refine w_R.go (c' := (i_br .ge (Int32.ofNat t) 12 90 18, [(3, .int (Int32.ofNat t)), (2, .int (Int32.ofNat f)), (1, .int (s_b z)), (0, .ref 2)], [], (I, J, kR w rem, Z), 0, 0)) 3 ?_ (fun m_ x_ Q_ k_ => ⟨trivial, trivial, trivial, k_⟩)
  rw [show i_br .ge (Int32.ofNat t) 12 90 18 = 18 from if_neg (Int32.not_le.mpr ((n_lt (a := t) (b := 12) (by omega) (by omega)).mpr (by omega)))]
  show w_R xs Ln 89 (18, [(3, .int (Int32.ofNat t)), (2, .int (Int32.ofNat f)), (1, .int (s_b z)), (0, .ref 2)], [], (I, J, kR w rem, Z), 0, 0) _
  refine w_R.go (c' := (26, [(3, .int (Int32.ofNat t)), (2, .int (Int32.ofNat f)), (1, .int (s_b z)), (0, .ref 2)], [.int (Int32.ofNat f * Int32.ofNat 12), .ref 5], (I, J, kR w rem, Z), 0, 0)) 5 ?_ (fun m_ x_ Q_ k_ => ⟨trivial, ⟨sh_2, (Nat.succ_ne_zero 4)⟩, trivial, trivial, trivial, k_⟩)
  rw [n_mul f 12]
  show w_R xs Ln 89 (26, [(3, .int (Int32.ofNat t)), (2, .int (Int32.ofNat f)), (1, .int (s_b z)), (0, .ref 2)], [.int (Int32.ofNat (f * 12)), .ref 5], (I, J, kR w rem, Z), 0, 0) _
  refine w_R.go (c' := (28, [(3, .int (Int32.ofNat t)), (2, .int (Int32.ofNat f)), (1, .int (s_b z)), (0, .ref 2)], [.int (Int32.ofNat (f * 12) + Int32.ofNat t), .ref 5], (I, J, kR w rem, Z), 0, 0)) 2 ?_ (fun m_ x_ Q_ k_ => ⟨trivial, trivial, k_⟩)
  rw [n_add (f * 12) t]
  show w_R xs Ln 89 (28, [(3, .int (Int32.ofNat t)), (2, .int (Int32.ofNat f)), (1, .int (s_b z)), (0, .ref 2)], [.int (Int32.ofNat ((f * 12) + t)), .ref 5], (I, J, kR w rem, Z), 0, 0) _
  refine w_R.go (c' := (29, [(3, .int (Int32.ofNat t)), (2, .int (Int32.ofNat f)), (1, .int (s_b z)), (0, .ref 2)], [.int (I 5 (Int32.ofNat ((f * 12) + t)).toNatClampNeg)], (I, J, kR w rem, Z), 0, 0)) 1 ?_ (fun m_ x_ Q_ k_ => ⟨⟨_, sh_5, (n_in (a := (f * 12) + t) (by omega) (by decide))⟩, k_⟩)
  rw [n_cl (a := (f * 12) + t) (by omega)]
  rw [he]
  show w_R xs Ln 89 (29, [(3, .int (Int32.ofNat t)), (2, .int (Int32.ofNat f)), (1, .int (s_b z)), (0, .ref 2)], [.int (Int32.ofNat e)], (I, J, kR w rem, Z), 0, 0) _
  refine w_R.go (c' := (i_br .le (Int32.ofNat e) 0 84 36, [(4, .int (Int32.ofNat e)), (3, .int (Int32.ofNat t)), (2, .int (Int32.ofNat f)), (1, .int (s_b z)), (0, .ref 2)], [], (I, J, kR w rem, Z), 0, 0)) 3 ?_ (fun m_ x_ Q_ k_ => ⟨trivial, trivial, trivial, k_⟩)
  rw [show i_br .le (Int32.ofNat e) 0 84 36 = 84 from if_pos (Int32.not_lt.mp (mt (n_lt (a := 0) (b := e) (by omega) (by omega)).mp (by omega)))]
  show w_R xs Ln 89 (84, [(4, .int (Int32.ofNat e)), (3, .int (Int32.ofNat t)), (2, .int (Int32.ofNat f)), (1, .int (s_b z)), (0, .ref 2)], [], (I, J, kR w rem, Z), 0, 0) _
  refine w_R.go (c' := (87, [(3, .int (Int32.ofNat t + Int32.ofNat 1)), (4, .int (Int32.ofNat e)), (2, .int (Int32.ofNat f)), (1, .int (s_b z)), (0, .ref 2)], [], (I, J, kR w rem, Z), 0, 0)) 1 ?_ (fun m_ x_ Q_ k_ => ⟨trivial, k_⟩)
  rw [n_add t 1]
  show w_R xs Ln 89 (87, [(3, .int (Int32.ofNat (t + 1))), (4, .int (Int32.ofNat e)), (2, .int (Int32.ofNat f)), (1, .int (s_b z)), (0, .ref 2)], [], (I, J, kR w rem, Z), 0, 0) _
  refine w_R.go (c' := (12, [(3, .int (Int32.ofNat (t + 1))), (4, .int (Int32.ofNat e)), (2, .int (Int32.ofNat f)), (1, .int (s_b z)), (0, .ref 2)], [], (I, J, kR w rem, Z), 0, 0)) 1 ?_ (fun m_ x_ Q_ k_ => ⟨trivial, k_⟩)
  refine w_R.drop (fun i => decide (i = 4)) ?_
  exact hx
theorem s89b1 (f : Nat) (t : Nat) (e : Nat) (z : Bool) (hf : f < 12) (ht : t < 12) (he : I 5 (f * 12 + t) = Int32.ofNat e) (he0 : 1 ≤ e ∧ e < 1000) (hdt : I 4 t = (-1)) (Q : i_O → s_S → Prop) (hx : w_R xs Ln 89 (12, [(3, .int (Int32.ofNat (t + 1))), (2, .int (Int32.ofNat f)), (1, .int (s_b z)), (0, .ref 2)], [], (I, J, kR w rem, Z), 0, 0) Q) : w_R xs Ln 89 (12, [(3, .int (Int32.ofNat t)), (2, .int (Int32.ofNat f)), (1, .int (s_b z)), (0, .ref 2)], [], (I, J, kR w rem, Z), 0, 0) Q := by
  refine w_R.go (c' := (i_br .ge (Int32.ofNat t) 12 90 18, [(3, .int (Int32.ofNat t)), (2, .int (Int32.ofNat f)), (1, .int (s_b z)), (0, .ref 2)], [], (I, J, kR w rem, Z), 0, 0)) 3 ?_ (fun m_ x_ Q_ k_ => ⟨trivial, trivial, trivial, k_⟩)
  rw [show i_br .ge (Int32.ofNat t) 12 90 18 = 18 from if_neg (Int32.not_le.mpr ((n_lt (a := t) (b := 12) (by omega) (by omega)).mpr (by omega)))]
  show w_R xs Ln 89 (18, [(3, .int (Int32.ofNat t)), (2, .int (Int32.ofNat f)), (1, .int (s_b z)), (0, .ref 2)], [], (I, J, kR w rem, Z), 0, 0) _
  refine w_R.go (c' := (26, [(3, .int (Int32.ofNat t)), (2, .int (Int32.ofNat f)), (1, .int (s_b z)), (0, .ref 2)], [.int (Int32.ofNat f * Int32.ofNat 12), .ref 5], (I, J, kR w rem, Z), 0, 0)) 5 ?_ (fun m_ x_ Q_ k_ => ⟨trivial, ⟨sh_2, (Nat.succ_ne_zero 4)⟩, trivial, trivial, trivial, k_⟩)
  rw [n_mul f 12]
  show w_R xs Ln 89 (26, [(3, .int (Int32.ofNat t)), (2, .int (Int32.ofNat f)), (1, .int (s_b z)), (0, .ref 2)], [.int (Int32.ofNat (f * 12)), .ref 5], (I, J, kR w rem, Z), 0, 0) _
  refine w_R.go (c' := (28, [(3, .int (Int32.ofNat t)), (2, .int (Int32.ofNat f)), (1, .int (s_b z)), (0, .ref 2)], [.int (Int32.ofNat (f * 12) + Int32.ofNat t), .ref 5], (I, J, kR w rem, Z), 0, 0)) 2 ?_ (fun m_ x_ Q_ k_ => ⟨trivial, trivial, k_⟩)
  rw [n_add (f * 12) t]
  show w_R xs Ln 89 (28, [(3, .int (Int32.ofNat t)), (2, .int (Int32.ofNat f)), (1, .int (s_b z)), (0, .ref 2)], [.int (Int32.ofNat ((f * 12) + t)), .ref 5], (I, J, kR w rem, Z), 0, 0) _
  refine w_R.go (c' := (29, [(3, .int (Int32.ofNat t)), (2, .int (Int32.ofNat f)), (1, .int (s_b z)), (0, .ref 2)], [.int (I 5 (Int32.ofNat ((f * 12) + t)).toNatClampNeg)], (I, J, kR w rem, Z), 0, 0)) 1 ?_ (fun m_ x_ Q_ k_ => ⟨⟨_, sh_5, (n_in (a := (f * 12) + t) (by omega) (by decide))⟩, k_⟩)
  rw [n_cl (a := (f * 12) + t) (by omega)]
  rw [he]
  show w_R xs Ln 89 (29, [(3, .int (Int32.ofNat t)), (2, .int (Int32.ofNat f)), (1, .int (s_b z)), (0, .ref 2)], [.int (Int32.ofNat e)], (I, J, kR w rem, Z), 0, 0) _
  refine w_R.go (c' := (i_br .le (Int32.ofNat e) 0 84 36, [(4, .int (Int32.ofNat e)), (3, .int (Int32.ofNat t)), (2, .int (Int32.ofNat f)), (1, .int (s_b z)), (0, .ref 2)], [], (I, J, kR w rem, Z), 0, 0)) 3 ?_ (fun m_ x_ Q_ k_ => ⟨trivial, trivial, trivial, k_⟩)
  rw [show i_br .le (Int32.ofNat e) 0 84 36 = 36 from if_neg (Int32.not_le.mpr ((n_lt (a := 0) (b := e) (by omega) (by omega)).mpr (by omega)))]
  show w_R xs Ln 89 (36, [(4, .int (Int32.ofNat e)), (3, .int (Int32.ofNat t)), (2, .int (Int32.ofNat f)), (1, .int (s_b z)), (0, .ref 2)], [], (I, J, kR w rem, Z), 0, 0) _
  refine w_R.go (c' := (42, [(4, .int (Int32.ofNat e)), (3, .int (Int32.ofNat t)), (2, .int (Int32.ofNat f)), (1, .int (s_b z)), (0, .ref 2)], [.int (I 4 (Int32.ofNat t).toNatClampNeg)], (I, J, kR w rem, Z), 0, 0)) 4 ?_ (fun m_ x_ Q_ k_ => ⟨trivial, ⟨sh_2, (Nat.succ_ne_zero 3)⟩, trivial, ⟨_, sh_4, (n_in (a := t) (by omega) (by decide))⟩, k_⟩)
  rw [n_cl (a := t) (by omega)]
  rw [hdt]
  show w_R xs Ln 89 (42, [(4, .int (Int32.ofNat e)), (3, .int (Int32.ofNat t)), (2, .int (Int32.ofNat f)), (1, .int (s_b z)), (0, .ref 2)], [.int (-1)], (I, J, kR w rem, Z), 0, 0) _
  refine w_R.go (c' := (84, [(4, .int (Int32.ofNat e)), (3, .int (Int32.ofNat t)), (2, .int (Int32.ofNat f)), (1, .int (s_b z)), (0, .ref 2)], [], (I, J, kR w rem, Z), 0, 0)) 2 ?_ (fun m_ x_ Q_ k_ => ⟨trivial, trivial, k_⟩)
  refine w_R.go (c' := (87, [(3, .int (Int32.ofNat t + Int32.ofNat 1)), (4, .int (Int32.ofNat e)), (2, .int (Int32.ofNat f)), (1, .int (s_b z)), (0, .ref 2)], [], (I, J, kR w rem, Z), 0, 0)) 1 ?_ (fun m_ x_ Q_ k_ => ⟨trivial, k_⟩)
  rw [n_add t 1]
  show w_R xs Ln 89 (87, [(3, .int (Int32.ofNat (t + 1))), (4, .int (Int32.ofNat e)), (2, .int (Int32.ofNat f)), (1, .int (s_b z)), (0, .ref 2)], [], (I, J, kR w rem, Z), 0, 0) _
  refine w_R.go (c' := (12, [(3, .int (Int32.ofNat (t + 1))), (4, .int (Int32.ofNat e)), (2, .int (Int32.ofNat f)), (1, .int (s_b z)), (0, .ref 2)], [], (I, J, kR w rem, Z), 0, 0)) 1 ?_ (fun m_ x_ Q_ k_ => ⟨trivial, k_⟩)
  refine w_R.drop (fun i => decide (i = 4)) ?_
  exact hx
theorem s89c1 (f : Nat) (t : Nat) (e : Nat) (x : Nat) (z : Bool) (hf : f < 12) (ht : t < 12) (he : I 5 (f * 12 + t) = Int32.ofNat e) (he0 : 1 ≤ e ∧ e < 1000) (hx9 : x < 100000000) (hdt : I 4 t = Int32.ofNat x) (hdf : I 4 f = (-1)) (hv : v_90 I J Z (Int32.ofNat (e + x)) (-1) = true) (Q : i_O → s_S → Prop) (hx : w_R xs Ln 89 (12, [(3, .int (Int32.ofNat (t + 1))), (1, .int 1), (2, .int (Int32.ofNat f)), (0, .ref 2)], [], (s_up I 4 f (Int32.ofNat (e + x)), J, kR w rem, Z), 0, 0) Q) : w_R xs Ln 89 (12, [(3, .int (Int32.ofNat t)), (2, .int (Int32.ofNat f)), (1, .int (s_b z)), (0, .ref 2)], [], (I, J, kR w rem, Z), 0, 0) Q := by
  refine w_R.go (c' := (i_br .ge (Int32.ofNat t) 12 90 18, [(3, .int (Int32.ofNat t)), (2, .int (Int32.ofNat f)), (1, .int (s_b z)), (0, .ref 2)], [], (I, J, kR w rem, Z), 0, 0)) 3 ?_ (fun m_ x_ Q_ k_ => ⟨trivial, trivial, trivial, k_⟩)
  rw [show i_br .ge (Int32.ofNat t) 12 90 18 = 18 from if_neg (Int32.not_le.mpr ((n_lt (a := t) (b := 12) (by omega) (by omega)).mpr (by omega)))]
  show w_R xs Ln 89 (18, [(3, .int (Int32.ofNat t)), (2, .int (Int32.ofNat f)), (1, .int (s_b z)), (0, .ref 2)], [], (I, J, kR w rem, Z), 0, 0) _
  refine w_R.go (c' := (26, [(3, .int (Int32.ofNat t)), (2, .int (Int32.ofNat f)), (1, .int (s_b z)), (0, .ref 2)], [.int (Int32.ofNat f * Int32.ofNat 12), .ref 5], (I, J, kR w rem, Z), 0, 0)) 5 ?_ (fun m_ x_ Q_ k_ => ⟨trivial, ⟨sh_2, (Nat.succ_ne_zero 4)⟩, trivial, trivial, trivial, k_⟩)
  rw [n_mul f 12]
  show w_R xs Ln 89 (26, [(3, .int (Int32.ofNat t)), (2, .int (Int32.ofNat f)), (1, .int (s_b z)), (0, .ref 2)], [.int (Int32.ofNat (f * 12)), .ref 5], (I, J, kR w rem, Z), 0, 0) _
  refine w_R.go (c' := (28, [(3, .int (Int32.ofNat t)), (2, .int (Int32.ofNat f)), (1, .int (s_b z)), (0, .ref 2)], [.int (Int32.ofNat (f * 12) + Int32.ofNat t), .ref 5], (I, J, kR w rem, Z), 0, 0)) 2 ?_ (fun m_ x_ Q_ k_ => ⟨trivial, trivial, k_⟩)
  rw [n_add (f * 12) t]
  show w_R xs Ln 89 (28, [(3, .int (Int32.ofNat t)), (2, .int (Int32.ofNat f)), (1, .int (s_b z)), (0, .ref 2)], [.int (Int32.ofNat ((f * 12) + t)), .ref 5], (I, J, kR w rem, Z), 0, 0) _
  refine w_R.go (c' := (29, [(3, .int (Int32.ofNat t)), (2, .int (Int32.ofNat f)), (1, .int (s_b z)), (0, .ref 2)], [.int (I 5 (Int32.ofNat ((f * 12) + t)).toNatClampNeg)], (I, J, kR w rem, Z), 0, 0)) 1 ?_ (fun m_ x_ Q_ k_ => ⟨⟨_, sh_5, (n_in (a := (f * 12) + t) (by omega) (by decide))⟩, k_⟩)
  rw [n_cl (a := (f * 12) + t) (by omega)]
  rw [he]
  show w_R xs Ln 89 (29, [(3, .int (Int32.ofNat t)), (2, .int (Int32.ofNat f)), (1, .int (s_b z)), (0, .ref 2)], [.int (Int32.ofNat e)], (I, J, kR w rem, Z), 0, 0) _
  refine w_R.go (c' := (i_br .le (Int32.ofNat e) 0 84 36, [(4, .int (Int32.ofNat e)), (3, .int (Int32.ofNat t)), (2, .int (Int32.ofNat f)), (1, .int (s_b z)), (0, .ref 2)], [], (I, J, kR w rem, Z), 0, 0)) 3 ?_ (fun m_ x_ Q_ k_ => ⟨trivial, trivial, trivial, k_⟩)
  rw [show i_br .le (Int32.ofNat e) 0 84 36 = 36 from if_neg (Int32.not_le.mpr ((n_lt (a := 0) (b := e) (by omega) (by omega)).mpr (by omega)))]
  show w_R xs Ln 89 (36, [(4, .int (Int32.ofNat e)), (3, .int (Int32.ofNat t)), (2, .int (Int32.ofNat f)), (1, .int (s_b z)), (0, .ref 2)], [], (I, J, kR w rem, Z), 0, 0) _
  refine w_R.go (c' := (42, [(4, .int (Int32.ofNat e)), (3, .int (Int32.ofNat t)), (2, .int (Int32.ofNat f)), (1, .int (s_b z)), (0, .ref 2)], [.int (I 4 (Int32.ofNat t).toNatClampNeg)], (I, J, kR w rem, Z), 0, 0)) 4 ?_ (fun m_ x_ Q_ k_ => ⟨trivial, ⟨sh_2, (Nat.succ_ne_zero 3)⟩, trivial, ⟨_, sh_4, (n_in (a := t) (by omega) (by decide))⟩, k_⟩)
  rw [n_cl (a := t) (by omega)]
  rw [hdt]
  show w_R xs Ln 89 (42, [(4, .int (Int32.ofNat e)), (3, .int (Int32.ofNat t)), (2, .int (Int32.ofNat f)), (1, .int (s_b z)), (0, .ref 2)], [.int (Int32.ofNat x)], (I, J, kR w rem, Z), 0, 0) _
  refine w_R.go (c' := (i_br .eq (Int32.ofNat x) (-1) 84 46, [(4, .int (Int32.ofNat e)), (3, .int (Int32.ofNat t)), (2, .int (Int32.ofNat f)), (1, .int (s_b z)), (0, .ref 2)], [], (I, J, kR w rem, Z), 0, 0)) 2 ?_ (fun m_ x_ Q_ k_ => ⟨trivial, trivial, k_⟩)
  rw [show i_br .eq (Int32.ofNat x) (-1) 84 46 = 46 from if_neg (n_neg (n := x) (by omega))]
  show w_R xs Ln 89 (46, [(4, .int (Int32.ofNat e)), (3, .int (Int32.ofNat t)), (2, .int (Int32.ofNat f)), (1, .int (s_b z)), (0, .ref 2)], [], (I, J, kR w rem, Z), 0, 0) _
  refine w_R.go (c' := (54, [(4, .int (Int32.ofNat e)), (3, .int (Int32.ofNat t)), (2, .int (Int32.ofNat f)), (1, .int (s_b z)), (0, .ref 2)], [.int (I 4 (Int32.ofNat t).toNatClampNeg), .int (Int32.ofNat e)], (I, J, kR w rem, Z), 0, 0)) 5 ?_ (fun m_ x_ Q_ k_ => ⟨trivial, trivial, ⟨sh_2, (Nat.succ_ne_zero 3)⟩, trivial, ⟨_, sh_4, (n_in (a := t) (by omega) (by decide))⟩, k_⟩)
  rw [n_cl (a := t) (by omega)]
  rw [hdt]
  show w_R xs Ln 89 (54, [(4, .int (Int32.ofNat e)), (3, .int (Int32.ofNat t)), (2, .int (Int32.ofNat f)), (1, .int (s_b z)), (0, .ref 2)], [.int (Int32.ofNat x), .int (Int32.ofNat e)], (I, J, kR w rem, Z), 0, 0) _
  refine w_R.go (c' := (55, [(4, .int (Int32.ofNat e)), (3, .int (Int32.ofNat t)), (2, .int (Int32.ofNat f)), (1, .int (s_b z)), (0, .ref 2)], [.int (Int32.ofNat e + Int32.ofNat x)], (I, J, kR w rem, Z), 0, 0)) 1 ?_ (fun m_ x_ Q_ k_ => ⟨trivial, k_⟩)
  rw [n_add e x]
  show w_R xs Ln 89 (55, [(4, .int (Int32.ofNat e)), (3, .int (Int32.ofNat t)), (2, .int (Int32.ofNat f)), (1, .int (s_b z)), (0, .ref 2)], [.int (Int32.ofNat (e + x))], (I, J, kR w rem, Z), 0, 0) _
  refine w_R.go (c' := (61, [(4, .int (Int32.ofNat e)), (3, .int (Int32.ofNat t)), (2, .int (Int32.ofNat f)), (1, .int (s_b z)), (0, .ref 2)], [.int (I 4 (Int32.ofNat f).toNatClampNeg), .int (Int32.ofNat (e + x))], (I, J, kR w rem, Z), 0, 0)) 4 ?_ (fun m_ x_ Q_ k_ => ⟨trivial, ⟨sh_2, (Nat.succ_ne_zero 3)⟩, trivial, ⟨_, sh_4, (n_in (a := f) (by omega) (by decide))⟩, k_⟩)
  rw [n_cl (a := f) (by omega)]
  rw [hdf]
  show w_R xs Ln 89 (61, [(4, .int (Int32.ofNat e)), (3, .int (Int32.ofNat t)), (2, .int (Int32.ofNat f)), (1, .int (s_b z)), (0, .ref 2)], [.int (-1), .int (Int32.ofNat (e + x))], (I, J, kR w rem, Z), 0, 0) _
  refine w_R.callS (ce' := 0) (sl' := 0) (v := some (.int (s_b (v_90 I J Z (Int32.ofNat (e + x)) (-1))))) (σ' := (I, J, kR w rem, Z)) (as := [.int (Int32.ofNat (e + x)), .int (-1)]) (rest := []) (d_90 (Int32.ofNat (e + x)) (-1) ) ?_ rfl rfl rfl rfl rfl rfl rfl rfl rfl
  rw [show v_90 I J Z (Int32.ofNat (e + x)) (-1) = true from hv]
  show w_R xs Ln 89 (64, [(4, .int (Int32.ofNat e)), (3, .int (Int32.ofNat t)), (2, .int (Int32.ofNat f)), (1, .int (s_b z)), (0, .ref 2)], [.int (s_b true)], (I, J, kR w rem, Z), 0, 0) _
  refine w_R.go (c' := (67, [(4, .int (Int32.ofNat e)), (3, .int (Int32.ofNat t)), (2, .int (Int32.ofNat f)), (1, .int (s_b z)), (0, .ref 2)], [], (I, J, kR w rem, Z), 0, 0)) 1 ?_ (fun m_ x_ Q_ k_ => ⟨trivial, k_⟩)
  refine w_R.go (c' := (80, [(4, .int (Int32.ofNat e)), (3, .int (Int32.ofNat t)), (2, .int (Int32.ofNat f)), (1, .int (s_b z)), (0, .ref 2)], [.int (I 4 (Int32.ofNat t).toNatClampNeg), .int (Int32.ofNat e), .int (Int32.ofNat f), .ref 4], (I, J, kR w rem, Z), 0, 0)) 8 ?_ (fun m_ x_ Q_ k_ => ⟨trivial, ⟨sh_2, (Nat.succ_ne_zero 3)⟩, trivial, trivial, trivial, ⟨sh_2, (Nat.succ_ne_zero 3)⟩, trivial, ⟨_, sh_4, (n_in (a := t) (by omega) (by decide))⟩, k_⟩)
  rw [n_cl (a := t) (by omega)]
  rw [hdt]
  show w_R xs Ln 89 (80, [(4, .int (Int32.ofNat e)), (3, .int (Int32.ofNat t)), (2, .int (Int32.ofNat f)), (1, .int (s_b z)), (0, .ref 2)], [.int (Int32.ofNat x), .int (Int32.ofNat e), .int (Int32.ofNat f), .ref 4], (I, J, kR w rem, Z), 0, 0) _
  refine w_R.go (c' := (81, [(4, .int (Int32.ofNat e)), (3, .int (Int32.ofNat t)), (2, .int (Int32.ofNat f)), (1, .int (s_b z)), (0, .ref 2)], [.int (Int32.ofNat e + Int32.ofNat x), .int (Int32.ofNat f), .ref 4], (I, J, kR w rem, Z), 0, 0)) 1 ?_ (fun m_ x_ Q_ k_ => ⟨trivial, k_⟩)
  rw [n_add e x]
  show w_R xs Ln 89 (81, [(4, .int (Int32.ofNat e)), (3, .int (Int32.ofNat t)), (2, .int (Int32.ofNat f)), (1, .int (s_b z)), (0, .ref 2)], [.int (Int32.ofNat (e + x)), .int (Int32.ofNat f), .ref 4], (I, J, kR w rem, Z), 0, 0) _
  refine w_R.go (c' := (82, [(4, .int (Int32.ofNat e)), (3, .int (Int32.ofNat t)), (2, .int (Int32.ofNat f)), (1, .int (s_b z)), (0, .ref 2)], [], (s_up I 4 ((Int32.ofNat f).toNatClampNeg) (Int32.ofNat (e + x)), J, kR w rem, Z), 0, 0)) 1 ?_ (fun m_ x_ Q_ k_ => ⟨⟨_, sh_4, (n_in (a := f) (by omega) (by decide))⟩, k_⟩)
  rw [n_cl (a := f) (by omega)]
  show w_R xs Ln 89 (82, [(4, .int (Int32.ofNat e)), (3, .int (Int32.ofNat t)), (2, .int (Int32.ofNat f)), (1, .int (s_b z)), (0, .ref 2)], [], (s_up I 4 f (Int32.ofNat (e + x)), J, kR w rem, Z), 0, 0) _
  refine w_R.go (c' := (87, [(3, .int (Int32.ofNat t + Int32.ofNat 1)), (1, .int 1), (4, .int (Int32.ofNat e)), (2, .int (Int32.ofNat f)), (0, .ref 2)], [], (s_up I 4 f (Int32.ofNat (e + x)), J, kR w rem, Z), 0, 0)) 3 ?_ (fun m_ x_ Q_ k_ => ⟨trivial, trivial, trivial, k_⟩)
  rw [n_add t 1]
  show w_R xs Ln 89 (87, [(3, .int (Int32.ofNat (t + 1))), (1, .int 1), (4, .int (Int32.ofNat e)), (2, .int (Int32.ofNat f)), (0, .ref 2)], [], (s_up I 4 f (Int32.ofNat (e + x)), J, kR w rem, Z), 0, 0) _
  refine w_R.go (c' := (12, [(3, .int (Int32.ofNat (t + 1))), (1, .int 1), (4, .int (Int32.ofNat e)), (2, .int (Int32.ofNat f)), (0, .ref 2)], [], (s_up I 4 f (Int32.ofNat (e + x)), J, kR w rem, Z), 0, 0)) 1 ?_ (fun m_ x_ Q_ k_ => ⟨trivial, k_⟩)
  refine w_R.drop (fun i => decide (i = 4)) ?_
  exact hx
theorem s89d1 (f : Nat) (t : Nat) (e : Nat) (x : Nat) (y : Nat) (z : Bool) (hf : f < 12) (ht : t < 12) (he : I 5 (f * 12 + t) = Int32.ofNat e) (he0 : 1 ≤ e ∧ e < 1000) (hx9 : x < 100000000) (hdt : I 4 t = Int32.ofNat x) (hdf : I 4 f = Int32.ofNat y) (hv : v_90 I J Z (Int32.ofNat (e + x)) (Int32.ofNat y) = true) (Q : i_O → s_S → Prop) (hx : w_R xs Ln 89 (12, [(3, .int (Int32.ofNat (t + 1))), (1, .int 1), (2, .int (Int32.ofNat f)), (0, .ref 2)], [], (s_up I 4 f (Int32.ofNat (e + x)), J, kR w rem, Z), 0, 0) Q) : w_R xs Ln 89 (12, [(3, .int (Int32.ofNat t)), (2, .int (Int32.ofNat f)), (1, .int (s_b z)), (0, .ref 2)], [], (I, J, kR w rem, Z), 0, 0) Q := by
  refine w_R.go (c' := (i_br .ge (Int32.ofNat t) 12 90 18, [(3, .int (Int32.ofNat t)), (2, .int (Int32.ofNat f)), (1, .int (s_b z)), (0, .ref 2)], [], (I, J, kR w rem, Z), 0, 0)) 3 ?_ (fun m_ x_ Q_ k_ => ⟨trivial, trivial, trivial, k_⟩)
  rw [show i_br .ge (Int32.ofNat t) 12 90 18 = 18 from if_neg (Int32.not_le.mpr ((n_lt (a := t) (b := 12) (by omega) (by omega)).mpr (by omega)))]
  show w_R xs Ln 89 (18, [(3, .int (Int32.ofNat t)), (2, .int (Int32.ofNat f)), (1, .int (s_b z)), (0, .ref 2)], [], (I, J, kR w rem, Z), 0, 0) _
  refine w_R.go (c' := (26, [(3, .int (Int32.ofNat t)), (2, .int (Int32.ofNat f)), (1, .int (s_b z)), (0, .ref 2)], [.int (Int32.ofNat f * Int32.ofNat 12), .ref 5], (I, J, kR w rem, Z), 0, 0)) 5 ?_ (fun m_ x_ Q_ k_ => ⟨trivial, ⟨sh_2, (Nat.succ_ne_zero 4)⟩, trivial, trivial, trivial, k_⟩)
  rw [n_mul f 12]
  show w_R xs Ln 89 (26, [(3, .int (Int32.ofNat t)), (2, .int (Int32.ofNat f)), (1, .int (s_b z)), (0, .ref 2)], [.int (Int32.ofNat (f * 12)), .ref 5], (I, J, kR w rem, Z), 0, 0) _
  refine w_R.go (c' := (28, [(3, .int (Int32.ofNat t)), (2, .int (Int32.ofNat f)), (1, .int (s_b z)), (0, .ref 2)], [.int (Int32.ofNat (f * 12) + Int32.ofNat t), .ref 5], (I, J, kR w rem, Z), 0, 0)) 2 ?_ (fun m_ x_ Q_ k_ => ⟨trivial, trivial, k_⟩)
  rw [n_add (f * 12) t]
  show w_R xs Ln 89 (28, [(3, .int (Int32.ofNat t)), (2, .int (Int32.ofNat f)), (1, .int (s_b z)), (0, .ref 2)], [.int (Int32.ofNat ((f * 12) + t)), .ref 5], (I, J, kR w rem, Z), 0, 0) _
  refine w_R.go (c' := (29, [(3, .int (Int32.ofNat t)), (2, .int (Int32.ofNat f)), (1, .int (s_b z)), (0, .ref 2)], [.int (I 5 (Int32.ofNat ((f * 12) + t)).toNatClampNeg)], (I, J, kR w rem, Z), 0, 0)) 1 ?_ (fun m_ x_ Q_ k_ => ⟨⟨_, sh_5, (n_in (a := (f * 12) + t) (by omega) (by decide))⟩, k_⟩)
  rw [n_cl (a := (f * 12) + t) (by omega)]
  rw [he]
  show w_R xs Ln 89 (29, [(3, .int (Int32.ofNat t)), (2, .int (Int32.ofNat f)), (1, .int (s_b z)), (0, .ref 2)], [.int (Int32.ofNat e)], (I, J, kR w rem, Z), 0, 0) _
  refine w_R.go (c' := (i_br .le (Int32.ofNat e) 0 84 36, [(4, .int (Int32.ofNat e)), (3, .int (Int32.ofNat t)), (2, .int (Int32.ofNat f)), (1, .int (s_b z)), (0, .ref 2)], [], (I, J, kR w rem, Z), 0, 0)) 3 ?_ (fun m_ x_ Q_ k_ => ⟨trivial, trivial, trivial, k_⟩)
  rw [show i_br .le (Int32.ofNat e) 0 84 36 = 36 from if_neg (Int32.not_le.mpr ((n_lt (a := 0) (b := e) (by omega) (by omega)).mpr (by omega)))]
  show w_R xs Ln 89 (36, [(4, .int (Int32.ofNat e)), (3, .int (Int32.ofNat t)), (2, .int (Int32.ofNat f)), (1, .int (s_b z)), (0, .ref 2)], [], (I, J, kR w rem, Z), 0, 0) _
  refine w_R.go (c' := (42, [(4, .int (Int32.ofNat e)), (3, .int (Int32.ofNat t)), (2, .int (Int32.ofNat f)), (1, .int (s_b z)), (0, .ref 2)], [.int (I 4 (Int32.ofNat t).toNatClampNeg)], (I, J, kR w rem, Z), 0, 0)) 4 ?_ (fun m_ x_ Q_ k_ => ⟨trivial, ⟨sh_2, (Nat.succ_ne_zero 3)⟩, trivial, ⟨_, sh_4, (n_in (a := t) (by omega) (by decide))⟩, k_⟩)
  rw [n_cl (a := t) (by omega)]
  rw [hdt]
  show w_R xs Ln 89 (42, [(4, .int (Int32.ofNat e)), (3, .int (Int32.ofNat t)), (2, .int (Int32.ofNat f)), (1, .int (s_b z)), (0, .ref 2)], [.int (Int32.ofNat x)], (I, J, kR w rem, Z), 0, 0) _
  refine w_R.go (c' := (i_br .eq (Int32.ofNat x) (-1) 84 46, [(4, .int (Int32.ofNat e)), (3, .int (Int32.ofNat t)), (2, .int (Int32.ofNat f)), (1, .int (s_b z)), (0, .ref 2)], [], (I, J, kR w rem, Z), 0, 0)) 2 ?_ (fun m_ x_ Q_ k_ => ⟨trivial, trivial, k_⟩)
  rw [show i_br .eq (Int32.ofNat x) (-1) 84 46 = 46 from if_neg (n_neg (n := x) (by omega))]
  show w_R xs Ln 89 (46, [(4, .int (Int32.ofNat e)), (3, .int (Int32.ofNat t)), (2, .int (Int32.ofNat f)), (1, .int (s_b z)), (0, .ref 2)], [], (I, J, kR w rem, Z), 0, 0) _
  refine w_R.go (c' := (54, [(4, .int (Int32.ofNat e)), (3, .int (Int32.ofNat t)), (2, .int (Int32.ofNat f)), (1, .int (s_b z)), (0, .ref 2)], [.int (I 4 (Int32.ofNat t).toNatClampNeg), .int (Int32.ofNat e)], (I, J, kR w rem, Z), 0, 0)) 5 ?_ (fun m_ x_ Q_ k_ => ⟨trivial, trivial, ⟨sh_2, (Nat.succ_ne_zero 3)⟩, trivial, ⟨_, sh_4, (n_in (a := t) (by omega) (by decide))⟩, k_⟩)
  rw [n_cl (a := t) (by omega)]
  rw [hdt]
  show w_R xs Ln 89 (54, [(4, .int (Int32.ofNat e)), (3, .int (Int32.ofNat t)), (2, .int (Int32.ofNat f)), (1, .int (s_b z)), (0, .ref 2)], [.int (Int32.ofNat x), .int (Int32.ofNat e)], (I, J, kR w rem, Z), 0, 0) _
  refine w_R.go (c' := (55, [(4, .int (Int32.ofNat e)), (3, .int (Int32.ofNat t)), (2, .int (Int32.ofNat f)), (1, .int (s_b z)), (0, .ref 2)], [.int (Int32.ofNat e + Int32.ofNat x)], (I, J, kR w rem, Z), 0, 0)) 1 ?_ (fun m_ x_ Q_ k_ => ⟨trivial, k_⟩)
  rw [n_add e x]
  show w_R xs Ln 89 (55, [(4, .int (Int32.ofNat e)), (3, .int (Int32.ofNat t)), (2, .int (Int32.ofNat f)), (1, .int (s_b z)), (0, .ref 2)], [.int (Int32.ofNat (e + x))], (I, J, kR w rem, Z), 0, 0) _
  refine w_R.go (c' := (61, [(4, .int (Int32.ofNat e)), (3, .int (Int32.ofNat t)), (2, .int (Int32.ofNat f)), (1, .int (s_b z)), (0, .ref 2)], [.int (I 4 (Int32.ofNat f).toNatClampNeg), .int (Int32.ofNat (e + x))], (I, J, kR w rem, Z), 0, 0)) 4 ?_ (fun m_ x_ Q_ k_ => ⟨trivial, ⟨sh_2, (Nat.succ_ne_zero 3)⟩, trivial, ⟨_, sh_4, (n_in (a := f) (by omega) (by decide))⟩, k_⟩)
  rw [n_cl (a := f) (by omega)]
  rw [hdf]
  show w_R xs Ln 89 (61, [(4, .int (Int32.ofNat e)), (3, .int (Int32.ofNat t)), (2, .int (Int32.ofNat f)), (1, .int (s_b z)), (0, .ref 2)], [.int (Int32.ofNat y), .int (Int32.ofNat (e + x))], (I, J, kR w rem, Z), 0, 0) _
  refine w_R.callS (ce' := 0) (sl' := 0) (v := some (.int (s_b (v_90 I J Z (Int32.ofNat (e + x)) (Int32.ofNat y))))) (σ' := (I, J, kR w rem, Z)) (as := [.int (Int32.ofNat (e + x)), .int (Int32.ofNat y)]) (rest := []) (d_90 (Int32.ofNat (e + x)) (Int32.ofNat y) ) ?_ rfl rfl rfl rfl rfl rfl rfl rfl rfl
  rw [show v_90 I J Z (Int32.ofNat (e + x)) (Int32.ofNat y) = true from hv]
  show w_R xs Ln 89 (64, [(4, .int (Int32.ofNat e)), (3, .int (Int32.ofNat t)), (2, .int (Int32.ofNat f)), (1, .int (s_b z)), (0, .ref 2)], [.int (s_b true)], (I, J, kR w rem, Z), 0, 0) _
  refine w_R.go (c' := (67, [(4, .int (Int32.ofNat e)), (3, .int (Int32.ofNat t)), (2, .int (Int32.ofNat f)), (1, .int (s_b z)), (0, .ref 2)], [], (I, J, kR w rem, Z), 0, 0)) 1 ?_ (fun m_ x_ Q_ k_ => ⟨trivial, k_⟩)
  refine w_R.go (c' := (80, [(4, .int (Int32.ofNat e)), (3, .int (Int32.ofNat t)), (2, .int (Int32.ofNat f)), (1, .int (s_b z)), (0, .ref 2)], [.int (I 4 (Int32.ofNat t).toNatClampNeg), .int (Int32.ofNat e), .int (Int32.ofNat f), .ref 4], (I, J, kR w rem, Z), 0, 0)) 8 ?_ (fun m_ x_ Q_ k_ => ⟨trivial, ⟨sh_2, (Nat.succ_ne_zero 3)⟩, trivial, trivial, trivial, ⟨sh_2, (Nat.succ_ne_zero 3)⟩, trivial, ⟨_, sh_4, (n_in (a := t) (by omega) (by decide))⟩, k_⟩)
  rw [n_cl (a := t) (by omega)]
  rw [hdt]
  show w_R xs Ln 89 (80, [(4, .int (Int32.ofNat e)), (3, .int (Int32.ofNat t)), (2, .int (Int32.ofNat f)), (1, .int (s_b z)), (0, .ref 2)], [.int (Int32.ofNat x), .int (Int32.ofNat e), .int (Int32.ofNat f), .ref 4], (I, J, kR w rem, Z), 0, 0) _
  refine w_R.go (c' := (81, [(4, .int (Int32.ofNat e)), (3, .int (Int32.ofNat t)), (2, .int (Int32.ofNat f)), (1, .int (s_b z)), (0, .ref 2)], [.int (Int32.ofNat e + Int32.ofNat x), .int (Int32.ofNat f), .ref 4], (I, J, kR w rem, Z), 0, 0)) 1 ?_ (fun m_ x_ Q_ k_ => ⟨trivial, k_⟩)
  rw [n_add e x]
  show w_R xs Ln 89 (81, [(4, .int (Int32.ofNat e)), (3, .int (Int32.ofNat t)), (2, .int (Int32.ofNat f)), (1, .int (s_b z)), (0, .ref 2)], [.int (Int32.ofNat (e + x)), .int (Int32.ofNat f), .ref 4], (I, J, kR w rem, Z), 0, 0) _
  refine w_R.go (c' := (82, [(4, .int (Int32.ofNat e)), (3, .int (Int32.ofNat t)), (2, .int (Int32.ofNat f)), (1, .int (s_b z)), (0, .ref 2)], [], (s_up I 4 ((Int32.ofNat f).toNatClampNeg) (Int32.ofNat (e + x)), J, kR w rem, Z), 0, 0)) 1 ?_ (fun m_ x_ Q_ k_ => ⟨⟨_, sh_4, (n_in (a := f) (by omega) (by decide))⟩, k_⟩)
  rw [n_cl (a := f) (by omega)]
  show w_R xs Ln 89 (82, [(4, .int (Int32.ofNat e)), (3, .int (Int32.ofNat t)), (2, .int (Int32.ofNat f)), (1, .int (s_b z)), (0, .ref 2)], [], (s_up I 4 f (Int32.ofNat (e + x)), J, kR w rem, Z), 0, 0) _
  refine w_R.go (c' := (87, [(3, .int (Int32.ofNat t + Int32.ofNat 1)), (1, .int 1), (4, .int (Int32.ofNat e)), (2, .int (Int32.ofNat f)), (0, .ref 2)], [], (s_up I 4 f (Int32.ofNat (e + x)), J, kR w rem, Z), 0, 0)) 3 ?_ (fun m_ x_ Q_ k_ => ⟨trivial, trivial, trivial, k_⟩)
  rw [n_add t 1]
  show w_R xs Ln 89 (87, [(3, .int (Int32.ofNat (t + 1))), (1, .int 1), (4, .int (Int32.ofNat e)), (2, .int (Int32.ofNat f)), (0, .ref 2)], [], (s_up I 4 f (Int32.ofNat (e + x)), J, kR w rem, Z), 0, 0) _
  refine w_R.go (c' := (12, [(3, .int (Int32.ofNat (t + 1))), (1, .int 1), (4, .int (Int32.ofNat e)), (2, .int (Int32.ofNat f)), (0, .ref 2)], [], (s_up I 4 f (Int32.ofNat (e + x)), J, kR w rem, Z), 0, 0)) 1 ?_ (fun m_ x_ Q_ k_ => ⟨trivial, k_⟩)
  refine w_R.drop (fun i => decide (i = 4)) ?_
  exact hx
theorem s89e1 (f : Nat) (t : Nat) (e : Nat) (x : Nat) (y : Nat) (z : Bool) (hf : f < 12) (ht : t < 12) (he : I 5 (f * 12 + t) = Int32.ofNat e) (he0 : 1 ≤ e ∧ e < 1000) (hx9 : x < 100000000) (hdt : I 4 t = Int32.ofNat x) (hdf : I 4 f = Int32.ofNat y) (hv : v_90 I J Z (Int32.ofNat (e + x)) (Int32.ofNat y) = false) (Q : i_O → s_S → Prop) (hx : w_R xs Ln 89 (12, [(3, .int (Int32.ofNat (t + 1))), (2, .int (Int32.ofNat f)), (1, .int (s_b z)), (0, .ref 2)], [], (I, J, kR w rem, Z), 0, 0) Q) : w_R xs Ln 89 (12, [(3, .int (Int32.ofNat t)), (2, .int (Int32.ofNat f)), (1, .int (s_b z)), (0, .ref 2)], [], (I, J, kR w rem, Z), 0, 0) Q := by
  refine w_R.go (c' := (i_br .ge (Int32.ofNat t) 12 90 18, [(3, .int (Int32.ofNat t)), (2, .int (Int32.ofNat f)), (1, .int (s_b z)), (0, .ref 2)], [], (I, J, kR w rem, Z), 0, 0)) 3 ?_ (fun m_ x_ Q_ k_ => ⟨trivial, trivial, trivial, k_⟩)
  rw [show i_br .ge (Int32.ofNat t) 12 90 18 = 18 from if_neg (Int32.not_le.mpr ((n_lt (a := t) (b := 12) (by omega) (by omega)).mpr (by omega)))]
  show w_R xs Ln 89 (18, [(3, .int (Int32.ofNat t)), (2, .int (Int32.ofNat f)), (1, .int (s_b z)), (0, .ref 2)], [], (I, J, kR w rem, Z), 0, 0) _
  refine w_R.go (c' := (26, [(3, .int (Int32.ofNat t)), (2, .int (Int32.ofNat f)), (1, .int (s_b z)), (0, .ref 2)], [.int (Int32.ofNat f * Int32.ofNat 12), .ref 5], (I, J, kR w rem, Z), 0, 0)) 5 ?_ (fun m_ x_ Q_ k_ => ⟨trivial, ⟨sh_2, (Nat.succ_ne_zero 4)⟩, trivial, trivial, trivial, k_⟩)
  rw [n_mul f 12]
  show w_R xs Ln 89 (26, [(3, .int (Int32.ofNat t)), (2, .int (Int32.ofNat f)), (1, .int (s_b z)), (0, .ref 2)], [.int (Int32.ofNat (f * 12)), .ref 5], (I, J, kR w rem, Z), 0, 0) _
  refine w_R.go (c' := (28, [(3, .int (Int32.ofNat t)), (2, .int (Int32.ofNat f)), (1, .int (s_b z)), (0, .ref 2)], [.int (Int32.ofNat (f * 12) + Int32.ofNat t), .ref 5], (I, J, kR w rem, Z), 0, 0)) 2 ?_ (fun m_ x_ Q_ k_ => ⟨trivial, trivial, k_⟩)
  rw [n_add (f * 12) t]
  show w_R xs Ln 89 (28, [(3, .int (Int32.ofNat t)), (2, .int (Int32.ofNat f)), (1, .int (s_b z)), (0, .ref 2)], [.int (Int32.ofNat ((f * 12) + t)), .ref 5], (I, J, kR w rem, Z), 0, 0) _
  refine w_R.go (c' := (29, [(3, .int (Int32.ofNat t)), (2, .int (Int32.ofNat f)), (1, .int (s_b z)), (0, .ref 2)], [.int (I 5 (Int32.ofNat ((f * 12) + t)).toNatClampNeg)], (I, J, kR w rem, Z), 0, 0)) 1 ?_ (fun m_ x_ Q_ k_ => ⟨⟨_, sh_5, (n_in (a := (f * 12) + t) (by omega) (by decide))⟩, k_⟩)
  rw [n_cl (a := (f * 12) + t) (by omega)]
  rw [he]
  show w_R xs Ln 89 (29, [(3, .int (Int32.ofNat t)), (2, .int (Int32.ofNat f)), (1, .int (s_b z)), (0, .ref 2)], [.int (Int32.ofNat e)], (I, J, kR w rem, Z), 0, 0) _
  refine w_R.go (c' := (i_br .le (Int32.ofNat e) 0 84 36, [(4, .int (Int32.ofNat e)), (3, .int (Int32.ofNat t)), (2, .int (Int32.ofNat f)), (1, .int (s_b z)), (0, .ref 2)], [], (I, J, kR w rem, Z), 0, 0)) 3 ?_ (fun m_ x_ Q_ k_ => ⟨trivial, trivial, trivial, k_⟩)
  rw [show i_br .le (Int32.ofNat e) 0 84 36 = 36 from if_neg (Int32.not_le.mpr ((n_lt (a := 0) (b := e) (by omega) (by omega)).mpr (by omega)))]
  show w_R xs Ln 89 (36, [(4, .int (Int32.ofNat e)), (3, .int (Int32.ofNat t)), (2, .int (Int32.ofNat f)), (1, .int (s_b z)), (0, .ref 2)], [], (I, J, kR w rem, Z), 0, 0) _
  refine w_R.go (c' := (42, [(4, .int (Int32.ofNat e)), (3, .int (Int32.ofNat t)), (2, .int (Int32.ofNat f)), (1, .int (s_b z)), (0, .ref 2)], [.int (I 4 (Int32.ofNat t).toNatClampNeg)], (I, J, kR w rem, Z), 0, 0)) 4 ?_ (fun m_ x_ Q_ k_ => ⟨trivial, ⟨sh_2, (Nat.succ_ne_zero 3)⟩, trivial, ⟨_, sh_4, (n_in (a := t) (by omega) (by decide))⟩, k_⟩)
  rw [n_cl (a := t) (by omega)]
  rw [hdt]
  show w_R xs Ln 89 (42, [(4, .int (Int32.ofNat e)), (3, .int (Int32.ofNat t)), (2, .int (Int32.ofNat f)), (1, .int (s_b z)), (0, .ref 2)], [.int (Int32.ofNat x)], (I, J, kR w rem, Z), 0, 0) _
  refine w_R.go (c' := (i_br .eq (Int32.ofNat x) (-1) 84 46, [(4, .int (Int32.ofNat e)), (3, .int (Int32.ofNat t)), (2, .int (Int32.ofNat f)), (1, .int (s_b z)), (0, .ref 2)], [], (I, J, kR w rem, Z), 0, 0)) 2 ?_ (fun m_ x_ Q_ k_ => ⟨trivial, trivial, k_⟩)
  rw [show i_br .eq (Int32.ofNat x) (-1) 84 46 = 46 from if_neg (n_neg (n := x) (by omega))]
  show w_R xs Ln 89 (46, [(4, .int (Int32.ofNat e)), (3, .int (Int32.ofNat t)), (2, .int (Int32.ofNat f)), (1, .int (s_b z)), (0, .ref 2)], [], (I, J, kR w rem, Z), 0, 0) _
  refine w_R.go (c' := (54, [(4, .int (Int32.ofNat e)), (3, .int (Int32.ofNat t)), (2, .int (Int32.ofNat f)), (1, .int (s_b z)), (0, .ref 2)], [.int (I 4 (Int32.ofNat t).toNatClampNeg), .int (Int32.ofNat e)], (I, J, kR w rem, Z), 0, 0)) 5 ?_ (fun m_ x_ Q_ k_ => ⟨trivial, trivial, ⟨sh_2, (Nat.succ_ne_zero 3)⟩, trivial, ⟨_, sh_4, (n_in (a := t) (by omega) (by decide))⟩, k_⟩)
  rw [n_cl (a := t) (by omega)]
  rw [hdt]
  show w_R xs Ln 89 (54, [(4, .int (Int32.ofNat e)), (3, .int (Int32.ofNat t)), (2, .int (Int32.ofNat f)), (1, .int (s_b z)), (0, .ref 2)], [.int (Int32.ofNat x), .int (Int32.ofNat e)], (I, J, kR w rem, Z), 0, 0) _
  refine w_R.go (c' := (55, [(4, .int (Int32.ofNat e)), (3, .int (Int32.ofNat t)), (2, .int (Int32.ofNat f)), (1, .int (s_b z)), (0, .ref 2)], [.int (Int32.ofNat e + Int32.ofNat x)], (I, J, kR w rem, Z), 0, 0)) 1 ?_ (fun m_ x_ Q_ k_ => ⟨trivial, k_⟩)
  rw [n_add e x]
  show w_R xs Ln 89 (55, [(4, .int (Int32.ofNat e)), (3, .int (Int32.ofNat t)), (2, .int (Int32.ofNat f)), (1, .int (s_b z)), (0, .ref 2)], [.int (Int32.ofNat (e + x))], (I, J, kR w rem, Z), 0, 0) _
  refine w_R.go (c' := (61, [(4, .int (Int32.ofNat e)), (3, .int (Int32.ofNat t)), (2, .int (Int32.ofNat f)), (1, .int (s_b z)), (0, .ref 2)], [.int (I 4 (Int32.ofNat f).toNatClampNeg), .int (Int32.ofNat (e + x))], (I, J, kR w rem, Z), 0, 0)) 4 ?_ (fun m_ x_ Q_ k_ => ⟨trivial, ⟨sh_2, (Nat.succ_ne_zero 3)⟩, trivial, ⟨_, sh_4, (n_in (a := f) (by omega) (by decide))⟩, k_⟩)
  rw [n_cl (a := f) (by omega)]
  rw [hdf]
  show w_R xs Ln 89 (61, [(4, .int (Int32.ofNat e)), (3, .int (Int32.ofNat t)), (2, .int (Int32.ofNat f)), (1, .int (s_b z)), (0, .ref 2)], [.int (Int32.ofNat y), .int (Int32.ofNat (e + x))], (I, J, kR w rem, Z), 0, 0) _
  refine w_R.callS (ce' := 0) (sl' := 0) (v := some (.int (s_b (v_90 I J Z (Int32.ofNat (e + x)) (Int32.ofNat y))))) (σ' := (I, J, kR w rem, Z)) (as := [.int (Int32.ofNat (e + x)), .int (Int32.ofNat y)]) (rest := []) (d_90 (Int32.ofNat (e + x)) (Int32.ofNat y) ) ?_ rfl rfl rfl rfl rfl rfl rfl rfl rfl
  rw [show v_90 I J Z (Int32.ofNat (e + x)) (Int32.ofNat y) = false from hv]
  show w_R xs Ln 89 (64, [(4, .int (Int32.ofNat e)), (3, .int (Int32.ofNat t)), (2, .int (Int32.ofNat f)), (1, .int (s_b z)), (0, .ref 2)], [.int (s_b false)], (I, J, kR w rem, Z), 0, 0) _
  refine w_R.go (c' := (84, [(4, .int (Int32.ofNat e)), (3, .int (Int32.ofNat t)), (2, .int (Int32.ofNat f)), (1, .int (s_b z)), (0, .ref 2)], [], (I, J, kR w rem, Z), 0, 0)) 1 ?_ (fun m_ x_ Q_ k_ => ⟨trivial, k_⟩)
  refine w_R.go (c' := (87, [(3, .int (Int32.ofNat t + Int32.ofNat 1)), (4, .int (Int32.ofNat e)), (2, .int (Int32.ofNat f)), (1, .int (s_b z)), (0, .ref 2)], [], (I, J, kR w rem, Z), 0, 0)) 1 ?_ (fun m_ x_ Q_ k_ => ⟨trivial, k_⟩)
  rw [n_add t 1]
  show w_R xs Ln 89 (87, [(3, .int (Int32.ofNat (t + 1))), (4, .int (Int32.ofNat e)), (2, .int (Int32.ofNat f)), (1, .int (s_b z)), (0, .ref 2)], [], (I, J, kR w rem, Z), 0, 0) _
  refine w_R.go (c' := (12, [(3, .int (Int32.ofNat (t + 1))), (4, .int (Int32.ofNat e)), (2, .int (Int32.ofNat f)), (1, .int (s_b z)), (0, .ref 2)], [], (I, J, kR w rem, Z), 0, 0)) 1 ?_ (fun m_ x_ Q_ k_ => ⟨trivial, k_⟩)
  refine w_R.drop (fun i => decide (i = 4)) ?_
  exact hx
theorem s89a2 (f : Nat) (t : Nat) (e : Nat) (hf : f < 12) (ht : t < 12) (he : I 5 (f * 12 + t) = Int32.ofNat e) (he0 : e = 0) (Q : i_O → s_S → Prop) (hx : w_R xs Ln 89 (12, [(3, .int (Int32.ofNat (t + 1))), (1, .int 1), (2, .int (Int32.ofNat f)), (0, .ref 2)], [], (I, J, kR w rem, Z), 0, 0) Q) : w_R xs Ln 89 (12, [(3, .int (Int32.ofNat t)), (1, .int 1), (2, .int (Int32.ofNat f)), (0, .ref 2)], [], (I, J, kR w rem, Z), 0, 0) Q := by
  refine w_R.go (c' := (i_br .ge (Int32.ofNat t) 12 90 18, [(3, .int (Int32.ofNat t)), (1, .int 1), (2, .int (Int32.ofNat f)), (0, .ref 2)], [], (I, J, kR w rem, Z), 0, 0)) 3 ?_ (fun m_ x_ Q_ k_ => ⟨trivial, trivial, trivial, k_⟩)
  rw [show i_br .ge (Int32.ofNat t) 12 90 18 = 18 from if_neg (Int32.not_le.mpr ((n_lt (a := t) (b := 12) (by omega) (by omega)).mpr (by omega)))]
  show w_R xs Ln 89 (18, [(3, .int (Int32.ofNat t)), (1, .int 1), (2, .int (Int32.ofNat f)), (0, .ref 2)], [], (I, J, kR w rem, Z), 0, 0) _
  refine w_R.go (c' := (26, [(3, .int (Int32.ofNat t)), (1, .int 1), (2, .int (Int32.ofNat f)), (0, .ref 2)], [.int (Int32.ofNat f * Int32.ofNat 12), .ref 5], (I, J, kR w rem, Z), 0, 0)) 5 ?_ (fun m_ x_ Q_ k_ => ⟨trivial, ⟨sh_2, (Nat.succ_ne_zero 4)⟩, trivial, trivial, trivial, k_⟩)
  rw [n_mul f 12]
  show w_R xs Ln 89 (26, [(3, .int (Int32.ofNat t)), (1, .int 1), (2, .int (Int32.ofNat f)), (0, .ref 2)], [.int (Int32.ofNat (f * 12)), .ref 5], (I, J, kR w rem, Z), 0, 0) _
  refine w_R.go (c' := (28, [(3, .int (Int32.ofNat t)), (1, .int 1), (2, .int (Int32.ofNat f)), (0, .ref 2)], [.int (Int32.ofNat (f * 12) + Int32.ofNat t), .ref 5], (I, J, kR w rem, Z), 0, 0)) 2 ?_ (fun m_ x_ Q_ k_ => ⟨trivial, trivial, k_⟩)
  rw [n_add (f * 12) t]
  show w_R xs Ln 89 (28, [(3, .int (Int32.ofNat t)), (1, .int 1), (2, .int (Int32.ofNat f)), (0, .ref 2)], [.int (Int32.ofNat ((f * 12) + t)), .ref 5], (I, J, kR w rem, Z), 0, 0) _
  refine w_R.go (c' := (29, [(3, .int (Int32.ofNat t)), (1, .int 1), (2, .int (Int32.ofNat f)), (0, .ref 2)], [.int (I 5 (Int32.ofNat ((f * 12) + t)).toNatClampNeg)], (I, J, kR w rem, Z), 0, 0)) 1 ?_ (fun m_ x_ Q_ k_ => ⟨⟨_, sh_5, (n_in (a := (f * 12) + t) (by omega) (by decide))⟩, k_⟩)
  rw [n_cl (a := (f * 12) + t) (by omega)]
  rw [he]
  show w_R xs Ln 89 (29, [(3, .int (Int32.ofNat t)), (1, .int 1), (2, .int (Int32.ofNat f)), (0, .ref 2)], [.int (Int32.ofNat e)], (I, J, kR w rem, Z), 0, 0) _
  refine w_R.go (c' := (i_br .le (Int32.ofNat e) 0 84 36, [(4, .int (Int32.ofNat e)), (3, .int (Int32.ofNat t)), (1, .int 1), (2, .int (Int32.ofNat f)), (0, .ref 2)], [], (I, J, kR w rem, Z), 0, 0)) 3 ?_ (fun m_ x_ Q_ k_ => ⟨trivial, trivial, trivial, k_⟩)
  rw [show i_br .le (Int32.ofNat e) 0 84 36 = 84 from if_pos (Int32.not_lt.mp (mt (n_lt (a := 0) (b := e) (by omega) (by omega)).mp (by omega)))]
  show w_R xs Ln 89 (84, [(4, .int (Int32.ofNat e)), (3, .int (Int32.ofNat t)), (1, .int 1), (2, .int (Int32.ofNat f)), (0, .ref 2)], [], (I, J, kR w rem, Z), 0, 0) _
  refine w_R.go (c' := (87, [(3, .int (Int32.ofNat t + Int32.ofNat 1)), (4, .int (Int32.ofNat e)), (1, .int 1), (2, .int (Int32.ofNat f)), (0, .ref 2)], [], (I, J, kR w rem, Z), 0, 0)) 1 ?_ (fun m_ x_ Q_ k_ => ⟨trivial, k_⟩)
  rw [n_add t 1]
  show w_R xs Ln 89 (87, [(3, .int (Int32.ofNat (t + 1))), (4, .int (Int32.ofNat e)), (1, .int 1), (2, .int (Int32.ofNat f)), (0, .ref 2)], [], (I, J, kR w rem, Z), 0, 0) _
  refine w_R.go (c' := (12, [(3, .int (Int32.ofNat (t + 1))), (4, .int (Int32.ofNat e)), (1, .int 1), (2, .int (Int32.ofNat f)), (0, .ref 2)], [], (I, J, kR w rem, Z), 0, 0)) 1 ?_ (fun m_ x_ Q_ k_ => ⟨trivial, k_⟩)
  refine w_R.drop (fun i => decide (i = 4)) ?_
  exact hx
theorem s89b2 (f : Nat) (t : Nat) (e : Nat) (hf : f < 12) (ht : t < 12) (he : I 5 (f * 12 + t) = Int32.ofNat e) (he0 : 1 ≤ e ∧ e < 1000) (hdt : I 4 t = (-1)) (Q : i_O → s_S → Prop) (hx : w_R xs Ln 89 (12, [(3, .int (Int32.ofNat (t + 1))), (1, .int 1), (2, .int (Int32.ofNat f)), (0, .ref 2)], [], (I, J, kR w rem, Z), 0, 0) Q) : w_R xs Ln 89 (12, [(3, .int (Int32.ofNat t)), (1, .int 1), (2, .int (Int32.ofNat f)), (0, .ref 2)], [], (I, J, kR w rem, Z), 0, 0) Q := by
  refine w_R.go (c' := (i_br .ge (Int32.ofNat t) 12 90 18, [(3, .int (Int32.ofNat t)), (1, .int 1), (2, .int (Int32.ofNat f)), (0, .ref 2)], [], (I, J, kR w rem, Z), 0, 0)) 3 ?_ (fun m_ x_ Q_ k_ => ⟨trivial, trivial, trivial, k_⟩)
  rw [show i_br .ge (Int32.ofNat t) 12 90 18 = 18 from if_neg (Int32.not_le.mpr ((n_lt (a := t) (b := 12) (by omega) (by omega)).mpr (by omega)))]
  show w_R xs Ln 89 (18, [(3, .int (Int32.ofNat t)), (1, .int 1), (2, .int (Int32.ofNat f)), (0, .ref 2)], [], (I, J, kR w rem, Z), 0, 0) _
  refine w_R.go (c' := (26, [(3, .int (Int32.ofNat t)), (1, .int 1), (2, .int (Int32.ofNat f)), (0, .ref 2)], [.int (Int32.ofNat f * Int32.ofNat 12), .ref 5], (I, J, kR w rem, Z), 0, 0)) 5 ?_ (fun m_ x_ Q_ k_ => ⟨trivial, ⟨sh_2, (Nat.succ_ne_zero 4)⟩, trivial, trivial, trivial, k_⟩)
  rw [n_mul f 12]
  show w_R xs Ln 89 (26, [(3, .int (Int32.ofNat t)), (1, .int 1), (2, .int (Int32.ofNat f)), (0, .ref 2)], [.int (Int32.ofNat (f * 12)), .ref 5], (I, J, kR w rem, Z), 0, 0) _
  refine w_R.go (c' := (28, [(3, .int (Int32.ofNat t)), (1, .int 1), (2, .int (Int32.ofNat f)), (0, .ref 2)], [.int (Int32.ofNat (f * 12) + Int32.ofNat t), .ref 5], (I, J, kR w rem, Z), 0, 0)) 2 ?_ (fun m_ x_ Q_ k_ => ⟨trivial, trivial, k_⟩)
  rw [n_add (f * 12) t]
  show w_R xs Ln 89 (28, [(3, .int (Int32.ofNat t)), (1, .int 1), (2, .int (Int32.ofNat f)), (0, .ref 2)], [.int (Int32.ofNat ((f * 12) + t)), .ref 5], (I, J, kR w rem, Z), 0, 0) _
  refine w_R.go (c' := (29, [(3, .int (Int32.ofNat t)), (1, .int 1), (2, .int (Int32.ofNat f)), (0, .ref 2)], [.int (I 5 (Int32.ofNat ((f * 12) + t)).toNatClampNeg)], (I, J, kR w rem, Z), 0, 0)) 1 ?_ (fun m_ x_ Q_ k_ => ⟨⟨_, sh_5, (n_in (a := (f * 12) + t) (by omega) (by decide))⟩, k_⟩)
  rw [n_cl (a := (f * 12) + t) (by omega)]
  rw [he]
  show w_R xs Ln 89 (29, [(3, .int (Int32.ofNat t)), (1, .int 1), (2, .int (Int32.ofNat f)), (0, .ref 2)], [.int (Int32.ofNat e)], (I, J, kR w rem, Z), 0, 0) _
  refine w_R.go (c' := (i_br .le (Int32.ofNat e) 0 84 36, [(4, .int (Int32.ofNat e)), (3, .int (Int32.ofNat t)), (1, .int 1), (2, .int (Int32.ofNat f)), (0, .ref 2)], [], (I, J, kR w rem, Z), 0, 0)) 3 ?_ (fun m_ x_ Q_ k_ => ⟨trivial, trivial, trivial, k_⟩)
  rw [show i_br .le (Int32.ofNat e) 0 84 36 = 36 from if_neg (Int32.not_le.mpr ((n_lt (a := 0) (b := e) (by omega) (by omega)).mpr (by omega)))]
  show w_R xs Ln 89 (36, [(4, .int (Int32.ofNat e)), (3, .int (Int32.ofNat t)), (1, .int 1), (2, .int (Int32.ofNat f)), (0, .ref 2)], [], (I, J, kR w rem, Z), 0, 0) _
  refine w_R.go (c' := (42, [(4, .int (Int32.ofNat e)), (3, .int (Int32.ofNat t)), (1, .int 1), (2, .int (Int32.ofNat f)), (0, .ref 2)], [.int (I 4 (Int32.ofNat t).toNatClampNeg)], (I, J, kR w rem, Z), 0, 0)) 4 ?_ (fun m_ x_ Q_ k_ => ⟨trivial, ⟨sh_2, (Nat.succ_ne_zero 3)⟩, trivial, ⟨_, sh_4, (n_in (a := t) (by omega) (by decide))⟩, k_⟩)
  rw [n_cl (a := t) (by omega)]
  rw [hdt]
  show w_R xs Ln 89 (42, [(4, .int (Int32.ofNat e)), (3, .int (Int32.ofNat t)), (1, .int 1), (2, .int (Int32.ofNat f)), (0, .ref 2)], [.int (-1)], (I, J, kR w rem, Z), 0, 0) _
  refine w_R.go (c' := (84, [(4, .int (Int32.ofNat e)), (3, .int (Int32.ofNat t)), (1, .int 1), (2, .int (Int32.ofNat f)), (0, .ref 2)], [], (I, J, kR w rem, Z), 0, 0)) 2 ?_ (fun m_ x_ Q_ k_ => ⟨trivial, trivial, k_⟩)
  refine w_R.go (c' := (87, [(3, .int (Int32.ofNat t + Int32.ofNat 1)), (4, .int (Int32.ofNat e)), (1, .int 1), (2, .int (Int32.ofNat f)), (0, .ref 2)], [], (I, J, kR w rem, Z), 0, 0)) 1 ?_ (fun m_ x_ Q_ k_ => ⟨trivial, k_⟩)
  rw [n_add t 1]
  show w_R xs Ln 89 (87, [(3, .int (Int32.ofNat (t + 1))), (4, .int (Int32.ofNat e)), (1, .int 1), (2, .int (Int32.ofNat f)), (0, .ref 2)], [], (I, J, kR w rem, Z), 0, 0) _
  refine w_R.go (c' := (12, [(3, .int (Int32.ofNat (t + 1))), (4, .int (Int32.ofNat e)), (1, .int 1), (2, .int (Int32.ofNat f)), (0, .ref 2)], [], (I, J, kR w rem, Z), 0, 0)) 1 ?_ (fun m_ x_ Q_ k_ => ⟨trivial, k_⟩)
  refine w_R.drop (fun i => decide (i = 4)) ?_
  exact hx
theorem s89c2 (f : Nat) (t : Nat) (e : Nat) (x : Nat) (hf : f < 12) (ht : t < 12) (he : I 5 (f * 12 + t) = Int32.ofNat e) (he0 : 1 ≤ e ∧ e < 1000) (hx9 : x < 100000000) (hdt : I 4 t = Int32.ofNat x) (hdf : I 4 f = (-1)) (hv : v_90 I J Z (Int32.ofNat (e + x)) (-1) = true) (Q : i_O → s_S → Prop) (hx : w_R xs Ln 89 (12, [(3, .int (Int32.ofNat (t + 1))), (1, .int 1), (2, .int (Int32.ofNat f)), (0, .ref 2)], [], (s_up I 4 f (Int32.ofNat (e + x)), J, kR w rem, Z), 0, 0) Q) : w_R xs Ln 89 (12, [(3, .int (Int32.ofNat t)), (1, .int 1), (2, .int (Int32.ofNat f)), (0, .ref 2)], [], (I, J, kR w rem, Z), 0, 0) Q := by
  refine w_R.go (c' := (i_br .ge (Int32.ofNat t) 12 90 18, [(3, .int (Int32.ofNat t)), (1, .int 1), (2, .int (Int32.ofNat f)), (0, .ref 2)], [], (I, J, kR w rem, Z), 0, 0)) 3 ?_ (fun m_ x_ Q_ k_ => ⟨trivial, trivial, trivial, k_⟩)
  rw [show i_br .ge (Int32.ofNat t) 12 90 18 = 18 from if_neg (Int32.not_le.mpr ((n_lt (a := t) (b := 12) (by omega) (by omega)).mpr (by omega)))]
  show w_R xs Ln 89 (18, [(3, .int (Int32.ofNat t)), (1, .int 1), (2, .int (Int32.ofNat f)), (0, .ref 2)], [], (I, J, kR w rem, Z), 0, 0) _
  refine w_R.go (c' := (26, [(3, .int (Int32.ofNat t)), (1, .int 1), (2, .int (Int32.ofNat f)), (0, .ref 2)], [.int (Int32.ofNat f * Int32.ofNat 12), .ref 5], (I, J, kR w rem, Z), 0, 0)) 5 ?_ (fun m_ x_ Q_ k_ => ⟨trivial, ⟨sh_2, (Nat.succ_ne_zero 4)⟩, trivial, trivial, trivial, k_⟩)
  rw [n_mul f 12]
  show w_R xs Ln 89 (26, [(3, .int (Int32.ofNat t)), (1, .int 1), (2, .int (Int32.ofNat f)), (0, .ref 2)], [.int (Int32.ofNat (f * 12)), .ref 5], (I, J, kR w rem, Z), 0, 0) _
  refine w_R.go (c' := (28, [(3, .int (Int32.ofNat t)), (1, .int 1), (2, .int (Int32.ofNat f)), (0, .ref 2)], [.int (Int32.ofNat (f * 12) + Int32.ofNat t), .ref 5], (I, J, kR w rem, Z), 0, 0)) 2 ?_ (fun m_ x_ Q_ k_ => ⟨trivial, trivial, k_⟩)
  rw [n_add (f * 12) t]
  show w_R xs Ln 89 (28, [(3, .int (Int32.ofNat t)), (1, .int 1), (2, .int (Int32.ofNat f)), (0, .ref 2)], [.int (Int32.ofNat ((f * 12) + t)), .ref 5], (I, J, kR w rem, Z), 0, 0) _
  refine w_R.go (c' := (29, [(3, .int (Int32.ofNat t)), (1, .int 1), (2, .int (Int32.ofNat f)), (0, .ref 2)], [.int (I 5 (Int32.ofNat ((f * 12) + t)).toNatClampNeg)], (I, J, kR w rem, Z), 0, 0)) 1 ?_ (fun m_ x_ Q_ k_ => ⟨⟨_, sh_5, (n_in (a := (f * 12) + t) (by omega) (by decide))⟩, k_⟩)
  rw [n_cl (a := (f * 12) + t) (by omega)]
  rw [he]
  show w_R xs Ln 89 (29, [(3, .int (Int32.ofNat t)), (1, .int 1), (2, .int (Int32.ofNat f)), (0, .ref 2)], [.int (Int32.ofNat e)], (I, J, kR w rem, Z), 0, 0) _
  refine w_R.go (c' := (i_br .le (Int32.ofNat e) 0 84 36, [(4, .int (Int32.ofNat e)), (3, .int (Int32.ofNat t)), (1, .int 1), (2, .int (Int32.ofNat f)), (0, .ref 2)], [], (I, J, kR w rem, Z), 0, 0)) 3 ?_ (fun m_ x_ Q_ k_ => ⟨trivial, trivial, trivial, k_⟩)
  rw [show i_br .le (Int32.ofNat e) 0 84 36 = 36 from if_neg (Int32.not_le.mpr ((n_lt (a := 0) (b := e) (by omega) (by omega)).mpr (by omega)))]
  show w_R xs Ln 89 (36, [(4, .int (Int32.ofNat e)), (3, .int (Int32.ofNat t)), (1, .int 1), (2, .int (Int32.ofNat f)), (0, .ref 2)], [], (I, J, kR w rem, Z), 0, 0) _
  refine w_R.go (c' := (42, [(4, .int (Int32.ofNat e)), (3, .int (Int32.ofNat t)), (1, .int 1), (2, .int (Int32.ofNat f)), (0, .ref 2)], [.int (I 4 (Int32.ofNat t).toNatClampNeg)], (I, J, kR w rem, Z), 0, 0)) 4 ?_ (fun m_ x_ Q_ k_ => ⟨trivial, ⟨sh_2, (Nat.succ_ne_zero 3)⟩, trivial, ⟨_, sh_4, (n_in (a := t) (by omega) (by decide))⟩, k_⟩)
  rw [n_cl (a := t) (by omega)]
  rw [hdt]
  show w_R xs Ln 89 (42, [(4, .int (Int32.ofNat e)), (3, .int (Int32.ofNat t)), (1, .int 1), (2, .int (Int32.ofNat f)), (0, .ref 2)], [.int (Int32.ofNat x)], (I, J, kR w rem, Z), 0, 0) _
  refine w_R.go (c' := (i_br .eq (Int32.ofNat x) (-1) 84 46, [(4, .int (Int32.ofNat e)), (3, .int (Int32.ofNat t)), (1, .int 1), (2, .int (Int32.ofNat f)), (0, .ref 2)], [], (I, J, kR w rem, Z), 0, 0)) 2 ?_ (fun m_ x_ Q_ k_ => ⟨trivial, trivial, k_⟩)
  rw [show i_br .eq (Int32.ofNat x) (-1) 84 46 = 46 from if_neg (n_neg (n := x) (by omega))]
  show w_R xs Ln 89 (46, [(4, .int (Int32.ofNat e)), (3, .int (Int32.ofNat t)), (1, .int 1), (2, .int (Int32.ofNat f)), (0, .ref 2)], [], (I, J, kR w rem, Z), 0, 0) _
  refine w_R.go (c' := (54, [(4, .int (Int32.ofNat e)), (3, .int (Int32.ofNat t)), (1, .int 1), (2, .int (Int32.ofNat f)), (0, .ref 2)], [.int (I 4 (Int32.ofNat t).toNatClampNeg), .int (Int32.ofNat e)], (I, J, kR w rem, Z), 0, 0)) 5 ?_ (fun m_ x_ Q_ k_ => ⟨trivial, trivial, ⟨sh_2, (Nat.succ_ne_zero 3)⟩, trivial, ⟨_, sh_4, (n_in (a := t) (by omega) (by decide))⟩, k_⟩)
  rw [n_cl (a := t) (by omega)]
  rw [hdt]
  show w_R xs Ln 89 (54, [(4, .int (Int32.ofNat e)), (3, .int (Int32.ofNat t)), (1, .int 1), (2, .int (Int32.ofNat f)), (0, .ref 2)], [.int (Int32.ofNat x), .int (Int32.ofNat e)], (I, J, kR w rem, Z), 0, 0) _
  refine w_R.go (c' := (55, [(4, .int (Int32.ofNat e)), (3, .int (Int32.ofNat t)), (1, .int 1), (2, .int (Int32.ofNat f)), (0, .ref 2)], [.int (Int32.ofNat e + Int32.ofNat x)], (I, J, kR w rem, Z), 0, 0)) 1 ?_ (fun m_ x_ Q_ k_ => ⟨trivial, k_⟩)
  rw [n_add e x]
  show w_R xs Ln 89 (55, [(4, .int (Int32.ofNat e)), (3, .int (Int32.ofNat t)), (1, .int 1), (2, .int (Int32.ofNat f)), (0, .ref 2)], [.int (Int32.ofNat (e + x))], (I, J, kR w rem, Z), 0, 0) _
  refine w_R.go (c' := (61, [(4, .int (Int32.ofNat e)), (3, .int (Int32.ofNat t)), (1, .int 1), (2, .int (Int32.ofNat f)), (0, .ref 2)], [.int (I 4 (Int32.ofNat f).toNatClampNeg), .int (Int32.ofNat (e + x))], (I, J, kR w rem, Z), 0, 0)) 4 ?_ (fun m_ x_ Q_ k_ => ⟨trivial, ⟨sh_2, (Nat.succ_ne_zero 3)⟩, trivial, ⟨_, sh_4, (n_in (a := f) (by omega) (by decide))⟩, k_⟩)
  rw [n_cl (a := f) (by omega)]
  rw [hdf]
  show w_R xs Ln 89 (61, [(4, .int (Int32.ofNat e)), (3, .int (Int32.ofNat t)), (1, .int 1), (2, .int (Int32.ofNat f)), (0, .ref 2)], [.int (-1), .int (Int32.ofNat (e + x))], (I, J, kR w rem, Z), 0, 0) _
  refine w_R.callS (ce' := 0) (sl' := 0) (v := some (.int (s_b (v_90 I J Z (Int32.ofNat (e + x)) (-1))))) (σ' := (I, J, kR w rem, Z)) (as := [.int (Int32.ofNat (e + x)), .int (-1)]) (rest := []) (d_90 (Int32.ofNat (e + x)) (-1) ) ?_ rfl rfl rfl rfl rfl rfl rfl rfl rfl
  rw [show v_90 I J Z (Int32.ofNat (e + x)) (-1) = true from hv]
  show w_R xs Ln 89 (64, [(4, .int (Int32.ofNat e)), (3, .int (Int32.ofNat t)), (1, .int 1), (2, .int (Int32.ofNat f)), (0, .ref 2)], [.int (s_b true)], (I, J, kR w rem, Z), 0, 0) _
  refine w_R.go (c' := (67, [(4, .int (Int32.ofNat e)), (3, .int (Int32.ofNat t)), (1, .int 1), (2, .int (Int32.ofNat f)), (0, .ref 2)], [], (I, J, kR w rem, Z), 0, 0)) 1 ?_ (fun m_ x_ Q_ k_ => ⟨trivial, k_⟩)
  refine w_R.go (c' := (80, [(4, .int (Int32.ofNat e)), (3, .int (Int32.ofNat t)), (1, .int 1), (2, .int (Int32.ofNat f)), (0, .ref 2)], [.int (I 4 (Int32.ofNat t).toNatClampNeg), .int (Int32.ofNat e), .int (Int32.ofNat f), .ref 4], (I, J, kR w rem, Z), 0, 0)) 8 ?_ (fun m_ x_ Q_ k_ => ⟨trivial, ⟨sh_2, (Nat.succ_ne_zero 3)⟩, trivial, trivial, trivial, ⟨sh_2, (Nat.succ_ne_zero 3)⟩, trivial, ⟨_, sh_4, (n_in (a := t) (by omega) (by decide))⟩, k_⟩)
  rw [n_cl (a := t) (by omega)]
  rw [hdt]
  show w_R xs Ln 89 (80, [(4, .int (Int32.ofNat e)), (3, .int (Int32.ofNat t)), (1, .int 1), (2, .int (Int32.ofNat f)), (0, .ref 2)], [.int (Int32.ofNat x), .int (Int32.ofNat e), .int (Int32.ofNat f), .ref 4], (I, J, kR w rem, Z), 0, 0) _
  refine w_R.go (c' := (81, [(4, .int (Int32.ofNat e)), (3, .int (Int32.ofNat t)), (1, .int 1), (2, .int (Int32.ofNat f)), (0, .ref 2)], [.int (Int32.ofNat e + Int32.ofNat x), .int (Int32.ofNat f), .ref 4], (I, J, kR w rem, Z), 0, 0)) 1 ?_ (fun m_ x_ Q_ k_ => ⟨trivial, k_⟩)
  rw [n_add e x]
  show w_R xs Ln 89 (81, [(4, .int (Int32.ofNat e)), (3, .int (Int32.ofNat t)), (1, .int 1), (2, .int (Int32.ofNat f)), (0, .ref 2)], [.int (Int32.ofNat (e + x)), .int (Int32.ofNat f), .ref 4], (I, J, kR w rem, Z), 0, 0) _
  refine w_R.go (c' := (82, [(4, .int (Int32.ofNat e)), (3, .int (Int32.ofNat t)), (1, .int 1), (2, .int (Int32.ofNat f)), (0, .ref 2)], [], (s_up I 4 ((Int32.ofNat f).toNatClampNeg) (Int32.ofNat (e + x)), J, kR w rem, Z), 0, 0)) 1 ?_ (fun m_ x_ Q_ k_ => ⟨⟨_, sh_4, (n_in (a := f) (by omega) (by decide))⟩, k_⟩)
  rw [n_cl (a := f) (by omega)]
  show w_R xs Ln 89 (82, [(4, .int (Int32.ofNat e)), (3, .int (Int32.ofNat t)), (1, .int 1), (2, .int (Int32.ofNat f)), (0, .ref 2)], [], (s_up I 4 f (Int32.ofNat (e + x)), J, kR w rem, Z), 0, 0) _
  refine w_R.go (c' := (87, [(3, .int (Int32.ofNat t + Int32.ofNat 1)), (1, .int 1), (4, .int (Int32.ofNat e)), (2, .int (Int32.ofNat f)), (0, .ref 2)], [], (s_up I 4 f (Int32.ofNat (e + x)), J, kR w rem, Z), 0, 0)) 3 ?_ (fun m_ x_ Q_ k_ => ⟨trivial, trivial, trivial, k_⟩)
  rw [n_add t 1]
  show w_R xs Ln 89 (87, [(3, .int (Int32.ofNat (t + 1))), (1, .int 1), (4, .int (Int32.ofNat e)), (2, .int (Int32.ofNat f)), (0, .ref 2)], [], (s_up I 4 f (Int32.ofNat (e + x)), J, kR w rem, Z), 0, 0) _
  refine w_R.go (c' := (12, [(3, .int (Int32.ofNat (t + 1))), (1, .int 1), (4, .int (Int32.ofNat e)), (2, .int (Int32.ofNat f)), (0, .ref 2)], [], (s_up I 4 f (Int32.ofNat (e + x)), J, kR w rem, Z), 0, 0)) 1 ?_ (fun m_ x_ Q_ k_ => ⟨trivial, k_⟩)
  refine w_R.drop (fun i => decide (i = 4)) ?_
  exact hx
theorem s89d2 (f : Nat) (t : Nat) (e : Nat) (x : Nat) (y : Nat) (hf : f < 12) (ht : t < 12) (he : I 5 (f * 12 + t) = Int32.ofNat e) (he0 : 1 ≤ e ∧ e < 1000) (hx9 : x < 100000000) (hdt : I 4 t = Int32.ofNat x) (hdf : I 4 f = Int32.ofNat y) (hv : v_90 I J Z (Int32.ofNat (e + x)) (Int32.ofNat y) = true) (Q : i_O → s_S → Prop) (hx : w_R xs Ln 89 (12, [(3, .int (Int32.ofNat (t + 1))), (1, .int 1), (2, .int (Int32.ofNat f)), (0, .ref 2)], [], (s_up I 4 f (Int32.ofNat (e + x)), J, kR w rem, Z), 0, 0) Q) : w_R xs Ln 89 (12, [(3, .int (Int32.ofNat t)), (1, .int 1), (2, .int (Int32.ofNat f)), (0, .ref 2)], [], (I, J, kR w rem, Z), 0, 0) Q := by
  refine w_R.go (c' := (i_br .ge (Int32.ofNat t) 12 90 18, [(3, .int (Int32.ofNat t)), (1, .int 1), (2, .int (Int32.ofNat f)), (0, .ref 2)], [], (I, J, kR w rem, Z), 0, 0)) 3 ?_ (fun m_ x_ Q_ k_ => ⟨trivial, trivial, trivial, k_⟩)
  rw [show i_br .ge (Int32.ofNat t) 12 90 18 = 18 from if_neg (Int32.not_le.mpr ((n_lt (a := t) (b := 12) (by omega) (by omega)).mpr (by omega)))]
  show w_R xs Ln 89 (18, [(3, .int (Int32.ofNat t)), (1, .int 1), (2, .int (Int32.ofNat f)), (0, .ref 2)], [], (I, J, kR w rem, Z), 0, 0) _
  refine w_R.go (c' := (26, [(3, .int (Int32.ofNat t)), (1, .int 1), (2, .int (Int32.ofNat f)), (0, .ref 2)], [.int (Int32.ofNat f * Int32.ofNat 12), .ref 5], (I, J, kR w rem, Z), 0, 0)) 5 ?_ (fun m_ x_ Q_ k_ => ⟨trivial, ⟨sh_2, (Nat.succ_ne_zero 4)⟩, trivial, trivial, trivial, k_⟩)
  rw [n_mul f 12]
  show w_R xs Ln 89 (26, [(3, .int (Int32.ofNat t)), (1, .int 1), (2, .int (Int32.ofNat f)), (0, .ref 2)], [.int (Int32.ofNat (f * 12)), .ref 5], (I, J, kR w rem, Z), 0, 0) _
  refine w_R.go (c' := (28, [(3, .int (Int32.ofNat t)), (1, .int 1), (2, .int (Int32.ofNat f)), (0, .ref 2)], [.int (Int32.ofNat (f * 12) + Int32.ofNat t), .ref 5], (I, J, kR w rem, Z), 0, 0)) 2 ?_ (fun m_ x_ Q_ k_ => ⟨trivial, trivial, k_⟩)
  rw [n_add (f * 12) t]
  show w_R xs Ln 89 (28, [(3, .int (Int32.ofNat t)), (1, .int 1), (2, .int (Int32.ofNat f)), (0, .ref 2)], [.int (Int32.ofNat ((f * 12) + t)), .ref 5], (I, J, kR w rem, Z), 0, 0) _
  refine w_R.go (c' := (29, [(3, .int (Int32.ofNat t)), (1, .int 1), (2, .int (Int32.ofNat f)), (0, .ref 2)], [.int (I 5 (Int32.ofNat ((f * 12) + t)).toNatClampNeg)], (I, J, kR w rem, Z), 0, 0)) 1 ?_ (fun m_ x_ Q_ k_ => ⟨⟨_, sh_5, (n_in (a := (f * 12) + t) (by omega) (by decide))⟩, k_⟩)
  rw [n_cl (a := (f * 12) + t) (by omega)]
  rw [he]
  show w_R xs Ln 89 (29, [(3, .int (Int32.ofNat t)), (1, .int 1), (2, .int (Int32.ofNat f)), (0, .ref 2)], [.int (Int32.ofNat e)], (I, J, kR w rem, Z), 0, 0) _
  refine w_R.go (c' := (i_br .le (Int32.ofNat e) 0 84 36, [(4, .int (Int32.ofNat e)), (3, .int (Int32.ofNat t)), (1, .int 1), (2, .int (Int32.ofNat f)), (0, .ref 2)], [], (I, J, kR w rem, Z), 0, 0)) 3 ?_ (fun m_ x_ Q_ k_ => ⟨trivial, trivial, trivial, k_⟩)
  rw [show i_br .le (Int32.ofNat e) 0 84 36 = 36 from if_neg (Int32.not_le.mpr ((n_lt (a := 0) (b := e) (by omega) (by omega)).mpr (by omega)))]
  show w_R xs Ln 89 (36, [(4, .int (Int32.ofNat e)), (3, .int (Int32.ofNat t)), (1, .int 1), (2, .int (Int32.ofNat f)), (0, .ref 2)], [], (I, J, kR w rem, Z), 0, 0) _
  refine w_R.go (c' := (42, [(4, .int (Int32.ofNat e)), (3, .int (Int32.ofNat t)), (1, .int 1), (2, .int (Int32.ofNat f)), (0, .ref 2)], [.int (I 4 (Int32.ofNat t).toNatClampNeg)], (I, J, kR w rem, Z), 0, 0)) 4 ?_ (fun m_ x_ Q_ k_ => ⟨trivial, ⟨sh_2, (Nat.succ_ne_zero 3)⟩, trivial, ⟨_, sh_4, (n_in (a := t) (by omega) (by decide))⟩, k_⟩)
  rw [n_cl (a := t) (by omega)]
  rw [hdt]
  show w_R xs Ln 89 (42, [(4, .int (Int32.ofNat e)), (3, .int (Int32.ofNat t)), (1, .int 1), (2, .int (Int32.ofNat f)), (0, .ref 2)], [.int (Int32.ofNat x)], (I, J, kR w rem, Z), 0, 0) _
  refine w_R.go (c' := (i_br .eq (Int32.ofNat x) (-1) 84 46, [(4, .int (Int32.ofNat e)), (3, .int (Int32.ofNat t)), (1, .int 1), (2, .int (Int32.ofNat f)), (0, .ref 2)], [], (I, J, kR w rem, Z), 0, 0)) 2 ?_ (fun m_ x_ Q_ k_ => ⟨trivial, trivial, k_⟩)
  rw [show i_br .eq (Int32.ofNat x) (-1) 84 46 = 46 from if_neg (n_neg (n := x) (by omega))]
  show w_R xs Ln 89 (46, [(4, .int (Int32.ofNat e)), (3, .int (Int32.ofNat t)), (1, .int 1), (2, .int (Int32.ofNat f)), (0, .ref 2)], [], (I, J, kR w rem, Z), 0, 0) _
  refine w_R.go (c' := (54, [(4, .int (Int32.ofNat e)), (3, .int (Int32.ofNat t)), (1, .int 1), (2, .int (Int32.ofNat f)), (0, .ref 2)], [.int (I 4 (Int32.ofNat t).toNatClampNeg), .int (Int32.ofNat e)], (I, J, kR w rem, Z), 0, 0)) 5 ?_ (fun m_ x_ Q_ k_ => ⟨trivial, trivial, ⟨sh_2, (Nat.succ_ne_zero 3)⟩, trivial, ⟨_, sh_4, (n_in (a := t) (by omega) (by decide))⟩, k_⟩)
  rw [n_cl (a := t) (by omega)]
  rw [hdt]
  show w_R xs Ln 89 (54, [(4, .int (Int32.ofNat e)), (3, .int (Int32.ofNat t)), (1, .int 1), (2, .int (Int32.ofNat f)), (0, .ref 2)], [.int (Int32.ofNat x), .int (Int32.ofNat e)], (I, J, kR w rem, Z), 0, 0) _
  refine w_R.go (c' := (55, [(4, .int (Int32.ofNat e)), (3, .int (Int32.ofNat t)), (1, .int 1), (2, .int (Int32.ofNat f)), (0, .ref 2)], [.int (Int32.ofNat e + Int32.ofNat x)], (I, J, kR w rem, Z), 0, 0)) 1 ?_ (fun m_ x_ Q_ k_ => ⟨trivial, k_⟩)
  rw [n_add e x]
  show w_R xs Ln 89 (55, [(4, .int (Int32.ofNat e)), (3, .int (Int32.ofNat t)), (1, .int 1), (2, .int (Int32.ofNat f)), (0, .ref 2)], [.int (Int32.ofNat (e + x))], (I, J, kR w rem, Z), 0, 0) _
  refine w_R.go (c' := (61, [(4, .int (Int32.ofNat e)), (3, .int (Int32.ofNat t)), (1, .int 1), (2, .int (Int32.ofNat f)), (0, .ref 2)], [.int (I 4 (Int32.ofNat f).toNatClampNeg), .int (Int32.ofNat (e + x))], (I, J, kR w rem, Z), 0, 0)) 4 ?_ (fun m_ x_ Q_ k_ => ⟨trivial, ⟨sh_2, (Nat.succ_ne_zero 3)⟩, trivial, ⟨_, sh_4, (n_in (a := f) (by omega) (by decide))⟩, k_⟩)
  rw [n_cl (a := f) (by omega)]
  rw [hdf]
  show w_R xs Ln 89 (61, [(4, .int (Int32.ofNat e)), (3, .int (Int32.ofNat t)), (1, .int 1), (2, .int (Int32.ofNat f)), (0, .ref 2)], [.int (Int32.ofNat y), .int (Int32.ofNat (e + x))], (I, J, kR w rem, Z), 0, 0) _
  refine w_R.callS (ce' := 0) (sl' := 0) (v := some (.int (s_b (v_90 I J Z (Int32.ofNat (e + x)) (Int32.ofNat y))))) (σ' := (I, J, kR w rem, Z)) (as := [.int (Int32.ofNat (e + x)), .int (Int32.ofNat y)]) (rest := []) (d_90 (Int32.ofNat (e + x)) (Int32.ofNat y) ) ?_ rfl rfl rfl rfl rfl rfl rfl rfl rfl
  rw [show v_90 I J Z (Int32.ofNat (e + x)) (Int32.ofNat y) = true from hv]
  show w_R xs Ln 89 (64, [(4, .int (Int32.ofNat e)), (3, .int (Int32.ofNat t)), (1, .int 1), (2, .int (Int32.ofNat f)), (0, .ref 2)], [.int (s_b true)], (I, J, kR w rem, Z), 0, 0) _
  refine w_R.go (c' := (67, [(4, .int (Int32.ofNat e)), (3, .int (Int32.ofNat t)), (1, .int 1), (2, .int (Int32.ofNat f)), (0, .ref 2)], [], (I, J, kR w rem, Z), 0, 0)) 1 ?_ (fun m_ x_ Q_ k_ => ⟨trivial, k_⟩)
  refine w_R.go (c' := (80, [(4, .int (Int32.ofNat e)), (3, .int (Int32.ofNat t)), (1, .int 1), (2, .int (Int32.ofNat f)), (0, .ref 2)], [.int (I 4 (Int32.ofNat t).toNatClampNeg), .int (Int32.ofNat e), .int (Int32.ofNat f), .ref 4], (I, J, kR w rem, Z), 0, 0)) 8 ?_ (fun m_ x_ Q_ k_ => ⟨trivial, ⟨sh_2, (Nat.succ_ne_zero 3)⟩, trivial, trivial, trivial, ⟨sh_2, (Nat.succ_ne_zero 3)⟩, trivial, ⟨_, sh_4, (n_in (a := t) (by omega) (by decide))⟩, k_⟩)
  rw [n_cl (a := t) (by omega)]
  rw [hdt]
  show w_R xs Ln 89 (80, [(4, .int (Int32.ofNat e)), (3, .int (Int32.ofNat t)), (1, .int 1), (2, .int (Int32.ofNat f)), (0, .ref 2)], [.int (Int32.ofNat x), .int (Int32.ofNat e), .int (Int32.ofNat f), .ref 4], (I, J, kR w rem, Z), 0, 0) _
  refine w_R.go (c' := (81, [(4, .int (Int32.ofNat e)), (3, .int (Int32.ofNat t)), (1, .int 1), (2, .int (Int32.ofNat f)), (0, .ref 2)], [.int (Int32.ofNat e + Int32.ofNat x), .int (Int32.ofNat f), .ref 4], (I, J, kR w rem, Z), 0, 0)) 1 ?_ (fun m_ x_ Q_ k_ => ⟨trivial, k_⟩)
  rw [n_add e x]
  show w_R xs Ln 89 (81, [(4, .int (Int32.ofNat e)), (3, .int (Int32.ofNat t)), (1, .int 1), (2, .int (Int32.ofNat f)), (0, .ref 2)], [.int (Int32.ofNat (e + x)), .int (Int32.ofNat f), .ref 4], (I, J, kR w rem, Z), 0, 0) _
  refine w_R.go (c' := (82, [(4, .int (Int32.ofNat e)), (3, .int (Int32.ofNat t)), (1, .int 1), (2, .int (Int32.ofNat f)), (0, .ref 2)], [], (s_up I 4 ((Int32.ofNat f).toNatClampNeg) (Int32.ofNat (e + x)), J, kR w rem, Z), 0, 0)) 1 ?_ (fun m_ x_ Q_ k_ => ⟨⟨_, sh_4, (n_in (a := f) (by omega) (by decide))⟩, k_⟩)
  rw [n_cl (a := f) (by omega)]
  show w_R xs Ln 89 (82, [(4, .int (Int32.ofNat e)), (3, .int (Int32.ofNat t)), (1, .int 1), (2, .int (Int32.ofNat f)), (0, .ref 2)], [], (s_up I 4 f (Int32.ofNat (e + x)), J, kR w rem, Z), 0, 0) _
  refine w_R.go (c' := (87, [(3, .int (Int32.ofNat t + Int32.ofNat 1)), (1, .int 1), (4, .int (Int32.ofNat e)), (2, .int (Int32.ofNat f)), (0, .ref 2)], [], (s_up I 4 f (Int32.ofNat (e + x)), J, kR w rem, Z), 0, 0)) 3 ?_ (fun m_ x_ Q_ k_ => ⟨trivial, trivial, trivial, k_⟩)
  rw [n_add t 1]
  show w_R xs Ln 89 (87, [(3, .int (Int32.ofNat (t + 1))), (1, .int 1), (4, .int (Int32.ofNat e)), (2, .int (Int32.ofNat f)), (0, .ref 2)], [], (s_up I 4 f (Int32.ofNat (e + x)), J, kR w rem, Z), 0, 0) _
  refine w_R.go (c' := (12, [(3, .int (Int32.ofNat (t + 1))), (1, .int 1), (4, .int (Int32.ofNat e)), (2, .int (Int32.ofNat f)), (0, .ref 2)], [], (s_up I 4 f (Int32.ofNat (e + x)), J, kR w rem, Z), 0, 0)) 1 ?_ (fun m_ x_ Q_ k_ => ⟨trivial, k_⟩)
  refine w_R.drop (fun i => decide (i = 4)) ?_
  exact hx
theorem s89e2 (f : Nat) (t : Nat) (e : Nat) (x : Nat) (y : Nat) (hf : f < 12) (ht : t < 12) (he : I 5 (f * 12 + t) = Int32.ofNat e) (he0 : 1 ≤ e ∧ e < 1000) (hx9 : x < 100000000) (hdt : I 4 t = Int32.ofNat x) (hdf : I 4 f = Int32.ofNat y) (hv : v_90 I J Z (Int32.ofNat (e + x)) (Int32.ofNat y) = false) (Q : i_O → s_S → Prop) (hx : w_R xs Ln 89 (12, [(3, .int (Int32.ofNat (t + 1))), (1, .int 1), (2, .int (Int32.ofNat f)), (0, .ref 2)], [], (I, J, kR w rem, Z), 0, 0) Q) : w_R xs Ln 89 (12, [(3, .int (Int32.ofNat t)), (1, .int 1), (2, .int (Int32.ofNat f)), (0, .ref 2)], [], (I, J, kR w rem, Z), 0, 0) Q := by
  refine w_R.go (c' := (i_br .ge (Int32.ofNat t) 12 90 18, [(3, .int (Int32.ofNat t)), (1, .int 1), (2, .int (Int32.ofNat f)), (0, .ref 2)], [], (I, J, kR w rem, Z), 0, 0)) 3 ?_ (fun m_ x_ Q_ k_ => ⟨trivial, trivial, trivial, k_⟩)
  rw [show i_br .ge (Int32.ofNat t) 12 90 18 = 18 from if_neg (Int32.not_le.mpr ((n_lt (a := t) (b := 12) (by omega) (by omega)).mpr (by omega)))]
  show w_R xs Ln 89 (18, [(3, .int (Int32.ofNat t)), (1, .int 1), (2, .int (Int32.ofNat f)), (0, .ref 2)], [], (I, J, kR w rem, Z), 0, 0) _
  refine w_R.go (c' := (26, [(3, .int (Int32.ofNat t)), (1, .int 1), (2, .int (Int32.ofNat f)), (0, .ref 2)], [.int (Int32.ofNat f * Int32.ofNat 12), .ref 5], (I, J, kR w rem, Z), 0, 0)) 5 ?_ (fun m_ x_ Q_ k_ => ⟨trivial, ⟨sh_2, (Nat.succ_ne_zero 4)⟩, trivial, trivial, trivial, k_⟩)
  rw [n_mul f 12]
  show w_R xs Ln 89 (26, [(3, .int (Int32.ofNat t)), (1, .int 1), (2, .int (Int32.ofNat f)), (0, .ref 2)], [.int (Int32.ofNat (f * 12)), .ref 5], (I, J, kR w rem, Z), 0, 0) _
  refine w_R.go (c' := (28, [(3, .int (Int32.ofNat t)), (1, .int 1), (2, .int (Int32.ofNat f)), (0, .ref 2)], [.int (Int32.ofNat (f * 12) + Int32.ofNat t), .ref 5], (I, J, kR w rem, Z), 0, 0)) 2 ?_ (fun m_ x_ Q_ k_ => ⟨trivial, trivial, k_⟩)
  rw [n_add (f * 12) t]
  show w_R xs Ln 89 (28, [(3, .int (Int32.ofNat t)), (1, .int 1), (2, .int (Int32.ofNat f)), (0, .ref 2)], [.int (Int32.ofNat ((f * 12) + t)), .ref 5], (I, J, kR w rem, Z), 0, 0) _
  refine w_R.go (c' := (29, [(3, .int (Int32.ofNat t)), (1, .int 1), (2, .int (Int32.ofNat f)), (0, .ref 2)], [.int (I 5 (Int32.ofNat ((f * 12) + t)).toNatClampNeg)], (I, J, kR w rem, Z), 0, 0)) 1 ?_ (fun m_ x_ Q_ k_ => ⟨⟨_, sh_5, (n_in (a := (f * 12) + t) (by omega) (by decide))⟩, k_⟩)
  rw [n_cl (a := (f * 12) + t) (by omega)]
  rw [he]
  show w_R xs Ln 89 (29, [(3, .int (Int32.ofNat t)), (1, .int 1), (2, .int (Int32.ofNat f)), (0, .ref 2)], [.int (Int32.ofNat e)], (I, J, kR w rem, Z), 0, 0) _
  refine w_R.go (c' := (i_br .le (Int32.ofNat e) 0 84 36, [(4, .int (Int32.ofNat e)), (3, .int (Int32.ofNat t)), (1, .int 1), (2, .int (Int32.ofNat f)), (0, .ref 2)], [], (I, J, kR w rem, Z), 0, 0)) 3 ?_ (fun m_ x_ Q_ k_ => ⟨trivial, trivial, trivial, k_⟩)
  rw [show i_br .le (Int32.ofNat e) 0 84 36 = 36 from if_neg (Int32.not_le.mpr ((n_lt (a := 0) (b := e) (by omega) (by omega)).mpr (by omega)))]
  show w_R xs Ln 89 (36, [(4, .int (Int32.ofNat e)), (3, .int (Int32.ofNat t)), (1, .int 1), (2, .int (Int32.ofNat f)), (0, .ref 2)], [], (I, J, kR w rem, Z), 0, 0) _
  refine w_R.go (c' := (42, [(4, .int (Int32.ofNat e)), (3, .int (Int32.ofNat t)), (1, .int 1), (2, .int (Int32.ofNat f)), (0, .ref 2)], [.int (I 4 (Int32.ofNat t).toNatClampNeg)], (I, J, kR w rem, Z), 0, 0)) 4 ?_ (fun m_ x_ Q_ k_ => ⟨trivial, ⟨sh_2, (Nat.succ_ne_zero 3)⟩, trivial, ⟨_, sh_4, (n_in (a := t) (by omega) (by decide))⟩, k_⟩)
  rw [n_cl (a := t) (by omega)]
  rw [hdt]
  show w_R xs Ln 89 (42, [(4, .int (Int32.ofNat e)), (3, .int (Int32.ofNat t)), (1, .int 1), (2, .int (Int32.ofNat f)), (0, .ref 2)], [.int (Int32.ofNat x)], (I, J, kR w rem, Z), 0, 0) _
  refine w_R.go (c' := (i_br .eq (Int32.ofNat x) (-1) 84 46, [(4, .int (Int32.ofNat e)), (3, .int (Int32.ofNat t)), (1, .int 1), (2, .int (Int32.ofNat f)), (0, .ref 2)], [], (I, J, kR w rem, Z), 0, 0)) 2 ?_ (fun m_ x_ Q_ k_ => ⟨trivial, trivial, k_⟩)
  rw [show i_br .eq (Int32.ofNat x) (-1) 84 46 = 46 from if_neg (n_neg (n := x) (by omega))]
  show w_R xs Ln 89 (46, [(4, .int (Int32.ofNat e)), (3, .int (Int32.ofNat t)), (1, .int 1), (2, .int (Int32.ofNat f)), (0, .ref 2)], [], (I, J, kR w rem, Z), 0, 0) _
  refine w_R.go (c' := (54, [(4, .int (Int32.ofNat e)), (3, .int (Int32.ofNat t)), (1, .int 1), (2, .int (Int32.ofNat f)), (0, .ref 2)], [.int (I 4 (Int32.ofNat t).toNatClampNeg), .int (Int32.ofNat e)], (I, J, kR w rem, Z), 0, 0)) 5 ?_ (fun m_ x_ Q_ k_ => ⟨trivial, trivial, ⟨sh_2, (Nat.succ_ne_zero 3)⟩, trivial, ⟨_, sh_4, (n_in (a := t) (by omega) (by decide))⟩, k_⟩)
  rw [n_cl (a := t) (by omega)]
  rw [hdt]
  show w_R xs Ln 89 (54, [(4, .int (Int32.ofNat e)), (3, .int (Int32.ofNat t)), (1, .int 1), (2, .int (Int32.ofNat f)), (0, .ref 2)], [.int (Int32.ofNat x), .int (Int32.ofNat e)], (I, J, kR w rem, Z), 0, 0) _
  refine w_R.go (c' := (55, [(4, .int (Int32.ofNat e)), (3, .int (Int32.ofNat t)), (1, .int 1), (2, .int (Int32.ofNat f)), (0, .ref 2)], [.int (Int32.ofNat e + Int32.ofNat x)], (I, J, kR w rem, Z), 0, 0)) 1 ?_ (fun m_ x_ Q_ k_ => ⟨trivial, k_⟩)
  rw [n_add e x]
  show w_R xs Ln 89 (55, [(4, .int (Int32.ofNat e)), (3, .int (Int32.ofNat t)), (1, .int 1), (2, .int (Int32.ofNat f)), (0, .ref 2)], [.int (Int32.ofNat (e + x))], (I, J, kR w rem, Z), 0, 0) _
  refine w_R.go (c' := (61, [(4, .int (Int32.ofNat e)), (3, .int (Int32.ofNat t)), (1, .int 1), (2, .int (Int32.ofNat f)), (0, .ref 2)], [.int (I 4 (Int32.ofNat f).toNatClampNeg), .int (Int32.ofNat (e + x))], (I, J, kR w rem, Z), 0, 0)) 4 ?_ (fun m_ x_ Q_ k_ => ⟨trivial, ⟨sh_2, (Nat.succ_ne_zero 3)⟩, trivial, ⟨_, sh_4, (n_in (a := f) (by omega) (by decide))⟩, k_⟩)
  rw [n_cl (a := f) (by omega)]
  rw [hdf]
  show w_R xs Ln 89 (61, [(4, .int (Int32.ofNat e)), (3, .int (Int32.ofNat t)), (1, .int 1), (2, .int (Int32.ofNat f)), (0, .ref 2)], [.int (Int32.ofNat y), .int (Int32.ofNat (e + x))], (I, J, kR w rem, Z), 0, 0) _
  refine w_R.callS (ce' := 0) (sl' := 0) (v := some (.int (s_b (v_90 I J Z (Int32.ofNat (e + x)) (Int32.ofNat y))))) (σ' := (I, J, kR w rem, Z)) (as := [.int (Int32.ofNat (e + x)), .int (Int32.ofNat y)]) (rest := []) (d_90 (Int32.ofNat (e + x)) (Int32.ofNat y) ) ?_ rfl rfl rfl rfl rfl rfl rfl rfl rfl
  rw [show v_90 I J Z (Int32.ofNat (e + x)) (Int32.ofNat y) = false from hv]
  show w_R xs Ln 89 (64, [(4, .int (Int32.ofNat e)), (3, .int (Int32.ofNat t)), (1, .int 1), (2, .int (Int32.ofNat f)), (0, .ref 2)], [.int (s_b false)], (I, J, kR w rem, Z), 0, 0) _
  refine w_R.go (c' := (84, [(4, .int (Int32.ofNat e)), (3, .int (Int32.ofNat t)), (1, .int 1), (2, .int (Int32.ofNat f)), (0, .ref 2)], [], (I, J, kR w rem, Z), 0, 0)) 1 ?_ (fun m_ x_ Q_ k_ => ⟨trivial, k_⟩)
  refine w_R.go (c' := (87, [(3, .int (Int32.ofNat t + Int32.ofNat 1)), (4, .int (Int32.ofNat e)), (1, .int 1), (2, .int (Int32.ofNat f)), (0, .ref 2)], [], (I, J, kR w rem, Z), 0, 0)) 1 ?_ (fun m_ x_ Q_ k_ => ⟨trivial, k_⟩)
  rw [n_add t 1]
  show w_R xs Ln 89 (87, [(3, .int (Int32.ofNat (t + 1))), (4, .int (Int32.ofNat e)), (1, .int 1), (2, .int (Int32.ofNat f)), (0, .ref 2)], [], (I, J, kR w rem, Z), 0, 0) _
  refine w_R.go (c' := (12, [(3, .int (Int32.ofNat (t + 1))), (4, .int (Int32.ofNat e)), (1, .int 1), (2, .int (Int32.ofNat f)), (0, .ref 2)], [], (I, J, kR w rem, Z), 0, 0)) 1 ?_ (fun m_ x_ Q_ k_ => ⟨trivial, k_⟩)
  refine w_R.drop (fun i => decide (i = 4)) ?_
  exact hx
end RunsP
