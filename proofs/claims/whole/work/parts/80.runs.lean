section RunsP
variable {xs : Nat → Int32} {Ln : Nat} {I : Nat → Nat → Int32} {J : Nat → Nat → Int64} {Z : Nat → Nat → Bool} {w : Nat → Nat} {rem : Nat}
def s_fl {α : Type} (f : Nat → Nat → α) (a : Nat) (v : α) : Nat → Nat → Nat → α
  | 0 => f
  | k + 1 => s_up (s_fl f a v k) a k v
def s_fo {α : Type} (f : Nat → Nat → α) (a o : Nat) (v : α) : Nat → Nat → Nat → α
  | 0 => f
  | k + 1 => s_up (s_fo f a o v k) a (o + k) v
def s_fz {α : Type} (f : Nat → Nat → α) (a : Nat) (v : α) : Nat → Nat → Nat → α
  | 0 => f
  | k + 1 => s_up (s_fz f a v k) (a + k) 0 v
def s_f2 {α : Type} (f : Nat → Nat → α) (a b o : Nat) (v : α) : Nat → Nat → Nat → α
  | 0 => f
  | k + 1 => s_up (s_up (s_f2 f a b o v k) a (o + k) v) b (o + k) v
theorem l_94a (r : Nat) (hr : r < 2) : ∀ (f k : Nat), k + f = 4 → ∀ (Q : i_O → s_S → Prop), w_R xs Ln 94 (25, [(1, .int 4), (0, .ref (141 + 29 * r))], [], (s_fl I (142 + 29 * r) 0 4, J, kR w rem, Z), 0, 0) Q → w_R xs Ln 94 (7, [(1, .int (Int32.ofNat k)), (0, .ref (141 + 29 * r))], [], (s_fl I (142 + 29 * r) 0 k, J, kR w rem, Z), 0, 0) Q := by
  intro f
  induction f with
  | zero =>
    intro k hk Q hx
    have e : k = 4 := by omega
    rw [e]
    refine w_R.go (c' := (25, [(1, .int 4), (0, .ref (141 + 29 * r))], [], (s_fl I (142 + 29 * r) 0 4, J, kR w rem, Z), 0, 0)) 3 ?_ (fun m_ x_ Q_ k_ => ⟨trivial, trivial, trivial, k_⟩)
    exact hx
  | succ f ih =>
    intro k hk Q hx
    have hkc : k < 4 := by omega
    refine w_R.go (c' := (i_br .ge (Int32.ofNat k) 4 25 12, [(1, .int (Int32.ofNat k)), (0, .ref (141 + 29 * r))], [], (s_fl I (142 + 29 * r) 0 k, J, kR w rem, Z), 0, 0)) 3 ?_ (fun m_ x_ Q_ k_ => ⟨trivial, trivial, trivial, k_⟩)
    rw [show i_br .ge (Int32.ofNat k) 4 25 12 = 12 from if_neg (Int32.not_le.mpr ((n_lt (a := k) (b := 4) (by omega) (by omega)).mpr (by omega)))]
    show w_R xs Ln 94 (12, [(1, .int (Int32.ofNat k)), (0, .ref (141 + 29 * r))], [], (s_fl I (142 + 29 * r) 0 k, J, kR w rem, Z), 0, 0) _
    refine w_R.go (c' := (16, [(1, .int (Int32.ofNat k)), (0, .ref (141 + 29 * r))], [.ref (kR w rem (141 + 29 * r) 4)], (s_fl I (142 + 29 * r) 0 k, J, kR w rem, Z), 0, 0)) 2 ?_ (fun m_ x_ Q_ k_ => ⟨trivial, ⟨(sh_room hr), (show kR w rem (141 + 29 * r) 4 ≠ 0 by rw [r_room4 (w := w) (rem := rem) (r := r) hr]; omega)⟩, k_⟩)
    rw [r_room4 (w := w) (rem := rem) (r := r) hr]
    show w_R xs Ln 94 (16, [(1, .int (Int32.ofNat k)), (0, .ref (141 + 29 * r))], [.ref (142 + 29 * r)], (s_fl I (142 + 29 * r) 0 k, J, kR w rem, Z), 0, 0) _
    refine w_R.go (c' := (19, [(1, .int (Int32.ofNat k)), (0, .ref (141 + 29 * r))], [], (s_up (s_fl I (142 + 29 * r) 0 k) (142 + 29 * r) ((Int32.ofNat k).toNatClampNeg) 0, J, kR w rem, Z), 0, 0)) 3 ?_ (fun m_ x_ Q_ k_ => ⟨trivial, trivial, ⟨_, (sh_room4 hr), (n_in (a := k) (by omega) (by decide))⟩, k_⟩)
    rw [n_cl (a := k) (by omega)]
    show w_R xs Ln 94 (19, [(1, .int (Int32.ofNat k)), (0, .ref (141 + 29 * r))], [], (s_up (s_fl I (142 + 29 * r) 0 k) (142 + 29 * r) k 0, J, kR w rem, Z), 0, 0) _
    refine w_R.go (c' := (22, [(1, .int (Int32.ofNat k + Int32.ofNat 1)), (0, .ref (141 + 29 * r))], [], (s_up (s_fl I (142 + 29 * r) 0 k) (142 + 29 * r) k 0, J, kR w rem, Z), 0, 0)) 1 ?_ (fun m_ x_ Q_ k_ => ⟨trivial, k_⟩)
    rw [n_add k 1]
    show w_R xs Ln 94 (22, [(1, .int (Int32.ofNat (k + 1))), (0, .ref (141 + 29 * r))], [], (s_up (s_fl I (142 + 29 * r) 0 k) (142 + 29 * r) k 0, J, kR w rem, Z), 0, 0) _
    refine w_R.go (c' := (7, [(1, .int (Int32.ofNat (k + 1))), (0, .ref (141 + 29 * r))], [], (s_up (s_fl I (142 + 29 * r) 0 k) (142 + 29 * r) k 0, J, kR w rem, Z), 0, 0)) 1 ?_ (fun m_ x_ Q_ k_ => ⟨trivial, k_⟩)
    exact ih (k + 1) (by omega) Q hx
theorem l_94b (r : Nat) (hr : r < 2) : ∀ (f k : Nat), k + f = 16 → ∀ (Q : i_O → s_S → Prop), w_R xs Ln 94 (46, [(1, .int 16), (0, .ref (141 + 29 * r))], [], (I, J, kR w rem, s_fl Z (144 + 29 * r) false 16), 0, 0) Q → w_R xs Ln 94 (27, [(1, .int (Int32.ofNat k)), (0, .ref (141 + 29 * r))], [], (I, J, kR w rem, s_fl Z (144 + 29 * r) false k), 0, 0) Q := by
  intro f
  induction f with
  | zero =>
    intro k hk Q hx
    have e : k = 16 := by omega
    rw [e]
    refine w_R.go (c' := (46, [(1, .int 16), (0, .ref (141 + 29 * r))], [], (I, J, kR w rem, s_fl Z (144 + 29 * r) false 16), 0, 0)) 3 ?_ (fun m_ x_ Q_ k_ => ⟨trivial, trivial, trivial, k_⟩)
    exact hx
  | succ f ih =>
    intro k hk Q hx
    have hkc : k < 16 := by omega
    refine w_R.go (c' := (i_br .ge (Int32.ofNat k) 16 46 33, [(1, .int (Int32.ofNat k)), (0, .ref (141 + 29 * r))], [], (I, J, kR w rem, s_fl Z (144 + 29 * r) false k), 0, 0)) 3 ?_ (fun m_ x_ Q_ k_ => ⟨trivial, trivial, trivial, k_⟩)
    rw [show i_br .ge (Int32.ofNat k) 16 46 33 = 33 from if_neg (Int32.not_le.mpr ((n_lt (a := k) (b := 16) (by omega) (by omega)).mpr (by omega)))]
    show w_R xs Ln 94 (33, [(1, .int (Int32.ofNat k)), (0, .ref (141 + 29 * r))], [], (I, J, kR w rem, s_fl Z (144 + 29 * r) false k), 0, 0) _
    refine w_R.go (c' := (37, [(1, .int (Int32.ofNat k)), (0, .ref (141 + 29 * r))], [.ref (kR w rem (141 + 29 * r) 6)], (I, J, kR w rem, s_fl Z (144 + 29 * r) false k), 0, 0)) 2 ?_ (fun m_ x_ Q_ k_ => ⟨trivial, ⟨(sh_room hr), (show kR w rem (141 + 29 * r) 6 ≠ 0 by rw [r_room6 (w := w) (rem := rem) (r := r) hr]; omega)⟩, k_⟩)
    rw [r_room6 (w := w) (rem := rem) (r := r) hr]
    show w_R xs Ln 94 (37, [(1, .int (Int32.ofNat k)), (0, .ref (141 + 29 * r))], [.ref (144 + 29 * r)], (I, J, kR w rem, s_fl Z (144 + 29 * r) false k), 0, 0) _
    refine w_R.go (c' := (40, [(1, .int (Int32.ofNat k)), (0, .ref (141 + 29 * r))], [], (I, J, kR w rem, s_up (s_fl Z (144 + 29 * r) false k) (144 + 29 * r) ((Int32.ofNat k).toNatClampNeg) false), 0, 0)) 3 ?_ (fun m_ x_ Q_ k_ => ⟨trivial, trivial, ⟨⟨_, (sh_room6 hr), (n_in (a := k) (by omega) (by decide))⟩, (Or.inl rfl)⟩, k_⟩)
    rw [n_cl (a := k) (by omega)]
    show w_R xs Ln 94 (40, [(1, .int (Int32.ofNat k)), (0, .ref (141 + 29 * r))], [], (I, J, kR w rem, s_up (s_fl Z (144 + 29 * r) false k) (144 + 29 * r) k false), 0, 0) _
    refine w_R.go (c' := (43, [(1, .int (Int32.ofNat k + Int32.ofNat 1)), (0, .ref (141 + 29 * r))], [], (I, J, kR w rem, s_up (s_fl Z (144 + 29 * r) false k) (144 + 29 * r) k false), 0, 0)) 1 ?_ (fun m_ x_ Q_ k_ => ⟨trivial, k_⟩)
    rw [n_add k 1]
    show w_R xs Ln 94 (43, [(1, .int (Int32.ofNat (k + 1))), (0, .ref (141 + 29 * r))], [], (I, J, kR w rem, s_up (s_fl Z (144 + 29 * r) false k) (144 + 29 * r) k false), 0, 0) _
    refine w_R.go (c' := (27, [(1, .int (Int32.ofNat (k + 1))), (0, .ref (141 + 29 * r))], [], (I, J, kR w rem, s_up (s_fl Z (144 + 29 * r) false k) (144 + 29 * r) k false), 0, 0)) 1 ?_ (fun m_ x_ Q_ k_ => ⟨trivial, k_⟩)
    exact ih (k + 1) (by omega) Q hx
theorem l_94c (r : Nat) (hr : r < 2) : ∀ (f k : Nat), k + f = 6 → ∀ (Q : i_O → s_S → Prop), w_R xs Ln 94 (69, [(1, .int 6), (0, .ref (141 + 29 * r))], [], (I, J, kR w rem, s_fz Z (164 + 29 * r) false 6), 0, 0) Q → w_R xs Ln 94 (48, [(1, .int (Int32.ofNat k)), (0, .ref (141 + 29 * r))], [], (I, J, kR w rem, s_fz Z (164 + 29 * r) false k), 0, 0) Q := by
  intro f
  induction f with
  | zero =>
    intro k hk Q hx
    have e : k = 6 := by omega
    rw [e]
    refine w_R.go (c' := (69, [(1, .int 6), (0, .ref (141 + 29 * r))], [], (I, J, kR w rem, s_fz Z (164 + 29 * r) false 6), 0, 0)) 3 ?_ (fun m_ x_ Q_ k_ => ⟨trivial, trivial, trivial, k_⟩)
    exact hx
  | succ f ih =>
    intro k hk Q hx
    have hkc : k < 6 := by omega
    refine w_R.go (c' := (i_br .ge (Int32.ofNat k) 6 69 54, [(1, .int (Int32.ofNat k)), (0, .ref (141 + 29 * r))], [], (I, J, kR w rem, s_fz Z (164 + 29 * r) false k), 0, 0)) 3 ?_ (fun m_ x_ Q_ k_ => ⟨trivial, trivial, trivial, k_⟩)
    rw [show i_br .ge (Int32.ofNat k) 6 69 54 = 54 from if_neg (Int32.not_le.mpr ((n_lt (a := k) (b := 6) (by omega) (by omega)).mpr (by omega)))]
    show w_R xs Ln 94 (54, [(1, .int (Int32.ofNat k)), (0, .ref (141 + 29 * r))], [], (I, J, kR w rem, s_fz Z (164 + 29 * r) false k), 0, 0) _
    refine w_R.go (c' := (58, [(1, .int (Int32.ofNat k)), (0, .ref (141 + 29 * r))], [.ref (kR w rem (141 + 29 * r) 7)], (I, J, kR w rem, s_fz Z (164 + 29 * r) false k), 0, 0)) 2 ?_ (fun m_ x_ Q_ k_ => ⟨trivial, ⟨(sh_room hr), (show kR w rem (141 + 29 * r) 7 ≠ 0 by rw [r_room7 (w := w) (rem := rem) (r := r) hr]; omega)⟩, k_⟩)
    rw [r_room7 (w := w) (rem := rem) (r := r) hr]
    show w_R xs Ln 94 (58, [(1, .int (Int32.ofNat k)), (0, .ref (141 + 29 * r))], [.ref (145 + 29 * r)], (I, J, kR w rem, s_fz Z (164 + 29 * r) false k), 0, 0) _
    refine w_R.go (c' := (60, [(1, .int (Int32.ofNat k)), (0, .ref (141 + 29 * r))], [.ref (kR w rem (145 + 29 * r) (Int32.ofNat k).toNatClampNeg)], (I, J, kR w rem, s_fz Z (164 + 29 * r) false k), 0, 0)) 2 ?_ (fun m_ x_ Q_ k_ => ⟨trivial, ⟨⟨_, (sh_room7 hr), (n_in (a := k) (by omega) (by decide))⟩, (show kR w rem (145 + 29 * r) (Int32.ofNat k).toNatClampNeg ≠ 0 by rw [n_cl (a := k) (by omega), r_sight (w := w) (rem := rem) (r := r) (u := k) hr (by omega)]; omega)⟩, k_⟩)
    rw [n_cl (a := k) (by omega)]
    rw [r_sight (w := w) (rem := rem) (r := r) (u := k) hr (by omega)]
    show w_R xs Ln 94 (60, [(1, .int (Int32.ofNat k)), (0, .ref (141 + 29 * r))], [.ref (164 + 29 * r + k)], (I, J, kR w rem, s_fz Z (164 + 29 * r) false k), 0, 0) _
    refine w_R.callV (ce' := 0) (sl' := 0) (v := none) (σ' := (I, J, kR w rem, s_up (s_fz Z (164 + 29 * r) false k) (164 + 29 * r + k) 0 false)) (as := [.ref (164 + 29 * r + k)]) (rest := []) (d_100 (164 + 29 * r + k) (sh_sight hr (by omega))) ?_ rfl rfl rfl rfl rfl (sh_sight hr (by omega)) rfl rfl rfl rfl
    show w_R xs Ln 94 (63, [(1, .int (Int32.ofNat k)), (0, .ref (141 + 29 * r))], [], (I, J, kR w rem, s_up (s_fz Z (164 + 29 * r) false k) (164 + 29 * r + k) 0 false), 0, 0) _
    refine w_R.go (c' := (66, [(1, .int (Int32.ofNat k + Int32.ofNat 1)), (0, .ref (141 + 29 * r))], [], (I, J, kR w rem, s_up (s_fz Z (164 + 29 * r) false k) (164 + 29 * r + k) 0 false), 0, 0)) 1 ?_ (fun m_ x_ Q_ k_ => ⟨trivial, k_⟩)
    rw [n_add k 1]
    show w_R xs Ln 94 (66, [(1, .int (Int32.ofNat (k + 1))), (0, .ref (141 + 29 * r))], [], (I, J, kR w rem, s_up (s_fz Z (164 + 29 * r) false k) (164 + 29 * r + k) 0 false), 0, 0) _
    refine w_R.go (c' := (48, [(1, .int (Int32.ofNat (k + 1))), (0, .ref (141 + 29 * r))], [], (I, J, kR w rem, s_up (s_fz Z (164 + 29 * r) false k) (164 + 29 * r + k) 0 false), 0, 0)) 1 ?_ (fun m_ x_ Q_ k_ => ⟨trivial, k_⟩)
    exact ih (k + 1) (by omega) Q hx
def i_94 (I : Nat → Nat → Int32) (r : Nat) : Nat → Nat → Int32 := s_fl I (142 + 29 * r) 0 4
def z_94 (Z : Nat → Nat → Bool) (r : Nat) : Nat → Nat → Bool := s_fz (s_fl (s_up Z (141 + 29 * r) 0 false) (144 + 29 * r) false 16) (164 + 29 * r) false 6
theorem d_94 (r : Nat) (hr : r < 2) : w_R xs Ln 94 (0, [(0, .ref (141 + 29 * r))], [], (I, J, kR w rem, Z), 0, 0) (fun o s => o = .inl none ∧ s = (i_94 I r, J, kR w rem, z_94 Z r)) := by
  refine w_R.go (c' := (7, [(1, .int 0), (0, .ref (141 + 29 * r))], [], (I, J, kR w rem, s_up Z (141 + 29 * r) 0 false), 0, 0)) 5 ?_ (fun m_ x_ Q_ k_ => ⟨trivial, trivial, ⟨(sh_room hr), (Or.inl rfl)⟩, trivial, trivial, k_⟩)
  refine l_94a r hr 4 0 rfl _ ?_
  refine w_R.go (c' := (27, [(1, .int 0), (0, .ref (141 + 29 * r))], [], (s_fl I (142 + 29 * r) 0 4, J, kR w rem, s_up Z (141 + 29 * r) 0 false), 0, 0)) 2 ?_ (fun m_ x_ Q_ k_ => ⟨trivial, trivial, k_⟩)
  refine l_94b r hr 16 0 rfl _ ?_
  refine w_R.go (c' := (48, [(1, .int 0), (0, .ref (141 + 29 * r))], [], (s_fl I (142 + 29 * r) 0 4, J, kR w rem, s_fl (s_up Z (141 + 29 * r) 0 false) (144 + 29 * r) false 16), 0, 0)) 2 ?_ (fun m_ x_ Q_ k_ => ⟨trivial, trivial, k_⟩)
  refine l_94c r hr 6 0 rfl _ ?_
  refine w_R.ret 1 (.inl none) (s_fl I (142 + 29 * r) 0 4, J, kR w rem, s_fz (s_fl (s_up Z (141 + 29 * r) 0 false) (144 + 29 * r) false 16) (164 + 29 * r) false 6) ?_ (fun x_ Q_ k_ => ⟨⟨Nat.le_of_ble_eq_true rfl, Nat.le_of_ble_eq_true rfl⟩, k_⟩)
  exact ⟨rfl, rfl⟩
end RunsP
