section Small
variable {xs : Nat → Int32} {Ln : Nat} {I : Nat → Nat → Int32} {J : Nat → Nat → Int64} {Z : Nat → Nat → Bool} {w : Nat → Nat} {rem : Nat}
theorem l_b (z : Bool) : s_b z = 0 ∨ s_b z = 1 := by cases z <;> simp [s_b]
theorem l_bz (z : Bool) : (!(s_b z == 0)) = z := by cases z <;> rfl
def l_in (x : Int32) (n : Nat) : Bool := decide (0 ≤ x.toInt ∧ x.toInt < (n : Int))
theorem l_lo {x : Int32} {n : Nat} (h : x < 0) : l_in x n = false := by
  rw [Int32.lt_iff_toInt_lt, Int32.toInt_zero] at h
  exact decide_eq_false (by omega)
theorem l_hi {x y : Int32} {n : Nat} (h : ¬ x < y) (hy : y.toInt = (n : Int)) : l_in x n = false := by
  rw [Int32.lt_iff_toInt_lt, hy] at h
  exact decide_eq_false (by omega)
theorem l_yes {x y : Int32} {n : Nat} (h0 : ¬ x < 0) (h : x < y) (hy : y.toInt = (n : Int)) : l_in x n = true := by
  rw [Int32.lt_iff_toInt_lt, hy] at h
  rw [Int32.lt_iff_toInt_lt, Int32.toInt_zero] at h0
  exact decide_eq_true (by omega)
theorem l_of {x : Int32} {n : Nat} (h : l_in x n = true) : ∃ k, k < n ∧ x = Int32.ofNat k := by
  have h := of_decide_eq_true h
  exact n_of h.1 h.2
theorem d_28 (x : Int32) : w_R xs Ln 28 (0, [(0, .int x)], [], (I, J, kR w rem, Z), 0, 0) (fun o s => o = .inl (some (.int (s_b (l_in x 12)))) ∧ s = (I, J, kR w rem, Z)) := by
  refine w_R.go (c' := (i_br .lt x 0 14 4, [(0, .int x)], [], (I, J, kR w rem, Z), 0, 0)) 2 ?_ (fun n x Q h => ⟨trivial, trivial, h⟩)
  refine w_R.br_lt (fun h1 => ?_) (fun h1 => ?_)
  · refine w_R.ret 2 (.inl (some (.int 0))) (I, J, kR w rem, Z) ?_ (fun x Q h => ⟨trivial, Or.inl rfl, ⟨Nat.le_of_ble_eq_true rfl, Nat.le_of_ble_eq_true rfl⟩, h⟩)
    exact ⟨by rw [show l_in x 12 = false from by first | exact l_lo (by assumption) | exact l_hi (by assumption) rfl | exact l_yes (by assumption) (by assumption) rfl]; rfl, rfl⟩
  · refine w_R.go (c' := (i_br .ge x 12 14 10, [(0, .int x)], [], (I, J, kR w rem, Z), 0, 0)) 3 ?_ (fun n x Q h => ⟨trivial, trivial, trivial, h⟩)
    refine w_R.br_ge (fun h2 => ?_) (fun h2 => ?_)
    · refine w_R.ret 2 (.inl (some (.int 0))) (I, J, kR w rem, Z) ?_ (fun x Q h => ⟨trivial, Or.inl rfl, ⟨Nat.le_of_ble_eq_true rfl, Nat.le_of_ble_eq_true rfl⟩, h⟩)
      exact ⟨by rw [show l_in x 12 = false from by first | exact l_lo (by assumption) | exact l_hi (by assumption) rfl | exact l_yes (by assumption) (by assumption) rfl]; rfl, rfl⟩
    · refine w_R.ret 3 (.inl (some (.int 1))) (I, J, kR w rem, Z) ?_ (fun x Q h => ⟨trivial, trivial, Or.inr rfl, ⟨Nat.le_of_ble_eq_true rfl, Nat.le_of_ble_eq_true rfl⟩, h⟩)
      exact ⟨by rw [show l_in x 12 = true from by first | exact l_lo (by assumption) | exact l_hi (by assumption) rfl | exact l_yes (by assumption) (by assumption) rfl]; rfl, rfl⟩
theorem d_29 (x : Int32) : w_R xs Ln 29 (0, [(0, .int x)], [], (I, J, kR w rem, Z), 0, 0) (fun o s => o = .inl (some (.int (s_b (l_in x 4)))) ∧ s = (I, J, kR w rem, Z)) := by
  refine w_R.go (c' := (i_br .lt x 0 13 4, [(0, .int x)], [], (I, J, kR w rem, Z), 0, 0)) 2 ?_ (fun n x Q h => ⟨trivial, trivial, h⟩)
  refine w_R.br_lt (fun h1 => ?_) (fun h1 => ?_)
  · refine w_R.ret 2 (.inl (some (.int 0))) (I, J, kR w rem, Z) ?_ (fun x Q h => ⟨trivial, Or.inl rfl, ⟨Nat.le_of_ble_eq_true rfl, Nat.le_of_ble_eq_true rfl⟩, h⟩)
    exact ⟨by rw [show l_in x 4 = false from by first | exact l_lo (by assumption) | exact l_hi (by assumption) rfl | exact l_yes (by assumption) (by assumption) rfl]; rfl, rfl⟩
  · refine w_R.go (c' := (i_br .ge x 4 13 9, [(0, .int x)], [], (I, J, kR w rem, Z), 0, 0)) 3 ?_ (fun n x Q h => ⟨trivial, trivial, trivial, h⟩)
    refine w_R.br_ge (fun h2 => ?_) (fun h2 => ?_)
    · refine w_R.ret 2 (.inl (some (.int 0))) (I, J, kR w rem, Z) ?_ (fun x Q h => ⟨trivial, Or.inl rfl, ⟨Nat.le_of_ble_eq_true rfl, Nat.le_of_ble_eq_true rfl⟩, h⟩)
      exact ⟨by rw [show l_in x 4 = false from by first | exact l_lo (by assumption) | exact l_hi (by assumption) rfl | exact l_yes (by assumption) (by assumption) rfl]; rfl, rfl⟩
    · refine w_R.ret 3 (.inl (some (.int 1))) (I, J, kR w rem, Z) ?_ (fun x Q h => ⟨trivial, trivial, Or.inr rfl, ⟨Nat.le_of_ble_eq_true rfl, Nat.le_of_ble_eq_true rfl⟩, h⟩)
      exact ⟨by rw [show l_in x 4 = true from by first | exact l_lo (by assumption) | exact l_hi (by assumption) rfl | exact l_yes (by assumption) (by assumption) rfl]; rfl, rfl⟩
theorem d_30 (x : Int32) : w_R xs Ln 30 (0, [(0, .int x)], [], (I, J, kR w rem, Z), 0, 0) (fun o s => o = .inl (some (.int (s_b (l_in x 16)))) ∧ s = (I, J, kR w rem, Z)) := by
  refine w_R.go (c' := (i_br .lt x 0 14 4, [(0, .int x)], [], (I, J, kR w rem, Z), 0, 0)) 2 ?_ (fun n x Q h => ⟨trivial, trivial, h⟩)
  refine w_R.br_lt (fun h1 => ?_) (fun h1 => ?_)
  · refine w_R.ret 2 (.inl (some (.int 0))) (I, J, kR w rem, Z) ?_ (fun x Q h => ⟨trivial, Or.inl rfl, ⟨Nat.le_of_ble_eq_true rfl, Nat.le_of_ble_eq_true rfl⟩, h⟩)
    exact ⟨by rw [show l_in x 16 = false from by first | exact l_lo (by assumption) | exact l_hi (by assumption) rfl | exact l_yes (by assumption) (by assumption) rfl]; rfl, rfl⟩
  · refine w_R.go (c' := (i_br .ge x 16 14 10, [(0, .int x)], [], (I, J, kR w rem, Z), 0, 0)) 3 ?_ (fun n x Q h => ⟨trivial, trivial, trivial, h⟩)
    refine w_R.br_ge (fun h2 => ?_) (fun h2 => ?_)
    · refine w_R.ret 2 (.inl (some (.int 0))) (I, J, kR w rem, Z) ?_ (fun x Q h => ⟨trivial, Or.inl rfl, ⟨Nat.le_of_ble_eq_true rfl, Nat.le_of_ble_eq_true rfl⟩, h⟩)
      exact ⟨by rw [show l_in x 16 = false from by first | exact l_lo (by assumption) | exact l_hi (by assumption) rfl | exact l_yes (by assumption) (by assumption) rfl]; rfl, rfl⟩
    · refine w_R.ret 3 (.inl (some (.int 1))) (I, J, kR w rem, Z) ?_ (fun x Q h => ⟨trivial, trivial, Or.inr rfl, ⟨Nat.le_of_ble_eq_true rfl, Nat.le_of_ble_eq_true rfl⟩, h⟩)
      exact ⟨by rw [show l_in x 16 = true from by first | exact l_lo (by assumption) | exact l_hi (by assumption) rfl | exact l_yes (by assumption) (by assumption) rfl]; rfl, rfl⟩
theorem d_31 (x : Int32) : w_R xs Ln 31 (0, [(0, .int x)], [], (I, J, kR w rem, Z), 0, 0) (fun o s => o = .inl (some (.int (s_b (l_in x 6)))) ∧ s = (I, J, kR w rem, Z)) := by
  refine w_R.go (c' := (i_br .lt x 0 14 4, [(0, .int x)], [], (I, J, kR w rem, Z), 0, 0)) 2 ?_ (fun n x Q h => ⟨trivial, trivial, h⟩)
  refine w_R.br_lt (fun h1 => ?_) (fun h1 => ?_)
  · refine w_R.ret 2 (.inl (some (.int 0))) (I, J, kR w rem, Z) ?_ (fun x Q h => ⟨trivial, Or.inl rfl, ⟨Nat.le_of_ble_eq_true rfl, Nat.le_of_ble_eq_true rfl⟩, h⟩)
    exact ⟨by rw [show l_in x 6 = false from by first | exact l_lo (by assumption) | exact l_hi (by assumption) rfl | exact l_yes (by assumption) (by assumption) rfl]; rfl, rfl⟩
  · refine w_R.go (c' := (i_br .ge x 6 14 10, [(0, .int x)], [], (I, J, kR w rem, Z), 0, 0)) 3 ?_ (fun n x Q h => ⟨trivial, trivial, trivial, h⟩)
    refine w_R.br_ge (fun h2 => ?_) (fun h2 => ?_)
    · refine w_R.ret 2 (.inl (some (.int 0))) (I, J, kR w rem, Z) ?_ (fun x Q h => ⟨trivial, Or.inl rfl, ⟨Nat.le_of_ble_eq_true rfl, Nat.le_of_ble_eq_true rfl⟩, h⟩)
      exact ⟨by rw [show l_in x 6 = false from by first | exact l_lo (by assumption) | exact l_hi (by assumption) rfl | exact l_yes (by assumption) (by assumption) rfl]; rfl, rfl⟩
    · refine w_R.ret 3 (.inl (some (.int 1))) (I, J, kR w rem, Z) ?_ (fun x Q h => ⟨trivial, trivial, Or.inr rfl, ⟨Nat.le_of_ble_eq_true rfl, Nat.le_of_ble_eq_true rfl⟩, h⟩)
      exact ⟨by rw [show l_in x 6 = true from by first | exact l_lo (by assumption) | exact l_hi (by assumption) rfl | exact l_yes (by assumption) (by assumption) rfl]; rfl, rfl⟩
theorem d_32 (x : Int32) : w_R xs Ln 32 (0, [(0, .int x)], [], (I, J, kR w rem, Z), 0, 0) (fun o s => o = .inl (some (.int (s_b (l_in x 2)))) ∧ s = (I, J, kR w rem, Z)) := by
  refine w_R.go (c' := (i_br .lt x 0 13 4, [(0, .int x)], [], (I, J, kR w rem, Z), 0, 0)) 2 ?_ (fun n x Q h => ⟨trivial, trivial, h⟩)
  refine w_R.br_lt (fun h1 => ?_) (fun h1 => ?_)
  · refine w_R.ret 2 (.inl (some (.int 0))) (I, J, kR w rem, Z) ?_ (fun x Q h => ⟨trivial, Or.inl rfl, ⟨Nat.le_of_ble_eq_true rfl, Nat.le_of_ble_eq_true rfl⟩, h⟩)
    exact ⟨by rw [show l_in x 2 = false from by first | exact l_lo (by assumption) | exact l_hi (by assumption) rfl | exact l_yes (by assumption) (by assumption) rfl]; rfl, rfl⟩
  · refine w_R.go (c' := (i_br .ge x 2 13 9, [(0, .int x)], [], (I, J, kR w rem, Z), 0, 0)) 3 ?_ (fun n x Q h => ⟨trivial, trivial, trivial, h⟩)
    refine w_R.br_ge (fun h2 => ?_) (fun h2 => ?_)
    · refine w_R.ret 2 (.inl (some (.int 0))) (I, J, kR w rem, Z) ?_ (fun x Q h => ⟨trivial, Or.inl rfl, ⟨Nat.le_of_ble_eq_true rfl, Nat.le_of_ble_eq_true rfl⟩, h⟩)
      exact ⟨by rw [show l_in x 2 = false from by first | exact l_lo (by assumption) | exact l_hi (by assumption) rfl | exact l_yes (by assumption) (by assumption) rfl]; rfl, rfl⟩
    · refine w_R.ret 3 (.inl (some (.int 1))) (I, J, kR w rem, Z) ?_ (fun x Q h => ⟨trivial, trivial, Or.inr rfl, ⟨Nat.le_of_ble_eq_true rfl, Nat.le_of_ble_eq_true rfl⟩, h⟩)
      exact ⟨by rw [show l_in x 2 = true from by first | exact l_lo (by assumption) | exact l_hi (by assumption) rfl | exact l_yes (by assumption) (by assumption) rfl]; rfl, rfl⟩
theorem d_33 (x : Int32) : w_R xs Ln 33 (0, [(0, .int x)], [], (I, J, kR w rem, Z), 0, 0) (fun o s => o = .inl (some (.int (s_b (l_in x 16)))) ∧ s = (I, J, kR w rem, Z)) := by
  refine w_R.go (c' := (i_br .lt x 0 14 4, [(0, .int x)], [], (I, J, kR w rem, Z), 0, 0)) 2 ?_ (fun n x Q h => ⟨trivial, trivial, h⟩)
  refine w_R.br_lt (fun h1 => ?_) (fun h1 => ?_)
  · refine w_R.ret 2 (.inl (some (.int 0))) (I, J, kR w rem, Z) ?_ (fun x Q h => ⟨trivial, Or.inl rfl, ⟨Nat.le_of_ble_eq_true rfl, Nat.le_of_ble_eq_true rfl⟩, h⟩)
    exact ⟨by rw [show l_in x 16 = false from by first | exact l_lo (by assumption) | exact l_hi (by assumption) rfl | exact l_yes (by assumption) (by assumption) rfl]; rfl, rfl⟩
  · refine w_R.go (c' := (i_br .ge x 16 14 10, [(0, .int x)], [], (I, J, kR w rem, Z), 0, 0)) 3 ?_ (fun n x Q h => ⟨trivial, trivial, trivial, h⟩)
    refine w_R.br_ge (fun h2 => ?_) (fun h2 => ?_)
    · refine w_R.ret 2 (.inl (some (.int 0))) (I, J, kR w rem, Z) ?_ (fun x Q h => ⟨trivial, Or.inl rfl, ⟨Nat.le_of_ble_eq_true rfl, Nat.le_of_ble_eq_true rfl⟩, h⟩)
      exact ⟨by rw [show l_in x 16 = false from by first | exact l_lo (by assumption) | exact l_hi (by assumption) rfl | exact l_yes (by assumption) (by assumption) rfl]; rfl, rfl⟩
    · refine w_R.ret 3 (.inl (some (.int 1))) (I, J, kR w rem, Z) ?_ (fun x Q h => ⟨trivial, trivial, Or.inr rfl, ⟨Nat.le_of_ble_eq_true rfl, Nat.le_of_ble_eq_true rfl⟩, h⟩)
      exact ⟨by rw [show l_in x 16 = true from by first | exact l_lo (by assumption) | exact l_hi (by assumption) rfl | exact l_yes (by assumption) (by assumption) rfl]; rfl, rfl⟩
end Small
