section Small2
variable {xs : Nat → Int32} {Ln : Nat} {I : Nat → Nat → Int32} {J : Nat → Nat → Int64} {Z : Nat → Nat → Bool} {w : Nat → Nat} {rem : Nat}
theorem l_out {x : Int32} {n : Nat} {a : Int} (hn : n < 2 ^ 31) (ha : (n : Int) = a + 1) (h : ∀ k, k < n → ¬ x = Int32.ofNat k) : x.toInt < 0 ∨ a < x.toInt := by
  by_cases h0 : 0 ≤ x.toInt
  · by_cases h1 : x.toInt < (n : Int)
    · obtain ⟨k, hk, e⟩ := n_of h0 h1
      exact absurd e (h k hk)
    · omega
  · omega
def v_55 (I : Nat → Nat → Int32) (J : Nat → Nat → Int64) (Z : Nat → Nat → Bool) (u : Nat) (x : Int32) : Bool := if x = (I (135 + u) 0) then true else if (I (135 + u) 0) = 0 then if x = 3 then true else if (I (135 + u) 0) = 3 then if x = 0 then true else if (I (135 + u) 0) = 1 then if x = 2 then true else if (I (135 + u) 0) = 2 then if x = 0 then true else false else false else if (I (135 + u) 0) = 2 then if x = 0 then true else false else false else if (I (135 + u) 0) = 1 then if x = 2 then true else if (I (135 + u) 0) = 2 then if x = 0 then true else false else false else if (I (135 + u) 0) = 2 then if x = 0 then true else false else false else if (I (135 + u) 0) = 3 then if x = 0 then true else if (I (135 + u) 0) = 1 then if x = 2 then true else if (I (135 + u) 0) = 2 then if x = 0 then true else false else false else if (I (135 + u) 0) = 2 then if x = 0 then true else false else false else if (I (135 + u) 0) = 1 then if x = 2 then true else if (I (135 + u) 0) = 2 then if x = 0 then true else false else false else if (I (135 + u) 0) = 2 then if x = 0 then true else false else false
theorem d_55 (u : Nat) (x : Int32) (hu : u < 6) : w_R xs Ln 55 (0, [(0, .ref (135 + u)), (1, .int x)], [], (I, J, kR w rem, Z), 0, 0) (fun o s => o = .inl (some (.int (s_b (v_55 I J Z u x)))) ∧ s = (I, J, kR w rem, Z)) := by
  refine w_R.go (c' := (i_br .eq x (I (135 + u) 0) 57 8, [(0, .ref (135 + u)), (1, .int x)], [], (I, J, kR w rem, Z), 0, 0)) 4 ?_ (fun m_ x_ Q_ k_ => ⟨trivial, trivial, ⟨(sh_amb hu), trivial⟩, trivial, k_⟩)
  refine w_R.br_eq (fun h1 => ?_) (fun h1 => ?_)
  · refine w_R.ret 3 (.inl (some (.int 1))) (I, J, kR w rem, Z) ?_ (fun x_ Q_ k_ => ⟨trivial, trivial, Or.inr rfl, ⟨Nat.le_of_ble_eq_true rfl, Nat.le_of_ble_eq_true rfl⟩, k_⟩)
    exact ⟨by rw [show v_55 I J Z u x = true from by unfold v_55; rw [if_pos h1]] <;> rfl, rfl⟩
  · refine w_R.go (c' := (i_br .ne (I (135 + u) 0) 0 20 15, [(0, .ref (135 + u)), (1, .int x)], [], (I, J, kR w rem, Z), 0, 0)) 3 ?_ (fun m_ x_ Q_ k_ => ⟨trivial, ⟨(sh_amb hu), trivial⟩, trivial, k_⟩)
    refine w_R.br_ne (fun h2 => ?_) (fun h2 => ?_)
    · refine w_R.go (c' := (i_br .ne (I (135 + u) 0) 3 32 28, [(0, .ref (135 + u)), (1, .int x)], [], (I, J, kR w rem, Z), 0, 0)) 4 ?_ (fun m_ x_ Q_ k_ => ⟨trivial, ⟨(sh_amb hu), trivial⟩, trivial, trivial, k_⟩)
      refine w_R.br_ne (fun h3 => ?_) (fun h3 => ?_)
      · refine w_R.go (c' := (i_br .ne (I (135 + u) 0) 1 45 40, [(0, .ref (135 + u)), (1, .int x)], [], (I, J, kR w rem, Z), 0, 0)) 4 ?_ (fun m_ x_ Q_ k_ => ⟨trivial, ⟨(sh_amb hu), trivial⟩, trivial, trivial, k_⟩)
        refine w_R.br_ne (fun h4 => ?_) (fun h4 => ?_)
        · refine w_R.go (c' := (i_br .ne (I (135 + u) 0) 2 61 53, [(0, .ref (135 + u)), (1, .int x)], [], (I, J, kR w rem, Z), 0, 0)) 4 ?_ (fun m_ x_ Q_ k_ => ⟨trivial, ⟨(sh_amb hu), trivial⟩, trivial, trivial, k_⟩)
          refine w_R.br_ne (fun h5 => ?_) (fun h5 => ?_)
          · refine w_R.ret 2 (.inl (some (.int 0))) (I, J, kR w rem, Z) ?_ (fun x_ Q_ k_ => ⟨trivial, Or.inl rfl, ⟨Nat.le_of_ble_eq_true rfl, Nat.le_of_ble_eq_true rfl⟩, k_⟩)
            exact ⟨by rw [show v_55 I J Z u x = false from by unfold v_55; rw [if_neg h1, if_neg h2, if_neg h3, if_neg h4, if_neg h5]] <;> rfl, rfl⟩
          · refine w_R.go (c' := (i_br .ne x 0 61 57, [(0, .ref (135 + u)), (1, .int x)], [], (I, J, kR w rem, Z), 0, 0)) 2 ?_ (fun m_ x_ Q_ k_ => ⟨trivial, trivial, k_⟩)
            refine w_R.br_ne (fun h6 => ?_) (fun h6 => ?_)
            · refine w_R.ret 2 (.inl (some (.int 0))) (I, J, kR w rem, Z) ?_ (fun x_ Q_ k_ => ⟨trivial, Or.inl rfl, ⟨Nat.le_of_ble_eq_true rfl, Nat.le_of_ble_eq_true rfl⟩, k_⟩)
              exact ⟨by rw [show v_55 I J Z u x = false from by unfold v_55; rw [if_neg h1, if_neg h2, if_neg h3, if_neg h4, if_pos h5, if_neg h6]] <;> rfl, rfl⟩
            · refine w_R.ret 3 (.inl (some (.int 1))) (I, J, kR w rem, Z) ?_ (fun x_ Q_ k_ => ⟨trivial, trivial, Or.inr rfl, ⟨Nat.le_of_ble_eq_true rfl, Nat.le_of_ble_eq_true rfl⟩, k_⟩)
              exact ⟨by rw [show v_55 I J Z u x = true from by unfold v_55; rw [if_neg h1, if_neg h2, if_neg h3, if_neg h4, if_pos h5, if_pos h6]] <;> rfl, rfl⟩
        · refine w_R.go (c' := (i_br .eq x 2 57 45, [(0, .ref (135 + u)), (1, .int x)], [], (I, J, kR w rem, Z), 0, 0)) 3 ?_ (fun m_ x_ Q_ k_ => ⟨trivial, trivial, trivial, k_⟩)
          refine w_R.br_eq (fun h7 => ?_) (fun h7 => ?_)
          · refine w_R.ret 3 (.inl (some (.int 1))) (I, J, kR w rem, Z) ?_ (fun x_ Q_ k_ => ⟨trivial, trivial, Or.inr rfl, ⟨Nat.le_of_ble_eq_true rfl, Nat.le_of_ble_eq_true rfl⟩, k_⟩)
            exact ⟨by rw [show v_55 I J Z u x = true from by unfold v_55; rw [if_neg h1, if_neg h2, if_neg h3, if_pos h4, if_pos h7]] <;> rfl, rfl⟩
          · refine w_R.go (c' := (i_br .ne (I (135 + u) 0) 2 61 53, [(0, .ref (135 + u)), (1, .int x)], [], (I, J, kR w rem, Z), 0, 0)) 4 ?_ (fun m_ x_ Q_ k_ => ⟨trivial, ⟨(sh_amb hu), trivial⟩, trivial, trivial, k_⟩)
            refine w_R.br_ne (fun h8 => ?_) (fun h8 => ?_)
            · refine w_R.ret 2 (.inl (some (.int 0))) (I, J, kR w rem, Z) ?_ (fun x_ Q_ k_ => ⟨trivial, Or.inl rfl, ⟨Nat.le_of_ble_eq_true rfl, Nat.le_of_ble_eq_true rfl⟩, k_⟩)
              exact ⟨by rw [show v_55 I J Z u x = false from by unfold v_55; rw [if_neg h1, if_neg h2, if_neg h3, if_pos h4, if_neg h7, if_neg h8]] <;> rfl, rfl⟩
            · refine w_R.go (c' := (i_br .ne x 0 61 57, [(0, .ref (135 + u)), (1, .int x)], [], (I, J, kR w rem, Z), 0, 0)) 2 ?_ (fun m_ x_ Q_ k_ => ⟨trivial, trivial, k_⟩)
              refine w_R.br_ne (fun h9 => ?_) (fun h9 => ?_)
              · refine w_R.ret 2 (.inl (some (.int 0))) (I, J, kR w rem, Z) ?_ (fun x_ Q_ k_ => ⟨trivial, Or.inl rfl, ⟨Nat.le_of_ble_eq_true rfl, Nat.le_of_ble_eq_true rfl⟩, k_⟩)
                exact ⟨by rw [show v_55 I J Z u x = false from by unfold v_55; rw [if_neg h1, if_neg h2, if_neg h3, if_pos h4, if_neg h7, if_pos h8, if_neg h9]] <;> rfl, rfl⟩
              · refine w_R.ret 3 (.inl (some (.int 1))) (I, J, kR w rem, Z) ?_ (fun x_ Q_ k_ => ⟨trivial, trivial, Or.inr rfl, ⟨Nat.le_of_ble_eq_true rfl, Nat.le_of_ble_eq_true rfl⟩, k_⟩)
                exact ⟨by rw [show v_55 I J Z u x = true from by unfold v_55; rw [if_neg h1, if_neg h2, if_neg h3, if_pos h4, if_neg h7, if_pos h8, if_pos h9]] <;> rfl, rfl⟩
      · refine w_R.go (c' := (i_br .eq x 0 57 32, [(0, .ref (135 + u)), (1, .int x)], [], (I, J, kR w rem, Z), 0, 0)) 2 ?_ (fun m_ x_ Q_ k_ => ⟨trivial, trivial, k_⟩)
        refine w_R.br_eq (fun h10 => ?_) (fun h10 => ?_)
        · refine w_R.ret 3 (.inl (some (.int 1))) (I, J, kR w rem, Z) ?_ (fun x_ Q_ k_ => ⟨trivial, trivial, Or.inr rfl, ⟨Nat.le_of_ble_eq_true rfl, Nat.le_of_ble_eq_true rfl⟩, k_⟩)
          exact ⟨by rw [show v_55 I J Z u x = true from by unfold v_55; rw [if_neg h1, if_neg h2, if_pos h3, if_pos h10]] <;> rfl, rfl⟩
        · refine w_R.go (c' := (i_br .ne (I (135 + u) 0) 1 45 40, [(0, .ref (135 + u)), (1, .int x)], [], (I, J, kR w rem, Z), 0, 0)) 4 ?_ (fun m_ x_ Q_ k_ => ⟨trivial, ⟨(sh_amb hu), trivial⟩, trivial, trivial, k_⟩)
          refine w_R.br_ne (fun h11 => ?_) (fun h11 => ?_)
          · refine w_R.go (c' := (i_br .ne (I (135 + u) 0) 2 61 53, [(0, .ref (135 + u)), (1, .int x)], [], (I, J, kR w rem, Z), 0, 0)) 4 ?_ (fun m_ x_ Q_ k_ => ⟨trivial, ⟨(sh_amb hu), trivial⟩, trivial, trivial, k_⟩)
            refine w_R.br_ne (fun h12 => ?_) (fun h12 => ?_)
            · refine w_R.ret 2 (.inl (some (.int 0))) (I, J, kR w rem, Z) ?_ (fun x_ Q_ k_ => ⟨trivial, Or.inl rfl, ⟨Nat.le_of_ble_eq_true rfl, Nat.le_of_ble_eq_true rfl⟩, k_⟩)
              exact ⟨by rw [show v_55 I J Z u x = false from by unfold v_55; rw [if_neg h1, if_neg h2, if_pos h3, if_neg h10, if_neg h11, if_neg h12]] <;> rfl, rfl⟩
            · refine w_R.go (c' := (i_br .ne x 0 61 57, [(0, .ref (135 + u)), (1, .int x)], [], (I, J, kR w rem, Z), 0, 0)) 2 ?_ (fun m_ x_ Q_ k_ => ⟨trivial, trivial, k_⟩)
              refine w_R.br_ne (fun h13 => ?_) (fun h13 => ?_)
              · refine w_R.ret 2 (.inl (some (.int 0))) (I, J, kR w rem, Z) ?_ (fun x_ Q_ k_ => ⟨trivial, Or.inl rfl, ⟨Nat.le_of_ble_eq_true rfl, Nat.le_of_ble_eq_true rfl⟩, k_⟩)
                exact ⟨by rw [show v_55 I J Z u x = false from by unfold v_55; rw [if_neg h1, if_neg h2, if_pos h3, if_neg h10, if_neg h11, if_pos h12, if_neg h13]] <;> rfl, rfl⟩
              · refine w_R.ret 3 (.inl (some (.int 1))) (I, J, kR w rem, Z) ?_ (fun x_ Q_ k_ => ⟨trivial, trivial, Or.inr rfl, ⟨Nat.le_of_ble_eq_true rfl, Nat.le_of_ble_eq_true rfl⟩, k_⟩)
                exact ⟨by rw [show v_55 I J Z u x = true from by unfold v_55; rw [if_neg h1, if_neg h2, if_pos h3, if_neg h10, if_neg h11, if_pos h12, if_pos h13]] <;> rfl, rfl⟩
          · refine w_R.go (c' := (i_br .eq x 2 57 45, [(0, .ref (135 + u)), (1, .int x)], [], (I, J, kR w rem, Z), 0, 0)) 3 ?_ (fun m_ x_ Q_ k_ => ⟨trivial, trivial, trivial, k_⟩)
            refine w_R.br_eq (fun h14 => ?_) (fun h14 => ?_)
            · refine w_R.ret 3 (.inl (some (.int 1))) (I, J, kR w rem, Z) ?_ (fun x_ Q_ k_ => ⟨trivial, trivial, Or.inr rfl, ⟨Nat.le_of_ble_eq_true rfl, Nat.le_of_ble_eq_true rfl⟩, k_⟩)
              exact ⟨by rw [show v_55 I J Z u x = true from by unfold v_55; rw [if_neg h1, if_neg h2, if_pos h3, if_neg h10, if_pos h11, if_pos h14]] <;> rfl, rfl⟩
            · refine w_R.go (c' := (i_br .ne (I (135 + u) 0) 2 61 53, [(0, .ref (135 + u)), (1, .int x)], [], (I, J, kR w rem, Z), 0, 0)) 4 ?_ (fun m_ x_ Q_ k_ => ⟨trivial, ⟨(sh_amb hu), trivial⟩, trivial, trivial, k_⟩)
              refine w_R.br_ne (fun h15 => ?_) (fun h15 => ?_)
              · refine w_R.ret 2 (.inl (some (.int 0))) (I, J, kR w rem, Z) ?_ (fun x_ Q_ k_ => ⟨trivial, Or.inl rfl, ⟨Nat.le_of_ble_eq_true rfl, Nat.le_of_ble_eq_true rfl⟩, k_⟩)
                exact ⟨by rw [show v_55 I J Z u x = false from by unfold v_55; rw [if_neg h1, if_neg h2, if_pos h3, if_neg h10, if_pos h11, if_neg h14, if_neg h15]] <;> rfl, rfl⟩
              · refine w_R.go (c' := (i_br .ne x 0 61 57, [(0, .ref (135 + u)), (1, .int x)], [], (I, J, kR w rem, Z), 0, 0)) 2 ?_ (fun m_ x_ Q_ k_ => ⟨trivial, trivial, k_⟩)
                refine w_R.br_ne (fun h16 => ?_) (fun h16 => ?_)
                · refine w_R.ret 2 (.inl (some (.int 0))) (I, J, kR w rem, Z) ?_ (fun x_ Q_ k_ => ⟨trivial, Or.inl rfl, ⟨Nat.le_of_ble_eq_true rfl, Nat.le_of_ble_eq_true rfl⟩, k_⟩)
                  exact ⟨by rw [show v_55 I J Z u x = false from by unfold v_55; rw [if_neg h1, if_neg h2, if_pos h3, if_neg h10, if_pos h11, if_neg h14, if_pos h15, if_neg h16]] <;> rfl, rfl⟩
                · refine w_R.ret 3 (.inl (some (.int 1))) (I, J, kR w rem, Z) ?_ (fun x_ Q_ k_ => ⟨trivial, trivial, Or.inr rfl, ⟨Nat.le_of_ble_eq_true rfl, Nat.le_of_ble_eq_true rfl⟩, k_⟩)
                  exact ⟨by rw [show v_55 I J Z u x = true from by unfold v_55; rw [if_neg h1, if_neg h2, if_pos h3, if_neg h10, if_pos h11, if_neg h14, if_pos h15, if_pos h16]] <;> rfl, rfl⟩
    · refine w_R.go (c' := (i_br .eq x 3 57 20, [(0, .ref (135 + u)), (1, .int x)], [], (I, J, kR w rem, Z), 0, 0)) 3 ?_ (fun m_ x_ Q_ k_ => ⟨trivial, trivial, trivial, k_⟩)
      refine w_R.br_eq (fun h17 => ?_) (fun h17 => ?_)
      · refine w_R.ret 3 (.inl (some (.int 1))) (I, J, kR w rem, Z) ?_ (fun x_ Q_ k_ => ⟨trivial, trivial, Or.inr rfl, ⟨Nat.le_of_ble_eq_true rfl, Nat.le_of_ble_eq_true rfl⟩, k_⟩)
        exact ⟨by rw [show v_55 I J Z u x = true from by unfold v_55; rw [if_neg h1, if_pos h2, if_pos h17]] <;> rfl, rfl⟩
      · refine w_R.go (c' := (i_br .ne (I (135 + u) 0) 3 32 28, [(0, .ref (135 + u)), (1, .int x)], [], (I, J, kR w rem, Z), 0, 0)) 4 ?_ (fun m_ x_ Q_ k_ => ⟨trivial, ⟨(sh_amb hu), trivial⟩, trivial, trivial, k_⟩)
        refine w_R.br_ne (fun h18 => ?_) (fun h18 => ?_)
        · refine w_R.go (c' := (i_br .ne (I (135 + u) 0) 1 45 40, [(0, .ref (135 + u)), (1, .int x)], [], (I, J, kR w rem, Z), 0, 0)) 4 ?_ (fun m_ x_ Q_ k_ => ⟨trivial, ⟨(sh_amb hu), trivial⟩, trivial, trivial, k_⟩)
          refine w_R.br_ne (fun h19 => ?_) (fun h19 => ?_)
          · refine w_R.go (c' := (i_br .ne (I (135 + u) 0) 2 61 53, [(0, .ref (135 + u)), (1, .int x)], [], (I, J, kR w rem, Z), 0, 0)) 4 ?_ (fun m_ x_ Q_ k_ => ⟨trivial, ⟨(sh_amb hu), trivial⟩, trivial, trivial, k_⟩)
            refine w_R.br_ne (fun h20 => ?_) (fun h20 => ?_)
            · refine w_R.ret 2 (.inl (some (.int 0))) (I, J, kR w rem, Z) ?_ (fun x_ Q_ k_ => ⟨trivial, Or.inl rfl, ⟨Nat.le_of_ble_eq_true rfl, Nat.le_of_ble_eq_true rfl⟩, k_⟩)
              exact ⟨by rw [show v_55 I J Z u x = false from by unfold v_55; rw [if_neg h1, if_pos h2, if_neg h17, if_neg h18, if_neg h19, if_neg h20]] <;> rfl, rfl⟩
            · refine w_R.go (c' := (i_br .ne x 0 61 57, [(0, .ref (135 + u)), (1, .int x)], [], (I, J, kR w rem, Z), 0, 0)) 2 ?_ (fun m_ x_ Q_ k_ => ⟨trivial, trivial, k_⟩)
              refine w_R.br_ne (fun h21 => ?_) (fun h21 => ?_)
              · refine w_R.ret 2 (.inl (some (.int 0))) (I, J, kR w rem, Z) ?_ (fun x_ Q_ k_ => ⟨trivial, Or.inl rfl, ⟨Nat.le_of_ble_eq_true rfl, Nat.le_of_ble_eq_true rfl⟩, k_⟩)
                exact ⟨by rw [show v_55 I J Z u x = false from by unfold v_55; rw [if_neg h1, if_pos h2, if_neg h17, if_neg h18, if_neg h19, if_pos h20, if_neg h21]] <;> rfl, rfl⟩
              · refine w_R.ret 3 (.inl (some (.int 1))) (I, J, kR w rem, Z) ?_ (fun x_ Q_ k_ => ⟨trivial, trivial, Or.inr rfl, ⟨Nat.le_of_ble_eq_true rfl, Nat.le_of_ble_eq_true rfl⟩, k_⟩)
                exact ⟨by rw [show v_55 I J Z u x = true from by unfold v_55; rw [if_neg h1, if_pos h2, if_neg h17, if_neg h18, if_neg h19, if_pos h20, if_pos h21]] <;> rfl, rfl⟩
          · refine w_R.go (c' := (i_br .eq x 2 57 45, [(0, .ref (135 + u)), (1, .int x)], [], (I, J, kR w rem, Z), 0, 0)) 3 ?_ (fun m_ x_ Q_ k_ => ⟨trivial, trivial, trivial, k_⟩)
            refine w_R.br_eq (fun h22 => ?_) (fun h22 => ?_)
            · refine w_R.ret 3 (.inl (some (.int 1))) (I, J, kR w rem, Z) ?_ (fun x_ Q_ k_ => ⟨trivial, trivial, Or.inr rfl, ⟨Nat.le_of_ble_eq_true rfl, Nat.le_of_ble_eq_true rfl⟩, k_⟩)
              exact ⟨by rw [show v_55 I J Z u x = true from by unfold v_55; rw [if_neg h1, if_pos h2, if_neg h17, if_neg h18, if_pos h19, if_pos h22]] <;> rfl, rfl⟩
            · refine w_R.go (c' := (i_br .ne (I (135 + u) 0) 2 61 53, [(0, .ref (135 + u)), (1, .int x)], [], (I, J, kR w rem, Z), 0, 0)) 4 ?_ (fun m_ x_ Q_ k_ => ⟨trivial, ⟨(sh_amb hu), trivial⟩, trivial, trivial, k_⟩)
              refine w_R.br_ne (fun h23 => ?_) (fun h23 => ?_)
              · refine w_R.ret 2 (.inl (some (.int 0))) (I, J, kR w rem, Z) ?_ (fun x_ Q_ k_ => ⟨trivial, Or.inl rfl, ⟨Nat.le_of_ble_eq_true rfl, Nat.le_of_ble_eq_true rfl⟩, k_⟩)
                exact ⟨by rw [show v_55 I J Z u x = false from by unfold v_55; rw [if_neg h1, if_pos h2, if_neg h17, if_neg h18, if_pos h19, if_neg h22, if_neg h23]] <;> rfl, rfl⟩
              · refine w_R.go (c' := (i_br .ne x 0 61 57, [(0, .ref (135 + u)), (1, .int x)], [], (I, J, kR w rem, Z), 0, 0)) 2 ?_ (fun m_ x_ Q_ k_ => ⟨trivial, trivial, k_⟩)
                refine w_R.br_ne (fun h24 => ?_) (fun h24 => ?_)
                · refine w_R.ret 2 (.inl (some (.int 0))) (I, J, kR w rem, Z) ?_ (fun x_ Q_ k_ => ⟨trivial, Or.inl rfl, ⟨Nat.le_of_ble_eq_true rfl, Nat.le_of_ble_eq_true rfl⟩, k_⟩)
                  exact ⟨by rw [show v_55 I J Z u x = false from by unfold v_55; rw [if_neg h1, if_pos h2, if_neg h17, if_neg h18, if_pos h19, if_neg h22, if_pos h23, if_neg h24]] <;> rfl, rfl⟩
                · refine w_R.ret 3 (.inl (some (.int 1))) (I, J, kR w rem, Z) ?_ (fun x_ Q_ k_ => ⟨trivial, trivial, Or.inr rfl, ⟨Nat.le_of_ble_eq_true rfl, Nat.le_of_ble_eq_true rfl⟩, k_⟩)
                  exact ⟨by rw [show v_55 I J Z u x = true from by unfold v_55; rw [if_neg h1, if_pos h2, if_neg h17, if_neg h18, if_pos h19, if_neg h22, if_pos h23, if_pos h24]] <;> rfl, rfl⟩
        · refine w_R.go (c' := (i_br .eq x 0 57 32, [(0, .ref (135 + u)), (1, .int x)], [], (I, J, kR w rem, Z), 0, 0)) 2 ?_ (fun m_ x_ Q_ k_ => ⟨trivial, trivial, k_⟩)
          refine w_R.br_eq (fun h25 => ?_) (fun h25 => ?_)
          · refine w_R.ret 3 (.inl (some (.int 1))) (I, J, kR w rem, Z) ?_ (fun x_ Q_ k_ => ⟨trivial, trivial, Or.inr rfl, ⟨Nat.le_of_ble_eq_true rfl, Nat.le_of_ble_eq_true rfl⟩, k_⟩)
            exact ⟨by rw [show v_55 I J Z u x = true from by unfold v_55; rw [if_neg h1, if_pos h2, if_neg h17, if_pos h18, if_pos h25]] <;> rfl, rfl⟩
          · refine w_R.go (c' := (i_br .ne (I (135 + u) 0) 1 45 40, [(0, .ref (135 + u)), (1, .int x)], [], (I, J, kR w rem, Z), 0, 0)) 4 ?_ (fun m_ x_ Q_ k_ => ⟨trivial, ⟨(sh_amb hu), trivial⟩, trivial, trivial, k_⟩)
            refine w_R.br_ne (fun h26 => ?_) (fun h26 => ?_)
            · refine w_R.go (c' := (i_br .ne (I (135 + u) 0) 2 61 53, [(0, .ref (135 + u)), (1, .int x)], [], (I, J, kR w rem, Z), 0, 0)) 4 ?_ (fun m_ x_ Q_ k_ => ⟨trivial, ⟨(sh_amb hu), trivial⟩, trivial, trivial, k_⟩)
              refine w_R.br_ne (fun h27 => ?_) (fun h27 => ?_)
              · refine w_R.ret 2 (.inl (some (.int 0))) (I, J, kR w rem, Z) ?_ (fun x_ Q_ k_ => ⟨trivial, Or.inl rfl, ⟨Nat.le_of_ble_eq_true rfl, Nat.le_of_ble_eq_true rfl⟩, k_⟩)
                exact ⟨by rw [show v_55 I J Z u x = false from by unfold v_55; rw [if_neg h1, if_pos h2, if_neg h17, if_pos h18, if_neg h25, if_neg h26, if_neg h27]] <;> rfl, rfl⟩
              · refine w_R.go (c' := (i_br .ne x 0 61 57, [(0, .ref (135 + u)), (1, .int x)], [], (I, J, kR w rem, Z), 0, 0)) 2 ?_ (fun m_ x_ Q_ k_ => ⟨trivial, trivial, k_⟩)
                refine w_R.br_ne (fun h28 => ?_) (fun h28 => ?_)
                · refine w_R.ret 2 (.inl (some (.int 0))) (I, J, kR w rem, Z) ?_ (fun x_ Q_ k_ => ⟨trivial, Or.inl rfl, ⟨Nat.le_of_ble_eq_true rfl, Nat.le_of_ble_eq_true rfl⟩, k_⟩)
                  exact ⟨by rw [show v_55 I J Z u x = false from by unfold v_55; rw [if_neg h1, if_pos h2, if_neg h17, if_pos h18, if_neg h25, if_neg h26, if_pos h27, if_neg h28]] <;> rfl, rfl⟩
                · refine w_R.ret 3 (.inl (some (.int 1))) (I, J, kR w rem, Z) ?_ (fun x_ Q_ k_ => ⟨trivial, trivial, Or.inr rfl, ⟨Nat.le_of_ble_eq_true rfl, Nat.le_of_ble_eq_true rfl⟩, k_⟩)
                  exact ⟨by rw [show v_55 I J Z u x = true from by unfold v_55; rw [if_neg h1, if_pos h2, if_neg h17, if_pos h18, if_neg h25, if_neg h26, if_pos h27, if_pos h28]] <;> rfl, rfl⟩
            · refine w_R.go (c' := (i_br .eq x 2 57 45, [(0, .ref (135 + u)), (1, .int x)], [], (I, J, kR w rem, Z), 0, 0)) 3 ?_ (fun m_ x_ Q_ k_ => ⟨trivial, trivial, trivial, k_⟩)
              refine w_R.br_eq (fun h29 => ?_) (fun h29 => ?_)
              · refine w_R.ret 3 (.inl (some (.int 1))) (I, J, kR w rem, Z) ?_ (fun x_ Q_ k_ => ⟨trivial, trivial, Or.inr rfl, ⟨Nat.le_of_ble_eq_true rfl, Nat.le_of_ble_eq_true rfl⟩, k_⟩)
                exact ⟨by rw [show v_55 I J Z u x = true from by unfold v_55; rw [if_neg h1, if_pos h2, if_neg h17, if_pos h18, if_neg h25, if_pos h26, if_pos h29]] <;> rfl, rfl⟩
              · refine w_R.go (c' := (i_br .ne (I (135 + u) 0) 2 61 53, [(0, .ref (135 + u)), (1, .int x)], [], (I, J, kR w rem, Z), 0, 0)) 4 ?_ (fun m_ x_ Q_ k_ => ⟨trivial, ⟨(sh_amb hu), trivial⟩, trivial, trivial, k_⟩)
                refine w_R.br_ne (fun h30 => ?_) (fun h30 => ?_)
                · refine w_R.ret 2 (.inl (some (.int 0))) (I, J, kR w rem, Z) ?_ (fun x_ Q_ k_ => ⟨trivial, Or.inl rfl, ⟨Nat.le_of_ble_eq_true rfl, Nat.le_of_ble_eq_true rfl⟩, k_⟩)
                  exact ⟨by rw [show v_55 I J Z u x = false from by unfold v_55; rw [if_neg h1, if_pos h2, if_neg h17, if_pos h18, if_neg h25, if_pos h26, if_neg h29, if_neg h30]] <;> rfl, rfl⟩
                · refine w_R.go (c' := (i_br .ne x 0 61 57, [(0, .ref (135 + u)), (1, .int x)], [], (I, J, kR w rem, Z), 0, 0)) 2 ?_ (fun m_ x_ Q_ k_ => ⟨trivial, trivial, k_⟩)
                  refine w_R.br_ne (fun h31 => ?_) (fun h31 => ?_)
                  · refine w_R.ret 2 (.inl (some (.int 0))) (I, J, kR w rem, Z) ?_ (fun x_ Q_ k_ => ⟨trivial, Or.inl rfl, ⟨Nat.le_of_ble_eq_true rfl, Nat.le_of_ble_eq_true rfl⟩, k_⟩)
                    exact ⟨by rw [show v_55 I J Z u x = false from by unfold v_55; rw [if_neg h1, if_pos h2, if_neg h17, if_pos h18, if_neg h25, if_pos h26, if_neg h29, if_pos h30, if_neg h31]] <;> rfl, rfl⟩
                  · refine w_R.ret 3 (.inl (some (.int 1))) (I, J, kR w rem, Z) ?_ (fun x_ Q_ k_ => ⟨trivial, trivial, Or.inr rfl, ⟨Nat.le_of_ble_eq_true rfl, Nat.le_of_ble_eq_true rfl⟩, k_⟩)
                    exact ⟨by rw [show v_55 I J Z u x = true from by unfold v_55; rw [if_neg h1, if_pos h2, if_neg h17, if_pos h18, if_neg h25, if_pos h26, if_neg h29, if_pos h30, if_pos h31]] <;> rfl, rfl⟩
def i_56 (I : Nat → Nat → Int32) (J : Nat → Nat → Int64) (Z : Nat → Nat → Bool) (u : Nat) (x : Int32) : Nat → Nat → Int32 := if (I (135 + u) 0) = 1 then if x = 2 then if (I (135 + u) 0) = 2 then if x = 0 then s_up (s_up (s_up I (135 + u) 1 (I (135 + u) 5)) (135 + u) 4 (-1)) (135 + u) 0 x else s_up (s_up I (135 + u) 1 (I (135 + u) 5)) (135 + u) 0 x else s_up (s_up I (135 + u) 1 (I (135 + u) 5)) (135 + u) 0 x else if (I (135 + u) 0) = 2 then if x = 0 then s_up (s_up I (135 + u) 4 (-1)) (135 + u) 0 x else s_up I (135 + u) 0 x else s_up I (135 + u) 0 x else if (I (135 + u) 0) = 2 then if x = 0 then s_up (s_up I (135 + u) 4 (-1)) (135 + u) 0 x else s_up I (135 + u) 0 x else s_up I (135 + u) 0 x
theorem d_56 (u : Nat) (x : Int32) (hu : u < 6) : w_R xs Ln 56 (0, [(0, .ref (135 + u)), (1, .int x)], [], (I, J, kR w rem, Z), 0, 0) (fun o s => o = .inl none ∧ s = (i_56 I J Z u x, J, kR w rem, Z)) := by
  refine w_R.go (c' := (i_br .ne (I (135 + u) 0) 1 21 8, [(0, .ref (135 + u)), (1, .int x)], [], (I, J, kR w rem, Z), 0, 0)) 4 ?_ (fun m_ x_ Q_ k_ => ⟨trivial, ⟨(sh_amb hu), trivial⟩, trivial, trivial, k_⟩)
  refine w_R.br_ne (fun h1 => ?_) (fun h1 => ?_)
  · refine w_R.go (c' := (i_br .ne (I (135 + u) 0) 2 38 29, [(0, .ref (135 + u)), (1, .int x)], [], (I, J, kR w rem, Z), 0, 0)) 4 ?_ (fun m_ x_ Q_ k_ => ⟨trivial, ⟨(sh_amb hu), trivial⟩, trivial, trivial, k_⟩)
    refine w_R.br_ne (fun h2 => ?_) (fun h2 => ?_)
    · refine w_R.ret 4 (.inl none) (s_up I (135 + u) 0 x, J, kR w rem, Z) ?_ (fun x_ Q_ k_ => ⟨trivial, trivial, ⟨(sh_amb hu), trivial⟩, ⟨Nat.le_of_ble_eq_true rfl, Nat.le_of_ble_eq_true rfl⟩, k_⟩)
      exact ⟨rfl, by rw [show i_56 I J Z u x = (s_up I (135 + u) 0 x) from by unfold i_56; rw [if_neg h1, if_neg h2]]⟩
    · refine w_R.go (c' := (i_br .ne x 0 38 33, [(0, .ref (135 + u)), (1, .int x)], [], (I, J, kR w rem, Z), 0, 0)) 2 ?_ (fun m_ x_ Q_ k_ => ⟨trivial, trivial, k_⟩)
      refine w_R.br_ne (fun h3 => ?_) (fun h3 => ?_)
      · refine w_R.ret 4 (.inl none) (s_up I (135 + u) 0 x, J, kR w rem, Z) ?_ (fun x_ Q_ k_ => ⟨trivial, trivial, ⟨(sh_amb hu), trivial⟩, ⟨Nat.le_of_ble_eq_true rfl, Nat.le_of_ble_eq_true rfl⟩, k_⟩)
        exact ⟨rfl, by rw [show i_56 I J Z u x = (s_up I (135 + u) 0 x) from by unfold i_56; rw [if_neg h1, if_pos h2, if_neg h3]]⟩
      · refine w_R.ret 7 (.inl none) (s_up (s_up I (135 + u) 4 (-1)) (135 + u) 0 x, J, kR w rem, Z) ?_ (fun x_ Q_ k_ => ⟨trivial, trivial, ⟨(sh_amb hu), trivial⟩, trivial, trivial, ⟨(sh_amb hu), trivial⟩, ⟨Nat.le_of_ble_eq_true rfl, Nat.le_of_ble_eq_true rfl⟩, k_⟩)
        exact ⟨rfl, by rw [show i_56 I J Z u x = (s_up (s_up I (135 + u) 4 (-1)) (135 + u) 0 x) from by unfold i_56; rw [if_neg h1, if_pos h2, if_pos h3]]⟩
  · refine w_R.go (c' := (i_br .ne x 2 21 13, [(0, .ref (135 + u)), (1, .int x)], [], (I, J, kR w rem, Z), 0, 0)) 3 ?_ (fun m_ x_ Q_ k_ => ⟨trivial, trivial, trivial, k_⟩)
    refine w_R.br_ne (fun h4 => ?_) (fun h4 => ?_)
    · refine w_R.go (c' := (i_br .ne (I (135 + u) 0) 2 38 29, [(0, .ref (135 + u)), (1, .int x)], [], (I, J, kR w rem, Z), 0, 0)) 4 ?_ (fun m_ x_ Q_ k_ => ⟨trivial, ⟨(sh_amb hu), trivial⟩, trivial, trivial, k_⟩)
      refine w_R.br_ne (fun h5 => ?_) (fun h5 => ?_)
      · refine w_R.ret 4 (.inl none) (s_up I (135 + u) 0 x, J, kR w rem, Z) ?_ (fun x_ Q_ k_ => ⟨trivial, trivial, ⟨(sh_amb hu), trivial⟩, ⟨Nat.le_of_ble_eq_true rfl, Nat.le_of_ble_eq_true rfl⟩, k_⟩)
        exact ⟨rfl, by rw [show i_56 I J Z u x = (s_up I (135 + u) 0 x) from by unfold i_56; rw [if_pos h1, if_neg h4, if_neg h5]]⟩
      · refine w_R.go (c' := (i_br .ne x 0 38 33, [(0, .ref (135 + u)), (1, .int x)], [], (I, J, kR w rem, Z), 0, 0)) 2 ?_ (fun m_ x_ Q_ k_ => ⟨trivial, trivial, k_⟩)
        refine w_R.br_ne (fun h6 => ?_) (fun h6 => ?_)
        · refine w_R.ret 4 (.inl none) (s_up I (135 + u) 0 x, J, kR w rem, Z) ?_ (fun x_ Q_ k_ => ⟨trivial, trivial, ⟨(sh_amb hu), trivial⟩, ⟨Nat.le_of_ble_eq_true rfl, Nat.le_of_ble_eq_true rfl⟩, k_⟩)
          exact ⟨rfl, by rw [show i_56 I J Z u x = (s_up I (135 + u) 0 x) from by unfold i_56; rw [if_pos h1, if_neg h4, if_pos h5, if_neg h6]]⟩
        · refine w_R.ret 7 (.inl none) (s_up (s_up I (135 + u) 4 (-1)) (135 + u) 0 x, J, kR w rem, Z) ?_ (fun x_ Q_ k_ => ⟨trivial, trivial, ⟨(sh_amb hu), trivial⟩, trivial, trivial, ⟨(sh_amb hu), trivial⟩, ⟨Nat.le_of_ble_eq_true rfl, Nat.le_of_ble_eq_true rfl⟩, k_⟩)
          exact ⟨rfl, by rw [show i_56 I J Z u x = (s_up (s_up I (135 + u) 4 (-1)) (135 + u) 0 x) from by unfold i_56; rw [if_pos h1, if_neg h4, if_pos h5, if_pos h6]]⟩
    · refine w_R.go (c' := (25, [(0, .ref (135 + u)), (1, .int x)], [.int ((s_up I (135 + u) 1 (I (135 + u) 5)) (135 + u) 0)], (s_up I (135 + u) 1 (I (135 + u) 5), J, kR w rem, Z), 0, 0)) 6 ?_ (fun m_ x_ Q_ k_ => ⟨trivial, trivial, ⟨(sh_amb hu), trivial⟩, ⟨(sh_amb hu), trivial⟩, trivial, ⟨(sh_amb hu), trivial⟩, k_⟩)
      rw [show (s_up I (135 + u) 1 (I (135 + u) 5)) (135 + u) 0 = I (135 + u) 0 from (s_upk (by decide))]
      show w_R xs Ln 56 (25, [(0, .ref (135 + u)), (1, .int x)], [.int (I (135 + u) 0)], (s_up I (135 + u) 1 (I (135 + u) 5), J, kR w rem, Z), 0, 0) _
      refine w_R.go (c' := (i_br .ne (I (135 + u) 0) 2 38 29, [(0, .ref (135 + u)), (1, .int x)], [], (s_up I (135 + u) 1 (I (135 + u) 5), J, kR w rem, Z), 0, 0)) 2 ?_ (fun m_ x_ Q_ k_ => ⟨trivial, trivial, k_⟩)
      refine w_R.br_ne (fun h7 => ?_) (fun h7 => ?_)
      · refine w_R.ret 4 (.inl none) (s_up (s_up I (135 + u) 1 (I (135 + u) 5)) (135 + u) 0 x, J, kR w rem, Z) ?_ (fun x_ Q_ k_ => ⟨trivial, trivial, ⟨(sh_amb hu), trivial⟩, ⟨Nat.le_of_ble_eq_true rfl, Nat.le_of_ble_eq_true rfl⟩, k_⟩)
        exact ⟨rfl, by rw [show i_56 I J Z u x = (s_up (s_up I (135 + u) 1 (I (135 + u) 5)) (135 + u) 0 x) from by unfold i_56; rw [if_pos h1, if_pos h4, if_neg h7]]⟩
      · refine w_R.go (c' := (i_br .ne x 0 38 33, [(0, .ref (135 + u)), (1, .int x)], [], (s_up I (135 + u) 1 (I (135 + u) 5), J, kR w rem, Z), 0, 0)) 2 ?_ (fun m_ x_ Q_ k_ => ⟨trivial, trivial, k_⟩)
        refine w_R.br_ne (fun h8 => ?_) (fun h8 => ?_)
        · refine w_R.ret 4 (.inl none) (s_up (s_up I (135 + u) 1 (I (135 + u) 5)) (135 + u) 0 x, J, kR w rem, Z) ?_ (fun x_ Q_ k_ => ⟨trivial, trivial, ⟨(sh_amb hu), trivial⟩, ⟨Nat.le_of_ble_eq_true rfl, Nat.le_of_ble_eq_true rfl⟩, k_⟩)
          exact ⟨rfl, by rw [show i_56 I J Z u x = (s_up (s_up I (135 + u) 1 (I (135 + u) 5)) (135 + u) 0 x) from by unfold i_56; rw [if_pos h1, if_pos h4, if_pos h7, if_neg h8]]⟩
        · refine w_R.ret 7 (.inl none) (s_up (s_up (s_up I (135 + u) 1 (I (135 + u) 5)) (135 + u) 4 (-1)) (135 + u) 0 x, J, kR w rem, Z) ?_ (fun x_ Q_ k_ => ⟨trivial, trivial, ⟨(sh_amb hu), trivial⟩, trivial, trivial, ⟨(sh_amb hu), trivial⟩, ⟨Nat.le_of_ble_eq_true rfl, Nat.le_of_ble_eq_true rfl⟩, k_⟩)
          exact ⟨rfl, by rw [show i_56 I J Z u x = (s_up (s_up (s_up I (135 + u) 1 (I (135 + u) 5)) (135 + u) 4 (-1)) (135 + u) 0 x) from by unfold i_56; rw [if_pos h1, if_pos h4, if_pos h7, if_pos h8]]⟩
def v_58 (I : Nat → Nat → Int32) (J : Nat → Nat → Int64) (Z : Nat → Nat → Bool) (u : Nat) (x : Int32) : Int32 := if x = 0 then I (135 + u) 0 else if x = 1 then I (135 + u) 1 else if x = 2 then I (135 + u) 4 else if x = 3 then I (135 + u) 6 else if x = 4 then I (135 + u) 3 else if x = 5 then I (135 + u) 2 else (-1)
theorem d_58 (u : Nat) (x : Int32) (hu : u < 6) : w_R xs Ln 58 (0, [(0, .ref (135 + u)), (1, .int x)], [], (I, J, kR w rem, Z), 0, 0) (fun o s => o = .inl (some (.int (v_58 I J Z u x))) ∧ s = (I, J, kR w rem, Z)) := by
  refine w_R.go (c' := (if x.toInt < 0 ∨ 5 < x.toInt then 70 else i_tg 1 ((#[39, 44, 49, 54, 59, 64] : Array Int).getD (x.toInt - 0).toNat 0), [(0, .ref (135 + u)), (1, .int x)], [], (I, J, kR w rem, Z), 0, 0)) 2 ?_ (fun m_ x_ Q_ k_ => ⟨trivial, trivial, k_⟩)
  by_cases h1 : x = 0
  · rw [show (if x.toInt < 0 ∨ 5 < x.toInt then 70 else i_tg 1 ((#[39, 44, 49, 54, 59, 64] : Array Int).getD (x.toInt - 0).toNat 0)) = 40 by rw [h1]; rfl]
    refine w_R.ret 3 (.inl (some (.int (I (135 + u) 0)))) (I, J, kR w rem, Z) ?_ (fun x_ Q_ k_ => ⟨trivial, ⟨(sh_amb hu), trivial⟩, trivial, ⟨Nat.le_of_ble_eq_true rfl, Nat.le_of_ble_eq_true rfl⟩, k_⟩)
    exact ⟨by rw [show v_58 I J Z u x = (I (135 + u) 0) from by unfold v_58; rw [if_pos h1]] <;> rfl, rfl⟩
  by_cases h2 : x = 1
  · rw [show (if x.toInt < 0 ∨ 5 < x.toInt then 70 else i_tg 1 ((#[39, 44, 49, 54, 59, 64] : Array Int).getD (x.toInt - 0).toNat 0)) = 45 by rw [h2]; rfl]
    refine w_R.ret 3 (.inl (some (.int (I (135 + u) 1)))) (I, J, kR w rem, Z) ?_ (fun x_ Q_ k_ => ⟨trivial, ⟨(sh_amb hu), trivial⟩, trivial, ⟨Nat.le_of_ble_eq_true rfl, Nat.le_of_ble_eq_true rfl⟩, k_⟩)
    exact ⟨by rw [show v_58 I J Z u x = (I (135 + u) 1) from by unfold v_58; rw [if_neg h1, if_pos h2]] <;> rfl, rfl⟩
  by_cases h3 : x = 2
  · rw [show (if x.toInt < 0 ∨ 5 < x.toInt then 70 else i_tg 1 ((#[39, 44, 49, 54, 59, 64] : Array Int).getD (x.toInt - 0).toNat 0)) = 50 by rw [h3]; rfl]
    refine w_R.ret 3 (.inl (some (.int (I (135 + u) 4)))) (I, J, kR w rem, Z) ?_ (fun x_ Q_ k_ => ⟨trivial, ⟨(sh_amb hu), trivial⟩, trivial, ⟨Nat.le_of_ble_eq_true rfl, Nat.le_of_ble_eq_true rfl⟩, k_⟩)
    exact ⟨by rw [show v_58 I J Z u x = (I (135 + u) 4) from by unfold v_58; rw [if_neg h1, if_neg h2, if_pos h3]] <;> rfl, rfl⟩
  by_cases h4 : x = 3
  · rw [show (if x.toInt < 0 ∨ 5 < x.toInt then 70 else i_tg 1 ((#[39, 44, 49, 54, 59, 64] : Array Int).getD (x.toInt - 0).toNat 0)) = 55 by rw [h4]; rfl]
    refine w_R.ret 3 (.inl (some (.int (I (135 + u) 6)))) (I, J, kR w rem, Z) ?_ (fun x_ Q_ k_ => ⟨trivial, ⟨(sh_amb hu), trivial⟩, trivial, ⟨Nat.le_of_ble_eq_true rfl, Nat.le_of_ble_eq_true rfl⟩, k_⟩)
    exact ⟨by rw [show v_58 I J Z u x = (I (135 + u) 6) from by unfold v_58; rw [if_neg h1, if_neg h2, if_neg h3, if_pos h4]] <;> rfl, rfl⟩
  by_cases h5 : x = 4
  · rw [show (if x.toInt < 0 ∨ 5 < x.toInt then 70 else i_tg 1 ((#[39, 44, 49, 54, 59, 64] : Array Int).getD (x.toInt - 0).toNat 0)) = 60 by rw [h5]; rfl]
    refine w_R.ret 3 (.inl (some (.int (I (135 + u) 3)))) (I, J, kR w rem, Z) ?_ (fun x_ Q_ k_ => ⟨trivial, ⟨(sh_amb hu), trivial⟩, trivial, ⟨Nat.le_of_ble_eq_true rfl, Nat.le_of_ble_eq_true rfl⟩, k_⟩)
    exact ⟨by rw [show v_58 I J Z u x = (I (135 + u) 3) from by unfold v_58; rw [if_neg h1, if_neg h2, if_neg h3, if_neg h4, if_pos h5]] <;> rfl, rfl⟩
  by_cases h6 : x = 5
  · rw [show (if x.toInt < 0 ∨ 5 < x.toInt then 70 else i_tg 1 ((#[39, 44, 49, 54, 59, 64] : Array Int).getD (x.toInt - 0).toNat 0)) = 65 by rw [h6]; rfl]
    refine w_R.ret 3 (.inl (some (.int (I (135 + u) 2)))) (I, J, kR w rem, Z) ?_ (fun x_ Q_ k_ => ⟨trivial, ⟨(sh_amb hu), trivial⟩, trivial, ⟨Nat.le_of_ble_eq_true rfl, Nat.le_of_ble_eq_true rfl⟩, k_⟩)
    exact ⟨by rw [show v_58 I J Z u x = (I (135 + u) 2) from by unfold v_58; rw [if_neg h1, if_neg h2, if_neg h3, if_neg h4, if_neg h5, if_pos h6]] <;> rfl, rfl⟩
  rw [if_pos (l_out (x := x) (a := 5) (n := 6) (by omega) rfl (by intro k hk; (rcases k with _ | _ | _ | _ | _ | _ | k) <;> first | assumption | omega))]
  refine w_R.ret 2 (.inl (some (.int (-1)))) (I, J, kR w rem, Z) ?_ (fun x_ Q_ k_ => ⟨trivial, trivial, ⟨Nat.le_of_ble_eq_true rfl, Nat.le_of_ble_eq_true rfl⟩, k_⟩)
  exact ⟨by rw [show v_58 I J Z u x = (-1) from by unfold v_58; rw [if_neg h1, if_neg h2, if_neg h3, if_neg h4, if_neg h5, if_neg h6]] <;> rfl, rfl⟩
def i_76 (I : Nat → Nat → Int32) (J : Nat → Nat → Int64) (Z : Nat → Nat → Bool) (n : Nat) (x : Int32) : Nat → Nat → Int32 := s_up I 9 n x
theorem d_76 (n : Nat) (x : Int32) (hn : n < 16) : w_R xs Ln 76 (0, [(0, .ref 6), (1, .int (Int32.ofNat n)), (2, .int x)], [], (I, J, kR w rem, Z), 0, 0) (fun o s => o = .inl none ∧ s = (i_76 I J Z n x, J, kR w rem, Z)) := by
  refine w_R.go (c' := (7, [(0, .ref 6), (1, .int (Int32.ofNat n)), (2, .int x)], [], (s_up I 9 ((Int32.ofNat n).toNatClampNeg) x, J, kR w rem, Z), 0, 0)) 5 ?_ (fun m_ x_ Q_ k_ => ⟨trivial, ⟨sh_6, (Nat.succ_ne_zero 8)⟩, trivial, trivial, ⟨_, sh_9, (n_in (a := n) (by omega) (by decide))⟩, k_⟩)
  rw [n_cl (a := n) (by omega)]
  show w_R xs Ln 76 (7, [(0, .ref 6), (1, .int (Int32.ofNat n)), (2, .int x)], [], (s_up I 9 n x, J, kR w rem, Z), 0, 0) _
  refine w_R.ret 1 (.inl none) (s_up I 9 n x, J, kR w rem, Z) ?_ (fun x_ Q_ k_ => ⟨⟨Nat.le_of_ble_eq_true rfl, Nat.le_of_ble_eq_true rfl⟩, k_⟩)
  exact ⟨rfl, by rw [show i_76 I J Z n x = (s_up I 9 n x) from by unfold i_76; rfl]⟩
def i_77 (I : Nat → Nat → Int32) (J : Nat → Nat → Int64) (Z : Nat → Nat → Bool) (n : Nat) (x : Int32) (y : Int32) : Nat → Nat → Int32 := s_up (s_up (s_up I 9 n 0) 7 n x) 8 n y
theorem d_77 (n : Nat) (x : Int32) (y : Int32) (hn : n < 16) : w_R xs Ln 77 (0, [(0, .ref 6), (1, .int (Int32.ofNat n)), (2, .int x), (3, .int y)], [], (I, J, kR w rem, Z), 0, 0) (fun o s => o = .inl none ∧ s = (i_77 I J Z n x y, J, kR w rem, Z)) := by
  refine w_R.go (c' := (7, [(0, .ref 6), (1, .int (Int32.ofNat n)), (2, .int x), (3, .int y)], [], (s_up I 9 ((Int32.ofNat n).toNatClampNeg) 0, J, kR w rem, Z), 0, 0)) 5 ?_ (fun m_ x_ Q_ k_ => ⟨trivial, ⟨sh_6, (Nat.succ_ne_zero 8)⟩, trivial, trivial, ⟨_, sh_9, (n_in (a := n) (by omega) (by decide))⟩, k_⟩)
  rw [n_cl (a := n) (by omega)]
  show w_R xs Ln 77 (7, [(0, .ref 6), (1, .int (Int32.ofNat n)), (2, .int x), (3, .int y)], [], (s_up I 9 n 0, J, kR w rem, Z), 0, 0) _
  refine w_R.go (c' := (14, [(0, .ref 6), (1, .int (Int32.ofNat n)), (2, .int x), (3, .int y)], [], (s_up (s_up I 9 n 0) 7 ((Int32.ofNat n).toNatClampNeg) x, J, kR w rem, Z), 0, 0)) 5 ?_ (fun m_ x_ Q_ k_ => ⟨trivial, ⟨sh_6, (Nat.succ_ne_zero 6)⟩, trivial, trivial, ⟨_, sh_7, (n_in (a := n) (by omega) (by decide))⟩, k_⟩)
  rw [n_cl (a := n) (by omega)]
  show w_R xs Ln 77 (14, [(0, .ref 6), (1, .int (Int32.ofNat n)), (2, .int x), (3, .int y)], [], (s_up (s_up I 9 n 0) 7 n x, J, kR w rem, Z), 0, 0) _
  refine w_R.go (c' := (21, [(0, .ref 6), (1, .int (Int32.ofNat n)), (2, .int x), (3, .int y)], [], (s_up (s_up (s_up I 9 n 0) 7 n x) 8 ((Int32.ofNat n).toNatClampNeg) y, J, kR w rem, Z), 0, 0)) 5 ?_ (fun m_ x_ Q_ k_ => ⟨trivial, ⟨sh_6, (Nat.succ_ne_zero 7)⟩, trivial, trivial, ⟨_, sh_8, (n_in (a := n) (by omega) (by decide))⟩, k_⟩)
  rw [n_cl (a := n) (by omega)]
  show w_R xs Ln 77 (21, [(0, .ref 6), (1, .int (Int32.ofNat n)), (2, .int x), (3, .int y)], [], (s_up (s_up (s_up I 9 n 0) 7 n x) 8 n y, J, kR w rem, Z), 0, 0) _
  refine w_R.ret 1 (.inl none) (s_up (s_up (s_up I 9 n 0) 7 n x) 8 n y, J, kR w rem, Z) ?_ (fun x_ Q_ k_ => ⟨⟨Nat.le_of_ble_eq_true rfl, Nat.le_of_ble_eq_true rfl⟩, k_⟩)
  exact ⟨rfl, by rw [show i_77 I J Z n x y = (s_up (s_up (s_up I 9 n 0) 7 n x) 8 n y) from by unfold i_77; rfl]⟩
def v_78 (I : Nat → Nat → Int32) (J : Nat → Nat → Int64) (Z : Nat → Nat → Bool) (n : Nat) : Bool := if 0 < (I 9 n) then true else false
theorem d_78 (n : Nat) (hn : n < 16) : w_R xs Ln 78 (0, [(0, .ref 6), (1, .int (Int32.ofNat n))], [], (I, J, kR w rem, Z), 0, 0) (fun o s => o = .inl (some (.int (s_b (v_78 I J Z n)))) ∧ s = (I, J, kR w rem, Z)) := by
  refine w_R.go (c' := (6, [(0, .ref 6), (1, .int (Int32.ofNat n))], [.int (I 9 (Int32.ofNat n).toNatClampNeg)], (I, J, kR w rem, Z), 0, 0)) 4 ?_ (fun m_ x_ Q_ k_ => ⟨trivial, ⟨sh_6, (Nat.succ_ne_zero 8)⟩, trivial, ⟨_, sh_9, (n_in (a := n) (by omega) (by decide))⟩, k_⟩)
  rw [n_cl (a := n) (by omega)]
  show w_R xs Ln 78 (6, [(0, .ref 6), (1, .int (Int32.ofNat n))], [.int (I 9 n)], (I, J, kR w rem, Z), 0, 0) _
  refine w_R.go (c' := (i_br .le (I 9 n) 0 13 9, [(0, .ref 6), (1, .int (Int32.ofNat n))], [], (I, J, kR w rem, Z), 0, 0)) 1 ?_ (fun m_ x_ Q_ k_ => ⟨trivial, k_⟩)
  refine w_R.br_le (fun h1 => ?_) (fun h1 => ?_)
  · refine w_R.ret 2 (.inl (some (.int 0))) (I, J, kR w rem, Z) ?_ (fun x_ Q_ k_ => ⟨trivial, Or.inl rfl, ⟨Nat.le_of_ble_eq_true rfl, Nat.le_of_ble_eq_true rfl⟩, k_⟩)
    exact ⟨by rw [show v_78 I J Z n = false from by unfold v_78; rw [if_neg h1]] <;> rfl, rfl⟩
  · refine w_R.ret 3 (.inl (some (.int 1))) (I, J, kR w rem, Z) ?_ (fun x_ Q_ k_ => ⟨trivial, trivial, Or.inr rfl, ⟨Nat.le_of_ble_eq_true rfl, Nat.le_of_ble_eq_true rfl⟩, k_⟩)
    exact ⟨by rw [show v_78 I J Z n = true from by unfold v_78; rw [if_pos h1]] <;> rfl, rfl⟩
def v_79 (I : Nat → Nat → Int32) (J : Nat → Nat → Int64) (Z : Nat → Nat → Bool) (n : Nat) : Int32 := I 9 n
theorem d_79 (n : Nat) (hn : n < 16) : w_R xs Ln 79 (0, [(0, .ref 6), (1, .int (Int32.ofNat n))], [], (I, J, kR w rem, Z), 0, 0) (fun o s => o = .inl (some (.int (v_79 I J Z n))) ∧ s = (I, J, kR w rem, Z)) := by
  refine w_R.go (c' := (6, [(0, .ref 6), (1, .int (Int32.ofNat n))], [.int (I 9 (Int32.ofNat n).toNatClampNeg)], (I, J, kR w rem, Z), 0, 0)) 4 ?_ (fun m_ x_ Q_ k_ => ⟨trivial, ⟨sh_6, (Nat.succ_ne_zero 8)⟩, trivial, ⟨_, sh_9, (n_in (a := n) (by omega) (by decide))⟩, k_⟩)
  rw [n_cl (a := n) (by omega)]
  show w_R xs Ln 79 (6, [(0, .ref 6), (1, .int (Int32.ofNat n))], [.int (I 9 n)], (I, J, kR w rem, Z), 0, 0) _
  refine w_R.ret 1 (.inl (some (.int (I 9 n)))) (I, J, kR w rem, Z) ?_ (fun x_ Q_ k_ => ⟨trivial, ⟨Nat.le_of_ble_eq_true rfl, Nat.le_of_ble_eq_true rfl⟩, k_⟩)
  exact ⟨by rw [show v_79 I J Z n = (I 9 n) from by unfold v_79; rfl] <;> rfl, rfl⟩
def v_80 (I : Nat → Nat → Int32) (J : Nat → Nat → Int64) (Z : Nat → Nat → Bool) (n : Nat) (z : Bool) : Int32 := if z = true then I 7 n else I 8 n
theorem d_80 (n : Nat) (z : Bool) (hn : n < 16) : w_R xs Ln 80 (0, [(0, .ref 6), (1, .int (Int32.ofNat n)), (2, .int (s_b z))], [], (I, J, kR w rem, Z), 0, 0) (fun o s => o = .inl (some (.int (v_80 I J Z n z))) ∧ s = (I, J, kR w rem, Z)) := by
  refine w_R.go (c' := (i_br .eq (s_b z) 0 13 4, [(0, .ref 6), (1, .int (Int32.ofNat n)), (2, .int (s_b z))], [], (I, J, kR w rem, Z), 0, 0)) 2 ?_ (fun m_ x_ Q_ k_ => ⟨trivial, trivial, k_⟩)
  refine w_R.br_z (fun h1 => ?_) (fun h1 => ?_)
  · replace h1 := Bool.eq_false_iff.mp h1
    refine w_R.go (c' := (19, [(0, .ref 6), (1, .int (Int32.ofNat n)), (2, .int (s_b z))], [.int (I 8 (Int32.ofNat n).toNatClampNeg)], (I, J, kR w rem, Z), 0, 0)) 4 ?_ (fun m_ x_ Q_ k_ => ⟨trivial, ⟨sh_6, (Nat.succ_ne_zero 7)⟩, trivial, ⟨_, sh_8, (n_in (a := n) (by omega) (by decide))⟩, k_⟩)
    rw [n_cl (a := n) (by omega)]
    show w_R xs Ln 80 (19, [(0, .ref 6), (1, .int (Int32.ofNat n)), (2, .int (s_b z))], [.int (I 8 n)], (I, J, kR w rem, Z), 0, 0) _
    refine w_R.ret 1 (.inl (some (.int (I 8 n)))) (I, J, kR w rem, Z) ?_ (fun x_ Q_ k_ => ⟨trivial, ⟨Nat.le_of_ble_eq_true rfl, Nat.le_of_ble_eq_true rfl⟩, k_⟩)
    exact ⟨by rw [show v_80 I J Z n z = (I 8 n) from by unfold v_80; rw [if_neg h1]] <;> rfl, rfl⟩
  · refine w_R.go (c' := (10, [(0, .ref 6), (1, .int (Int32.ofNat n)), (2, .int (s_b z))], [.int (I 7 (Int32.ofNat n).toNatClampNeg)], (I, J, kR w rem, Z), 0, 0)) 4 ?_ (fun m_ x_ Q_ k_ => ⟨trivial, ⟨sh_6, (Nat.succ_ne_zero 6)⟩, trivial, ⟨_, sh_7, (n_in (a := n) (by omega) (by decide))⟩, k_⟩)
    rw [n_cl (a := n) (by omega)]
    show w_R xs Ln 80 (10, [(0, .ref 6), (1, .int (Int32.ofNat n)), (2, .int (s_b z))], [.int (I 7 n)], (I, J, kR w rem, Z), 0, 0) _
    refine w_R.ret 2 (.inl (some (.int (I 7 n)))) (I, J, kR w rem, Z) ?_ (fun x_ Q_ k_ => ⟨trivial, trivial, ⟨Nat.le_of_ble_eq_true rfl, Nat.le_of_ble_eq_true rfl⟩, k_⟩)
    exact ⟨by rw [show v_80 I J Z n z = (I 7 n) from by unfold v_80; rw [if_pos h1]] <;> rfl, rfl⟩
def i_60 (I : Nat → Nat → Int32) (J : Nat → Nat → Int64) (Z : Nat → Nat → Bool) (a : Nat) (x : Int32) (y : Int32) (v : Int32) : Nat → Nat → Int32 := s_up (s_up (s_up (s_up (s_up (s_up (s_up I a 1 x) a 2 y) a 3 0) a 4 v) a 5 0) a 6 (-1)) a 7 0
def z_60 (I : Nat → Nat → Int32) (J : Nat → Nat → Int64) (Z : Nat → Nat → Bool) (a : Nat) (x : Int32) (y : Int32) (v : Int32) : Nat → Nat → Bool := s_up Z a 0 true
theorem d_60 (a : Nat) (x : Int32) (y : Int32) (v : Int32) (ha : sh1[a]? = some (.inl 1)) : w_R xs Ln 60 (0, [(0, .ref a), (1, .int x), (2, .int y), (3, .int v)], [], (I, J, kR w rem, Z), 0, 0) (fun o s => o = .inl none ∧ s = (i_60 I J Z a x y v, J, kR w rem, z_60 I J Z a x y v)) := by
  refine w_R.ret 25 (.inl none) (s_up (s_up (s_up (s_up (s_up (s_up (s_up I a 1 x) a 2 y) a 3 0) a 4 v) a 5 0) a 6 (-1)) a 7 0, J, kR w rem, s_up Z a 0 true) ?_ (fun x_ Q_ k_ => ⟨trivial, trivial, ⟨ha, (Or.inr rfl)⟩, trivial, trivial, ⟨ha, trivial⟩, trivial, trivial, ⟨ha, trivial⟩, trivial, trivial, ⟨ha, trivial⟩, trivial, trivial, ⟨ha, trivial⟩, trivial, trivial, ⟨ha, trivial⟩, trivial, trivial, ⟨ha, trivial⟩, trivial, trivial, ⟨ha, trivial⟩, ⟨Nat.le_of_ble_eq_true rfl, Nat.le_of_ble_eq_true rfl⟩, k_⟩)
  exact ⟨rfl, by rw [show i_60 I J Z a x y v = (s_up (s_up (s_up (s_up (s_up (s_up (s_up I a 1 x) a 2 y) a 3 0) a 4 v) a 5 0) a 6 (-1)) a 7 0) from by unfold i_60; rfl, show z_60 I J Z a x y v = (s_up Z a 0 true) from by unfold z_60; rfl]⟩
def i_61 (I : Nat → Nat → Int32) (J : Nat → Nat → Int64) (Z : Nat → Nat → Bool) (a : Nat) (x : Int32) : Nat → Nat → Int32 := if (I a 8) = x then s_up (s_up I a 9 ((I a 9) + 1)) a 8 x else s_up (s_up I a 9 1) a 8 x
theorem d_61 (a : Nat) (x : Int32) (ha : sh1[a]? = some (.inl 1)) : w_R xs Ln 61 (0, [(0, .ref a), (1, .int x)], [], (I, J, kR w rem, Z), 0, 0) (fun o s => o = .inl none ∧ s = (i_61 I J Z a x, J, kR w rem, Z)) := by
  refine w_R.go (c' := (i_br .ne (I a 8) x 18 9, [(0, .ref a), (1, .int x)], [.ref a], (I, J, kR w rem, Z), 0, 0)) 5 ?_ (fun m_ x_ Q_ k_ => ⟨trivial, trivial, ⟨ha, trivial⟩, trivial, trivial, k_⟩)
  refine w_R.br_ne (fun h1 => ?_) (fun h1 => ?_)
  · refine w_R.ret 6 (.inl none) (s_up (s_up I a 9 1) a 8 x, J, kR w rem, Z) ?_ (fun x_ Q_ k_ => ⟨trivial, ⟨ha, trivial⟩, trivial, trivial, ⟨ha, trivial⟩, ⟨Nat.le_of_ble_eq_true rfl, Nat.le_of_ble_eq_true rfl⟩, k_⟩)
    exact ⟨rfl, by rw [show i_61 I J Z a x = (s_up (s_up I a 9 1) a 8 x) from by unfold i_61; rw [if_neg h1]]⟩
  · refine w_R.ret 10 (.inl none) (s_up (s_up I a 9 ((I a 9) + 1)) a 8 x, J, kR w rem, Z) ?_ (fun x_ Q_ k_ => ⟨trivial, ⟨ha, trivial⟩, trivial, trivial, trivial, ⟨ha, trivial⟩, trivial, trivial, ⟨ha, trivial⟩, ⟨Nat.le_of_ble_eq_true rfl, Nat.le_of_ble_eq_true rfl⟩, k_⟩)
    exact ⟨rfl, by rw [show i_61 I J Z a x = (s_up (s_up I a 9 ((I a 9) + 1)) a 8 x) from by unfold i_61; rw [if_pos h1]]⟩
def v_62 (I : Nat → Nat → Int32) (J : Nat → Nat → Int64) (Z : Nat → Nat → Bool) (a : Nat) (x : Int32) (y : Int32) : Bool := if (Z a 0) = true then if (I a 8) = x then if (I a 9) = y then true else false else false else false
theorem d_62 (a : Nat) (x : Int32) (y : Int32) (ha : sh1[a]? = some (.inl 1)) : w_R xs Ln 62 (0, [(0, .ref a), (1, .int x), (2, .int y)], [], (I, J, kR w rem, Z), 0, 0) (fun o s => o = .inl (some (.int (s_b (v_62 I J Z a x y)))) ∧ s = (I, J, kR w rem, Z)) := by
  refine w_R.go (c' := (i_br .eq (s_b (Z a 0)) 0 27 7, [(0, .ref a), (1, .int x), (2, .int y)], [], (I, J, kR w rem, Z), 0, 0)) 3 ?_ (fun m_ x_ Q_ k_ => ⟨trivial, ⟨ha, trivial⟩, trivial, k_⟩)
  refine w_R.br_z (fun h1 => ?_) (fun h1 => ?_)
  · replace h1 := Bool.eq_false_iff.mp h1
    refine w_R.ret 2 (.inl (some (.int 0))) (I, J, kR w rem, Z) ?_ (fun x_ Q_ k_ => ⟨trivial, Or.inl rfl, ⟨Nat.le_of_ble_eq_true rfl, Nat.le_of_ble_eq_true rfl⟩, k_⟩)
    exact ⟨by rw [show v_62 I J Z a x y = false from by unfold v_62; rw [if_neg h1]] <;> rfl, rfl⟩
  · refine w_R.go (c' := (i_br .ne (I a 8) x 27 15, [(0, .ref a), (1, .int x), (2, .int y)], [], (I, J, kR w rem, Z), 0, 0)) 4 ?_ (fun m_ x_ Q_ k_ => ⟨trivial, ⟨ha, trivial⟩, trivial, trivial, k_⟩)
    refine w_R.br_ne (fun h2 => ?_) (fun h2 => ?_)
    · refine w_R.ret 2 (.inl (some (.int 0))) (I, J, kR w rem, Z) ?_ (fun x_ Q_ k_ => ⟨trivial, Or.inl rfl, ⟨Nat.le_of_ble_eq_true rfl, Nat.le_of_ble_eq_true rfl⟩, k_⟩)
      exact ⟨by rw [show v_62 I J Z a x y = false from by unfold v_62; rw [if_pos h1, if_neg h2]] <;> rfl, rfl⟩
    · refine w_R.go (c' := (i_br .ne (I a 9) y 27 23, [(0, .ref a), (1, .int x), (2, .int y)], [], (I, J, kR w rem, Z), 0, 0)) 4 ?_ (fun m_ x_ Q_ k_ => ⟨trivial, ⟨ha, trivial⟩, trivial, trivial, k_⟩)
      refine w_R.br_ne (fun h3 => ?_) (fun h3 => ?_)
      · refine w_R.ret 2 (.inl (some (.int 0))) (I, J, kR w rem, Z) ?_ (fun x_ Q_ k_ => ⟨trivial, Or.inl rfl, ⟨Nat.le_of_ble_eq_true rfl, Nat.le_of_ble_eq_true rfl⟩, k_⟩)
        exact ⟨by rw [show v_62 I J Z a x y = false from by unfold v_62; rw [if_pos h1, if_pos h2, if_neg h3]] <;> rfl, rfl⟩
      · refine w_R.ret 3 (.inl (some (.int 1))) (I, J, kR w rem, Z) ?_ (fun x_ Q_ k_ => ⟨trivial, trivial, Or.inr rfl, ⟨Nat.le_of_ble_eq_true rfl, Nat.le_of_ble_eq_true rfl⟩, k_⟩)
        exact ⟨by rw [show v_62 I J Z a x y = true from by unfold v_62; rw [if_pos h1, if_pos h2, if_pos h3]] <;> rfl, rfl⟩
def i_64 (I : Nat → Nat → Int32) (J : Nat → Nat → Int64) (Z : Nat → Nat → Bool) (a : Nat) (b : Nat) : Nat → Nat → Int32 := s_up (s_up (s_up (s_up (s_up (s_up (s_up (s_up (s_up I a 1 (I b 1)) a 2 (I b 2)) a 3 (I b 3)) a 4 (I b 4)) a 5 (I b 5)) a 6 (I b 6)) a 7 (I b 7)) a 8 (I b 8)) a 9 (I b 9)
def z_64 (I : Nat → Nat → Int32) (J : Nat → Nat → Int64) (Z : Nat → Nat → Bool) (a : Nat) (b : Nat) : Nat → Nat → Bool := s_up Z a 0 (Z b 0)
theorem d_64 (a : Nat) (b : Nat) (ha : sh1[a]? = some (.inl 1)) (hb : sh1[b]? = some (.inl 1)) : w_R xs Ln 64 (0, [(0, .ref a), (1, .ref b)], [], (I, J, kR w rem, Z), 0, 0) (fun o s => o = .inl none ∧ s = (i_64 I J Z a b, J, kR w rem, z_64 I J Z a b)) := by
  refine w_R.go (c' := (8, [(0, .ref a), (1, .ref b)], [], (I, J, kR w rem, s_up Z a 0 (!(s_b (Z b 0) == 0))), 0, 0)) 4 ?_ (fun m_ x_ Q_ k_ => ⟨trivial, trivial, ⟨hb, trivial⟩, ⟨ha, (l_b _)⟩, k_⟩)
  rw [l_bz (Z b 0)]
  show w_R xs Ln 64 (8, [(0, .ref a), (1, .ref b)], [], (I, J, kR w rem, s_up Z a 0 (Z b 0)), 0, 0) _
  refine w_R.go (c' := (21, [(0, .ref a), (1, .ref b)], [.int ((s_up I a 1 (I b 1)) b 2), .ref a], (s_up I a 1 (I b 1), J, kR w rem, s_up Z a 0 (Z b 0)), 0, 0)) 7 ?_ (fun m_ x_ Q_ k_ => ⟨trivial, trivial, ⟨hb, trivial⟩, ⟨ha, trivial⟩, trivial, trivial, ⟨hb, trivial⟩, k_⟩)
  rw [show (s_up I a 1 (I b 1)) b 2 = I b 2 from (s_upk (by decide))]
  show w_R xs Ln 64 (21, [(0, .ref a), (1, .ref b)], [.int (I b 2), .ref a], (s_up I a 1 (I b 1), J, kR w rem, s_up Z a 0 (Z b 0)), 0, 0) _
  refine w_R.go (c' := (29, [(0, .ref a), (1, .ref b)], [.int ((s_up (s_up I a 1 (I b 1)) a 2 (I b 2)) b 3), .ref a], (s_up (s_up I a 1 (I b 1)) a 2 (I b 2), J, kR w rem, s_up Z a 0 (Z b 0)), 0, 0)) 4 ?_ (fun m_ x_ Q_ k_ => ⟨⟨ha, trivial⟩, trivial, trivial, ⟨hb, trivial⟩, k_⟩)
  rw [show (s_up (s_up I a 1 (I b 1)) a 2 (I b 2)) b 3 = I b 3 from ((s_upk (by decide)).trans (s_upk (by decide)))]
  show w_R xs Ln 64 (29, [(0, .ref a), (1, .ref b)], [.int (I b 3), .ref a], (s_up (s_up I a 1 (I b 1)) a 2 (I b 2), J, kR w rem, s_up Z a 0 (Z b 0)), 0, 0) _
  refine w_R.go (c' := (37, [(0, .ref a), (1, .ref b)], [.int ((s_up (s_up (s_up I a 1 (I b 1)) a 2 (I b 2)) a 3 (I b 3)) b 4), .ref a], (s_up (s_up (s_up I a 1 (I b 1)) a 2 (I b 2)) a 3 (I b 3), J, kR w rem, s_up Z a 0 (Z b 0)), 0, 0)) 4 ?_ (fun m_ x_ Q_ k_ => ⟨⟨ha, trivial⟩, trivial, trivial, ⟨hb, trivial⟩, k_⟩)
  rw [show (s_up (s_up (s_up I a 1 (I b 1)) a 2 (I b 2)) a 3 (I b 3)) b 4 = I b 4 from ((s_upk (by decide)).trans ((s_upk (by decide)).trans (s_upk (by decide))))]
  show w_R xs Ln 64 (37, [(0, .ref a), (1, .ref b)], [.int (I b 4), .ref a], (s_up (s_up (s_up I a 1 (I b 1)) a 2 (I b 2)) a 3 (I b 3), J, kR w rem, s_up Z a 0 (Z b 0)), 0, 0) _
  refine w_R.go (c' := (45, [(0, .ref a), (1, .ref b)], [.int ((s_up (s_up (s_up (s_up I a 1 (I b 1)) a 2 (I b 2)) a 3 (I b 3)) a 4 (I b 4)) b 5), .ref a], (s_up (s_up (s_up (s_up I a 1 (I b 1)) a 2 (I b 2)) a 3 (I b 3)) a 4 (I b 4), J, kR w rem, s_up Z a 0 (Z b 0)), 0, 0)) 4 ?_ (fun m_ x_ Q_ k_ => ⟨⟨ha, trivial⟩, trivial, trivial, ⟨hb, trivial⟩, k_⟩)
  rw [show (s_up (s_up (s_up (s_up I a 1 (I b 1)) a 2 (I b 2)) a 3 (I b 3)) a 4 (I b 4)) b 5 = I b 5 from ((s_upk (by decide)).trans ((s_upk (by decide)).trans ((s_upk (by decide)).trans (s_upk (by decide)))))]
  show w_R xs Ln 64 (45, [(0, .ref a), (1, .ref b)], [.int (I b 5), .ref a], (s_up (s_up (s_up (s_up I a 1 (I b 1)) a 2 (I b 2)) a 3 (I b 3)) a 4 (I b 4), J, kR w rem, s_up Z a 0 (Z b 0)), 0, 0) _
  refine w_R.go (c' := (53, [(0, .ref a), (1, .ref b)], [.int ((s_up (s_up (s_up (s_up (s_up I a 1 (I b 1)) a 2 (I b 2)) a 3 (I b 3)) a 4 (I b 4)) a 5 (I b 5)) b 6), .ref a], (s_up (s_up (s_up (s_up (s_up I a 1 (I b 1)) a 2 (I b 2)) a 3 (I b 3)) a 4 (I b 4)) a 5 (I b 5), J, kR w rem, s_up Z a 0 (Z b 0)), 0, 0)) 4 ?_ (fun m_ x_ Q_ k_ => ⟨⟨ha, trivial⟩, trivial, trivial, ⟨hb, trivial⟩, k_⟩)
  rw [show (s_up (s_up (s_up (s_up (s_up I a 1 (I b 1)) a 2 (I b 2)) a 3 (I b 3)) a 4 (I b 4)) a 5 (I b 5)) b 6 = I b 6 from ((s_upk (by decide)).trans ((s_upk (by decide)).trans ((s_upk (by decide)).trans ((s_upk (by decide)).trans (s_upk (by decide))))))]
  show w_R xs Ln 64 (53, [(0, .ref a), (1, .ref b)], [.int (I b 6), .ref a], (s_up (s_up (s_up (s_up (s_up I a 1 (I b 1)) a 2 (I b 2)) a 3 (I b 3)) a 4 (I b 4)) a 5 (I b 5), J, kR w rem, s_up Z a 0 (Z b 0)), 0, 0) _
  refine w_R.go (c' := (61, [(0, .ref a), (1, .ref b)], [.int ((s_up (s_up (s_up (s_up (s_up (s_up I a 1 (I b 1)) a 2 (I b 2)) a 3 (I b 3)) a 4 (I b 4)) a 5 (I b 5)) a 6 (I b 6)) b 7), .ref a], (s_up (s_up (s_up (s_up (s_up (s_up I a 1 (I b 1)) a 2 (I b 2)) a 3 (I b 3)) a 4 (I b 4)) a 5 (I b 5)) a 6 (I b 6), J, kR w rem, s_up Z a 0 (Z b 0)), 0, 0)) 4 ?_ (fun m_ x_ Q_ k_ => ⟨⟨ha, trivial⟩, trivial, trivial, ⟨hb, trivial⟩, k_⟩)
  rw [show (s_up (s_up (s_up (s_up (s_up (s_up I a 1 (I b 1)) a 2 (I b 2)) a 3 (I b 3)) a 4 (I b 4)) a 5 (I b 5)) a 6 (I b 6)) b 7 = I b 7 from ((s_upk (by decide)).trans ((s_upk (by decide)).trans ((s_upk (by decide)).trans ((s_upk (by decide)).trans ((s_upk (by decide)).trans (s_upk (by decide)))))))]
  show w_R xs Ln 64 (61, [(0, .ref a), (1, .ref b)], [.int (I b 7), .ref a], (s_up (s_up (s_up (s_up (s_up (s_up I a 1 (I b 1)) a 2 (I b 2)) a 3 (I b 3)) a 4 (I b 4)) a 5 (I b 5)) a 6 (I b 6), J, kR w rem, s_up Z a 0 (Z b 0)), 0, 0) _
  refine w_R.go (c' := (69, [(0, .ref a), (1, .ref b)], [.int ((s_up (s_up (s_up (s_up (s_up (s_up (s_up I a 1 (I b 1)) a 2 (I b 2)) a 3 (I b 3)) a 4 (I b 4)) a 5 (I b 5)) a 6 (I b 6)) a 7 (I b 7)) b 8), .ref a], (s_up (s_up (s_up (s_up (s_up (s_up (s_up I a 1 (I b 1)) a 2 (I b 2)) a 3 (I b 3)) a 4 (I b 4)) a 5 (I b 5)) a 6 (I b 6)) a 7 (I b 7), J, kR w rem, s_up Z a 0 (Z b 0)), 0, 0)) 4 ?_ (fun m_ x_ Q_ k_ => ⟨⟨ha, trivial⟩, trivial, trivial, ⟨hb, trivial⟩, k_⟩)
  rw [show (s_up (s_up (s_up (s_up (s_up (s_up (s_up I a 1 (I b 1)) a 2 (I b 2)) a 3 (I b 3)) a 4 (I b 4)) a 5 (I b 5)) a 6 (I b 6)) a 7 (I b 7)) b 8 = I b 8 from ((s_upk (by decide)).trans ((s_upk (by decide)).trans ((s_upk (by decide)).trans ((s_upk (by decide)).trans ((s_upk (by decide)).trans ((s_upk (by decide)).trans (s_upk (by decide))))))))]
  show w_R xs Ln 64 (69, [(0, .ref a), (1, .ref b)], [.int (I b 8), .ref a], (s_up (s_up (s_up (s_up (s_up (s_up (s_up I a 1 (I b 1)) a 2 (I b 2)) a 3 (I b 3)) a 4 (I b 4)) a 5 (I b 5)) a 6 (I b 6)) a 7 (I b 7), J, kR w rem, s_up Z a 0 (Z b 0)), 0, 0) _
  refine w_R.go (c' := (77, [(0, .ref a), (1, .ref b)], [.int ((s_up (s_up (s_up (s_up (s_up (s_up (s_up (s_up I a 1 (I b 1)) a 2 (I b 2)) a 3 (I b 3)) a 4 (I b 4)) a 5 (I b 5)) a 6 (I b 6)) a 7 (I b 7)) a 8 (I b 8)) b 9), .ref a], (s_up (s_up (s_up (s_up (s_up (s_up (s_up (s_up I a 1 (I b 1)) a 2 (I b 2)) a 3 (I b 3)) a 4 (I b 4)) a 5 (I b 5)) a 6 (I b 6)) a 7 (I b 7)) a 8 (I b 8), J, kR w rem, s_up Z a 0 (Z b 0)), 0, 0)) 4 ?_ (fun m_ x_ Q_ k_ => ⟨⟨ha, trivial⟩, trivial, trivial, ⟨hb, trivial⟩, k_⟩)
  rw [show (s_up (s_up (s_up (s_up (s_up (s_up (s_up (s_up I a 1 (I b 1)) a 2 (I b 2)) a 3 (I b 3)) a 4 (I b 4)) a 5 (I b 5)) a 6 (I b 6)) a 7 (I b 7)) a 8 (I b 8)) b 9 = I b 9 from ((s_upk (by decide)).trans ((s_upk (by decide)).trans ((s_upk (by decide)).trans ((s_upk (by decide)).trans ((s_upk (by decide)).trans ((s_upk (by decide)).trans ((s_upk (by decide)).trans (s_upk (by decide)))))))))]
  show w_R xs Ln 64 (77, [(0, .ref a), (1, .ref b)], [.int (I b 9), .ref a], (s_up (s_up (s_up (s_up (s_up (s_up (s_up (s_up I a 1 (I b 1)) a 2 (I b 2)) a 3 (I b 3)) a 4 (I b 4)) a 5 (I b 5)) a 6 (I b 6)) a 7 (I b 7)) a 8 (I b 8), J, kR w rem, s_up Z a 0 (Z b 0)), 0, 0) _
  refine w_R.ret 2 (.inl none) (s_up (s_up (s_up (s_up (s_up (s_up (s_up (s_up (s_up I a 1 (I b 1)) a 2 (I b 2)) a 3 (I b 3)) a 4 (I b 4)) a 5 (I b 5)) a 6 (I b 6)) a 7 (I b 7)) a 8 (I b 8)) a 9 (I b 9), J, kR w rem, s_up Z a 0 (Z b 0)) ?_ (fun x_ Q_ k_ => ⟨⟨ha, trivial⟩, ⟨Nat.le_of_ble_eq_true rfl, Nat.le_of_ble_eq_true rfl⟩, k_⟩)
  exact ⟨rfl, by rw [show i_64 I J Z a b = (s_up (s_up (s_up (s_up (s_up (s_up (s_up (s_up (s_up I a 1 (I b 1)) a 2 (I b 2)) a 3 (I b 3)) a 4 (I b 4)) a 5 (I b 5)) a 6 (I b 6)) a 7 (I b 7)) a 8 (I b 8)) a 9 (I b 9)) from by unfold i_64; rfl, show z_64 I J Z a b = (s_up Z a 0 (Z b 0)) from by unfold z_64; rfl]⟩
def v_65 (I : Nat → Nat → Int32) (J : Nat → Nat → Int64) (Z : Nat → Nat → Bool) (a : Nat) : Int32 := if (I a 4) = 0 then (5 - 1) / 2 else ((I a 4) - 1) / 2
theorem d_65 (a : Nat) (ha : sh1[a]? = some (.inl 1)) : w_R xs Ln 65 (0, [(0, .ref a)], [], (I, J, kR w rem, Z), 0, 0) (fun o s => o = .inl (some (.int (v_65 I J Z a))) ∧ s = (I, J, kR w rem, Z)) := by
  refine w_R.go (c' := (i_br .ne (I a 4) 0 11 7, [(0, .ref a)], [], (I, J, kR w rem, Z), 0, 0)) 3 ?_ (fun m_ x_ Q_ k_ => ⟨trivial, ⟨ha, trivial⟩, trivial, k_⟩)
  refine w_R.br_ne (fun h1 => ?_) (fun h1 => ?_)
  · refine w_R.ret 7 (.inl (some (.int (((I a 4) - 1) / 2)))) (I, J, kR w rem, Z) ?_ (fun x_ Q_ k_ => ⟨trivial, ⟨ha, trivial⟩, trivial, trivial, trivial, (by decide), trivial, ⟨Nat.le_of_ble_eq_true rfl, Nat.le_of_ble_eq_true rfl⟩, k_⟩)
    exact ⟨by rw [show v_65 I J Z a = (((I a 4) - 1) / 2) from by unfold v_65; rw [if_neg h1]] <;> rfl, rfl⟩
  · refine w_R.ret 7 (.inl (some (.int ((5 - 1) / 2)))) (I, J, kR w rem, Z) ?_ (fun x_ Q_ k_ => ⟨trivial, trivial, trivial, trivial, trivial, (by decide), trivial, ⟨Nat.le_of_ble_eq_true rfl, Nat.le_of_ble_eq_true rfl⟩, k_⟩)
    exact ⟨by rw [show v_65 I J Z a = ((5 - 1) / 2) from by unfold v_65; rw [if_pos h1]] <;> rfl, rfl⟩
def v_66 (I : Nat → Nat → Int32) (J : Nat → Nat → Int64) (Z : Nat → Nat → Bool) (a : Nat) (x : Int32) (z : Bool) : Int32 := if (Z a 0) = true then if x = 0 then I a 1 else if x = 1 then I a 3 else if x = 2 then I a 4 else if x = 3 then I a 5 else if x = 4 then I a 6 else if x = 5 then I a 7 else if x = 6 then I a 8 else if x = 7 then I a 9 else if x = 8 then if z = true then 1 else 0 else (-1) else (-1)
theorem d_66 (a : Nat) (x : Int32) (z : Bool) (ha : sh1[a]? = some (.inl 1)) : w_R xs Ln 66 (0, [(0, .ref a), (1, .int x), (2, .int (s_b z))], [], (I, J, kR w rem, Z), 0, 0) (fun o s => o = .inl (some (.int (v_66 I J Z a x z))) ∧ s = (I, J, kR w rem, Z)) := by
  refine w_R.go (c' := (i_br .ne (s_b (Z a 0)) 0 9 7, [(0, .ref a), (1, .int x), (2, .int (s_b z))], [], (I, J, kR w rem, Z), 0, 0)) 3 ?_ (fun m_ x_ Q_ k_ => ⟨trivial, ⟨ha, trivial⟩, trivial, k_⟩)
  refine w_R.br_nz (fun h1 => ?_) (fun h1 => ?_)
  · refine w_R.go (c' := (if x.toInt < 0 ∨ 8 < x.toInt then 110 else i_tg 10 ((#[50, 55, 60, 65, 70, 75, 80, 85, 90] : Array Int).getD (x.toInt - 0).toNat 0), [(0, .ref a), (1, .int x), (2, .int (s_b z))], [], (I, J, kR w rem, Z), 0, 0)) 2 ?_ (fun m_ x_ Q_ k_ => ⟨trivial, trivial, k_⟩)
    by_cases h2 : x = 0
    · rw [show (if x.toInt < 0 ∨ 8 < x.toInt then 110 else i_tg 10 ((#[50, 55, 60, 65, 70, 75, 80, 85, 90] : Array Int).getD (x.toInt - 0).toNat 0)) = 60 by rw [h2]; rfl]
      refine w_R.ret 3 (.inl (some (.int (I a 1)))) (I, J, kR w rem, Z) ?_ (fun x_ Q_ k_ => ⟨trivial, ⟨ha, trivial⟩, trivial, ⟨Nat.le_of_ble_eq_true rfl, Nat.le_of_ble_eq_true rfl⟩, k_⟩)
      exact ⟨by rw [show v_66 I J Z a x z = (I a 1) from by unfold v_66; rw [if_pos h1, if_pos h2]] <;> rfl, rfl⟩
    by_cases h3 : x = 1
    · rw [show (if x.toInt < 0 ∨ 8 < x.toInt then 110 else i_tg 10 ((#[50, 55, 60, 65, 70, 75, 80, 85, 90] : Array Int).getD (x.toInt - 0).toNat 0)) = 65 by rw [h3]; rfl]
      refine w_R.ret 3 (.inl (some (.int (I a 3)))) (I, J, kR w rem, Z) ?_ (fun x_ Q_ k_ => ⟨trivial, ⟨ha, trivial⟩, trivial, ⟨Nat.le_of_ble_eq_true rfl, Nat.le_of_ble_eq_true rfl⟩, k_⟩)
      exact ⟨by rw [show v_66 I J Z a x z = (I a 3) from by unfold v_66; rw [if_pos h1, if_neg h2, if_pos h3]] <;> rfl, rfl⟩
    by_cases h4 : x = 2
    · rw [show (if x.toInt < 0 ∨ 8 < x.toInt then 110 else i_tg 10 ((#[50, 55, 60, 65, 70, 75, 80, 85, 90] : Array Int).getD (x.toInt - 0).toNat 0)) = 70 by rw [h4]; rfl]
      refine w_R.ret 3 (.inl (some (.int (I a 4)))) (I, J, kR w rem, Z) ?_ (fun x_ Q_ k_ => ⟨trivial, ⟨ha, trivial⟩, trivial, ⟨Nat.le_of_ble_eq_true rfl, Nat.le_of_ble_eq_true rfl⟩, k_⟩)
      exact ⟨by rw [show v_66 I J Z a x z = (I a 4) from by unfold v_66; rw [if_pos h1, if_neg h2, if_neg h3, if_pos h4]] <;> rfl, rfl⟩
    by_cases h5 : x = 3
    · rw [show (if x.toInt < 0 ∨ 8 < x.toInt then 110 else i_tg 10 ((#[50, 55, 60, 65, 70, 75, 80, 85, 90] : Array Int).getD (x.toInt - 0).toNat 0)) = 75 by rw [h5]; rfl]
      refine w_R.ret 3 (.inl (some (.int (I a 5)))) (I, J, kR w rem, Z) ?_ (fun x_ Q_ k_ => ⟨trivial, ⟨ha, trivial⟩, trivial, ⟨Nat.le_of_ble_eq_true rfl, Nat.le_of_ble_eq_true rfl⟩, k_⟩)
      exact ⟨by rw [show v_66 I J Z a x z = (I a 5) from by unfold v_66; rw [if_pos h1, if_neg h2, if_neg h3, if_neg h4, if_pos h5]] <;> rfl, rfl⟩
    by_cases h6 : x = 4
    · rw [show (if x.toInt < 0 ∨ 8 < x.toInt then 110 else i_tg 10 ((#[50, 55, 60, 65, 70, 75, 80, 85, 90] : Array Int).getD (x.toInt - 0).toNat 0)) = 80 by rw [h6]; rfl]
      refine w_R.ret 3 (.inl (some (.int (I a 6)))) (I, J, kR w rem, Z) ?_ (fun x_ Q_ k_ => ⟨trivial, ⟨ha, trivial⟩, trivial, ⟨Nat.le_of_ble_eq_true rfl, Nat.le_of_ble_eq_true rfl⟩, k_⟩)
      exact ⟨by rw [show v_66 I J Z a x z = (I a 6) from by unfold v_66; rw [if_pos h1, if_neg h2, if_neg h3, if_neg h4, if_neg h5, if_pos h6]] <;> rfl, rfl⟩
    by_cases h7 : x = 5
    · rw [show (if x.toInt < 0 ∨ 8 < x.toInt then 110 else i_tg 10 ((#[50, 55, 60, 65, 70, 75, 80, 85, 90] : Array Int).getD (x.toInt - 0).toNat 0)) = 85 by rw [h7]; rfl]
      refine w_R.ret 3 (.inl (some (.int (I a 7)))) (I, J, kR w rem, Z) ?_ (fun x_ Q_ k_ => ⟨trivial, ⟨ha, trivial⟩, trivial, ⟨Nat.le_of_ble_eq_true rfl, Nat.le_of_ble_eq_true rfl⟩, k_⟩)
      exact ⟨by rw [show v_66 I J Z a x z = (I a 7) from by unfold v_66; rw [if_pos h1, if_neg h2, if_neg h3, if_neg h4, if_neg h5, if_neg h6, if_pos h7]] <;> rfl, rfl⟩
    by_cases h8 : x = 6
    · rw [show (if x.toInt < 0 ∨ 8 < x.toInt then 110 else i_tg 10 ((#[50, 55, 60, 65, 70, 75, 80, 85, 90] : Array Int).getD (x.toInt - 0).toNat 0)) = 90 by rw [h8]; rfl]
      refine w_R.ret 3 (.inl (some (.int (I a 8)))) (I, J, kR w rem, Z) ?_ (fun x_ Q_ k_ => ⟨trivial, ⟨ha, trivial⟩, trivial, ⟨Nat.le_of_ble_eq_true rfl, Nat.le_of_ble_eq_true rfl⟩, k_⟩)
      exact ⟨by rw [show v_66 I J Z a x z = (I a 8) from by unfold v_66; rw [if_pos h1, if_neg h2, if_neg h3, if_neg h4, if_neg h5, if_neg h6, if_neg h7, if_pos h8]] <;> rfl, rfl⟩
    by_cases h9 : x = 7
    · rw [show (if x.toInt < 0 ∨ 8 < x.toInt then 110 else i_tg 10 ((#[50, 55, 60, 65, 70, 75, 80, 85, 90] : Array Int).getD (x.toInt - 0).toNat 0)) = 95 by rw [h9]; rfl]
      refine w_R.ret 3 (.inl (some (.int (I a 9)))) (I, J, kR w rem, Z) ?_ (fun x_ Q_ k_ => ⟨trivial, ⟨ha, trivial⟩, trivial, ⟨Nat.le_of_ble_eq_true rfl, Nat.le_of_ble_eq_true rfl⟩, k_⟩)
      exact ⟨by rw [show v_66 I J Z a x z = (I a 9) from by unfold v_66; rw [if_pos h1, if_neg h2, if_neg h3, if_neg h4, if_neg h5, if_neg h6, if_neg h7, if_neg h8, if_pos h9]] <;> rfl, rfl⟩
    by_cases h10 : x = 8
    · rw [show (if x.toInt < 0 ∨ 8 < x.toInt then 110 else i_tg 10 ((#[50, 55, 60, 65, 70, 75, 80, 85, 90] : Array Int).getD (x.toInt - 0).toNat 0)) = 100 by rw [h10]; rfl]
      refine w_R.go (c' := (i_br .eq (s_b z) 0 108 104, [(0, .ref a), (1, .int x), (2, .int (s_b z))], [], (I, J, kR w rem, Z), 0, 0)) 2 ?_ (fun m_ x_ Q_ k_ => ⟨trivial, trivial, k_⟩)
      refine w_R.br_z (fun h11 => ?_) (fun h11 => ?_)
      · replace h11 := Bool.eq_false_iff.mp h11
        refine w_R.ret 2 (.inl (some (.int 0))) (I, J, kR w rem, Z) ?_ (fun x_ Q_ k_ => ⟨trivial, trivial, ⟨Nat.le_of_ble_eq_true rfl, Nat.le_of_ble_eq_true rfl⟩, k_⟩)
        exact ⟨by rw [show v_66 I J Z a x z = 0 from by unfold v_66; rw [if_pos h1, if_neg h2, if_neg h3, if_neg h4, if_neg h5, if_neg h6, if_neg h7, if_neg h8, if_neg h9, if_pos h10, if_neg h11]] <;> rfl, rfl⟩
      · refine w_R.ret 3 (.inl (some (.int 1))) (I, J, kR w rem, Z) ?_ (fun x_ Q_ k_ => ⟨trivial, trivial, trivial, ⟨Nat.le_of_ble_eq_true rfl, Nat.le_of_ble_eq_true rfl⟩, k_⟩)
        exact ⟨by rw [show v_66 I J Z a x z = 1 from by unfold v_66; rw [if_pos h1, if_neg h2, if_neg h3, if_neg h4, if_neg h5, if_neg h6, if_neg h7, if_neg h8, if_neg h9, if_pos h10, if_pos h11]] <;> rfl, rfl⟩
    rw [if_pos (l_out (x := x) (a := 8) (n := 9) (by omega) rfl (by intro k hk; (rcases k with _ | _ | _ | _ | _ | _ | _ | _ | _ | k) <;> first | assumption | omega))]
    refine w_R.ret 2 (.inl (some (.int (-1)))) (I, J, kR w rem, Z) ?_ (fun x_ Q_ k_ => ⟨trivial, trivial, ⟨Nat.le_of_ble_eq_true rfl, Nat.le_of_ble_eq_true rfl⟩, k_⟩)
    exact ⟨by rw [show v_66 I J Z a x z = (-1) from by unfold v_66; rw [if_pos h1, if_neg h2, if_neg h3, if_neg h4, if_neg h5, if_neg h6, if_neg h7, if_neg h8, if_neg h9, if_neg h10]] <;> rfl, rfl⟩
  · replace h1 := Bool.eq_false_iff.mp h1
    refine w_R.ret 2 (.inl (some (.int (-1)))) (I, J, kR w rem, Z) ?_ (fun x_ Q_ k_ => ⟨trivial, trivial, ⟨Nat.le_of_ble_eq_true rfl, Nat.le_of_ble_eq_true rfl⟩, k_⟩)
    exact ⟨by rw [show v_66 I J Z a x z = (-1) from by unfold v_66; rw [if_neg h1]] <;> rfl, rfl⟩
def v_90 (I : Nat → Nat → Int32) (J : Nat → Nat → Int64) (Z : Nat → Nat → Bool) (x : Int32) (y : Int32) : Bool := if y = (-1) then true else if x < y then true else false
theorem d_90 (x : Int32) (y : Int32)  : w_R xs Ln 90 (0, [(0, .int x), (1, .int y)], [], (I, J, kR w rem, Z), 0, 0) (fun o s => o = .inl (some (.int (s_b (v_90 I J Z x y)))) ∧ s = (I, J, kR w rem, Z)) := by
  refine w_R.go (c' := (i_br .eq y (-1) 10 5, [(0, .int x), (1, .int y)], [], (I, J, kR w rem, Z), 0, 0)) 3 ?_ (fun m_ x_ Q_ k_ => ⟨trivial, trivial, trivial, k_⟩)
  refine w_R.br_eq (fun h1 => ?_) (fun h1 => ?_)
  · refine w_R.ret 3 (.inl (some (.int 1))) (I, J, kR w rem, Z) ?_ (fun x_ Q_ k_ => ⟨trivial, trivial, Or.inr rfl, ⟨Nat.le_of_ble_eq_true rfl, Nat.le_of_ble_eq_true rfl⟩, k_⟩)
    exact ⟨by rw [show v_90 I J Z x y = true from by unfold v_90; rw [if_pos h1]] <;> rfl, rfl⟩
  · refine w_R.go (c' := (i_br .ge x y 14 10, [(0, .int x), (1, .int y)], [], (I, J, kR w rem, Z), 0, 0)) 3 ?_ (fun m_ x_ Q_ k_ => ⟨trivial, trivial, trivial, k_⟩)
    refine w_R.br_ge (fun h2 => ?_) (fun h2 => ?_)
    · refine w_R.ret 2 (.inl (some (.int 0))) (I, J, kR w rem, Z) ?_ (fun x_ Q_ k_ => ⟨trivial, Or.inl rfl, ⟨Nat.le_of_ble_eq_true rfl, Nat.le_of_ble_eq_true rfl⟩, k_⟩)
      exact ⟨by rw [show v_90 I J Z x y = false from by unfold v_90; rw [if_neg h1, if_neg h2]] <;> rfl, rfl⟩
    · refine w_R.ret 3 (.inl (some (.int 1))) (I, J, kR w rem, Z) ?_ (fun x_ Q_ k_ => ⟨trivial, trivial, Or.inr rfl, ⟨Nat.le_of_ble_eq_true rfl, Nat.le_of_ble_eq_true rfl⟩, k_⟩)
      exact ⟨by rw [show v_90 I J Z x y = true from by unfold v_90; rw [if_neg h1, if_pos h2]] <;> rfl, rfl⟩
def v_87 (I : Nat → Nat → Int32) (J : Nat → Nat → Int64) (Z : Nat → Nat → Bool) (f : Nat) (t : Nat) (x : Int32) : Bool := if 0 < (I 5 ((f * 12) + t)) then if 0 < x then if 30 < (((I 2 3) - 1) + 1) then false else true else if 30 < (((I 2 3) - 1) + 0) then false else true else if 0 < x then if 30 < (((I 2 3) - 0) + 1) then false else true else if 30 < (((I 2 3) - 0) + 0) then false else true
def i_87 (I : Nat → Nat → Int32) (J : Nat → Nat → Int64) (Z : Nat → Nat → Bool) (f : Nat) (t : Nat) (x : Int32) : Nat → Nat → Int32 := if 0 < (I 5 ((f * 12) + t)) then if 0 < x then if 30 < (((I 2 3) - 1) + 1) then I else s_up (s_up I 2 3 ((I 2 3) + (1 - 1))) 5 ((f * 12) + t) x else if 30 < (((I 2 3) - 1) + 0) then I else s_up (s_up I 2 3 ((I 2 3) + (0 - 1))) 5 ((f * 12) + t) x else if 0 < x then if 30 < (((I 2 3) - 0) + 1) then I else s_up (s_up I 2 3 ((I 2 3) + (1 - 0))) 5 ((f * 12) + t) x else if 30 < (((I 2 3) - 0) + 0) then I else s_up (s_up I 2 3 ((I 2 3) + (0 - 0))) 5 ((f * 12) + t) x
theorem d_87 (f : Nat) (t : Nat) (x : Int32) (hf : f < 12) (ht : t < 12) : w_R xs Ln 87 (0, [(0, .ref 2), (1, .int (Int32.ofNat f)), (2, .int (Int32.ofNat t)), (3, .int x)], [], (I, J, kR w rem, Z), 0, 0) (fun o s => o = .inl (some (.int (s_b (v_87 I J Z f t x)))) ∧ s = (i_87 I J Z f t x, J, kR w rem, Z)) := by
  refine w_R.go (c' := (4, [(0, .ref 2), (1, .int (Int32.ofNat f)), (2, .int (Int32.ofNat t)), (3, .int x)], [.int (Int32.ofNat f * Int32.ofNat 12)], (I, J, kR w rem, Z), 0, 0)) 3 ?_ (fun m_ x_ Q_ k_ => ⟨trivial, trivial, trivial, k_⟩)
  rw [n_mul f 12]
  show w_R xs Ln 87 (4, [(0, .ref 2), (1, .int (Int32.ofNat f)), (2, .int (Int32.ofNat t)), (3, .int x)], [.int (Int32.ofNat (f * 12))], (I, J, kR w rem, Z), 0, 0) _
  refine w_R.go (c' := (6, [(0, .ref 2), (1, .int (Int32.ofNat f)), (2, .int (Int32.ofNat t)), (3, .int x)], [.int (Int32.ofNat (f * 12) + Int32.ofNat t)], (I, J, kR w rem, Z), 0, 0)) 2 ?_ (fun m_ x_ Q_ k_ => ⟨trivial, trivial, k_⟩)
  rw [n_add (f * 12) t]
  show w_R xs Ln 87 (6, [(0, .ref 2), (1, .int (Int32.ofNat f)), (2, .int (Int32.ofNat t)), (3, .int x)], [.int (Int32.ofNat ((f * 12) + t))], (I, J, kR w rem, Z), 0, 0) _
  refine w_R.go (c' := (15, [(4, .int (Int32.ofNat ((f * 12) + t))), (0, .ref 2), (1, .int (Int32.ofNat f)), (2, .int (Int32.ofNat t)), (3, .int x)], [.int (I 5 (Int32.ofNat ((f * 12) + t)).toNatClampNeg)], (I, J, kR w rem, Z), 0, 0)) 5 ?_ (fun m_ x_ Q_ k_ => ⟨trivial, trivial, ⟨sh_2, (Nat.succ_ne_zero 4)⟩, trivial, ⟨_, sh_5, (n_in (a := (f * 12) + t) (by omega) (by decide))⟩, k_⟩)
  rw [n_cl (a := (f * 12) + t) (by omega)]
  show w_R xs Ln 87 (15, [(4, .int (Int32.ofNat ((f * 12) + t))), (0, .ref 2), (1, .int (Int32.ofNat f)), (2, .int (Int32.ofNat t)), (3, .int x)], [.int (I 5 ((f * 12) + t))], (I, J, kR w rem, Z), 0, 0) _
  refine w_R.go (c' := (i_br .le (I 5 ((f * 12) + t)) 0 22 18, [(4, .int (Int32.ofNat ((f * 12) + t))), (0, .ref 2), (1, .int (Int32.ofNat f)), (2, .int (Int32.ofNat t)), (3, .int x)], [], (I, J, kR w rem, Z), 0, 0)) 1 ?_ (fun m_ x_ Q_ k_ => ⟨trivial, k_⟩)
  refine w_R.br_le (fun h1 => ?_) (fun h1 => ?_)
  · refine w_R.go (c' := (i_br .le x 0 33 29, [(5, .int 0), (4, .int (Int32.ofNat ((f * 12) + t))), (0, .ref 2), (1, .int (Int32.ofNat f)), (2, .int (Int32.ofNat t)), (3, .int x)], [], (I, J, kR w rem, Z), 0, 0)) 4 ?_ (fun m_ x_ Q_ k_ => ⟨trivial, trivial, trivial, trivial, k_⟩)
    refine w_R.br_le (fun h2 => ?_) (fun h2 => ?_)
    · refine w_R.go (c' := (i_br .le (((I 2 3) - 0) + 0) 30 53 51, [(6, .int 0), (5, .int 0), (4, .int (Int32.ofNat ((f * 12) + t))), (0, .ref 2), (1, .int (Int32.ofNat f)), (2, .int (Int32.ofNat t)), (3, .int x)], [], (I, J, kR w rem, Z), 0, 0)) 10 ?_ (fun m_ x_ Q_ k_ => ⟨trivial, trivial, trivial, ⟨sh_2, trivial⟩, trivial, trivial, trivial, trivial, trivial, trivial, k_⟩)
      refine w_R.br_le (fun h3 => ?_) (fun h3 => ?_)
      · refine w_R.go (c' := (75, [(6, .int 0), (5, .int 0), (4, .int (Int32.ofNat ((f * 12) + t))), (0, .ref 2), (1, .int (Int32.ofNat f)), (2, .int (Int32.ofNat t)), (3, .int x)], [], (s_up (s_up I 2 3 ((I 2 3) + (0 - 0))) 5 ((Int32.ofNat ((f * 12) + t)).toNatClampNeg) x, J, kR w rem, Z), 0, 0)) 13 ?_ (fun m_ x_ Q_ k_ => ⟨trivial, trivial, ⟨sh_2, trivial⟩, trivial, trivial, trivial, trivial, ⟨sh_2, trivial⟩, trivial, ⟨sh_2, (Nat.succ_ne_zero 4)⟩, trivial, trivial, ⟨_, sh_5, (n_in (a := (f * 12) + t) (by omega) (by decide))⟩, k_⟩)
        rw [n_cl (a := (f * 12) + t) (by omega)]
        show w_R xs Ln 87 (75, [(6, .int 0), (5, .int 0), (4, .int (Int32.ofNat ((f * 12) + t))), (0, .ref 2), (1, .int (Int32.ofNat f)), (2, .int (Int32.ofNat t)), (3, .int x)], [], (s_up (s_up I 2 3 ((I 2 3) + (0 - 0))) 5 ((f * 12) + t) x, J, kR w rem, Z), 0, 0) _
        refine w_R.ret 2 (.inl (some (.int 1))) (s_up (s_up I 2 3 ((I 2 3) + (0 - 0))) 5 ((f * 12) + t) x, J, kR w rem, Z) ?_ (fun x_ Q_ k_ => ⟨trivial, Or.inr rfl, ⟨Nat.le_of_ble_eq_true rfl, Nat.le_of_ble_eq_true rfl⟩, k_⟩)
        exact ⟨by rw [show v_87 I J Z f t x = true from by unfold v_87; rw [if_neg h1, if_neg h2, if_neg h3]] <;> rfl, by rw [show i_87 I J Z f t x = (s_up (s_up I 2 3 ((I 2 3) + (0 - 0))) 5 ((f * 12) + t) x) from by unfold i_87; rw [if_neg h1, if_neg h2, if_neg h3]]⟩
      · refine w_R.ret 2 (.inl (some (.int 0))) (I, J, kR w rem, Z) ?_ (fun x_ Q_ k_ => ⟨trivial, Or.inl rfl, ⟨Nat.le_of_ble_eq_true rfl, Nat.le_of_ble_eq_true rfl⟩, k_⟩)
        exact ⟨by rw [show v_87 I J Z f t x = false from by unfold v_87; rw [if_neg h1, if_neg h2, if_pos h3]] <;> rfl, by rw [show i_87 I J Z f t x = I from by unfold i_87; rw [if_neg h1, if_neg h2, if_pos h3]]⟩
    · refine w_R.go (c' := (i_br .le (((I 2 3) - 0) + 1) 30 53 51, [(6, .int 1), (5, .int 0), (4, .int (Int32.ofNat ((f * 12) + t))), (0, .ref 2), (1, .int (Int32.ofNat f)), (2, .int (Int32.ofNat t)), (3, .int x)], [], (I, J, kR w rem, Z), 0, 0)) 11 ?_ (fun m_ x_ Q_ k_ => ⟨trivial, trivial, trivial, trivial, ⟨sh_2, trivial⟩, trivial, trivial, trivial, trivial, trivial, trivial, k_⟩)
      refine w_R.br_le (fun h4 => ?_) (fun h4 => ?_)
      · refine w_R.go (c' := (75, [(6, .int 1), (5, .int 0), (4, .int (Int32.ofNat ((f * 12) + t))), (0, .ref 2), (1, .int (Int32.ofNat f)), (2, .int (Int32.ofNat t)), (3, .int x)], [], (s_up (s_up I 2 3 ((I 2 3) + (1 - 0))) 5 ((Int32.ofNat ((f * 12) + t)).toNatClampNeg) x, J, kR w rem, Z), 0, 0)) 13 ?_ (fun m_ x_ Q_ k_ => ⟨trivial, trivial, ⟨sh_2, trivial⟩, trivial, trivial, trivial, trivial, ⟨sh_2, trivial⟩, trivial, ⟨sh_2, (Nat.succ_ne_zero 4)⟩, trivial, trivial, ⟨_, sh_5, (n_in (a := (f * 12) + t) (by omega) (by decide))⟩, k_⟩)
        rw [n_cl (a := (f * 12) + t) (by omega)]
        show w_R xs Ln 87 (75, [(6, .int 1), (5, .int 0), (4, .int (Int32.ofNat ((f * 12) + t))), (0, .ref 2), (1, .int (Int32.ofNat f)), (2, .int (Int32.ofNat t)), (3, .int x)], [], (s_up (s_up I 2 3 ((I 2 3) + (1 - 0))) 5 ((f * 12) + t) x, J, kR w rem, Z), 0, 0) _
        refine w_R.ret 2 (.inl (some (.int 1))) (s_up (s_up I 2 3 ((I 2 3) + (1 - 0))) 5 ((f * 12) + t) x, J, kR w rem, Z) ?_ (fun x_ Q_ k_ => ⟨trivial, Or.inr rfl, ⟨Nat.le_of_ble_eq_true rfl, Nat.le_of_ble_eq_true rfl⟩, k_⟩)
        exact ⟨by rw [show v_87 I J Z f t x = true from by unfold v_87; rw [if_neg h1, if_pos h2, if_neg h4]] <;> rfl, by rw [show i_87 I J Z f t x = (s_up (s_up I 2 3 ((I 2 3) + (1 - 0))) 5 ((f * 12) + t) x) from by unfold i_87; rw [if_neg h1, if_pos h2, if_neg h4]]⟩
      · refine w_R.ret 2 (.inl (some (.int 0))) (I, J, kR w rem, Z) ?_ (fun x_ Q_ k_ => ⟨trivial, Or.inl rfl, ⟨Nat.le_of_ble_eq_true rfl, Nat.le_of_ble_eq_true rfl⟩, k_⟩)
        exact ⟨by rw [show v_87 I J Z f t x = false from by unfold v_87; rw [if_neg h1, if_pos h2, if_pos h4]] <;> rfl, by rw [show i_87 I J Z f t x = I from by unfold i_87; rw [if_neg h1, if_pos h2, if_pos h4]]⟩
  · refine w_R.go (c' := (i_br .le x 0 33 29, [(5, .int 1), (4, .int (Int32.ofNat ((f * 12) + t))), (0, .ref 2), (1, .int (Int32.ofNat f)), (2, .int (Int32.ofNat t)), (3, .int x)], [], (I, J, kR w rem, Z), 0, 0)) 5 ?_ (fun m_ x_ Q_ k_ => ⟨trivial, trivial, trivial, trivial, trivial, k_⟩)
    refine w_R.br_le (fun h5 => ?_) (fun h5 => ?_)
    · refine w_R.go (c' := (i_br .le (((I 2 3) - 1) + 0) 30 53 51, [(6, .int 0), (5, .int 1), (4, .int (Int32.ofNat ((f * 12) + t))), (0, .ref 2), (1, .int (Int32.ofNat f)), (2, .int (Int32.ofNat t)), (3, .int x)], [], (I, J, kR w rem, Z), 0, 0)) 10 ?_ (fun m_ x_ Q_ k_ => ⟨trivial, trivial, trivial, ⟨sh_2, trivial⟩, trivial, trivial, trivial, trivial, trivial, trivial, k_⟩)
      refine w_R.br_le (fun h6 => ?_) (fun h6 => ?_)
      · refine w_R.go (c' := (75, [(6, .int 0), (5, .int 1), (4, .int (Int32.ofNat ((f * 12) + t))), (0, .ref 2), (1, .int (Int32.ofNat f)), (2, .int (Int32.ofNat t)), (3, .int x)], [], (s_up (s_up I 2 3 ((I 2 3) + (0 - 1))) 5 ((Int32.ofNat ((f * 12) + t)).toNatClampNeg) x, J, kR w rem, Z), 0, 0)) 13 ?_ (fun m_ x_ Q_ k_ => ⟨trivial, trivial, ⟨sh_2, trivial⟩, trivial, trivial, trivial, trivial, ⟨sh_2, trivial⟩, trivial, ⟨sh_2, (Nat.succ_ne_zero 4)⟩, trivial, trivial, ⟨_, sh_5, (n_in (a := (f * 12) + t) (by omega) (by decide))⟩, k_⟩)
        rw [n_cl (a := (f * 12) + t) (by omega)]
        show w_R xs Ln 87 (75, [(6, .int 0), (5, .int 1), (4, .int (Int32.ofNat ((f * 12) + t))), (0, .ref 2), (1, .int (Int32.ofNat f)), (2, .int (Int32.ofNat t)), (3, .int x)], [], (s_up (s_up I 2 3 ((I 2 3) + (0 - 1))) 5 ((f * 12) + t) x, J, kR w rem, Z), 0, 0) _
        refine w_R.ret 2 (.inl (some (.int 1))) (s_up (s_up I 2 3 ((I 2 3) + (0 - 1))) 5 ((f * 12) + t) x, J, kR w rem, Z) ?_ (fun x_ Q_ k_ => ⟨trivial, Or.inr rfl, ⟨Nat.le_of_ble_eq_true rfl, Nat.le_of_ble_eq_true rfl⟩, k_⟩)
        exact ⟨by rw [show v_87 I J Z f t x = true from by unfold v_87; rw [if_pos h1, if_neg h5, if_neg h6]] <;> rfl, by rw [show i_87 I J Z f t x = (s_up (s_up I 2 3 ((I 2 3) + (0 - 1))) 5 ((f * 12) + t) x) from by unfold i_87; rw [if_pos h1, if_neg h5, if_neg h6]]⟩
      · refine w_R.ret 2 (.inl (some (.int 0))) (I, J, kR w rem, Z) ?_ (fun x_ Q_ k_ => ⟨trivial, Or.inl rfl, ⟨Nat.le_of_ble_eq_true rfl, Nat.le_of_ble_eq_true rfl⟩, k_⟩)
        exact ⟨by rw [show v_87 I J Z f t x = false from by unfold v_87; rw [if_pos h1, if_neg h5, if_pos h6]] <;> rfl, by rw [show i_87 I J Z f t x = I from by unfold i_87; rw [if_pos h1, if_neg h5, if_pos h6]]⟩
    · refine w_R.go (c' := (i_br .le (((I 2 3) - 1) + 1) 30 53 51, [(6, .int 1), (5, .int 1), (4, .int (Int32.ofNat ((f * 12) + t))), (0, .ref 2), (1, .int (Int32.ofNat f)), (2, .int (Int32.ofNat t)), (3, .int x)], [], (I, J, kR w rem, Z), 0, 0)) 11 ?_ (fun m_ x_ Q_ k_ => ⟨trivial, trivial, trivial, trivial, ⟨sh_2, trivial⟩, trivial, trivial, trivial, trivial, trivial, trivial, k_⟩)
      refine w_R.br_le (fun h7 => ?_) (fun h7 => ?_)
      · refine w_R.go (c' := (75, [(6, .int 1), (5, .int 1), (4, .int (Int32.ofNat ((f * 12) + t))), (0, .ref 2), (1, .int (Int32.ofNat f)), (2, .int (Int32.ofNat t)), (3, .int x)], [], (s_up (s_up I 2 3 ((I 2 3) + (1 - 1))) 5 ((Int32.ofNat ((f * 12) + t)).toNatClampNeg) x, J, kR w rem, Z), 0, 0)) 13 ?_ (fun m_ x_ Q_ k_ => ⟨trivial, trivial, ⟨sh_2, trivial⟩, trivial, trivial, trivial, trivial, ⟨sh_2, trivial⟩, trivial, ⟨sh_2, (Nat.succ_ne_zero 4)⟩, trivial, trivial, ⟨_, sh_5, (n_in (a := (f * 12) + t) (by omega) (by decide))⟩, k_⟩)
        rw [n_cl (a := (f * 12) + t) (by omega)]
        show w_R xs Ln 87 (75, [(6, .int 1), (5, .int 1), (4, .int (Int32.ofNat ((f * 12) + t))), (0, .ref 2), (1, .int (Int32.ofNat f)), (2, .int (Int32.ofNat t)), (3, .int x)], [], (s_up (s_up I 2 3 ((I 2 3) + (1 - 1))) 5 ((f * 12) + t) x, J, kR w rem, Z), 0, 0) _
        refine w_R.ret 2 (.inl (some (.int 1))) (s_up (s_up I 2 3 ((I 2 3) + (1 - 1))) 5 ((f * 12) + t) x, J, kR w rem, Z) ?_ (fun x_ Q_ k_ => ⟨trivial, Or.inr rfl, ⟨Nat.le_of_ble_eq_true rfl, Nat.le_of_ble_eq_true rfl⟩, k_⟩)
        exact ⟨by rw [show v_87 I J Z f t x = true from by unfold v_87; rw [if_pos h1, if_pos h5, if_neg h7]] <;> rfl, by rw [show i_87 I J Z f t x = (s_up (s_up I 2 3 ((I 2 3) + (1 - 1))) 5 ((f * 12) + t) x) from by unfold i_87; rw [if_pos h1, if_pos h5, if_neg h7]]⟩
      · refine w_R.ret 2 (.inl (some (.int 0))) (I, J, kR w rem, Z) ?_ (fun x_ Q_ k_ => ⟨trivial, Or.inl rfl, ⟨Nat.le_of_ble_eq_true rfl, Nat.le_of_ble_eq_true rfl⟩, k_⟩)
        exact ⟨by rw [show v_87 I J Z f t x = false from by unfold v_87; rw [if_pos h1, if_pos h5, if_pos h7]] <;> rfl, by rw [show i_87 I J Z f t x = I from by unfold i_87; rw [if_pos h1, if_pos h5, if_pos h7]]⟩
def z_100 (I : Nat → Nat → Int32) (J : Nat → Nat → Int64) (Z : Nat → Nat → Bool) (a : Nat) : Nat → Nat → Bool := s_up Z a 0 false
theorem d_100 (a : Nat) (ha : sh1[a]? = some (.inl 4)) : w_R xs Ln 100 (0, [(0, .ref a)], [], (I, J, kR w rem, Z), 0, 0) (fun o s => o = .inl none ∧ s = (I, J, kR w rem, z_100 I J Z a)) := by
  refine w_R.ret 4 (.inl none) (I, J, kR w rem, s_up Z a 0 false) ?_ (fun x_ Q_ k_ => ⟨trivial, trivial, ⟨ha, (Or.inl rfl)⟩, ⟨Nat.le_of_ble_eq_true rfl, Nat.le_of_ble_eq_true rfl⟩, k_⟩)
  exact ⟨rfl, by rw [show z_100 I J Z a = (s_up Z a 0 false) from by unfold z_100; rfl]⟩
def v_101 (I : Nat → Nat → Int32) (J : Nat → Nat → Int64) (Z : Nat → Nat → Bool) (a : Nat) : Bool := if (Z a 0) = true then if (I a 3) = 0 then if (Z a 1) = true then false else true else false else false
theorem d_101 (a : Nat) (ha : sh1[a]? = some (.inl 4)) : w_R xs Ln 101 (0, [(0, .ref a)], [], (I, J, kR w rem, Z), 0, 0) (fun o s => o = .inl (some (.int (s_b (v_101 I J Z a)))) ∧ s = (I, J, kR w rem, Z)) := by
  refine w_R.go (c' := (i_br .eq (s_b (Z a 0)) 0 25 7, [(0, .ref a)], [], (I, J, kR w rem, Z), 0, 0)) 3 ?_ (fun m_ x_ Q_ k_ => ⟨trivial, ⟨ha, trivial⟩, trivial, k_⟩)
  refine w_R.br_z (fun h1 => ?_) (fun h1 => ?_)
  · replace h1 := Bool.eq_false_iff.mp h1
    refine w_R.ret 2 (.inl (some (.int 0))) (I, J, kR w rem, Z) ?_ (fun x_ Q_ k_ => ⟨trivial, Or.inl rfl, ⟨Nat.le_of_ble_eq_true rfl, Nat.le_of_ble_eq_true rfl⟩, k_⟩)
    exact ⟨by rw [show v_101 I J Z a = false from by unfold v_101; rw [if_neg h1]] <;> rfl, rfl⟩
  · refine w_R.go (c' := (i_br .ne (I a 3) 0 25 14, [(0, .ref a)], [], (I, J, kR w rem, Z), 0, 0)) 3 ?_ (fun m_ x_ Q_ k_ => ⟨trivial, ⟨ha, trivial⟩, trivial, k_⟩)
    refine w_R.br_ne (fun h2 => ?_) (fun h2 => ?_)
    · refine w_R.ret 2 (.inl (some (.int 0))) (I, J, kR w rem, Z) ?_ (fun x_ Q_ k_ => ⟨trivial, Or.inl rfl, ⟨Nat.le_of_ble_eq_true rfl, Nat.le_of_ble_eq_true rfl⟩, k_⟩)
      exact ⟨by rw [show v_101 I J Z a = false from by unfold v_101; rw [if_pos h1, if_neg h2]] <;> rfl, rfl⟩
    · refine w_R.go (c' := (i_br .ne (s_b (Z a 1)) 0 25 21, [(0, .ref a)], [], (I, J, kR w rem, Z), 0, 0)) 3 ?_ (fun m_ x_ Q_ k_ => ⟨trivial, ⟨ha, trivial⟩, trivial, k_⟩)
      refine w_R.br_nz (fun h3 => ?_) (fun h3 => ?_)
      · refine w_R.ret 2 (.inl (some (.int 0))) (I, J, kR w rem, Z) ?_ (fun x_ Q_ k_ => ⟨trivial, Or.inl rfl, ⟨Nat.le_of_ble_eq_true rfl, Nat.le_of_ble_eq_true rfl⟩, k_⟩)
        exact ⟨by rw [show v_101 I J Z a = false from by unfold v_101; rw [if_pos h1, if_pos h2, if_pos h3]] <;> rfl, rfl⟩
      · replace h3 := Bool.eq_false_iff.mp h3
        refine w_R.ret 3 (.inl (some (.int 1))) (I, J, kR w rem, Z) ?_ (fun x_ Q_ k_ => ⟨trivial, trivial, Or.inr rfl, ⟨Nat.le_of_ble_eq_true rfl, Nat.le_of_ble_eq_true rfl⟩, k_⟩)
        exact ⟨by rw [show v_101 I J Z a = true from by unfold v_101; rw [if_pos h1, if_pos h2, if_neg h3]] <;> rfl, rfl⟩
def v_102 (I : Nat → Nat → Int32) (J : Nat → Nat → Int64) (Z : Nat → Nat → Bool) (a : Nat) (x : Int32) : Bool := if (Z a 0) = true then if (I a 4) = x then if (I a 3) = 0 then false else if (I a 3) = 3 then false else true else false else false
theorem d_102 (a : Nat) (x : Int32) (ha : sh1[a]? = some (.inl 4)) : w_R xs Ln 102 (0, [(0, .ref a), (1, .int x)], [], (I, J, kR w rem, Z), 0, 0) (fun o s => o = .inl (some (.int (s_b (v_102 I J Z a x)))) ∧ s = (I, J, kR w rem, Z)) := by
  refine w_R.go (c' := (i_br .eq (s_b (Z a 0)) 0 34 7, [(0, .ref a), (1, .int x)], [], (I, J, kR w rem, Z), 0, 0)) 3 ?_ (fun m_ x_ Q_ k_ => ⟨trivial, ⟨ha, trivial⟩, trivial, k_⟩)
  refine w_R.br_z (fun h1 => ?_) (fun h1 => ?_)
  · replace h1 := Bool.eq_false_iff.mp h1
    refine w_R.ret 2 (.inl (some (.int 0))) (I, J, kR w rem, Z) ?_ (fun x_ Q_ k_ => ⟨trivial, Or.inl rfl, ⟨Nat.le_of_ble_eq_true rfl, Nat.le_of_ble_eq_true rfl⟩, k_⟩)
    exact ⟨by rw [show v_102 I J Z a x = false from by unfold v_102; rw [if_neg h1]] <;> rfl, rfl⟩
  · refine w_R.go (c' := (i_br .ne (I a 4) x 34 15, [(0, .ref a), (1, .int x)], [], (I, J, kR w rem, Z), 0, 0)) 4 ?_ (fun m_ x_ Q_ k_ => ⟨trivial, ⟨ha, trivial⟩, trivial, trivial, k_⟩)
    refine w_R.br_ne (fun h2 => ?_) (fun h2 => ?_)
    · refine w_R.ret 2 (.inl (some (.int 0))) (I, J, kR w rem, Z) ?_ (fun x_ Q_ k_ => ⟨trivial, Or.inl rfl, ⟨Nat.le_of_ble_eq_true rfl, Nat.le_of_ble_eq_true rfl⟩, k_⟩)
      exact ⟨by rw [show v_102 I J Z a x = false from by unfold v_102; rw [if_pos h1, if_neg h2]] <;> rfl, rfl⟩
    · refine w_R.go (c' := (i_br .eq (I a 3) 0 34 22, [(0, .ref a), (1, .int x)], [], (I, J, kR w rem, Z), 0, 0)) 3 ?_ (fun m_ x_ Q_ k_ => ⟨trivial, ⟨ha, trivial⟩, trivial, k_⟩)
      refine w_R.br_eq (fun h3 => ?_) (fun h3 => ?_)
      · refine w_R.ret 2 (.inl (some (.int 0))) (I, J, kR w rem, Z) ?_ (fun x_ Q_ k_ => ⟨trivial, Or.inl rfl, ⟨Nat.le_of_ble_eq_true rfl, Nat.le_of_ble_eq_true rfl⟩, k_⟩)
        exact ⟨by rw [show v_102 I J Z a x = false from by unfold v_102; rw [if_pos h1, if_pos h2, if_pos h3]] <;> rfl, rfl⟩
      · refine w_R.go (c' := (i_br .eq (I a 3) 3 34 30, [(0, .ref a), (1, .int x)], [], (I, J, kR w rem, Z), 0, 0)) 4 ?_ (fun m_ x_ Q_ k_ => ⟨trivial, ⟨ha, trivial⟩, trivial, trivial, k_⟩)
        refine w_R.br_eq (fun h4 => ?_) (fun h4 => ?_)
        · refine w_R.ret 2 (.inl (some (.int 0))) (I, J, kR w rem, Z) ?_ (fun x_ Q_ k_ => ⟨trivial, Or.inl rfl, ⟨Nat.le_of_ble_eq_true rfl, Nat.le_of_ble_eq_true rfl⟩, k_⟩)
          exact ⟨by rw [show v_102 I J Z a x = false from by unfold v_102; rw [if_pos h1, if_pos h2, if_neg h3, if_pos h4]] <;> rfl, rfl⟩
        · refine w_R.ret 3 (.inl (some (.int 1))) (I, J, kR w rem, Z) ?_ (fun x_ Q_ k_ => ⟨trivial, trivial, Or.inr rfl, ⟨Nat.le_of_ble_eq_true rfl, Nat.le_of_ble_eq_true rfl⟩, k_⟩)
          exact ⟨by rw [show v_102 I J Z a x = true from by unfold v_102; rw [if_pos h1, if_pos h2, if_neg h3, if_neg h4]] <;> rfl, rfl⟩
def v_16 (I : Nat → Nat → Int32) (J : Nat → Nat → Int64) (Z : Nat → Nat → Bool)  : Int32 := I 33 1
theorem d_16   : w_R xs Ln 16 (0, [(0, .ref 1)], [], (I, J, kR w rem, Z), 0, 0) (fun o s => o = .inl (some (.int (v_16 I J Z))) ∧ s = (I, J, kR w rem, Z)) := by
  refine w_R.ret 4 (.inl (some (.int (I 33 1)))) (I, J, kR w rem, Z) ?_ (fun x_ Q_ k_ => ⟨trivial, ⟨sh_1, (Nat.succ_ne_zero 32)⟩, ⟨sh_33, trivial⟩, trivial, ⟨Nat.le_of_ble_eq_true rfl, Nat.le_of_ble_eq_true rfl⟩, k_⟩)
  exact ⟨by rw [show v_16 I J Z = (I 33 1) from by unfold v_16; rfl] <;> rfl, rfl⟩
def v_71 (I : Nat → Nat → Int32) (J : Nat → Nat → Int64) (Z : Nat → Nat → Bool) (x : Int32) : Bool := if x < 0 then false else if x < (I 33 1) then true else false
theorem d_71 (x : Int32)  : w_R xs Ln 71 (0, [(0, .ref 33), (1, .int x)], [], (I, J, kR w rem, Z), 0, 0) (fun o s => o = .inl (some (.int (s_b (v_71 I J Z x)))) ∧ s = (I, J, kR w rem, Z)) := by
  refine w_R.go (c' := (i_br .lt x 0 16 4, [(0, .ref 33), (1, .int x)], [], (I, J, kR w rem, Z), 0, 0)) 2 ?_ (fun m_ x_ Q_ k_ => ⟨trivial, trivial, k_⟩)
  refine w_R.br_lt (fun h1 => ?_) (fun h1 => ?_)
  · refine w_R.ret 2 (.inl (some (.int 0))) (I, J, kR w rem, Z) ?_ (fun x_ Q_ k_ => ⟨trivial, Or.inl rfl, ⟨Nat.le_of_ble_eq_true rfl, Nat.le_of_ble_eq_true rfl⟩, k_⟩)
    exact ⟨by rw [show v_71 I J Z x = false from by unfold v_71; rw [if_pos h1]] <;> rfl, rfl⟩
  · refine w_R.go (c' := (i_br .ge x (I 33 1) 16 12, [(0, .ref 33), (1, .int x)], [], (I, J, kR w rem, Z), 0, 0)) 4 ?_ (fun m_ x_ Q_ k_ => ⟨trivial, trivial, ⟨sh_33, trivial⟩, trivial, k_⟩)
    refine w_R.br_ge (fun h2 => ?_) (fun h2 => ?_)
    · refine w_R.ret 2 (.inl (some (.int 0))) (I, J, kR w rem, Z) ?_ (fun x_ Q_ k_ => ⟨trivial, Or.inl rfl, ⟨Nat.le_of_ble_eq_true rfl, Nat.le_of_ble_eq_true rfl⟩, k_⟩)
      exact ⟨by rw [show v_71 I J Z x = false from by unfold v_71; rw [if_neg h1, if_neg h2]] <;> rfl, rfl⟩
    · refine w_R.ret 3 (.inl (some (.int 1))) (I, J, kR w rem, Z) ?_ (fun x_ Q_ k_ => ⟨trivial, trivial, Or.inr rfl, ⟨Nat.le_of_ble_eq_true rfl, Nat.le_of_ble_eq_true rfl⟩, k_⟩)
      exact ⟨by rw [show v_71 I J Z x = true from by unfold v_71; rw [if_neg h1, if_pos h2]] <;> rfl, rfl⟩
def v_92 (I : Nat → Nat → Int32) (J : Nat → Nat → Int64) (Z : Nat → Nat → Bool) (r : Nat) (d : Nat) : Int32 := if (Z (141 + 29 * r) 0) = true then if (lg_cmp ((J (141 + 29 * r) 2) - (J (146 + 29 * r) d)) 2000) < 0 then I (142 + 29 * r) d else 0 else 0
theorem d_92 (r : Nat) (d : Nat) (hr : r < 2) (hd : d < 4) : w_R xs Ln 92 (0, [(0, .ref (141 + 29 * r)), (1, .int (Int32.ofNat d))], [], (I, J, kR w rem, Z), 0, 0) (fun o s => o = .inl (some (.int (v_92 I J Z r d))) ∧ s = (I, J, kR w rem, Z)) := by
  refine w_R.go (c' := (i_br .eq (s_b (Z (141 + 29 * r) 0)) 0 29 7, [(0, .ref (141 + 29 * r)), (1, .int (Int32.ofNat d))], [], (I, J, kR w rem, Z), 0, 0)) 3 ?_ (fun m_ x_ Q_ k_ => ⟨trivial, ⟨(sh_room hr), trivial⟩, trivial, k_⟩)
  refine w_R.br_z (fun h1 => ?_) (fun h1 => ?_)
  · replace h1 := Bool.eq_false_iff.mp h1
    refine w_R.ret 6 (.inl (some (.int 0))) (I, J, kR w rem, Z) ?_ (fun x_ Q_ k_ => ⟨trivial, trivial, trivial, trivial, trivial, trivial, ⟨Nat.le_of_ble_eq_true rfl, Nat.le_of_ble_eq_true rfl⟩, k_⟩)
    exact ⟨by rw [show v_92 I J Z r d = 0 from by unfold v_92; rw [if_neg h1]] <;> rfl, rfl⟩
  · refine w_R.go (c' := (15, [(0, .ref (141 + 29 * r)), (1, .int (Int32.ofNat d))], [.ref (kR w rem (141 + 29 * r) 8), .long (J (141 + 29 * r) 2)], (I, J, kR w rem, Z), 0, 0)) 4 ?_ (fun m_ x_ Q_ k_ => ⟨trivial, ⟨(sh_room hr), trivial⟩, trivial, ⟨(sh_room hr), (show kR w rem (141 + 29 * r) 8 ≠ 0 by rw [r_room8 (w := w) (rem := rem) (r := r) hr]; omega)⟩, k_⟩)
    rw [r_room8 (w := w) (rem := rem) (r := r) hr]
    show w_R xs Ln 92 (15, [(0, .ref (141 + 29 * r)), (1, .int (Int32.ofNat d))], [.ref (146 + 29 * r), .long (J (141 + 29 * r) 2)], (I, J, kR w rem, Z), 0, 0) _
    refine w_R.go (c' := (17, [(0, .ref (141 + 29 * r)), (1, .int (Int32.ofNat d))], [.long (J (146 + 29 * r) (Int32.ofNat d).toNatClampNeg), .long (J (141 + 29 * r) 2)], (I, J, kR w rem, Z), 0, 0)) 2 ?_ (fun m_ x_ Q_ k_ => ⟨trivial, ⟨_, (sh_room8 hr), (n_in (a := d) (by omega) (by decide))⟩, k_⟩)
    rw [n_cl (a := d) (by omega)]
    show w_R xs Ln 92 (17, [(0, .ref (141 + 29 * r)), (1, .int (Int32.ofNat d))], [.long (J (146 + 29 * r) d), .long (J (141 + 29 * r) 2)], (I, J, kR w rem, Z), 0, 0) _
    refine w_R.go (c' := (i_br .ge (lg_cmp ((J (141 + 29 * r) 2) - (J (146 + 29 * r) d)) 2000) 0 29 25, [(0, .ref (141 + 29 * r)), (1, .int (Int32.ofNat d))], [], (I, J, kR w rem, Z), 0, 0)) 4 ?_ (fun m_ x_ Q_ k_ => ⟨trivial, trivial, trivial, trivial, k_⟩)
    refine w_R.br_ge (fun h2 => ?_) (fun h2 => ?_)
    · refine w_R.ret 6 (.inl (some (.int 0))) (I, J, kR w rem, Z) ?_ (fun x_ Q_ k_ => ⟨trivial, trivial, trivial, trivial, trivial, trivial, ⟨Nat.le_of_ble_eq_true rfl, Nat.le_of_ble_eq_true rfl⟩, k_⟩)
      exact ⟨by rw [show v_92 I J Z r d = 0 from by unfold v_92; rw [if_pos h1, if_neg h2]] <;> rfl, rfl⟩
    · refine w_R.go (c' := (39, [(2, .int 1), (0, .ref (141 + 29 * r)), (1, .int (Int32.ofNat d))], [.ref (kR w rem (141 + 29 * r) 4)], (I, J, kR w rem, Z), 0, 0)) 7 ?_ (fun m_ x_ Q_ k_ => ⟨trivial, trivial, trivial, trivial, trivial, trivial, ⟨(sh_room hr), (show kR w rem (141 + 29 * r) 4 ≠ 0 by rw [r_room4 (w := w) (rem := rem) (r := r) hr]; omega)⟩, k_⟩)
      rw [r_room4 (w := w) (rem := rem) (r := r) hr]
      show w_R xs Ln 92 (39, [(2, .int 1), (0, .ref (141 + 29 * r)), (1, .int (Int32.ofNat d))], [.ref (142 + 29 * r)], (I, J, kR w rem, Z), 0, 0) _
      refine w_R.go (c' := (41, [(2, .int 1), (0, .ref (141 + 29 * r)), (1, .int (Int32.ofNat d))], [.int (I (142 + 29 * r) (Int32.ofNat d).toNatClampNeg)], (I, J, kR w rem, Z), 0, 0)) 2 ?_ (fun m_ x_ Q_ k_ => ⟨trivial, ⟨_, (sh_room4 hr), (n_in (a := d) (by omega) (by decide))⟩, k_⟩)
      rw [n_cl (a := d) (by omega)]
      show w_R xs Ln 92 (41, [(2, .int 1), (0, .ref (141 + 29 * r)), (1, .int (Int32.ofNat d))], [.int (I (142 + 29 * r) d)], (I, J, kR w rem, Z), 0, 0) _
      refine w_R.ret 2 (.inl (some (.int (I (142 + 29 * r) d)))) (I, J, kR w rem, Z) ?_ (fun x_ Q_ k_ => ⟨trivial, trivial, ⟨Nat.le_of_ble_eq_true rfl, Nat.le_of_ble_eq_true rfl⟩, k_⟩)
      exact ⟨by rw [show v_92 I J Z r d = (I (142 + 29 * r) d) from by unfold v_92; rw [if_pos h1, if_pos h2]] <;> rfl, rfl⟩
def v_84 (I : Nat → Nat → Int32) (J : Nat → Nat → Int64) (Z : Nat → Nat → Bool) (x : Int32) (d : Nat) : Bool := if (I 15 d) = (-1) then true else if (I 15 d) = x then true else if (lg_cmp ((J 13 0) - (J 16 d)) 2100) < 0 then false else true
theorem d_84 (x : Int32) (d : Nat) (hd : d < 4) : w_R xs Ln 84 (0, [(0, .ref 13), (1, .int x), (2, .int (Int32.ofNat d))], [], (I, J, kR w rem, Z), 0, 0) (fun o s => o = .inl (some (.int (s_b (v_84 I J Z x d)))) ∧ s = (I, J, kR w rem, Z)) := by
  refine w_R.go (c' := (6, [(0, .ref 13), (1, .int x), (2, .int (Int32.ofNat d))], [.int (I 15 (Int32.ofNat d).toNatClampNeg)], (I, J, kR w rem, Z), 0, 0)) 4 ?_ (fun m_ x_ Q_ k_ => ⟨trivial, ⟨sh_13, (Nat.succ_ne_zero 14)⟩, trivial, ⟨_, sh_15, (n_in (a := d) (by omega) (by decide))⟩, k_⟩)
  rw [n_cl (a := d) (by omega)]
  show w_R xs Ln 84 (6, [(0, .ref 13), (1, .int x), (2, .int (Int32.ofNat d))], [.int (I 15 d)], (I, J, kR w rem, Z), 0, 0) _
  refine w_R.go (c' := (i_br .eq (I 15 d) (-1) 38 10, [(0, .ref 13), (1, .int x), (2, .int (Int32.ofNat d))], [], (I, J, kR w rem, Z), 0, 0)) 2 ?_ (fun m_ x_ Q_ k_ => ⟨trivial, trivial, k_⟩)
  refine w_R.br_eq (fun h1 => ?_) (fun h1 => ?_)
  · refine w_R.ret 3 (.inl (some (.int 1))) (I, J, kR w rem, Z) ?_ (fun x_ Q_ k_ => ⟨trivial, trivial, Or.inr rfl, ⟨Nat.le_of_ble_eq_true rfl, Nat.le_of_ble_eq_true rfl⟩, k_⟩)
    exact ⟨by rw [show v_84 I J Z x d = true from by unfold v_84; rw [if_pos h1]] <;> rfl, rfl⟩
  · refine w_R.go (c' := (16, [(0, .ref 13), (1, .int x), (2, .int (Int32.ofNat d))], [.int (I 15 (Int32.ofNat d).toNatClampNeg)], (I, J, kR w rem, Z), 0, 0)) 4 ?_ (fun m_ x_ Q_ k_ => ⟨trivial, ⟨sh_13, (Nat.succ_ne_zero 14)⟩, trivial, ⟨_, sh_15, (n_in (a := d) (by omega) (by decide))⟩, k_⟩)
    rw [n_cl (a := d) (by omega)]
    show w_R xs Ln 84 (16, [(0, .ref 13), (1, .int x), (2, .int (Int32.ofNat d))], [.int (I 15 d)], (I, J, kR w rem, Z), 0, 0) _
    refine w_R.go (c' := (i_br .eq (I 15 d) x 38 20, [(0, .ref 13), (1, .int x), (2, .int (Int32.ofNat d))], [], (I, J, kR w rem, Z), 0, 0)) 2 ?_ (fun m_ x_ Q_ k_ => ⟨trivial, trivial, k_⟩)
    refine w_R.br_eq (fun h2 => ?_) (fun h2 => ?_)
    · refine w_R.ret 3 (.inl (some (.int 1))) (I, J, kR w rem, Z) ?_ (fun x_ Q_ k_ => ⟨trivial, trivial, Or.inr rfl, ⟨Nat.le_of_ble_eq_true rfl, Nat.le_of_ble_eq_true rfl⟩, k_⟩)
      exact ⟨by rw [show v_84 I J Z x d = true from by unfold v_84; rw [if_neg h1, if_pos h2]] <;> rfl, rfl⟩
    · refine w_R.go (c' := (30, [(0, .ref 13), (1, .int x), (2, .int (Int32.ofNat d))], [.long (J 16 (Int32.ofNat d).toNatClampNeg), .long (J 13 0)], (I, J, kR w rem, Z), 0, 0)) 6 ?_ (fun m_ x_ Q_ k_ => ⟨trivial, ⟨sh_13, trivial⟩, trivial, ⟨sh_13, (Nat.succ_ne_zero 15)⟩, trivial, ⟨_, sh_16, (n_in (a := d) (by omega) (by decide))⟩, k_⟩)
      rw [n_cl (a := d) (by omega)]
      show w_R xs Ln 84 (30, [(0, .ref 13), (1, .int x), (2, .int (Int32.ofNat d))], [.long (J 16 d), .long (J 13 0)], (I, J, kR w rem, Z), 0, 0) _
      refine w_R.go (c' := (i_br .lt (lg_cmp ((J 13 0) - (J 16 d)) 2100) 0 42 38, [(0, .ref 13), (1, .int x), (2, .int (Int32.ofNat d))], [], (I, J, kR w rem, Z), 0, 0)) 4 ?_ (fun m_ x_ Q_ k_ => ⟨trivial, trivial, trivial, trivial, k_⟩)
      refine w_R.br_lt (fun h3 => ?_) (fun h3 => ?_)
      · refine w_R.ret 2 (.inl (some (.int 0))) (I, J, kR w rem, Z) ?_ (fun x_ Q_ k_ => ⟨trivial, Or.inl rfl, ⟨Nat.le_of_ble_eq_true rfl, Nat.le_of_ble_eq_true rfl⟩, k_⟩)
        exact ⟨by rw [show v_84 I J Z x d = false from by unfold v_84; rw [if_neg h1, if_neg h2, if_pos h3]] <;> rfl, rfl⟩
      · refine w_R.ret 3 (.inl (some (.int 1))) (I, J, kR w rem, Z) ?_ (fun x_ Q_ k_ => ⟨trivial, trivial, Or.inr rfl, ⟨Nat.le_of_ble_eq_true rfl, Nat.le_of_ble_eq_true rfl⟩, k_⟩)
        exact ⟨by rw [show v_84 I J Z x d = true from by unfold v_84; rw [if_neg h1, if_neg h2, if_neg h3]] <;> rfl, rfl⟩
def v_85 (I : Nat → Nat → Int32) (J : Nat → Nat → Int64) (Z : Nat → Nat → Bool) (x : Int32) (d : Nat) : Int32 := (I 13 4) + 1
def i_85 (I : Nat → Nat → Int32) (J : Nat → Nat → Int64) (Z : Nat → Nat → Bool) (x : Int32) (d : Nat) : Nat → Nat → Int32 := s_up (s_up I 15 d x) 13 4 ((I 13 4) + 1)
def j_85 (I : Nat → Nat → Int32) (J : Nat → Nat → Int64) (Z : Nat → Nat → Bool) (x : Int32) (d : Nat) : Nat → Nat → Int64 := s_up J 16 d (J 13 0)
theorem d_85 (x : Int32) (d : Nat) (hd : d < 4) : w_R xs Ln 85 (0, [(0, .ref 13), (1, .int x), (2, .int (Int32.ofNat d))], [], (I, J, kR w rem, Z), 0, 0) (fun o s => o = .inl (some (.int (v_85 I J Z x d))) ∧ s = (i_85 I J Z x d, j_85 I J Z x d, kR w rem, Z)) := by
  refine w_R.go (c' := (7, [(0, .ref 13), (1, .int x), (2, .int (Int32.ofNat d))], [], (s_up I 15 ((Int32.ofNat d).toNatClampNeg) x, J, kR w rem, Z), 0, 0)) 5 ?_ (fun m_ x_ Q_ k_ => ⟨trivial, ⟨sh_13, (Nat.succ_ne_zero 14)⟩, trivial, trivial, ⟨_, sh_15, (n_in (a := d) (by omega) (by decide))⟩, k_⟩)
  rw [n_cl (a := d) (by omega)]
  show w_R xs Ln 85 (7, [(0, .ref 13), (1, .int x), (2, .int (Int32.ofNat d))], [], (s_up I 15 d x, J, kR w rem, Z), 0, 0) _
  refine w_R.go (c' := (17, [(0, .ref 13), (1, .int x), (2, .int (Int32.ofNat d))], [], (s_up I 15 d x, s_up J 16 ((Int32.ofNat d).toNatClampNeg) (J 13 0), kR w rem, Z), 0, 0)) 6 ?_ (fun m_ x_ Q_ k_ => ⟨trivial, ⟨sh_13, (Nat.succ_ne_zero 15)⟩, trivial, trivial, ⟨sh_13, trivial⟩, ⟨_, sh_16, (n_in (a := d) (by omega) (by decide))⟩, k_⟩)
  rw [n_cl (a := d) (by omega)]
  show w_R xs Ln 85 (17, [(0, .ref 13), (1, .int x), (2, .int (Int32.ofNat d))], [], (s_up I 15 d x, s_up J 16 d (J 13 0), kR w rem, Z), 0, 0) _
  refine w_R.go (c' := (22, [(0, .ref 13), (1, .int x), (2, .int (Int32.ofNat d))], [.int ((s_up I 15 d x) 13 4), .ref 13], (s_up I 15 d x, s_up J 16 d (J 13 0), kR w rem, Z), 0, 0)) 3 ?_ (fun m_ x_ Q_ k_ => ⟨trivial, trivial, ⟨sh_13, trivial⟩, k_⟩)
  rw [show (s_up I 15 d x) 13 4 = I 13 4 from (s_upa (by decide))]
  show w_R xs Ln 85 (22, [(0, .ref 13), (1, .int x), (2, .int (Int32.ofNat d))], [.int (I 13 4), .ref 13], (s_up I 15 d x, s_up J 16 d (J 13 0), kR w rem, Z), 0, 0) _
  refine w_R.go (c' := (31, [(0, .ref 13), (1, .int x), (2, .int (Int32.ofNat d))], [.int ((s_up (s_up I 15 d x) 13 4 ((I 13 4) + 1)) 13 4)], (s_up (s_up I 15 d x) 13 4 ((I 13 4) + 1), s_up J 16 d (J 13 0), kR w rem, Z), 0, 0)) 5 ?_ (fun m_ x_ Q_ k_ => ⟨trivial, trivial, ⟨sh_13, trivial⟩, trivial, ⟨sh_13, trivial⟩, k_⟩)
  rw [show (s_up (s_up I 15 d x) 13 4 ((I 13 4) + 1)) 13 4 = (I 13 4) + 1 from (s_upe _ _ _ _)]
  show w_R xs Ln 85 (31, [(0, .ref 13), (1, .int x), (2, .int (Int32.ofNat d))], [.int ((I 13 4) + 1)], (s_up (s_up I 15 d x) 13 4 ((I 13 4) + 1), s_up J 16 d (J 13 0), kR w rem, Z), 0, 0) _
  refine w_R.ret 1 (.inl (some (.int ((I 13 4) + 1)))) (s_up (s_up I 15 d x) 13 4 ((I 13 4) + 1), s_up J 16 d (J 13 0), kR w rem, Z) ?_ (fun x_ Q_ k_ => ⟨trivial, ⟨Nat.le_of_ble_eq_true rfl, Nat.le_of_ble_eq_true rfl⟩, k_⟩)
  exact ⟨by rw [show v_85 I J Z x d = ((I 13 4) + 1) from by unfold v_85; rfl] <;> rfl, by rw [show i_85 I J Z x d = (s_up (s_up I 15 d x) 13 4 ((I 13 4) + 1)) from by unfold i_85; rfl, show j_85 I J Z x d = (s_up J 16 d (J 13 0)) from by unfold j_85; rfl]⟩
def v_105 (I : Nat → Nat → Int32) (J : Nat → Nat → Int64) (Z : Nat → Nat → Bool)  : Int32 := I 199 59
theorem d_105   : w_R xs Ln 105 (0, [(0, .ref 199)], [], (I, J, kR w rem, Z), 0, 0) (fun o s => o = .inl (some (.int (v_105 I J Z))) ∧ s = (I, J, kR w rem, Z)) := by
  refine w_R.ret 3 (.inl (some (.int (I 199 59)))) (I, J, kR w rem, Z) ?_ (fun x_ Q_ k_ => ⟨trivial, ⟨sh_199, trivial⟩, trivial, ⟨Nat.le_of_ble_eq_true rfl, Nat.le_of_ble_eq_true rfl⟩, k_⟩)
  exact ⟨by rw [show v_105 I J Z = (I 199 59) from by unfold v_105; rfl] <;> rfl, rfl⟩
def v_106 (I : Nat → Nat → Int32) (J : Nat → Nat → Int64) (Z : Nat → Nat → Bool) (x : Int32) (y : Int32) (v : Int32) : Bool := if x < y then false else if v < x then false else true
theorem d_106 (x : Int32) (y : Int32) (v : Int32)  : w_R xs Ln 106 (0, [(0, .int x), (1, .int y), (2, .int v)], [], (I, J, kR w rem, Z), 0, 0) (fun o s => o = .inl (some (.int (s_b (v_106 I J Z x y v)))) ∧ s = (I, J, kR w rem, Z)) := by
  refine w_R.go (c' := (i_br .lt x y 14 5, [(0, .int x), (1, .int y), (2, .int v)], [], (I, J, kR w rem, Z), 0, 0)) 3 ?_ (fun m_ x_ Q_ k_ => ⟨trivial, trivial, trivial, k_⟩)
  refine w_R.br_lt (fun h1 => ?_) (fun h1 => ?_)
  · refine w_R.ret 2 (.inl (some (.int 0))) (I, J, kR w rem, Z) ?_ (fun x_ Q_ k_ => ⟨trivial, Or.inl rfl, ⟨Nat.le_of_ble_eq_true rfl, Nat.le_of_ble_eq_true rfl⟩, k_⟩)
    exact ⟨by rw [show v_106 I J Z x y v = false from by unfold v_106; rw [if_pos h1]] <;> rfl, rfl⟩
  · refine w_R.go (c' := (i_br .gt x v 14 10, [(0, .int x), (1, .int y), (2, .int v)], [], (I, J, kR w rem, Z), 0, 0)) 3 ?_ (fun m_ x_ Q_ k_ => ⟨trivial, trivial, trivial, k_⟩)
    refine w_R.br_gt (fun h2 => ?_) (fun h2 => ?_)
    · refine w_R.ret 2 (.inl (some (.int 0))) (I, J, kR w rem, Z) ?_ (fun x_ Q_ k_ => ⟨trivial, Or.inl rfl, ⟨Nat.le_of_ble_eq_true rfl, Nat.le_of_ble_eq_true rfl⟩, k_⟩)
      exact ⟨by rw [show v_106 I J Z x y v = false from by unfold v_106; rw [if_neg h1, if_pos h2]] <;> rfl, rfl⟩
    · refine w_R.ret 3 (.inl (some (.int 1))) (I, J, kR w rem, Z) ?_ (fun x_ Q_ k_ => ⟨trivial, trivial, Or.inr rfl, ⟨Nat.le_of_ble_eq_true rfl, Nat.le_of_ble_eq_true rfl⟩, k_⟩)
      exact ⟨by rw [show v_106 I J Z x y v = true from by unfold v_106; rw [if_neg h1, if_neg h2]] <;> rfl, rfl⟩
end Small2
