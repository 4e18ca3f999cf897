section Ops1
variable {xs : Nat → Int32} {Ln : Nat} {I : Nat → Nat → Int32} {J : Nat → Nat → Int64} {Z : Nat → Nat → Bool} {w : Nat → Nat} {rem : Nat}
def v_133 (I : Nat → Nat → Int32) (J : Nat → Nat → Int64) (Z : Nat → Nat → Bool)  : Int32 := I 199 44
def i_133 (I : Nat → Nat → Int32) (J : Nat → Nat → Int64) (Z : Nat → Nat → Bool)  : Nat → Nat → Int32 := s_up I 199 59 0
theorem d_133   : w_R xs Ln 133 (0, [(0, .ref 199)], [], (I, J, kR w rem, Z), 0, 0) (fun o s => o = .inl (some (.int (v_133 I J Z))) ∧ s = (i_133 I J Z, J, kR w rem, Z)) := by
  refine w_R.go (c' := (9, [(0, .ref 199)], [.int ((s_up I 199 59 0) 199 44)], (s_up I 199 59 0, J, kR w rem, Z), 0, 0)) 5 ?_ (fun m_ x_ Q_ k_ => ⟨trivial, trivial, ⟨sh_199, trivial⟩, trivial, ⟨sh_199, trivial⟩, k_⟩)
  rw [show (s_up I 199 59 0) 199 44 = I 199 44 from (s_upk (by decide))]
  show w_R xs Ln 133 (9, [(0, .ref 199)], [.int (I 199 44)], (s_up I 199 59 0, J, kR w rem, Z), 0, 0) _
  refine w_R.ret 1 (.inl (some (.int (I 199 44)))) (s_up I 199 59 0, J, kR w rem, Z) ?_ (fun x_ Q_ k_ => ⟨trivial, ⟨Nat.le_of_ble_eq_true rfl, Nat.le_of_ble_eq_true rfl⟩, k_⟩)
  exact ⟨by rw [show v_133 I J Z = (I 199 44) from by unfold v_133; rfl] <;> rfl, by rw [show i_133 I J Z = (s_up I 199 59 0) from by unfold i_133; rfl]⟩
theorem op_15 : lw_ok xs Ln 16 133 [] := by
  intro m σ hR hm
  obtain ⟨I, J, Z, w, rem, p, q, n, rfl, hP, hr, hn, h1, h2, hl⟩ := hR
  refine ⟨Int32.ofNat n, (I, J, kR w rem, Z), (s_up I 199 59 0, J, kR w rem, Z), ?_, ?_, g_thr 0 hP hr hn h1 h2 hl⟩
  · have h := d_16 (xs := xs) (Ln := Ln) (I := I) (J := J) (Z := Z) (w := w) (rem := rem)
    rw [show v_16 I J Z = Int32.ofNat n from h1] at h
    exact h
  · have h := d_133 (xs := xs) (Ln := Ln) (I := I) (J := J) (Z := Z) (w := w) (rem := rem)
    rw [show v_133 I J Z = Int32.ofNat n from h2] at h
    exact h
end Ops1
