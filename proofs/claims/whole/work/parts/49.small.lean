section Small4
variable {xs : Nat → Int32} {Ln : Nat} {I : Nat → Nat → Int32} {J : Nat → Nat → Int64} {Z : Nat → Nat → Bool} {w : Nat → Nat} {rem : Nat}
def l_rg (x : Int32) (a b : Nat) : Bool := decide ((a : Int) ≤ x.toInt ∧ x.toInt < (b : Int))
theorem l_rg0 (x : Int32) (n : Nat) : l_in x n = l_rg x 0 n := rfl
theorem l_no {x lo hi : Int32} {a b : Nat} (c : l_rg x a b = false) (h0 : ¬ x < lo) (h1 : ¬ hi < x) (e0 : lo.toInt = (a : Int)) (e1 : hi.toInt + 1 = (b : Int)) : False := by
  have c := of_decide_eq_false c
  rw [Int32.lt_iff_toInt_lt] at h0 h1
  omega
theorem l_noN {x : Int32} {n : Nat} (c : l_rg x 0 n = false) (h0 : ¬ x < 0) (h1 : x < Int32.ofNat n) (hn : n < 2 ^ 31) : False := by
  have c := of_decide_eq_false c
  rw [Int32.lt_iff_toInt_lt] at h0 h1
  rw [n_int hn] at h1
  have : (0 : Int32).toInt = 0 := rfl
  omega
theorem l_sub {x : Int32} {a b c d : Nat} (h : l_rg x a b = false) (h1 : a ≤ c) (h2 : d ≤ b) : l_rg x c d = false := by
  have h := of_decide_eq_false h
  exact decide_eq_false (by omega)
theorem l_of2 {x : Int32} {a b : Nat} (h : l_rg x a b = true) : ∃ k, (a ≤ k ∧ k < b) ∧ x = Int32.ofNat k := by
  have h := of_decide_eq_true h
  obtain ⟨k, hk, e⟩ := n_of (x := x) (n := b) (by omega) h.2
  refine ⟨k, ⟨?_, hk⟩, e⟩
  have hb : x.toInt < 2 ^ 31 := by have := Int32.toInt_lt x; omega
  have h0 : 0 ≤ x.toInt := by omega
  obtain ⟨k', hk', e'⟩ := n_of (x := x) (n := 2 ^ 31) h0 (by omega)
  have h1 : (Int32.ofNat k').toInt = k' := n_int hk'
  rw [← e'] at h1
  by_cases hk2 : k < 2 ^ 31
  · have h2 : (Int32.ofNat k).toInt = k := n_int hk2
    rw [← e] at h2
    omega
  · omega
theorem d_28F (x : Int32) (h : l_rg x 0 12 = false) : w_R xs Ln 28 (0, [(0, .int x)], [], (I, J, kR w rem, Z), 0, 0) (fun o s => o = .inl (some (.int (s_b false))) ∧ s = (I, J, kR w rem, Z)) := by
  have h1 := d_28 (xs := xs) (Ln := Ln) (I := I) (J := J) (Z := Z) (w := w) (rem := rem) x
  rw [l_rg0, h] at h1
  exact h1
theorem d_29F (x : Int32) (h : l_rg x 0 4 = false) : w_R xs Ln 29 (0, [(0, .int x)], [], (I, J, kR w rem, Z), 0, 0) (fun o s => o = .inl (some (.int (s_b false))) ∧ s = (I, J, kR w rem, Z)) := by
  have h1 := d_29 (xs := xs) (Ln := Ln) (I := I) (J := J) (Z := Z) (w := w) (rem := rem) x
  rw [l_rg0, h] at h1
  exact h1
theorem d_30F (x : Int32) (h : l_rg x 0 16 = false) : w_R xs Ln 30 (0, [(0, .int x)], [], (I, J, kR w rem, Z), 0, 0) (fun o s => o = .inl (some (.int (s_b false))) ∧ s = (I, J, kR w rem, Z)) := by
  have h1 := d_30 (xs := xs) (Ln := Ln) (I := I) (J := J) (Z := Z) (w := w) (rem := rem) x
  rw [l_rg0, h] at h1
  exact h1
theorem d_31F (x : Int32) (h : l_rg x 0 6 = false) : w_R xs Ln 31 (0, [(0, .int x)], [], (I, J, kR w rem, Z), 0, 0) (fun o s => o = .inl (some (.int (s_b false))) ∧ s = (I, J, kR w rem, Z)) := by
  have h1 := d_31 (xs := xs) (Ln := Ln) (I := I) (J := J) (Z := Z) (w := w) (rem := rem) x
  rw [l_rg0, h] at h1
  exact h1
theorem d_32F (x : Int32) (h : l_rg x 0 2 = false) : w_R xs Ln 32 (0, [(0, .int x)], [], (I, J, kR w rem, Z), 0, 0) (fun o s => o = .inl (some (.int (s_b false))) ∧ s = (I, J, kR w rem, Z)) := by
  have h1 := d_32 (xs := xs) (Ln := Ln) (I := I) (J := J) (Z := Z) (w := w) (rem := rem) x
  rw [l_rg0, h] at h1
  exact h1
theorem d_33F (x : Int32) (h : l_rg x 0 16 = false) : w_R xs Ln 33 (0, [(0, .int x)], [], (I, J, kR w rem, Z), 0, 0) (fun o s => o = .inl (some (.int (s_b false))) ∧ s = (I, J, kR w rem, Z)) := by
  have h1 := d_33 (xs := xs) (Ln := Ln) (I := I) (J := J) (Z := Z) (w := w) (rem := rem) x
  rw [l_rg0, h] at h1
  exact h1
theorem d_106T (k a b : Nat) (h1 : a ≤ k) (h2 : k ≤ b) (h3 : b < 2 ^ 31) : w_R xs Ln 106 (0, [(0, .int (Int32.ofNat k)), (1, .int (Int32.ofNat a)), (2, .int (Int32.ofNat b))], [], (I, J, kR w rem, Z), 0, 0) (fun o s => o = .inl (some (.int (s_b true))) ∧ s = (I, J, kR w rem, Z)) := by
  have h := d_106 (xs := xs) (Ln := Ln) (I := I) (J := J) (Z := Z) (w := w) (rem := rem) (Int32.ofNat k) (Int32.ofNat a) (Int32.ofNat b)
  rw [show v_106 I J Z (Int32.ofNat k) (Int32.ofNat a) (Int32.ofNat b) = true from by unfold v_106; rw [if_neg (mt (n_lt (by omega) (by omega)).mp (by omega)), if_neg (mt (n_lt (by omega) (by omega)).mp (by omega))]] at h
  exact h
theorem v_106L (x : Int32) (a b : Nat) (ha : a < 2 ^ 31) (hb : b < 2 ^ 31) : v_106 I J Z x (Int32.ofNat a) (Int32.ofNat b) = l_rg x a (b + 1) := by
  unfold v_106 l_rg
  by_cases h1 : x < Int32.ofNat a
  · rw [if_pos h1]; rw [Int32.lt_iff_toInt_lt, n_int ha] at h1; exact (decide_eq_false (by omega)).symm
  · rw [if_neg h1]; rw [Int32.lt_iff_toInt_lt, n_int ha] at h1
    by_cases h2 : Int32.ofNat b < x
    · rw [if_pos h2]; rw [Int32.lt_iff_toInt_lt, n_int hb] at h2; exact (decide_eq_false (by omega)).symm
    · rw [if_neg h2]; rw [Int32.lt_iff_toInt_lt, n_int hb] at h2; exact (decide_eq_true (by omega)).symm
theorem d_106L (x : Int32) (a b : Nat) (ha : a < 2 ^ 31) (hb : b < 2 ^ 31) : w_R xs Ln 106 (0, [(0, .int x), (1, .int (Int32.ofNat a)), (2, .int (Int32.ofNat b))], [], (I, J, kR w rem, Z), 0, 0) (fun o s => o = .inl (some (.int (s_b (l_rg x a (b + 1))))) ∧ s = (I, J, kR w rem, Z)) := by
  have h := d_106 (xs := xs) (Ln := Ln) (I := I) (J := J) (Z := Z) (w := w) (rem := rem) x (Int32.ofNat a) (Int32.ofNat b)
  rw [v_106L x a b ha hb] at h
  exact h
theorem d_106F (x : Int32) (a b : Nat) (ha : a < 2 ^ 31) (hb : b < 2 ^ 31) (hx : l_rg x a (b + 1) = false) : w_R xs Ln 106 (0, [(0, .int x), (1, .int (Int32.ofNat a)), (2, .int (Int32.ofNat b))], [], (I, J, kR w rem, Z), 0, 0) (fun o s => o = .inl (some (.int (s_b false))) ∧ s = (I, J, kR w rem, Z)) := by
  have h := d_106L (xs := xs) (Ln := Ln) (I := I) (J := J) (Z := Z) (w := w) (rem := rem) x a b ha hb
  rw [hx] at h
  exact h
theorem d_107N (k : Nat) (hk : k < 12) : w_R xs Ln 107 (0, [(0, .int (Int32.ofNat k))], [], (I, J, kR w rem, Z), 0, 0) (fun o s => o = .inl (some (.int (s_b true))) ∧ s = (I, J, kR w rem, Z)) := by
  refine w_R.go (c' := (4, [(0, .int (Int32.ofNat k))], [.int 11, .int 0, .int (Int32.ofNat k)], (I, J, kR w rem, Z), 0, 0)) 3 ?_ (fun m_ x_ Q_ k_ => ⟨trivial, trivial, trivial, k_⟩)
  refine w_R.callS (ce' := 0) (sl' := 0) (v := some (.int (s_b true))) (σ' := (I, J, kR w rem, Z)) (as := [.int (Int32.ofNat k), .int 0, .int 11]) (rest := []) (d_106T k 0 11 (by omega) (by omega) (by decide)) ?_ rfl rfl rfl rfl rfl rfl rfl rfl rfl
  show w_R xs Ln 107 (7, [(0, .int (Int32.ofNat k))], [.int (s_b true)], (I, J, kR w rem, Z), 0, 0) _
  refine w_R.ret 1 (.inl (some (.int (s_b true)))) (I, J, kR w rem, Z) ?_ (fun x_ Q_ k_ => ⟨Or.inr rfl, ⟨Nat.le_of_ble_eq_true rfl, Nat.le_of_ble_eq_true rfl⟩, k_⟩)
  exact ⟨rfl, rfl⟩
theorem d_107F (x : Int32) (hx : l_rg x 0 12 = false) : w_R xs Ln 107 (0, [(0, .int x)], [], (I, J, kR w rem, Z), 0, 0) (fun o s => o = .inl (some (.int (s_b false))) ∧ s = (I, J, kR w rem, Z)) := by
  refine w_R.go (c' := (4, [(0, .int x)], [.int 11, .int 0, .int x], (I, J, kR w rem, Z), 0, 0)) 3 ?_ (fun m_ x_ Q_ k_ => ⟨trivial, trivial, trivial, k_⟩)
  refine w_R.callS (ce' := 0) (sl' := 0) (v := some (.int (s_b false))) (σ' := (I, J, kR w rem, Z)) (as := [.int x, .int 0, .int 11]) (rest := []) (d_106F x 0 11 (by decide) (by decide) hx) ?_ rfl rfl rfl rfl rfl rfl rfl rfl rfl
  show w_R xs Ln 107 (7, [(0, .int x)], [.int (s_b false)], (I, J, kR w rem, Z), 0, 0) _
  refine w_R.ret 1 (.inl (some (.int (s_b false)))) (I, J, kR w rem, Z) ?_ (fun x_ Q_ k_ => ⟨Or.inl rfl, ⟨Nat.le_of_ble_eq_true rfl, Nat.le_of_ble_eq_true rfl⟩, k_⟩)
  exact ⟨rfl, rfl⟩
theorem d_107 (x : Int32)  : w_R xs Ln 107 (0, [(0, .int x)], [], (I, J, kR w rem, Z), 0, 0) (fun o s => o = .inl (some (.int (s_b (l_in x 12)))) ∧ s = (I, J, kR w rem, Z)) := by
  refine w_R.go (c' := (4, [(0, .int x)], [.int 11, .int 0, .int x], (I, J, kR w rem, Z), 0, 0)) 3 ?_ (fun m_ x_ Q_ k_ => ⟨trivial, trivial, trivial, k_⟩)
  refine w_R.callS (ce' := 0) (sl' := 0) (v := some (.int (s_b (l_rg x 0 (11 + 1))))) (σ' := (I, J, kR w rem, Z)) (as := [.int x, .int 0, .int 11]) (rest := []) (d_106L x 0 11 (by decide) (by decide)) ?_ rfl rfl rfl rfl rfl rfl rfl rfl rfl
  show w_R xs Ln 107 (7, [(0, .int x)], [.int (s_b (l_rg x 0 (11 + 1)))], (I, J, kR w rem, Z), 0, 0) _
  refine w_R.ret 1 (.inl (some (.int (s_b (l_rg x 0 (11 + 1)))))) (I, J, kR w rem, Z) ?_ (fun x_ Q_ k_ => ⟨l_b _, ⟨Nat.le_of_ble_eq_true rfl, Nat.le_of_ble_eq_true rfl⟩, k_⟩)
  exact ⟨rfl, rfl⟩
theorem d_108N (k : Nat) (hk : k < 2) : w_R xs Ln 108 (0, [(0, .int (Int32.ofNat k))], [], (I, J, kR w rem, Z), 0, 0) (fun o s => o = .inl (some (.int (s_b true))) ∧ s = (I, J, kR w rem, Z)) := by
  refine w_R.go (c' := (3, [(0, .int (Int32.ofNat k))], [.int 1, .int 0, .int (Int32.ofNat k)], (I, J, kR w rem, Z), 0, 0)) 3 ?_ (fun m_ x_ Q_ k_ => ⟨trivial, trivial, trivial, k_⟩)
  refine w_R.callS (ce' := 0) (sl' := 0) (v := some (.int (s_b true))) (σ' := (I, J, kR w rem, Z)) (as := [.int (Int32.ofNat k), .int 0, .int 1]) (rest := []) (d_106T k 0 1 (by omega) (by omega) (by decide)) ?_ rfl rfl rfl rfl rfl rfl rfl rfl rfl
  show w_R xs Ln 108 (6, [(0, .int (Int32.ofNat k))], [.int (s_b true)], (I, J, kR w rem, Z), 0, 0) _
  refine w_R.ret 1 (.inl (some (.int (s_b true)))) (I, J, kR w rem, Z) ?_ (fun x_ Q_ k_ => ⟨Or.inr rfl, ⟨Nat.le_of_ble_eq_true rfl, Nat.le_of_ble_eq_true rfl⟩, k_⟩)
  exact ⟨rfl, rfl⟩
theorem d_108F (x : Int32) (hx : l_rg x 0 2 = false) : w_R xs Ln 108 (0, [(0, .int x)], [], (I, J, kR w rem, Z), 0, 0) (fun o s => o = .inl (some (.int (s_b false))) ∧ s = (I, J, kR w rem, Z)) := by
  refine w_R.go (c' := (3, [(0, .int x)], [.int 1, .int 0, .int x], (I, J, kR w rem, Z), 0, 0)) 3 ?_ (fun m_ x_ Q_ k_ => ⟨trivial, trivial, trivial, k_⟩)
  refine w_R.callS (ce' := 0) (sl' := 0) (v := some (.int (s_b false))) (σ' := (I, J, kR w rem, Z)) (as := [.int x, .int 0, .int 1]) (rest := []) (d_106F x 0 1 (by decide) (by decide) hx) ?_ rfl rfl rfl rfl rfl rfl rfl rfl rfl
  show w_R xs Ln 108 (6, [(0, .int x)], [.int (s_b false)], (I, J, kR w rem, Z), 0, 0) _
  refine w_R.ret 1 (.inl (some (.int (s_b false)))) (I, J, kR w rem, Z) ?_ (fun x_ Q_ k_ => ⟨Or.inl rfl, ⟨Nat.le_of_ble_eq_true rfl, Nat.le_of_ble_eq_true rfl⟩, k_⟩)
  exact ⟨rfl, rfl⟩
theorem d_108 (x : Int32)  : w_R xs Ln 108 (0, [(0, .int x)], [], (I, J, kR w rem, Z), 0, 0) (fun o s => o = .inl (some (.int (s_b (l_in x 2)))) ∧ s = (I, J, kR w rem, Z)) := by
  refine w_R.go (c' := (3, [(0, .int x)], [.int 1, .int 0, .int x], (I, J, kR w rem, Z), 0, 0)) 3 ?_ (fun m_ x_ Q_ k_ => ⟨trivial, trivial, trivial, k_⟩)
  refine w_R.callS (ce' := 0) (sl' := 0) (v := some (.int (s_b (l_rg x 0 (1 + 1))))) (σ' := (I, J, kR w rem, Z)) (as := [.int x, .int 0, .int 1]) (rest := []) (d_106L x 0 1 (by decide) (by decide)) ?_ rfl rfl rfl rfl rfl rfl rfl rfl rfl
  show w_R xs Ln 108 (6, [(0, .int x)], [.int (s_b (l_rg x 0 (1 + 1)))], (I, J, kR w rem, Z), 0, 0) _
  refine w_R.ret 1 (.inl (some (.int (s_b (l_rg x 0 (1 + 1)))))) (I, J, kR w rem, Z) ?_ (fun x_ Q_ k_ => ⟨l_b _, ⟨Nat.le_of_ble_eq_true rfl, Nat.le_of_ble_eq_true rfl⟩, k_⟩)
  exact ⟨rfl, rfl⟩
theorem d_109N (k : Nat) (hk : k < 6) : w_R xs Ln 109 (0, [(0, .int (Int32.ofNat k))], [], (I, J, kR w rem, Z), 0, 0) (fun o s => o = .inl (some (.int (s_b true))) ∧ s = (I, J, kR w rem, Z)) := by
  refine w_R.go (c' := (3, [(0, .int (Int32.ofNat k))], [.int 5, .int 0, .int (Int32.ofNat k)], (I, J, kR w rem, Z), 0, 0)) 3 ?_ (fun m_ x_ Q_ k_ => ⟨trivial, trivial, trivial, k_⟩)
  refine w_R.callS (ce' := 0) (sl' := 0) (v := some (.int (s_b true))) (σ' := (I, J, kR w rem, Z)) (as := [.int (Int32.ofNat k), .int 0, .int 5]) (rest := []) (d_106T k 0 5 (by omega) (by omega) (by decide)) ?_ rfl rfl rfl rfl rfl rfl rfl rfl rfl
  show w_R xs Ln 109 (6, [(0, .int (Int32.ofNat k))], [.int (s_b true)], (I, J, kR w rem, Z), 0, 0) _
  refine w_R.ret 1 (.inl (some (.int (s_b true)))) (I, J, kR w rem, Z) ?_ (fun x_ Q_ k_ => ⟨Or.inr rfl, ⟨Nat.le_of_ble_eq_true rfl, Nat.le_of_ble_eq_true rfl⟩, k_⟩)
  exact ⟨rfl, rfl⟩
theorem d_109F (x : Int32) (hx : l_rg x 0 6 = false) : w_R xs Ln 109 (0, [(0, .int x)], [], (I, J, kR w rem, Z), 0, 0) (fun o s => o = .inl (some (.int (s_b false))) ∧ s = (I, J, kR w rem, Z)) := by
  refine w_R.go (c' := (3, [(0, .int x)], [.int 5, .int 0, .int x], (I, J, kR w rem, Z), 0, 0)) 3 ?_ (fun m_ x_ Q_ k_ => ⟨trivial, trivial, trivial, k_⟩)
  refine w_R.callS (ce' := 0) (sl' := 0) (v := some (.int (s_b false))) (σ' := (I, J, kR w rem, Z)) (as := [.int x, .int 0, .int 5]) (rest := []) (d_106F x 0 5 (by decide) (by decide) hx) ?_ rfl rfl rfl rfl rfl rfl rfl rfl rfl
  show w_R xs Ln 109 (6, [(0, .int x)], [.int (s_b false)], (I, J, kR w rem, Z), 0, 0) _
  refine w_R.ret 1 (.inl (some (.int (s_b false)))) (I, J, kR w rem, Z) ?_ (fun x_ Q_ k_ => ⟨Or.inl rfl, ⟨Nat.le_of_ble_eq_true rfl, Nat.le_of_ble_eq_true rfl⟩, k_⟩)
  exact ⟨rfl, rfl⟩
theorem d_109 (x : Int32)  : w_R xs Ln 109 (0, [(0, .int x)], [], (I, J, kR w rem, Z), 0, 0) (fun o s => o = .inl (some (.int (s_b (l_in x 6)))) ∧ s = (I, J, kR w rem, Z)) := by
  refine w_R.go (c' := (3, [(0, .int x)], [.int 5, .int 0, .int x], (I, J, kR w rem, Z), 0, 0)) 3 ?_ (fun m_ x_ Q_ k_ => ⟨trivial, trivial, trivial, k_⟩)
  refine w_R.callS (ce' := 0) (sl' := 0) (v := some (.int (s_b (l_rg x 0 (5 + 1))))) (σ' := (I, J, kR w rem, Z)) (as := [.int x, .int 0, .int 5]) (rest := []) (d_106L x 0 5 (by decide) (by decide)) ?_ rfl rfl rfl rfl rfl rfl rfl rfl rfl
  show w_R xs Ln 109 (6, [(0, .int x)], [.int (s_b (l_rg x 0 (5 + 1)))], (I, J, kR w rem, Z), 0, 0) _
  refine w_R.ret 1 (.inl (some (.int (s_b (l_rg x 0 (5 + 1)))))) (I, J, kR w rem, Z) ?_ (fun x_ Q_ k_ => ⟨l_b _, ⟨Nat.le_of_ble_eq_true rfl, Nat.le_of_ble_eq_true rfl⟩, k_⟩)
  exact ⟨rfl, rfl⟩
theorem d_110N (k : Nat) (hk : k < 4) : w_R xs Ln 110 (0, [(0, .int (Int32.ofNat k))], [], (I, J, kR w rem, Z), 0, 0) (fun o s => o = .inl (some (.int (s_b true))) ∧ s = (I, J, kR w rem, Z)) := by
  refine w_R.go (c' := (3, [(0, .int (Int32.ofNat k))], [.int 3, .int 0, .int (Int32.ofNat k)], (I, J, kR w rem, Z), 0, 0)) 3 ?_ (fun m_ x_ Q_ k_ => ⟨trivial, trivial, trivial, k_⟩)
  refine w_R.callS (ce' := 0) (sl' := 0) (v := some (.int (s_b true))) (σ' := (I, J, kR w rem, Z)) (as := [.int (Int32.ofNat k), .int 0, .int 3]) (rest := []) (d_106T k 0 3 (by omega) (by omega) (by decide)) ?_ rfl rfl rfl rfl rfl rfl rfl rfl rfl
  show w_R xs Ln 110 (6, [(0, .int (Int32.ofNat k))], [.int (s_b true)], (I, J, kR w rem, Z), 0, 0) _
  refine w_R.ret 1 (.inl (some (.int (s_b true)))) (I, J, kR w rem, Z) ?_ (fun x_ Q_ k_ => ⟨Or.inr rfl, ⟨Nat.le_of_ble_eq_true rfl, Nat.le_of_ble_eq_true rfl⟩, k_⟩)
  exact ⟨rfl, rfl⟩
theorem d_110F (x : Int32) (hx : l_rg x 0 4 = false) : w_R xs Ln 110 (0, [(0, .int x)], [], (I, J, kR w rem, Z), 0, 0) (fun o s => o = .inl (some (.int (s_b false))) ∧ s = (I, J, kR w rem, Z)) := by
  refine w_R.go (c' := (3, [(0, .int x)], [.int 3, .int 0, .int x], (I, J, kR w rem, Z), 0, 0)) 3 ?_ (fun m_ x_ Q_ k_ => ⟨trivial, trivial, trivial, k_⟩)
  refine w_R.callS (ce' := 0) (sl' := 0) (v := some (.int (s_b false))) (σ' := (I, J, kR w rem, Z)) (as := [.int x, .int 0, .int 3]) (rest := []) (d_106F x 0 3 (by decide) (by decide) hx) ?_ rfl rfl rfl rfl rfl rfl rfl rfl rfl
  show w_R xs Ln 110 (6, [(0, .int x)], [.int (s_b false)], (I, J, kR w rem, Z), 0, 0) _
  refine w_R.ret 1 (.inl (some (.int (s_b false)))) (I, J, kR w rem, Z) ?_ (fun x_ Q_ k_ => ⟨Or.inl rfl, ⟨Nat.le_of_ble_eq_true rfl, Nat.le_of_ble_eq_true rfl⟩, k_⟩)
  exact ⟨rfl, rfl⟩
theorem d_110 (x : Int32)  : w_R xs Ln 110 (0, [(0, .int x)], [], (I, J, kR w rem, Z), 0, 0) (fun o s => o = .inl (some (.int (s_b (l_in x 4)))) ∧ s = (I, J, kR w rem, Z)) := by
  refine w_R.go (c' := (3, [(0, .int x)], [.int 3, .int 0, .int x], (I, J, kR w rem, Z), 0, 0)) 3 ?_ (fun m_ x_ Q_ k_ => ⟨trivial, trivial, trivial, k_⟩)
  refine w_R.callS (ce' := 0) (sl' := 0) (v := some (.int (s_b (l_rg x 0 (3 + 1))))) (σ' := (I, J, kR w rem, Z)) (as := [.int x, .int 0, .int 3]) (rest := []) (d_106L x 0 3 (by decide) (by decide)) ?_ rfl rfl rfl rfl rfl rfl rfl rfl rfl
  show w_R xs Ln 110 (6, [(0, .int x)], [.int (s_b (l_rg x 0 (3 + 1)))], (I, J, kR w rem, Z), 0, 0) _
  refine w_R.ret 1 (.inl (some (.int (s_b (l_rg x 0 (3 + 1)))))) (I, J, kR w rem, Z) ?_ (fun x_ Q_ k_ => ⟨l_b _, ⟨Nat.le_of_ble_eq_true rfl, Nat.le_of_ble_eq_true rfl⟩, k_⟩)
  exact ⟨rfl, rfl⟩
theorem d_71N (k n : Nat) (hk : k < n) (hn : n ≤ 48) (hc : I 33 1 = Int32.ofNat n) : w_R xs Ln 71 (0, [(0, .ref 33), (1, .int (Int32.ofNat k))], [], (I, J, kR w rem, Z), 0, 0) (fun o s => o = .inl (some (.int (s_b true))) ∧ s = (I, J, kR w rem, Z)) := by
  have h := d_71 (xs := xs) (Ln := Ln) (I := I) (J := J) (Z := Z) (w := w) (rem := rem) (Int32.ofNat k)
  rw [show v_71 I J Z (Int32.ofNat k) = true from by unfold v_71; rw [hc, if_neg (show ¬ Int32.ofNat k < 0 from mt (n_lt (a := k) (b := 0) (by omega) (by omega)).mp (by omega)), if_pos ((n_lt (by omega) (by omega)).mpr hk)]] at h
  exact h
theorem d_71F (x : Int32) (n : Nat) (hx : l_rg x 0 n = false) (hn : n ≤ 48) (hc : I 33 1 = Int32.ofNat n) : w_R xs Ln 71 (0, [(0, .ref 33), (1, .int x)], [], (I, J, kR w rem, Z), 0, 0) (fun o s => o = .inl (some (.int (s_b false))) ∧ s = (I, J, kR w rem, Z)) := by
  have h := d_71 (xs := xs) (Ln := Ln) (I := I) (J := J) (Z := Z) (w := w) (rem := rem) x
  rw [show v_71 I J Z x = false from by
    unfold v_71; rw [hc]
    by_cases h0 : x < 0
    · rw [if_pos h0]
    · rw [if_neg h0, if_neg (fun h1 => l_noN hx h0 h1 (by omega))]] at h
  exact h
end Small4
