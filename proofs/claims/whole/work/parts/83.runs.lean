section RunsP
variable {xs : Nat → Int32} {Ln : Nat} {I : Nat → Nat → Int32} {J : Nat → Nat → Int64} {Z : Nat → Nat → Bool} {w : Nat → Nat} {rem : Nat}
theorem kR_up {w : Nat → Nat} {rem k v : Nat} : s_up (kR w rem) 34 k v = kR (fun x => if x = k then v else w x) rem := by
  funext a b
  by_cases ha : a = 34
  · subst ha
    by_cases hb : b = k
    · subst hb; rw [s_upe]; exact (if_pos rfl).symm
    · rw [s_upk hb]; exact (if_neg hb).symm
  · rw [s_upa ha]
    unfold kR
    split <;> first | rfl | contradiction
theorem kR_rm {w : Nat → Nat} {rem v : Nat} : s_up (kR w rem) 33 2 v = kR w v := by
  funext a b
  by_cases ha : a = 33
  · subst ha
    by_cases hb : b = 2
    · subst hb; rw [s_upe]; rfl
    · rw [s_upk hb]
      show (if b = 0 then 34 else if b = 2 then rem else 0) = (if b = 0 then 34 else if b = 2 then v else 0)
      rw [if_neg hb, if_neg hb]
  · rw [s_upa ha]
    unfold kR
    split <;> first | rfl | contradiction
def m_w (w p : Nat → Nat) (i : Nat) : Nat → Nat → Nat
  | 0 => w
  | t + 1 => fun x => if x = i + t then 35 + 2 * p (i + t + 1) else m_w w p i t x
theorem m_w_ge {w p : Nat → Nat} {i x : Nat} : ∀ t, i + t ≤ x → m_w w p i t x = w x
  | 0, _ => rfl
  | t + 1, h => (if_neg (by omega)).trans (m_w_ge t (by omega))
def m_si (X : Nat → Nat → Int32) (i : Nat) : Nat → Nat → Nat → Int32
  | 0 => X
  | t + 1 => i_116 (m_si X i t) (fun _ _ => 0) (fun _ _ => false) (i + t + 1) (i + t)
def m_sj (Y : Nat → Nat → Int64) (i : Nat) : Nat → Nat → Nat → Int64
  | 0 => Y
  | t + 1 => s_up (m_sj Y i t) 255 (i + t) ((m_sj Y i t) 255 (i + t + 1))
theorem l_74 (i : Nat) (c : Nat) (q0 : Nat) (p : Nat → Nat) (hc : I 33 1 = Int32.ofNat c) (hic : i ≤ c) (hc48 : c < 48) (hpl : ∀ i, i < 49 → p i < 50) (hw : ∀ i, i < 49 → w i = 35 + 2 * p i) (hq0 : q0 < 50) : ∀ (f k : Nat), k + f = c - i → ∀ (Q : i_O → s_S → Prop), w_R xs Ln 74 (47, [(3, .int (Int32.ofNat (i + (c - i)))), (2, .ref (35 + 2 * (p i))), (0, .ref 33), (1, .int (Int32.ofNat i))], [], (I, J, kR (m_w w p i (c - i)) (35 + 2 * q0), Z), 0, 0) Q → w_R xs Ln 74 (19, [(3, .int (Int32.ofNat (i + k))), (2, .ref (35 + 2 * (p i))), (0, .ref 33), (1, .int (Int32.ofNat i))], [], (I, J, kR (m_w w p i k) (35 + 2 * q0), Z), 0, 0) Q := by
  intro f
  induction f with
  | zero =>
    intro k hk Q hx
    have e : k = c - i := by omega
    rw [e]
    refine w_R.go (c' := (24, [(3, .int (Int32.ofNat (i + (c - i)))), (2, .ref (35 + 2 * (p i))), (0, .ref 33), (1, .int (Int32.ofNat i))], [.int (I 33 1), .int (Int32.ofNat (i + (c - i)))], (I, J, kR (m_w w p i (c - i)) (35 + 2 * q0), Z), 0, 0)) 3 ?_ (fun m_ x_ Q_ k_ => ⟨trivial, trivial, ⟨sh_33, trivial⟩, k_⟩)
    rw [hc]
    show w_R xs Ln 74 (24, [(3, .int (Int32.ofNat (i + (c - i)))), (2, .ref (35 + 2 * (p i))), (0, .ref 33), (1, .int (Int32.ofNat i))], [.int (Int32.ofNat c), .int (Int32.ofNat (i + (c - i)))], (I, J, kR (m_w w p i (c - i)) (35 + 2 * q0), Z), 0, 0) _
    refine w_R.go (c' := (i_br .ge (Int32.ofNat (i + (c - i))) (Int32.ofNat c) 47 27, [(3, .int (Int32.ofNat (i + (c - i)))), (2, .ref (35 + 2 * (p i))), (0, .ref 33), (1, .int (Int32.ofNat i))], [], (I, J, kR (m_w w p i (c - i)) (35 + 2 * q0), Z), 0, 0)) 1 ?_ (fun m_ x_ Q_ k_ => ⟨trivial, k_⟩)
    rw [show i_br .ge (Int32.ofNat (i + (c - i))) (Int32.ofNat c) 47 27 = 47 from if_pos (Int32.not_lt.mp (mt (n_lt (a := i + (c - i)) (b := c) (by omega) (by omega)).mp (by omega)))]
    show w_R xs Ln 74 (47, [(3, .int (Int32.ofNat (i + (c - i)))), (2, .ref (35 + 2 * (p i))), (0, .ref 33), (1, .int (Int32.ofNat i))], [], (I, J, kR (m_w w p i (c - i)) (35 + 2 * q0), Z), 0, 0) _
    exact hx
  | succ f ih =>
    intro k hk Q hx
    have hkc : i + k < c := by omega
    refine w_R.go (c' := (24, [(3, .int (Int32.ofNat (i + k))), (2, .ref (35 + 2 * (p i))), (0, .ref 33), (1, .int (Int32.ofNat i))], [.int (I 33 1), .int (Int32.ofNat (i + k))], (I, J, kR (m_w w p i k) (35 + 2 * q0), Z), 0, 0)) 3 ?_ (fun m_ x_ Q_ k_ => ⟨trivial, trivial, ⟨sh_33, trivial⟩, k_⟩)
    rw [hc]
    show w_R xs Ln 74 (24, [(3, .int (Int32.ofNat (i + k))), (2, .ref (35 + 2 * (p i))), (0, .ref 33), (1, .int (Int32.ofNat i))], [.int (Int32.ofNat c), .int (Int32.ofNat (i + k))], (I, J, kR (m_w w p i k) (35 + 2 * q0), Z), 0, 0) _
    refine w_R.go (c' := (i_br .ge (Int32.ofNat (i + k)) (Int32.ofNat c) 47 27, [(3, .int (Int32.ofNat (i + k))), (2, .ref (35 + 2 * (p i))), (0, .ref 33), (1, .int (Int32.ofNat i))], [], (I, J, kR (m_w w p i k) (35 + 2 * q0), Z), 0, 0)) 1 ?_ (fun m_ x_ Q_ k_ => ⟨trivial, k_⟩)
    rw [show i_br .ge (Int32.ofNat (i + k)) (Int32.ofNat c) 47 27 = 27 from if_neg (Int32.not_le.mpr ((n_lt (a := i + k) (b := c) (by omega) (by omega)).mpr (by omega)))]
    show w_R xs Ln 74 (27, [(3, .int (Int32.ofNat (i + k))), (2, .ref (35 + 2 * (p i))), (0, .ref 33), (1, .int (Int32.ofNat i))], [], (I, J, kR (m_w w p i k) (35 + 2 * q0), Z), 0, 0) _
    refine w_R.go (c' := (39, [(3, .int (Int32.ofNat (i + k))), (2, .ref (35 + 2 * (p i))), (0, .ref 33), (1, .int (Int32.ofNat i))], [.int (Int32.ofNat (i + k) + Int32.ofNat 1), .ref 34, .int (Int32.ofNat (i + k)), .ref 34], (I, J, kR (m_w w p i k) (35 + 2 * q0), Z), 0, 0)) 8 ?_ (fun m_ x_ Q_ k_ => ⟨trivial, ⟨sh_33, (Nat.succ_ne_zero 33)⟩, trivial, trivial, ⟨sh_33, (Nat.succ_ne_zero 33)⟩, trivial, trivial, trivial, k_⟩)
    rw [n_add (i + k) 1]
    show w_R xs Ln 74 (39, [(3, .int (Int32.ofNat (i + k))), (2, .ref (35 + 2 * (p i))), (0, .ref 33), (1, .int (Int32.ofNat i))], [.int (Int32.ofNat ((i + k) + 1)), .ref 34, .int (Int32.ofNat (i + k)), .ref 34], (I, J, kR (m_w w p i k) (35 + 2 * q0), Z), 0, 0) _
    refine w_R.go (c' := (40, [(3, .int (Int32.ofNat (i + k))), (2, .ref (35 + 2 * (p i))), (0, .ref 33), (1, .int (Int32.ofNat i))], [.ref (kR (m_w w p i k) (35 + 2 * q0) 34 ((Int32.ofNat ((i + k) + 1)).toNatClampNeg)), .int (Int32.ofNat (i + k)), .ref 34], (I, J, kR (m_w w p i k) (35 + 2 * q0), Z), 0, 0)) 1 ?_ (fun m_ x_ Q_ k_ => ⟨⟨⟨_, sh_34, (n_in (a := (i + k) + 1) (by omega) (by decide))⟩, (show kR (m_w w p i k) (35 + 2 * q0) 34 ((Int32.ofNat ((i + k) + 1)).toNatClampNeg) ≠ 0 by rw [n_cl (a := (i + k) + 1) (by omega), show kR (m_w w p i k) (35 + 2 * q0) 34 ((i + k) + 1) = (m_w w p i k) ((i + k) + 1) from rfl, ((m_w_ge (w := w) (p := p) (i := i) (x := i + k + 1) k (by omega)).trans (hw _ (by omega)))]; omega)⟩, k_⟩)
    rw [n_cl (a := (i + k) + 1) (by omega)]
    rw [show kR (m_w w p i k) (35 + 2 * q0) 34 ((i + k) + 1) = (m_w w p i k) ((i + k) + 1) from rfl]
    rw [((m_w_ge (w := w) (p := p) (i := i) (x := i + k + 1) k (by omega)).trans (hw _ (by omega)))]
    show w_R xs Ln 74 (40, [(3, .int (Int32.ofNat (i + k))), (2, .ref (35 + 2 * (p i))), (0, .ref 33), (1, .int (Int32.ofNat i))], [.ref (35 + 2 * (p (i + k + 1))), .int (Int32.ofNat (i + k)), .ref 34], (I, J, kR (m_w w p i k) (35 + 2 * q0), Z), 0, 0) _
    refine w_R.go (c' := (41, [(3, .int (Int32.ofNat (i + k))), (2, .ref (35 + 2 * (p i))), (0, .ref 33), (1, .int (Int32.ofNat i))], [], (I, J, s_up (kR (m_w w p i k) (35 + 2 * q0)) 34 ((Int32.ofNat (i + k)).toNatClampNeg) (35 + 2 * (p (i + k + 1))), Z), 0, 0)) 1 ?_ (fun m_ x_ Q_ k_ => ⟨⟨⟨_, sh_34, (n_in (a := i + k) (by omega) (by decide))⟩, (sh_let (hpl (i + k + 1) (by omega)))⟩, k_⟩)
    rw [n_cl (a := i + k) (by omega)]
    show w_R xs Ln 74 (41, [(3, .int (Int32.ofNat (i + k))), (2, .ref (35 + 2 * (p i))), (0, .ref 33), (1, .int (Int32.ofNat i))], [], (I, J, s_up (kR (m_w w p i k) (35 + 2 * q0)) 34 (i + k) (35 + 2 * (p (i + k + 1))), Z), 0, 0) _
    refine w_R.go (c' := (44, [(3, .int (Int32.ofNat (i + k) + Int32.ofNat 1)), (2, .ref (35 + 2 * (p i))), (0, .ref 33), (1, .int (Int32.ofNat i))], [], (I, J, s_up (kR (m_w w p i k) (35 + 2 * q0)) 34 (i + k) (35 + 2 * (p (i + k + 1))), Z), 0, 0)) 1 ?_ (fun m_ x_ Q_ k_ => ⟨trivial, k_⟩)
    rw [n_add (i + k) 1]
    show w_R xs Ln 74 (44, [(3, .int (Int32.ofNat ((i + k) + 1))), (2, .ref (35 + 2 * (p i))), (0, .ref 33), (1, .int (Int32.ofNat i))], [], (I, J, s_up (kR (m_w w p i k) (35 + 2 * q0)) 34 (i + k) (35 + 2 * (p (i + k + 1))), Z), 0, 0) _
    refine w_R.go (c' := (19, [(3, .int (Int32.ofNat ((i + k) + 1))), (2, .ref (35 + 2 * (p i))), (0, .ref 33), (1, .int (Int32.ofNat i))], [], (I, J, s_up (kR (m_w w p i k) (35 + 2 * q0)) 34 (i + k) (35 + 2 * (p (i + k + 1))), Z), 0, 0)) 1 ?_ (fun m_ x_ Q_ k_ => ⟨trivial, k_⟩)
    rw [kR_up]; exact ih (k + 1) (by omega) Q hx
def m_wf (w p : Nat → Nat) (i n q0 : Nat) : Nat → Nat := fun x => if x = n - 1 then 35 + 2 * q0 else m_w w p i (n - 1 - i) x
theorem d_74 (i : Nat) (n : Nat) (q0 : Nat) (p : Nat → Nat) (hi : i < n) (hn : n ≤ 48) (hcn : I 33 1 = Int32.ofNat n) (hpl : ∀ i, i < 49 → p i < 50) (hw : ∀ i, i < 49 → w i = 35 + 2 * p i) (hq0 : q0 < 50) : w_R xs Ln 74 (0, [(0, .ref 33), (1, .int (Int32.ofNat i))], [], (I, J, kR w (35 + 2 * q0), Z), 0, 0) (fun o s => o = .inl (some (.ref (35 + 2 * (p i)))) ∧ s = (s_up I 33 1 (Int32.ofNat (n - 1)), J, kR (m_wf w p i n q0) (35 + 2 * (p i)), Z)) := by
  refine w_R.go (c' := (6, [(0, .ref 33), (1, .int (Int32.ofNat i))], [.ref (kR w (35 + 2 * q0) 34 ((Int32.ofNat i).toNatClampNeg))], (I, J, kR w (35 + 2 * q0), Z), 0, 0)) 4 ?_ (fun m_ x_ Q_ k_ => ⟨trivial, ⟨sh_33, (Nat.succ_ne_zero 33)⟩, trivial, ⟨⟨_, sh_34, (n_in (a := i) (by omega) (by decide))⟩, (show kR w (35 + 2 * q0) 34 ((Int32.ofNat i).toNatClampNeg) ≠ 0 by rw [n_cl (a := i) (by omega), show kR w (35 + 2 * q0) 34 i = w i from rfl, hw i (by omega)]; omega)⟩, k_⟩)
  rw [n_cl (a := i) (by omega)]
  rw [show kR w (35 + 2 * q0) 34 i = w i from rfl]
  rw [hw i (by omega)]
  show w_R xs Ln 74 (6, [(0, .ref 33), (1, .int (Int32.ofNat i))], [.ref (35 + 2 * (p i))], (I, J, kR w (35 + 2 * q0), Z), 0, 0) _
  refine w_R.go (c' := (12, [(2, .ref (35 + 2 * (p i))), (0, .ref 33), (1, .int (Int32.ofNat i))], [.int (I 33 1), .ref 33], (I, J, kR w (35 + 2 * q0), Z), 0, 0)) 4 ?_ (fun m_ x_ Q_ k_ => ⟨trivial, trivial, trivial, ⟨sh_33, trivial⟩, k_⟩)
  rw [hcn]
  show w_R xs Ln 74 (12, [(2, .ref (35 + 2 * (p i))), (0, .ref 33), (1, .int (Int32.ofNat i))], [.int (Int32.ofNat n), .ref 33], (I, J, kR w (35 + 2 * q0), Z), 0, 0) _
  refine w_R.go (c' := (14, [(2, .ref (35 + 2 * (p i))), (0, .ref 33), (1, .int (Int32.ofNat i))], [.int (Int32.ofNat n - Int32.ofNat 1), .ref 33], (I, J, kR w (35 + 2 * q0), Z), 0, 0)) 2 ?_ (fun m_ x_ Q_ k_ => ⟨trivial, trivial, k_⟩)
  rw [n_sub (a := n) (b := 1) (by omega)]
  show w_R xs Ln 74 (14, [(2, .ref (35 + 2 * (p i))), (0, .ref 33), (1, .int (Int32.ofNat i))], [.int (Int32.ofNat (n - 1)), .ref 33], (I, J, kR w (35 + 2 * q0), Z), 0, 0) _
  refine w_R.go (c' := (19, [(3, .int (Int32.ofNat i)), (2, .ref (35 + 2 * (p i))), (0, .ref 33), (1, .int (Int32.ofNat i))], [], (s_up I 33 1 (Int32.ofNat (n - 1)), J, kR w (35 + 2 * q0), Z), 0, 0)) 3 ?_ (fun m_ x_ Q_ k_ => ⟨⟨sh_33, trivial⟩, trivial, trivial, k_⟩)
  refine l_74 (I := s_up I 33 1 (Int32.ofNat (n - 1))) i (n - 1) q0 p (s_upe _ _ _ _) (by omega) (by omega) hpl hw hq0 (n - 1 - i) 0 (by omega) _ ?_
  refine w_R.go (c' := (55, [(3, .int (Int32.ofNat (i + (n - 1 - i)))), (2, .ref (35 + 2 * (p i))), (0, .ref 33), (1, .int (Int32.ofNat i))], [.int ((s_up I 33 1 (Int32.ofNat (n - 1))) 33 1), .ref 34], (s_up I 33 1 (Int32.ofNat (n - 1)), J, kR (m_w w p i (n - 1 - i)) (35 + 2 * q0), Z), 0, 0)) 4 ?_ (fun m_ x_ Q_ k_ => ⟨trivial, ⟨sh_33, (Nat.succ_ne_zero 33)⟩, trivial, ⟨sh_33, trivial⟩, k_⟩)
  rw [(s_upe _ _ _ _)]
  show w_R xs Ln 74 (55, [(3, .int (Int32.ofNat (i + (n - 1 - i)))), (2, .ref (35 + 2 * (p i))), (0, .ref 33), (1, .int (Int32.ofNat i))], [.int (Int32.ofNat (n - 1)), .ref 34], (s_up I 33 1 (Int32.ofNat (n - 1)), J, kR (m_w w p i (n - 1 - i)) (35 + 2 * q0), Z), 0, 0) _
  refine w_R.go (c' := (60, [(3, .int (Int32.ofNat (i + (n - 1 - i)))), (2, .ref (35 + 2 * (p i))), (0, .ref 33), (1, .int (Int32.ofNat i))], [], (s_up I 33 1 (Int32.ofNat (n - 1)), J, s_up (kR (m_w w p i (n - 1 - i)) (35 + 2 * q0)) 34 ((Int32.ofNat (n - 1)).toNatClampNeg) (35 + 2 * q0), Z), 0, 0)) 3 ?_ (fun m_ x_ Q_ k_ => ⟨trivial, ⟨sh_33, (show 35 + 2 * q0 ≠ 0 by omega)⟩, ⟨⟨_, sh_34, (n_in (a := n - 1) (by omega) (by decide))⟩, (sh_let hq0)⟩, k_⟩)
  rw [n_cl (a := n - 1) (by omega)]
  show w_R xs Ln 74 (60, [(3, .int (Int32.ofNat (i + (n - 1 - i)))), (2, .ref (35 + 2 * (p i))), (0, .ref 33), (1, .int (Int32.ofNat i))], [], (s_up I 33 1 (Int32.ofNat (n - 1)), J, s_up (kR (m_w w p i (n - 1 - i)) (35 + 2 * q0)) 34 (n - 1) (35 + 2 * q0), Z), 0, 0) _
  refine w_R.ret 5 (.inl (some (.ref (35 + 2 * (p i))))) (s_up I 33 1 (Int32.ofNat (n - 1)), J, s_up (s_up (kR (m_w w p i (n - 1 - i)) (35 + 2 * q0)) 34 (n - 1) (35 + 2 * q0)) 33 2 (35 + 2 * (p i)), Z) ?_ (fun x_ Q_ k_ => ⟨trivial, trivial, ⟨sh_33, (show 35 + 2 * (p i) ≠ 0 by omega)⟩, trivial, ⟨Nat.le_of_ble_eq_true rfl, Nat.le_of_ble_eq_true rfl⟩, k_⟩)
  exact ⟨rfl, by rw [kR_up, kR_rm]; rfl⟩
theorem m_si_e {X : Nat → Nat → Int32} {i a q : Nat} (h : a < 242 ∨ 254 < a) : ∀ t, m_si X i t a q = X a q
  | 0 => rfl
  | t + 1 => (q116_e (by omega)).trans (m_si_e h t)
theorem l_129 (i : Nat) (c : Nat) (hc2 : I 199 44 = Int32.ofNat c) (hic : i ≤ c) (hc48 : c < 48) : ∀ (f k : Nat), k + f = c - i → ∀ (Q : i_O → s_S → Prop), w_R xs Ln 129 (55, [(2, .int (Int32.ofNat (i + (c - i)))), (0, .ref 199), (1, .int (Int32.ofNat i))], [], (m_si I i (c - i), m_sj J i (c - i), kR w rem, Z), 0, 0) Q → w_R xs Ln 129 (33, [(2, .int (Int32.ofNat (i + k))), (0, .ref 199), (1, .int (Int32.ofNat i))], [], (m_si I i k, m_sj J i k, kR w rem, Z), 0, 0) Q := by
  intro f
  induction f with
  | zero =>
    intro k hk Q hx
    have e : k = c - i := by omega
    rw [e]
    refine w_R.go (c' := (38, [(2, .int (Int32.ofNat (i + (c - i)))), (0, .ref 199), (1, .int (Int32.ofNat i))], [.int ((m_si I i (c - i)) 199 44), .int (Int32.ofNat (i + (c - i)))], (m_si I i (c - i), m_sj J i (c - i), kR w rem, Z), 0, 0)) 3 ?_ (fun m_ x_ Q_ k_ => ⟨trivial, trivial, ⟨sh_199, trivial⟩, k_⟩)
    rw [((m_si_e (by omega) (c - i)).trans hc2)]
    show w_R xs Ln 129 (38, [(2, .int (Int32.ofNat (i + (c - i)))), (0, .ref 199), (1, .int (Int32.ofNat i))], [.int (Int32.ofNat c), .int (Int32.ofNat (i + (c - i)))], (m_si I i (c - i), m_sj J i (c - i), kR w rem, Z), 0, 0) _
    refine w_R.go (c' := (i_br .ge (Int32.ofNat (i + (c - i))) (Int32.ofNat c) 55 41, [(2, .int (Int32.ofNat (i + (c - i)))), (0, .ref 199), (1, .int (Int32.ofNat i))], [], (m_si I i (c - i), m_sj J i (c - i), kR w rem, Z), 0, 0)) 1 ?_ (fun m_ x_ Q_ k_ => ⟨trivial, k_⟩)
    rw [show i_br .ge (Int32.ofNat (i + (c - i))) (Int32.ofNat c) 55 41 = 55 from if_pos (Int32.not_lt.mp (mt (n_lt (a := i + (c - i)) (b := c) (by omega) (by omega)).mp (by omega)))]
    show w_R xs Ln 129 (55, [(2, .int (Int32.ofNat (i + (c - i)))), (0, .ref 199), (1, .int (Int32.ofNat i))], [], (m_si I i (c - i), m_sj J i (c - i), kR w rem, Z), 0, 0) _
    exact hx
  | succ f ih =>
    intro k hk Q hx
    have hkc : i + k < c := by omega
    refine w_R.go (c' := (38, [(2, .int (Int32.ofNat (i + k))), (0, .ref 199), (1, .int (Int32.ofNat i))], [.int ((m_si I i k) 199 44), .int (Int32.ofNat (i + k))], (m_si I i k, m_sj J i k, kR w rem, Z), 0, 0)) 3 ?_ (fun m_ x_ Q_ k_ => ⟨trivial, trivial, ⟨sh_199, trivial⟩, k_⟩)
    rw [((m_si_e (by omega) k).trans hc2)]
    show w_R xs Ln 129 (38, [(2, .int (Int32.ofNat (i + k))), (0, .ref 199), (1, .int (Int32.ofNat i))], [.int (Int32.ofNat c), .int (Int32.ofNat (i + k))], (m_si I i k, m_sj J i k, kR w rem, Z), 0, 0) _
    refine w_R.go (c' := (i_br .ge (Int32.ofNat (i + k)) (Int32.ofNat c) 55 41, [(2, .int (Int32.ofNat (i + k))), (0, .ref 199), (1, .int (Int32.ofNat i))], [], (m_si I i k, m_sj J i k, kR w rem, Z), 0, 0)) 1 ?_ (fun m_ x_ Q_ k_ => ⟨trivial, k_⟩)
    rw [show i_br .ge (Int32.ofNat (i + k)) (Int32.ofNat c) 55 41 = 41 from if_neg (Int32.not_le.mpr ((n_lt (a := i + k) (b := c) (by omega) (by omega)).mpr (by omega)))]
    show w_R xs Ln 129 (41, [(2, .int (Int32.ofNat (i + k))), (0, .ref 199), (1, .int (Int32.ofNat i))], [], (m_si I i k, m_sj J i k, kR w rem, Z), 0, 0) _
    refine w_R.go (c' := (45, [(2, .int (Int32.ofNat (i + k))), (0, .ref 199), (1, .int (Int32.ofNat i))], [.int (Int32.ofNat (i + k) + Int32.ofNat 1), .ref 199], (m_si I i k, m_sj J i k, kR w rem, Z), 0, 0)) 4 ?_ (fun m_ x_ Q_ k_ => ⟨trivial, trivial, trivial, trivial, k_⟩)
    rw [n_add (i + k) 1]
    show w_R xs Ln 129 (45, [(2, .int (Int32.ofNat (i + k))), (0, .ref 199), (1, .int (Int32.ofNat i))], [.int (Int32.ofNat ((i + k) + 1)), .ref 199], (m_si I i k, m_sj J i k, kR w rem, Z), 0, 0) _
    refine w_R.go (c' := (46, [(2, .int (Int32.ofNat (i + k))), (0, .ref 199), (1, .int (Int32.ofNat i))], [.int (Int32.ofNat (i + k)), .int (Int32.ofNat ((i + k) + 1)), .ref 199], (m_si I i k, m_sj J i k, kR w rem, Z), 0, 0)) 1 ?_ (fun m_ x_ Q_ k_ => ⟨trivial, k_⟩)
    refine w_R.callV (ce' := 0) (sl' := 0) (v := none) (σ' := (i_116 (m_si I i k) (m_sj J i k) Z ((i + k) + 1) (i + k), j_116 (m_si I i k) (m_sj J i k) Z ((i + k) + 1) (i + k), kR w rem, Z)) (as := [.ref 199, .int (Int32.ofNat ((i + k) + 1)), .int (Int32.ofNat (i + k))]) (rest := []) (d_116 ((i + k) + 1) (i + k) (by omega) (by omega)) ?_ rfl rfl rfl rfl rfl sh_199 rfl rfl rfl rfl
    show w_R xs Ln 129 (49, [(2, .int (Int32.ofNat (i + k))), (0, .ref 199), (1, .int (Int32.ofNat i))], [], (i_116 (m_si I i k) (m_sj J i k) Z ((i + k) + 1) (i + k), j_116 (m_si I i k) (m_sj J i k) Z ((i + k) + 1) (i + k), kR w rem, Z), 0, 0) _
    refine w_R.go (c' := (52, [(2, .int (Int32.ofNat (i + k) + Int32.ofNat 1)), (0, .ref 199), (1, .int (Int32.ofNat i))], [], (i_116 (m_si I i k) (m_sj J i k) Z ((i + k) + 1) (i + k), j_116 (m_si I i k) (m_sj J i k) Z ((i + k) + 1) (i + k), kR w rem, Z), 0, 0)) 1 ?_ (fun m_ x_ Q_ k_ => ⟨trivial, k_⟩)
    rw [n_add (i + k) 1]
    show w_R xs Ln 129 (52, [(2, .int (Int32.ofNat ((i + k) + 1))), (0, .ref 199), (1, .int (Int32.ofNat i))], [], (i_116 (m_si I i k) (m_sj J i k) Z ((i + k) + 1) (i + k), j_116 (m_si I i k) (m_sj J i k) Z ((i + k) + 1) (i + k), kR w rem, Z), 0, 0) _
    refine w_R.go (c' := (33, [(2, .int (Int32.ofNat ((i + k) + 1))), (0, .ref 199), (1, .int (Int32.ofNat i))], [], (i_116 (m_si I i k) (m_sj J i k) Z ((i + k) + 1) (i + k), j_116 (m_si I i k) (m_sj J i k) Z ((i + k) + 1) (i + k), kR w rem, Z), 0, 0)) 1 ?_ (fun m_ x_ Q_ k_ => ⟨trivial, k_⟩)
    exact ih (k + 1) (by omega) Q hx
theorem d_129 (i : Nat) (n : Nat) (hi : i < n) (hn : n ≤ 48) (hcn : I 199 44 = Int32.ofNat n) : w_R xs Ln 129 (0, [(0, .ref 199), (1, .int (Int32.ofNat i))], [], (I, J, kR w rem, Z), 0, 0) (fun o s => o = .inl (some (.int 1)) ∧ s = (m_si (s_up (i_116 I J Z i 48) 199 44 (Int32.ofNat (n - 1))) i (n - 1 - i), m_sj (j_116 I J Z i 48) i (n - 1 - i), kR w rem, Z)) := by
  refine w_R.go (c' := (i_br .lt (Int32.ofNat i) 0 12 4, [(0, .ref 199), (1, .int (Int32.ofNat i))], [], (I, J, kR w rem, Z), 0, 0)) 2 ?_ (fun m_ x_ Q_ k_ => ⟨trivial, trivial, k_⟩)
  rw [show i_br .lt (Int32.ofNat i) 0 12 4 = 4 from if_neg (mt (n_lt (a := i) (b := 0) (by omega) (by omega)).mp (by omega))]
  show w_R xs Ln 129 (4, [(0, .ref 199), (1, .int (Int32.ofNat i))], [], (I, J, kR w rem, Z), 0, 0) _
  refine w_R.go (c' := (9, [(0, .ref 199), (1, .int (Int32.ofNat i))], [.int (I 199 44), .int (Int32.ofNat i)], (I, J, kR w rem, Z), 0, 0)) 3 ?_ (fun m_ x_ Q_ k_ => ⟨trivial, trivial, ⟨sh_199, trivial⟩, k_⟩)
  rw [hcn]
  show w_R xs Ln 129 (9, [(0, .ref 199), (1, .int (Int32.ofNat i))], [.int (Int32.ofNat n), .int (Int32.ofNat i)], (I, J, kR w rem, Z), 0, 0) _
  refine w_R.go (c' := (i_br .lt (Int32.ofNat i) (Int32.ofNat n) 14 12, [(0, .ref 199), (1, .int (Int32.ofNat i))], [], (I, J, kR w rem, Z), 0, 0)) 1 ?_ (fun m_ x_ Q_ k_ => ⟨trivial, k_⟩)
  rw [show i_br .lt (Int32.ofNat i) (Int32.ofNat n) 14 12 = 14 from if_pos ((n_lt (a := i) (b := n) (by omega) (by omega)).mpr (by omega))]
  show w_R xs Ln 129 (14, [(0, .ref 199), (1, .int (Int32.ofNat i))], [], (I, J, kR w rem, Z), 0, 0) _
  refine w_R.go (c' := (18, [(0, .ref 199), (1, .int (Int32.ofNat i))], [.int 48, .int (Int32.ofNat i), .ref 199], (I, J, kR w rem, Z), 0, 0)) 3 ?_ (fun m_ x_ Q_ k_ => ⟨trivial, trivial, trivial, k_⟩)
  refine w_R.callV (ce' := 0) (sl' := 0) (v := none) (σ' := (i_116 I J Z i 48, j_116 I J Z i 48, kR w rem, Z)) (as := [.ref 199, .int (Int32.ofNat i), .int 48]) (rest := []) (d_116 i 48 (by omega) (by omega)) ?_ rfl rfl rfl rfl rfl sh_199 rfl rfl rfl rfl
  show w_R xs Ln 129 (21, [(0, .ref 199), (1, .int (Int32.ofNat i))], [], (i_116 I J Z i 48, j_116 I J Z i 48, kR w rem, Z), 0, 0) _
  refine w_R.go (c' := (26, [(0, .ref 199), (1, .int (Int32.ofNat i))], [.int ((i_116 I J Z i 48) 199 44), .ref 199], (i_116 I J Z i 48, j_116 I J Z i 48, kR w rem, Z), 0, 0)) 3 ?_ (fun m_ x_ Q_ k_ => ⟨trivial, trivial, ⟨sh_199, trivial⟩, k_⟩)
  rw [show (i_116 I J Z i 48) 199 44 = I 199 44 from (q116_e (by omega))]
  rw [hcn]
  show w_R xs Ln 129 (26, [(0, .ref 199), (1, .int (Int32.ofNat i))], [.int (Int32.ofNat n), .ref 199], (i_116 I J Z i 48, j_116 I J Z i 48, kR w rem, Z), 0, 0) _
  refine w_R.go (c' := (28, [(0, .ref 199), (1, .int (Int32.ofNat i))], [.int (Int32.ofNat n - Int32.ofNat 1), .ref 199], (i_116 I J Z i 48, j_116 I J Z i 48, kR w rem, Z), 0, 0)) 2 ?_ (fun m_ x_ Q_ k_ => ⟨trivial, trivial, k_⟩)
  rw [n_sub (a := n) (b := 1) (by omega)]
  show w_R xs Ln 129 (28, [(0, .ref 199), (1, .int (Int32.ofNat i))], [.int (Int32.ofNat (n - 1)), .ref 199], (i_116 I J Z i 48, j_116 I J Z i 48, kR w rem, Z), 0, 0) _
  refine w_R.go (c' := (33, [(2, .int (Int32.ofNat i)), (0, .ref 199), (1, .int (Int32.ofNat i))], [], (s_up (i_116 I J Z i 48) 199 44 (Int32.ofNat (n - 1)), j_116 I J Z i 48, kR w rem, Z), 0, 0)) 3 ?_ (fun m_ x_ Q_ k_ => ⟨⟨sh_199, trivial⟩, trivial, trivial, k_⟩)
  refine l_129 (I := s_up (i_116 I J Z i 48) 199 44 (Int32.ofNat (n - 1))) (J := j_116 I J Z i 48) i (n - 1) (s_upe _ _ _ _) (by omega) (by omega) (n - 1 - i) 0 (by omega) _ ?_
  refine w_R.ret 2 (.inl (some (.int 1))) (m_si (s_up (i_116 I J Z i 48) 199 44 (Int32.ofNat (n - 1))) i (n - 1 - i), m_sj (j_116 I J Z i 48) i (n - 1 - i), kR w rem, Z) ?_ (fun x_ Q_ k_ => ⟨trivial, Or.inr rfl, ⟨Nat.le_of_ble_eq_true rfl, Nat.le_of_ble_eq_true rfl⟩, k_⟩)
  exact ⟨rfl, rfl⟩
theorem b_129_0 (i : Int32) (n : Nat) (hi : l_rg i 0 n = false) (hn : n ≤ 48) (hc2 : I 199 44 = Int32.ofNat n) : w_R xs Ln 129 (0, [(0, .ref 199), (1, .int i)], [], (I, J, kR w rem, Z), 0, 0) (fun o s => o = .inl (some (.int 0)) ∧ s = (I, J, kR w rem, Z)) := by
  refine w_R.go (c' := (i_br .lt i 0 12 4, [(0, .ref 199), (1, .int i)], [], (I, J, kR w rem, Z), 0, 0)) 2 ?_ (fun m_ x_ Q_ k_ => ⟨trivial, trivial, k_⟩)
  refine w_R.br_lt (fun h1 => ?_) (fun h1 => ?_)
  · refine w_R.ret 2 (.inl (some (.int 0))) (I, J, kR w rem, Z) ?_ (fun x_ Q_ k_ => ⟨trivial, Or.inl rfl, ⟨Nat.le_of_ble_eq_true rfl, Nat.le_of_ble_eq_true rfl⟩, k_⟩)
    exact ⟨rfl, rfl⟩
  · refine w_R.go (c' := (9, [(0, .ref 199), (1, .int i)], [.int (I 199 44), .int i], (I, J, kR w rem, Z), 0, 0)) 3 ?_ (fun m_ x_ Q_ k_ => ⟨trivial, trivial, ⟨sh_199, trivial⟩, k_⟩)
    rw [hc2]
    show w_R xs Ln 129 (9, [(0, .ref 199), (1, .int i)], [.int (Int32.ofNat n), .int i], (I, J, kR w rem, Z), 0, 0) _
    refine w_R.go (c' := (i_br .lt i (Int32.ofNat n) 14 12, [(0, .ref 199), (1, .int i)], [], (I, J, kR w rem, Z), 0, 0)) 1 ?_ (fun m_ x_ Q_ k_ => ⟨trivial, k_⟩)
    refine w_R.br_lt (fun h2 => ?_) (fun h2 => ?_)
    · exact (l_noN hi h1 h2 (by omega)).elim
    · refine w_R.ret 2 (.inl (some (.int 0))) (I, J, kR w rem, Z) ?_ (fun x_ Q_ k_ => ⟨trivial, Or.inl rfl, ⟨Nat.le_of_ble_eq_true rfl, Nat.le_of_ble_eq_true rfl⟩, k_⟩)
      exact ⟨rfl, rfl⟩
theorem b_131_0 (i : Int32) (n : Nat) (hi : l_rg i 0 n = false) (hn : n ≤ 48) (hc2 : I 199 44 = Int32.ofNat n) : w_R xs Ln 131 (0, [(0, .ref 199), (1, .int i)], [], (I, J, kR w rem, Z), 0, 0) (fun o s => o = .inl (some (.int 0)) ∧ s = (s_up I 199 59 0, J, kR w rem, Z)) := by
  refine w_R.go (c' := (7, [(0, .ref 199), (1, .int i)], [.int i, .ref 199], (s_up I 199 59 0, J, kR w rem, Z), 0, 0)) 5 ?_ (fun m_ x_ Q_ k_ => ⟨trivial, trivial, ⟨sh_199, trivial⟩, trivial, trivial, k_⟩)
  refine w_R.callV (ce' := 0) (sl' := 0) (v := some (.int 0)) (σ' := (s_up I 199 59 0, J, kR w rem, Z)) (as := [.ref 199, .int i]) (rest := []) (b_129_0 i n hi hn (by first | exact hc2 | (simp (disch := omega) only [s_upf]; exact hc2))) ?_ rfl rfl rfl rfl rfl sh_199 rfl rfl rfl rfl
  show w_R xs Ln 131 (10, [(0, .ref 199), (1, .int i)], [.int 0], (s_up I 199 59 0, J, kR w rem, Z), 0, 0) _
  refine w_R.ret 1 (.inl (some (.int 0))) (s_up I 199 59 0, J, kR w rem, Z) ?_ (fun x_ Q_ k_ => ⟨Or.inl rfl, ⟨Nat.le_of_ble_eq_true rfl, Nat.le_of_ble_eq_true rfl⟩, k_⟩)
  exact ⟨rfl, rfl⟩
theorem d_131 (i : Nat) (n : Nat) (hi : i < n) (hn : n ≤ 48) (hc2 : I 199 44 = Int32.ofNat n) : w_R xs Ln 131 (0, [(0, .ref 199), (1, .int (Int32.ofNat i))], [], (I, J, kR w rem, Z), 0, 0) (fun o s => o = .inl (some (.int 1)) ∧ s = (m_si (s_up (i_116 (s_up I 199 59 0) J Z i 48) 199 44 (Int32.ofNat (n - 1))) i (n - 1 - i), m_sj (j_116 (s_up I 199 59 0) J Z i 48) i (n - 1 - i), kR w rem, Z)) := by
  refine w_R.go (c' := (7, [(0, .ref 199), (1, .int (Int32.ofNat i))], [.int (Int32.ofNat i), .ref 199], (s_up I 199 59 0, J, kR w rem, Z), 0, 0)) 5 ?_ (fun m_ x_ Q_ k_ => ⟨trivial, trivial, ⟨sh_199, trivial⟩, trivial, trivial, k_⟩)
  refine w_R.callV (ce' := 0) (sl' := 0) (v := some (.int 1)) (σ' := (m_si (s_up (i_116 (s_up I 199 59 0) J Z i 48) 199 44 (Int32.ofNat (n - 1))) i (n - 1 - i), m_sj (j_116 (s_up I 199 59 0) J Z i 48) i (n - 1 - i), kR w rem, Z)) (as := [.ref 199, .int (Int32.ofNat i)]) (rest := []) (d_129 i n hi hn (by first | exact hc2 | (simp (disch := omega) only [s_upf]; exact hc2))) ?_ rfl rfl rfl rfl rfl sh_199 rfl rfl rfl rfl
  show w_R xs Ln 131 (10, [(0, .ref 199), (1, .int (Int32.ofNat i))], [.int 1], (m_si (s_up (i_116 (s_up I 199 59 0) J Z i 48) 199 44 (Int32.ofNat (n - 1))) i (n - 1 - i), m_sj (j_116 (s_up I 199 59 0) J Z i 48) i (n - 1 - i), kR w rem, Z), 0, 0) _
  refine w_R.ret 1 (.inl (some (.int 1))) (m_si (s_up (i_116 (s_up I 199 59 0) J Z i 48) 199 44 (Int32.ofNat (n - 1))) i (n - 1 - i), m_sj (j_116 (s_up I 199 59 0) J Z i 48) i (n - 1 - i), kR w rem, Z) ?_ (fun x_ Q_ k_ => ⟨Or.inr rfl, ⟨Nat.le_of_ble_eq_true rfl, Nat.le_of_ble_eq_true rfl⟩, k_⟩)
  exact ⟨rfl, rfl⟩
theorem b_19_0 (i : Int32) (n : Nat) (hi : l_rg i 0 n = false) (hn : n ≤ 48) (hc : I 33 1 = Int32.ofNat n) : w_R xs Ln 19 (0, [(0, .ref 1), (1, .int i)], [], (I, J, kR w rem, Z), 0, 0) (fun o s => o = .inl (some (.int 0)) ∧ s = (I, J, kR w rem, Z)) := by
  refine w_R.go (c' := (5, [(0, .ref 1), (1, .int i)], [.int i, .ref 33], (I, J, kR w rem, Z), 0, 0)) 3 ?_ (fun m_ x_ Q_ k_ => ⟨trivial, ⟨sh_1, (Nat.succ_ne_zero 32)⟩, trivial, k_⟩)
  refine w_R.callV (ce' := 0) (sl' := 0) (v := some (.int (s_b false))) (σ' := (I, J, kR w rem, Z)) (as := [.ref 33, .int i]) (rest := []) (d_71F i n hi (by omega) hc) ?_ rfl rfl rfl rfl rfl sh_33 rfl rfl rfl rfl
  show w_R xs Ln 19 (8, [(0, .ref 1), (1, .int i)], [.int (s_b false)], (I, J, kR w rem, Z), 0, 0) _
  refine w_R.go (c' := (11, [(0, .ref 1), (1, .int i)], [], (I, J, kR w rem, Z), 0, 0)) 1 ?_ (fun m_ x_ Q_ k_ => ⟨trivial, k_⟩)
  refine w_R.ret 2 (.inl (some (.int 0))) (I, J, kR w rem, Z) ?_ (fun x_ Q_ k_ => ⟨trivial, Or.inl rfl, ⟨Nat.le_of_ble_eq_true rfl, Nat.le_of_ble_eq_true rfl⟩, k_⟩)
  exact ⟨rfl, rfl⟩
theorem d_19 (i : Nat) (n : Nat) (q0 : Nat) (p : Nat → Nat) (hi : i < n) (hn : n ≤ 48) (hc : I 33 1 = Int32.ofNat n) (hpl : ∀ i, i < 49 → p i < 50) (hw : ∀ i, i < 49 → w i = 35 + 2 * p i) (hq0 : q0 < 50) : w_R xs Ln 19 (0, [(0, .ref 1), (1, .int (Int32.ofNat i))], [], (I, J, kR w (35 + 2 * q0), Z), 0, 0) (fun o s => o = .inl (some (.int 1)) ∧ s = (s_up I 33 1 (Int32.ofNat (n - 1)), J, kR (m_wf w p i n q0) (35 + 2 * (p i)), Z)) := by
  refine w_R.go (c' := (5, [(0, .ref 1), (1, .int (Int32.ofNat i))], [.int (Int32.ofNat i), .ref 33], (I, J, kR w (35 + 2 * q0), Z), 0, 0)) 3 ?_ (fun m_ x_ Q_ k_ => ⟨trivial, ⟨sh_1, (Nat.succ_ne_zero 32)⟩, trivial, k_⟩)
  refine w_R.callV (ce' := 0) (sl' := 0) (v := some (.int (s_b true))) (σ' := (I, J, kR w (35 + 2 * q0), Z)) (as := [.ref 33, .int (Int32.ofNat i)]) (rest := []) (d_71N i n (by omega) (by omega) hc) ?_ rfl rfl rfl rfl rfl sh_33 rfl rfl rfl rfl
  show w_R xs Ln 19 (8, [(0, .ref 1), (1, .int (Int32.ofNat i))], [.int (s_b true)], (I, J, kR w (35 + 2 * q0), Z), 0, 0) _
  refine w_R.go (c' := (13, [(0, .ref 1), (1, .int (Int32.ofNat i))], [], (I, J, kR w (35 + 2 * q0), Z), 0, 0)) 1 ?_ (fun m_ x_ Q_ k_ => ⟨trivial, k_⟩)
  refine w_R.go (c' := (18, [(0, .ref 1), (1, .int (Int32.ofNat i))], [.int (Int32.ofNat i), .ref 33], (I, J, kR w (35 + 2 * q0), Z), 0, 0)) 3 ?_ (fun m_ x_ Q_ k_ => ⟨trivial, ⟨sh_1, (Nat.succ_ne_zero 32)⟩, trivial, k_⟩)
  refine w_R.callV (ce' := 0) (sl' := 0) (v := some (.ref (35 + 2 * (p i)))) (σ' := (s_up I 33 1 (Int32.ofNat (n - 1)), J, kR (m_wf w p i n q0) (35 + 2 * (p i)), Z)) (as := [.ref 33, .int (Int32.ofNat i)]) (rest := []) (d_74 i n q0 p hi hn hc hpl hw hq0) ?_ rfl rfl rfl rfl rfl sh_33 rfl rfl rfl rfl
  show w_R xs Ln 19 (21, [(0, .ref 1), (1, .int (Int32.ofNat i))], [.ref (35 + 2 * (p i))], (s_up I 33 1 (Int32.ofNat (n - 1)), J, kR (m_wf w p i n q0) (35 + 2 * (p i)), Z), 0, 0) _
  refine w_R.ret 3 (.inl (some (.int 1))) (s_up I 33 1 (Int32.ofNat (n - 1)), J, kR (m_wf w p i n q0) (35 + 2 * (p i)), Z) ?_ (fun x_ Q_ k_ => ⟨trivial, trivial, Or.inr rfl, ⟨Nat.le_of_ble_eq_true rfl, Nat.le_of_ble_eq_true rfl⟩, k_⟩)
  exact ⟨rfl, rfl⟩
end RunsP
