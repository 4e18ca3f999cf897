/-! road, whole. -/
section Road
variable {xs : Nat → Int32} {Ln : Nat}
theorem op_0 : ∀ a0 a1 a2, lw_ok xs Ln g_Rel 1 111 [.int a0, .int a1, .int a2] := by
  intro a0 a1 a2 m σ hR hm
  obtain ⟨I, J, Z, w, rem, p, q, n, rfl, hP, hV⟩ := hR
  by_cases c0 : l_rg a0 0 12 = false
  · exact lw_bad (b_1_0 a0 a1 a2 c0) (b_111_0 a0 a1 a2 c0) rfl hP hV
  replace c0 := eq_true_of_ne_false c0
  obtain ⟨f, hf, rfl⟩ := l_of c0
  by_cases c1 : l_rg a1 0 12 = false
  · exact lw_bad (b_1_1 f a1 a2 hf c1) (b_111_1 f a1 a2 hf c1) rfl hP hV
  replace c1 := eq_true_of_ne_false c1
  obtain ⟨t, ht, rfl⟩ := l_of c1
  by_cases c2 : l_rg a2 0 1000 = false
  · exact lw_bad (b_1_2 f t a2 hf ht c2) (b_111_2 f t a2 hf ht c2) rfl hP hV
  replace c2 := eq_true_of_ne_false c2
  obtain ⟨y, hy, rfl⟩ := l_of c2
  have hc := d_1 (I := I) (J := J) (Z := Z) (w := w) (rem := rem) (xs := xs) (Ln := Ln) f t y hf ht hy
  have hd := fun A : Nat → Nat → Int32 => d_111 (I := A) (J := J) (Z := Z) (w := w) (rem := rem) (xs := xs) (Ln := Ln) f t y hf ht hy
  by_cases hft : f = t
  · simp only [v_1, i_1, if_pos hft] at hc
    have hd := hd I
    simp only [v_111, i_111, if_pos hft] at hd
    exact lw_bad hc hd rfl hP hV
  have hk : f * 12 + t < 144 := by omega
  obtain ⟨e0, e1⟩ := hV.R.road (f * 12 + t) hk
  obtain ⟨r0, r1, r2⟩ := hV.R.roads
  generalize hN : g_c (I 5) 144 = N at r1 r2
  obtain ⟨b, hb, eb⟩ := l_of e1
  simp only [v_1, i_1, v_87, i_87, if_neg hft, eb, r1] at hc
  simp only [v_111, i_111, if_neg hft, Nat.mul_comm 12 f] at hd
  have hex : ∀ (A A' : Nat → Nat → Int32) (N' : Nat), (∀ a q, ¬ (a = 2 ∧ q = 3) → ¬ (a = 5 ∧ q = f * 12 + t) → A a q = I a q) → (∀ a q, ¬ (a = 199 ∧ q = 1) → ¬ (a = 200 ∧ q = f * 12 + t) → A' a q = s_up A 199 59 0 a q) → A 5 (f * 12 + t) = Int32.ofNat y → A' 200 (f * 12 + t) = Int32.ofNat y → A 2 3 = Int32.ofNat N' → A' 199 1 = Int32.ofNat N' → N' ≤ 30 →
      N' + (if 0 < b then 1 else 0) = N + (if 0 < y then 1 else 0) → g_V (m + 1) n p A J Z A' J Z := by
    intro A A' N' h1 h2 h3 h4 h5 h6 h7 h8
    have hV1 : g_V m n p I J Z A J Z := hV.cls (fun a k h => h1 a k (by omega) (by omega)) (fun _ _ _ => rfl) (fun _ _ _ => rfl)
    refine (g_road (hV1.thr 0) hk hy h1 h2 h3 h4 N' h5 h6 h7 ?_).mono
    rw [hN, eb]
    by_cases h0 : 0 < b
    · rw [if_pos (n_pos h0 (by omega))]; rw [if_pos h0] at h8; exact h8
    · rw [if_neg (n_npos h0)]; rw [if_neg h0] at h8; exact h8
  have hNb : 0 < b → 1 ≤ N := by
    intro h0
    have h1 := (g_c_up (f := I 5) (f' := fun j => if j = f * 12 + t then 0 else I 5 j) (k0 := f * 12 + t) (fun j hj => if_neg hj) 144).2 hk
    rw [if_pos (show 0 < I 5 (f * 12 + t) by rw [eb]; exact n_pos h0 (by omega)), hN] at h1
    simp only [if_pos] at h1
    rw [if_neg (by decide)] at h1
    omega
  have cl : ∀ (A : Nat → Nat → Int32), (∀ a q, ¬ (a = 2 ∧ q = 3) → ¬ (a = 5 ∧ q = f * 12 + t) → A a q = I a q) → A 200 (f * 12 + t) = Int32.ofNat b ∧ A 199 1 = Int32.ofNat N := fun A h => ⟨(h 200 _ (by omega) (by omega)).trans (e0.symm.trans eb), (h 199 1 (by omega) (by omega)).trans (r0.symm.trans r1)⟩
  have up : ∀ (c : Int32) (a q : Nat), ¬ (a = 2 ∧ q = 3) → ¬ (a = 5 ∧ q = f * 12 + t) → s_up (s_up I 2 3 c) 5 (f * 12 + t) (Int32.ofNat y) a q = I a q := by
    intro c a q h1 h2
    by_cases ha : a = 5
    · subst ha
      rw [s_upk (by omega), s_upa (by omega)]
    · rw [s_upa ha]
      by_cases ha : a = 2
      · subst ha
        exact s_upk (by omega)
      · exact s_upa ha
  have b0 : Int32.ofNat N + 0 = Int32.ofNat N := n_add N 0
  by_cases hb0 : 0 < b
  · have hN1 := hNb hb0
    have nz := n_nz hb0 (by omega)
    by_cases hy0 : 0 < y
    · simp only [if_pos (n_pos hb0 (show b < 2 ^ 31 by omega)), if_pos (n_pos hy0 (show y < 2 ^ 31 by omega)), n_nat1 hN1, n_nat2, Nat.sub_add_cancel hN1, if_neg (show ¬ (30 : Int32) < Int32.ofNat N from mt (n_lt (a := 30) (by omega) (by omega)).mp (by omega)), show (1 : Int32) - 1 = 0 from by decide, b0] at hc
      have hd := hd (s_up (s_up I 2 3 (Int32.ofNat N)) 5 (f * 12 + t) (Int32.ofNat y))
      obtain ⟨q1, q2⟩ := cl _ (up (Int32.ofNat N))
      simp only [q1, q2, if_neg nz, if_pos (n_pos hb0 (show b < 2 ^ 31 by omega)), if_pos hy0, n_nat1 hN1, n_nat2, Nat.sub_add_cancel hN1] at hd
      refine lw_fin (n := n) hc hd rfl hP (hex _ _ N (up _) (fun a q h1 h2 => ?_) (s_upe _ _ _ _) (by simp (disch := omega) only [s_upe, s_upf]) (by simp (disch := omega) only [s_upe, s_upf]) (s_upe _ _ _ _) r2 (by rw [if_pos hb0, if_pos hy0])) (fun a k h => by simp (disch := omega) only [s_upf]) (fun _ _ _ => rfl) (fun _ _ _ => rfl)
      by_cases ha : a = 199
      · subst ha; simp (disch := omega) only [s_upk, s_upf]
      · by_cases ha : a = 200
        · subst ha; simp (disch := omega) only [s_upk, s_upf]
        · simp (disch := omega) only [s_upf]
    · have y0 : y = 0 := by omega
      simp only [if_pos (n_pos hb0 (show b < 2 ^ 31 by omega)), if_neg (n_npos hy0), n_nat1 hN1, n_am, show Int32.ofNat (N - 1) + 0 = Int32.ofNat (N - 1) from n_add _ 0, if_neg (show ¬ (30 : Int32) < Int32.ofNat (N - 1) from mt (n_lt (a := 30) (by omega) (by omega)).mp (by omega))] at hc
      have hd := hd (s_up (s_up I 2 3 (Int32.ofNat (N - 1))) 5 (f * 12 + t) (Int32.ofNat y))
      obtain ⟨q1, q2⟩ := cl _ (up (Int32.ofNat (N - 1)))
      simp only [q1, q2, if_neg nz, if_pos (n_pos hb0 (show b < 2 ^ 31 by omega)), if_neg hy0, n_nat1 hN1] at hd
      refine lw_fin (n := n) hc hd rfl hP (hex _ _ (N - 1) (up _) (fun a q h1 h2 => ?_) (s_upe _ _ _ _) (s_upe _ _ _ _) (by simp (disch := omega) only [s_upe, s_upf]) (by simp (disch := omega) only [s_upe, s_upf]) (by omega) (by rw [if_pos hb0, if_neg hy0]; omega)) (fun a k h => by simp (disch := omega) only [s_upf]) (fun _ _ _ => rfl) (fun _ _ _ => rfl)
      by_cases ha : a = 199
      · subst ha; simp (disch := omega) only [s_upk, s_upf]
      · by_cases ha : a = 200
        · subst ha; simp (disch := omega) only [s_upk, s_upf]
        · simp (disch := omega) only [s_upf]
  · have b00 : b = 0 := by omega
    subst b00
    by_cases hy0 : 0 < y
    · by_cases h30 : N = 30
      · subst h30
        simp only [if_neg (n_npos hb0), if_pos (n_pos hy0 (show y < 2 ^ 31 by omega)), if_pos (show (30 : Int32) < Int32.ofNat 30 - 0 + 1 from by decide)] at hc
        have hd := hd I
        obtain ⟨q1, q2⟩ := cl I (fun _ _ _ _ => rfl)
        simp only [q1, q2, if_pos (show Int32.ofNat 0 = 0 from rfl), if_pos hy0, if_pos (show Int32.ofNat 30 = 30 from rfl)] at hd
        exact lw_bad hc hd rfl hP hV
      · simp only [if_neg (n_npos hb0), if_pos (n_pos hy0 (show y < 2 ^ 31 by omega)), show Int32.ofNat N - 0 = Int32.ofNat N from n_sub (b := 0) (by omega), n_nat2, show (1 : Int32) - 0 = 1 from by decide, if_neg (show ¬ (30 : Int32) < Int32.ofNat (N + 1) from mt (n_lt (a := 30) (by omega) (by omega)).mp (by omega))] at hc
        have hd := hd (s_up (s_up I 2 3 (Int32.ofNat (N + 1))) 5 (f * 12 + t) (Int32.ofNat y))
        obtain ⟨q1, q2⟩ := cl _ (up (Int32.ofNat (N + 1)))
        simp only [q1, q2, if_pos (show Int32.ofNat 0 = 0 from rfl), if_neg (n_npos hb0), if_pos hy0, if_neg (show ¬ Int32.ofNat N = 30 from mt (n_eq (b := 30) (by omega) (by omega)).mp h30), n_nat2] at hd
        refine lw_fin (n := n) hc hd rfl hP (hex _ _ (N + 1) (up _) (fun a q h1 h2 => ?_) (s_upe _ _ _ _) (by simp (disch := omega) only [s_upe, s_upf]) (by simp (disch := omega) only [s_upe, s_upf]) (s_upe _ _ _ _) (by omega) (by rw [if_neg hb0, if_pos hy0])) (fun a k h => by simp (disch := omega) only [s_upf]) (fun _ _ _ => rfl) (fun _ _ _ => rfl)
        by_cases ha : a = 199
        · subst ha; simp (disch := omega) only [s_upk, s_upf]
        · by_cases ha : a = 200
          · subst ha; simp (disch := omega) only [s_upk, s_upf]
          · simp (disch := omega) only [s_upf]
    · simp only [if_neg (n_npos hb0), if_neg (n_npos hy0), show Int32.ofNat N - 0 = Int32.ofNat N from n_sub (b := 0) (by omega), b0, show (0 : Int32) - 0 = 0 from by decide, if_neg (show ¬ (30 : Int32) < Int32.ofNat N from mt (n_lt (a := 30) (by omega) (by omega)).mp (by omega))] at hc
      have hd := hd (s_up (s_up I 2 3 (Int32.ofNat N)) 5 (f * 12 + t) (Int32.ofNat y))
      obtain ⟨q1, q2⟩ := cl _ (up (Int32.ofNat N))
      simp only [q1, q2, if_pos (show Int32.ofNat 0 = 0 from rfl), if_neg (n_npos hb0), if_neg hy0] at hd
      refine lw_fin (n := n) hc hd rfl hP (hex _ _ N (up _) (fun a q h1 h2 => ?_) (s_upe _ _ _ _) (s_upe _ _ _ _) (by simp (disch := omega) only [s_upe, s_upf]) (by simp (disch := omega) only [s_upf]; exact q2) r2 (by rw [if_neg hb0, if_neg hy0])) (fun a k h => by simp (disch := omega) only [s_upf]) (fun _ _ _ => rfl) (fun _ _ _ => rfl)
      by_cases ha : a = 199
      · subst ha; simp (disch := omega) only [s_upk, s_upf]
      · by_cases ha : a = 200
        · subst ha; simp (disch := omega) only [s_upk, s_upf]
        · simp (disch := omega) only [s_upf]
end Road
