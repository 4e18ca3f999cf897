section Ops2
variable {xs : Nat → Int32} {Ln : Nat}
theorem q48_e {I : Nat → Nat → Int32} {J : Nat → Nat → Int64} {Z : Nat → Nat → Bool} {u n : Nat} {p : Nat → Nat} (hpl : ∀ i, i < 49 → p i < 50) (hn : n ≤ 48) {a k : Nat} (h : a < 33 ∨ 135 ≤ a) (h2 : a ≠ 135 + u) : i_48 I J Z u n p a k = I a k := by
  have h0 := hpl n (by omega)
  have h1 := hpl (g_s n) (Nat.lt_succ_of_le (g_s_le hn))
  unfold i_48
  simp (disch := omega) only [s_upf]
  rw [p72_e (by omega) (by omega)]
  simp (disch := omega) only [s_upf]
  rw [p72_e (by omega) (by omega)]
  exact s_upa h2
theorem q122_e {I : Nat → Nat → Int32} {J : Nat → Nat → Int64} {Z : Nat → Nat → Bool} {u n a k : Nat} (h : a < 199) : i_122 I J Z u n a k = I a k := by
  unfold i_122
  rw [q121_e (by omega) (by omega), q121_e (by omega) (by omega)]
  exact s_upa (by omega)
theorem lw_rep {m n rem : Nat} {I I1 : Nat → Nat → Int32} {J : Nat → Nat → Int64} {Z : Nat → Nat → Bool} {w p : Nat → Nat} {q u j j' : Nat} {as : List Value} {CH CM : Nat → Nat → Int32} (hP : g_P w rem p q) (hV : g_V m n p I J Z I J Z) (hu : u < 6) (e1 : I1 = i_48 CH J Z u n p) (eC : ∀ a k, a ≠ 135 + u → CH a k = I a k) {v : Int32}
    (hc : w_R xs Ln j (0, lv_args 0 (.ref 1 :: as), [], (I, J, kR w rem, Z), 0, 0) (fun o s => o = .inl (some (.int v)) ∧ s = (I1, J, kR w rem, Z)))
    (hd : w_R xs Ln j' (0, lv_args 0 (.ref 199 :: as), [], (I1, J, kR w rem, Z), 0, 0) (fun o s => o = .inl (some (.int v)) ∧ s = (i_122 CM J Z u n, J, kR w rem, Z)))
    (eM : ∀ a k, k ≠ u ∨ a < 208 ∨ 214 < a → CM a k = s_up I1 199 59 0 a k) (hg : CH (135 + u) 0 = CM 210 u ∧ CH (135 + u) 1 = CM 208 u ∧ CH (135 + u) 2 = CM 209 u ∧ CH (135 + u) 3 = CM 213 u ∧ CH (135 + u) 4 = CM 211 u ∧ CH (135 + u) 5 = CM 212 u ∧ CH (135 + u) 6 = CM 214 u ∧ l_in (CM 210 u) 4 = true ∧ l_in (CM 208 u) 12 = true ∧ l_in (CM 212 u) 12 = true) :
    ∃ (v : Int32) (σ1 σ2 : s_S), w_R xs Ln j (0, lv_args 0 (.ref 1 :: as), [], (I, J, kR w rem, Z), 0, 0) (fun o s => o = .inl (some (.int v)) ∧ s = σ1) ∧ w_R xs Ln j' (0, lv_args 0 (.ref 199 :: as), [], σ1, 0, 0) (fun o s => o = .inl (some (.int v)) ∧ s = σ2) ∧ g_Rel (m + 1) σ2 := by
  have hV1 : g_V m n p I J Z I1 J Z := hV.cls (fun a k h => by rw [e1, q48_e hP.lt hV.n (by omega) (by omega)]; exact eC a k (by omega)) (fun _ _ _ => rfl) (fun _ _ _ => rfl)
  have hV2 : g_V m n p CH J Z CM J Z := g_V.unit (hV1.thr 0) hu eC eM hg
  refine lw_fin (n := g_s (g_s n)) hc hd rfl hP (g_V.mono ?_) (fun a k h => ?_) (fun _ _ _ => rfl) (fun _ _ _ => rfl)
  · rw [e1]; exact g_reports hV2 hP.inj hu
  · rw [q122_e h, eM a k (by omega)]; exact s_upa (by omega)
theorem op_5 : ∀ a0 a1, lw_ok xs Ln g_Rel 6 136 [.int a0, .int a1] := by
  intro a0 a1 m σ hR hm
  obtain ⟨I, J, Z, w, rem, p, q, n, rfl, hP, hV⟩ := hR
  by_cases c0 : l_rg a0 0 6 = false
  · exact lw_bad (b_6_0 a0 a1 c0) (b_136_0 a0 a1 c0) rfl hP hV
  replace c0 := eq_true_of_ne_false c0
  obtain ⟨u, hu, rfl⟩ := l_of c0
  obtain ⟨e0, e1, e2, e3, e4, e5, e6, f0, f1, f2⟩ := hV.R.unit u hu
  obtain ⟨s, hs, es⟩ := l_of f0
  have hc := d_6 (I := I) (J := J) (Z := Z) (w := w) (rem := rem) (xs := xs) (Ln := Ln) u a1 n p hu hV.n hV.c1 hP.lt hP.at_
  have es0 := e0.trans es
  by_cases c1 : l_rg a1 0 4 = false
  · have hx : ∀ k, k < 4 → ¬ a1 = Int32.ofNat k := fun k hk e => by
      rw [e] at c1
      exact absurd (c1.symm.trans (l_inN hk (by decide))) (by decide)
    have hv : v_55 I J Z u a1 = false := by
      have x0 : ¬ a1 = 0 := hx 0 (by decide)
      have x2 : ¬ a1 = 2 := hx 2 (by decide)
      have x3 : ¬ a1 = 3 := hx 3 (by decide)
      unfold v_55
      rw [es0]
      simp only [if_neg (hx s hs), if_neg x0, if_neg x2, if_neg x3, ite_self]
    simp only [v_6, i_6, hv, if_neg (show ¬ false = true from by decide)] at hc
    exact lw_bad hc (b_136_1 u a1 hu c1) rfl hP hV
  replace c1 := eq_true_of_ne_false c1
  obtain ⟨x, hx, rfl⟩ := l_of c1
  have hk : ∀ (CH : Nat → Nat → Int32), (∀ a k, a ≠ 135 + u → CH a k = I a k) → (i_48 CH J Z u n p) 199 44 = Int32.ofNat n ∧ (i_48 CH J Z u n p) 210 u = Int32.ofNat s ∧ (i_48 CH J Z u n p) 208 u = I (135 + u) 1 ∧ (i_48 CH J Z u n p) 209 u = I (135 + u) 2 ∧ (i_48 CH J Z u n p) 213 u = I (135 + u) 3 ∧ (i_48 CH J Z u n p) 211 u = I (135 + u) 4 ∧ (i_48 CH J Z u n p) 212 u = I (135 + u) 5 ∧ (i_48 CH J Z u n p) 214 u = I (135 + u) 6 := by
    intro CH h
    have hh : ∀ a k, 199 ≤ a → (i_48 CH J Z u n p) a k = I a k := fun a k ha => by rw [q48_e hP.lt hV.n (by omega) (by omega)]; exact h a k (by omega)
    simp (disch := omega) only [hh]
    exact ⟨hV.c2, es, e1.symm, e2.symm, e3.symm, e4.symm, e5.symm, e6.symm⟩
  have g1 := f1
  have g2 := f2
  rw [← e1] at g1
  rw [← e5] at g2
  have hs' : s = 0 ∨ s = 1 ∨ s = 2 ∨ s = 3 := by omega
  have hx' : x = 0 ∨ x = 1 ∨ x = 2 ∨ x = 3 := by omega
  rcases hs' with rfl | rfl | rfl | rfl <;> rcases hx' with rfl | rfl | rfl | rfl
  · have hv : v_55 I J Z u (Int32.ofNat 0) = true := by unfold v_55; rw [es0]; rfl
    have hi : i_56 I J Z u (Int32.ofNat 0) = s_up I (135 + u) 0 (Int32.ofNat 0) := by unfold i_56; rw [es0]; rfl
    simp only [v_6, i_6, hv, hi, if_pos] at hc
    have eC : ∀ a k, a ≠ 135 + u → (s_up I (135 + u) 0 (Int32.ofNat 0)) a k = I a k := fun a k h => by simp (disch := omega) only [s_upf]
    obtain ⟨k0, k1, k2, k3, k4, k5, k6, k7⟩ := hk _ eC
    refine lw_rep hP hV hu rfl eC hc (d_136_00 u n hu hV.n k0 k1) (fun a k h => by rcases h with h | h | h <;> simp (disch := omega) only [s_upf, s_upk]) ?_
    refine ⟨?_, ?_, ?_, ?_, ?_, ?_, ?_, ?_, ?_, ?_⟩ <;> (try simp (disch := omega) only [s_upe, s_upf, s_upk, k2, k3, k4, k5, k6, k7]) <;> first | done | assumption | decide
  · have hv : v_55 I J Z u (Int32.ofNat 1) = false := by unfold v_55; rw [es0]; rfl
    simp only [v_6, i_6, hv, if_neg (show ¬ false = true from by decide)] at hc
    exact lw_bad hc (d_136_01 u hu es) rfl hP hV
  · have hv : v_55 I J Z u (Int32.ofNat 2) = false := by unfold v_55; rw [es0]; rfl
    simp only [v_6, i_6, hv, if_neg (show ¬ false = true from by decide)] at hc
    exact lw_bad hc (d_136_02 u hu es) rfl hP hV
  · have hv : v_55 I J Z u (Int32.ofNat 3) = true := by unfold v_55; rw [es0]; rfl
    have hi : i_56 I J Z u (Int32.ofNat 3) = s_up I (135 + u) 0 (Int32.ofNat 3) := by unfold i_56; rw [es0]; rfl
    simp only [v_6, i_6, hv, hi, if_pos] at hc
    have eC : ∀ a k, a ≠ 135 + u → (s_up I (135 + u) 0 (Int32.ofNat 3)) a k = I a k := fun a k h => by simp (disch := omega) only [s_upf]
    obtain ⟨k0, k1, k2, k3, k4, k5, k6, k7⟩ := hk _ eC
    refine lw_rep hP hV hu rfl eC hc (d_136_03 u n hu hV.n k0 k1) (fun a k h => by rcases h with h | h | h <;> simp (disch := omega) only [s_upf, s_upk]) ?_
    refine ⟨?_, ?_, ?_, ?_, ?_, ?_, ?_, ?_, ?_, ?_⟩ <;> (try simp (disch := omega) only [s_upe, s_upf, s_upk, k2, k3, k4, k5, k6, k7]) <;> first | done | assumption | decide
  · have hv : v_55 I J Z u (Int32.ofNat 0) = false := by unfold v_55; rw [es0]; rfl
    simp only [v_6, i_6, hv, if_neg (show ¬ false = true from by decide)] at hc
    exact lw_bad hc (d_136_10 u hu es) rfl hP hV
  · have hv : v_55 I J Z u (Int32.ofNat 1) = true := by unfold v_55; rw [es0]; rfl
    have hi : i_56 I J Z u (Int32.ofNat 1) = s_up I (135 + u) 0 (Int32.ofNat 1) := by unfold i_56; rw [es0]; rfl
    simp only [v_6, i_6, hv, hi, if_pos] at hc
    have eC : ∀ a k, a ≠ 135 + u → (s_up I (135 + u) 0 (Int32.ofNat 1)) a k = I a k := fun a k h => by simp (disch := omega) only [s_upf]
    obtain ⟨k0, k1, k2, k3, k4, k5, k6, k7⟩ := hk _ eC
    refine lw_rep hP hV hu rfl eC hc (d_136_11 u n hu hV.n k0 k1) (fun a k h => by rcases h with h | h | h <;> simp (disch := omega) only [s_upf, s_upk]) ?_
    refine ⟨?_, ?_, ?_, ?_, ?_, ?_, ?_, ?_, ?_, ?_⟩ <;> (try simp (disch := omega) only [s_upe, s_upf, s_upk, k2, k3, k4, k5, k6, k7]) <;> first | done | assumption | decide
  · have hv : v_55 I J Z u (Int32.ofNat 2) = true := by unfold v_55; rw [es0]; rfl
    have hi : i_56 I J Z u (Int32.ofNat 2) = s_up (s_up I (135 + u) 1 (I (135 + u) 5)) (135 + u) 0 (Int32.ofNat 2) := by unfold i_56; rw [es0]; rfl
    simp only [v_6, i_6, hv, hi, if_pos] at hc
    have eC : ∀ a k, a ≠ 135 + u → (s_up (s_up I (135 + u) 1 (I (135 + u) 5)) (135 + u) 0 (Int32.ofNat 2)) a k = I a k := fun a k h => by simp (disch := omega) only [s_upf]
    obtain ⟨k0, k1, k2, k3, k4, k5, k6, k7⟩ := hk _ eC
    refine lw_rep hP hV hu rfl eC hc (d_136_12 u n hu hV.n k0 k1) (fun a k h => by rcases h with h | h | h <;> simp (disch := omega) only [s_upf, s_upk]) ?_
    refine ⟨?_, ?_, ?_, ?_, ?_, ?_, ?_, ?_, ?_, ?_⟩ <;> (try simp (disch := omega) only [s_upe, s_upf, s_upk, k2, k3, k4, k5, k6, k7]) <;> first | done | assumption | decide
  · have hv : v_55 I J Z u (Int32.ofNat 3) = false := by unfold v_55; rw [es0]; rfl
    simp only [v_6, i_6, hv, if_neg (show ¬ false = true from by decide)] at hc
    exact lw_bad hc (d_136_13 u hu es) rfl hP hV
  · have hv : v_55 I J Z u (Int32.ofNat 0) = true := by unfold v_55; rw [es0]; rfl
    have hi : i_56 I J Z u (Int32.ofNat 0) = s_up (s_up I (135 + u) 4 (-1)) (135 + u) 0 (Int32.ofNat 0) := by unfold i_56; rw [es0]; rfl
    simp only [v_6, i_6, hv, hi, if_pos] at hc
    have eC : ∀ a k, a ≠ 135 + u → (s_up (s_up I (135 + u) 4 (-1)) (135 + u) 0 (Int32.ofNat 0)) a k = I a k := fun a k h => by simp (disch := omega) only [s_upf]
    obtain ⟨k0, k1, k2, k3, k4, k5, k6, k7⟩ := hk _ eC
    refine lw_rep hP hV hu rfl eC hc (d_136_20 u n hu hV.n k0 k1) (fun a k h => by rcases h with h | h | h <;> simp (disch := omega) only [s_upf, s_upk]) ?_
    refine ⟨?_, ?_, ?_, ?_, ?_, ?_, ?_, ?_, ?_, ?_⟩ <;> (try simp (disch := omega) only [s_upe, s_upf, s_upk, k2, k3, k4, k5, k6, k7]) <;> first | done | assumption | decide
  · have hv : v_55 I J Z u (Int32.ofNat 1) = false := by unfold v_55; rw [es0]; rfl
    simp only [v_6, i_6, hv, if_neg (show ¬ false = true from by decide)] at hc
    exact lw_bad hc (d_136_21 u hu es) rfl hP hV
  · have hv : v_55 I J Z u (Int32.ofNat 2) = true := by unfold v_55; rw [es0]; rfl
    have hi : i_56 I J Z u (Int32.ofNat 2) = s_up I (135 + u) 0 (Int32.ofNat 2) := by unfold i_56; rw [es0]; rfl
    simp only [v_6, i_6, hv, hi, if_pos] at hc
    have eC : ∀ a k, a ≠ 135 + u → (s_up I (135 + u) 0 (Int32.ofNat 2)) a k = I a k := fun a k h => by simp (disch := omega) only [s_upf]
    obtain ⟨k0, k1, k2, k3, k4, k5, k6, k7⟩ := hk _ eC
    refine lw_rep hP hV hu rfl eC hc (d_136_22 u n hu hV.n k0 k1) (fun a k h => by rcases h with h | h | h <;> simp (disch := omega) only [s_upf, s_upk]) ?_
    refine ⟨?_, ?_, ?_, ?_, ?_, ?_, ?_, ?_, ?_, ?_⟩ <;> (try simp (disch := omega) only [s_upe, s_upf, s_upk, k2, k3, k4, k5, k6, k7]) <;> first | done | assumption | decide
  · have hv : v_55 I J Z u (Int32.ofNat 3) = false := by unfold v_55; rw [es0]; rfl
    simp only [v_6, i_6, hv, if_neg (show ¬ false = true from by decide)] at hc
    exact lw_bad hc (d_136_23 u hu es) rfl hP hV
  · have hv : v_55 I J Z u (Int32.ofNat 0) = true := by unfold v_55; rw [es0]; rfl
    have hi : i_56 I J Z u (Int32.ofNat 0) = s_up I (135 + u) 0 (Int32.ofNat 0) := by unfold i_56; rw [es0]; rfl
    simp only [v_6, i_6, hv, hi, if_pos] at hc
    have eC : ∀ a k, a ≠ 135 + u → (s_up I (135 + u) 0 (Int32.ofNat 0)) a k = I a k := fun a k h => by simp (disch := omega) only [s_upf]
    obtain ⟨k0, k1, k2, k3, k4, k5, k6, k7⟩ := hk _ eC
    refine lw_rep hP hV hu rfl eC hc (d_136_30 u n hu hV.n k0 k1) (fun a k h => by rcases h with h | h | h <;> simp (disch := omega) only [s_upf, s_upk]) ?_
    refine ⟨?_, ?_, ?_, ?_, ?_, ?_, ?_, ?_, ?_, ?_⟩ <;> (try simp (disch := omega) only [s_upe, s_upf, s_upk, k2, k3, k4, k5, k6, k7]) <;> first | done | assumption | decide
  · have hv : v_55 I J Z u (Int32.ofNat 1) = false := by unfold v_55; rw [es0]; rfl
    simp only [v_6, i_6, hv, if_neg (show ¬ false = true from by decide)] at hc
    exact lw_bad hc (d_136_31 u hu es) rfl hP hV
  · have hv : v_55 I J Z u (Int32.ofNat 2) = false := by unfold v_55; rw [es0]; rfl
    simp only [v_6, i_6, hv, if_neg (show ¬ false = true from by decide)] at hc
    exact lw_bad hc (d_136_32 u hu es) rfl hP hV
  · have hv : v_55 I J Z u (Int32.ofNat 3) = true := by unfold v_55; rw [es0]; rfl
    have hi : i_56 I J Z u (Int32.ofNat 3) = s_up I (135 + u) 0 (Int32.ofNat 3) := by unfold i_56; rw [es0]; rfl
    simp only [v_6, i_6, hv, hi, if_pos] at hc
    have eC : ∀ a k, a ≠ 135 + u → (s_up I (135 + u) 0 (Int32.ofNat 3)) a k = I a k := fun a k h => by simp (disch := omega) only [s_upf]
    obtain ⟨k0, k1, k2, k3, k4, k5, k6, k7⟩ := hk _ eC
    refine lw_rep hP hV hu rfl eC hc (d_136_33 u n hu hV.n k0 k1) (fun a k h => by rcases h with h | h | h <;> simp (disch := omega) only [s_upf, s_upk]) ?_
    refine ⟨?_, ?_, ?_, ?_, ?_, ?_, ?_, ?_, ?_, ?_⟩ <;> (try simp (disch := omega) only [s_upe, s_upf, s_upk, k2, k3, k4, k5, k6, k7]) <;> first | done | assumption | decide
end Ops2
