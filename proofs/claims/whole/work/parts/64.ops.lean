section Ops
variable {xs : Nat → Int32} {Ln : Nat}
theorem op_24 : ∀ a0 a1, lw_ok xs Ln g_Rel 25 159 [.int a0, .int a1] := by
  intro a0 a1 m σ hR hm
  obtain ⟨I, J, Z, w, rem, p, q, n, rfl, hP, hV⟩ := hR
  by_cases c0 : l_rg a0 0 6 = false
  · exact lw_bad (b_25_0 a0 a1 c0) (b_159_0 a0 a1 c0) rfl hP hV
  replace c0 := eq_true_of_ne_false c0
  obtain ⟨u, hu, rfl⟩ := l_of c0
  obtain ⟨e0, e1, e2, e3, e4, e5, e6, -⟩ := hV.R.unit u hu
  refine lw_bad (d_25 u a1 hu) (d_159 u a1 hu) ?_ hP hV
  unfold v_159 v_25 v_58
  rw [e0, e1, e2, e3, e4, e6]
theorem op_1 : ∀ a0 a1, lw_ok xs Ln g_Rel 2 112 [.int a0, .int a1] := by
  intro a0 a1 m σ hR hm
  obtain ⟨I, J, Z, w, rem, p, q, n, rfl, hP, hV⟩ := hR
  by_cases c0 : l_rg a0 0 12 = false
  · exact lw_bad (b_2_0 a0 a1 c0) (b_112_0 a0 a1 c0) rfl hP hV
  replace c0 := eq_true_of_ne_false c0
  obtain ⟨j, hj, rfl⟩ := l_of c0
  by_cases c1 : l_rg a1 0 4 = false
  · exact lw_bad (b_2_1 j a1 hj c1) (b_112_1 j a1 hj c1) rfl hP hV
  replace c1 := eq_true_of_ne_false c1
  obtain ⟨d, hd, rfl⟩ := l_of c1
  refine lw_fin (n := n) (d_2 j d hj hd) (d_112 j d hj hd) rfl hP (g_V.mono (g_V.dist (g_V.thr ?_ 0) hj (l_inN hd (by decide)))) (fun a k h => ?_) (fun _ _ _ => rfl) (fun _ _ _ => rfl)
  · exact hV.cls (fun a k h => by unfold i_2; simp (disch := omega) only [s_upf]) (fun _ _ _ => rfl) (fun _ _ _ => rfl)
  · unfold i_112; simp (disch := omega) only [s_upf]
theorem op_6 : ∀ a0 a1, lw_ok xs Ln g_Rel 7 137 [.int a0, .int a1] := by
  intro a0 a1 m σ hR hm
  obtain ⟨I, J, Z, w, rem, p, q, n, rfl, hP, hV⟩ := hR
  by_cases c0 : l_rg a0 0 2 = false
  · exact lw_bad (b_7_0 a0 a1 c0) (b_137_0 a0 a1 c0) rfl hP hV
  replace c0 := eq_true_of_ne_false c0
  obtain ⟨r, hr, rfl⟩ := l_of c0
  by_cases c1 : l_rg a1 49 52 = false
  · exact lw_bad (b_7_1 r a1 hr c1) (b_137_1 r a1 hr c1) rfl hP hV
  replace c1 := eq_true_of_ne_false c1
  obtain ⟨v, hv, rfl⟩ := l_of2 c1
  refine lw_fin (n := n) (d_7 r v hr hv) (d_137 r v hr hv) rfl hP (g_V.mono (g_V.spd (g_V.thr ?_ 0) hr)) (fun a k h => ?_) (fun _ _ _ => rfl) (fun _ _ _ => rfl)
  · exact hV.cls (fun a k h => by unfold i_7; simp (disch := omega) only [s_upf]) (fun _ _ _ => rfl) (fun _ _ _ => rfl)
  · unfold i_137; simp (disch := omega) only [s_upf]
theorem n_pos {r : Nat} (h : 0 < r) (hr : r < 2 ^ 31) : (0 : Int32) < Int32.ofNat r := (n_lt (a := 0) (by omega) hr).mpr h
theorem n_npos {r : Nat} (h : ¬ 0 < r) : ¬ (0 : Int32) < Int32.ofNat r := mt (n_lt (a := 0) (by omega) (by omega)).mp h
theorem n_nz {r : Nat} (h : 0 < r) (hr : r < 2 ^ 31) : ¬ Int32.ofNat r = 0 := mt (n_eq (b := 0) hr (by omega)).mp (by omega)
theorem op_4 : ∀ a0 a1 a2, lw_ok xs Ln g_Rel 5 135 [.int a0, .int a1, .int a2] := by
  intro a0 a1 a2 m σ hR hm
  obtain ⟨I, J, Z, w, rem, p, q, n, rfl, hP, hV⟩ := hR
  by_cases c0 : l_rg a0 0 6 = false
  · exact lw_bad (b_5_0 a0 a1 a2 c0) (b_135_0 a0 a1 a2 c0) rfl hP hV
  replace c0 := eq_true_of_ne_false c0
  obtain ⟨u, hu, rfl⟩ := l_of c0
  by_cases c1 : l_rg a1 0 12 = false
  · exact lw_bad (b_5_1 u a1 a2 hu c1) (b_135_1 u a1 a2 hu c1) rfl hP hV
  replace c1 := eq_true_of_ne_false c1
  obtain ⟨j, hj, rfl⟩ := l_of c1
  by_cases c2 : l_rg a2 0 3 = false
  · exact lw_bad (b_5_2 u j a2 hu hj c2) (b_135_2 u j a2 hu hj c2) rfl hP hV
  replace c2 := eq_true_of_ne_false c2
  obtain ⟨k, hk, rfl⟩ := l_of c2
  obtain ⟨e0, e1, e2, e3, e4, e5, e6, f0, f1, f2⟩ := hV.R.unit u hu
  have hc := d_5 (I := I) (J := J) (Z := Z) (w := w) (rem := rem) (xs := xs) (Ln := Ln) u j k hu hj hk
  by_cases s0 : I (135 + u) 0 = 0
  · simp only [v_5, i_5, if_pos s0] at hc
    have hd := d_135 (I := (s_up (s_up I (135 + u) 1 (Int32.ofNat j)) (135 + u) 2 (Int32.ofNat k))) (J := J) (Z := Z) (w := w) (rem := rem) (xs := xs) (Ln := Ln) u j k hu hj hk
    have g0 : (s_up (s_up I (135 + u) 1 (Int32.ofNat j)) (135 + u) 2 (Int32.ofNat k)) 210 u = I (135 + u) 0 := by simp (disch := omega) only [s_upf]; exact e0.symm
    simp only [v_135, i_135, g0, if_pos s0] at hd
    have hV1 : g_V m n p I J Z (s_up (s_up I (135 + u) 1 (Int32.ofNat j)) (135 + u) 2 (Int32.ofNat k)) J Z := hV.cls (fun a k h => by simp (disch := omega) only [s_upf]) (fun _ _ _ => rfl) (fun _ _ _ => rfl)
    refine lw_fin (n := n) hc hd rfl hP (g_V.mono (g_V.unit (hV1.thr 0) hu (fun a k h => by simp (disch := omega) only [s_upf]) (fun a k h => by rcases h with h | h | h <;> simp (disch := omega) only [s_upf, s_upk]) ?_)) (fun a k h => by simp (disch := omega) only [s_upf]) (fun _ _ _ => rfl) (fun _ _ _ => rfl)
    refine ⟨?_, ?_, ?_, ?_, ?_, ?_, ?_, ?_, ?_, ?_⟩ <;> (try simp (disch := omega) only [s_upe, s_upf, s_upk]) <;> first | assumption | exact l_inN (by assumption) (by decide)
  by_cases s1 : I (135 + u) 0 = 3
  · simp only [v_5, i_5, if_neg s0, if_pos s1] at hc
    have hd := d_135 (I := (s_up (s_up I (135 + u) 1 (Int32.ofNat j)) (135 + u) 2 (Int32.ofNat k))) (J := J) (Z := Z) (w := w) (rem := rem) (xs := xs) (Ln := Ln) u j k hu hj hk
    have g0 : (s_up (s_up I (135 + u) 1 (Int32.ofNat j)) (135 + u) 2 (Int32.ofNat k)) 210 u = I (135 + u) 0 := by simp (disch := omega) only [s_upf]; exact e0.symm
    simp only [v_135, i_135, g0, if_neg s0, if_pos s1] at hd
    have hV1 : g_V m n p I J Z (s_up (s_up I (135 + u) 1 (Int32.ofNat j)) (135 + u) 2 (Int32.ofNat k)) J Z := hV.cls (fun a k h => by simp (disch := omega) only [s_upf]) (fun _ _ _ => rfl) (fun _ _ _ => rfl)
    refine lw_fin (n := n) hc hd rfl hP (g_V.mono (g_V.unit (hV1.thr 0) hu (fun a k h => by simp (disch := omega) only [s_upf]) (fun a k h => by rcases h with h | h | h <;> simp (disch := omega) only [s_upf, s_upk]) ?_)) (fun a k h => by simp (disch := omega) only [s_upf]) (fun _ _ _ => rfl) (fun _ _ _ => rfl)
    refine ⟨?_, ?_, ?_, ?_, ?_, ?_, ?_, ?_, ?_, ?_⟩ <;> (try simp (disch := omega) only [s_upe, s_upf, s_upk]) <;> first | assumption | exact l_inN (by assumption) (by decide)
  simp only [v_5, i_5, if_neg s0, if_neg s1] at hc
  have hd := d_135 (I := I) (J := J) (Z := Z) (w := w) (rem := rem) (xs := xs) (Ln := Ln) u j k hu hj hk
  rw [e0] at s0 s1
  simp only [v_135, i_135, if_neg s0, if_neg s1] at hd
  exact lw_bad hc hd rfl hP hV
theorem g_charge {m n : Nat} {p : Nat → Nat} {I I' : Nat → Nat → Int32} {J J' : Nat → Nat → Int64} {Z Z' : Nat → Nat → Bool} (h : g_V m n p I J Z I' J' Z') {r d : Nat} (hr : r < 2) (hd : d < 4) : v_140 I' J' Z' r d = v_92 I J Z r d := by
  obtain ⟨a0, a1, a2, a3, a4⟩ := h.R.room r hr
  obtain ⟨b0, b1, b2, b3⟩ := h.R.grant r d hr hd
  unfold v_140 v_92
  rw [a0, a2, b0, b1]
  cases Z' 217 r with
  | true => rfl
  | false =>
    obtain ⟨k, hk, e⟩ := l_of b3
    rw [e]
    by_cases hk0 : 0 < k
    · rw [if_neg (by decide), if_pos (show (!false) = true from rfl)]
      by_cases hk1 : k < 2 ^ 31
      · rw [if_pos (n_pos hk0 hk1)]
      · by_cases h0 : 0 < Int32.ofNat k
        · rw [if_pos h0]
        · have h1 := of_decide_eq_true b3
          rw [e] at h1
          have : Int32.ofNat k = 0 := by
            rw [Int32.lt_iff_toInt_lt] at h0
            rw [← Int32.toInt_inj]
            have z : (0 : Int32).toInt = 0 := rfl
            omega
          rw [this, if_neg (by decide)]
          split <;> rfl
    · have : k = 0 := by omega
      subst this
      rw [if_neg (by decide), if_neg (by decide), if_pos (show (!false) = true from rfl)]
      split <;> rfl
theorem op_9 : ∀ a0 a1, lw_ok xs Ln g_Rel 10 141 [.int a0, .int a1] := by
  intro a0 a1 m σ hR hm
  obtain ⟨I, J, Z, w, rem, p, q, n, rfl, hP, hV⟩ := hR
  by_cases c0 : l_rg a0 0 2 = false
  · exact lw_bad (b_10_0 a0 a1 c0) (b_141_0 a0 a1 c0) rfl hP hV
  replace c0 := eq_true_of_ne_false c0
  obtain ⟨r, hr, rfl⟩ := l_of c0
  by_cases c1 : l_rg a1 0 4 = false
  · exact lw_bad (b_10_1 r a1 hr c1) (b_141_1 r a1 hr c1) rfl hP hV
  replace c1 := eq_true_of_ne_false c1
  obtain ⟨d, hd, rfl⟩ := l_of c1
  exact lw_bad (d_10 r d hr hd) (d_141 r d hr hd) (g_charge (hV.thr 0) hr hd) hP hV
theorem op_25 : ∀ a0 a1 a2, lw_ok xs Ln g_Rel 26 160 [.int a0, .int a1, .int a2] := by
  intro a0 a1 a2 m σ hR hm
  obtain ⟨I, J, Z, w, rem, p, q, n, rfl, hP, hV⟩ := hR
  by_cases c0 : l_rg a0 0 2 = false
  · exact lw_bad (b_26_0 a0 a1 a2 c0) (b_160_0 a0 a1 a2 c0) rfl hP hV
  replace c0 := eq_true_of_ne_false c0
  obtain ⟨r, hr, rfl⟩ := l_of c0
  by_cases c1 : l_rg a1 0 6 = false
  · exact lw_bad (b_26_1 r a1 a2 hr c1) (b_160_1 r a1 a2 hr c1) rfl hP hV
  replace c1 := eq_true_of_ne_false c1
  obtain ⟨u, hu, rfl⟩ := l_of c1
  refine lw_bad (d_26 r u a2 hr hu) (d_160 r u a2 hr hu) ?_ hP hV
  obtain ⟨e0, e1, e2, e3, e4, e5, -, -⟩ := hV.R.sight r u hr hu
  unfold v_160 v_26
  by_cases z : Z (164 + 29 * r + u) 0 = true
  · have e1 := e1 z
    have z2 := z
    rw [e0] at z2
    rw [if_pos z, if_pos z2]
    unfold v_103 v_101
    rw [if_pos z, e1, e2, e3, e4, e5]
    cases Z 241 (6 * r + u) <;> by_cases k : I 237 (6 * r + u) = 0 <;> simp [k]
  · have z2 := z
    rw [e0] at z2
    rw [if_neg z, if_neg z2]
theorem op_15 : lw_ok xs Ln g_Rel 16 133 [] := by
  intro m σ hR hm
  obtain ⟨I, J, Z, w, rem, p, q, n, rfl, hP, hV⟩ := hR
  exact lw_bad d_16 d_133 (hV.c2.trans hV.c1.symm) hP hV
theorem op_16 : ∀ a0 a1, lw_ok xs Ln g_Rel 17 134 [.int a0, .int a1] := by
  intro a0 a1 m σ hR hm
  obtain ⟨I, J, Z, w, rem, p, q, n, rfl, hP, hV⟩ := hR
  by_cases c0 : l_rg a0 0 n = false
  · exact lw_bad (b_17_0 a0 a1 n c0 hV.n hV.c1) (b_134_0 a0 a1 n c0 hV.n hV.c2) rfl hP hV
  replace c0 := eq_true_of_ne_false c0
  obtain ⟨i, hi, rfl⟩ := l_of c0
  have hn := hV.n
  refine lw_bad (d_17 i a1 n (p i) hi hV.n hV.c1 (hP.lt i (by omega)) (hP.at_ i (by omega))) (d_134 i a1 n hi hV.n hV.c2) ?_ hP hV
  obtain ⟨⟨e0, e1, e2, e3, e4⟩, -⟩ := hV.lets i hi
  unfold v_134 v_17 v_69
  rw [e0, e1, e2, e3, e4]
theorem op_26 : ∀ a0 a1 a2, lw_ok xs Ln g_Rel 27 161 [.int a0, .int a1, .int a2] := by
  intro a0 a1 a2 m σ hR hm
  obtain ⟨I, J, Z, w, rem, p, q, n, rfl, hP, hV⟩ := hR
  by_cases c0 : l_rg a0 0 3 = false
  · exact lw_bad (b_27_0 a0 a1 a2 c0) (b_161_0 a0 a1 a2 c0) rfl hP hV
  replace c0 := eq_true_of_ne_false c0
  obtain ⟨r, hr, rfl⟩ := l_of c0
  by_cases hr2 : r < 2
  · by_cases c1 : l_rg a1 0 16 = false
    · exact lw_bad (b_27_1 r a1 a2 hr2 c1) (b_161_1 r a1 a2 hr2 c1) rfl hP hV
    replace c1 := eq_true_of_ne_false c1
    obtain ⟨c, hc, rfl⟩ := l_of c1
    refine lw_bad (d_27 r c a2 hr2 hc) (d_161 r c a2 hr2 hc) ?_ hP hV
    have hu := hV.R.sure r c hr2 hc
    obtain ⟨z0, e1, e2, e3, e4, e5, e6, e7, e8, e9⟩ := hV.R.recs r c hr2 hc
    unfold v_161 v_27 v_35 v_66
    rw [z0, hu, e1, e3, e4, e5, e6, e7, e8, e9]
    cases Z 225 (16 * r + c) <;> rfl
  · have : r = 2 := by omega
    subst this
    by_cases c1 : l_rg a1 0 16 = false
    · exact lw_bad (b_27_2 a1 a2 c1) (b_161_2 a1 a2 c1) rfl hP hV
    replace c1 := eq_true_of_ne_false c1
    obtain ⟨c, hc, rfl⟩ := l_of c1
    refine lw_bad (d_27r c a2 hc) (d_161r c a2 hc) ?_ hP hV
    have hu := hV.R.sure2 c hc
    obtain ⟨z0, e1, e2, e3, e4, e5, e6, e7, e8, e9⟩ := hV.R.rrecs c hc
    unfold v_161r v_27r v_66
    rw [z0, hu, e1, e3, e4, e5, e6, e7, e8, e9]
theorem op_2 : ∀ a0 a1 a2 a3, lw_ok xs Ln g_Rel 3 114 [.int a0, .int a1, .int a2, .int a3] := by
  intro a0 a1 a2 a3 m σ hR hm
  obtain ⟨I, J, Z, w, rem, p, q, n, rfl, hP, hV⟩ := hR
  by_cases c0 : l_rg a0 0 16 = false
  · exact lw_bad (b_3_0 a0 a1 a2 a3 c0) (b_114_0 a0 a1 a2 a3 c0) rfl hP hV
  replace c0 := eq_true_of_ne_false c0
  obtain ⟨k, hk, rfl⟩ := l_of c0
  by_cases c3 : l_rg a3 0 6 = false
  · exact lw_bad (b_3_3 k a1 a2 a3 hk c3) (b_114_3 k a1 a2 a3 hk c3) rfl hP hV
  replace c3 := eq_true_of_ne_false c3
  obtain ⟨g, hg, rfl⟩ := l_of c3
  by_cases hg0 : 1 ≤ g
  · have hc := d_3l (I := I) (J := J) (Z := Z) (w := w) (rem := rem) (xs := xs) (Ln := Ln) k a1 a2 g hk ⟨hg0, hg⟩
    simp only [v_3l, i_3l, i_76] at hc
    have hd := d_114l (I := s_up I 9 k (Int32.ofNat g)) (J := J) (Z := Z) (w := w) (rem := rem) (xs := xs) (Ln := Ln) k a1 a2 g hk ⟨hg0, hg⟩
    simp only [v_114l, i_114l] at hd
    have hV1 : g_V m n p I J Z (s_up I 9 k (Int32.ofNat g)) J Z := hV.cls (fun a k h => by simp (disch := omega) only [s_upf]) (fun _ _ _ => rfl) (fun _ _ _ => rfl)
    exact lw_fin (n := n) hc hd rfl hP (g_V.mono (g_V.leaf (hV1.thr 0) hk (l_inN hg (by decide)) (n_nz hg0 (by omega)))) (fun a k h => by simp (disch := omega) only [s_upf]) (fun _ _ _ => rfl) (fun _ _ _ => rfl)
  · have : g = 0 := by omega
    subst this
    by_cases c1 : l_rg a1 0 16 = false
    · exact lw_bad (b_3_1 k a1 a2 hk c1) (b_114_1 k a1 a2 hk c1) rfl hP hV
    replace c1 := eq_true_of_ne_false c1
    obtain ⟨x, hx, rfl⟩ := l_of c1
    by_cases c2 : l_rg a2 0 16 = false
    · exact lw_bad (b_3_2 k x a2 hk hx c2) (b_114_2 k x a2 hk hx c2) rfl hP hV
    replace c2 := eq_true_of_ne_false c2
    obtain ⟨y, hy, rfl⟩ := l_of c2
    have hc := d_3q (I := I) (J := J) (Z := Z) (w := w) (rem := rem) (xs := xs) (Ln := Ln) k x y hk hx hy
    simp only [v_3q, i_3q, i_77] at hc
    have hd := d_114q (I := s_up (s_up (s_up I 9 k 0) 7 k (Int32.ofNat x)) 8 k (Int32.ofNat y)) (J := J) (Z := Z) (w := w) (rem := rem) (xs := xs) (Ln := Ln) k x y hk hx hy
    simp only [v_114q, i_114q] at hd
    have hV1 : g_V m n p I J Z (s_up (s_up (s_up I 9 k 0) 7 k (Int32.ofNat x)) 8 k (Int32.ofNat y)) J Z := hV.cls (fun a k h => by simp (disch := omega) only [s_upf]) (fun _ _ _ => rfl) (fun _ _ _ => rfl)
    exact lw_fin (n := n) hc hd rfl hP (g_V.mono (g_V.ques (hV1.thr 0) hk (l_inN hx (by decide)) (l_inN hy (by decide)))) (fun a k h => by simp (disch := omega) only [s_upf]) (fun _ _ _ => rfl) (fun _ _ _ => rfl)
/-! road -/
theorem g_c_up {f f' : Nat → Int32} {k0 : Nat} (h : ∀ j, j ≠ k0 → f' j = f j) : ∀ n, (n ≤ k0 → g_c f' n = g_c f n) ∧ (k0 < n → g_c f' n + (if 0 < f k0 then 1 else 0) = g_c f n + (if 0 < f' k0 then 1 else 0)) := by
  intro n
  induction n with
  | zero => exact ⟨fun _ => rfl, fun h => absurd h (Nat.not_lt_zero _)⟩
  | succ n ih =>
    obtain ⟨h1, h2⟩ := ih
    refine ⟨fun hn => ?_, fun hn => ?_⟩
    · simp only [g_c]
      rw [h n (by omega), h1 (by omega)]
    · simp only [g_c]
      by_cases e : n = k0
      · subst e
        rw [h1 (Nat.le_refl _)]
        omega
      · rw [h n e]
        have := h2 (by omega)
        omega
theorem n_am (x : Int32) : x + (0 - 1) = x - 1 := by rw [show (0 : Int32) - 1 = -1 from by decide, Int32.sub_eq_add_neg]
theorem n_nat1 {N : Nat} (h : 1 ≤ N) : Int32.ofNat N - 1 = Int32.ofNat (N - 1) := n_sub (b := 1) h
theorem n_nat2 (N : Nat) : Int32.ofNat N + 1 = Int32.ofNat (N + 1) := n_add N 1
theorem g_road {m n : Nat} {p : Nat → Nat} {I I' A A' : Nat → Nat → Int32} {J J' : Nat → Nat → Int64} {Z Z' : Nat → Nat → Bool} (h : g_V m n p I J Z I' J' Z') {k y : Nat} (hk : k < 144) (hy : y < 1000) (ea : ∀ a q, ¬ (a = 2 ∧ q = 3) → ¬ (a = 5 ∧ q = k) → A a q = I a q) (ea' : ∀ a q, ¬ (a = 199 ∧ q = 1) → ¬ (a = 200 ∧ q = k) → A' a q = I' a q)
    (hv : A 5 k = Int32.ofNat y) (hv' : A' 200 k = Int32.ofNat y) (N' : Nat) (hN : A 2 3 = Int32.ofNat N') (hN' : A' 199 1 = Int32.ofNat N') (h30 : N' ≤ 30) (hc : N' + (if 0 < I 5 k then 1 else 0) = g_c (I 5) 144 + (if 0 < y then 1 else 0)) : g_V m n p A J Z A' J' Z' := by
  refine h.way (N := N') hk ea ea' ⟨hv.trans hv'.symm, by rw [hv]; exact l_inN hy (by decide)⟩ ⟨hN.trans hN'.symm, hN, ?_, h30⟩
  have hu := (g_c_up (f := I 5) (f' := A 5) (k0 := k) (fun j hj => ea 5 j (by omega) (by omega)) 144).2 hk
  rw [hv] at hu
  by_cases h0 : 0 < y
  · rw [if_pos (n_pos h0 (by omega))] at hu
    rw [if_pos h0] at hc
    omega
  · rw [if_neg (n_npos h0)] at hu
    rw [if_neg h0] at hc
    omega
end Ops
