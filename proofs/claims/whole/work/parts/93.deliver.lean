section Ops9
theorem g_V.ref0 {m n : Nat} {p : Nat → Nat} {I : Nat → Nat → Int32} {J : Nat → Nat → Int64} {Z : Nat → Nat → Bool} {I' : Nat → Nat → Int32} {J' : Nat → Nat → Int64} {Z' : Nat → Nat → Bool} (h : g_V m n p I J Z I' J' Z') {d0 : Nat} {x v : Int32} {y : Int64} (hd0 : d0 < 4) (hv : l_in v (m + 1) = true) : g_V m n p (s_up (s_up I 15 d0 x) 13 4 v) (s_up J 16 d0 y) Z (s_up (s_up (s_up I' 199 22 v) 218 d0 x) 219 d0 v) (s_up J' 220 d0 y) Z' := by
  refine ⟨⟨?_, ?_, ?_, ?_, ?_, ?_, ?_, ?_, ?_, ?_, ?_, ?_, ?_, ?_, ?_, ?_, ?_⟩, h.n, ?_, ?_, h.pl, ?_⟩
  · intro j hj; (try simp (disch := omega) only [s_upf, s_upk]); exact h.R.dist j hj
  · intro j hj; (try simp (disch := omega) only [s_upf, s_upk]); exact h.R.road j hj
  · (try simp (disch := omega) only [s_upf, s_upk]); exact h.R.roads 
  · intro j hj; (try simp (disch := omega) only [s_upf, s_upk]); exact h.R.card j hj
  · intro j hj; (try simp (disch := omega) only [s_upf, s_upk]); exact h.R.unit j hj
  · intro j hj; (try simp (disch := omega) only [s_upf, s_upk]); exact h.R.room j hj
  · (try simp (disch := omega) only [s_upf, s_upk]); exact h.R.spd 
  · intro r d hr hd; (try simp (disch := omega) only [s_upf, s_upk]); exact h.R.grant r d hr hd
  · intro r c hr hc; (try simp (disch := omega) only [s_upf, s_upk]); exact h.R.sure r c hr hc
  · intro c hc; (try simp (disch := omega) only [s_upf, s_upk]); exact h.R.sure2 c hc
  · intro r c hr hc; unfold g_rec; (try simp (disch := omega) only [s_upf, s_upk]); exact h.R.recs r c hr hc
  · intro c hc; unfold g_rec; (try simp (disch := omega) only [s_upf, s_upk]); exact h.R.rrecs c hc
  · intro q hq; (try simp (disch := omega) only [s_upf, s_upk]); exact h.R.recin q hq
  · intro q c hq hc hz; unfold g_tk; (try simp (disch := omega) only [s_upf, s_upk] at hz ⊢); exact h.R.taken q c hq hc hz
  · simp (disch := omega) only [s_upe, s_upf]
    exact ⟨h.R.ref.1, trivial, hv⟩
  · intro d hd
    by_cases e : d = d0
    · subst e; simp (disch := omega) only [s_upe, s_upf]; exact ⟨trivial, trivial⟩
    · simp (disch := omega) only [s_upf, s_upk]; exact h.R.refd d hd
  · intro r u hr hu; (try simp (disch := omega) only [s_upf, s_upk]); exact h.R.sight r u hr hu
  · (try simp (disch := omega) only [s_upf, s_upk]); exact h.c1
  · (try simp (disch := omega) only [s_upf, s_upk]); exact h.c2
  · intro i hi; have hp := h.pl i (by have := h.n; omega); have hl := h.lets i hi; unfold g_let g_lrec g_tk at hl ⊢
    try simp (disch := omega) only [s_upf, s_upk]
    exact hl
theorem g_sgrant {m n : Nat} {p : Nat → Nat} {I : Nat → Nat → Int32} {J : Nat → Nat → Int64} {Z : Nat → Nat → Bool} {I' : Nat → Nat → Int32} {J' : Nat → Nat → Int64} {Z' : Nat → Nat → Bool} (h : g_V m n p I J Z I' J' Z') (hne : ∀ i, i < n → p i ≠ p n) {r d : Nat} {x : Int32} {v : Int64} (hr : r < 2) (hd : d < 4) (hx : l_in x (m + 1) = true) : g_V m (g_s n) p (i_cs I J Z 1 2 (Int32.ofNat r) (Int32.ofNat d) x n p) (j_ca J v n p) Z (i_ms I' J' Z' 1 2 (Int32.ofNat r) (Int32.ofNat d) x n) (j_ms J' v n) Z' := by
  have hpn := h.pl n (by have := h.n; omega)
  have e36 : 35 + 2 * p n + 1 = 36 + 2 * p n := by omega
  refine h.post (n2 := g_s n) hne (fun a' k' h1 h2 h3 => ?_) (fun a' k' h1 => ?_) (fun a' k' h1 => ?_) (fun a' k' h1 h2 => ?_) (fun a' k' h1 => ?_) (fun _ _ => rfl) (g_s_le h.n) ?_ ?_ ?_
  · unfold i_cs; (try simp (disch := omega) only [s_upf]); exact p72_e h1 h3
  · unfold j_ca; exact s_upa h1
  · rfl
  · unfold i_ms; split
    · unfold i_msa; rcases h1 with h1 | h1
      · (try simp (disch := omega) only [s_upf]); exact p117_e (Or.inl h1) h2
      · (try simp (disch := omega) only [s_upk]); exact p117_e (Or.inr (Or.inr h1)) h2
    · rfl
  · unfold j_ms; split
    · unfold j_msa; rcases h1 with h1 | h1
      · exact s_upa (by omega)
      · exact s_upk (by omega)
    · rfl
  · unfold i_cs; (try simp (disch := omega) only [s_upf]); exact p72_c h.c1
  · unfold i_ms g_s; split
    · unfold i_msa; (try simp (disch := omega) only [s_upf]); exact p117_c
    · exact h.c2
  · by_cases hn : n < 48
    · refine Or.inr ⟨if_pos hn, ?_⟩
      unfold g_let g_lrec g_tk
      rw [e36]
      refine ⟨⟨?_, ?_, ?_, ?_, ?_⟩, ?_⟩
      · (try simp (disch := omega) only [i_cs, j_ca, i_ms, i_msa, if_pos hn, s_upe, s_upf, s_upk, p72_0, p72_1, p72_2, p72_3, p72_4, p72_e, p117_0, p117_1, p117_2, p117_3, p117_4, p117_e, p117_c, j_ms, j_msa]) <;> first | done | assumption
      · (try simp (disch := omega) only [i_cs, j_ca, i_ms, i_msa, if_pos hn, s_upe, s_upf, s_upk, p72_0, p72_1, p72_2, p72_3, p72_4, p72_e, p117_0, p117_1, p117_2, p117_3, p117_4, p117_e, p117_c, j_ms, j_msa]) <;> first | done | assumption
      · (try simp (disch := omega) only [i_cs, j_ca, i_ms, i_msa, if_pos hn, s_upe, s_upf, s_upk, p72_0, p72_1, p72_2, p72_3, p72_4, p72_e, p117_0, p117_1, p117_2, p117_3, p117_4, p117_e, p117_c, j_ms, j_msa]) <;> first | done | assumption
      · (try simp (disch := omega) only [i_cs, j_ca, i_ms, i_msa, if_pos hn, s_upe, s_upf, s_upk, p72_0, p72_1, p72_2, p72_3, p72_4, p72_e, p117_0, p117_1, p117_2, p117_3, p117_4, p117_e, p117_c, j_ms, j_msa]) <;> first | done | assumption
      · (try simp (disch := omega) only [i_cs, j_ca, i_ms, i_msa, if_pos hn, s_upe, s_upf, s_upk, p72_0, p72_1, p72_2, p72_3, p72_4, p72_e, p117_0, p117_1, p117_2, p117_3, p117_4, p117_e, p117_c, j_ms, j_msa]) <;> first | done | assumption
      refine Or.inr (Or.inl ⟨?_, ?_, ?_, ?_, ?_, ?_⟩) <;> (try simp (disch := omega) only [i_cs, j_ca, i_ms, i_msa, if_pos hn, s_upe, s_upf, s_upk, p72_0, p72_1, p72_2, p72_3, p72_4, p72_e, p117_0, p117_1, p117_2, p117_3, p117_4, p117_e, p117_c, j_ms, j_msa]) <;> first | assumption | exact l_inN (by omega) (by decide) | rfl
    · exact Or.inl (if_neg hn)
variable {xs : Nat → Int32} {Ln : Nat}
theorem l_suc {x : Int32} {m : Nat} (h : l_in x (m + 1) = true) (hm : m < 512) : l_in (x + 1) (m + 1 + 1) = true := by
  obtain ⟨k, hk, e⟩ := l_of h
  rw [e, n_nat2]
  exact l_inN (by omega) (by omega)
theorem dl_0 {m i b n rem : Nat} {p w : Nat → Nat} {I : Nat → Nat → Int32} {J : Nat → Nat → Int64} {Z : Nat → Nat → Bool} (hm : m < 512) (hb : b < 50) (hn : n < 48) (hc : I 33 1 = Int32.ofNat n) (hpl : ∀ i, i < 49 → p i < 50) (hw : ∀ i, i < 49 → w i = 35 + 2 * p i) (inj : ∀ k k', k < 49 → k' < 49 → p k = p k' → k = k') (i3 : ∀ q, q < 12 → l_in (I 3 q) 4 = true) (i17 : ∀ k, k < 16 → l_in (I (17 + k) 1) 12 = true) {r d : Nat} (hr : r < 2) (hd : d < 4) (hrv : I (35 + 2 * b) 2 = Int32.ofNat 2) (hsd : I (35 + 2 * b) 1 = Int32.ofNat r) (hab : I (35 + 2 * b) 3 = Int32.ofNat d) (hkd : I (35 + 2 * b) 0 = Int32.ofNat 0) : dl_ok xs Ln m i b n p w rem I J Z := by
  have hpn := hpl n (by omega)
  by_cases hg : v_84 I J Z (Int32.ofNat r) d = false
  · have h50 := d_50n (I := I) (J := J) (Z := Z) (w := w) (rem := rem) (xs := xs) (Ln := Ln) b d r hb hd hr hsd hab hg
    refine ⟨I, J, Z, n, t18f b i I J Z hb hrv (d_49a b I J Z hb hkd h50), fun _ _ _ => rfl, fun _ _ _ => rfl, fun _ _ _ => rfl, fun X Y V hO hx => ?_⟩
    obtain ⟨⟨x0, x1, x2, x3, x4⟩, -⟩ := id hx
    obtain ⟨a0, a1⟩ := hO.R.refd d hd
    obtain ⟨b0, b1, b2⟩ := hO.R.ref
    unfold v_84 at hg
    rw [a0, a1, b0] at hg
    by_cases h1 : X 218 d = (-1)
    · rw [if_pos h1] at hg; cases hg
    rw [if_neg h1] at hg
    by_cases h2 : X 218 d = Int32.ofNat r
    · rw [if_pos h2] at hg; cases hg
    rw [if_neg h2] at hg
    by_cases h3 : lg_cmp (Y 215 2 - Y 220 d) 2100 < 0
    · have h123 := d_123n (I := X) (J := Y) (Z := V) (w := w) (rem := rem) (xs := xs) (Ln := Ln) d r hd hr (x1.symm.trans hsd) (x3.symm.trans hab) h1 h2 h3
      exact ⟨2, X, Y, V, x2.symm.trans hrv, d_128a X Y V (x0.symm.trans hkd) h123, hO.mono, fun _ _ _ => rfl, fun _ _ _ => rfl, fun _ _ _ => rfl⟩
    · rw [if_neg h3] at hg; cases hg
  replace hg := eq_true_of_ne_false hg
  have hc1 : i_72 (i_85 I J Z (Int32.ofNat r) d) (j_85 I J Z (Int32.ofNat r) d) Z 1 2 (Int32.ofNat r) (Int32.ofNat d) (v_85 I J Z (Int32.ofNat r) d) n (p n) 33 1 = Int32.ofNat (g_s n) := p72_c (q85_c.trans hc)
  have k3 : ∀ a k, a < 33 ∨ 135 ≤ a → ¬ (a = 15 ∧ k = d) → ¬ (a = 13 ∧ k = 4) → i_72 (i_85 I J Z (Int32.ofNat r) d) (j_85 I J Z (Int32.ofNat r) d) Z 1 2 (Int32.ofNat r) (Int32.ofNat d) (v_85 I J Z (Int32.ofNat r) d) n (p n) a k = I a k := fun a k h h2 h3 => by
    rw [p72_e (by omega) (by omega)]
    unfold i_85
    by_cases ha : a = 13
    · rw [s_upk (by omega)]; exact s_upa (by omega)
    · rw [s_upa ha]
      by_cases hb : a = 15
      · exact s_upk (by omega)
      · exact s_upa hb
  obtain ⟨I1, Z1, n1, h1, h2, h3, h4⟩ := sim50 (xs := xs) (Ln := Ln) (m := m + 1) (p := p) (w := w) (rem := rem) (J := s_up (j_85 I J Z (Int32.ofNat r) d) (35 + 2 * p n) 6 ((j_85 I J Z (Int32.ofNat r) d) (35 + 2 * b) 6)) hpl hw inj (b := b) (x5 := 35 + 2 * p n) (d := d) (r := r) (x4 := v_85 I J Z (Int32.ofNat r) d) (x3 := Int32.ofNat n) hb (sh_let hpn) hd hr 16 0 (by omega) _ Z (g_s n) (g_s_le (by omega)) hc1 (fun q hq => by rw [k3 3 q (by omega) (by omega) (by omega)]; exact i3 q hq) (fun k hk => by rw [k3 (17 + k) 1 (by omega) (by omega) (by omega)]; exact i17 k hk)
  have h50 := s50Y (I := I) (J := J) (Z := Z) (w := w) (rem := rem) (xs := xs) (Ln := Ln) b d r n p hb hd hr hsd hab (by omega) hc hpl hw hg _ (h1 _ (s50R b (35 + 2 * p n) (v_85 I J Z (Int32.ofNat r) d) d r))
  refine ⟨I1, _, Z1, n1, t18f b i I1 _ Z1 hb hrv (d_49a b I1 _ Z1 hb hkd h50), fun a k h => (h2 a k h).trans (k3 a k (by omega) (by omega) (by omega)), fun a k h => ?_, h3, fun X Y V hO hx => ?_⟩
  · rw [s_upa (by omega)]; unfold j_85; exact s_upa (by omega)
  obtain ⟨⟨x0, x1, x2, x3, x4⟩, -⟩ := id hx
  obtain ⟨-, -, -, l4⟩ := g_let_k0 hx (x0.symm.trans hkd)
  obtain ⟨a0, a1⟩ := hO.R.refd d hd
  obtain ⟨b0, b1, b2⟩ := hO.R.ref
  have hv := l_suc b2 hm
  have hV1 := g_V.ref0 (x := Int32.ofNat r) (v := I 13 4 + 1) (y := J 13 0) hO.mono hd hv
  have hV2 := g_sgrant (r := r) (d := d) (x := I 13 4 + 1) (v := J (35 + 2 * b) 6) hV1 (g_ne inj (by omega)) hr hd hv
  have ej : (j_85 I J Z (Int32.ofNat r) d) (35 + 2 * b) 6 = J (35 + 2 * b) 6 := by unfold j_85; exact s_upa (by omega)
  have hV3 : g_V (m + 1) (g_s n) p (i_72 (i_85 I J Z (Int32.ofNat r) d) (j_85 I J Z (Int32.ofNat r) d) Z 1 2 (Int32.ofNat r) (Int32.ofNat d) (v_85 I J Z (Int32.ofNat r) d) n (p n)) (s_up (j_85 I J Z (Int32.ofNat r) d) (35 + 2 * p n) 6 ((j_85 I J Z (Int32.ofNat r) d) (35 + 2 * b) 6)) Z (i_117a (s_up (s_up (s_up X 199 22 (X 199 22 + 1)) 218 d (Int32.ofNat r)) 219 d (X 199 22 + 1)) (s_up Y 220 d (Y 215 2)) V 1 2 (Int32.ofNat r) (Int32.ofNat d) (X 199 22 + 1) n) (s_up (s_up Y 220 d (Y 215 2)) 255 n (Y 255 48)) V := by
    rw [ej, ← b1, ← b0, ← l4]
    unfold i_ms j_ms at hV2
    rw [if_pos hn, if_pos hn] at hV2
    exact hV2
  obtain ⟨I1', g1, g2, g3⟩ := h4 _ _ V w rem hV3
  have hfin := g1 _ (s123R (I := I1') (J := s_up (s_up Y 220 d (Y 215 2)) 255 n (Y 255 48)) (Z := V) (w := w) (rem := rem) (xs := xs) (Ln := Ln) d r (Int32.ofNat n))
  have h123 : w_R xs Ln 123 (0, [(0, .ref 199)], [], (X, Y, kR w rem, V), 0, 0) (fun o s => o = .inl none ∧ s = (I1', s_up (s_up Y 220 d (Y 215 2)) 255 n (Y 255 48), kR w rem, V)) := by
    by_cases q1 : X 218 d = (-1)
    · exact s123aa d r n hd hr (x1.symm.trans hsd) (x3.symm.trans hab) hn hO.c2 q1 _ hfin
    by_cases q2 : X 218 d = Int32.ofNat r
    · exact s123ba d r n hd hr (x1.symm.trans hsd) (x3.symm.trans hab) hn hO.c2 q1 q2 _ hfin
    by_cases q3 : lg_cmp (Y 215 2 - Y 220 d) 2100 < 0
    · unfold v_84 at hg
      rw [a0, a1, b0, if_neg q1, if_neg q2, if_pos q3] at hg
      cases hg
    · exact s123ca d r n hd hr (x1.symm.trans hsd) (x3.symm.trans hab) hn hO.c2 q1 q2 q3 _ hfin
  refine ⟨2, I1', _, V, x2.symm.trans hrv, d_128a I1' _ V (x0.symm.trans hkd) h123, g2, fun a k h => ?_, fun a k h => ?_, fun _ _ _ => rfl⟩
  · rw [g3 a k (by omega) (by omega), p117_e (by omega) (by omega)]
    simp (disch := omega) only [s_upf]
  · rw [s_upa (by omega)]; exact s_upa (by omega)
theorem op_17 : ∀ a0, lw_ok xs Ln g_Rel 18 130 [.int a0] := by
  intro a0 m σ hR hm
  obtain ⟨I, J, Z, w, rem, p, q, n, rfl, hP, hV⟩ := hR
  by_cases c0 : l_rg a0 0 n = false
  · exact lw_bad (b_18_0 a0 n c0 hV.n hV.c1) (b_130_0 a0 n c0 hV.n hV.c2) rfl hP hV
  replace c0 := eq_true_of_ne_false c0
  obtain ⟨i, hi, rfl⟩ := l_of c0
  have er := hP.rm
  subst er
  have hn := hV.n
  have hP2 := g_P_out hP hi hn
  have hb := hP.lt i (by omega)
  have fin : dl_ok xs Ln m i (p i) (n - 1) (p_out p i n q) (m_wf w p i n q) (35 + 2 * p i) (s_up I 33 1 (Int32.ofNat (n - 1))) J Z → ∃ (v : Int32) (σ1 σ2 : s_S), w_R xs Ln 18 (0, lv_args 0 (.ref 1 :: [.int (Int32.ofNat i)]), [], (I, J, kR w (35 + 2 * q), Z), 0, 0) (fun o s => o = .inl (some (.int v)) ∧ s = σ1) ∧ w_R xs Ln 130 (0, lv_args 0 (.ref 199 :: [.int (Int32.ofNat i)]), [], σ1, 0, 0) (fun o s => o = .inl (some (.int v)) ∧ s = σ2) ∧ g_Rel (m + 1) σ2 := by
    intro ⟨I1, J1, Z1, n1, hT, k1, kj, kz, hM⟩
    have hc := s18Y (I := I) (J := J) (Z := Z) (w := w) (xs := xs) (Ln := Ln) i n q p hi hn hV.c1 hP.lt hP.at_ hP.rl _ hT
    have k1' : ∀ a k, 199 ≤ a → I1 a k = I a k := fun a k h => (k1 a k h).trans (s_upa (by omega))
    have hV1 : g_V m n p I J Z I1 J1 Z1 := hV.cls k1' kj kz
    obtain ⟨hO, hL⟩ := g_out (hV1.thr 0) hP hi
    obtain ⟨W, I2, J2, Z2, hW, h128, hVf, q1, q2, q3⟩ := hM _ _ _ hO hL
    have hd := d_130 (I := I1) (J := J1) (Z := Z1) (w := m_wf w p i n q) (rem := 35 + 2 * p i) (xs := xs) (Ln := Ln) i n W I2 J2 Z2 hi hn ((k1' 199 44 (by omega)).trans hV.c2) hW h128
    refine lw_fin (n := n1) hc hd rfl hP2 hVf (fun a k h => (q1 a k h).trans ?_) (fun a k h => (q2 a k h).trans ?_) q3
    · rw [m_si_e (by omega), s_upa (by omega), q116_e (by omega)]; exact s_upa (by omega)
    · rw [m_sj_e (by omega)]; unfold j_116; exact s_upa (by omega)
  apply fin
  have up : ∀ a k, a ≠ 33 → s_up I 33 1 (Int32.ofNat (n - 1)) a k = I a k := fun a k h => s_upa h
  have hcn : (s_up I 33 1 (Int32.ofNat (n - 1))) 33 1 = Int32.ofNat (n - 1) := s_upe _ _ _ _
  obtain ⟨⟨e0, e1, e2, e3, e4⟩, hl⟩ := hV.lets i hi
  have u0 := (up (35 + 2 * p i) 0 (by omega)).trans e0
  have u1 := (up (35 + 2 * p i) 1 (by omega)).trans e1
  have u2 := (up (35 + 2 * p i) 2 (by omega)).trans e2
  have u3 := (up (35 + 2 * p i) 3 (by omega)).trans e3
  have dn : ∀ r, r < 2 → I 244 i = Int32.ofNat r → Z (141 + 29 * r) 0 = false → dl_ok xs Ln m i (p i) (n - 1) (p_out p i n q) (m_wf w p i n q) (35 + 2 * p i) (s_up I 33 1 (Int32.ofNat (n - 1))) J Z := fun r hr er hz => dl_down hb hr (u2.trans er) hz
  rcases hl with h | h | h | h | h | h | h | h
  · obtain ⟨h0, h1, h2, h3, -⟩ := h
    obtain ⟨r, hr, er⟩ := l_of h1
    obtain ⟨d, hd, ed⟩ := l_of h3
    exact dl_0 hm hb (by omega) hcn hP2.lt hP2.at_ hP2.inj (fun q hq => by rw [up 3 q (by omega)]; exact (hV.R.dist q hq).2) (fun k hk => by rw [up (17 + k) 1 (by omega), (hV.R.rrecs k hk).2.1]; exact (hV.R.recin (32 + k) (by omega)).1) hr hd (u2.trans h2) (u1.trans er) (u3.trans ed) (u0.trans h0)
  · obtain ⟨h0, h1, h2, h3, -, -⟩ := h
    obtain ⟨r, hr, er⟩ := l_of h2
    obtain ⟨d, hd, ed⟩ := l_of h3
    by_cases hz : Z (141 + 29 * r) 0 = false
    · exact dn r hr er hz
    · exact dl_1 hb hr hd (u2.trans er) (u3.trans ed) (u0.trans h0) (eq_true_of_ne_false hz)
  · obtain ⟨h0, h1, h2, h3⟩ := h
    obtain ⟨f, hf, ef⟩ := l_of h1
    obtain ⟨r, hr, er⟩ := l_of h2
    obtain ⟨e, he, ee⟩ := l_of h3.1.1
    by_cases hz : Z (141 + 29 * r) 0 = false
    · exact dn r hr er hz
    · exact dl_2 hb hP2.out (by omega) hcn hP2.lt hP2.at_ hP2.inj hr he hf (u2.trans er) (u3.trans ee) (u1.trans ef) (u0.trans h0) (eq_true_of_ne_false hz)
  · obtain ⟨h0, h2, h3, -⟩ := h
    obtain ⟨r, hr, er⟩ := l_of h2
    obtain ⟨e, he, ee⟩ := l_of h3
    by_cases hz : Z (141 + 29 * r) 0 = false
    · exact dn r hr er hz
    · exact dl_3 hb hr he (u2.trans er) (u3.trans ee) (u0.trans h0) (eq_true_of_ne_false hz)
  · obtain ⟨h0, h1, h2, h3⟩ := h
    obtain ⟨e, he, ee⟩ := l_of h3.1.1
    exact dl_4 hb hP2.out (by omega) hcn hP2.lt hP2.at_ hP2.inj he (u2.trans h2) (u3.trans ee) (u0.trans h0)
  · obtain ⟨h0, ⟨u, hu, eu⟩, -⟩ := h
    exact dl_5 (v := 3 + u) hb (by omega) hcn hP2.lt hP2.at_ hP2.inj (by omega) (u2.trans eu) (u0.trans h0)
  · obtain ⟨h0, h2, h3, -⟩ := h
    obtain ⟨r, hr, er⟩ := l_of h2
    obtain ⟨u, hu, eu⟩ := l_of h3
    by_cases hz : Z (141 + 29 * r) 0 = false
    · exact dn r hr er hz
    · exact dl_6 hb hr hu (u2.trans er) (u3.trans eu) (u0.trans h0) (eq_true_of_ne_false hz)
  · obtain ⟨h0, h1, h2⟩ := h
    obtain ⟨f, hf, ef⟩ := l_of h1
    obtain ⟨r, hr, er⟩ := l_of h2
    by_cases hz : Z (141 + 29 * r) 0 = false
    · exact dn r hr er hz
    · exact dl_7 hb (by omega) hcn hP2.lt hP2.at_ hP2.inj hr hf (u2.trans er) (u1.trans ef) (u0.trans h0) (eq_true_of_ne_false hz)
end Ops9
