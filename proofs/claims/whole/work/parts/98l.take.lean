section Ops13
variable {xs : Nat → Int32} {Ln : Nat}
theorem op_10 : ∀ (a0 a1 a2 : Int32), lw_okI xs Ln g_Rel 164 146 [.int a0, .int a1, .int a2] := by
  intro a0 a1 a2 m σ hR hm
  obtain ⟨I, J, Z, w, rem, p, q0, n, rfl, hP, hV⟩ := hR
  by_cases c0 : l_rg a0 0 2 = false
  · exact lw_badI (k := 1) (by decide) (h_164t0 a0 a1 a2 (b_11_0 a0 a1 a2 c0)) (b_146_0 a0 a1 a2 c0) hP hV
  replace c0 := eq_true_of_ne_false c0
  obtain ⟨r, hr, rfl⟩ := l_of c0
  by_cases c1 : l_rg a1 0 12 = false
  · exact lw_badI (k := 1) (by decide) (h_164t0 (Int32.ofNat r) a1 a2 (b_11_1 r a1 a2 hr c1)) (b_146_1 r a1 a2 hr c1) hP hV
  replace c1 := eq_true_of_ne_false c1
  obtain ⟨j, hj, rfl⟩ := l_of c1
  obtain ⟨dd, dl⟩ := hV.R.dist j hj
  obtain ⟨d, hd, hdq⟩ := l_of dl
  have hdq2 := dd.symm.trans hdq
  obtain ⟨y0, y1, y2, y3, y4⟩ := hV.R.room r hr
  obtain ⟨t, ht9, hct2⟩ := l_of y4
  have hct := y3.trans hct2
  have hpn := hP.lt n (by have := hV.n; omega)
  rcases g_ch hV hr hd j with ⟨hin, hch, hnz⟩ | ⟨hin, hch⟩
  rotate_left
  · exact lw_badI (k := 2) (by decide) (h_164t1 (Int32.ofNat r) (Int32.ofNat j) a2 (b_11_2 r j a2 d hr hj hd hdq hin)) (b_146_2 r j a2 d hr hj hd hdq2 hch) hP hV
  by_cases h8 : t = 8
  · subst h8
    exact lw_badI (k := 2) (by decide) (h_164t1 (Int32.ofNat r) (Int32.ofNat j) a2 (b_11_3 r j a2 d hr hj hd hdq hin hct)) (b_146_3 r j a2 d hr hj hd hdq2 hnz hct2) hP hV
  have ht : t < 8 := by omega
  obtain ⟨y, I1, hy, n1, n2, n3⟩ := al_all (xs := xs) (Ln := Ln) (rem := rem) (w := w) (hV.thr 0) hr hj a2
  have hA0 : ∀ X : Nat → Nat → Int32, (∀ a k, 199 ≤ a → X a k = I a k) → nr_ok (s_up I 199 59 0) (s_up X 199 59 0) := fun X h a k h1 _ => s_up_c (h a k h1)
  rcases hy with rfl | ⟨e, he, rfl, hk⟩
  · have he2 : 8 * r + t < 16 := by omega
    have hun : Z 225 (16 * r + (8 * r + t)) = false := by
      by_cases h : Z 225 (16 * r + (8 * r + t)) = true
      · exfalso
        have h2 := (hV.R.taken r (8 * r + t) (by omega) he2 h).2
        rw [n_cl (by omega), show (8 * r + t) / 8 = r by omega, hct2, n_cl (by omega)] at h2
        omega
      · exact Bool.eq_false_iff.mpr h
    obtain ⟨st8, st9⟩ := (hV.R.recin (16 * r + (8 * r + t)) (by omega)).2.2 hun
    obtain ⟨-, -, -, -, -, -, -, -, r8, r9⟩ := hV.R.recs r (8 * r + t) hr he2
    have hc40 := d_40 (xs := xs) (Ln := Ln) (I := I1) (J := J) (Z := Z) (w := w) (rem := rem) r j a2 n p t d hr hj hV.n ((n2 33 1 (by omega)).trans hV.c1) hP.lt hP.at_ ht hd ((n2 _ 3 (by omega)).trans hct) ((n2 3 _ (by omega)).trans hdq)
    have k1 : ∀ a k, 199 ≤ a → i_40 I1 J Z r j a2 n p t d a k = I a k := fun a k h => by
      unfold i_40
      rw [q41_e hpn (by omega) (by omega) (by omega) (by omega)]
      unfold i_60
      simp (disch := omega) only [s_upf]
      exact n2 a k (by omega)
    have k2 : ∀ a k, 199 ≤ a → z_40 I1 J Z r j a2 n p t d a k = Z a k := fun a k h => by
      unfold z_40
      rw [q41_z (by omega) (by omega)]
      unfold z_60
      exact s_upa (by omega)
    have hc : w_R xs Ln 11 (0, [(0, .ref 1), (1, .int (Int32.ofNat r)), (2, .int (Int32.ofNat j)), (3, .int a2)], [], (I, J, kR w rem, Z), 0, 0) (fun o s => o = .inl (some (.int (Int32.ofNat (8 * r + t)))) ∧ s = (i_40 I1 J Z r j a2 n p t d, J, kR w rem, z_40 I1 J Z r j a2 n p t d)) := d_11n r j a2 d t (Int32.ofNat (8 * r + t)) I1 _ _ hr hj hd hdq hin ht hct n1 hc40
    have hfin := h_164n (Int32.ofNat r) (Int32.ofNat j) a2 hc
    have ejj : ∀ a k, 199 ≤ a → a < 256 → s_up J 256 0 (Int32.ofNat (8 * r + t)).toInt64 a k = J a k := fun a k h1 h2 => s_upa (by omega)
    have hV1 : g_V m n p I J Z (i_40 I1 J Z r j a2 n p t d) (s_up J 256 0 (Int32.ofNat (8 * r + t)).toInt64) (z_40 I1 J Z r j a2 n p t d) := hV.cls2 (fun a k h _ => k1 a k h) ejj (fun a k h _ => k2 a k h)
    obtain ⟨X, hX⟩ : ∃ X, X = i_40 I1 J Z r j a2 n p t d := ⟨_, rfl⟩
    obtain ⟨C, hC⟩ : ∃ C, C = z_40 I1 J Z r j a2 n p t d := ⟨_, rfl⟩
    obtain ⟨K, hK⟩ : ∃ K, K = s_up J 256 0 (Int32.ofNat (8 * r + t)).toInt64 := ⟨_, rfl⟩
    have hK0 : K 256 0 = (Int32.ofNat (8 * r + t)).toInt64 := by rw [hK]; exact s_upe _ _ _ _
    have hKa : ∀ a k, a < 199 → K a k = J a k := fun a k h => by rw [hK]; exact s_upa (by omega)
    rw [← hX] at k1
    rw [← hC] at k2
    rw [← hK] at ejj
    rw [← hX, ← hC, ← hK] at hV1 hfin
    obtain ⟨A1, m1, m2⟩ := n3 (s_up X 199 59 0) K C (hA0 X k1) (fun k => k2 225 k (by omega))
    have a1 : ∀ a k, 199 ≤ a → a ≠ 202 → ¬ (a = 199 ∧ k = 59) → A1 a k = I a k := fun a k h1 h2 h3 => ((m2 a k h2).trans (s_up_n h3)).trans (k1 a k h1)
    have v1 : v_140 A1 K C r d = v_140 I J Z r d := v140_up (fun k => a1 221 k (by omega) (by omega) (by omega)) (fun k => ejj 215 k (by omega) (by omega)) (fun k => ejj 223 k (by omega) (by omega)) (fun k => k2 217 k (by omega))
    have hd2 := d_146n (I := X) (J := K) (Z := C) (xs := xs) (Ln := Ln) (w := w) (rem := rem) r j a2 n d t A1 hr hj hV.n ((a1 199 44 (by omega) (by omega) (by omega)).trans hV.c2) hd ((k1 201 _ (by omega)).trans hdq2) (by rw [v140_up (I := I) (J := J) (Z := Z) (fun k => k1 221 k (by omega)) (fun k => ejj 215 k (by omega) (by omega)) (fun k => ejj 223 k (by omega) (by omega)) (fun k => k2 217 k (by omega))]; exact hnz) ht ((k1 224 _ (by omega)).trans hct2) ((a1 224 _ (by omega) (by omega) (by omega)).trans hct2) ((a1 201 _ (by omega) (by omega) (by omega)).trans hdq2) m1
    have hVa : g_V m n p I1 J Z A1 K C := (hV1.thr 0).congr (fun a k h h4 _ => n2 a k h4) (fun _ _ _ => rfl) (fun _ _ _ => rfl) (fun a k h1 h2 h3 _ _ _ h4 => m2 a k h3) (fun _ _ _ _ => rfl) (fun _ _ _ _ => rfl)
    have hVb := hVa.tkn hr ht ((a1 224 _ (by omega) (by omega) (by omega)).trans hct2)
    obtain ⟨CM, hCM⟩ : ∃ CM, CM = (s_up (s_up (s_up (s_up (s_up (s_up (s_up (s_up (s_up (s_up A1 224 r (Int32.ofNat (t + 1))) 226 ((16 * r) + ((8 * r) + t)) (Int32.ofNat j)) 227 ((16 * r) + ((8 * r) + t)) a2) 228 ((16 * r) + ((8 * r) + t)) 0) 229 ((16 * r) + ((8 * r) + t)) (A1 203 0)) 230 ((16 * r) + ((8 * r) + t)) 0) 231 ((16 * r) + ((8 * r) + t)) (-1)) 232 ((16 * r) + ((8 * r) + t)) 0) 233 ((16 * r) + ((8 * r) + t)) 0) 234 ((16 * r) + ((8 * r) + t)) 0) := ⟨_, rfl⟩
    have cm : ∀ a k, a < 226 ∨ 234 < a ∨ k ≠ 16 * r + (8 * r + t) → CM a k = s_up A1 224 r (Int32.ofNat (t + 1)) a k := fun a k h => by rw [hCM]; rcases h with h | h | h <;> simp (disch := omega) only [s_upf, s_upk]
    have hVc : g_V m n p (i_60 (s_up I1 (141 + 29 * r) 3 (Int32.ofNat (t + 1))) J Z (148 + 29 * r + ((8 * r) + t)) (Int32.ofNat j) a2 (v_79 (s_up I1 (141 + 29 * r) 3 (Int32.ofNat (t + 1))) J Z 0)) J (z_60 (s_up I1 (141 + 29 * r) 3 (Int32.ofNat (t + 1))) J Z (148 + 29 * r + ((8 * r) + t)) (Int32.ofNat j) a2 (v_79 (s_up I1 (141 + 29 * r) 3 (Int32.ofNat (t + 1))) J Z 0)) CM K (s_up C 225 (16 * r + (8 * r + t)) true) := by
      refine hVb.rec hr he2 (fun a k h => by unfold i_60; simp (disch := omega) only [s_upf]) (fun a k h => by unfold z_60; exact s_upa h) cm (fun a k h => s_up_n (by omega)) ?_ ?_ (fun _ => ?_)
      · have f4 : I1 9 0 = A1 203 0 := (n2 9 0 (by omega)).trans ((hV.R.card 0 (by omega)).1.trans (a1 203 0 (by omega) (by omega) (by omega)).symm)
        have f8 : I1 (148 + 29 * r + (8 * r + t)) 8 = 0 := (n2 _ _ (by omega)).trans (r8.trans st8)
        have f9 : I1 (148 + 29 * r + (8 * r + t)) 9 = 0 := (n2 _ _ (by omega)).trans (r9.trans st9)
        rw [hCM]
        unfold g_rec i_60 z_60 v_79
        simp (disch := omega) only [s_upe, s_upf, s_upk]
        exact ⟨trivial, trivial, trivial, trivial, f4, trivial, trivial, trivial, f8, f9⟩
      · rw [hCM]
        simp (disch := omega) only [s_upe, s_upf]
        exact ⟨l_inN hj (by decide), by decide, fun h => by cases h⟩
      · refine ⟨l_inN he2 (by decide), ?_⟩
        rw [n_cl (by omega), show (8 * r + t) / 8 = r by omega, s_upe, n_cl (by omega)]
        omega
    have hVe := g_change (r := r) (e := 8 * r + t) (q := j) (d := d) hVc hP.inj hr he2 (s_upe _ _ _ _) (by
      rw [v140_up (I := A1) (J := K) (Z := C) (fun k => by rw [cm 221 k (by omega)]; exact s_upa (by omega)) (fun _ => rfl) (fun _ => rfl) (fun k => s_upa (by omega)), v1, hch]
      unfold i_60
      simp (disch := omega) only [s_upf]
      exact (n2 _ _ (by omega)).symm)
    change g_V m (g_s n) p (i_40 I1 J Z r j a2 n p t d) J (z_40 I1 J Z r j a2 n p t d) _ _ _ at hVe
    rw [← hX, ← hC] at hVe
    rw [hCM] at hVe
    refine lw_finI (n := g_s n) (k := 0) hfin hd2 ?_ (fun _ => hK0) hP (g_V.mono (hVe.congr (fun _ _ _ _ _ => rfl) hKa (fun _ _ _ => rfl) (fun _ _ _ _ _ _ _ _ _ => rfl) (fun _ _ _ _ => rfl) (fun _ _ _ _ => rfl))) (fun a k h => ?_) (fun _ _ _ => rfl) (fun a k h => ?_)
    · unfold i_146n
      rw [← hCM]
      refine q144_0 ?_
      rw [cm 199 59 (by omega), s_upa (by omega)]
      exact (m2 199 59 (by omega)).trans (s_upe _ _ _ _)
    · unfold i_146n
      rw [← hCM, q144_e (by omega) (by omega), cm a k (by omega), s_upa (by omega)]
      exact (m2 a k (by omega)).trans (s_upa (by omega))
    · exact (q144_z h).trans (s_upa (by omega))
  · obtain ⟨z0, e1, e2, e3, e4, e5, e6, e7, e8, e9⟩ := hV.R.recs r e hr he
    obtain ⟨i1, i2, -⟩ := hV.R.recin (16 * r + e) (by omega)
    have hk2 : Z 225 (16 * r + e) = true := z0.symm.trans hk
    obtain ⟨q, hq, hjq2⟩ := l_of i1
    have hjq := e1.trans hjq2
    obtain ⟨dd2, dl2⟩ := hV.R.dist q hq
    obtain ⟨d2, hd2, hdr⟩ := l_of dl2
    have hdr2 := dd2.symm.trans hdr
    have e36 : v_36 I1 J Z r q d2 = v_36 I J Z r q d2 := by unfold v_36 v_92; rw [n2 (142 + 29 * r) d2 (by omega)]
    have ejj : ∀ a k, 199 ≤ a → a < 256 → s_up J 256 0 (Int32.ofNat (100 + e)).toInt64 a k = J a k := fun a k h1 h2 => s_upa (by omega)
    obtain ⟨K, hK⟩ : ∃ K, K = s_up J 256 0 (Int32.ofNat (100 + e)).toInt64 := ⟨_, rfl⟩
    have hK0 : K 256 0 = (Int32.ofNat (100 + e)).toInt64 := by rw [hK]; exact s_upe _ _ _ _
    have hKa : ∀ a k, a < 199 → K a k = J a k := fun a k h => by rw [hK]; exact s_upa (by omega)
    rw [← hK] at ejj
    rcases g_ch hV hr hd2 q with ⟨hin2, hch2, hnz2⟩ | ⟨hin2, hch2⟩
    · have k1 : ∀ a k, 199 ≤ a → i_39 I1 J Z r e n p q d2 a k = I a k := fun a k h => by
        unfold i_39
        rw [q41_e hpn (by omega) (by omega) (by omega) (by omega), s_upa (by omega)]
        exact n2 a k (by omega)
      have k2 : ∀ a k, 199 ≤ a → z_39 I1 J Z r e n p q d2 a k = Z a k := fun a k h => by
        unfold z_39
        exact q41_z (by omega) (by omega)
      have hc39 := d_39 (xs := xs) (Ln := Ln) (I := I1) (J := J) (Z := Z) (w := w) (rem := rem) r e n p q d2 hr he hV.n ((n2 33 1 (by omega)).trans hV.c1) hP.lt hP.at_ hq hd2 ((n2 _ 1 (by omega)).trans hjq) ((n2 3 _ (by omega)).trans hdr) (e36.trans hin2)
      have hfin := h_164n (Int32.ofNat r) (Int32.ofNat j) a2 (d_11l r j a2 d t e I1 _ _ hr hj hd hdq hin ht hct he n1 hc39)
      have hV1 : g_V m n p I J Z (i_39 I1 J Z r e n p q d2) K (z_39 I1 J Z r e n p q d2) := hV.cls2 (fun a k h _ => k1 a k h) ejj (fun a k h _ => k2 a k h)
      obtain ⟨X, hX⟩ : ∃ X, X = i_39 I1 J Z r e n p q d2 := ⟨_, rfl⟩
      obtain ⟨C, hC⟩ : ∃ C, C = z_39 I1 J Z r e n p q d2 := ⟨_, rfl⟩
      rw [← hX] at k1
      rw [← hC] at k2
      rw [← hX, ← hC] at hV1
      rw [← hX, ← hC, ← hK] at hfin
      obtain ⟨A1, m1, m2⟩ := n3 (s_up X 199 59 0) K C (hA0 X k1) (fun k => k2 225 k (by omega))
      have a1 : ∀ a k, 199 ≤ a → a ≠ 202 → ¬ (a = 199 ∧ k = 59) → A1 a k = I a k := fun a k h1 h2 h3 => ((m2 a k h2).trans (s_up_n h3)).trans (k1 a k h1)
      have v1 : v_140 A1 K C r d2 = v_140 I J Z r d2 := v140_up (fun k => a1 221 k (by omega) (by omega) (by omega)) (fun k => ejj 215 k (by omega) (by omega)) (fun k => ejj 223 k (by omega) (by omega)) (fun k => k2 217 k (by omega))
      have hpos : 0 < v_142 A1 K C r e q d2 := by
        unfold v_142
        rw [v1, g_charge hV hr hd2]
        unfold v_36 at hin2
        by_cases h : 0 < v_92 I J Z r d2
        · exact h
        · rw [if_neg h] at hin2; cases hin2
      have hd3 := d_146l (I := X) (J := K) (Z := C) (xs := xs) (Ln := Ln) (w := w) (rem := rem) r j a2 n d t e q d2 A1 hr hj hV.n ((a1 199 44 (by omega) (by omega) (by omega)).trans hV.c2) hd ((k1 201 _ (by omega)).trans hdq2) (by rw [v140_up (I := I) (J := J) (Z := Z) (fun k => k1 221 k (by omega)) (fun k => ejj 215 k (by omega) (by omega)) (fun k => ejj 223 k (by omega) (by omega)) (fun k => k2 217 k (by omega))]; exact hnz) ht ((k1 224 _ (by omega)).trans hct2) he hq hd2 ((a1 226 _ (by omega) (by omega) (by omega)).trans hjq2) ((a1 201 _ (by omega) (by omega) (by omega)).trans hdr2) hpos m1
      have hVa : g_V m n p I1 J Z A1 K C := (hV1.thr 0).congr (fun a k h h4 _ => n2 a k h4) (fun _ _ _ => rfl) (fun _ _ _ => rfl) (fun a k h1 h2 h3 _ _ _ h4 => m2 a k h3) (fun _ _ _ _ => rfl) (fun _ _ _ _ => rfl)
      have hVc : g_V m n p (s_up I1 (148 + 29 * r + e) 7 (I1 (148 + 29 * r + e) 7 + 1)) J Z (s_up A1 232 (16 * r + e) (A1 232 (16 * r + e) + 1)) K C := by
        obtain ⟨z0, e1, e2, e3, e4, e5, e6, e7, e8, e9⟩ := hVa.R.recs r e hr he
        refine hVa.rec hr he (fun a k h => s_upa h) (fun _ _ _ => rfl) (fun a k h => by rcases h with h | h | h <;> simp (disch := omega) only [s_upf, s_upk]) (fun _ _ _ => rfl) ?_ ?_ (fun h => hVa.R.taken r e (by omega) he h)
        · unfold g_rec
          simp (disch := omega) only [s_upe, s_upf, s_upk]
          exact ⟨z0, e1, e2, e3, e4, e5, e6, by rw [e7], e8, e9⟩
        · have h3 := hVa.R.recin (16 * r + e) (by omega)
          simp (disch := omega) only [s_upf]
          exact h3
      have hVe := g_change (r := r) (e := e) (q := q) (d := d2) hVc hP.inj hr he ((k2 225 _ (by omega)).trans hk2) (by
        rw [v140_up (I := A1) (J := K) (Z := C) (fun k => s_upa (by omega)) (fun _ => rfl) (fun _ => rfl) (fun _ => rfl), v1, hch2, s_upa (by omega)]
        exact (n2 _ _ (by omega)).symm)
      change g_V m (g_s n) p (i_39 I1 J Z r e n p q d2) J (z_39 I1 J Z r e n p q d2) _ _ _ at hVe
      rw [← hX, ← hC] at hVe
      refine lw_finI (n := g_s n) (k := 0) hfin hd3 ?_ (fun _ => hK0) hP (g_V.mono (hVe.congr (fun _ _ _ _ _ => rfl) hKa (fun _ _ _ => rfl) (fun _ _ _ _ _ _ _ _ _ => rfl) (fun _ _ _ _ => rfl) (fun _ _ _ _ => rfl))) (fun a k h => ?_) (fun _ _ _ => rfl) (fun a k h => ?_)
      · unfold i_146l
        refine q144_0 ?_
        rw [s_upa (by omega)]
        exact (m2 199 59 (by omega)).trans (s_upe _ _ _ _)
      · unfold i_146l
        rw [q144_e (by omega) (by omega), s_upa (by omega)]
        exact (m2 a k (by omega)).trans (s_upa (by omega))
      · exact q144_z h
    · have hb39 := b_39 (xs := xs) (Ln := Ln) (I := I1) (J := J) (Z := Z) (w := w) (rem := rem) r e q d2 hr he hq hd2 ((n2 _ 1 (by omega)).trans hjq) ((n2 3 _ (by omega)).trans hdr) (e36.trans hin2)
      have hfin := h_164n (Int32.ofNat r) (Int32.ofNat j) a2 (d_11l r j a2 d t e I1 _ _ hr hj hd hdq hin ht hct he n1 hb39)
      rw [← hK] at hfin
      have k1 : ∀ a k, 199 ≤ a → I1 a k = I a k := fun a k h => n2 a k (by omega)
      obtain ⟨A1, m1, m2⟩ := n3 (s_up I1 199 59 0) K Z (hA0 I1 k1) (fun _ => rfl)
      have a1 : ∀ a k, 199 ≤ a → a ≠ 202 → ¬ (a = 199 ∧ k = 59) → A1 a k = I a k := fun a k h1 h2 h3 => ((m2 a k h2).trans (s_up_n h3)).trans (k1 a k h1)
      have v1 : v_140 A1 K Z r d2 = v_140 I J Z r d2 := v140_up (fun k => a1 221 k (by omega) (by omega) (by omega)) (fun k => ejj 215 k (by omega) (by omega)) (fun k => ejj 223 k (by omega) (by omega)) (fun _ => rfl)
      have hd3 := d_146k (I := I1) (J := K) (Z := Z) (xs := xs) (Ln := Ln) (w := w) (rem := rem) r j a2 d t e q d2 A1 hr hj hd ((k1 201 _ (by omega)).trans hdq2) (by rw [v140_up (I := I) (J := J) (Z := Z) (fun k => k1 221 k (by omega)) (fun k => ejj 215 k (by omega) (by omega)) (fun k => ejj 223 k (by omega) (by omega)) (fun _ => rfl)]; exact hnz) ht ((k1 224 _ (by omega)).trans hct2) he hq hd2 ((a1 226 _ (by omega) (by omega) (by omega)).trans hjq2) ((a1 201 _ (by omega) (by omega) (by omega)).trans hdr2) (by unfold v_142; rw [v1, hch2]; decide) m1
      refine lw_finI (n := n) (k := 0) hfin hd3 ?_ (fun _ => hK0) hP (g_V.mono ((hV.thr 0).congr (fun a k h h4 _ => n2 a k h4) hKa (fun _ _ _ => rfl) (fun a k h1 h2 h3 _ _ _ h4 => ?_) ejj (fun _ _ _ _ => rfl))) (fun a k h => ?_) (fun _ _ _ => rfl) (fun _ _ _ => rfl)
      · exact (m2 199 59 (by omega)).trans (s_upe _ _ _ _)
      · exact (m2 a k h3).trans (s_up_c (n2 a k (by omega)))
      · exact (m2 a k (by omega)).trans (s_upa (by omega))
end Ops13
