section Ops11
variable {xs : Nat → Int32} {Ln : Nat}
theorem s_up_c {α : Type} {f g : Nat → Nat → α} {a k b q : Nat} {v : α} (h : f b q = g b q) : s_up f a k v b q = s_up g a k v b q := by
  by_cases hb : b = a
  · by_cases hq : q = k
    · subst hb hq; rw [s_upe, s_upe]
    · rw [s_upk hq, s_upk hq]; exact h
  · rw [s_upa hb, s_upa hb]; exact h
theorem s_up_n {α : Type} {f : Nat → Nat → α} {a k b q : Nat} {v : α} (h : ¬ (b = a ∧ q = k)) : s_up f a k v b q = f b q := by
  by_cases hb : b = a
  · exact s_upk (fun hq => h ⟨hb, hq⟩)
  · exact s_upa hb
theorem w_det2 : ∀ (n : Nat) (t : i_T) (x : i_C) (Q : i_O → s_M → Prop), w_ex xs Ln n t x Q → ∃ (o : i_O) (M' : s_M), Q o M' ∧ ∀ Q' : i_O → s_M → Prop, w_ex xs Ln n t x Q' → Q' o M' := by
  intro n
  induction n with
  | zero => intro t x Q h; exact absurd h (by unfold w_ex; exact id)
  | succ n ih =>
    intro t x Q h
    obtain ⟨pc, L, st, M, ce, sl⟩ := x
    unfold w_ex at h ⊢
    split at h
    · exact h.elim
    · rename_i ins len a1 a2 pl hat
      split at h
      · split at h
        · exact ⟨_, _, h.2.2, fun Q' h' => h'.2.2⟩
        · exact h.elim
      · split at h
        · exact ⟨_, _, h.2, fun Q' h' => h'.2⟩
        · exact h.elim
      · split at h
        · exact ⟨_, _, h.2, fun Q' h' => h'.2⟩
        · exact h.elim
      · split at h
        · exact ⟨_, _, h.2, fun Q' h' => h'.2⟩
        · exact h.elim
      · split at h
        · split at h
          · obtain ⟨o, M', hq, hf⟩ := ih _ _ _ h.2
            exact ⟨o, M', hq, fun Q' h' => hf Q' h'.2⟩
          · exact h.elim
        · obtain ⟨o1, M1, hk, hf1⟩ := ih _ _ _ h.2.2.2.2
          cases o1 with
          | inl v =>
            obtain ⟨o, M', hq, hf⟩ := ih _ _ _ hk
            exact ⟨o, M', hq, fun Q' h' => hf Q' (hf1 _ h'.2.2.2.2)⟩
          | inr x => exact hk.elim
      · split at h
        · split at h
          · obtain ⟨o, M', hq, hf⟩ := ih _ _ _ h.2.2
            exact ⟨o, M', hq, fun Q' h' => hf Q' h'.2.2⟩
          · exact h.elim
        · obtain ⟨o1, M1, hk, hf1⟩ := ih _ _ _ h.2.2.2
          cases o1 with
          | inl v =>
            obtain ⟨o, M', hq, hf⟩ := ih _ _ _ hk
            exact ⟨o, M', hq, fun Q' h' => hf Q' (hf1 _ h'.2.2.2)⟩
          | inr x => exact hk.elim
      · obtain ⟨o1, M1, hk, hf1⟩ := ih _ _ _ h.2.2.2.2
        cases o1 with
        | inl v =>
          obtain ⟨o, M', hq, hf⟩ := ih _ _ _ hk
          exact ⟨o, M', hq, fun Q' h' => hf Q' (hf1 _ h'.2.2.2.2)⟩
        | inr x =>
          cases hh : k_hd t.1 x with
          | none =>
            have hk2 : k_ex t.1 = [] ∧ Q (.inr x) M1 := by
              have h2 := hk
              simp only [hh] at h2
              exact h2
            refine ⟨.inr x, M1, hk2.2, fun Q' h' => ?_⟩
            have h2 := hf1 _ h'.2.2.2.2
            simp only [hh] at h2
            exact h2.2
          | some r =>
            obtain ⟨pc', k⟩ := r
            have hk2 := hk
            simp only [hh] at hk2
            obtain ⟨o, M', hq, hf⟩ := ih _ _ _ hk2
            refine ⟨o, M', hq, fun Q' h' => ?_⟩
            have h2 := hf1 _ h'.2.2.2.2
            simp only [hh] at h2
            exact hf Q' h2
      · split at h
        · split at h
          · exact h.elim
          · obtain ⟨o, M', hq, hf⟩ := ih _ _ _ h.2
            exact ⟨o, M', hq, fun Q' h' => hf Q' h'.2⟩
        · exact ⟨_, _, h.2.2, fun Q' h' => h'.2.2⟩
      · split at h
        · exact h.elim
        · obtain ⟨o, M', hq, hf⟩ := ih _ _ _ h.2
          exact ⟨o, M', hq, fun Q' h' => hf Q' h'.2⟩
theorem w_R.one {j : Nat} {c : l_C} {o1 o2 : i_O} {s1 s2 : s_S} (h1 : w_R xs Ln j c (fun o s => o = o1 ∧ s = s1)) (h2 : w_R xs Ln j c (fun o s => o = o2 ∧ s = s2)) : o1 = o2 ∧ s1 = s2 := by
  obtain ⟨n1, e1⟩ := h1 0
  obtain ⟨n2, e2⟩ := h2 0
  obtain ⟨o, M, ⟨x, σ, hM, ho, hs⟩, hf⟩ := w_det2 _ _ _ _ (w_upto (Nat.le_add_right n1 n2) e1)
  obtain ⟨x', σ', hM', ho', hs'⟩ := hf _ (w_upto (Nat.le_add_left n2 n1) e2)
  rw [hM] at hM'
  have e3 : σ = σ' := (Prod.mk.inj (Prod.mk.inj hM').2).2
  exact ⟨ho.symm.trans ho', hs.symm.trans (e3.trans hs')⟩
theorem m_152n {I : Nat → Nat → Int32} {J : Nat → Nat → Int64} {Z : Nat → Nat → Bool} {w : Nat → Nat} {rem : Nat} {r e q d : Nat} {I1 : Nat → Nat → Int32} (hr : r < 2) (he : e < 16) (hk : Z 225 (16 * r + e) = true) (hq : q < 12) (hd : d < 4) (hjq : I 226 (16 * r + e) = Int32.ofNat q) (hdq : I 201 q = Int32.ofNat d) (hin : ¬ v_142 I J Z r e q d = 0) (hs : ¬ I 230 (16 * r + e) = 2) (h149 : w_R xs Ln 149 (0, [(0, .ref 199), (1, .int (Int32.ofNat r)), (2, .int (Int32.ofNat e))], [], (I, J, kR w rem, Z), 0, 0) (fun o s => o = .inl (some (.int 0)) ∧ s = (I, J, kR w rem, Z))) (h150 : w_R xs Ln 150 (0, [(0, .ref 199), (1, .int (Int32.ofNat r)), (2, .int (if I 229 (16 * r + e) = 0 then (5 - 1) / 2 else ((I 229 (16 * r + e)) - 1) / 2)), (3, .int (Int32.ofNat q)), (4, .int 0)], [], (s_up I 199 59 0, J, kR w rem, Z), 0, 0) (fun o s => o = .inl (some (.int (-1))) ∧ s = (I1, J, kR w rem, Z))) : w_R xs Ln 152 (0, [(0, .ref 199), (1, .int (Int32.ofNat r)), (2, .int (Int32.ofNat e))], [], (I, J, kR w rem, Z), 0, 0) (fun o s => o = .inl (some (.int (-1))) ∧ s = (I1, J, kR w rem, Z)) := by
  by_cases hg : I 229 (16 * r + e) = 0
  · rw [if_pos hg] at h150
    exact d_152nz r e q d I1 hr he hk hq hd hjq hdq hin hs h149 hg h150
  · rw [if_neg hg] at h150
    exact d_152np r e q d I1 hr he hk hq hd hjq hdq hin hs h149 hg h150
theorem m_152u {I : Nat → Nat → Int32} {J : Nat → Nat → Int64} {Z : Nat → Nat → Bool} {w : Nat → Nat} {rem : Nat} {r e n q d u : Nat} {I1 : Nat → Nat → Int32} (hr : r < 2) (he : e < 16) (hn : n ≤ 48) (hc2 : I1 199 44 = Int32.ofNat n) (hk : Z 225 (16 * r + e) = true) (hq : q < 12) (hd : d < 4) (hjq : I 226 (16 * r + e) = Int32.ofNat q) (hdq : I 201 q = Int32.ofNat d) (hin : ¬ v_142 I J Z r e q d = 0) (hs : ¬ I 230 (16 * r + e) = 2) (h149 : w_R xs Ln 149 (0, [(0, .ref 199), (1, .int (Int32.ofNat r)), (2, .int (Int32.ofNat e))], [], (I, J, kR w rem, Z), 0, 0) (fun o s => o = .inl (some (.int 0)) ∧ s = (I, J, kR w rem, Z))) (hu : u < 6) (hjq1 : I1 226 (16 * r + e) = Int32.ofNat q) (hdq1 : I1 201 q = Int32.ofNat d) (h150 : w_R xs Ln 150 (0, [(0, .ref 199), (1, .int (Int32.ofNat r)), (2, .int (if I 229 (16 * r + e) = 0 then (5 - 1) / 2 else ((I 229 (16 * r + e)) - 1) / 2)), (3, .int (Int32.ofNat q)), (4, .int 0)], [], (s_up I 199 59 0, J, kR w rem, Z), 0, 0) (fun o s => o = .inl (some (.int (Int32.ofNat u))) ∧ s = (I1, J, kR w rem, Z))) : w_R xs Ln 152 (0, [(0, .ref 199), (1, .int (Int32.ofNat r)), (2, .int (Int32.ofNat e))], [], (I, J, kR w rem, Z), 0, 0) (fun o s => o = .inl (some (.int (Int32.ofNat u))) ∧ s = (i_144 (s_up (s_up (i_mo I1 J Z r e u q (v_142 I1 J Z r e q d) n) 230 (16 * r + e) 1) 231 (16 * r + e) (Int32.ofNat u)) J (s_up Z 241 (6 * r + u) true) r e (g_s n) q d, J, kR w rem, z_144 (s_up (s_up (i_mo I1 J Z r e u q (v_142 I1 J Z r e q d) n) 230 (16 * r + e) 1) 231 (16 * r + e) (Int32.ofNat u)) J (s_up Z 241 (6 * r + u) true) r e (g_s n) q d)) := by
  by_cases h48 : n < 48
  · rw [show g_s n = n + 1 from if_pos h48, show i_mo I1 J Z r e u q (v_142 I1 J Z r e q d) n = i_moa I1 J Z r e u q (v_142 I1 J Z r e q d) n from if_pos h48]
    by_cases hg : I 229 (16 * r + e) = 0
    · rw [if_pos hg] at h150
      exact d_152uza r e n q d u I1 hr he h48 hc2 hk hq hd hjq hdq hin hs h149 hg hu hjq1 hdq1 h150
    · rw [if_neg hg] at h150
      exact d_152upa r e n q d u I1 hr he h48 hc2 hk hq hd hjq hdq hin hs h149 hg hu hjq1 hdq1 h150
  · have e48 : n = 48 := by omega
    subst e48
    rw [show g_s 48 = 48 from rfl, show i_mo I1 J Z r e u q (v_142 I1 J Z r e q d) 48 = I1 from if_neg h48]
    by_cases hg : I 229 (16 * r + e) = 0
    · rw [if_pos hg] at h150
      exact d_152uzb r e q d u I1 hr he hc2 hk hq hd hjq hdq hin hs h149 hg hu hjq1 hdq1 h150
    · rw [if_neg hg] at h150
      exact d_152upb r e q d u I1 hr he hc2 hk hq hd hjq hdq hin hs h149 hg hu hjq1 hdq1 h150
theorem op_12 : ∀ (a0 a1 : Int32), lw_okI xs Ln g_Rel 166 152 [.int a0, .int a1] := by
  intro a0 a1 m σ hR hm
  obtain ⟨I, J, Z, w, rem, p, q0, n, rfl, hP, hV⟩ := hR
  by_cases c0 : l_rg a0 0 2 = false
  · exact lw_badI (k := 1) (by decide) (h_166t0 a0 a1 (b_13_0 a0 a1 c0)) (b_152_0 a0 a1 c0) hP hV
  replace c0 := eq_true_of_ne_false c0
  obtain ⟨r, hr, rfl⟩ := l_of c0
  by_cases c1 : l_rg a1 0 16 = false
  · exact lw_badI (k := 1) (by decide) (h_166t0 (Int32.ofNat r) a1 (b_13_1 r a1 hr c1)) (b_152_1 r a1 hr c1) hP hV
  replace c1 := eq_true_of_ne_false c1
  obtain ⟨e, he, rfl⟩ := l_of c1
  have hre := hV.R.recs r e hr he
  obtain ⟨z0, e1, e2, e3, e4, e5, e6, e7, e8, e9⟩ := hV.R.recs r e hr he
  obtain ⟨i1, i2, -⟩ := hV.R.recin (16 * r + e) (by omega)
  by_cases hk : Z (148 + 29 * r + e) 0 = false
  · exact lw_badI (k := 1) (by decide) (h_166t0 (Int32.ofNat r) (Int32.ofNat e) (b_13_2 r e hr he hk)) (b_152_2 r e hr he (z0.symm.trans hk)) hP hV
  replace hk := eq_true_of_ne_false hk
  have hk2 : Z 225 (16 * r + e) = true := z0.symm.trans hk
  have hpn := hP.lt n (by have := hV.n; omega)
  obtain ⟨q, hq, hjq2⟩ := l_of i1
  have hjq := e1.trans hjq2
  obtain ⟨dd, dl⟩ := hV.R.dist q hq
  obtain ⟨d, hd, hdq⟩ := l_of dl
  have hdq2 := dd.symm.trans hdq
  have htk := hV.R.taken r e (by omega) he hk2
  rcases g_ch hV hr hd q with ⟨hin, hch, hnz⟩ | ⟨hin, hch⟩
  rotate_left
  · exact lw_badI (k := 2) (by decide) (h_166t1 (Int32.ofNat r) (Int32.ofNat e) (b_13_3 r e q d hr he hk hq hd hjq hdq hin)) (b_152_3 r e q d hr he hk2 hq hd hjq2 hdq2 hch) hP hV
  by_cases hs : I (148 + 29 * r + e) 5 = 2
  · exact lw_badI (k := 2) (by decide) (h_166t1 (Int32.ofNat r) (Int32.ofNat e) (b_13_4 r e q d hr he hk hq hd hjq hdq hin hs)) (b_152_4 r e q d hr he hk2 hq hd hjq2 hdq2 hnz (e5.symm.trans hs)) hP hV
  have hs2 : ¬ I 230 (16 * r + e) = 2 := fun h => hs (e5.trans h)
  rcases on_all (xs := xs) (Ln := Ln) (rem := rem) (w := w) hV hr e 6 0 rfl with ⟨o1, o2⟩ | ⟨o1, o2⟩
  · exact lw_badI (k := 2) (by decide) (h_166t1 (Int32.ofNat r) (Int32.ofNat e) (b_13_5 r e q d hr he hk hq hd hjq hdq hin hs (s93y r e _ o1))) (b_152_5 r e q d hr he hk2 hq hd hjq2 hdq2 hnz hs2 (s149y r e _ (o2 I J (fun _ _ _ => rfl)))) hP hV
  have h93 := s93y (xs := xs) (Ln := Ln) r e _ o1
  obtain ⟨y, I1, hy, n1, n2, n3⟩ := nr_all (xs := xs) (Ln := Ln) (rem := rem) (w := w) (hV.thr 0) hr hq 0 (v_65 I J Z (148 + 29 * r + e))
  rcases hy with rfl | ⟨u, hu, rfl⟩
  · have ejj : ∀ a k, 199 ≤ a → a < 256 → s_up J 256 0 (-1 : Int32).toInt64 a k = J a k := fun a k h1 h2 => s_upa (by omega)
    obtain ⟨A1, m1, m2⟩ := n3 (s_up I1 199 59 0) (s_up J 256 0 (-1 : Int32).toInt64) (fun a k h1 h2 => s_up_c (n2 a k (by omega)))
    have hsk : v_65 I J Z (148 + 29 * r + e) = if I1 229 (16 * r + e) = 0 then (5 - 1) / 2 else (I1 229 (16 * r + e) - 1) / 2 := by unfold v_65; rw [e4, n2 229 _ (by omega)]
    rw [hsk] at m1
    have hd2 := m_152n (I := I1) (J := s_up J 256 0 (-1 : Int32).toInt64) (Z := Z) (xs := xs) (Ln := Ln) (d := d) hr he hk2 hq hd ((n2 226 _ (by omega)).trans hjq2) ((n2 201 _ (by omega)).trans hdq2) (by unfold v_142; rw [v140_up (I := I) (J := J) (Z := Z) (fun k => n2 221 k (by omega)) (fun k => ejj 215 k (by omega) (by omega)) (fun k => ejj 223 k (by omega) (by omega)) (fun _ => rfl)]; exact hnz) (by rw [n2 230 _ (by omega)]; exact hs2) (s149y r e _ (o2 I1 _ (fun a k h => n2 a k (by omega)))) m1
    refine lw_finI (n := n) (k := 0) (h_166n (Int32.ofNat r) (Int32.ofNat e) (d_13n r e q d I1 hr he hk hq hd hjq hdq hin hs h93 n1)) hd2 ?_ (fun _ => ?_) hP (g_V.mono ((hV.thr 0).congr (fun a k h h4 _ => n2 a k h4) (fun a k h => s_upa (by omega)) (fun _ _ _ => rfl) (fun a k h1 h2 h3 _ _ _ h4 => ?_) ejj (fun _ _ _ _ => rfl))) (fun a k h => ?_) (fun _ _ _ => rfl) (fun _ _ _ => rfl)
    · exact (m2 199 59 (by omega)).trans (s_upe _ _ _ _)
    · exact s_upe _ _ _ _
    · exact (m2 a k h3).trans (s_up_c (n2 a k (by omega)))
    · exact (m2 a k (by omega)).trans (s_upa (by omega))
  · have hg48 : g_s n < 49 := by have := hV.n; unfold g_s; split <;> omega
    have hpn2 := hP.lt (g_s n) hg48
    have k1 : ∀ a k, 199 ≤ a → i_13u I J Z r e n p q d u I1 a k = I a k := fun a k h => by
      unfold i_13u
      rw [q41_e hpn2 (by omega) (by omega) (by omega) (by omega), s_upa (by omega), s_upa (by omega), q47_e hpn (by omega)]
      exact n2 a k (by omega)
    have k2 : ∀ a k, 199 ≤ a → z_13u I J Z r e n p q d u I1 a k = Z a k := fun a k h => by
      unfold z_13u
      rw [q41_z (by omega) (by omega)]
      exact s_upa (by omega)
    have ejj : ∀ a k, 199 ≤ a → a < 256 → s_up J 256 0 (Int32.ofNat u).toInt64 a k = J a k := fun a k h1 h2 => s_upa (by omega)
    have hc : w_R xs Ln 13 (0, [(0, .ref 1), (1, .int (Int32.ofNat r)), (2, .int (Int32.ofNat e))], [], (I, J, kR w rem, Z), 0, 0) (fun o s => o = .inl (some (.int (Int32.ofNat u))) ∧ s = (i_13u I J Z r e n p q d u I1, J, kR w rem, z_13u I J Z r e n p q d u I1)) := d_13u r e n p q d u I1 hr he hV.n hV.c1 hP.lt hP.at_ hk hq hd hjq hdq hin hs h93 hu n1 ((n2 33 1 (by omega)).trans hV.c1) ((n2 _ 1 (by omega)).trans hjq) ((n2 3 _ (by omega)).trans hdq)
    have hV1 : g_V m n p I J Z (i_13u I J Z r e n p q d u I1) (s_up J 256 0 (Int32.ofNat u).toInt64) (z_13u I J Z r e n p q d u I1) := hV.cls2 (fun a k h _ => k1 a k h) ejj (fun a k h _ => k2 a k h)
    obtain ⟨X, hX⟩ : ∃ X, X = i_13u I J Z r e n p q d u I1 := ⟨_, rfl⟩
    obtain ⟨C, hC⟩ : ∃ C, C = z_13u I J Z r e n p q d u I1 := ⟨_, rfl⟩
    obtain ⟨K, hK⟩ : ∃ K, K = s_up J 256 0 (Int32.ofNat u).toInt64 := ⟨_, rfl⟩
    have hK0 : K 256 0 = (Int32.ofNat u).toInt64 := by rw [hK]; exact s_upe _ _ _ _
    have hKa : ∀ a k, a < 199 → K a k = J a k := fun a k h => by rw [hK]; exact s_upa (by omega)
    rw [← hX] at k1
    rw [← hC] at k2
    rw [← hK] at ejj
    rw [← hX, ← hC, ← hK] at hV1
    have h149 : w_R xs Ln 149 (0, [(0, .ref 199), (1, .int (Int32.ofNat r)), (2, .int (Int32.ofNat e))], [], (X, K, kR w rem, C), 0, 0) (fun o s => o = .inl (some (.int 0)) ∧ s = (X, K, kR w rem, C)) := by
      rcases on_all (xs := xs) (Ln := Ln) (rem := rem) (w := w) hV1 hr e 6 0 rfl with ⟨p1, p2⟩ | ⟨p1, p2⟩
      · have := (w_R.one p1 o1).1
        cases this
      · exact s149y r e _ (p2 X K (fun _ _ _ => rfl))
    have hsk : v_65 I J Z (148 + 29 * r + e) = if X 229 (16 * r + e) = 0 then (5 - 1) / 2 else (X 229 (16 * r + e) - 1) / 2 := by unfold v_65; rw [e4, k1 229 _ (by omega)]
    obtain ⟨A1, m1, m2⟩ : ∃ A1 : Nat → Nat → Int32, w_R xs Ln 150 (0, [(0, .ref 199), (1, .int (Int32.ofNat r)), (2, .int (v_65 I J Z (148 + 29 * r + e))), (3, .int (Int32.ofNat q)), (4, .int 0)], [], (s_up X 199 59 0, K, kR w rem, C), 0, 0) (fun o s => o = .inl (some (.int (Int32.ofNat u))) ∧ s = (A1, K, kR w rem, C)) ∧ nr_of (s_up X 199 59 0) A1 := by
      obtain ⟨y', I1', -, l1, -, l3⟩ := nr_all (xs := xs) (Ln := Ln) (rem := rem) (w := w) (hV1.thr 0) hr hq 0 (v_65 I J Z (148 + 29 * r + e))
      have ey := (w_R.one l1 n1).1
      injection ey with ey
      injection ey with ey
      injection ey with ey
      obtain ⟨A1, m1, m2⟩ := l3 (s_up X 199 59 0) K (fun _ _ _ _ => rfl)
      rw [ey] at m1
      exact ⟨A1, m1, m2⟩
    rw [hsk] at m1
    have a1 : ∀ a k, 199 ≤ a → a ≠ 202 → ¬ (a = 199 ∧ k = 59) → A1 a k = I a k := fun a k h1 h2 h3 => ((m2 a k h2).trans (s_up_n h3)).trans (k1 a k h1)
    have v1 : v_140 A1 K C r d = v_140 I J Z r d := v140_up (fun k => a1 221 k (by omega) (by omega) (by omega)) (fun k => ejj 215 k (by omega) (by omega)) (fun k => ejj 223 k (by omega) (by omega)) (fun k => k2 217 k (by omega))
    have hd2 := m_152u (I := X) (J := K) (Z := C) (xs := xs) (Ln := Ln) (d := d) hr he hV.n ((a1 199 44 (by omega) (by omega) (by omega)).trans hV.c2) ((k2 225 _ (by omega)).trans hk2) hq hd ((k1 226 _ (by omega)).trans hjq2) ((k1 201 _ (by omega)).trans hdq2) (by unfold v_142; rw [v140_up (I := I) (J := J) (Z := Z) (fun k => k1 221 k (by omega)) (fun k => ejj 215 k (by omega) (by omega)) (fun k => ejj 223 k (by omega) (by omega)) (fun k => k2 217 k (by omega))]; exact hnz) (by rw [k1 230 _ (by omega)]; exact hs2) h149 hu ((a1 226 _ (by omega) (by omega) (by omega)).trans hjq2) ((a1 201 _ (by omega) (by omega) (by omega)).trans hdq2) m1
    have hVa : g_V m n p I1 J Z A1 K C := (hV1.thr 0).congr (fun a k h h4 _ => n2 a k h4) (fun _ _ _ => rfl) (fun _ _ _ => rfl) (fun a k h1 h2 h3 _ _ _ h4 => m2 a k h3) (fun _ _ _ _ => rfl) (fun _ _ _ _ => rfl)
    have hx1 : I1 (142 + 29 * r) d = v_142 A1 K C r e q d := by unfold v_142; rw [v1, hch]; exact n2 _ _ (by omega)
    have hVb := g_sorder hVa (g_ne hP.inj hV.n) (e := e) (u := u) (q := q) (d := d) hr he hu hq hx1
    have hVc : g_V m (g_s n) p (i_47 I1 J Z r e u n p q d) J (s_up Z (164 + 29 * r + u) 1 true) (i_mo A1 K C r e u q (v_142 A1 K C r e q d) n) K (s_up C 241 (6 * r + u) true) := by
      refine hVb.sgt hr hu (fun _ _ _ => rfl) (fun a k h => s_upa h) (fun _ _ _ => rfl) (fun a k h => ?_) ?_
      · rcases h with h | h
        · exact s_upa h.2
        · exact s_upk h
      · obtain ⟨t0, t1, t2, t3, t4, t5, t6, t7⟩ := hVb.R.sight r u hr hu
        rw [s_upk (by omega), s_upe, s_upa (by omega), s_upe]
        exact ⟨t0, fun _ => rfl, t2, t3, t4, t5, t6, t7⟩
    have hVd : g_V m (g_s n) p (s_up (s_up (i_47 I1 J Z r e u n p q d) (148 + 29 * r + e) 5 1) (148 + 29 * r + e) 6 (Int32.ofNat u)) J (s_up Z (164 + 29 * r + u) 1 true) (s_up (s_up (i_mo A1 K C r e u q (v_142 A1 K C r e q d) n) 230 (16 * r + e) 1) 231 (16 * r + e) (Int32.ofNat u)) K (s_up C 241 (6 * r + u) true) := by
      refine hVc.rec hr he (fun a k h => by rw [s_upa h, s_upa h]) (fun _ _ _ => rfl) (fun a k h => by rcases h with h | h | h <;> simp (disch := omega) only [s_upf, s_upk]) (fun _ _ _ => rfl) ?_ ?_ (fun _ => ?_)
      · obtain ⟨z0, e1, e2, e3, e4, e5, e6, e7, e8, e9⟩ := hVc.R.recs r e hr he
        unfold g_rec
        simp (disch := omega) only [s_upe, s_upf, s_upk] at z0 e1 e2 e3 e4 e7 e8 e9 ⊢
        exact ⟨z0, e1, e2, e3, e4, trivial, trivial, e7, e8, e9⟩
      · have h3 := hVc.R.recin (16 * r + e) (by omega)
        simp (disch := omega) only [s_upf] at h3 ⊢
        exact h3
      · exact hVc.R.taken r e (by omega) he ((s_upa (by omega)).trans ((k2 225 _ (by omega)).trans hk2))
    have hVe := g_change (r := r) (e := e) (q := q) (d := d) hVd hP.inj hr he ((s_upa (by omega)).trans ((k2 225 _ (by omega)).trans hk2)) (by
      rw [v140_up (I := A1) (J := K) (Z := C) (fun k => by rw [s_upa (by omega), s_upa (by omega)]; exact i_mo_e (by omega) (by omega)) (fun _ => rfl) (fun _ => rfl) (fun k => s_upa (by omega)), v1, hch, s_upa (by omega), s_upa (by omega), q47_e hpn (by omega)]
      exact (n2 _ _ (by omega)).symm)
    have hfin := h_166n (Int32.ofNat r) (Int32.ofNat e) hc
    rw [← hX, ← hC, ← hK] at hfin
    change g_V m (g_s (g_s n)) p (i_13u I J Z r e n p q d u I1) J (z_13u I J Z r e n p q d u I1) _ _ _ at hVe
    rw [← hX, ← hC] at hVe
    refine lw_finI (n := g_s (g_s n)) (k := 0) hfin hd2 ?_ (fun _ => hK0) hP (g_V.mono (hVe.congr (fun _ _ _ _ _ => rfl) hKa (fun _ _ _ => rfl) (fun _ _ _ _ _ _ _ _ _ => rfl) (fun _ _ _ _ => rfl) (fun _ _ _ _ => rfl))) (fun a k h => ?_) (fun _ _ _ => rfl) (fun a k h => ?_)
    · refine q144_0 ?_
      rw [s_upa (by omega), s_upa (by omega), i_mo_e (by omega) (by omega)]
      exact (m2 199 59 (by omega)).trans (s_upe _ _ _ _)
    · rw [q144_e (by omega) (by omega), s_upa (by omega), s_upa (by omega), i_mo_e (by omega) (by omega)]
      exact (m2 a k (by omega)).trans (s_upa (by omega))
    · exact (q144_z h).trans (s_upa (by omega))
end Ops11
