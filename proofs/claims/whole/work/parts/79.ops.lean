section Ops4
variable {xs : Nat → Int32} {Ln : Nat}
theorem g_ch {m n : Nat} {p : Nat → Nat} {I I' : Nat → Nat → Int32} {J J' : Nat → Nat → Int64} {Z Z' : Nat → Nat → Bool} (h : g_V m n p I J Z I' J' Z') {r d : Nat} (hr : r < 2) (hd : d < 4) (q : Nat) :
    (v_36 I J Z r q d = true ∧ v_140 I' J' Z' r d = I (142 + 29 * r) d ∧ ¬ v_140 I' J' Z' r d = 0) ∨ (v_36 I J Z r q d = false ∧ v_140 I' J' Z' r d = 0) := by
  rw [g_charge h hr hd]
  obtain ⟨b0, b1, b2, b3⟩ := h.R.grant r d hr hd
  rw [← b0] at b3
  by_cases hp : 0 < v_92 I J Z r d
  · refine Or.inl ⟨by unfold v_36; rw [if_pos hp], ?_, fun e => by rw [e] at hp; exact absurd hp (by decide)⟩
    revert hp
    unfold v_92
    split
    · split
      · exact fun _ => rfl
      · exact fun h => absurd h (by decide)
    · exact fun h => absurd h (by decide)
  · refine Or.inr ⟨by unfold v_36; rw [if_neg hp], ?_⟩
    revert hp
    unfold v_92
    split
    · split
      · intro hp
        have h1 := of_decide_eq_true b3
        rw [Int32.lt_iff_toInt_lt] at hp
        rw [← Int32.toInt_inj]
        have z : (0 : Int32).toInt = 0 := rfl
        omega
      · exact fun _ => rfl
    · exact fun _ => rfl
theorem v140_up {I A : Nat → Nat → Int32} {J B : Nat → Nat → Int64} {Z C : Nat → Nat → Bool} {r d : Nat} (ei : ∀ k, A 221 k = I 221 k) (ej : ∀ k, B 215 k = J 215 k) (ej2 : ∀ k, B 223 k = J 223 k) (ez : ∀ k, C 217 k = Z 217 k) : v_140 A B C r d = v_140 I J Z r d := by
  unfold v_140; rw [ei, ej, ej2, ez]
theorem g_after {m n : Nat} {p : Nat → Nat} {I CH : Nat → Nat → Int32} {J J1 : Nat → Nat → Int64} {Z : Nat → Nat → Bool} {r e q d : Nat} (hpn : p n < 50) (hV : g_V m n p I J Z I J Z) (hr : r < 2) (he : e < 16) (ej : ∀ a k, 199 ≤ a → a < 256 → J1 a k = J a k) (eC : ∀ a k, a ≠ 148 + 29 * r + e → CH a k = I a k) :
    g_V m n p I J Z (i_41 CH J Z r e n p q d) J1 (z_41 CH J Z r e n p q d) ∧ (∀ a k, 199 ≤ a → i_41 CH J Z r e n p q d a k = I a k) ∧ (∀ a k, 199 ≤ a → z_41 CH J Z r e n p q d a k = Z a k) := by
  have h1 : ∀ a k, 199 ≤ a → i_41 CH J Z r e n p q d a k = I a k := fun a k h => (q41_e hpn (by omega) (by omega) (by omega) (by omega)).trans (eC a k (by omega))
  have h2 : ∀ a k, 199 ≤ a → z_41 CH J Z r e n p q d a k = Z a k := fun a k h => q41_z (by omega) (by omega)
  exact ⟨hV.cls2 (fun a k h _ => h1 a k h) ej (fun a k h _ => h2 a k h), h1, h2⟩
theorem q144_0 {I : Nat → Nat → Int32} {J : Nat → Nat → Int64} {Z : Nat → Nat → Bool} {r e n q d : Nat} {v : Int32} (h : I 199 59 = v) : i_144 I J Z r e n q d 199 59 = v := (q144_e (by omega) (by omega)).trans h
theorem q144_z {I : Nat → Nat → Int32} {J : Nat → Nat → Int64} {Z : Nat → Nat → Bool} {r e n q d a k : Nat} (h : a < 199) : z_144 I J Z r e n q d a k = Z a k := s_upa (by omega)
theorem op_13 : ∀ (a0 a1 : Int32), lw_okV xs Ln g_Rel 167 153 [.int a0, .int a1] := by
  intro a0 a1 m σ hR hm
  obtain ⟨I, J, Z, w, rem, p, q0, n, rfl, hP, hV⟩ := hR
  by_cases c0 : l_rg a0 0 2 = false
  · exact lw_badV (k := 1) (h_167t0 a0 a1 (b_14_0 a0 a1 c0)) (b_153_0 a0 a1 c0) hP hV
  replace c0 := eq_true_of_ne_false c0
  obtain ⟨r, hr, rfl⟩ := l_of c0
  by_cases c1 : l_rg a1 0 16 = false
  · exact lw_badV (k := 1) (h_167t0 (Int32.ofNat r) a1 (b_14_1 r a1 hr c1)) (b_153_1 r a1 hr c1) hP hV
  replace c1 := eq_true_of_ne_false c1
  obtain ⟨e, he, rfl⟩ := l_of c1
  have hre := hV.R.recs r e hr he
  obtain ⟨z0, e1, e2, e3, e4, e5, e6, e7, e8, e9⟩ := hV.R.recs r e hr he
  obtain ⟨i1, i2, -⟩ := hV.R.recin (16 * r + e) (by omega)
  by_cases hk : Z (148 + 29 * r + e) 0 = false
  · exact lw_badV (k := 1) (h_167t0 (Int32.ofNat r) (Int32.ofNat e) (b_14_2 r e hr he hk)) (b_153_2 r e hr he (z0.symm.trans hk)) hP hV
  replace hk := eq_true_of_ne_false hk
  have hk2 : Z 225 (16 * r + e) = true := z0.symm.trans hk
  have hpn := hP.lt n (by have := hV.n; omega)
  obtain ⟨q, hq, hjq2⟩ := l_of i1
  have hjq := e1.trans hjq2
  obtain ⟨dd, dl⟩ := hV.R.dist q hq
  obtain ⟨d, hd, hdq⟩ := l_of dl
  have hdq2 := dd.symm.trans hdq
  have htk := hV.R.taken r e (by omega) he hk2
  rcases g_ch hV hr hd q with ⟨hin, hch, hnz⟩ | ⟨hin, hch⟩
  rotate_left
  · exact lw_badV (k := 2) (h_167t1 (Int32.ofNat r) (Int32.ofNat e) (b_14_3 r e q d hr he hk hq hd hjq hdq hin)) (b_153_3 r e q d hr he hk2 hq hd hjq2 hdq2 hch) hP hV
  by_cases hs : I (148 + 29 * r + e) 5 = 2
  · exact lw_badV (k := 2) (h_167t1 (Int32.ofNat r) (Int32.ofNat e) (b_14_4 r e q d hr he hk hq hd hjq hdq hin hs)) (b_153_4 r e q d hr he hk2 hq hd hjq2 hdq2 hnz (e5.symm.trans hs)) hP hV
  have hs2 : ¬ I 230 (16 * r + e) = 2 := fun h => hs (e5.trans h)
  have eC : ∀ a k, a ≠ 148 + 29 * r + e → (s_up I (148 + 29 * r + e) 5 2) a k = I a k := fun a k h => s_upa h
  obtain ⟨hV1, k1, k2⟩ := g_after (q := q) (d := d) (J1 := J) hpn hV hr he (fun _ _ _ _ => rfl) eC
  change g_V m n p I J Z (i_14 I J Z r e n p q d) J (z_14 I J Z r e n p q d) at hV1
  change ∀ a k, 199 ≤ a → i_14 I J Z r e n p q d a k = I a k at k1
  change ∀ a k, 199 ≤ a → z_14 I J Z r e n p q d a k = Z a k at k2
  have hd2 := d_153 (I := i_14 I J Z r e n p q d) (J := J) (Z := z_14 I J Z r e n p q d) (w := w) (rem := rem) (xs := xs) (Ln := Ln) r e n q d hr he hV.n ((k1 199 44 (by omega)).trans hV.c2) ((k2 225 _ (by omega)).trans hk2) hq hd ((k1 226 _ (by omega)).trans hjq2) ((k1 201 _ (by omega)).trans hdq2) (by unfold v_142; rw [v140_up (I := I) (J := J) (Z := Z) (fun k => k1 221 k (by omega)) (fun _ => rfl) (fun _ => rfl) (fun k => k2 217 k (by omega))]; exact hnz) (fun h => hs2 ((k1 230 _ (by omega)).symm.trans h))
  refine lw_finV (n := g_s n) (k := 0) (h_167n (Int32.ofNat r) (Int32.ofNat e) (d_14 r e n p q d hr he hV.n hV.c1 hP.lt hP.at_ hk hq hd hjq hdq hin hs)) hd2 ?_ hP (g_V.mono (g_change (r := r) (e := e) (q := q) (d := d) ?_ hP.inj hr he ?_ ?_)) (fun a k h => ?_) (fun _ _ _ => rfl) (fun a k h => ?_)
  · exact q144_0 (by rw [s_upa (by omega)]; exact s_upe _ _ _ _)
  · refine (hV1.thr 0).rec hr he eC (fun _ _ _ => rfl) (fun a k h => by rcases h with h | h | h <;> simp (disch := omega) only [s_upf, s_upk]) (fun _ _ _ => rfl) ?_ ?_ (fun _ => ?_)
    · obtain ⟨z0, e1, e2, e3, e4, e5, e6, e7, e8, e9⟩ := (hV1.thr 0).R.recs r e hr he
      unfold g_rec
      simp (disch := omega) only [s_upe, s_upf, s_upk] at *
      exact ⟨z0, e1, e2, e3, e4, trivial, e6, e7, e8, e9⟩
    · have h3 := (hV1.thr 0).R.recin (16 * r + e) (by omega)
      simp (disch := omega) only [s_upf] at h3 ⊢
      exact h3
    · exact (hV1.thr 0).R.taken r e (by omega) he ((k2 225 _ (by omega)).trans hk2)
  · exact (k2 225 _ (by omega)).trans hk2
  · rw [v140_up (I := I) (J := J) (Z := Z) (fun k => by simp (disch := omega) only [s_upf]; exact k1 221 k (by omega)) (fun _ => rfl) (fun _ => rfl) (fun k => k2 217 k (by omega)), hch]
    exact (s_upa (by omega)).symm
  · unfold i_153; rw [q144_e (by omega) (by omega)]; simp (disch := omega) only [s_upf]
  · exact q144_z h
theorem op_14 : ∀ (a0 a1 : Int32), lw_okV xs Ln g_Rel 168 154 [.int a0, .int a1] := by
  intro a0 a1 m σ hR hm
  obtain ⟨I, J, Z, w, rem, p, q0, n, rfl, hP, hV⟩ := hR
  by_cases c0 : l_rg a0 0 2 = false
  · exact lw_badV (k := 1) (h_168t0 a0 a1 (b_15_0 a0 a1 c0)) (b_154_0 a0 a1 c0) hP hV
  replace c0 := eq_true_of_ne_false c0
  obtain ⟨r, hr, rfl⟩ := l_of c0
  by_cases c1 : l_rg a1 0 16 = false
  · exact lw_badV (k := 1) (h_168t0 (Int32.ofNat r) a1 (b_15_1 r a1 hr c1)) (b_154_1 r a1 hr c1) hP hV
  replace c1 := eq_true_of_ne_false c1
  obtain ⟨e, he, rfl⟩ := l_of c1
  have hre := hV.R.recs r e hr he
  obtain ⟨z0, e1, e2, e3, e4, e5, e6, e7, e8, e9⟩ := hV.R.recs r e hr he
  obtain ⟨i1, i2, -⟩ := hV.R.recin (16 * r + e) (by omega)
  by_cases hk : Z (148 + 29 * r + e) 0 = false
  · exact lw_badV (k := 1) (h_168t0 (Int32.ofNat r) (Int32.ofNat e) (b_15_2 r e hr he hk)) (b_154_2 r e hr he (z0.symm.trans hk)) hP hV
  replace hk := eq_true_of_ne_false hk
  have hk2 : Z 225 (16 * r + e) = true := z0.symm.trans hk
  have hpn := hP.lt n (by have := hV.n; omega)
  obtain ⟨y0, y1, y2, y3, y4⟩ := hV.R.room r hr
  by_cases hz : Z (141 + 29 * r) 0 = false
  · have hz2 : Z 217 r = true := by rw [hz] at y0; revert y0; cases Z 217 r <;> decide
    exact lw_badV (k := 2) (h_168t1 (Int32.ofNat r) (Int32.ofNat e) (b_15_3 r e hr he hk hz)) (b_154_3 r e hr he hk2 hz2) hP hV
  replace hz := eq_true_of_ne_false hz
  have hz2 : Z 217 r = false := by rw [hz] at y0; revert y0; cases Z 217 r <;> decide
  have k1 : ∀ a k, 199 ≤ a → i_15 I J Z r e n p a k = I a k := fun a k h => by unfold i_15 i_45 i_64; simp (disch := omega) only [s_upf]; exact p72_e (by omega) (by omega)
  have k2 : ∀ a k, 199 ≤ a → z_15 I J Z r e n p a k = Z a k := fun a k h => by unfold z_15 z_45 z_64; exact s_upa (by omega)
  have hV1 : g_V m n p I J Z (i_15 I J Z r e n p) J (z_15 I J Z r e n p) := hV.cls k1 (fun _ _ _ => rfl) k2
  have hd2 := d_154 (I := i_15 I J Z r e n p) (J := J) (Z := z_15 I J Z r e n p) (w := w) (rem := rem) (xs := xs) (Ln := Ln) r e n hr he hV.n ((k1 199 44 (by omega)).trans hV.c2) ((k2 225 _ (by omega)).trans hk2) ((k2 217 _ (by omega)).trans hz2)
  have hV2 := hV1.thr 0
  refine lw_finV (n := g_s n) (k := 0) (h_168n (Int32.ofNat r) (Int32.ofNat e) (d_15 r e n p hr he hV.n hV.c1 hP.lt hP.at_ hk hz)) hd2 ?_ hP (g_V.mono (g_sendRec hV2 (g_ne hP.inj hV.n) (Or.inr (by omega)) (by omega) he (hV2.R.recs r e hr he) ((k2 225 _ (by omega)).trans hk2) (Or.inr ⟨rfl, hr, rfl⟩))) (fun a k h => ?_) (fun _ _ _ => rfl) (fun _ _ _ => rfl)
  · unfold i_154; rw [q118_e (by omega) (by omega)]; exact s_upe _ _ _ _
  · unfold i_154; rw [q118_e (by omega) (by omega)]; exact s_upa (by omega)
theorem op_11 : ∀ (a0 a1 : Int32) (y : Bool), lw_okI xs Ln g_Rel 165 147 [.int a0, .int a1, .int (s_b y)] := by
  intro a0 a1 y m σ hR hm
  obtain ⟨I, J, Z, w, rem, p, q0, n, rfl, hP, hV⟩ := hR
  by_cases c0 : l_rg a0 0 2 = false
  · exact lw_badI (k := 1) (by decide) (h_165t0 a0 a1 y (b_12_0 a0 a1 y c0)) (b_147_0 a0 a1 y c0) hP hV
  replace c0 := eq_true_of_ne_false c0
  obtain ⟨r, hr, rfl⟩ := l_of c0
  by_cases c1 : l_rg a1 0 16 = false
  · exact lw_badI (k := 1) (by decide) (h_165t0 (Int32.ofNat r) a1 y (b_12_1 r a1 y hr c1)) (b_147_1 r a1 y hr c1) hP hV
  replace c1 := eq_true_of_ne_false c1
  obtain ⟨e, he, rfl⟩ := l_of c1
  have hre := hV.R.recs r e hr he
  obtain ⟨z0, e1, e2, e3, e4, e5, e6, e7, e8, e9⟩ := hV.R.recs r e hr he
  obtain ⟨i1, i2, -⟩ := hV.R.recin (16 * r + e) (by omega)
  by_cases hk : Z (148 + 29 * r + e) 0 = false
  · exact lw_badI (k := 1) (by decide) (h_165t0 (Int32.ofNat r) (Int32.ofNat e) y (b_12_2 r e y hr he hk)) (b_147_2 r e y hr he (z0.symm.trans hk)) hP hV
  replace hk := eq_true_of_ne_false hk
  have hk2 : Z 225 (16 * r + e) = true := z0.symm.trans hk
  have hpn := hP.lt n (by have := hV.n; omega)
  obtain ⟨q, hq, hjq2⟩ := l_of i1
  have hjq := e1.trans hjq2
  obtain ⟨dd, dl⟩ := hV.R.dist q hq
  obtain ⟨d, hd, hdq⟩ := l_of dl
  have hdq2 := dd.symm.trans hdq
  have htk := hV.R.taken r e (by omega) he hk2
  rcases g_ch hV hr hd q with ⟨hin, hch, hnz⟩ | ⟨hin, hch⟩
  rotate_left
  · exact lw_badI (k := 2) (by decide) (h_165t1 (Int32.ofNat r) (Int32.ofNat e) y (b_12_3 r e y q d hr he hk hq hd hjq hdq hin)) (b_147_3 r e y q d hr he hk2 hq hd hjq2 hdq2 hch) hP hV
  by_cases hs : I (148 + 29 * r + e) 5 = 2
  · exact lw_badI (k := 2) (by decide) (h_165t1 (Int32.ofNat r) (Int32.ofNat e) y (b_12_4 r e y q d hr he hk hq hd hjq hdq hin hs)) (b_147_4 r e y q d hr he hk2 hq hd hjq2 hdq2 hnz (e5.symm.trans hs)) hP hV
  have hs2 : ¬ I 230 (16 * r + e) = 2 := fun h => hs (e5.trans h)
  by_cases hg : 0 < I (148 + 29 * r + e) 4
  · exact lw_badI (k := 2) (by decide) (h_165t1 (Int32.ofNat r) (Int32.ofNat e) y (b_12_5 r e y q d hr he hk hq hd hjq hdq hin hs hg)) (b_147_5 r e y q d hr he hk2 hq hd hjq2 hdq2 hnz hs2 (by rw [← e4]; exact hg)) hP hV
  have hg2 : ¬ 0 < I 229 (16 * r + e) := by rw [← e4]; exact hg
  obtain ⟨v, hv16, hv2⟩ := l_of i2
  have hv := e3.trans hv2
  obtain ⟨cd0, cd1, cd2, cd3, cd4⟩ := hV.R.card v hv16
  have fin : ∀ (x : Nat) (CH : Nat → Nat → Int32) (CM : (Nat → Nat → Int32) → Nat → Nat → Int32), x < 16 → (∀ a k, a ≠ 148 + 29 * r + e → CH a k = I a k) → CH (148 + 29 * r + e) 3 = Int32.ofNat x → CH (148 + 29 * r + e) 4 = I 9 x → (∀ k, k ≠ 3 → k ≠ 4 → CH (148 + 29 * r + e) k = I (148 + 29 * r + e) k) →
      (∀ A a k, a ≠ 228 ∧ a ≠ 229 ∨ k ≠ 16 * r + e → CM A a k = s_up A 199 59 0 a k) → (∀ A : Nat → Nat → Int32, (∀ a k, 199 ≤ a → A a k = I a k) → CM A 228 (16 * r + e) = Int32.ofNat x ∧ CM A 229 (16 * r + e) = I 203 x) →
      w_R xs Ln 12 (0, [(0, .ref 1), (1, .int (Int32.ofNat r)), (2, .int (Int32.ofNat e)), (3, .int (s_b y))], [], (I, J, kR w rem, Z), 0, 0) (fun o s => o = .inl (some (.int (I 9 x))) ∧ s = (i_41 CH J Z r e n p q d, J, kR w rem, z_41 CH J Z r e n p q d)) →
      (∀ (A : Nat → Nat → Int32) (Bj : Nat → Nat → Int64) (C : Nat → Nat → Bool), (∀ a k, 199 ≤ a → A a k = I a k) → (∀ a k, 199 ≤ a → a < 256 → Bj a k = J a k) → (∀ a k, 199 ≤ a → C a k = Z a k) → w_R xs Ln 147 (0, [(0, .ref 199), (1, .int (Int32.ofNat r)), (2, .int (Int32.ofNat e)), (3, .int (s_b y))], [], (A, Bj, kR w rem, C), 0, 0) (fun o s => o = .inl (some (.int (I 203 x))) ∧ s = (i_144 (CM A) Bj C r e n q d, Bj, kR w rem, z_144 (CM A) Bj C r e n q d))) →
      ∃ (k v : Int32) (σ1 : s_S) (I2 : Nat → Nat → Int32) (J2 : Nat → Nat → Int64) (Z2 : Nat → Nat → Bool) (w2 : Nat → Nat) (rem2 : Nat), w_R xs Ln 165 (0, lv_args 0 (.ref 1 :: ([.int (Int32.ofNat r), .int (Int32.ofNat e), .int (s_b y)] ++ [.ref 256])), [], (I, J, kR w rem, Z), 0, 0) (fun o s => o = .inl (some (.int k)) ∧ s = σ1) ∧
      w_R xs Ln 147 (0, lv_args 0 (.ref 199 :: [.int (Int32.ofNat r), .int (Int32.ofNat e), .int (s_b y)]), [], σ1, 0, 0) (fun o s => o = .inl (some (.int v)) ∧ s = (I2, J2, kR w2 rem2, Z2)) ∧ I2 199 59 = k ∧ (k = 0 → J2 256 0 = v.toInt64) ∧ g_Rel (m + 1) (I2, J2, kR w2 rem2, Z2) := by
    intro x CH CM hx eC c3 c4 c5 eM mM hcls hmod
    have ex : I 9 x = I 203 x := (hV.R.card x hx).1
    have ejj : ∀ a k, 199 ≤ a → a < 256 → s_up J 256 0 (I 9 x).toInt64 a k = J a k := fun a k h1 h2 => s_upa (by omega)
    obtain ⟨hV1, k1, k2⟩ := g_after (q := q) (d := d) (J1 := s_up J 256 0 (I 9 x).toInt64) hpn hV hr he ejj eC
    have hd2 := hmod _ _ _ k1 ejj k2
    obtain ⟨m3, m4⟩ := mM _ k1
    have eM' := eM (i_41 CH J Z r e n p q d)
    have hV3 : g_V m n p CH J Z (CM (i_41 CH J Z r e n p q d)) (s_up J 256 0 (I 9 x).toInt64) (z_41 CH J Z r e n p q d) := by
      refine (hV1.thr 0).rec hr he eC (fun _ _ _ => rfl) (fun a k h => eM' a k (by omega)) (fun _ _ _ => rfl) ?_ ?_ (fun _ => ?_)
      · obtain ⟨z0, e1, e2, e3, e4, e5, e6, e7, e8, e9⟩ := (hV1.thr 0).R.recs r e hr he
        unfold g_rec
        simp (disch := omega) only [c3, c4, c5, m3, m4, eM', s_upf] at *
        exact ⟨z0, e1, e2, trivial, ex, e5, e6, e7, e8, e9⟩
      · have h3 := (hV1.thr 0).R.recin (16 * r + e) (by omega)
        simp (disch := omega) only [m3, m4, eM', s_upf] at h3 ⊢
        exact ⟨h3.1, l_inN hx (by decide), h3.2.2⟩
      · exact (hV1.thr 0).R.taken r e (by omega) he ((k2 225 _ (by omega)).trans hk2)
    have hV4 := g_change (r := r) (e := e) (q := q) (d := d) hV3 hP.inj hr he ((k2 225 _ (by omega)).trans hk2) (by
      rw [v140_up (I := I) (J := J) (Z := Z) (fun k => by rw [eM' 221 k (by omega), s_upa (by omega)]; exact k1 221 k (by omega)) (fun k => ejj 215 k (by omega) (by omega)) (fun k => ejj 223 k (by omega) (by omega)) (fun k => k2 217 k (by omega)), hch]
      exact (eC _ _ (by omega)).symm)
    refine lw_finI (n := g_s n) (k := 0) (h_165n (Int32.ofNat r) (Int32.ofNat e) y hcls) hd2 ?_ (fun _ => ?_) hP (g_V.mono (hV4.congr (fun _ _ _ _ _ => rfl) (fun a k h => s_upa (by omega)) (fun _ _ _ => rfl) (fun _ _ _ _ _ _ _ _ _ => rfl) (fun _ _ _ _ => rfl) (fun _ _ _ _ => rfl))) (fun a k h => ?_) (fun _ _ _ => rfl) (fun a k h => ?_)
    · exact q144_0 ((eM' 199 59 (by omega)).trans (s_upe _ _ _ _))
    · rw [s_upe, ex]
    · rw [q144_e (by omega) (by omega), eM' a k (by omega)]; exact s_upa (by omega)
    · exact q144_z h
  have hmv : ∀ (A : Nat → Nat → Int32) (Bj : Nat → Nat → Int64) (C : Nat → Nat → Bool), (∀ a k, 199 ≤ a → A a k = I a k) → (∀ a k, 199 ≤ a → a < 256 → Bj a k = J a k) → (∀ a k, 199 ≤ a → C a k = Z a k) → ¬ v_142 A Bj C r e q d = 0 := by
    intro A Bj C h1 h2 h3
    unfold v_142
    rw [v140_up (I := I) (J := J) (Z := Z) (fun k => h1 221 k (by omega)) (fun k => h2 215 k (by omega) (by omega)) (fun k => h2 223 k (by omega) (by omega)) (fun k => h3 217 k (by omega))]
    exact hnz
  by_cases hl : v_78 I J Z v = true
  · have hl2 : ¬ I 203 v = 0 := fun h => by
      have : I 9 v = 0 := cd0.trans h
      unfold v_78 at hl
      rw [this, if_neg (by decide)] at hl
      cases hl
    refine fin v (s_up I (148 + 29 * r + e) 4 (I 9 v)) (fun A => s_up (s_up A 199 59 0) 229 (16 * r + e) (A 203 v)) hv16 (fun a k h => s_upa h) (by rw [s_upk (by omega)]; exact hv) (s_upe _ _ _ _) (fun k h1 h2 => s_upk h2) (fun A a k h => by rcases h with h | h <;> simp (disch := omega) only [s_upf, s_upk]) (fun A h => ?_) (d_12l r e y n p q d v hr he hV.n hV.c1 hP.lt hP.at_ hk hq hd hjq hdq hin hs hg hv16 hv hl) (fun A Bj C h1 h2 h3 => ?_)
    · simp (disch := omega) only [s_upf, s_upe, h]
      exact ⟨hv2, trivial⟩
    · have hd2 := d_147l (I := A) (J := Bj) (Z := C) (w := w) (rem := rem) (xs := xs) (Ln := Ln) r e y n q d v hr he hV.n ((h1 199 44 (by omega)).trans hV.c2) ((h3 225 _ (by omega)).trans hk2) hq hd ((h1 226 _ (by omega)).trans hjq2) ((h1 201 _ (by omega)).trans hdq2) (hmv A Bj C h1 h2 h3) (by rw [h1 230 _ (by omega)]; exact hs2) (by rw [h1 229 _ (by omega)]; exact hg2) hv16 ((h1 228 _ (by omega)).trans hv2) (by rw [h1 203 _ (by omega)]; exact hl2)
      rw [show v_147l A Bj C r e y n q d v = I 203 v from h1 203 v (by omega)] at hd2
      exact hd2
  · replace hl := Bool.eq_false_iff.mpr hl
    have hl0 : I 9 v = 0 := by
      obtain ⟨b, hb, eb⟩ := l_of cd1
      unfold v_78 at hl
      by_cases h0 : 0 < b
      · rw [eb, if_pos (n_pos h0 (by omega))] at hl; cases hl
      · rw [eb]; have : b = 0 := by omega
        subst this; rfl
    have hl2 : I 203 v = 0 := cd0.symm.trans hl0
    obtain ⟨g1, g2⟩ := cd2 hl0
    cases y with
    | true =>
      obtain ⟨x, hx16, hx⟩ := l_of cd3
      refine fin x (s_up (s_up I (148 + 29 * r + e) 3 (Int32.ofNat x)) (148 + 29 * r + e) 4 (I 9 x)) (fun A => s_up (s_up (s_up A 199 59 0) 228 (16 * r + e) (Int32.ofNat x)) 229 (16 * r + e) (A 203 x)) hx16 (fun a k h => by simp (disch := omega) only [s_upf]) (by simp (disch := omega) only [s_upk, s_upe]) (s_upe _ _ _ _) (fun k h1 h2 => by simp (disch := omega) only [s_upk]) (fun A a k h => by rcases h with h | h <;> simp (disch := omega) only [s_upf, s_upk]) (fun A h => ?_) ?_ (fun A Bj C h1 h2 h3 => ?_)
      · simp (disch := omega) only [s_upf, s_upe, h]
        exact ⟨trivial, trivial⟩
      · have hc := d_12q (I := I) (J := J) (Z := Z) (w := w) (rem := rem) (xs := xs) (Ln := Ln) r e true n p q d v x hr he hV.n hV.c1 hP.lt hP.at_ hk hq hd hjq hdq hin hs hg hv16 hv hl hx16 hx
        have ev : ∀ c : Int32, v_79 (s_up I (148 + 29 * r + e) 3 c) J Z x = I 9 x := fun c => by unfold v_79; exact s_upa (by omega)
        unfold v_12q i_12q z_12q at hc
        rw [ev] at hc
        exact hc
      · have hd2 := d_147t (I := A) (J := Bj) (Z := C) (w := w) (rem := rem) (xs := xs) (Ln := Ln) r e n q d v x hr he hV.n ((h1 199 44 (by omega)).trans hV.c2) ((h3 225 _ (by omega)).trans hk2) hq hd ((h1 226 _ (by omega)).trans hjq2) ((h1 201 _ (by omega)).trans hdq2) (hmv A Bj C h1 h2 h3) (by rw [h1 230 _ (by omega)]; exact hs2) (by rw [h1 229 _ (by omega)]; exact hg2) hv16 ((h1 228 _ (by omega)).trans hv2) ((h1 203 _ (by omega)).trans hl2) hx16 ((h1 204 _ (by omega)).trans (g1.symm.trans hx))
        rw [show v_147t A Bj C r e n q d v x = I 203 x from h1 203 x (by omega)] at hd2
        exact hd2
    | false =>
      obtain ⟨x, hx16, hx⟩ := l_of cd4
      refine fin x (s_up (s_up I (148 + 29 * r + e) 3 (Int32.ofNat x)) (148 + 29 * r + e) 4 (I 9 x)) (fun A => s_up (s_up (s_up A 199 59 0) 228 (16 * r + e) (Int32.ofNat x)) 229 (16 * r + e) (A 203 x)) hx16 (fun a k h => by simp (disch := omega) only [s_upf]) (by simp (disch := omega) only [s_upk, s_upe]) (s_upe _ _ _ _) (fun k h1 h2 => by simp (disch := omega) only [s_upk]) (fun A a k h => by rcases h with h | h <;> simp (disch := omega) only [s_upf, s_upk]) (fun A h => ?_) ?_ (fun A Bj C h1 h2 h3 => ?_)
      · simp (disch := omega) only [s_upf, s_upe, h]
        exact ⟨trivial, trivial⟩
      · have hc := d_12q (I := I) (J := J) (Z := Z) (w := w) (rem := rem) (xs := xs) (Ln := Ln) r e false n p q d v x hr he hV.n hV.c1 hP.lt hP.at_ hk hq hd hjq hdq hin hs hg hv16 hv hl hx16 hx
        have ev : ∀ c : Int32, v_79 (s_up I (148 + 29 * r + e) 3 c) J Z x = I 9 x := fun c => by unfold v_79; exact s_upa (by omega)
        unfold v_12q i_12q z_12q at hc
        rw [ev] at hc
        exact hc
      · have hd2 := d_147f (I := A) (J := Bj) (Z := C) (w := w) (rem := rem) (xs := xs) (Ln := Ln) r e n q d v x hr he hV.n ((h1 199 44 (by omega)).trans hV.c2) ((h3 225 _ (by omega)).trans hk2) hq hd ((h1 226 _ (by omega)).trans hjq2) ((h1 201 _ (by omega)).trans hdq2) (hmv A Bj C h1 h2 h3) (by rw [h1 230 _ (by omega)]; exact hs2) (by rw [h1 229 _ (by omega)]; exact hg2) hv16 ((h1 228 _ (by omega)).trans hv2) ((h1 203 _ (by omega)).trans hl2) hx16 ((h1 205 _ (by omega)).trans (g2.symm.trans hx))
        rw [show v_147f A Bj C r e n q d v x = I 203 x from h1 203 x (by omega)] at hd2
        exact hd2
end Ops4
