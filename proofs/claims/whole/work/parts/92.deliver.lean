section Ops8
variable {xs : Nat → Int32} {Ln : Nat}
def dl_ok (xs : Nat → Int32) (Ln m i b n : Nat) (p w : Nat → Nat) (rem : Nat) (I : Nat → Nat → Int32) (J : Nat → Nat → Int64) (Z : Nat → Nat → Bool) : Prop :=
  ∃ (I1 : Nat → Nat → Int32) (J1 : Nat → Nat → Int64) (Z1 : Nat → Nat → Bool) (n1 : Nat), w_R xs Ln 18 (22, [(2, .ref (35 + 2 * b)), (0, .ref 1), (1, .int (Int32.ofNat i))], [], (I, J, kR w rem, Z), 0, 0) (fun o s => o = .inl (some (.int 1)) ∧ s = (I1, J1, kR w rem, Z1)) ∧ (∀ a k, 199 ≤ a → I1 a k = I a k) ∧ (∀ a k, 199 ≤ a → J1 a k = J a k) ∧ (∀ a k, 199 ≤ a → Z1 a k = Z a k) ∧
    ∀ (X : Nat → Nat → Int32) (Y : Nat → Nat → Int64) (V : Nat → Nat → Bool), g_V m n p I J Z X Y V → g_let m I J Z X Y (35 + 2 * b) 48 → ∃ (W : Int32) (I2 : Nat → Nat → Int32) (J2 : Nat → Nat → Int64) (Z2 : Nat → Nat → Bool), X 244 48 = W ∧ w_R xs Ln 128 (0, [(0, .ref 199), (1, .int W)], [], (X, Y, kR w rem, V), 0, 0) (fun o s => o = .inl none ∧ s = (I2, J2, kR w rem, Z2)) ∧
      g_V (m + 1) n1 p I1 J1 Z1 I2 J2 Z2 ∧ (∀ a k, a < 199 → I2 a k = X a k) ∧ (∀ a k, a < 199 → J2 a k = Y a k) ∧ (∀ a k, a < 199 → Z2 a k = V a k)
theorem g_dn {m n : Nat} {p : Nat → Nat} {I I' : Nat → Nat → Int32} {J J' : Nat → Nat → Int64} {Z Z' : Nat → Nat → Bool} (h : g_V m n p I J Z I' J' Z') {r : Nat} (hr : r < 2) : (Z (141 + 29 * r) 0 = false → Z' 217 r = true) ∧ (Z (141 + 29 * r) 0 = true → Z' 217 r = false) := by
  have z := (h.R.room r hr).1
  revert z
  cases Z (141 + 29 * r) 0 <;> cases Z' 217 r <;> decide
variable {m i b n rem : Nat} {p w : Nat → Nat} {I : Nat → Nat → Int32} {J : Nat → Nat → Int64} {Z : Nat → Nat → Bool}
theorem dl_down (hb : b < 50) {r : Nat} (hr : r < 2) (hrv : I (35 + 2 * b) 2 = Int32.ofNat r) (hz : Z (141 + 29 * r) 0 = false) : dl_ok xs Ln m i b n p w rem I J Z :=
  ⟨I, J, Z, n, t18d b i r hb hr hrv hz, fun _ _ _ => rfl, fun _ _ _ => rfl, fun _ _ _ => rfl, fun X Y V hO hx => ⟨Int32.ofNat r, X, Y, V, hx.1.2.2.1.symm.trans hrv, b_128 r hr ((g_dn hO hr).1 hz), hO.mono, fun _ _ _ => rfl, fun _ _ _ => rfl, fun _ _ _ => rfl⟩⟩
theorem q95_e {r d a k : Nat} (h : 199 ≤ a) (hr : r < 2) : i_95 I J Z r b d a k = I a k := by
  unfold i_95; split
  · simp (disch := omega) only [s_upf]
  · rfl
theorem q95_j {r d a k : Nat} (h : 199 ≤ a) (hr : r < 2) : j_95 I J Z r b d a k = J a k := by
  unfold j_95; split
  · exact s_upa (by omega)
  · rfl
theorem dl_1 (hb : b < 50) {r d : Nat} (hr : r < 2) (hd : d < 4) (hrv : I (35 + 2 * b) 2 = Int32.ofNat r) (hab : I (35 + 2 * b) 3 = Int32.ofNat d) (hkd : I (35 + 2 * b) 0 = Int32.ofNat 1) (hz : Z (141 + 29 * r) 0 = true) : dl_ok xs Ln m i b n p w rem I J Z := by
  refine ⟨i_51g I J Z b r d, j_51g I J Z b r d, Z, n, t18u b i r _ _ _ hb hr hrv hz (d_51g b r d hb hr hrv hd hab hkd), fun a k h => q95_e h hr, fun a k h => q95_j h hr, fun _ _ _ => rfl, fun X Y V hO hx => ?_⟩
  obtain ⟨⟨x0, x1, x2, x3, x4⟩, -⟩ := id hx
  obtain ⟨l1, l2, l3, l4, l5⟩ := g_let_k1 hx (x0.symm.trans hkd)
  refine ⟨Int32.ofNat r, _, _, _, x2.symm.trans hrv, d_128g r d hr hd (x3.symm.trans hab) (x0.symm.trans hkd) ((g_dn hO hr).2 hz), (g_pgrant hO hr hd x4 l4 l5).mono, fun a k h => ?_, fun a k h => ?_, fun _ _ _ => rfl⟩
  · unfold i_128g i_124; split
    · simp (disch := omega) only [s_upf]
    · rfl
  · unfold j_128g j_124; split
    · exact s_upa (by omega)
    · rfl
theorem dl_3 (hb : b < 50) {r e : Nat} (hr : r < 2) (he : e < 16) (hrv : I (35 + 2 * b) 2 = Int32.ofNat r) (hab : I (35 + 2 * b) 3 = Int32.ofNat e) (hkd : I (35 + 2 * b) 0 = Int32.ofNat 3) (hz : Z (141 + 29 * r) 0 = true) : dl_ok xs Ln m i b n p w rem I J Z := by
  refine ⟨I, J, z_51r I J Z b r e, n, t18u b i r _ _ _ hb hr hrv hz (d_51r b r e hb hr hrv he hab hkd), fun _ _ _ => rfl, fun _ _ _ => rfl, fun a k h => ?_, fun X Y V hO hx => ?_⟩
  · unfold z_51r z_97; split
    · exact s_upa (by omega)
    · rfl
  obtain ⟨⟨x0, x1, x2, x3, x4⟩, -⟩ := id hx
  obtain ⟨l1, l2, l3⟩ := g_let_k3 hx (x0.symm.trans hkd)
  refine ⟨Int32.ofNat r, _, _, _, x2.symm.trans hrv, d_128r r e hr he (x3.symm.trans hab) (x0.symm.trans hkd) ((g_dn hO hr).2 hz), (g_preceipt hO hr he x4 l3).mono, fun _ _ _ => rfl, fun _ _ _ => rfl, fun a k h => ?_⟩
  unfold z_128r z_125
  split <;> (try split) <;> (try split) <;> first | rfl | exact s_upa (by omega)
theorem dl_6 (hb : b < 50) {r u : Nat} (hr : r < 2) (hu : u < 6) (hrv : I (35 + 2 * b) 2 = Int32.ofNat r) (hab : I (35 + 2 * b) 3 = Int32.ofNat u) (hkd : I (35 + 2 * b) 0 = Int32.ofNat 6) (hz : Z (141 + 29 * r) 0 = true) : dl_ok xs Ln m i b n p w rem I J Z := by
  refine ⟨i_51p I J Z b r u, J, z_51p I J Z b r u, n, t18u b i r _ _ _ hb hr hrv hz (d_51p b r u hb hr hrv hu hab hkd), fun a k h => ?_, fun _ _ _ => rfl, fun a k h => ?_, fun X Y V hO hx => ?_⟩
  · unfold i_51p i_99
    split <;> (try split) <;> first | rfl | simp (disch := omega) only [s_upf]
  · unfold z_51p z_99
    split <;> (try split) <;> first | rfl | simp (disch := omega) only [s_upf]
  obtain ⟨⟨x0, x1, x2, x3, x4⟩, -⟩ := id hx
  obtain ⟨l1, l2, l3, l4, l5, l6, l7⟩ := g_let_k6 hx (x0.symm.trans hkd)
  refine ⟨Int32.ofNat r, _, _, _, x2.symm.trans hrv, d_128p r u hr hu (x3.symm.trans hab) (x0.symm.trans hkd) ((g_dn hO hr).2 hz), (g_preport hO hr hu x4 l3 l4 l5 l6 l7).mono, fun a k h => ?_, fun _ _ _ => rfl, fun a k h => ?_⟩
  · unfold i_128p i_127
    split <;> (try split) <;> first | rfl | simp (disch := omega) only [s_upf]
  · unfold z_128p z_127
    split <;> (try split) <;> first | rfl | simp (disch := omega) only [s_upf]
theorem dl_5 (hb : b < 50) (hn : n ≤ 48) (hc : I 33 1 = Int32.ofNat n) (hpl : ∀ i, i < 49 → p i < 50) (hw : ∀ i, i < 49 → w i = 35 + 2 * p i) (inj : ∀ k k', k < 49 → k' < 49 → p k = p k' → k = k') {v : Nat} (hv : 3 ≤ v ∧ v < 9) (hrv : I (35 + 2 * b) 2 = Int32.ofNat v) (hkd : I (35 + 2 * b) 0 = Int32.ofNat 5) : dl_ok xs Ln m i b n p w rem I J Z := by
  have h53 := d_53 (I := I) (J := J) (Z := Z) (w := w) (rem := rem) (xs := xs) (Ln := Ln) b n p v hb hn hc hpl hw hv hrv
  refine ⟨i_53 I J Z b n p v, J, Z, g_s (g_s n), t18o b i v _ _ _ hb hv hrv h53, fun a k h => ?_, fun _ _ _ => rfl, fun _ _ _ => rfl, fun X Y V hO hx => ?_⟩
  · unfold i_53; rw [q48_e hpl hn (by omega) (by omega)]; exact q57_e (by omega)
  obtain ⟨⟨x0, x1, x2, x3, x4⟩, -⟩ := id hx
  obtain ⟨-, l2, l3, l4⟩ := g_let_k5 hx (x0.symm.trans hkd)
  refine ⟨Int32.ofNat v, _, _, _, x2.symm.trans hrv, d_128o v n hv hn hO.c2 (x0.symm.trans hkd), (g_porder hO inj (by omega) x3 x4 l3 l4).mono, fun a k h => ?_, fun _ _ _ => rfl, fun _ _ _ => rfl⟩
  unfold i_128o i_126
  split <;> (try split) <;> rw [q122_e h] <;> first | rfl | simp (disch := omega) only [s_upf]
theorem q120_e {f : Int32} {a k : Nat} (h : a < 242) (h2 : ¬ (a = 199 ∧ k = 44)) : i_120 I J Z f n a k = I a k := by
  unfold i_120
  split
  · unfold i_120a; rw [s_upa (by omega)]; exact p117_e (Or.inl h) h2
  · rfl
theorem q46_e {f : Int32} {a k : Nat} (hpn : p n < 50) (h : 199 ≤ a) : i_46 I J Z f b n p a k = I a k := by
  unfold i_46; rw [s_upa (by omega)]; exact p72_e (by omega) (by omega)
theorem q96_z {r e a k : Nat} (hr : r < 2) (he : e < 16) (h : 199 ≤ a) : z_96 I J Z r b e a k = Z a k := by
  unfold z_96; split
  · rw [s_upa (by omega)]; exact q63_z (by omega)
  · exact q63_z (by omega)
theorem q119_9 {f e a k : Nat} (h : a < 199) : z_119 I J Z f e a k = Z a k := q119_z (Or.inl (by omega))
theorem dl_2 (hb : b < 50) (hbp : ∀ k, k < 49 → p k ≠ b) (hn : n < 48) (hc : I 33 1 = Int32.ofNat n) (hpl : ∀ i, i < 49 → p i < 50) (hw : ∀ i, i < 49 → w i = 35 + 2 * p i) (inj : ∀ k k', k < 49 → k' < 49 → p k = p k' → k = k') {r e f : Nat} (hr : r < 2) (he : e < 16) (hf : f < 3) (hrv : I (35 + 2 * b) 2 = Int32.ofNat r) (hab : I (35 + 2 * b) 3 = Int32.ofNat e) (hsd : I (35 + 2 * b) 1 = Int32.ofNat f) (hkd : I (35 + 2 * b) 0 = Int32.ofNat 2) (hz : Z (141 + 29 * r) 0 = true) : dl_ok xs Ln m i b n p w rem I J Z := by
  have hpn := hpl n (by omega)
  have e36 : 35 + 2 * b + 1 = 36 + 2 * b := by omega
  have pair : ∀ (X : Nat → Nat → Int32) (Y : Nat → Nat → Int64) (V : Nat → Nat → Bool), g_V m n p I J Z X Y V → g_let m I J Z X Y (35 + 2 * b) 48 → g_V m n p (i_96 I J Z r b e) J (z_96 I J Z r b e) (i_119 X Y V r e) Y (z_119 X Y V r e) ∧ I (36 + 2 * b) 8 = X 246 48 ∧ I (36 + 2 * b) 9 = X 247 48 := by
    intro X Y V hO hx
    obtain ⟨⟨x0, x1, x2, x3, x4⟩, -⟩ := id hx
    obtain ⟨-, -, l3⟩ := g_let_k2 hx (x0.symm.trans hkd)
    obtain ⟨tk, y0, y1, y2, y3, y4, y5, y6, y7, y8, y9, la, lb⟩ := l3
    rw [e36] at y0 y1 y2 y3 y4 y5 y6 y7 y8 y9
    rw [← x3, hab] at tk
    exact ⟨g_pcopy hO hr he hb tk y0 y1 y2 y3 y4 y5 y6 y7 y8 y9 la lb, y8, y9⟩
  by_cases hf2 : f < 2
  · have h51 := d_51c (I := I) (J := J) (Z := Z) (w := w) (rem := rem) (xs := xs) (Ln := Ln) b n p r e f hb (by omega) hc hpl hw hr hrv he hab hf2 hsd hkd
    refine ⟨i_51c I J Z b n p r e f, J, z_51c I J Z b n p r e f, g_s n, t18u b i r _ _ _ hb hr hrv hz h51, fun a k h => ?_, fun _ _ _ => rfl, fun a k h => q96_z hr he h, fun X Y V hO hx => ?_⟩
    · unfold i_51c; rw [q46_e hpn h]; exact q96_e (by omega)
    obtain ⟨hV2, y8, y9⟩ := pair X Y V hO hx
    obtain ⟨⟨x0, x1, x2, x3, x4⟩, -⟩ := id hx
    refine ⟨Int32.ofNat r, _, _, _, x2.symm.trans hrv, d_128c r n e f hr (by omega) hO.c2 he (x3.symm.trans hab) hf2 (x1.symm.trans hsd) (x0.symm.trans hkd) ((g_dn hO hr).2 hz), g_V.mono (g_rcpt (f := Int32.ofNat r) (b := b) hV2 (g_ne inj (by omega)) hb (hbp n (by omega)) (by omega) ?_ ?_ ?_ ?_ ?_ ?_), fun a k h => ?_, fun _ _ _ => rfl, fun a k h => q119_9 h⟩
    · rw [q96_e (by omega), q119_e (by omega)]; exact x1
    · rw [q96_e (by omega), q119_e (by omega)]; exact x3
    · rw [q96_e (by omega), q119_e (by omega)]; exact y8
    · rw [q96_e (by omega), q119_e (by omega)]; exact y9
    · rw [q119_e (by omega), ← x1, hsd]; exact l_inN hf2 (by decide)
    · rw [q119_e (by omega), ← x3, hab]; exact l_inN he (by decide)
    · unfold i_128c; rw [q120_e (by omega) (by omega)]; exact q119_e (by omega)
  · have e2 : f = 2 := by omega
    subst e2
    have h51 := d_51d (I := I) (J := J) (Z := Z) (w := w) (rem := rem) (xs := xs) (Ln := Ln) b n p r e hb (by omega) hc hpl hw hr hrv he hab hsd hkd
    refine ⟨i_51d I J Z b n p r e, J, z_51d I J Z b n p r e, n, t18u b i r _ _ _ hb hr hrv hz h51, fun a k h => q96_e (by omega), fun _ _ _ => rfl, fun a k h => q96_z hr he h, fun X Y V hO hx => ?_⟩
    obtain ⟨hV2, y8, y9⟩ := pair X Y V hO hx
    obtain ⟨⟨x0, x1, x2, x3, x4⟩, -⟩ := id hx
    exact ⟨Int32.ofNat r, _, _, _, x2.symm.trans hrv, d_128d r e hr he (x3.symm.trans hab) (x1.symm.trans hsd) (x0.symm.trans hkd) ((g_dn hO hr).2 hz), hV2.mono, fun a k h => q119_e (by omega), fun _ _ _ => rfl, fun a k h => q119_9 h⟩
theorem dl_4 (hb : b < 50) (hbp : ∀ k, k < 49 → p k ≠ b) (hn : n < 48) (hc : I 33 1 = Int32.ofNat n) (hpl : ∀ i, i < 49 → p i < 50) (hw : ∀ i, i < 49 → w i = 35 + 2 * p i) (inj : ∀ k k', k < 49 → k' < 49 → p k = p k' → k = k') {e : Nat} (he : e < 16) (hrv : I (35 + 2 * b) 2 = Int32.ofNat 2) (hab : I (35 + 2 * b) 3 = Int32.ofNat e) (hkd : I (35 + 2 * b) 0 = Int32.ofNat 4) : dl_ok xs Ln m i b n p w rem I J Z := by
  have hpn := hpl n (by omega)
  have e36 : 35 + 2 * b + 1 = 36 + 2 * b := by omega
  have h49 := d_49s (I := I) (J := J) (Z := Z) (w := w) (rem := rem) (xs := xs) (Ln := Ln) b n p e hb (by omega) hc hpl hw he hab hkd
  refine ⟨i_49s I J Z b n p e, J, z_49s I J Z b n p e, g_s n, t18f b i _ _ _ hb hrv h49, fun a k h => ?_, fun _ _ _ => rfl, fun a k h => q63_z (by omega), fun X Y V hO hx => ?_⟩
  · unfold i_49s; rw [q46_e hpn h]; exact q63_e (by omega)
  obtain ⟨⟨x0, x1, x2, x3, x4⟩, -⟩ := id hx
  obtain ⟨l1, -, l3⟩ := g_let_k4 hx (x0.symm.trans hkd)
  obtain ⟨tk, y0, y1, y2, y3, y4, y5, y6, y7, y8, y9, la, lb⟩ := l3
  rw [e36] at y0 y1 y2 y3 y4 y5 y6 y7 y8 y9
  rw [← x3, hab] at tk
  have hV2 := g_pstore hO he hb tk y0 y1 y2 y3 y4 y5 y6 y7 y8 y9 la lb
  refine ⟨Int32.ofNat 2, _, _, _, x2.symm.trans hrv, d_128s n e (by omega) hO.c2 he (x3.symm.trans hab) (x0.symm.trans hkd), g_V.mono (g_rcpt (f := 2) (b := b) hV2 (g_ne inj (by omega)) hb (hbp n (by omega)) (by omega) ?_ ?_ ?_ ?_ ?_ ?_), fun a k h => ?_, fun _ _ _ => rfl, fun a k h => q119_9 h⟩
  · rw [q63_e (by omega), q119_e (by omega)]; exact x1
  · rw [q63_e (by omega), q119_e (by omega)]; exact x3
  · rw [q63_e (by omega), q119_e (by omega)]; exact y8
  · rw [q63_e (by omega), q119_e (by omega)]; exact y9
  · rw [q119_e (by omega)]; exact l1
  · rw [q119_e (by omega), ← x3, hab]; exact l_inN he (by decide)
  · unfold i_128s; rw [q120_e (by omega) (by omega)]; exact q119_e (by omega)
theorem dl_7 (hb : b < 50) (hn : n ≤ 48) (hc : I 33 1 = Int32.ofNat n) (hpl : ∀ i, i < 49 → p i < 50) (hw : ∀ i, i < 49 → w i = 35 + 2 * p i) (inj : ∀ k k', k < 49 → k' < 49 → p k = p k' → k = k') {r f : Nat} (hr : r < 2) (hf : f < 2) (hrv : I (35 + 2 * b) 2 = Int32.ofNat r) (hsd : I (35 + 2 * b) 1 = Int32.ofNat f) (hkd : I (35 + 2 * b) 0 = Int32.ofNat 7) (hz : Z (141 + 29 * r) 0 = true) : dl_ok xs Ln m i b n p w rem I J Z := by
  obtain ⟨I1, Z1, n1, h1, h2, h3, h4⟩ := sim52 (xs := xs) (Ln := Ln) (m := m) (p := p) (w := w) (rem := rem) (J := J) hpl hw inj (r := r) (t := Int32.ofNat f) hr (l_inN hf (by decide)) 16 0 (by omega) I Z n hn hc
  have h52 := s52Y (I := I) (J := J) (Z := Z) (w := w) (rem := rem) (xs := xs) (Ln := Ln) r (Int32.ofNat f) _ (h1 _ (s52R r (Int32.ofNat f)))
  refine ⟨I1, J, Z1, n1, t18u b i r _ _ _ hb hr hrv hz (d_51u b r f I1 J Z1 hb hr hrv hf hsd hkd h52), h2, fun _ _ _ => rfl, h3, fun X Y V hO hx => ?_⟩
  obtain ⟨⟨x0, x1, x2, x3, x4⟩, -⟩ := id hx
  obtain ⟨I1', g1, g2, g3⟩ := h4 X Y V w rem hO (x1.symm.trans hsd)
  exact ⟨Int32.ofNat r, I1', Y, V, x2.symm.trans hrv, s128Y r hr (x0.symm.trans hkd) ((g_dn hO hr).2 hz) _ (g1 _ (s128R r)), g2.mono, fun a k h => g3 a k (by omega) (by omega), fun _ _ _ => rfl, fun _ _ _ => rfl⟩
end Ops8
