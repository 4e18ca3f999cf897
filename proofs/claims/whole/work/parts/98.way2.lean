/-! The whole measuring, class and reference. -/
section Way2
variable {xs : Nat → Int32} {Ln : Nat} {J : Nat → Nat → Int64} {Z : Nat → Nat → Bool} {w : Nat → Nat} {rem : Nat} {E : Nat → Nat → Nat}
def y_d0 (q F : Nat) : Nat → Nat := fun x => if x = q then 0 else F
theorem y_d0_q {q F : Nat} : y_d0 q F q = 0 := if_pos rfl
theorem y_d0_e {q F x : Nat} (h : x = q) : y_d0 q F x = 0 := if_pos h
theorem y_d0_n {q F x : Nat} (h : ¬ x = q) : y_d0 q F x = F := if_neg h
set_option maxRecDepth 4000 in
theorem y_outer (hE9 : ∀ v u, E v u ≤ 999) {q : Nat} : ∀ (g f : Nat), f + g = 12 → ∀ (I : Nat → Nat → Int32) (d : Nat → Nat) (b : Nat) (z : Bool), (∀ v u, v < 12 → u < 12 → I 5 (v * 12 + u) = Int32.ofNat (E v u)) → b + 11988 * g < 90000000 → y_B b d → y_en I d →
    ∃ (I1 : Nat → Nat → Int32) (d1 : Nat → Nat) (z1 : Bool), w_R xs Ln 89 (4, [(2, .int (Int32.ofNat f)), (1, .int (s_b z)), (0, .ref 2)], [], (I, J, kR w rem, Z), 0, 0) (fun o s => o = .inl (some (.int (s_b z1))) ∧ s = (I1, J, kR w rem, Z)) ∧ y_en I1 d1 ∧ (∀ a k, a ≠ 4 → I1 a k = I a k) ∧ (z1 = false → z = false ∧ d1 = d) ∧ y_B (b + 11988 * g) d1 ∧ y_R E q 1073741824 (fun v _ => f ≤ v) d d1 := by
  intro g
  induction g with
  | zero =>
    intro f hf I d b z hE hb hB he
    have e : f = 12 := by omega
    subst e
    exact ⟨I, d, z, s89r z, he, fun _ _ _ => rfl, fun h => ⟨h, rfl⟩, hB, y_R.refl.sub (fun v u hv hu h => by omega)⟩
  | succ g ih =>
    intro f hf I d b z hE hb hB he
    have hf12 : f < 12 := by omega
    rw [Nat.mul_succ] at hb
    have hb1 : b + 999 * 12 < 90000000 := Nat.lt_of_le_of_lt (Nat.add_le_add_left (Nat.le_add_left 11988 (11988 * g)) b) hb
    have hb2 : b + 999 * 12 + 11988 * g < 90000000 := by omega
    obtain ⟨I1, d1, z1, h1, h2, h3, h4, h5, h6⟩ := y_inner (xs := xs) (Ln := Ln) (J := J) (Z := Z) (w := w) (rem := rem) (E := E) (q := q) hE9 hf12 12 0 (by omega) I d b z [(3, .int (Int32.ofNat 0)), (2, .int (Int32.ofNat f)), (1, .int (s_b z)), (0, .ref 2)] hE hb1 hB he (Or.inl rfl)
    obtain ⟨I2, d2, z2, g1, g2, g3, g4, g5, g6⟩ := ih (f + 1) (by omega) I1 d1 (b + 999 * 12) z1 (fun v u hv hu => (h3 5 _ (by omega)).trans (hE v u hv hu)) hb2 h5 h2
    refine ⟨I2, d2, z2, s89i f z hf12 _ (h1 _ g1), g2, fun a k h => (g3 a k h).trans (h3 a k h), fun h => ?_, ?_, ?_⟩
    · obtain ⟨a1, a2⟩ := g4 h
      obtain ⟨b1, b2⟩ := h4 a1
      exact ⟨b1, a2.trans b2⟩
    · have : b + 11988 * (g + 1) = b + 999 * 12 + 11988 * g := by rw [Nat.mul_succ]; omega
      rw [this]; exact g5
    · exact (h6.trans g6).sub (fun v u hv hu h => by
        by_cases e : v = f
        · exact Or.inl ⟨e, by omega⟩
        · exact Or.inr (by omega))
def y_snd (E : Nat → Nat → Nat) (r F : Nat) (d : Nat → Nat) : Prop := ∀ x, x < 12 → d x ≤ F ∧ (d x = F ∨ y_V E r x (d x))
set_option maxRecDepth 4000 in
theorem y_rounds (hE9 : ∀ v u, E v u ≤ 999) {q : Nat} : ∀ (g r : Nat), r + g = 12 → 1 ≤ r → ∀ (I : Nat → Nat → Int32) (d : Nat → Nat) (b : Nat) (z : Bool), (∀ v u, v < 12 → u < 12 → I 5 (v * 12 + u) = Int32.ofNat (E v u)) → b + 143856 * g < 90000000 → y_B b d → y_en I d → d q = 0 → y_snd E q 1073741824 d → y_c E q (r - 1) d → (z = false → ∀ v, v < 12 → y_S E q d v) →
    ∃ (I1 : Nat → Nat → Int32) (d1 : Nat → Nat), w_R xs Ln 88 (32, [(3, .int (Int32.ofNat r)), (2, .int (s_b z)), (0, .ref 2), (1, .int (Int32.ofNat q))], [], (I, J, kR w rem, Z), 0, 0) (fun o s => o = .inl none ∧ s = (I1, J, kR w rem, Z)) ∧ y_en I1 d1 ∧ (∀ a k, a ≠ 4 → I1 a k = I a k) ∧ y_snd E q 1073741824 d1 ∧ ∀ v, v < 12 → y_S E q d1 v := by
  intro g
  induction g with
  | zero =>
    intro r hr h1r I d b z hE hb hB he h0 hs hc hz
    have e : r = 12 := by omega
    subst e
    exact ⟨I, d, s88x q z _ (s88r q 12 z), he, fun _ _ _ => rfl, hs, y_cf (t := 11) (by omega) hc⟩
  | succ g ih =>
    intro r hr h1r I d b z hE hb hB he h0 hs hc hz
    cases z with
    | false => exact ⟨I, d, s88f q r (by omega) _ (s88r q r false), he, fun _ _ _ => rfl, hs, hz rfl⟩
    | true =>
      rw [Nat.mul_succ] at hb
      have hb1 : b + 11988 * 12 < 90000000 := Nat.lt_of_le_of_lt (Nat.add_le_add_left (Nat.le_add_left 143856 (143856 * g)) b) hb
      have hb2 : b + 11988 * 12 + 143856 * g < 90000000 := by omega
      obtain ⟨I1, d1, z1, a1, a2, a3, a4, a5, a6⟩ := y_outer (xs := xs) (Ln := Ln) (J := J) (Z := Z) (w := w) (rem := rem) (q := q) hE9 12 0 (by omega) I d b false hE hb1 hB he
      have hall : ∀ v u, v < 12 → u < 12 → 0 < E v u → d1 v ≤ E v u + d u := fun v u hv hu he => a6.2.1 v u (by omega) hv hu he
      have h01 : d1 q = 0 := by have := a6.1 q; omega
      obtain ⟨I2, d2, b1, b2, b3, b4, b5⟩ := ih (r + 1) (by omega) (by omega) I1 d1 (b + 11988 * 12) z1 (fun v u hv hu => (a3 5 _ (by omega)).trans (hE v u hv hu)) hb2 a5 a2 h01 (a6.2.2 hs) (by
        have := y_cs hc h0 a6.1 hall
        rw [show r - 1 + 1 = r + 1 - 1 by omega] at this
        exact this) (fun hz1 => by
        obtain ⟨-, e⟩ := a4 hz1
        rw [e] at hall ⊢
        exact y_cx h0 hall)
      exact ⟨I2, d2, s88t q r z1 I1 (by omega) (s89y _ a1) _ b1, b2, fun a k h => (b3 a k h).trans (a3 a k h), b4, b5⟩
/-- what is measured: the least sum, or that there is no way -/
def y_is (E : Nat → Nat → Nat) (r v : Nat) (x : Int32) : Prop := (∃ s, x = Int32.ofNat s ∧ s < 20000 ∧ y_V E r v s ∧ ∀ t, y_V E r v t → s ≤ t) ∨ (x = -1 ∧ ¬ ∃ s, y_V E r v s)
theorem y_is_one {E : Nat → Nat → Nat} {r v : Nat} {x y : Int32} (h : y_is E r v x) (h' : y_is (fun a b => E b a) v r y) : x = y := by
  rcases h with ⟨s, rfl, -, a1, a2⟩ | ⟨rfl, a1⟩
  · rcases h' with ⟨t, rfl, -, b1, b2⟩ | ⟨rfl, b1⟩
    · have := b2 s a1.rev
      have := a2 t b1.rev
      rw [show s = t by omega]
    · exact absurd ⟨s, a1.rev⟩ b1
  · rcases h' with ⟨t, rfl, -, b1, b2⟩ | ⟨rfl, b1⟩
    · exact absurd ⟨t, b1.rev⟩ a1
    · rfl
set_option maxRecDepth 4000 in
theorem y_88 (hE9 : ∀ v u, E v u ≤ 999) {q : Nat} (hq : q < 12) {I : Nat → Nat → Int32} (hE : ∀ v u, v < 12 → u < 12 → I 5 (v * 12 + u) = Int32.ofNat (E v u)) :
    ∃ I1 : Nat → Nat → Int32, w_R xs Ln 88 (0, [(0, .ref 2), (1, .int (Int32.ofNat q))], [], (I, J, kR w rem, Z), 0, 0) (fun o s => o = .inl none ∧ s = (I1, J, kR w rem, Z)) ∧ (∀ a k, a ≠ 4 → I1 a k = I a k) ∧ ∀ v, v < 12 → y_is E q v (I1 4 v) := by
  have fr : ∀ a k, a ≠ 4 → s_up (s_fl I 4 (-1) 12) 4 q 0 a k = I a k := fun a k h => by rw [s_upa h]; exact congrFun (s_fl_f h 12) k
  obtain ⟨I1, d1, h1, h2, h3, h4, h5⟩ := y_rounds (xs := xs) (Ln := Ln) (J := J) (Z := Z) (w := w) (rem := rem) (q := q) hE9 11 1 (by omega) (by omega) (s_up (s_fl I 4 (-1) 12) 4 q 0) (y_d0 q 1073741824) 0 true (fun v u hv hu => (fr 5 _ (by omega)).trans (hE v u hv hu)) (by omega) (fun x hx => by
      by_cases e : x = q
      · exact Or.inr (Nat.le_of_eq (y_d0_e e))
      · exact Or.inl (y_d0_n e)) (fun x hx => by
      by_cases e : x = q
      · subst e; rw [s_upe, y_d0_q]; rfl
      · rw [s_upk e, y_d0_n e, s_fl_in 12 hx]; rfl) y_d0_q (fun x hx => by
      by_cases e : x = q
      · rw [y_d0_e e, e]; exact ⟨by omega, Or.inr y_V.base⟩
      · rw [y_d0_n e]; exact ⟨Nat.le_refl _, Or.inl rfl⟩) (y_c0 y_d0_q hq) (fun h => by cases h)
  refine ⟨I1, s88y q _ (l_88 q hq 12 0 rfl _ (s88z q hq _ h1)), fun a k h => (h3 a k h).trans (fr a k h), fun v hv => ?_⟩
  obtain ⟨f1, f2⟩ := y_fin (F := 1073741824) hE9 (by omega) (h5 v hv) (h4 v hv).2
  by_cases hx : ∃ s, y_V E q v s
  · obtain ⟨g1, g2⟩ := f1 hx
    exact Or.inl ⟨d1 v, (h2 v hv).trans (if_neg (by omega)), g1, g2, h5 v hv⟩
  · exact Or.inr ⟨(h2 v hv).trans (if_pos (f2 hx)), hx⟩
/-! the reference -/
def y_em (I : Nat → Nat → Int32) (d : Nat → Nat) : Prop := ∀ x, x < 12 → I 202 x = Int32.ofNat (d x)
theorem y_mk (hE9 : ∀ v u, E v u ≤ 999) {f t r : Nat} (hf : f < 12) (ht : t < 12) (hr : r < 12) : ∀ (g k : Nat), k + g = 144 → ∀ (I : Nat → Nat → Int32) (d : Nat → Nat), (∀ k, k < 144 → I 200 k = Int32.ofNat (E (k % 12) (k / 12))) → (∀ x, d x ≤ 1000000) → y_em I d →
    ∃ (I1 : Nat → Nat → Int32) (d1 : Nat → Nat), (∀ Q : i_O → s_S → Prop, w_R xs Ln 113 (33, [(3, .int (Int32.ofNat (r + 1))), (0, .ref 199), (1, .int (Int32.ofNat f)), (2, .int (Int32.ofNat t))], [], (I1, J, kR w rem, Z), 0, 0) Q → w_R xs Ln 113 (42, [(4, .int (Int32.ofNat k)), (3, .int (Int32.ofNat r)), (0, .ref 199), (1, .int (Int32.ofNat f)), (2, .int (Int32.ofNat t))], [], (I, J, kR w rem, Z), 0, 0) Q) ∧ y_em I1 d1 ∧ (∀ a q, a ≠ 202 → I1 a q = I a q) ∧ (∀ x, d1 x ≤ 1000000) ∧ y_R E f 1000000 (fun v u => k ≤ 12 * u + v) d d1 := by
  intro g
  induction g with
  | zero =>
    intro k hk I d hE hd he
    have e : k = 144 := by omega
    subst e
    exact ⟨I, d, fun Q h => s113j f t r hr Q h, he, fun _ _ _ => rfl, hd, y_R.refl.sub (fun v u hv hu h => by omega)⟩
  | succ g ih =>
    intro k hk I d hE hd he
    have hk4 : k < 144 := by omega
    have hv : k % 12 < 12 := Nat.mod_lt _ (by omega)
    have hu : k / 12 < 12 := by omega
    have h9 := hE9 (k % 12) (k / 12)
    have hx := he (k / 12) hu
    have hy := he (k % 12) hv
    have d1 := hd (k / 12)
    have d2 := hd (k % 12)
    have stp : ∃ I1 : Nat → Nat → Int32, (∀ Q : i_O → s_S → Prop, w_R xs Ln 113 (42, [(4, .int (Int32.ofNat (k + 1))), (3, .int (Int32.ofNat r)), (0, .ref 199), (1, .int (Int32.ofNat f)), (2, .int (Int32.ofNat t))], [], (I1, J, kR w rem, Z), 0, 0) Q → w_R xs Ln 113 (42, [(4, .int (Int32.ofNat k)), (3, .int (Int32.ofNat r)), (0, .ref 199), (1, .int (Int32.ofNat f)), (2, .int (Int32.ofNat t))], [], (I, J, kR w rem, Z), 0, 0) Q) ∧ y_em I1 (y_st E d (k % 12) (k / 12)) ∧ (∀ a q, a ≠ 202 → I1 a q = I a q) := by
      by_cases e0 : E (k % 12) (k / 12) = 0
      · exact ⟨I, fun Q h => s113a f t r k _ _ _ hf ht hr hk4 (hE k hk4) (by omega) hx (by omega) hy e0 Q h, by rw [y_st_no (by omega)]; exact he, fun _ _ _ => rfl⟩
      · by_cases hl : d (k / 12) + E (k % 12) (k / 12) < d (k % 12)
        · refine ⟨_, fun Q h => s113c f t r k _ _ _ hf ht hr hk4 (hE k hk4) (by omega) hx (by omega) hy (by omega) hl Q h, fun x hx => ?_, fun a q h => s_upa h⟩
          rw [y_st_up (by omega)]
          by_cases e : x = k % 12
          · subst e; rw [s_upe, if_pos rfl, Nat.add_comm]
          · rw [s_upk e, if_neg e]; exact he x hx
        · exact ⟨I, fun Q h => s113b f t r k _ _ _ hf ht hr hk4 (hE k hk4) (by omega) hx (by omega) hy (by omega) hl Q h, by rw [y_st_no (by omega)]; exact he, fun _ _ _ => rfl⟩
    obtain ⟨I1, a1, a2, a3⟩ := stp
    have hR := y_st_R (E := E) (r := f) (F := 1000000) (d := d) hv hu
    obtain ⟨I2, d2, b1, b2, b3, b4, b5⟩ := ih (k + 1) (by omega) I1 _ (fun j hj => (a3 200 j (by omega)).trans (hE j hj)) (fun x => Nat.le_trans (hR.1 x) (hd x)) a2
    exact ⟨I2, d2, fun Q h => a1 Q (b1 Q h), b2, fun a q h => (b3 a q h).trans (a3 a q h), b4, (hR.trans b5).sub (fun v u hv hu h => by
      by_cases e : 12 * u + v = k
      · exact Or.inl ⟨by omega, by omega⟩
      · exact Or.inr (by omega))⟩
theorem y_mr (hE9 : ∀ v u, E v u ≤ 999) {f t : Nat} (hf : f < 12) (ht : t < 12) : ∀ (g r : Nat), r + g = 12 → ∀ (I : Nat → Nat → Int32) (d : Nat → Nat), (∀ k, k < 144 → I 200 k = Int32.ofNat (E (k % 12) (k / 12))) → (∀ x, d x ≤ 1000000) → y_em I d → d f = 0 → y_snd E f 1000000 d → y_c E f r d →
    ∃ (I1 : Nat → Nat → Int32) (d1 : Nat → Nat), (∀ Q : i_O → s_S → Prop, w_R xs Ln 113 (33, [(3, .int (Int32.ofNat 12)), (0, .ref 199), (1, .int (Int32.ofNat f)), (2, .int (Int32.ofNat t))], [], (I1, J, kR w rem, Z), 0, 0) Q → w_R xs Ln 113 (33, [(3, .int (Int32.ofNat r)), (0, .ref 199), (1, .int (Int32.ofNat f)), (2, .int (Int32.ofNat t))], [], (I, J, kR w rem, Z), 0, 0) Q) ∧ y_em I1 d1 ∧ (∀ a q, a ≠ 202 → I1 a q = I a q) ∧ y_snd E f 1000000 d1 ∧ ∀ v, v < 12 → y_S E f d1 v := by
  intro g
  induction g with
  | zero =>
    intro r hr I d hE hd he h0 hs hc
    have e : r = 12 := by omega
    subst e
    exact ⟨I, d, fun Q h => h, he, fun _ _ _ => rfl, hs, y_cf (t := 12) (by omega) hc⟩
  | succ g ih =>
    intro r hr I d hE hd he h0 hs hc
    have hr12 : r < 12 := by omega
    obtain ⟨I1, d1, a1, a2, a3, a4, a5⟩ := y_mk (xs := xs) (Ln := Ln) (J := J) (Z := Z) (w := w) (rem := rem) hE9 hf ht hr12 144 0 (by omega) I d hE hd he
    have hall : ∀ v u, v < 12 → u < 12 → 0 < E v u → d1 v ≤ E v u + d u := fun v u hv hu he => a5.2.1 v u (by omega) hv hu he
    obtain ⟨I2, d2, b1, b2, b3, b4, b5⟩ := ih (r + 1) (by omega) I1 d1 (fun j hj => (a3 200 j (by omega)).trans (hE j hj)) a4 a2 (by have := a5.1 f; omega) (a5.2.2 hs) (y_cs hc h0 a5.1 hall)
    exact ⟨I2, d2, fun Q h => s113i f t r hr12 _ (a1 _ (b1 Q h)), b2, fun a q h => (b3 a q h).trans (a3 a q h), b4, b5⟩
theorem y_m0 {f t : Nat} (hf : f < 12) (ht : t < 12) : ∀ (g k : Nat), k + g = 12 → ∀ I : Nat → Nat → Int32, (∀ x, x < k → I 202 x = Int32.ofNat (y_d0 f 1000000 x)) → ∃ I1 : Nat → Nat → Int32, (∀ Q : i_O → s_S → Prop, w_R xs Ln 113 (2, [(3, .int (Int32.ofNat 12)), (0, .ref 199), (1, .int (Int32.ofNat f)), (2, .int (Int32.ofNat t))], [], (I1, J, kR w rem, Z), 0, 0) Q → w_R xs Ln 113 (2, [(3, .int (Int32.ofNat k)), (0, .ref 199), (1, .int (Int32.ofNat f)), (2, .int (Int32.ofNat t))], [], (I, J, kR w rem, Z), 0, 0) Q) ∧ y_em I1 (y_d0 f 1000000) ∧ (∀ a q, a ≠ 202 → I1 a q = I a q) := by
  intro g
  induction g with
  | zero =>
    intro k hk I hI
    have e : k = 12 := by omega
    subst e
    exact ⟨I, fun Q h => h, hI, fun _ _ _ => rfl⟩
  | succ g ih =>
    intro k hk I hI
    by_cases hs : k = f
    · obtain ⟨I1, a1, a2, a3⟩ := ih (k + 1) (by omega) (s_up I 202 k 0) (fun x hx => by
        by_cases e : x = k
        · subst e; rw [s_upe, y_d0_e hs]; rfl
        · rw [s_upk e]; exact hI x (by omega))
      exact ⟨I1, fun Q h => s113e f t k hf ht (by omega) hs _ (a1 Q h), a2, fun a q h => (a3 a q h).trans (s_upa h)⟩
    · obtain ⟨I1, a1, a2, a3⟩ := ih (k + 1) (by omega) (s_up I 202 k 1000000) (fun x hx => by
        by_cases e : x = k
        · subst e; rw [s_upe, y_d0_n hs]; rfl
        · rw [s_upk e]; exact hI x (by omega))
      exact ⟨I1, fun Q h => s113n f t k hf ht (by omega) hs _ (a1 Q h), a2, fun a q h => (a3 a q h).trans (s_upa h)⟩
theorem y_113 (hE9 : ∀ v u, E v u ≤ 999) {f t : Nat} (hf : f < 12) (ht : t < 12) {I : Nat → Nat → Int32} (hE : ∀ k, k < 144 → I 200 k = Int32.ofNat (E (k % 12) (k / 12))) :
    ∃ (I1 : Nat → Nat → Int32) (x : Int32), w_R xs Ln 113 (0, [(0, .ref 199), (1, .int (Int32.ofNat f)), (2, .int (Int32.ofNat t))], [], (I, J, kR w rem, Z), 0, 0) (fun o s => o = .inl (some (.int x)) ∧ s = (I1, J, kR w rem, Z)) ∧ (∀ a k, a ≠ 202 → I1 a k = I a k) ∧ y_is E f t x := by
  obtain ⟨I1, a1, a2, a3⟩ := y_m0 (xs := xs) (Ln := Ln) (J := J) (Z := Z) (w := w) (rem := rem) hf ht 12 0 (by omega) I (fun x hx => absurd hx (by omega))
  obtain ⟨I2, d2, b1, b2, b3, b4, b5⟩ := y_mr (xs := xs) (Ln := Ln) (J := J) (Z := Z) (w := w) (rem := rem) hE9 hf ht 12 0 (by omega) I1 _ (fun j hj => (a3 200 j (by omega)).trans (hE j hj)) (fun x => by by_cases e : x = f; (rw [y_d0_e e]; omega); (rw [y_d0_n e]; omega)) a2 y_d0_q (fun x hx => by
      by_cases e : x = f
      · rw [y_d0_e e, e]; exact ⟨by omega, Or.inr y_V.base⟩
      · rw [y_d0_n e]; exact ⟨Nat.le_refl _, Or.inl rfl⟩) (y_c0 y_d0_q hf)
  have fr : ∀ a k, a ≠ 202 → I2 a k = I a k := fun a k h => (b3 a k h).trans (a3 a k h)
  obtain ⟨f1, f2⟩ := y_fin (F := 1000000) hE9 (by omega) (b5 t ht) (b4 t ht).2
  by_cases hx : ∃ s, y_V E f t s
  · obtain ⟨g1, g2⟩ := f1 hx
    exact ⟨I2, Int32.ofNat (d2 t), s113y f t _ (a1 _ (s113x f t _ (b1 _ (s113R f t (d2 t) ht (b2 t ht) g1)))), fr, Or.inl ⟨d2 t, rfl, g1, g2, b5 t ht⟩⟩
  · exact ⟨I2, -1, s113y f t _ (a1 _ (s113x f t _ (b1 _ (s113F f t ht ((b2 t ht).trans (by rw [f2 hx])))))), fr, Or.inr ⟨rfl, hx⟩⟩
end Way2
