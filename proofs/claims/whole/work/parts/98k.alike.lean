section Ops12
variable {xs : Nat → Int32} {Ln : Nat}
theorem g_V.tkn {m n : Nat} {p : Nat → Nat} {I : Nat → Nat → Int32} {J : Nat → Nat → Int64} {Z : Nat → Nat → Bool} {I' : Nat → Nat → Int32} {J' : Nat → Nat → Int64} {Z' : Nat → Nat → Bool} (h : g_V m n p I J Z I' J' Z') {r0 t : Nat} (hr0 : r0 < 2) (ht : t < 8) (h0 : I' 224 r0 = Int32.ofNat t) : g_V m n p (s_up I (141 + 29 * r0) 3 (Int32.ofNat (t + 1))) J Z (s_up I' 224 r0 (Int32.ofNat (t + 1))) J' Z' := by
  have tk : ∀ c : Int32, g_tk I' c → g_tk (s_up I' 224 r0 (Int32.ofNat (t + 1))) c := by
    intro c hc
    refine ⟨hc.1, ?_⟩
    have h2 := hc.2
    by_cases e : c.toNatClampNeg / 8 = r0
    · rw [e] at h2 ⊢
      rw [h0, n_cl (by omega)] at h2
      rw [s_upe, n_cl (by omega)]
      omega
    · rw [s_upk e]; exact h2
  refine ⟨⟨?_, ?_, ?_, ?_, ?_, ?_, ?_, ?_, ?_, ?_, ?_, ?_, ?_, ?_, ?_, ?_, ?_⟩, h.n, ?_, ?_, h.pl, ?_⟩
  · intro j hj; (try simp (disch := omega) only [s_upf, s_upk]); exact h.R.dist j hj
  · intro j hj; (try simp (disch := omega) only [s_upf, s_upk]); exact h.R.road j hj
  · (try simp (disch := omega) only [s_upf, s_upk]); exact h.R.roads 
  · intro j hj; (try simp (disch := omega) only [s_upf, s_upk]); exact h.R.card j hj
  · intro j hj; (try simp (disch := omega) only [s_upf, s_upk]); exact h.R.unit j hj
  · intro j hj
    by_cases e : j = r0
    · subst e; obtain ⟨a0, a1, a2, a3, a4⟩ := h.R.room j hj; simp (disch := omega) only [s_upe, s_upf, s_upk]; exact ⟨a0, a1, a2, trivial, l_inN (by omega) (by decide)⟩
    · simp (disch := omega) only [s_upf, s_upk]; exact h.R.room j hj
  · (try simp (disch := omega) only [s_upf, s_upk]); exact h.R.spd 
  · intro r d hr hd; (try simp (disch := omega) only [s_upf, s_upk]); exact h.R.grant r d hr hd
  · intro r c hr hc; (try simp (disch := omega) only [s_upf, s_upk]); exact h.R.sure r c hr hc
  · intro c hc; (try simp (disch := omega) only [s_upf, s_upk]); exact h.R.sure2 c hc
  · intro r c hr hc; unfold g_rec; (try simp (disch := omega) only [s_upf, s_upk]); exact h.R.recs r c hr hc
  · intro c hc; unfold g_rec; (try simp (disch := omega) only [s_upf, s_upk]); exact h.R.rrecs c hc
  · intro q hq; (try simp (disch := omega) only [s_upf, s_upk]); exact h.R.recin q hq
  · intro q c hq hc hz; exact tk _ (h.R.taken q c hq hc hz)
  · (try simp (disch := omega) only [s_upf, s_upk]); exact h.R.ref 
  · intro d hd; (try simp (disch := omega) only [s_upf, s_upk]); exact h.R.refd d hd
  · intro r u hr hu; (try simp (disch := omega) only [s_upf, s_upk]); exact h.R.sight r u hr hu
  · (try simp (disch := omega) only [s_upf, s_upk]); exact h.c1
  · (try simp (disch := omega) only [s_upf, s_upk]); exact h.c2
  · intro i hi; have hp := h.pl i (by have := h.n; omega); have hl := h.lets i hi; unfold g_let g_lrec g_tk at hl ⊢
    have tk2 : ∀ c : Int32, (l_in c 16 = true ∧ c.toNatClampNeg % 8 < (I' 224 (c.toNatClampNeg / 8)).toNatClampNeg) → (l_in c 16 = true ∧ c.toNatClampNeg % 8 < (s_up I' 224 r0 (Int32.ofNat (t + 1)) 224 (c.toNatClampNeg / 8)).toNatClampNeg) := tk
    simp (disch := omega) only [s_upf, s_upk]
    obtain ⟨hl1, hl⟩ := hl
    refine ⟨hl1, ?_⟩
    rcases hl with hl | hl | ⟨b0, b1, b2, b3, b4⟩ | hl | ⟨b0, b1, b2, b3, b4⟩ | hl | hl | hl
    · exact Or.inl hl
    · exact Or.inr (Or.inl hl)
    · exact Or.inr (Or.inr (Or.inl ⟨b0, b1, b2, tk2 _ b3, b4⟩))
    · exact Or.inr (Or.inr (Or.inr (Or.inl hl)))
    · exact Or.inr (Or.inr (Or.inr (Or.inr (Or.inl ⟨b0, b1, b2, tk2 _ b3, b4⟩))))
    · exact Or.inr (Or.inr (Or.inr (Or.inr (Or.inr (Or.inl hl)))))
    · exact Or.inr (Or.inr (Or.inr (Or.inr (Or.inr (Or.inr (Or.inl hl))))))
    · exact Or.inr (Or.inr (Or.inr (Or.inr (Or.inr (Or.inr (Or.inr hl))))))
variable {m n rem : Nat} {p w : Nat → Nat} {I I1 I' : Nat → Nat → Int32} {J J' : Nat → Nat → Int64} {Z Z' : Nat → Nat → Bool} {r j : Nat} {hh : Int32}
def al_P (xs : Nat → Int32) (Ln rem : Nat) (w : Nat → Nat) (I1 I' : Nat → Nat → Int32) (J : Nat → Nat → Int64) (Z Z' : Nat → Nat → Bool) (r j : Nat) (hh : Int32) (c : Nat) : Prop := ∃ y : Int32, (y = -1 ∨ ∃ e, e < 16 ∧ y = Int32.ofNat e ∧ Z (148 + 29 * r + e) 0 = true) ∧ w_R xs Ln 38 (11, [(4, .int (Int32.ofNat c)), (0, .ref 1), (1, .ref (141 + 29 * r)), (2, .int (Int32.ofNat j)), (3, .int hh)], [], (I1, J, kR w rem, Z), 0, 0) (fun o s => o = .inl (some (.int y)) ∧ s = (I1, J, kR w rem, Z)) ∧ ∀ (A : Nat → Nat → Int32) (B : Nat → Nat → Int64) (C : Nat → Nat → Bool), nr_ok I' A → (∀ k, C 225 k = Z' 225 k) →  ∃ A1 : Nat → Nat → Int32, w_R xs Ln 145 (3, [(4, .int (Int32.ofNat c)), (0, .ref 199), (1, .int (Int32.ofNat r)), (2, .int (Int32.ofNat j)), (3, .int hh)], [], (A, B, kR w rem, C), 0, 0) (fun o s => o = .inl (some (.int y)) ∧ s = (A1, B, kR w rem, C)) ∧ nr_of A A1
theorem al_o (hV : g_V m n p I J Z I' J' Z') (h1 : ∀ a k, a ≠ 4 → I1 a k = I a k) (h2 : ∀ v, v < 12 → y_is (g_E I) j v (I1 4 v)) (hr : r < 2) (hj : j < 12) : ∀ (g c : Nat), c + g = 16 → al_P xs Ln rem w I1 I' J Z Z' r j hh c := by
  intro g
  induction g with
  | zero =>
    intro c hc
    have e : c = 16 := by omega
    subst e
    exact ⟨-1, Or.inl rfl, s38x r j hh, fun A B C _ _ => ⟨A, s145x r j hh, nr_of.rf⟩⟩
  | succ g ih =>
    intro c hc
    have hc16 : c < 16 := by omega
    obtain ⟨y, hy, k1, k2⟩ := ih (c + 1) (by omega)
    obtain ⟨z0, e1, e2, e3, e4, e5, e6, e7, e8, e9⟩ := hV.R.recs r c hr hc16
    obtain ⟨q, hq, eq⟩ := l_of (hV.R.recin (16 * r + c) (by omega)).1
    have nx : (∀ Q : i_O → s_S → Prop, w_R xs Ln 38 (11, [(4, .int (Int32.ofNat (c + 1))), (0, .ref 1), (1, .ref (141 + 29 * r)), (2, .int (Int32.ofNat j)), (3, .int hh)], [], (I1, J, kR w rem, Z), 0, 0) Q → w_R xs Ln 38 (11, [(4, .int (Int32.ofNat c)), (0, .ref 1), (1, .ref (141 + 29 * r)), (2, .int (Int32.ofNat j)), (3, .int hh)], [], (I1, J, kR w rem, Z), 0, 0) Q) → (∀ (A : Nat → Nat → Int32) (B : Nat → Nat → Int64) (C : Nat → Nat → Bool), nr_ok I' A → (∀ k, C 225 k = Z' 225 k) →  ∃ A1 : Nat → Nat → Int32, nr_of A A1 ∧ ∀ Q : i_O → s_S → Prop, w_R xs Ln 145 (3, [(4, .int (Int32.ofNat (c + 1))), (0, .ref 199), (1, .int (Int32.ofNat r)), (2, .int (Int32.ofNat j)), (3, .int hh)], [], (A1, B, kR w rem, C), 0, 0) Q → w_R xs Ln 145 (3, [(4, .int (Int32.ofNat c)), (0, .ref 199), (1, .int (Int32.ofNat r)), (2, .int (Int32.ofNat j)), (3, .int hh)], [], (A, B, kR w rem, C), 0, 0) Q) → al_P xs Ln rem w I1 I' J Z Z' r j hh c := fun f1 f2 =>
      ⟨y, hy, f1 _ k1, fun A B C hA hC => by
        obtain ⟨A1, g1, g2⟩ := f2 A B C hA hC
        obtain ⟨A2, g3, g4⟩ := k2 A1 B C (g1.ok hA) hC
        exact ⟨A2, g2 _ g3, g1.tr g4⟩⟩
    have a5 : ∀ A, nr_ok I' A → A 230 (16 * r + c) = I1 (148 + 29 * r + c) 5 := fun A hA => (hA 230 _ (by omega) (by omega)).trans (e5.symm.trans (h1 _ _ (by omega)).symm)
    have a2 : ∀ A, nr_ok I' A → A 227 (16 * r + c) = I1 (148 + 29 * r + c) 2 := fun A hA => (hA 227 _ (by omega) (by omega)).trans (e2.symm.trans (h1 _ _ (by omega)).symm)
    have hq1 : I1 (148 + 29 * r + c) 1 = Int32.ofNat q := (h1 _ _ (by omega)).trans (e1.trans eq)
    have aq : ∀ A, nr_ok I' A → A 226 (16 * r + c) = Int32.ofNat q := fun A hA => (hA 226 _ (by omega) (by omega)).trans eq
    by_cases hz : Z (148 + 29 * r + c) 0 = true
    · have cz : ∀ C : Nat → Nat → Bool, (∀ k, C 225 k = Z' 225 k) → C 225 (16 * r + c) = true := fun C hC => (hC _).trans (z0.symm.trans hz)
      by_cases hs : I1 (148 + 29 * r + c) 5 = 2
      · exact nx (fun Q h => s38b r j hh c hr hc16 hz hs Q h) (fun A B C hA hC => ⟨A, nr_of.rf, fun Q h => s145b r j hh c hr hc16 (cz C hC) ((a5 A hA).trans hs) Q h⟩)
      · by_cases hx : I1 (148 + 29 * r + c) 2 = hh
        · by_cases hw : I1 4 q = -1
          · refine nx (fun Q h => s38d r j hh c q hr hc16 hz hs hx hq hq1 hw Q h) (fun A B C hA hC => ?_)
            obtain ⟨A1, g1, g2⟩ := g_way1 (xs := xs) (Ln := Ln) (w := w) (rem := rem) (A := A) (B := B) (C := C) hV (fun k => hA 200 k (by omega) (by omega)) hq hj (h2 q hq)
            exact ⟨A1, g2, fun Q h => s145d r j hh c q (I1 4 q) A1 hr hc16 (cz C hC) (by rw [a5 A hA]; exact hs) ((a2 A hA).trans hx) hq hj (aq A hA) g1 hw Q h⟩
          · by_cases h6 : 60 < I1 4 q
            · refine nx (fun Q h => s38e r j hh c q hr hc16 hz hs hx hq hq1 hw h6 Q h) (fun A B C hA hC => ?_)
              obtain ⟨A1, g1, g2⟩ := g_way1 (xs := xs) (Ln := Ln) (w := w) (rem := rem) (A := A) (B := B) (C := C) hV (fun k => hA 200 k (by omega) (by omega)) hq hj (h2 q hq)
              exact ⟨A1, g2, fun Q h => s145e r j hh c q (I1 4 q) A1 hr hc16 (cz C hC) (by rw [a5 A hA]; exact hs) ((a2 A hA).trans hx) hq hj (aq A hA) g1 hw h6 Q h⟩
            · refine ⟨Int32.ofNat c, Or.inr ⟨c, hc16, rfl, hz⟩, s38f r j hh c q hr hc16 hz hs hx hq hq1 hw h6, fun A B C hA hC => ?_⟩
              obtain ⟨A1, g1, g2⟩ := g_way1 (xs := xs) (Ln := Ln) (w := w) (rem := rem) (A := A) (B := B) (C := C) hV (fun k => hA 200 k (by omega) (by omega)) hq hj (h2 q hq)
              exact ⟨A1, s145f r j hh c q (I1 4 q) A1 hr hc16 (cz C hC) (by rw [a5 A hA]; exact hs) ((a2 A hA).trans hx) hq hj (aq A hA) g1 hw h6, g2⟩
        · exact nx (fun Q h => s38c r j hh c hr hc16 hz hs hx Q h) (fun A B C hA hC => ⟨A, nr_of.rf, fun Q h => s145c r j hh c hr hc16 (cz C hC) (by rw [a5 A hA]; exact hs) (by rw [a2 A hA]; exact hx) Q h⟩)
    · exact nx (fun Q h => s38a r j hh c hr hc16 (Bool.eq_false_iff.mpr hz) Q h) (fun A B C hA hC => ⟨A, nr_of.rf, fun Q h => s145a r j hh c hr hc16 ((hC _).trans (z0.symm.trans (Bool.eq_false_iff.mpr hz))) Q h⟩)
theorem al_all (hV : g_V m n p I J Z I' J' Z') (hr : r < 2) (hj : j < 12) (hh : Int32) : ∃ (y : Int32) (I1 : Nat → Nat → Int32), (y = -1 ∨ ∃ e, e < 16 ∧ y = Int32.ofNat e ∧ Z (148 + 29 * r + e) 0 = true) ∧ w_R xs Ln 38 (0, [(0, .ref 1), (1, .ref (141 + 29 * r)), (2, .int (Int32.ofNat j)), (3, .int hh)], [], (I, J, kR w rem, Z), 0, 0) (fun o s => o = .inl (some (.int y)) ∧ s = (I1, J, kR w rem, Z)) ∧ (∀ a k, a ≠ 4 → I1 a k = I a k) ∧ ∀ (A : Nat → Nat → Int32) (B : Nat → Nat → Int64) (C : Nat → Nat → Bool), nr_ok I' A → (∀ k, C 225 k = Z' 225 k) →  ∃ A1 : Nat → Nat → Int32, w_R xs Ln 145 (0, [(0, .ref 199), (1, .int (Int32.ofNat r)), (2, .int (Int32.ofNat j)), (3, .int hh)], [], (A, B, kR w rem, C), 0, 0) (fun o s => o = .inl (some (.int y)) ∧ s = (A1, B, kR w rem, C)) ∧ nr_of A A1 := by
  obtain ⟨I1, h1, h2, h3⟩ := g_ways (xs := xs) (Ln := Ln) (w := w) (rem := rem) hV hj
  obtain ⟨y, hy, k1, k2⟩ := al_o (xs := xs) (Ln := Ln) (rem := rem) (w := w) (hh := hh) hV h2 h3 hr hj 16 0 rfl
  refine ⟨y, I1, hy, s38y r j hh I1 hj h1 _ k1, h2, fun A B C hA hC => ?_⟩
  obtain ⟨A1, g1, g2⟩ := k2 A B C hA hC
  exact ⟨A1, s145y r j hh _ g1, g2⟩
end Ops12
