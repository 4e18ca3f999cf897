section Ops10
variable {xs : Nat → Int32} {Ln : Nat}
def i_moa (I : Nat → Nat → Int32) (J : Nat → Nat → Int64) (Z : Nat → Nat → Bool) (r e u q : Nat) (x : Int32) (n : Nat) : Nat → Nat → Int32 := s_up (i_117a I J Z 5 (Int32.ofNat r) (Int32.ofNat (3 + u)) (Int32.ofNat e) x n) 248 n (Int32.ofNat q)
def i_mo (I : Nat → Nat → Int32) (J : Nat → Nat → Int64) (Z : Nat → Nat → Bool) (r e u q : Nat) (x : Int32) (n : Nat) : Nat → Nat → Int32 := if n < 48 then i_moa I J Z r e u q x n else I
theorem i_mo_e {I : Nat → Nat → Int32} {J : Nat → Nat → Int64} {Z : Nat → Nat → Bool} {r e u q n a k : Nat} {x : Int32} (h : a < 242) (h2 : ¬ (a = 199 ∧ k = 44)) : i_mo I J Z r e u q x n a k = I a k := by
  unfold i_mo
  split
  · unfold i_moa; rw [s_upa (by omega)]; exact p117_e (Or.inl h) h2
  · rfl
theorem g_sorder {m n : Nat} {p : Nat → Nat} {I : Nat → Nat → Int32} {J : Nat → Nat → Int64} {Z : Nat → Nat → Bool} {I' : Nat → Nat → Int32} {J' : Nat → Nat → Int64} {Z' : Nat → Nat → Bool} (h : g_V m n p I J Z I' J' Z') (hne : ∀ i, i < n → p i ≠ p n) {r e u q d : Nat} {x : Int32} (hr : r < 2) (he : e < 16) (hu : u < 6) (hq : q < 12) (hx : I (142 + 29 * r) d = x) : g_V m (g_s n) p (i_47 I J Z r e u n p q d) J Z (i_mo I' J' Z' r e u q x n) J' Z' := by
  have hpn := h.pl n (by have := h.n; omega)
  have e36 : 35 + 2 * p n + 1 = 36 + 2 * p n := by omega
  refine h.post (n2 := g_s n) hne (fun a' k' h1 h2 h3 => ?_) (fun a' k' h1 => ?_) (fun a' k' h1 => ?_) (fun a' k' h1 h2 => ?_) (fun a' k' h1 => ?_) (fun _ _ => rfl) (g_s_le h.n) ?_ ?_ ?_
  · unfold i_47; (try simp (disch := omega) only [s_upf]); exact p72_e h1 h3
  · rfl
  · rfl
  · unfold i_mo; split
    · unfold i_moa; rcases h1 with h1 | h1
      · (try simp (disch := omega) only [s_upf]); exact p117_e (Or.inl h1) h2
      · (try simp (disch := omega) only [s_upk]); exact p117_e (Or.inr (Or.inr h1)) h2
    · rfl
  · rfl
  · unfold i_47; (try simp (disch := omega) only [s_upf]); exact p72_c h.c1
  · unfold i_mo g_s; split
    · unfold i_moa; (try simp (disch := omega) only [s_upf]); exact p117_c
    · exact h.c2
  · by_cases hn : n < 48
    · refine Or.inr ⟨if_pos hn, ?_⟩
      unfold g_let g_lrec g_tk
      rw [e36]
      refine ⟨⟨?_, ?_, ?_, ?_, ?_⟩, ?_⟩
      · (try simp (disch := omega) only [i_47, i_mo, i_moa, if_pos hn, s_upe, s_upf, s_upk, p72_0, p72_1, p72_2, p72_3, p72_4, p72_e, p117_0, p117_1, p117_2, p117_3, p117_4, p117_e, p117_c]) <;> first | done | assumption
      · (try simp (disch := omega) only [i_47, i_mo, i_moa, if_pos hn, s_upe, s_upf, s_upk, p72_0, p72_1, p72_2, p72_3, p72_4, p72_e, p117_0, p117_1, p117_2, p117_3, p117_4, p117_e, p117_c]) <;> first | done | assumption
      · (try simp (disch := omega) only [i_47, i_mo, i_moa, if_pos hn, s_upe, s_upf, s_upk, p72_0, p72_1, p72_2, p72_3, p72_4, p72_e, p117_0, p117_1, p117_2, p117_3, p117_4, p117_e, p117_c]) <;> first | done | assumption
      · (try simp (disch := omega) only [i_47, i_mo, i_moa, if_pos hn, s_upe, s_upf, s_upk, p72_0, p72_1, p72_2, p72_3, p72_4, p72_e, p117_0, p117_1, p117_2, p117_3, p117_4, p117_e, p117_c]) <;> first | done | assumption
      · (try simp (disch := omega) only [i_47, i_mo, i_moa, if_pos hn, s_upe, s_upf, s_upk, p72_0, p72_1, p72_2, p72_3, p72_4, p72_e, p117_0, p117_1, p117_2, p117_3, p117_4, p117_e, p117_c]) <;> first | done | assumption
      refine Or.inr (Or.inr (Or.inr (Or.inr (Or.inr (Or.inl ⟨?_, ?_, ?_, ?_, ?_⟩))))) <;> (try simp (disch := omega) only [i_47, i_mo, i_moa, if_pos hn, s_upe, s_upf, s_upk, p72_0, p72_1, p72_2, p72_3, p72_4, p72_e, p117_0, p117_1, p117_2, p117_3, p117_4, p117_e, p117_c]) <;> first | assumption | exact ⟨u, hu, rfl⟩ | exact l_inN (by omega) (by decide) | rfl
    · exact Or.inl (if_neg hn)
/-- knowsUnitOn and unitOn -/
def on_P (xs : Nat → Int32) (Ln rem : Nat) (w : Nat → Nat) (I I' : Nat → Nat → Int32) (J : Nat → Nat → Int64) (Z Z' : Nat → Nat → Bool) (r e u : Nat) : Prop := (w_R xs Ln 93 (2, [(2, .int (Int32.ofNat u)), (0, .ref (141 + 29 * r)), (1, .int (Int32.ofNat e))], [], (I, J, kR w rem, Z), 0, 0) (fun o s => o = .inl (some (.int 1)) ∧ s = (I, J, kR w rem, Z)) ∧ ∀ (A : Nat → Nat → Int32) (B : Nat → Nat → Int64), (∀ a k, 199 ≤ a → A a k = I' a k) → w_R xs Ln 149 (2, [(3, .int (Int32.ofNat u)), (0, .ref 199), (1, .int (Int32.ofNat r)), (2, .int (Int32.ofNat e))], [], (A, B, kR w rem, Z'), 0, 0) (fun o s => o = .inl (some (.int 1)) ∧ s = (A, B, kR w rem, Z'))) ∨
    (w_R xs Ln 93 (2, [(2, .int (Int32.ofNat u)), (0, .ref (141 + 29 * r)), (1, .int (Int32.ofNat e))], [], (I, J, kR w rem, Z), 0, 0) (fun o s => o = .inl (some (.int 0)) ∧ s = (I, J, kR w rem, Z)) ∧ ∀ (A : Nat → Nat → Int32) (B : Nat → Nat → Int64), (∀ a k, 199 ≤ a → A a k = I' a k) → w_R xs Ln 149 (2, [(3, .int (Int32.ofNat u)), (0, .ref 199), (1, .int (Int32.ofNat r)), (2, .int (Int32.ofNat e))], [], (A, B, kR w rem, Z'), 0, 0) (fun o s => o = .inl (some (.int 0)) ∧ s = (A, B, kR w rem, Z')))
theorem on_all {m n rem : Nat} {p w : Nat → Nat} {I I' : Nat → Nat → Int32} {J J' : Nat → Nat → Int64} {Z Z' : Nat → Nat → Bool} (hV : g_V m n p I J Z I' J' Z') {r : Nat} (hr : r < 2) (e : Nat) : ∀ (g u : Nat), u + g = 6 → on_P xs Ln rem w I I' J Z Z' r e u := by
  intro g
  induction g with
  | zero =>
    intro u hu
    have e6 : u = 6 := by omega
    subst e6
    exact Or.inr ⟨s93x r e, fun A B hA => s149x r e⟩
  | succ g ih =>
    intro u hu
    have hu6 : u < 6 := by omega
    obtain ⟨a0, a1, a2, a3, a4, a5, a6, a7⟩ := hV.R.sight r u hr hu6
    have ih := ih (u + 1) (by omega)
    have nx : v_102 I J Z (164 + 29 * r + u) (Int32.ofNat e) = false → (∀ (A : Nat → Nat → Int32) (B : Nat → Nat → Int64) (Q : i_O → s_S → Prop), (∀ a k, 199 ≤ a → A a k = I' a k) → w_R xs Ln 149 (2, [(3, .int (Int32.ofNat (u + 1))), (0, .ref 199), (1, .int (Int32.ofNat r)), (2, .int (Int32.ofNat e))], [], (A, B, kR w rem, Z'), 0, 0) Q → w_R xs Ln 149 (2, [(3, .int (Int32.ofNat u)), (0, .ref 199), (1, .int (Int32.ofNat r)), (2, .int (Int32.ofNat e))], [], (A, B, kR w rem, Z'), 0, 0) Q) → on_P xs Ln rem w I I' J Z Z' r e u := fun h1 h2 => by
      rcases ih with ⟨k1, k2⟩ | ⟨k1, k2⟩
      · exact Or.inl ⟨s93f r e u hr hu6 h1 _ k1, fun A B hA => h2 A B _ hA (k2 A B hA)⟩
      · exact Or.inr ⟨s93f r e u hr hu6 h1 _ k1, fun A B hA => h2 A B _ hA (k2 A B hA)⟩
    by_cases hz : Z' 236 (6 * r + u) = true
    · by_cases h1 : I' 239 (6 * r + u) = Int32.ofNat e
      · by_cases h2 : I' 237 (6 * r + u) = 1
        · refine Or.inl ⟨s93t r e u hr hu6 ?_, fun A B hA => s149d r e u hr hu6 hz ((hA _ _ (by omega)).trans h1) ((hA _ _ (by omega)).trans h2)⟩
          unfold v_102; rw [a0, a4, a3, if_pos hz, if_pos h1, h2]; rfl
        · by_cases h3 : I' 237 (6 * r + u) = 2
          · refine Or.inl ⟨s93t r e u hr hu6 ?_, fun A B hA => s149e r e u hr hu6 hz ((hA _ _ (by omega)).trans h1) (by rw [hA _ _ (by omega)]; exact h2) ((hA _ _ (by omega)).trans h3)⟩
            unfold v_102; rw [a0, a4, a3, if_pos hz, if_pos h1, h3]; rfl
          · refine nx ?_ (fun A B Q hA h => s149c r e u hr hu6 hz ((hA _ _ (by omega)).trans h1) (by rw [hA _ _ (by omega)]; exact h2) (by rw [hA _ _ (by omega)]; exact h3) Q h)
            obtain ⟨k, hk, ek⟩ := l_of a7
            have : k = 0 ∨ k = 1 ∨ k = 2 ∨ k = 3 := by omega
            unfold v_102
            rw [a0, a4, a3, if_pos hz, if_pos h1, ek]
            rcases this with rfl | rfl | rfl | rfl
            · rfl
            · exact absurd ek h2
            · exact absurd ek h3
            · rfl
      · refine nx ?_ (fun A B Q hA h => s149b r e u hr hu6 hz (by rw [hA _ _ (by omega)]; exact h1) Q h)
        unfold v_102; rw [a0, a4, if_pos hz, if_neg h1]
    · refine nx ?_ (fun A B Q hA h => s149a r e u hr hu6 (Bool.eq_false_iff.mpr hz) Q h)
      unfold v_102; rw [a0, if_neg hz]
end Ops10
