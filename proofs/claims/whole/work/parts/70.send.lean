section Send
def i_rep (I : Nat → Nat → Int32) (J : Nat → Nat → Int64) (Z : Nat → Nat → Bool) (u : Nat) (r s v0 v1 v4 : Int32) (n : Nat) (p : Nat → Nat) : Nat → Nat → Int32 := s_up (s_up (s_up (i_72 I J Z 6 (Int32.ofNat (3 + u)) r (Int32.ofNat u) s n (p n)) (35 + 2 * p n) 8 v0) (35 + 2 * p n) 7 v1) (35 + 2 * p n) 9 v4
theorem i_48_rep {I : Nat → Nat → Int32} {J : Nat → Nat → Int64} {Z : Nat → Nat → Bool} {u n : Nat} {p : Nat → Nat} : i_48 I J Z u n p = i_rep (i_rep (s_up I (135 + u) 3 (I (135 + u) 3 + 1)) J Z u 0 (I (135 + u) 3 + 1) (I (135 + u) 0) (I (135 + u) 1) (I (135 + u) 4) n p) J Z u 1 (I (135 + u) 3 + 1) (I (135 + u) 0) (I (135 + u) 1) (I (135 + u) 4) (g_s n) p := rfl
theorem q121_e {I : Nat → Nat → Int32} {J : Nat → Nat → Int64} {Z : Nat → Nat → Bool} {u n a k : Nat} {r : Int32} (h : a < 242) (h2 : ¬ (a = 199 ∧ k = 44)) : i_121 I J Z u r n a k = I a k := by
  unfold i_121
  split
  · unfold i_121a; simp (disch := omega) only [s_upf]; exact p117_e (Or.inl h) h2
  · rfl
theorem g_rep {m n : Nat} {p : Nat → Nat} {I : Nat → Nat → Int32} {J : Nat → Nat → Int64} {Z : Nat → Nat → Bool} {I' : Nat → Nat → Int32} {J' : Nat → Nat → Int64} {Z' : Nat → Nat → Bool} (h : g_V m n p I J Z I' J' Z') (hne : ∀ i, i < n → p i ≠ p n) {u : Nat} {r s v0 v1 v4 : Int32} (hu : u < 6) (hr : l_in r 2 = true) (es : s = I' 213 u) (e0 : v0 = I' 210 u) (e1 : v1 = I' 208 u) (e4 : v4 = I' 211 u) : g_V m (g_s n) p (i_rep I J Z u r s v0 v1 v4 n p) J Z (i_121 I' J' Z' u r n) J' Z' := by
  have hpn := h.pl n (by have := h.n; omega)
  have e36 : 35 + 2 * p n + 1 = 36 + 2 * p n := by omega
  obtain ⟨-, -, -, -, -, -, -, f0, f1, f2⟩ := h.R.unit u hu
  refine h.post (n2 := g_s n) hne (fun a' k' h1 h2 h3 => ?_) (fun a' k' h1 => ?_) (fun a' k' h1 => ?_) (fun a' k' h1 h2 => ?_) (fun a' k' h1 => ?_) (fun _ _ => rfl) (g_s_le h.n) ?_ ?_ ?_
  · unfold i_rep; (try simp (disch := omega) only [s_upf]); exact p72_e h1 h3
  · rfl
  · rfl
  · unfold i_121; split
    · unfold i_121a; rcases h1 with h1 | h1
      · (try simp (disch := omega) only [s_upf]); exact p117_e (Or.inl h1) h2
      · (try simp (disch := omega) only [s_upk]); exact p117_e (Or.inr (Or.inr h1)) h2
    · rfl
  · rfl
  · unfold i_rep; (try simp (disch := omega) only [s_upf]); exact p72_c h.c1
  · unfold i_121 g_s; split
    · unfold i_121a; (try simp (disch := omega) only [s_upf]); exact p117_c
    · exact h.c2
  · by_cases hn : n < 48
    · refine Or.inr ⟨if_pos hn, ?_⟩
      unfold g_let g_lrec g_tk
      rw [e36]
      refine ⟨⟨?_, ?_, ?_, ?_, ?_⟩, ?_⟩
      · (try simp (disch := omega) only [i_rep, i_121, i_121a, if_pos hn, s_upe, s_upf, s_upk, p72_0, p72_1, p72_2, p72_3, p72_4, p72_e, p117_0, p117_1, p117_2, p117_3, p117_4, p117_e, p117_c]) <;> first | done | assumption
      · (try simp (disch := omega) only [i_rep, i_121, i_121a, if_pos hn, s_upe, s_upf, s_upk, p72_0, p72_1, p72_2, p72_3, p72_4, p72_e, p117_0, p117_1, p117_2, p117_3, p117_4, p117_e, p117_c]) <;> first | done | assumption
      · (try simp (disch := omega) only [i_rep, i_121, i_121a, if_pos hn, s_upe, s_upf, s_upk, p72_0, p72_1, p72_2, p72_3, p72_4, p72_e, p117_0, p117_1, p117_2, p117_3, p117_4, p117_e, p117_c]) <;> first | done | assumption
      · (try simp (disch := omega) only [i_rep, i_121, i_121a, if_pos hn, s_upe, s_upf, s_upk, p72_0, p72_1, p72_2, p72_3, p72_4, p72_e, p117_0, p117_1, p117_2, p117_3, p117_4, p117_e, p117_c]) <;> first | done | assumption
      · (try simp (disch := omega) only [i_rep, i_121, i_121a, if_pos hn, s_upe, s_upf, s_upk, p72_0, p72_1, p72_2, p72_3, p72_4, p72_e, p117_0, p117_1, p117_2, p117_3, p117_4, p117_e, p117_c]) <;> first | done | assumption
      refine Or.inr (Or.inr (Or.inr (Or.inr (Or.inr (Or.inr (Or.inl ⟨?_, ?_, ?_, ?_, ?_, ?_, ?_, ?_⟩)))))) <;> (try simp (disch := omega) only [i_rep, i_121, i_121a, if_pos hn, s_upe, s_upf, s_upk, p72_0, p72_1, p72_2, p72_3, p72_4, p72_e, p117_0, p117_1, p117_2, p117_3, p117_4, p117_e, p117_c]) <;> first | assumption | exact l_inN (by omega) (by decide) | rfl
    · exact Or.inl (if_neg hn)
theorem g_ne {p : Nat → Nat} (h : ∀ k k', k < 49 → k' < 49 → p k = p k' → k = k') {n : Nat} (hn : n ≤ 48) : ∀ i, i < n → p i ≠ p n := fun i hi e => by
  have := h i n (by omega) (by omega) e
  omega
theorem g_reports {m n : Nat} {p : Nat → Nat} {I : Nat → Nat → Int32} {J : Nat → Nat → Int64} {Z : Nat → Nat → Bool} {I' : Nat → Nat → Int32} {J' : Nat → Nat → Int64} {Z' : Nat → Nat → Bool} (h : g_V m n p I J Z I' J' Z') (inj : ∀ k k', k < 49 → k' < 49 → p k = p k' → k = k') {u : Nat} (hu : u < 6) : g_V m (g_s (g_s n)) p (i_48 I J Z u n p) J Z (i_122 I' J' Z' u n) J' Z' := by
  rw [i_48_rep]
  unfold i_122
  obtain ⟨e0, e1, e2, e3, e4, e5, e6, f0, f1, f2⟩ := h.R.unit u hu
  have h1 : g_V m n p (s_up I (135 + u) 3 (I (135 + u) 3 + 1)) J Z (s_up I' 213 u (I' 213 u + 1)) J' Z' := by
    refine h.unit hu (fun a k h => s_upa h) (fun a k h => by rcases h with h | h | h <;> simp (disch := omega) only [s_upf, s_upk]) ?_
    simp (disch := omega) only [s_upe, s_upf, s_upk, e3]
    exact ⟨e0, e1, e2, trivial, e4, e5, e6, f0, f1, f2⟩
  have h2 := g_rep h1 (g_ne inj h1.n) (r := 0) (s := I (135 + u) 3 + 1) (v0 := I (135 + u) 0) (v1 := I (135 + u) 1) (v4 := I (135 + u) 4) hu (by decide) (by rw [s_upe, e3]) (by simp (disch := omega) only [s_upf]; exact e0) (by simp (disch := omega) only [s_upf]; exact e1) (by simp (disch := omega) only [s_upf]; exact e4)
  refine g_rep h2 (g_ne inj h2.n) (r := 1) (s := I (135 + u) 3 + 1) (v0 := I (135 + u) 0) (v1 := I (135 + u) 1) (v4 := I (135 + u) 4) hu (by decide) ?_ ?_ ?_ ?_ <;> rw [q121_e (by omega) (by omega)]
  · rw [s_upe, e3]
  · simp (disch := omega) only [s_upf]; exact e0
  · simp (disch := omega) only [s_upf]; exact e1
  · simp (disch := omega) only [s_upf]; exact e4
end Send
