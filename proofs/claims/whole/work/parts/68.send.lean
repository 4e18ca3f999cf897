section Send
theorem g_sendRec {m n : Nat} {p : Nat → Nat} {I : Nat → Nat → Int32} {J : Nat → Nat → Int64} {Z : Nat → Nat → Bool} {I' : Nat → Nat → Int32} {J' : Nat → Nat → Int64} {Z' : Nat → Nat → Bool} (h : g_V m n p I J Z I' J' Z') (hne : ∀ i, i < n → p i ≠ p n) {a f c : Nat} {k t : Int32} (ha : a < 33 ∨ 141 ≤ a) (hf : f < 3) (hc : c < 16) (hr : g_rec I Z I' Z' a (16 * f + c)) (hk : Z' 225 (16 * f + c) = true) (hkt : (k = 2 ∧ l_in t 2 = true) ∨ (k = 4 ∧ f < 2 ∧ t = 2)) : g_V m (g_s n) p (i_45 I J Z k (Int32.ofNat f) t a (Int32.ofNat c) n p) J (z_45 I J Z k (Int32.ofNat f) t a (Int32.ofNat c) n p) (i_118 I' J' Z' k f t c n) J' Z' := by
  have hpn := h.pl n (by have := h.n; omega)
  have e36 : 35 + 2 * p n + 1 = 36 + 2 * p n := by omega
  have hq : 16 * f + c < 48 := by omega
  obtain ⟨n1, n2, -⟩ := h.R.recin (16 * f + c) hq
  have htk := h.R.taken f c hf hc hk
  obtain ⟨tk1, tk2⟩ := htk
  obtain ⟨z0, e1, e2, e3, e4, e5, e6, e7, e8, e9⟩ := hr
  have z1 : Z a 0 = true := z0.trans hk
  refine h.post (n2 := g_s n) hne (fun a' k' h1 h2 h3 => ?_) (fun a' k' h1 => ?_) (fun a' k' h1 => ?_) (fun a' k' h1 h2 => ?_) (fun a' k' h1 => ?_) (fun _ _ => rfl) (g_s_le h.n) ?_ ?_ ?_
  · unfold i_45 i_64; (try simp (disch := omega) only [s_upf]); exact p72_e h1 h3
  · rfl
  · unfold z_45 z_64; exact s_upa h1
  · unfold i_118; split
    · unfold i_118a; rcases h1 with h1 | h1
      · (try simp (disch := omega) only [s_upf]); exact p117_e (Or.inl h1) h2
      · (try simp (disch := omega) only [s_upk]); exact p117_e (Or.inr (Or.inr h1)) h2
    · rfl
  · rfl
  · unfold i_45 i_64; (try simp (disch := omega) only [s_upf]); exact p72_c h.c1
  · unfold i_118 g_s; split
    · unfold i_118a; (try simp (disch := omega) only [s_upf]); exact p117_c
    · exact h.c2
  · by_cases hn : n < 48
    · refine Or.inr ⟨if_pos hn, ?_⟩
      unfold g_let g_lrec g_tk
      rw [e36]
      refine ⟨⟨?_, ?_, ?_, ?_, ?_⟩, ?_⟩
      · (try simp (disch := omega) only [i_45, i_64, z_45, z_64, i_118, i_118a, if_pos hn, s_upe, s_upf, s_upk, p72_0, p72_1, p72_2, p72_3, p72_4, p72_e, p117_0, p117_1, p117_2, p117_3, p117_4, p117_e, p117_c]) <;> first | done | assumption
      · (try simp (disch := omega) only [i_45, i_64, z_45, z_64, i_118, i_118a, if_pos hn, s_upe, s_upf, s_upk, p72_0, p72_1, p72_2, p72_3, p72_4, p72_e, p117_0, p117_1, p117_2, p117_3, p117_4, p117_e, p117_c]) <;> first | done | assumption
      · (try simp (disch := omega) only [i_45, i_64, z_45, z_64, i_118, i_118a, if_pos hn, s_upe, s_upf, s_upk, p72_0, p72_1, p72_2, p72_3, p72_4, p72_e, p117_0, p117_1, p117_2, p117_3, p117_4, p117_e, p117_c]) <;> first | done | assumption
      · (try simp (disch := omega) only [i_45, i_64, z_45, z_64, i_118, i_118a, if_pos hn, s_upe, s_upf, s_upk, p72_0, p72_1, p72_2, p72_3, p72_4, p72_e, p117_0, p117_1, p117_2, p117_3, p117_4, p117_e, p117_c]) <;> first | done | assumption
      · (try simp (disch := omega) only [i_45, i_64, z_45, z_64, i_118, i_118a, if_pos hn, s_upe, s_upf, s_upk, p72_0, p72_1, p72_2, p72_3, p72_4, p72_e, p117_0, p117_1, p117_2, p117_3, p117_4, p117_e, p117_c]) <;> first | done | assumption
      rcases hkt with ⟨rfl, hkt⟩ | ⟨rfl, hf2, rfl⟩
      · refine Or.inr (Or.inr (Or.inl ⟨?_, ?_, ?_, ⟨?_, ?_⟩, ?_, ?_, ?_, ?_, ?_, ?_, ?_, ?_, ?_, ?_, ?_, ?_⟩)) <;> (try simp (disch := omega) only [i_45, i_64, z_45, z_64, i_118, i_118a, if_pos hn, s_upe, s_upf, s_upk, p72_0, p72_1, p72_2, p72_3, p72_4, p72_e, p117_0, p117_1, p117_2, p117_3, p117_4, p117_e, p117_c]) <;> first | assumption | exact l_inN (by omega) (by decide) | rfl
      · refine Or.inr (Or.inr (Or.inr (Or.inr (Or.inl ⟨?_, ?_, ?_, ⟨?_, ?_⟩, ?_, ?_, ?_, ?_, ?_, ?_, ?_, ?_, ?_, ?_, ?_, ?_⟩)))) <;> (try simp (disch := omega) only [i_45, i_64, z_45, z_64, i_118, i_118a, if_pos hn, s_upe, s_upf, s_upk, p72_0, p72_1, p72_2, p72_3, p72_4, p72_e, p117_0, p117_1, p117_2, p117_3, p117_4, p117_e, p117_c]) <;> first | assumption | exact l_inN (by omega) (by decide) | rfl
    · exact Or.inl (if_neg hn)
end Send
