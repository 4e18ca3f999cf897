section Set2
theorem g_V.rec {m n : Nat} {p : Nat → Nat} {I : Nat → Nat → Int32} {J : Nat → Nat → Int64} {Z : Nat → Nat → Bool} {I' : Nat → Nat → Int32} {J' : Nat → Nat → Int64} {Z' : Nat → Nat → Bool} (h : g_V m n p I J Z I' J' Z') {A : Nat → Nat → Int32} {C : Nat → Nat → Bool} {A' : Nat → Nat → Int32} {C' : Nat → Nat → Bool} {r0 c0 : Nat} (hr0 : r0 < 2) (hc0 : c0 < 16) (ea : ∀ a k, a ≠ 148 + 29 * r0 + c0 → A a k = I a k) (ec : ∀ a k, a ≠ 148 + 29 * r0 + c0 → C a k = Z a k) (ea' : ∀ a k, a < 226 ∨ 234 < a ∨ k ≠ 16 * r0 + c0 → A' a k = I' a k) (ec' : ∀ a k, a ≠ 225 ∨ k ≠ 16 * r0 + c0 → C' a k = Z' a k) (hg : g_rec A C A' C' (148 + 29 * r0 + c0) (16 * r0 + c0)) (hin : l_in (A' 226 (16 * r0 + c0)) 12 = true ∧ l_in (A' 228 (16 * r0 + c0)) 16 = true ∧ (C' 225 (16 * r0 + c0) = false → A' 233 (16 * r0 + c0) = 0 ∧ A' 234 (16 * r0 + c0) = 0)) (htk : C' 225 (16 * r0 + c0) = true → g_tk I' (Int32.ofNat c0)) : g_V m n p A J C A' J' C' := by
  have e5 : A 5 = I 5 := funext fun k => ea 5 k (by omega)
  refine ⟨⟨?_, ?_, ?_, ?_, ?_, ?_, ?_, ?_, ?_, ?_, ?_, ?_, ?_, ?_, ?_, ?_, ?_⟩, h.n, ?_, ?_, h.pl, ?_⟩
  · intro j hj; (try simp (disch := omega) only [ea, ec, ea', ec', e5]); exact h.R.dist j hj
  · intro j hj; (try simp (disch := omega) only [ea, ec, ea', ec', e5]); exact h.R.road j hj
  · (try simp (disch := omega) only [ea, ec, ea', ec', e5]); exact h.R.roads 
  · intro j hj; (try simp (disch := omega) only [ea, ec, ea', ec', e5]); exact h.R.card j hj
  · intro j hj; (try simp (disch := omega) only [ea, ec, ea', ec', e5]); exact h.R.unit j hj
  · intro j hj; (try simp (disch := omega) only [ea, ec, ea', ec', e5]); exact h.R.room j hj
  · (try simp (disch := omega) only [ea, ec, ea', ec', e5]); exact h.R.spd 
  · intro r d hr hd; (try simp (disch := omega) only [ea, ec, ea', ec', e5]); exact h.R.grant r d hr hd
  · intro r c hr hc; (try simp (disch := omega) only [ea, ec, ea', ec', e5]); exact h.R.sure r c hr hc
  · intro c hc; (try simp (disch := omega) only [ea, ec, ea', ec', e5]); exact h.R.sure2 c hc
  · intro r c hr hc
    by_cases e : r = r0 ∧ c = c0
    · obtain ⟨rfl, rfl⟩ := e; exact hg
    · unfold g_rec; simp (disch := omega) only [ea, ec, ea', ec']; exact h.R.recs r c hr hc
  · intro c hc; unfold g_rec; (try simp (disch := omega) only [ea, ec, ea', ec', e5]); exact h.R.rrecs c hc
  · intro q hq
    by_cases e : q = 16 * r0 + c0
    · subst e; exact hin
    · simp (disch := omega) only [ea, ec, ea', ec']; exact h.R.recin q hq
  · intro q c hq hc hz
    have et : ∀ k, A' 224 k = I' 224 k := fun k => ea' 224 k (by omega)
    by_cases e : 16 * q + c = 16 * r0 + c0
    · have e2 : c = c0 := by omega
      subst e2
      rw [e] at hz
      have := htk hz
      unfold g_tk at this ⊢
      simp only [et]
      exact this
    · unfold g_tk; simp (disch := omega) only [ea', ec'] at hz ⊢; exact h.R.taken q c hq hc hz
  · (try simp (disch := omega) only [ea, ec, ea', ec', e5]); exact h.R.ref 
  · intro d hd; (try simp (disch := omega) only [ea, ec, ea', ec', e5]); exact h.R.refd d hd
  · intro r u hr hu; (try simp (disch := omega) only [ea, ec, ea', ec', e5]); exact h.R.sight r u hr hu
  · (try simp (disch := omega) only [ea, ec, ea', ec', e5]); exact h.c1
  · (try simp (disch := omega) only [ea, ec, ea', ec', e5]); exact h.c2
  · intro i hi; have hp := h.pl i (by have := h.n; omega); have hl := h.lets i hi; unfold g_let g_lrec g_tk at hl ⊢
    try simp (disch := omega) only [ea, ec, ea', ec', e5]
    exact hl
theorem g_V.rrec {m n : Nat} {p : Nat → Nat} {I : Nat → Nat → Int32} {J : Nat → Nat → Int64} {Z : Nat → Nat → Bool} {I' : Nat → Nat → Int32} {J' : Nat → Nat → Int64} {Z' : Nat → Nat → Bool} (h : g_V m n p I J Z I' J' Z') {A : Nat → Nat → Int32} {C : Nat → Nat → Bool} {A' : Nat → Nat → Int32} {C' : Nat → Nat → Bool} {c0 : Nat} (hc0 : c0 < 16) (ea : ∀ a k, a ≠ 17 + c0 → A a k = I a k) (ec : ∀ a k, a ≠ 17 + c0 → C a k = Z a k) (ea' : ∀ a k, a < 226 ∨ 234 < a ∨ k ≠ 32 + c0 → A' a k = I' a k) (ec' : ∀ a k, a ≠ 225 ∨ k ≠ 32 + c0 → C' a k = Z' a k) (hg : g_rec A C A' C' (17 + c0) (32 + c0)) (hin : l_in (A' 226 (32 + c0)) 12 = true ∧ l_in (A' 228 (32 + c0)) 16 = true ∧ (C' 225 (32 + c0) = false → A' 233 (32 + c0) = 0 ∧ A' 234 (32 + c0) = 0)) (htk : C' 225 (32 + c0) = true → g_tk I' (Int32.ofNat c0)) : g_V m n p A J C A' J' C' := by
  have e5 : A 5 = I 5 := funext fun k => ea 5 k (by omega)
  refine ⟨⟨?_, ?_, ?_, ?_, ?_, ?_, ?_, ?_, ?_, ?_, ?_, ?_, ?_, ?_, ?_, ?_, ?_⟩, h.n, ?_, ?_, h.pl, ?_⟩
  · intro j hj; (try simp (disch := omega) only [ea, ec, ea', ec', e5]); exact h.R.dist j hj
  · intro j hj; (try simp (disch := omega) only [ea, ec, ea', ec', e5]); exact h.R.road j hj
  · (try simp (disch := omega) only [ea, ec, ea', ec', e5]); exact h.R.roads 
  · intro j hj; (try simp (disch := omega) only [ea, ec, ea', ec', e5]); exact h.R.card j hj
  · intro j hj; (try simp (disch := omega) only [ea, ec, ea', ec', e5]); exact h.R.unit j hj
  · intro j hj; (try simp (disch := omega) only [ea, ec, ea', ec', e5]); exact h.R.room j hj
  · (try simp (disch := omega) only [ea, ec, ea', ec', e5]); exact h.R.spd 
  · intro r d hr hd; (try simp (disch := omega) only [ea, ec, ea', ec', e5]); exact h.R.grant r d hr hd
  · intro r c hr hc; (try simp (disch := omega) only [ea, ec, ea', ec', e5]); exact h.R.sure r c hr hc
  · intro c hc; (try simp (disch := omega) only [ea, ec, ea', ec', e5]); exact h.R.sure2 c hc
  · intro r c hr hc; unfold g_rec; (try simp (disch := omega) only [ea, ec, ea', ec', e5]); exact h.R.recs r c hr hc
  · intro c hc
    by_cases e : c = c0
    · subst e; exact hg
    · unfold g_rec; simp (disch := omega) only [ea, ec, ea', ec']; exact h.R.rrecs c hc
  · intro q hq
    by_cases e : q = 32 + c0
    · subst e; exact hin
    · simp (disch := omega) only [ea, ec, ea', ec']; exact h.R.recin q hq
  · intro q c hq hc hz
    have et : ∀ k, A' 224 k = I' 224 k := fun k => ea' 224 k (by omega)
    by_cases e : 16 * q + c = 32 + c0
    · have e2 : c = c0 := by omega
      subst e2
      rw [e] at hz
      have := htk hz
      unfold g_tk at this ⊢
      simp only [et]
      exact this
    · unfold g_tk; simp (disch := omega) only [ea', ec'] at hz ⊢; exact h.R.taken q c hq hc hz
  · (try simp (disch := omega) only [ea, ec, ea', ec', e5]); exact h.R.ref 
  · intro d hd; (try simp (disch := omega) only [ea, ec, ea', ec', e5]); exact h.R.refd d hd
  · intro r u hr hu; (try simp (disch := omega) only [ea, ec, ea', ec', e5]); exact h.R.sight r u hr hu
  · (try simp (disch := omega) only [ea, ec, ea', ec', e5]); exact h.c1
  · (try simp (disch := omega) only [ea, ec, ea', ec', e5]); exact h.c2
  · intro i hi; have hp := h.pl i (by have := h.n; omega); have hl := h.lets i hi; unfold g_let g_lrec g_tk at hl ⊢
    try simp (disch := omega) only [ea, ec, ea', ec', e5]
    exact hl
theorem g_V.sur {m n : Nat} {p : Nat → Nat} {I : Nat → Nat → Int32} {J : Nat → Nat → Int64} {Z : Nat → Nat → Bool} {I' : Nat → Nat → Int32} {J' : Nat → Nat → Int64} {Z' : Nat → Nat → Bool} (h : g_V m n p I J Z I' J' Z') {r0 c0 : Nat} {b : Bool} (hr0 : r0 < 2) (hc0 : c0 < 16) : g_V m n p I J (s_up Z (144 + 29 * r0) c0 b) I' J' (s_up Z' 235 (16 * r0 + c0) b) := by
  refine ⟨⟨?_, ?_, ?_, ?_, ?_, ?_, ?_, ?_, ?_, ?_, ?_, ?_, ?_, ?_, ?_, ?_, ?_⟩, h.n, ?_, ?_, h.pl, ?_⟩
  · intro j hj; (try simp (disch := omega) only [s_upf, s_upk]); exact h.R.dist j hj
  · intro j hj; (try simp (disch := omega) only [s_upf, s_upk]); exact h.R.road j hj
  · (try simp (disch := omega) only [s_upf, s_upk]); exact h.R.roads 
  · intro j hj; (try simp (disch := omega) only [s_upf, s_upk]); exact h.R.card j hj
  · intro j hj; (try simp (disch := omega) only [s_upf, s_upk]); exact h.R.unit j hj
  · intro j hj; (try simp (disch := omega) only [s_upf, s_upk]); exact h.R.room j hj
  · (try simp (disch := omega) only [s_upf, s_upk]); exact h.R.spd 
  · intro r d hr hd; (try simp (disch := omega) only [s_upf, s_upk]); exact h.R.grant r d hr hd
  · intro r c hr hc
    by_cases e : r = r0
    · subst e
      by_cases e2 : c = c0
      · subst e2; rw [s_upe, s_upe]
      · simp (disch := omega) only [s_upk]; exact h.R.sure r c hr hc
    · simp (disch := omega) only [s_upf, s_upk]; exact h.R.sure r c hr hc
  · intro c hc; (try simp (disch := omega) only [s_upf, s_upk]); exact h.R.sure2 c hc
  · intro r c hr hc; unfold g_rec; (try simp (disch := omega) only [s_upf, s_upk]); exact h.R.recs r c hr hc
  · intro c hc; unfold g_rec; (try simp (disch := omega) only [s_upf, s_upk]); exact h.R.rrecs c hc
  · intro q hq; (try simp (disch := omega) only [s_upf, s_upk]); exact h.R.recin q hq
  · intro q c hq hc hz; unfold g_tk; (try simp (disch := omega) only [s_upf, s_upk] at hz ⊢); exact h.R.taken q c hq hc hz
  · (try simp (disch := omega) only [s_upf, s_upk]); exact h.R.ref 
  · intro d hd; (try simp (disch := omega) only [s_upf, s_upk]); exact h.R.refd d hd
  · intro r u hr hu; (try simp (disch := omega) only [s_upf, s_upk]); exact h.R.sight r u hr hu
  · (try simp (disch := omega) only [s_upf, s_upk]); exact h.c1
  · (try simp (disch := omega) only [s_upf, s_upk]); exact h.c2
  · intro i hi; have hp := h.pl i (by have := h.n; omega); have hl := h.lets i hi; unfold g_let g_lrec g_tk at hl ⊢
    try simp (disch := omega) only [s_upf, s_upk]
    exact hl
theorem g_change {m n : Nat} {p : Nat → Nat} {I : Nat → Nat → Int32} {J : Nat → Nat → Int64} {Z : Nat → Nat → Bool} {I' : Nat → Nat → Int32} {J' : Nat → Nat → Int64} {Z' : Nat → Nat → Bool} (h : g_V m n p I J Z I' J' Z') (inj : ∀ k k', k < 49 → k' < 49 → p k = p k' → k = k') {r e q d : Nat} (hr : r < 2) (he : e < 16) (hk : Z' 225 (16 * r + e) = true) (hch : v_140 I' J' Z' r d = I (142 + 29 * r) d) :
    g_V m (g_s n) p (i_41 I J Z r e n p q d) J (z_41 I J Z r e n p q d) (i_144 I' J' Z' r e n q d) J' (z_144 I' J' Z' r e n q d) := by
  unfold i_41 z_41 i_144 z_144 v_142 v_34
  rw [hch]
  generalize I (142 + 29 * r) d = x
  obtain ⟨z0, e1, e2, e3, e4, e5, e6, e7, e8, e9⟩ := h.R.recs r e hr he
  obtain ⟨i1, i2, -⟩ := h.R.recin (16 * r + e) (by omega)
  have htk := h.R.taken r e (by omega) he hk
  have fin : ∀ (A A' : Nat → Nat → Int32), i_61 I J Z (148 + 29 * r + e) x = A → g_V m n p A J Z A' J' Z' → g_V m (g_s n) p (i_45 A J (s_up Z (144 + 29 * r) e false) 2 (Int32.ofNat r) (Int32.ofNat (1 - r)) (148 + 29 * r + e) (Int32.ofNat e) n p) J (z_45 A J (s_up Z (144 + 29 * r) e false) 2 (Int32.ofNat r) (Int32.ofNat (1 - r)) (148 + 29 * r + e) (Int32.ofNat e) n p) (i_118 A' J' (s_up Z' 235 (16 * r + e) false) 2 r (Int32.ofNat (1 - r)) e n) J' (s_up Z' 235 (16 * r + e) false) := by
    intro A A' _ hv
    have h2 := g_V.sur (b := false) hv hr he
    exact g_sendRec h2 (g_ne inj h2.n) (Or.inr (by omega)) (by omega) he (h2.R.recs r e hr he) (by rw [s_upa (by omega)]; exact hk) (Or.inl ⟨rfl, l_inN (by omega) (by decide)⟩)
  by_cases hx : I' 233 (16 * r + e) = x
  · have hi : i_61 I J Z (148 + 29 * r + e) x = s_up (s_up I (148 + 29 * r + e) 9 (I (148 + 29 * r + e) 9 + 1)) (148 + 29 * r + e) 8 x := by unfold i_61; rw [if_pos (e8.trans hx)]
    rw [if_pos hx, hi]
    refine fin _ _ hi ?_
    refine h.rec hr he (fun a k h => by simp (disch := omega) only [s_upf]) (fun _ _ _ => rfl) (fun a k h => by rcases h with h | h | h <;> simp (disch := omega) only [s_upf, s_upk]) (fun _ _ _ => rfl) ?_ ?_ (fun _ => htk)
    · unfold g_rec
      simp (disch := omega) only [s_upe, s_upf, s_upk]
      exact ⟨z0, e1, e2, e3, e4, e5, e6, e7, trivial, by rw [e9]⟩
    · simp (disch := omega) only [s_upf]
      exact ⟨i1, i2, fun hz => by rw [hk] at hz; cases hz⟩
  · have hi : i_61 I J Z (148 + 29 * r + e) x = s_up (s_up I (148 + 29 * r + e) 9 1) (148 + 29 * r + e) 8 x := by unfold i_61; rw [if_neg (fun h => hx (e8.symm.trans h))]
    rw [if_neg hx, hi]
    refine fin _ _ hi ?_
    refine h.rec hr he (fun a k h => by simp (disch := omega) only [s_upf]) (fun _ _ _ => rfl) (fun a k h => by rcases h with h | h | h <;> simp (disch := omega) only [s_upf, s_upk]) (fun _ _ _ => rfl) ?_ ?_ (fun _ => htk)
    · unfold g_rec
      simp (disch := omega) only [s_upe, s_upf, s_upk]
      exact ⟨z0, e1, e2, e3, e4, e5, e6, e7, trivial, trivial⟩
    · simp (disch := omega) only [s_upf]
      exact ⟨i1, i2, fun hz => by rw [hk] at hz; cases hz⟩
theorem q118_e {I : Nat → Nat → Int32} {J : Nat → Nat → Int64} {Z : Nat → Nat → Bool} {f c n a k : Nat} {x t : Int32} (h : a < 242) (h2 : ¬ (a = 199 ∧ k = 44)) : i_118 I J Z x f t c n a k = I a k := by
  unfold i_118
  split
  · unfold i_118a; simp (disch := omega) only [s_upf]; exact p117_e (Or.inl h) h2
  · rfl
theorem q144_e {I : Nat → Nat → Int32} {J : Nat → Nat → Int64} {Z : Nat → Nat → Bool} {r e n q d a k : Nat} (h : a < 233 ∨ (234 < a ∧ a < 242)) (h2 : ¬ (a = 199 ∧ k = 44)) : i_144 I J Z r e n q d a k = I a k := by
  unfold i_144
  split <;> rw [q118_e (by omega) h2] <;> simp (disch := omega) only [s_upf]
end Set2
