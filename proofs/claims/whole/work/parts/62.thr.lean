/-! The reference's place for what is thrown is no part of the relation. -/
theorem g_R_thr {m : Nat} {I I' : Nat → Nat → Int32} {J : Nat → Nat → Int64} {Z : Nat → Nat → Bool} (e : ∀ a k, ¬ (a = 199 ∧ k = 59) → I' a k = I a k) (h : g_R m I J Z) : g_R m I' J Z := by
  have e5 : I' 5 = I 5 := funext fun k => e 5 k (by omega)
  refine ⟨?_, ?_, ?_, ?_, ?_, ?_, ?_, ?_, ?_, ?_, ?_, ?_, ?_, ?_, ?_, ?_, ?_⟩
  · intro j hj; simp (disch := omega) only [e]; exact h.dist j hj
  · intro j hj; simp (disch := omega) only [e]; exact h.road j hj
  · rw [e5]; simp (disch := omega) only [e]; exact h.roads
  · intro j hj; simp (disch := omega) only [e]; exact h.card j hj
  · intro j hj; simp (disch := omega) only [e]; exact h.unit j hj
  · intro j hj; simp (disch := omega) only [e]; exact h.room j hj
  · simp (disch := omega) only [e]; exact h.spd
  · intro r d hr hd; simp (disch := omega) only [e]; exact h.grant r d hr hd
  · exact h.sure
  · exact h.sure2
  · intro r c hr hc; unfold g_rec; simp (disch := omega) only [e]; exact h.recs r c hr hc
  · intro c hc; unfold g_rec; simp (disch := omega) only [e]; exact h.rrecs c hc
  · intro q hq; simp (disch := omega) only [e]; exact h.recin q hq
  · intro q c hq hc hz; unfold g_tk; simp (disch := omega) only [e]; exact h.taken q c hq hc hz
  · simp (disch := omega) only [e]; exact h.ref
  · intro d hd; simp (disch := omega) only [e]; exact h.refd d hd
  · intro r u hr hu; simp (disch := omega) only [e]; exact h.sight r u hr hu
theorem g_let_thr {m a i : Nat} {I I' : Nat → Nat → Int32} {J : Nat → Nat → Int64} {Z : Nat → Nat → Bool} (e : ∀ a k, ¬ (a = 199 ∧ k = 59) → I' a k = I a k) (ha : a < 198) (h : g_let m I J Z a i) : g_let m I' J Z a i := by
  unfold g_let g_lrec g_tk
  simp (disch := omega) only [e]
  exact h
theorem g_thr {m n q rem : Nat} {w p : Nat → Nat} {I : Nat → Nat → Int32} {J : Nat → Nat → Int64} {Z : Nat → Nat → Bool} (v : Int32) (hP : g_P w rem p q) (hr : g_R m I J Z) (hn : n ≤ 48) (h1 : I 33 1 = Int32.ofNat n) (h2 : I 199 44 = Int32.ofNat n) (hl : ∀ i, i < n → g_let m I J Z (35 + 2 * p i) i) :
    g_Rel (m + 1) (s_up I 199 59 v, J, kR w rem, Z) := by
  have e : ∀ a k, ¬ (a = 199 ∧ k = 59) → s_up I 199 59 v a k = I a k := by
    intro a k h
    by_cases ha : a = 199
    · exact s_upk (fun hk => h ⟨ha, hk⟩)
    · exact s_upa ha
  refine g_mono _ _ ⟨_, J, Z, w, rem, p, q, n, rfl, hP, g_R_thr e hr, hn, (e 33 1 (by omega)).trans h1, (e 199 44 (by omega)).trans h2, fun i hi => g_let_thr e ?_ (hl i hi)⟩
  have := hP.lt i (by omega)
  omega
