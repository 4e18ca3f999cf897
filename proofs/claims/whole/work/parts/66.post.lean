/-! A letter is sent. -/
theorem g_V.post {m n : Nat} {p : Nat → Nat} {I : Nat → Nat → Int32} {J : Nat → Nat → Int64} {Z : Nat → Nat → Bool} {I' : Nat → Nat → Int32} {J' : Nat → Nat → Int64} {Z' : Nat → Nat → Bool} (h : g_V m n p I J Z I' J' Z') {A : Nat → Nat → Int32} {B : Nat → Nat → Int64} {C : Nat → Nat → Bool} {A' : Nat → Nat → Int32} {B' : Nat → Nat → Int64} {C' : Nat → Nat → Bool} (hne : ∀ i, i < n → p i ≠ p n) (ea : ∀ a k, a ≠ 35 + 2 * p n → a ≠ 36 + 2 * p n → ¬ (a = 33 ∧ k = 1) → A a k = I a k) (eb : ∀ a k, a ≠ 35 + 2 * p n → B a k = J a k) (ec : ∀ a k, a ≠ 36 + 2 * p n → C a k = Z a k)
    (ea' : ∀ a k, a < 242 ∨ k ≠ n → ¬ (a = 199 ∧ k = 44) → A' a k = I' a k) (eb' : ∀ a k, a < 242 ∨ k ≠ n → B' a k = J' a k) (ec' : ∀ a k, C' a k = Z' a k) {n2 : Nat} (h48 : n2 ≤ 48) (hc1 : A 33 1 = Int32.ofNat n2) (hc2 : A' 199 44 = Int32.ofNat n2) (hn2 : n2 = n ∨ (n2 = n + 1 ∧ g_let m A B C A' B' (35 + 2 * p n) n)) : g_V m n2 p A B C A' B' C' := by
  have hpn := h.pl n (by have := h.n; omega)
  have e5 : A 5 = I 5 := funext fun k => ea 5 k (by omega) (by omega) (by omega)
  refine ⟨⟨?_, ?_, ?_, ?_, ?_, ?_, ?_, ?_, ?_, ?_, ?_, ?_, ?_, ?_, ?_, ?_, ?_⟩, h48, hc1, hc2, h.pl, ?_⟩
  · intro j hj; (try simp (disch := omega) only [ea, eb, ec, ea', eb', ec', e5]); exact h.R.dist j hj
  · intro j hj; (try simp (disch := omega) only [ea, eb, ec, ea', eb', ec', e5]); exact h.R.road j hj
  · (try simp (disch := omega) only [ea, eb, ec, ea', eb', ec', e5]); exact h.R.roads 
  · intro j hj; (try simp (disch := omega) only [ea, eb, ec, ea', eb', ec', e5]); exact h.R.card j hj
  · intro j hj; (try simp (disch := omega) only [ea, eb, ec, ea', eb', ec', e5]); exact h.R.unit j hj
  · intro j hj; (try simp (disch := omega) only [ea, eb, ec, ea', eb', ec', e5]); exact h.R.room j hj
  · (try simp (disch := omega) only [ea, eb, ec, ea', eb', ec', e5]); exact h.R.spd 
  · intro r d hr hd; (try simp (disch := omega) only [ea, eb, ec, ea', eb', ec', e5]); exact h.R.grant r d hr hd
  · intro r c hr hc; (try simp (disch := omega) only [ea, eb, ec, ea', eb', ec', e5]); exact h.R.sure r c hr hc
  · intro c hc; (try simp (disch := omega) only [ea, eb, ec, ea', eb', ec', e5]); exact h.R.sure2 c hc
  · intro r c hr hc; unfold g_rec; (try simp (disch := omega) only [ea, eb, ec, ea', eb', ec', e5]); exact h.R.recs r c hr hc
  · intro c hc; unfold g_rec; (try simp (disch := omega) only [ea, eb, ec, ea', eb', ec', e5]); exact h.R.rrecs c hc
  · intro q hq; (try simp (disch := omega) only [ea, eb, ec, ea', eb', ec', e5]); exact h.R.recin q hq
  · intro q c hq hc hz; unfold g_tk; simp (disch := omega) only [ea, eb, ec, ea', eb', ec', e5] at hz ⊢; exact h.R.taken q c hq hc hz
  · (try simp (disch := omega) only [ea, eb, ec, ea', eb', ec', e5]); exact h.R.ref 
  · intro d hd; (try simp (disch := omega) only [ea, eb, ec, ea', eb', ec', e5]); exact h.R.refd d hd
  · intro r u hr hu; (try simp (disch := omega) only [ea, eb, ec, ea', eb', ec', e5]); exact h.R.sight r u hr hu
  · intro i hi
    by_cases hin : i < n
    · have hp := h.pl i (by have := h.n; omega)
      have hpi := hne i hin
      have hl := h.lets i hin
      unfold g_let g_lrec g_tk at hl ⊢
      simp (disch := omega) only [ea, eb, ec, ea', eb', ec']
      exact hl
    · rcases hn2 with e | ⟨e, hg⟩
      · omega
      · have : i = n := by omega
        subst this
        exact hg
def g_s (n : Nat) : Nat := if n < 48 then n + 1 else n
theorem g_s_le {n : Nat} (h : n ≤ 48) : g_s n ≤ 48 := by unfold g_s; split <;> omega
section P72
variable {I : Nat → Nat → Int32} {J : Nat → Nat → Int64} {Z : Nat → Nat → Bool} {x0 x1 x2 x3 x4 : Int32} {n p : Nat}
theorem p72_e {a k : Nat} (h : a ≠ 35 + 2 * p) (h2 : ¬ (a = 33 ∧ k = 1)) : i_72 I J Z x0 x1 x2 x3 x4 n p a k = I a k := by
  unfold i_72
  split
  · rw [s_upa h, s_upa h, s_upa h, s_upa h, s_upa h]
    by_cases ha : a = 33
    · exact s_upk (fun e => h2 ⟨ha, e⟩)
    · exact s_upa ha
  · rw [s_upa h, s_upa h, s_upa h, s_upa h, s_upa h]
theorem p72_c (hc : I 33 1 = Int32.ofNat n) : i_72 I J Z x0 x1 x2 x3 x4 n p 33 1 = Int32.ofNat (g_s n) := by
  unfold i_72 g_s
  split <;> simp (disch := omega) only [s_upe, s_upf, hc]
theorem p72_0 : i_72 I J Z x0 x1 x2 x3 x4 n p (35 + 2 * p) 0 = x0 := by unfold i_72; split <;> simp (disch := omega) only [s_upe, s_upk]
theorem p72_1 : i_72 I J Z x0 x1 x2 x3 x4 n p (35 + 2 * p) 1 = x1 := by unfold i_72; split <;> simp (disch := omega) only [s_upe, s_upk]
theorem p72_2 : i_72 I J Z x0 x1 x2 x3 x4 n p (35 + 2 * p) 2 = x2 := by unfold i_72; split <;> simp (disch := omega) only [s_upe, s_upk]
theorem p72_3 : i_72 I J Z x0 x1 x2 x3 x4 n p (35 + 2 * p) 3 = x3 := by unfold i_72; split <;> simp (disch := omega) only [s_upe, s_upk]
theorem p72_4 : i_72 I J Z x0 x1 x2 x3 x4 n p (35 + 2 * p) 4 = x4 := by unfold i_72; split <;> simp (disch := omega) only [s_upe, s_upk]
end P72
theorem d_72r {xs : Nat → Int32} {Ln : Nat} {I : Nat → Nat → Int32} {J : Nat → Nat → Int64} {Z : Nat → Nat → Bool} {w : Nat → Nat} {rem : Nat} (x0 x1 x2 x3 x4 : Int32) (n p : Nat) (hn : n ≤ 48) (hp : p < 50) (hc : I 33 1 = Int32.ofNat n) (hw : w n = 35 + 2 * p) : w_R xs Ln 72 (0, [(0, .ref 33), (1, .int x0), (2, .int x1), (3, .int x2), (4, .int x3), (5, .int x4)], [], (I, J, kR w rem, Z), 0, 0) (fun o s => o = .inl (some (.ref (35 + 2 * p))) ∧ s = (i_72 I J Z x0 x1 x2 x3 x4 n p, J, kR w rem, Z)) := by
  have h := d_72 (xs := xs) (Ln := Ln) (I := I) (J := J) (Z := Z) (w := w) (rem := rem) x0 x1 x2 x3 x4 n p hn hp hc hw
  rw [show v_72 I J Z x0 x1 x2 x3 x4 n p = 35 + 2 * p from by unfold v_72; split <;> rfl] at h
  exact h
theorem n_neg {n : Nat} (h : n < 2 ^ 31) : ¬ Int32.ofNat n = -1 := by
  intro e
  have e := congrArg Int32.toInt e
  rw [n_int h] at e
  have : (-1 : Int32).toInt = -1 := rfl
  omega
