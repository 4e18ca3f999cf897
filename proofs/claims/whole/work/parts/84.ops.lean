section Ops6
theorem m_w_lt {w p : Nat → Nat} {i x : Nat} (h : x < i) : ∀ t, m_w w p i t x = w x
  | 0 => rfl
  | t + 1 => (if_neg (by omega)).trans (m_w_lt h t)
theorem m_w_in {w p : Nat → Nat} {i x : Nat} (h : i ≤ x) : ∀ t, x < i + t → m_w w p i t x = 35 + 2 * p (x + 1)
  | 0, h2 => absurd h2 (by omega)
  | t + 1, h2 => by
    by_cases e : x = i + t
    · subst e; exact if_pos rfl
    · exact (if_neg e).trans (m_w_in h t (by omega))
theorem q116_at {I : Nat → Nat → Int32} {J : Nat → Nat → Int64} {Z : Nat → Nat → Bool} {a b r : Nat} (h1 : 242 ≤ r) (h2 : r ≤ 254) : i_116 I J Z a b r b = I r a := by
  unfold i_116
  have : r = 242 ∨ r = 243 ∨ r = 244 ∨ r = 245 ∨ r = 246 ∨ r = 247 ∨ r = 248 ∨ r = 249 ∨ r = 250 ∨ r = 251 ∨ r = 252 ∨ r = 253 ∨ r = 254 := by omega
  rcases this with rfl | rfl | rfl | rfl | rfl | rfl | rfl | rfl | rfl | rfl | rfl | rfl | rfl <;> simp (disch := omega) only [s_upe, s_upf]
theorem m_si_out {X : Nat → Nat → Int32} {i r q : Nat} : ∀ t, q < i ∨ i + t ≤ q → m_si X i t r q = X r q
  | 0, _ => rfl
  | t + 1, h => (q116_e (by omega)).trans (m_si_out t (by omega))
theorem m_si_in {X : Nat → Nat → Int32} {i r q : Nat} (h1 : 242 ≤ r) (h2 : r ≤ 254) (h : i ≤ q) : ∀ t, q < i + t → m_si X i t r q = X r (q + 1)
  | 0, h3 => absurd h3 (by omega)
  | t + 1, h3 => by
    by_cases e : q = i + t
    · subst e; exact (q116_at h1 h2).trans (m_si_out t (by omega))
    · exact (q116_e (by omega)).trans (m_si_in h1 h2 h t (by omega))
theorem m_sj_e {Y : Nat → Nat → Int64} {i a q : Nat} (h : a ≠ 255) : ∀ t, m_sj Y i t a q = Y a q
  | 0 => rfl
  | t + 1 => (s_upa h).trans (m_sj_e h t)
theorem m_sj_out {Y : Nat → Nat → Int64} {i r q : Nat} : ∀ t, q < i ∨ i + t ≤ q → m_sj Y i t r q = Y r q
  | 0, _ => rfl
  | t + 1, h => (s_upk (by omega)).trans (m_sj_out t (by omega))
theorem m_sj_in {Y : Nat → Nat → Int64} {i q : Nat} (h : i ≤ q) : ∀ t, q < i + t → m_sj Y i t 255 q = Y 255 (q + 1)
  | 0, h3 => absurd h3 (by omega)
  | t + 1, h3 => by
    by_cases e : q = i + t
    · subst e; exact (s_upe _ _ _ _).trans (m_sj_out t (by omega))
    · exact (s_upk e).trans (m_sj_in h t (by omega))
theorem g_V.outp {m n : Nat} {p : Nat → Nat} {I : Nat → Nat → Int32} {J : Nat → Nat → Int64} {Z : Nat → Nat → Bool} {I' : Nat → Nat → Int32} {J' : Nat → Nat → Int64} {Z' : Nat → Nat → Bool} (h : g_V m n p I J Z I' J' Z') {A : Nat → Nat → Int32} {A' : Nat → Nat → Int32} {B' : Nat → Nat → Int64} {p2 : Nat → Nat} {n2 : Nat} (ea : ∀ a k, ¬ (a = 33 ∧ k = 1) → A a k = I a k) (ea' : ∀ a k, a < 242 → ¬ (a = 199 ∧ k = 44) → A' a k = I' a k) (eb' : ∀ a k, a < 242 → B' a k = J' a k) (h48 : n2 ≤ 48) (hc1 : A 33 1 = Int32.ofNat n2) (hc2 : A' 199 44 = Int32.ofNat n2) (hpl2 : ∀ i, i < 49 → p2 i < 50) (hl2 : ∀ i, i < n2 → g_let m A J Z A' B' (35 + 2 * p2 i) i) : g_V m n2 p2 A J Z A' B' Z' := by
  have e5 : A 5 = I 5 := funext fun k => ea 5 k (by omega)
  refine ⟨⟨?_, ?_, ?_, ?_, ?_, ?_, ?_, ?_, ?_, ?_, ?_, ?_, ?_, ?_, ?_, ?_, ?_⟩, h48, hc1, hc2, hpl2, hl2⟩
  · intro j hj; (try simp (disch := omega) only [ea, ea', eb', e5]); exact h.R.dist j hj
  · intro j hj; (try simp (disch := omega) only [ea, ea', eb', e5]); exact h.R.road j hj
  · (try simp (disch := omega) only [ea, ea', eb', e5]); exact h.R.roads 
  · intro j hj; (try simp (disch := omega) only [ea, ea', eb', e5]); exact h.R.card j hj
  · intro j hj; (try simp (disch := omega) only [ea, ea', eb', e5]); exact h.R.unit j hj
  · intro j hj; (try simp (disch := omega) only [ea, ea', eb', e5]); exact h.R.room j hj
  · (try simp (disch := omega) only [ea, ea', eb', e5]); exact h.R.spd 
  · intro r d hr hd; (try simp (disch := omega) only [ea, ea', eb', e5]); exact h.R.grant r d hr hd
  · intro r c hr hc; (try simp (disch := omega) only [ea, ea', eb', e5]); exact h.R.sure r c hr hc
  · intro c hc; (try simp (disch := omega) only [ea, ea', eb', e5]); exact h.R.sure2 c hc
  · intro r c hr hc; unfold g_rec; (try simp (disch := omega) only [ea, ea', eb', e5]); exact h.R.recs r c hr hc
  · intro c hc; unfold g_rec; (try simp (disch := omega) only [ea, ea', eb', e5]); exact h.R.rrecs c hc
  · intro q hq; (try simp (disch := omega) only [ea, ea', eb', e5]); exact h.R.recin q hq
  · intro q c hq hc hz; unfold g_tk; (try simp (disch := omega) only [ea, ea', eb', e5] at hz ⊢); exact h.R.taken q c hq hc hz
  · (try simp (disch := omega) only [ea, ea', eb', e5]); exact h.R.ref 
  · intro d hd; (try simp (disch := omega) only [ea, ea', eb', e5]); exact h.R.refd d hd
  · intro r u hr hu; (try simp (disch := omega) only [ea, ea', eb', e5]); exact h.R.sight r u hr hu
def p_out (p : Nat → Nat) (i n q0 : Nat) : Nat → Nat := fun k => if k < i then p k else if k < n - 1 then p (k + 1) else if k = n - 1 then q0 else p k
theorem g_P_out {w : Nat → Nat} {rem : Nat} {p : Nat → Nat} {q : Nat} (h : g_P w rem p q) {i n : Nat} (hi : i < n) (hn : n ≤ 48) : g_P (m_wf w p i n q) (35 + 2 * p i) (p_out p i n q) (p i) := by
  refine ⟨fun k hk => ?_, fun k hk => ?_, fun k k' hk hk' he => ?_, fun k hk => ?_, rfl, h.lt i (by omega)⟩
  · unfold m_wf p_out
    by_cases e : k = n - 1
    · rw [if_pos e, if_neg (by omega), if_neg (by omega), if_pos e]
    · rw [if_neg e]
      by_cases h1 : k < i
      · rw [if_pos h1, m_w_lt h1]; exact h.at_ k hk
      · rw [if_neg h1]
        by_cases h2 : k < n - 1
        · rw [if_pos h2, m_w_in (by omega) _ (by omega)]
        · rw [if_neg h2, if_neg e, m_w_ge _ (by omega)]; exact h.at_ k hk
  · unfold p_out
    split
    · exact h.lt k hk
    · split
      · exact h.lt _ (by omega)
      · split
        · exact h.rl
        · exact h.lt k hk
  · unfold p_out at he
    have hq1 := h.out
    by_cases a1 : k < i <;> by_cases b1 : k' < i
    · rw [if_pos a1, if_pos b1] at he; exact h.inj k k' hk hk' he
    · rw [if_pos a1, if_neg b1] at he
      by_cases b2 : k' < n - 1
      · rw [if_pos b2] at he; have := h.inj k (k' + 1) hk (by omega) he; omega
      · rw [if_neg b2] at he
        by_cases b3 : k' = n - 1
        · rw [if_pos b3] at he; exact absurd he (h.out k hk)
        · rw [if_neg b3] at he; exact h.inj k k' hk hk' he
    · rw [if_neg a1, if_pos b1] at he
      by_cases b2 : k < n - 1
      · rw [if_pos b2] at he; have := h.inj (k + 1) k' (by omega) hk' he; omega
      · rw [if_neg b2] at he
        by_cases b3 : k = n - 1
        · rw [if_pos b3] at he; exact absurd he.symm (h.out k' hk')
        · rw [if_neg b3] at he; exact h.inj k k' hk hk' he
    · rw [if_neg a1, if_neg b1] at he
      by_cases a2 : k < n - 1 <;> by_cases b2 : k' < n - 1
      · rw [if_pos a2, if_pos b2] at he; have := h.inj (k + 1) (k' + 1) (by omega) (by omega) he; omega
      · rw [if_pos a2, if_neg b2] at he
        by_cases b3 : k' = n - 1
        · rw [if_pos b3] at he; exact absurd he (h.out (k + 1) (by omega))
        · rw [if_neg b3] at he; have := h.inj (k + 1) k' (by omega) hk' he; omega
      · rw [if_neg a2, if_pos b2] at he
        by_cases b3 : k = n - 1
        · rw [if_pos b3] at he; exact absurd he.symm (h.out (k' + 1) (by omega))
        · rw [if_neg b3] at he; have := h.inj k (k' + 1) hk (by omega) he; omega
      · rw [if_neg a2, if_neg b2] at he
        by_cases a3 : k = n - 1 <;> by_cases b3 : k' = n - 1
        · omega
        · rw [if_pos a3, if_neg b3] at he; exact absurd he.symm (h.out k' hk')
        · rw [if_neg a3, if_pos b3] at he; exact absurd he (h.out k hk)
        · rw [if_neg a3, if_neg b3] at he; exact h.inj k k' hk hk' he
  · unfold p_out
    split
    · intro e; have := h.inj k i hk (by omega) e; omega
    · split
      · intro e; have := h.inj (k + 1) i (by omega) (by omega) e; omega
      · split
        · exact fun e => h.out i (by omega) e.symm
        · intro e; have := h.inj k i hk (by omega) e; omega
theorem g_out {m n : Nat} {p : Nat → Nat} {I : Nat → Nat → Int32} {J : Nat → Nat → Int64} {Z : Nat → Nat → Bool} {I' : Nat → Nat → Int32} {J' : Nat → Nat → Int64} {Z' : Nat → Nat → Bool} {w : Nat → Nat} {rem q : Nat} (h : g_V m n p I J Z I' J' Z') (hP : g_P w rem p q) {i : Nat} (hi : i < n) :
    g_V m (n - 1) (p_out p i n q) (s_up I 33 1 (Int32.ofNat (n - 1))) J Z (m_si (s_up (i_116 I' J' Z' i 48) 199 44 (Int32.ofNat (n - 1))) i (n - 1 - i)) (m_sj (j_116 I' J' Z' i 48) i (n - 1 - i)) Z' ∧
    g_let m (s_up I 33 1 (Int32.ofNat (n - 1))) J Z (m_si (s_up (i_116 I' J' Z' i 48) 199 44 (Int32.ofNat (n - 1))) i (n - 1 - i)) (m_sj (j_116 I' J' Z' i 48) i (n - 1 - i)) (35 + 2 * p i) 48 := by
  have hn := h.n
  have lo : ∀ a k, a < 242 → ¬ (a = 199 ∧ k = 44) → m_si (s_up (i_116 I' J' Z' i 48) 199 44 (Int32.ofNat (n - 1))) i (n - 1 - i) a k = I' a k := fun a k h1 h2 => by
    rw [m_si_e (by omega)]
    by_cases ha : a = 199
    · rw [s_upk (by omega)]; exact q116_e (by omega)
    · rw [s_upa ha]; exact q116_e (by omega)
  have cp : ∀ i1 i2 : Nat, i1 < n → (∀ r, 242 ≤ r → r ≤ 254 → m_si (s_up (i_116 I' J' Z' i 48) 199 44 (Int32.ofNat (n - 1))) i (n - 1 - i) r i2 = I' r i1) → m_sj (j_116 I' J' Z' i 48) i (n - 1 - i) 255 i2 = J' 255 i1 → g_let m (s_up I 33 1 (Int32.ofNat (n - 1))) J Z (m_si (s_up (i_116 I' J' Z' i 48) 199 44 (Int32.ofNat (n - 1))) i (n - 1 - i)) (m_sj (j_116 I' J' Z' i 48) i (n - 1 - i)) (35 + 2 * p i1) i2 := by
    intro i1 i2 hi1 hr hj
    exact g_let_copy (h.lets i1 hi1) (fun k _ _ => s_upa (by omega)) (fun k _ _ => s_upa (by omega)) rfl rfl hr hj (fun k => lo 224 k (by omega) (by omega))
  have nx : ∀ r k, 242 ≤ r → k ≠ 48 → (s_up (i_116 I' J' Z' i 48) 199 44 (Int32.ofNat (n - 1))) r k = I' r k := fun r k h1 h2 => by
    rw [s_upa (by omega)]; exact q116_e (by omega)
  have nj : ∀ k, k ≠ 48 → (j_116 I' J' Z' i 48) 255 k = J' 255 k := fun k h2 => by unfold j_116; exact s_upk h2
  refine ⟨h.outp (fun a k h1 => ?_) lo (fun a k h1 => ?_) (by omega) (s_upe _ _ _ _) ?_ (g_P_out hP hi hn).lt (fun i2 hi2 => ?_), ?_⟩
  · by_cases ha : a = 33
    · exact s_upk (by omega)
    · exact s_upa ha
  · rw [m_sj_e (by omega)]; unfold j_116; exact s_upa (by omega)
  · rw [m_si_e (by omega)]; exact s_upe _ _ _ _
  · unfold p_out
    by_cases h1 : i2 < i
    · rw [if_pos h1]
      exact cp i2 i2 (by omega) (fun r h2 h3 => (m_si_out _ (by omega)).trans (nx r i2 h2 (by omega))) ((m_sj_out _ (by omega)).trans (nj i2 (by omega)))
    · rw [if_neg h1, if_pos hi2]
      exact cp (i2 + 1) i2 (by omega) (fun r h2 h3 => (m_si_in h2 h3 (by omega) _ (by omega)).trans (nx r (i2 + 1) h2 (by omega))) ((m_sj_in (by omega) _ (by omega)).trans (nj (i2 + 1) (by omega)))
  · refine cp i 48 hi (fun r h2 h3 => ?_) ?_
    · rw [m_si_out _ (by omega), s_upa (by omega)]; exact q116_at h2 h3
    · rw [m_sj_out _ (by omega)]; unfold j_116; exact s_upe _ _ _ _
variable {xs : Nat → Int32} {Ln : Nat}
theorem op_18 : ∀ a0, lw_ok xs Ln g_Rel 19 131 [.int a0] := by
  intro a0 m σ hR hm
  obtain ⟨I, J, Z, w, rem, p, q, n, rfl, hP, hV⟩ := hR
  by_cases c0 : l_rg a0 0 n = false
  · exact lw_bad (b_19_0 a0 n c0 hV.n hV.c1) (b_131_0 a0 n c0 hV.n hV.c2) rfl hP hV
  replace c0 := eq_true_of_ne_false c0
  obtain ⟨i, hi, rfl⟩ := l_of c0
  have er := hP.rm
  subst er
  have hc := d_19 (I := I) (J := J) (Z := Z) (w := w) (xs := xs) (Ln := Ln) i n q p hi hV.n hV.c1 hP.lt hP.at_ hP.rl
  have hV1 : g_V m n p I J Z (s_up I 33 1 (Int32.ofNat (n - 1))) J Z := hV.cls (fun a k h => s_upa (by omega)) (fun _ _ _ => rfl) (fun _ _ _ => rfl)
  have hd := d_131 (I := s_up I 33 1 (Int32.ofNat (n - 1))) (J := J) (Z := Z) (w := m_wf w p i n q) (rem := 35 + 2 * p i) (xs := xs) (Ln := Ln) i n hi hV.n ((s_upa (by omega)).trans hV.c2)
  refine lw_fin (n := n - 1) hc hd rfl (g_P_out hP hi hV.n) (g_V.mono (g_out (hV1.thr 0) hP hi).1) (fun a k h => ?_) (fun a k h => ?_) (fun _ _ _ => rfl)
  · rw [m_si_e (by omega), s_upa (by omega), q116_e (by omega)]; exact s_upa (by omega)
  · rw [m_sj_e (by omega)]; unfold j_116; exact s_upa (by omega)
end Ops6
