section Ops5
theorem s_fl_f {α : Type} {f : Nat → Nat → α} {a b : Nat} {v : α} (h : b ≠ a) : ∀ k, s_fl f a v k b = f b
  | 0 => rfl
  | k + 1 => (s_upf h).trans (s_fl_f h k)
theorem s_fl_in {α : Type} {f : Nat → Nat → α} {a q : Nat} {v : α} : ∀ k, q < k → s_fl f a v k a q = v
  | 0, h => absurd h (Nat.not_lt_zero _)
  | k + 1, h => by
    by_cases e : q = k
    · subst e; exact s_upe _ _ _ _
    · exact (s_upk e).trans (s_fl_in k (by omega))
theorem s_fo_f {α : Type} {f : Nat → Nat → α} {a b o : Nat} {v : α} (h : b ≠ a) : ∀ k, s_fo f a o v k b = f b
  | 0 => rfl
  | k + 1 => (s_upf h).trans (s_fo_f h k)
theorem s_fo_in {α : Type} {f : Nat → Nat → α} {a o q : Nat} {v : α} : ∀ k, o ≤ q → q < o + k → s_fo f a o v k a q = v
  | 0, h, h2 => absurd h2 (by omega)
  | k + 1, h, h2 => by
    by_cases e : q = o + k
    · subst e; exact s_upe _ _ _ _
    · exact (s_upk e).trans (s_fo_in k h (by omega))
theorem s_fo_out {α : Type} {f : Nat → Nat → α} {a b o q : Nat} {v : α} : ∀ k, q < o ∨ o + k ≤ q → s_fo f a o v k b q = f b q
  | 0, _ => rfl
  | k + 1, h => (s_upk (by omega)).trans (s_fo_out k (by omega))
theorem s_fz_in {α : Type} {f : Nat → Nat → α} {a b : Nat} {v : α} : ∀ k, a ≤ b → b < a + k → s_fz f a v k b 0 = v
  | 0, h, h2 => absurd h2 (by omega)
  | k + 1, h, h2 => by
    by_cases e : b = a + k
    · subst e; exact s_upe _ _ _ _
    · exact (s_upa e).trans (s_fz_in k h (by omega))
theorem s_fz_out {α : Type} {f : Nat → Nat → α} {a b q : Nat} {v : α} : ∀ k, b < a ∨ a + k ≤ b ∨ q ≠ 0 → s_fz f a v k b q = f b q
  | 0, _ => rfl
  | k + 1, h => by
    refine Eq.trans ?_ (s_fz_out (f := f) (a := a) (b := b) (q := q) (v := v) k (by omega))
    show s_up _ _ _ _ _ _ = _
    rcases h with h | h | h
    · exact s_upa (by omega)
    · exact s_upa (by omega)
    · exact s_upk h
theorem s_f2_f {α : Type} {f : Nat → Nat → α} {a b o c : Nat} {v : α} (h : c ≠ a) (h2 : c ≠ b) : ∀ k, s_f2 f a b o v k c = f c
  | 0 => rfl
  | k + 1 => ((s_upf h2).trans (s_upf h)).trans (s_f2_f h h2 k)
theorem s_f2_in {α : Type} {f : Nat → Nat → α} {a b o q : Nat} {v : α} (hab : a ≠ b) : ∀ k, o ≤ q → q < o + k → s_f2 f a b o v k a q = v
  | 0, h, h2 => absurd h2 (by omega)
  | k + 1, h, h2 => by
    refine (s_upa hab).trans ?_
    by_cases e : q = o + k
    · subst e; exact s_upe _ _ _ _
    · exact (s_upk e).trans (s_f2_in hab k h (by omega))
theorem s_f2_out {α : Type} {f : Nat → Nat → α} {a b c o q : Nat} {v : α} : ∀ k, q < o ∨ o + k ≤ q → s_f2 f a b o v k c q = f c q
  | 0, _ => rfl
  | k + 1, h => ((s_upk (by omega)).trans (s_upk (by omega))).trans (s_f2_out k (by omega))
theorem g_V.down {m n : Nat} {p : Nat → Nat} {I : Nat → Nat → Int32} {J : Nat → Nat → Int64} {Z : Nat → Nat → Bool} {I' : Nat → Nat → Int32} {J' : Nat → Nat → Int64} {Z' : Nat → Nat → Bool} (h : g_V m n p I J Z I' J' Z') {A : Nat → Nat → Int32} {C : Nat → Nat → Bool} {A' : Nat → Nat → Int32} {C' : Nat → Nat → Bool} {r0 : Nat} (hr0 : r0 < 2) (ea : ∀ a k, a ≠ 142 + 29 * r0 → A a k = I a k) (ea0 : ∀ d, d < 4 → A (142 + 29 * r0) d = 0) (ea' : ∀ a k, a ≠ 221 ∨ k < 4 * r0 ∨ 4 * r0 + 4 ≤ k → A' a k = I' a k) (ea0' : ∀ d, d < 4 → A' 221 (4 * r0 + d) = 0)
    (ec : ∀ a k, ¬ (a = 141 + 29 * r0 ∧ k = 0) → a ≠ 144 + 29 * r0 → ¬ (164 + 29 * r0 ≤ a ∧ a < 170 + 29 * r0 ∧ k = 0) → C a k = Z a k) (ec1 : C (141 + 29 * r0) 0 = false) (ec2 : ∀ c, c < 16 → C (144 + 29 * r0) c = false) (ec3 : ∀ u, u < 6 → C (164 + 29 * r0 + u) 0 = false)
    (ec' : ∀ a k, ¬ (a = 217 ∧ k = r0) → (a ≠ 235 ∨ k < 16 * r0 ∨ 16 * r0 + 16 ≤ k) → (a ≠ 236 ∨ k < 6 * r0 ∨ 6 * r0 + 6 ≤ k) → (a ≠ 241 ∨ k < 6 * r0 ∨ 6 * r0 + 6 ≤ k) → C' a k = Z' a k) (ec1' : C' 217 r0 = true) (ec2' : ∀ c, c < 16 → C' 235 (16 * r0 + c) = false) (ec3' : ∀ u, u < 6 → C' 236 (6 * r0 + u) = false) : g_V m n p A J C A' J' C' := by
  have e5 : A 5 = I 5 := funext fun k => ea 5 k (by omega)
  refine ⟨⟨?_, ?_, ?_, ?_, ?_, ?_, ?_, ?_, ?_, ?_, ?_, ?_, ?_, ?_, ?_, ?_, ?_⟩, h.n, ?_, ?_, h.pl, ?_⟩
  · intro j hj; (try simp (disch := omega) only [ea, ec, ea', ec', e5]); exact h.R.dist j hj
  · intro j hj; (try simp (disch := omega) only [ea, ec, ea', ec', e5]); exact h.R.road j hj
  · (try simp (disch := omega) only [ea, ec, ea', ec', e5]); exact h.R.roads 
  · intro j hj; (try simp (disch := omega) only [ea, ec, ea', ec', e5]); exact h.R.card j hj
  · intro j hj; (try simp (disch := omega) only [ea, ec, ea', ec', e5]); exact h.R.unit j hj
  · intro j hj
    obtain ⟨a0, a1, a2, a3, a4⟩ := h.R.room j hj
    by_cases e : j = r0
    · subst e; simp (disch := omega) only [ea, ea']; rw [ec1, ec1']; exact ⟨rfl, a1, a2, a3, a4⟩
    · simp (disch := omega) only [ea, ec, ea', ec']; exact ⟨a0, a1, a2, a3, a4⟩
  · (try simp (disch := omega) only [ea, ec, ea', ec', e5]); exact h.R.spd 
  · intro r d hr hd
    obtain ⟨a0, a1, a2, a3⟩ := h.R.grant r d hr hd
    by_cases e : r = r0
    · subst e; simp (disch := omega) only [ea, ea']; rw [ea0 d hd, ea0' d hd]; exact ⟨rfl, a1, a2, decide_eq_true ⟨by decide, by show (0 : Int) < _; omega⟩⟩
    · simp (disch := omega) only [ea, ea']; exact ⟨a0, a1, a2, a3⟩
  · intro r c hr hc
    by_cases e : r = r0
    · subst e; rw [ec2 c hc, ec2' c hc]
    · simp (disch := omega) only [ec, ec']; exact h.R.sure r c hr hc
  · intro c hc; (try simp (disch := omega) only [ea, ec, ea', ec', e5]); exact h.R.sure2 c hc
  · intro r c hr hc; unfold g_rec; (try simp (disch := omega) only [ea, ec, ea', ec', e5]); exact h.R.recs r c hr hc
  · intro c hc; unfold g_rec; (try simp (disch := omega) only [ea, ec, ea', ec', e5]); exact h.R.rrecs c hc
  · intro q hq; (try simp (disch := omega) only [ea, ec, ea', ec', e5]); exact h.R.recin q hq
  · intro q c hq hc hz; unfold g_tk; (try simp (disch := omega) only [ea, ec, ea', ec', e5] at hz ⊢); exact h.R.taken q c hq hc hz
  · (try simp (disch := omega) only [ea, ec, ea', ec', e5]); exact h.R.ref 
  · intro d hd; (try simp (disch := omega) only [ea, ec, ea', ec', e5]); exact h.R.refd d hd
  · intro r u hr hu
    obtain ⟨a0, a1, a2, a3, a4, a5, a6, a7⟩ := h.R.sight r u hr hu
    by_cases e : r = r0
    · subst e; simp (disch := omega) only [ea, ea']; rw [ec3 u hu, ec3' u hu]; exact ⟨rfl, fun e => absurd e (by decide), a2, a3, a4, a5, a6, a7⟩
    · simp (disch := omega) only [ea, ec, ea', ec']; exact ⟨a0, a1, a2, a3, a4, a5, a6, a7⟩
  · (try simp (disch := omega) only [ea, ec, ea', ec', e5]); exact h.c1
  · (try simp (disch := omega) only [ea, ec, ea', ec', e5]); exact h.c2
  · intro i hi; have hp := h.pl i (by have := h.n; omega); have hl := h.lets i hi; unfold g_let g_lrec g_tk at hl ⊢
    try simp (disch := omega) only [ea, ec, ea', ec', e5]
    exact hl
variable {xs : Nat → Int32} {Ln : Nat}
theorem op_20 : ∀ a0, lw_ok xs Ln g_Rel 21 155 [.int a0] := by
  intro a0 m σ hR hm
  obtain ⟨I, J, Z, w, rem, p, q, n, rfl, hP, hV⟩ := hR
  by_cases c0 : l_rg a0 0 2 = false
  · exact lw_bad (b_21_0 a0 c0) (b_155_0 a0 c0) rfl hP hV
  replace c0 := eq_true_of_ne_false c0
  obtain ⟨r, hr, rfl⟩ := l_of c0
  obtain ⟨z0, z1, z2, z3, z4⟩ := hV.R.room r hr
  by_cases hz : Z (141 + 29 * r) 0 = false
  · have hz2 : Z 217 r = true := by rw [hz] at z0; revert z0; cases Z 217 r <;> decide
    exact lw_bad (b_21_1 r hr hz) (b_155_1 r hr hz2) rfl hP hV
  replace hz := eq_true_of_ne_false hz
  have hz2 : Z 217 r = false := by rw [hz] at z0; revert z0; cases Z 217 r <;> decide
  have k1 : ∀ a k, 199 ≤ a → i_94 I r a k = I a k := fun a k h => congrFun (s_fl_f (by omega) 4) k
  have k2 : ∀ a k, 199 ≤ a → z_94 Z r a k = Z a k := fun a k h => by
    unfold z_94
    rw [s_fz_out 6 (by omega), s_fl_f (by omega) 16]
    exact s_upa (by omega)
  have hV1 : g_V m n p I J Z (i_94 I r) J (z_94 Z r) := hV.cls k1 (fun _ _ _ => rfl) k2
  refine lw_fin (n := n) (d_21 r hr hz) (d_155 r hr ((k2 217 r (by omega)).trans hz2)) rfl hP (g_V.mono (g_V.down (hV1.thr 0) hr ?_ ?_ ?_ ?_ ?_ ?_ ?_ ?_ ?_ ?_ ?_ ?_)) (fun a k h => ?_) (fun _ _ _ => rfl) (fun a k h => ?_)
  · exact fun a k h => congrFun (s_fl_f h 4) k
  · exact fun d hd => s_fl_in 4 hd
  · intro a k h
    by_cases ha : a = 221
    · exact s_fo_out 4 (by omega)
    · exact congrFun (s_fo_f ha 4) k
  · exact fun d hd => s_fo_in 4 (by omega) (by omega)
  · intro a k h1 h2 h3
    unfold z_94
    rw [s_fz_out 6 (by omega), s_fl_f h2 16]
    by_cases ha : a = 141 + 29 * r
    · exact s_upk (by omega)
    · exact s_upa ha
  · unfold z_94
    rw [s_fz_out 6 (by omega), s_fl_f (by omega) 16]
    exact s_upe _ _ _ _
  · intro c hc
    unfold z_94
    rw [s_fz_out 6 (by omega)]
    exact s_fl_in 16 hc
  · exact fun u hu => s_fz_in 6 (by omega) (by omega)
  · intro a k h1 h2 h3 h4
    have : s_f2 (s_fo (s_up (z_94 Z r) 217 r true) 235 (16 * r) false 16) 236 241 (6 * r) false 6 a k = s_fo (s_up (z_94 Z r) 217 r true) 235 (16 * r) false 16 a k := by
      by_cases hb : k < 6 * r ∨ 6 * r + 6 ≤ k
      · exact s_f2_out 6 hb
      · exact congrFun (s_f2_f (by omega) (by omega) 6) k
    rw [this]
    have : s_fo (s_up (z_94 Z r) 217 r true) 235 (16 * r) false 16 a k = s_up (z_94 Z r) 217 r true a k := by
      by_cases hb : k < 16 * r ∨ 16 * r + 16 ≤ k
      · exact s_fo_out 16 hb
      · exact congrFun (s_fo_f (by omega) 16) k
    rw [this]
    by_cases ha : a = 217
    · exact s_upk (by omega)
    · exact s_upa ha
  · rw [s_f2_f (by omega) (by omega) 6, s_fo_f (by omega) 16]
    exact s_upe _ _ _ _
  · intro c hc
    rw [s_f2_f (by omega) (by omega) 6]
    exact s_fo_in 16 (by omega) (by omega)
  · exact fun u hu => s_f2_in (by omega) 6 (by omega) (by omega)
  · rw [s_fo_f (by omega) 4]
    exact s_upa (by omega)
  · rw [s_f2_f (by omega) (by omega) 6, s_fo_f (by omega) 16]
    exact s_upa (by omega)
theorem g_let_copy {m a1 a2 i1 i2 : Nat} {I A I' A' : Nat → Nat → Int32} {J B J' B' : Nat → Nat → Int64} {Z C : Nat → Nat → Bool} (h : g_let m I J Z I' J' a1 i1) (h1 : ∀ k, k < 10 → k ≠ 6 → A a2 k = I a1 k) (h2 : ∀ k, 1 ≤ k → k < 10 → A (a2 + 1) k = I (a1 + 1) k) (h3 : B a2 6 = J a1 6) (h4 : C (a2 + 1) 0 = Z (a1 + 1) 0) (h5 : ∀ r, 242 ≤ r → r ≤ 254 → A' r i2 = I' r i1) (h6 : B' 255 i2 = J' 255 i1) (h7 : ∀ k, A' 224 k = I' 224 k) : g_let m A B C A' B' a2 i2 := by
  unfold g_let g_lrec g_tk at h ⊢
  simp (disch := omega) only [h1, h2, h3, h4, h5, h6, h7]
  exact h
theorem op_19 : ∀ a0, lw_ok xs Ln g_Rel 20 132 [.int a0] := by
  intro a0 m σ hR hm
  obtain ⟨I, J, Z, w, rem, p, q, n, rfl, hP, hV⟩ := hR
  by_cases c0 : l_rg a0 0 n = false
  · exact lw_bad (b_20_0 a0 n c0 hV.n hV.c1) (b_132_0 a0 n c0 hV.n hV.c2) rfl hP hV
  replace c0 := eq_true_of_ne_false c0
  obtain ⟨i, hi, rfl⟩ := l_of c0
  have hn := hV.n
  by_cases h48 : n = 48
  · subst h48
    exact lw_bad (b_20_1 i hi hV.c1) (b_132_1 i hi hV.c2) rfl hP hV
  have hn48 : n < 48 := by omega
  have hpn := hP.lt n (by omega)
  have hpi := hP.lt i (by omega)
  have hne : p i ≠ p n := g_ne hP.inj hV.n i hi
  have k1 : ∀ a k, a ≠ 35 + 2 * p n → a ≠ 36 + 2 * p n → ¬ (a = 33 ∧ k = 1) → i_73 I J Z i n p a k = I a k := fun a k h1 h2 h3 => by
    unfold i_73 i_68 i_64
    by_cases ha : a = 33
    · rw [s_upk (by omega)]; simp (disch := omega) only [s_upf]
    · simp (disch := omega) only [s_upf]
  have k2 : ∀ a k, a ≠ 36 + 2 * p n → z_73 I J Z i n p a k = Z a k := fun a k h => by unfold z_73 z_68 z_64; exact s_upa h
  have k3 : ∀ a k, a ≠ 35 + 2 * p n → j_73 I J Z i n p a k = J a k := fun a k h => by unfold j_73 j_68; exact s_upa h
  have hV1 : g_V m n p I J Z (i_73 I J Z i n p) (j_73 I J Z i n p) (z_73 I J Z i n p) := hV.cls (fun a k h => k1 a k (by omega) (by omega) (by omega)) (fun a k h => k3 a k (by omega)) (fun a k h => k2 a k (by omega))
  have hV2 := hV1.thr 0
  refine lw_fin (n := n + 1) (d_20 i n p hi hn48 hV.c1 hP.lt hP.at_) (d_132 i n hi hn48 ((k1 199 44 (by omega) (by omega) (by omega)).trans hV.c2)) rfl hP (g_V.mono (hV2.post (g_ne hP.inj hV.n) k1 k3 k2 (fun a k h1 h2 => ?_) (fun a k h1 => ?_) (fun _ _ => rfl) (n2 := n + 1) (by omega) ?_ ?_ (Or.inr ⟨rfl, ?_⟩))) (fun a k h => ?_) (fun a k h => ?_) (fun _ _ _ => rfl)
  · unfold i_132
    by_cases ha : a = 199
    · rw [s_upk (by omega)]; exact q116_e (by omega)
    · rw [s_upa ha]; exact q116_e (by omega)
  · unfold j_132 j_116
    rcases h1 with h1 | h1
    · exact s_upa (by omega)
    · exact s_upk h1
  · unfold i_73 i_68 i_64
    simp (disch := omega) only [s_upe, s_upf]
    rw [hV.c1]; exact n_add n 1
  · unfold i_132; exact s_upe _ _ _ _
  · refine g_let_copy (hV2.lets i hi) (fun k h1 h2 => ?_) (fun k h1 h2 => ?_) ?_ ?_ (fun r h1 h2 => ?_) ?_ (fun k => ?_)
    · unfold i_73 i_68 i_64
      simp (disch := omega) only [s_upf]
      have : k = 0 ∨ k = 1 ∨ k = 2 ∨ k = 3 ∨ k = 4 ∨ k = 5 ∨ k = 7 ∨ k = 8 ∨ k = 9 := by omega
      rcases this with rfl | rfl | rfl | rfl | rfl | rfl | rfl | rfl | rfl <;> simp (disch := omega) only [s_upe, s_upk]
    · rw [show 35 + 2 * p n + 1 = 36 + 2 * p n by omega, show 35 + 2 * p i + 1 = 36 + 2 * p i by omega]
      unfold i_73 i_68 i_64
      have : k = 1 ∨ k = 2 ∨ k = 3 ∨ k = 4 ∨ k = 5 ∨ k = 6 ∨ k = 7 ∨ k = 8 ∨ k = 9 := by omega
      rcases this with rfl | rfl | rfl | rfl | rfl | rfl | rfl | rfl | rfl <;> simp (disch := omega) only [s_upe, s_upf, s_upk]
    · unfold j_73 j_68; exact s_upe _ _ _ _
    · rw [show 35 + 2 * p n + 1 = 36 + 2 * p n by omega, show 35 + 2 * p i + 1 = 36 + 2 * p i by omega]
      unfold z_73 z_68 z_64; exact s_upe _ _ _ _
    · unfold i_132 i_116
      rw [s_upa (by omega)]
      have : r = 242 ∨ r = 243 ∨ r = 244 ∨ r = 245 ∨ r = 246 ∨ r = 247 ∨ r = 248 ∨ r = 249 ∨ r = 250 ∨ r = 251 ∨ r = 252 ∨ r = 253 ∨ r = 254 := by omega
      rcases this with rfl | rfl | rfl | rfl | rfl | rfl | rfl | rfl | rfl | rfl | rfl | rfl | rfl <;> simp (disch := omega) only [s_upe, s_upf]
    · unfold j_132 j_116; exact s_upe _ _ _ _
    · unfold i_132; rw [s_upa (by omega)]; exact q116_e (by omega)
  · unfold i_132; rw [s_upa (by omega), q116_e (by omega)]; exact s_upa (by omega)
  · unfold j_132 j_116; exact s_upa (by omega)
end Ops5
