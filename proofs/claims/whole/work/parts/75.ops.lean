section Ops3
theorem g_V.clocks {m n : Nat} {p : Nat → Nat} {I : Nat → Nat → Int32} {J : Nat → Nat → Int64} {Z : Nat → Nat → Bool} {I' : Nat → Nat → Int32} {J' : Nat → Nat → Int64} {Z' : Nat → Nat → Bool} (h : g_V m n p I J Z I' J' Z') {B : Nat → Nat → Int64} {B' : Nat → Nat → Int64} (eb : ∀ a k, ¬ (a = 13 ∧ k = 0) → ¬ (a = 141 ∧ k = 2) → ¬ (a = 170 ∧ k = 2) → B a k = J a k) (eb' : ∀ a k, a ≠ 215 → B' a k = J' a k) (h0 : B 13 0 = B' 215 2) (hr : ∀ r, r < 2 → B (141 + 29 * r) 2 = B' 215 r) : g_V m n p I B Z I' B' Z' := by
  refine ⟨⟨?_, ?_, ?_, ?_, ?_, ?_, ?_, ?_, ?_, ?_, ?_, ?_, ?_, ?_, ?_, ?_, ?_⟩, h.n, ?_, ?_, h.pl, ?_⟩
  · intro j hj; (try simp (disch := omega) only [eb, eb']); exact h.R.dist j hj
  · intro j hj; (try simp (disch := omega) only [eb, eb']); exact h.R.road j hj
  · (try simp (disch := omega) only [eb, eb']); exact h.R.roads 
  · intro j hj; (try simp (disch := omega) only [eb, eb']); exact h.R.card j hj
  · intro j hj; (try simp (disch := omega) only [eb, eb']); exact h.R.unit j hj
  · intro j hj
    obtain ⟨a0, a1, a2, a3, a4⟩ := h.R.room j hj
    exact ⟨a0, a1, hr j hj, a3, a4⟩
  · (try simp (disch := omega) only [eb, eb']); exact h.R.spd 
  · intro r d hr hd; (try simp (disch := omega) only [eb, eb']); exact h.R.grant r d hr hd
  · intro r c hr hc; (try simp (disch := omega) only [eb, eb']); exact h.R.sure r c hr hc
  · intro c hc; (try simp (disch := omega) only [eb, eb']); exact h.R.sure2 c hc
  · intro r c hr hc; unfold g_rec; (try simp (disch := omega) only [eb, eb']); exact h.R.recs r c hr hc
  · intro c hc; unfold g_rec; (try simp (disch := omega) only [eb, eb']); exact h.R.rrecs c hc
  · intro q hq; (try simp (disch := omega) only [eb, eb']); exact h.R.recin q hq
  · intro q c hq hc hz; unfold g_tk; (try simp (disch := omega) only [eb, eb'] at hz ⊢); exact h.R.taken q c hq hc hz
  · exact ⟨h0, h.R.ref.2⟩
  · intro d hd; (try simp (disch := omega) only [eb, eb']); exact h.R.refd d hd
  · intro r u hr hu; (try simp (disch := omega) only [eb, eb']); exact h.R.sight r u hr hu
  · (try simp (disch := omega) only [eb, eb']); exact h.c1
  · (try simp (disch := omega) only [eb, eb']); exact h.c2
  · intro i hi; have hp := h.pl i (by have := h.n; omega); have hl := h.lets i hi; unfold g_let g_lrec g_tk at hl ⊢
    try simp (disch := omega) only [eb, eb']
    exact hl
theorem g_V.up {m n : Nat} {p : Nat → Nat} {I : Nat → Nat → Int32} {J : Nat → Nat → Int64} {Z : Nat → Nat → Bool} {I' : Nat → Nat → Int32} {J' : Nat → Nat → Int64} {Z' : Nat → Nat → Bool} (h : g_V m n p I J Z I' J' Z') {r0 : Nat} {b : Bool} (hr0 : r0 < 2) : g_V m n p I J (s_up Z (141 + 29 * r0) 0 b) I' J' (s_up Z' 217 r0 (!b)) := by
  refine ⟨⟨?_, ?_, ?_, ?_, ?_, ?_, ?_, ?_, ?_, ?_, ?_, ?_, ?_, ?_, ?_, ?_, ?_⟩, h.n, ?_, ?_, h.pl, ?_⟩
  · intro j hj; (try simp (disch := omega) only [s_upf, s_upk]); exact h.R.dist j hj
  · intro j hj; (try simp (disch := omega) only [s_upf, s_upk]); exact h.R.road j hj
  · (try simp (disch := omega) only [s_upf, s_upk]); exact h.R.roads 
  · intro j hj; (try simp (disch := omega) only [s_upf, s_upk]); exact h.R.card j hj
  · intro j hj; (try simp (disch := omega) only [s_upf, s_upk]); exact h.R.unit j hj
  · intro j hj
    by_cases e : j = r0
    · subst e; obtain ⟨a0, a1, a2, a3, a4⟩ := h.R.room j hj; rw [s_upe, s_upe]; exact ⟨(Bool.not_not b).symm, a1, a2, a3, a4⟩
    · simp (disch := omega) only [s_upf, s_upk]; exact h.R.room j hj
  · (try simp (disch := omega) only [s_upf, s_upk]); exact h.R.spd 
  · intro r d hr hd; (try simp (disch := omega) only [s_upf, s_upk]); exact h.R.grant r d hr hd
  · intro r c hr hc; (try simp (disch := omega) only [s_upf, s_upk]); exact h.R.sure r c hr hc
  · intro c hc; (try simp (disch := omega) only [s_upf, s_upk]); exact h.R.sure2 c hc
  · intro r c hr hc; unfold g_rec; (try simp (disch := omega) only [s_upf, s_upk]); exact h.R.recs r c hr hc
  · intro c hc; unfold g_rec; (try simp (disch := omega) only [s_upf, s_upk]); exact h.R.rrecs c hc
  · intro q hq; (try simp (disch := omega) only [s_upf, s_upk]); exact h.R.recin q hq
  · intro q c hq hc hz; unfold g_tk; (try simp (disch := omega) only [s_upf, s_upk] at hz ⊢); exact h.R.taken q c hq hc hz
  · (try simp (disch := omega) only [s_upf, s_upk]); exact h.R.ref 
  · intro d hd; (try simp (disch := omega) only [s_upf, s_upk]); exact h.R.refd d hd
  · intro r u hr hu; (try simp (disch := omega) only [s_upf, s_upk]); exact h.R.sight r u hr hu
  · (try simp (disch := omega) only [s_upf, s_upk]); exact h.c1
  · (try simp (disch := omega) only [s_upf, s_upk]); exact h.c2
  · intro i hi; have hp := h.pl i (by have := h.n; omega); have hl := h.lets i hi; unfold g_let g_lrec g_tk at hl ⊢
    try simp (disch := omega) only [s_upf, s_upk]
    exact hl
theorem g_V.cls2 {m n : Nat} {p : Nat → Nat} {I I1 : Nat → Nat → Int32} {J J1 : Nat → Nat → Int64} {Z Z1 : Nat → Nat → Bool} (h : g_V m n p I J Z I J Z) (ei : ∀ a k, 199 ≤ a → a < 256 → I1 a k = I a k) (ej : ∀ a k, 199 ≤ a → a < 256 → J1 a k = J a k) (ez : ∀ a k, 199 ≤ a → a < 256 → Z1 a k = Z a k) : g_V m n p I J Z I1 J1 Z1 :=
  h.congr (fun _ _ _ _ _ => rfl) (fun _ _ _ => rfl) (fun _ _ _ => rfl) (fun a k h h' _ _ _ _ _ => ei a k h h') (fun a k h h' => ej a k h h') (fun a k h h' => ez a k h h')
theorem lw_finV {xs : Nat → Int32} {Ln jh j' m n rem : Nat} {as : List Value} {σ : s_S} {I1 : Nat → Nat → Int32} {J1 : Nat → Nat → Int64} {Z1 : Nat → Nat → Bool} {I2 : Nat → Nat → Int32} {J2 : Nat → Nat → Int64} {Z2 : Nat → Nat → Bool} {w p : Nat → Nat} {q : Nat} {k : Int32} (h1 : w_R xs Ln jh (0, lv_args 0 (.ref 1 :: as), [], σ, 0, 0) (fun o s => o = .inl (some (.int k)) ∧ s = (I1, J1, kR w rem, Z1))) (h2 : w_R xs Ln j' (0, lv_args 0 (.ref 199 :: as), [], (I1, J1, kR w rem, Z1), 0, 0) (fun o s => o = .inl none ∧ s = (I2, J2, kR w rem, Z2)))
    (hk : I2 199 59 = k) (hP : g_P w rem p q) (hV : g_V (m + 1) n p I1 J1 Z1 I2 J2 Z2) (ki : ∀ a k, a < 199 → I2 a k = I1 a k) (kj : ∀ a k, a < 199 → J2 a k = J1 a k) (kz : ∀ a k, a < 199 → Z2 a k = Z1 a k) : ∃ (k : Int32) (σ1 : s_S) (I : Nat → Nat → Int32) (J : Nat → Nat → Int64) (Z : Nat → Nat → Bool) (w : Nat → Nat) (rem : Nat), w_R xs Ln jh (0, lv_args 0 (.ref 1 :: as), [], σ, 0, 0) (fun o s => o = .inl (some (.int k)) ∧ s = σ1) ∧
  w_R xs Ln j' (0, lv_args 0 (.ref 199 :: as), [], σ1, 0, 0) (fun o s => o = .inl none ∧ s = (I, J, kR w rem, Z)) ∧ I 199 59 = k ∧ g_Rel (m + 1) (I, J, kR w rem, Z) :=
  ⟨k, _, I2, J2, Z2, w, rem, h1, h2, hk, ⟨I2, J2, Z2, w, rem, p, q, n, rfl, hP, hV.congr (fun a k h _ _ => ki a k h) kj kz (fun _ _ _ _ _ _ _ _ _ => rfl) (fun _ _ _ _ => rfl) (fun _ _ _ _ => rfl)⟩⟩
theorem lw_finI {xs : Nat → Int32} {Ln jh j' m n rem : Nat} {as : List Value} {σ : s_S} {I1 : Nat → Nat → Int32} {J1 : Nat → Nat → Int64} {Z1 : Nat → Nat → Bool} {I2 : Nat → Nat → Int32} {J2 : Nat → Nat → Int64} {Z2 : Nat → Nat → Bool} {w p : Nat → Nat} {q : Nat} {k : Int32} {v : Int32} (h1 : w_R xs Ln jh (0, lv_args 0 (.ref 1 :: (as ++ [.ref 256])), [], σ, 0, 0) (fun o s => o = .inl (some (.int k)) ∧ s = (I1, J1, kR w rem, Z1))) (h2 : w_R xs Ln j' (0, lv_args 0 (.ref 199 :: as), [], (I1, J1, kR w rem, Z1), 0, 0) (fun o s => o = .inl (some (.int v)) ∧ s = (I2, J2, kR w rem, Z2)))
    (hk : I2 199 59 = k) (hj : k = 0 → J2 256 0 = v.toInt64) (hP : g_P w rem p q) (hV : g_V (m + 1) n p I1 J1 Z1 I2 J2 Z2) (ki : ∀ a k, a < 199 → I2 a k = I1 a k) (kj : ∀ a k, a < 199 → J2 a k = J1 a k) (kz : ∀ a k, a < 199 → Z2 a k = Z1 a k) : ∃ (k : Int32) (v : Int32) (σ1 : s_S) (I : Nat → Nat → Int32) (J : Nat → Nat → Int64) (Z : Nat → Nat → Bool) (w : Nat → Nat) (rem : Nat), w_R xs Ln jh (0, lv_args 0 (.ref 1 :: (as ++ [.ref 256])), [], σ, 0, 0) (fun o s => o = .inl (some (.int k)) ∧ s = σ1) ∧
  w_R xs Ln j' (0, lv_args 0 (.ref 199 :: as), [], σ1, 0, 0) (fun o s => o = .inl (some (.int v)) ∧ s = (I, J, kR w rem, Z)) ∧ I 199 59 = k ∧ (k = 0 → J 256 0 = v.toInt64) ∧ g_Rel (m + 1) (I, J, kR w rem, Z) :=
  ⟨k, v, _, I2, J2, Z2, w, rem, h1, h2, hk, hj, ⟨I2, J2, Z2, w, rem, p, q, n, rfl, hP, hV.congr (fun a k h _ _ => ki a k h) kj kz (fun _ _ _ _ _ _ _ _ _ => rfl) (fun _ _ _ _ => rfl) (fun _ _ _ _ => rfl)⟩⟩
theorem lw_finL {xs : Nat → Int32} {Ln jh j' m n rem : Nat} {as : List Value} {σ : s_S} {I1 : Nat → Nat → Int32} {J1 : Nat → Nat → Int64} {Z1 : Nat → Nat → Bool} {I2 : Nat → Nat → Int32} {J2 : Nat → Nat → Int64} {Z2 : Nat → Nat → Bool} {w p : Nat → Nat} {q : Nat} {k : Int32} {v : Int64} (h1 : w_R xs Ln jh (0, lv_args 0 (.ref 1 :: (as ++ [.ref 256])), [], σ, 0, 0) (fun o s => o = .inl (some (.int k)) ∧ s = (I1, J1, kR w rem, Z1))) (h2 : w_R xs Ln j' (0, lv_args 0 (.ref 199 :: as), [], (I1, J1, kR w rem, Z1), 0, 0) (fun o s => o = .inl (some (.long v)) ∧ s = (I2, J2, kR w rem, Z2)))
    (hk : I2 199 59 = k) (hj : k = 0 → J2 256 0 = v) (hP : g_P w rem p q) (hV : g_V (m + 1) n p I1 J1 Z1 I2 J2 Z2) (ki : ∀ a k, a < 199 → I2 a k = I1 a k) (kj : ∀ a k, a < 199 → J2 a k = J1 a k) (kz : ∀ a k, a < 199 → Z2 a k = Z1 a k) : ∃ (k : Int32) (v : Int64) (σ1 : s_S) (I : Nat → Nat → Int32) (J : Nat → Nat → Int64) (Z : Nat → Nat → Bool) (w : Nat → Nat) (rem : Nat), w_R xs Ln jh (0, lv_args 0 (.ref 1 :: (as ++ [.ref 256])), [], σ, 0, 0) (fun o s => o = .inl (some (.int k)) ∧ s = σ1) ∧
  w_R xs Ln j' (0, lv_args 0 (.ref 199 :: as), [], σ1, 0, 0) (fun o s => o = .inl (some (.long v)) ∧ s = (I, J, kR w rem, Z)) ∧ I 199 59 = k ∧ (k = 0 → J 256 0 = v) ∧ g_Rel (m + 1) (I, J, kR w rem, Z) :=
  ⟨k, v, _, I2, J2, Z2, w, rem, h1, h2, hk, hj, ⟨I2, J2, Z2, w, rem, p, q, n, rfl, hP, hV.congr (fun a k h _ _ => ki a k h) kj kz (fun _ _ _ _ _ _ _ _ _ => rfl) (fun _ _ _ _ => rfl) (fun _ _ _ _ => rfl)⟩⟩
theorem lw_badV {xs : Nat → Int32} {Ln jh j' m n rem : Nat} {as : List Value} {I : Nat → Nat → Int32} {J : Nat → Nat → Int64} {Z : Nat → Nat → Bool} {w p : Nat → Nat} {q : Nat} {k : Int32} (h1 : w_R xs Ln jh (0, lv_args 0 (.ref 1 :: as), [], (I, J, kR w rem, Z), 0, 0) (fun o s => o = .inl (some (.int k)) ∧ s = (I, J, kR w rem, Z))) (h2 : w_R xs Ln j' (0, lv_args 0 (.ref 199 :: as), [], (I, J, kR w rem, Z), 0, 0) (fun o s => o = .inl none ∧ s = (s_up I 199 59 k, J, kR w rem, Z))) (hP : g_P w rem p q) (hV : g_V m n p I J Z I J Z) : ∃ (k : Int32) (σ1 : s_S) (I2 : Nat → Nat → Int32) (J2 : Nat → Nat → Int64) (Z2 : Nat → Nat → Bool) (w2 : Nat → Nat) (rem2 : Nat), w_R xs Ln jh (0, lv_args 0 (.ref 1 :: as), [], (I, J, kR w rem, Z), 0, 0) (fun o s => o = .inl (some (.int k)) ∧ s = σ1) ∧ w_R xs Ln j' (0, lv_args 0 (.ref 199 :: as), [], σ1, 0, 0) (fun o s => o = .inl none ∧ s = (I2, J2, kR w2 rem2, Z2)) ∧ I2 199 59 = k ∧ g_Rel (m + 1) (I2, J2, kR w2 rem2, Z2) :=
  lw_finV h1 h2 (s_upe _ _ _ _) hP (hV.thr k).mono (fun _ _ h => s_upa (by omega)) (fun _ _ _ => rfl) (fun _ _ _ => rfl)
theorem lw_badI {xs : Nat → Int32} {Ln jh j' m n rem : Nat} {as : List Value} {I : Nat → Nat → Int32} {J : Nat → Nat → Int64} {Z : Nat → Nat → Bool} {w p : Nat → Nat} {q : Nat} {k : Int32} {v : Int32} (h0 : ¬ k = 0) (h1 : w_R xs Ln jh (0, lv_args 0 (.ref 1 :: (as ++ [.ref 256])), [], (I, J, kR w rem, Z), 0, 0) (fun o s => o = .inl (some (.int k)) ∧ s = (I, J, kR w rem, Z))) (h2 : w_R xs Ln j' (0, lv_args 0 (.ref 199 :: as), [], (I, J, kR w rem, Z), 0, 0) (fun o s => o = .inl (some (.int v)) ∧ s = (s_up I 199 59 k, J, kR w rem, Z))) (hP : g_P w rem p q) (hV : g_V m n p I J Z I J Z) : ∃ (k : Int32) (v : Int32) (σ1 : s_S) (I2 : Nat → Nat → Int32) (J2 : Nat → Nat → Int64) (Z2 : Nat → Nat → Bool) (w2 : Nat → Nat) (rem2 : Nat), w_R xs Ln jh (0, lv_args 0 (.ref 1 :: (as ++ [.ref 256])), [], (I, J, kR w rem, Z), 0, 0) (fun o s => o = .inl (some (.int k)) ∧ s = σ1) ∧ w_R xs Ln j' (0, lv_args 0 (.ref 199 :: as), [], σ1, 0, 0) (fun o s => o = .inl (some (.int v)) ∧ s = (I2, J2, kR w2 rem2, Z2)) ∧ I2 199 59 = k ∧ (k = 0 → J2 256 0 = v.toInt64) ∧ g_Rel (m + 1) (I2, J2, kR w2 rem2, Z2) :=
  lw_finI h1 h2 (s_upe _ _ _ _) (fun e => absurd e h0) hP (hV.thr k).mono (fun _ _ h => s_upa (by omega)) (fun _ _ _ => rfl) (fun _ _ _ => rfl)
theorem lw_badL {xs : Nat → Int32} {Ln jh j' m n rem : Nat} {as : List Value} {I : Nat → Nat → Int32} {J : Nat → Nat → Int64} {Z : Nat → Nat → Bool} {w p : Nat → Nat} {q : Nat} {k : Int32} {v : Int64} (h0 : ¬ k = 0) (h1 : w_R xs Ln jh (0, lv_args 0 (.ref 1 :: (as ++ [.ref 256])), [], (I, J, kR w rem, Z), 0, 0) (fun o s => o = .inl (some (.int k)) ∧ s = (I, J, kR w rem, Z))) (h2 : w_R xs Ln j' (0, lv_args 0 (.ref 199 :: as), [], (I, J, kR w rem, Z), 0, 0) (fun o s => o = .inl (some (.long v)) ∧ s = (s_up I 199 59 k, J, kR w rem, Z))) (hP : g_P w rem p q) (hV : g_V m n p I J Z I J Z) : ∃ (k : Int32) (v : Int64) (σ1 : s_S) (I2 : Nat → Nat → Int32) (J2 : Nat → Nat → Int64) (Z2 : Nat → Nat → Bool) (w2 : Nat → Nat) (rem2 : Nat), w_R xs Ln jh (0, lv_args 0 (.ref 1 :: (as ++ [.ref 256])), [], (I, J, kR w rem, Z), 0, 0) (fun o s => o = .inl (some (.int k)) ∧ s = σ1) ∧ w_R xs Ln j' (0, lv_args 0 (.ref 199 :: as), [], σ1, 0, 0) (fun o s => o = .inl (some (.long v)) ∧ s = (I2, J2, kR w2 rem2, Z2)) ∧ I2 199 59 = k ∧ (k = 0 → J2 256 0 = v) ∧ g_Rel (m + 1) (I2, J2, kR w2 rem2, Z2) :=
  lw_finL h1 h2 (s_upe _ _ _ _) (fun e => absurd e h0) hP (hV.thr k).mono (fun _ _ h => s_upa (by omega)) (fun _ _ _ => rfl) (fun _ _ _ => rfl)
variable {xs : Nat → Int32} {Ln : Nat}
theorem op_7 : ∀ a0, lw_okL xs Ln g_Rel 162 138 [.int a0] := by
  intro a0 m σ hR hm
  obtain ⟨I, J, Z, w, rem, p, q, n, rfl, hP, hV⟩ := hR
  by_cases c0 : l_rg a0 0 1001 = false
  · exact lw_badL (k := 1) (by decide) (h_162t0 a0 (b_8_0 a0 c0)) (b_138_0 a0 c0) hP hV
  replace c0 := eq_true_of_ne_false c0
  obtain ⟨s, hs, rfl⟩ := l_of c0
  have r0 := hV.R.room 0 (by omega)
  have r1 := hV.R.room 1 (by omega)
  have rf := hV.R.ref
  have sp := hV.R.spd
  have hV1 : g_V m n p I J Z I (s_up (j_8 I J Z s) 256 0 (v_8 I J Z s)) Z := hV.cls2 (fun _ _ _ _ => rfl) (fun a k h1 h2 => by unfold j_8; simp (disch := omega) only [s_upf]) (fun _ _ _ _ => rfl)
  have g0 : (s_up (j_8 I J Z s) 256 0 (v_8 I J Z s)) 215 0 = J 215 0 := by unfold j_8; simp (disch := omega) only [s_upf]
  have g1 : (s_up (j_8 I J Z s) 256 0 (v_8 I J Z s)) 215 1 = J 215 1 := by unfold j_8; simp (disch := omega) only [s_upf]
  have g2 : (s_up (j_8 I J Z s) 256 0 (v_8 I J Z s)) 215 2 = J 215 2 := by unfold j_8; simp (disch := omega) only [s_upf]
  have g3 : (I 216 2).toInt64 = 50 := by rw [sp]; rfl
  refine lw_finL (n := n) (h_162n (Int32.ofNat s) (d_8 s hs)) (d_138 s hs) (s_upe _ _ _ _) (fun _ => ?_) hP (g_V.mono (g_V.congr (g_V.clocks (B := j_8 I J Z s) (B' := j_138 I (s_up (j_8 I J Z s) 256 0 (v_8 I J Z s)) Z s) (hV1.thr 0) ?_ ?_ ?_ ?_) (fun _ _ _ _ _ => rfl) (fun a k h => (s_upa (by omega))) (fun _ _ _ => rfl) (fun _ _ _ _ _ _ _ _ _ => rfl) (fun _ _ _ _ => rfl) (fun _ _ _ _ => rfl))) (fun _ _ h => s_upa (by omega)) (fun a k h => ?_) (fun _ _ _ => rfl)
  · unfold j_138 v_138; simp (disch := omega) only [s_upf, s_upe, g2, g3]; unfold v_8; rw [rf.1]
  · intro a k h1 h2 h3
    unfold j_8
    by_cases ha : a = 170
    · subst ha; simp (disch := omega) only [s_upf, s_upk]
    · by_cases ha : a = 141
      · subst ha; simp (disch := omega) only [s_upf, s_upk]
      · by_cases ha : a = 13
        · subst ha; simp (disch := omega) only [s_upf, s_upk]
        · simp (disch := omega) only [s_upf]
  · intro a k h
    unfold j_138
    simp (disch := omega) only [s_upf]
  · unfold j_138 j_8 
    simp (disch := omega) only [s_upf, s_upe, g2, g3]
    rw [rf.1]
  · intro r hr
    have : r = 0 ∨ r = 1 := by omega
    rcases this with rfl | rfl
    · unfold j_138
      simp (disch := omega) only [s_upk, s_upe, g0]
      unfold j_8
      simp (disch := omega) only [s_upf, s_upe]
      rw [r0.2.1, r0.2.2.1]
    · unfold j_138
      simp (disch := omega) only [s_upk, s_upe, g1]
      unfold j_8
      simp (disch := omega) only [s_upf, s_upe]
      rw [r1.2.1, r1.2.2.1]
  · unfold j_138
    simp (disch := omega) only [s_upf]
def i_cs (I : Nat → Nat → Int32) (J : Nat → Nat → Int64) (Z : Nat → Nat → Bool) (x0 x1 x2 x3 x4 : Int32) (n : Nat) (p : Nat → Nat) : Nat → Nat → Int32 := i_72 I J Z x0 x1 x2 x3 x4 n (p n)
def i_msa (I : Nat → Nat → Int32) (J : Nat → Nat → Int64) (Z : Nat → Nat → Bool) (x0 x1 x2 x3 x4 : Int32) (n : Nat) : Nat → Nat → Int32 := i_117a I J Z x0 x1 x2 x3 x4 n
def i_ms (I : Nat → Nat → Int32) (J : Nat → Nat → Int64) (Z : Nat → Nat → Bool) (x0 x1 x2 x3 x4 : Int32) (n : Nat) : Nat → Nat → Int32 := if n < 48 then i_msa I J Z x0 x1 x2 x3 x4 n else I
def j_ca (J : Nat → Nat → Int64) (v : Int64) (n : Nat) (p : Nat → Nat) : Nat → Nat → Int64 := s_up J (35 + 2 * p n) 6 v
def j_msa (J : Nat → Nat → Int64) (v : Int64) (n : Nat) : Nat → Nat → Int64 := s_up J 255 n v
def j_ms (J : Nat → Nat → Int64) (v : Int64) (n : Nat) : Nat → Nat → Int64 := if n < 48 then j_msa J v n else J
theorem g_send7 {m n : Nat} {p : Nat → Nat} {I : Nat → Nat → Int32} {J : Nat → Nat → Int64} {Z : Nat → Nat → Bool} {I' : Nat → Nat → Int32} {J' : Nat → Nat → Int64} {Z' : Nat → Nat → Bool} (h : g_V m n p I J Z I' J' Z') (hne : ∀ i, i < n → p i ≠ p n) {r : Nat} (hr : r < 2) : g_V m (g_s n) p (i_cs I J Z 7 (Int32.ofNat r) (Int32.ofNat (1 - r)) (-1) 0 n p) J Z (i_ms I' J' Z' 7 (Int32.ofNat r) (Int32.ofNat (1 - r)) (-1) 0 n) J' Z' := by
  have hpn := h.pl n (by have := h.n; omega)
  have e36 : 35 + 2 * p n + 1 = 36 + 2 * p n := by omega
  refine h.post (n2 := g_s n) hne (fun a' k' h1 h2 h3 => ?_) (fun a' k' h1 => ?_) (fun a' k' h1 => ?_) (fun a' k' h1 h2 => ?_) (fun a' k' h1 => ?_) (fun _ _ => rfl) (g_s_le h.n) ?_ ?_ ?_
  · unfold i_cs; (try simp (disch := omega) only [s_upf]); exact p72_e h1 h3
  · rfl
  · rfl
  · unfold i_ms; split
    · unfold i_msa; rcases h1 with h1 | h1
      · (try simp (disch := omega) only [s_upf]); exact p117_e (Or.inl h1) h2
      · (try simp (disch := omega) only [s_upk]); exact p117_e (Or.inr (Or.inr h1)) h2
    · rfl
  · rfl
  · unfold i_cs; (try simp (disch := omega) only [s_upf]); exact p72_c h.c1
  · unfold i_ms g_s; split
    · unfold i_msa; (try simp (disch := omega) only [s_upf]); exact p117_c
    · exact h.c2
  · by_cases hn : n < 48
    · refine Or.inr ⟨if_pos hn, ?_⟩
      unfold g_let g_lrec g_tk
      rw [e36]
      refine ⟨⟨?_, ?_, ?_, ?_, ?_⟩, ?_⟩
      · (try simp (disch := omega) only [i_cs, i_ms, i_msa, if_pos hn, s_upe, s_upf, s_upk, p72_0, p72_1, p72_2, p72_3, p72_4, p72_e, p117_0, p117_1, p117_2, p117_3, p117_4, p117_e, p117_c]) <;> first | done | assumption
      · (try simp (disch := omega) only [i_cs, i_ms, i_msa, if_pos hn, s_upe, s_upf, s_upk, p72_0, p72_1, p72_2, p72_3, p72_4, p72_e, p117_0, p117_1, p117_2, p117_3, p117_4, p117_e, p117_c]) <;> first | done | assumption
      · (try simp (disch := omega) only [i_cs, i_ms, i_msa, if_pos hn, s_upe, s_upf, s_upk, p72_0, p72_1, p72_2, p72_3, p72_4, p72_e, p117_0, p117_1, p117_2, p117_3, p117_4, p117_e, p117_c]) <;> first | done | assumption
      · (try simp (disch := omega) only [i_cs, i_ms, i_msa, if_pos hn, s_upe, s_upf, s_upk, p72_0, p72_1, p72_2, p72_3, p72_4, p72_e, p117_0, p117_1, p117_2, p117_3, p117_4, p117_e, p117_c]) <;> first | done | assumption
      · (try simp (disch := omega) only [i_cs, i_ms, i_msa, if_pos hn, s_upe, s_upf, s_upk, p72_0, p72_1, p72_2, p72_3, p72_4, p72_e, p117_0, p117_1, p117_2, p117_3, p117_4, p117_e, p117_c]) <;> first | done | assumption
      refine Or.inr (Or.inr (Or.inr (Or.inr (Or.inr (Or.inr (Or.inr ⟨?_, ?_, ?_⟩)))))) <;> (try simp (disch := omega) only [i_cs, i_ms, i_msa, if_pos hn, s_upe, s_upf, s_upk, p72_0, p72_1, p72_2, p72_3, p72_4, p72_e, p117_0, p117_1, p117_2, p117_3, p117_4, p117_e, p117_c]) <;> first | assumption | exact l_inN (by omega) (by decide) | rfl
    · exact Or.inl (if_neg hn)
theorem g_ask {m n : Nat} {p : Nat → Nat} {I : Nat → Nat → Int32} {J : Nat → Nat → Int64} {Z : Nat → Nat → Bool} {I' : Nat → Nat → Int32} {J' : Nat → Nat → Int64} {Z' : Nat → Nat → Bool} (h : g_V m n p I J Z I' J' Z') (hne : ∀ i, i < n → p i ≠ p n) {r d : Nat} {v : Int64} (hr : r < 2) (hd : d < 4) : g_V m (g_s n) p (i_cs I J Z 0 (Int32.ofNat r) 2 (Int32.ofNat d) 0 n p) (j_ca J v n p) Z (i_ms I' J' Z' 0 (Int32.ofNat r) 2 (Int32.ofNat d) 0 n) (j_ms J' v n) Z' := by
  have hpn := h.pl n (by have := h.n; omega)
  have e36 : 35 + 2 * p n + 1 = 36 + 2 * p n := by omega
  refine h.post (n2 := g_s n) hne (fun a' k' h1 h2 h3 => ?_) (fun a' k' h1 => ?_) (fun a' k' h1 => ?_) (fun a' k' h1 h2 => ?_) (fun a' k' h1 => ?_) (fun _ _ => rfl) (g_s_le h.n) ?_ ?_ ?_
  · unfold i_cs; (try simp (disch := omega) only [s_upf]); exact p72_e h1 h3
  · unfold j_ca; exact s_upa h1
  · rfl
  · unfold i_ms; split
    · unfold i_msa; rcases h1 with h1 | h1
      · (try simp (disch := omega) only [s_upf]); exact p117_e (Or.inl h1) h2
      · (try simp (disch := omega) only [s_upk]); exact p117_e (Or.inr (Or.inr h1)) h2
    · rfl
  · unfold j_ms; split
    · unfold j_msa; rcases h1 with h1 | h1
      · exact s_upa (by omega)
      · exact s_upk (by omega)
    · rfl
  · unfold i_cs; (try simp (disch := omega) only [s_upf]); exact p72_c h.c1
  · unfold i_ms g_s; split
    · unfold i_msa; (try simp (disch := omega) only [s_upf]); exact p117_c
    · exact h.c2
  · by_cases hn : n < 48
    · refine Or.inr ⟨if_pos hn, ?_⟩
      unfold g_let g_lrec g_tk
      rw [e36]
      refine ⟨⟨?_, ?_, ?_, ?_, ?_⟩, ?_⟩
      · (try simp (disch := omega) only [i_cs, j_ca, i_ms, i_msa, if_pos hn, s_upe, s_upf, s_upk, p72_0, p72_1, p72_2, p72_3, p72_4, p72_e, p117_0, p117_1, p117_2, p117_3, p117_4, p117_e, p117_c, j_ms, j_msa]) <;> first | done | assumption
      · (try simp (disch := omega) only [i_cs, j_ca, i_ms, i_msa, if_pos hn, s_upe, s_upf, s_upk, p72_0, p72_1, p72_2, p72_3, p72_4, p72_e, p117_0, p117_1, p117_2, p117_3, p117_4, p117_e, p117_c, j_ms, j_msa]) <;> first | done | assumption
      · (try simp (disch := omega) only [i_cs, j_ca, i_ms, i_msa, if_pos hn, s_upe, s_upf, s_upk, p72_0, p72_1, p72_2, p72_3, p72_4, p72_e, p117_0, p117_1, p117_2, p117_3, p117_4, p117_e, p117_c, j_ms, j_msa]) <;> first | done | assumption
      · (try simp (disch := omega) only [i_cs, j_ca, i_ms, i_msa, if_pos hn, s_upe, s_upf, s_upk, p72_0, p72_1, p72_2, p72_3, p72_4, p72_e, p117_0, p117_1, p117_2, p117_3, p117_4, p117_e, p117_c, j_ms, j_msa]) <;> first | done | assumption
      · (try simp (disch := omega) only [i_cs, j_ca, i_ms, i_msa, if_pos hn, s_upe, s_upf, s_upk, p72_0, p72_1, p72_2, p72_3, p72_4, p72_e, p117_0, p117_1, p117_2, p117_3, p117_4, p117_e, p117_c, j_ms, j_msa]) <;> first | done | assumption
      refine Or.inl ⟨?_, ?_, ?_, ?_, ?_⟩ <;> (try simp (disch := omega) only [i_cs, j_ca, i_ms, i_msa, if_pos hn, s_upe, s_upf, s_upk, p72_0, p72_1, p72_2, p72_3, p72_4, p72_e, p117_0, p117_1, p117_2, p117_3, p117_4, p117_e, p117_c, j_ms, j_msa]) <;> first | assumption | exact l_inN (by omega) (by decide) | rfl
    · exact Or.inl (if_neg hn)
theorem i_ms_e {I : Nat → Nat → Int32} {J : Nat → Nat → Int64} {Z : Nat → Nat → Bool} {x0 x1 x2 x3 x4 : Int32} {n a k : Nat} (h : a < 242) (h2 : ¬ (a = 199 ∧ k = 44)) : i_ms I J Z x0 x1 x2 x3 x4 n a k = I a k := by
  unfold i_ms
  split
  · exact p117_e (Or.inl h) h2
  · rfl
theorem op_8 : ∀ a0 a1, lw_okV xs Ln g_Rel 163 139 [.int a0, .int a1] := by
  intro a0 a1 m σ hR hm
  obtain ⟨I, J, Z, w, rem, p, q, n, rfl, hP, hV⟩ := hR
  by_cases c0 : l_rg a0 0 2 = false
  · exact lw_badV (k := 1) (h_163t0 a0 a1 (b_9_0 a0 a1 c0)) (b_139_0 a0 a1 c0) hP hV
  replace c0 := eq_true_of_ne_false c0
  obtain ⟨r, hr, rfl⟩ := l_of c0
  by_cases c1 : l_rg a1 0 4 = false
  · exact lw_badV (k := 1) (h_163t0 (Int32.ofNat r) a1 (b_9_1 r a1 hr c1)) (b_139_1 r a1 hr c1) hP hV
  replace c1 := eq_true_of_ne_false c1
  obtain ⟨d, hd, rfl⟩ := l_of c1
  obtain ⟨z0, z1, z2, z3, z4⟩ := hV.R.room r hr
  by_cases hz : Z (141 + 29 * r) 0 = false
  · have hz2 : Z 217 r = true := by rw [hz] at z0; revert z0; cases Z 217 r <;> decide
    exact lw_badV (k := 2) (h_163t1 (Int32.ofNat r) (Int32.ofNat d) (b_9_2 r d hr hd hz)) (b_139_2 r d hr hd hz2) hP hV
  replace hz := eq_true_of_ne_false hz
  have hz2 : Z 217 r = false := by rw [hz] at z0; revert z0; cases Z 217 r <;> decide
  have hpn := hP.lt n (by have := hV.n; omega)
  have hV1 : g_V m n p I J Z (i_9 I J Z r d n p) (j_9 I J Z r d n p) Z := hV.cls (fun a k h => by unfold i_9; exact p72_e (by omega) (by omega)) (fun a k h => by unfold j_9; exact s_upa (by omega)) (fun _ _ _ => rfl)
  have e1 : i_139 (i_9 I J Z r d n p) (j_9 I J Z r d n p) Z r d n = i_ms (s_up (i_9 I J Z r d n p) 199 59 0) (j_9 I J Z r d n p) Z 0 (Int32.ofNat r) 2 (Int32.ofNat d) 0 n := by
    unfold i_139 i_ms; split <;> rfl
  have e2 : j_139 (i_9 I J Z r d n p) (j_9 I J Z r d n p) Z r d n = j_ms (j_9 I J Z r d n p) (J (141 + 29 * r) 2) n := by
    have : (j_9 I J Z r d n p) 215 r = J (141 + 29 * r) 2 := by unfold j_9; rw [s_upa (by omega)]; exact z2.symm
    unfold j_139 j_ms j_139a j_msa; rw [this]
  have hc2 : (i_9 I J Z r d n p) 199 44 = Int32.ofNat n := by unfold i_9; rw [p72_e (by omega) (by omega)]; exact hV.c2
  have hd2 := d_139 (I := i_9 I J Z r d n p) (J := j_9 I J Z r d n p) (Z := Z) (w := w) (rem := rem) (xs := xs) (Ln := Ln) r d n hr hd hV.n hc2 hz2
  rw [e1, e2] at hd2
  refine lw_finV (n := g_s n) (k := 0) (h_163n (Int32.ofNat r) (Int32.ofNat d) (d_9 r d n p hr hd hV.n hV.c1 hP.lt hP.at_ hz)) hd2 ?_ hP (g_V.mono (g_ask (hV1.thr 0) (g_ne hP.inj hV.n) hr hd)) (fun a k h => ?_) (fun a k h => ?_) (fun _ _ _ => rfl)
  · rw [i_ms_e (by omega) (by omega)]; exact s_upe _ _ _ _
  · rw [i_ms_e (by omega) (by omega)]; exact s_upa (by omega)
  · unfold j_ms j_msa; split
    · exact s_upa (by omega)
    · rfl
theorem op_21 : ∀ a0, lw_ok xs Ln g_Rel 22 156 [.int a0] := by
  intro a0 m σ hR hm
  obtain ⟨I, J, Z, w, rem, p, q, n, rfl, hP, hV⟩ := hR
  by_cases c0 : l_rg a0 0 2 = false
  · exact lw_bad (b_22_0 a0 c0) (b_156_0 a0 c0) rfl hP hV
  replace c0 := eq_true_of_ne_false c0
  obtain ⟨r, hr, rfl⟩ := l_of c0
  obtain ⟨z0, z1, z2, z3, z4⟩ := hV.R.room r hr
  have hpn := hP.lt n (by have := hV.n; omega)
  have hc := d_22 (I := I) (J := J) (Z := Z) (w := w) (rem := rem) (xs := xs) (Ln := Ln) r n p hr hV.n hV.c1 hP.lt hP.at_
  by_cases hz : Z (141 + 29 * r) 0 = true
  · have hz2 : Z 217 r = false := by rw [hz] at z0; revert z0; cases Z 217 r <;> decide
    simp only [v_22, i_22, z_22, if_pos hz] at hc
    have hd := d_156 (I := I) (J := J) (Z := Z) (w := w) (rem := rem) (xs := xs) (Ln := Ln) r n hr hV.n hV.c2
    have e0 : v_156 I J Z r n = false := by unfold v_156 v_156a v_156b; rw [hz2]; split <;> rfl
    have e1 : i_156 I J Z r n = s_up I 199 59 0 := by unfold i_156 i_156a i_156b; rw [hz2]; split <;> rfl
    have e2 : z_156 I J Z r n = Z := by unfold z_156 z_156a z_156b; rw [hz2]; split <;> rfl
    rw [e0, e1, e2] at hd
    exact lw_bad hc hd rfl hP hV
  · have hz2 : Z 217 r = true := by revert z0 hz; cases Z (141 + 29 * r) 0 <;> cases Z 217 r <;> decide
    simp only [v_22, i_22, z_22, if_neg hz, v_34] at hc
    generalize hA : i_72 I J (s_up Z (141 + 29 * r) 0 true) 7 (Int32.ofNat r) (Int32.ofNat (1 - r)) (-1) 0 n (p n) = A at hc
    have hz3 : (s_up Z (141 + 29 * r) 0 true) 217 r = true := by rw [s_upa (by omega)]; exact hz2
    have hA2 : ∀ a k, 199 ≤ a → A a k = I a k := fun a k h => by rw [← hA]; exact p72_e (by omega) (by omega)
    have hd := d_156 (I := A) (J := J) (Z := s_up Z (141 + 29 * r) 0 true) (w := w) (rem := rem) (xs := xs) (Ln := Ln) r n hr hV.n ((hA2 199 44 (by omega)).trans hV.c2)
    have e0 : v_156 A J (s_up Z (141 + 29 * r) 0 true) r n = true := by unfold v_156 v_156a v_156b; rw [hz3]; split <;> rfl
    have e1 : i_156 A J (s_up Z (141 + 29 * r) 0 true) r n = i_ms (s_up A 199 59 0) J (s_up (s_up Z (141 + 29 * r) 0 true) 217 r (!true)) 7 (Int32.ofNat r) (Int32.ofNat (1 - r)) (-1) 0 n := by
      unfold i_156 i_156a i_156b i_ms; rw [hz3]; split <;> rfl
    have e2 : z_156 A J (s_up Z (141 + 29 * r) 0 true) r n = s_up (s_up Z (141 + 29 * r) 0 true) 217 r (!true) := by unfold z_156 z_156a z_156b; rw [hz3]; split <;> rfl
    rw [e0, e1, e2] at hd
    have hV1 : g_V m n p I J Z A J (s_up Z (141 + 29 * r) 0 true) := hV.cls hA2 (fun _ _ _ => rfl) (fun a k h => s_upa (by omega))
    have hV2 := g_V.up (b := true) (hV1.thr 0) hr
    have hV3 := g_send7 hV2 (g_ne hP.inj hV.n) hr
    refine lw_fin (n := g_s n) hc hd rfl hP (g_V.mono ?_) (fun a k h => ?_) (fun _ _ _ => rfl) (fun a k h => ?_)
    · rw [← hA]; rw [← hA] at hV3; exact hV3
    · rw [i_ms_e (by omega) (by omega)]; exact s_upa (by omega)
    · exact s_upa (by omega)
end Ops3
