/-! The two views: what does not count may change. -/
theorem s_upf {α : Type} {f : Nat → Nat → α} {a k b : Nat} {v : α} (h : b ≠ a) : s_up f a k v b = f b := funext fun _ => s_upa h
theorem g_V.R {m n : Nat} {p : Nat → Nat} {I : Nat → Nat → Int32} {J : Nat → Nat → Int64} {Z : Nat → Nat → Bool} {I' : Nat → Nat → Int32} {J' : Nat → Nat → Int64} {Z' : Nat → Nat → Bool} (h : g_V m n p I J Z I' J' Z') : g_R m I J Z I' J' Z' := h.1
theorem g_V.n {m n : Nat} {p : Nat → Nat} {I : Nat → Nat → Int32} {J : Nat → Nat → Int64} {Z : Nat → Nat → Bool} {I' : Nat → Nat → Int32} {J' : Nat → Nat → Int64} {Z' : Nat → Nat → Bool} (h : g_V m n p I J Z I' J' Z') : n ≤ 48 := h.2.1
theorem g_V.c1 {m n : Nat} {p : Nat → Nat} {I : Nat → Nat → Int32} {J : Nat → Nat → Int64} {Z : Nat → Nat → Bool} {I' : Nat → Nat → Int32} {J' : Nat → Nat → Int64} {Z' : Nat → Nat → Bool} (h : g_V m n p I J Z I' J' Z') : I 33 1 = Int32.ofNat n := h.2.2.1
theorem g_V.c2 {m n : Nat} {p : Nat → Nat} {I : Nat → Nat → Int32} {J : Nat → Nat → Int64} {Z : Nat → Nat → Bool} {I' : Nat → Nat → Int32} {J' : Nat → Nat → Int64} {Z' : Nat → Nat → Bool} (h : g_V m n p I J Z I' J' Z') : I' 199 44 = Int32.ofNat n := h.2.2.2.1
theorem g_V.pl {m n : Nat} {p : Nat → Nat} {I : Nat → Nat → Int32} {J : Nat → Nat → Int64} {Z : Nat → Nat → Bool} {I' : Nat → Nat → Int32} {J' : Nat → Nat → Int64} {Z' : Nat → Nat → Bool} (h : g_V m n p I J Z I' J' Z') : ∀ i, i < 49 → p i < 50 := h.2.2.2.2.1
theorem g_V.lets {m n : Nat} {p : Nat → Nat} {I : Nat → Nat → Int32} {J : Nat → Nat → Int64} {Z : Nat → Nat → Bool} {I' : Nat → Nat → Int32} {J' : Nat → Nat → Int64} {Z' : Nat → Nat → Bool} (h : g_V m n p I J Z I' J' Z') : ∀ i, i < n → g_let m I J Z I' J' (35 + 2 * p i) i := h.2.2.2.2.2
theorem g_V.congr {m n : Nat} {p : Nat → Nat} {I : Nat → Nat → Int32} {J : Nat → Nat → Int64} {Z : Nat → Nat → Bool} {I' : Nat → Nat → Int32} {J' : Nat → Nat → Int64} {Z' : Nat → Nat → Bool} (h : g_V m n p I J Z I' J' Z') {A : Nat → Nat → Int32} {B : Nat → Nat → Int64} {C : Nat → Nat → Bool} {A' : Nat → Nat → Int32} {B' : Nat → Nat → Int64} {C' : Nat → Nat → Bool} (ei : ∀ a k, a < 199 → a ≠ 4 → a ≠ 10 → A a k = I a k) (ej : ∀ a k, a < 199 → B a k = J a k) (ez : ∀ a k, a < 199 → C a k = Z a k) (ei' : ∀ a k, 199 ≤ a → a < 256 → a ≠ 202 → a ≠ 206 → a ≠ 207 → a ≠ 219 → ¬ (a = 199 ∧ k = 59) → A' a k = I' a k) (ej' : ∀ a k, 199 ≤ a → a < 256 → B' a k = J' a k) (ez' : ∀ a k, 199 ≤ a → a < 256 → C' a k = Z' a k) : g_V m n p A B C A' B' C' := by
  have e5 : A 5 = I 5 := funext fun k => ei 5 k (by omega) (by omega) (by omega)
  refine ⟨⟨?_, ?_, ?_, ?_, ?_, ?_, ?_, ?_, ?_, ?_, ?_, ?_, ?_, ?_, ?_, ?_, ?_⟩, h.n, ?_, ?_, h.pl, ?_⟩
  · intro j hj; (try simp (disch := omega) only [ei, ej, ez, ei', ej', ez', e5]); exact h.R.dist j hj
  · intro j hj; (try simp (disch := omega) only [ei, ej, ez, ei', ej', ez', e5]); exact h.R.road j hj
  · (try simp (disch := omega) only [ei, ej, ez, ei', ej', ez', e5]); exact h.R.roads 
  · intro j hj; (try simp (disch := omega) only [ei, ej, ez, ei', ej', ez', e5]); exact h.R.card j hj
  · intro j hj; (try simp (disch := omega) only [ei, ej, ez, ei', ej', ez', e5]); exact h.R.unit j hj
  · intro j hj; (try simp (disch := omega) only [ei, ej, ez, ei', ej', ez', e5]); exact h.R.room j hj
  · (try simp (disch := omega) only [ei, ej, ez, ei', ej', ez', e5]); exact h.R.spd 
  · intro r d hr hd; (try simp (disch := omega) only [ei, ej, ez, ei', ej', ez', e5]); exact h.R.grant r d hr hd
  · intro r c hr hc; (try simp (disch := omega) only [ei, ej, ez, ei', ej', ez', e5]); exact h.R.sure r c hr hc
  · intro c hc; (try simp (disch := omega) only [ei, ej, ez, ei', ej', ez', e5]); exact h.R.sure2 c hc
  · intro r c hr hc; unfold g_rec; (try simp (disch := omega) only [ei, ej, ez, ei', ej', ez', e5]); exact h.R.recs r c hr hc
  · intro c hc; unfold g_rec; (try simp (disch := omega) only [ei, ej, ez, ei', ej', ez', e5]); exact h.R.rrecs c hc
  · intro q hq; (try simp (disch := omega) only [ei, ej, ez, ei', ej', ez', e5]); exact h.R.recin q hq
  · intro q c hq hc hz; unfold g_tk; simp (disch := omega) only [ei, ej, ez, ei', ej', ez', e5] at hz ⊢; exact h.R.taken q c hq hc hz
  · (try simp (disch := omega) only [ei, ej, ez, ei', ej', ez', e5]); exact h.R.ref 
  · intro d hd; (try simp (disch := omega) only [ei, ej, ez, ei', ej', ez', e5]); exact h.R.refd d hd
  · intro r u hr hu; (try simp (disch := omega) only [ei, ej, ez, ei', ej', ez', e5]); exact h.R.sight r u hr hu
  · (try simp (disch := omega) only [ei, ej, ez, ei', ej', ez', e5]); exact h.c1
  · (try simp (disch := omega) only [ei, ej, ez, ei', ej', ez', e5]); exact h.c2
  · intro i hi; have hp := h.pl i (by have := h.n; omega); have hl := h.lets i hi; unfold g_let g_lrec g_tk at hl ⊢
    try simp (disch := omega) only [ei, ej, ez, ei', ej', ez', e5]
    exact hl
theorem lw_fin {xs : Nat → Int32} {Ln j j' m n w1rem : Nat} {as : List Value} {σ : s_S} {I1 : Nat → Nat → Int32} {J1 : Nat → Nat → Int64} {Z1 : Nat → Nat → Bool} {I2 : Nat → Nat → Int32} {J2 : Nat → Nat → Int64} {Z2 : Nat → Nat → Bool} {w p : Nat → Nat} {q : Nat} {v v' : Int32}
    (h1 : w_R xs Ln j (0, lv_args 0 (.ref 1 :: as), [], σ, 0, 0) (fun o s => o = .inl (some (.int v)) ∧ s = (I1, J1, kR w w1rem, Z1)))
    (h2 : w_R xs Ln j' (0, lv_args 0 (.ref 199 :: as), [], (I1, J1, kR w w1rem, Z1), 0, 0) (fun o s => o = .inl (some (.int v')) ∧ s = (I2, J2, kR w w1rem, Z2)))
    (hv : v' = v) (hP : g_P w w1rem p q) (hV : g_V (m + 1) n p I1 J1 Z1 I2 J2 Z2) (ki : ∀ a k, a < 199 → I2 a k = I1 a k) (kj : ∀ a k, a < 199 → J2 a k = J1 a k) (kz : ∀ a k, a < 199 → Z2 a k = Z1 a k) :
    ∃ (v : Int32) (σ1 σ2 : s_S), w_R xs Ln j (0, lv_args 0 (.ref 1 :: as), [], σ, 0, 0) (fun o s => o = .inl (some (.int v)) ∧ s = σ1) ∧ w_R xs Ln j' (0, lv_args 0 (.ref 199 :: as), [], σ1, 0, 0) (fun o s => o = .inl (some (.int v)) ∧ s = σ2) ∧ g_Rel (m + 1) σ2 := by
  subst hv
  exact ⟨_, _, _, h1, h2, I2, J2, Z2, w, w1rem, p, q, n, rfl, hP, hV.congr (fun a k h _ _ => ki a k h) kj kz (fun _ _ _ _ _ _ _ _ _ => rfl) (fun _ _ _ _ => rfl) (fun _ _ _ _ => rfl)⟩
theorem g_V.thr {m n : Nat} {p : Nat → Nat} {I : Nat → Nat → Int32} {J : Nat → Nat → Int64} {Z : Nat → Nat → Bool} {I' : Nat → Nat → Int32} {J' : Nat → Nat → Int64} {Z' : Nat → Nat → Bool} (h : g_V m n p I J Z I' J' Z') (v : Int32) : g_V m n p I J Z (s_up I' 199 59 v) J' Z' :=
  h.congr (fun _ _ _ _ _ => rfl) (fun _ _ _ => rfl) (fun _ _ _ => rfl) (fun a k _ _ _ _ _ _ h => by
    by_cases ha : a = 199
    · exact s_upk (fun hk => h ⟨ha, hk⟩)
    · exact s_upa ha) (fun _ _ _ _ => rfl) (fun _ _ _ _ => rfl)
theorem g_V.cls {m n : Nat} {p : Nat → Nat} {I I1 : Nat → Nat → Int32} {J J1 : Nat → Nat → Int64} {Z Z1 : Nat → Nat → Bool} (h : g_V m n p I J Z I J Z) (ei : ∀ a k, 199 ≤ a → I1 a k = I a k) (ej : ∀ a k, 199 ≤ a → J1 a k = J a k) (ez : ∀ a k, 199 ≤ a → Z1 a k = Z a k) : g_V m n p I J Z I1 J1 Z1 :=
  h.congr (fun _ _ _ _ _ => rfl) (fun _ _ _ => rfl) (fun _ _ _ => rfl) (fun a k h _ _ _ _ _ _ => ei a k h) (fun a k h _ => ej a k h) (fun a k h _ => ez a k h)
theorem lw_bad {xs : Nat → Int32} {Ln j j' m n rem : Nat} {as : List Value} {I : Nat → Nat → Int32} {J : Nat → Nat → Int64} {Z : Nat → Nat → Bool} {w p : Nat → Nat} {q : Nat} {v v' : Int32}
    (h1 : w_R xs Ln j (0, lv_args 0 (.ref 1 :: as), [], (I, J, kR w rem, Z), 0, 0) (fun o s => o = .inl (some (.int v)) ∧ s = (I, J, kR w rem, Z)))
    (h2 : w_R xs Ln j' (0, lv_args 0 (.ref 199 :: as), [], (I, J, kR w rem, Z), 0, 0) (fun o s => o = .inl (some (.int v')) ∧ s = (s_up I 199 59 0, J, kR w rem, Z)))
    (hv : v' = v) (hP : g_P w rem p q) (hV : g_V m n p I J Z I J Z) :
    ∃ (v : Int32) (σ1 σ2 : s_S), w_R xs Ln j (0, lv_args 0 (.ref 1 :: as), [], (I, J, kR w rem, Z), 0, 0) (fun o s => o = .inl (some (.int v)) ∧ s = σ1) ∧ w_R xs Ln j' (0, lv_args 0 (.ref 199 :: as), [], σ1, 0, 0) (fun o s => o = .inl (some (.int v)) ∧ s = σ2) ∧ g_Rel (m + 1) σ2 :=
  lw_fin h1 h2 hv hP (hV.thr 0).mono (fun _ _ h => s_upa (by omega)) (fun _ _ _ => rfl) (fun _ _ _ => rfl)
