/-! Setters: both sides change the same thing. -/
theorem g_V.dist {m n : Nat} {p : Nat → Nat} {I : Nat → Nat → Int32} {J : Nat → Nat → Int64} {Z : Nat → Nat → Bool} {I' : Nat → Nat → Int32} {J' : Nat → Nat → Int64} {Z' : Nat → Nat → Bool} (h : g_V m n p I J Z I' J' Z') {k : Nat} {v : Int32} (hk : k < 12) (hv : l_in v 4 = true) : g_V m n p (s_up I 3 k v) J Z (s_up I' 201 k v) J' Z' := by
  refine ⟨⟨?_, ?_, ?_, ?_, ?_, ?_, ?_, ?_, ?_, ?_, ?_, ?_, ?_, ?_, ?_, ?_, ?_⟩, h.n, ?_, ?_, h.pl, ?_⟩
  · intro j hj
    by_cases e : j = k
    · subst e; simp (disch := omega) only [s_upe]; exact ⟨trivial, hv⟩
    · simp (disch := omega) only [s_upf, s_upk]; exact h.R.dist j hj
  · intro j hj; (try simp (disch := omega) only [s_upf, s_upk]); exact h.R.road j hj
  · (try simp (disch := omega) only [s_upf, s_upk]); exact h.R.roads 
  · intro j hj; (try simp (disch := omega) only [s_upf, s_upk]); exact h.R.card j hj
  · intro j hj; (try simp (disch := omega) only [s_upf, s_upk]); exact h.R.unit j hj
  · intro j hj; (try simp (disch := omega) only [s_upf, s_upk]); exact h.R.room j hj
  · (try simp (disch := omega) only [s_upf, s_upk]); exact h.R.spd 
  · intro r d hr hd; (try simp (disch := omega) only [s_upf, s_upk]); exact h.R.grant r d hr hd
  · intro r c hr hc; (try simp (disch := omega) only [s_upf, s_upk]); exact h.R.sure r c hr hc
  · intro c hc; (try simp (disch := omega) only [s_upf, s_upk]); exact h.R.sure2 c hc
  · intro r c hr hc; unfold g_rec; (try simp (disch := omega) only [s_upf, s_upk]); exact h.R.recs r c hr hc
  · intro c hc; unfold g_rec; (try simp (disch := omega) only [s_upf, s_upk]); exact h.R.rrecs c hc
  · intro q hq; (try simp (disch := omega) only [s_upf, s_upk]); exact h.R.recin q hq
  · intro q c hq hc hz; unfold g_tk; simp (disch := omega) only [s_upf, s_upk] at hz ⊢; exact h.R.taken q c hq hc hz
  · (try simp (disch := omega) only [s_upf, s_upk]); exact h.R.ref 
  · intro d hd; (try simp (disch := omega) only [s_upf, s_upk]); exact h.R.refd d hd
  · intro r u hr hu; (try simp (disch := omega) only [s_upf, s_upk]); exact h.R.sight r u hr hu
  · (try simp (disch := omega) only [s_upf, s_upk]); exact h.c1
  · (try simp (disch := omega) only [s_upf, s_upk]); exact h.c2
  · intro i hi; have hp := h.pl i (by have := h.n; omega); have hl := h.lets i hi; unfold g_let g_lrec g_tk at hl ⊢
    try simp (disch := omega) only [s_upf, s_upk]
    exact hl
theorem g_V.spd {m n : Nat} {p : Nat → Nat} {I : Nat → Nat → Int32} {J : Nat → Nat → Int64} {Z : Nat → Nat → Bool} {I' : Nat → Nat → Int32} {J' : Nat → Nat → Int64} {Z' : Nat → Nat → Bool} (h : g_V m n p I J Z I' J' Z') {r0 : Nat} {v : Int32} (hr0 : r0 < 2) : g_V m n p (s_up I (141 + 29 * r0) 1 v) J Z (s_up I' 216 r0 v) J' Z' := by
  refine ⟨⟨?_, ?_, ?_, ?_, ?_, ?_, ?_, ?_, ?_, ?_, ?_, ?_, ?_, ?_, ?_, ?_, ?_⟩, h.n, ?_, ?_, h.pl, ?_⟩
  · intro j hj; (try simp (disch := omega) only [s_upf, s_upk]); exact h.R.dist j hj
  · intro j hj; (try simp (disch := omega) only [s_upf, s_upk]); exact h.R.road j hj
  · (try simp (disch := omega) only [s_upf, s_upk]); exact h.R.roads 
  · intro j hj; (try simp (disch := omega) only [s_upf, s_upk]); exact h.R.card j hj
  · intro j hj; (try simp (disch := omega) only [s_upf, s_upk]); exact h.R.unit j hj
  · intro j hj
    by_cases e : j = r0
    · subst e; obtain ⟨a0, a1, a2, a3, a4⟩ := h.R.room j hj; simp (disch := omega) only [s_upe, s_upf, s_upk]; exact ⟨a0, trivial, a2, a3, a4⟩
    · simp (disch := omega) only [s_upf, s_upk]; exact h.R.room j hj
  · (try simp (disch := omega) only [s_upf, s_upk]); exact h.R.spd 
  · intro r d hr hd; (try simp (disch := omega) only [s_upf, s_upk]); exact h.R.grant r d hr hd
  · intro r c hr hc; (try simp (disch := omega) only [s_upf, s_upk]); exact h.R.sure r c hr hc
  · intro c hc; (try simp (disch := omega) only [s_upf, s_upk]); exact h.R.sure2 c hc
  · intro r c hr hc; unfold g_rec; (try simp (disch := omega) only [s_upf, s_upk]); exact h.R.recs r c hr hc
  · intro c hc; unfold g_rec; (try simp (disch := omega) only [s_upf, s_upk]); exact h.R.rrecs c hc
  · intro q hq; (try simp (disch := omega) only [s_upf, s_upk]); exact h.R.recin q hq
  · intro q c hq hc hz; unfold g_tk; simp (disch := omega) only [s_upf, s_upk] at hz ⊢; exact h.R.taken q c hq hc hz
  · (try simp (disch := omega) only [s_upf, s_upk]); exact h.R.ref 
  · intro d hd; (try simp (disch := omega) only [s_upf, s_upk]); exact h.R.refd d hd
  · intro r u hr hu; (try simp (disch := omega) only [s_upf, s_upk]); exact h.R.sight r u hr hu
  · (try simp (disch := omega) only [s_upf, s_upk]); exact h.c1
  · (try simp (disch := omega) only [s_upf, s_upk]); exact h.c2
  · intro i hi; have hp := h.pl i (by have := h.n; omega); have hl := h.lets i hi; unfold g_let g_lrec g_tk at hl ⊢
    try simp (disch := omega) only [s_upf, s_upk]
    exact hl
theorem g_V.unit {m n : Nat} {p : Nat → Nat} {I : Nat → Nat → Int32} {J : Nat → Nat → Int64} {Z : Nat → Nat → Bool} {I' : Nat → Nat → Int32} {J' : Nat → Nat → Int64} {Z' : Nat → Nat → Bool} (h : g_V m n p I J Z I' J' Z') {A : Nat → Nat → Int32} {A' : Nat → Nat → Int32} {u0 : Nat} (hu0 : u0 < 6) (ea : ∀ a k, a ≠ 135 + u0 → A a k = I a k) (ea' : ∀ a k, k ≠ u0 ∨ a < 208 ∨ 214 < a → A' a k = I' a k) (hg : A (135 + u0) 0 = A' 210 u0 ∧ A (135 + u0) 1 = A' 208 u0 ∧ A (135 + u0) 2 = A' 209 u0 ∧ A (135 + u0) 3 = A' 213 u0 ∧ A (135 + u0) 4 = A' 211 u0 ∧ A (135 + u0) 5 = A' 212 u0 ∧ A (135 + u0) 6 = A' 214 u0 ∧ l_in (A' 210 u0) 4 = true ∧ l_in (A' 208 u0) 12 = true ∧ l_in (A' 212 u0) 12 = true) : g_V m n p A J Z A' J' Z' := by
  have e5 : A 5 = I 5 := funext fun k => ea 5 k (by omega)
  refine ⟨⟨?_, ?_, ?_, ?_, ?_, ?_, ?_, ?_, ?_, ?_, ?_, ?_, ?_, ?_, ?_, ?_, ?_⟩, h.n, ?_, ?_, h.pl, ?_⟩
  · intro j hj; (try simp (disch := omega) only [ea, ea', e5]); exact h.R.dist j hj
  · intro j hj; (try simp (disch := omega) only [ea, ea', e5]); exact h.R.road j hj
  · (try simp (disch := omega) only [ea, ea', e5]); exact h.R.roads 
  · intro j hj; (try simp (disch := omega) only [ea, ea', e5]); exact h.R.card j hj
  · intro j hj
    by_cases e : j = u0
    · subst e; exact hg
    · simp (disch := omega) only [ea, ea']; exact h.R.unit j hj
  · intro j hj; (try simp (disch := omega) only [ea, ea', e5]); exact h.R.room j hj
  · (try simp (disch := omega) only [ea, ea', e5]); exact h.R.spd 
  · intro r d hr hd; (try simp (disch := omega) only [ea, ea', e5]); exact h.R.grant r d hr hd
  · intro r c hr hc; (try simp (disch := omega) only [ea, ea', e5]); exact h.R.sure r c hr hc
  · intro c hc; (try simp (disch := omega) only [ea, ea', e5]); exact h.R.sure2 c hc
  · intro r c hr hc; unfold g_rec; (try simp (disch := omega) only [ea, ea', e5]); exact h.R.recs r c hr hc
  · intro c hc; unfold g_rec; (try simp (disch := omega) only [ea, ea', e5]); exact h.R.rrecs c hc
  · intro q hq; (try simp (disch := omega) only [ea, ea', e5]); exact h.R.recin q hq
  · intro q c hq hc hz; unfold g_tk; simp (disch := omega) only [ea, ea', e5] at hz ⊢; exact h.R.taken q c hq hc hz
  · (try simp (disch := omega) only [ea, ea', e5]); exact h.R.ref 
  · intro d hd; (try simp (disch := omega) only [ea, ea', e5]); exact h.R.refd d hd
  · intro r u hr hu; (try simp (disch := omega) only [ea, ea', e5]); exact h.R.sight r u hr hu
  · (try simp (disch := omega) only [ea, ea', e5]); exact h.c1
  · (try simp (disch := omega) only [ea, ea', e5]); exact h.c2
  · intro i hi; have hp := h.pl i (by have := h.n; omega); have hl := h.lets i hi; unfold g_let g_lrec g_tk at hl ⊢
    try simp (disch := omega) only [ea, ea', e5]
    exact hl
theorem g_V.leaf {m n : Nat} {p : Nat → Nat} {I : Nat → Nat → Int32} {J : Nat → Nat → Int64} {Z : Nat → Nat → Bool} {I' : Nat → Nat → Int32} {J' : Nat → Nat → Int64} {Z' : Nat → Nat → Bool} (h : g_V m n p I J Z I' J' Z') {k : Nat} {v x y : Int32} (hk : k < 16) (hv : l_in v 6 = true) (h0 : ¬ v = 0) : g_V m n p (s_up I 9 k v) J Z (s_up (s_up (s_up I' 203 k v) 204 k x) 205 k y) J' Z' := by
  refine ⟨⟨?_, ?_, ?_, ?_, ?_, ?_, ?_, ?_, ?_, ?_, ?_, ?_, ?_, ?_, ?_, ?_, ?_⟩, h.n, ?_, ?_, h.pl, ?_⟩
  · intro j hj; (try simp (disch := omega) only [s_upf, s_upk]); exact h.R.dist j hj
  · intro j hj; (try simp (disch := omega) only [s_upf, s_upk]); exact h.R.road j hj
  · (try simp (disch := omega) only [s_upf, s_upk]); exact h.R.roads 
  · intro j hj
    by_cases e : j = k
    · subst e; obtain ⟨a0, a1, a2, a3, a4⟩ := h.R.card j hj; simp (disch := omega) only [s_upe, s_upf, s_upk]; exact ⟨trivial, hv, fun e => absurd e h0, a3, a4⟩
    · simp (disch := omega) only [s_upf, s_upk]; exact h.R.card j hj
  · intro j hj; (try simp (disch := omega) only [s_upf, s_upk]); exact h.R.unit j hj
  · intro j hj; (try simp (disch := omega) only [s_upf, s_upk]); exact h.R.room j hj
  · (try simp (disch := omega) only [s_upf, s_upk]); exact h.R.spd 
  · intro r d hr hd; (try simp (disch := omega) only [s_upf, s_upk]); exact h.R.grant r d hr hd
  · intro r c hr hc; (try simp (disch := omega) only [s_upf, s_upk]); exact h.R.sure r c hr hc
  · intro c hc; (try simp (disch := omega) only [s_upf, s_upk]); exact h.R.sure2 c hc
  · intro r c hr hc; unfold g_rec; (try simp (disch := omega) only [s_upf, s_upk]); exact h.R.recs r c hr hc
  · intro c hc; unfold g_rec; (try simp (disch := omega) only [s_upf, s_upk]); exact h.R.rrecs c hc
  · intro q hq; (try simp (disch := omega) only [s_upf, s_upk]); exact h.R.recin q hq
  · intro q c hq hc hz; unfold g_tk; simp (disch := omega) only [s_upf, s_upk] at hz ⊢; exact h.R.taken q c hq hc hz
  · (try simp (disch := omega) only [s_upf, s_upk]); exact h.R.ref 
  · intro d hd; (try simp (disch := omega) only [s_upf, s_upk]); exact h.R.refd d hd
  · intro r u hr hu; (try simp (disch := omega) only [s_upf, s_upk]); exact h.R.sight r u hr hu
  · (try simp (disch := omega) only [s_upf, s_upk]); exact h.c1
  · (try simp (disch := omega) only [s_upf, s_upk]); exact h.c2
  · intro i hi; have hp := h.pl i (by have := h.n; omega); have hl := h.lets i hi; unfold g_let g_lrec g_tk at hl ⊢
    try simp (disch := omega) only [s_upf, s_upk]
    exact hl
theorem g_V.ques {m n : Nat} {p : Nat → Nat} {I : Nat → Nat → Int32} {J : Nat → Nat → Int64} {Z : Nat → Nat → Bool} {I' : Nat → Nat → Int32} {J' : Nat → Nat → Int64} {Z' : Nat → Nat → Bool} (h : g_V m n p I J Z I' J' Z') {k : Nat} {x y : Int32} (hk : k < 16) (hx : l_in x 16 = true) (hy : l_in y 16 = true) : g_V m n p (s_up (s_up (s_up I 9 k 0) 7 k x) 8 k y) J Z (s_up (s_up (s_up I' 203 k 0) 204 k x) 205 k y) J' Z' := by
  refine ⟨⟨?_, ?_, ?_, ?_, ?_, ?_, ?_, ?_, ?_, ?_, ?_, ?_, ?_, ?_, ?_, ?_, ?_⟩, h.n, ?_, ?_, h.pl, ?_⟩
  · intro j hj; (try simp (disch := omega) only [s_upf, s_upk]); exact h.R.dist j hj
  · intro j hj; (try simp (disch := omega) only [s_upf, s_upk]); exact h.R.road j hj
  · (try simp (disch := omega) only [s_upf, s_upk]); exact h.R.roads 
  · intro j hj
    by_cases e : j = k
    · subst e; simp (disch := omega) only [s_upe, s_upf, s_upk]; exact ⟨trivial, by decide, fun _ => ⟨trivial, trivial⟩, hx, hy⟩
    · simp (disch := omega) only [s_upf, s_upk]; exact h.R.card j hj
  · intro j hj; (try simp (disch := omega) only [s_upf, s_upk]); exact h.R.unit j hj
  · intro j hj; (try simp (disch := omega) only [s_upf, s_upk]); exact h.R.room j hj
  · (try simp (disch := omega) only [s_upf, s_upk]); exact h.R.spd 
  · intro r d hr hd; (try simp (disch := omega) only [s_upf, s_upk]); exact h.R.grant r d hr hd
  · intro r c hr hc; (try simp (disch := omega) only [s_upf, s_upk]); exact h.R.sure r c hr hc
  · intro c hc; (try simp (disch := omega) only [s_upf, s_upk]); exact h.R.sure2 c hc
  · intro r c hr hc; unfold g_rec; (try simp (disch := omega) only [s_upf, s_upk]); exact h.R.recs r c hr hc
  · intro c hc; unfold g_rec; (try simp (disch := omega) only [s_upf, s_upk]); exact h.R.rrecs c hc
  · intro q hq; (try simp (disch := omega) only [s_upf, s_upk]); exact h.R.recin q hq
  · intro q c hq hc hz; unfold g_tk; simp (disch := omega) only [s_upf, s_upk] at hz ⊢; exact h.R.taken q c hq hc hz
  · (try simp (disch := omega) only [s_upf, s_upk]); exact h.R.ref 
  · intro d hd; (try simp (disch := omega) only [s_upf, s_upk]); exact h.R.refd d hd
  · intro r u hr hu; (try simp (disch := omega) only [s_upf, s_upk]); exact h.R.sight r u hr hu
  · (try simp (disch := omega) only [s_upf, s_upk]); exact h.c1
  · (try simp (disch := omega) only [s_upf, s_upk]); exact h.c2
  · intro i hi; have hp := h.pl i (by have := h.n; omega); have hl := h.lets i hi; unfold g_let g_lrec g_tk at hl ⊢
    try simp (disch := omega) only [s_upf, s_upk]
    exact hl
theorem g_V.way {m n : Nat} {p : Nat → Nat} {I : Nat → Nat → Int32} {J : Nat → Nat → Int64} {Z : Nat → Nat → Bool} {I' : Nat → Nat → Int32} {J' : Nat → Nat → Int64} {Z' : Nat → Nat → Bool} (h : g_V m n p I J Z I' J' Z') {A : Nat → Nat → Int32} {A' : Nat → Nat → Int32} {k0 N : Nat} (hk0 : k0 < 144) (ea : ∀ a k, ¬ (a = 2 ∧ k = 3) → ¬ (a = 5 ∧ k = k0) → A a k = I a k) (ea' : ∀ a k, ¬ (a = 199 ∧ k = 1) → ¬ (a = 200 ∧ k = k0) → A' a k = I' a k) (hg : A 5 k0 = A' 200 k0 ∧ l_in (A 5 k0) 1000 = true) (hc : A 2 3 = A' 199 1 ∧ A 2 3 = Int32.ofNat N ∧ N = g_c (A 5) 144 ∧ N ≤ 30) : g_V m n p A J Z A' J' Z' := by
  refine ⟨⟨?_, ?_, ?_, ?_, ?_, ?_, ?_, ?_, ?_, ?_, ?_, ?_, ?_, ?_, ?_, ?_, ?_⟩, h.n, ?_, ?_, h.pl, ?_⟩
  · intro j hj; (try simp (disch := omega) only [ea, ea']); exact h.R.dist j hj
  · intro j hj
    by_cases e : j = k0
    · subst e; exact hg
    · simp (disch := omega) only [ea, ea']; exact h.R.road j hj
  · obtain ⟨c1, c2, c3, c4⟩ := hc
    exact ⟨c1, c2.trans (congrArg Int32.ofNat c3), Nat.le_trans (Nat.le_of_eq c3.symm) c4⟩
  · intro j hj; (try simp (disch := omega) only [ea, ea']); exact h.R.card j hj
  · intro j hj; (try simp (disch := omega) only [ea, ea']); exact h.R.unit j hj
  · intro j hj; (try simp (disch := omega) only [ea, ea']); exact h.R.room j hj
  · (try simp (disch := omega) only [ea, ea']); exact h.R.spd 
  · intro r d hr hd; (try simp (disch := omega) only [ea, ea']); exact h.R.grant r d hr hd
  · intro r c hr hc; (try simp (disch := omega) only [ea, ea']); exact h.R.sure r c hr hc
  · intro c hc; (try simp (disch := omega) only [ea, ea']); exact h.R.sure2 c hc
  · intro r c hr hc; unfold g_rec; (try simp (disch := omega) only [ea, ea']); exact h.R.recs r c hr hc
  · intro c hc; unfold g_rec; (try simp (disch := omega) only [ea, ea']); exact h.R.rrecs c hc
  · intro q hq; (try simp (disch := omega) only [ea, ea']); exact h.R.recin q hq
  · intro q c hq hc hz; unfold g_tk; simp (disch := omega) only [ea, ea'] at hz ⊢; exact h.R.taken q c hq hc hz
  · (try simp (disch := omega) only [ea, ea']); exact h.R.ref 
  · intro d hd; (try simp (disch := omega) only [ea, ea']); exact h.R.refd d hd
  · intro r u hr hu; (try simp (disch := omega) only [ea, ea']); exact h.R.sight r u hr hu
  · (try simp (disch := omega) only [ea, ea']); exact h.c1
  · (try simp (disch := omega) only [ea, ea']); exact h.c2
  · intro i hi; have hp := h.pl i (by have := h.n; omega); have hl := h.lets i hi; unfold g_let g_lrec g_tk at hl ⊢
    try simp (disch := omega) only [ea, ea']
    exact hl
