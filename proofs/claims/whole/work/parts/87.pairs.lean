section Ops7
theorem g_V.grn {m n : Nat} {p : Nat → Nat} {I : Nat → Nat → Int32} {J : Nat → Nat → Int64} {Z : Nat → Nat → Bool} {I' : Nat → Nat → Int32} {J' : Nat → Nat → Int64} {Z' : Nat → Nat → Bool} (h : g_V m n p I J Z I' J' Z') {r0 d0 : Nat} {v : Int32} {x : Int64} (hr0 : r0 < 2) (hd0 : d0 < 4) (hv : l_in v (m + 1) = true) : g_V m n p (s_up (s_up I (147 + 29 * r0) d0 v) (142 + 29 * r0) d0 v) (s_up J (146 + 29 * r0) d0 x) Z (s_up (s_up I' 222 (4 * r0 + d0) v) 221 (4 * r0 + d0) v) (s_up J' 223 (4 * r0 + d0) x) Z' := by
  refine ⟨⟨?_, ?_, ?_, ?_, ?_, ?_, ?_, ?_, ?_, ?_, ?_, ?_, ?_, ?_, ?_, ?_, ?_⟩, h.n, ?_, ?_, h.pl, ?_⟩
  · intro j hj; (try simp (disch := omega) only [s_upf, s_upk]); exact h.R.dist j hj
  · intro j hj; (try simp (disch := omega) only [s_upf, s_upk]); exact h.R.road j hj
  · (try simp (disch := omega) only [s_upf, s_upk]); exact h.R.roads 
  · intro j hj; (try simp (disch := omega) only [s_upf, s_upk]); exact h.R.card j hj
  · intro j hj; (try simp (disch := omega) only [s_upf, s_upk]); exact h.R.unit j hj
  · intro j hj; (try simp (disch := omega) only [s_upf, s_upk]); exact h.R.room j hj
  · (try simp (disch := omega) only [s_upf, s_upk]); exact h.R.spd 
  · intro r d hr hd
    by_cases e : r = r0
    · subst e
      by_cases e2 : d = d0
      · subst e2; simp (disch := omega) only [s_upe, s_upf]; exact ⟨trivial, trivial, trivial, hv⟩
      · simp (disch := omega) only [s_upf, s_upk]; exact h.R.grant r d hr hd
    · simp (disch := omega) only [s_upf, s_upk]; exact h.R.grant r d hr hd
  · intro r c hr hc; (try simp (disch := omega) only [s_upf, s_upk]); exact h.R.sure r c hr hc
  · intro c hc; (try simp (disch := omega) only [s_upf, s_upk]); exact h.R.sure2 c hc
  · intro r c hr hc; unfold g_rec; (try simp (disch := omega) only [s_upf, s_upk]); exact h.R.recs r c hr hc
  · intro c hc; unfold g_rec; (try simp (disch := omega) only [s_upf, s_upk]); exact h.R.rrecs c hc
  · intro q hq; (try simp (disch := omega) only [s_upf, s_upk]); exact h.R.recin q hq
  · intro q c hq hc hz; unfold g_tk; (try simp (disch := omega) only [s_upf, s_upk] at hz ⊢); exact h.R.taken q c hq hc hz
  · (try simp (disch := omega) only [s_upf, s_upk]); exact h.R.ref 
  · intro d hd; (try simp (disch := omega) only [s_upf, s_upk]); exact h.R.refd d hd
  · intro r u hr hu; (try simp (disch := omega) only [s_upf, s_upk]); exact h.R.sight r u hr hu
  · (try simp (disch := omega) only [s_upf, s_upk]); exact h.c1
  · (try simp (disch := omega) only [s_upf, s_upk]); exact h.c2
  · intro i hi; have hp := h.pl i (by have := h.n; omega); have hl := h.lets i hi; unfold g_let g_lrec g_tk at hl ⊢
    try simp (disch := omega) only [s_upf, s_upk]
    exact hl
theorem g_V.sgt {m n : Nat} {p : Nat → Nat} {I : Nat → Nat → Int32} {J : Nat → Nat → Int64} {Z : Nat → Nat → Bool} {I' : Nat → Nat → Int32} {J' : Nat → Nat → Int64} {Z' : Nat → Nat → Bool} (h : g_V m n p I J Z I' J' Z') {A : Nat → Nat → Int32} {C : Nat → Nat → Bool} {A' : Nat → Nat → Int32} {C' : Nat → Nat → Bool} {r0 u0 : Nat} (hr0 : r0 < 2) (hu0 : u0 < 6) (ea : ∀ a k, a ≠ 164 + 29 * r0 + u0 → A a k = I a k) (ec : ∀ a k, a ≠ 164 + 29 * r0 + u0 → C a k = Z a k) (ea' : ∀ a k, a < 237 ∨ 240 < a ∨ k ≠ 6 * r0 + u0 → A' a k = I' a k) (ec' : ∀ a k, (a ≠ 236 ∧ a ≠ 241) ∨ k ≠ 6 * r0 + u0 → C' a k = Z' a k) (hg : C (164 + 29 * r0 + u0) 0 = C' 236 (6 * r0 + u0) ∧ (C (164 + 29 * r0 + u0) 0 = true → C (164 + 29 * r0 + u0) 1 = C' 241 (6 * r0 + u0)) ∧ A (164 + 29 * r0 + u0) 2 = A' 238 (6 * r0 + u0) ∧ A (164 + 29 * r0 + u0) 3 = A' 237 (6 * r0 + u0) ∧ A (164 + 29 * r0 + u0) 4 = A' 239 (6 * r0 + u0) ∧ A (164 + 29 * r0 + u0) 5 = A' 240 (6 * r0 + u0) ∧ l_in (A' 238 (6 * r0 + u0)) 12 = true ∧ l_in (A' 237 (6 * r0 + u0)) 4 = true) : g_V m n p A J C A' J' C' := by
  have e5 : A 5 = I 5 := funext fun k => ea 5 k (by omega)
  refine ⟨⟨?_, ?_, ?_, ?_, ?_, ?_, ?_, ?_, ?_, ?_, ?_, ?_, ?_, ?_, ?_, ?_, ?_⟩, h.n, ?_, ?_, h.pl, ?_⟩
  · intro j hj; (try simp (disch := omega) only [ea, ec, ea', ec', e5]); exact h.R.dist j hj
  · intro j hj; (try simp (disch := omega) only [ea, ec, ea', ec', e5]); exact h.R.road j hj
  · (try simp (disch := omega) only [ea, ec, ea', ec', e5]); exact h.R.roads 
  · intro j hj; (try simp (disch := omega) only [ea, ec, ea', ec', e5]); exact h.R.card j hj
  · intro j hj; (try simp (disch := omega) only [ea, ec, ea', ec', e5]); exact h.R.unit j hj
  · intro j hj; (try simp (disch := omega) only [ea, ec, ea', ec', e5]); exact h.R.room j hj
  · (try simp (disch := omega) only [ea, ec, ea', ec', e5]); exact h.R.spd 
  · intro r d hr hd; (try simp (disch := omega) only [ea, ec, ea', ec', e5]); exact h.R.grant r d hr hd
  · intro r c hr hc; (try simp (disch := omega) only [ea, ec, ea', ec', e5]); exact h.R.sure r c hr hc
  · intro c hc; (try simp (disch := omega) only [ea, ec, ea', ec', e5]); exact h.R.sure2 c hc
  · intro r c hr hc; unfold g_rec; (try simp (disch := omega) only [ea, ec, ea', ec', e5]); exact h.R.recs r c hr hc
  · intro c hc; unfold g_rec; (try simp (disch := omega) only [ea, ec, ea', ec', e5]); exact h.R.rrecs c hc
  · intro q hq; (try simp (disch := omega) only [ea, ec, ea', ec', e5]); exact h.R.recin q hq
  · intro q c hq hc hz; unfold g_tk; (try simp (disch := omega) only [ea, ec, ea', ec', e5] at hz ⊢); exact h.R.taken q c hq hc hz
  · (try simp (disch := omega) only [ea, ec, ea', ec', e5]); exact h.R.ref 
  · intro d hd; (try simp (disch := omega) only [ea, ec, ea', ec', e5]); exact h.R.refd d hd
  · intro r u hr hu
    by_cases e : r = r0 ∧ u = u0
    · obtain ⟨rfl, rfl⟩ := e; exact hg
    · simp (disch := omega) only [ea, ec, ea', ec']; exact h.R.sight r u hr hu
  · (try simp (disch := omega) only [ea, ec, ea', ec', e5]); exact h.c1
  · (try simp (disch := omega) only [ea, ec, ea', ec', e5]); exact h.c2
  · intro i hi; have hp := h.pl i (by have := h.n; omega); have hl := h.lets i hi; unfold g_let g_lrec g_tk at hl ⊢
    try simp (disch := omega) only [ea, ec, ea', ec', e5]
    exact hl
theorem g_V.su2 {m n : Nat} {p : Nat → Nat} {I : Nat → Nat → Int32} {J : Nat → Nat → Int64} {Z : Nat → Nat → Bool} {I' : Nat → Nat → Int32} {J' : Nat → Nat → Int64} {Z' : Nat → Nat → Bool} (h : g_V m n p I J Z I' J' Z') {c0 : Nat} (hc0 : c0 < 16) : g_V m n p I J Z I' J' (s_up Z' 235 (32 + c0) false) := by
  refine ⟨⟨?_, ?_, ?_, ?_, ?_, ?_, ?_, ?_, ?_, ?_, ?_, ?_, ?_, ?_, ?_, ?_, ?_⟩, h.n, ?_, ?_, h.pl, ?_⟩
  · intro j hj; (try simp (disch := omega) only [s_upf, s_upk]); exact h.R.dist j hj
  · intro j hj; (try simp (disch := omega) only [s_upf, s_upk]); exact h.R.road j hj
  · (try simp (disch := omega) only [s_upf, s_upk]); exact h.R.roads 
  · intro j hj; (try simp (disch := omega) only [s_upf, s_upk]); exact h.R.card j hj
  · intro j hj; (try simp (disch := omega) only [s_upf, s_upk]); exact h.R.unit j hj
  · intro j hj; (try simp (disch := omega) only [s_upf, s_upk]); exact h.R.room j hj
  · (try simp (disch := omega) only [s_upf, s_upk]); exact h.R.spd 
  · intro r d hr hd; (try simp (disch := omega) only [s_upf, s_upk]); exact h.R.grant r d hr hd
  · intro r c hr hc
    rw [s_upk (by omega)]; exact h.R.sure r c hr hc
  · intro c hc
    by_cases e : c = c0
    · subst e; exact s_upe _ _ _ _
    · rw [s_upk (by omega)]; exact h.R.sure2 c hc
  · intro r c hr hc; unfold g_rec; (try simp (disch := omega) only [s_upf, s_upk]); exact h.R.recs r c hr hc
  · intro c hc; unfold g_rec; (try simp (disch := omega) only [s_upf, s_upk]); exact h.R.rrecs c hc
  · intro q hq; (try simp (disch := omega) only [s_upf, s_upk]); exact h.R.recin q hq
  · intro q c hq hc hz; unfold g_tk; (try simp (disch := omega) only [s_upf, s_upk] at hz ⊢); exact h.R.taken q c hq hc hz
  · (try simp (disch := omega) only [s_upf, s_upk]); exact h.R.ref 
  · intro d hd; (try simp (disch := omega) only [s_upf, s_upk]); exact h.R.refd d hd
  · intro r u hr hu; (try simp (disch := omega) only [s_upf, s_upk]); exact h.R.sight r u hr hu
  · (try simp (disch := omega) only [s_upf, s_upk]); exact h.c1
  · (try simp (disch := omega) only [s_upf, s_upk]); exact h.c2
  · intro i hi; have hp := h.pl i (by have := h.n; omega); have hl := h.lets i hi; unfold g_let g_lrec g_tk at hl ⊢
    try simp (disch := omega) only [s_upf, s_upk]
    exact hl
theorem g_pgrant {m n : Nat} {p : Nat → Nat} {I : Nat → Nat → Int32} {J : Nat → Nat → Int64} {Z : Nat → Nat → Bool} {I' : Nat → Nat → Int32} {J' : Nat → Nat → Int64} {Z' : Nat → Nat → Bool} (h : g_V m n p I J Z I' J' Z') {b r d : Nat} (hr : r < 2) (hd : d < 4) (h4 : I (35 + 2 * b) 4 = I' 246 48) (hm : l_in (I' 246 48) (m + 1) = true) (h6 : J (35 + 2 * b) 6 = J' 255 48) : g_V m n p (i_95 I J Z r b d) (j_95 I J Z r b d) Z (i_124 I' J' Z' r d) (j_124 I' J' Z' r d) Z' := by
  obtain ⟨b0, b1, b2, b3⟩ := h.R.grant r d hr hd
  unfold i_95 j_95 i_124 j_124
  rw [b2, h4, h6]
  split
  · exact h.grn hr hd hm
  · exact h
theorem g_preport {m n : Nat} {p : Nat → Nat} {I : Nat → Nat → Int32} {J : Nat → Nat → Int64} {Z : Nat → Nat → Bool} {I' : Nat → Nat → Int32} {J' : Nat → Nat → Int64} {Z' : Nat → Nat → Bool} (h : g_V m n p I J Z I' J' Z') {b r u : Nat} (hr : r < 2) (hu : u < 6) (h4 : I (35 + 2 * b) 4 = I' 246 48) (h8 : I (35 + 2 * b) 8 = I' 252 48) (h7 : I (35 + 2 * b) 7 = I' 248 48) (h9 : I (35 + 2 * b) 9 = I' 253 48) (l8 : l_in (I' 252 48) 4 = true) (l7 : l_in (I' 248 48) 12 = true) : g_V m n p (i_99 I J Z r u b) J (z_99 I J Z r u b) (i_127 I' J' Z' r u) J' (z_127 I' J' Z' r u) := by
  obtain ⟨a0, a1, a2, a3, a4, a5, a6, a7⟩ := h.R.sight r u hr hu
  have key : g_V m n p (s_up (s_up (s_up (s_up I (164 + 29 * r + u) 5 (I' 246 48)) (164 + 29 * r + u) 3 (I' 252 48)) (164 + 29 * r + u) 2 (I' 248 48)) (164 + 29 * r + u) 4 (I' 253 48)) J (s_up (s_up Z (164 + 29 * r + u) 0 true) (164 + 29 * r + u) 1 false) (s_up (s_up (s_up (s_up I' 240 (6 * r + u) (I' 246 48)) 237 (6 * r + u) (I' 252 48)) 238 (6 * r + u) (I' 248 48)) 239 (6 * r + u) (I' 253 48)) J' (s_up (s_up Z' 236 (6 * r + u) true) 241 (6 * r + u) false) := by
    refine h.sgt hr hu (fun a k h => by simp (disch := omega) only [s_upf]) (fun a k h => by simp (disch := omega) only [s_upf]) (fun a k h => by rcases h with h | h | h <;> simp (disch := omega) only [s_upf, s_upk]) (fun a k h => by rcases h with h | h <;> simp (disch := omega) only [s_upf, s_upk]) ?_
    simp (disch := omega) only [s_upe, s_upf, s_upk]
    exact ⟨trivial, fun _ => trivial, trivial, trivial, trivial, trivial, l7, l8⟩
  unfold i_99 z_99 i_127 z_127
  rw [a0, a5, h4, h7, h8, h9]
  by_cases c0 : Z' 236 (6 * r + u) = true
  · simp only [if_pos c0]
    by_cases c1 : I' 240 (6 * r + u) < I' 246 48
    · simp only [if_pos c1]; exact key
    · simp only [if_neg c1]; exact h
  · simp only [if_neg c0]; exact key
theorem g_preceipt {m n : Nat} {p : Nat → Nat} {I : Nat → Nat → Int32} {J : Nat → Nat → Int64} {Z : Nat → Nat → Bool} {I' : Nat → Nat → Int32} {J' : Nat → Nat → Int64} {Z' : Nat → Nat → Bool} (h : g_V m n p I J Z I' J' Z') {b r e : Nat} (hr : r < 2) (he : e < 16) (h4 : I (35 + 2 * b) 4 = I' 246 48) (h5 : I (35 + 2 * b) 5 = I' 247 48) : g_V m n p I J (z_97 I J Z r b e) I' J' (z_125 I' J' Z' r e) := by
  obtain ⟨z0, e1, e2, e3, e4, e5, e6, e7, e8, e9⟩ := h.R.recs r e hr he
  unfold z_97 z_125 v_62
  rw [z0, e8, e9, h4, h5]
  by_cases c0 : Z' 225 (16 * r + e) = true
  · simp only [if_pos c0]
    by_cases c1 : I' 233 (16 * r + e) = I' 246 48
    · simp only [if_pos c1]
      by_cases c2 : I' 234 (16 * r + e) = I' 247 48
      · simp only [if_pos c2, if_pos]; exact h.sur hr he
      · simp only [if_neg c2, if_neg (show ¬ false = true by decide)]; exact h
    · simp only [if_neg c1, if_neg (show ¬ false = true by decide)]; exact h
  · simp only [if_neg c0, if_neg (show ¬ false = true by decide)]; exact h
theorem g_porder {m n : Nat} {p : Nat → Nat} {I : Nat → Nat → Int32} {J : Nat → Nat → Int64} {Z : Nat → Nat → Bool} {I' : Nat → Nat → Int32} {J' : Nat → Nat → Int64} {Z' : Nat → Nat → Bool} (h : g_V m n p I J Z I' J' Z') (inj : ∀ k k', k < 49 → k' < 49 → p k = p k' → k = k') {b u : Nat} (hu : u < 6) (h3 : I (35 + 2 * b) 3 = I' 245 48) (h4 : I (35 + 2 * b) 4 = I' 246 48) (h7 : I (35 + 2 * b) 7 = I' 248 48) (l7 : l_in (I' 248 48) 12 = true) : g_V m (g_s (g_s n)) p (i_48 (i_57 I J Z u b) J Z u n p) J Z (i_126 I' J' Z' u n) J' Z' := by
  obtain ⟨e0, e1, e2, e3, e4, e5, e6, f0, f1, f2⟩ := h.R.unit u hu
  unfold i_57 i_126
  rw [e0, e6, h3, h4, h7]
  by_cases c0 : I' 210 u = 0
  · simp only [if_pos c0]
    by_cases c1 : I' 246 48 < I' 214 u
    · simp only [if_pos c1]; exact g_reports h inj hu
    · simp only [if_neg c1]
      refine g_reports (h.unit hu (fun a k h => by simp (disch := omega) only [s_upf]) (fun a k h => by rcases h with h | h | h <;> simp (disch := omega) only [s_upf, s_upk]) ?_) inj hu
      simp (disch := omega) only [s_upe, s_upf, s_upk]
      exact ⟨trivial, e1, e2, e3, trivial, trivial, trivial, by decide, f1, l7⟩
  · simp only [if_neg c0]; exact g_reports h inj hu
theorem g_pcopy {m n : Nat} {p : Nat → Nat} {I : Nat → Nat → Int32} {J : Nat → Nat → Int64} {Z : Nat → Nat → Bool} {I' : Nat → Nat → Int32} {J' : Nat → Nat → Int64} {Z' : Nat → Nat → Bool} (h : g_V m n p I J Z I' J' Z') {b r e : Nat} (hr : r < 2) (he : e < 16) (hb : b < 50) (htk : g_tk I' (Int32.ofNat e)) (g0 : Z (36 + 2 * b) 0 = true) (g1 : I (36 + 2 * b) 1 = I' 248 48) (g2 : I (36 + 2 * b) 2 = I' 249 48) (g3 : I (36 + 2 * b) 3 = I' 250 48) (g4 : I (36 + 2 * b) 4 = I' 251 48) (g5 : I (36 + 2 * b) 5 = I' 252 48) (g6 : I (36 + 2 * b) 6 = I' 253 48) (g7 : I (36 + 2 * b) 7 = I' 254 48) (g8 : I (36 + 2 * b) 8 = I' 246 48) (g9 : I (36 + 2 * b) 9 = I' 247 48) (l1 : l_in (I' 248 48) 12 = true) (l3 : l_in (I' 250 48) 16 = true) :
    g_V m n p (i_96 I J Z r b e) J (z_96 I J Z r b e) (i_119 I' J' Z' r e) J' (z_119 I' J' Z' r e) := by
  obtain ⟨z0, e1, e2, e3, e4, e5, e6, e7, e8, e9⟩ := h.R.recs r e hr he
  have key : g_V m n p (i_64 I J Z (148 + 29 * r + e) (36 + 2 * b)) J (s_up (z_64 I J Z (148 + 29 * r + e) (36 + 2 * b)) (144 + 29 * r) e false) (s_up (s_up (s_up (s_up (s_up (s_up (s_up (s_up (s_up I' 226 (16 * r + e) (I' 248 48)) 227 (16 * r + e) (I' 249 48)) 228 (16 * r + e) (I' 250 48)) 229 (16 * r + e) (I' 251 48)) 230 (16 * r + e) (I' 252 48)) 231 (16 * r + e) (I' 253 48)) 232 (16 * r + e) (I' 254 48)) 233 (16 * r + e) (I' 246 48)) 234 (16 * r + e) (I' 247 48)) J' (s_up (s_up Z' 225 (16 * r + e) true) 235 (16 * r + e) false) := by
    refine g_V.sur (g_V.rec h hr he (fun a k h => by unfold i_64; simp (disch := omega) only [s_upf]) (fun a k h => by unfold z_64; exact s_upa h) (fun a k h => by rcases h with h | h | h <;> simp (disch := omega) only [s_upf, s_upk]) (fun a k h => by rcases h with h | h <;> simp (disch := omega) only [s_upf, s_upk]) ?_ ?_ (fun _ => htk)) hr he
    · unfold g_rec i_64 z_64
      simp (disch := omega) only [s_upe, s_upf, s_upk]
      exact ⟨g0, g1, g2, g3, g4, g5, g6, g7, g8, g9⟩
    · simp (disch := omega) only [s_upe, s_upf]
      exact ⟨l1, l3, fun e => absurd e (by decide)⟩
  have tf : ¬ false = true := by decide
  unfold i_96 z_96 i_63 z_63 v_63 i_119 z_119
  rw [z0, e8, e9, g8, g9]
  by_cases c0 : Z' 225 (16 * r + e) = true
  · simp only [if_pos c0]
    by_cases c1 : I' 233 (16 * r + e) < I' 246 48
    · simp only [if_pos c1, if_pos]; exact key
    · simp only [if_neg c1]
      by_cases c2 : I' 246 48 = I' 233 (16 * r + e)
      · simp only [if_pos c2]
        by_cases c3 : I' 234 (16 * r + e) < I' 247 48
        · simp only [if_pos c3, if_pos]; exact key
        · simp only [if_neg c3, if_neg tf]; exact h
      · simp only [if_neg c2, if_neg tf]; exact h
  · simp only [if_neg c0, if_pos]; exact key
theorem g_pstore {m n : Nat} {p : Nat → Nat} {I : Nat → Nat → Int32} {J : Nat → Nat → Int64} {Z : Nat → Nat → Bool} {I' : Nat → Nat → Int32} {J' : Nat → Nat → Int64} {Z' : Nat → Nat → Bool} (h : g_V m n p I J Z I' J' Z') {b e : Nat} (he : e < 16) (hb : b < 50) (htk : g_tk I' (Int32.ofNat e)) (g0 : Z (36 + 2 * b) 0 = true) (g1 : I (36 + 2 * b) 1 = I' 248 48) (g2 : I (36 + 2 * b) 2 = I' 249 48) (g3 : I (36 + 2 * b) 3 = I' 250 48) (g4 : I (36 + 2 * b) 4 = I' 251 48) (g5 : I (36 + 2 * b) 5 = I' 252 48) (g6 : I (36 + 2 * b) 6 = I' 253 48) (g7 : I (36 + 2 * b) 7 = I' 254 48) (g8 : I (36 + 2 * b) 8 = I' 246 48) (g9 : I (36 + 2 * b) 9 = I' 247 48) (l1 : l_in (I' 248 48) 12 = true) (l3 : l_in (I' 250 48) 16 = true) :
    g_V m n p (i_63 I J Z (17 + e) (36 + 2 * b)) J (z_63 I J Z (17 + e) (36 + 2 * b)) (i_119 I' J' Z' 2 e) J' (z_119 I' J' Z' 2 e) := by
  obtain ⟨z0, e1, e2, e3, e4, e5, e6, e7, e8, e9⟩ := h.R.rrecs e he
  have key : g_V m n p (i_64 I J Z (17 + e) (36 + 2 * b)) J (z_64 I J Z (17 + e) (36 + 2 * b)) (s_up (s_up (s_up (s_up (s_up (s_up (s_up (s_up (s_up I' 226 (32 + e) (I' 248 48)) 227 (32 + e) (I' 249 48)) 228 (32 + e) (I' 250 48)) 229 (32 + e) (I' 251 48)) 230 (32 + e) (I' 252 48)) 231 (32 + e) (I' 253 48)) 232 (32 + e) (I' 254 48)) 233 (32 + e) (I' 246 48)) 234 (32 + e) (I' 247 48)) J' (s_up (s_up Z' 225 (32 + e) true) 235 (32 + e) false) := by
    refine g_V.su2 (g_V.rrec h he (fun a k h => by unfold i_64; simp (disch := omega) only [s_upf]) (fun a k h => by unfold z_64; exact s_upa h) (fun a k h => by rcases h with h | h | h <;> simp (disch := omega) only [s_upf, s_upk]) (fun a k h => by rcases h with h | h <;> simp (disch := omega) only [s_upf, s_upk]) ?_ ?_ (fun _ => htk)) he
    · unfold g_rec i_64 z_64
      simp (disch := omega) only [s_upe, s_upf, s_upk]
      exact ⟨g0, g1, g2, g3, g4, g5, g6, g7, g8, g9⟩
    · simp (disch := omega) only [s_upe, s_upf]
      exact ⟨l1, l3, fun e => absurd e (by decide)⟩
  unfold i_63 z_63 i_119 z_119
  rw [show 16 * 2 + e = 32 + e by omega, z0, e8, e9, g8, g9]
  by_cases c0 : Z' 225 (32 + e) = true
  · simp only [if_pos c0]
    by_cases c1 : I' 233 (32 + e) < I' 246 48
    · simp only [if_pos c1]; exact key
    · simp only [if_neg c1]
      by_cases c2 : I' 246 48 = I' 233 (32 + e)
      · simp only [if_pos c2]
        by_cases c3 : I' 234 (32 + e) < I' 247 48
        · simp only [if_pos c3]; exact key
        · simp only [if_neg c3]; exact h
      · simp only [if_neg c2]; exact h
  · simp only [if_neg c0]; exact key
theorem g_rcpt {m n : Nat} {p : Nat → Nat} {I : Nat → Nat → Int32} {J : Nat → Nat → Int64} {Z : Nat → Nat → Bool} {I' : Nat → Nat → Int32} {J' : Nat → Nat → Int64} {Z' : Nat → Nat → Bool} (h : g_V m n p I J Z I' J' Z') (hne : ∀ i, i < n → p i ≠ p n) {b : Nat} {f : Int32} (hb : b < 50) (hbn : p n ≠ b) (hn48 : n ≠ 48) (h1 : I (35 + 2 * b) 1 = I' 243 48) (h3 : I (35 + 2 * b) 3 = I' 245 48) (h8 : I (36 + 2 * b) 8 = I' 246 48) (h9 : I (36 + 2 * b) 9 = I' 247 48) (l1 : l_in (I' 243 48) 2 = true) (l3 : l_in (I' 245 48) 16 = true) : g_V m (g_s n) p (i_46 I J Z f b n p) J Z (i_120 I' J' Z' f n) J' Z' := by
  have hpn := h.pl n (by have := h.n; omega)
  have e36 : 35 + 2 * p n + 1 = 36 + 2 * p n := by omega
  refine h.post (n2 := g_s n) hne (fun a' k' h1 h2 h3 => ?_) (fun a' k' h1 => ?_) (fun a' k' h1 => ?_) (fun a' k' h1 h2 => ?_) (fun a' k' h1 => ?_) (fun _ _ => rfl) (g_s_le h.n) ?_ ?_ ?_
  · unfold i_46; (try simp (disch := omega) only [s_upf]); exact p72_e h1 h3
  · rfl
  · rfl
  · unfold i_120; split
    · unfold i_120a; rcases h1 with h1 | h1
      · (try simp (disch := omega) only [s_upf]); exact p117_e (Or.inl h1) h2
      · (try simp (disch := omega) only [s_upk]); exact p117_e (Or.inr (Or.inr h1)) h2
    · rfl
  · rfl
  · unfold i_46; (try simp (disch := omega) only [s_upf]); exact p72_c h.c1
  · unfold i_120 g_s; split
    · unfold i_120a; (try simp (disch := omega) only [s_upf]); exact p117_c
    · exact h.c2
  · by_cases hn : n < 48
    · refine Or.inr ⟨if_pos hn, ?_⟩
      unfold g_let g_lrec g_tk
      rw [e36]
      refine ⟨⟨?_, ?_, ?_, ?_, ?_⟩, ?_⟩
      · (try simp (disch := omega) only [i_46, i_120, i_120a, if_pos hn, s_upe, s_upf, s_upk, p72_0, p72_1, p72_2, p72_3, p72_4, p72_e, p117_0, p117_1, p117_2, p117_3, p117_4, p117_e, p117_c]) <;> first | done | assumption
      · (try simp (disch := omega) only [i_46, i_120, i_120a, if_pos hn, s_upe, s_upf, s_upk, p72_0, p72_1, p72_2, p72_3, p72_4, p72_e, p117_0, p117_1, p117_2, p117_3, p117_4, p117_e, p117_c]) <;> first | done | assumption
      · (try simp (disch := omega) only [i_46, i_120, i_120a, if_pos hn, s_upe, s_upf, s_upk, p72_0, p72_1, p72_2, p72_3, p72_4, p72_e, p117_0, p117_1, p117_2, p117_3, p117_4, p117_e, p117_c]) <;> first | done | assumption
      · (try simp (disch := omega) only [i_46, i_120, i_120a, if_pos hn, s_upe, s_upf, s_upk, p72_0, p72_1, p72_2, p72_3, p72_4, p72_e, p117_0, p117_1, p117_2, p117_3, p117_4, p117_e, p117_c]) <;> first | done | assumption
      · (try simp (disch := omega) only [i_46, i_120, i_120a, if_pos hn, s_upe, s_upf, s_upk, p72_0, p72_1, p72_2, p72_3, p72_4, p72_e, p117_0, p117_1, p117_2, p117_3, p117_4, p117_e, p117_c]) <;> first | done | assumption
      refine Or.inr (Or.inr (Or.inr (Or.inl ⟨?_, ?_, ?_, ?_⟩))) <;> (try simp (disch := omega) only [i_46, i_120, i_120a, if_pos hn, s_upe, s_upf, s_upk, p72_0, p72_1, p72_2, p72_3, p72_4, p72_e, p117_0, p117_1, p117_2, p117_3, p117_4, p117_e, p117_c]) <;> first | assumption | exact l_inN (by omega) (by decide) | rfl
    · exact Or.inl (if_neg hn)
end Ops7
