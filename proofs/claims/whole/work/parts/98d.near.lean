/-! nearest, both sides. -/
section Near
variable {xs : Nat → Int32} {Ln : Nat}
theorem n_rank {a b u v : Nat} (ha : a < 20000) (hb : b < 20000) (hu : u < 6) (hv : v < 6) : (Int32.ofNat b * 6 + Int32.ofNat v < Int32.ofNat a * 6 + Int32.ofNat u) ↔ (b < a ∨ (b = a ∧ v < u)) := by
  have e1 : Int32.ofNat b * 6 + Int32.ofNat v = Int32.ofNat (b * 6 + v) := (congrArg (· + Int32.ofNat v) (n_mul b 6)).trans (n_add _ _)
  have e2 : Int32.ofNat a * 6 + Int32.ofNat u = Int32.ofNat (a * 6 + u) := (congrArg (· + Int32.ofNat u) (n_mul a 6)).trans (n_add _ _)
  rw [e1, e2, n_lt (by omega) (by omega)]
  omega
theorem n_rk {b v : Nat} (hb : b < 20000) (hv : v < 6) : ¬ Int32.ofNat b * 6 + Int32.ofNat v = -1 := by
  have e1 : Int32.ofNat b * 6 + Int32.ofNat v = Int32.ofNat (b * 6 + v) := (congrArg (· + Int32.ofNat v) (n_mul b 6)).trans (n_add _ _)
  rw [e1]
  exact n_neg (by omega)
variable {m n rem : Nat} {p w : Nat → Nat} {I I1 I' : Nat → Nat → Int32} {J J' : Nat → Nat → Int64} {Z Z' : Nat → Nat → Bool} {r j : Nat} {s : Int32}
def nr_ok (I' A : Nat → Nat → Int32) : Prop := ∀ a k, 199 ≤ a → a ≠ 202 → A a k = I' a k
def nr_of (A A1 : Nat → Nat → Int32) : Prop := ∀ a k, a ≠ 202 → A1 a k = A a k
theorem nr_of.ok {I' A A1 : Nat → Nat → Int32} (h : nr_of A A1) (h' : nr_ok I' A) : nr_ok I' A1 := fun a k h1 h2 => (h a k h2).trans (h' a k h1 h2)
theorem nr_of.tr {A A1 A2 : Nat → Nat → Int32} (h : nr_of A A1) (h' : nr_of A1 A2) : nr_of A A2 := fun a k h1 => (h' a k h1).trans (h a k h1)
theorem nr_of.rf {A : Nat → Nat → Int32} : nr_of A A := fun _ _ _ => rfl
/-- what both find for the unit u -/
def nr_P (xs : Nat → Int32) (Ln rem : Nat) (w : Nat → Nat) (I1 I' : Nat → Nat → Int32) (J : Nat → Nat → Int64) (Z Z' : Nat → Nat → Bool) (r j : Nat) (s : Int32) (u : Nat) (x : Int32) : Prop :=
  (∃ q, q < 12 ∧ I1 (164 + 29 * r + u) 2 = Int32.ofNat q ∧ v_44 I1 J Z r s u q = if x = -1 then -1 else x * 6 + Int32.ofNat u) ∧ (x = -1 ∨ ∃ k, k < 20000 ∧ x = Int32.ofNat k) ∧
  ∀ (A : Nat → Nat → Int32) (B : Nat → Nat → Int64), (nr_ok I' A) → ∃ A1 : Nat → Nat → Int32, w_R xs Ln 151 (0, [(0, .ref 199), (1, .int (Int32.ofNat r)), (2, .int (Int32.ofNat u)), (3, .int s), (4, .int (Int32.ofNat j))], [], (A, B, kR w rem, Z'), 0, 0) (fun o s => o = .inl (some (.int x)) ∧ s = (A1, B, kR w rem, Z')) ∧ (nr_of A A1)
theorem nr_u (hV : g_V m n p I J Z I' J' Z') (h1 : ∀ a k, a ≠ 4 → I1 a k = I a k) (h2 : ∀ v, v < 12 → y_is (g_E I) j v (I1 4 v)) (hr : r < 2) (hj : j < 12) {u : Nat} (hu : u < 6) : ∃ x, nr_P xs Ln rem w I1 I' J Z Z' r j s u x := by
  obtain ⟨a0, a1, a2, a3, a4, a5, a6, a7⟩ := hV.R.sight r u hr hu
  obtain ⟨-, -, e2, -⟩ := hV.R.unit u hu
  obtain ⟨q, hq, eq⟩ := l_of a6
  have hq1 : I1 (164 + 29 * r + u) 2 = Int32.ofNat q := (h1 _ _ (by omega)).trans (a2.trans eq)
  have hfree : ∀ (A : Nat → Nat → Int32) (B : Nat → Nat → Int64), (nr_ok I' A) → v_148 A B Z' r u = v_101 I1 J Z (164 + 29 * r + u) := by
    intro A B hA
    unfold v_148 v_101
    rw [a0, h1 (164 + 29 * r + u) 3 (by omega), a3, hA 237 _ (by omega) (by omega)]
    by_cases hk : Z' 236 (6 * r + u) = true
    · rw [if_pos hk, if_pos hk, a1 (a0.trans hk)]
    · rw [if_neg hk, if_neg hk]
  by_cases c1 : v_101 I1 J Z (164 + 29 * r + u) = true
  · by_cases c2 : I1 (135 + u) 2 < s
    · refine ⟨-1, ⟨q, hq, hq1, ?_⟩, Or.inl rfl, fun A B hA => ⟨A, d_151s r u s j hr hu hj ((hfree A B hA).trans c1) ?_, nr_of.rf⟩⟩
      · unfold v_44; rw [if_pos c1, if_pos c2, if_pos rfl]
      · rw [hA 209 u (by omega) (by omega), ← e2, ← h1 (135 + u) 2 (by omega)]; exact c2
    · have hy := h2 q hq
      refine ⟨I1 4 q, ⟨q, hq, hq1, ?_⟩, ?_, fun A B hA => ?_⟩
      · unfold v_44; rw [if_pos c1, if_neg c2]
      · rcases hy with ⟨k, e, hk, -⟩ | ⟨e, -⟩
        · exact Or.inr ⟨k, hk, e⟩
        · exact Or.inl e
      · obtain ⟨A1, g1, g2⟩ := g_way1 (xs := xs) (Ln := Ln) (w := w) (rem := rem) (A := A) (B := B) (C := Z') hV (fun k => hA 200 k (by omega) (by omega)) hq hj hy
        exact ⟨A1, d_151y r u s j q (I1 4 q) A1 hr hu hj ((hfree A B hA).trans c1) (by rw [hA 209 u (by omega) (by omega), ← e2, ← h1 (135 + u) 2 (by omega)]; exact c2) hq ((hA 238 _ (by omega) (by omega)).trans eq) g1, g2⟩
  · refine ⟨-1, ⟨q, hq, hq1, ?_⟩, Or.inl rfl, fun A B hA => ⟨A, d_151n r u s j hr hu hj ((hfree A B hA).trans (Bool.eq_false_iff.mpr c1)), nr_of.rf⟩⟩
    unfold v_44; rw [if_neg c1, if_pos rfl]
/-- the reference counts on, whatever it is -/
theorem nr_m {i : Int32} {B : Nat → Nat → Int64} {X : Nat → Int32} (hX : ∀ u, u < 6 → nr_P xs Ln rem w I1 I' J Z Z' r j s u (X u)) (hr : r < 2) (hj : j < 12) {u : Nat} (hu : u < 6) (x : Int32) : ∀ (g v : Nat), v + g = 6 → ∀ (b : Nat) (A : Nat → Nat → Int32), (nr_ok I' A) → ∃ (b1 : Nat) (A1 : Nat → Nat → Int32), (∀ Q : i_O → s_S → Prop, w_R xs Ln 150 (27, [(8, .int (Int32.ofNat 6)), (7, .int (Int32.ofNat b1)), (6, .int x), (5, .int (Int32.ofNat u)), (0, .ref 199), (1, .int (Int32.ofNat r)), (2, .int s), (3, .int (Int32.ofNat j)), (4, .int i)], [], (A1, B, kR w rem, Z'), 0, 0) Q → w_R xs Ln 150 (27, [(8, .int (Int32.ofNat v)), (7, .int (Int32.ofNat b)), (6, .int x), (5, .int (Int32.ofNat u)), (0, .ref 199), (1, .int (Int32.ofNat r)), (2, .int s), (3, .int (Int32.ofNat j)), (4, .int i)], [], (A, B, kR w rem, Z'), 0, 0) Q) ∧ (nr_of A A1) := by
  intro g
  induction g with
  | zero =>
    intro v hv b A hA
    have e : v = 6 := by omega
    subst e
    exact ⟨b, A, fun Q h => h, nr_of.rf⟩
  | succ g ih =>
    intro v hv b A hA
    have hv6 : v < 6 := by omega
    obtain ⟨A1, g1, g2⟩ := (hX v hv6).2.2 A B hA
    by_cases c1 : X v = -1
    · obtain ⟨b2, A2, k1, k2⟩ := ih (v + 1) (by omega) b A1 (g2.ok hA)
      exact ⟨b2, A2, fun Q h => s150a r s j i u x v b (X v) A1 hr hj hv6 g1 c1 Q (k1 Q h), g2.tr k2⟩
    · by_cases c2 : X v < x
      · obtain ⟨b2, A2, k1, k2⟩ := ih (v + 1) (by omega) (b + 1) A1 (g2.ok hA)
        exact ⟨b2, A2, fun Q h => s150b r s j i u x v b (X v) A1 hr hj hv6 g1 c1 c2 Q (k1 Q h), g2.tr k2⟩
      · by_cases c3 : X v = x
        · by_cases c4 : v < u
          · obtain ⟨b2, A2, k1, k2⟩ := ih (v + 1) (by omega) (b + 1) A1 (g2.ok hA)
            exact ⟨b2, A2, fun Q h => s150c r s j i u x v b (X v) A1 hr hj hv6 g1 c1 c2 c3 c4 hu Q (k1 Q h), g2.tr k2⟩
          · obtain ⟨b2, A2, k1, k2⟩ := ih (v + 1) (by omega) b A1 (g2.ok hA)
            exact ⟨b2, A2, fun Q h => s150d r s j i u x v b (X v) A1 hr hj hv6 g1 c1 c2 c3 c4 hu Q (k1 Q h), g2.tr k2⟩
        · obtain ⟨b2, A2, k1, k2⟩ := ih (v + 1) (by omega) b A1 (g2.ok hA)
          exact ⟨b2, A2, fun Q h => s150e r s j i u x v b (X v) A1 hr hj hv6 g1 c1 c2 c3 Q (k1 Q h), g2.tr k2⟩
/-- both count those ahead of u -/
theorem nr_c {i : Int32} {X : Nat → Int32} (hX : ∀ u, u < 6 → nr_P xs Ln rem w I1 I' J Z Z' r j s u (X u)) (hr : r < 2) (hj : j < 12) {u a : Nat} (hu : u < 6) (ha : a < 20000) (hxu : X u = Int32.ofNat a) : ∀ (g v : Nat), v + g = 6 → ∀ b : Nat, ∃ b1 : Nat, (∀ Q : i_O → s_S → Prop, w_R xs Ln 43 (6, [(5, .int (Int32.ofNat 6)), (4, .int (Int32.ofNat b1)), (0, .ref 1), (1, .ref (141 + 29 * r)), (2, .int s), (3, .int (Int32.ofNat a * 6 + Int32.ofNat u))], [], (I1, J, kR w rem, Z), 0, 0) Q → w_R xs Ln 43 (6, [(5, .int (Int32.ofNat v)), (4, .int (Int32.ofNat b)), (0, .ref 1), (1, .ref (141 + 29 * r)), (2, .int s), (3, .int (Int32.ofNat a * 6 + Int32.ofNat u))], [], (I1, J, kR w rem, Z), 0, 0) Q) ∧
    ∀ (A : Nat → Nat → Int32) (B : Nat → Nat → Int64), (nr_ok I' A) → ∃ A1 : Nat → Nat → Int32, (∀ Q : i_O → s_S → Prop, w_R xs Ln 150 (27, [(8, .int (Int32.ofNat 6)), (7, .int (Int32.ofNat b1)), (6, .int (X u)), (5, .int (Int32.ofNat u)), (0, .ref 199), (1, .int (Int32.ofNat r)), (2, .int s), (3, .int (Int32.ofNat j)), (4, .int i)], [], (A1, B, kR w rem, Z'), 0, 0) Q → w_R xs Ln 150 (27, [(8, .int (Int32.ofNat v)), (7, .int (Int32.ofNat b)), (6, .int (X u)), (5, .int (Int32.ofNat u)), (0, .ref 199), (1, .int (Int32.ofNat r)), (2, .int s), (3, .int (Int32.ofNat j)), (4, .int i)], [], (A, B, kR w rem, Z'), 0, 0) Q) ∧ (nr_of A A1) := by
  intro g
  induction g with
  | zero =>
    intro v hv b
    have e : v = 6 := by omega
    subst e
    exact ⟨b, fun Q h => h, fun A B hA => ⟨A, fun Q h => h, nr_of.rf⟩⟩
  | succ g ih =>
    intro v hv b
    have hv6 : v < 6 := by omega
    obtain ⟨⟨q, hq, hq1, h44⟩, hx, hm⟩ := hX v hv6
    rcases hx with c1 | ⟨k, hk, c1⟩
    · rw [if_pos c1] at h44
      obtain ⟨b1, k1, k2⟩ := ih (v + 1) (by omega) b
      refine ⟨b1, fun Q h => s43a r s _ v b q hr hv6 hq hq1 h44 Q (k1 Q h), fun A B hA => ?_⟩
      obtain ⟨A1, g1, g2⟩ := hm A B hA
      obtain ⟨A2, l1, l2⟩ := k2 A1 B (g2.ok hA)
      exact ⟨A2, fun Q h => s150a r s j i u (X u) v b (X v) A1 hr hj hv6 g1 c1 Q (l1 Q h), g2.tr l2⟩
    · have cn : ¬ X v = -1 := by rw [c1]; exact n_neg (by omega)
      rw [if_neg cn, c1] at h44
      have hne : ¬ v_44 I1 J Z r s v q = -1 := by rw [h44]; exact n_rk hk hv6
      have hlt : (v_44 I1 J Z r s v q < Int32.ofNat a * 6 + Int32.ofNat u) ↔ (k < a ∨ (k = a ∧ v < u)) := by rw [h44]; exact n_rank ha hk hu hv6
      have hl2 : X v < X u ↔ k < a := by rw [c1, hxu]; exact n_lt (by omega) (by omega)
      have he2 : X v = X u ↔ k = a := by rw [c1, hxu]; exact n_eq (by omega) (by omega)
      by_cases c2 : k < a
      · obtain ⟨b1, k1, k2⟩ := ih (v + 1) (by omega) (b + 1)
        refine ⟨b1, fun Q h => s43b r s _ v b q hr hv6 hq hq1 hne (hlt.mpr (Or.inl c2)) Q (k1 Q h), fun A B hA => ?_⟩
        obtain ⟨A1, g1, g2⟩ := hm A B hA
        obtain ⟨A2, l1, l2⟩ := k2 A1 B (g2.ok hA)
        exact ⟨A2, fun Q h => s150b r s j i u (X u) v b (X v) A1 hr hj hv6 g1 cn (hl2.mpr c2) Q (l1 Q h), g2.tr l2⟩
      · by_cases c3 : k = a
        · by_cases c4 : v < u
          · obtain ⟨b1, k1, k2⟩ := ih (v + 1) (by omega) (b + 1)
            refine ⟨b1, fun Q h => s43b r s _ v b q hr hv6 hq hq1 hne (hlt.mpr (Or.inr ⟨c3, c4⟩)) Q (k1 Q h), fun A B hA => ?_⟩
            obtain ⟨A1, g1, g2⟩ := hm A B hA
            obtain ⟨A2, l1, l2⟩ := k2 A1 B (g2.ok hA)
            exact ⟨A2, fun Q h => s150c r s j i u (X u) v b (X v) A1 hr hj hv6 g1 cn (mt hl2.mp c2) (he2.mpr c3) c4 hu Q (l1 Q h), g2.tr l2⟩
          · obtain ⟨b1, k1, k2⟩ := ih (v + 1) (by omega) b
            refine ⟨b1, fun Q h => s43c r s _ v b q hr hv6 hq hq1 hne (fun h => by rcases hlt.mp h with h | h <;> omega) Q (k1 Q h), fun A B hA => ?_⟩
            obtain ⟨A1, g1, g2⟩ := hm A B hA
            obtain ⟨A2, l1, l2⟩ := k2 A1 B (g2.ok hA)
            exact ⟨A2, fun Q h => s150d r s j i u (X u) v b (X v) A1 hr hj hv6 g1 cn (mt hl2.mp c2) (he2.mpr c3) c4 hu Q (l1 Q h), g2.tr l2⟩
        · obtain ⟨b1, k1, k2⟩ := ih (v + 1) (by omega) b
          refine ⟨b1, fun Q h => s43c r s _ v b q hr hv6 hq hq1 hne (fun h => by rcases hlt.mp h with h | h <;> omega) Q (k1 Q h), fun A B hA => ?_⟩
          obtain ⟨A1, g1, g2⟩ := hm A B hA
          obtain ⟨A2, l1, l2⟩ := k2 A1 B (g2.ok hA)
          exact ⟨A2, fun Q h => s150e r s j i u (X u) v b (X v) A1 hr hj hv6 g1 cn (mt hl2.mp c2) (mt he2.mp c3) Q (l1 Q h), g2.tr l2⟩
/-- both go through the units -/
theorem nr_o {i : Int32} {X : Nat → Int32} (hX : ∀ u, u < 6 → nr_P xs Ln rem w I1 I' J Z Z' r j s u (X u)) (hr : r < 2) (hj : j < 12) : ∀ (g u : Nat), u + g = 6 → ∃ y : Int32, (y = -1 ∨ ∃ k, k < 6 ∧ y = Int32.ofNat k) ∧ w_R xs Ln 42 (11, [(5, .int (Int32.ofNat u)), (0, .ref 1), (1, .ref (141 + 29 * r)), (2, .int s), (3, .int (Int32.ofNat j)), (4, .int i)], [], (I1, J, kR w rem, Z), 0, 0) (fun o s => o = .inl (some (.int y)) ∧ s = (I1, J, kR w rem, Z)) ∧
    ∀ (A : Nat → Nat → Int32) (B : Nat → Nat → Int64), (nr_ok I' A) → ∃ A1 : Nat → Nat → Int32, w_R xs Ln 150 (3, [(5, .int (Int32.ofNat u)), (0, .ref 199), (1, .int (Int32.ofNat r)), (2, .int s), (3, .int (Int32.ofNat j)), (4, .int i)], [], (A, B, kR w rem, Z'), 0, 0) (fun o s => o = .inl (some (.int y)) ∧ s = (A1, B, kR w rem, Z')) ∧ (nr_of A A1) := by
  intro g
  induction g with
  | zero =>
    intro u hu
    have e : u = 6 := by omega
    subst e
    exact ⟨-1, Or.inl rfl, s42r r s j i, fun A B hA => ⟨A, s150n r s j i, nr_of.rf⟩⟩
  | succ g ih =>
    intro u hu
    have hu6 : u < 6 := by omega
    obtain ⟨y, hy, k1, k2⟩ := ih (u + 1) (by omega)
    obtain ⟨⟨q, hq, hq1, h44⟩, hx, hm⟩ := hX u hu6
    rcases hx with c1 | ⟨a, ha, c1⟩
    · rw [if_pos c1] at h44
      refine ⟨y, hy, s42a r s j i u q hr hu6 hq hq1 h44 _ k1, fun A B hA => ?_⟩
      obtain ⟨A1, g1, g2⟩ := hm A B hA
      obtain ⟨b2, A2, l1, l2⟩ := nr_m (i := i) (B := B) hX hr hj hu6 (X u) 6 0 (by omega) 0 A1 (g2.ok hA)
      obtain ⟨A3, m1, m2⟩ := k2 A2 B (l2.ok (g2.ok hA))
      exact ⟨A3, s150i r s j i u (X u) A1 hr hj hu6 g1 _ (l1 _ (s150x r s j i u (X u) b2 hu6 c1 _ m1)), g2.tr (l2.tr m2)⟩
    · have cn : ¬ X u = -1 := by rw [c1]; exact n_neg (by omega)
      rw [if_neg cn, c1] at h44
      have hne : ¬ v_44 I1 J Z r s u q = -1 := by rw [h44]; exact n_rk ha hu6
      obtain ⟨b1, n1, n2⟩ := nr_c (i := i) hX hr hj hu6 ha c1 6 0 (by omega) 0
      have h43 := s43y (I := I1) (J := J) (Z := Z) (w := w) (rem := rem) (xs := xs) (Ln := Ln) r s (Int32.ofNat a * 6 + Int32.ofNat u) _ (n1 _ (s43r r s (Int32.ofNat a * 6 + Int32.ofNat u) b1))
      rw [← h44] at h43
      by_cases c2 : Int32.ofNat b1 = i
      · refine ⟨Int32.ofNat u, Or.inr ⟨u, hu6, rfl⟩, s42c r s j i u q (Int32.ofNat b1) hr hu6 hq hq1 hne h43 c2, fun A B hA => ?_⟩
        obtain ⟨A1, g1, g2⟩ := hm A B hA
        obtain ⟨A2, l1, l2⟩ := n2 A1 B (g2.ok hA)
        exact ⟨A2, s150i r s j i u (X u) A1 hr hj hu6 g1 _ (l1 _ (s150r r s j i u (X u) b1 cn c2)), g2.tr l2⟩
      · refine ⟨y, hy, s42b r s j i u q (Int32.ofNat b1) hr hu6 hq hq1 hne h43 c2 _ k1, fun A B hA => ?_⟩
        obtain ⟨A1, g1, g2⟩ := hm A B hA
        obtain ⟨A2, l1, l2⟩ := n2 A1 B (g2.ok hA)
        obtain ⟨A3, m1, m2⟩ := k2 A2 B (l2.ok (g2.ok hA))
        exact ⟨A3, s150i r s j i u (X u) A1 hr hj hu6 g1 _ (l1 _ (s150w r s j i u (X u) b1 hu6 cn c2 _ m1)), g2.tr (l2.tr m2)⟩
/-- findNearest and nearestOf find the same unit -/
theorem nr_all (hV : g_V m n p I J Z I' J' Z') (hr : r < 2) (hj : j < 12) (i s : Int32) : ∃ (y : Int32) (I1 : Nat → Nat → Int32), (y = -1 ∨ ∃ k, k < 6 ∧ y = Int32.ofNat k) ∧ w_R xs Ln 42 (0, [(0, .ref 1), (1, .ref (141 + 29 * r)), (2, .int s), (3, .int (Int32.ofNat j)), (4, .int i)], [], (I, J, kR w rem, Z), 0, 0) (fun o s => o = .inl (some (.int y)) ∧ s = (I1, J, kR w rem, Z)) ∧ (∀ a k, a ≠ 4 → I1 a k = I a k) ∧
    ∀ (A : Nat → Nat → Int32) (B : Nat → Nat → Int64), (nr_ok I' A) → ∃ A1 : Nat → Nat → Int32, w_R xs Ln 150 (0, [(0, .ref 199), (1, .int (Int32.ofNat r)), (2, .int s), (3, .int (Int32.ofNat j)), (4, .int i)], [], (A, B, kR w rem, Z'), 0, 0) (fun o s => o = .inl (some (.int y)) ∧ s = (A1, B, kR w rem, Z')) ∧ (nr_of A A1) := by
  obtain ⟨I1, h1, h2, h3⟩ := g_ways (xs := xs) (Ln := Ln) (w := w) (rem := rem) hV hj
  have hu : ∀ u, ∃ x, u < 6 → nr_P xs Ln rem w I1 I' J Z Z' r j s u x := by
    intro u
    by_cases hu : u < 6
    · obtain ⟨x, hx⟩ := nr_u (xs := xs) (Ln := Ln) (w := w) (rem := rem) (s := s) hV h2 h3 hr hj hu
      exact ⟨x, fun _ => hx⟩
    · exact ⟨0, fun h => absurd h hu⟩
  obtain ⟨X, hX⟩ := Classical.skolem.mp hu
  obtain ⟨y, hy, k1, k2⟩ := nr_o (i := i) hX hr hj 6 0 (by omega)
  refine ⟨y, I1, hy, s42y r s j i I1 hj h1 _ k1, h2, fun A B hA => ?_⟩
  obtain ⟨A1, g1, g2⟩ := k2 A B hA
  exact ⟨A1, s150y r s j i _ g1, g2⟩
theorem op_23 : ∀ a0 a1 a2 a3, lw_ok xs Ln g_Rel 24 158 [.int a0, .int a1, .int a2, .int a3] := by
  intro a0 a1 a2 a3 m σ hR hm
  obtain ⟨I, J, Z, w, rem, p, q0, n, rfl, hP, hV⟩ := hR
  by_cases c0 : l_rg a0 0 2 = false
  · exact lw_bad (b_24_0 a0 a1 a2 a3 c0) (b_158_0 a0 a1 a2 a3 c0) rfl hP hV
  replace c0 := eq_true_of_ne_false c0
  obtain ⟨r, hr, rfl⟩ := l_of c0
  by_cases c1 : l_rg a2 0 12 = false
  · exact lw_bad (b_24_1 r a1 a2 a3 hr c1) (b_158_1 r a1 a2 a3 hr c1) rfl hP hV
  replace c1 := eq_true_of_ne_false c1
  obtain ⟨j, hj, rfl⟩ := l_of c1
  obtain ⟨y, I1, -, h1, h2, h3⟩ := nr_all (xs := xs) (Ln := Ln) (w := w) (rem := rem) (hV.thr 0) hr hj a3 a1
  have hA : nr_ok (s_up I 199 59 0) (s_up I1 199 59 0) := fun a k h1 _ => by
    by_cases ha : a = 199 ∧ k = 59
    · obtain ⟨rfl, rfl⟩ := ha; rw [s_upe, s_upe]
    · by_cases hb : a = 199
      · rw [s_upk (fun e => ha ⟨hb, e⟩), s_upk (fun e => ha ⟨hb, e⟩)]; exact h2 a k (by omega)
      · rw [s_upa hb, s_upa hb]; exact h2 a k (by omega)
  obtain ⟨I2, g1, g2⟩ := h3 _ J hA
  refine lw_fin (n := n) (d_24 r a1 j a3 y I1 hr hj h1) (d_158 r a1 j a3 y I2 hr hj g1) rfl hP (g_V.mono (hV.congr (fun a k h ha _ => h2 a k ha) (fun _ _ _ => rfl) (fun _ _ _ => rfl) (fun a k h _ h202 _ _ _ h59 => ?_) (fun _ _ _ _ => rfl) (fun _ _ _ _ => rfl))) (fun a k h => ?_) (fun _ _ _ => rfl) (fun _ _ _ => rfl)
  · rw [g2 a k h202]
    by_cases ha : a = 199
    · rw [s_upk (fun e => h59 ⟨ha, e⟩)]; exact h2 a k (by omega)
    · rw [s_upa ha]; exact h2 a k (by omega)
  · rw [g2 a k (by omega)]; exact s_upa (by omega)
end Near
