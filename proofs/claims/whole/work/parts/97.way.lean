/-! Both ways of measuring come to the least sums. -/
section Way
variable {E : Nat → Nat → Nat} {r F : Nat}
def y_c (E : Nat → Nat → Nat) (r t : Nat) (d : Nat → Nat) : Prop := t + 1 ≤ y_n (y_S E r d) 12 ∨ ∀ v, v < 12 → y_S E r d v
theorem y_c0 {d : Nat → Nat} (h0 : d r = 0) (hr : r < 12) : y_c E r 0 d := by
  left
  have : y_n (fun _ => False) 12 < y_n (y_S E r d) 12 := y_n_lt (v := r) (fun s _ => by rw [h0]; omega) id 12 hr (fun _ _ h => h.elim)
  omega
theorem y_cs {t : Nat} {d d' : Nat → Nat} (hc : y_c E r t d) (h0 : d r = 0) (hm : ∀ v, d' v ≤ d v) (hx : ∀ v u, v < 12 → u < 12 → 0 < E v u → d' v ≤ E v u + d u) : y_c E r (t + 1) d' := by
  by_cases hn : ∃ v, v < 12 ∧ ¬ y_S E r d v
  · rcases hc with h | h
    · left
      have := y_round h0 (fun v _ => hm v) hx hn
      omega
    · obtain ⟨v, hv, hs⟩ := hn
      exact absurd (h v hv) hs
  · right
    intro v hv s hs
    by_cases hS : y_S E r d v
    · exact Nat.le_trans (hm v) (hS s hs)
    · exact absurd ⟨v, hv, hS⟩ hn
theorem y_cf {t : Nat} {d : Nat → Nat} (ht : 11 ≤ t) (hc : y_c E r t d) : ∀ v, v < 12 → y_S E r d v := by
  rcases hc with h | h
  · exact y_n_all 12 (by omega)
  · exact h
theorem y_cx {d : Nat → Nat} (h0 : d r = 0) (hx : ∀ v u, v < 12 → u < 12 → 0 < E v u → d v ≤ E v u + d u) : ∀ v, v < 12 → y_S E r d v := by
  intro v hv
  by_cases hn : ∃ v, v < 12 ∧ ¬ y_S E r d v
  · have := y_round h0 (fun v _ => Nat.le_refl _) hx hn
    omega
  · by_cases hS : y_S E r d v
    · exact hS
    · exact absurd ⟨v, hv, hS⟩ hn
/-- what a piece of shortening over the roads S does -/
def y_R (E : Nat → Nat → Nat) (r F : Nat) (S : Nat → Nat → Prop) (d d' : Nat → Nat) : Prop := (∀ x, d' x ≤ d x) ∧ (∀ v u, S v u → v < 12 → u < 12 → 0 < E v u → d' v ≤ E v u + d u) ∧
  ((∀ x, x < 12 → d x ≤ F ∧ (d x = F ∨ y_V E r x (d x))) → ∀ x, x < 12 → d' x ≤ F ∧ (d' x = F ∨ y_V E r x (d' x)))
theorem y_R.refl {d : Nat → Nat} : y_R E r F (fun _ _ => False) d d := ⟨fun _ => Nat.le_refl _, fun _ _ h => h.elim, fun h => h⟩
theorem y_R.trans {S T : Nat → Nat → Prop} {d d' d'' : Nat → Nat} (h : y_R E r F S d d') (h' : y_R E r F T d' d'') : y_R E r F (fun v u => S v u ∨ T v u) d d'' := by
  obtain ⟨a1, a2, a3⟩ := h
  obtain ⟨b1, b2, b3⟩ := h'
  refine ⟨fun x => Nat.le_trans (b1 x) (a1 x), fun v u hs hv hu he => ?_, fun h => b3 (a3 h)⟩
  rcases hs with hs | hs
  · exact Nat.le_trans (b1 v) (a2 v u hs hv hu he)
  · have := b2 v u hs hv hu he
    have := a1 u
    omega
theorem y_R.sub {S T : Nat → Nat → Prop} {d d' : Nat → Nat} (h : y_R E r F S d d') (hs : ∀ v u, v < 12 → u < 12 → T v u → S v u) : y_R E r F T d d' := ⟨h.1, fun v u ht hv hu => h.2.1 v u (hs v u hv hu ht) hv hu, h.2.2⟩
def y_st (E : Nat → Nat → Nat) (d : Nat → Nat) (v u : Nat) : Nat → Nat := fun x => if x = v ∧ 0 < E v u ∧ E v u + d u < d v then E v u + d u else d x
theorem y_st_R {d : Nat → Nat} {v u : Nat} (hv : v < 12) (hu : u < 12) : y_R E r F (fun a b => a = v ∧ b = u) d (y_st E d v u) := by
  refine ⟨fun x => ?_, fun a b h _ _ he => ?_, fun h x hx => ?_⟩
  · unfold y_st
    split
    · rename_i h; rw [h.1]; omega
    · exact Nat.le_refl _
  · obtain ⟨rfl, rfl⟩ := h
    unfold y_st
    by_cases hc : E a b + d b < d a
    · rw [if_pos ⟨rfl, he, hc⟩]; exact Nat.le_refl _
    · rw [if_neg (fun h => hc h.2.2)]; omega
  · unfold y_st
    split
    · rename_i hh
      obtain ⟨rfl, h1, h2⟩ := hh
      have h3 := (h x hv).1
      refine ⟨by omega, Or.inr ?_⟩
      rcases (h u hu).2 with h4 | h4
      · omega
      · exact y_V.step hv hu h1 h4
    · exact h x hx
theorem y_st_no {d : Nat → Nat} {v u : Nat} (h : ¬ (0 < E v u ∧ E v u + d u < d v)) : y_st E d v u = d := funext fun x => if_neg (fun hh => h hh.2)
theorem y_st_up {d : Nat → Nat} {v u : Nat} (h : 0 < E v u ∧ E v u + d u < d v) (x : Nat) : y_st E d v u x = if x = v then E v u + d u else d x := by
  unfold y_st
  by_cases e : x = v
  · rw [if_pos ⟨e, h⟩, if_pos e]
  · rw [if_neg (fun hh => e hh.1), if_neg e]
end Way
/-! the class -/
section WayC
variable {xs : Nat → Int32} {Ln : Nat}
def y_ec (x : Nat) : Int32 := if x = 1073741824 then -1 else Int32.ofNat x
def y_en (I : Nat → Nat → Int32) (d : Nat → Nat) : Prop := ∀ x, x < 12 → I 4 x = y_ec (d x)
def y_B (b : Nat) (d : Nat → Nat) : Prop := ∀ x, x < 12 → d x = 1073741824 ∨ d x ≤ b
def y_Lok (L : i_L) (f t : Nat) (z : Bool) : Prop := L = [(3, .int (Int32.ofNat t)), (2, .int (Int32.ofNat f)), (1, .int (s_b z)), (0, .ref 2)] ∨ (z = true ∧ L = [(3, .int (Int32.ofNat t)), (1, .int 1), (2, .int (Int32.ofNat f)), (0, .ref 2)])
variable {J : Nat → Nat → Int64} {Z : Nat → Nat → Bool} {w : Nat → Nat} {rem : Nat} {E : Nat → Nat → Nat}
theorem y_v90 {I : Nat → Nat → Int32} {a y : Nat} (ha : a < 2 ^ 31) (hy : y < 2 ^ 31) : v_90 I J Z (Int32.ofNat a) (Int32.ofNat y) = decide (a < y) := by
  unfold v_90
  rw [if_neg (n_neg hy)]
  by_cases h : a < y
  · rw [if_pos ((n_lt ha hy).mpr h)]; exact (decide_eq_true h).symm
  · rw [if_neg (mt (n_lt ha hy).mp h)]; exact (decide_eq_false h).symm
theorem y_one {I : Nat → Nat → Int32} {d : Nat → Nat} {f t b : Nat} {z : Bool} {L : i_L} (hf : f < 12) (ht : t < 12) (hE : ∀ v u, v < 12 → u < 12 → I 5 (v * 12 + u) = Int32.ofNat (E v u)) (hE9 : ∀ v u, E v u ≤ 999) (hb : b < 90000000) (hB : y_B b d) (he : y_en I d) (hL : y_Lok L f t z) :
    ∃ (I1 : Nat → Nat → Int32) (z1 : Bool) (L1 : i_L), y_Lok L1 f (t + 1) z1 ∧ (∀ Q : i_O → s_S → Prop, w_R xs Ln 89 (12, L1, [], (I1, J, kR w rem, Z), 0, 0) Q → w_R xs Ln 89 (12, L, [], (I, J, kR w rem, Z), 0, 0) Q) ∧ y_en I1 (y_st E d f t) ∧ (∀ a k, a ≠ 4 → I1 a k = I a k) ∧ (z1 = false → z = false ∧ y_st E d f t = d) ∧ y_B (b + 999) (y_st E d f t) := by
  have hEf := hE f t hf ht
  have h9 := hE9 f t
  have mono : y_B (b + 999) (y_st E d f t) := by
    intro x hx
    by_cases hc : 0 < E f t ∧ E f t + d t < d f
    · rw [y_st_up hc]
      by_cases e : x = f
      · rw [if_pos e]
        rcases hB t ht with h1 | h1
        · rcases hB f hf with h2 | h2 <;> omega
        · exact Or.inr (by omega)
      · rw [if_neg e]
        rcases hB x hx with h1 | h1
        · exact Or.inl h1
        · exact Or.inr (by omega)
    · rw [y_st_no hc]
      rcases hB x hx with h1 | h1
      · exact Or.inl h1
      · exact Or.inr (by omega)
  have stay : ¬ (0 < E f t ∧ E f t + d t < d f) → ∀ (L1 : i_L), y_Lok L1 f (t + 1) z → (∀ Q : i_O → s_S → Prop, w_R xs Ln 89 (12, L1, [], (I, J, kR w rem, Z), 0, 0) Q → w_R xs Ln 89 (12, L, [], (I, J, kR w rem, Z), 0, 0) Q) → ∃ (I1 : Nat → Nat → Int32) (z1 : Bool) (L1 : i_L), y_Lok L1 f (t + 1) z1 ∧ (∀ Q : i_O → s_S → Prop, w_R xs Ln 89 (12, L1, [], (I1, J, kR w rem, Z), 0, 0) Q → w_R xs Ln 89 (12, L, [], (I, J, kR w rem, Z), 0, 0) Q) ∧ y_en I1 (y_st E d f t) ∧ (∀ a k, a ≠ 4 → I1 a k = I a k) ∧ (z1 = false → z = false ∧ y_st E d f t = d) ∧ y_B (b + 999) (y_st E d f t) := by
    intro hc L1 hL1 hr
    exact ⟨I, z, L1, hL1, hr, by rw [y_st_no hc]; exact he, fun _ _ _ => rfl, fun h => ⟨h, y_st_no hc⟩, mono⟩
  have move : (0 < E f t ∧ E f t + d t < d f) → (∀ Q : i_O → s_S → Prop, w_R xs Ln 89 (12, [(3, .int (Int32.ofNat (t + 1))), (1, .int 1), (2, .int (Int32.ofNat f)), (0, .ref 2)], [], (s_up I 4 f (Int32.ofNat (E f t + d t)), J, kR w rem, Z), 0, 0) Q → w_R xs Ln 89 (12, L, [], (I, J, kR w rem, Z), 0, 0) Q) → ∃ (I1 : Nat → Nat → Int32) (z1 : Bool) (L1 : i_L), y_Lok L1 f (t + 1) z1 ∧ (∀ Q : i_O → s_S → Prop, w_R xs Ln 89 (12, L1, [], (I1, J, kR w rem, Z), 0, 0) Q → w_R xs Ln 89 (12, L, [], (I, J, kR w rem, Z), 0, 0) Q) ∧ y_en I1 (y_st E d f t) ∧ (∀ a k, a ≠ 4 → I1 a k = I a k) ∧ (z1 = false → z = false ∧ y_st E d f t = d) ∧ y_B (b + 999) (y_st E d f t) := by
    intro hc hr
    refine ⟨_, true, _, Or.inr ⟨rfl, rfl⟩, hr, fun x hx => ?_, fun a k h => s_upa h, (fun h => by cases h), mono⟩
    rw [y_st_up hc]
    by_cases e : x = f
    · subst e
      rw [s_upe, if_pos rfl]
      unfold y_ec
      have : E x t + d t ≠ 1073741824 := by
        rcases hB x hx with h1 | h1 <;> rcases hB t ht with h2 | h2 <;> omega
      rw [if_neg this]
    · rw [s_upk e, if_neg e]; exact he x hx
  have hl9 : 1 ≤ E f t ∨ E f t = 0 := by omega
  rcases hL with rfl | ⟨rfl, rfl⟩
  · rcases hl9 with e0 | e0
    · have e1 : 1 ≤ E f t ∧ E f t < 1000 := ⟨e0, by omega⟩
      by_cases ht0 : d t = 1073741824
      · refine stay (fun h => ?_) _ (Or.inl rfl) (fun Q h => s89b1 f t (E f t) z hf ht hEf e1 ((he t ht).trans (if_pos ht0)) Q h)
        rcases hB f hf with h1 | h1 <;> omega
      · have hxt : d t ≤ b := by rcases hB t ht with h1 | h1 <;> omega
        have hdt : I 4 t = Int32.ofNat (d t) := (he t ht).trans (if_neg ht0)
        by_cases hf0 : d f = 1073741824
        · exact move ⟨e0, by omega⟩ (fun Q h => s89c1 f t (E f t) (d t) z hf ht hEf e1 (by omega) hdt ((he f hf).trans (if_pos hf0)) (by unfold v_90; exact if_pos rfl) Q h)
        · have hxf : d f ≤ b := by rcases hB f hf with h1 | h1 <;> omega
          have hdf : I 4 f = Int32.ofNat (d f) := (he f hf).trans (if_neg hf0)
          by_cases hl : E f t + d t < d f
          · exact move ⟨e0, hl⟩ (fun Q h => s89d1 f t (E f t) (d t) (d f) z hf ht hEf e1 (by omega) hdt hdf ((y_v90 (by omega) (by omega)).trans (decide_eq_true hl)) Q h)
          · exact stay (fun h => hl h.2) _ (Or.inl rfl) (fun Q h => s89e1 f t (E f t) (d t) (d f) z hf ht hEf e1 (by omega) hdt hdf ((y_v90 (by omega) (by omega)).trans (decide_eq_false hl)) Q h)
    · exact stay (fun h => by omega) _ (Or.inl rfl) (fun Q h => s89a1 f t (E f t) z hf ht hEf e0 Q h)
  · rcases hl9 with e0 | e0
    · have e1 : 1 ≤ E f t ∧ E f t < 1000 := ⟨e0, by omega⟩
      by_cases ht0 : d t = 1073741824
      · refine stay (fun h => ?_) _ (Or.inr ⟨rfl, rfl⟩) (fun Q h => s89b2 f t (E f t) hf ht hEf e1 ((he t ht).trans (if_pos ht0)) Q h)
        rcases hB f hf with h1 | h1 <;> omega
      · have hxt : d t ≤ b := by rcases hB t ht with h1 | h1 <;> omega
        have hdt : I 4 t = Int32.ofNat (d t) := (he t ht).trans (if_neg ht0)
        by_cases hf0 : d f = 1073741824
        · exact move ⟨e0, by omega⟩ (fun Q h => s89c2 f t (E f t) (d t) hf ht hEf e1 (by omega) hdt ((he f hf).trans (if_pos hf0)) (by unfold v_90; exact if_pos rfl) Q h)
        · have hxf : d f ≤ b := by rcases hB f hf with h1 | h1 <;> omega
          have hdf : I 4 f = Int32.ofNat (d f) := (he f hf).trans (if_neg hf0)
          by_cases hl : E f t + d t < d f
          · exact move ⟨e0, hl⟩ (fun Q h => s89d2 f t (E f t) (d t) (d f) hf ht hEf e1 (by omega) hdt hdf ((y_v90 (by omega) (by omega)).trans (decide_eq_true hl)) Q h)
          · exact stay (fun h => hl h.2) _ (Or.inr ⟨rfl, rfl⟩) (fun Q h => s89e2 f t (E f t) (d t) (d f) hf ht hEf e1 (by omega) hdt hdf ((y_v90 (by omega) (by omega)).trans (decide_eq_false hl)) Q h)
    · exact stay (fun h => by omega) _ (Or.inr ⟨rfl, rfl⟩) (fun Q h => s89a2 f t (E f t) hf ht hEf e0 Q h)
/-- all roads out of f -/
theorem y_inner (hE9 : ∀ v u, E v u ≤ 999) {f q : Nat} (hf : f < 12) : ∀ (g t : Nat), t + g = 12 → ∀ (I : Nat → Nat → Int32) (d : Nat → Nat) (b : Nat) (z : Bool) (L : i_L), (∀ v u, v < 12 → u < 12 → I 5 (v * 12 + u) = Int32.ofNat (E v u)) → b + 999 * g < 90000000 → y_B b d → y_en I d → y_Lok L f t z →
    ∃ (I1 : Nat → Nat → Int32) (d1 : Nat → Nat) (z1 : Bool), (∀ Q : i_O → s_S → Prop, w_R xs Ln 89 (4, [(2, .int (Int32.ofNat (f + 1))), (1, .int (s_b z1)), (0, .ref 2)], [], (I1, J, kR w rem, Z), 0, 0) Q → w_R xs Ln 89 (12, L, [], (I, J, kR w rem, Z), 0, 0) Q) ∧ y_en I1 d1 ∧ (∀ a k, a ≠ 4 → I1 a k = I a k) ∧ (z1 = false → z = false ∧ d1 = d) ∧ y_B (b + 999 * g) d1 ∧ y_R E q 1073741824 (fun v u => v = f ∧ t ≤ u) d d1 := by
  intro g
  induction g with
  | zero =>
    intro t ht I d b z L hE hb hB he hL
    have e : t = 12 := by omega
    subst e
    refine ⟨I, d, z, ?_, he, fun _ _ _ => rfl, fun h => ⟨h, rfl⟩, hB, y_R.refl.sub (fun v u hv hu h => by omega)⟩
    rcases hL with rfl | ⟨rfl, rfl⟩
    · exact fun Q h => s89x1 f z hf Q h
    · exact fun Q h => s89x2 f hf Q h
  | succ g ih =>
    intro t ht I d b z L hE hb hB he hL
    obtain ⟨I1, z1, L1, h1, h2, h3, h4, h5, h6⟩ := y_one (xs := xs) (Ln := Ln) (J := J) (Z := Z) (w := w) (rem := rem) hf (show t < 12 by omega) hE hE9 (by omega) hB he hL
    obtain ⟨I2, d2, z2, g1, g2, g3, g4, g5, g6⟩ := ih (t + 1) (by omega) I1 (y_st E d f t) (b + 999) z1 L1 (fun v u hv hu => (h4 5 _ (by omega)).trans (hE v u hv hu)) (by omega) h6 h3 h1
    refine ⟨I2, d2, z2, fun Q h => h2 Q (g1 Q h), g2, fun a k h => (g3 a k h).trans (h4 a k h), fun h => ?_, ?_, ?_⟩
    · obtain ⟨a1, a2⟩ := g4 h
      obtain ⟨b1, b2⟩ := h5 a1
      exact ⟨b1, a2.trans b2⟩
    · have : b + 999 * (g + 1) = b + 999 + 999 * g := by omega
      rw [this]; exact g5
    · exact ((y_st_R (r := q) (F := 1073741824) hf (show t < 12 by omega)).trans g6).sub (fun v u hv hu h => by
        by_cases e : u = t
        · exact Or.inl ⟨h.1, e⟩
        · exact Or.inr ⟨h.1, by omega⟩)
end WayC
