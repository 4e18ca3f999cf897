/-! Least sums of ways: rounds of shortening settle one junction more each. -/
section Dist
/-- a way of k roads from v to the root r, with the sum s; E v u is the road from v to u -/
def y_k (E : Nat → Nat → Nat) (r : Nat) : Nat → Nat → Nat → Prop
  | 0, v, s => v = r ∧ s = 0
  | k + 1, v, s => ∃ u s', v < 12 ∧ u < 12 ∧ 0 < E v u ∧ y_k E r k u s' ∧ s = E v u + s'
def y_V (E : Nat → Nat → Nat) (r v s : Nat) : Prop := ∃ k, y_k E r k v s
variable {E : Nat → Nat → Nat} {r : Nat}
theorem y_V.base : y_V E r r 0 := ⟨0, rfl, rfl⟩
theorem y_V.step {v u s : Nat} (hv : v < 12) (hu : u < 12) (he : 0 < E v u) (h : y_V E r u s) : y_V E r v (E v u + s) := by
  obtain ⟨k, h⟩ := h
  exact ⟨k + 1, u, s, hv, hu, he, h, rfl⟩
theorem y_V.inv {v s : Nat} (h : y_V E r v s) : (v = r ∧ s = 0) ∨ ∃ u s', v < 12 ∧ u < 12 ∧ 0 < E v u ∧ y_V E r u s' ∧ s = E v u + s' := by
  obtain ⟨k, h⟩ := h
  cases k with
  | zero => exact Or.inl h
  | succ k =>
    obtain ⟨u, s', h1, h2, h3, h4, h5⟩ := h
    exact Or.inr ⟨u, s', h1, h2, h3, ⟨k, h4⟩, h5⟩
theorem y_snoc {u w : Nat} (hu : u < 12) (hw : w < 12) (he : 0 < E u w) : ∀ (k v s : Nat), y_k E u k v s → y_V E w v (s + E u w)
  | 0, v, s, h => by
    obtain ⟨rfl, rfl⟩ := h
    have := y_V.step (r := w) hu hw he (y_V.base (E := E))
    rw [Nat.add_zero] at this
    rw [Nat.zero_add]
    exact this
  | k + 1, v, s, h => by
    obtain ⟨x, s', h1, h2, h3, h4, h5⟩ := h
    have := y_V.step h1 h2 h3 (y_snoc hu hw he k x s' h4)
    rw [h5, Nat.add_assoc]
    exact this
theorem y_rev : ∀ (k v s : Nat), y_k E r k v s → y_V (fun a b => E b a) v r s
  | 0, v, s, h => by
    obtain ⟨rfl, rfl⟩ := h
    exact y_V.base
  | k + 1, v, s, h => by
    obtain ⟨u, s', h1, h2, h3, h4, h5⟩ := h
    obtain ⟨j, hj⟩ := y_rev k u s' h4
    have := y_snoc (E := fun a b => E b a) h2 h1 h3 j r s' hj
    rw [h5, Nat.add_comm]
    exact this
theorem y_V.rev {v s : Nat} (h : y_V E r v s) : y_V (fun a b => E b a) v r s := by
  obtain ⟨k, h⟩ := h
  exact y_rev k v s h
/-- the least -/
theorem y_least {P : Nat → Prop} : ∀ s, P s → ∃ s0, P s0 ∧ ∀ t, P t → s0 ≤ t := by
  intro s
  induction s using Nat.strongRecOn with
  | ind s ih =>
    intro h
    by_cases hx : ∃ t, t < s ∧ P t
    · obtain ⟨t, h1, h2⟩ := hx
      exact ih t h1 h2
    · exact ⟨s, h, fun t ht => Nat.le_of_not_lt (fun hl => hx ⟨t, hl, ht⟩)⟩
noncomputable def y_n (P : Nat → Prop) : Nat → Nat
  | 0 => 0
  | n + 1 => (@ite Nat (P n) (Classical.propDecidable _) 1 0) + y_n P n
theorem y_n_s {P : Nat → Prop} {n : Nat} : (P n → y_n P (n + 1) = y_n P n + 1) ∧ (¬ P n → y_n P (n + 1) = y_n P n) := by
  constructor
  · intro h; show (@ite Nat (P n) (Classical.propDecidable _) 1 0) + y_n P n = _; rw [if_pos h]; omega
  · intro h; show (@ite Nat (P n) (Classical.propDecidable _) 1 0) + y_n P n = _; rw [if_neg h]; omega
theorem y_n_le {P : Nat → Prop} : ∀ n, y_n P n ≤ n
  | 0 => Nat.le_refl _
  | n + 1 => by
    have := y_n_le (P := P) n
    by_cases h : P n
    · rw [y_n_s.1 h]; omega
    · rw [y_n_s.2 h]; omega
theorem y_n_mono {P Q : Nat → Prop} : ∀ n, (∀ x, x < n → P x → Q x) → y_n P n ≤ y_n Q n
  | 0, _ => Nat.le_refl _
  | n + 1, h => by
    have := y_n_mono n (fun x hx => h x (by omega))
    by_cases hp : P n
    · rw [y_n_s.1 hp, y_n_s.1 (h n (by omega) hp)]; omega
    · rw [y_n_s.2 hp]
      by_cases hq : Q n
      · rw [y_n_s.1 hq]; omega
      · rw [y_n_s.2 hq]; exact this
theorem y_n_lt {P Q : Nat → Prop} {v : Nat} (hq : Q v) (hp : ¬ P v) : ∀ n, v < n → (∀ x, x < n → P x → Q x) → y_n P n < y_n Q n
  | 0, hv, _ => absurd hv (by omega)
  | n + 1, hv, h => by
    by_cases e : v = n
    · subst e
      rw [y_n_s.2 hp, y_n_s.1 hq]
      have := y_n_mono v (fun x hx => h x (by omega))
      omega
    · have := y_n_lt hq hp n (by omega) (fun x hx => h x (by omega))
      by_cases hp : P n
      · rw [y_n_s.1 hp, y_n_s.1 (h n (by omega) hp)]; omega
      · rw [y_n_s.2 hp]
        by_cases hq : Q n
        · rw [y_n_s.1 hq]; omega
        · rw [y_n_s.2 hq]; exact this
theorem y_n_all {P : Nat → Prop} : ∀ n, n ≤ y_n P n → ∀ x, x < n → P x
  | 0, _, x, hx => absurd hx (by omega)
  | n + 1, h, x, hx => by
    have hl := y_n_le (P := P) n
    by_cases hp : P n
    · rw [y_n_s.1 hp] at h
      by_cases e : x = n
      · subst e; exact hp
      · exact y_n_all n (by omega) x (by omega)
    · rw [y_n_s.2 hp] at h
      omega
/-- v has its least sum -/
def y_S (E : Nat → Nat → Nat) (r : Nat) (d : Nat → Nat) (v : Nat) : Prop := ∀ s, y_V E r v s → d v ≤ s
theorem y_round {d d' : Nat → Nat} (h0 : d r = 0) (hm : ∀ v, v < 12 → d' v ≤ d v) (hx : ∀ v u, v < 12 → u < 12 → 0 < E v u → d' v ≤ E v u + d u) (hn : ∃ v, v < 12 ∧ ¬ y_S E r d v) : y_n (y_S E r d) 12 < y_n (y_S E r d') 12 := by
  obtain ⟨v, hv, hs⟩ := hn
  have hex : ∃ s, ∃ v, v < 12 ∧ y_V E r v s ∧ s < d v := by
    by_cases hc : ∃ s, y_V E r v s ∧ s < d v
    · obtain ⟨s, h1, h2⟩ := hc; exact ⟨s, v, hv, h1, h2⟩
    · exact absurd (fun s h1 => Nat.le_of_not_lt (fun h2 => hc ⟨s, h1, h2⟩)) hs
  obtain ⟨s, hs⟩ := hex
  obtain ⟨s0, ⟨v0, hv0, h1, h2⟩, hmin⟩ := y_least (P := fun s => ∃ v, v < 12 ∧ y_V E r v s ∧ s < d v) s hs
  have hle : d' v0 ≤ s0 := by
    rcases h1.inv with ⟨rfl, rfl⟩ | ⟨u, s', a1, a2, a3, a4, a5⟩
    · rw [h0] at h2; omega
    · have hu : d u ≤ s' := Nat.le_of_not_lt (fun hl => by have := hmin s' ⟨u, a2, a4, hl⟩; omega)
      have := hx v0 u a1 a2 a3
      omega
  refine y_n_lt (v := v0) (fun t ht => Nat.le_of_not_lt (fun hl => ?_)) (fun hS => ?_) 12 hv0 (fun x hx hS t ht => Nat.le_trans (hm x hx) (hS t ht))
  · have := hmin t ⟨v0, hv0, ht, Nat.lt_of_lt_of_le hl (hm v0 hv0)⟩
    omega
  · have := hS s0 h1
    omega
/-- the least sum of a junction that can be reached is small -/
theorem y_small (hE : ∀ v u, E v u ≤ 999) : ∀ s v, y_V E r v s → (∀ t, y_V E r v t → s ≤ t) → s ≤ 999 * y_n (fun x => ∃ t, y_V E r x t ∧ t < s) 12 := by
  intro s
  induction s using Nat.strongRecOn with
  | ind s ih =>
    intro v h hmin
    rcases h.inv with ⟨-, rfl⟩ | ⟨u, s', a1, a2, a3, a4, a5⟩
    · exact Nat.zero_le _
    · have hu : ∀ t, y_V E r u t → s' ≤ t := fun t ht => by
        have := hmin _ (y_V.step a1 a2 a3 ht)
        omega
      have h1 := ih s' (by omega) u a4 hu
      have h2 : y_n (fun x => ∃ t, y_V E r x t ∧ t < s') 12 < y_n (fun x => ∃ t, y_V E r x t ∧ t < s) 12 := by
        refine y_n_lt (v := u) ⟨s', a4, by omega⟩ (fun ⟨t, ht, hl⟩ => ?_) 12 a2 (fun x _ ⟨t, ht, hl⟩ => ⟨t, ht, by omega⟩)
        have := hu t ht
        omega
      have := hE v u
      omega
theorem y_fin (hE : ∀ v u, E v u ≤ 999) {d : Nat → Nat} {v F : Nat} (hF : 20000 < F) (hS : y_S E r d v) (hd : d v = F ∨ y_V E r v (d v)) :
    ((∃ s, y_V E r v s) → d v < 20000 ∧ y_V E r v (d v)) ∧ ((¬ ∃ s, y_V E r v s) → d v = F) := by
  constructor
  · intro ⟨s, hs⟩
    obtain ⟨s0, h1, h2⟩ := y_least (P := fun s => y_V E r v s) s hs
    have h3 := y_small hE s0 v h1 h2
    have h4 := y_n_le (P := fun x => ∃ t, y_V E r x t ∧ t < s0) 12
    have h5 := hS s0 h1
    have h6 : s0 ≤ 999 * 12 := Nat.le_trans h3 (Nat.mul_le_mul_left 999 h4)
    refine ⟨by omega, ?_⟩
    rcases hd with hd | hd
    · omega
    · exact hd
  · intro h
    rcases hd with hd | hd
    · exact hd
    · exact absurd ⟨_, hd⟩ h
/-- rounds of shortening, as many as there are junctions but one, or until one changes nothing -/
theorem y_go {D : Nat → Nat → Nat} (h0 : ∀ t, D t r = 0) (hr : r < 12) (T : Nat) (hm : ∀ t, t < T → ∀ v, v < 12 → D (t + 1) v ≤ D t v) (hx : ∀ t, t < T → ∀ v u, v < 12 → u < 12 → 0 < E v u → D (t + 1) v ≤ E v u + D t u) (hT : 11 ≤ T ∨ (0 < T ∧ D T = D (T - 1))) : ∀ v, v < 12 → y_S E r (D T) v := by
  have cnt : ∀ t, t ≤ T → t + 1 ≤ y_n (y_S E r (D t)) 12 ∨ ∀ v, v < 12 → y_S E r (D t) v := by
    intro t
    induction t with
    | zero =>
      intro _
      left
      have : y_n (fun _ => False) 12 < y_n (y_S E r (D 0)) 12 := y_n_lt (v := r) (fun s _ => by rw [h0]; omega) id 12 hr (fun _ _ h => h.elim)
      omega
    | succ t ih =>
      intro ht
      by_cases hn : ∃ v, v < 12 ∧ ¬ y_S E r (D t) v
      · rcases ih (by omega) with h | h
        · left
          have := y_round (h0 t) (hm t (by omega)) (hx t (by omega)) hn
          omega
        · obtain ⟨v, hv, hs⟩ := hn
          exact absurd (h v hv) hs
      · right
        intro v hv s hs
        by_cases hS : y_S E r (D t) v
        · exact Nat.le_trans (hm t (by omega) v hv) (hS s hs)
        · exact absurd ⟨v, hv, hS⟩ hn
  rcases hT with hT | ⟨hT, e⟩
  · rcases cnt T (Nat.le_refl _) with h | h
    · exact y_n_all 12 (by omega)
    · exact h
  · intro v hv
    by_cases hn : ∃ v, v < 12 ∧ ¬ y_S E r (D (T - 1)) v
    · have h1 := y_round (h0 (T - 1)) (hm (T - 1) (by omega)) (hx (T - 1) (by omega)) hn
      rw [show T - 1 + 1 = T by omega, e] at h1
      omega
    · rw [e]
      by_cases hS : y_S E r (D (T - 1)) v
      · exact hS
      · exact absurd ⟨v, hv, hS⟩ hn
end Dist
