section Ques
/-- a walk of j questions from k -/
def qs_P (Q : Nat → Bool) (Y N : Nat → Nat) : Nat → Nat → Bool
  | 0, _ => true
  | j + 1, k => Q k && (qs_P Q Y N j (Y k) || qs_P Q Y N j (N k))
def qs_c (f : Nat → Bool) : Nat → Nat
  | 0 => 0
  | n + 1 => (if f n = true then 1 else 0) + qs_c f n
theorem qs_c_s (f : Nat → Bool) (n : Nat) : qs_c f (n + 1) = (if f n = true then 1 else 0) + qs_c f n := rfl
theorem qs_c_le {f g : Nat → Bool} : ∀ n, (∀ k, k < n → f k = true → g k = true) → qs_c f n ≤ qs_c g n := by
  intro n
  induction n with
  | zero => intro _; exact Nat.le_refl _
  | succ n ih =>
    intro h
    have h1 := ih (fun k hk => h k (by omega))
    have h2 := h n (by omega)
    rw [qs_c_s, qs_c_s]
    by_cases hf : f n = true
    · rw [if_pos hf, if_pos (h2 hf)]; omega
    · rw [if_neg hf]; split <;> omega
theorem qs_c_lt {f g : Nat → Bool} : ∀ n, (∀ k, k < n → f k = true → g k = true) → (∃ k, k < n ∧ g k = true ∧ f k = false) → qs_c f n < qs_c g n := by
  intro n
  induction n with
  | zero => intro _ ⟨k, hk, _⟩; omega
  | succ n ih =>
    intro h ⟨k, hk, hg, hf⟩
    rw [qs_c_s, qs_c_s]
    by_cases e : k = n
    · subst e
      have := qs_c_le (f := f) (g := g) k (fun i hi => h i (by omega))
      rw [if_pos hg, if_neg (by rw [hf]; decide)]
      omega
    · have h1 := ih (fun i hi => h i (by omega)) ⟨k, by omega, hg, hf⟩
      by_cases hfn : f n = true
      · rw [if_pos hfn, if_pos (h n (by omega) hfn)]; omega
      · rw [if_neg hfn]; split <;> omega
theorem qs_c_max (f : Nat → Bool) : ∀ n, qs_c f n ≤ n := by
  intro n
  induction n with
  | zero => exact Nat.le_refl _
  | succ n ih => rw [qs_c_s]; split <;> omega
theorem qs_c_0 {f : Nat → Bool} : ∀ n, qs_c f n = 0 → ∀ k, k < n → f k = false := by
  intro n
  induction n with
  | zero => intro _ k hk; omega
  | succ n ih =>
    intro h k hk
    rw [qs_c_s] at h
    by_cases e : f n = true
    · rw [if_pos e] at h; omega
    · by_cases hkn : k = n
      · rw [hkn]; exact Bool.eq_false_iff.mpr e
      · exact ih (by omega) k (by omega)
variable {Q : Nat → Bool} {Y N : Nat → Nat}
theorem qs_s (j k : Nat) : qs_P Q Y N (j + 1) k = (Q k && (qs_P Q Y N j (Y k) || qs_P Q Y N j (N k))) := rfl
theorem qs_i (j k : Nat) : qs_P Q Y N (j + 1) k = true ↔ Q k = true ∧ (qs_P Q Y N j (Y k) = true ∨ qs_P Q Y N j (N k) = true) := by
  rw [qs_s, Bool.and_eq_true, Bool.or_eq_true]
theorem qs_mono : ∀ j k, qs_P Q Y N (j + 1) k = true → qs_P Q Y N j k = true := by
  intro j
  induction j with
  | zero => intro k _; rfl
  | succ j ih =>
    intro k h
    rw [qs_i] at h ⊢
    exact ⟨h.1, h.2.imp (ih _) (ih _)⟩
theorem qs_down {j k : Nat} : ∀ d, qs_P Q Y N (j + d) k = true → qs_P Q Y N j k = true := by
  intro d
  induction d with
  | zero => exact id
  | succ d ih => exact fun h => ih (qs_mono _ _ h)
theorem qs_le {j j' k : Nat} (h : j ≤ j') (hp : qs_P Q Y N j' k = true) : qs_P Q Y N j k = true := by
  obtain ⟨d, rfl⟩ := Nat.le.dest h
  exact qs_down d hp
theorem qs_pg (hY : ∀ k, k < 16 → Y k < 16) (hN : ∀ k, k < 16 → N k < 16) : ∀ i, (qs_c (qs_P Q Y N i) 16 + i ≤ 16) ∨ (∀ k, k < 16 → qs_P Q Y N i k = true → qs_P Q Y N (i + 1) k = true) := by
  have step : ∀ i, (∀ k, k < 16 → qs_P Q Y N i k = true → qs_P Q Y N (i + 1) k = true) → ∀ k, k < 16 → qs_P Q Y N (i + 1) k = true → qs_P Q Y N (i + 1 + 1) k = true := by
    intro i hs k hk h
    rw [qs_i] at h ⊢
    exact ⟨h.1, h.2.imp (hs _ (hY k hk)) (hs _ (hN k hk))⟩
  intro i
  induction i with
  | zero => exact Or.inl (by rw [Nat.add_zero]; exact qs_c_max _ 16)
  | succ i ih =>
    rcases ih with h | h
    · by_cases hs : ∀ k, k < 16 → qs_P Q Y N i k = true → qs_P Q Y N (i + 1) k = true
      · exact Or.inr (step i hs)
      · have hex : ∃ k, k < 16 ∧ qs_P Q Y N i k = true ∧ qs_P Q Y N (i + 1) k = false := by
          apply Classical.byContradiction
          intro hn
          refine hs (fun k hk h1 => ?_)
          by_cases h2 : qs_P Q Y N (i + 1) k = true
          · exact h2
          · exact absurd ⟨k, hk, h1, Bool.eq_false_iff.mpr h2⟩ hn
        have hlt : qs_c (qs_P Q Y N (i + 1)) 16 < qs_c (qs_P Q Y N i) 16 := qs_c_lt 16 (fun k _ => qs_mono i k) hex
        exact Or.inl (by omega)
    · exact Or.inr (step i h)
theorem qs_16 (hY : ∀ k, k < 16 → Y k < 16) (hN : ∀ k, k < 16 → N k < 16) {k : Nat} (hk : k < 16) (h : qs_P Q Y N 16 k = true) : qs_P Q Y N 17 k = true := by
  rcases qs_pg (Q := Q) hY hN 16 with h1 | h1
  · have h2 : qs_c (qs_P Q Y N 16) 16 = 0 := by omega
    rw [qs_c_0 16 h2 k hk] at h
    cases h
  · exact h1 k hk h
def qs_up (Q : Nat → Bool) (Y N : Nat → Nat) (f : Nat → Nat) : Prop := ∀ k, k < 16 → qs_P Q Y N (f k) k = true
def qs_lo (Q : Nat → Bool) (Y N : Nat → Nat) (i : Nat) (f : Nat → Nat) (k : Nat) : Prop := ∀ j, j ≤ i → qs_P Q Y N j k = true → j ≤ f k
theorem qs_fin (hY : ∀ k, k < 16 → Y k < 16) (hN : ∀ k, k < 16 → N k < 16) {f g : Nat → Nat} (uf : qs_up Q Y N f) (lf : ∀ k, k < 16 → qs_lo Q Y N 16 f k) (ug : qs_up Q Y N g) (lg : ∀ k, k < 16 → qs_lo Q Y N 17 g k) {n : Nat} (hn : n < 16) : (f n < 16 ∧ g n = f n) ∨ (16 ≤ f n ∧ 16 < g n) := by
  by_cases h : f n < 16
  · refine Or.inl ⟨h, ?_⟩
    have h16 : ¬ qs_P Q Y N 16 n = true := fun hp => by
      have := lf n hn 16 (by omega) hp
      omega
    have hg : g n < 16 := by
      apply Classical.byContradiction
      intro hg
      exact h16 (qs_le (by omega) (ug n hn))
    have h1 := lg n hn (f n) (by omega) (uf n hn)
    have h2 := lf n hn (g n) (by omega) (ug n hn)
    omega
  · exact Or.inr ⟨by omega, lg n hn 17 (by omega) (qs_16 hY hN hn (qs_le (by omega) (uf n hn)))⟩
theorem qs_stepU {f : Nat → Nat} {k : Nat} (hq : Q k = true) (hy : qs_P Q Y N (f (Y k)) (Y k) = true) (hn : qs_P Q Y N (f (N k)) (N k) = true) : qs_P Q Y N (1 + max (f (Y k)) (f (N k))) k = true := by
  rw [Nat.add_comm, qs_i]
  refine ⟨hq, ?_⟩
  by_cases h : f (Y k) ≤ f (N k)
  · rw [Nat.max_eq_right h]; exact Or.inr hn
  · rw [Nat.max_eq_left (by omega)]; exact Or.inl hy
theorem qs_stepL {f : Nat → Nat} {i k : Nat} (hy : qs_lo Q Y N i f (Y k)) (hn : qs_lo Q Y N i f (N k)) : ∀ j, j ≤ i + 1 → qs_P Q Y N j k = true → j ≤ 1 + max (f (Y k)) (f (N k)) := by
  intro j hj hp
  have m1 := Nat.le_max_left (f (Y k)) (f (N k))
  have m2 := Nat.le_max_right (f (Y k)) (f (N k))
  cases j with
  | zero => omega
  | succ j =>
    rw [qs_i] at hp
    rcases hp.2 with h | h
    · have := hy j (by omega) h; omega
    · have := hn j (by omega) h; omega
theorem qs_leaf {k : Nat} (hq : Q k = false) (v : Nat) : ∀ j, qs_P Q Y N j k = true → j ≤ v := by
  intro j hp
  cases j with
  | zero => omega
  | succ j => rw [qs_i, hq] at hp; cases hp.1
def qs_u (f : Nat → Nat) (k v : Nat) (i : Nat) : Nat := if i = k then v else f i
theorem qs_ue (f : Nat → Nat) (k v : Nat) : qs_u f k v k = v := if_pos rfl
theorem qs_un {f : Nat → Nat} {k v i : Nat} (h : i ≠ k) : qs_u f k v i = f i := if_neg h
def qs_F (Q : Nat → Bool) (Y N : Nat → Nat) (f : Nat → Nat) (k : Nat) : Nat := if Q k = true then 1 + max (f (Y k)) (f (N k)) else 0
theorem n_max {a b : Nat} (ha : a < 2000) (hb : b < 2000) : (1 : Int32) + (if Int32.ofNat a < Int32.ofNat b then Int32.ofNat b else Int32.ofNat a) = Int32.ofNat (1 + max a b) := by
  by_cases h : a < b
  · rw [if_pos ((n_lt (by omega) (by omega)).mpr h), Nat.max_eq_right (by omega)]
    exact n_add 1 b
  · rw [if_neg (mt (n_lt (by omega) (by omega)).mp h), Nat.max_eq_left (by omega)]
    exact n_add 1 a
def qs_card (I : Nat → Nat → Int32) (Q : Nat → Bool) (Y N : Nat → Nat) : Prop := ∀ k, k < 16 → (Q k = true → I 9 k = 0) ∧ (Q k = false → 0 < I 9 k) ∧ I 7 k = Int32.ofNat (Y k) ∧ Y k < 16 ∧ I 8 k = Int32.ofNat (N k) ∧ N k < 16
def qs_cardM (A : Nat → Nat → Int32) (Q : Nat → Bool) (Y N : Nat → Nat) : Prop := ∀ k, k < 16 → (Q k = true → A 203 k = 0 ∧ A 204 k = Int32.ofNat (Y k) ∧ A 205 k = Int32.ofNat (N k)) ∧ (Q k = false → ¬ A 203 k = 0)
def qs_ag (I A : Nat → Nat → Int32) : Prop := ∀ a k, a ≠ 10 → A a k = I a k
def qs_am (I A : Nat → Nat → Int32) : Prop := ∀ a k, a ≠ 206 → a ≠ 207 → A a k = I a k
variable {xs : Nat → Int32} {Ln : Nat} {J : Nat → Nat → Int64} {Z : Nat → Nat → Bool} {w : Nat → Nat} {rem : Nat} {I0 : Nat → Nat → Int32}
theorem qs_82 (hc : qs_card I0 Q Y N) {B c : Nat} (hB : B < 1000) : ∀ g k, k + g = 16 → ∀ (I : Nat → Nat → Int32) (f : Nat → Nat), qs_ag I0 I → (∀ i, i < 16 → I 10 i = Int32.ofNat (f i)) → (∀ i, i < 16 → f i ≤ B + k) → qs_up Q Y N f → (∀ i, i < 16 → qs_lo Q Y N c f i) → (∀ i, i < k → qs_lo Q Y N (c + 1) f i) → ∃ (I1 : Nat → Nat → Int32) (f1 : Nat → Nat), qs_ag I0 I1 ∧ (∀ i, i < 16 → I1 10 i = Int32.ofNat (f1 i)) ∧ (∀ i, i < 16 → f1 i ≤ B + 16) ∧ qs_up Q Y N f1 ∧ (∀ i, i < 16 → qs_lo Q Y N (c + 1) f1 i) ∧ w_R xs Ln 82 (2, [(1, .int (Int32.ofNat k)), (0, .ref 6)], [], (I, J, kR w rem, Z), 0, 0) (fun o s => o = .inl none ∧ s = (I1, J, kR w rem, Z)) := by
  intro g
  induction g with
  | zero =>
    intro k hk I f h1 h2 h3 h4 h5 h6
    have e : k = 16 := by omega
    subst e
    exact ⟨I, f, h1, h2, h3, h4, h6, s82x⟩
  | succ g ih =>
    intro k hk I f h1 h2 h3 h4 h5 h6
    have hk16 : k < 16 := by omega
    obtain ⟨q1, q2, q3, q4, q5, q6⟩ := hc k hk16
    by_cases hq : Q k = true
    · have a1 := h3 _ q4
      have a2 := h3 _ q6
      have m0 : max (f (Y k)) (f (N k)) ≤ B + k := Nat.max_le.mpr ⟨a1, a2⟩
      obtain ⟨v, hv⟩ : ∃ v, v = 1 + max (f (Y k)) (f (N k)) := ⟨_, rfl⟩
      have hz : v_78 I J Z k = false := by unfold v_78; rw [h1 9 k (by omega), q1 hq]; rfl
      obtain ⟨I1, f1, r1, r2, r3, r4, r5, r6⟩ := ih (k + 1) (by omega) (s_up I 10 k (1 + (if Int32.ofNat (f (Y k)) < Int32.ofNat (f (N k)) then Int32.ofNat (f (N k)) else Int32.ofNat (f (Y k))))) (qs_u f k v) (fun a i h => (s_upa h).trans (h1 a i h)) (fun i hi => by
        by_cases e : i = k
        · subst e; rw [s_upe, qs_ue, hv]; exact n_max (by omega) (by omega)
        · rw [s_upk e, qs_un e]; exact h2 i hi) (fun i hi => by
        by_cases e : i = k
        · subst e; rw [qs_ue]; omega
        · rw [qs_un e]; have := h3 i hi; omega) (fun i hi => by
        by_cases e : i = k
        · subst e; rw [qs_ue, hv]; exact qs_stepU hq (h4 _ q4) (h4 _ q6)
        · rw [qs_un e]; exact h4 i hi) (fun i hi => by
        by_cases e : i = k
        · subst e; intro j hj hp; rw [qs_ue, hv]; exact qs_stepL (h5 _ q4) (h5 _ q6) j (by omega) hp
        · intro j hj hp; rw [qs_un e]; exact h5 i hi j hj hp) (fun i hi => by
        by_cases e : i = k
        · subst e; intro j hj hp; rw [qs_ue, hv]; exact qs_stepL (h5 _ q4) (h5 _ q6) j hj hp
        · intro j hj hp; rw [qs_un e]; exact h6 i (by omega) j hj hp)
      exact ⟨I1, f1, r1, r2, r3, r4, r5, s82b k (Y k) (N k) (f (Y k)) (f (N k)) hk16 hz q4 q6 ((h1 7 k (by omega)).trans q3) ((h1 8 k (by omega)).trans q5) (h2 _ q4) (h2 _ q6) _ r6⟩
    · have hq0 := Bool.eq_false_iff.mpr hq
      have hz : v_78 I J Z k = true := by unfold v_78; rw [h1 9 k (by omega), if_pos (q2 hq0)]
      obtain ⟨I1, f1, r1, r2, r3, r4, r5, r6⟩ := ih (k + 1) (by omega) I f h1 h2 (fun i hi => by have := h3 i hi; omega) h4 h5 (fun i hi => by
        by_cases e : i = k
        · subst e; exact fun j _ hp => qs_leaf hq0 _ j hp
        · exact h6 i (by omega))
      exact ⟨I1, f1, r1, r2, r3, r4, r5, s82a k hk16 hz _ r6⟩
theorem qs_81z {n : Nat} : ∀ g k, k + g = 16 → ∀ I : Nat → Nat → Int32, qs_ag I0 I → (∀ i, i < k → I 10 i = Int32.ofNat 0) → ∃ I1 : Nat → Nat → Int32, qs_ag I0 I1 ∧ (∀ i, i < 16 → I1 10 i = Int32.ofNat 0) ∧ ∀ R : i_O → s_S → Prop, w_R xs Ln 81 (23, [(2, .int (Int32.ofNat 0)), (0, .ref 6), (1, .int (Int32.ofNat n))], [], (I1, J, kR w rem, Z), 0, 0) R → w_R xs Ln 81 (2, [(2, .int (Int32.ofNat k)), (0, .ref 6), (1, .int (Int32.ofNat n))], [], (I, J, kR w rem, Z), 0, 0) R := by
  intro g
  induction g with
  | zero =>
    intro k hk I h1 h2
    have e : k = 16 := by omega
    subst e
    exact ⟨I, h1, h2, fun R h => s81b n R h⟩
  | succ g ih =>
    intro k hk I h1 h2
    obtain ⟨I1, r1, r2, r3⟩ := ih (k + 1) (by omega) (s_up I 10 k 0) (fun a i h => (s_upa h).trans (h1 a i h)) (fun i hi => by
      by_cases e : i = k
      · subst e; rw [s_upe]; rfl
      · rw [s_upk e]; exact h2 i (by omega))
    exact ⟨I1, r1, r2, fun R h => s81a n k (by omega) R (r3 R h)⟩
theorem qs_81r (hc : qs_card I0 Q Y N) {n : Nat} : ∀ g k, k + g = 16 → ∀ (I : Nat → Nat → Int32) (f : Nat → Nat), qs_ag I0 I → (∀ i, i < 16 → I 10 i = Int32.ofNat (f i)) → (∀ i, i < 16 → f i ≤ 16 * k) → qs_up Q Y N f → (∀ i, i < 16 → qs_lo Q Y N k f i) → ∃ (I1 : Nat → Nat → Int32) (f1 : Nat → Nat), qs_ag I0 I1 ∧ (∀ i, i < 16 → I1 10 i = Int32.ofNat (f1 i)) ∧ (∀ i, i < 16 → f1 i ≤ 256) ∧ qs_up Q Y N f1 ∧ (∀ i, i < 16 → qs_lo Q Y N 16 f1 i) ∧ ∀ R : i_O → s_S → Prop, w_R xs Ln 81 (23, [(2, .int (Int32.ofNat 16)), (0, .ref 6), (1, .int (Int32.ofNat n))], [], (I1, J, kR w rem, Z), 0, 0) R → w_R xs Ln 81 (23, [(2, .int (Int32.ofNat k)), (0, .ref 6), (1, .int (Int32.ofNat n))], [], (I, J, kR w rem, Z), 0, 0) R := by
  intro g
  induction g with
  | zero =>
    intro k hk I f h1 h2 h3 h4 h5
    have e : k = 16 := by omega
    subst e
    exact ⟨I, f, h1, h2, h3, h4, h5, fun R h => h⟩
  | succ g ih =>
    intro k hk I f h1 h2 h3 h4 h5
    obtain ⟨I1, f1, r1, r2, r3, r4, r5, r6⟩ := qs_82 (xs := xs) (Ln := Ln) (J := J) (Z := Z) (w := w) (rem := rem) hc (B := 16 * k) (c := k) (by omega) 16 0 rfl I f h1 h2 h3 h4 h5 (fun i hi => by omega)
    obtain ⟨I2, f2, u1, u2, u3, u4, u5, u6⟩ := ih (k + 1) (by omega) I1 f1 r1 r2 (fun i hi => by have := r3 i hi; omega) r4 r5
    exact ⟨I2, f2, u1, u2, u3, u4, u5, fun R h => s81c n k I1 (by omega) (s82y _ r6) R (u6 R h)⟩
theorem qs_81 (hc : qs_card I0 Q Y N) {n : Nat} (hn : n < 16) : ∃ (I1 : Nat → Nat → Int32) (f : Nat → Nat), qs_ag I0 I1 ∧ qs_up Q Y N f ∧ (∀ i, i < 16 → qs_lo Q Y N 16 f i) ∧ w_R xs Ln 81 (0, [(0, .ref 6), (1, .int (Int32.ofNat n))], [], (I0, J, kR w rem, Z), 0, 0) (fun o s => o = .inl (some (.int (if f n < 16 then Int32.ofNat (f n) else -1))) ∧ s = (I1, J, kR w rem, Z)) := by
  obtain ⟨I1, r1, r2, r3⟩ := qs_81z (xs := xs) (Ln := Ln) (J := J) (Z := Z) (w := w) (rem := rem) (I0 := I0) (n := n) 16 0 rfl I0 (fun _ _ _ => rfl) (fun i hi => by omega)
  obtain ⟨I2, f2, u1, u2, u3, u4, u5, u6⟩ := qs_81r (xs := xs) (Ln := Ln) (J := J) (Z := Z) (w := w) (rem := rem) hc (n := n) 16 0 rfl I1 (fun _ => 0) r1 r2 (fun _ _ => Nat.le_refl _) (fun _ _ => rfl) (fun i _ j hj _ => hj)
  refine ⟨I2, f2, u1, u4, u5, s81y n _ (r3 _ (u6 _ ?_))⟩
  have hb := u3 n hn
  by_cases h : f2 n < 16
  · rw [if_pos h]
    exact s81r n (f2 n) hn (u2 n hn) ((n_lt (b := 16) (by omega) (by omega)).mpr h)
  · rw [if_neg h]
    exact s81s n (f2 n) hn (u2 n hn) (mt (n_lt (b := 16) (by omega) (by omega)).mp h)
theorem qs_115z {n : Nat} : ∀ g k, k + g = 16 → ∀ I : Nat → Nat → Int32, qs_am I0 I → (∀ i, i < k → I 206 i = Int32.ofNat 0) → ∃ I1 : Nat → Nat → Int32, qs_am I0 I1 ∧ (∀ i, i < 16 → I1 206 i = Int32.ofNat 0) ∧ ∀ R : i_O → s_S → Prop, w_R xs Ln 115 (40, [(2, .int (Int32.ofNat 0)), (0, .ref 199), (1, .int (Int32.ofNat n))], [], (I1, J, kR w rem, Z), 0, 0) R → w_R xs Ln 115 (19, [(2, .int (Int32.ofNat k)), (0, .ref 199), (1, .int (Int32.ofNat n))], [], (I, J, kR w rem, Z), 0, 0) R := by
  intro g
  induction g with
  | zero =>
    intro k hk I h1 h2
    have e : k = 16 := by omega
    subst e
    exact ⟨I, h1, h2, fun R h => s115b n R h⟩
  | succ g ih =>
    intro k hk I h1 h2
    obtain ⟨I1, r1, r2, r3⟩ := ih (k + 1) (by omega) (s_up I 206 k 0) (fun a i h h' => (s_upa h).trans (h1 a i h h')) (fun i hi => by
      by_cases e : i = k
      · subst e; rw [s_upe]; rfl
      · rw [s_upk e]; exact h2 i (by omega))
    exact ⟨I1, r1, r2, fun R h => s115a n k (by omega) R (r3 R h)⟩
theorem qs_115n (hc : qs_cardM I0 Q Y N) (hY : ∀ k, k < 16 → Y k < 16) (hN : ∀ k, k < 16 → N k < 16) {n c B : Nat} {f : Nat → Nat} (hf : ∀ i, i < 16 → f i ≤ B) (hB : B < 1000) : ∀ g k, k + g = 16 → ∀ I : Nat → Nat → Int32, qs_am I0 I → (∀ i, i < 16 → I 206 i = Int32.ofNat (f i)) → (∀ i, i < k → I 207 i = Int32.ofNat (qs_F Q Y N f i)) → ∃ I1 : Nat → Nat → Int32, qs_am I0 I1 ∧ (∀ i, i < 16 → I1 207 i = Int32.ofNat (qs_F Q Y N f i)) ∧ ∀ R : i_O → s_S → Prop, w_R xs Ln 115 (136, [(3, .int (Int32.ofNat 0)), (2, .int (Int32.ofNat c)), (0, .ref 199), (1, .int (Int32.ofNat n))], [], (I1, J, kR w rem, Z), 0, 0) R → w_R xs Ln 115 (48, [(3, .int (Int32.ofNat k)), (2, .int (Int32.ofNat c)), (0, .ref 199), (1, .int (Int32.ofNat n))], [], (I, J, kR w rem, Z), 0, 0) R := by
  intro g
  induction g with
  | zero =>
    intro k hk I h1 h2 h3
    have e : k = 16 := by omega
    subst e
    exact ⟨I, h1, h3, fun R h => s115g n c R h⟩
  | succ g ih =>
    intro k hk I h1 h2 h3
    have hk16 : k < 16 := by omega
    obtain ⟨q1, q2⟩ := hc k hk16
    have b1 := hf _ (hY k hk16)
    have b2 := hf _ (hN k hk16)
    have nx : ∀ x : Int32, x = Int32.ofNat (qs_F Q Y N f k) → (∀ R : i_O → s_S → Prop, w_R xs Ln 115 (48, [(3, .int (Int32.ofNat (k + 1))), (2, .int (Int32.ofNat c)), (0, .ref 199), (1, .int (Int32.ofNat n))], [], (s_up I 207 k x, J, kR w rem, Z), 0, 0) R → w_R xs Ln 115 (48, [(3, .int (Int32.ofNat k)), (2, .int (Int32.ofNat c)), (0, .ref 199), (1, .int (Int32.ofNat n))], [], (I, J, kR w rem, Z), 0, 0) R) → ∃ I1 : Nat → Nat → Int32, qs_am I0 I1 ∧ (∀ i, i < 16 → I1 207 i = Int32.ofNat (qs_F Q Y N f i)) ∧ ∀ R : i_O → s_S → Prop, w_R xs Ln 115 (136, [(3, .int (Int32.ofNat 0)), (2, .int (Int32.ofNat c)), (0, .ref 199), (1, .int (Int32.ofNat n))], [], (I1, J, kR w rem, Z), 0, 0) R → w_R xs Ln 115 (48, [(3, .int (Int32.ofNat k)), (2, .int (Int32.ofNat c)), (0, .ref 199), (1, .int (Int32.ofNat n))], [], (I, J, kR w rem, Z), 0, 0) R := by
      intro x hx ht
      obtain ⟨I1, r1, r2, r3⟩ := ih (k + 1) (by omega) (s_up I 207 k x) (fun a i h h' => (s_upa h').trans (h1 a i h h')) (fun i hi => (s_upa (by omega)).trans (h2 i hi)) (fun i hi => by
        by_cases e : i = k
        · subst e; rw [s_upe]; exact hx
        · rw [s_upk e]; exact h3 i (by omega))
      exact ⟨I1, r1, r2, fun R h => ht R (r3 R h)⟩
    by_cases hq : Q k = true
    · obtain ⟨w1, w2, w3⟩ := q1 hq
      have l0 := (h1 203 k (by omega) (by omega)).trans w1
      have ly := (h1 204 k (by omega) (by omega)).trans w2
      have ln := (h1 205 k (by omega) (by omega)).trans w3
      by_cases h : f (N k) < f (Y k)
      · exact nx (Int32.ofNat (1 + f (Y k))) (by unfold qs_F; rw [if_pos hq, Nat.max_eq_left (by omega)]) (fun R hR => s115e n c k (Y k) (N k) (f (Y k)) (f (N k)) hk16 l0 (hY k hk16) (hN k hk16) ly ln (h2 _ (hY k hk16)) (h2 _ (hN k hk16)) ((n_lt (by omega) (by omega)).mpr h) R hR)
      · exact nx (Int32.ofNat (1 + f (N k))) (by unfold qs_F; rw [if_pos hq, Nat.max_eq_right (by omega)]) (fun R hR => s115f n c k (Y k) (N k) (f (Y k)) (f (N k)) hk16 l0 (hY k hk16) (hN k hk16) ly ln (h2 _ (hY k hk16)) (h2 _ (hN k hk16)) (mt (n_lt (by omega) (by omega)).mp h) R hR)
    · exact nx 0 (by unfold qs_F; rw [if_neg hq]; rfl) (fun R hR => s115d n c k hk16 (by rw [h1 203 k (by omega) (by omega)]; exact q2 (Bool.eq_false_iff.mpr hq)) R hR)
theorem qs_115p {n c : Nat} {h0 : Nat → Nat} : ∀ g k, k + g = 16 → ∀ I : Nat → Nat → Int32, qs_am I0 I → (∀ i, i < 16 → I 207 i = Int32.ofNat (h0 i)) → (∀ i, i < k → I 206 i = Int32.ofNat (h0 i)) → ∃ I1 : Nat → Nat → Int32, qs_am I0 I1 ∧ (∀ i, i < 16 → I1 206 i = Int32.ofNat (h0 i)) ∧ ∀ R : i_O → s_S → Prop, w_R xs Ln 115 (40, [(2, .int (Int32.ofNat (c + 1))), (0, .ref 199), (1, .int (Int32.ofNat n))], [], (I1, J, kR w rem, Z), 0, 0) R → w_R xs Ln 115 (136, [(3, .int (Int32.ofNat k)), (2, .int (Int32.ofNat c)), (0, .ref 199), (1, .int (Int32.ofNat n))], [], (I, J, kR w rem, Z), 0, 0) R := by
  intro g
  induction g with
  | zero =>
    intro k hk I h1 h2 h3
    have e : k = 16 := by omega
    subst e
    exact ⟨I, h1, h3, fun R h => s115i n c R h⟩
  | succ g ih =>
    intro k hk I h1 h2 h3
    obtain ⟨I1, r1, r2, r3⟩ := ih (k + 1) (by omega) (s_up I 206 k (I 207 k)) (fun a i h h' => (s_upa h).trans (h1 a i h h')) (fun i hi => (s_upa (by omega)).trans (h2 i hi)) (fun i hi => by
      by_cases e : i = k
      · subst e; rw [s_upe]; exact h2 i (by omega)
      · rw [s_upk e]; exact h3 i (by omega))
    exact ⟨I1, r1, r2, fun R h => s115h n c k (by omega) R (r3 R h)⟩
theorem qs_115r (hc : qs_cardM I0 Q Y N) (hY : ∀ k, k < 16 → Y k < 16) (hN : ∀ k, k < 16 → N k < 16) {n : Nat} : ∀ g c, c + g = 17 → ∀ (I : Nat → Nat → Int32) (f : Nat → Nat), qs_am I0 I → (∀ i, i < 16 → I 206 i = Int32.ofNat (f i)) → (∀ i, i < 16 → f i ≤ c) → qs_up Q Y N f → (∀ i, i < 16 → qs_lo Q Y N c f i) → ∃ (I1 : Nat → Nat → Int32) (f1 : Nat → Nat), qs_am I0 I1 ∧ (∀ i, i < 16 → I1 206 i = Int32.ofNat (f1 i)) ∧ (∀ i, i < 16 → f1 i ≤ 17) ∧ qs_up Q Y N f1 ∧ (∀ i, i < 16 → qs_lo Q Y N 17 f1 i) ∧ ∀ R : i_O → s_S → Prop, w_R xs Ln 115 (40, [(2, .int (Int32.ofNat 17)), (0, .ref 199), (1, .int (Int32.ofNat n))], [], (I1, J, kR w rem, Z), 0, 0) R → w_R xs Ln 115 (40, [(2, .int (Int32.ofNat c)), (0, .ref 199), (1, .int (Int32.ofNat n))], [], (I, J, kR w rem, Z), 0, 0) R := by
  intro g
  induction g with
  | zero =>
    intro c hcg I f h1 h2 h3 h4 h5
    have e : c = 17 := by omega
    subst e
    exact ⟨I, f, h1, h2, h3, h4, h5, fun R h => h⟩
  | succ g ih =>
    intro c hcg I f h1 h2 h3 h4 h5
    obtain ⟨I1, r1, r2, r3⟩ := qs_115n (xs := xs) (Ln := Ln) (J := J) (Z := Z) (w := w) (rem := rem) hc hY hN (n := n) (c := c) h3 (by omega) 16 0 rfl I h1 h2 (fun i hi => by omega)
    obtain ⟨I2, u1, u2, u3⟩ := qs_115p (xs := xs) (Ln := Ln) (J := J) (Z := Z) (w := w) (rem := rem) (n := n) (c := c) 16 0 rfl I1 r1 r2 (fun i hi => by omega)
    obtain ⟨I3, f3, t1, t2, t3, t4, t5, t6⟩ := ih (c + 1) (by omega) I2 (qs_F Q Y N f) u1 u2 (fun i hi => by
      have b1 := h3 _ (hY i hi)
      have b2 := h3 _ (hN i hi)
      have b3 : max (f (Y i)) (f (N i)) ≤ c := Nat.max_le.mpr ⟨b1, b2⟩
      unfold qs_F
      split <;> omega) (fun i hi => by
      unfold qs_F
      by_cases hq : Q i = true
      · rw [if_pos hq]; exact qs_stepU hq (h4 _ (hY i hi)) (h4 _ (hN i hi))
      · rw [if_neg hq]; rfl) (fun i hi j hj hp => by
      unfold qs_F
      by_cases hq : Q i = true
      · rw [if_pos hq]; exact qs_stepL (h5 _ (hY i hi)) (h5 _ (hN i hi)) j hj hp
      · rw [if_neg hq]; exact qs_leaf (Bool.eq_false_iff.mpr hq) _ j hp)
    exact ⟨I3, f3, t1, t2, t3, t4, t5, fun R h => s115c n c (by omega) R (r3 R (u3 R (t6 R h)))⟩
theorem qs_115 (hc : qs_cardM I0 Q Y N) (hY : ∀ k, k < 16 → Y k < 16) (hN : ∀ k, k < 16 → N k < 16) {n : Nat} (hn : n < 16) : ∃ (I1 : Nat → Nat → Int32) (f : Nat → Nat), qs_am (s_up I0 199 59 0) I1 ∧ qs_up Q Y N f ∧ (∀ i, i < 16 → qs_lo Q Y N 17 f i) ∧ w_R xs Ln 115 (0, [(0, .ref 199), (1, .int (Int32.ofNat n))], [], (I0, J, kR w rem, Z), 0, 0) (fun o s => o = .inl (some (.int (if 16 < f n then -1 else Int32.ofNat (f n)))) ∧ s = (I1, J, kR w rem, Z)) := by
  have hc' : qs_cardM (s_up I0 199 59 0) Q Y N := fun k hk => by
    rw [s_upa (by omega), s_upa (by omega), s_upa (by omega)]
    exact hc k hk
  obtain ⟨I1, r1, r2, r3⟩ := qs_115z (xs := xs) (Ln := Ln) (J := J) (Z := Z) (w := w) (rem := rem) (I0 := s_up I0 199 59 0) (n := n) 16 0 rfl (s_up I0 199 59 0) (fun _ _ _ _ => rfl) (fun i hi => by omega)
  obtain ⟨I2, f2, u1, u2, u3, u4, u5, u6⟩ := qs_115r (xs := xs) (Ln := Ln) (J := J) (Z := Z) (w := w) (rem := rem) hc' hY hN (n := n) 17 0 rfl I1 (fun _ => 0) r1 r2 (fun _ _ => Nat.le_refl _) (fun _ _ => rfl) (fun i _ j hj _ => hj)
  refine ⟨I2, f2, u1, u4, u5, s115y n hn _ (r3 _ (u6 _ ?_))⟩
  have hb := u3 n hn
  by_cases h : 16 < f2 n
  · rw [if_pos h]
    exact s115s n (f2 n) hn (u2 n hn) ((n_lt (a := 16) (by omega) (by omega)).mpr h)
  · rw [if_neg h]
    exact s115r n (f2 n) hn (u2 n hn) (mt (n_lt (a := 16) (by omega) (by omega)).mp h)
theorem op_3 : ∀ a0 : Int32, lw_ok xs Ln g_Rel 4 115 [.int a0] := by
  intro a0 m σ hR hm
  obtain ⟨I, J, Z, w, rem, p, q0, n0, rfl, hP, hV⟩ := hR
  by_cases c0 : l_rg a0 0 16 = false
  · exact lw_bad (b_4_0 a0 c0) (b_115_0 a0 c0) rfl hP hV
  replace c0 := eq_true_of_ne_false c0
  obtain ⟨n, hn, rfl⟩ := l_of c0
  have hcl : ∀ {x : Int32}, l_in x 16 = true → x = Int32.ofNat x.toNatClampNeg ∧ x.toNatClampNeg < 16 := fun {x} h => by
    obtain ⟨k, hk, e⟩ := l_of h
    rw [e, n_cl (by omega)]
    exact ⟨rfl, hk⟩
  have hY : ∀ k, k < 16 → (fun k => (I 7 k).toNatClampNeg) k < 16 := fun k hk => (hcl (hV.R.card k hk).2.2.2.1).2
  have hN : ∀ k, k < 16 → (fun k => (I 8 k).toNatClampNeg) k < 16 := fun k hk => (hcl (hV.R.card k hk).2.2.2.2).2
  have hc : qs_card I (fun k => decide (I 9 k = 0)) (fun k => (I 7 k).toNatClampNeg) (fun k => (I 8 k).toNatClampNeg) := fun k hk => by
    obtain ⟨b0, b1, b2, b3, b4⟩ := hV.R.card k hk
    refine ⟨fun h => of_decide_eq_true h, fun h => ?_, (hcl b3).1, (hcl b3).2, (hcl b4).1, (hcl b4).2⟩
    have h0 := of_decide_eq_false h
    obtain ⟨b, hb, eb⟩ := l_of b1
    rw [eb] at h0 ⊢
    refine n_pos (Nat.pos_of_ne_zero (fun e => h0 ?_)) (by omega)
    subst e; rfl
  obtain ⟨I1, f, r1, r2, r3, r4⟩ := qs_81 (xs := xs) (Ln := Ln) (J := J) (Z := Z) (w := w) (rem := rem) hc hn
  have hcm : qs_cardM I1 (fun k => decide (I 9 k = 0)) (fun k => (I 7 k).toNatClampNeg) (fun k => (I 8 k).toNatClampNeg) := fun k hk => by
    obtain ⟨b0, b1, b2, b3, b4⟩ := hV.R.card k hk
    rw [r1 203 k (by omega), r1 204 k (by omega), r1 205 k (by omega), ← b0]
    refine ⟨fun h => ?_, fun h => of_decide_eq_false h⟩
    have h0 := of_decide_eq_true h
    obtain ⟨e1, e2⟩ := b2 h0
    exact ⟨h0, e1.symm.trans (hcl b3).1, e2.symm.trans (hcl b4).1⟩
  obtain ⟨I2, g, t1, t2, t3, t4⟩ := qs_115 (xs := xs) (Ln := Ln) (J := J) (Z := Z) (w := w) (rem := rem) hcm hY hN hn
  have hv : (if 16 < g n then (-1 : Int32) else Int32.ofNat (g n)) = if f n < 16 then Int32.ofNat (f n) else -1 := by
    rcases qs_fin hY hN r2 r3 t2 t3 hn with ⟨h1, h2⟩ | ⟨h1, h2⟩
    · rw [if_pos h1, if_neg (by omega), h2]
    · rw [if_pos h2, if_neg (by omega)]
  refine lw_fin (n := n0) (d_4 n _ I1 hn r4) t4 hv hP (g_V.mono ((hV.thr 0).congr (fun a k h _ h10 => r1 a k h10) (fun _ _ _ => rfl) (fun _ _ _ => rfl) (fun a k h1 _ _ h6 h7 _ h9 => ?_) (fun _ _ _ _ => rfl) (fun _ _ _ _ => rfl))) (fun a k h => ?_) (fun _ _ _ => rfl) (fun _ _ _ => rfl)
  · exact (t1 a k h6 h7).trans (s_up_c (r1 a k (by omega)))
  · exact (t1 a k (by omega) (by omega)).trans (s_upa (by omega))
end Ques
