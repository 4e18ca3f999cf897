/-! Rules for runs of the small machine: more time, one end, calls. -/
section Rules
variable {xs : Nat → Int32} {Ln : Nat}
theorem w_lift {n n' : Nat} (ih : ∀ (t : i_T) (x : i_C) (Q Q' : i_O → s_M → Prop), (∀ o M, Q o M → Q' o M) → w_ex xs Ln n t x Q → w_ex xs Ln n' t x Q') :
    ∀ (t : i_T) (x : i_C) (Q Q' : i_O → s_M → Prop), (∀ o M, Q o M → Q' o M) → w_ex xs Ln (n + 1) t x Q → w_ex xs Ln (n' + 1) t x Q' := by
  intro t x Q Q' hQ h
  obtain ⟨pc, L, st, M, ce, sl⟩ := x
  unfold w_ex at h ⊢
  split at h
  · exact h.elim
  · rename_i ins len a1 a2 pl hat
    split at h
    · split at h
      · exact ⟨h.1, h.2.1, hQ _ _ h.2.2⟩
      · exact h.elim
    · split at h
      · exact ⟨h.1, hQ _ _ h.2⟩
      · exact h.elim
    · split at h
      · exact ⟨h.1, hQ _ _ h.2⟩
      · exact h.elim
    · split at h
      · exact ⟨h.1, hQ _ _ h.2⟩
      · exact h.elim
    · split at h
      · split at h
        · exact ⟨h.1, ih _ _ _ _ hQ h.2⟩
        · exact h.elim
      · refine ⟨h.1, h.2.1, h.2.2.1, h.2.2.2.1, ih _ _ _ _ (fun o M' ho => ?_) h.2.2.2.2⟩
        cases o with
        | inl v => exact ih _ _ _ _ hQ ho
        | inr x => exact ho
    · split at h
      · split at h
        · exact ⟨h.1, h.2.1, ih _ _ _ _ hQ h.2.2⟩
        · exact h.elim
      · refine ⟨h.1, h.2.1, h.2.2.1, ih _ _ _ _ (fun o M' ho => ?_) h.2.2.2⟩
        cases o with
        | inl v => exact ih _ _ _ _ hQ ho
        | inr x => exact ho
    · refine ⟨h.1, h.2.1, h.2.2.1, h.2.2.2.1, ih _ _ _ _ (fun o M' ho => ?_) h.2.2.2.2⟩
      cases o with
      | inl v => exact ih _ _ _ _ hQ ho
      | inr x =>
        revert ho
        show (match k_hd t.1 x with
          | none => _
          | some (pc', k) => _) → (match k_hd t.1 x with
          | none => _
          | some (pc', k) => _)
        split
        · exact fun ho => ⟨ho.1, hQ _ _ ho.2⟩
        · exact fun ho => ih _ _ _ _ hQ ho
    · split at h
      · split at h
        · exact h.elim
        · exact ⟨h.1, ih _ _ _ _ hQ h.2⟩
      · exact ⟨h.1, h.2.1, hQ _ _ h.2.2⟩
    · split at h
      · exact h.elim
      · exact ⟨h.1, ih _ _ _ _ hQ h.2⟩
theorem w_le : ∀ (n k : Nat) (t : i_T) (x : i_C) (Q Q' : i_O → s_M → Prop), (∀ o M, Q o M → Q' o M) → w_ex xs Ln n t x Q → w_ex xs Ln (n + k) t x Q' := by
  intro n
  induction n with
  | zero => intro k t x Q Q' _ h; exact absurd h (by unfold w_ex; exact id)
  | succ n ih =>
    intro k t x Q Q' hQ h
    rw [show n + 1 + k = (n + k) + 1 by omega]
    exact w_lift (fun t x Q Q' => ih k t x Q Q') t x Q Q' hQ h
theorem w_upto {n n' : Nat} (hn : n ≤ n') {t : i_T} {x : i_C} {Q : i_O → s_M → Prop} (h : w_ex xs Ln n t x Q) : w_ex xs Ln n' t x Q := by
  obtain ⟨k, rfl⟩ := Nat.le.dest hn
  exact w_le n k t x Q Q (fun _ _ h => h) h
theorem w_det : ∀ (n : Nat) (t : i_T) (x : i_C) (Q : i_O → s_M → Prop), w_ex xs Ln n t x Q → ∃ (o : i_O) (M' : s_M), Q o M' ∧ ∀ Q' : i_O → s_M → Prop, Q' o M' → w_ex xs Ln n t x Q' := by
  intro n
  induction n with
  | zero => intro t x Q h; exact absurd h (by unfold w_ex; exact id)
  | succ n ih =>
    intro t x Q h
    obtain ⟨pc, L, st, M, ce, sl⟩ := x
    unfold w_ex at h ⊢
    split at h
    · exact h.elim
    · rename_i ins len a1 a2 pl hat
      split at h
      · split at h
        · exact ⟨_, _, h.2.2, fun Q' hq => ⟨h.1, h.2.1, hq⟩⟩
        · exact h.elim
      · split at h
        · exact ⟨_, _, h.2, fun Q' hq => ⟨h.1, hq⟩⟩
        · exact h.elim
      · split at h
        · exact ⟨_, _, h.2, fun Q' hq => ⟨h.1, hq⟩⟩
        · exact h.elim
      · split at h
        · exact ⟨_, _, h.2, fun Q' hq => ⟨h.1, hq⟩⟩
        · exact h.elim
      · split at h
        · split at h
          · obtain ⟨o, M', hq, hf⟩ := ih _ _ _ h.2
            exact ⟨o, M', hq, fun Q' hq' => ⟨h.1, hf Q' hq'⟩⟩
          · exact h.elim
        · obtain ⟨o1, M1, hk, hf1⟩ := ih _ _ _ h.2.2.2.2
          cases o1 with
          | inl v =>
            obtain ⟨o, M', hq, hf⟩ := ih _ _ _ hk
            exact ⟨o, M', hq, fun Q' hq' => ⟨h.1, h.2.1, h.2.2.1, h.2.2.2.1, hf1 _ (hf Q' hq')⟩⟩
          | inr x => exact hk.elim
      · split at h
        · split at h
          · obtain ⟨o, M', hq, hf⟩ := ih _ _ _ h.2.2
            exact ⟨o, M', hq, fun Q' hq' => ⟨h.1, h.2.1, hf Q' hq'⟩⟩
          · exact h.elim
        · obtain ⟨o1, M1, hk, hf1⟩ := ih _ _ _ h.2.2.2
          cases o1 with
          | inl v =>
            obtain ⟨o, M', hq, hf⟩ := ih _ _ _ hk
            exact ⟨o, M', hq, fun Q' hq' => ⟨h.1, h.2.1, h.2.2.1, hf1 _ (hf Q' hq')⟩⟩
          | inr x => exact hk.elim
      · obtain ⟨o1, M1, hk, hf1⟩ := ih _ _ _ h.2.2.2.2
        cases o1 with
        | inl v =>
          obtain ⟨o, M', hq, hf⟩ := ih _ _ _ hk
          exact ⟨o, M', hq, fun Q' hq' => ⟨h.1, h.2.1, h.2.2.1, h.2.2.2.1, hf1 _ (hf Q' hq')⟩⟩
        | inr x =>
          cases hh : k_hd t.1 x with
          | none =>
            have hk2 : k_ex t.1 = [] ∧ Q (.inr x) M1 := by
              have h2 := hk
              simp only [hh] at h2
              exact h2
            refine ⟨.inr x, M1, hk2.2, fun Q' hq' => ⟨h.1, h.2.1, h.2.2.1, h.2.2.2.1, hf1 _ ?_⟩⟩
            simp only [hh]
            exact ⟨hk2.1, hq'⟩
          | some r =>
            obtain ⟨pc', k⟩ := r
            have hk2 := hk
            simp only [hh] at hk2
            obtain ⟨o, M', hq, hf⟩ := ih _ _ _ hk2
            refine ⟨o, M', hq, fun Q' hq' => ⟨h.1, h.2.1, h.2.2.1, h.2.2.2.1, hf1 _ ?_⟩⟩
            simp only [hh]
            exact hf Q' hq'
      · split at h
        · split at h
          · exact h.elim
          · obtain ⟨o, M', hq, hf⟩ := ih _ _ _ h.2
            exact ⟨o, M', hq, fun Q' hq' => ⟨h.1, hf Q' hq'⟩⟩
        · exact ⟨_, _, h.2.2, fun Q' hq => ⟨h.1, h.2.1, hq⟩⟩
      · split at h
        · exact h.elim
        · obtain ⟨o, M', hq, hf⟩ := ih _ _ _ h.2
          exact ⟨o, M', hq, fun Q' hq' => ⟨h.1, hf Q' hq'⟩⟩
theorem w_P.mono {t : i_T} {x : i_C} {Q Q' : i_O → s_M → Prop} (h : w_P xs Ln t x Q) (hq : ∀ o M, Q o M → Q' o M) : w_P xs Ln t x Q' := by
  obtain ⟨n, h⟩ := h
  exact ⟨n, w_le n 0 t x Q Q' hq h⟩
/-- straight on: k instructions that unfold to the point behind them -/
theorem w_P.go {t : i_T} {x x' : i_C} {Q : i_O → s_M → Prop} (k : Nat) (h : w_P xs Ln t x' Q) (hk : ∀ n, w_ex xs Ln n t x' Q → w_ex xs Ln (n + k) t x Q) : w_P xs Ln t x Q := by
  obtain ⟨n, h⟩ := h
  exact ⟨n + k, hk n h⟩
theorem w_callV {t : i_T} {pc i len j na pl ce sl : Nat} {L : i_L} {st as rest : List Value} {M : s_M} {Q K : i_O → s_M → Prop} (hat : i_at t.2.1 pc = some (.invokevirtual i, len, j, na, pl)) (has : (st.take (na + 1)).reverse = as) (hre : st.drop (na + 1) = rest)
    (hrn : i_rn rest as (k_t j).2.2.1 = true) (hlen : na + 1 ≤ st.length) (hrc : i_rc (k_rc j) M as) (hcs : ce + (k_t j).2.2.2.2.1 ≤ t.2.2.2.2.1 ∧ sl + (k_t j).2.2.2.2.2 ≤ t.2.2.2.2.2) (h : w_P xs Ln (k_t j) (0, lv_args 0 as, [], M, 0, 0) K)
    (hr : ∀ (v : Option Value) (M' : s_M), K (.inl v) M' → w_P xs Ln t (pc + 3, L, v.toList ++ rest, M', ce + (k_t j).2.2.2.2.1, sl + (k_t j).2.2.2.2.2) Q)
    (hn : ∀ (x : Nat) (M' : s_M), K (.inr x) M' → k_hd t.1 x = none → k_ex t.1 = [] ∧ Q (.inr x) M')
    (hs : ∀ (x pc' k : Nat) (M' : s_M), K (.inr x) M' → k_hd t.1 x = some (pc', k) → w_P xs Ln t (pc', L.filter (fun q => !(q.1 == k) && !(q.1 + 1 == k && q.2.category == 2)), [], M', ce + (k_t j).2.2.2.2.1, sl + (k_t j).2.2.2.2.2) Q) : w_P xs Ln t (pc, L, st, M, ce, sl) Q := by
  obtain ⟨n1, h1⟩ := h
  obtain ⟨o, M', hk, hf⟩ := w_det _ _ _ _ h1
  subst has
  subst hre
  cases o with
  | inl v =>
    obtain ⟨n2, h2⟩ := hr v M' hk
    refine ⟨max n1 n2 + 1, ?_⟩
    unfold w_ex
    rw [hat]
    exact ⟨hrn, hlen, hrc, hcs, w_upto (Nat.le_max_left _ _) (hf _ (w_upto (Nat.le_max_right n1 n2) h2))⟩
  | inr x =>
    cases hh : k_hd t.1 x with
    | none =>
      refine ⟨n1 + 1, ?_⟩
      unfold w_ex
      rw [hat]
      refine ⟨hrn, hlen, hrc, hcs, hf _ ?_⟩
      simp only [hh]
      exact hn x M' hk hh
    | some r =>
      obtain ⟨pc', k⟩ := r
      obtain ⟨n2, h2⟩ := hs x pc' k M' hk hh
      refine ⟨max n1 n2 + 1, ?_⟩
      unfold w_ex
      rw [hat]
      refine ⟨hrn, hlen, hrc, hcs, w_upto (Nat.le_max_left _ _) (hf _ ?_)⟩
      simp only [hh]
      exact w_upto (Nat.le_max_right n1 n2) h2
theorem w_callS {t : i_T} {pc i len j na pl ce sl : Nat} {L : i_L} {st as rest : List Value} {M : s_M} {Q K : i_O → s_M → Prop} (hat : i_at t.2.1 pc = some (.invokestatic i, len, j, na + 1, pl)) (has : (st.take na).reverse = as) (hre : st.drop na = rest)
    (hrn : i_rn rest as (k_t j).2.2.1 = true) (hlen : na ≤ st.length) (hcs : ce + (k_t j).2.2.2.2.1 ≤ t.2.2.2.2.1 ∧ sl + (k_t j).2.2.2.2.2 ≤ t.2.2.2.2.2) (h : w_P xs Ln (k_t j) (0, lv_args 0 as, [], M, 0, 0) K)
    (hr : ∀ (v : Option Value) (M' : s_M), K (.inl v) M' → w_P xs Ln t (pc + 3, L, v.toList ++ rest, M', ce + (k_t j).2.2.2.2.1, sl + (k_t j).2.2.2.2.2) Q)
    (hn : ∀ (x : Nat) (M' : s_M), K (.inr x) M' → False) : w_P xs Ln t (pc, L, st, M, ce, sl) Q := by
  obtain ⟨n1, h1⟩ := h
  obtain ⟨o, M', hk, hf⟩ := w_det _ _ _ _ h1
  subst has
  subst hre
  cases o with
  | inl v =>
    obtain ⟨n2, h2⟩ := hr v M' hk
    refine ⟨max n1 n2 + 1, ?_⟩
    unfold w_ex
    rw [hat]
    exact ⟨hrn, hlen, hcs, w_upto (Nat.le_max_left _ _) (hf _ (w_upto (Nat.le_max_right n1 n2) h2))⟩
  | inr x => exact (hn x M' hk).elim
theorem w_callI {t : i_T} {pc i len j na pl ce sl : Nat} {L : i_L} {st as rest : List Value} {M : s_M} {Q K : i_O → s_M → Prop} (hat : i_at t.2.1 pc = some (.invokespecial i, len, j, na + 1, pl)) (has : (st.take (na + 1)).reverse = as) (hre : st.drop (na + 1) = rest)
    (hrn : i_rn rest as (k_t j).2.2.1 = true) (hlen : na + 1 ≤ st.length) (hrf : i_rf as) (hcs : ce + (k_t j).2.2.2.2.1 ≤ t.2.2.2.2.1 ∧ sl + (k_t j).2.2.2.2.2 ≤ t.2.2.2.2.2) (h : w_P xs Ln (k_t j) (0, lv_args 0 as, [], M, 0, 0) K)
    (hr : ∀ (v : Option Value) (M' : s_M), K (.inl v) M' → w_P xs Ln t (pc + 3, L, v.toList ++ rest, M', ce + (k_t j).2.2.2.2.1, sl + (k_t j).2.2.2.2.2) Q)
    (hn : ∀ (x : Nat) (M' : s_M), K (.inr x) M' → False) : w_P xs Ln t (pc, L, st, M, ce, sl) Q := by
  obtain ⟨n1, h1⟩ := h
  obtain ⟨o, M', hk, hf⟩ := w_det _ _ _ _ h1
  subst has
  subst hre
  cases o with
  | inl v =>
    obtain ⟨n2, h2⟩ := hr v M' hk
    refine ⟨max n1 n2 + 1, ?_⟩
    unfold w_ex
    rw [hat]
    exact ⟨hrn, hlen, hrf, hcs, w_upto (Nat.le_max_left _ _) (hf _ (w_upto (Nat.le_max_right n1 n2) h2))⟩
  | inr x => exact (hn x M' hk).elim
end Rules
