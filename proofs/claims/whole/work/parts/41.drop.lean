/-! Locals that are not read may lie there. -/
section Drop
variable {xs : Nat → Int32} {Ln : Nat}
abbrev d_K (K : Nat → Bool) (L : i_L) : i_L := L.filter (fun q => !K q.1)
theorem d_ld {K : Nat → Bool} {k : Nat} {v : Value} : ∀ {L : i_L}, i_ld (d_K K L) k = some v → K k = false ∧ i_ld L k = some v := by
  intro L
  unfold i_ld
  induction L with
  | nil => intro h; cases h
  | cons e r ih =>
    obtain ⟨a, x⟩ := e
    intro h
    by_cases hK : K a = true
    · have h1 : d_K K ((a, x) :: r) = d_K K r := by simp [d_K, hK]
      rw [h1] at h
      obtain ⟨h2, h3⟩ := ih h
      refine ⟨h2, ?_⟩
      have hne : (k == a) = false := by
        rw [beq_eq_false_iff_ne]
        intro e
        subst e
        rw [h2] at hK
        cases hK
      rw [List.lookup_cons, hne]
      exact h3
    · have hK : K a = false := by simpa using hK
      have h1 : d_K K ((a, x) :: r) = (a, x) :: d_K K r := by simp [d_K, hK]
      rw [h1, List.lookup_cons] at h
      rw [List.lookup_cons]
      cases he : k == a with
      | true =>
        rw [he] at h
        rw [eq_of_beq he]
        exact ⟨hK, h⟩
      | false =>
        rw [he] at h
        exact ih h
theorem d_st {K : Nat → Bool} {L : i_L} {i : Nat} {v : Value} {f : Nat × Value → Bool} (hf : ∀ q, f q = true → q.1 ≠ i) : (i, v) :: (d_K K L).filter f = d_K (fun a => K a && !(a == i)) ((i, v) :: L.filter f) := by
  have h1 : d_K (fun a => K a && !(a == i)) ((i, v) :: L.filter f) = (i, v) :: d_K (fun a => K a && !(a == i)) (L.filter f) := by simp [d_K]
  rw [h1]
  congr 1
  unfold d_K
  rw [List.filter_filter, List.filter_filter]
  apply List.filter_congr
  intro q _
  cases hq : f q with
  | false => simp
  | true =>
    have := hf q hq
    simp [this]
theorem d_s1 {K : Nat → Bool} {L : i_L} {i : Nat} {v : Value} : i_s1 (d_K K L) i v = d_K (fun a => K a && !(a == i)) (i_s1 L i v) := by
  unfold i_s1
  refine d_st (fun q hq => ?_)
  simp only [Bool.and_eq_true, Bool.not_eq_true', beq_eq_false_iff_ne] at hq
  exact hq.1
theorem d_s2 {K : Nat → Bool} {L : i_L} {i : Nat} {v : Value} : i_s2 (d_K K L) i v = d_K (fun a => K a && !(a == i)) (i_s2 L i v) := by
  unfold i_s2
  refine d_st (fun q hq => ?_)
  simp only [Bool.and_eq_true, Bool.not_eq_true', beq_eq_false_iff_ne] at hq
  exact hq.1
set_option maxHeartbeats 4000000 in
theorem d_ist {K : Nat → Bool} {mc ms : Nat} {ins : Instr} {a1 a2 pc : Nat} {L : i_L} {st : List Value} {M : s_M} {ce sl : Nat} {P : Prop} {x' : i_C} (h : i_st xs Ln mc ms ins a1 a2 pc (d_K K L) st M ce sl = some (P, x')) :
    ∃ (L1 : i_L) (K' : Nat → Bool), i_st xs Ln mc ms ins a1 a2 pc L st M ce sl = some (P, x'.1, L1, x'.2.2) ∧ x'.2.1 = d_K K' L1 := by
  cases ins with
  | iload_n k => simp only [i_st] at h; split at h <;> first | (cases h; done) | (rename_i hx; cases h; exact ⟨L, K, by simp only [i_st, (d_ld hx).2], rfl⟩)
  | iload k => simp only [i_st] at h; split at h <;> first | (cases h; done) | (rename_i hx; cases h; exact ⟨L, K, by simp only [i_st, (d_ld hx).2], rfl⟩)
  | lload k => simp only [i_st] at h; split at h <;> first | (cases h; done) | (rename_i hx; cases h; exact ⟨L, K, by simp only [i_st, (d_ld hx).2], rfl⟩)
  | aload_n k => simp only [i_st] at h; split at h <;> first | (cases h; done) | (rename_i hx; cases h; exact ⟨L, K, by simp only [i_st, (d_ld hx).2], rfl⟩)
  | aload k => simp only [i_st] at h; split at h <;> first | (cases h; done) | (rename_i hx; cases h; exact ⟨L, K, by simp only [i_st, (d_ld hx).2], rfl⟩)
  | iinc k n => simp only [i_st] at h; split at h <;> first | (cases h; done) | (rename_i hx; cases h; exact ⟨_, _, by simp only [i_st, (d_ld hx).2], d_s1⟩)
  | istore_n k => simp only [i_st] at h; split at h <;> first | (cases h; done) | (cases h; exact ⟨_, _, rfl, d_s1⟩)
  | istore k => simp only [i_st] at h; split at h <;> first | (cases h; done) | (cases h; exact ⟨_, _, rfl, d_s1⟩)
  | astore_n k => simp only [i_st] at h; split at h <;> first | (cases h; done) | (cases h; exact ⟨_, _, rfl, d_s1⟩)
  | astore k => simp only [i_st] at h; split at h <;> first | (cases h; done) | (cases h; exact ⟨_, _, rfl, d_s1⟩)
  | lstore k => simp only [i_st] at h; split at h <;> first | (cases h; done) | (cases h; exact ⟨_, _, rfl, d_s2⟩)
  | putfield i =>
    simp only [i_st] at h
    split at h
    · split at h
      · rename_i hw
        cases h
        exact ⟨L, K, by simp only [i_st, hw], rfl⟩
      · cases h
    · cases h
  | iconst n => cases h; exact ⟨L, K, rfl, rfl⟩
  | bipush n => cases h; exact ⟨L, K, rfl, rfl⟩
  | sipush n => cases h; exact ⟨L, K, rfl, rfl⟩
  | lconst n => cases h; exact ⟨L, K, rfl, rfl⟩
  | ldc n => cases h; exact ⟨L, K, rfl, rfl⟩
  | ldc2_w n => cases h; exact ⟨L, K, rfl, rfl⟩
  | goto n => cases h; exact ⟨L, K, rfl, rfl⟩
  | _ => simp only [i_st] at h; first | (cases h; done) | (split at h <;> first | (cases h; done) | (cases h; exact ⟨L, K, rfl, rfl⟩))
theorem d_comm {K : Nat → Bool} {L : i_L} {f : Nat × Value → Bool} : (d_K K L).filter f = d_K K (L.filter f) := by
  unfold d_K
  rw [List.filter_filter, List.filter_filter]
  apply List.filter_congr
  intro q _
  exact Bool.and_comm _ _
/-- what is dropped may lie there -/
theorem w_drop : ∀ (n : Nat) (t : i_T) (pc : Nat) (L : i_L) (st : List Value) (M : s_M) (ce sl : Nat) (Q : i_O → s_M → Prop) (K : Nat → Bool), w_ex xs Ln n t (pc, d_K K L, st, M, ce, sl) Q → w_ex xs Ln n t (pc, L, st, M, ce, sl) Q := by
  intro n
  induction n with
  | zero => intro t pc L st M ce sl Q K h; exact absurd h (by unfold w_ex; exact id)
  | succ n ih =>
    intro t pc L st M ce sl Q K h
    have key : ∀ (ins : Instr) (a1 a2 : Nat), (match i_st xs Ln t.2.2.2.2.1 t.2.2.2.2.2 ins a1 a2 pc (d_K K L) st M ce sl with
        | none => False
        | some (P, c') => P ∧ w_ex xs Ln n t c' Q) → (match i_st xs Ln t.2.2.2.2.1 t.2.2.2.2.2 ins a1 a2 pc L st M ce sl with
        | none => False
        | some (P, c') => P ∧ w_ex xs Ln n t c' Q) := by
      intro ins a1 a2 hk
      split at hk
      · exact hk.elim
      · rename_i P c' hst
        obtain ⟨L1, K', h1, h2⟩ := d_ist hst
        obtain ⟨pc', L', st', M', ce', sl'⟩ := c'
        simp only at h1 h2
        subst h2
        rw [h1]
        exact ⟨hk.1, ih _ _ _ _ _ _ _ _ K' hk.2⟩
    unfold w_ex at h ⊢
    split at h
    · exact h.elim
    · rename_i ins len a1 a2 pl hat
      split at h
      · exact h
      · exact h
      · exact h
      · exact h
      · split at h
        · split at h
          · exact ⟨h.1, ih _ _ _ _ _ _ _ _ K h.2⟩
          · exact h.elim
        · refine ⟨h.1, h.2.1, h.2.2.1, h.2.2.2.1, w_mono xs Ln _ _ _ _ _ (fun o M' ho => ?_) h.2.2.2.2⟩
          cases o with
          | inl v => exact ih _ _ _ _ _ _ _ _ K ho
          | inr x => exact ho
      · split at h
        · split at h
          · exact ⟨h.1, h.2.1, ih _ _ _ _ _ _ _ _ K h.2.2⟩
          · exact h.elim
        · refine ⟨h.1, h.2.1, h.2.2.1, w_mono xs Ln _ _ _ _ _ (fun o M' ho => ?_) h.2.2.2⟩
          cases o with
          | inl v => exact ih _ _ _ _ _ _ _ _ K ho
          | inr x => exact ho
      · refine ⟨h.1, h.2.1, h.2.2.1, h.2.2.2.1, w_mono xs Ln _ _ _ _ _ (fun o M' ho => ?_) h.2.2.2.2⟩
        cases o with
        | inl v => exact ih _ _ _ _ _ _ _ _ K ho
        | inr x =>
          revert ho
          show (match k_hd t.1 x with
            | none => _
            | some (pc', k) => _) → (match k_hd t.1 x with
            | none => _
            | some (pc', k) => _)
          split
          · exact id
          · intro ho
            rw [d_comm] at ho
            exact ih _ _ _ _ _ _ _ _ K ho
      · rename_i ix
        split at h
        · exact key (.new ix) a1 0 h
        · exact h
      · exact key _ _ _ h
theorem w_R.drop {j pc : Nat} {L : i_L} {c : List Value × s_S × Nat × Nat} {Q : i_O → s_S → Prop} (K : Nat → Bool) (h : w_R xs Ln j (pc, d_K K L, c) Q) : w_R xs Ln j (pc, L, c) Q := by
  intro x
  obtain ⟨n, h1⟩ := h x
  exact ⟨n, w_drop n _ _ _ _ _ _ _ _ K h1⟩
end Drop
