/-! One instruction whose row was looked up before. -/
def w_body (xs : Nat → Int32) (Ln : Nat) (n : Nat) (t : i_T) (row : Instr × Nat × Nat × Nat × Nat) (c : i_C) (Q : i_O → s_M → Prop) : Prop := match row, c with
  | (ins, _, a1, a2, _), (pc, L, st, M, ce, sl) => match ins with
  | .ireturn => match st with
    | [.int v] => (match t.2.2.2.1 with
      | some .int => True
      | some .boolean => v = 0 ∨ v = 1
      | _ => False) ∧ (ce ≤ t.2.2.2.2.1 ∧ sl ≤ t.2.2.2.2.2) ∧ Q (.inl (some (.int v))) M
    | _ => False
  | .lreturn => match st with
    | [.long v] => (ce ≤ t.2.2.2.2.1 ∧ sl ≤ t.2.2.2.2.2) ∧ Q (.inl (some (.long v))) M
    | _ => False
  | .areturn => match st with
    | [.ref v] => (ce ≤ t.2.2.2.2.1 ∧ sl ≤ t.2.2.2.2.2) ∧ Q (.inl (some (.ref v))) M
    | _ => False
  | .return_ => match st with
    | [] => (ce ≤ t.2.2.2.2.1 ∧ sl ≤ t.2.2.2.2.2) ∧ Q (.inl none) M
    | _ => False
  | .invokespecial _ => match a2 with
    | 0 => match st with
      | .ref _ :: r => i_rm r = true ∧ w_ex xs Ln n t (pc + 3, L, r, M, ce, sl) Q
      | _ => False
    | na + 1 => i_rn (st.drop (na + 1)) (st.take (na + 1)).reverse (k_t a1).2.2.1 = true ∧ na + 1 ≤ st.length ∧ i_rf (st.take (na + 1)).reverse ∧ (ce + (k_t a1).2.2.2.2.1 ≤ t.2.2.2.2.1 ∧ sl + (k_t a1).2.2.2.2.2 ≤ t.2.2.2.2.2) ∧ w_ex xs Ln n (k_t a1) (0, lv_args 0 (st.take (na + 1)).reverse, [], M, 0, 0) (fun o M' => match o with
      | .inl v => w_ex xs Ln n t (pc + 3, L, v.toList ++ st.drop (na + 1), M', ce + (k_t a1).2.2.2.2.1, sl + (k_t a1).2.2.2.2.2) Q
      | .inr _ => False)
  | .invokestatic _ => match a2 with
    | 0 => match st with
      | .int y :: .int x :: r => i_rm r = true ∧ (ce ≤ t.2.2.2.2.1 ∧ sl ≤ t.2.2.2.2.2) ∧ w_ex xs Ln n t (pc + 3, L, .int (if x < y then y else x) :: r, M, ce, sl) Q
      | _ => False
    | na + 1 => i_rn (st.drop na) (st.take na).reverse (k_t a1).2.2.1 = true ∧ na ≤ st.length ∧ (ce + (k_t a1).2.2.2.2.1 ≤ t.2.2.2.2.1 ∧ sl + (k_t a1).2.2.2.2.2 ≤ t.2.2.2.2.2) ∧ w_ex xs Ln n (k_t a1) (0, lv_args 0 (st.take na).reverse, [], M, 0, 0) (fun o M' => match o with
      | .inl v => w_ex xs Ln n t (pc + 3, L, v.toList ++ st.drop na, M', ce + (k_t a1).2.2.2.2.1, sl + (k_t a1).2.2.2.2.2) Q
      | .inr _ => False)
  | .invokevirtual _ => i_rn (st.drop (a2 + 1)) (st.take (a2 + 1)).reverse (k_t a1).2.2.1 = true ∧ a2 + 1 ≤ st.length ∧ i_rc (k_rc a1) M (st.take (a2 + 1)).reverse ∧ (ce + (k_t a1).2.2.2.2.1 ≤ t.2.2.2.2.1 ∧ sl + (k_t a1).2.2.2.2.2 ≤ t.2.2.2.2.2) ∧ w_ex xs Ln n (k_t a1) (0, lv_args 0 (st.take (a2 + 1)).reverse, [], M, 0, 0) (fun o M' => match o with
      | .inl v => w_ex xs Ln n t (pc + 3, L, v.toList ++ st.drop (a2 + 1), M', ce + (k_t a1).2.2.2.2.1, sl + (k_t a1).2.2.2.2.2) Q
      | .inr x => match k_hd t.1 x with
        | none => k_ex t.1 = [] ∧ Q (.inr x) M'
        | some (pc', k) => w_ex xs Ln n t (pc', L.filter (fun q => !(q.1 == k) && !(q.1 + 1 == k && q.2.category == 2)), [], M', ce + (k_t a1).2.2.2.2.1, sl + (k_t a1).2.2.2.2.2) Q)
  | .new _ => match a2 with
    | 0 => match i_st xs Ln t.2.2.2.2.1 t.2.2.2.2.2 ins a1 0 pc L st M ce sl with
      | none => False
      | some (P, c') => P ∧ w_ex xs Ln n t c' Q
    | _ => i_rm st = true ∧ (ce + 1 ≤ t.2.2.2.2.1 ∧ sl + 6 ≤ t.2.2.2.2.2) ∧ Q (.inr a1) (M.1, M.2.1 + 1, M.2.2)
  | ins => match i_st xs Ln t.2.2.2.2.1 t.2.2.2.2.2 ins a1 a2 pc L st M ce sl with
    | none => False
    | some (P, c') => P ∧ w_ex xs Ln n t c' Q
set_option maxHeartbeats 4000000 in
theorem w_look {xs : Nat → Int32} {Ln n pc : Nat} {t : i_T} {row : Instr × Nat × Nat × Nat × Nat} {c : i_L × List Value × s_M × Nat × Nat} {Q : i_O → s_M → Prop} (hat : i_at t.2.1 pc = some row) (h : w_body xs Ln n t row (pc, c) Q) : w_ex xs Ln (n + 1) t (pc, c) Q := by
  obtain ⟨L, st, M, ce, sl⟩ := c
  obtain ⟨ins, len, a1, a2, pl⟩ := row
  unfold w_ex
  rw [hat]
  cases ins <;> exact h
theorem w_R.at {xs : Nat → Int32} {Ln j pc : Nat} {row : Instr × Nat × Nat × Nat × Nat} {c : i_L × List Value × s_S × Nat × Nat} {c' : l_C} {Q : i_O → s_S → Prop} (hat : i_at (k_t j).2.1 pc = some row) (h : w_R xs Ln j c' Q)
    (hk : ∀ n x Q', w_ex xs Ln n (k_t j) (l_x x c') Q' → w_body xs Ln n (k_t j) row (l_x x (pc, c)) Q') : w_R xs Ln j (pc, c) Q := w_R.go 1 h (fun n x Q' h' => w_look hat (hk n x Q' h'))
set_option maxRecDepth 20000 in
theorem zz_row : i_at (k_t 169).2.1 935 = some (.aload_n 1, 1, 0, 0, 0) := by decide +kernel
example {xs : Nat → Int32} {Ln m ce sl : Nat} {σ : s_S} {Q : i_O → s_S → Prop} (h : w_R xs Ln 169 (936, lw_L m, [.ref 1], σ, ce, sl) Q) : w_R xs Ln 169 (935, lw_L m, [], σ, ce, sl) Q := w_R.at zz_row h (fun m_ x_ Q_ k_ => ⟨trivial, k_⟩)
