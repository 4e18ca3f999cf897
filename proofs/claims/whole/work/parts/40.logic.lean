/-! Logic over the small machine: the shapes stand still, the state is typed. -/
abbrev l_C : Type := Nat × i_L × List Value × s_S × Nat × Nat
def l_x (x : Nat) (c : l_C) : i_C := (c.1, c.2.1, c.2.2.1, (sh1, x, c.2.2.2.1), c.2.2.2.2.1, c.2.2.2.2.2)
section Logic
variable {xs : Nat → Int32} {Ln : Nat}
/-- from point c of method j the run ends with Q -/
def w_R (xs : Nat → Int32) (Ln : Nat) (j : Nat) (c : l_C) (Q : i_O → s_S → Prop) : Prop := ∀ x, w_P xs Ln (k_t j) (l_x x c) (fun o M => ∃ x' σ, M = (sh1, x', σ) ∧ Q o σ)
theorem w_R.mono {j : Nat} {c : l_C} {Q Q' : i_O → s_S → Prop} (h : w_R xs Ln j c Q) (hq : ∀ o σ, Q o σ → Q' o σ) : w_R xs Ln j c Q' := fun x => (h x).mono (fun _ _ ⟨x', σ, h1, h2⟩ => ⟨x', σ, h1, hq _ _ h2⟩)
theorem w_R.go {j : Nat} {c c' : l_C} {Q : i_O → s_S → Prop} (k : Nat) (h : w_R xs Ln j c' Q) (hk : ∀ n x Q', w_ex xs Ln n (k_t j) (l_x x c') Q' → w_ex xs Ln (n + k) (k_t j) (l_x x c) Q') : w_R xs Ln j c Q := fun x => (h x).go k (fun n h => hk n x _ h)
theorem w_R.ret {j : Nat} {c : l_C} {Q : i_O → s_S → Prop} (k : Nat) (o : i_O) (σ : s_S) (h : Q o σ) (hk : ∀ x Q', Q' o (sh1, x, σ) → w_ex xs Ln k (k_t j) (l_x x c) Q') : w_R xs Ln j c Q := fun x => ⟨k, hk x _ ⟨x, σ, rfl, h⟩⟩
theorem w_R.thr {j : Nat} {c : l_C} {Q : i_O → s_S → Prop} (k : Nat) (o : i_O) (σ : s_S) (h : Q o σ) (hk : ∀ x Q', Q' o (sh1, x + 1, σ) → w_ex xs Ln k (k_t j) (l_x x c) Q') : w_R xs Ln j c Q := fun x => ⟨k, hk x _ ⟨x + 1, σ, rfl, h⟩⟩
theorem w_R.br_eq {j : Nat} {x y : Int32} {t f : Nat} {c : i_L × List Value × s_S × Nat × Nat} {Q : i_O → s_S → Prop} (h1 : x = y → w_R xs Ln j (t, c) Q) (h2 : ¬ x = y → w_R xs Ln j (f, c) Q) : w_R xs Ln j (i_br .eq x y t f, c) Q := by
  by_cases h : x = y
  · rw [show i_br .eq x y t f = t from if_pos h]; exact h1 h
  · rw [show i_br .eq x y t f = f from if_neg h]; exact h2 h
theorem w_R.br_ne {j : Nat} {x y : Int32} {t f : Nat} {c : i_L × List Value × s_S × Nat × Nat} {Q : i_O → s_S → Prop} (h1 : ¬ x = y → w_R xs Ln j (t, c) Q) (h2 : x = y → w_R xs Ln j (f, c) Q) : w_R xs Ln j (i_br .ne x y t f, c) Q := by
  by_cases h : x = y
  · rw [show i_br .ne x y t f = f from if_pos h]; exact h2 h
  · rw [show i_br .ne x y t f = t from if_neg h]; exact h1 h
theorem w_R.br_lt {j : Nat} {x y : Int32} {t f : Nat} {c : i_L × List Value × s_S × Nat × Nat} {Q : i_O → s_S → Prop} (h1 : x < y → w_R xs Ln j (t, c) Q) (h2 : ¬ x < y → w_R xs Ln j (f, c) Q) : w_R xs Ln j (i_br .lt x y t f, c) Q := by
  by_cases h : x < y
  · rw [show i_br .lt x y t f = t from if_pos h]; exact h1 h
  · rw [show i_br .lt x y t f = f from if_neg h]; exact h2 h
theorem w_R.br_ge {j : Nat} {x y : Int32} {t f : Nat} {c : i_L × List Value × s_S × Nat × Nat} {Q : i_O → s_S → Prop} (h1 : ¬ x < y → w_R xs Ln j (t, c) Q) (h2 : x < y → w_R xs Ln j (f, c) Q) : w_R xs Ln j (i_br .ge x y t f, c) Q := by
  by_cases h : x < y
  · rw [show i_br .ge x y t f = f from if_neg (Int32.not_le.mpr h)]; exact h2 h
  · rw [show i_br .ge x y t f = t from if_pos (Int32.not_lt.mp h)]; exact h1 h
theorem w_R.br_gt {j : Nat} {x y : Int32} {t f : Nat} {c : i_L × List Value × s_S × Nat × Nat} {Q : i_O → s_S → Prop} (h1 : y < x → w_R xs Ln j (t, c) Q) (h2 : ¬ y < x → w_R xs Ln j (f, c) Q) : w_R xs Ln j (i_br .gt x y t f, c) Q := by
  by_cases h : y < x
  · rw [show i_br .gt x y t f = t from if_pos h]; exact h1 h
  · rw [show i_br .gt x y t f = f from if_neg h]; exact h2 h
theorem w_R.br_le {j : Nat} {x y : Int32} {t f : Nat} {c : i_L × List Value × s_S × Nat × Nat} {Q : i_O → s_S → Prop} (h1 : ¬ y < x → w_R xs Ln j (t, c) Q) (h2 : y < x → w_R xs Ln j (f, c) Q) : w_R xs Ln j (i_br .le x y t f, c) Q := by
  by_cases h : y < x
  · rw [show i_br .le x y t f = f from if_neg (Int32.not_le.mpr h)]; exact h2 h
  · rw [show i_br .le x y t f = t from if_pos (Int32.not_lt.mp h)]; exact h1 h
theorem w_R.br_z {j : Nat} {z : Bool} {t f : Nat} {c : i_L × List Value × s_S × Nat × Nat} {Q : i_O → s_S → Prop} (h1 : z = false → w_R xs Ln j (t, c) Q) (h2 : z = true → w_R xs Ln j (f, c) Q) : w_R xs Ln j (i_br .eq (s_b z) 0 t f, c) Q := by
  cases z
  · exact h1 rfl
  · exact h2 rfl
theorem w_R.br_nz {j : Nat} {z : Bool} {t f : Nat} {c : i_L × List Value × s_S × Nat × Nat} {Q : i_O → s_S → Prop} (h1 : z = true → w_R xs Ln j (t, c) Q) (h2 : z = false → w_R xs Ln j (f, c) Q) : w_R xs Ln j (i_br .ne (s_b z) 0 t f, c) Q := by
  cases z
  · exact h2 rfl
  · exact h1 rfl
/-- calls that return -/
theorem w_R.callV {j : Nat} {pc i len j' na pl ce sl ce' sl' : Nat} {L : i_L} {st as rest : List Value} {σ σ' : s_S} {v : Option Value} {Q : i_O → s_S → Prop} (h : w_R xs Ln j' (0, lv_args 0 as, [], σ, 0, 0) (fun o s => o = .inl v ∧ s = σ'))
    (hr : w_R xs Ln j (pc + 3, L, v.toList ++ rest, σ', ce', sl') Q) (hat : i_at (k_t j).2.1 pc = some (.invokevirtual i, len, j', na, pl)) (has : (st.take (na + 1)).reverse = as) (hre : st.drop (na + 1) = rest)
    (hrn : i_rn rest as (k_t j').2.2.1 = true) (hlen : Nat.ble (na + 1) st.length = true) (hrc : i_rc (k_rc j') (sh1, 0, σ) as) (h1 : ce + (k_t j').2.2.2.2.1 = ce') (h2 : sl + (k_t j').2.2.2.2.2 = sl') (h3 : Nat.ble ce' (k_t j).2.2.2.2.1 = true) (h4 : Nat.ble sl' (k_t j).2.2.2.2.2 = true) :
    w_R xs Ln j (pc, L, st, σ, ce, sl) Q := by
  subst h1
  subst h2
  intro x
  refine w_callV hat has hre hrn (Nat.le_of_ble_eq_true hlen) ?_ ⟨Nat.le_of_ble_eq_true h3, Nat.le_of_ble_eq_true h4⟩ (h x) (fun v' M' ⟨x', s, e1, e2, e3⟩ => ?_) (fun x1 M' ⟨x', s, e1, e2, e3⟩ => (by cases e2)) (fun x1 pc' k M' ⟨x', s, e1, e2, e3⟩ => (by cases e2))
  · subst has
    revert hrc
    generalize (st.take (na + 1)).reverse = as
    intro hrc
    cases as with
    | nil => exact hrc
    | cons a r => cases a <;> exact hrc
  · cases e2
    subst e3
    subst e1
    exact hr x'
theorem w_R.callS {j : Nat} {pc i len j' na pl ce sl ce' sl' : Nat} {L : i_L} {st as rest : List Value} {σ σ' : s_S} {v : Option Value} {Q : i_O → s_S → Prop} (h : w_R xs Ln j' (0, lv_args 0 as, [], σ, 0, 0) (fun o s => o = .inl v ∧ s = σ'))
    (hr : w_R xs Ln j (pc + 3, L, v.toList ++ rest, σ', ce', sl') Q) (hat : i_at (k_t j).2.1 pc = some (.invokestatic i, len, j', na + 1, pl)) (has : (st.take na).reverse = as) (hre : st.drop na = rest)
    (hrn : i_rn rest as (k_t j').2.2.1 = true) (hlen : Nat.ble na st.length = true) (h1 : ce + (k_t j').2.2.2.2.1 = ce') (h2 : sl + (k_t j').2.2.2.2.2 = sl') (h3 : Nat.ble ce' (k_t j).2.2.2.2.1 = true) (h4 : Nat.ble sl' (k_t j).2.2.2.2.2 = true) :
    w_R xs Ln j (pc, L, st, σ, ce, sl) Q := by
  subst h1
  subst h2
  intro x
  refine w_callS hat has hre hrn (Nat.le_of_ble_eq_true hlen) ⟨Nat.le_of_ble_eq_true h3, Nat.le_of_ble_eq_true h4⟩ (h x) (fun v' M' ⟨x', s, e1, e2, e3⟩ => ?_) (fun x1 M' ⟨x', s, e1, e2, e3⟩ => (by cases e2))
  cases e2
  subst e3
  subst e1
  exact hr x'
end Logic
