/-! Calls that throw; the helpers of the law; the cases with throws. -/
section Throw
variable {xs : Nat → Int32} {Ln : Nat}
theorem w_R.callT {j pc i len j' na pl ce sl ce' sl' x : Nat} {L : i_L} {st as rest : List Value} {σ σ' : s_S} {Q : i_O → s_S → Prop} (h : w_R xs Ln j' (0, lv_args 0 as, [], σ, 0, 0) (fun o s => o = .inr x ∧ s = σ')) {pc' k : Nat} {L' : i_L} (hh : k_hd (k_t j).1 x = some (pc', k)) (hL : L.filter (fun q => !(q.1 == k) && !(q.1 + 1 == k && q.2.category == 2)) = L') (hr : w_R xs Ln j (pc', L', [], σ', ce', sl') Q) (hat : i_at (k_t j).2.1 pc = some (.invokevirtual i, len, j', na, pl)) (has : (st.take (na + 1)).reverse = as) (hre : st.drop (na + 1) = rest)
    (hrn : i_rn rest as (k_t j').2.2.1 = true) (hlen : Nat.ble (na + 1) st.length = true) (hrc : i_rc (k_rc j') (sh1, 0, σ) as) (h1 : ce + (k_t j').2.2.2.2.1 = ce') (h2 : sl + (k_t j').2.2.2.2.2 = sl') (h3 : Nat.ble ce' (k_t j).2.2.2.2.1 = true) (h4 : Nat.ble sl' (k_t j).2.2.2.2.2 = true) : w_R xs Ln j (pc, L, st, σ, ce, sl) Q := by
  subst h1
  subst h2
  intro y
  refine w_callV hat has hre hrn (Nat.le_of_ble_eq_true hlen) ?_ ⟨Nat.le_of_ble_eq_true h3, Nat.le_of_ble_eq_true h4⟩ (h y) (fun v' M' ⟨x', s, e1, e2, e3⟩ => (by cases e2)) (fun x1 M' ⟨x', s, e1, e2, e3⟩ hn => ?_) (fun x1 pc1 k1 M' ⟨x', s, e1, e2, e3⟩ hs => ?_)
  · subst has
    revert hrc
    generalize (st.take (na + 1)).reverse = as
    intro hrc
    cases as with
    | nil => exact hrc
    | cons a r => cases a <;> exact hrc
  · cases e2
    rw [hh] at hn
    cases hn
  · cases e2
    rw [hh] at hs
    cases hs
    subst e3
    subst e1
    rw [hL]
    exact hr x'
theorem w_R.callP {j pc i len j' na pl ce sl ce' sl' x : Nat} {L : i_L} {st as rest : List Value} {σ σ' : s_S} {Q : i_O → s_S → Prop} (h : w_R xs Ln j' (0, lv_args 0 as, [], σ, 0, 0) (fun o s => o = .inr x ∧ s = σ')) (hh : k_hd (k_t j).1 x = none) (he : k_ex (k_t j).1 = []) (hq : Q (.inr x) σ') (hat : i_at (k_t j).2.1 pc = some (.invokevirtual i, len, j', na, pl)) (has : (st.take (na + 1)).reverse = as) (hre : st.drop (na + 1) = rest)
    (hrn : i_rn rest as (k_t j').2.2.1 = true) (hlen : Nat.ble (na + 1) st.length = true) (hrc : i_rc (k_rc j') (sh1, 0, σ) as) (h1 : ce + (k_t j').2.2.2.2.1 = ce') (h2 : sl + (k_t j').2.2.2.2.2 = sl') (h3 : Nat.ble ce' (k_t j).2.2.2.2.1 = true) (h4 : Nat.ble sl' (k_t j).2.2.2.2.2 = true) : w_R xs Ln j (pc, L, st, σ, ce, sl) Q := by
  subst h1
  subst h2
  intro y
  refine w_callV hat has hre hrn (Nat.le_of_ble_eq_true hlen) ?_ ⟨Nat.le_of_ble_eq_true h3, Nat.le_of_ble_eq_true h4⟩ (h y) (fun v' M' ⟨x', s, e1, e2, e3⟩ => (by cases e2)) (fun x1 M' ⟨x', s, e1, e2, e3⟩ hn => ?_) (fun x1 pc1 k1 M' ⟨x', s, e1, e2, e3⟩ hs => ?_)
  · subst has
    revert hrc
    generalize (st.take (na + 1)).reverse = as
    intro hrc
    cases as with
    | nil => exact hrc
    | cons a r => cases a <;> exact hrc
  · cases e2
    exact ⟨he, x', s, e1, by subst e3; exact hq⟩
  · cases e2
    rw [hh] at hs
    cases hs
/-- what a helper answers -/
def lw_code : i_O → Int32
  | .inl _ => 0
  | .inr 0 => 1
  | .inr _ => 2
theorem h_162n (a : Int32) {I : Nat → Nat → Int32} {J : Nat → Nat → Int64} {R : Nat → Nat → Nat} {Z : Nat → Nat → Bool} {σ : s_S} {v : Int64} (h : w_R xs Ln 8 (0, [(0, .ref 1), (1, .int a)], [], σ, 0, 0) (fun o s => o = .inl (some (.long v)) ∧ s = (I, J, R, Z))) : w_R xs Ln 162 (0, [(0, .ref 1), (1, .int a), (2, .ref 256)], [], σ, 0, 0) (fun o s => o = .inl (some (.int 0)) ∧ s = (I, s_up J 256 0 v, R, Z)) := by
  refine w_R.go (c' := (4, [(0, .ref 1), (1, .int a), (2, .ref 256)], [.int a, .ref 1, .int 0, .ref 256], σ, 0, 0)) 4 ?_ (fun m_ x_ Q_ k_ => ⟨trivial, trivial, trivial, trivial, k_⟩)
  refine w_R.callV (ce' := 1) (sl' := 6) (v := some (.long v)) (σ' := (I, J, R, Z)) (as := [.ref 1, .int a]) (rest := [.int 0, .ref 256]) h ?_ rfl rfl rfl rfl rfl sh_1 rfl rfl rfl rfl
  show w_R xs Ln 162 (7, [(0, .ref 1), (1, .int a), (2, .ref 256)], [.long v, .int 0, .ref 256], (I, J, R, Z), 1, 6) _
  refine w_R.ret 4 (.inl (some (.int 0))) (I, s_up J 256 0 v, R, Z) ⟨rfl, rfl⟩ (fun x_ Q_ k_ => ⟨⟨_, sh_256, (n_in (a := 0) (by omega) (by decide))⟩, trivial, trivial, trivial, ⟨Nat.le_of_ble_eq_true rfl, Nat.le_of_ble_eq_true rfl⟩, k_⟩)
theorem h_162t0 (a : Int32) {I : Nat → Nat → Int32} {J : Nat → Nat → Int64} {R : Nat → Nat → Nat} {Z : Nat → Nat → Bool} {σ : s_S}  (h : w_R xs Ln 8 (0, [(0, .ref 1), (1, .int a)], [], σ, 0, 0) (fun o s => o = .inr 0 ∧ s = (I, J, R, Z))) : w_R xs Ln 162 (0, [(0, .ref 1), (1, .int a), (2, .ref 256)], [], σ, 0, 0) (fun o s => o = .inl (some (.int 1)) ∧ s = (I, J, R, Z)) := by
  refine w_R.go (c' := (4, [(0, .ref 1), (1, .int a), (2, .ref 256)], [.int a, .ref 1, .int 0, .ref 256], σ, 0, 0)) 4 ?_ (fun m_ x_ Q_ k_ => ⟨trivial, trivial, trivial, trivial, k_⟩)
  refine w_R.callT (x := 0) (pc' := 12) (k := 3) (L' := [(0, .ref 1), (1, .int a), (2, .ref 256)]) (ce' := 1) (sl' := 6) (σ' := (I, J, R, Z)) (as := [.ref 1, .int a]) (rest := [.int 0, .ref 256]) h (by decide +kernel) rfl ?_ rfl rfl rfl rfl rfl sh_1 rfl rfl rfl rfl
  refine w_R.ret 2 (.inl (some (.int 1))) (I, J, R, Z) ⟨rfl, rfl⟩ (fun x_ Q_ k_ => ⟨trivial, trivial, ⟨Nat.le_of_ble_eq_true rfl, Nat.le_of_ble_eq_true rfl⟩, k_⟩)
theorem h_163n (a : Int32) (b : Int32) {σ σ1 : s_S}  (h : w_R xs Ln 9 (0, [(0, .ref 1), (1, .int a), (2, .int b)], [], σ, 0, 0) (fun o s => o = .inl none ∧ s = σ1)) : w_R xs Ln 163 (0, [(0, .ref 1), (1, .int a), (2, .int b)], [], σ, 0, 0) (fun o s => o = .inl (some (.int 0)) ∧ s = σ1) := by
  refine w_R.go (c' := (3, [(0, .ref 1), (1, .int a), (2, .int b)], [.int b, .int a, .ref 1], σ, 0, 0)) 3 ?_ (fun m_ x_ Q_ k_ => ⟨trivial, trivial, trivial, k_⟩)
  refine w_R.callV (ce' := 1) (sl' := 6) (v := none) (σ' := σ1) (as := [.ref 1, .int a, .int b]) (rest := []) h ?_ rfl rfl rfl rfl rfl sh_1 rfl rfl rfl rfl
  show w_R xs Ln 163 (6, [(0, .ref 1), (1, .int a), (2, .int b)], [], σ1, 1, 6) _
  refine w_R.ret 3 (.inl (some (.int 0))) σ1 ⟨rfl, rfl⟩ (fun x_ Q_ k_ => ⟨trivial, trivial, trivial, ⟨Nat.le_of_ble_eq_true rfl, Nat.le_of_ble_eq_true rfl⟩, k_⟩)
theorem h_163t0 (a : Int32) (b : Int32) {σ σ1 : s_S}  (h : w_R xs Ln 9 (0, [(0, .ref 1), (1, .int a), (2, .int b)], [], σ, 0, 0) (fun o s => o = .inr 0 ∧ s = σ1)) : w_R xs Ln 163 (0, [(0, .ref 1), (1, .int a), (2, .int b)], [], σ, 0, 0) (fun o s => o = .inl (some (.int 1)) ∧ s = σ1) := by
  refine w_R.go (c' := (3, [(0, .ref 1), (1, .int a), (2, .int b)], [.int b, .int a, .ref 1], σ, 0, 0)) 3 ?_ (fun m_ x_ Q_ k_ => ⟨trivial, trivial, trivial, k_⟩)
  refine w_R.callT (x := 0) (pc' := 10) (k := 3) (L' := [(0, .ref 1), (1, .int a), (2, .int b)]) (ce' := 1) (sl' := 6) (σ' := σ1) (as := [.ref 1, .int a, .int b]) (rest := []) h (by decide +kernel) rfl ?_ rfl rfl rfl rfl rfl sh_1 rfl rfl rfl rfl
  refine w_R.ret 2 (.inl (some (.int 1))) σ1 ⟨rfl, rfl⟩ (fun x_ Q_ k_ => ⟨trivial, trivial, ⟨Nat.le_of_ble_eq_true rfl, Nat.le_of_ble_eq_true rfl⟩, k_⟩)
theorem h_163t1 (a : Int32) (b : Int32) {σ σ1 : s_S}  (h : w_R xs Ln 9 (0, [(0, .ref 1), (1, .int a), (2, .int b)], [], σ, 0, 0) (fun o s => o = .inr 1 ∧ s = σ1)) : w_R xs Ln 163 (0, [(0, .ref 1), (1, .int a), (2, .int b)], [], σ, 0, 0) (fun o s => o = .inl (some (.int 2)) ∧ s = σ1) := by
  refine w_R.go (c' := (3, [(0, .ref 1), (1, .int a), (2, .int b)], [.int b, .int a, .ref 1], σ, 0, 0)) 3 ?_ (fun m_ x_ Q_ k_ => ⟨trivial, trivial, trivial, k_⟩)
  refine w_R.callT (x := 1) (pc' := 13) (k := 3) (L' := [(0, .ref 1), (1, .int a), (2, .int b)]) (ce' := 1) (sl' := 6) (σ' := σ1) (as := [.ref 1, .int a, .int b]) (rest := []) h (by decide +kernel) rfl ?_ rfl rfl rfl rfl rfl sh_1 rfl rfl rfl rfl
  refine w_R.ret 2 (.inl (some (.int 2))) σ1 ⟨rfl, rfl⟩ (fun x_ Q_ k_ => ⟨trivial, trivial, ⟨Nat.le_of_ble_eq_true rfl, Nat.le_of_ble_eq_true rfl⟩, k_⟩)
theorem h_164n (a : Int32) (b : Int32) (c : Int32) {I : Nat → Nat → Int32} {J : Nat → Nat → Int64} {R : Nat → Nat → Nat} {Z : Nat → Nat → Bool} {σ : s_S} {v : Int32} (h : w_R xs Ln 11 (0, [(0, .ref 1), (1, .int a), (2, .int b), (3, .int c)], [], σ, 0, 0) (fun o s => o = .inl (some (.int v)) ∧ s = (I, J, R, Z))) : w_R xs Ln 164 (0, [(0, .ref 1), (1, .int a), (2, .int b), (3, .int c), (4, .ref 256)], [], σ, 0, 0) (fun o s => o = .inl (some (.int 0)) ∧ s = (I, s_up J 256 0 v.toInt64, R, Z)) := by
  refine w_R.go (c' := (7, [(0, .ref 1), (1, .int a), (2, .int b), (3, .int c), (4, .ref 256)], [.int c, .int b, .int a, .ref 1, .int 0, .ref 256], σ, 0, 0)) 6 ?_ (fun m_ x_ Q_ k_ => ⟨trivial, trivial, trivial, trivial, trivial, trivial, k_⟩)
  refine w_R.callV (ce' := 1) (sl' := 6) (v := some (.int v)) (σ' := (I, J, R, Z)) (as := [.ref 1, .int a, .int b, .int c]) (rest := [.int 0, .ref 256]) h ?_ rfl rfl rfl rfl rfl sh_1 rfl rfl rfl rfl
  show w_R xs Ln 164 (10, [(0, .ref 1), (1, .int a), (2, .int b), (3, .int c), (4, .ref 256)], [.int v, .int 0, .ref 256], (I, J, R, Z), 1, 6) _
  refine w_R.ret 5 (.inl (some (.int 0))) (I, s_up J 256 0 v.toInt64, R, Z) ⟨rfl, rfl⟩ (fun x_ Q_ k_ => ⟨trivial, ⟨_, sh_256, (n_in (a := 0) (by omega) (by decide))⟩, trivial, trivial, trivial, ⟨Nat.le_of_ble_eq_true rfl, Nat.le_of_ble_eq_true rfl⟩, k_⟩)
theorem h_164t0 (a : Int32) (b : Int32) (c : Int32) {I : Nat → Nat → Int32} {J : Nat → Nat → Int64} {R : Nat → Nat → Nat} {Z : Nat → Nat → Bool} {σ : s_S}  (h : w_R xs Ln 11 (0, [(0, .ref 1), (1, .int a), (2, .int b), (3, .int c)], [], σ, 0, 0) (fun o s => o = .inr 0 ∧ s = (I, J, R, Z))) : w_R xs Ln 164 (0, [(0, .ref 1), (1, .int a), (2, .int b), (3, .int c), (4, .ref 256)], [], σ, 0, 0) (fun o s => o = .inl (some (.int 1)) ∧ s = (I, J, R, Z)) := by
  refine w_R.go (c' := (7, [(0, .ref 1), (1, .int a), (2, .int b), (3, .int c), (4, .ref 256)], [.int c, .int b, .int a, .ref 1, .int 0, .ref 256], σ, 0, 0)) 6 ?_ (fun m_ x_ Q_ k_ => ⟨trivial, trivial, trivial, trivial, trivial, trivial, k_⟩)
  refine w_R.callT (x := 0) (pc' := 17) (k := 5) (L' := [(0, .ref 1), (1, .int a), (2, .int b), (3, .int c), (4, .ref 256)]) (ce' := 1) (sl' := 6) (σ' := (I, J, R, Z)) (as := [.ref 1, .int a, .int b, .int c]) (rest := [.int 0, .ref 256]) h (by decide +kernel) rfl ?_ rfl rfl rfl rfl rfl sh_1 rfl rfl rfl rfl
  refine w_R.ret 2 (.inl (some (.int 1))) (I, J, R, Z) ⟨rfl, rfl⟩ (fun x_ Q_ k_ => ⟨trivial, trivial, ⟨Nat.le_of_ble_eq_true rfl, Nat.le_of_ble_eq_true rfl⟩, k_⟩)
theorem h_164t1 (a : Int32) (b : Int32) (c : Int32) {I : Nat → Nat → Int32} {J : Nat → Nat → Int64} {R : Nat → Nat → Nat} {Z : Nat → Nat → Bool} {σ : s_S}  (h : w_R xs Ln 11 (0, [(0, .ref 1), (1, .int a), (2, .int b), (3, .int c)], [], σ, 0, 0) (fun o s => o = .inr 1 ∧ s = (I, J, R, Z))) : w_R xs Ln 164 (0, [(0, .ref 1), (1, .int a), (2, .int b), (3, .int c), (4, .ref 256)], [], σ, 0, 0) (fun o s => o = .inl (some (.int 2)) ∧ s = (I, J, R, Z)) := by
  refine w_R.go (c' := (7, [(0, .ref 1), (1, .int a), (2, .int b), (3, .int c), (4, .ref 256)], [.int c, .int b, .int a, .ref 1, .int 0, .ref 256], σ, 0, 0)) 6 ?_ (fun m_ x_ Q_ k_ => ⟨trivial, trivial, trivial, trivial, trivial, trivial, k_⟩)
  refine w_R.callT (x := 1) (pc' := 21) (k := 5) (L' := [(0, .ref 1), (1, .int a), (2, .int b), (3, .int c), (4, .ref 256)]) (ce' := 1) (sl' := 6) (σ' := (I, J, R, Z)) (as := [.ref 1, .int a, .int b, .int c]) (rest := [.int 0, .ref 256]) h (by decide +kernel) rfl ?_ rfl rfl rfl rfl rfl sh_1 rfl rfl rfl rfl
  refine w_R.ret 2 (.inl (some (.int 2))) (I, J, R, Z) ⟨rfl, rfl⟩ (fun x_ Q_ k_ => ⟨trivial, trivial, ⟨Nat.le_of_ble_eq_true rfl, Nat.le_of_ble_eq_true rfl⟩, k_⟩)
theorem h_165n (a : Int32) (b : Int32) (c : Bool) {I : Nat → Nat → Int32} {J : Nat → Nat → Int64} {R : Nat → Nat → Nat} {Z : Nat → Nat → Bool} {σ : s_S} {v : Int32} (h : w_R xs Ln 12 (0, [(0, .ref 1), (1, .int a), (2, .int b), (3, .int (s_b c))], [], σ, 0, 0) (fun o s => o = .inl (some (.int v)) ∧ s = (I, J, R, Z))) : w_R xs Ln 165 (0, [(0, .ref 1), (1, .int a), (2, .int b), (3, .int (s_b c)), (4, .ref 256)], [], σ, 0, 0) (fun o s => o = .inl (some (.int 0)) ∧ s = (I, s_up J 256 0 v.toInt64, R, Z)) := by
  refine w_R.go (c' := (7, [(0, .ref 1), (1, .int a), (2, .int b), (3, .int (s_b c)), (4, .ref 256)], [.int (s_b c), .int b, .int a, .ref 1, .int 0, .ref 256], σ, 0, 0)) 6 ?_ (fun m_ x_ Q_ k_ => ⟨trivial, trivial, trivial, trivial, trivial, trivial, k_⟩)
  refine w_R.callV (ce' := 2) (sl' := 12) (v := some (.int v)) (σ' := (I, J, R, Z)) (as := [.ref 1, .int a, .int b, .int (s_b c)]) (rest := [.int 0, .ref 256]) h ?_ rfl rfl rfl rfl rfl sh_1 rfl rfl rfl rfl
  show w_R xs Ln 165 (10, [(0, .ref 1), (1, .int a), (2, .int b), (3, .int (s_b c)), (4, .ref 256)], [.int v, .int 0, .ref 256], (I, J, R, Z), 2, 12) _
  refine w_R.ret 5 (.inl (some (.int 0))) (I, s_up J 256 0 v.toInt64, R, Z) ⟨rfl, rfl⟩ (fun x_ Q_ k_ => ⟨trivial, ⟨_, sh_256, (n_in (a := 0) (by omega) (by decide))⟩, trivial, trivial, trivial, ⟨Nat.le_of_ble_eq_true rfl, Nat.le_of_ble_eq_true rfl⟩, k_⟩)
theorem h_165t0 (a : Int32) (b : Int32) (c : Bool) {I : Nat → Nat → Int32} {J : Nat → Nat → Int64} {R : Nat → Nat → Nat} {Z : Nat → Nat → Bool} {σ : s_S}  (h : w_R xs Ln 12 (0, [(0, .ref 1), (1, .int a), (2, .int b), (3, .int (s_b c))], [], σ, 0, 0) (fun o s => o = .inr 0 ∧ s = (I, J, R, Z))) : w_R xs Ln 165 (0, [(0, .ref 1), (1, .int a), (2, .int b), (3, .int (s_b c)), (4, .ref 256)], [], σ, 0, 0) (fun o s => o = .inl (some (.int 1)) ∧ s = (I, J, R, Z)) := by
  refine w_R.go (c' := (7, [(0, .ref 1), (1, .int a), (2, .int b), (3, .int (s_b c)), (4, .ref 256)], [.int (s_b c), .int b, .int a, .ref 1, .int 0, .ref 256], σ, 0, 0)) 6 ?_ (fun m_ x_ Q_ k_ => ⟨trivial, trivial, trivial, trivial, trivial, trivial, k_⟩)
  refine w_R.callT (x := 0) (pc' := 17) (k := 5) (L' := [(0, .ref 1), (1, .int a), (2, .int b), (3, .int (s_b c)), (4, .ref 256)]) (ce' := 2) (sl' := 12) (σ' := (I, J, R, Z)) (as := [.ref 1, .int a, .int b, .int (s_b c)]) (rest := [.int 0, .ref 256]) h (by decide +kernel) rfl ?_ rfl rfl rfl rfl rfl sh_1 rfl rfl rfl rfl
  refine w_R.ret 2 (.inl (some (.int 1))) (I, J, R, Z) ⟨rfl, rfl⟩ (fun x_ Q_ k_ => ⟨trivial, trivial, ⟨Nat.le_of_ble_eq_true rfl, Nat.le_of_ble_eq_true rfl⟩, k_⟩)
theorem h_165t1 (a : Int32) (b : Int32) (c : Bool) {I : Nat → Nat → Int32} {J : Nat → Nat → Int64} {R : Nat → Nat → Nat} {Z : Nat → Nat → Bool} {σ : s_S}  (h : w_R xs Ln 12 (0, [(0, .ref 1), (1, .int a), (2, .int b), (3, .int (s_b c))], [], σ, 0, 0) (fun o s => o = .inr 1 ∧ s = (I, J, R, Z))) : w_R xs Ln 165 (0, [(0, .ref 1), (1, .int a), (2, .int b), (3, .int (s_b c)), (4, .ref 256)], [], σ, 0, 0) (fun o s => o = .inl (some (.int 2)) ∧ s = (I, J, R, Z)) := by
  refine w_R.go (c' := (7, [(0, .ref 1), (1, .int a), (2, .int b), (3, .int (s_b c)), (4, .ref 256)], [.int (s_b c), .int b, .int a, .ref 1, .int 0, .ref 256], σ, 0, 0)) 6 ?_ (fun m_ x_ Q_ k_ => ⟨trivial, trivial, trivial, trivial, trivial, trivial, k_⟩)
  refine w_R.callT (x := 1) (pc' := 21) (k := 5) (L' := [(0, .ref 1), (1, .int a), (2, .int b), (3, .int (s_b c)), (4, .ref 256)]) (ce' := 2) (sl' := 12) (σ' := (I, J, R, Z)) (as := [.ref 1, .int a, .int b, .int (s_b c)]) (rest := [.int 0, .ref 256]) h (by decide +kernel) rfl ?_ rfl rfl rfl rfl rfl sh_1 rfl rfl rfl rfl
  refine w_R.ret 2 (.inl (some (.int 2))) (I, J, R, Z) ⟨rfl, rfl⟩ (fun x_ Q_ k_ => ⟨trivial, trivial, ⟨Nat.le_of_ble_eq_true rfl, Nat.le_of_ble_eq_true rfl⟩, k_⟩)
theorem h_166n (a : Int32) (b : Int32) {I : Nat → Nat → Int32} {J : Nat → Nat → Int64} {R : Nat → Nat → Nat} {Z : Nat → Nat → Bool} {σ : s_S} {v : Int32} (h : w_R xs Ln 13 (0, [(0, .ref 1), (1, .int a), (2, .int b)], [], σ, 0, 0) (fun o s => o = .inl (some (.int v)) ∧ s = (I, J, R, Z))) : w_R xs Ln 166 (0, [(0, .ref 1), (1, .int a), (2, .int b), (3, .ref 256)], [], σ, 0, 0) (fun o s => o = .inl (some (.int 0)) ∧ s = (I, s_up J 256 0 v.toInt64, R, Z)) := by
  refine w_R.go (c' := (5, [(0, .ref 1), (1, .int a), (2, .int b), (3, .ref 256)], [.int b, .int a, .ref 1, .int 0, .ref 256], σ, 0, 0)) 5 ?_ (fun m_ x_ Q_ k_ => ⟨trivial, trivial, trivial, trivial, trivial, k_⟩)
  refine w_R.callV (ce' := 2) (sl' := 12) (v := some (.int v)) (σ' := (I, J, R, Z)) (as := [.ref 1, .int a, .int b]) (rest := [.int 0, .ref 256]) h ?_ rfl rfl rfl rfl rfl sh_1 rfl rfl rfl rfl
  show w_R xs Ln 166 (8, [(0, .ref 1), (1, .int a), (2, .int b), (3, .ref 256)], [.int v, .int 0, .ref 256], (I, J, R, Z), 2, 12) _
  refine w_R.ret 5 (.inl (some (.int 0))) (I, s_up J 256 0 v.toInt64, R, Z) ⟨rfl, rfl⟩ (fun x_ Q_ k_ => ⟨trivial, ⟨_, sh_256, (n_in (a := 0) (by omega) (by decide))⟩, trivial, trivial, trivial, ⟨Nat.le_of_ble_eq_true rfl, Nat.le_of_ble_eq_true rfl⟩, k_⟩)
theorem h_166t0 (a : Int32) (b : Int32) {I : Nat → Nat → Int32} {J : Nat → Nat → Int64} {R : Nat → Nat → Nat} {Z : Nat → Nat → Bool} {σ : s_S}  (h : w_R xs Ln 13 (0, [(0, .ref 1), (1, .int a), (2, .int b)], [], σ, 0, 0) (fun o s => o = .inr 0 ∧ s = (I, J, R, Z))) : w_R xs Ln 166 (0, [(0, .ref 1), (1, .int a), (2, .int b), (3, .ref 256)], [], σ, 0, 0) (fun o s => o = .inl (some (.int 1)) ∧ s = (I, J, R, Z)) := by
  refine w_R.go (c' := (5, [(0, .ref 1), (1, .int a), (2, .int b), (3, .ref 256)], [.int b, .int a, .ref 1, .int 0, .ref 256], σ, 0, 0)) 5 ?_ (fun m_ x_ Q_ k_ => ⟨trivial, trivial, trivial, trivial, trivial, k_⟩)
  refine w_R.callT (x := 0) (pc' := 15) (k := 4) (L' := [(0, .ref 1), (1, .int a), (2, .int b), (3, .ref 256)]) (ce' := 2) (sl' := 12) (σ' := (I, J, R, Z)) (as := [.ref 1, .int a, .int b]) (rest := [.int 0, .ref 256]) h (by decide +kernel) rfl ?_ rfl rfl rfl rfl rfl sh_1 rfl rfl rfl rfl
  refine w_R.ret 2 (.inl (some (.int 1))) (I, J, R, Z) ⟨rfl, rfl⟩ (fun x_ Q_ k_ => ⟨trivial, trivial, ⟨Nat.le_of_ble_eq_true rfl, Nat.le_of_ble_eq_true rfl⟩, k_⟩)
theorem h_166t1 (a : Int32) (b : Int32) {I : Nat → Nat → Int32} {J : Nat → Nat → Int64} {R : Nat → Nat → Nat} {Z : Nat → Nat → Bool} {σ : s_S}  (h : w_R xs Ln 13 (0, [(0, .ref 1), (1, .int a), (2, .int b)], [], σ, 0, 0) (fun o s => o = .inr 1 ∧ s = (I, J, R, Z))) : w_R xs Ln 166 (0, [(0, .ref 1), (1, .int a), (2, .int b), (3, .ref 256)], [], σ, 0, 0) (fun o s => o = .inl (some (.int 2)) ∧ s = (I, J, R, Z)) := by
  refine w_R.go (c' := (5, [(0, .ref 1), (1, .int a), (2, .int b), (3, .ref 256)], [.int b, .int a, .ref 1, .int 0, .ref 256], σ, 0, 0)) 5 ?_ (fun m_ x_ Q_ k_ => ⟨trivial, trivial, trivial, trivial, trivial, k_⟩)
  refine w_R.callT (x := 1) (pc' := 19) (k := 4) (L' := [(0, .ref 1), (1, .int a), (2, .int b), (3, .ref 256)]) (ce' := 2) (sl' := 12) (σ' := (I, J, R, Z)) (as := [.ref 1, .int a, .int b]) (rest := [.int 0, .ref 256]) h (by decide +kernel) rfl ?_ rfl rfl rfl rfl rfl sh_1 rfl rfl rfl rfl
  refine w_R.ret 2 (.inl (some (.int 2))) (I, J, R, Z) ⟨rfl, rfl⟩ (fun x_ Q_ k_ => ⟨trivial, trivial, ⟨Nat.le_of_ble_eq_true rfl, Nat.le_of_ble_eq_true rfl⟩, k_⟩)
theorem h_167n (a : Int32) (b : Int32) {σ σ1 : s_S}  (h : w_R xs Ln 14 (0, [(0, .ref 1), (1, .int a), (2, .int b)], [], σ, 0, 0) (fun o s => o = .inl none ∧ s = σ1)) : w_R xs Ln 167 (0, [(0, .ref 1), (1, .int a), (2, .int b)], [], σ, 0, 0) (fun o s => o = .inl (some (.int 0)) ∧ s = σ1) := by
  refine w_R.go (c' := (3, [(0, .ref 1), (1, .int a), (2, .int b)], [.int b, .int a, .ref 1], σ, 0, 0)) 3 ?_ (fun m_ x_ Q_ k_ => ⟨trivial, trivial, trivial, k_⟩)
  refine w_R.callV (ce' := 1) (sl' := 6) (v := none) (σ' := σ1) (as := [.ref 1, .int a, .int b]) (rest := []) h ?_ rfl rfl rfl rfl rfl sh_1 rfl rfl rfl rfl
  show w_R xs Ln 167 (6, [(0, .ref 1), (1, .int a), (2, .int b)], [], σ1, 1, 6) _
  refine w_R.ret 3 (.inl (some (.int 0))) σ1 ⟨rfl, rfl⟩ (fun x_ Q_ k_ => ⟨trivial, trivial, trivial, ⟨Nat.le_of_ble_eq_true rfl, Nat.le_of_ble_eq_true rfl⟩, k_⟩)
theorem h_167t0 (a : Int32) (b : Int32) {σ σ1 : s_S}  (h : w_R xs Ln 14 (0, [(0, .ref 1), (1, .int a), (2, .int b)], [], σ, 0, 0) (fun o s => o = .inr 0 ∧ s = σ1)) : w_R xs Ln 167 (0, [(0, .ref 1), (1, .int a), (2, .int b)], [], σ, 0, 0) (fun o s => o = .inl (some (.int 1)) ∧ s = σ1) := by
  refine w_R.go (c' := (3, [(0, .ref 1), (1, .int a), (2, .int b)], [.int b, .int a, .ref 1], σ, 0, 0)) 3 ?_ (fun m_ x_ Q_ k_ => ⟨trivial, trivial, trivial, k_⟩)
  refine w_R.callT (x := 0) (pc' := 10) (k := 3) (L' := [(0, .ref 1), (1, .int a), (2, .int b)]) (ce' := 1) (sl' := 6) (σ' := σ1) (as := [.ref 1, .int a, .int b]) (rest := []) h (by decide +kernel) rfl ?_ rfl rfl rfl rfl rfl sh_1 rfl rfl rfl rfl
  refine w_R.ret 2 (.inl (some (.int 1))) σ1 ⟨rfl, rfl⟩ (fun x_ Q_ k_ => ⟨trivial, trivial, ⟨Nat.le_of_ble_eq_true rfl, Nat.le_of_ble_eq_true rfl⟩, k_⟩)
theorem h_167t1 (a : Int32) (b : Int32) {σ σ1 : s_S}  (h : w_R xs Ln 14 (0, [(0, .ref 1), (1, .int a), (2, .int b)], [], σ, 0, 0) (fun o s => o = .inr 1 ∧ s = σ1)) : w_R xs Ln 167 (0, [(0, .ref 1), (1, .int a), (2, .int b)], [], σ, 0, 0) (fun o s => o = .inl (some (.int 2)) ∧ s = σ1) := by
  refine w_R.go (c' := (3, [(0, .ref 1), (1, .int a), (2, .int b)], [.int b, .int a, .ref 1], σ, 0, 0)) 3 ?_ (fun m_ x_ Q_ k_ => ⟨trivial, trivial, trivial, k_⟩)
  refine w_R.callT (x := 1) (pc' := 13) (k := 3) (L' := [(0, .ref 1), (1, .int a), (2, .int b)]) (ce' := 1) (sl' := 6) (σ' := σ1) (as := [.ref 1, .int a, .int b]) (rest := []) h (by decide +kernel) rfl ?_ rfl rfl rfl rfl rfl sh_1 rfl rfl rfl rfl
  refine w_R.ret 2 (.inl (some (.int 2))) σ1 ⟨rfl, rfl⟩ (fun x_ Q_ k_ => ⟨trivial, trivial, ⟨Nat.le_of_ble_eq_true rfl, Nat.le_of_ble_eq_true rfl⟩, k_⟩)
theorem h_168n (a : Int32) (b : Int32) {σ σ1 : s_S}  (h : w_R xs Ln 15 (0, [(0, .ref 1), (1, .int a), (2, .int b)], [], σ, 0, 0) (fun o s => o = .inl none ∧ s = σ1)) : w_R xs Ln 168 (0, [(0, .ref 1), (1, .int a), (2, .int b)], [], σ, 0, 0) (fun o s => o = .inl (some (.int 0)) ∧ s = σ1) := by
  refine w_R.go (c' := (3, [(0, .ref 1), (1, .int a), (2, .int b)], [.int b, .int a, .ref 1], σ, 0, 0)) 3 ?_ (fun m_ x_ Q_ k_ => ⟨trivial, trivial, trivial, k_⟩)
  refine w_R.callV (ce' := 1) (sl' := 6) (v := none) (σ' := σ1) (as := [.ref 1, .int a, .int b]) (rest := []) h ?_ rfl rfl rfl rfl rfl sh_1 rfl rfl rfl rfl
  show w_R xs Ln 168 (6, [(0, .ref 1), (1, .int a), (2, .int b)], [], σ1, 1, 6) _
  refine w_R.ret 3 (.inl (some (.int 0))) σ1 ⟨rfl, rfl⟩ (fun x_ Q_ k_ => ⟨trivial, trivial, trivial, ⟨Nat.le_of_ble_eq_true rfl, Nat.le_of_ble_eq_true rfl⟩, k_⟩)
theorem h_168t0 (a : Int32) (b : Int32) {σ σ1 : s_S}  (h : w_R xs Ln 15 (0, [(0, .ref 1), (1, .int a), (2, .int b)], [], σ, 0, 0) (fun o s => o = .inr 0 ∧ s = σ1)) : w_R xs Ln 168 (0, [(0, .ref 1), (1, .int a), (2, .int b)], [], σ, 0, 0) (fun o s => o = .inl (some (.int 1)) ∧ s = σ1) := by
  refine w_R.go (c' := (3, [(0, .ref 1), (1, .int a), (2, .int b)], [.int b, .int a, .ref 1], σ, 0, 0)) 3 ?_ (fun m_ x_ Q_ k_ => ⟨trivial, trivial, trivial, k_⟩)
  refine w_R.callT (x := 0) (pc' := 10) (k := 3) (L' := [(0, .ref 1), (1, .int a), (2, .int b)]) (ce' := 1) (sl' := 6) (σ' := σ1) (as := [.ref 1, .int a, .int b]) (rest := []) h (by decide +kernel) rfl ?_ rfl rfl rfl rfl rfl sh_1 rfl rfl rfl rfl
  refine w_R.ret 2 (.inl (some (.int 1))) σ1 ⟨rfl, rfl⟩ (fun x_ Q_ k_ => ⟨trivial, trivial, ⟨Nat.le_of_ble_eq_true rfl, Nat.le_of_ble_eq_true rfl⟩, k_⟩)
theorem h_168t1 (a : Int32) (b : Int32) {σ σ1 : s_S}  (h : w_R xs Ln 15 (0, [(0, .ref 1), (1, .int a), (2, .int b)], [], σ, 0, 0) (fun o s => o = .inr 1 ∧ s = σ1)) : w_R xs Ln 168 (0, [(0, .ref 1), (1, .int a), (2, .int b)], [], σ, 0, 0) (fun o s => o = .inl (some (.int 2)) ∧ s = σ1) := by
  refine w_R.go (c' := (3, [(0, .ref 1), (1, .int a), (2, .int b)], [.int b, .int a, .ref 1], σ, 0, 0)) 3 ?_ (fun m_ x_ Q_ k_ => ⟨trivial, trivial, trivial, k_⟩)
  refine w_R.callT (x := 1) (pc' := 13) (k := 3) (L' := [(0, .ref 1), (1, .int a), (2, .int b)]) (ce' := 1) (sl' := 6) (σ' := σ1) (as := [.ref 1, .int a, .int b]) (rest := []) h (by decide +kernel) rfl ?_ rfl rfl rfl rfl rfl sh_1 rfl rfl rfl rfl
  refine w_R.ret 2 (.inl (some (.int 2))) σ1 ⟨rfl, rfl⟩ (fun x_ Q_ k_ => ⟨trivial, trivial, ⟨Nat.le_of_ble_eq_true rfl, Nat.le_of_ble_eq_true rfl⟩, k_⟩)
end Throw
