/-! What the heap holds of a typed state, and that each store keeps it. -/
def k_A (B : Nat) : Nat → Prop := fun q => B < q
def k_cv (B b : Nat) : Value → Value
  | .ref a => .ref (B + a)
  | .retAddr _ => .ref b
  | v => v
def k_cp (B b : Nat) (q : Nat × Value) : Nat × Value := (q.1, k_cv B b q.2)
theorem k_cv_cat (B b : Nat) (v : Value) : (k_cv B b v).category = v.category := by cases v <;> rfl
def k_ty (dA : Nat → ClassId) : List (ClassId × FieldType) := (List.range k_na).map (fun t => (dA t, k_aty t))
theorem k_ty_at {dA : Nat → ClassId} {t : Nat} (h : t < k_na) : (k_ty dA)[t]? = some (dA t, k_aty t) := by simp [k_ty, h]
/-- words that speak of the heap below the base -/
def k_Z (B : Nat) (U : State) (H : Heap) : Prop := ∀ (V : State) (a' : Array Value), U.vm.Alike V.vm → (∀ q : Nat, q ≤ B → V.heap[q]? = H[q]?) → ∀ w ∈ k_hw, w.before a' V = true
def k_I (B b Ln : Nat) (xs : Nat → Int32) (dA : Nat → ClassId) (D : va_G) (M : s_M) (U : State) (H : Heap) : Prop :=
  H.size = B + M.1.length + M.2.1 ∧ M.1[0]? = some (.inr (99, 0)) ∧ va_P D k_cl (s_w B dA M.1 M.2.2) H ∧ va_K D k_cl (k_ty dA) U ∧ (∀ (q : Nat) (cell : Cell), B < q → H[q]? = some cell → cell.vm = .none) ∧ k_Z B U H ∧ va_X b Ln xs U H ∧ b ≤ B
section Hold
variable {B b Ln : Nat} {xs : Nat → Int32} {dA : Nat → ClassId} {D : va_G}
theorem k_I.moved {M : s_M} {u U : State} {H : Heap} (hvm : u.vm.Alike U.vm) (h : k_I B b Ln xs dA D M u H) : k_I B b Ln xs dA D M U H := by
  obtain ⟨h1, h2, h3, h4, h5, h6, h7, h8⟩ := h
  exact ⟨h1, h2, h3, h4.moved hvm, h5, fun V a' hV => h6 V a' (hvm.trans hV), h7.moved hvm, h8⟩
theorem k_at_vm {cl : List vw_C} {q : Nat × va_E} {H : Heap} (h : va_at D cl q H) : ∃ cell, H[q.1]? = some cell ∧ cell.vm = .none := by
  obtain ⟨a, e⟩ := q
  cases e with
  | inl x =>
    refine ⟨_, h, ?_⟩
    obtain ⟨c, n, f⟩ := x
    rcases f with f | f | f | f | f <;> rfl
  | inr o =>
    obtain ⟨r, -, cell, h1, -, h3, -⟩ := h
    exact ⟨cell, h1, h3⟩
theorem k_I_set {M : s_M} {σ' : s_S} {U : State} {H H1 : Heap} {j : Nat} {e : s_K} (hI : k_I B b Ln xs dA D M U H) (he : M.1[j + 1]? = some e) (ho : ∀ i, i ≠ j + 1 → s_row σ' i = s_row M.2.2 i) (hz : H1.size = H.size)
    (oq : ∀ q : Nat, q ≠ B + (j + 1) → H1[q]? = H[q]?) (hat : va_at D k_cl (B + (j + 1), s_e B dA (s_row σ' (j + 1)) e) H1) : k_I B b Ln xs dA D (M.1, M.2.1, σ') U H1 := by
  obtain ⟨h1, h2, h3, h4, h5, h6, h7, h8⟩ := hI
  refine ⟨by rw [hz]; exact h1, h2, ?_, h4, fun q cell hq hc => ?_, fun V a' hV hq => h6 V a' hV (fun q hB => (hq q hB).trans (oq q (by omega))), h7.kept (oq b (by omega)), h8⟩
  · show va_P D k_cl (s_w B dA M.1 σ') H1
    rw [s_w_set he ho]
    exact h3.set (s_w_D B dA M.1 M.2.2) (s_w_at he) hat oq
  · by_cases h : q = B + (j + 1)
    · obtain ⟨c', hc', hv⟩ := k_at_vm hat
      rw [h] at hc
      cases Option.some.inj (hc'.symm.trans hc)
      exact hv
    · rw [oq q h] at hc
      exact h5 q cell hq hc
theorem k_I_push {M : s_M} {σ' : s_S} {U : State} {H H1 : Heap} {e : s_K} (hI : k_I B b Ln xs dA D M U H) (h0 : M.2.1 = 0) (ho : ∀ i, i ≠ M.1.length → s_row σ' i = s_row M.2.2 i) (hz : H1.size = H.size + 1)
    (oq : ∀ q : Nat, q < H.size → H1[q]? = H[q]?) (hat : va_at D k_cl (H.size, s_e B dA (s_row σ' M.1.length) e) H1) : k_I B b Ln xs dA D (M.1 ++ [e], 0, σ') U H1 := by
  obtain ⟨h1, h2, h3, h4, h5, h6, h7, h8⟩ := hI
  have hlen : 0 < M.1.length := (List.getElem?_eq_some_iff.mp h2).1
  have hsz : H.size = B + M.1.length := by omega
  refine ⟨?_, ?_, ?_, h4, fun q cell hq hc => ?_, fun V a' hV hq => h6 V a' hV (fun q hB => (hq q hB).trans (oq q (by omega))), h7.kept (oq b (by omega)), h8⟩
  · show H1.size = B + (M.1 ++ [e]).length + 0
    rw [List.length_append, hz, hsz]
    simp; omega
  · show (M.1 ++ [e])[0]? = _
    rw [List.getElem?_append_left hlen]
    exact h2
  · show va_P D k_cl (s_w B dA (M.1 ++ [e]) σ') H1
    rw [s_w_push (List.length_pos_iff.mp hlen) ho]
    refine (h3.kept (fun k q hk => oq q.1 ((h3 k q hk).lt))).app (fun k x hx => ?_)
    have hk : k < 1 := (List.getElem?_eq_some_iff.mp hx).1
    rw [show k = 0 by omega] at hx
    cases hx
    rw [← hsz]
    exact hat
  · by_cases h : q = H.size
    · obtain ⟨c', hc', hv⟩ := k_at_vm hat
      rw [h] at hc
      cases Option.some.inj (hc'.symm.trans hc)
      exact hv
    · have hlt : q < H1.size := (Array.getElem?_eq_some_iff.mp hc).1
      rw [oq q (by omega)] at hc
      exact h5 q cell hq hc
theorem k_I_more {M : s_M} {U : State} {H H1 : Heap} (hI : k_I B b Ln xs dA D M U H) (hz : H1.size = H.size + 1)
    (oq : ∀ q : Nat, q < H.size → H1[q]? = H[q]?) (hn : ∀ cell, H1[H.size]? = some cell → cell.vm = .none) : k_I B b Ln xs dA D (M.1, M.2.1 + 1, M.2.2) U H1 := by
  obtain ⟨h1, h2, h3, h4, h5, h6, h7, h8⟩ := hI
  have hlen : 0 < M.1.length := (List.getElem?_eq_some_iff.mp h2).1
  refine ⟨by show H1.size = B + M.1.length + (M.2.1 + 1); omega, h2, h3.kept (fun k q hk => oq q.1 ((h3 k q hk).lt)), h4, fun q cell hq hc => ?_, fun V a' hV hq => h6 V a' hV (fun q hB => (hq q hB).trans (oq q (by omega))), h7.kept (oq b (by omega)), h8⟩
  by_cases h : q = H.size
  · rw [h] at hc
    exact hn cell hc
  · have hlt : q < H1.size := (Array.getElem?_eq_some_iff.mp hc).1
    rw [oq q (by omega)] at hc
    exact h5 q cell hq hc
/-- an object's or array's number isn't 0 -/
theorem k_pos {M : s_M} {U : State} {H : Heap} (hI : k_I B b Ln xs dA D M U H) {a : Nat} {e : s_K} (h : M.1[a]? = some e) (hne : e ≠ .inr (99, 0)) : ∃ j, a = j + 1 := by
  cases a with
  | zero => exact absurd (Option.some.inj (h.symm.trans hI.2.1)) hne
  | succ j => exact ⟨j, rfl⟩
end Hold
/-! locals -/
theorem i_mem {β : Type} {c : List (Nat × β)} {k : Nat} {v : β} (h : c.lookup k = some v) : (k, v) ∈ c := by
  induction c with
  | nil => simp at h
  | cons q r ih =>
    obtain ⟨a, w⟩ := q
    simp only [List.lookup] at h
    split at h
    · rename_i he
      have h1 : k = a := by simpa using he
      cases h
      rw [h1]
      exact List.mem_cons_self
    · exact List.mem_cons_of_mem _ (ih h)
section Loc
variable {B b nL : Nat} {ls : Array Slot} {L : i_L}
theorem i_ld_at {i : Nat} {v : Value} (hl : lv_has ls nL (L.map (k_cp B b))) (h : i_ld L i = some v) : ls[i]? = some (.val (k_cv B b v)) :=
  hl.2.2 (i, k_cv B b v) (List.mem_map.mpr ⟨(i, v), i_mem h, rfl⟩)
theorem i_s1_map (i : Nat) (v : Value) : (i, k_cv B b v) :: (L.map (k_cp B b)).filter (fun q => !(q.1 == i) && !(q.1 + 1 == i && q.2.category == 2)) = (i_s1 L i v).map (k_cp B b) := by
  show _ = (i, k_cv B b v) :: (L.filter _).map (k_cp B b)
  rw [List.filter_map]
  congr 3
  funext q
  simp [k_cp, k_cv_cat]
theorem i_s2_map (i : Nat) (v : Value) : (i, k_cv B b v) :: (L.map (k_cp B b)).filter (fun q => !(q.1 == i) && (!(q.1 == i + 1) && !(q.1 + 1 == i && q.2.category == 2))) = (i_s2 L i v).map (k_cp B b) := by
  show _ = (i, k_cv B b v) :: (L.filter _).map (k_cp B b)
  rw [List.filter_map]
  congr 3
  funext q
  simp [k_cp, k_cv_cat]
theorem i_drop_map (i : Nat) {v : Value} (h : lv_has ls nL ((i, v) :: (L.map (k_cp B b)).filter (fun q => !(q.1 == i) && !(q.1 + 1 == i && q.2.category == 2)))) : lv_has ls nL ((L.filter (fun q => !(q.1 == i) && !(q.1 + 1 == i && q.2.category == 2))).map (k_cp B b)) := by
  refine ⟨h.1, h.2.1, fun q hq => h.2.2 q (List.mem_cons_of_mem _ ?_)⟩
  rw [List.filter_map]
  have e : (fun q : Nat × Value => !(q.1 == i) && !(q.1 + 1 == i && q.2.category == 2)) ∘ k_cp B b = (fun q : Nat × Value => !(q.1 == i) && !(q.1 + 1 == i && q.2.category == 2)) := by
    funext q
    simp [k_cp, k_cv_cat]
  rw [e]
  exact hq
theorem i_cat (B b : Nat) (st : List Value) : ((st.map (k_cv B b)).map fun v => v.category).sum = (st.map fun v => v.category).sum := by
  rw [List.map_map]
  congr 1
  apply List.map_congr_left
  intro v _
  exact k_cv_cat B b v
end Loc
