/-! The typed state: four tables by (object, place); the shape of the objects; the kit's list of cells that it stands for.
Object 0 is null; object i (from 1 on) lies at address B + i. Shape: .inl c an object of class number c, .inr (t, n) an array of n of type number t. -/
abbrev s_S : Type := (Nat → Nat → Int32) × (Nat → Nat → Int64) × (Nat → Nat → Nat) × (Nat → Nat → Bool)
abbrev s_R : Type := (Nat → Int32) × (Nat → Int64) × (Nat → Nat) × (Nat → Bool)
abbrev s_K : Type := Nat ⊕ (Nat × Nat)
abbrev s_M : Type := List s_K × Nat × s_S
def s_up {α : Type} (f : Nat → Nat → α) (i k : Nat) (v : α) : Nat → Nat → α := va_up f i (va_up (f i) k v)
def s_pi (σ : s_S) (i k : Nat) (v : Int32) : s_S := (s_up σ.1 i k v, σ.2.1, σ.2.2.1, σ.2.2.2)
def s_pl (σ : s_S) (i k : Nat) (v : Int64) : s_S := (σ.1, s_up σ.2.1 i k v, σ.2.2.1, σ.2.2.2)
def s_pr (σ : s_S) (i k : Nat) (v : Nat) : s_S := (σ.1, σ.2.1, s_up σ.2.2.1 i k v, σ.2.2.2)
def s_pz (σ : s_S) (i k : Nat) (v : Bool) : s_S := (σ.1, σ.2.1, σ.2.2.1, s_up σ.2.2.2 i k v)
def s_z (σ : s_S) (i : Nat) : s_S := (va_up σ.1 i (fun _ => 0), va_up σ.2.1 i (fun _ => 0), va_up σ.2.2.1 i (fun _ => 0), va_up σ.2.2.2 i (fun _ => false))
def s_row (σ : s_S) (i : Nat) : s_R := (σ.1 i, σ.2.1 i, σ.2.2.1 i, σ.2.2.2 i)
def s_b (z : Bool) : Int32 := if z = true then 1 else 0
def s_r (B r : Nat) : Option Nat := if r = 0 then none else some (B + r)
def s_v (B : Nat) (ρ : s_R) (k : Nat) : FieldType → Value
  | .int => .int (ρ.1 k)
  | .long => .long (ρ.2.1 k)
  | .boolean => .int (s_b (ρ.2.2.2 k))
  | _ => va_rf (s_r B (ρ.2.2.1 k))
def s_e (B : Nat) (dA : Nat → ClassId) (ρ : s_R) : s_K → va_E
  | .inl ci => .inr (ci, (k_ft ci).mapIdx (fun k ty => s_v B ρ k ty))
  | .inr (0, n) => .inl (dA 0, n, .inl ρ.1)
  | .inr (1, n) => .inl (dA 1, n, .inr (.inl ρ.2.1))
  | .inr (2, n) => .inl (dA 2, n, .inl (fun j => s_b (ρ.2.2.2 j)))
  | .inr (t + 3, n) => .inl (dA (t + 3), n, .inr (.inr (.inr (.inr (fun j => s_r B (ρ.2.2.1 j))))))
def s_w (B : Nat) (dA : Nat → ClassId) (sh : List s_K) (σ : s_S) : va_W := (sh.mapIdx (fun i e => (B + i, s_e B dA (s_row σ i) e))).tail
theorem s_w_get (B : Nat) (dA : Nat → ClassId) (sh : List s_K) (σ : s_S) (j : Nat) : (s_w B dA sh σ)[j]? = (sh[j + 1]?).map (fun e => (B + (j + 1), s_e B dA (s_row σ (j + 1)) e)) := by
  unfold s_w
  rw [List.getElem?_tail, List.getElem?_mapIdx]
theorem s_w_at {B : Nat} {dA : Nat → ClassId} {sh : List s_K} {σ : s_S} {j : Nat} {e : s_K} (h : sh[j + 1]? = some e) : (s_w B dA sh σ)[j]? = some (B + (j + 1), s_e B dA (s_row σ (j + 1)) e) := by
  rw [s_w_get, h]; rfl
theorem s_w_len (B : Nat) (dA : Nat → ClassId) (sh : List s_K) (σ : s_S) : (s_w B dA sh σ).length = sh.length - 1 := by simp [s_w]
theorem s_w_set {B : Nat} {dA : Nat → ClassId} {sh : List s_K} {σ σ' : s_S} {j : Nat} {e : s_K} (h : sh[j + 1]? = some e) (ho : ∀ i, i ≠ j + 1 → s_row σ' i = s_row σ i) :
    s_w B dA sh σ' = (s_w B dA sh σ).set j (B + (j + 1), s_e B dA (s_row σ' (j + 1)) e) := by
  apply List.ext_getElem?
  intro i
  rw [List.getElem?_set, s_w_get, s_w_get, s_w_len]
  by_cases hj : j = i
  · subst hj
    have hlt : j + 1 < sh.length := (List.getElem?_eq_some_iff.mp h).1
    rw [if_pos rfl, if_pos (by omega), h]
    rfl
  · rw [if_neg hj, ho (i + 1) (by omega)]
theorem s_w_push {B : Nat} {dA : Nat → ClassId} {sh : List s_K} {σ σ' : s_S} {e : s_K} (h0 : sh ≠ []) (ho : ∀ i, i ≠ sh.length → s_row σ' i = s_row σ i) :
    s_w B dA (sh ++ [e]) σ' = s_w B dA sh σ ++ [(B + sh.length, s_e B dA (s_row σ' sh.length) e)] := by
  have hl : 0 < sh.length := List.length_pos_iff.mpr h0
  apply List.ext_getElem?
  intro i
  rw [s_w_get]
  by_cases h1 : i + 1 < sh.length
  · rw [List.getElem?_append_left h1, List.getElem?_append_left (by rw [s_w_len]; omega), s_w_get, ho (i + 1) (by omega)]
  · rw [List.getElem?_append_right (by omega), List.getElem?_append_right (by rw [s_w_len]; omega), s_w_len]
    by_cases h2 : i + 1 = sh.length
    · rw [show i + 1 - sh.length = 0 by omega, show i - (sh.length - 1) = 0 by omega, ← h2]
      rfl
    · obtain ⟨d, hd⟩ : ∃ d, i + 1 - sh.length = d + 1 := ⟨i + 1 - sh.length - 1, by omega⟩
      rw [hd, show i - (sh.length - 1) = d + 1 by omega]
      rfl
theorem s_w_D (B : Nat) (dA : Nat → ClassId) (sh : List s_K) (σ : s_S) : va_D (fun q => B < q) (s_w B dA sh σ) := by
  have key : ∀ (i : Nat) (p : Nat × va_E), (s_w B dA sh σ)[i]? = some p → p.1 = B + (i + 1) := by
    intro i p h
    rw [s_w_get] at h
    cases hc : sh[i + 1]? with
    | none => rw [hc] at h; cases h
    | some e => rw [hc] at h; cases h; rfl
  refine ⟨fun i j p q hp hq he => ?_, fun k q hq => ?_⟩
  · have h1 := key i p hp
    have h2 := key j q hq
    omega
  · have h1 := key k q hq
    show B < q.1
    omega
/-! rows behind a store -/
theorem s_row_ne {α : Type} {f : Nat → Nat → α} {i j k : Nat} {v : α} (h : j ≠ i) : s_up f i k v j = f j := by simp [s_up, va_up, h]
theorem s_row_eq {α : Type} {f : Nat → Nat → α} {i k : Nat} {v : α} : s_up f i k v i = va_up (f i) k v := by simp [s_up, va_up]
theorem s_pi_off {σ : s_S} {i k : Nat} {v : Int32} : ∀ j, j ≠ i → s_row (s_pi σ i k v) j = s_row σ j := fun j h => by simp [s_row, s_pi, s_row_ne h]
theorem s_pl_off {σ : s_S} {i k : Nat} {v : Int64} : ∀ j, j ≠ i → s_row (s_pl σ i k v) j = s_row σ j := fun j h => by simp [s_row, s_pl, s_row_ne h]
theorem s_pr_off {σ : s_S} {i k : Nat} {v : Nat} : ∀ j, j ≠ i → s_row (s_pr σ i k v) j = s_row σ j := fun j h => by simp [s_row, s_pr, s_row_ne h]
theorem s_pz_off {σ : s_S} {i k : Nat} {v : Bool} : ∀ j, j ≠ i → s_row (s_pz σ i k v) j = s_row σ j := fun j h => by simp [s_row, s_pz, s_row_ne h]
theorem s_z_off {σ : s_S} {i : Nat} : ∀ j, j ≠ i → s_row (s_z σ i) j = s_row σ j := fun j h => by simp [s_row, s_z, va_up, h]
theorem s_z_at {σ : s_S} {i : Nat} : s_row (s_z σ i) i = (fun _ => 0, fun _ => 0, fun _ => 0, fun _ => false) := by simp [s_row, s_z, va_up]
theorem s_pi_at {σ : s_S} {i k : Nat} {v : Int32} : s_row (s_pi σ i k v) i = (va_up (σ.1 i) k v, σ.2.1 i, σ.2.2.1 i, σ.2.2.2 i) := by simp [s_row, s_pi, s_row_eq]
theorem s_pl_at {σ : s_S} {i k : Nat} {v : Int64} : s_row (s_pl σ i k v) i = (σ.1 i, va_up (σ.2.1 i) k v, σ.2.2.1 i, σ.2.2.2 i) := by simp [s_row, s_pl, s_row_eq]
theorem s_pr_at {σ : s_S} {i k : Nat} {v : Nat} : s_row (s_pr σ i k v) i = (σ.1 i, σ.2.1 i, va_up (σ.2.2.1 i) k v, σ.2.2.2 i) := by simp [s_row, s_pr, s_row_eq]
theorem s_pz_at {σ : s_S} {i k : Nat} {v : Bool} : s_row (s_pz σ i k v) i = (σ.1 i, σ.2.1 i, σ.2.2.1 i, va_up (σ.2.2.2 i) k v) := by simp [s_row, s_pz, s_row_eq]
theorem s_fs_set {B : Nat} {ρ ρ' : s_R} {l : List FieldType} {k : Nat} {ty : FieldType} {v : Value} (hk : l[k]? = some ty) (hv : s_v B ρ' k ty = v) (ho : ∀ j t, j ≠ k → s_v B ρ' j t = s_v B ρ j t) :
    l.mapIdx (fun j t => s_v B ρ' j t) = (l.mapIdx (fun j t => s_v B ρ j t)).set k v := by
  apply List.ext_getElem?
  intro j
  rw [List.getElem?_set, List.getElem?_mapIdx, List.getElem?_mapIdx, List.length_mapIdx]
  by_cases hj : k = j
  · subst hj
    have hlt : k < l.length := (List.getElem?_eq_some_iff.mp hk).1
    rw [if_pos rfl, if_pos hlt, hk]
    show some (s_v B ρ' k ty) = some v
    rw [hv]
  · rw [if_neg hj]
    cases hc : l[j]? with
    | none => rfl
    | some t =>
      show some (s_v B ρ' j t) = some (s_v B ρ j t)
      rw [ho j t (fun h => hj h.symm)]
theorem s_up_ne {α : Type} {f : Nat → α} {k j : Nat} {v : α} (h : j ≠ k) : va_up f k v j = f j := by simp [va_up, h]
theorem s_up_eq {α : Type} {f : Nat → α} {k : Nat} {v : α} : va_up f k v k = v := by simp [va_up]
theorem s_v_pi {B : Nat} {ρ : s_R} {k : Nat} {x : Int32} : ∀ j t, j ≠ k → s_v B (va_up ρ.1 k x, ρ.2.1, ρ.2.2.1, ρ.2.2.2) j t = s_v B ρ j t := fun j t h => by cases t <;> simp [s_v, s_up_ne h]
theorem s_v_pl {B : Nat} {ρ : s_R} {k : Nat} {x : Int64} : ∀ j t, j ≠ k → s_v B (ρ.1, va_up ρ.2.1 k x, ρ.2.2.1, ρ.2.2.2) j t = s_v B ρ j t := fun j t h => by cases t <;> simp [s_v, s_up_ne h]
theorem s_v_pr {B : Nat} {ρ : s_R} {k : Nat} {x : Nat} : ∀ j t, j ≠ k → s_v B (ρ.1, ρ.2.1, va_up ρ.2.2.1 k x, ρ.2.2.2) j t = s_v B ρ j t := fun j t h => by cases t <;> simp [s_v, s_up_ne h]
theorem s_v_pz {B : Nat} {ρ : s_R} {k : Nat} {x : Bool} : ∀ j t, j ≠ k → s_v B (ρ.1, ρ.2.1, ρ.2.2.1, va_up ρ.2.2.2 k x) j t = s_v B ρ j t := fun j t h => by cases t <;> simp [s_v, s_up_ne h]
theorem s_b01 (z : Bool) : s_b z = 0 ∨ s_b z = 1 := by cases z <;> simp [s_b]
theorem s_b_ne (z : Bool) : (!(s_b z == 0)) = z := by cases z <;> rfl
theorem s_b_of {x : Int32} (h : x = 0 ∨ x = 1) : s_b (!(x == 0)) = x := by rcases h with h | h <;> subst h <;> rfl
theorem s_r_some {B r : Nat} (h : r ≠ 0) : s_r B r = some (B + r) := by simp [s_r, h]
