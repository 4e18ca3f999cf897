/-! Constructors by computation: a state as lists of writes, a run that the kernel computes, and that it is a run of the small machine. -/
abbrev f_M : Type := Nat × List s_K × List (Nat × Nat × Int32) × List (Nat × Nat × Nat) × List (Nat × Nat × Bool)
abbrev f_C : Type := Nat × i_L × List Value × f_M × Nat × Nat
def f_get {α : Type} (d : α) (a k : Nat) : List (Nat × Nat × α) → α
  | [] => d
  | e :: r => cond (Nat.beq e.1 a && Nat.beq e.2.1 k) e.2.2 (f_get d a k r)
def f_sh (F : f_M) (a : Nat) : Option s_K := cond (Nat.blt a F.1) (F.2.1[F.1 - 1 - a]?) none
def f_rep (F : f_M) (M : s_M) : Prop := M.1 = F.2.1.reverse ∧ F.2.1.length = F.1 ∧ M.2.1 = 0 ∧ (∀ a k, M.2.2.1 a k = f_get 0 a k F.2.2.1) ∧ (∀ a k, M.2.2.2.1 a k = 0) ∧ (∀ a k, M.2.2.2.2.1 a k = f_get 0 a k F.2.2.2.1) ∧ (∀ a k, M.2.2.2.2.2 a k = f_get false a k F.2.2.2.2) ∧
  (∀ e ∈ F.2.2.1, e.1 < F.1) ∧ (∀ e ∈ F.2.2.2.1, e.1 < F.1) ∧ (∀ e ∈ F.2.2.2.2, e.1 < F.1)
def f_ref : FieldType → Bool
  | .object _ => true
  | .array _ => true
  | _ => false
def f_new (F : f_M) (e : s_K) : f_M := (F.1 + 1, e :: F.2.1, F.2.2)
def f_st (mc ms : Nat) (ins : Instr) (a1 a2 pc : Nat) (L : i_L) (st : List Value) (F : f_M) (ce sl : Nat) : Option f_C := match ins with
  | .iconst n => some (pc + 1, L, .int (Int32.ofInt n) :: st, F, ce, sl)
  | .bipush n => some (pc + 2, L, .int ((Int8.ofInt n).toInt32) :: st, F, ce, sl)
  | .sipush n => some (pc + 3, L, .int ((Int16.ofInt n).toInt32) :: st, F, ce, sl)
  | .iload_n k => match i_ld L k with
    | some (.int x) => some (pc + 1, L, .int x :: st, F, ce, sl)
    | _ => none
  | .aload_n k => match i_ld L k with
    | some (.ref x) => some (pc + 1, L, .ref x :: st, F, ce, sl)
    | _ => none
  | .istore_n k => match st with
    | .int x :: r => some (pc + 1, i_s1 L k (.int x), r, F, ce, sl)
    | _ => none
  | .iinc k n => match i_ld L k with
    | some (.int x) => some (pc + 3, i_s1 L k (.int (x + Int32.ofInt n)), st, F, ce, sl)
    | _ => none
  | .dup => match st with
    | .ref x :: r => some (pc + 1, L, .ref x :: .ref x :: r, F, ce, sl)
    | _ => none
  | .goto off => some (i_tg pc off, L, st, F, ce, sl)
  | .if_icmp c off => match st with
    | .int y :: .int x :: r => some (i_br c x y (i_tg pc off) (pc + 3), L, r, F, ce, sl)
    | _ => none
  | .getfield _ => match st with
    | .ref a :: r => if f_sh F a = some (.inl a1) ∧ f_ref ((k_ft a1).getD a2 .int) = true ∧ f_get 0 a a2 F.2.2.2.1 ≠ 0 then some (pc + 3, L, .ref (f_get 0 a a2 F.2.2.2.1) :: r, F, ce, sl) else none
    | _ => none
  | .putfield _ => match st with
    | .int x :: .ref a :: r => if f_sh F a = some (.inl a1) ∧ (k_ft a1).getD a2 .int = .int then some (pc + 3, L, r, (F.1, F.2.1, (a, a2, x) :: F.2.2.1, F.2.2.2), ce, sl)
      else if f_sh F a = some (.inl a1) ∧ (k_ft a1).getD a2 .int = .boolean ∧ x = 1 then some (pc + 3, L, r, (F.1, F.2.1, F.2.2.1, F.2.2.2.1, (a, a2, true) :: F.2.2.2.2), ce, sl) else none
    | .ref v :: .ref a :: r => if f_sh F a = some (.inl a1) ∧ f_ref ((k_ft a1).getD a2 .int) = true ∧ v ≠ 0 then some (pc + 3, L, r, (F.1, F.2.1, F.2.2.1, (a, a2, v) :: F.2.2.2.1, F.2.2.2.2), ce, sl) else none
    | _ => none
  | .iastore => match st with
    | .int x :: .int j :: .ref a :: r => match f_sh F a with
      | some (.inr (0, n)) => if 0 ≤ j.toInt ∧ j.toInt < (n : Int) then some (pc + 1, L, r, (F.1, F.2.1, (a, j.toNatClampNeg, x) :: F.2.2.1, F.2.2.2), ce, sl) else none
      | _ => none
    | _ => none
  | .aastore => match st with
    | .ref v :: .int j :: .ref a :: r => match f_sh F a with
      | some (.inr (t, n)) => if t = a1 + 3 ∧ 0 ≤ j.toInt ∧ j.toInt < (n : Int) ∧ f_sh F v = some (.inl a1) then some (pc + 1, L, r, (F.1, F.2.1, F.2.2.1, (a, j.toNatClampNeg, v) :: F.2.2.2.1, F.2.2.2.2), ce, sl) else none
      | _ => none
    | _ => none
  | .newarray _ => match st with
    | .int n :: r => if n.toInt = (a2 : Int) ∧ ce + 1 ≤ mc ∧ sl + a2 ≤ ms then some (pc + 2, L, .ref F.1 :: r, f_new F (.inr (a1, a2)), ce + 1, sl + a2) else none
    | _ => none
  | .anewarray _ => match st with
    | .int n :: r => if n.toInt = (a2 : Int) ∧ ce + 1 ≤ mc ∧ sl + a2 ≤ ms then some (pc + 3, L, .ref F.1 :: r, f_new F (.inr (a1 + 3, a2)), ce + 1, sl + a2) else none
    | _ => none
  | .new _ => match a2 with
    | 0 => if ce + 1 ≤ mc ∧ sl + (k_ft a1).length ≤ ms then some (pc + 3, L, .ref F.1 :: st, f_new F (.inl a1), ce + 1, sl + (k_ft a1).length) else none
    | _ => none
  | _ => none
def f_rfb : List Value → Bool
  | .ref _ :: _ => true
  | _ => false
def f_ex : Nat → i_T → f_C → Option f_M
  | 0, _, _ => none
  | n + 1, t, (pc, L, st, F, ce, sl) => match i_at t.2.1 pc with
    | none => none
    | some (ins, _, a1, a2, _) => match ins with
      | .return_ => match st with
        | [] => if ce ≤ t.2.2.2.2.1 ∧ sl ≤ t.2.2.2.2.2 then some F else none
        | _ => none
      | .invokespecial _ => match a2 with
        | 0 => match st with
          | .ref _ :: r => if i_rm r = true then f_ex n t (pc + 3, L, r, F, ce, sl) else none
          | _ => none
        | na + 1 => if i_rn (st.drop (na + 1)) (st.take (na + 1)).reverse (k_t a1).2.2.1 = true ∧ na + 1 ≤ st.length ∧ f_rfb (st.take (na + 1)).reverse = true ∧ (ce + (k_t a1).2.2.2.2.1 ≤ t.2.2.2.2.1 ∧ sl + (k_t a1).2.2.2.2.2 ≤ t.2.2.2.2.2) then
            (match f_ex n (k_t a1) (0, lv_args 0 (st.take (na + 1)).reverse, [], F, 0, 0) with
              | none => none
              | some F' => f_ex n t (pc + 3, L, st.drop (na + 1), F', ce + (k_t a1).2.2.2.2.1, sl + (k_t a1).2.2.2.2.2))
          else none
      | .new _ => match a2 with
        | 0 => match f_st t.2.2.2.2.1 t.2.2.2.2.2 ins a1 0 pc L st F ce sl with
          | none => none
          | some c' => f_ex n t c'
        | _ => none
      | ins => match f_st t.2.2.2.2.1 t.2.2.2.2.2 ins a1 a2 pc L st F ce sl with
        | none => none
        | some c' => f_ex n t c'
/-! what the lists say -/
theorem f_get_cons {α : Type} {d v : α} {a k a' k' : Nat} {l : List (Nat × Nat × α)} : f_get d a k ((a', k', v) :: l) = if a = a' ∧ k = k' then v else f_get d a k l := by
  show cond (Nat.beq a' a && Nat.beq k' k) v (f_get d a k l) = _
  by_cases h : a = a' ∧ k = k'
  · obtain ⟨rfl, rfl⟩ := h
    rw [if_pos ⟨rfl, rfl⟩, Nat.beq_refl, Nat.beq_refl]
    rfl
  · rw [if_neg h]
    have h1 : (Nat.beq a' a && Nat.beq k' k) = false := by
      rw [Bool.and_eq_false_iff]
      by_cases ha : a = a'
      · right
        cases hb : Nat.beq k' k with
        | false => rfl
        | true => exact absurd ⟨ha, (Nat.eq_of_beq_eq_true hb).symm⟩ h
      · left
        cases hb : Nat.beq a' a with
        | false => rfl
        | true => exact absurd (Nat.eq_of_beq_eq_true hb).symm ha
    rw [h1]
    rfl
theorem f_get_up {α : Type} {d v : α} {f : Nat → Nat → α} {a k : Nat} {l : List (Nat × Nat × α)} (h : ∀ a k, f a k = f_get d a k l) : ∀ a' k', s_up f a k v a' k' = f_get d a' k' ((a, k, v) :: l) := by
  intro a' k'
  rw [f_get_cons]
  unfold s_up va_up
  by_cases h1 : a' = a
  · subst h1
    by_cases h2 : k' = k
    · simp [h2]
    · simp [h2, h]
  · simp [h1, h]
theorem f_get_low {α : Type} {d : α} {a k n : Nat} {l : List (Nat × Nat × α)} (h : ∀ e ∈ l, e.1 < n) (ha : n ≤ a) : f_get d a k l = d := by
  induction l with
  | nil => rfl
  | cons e r ih =>
    obtain ⟨a', k', v⟩ := e
    rw [f_get_cons, if_neg]
    · exact ih (fun e he => h e (List.mem_cons_of_mem _ he))
    · intro h1
      have := h (a', k', v) List.mem_cons_self
      simp at this
      omega
theorem f_get_z {α : Type} {d : α} {f : Nat → Nat → α} {n : Nat} {l : List (Nat × Nat × α)} (h : ∀ a k, f a k = f_get d a k l) (hl : ∀ e ∈ l, e.1 < n) : ∀ a k, va_up f n (fun _ => d) a k = f_get d a k l := by
  intro a k
  unfold va_up
  by_cases h1 : a = n
  · subst h1
    rw [if_pos rfl, f_get_low hl (Nat.le_refl _)]
  · rw [if_neg h1, h]
theorem f_sh_eq {F : f_M} {M : s_M} (h : f_rep F M) (a : Nat) : M.1[a]? = f_sh F a := by
  obtain ⟨h1, h2, -⟩ := h
  unfold f_sh
  rw [h1]
  by_cases ha : a < F.1
  · have hb : Nat.blt a F.1 = true := by simpa [Nat.blt_eq] using ha
    rw [hb, List.getElem?_reverse (by omega), h2]
    rfl
  · have hb : Nat.blt a F.1 = false := by
      cases hb : Nat.blt a F.1 with
      | false => rfl
      | true => exact absurd (Nat.blt_eq.mp hb) ha
    rw [hb, List.getElem?_eq_none (by simp; omega)]
    rfl
theorem f_len {F : f_M} {M : s_M} (h : f_rep F M) : M.1.length = F.1 := by rw [h.1, List.length_reverse]; exact h.2.1
theorem f_rep_new {F : f_M} {M : s_M} (h : f_rep F M) (e : s_K) : f_rep (f_new F e) (M.1 ++ [e], 0, s_z M.2.2 M.1.length) := by
  have hl := f_len h
  obtain ⟨h1, h2, h3, h4, h5, h6, h7, h8, h9, h10⟩ := h
  refine ⟨?_, ?_, rfl, ?_, ?_, ?_, ?_, fun e he => Nat.lt_succ_of_lt (h8 e he), fun e he => Nat.lt_succ_of_lt (h9 e he), fun e he => Nat.lt_succ_of_lt (h10 e he)⟩
  · show M.1 ++ [e] = (e :: F.2.1).reverse
    rw [List.reverse_cons, h1]
  · show (e :: F.2.1).length = F.1 + 1
    rw [List.length_cons, h2]
  · rw [hl]; exact f_get_z h4 h8
  · intro a k
    show va_up M.2.2.2.1 M.1.length (fun _ => 0) a k = 0
    unfold va_up
    split
    · rfl
    · exact h5 a k
  · rw [hl]; exact f_get_z h6 h9
  · rw [hl]; exact f_get_z h7 h10
theorem f_in {F : f_M} {a : Nat} {e : s_K} (h : f_sh F a = some e) : a < F.1 := by
  unfold f_sh at h
  cases hb : Nat.blt a F.1 with
  | false => rw [hb] at h; cases h
  | true => exact Nat.blt_eq.mp hb
theorem f_rep_i {F : f_M} {M : s_M} (h : f_rep F M) {a k : Nat} {e : s_K} (ha : f_sh F a = some e) (x : Int32) : f_rep (F.1, F.2.1, (a, k, x) :: F.2.2.1, F.2.2.2) (M.1, M.2.1, s_pi M.2.2 a k x) := by
  have hin := f_in ha
  obtain ⟨h1, h2, h3, h4, h5, h6, h7, h8, h9, h10⟩ := h
  exact ⟨h1, h2, h3, f_get_up h4, h5, h6, h7, List.forall_mem_cons.mpr ⟨hin, h8⟩, h9, h10⟩
theorem f_rep_r {F : f_M} {M : s_M} (h : f_rep F M) {a k : Nat} {e : s_K} (ha : f_sh F a = some e) (x : Nat) : f_rep (F.1, F.2.1, F.2.2.1, (a, k, x) :: F.2.2.2.1, F.2.2.2.2) (M.1, M.2.1, s_pr M.2.2 a k x) := by
  have hin := f_in ha
  obtain ⟨h1, h2, h3, h4, h5, h6, h7, h8, h9, h10⟩ := h
  exact ⟨h1, h2, h3, h4, h5, f_get_up h6, h7, h8, List.forall_mem_cons.mpr ⟨hin, h9⟩, h10⟩
theorem f_rep_z {F : f_M} {M : s_M} (h : f_rep F M) {a k : Nat} {e : s_K} (ha : f_sh F a = some e) (x : Bool) : f_rep (F.1, F.2.1, F.2.2.1, F.2.2.2.1, (a, k, x) :: F.2.2.2.2) (M.1, M.2.1, s_pz M.2.2 a k x) := by
  have hin := f_in ha
  obtain ⟨h1, h2, h3, h4, h5, h6, h7, h8, h9, h10⟩ := h
  exact ⟨h1, h2, h3, h4, h5, h6, f_get_up h7, h8, h9, List.forall_mem_cons.mpr ⟨hin, h10⟩⟩
section Make
variable {xs : Nat → Int32} {Ln : Nat}
theorem f_ix {F : f_M} {M : s_M} (h : f_rep F M) {a t n : Nat} {j : Int32} (hs : f_sh F a = some (.inr (t, n))) (h0 : 0 ≤ j.toInt) (h1 : j.toInt < (n : Int)) : i_ix M a t j := ⟨n, by rw [f_sh_eq h, hs], vp_in_iff.mpr ⟨h0, h1⟩⟩
set_option maxHeartbeats 2000000 in
theorem f_st_ok {mc ms : Nat} {ins : Instr} {a1 a2 pc : Nat} {L : i_L} {st : List Value} {F : f_M} {ce sl : Nat} {c' : f_C} {M : s_M} (hr : f_rep F M) (h : f_st mc ms ins a1 a2 pc L st F ce sl = some c') :
    ∃ (M' : s_M) (P : Prop), i_st xs Ln mc ms ins a1 a2 pc L st M ce sl = some (P, c'.1, c'.2.1, c'.2.2.1, M', c'.2.2.2.2.1, c'.2.2.2.2.2) ∧ P ∧ f_rep c'.2.2.2.1 M' := by
  have hlen := f_len hr
  have hx0 : M.2.1 = 0 := hr.2.2.1
  cases ins with
  | iconst n => simp only [f_st] at h; cases h; exact ⟨M, True, rfl, trivial, hr⟩
  | bipush n => simp only [f_st] at h; cases h; exact ⟨M, True, rfl, trivial, hr⟩
  | sipush n => simp only [f_st] at h; cases h; exact ⟨M, True, rfl, trivial, hr⟩
  | goto n => simp only [f_st] at h; cases h; exact ⟨M, True, rfl, trivial, hr⟩
  | iload_n k =>
    simp only [f_st] at h
    split at h
    · rename_i x hx; cases h; exact ⟨M, True, by simp only [i_st, hx], trivial, hr⟩
    · cases h
  | aload_n k =>
    simp only [f_st] at h
    split at h
    · rename_i x hx; cases h; exact ⟨M, True, by simp only [i_st, hx], trivial, hr⟩
    · cases h
  | istore_n k =>
    simp only [f_st] at h
    split at h
    · cases h; exact ⟨M, True, rfl, trivial, hr⟩
    · cases h
  | iinc k n =>
    simp only [f_st] at h
    split at h
    · rename_i x hx; cases h; exact ⟨M, True, by simp only [i_st, hx], trivial, hr⟩
    · cases h
  | dup =>
    simp only [f_st] at h
    split at h
    · cases h; exact ⟨M, True, rfl, trivial, hr⟩
    · cases h
  | if_icmp c off =>
    simp only [f_st] at h
    split at h
    · cases h; exact ⟨M, True, rfl, trivial, hr⟩
    · cases h
  | getfield i =>
    simp only [f_st] at h
    split at h
    · rename_i a r
      split at h
      · rename_i hc
        cases h
        obtain ⟨g1, g2, g3⟩ := hc
        have hR := hr.2.2.2.2.2.1 a a2
        refine ⟨M, M.1[a]? = some (.inl a1) ∧ i_nn M.2.2 a a2 ((k_ft a1).getD a2 .int), ?_, ⟨by rw [f_sh_eq hr]; exact g1, ?_⟩, hr⟩
        rotate_left
        · generalize (k_ft a1).getD a2 .int = ty at g2
          cases ty <;> first | (cases g2; done) | (show M.2.2.2.2.1 a a2 ≠ 0; rw [hR]; exact g3)
        · simp only [i_st]
          have he : i_rd M.2.2 a a2 ((k_ft a1).getD a2 .int) = .ref (f_get 0 a a2 F.2.2.2.1) := by
            rw [← hR]
            generalize (k_ft a1).getD a2 .int = ty at g2
            cases ty <;> first | (cases g2; done) | rfl
          rw [he]
      · cases h
    · cases h
  | putfield i =>
    simp only [f_st] at h
    split at h
    · rename_i x a r
      split at h
      · rename_i hc
        cases h
        refine ⟨_, M.1[a]? = some (.inl a1) ∧ True, ?_, ⟨by rw [f_sh_eq hr]; exact hc.1, trivial⟩, f_rep_i hr hc.1 x⟩
        simp only [i_st, hc.2, i_wr]
      · split at h
        · rename_i hc
          obtain ⟨g1, g2, rfl⟩ := hc
          cases h
          refine ⟨_, M.1[a]? = some (.inl a1) ∧ ((1 : Int32) = 0 ∨ (1 : Int32) = 1), ?_, ⟨by rw [f_sh_eq hr]; exact g1, Or.inr rfl⟩, f_rep_z hr g1 true⟩
          simp only [i_st, g2, i_wr]
          rfl
        · cases h
    · rename_i v a r
      split at h
      · rename_i hc
        obtain ⟨g1, g2, g3⟩ := hc
        cases h
        refine ⟨_, M.1[a]? = some (.inl a1) ∧ v ≠ 0, ?_, ⟨by rw [f_sh_eq hr]; exact g1, g3⟩, f_rep_r hr g1 v⟩
        simp only [i_st]
        generalize (k_ft a1).getD a2 .int = ty at g2
        cases ty <;> first | (cases g2; done) | rfl
      · cases h
    · cases h
  | iastore =>
    simp only [f_st] at h
    split at h
    · rename_i x j a r
      split at h
      · rename_i n hs
        split at h
        · rename_i hc
          cases h
          exact ⟨_, _, rfl, f_ix hr hs hc.1 hc.2, f_rep_i hr hs x⟩
        · cases h
      · cases h
    · cases h
  | aastore =>
    simp only [f_st] at h
    split at h
    · rename_i v j a r
      split at h
      · rename_i t n hs
        split at h
        · rename_i hc
          obtain ⟨rfl, g1, g2, g3⟩ := hc
          cases h
          exact ⟨_, _, rfl, ⟨f_ix hr hs g1 g2, by rw [f_sh_eq hr]; exact g3⟩, f_rep_r hr hs v⟩
        · cases h
      · cases h
    · cases h
  | newarray ty =>
    simp only [f_st] at h
    split at h
    · rename_i z r
      split at h
      · rename_i hc
        cases h
        refine ⟨(M.1 ++ [.inr (a1, a2)], 0, s_z M.2.2 M.1.length), M.2.1 = 0 ∧ z.toInt = (a2 : Int) ∧ ce + 1 ≤ mc ∧ sl + a2 ≤ ms, ?_, ⟨hx0, hc⟩, f_rep_new hr _⟩
        simp only [i_st, hlen]
      · cases h
    · cases h
  | anewarray i =>
    simp only [f_st] at h
    split at h
    · rename_i z r
      split at h
      · rename_i hc
        cases h
        refine ⟨(M.1 ++ [.inr (a1 + 3, a2)], 0, s_z M.2.2 M.1.length), M.2.1 = 0 ∧ z.toInt = (a2 : Int) ∧ ce + 1 ≤ mc ∧ sl + a2 ≤ ms, ?_, ⟨hx0, hc⟩, f_rep_new hr _⟩
        simp only [i_st, hlen]
      · cases h
    · cases h
  | new i =>
    simp only [f_st] at h
    split at h
    · split at h
      · rename_i hc
        cases h
        refine ⟨(M.1 ++ [.inl a1], 0, s_z M.2.2 M.1.length), M.2.1 = 0 ∧ ce + 1 ≤ mc ∧ sl + (k_ft a1).length ≤ ms, ?_, ⟨hx0, hc⟩, f_rep_new hr _⟩
        simp only [i_st, hlen]
      · cases h
    · cases h
  | _ => simp only [f_st] at h; cases h
theorem f_ok : ∀ (n : Nat) (t : i_T) (pc : Nat) (L : i_L) (st : List Value) (F F' : f_M) (ce sl : Nat), f_ex n t (pc, L, st, F, ce, sl) = some F' → ∀ M, f_rep F M → ∃ M', f_rep F' M' ∧ w_ex xs Ln n t (pc, L, st, M, ce, sl) (fun o M'' => o = .inl none ∧ M'' = M') := by
  intro n
  induction n with
  | zero => intro t pc L st F F' ce sl h; simp only [f_ex] at h; cases h
  | succ n ih =>
    intro t pc L st F F' ce sl h M hr
    unfold f_ex at h
    unfold w_ex
    split at h
    · cases h
    · rename_i ins len a1 a2 pl hat
      simp only [hat]
      split at h
      · split at h
        · split at h
          · rename_i hc
            cases h
            exact ⟨M, hr, hc, by first | trivial | rfl, rfl⟩
          · cases h
        · cases h
      · split at h
        · split at h
          · split at h
            · rename_i hc
              obtain ⟨M', h1, h2⟩ := ih _ _ _ _ _ _ _ _ h M hr
              exact ⟨M', h1, hc, h2⟩
            · cases h
          · cases h
        · split at h
          · rename_i hc
            split at h
            · cases h
            · rename_i F1 hF1
              obtain ⟨M1, r1, w1⟩ := ih _ _ _ _ _ _ _ _ hF1 M hr
              obtain ⟨M', r2, w2⟩ := ih _ _ _ _ _ _ _ _ h M1 r1
              refine ⟨M', r2, hc.1, hc.2.1, ?_, hc.2.2.2, w_le n 0 _ _ _ _ (fun o M'' ho => ?_) w1⟩
              · have h3 := hc.2.2.1
                revert h3
                generalize (st.take _).reverse = as
                intro h3
                cases as with
                | nil => cases h3
                | cons v r => cases v <;> first | trivial | (cases h3)
              · obtain ⟨rfl, rfl⟩ := ho
                exact w2
          · cases h
      · split at h
        · split at h
          · cases h
          · rename_i c' hc'
            obtain ⟨M1, P, hst, hP, r1⟩ := f_st_ok (xs := xs) (Ln := Ln) hr hc'
            obtain ⟨M', r2, w2⟩ := ih _ _ _ _ _ _ _ _ h M1 r1
            refine ⟨M', r2, ?_⟩
            rw [hst]
            exact ⟨hP, w2⟩
        · cases h
      · split at h
        · cases h
        · rename_i c' hc'
          obtain ⟨M1, P, hst, hP, r1⟩ := f_st_ok (xs := xs) (Ln := Ln) hr hc'
          obtain ⟨M', r2, w2⟩ := ih _ _ _ _ _ _ _ _ h M1 r1
          refine ⟨M', r2, ?_⟩
          have key : match i_st xs Ln t.2.2.2.2.1 t.2.2.2.2.2 ins a1 a2 pc L st M ce sl with
              | none => False
              | some (P, c') => P ∧ w_ex xs Ln n t c' (fun o M'' => o = .inl none ∧ M'' = M') := by
            rw [hst]
            exact ⟨hP, w2⟩
          cases ins <;> first | (simp only [f_st] at hc'; cases hc'; done) | exact key | (exfalso; simp_all; done)
end Make
def f_0 : f_M := (1, [.inr (99, 0)], [], [], [])
def f_1 : f_M := f_new f_0 (.inl 5)
