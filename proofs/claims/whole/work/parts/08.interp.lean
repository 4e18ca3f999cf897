/-! A small machine over the typed state: what the methods' instructions do to it. A row of a method's code: (pc, instruction, length, a1, a2, place of its word). -/
abbrev i_L : Type := List (Nat × Value)
abbrev i_C : Type := Nat × i_L × List Value × s_M × Nat × Nat
abbrev i_O : Type := Option Value ⊕ Nat
def i_at (c : List i_X) (pc : Nat) : Option (Instr × Nat × Nat × Nat × Nat) := c.lookup pc
def i_ld (L : i_L) (i : Nat) : Option Value := L.lookup i
def i_s1 (L : i_L) (i : Nat) (v : Value) : i_L := (i, v) :: L.filter (fun q => !(q.1 == i) && !(q.1 + 1 == i && q.2.category == 2))
def i_s2 (L : i_L) (i : Nat) (v : Value) : i_L := (i, v) :: L.filter (fun q => !(q.1 == i) && (!(q.1 == i + 1) && !(q.1 + 1 == i && q.2.category == 2)))
def i_tg (pc : Nat) (off : Int) : Nat := ((pc : Int) + off).toNat
def i_br (c : Jvm.ClassFile.Cond) (x y : Int32) (t f : Nat) : Nat := match c with
  | .eq => if x = y then t else f
  | .ne => if x = y then f else t
  | .lt => if x < y then t else f
  | .ge => if y ≤ x then t else f
  | .gt => if y < x then t else f
  | .le => if x ≤ y then t else f
def i_rd (σ : s_S) (a k : Nat) : FieldType → Value
  | .int => .int (σ.1 a k)
  | .long => .long (σ.2.1 a k)
  | .boolean => .int (s_b (σ.2.2.2 a k))
  | _ => .ref (σ.2.2.1 a k)
def i_nn (σ : s_S) (a k : Nat) : FieldType → Prop
  | .int => True
  | .long => True
  | .boolean => True
  | _ => σ.2.2.1 a k ≠ 0
def i_wr (σ : s_S) (a k : Nat) : FieldType → Value → Option (Prop × s_S)
  | .int, .int x => some (True, s_pi σ a k x)
  | .long, .long x => some (True, s_pl σ a k x)
  | .boolean, .int x => some (x = 0 ∨ x = 1, s_pz σ a k (!(x == 0)))
  | .object _, .ref r => some (r ≠ 0, s_pr σ a k r)
  | .array _, .ref r => some (r ≠ 0, s_pr σ a k r)
  | _, _ => none
def i_ix (M : s_M) (a t : Nat) (j : Int32) : Prop := ∃ n, M.1[a]? = some (.inr (t, n)) ∧ vp_in j n
section Interp
variable (xs : Nat → Int32) (Ln : Nat)
/-- one instruction that is no call, return or throw: what it asks, and where it leads -/
def i_st (mc ms : Nat) (ins : Instr) (a1 a2 pc : Nat) (L : i_L) (st : List Value) (M : s_M) (ce sl : Nat) : Option (Prop × i_C) := match ins with
  | .iconst n => some (True, pc + 1, L, .int (Int32.ofInt n) :: st, M, ce, sl)
  | .bipush n => some (True, pc + 2, L, .int ((Int8.ofInt n).toInt32) :: st, M, ce, sl)
  | .sipush n => some (True, pc + 3, L, .int ((Int16.ofInt n).toInt32) :: st, M, ce, sl)
  | .lconst n => some (True, pc + 1, L, .long (Int64.ofNat (n : Nat)) :: st, M, ce, sl)
  | .ldc _ => some (True, pc + 2, L, .int (Int32.ofNat a1) :: st, M, ce, sl)
  | .ldc2_w _ => some (True, pc + 3, L, .long (Int64.ofNat a1) :: st, M, ce, sl)
  | .iload_n k => match i_ld L k with
    | some (.int x) => some (True, pc + 1, L, .int x :: st, M, ce, sl)
    | _ => none
  | .iload k => match i_ld L k with
    | some (.int x) => some (True, pc + 2, L, .int x :: st, M, ce, sl)
    | _ => none
  | .lload k => match i_ld L k with
    | some (.long x) => some (True, pc + 2, L, .long x :: st, M, ce, sl)
    | _ => none
  | .aload_n k => match i_ld L k with
    | some (.ref x) => some (True, pc + 1, L, .ref x :: st, M, ce, sl)
    | some (.retAddr x) => some (x = 0, pc + 1, L, .retAddr x :: st, M, ce, sl)
    | _ => none
  | .aload k => match i_ld L k with
    | some (.ref x) => some (True, pc + 2, L, .ref x :: st, M, ce, sl)
    | _ => none
  | .istore_n k => match st with
    | .int x :: r => some (True, pc + 1, i_s1 L k (.int x), r, M, ce, sl)
    | _ => none
  | .istore k => match st with
    | .int x :: r => some (True, pc + 2, i_s1 L k (.int x), r, M, ce, sl)
    | _ => none
  | .lstore k => match st with
    | .long x :: r => some (True, pc + 2, i_s2 L k (.long x), r, M, ce, sl)
    | _ => none
  | .astore_n k => match st with
    | .ref x :: r => some (True, pc + 1, i_s1 L k (.ref x), r, M, ce, sl)
    | _ => none
  | .astore k => match st with
    | .ref x :: r => some (True, pc + 2, i_s1 L k (.ref x), r, M, ce, sl)
    | _ => none
  | .iinc k n => match i_ld L k with
    | some (.int x) => some (True, pc + 3, i_s1 L k (.int (x + Int32.ofInt n)), st, M, ce, sl)
    | _ => none
  | .iadd => match st with
    | .int y :: .int x :: r => some (True, pc + 1, L, .int (x + y) :: r, M, ce, sl)
    | _ => none
  | .isub => match st with
    | .int y :: .int x :: r => some (True, pc + 1, L, .int (x - y) :: r, M, ce, sl)
    | _ => none
  | .imul => match st with
    | .int y :: .int x :: r => some (True, pc + 1, L, .int (x * y) :: r, M, ce, sl)
    | _ => none
  | .iand => match st with
    | .int y :: .int x :: r => some (True, pc + 1, L, .int (x &&& y) :: r, M, ce, sl)
    | _ => none
  | .idiv => match st with
    | .int y :: .int x :: r => some (¬ y = 0, pc + 1, L, .int (x / y) :: r, M, ce, sl)
    | _ => none
  | .irem => match st with
    | .int y :: .int x :: r => some (¬ y = 0, pc + 1, L, .int (x - x / y * y) :: r, M, ce, sl)
    | _ => none
  | .ladd => match st with
    | .long y :: .long x :: r => some (True, pc + 1, L, .long (x + y) :: r, M, ce, sl)
    | _ => none
  | .lsub => match st with
    | .long y :: .long x :: r => some (True, pc + 1, L, .long (x - y) :: r, M, ce, sl)
    | _ => none
  | .lmul => match st with
    | .long y :: .long x :: r => some (True, pc + 1, L, .long (x * y) :: r, M, ce, sl)
    | _ => none
  | .lcmp => match st with
    | .long y :: .long x :: r => some (True, pc + 1, L, .int (lg_cmp x y) :: r, M, ce, sl)
    | _ => none
  | .i2l => match st with
    | .int x :: r => some (True, pc + 1, L, .long x.toInt64 :: r, M, ce, sl)
    | _ => none
  | .dup => match st with
    | .int x :: r => some (True, pc + 1, L, .int x :: .int x :: r, M, ce, sl)
    | .ref x :: r => some (True, pc + 1, L, .ref x :: .ref x :: r, M, ce, sl)
    | _ => none
  | .dup2 => match st with
    | .int x :: .ref y :: r => some (True, pc + 1, L, .int x :: .ref y :: .int x :: .ref y :: r, M, ce, sl)
    | _ => none
  | .pop => match st with
    | .int _ :: r => some (True, pc + 1, L, r, M, ce, sl)
    | .ref _ :: r => some (True, pc + 1, L, r, M, ce, sl)
    | _ => none
  | .ifCond c off => match st with
    | .int x :: r => some (True, i_br c x 0 (i_tg pc off) (pc + 3), L, r, M, ce, sl)
    | _ => none
  | .if_icmp c off => match st with
    | .int y :: .int x :: r => some (True, i_br c x y (i_tg pc off) (pc + 3), L, r, M, ce, sl)
    | _ => none
  | .goto off => some (True, i_tg pc off, L, st, M, ce, sl)
  | .tableswitch d lo hi offs => match st with
    | .int x :: r => some (True, (if x.toInt < lo ∨ hi < x.toInt then i_tg pc d else i_tg pc (offs.getD (x.toInt - lo).toNat 0)), L, r, M, ce, sl)
    | _ => none
  | .getfield _ => match st with
    | .ref a :: r => some (M.1[a]? = some (.inl a1) ∧ i_nn M.2.2 a a2 ((k_ft a1).getD a2 .int), pc + 3, L, i_rd M.2.2 a a2 ((k_ft a1).getD a2 .int) :: r, M, ce, sl)
    | _ => none
  | .putfield _ => match st with
    | v :: .ref a :: r => match i_wr M.2.2 a a2 ((k_ft a1).getD a2 .int) v with
      | some (P, σ) => some (M.1[a]? = some (.inl a1) ∧ P, pc + 3, L, r, (M.1, M.2.1, σ), ce, sl)
      | none => none
    | _ => none
  | .iaload => match st with
    | .int j :: .ref a :: r => some (i_ix M a 0 j, pc + 1, L, .int (M.2.2.1 a j.toNatClampNeg) :: r, M, ce, sl)
    | .int j :: .retAddr x :: r => some (x = 0 ∧ vp_in j Ln, pc + 1, L, .int (xs j.toNatClampNeg) :: r, M, ce, sl)
    | _ => none
  | .laload => match st with
    | .int j :: .ref a :: r => some (i_ix M a 1 j, pc + 1, L, .long (M.2.2.2.1 a j.toNatClampNeg) :: r, M, ce, sl)
    | _ => none
  | .baload => match st with
    | .int j :: .ref a :: r => some (i_ix M a 2 j, pc + 1, L, .int (s_b (M.2.2.2.2.2 a j.toNatClampNeg)) :: r, M, ce, sl)
    | _ => none
  | .aaload => match st with
    | .int j :: .ref a :: r => some (i_ix M a (a1 + 3) j ∧ M.2.2.2.2.1 a j.toNatClampNeg ≠ 0, pc + 1, L, .ref (M.2.2.2.2.1 a j.toNatClampNeg) :: r, M, ce, sl)
    | _ => none
  | .iastore => match st with
    | .int x :: .int j :: .ref a :: r => some (i_ix M a 0 j, pc + 1, L, r, (M.1, M.2.1, s_pi M.2.2 a j.toNatClampNeg x), ce, sl)
    | _ => none
  | .lastore => match st with
    | .long x :: .int j :: .ref a :: r => some (i_ix M a 1 j, pc + 1, L, r, (M.1, M.2.1, s_pl M.2.2 a j.toNatClampNeg x), ce, sl)
    | _ => none
  | .bastore => match st with
    | .int x :: .int j :: .ref a :: r => some (i_ix M a 2 j ∧ (x = 0 ∨ x = 1), pc + 1, L, r, (M.1, M.2.1, s_pz M.2.2 a j.toNatClampNeg (!(x == 0))), ce, sl)
    | _ => none
  | .aastore => match st with
    | .ref v :: .int j :: .ref a :: r => some (i_ix M a (a1 + 3) j ∧ M.1[v]? = some (.inl a1), pc + 1, L, r, (M.1, M.2.1, s_pr M.2.2 a j.toNatClampNeg v), ce, sl)
    | _ => none
  | .arraylength => match st with
    | .retAddr x :: r => some (x = 0, pc + 1, L, .int (Int32.ofNat Ln) :: r, M, ce, sl)
    | _ => none
  | .newarray _ => match st with
    | .int n :: r => some (M.2.1 = 0 ∧ n.toInt = (a2 : Int) ∧ ce + 1 ≤ mc ∧ sl + a2 ≤ ms, pc + 2, L, .ref M.1.length :: r, (M.1 ++ [.inr (a1, a2)], 0, s_z M.2.2 M.1.length), ce + 1, sl + a2)
    | _ => none
  | .anewarray _ => match st with
    | .int n :: r => some (M.2.1 = 0 ∧ n.toInt = (a2 : Int) ∧ ce + 1 ≤ mc ∧ sl + a2 ≤ ms, pc + 3, L, .ref M.1.length :: r, (M.1 ++ [.inr (a1 + 3, a2)], 0, s_z M.2.2 M.1.length), ce + 1, sl + a2)
    | _ => none
  | .new _ => match a2 with
    | 0 => some (M.2.1 = 0 ∧ ce + 1 ≤ mc ∧ sl + (k_ft a1).length ≤ ms, pc + 3, L, .ref M.1.length :: st, (M.1 ++ [.inl a1], 0, s_z M.2.2 M.1.length), ce + 1, sl + (k_ft a1).length)
    | _ => none
  | _ => none
def i_rm (st : List Value) : Bool := Nat.ble ((st.map fun v => v.category).sum) 8
def i_rn (st as : List Value) (mx : Nat) : Bool := i_rm st && Nat.ble ((as.map fun v => v.category).sum) mx
def i_rc (ci : Nat) (M : s_M) : List Value → Prop
  | .ref a :: _ => M.1[a]? = some (.inl ci)
  | _ => False
def i_rf : List Value → Prop
  | .ref _ :: _ => True
  | _ => False
def w_ex : Nat → i_T → i_C → (i_O → s_M → Prop) → Prop
  | 0, _, _, _ => False
  | n + 1, t, (pc, L, st, M, ce, sl), Q => match i_at t.2.1 pc with
    | none => False
    | some (ins, _, a1, a2, _) => match ins with
      | .ireturn => match st with
        | [.int v] => (match t.2.2.2.1 with
          | some .int => True
          | some .boolean => v = 0 ∨ v = 1
          | _ => False) ∧ (ce ≤ t.2.2.2.2.1 ∧ sl ≤ t.2.2.2.2.2) ∧ Q (.inl (some (.int v))) M
        | _ => False
      | .lreturn => match st with
        | [.long v] => (ce ≤ t.2.2.2.2.1 ∧ sl ≤ t.2.2.2.2.2) ∧ Q (.inl (some (.long v))) M
        | _ => False
      | .areturn => match st with
        | [.ref v] => (ce ≤ t.2.2.2.2.1 ∧ sl ≤ t.2.2.2.2.2) ∧ Q (.inl (some (.ref v))) M
        | _ => False
      | .return_ => match st with
        | [] => (ce ≤ t.2.2.2.2.1 ∧ sl ≤ t.2.2.2.2.2) ∧ Q (.inl none) M
        | _ => False
      | .invokespecial _ => match a2 with
        | 0 => match st with
          | .ref _ :: r => i_rm r = true ∧ w_ex n t (pc + 3, L, r, M, ce, sl) Q
          | _ => False
        | na + 1 => i_rn (st.drop (na + 1)) (st.take (na + 1)).reverse (k_t a1).2.2.1 = true ∧ na + 1 ≤ st.length ∧ i_rf (st.take (na + 1)).reverse ∧ (ce + (k_t a1).2.2.2.2.1 ≤ t.2.2.2.2.1 ∧ sl + (k_t a1).2.2.2.2.2 ≤ t.2.2.2.2.2) ∧ w_ex n (k_t a1) (0, lv_args 0 (st.take (na + 1)).reverse, [], M, 0, 0) (fun o M' => match o with
          | .inl v => w_ex n t (pc + 3, L, v.toList ++ st.drop (na + 1), M', ce + (k_t a1).2.2.2.2.1, sl + (k_t a1).2.2.2.2.2) Q
          | .inr _ => False)
      | .invokestatic _ => match a2 with
        | 0 => match st with
          | .int y :: .int x :: r => i_rm r = true ∧ (ce ≤ t.2.2.2.2.1 ∧ sl ≤ t.2.2.2.2.2) ∧ w_ex n t (pc + 3, L, .int (if x < y then y else x) :: r, M, ce, sl) Q
          | _ => False
        | na + 1 => i_rn (st.drop na) (st.take na).reverse (k_t a1).2.2.1 = true ∧ na ≤ st.length ∧ (ce + (k_t a1).2.2.2.2.1 ≤ t.2.2.2.2.1 ∧ sl + (k_t a1).2.2.2.2.2 ≤ t.2.2.2.2.2) ∧ w_ex n (k_t a1) (0, lv_args 0 (st.take na).reverse, [], M, 0, 0) (fun o M' => match o with
          | .inl v => w_ex n t (pc + 3, L, v.toList ++ st.drop na, M', ce + (k_t a1).2.2.2.2.1, sl + (k_t a1).2.2.2.2.2) Q
          | .inr _ => False)
      | .invokevirtual _ => i_rn (st.drop (a2 + 1)) (st.take (a2 + 1)).reverse (k_t a1).2.2.1 = true ∧ a2 + 1 ≤ st.length ∧ i_rc (k_rc a1) M (st.take (a2 + 1)).reverse ∧ (ce + (k_t a1).2.2.2.2.1 ≤ t.2.2.2.2.1 ∧ sl + (k_t a1).2.2.2.2.2 ≤ t.2.2.2.2.2) ∧ w_ex n (k_t a1) (0, lv_args 0 (st.take (a2 + 1)).reverse, [], M, 0, 0) (fun o M' => match o with
          | .inl v => w_ex n t (pc + 3, L, v.toList ++ st.drop (a2 + 1), M', ce + (k_t a1).2.2.2.2.1, sl + (k_t a1).2.2.2.2.2) Q
          | .inr x => match k_hd t.1 x with
            | none => k_ex t.1 = [] ∧ Q (.inr x) M'
            | some (pc', k) => w_ex n t (pc', L.filter (fun q => !(q.1 == k) && !(q.1 + 1 == k && q.2.category == 2)), [], M', ce + (k_t a1).2.2.2.2.1, sl + (k_t a1).2.2.2.2.2) Q)
      | .new _ => match a2 with
        | 0 => match i_st xs Ln t.2.2.2.2.1 t.2.2.2.2.2 ins a1 0 pc L st M ce sl with
          | none => False
          | some (P, c') => P ∧ w_ex n t c' Q
        | _ => i_rm st = true ∧ (ce + 1 ≤ t.2.2.2.2.1 ∧ sl + 6 ≤ t.2.2.2.2.2) ∧ Q (.inr a1) (M.1, M.2.1 + 1, M.2.2)
      | ins => match i_st xs Ln t.2.2.2.2.1 t.2.2.2.2.2 ins a1 a2 pc L st M ce sl with
        | none => False
        | some (P, c') => P ∧ w_ex n t c' Q
def w_P (t : i_T) (c : i_C) (Q : i_O → s_M → Prop) : Prop := ∃ n, w_ex xs Ln n t c Q
/-! the run's end is one, and more time does no harm -/
theorem w_mono : ∀ (n : Nat) (t : i_T) (x : i_C) (Q Q' : i_O → s_M → Prop), (∀ o M, Q o M → Q' o M) → w_ex xs Ln n t x Q → w_ex xs Ln n t x Q' := by
  intro n
  induction n with
  | zero => intro t x Q Q' _ h; exact absurd h (by unfold w_ex; exact id)
  | succ n ih =>
    intro t x Q Q' hQ h
    obtain ⟨pc, L, st, M, ce, sl⟩ := x
    unfold w_ex at h ⊢
    split at h
    · exact h.elim
    · rename_i ins len a1 a2 pl hat
      split at h
      · split at h
        · exact ⟨h.1, h.2.1, hQ _ _ h.2.2⟩
        · exact h.elim
      · split at h
        · exact ⟨h.1, hQ _ _ h.2⟩
        · exact h.elim
      · split at h
        · exact ⟨h.1, hQ _ _ h.2⟩
        · exact h.elim
      · split at h
        · exact ⟨h.1, hQ _ _ h.2⟩
        · exact h.elim
      · split at h
        · split at h
          · exact ⟨h.1, ih _ _ _ _ hQ h.2⟩
          · exact h.elim
        · refine ⟨h.1, h.2.1, h.2.2.1, h.2.2.2.1, ih _ _ _ _ (fun o M' ho => ?_) h.2.2.2.2⟩
          cases o with
          | inl v => exact ih _ _ _ _ hQ ho
          | inr x => exact ho
      · split at h
        · split at h
          · exact ⟨h.1, h.2.1, ih _ _ _ _ hQ h.2.2⟩
          · exact h.elim
        · refine ⟨h.1, h.2.1, h.2.2.1, ih _ _ _ _ (fun o M' ho => ?_) h.2.2.2⟩
          cases o with
          | inl v => exact ih _ _ _ _ hQ ho
          | inr x => exact ho
      · refine ⟨h.1, h.2.1, h.2.2.1, h.2.2.2.1, ih _ _ _ _ (fun o M' ho => ?_) h.2.2.2.2⟩
        cases o with
        | inl v => exact ih _ _ _ _ hQ ho
        | inr x =>
          revert ho
          show (match k_hd t.1 x with
            | none => _
            | some (pc', k) => _) → (match k_hd t.1 x with
            | none => _
            | some (pc', k) => _)
          split
          · exact fun ho => ⟨ho.1, hQ _ _ ho.2⟩
          · exact fun ho => ih _ _ _ _ hQ ho
      · split at h
        · split at h
          · exact h.elim
          · exact ⟨h.1, ih _ _ _ _ hQ h.2⟩
        · exact ⟨h.1, h.2.1, hQ _ _ h.2.2⟩
      · split at h
        · exact h.elim
        · exact ⟨h.1, ih _ _ _ _ hQ h.2⟩
end Interp
