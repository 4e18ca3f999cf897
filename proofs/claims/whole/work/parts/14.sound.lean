/-! Each instruction of the small machine is one of the real one. -/
def i_okb (m pc : Nat) (ins : Instr) (len a1 a2 pl : Nat) : Bool := match ins with
  | .iconst _ => decide (len = 1)
  | .bipush _ => decide (len = 2)
  | .sipush _ => decide (len = 3)
  | .lconst _ => decide (len = 1)
  | .ldc i => decide (len = 2) && decide ((k_lk (k_ci m))[pl]? = some (Jvm.Cond.constant (k_own m) i (Int32.ofNat a1)))
  | .ldc2_w i => decide (len = 3) && decide ((k_lk (k_ci m))[pl]? = some (Jvm.Cond.constantLong (k_own m) i (Int64.ofNat a1)))
  | .iload_n _ => decide (len = 1)
  | .iload _ => decide (len = 2)
  | .lload _ => decide (len = 2)
  | .aload_n _ => decide (len = 1)
  | .aload _ => decide (len = 2)
  | .istore_n k => decide (len = 1) && decide ((k : Nat) < (k_t m).2.2.1)
  | .istore k => decide (len = 2) && decide (k < (k_t m).2.2.1)
  | .lstore k => decide (len = 2) && decide (k + 1 < (k_t m).2.2.1)
  | .astore_n k => decide (len = 1) && decide ((k : Nat) < (k_t m).2.2.1)
  | .astore k => decide (len = 2) && decide (k < (k_t m).2.2.1)
  | .iinc k _ => decide (len = 3) && decide (k < (k_t m).2.2.1)
  | .iadd => decide (len = 1)
  | .isub => decide (len = 1)
  | .imul => decide (len = 1)
  | .iand => decide (len = 1)
  | .idiv => decide (len = 1)
  | .irem => decide (len = 1)
  | .ladd => decide (len = 1)
  | .lsub => decide (len = 1)
  | .lmul => decide (len = 1)
  | .lcmp => decide (len = 1)
  | .i2l => decide (len = 1)
  | .dup => decide (len = 1)
  | .dup2 => decide (len = 1)
  | .pop => decide (len = 1)
  | .ifCond _ off => decide (len = 3) && decide (0 ≤ (pc : Int) + off)
  | .if_icmp _ off => decide (len = 3) && decide (0 ≤ (pc : Int) + off)
  | .goto off => decide (len = 3) && decide (0 ≤ (pc : Int) + off)
  | .tableswitch d lo hi offs => decide (0 ≤ (pc : Int) + d) && decide (hi - lo < (offs.size : Int)) && offs.toList.all (fun o => decide (0 ≤ (pc : Int) + o))
  | .getfield i => decide (len = 3) && decide (a1 < k_no) && decide (a2 < (k_ft a1).length) && decide ((k_lk (k_ci m))[pl]? = some (Jvm.Cond.fieldLink (k_own m) i (k_cn a1) (k_tf a1 a2).2.1 (k_tf a1 a2).2.2.1))
  | .putfield i => decide (len = 3) && decide (a1 < k_no) && decide (a2 < (k_ft a1).length) && decide ((k_lk (k_ci m))[pl]? = some (Jvm.Cond.fieldLink (k_own m) i (k_cn a1) (k_tf a1 a2).2.1 (k_tf a1 a2).2.2.1)) && (!(k_tf a1 a2).2.2.2 || (decide ((k_y m).name = "<init>") && decide (k_cn a1 = k_own m)))
  | .iaload => decide (len = 1)
  | .laload => decide (len = 1)
  | .baload => decide (len = 1)
  | .aaload => decide (len = 1) && decide (a1 + 3 < k_na)
  | .iastore => decide (len = 1)
  | .lastore => decide (len = 1)
  | .bastore => decide (len = 1)
  | .aastore => decide (len = 1) && decide (a1 + 3 < k_na)
  | .arraylength => decide (len = 1)
  | .newarray ty => decide (len = 2) && decide (a2 ≤ 1000) && decide (a1 < 3) && decide (newarray.typeOf ty = k_aty a1) && decide (Jvm.Cond.arrayClass (k_aty a1) ∈ k_cw)
  | .anewarray i => decide (len = 3) && decide (a2 ≤ 1000) && decide (a1 + 3 < k_na) && decide ((k_lk (k_ci m))[pl]? = some (Jvm.Cond.classLink (k_own m) i (k_cn a1))) && decide (Jvm.Cond.arrayOver (.object (k_cn a1)) ∈ k_cw)
  | .new i => decide (len = 3) && (match a2 with
    | 0 => decide ((k_lk (k_ci m))[pl]? = some (Jvm.Cond.classLink (k_own m) i (k_cn a1))) && (decide (a1 < k_no) && decide (Jvm.Cond.instantiable (k_cn a1) (k_ft a1).length ∈ k_cw) && decide (Jvm.Cond.initialized (k_cn a1) ∈ k_cw))
    | ic + 1 => decide ((k_lk (k_ci m))[pl]? = some (Jvm.Cond.classLink (k_own m) i (k_en a1))) && decide (a1 < 2) && decide (k_ic a1 = ic + 1) && decide (k_own m = "TwinRooms") && decide (decode (k_by m) (pc + 3) = .ok (.dup, 1)) && decide (decode (k_by m) (pc + 4) = .ok (.invokespecial (ic + 1), 3)) && decide (decode (k_by m) (pc + 7) = .ok (.athrow, 1)) && decide (5 < (k_rm m).frames) && decide (89 ≤ (k_rm m).locals) && decide (k_ex m = []))
  | .ireturn => decide (len = 1)
  | .lreturn => decide (len = 1)
  | .areturn => decide (len = 1)
  | .return_ => decide (len = 1)
  | .invokevirtual i => decide (len = 3) && decide (a1 < k_nj) && decide (k_kd a1 = 0) && decide (k_pn a1 = a2) && decide ((k_lk (k_ci m))[pl]? = some (Jvm.Cond.methodLink (k_own m) i (k_y a1))) && decide ((k_rm a1).frames + 1 ≤ (k_rm m).frames) && decide (8 + ((k_t a1).2.2.1 + 11) + (k_rm a1).locals ≤ (k_rm m).locals)
  | .invokestatic i => match a2 with
    | 0 => decide (len = 3) && decide ((k_lk (k_ci m))[pl]? = some (Jvm.Cond.methodLink (k_own m) i Lib.Math.max.name)) && decide (1 ≤ (k_rm m).frames) && decide (21 ≤ (k_rm m).locals)
    | na + 1 => decide (len = 3) && decide (a1 < k_nj) && decide (k_kd a1 = 1) && decide (k_pn a1 = na) && decide ((k_lk (k_ci m))[pl]? = some (Jvm.Cond.methodLink (k_own m) i (k_y a1))) && decide ((k_rm a1).frames + 1 ≤ (k_rm m).frames) && decide (8 + ((k_t a1).2.2.1 + 11) + (k_rm a1).locals ≤ (k_rm m).locals)
  | .invokespecial i => match a2 with
    | 0 => decide (len = 3) && decide ((k_lk (k_ci m))[pl]? = some (Jvm.Cond.methodLink (k_own m) i Lib.objectInit)) && decide (1 ≤ (k_rm m).frames) && decide (21 ≤ (k_rm m).locals)
    | na + 1 => decide (len = 3) && decide (a1 < k_nj) && decide (k_kd a1 = 2) && decide (k_pn a1 = na) && (decide ((k_lk (k_ci m))[pl]? = some (Jvm.Cond.methodLink (k_own m) i (k_y a1))) || decide ((k_lk (k_ci m))[pl]? = some (Jvm.Cond.methodLinkNest (k_own m) i (k_y a1) k_host))) && decide ((k_rm a1).frames + 1 ≤ (k_rm m).frames) && decide (8 + ((k_t a1).2.2.1 + 11) + (k_rm a1).locals ≤ (k_rm m).locals)
  | _ => true
def x_C (m : Nat) (p : Program) (s : State) (mI : MethodId) (args : Array Value) (meth : Method) (c : Code) : Prop :=
  p.tables.exec = Jvm.exec ∧ c.code = k_by m ∧ c.maxLocals = (k_t m).2.2.1 ∧ s.vm.findClass (k_own m) = some mI.cls ∧ (∀ w ∈ k_all, w.before args s = true) ∧ meth.sig.returnType = (k_t m).2.2.2.1 ∧ meth.locks = false ∧ meth.name = (k_y m).name ∧ c.exceptionTable.toList = tableOf (k_ex m)
section Sound
variable {p : Program} {l : Launch} {e : Env} {R : Room} {s : State} {mI : MethodId} {args : Array Value} {below : List Frame} {meth : Method} {c : Code} {Qw : State → Prop}
variable {B b Ln : Nat} {xs : Nat → Int32} {dA : Nat → ClassId} {D : va_G} {m : Nat}
/-- from this point of the small machine the real one comes to Qw -/
def i_N (p : Program) (l : Launch) (e : Env) (R : Room) (s : State) (mI : MethodId) (args : Array Value) (below : List Frame) (meth : Method) (c : Code) (Qw : State → Prop) (B b Ln : Nat) (xs : Nat → Int32) (dA : Nat → ClassId) (D : va_G) (m : Nat) (x : i_C) : Prop :=
  ∀ (ls : Array Slot) (H : Heap) (locs : List Loc), lv_has ls (k_t m).2.2.1 (x.2.1.map (k_cp B b)) → k_I B b Ln xs dA D x.2.2.2.1 s H → va_S (k_A B) s.heap H locs →
    W p l e R s mI args below meth c H locs x.2.2.2.2.1 x.2.2.2.2.2 Qw (F0 mI x.1 ls (x.2.2.1.map (k_cv B b)))
theorem i_tg_eq {pc : Nat} {off : Int} (h : 0 ≤ (pc : Int) + off) : (pc : Int) + off = ((i_tg pc off : Nat) : Int) := by
  unfold i_tg
  omega
theorem i_word {w : Jvm.Cond} {ci pl : Nat} (hts : ∀ w ∈ k_all, w.before args s = true) (h : (k_lk ci)[pl]? = some w) : w.before args s = true := hts w (k_in_lk (List.mem_of_getElem? h))
theorem k_cl_at {ci : Nat} (h : ci < k_no) : k_cl[ci]? = some (k_cn ci, k_tf ci, (k_ft ci).length) := by simp [k_cl, h]
theorem i_fs_at {ρ : s_R} {ci k : Nat} (h : k < (k_ft ci).length) : ((k_ft ci).mapIdx (fun j ty => s_v B ρ j ty))[k]? = some (s_v B ρ k ((k_ft ci).getD k .int)) := by
  rw [List.getElem?_mapIdx, List.getElem?_eq_getElem h, List.getD_eq_getElem?_getD, List.getElem?_eq_getElem h]
  rfl
theorem i_get {pc i a1 a2 a : Nat} {ls : Array Slot} {H : Heap} {locs : List Loc} {cells slots : Nat} {rest : List Value} {M : s_M} (CX : x_C m p s mI args meth c) (h1 : a1 < k_no) (h2 : a2 < (k_ft a1).length) (hw : (Jvm.Cond.fieldLink (k_own m) i (k_cn a1) (k_tf a1 a2).2.1 (k_tf a1 a2).2.2.1).before args s = true)
    (hd : decode (k_by m) pc = .ok (.getfield i, 3)) (hI : k_I B b Ln xs dA D M s H) (hM : M.1[a]? = some (.inl a1))
    (kk : W p l e R s mI args below meth c H locs cells slots Qw (F0 mI (pc + 3) ls (s_v B (s_row M.2.2 a) a2 ((k_ft a1).getD a2 .int) :: rest))) : W p l e R s mI args below meth c H locs cells slots Qw (F0 mI pc ls (.ref (B + a) :: rest)) := by
  obtain ⟨hx, hb, -, hown, hts, -⟩ := CX
  obtain ⟨j, rfl⟩ := k_pos hI hM (by intro h; cases h)
  refine va_get (D := D) (cl := k_cl) (tys := k_ty dA) (ws := s_w B dA M.1 M.2.2) (ci := a1) (C := k_cn a1) (T := k_tf a1) (N := (k_ft a1).length) (own := k_own m) (ref := k_cn a1) (index := i) hx hb hts (k_lays h1) hown hI.2.2.2.1 hI.2.2.1 j (s_w_at hM) (k_cl_at h1) a2 h2 hw (fun x h => h) (i_fs_at h2) hd kk
theorem i_put {pc i a1 a2 a : Nat} {ls : Array Slot} {H : Heap} {locs : List Loc} {cells slots : Nat} {rest : List Value} {M : s_M} {σ' : s_S} {v : Value} (CX : x_C m p s mI args meth c) (h1 : a1 < k_no) (h2 : a2 < (k_ft a1).length) (hw : (Jvm.Cond.fieldLink (k_own m) i (k_cn a1) (k_tf a1 a2).2.1 (k_tf a1 a2).2.2.1).before args s = true)
    (hfin : (k_tf a1 a2).2.2.2 = false ∨ ((k_y m).name = "<init>" ∧ k_cn a1 = k_own m)) (hd : decode (k_by m) pc = .ok (.putfield i, 3)) (hI : k_I B b Ln xs dA D M s H) (hS : va_S (k_A B) s.heap H locs) (hM : M.1[a]? = some (.inl a1))
    (hn : narrow ((k_ft a1).getD a2 .int) v = v) (hfit : fits ((k_ft a1).getD a2 .int) v = true) (ho : ∀ i, i ≠ a → s_row σ' i = s_row M.2.2 i) (hv : s_v B (s_row σ' a) a2 ((k_ft a1).getD a2 .int) = v) (hrest : ∀ j t, j ≠ a2 → s_v B (s_row σ' a) j t = s_v B (s_row M.2.2 a) j t)
    (kk : ∀ (H1 : Heap) (locs1 : List Loc), k_I B b Ln xs dA D (M.1, M.2.1, σ') s H1 → va_S (k_A B) s.heap H1 locs1 → W p l e R s mI args below meth c H1 locs1 cells slots Qw (F0 mI (pc + 3) ls rest)) : W p l e R s mI args below meth c H locs cells slots Qw (F0 mI pc ls (v :: .ref (B + a) :: rest)) := by
  obtain ⟨hx, hb, -, hown, hts, -, -, hnm, -⟩ := CX
  obtain ⟨j, rfl⟩ := k_pos hI hM (by intro h; cases h)
  have hK := hI.2.2.2.1
  have hc := k_cl_at h1
  have hty := k_types h1
  have hap := va_apart (own := k_own m) (D := D) (tys := k_ty dA) hts (k_lays h1) (fun k => (k_ft a1).getD k .int) hty (k_names h1) hK hc
  obtain ⟨r, hr1, cell, q1, q2, q3, q4⟩ := hI.2.2.1 j _ (s_w_at hM)
  have hr : r = (k_cn a1, k_tf a1, (k_ft a1).length) := Option.some.inj (hr1.symm.trans hc)
  subst hr
  obtain ⟨hSl, hfc, kC, hkC, hkind⟩ := hK.1 a1 _ hc
  obtain ⟨cf, kf, fi, f, hi, hsl⟩ := hSl a2 h2
  have hst := (u_facts hfc hkC (u_lays hts (k_lays h1) h2) hi).1
  have key : ∀ H1 : Heap, H1[B + (j + 1)]? = some (cell.setSlot f.slot v) → H1.size = H.size → (∀ q, q ≠ B + (j + 1) → H1[q]? = H[q]?) →
      W p l e R s mI args below meth c H1 (locs ++ [⟨B + (j + 1), f.slot⟩]) cells slots Qw (F0 mI (pc + 3) ls rest) := by
    intro H1 e1 z1 o1
    rw [hsl] at e1
    refine kk H1 _ (k_I_set hI hM ho z1 o1 ?_) (hS.put z1 o1 (show B < B + (j + 1) by omega))
    refine ⟨_, hc, t_OB.to (V := updV (vp_V ((k_ft a1).mapIdx (fun k ty => s_v B (s_row M.2.2 (j + 1)) k ty))) a2 v) ⟨_, e1, q2, q3, t_set q4 hap h2 v⟩ (fun k _ => ?_)⟩
    rw [vp_updV_set (by rw [List.length_mapIdx]; exact h2), s_fs_set (B := B) (ρ := s_row M.2.2 (j + 1)) (ρ' := s_row σ' (j + 1)) (k := a2) (ty := (k_ft a1).getD a2 .int) (v := v) (by rw [List.getD_eq_getElem?_getD, List.getElem?_eq_getElem h2]; rfl) hv hrest]
  by_cases hf : (k_tf a1 a2).2.2.2 = false
  · have hlay := hts _ (k_lays h1 _ (u_in_lay h2))
    unfold u_lay at hlay
    rw [if_neg (by rw [hf]; decide)] at hlay
    exact W.putK hx hb (f := f) ⟨hown, hw, ⟨_, _, _, hi⟩, hst⟩ (by rw [q2]; exact u_store hfc hkC hkind hlay hi (hty a2 h2) hn hfit) q1 q3 (by rw [hsl]; exact k2_hasslot (q4 a2 h2)) rfl rfl hd key
  · obtain ⟨hin, hcn⟩ := hfin.resolve_left hf
    have hft : (k_tf a1 a2).2.2.2 = true := by simpa using hf
    have hlay := hts _ (k_lays h1 _ (u_in_lay h2))
    unfold u_lay at hlay
    rw [if_pos hft] at hlay
    have hcf : mI.cls = cf := by
      obtain ⟨_, _, c', _, _, _, -, -, hf', -, -, -, hown2, -⟩ := Cond.laysFinal_spec hlay
      have e1 : c' = cf := by have := hi.symm.trans hf'; simp at this; exact this.1.symm
      rw [show (k_tf a1 a2).1 = k_own m from hcn] at hown2
      rw [← e1]; exact Option.some.inj (hown.symm.trans hown2)
    exact W.putFinK hx hb hown hw hi hst hcf (hnm.trans hin) (by rw [q2]; exact u_fits hfc hkC hkind (Or.inr hlay) hi (hty a2 h2) hn hfit) q1 q3 (by rw [hsl]; exact k2_hasslot (q4 a2 h2)) rfl rfl hd key
theorem i_arr {M : s_M} {H : Heap} {a t n : Nat} {j : Int32} (hI : k_I B b Ln xs dA D M s H) (hM : M.1[a]? = some (.inr (t, n))) (hin : vp_in j n) : ∃ k, a = k + 1 ∧ (s_w B dA M.1 M.2.2)[k]? = some (B + a, s_e B dA (s_row M.2.2 a) (.inr (t, n))) := by
  have hne : (Sum.inr (t, n) : s_K) ≠ .inr (99, 0) := by
    intro h
    cases h
    exact hin (Or.inr (Nat.zero_le _))
  obtain ⟨k, rfl⟩ := k_pos hI hM hne
  exact ⟨k, rfl, s_w_at hM⟩
theorem i_ast {M : s_M} {H H1 : Heap} {a t n k : Nat} {σ' : s_S} {locs : List Loc} {i : Nat} (hI : k_I B b Ln xs dA D M s H) (hS : va_S (k_A B) s.heap H locs) (ha : a = k + 1) (hM : M.1[a]? = some (.inr (t, n))) (ho : ∀ i, i ≠ a → s_row σ' i = s_row M.2.2 i)
    (z : H1.size = H.size) (oq : ∀ q : Nat, q ≠ B + a → H1[q]? = H[q]?) (hat : va_at D k_cl (B + a, s_e B dA (s_row σ' a) (.inr (t, n))) H1) : k_I B b Ln xs dA D (M.1, M.2.1, σ') s H1 ∧ va_S (k_A B) s.heap H1 (locs ++ [⟨B + a, i⟩]) := by
  subst ha
  exact ⟨k_I_set hI hM ho z oq hat, hS.put z oq (show B < B + (k + 1) by omega)⟩
end Sound
