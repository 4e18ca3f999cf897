/-! The law's first instructions: both objects are made, then the state is set down anew. -/
section Begin
variable {p : Program} {l : Launch} {e : Env} {s : State} {mI : MethodId} {args : Array Value} {below : List Frame} {meth : Method} {c : Code} {Qw : State → Prop}
variable {B b Ln : Nat} {xs : Nat → Int32} {dA : Nat → ClassId} {D : va_G} {m : Nat}
theorem i_one {ins : Instr} {len a1 a2 pl pc : Nat} {L : i_L} {st : List Value} {M : s_M} {ce sl : Nat} {P : Prop} {x' : i_C} (CX : x_C m p s mI args meth c) (hm : m < k_nm) (hat : i_at (k_t m).2.1 pc = some (ins, len, a1, a2, pl))
    (hs : i_st xs Ln (k_t m).2.2.2.2.1 (k_t m).2.2.2.2.2 ins a1 a2 pc L st M ce sl = some (P, x')) (hP : P)
    (k : i_N p l e (k_rm m) s mI args below meth c Qw B b Ln xs dA D m x') : i_N p l e (k_rm m) s mI args below meth c Qw B b Ln xs dA D m (pc, L, st, M, ce, sl) := by
  have hmem : (pc, ins, len, a1, a2, pl) ∈ (k_t m).2.1 := i_mem hat
  exact i_go CX (k_rmC hm) (k_rmS hm) (k_code hm _ hmem).2 (k_code hm _ hmem).1 hs hP k
theorem w_special (htr : l.stackTraces = false) {i len j na pl pc n : Nat} {L : i_L} {st : List Value} {M M' : s_M} {ce sl : Nat} (CX : x_C m p s mI args meth c) (hm : m < k_nm) (hat : i_at (k_t m).2.1 pc = some (.invokespecial i, len, j, na + 1, pl))
    (hrn : i_rn (st.drop (na + 1)) (st.take (na + 1)).reverse (k_t j).2.2.1 = true) (hlen : na + 1 ≤ st.length) (hrf : i_rf (st.take (na + 1)).reverse) (hce : ce + (k_t j).2.2.2.2.1 ≤ (k_t m).2.2.2.2.1) (hsl : sl + (k_t j).2.2.2.2.2 ≤ (k_t m).2.2.2.2.2)
    (h' : w_ex xs Ln n (k_t j) (0, lv_args 0 (st.take (na + 1)).reverse, [], M, 0, 0) (fun o M'' => o = .inl none ∧ M'' = M'))
    (k : i_N p l e (k_rm m) s mI args below meth c Qw B b Ln xs dA D m (pc + 3, L, st.drop (na + 1), M', ce + (k_t j).2.2.2.2.1, sl + (k_t j).2.2.2.2.2)) :
    i_N p l e (k_rm m) s mI args below meth c Qw B b Ln xs dA D m (pc, L, st, M, ce, sl) := by
  have hmem : (pc, Instr.invokespecial i, len, j, na + 1, pl) ∈ (k_t m).2.1 := i_mem hat
  have hd := (k_code hm _ hmem).1
  have hok := (k_code hm _ hmem).2
  obtain ⟨hx, hb, hml, hown, hts, hret, hlk, hnm, hex⟩ := id CX
  simp only [i_okb, Bool.and_eq_true, Bool.or_eq_true, decide_eq_true_eq] at hok
  obtain ⟨⟨⟨⟨⟨⟨rfl, hj⟩, hkd⟩, hpn⟩, hw⟩, hfr⟩, hlo⟩ := hok
  have hrn2 : i_rm (st.drop (na + 1)) = true ∧ Nat.ble (((st.take (na + 1)).reverse.map fun v => v.category).sum) (k_t j).2.2.1 = true := by simpa only [i_rn, Bool.and_eq_true] using hrn
  refine w_call (j := j) CX hm hj hd hfr hlo hrn hce hsl (w_met hj (Nat.le_of_ble_eq_true hrn2.2) (fun p e s mI args below meth c CX => w_go htr n j (Nat.lt_of_lt_of_le hj (by decide)) _ _ h' p e s mI args below meth c CX)) ?_ (fun v M'' hv => ?_) (fun x M'' hv => by cases hv.1)
  · intro ls H locs T hI hT X
    have hst : st = ((st.take (na + 1)).reverse).reverse ++ st.drop (na + 1) := w_split
    cases has : (st.take (na + 1)).reverse with
    | nil => rw [has] at hrf; exact hrf.elim
    | cons v0 As =>
      rw [has] at hrf hst
      cases v0 <;> first | exact hrf.elim | skip
      rename_i a
      obtain ⟨hn1, hn2, hn3⟩ := k_jspec hj hkd
      have hcnt : As.length = na := by
        have h1 : ((st.take (na + 1)).reverse).length = na + 1 := by rw [List.length_reverse, List.length_take]; omega
        rw [has] at h1
        simpa using h1
      have hstk : (F0 mI pc ls (st.map (k_cv B b))).stack = (As.map (k_cv B b)).reverse ++ .ref (B + a) :: (st.drop (na + 1)).map (k_cv B b) := by
        show st.map (k_cv B b) = _
        conv => lhs; rw [hst]
        simp [k_cv]
      have hlen2 : ∀ sig, parseMethodDescriptor (k_y j).desc = some sig → (As.map (k_cv B b)).length = sig.parameters.length := fun sig h => by
        rw [List.length_map, hcnt, ← hpn]
        exact k_jpn hj h
      rcases hw with hw | hw
      · exact x_frI X hx hown hn1 (i_word hts hw) (hts _ hn2) (hts _ hn3) (k_jmh hj) rfl hlen2 hstk (by rw [hb]; exact hd)
      · exact x_frIN X hx hown hn1 (i_word hts hw) (hts _ hn2) (hts _ hn3) (k_jmh hj) rfl hlen2 hstk (by rw [hb]; exact hd)
  · obtain ⟨h1, rfl⟩ := hv
    cases h1
    exact k
/-- from pc 23 back to the law's entry -/
theorem k_begin (htr : l.stackTraces = false) (CX : x_C 169 p s mI args meth c)
    (h : i_N p l e (k_rm 169) s mI args below meth c Qw B b Ln xs dA D 169 (23, [(4, .int 0), (3, .ref 256), (2, .ref 199), (1, .ref 1), (0, .retAddr 0)], [], (sh1, 0, k_s1), 256, 3783)) :
    i_N p l e (k_rm 169) s mI args below meth c Qw B b Ln xs dA D 169 (0, [(0, .retAddr 0)], [], k_M0, 0, 0) := by
  have hm : 169 < k_nm := by decide
  have r0 : f_rep f_0 k_M0 := ⟨rfl, rfl, rfl, fun _ _ => rfl, fun _ _ => rfl, fun _ _ => rfl, fun _ _ => rfl, fun _ h => (by cases h), fun _ h => (by cases h), fun _ h => (by cases h)⟩
  have r1 : f_rep f_1 (k_M0.1 ++ [.inl 5], 0, s_z k_M0.2.2 1) := f_rep_new r0 _
  obtain ⟨M2, r2, w2⟩ := f_ok (xs := xs) (Ln := Ln) _ _ _ _ _ _ _ _ _ f_2ok _ r1
  have l2 : M2.1.length = 199 := f_len r2
  have r3 : f_rep (f_new f_2 (.inl 10)) (M2.1 ++ [.inl 10], 0, s_z M2.2.2 199) := by
    have := f_rep_new r2 (.inl 10)
    rwa [l2] at this
  obtain ⟨M4, r4, w4⟩ := f_ok (xs := xs) (Ln := Ln) _ _ _ _ _ _ _ _ _ f_4ok _ r3
  have l4 : M4.1.length = 256 := f_len r4
  have r5 : f_rep f_5 (M4.1 ++ [.inr (1, 1)], 0, s_z M4.2.2 256) := by
    have := f_rep_new r4 (.inr (1, 1))
    rwa [l4] at this
  refine i_one (x' := (3, [(0, .retAddr 0)], [.ref 1], (k_M0.1 ++ [.inl 5], 0, s_z k_M0.2.2 1), 1, 6)) CX hm rfl rfl ⟨rfl, by decide, by decide⟩ ?_
  refine i_one (x' := (4, [(0, .retAddr 0)], [.ref 1, .ref 1], (k_M0.1 ++ [.inl 5], 0, s_z k_M0.2.2 1), 1, 6)) CX hm rfl rfl trivial ?_
  refine w_special (L := [(0, .retAddr 0)]) (M' := M2) htr CX hm rfl rfl (by decide) trivial (by decide) (by decide) w2 ?_
  refine i_one (x' := (8, [(1, .ref 1), (0, .retAddr 0)], [], M2, 198, 2099)) CX hm rfl rfl trivial ?_
  refine i_one (x' := (11, [(1, .ref 1), (0, .retAddr 0)], [.ref M2.1.length], (M2.1 ++ [.inl 10], 0, s_z M2.2.2 M2.1.length), 199, 2159)) CX hm rfl rfl ⟨r2.2.2.1, by decide, by decide⟩ ?_
  rw [l2]
  refine i_one (x' := (12, [(1, .ref 1), (0, .retAddr 0)], [.ref 199, .ref 199], (M2.1 ++ [.inl 10], 0, s_z M2.2.2 199), 199, 2159)) CX hm rfl rfl trivial ?_
  refine w_special (L := [(1, .ref 1), (0, .retAddr 0)]) (M' := M4) htr CX hm rfl rfl (by decide) trivial (by decide) (by decide) w4 ?_
  refine i_one (x' := (16, [(2, .ref 199), (1, .ref 1), (0, .retAddr 0)], [], M4, 255, 3782)) CX hm rfl rfl trivial ?_
  refine i_one (x' := (17, [(2, .ref 199), (1, .ref 1), (0, .retAddr 0)], [.int 1], M4, 255, 3782)) CX hm rfl rfl trivial ?_
  refine i_one (x' := (19, [(2, .ref 199), (1, .ref 1), (0, .retAddr 0)], [.ref M4.1.length], (M4.1 ++ [.inr (1, 1)], 0, s_z M4.2.2 M4.1.length), 256, 3783)) CX hm rfl rfl ⟨r4.2.2.1, rfl, by decide, by decide⟩ ?_
  rw [l4]
  refine i_one (x' := (20, [(3, .ref 256), (2, .ref 199), (1, .ref 1), (0, .retAddr 0)], [], (M4.1 ++ [.inr (1, 1)], 0, s_z M4.2.2 256), 256, 3783)) CX hm rfl rfl trivial ?_
  refine i_one (x' := (21, [(3, .ref 256), (2, .ref 199), (1, .ref 1), (0, .retAddr 0)], [.int 0], (M4.1 ++ [.inr (1, 1)], 0, s_z M4.2.2 256), 256, 3783)) CX hm rfl rfl trivial ?_
  refine i_one (x' := (23, [(4, .int 0), (3, .ref 256), (2, .ref 199), (1, .ref 1), (0, .retAddr 0)], [], (M4.1 ++ [.inr (1, 1)], 0, s_z M4.2.2 256), 256, 3783)) CX hm rfl rfl trivial ?_
  intro ls H locs hl hI hS
  exact h ls H locs hl (k_switch hI r5) hS
end Begin
/-- the claim's own start, out of a run of the small machine from pc 23 -/
theorem k_whole2 {p : Program} {e : Env} {s : State} {m : MethodId} {below : List Frame} {meth : Method} {c : Code} (l : Launch) (htr : l.stackTraces = false) {b L : Nat} {xs : Nat → Int32} (C0 : lw_At p s m meth c b L xs) (hnm : meth.name = "law") (hext : c.exceptionTable.toList = [])
    (hrun : w_P xs L (k_t 169) (23, [(4, .int 0), (3, .ref 256), (2, .ref 199), (1, .ref 1), (0, .retAddr 0)], [], (sh1, 0, k_s1), 256, 3783) (fun o _ => o = .inl (some (.int 1)))) :
    W p l e room_1 s m #[Value.ref b] below meth c s.heap [] 0 0 (lw_Z below #[Value.ref b] s) (entryFrame m ([Value.ref b] : List Value).toArray 8) := by
  obtain ⟨hall, dA, D, hI⟩ := k_startI C0
  obtain ⟨hx, hb, hr, hml, hown, hts, hX, hbl, hlk, hgv⟩ := C0
  obtain ⟨n, hn⟩ := hrun
  intro T hT X
  have CX : x_C 169 p s m #[Value.ref b] meth c := ⟨hx, hb, hml, hown, hall, hr, hlk, hnm, hext⟩
  have h0 := w_go (l := l) (B := s.heap.size - 1) (b := b) (Ln := L) (xs := xs) (dA := dA) (D := D) htr n 169 (by decide) _ _ hn p e s m #[Value.ref b] below meth c CX
  have h1 := k_begin htr CX h0
  have h2 := lv_entry [Value.ref b] (n := 8) (Nat.le_of_ble_eq_true rfl)
  rw [lg_entry_eq]
  have hR : k_rm 169 = room_1 := rfl
  rw [hR] at h1
  obtain ⟨t, a1, o, b1, b2, ⟨⟨o', M', hQ, hI', hF, hoc⟩, hW, Lw, hsame, hLw⟩⟩ := h1 _ s.heap [] h2 hI va_S.rf T hT X
  subst hQ
  cases hoc
  refine ⟨t, a1, _, b1, b2, rfl, ⟨_, rfl⟩, hW, hsame.weaken (fun y hy hlt => ?_) (Nat.le_refl _) (Nat.le_refl _)⟩
  have key : ∀ u v : Nat, u - 1 < v → v < u → False := fun u v h1 h2 => by omega
  exact (key s.heap.size y.base (hLw y hy) hlt).elim
