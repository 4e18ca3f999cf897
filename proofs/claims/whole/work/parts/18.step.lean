/-! One instruction: from the point behind it to the point ahead of it. -/
section Step
variable {p : Program} {l : Launch} {e : Env} {R : Room} {s : State} {mI : MethodId} {args : Array Value} {below : List Frame} {meth : Method} {c : Code} {Qw : State → Prop}
variable {B b Ln : Nat} {xs : Nat → Int32} {dA : Nat → ClassId} {D : va_G} {m : Nat}
theorem i_rd_eq {σ : s_S} {a k : Nat} {ty : FieldType} (h : i_nn σ a k ty) : k_cv B b (i_rd σ a k ty) = s_v B (s_row σ a) k ty := by
  cases ty <;> first | rfl | (show Value.ref (B + σ.2.2.1 a k) = va_rf (s_r B (σ.2.2.1 a k)); rw [s_r_some h]; rfl)
set_option maxHeartbeats 4000000 in
theorem i_go {ins : Instr} {len a1 a2 pl pc : Nat} {L : i_L} {st : List Value} {M : s_M} {ce sl : Nat} {P : Prop} {x' : i_C} (CX : x_C m p s mI args meth c) (hRc : R.cells = (k_t m).2.2.2.2.1) (hRs : R.slots = (k_t m).2.2.2.2.2)
    (hok : i_okb m pc ins len a1 a2 pl = true) (hd : decode (k_by m) pc = .ok (ins, len)) (hs : i_st xs Ln (k_t m).2.2.2.2.1 (k_t m).2.2.2.2.2 ins a1 a2 pc L st M ce sl = some (P, x')) (hP : P)
    (k : i_N p l e R s mI args below meth c Qw B b Ln xs dA D m x') : i_N p l e R s mI args below meth c Qw B b Ln xs dA D m (pc, L, st, M, ce, sl) := by
  intro ls H locs hl hI hS
  have hl : lv_has ls (k_t m).2.2.1 (L.map (k_cp B b)) := hl
  have hI : k_I B b Ln xs dA D M s H := hI
  show W p l e R s mI args below meth c H locs ce sl Qw (F0 mI pc ls (st.map (k_cv B b)))
  obtain ⟨hx, hb, hml, hown, hts, hret, hlk, hnm, hex⟩ := id CX
  have hKt := hI.2.2.2.1
  cases ins with
  | iconst n =>
    simp only [i_okb, decide_eq_true_eq] at hok
    subst hok
    simp only [i_st] at hs
    cases hs
    exact lv_iconst hx hb hd rfl (k ls H locs hl hI hS)
  | bipush n =>
    simp only [i_okb, decide_eq_true_eq] at hok
    subst hok
    simp only [i_st] at hs
    cases hs
    exact lv_bipush hx hb hd rfl (k ls H locs hl hI hS)
  | sipush n =>
    simp only [i_okb, decide_eq_true_eq] at hok
    subst hok
    simp only [i_st] at hs
    cases hs
    exact lv_sipush hx hb hd rfl (k ls H locs hl hI hS)
  | lconst n =>
    simp only [i_okb, decide_eq_true_eq] at hok
    subst hok
    simp only [i_st] at hs
    cases hs
    exact lv_lconst hx hb hd rfl (k ls H locs hl hI hS)
  | ldc n =>
    simp only [i_okb, Bool.and_eq_true, decide_eq_true_eq] at hok
    obtain ⟨rfl, hw⟩ := hok
    simp only [i_st] at hs
    cases hs
    exact lv_ldc hx hb hown (i_word hts hw) hd (k ls H locs hl hI hS)
  | ldc2_w n =>
    simp only [i_okb, Bool.and_eq_true, decide_eq_true_eq] at hok
    obtain ⟨rfl, hw⟩ := hok
    simp only [i_st] at hs
    cases hs
    exact lv_ldc2 hx hb hown (i_word hts hw) hd (k ls H locs hl hI hS)
  | iload_n n =>
    simp only [i_okb, decide_eq_true_eq] at hok
    subst hok
    simp only [i_st] at hs
    split at hs
    · rename_i x h1
      cases hs
      exact lv_iload_n hx hb hd rfl (i_ld_at hl h1) (k ls H locs hl hI hS)
    · cases hs
  | iload n =>
    simp only [i_okb, decide_eq_true_eq] at hok
    subst hok
    simp only [i_st] at hs
    split at hs
    · rename_i x h1
      cases hs
      exact lv_iload hx hb hd (i_ld_at hl h1) (k ls H locs hl hI hS)
    · cases hs
  | lload n =>
    simp only [i_okb, decide_eq_true_eq] at hok
    subst hok
    simp only [i_st] at hs
    split at hs
    · rename_i x h1
      cases hs
      exact lv_lload hx hb hd (i_ld_at hl h1) (k ls H locs hl hI hS)
    · cases hs
  | aload_n n =>
    simp only [i_okb, decide_eq_true_eq] at hok
    subst hok
    simp only [i_st] at hs
    split at hs
    · rename_i x h1
      cases hs
      exact lv_aload_n hx hb hd rfl (i_ld_at hl h1) (k ls H locs hl hI hS)
    · rename_i x h1
      cases hs
      exact lv_aload_n hx hb hd rfl (i_ld_at hl h1) (k ls H locs hl hI hS)
    · cases hs
  | aload n =>
    simp only [i_okb, decide_eq_true_eq] at hok
    subst hok
    simp only [i_st] at hs
    split at hs
    · rename_i x h1
      cases hs
      exact lv_aload hx hb hd (i_ld_at hl h1) (k ls H locs hl hI hS)
    · cases hs
  | istore_n n =>
    simp only [i_okb, Bool.and_eq_true, decide_eq_true_eq] at hok
    obtain ⟨rfl, hn⟩ := hok
    simp only [i_st] at hs
    split at hs
    · rename_i x r
      cases hs
      exact lv_istore_n hx hb hd rfl hl hn (i_s1_map (n : Nat) (.int x)) (fun ls' h' => k ls' H locs h' hI hS)
    · cases hs
  | istore n =>
    simp only [i_okb, Bool.and_eq_true, decide_eq_true_eq] at hok
    obtain ⟨rfl, hn⟩ := hok
    simp only [i_st] at hs
    split at hs
    · rename_i x r
      cases hs
      exact lv_istore hx hb hd hl hn (i_s1_map n (.int x)) (fun ls' h' => k ls' H locs h' hI hS)
    · cases hs
  | lstore n =>
    simp only [i_okb, Bool.and_eq_true, decide_eq_true_eq] at hok
    obtain ⟨rfl, hn⟩ := hok
    simp only [i_st] at hs
    split at hs
    · rename_i x r
      cases hs
      exact lv_lstore hx hb hd hl hn (i_s2_map n (.long x)) (fun ls' h' => k ls' H locs h' hI hS)
    · cases hs
  | astore_n n =>
    simp only [i_okb, Bool.and_eq_true, decide_eq_true_eq] at hok
    obtain ⟨rfl, hn⟩ := hok
    simp only [i_st] at hs
    split at hs
    · rename_i x r
      cases hs
      exact lv_astore_n hx hb hd rfl hl hn (i_s1_map (n : Nat) (.ref x)) (fun ls' h' => k ls' H locs h' hI hS)
    · cases hs
  | astore n =>
    simp only [i_okb, Bool.and_eq_true, decide_eq_true_eq] at hok
    obtain ⟨rfl, hn⟩ := hok
    simp only [i_st] at hs
    split at hs
    · rename_i x r
      cases hs
      exact lv_astore hx hb hd hl hn (i_s1_map n (.ref x)) (fun ls' h' => k ls' H locs h' hI hS)
    · cases hs
  | iinc n d =>
    simp only [i_okb, Bool.and_eq_true, decide_eq_true_eq] at hok
    obtain ⟨rfl, hn⟩ := hok
    simp only [i_st] at hs
    split at hs
    · rename_i x h1
      cases hs
      obtain ⟨q, hq⟩ := List.getElem?_of_mem (List.mem_map.mpr ⟨(n, .int x), i_mem h1, rfl⟩ : (k_cp B b (n, .int x)) ∈ L.map (k_cp B b))
      exact lv_iinc hx hb hd hl hq rfl hn (i_s1_map n (.int (x + Int32.ofInt d))) (fun ls' h' => k ls' H locs h' hI hS)
    · cases hs
  | iadd =>
    simp only [i_okb, decide_eq_true_eq] at hok
    subst hok
    simp only [i_st] at hs
    split at hs
    · cases hs
      exact lv_iadd hx hb hd (k ls H locs hl hI hS)
    · cases hs
  | isub =>
    simp only [i_okb, decide_eq_true_eq] at hok
    subst hok
    simp only [i_st] at hs
    split at hs
    · cases hs
      exact lv_isub hx hb hd (k ls H locs hl hI hS)
    · cases hs
  | imul =>
    simp only [i_okb, decide_eq_true_eq] at hok
    subst hok
    simp only [i_st] at hs
    split at hs
    · cases hs
      exact lv_imul hx hb hd (k ls H locs hl hI hS)
    · cases hs
  | iand =>
    simp only [i_okb, decide_eq_true_eq] at hok
    subst hok
    simp only [i_st] at hs
    split at hs
    · cases hs
      exact lv_iand hx hb hd (k ls H locs hl hI hS)
    · cases hs
  | idiv =>
    simp only [i_okb, decide_eq_true_eq] at hok
    subst hok
    simp only [i_st] at hs
    split at hs
    · cases hs
      exact lv_idiv hx hb hd hP (k ls H locs hl hI hS)
    · cases hs
  | irem =>
    simp only [i_okb, decide_eq_true_eq] at hok
    subst hok
    simp only [i_st] at hs
    split at hs
    · cases hs
      exact lv_irem hx hb hd hP (k ls H locs hl hI hS)
    · cases hs
  | ladd =>
    simp only [i_okb, decide_eq_true_eq] at hok
    subst hok
    simp only [i_st] at hs
    split at hs
    · cases hs
      exact lv_ladd hx hb hd (k ls H locs hl hI hS)
    · cases hs
  | lsub =>
    simp only [i_okb, decide_eq_true_eq] at hok
    subst hok
    simp only [i_st] at hs
    split at hs
    · cases hs
      exact lv_lsub hx hb hd (k ls H locs hl hI hS)
    · cases hs
  | lmul =>
    simp only [i_okb, decide_eq_true_eq] at hok
    subst hok
    simp only [i_st] at hs
    split at hs
    · cases hs
      exact lv_lmul hx hb hd (k ls H locs hl hI hS)
    · cases hs
  | lcmp =>
    simp only [i_okb, decide_eq_true_eq] at hok
    subst hok
    simp only [i_st] at hs
    split at hs
    · cases hs
      exact W.lcmp hx hb hd (k ls H locs hl hI hS)
    · cases hs
  | i2l =>
    simp only [i_okb, decide_eq_true_eq] at hok
    subst hok
    simp only [i_st] at hs
    split at hs
    · cases hs
      exact lv_i2l hx hb hd rfl (k ls H locs hl hI hS)
    · cases hs
  | dup =>
    simp only [i_okb, decide_eq_true_eq] at hok
    subst hok
    simp only [i_st] at hs
    split at hs
    · cases hs
      exact lv_dup hx hb hd rfl (k ls H locs hl hI hS)
    · cases hs
      exact lv_dup hx hb hd rfl (k ls H locs hl hI hS)
    · cases hs
  | dup2 =>
    simp only [i_okb, decide_eq_true_eq] at hok
    subst hok
    simp only [i_st] at hs
    split at hs
    · cases hs
      exact lv_dup2_11 hx hb hd rfl rfl (k ls H locs hl hI hS)
    · cases hs
  | pop =>
    simp only [i_okb, decide_eq_true_eq] at hok
    subst hok
    simp only [i_st] at hs
    split at hs
    · cases hs
      exact lv_pop hx hb hd rfl (k ls H locs hl hI hS)
    · cases hs
      exact lv_pop hx hb hd rfl (k ls H locs hl hI hS)
    · cases hs
  | ifCond cd off =>
    simp only [i_okb, Bool.and_eq_true, decide_eq_true_eq] at hok
    obtain ⟨rfl, ho⟩ := hok
    have ht := i_tg_eq ho
    simp only [i_st] at hs
    split at hs
    · cases hs
      have k1 := k ls H locs hl hI hS
      cases cd with
      | eq => exact lv_if_eq hx hb hd ht (fun h => by simp only [i_br, if_pos h] at k1; exact k1) (fun h => by simp only [i_br, if_neg h] at k1; exact k1)
      | ne => exact lv_if_ne hx hb hd ht (fun h => by simp only [i_br, if_neg h] at k1; exact k1) (fun h => by simp only [i_br, if_pos h] at k1; exact k1)
      | lt => exact lv_if_lt hx hb hd ht (fun h => by simp only [i_br, if_pos h] at k1; exact k1) (fun h => by simp only [i_br, if_neg h] at k1; exact k1)
      | ge => exact lv_if_ge hx hb hd ht (fun h => by simp only [i_br, if_pos h] at k1; exact k1) (fun h => by simp only [i_br, if_neg h] at k1; exact k1)
      | gt => exact lv_if_gt hx hb hd ht (fun h => by simp only [i_br, if_pos h] at k1; exact k1) (fun h => by simp only [i_br, if_neg h] at k1; exact k1)
      | le => exact lv_if_le hx hb hd ht (fun h => by simp only [i_br, if_pos h] at k1; exact k1) (fun h => by simp only [i_br, if_neg h] at k1; exact k1)
    · cases hs
  | if_icmp cd off =>
    simp only [i_okb, Bool.and_eq_true, decide_eq_true_eq] at hok
    obtain ⟨rfl, ho⟩ := hok
    have ht := i_tg_eq ho
    simp only [i_st] at hs
    split at hs
    · cases hs
      have k1 := k ls H locs hl hI hS
      cases cd with
      | eq => exact lv_icmp_eq hx hb hd ht (fun h => by simp only [i_br, if_pos h] at k1; exact k1) (fun h => by simp only [i_br, if_neg h] at k1; exact k1)
      | ne => exact lv_icmp_ne hx hb hd ht (fun h => by simp only [i_br, if_neg h] at k1; exact k1) (fun h => by simp only [i_br, if_pos h] at k1; exact k1)
      | lt => exact lv_icmp_lt hx hb hd ht (fun h => by simp only [i_br, if_pos h] at k1; exact k1) (fun h => by simp only [i_br, if_neg h] at k1; exact k1)
      | ge => exact lv_icmp_ge hx hb hd ht (fun h => by simp only [i_br, if_pos h] at k1; exact k1) (fun h => by simp only [i_br, if_neg h] at k1; exact k1)
      | gt => exact lv_icmp_gt hx hb hd ht (fun h => by simp only [i_br, if_pos h] at k1; exact k1) (fun h => by simp only [i_br, if_neg h] at k1; exact k1)
      | le => exact lv_icmp_le hx hb hd ht (fun h => by simp only [i_br, if_pos h] at k1; exact k1) (fun h => by simp only [i_br, if_neg h] at k1; exact k1)
    · cases hs
  | goto off =>
    simp only [i_okb, Bool.and_eq_true, decide_eq_true_eq] at hok
    obtain ⟨rfl, ho⟩ := hok
    simp only [i_st] at hs
    cases hs
    exact lv_goto hx hb hd (i_tg_eq ho) (k ls H locs hl hI hS)
  | tableswitch d lo hi offs =>
    simp only [i_okb, Bool.and_eq_true, decide_eq_true_eq, List.all_eq_true] at hok
    obtain ⟨⟨h0, h1⟩, h2⟩ := hok
    simp only [i_st] at hs
    split at hs
    · rename_i x r
      cases hs
      have k1 := k ls H locs hl hI hS
      by_cases hr : x.toInt < lo ∨ hi < x.toInt
      · simp only [if_pos hr] at k1
        exact lv_tableOut hx hb hd hr (i_tg_eq h0) k1
      · simp only [if_neg hr] at k1
        have h3 : ¬ x.toInt < lo := fun h => hr (Or.inl h)
        have h4 : ¬ hi < x.toInt := fun h => hr (Or.inr h)
        have h5 : (x.toInt - lo).toNat < offs.size := by omega
        have h6 : offs[(x.toInt - lo).toNat]? = some (offs.getD (x.toInt - lo).toNat 0) := by
          rw [Array.getD_eq_getD_getElem?, Array.getElem?_eq_getElem h5]
          rfl
        refine lv_tableIn hx hb hd h3 h4 h6 (i_tg_eq (h2 _ ?_)) k1
        rw [Array.getD_eq_getD_getElem?, Array.getElem?_eq_getElem h5]
        exact Array.getElem_mem_toList h5
    · cases hs
  | getfield i =>
    simp only [i_okb, Bool.and_eq_true, decide_eq_true_eq] at hok
    obtain ⟨⟨⟨rfl, g1⟩, g2⟩, hw⟩ := hok
    simp only [i_st] at hs
    split at hs
    · cases hs
      have k1 := k ls H locs hl hI hS
      simp only [List.map_cons, i_rd_eq hP.2] at k1
      exact i_get CX g1 g2 (i_word hts hw) hd hI hP.1 k1
    · cases hs
  | putfield i =>
    simp only [i_okb, Bool.and_eq_true, Bool.or_eq_true, Bool.not_eq_true', decide_eq_true_eq] at hok
    obtain ⟨⟨⟨⟨rfl, g1⟩, g2⟩, hw⟩, hf⟩ := hok
    simp only [i_st] at hs
    split at hs
    · rename_i v a r
      split at hs
      · rename_i P1 σ1 hwr
        cases hs
        obtain ⟨hM, hP1⟩ := hP
        generalize hty : (k_ft a1).getD a2 .int = ty at hwr
        unfold i_wr at hwr
        split at hwr
        · cases hwr
          exact i_put CX g1 g2 (i_word hts hw) hf hd hI hS hM (by rw [hty]; rfl) (by rw [hty]; rfl) s_pi_off (by rw [s_pi_at, hty]; show Value.int (va_up _ a2 _ a2) = _; rw [s_up_eq]; rfl) (by rw [s_pi_at]; exact s_v_pi (ρ := s_row M.2.2 a)) (fun H1 locs1 hI1 hS1 => k ls H1 locs1 hl hI1 hS1)
        · cases hwr
          exact i_put CX g1 g2 (i_word hts hw) hf hd hI hS hM (by rw [hty]; rfl) (by rw [hty]; rfl) s_pl_off (by rw [s_pl_at, hty]; show Value.long (va_up _ a2 _ a2) = _; rw [s_up_eq]; rfl) (by rw [s_pl_at]; exact s_v_pl (ρ := s_row M.2.2 a)) (fun H1 locs1 hI1 hS1 => k ls H1 locs1 hl hI1 hS1)
        · rename_i y
          cases hwr
          have hn : narrow .boolean (.int y) = .int y ∧ fits .boolean (.int y) = true := by rcases hP1 with h | h <;> subst h <;> exact ⟨rfl, rfl⟩
          exact i_put CX g1 g2 (i_word hts hw) hf hd hI hS hM (by rw [hty]; exact hn.1) (by rw [hty]; exact hn.2) s_pz_off (by rw [s_pz_at, hty]; show Value.int (s_b (va_up _ a2 _ a2)) = _; rw [s_up_eq, s_b_of hP1]; rfl) (by rw [s_pz_at]; exact s_v_pz (ρ := s_row M.2.2 a)) (fun H1 locs1 hI1 hS1 => k ls H1 locs1 hl hI1 hS1)
        · cases hwr
          exact i_put CX g1 g2 (i_word hts hw) hf hd hI hS hM (by rw [hty]; rfl) (by rw [hty]; rfl) s_pr_off (by rw [s_pr_at, hty]; show va_rf (s_r B (va_up _ a2 _ a2)) = _; rw [s_up_eq, s_r_some hP1]; rfl) (by rw [s_pr_at]; exact s_v_pr (ρ := s_row M.2.2 a)) (fun H1 locs1 hI1 hS1 => k ls H1 locs1 hl hI1 hS1)
        · cases hwr
          exact i_put CX g1 g2 (i_word hts hw) hf hd hI hS hM (by rw [hty]; rfl) (by rw [hty]; rfl) s_pr_off (by rw [s_pr_at, hty]; show va_rf (s_r B (va_up _ a2 _ a2)) = _; rw [s_up_eq, s_r_some hP1]; rfl) (by rw [s_pr_at]; exact s_v_pr (ρ := s_row M.2.2 a)) (fun H1 locs1 hI1 hS1 => k ls H1 locs1 hl hI1 hS1)
        · cases hwr
      · cases hs
    · cases hs
  | iaload =>
    simp only [i_okb, decide_eq_true_eq] at hok
    subst hok
    simp only [i_st] at hs
    split at hs
    · cases hs
      exact i_iald CX hI hP hd (k ls H locs hl hI hS)
    · rename_i j y r
      cases hs
      obtain ⟨-, hin⟩ := hP
      exact i_sld CX hI hin hd (k ls H locs hl hI hS)
    · cases hs
  | laload =>
    simp only [i_okb, decide_eq_true_eq] at hok
    subst hok
    simp only [i_st] at hs
    split at hs
    · cases hs
      exact i_lald CX hI hP hd (k ls H locs hl hI hS)
    · cases hs
  | baload =>
    simp only [i_okb, decide_eq_true_eq] at hok
    subst hok
    simp only [i_st] at hs
    split at hs
    · cases hs
      exact i_zald CX hI hP hd (k ls H locs hl hI hS)
    · cases hs
  | aaload =>
    simp only [i_okb, Bool.and_eq_true, decide_eq_true_eq] at hok
    obtain ⟨rfl, ht⟩ := hok
    simp only [i_st] at hs
    split at hs
    · cases hs
      exact i_aald CX ht hI hP.1 hP.2 hd (k ls H locs hl hI hS)
    · cases hs
  | iastore =>
    simp only [i_okb, decide_eq_true_eq] at hok
    subst hok
    simp only [i_st] at hs
    split at hs
    · cases hs
      exact i_iast CX hI hS hP hd (fun H1 locs1 hI1 hS1 => k ls H1 locs1 hl hI1 hS1)
    · cases hs
  | lastore =>
    simp only [i_okb, decide_eq_true_eq] at hok
    subst hok
    simp only [i_st] at hs
    split at hs
    · cases hs
      exact i_last CX hI hS hP hd (fun H1 locs1 hI1 hS1 => k ls H1 locs1 hl hI1 hS1)
    · cases hs
  | bastore =>
    simp only [i_okb, decide_eq_true_eq] at hok
    subst hok
    simp only [i_st] at hs
    split at hs
    · cases hs
      exact i_zast CX hI hS hP.1 hP.2 hd (fun H1 locs1 hI1 hS1 => k ls H1 locs1 hl hI1 hS1)
    · cases hs
  | aastore =>
    simp only [i_okb, Bool.and_eq_true, decide_eq_true_eq] at hok
    obtain ⟨rfl, ht⟩ := hok
    simp only [i_st] at hs
    split at hs
    · cases hs
      exact i_aast CX ht hI hS hP.1 hP.2 hd (fun H1 locs1 hI1 hS1 => k ls H1 locs1 hl hI1 hS1)
    · cases hs
  | arraylength =>
    simp only [i_okb, decide_eq_true_eq] at hok
    subst hok
    simp only [i_st] at hs
    split at hs
    · cases hs
      exact i_slen CX hI hd (k ls H locs hl hI hS)
    · cases hs
  | newarray ty =>
    simp only [i_okb, Bool.and_eq_true, decide_eq_true_eq] at hok
    obtain ⟨⟨⟨⟨rfl, h1⟩, h2⟩, h3⟩, hw⟩ := hok
    simp only [i_st] at hs
    split at hs
    · cases hs
      obtain ⟨q1, q2, q3, q4⟩ := hP
      exact i_newa CX h2 h3 (hts _ (k_in_cw hw)) h1 q2 q1 (by rw [hRc]; exact q3) (by rw [hRs]; exact q4) hI hS hd (fun H1 hI1 hS1 => k ls H1 locs hl hI1 hS1)
    · cases hs
  | anewarray i =>
    simp only [i_okb, Bool.and_eq_true, decide_eq_true_eq] at hok
    obtain ⟨⟨⟨⟨rfl, h1⟩, h2⟩, hw⟩, hw2⟩ := hok
    simp only [i_st] at hs
    split at hs
    · cases hs
      obtain ⟨q1, q2, q3, q4⟩ := hP
      exact i_anew CX h2 (i_word hts hw) (hts _ (k_in_cw hw2)) h1 q2 q1 (by rw [hRc]; exact q3) (by rw [hRs]; exact q4) hI hS hd (fun H1 hI1 hS1 => k ls H1 locs hl hI1 hS1)
    · cases hs
  | new i =>
    simp only [i_st] at hs
    split at hs
    · cases hs
      simp only [i_okb, Bool.and_eq_true, decide_eq_true_eq] at hok
      obtain ⟨rfl, hw, ⟨g1, g2⟩, g3⟩ := hok
      obtain ⟨q1, q3, q4⟩ := hP
      exact i_new CX g1 (i_word hts hw) (hts _ (k_in_cw g2)) (hts _ (k_in_cw g3)) q1 (by rw [hRc]; exact q3) (by rw [hRs]; exact q4) hI hS hd (fun H1 hI1 hS1 => k ls H1 locs hl hI1 hS1)
    · cases hs
  | _ => simp only [i_st] at hs; cases hs
end Step
