/-! Arrays and new cells. -/
section Arrs
variable {p : Program} {l : Launch} {e : Env} {R : Room} {s : State} {mI : MethodId} {args : Array Value} {below : List Frame} {meth : Method} {c : Code} {Qw : State → Prop}
variable {B b Ln : Nat} {xs : Nat → Int32} {dA : Nat → ClassId} {D : va_G} {m : Nat}
variable {pc a : Nat} {ls : Array Slot} {H : Heap} {locs : List Loc} {cells slots : Nat} {rest : List Value} {M : s_M} {j : Int32}
theorem i_inx {j : Int32} {n : Nat} (cA : ClassId) (f : Nat → Value) (h : vp_in j n) : ¬ (j < 0 ∨ (arrV cA n f).slots.size ≤ j.toNatClampNeg) := by rw [arrV_size]; exact h
theorem i_iald (CX : x_C m p s mI args meth c) (hI : k_I B b Ln xs dA D M s H) (hix : i_ix M a 0 j) (hd : decode (k_by m) pc = .ok (.iaload, 1))
    (kk : W p l e R s mI args below meth c H locs cells slots Qw (F0 mI (pc + 1) ls (.int (M.2.2.1 a j.toNatClampNeg) :: rest))) : W p l e R s mI args below meth c H locs cells slots Qw (F0 mI pc ls (.int j :: .ref (B + a) :: rest)) := by
  obtain ⟨n, hM, hin⟩ := hix
  obtain ⟨k0, -, hat⟩ := i_arr hI hM hin
  exact va_iald CX.1 CX.2.1 hI.2.2.2.1 hI.2.2.1 k0 0 (f := M.2.2.1 a) (n := n) (cA := dA 0) hat (k_ty_at (by decide)) hin hd kk
theorem i_lald (CX : x_C m p s mI args meth c) (hI : k_I B b Ln xs dA D M s H) (hix : i_ix M a 1 j) (hd : decode (k_by m) pc = .ok (.laload, 1))
    (kk : W p l e R s mI args below meth c H locs cells slots Qw (F0 mI (pc + 1) ls (.long (M.2.2.2.1 a j.toNatClampNeg) :: rest))) : W p l e R s mI args below meth c H locs cells slots Qw (F0 mI pc ls (.int j :: .ref (B + a) :: rest)) := by
  obtain ⟨n, hM, hin⟩ := hix
  obtain ⟨k0, -, hat⟩ := i_arr hI hM hin
  exact va_lald CX.1 CX.2.1 hI.2.2.2.1 hI.2.2.1 k0 1 (f := M.2.2.2.1 a) (n := n) (cA := dA 1) hat (k_ty_at (by decide)) hin hd kk
theorem i_zald (CX : x_C m p s mI args meth c) (hI : k_I B b Ln xs dA D M s H) (hix : i_ix M a 2 j) (hd : decode (k_by m) pc = .ok (.baload, 1))
    (kk : W p l e R s mI args below meth c H locs cells slots Qw (F0 mI (pc + 1) ls (.int (s_b (M.2.2.2.2.2 a j.toNatClampNeg)) :: rest))) : W p l e R s mI args below meth c H locs cells slots Qw (F0 mI pc ls (.int j :: .ref (B + a) :: rest)) := by
  obtain ⟨n, hM, hin⟩ := hix
  obtain ⟨k0, -, hat⟩ := i_arr hI hM hin
  exact va_zald CX.1 CX.2.1 hI.2.2.2.1 hI.2.2.1 k0 2 (f := fun q => s_b (M.2.2.2.2.2 a q)) (n := n) (cA := dA 2) hat (k_ty_at (by decide)) hin hd kk
theorem i_aald {t : Nat} (CX : x_C m p s mI args meth c) (ht : t + 3 < k_na) (hI : k_I B b Ln xs dA D M s H) (hix : i_ix M a (t + 3) j) (hnn : M.2.2.2.2.1 a j.toNatClampNeg ≠ 0) (hd : decode (k_by m) pc = .ok (.aaload, 1))
    (kk : W p l e R s mI args below meth c H locs cells slots Qw (F0 mI (pc + 1) ls (.ref (B + M.2.2.2.2.1 a j.toNatClampNeg) :: rest))) : W p l e R s mI args below meth c H locs cells slots Qw (F0 mI pc ls (.int j :: .ref (B + a) :: rest)) := by
  obtain ⟨n, hM, hin⟩ := hix
  obtain ⟨k0, -, hat⟩ := i_arr hI hM hin
  refine va_aldq CX.1 CX.2.1 hI.2.2.2.1 hI.2.2.1 k0 (t + 3) (f := fun q => s_r B (M.2.2.2.2.1 a q)) (n := n) (cA := dA (t + 3)) (C := k_cn t) hat (k_ty_at ht) hin hd ?_
  show W p l e R s mI args below meth c H locs cells slots Qw (F0 mI (pc + 1) ls (va_rf (s_r B (M.2.2.2.2.1 a j.toNatClampNeg)) :: rest))
  rw [s_r_some hnn]
  exact kk
theorem i_iast {x : Int32} (CX : x_C m p s mI args meth c) (hI : k_I B b Ln xs dA D M s H) (hS : va_S (k_A B) s.heap H locs) (hix : i_ix M a 0 j) (hd : decode (k_by m) pc = .ok (.iastore, 1))
    (kk : ∀ (H1 : Heap) (locs1 : List Loc), k_I B b Ln xs dA D (M.1, M.2.1, s_pi M.2.2 a j.toNatClampNeg x) s H1 → va_S (k_A B) s.heap H1 locs1 → W p l e R s mI args below meth c H1 locs1 cells slots Qw (F0 mI (pc + 1) ls rest)) : W p l e R s mI args below meth c H locs cells slots Qw (F0 mI pc ls (.int x :: .int j :: .ref (B + a) :: rest)) := by
  obtain ⟨n, hM, hin⟩ := hix
  obtain ⟨k0, hk0, hat⟩ := i_arr hI hM hin
  have hcell : H[B + a]? = some (arrV (dA 0) n (fun q => .int (M.2.2.1 a q))) := hI.2.2.1 k0 _ hat
  refine W.iast CX.1 CX.2.1 hcell ((hI.2.2.2.1.2 0 _ (k_ty_at (by decide))).1 n _) (fun q => by cases q) (i_inx _ _ hin) rfl rfl hd fun H1 e1 z oq => ?_
  obtain ⟨g1, g2⟩ := i_ast (i := j.toNatClampNeg) hI hS hk0 hM (s_pi_off (k := j.toNatClampNeg) (v := x)) z oq (by
    show H1[B + a]? = some (vp_cell (dA 0) (n, .inl (s_row (s_pi M.2.2 a j.toNatClampNeg x) a).1))
    rw [e1, arrV_store, vp_cell_i, s_pi_at]
    congr 2
    funext q
    by_cases hq : q = j.toNatClampNeg
    · subst hq; simp [updV, va_up]
    · simp [updV, va_up, hq])
  exact kk H1 _ g1 g2
theorem i_last {x : Int64} (CX : x_C m p s mI args meth c) (hI : k_I B b Ln xs dA D M s H) (hS : va_S (k_A B) s.heap H locs) (hix : i_ix M a 1 j) (hd : decode (k_by m) pc = .ok (.lastore, 1))
    (kk : ∀ (H1 : Heap) (locs1 : List Loc), k_I B b Ln xs dA D (M.1, M.2.1, s_pl M.2.2 a j.toNatClampNeg x) s H1 → va_S (k_A B) s.heap H1 locs1 → W p l e R s mI args below meth c H1 locs1 cells slots Qw (F0 mI (pc + 1) ls rest)) : W p l e R s mI args below meth c H locs cells slots Qw (F0 mI pc ls (.long x :: .int j :: .ref (B + a) :: rest)) := by
  obtain ⟨n, hM, hin⟩ := hix
  obtain ⟨k0, hk0, hat⟩ := i_arr hI hM hin
  have hcell : H[B + a]? = some (arrV (dA 1) n (fun q => .long (M.2.2.2.1 a q))) := hI.2.2.1 k0 _ hat
  refine W.last CX.1 CX.2.1 hcell ((hI.2.2.2.1.2 1 _ (k_ty_at (by decide))).1 n _) (fun q => by cases q) (i_inx _ _ hin) rfl rfl hd fun H1 e1 z oq => ?_
  obtain ⟨g1, g2⟩ := i_ast (i := j.toNatClampNeg) hI hS hk0 hM (s_pl_off (k := j.toNatClampNeg) (v := x)) z oq (by
    show H1[B + a]? = some (vp_cell (dA 1) (n, .inr (.inl (s_row (s_pl M.2.2 a j.toNatClampNeg x) a).2.1)))
    rw [e1, arrV_store, vp_cell_l, s_pl_at]
    congr 2
    funext q
    by_cases hq : q = j.toNatClampNeg
    · subst hq; simp [updV, va_up]
    · simp [updV, va_up, hq])
  exact kk H1 _ g1 g2
theorem i_zast {x : Int32} (CX : x_C m p s mI args meth c) (hI : k_I B b Ln xs dA D M s H) (hS : va_S (k_A B) s.heap H locs) (hix : i_ix M a 2 j) (hx01 : x = 0 ∨ x = 1) (hd : decode (k_by m) pc = .ok (.bastore, 1))
    (kk : ∀ (H1 : Heap) (locs1 : List Loc), k_I B b Ln xs dA D (M.1, M.2.1, s_pz M.2.2 a j.toNatClampNeg (!(x == 0))) s H1 → va_S (k_A B) s.heap H1 locs1 → W p l e R s mI args below meth c H1 locs1 cells slots Qw (F0 mI (pc + 1) ls rest)) : W p l e R s mI args below meth c H locs cells slots Qw (F0 mI pc ls (.int x :: .int j :: .ref (B + a) :: rest)) := by
  obtain ⟨n, hM, hin⟩ := hix
  obtain ⟨k0, hk0, hat⟩ := i_arr hI hM hin
  have hcell : H[B + a]? = some (arrV (dA 2) n (fun q => .int (s_b (M.2.2.2.2.2 a q)))) := hI.2.2.1 k0 _ hat
  have hnar : narrow .boolean (.int x) = .int x := by rcases hx01 with h | h <;> subst h <;> rfl
  refine W.zast CX.1 CX.2.1 hcell ((hI.2.2.2.1.2 2 _ (k_ty_at (by decide))).1 n _) (fun q => by cases q) (i_inx _ _ hin) rfl rfl hd fun H1 e1 z oq => ?_
  rw [hnar] at e1
  obtain ⟨g1, g2⟩ := i_ast (i := j.toNatClampNeg) hI hS hk0 hM (s_pz_off (k := j.toNatClampNeg) (v := !(x == 0))) z oq (by
    show H1[B + a]? = some (vp_cell (dA 2) (n, .inl (fun q => s_b ((s_row (s_pz M.2.2 a j.toNatClampNeg (!(x == 0))) a).2.2.2 q))))
    rw [e1, arrV_store, vp_cell_i, s_pz_at]
    congr 2
    funext q
    by_cases hq : q = j.toNatClampNeg
    · subst hq; simp only [updV, va_up, if_true]; rw [s_b_of hx01]
    · simp [updV, va_up, hq])
  exact kk H1 _ g1 g2
theorem i_aast {t v : Nat} (CX : x_C m p s mI args meth c) (ht : t + 3 < k_na) (hI : k_I B b Ln xs dA D M s H) (hS : va_S (k_A B) s.heap H locs) (hix : i_ix M a (t + 3) j) (hv : M.1[v]? = some (.inl t)) (hd : decode (k_by m) pc = .ok (.aastore, 1))
    (kk : ∀ (H1 : Heap) (locs1 : List Loc), k_I B b Ln xs dA D (M.1, M.2.1, s_pr M.2.2 a j.toNatClampNeg v) s H1 → va_S (k_A B) s.heap H1 locs1 → W p l e R s mI args below meth c H1 locs1 cells slots Qw (F0 mI (pc + 1) ls rest)) : W p l e R s mI args below meth c H locs cells slots Qw (F0 mI pc ls (.ref (B + v) :: .int j :: .ref (B + a) :: rest)) := by
  obtain ⟨n, hM, hin⟩ := hix
  obtain ⟨k0, hk0, hat⟩ := i_arr hI hM hin
  have hcell : H[B + a]? = some (arrV (dA (t + 3)) n (fun q => va_rf (s_r B (M.2.2.2.2.1 a q)))) := hI.2.2.1 k0 _ hat
  obtain ⟨kv, rfl⟩ := k_pos hI hv (by intro h; cases h)
  have hlt : j.toNatClampNeg < n := Nat.not_le.mp fun q => hin (Or.inr q)
  have h0 : ¬ j < 0 := fun q => hin (Or.inl q)
  obtain ⟨r', hr', cellV, g1, g2, g3, -⟩ := hI.2.2.1 kv _ (s_w_at hv)
  have hnn : k_na ≤ k_no + 3 := by decide
  have hc := k_cl_at (ci := t) (by omega)
  have hcls := (hI.2.2.2.1.1 t _ hc).2
  obtain ⟨kA, comp, c1, c2, c3, -⟩ := (hI.2.2.2.1.2 (t + 3) _ (k_ty_at ht)).2
  have hcomp : comp = D.1 t := Option.some.inj (c3.symm.trans hcls.1)
  subst hcomp
  obtain ⟨kC, hkC, -⟩ := hcls.2
  refine W.aast CX.1 CX.2.1 hcell (fun q h => by cases h) (fun h => by cases h) c1 c2 rfl hkC ⟨h0, by rw [arrV_size]; exact hlt⟩ g1 (fun q h => by rw [g3] at h; cases h) (by rw [g2]; exact hkC) (by rw [g2]; exact va_assign hcls) rfl rfl hd fun H1 e1 z oq => ?_
  obtain ⟨g1, g2⟩ := i_ast (i := j.toNatClampNeg) hI hS hk0 hM (s_pr_off (k := j.toNatClampNeg) (v := kv + 1)) z oq (by
    show H1[B + a]? = some (vp_cell (dA (t + 3)) (n, .inr (.inr (.inr (.inr (fun q => s_r B ((s_row (s_pr M.2.2 a j.toNatClampNeg (kv + 1)) a).2.2.1 q)))))))
    rw [e1, arrV_store, vp_cell_q, s_pr_at]
    congr 2
    funext q
    by_cases hq : q = j.toNatClampNeg
    · subst hq; simp only [updV, va_up, if_true]; rw [s_r_some (Nat.succ_ne_zero kv)]; rfl
    · simp [updV, va_up, hq])
  exact kk H1 _ g1 g2
theorem i_newa {ty : ArrayType} {t n : Nat} {z : Int32} (CX : x_C m p s mI args meth c) (ht : t < 3) (hty : newarray.typeOf ty = k_aty t) (hw : (Jvm.Cond.arrayClass (k_aty t)).before args s = true) (hn : n ≤ 1000) (hz : z.toInt = (n : Int)) (h0 : M.2.1 = 0) (hcells : cells + 1 ≤ R.cells) (hslots : slots + n ≤ R.slots)
    (hI : k_I B b Ln xs dA D M s H) (hS : va_S (k_A B) s.heap H locs) (hd : decode (k_by m) pc = .ok (.newarray ty, 2))
    (kk : ∀ (H1 : Heap), k_I B b Ln xs dA D (M.1 ++ [.inr (t, n)], 0, s_z M.2.2 M.1.length) s H1 → va_S (k_A B) s.heap H1 locs → W p l e R s mI args below meth c H1 locs (cells + 1) (slots + n) Qw (F0 mI (pc + 2) ls (.ref (B + M.1.length) :: rest))) : W p l e R s mI args below meth c H locs cells slots Qw (F0 mI pc ls (.int z :: rest)) := by
  have hz0 : ¬ z < 0 := by
    intro h
    have h1 := Int32.lt_iff_toInt_lt.mp h
    rw [hz] at h1
    have h2 : (0 : Int32).toInt = 0 := rfl
    rw [h2] at h1
    omega
  have hzn : z.toNatClampNeg = n := by
    show z.toInt.toNat = n
    rw [hz]; rfl
  have hB : B < H.size := by
    have h1 := hI.1
    have h2 : 0 < M.1.length := (List.getElem?_eq_some_iff.mp hI.2.1).1
    omega
  have hsz : H.size = B + M.1.length := by have h1 := hI.1; omega
  refine va_newaK CX.1 CX.2.1 (by rw [hty]; exact hw) rfl hd rfl hz0 hzn (by rw [hty]; rcases (by omega : t = 0 ∨ t = 1 ∨ t = 2) with h | h | h <;> subst h <;> (show n * _ ≤ _) <;> simp [k_aty, componentBytes] <;> omega) hcells hslots (h := H.size) rfl fun H1 cA e1 z1 o1 hAr hNm => ?_
  rw [hty] at e1 hNm
  have hcA : cA = dA t := by
    have h1 := (hI.2.2.2.1.2 t _ (k_ty_at (Nat.lt_of_lt_of_le ht (by decide)))).2
    rcases (by omega : t = 0 ∨ t = 1 ∨ t = 2) with h | h | h <;> subst h <;> exact Option.some.inj (hNm.symm.trans h1)
  subst hcA
  have hk := k_I_push (e := .inr (t, n)) (σ' := s_z M.2.2 M.1.length) hI h0 s_z_off z1 o1 (by
    rw [s_z_at]
    rcases (by omega : t = 0 ∨ t = 1 ∨ t = 2) with h | h | h <;> subst h <;> exact e1)
  rw [hsz]
  exact kk H1 hk ⟨Nat.le_trans hS.1 (by omega), fun x h1 h2 => (o1 x (Nat.lt_of_lt_of_le h1 hS.1)).trans (hS.2.1 x h1 h2), hS.2.2⟩
theorem i_anew {i t n : Nat} {z : Int32} (CX : x_C m p s mI args meth c) (ht : t + 3 < k_na) (hw : (Jvm.Cond.classLink (k_own m) i (k_cn t)).before args s = true) (hw2 : (Jvm.Cond.arrayOver (.object (k_cn t))).before args s = true) (hn : n ≤ 1000) (hz : z.toInt = (n : Int)) (h0 : M.2.1 = 0) (hcells : cells + 1 ≤ R.cells) (hslots : slots + n ≤ R.slots)
    (hI : k_I B b Ln xs dA D M s H) (hS : va_S (k_A B) s.heap H locs) (hd : decode (k_by m) pc = .ok (.anewarray i, 3))
    (kk : ∀ (H1 : Heap), k_I B b Ln xs dA D (M.1 ++ [.inr (t + 3, n)], 0, s_z M.2.2 M.1.length) s H1 → va_S (k_A B) s.heap H1 locs → W p l e R s mI args below meth c H1 locs (cells + 1) (slots + n) Qw (F0 mI (pc + 3) ls (.ref (B + M.1.length) :: rest))) : W p l e R s mI args below meth c H locs cells slots Qw (F0 mI pc ls (.int z :: rest)) := by
  have hz0 : ¬ z < 0 := by
    intro h
    have h1 := Int32.lt_iff_toInt_lt.mp h
    rw [hz] at h1
    have h2 : (0 : Int32).toInt = 0 := rfl
    rw [h2] at h1
    omega
  have hzn : z.toNatClampNeg = n := by
    show z.toInt.toNat = n
    rw [hz]; rfl
  have hsz : H.size = B + M.1.length := by have h1 := hI.1; omega
  refine W.anew CX.1 CX.2.1 CX.2.2.2.1 hw hw2 rfl hd rfl hz0 (by rw [hzn]; omega) hcells (by rw [hzn]; exact hslots) fun cA kA comp f1 f2 f3 f4 => ?_
  rw [hzn]
  have hcA : cA = dA (t + 3) := by
    obtain ⟨kA', comp', -, -, -, h4⟩ := (hI.2.2.2.1.2 (t + 3) _ (k_ty_at ht)).2
    exact Option.some.inj (f1.symm.trans h4)
  subst hcA
  generalize hH1 : H.push ({ cls := dA (t + 3), slots := Array.replicate n .null, vm := .none } : Cell) = H1
  have z1 : H1.size = H.size + 1 := by rw [← hH1, Array.size_push]
  have e1 : H1[H.size]? = some (arrV (dA (t + 3)) n (fun _ => .null)) := by rw [← hH1, Array.getElem?_push_size, ← arrV_new]
  have o1 : ∀ q : Nat, q < H.size → H1[q]? = H[q]? := fun q hq => by rw [← hH1, Array.getElem?_push, if_neg (Nat.ne_of_lt hq)]
  have hk := k_I_push (e := .inr (t + 3, n)) (σ' := s_z M.2.2 M.1.length) hI h0 s_z_off z1 o1 (by
    rw [s_z_at]
    show H1[H.size]? = some _
    rw [e1]
    rfl)
  rw [hsz]
  exact kk H1 hk ⟨Nat.le_trans hS.1 (by omega), fun x h1 h2 => (o1 x (Nat.lt_of_lt_of_le h1 hS.1)).trans (hS.2.1 x h1 h2), hS.2.2⟩
theorem i_new {i ci : Nat} (CX : x_C m p s mI args meth c) (hci : ci < k_no) (hw : (Jvm.Cond.classLink (k_own m) i (k_cn ci)).before args s = true) (hw2 : (Jvm.Cond.instantiable (k_cn ci) (k_ft ci).length).before args s = true) (hw3 : (Jvm.Cond.initialized (k_cn ci)).before args s = true) (h0 : M.2.1 = 0) (hcells : cells + 1 ≤ R.cells) (hslots : slots + (k_ft ci).length ≤ R.slots)
    (hI : k_I B b Ln xs dA D M s H) (hS : va_S (k_A B) s.heap H locs) (hd : decode (k_by m) pc = .ok (.new i, 3))
    (kk : ∀ (H1 : Heap), k_I B b Ln xs dA D (M.1 ++ [.inl ci], 0, s_z M.2.2 M.1.length) s H1 → va_S (k_A B) s.heap H1 locs → W p l e R s mI args below meth c H1 locs (cells + 1) (slots + (k_ft ci).length) Qw (F0 mI (pc + 3) ls (.ref (B + M.1.length) :: rest))) : W p l e R s mI args below meth c H locs cells slots Qw (F0 mI pc ls rest) := by
  have hsz : H.size = B + M.1.length := by have h1 := hI.1; omega
  have hc := k_cl_at hci
  have hKn := hI.2.2.2.1.1 ci _ hc
  refine W.newcK CX.1 CX.2.1 CX.2.2.2.1 hw hw2 hw3 rfl hd hcells hslots hKn.2.1 (h := H.size) rfl fun H1 kC hkC e1 z1 o1 => ?_
  have hk := k_I_push (e := .inl ci) (σ' := s_z M.2.2 M.1.length) hI h0 s_z_off z1 o1 (by
    rw [s_z_at]
    refine ⟨_, hc, (u_born (fun k => (k_ft ci).getD k .int) CX.2.2.2.2.1 (k_lays hci) hKn hkC e1 (k_types hci)).to (fun k hk => ?_)⟩
    show defaultValue _ = vp_V ((k_ft ci).mapIdx _) k
    unfold vp_V
    rw [List.getD_eq_getElem?_getD (l := List.mapIdx _ _), i_fs_at (B := B) hk]
    exact k_dflt hci hk)
  rw [hsz]
  exact kk H1 hk ⟨Nat.le_trans hS.1 (by omega), fun x h1 h2 => (o1 x (Nat.lt_of_lt_of_le h1 hS.1)).trans (hS.2.1 x h1 h2), hS.2.2⟩
theorem i_sld (CX : x_C m p s mI args meth c) (hI : k_I B b Ln xs dA D M s H) (hin : vp_in j Ln) (hd : decode (k_by m) pc = .ok (.iaload, 1))
    (kk : W p l e R s mI args below meth c H locs cells slots Qw (F0 mI (pc + 1) ls (.int (xs j.toNatClampNeg) :: rest))) : W p l e R s mI args below meth c H locs cells slots Qw (F0 mI pc ls (.int j :: .ref b :: rest)) := by
  obtain ⟨scr, h1, h2, h3, h4, h5⟩ := hI.2.2.2.2.2.2.1
  have hlt : j.toNatClampNeg < Ln := Nat.not_le.mp fun q => hin (Or.inr q)
  exact W.iald CX.1 CX.2.1 h1 h2 h3 (by rw [h4]; exact hin) (h5 _ hlt) rfl rfl hd kk
theorem i_slen (CX : x_C m p s mI args meth c) (hI : k_I B b Ln xs dA D M s H) (hd : decode (k_by m) pc = .ok (.arraylength, 1))
    (kk : W p l e R s mI args below meth c H locs cells slots Qw (F0 mI (pc + 1) ls (.int (Int32.ofNat Ln) :: rest))) : W p l e R s mI args below meth c H locs cells slots Qw (F0 mI pc ls (.ref b :: rest)) := by
  obtain ⟨scr, h1, h2, h3, h4, h5⟩ := hI.2.2.2.2.2.2.1
  exact W.alen CX.1 CX.2.1 h1 h2 (by rw [h4]) rfl rfl hd kk
end Arrs
