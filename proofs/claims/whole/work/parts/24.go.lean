/-! The small machine's runs are runs of the real one. -/
section Go
variable {l : Launch} {B b Ln : Nat} {xs : Nat → Int32} {dA : Nat → ClassId} {D : va_G}
def x_Pc (B b Ln : Nat) (xs : Nat → Int32) (dA : Nat → ClassId) (D : va_G) (as : List Value) (M : s_M) : Array Value → State → Prop := fun v U => v = (as.map (k_cv B b)).toArray ∧ k_I B b Ln xs dA D M U U.heap
def x_oc (B b : Nat) (oc : Outcome) (t : State) : i_O → Prop
  | .inl v => oc = .returned (v.map (k_cv B b))
  | .inr x => ∃ (q : Addr) (ce : Cell), oc = .threw q ∧ t.heap[q]? = some ce ∧ ce.vm = .none ∧ t.vm.findClass (k_en x) = some ce.cls
def x_Qc (B b Ln : Nat) (xs : Nat → Int32) (dA : Nat → ClassId) (D : va_G) (Q : i_O → s_M → Prop) : Array Value → State → Outcome → State → Prop := fun _ st oc t =>
  ∃ (o : i_O) (M' : s_M), Q o M' ∧ k_I B b Ln xs dA D M' t t.heap ∧ va_F (k_A B) st t ∧ x_oc B b oc t o
theorem x_blind (as : List Value) (M : s_M) : FrameBlind (x_Pc B b Ln xs dA D as M) := fun a U g mk h => h
theorem k_args (vs : List Value) : ∀ i, (lv_args i vs).map (k_cp B b) = lv_args i (vs.map (k_cv B b)) := by
  induction vs with
  | nil => intro i; rfl
  | cons v r ih =>
    intro i
    simp only [lv_args, List.map_cons, k_cv_cat, ih]
    rfl
theorem k_sl (vs : List Value) : (lg_sl vs).length = (vs.map fun v => v.category).sum := by
  induction vs with
  | nil => rfl
  | cons v r ih =>
    have h : lg_sl (v :: r) = (if v.category = 2 then [.val v, .second] else [.val v]) ++ lg_sl r := rfl
    rw [h, List.length_append, ih, List.map_cons, List.sum_cons]
    rcases lv_cat v with h1 | h1 <;> simp [h1]
theorem k_wsIn {m : Nat} (hm : m < k_nj) : ∀ w ∈ k_ws m, ∀ {args : Array Value} {s : State}, (∀ w ∈ k_all, w.before args s = true) → ∀ (a' : Array Value) (U : State), s.WarmedH U.vm → w.before a' U = true := by
  intro w hw args s hts a' U hW
  exact k_move (k_good w (k_wsSub m hm w hw)) hW (hts w (k_wsSub m hm w hw))
theorem w_met {m : Nat} (hm : m < k_nj) {as : List Value} {M : s_M} {Q : i_O → s_M → Prop} (hlen : (as.map fun v => v.category).sum ≤ (k_t m).2.2.1)
    (h : ∀ (p : Program) (e : Env) (s : State) (mI : MethodId) (args : Array Value) (below : List Frame) (meth : Method) (c : Code), x_C m p s mI args meth c →
      i_N p l e (k_rm m) s mI args below meth c (x_MQ below (x_Qc B b Ln xs dA D Q) args s (k_t m).2.2.2.2.1 (k_t m).2.2.2.2.2 (k_A B)) B b Ln xs dA D m (0, lv_args 0 as, [], M, 0, 0)) :
    x_Met l (k_y m) (k_ws m) (k_rm m) (x_Pc B b Ln xs dA D as M) (x_Qc B b Ln xs dA D Q) (k_t m).2.2.2.2.1 (k_t m).2.2.2.2.2 (k_A B) := by
  refine x_ofW (cc := k_by m) (mx := (k_t m).2.2.1) (ret := (k_t m).2.2.2.1) (hh := k_ex m) (k_plain hm) (fun args s hw => k_cd hw) ?_
  intro p e s mI args below meth c s₁ Bd hml hex hnm hws hv
  obtain ⟨rfl, hI⟩ := hv
  have CX : x_C m p s mI (as.map (k_cv B b)).toArray meth c := ⟨Bd.exec, Bd.bytes, hml, by rw [← k_ycls hm]; exact findClass_of_methodNamed Bd.named, fun w hw => hws w (k_allSub m w hw), Bd.returns, Bd.notSynchronized, hnm, hex⟩
  rw [lg_entry_eq]
  refine h p e s mI _ below meth c CX _ s.heap [] ?_ hI va_S.rf
  have h1 := lv_entry (as.map (k_cv B b)) (n := (k_t m).2.2.1) (by rw [k_sl, i_cat]; exact hlen)
  show lv_has _ _ ((lv_args 0 as).map (k_cp B b))
  rw [k_args]
  exact h1
/-- behind a call: what the callee left, seen from here -/
theorem w_behind {p : Program} {s t st₀ : State} {H : Heap} {locs L : List Loc} {M' : s_M} (hS : va_S (k_A B) s.heap H locs) (h0 : st₀.heap = H) (hF : va_F (k_A B) st₀ t) (hI : k_I B b Ln xs dA D M' t t.heap) (hW : s.WarmedH t.vm) (hL : ∀ q ∈ L, k_A B q.base) :
    k_I B b Ln xs dA D M' s t.heap ∧ va_S (k_A B) s.heap t.heap (locs ++ L) := by
  refine ⟨hI.moved hW.alike.symm, ?_⟩
  subst h0
  refine ⟨Nat.le_trans hS.1 hF.1, fun q h1 h2 => (hF.2 q (Nat.lt_of_lt_of_le h1 hS.1) h2).trans (hS.2.1 q h1 h2), fun q hq => ?_⟩
  rcases List.mem_append.mp hq with h | h
  · exact hS.2.2 q h
  · exact hL q h
set_option maxHeartbeats 1000000 in
theorem x_thr (htr : l.stackTraces = false) {m : Nat} {p : Program} {e : Env} {s : State} {mI : MethodId} {args : Array Value} {below : List Frame} {meth : Method} {c : Code} {Q : i_O → s_M → Prop} {H : Heap} {locs : List Loc} {cells slots i a1 a2 pc : Nat} {ls : Array Slot} {rest : List Value} {M : s_M}
    (CX : x_C m p s mI args meth c) (hm : m < k_nm) {pl : Nat} (hok : i_okb m pc (.new i) 3 a1 (a2 + 1) pl = true) (hd : decode (k_by m) pc = .ok (.new i, 3)) (hI : k_I B b Ln xs dA D M s H) (hS : va_S (k_A B) s.heap H locs) (hsz : ls.size = (k_t m).2.2.1) (hrm : (rest.map fun v => v.category).sum ≤ 8)
    (hce : cells + 1 ≤ (k_t m).2.2.2.2.1) (hsl : slots + 6 ≤ (k_t m).2.2.2.2.2) (hQ : Q (.inr a1) (M.1, M.2.1 + 1, M.2.2)) :
    W p l e (k_rm m) s mI args below meth c H locs cells slots (x_MQ below (x_Qc B b Ln xs dA D Q) args s (k_t m).2.2.2.2.1 (k_t m).2.2.2.2.2 (k_A B)) (F0 mI pc ls rest) := by
  obtain ⟨hx, hb, hml, hown, hts, hret, hlk, hnm, hex⟩ := id CX
  simp only [i_okb, Bool.and_eq_true, decide_eq_true_eq] at hok
  obtain ⟨-, ⟨⟨⟨⟨⟨⟨⟨⟨⟨hw, ha1⟩, hic⟩, hon⟩, d3⟩, d4⟩, d7⟩, hfr⟩, hlo⟩, hex0⟩⟩ := hok
  intro T hT X
  have htr' : e.platform.stackTraces = false := (show e.platform.stackTraces = l.stackTraces by rw [X.admits.platform]).trans htr
  have Y := x_again X (R' := { frames := (k_rm m).frames, locals := (k_rm m).locals, cells := 1, slots := 6 }) (Nat.le_refl _) (Nat.le_refl _) (by rw [k_rmC hm]; exact hce) (by rw [k_rmS hm]; exact hsl)
  obtain ⟨s', hs'⟩ : ∃ z, z = (T.setVm s.vm).setFrames (.invoking mI args :: below) := ⟨_, rfl⟩
  rw [← hs'] at Y
  have hvm : s'.vm = s.vm := by rw [hs']; rfl
  have hhp : s'.heap = H := by rw [hs']; exact hT
  have hW0 : s.WarmedH s'.vm := by rw [hvm]; exact State.WarmedH.refl s
  have hat : ∀ w ∈ k_xa a1, w.before args s' = true := fun w hw => by
    by_cases hb : k_hwb w = true
    · exact hI.2.2.2.2.2.1 s' args (by rw [hvm]; exact Vm.Alike.refl _) (fun q _ => by rw [hhp]) w (k_xhw a1 ha1 w (List.mem_filter.mpr ⟨hw, hb⟩))
    · have h1 := k_xin ha1 hw (by simpa using hb)
      exact k_move (k_good _ h1) hW0 (hts _ h1)
  have hlk1 := k_in_lk (List.mem_of_getElem? hw)
  have hk' : (Jvm.Cond.classLink (k_own m) i (k_en a1)).before args s' = true := k_move (k_good _ hlk1) hW0 (hts _ hlk1)
  have hini' : (Jvm.Cond.initialized (k_en a1)).before args s' = true := k_move (k_good _ (k_xini ha1).1) hW0 (hts _ (k_xini ha1).1)
  rw [hon] at hk' hown
  have hown' : s'.vm.findClass "TwinRooms" = some mI.cls := by rw [hvm]; exact hown
  have hins : (Jvm.Cond.instantiable (k_en a1) 6).before args s' = true := hat _ (by simp [k_xa, Jvm.Bundle.ownAtoms0])
  obtain ⟨vm₁, cX, kX, hfX, hkX, -, -, X₁, st1⟩ := Y.newCold hx (own := "TwinRooms") (C := k_en a1) (index := i) (n := 6) hown' hk' hins hini' (g := F0 mI pc ls rest) rfl (by rw [hb]; exact hd) (Nat.le_refl _) (Nat.le_refl _)
  generalize hT1 : (T.setVm vm₁).pushCell { cls := cX, slots := kX.instanceTypes.map defaultValue, vm := .none } = T1 at X₁ st1
  have hcat : (Value.ref T.heap.size).category = 1 := rfl
  have hcellA : T1.heap[T.heap.size]? = some (freshCell cX kX) := by rw [← hT1]; exact State.heap_pushCell_size _ _
  have d3' : decode c.code (pc + 3) = .ok (.dup, 1) := by rw [hb]; exact d3
  have hne : ∀ x ∈ c.exceptionTable.toList, covers x (pc + 4 + 3) = false := by
    rw [hex, hex0]
    intro x hx
    cases hx
  obtain ⟨U, hsteps, hrun, hend, hW, hsame, cx, hcx, hO⟩ := X₁.ctorThrow0 hx htr' (own := "TwinRooms") (cls := k_en a1) (names := k_xn) (ic := a2 + 1) hown' (k_xfit a1 ha1) k_nfit (by rw [← hic]; exact hat) (fun x hx => nomatch hx) hfX hkX hcellA (by rw [hhp, hT]; exact Nat.le_refl _)
    (g := { method := mI, pc := pc + 4, locals := ls, stack := .ref T.heap.size :: .ref T.heap.size :: rest, locked := none }) rfl (hsz.trans hml.symm) rfl rfl (rest := rest) rfl (by rw [hb]; exact d4) (by rw [hb]; exact d7) hne hfr
    (by
      show 2 * 0 + ((Value.ref T.heap.size :: rest).map fun v => v.category).sum + (13 * (2 + 1) + 41) ≤ (k_rm m).locals
      simp only [List.map_cons, List.sum_cons, hcat]
      omega) hlk
  have hsame' : s'.sameButNew ({ U with vm := s'.vm } : State) [] 1 6 := hsame
  obtain ⟨f1, f2, f3⟩ := x_kept hsame'
  rw [hhp] at f1 f2 f3
  have hWs : s.WarmedH U.vm := State.WarmedH.trans hW0 hW
  have hUs : U.heap.size = H.size + 1 := by
    have h1 : T.heap.size < U.heap.size := (Array.getElem?_eq_some_iff.mp hcx).1
    rw [hT] at h1
    omega
  have hcl : U.vm.findClass (k_en a1) = some cx.cls := by
    have h9 := hO.cls
    rw [hWs.alike.findClass, ← hvm]
    exact h9
  have hall : s.sameButNew ({ U with vm := s.vm } : State) locs (k_t m).2.2.2.2.1 (k_t m).2.2.2.2.2 := by
    subst hs'
    obtain ⟨e1, e2⟩ := hsame'
    rw [State.setFrames_setFrames] at e1
    have h2 : (T.setVm s.vm).sameButNew ({ U with vm := s.vm } : State) [] 1 6 := ⟨e1, e2⟩
    have h3 := X.same.trans h2
    rw [List.append_nil] at h3
    exact h3.mono hce hsl
  have hIU : k_I B b Ln xs dA D (M.1, M.2.1 + 1, M.2.2) U U.heap := (k_I_more hI hUs f3 (fun cell hc => by
    rw [← hT] at hc
    cases Option.some.inj (hcx.symm.trans hc)
    exact hO.vm)).moved hWs.alike
  refine ⟨U, ?_, .threw T.heap.size, hrun, hend, ⟨.inr a1, _, hQ, hIU, ⟨Nat.le_trans hS.1 f1, fun q h1 h2 => (f3 q (Nat.lt_of_lt_of_le h1 hS.1)).trans (hS.2.1 q h1 h2)⟩, T.heap.size, cx, rfl, hcx, hO.vm, hcl⟩, hWs, locs, hall, hS.2.2⟩
  refine st1 _ ?_
  show Steps p.tables e below (T1.setTop { method := mI, pc := pc + 3, locals := ls, stack := .ref T.heap.size :: rest, locked := none }) _
  jvm_step X₁.here [X₁.here.top, hx, d3', Value.category]
  exact hsteps
set_option maxHeartbeats 1000000 in
theorem x_cat {m : Nat} {p : Program} {e : Env} {s t : State} {mI : MethodId} {args : Array Value} {below : List Frame} {meth : Method} {c : Code} {Q : i_O → s_M → Prop} {locs : List Loc} {cells slots i a1 a2 pc pl x : Nat} {ls : Array Slot} {rest : List Value} {L : i_L} {M : s_M} {q : Addr} {ce : Cell}
    (CX : x_C m p s mI args meth c) (hm : m < k_nm) (hx : (pc, Instr.invokevirtual i, 3, a1, a2, pl) ∈ (k_t m).2.1) (hl : lv_has ls (k_t m).2.2.1 (L.map (k_cp B b))) (hI : k_I B b Ln xs dA D M s t.heap) (hS : va_S (k_A B) s.heap t.heap locs) (hW : s.WarmedH t.vm)
    (hcell : t.heap[q]? = some ce) (hcv : ce.vm = .none) (hcl : t.vm.findClass (k_en x) = some ce.cls) (hce : cells ≤ (k_t m).2.2.2.2.1) (hsl : slots ≤ (k_t m).2.2.2.2.2)
    (hn : k_hd m x = none → k_ex m = [] ∧ Q (.inr x) M)
    (hk : ∀ pc' k, k_hd m x = some (pc', k) → i_N p l e (k_rm m) s mI args below meth c (x_MQ below (x_Qc B b Ln xs dA D Q) args s (k_t m).2.2.2.2.1 (k_t m).2.2.2.2.2 (k_A B)) B b Ln xs dA D m (pc', L.filter (fun q => !(q.1 == k) && !(q.1 + 1 == k && q.2.category == 2)), [], M, cells, slots)) :
    x_W p l e (k_rm m) s mI args below meth c t.heap locs cells slots (x_MQ below (x_Qc B b Ln xs dA D Q) args s (k_t m).2.2.2.2.1 (k_t m).2.2.2.2.2 (k_A B)) (F0 mI pc ls rest) q := by
  obtain ⟨hx', hb, hml, hown, hts, hret, hlk, hnm, hex⟩ := id CX
  cases hhd : k_hd m x with
  | none =>
    obtain ⟨h0, hQ⟩ := hn hhd
    refine x_out ?_ hlk ?_ hS.2.2 hce hsl
    · rw [hex, h0]
      intro z hz
      cases hz
    · intro u hu hWu
      refine ⟨.inr x, M, hQ, by rw [hu]; exact hI.moved hWu.alike, hS.F hu, q, ce, rfl, by rw [hu]; exact hcell, hcv, ?_⟩
      rw [hWu.alike.findClass, ← hW.alike.findClass]
      exact hcl
  | some r =>
    obtain ⟨pc', k⟩ := r
    have hx2 := k_hd2 hhd
    have hkn := hk pc' k hhd
    have hcs : s.vm.findClass (k_en x) = some ce.cls := by rw [← hW.alike.findClass]; exact hcl
    have hchk := k_hok1 m hm x hx2
    unfold k_hok at hchk
    rw [hhd] at hchk
    simp only [Bool.and_eq_true, decide_eq_true_eq] at hchk
    obtain ⟨⟨hkm, hlaw⟩, hrow⟩ := hchk
    rw [hlaw] at hown
    -- behind the handler's first instruction
    have behind : ∀ h : Nat, k_asb m h k pc' = true → W p l e (k_rm m) s mI args below meth c t.heap locs cells slots (x_MQ below (x_Qc B b Ln xs dA D Q) args s (k_t m).2.2.2.2.1 (k_t m).2.2.2.2.2 (k_A B)) (F0 mI h ls [.ref q]) := by
      intro h hab
      unfold k_asb at hab
      simp only [Bool.or_eq_true, Bool.and_eq_true, decide_eq_true_eq] at hab
      rcases hab with ⟨hd1, rfl⟩ | ⟨⟨hk4, hd1⟩, rfl⟩
      · exact lv_astore hx' hb hd1 hl hkm rfl (fun ls' h' => hkn ls' t.heap locs (i_drop_map k h') hI hS)
      · exact lv_astore_n (i := k) hx' hb hd1 (by show k % 4 = k; omega) hl hkm rfl (fun ls' h' => hkn ls' t.heap locs (i_drop_map k h') hI hS)
    intro T hT X
    have hpl : e.platform.magicAccessors = ({} : Platform).magicAccessors := by rw [X.admits.platform]
    obtain ⟨c0, hc0, hl0⟩ := Cond.classLink_spec hown (hts _ k_cl13) e.platform hpl
    obtain ⟨c1, hc1, hl1⟩ := Cond.classLink_spec hown (hts _ k_cl19) e.platform hpl
    have hself : s.vm.assignable ce.cls ce.cls = true := by
      obtain ⟨c3, c4, q3, q4, hasg⟩ := Cond.castable_spec (hts _ (k_xini hx2).2)
      cases Option.some.inj (q3.symm.trans hcs)
      cases Option.some.inj (q4.symm.trans hcs)
      exact hasg
    have hkc : ∃ kc, s.vm.classes[ce.cls]? = some kc := by obtain ⟨k9, h9, -⟩ := Vm.findClass_spec hcs; exact ⟨k9, h9⟩
    have hcT : T.heap[q]? = some ce := by rw [hT]; exact hcell
    have hmT : ((T.setTop (F0 mI pc ls rest)).pushFrame (.throwing q)).vm.method? (F0 mI pc ls rest).method = some meth := X.method'
    have goal : ∀ (vm' : Vm) (h : Nat), s.WarmedH vm' → k_asb m h k pc' = true → (∀ (Q : Handler → Pre) (E : CtlPost) (d : Bool) (acts : List Action), wp (findHandler (F0 mI pc ls rest) q) Q E e d acts ((T.setTop (F0 mI pc ls rest)).pushFrame (.throwing q)) ↔ Q (.found h) d acts (((T.setTop (F0 mI pc ls rest)).pushFrame (.throwing q)).setVm vm')) →
        ∃ u, Steps p.tables e below ((T.setTop (F0 mI pc ls rest)).pushFrame (.throwing q)) u ∧ x_MQ below (x_Qc B b Ln xs dA D Q) args s (k_t m).2.2.2.2.1 (k_t m).2.2.2.2.2 (k_A B) u := by
      intro vm' h hWv hab hfd
      obtain ⟨u, a1, b1⟩ := behind h hab (T.setVm vm') hT (X.noted hWv)
      exact ⟨u, x_found (T := T) (g := F0 mI pc ls rest) X.here hfd a1, b1⟩
    have hcov : ∀ (a b' h ct : Nat), k_cin m a b' = true → covers (⟨a, b', h, ct⟩ : ExceptionTableEntry) (F0 mI pc ls rest).pc = true := by
      intro a b' h ct hci
      obtain ⟨g1, g2⟩ := k_cin_at hci hx
      show (decide (a ≤ pc) && decide (pc < b')) = true
      rw [decide_eq_true g1, decide_eq_true g2]
      rfl
    split at hrow
    · rename_i a b' h hexm
      simp only [Bool.and_eq_true, decide_eq_true_eq] at hrow
      obtain ⟨⟨rfl, hab⟩, hci⟩ := hrow
      cases Option.some.inj (hc0.symm.trans hcs)
      obtain ⟨vm', hWv, hq⟩ := x_look (e := e) (S := (T.setTop (F0 mI pc ls rest)).pushFrame (.throwing q)) (g := F0 mI pc ls rest) (q := q) (z := ⟨a, b', h, 13⟩) (rest := []) X.warmed (hcov a b' h 13 hci) (fun h => by cases h) hl0 hcT hcv hkc
      refine goal vm' h hWv hab (fun Q E d acts => ?_)
      rw [W.findHandler_eq hmT X.code, hex, hexm]
      have h1 := hq Q E d acts
      rw [if_pos hself] at h1
      exact h1
    · rename_i a b' h a2 b2 h2 hexm
      simp only [Bool.and_eq_true, Bool.or_eq_true, decide_eq_true_eq] at hrow
      obtain ⟨⟨hci, hci2⟩, hor⟩ := hrow
      rcases hor with ⟨rfl, hab⟩ | ⟨rfl, hab⟩
      · cases Option.some.inj (hc0.symm.trans hcs)
        obtain ⟨vm', hWv, hq⟩ := x_look (e := e) (S := (T.setTop (F0 mI pc ls rest)).pushFrame (.throwing q)) (g := F0 mI pc ls rest) (q := q) (z := ⟨a, b', h, 13⟩) (rest := [⟨a2, b2, h2, 19⟩]) X.warmed (hcov a b' h 13 hci) (fun h => by cases h) hl0 hcT hcv hkc
        refine goal vm' h hWv hab (fun Q E d acts => ?_)
        rw [W.findHandler_eq hmT X.code, hex, hexm]
        have h1 := hq Q E d acts
        rw [if_pos hself] at h1
        exact h1
      · cases Option.some.inj (hc1.symm.trans hcs)
        have hno : ¬ s.vm.assignable ce.cls c0 = true := by
          obtain ⟨cc, tt, q1, q2, q3⟩ := va_Nc.of (hts _ k_not10)
          cases Option.some.inj (q1.symm.trans hcs)
          cases Option.some.inj (q2.symm.trans hc0)
          rw [q3]
          decide
        obtain ⟨vm1, hWv1, hq1⟩ := x_look (e := e) (S := (T.setTop (F0 mI pc ls rest)).pushFrame (.throwing q)) (g := F0 mI pc ls rest) (q := q) (z := ⟨a, b', h, 13⟩) (rest := [⟨a2, b2, h2, 19⟩]) X.warmed (hcov a b' h 13 hci) (fun h => by cases h) hl0 hcT hcv hkc
        obtain ⟨vm2, hWv2, hq2⟩ := x_look (e := e) (S := ((T.setTop (F0 mI pc ls rest)).pushFrame (.throwing q)).setVm vm1) (g := F0 mI pc ls rest) (q := q) (z := ⟨a2, b2, h2, 19⟩) (rest := []) hWv1 (hcov a2 b2 h2 19 hci2) (fun h => by cases h) hl1 hcT hcv hkc
        refine goal vm2 h2 hWv2 hab (fun Q E d acts => ?_)
        rw [W.findHandler_eq hmT X.code, hex, hexm]
        have h1 := hq1 Q E d acts
        rw [if_neg hno] at h1
        have h2' := hq2 Q E d acts
        rw [if_pos hself] at h2'
        exact h1.trans h2'
    · cases hrow
theorem w_call {m j : Nat} {p : Program} {e : Env} {s : State} {mI : MethodId} {args : Array Value} {below : List Frame} {meth : Method} {c : Code} {Qw : State → Prop} {Qj : i_O → s_M → Prop} {pc ce sl : Nat} {L : i_L} {as rest st : List Value} {M : s_M} {ig : Instr}
    (CX : x_C m p s mI args meth c) (hm : m < k_nm) (hj : j < k_nj) (hd : decode (k_by m) pc = .ok (ig, 3)) (hfr : (k_rm j).frames + 1 ≤ (k_rm m).frames) (hlo : 8 + ((k_t j).2.2.1 + 11) + (k_rm j).locals ≤ (k_rm m).locals)
    (hrn : i_rn rest as (k_t j).2.2.1 = true) (hce : ce + (k_t j).2.2.2.2.1 ≤ (k_t m).2.2.2.2.1) (hsl : sl + (k_t j).2.2.2.2.2 ≤ (k_t m).2.2.2.2.2)
    (hmet : x_Met l (k_y j) (k_ws j) (k_rm j) (x_Pc B b Ln xs dA D as M) (x_Qc B b Ln xs dA D Qj) (k_t j).2.2.2.2.1 (k_t j).2.2.2.2.2 (k_A B))
    (front : ∀ (ls : Array Slot) (H : Heap) (locs : List Loc) (T : State), k_I B b Ln xs dA D M s H → T.heap = H → Stand p l e (k_rm m) s mI args below meth c T locs ce sl → x_Fr p l e (k_rm m) s mI args below meth c T locs ce sl (F0 mI pc ls (st.map (k_cv B b))) (rest.map (k_cv B b)) (k_y j) (as.map (k_cv B b)))
    (kr : ∀ (v : Option Value) (M' : s_M), Qj (.inl v) M' → i_N p l e (k_rm m) s mI args below meth c Qw B b Ln xs dA D m (pc + 3, L, v.toList ++ rest, M', ce + (k_t j).2.2.2.2.1, sl + (k_t j).2.2.2.2.2))
    (kx : ∀ (x : Nat) (M' : s_M), Qj (.inr x) M' → ∀ (ls : Array Slot) (t : State) (locs : List Loc) (q : Addr) (cx : Cell), lv_has ls (k_t m).2.2.1 (L.map (k_cp B b)) → k_I B b Ln xs dA D M' s t.heap → va_S (k_A B) s.heap t.heap locs → s.WarmedH t.vm → t.heap[q]? = some cx → cx.vm = .none → t.vm.findClass (k_en x) = some cx.cls →
      x_W p l e (k_rm m) s mI args below meth c t.heap locs (ce + (k_t j).2.2.2.2.1) (sl + (k_t j).2.2.2.2.2) Qw (F0 mI pc ls (rest.map (k_cv B b))) q) :
    i_N p l e (k_rm m) s mI args below meth c Qw B b Ln xs dA D m (pc, L, st, M, ce, sl) := by
  intro ls H locs hl hI hS
  have hl : lv_has ls (k_t m).2.2.1 (L.map (k_cp B b)) := hl
  have hI : k_I B b Ln xs dA D M s H := hI
  obtain ⟨hx, hb, hml, hown, hts, -⟩ := id CX
  have hRc : (k_rm m).cells = (k_t m).2.2.2.2.1 := k_rmC hm
  have hRs : (k_rm m).slots = (k_t m).2.2.2.2.2 := k_rmS hm
  simp only [i_rn, i_rm, Bool.and_eq_true] at hrn
  refine x_call (As := as.map (k_cv B b)) (rest := rest.map (k_cv B b)) hb hd (hl.1.trans hml.symm) (fun T hT X => front ls H locs T hI hT X) hmet (x_blind as M) (k_rmC (Nat.lt_of_lt_of_le hj (by decide))) (k_rmS (Nat.lt_of_lt_of_le hj (by decide))) hfr hlo (fun w hw a' U hW => k_wsIn hj w hw hts a' U hW)
    (fun a' U hw => k_cd hw) (fun a' U hW => k_move (k_good _ (k_jini hj)) hW (hts _ (k_jini hj))) (by rw [i_cat]; exact Nat.le_of_ble_eq_true hrn.1) (by rw [hRc]; exact hce) (by rw [hRs]; exact hsl) (fun U hU hW => ⟨rfl, by rw [hU]; exact hI.moved hW.alike⟩) ?_ ?_
  · intro v st₀ t L2 h0 hq hW hL
    obtain ⟨o, M', hQ, hI', hF, hoc⟩ := hq
    obtain ⟨g1, g2⟩ := w_behind (p := p) hS h0 hF hI' hW hL
    cases o with
    | inl v' =>
      cases hoc
      have h1 := kr v' M' hQ ls t.heap (locs ++ L2) hl g1 g2
      have h2 : (v'.toList ++ rest).map (k_cv B b) = (v'.map (k_cv B b)).toList ++ rest.map (k_cv B b) := by cases v' <;> rfl
      show W p l e (k_rm m) s mI args below meth c t.heap (locs ++ L2) _ _ Qw (F0 mI (pc + 3) ls ((v'.map (k_cv B b)).toList ++ rest.map (k_cv B b)))
      rw [← h2]
      exact h1
    | inr x =>
      obtain ⟨q, cx, h1, -⟩ := hoc
      cases h1
  · intro q st₀ t L2 h0 hq hW hL
    obtain ⟨o, M', hQ, hI', hF, hoc⟩ := hq
    obtain ⟨g1, g2⟩ := w_behind (p := p) hS h0 hF hI' hW hL
    cases o with
    | inl v' => cases hoc
    | inr x =>
      obtain ⟨q', cx, h1, h2, h3, h4⟩ := hoc
      cases h1
      exact kx x M' hQ ls t (locs ++ L2) q cx hl g1 g2 hW h2 h3 h4
theorem w_split {st : List Value} {n : Nat} : st = ((st.take n).reverse).reverse ++ st.drop n := by rw [List.reverse_reverse, List.take_append_drop]
set_option maxHeartbeats 4000000 in
theorem w_go (htr : l.stackTraces = false) : ∀ (n m : Nat), m < k_nm → ∀ (x : i_C) (Q : i_O → s_M → Prop), w_ex xs Ln n (k_t m) x Q → ∀ (p : Program) (e : Env) (s : State) (mI : MethodId) (args : Array Value) (below : List Frame) (meth : Method) (c : Code), x_C m p s mI args meth c →
    i_N p l e (k_rm m) s mI args below meth c (x_MQ below (x_Qc B b Ln xs dA D Q) args s (k_t m).2.2.2.2.1 (k_t m).2.2.2.2.2 (k_A B)) B b Ln xs dA D m x := by
  intro n
  induction n with
  | zero =>
    intro m hm x Q h
    exact absurd h (by unfold w_ex; exact id)
  | succ n ih =>
    intro m hm x Q h p e s mI args below meth c CX
    obtain ⟨pc, L, st, M, ce, sl⟩ := x
    unfold w_ex at h
    split at h
    · exact h.elim
    · rename_i ins len a1 a2 pl hat
      have hmem : (pc, ins, len, a1, a2, pl) ∈ (k_t m).2.1 := i_mem hat
      have hd : decode (k_by m) pc = .ok (ins, len) := (k_code hm _ hmem).1
      have hok : i_okb m pc ins len a1 a2 pl = true := (k_code hm _ hmem).2
      obtain ⟨hx, hb, hml, hown, hts, hret, hlk, hnm, hex⟩ := id CX
      have hRc : (k_rm m).cells = (k_t m).2.2.2.2.1 := k_rmC hm
      have hRs : (k_rm m).slots = (k_t m).2.2.2.2.2 := k_rmS hm
      split at h
      · -- ireturn
        simp only [i_okb, decide_eq_true_eq] at hok
        subst hok
        split at h
        · rename_i v
          obtain ⟨hty, ⟨hce, hsl⟩, hQ⟩ := h
          intro ls H locs hl hI hS
          refine W.widen hce hsl (x_ret ?_)
          have hend : ∀ t : State, t.heap = H → s.WarmedH t.vm → x_Qc B b Ln xs dA D Q args s (.returned (some (.int v))) t := fun t ht hW => ⟨.inl (some (.int v)), M, hQ, by rw [ht]; exact hI.moved hW.alike, hS.F ht, rfl⟩
          split at hty
          · rename_i hr
            exact W.iret hx hb (hret.trans hr) hend hS.2.2 hd hlk
          · rename_i hr
            exact W.zret hx hb (hret.trans hr) (by rcases hty with h | h <;> subst h <;> rfl) hend hS.2.2 hd hlk
          · exact hty.elim
        · exact h.elim
      · -- lreturn
        simp only [i_okb, decide_eq_true_eq] at hok
        subst hok
        split at h
        · rename_i v
          obtain ⟨⟨hce, hsl⟩, hQ⟩ := h
          intro ls H locs hl hI hS
          refine W.widen hce hsl (x_ret ?_)
          exact W.lret hx hb (hret.trans (k_retl hm hmem)) (fun t ht hW => ⟨.inl (some (.long v)), M, hQ, by rw [ht]; exact hI.moved hW.alike, hS.F ht, rfl⟩) hS.2.2 hd hlk
        · exact h.elim
      · -- areturn
        simp only [i_okb, decide_eq_true_eq] at hok
        subst hok
        split at h
        · rename_i v
          obtain ⟨⟨hce, hsl⟩, hQ⟩ := h
          intro ls H locs hl hI hS
          refine W.widen hce hsl (x_ret ?_)
          obtain ⟨cn, hcn⟩ := k_reta hm hmem
          exact W.aret hx hb (hret.trans hcn) (Or.inl ⟨cn, rfl⟩) (Or.inr ⟨_, rfl⟩) (fun t ht hW => ⟨.inl (some (.ref v)), M, hQ, by rw [ht]; exact hI.moved hW.alike, hS.F ht, rfl⟩) hS.2.2 hd hlk
        · exact h.elim
      · -- return
        simp only [i_okb, decide_eq_true_eq] at hok
        subst hok
        split at h
        · obtain ⟨⟨hce, hsl⟩, hQ⟩ := h
          intro ls H locs hl hI hS
          refine W.widen hce hsl (x_ret ?_)
          exact W.vret hx hb (hret.trans (k_retv hm hmem)) (fun t ht hW => ⟨.inl none, M, hQ, by rw [ht]; exact hI.moved hW.alike, hS.F ht, rfl⟩) hS.2.2 hd hlk
        · exact h.elim
      · -- invokespecial
        split at h
        · simp only [i_okb, Bool.and_eq_true, decide_eq_true_eq] at hok
          obtain ⟨⟨⟨rfl, hw⟩, hf⟩, hlo⟩ := hok
          split at h
          · rename_i a r
            obtain ⟨hrm, h'⟩ := h
            intro ls H locs hl hI hS
            have hl1 : ls.size = (k_t m).2.2.1 := hl.1
            have hr8 := Nat.le_of_ble_eq_true hrm
            refine W.objInit hx hb hown (i_word hts hw) (hts _ k_oi1) (hts _ k_oi2) rfl (hl1.trans hml.symm) (rest := r.map (k_cv B b)) (a := B + a) rfl hd hf ?_ (ih m hm _ Q h' p e s mI args below meth c CX ls H locs hl hI hS)
            rw [i_cat]
            show 2 * 0 + _ + 12 ≤ _
            omega
          · exact h.elim
        · rename_i na
          simp only [i_okb, Bool.and_eq_true, Bool.or_eq_true, decide_eq_true_eq] at hok
          obtain ⟨⟨⟨⟨⟨⟨rfl, hj⟩, hkd⟩, hpn⟩, hw⟩, hfr⟩, hlo⟩ := hok
          obtain ⟨hrn, hlen, hrf, ⟨hce, hsl⟩, h'⟩ := h
          have hrn2 : i_rm (st.drop (na + 1)) = true ∧ Nat.ble (((st.take (na + 1)).reverse.map fun v => v.category).sum) (k_t a1).2.2.1 = true := by simpa only [i_rn, Bool.and_eq_true] using hrn
          refine w_call (j := a1) CX hm hj hd hfr hlo hrn hce hsl (w_met hj (Nat.le_of_ble_eq_true hrn2.2) (fun p e s mI args below meth c CX => ih a1 (Nat.lt_of_lt_of_le hj (by decide)) _ _ h' p e s mI args below meth c CX)) ?_ (fun v M' hv => ih m hm _ Q hv p e s mI args below meth c CX) (fun x M' hv => hv.elim)
          intro ls H locs T hI hT X
          have hst : st = ((st.take (na + 1)).reverse).reverse ++ st.drop (na + 1) := w_split
          cases has : (st.take (na + 1)).reverse with
          | nil => rw [has] at hrf; exact hrf.elim
          | cons v0 As =>
            rw [has] at hrf hst
            cases v0 <;> first | exact hrf.elim | skip
            rename_i a
            obtain ⟨hn1, hn2, hn3⟩ := k_jspec hj hkd
            have hcnt : As.length = na := by
              have h1 : ((st.take (na + 1)).reverse).length = na + 1 := by rw [List.length_reverse, List.length_take]; omega
              rw [has] at h1
              simpa using h1
            have hstk : (F0 mI pc ls (st.map (k_cv B b))).stack = (As.map (k_cv B b)).reverse ++ .ref (B + a) :: (st.drop (na + 1)).map (k_cv B b) := by
              show st.map (k_cv B b) = _
              conv => lhs; rw [hst]
              simp [k_cv]
            have hlen2 : ∀ sig, parseMethodDescriptor (k_y a1).desc = some sig → (As.map (k_cv B b)).length = sig.parameters.length := fun sig h => by
              rw [List.length_map, hcnt, ← hpn]
              exact k_jpn hj h
            rcases hw with hw | hw
            · exact x_frI X hx hown hn1 (i_word hts hw) (hts _ hn2) (hts _ hn3) (k_jmh hj) rfl hlen2 hstk (by rw [hb]; exact hd)
            · exact x_frIN X hx hown hn1 (i_word hts hw) (hts _ hn2) (hts _ hn3) (k_jmh hj) rfl hlen2 hstk (by rw [hb]; exact hd)
      · -- invokestatic
        split at h
        · simp only [i_okb, Bool.and_eq_true, decide_eq_true_eq] at hok
          obtain ⟨⟨⟨rfl, hw⟩, hf⟩, hlo⟩ := hok
          split at h
          · rename_i y x r
            obtain ⟨hrm, hcs, h'⟩ := h
            intro ls H locs hl hI hS
            have hl1 : ls.size = (k_t m).2.2.1 := hl.1
            have hr8 := Nat.le_of_ble_eq_true hrm
            exact va_mmax hx hb (hml.trans hl1.symm) hown (i_word hts hw) (hts _ k_mm1) (hts _ k_mm2) (hts _ k_mm3) hf (by rw [i_cat]; omega) (by rw [hRc]; exact hcs.1) (by rw [hRs]; exact hcs.2) hd (ih m hm _ Q h' p e s mI args below meth c CX ls H locs hl hI hS)
          · exact h.elim
        · rename_i na
          simp only [i_okb, Bool.and_eq_true, decide_eq_true_eq] at hok
          obtain ⟨⟨⟨⟨⟨⟨rfl, hj⟩, hkd⟩, hpn⟩, hw⟩, hfr⟩, hlo⟩ := hok
          obtain ⟨hrn, hlen, ⟨hce, hsl⟩, h'⟩ := h
          have hrn2 : i_rm (st.drop na) = true ∧ Nat.ble (((st.take na).reverse.map fun v => v.category).sum) (k_t a1).2.2.1 = true := by simpa only [i_rn, Bool.and_eq_true] using hrn
          refine w_call (j := a1) CX hm hj hd hfr hlo hrn hce hsl (w_met hj (Nat.le_of_ble_eq_true hrn2.2) (fun p e s mI args below meth c CX => ih a1 (Nat.lt_of_lt_of_le hj (by decide)) _ _ h' p e s mI args below meth c CX)) ?_ (fun v M' hv => ih m hm _ Q hv p e s mI args below meth c CX) (fun x M' hv => hv.elim)
          intro ls H locs T hI hT X
          have hst : st = ((st.take na).reverse).reverse ++ st.drop na := w_split
          have hcnt : ((st.take na).reverse).length = na := by rw [List.length_reverse, List.length_take]; omega
          have hstk : (F0 mI pc ls (st.map (k_cv B b))).stack = ((st.take na).reverse.map (k_cv B b)).reverse ++ (st.drop na).map (k_cv B b) := by
            show st.map (k_cv B b) = _
            rw [← List.map_reverse, ← List.map_append, ← hst]
          exact x_frS X hx hown (i_word hts hw) (hts _ (k_jstat hj hkd)) (hts _ (k_jini hj)) (k_cd (fun w hw => hts w (k_wsSub a1 hj w hw))) (k_jmh hj) rfl (fun sig h => by rw [List.length_map, hcnt, ← hpn]; exact k_jpn hj h) hstk (by rw [hb]; exact hd)
      · -- invokevirtual
        simp only [i_okb, Bool.and_eq_true, decide_eq_true_eq] at hok
        obtain ⟨⟨⟨⟨⟨⟨rfl, hj⟩, hkd⟩, hpn⟩, hw⟩, hfr⟩, hlo⟩ := hok
        obtain ⟨hrn, hlen, hrc, ⟨hce, hsl⟩, h'⟩ := h
        have hrn2 : i_rm (st.drop (a2 + 1)) = true ∧ Nat.ble (((st.take (a2 + 1)).reverse.map fun v => v.category).sum) (k_t a1).2.2.1 = true := by simpa only [i_rn, Bool.and_eq_true] using hrn
        refine w_call (j := a1) CX hm hj hd hfr hlo hrn hce hsl (w_met hj (Nat.le_of_ble_eq_true hrn2.2) (fun p e s mI args below meth c CX => ih a1 (Nat.lt_of_lt_of_le hj (by decide)) _ _ h' p e s mI args below meth c CX)) ?_ (fun v M' hv => ih m hm _ Q hv p e s mI args below meth c CX) ?_
        · intro ls H locs T hI hT X
          have hst : st = ((st.take (a2 + 1)).reverse).reverse ++ st.drop (a2 + 1) := w_split
          cases has : (st.take (a2 + 1)).reverse with
          | nil => rw [has] at hrc; exact hrc.elim
          | cons v0 As =>
            rw [has] at hrc hst
            cases v0 <;> first | exact hrc.elim | skip
            rename_i a
            have hM : M.1[a]? = some (.inl (k_rc a1)) := hrc
            obtain ⟨hn1, hn2, hn3, hn4⟩ := k_jvirt hj hkd
            have hcnt : As.length = a2 := by
              have h1 : ((st.take (a2 + 1)).reverse).length = a2 + 1 := by rw [List.length_reverse, List.length_take]; omega
              rw [has] at h1
              simpa using h1
            have hstk : (F0 mI pc ls (st.map (k_cv B b))).stack = (As.map (k_cv B b)).reverse ++ .ref (B + a) :: (st.drop (a2 + 1)).map (k_cv B b) := by
              show st.map (k_cv B b) = _
              conv => lhs; rw [hst]
              simp [k_cv]
            have hlen2 : ∀ sig, parseMethodDescriptor (k_y a1).desc = some sig → (As.map (k_cv B b)).length = sig.parameters.length := fun sig h => by
              rw [List.length_map, hcnt, ← hpn]
              exact k_jpn hj h
            obtain ⟨ja, rfl⟩ := k_pos hI hM (by intro h; cases h)
            obtain ⟨r', hr', cellB, g1, g2, g3, -⟩ := hI.2.2.1 ja _ (s_w_at hM)
            have hcls := (hI.2.2.2.1.1 _ _ (k_cl_at hn3)).2.1
            exact x_frV (C := k_cn (k_rc a1)) X hx hown (i_word hts hw) (hts _ hn1) (by rw [hn4]; exact hts _ hn2) (k_cd (fun w hw => hts w (k_wsSub a1 hj w hw))) (k_jmh hj) (b := B + (ja + 1)) (cellB := cellB) (by rw [hT]; exact g1) (by rw [g3]; rfl) (by rw [g2]; exact hcls) rfl hlen2 hstk (by rw [hb]; exact hd)
        · intro x M' hv ls t locs q cx hl hI hS hW hc1 hc2 hc3
          refine x_cat (x := x) CX hm hmem hl hI hS hW hc1 hc2 hc3 hce hsl (fun hn => ?_) (fun pc' k hk => ?_)
          · have hv2 : (match k_hd (k_t m).1 x with
              | none => k_ex (k_t m).1 = [] ∧ Q (.inr x) M'
              | some (pc', k) => w_ex xs Ln n (k_t m) (pc', L.filter (fun q => !(q.1 == k) && !(q.1 + 1 == k && q.2.category == 2)), [], M', ce + (k_t a1).2.2.2.2.1, sl + (k_t a1).2.2.2.2.2) Q) := hv
            rw [k_num hm] at hv2
            simp only [hn] at hv2
            exact hv2
          · have hv2 : (match k_hd (k_t m).1 x with
              | none => k_ex (k_t m).1 = [] ∧ Q (.inr x) M'
              | some (pc', k) => w_ex xs Ln n (k_t m) (pc', L.filter (fun q => !(q.1 == k) && !(q.1 + 1 == k && q.2.category == 2)), [], M', ce + (k_t a1).2.2.2.2.1, sl + (k_t a1).2.2.2.2.2) Q) := hv
            rw [k_num hm] at hv2
            simp only [hk] at hv2
            exact ih m hm _ Q hv2 p e s mI args below meth c CX
      · -- new
        split at h
        · split at h
          · exact h.elim
          · rename_i P c' hst
            exact i_go CX hRc hRs hok hd hst h.1 (ih m hm c' Q h.2 p e s mI args below meth c CX)
        · rename_i a2' hne
          obtain ⟨hrm, ⟨hce, hsl⟩, hQ⟩ := h
          intro ls H locs hl hI hS
          have hl1 : ls.size = (k_t m).2.2.1 := hl.1
          obtain ⟨ic, rfl⟩ : ∃ ic, a2 = ic + 1 := by
            cases a2 with
            | zero => exact absurd rfl hne
            | succ ic => exact ⟨ic, rfl⟩
          have hlen : len = 3 := by
            simp only [i_okb, Bool.and_eq_true, decide_eq_true_eq] at hok
            exact hok.1
          subst hlen
          exact x_thr htr CX hm hok hd hI hS hl1 (by rw [i_cat]; exact Nat.le_of_ble_eq_true hrm) hce hsl hQ
      · -- all else
        split at h
        · exact h.elim
        · rename_i P c' hst
          exact i_go CX hRc hRs hok hd hst h.1 (ih m hm c' Q h.2 p e s mI args below meth c CX)
end Go
