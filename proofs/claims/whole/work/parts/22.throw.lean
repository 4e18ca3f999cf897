/-! 'throw new E()', and what is caught. -/
section Throw
variable {p : Program} {l : Launch} {e : Env} {R : Room} {s : State} {m : MethodId} {args : Array Value} {below : List Frame} {meth : Method} {c : Code} {locs : List Loc} {cells slots : Nat}
/-- the walk, seen from here: as if the method were entered with the heap that there is now -/
theorem x_again {T : State} (X : Stand p l e R s m args below meth c T locs cells slots) {R' : Room} (hf : R'.frames ≤ R.frames) (hl : R'.locals ≤ R.locals) (hc : cells + R'.cells ≤ R.cells) (hs : slots + R'.slots ≤ R.slots) :
    Stand p l e R' ((T.setVm s.vm).setFrames (.invoking m args :: below)) m args below meth c T [] 0 0 := by
  have htop : (T.setVm s.vm).topJava?.isSome := X.here.top
  have hfr : ((T.setVm s.vm).setFrames (.invoking m args :: below)).frames = .invoking m args :: below := State.frames_setFrames _ (State.cur_lt_of_top htop)
  obtain ⟨g₀, hg⟩ := Option.isSome_iff_exists.mp htop
  obtain ⟨r, hr⟩ := State.topJava?_eq_some.mp hg
  obtain ⟨th, hth, -⟩ := State.frames_cons hr
  have hli : e.platform.stackLimits (T.setVm s.vm).me = e.platform.stackLimits s.me := X.limits
  have hby : (T.setVm s.vm).me.stackBytes = s.me.stackBytes := X.bytes
  have hin : ((T.setVm s.vm).setFrames (.invoking m args :: below)).localsInUse = s.localsInUse := by
    rw [State.localsInUse_invoking hfr (meth := meth) (c := c) X.method X.code, State.localsInUse_invoking X.frames X.method X.code]
  have hnil : (T.heap.toList.drop T.heap.size) = [] := List.drop_eq_nil_of_le (Nat.le_of_eq Array.length_toList)
  refine ⟨X.admits, X.cas, X.clock, hfr, ?_, X.hears, X.method, X.code, X.here, X.tail, X.warmed, (State.stackLimits_setFrames _ _ _).symm, (State.stackBytes_setFrames _ _).symm, ?_⟩
  · have h := X.room
    simp only [State.hasRoom, Bool.and_eq_true, decide_eq_true_eq] at h ⊢
    obtain ⟨⟨⟨⟨h1, h2, h3, h4, h5, h6⟩, h7⟩, h8⟩, -⟩ := h
    rw [X.frames, List.length_cons] at h2 h3
    have q1 := X.heapSize
    have q2 := X.used
    simp only [hfr, hin, List.length_cons, State.stackLimits_setFrames, State.stackBytes_setFrames, hli, hby]
    refine ⟨⟨⟨⟨by omega, by omega, by omega, by omega, by omega, h6⟩, ?_⟩, ?_⟩, X.book⟩
    · show T.heap.size + R'.cells ≤ e.platform.maxCells
      omega
    · show T.slotsUsed + R'.slots ≤ e.platform.maxSlots
      omega
  · refine ⟨?_, Nat.le_refl _, Nat.le_refl _, ?_, ?_, fun a cl hcl => ⟨cl, hcl, rfl, rfl, fun _ _ => rfl⟩⟩
    · show T.setVm s.vm = { ((T.setVm s.vm).setFrames (.invoking m args :: below)).setFrames (T.setVm s.vm).frames with heap := T.heap, slotsUsed := T.slotsUsed }
      rw [State.setFrames_setFrames, State.setFrames_self hth]
      rfl
    · show T.slotsUsed = T.slotsUsed + ((T.heap.toList.drop T.heap.size).map (·.slots.size)).sum
      rw [hnil]; rfl
    · show ((T.heap.toList.drop T.heap.size).map (·.slots.size)).sum ≤ 0
      rw [hnil]; exact Nat.le_refl _
theorem x_kept {U V : State} {k n : Nat} (h : V.sameButNew ({ U with vm := V.vm } : State) [] k n) : V.heap.size ≤ U.heap.size ∧ U.heap.size ≤ V.heap.size + k ∧ ∀ q : Nat, q < V.heap.size → U.heap[q]? = V.heap[q]? := by
  obtain ⟨-, h2, h3, -, -, h6⟩ := h
  refine ⟨h2, h3, fun q hq => ?_⟩
  obtain ⟨c', e1, e2, -, e4⟩ := h6 q _ (Array.getElem?_eq_getElem hq)
  have hs : c'.slots = (V.heap[q]).slots := Array.ext_getElem? fun i => e4 i (fun hm => by cases hm)
  have he : c' = V.heap[q] := by rw [hs] at e2; exact e2
  have e5 : U.heap[q]? = some c' := e1
  rw [e5, he, Array.getElem?_eq_getElem hq]
theorem k_xhw : ∀ x, x < 2 → ∀ w ∈ (k_xa x).filter k_hwb, w ∈ k_hw := by decide +kernel
theorem k_xin {x : Nat} (hx : x < 2) {w : Jvm.Cond} (hw : w ∈ k_xa x) (hn : k_hwb w = false) : w ∈ k_all := by
  have h1 : w ∈ (k_xa x).filter (fun w => !k_hwb w) := List.mem_filter.mpr ⟨hw, by rw [hn]; rfl⟩
  have h2 : w ∈ k_xw := by
    rcases (by omega : x = 0 ∨ x = 1) with h | h <;> subst h
    · exact List.mem_append_left _ h1
    · exact List.mem_append_right _ (List.mem_append_left _ h1)
  exact List.mem_append_right _ (List.mem_append_right _ (List.mem_append_right _ (List.mem_append_right _ (List.mem_append_right _ (List.mem_append_right _ (List.mem_append_right _ (List.mem_append_right _ h2)))))))
theorem k_in_xw {w : Jvm.Cond} (h2 : w ∈ k_xw) : w ∈ k_all := List.mem_append_right _ (List.mem_append_right _ (List.mem_append_right _ (List.mem_append_right _ (List.mem_append_right _ (List.mem_append_right _ (List.mem_append_right _ (List.mem_append_right _ h2)))))))
theorem k_xini {x : Nat} (hx : x < 2) : Jvm.Cond.initialized (k_en x) ∈ k_all ∧ Jvm.Cond.castable (k_en x) (k_en x) ∈ k_all := by
  rcases (by omega : x = 0 ∨ x = 1) with h | h <;> subst h
  · exact ⟨k_in_xw (List.mem_append_right _ (List.mem_append_right _ (List.mem_append_left _ (by simp)))), k_in_xw (List.mem_append_right _ (List.mem_append_right _ (List.mem_append_left _ (by simp))))⟩
  · exact ⟨k_in_xw (List.mem_append_right _ (List.mem_append_right _ (List.mem_append_left _ (by simp)))), k_in_xw (List.mem_append_right _ (List.mem_append_right _ (List.mem_append_left _ (by simp))))⟩
theorem k_xfit : ∀ x, x < 2 → Jvm.Bundle.fit (k_en x) = true := by decide +kernel
theorem k_nfit : ∀ n ∈ k_xn, Jvm.Bundle.fit n = true := by decide +kernel
/-- one row of the table: its class is linked, and takes the object or doesn't -/
theorem x_row {x : ExceptionTableEntry} {t : List ExceptionTableEntry} {ci : ClassId} {cell : Cell} {Q : Handler → Pre} {E : CtlPost} {d : Bool} {acts : List Action} {S : State} {f : JFrame} {a : Addr} (hx : covers x f.pc = true) (h0 : x.catchType ≠ 0)
    (hl : S.vm.ClassLinks e.platform f.method.cls x.catchType ci) (hcell : S.heap[a]? = some cell) (hobj : ∀ k, cell.vm ≠ .statics k) (hk : ∃ k, S.vm.classes[cell.cls]? = some k) (hc : ∃ k, S.vm.classes[ci]? = some k) :
    wp (findHandler.go f a (x :: t)) Q E e d acts S ↔ if S.vm.assignable cell.cls ci = true then Q (.found x.handlerPc) d acts (S.setVm (S.vm.noted f.method.cls x.catchType (.cls ci))) else wp (findHandler.go f a t) Q E e d acts (S.setVm (S.vm.noted f.method.cls x.catchType (.cls ci))) := by
  simp only [covers] at hx
  obtain ⟨ha, ht⟩ := (resolveClass_links e.toSetting hl).op (op := VmOp.resolveClass f.method.cls x.catchType) rfl
  have hal : S.vm.Alike (S.vm.noted f.method.cls x.catchType (.cls ci)) := (Vm.Alike.refl S.vm).noted _ _ _
  obtain ⟨k1, hk1⟩ := hk
  obtain ⟨k2, hk2⟩ := hc
  obtain ⟨k1', hk1', -⟩ := hal.2.2 _ _ hk1
  obtain ⟨k2', hk2', -⟩ := hal.2.2 _ _ hk2
  have he := hal.assignable cell.cls ci
  cases hfit : S.vm.assignable cell.cls ci <;> rw [hfit] at he <;> simp [findHandler.go, hx, h0, ha, ht, hcell, hobj, hk1', hk2', he, VmOp.dirties, VmOp.acts]
/-- the search leads to a handler of the method's own: the walk goes on there -/
theorem x_found {T target : State} {g : JFrame} {a : Addr} {pc : Nat} {vm' : Vm} (h : At T g.method c below)
    (hf : ∀ (Q : Handler → Pre) (E : CtlPost) (d : Bool) (acts : List Action), wp (findHandler g a) Q E e d acts ((T.setTop g).pushFrame (.throwing a)) ↔ Q (.found pc) d acts (((T.setTop g).pushFrame (.throwing a)).setVm vm'))
    (hrest : Steps p.tables e below ((T.setVm vm').setTop { g with pc := pc, stack := [.ref a] }) target) : Steps p.tables e below ((T.setTop g).pushFrame (.throwing a)) target := by
  obtain ⟨hgo, hw⟩ := h.throwing a
  refine Steps.head hgo hw ?_
  obtain ⟨g₀, hg⟩ := Option.isSome_iff_exists.mp h.top
  obtain ⟨r, hr⟩ := State.topJava?_eq_some.mp hg
  have hr' : (T.setVm vm').frames = .java g₀ :: r := hr
  have hstep : ∀ (S : State) (fr : List Frame), (∀ (Q : Handler → Pre) (E : CtlPost) (d : Bool) (acts : List Action), wp (findHandler g a) Q E e d acts S ↔ Q (.found pc) d acts (S.setVm vm')) →
      (stepThrowing e S a (.java g :: fr)).Is ((S.setVm vm').setFrames (.java { g with pc := pc, stack := [.ref a] } :: fr)) [] := by
    intro S fr hS
    simp only [stepThrowing, searchFrame, vmDo]
    generalize hres : Sem.go _ e false [] S = res
    obtain ⟨as, rfl, hact⟩ := Sem.eq_ok_of hres (a := Handler.found pc) (s' := S.setVm vm') (acts' := []) (by simp [hS _ _ _ _])
    exact ⟨rfl, hact⟩
  have hsv : ∀ (u : State) (F G : List Frame), ((u.setFrames F).setVm vm').setFrames G = (u.setVm vm').setFrames G := by
    intro u F G
    have h1 : (u.setFrames F).setVm vm' = (u.setVm vm').setFrames F := rfl
    rw [h1, State.setFrames_setFrames]
  rw [stepThread_throwing (frames_entered h.top _), (hstep _ _ hf).1]
  rw [State.setTop_of_frames _ hr'] at hrest
  rw [hr, List.tail_cons, State.pushFrame, hsv, State.setTop_of_frames _ hr, hsv]
  exact hrest
theorem x_look {S : State} {g : JFrame} {q : Addr} {z : ExceptionTableEntry} {rest : List ExceptionTableEntry} {ci : ClassId} {cell : Cell} (hW : s.WarmedH S.vm) (hz : covers z g.pc = true) (h0 : z.catchType ≠ 0) (hl : s.vm.ClassLinks e.platform g.method.cls z.catchType ci)
    (hcell : S.heap[q]? = some cell) (hobj : cell.vm = .none) (hk : ∃ k, s.vm.classes[cell.cls]? = some k) :
    ∃ vm', s.WarmedH vm' ∧ ∀ (Q : Handler → Pre) (E : CtlPost) (d : Bool) (acts : List Action), wp (findHandler.go g q (z :: rest)) Q E e d acts S ↔ if s.vm.assignable cell.cls ci = true then Q (.found z.handlerPc) d acts (S.setVm vm') else wp (findHandler.go g q rest) Q E e d acts (S.setVm vm') := by
  obtain ⟨k0, hk0⟩ := hk
  obtain ⟨k0', hk0', -⟩ := hW.alike.2.2 _ _ hk0
  obtain ⟨dk, _, _, kt, hd, _, _, _, _, hkt, _, hopen⟩ := hl.here
  obtain ⟨kt', hkt', -⟩ := hW.alike.2.2 _ _ hkt
  refine ⟨_, hW.noted hd hopen (State.rightAt_cls hl), fun Q E d acts => ?_⟩
  rw [x_row hz h0 (hW.classLinks hl) hcell (fun k h => by rw [hobj] at h; cases h) ⟨k0', hk0'⟩ ⟨kt', hkt'⟩, hW.alike.assignable]
def k_asb (m h k pc' : Nat) : Bool := (decide (decode (k_by m) h = .ok (.astore k, 2)) && decide (pc' = h + 2)) || (decide (k < 4) && decide (decode (k_by m) h = .ok (.astore_n (Fin.ofNat 4 k), 1)) && decide (pc' = h + 1))
def k_cin (m a b : Nat) : Bool := (k_t m).2.1.all (fun x => match x.2.1 with
  | .invokevirtual _ => decide (a ≤ x.1) && decide (x.1 < b)
  | _ => true)
def k_hok (m x : Nat) : Bool := match k_hd m x with
  | none => true
  | some (pc', k) => decide (k < (k_t m).2.2.1) && decide (k_own m = "TwinRoomsLaw") && (match k_ex m with
    | [(a, b, h, 13)] => decide (x = 0) && k_asb m h k pc' && k_cin m a b
    | [(a, b, h, 13), (a2, b2, h2, 19)] => k_cin m a b && k_cin m a2 b2 && ((decide (x = 0) && k_asb m h k pc') || (decide (x = 1) && k_asb m h2 k pc'))
    | _ => false)
theorem k_hok1 : ∀ m, m < k_nm → ∀ x, x < 2 → k_hok m x = true := by decide +kernel
theorem k_hd2a : ∀ q ∈ k_hds, q.1.2 < 2 := by decide +kernel
theorem k_hd2 {m x : Nat} {r : Nat × Nat} (h : k_hd m x = some r) : x < 2 := by
  have h1 : ((m, x), r) ∈ k_hds := by
    unfold k_hd at h
    revert h
    generalize k_hds = l
    induction l with
    | nil => intro h; simp at h
    | cons q t ih =>
      intro h
      obtain ⟨a, w⟩ := q
      simp only [List.lookup] at h
      split at h
      · rename_i he
        have h1 : (m, x) = a := by simpa using he
        cases h
        rw [h1]
        exact List.mem_cons_self
      · exact List.mem_cons_of_mem _ (ih h)
  exact k_hd2a _ h1
theorem k_cin_at {m a b pc i len a1 a2 pl : Nat} (h : k_cin m a b = true) (hx : (pc, Instr.invokevirtual i, len, a1, a2, pl) ∈ (k_t m).2.1) : a ≤ pc ∧ pc < b := by
  have h1 := List.all_eq_true.mp h _ hx
  simpa using h1
theorem k_cl13 : Jvm.Cond.classLink "TwinRoomsLaw" 13 (k_en 0) ∈ k_all := k_in_lk (c := 11) (by decide +kernel)
theorem k_cl19 : Jvm.Cond.classLink "TwinRoomsLaw" 19 (k_en 1) ∈ k_all := k_in_lk (c := 11) (by decide +kernel)
theorem k_not10 : Jvm.Cond.not (.castable (k_en 1) (k_en 0)) ∈ k_all := k_in_xw (List.mem_append_right _ (List.mem_append_right _ (List.mem_append_right _ (by simp [k_nw]))))
end Throw
