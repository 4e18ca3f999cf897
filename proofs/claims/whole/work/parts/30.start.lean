/-! From the law's entry to the small machine, and back to the claim. -/
theorem in_jw : ∀ w ∈ k_jw, w ∈ lw_tbl := by
  intro w hw
  simp only [k_jw, List.mem_cons, List.not_mem_nil, or_false] at hw
  rcases hw with rfl | rfl | rfl | rfl | rfl
  · exact List.mem_of_getElem? (i := 70) rfl
  · exact List.mem_of_getElem? (i := 71) rfl
  · exact List.mem_of_getElem? (i := 454) rfl
  · exact List.mem_of_getElem? (i := 58) rfl
  · exact List.mem_of_getElem? (i := 455) rfl
def k_xv : List Jvm.Cond := (k_xa 0).filter (fun w => !k_hwb w) ++ ((k_xa 1).filter (fun w => !k_hwb w) ++ [.initialized (k_en 0), .initialized (k_en 1), .castable (k_en 0) (k_en 0), .castable (k_en 1) (k_en 1)])
theorem in_xv : ∀ w ∈ k_xv, w ∈ lw_tbl := by decide +kernel
theorem k_words {args : Array Value} {s : State} (h : ∀ w ∈ lw_tbl, w.before args s = true) (hn : ∀ w ∈ k_nw, w.before args s = true) : ∀ w ∈ k_all, w.before args s = true := by
  intro w hw
  unfold k_all at hw
  rcases List.mem_append.mp hw with hw | hw
  · obtain ⟨l, hl, hw⟩ := List.mem_flatten.mp hw
    simp only [k_lks, List.mem_cons, List.not_mem_nil, or_false] at hl
    rcases hl with rfl | rfl | rfl | rfl | rfl | rfl | rfl | rfl | rfl | rfl | rfl | rfl
    · exact h w (in_lk_0 w hw)
    · exact h w (in_lk_1 w hw)
    · exact h w (in_lk_2 w hw)
    · exact h w (in_lk_3 w hw)
    · exact h w (in_lk_4 w hw)
    · exact h w (in_lk_5 w hw)
    · exact h w (in_lk_6 w hw)
    · exact h w (in_lk_7 w hw)
    · exact h w (in_lk_8 w hw)
    · exact h w (in_lk_9 w hw)
    · exact h w (in_lk_10 w hw)
    · exact h w (in_lk_11 w hw)
  rcases List.mem_append.mp hw with hw | hw
  · exact h w (in_cw w hw)
  rcases List.mem_append.mp hw with hw | hw
  · exact h w (in_lay w hw)
  rcases List.mem_append.mp hw with hw | hw
  · exact h w (in_mi w hw)
  rcases List.mem_append.mp hw with hw | hw
  · exact h w (in_ms w hw)
  rcases List.mem_append.mp hw with hw | hw
  · exact h w (in_me w hw)
  rcases List.mem_append.mp hw with hw | hw
  · exact h w (in_mw w hw)
  rcases List.mem_append.mp hw with hw | hw
  · exact h w (in_jw w hw)
  unfold k_xw at hw
  rcases List.mem_append.mp hw with hw | hw
  · exact h w (in_xv w (List.mem_append_left _ hw))
  rcases List.mem_append.mp hw with hw | hw
  · exact h w (in_xv w (List.mem_append_right _ (List.mem_append_left _ hw)))
  rcases List.mem_append.mp hw with hw | hw
  · exact h w (in_xv w (List.mem_append_right _ (List.mem_append_right _ hw)))
  · exact hn w hw
def k_z0 : s_S := (fun _ _ => 0, fun _ _ => 0, fun _ _ => 0, fun _ _ => false)
def k_M0 : s_M := ([.inr (99, 0)], 0, k_z0)
/-- static words, wherever the tables are alike and the old heap stands -/
theorem k_zword {args : Array Value} {s : State} {C n d : String} (hl : (Jvm.Cond.laysStatic C n d).before args s = true) (hini : (Jvm.Cond.initialized C).before args s = true) (h : (Jvm.Cond.isRef (.static C n d)).before args s = true)
    {V : State} (a' : Array Value) (hV : s.vm.Alike V.vm) (hq : ∀ q : Nat, q < s.heap.size → V.heap[q]? = s.heap[q]?) : (Jvm.Cond.laysStatic C n d).before a' V = true ∧ (Jvm.Cond.isRef (.static C n d)).before a' V = true := by
  have hz := va_Zq.moved hV ((va_Zqof (A := fun _ => False) hl hini h (fun _ _ h => h)).kept (H1 := V.heap) (fun a ha _ => hq a ha))
  constructor
  · obtain ⟨c, k, i, f, a, cell, h1, h2, h3, h4, h5, h6, h7, h8, h9⟩ := Cond.laysStatic_spec hl
    obtain ⟨k', hi', he⟩ := State.fieldFound?_setVm hV h2
    exact Cond.laysStatic_of (by rw [hV.findClass]; exact h1) hi' h3 (by rw [he]; exact h4) (by rw [hq a (Array.getElem?_eq_some_iff.mp h5).1]; exact h5) h6 h7 h8 (by rw [he]; exact h9)
  · have key : ∀ v : Value, v.isRef = true → va_Z C n d v (fun _ => False) V V.heap → (Jvm.Cond.isRef (.static C n d)).before a' V = true := by
      intro v hv hZ
      obtain ⟨cf, kf, fi, f, a, cell, h1, h2, h3, h4, h5, h6, h7, -⟩ := hZ
      have he : (Term.static C n d).eval a' V none [] V = some v := by
        simp [Term.eval, State.fieldNamed?, h1, h2, h4, h5, h6, h7]
      simp only [Cond.before, Cond.holds, Cond.value, he]
      cases v <;> simp_all [Value.isRef]
    rcases hz with hz | ⟨t, hz⟩
    · exact key _ rfl hz
    · exact key _ rfl hz
theorem k_instcw : ∀ ci, ci < k_no → Jvm.Cond.instantiable (k_cn ci) (k_ft ci).length ∈ k_cw := by decide +kernel
theorem k_arrcw : ∀ t, t < 3 → Jvm.Cond.arrayClass (k_aty t) ∈ k_cw := by decide +kernel
theorem k_overcw : ∀ t, t + 3 < k_na → Jvm.Cond.arrayOver (.object (k_cn t)) ∈ k_cw := by
  intro t ht
  have h : ∀ t, t < 5 → Jvm.Cond.arrayOver (.object (k_cn t)) ∈ k_cw := by decide +kernel
  exact h t (by have : k_na = 8 := rfl; omega)
theorem k_known {args : Array Value} {s : State} (hts : ∀ w ∈ k_all, w.before args s = true) : ∃ (dA : Nat → ClassId) (D : va_G), va_K D k_cl (k_ty dA) s := by
  have h1 : ∀ ci, ∃ r : ClassId × (Nat → Nat), ci < k_no → u_Kn s (k_cn ci) (k_tf ci) (k_ft ci).length r.1 r.2 := by
    intro ci
    by_cases h : ci < k_no
    · obtain ⟨cC, iS, hk⟩ := u_known (n := (k_ft ci).length) hts (k_lays h) (hts _ (k_in_cw (k_instcw ci h)))
      exact ⟨(cC, iS), fun _ => hk⟩
    · exact ⟨(0, fun _ => 0), fun h' => absurd h' h⟩
  have h2 : ∀ t, ∃ cA : ClassId, t < k_na → ArrOfT s cA (k_aty t) ∧ va_RA s cA (k_aty t) := by
    intro t
    by_cases h : t < k_na
    · by_cases h3 : t < 3
      · obtain ⟨c, k, comp, q1, q2, q3⟩ := Cond.arrayClass_spec (hts _ (k_in_cw (k_arrcw t h3)))
        refine ⟨c, fun _ => ⟨fun n z => ⟨(fun k h => by cases h), k, q2, comp, q3⟩, ?_⟩⟩
        rcases (by omega : t = 0 ∨ t = 1 ∨ t = 2) with h | h | h <;> subst h <;> exact q1
      · obtain ⟨t', rfl⟩ : ∃ t', t = t' + 3 := ⟨t - 3, by omega⟩
        obtain ⟨comp, c, k, q0, -, q2, q3, q1⟩ := Cond.arrayOver_spec (hts _ (k_in_cw (k_overcw t' h)))
        exact ⟨c, fun _ => ⟨fun n z => ⟨(fun k h => by cases h), k, q2, comp, q3⟩, k, comp, q2, q3, q0, q1⟩⟩
    · exact ⟨0, fun h' => absurd h' h⟩
  refine ⟨fun t => Classical.choose (h2 t), (fun ci => (Classical.choose (h1 ci)).1, fun ci => (Classical.choose (h1 ci)).2), fun ci q hq => ?_, fun t q hq => ?_⟩
  · have hlt : ci < k_no := by
      have := (List.getElem?_eq_some_iff.mp hq).1
      simpa [k_cl] using this
    rw [k_cl_at hlt] at hq
    cases hq
    exact Classical.choose_spec (h1 ci) hlt
  · have hlt : t < k_na := by
      have := (List.getElem?_eq_some_iff.mp hq).1
      simpa [k_ty] using this
    rw [k_ty_at hlt] at hq
    cases hq
    exact Classical.choose_spec (h2 t) hlt
theorem k_startI {p : Program} {s : State} {m : MethodId} {meth : Method} {c : Code} {b L : Nat} {xs : Nat → Int32} (C0 : lw_At p s m meth c b L xs) : (∀ w ∈ k_all, w.before #[Value.ref b] s = true) ∧ ∃ (dA : Nat → ClassId) (D : va_G), k_I (s.heap.size - 1) b L xs dA D k_M0 s s.heap := by
  obtain ⟨hx, hb, hr, hml, hown, hts, hX, hbl, hlk, hgv⟩ := C0
  have hpart := flat_of_before _ hgv
  have hall : ∀ w ∈ k_all, w.before #[Value.ref b] s = true := k_words hts (fun w hw => by
    simp only [k_nw, List.mem_cons, List.not_mem_nil, or_false] at hw
    subst hw
    exact hpart _ (by decide +kernel))
  refine ⟨hall, ?_⟩
  obtain ⟨dA, D, hK⟩ := k_known hall
  refine ⟨dA, D, ?_, rfl, ?_, hK, ?_, ?_, hX, by omega⟩
  · show s.heap.size = s.heap.size - 1 + 1 + 0
    omega
  · intro k q hq
    have h1 : (s_w (s.heap.size - 1) dA k_M0.1 k_M0.2.2) = [] := rfl
    rw [h1] at hq
    cases hq
  · intro q cell hq hc
    have := (Array.getElem?_eq_some_iff.mp hc).1
    omega
  · intro V a' hV hq w hw
    have hq' : ∀ q : Nat, q < s.heap.size → V.heap[q]? = s.heap[q]? := fun q h => hq q (by omega)
    have hini : (Jvm.Cond.initialized "java/lang/Throwable").before #[Value.ref b] s = true := hts _ (in_xv _ (by decide +kernel))
    have z1 := k_zword (C := "java/lang/Throwable") (n := "UNASSIGNED_STACK") (d := "[Ljava/lang/StackTraceElement;") (hts _ (by decide +kernel)) hini (hpart _ (by decide +kernel)) a' hV hq'
    have z2 := k_zword (C := "java/lang/Throwable") (n := "SUPPRESSED_SENTINEL") (d := "Ljava/util/List;") (hts _ (by decide +kernel)) hini (hpart _ (by decide +kernel)) a' hV hq'
    simp only [k_hw, List.mem_cons, List.not_mem_nil, or_false] at hw
    rcases hw with rfl | rfl | rfl | rfl
    · exact z1.2
    · exact z2.2
    · exact z1.1
    · exact z2.1
/-- the claim's own start, out of a run of the small machine -/
theorem k_whole {p : Program} {e : Env} {s : State} {m : MethodId} {below : List Frame} {meth : Method} {c : Code} (l : Launch) (htr : l.stackTraces = false) {b L : Nat} {xs : Nat → Int32} (C0 : lw_At p s m meth c b L xs) (hnm : meth.name = "law") (hext : c.exceptionTable.toList = [])
    (hrun : w_P xs L (k_t 169) (0, [(0, .retAddr 0)], [], k_M0, 0, 0) (fun o _ => o = .inl (some (.int 1)))) :
    W p l e room_1 s m #[Value.ref b] below meth c s.heap [] 0 0 (lw_Z below #[Value.ref b] s) (entryFrame m ([Value.ref b] : List Value).toArray 8) := by
  obtain ⟨hall, dA, D, hI⟩ := k_startI C0
  obtain ⟨hx, hb, hr, hml, hown, hts, hX, hbl, hlk, hgv⟩ := C0
  obtain ⟨n, hn⟩ := hrun
  intro T hT X
  have CX : x_C 169 p s m #[Value.ref b] meth c := ⟨hx, hb, hml, hown, hall, hr, hlk, hnm, hext⟩
  have h1 := w_go (l := l) (B := s.heap.size - 1) (b := b) (Ln := L) (xs := xs) (dA := dA) (D := D) htr n 169 (by decide) _ _ hn p e s m #[Value.ref b] below meth c CX
  have h2 := lv_entry [Value.ref b] (n := 8) (Nat.le_of_ble_eq_true rfl)
  rw [lg_entry_eq]
  have hR : k_rm 169 = room_1 := rfl
  rw [hR] at h1
  obtain ⟨t, a1, o, b1, b2, ⟨⟨o', M', hQ, hI', hF, hoc⟩, hW, Lw, hsame, hLw⟩⟩ := h1 _ s.heap [] h2 hI va_S.rf T hT X
  subst hQ
  cases hoc
  refine ⟨t, a1, _, b1, b2, rfl, ⟨_, rfl⟩, hW, hsame.weaken (fun y hy hlt => ?_) (Nat.le_refl _) (Nat.le_refl _)⟩
  have key : ∀ u v : Nat, u - 1 < v → v < u → False := fun u v h1 h2 => by omega
  exact (key s.heap.size y.base (hLw y hy) hlt).elim
