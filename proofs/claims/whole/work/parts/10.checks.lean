/-! What the tables say, checked by the kernel. -/
def k_hw : List Jvm.Cond := [.isRef (.static "java/lang/Throwable" "UNASSIGNED_STACK" "[Ljava/lang/StackTraceElement;"), .isRef (.static "java/lang/Throwable" "SUPPRESSED_SENTINEL" "Ljava/util/List;"), .laysStatic "java/lang/Throwable" "UNASSIGNED_STACK" "[Ljava/lang/StackTraceElement;", .laysStatic "java/lang/Throwable" "SUPPRESSED_SENTINEL" "Ljava/util/List;"]
def k_hwb (w : Jvm.Cond) : Bool := match w with
  | .isRef _ => true
  | .laysStatic _ _ _ => true
  | _ => false
def k_xn : List String := ["java/lang/RuntimeException", "java/lang/Exception"]
def k_xa (x : Nat) : List Jvm.Cond := Jvm.Bundle.ownAtoms0 "TwinRooms" (k_ic x) (k_en x) k_xn
def k_nw : List Jvm.Cond := [.not (.castable (k_en 1) (k_en 0))]
def k_xw : List Jvm.Cond := (k_xa 0).filter (fun w => !k_hwb w) ++ ((k_xa 1).filter (fun w => !k_hwb w) ++ ([.initialized (k_en 0), .initialized (k_en 1), .castable (k_en 0) (k_en 0), .castable (k_en 1) (k_en 1)] ++ k_nw))
def k_all : List Jvm.Cond := k_lks.flatten ++ (k_cw ++ (k_lay ++ (k_mi ++ (k_ms ++ (k_me ++ (k_mw ++ (k_jw ++ k_xw)))))))
def k_ws (m : Nat) : List Jvm.Cond := k_cwd m :: k_all
/-- words that hold on, however the tables are warmed -/
def k_gw : Jvm.Cond → Bool
  | .arrayOver (.object _) => true
  | .methodLinkNest _ _ _ _ => true
  | .castable _ _ => true
  | .declares _ => true
  | .not (.castable _ _) => true
  | w => goodWord w
theorem k_move {w : Jvm.Cond} {args a' : Array Value} {s U : State} (hg : k_gw w = true) (hW : s.WarmedH U.vm) (h : w.before args s = true) : w.before a' U = true := by
  unfold k_gw at hg
  split at hg
  · exact va_AO.use (va_AO.moved hW.alike (va_AO.of h))
  · exact va_Nw.use rfl (va_Nw.warmM hW (va_Nw.of rfl h))
  · exact va_Nw.use rfl (va_Nw.warmC hW (va_Nw.of rfl h))
  · exact va_Nw.use rfl (va_Nw.warmD hW (va_Nw.of rfl h))
  · obtain ⟨c, t, h1, h2, h3⟩ := va_Nc.moved hW.alike (va_Nc.of h)
    refine Cond.holds_not_iff.mpr ?_
    simp only [Cond.value, h1, h2, h3]
  · exact word_at hW (good_of_word hg) h
theorem k_good1 : k_all.all k_gw = true := by decide +kernel
theorem k_good : ∀ w ∈ k_all, k_gw w = true := fun w hw => List.all_eq_true.mp k_good1 w hw
theorem k_in_lk {c : Nat} {w : Jvm.Cond} (h : w ∈ k_lk c) : w ∈ k_all := by
  refine List.mem_append_left _ (List.mem_flatten.mpr ⟨k_lk c, ?_, h⟩)
  unfold k_lk at h ⊢
  rw [List.getD_eq_getElem?_getD] at h ⊢
  cases hc : k_lks[c]? with
  | none => rw [hc] at h; cases h
  | some l => exact List.mem_of_getElem? hc
theorem k_in_cw {w : Jvm.Cond} (h : w ∈ k_cw) : w ∈ k_all := List.mem_append_right _ (List.mem_append_left _ h)
theorem k_in_lay {w : Jvm.Cond} (h : w ∈ k_lay) : w ∈ k_all := List.mem_append_right _ (List.mem_append_right _ (List.mem_append_left _ h))
theorem k_in_mi {w : Jvm.Cond} (h : w ∈ k_mi) : w ∈ k_all := List.mem_append_right _ (List.mem_append_right _ (List.mem_append_right _ (List.mem_append_left _ h)))
theorem k_in_ms {w : Jvm.Cond} (h : w ∈ k_ms) : w ∈ k_all := List.mem_append_right _ (List.mem_append_right _ (List.mem_append_right _ (List.mem_append_right _ (List.mem_append_left _ h))))
theorem k_in_me {w : Jvm.Cond} (h : w ∈ k_me) : w ∈ k_all := List.mem_append_right _ (List.mem_append_right _ (List.mem_append_right _ (List.mem_append_right _ (List.mem_append_right _ (List.mem_append_left _ h)))))
theorem k_in_mw {w : Jvm.Cond} (h : w ∈ k_mw) : w ∈ k_all := List.mem_append_right _ (List.mem_append_right _ (List.mem_append_right _ (List.mem_append_right _ (List.mem_append_right _ (List.mem_append_right _ (List.mem_append_left _ h))))))
theorem k_in_jw {w : Jvm.Cond} (h : w ∈ k_jw) : w ∈ k_all := List.mem_append_right _ (List.mem_append_right _ (List.mem_append_right _ (List.mem_append_right _ (List.mem_append_right _ (List.mem_append_right _ (List.mem_append_right _ (List.mem_append_left _ h)))))))
theorem k_lays {ci : Nat} (h : ci < k_no) : ∀ w ∈ u_ws (k_cn ci) (k_tf ci) (k_ft ci).length, w ∈ k_all := fun w hw => k_in_lay (List.mem_flatMap.mpr ⟨ci, List.mem_range.mpr h, hw⟩)
theorem k_types1 : ∀ ci, ci < k_no → ∀ k, k < (k_ft ci).length → parseFieldDescriptor (k_tf ci k).2.2.1 = some ((k_ft ci).getD k .int) := by decide +kernel
theorem k_types {ci : Nat} (h : ci < k_no) : ∀ k, k < (k_ft ci).length → parseFieldDescriptor (k_tf ci k).2.2.1 = some ((k_ft ci).getD k .int) := k_types1 ci h
theorem k_names1 : ∀ ci, ci < k_no → ∀ a, a < (k_ft ci).length → ∀ b, b < (k_ft ci).length → a ≠ b → (k_tf ci a).2.1 ≠ (k_tf ci b).2.1 := by decide +kernel
theorem k_names {ci : Nat} (h : ci < k_no) : ∀ a, a < (k_ft ci).length → ∀ b, b < (k_ft ci).length → a ≠ b → (k_tf ci a).2.1 ≠ (k_tf ci b).2.1 := k_names1 ci h
def s_tyok : FieldType → Bool
  | .int => true
  | .long => true
  | .boolean => true
  | .object _ => true
  | .array _ => true
  | _ => false
theorem k_tyok : ∀ ci, ci < k_no → ∀ k, k < (k_ft ci).length → s_tyok ((k_ft ci).getD k .int) = true := by decide +kernel
theorem k_dflt {B ci k : Nat} (h : ci < k_no) (hk : k < (k_ft ci).length) : defaultValue ((k_ft ci).getD k .int) = s_v B ((fun _ => 0, fun _ => 0, fun _ => 0, fun _ => false) : s_R) k ((k_ft ci).getD k .int) := by
  have h1 := k_tyok ci h k hk
  generalize (k_ft ci).getD k .int = ty at h1
  cases ty <;> first | rfl | (cases h1)
theorem k_num1 : ∀ m, m < k_nm → (k_t m).1 = m := by decide +kernel
theorem k_num {m : Nat} (h : m < k_nm) : (k_t m).1 = m := k_num1 m h
theorem k_rmC {m : Nat} (h : m < k_nm) : (k_rm m).cells = (k_t m).2.2.2.2.1 := by
  unfold k_rm
  split
  · rename_i h1; subst h1; decide +kernel
  · rfl
theorem k_rmS {m : Nat} (h : m < k_nm) : (k_rm m).slots = (k_t m).2.2.2.2.2 := by
  unfold k_rm
  split
  · rename_i h1; subst h1; decide +kernel
  · rfl
theorem k_plain1 : ∀ m, m < k_nj → plainName (k_y m).cls = true ∧ (k_y m).cls = k_own m ∧ (k_y m).cls ≠ "java/lang/invoke/MethodHandle" ∧ (k_y m).cls ≠ "java/lang/invoke/VarHandle" := by decide +kernel
theorem k_plain {m : Nat} (h : m < k_nj) : plainName (k_y m).cls = true := (k_plain1 m h).1
theorem k_ycls {m : Nat} (h : m < k_nj) : (k_y m).cls = k_own m := (k_plain1 m h).2.1
theorem k_jmh {m : Nat} (h : m < k_nj) : (k_y m).cls ≠ "java/lang/invoke/MethodHandle" ∧ (k_y m).cls ≠ "java/lang/invoke/VarHandle" := (k_plain1 m h).2.2
theorem k_wsSub (m : Nat) (hm : m < k_nj) : ∀ w ∈ k_ws m, w ∈ k_all := by
  intro w hw
  rcases List.mem_cons.mp hw with h | h
  · rw [h]; exact k_in_mw (List.mem_map.mpr ⟨m, List.mem_range.mpr hm, rfl⟩)
  · exact h
theorem k_allSub (m : Nat) : ∀ w ∈ k_all, w ∈ k_ws m := fun w h => List.mem_cons_of_mem _ h
theorem k_cd {m : Nat} {args : Array Value} {s : State} (hw : ∀ w ∈ k_ws m, w.before args s = true) : x_cd (k_y m) (k_by m) (k_t m).2.2.1 (k_t m).2.2.2.1 (k_ex m) s := by
  have h := hw (k_cwd m) List.mem_cons_self
  unfold k_cwd at h
  split at h
  · rename_i h1; rw [h1]; exact x_cd_code h
  · exact x_cd_with h
theorem k_jini1 : ∀ j, j < k_nj → Jvm.Cond.initialized (k_y j).cls ∈ k_cw := by decide +kernel
theorem k_jini {j : Nat} (h : j < k_nj) : Jvm.Cond.initialized (k_y j).cls ∈ k_all := k_in_cw (k_jini1 j h)
theorem k_jstat {j : Nat} (h : j < k_nj) (hk : k_kd j = 1) : Jvm.Cond.static (k_y j) ∈ k_all := k_in_ms (List.mem_map.mpr ⟨j, List.mem_filter.mpr ⟨List.mem_range.mpr h, by rw [hk]; rfl⟩, rfl⟩)
theorem k_jinst {j : Nat} (h : j < k_nj) (hk : k_kd j ≠ 1) : Jvm.Cond.instanceMethod (k_y j) ∈ k_all := k_in_mi (List.mem_map.mpr ⟨j, List.mem_filter.mpr ⟨List.mem_range.mpr h, by simpa using hk⟩, rfl⟩)
theorem k_jsel {j : Nat} (h : j < k_nj) (hk : k_kd j = 0) : Jvm.Cond.selects (k_y j).cls (k_y j) (k_y j) ∈ k_all := k_in_me (List.mem_map.mpr ⟨j, List.mem_filter.mpr ⟨List.mem_range.mpr h, by rw [hk]; rfl⟩, rfl⟩)
theorem k_jvirt1 : ∀ j, j < k_nj → k_kd j = 0 → k_rc j < k_no ∧ k_cn (k_rc j) = (k_y j).cls := by decide +kernel
theorem k_jvirt {j : Nat} (h : j < k_nj) (hk : k_kd j = 0) : Jvm.Cond.instanceMethod (k_y j) ∈ k_all ∧ Jvm.Cond.selects (k_y j).cls (k_y j) (k_y j) ∈ k_all ∧ k_rc j < k_no ∧ k_cn (k_rc j) = (k_y j).cls := ⟨k_jinst h (by rw [hk]; decide), k_jsel h hk, (k_jvirt1 j h hk).1, (k_jvirt1 j h hk).2⟩
theorem k_jspec1 : ∀ j, j < k_nj → k_kd j = 2 → (k_y j).name = "<init>" ∧ k_ex j = [] ∧ (k_t j).2.2.2.1 = none := by decide +kernel
theorem k_jspec {j : Nat} (h : j < k_nj) (hk : k_kd j = 2) : (k_y j).name = "<init>" ∧ Jvm.Cond.instanceMethod (k_y j) ∈ k_all ∧ Jvm.Cond.code (k_y j) (k_by j) (k_t j).2.2.1 none ∈ k_all := by
  obtain ⟨h1, h2, h3⟩ := k_jspec1 j h hk
  refine ⟨h1, k_jinst h (by rw [hk]; decide), k_in_mw (List.mem_map.mpr ⟨j, List.mem_range.mpr h, ?_⟩)⟩
  unfold k_cwd
  rw [h2, h3]
theorem k_jpn1 : ∀ j, j < k_nj → (parseMethodDescriptor (k_y j).desc).map (fun d => d.parameters.length) = some (k_pn j) := by decide +kernel
theorem k_jpn {j : Nat} (h : j < k_nj) {sig : MethodDescriptor} (hs : parseMethodDescriptor (k_y j).desc = some sig) : k_pn j = sig.parameters.length := by
  have h1 := k_jpn1 j h
  rw [hs] at h1
  exact (Option.some.inj h1).symm
def k_rt (m : Nat) : Bool := (k_t m).2.1.all (fun x => match x.2.1 with
  | .lreturn => decide ((k_t m).2.2.2.1 = some .long)
  | .areturn => match (k_t m).2.2.2.1 with
    | some (.object _) => true
    | _ => false
  | .return_ => decide ((k_t m).2.2.2.1 = none)
  | _ => true)
theorem k_rt1 : ∀ m, m < k_nm → k_rt m = true := by decide +kernel
theorem k_retl {m pc len a1 a2 pl : Nat} (h : m < k_nm) (hx : (pc, Instr.lreturn, len, a1, a2, pl) ∈ (k_t m).2.1) : (k_t m).2.2.2.1 = some .long := by
  have h1 := List.all_eq_true.mp (k_rt1 m h) _ hx
  simpa using h1
theorem k_retv {m pc len a1 a2 pl : Nat} (h : m < k_nm) (hx : (pc, Instr.return_, len, a1, a2, pl) ∈ (k_t m).2.1) : (k_t m).2.2.2.1 = none := by
  have h1 := List.all_eq_true.mp (k_rt1 m h) _ hx
  simpa using h1
theorem k_reta {m pc len a1 a2 pl : Nat} (h : m < k_nm) (hx : (pc, Instr.areturn, len, a1, a2, pl) ∈ (k_t m).2.1) : ∃ n, (k_t m).2.2.2.1 = some (.object n) := by
  have h1 := List.all_eq_true.mp (k_rt1 m h) _ hx
  simp only at h1
  split at h1
  · rename_i n hn; exact ⟨n, hn⟩
  · cases h1
theorem k_oi1 : Jvm.Cond.instanceMethod Lib.objectInit ∈ k_all := k_in_jw (List.mem_cons_self)
theorem k_oi2 : Jvm.Cond.code Lib.objectInit ⟨#[0xb1]⟩ 1 none ∈ k_all := k_in_jw (List.mem_cons_of_mem _ List.mem_cons_self)
theorem k_mm1 : Jvm.Cond.static Lib.Math.max.name ∈ k_all := k_in_jw (List.mem_cons_of_mem _ (List.mem_cons_of_mem _ List.mem_cons_self))
theorem k_mm2 : Jvm.Cond.initialized "java/lang/Math" ∈ k_all := k_in_jw (List.mem_cons_of_mem _ (List.mem_cons_of_mem _ (List.mem_cons_of_mem _ List.mem_cons_self)))
theorem k_mm3 : Jvm.Cond.code Lib.Math.max.name Lib.Math.max.code 2 (some .int) ∈ k_all := k_in_jw (List.mem_cons_of_mem _ (List.mem_cons_of_mem _ (List.mem_cons_of_mem _ (List.mem_cons_of_mem _ List.mem_cons_self))))
