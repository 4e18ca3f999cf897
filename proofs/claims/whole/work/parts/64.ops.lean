section Ops
variable {xs : Nat → Int32} {Ln : Nat}
theorem op_24 : ∀ a0 a1, lw_ok xs Ln g_Rel 25 159 [.int a0, .int a1] := by
  intro a0 a1 m σ hR hm
  obtain ⟨I, J, Z, w, rem, p, q, n, rfl, hP, hV⟩ := hR
  by_cases c0 : l_rg a0 0 6 = false
  · exact lw_bad (b_25_0 a0 a1 c0) (b_159_0 a0 a1 c0) rfl hP hV
  replace c0 := eq_true_of_ne_false c0
  obtain ⟨u, hu, rfl⟩ := l_of c0
  obtain ⟨e0, e1, e2, e3, e4, e5, e6, -⟩ := hV.R.unit u hu
  refine lw_bad (d_25 u a1 hu) (d_159 u a1 hu) ?_ hP hV
  unfold v_159 v_25 v_58
  rw [e0, e1, e2, e3, e4, e6]
theorem op_1 : ∀ a0 a1, lw_ok xs Ln g_Rel 2 112 [.int a0, .int a1] := by
  intro a0 a1 m σ hR hm
  obtain ⟨I, J, Z, w, rem, p, q, n, rfl, hP, hV⟩ := hR
  by_cases c0 : l_rg a0 0 12 = false
  · exact lw_bad (b_2_0 a0 a1 c0) (b_112_0 a0 a1 c0) rfl hP hV
  replace c0 := eq_true_of_ne_false c0
  obtain ⟨j, hj, rfl⟩ := l_of c0
  by_cases c1 : l_rg a1 0 4 = false
  · exact lw_bad (b_2_1 j a1 hj c1) (b_112_1 j a1 hj c1) rfl hP hV
  replace c1 := eq_true_of_ne_false c1
  obtain ⟨d, hd, rfl⟩ := l_of c1
  refine lw_fin (n := n) (d_2 j d hj hd) (d_112 j d hj hd) rfl hP (g_V.mono (g_V.dist (g_V.thr ?_ 0) hj (l_inN hd (by decide)))) (fun a k h => ?_) (fun _ _ _ => rfl) (fun _ _ _ => rfl)
  · exact hV.cls (fun a k h => by unfold i_2; simp (disch := omega) only [s_upf]) (fun _ _ _ => rfl) (fun _ _ _ => rfl)
  · unfold i_112; simp (disch := omega) only [s_upf]
theorem op_6 : ∀ a0 a1, lw_ok xs Ln g_Rel 7 137 [.int a0, .int a1] := by
  intro a0 a1 m σ hR hm
  obtain ⟨I, J, Z, w, rem, p, q, n, rfl, hP, hV⟩ := hR
  by_cases c0 : l_rg a0 0 2 = false
  · exact lw_bad (b_7_0 a0 a1 c0) (b_137_0 a0 a1 c0) rfl hP hV
  replace c0 := eq_true_of_ne_false c0
  obtain ⟨r, hr, rfl⟩ := l_of c0
  by_cases c1 : l_rg a1 49 52 = false
  · exact lw_bad (b_7_1 r a1 hr c1) (b_137_1 r a1 hr c1) rfl hP hV
  replace c1 := eq_true_of_ne_false c1
  obtain ⟨v, hv, rfl⟩ := l_of2 c1
  refine lw_fin (n := n) (d_7 r v hr hv) (d_137 r v hr hv) rfl hP (g_V.mono (g_V.spd (g_V.thr ?_ 0) hr)) (fun a k h => ?_) (fun _ _ _ => rfl) (fun _ _ _ => rfl)
  · exact hV.cls (fun a k h => by unfold i_7; simp (disch := omega) only [s_upf]) (fun _ _ _ => rfl) (fun _ _ _ => rfl)
  · unfold i_137; simp (disch := omega) only [s_upf]
end Ops
