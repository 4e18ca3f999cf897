/-! Each row of each method's code, checked by the kernel; printed by wip/gen/codes.py. -/
def k_chk (m : Nat) (l : List i_X) : Bool := l.all (fun x => decide (decode (k_by m) x.1 = .ok (x.2.1, x.2.2.1)) && i_okb m x.1 x.2.1 x.2.2.1 x.2.2.2.1 x.2.2.2.2.1 x.2.2.2.2.2)
theorem k_chk_app {m : Nat} {l : List i_X} (n : Nat) (h1 : k_chk m (l.take n) = true) (h2 : k_chk m (l.drop n) = true) : k_chk m l = true := by
  rw [← List.take_append_drop n l]
  unfold k_chk at *
  rw [List.all_append, h1, h2]
  rfl
theorem ok_0 : k_chk 0 c_0 = true := by decide +kernel
theorem ok_1 : k_chk 1 c_1 = true := by decide +kernel
theorem ok_2 : k_chk 2 c_2 = true := by decide +kernel
theorem ok_3 : k_chk 3 c_3 = true := by decide +kernel
theorem ok_4 : k_chk 4 c_4 = true := by decide +kernel
theorem ok_5 : k_chk 5 c_5 = true := by decide +kernel
theorem ok_6 : k_chk 6 c_6 = true := by decide +kernel
theorem ok_7 : k_chk 7 c_7 = true := by decide +kernel
theorem ok_8 : k_chk 8 c_8 = true := by decide +kernel
theorem ok_9 : k_chk 9 c_9 = true := by decide +kernel
theorem ok_10 : k_chk 10 c_10 = true := by decide +kernel
theorem ok_11 : k_chk 11 c_11 = true := by decide +kernel
theorem ok_12 : k_chk 12 c_12 = true := by decide +kernel
theorem ok_13 : k_chk 13 c_13 = true := by decide +kernel
theorem ok_14 : k_chk 14 c_14 = true := by decide +kernel
theorem ok_15 : k_chk 15 c_15 = true := by decide +kernel
theorem ok_16 : k_chk 16 c_16 = true := by decide +kernel
theorem ok_17 : k_chk 17 c_17 = true := by decide +kernel
theorem ok_18 : k_chk 18 c_18 = true := by decide +kernel
theorem ok_19 : k_chk 19 c_19 = true := by decide +kernel
theorem ok_20 : k_chk 20 c_20 = true := by decide +kernel
theorem ok_21 : k_chk 21 c_21 = true := by decide +kernel
theorem ok_22 : k_chk 22 c_22 = true := by decide +kernel
theorem ok_23 : k_chk 23 c_23 = true := by decide +kernel
theorem ok_24 : k_chk 24 c_24 = true := by decide +kernel
theorem ok_25 : k_chk 25 c_25 = true := by decide +kernel
theorem ok_26 : k_chk 26 c_26 = true := by decide +kernel
theorem ok_27 : k_chk 27 c_27 = true := by decide +kernel
theorem ok_28 : k_chk 28 c_28 = true := by decide +kernel
theorem ok_29 : k_chk 29 c_29 = true := by decide +kernel
theorem ok_30 : k_chk 30 c_30 = true := by decide +kernel
theorem ok_31 : k_chk 31 c_31 = true := by decide +kernel
theorem ok_32 : k_chk 32 c_32 = true := by decide +kernel
theorem ok_33 : k_chk 33 c_33 = true := by decide +kernel
theorem ok_34 : k_chk 34 c_34 = true := by decide +kernel
theorem ok_35 : k_chk 35 c_35 = true := by decide +kernel
theorem ok_36 : k_chk 36 c_36 = true := by decide +kernel
theorem ok_37 : k_chk 37 c_37 = true := by decide +kernel
theorem ok_38 : k_chk 38 c_38 = true := by decide +kernel
theorem ok_39 : k_chk 39 c_39 = true := by decide +kernel
theorem ok_40 : k_chk 40 c_40 = true := by decide +kernel
theorem ok_41 : k_chk 41 c_41 = true := by decide +kernel
theorem ok_42 : k_chk 42 c_42 = true := by decide +kernel
theorem ok_43 : k_chk 43 c_43 = true := by decide +kernel
theorem ok_44 : k_chk 44 c_44 = true := by decide +kernel
theorem ok_45 : k_chk 45 c_45 = true := by decide +kernel
theorem ok_46 : k_chk 46 c_46 = true := by decide +kernel
theorem ok_47 : k_chk 47 c_47 = true := by decide +kernel
theorem ok_48 : k_chk 48 c_48 = true := by decide +kernel
theorem ok_49 : k_chk 49 c_49 = true := by decide +kernel
theorem ok_50 : k_chk 50 c_50 = true := by decide +kernel
