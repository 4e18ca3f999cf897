/-! The law's loop, out of what each of its cases does. -/
section LawLoop
variable {xs : Nat → Int32} {Ln : Nat}
abbrev lw_L (m : Nat) : i_L := [(4, .int (Int32.ofNat (5 * m))), (3, .ref 256), (2, .ref 199), (1, .ref 1), (0, .retAddr 0)]
def lw_tg : List Nat := [160, 209, 246, 307, 332, 381, 418, 455, 510, 558, 595, 675, 771, 839, 887, 935, 948, 985, 1010, 1035, 1060, 1085, 1110, 1147, 1208, 1245, 1294]
/-- a case of the law keeps the relation and comes to the loop's end -/
def lw_case (xs : Nat → Int32) (Ln : Nat) (Rel : Nat → s_S → Prop) (pc : Nat) : Prop := ∀ (m : Nat) (σ : s_S) (ce sl : Nat) (Q : i_O → s_S → Prop), Rel m σ → 5 * m + 5 ≤ Ln → Ln ≤ 2560 → ce ≤ 256 + 2 * m → sl ≤ 3783 + 12 * m →
  (∀ (σ' : s_S) (ce' sl' : Nat), Rel (m + 1) σ' → ce' ≤ 256 + 2 * m + 2 → sl' ≤ 3783 + 12 * m + 12 → w_R xs Ln 169 (1343, lw_L m, [], σ', ce', sl') Q) → w_R xs Ln 169 (pc, lw_L m, [], σ, ce, sl) Q
theorem lw_len {n : Nat} (h : n ≤ 2560) : (Int32.ofNat n - 5).toInt = (n : Int) - 5 := by
  by_cases h5 : 5 ≤ n
  · rw [show (5 : Int32) = Int32.ofNat 5 from rfl, n_sub h5, n_int (by omega)]
    omega
  · have h1 : n = 0 ∨ n = 1 ∨ n = 2 ∨ n = 3 ∨ n = 4 := by omega
    rcases h1 with rfl | rfl | rfl | rfl | rfl <;> decide
set_option maxHeartbeats 4000000 in
theorem lw_one {Rel : Nat → s_S → Prop} (hmo : ∀ m σ, Rel m σ → Rel (m + 1) σ) (hL : Ln ≤ 2560) (hc : ∀ pc ∈ lw_tg, lw_case xs Ln Rel pc) (m : Nat) (σ : s_S) (ce sl : Nat) (Q : i_O → s_S → Prop) (hR : Rel m σ) (hm : 5 * m + 5 ≤ Ln) (hce : ce ≤ 256 + 2 * m) (hsl : sl ≤ 3783 + 12 * m)
    (hk : ∀ (σ' : s_S) (ce' sl' : Nat), Rel (m + 1) σ' → ce' ≤ 256 + 2 * m + 2 → sl' ≤ 3783 + 12 * m + 12 → w_R xs Ln 169 (1343, lw_L m, [], σ', ce', sl') Q) : w_R xs Ln 169 (32, lw_L m, [], σ, ce, sl) Q := by
  refine w_R.go (c' := (if (xs (Int32.ofNat (5 * m)).toNatClampNeg &&& 31).toInt < 0 ∨ 26 < (xs (Int32.ofNat (5 * m)).toNatClampNeg &&& 31).toInt then 1343 else i_tg 39 ((#[121, 170, 207, 268, 293, 342, 379, 416, 471, 519, 556, 636, 732, 800, 848, 896, 909, 946, 971, 996, 1021, 1046, 1071, 1108, 1169, 1206, 1255] : Array Int).getD ((xs (Int32.ofNat (5 * m)).toNatClampNeg &&& 31).toInt - 0).toNat 0), lw_L m, [], σ, ce, sl)) 6 ?_ (fun m_ x_ Q_ k_ => ⟨rfl, trivial, ⟨rfl, n_in (a := 5 * m) (by omega) (by omega)⟩, trivial, trivial, trivial, k_⟩)
  generalize (xs (Int32.ofNat (5 * m)).toNatClampNeg &&& 31) = X
  by_cases h0 : X = 0
  · rw [show (if X.toInt < 0 ∨ 26 < X.toInt then 1343 else i_tg 39 ((#[121, 170, 207, 268, 293, 342, 379, 416, 471, 519, 556, 636, 732, 800, 848, 896, 909, 946, 971, 996, 1021, 1046, 1071, 1108, 1169, 1206, 1255] : Array Int).getD (X.toInt - 0).toNat 0)) = 160 by rw [h0]; rfl]
    exact hc 160 (by decide) m σ ce sl Q hR hm hL hce hsl hk
  by_cases h1 : X = 1
  · rw [show (if X.toInt < 0 ∨ 26 < X.toInt then 1343 else i_tg 39 ((#[121, 170, 207, 268, 293, 342, 379, 416, 471, 519, 556, 636, 732, 800, 848, 896, 909, 946, 971, 996, 1021, 1046, 1071, 1108, 1169, 1206, 1255] : Array Int).getD (X.toInt - 0).toNat 0)) = 209 by rw [h1]; rfl]
    exact hc 209 (by decide) m σ ce sl Q hR hm hL hce hsl hk
  by_cases h2 : X = 2
  · rw [show (if X.toInt < 0 ∨ 26 < X.toInt then 1343 else i_tg 39 ((#[121, 170, 207, 268, 293, 342, 379, 416, 471, 519, 556, 636, 732, 800, 848, 896, 909, 946, 971, 996, 1021, 1046, 1071, 1108, 1169, 1206, 1255] : Array Int).getD (X.toInt - 0).toNat 0)) = 246 by rw [h2]; rfl]
    exact hc 246 (by decide) m σ ce sl Q hR hm hL hce hsl hk
  by_cases h3 : X = 3
  · rw [show (if X.toInt < 0 ∨ 26 < X.toInt then 1343 else i_tg 39 ((#[121, 170, 207, 268, 293, 342, 379, 416, 471, 519, 556, 636, 732, 800, 848, 896, 909, 946, 971, 996, 1021, 1046, 1071, 1108, 1169, 1206, 1255] : Array Int).getD (X.toInt - 0).toNat 0)) = 307 by rw [h3]; rfl]
    exact hc 307 (by decide) m σ ce sl Q hR hm hL hce hsl hk
  by_cases h4 : X = 4
  · rw [show (if X.toInt < 0 ∨ 26 < X.toInt then 1343 else i_tg 39 ((#[121, 170, 207, 268, 293, 342, 379, 416, 471, 519, 556, 636, 732, 800, 848, 896, 909, 946, 971, 996, 1021, 1046, 1071, 1108, 1169, 1206, 1255] : Array Int).getD (X.toInt - 0).toNat 0)) = 332 by rw [h4]; rfl]
    exact hc 332 (by decide) m σ ce sl Q hR hm hL hce hsl hk
  by_cases h5 : X = 5
  · rw [show (if X.toInt < 0 ∨ 26 < X.toInt then 1343 else i_tg 39 ((#[121, 170, 207, 268, 293, 342, 379, 416, 471, 519, 556, 636, 732, 800, 848, 896, 909, 946, 971, 996, 1021, 1046, 1071, 1108, 1169, 1206, 1255] : Array Int).getD (X.toInt - 0).toNat 0)) = 381 by rw [h5]; rfl]
    exact hc 381 (by decide) m σ ce sl Q hR hm hL hce hsl hk
  by_cases h6 : X = 6
  · rw [show (if X.toInt < 0 ∨ 26 < X.toInt then 1343 else i_tg 39 ((#[121, 170, 207, 268, 293, 342, 379, 416, 471, 519, 556, 636, 732, 800, 848, 896, 909, 946, 971, 996, 1021, 1046, 1071, 1108, 1169, 1206, 1255] : Array Int).getD (X.toInt - 0).toNat 0)) = 418 by rw [h6]; rfl]
    exact hc 418 (by decide) m σ ce sl Q hR hm hL hce hsl hk
  by_cases h7 : X = 7
  · rw [show (if X.toInt < 0 ∨ 26 < X.toInt then 1343 else i_tg 39 ((#[121, 170, 207, 268, 293, 342, 379, 416, 471, 519, 556, 636, 732, 800, 848, 896, 909, 946, 971, 996, 1021, 1046, 1071, 1108, 1169, 1206, 1255] : Array Int).getD (X.toInt - 0).toNat 0)) = 455 by rw [h7]; rfl]
    exact hc 455 (by decide) m σ ce sl Q hR hm hL hce hsl hk
  by_cases h8 : X = 8
  · rw [show (if X.toInt < 0 ∨ 26 < X.toInt then 1343 else i_tg 39 ((#[121, 170, 207, 268, 293, 342, 379, 416, 471, 519, 556, 636, 732, 800, 848, 896, 909, 946, 971, 996, 1021, 1046, 1071, 1108, 1169, 1206, 1255] : Array Int).getD (X.toInt - 0).toNat 0)) = 510 by rw [h8]; rfl]
    exact hc 510 (by decide) m σ ce sl Q hR hm hL hce hsl hk
  by_cases h9 : X = 9
  · rw [show (if X.toInt < 0 ∨ 26 < X.toInt then 1343 else i_tg 39 ((#[121, 170, 207, 268, 293, 342, 379, 416, 471, 519, 556, 636, 732, 800, 848, 896, 909, 946, 971, 996, 1021, 1046, 1071, 1108, 1169, 1206, 1255] : Array Int).getD (X.toInt - 0).toNat 0)) = 558 by rw [h9]; rfl]
    exact hc 558 (by decide) m σ ce sl Q hR hm hL hce hsl hk
  by_cases h10 : X = 10
  · rw [show (if X.toInt < 0 ∨ 26 < X.toInt then 1343 else i_tg 39 ((#[121, 170, 207, 268, 293, 342, 379, 416, 471, 519, 556, 636, 732, 800, 848, 896, 909, 946, 971, 996, 1021, 1046, 1071, 1108, 1169, 1206, 1255] : Array Int).getD (X.toInt - 0).toNat 0)) = 595 by rw [h10]; rfl]
    exact hc 595 (by decide) m σ ce sl Q hR hm hL hce hsl hk
  by_cases h11 : X = 11
  · rw [show (if X.toInt < 0 ∨ 26 < X.toInt then 1343 else i_tg 39 ((#[121, 170, 207, 268, 293, 342, 379, 416, 471, 519, 556, 636, 732, 800, 848, 896, 909, 946, 971, 996, 1021, 1046, 1071, 1108, 1169, 1206, 1255] : Array Int).getD (X.toInt - 0).toNat 0)) = 675 by rw [h11]; rfl]
    exact hc 675 (by decide) m σ ce sl Q hR hm hL hce hsl hk
  by_cases h12 : X = 12
  · rw [show (if X.toInt < 0 ∨ 26 < X.toInt then 1343 else i_tg 39 ((#[121, 170, 207, 268, 293, 342, 379, 416, 471, 519, 556, 636, 732, 800, 848, 896, 909, 946, 971, 996, 1021, 1046, 1071, 1108, 1169, 1206, 1255] : Array Int).getD (X.toInt - 0).toNat 0)) = 771 by rw [h12]; rfl]
    exact hc 771 (by decide) m σ ce sl Q hR hm hL hce hsl hk
  by_cases h13 : X = 13
  · rw [show (if X.toInt < 0 ∨ 26 < X.toInt then 1343 else i_tg 39 ((#[121, 170, 207, 268, 293, 342, 379, 416, 471, 519, 556, 636, 732, 800, 848, 896, 909, 946, 971, 996, 1021, 1046, 1071, 1108, 1169, 1206, 1255] : Array Int).getD (X.toInt - 0).toNat 0)) = 839 by rw [h13]; rfl]
    exact hc 839 (by decide) m σ ce sl Q hR hm hL hce hsl hk
  by_cases h14 : X = 14
  · rw [show (if X.toInt < 0 ∨ 26 < X.toInt then 1343 else i_tg 39 ((#[121, 170, 207, 268, 293, 342, 379, 416, 471, 519, 556, 636, 732, 800, 848, 896, 909, 946, 971, 996, 1021, 1046, 1071, 1108, 1169, 1206, 1255] : Array Int).getD (X.toInt - 0).toNat 0)) = 887 by rw [h14]; rfl]
    exact hc 887 (by decide) m σ ce sl Q hR hm hL hce hsl hk
  by_cases h15 : X = 15
  · rw [show (if X.toInt < 0 ∨ 26 < X.toInt then 1343 else i_tg 39 ((#[121, 170, 207, 268, 293, 342, 379, 416, 471, 519, 556, 636, 732, 800, 848, 896, 909, 946, 971, 996, 1021, 1046, 1071, 1108, 1169, 1206, 1255] : Array Int).getD (X.toInt - 0).toNat 0)) = 935 by rw [h15]; rfl]
    exact hc 935 (by decide) m σ ce sl Q hR hm hL hce hsl hk
  by_cases h16 : X = 16
  · rw [show (if X.toInt < 0 ∨ 26 < X.toInt then 1343 else i_tg 39 ((#[121, 170, 207, 268, 293, 342, 379, 416, 471, 519, 556, 636, 732, 800, 848, 896, 909, 946, 971, 996, 1021, 1046, 1071, 1108, 1169, 1206, 1255] : Array Int).getD (X.toInt - 0).toNat 0)) = 948 by rw [h16]; rfl]
    exact hc 948 (by decide) m σ ce sl Q hR hm hL hce hsl hk
  by_cases h17 : X = 17
  · rw [show (if X.toInt < 0 ∨ 26 < X.toInt then 1343 else i_tg 39 ((#[121, 170, 207, 268, 293, 342, 379, 416, 471, 519, 556, 636, 732, 800, 848, 896, 909, 946, 971, 996, 1021, 1046, 1071, 1108, 1169, 1206, 1255] : Array Int).getD (X.toInt - 0).toNat 0)) = 985 by rw [h17]; rfl]
    exact hc 985 (by decide) m σ ce sl Q hR hm hL hce hsl hk
  by_cases h18 : X = 18
  · rw [show (if X.toInt < 0 ∨ 26 < X.toInt then 1343 else i_tg 39 ((#[121, 170, 207, 268, 293, 342, 379, 416, 471, 519, 556, 636, 732, 800, 848, 896, 909, 946, 971, 996, 1021, 1046, 1071, 1108, 1169, 1206, 1255] : Array Int).getD (X.toInt - 0).toNat 0)) = 1010 by rw [h18]; rfl]
    exact hc 1010 (by decide) m σ ce sl Q hR hm hL hce hsl hk
  by_cases h19 : X = 19
  · rw [show (if X.toInt < 0 ∨ 26 < X.toInt then 1343 else i_tg 39 ((#[121, 170, 207, 268, 293, 342, 379, 416, 471, 519, 556, 636, 732, 800, 848, 896, 909, 946, 971, 996, 1021, 1046, 1071, 1108, 1169, 1206, 1255] : Array Int).getD (X.toInt - 0).toNat 0)) = 1035 by rw [h19]; rfl]
    exact hc 1035 (by decide) m σ ce sl Q hR hm hL hce hsl hk
  by_cases h20 : X = 20
  · rw [show (if X.toInt < 0 ∨ 26 < X.toInt then 1343 else i_tg 39 ((#[121, 170, 207, 268, 293, 342, 379, 416, 471, 519, 556, 636, 732, 800, 848, 896, 909, 946, 971, 996, 1021, 1046, 1071, 1108, 1169, 1206, 1255] : Array Int).getD (X.toInt - 0).toNat 0)) = 1060 by rw [h20]; rfl]
    exact hc 1060 (by decide) m σ ce sl Q hR hm hL hce hsl hk
  by_cases h21 : X = 21
  · rw [show (if X.toInt < 0 ∨ 26 < X.toInt then 1343 else i_tg 39 ((#[121, 170, 207, 268, 293, 342, 379, 416, 471, 519, 556, 636, 732, 800, 848, 896, 909, 946, 971, 996, 1021, 1046, 1071, 1108, 1169, 1206, 1255] : Array Int).getD (X.toInt - 0).toNat 0)) = 1085 by rw [h21]; rfl]
    exact hc 1085 (by decide) m σ ce sl Q hR hm hL hce hsl hk
  by_cases h22 : X = 22
  · rw [show (if X.toInt < 0 ∨ 26 < X.toInt then 1343 else i_tg 39 ((#[121, 170, 207, 268, 293, 342, 379, 416, 471, 519, 556, 636, 732, 800, 848, 896, 909, 946, 971, 996, 1021, 1046, 1071, 1108, 1169, 1206, 1255] : Array Int).getD (X.toInt - 0).toNat 0)) = 1110 by rw [h22]; rfl]
    exact hc 1110 (by decide) m σ ce sl Q hR hm hL hce hsl hk
  by_cases h23 : X = 23
  · rw [show (if X.toInt < 0 ∨ 26 < X.toInt then 1343 else i_tg 39 ((#[121, 170, 207, 268, 293, 342, 379, 416, 471, 519, 556, 636, 732, 800, 848, 896, 909, 946, 971, 996, 1021, 1046, 1071, 1108, 1169, 1206, 1255] : Array Int).getD (X.toInt - 0).toNat 0)) = 1147 by rw [h23]; rfl]
    exact hc 1147 (by decide) m σ ce sl Q hR hm hL hce hsl hk
  by_cases h24 : X = 24
  · rw [show (if X.toInt < 0 ∨ 26 < X.toInt then 1343 else i_tg 39 ((#[121, 170, 207, 268, 293, 342, 379, 416, 471, 519, 556, 636, 732, 800, 848, 896, 909, 946, 971, 996, 1021, 1046, 1071, 1108, 1169, 1206, 1255] : Array Int).getD (X.toInt - 0).toNat 0)) = 1208 by rw [h24]; rfl]
    exact hc 1208 (by decide) m σ ce sl Q hR hm hL hce hsl hk
  by_cases h25 : X = 25
  · rw [show (if X.toInt < 0 ∨ 26 < X.toInt then 1343 else i_tg 39 ((#[121, 170, 207, 268, 293, 342, 379, 416, 471, 519, 556, 636, 732, 800, 848, 896, 909, 946, 971, 996, 1021, 1046, 1071, 1108, 1169, 1206, 1255] : Array Int).getD (X.toInt - 0).toNat 0)) = 1245 by rw [h25]; rfl]
    exact hc 1245 (by decide) m σ ce sl Q hR hm hL hce hsl hk
  by_cases h26 : X = 26
  · rw [show (if X.toInt < 0 ∨ 26 < X.toInt then 1343 else i_tg 39 ((#[121, 170, 207, 268, 293, 342, 379, 416, 471, 519, 556, 636, 732, 800, 848, 896, 909, 946, 971, 996, 1021, 1046, 1071, 1108, 1169, 1206, 1255] : Array Int).getD (X.toInt - 0).toNat 0)) = 1294 by rw [h26]; rfl]
    exact hc 1294 (by decide) m σ ce sl Q hR hm hL hce hsl hk
  rw [if_pos (l_out (x := X) (a := 26) (n := 27) (by omega) rfl (by intro k hk; (rcases k with _ | _ | _ | _ | _ | _ | _ | _ | _ | _ | _ | _ | _ | _ | _ | _ | _ | _ | _ | _ | _ | _ | _ | _ | _ | _ | _ | k) <;> first | assumption | omega))]
  exact hk σ ce sl (hmo _ _ hR) (by omega) (by omega)
set_option maxRecDepth 20000 in
theorem lw_loop {Rel : Nat → s_S → Prop} (hmo : ∀ m σ, Rel m σ → Rel (m + 1) σ) (hL : Ln ≤ 2560) (hc : ∀ pc ∈ lw_tg, lw_case xs Ln Rel pc) : ∀ (f m : Nat) (σ : s_S) (ce sl : Nat), Ln + 5 ≤ 5 * (m + f) → 5 * m ≤ Ln + 4 → Rel m σ → ce ≤ 256 + 2 * m → sl ≤ 3783 + 12 * m →
    w_R xs Ln 169 (23, lw_L m, [], σ, ce, sl) (fun o _ => o = .inl (some (.int 1))) := by
  intro f
  induction f with
  | zero => intro m σ ce sl h1 h2; omega
  | succ f ih =>
    intro m σ ce sl h1 h2 hR hce hsl
    refine w_R.go (c' := (i_br .gt (Int32.ofNat (5 * m)) (Int32.ofNat Ln - 5) 1349 32, lw_L m, [], σ, ce, sl)) 6 ?_ (fun m_ x_ Q_ k_ => ⟨trivial, rfl, rfl, trivial, trivial, trivial, k_⟩)
    refine w_R.br_gt (fun h => ?_) (fun h => ?_)
    · exact w_R.ret 2 (.inl (some (.int 1))) σ rfl (fun x_ Q_ k_ => ⟨trivial, Or.inr rfl, ⟨show ce ≤ 601024 by omega, show sl ≤ 7293034 by omega⟩, k_⟩)
    · rw [Int32.lt_iff_toInt_lt, lw_len hL, n_int (by omega)] at h
      refine lw_one hmo hL hc m σ ce sl _ hR (by omega) hce hsl (fun σ' ce' sl' hR' hce' hsl' => ?_)
      refine w_R.go (c' := (23, [(4, .int (Int32.ofNat (5 * m) + Int32.ofNat 5)), (3, .ref 256), (2, .ref 199), (1, .ref 1), (0, .retAddr 0)], [], σ', ce', sl')) 2 ?_ (fun m_ x_ Q_ k_ => ⟨trivial, trivial, k_⟩)
      rw [n_add, show 5 * m + 5 = 5 * (m + 1) by omega]
      exact ih (m + 1) σ' ce' sl' (by omega) (by omega) hR' (by omega) (by omega)
theorem lw_run {Rel : Nat → s_S → Prop} (hmo : ∀ m σ, Rel m σ → Rel (m + 1) σ) (hL : Ln ≤ 2560) (hc : ∀ pc ∈ lw_tg, lw_case xs Ln Rel pc) (h0 : Rel 0 k_s1) : w_P xs Ln (k_t 169) (23, [(4, .int 0), (3, .ref 256), (2, .ref 199), (1, .ref 1), (0, .retAddr 0)], [], (sh1, 0, k_s1), 256, 3783) (fun o _ => o = .inl (some (.int 1))) := by
  have h := lw_loop hmo hL hc (Ln + 1) 0 k_s1 256 3783 (by omega) (by omega) h0 (Nat.le_refl _) (Nat.le_refl _) 0
  exact h.mono (fun o M ⟨x', σ, h1, h2⟩ => h2)
end LawLoop
