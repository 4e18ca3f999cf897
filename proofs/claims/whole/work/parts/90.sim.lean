section Sim
variable {xs : Nat → Int32} {Ln : Nat}
theorem g_let_k0 {m a i : Nat} {I I' : Nat → Nat → Int32} {J J' : Nat → Nat → Int64} {Z : Nat → Nat → Bool} (h : g_let m I J Z I' J' a i) (hk : I' 242 i = 0) : l_in (I' 243 i) 2 = true ∧ I' 244 i = 2 ∧ l_in (I' 245 i) 4 = true ∧ J a 6 = J' 255 i := by
  obtain ⟨-, h⟩ := h
  rcases h with h | h | h | h | h | h | h | h
  · exact h.2
  · exact absurd (hk.symm.trans h.1) (by decide)
  · exact absurd (hk.symm.trans h.1) (by decide)
  · exact absurd (hk.symm.trans h.1) (by decide)
  · exact absurd (hk.symm.trans h.1) (by decide)
  · exact absurd (hk.symm.trans h.1) (by decide)
  · exact absurd (hk.symm.trans h.1) (by decide)
  · exact absurd (hk.symm.trans h.1) (by decide)
theorem g_let_k1 {m a i : Nat} {I I' : Nat → Nat → Int32} {J J' : Nat → Nat → Int64} {Z : Nat → Nat → Bool} (h : g_let m I J Z I' J' a i) (hk : I' 242 i = 1) : I' 243 i = 2 ∧ l_in (I' 244 i) 2 = true ∧ l_in (I' 245 i) 4 = true ∧ l_in (I' 246 i) (m + 1) = true ∧ J a 6 = J' 255 i := by
  obtain ⟨-, h⟩ := h
  rcases h with h | h | h | h | h | h | h | h
  · exact absurd (hk.symm.trans h.1) (by decide)
  · exact h.2
  · exact absurd (hk.symm.trans h.1) (by decide)
  · exact absurd (hk.symm.trans h.1) (by decide)
  · exact absurd (hk.symm.trans h.1) (by decide)
  · exact absurd (hk.symm.trans h.1) (by decide)
  · exact absurd (hk.symm.trans h.1) (by decide)
  · exact absurd (hk.symm.trans h.1) (by decide)
theorem g_let_k2 {m a i : Nat} {I I' : Nat → Nat → Int32} {J J' : Nat → Nat → Int64} {Z : Nat → Nat → Bool} (h : g_let m I J Z I' J' a i) (hk : I' 242 i = 2) : l_in (I' 243 i) 3 = true ∧ l_in (I' 244 i) 2 = true ∧ g_lrec I Z I' a i := by
  obtain ⟨-, h⟩ := h
  rcases h with h | h | h | h | h | h | h | h
  · exact absurd (hk.symm.trans h.1) (by decide)
  · exact absurd (hk.symm.trans h.1) (by decide)
  · exact h.2
  · exact absurd (hk.symm.trans h.1) (by decide)
  · exact absurd (hk.symm.trans h.1) (by decide)
  · exact absurd (hk.symm.trans h.1) (by decide)
  · exact absurd (hk.symm.trans h.1) (by decide)
  · exact absurd (hk.symm.trans h.1) (by decide)
theorem g_let_k3 {m a i : Nat} {I I' : Nat → Nat → Int32} {J J' : Nat → Nat → Int64} {Z : Nat → Nat → Bool} (h : g_let m I J Z I' J' a i) (hk : I' 242 i = 3) : l_in (I' 244 i) 2 = true ∧ l_in (I' 245 i) 16 = true ∧ I a 5 = I' 247 i := by
  obtain ⟨-, h⟩ := h
  rcases h with h | h | h | h | h | h | h | h
  · exact absurd (hk.symm.trans h.1) (by decide)
  · exact absurd (hk.symm.trans h.1) (by decide)
  · exact absurd (hk.symm.trans h.1) (by decide)
  · exact h.2
  · exact absurd (hk.symm.trans h.1) (by decide)
  · exact absurd (hk.symm.trans h.1) (by decide)
  · exact absurd (hk.symm.trans h.1) (by decide)
  · exact absurd (hk.symm.trans h.1) (by decide)
theorem g_let_k4 {m a i : Nat} {I I' : Nat → Nat → Int32} {J J' : Nat → Nat → Int64} {Z : Nat → Nat → Bool} (h : g_let m I J Z I' J' a i) (hk : I' 242 i = 4) : l_in (I' 243 i) 2 = true ∧ I' 244 i = 2 ∧ g_lrec I Z I' a i := by
  obtain ⟨-, h⟩ := h
  rcases h with h | h | h | h | h | h | h | h
  · exact absurd (hk.symm.trans h.1) (by decide)
  · exact absurd (hk.symm.trans h.1) (by decide)
  · exact absurd (hk.symm.trans h.1) (by decide)
  · exact absurd (hk.symm.trans h.1) (by decide)
  · exact h.2
  · exact absurd (hk.symm.trans h.1) (by decide)
  · exact absurd (hk.symm.trans h.1) (by decide)
  · exact absurd (hk.symm.trans h.1) (by decide)
theorem g_let_k5 {m a i : Nat} {I I' : Nat → Nat → Int32} {J J' : Nat → Nat → Int64} {Z : Nat → Nat → Bool} (h : g_let m I J Z I' J' a i) (hk : I' 242 i = 5) : (∃ u, u < 6 ∧ I' 244 i = Int32.ofNat (3 + u)) ∧ l_in (I' 245 i) 16 = true ∧ I a 7 = I' 248 i ∧ l_in (I' 248 i) 12 = true := by
  obtain ⟨-, h⟩ := h
  rcases h with h | h | h | h | h | h | h | h
  · exact absurd (hk.symm.trans h.1) (by decide)
  · exact absurd (hk.symm.trans h.1) (by decide)
  · exact absurd (hk.symm.trans h.1) (by decide)
  · exact absurd (hk.symm.trans h.1) (by decide)
  · exact absurd (hk.symm.trans h.1) (by decide)
  · exact h.2
  · exact absurd (hk.symm.trans h.1) (by decide)
  · exact absurd (hk.symm.trans h.1) (by decide)
theorem g_let_k6 {m a i : Nat} {I I' : Nat → Nat → Int32} {J J' : Nat → Nat → Int64} {Z : Nat → Nat → Bool} (h : g_let m I J Z I' J' a i) (hk : I' 242 i = 6) : l_in (I' 244 i) 2 = true ∧ l_in (I' 245 i) 6 = true ∧ I a 8 = I' 252 i ∧ I a 7 = I' 248 i ∧ I a 9 = I' 253 i ∧ l_in (I' 252 i) 4 = true ∧ l_in (I' 248 i) 12 = true := by
  obtain ⟨-, h⟩ := h
  rcases h with h | h | h | h | h | h | h | h
  · exact absurd (hk.symm.trans h.1) (by decide)
  · exact absurd (hk.symm.trans h.1) (by decide)
  · exact absurd (hk.symm.trans h.1) (by decide)
  · exact absurd (hk.symm.trans h.1) (by decide)
  · exact absurd (hk.symm.trans h.1) (by decide)
  · exact absurd (hk.symm.trans h.1) (by decide)
  · exact h.2
  · exact absurd (hk.symm.trans h.1) (by decide)
theorem g_let_k7 {m a i : Nat} {I I' : Nat → Nat → Int32} {J J' : Nat → Nat → Int64} {Z : Nat → Nat → Bool} (h : g_let m I J Z I' J' a i) (hk : I' 242 i = 7) : l_in (I' 243 i) 2 = true ∧ l_in (I' 244 i) 2 = true := by
  obtain ⟨-, h⟩ := h
  rcases h with h | h | h | h | h | h | h | h
  · exact absurd (hk.symm.trans h.1) (by decide)
  · exact absurd (hk.symm.trans h.1) (by decide)
  · exact absurd (hk.symm.trans h.1) (by decide)
  · exact absurd (hk.symm.trans h.1) (by decide)
  · exact absurd (hk.symm.trans h.1) (by decide)
  · exact absurd (hk.symm.trans h.1) (by decide)
  · exact absurd (hk.symm.trans h.1) (by decide)
  · exact h.2
theorem q118_48 {I : Nat → Nat → Int32} {J : Nat → Nat → Int64} {Z : Nat → Nat → Bool} {f c n a k : Nat} {x t : Int32} (hn : n ≤ 48) (h : 48 ≤ k) (h2 : ¬ (a = 199 ∧ k = 44)) : i_118 I J Z x f t c n a k = I a k := by
  unfold i_118
  split
  · unfold i_118a; simp (disch := omega) only [s_upk]; exact p117_e (Or.inr (Or.inr (by omega))) h2
  · rfl
theorem q45_e {I : Nat → Nat → Int32} {J : Nat → Nat → Int64} {Z : Nat → Nat → Bool} {x f t c : Int32} {b n : Nat} {p : Nat → Nat} (hpn : p n < 50) {a k : Nat} (h : 199 ≤ a) : i_45 I J Z x f t b c n p a k = I a k := by
  unfold i_45 i_64; simp (disch := omega) only [s_upf]; exact p72_e (by omega) (by omega)
theorem q45_z {I : Nat → Nat → Int32} {J : Nat → Nat → Int64} {Z : Nat → Nat → Bool} {x f t c : Int32} {b n : Nat} {p : Nat → Nat} (hpn : p n < 50) {a k : Nat} (h : 199 ≤ a) : z_45 I J Z x f t b c n p a k = Z a k := by
  unfold z_45 z_64; exact s_upa (by omega)
theorem q118_5 {I : Nat → Nat → Int32} {J : Nat → Nat → Int64} {Z : Nat → Nat → Bool} {f c n a k : Nat} {x t : Int32} (h : a < 199) : i_118 I J Z x f t c n a k = I a k := q118_e (by omega) (by omega)
theorem sim52 {m : Nat} {p w : Nat → Nat} {rem : Nat} {J : Nat → Nat → Int64} (hpl : ∀ i, i < 49 → p i < 50) (hw : ∀ i, i < 49 → w i = 35 + 2 * p i) (inj : ∀ k k', k < 49 → k' < 49 → p k = p k' → k = k') {r : Nat} {t : Int32} (hr : r < 2) (ht : l_in t 2 = true) : ∀ (f k : Nat), k + f = 16 → ∀ (I : Nat → Nat → Int32) (Z : Nat → Nat → Bool) (n : Nat), n ≤ 48 → I 33 1 = Int32.ofNat n →
    ∃ (I1 : Nat → Nat → Int32) (Z1 : Nat → Nat → Bool) (n1 : Nat), (∀ Q : i_O → s_S → Prop, w_R xs Ln 52 (45, [(3, .int (Int32.ofNat 16)), (0, .ref 1), (1, .int (Int32.ofNat r)), (2, .int t)], [], (I1, J, kR w rem, Z1), 0, 0) Q → w_R xs Ln 52 (2, [(3, .int (Int32.ofNat k)), (0, .ref 1), (1, .int (Int32.ofNat r)), (2, .int t)], [], (I, J, kR w rem, Z), 0, 0) Q) ∧ (∀ a k, 199 ≤ a → I1 a k = I a k) ∧ (∀ a k, 199 ≤ a → Z1 a k = Z a k) ∧
      (∀ (I' : Nat → Nat → Int32) (J' : Nat → Nat → Int64) (Z' : Nat → Nat → Bool) (w' : Nat → Nat) (rem' : Nat), g_V m n p I J Z I' J' Z' → I' 243 48 = t → ∃ I1' : Nat → Nat → Int32, (∀ Q : i_O → s_S → Prop, w_R xs Ln 128 (184, [(2, .int (Int32.ofNat 16)), (0, .ref 199), (1, .int (Int32.ofNat r))], [], (I1', J', kR w' rem', Z'), 0, 0) Q → w_R xs Ln 128 (144, [(2, .int (Int32.ofNat k)), (0, .ref 199), (1, .int (Int32.ofNat r))], [], (I', J', kR w' rem', Z'), 0, 0) Q) ∧ g_V m n1 p I1 J Z1 I1' J' Z' ∧ (∀ a q, a < 242 → ¬ (a = 199 ∧ q = 44) → I1' a q = I' a q)) := by
  intro f
  induction f with
  | zero =>
    intro k hk I Z n hn hc
    have e : k = 16 := by omega
    subst e
    exact ⟨I, Z, n, fun Q h => s52X r t hr Q h, fun _ _ _ => rfl, fun _ _ _ => rfl, fun I' J' Z' w' rem' hV ht' => ⟨I', fun Q h => s128X r hr Q h, hV, fun _ _ _ _ => rfl⟩⟩
  | succ f ih =>
    intro k hk I Z n hn hc
    have hk16 : k < 16 := by omega
    have hpn := hpl n (by omega)
    by_cases hz : Z (148 + 29 * r + k) 0 = true
    · obtain ⟨I1, Z1, n1, h1, h2, h3, h4⟩ := ih (k + 1) (by omega) (i_45 I J Z 2 (Int32.ofNat r) t (148 + 29 * r + k) (Int32.ofNat k) n p) (z_45 I J Z 2 (Int32.ofNat r) t (148 + 29 * r + k) (Int32.ofNat k) n p) (g_s n) (g_s_le hn) (q45_c hc)
      refine ⟨I1, Z1, n1, fun Q hQ => s52T r t k n p hr hk16 hn hc hpl hw hz Q (h1 Q hQ), fun a q h => (h2 a q h).trans (q45_e hpn h), fun a q h => (h3 a q h).trans (q45_z hpn h), fun I' J' Z' w' rem' hV ht' => ?_⟩
      have hk' : Z' 225 (16 * r + k) = true := (hV.R.recs r k hr hk16).1.symm.trans hz
      have hV2 := g_sendRec (k := 2) (t := t) hV (g_ne inj hn) (Or.inr (by omega)) (by omega) hk16 (hV.R.recs r k hr hk16) hk' (Or.inl ⟨rfl, ht⟩)
      obtain ⟨I1', g1, g2, g3⟩ := h4 _ J' Z' w' rem' hV2 ((q118_48 hn (by omega) (by omega)).trans ht')
      exact ⟨I1', fun Q hQ => s128T r k n t hr hk16 hn hV.c2 ht' hk' Q (g1 Q hQ), g2, fun a q h1 h2 => (g3 a q h1 h2).trans (q118_e h1 h2)⟩
    · replace hz := Bool.eq_false_iff.mpr hz
      obtain ⟨I1, Z1, n1, h1, h2, h3, h4⟩ := ih (k + 1) (by omega) I Z n hn hc
      refine ⟨I1, Z1, n1, fun Q hQ => s52F r t k n p hr hk16 hn hc hpl hw hz Q (h1 Q hQ), h2, h3, fun I' J' Z' w' rem' hV ht' => ?_⟩
      have hk' : Z' 225 (16 * r + k) = false := (hV.R.recs r k hr hk16).1.symm.trans hz
      obtain ⟨I1', g1, g2, g3⟩ := h4 _ J' Z' w' rem' hV ht'
      exact ⟨I1', fun Q hQ => s128F r k n t hr hk16 hn hV.c2 ht' hk' Q (g1 Q hQ), g2, g3⟩
theorem sim50 {m : Nat} {p w : Nat → Nat} {rem : Nat} {J : Nat → Nat → Int64} (hpl : ∀ i, i < 49 → p i < 50) (hw : ∀ i, i < 49 → w i = 35 + 2 * p i) (inj : ∀ k k', k < 49 → k' < 49 → p k = p k' → k = k') {b x5 d r : Nat} {x4 x3 : Int32} (hb : b < 50) (h5 : sh1[x5]? = some (.inl 2)) (hd : d < 4) (hr : r < 2) : ∀ (f k : Nat), k + f = 16 → ∀ (I : Nat → Nat → Int32) (Z : Nat → Nat → Bool) (n : Nat), n ≤ 48 → I 33 1 = Int32.ofNat n → (∀ q, q < 12 → l_in (I 3 q) 4 = true) → (∀ k, k < 16 → l_in (I (17 + k) 1) 12 = true) →
    ∃ (I1 : Nat → Nat → Int32) (Z1 : Nat → Nat → Bool) (n1 : Nat), (∀ Q : i_O → s_S → Prop, w_R xs Ln 50 (122, [(6, .int (Int32.ofNat 16)), (5, .ref x5), (4, .int x4), (3, .int (Int32.ofNat d)), (2, .int (Int32.ofNat r)), (0, .ref 1), (1, .ref (35 + 2 * b))], [], (I1, J, kR w rem, Z1), 0, 0) Q → w_R xs Ln 50 (61, [(6, .int (Int32.ofNat k)), (5, .ref x5), (4, .int x4), (3, .int (Int32.ofNat d)), (2, .int (Int32.ofNat r)), (0, .ref 1), (1, .ref (35 + 2 * b))], [], (I, J, kR w rem, Z), 0, 0) Q) ∧ (∀ a k, 199 ≤ a → I1 a k = I a k) ∧ (∀ a k, 199 ≤ a → Z1 a k = Z a k) ∧
      (∀ (I' : Nat → Nat → Int32) (J' : Nat → Nat → Int64) (Z' : Nat → Nat → Bool) (w' : Nat → Nat) (rem' : Nat), g_V m n p I J Z I' J' Z' →  ∃ I1' : Nat → Nat → Int32, (∀ Q : i_O → s_S → Prop, w_R xs Ln 123 (185, [(4, .int (Int32.ofNat 16)), (3, .int x3), (2, .int (Int32.ofNat r)), (1, .int (Int32.ofNat d)), (0, .ref 199)], [], (I1', J', kR w' rem', Z'), 0, 0) Q → w_R xs Ln 123 (130, [(4, .int (Int32.ofNat k)), (3, .int x3), (2, .int (Int32.ofNat r)), (1, .int (Int32.ofNat d)), (0, .ref 199)], [], (I', J', kR w' rem', Z'), 0, 0) Q) ∧ g_V m n1 p I1 J Z1 I1' J' Z' ∧ (∀ a q, a < 242 → ¬ (a = 199 ∧ q = 44) → I1' a q = I' a q)) := by
  intro f
  induction f with
  | zero =>
    intro k hk I Z n hn hc _ _
    have e : k = 16 := by omega
    subst e
    exact ⟨I, Z, n, fun Q h => s50X b x5 x4 d r Q h, fun _ _ _ => rfl, fun _ _ _ => rfl, fun I' J' Z' w' rem' hV => ⟨I', fun Q h => s123X d r x3 Q h, hV, fun _ _ _ _ => rfl⟩⟩
  | succ f ih =>
    intro k hk I Z n hn hc i3 i17
    have hk16 : k < 16 := by omega
    have hpn := hpl n (by omega)
    by_cases hz : Z (17 + k) 0 = true
    · obtain ⟨q, hq, hjq⟩ := l_of (i17 k hk16)
      obtain ⟨dd, hdd, hdq⟩ := l_of (i3 q hq)
      by_cases hs : dd = d
      · obtain ⟨I1, Z1, n1, h1, h2, h3, h4⟩ := ih (k + 1) (by omega) (i_45 I J Z 2 2 (Int32.ofNat r) (17 + k) (Int32.ofNat k) n p) (z_45 I J Z 2 2 (Int32.ofNat r) (17 + k) (Int32.ofNat k) n p) (g_s n) (g_s_le hn) (q45_c hc) (fun q hq => by
          have : i_45 I J Z 2 2 (Int32.ofNat r) (17 + k) (Int32.ofNat k) n p 3 q = I 3 q := by unfold i_45 i_64; simp (disch := omega) only [s_upf]; exact p72_e (by omega) (by omega)
          rw [this]; exact i3 q hq) (fun j hj => by
          have : i_45 I J Z 2 2 (Int32.ofNat r) (17 + k) (Int32.ofNat k) n p (17 + j) 1 = I (17 + j) 1 := by unfold i_45 i_64; simp (disch := omega) only [s_upf]; exact p72_e (by omega) (by omega)
          rw [this]; exact i17 j hj)
        refine ⟨I1, Z1, n1, fun Q hQ => s50T b x5 x4 d r k n p q dd hb hd hr hk16 hn hc hpl hw hq hdd hjq hdq hz hs Q (h1 Q hQ), fun a q h => (h2 a q h).trans (q45_e hpn h), fun a q h => (h3 a q h).trans (q45_z hpn h), fun I' J' Z' w' rem' hV => ?_⟩
        have hk' : Z' 225 (32 + k) = true := (hV.R.rrecs k hk16).1.symm.trans hz
        have hV2 := g_sendRec (f := 2) (k := 2) (t := Int32.ofNat r) hV (g_ne inj hn) (a := 17 + k) (c := k) (Or.inl (by omega)) (by omega) hk16 (hV.R.rrecs k hk16) hk' (Or.inl ⟨rfl, l_inN hr (by decide)⟩)
        obtain ⟨I1', g1, g2, g3⟩ := h4 _ J' Z' w' rem' hV2
        exact ⟨I1', fun Q hQ => s123T d r x3 k n q dd hd hr hk16 hn hV.c2 hq hdd ((hV.R.rrecs k hk16).2.1.symm.trans hjq) ((hV.R.dist q hq).1.symm.trans hdq) hk' hs Q (g1 Q hQ), g2, fun a q h1 h2 => (g3 a q h1 h2).trans (q118_e h1 h2)⟩
      · obtain ⟨I1, Z1, n1, h1, h2, h3, h4⟩ := ih (k + 1) (by omega) I Z n hn hc i3 i17
        refine ⟨I1, Z1, n1, fun Q hQ => s50G b x5 x4 d r k n p q dd hb hd hr hk16 hn hc hpl hw hq hdd hjq hdq hz hs Q (h1 Q hQ), h2, h3, fun I' J' Z' w' rem' hV => ?_⟩
        have hk' : Z' 225 (32 + k) = true := (hV.R.rrecs k hk16).1.symm.trans hz
        obtain ⟨I1', g1, g2, g3⟩ := h4 _ J' Z' w' rem' hV
        exact ⟨I1', fun Q hQ => s123G d r x3 k n q dd hd hr hk16 hn hV.c2 hq hdd ((hV.R.rrecs k hk16).2.1.symm.trans hjq) ((hV.R.dist q hq).1.symm.trans hdq) hk' hs Q (g1 Q hQ), g2, g3⟩
    · replace hz := Bool.eq_false_iff.mpr hz
      obtain ⟨I1, Z1, n1, h1, h2, h3, h4⟩ := ih (k + 1) (by omega) I Z n hn hc i3 i17
      refine ⟨I1, Z1, n1, fun Q hQ => s50F b x5 x4 d r k n p hb hd hr hk16 hn hc hpl hw hz Q (h1 Q hQ), h2, h3, fun I' J' Z' w' rem' hV => ?_⟩
      have hk' : Z' 225 (32 + k) = false := (hV.R.rrecs k hk16).1.symm.trans hz
      obtain ⟨I1', g1, g2, g3⟩ := h4 _ J' Z' w' rem' hV
      exact ⟨I1', fun Q hQ => s123F d r x3 k n hd hr hk16 hn hV.c2 hk' Q (g1 Q hQ), g2, g3⟩
end Sim
