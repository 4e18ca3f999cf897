/-! What holds between the class's objects and the reference's arrays, before every step of the law. -/
def g_c (f : Nat → Int32) : Nat → Nat
  | 0 => 0
  | n + 1 => (if 0 < f n then 1 else 0) + g_c f n
section Rel
variable (m : Nat) (I : Nat → Nat → Int32) (J : Nat → Nat → Int64) (Z : Nat → Nat → Bool) (I' : Nat → Nat → Int32) (J' : Nat → Nat → Int64) (Z' : Nat → Nat → Bool)
def g_rec (a q : Nat) : Prop := Z a 0 = Z' 225 q ∧ I a 1 = I' 226 q ∧ I a 2 = I' 227 q ∧ I a 3 = I' 228 q ∧ I a 4 = I' 229 q ∧ I a 5 = I' 230 q ∧ I a 6 = I' 231 q ∧ I a 7 = I' 232 q ∧ I a 8 = I' 233 q ∧ I a 9 = I' 234 q
/-- the call c was taken -/
def g_tk (c : Int32) : Prop := l_in c 16 = true ∧ c.toNatClampNeg % 8 < (I' 224 (c.toNatClampNeg / 8)).toNatClampNeg
def g_lrec (a i : Nat) : Prop := g_tk I' (I' 245 i) ∧ Z (a + 1) 0 = true ∧ I (a + 1) 1 = I' 248 i ∧ I (a + 1) 2 = I' 249 i ∧ I (a + 1) 3 = I' 250 i ∧ I (a + 1) 4 = I' 251 i ∧ I (a + 1) 5 = I' 252 i ∧ I (a + 1) 6 = I' 253 i ∧ I (a + 1) 7 = I' 254 i ∧ I (a + 1) 8 = I' 246 i ∧ I (a + 1) 9 = I' 247 i ∧
  l_in (I' 248 i) 12 = true ∧ l_in (I' 250 i) 16 = true
/-- the letter a of the class is the reference's letter i -/
def g_let (a i : Nat) : Prop := (I a 0 = I' 242 i ∧ I a 1 = I' 243 i ∧ I a 2 = I' 244 i ∧ I a 3 = I' 245 i ∧ I a 4 = I' 246 i) ∧
  ((I' 242 i = 0 ∧ l_in (I' 243 i) 2 = true ∧ I' 244 i = 2 ∧ l_in (I' 245 i) 4 = true ∧ J a 6 = J' 255 i) ∨
   (I' 242 i = 1 ∧ I' 243 i = 2 ∧ l_in (I' 244 i) 2 = true ∧ l_in (I' 245 i) 4 = true ∧ l_in (I' 246 i) (m + 1) = true ∧ J a 6 = J' 255 i) ∨
   (I' 242 i = 2 ∧ l_in (I' 243 i) 3 = true ∧ l_in (I' 244 i) 2 = true ∧ g_lrec I Z I' a i) ∨
   (I' 242 i = 3 ∧ l_in (I' 244 i) 2 = true ∧ l_in (I' 245 i) 16 = true ∧ I a 5 = I' 247 i) ∨
   (I' 242 i = 4 ∧ l_in (I' 243 i) 2 = true ∧ I' 244 i = 2 ∧ g_lrec I Z I' a i) ∨
   (I' 242 i = 5 ∧ (∃ u, u < 6 ∧ I' 244 i = Int32.ofNat (3 + u)) ∧ l_in (I' 245 i) 16 = true ∧ I a 7 = I' 248 i ∧ l_in (I' 248 i) 12 = true) ∨
   (I' 242 i = 6 ∧ l_in (I' 244 i) 2 = true ∧ l_in (I' 245 i) 6 = true ∧ I a 8 = I' 252 i ∧ I a 7 = I' 248 i ∧ I a 9 = I' 253 i ∧ l_in (I' 252 i) 4 = true ∧ l_in (I' 248 i) 12 = true) ∨
   (I' 242 i = 7 ∧ l_in (I' 243 i) 2 = true ∧ l_in (I' 244 i) 2 = true))
def g_R : Prop := (∀ j, j < 12 → I 3 j = I' 201 j ∧ l_in (I 3 j) 4 = true) ∧
  (∀ k, k < 144 → I 5 k = I' 200 k ∧ l_in (I 5 k) 1000 = true) ∧
  (I 2 3 = I' 199 1 ∧ I 2 3 = Int32.ofNat (g_c (I 5) 144) ∧ g_c (I 5) 144 ≤ 30) ∧
  (∀ n, n < 16 → I 9 n = I' 203 n ∧ l_in (I 9 n) 6 = true ∧ (I 9 n = 0 → I 7 n = I' 204 n ∧ I 8 n = I' 205 n) ∧ l_in (I 7 n) 16 = true ∧ l_in (I 8 n) 16 = true) ∧
  (∀ u, u < 6 → I (135 + u) 0 = I' 210 u ∧ I (135 + u) 1 = I' 208 u ∧ I (135 + u) 2 = I' 209 u ∧ I (135 + u) 3 = I' 213 u ∧ I (135 + u) 4 = I' 211 u ∧ I (135 + u) 5 = I' 212 u ∧ I (135 + u) 6 = I' 214 u ∧ l_in (I' 210 u) 4 = true ∧ l_in (I' 208 u) 12 = true ∧ l_in (I' 212 u) 12 = true) ∧
  (∀ r, r < 2 → Z (141 + 29 * r) 0 = !Z' 217 r ∧ I (141 + 29 * r) 1 = I' 216 r ∧ J (141 + 29 * r) 2 = J' 215 r ∧ I (141 + 29 * r) 3 = I' 224 r ∧ l_in (I' 224 r) 9 = true) ∧
  (I' 216 2 = 50) ∧
  (∀ r d, r < 2 → d < 4 → I (142 + 29 * r) d = I' 221 (4 * r + d) ∧ J (146 + 29 * r) d = J' 223 (4 * r + d) ∧ I (147 + 29 * r) d = I' 222 (4 * r + d) ∧ l_in (I' 221 (4 * r + d)) (m + 1) = true) ∧
  (∀ r c, r < 2 → c < 16 → Z (144 + 29 * r) c = Z' 235 (16 * r + c)) ∧
  (∀ c, c < 16 → Z' 235 (32 + c) = false) ∧
  (∀ r c, r < 2 → c < 16 → g_rec I Z I' Z' (148 + 29 * r + c) (16 * r + c)) ∧
  (∀ c, c < 16 → g_rec I Z I' Z' (17 + c) (32 + c)) ∧
  (∀ q, q < 48 → l_in (I' 226 q) 12 = true ∧ l_in (I' 228 q) 16 = true ∧ (Z' 225 q = false → I' 233 q = 0 ∧ I' 234 q = 0)) ∧
  (∀ q c, q < 3 → c < 16 → Z' 225 (16 * q + c) = true → g_tk I' (Int32.ofNat c)) ∧
  (J 13 0 = J' 215 2 ∧ I 13 4 = I' 199 22 ∧ l_in (I 13 4) (m + 1) = true) ∧
  (∀ d, d < 4 → I 15 d = I' 218 d ∧ J 16 d = J' 220 d) ∧
  (∀ r u, r < 2 → u < 6 → Z (164 + 29 * r + u) 0 = Z' 236 (6 * r + u) ∧ (Z (164 + 29 * r + u) 0 = true → Z (164 + 29 * r + u) 1 = Z' 241 (6 * r + u)) ∧ I (164 + 29 * r + u) 2 = I' 238 (6 * r + u) ∧ I (164 + 29 * r + u) 3 = I' 237 (6 * r + u) ∧ I (164 + 29 * r + u) 4 = I' 239 (6 * r + u) ∧ I (164 + 29 * r + u) 5 = I' 240 (6 * r + u) ∧ l_in (I' 238 (6 * r + u)) 12 = true ∧ l_in (I' 237 (6 * r + u)) 4 = true)
end Rel
theorem g_R.dist {m : Nat} {I : Nat → Nat → Int32} {J : Nat → Nat → Int64} {Z : Nat → Nat → Bool} {I' : Nat → Nat → Int32} {J' : Nat → Nat → Int64} {Z' : Nat → Nat → Bool} (h : g_R m I J Z I' J' Z') : ∀ j, j < 12 → I 3 j = I' 201 j ∧ l_in (I 3 j) 4 = true := h.1
theorem g_R.road {m : Nat} {I : Nat → Nat → Int32} {J : Nat → Nat → Int64} {Z : Nat → Nat → Bool} {I' : Nat → Nat → Int32} {J' : Nat → Nat → Int64} {Z' : Nat → Nat → Bool} (h : g_R m I J Z I' J' Z') : ∀ k, k < 144 → I 5 k = I' 200 k ∧ l_in (I 5 k) 1000 = true := h.2.1
theorem g_R.roads {m : Nat} {I : Nat → Nat → Int32} {J : Nat → Nat → Int64} {Z : Nat → Nat → Bool} {I' : Nat → Nat → Int32} {J' : Nat → Nat → Int64} {Z' : Nat → Nat → Bool} (h : g_R m I J Z I' J' Z') : I 2 3 = I' 199 1 ∧ I 2 3 = Int32.ofNat (g_c (I 5) 144) ∧ g_c (I 5) 144 ≤ 30 := h.2.2.1
theorem g_R.card {m : Nat} {I : Nat → Nat → Int32} {J : Nat → Nat → Int64} {Z : Nat → Nat → Bool} {I' : Nat → Nat → Int32} {J' : Nat → Nat → Int64} {Z' : Nat → Nat → Bool} (h : g_R m I J Z I' J' Z') : ∀ n, n < 16 → I 9 n = I' 203 n ∧ l_in (I 9 n) 6 = true ∧ (I 9 n = 0 → I 7 n = I' 204 n ∧ I 8 n = I' 205 n) ∧ l_in (I 7 n) 16 = true ∧ l_in (I 8 n) 16 = true := h.2.2.2.1
theorem g_R.unit {m : Nat} {I : Nat → Nat → Int32} {J : Nat → Nat → Int64} {Z : Nat → Nat → Bool} {I' : Nat → Nat → Int32} {J' : Nat → Nat → Int64} {Z' : Nat → Nat → Bool} (h : g_R m I J Z I' J' Z') : ∀ u, u < 6 → I (135 + u) 0 = I' 210 u ∧ I (135 + u) 1 = I' 208 u ∧ I (135 + u) 2 = I' 209 u ∧ I (135 + u) 3 = I' 213 u ∧ I (135 + u) 4 = I' 211 u ∧ I (135 + u) 5 = I' 212 u ∧ I (135 + u) 6 = I' 214 u ∧ l_in (I' 210 u) 4 = true ∧ l_in (I' 208 u) 12 = true ∧ l_in (I' 212 u) 12 = true := h.2.2.2.2.1
theorem g_R.room {m : Nat} {I : Nat → Nat → Int32} {J : Nat → Nat → Int64} {Z : Nat → Nat → Bool} {I' : Nat → Nat → Int32} {J' : Nat → Nat → Int64} {Z' : Nat → Nat → Bool} (h : g_R m I J Z I' J' Z') : ∀ r, r < 2 → Z (141 + 29 * r) 0 = !Z' 217 r ∧ I (141 + 29 * r) 1 = I' 216 r ∧ J (141 + 29 * r) 2 = J' 215 r ∧ I (141 + 29 * r) 3 = I' 224 r ∧ l_in (I' 224 r) 9 = true := h.2.2.2.2.2.1
theorem g_R.spd {m : Nat} {I : Nat → Nat → Int32} {J : Nat → Nat → Int64} {Z : Nat → Nat → Bool} {I' : Nat → Nat → Int32} {J' : Nat → Nat → Int64} {Z' : Nat → Nat → Bool} (h : g_R m I J Z I' J' Z') : I' 216 2 = 50 := h.2.2.2.2.2.2.1
theorem g_R.grant {m : Nat} {I : Nat → Nat → Int32} {J : Nat → Nat → Int64} {Z : Nat → Nat → Bool} {I' : Nat → Nat → Int32} {J' : Nat → Nat → Int64} {Z' : Nat → Nat → Bool} (h : g_R m I J Z I' J' Z') : ∀ r d, r < 2 → d < 4 → I (142 + 29 * r) d = I' 221 (4 * r + d) ∧ J (146 + 29 * r) d = J' 223 (4 * r + d) ∧ I (147 + 29 * r) d = I' 222 (4 * r + d) ∧ l_in (I' 221 (4 * r + d)) (m + 1) = true := h.2.2.2.2.2.2.2.1
theorem g_R.sure {m : Nat} {I : Nat → Nat → Int32} {J : Nat → Nat → Int64} {Z : Nat → Nat → Bool} {I' : Nat → Nat → Int32} {J' : Nat → Nat → Int64} {Z' : Nat → Nat → Bool} (h : g_R m I J Z I' J' Z') : ∀ r c, r < 2 → c < 16 → Z (144 + 29 * r) c = Z' 235 (16 * r + c) := h.2.2.2.2.2.2.2.2.1
theorem g_R.sure2 {m : Nat} {I : Nat → Nat → Int32} {J : Nat → Nat → Int64} {Z : Nat → Nat → Bool} {I' : Nat → Nat → Int32} {J' : Nat → Nat → Int64} {Z' : Nat → Nat → Bool} (h : g_R m I J Z I' J' Z') : ∀ c, c < 16 → Z' 235 (32 + c) = false := h.2.2.2.2.2.2.2.2.2.1
theorem g_R.recs {m : Nat} {I : Nat → Nat → Int32} {J : Nat → Nat → Int64} {Z : Nat → Nat → Bool} {I' : Nat → Nat → Int32} {J' : Nat → Nat → Int64} {Z' : Nat → Nat → Bool} (h : g_R m I J Z I' J' Z') : ∀ r c, r < 2 → c < 16 → g_rec I Z I' Z' (148 + 29 * r + c) (16 * r + c) := h.2.2.2.2.2.2.2.2.2.2.1
theorem g_R.rrecs {m : Nat} {I : Nat → Nat → Int32} {J : Nat → Nat → Int64} {Z : Nat → Nat → Bool} {I' : Nat → Nat → Int32} {J' : Nat → Nat → Int64} {Z' : Nat → Nat → Bool} (h : g_R m I J Z I' J' Z') : ∀ c, c < 16 → g_rec I Z I' Z' (17 + c) (32 + c) := h.2.2.2.2.2.2.2.2.2.2.2.1
theorem g_R.recin {m : Nat} {I : Nat → Nat → Int32} {J : Nat → Nat → Int64} {Z : Nat → Nat → Bool} {I' : Nat → Nat → Int32} {J' : Nat → Nat → Int64} {Z' : Nat → Nat → Bool} (h : g_R m I J Z I' J' Z') : ∀ q, q < 48 → l_in (I' 226 q) 12 = true ∧ l_in (I' 228 q) 16 = true ∧ (Z' 225 q = false → I' 233 q = 0 ∧ I' 234 q = 0) := h.2.2.2.2.2.2.2.2.2.2.2.2.1
theorem g_R.taken {m : Nat} {I : Nat → Nat → Int32} {J : Nat → Nat → Int64} {Z : Nat → Nat → Bool} {I' : Nat → Nat → Int32} {J' : Nat → Nat → Int64} {Z' : Nat → Nat → Bool} (h : g_R m I J Z I' J' Z') : ∀ q c, q < 3 → c < 16 → Z' 225 (16 * q + c) = true → g_tk I' (Int32.ofNat c) := h.2.2.2.2.2.2.2.2.2.2.2.2.2.1
theorem g_R.ref {m : Nat} {I : Nat → Nat → Int32} {J : Nat → Nat → Int64} {Z : Nat → Nat → Bool} {I' : Nat → Nat → Int32} {J' : Nat → Nat → Int64} {Z' : Nat → Nat → Bool} (h : g_R m I J Z I' J' Z') : J 13 0 = J' 215 2 ∧ I 13 4 = I' 199 22 ∧ l_in (I 13 4) (m + 1) = true := h.2.2.2.2.2.2.2.2.2.2.2.2.2.2.1
theorem g_R.refd {m : Nat} {I : Nat → Nat → Int32} {J : Nat → Nat → Int64} {Z : Nat → Nat → Bool} {I' : Nat → Nat → Int32} {J' : Nat → Nat → Int64} {Z' : Nat → Nat → Bool} (h : g_R m I J Z I' J' Z') : ∀ d, d < 4 → I 15 d = I' 218 d ∧ J 16 d = J' 220 d := h.2.2.2.2.2.2.2.2.2.2.2.2.2.2.2.1
theorem g_R.sight {m : Nat} {I : Nat → Nat → Int32} {J : Nat → Nat → Int64} {Z : Nat → Nat → Bool} {I' : Nat → Nat → Int32} {J' : Nat → Nat → Int64} {Z' : Nat → Nat → Bool} (h : g_R m I J Z I' J' Z') : ∀ r u, r < 2 → u < 6 → Z (164 + 29 * r + u) 0 = Z' 236 (6 * r + u) ∧ (Z (164 + 29 * r + u) 0 = true → Z (164 + 29 * r + u) 1 = Z' 241 (6 * r + u)) ∧ I (164 + 29 * r + u) 2 = I' 238 (6 * r + u) ∧ I (164 + 29 * r + u) 3 = I' 237 (6 * r + u) ∧ I (164 + 29 * r + u) 4 = I' 239 (6 * r + u) ∧ I (164 + 29 * r + u) 5 = I' 240 (6 * r + u) ∧ l_in (I' 238 (6 * r + u)) 12 = true ∧ l_in (I' 237 (6 * r + u)) 4 = true := h.2.2.2.2.2.2.2.2.2.2.2.2.2.2.2.2
/-- places of the letters -/
def g_P (w : Nat → Nat) (rem : Nat) (p : Nat → Nat) (q : Nat) : Prop := (∀ k, k < 49 → w k = 35 + 2 * p k) ∧
  (∀ k, k < 49 → p k < 50) ∧
  (∀ k k', k < 49 → k' < 49 → p k = p k' → k = k') ∧
  (∀ k, k < 49 → p k ≠ q) ∧
  (rem = 35 + 2 * q) ∧
  (q < 50)
theorem g_P.at_ {w : Nat → Nat} {rem : Nat} {p : Nat → Nat} {q : Nat} (h : g_P w rem p q) : ∀ k, k < 49 → w k = 35 + 2 * p k := h.1
theorem g_P.lt {w : Nat → Nat} {rem : Nat} {p : Nat → Nat} {q : Nat} (h : g_P w rem p q) : ∀ k, k < 49 → p k < 50 := h.2.1
theorem g_P.inj {w : Nat → Nat} {rem : Nat} {p : Nat → Nat} {q : Nat} (h : g_P w rem p q) : ∀ k k', k < 49 → k' < 49 → p k = p k' → k = k' := h.2.2.1
theorem g_P.out {w : Nat → Nat} {rem : Nat} {p : Nat → Nat} {q : Nat} (h : g_P w rem p q) : ∀ k, k < 49 → p k ≠ q := h.2.2.2.1
theorem g_P.rm {w : Nat → Nat} {rem : Nat} {p : Nat → Nat} {q : Nat} (h : g_P w rem p q) : rem = 35 + 2 * q := h.2.2.2.2.1
theorem g_P.rl {w : Nat → Nat} {rem : Nat} {p : Nat → Nat} {q : Nat} (h : g_P w rem p q) : q < 50 := h.2.2.2.2.2
/-- the class's view I J Z and the reference's view I' J' Z' belong together, n letters wait at the places p -/
def g_V (m n : Nat) (p : Nat → Nat) (I : Nat → Nat → Int32) (J : Nat → Nat → Int64) (Z : Nat → Nat → Bool) (I' : Nat → Nat → Int32) (J' : Nat → Nat → Int64) (Z' : Nat → Nat → Bool) : Prop :=
  g_R m I J Z I' J' Z' ∧ n ≤ 48 ∧ I 33 1 = Int32.ofNat n ∧ I' 199 44 = Int32.ofNat n ∧ (∀ i, i < 49 → p i < 50) ∧ ∀ i, i < n → g_let m I J Z I' J' (35 + 2 * p i) i
def g_Rel (m : Nat) (σ : s_S) : Prop := ∃ I J Z w rem p q n, σ = (I, J, kR w rem, Z) ∧ g_P w rem p q ∧ g_V m n p I J Z I J Z
theorem g_in {x : Int32} {a b : Nat} (h : l_in x a = true) (hab : a ≤ b) : l_in x b = true := by
  have h := of_decide_eq_true h
  exact decide_eq_true (by omega)
theorem g_V.mono {m n : Nat} {p : Nat → Nat} {I : Nat → Nat → Int32} {J : Nat → Nat → Int64} {Z : Nat → Nat → Bool} {I' : Nat → Nat → Int32} {J' : Nat → Nat → Int64} {Z' : Nat → Nat → Bool} (h : g_V m n p I J Z I' J' Z') : g_V (m + 1) n p I J Z I' J' Z' := by
  obtain ⟨h3, h4, h5, h6, h8, h7⟩ := h
  refine ⟨?_, h4, h5, h6, h8, fun i hi => ?_⟩
  · exact ⟨h3.dist, h3.road, h3.roads, h3.card, h3.unit, h3.room, h3.spd, fun r d hr hd => (by obtain ⟨a, b, c, e⟩ := h3.grant r d hr hd; exact ⟨a, b, c, g_in e (by omega)⟩), h3.sure, h3.sure2, h3.recs, h3.rrecs, h3.recin, h3.taken, (by obtain ⟨a, b, c⟩ := h3.ref; exact ⟨a, b, g_in c (by omega)⟩), h3.refd, h3.sight⟩
  · obtain ⟨a, b⟩ := h7 i hi
    refine ⟨a, ?_⟩
    rcases b with b | b | b | b | b | b | b | b
    · exact Or.inl b
    · obtain ⟨b1, b2, b3, b4, b5, b6⟩ := b
      exact Or.inr (Or.inl ⟨b1, b2, b3, b4, g_in b5 (by omega), b6⟩)
    · exact Or.inr (Or.inr (Or.inl b))
    · exact Or.inr (Or.inr (Or.inr (Or.inl b)))
    · exact Or.inr (Or.inr (Or.inr (Or.inr (Or.inl b))))
    · exact Or.inr (Or.inr (Or.inr (Or.inr (Or.inr (Or.inl b)))))
    · exact Or.inr (Or.inr (Or.inr (Or.inr (Or.inr (Or.inr (Or.inl b))))))
    · exact Or.inr (Or.inr (Or.inr (Or.inr (Or.inr (Or.inr (Or.inr b))))))
theorem g_mono (m : Nat) (σ : s_S) (h : g_Rel m σ) : g_Rel (m + 1) σ := by
  obtain ⟨I, J, Z, w, rem, p, q, n, h1, h2, h3⟩ := h
  exact ⟨I, J, Z, w, rem, p, q, n, h1, h2, h3.mono⟩
/-! the start -/
theorem g_P0 : g_P k_w0 35 (fun k => k + 1) 0 := by
  refine ⟨?_, ?_, ?_, ?_, ?_, ?_⟩
  · exact fun k hk => by show (if k < 49 then 37 + 2 * k else 0) = 35 + 2 * (k + 1); rw [if_pos hk]; omega
  · exact fun k hk => by show k + 1 < 50; omega
  · exact fun k k' _ _ h => by have h : k + 1 = k' + 1 := h; omega
  · exact fun k _ => by show k + 1 ≠ 0; omega
  · exact rfl
  · decide
theorem g_R0 : g_R 0 k_I0 (fun _ _ => 0) k_Z0 k_I0 (fun _ _ => 0) k_Z0 := by
  refine ⟨?_, ?_, ?_, ?_, ?_, ?_, ?_, ?_, ?_, ?_, ?_, ?_, ?_, ?_, ?_, ?_, ?_⟩
  · exact fun j hj => (by decide +kernel : ∀ j : Fin 12, k_I0 3 j = k_I0 201 j ∧ l_in (k_I0 3 j) 4 = true) ⟨j, hj⟩
  · exact fun j hj => (by decide +kernel : ∀ j : Fin 144, k_I0 5 j = k_I0 200 j ∧ l_in (k_I0 5 j) 1000 = true) ⟨j, hj⟩
  · decide +kernel
  · exact fun j hj => (by decide +kernel : ∀ n : Fin 16, k_I0 9 n = k_I0 203 n ∧ l_in (k_I0 9 n) 6 = true ∧ (k_I0 9 n = 0 → k_I0 7 n = k_I0 204 n ∧ k_I0 8 n = k_I0 205 n) ∧ l_in (k_I0 7 n) 16 = true ∧ l_in (k_I0 8 n) 16 = true) ⟨j, hj⟩
  · exact fun j hj => (by decide +kernel : ∀ u : Fin 6, k_I0 (135 + u) 0 = k_I0 210 u ∧ k_I0 (135 + u) 1 = k_I0 208 u ∧ k_I0 (135 + u) 2 = k_I0 209 u ∧ k_I0 (135 + u) 3 = k_I0 213 u ∧ k_I0 (135 + u) 4 = k_I0 211 u ∧ k_I0 (135 + u) 5 = k_I0 212 u ∧ k_I0 (135 + u) 6 = k_I0 214 u ∧ l_in (k_I0 210 u) 4 = true ∧ l_in (k_I0 208 u) 12 = true ∧ l_in (k_I0 212 u) 12 = true) ⟨j, hj⟩
  · exact fun j hj => by
      have h := (by decide +kernel : ∀ r : Fin 2, k_Z0 (141 + 29 * r) 0 = !k_Z0 217 r ∧ k_I0 (141 + 29 * r) 1 = k_I0 216 r ∧ k_I0 (141 + 29 * r) 3 = k_I0 224 r ∧ l_in (k_I0 224 r) 9 = true) ⟨j, hj⟩
      exact ⟨h.1, h.2.1, rfl, h.2.2⟩
  · decide +kernel
  · exact fun r d hr hd => by
      have h := (by decide +kernel : ∀ (r : Fin 2) (d : Fin 4), k_I0 (142 + 29 * r) d = k_I0 221 (4 * r + d) ∧ k_I0 (147 + 29 * r) d = k_I0 222 (4 * r + d) ∧ l_in (k_I0 221 (4 * r + d)) (0 + 1) = true) ⟨r, hr⟩ ⟨d, hd⟩
      exact ⟨h.1, rfl, h.2⟩
  · exact fun r c hr hc => (by decide +kernel : ∀ (r : Fin 2) (c : Fin 16), k_Z0 (144 + 29 * r) c = k_Z0 235 (16 * r + c)) ⟨r, hr⟩ ⟨c, hc⟩
  · exact fun c hc => (by decide +kernel : ∀ (c : Fin 16), k_Z0 235 (32 + c) = false) ⟨c, hc⟩
  · exact fun r c hr hc => (by unfold g_rec; decide +kernel : ∀ (r : Fin 2) (c : Fin 16), g_rec k_I0 k_Z0 k_I0 k_Z0 (148 + 29 * r + c) (16 * r + c)) ⟨r, hr⟩ ⟨c, hc⟩
  · exact fun c hc => (by unfold g_rec; decide +kernel : ∀ (c : Fin 16), g_rec k_I0 k_Z0 k_I0 k_Z0 (17 + c) (32 + c)) ⟨c, hc⟩
  · exact fun q hq => (by decide +kernel : ∀ (q : Fin 48), l_in (k_I0 226 q) 12 = true ∧ l_in (k_I0 228 q) 16 = true ∧ (k_Z0 225 q = false → k_I0 233 q = 0 ∧ k_I0 234 q = 0)) ⟨q, hq⟩
  · exact fun q c hq hc h => by
      have h1 := (by decide +kernel : ∀ (q : Fin 3) (c : Fin 16), k_Z0 225 (16 * q + c) = false) ⟨q, hq⟩ ⟨c, hc⟩
      rw [h1] at h
      cases h
  · refine ⟨rfl, ?_⟩; decide +kernel
  · exact fun d hd => ⟨(by decide +kernel : ∀ (d : Fin 4), k_I0 15 d = k_I0 218 d) ⟨d, hd⟩, rfl⟩
  · exact fun r u hr hu => (by decide +kernel : ∀ (r : Fin 2) (u : Fin 6), k_Z0 (164 + 29 * r + u) 0 = k_Z0 236 (6 * r + u) ∧ (k_Z0 (164 + 29 * r + u) 0 = true → k_Z0 (164 + 29 * r + u) 1 = k_Z0 241 (6 * r + u)) ∧ k_I0 (164 + 29 * r + u) 2 = k_I0 238 (6 * r + u) ∧ k_I0 (164 + 29 * r + u) 3 = k_I0 237 (6 * r + u) ∧ k_I0 (164 + 29 * r + u) 4 = k_I0 239 (6 * r + u) ∧ k_I0 (164 + 29 * r + u) 5 = k_I0 240 (6 * r + u) ∧ l_in (k_I0 238 (6 * r + u)) 12 = true ∧ l_in (k_I0 237 (6 * r + u)) 4 = true) ⟨r, hr⟩ ⟨u, hu⟩
theorem g_0 : g_Rel 0 k_s1 := ⟨k_I0, fun _ _ => 0, k_Z0, k_w0, 35, fun k => k + 1, 0, 0, rfl, g_P0, g_R0, by decide, by decide +kernel, by decide +kernel, g_P0.lt, fun i hi => absurd hi (Nat.not_lt_zero i)⟩
