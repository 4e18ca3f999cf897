/-! Small numbers, the shapes of the objects, and where references lead. -/
theorem n_add (a b : Nat) : Int32.ofNat a + Int32.ofNat b = Int32.ofNat (a + b) := (Int32.ofNat_add a b).symm
theorem n_mul (a b : Nat) : Int32.ofNat a * Int32.ofNat b = Int32.ofNat (a * b) := (Int32.ofNat_mul a b).symm
theorem n_sub {a b : Nat} (h : b ≤ a) : Int32.ofNat a - Int32.ofNat b = Int32.ofNat (a - b) := by
  have h1 : Int32.ofNat a = Int32.ofNat (a - b) + Int32.ofNat b := by rw [n_add, Nat.sub_add_cancel h]
  rw [h1, Int32.add_sub_cancel]
theorem n_int {a : Nat} (h : a < 2 ^ 31) : (Int32.ofNat a).toInt = a := Int32.toInt_ofNat_of_lt h
theorem n_cl {a : Nat} (h : a < 2 ^ 31) : (Int32.ofNat a).toNatClampNeg = a := Int32.toNatClampNeg_ofNat_of_lt h
theorem n_lt {a b : Nat} (ha : a < 2 ^ 31) (hb : b < 2 ^ 31) : Int32.ofNat a < Int32.ofNat b ↔ a < b := by
  rw [Int32.lt_iff_toInt_lt, n_int ha, n_int hb]
  omega
theorem n_eq {a b : Nat} (ha : a < 2 ^ 31) (hb : b < 2 ^ 31) : Int32.ofNat a = Int32.ofNat b ↔ a = b := by
  rw [← Int32.toInt_inj, n_int ha, n_int hb]
  omega
theorem n_in {a n : Nat} (h : a < n) (hn : n ≤ 2 ^ 31) : vp_in (Int32.ofNat a) n := by
  rw [vp_in_iff, n_int (by omega)]
  omega
theorem n_of {x : Int32} {n : Nat} (h0 : 0 ≤ x.toInt) (h1 : x.toInt < (n : Int)) : ∃ k, k < n ∧ x = Int32.ofNat k := by
  have hx := x.toInt_lt
  refine ⟨x.toInt.toNat, by omega, ?_⟩
  rw [← Int32.toInt_inj, n_int (by omega)]
  omega
theorem sh_1 : sh1[1]? = some (.inl 5) := by decide +kernel
theorem sh_2 : sh1[2]? = some (.inl 9) := by decide +kernel
theorem sh_6 : sh1[6]? = some (.inl 7) := by decide +kernel
theorem sh_11 : sh1[11]? = some (.inr (3, 6)) := by decide +kernel
theorem sh_12 : sh1[12]? = some (.inr (6, 2)) := by decide +kernel
theorem sh_13 : sh1[13]? = some (.inl 8) := by decide +kernel
theorem sh_14 : sh1[14]? = some (.inr (4, 16)) := by decide +kernel
theorem sh_33 : sh1[33]? = some (.inl 6) := by decide +kernel
theorem sh_34 : sh1[34]? = some (.inr (5, 49)) := by decide +kernel
theorem sh_199 : sh1[199]? = some (.inl 10) := by decide +kernel
theorem sh_3 : sh1[3]? = some (.inr (0, 12)) := by decide +kernel
theorem sh_4 : sh1[4]? = some (.inr (0, 12)) := by decide +kernel
theorem sh_5 : sh1[5]? = some (.inr (0, 144)) := by decide +kernel
theorem sh_7 : sh1[7]? = some (.inr (0, 16)) := by decide +kernel
theorem sh_8 : sh1[8]? = some (.inr (0, 16)) := by decide +kernel
theorem sh_9 : sh1[9]? = some (.inr (0, 16)) := by decide +kernel
theorem sh_10 : sh1[10]? = some (.inr (0, 16)) := by decide +kernel
theorem sh_15 : sh1[15]? = some (.inr (0, 4)) := by decide +kernel
theorem sh_16 : sh1[16]? = some (.inr (1, 4)) := by decide +kernel
theorem sh_200 : sh1[200]? = some (.inr (0, 144)) := by decide +kernel
theorem sh_201 : sh1[201]? = some (.inr (0, 12)) := by decide +kernel
theorem sh_202 : sh1[202]? = some (.inr (0, 12)) := by decide +kernel
theorem sh_203 : sh1[203]? = some (.inr (0, 16)) := by decide +kernel
theorem sh_204 : sh1[204]? = some (.inr (0, 16)) := by decide +kernel
theorem sh_205 : sh1[205]? = some (.inr (0, 16)) := by decide +kernel
theorem sh_206 : sh1[206]? = some (.inr (0, 16)) := by decide +kernel
theorem sh_207 : sh1[207]? = some (.inr (0, 16)) := by decide +kernel
theorem sh_208 : sh1[208]? = some (.inr (0, 6)) := by decide +kernel
theorem sh_209 : sh1[209]? = some (.inr (0, 6)) := by decide +kernel
theorem sh_210 : sh1[210]? = some (.inr (0, 6)) := by decide +kernel
theorem sh_211 : sh1[211]? = some (.inr (0, 6)) := by decide +kernel
theorem sh_212 : sh1[212]? = some (.inr (0, 6)) := by decide +kernel
theorem sh_213 : sh1[213]? = some (.inr (0, 6)) := by decide +kernel
theorem sh_214 : sh1[214]? = some (.inr (0, 6)) := by decide +kernel
theorem sh_215 : sh1[215]? = some (.inr (1, 3)) := by decide +kernel
theorem sh_216 : sh1[216]? = some (.inr (0, 3)) := by decide +kernel
theorem sh_217 : sh1[217]? = some (.inr (2, 3)) := by decide +kernel
theorem sh_218 : sh1[218]? = some (.inr (0, 4)) := by decide +kernel
theorem sh_219 : sh1[219]? = some (.inr (0, 4)) := by decide +kernel
theorem sh_220 : sh1[220]? = some (.inr (1, 4)) := by decide +kernel
theorem sh_221 : sh1[221]? = some (.inr (0, 8)) := by decide +kernel
theorem sh_222 : sh1[222]? = some (.inr (0, 8)) := by decide +kernel
theorem sh_223 : sh1[223]? = some (.inr (1, 8)) := by decide +kernel
theorem sh_224 : sh1[224]? = some (.inr (0, 2)) := by decide +kernel
theorem sh_225 : sh1[225]? = some (.inr (2, 48)) := by decide +kernel
theorem sh_226 : sh1[226]? = some (.inr (0, 48)) := by decide +kernel
theorem sh_227 : sh1[227]? = some (.inr (0, 48)) := by decide +kernel
theorem sh_228 : sh1[228]? = some (.inr (0, 48)) := by decide +kernel
theorem sh_229 : sh1[229]? = some (.inr (0, 48)) := by decide +kernel
theorem sh_230 : sh1[230]? = some (.inr (0, 48)) := by decide +kernel
theorem sh_231 : sh1[231]? = some (.inr (0, 48)) := by decide +kernel
theorem sh_232 : sh1[232]? = some (.inr (0, 48)) := by decide +kernel
theorem sh_233 : sh1[233]? = some (.inr (0, 48)) := by decide +kernel
theorem sh_234 : sh1[234]? = some (.inr (0, 48)) := by decide +kernel
theorem sh_235 : sh1[235]? = some (.inr (2, 48)) := by decide +kernel
theorem sh_236 : sh1[236]? = some (.inr (2, 12)) := by decide +kernel
theorem sh_237 : sh1[237]? = some (.inr (0, 12)) := by decide +kernel
theorem sh_238 : sh1[238]? = some (.inr (0, 12)) := by decide +kernel
theorem sh_239 : sh1[239]? = some (.inr (0, 12)) := by decide +kernel
theorem sh_240 : sh1[240]? = some (.inr (0, 12)) := by decide +kernel
theorem sh_241 : sh1[241]? = some (.inr (2, 12)) := by decide +kernel
theorem sh_242 : sh1[242]? = some (.inr (0, 49)) := by decide +kernel
theorem sh_243 : sh1[243]? = some (.inr (0, 49)) := by decide +kernel
theorem sh_244 : sh1[244]? = some (.inr (0, 49)) := by decide +kernel
theorem sh_245 : sh1[245]? = some (.inr (0, 49)) := by decide +kernel
theorem sh_246 : sh1[246]? = some (.inr (0, 49)) := by decide +kernel
theorem sh_247 : sh1[247]? = some (.inr (0, 49)) := by decide +kernel
theorem sh_248 : sh1[248]? = some (.inr (0, 49)) := by decide +kernel
theorem sh_249 : sh1[249]? = some (.inr (0, 49)) := by decide +kernel
theorem sh_250 : sh1[250]? = some (.inr (0, 49)) := by decide +kernel
theorem sh_251 : sh1[251]? = some (.inr (0, 49)) := by decide +kernel
theorem sh_252 : sh1[252]? = some (.inr (0, 49)) := by decide +kernel
theorem sh_253 : sh1[253]? = some (.inr (0, 49)) := by decide +kernel
theorem sh_254 : sh1[254]? = some (.inr (0, 49)) := by decide +kernel
theorem sh_255 : sh1[255]? = some (.inr (1, 49)) := by decide +kernel
theorem sh_256 : sh1[256]? = some (.inr (1, 1)) := by decide +kernel
theorem sh_amb {u : Nat} (hu : u < 6) : sh1[135 + u]? = some (.inl 0) := by
  have h : ∀ q : Fin 6, sh1[135 + q.1]? = some (.inl 0) := by decide +kernel
  exact h ⟨u, hu⟩
theorem sh_room {r : Nat} (hr : r < 2) : sh1[141 + 29 * r]? = some (.inl 3) := by
  have h : ∀ q : Fin 2, sh1[141 + 29 * q.1]? = some (.inl 3) := by decide +kernel
  exact h ⟨r, hr⟩
theorem sh_room4 {r : Nat} (hr : r < 2) : sh1[142 + 29 * r]? = some (.inr (0, 4)) := by
  have h : ∀ q : Fin 2, sh1[142 + 29 * q.1]? = some (.inr (0, 4)) := by decide +kernel
  exact h ⟨r, hr⟩
theorem sh_room5 {r : Nat} (hr : r < 2) : sh1[143 + 29 * r]? = some (.inr (4, 16)) := by
  have h : ∀ q : Fin 2, sh1[143 + 29 * q.1]? = some (.inr (4, 16)) := by decide +kernel
  exact h ⟨r, hr⟩
theorem sh_room6 {r : Nat} (hr : r < 2) : sh1[144 + 29 * r]? = some (.inr (2, 16)) := by
  have h : ∀ q : Fin 2, sh1[144 + 29 * q.1]? = some (.inr (2, 16)) := by decide +kernel
  exact h ⟨r, hr⟩
theorem sh_room7 {r : Nat} (hr : r < 2) : sh1[145 + 29 * r]? = some (.inr (7, 6)) := by
  have h : ∀ q : Fin 2, sh1[145 + 29 * q.1]? = some (.inr (7, 6)) := by decide +kernel
  exact h ⟨r, hr⟩
theorem sh_room8 {r : Nat} (hr : r < 2) : sh1[146 + 29 * r]? = some (.inr (1, 4)) := by
  have h : ∀ q : Fin 2, sh1[146 + 29 * q.1]? = some (.inr (1, 4)) := by decide +kernel
  exact h ⟨r, hr⟩
theorem sh_room9 {r : Nat} (hr : r < 2) : sh1[147 + 29 * r]? = some (.inr (0, 4)) := by
  have h : ∀ q : Fin 2, sh1[147 + 29 * q.1]? = some (.inr (0, 4)) := by decide +kernel
  exact h ⟨r, hr⟩
theorem sh_rec {r c : Nat} (hr : r < 2) (hc : c < 16) : sh1[148 + 29 * r + c]? = some (.inl 1) := by
  have h : ∀ (q : Fin 2) (p : Fin 16), sh1[148 + 29 * q.1 + p.1]? = some (.inl 1) := by decide +kernel
  exact h ⟨r, hr⟩ ⟨c, hc⟩
theorem sh_sight {r u : Nat} (hr : r < 2) (hu : u < 6) : sh1[164 + 29 * r + u]? = some (.inl 4) := by
  have h : ∀ (q : Fin 2) (p : Fin 6), sh1[164 + 29 * q.1 + p.1]? = some (.inl 4) := by decide +kernel
  exact h ⟨r, hr⟩ ⟨u, hu⟩
theorem sh_rrec {c : Nat} (hc : c < 16) : sh1[17 + c]? = some (.inl 1) := by
  have h : ∀ q : Fin 16, sh1[17 + q.1]? = some (.inl 1) := by decide +kernel
  exact h ⟨c, hc⟩
theorem sh_let {i : Nat} (hi : i < 50) : sh1[35 + 2 * i]? = some (.inl 2) := by
  have h : ∀ q : Fin 50, sh1[35 + 2 * q.1]? = some (.inl 2) := by decide +kernel
  exact h ⟨i, hi⟩
theorem sh_letrec {i : Nat} (hi : i < 50) : sh1[36 + 2 * i]? = some (.inl 1) := by
  have h : ∀ q : Fin 50, sh1[36 + 2 * q.1]? = some (.inl 1) := by decide +kernel
  exact h ⟨i, hi⟩
theorem s_upe {α : Type} (f : Nat → Nat → α) (a k : Nat) (v : α) : s_up f a k v a k = v := by simp [s_up, va_up]
theorem s_upk {α : Type} {f : Nat → Nat → α} {a k b q : Nat} {v : α} (h : q ≠ k) : s_up f a k v b q = f b q := by
  unfold s_up va_up
  by_cases hb : b = a
  · subst hb; simp [h]
  · simp [hb]
theorem s_upa {α : Type} {f : Nat → Nat → α} {a k b q : Nat} {v : α} (h : b ≠ a) : s_up f a k v b q = f b q := by
  unfold s_up va_up
  simp [h]
section Refs
variable {w : Nat → Nat} {rem : Nat}
theorem r_amb {u : Nat} (hu : u < 6) : kR w rem 11 u = 135 + u := if_pos hu
theorem r_room {r : Nat} (hr : r < 2) : kR w rem 12 r = 141 + 29 * r := if_pos hr
theorem r_rrec {c : Nat} (hc : c < 16) : kR w rem 14 c = 17 + c := if_pos hc
theorem r_room4 {r : Nat} (hr : r < 2) : kR w rem (141 + 29 * r) 4 = 142 + 29 * r := by
  rcases r with _ | _ | r
  · rfl
  · rfl
  · omega
theorem r_room5 {r : Nat} (hr : r < 2) : kR w rem (141 + 29 * r) 5 = 143 + 29 * r := by
  rcases r with _ | _ | r
  · rfl
  · rfl
  · omega
theorem r_room6 {r : Nat} (hr : r < 2) : kR w rem (141 + 29 * r) 6 = 144 + 29 * r := by
  rcases r with _ | _ | r
  · rfl
  · rfl
  · omega
theorem r_room7 {r : Nat} (hr : r < 2) : kR w rem (141 + 29 * r) 7 = 145 + 29 * r := by
  rcases r with _ | _ | r
  · rfl
  · rfl
  · omega
theorem r_room8 {r : Nat} (hr : r < 2) : kR w rem (141 + 29 * r) 8 = 146 + 29 * r := by
  rcases r with _ | _ | r
  · rfl
  · rfl
  · omega
theorem r_room9 {r : Nat} (hr : r < 2) : kR w rem (141 + 29 * r) 9 = 147 + 29 * r := by
  rcases r with _ | _ | r
  · rfl
  · rfl
  · omega
theorem r_rec {r c : Nat} (hr : r < 2) (hc : c < 16) : kR w rem (143 + 29 * r) c = 148 + 29 * r + c := by
  rcases r with _ | _ | r
  · exact if_pos hc
  · exact if_pos hc
  · omega
theorem r_sight {r u : Nat} (hr : r < 2) (hu : u < 6) : kR w rem (145 + 29 * r) u = 164 + 29 * r + u := by
  rcases r with _ | _ | r
  · exact if_pos hu
  · exact if_pos hu
  · omega
theorem r_let {i : Nat} (hi : i < 50) : kR w rem (35 + 2 * i) 10 = 36 + 2 * i := by
  have h : ∀ q : Fin 50, kR (fun _ => 0) 0 (35 + 2 * q.1) 10 = 36 + 2 * q.1 := by decide +kernel
  have h2 : ∀ q : Fin 50, 35 + 2 * q.1 ≠ 33 ∧ 35 + 2 * q.1 ≠ 34 := by decide +kernel
  rw [← h ⟨i, hi⟩]
  obtain ⟨q, hq⟩ : ∃ q, q = 35 + 2 * i := ⟨_, rfl⟩
  have h3 := h2 ⟨i, hi⟩
  simp only [← hq] at h3 ⊢
  unfold kR
  split <;> first | rfl | (exfalso; omega)
end Refs
