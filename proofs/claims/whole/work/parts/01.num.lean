section
/-! rows of kit/rows (pk_..), pasted -/
theorem pk_us {f : Nat → Int32} {k : Nat} {x : Int32} : upd f k x k = x := if_pos rfl
theorem pk_un {f : Nat → Int32} {k j : Nat} {x : Int32} (h : j ≠ k) : upd f k x j = f j := if_neg h
theorem pk_sub {a b : Nat} (h : b ≤ a) : nI a - nI b = nI (a - b) := by
  obtain ⟨c, rfl⟩ : ∃ c, a = c + b := ⟨a - b, by omega⟩
  rw [← nI_add, Int32.add_sub_cancel, Nat.add_sub_cancel]
theorem pk_m1 (n : Nat) : nI (n + 1) + (-1) = nI n := by
  rw [← nI_1, Int32.add_assoc, show (1 : Int32) + (-1) = 0 from rfl, Int32.add_zero]
theorem pk_mul (a b : Nat) : nI a * nI b = nI (a * b) := (Int32.ofNat_mul a b).symm
theorem pk_sub_toInt {a b : Nat} (ha : a < 2 ^ 30) (hb : b < 2 ^ 30) : (nI a - nI b).toInt = (a : Int) - b := by
  rw [Int32.toInt_sub, nI_toInt (by omega), nI_toInt (by omega)]
  exact Int.bmod_eq_of_le (by omega) (by omega)
theorem pk_ix (x : Int32) {n : Nat} (hn : n < 2 ^ 31) : x < 0 ∨ nI n ≤ x ∨ ∃ j : Nat, j < n ∧ x = nI j := by
  by_cases h : x < 0
  · exact Or.inl h
  · obtain ⟨j, hj, rfl⟩ := nI_of h
    by_cases h2 : j < n
    · exact Or.inr (Or.inr ⟨j, h2, rfl⟩)
    · exact Or.inr (Or.inl (nI_le (by omega) hj))
theorem pk_le {x y : Int32} {A B : Prop} (a b : Nat) (f : a ≤ b → A) (g : b < a → B) (hx : x = nI a := by rfl) (hy : y = nI b := by rfl) (ha : a < 2 ^ 31 := by omega) (hb : b < 2 ^ 31 := by omega) : (x ≤ y → A) ∧ (¬ x ≤ y → B) := by
  subst hx hy
  rw [nI_leI ha hb]
  exact ⟨f, fun z => g (by omega)⟩
theorem pk_lt {x y : Int32} {A B : Prop} (a b : Nat) (f : a < b → A) (g : b ≤ a → B) (hx : x = nI a := by rfl) (hy : y = nI b := by rfl) (ha : a < 2 ^ 31 := by omega) (hb : b < 2 ^ 31 := by omega) : (x < y → A) ∧ (¬ x < y → B) := by
  subst hx hy
  rw [nI_ltI ha hb]
  exact ⟨f, fun z => g (by omega)⟩
theorem pk_eq {x y : Int32} {A B : Prop} (a b : Nat) (f : a = b → A) (g : a ≠ b → B) (hx : x = nI a := by rfl) (hy : y = nI b := by rfl) (ha : a < 2 ^ 31 := by omega) (hb : b < 2 ^ 31 := by omega) : (x = y → A) ∧ (¬ x = y → B) := by
  subst hx hy
  rw [nI_eq ha hb]
  exact ⟨f, g⟩
theorem pk_in {x : Int32} (n N : Nat) (h : n < N) (hx : x = nI n := by rfl) (hN : N < 2 ^ 31 := by omega) : vp_in x N := by
  subst hx
  exact vp_in_nI h hN
theorem pk_cl {x : Int32} (n : Nat) (hx : x = nI n := by rfl) (h : n < 2 ^ 31 := by omega) : x.toNatClampNeg = n := by
  subst hx
  exact nI_clamp h
/-! numbers of my own -/
theorem sf_m1 {n : Nat} (h : 0 < n) : nI n + (-1) = nI (n - 1) := by
  obtain ⟨m, rfl⟩ : ∃ m, n = m + 1 := ⟨n - 1, by omega⟩
  exact pk_m1 m
theorem sf_s1 {n : Nat} (h : 0 < n) : nI n - 1 = nI (n - 1) := by
  obtain ⟨m, rfl⟩ : ∃ m, n = m + 1 := ⟨n - 1, by omega⟩
  exact nI_pred m
theorem sf_s2 {n : Nat} (h : 1 < n) : nI n - 2 = nI (n - 2) := pk_sub (b := 2) h
theorem sf_128 (a : Nat) : nI a * 128 = nI (a * 128) := pk_mul a 128
theorem sf_eq0 {a : Nat} (h : a < 2 ^ 31) : nI a = 0 ↔ a = 0 := by
  rw [← nI_0, nI_eq h (by omega)]
theorem sf_ne1 {a : Nat} (h : a < 2 ^ 31) : ¬ nI a = -1 := by
  intro e
  have := nI_pos (n := a) h
  rw [e] at this
  exact this (by decide)
theorem sf_1n {a : Nat} (h : a < 2 ^ 31) : ¬ (-1 : Int32) = nI a := fun e => sf_ne1 h e.symm
theorem sf_im {a b : Nat} (h : nI a = nI b) (ha : a < 2 ^ 31) (hb : b < 2 ^ 31) : a = b := (nI_eq ha hb).mp h
theorem sf_vb0 : vp_nar .boolean 0 = 0 := by decide
theorem sf_vb1 : vp_nar .boolean 1 = 1 := by decide
theorem sf_updid {a : Nat → Int32} {k : Nat} {x : Int32} (h : a k = x) : upd a k x = a := by
  funext j
  by_cases e : j = k
  · subst e; rw [pk_us, h]
  · rw [pk_un e]
theorem sf_n10 : ¬ (1 : Int32) = 0 := by decide
theorem sf_n01 : ¬ (0 : Int32) = 1 := by decide
theorem sf_or00 : (0 : Int32) ||| 0 = 0 := by decide
theorem sf_or01 : (0 : Int32) ||| 1 = 1 := by decide
theorem sf_or10 : (1 : Int32) ||| 0 = 1 := by decide
theorem sf_or11 : (1 : Int32) ||| 1 = 1 := by decide
def sf_b (x : Int32) : Prop := x = 0 ∨ x = 1
theorem sf_b0 : sf_b 0 := Or.inl rfl
theorem sf_b1 : sf_b 1 := Or.inr rfl
theorem sf_bn {x : Int32} (h : sf_b x) : vp_nar .boolean x = x := by
  rcases h with h | h
  · rw [h]; exact sf_vb0
  · rw [h]; exact sf_vb1
theorem sf_bo {x y : Int32} (h : sf_b x) (g : sf_b y) : sf_b (x ||| y) ∧ ((x ||| y) = 1 ↔ (x = 1 ∨ y = 1)) ∧ ((x ||| y) = 0 ↔ (x = 0 ∧ y = 0)) := by
  rcases h with h | h <;> rcases g with g | g <;> subst h <;> subst g <;> exact ⟨by first | exact Or.inl (by decide) | exact Or.inr (by decide), by decide, by decide⟩
theorem sf_b1n {x : Int32} (h : sf_b x) (g : ¬ x = 0) : x = 1 := h.resolve_left g
theorem sf_b0n {x : Int32} (h : sf_b x) (g : ¬ x = 1) : x = 0 := h.resolve_right g
theorem sf_bu {a : Nat → Int32} {k j : Nat} {x : Int32} (h : sf_b (a j)) (g : sf_b x) : sf_b (upd a k x j) := by
  by_cases e : j = k
  · subst e; rw [pk_us]; exact g
  · rw [pk_un e]; exact h
end
