section
section
/-! rows of kit/rows (pk_..), pasted -/
theorem pk_us {f : Nat → Int32} {k : Nat} {x : Int32} : upd f k x k = x := if_pos rfl
theorem pk_un {f : Nat → Int32} {k j : Nat} {x : Int32} (h : j ≠ k) : upd f k x j = f j := if_neg h
theorem pk_sub {a b : Nat} (h : b ≤ a) : nI a - nI b = nI (a - b) := by
  obtain ⟨c, rfl⟩ : ∃ c, a = c + b := ⟨a - b, by omega⟩
  rw [← nI_add, Int32.add_sub_cancel, Nat.add_sub_cancel]
theorem pk_m1 (n : Nat) : nI (n + 1) + (-1) = nI n := by
  rw [← nI_1, Int32.add_assoc, show (1 : Int32) + (-1) = 0 from rfl, Int32.add_zero]
theorem pk_mul (a b : Nat) : nI a * nI b = nI (a * b) := (Int32.ofNat_mul a b).symm
theorem pk_sub_toInt {a b : Nat} (ha : a < 2 ^ 30) (hb : b < 2 ^ 30) : (nI a - nI b).toInt = (a : Int) - b := by
  rw [Int32.toInt_sub, nI_toInt (by omega), nI_toInt (by omega)]
  exact Int.bmod_eq_of_le (by omega) (by omega)
theorem pk_ix (x : Int32) {n : Nat} (hn : n < 2 ^ 31) : x < 0 ∨ nI n ≤ x ∨ ∃ j : Nat, j < n ∧ x = nI j := by
  by_cases h : x < 0
  · exact Or.inl h
  · obtain ⟨j, hj, rfl⟩ := nI_of h
    by_cases h2 : j < n
    · exact Or.inr (Or.inr ⟨j, h2, rfl⟩)
    · exact Or.inr (Or.inl (nI_le (by omega) hj))
theorem pk_le {x y : Int32} {A B : Prop} (a b : Nat) (f : a ≤ b → A) (g : b < a → B) (hx : x = nI a := by rfl) (hy : y = nI b := by rfl) (ha : a < 2 ^ 31 := by omega) (hb : b < 2 ^ 31 := by omega) : (x ≤ y → A) ∧ (¬ x ≤ y → B) := by
  subst hx hy
  rw [nI_leI ha hb]
  exact ⟨f, fun z => g (by omega)⟩
theorem pk_lt {x y : Int32} {A B : Prop} (a b : Nat) (f : a < b → A) (g : b ≤ a → B) (hx : x = nI a := by rfl) (hy : y = nI b := by rfl) (ha : a < 2 ^ 31 := by omega) (hb : b < 2 ^ 31 := by omega) : (x < y → A) ∧ (¬ x < y → B) := by
  subst hx hy
  rw [nI_ltI ha hb]
  exact ⟨f, fun z => g (by omega)⟩
theorem pk_eq {x y : Int32} {A B : Prop} (a b : Nat) (f : a = b → A) (g : a ≠ b → B) (hx : x = nI a := by rfl) (hy : y = nI b := by rfl) (ha : a < 2 ^ 31 := by omega) (hb : b < 2 ^ 31 := by omega) : (x = y → A) ∧ (¬ x = y → B) := by
  subst hx hy
  rw [nI_eq ha hb]
  exact ⟨f, g⟩
theorem pk_in {x : Int32} (n N : Nat) (h : n < N) (hx : x = nI n := by rfl) (hN : N < 2 ^ 31 := by omega) : vp_in x N := by
  subst hx
  exact vp_in_nI h hN
theorem pk_cl {x : Int32} (n : Nat) (hx : x = nI n := by rfl) (h : n < 2 ^ 31 := by omega) : x.toNatClampNeg = n := by
  subst hx
  exact nI_clamp h
/-! numbers of my own -/
theorem sf_m1 {n : Nat} (h : 0 < n) : nI n + (-1) = nI (n - 1) := by
  obtain ⟨m, rfl⟩ : ∃ m, n = m + 1 := ⟨n - 1, by omega⟩
  exact pk_m1 m
theorem sf_s1 {n : Nat} (h : 0 < n) : nI n - 1 = nI (n - 1) := by
  obtain ⟨m, rfl⟩ : ∃ m, n = m + 1 := ⟨n - 1, by omega⟩
  exact nI_pred m
theorem sf_s2 {n : Nat} (h : 1 < n) : nI n - 2 = nI (n - 2) := pk_sub (b := 2) h
theorem sf_128 (a : Nat) : nI a * 128 = nI (a * 128) := pk_mul a 128
theorem sf_eq0 {a : Nat} (h : a < 2 ^ 31) : nI a = 0 ↔ a = 0 := by
  rw [← nI_0, nI_eq h (by omega)]
theorem sf_ne1 {a : Nat} (h : a < 2 ^ 31) : ¬ nI a = -1 := by
  intro e
  have := nI_pos (n := a) h
  rw [e] at this
  exact this (by decide)
theorem sf_1n {a : Nat} (h : a < 2 ^ 31) : ¬ (-1 : Int32) = nI a := fun e => sf_ne1 h e.symm
theorem sf_im {a b : Nat} (h : nI a = nI b) (ha : a < 2 ^ 31) (hb : b < 2 ^ 31) : a = b := (nI_eq ha hb).mp h
theorem sf_vb0 : vp_nar .boolean 0 = 0 := by decide
theorem sf_vb1 : vp_nar .boolean 1 = 1 := by decide
theorem sf_updid {a : Nat → Int32} {k : Nat} {x : Int32} (h : a k = x) : upd a k x = a := by
  funext j
  by_cases e : j = k
  · subst e; rw [pk_us, h]
  · rw [pk_un e]
theorem sf_n10 : ¬ (1 : Int32) = 0 := by decide
theorem sf_n01 : ¬ (0 : Int32) = 1 := by decide
theorem sf_or00 : (0 : Int32) ||| 0 = 0 := by decide
theorem sf_or01 : (0 : Int32) ||| 1 = 1 := by decide
theorem sf_or10 : (1 : Int32) ||| 0 = 1 := by decide
theorem sf_or11 : (1 : Int32) ||| 1 = 1 := by decide
def sf_b (x : Int32) : Prop := x = 0 ∨ x = 1
theorem sf_b0 : sf_b 0 := Or.inl rfl
theorem sf_b1 : sf_b 1 := Or.inr rfl
theorem sf_bn {x : Int32} (h : sf_b x) : vp_nar .boolean x = x := by
  rcases h with h | h
  · rw [h]; exact sf_vb0
  · rw [h]; exact sf_vb1
theorem sf_bo {x y : Int32} (h : sf_b x) (g : sf_b y) : sf_b (x ||| y) ∧ ((x ||| y) = 1 ↔ (x = 1 ∨ y = 1)) ∧ ((x ||| y) = 0 ↔ (x = 0 ∧ y = 0)) := by
  rcases h with h | h <;> rcases g with g | g <;> subst h <;> subst g <;> exact ⟨by first | exact Or.inl (by decide) | exact Or.inr (by decide), by decide, by decide⟩
theorem sf_b1n {x : Int32} (h : sf_b x) (g : ¬ x = 0) : x = 1 := h.resolve_left g
theorem sf_b0n {x : Int32} (h : sf_b x) (g : ¬ x = 1) : x = 0 := h.resolve_right g
theorem sf_bu {a : Nat → Int32} {k j : Nat} {x : Int32} (h : sf_b (a j)) (g : sf_b x) : sf_b (upd a k x j) := by
  by_cases e : j = k
  · subst e; rw [pk_us]; exact g
  · rw [pk_un e]; exact h
end
end
section
section
/-! expressions: the depth and the stack after m tokens -/
def sf_opd (o a x y : Int32) : Int32 := if o = 0 then a else if o = 1 then x else y
def sf_cmb (o a b : Int32) : Int32 := if o = 3 then a + b else if o = 4 then a - b else if o = 5 then a * b else if o = 6 then (if b = 0 then 0 else a / b) else if o = 7 then (if b = 0 then 0 else a - a / b * b) else if o = 8 then (if a < b then 1 else 0) else (if a = b then 1 else 0)
def sf_dp (to : Nat → Int32) (f : Nat) : Nat → Nat
  | 0 => 0
  | m + 1 => if to (f + m) < 3 then sf_dp to f m + 1 else sf_dp to f m - 1
def sf_sk (to ta : Nat → Int32) (f : Nat) (x y : Int32) : Nat → Nat → Int32
  | 0 => fun _ => 0
  | m + 1 => if to (f + m) < 3 then upd (sf_sk to ta f x y m) (sf_dp to f m) (sf_opd (to (f + m)) (ta (f + m)) x y) else upd (sf_sk to ta f x y m) (sf_dp to f m - 2) (sf_cmb (to (f + m)) (sf_sk to ta f x y m (sf_dp to f m - 2)) (sf_sk to ta f x y m (sf_dp to f m - 1)))
/-- the tokens f .. f + l - 1 keep the depth within -/
def sf_lg (to : Nat → Int32) (f l : Nat) : Prop := ∀ m, m < l → ∃ o, o < 10 ∧ to (f + m) = nI o ∧ (o < 3 → sf_dp to f m < 8) ∧ (3 ≤ o → 2 ≤ sf_dp to f m)
theorem sf_lt3 {o : Nat} (h : o < 3) : nI o < 3 := nI_lt (b := 3) h (by decide)
theorem sf_nlt3 {o : Nat} (h : 3 ≤ o) (h2 : o < 10) : ¬ nI o < 3 := nI_nlt (b := 3) h (by omega)
theorem sf_dp_p {to : Nat → Int32} {f m o : Nat} (h : to (f + m) = nI o) (ho : o < 3) : sf_dp to f (m + 1) = sf_dp to f m + 1 := by
  have e : sf_dp to f (m + 1) = if to (f + m) < 3 then sf_dp to f m + 1 else sf_dp to f m - 1 := rfl
  rw [e, h, if_pos (sf_lt3 ho)]
theorem sf_dp_b {to : Nat → Int32} {f m o : Nat} (h : to (f + m) = nI o) (ho : 3 ≤ o) (h2 : o < 10) : sf_dp to f (m + 1) = sf_dp to f m - 1 := by
  have e : sf_dp to f (m + 1) = if to (f + m) < 3 then sf_dp to f m + 1 else sf_dp to f m - 1 := rfl
  rw [e, h, if_neg (sf_nlt3 ho h2)]
theorem sf_sk_p {to ta : Nat → Int32} {f m o : Nat} {x y : Int32} (h : to (f + m) = nI o) (ho : o < 3) : sf_sk to ta f x y (m + 1) = upd (sf_sk to ta f x y m) (sf_dp to f m) (sf_opd (nI o) (ta (f + m)) x y) := by
  have e : sf_sk to ta f x y (m + 1) = if to (f + m) < 3 then upd (sf_sk to ta f x y m) (sf_dp to f m) (sf_opd (to (f + m)) (ta (f + m)) x y) else upd (sf_sk to ta f x y m) (sf_dp to f m - 2) (sf_cmb (to (f + m)) (sf_sk to ta f x y m (sf_dp to f m - 2)) (sf_sk to ta f x y m (sf_dp to f m - 1))) := rfl
  rw [e, h, if_pos (sf_lt3 ho)]
theorem sf_sk_b {to ta : Nat → Int32} {f m o : Nat} {x y : Int32} (h : to (f + m) = nI o) (ho : 3 ≤ o) (h2 : o < 10) : sf_sk to ta f x y (m + 1) = upd (sf_sk to ta f x y m) (sf_dp to f m - 2) (sf_cmb (nI o) (sf_sk to ta f x y m (sf_dp to f m - 2)) (sf_sk to ta f x y m (sf_dp to f m - 1))) := by
  have e : sf_sk to ta f x y (m + 1) = if to (f + m) < 3 then upd (sf_sk to ta f x y m) (sf_dp to f m) (sf_opd (to (f + m)) (ta (f + m)) x y) else upd (sf_sk to ta f x y m) (sf_dp to f m - 2) (sf_cmb (to (f + m)) (sf_sk to ta f x y m (sf_dp to f m - 2)) (sf_sk to ta f x y m (sf_dp to f m - 1))) := rfl
  rw [e, h, if_neg (sf_nlt3 ho h2)]
theorem sf_dp8 {to : Nat → Int32} {f l : Nat} (h : sf_lg to f l) : ∀ m, m ≤ l → sf_dp to f m ≤ 8
  | 0, _ => Nat.zero_le 8
  | m + 1, hm => by
    have ih := sf_dp8 h m (by omega)
    obtain ⟨o, ho, e, h1, h2⟩ := h m (by omega)
    by_cases h3 : o < 3
    · rw [sf_dp_p e h3]; have := h1 h3; omega
    · rw [sf_dp_b e (by omega) ho]; omega
theorem sf_dp_c {to to' : Nat → Int32} {f : Nat} : ∀ m, (∀ j, j < f + m → to' j = to j) → sf_dp to' f m = sf_dp to f m
  | 0, _ => rfl
  | m + 1, h => by
    have ih := sf_dp_c (to := to) (to' := to') (f := f) m (fun j hj => h j (by omega))
    show (if to' (f + m) < 3 then sf_dp to' f m + 1 else sf_dp to' f m - 1) = (if to (f + m) < 3 then sf_dp to f m + 1 else sf_dp to f m - 1)
    rw [ih, h (f + m) (by omega)]
theorem sf_sk_c {to to' ta ta' : Nat → Int32} {f : Nat} {x y : Int32} : ∀ m, (∀ j, j < f + m → to' j = to j) → (∀ j, j < f + m → ta' j = ta j) → sf_sk to' ta' f x y m = sf_sk to ta f x y m
  | 0, _, _ => rfl
  | m + 1, h, g => by
    have ih := sf_sk_c (to := to) (to' := to') (ta := ta) (ta' := ta') (f := f) (x := x) (y := y) m (fun j hj => h j (by omega)) (fun j hj => g j (by omega))
    have e := sf_dp_c (to := to) (to' := to') (f := f) m (fun j hj => h j (by omega))
    have e1 : sf_sk to' ta' f x y (m + 1) = if to' (f + m) < 3 then upd (sf_sk to' ta' f x y m) (sf_dp to' f m) (sf_opd (to' (f + m)) (ta' (f + m)) x y) else upd (sf_sk to' ta' f x y m) (sf_dp to' f m - 2) (sf_cmb (to' (f + m)) (sf_sk to' ta' f x y m (sf_dp to' f m - 2)) (sf_sk to' ta' f x y m (sf_dp to' f m - 1))) := rfl
    have e2 : sf_sk to ta f x y (m + 1) = if to (f + m) < 3 then upd (sf_sk to ta f x y m) (sf_dp to f m) (sf_opd (to (f + m)) (ta (f + m)) x y) else upd (sf_sk to ta f x y m) (sf_dp to f m - 2) (sf_cmb (to (f + m)) (sf_sk to ta f x y m (sf_dp to f m - 2)) (sf_sk to ta f x y m (sf_dp to f m - 1))) := rfl
    rw [e1, e2, ih, e, h (f + m) (by omega), g (f + m) (by omega)]
theorem sf_lg_c {to to' : Nat → Int32} {f l : Nat} (h : ∀ j, j < f + l → to' j = to j) (g : sf_lg to f l) : sf_lg to' f l := by
  intro m hm
  obtain ⟨o, ho, e, h1, h2⟩ := g m hm
  refine ⟨o, ho, ?_, ?_, ?_⟩
  · rw [h (f + m) (by omega)]; exact e
  · rw [sf_dp_c m (fun j hj => h j (by omega))]; exact h1
  · rw [sf_dp_c m (fun j hj => h j (by omega))]; exact h2
theorem sf_lg_s {to : Nat → Int32} {f l o : Nat} (g : sf_lg to f l) (ho : o < 10) (e : to (f + l) = nI o) (h1 : o < 3 → sf_dp to f l < 8) (h2 : 3 ≤ o → 2 ≤ sf_dp to f l) : sf_lg to f (l + 1) := by
  intro m hm
  by_cases hl : m = l
  · subst hl; exact ⟨o, ho, e, h1, h2⟩
  · exact g m (by omega)
/-- the value of expression e -/
def sf_V (es el to ta : Nat → Int32) (e : Nat) (x y : Int32) : Int32 := sf_sk to ta (es e).toNatClampNeg x y (el e).toNatClampNeg 0
def sf_W (ec : Nat) (ed se : Nat → Int32) (e : Nat) : Prop := e < ec ∧ se e = 1 ∧ ed e = 1
def sf_E (ec tc : Nat) (es el ed se to : Nat → Int32) : Prop :=
  ec ≤ 16 ∧ tc ≤ 128 ∧ (∀ e, e < ec → ∃ f l, es e = nI f ∧ el e = nI l ∧ l ≤ 16 ∧ f + l ≤ tc ∧ (e + 1 = ec → f + l = tc) ∧ sf_lg to f l ∧ ed e = nI (sf_dp to f l) ∧ sf_b (se e)) ∧ (∀ e, ec ≤ e → el e = 0 ∧ ed e = 0 ∧ se e = 0)
theorem sf_E0 : sf_E 0 0 (fun _ => 0) (fun _ => 0) (fun _ => 0) (fun _ => 0) (fun _ => 0) :=
  ⟨by decide, by decide, fun _ h => absurd h (Nat.not_lt_zero _), fun _ _ => ⟨rfl, rfl, rfl⟩⟩
theorem sf_E_new {ec tc : Nat} {es el ed se to : Nat → Int32} (H : sf_E ec tc es el ed se to) (h : ec < 16) : sf_E (ec + 1) tc (upd es ec (nI tc)) el ed se to := by
  obtain ⟨h1, h2, h3, h4⟩ := H
  refine ⟨by omega, h2, fun e he => ?_, fun e he => h4 e (by omega)⟩
  by_cases e1 : e = ec
  · subst e1
    obtain ⟨a, b, c⟩ := h4 e (Nat.le_refl e)
    exact ⟨tc, 0, pk_us, a, by omega, by omega, fun _ => rfl, fun m hm => absurd hm (Nat.not_lt_zero m), by rw [b]; rfl, Or.inl c⟩
  · obtain ⟨f, l, q1, q2, q3, q4, q5, q6, q7, q8⟩ := h3 e (by omega)
    exact ⟨f, l, by rw [pk_un e1]; exact q1, q2, q3, q4, fun z => absurd z (by omega), q6, q7, q8⟩
theorem sf_V_new {ec : Nat} {es el to ta : Nat → Int32} {x : Int32} {e : Nat} (h : e < ec) : sf_V (upd es ec x) el to ta e = sf_V es el to ta e := by
  funext x y
  unfold sf_V
  rw [pk_un (by omega)]
theorem sf_E_tok {k tc f l o : Nat} {es el ed se to : Nat → Int32} (H : sf_E (k + 1) tc es el ed se to) (q1 : es k = nI f) (hl : l < 16) (q5 : f + l = tc) (q6 : sf_lg to f l) (ht : tc < 128) (ho : o < 10) (h1 : o < 3 → sf_dp to f l < 8) (h2 : 3 ≤ o → 2 ≤ sf_dp to f l) {d : Nat} (hd : d = if o < 3 then sf_dp to f l + 1 else sf_dp to f l - 1) : sf_E (k + 1) (tc + 1) es (upd el k (nI (l + 1))) (upd ed k (nI d)) se (upd to tc (nI o)) := by
  obtain ⟨g1, g2, g3, g4⟩ := H
  refine ⟨g1, by omega, fun e he => ?_, fun e he => ?_⟩
  · by_cases e1 : e = k
    · obtain ⟨-, -, -, -, -, -, -, -, -, r8⟩ := g3 e he
      subst e1
      have ag : ∀ j, j < f + l → upd to tc (nI o) j = to j := fun j hj => pk_un (by omega)
      have et : upd to tc (nI o) (f + l) = nI o := by rw [q5]; exact pk_us
      have ed1 : sf_dp (upd to tc (nI o)) f l = sf_dp to f l := sf_dp_c l ag
      refine ⟨f, l + 1, q1, pk_us, by omega, by omega, fun _ => by omega, ?_, ?_, r8⟩
      · exact sf_lg_s (sf_lg_c ag q6) ho et (by rw [ed1]; exact h1) (by rw [ed1]; exact h2)
      · rw [pk_us, hd]
        by_cases h3 : o < 3
        · rw [if_pos h3, sf_dp_p et h3, ed1]
        · rw [if_neg h3, sf_dp_b et (by omega) ho, ed1]
    · obtain ⟨f', l', r1, r2, r3, r4, r5, r6, r7, r8⟩ := g3 e he
      have ag : ∀ j, j < f' + l' → upd to tc (nI o) j = to j := fun j hj => pk_un (by omega)
      refine ⟨f', l', r1, by rw [pk_un e1]; exact r2, r3, by omega, fun z => absurd z (by omega), sf_lg_c ag r6, ?_, r8⟩
      rw [pk_un e1, sf_dp_c l' ag]; exact r7
  · obtain ⟨a, b, c⟩ := g4 e he
    exact ⟨by rw [pk_un (by omega)]; exact a, by rw [pk_un (by omega)]; exact b, c⟩
theorem sf_V_tok {ec tc k : Nat} {es el ed se to ta : Nat → Int32} (H : sf_E ec tc es el ed se to) {x y z : Int32} {e : Nat} (h : e < ec) (hk : e ≠ k) : sf_V es (upd el k x) (upd to tc y) (upd ta tc z) e = sf_V es el to ta e := by
  obtain ⟨g1, g2, g3, g4⟩ := H
  obtain ⟨f, l, r1, r2, r3, r4, r5, r6, r7, r8⟩ := g3 e h
  funext u v
  unfold sf_V
  rw [pk_un hk, r1, r2, nI_clamp (by omega), nI_clamp (by omega)]
  have q := sf_sk_c (to := to) (to' := upd to tc y) (ta := ta) (ta' := upd ta tc z) (f := f) (x := u) (y := v) l (fun j hj => pk_un (by omega)) (fun j hj => pk_un (by omega))
  rw [q]
theorem sf_E_seal {ec tc k : Nat} {es el ed se to : Nat → Int32} (H : sf_E ec tc es el ed se to) (h : k < ec) : sf_E ec tc es el ed (upd se k 1) to := by
  obtain ⟨g1, g2, g3, g4⟩ := H
  refine ⟨g1, g2, fun e he => ?_, fun e he => ?_⟩
  · obtain ⟨f, l, r1, r2, r3, r4, r5, r6, r7, r8⟩ := g3 e he
    exact ⟨f, l, r1, r2, r3, r4, r5, r6, r7, sf_bu r8 sf_b1⟩
  · obtain ⟨a, b, c⟩ := g4 e he
    exact ⟨a, b, by rw [pk_un (by omega)]; exact c⟩
theorem sf_W_seal {ec k : Nat} {ed se : Nat → Int32} {e : Nat} (h : sf_W ec ed se e) : sf_W ec ed (upd se k 1) e := by
  refine ⟨h.1, ?_, h.2.2⟩
  by_cases z : e = k
  · subst z; exact pk_us
  · rw [pk_un z]; exact h.2.1
/-- well-formed: what both walks ask -/
def sf_wf (es el to ta : Nat → Int32) (e : Nat) (v : Int32 → Int32 → Int32) : Prop := ∃ f l, es e = nI f ∧ el e = nI l ∧ 1 ≤ l ∧ l ≤ 16 ∧ f + l ≤ 128 ∧ sf_lg to f l ∧ sf_dp to f l = 1 ∧ v = fun x y => sf_sk to ta f x y l 0
theorem sf_E_wf {ec tc : Nat} {es el ed se to ta : Nat → Int32} (H : sf_E ec tc es el ed se to) {e : Nat} (he : e < ec) (hd : ed e = 1) : sf_wf es el to ta e (sf_V es el to ta e) := by
  obtain ⟨g1, g2, g3, g4⟩ := H
  obtain ⟨f, l, r1, r2, r3, r4, r5, r6, r7, r8⟩ := g3 e he
  have hb := sf_dp8 r6 l (Nat.le_refl l)
  have e1 : sf_dp to f l = 1 := sf_im (b := 1) (r7.symm.trans hd) (by omega) (by decide)
  have l1 : 1 ≤ l := by
    cases l with
    | zero => exact absurd (show (0 : Nat) = 1 from e1) (by decide)
    | succ l => omega
  refine ⟨f, l, r1, r2, l1, r3, by omega, r6, e1, ?_⟩
  funext x y
  unfold sf_V
  rw [r1, r2, nI_clamp (by omega), nI_clamp (by omega)]
end
end
section
section
/-! lists, as the loops build them -/
theorem sf_getappl : ∀ (l r : List Int32) (i : Nat), i < l.length → (l ++ r).getD i 0 = l.getD i 0
  | [], _, i, h => absurd h (Nat.not_lt_zero i)
  | _ :: _, _, 0, _ => rfl
  | _ :: l, r, i + 1, h => sf_getappl l r i (Nat.lt_of_succ_lt_succ h)
theorem sf_getapp : ∀ (l : List Int32) (x : Int32), (l ++ [x]).getD l.length 0 = x
  | [], _ => rfl
  | _ :: l, x => sf_getapp l x
theorem sf_lenapp (l : List Int32) (x : Int32) : (l ++ [x]).length = l.length + 1 := by rw [List.length_append]; rfl
/-- v holds l from b on -/
def sf_G (v : Nat → Int32) (b : Nat) (l : List Int32) : Prop := ∀ i, i < l.length → v (b + i) = l.getD i 0
theorem sf_G0 {v : Nat → Int32} {b : Nat} : sf_G v b [] := fun i h => absurd h (Nat.not_lt_zero i)
theorem sf_Gapp {v : Nat → Int32} {b : Nat} {l : List Int32} (h : sf_G v b l) (x : Int32) : sf_G (upd v (b + l.length) x) b (l ++ [x]) := by
  intro i hi
  rw [sf_lenapp] at hi
  by_cases e : i = l.length
  · subst e; rw [pk_us, sf_getapp]
  · rw [pk_un (by omega), sf_getappl _ _ _ (by omega)]; exact h i (by omega)
def sf_U (v0 v : Nat → Int32) (b : Nat) : Prop := ∀ j, j < b → v j = v0 j
theorem sf_U0 {v : Nat → Int32} {b : Nat} : sf_U v v b := fun _ _ => rfl
theorem sf_Uapp {v0 v : Nat → Int32} {b k : Nat} {x : Int32} (h : sf_U v0 v b) : sf_U v0 (upd v (b + k) x) b := by
  intro j hj
  rw [pk_un (by omega)]; exact h j hj
def sf_tb (g : Nat → Int32) : Nat → List Int32
  | 0 => []
  | i + 1 => sf_tb g i ++ [g i]
theorem sf_tb_len (g : Nat → Int32) : ∀ m, (sf_tb g m).length = m
  | 0 => rfl
  | m + 1 => by
    show (sf_tb g m ++ [g m]).length = m + 1
    rw [sf_lenapp, sf_tb_len g m]
def sf_mn (a b : Nat) : Nat := if a < b then a else b
theorem sf_mn_l (a b : Nat) : sf_mn a b ≤ a ∧ sf_mn a b ≤ b := by unfold sf_mn; split <;> omega
def sf_cl (x : Int32) : Nat := if x < 0 then 0 else if 8 < x then 8 else x.toNatClampNeg
theorem sf_cl8 (x : Int32) : sf_cl x ≤ 8 := by
  unfold sf_cl
  split
  · omega
  · rename_i h
    split
    · omega
    · rename_i h2
      obtain ⟨j, hj, rfl⟩ := nI_of h
      rw [nI_clamp hj]
      by_cases z : j ≤ 8
      · exact z
      · exact absurd (nI_lt (a := 8) (b := j) (by omega) hj) h2
def sf_ft (f : Int32 → Int32) (l : List Int32) : Nat → List Int32
  | 0 => []
  | i + 1 => if f (l.getD i 0) = 0 then sf_ft f l i else sf_ft f l i ++ [l.getD i 0]
theorem sf_ft_len (f : Int32 → Int32) (l : List Int32) : ∀ m, (sf_ft f l m).length ≤ m
  | 0 => Nat.le_refl 0
  | m + 1 => by
    have ih := sf_ft_len f l m
    show (if f (l.getD m 0) = 0 then sf_ft f l m else sf_ft f l m ++ [l.getD m 0]).length ≤ m + 1
    split
    · omega
    · rw [sf_lenapp]; omega
def sf_ac (f : Int32 → Int32 → Int32) (a : Int32) (l : List Int32) : Nat → Int32
  | 0 => a
  | i + 1 => f (sf_ac f a l i) (l.getD i 0)
def sf_cm (f : Int32 → Int32) (g : Int32 → Int32 → Int32) (l : List Int32) : Nat → List Int32
  | 0 => []
  | i + 1 => sf_cm f g l i ++ sf_tb (fun j => g (l.getD i 0) (nI j)) (sf_cl (f (l.getD i 0)))
theorem sf_cm_len (f : Int32 → Int32) (g : Int32 → Int32 → Int32) (l : List Int32) : ∀ m, (sf_cm f g l m).length ≤ 8 * m
  | 0 => Nat.le_refl 0
  | m + 1 => by
    have ih := sf_cm_len f g l m
    show (sf_cm f g l m ++ sf_tb (fun j => g (l.getD m 0) (nI j)) (sf_cl (f (l.getD m 0)))).length ≤ 8 * (m + 1)
    rw [List.length_append, sf_tb_len]
    have := sf_cl8 (f (l.getD m 0))
    omega
/-! one node: its kind, its sources, its list, its tree -/
def sf_K (V : Nat → Int32 → Int32 → Int32) (W : Nat → Prop) (LS : Nat → List Int32) (SZ : Nat → Nat) (hc : Nat → Int32) (n : Nat) (k a b e1 e2 p1 p2 : Int32) : Prop :=
  (k = 1 ∧ a = -1 ∧ b = -1 ∧ SZ n = 1 ∧ hc n = 0 ∧ ∃ m, m ≤ 16 ∧ p2 = nI m ∧ LS n = sf_tb (fun i => p1 + nI i) m) ∨
  (∃ s e, s < n ∧ a = nI s ∧ b = -1 ∧ SZ n = SZ s + 1 ∧ hc n = hc s ∧ W e ∧ e1 = nI e ∧ (
      (k = 2 ∧ LS n = sf_tb (fun i => V e ((LS s).getD i 0) 0) (LS s).length)
    ∨ (k = 3 ∧ LS n = sf_ft (fun v => V e v 0) (LS s) (LS s).length)
    ∨ (k = 4 ∧ LS n = sf_tb (fun i => sf_ac (V e) p1 (LS s) (i + 1)) (LS s).length))) ∨
  (∃ s m, s < n ∧ a = nI s ∧ b = -1 ∧ SZ n = SZ s + 1 ∧ hc n = hc s ∧ m < 2 ^ 31 ∧ p1 = nI m ∧ (
      (k = 6 ∧ LS n = sf_tb (fun i => (LS s).getD (0 + i) 0) (sf_mn m (LS s).length))
    ∨ (k = 7 ∧ LS n = sf_tb (fun i => (LS s).getD (sf_mn m (LS s).length + i) 0) ((LS s).length - sf_mn m (LS s).length)))) ∨
  (∃ s e f, s < n ∧ a = nI s ∧ b = -1 ∧ SZ n = SZ s + 1 ∧ hc n = 1 ∧ hc s = 0 ∧ W e ∧ e1 = nI e ∧ W f ∧ e2 = nI f ∧ k = 8 ∧ LS n = sf_cm (fun v => V e v 0) (V f) (LS s) (LS s).length) ∨
  (∃ s t e, s < n ∧ t < n ∧ a = nI s ∧ b = nI t ∧ SZ n = SZ s + SZ t + 1 ∧ hc n = (hc s ||| hc t) ∧ W e ∧ e1 = nI e ∧ k = 5 ∧ LS n = sf_tb (fun i => V e ((LS s).getD i 0) ((LS t).getD i 0)) (sf_mn (LS s).length (LS t).length))
theorem sf_K_c {V V' : Nat → Int32 → Int32 → Int32} {W W' : Nat → Prop} {LS LS' : Nat → List Int32} {SZ SZ' : Nat → Nat} {hc hc' : Nat → Int32} {n : Nat} {k a b e1 e2 p1 p2 : Int32} (hV : ∀ e, W e → V' e = V e) (hW : ∀ e, W e → W' e) (hL : ∀ s, s ≤ n → LS' s = LS s) (hS : ∀ s, s ≤ n → SZ' s = SZ s) (hh : ∀ s, s ≤ n → hc' s = hc s) (H : sf_K V W LS SZ hc n k a b e1 e2 p1 p2) : sf_K V' W' LS' SZ' hc' n k a b e1 e2 p1 p2 := by
  have Ln := hL n (Nat.le_refl n)
  have Sn := hS n (Nat.le_refl n)
  have Cn := hh n (Nat.le_refl n)
  rcases H with ⟨h1, h2, h3, h4, h5, m, hm, h6, h7⟩ | ⟨s, e, hs, h1, h2, h3, h4, we, h5, h6⟩ | ⟨s, m, hs, h1, h2, h3, h4, hm, h5, h6⟩ | ⟨s, e, f, hs, h1, h2, h3, h4, h5, we, h6, wf, h7, h8, h9⟩ | ⟨s, t, e, hs, ht, h1, h2, h3, h4, we, h5, h6, h7⟩
  · exact Or.inl ⟨h1, h2, h3, Sn.trans h4, Cn.trans h5, m, hm, h6, Ln.trans h7⟩
  · refine Or.inr (Or.inl ⟨s, e, hs, h1, h2, ?_, ?_, hW e we, h5, ?_⟩)
    · rw [Sn, hS s (by omega)]; exact h3
    · rw [Cn, hh s (by omega)]; exact h4
    · rw [Ln, hL s (by omega), hV e we]; exact h6
  · refine Or.inr (Or.inr (Or.inl ⟨s, m, hs, h1, h2, ?_, ?_, hm, h5, ?_⟩))
    · rw [Sn, hS s (by omega)]; exact h3
    · rw [Cn, hh s (by omega)]; exact h4
    · rw [Ln, hL s (by omega)]; exact h6
  · refine Or.inr (Or.inr (Or.inr (Or.inl ⟨s, e, f, hs, h1, h2, ?_, ?_, ?_, hW e we, h6, hW f wf, h7, h8, ?_⟩)))
    · rw [Sn, hS s (by omega)]; exact h3
    · rw [Cn]; exact h4
    · rw [hh s (by omega)]; exact h5
    · rw [Ln, hL s (by omega), hV e we, hV f wf]; exact h9
  · refine Or.inr (Or.inr (Or.inr (Or.inr ⟨s, t, e, hs, ht, h1, h2, ?_, ?_, hW e we, h5, h6, ?_⟩)))
    · rw [Sn, hS s (by omega), hS t (by omega)]; exact h3
    · rw [Cn, hh s (by omega), hh t (by omega)]; exact h4
    · rw [Ln, hL s (by omega), hL t (by omega), hV e we]; exact h7
/-! all nodes -/
def sf_sm (us : Nat → Int32) (SZ : Nat → Nat) : Nat → Nat
  | 0 => 0
  | n + 1 => sf_sm us SZ n + (if us n = 0 then SZ n else 0)
theorem sf_sm_c {us us' : Nat → Int32} {SZ SZ' : Nat → Nat} : ∀ n, (∀ j, j < n → us' j = us j) → (∀ j, j < n → SZ' j = SZ j) → sf_sm us' SZ' n = sf_sm us SZ n
  | 0, _, _ => rfl
  | n + 1, h, g => by
    show sf_sm us' SZ' n + (if us' n = 0 then SZ' n else 0) = sf_sm us SZ n + (if us n = 0 then SZ n else 0)
    rw [sf_sm_c n (fun j hj => h j (by omega)) (fun j hj => g j (by omega)), h n (by omega), g n (by omega)]
theorem sf_sm_u {us : Nat → Int32} {SZ : Nat → Nat} {s : Nat} (h : us s = 0) : ∀ n, s < n → sf_sm (upd us s 1) SZ n + SZ s = sf_sm us SZ n
  | 0, hn => absurd hn (Nat.not_lt_zero s)
  | n + 1, hn => by
    show sf_sm (upd us s 1) SZ n + (if upd us s 1 n = 0 then SZ n else 0) + SZ s = sf_sm us SZ n + (if us n = 0 then SZ n else 0)
    by_cases e : s = n
    · subst e
      rw [pk_us, if_neg sf_n10, if_pos h, sf_sm_c (us := us) (SZ := SZ) s (fun j hj => pk_un (by omega)) (fun _ _ => rfl)]
      omega
    · have ih := sf_sm_u (SZ := SZ) h n (by omega)
      rw [pk_un (fun z => e z.symm)]
      omega
/-- what is known of node n -/
def sf_N1 (V : Nat → Int32 → Int32 → Int32) (W : Nat → Prop) (nc n : Nat) (kd sa sb e1 e2 p1 p2 us hc ts nl it : Nat → Int32) (LS : Nat → List Int32) (SZ : Nat → Nat) : Prop :=
  sf_K V W LS SZ hc n (kd n) (sa n) (sb n) (e1 n) (e2 n) (p1 n) (p2 n) ∧ nl n = nI (LS n).length ∧ (LS n).length ≤ 128 ∧ (hc n = 0 → (LS n).length ≤ 16) ∧ sf_G it (n * 128) (LS n) ∧ ts n = nI (SZ n) ∧ 1 ≤ SZ n ∧ SZ n ≤ nc ∧ sf_b (hc n) ∧ sf_b (us n)
def sf_N (V : Nat → Int32 → Int32 → Int32) (W : Nat → Prop) (nc : Nat) (kd sa sb e1 e2 p1 p2 us hc ts nl it : Nat → Int32) (LS : Nat → List Int32) (SZ : Nat → Nat) : Prop :=
  nc ≤ 16 ∧ (∀ n, n < nc → sf_N1 V W nc n kd sa sb e1 e2 p1 p2 us hc ts nl it LS SZ) ∧ (∀ n, nc ≤ n → us n = 0 ∧ nl n = 0) ∧ sf_sm us SZ nc ≤ nc
theorem sf_N0 {V : Nat → Int32 → Int32 → Int32} {W : Nat → Prop} {LS : Nat → List Int32} {SZ : Nat → Nat} : sf_N V W 0 (fun _ => 0) (fun _ => 0) (fun _ => 0) (fun _ => 0) (fun _ => 0) (fun _ => 0) (fun _ => 0) (fun _ => 0) (fun _ => 0) (fun _ => 0) (fun _ => 0) (fun _ => 0) LS SZ :=
  ⟨by decide, fun _ h => absurd h (Nat.not_lt_zero _), fun _ _ => ⟨rfl, rfl⟩, Nat.le_refl 0⟩
section
variable {V V' : Nat → Int32 → Int32 → Int32} {W W' : Nat → Prop} {nc : Nat} {kd sa sb e1 e2 p1 p2 us hc ts nl it : Nat → Int32} {LS : Nat → List Int32} {SZ : Nat → Nat}
theorem sf_N_VW (hV : ∀ e, W e → V' e = V e) (hW : ∀ e, W e → W' e) (H : sf_N V W nc kd sa sb e1 e2 p1 p2 us hc ts nl it LS SZ) : sf_N V' W' nc kd sa sb e1 e2 p1 p2 us hc ts nl it LS SZ := by
  obtain ⟨h1, h2, h3, h4⟩ := H
  exact ⟨h1, fun n hn => ⟨sf_K_c hV hW (fun _ _ => rfl) (fun _ _ => rfl) (fun _ _ => rfl) (h2 n hn).1, (h2 n hn).2⟩, h3, h4⟩
def sf_gu {α : Type} (f : Nat → α) (n : Nat) (x : α) : Nat → α := fun j => if j = n then x else f j
theorem sf_gus {α : Type} {f : Nat → α} {n : Nat} {x : α} : sf_gu f n x n = x := if_pos rfl
theorem sf_gun {α : Type} {f : Nat → α} {n j : Nat} {x : α} (h : j ≠ n) : sf_gu f n x j = f j := if_neg h
/-- a new node at nc -/
theorem sf_N_add (H : sf_N V W nc kd sa sb e1 e2 p1 p2 us hc ts nl it LS SZ) (hn : nc < 16) {k a b e f p q : Int32} {us' it' : Nat → Int32} {L : List Int32} {z : Nat} {c : Int32}
    (hK : sf_K V W (sf_gu LS nc L) (sf_gu SZ nc z) (upd hc nc c) nc k a b e f p q)
    (hL : L.length ≤ 128) (hL2 : c = 0 → L.length ≤ 16) (hc1 : sf_b c) (hi : sf_U it it' (nc * 128)) (hg : sf_G it' (nc * 128) L)
    (hz : 1 ≤ z) (hu : ∀ j, sf_b (us j) → sf_b (us' j)) (hu0 : ∀ j, nc ≤ j → us' j = us j) (hs : sf_sm us' SZ nc + z ≤ nc + 1) :
    sf_N V W (nc + 1) (upd kd nc k) (upd sa nc a) (upd sb nc b) (upd e1 nc e) (upd e2 nc f) (upd p1 nc p) (upd p2 nc q) us' (upd hc nc c) (upd ts nc (nI z)) (upd nl nc (nI L.length)) it' (sf_gu LS nc L) (sf_gu SZ nc z) := by
  obtain ⟨h1, h2, h3, h4⟩ := H
  refine ⟨by omega, fun n hn' => ?_, fun n hn' => ?_, ?_⟩
  · by_cases en : n = nc
    · subst en
      refine ⟨?_, ?_, ?_, ?_, ?_, ?_, ?_, ?_, ?_, ?_⟩
      · rw [pk_us, pk_us, pk_us, pk_us, pk_us, pk_us, pk_us]; exact hK
      · rw [pk_us, sf_gus]
      · rw [sf_gus]; exact hL
      · rw [pk_us, sf_gus]; exact hL2
      · rw [sf_gus]; exact hg
      · rw [pk_us, sf_gus]
      · rw [sf_gus]; exact hz
      · rw [sf_gus]; omega
      · rw [pk_us]; exact hc1
      · exact hu n (Or.inl (h3 n (Nat.le_refl n)).1)
    · obtain ⟨g1, g2, g3, g4, g5, g6, g7, g8, g9, g10⟩ := h2 n (by omega)
      refine ⟨?_, ?_, ?_, ?_, ?_, ?_, ?_, ?_, ?_, ?_⟩
      · rw [pk_un en, pk_un en, pk_un en, pk_un en, pk_un en, pk_un en, pk_un en]
        exact sf_K_c (fun _ _ => rfl) (fun _ h => h) (fun s hs => sf_gun (by omega)) (fun s hs => sf_gun (by omega)) (fun s hs => pk_un (by omega)) g1
      · rw [pk_un en, sf_gun en]; exact g2
      · rw [sf_gun en]; exact g3
      · rw [pk_un en, sf_gun en]; exact g4
      · rw [sf_gun en]
        intro i hi'
        have c1 := Nat.mul_le_mul_right 128 (show n + 1 ≤ nc by omega)
        rw [hi (n * 128 + i) (by omega)]
        exact g5 i hi'
      · rw [pk_un en, sf_gun en]; exact g6
      · rw [sf_gun en]; exact g7
      · rw [sf_gun en]; omega
      · rw [pk_un en]; exact g9
      · exact hu n g10
  · obtain ⟨a1, a2⟩ := h3 n (by omega)
    exact ⟨(hu0 n (by omega)).trans a1, by rw [pk_un (by omega)]; exact a2⟩
  · show sf_sm us' (sf_gu SZ nc z) nc + (if us' nc = 0 then sf_gu SZ nc z nc else 0) ≤ nc + 1
    rw [sf_sm_c (us := us') (SZ := SZ) nc (fun _ _ => rfl) (fun j hj => sf_gun (by omega)), sf_gus, if_pos ((hu0 nc (Nat.le_refl nc)).trans (h3 nc (Nat.le_refl nc)).1)]
    exact hs
end
end
end
section
section
/-! a new node: its sources -/
section
variable {V V' : Nat → Int32 → Int32 → Int32} {W W' : Nat → Prop} {nc : Nat} {kd sa sb e1 e2 p1 p2 us hc ts nl it : Nat → Int32} {LS : Nat → List Int32} {SZ : Nat → Nat}
def sf_o : Option Nat → Int32
  | none => -1
  | some s => nI s
def sf_su (a : Nat → Int32) : Option Nat → Nat → Int32
  | none => a
  | some s => upd a s 1
def sf_oz (SZ : Nat → Nat) : Option Nat → Nat
  | none => 0
  | some s => SZ s
def sf_oh (hc : Nat → Int32) : Option Nat → Int32
  | none => 0
  | some s => hc s
theorem sf_updd {a : Nat → Int32} {k : Nat} {x y : Int32} : upd (upd a k x) k y = upd a k y := by
  funext j
  by_cases e : j = k
  · subst e; rw [pk_us, pk_us]
  · rw [pk_un e, pk_un e, pk_un e]
theorem sf_su_b {o : Option Nat} {j : Nat} (h : sf_b (us j)) : sf_b (sf_su us o j) := by
  cases o with
  | none => exact h
  | some s => exact sf_bu h sf_b1
theorem sf_su_o {o : Option Nat} {j : Nat} (h : ∀ s, o = some s → s ≠ j) : sf_su us o j = us j := by
  cases o with
  | none => rfl
  | some s => exact pk_un (fun e => h s rfl e.symm)
theorem sf_sm_o {o : Option Nat} (h : ∀ s, o = some s → s < nc ∧ us s = 0) : sf_sm (sf_su us o) SZ nc + sf_oz SZ o = sf_sm us SZ nc := by
  cases o with
  | none => rfl
  | some s => exact sf_sm_u (h s rfl).2 nc (h s rfl).1
theorem sf_N_ad (H : sf_N V W nc kd sa sb e1 e2 p1 p2 us hc ts nl it LS SZ) (hn : nc < 16) {k e f p q : Int32} {a b : Option Nat} {it' : Nat → Int32} {L : List Int32} {z : Nat} {c : Int32}
    (ha : ∀ s, a = some s → s < nc ∧ us s = 0) (hb : ∀ s, b = some s → s < nc ∧ us s = 0) (hab : ∀ s, a = some s → b ≠ some s)
    (hK : sf_K V W (sf_gu LS nc L) (sf_gu SZ nc z) (upd hc nc c) nc k (sf_o a) (sf_o b) e f p q)
    (hL : L.length ≤ 128) (hL2 : c = 0 → L.length ≤ 16) (hc1 : sf_b c) (hi : sf_U it it' (nc * 128)) (hg : sf_G it' (nc * 128) L)
    (hz : z = 1 + sf_oz SZ a + sf_oz SZ b) :
    sf_N V W (nc + 1) (upd kd nc k) (upd sa nc (sf_o a)) (upd sb nc (sf_o b)) (upd e1 nc e) (upd e2 nc f) (upd p1 nc p) (upd p2 nc q) (sf_su (sf_su us a) b) (upd hc nc c) (upd ts nc (nI z)) (upd nl nc (nI L.length)) it' (sf_gu LS nc L) (sf_gu SZ nc z) := by
  have hb' : ∀ s, b = some s → s < nc ∧ sf_su us a s = 0 := by
    intro s hs
    refine ⟨(hb s hs).1, ?_⟩
    rw [sf_su_o (fun t ht e => hab t ht (by rw [hs, e]))]
    exact (hb s hs).2
  have s1 := sf_sm_o (SZ := SZ) ha
  have s2 := sf_sm_o (SZ := SZ) hb'
  have s0 := H.2.2.2
  refine sf_N_add H hn hK hL hL2 hc1 hi hg (by omega) (fun j h => sf_su_b (sf_su_b h)) (fun j hj => ?_) (by omega)
  rw [sf_su_o (fun t ht => by have := (hb t ht).1; omega), sf_su_o (fun t ht => by have := (ha t ht).1; omega)]
end
/-! the stack of an evaluation -/
def sf_A (s g : Nat → Int32) (d : Nat) : Prop := ∀ i, i < d → s i = g i
theorem sf_A0 {s g : Nat → Int32} : sf_A s g 0 := fun i h => absurd h (Nat.not_lt_zero i)
theorem sf_A_p {to ta s : Nat → Int32} {f m o : Nat} {x y : Int32} (e : to (f + m) = nI o) (ho : o < 3) (h : sf_A s (sf_sk to ta f x y m) (sf_dp to f m)) : sf_A (upd s (sf_dp to f m) (sf_opd (nI o) (ta (f + m)) x y)) (sf_sk to ta f x y (m + 1)) (sf_dp to f (m + 1)) := by
  intro i hi
  rw [sf_dp_p e ho] at hi
  rw [sf_sk_p e ho]
  by_cases z : i = sf_dp to f m
  · rw [z, pk_us, pk_us]
  · rw [pk_un z, pk_un z]; exact h i (by omega)
theorem sf_A_b {to ta s : Nat → Int32} {f m o : Nat} {x y : Int32} (e : to (f + m) = nI o) (ho : 3 ≤ o) (h2 : o < 10) (hd : 2 ≤ sf_dp to f m) (h : sf_A s (sf_sk to ta f x y m) (sf_dp to f m)) : sf_A (upd s (sf_dp to f m - 2) (sf_cmb (nI o) (s (sf_dp to f m - 2)) (s (sf_dp to f m - 1)))) (sf_sk to ta f x y (m + 1)) (sf_dp to f (m + 1)) := by
  intro i hi
  rw [sf_dp_b e ho h2] at hi
  rw [sf_sk_b e ho h2, h (sf_dp to f m - 2) (by omega), h (sf_dp to f m - 1) (by omega)]
  by_cases z : i = sf_dp to f m - 2
  · rw [z, pk_us, pk_us]
  · rw [pk_un z, pk_un z]; exact h i (by omega)
/-! the walk over a tree -/
def sf_qs (SZ : Nat → Nat) (w : Nat → Int32) : Nat → Nat
  | 0 => 0
  | i + 1 => sf_qs SZ w i + SZ (w i).toNatClampNeg
def sf_qm (hc w : Nat → Int32) : Nat → Prop
  | 0 => False
  | i + 1 => sf_qm hc w i ∨ hc (w i).toNatClampNeg = 1
theorem sf_qs_c {SZ : Nat → Nat} {w w' : Nat → Int32} : ∀ n, (∀ i, i < n → w' i = w i) → sf_qs SZ w' n = sf_qs SZ w n
  | 0, _ => rfl
  | n + 1, h => by
    show sf_qs SZ w' n + SZ (w' n).toNatClampNeg = sf_qs SZ w n + SZ (w n).toNatClampNeg
    rw [sf_qs_c n (fun i hi => h i (by omega)), h n (by omega)]
theorem sf_qm_c {hc w w' : Nat → Int32} : ∀ n, (∀ i, i < n → w' i = w i) → sf_qm hc w' n = sf_qm hc w n
  | 0, _ => rfl
  | n + 1, h => by
    show (sf_qm hc w' n ∨ hc (w' n).toNatClampNeg = 1) = (sf_qm hc w n ∨ hc (w n).toNatClampNeg = 1)
    rw [sf_qm_c n (fun i hi => h i (by omega)), h n (by omega)]
theorem sf_qs_s {SZ : Nat → Nat} {w : Nat → Int32} {j n : Nat} (e : w j = nI n) (hn : n < 16) : sf_qs SZ w (j + 1) = sf_qs SZ w j + SZ n := by
  show sf_qs SZ w j + SZ (w j).toNatClampNeg = _
  rw [e, nI_clamp (by omega)]
theorem sf_qm_s {hc w : Nat → Int32} {j n : Nat} (e : w j = nI n) (hn : n < 16) : sf_qm hc w (j + 1) = (sf_qm hc w j ∨ hc n = 1) := by
  show (sf_qm hc w j ∨ hc (w j).toNatClampNeg = 1) = _
  rw [e, nI_clamp (by omega)]
def sf_q (nc : Nat) (w : Nat → Int32) (sp : Nat) : Prop := ∀ i, i < sp → ∃ m, m < nc ∧ w i = nI m
theorem sf_qs_ge {SZ : Nat → Nat} {nc : Nat} {w : Nat → Int32} (hn : nc ≤ 16) (h1 : ∀ m, m < nc → 1 ≤ SZ m) : ∀ n, sf_q nc w n → n ≤ sf_qs SZ w n
  | 0, _ => Nat.le_refl 0
  | n + 1, h => by
    obtain ⟨m, hm, e⟩ := h n (by omega)
    rw [sf_qs_s e (by omega)]
    have := sf_qs_ge hn h1 n (fun i hi => h i (by omega))
    have := h1 m hm
    omega
def sf_wI (nc : Nat) (SZ : Nat → Nat) (hc w : Nat → Int32) (sp c : Nat) (wm : Int32) (r : Nat) : Prop :=
  sf_q nc w sp ∧ c + sf_qs SZ w sp = SZ r ∧ sf_b wm ∧ ((wm = 1 ∨ sf_qm hc w sp) ↔ hc r = 1)
section
variable {nc : Nat} {SZ : Nat → Nat} {hc w : Nat → Int32} {j c : Nat} {wm : Int32} {r n s t : Nat}
theorem sf_w0 (hn : nc ≤ 16) (hr : r < nc) : sf_wI nc SZ hc (upd w 0 (nI r)) 1 0 0 r := by
  have e : upd w 0 (nI r) 0 = nI r := pk_us
  refine ⟨fun i hi => ⟨r, hr, ?_⟩, ?_, sf_b0, ?_⟩
  · rw [show i = 0 from by omega]; exact e
  · have q := sf_qs_s (SZ := SZ) e (show r < 16 by omega)
    have q0 : sf_qs SZ (upd w 0 (nI r)) 0 = 0 := rfl
    show 0 + sf_qs SZ (upd w 0 (nI r)) (0 + 1) = SZ r
    omega
  · show ((0 : Int32) = 1 ∨ (sf_qm hc (upd w 0 (nI r)) 0 ∨ hc ((upd w 0 (nI r)) 0).toNatClampNeg = 1)) ↔ hc r = 1
    rw [e, nI_clamp (by omega)]
    constructor
    · rintro (h | h | h)
      · exact absurd h sf_n01
      · exact (show False from h).elim
      · exact h
    · intro h; exact Or.inr (Or.inr h)
theorem sf_we (H : sf_wI nc SZ hc w 0 c wm r) (hb : sf_b (hc r)) : c = SZ r ∧ wm = hc r := by
  obtain ⟨-, h2, h3, h4⟩ := H
  refine ⟨by have q : sf_qs SZ w 0 = 0 := rfl
             omega, ?_⟩
  rcases h3 with h | h
  · rcases hb with g | g
    · rw [h, g]
    · rcases h4.mpr g with z | z
      · rw [g]; exact z
      · exact (show False from z).elim
  · rw [h]; exact (h4.mp (Or.inl h)).symm
theorem sf_ws0 (hn : nc ≤ 16) (H : sf_wI nc SZ hc w (j + 1) c wm r) (e : w j = nI n) (hlt : n < nc) (hz : SZ n = 1) (hh : hc n = 0) : sf_wI nc SZ hc w j (c + 1) wm r := by
  obtain ⟨h1, h2, h3, h4⟩ := H
  rw [sf_qs_s e (by omega)] at h2
  rw [sf_qm_s e (by omega), hh] at h4
  refine ⟨fun i hi => h1 i (by omega), by omega, h3, ?_⟩
  rw [← h4]
  constructor
  · rintro (h | h)
    · exact Or.inl h
    · exact Or.inr (Or.inl h)
  · rintro (h | h | h)
    · exact Or.inl h
    · exact Or.inr h
    · exact absurd h sf_n01
theorem sf_ws1 (hn : nc ≤ 16) (H : sf_wI nc SZ hc w (j + 1) c wm r) (e : w j = nI n) (hlt : n < nc) (hs : s < nc) (hz : SZ n = SZ s + 1) (hh : hc n = hc s) : sf_wI nc SZ hc (upd w j (nI s)) (j + 1) (c + 1) wm r := by
  obtain ⟨h1, h2, h3, h4⟩ := H
  have e' : upd w j (nI s) j = nI s := pk_us
  have ag : ∀ i, i < j → upd w j (nI s) i = w i := fun i hi => pk_un (by omega)
  rw [sf_qs_s e (by omega)] at h2
  rw [sf_qm_s e (by omega), hh] at h4
  refine ⟨fun i hi => ?_, ?_, h3, ?_⟩
  · by_cases z : i = j
    · subst z; exact ⟨s, hs, e'⟩
    · rw [pk_un z]; exact h1 i (by omega)
  · rw [sf_qs_s e' (by omega), sf_qs_c j ag]; omega
  · rw [sf_qm_s e' (by omega), sf_qm_c j ag]; exact h4
theorem sf_ws8 (hn : nc ≤ 16) (H : sf_wI nc SZ hc w (j + 1) c wm r) (e : w j = nI n) (hlt : n < nc) (hs : s < nc) (hz : SZ n = SZ s + 1) (hh : hc n = 1) : sf_wI nc SZ hc (upd w j (nI s)) (j + 1) (c + 1) 1 r := by
  obtain ⟨h1, h2, h3, h4⟩ := H
  have e' : upd w j (nI s) j = nI s := pk_us
  have ag : ∀ i, i < j → upd w j (nI s) i = w i := fun i hi => pk_un (by omega)
  rw [sf_qs_s e (by omega)] at h2
  rw [sf_qm_s e (by omega), hh] at h4
  refine ⟨fun i hi => ?_, ?_, sf_b1, ?_⟩
  · by_cases z : i = j
    · subst z; exact ⟨s, hs, e'⟩
    · rw [pk_un z]; exact h1 i (by omega)
  · rw [sf_qs_s e' (by omega), sf_qs_c j ag]; omega
  · exact ⟨fun _ => h4.mp (Or.inr (Or.inr rfl)), fun _ => Or.inl rfl⟩
theorem sf_ws2 (hn : nc ≤ 16) (H : sf_wI nc SZ hc w (j + 1) c wm r) (e : w j = nI n) (hlt : n < nc) (hs : s < nc) (ht : t < nc) (hz : SZ n = SZ s + SZ t + 1) (hh : hc n = 1 ↔ (hc s = 1 ∨ hc t = 1)) : sf_wI nc SZ hc (upd (upd w j (nI s)) (j + 1) (nI t)) (j + 2) (c + 1) wm r := by
  obtain ⟨h1, h2, h3, h4⟩ := H
  have e1 : upd (upd w j (nI s)) (j + 1) (nI t) j = nI s := by rw [pk_un (by omega)]; exact pk_us
  have e2 : upd (upd w j (nI s)) (j + 1) (nI t) (j + 1) = nI t := pk_us
  have ag : ∀ i, i < j → upd (upd w j (nI s)) (j + 1) (nI t) i = w i := fun i hi => by rw [pk_un (by omega), pk_un (by omega)]
  rw [sf_qs_s e (by omega)] at h2
  rw [sf_qm_s e (by omega), hh] at h4
  refine ⟨fun i hi => ?_, ?_, h3, ?_⟩
  · by_cases z : i = j + 1
    · subst z; exact ⟨t, ht, e2⟩
    · by_cases z2 : i = j
      · subst z2; exact ⟨s, hs, e1⟩
      · rw [ag i (by omega)]; exact h1 i (by omega)
  · rw [sf_qs_s e2 (by omega), sf_qs_s e1 (by omega), sf_qs_c j ag]; omega
  · rw [sf_qm_s e2 (by omega), sf_qm_s e1 (by omega), sf_qm_c j ag, ← h4]
    constructor
    · rintro (h | (h | h) | h)
      · exact Or.inl h
      · exact Or.inr (Or.inl h)
      · exact Or.inr (Or.inr (Or.inl h))
      · exact Or.inr (Or.inr (Or.inr h))
    · rintro (h | h | h | h)
      · exact Or.inl h
      · exact Or.inr (Or.inl (Or.inl h))
      · exact Or.inr (Or.inl (Or.inr h))
      · exact Or.inr (Or.inr h)
theorem sf_wroom (hn : nc ≤ 16) (h1 : ∀ m, m < nc → 1 ≤ SZ m) (hr : SZ r ≤ nc) (H : sf_wI nc SZ hc w (j + 1) c wm r) (e : w j = nI n) (hlt : n < nc) : c + j + SZ n ≤ 16 := by
  obtain ⟨g1, g2, -, -⟩ := H
  rw [sf_qs_s e (by omega)] at g2
  have := sf_qs_ge hn h1 j (fun i hi => g1 i (by omega))
  omega
end
/-! what the reference's tables hold once the first m nodes are reckoned -/
def sf_H (v l : Nat → Int32) (LS : Nat → List Int32) (m : Nat) : Prop := ∀ s, s < m → l s = nI (LS s).length ∧ sf_G v (s * 128) (LS s)
theorem sf_H0 {v l : Nat → Int32} {LS : Nat → List Int32} : sf_H v l LS 0 := fun s h => absurd h (Nat.not_lt_zero s)
theorem sf_H_s {v v' l : Nat → Int32} {LS : Nat → List Int32} {m : Nat} (hl : ∀ s, s < m → (LS s).length ≤ 128) (h : sf_H v l LS m) (hu : sf_U v v' (m * 128)) (hg : sf_G v' (m * 128) (LS m)) : sf_H v' (upd l m (nI (LS m).length)) LS (m + 1) := by
  intro s hs
  by_cases e : s = m
  · subst e; exact ⟨pk_us, hg⟩
  · refine ⟨by rw [pk_un e]; exact (h s (by omega)).1, fun i hi => ?_⟩
    have b := hl s (by omega)
    have c := Nat.mul_le_mul_right 128 (show s + 1 ≤ m by omega)
    rw [hu _ (by omega)]
    exact (h s (by omega)).2 i hi
theorem sf_H_g {v v' l : Nat → Int32} {LS : Nat → List Int32} {m s i : Nat} (hl : (LS s).length ≤ 128) (h : sf_H v l LS m) (hs : s < m) (hu : sf_U v v' (m * 128)) (hi : i < (LS s).length) : v' (s * 128 + i) = (LS s).getD i 0 := by
  have c := Nat.mul_le_mul_right 128 (show s + 1 ≤ m by omega)
  rw [hu _ (by omega)]
  exact (h s hs).2 i hi
/-! the run -/
def sf_R (nc : Nat) (LS : Nat → List Int32) (xr xm xt xe ac en ro mo tt : Int32) : Prop :=
  (ac = 0 ∧ xr = -1 ∧ xm = -1 ∧ xt = 0 ∧ xe = 0) ∨ (ac = 1 ∧ ro = xr ∧ mo = xm ∧ tt = xt ∧ en = xe ∧ sf_b xe ∧ ∃ r t, r < nc ∧ xr = nI r ∧ t ≤ (LS r).length ∧ xt = nI t)
theorem sf_R_add {nc : Nat} {LS : Nat → List Int32} {L : List Int32} {xr xm xt xe ac en ro mo tt : Int32} (h : sf_R nc LS xr xm xt xe ac en ro mo tt) : sf_R (nc + 1) (sf_gu LS nc L) xr xm xt xe ac en ro mo tt := by
  rcases h with h | ⟨h1, h2, h3, h4, h5, h6, r, t, h7, h8, h9, h10⟩
  · exact Or.inl h
  · exact Or.inr ⟨h1, h2, h3, h4, h5, h6, r, t, by omega, h8, by rw [sf_gun (by omega)]; exact h9, h10⟩
end
end
section
section
variable {NC EC OC tc ec nc : Nat} {xr xm xt xe wc wm ac en ro mo tt : Int32} {to ta es el ed se sx kd sa sb ex1 ex2 pm1 pm2 us hc ts nl it ys yw yv yl : Nat → Int32}
def sf_I (NC EC OC nc ec tc : Nat) (to ta es el ed se kd sa sb ex1 ex2 pm1 pm2 us hc ts nl it : Nat → Int32) (xr xm xt xe ac en ro mo tt : Int32) : Prop :=
  4 ≤ NC ∧ NC ≤ 16 ∧ EC ≤ 16 ∧ 8 ≤ OC ∧ OC ≤ 32 ∧ nc ≤ NC ∧ ec ≤ EC ∧ sf_E ec tc es el ed se to ∧ ∃ (LS : Nat → List Int32) (SZ : Nat → Nat), sf_N (sf_V es el to ta) (sf_W ec ed se) nc kd sa sb ex1 ex2 pm1 pm2 us hc ts nl it LS SZ ∧ sf_R nc LS xr xm xt xe ac en ro mo tt
def i_Rel (k : Nat) (u : SX) (v : SY) : Prop := ∃ (NC EC OC tc ec nc : Nat) (xr xm xt xe : Int32) (to ta es el ed se sx kd sa sb ex1 ex2 pm1 pm2 us hc ts nl it : Nat → Int32) (wc wm ac en ro mo tt : Int32) (ys yw yv yl : Nat → Int32), u = (nI NC, nI EC, nI OC, nI tc, nI ec, nI nc, xr, xm, xt, xe, to, ta, es, el, ed, se, sx, kd, sa, sb, ex1, ex2, pm1, pm2, us, hc, ts, nl, it) ∧ v = (nI NC, nI EC, nI OC, nI nc, nI ec, nI tc, wc, wm, ac, en, ro, mo, tt, kd, sa, sb, ex1, ex2, pm1, pm2, us, es, el, ed, se, to, ta, ys, yw, yv, yl) ∧ sf_I NC EC OC nc ec tc to ta es el ed se kd sa sb ex1 ex2 pm1 pm2 us hc ts nl it xr xm xt xe ac en ro mo tt
theorem sf_mk {k : Nat} (I : sf_I NC EC OC nc ec tc to ta es el ed se kd sa sb ex1 ex2 pm1 pm2 us hc ts nl it xr xm xt xe ac en ro mo tt) : i_Rel k (nI NC, nI EC, nI OC, nI tc, nI ec, nI nc, xr, xm, xt, xe, to, ta, es, el, ed, se, sx, kd, sa, sb, ex1, ex2, pm1, pm2, us, hc, ts, nl, it) (nI NC, nI EC, nI OC, nI nc, nI ec, nI tc, wc, wm, ac, en, ro, mo, tt, kd, sa, sb, ex1, ex2, pm1, pm2, us, es, el, ed, se, to, ta, ys, yw, yv, yl) :=
  ⟨NC, EC, OC, tc, ec, nc, xr, xm, xt, xe, to, ta, es, el, ed, se, sx, kd, sa, sb, ex1, ex2, pm1, pm2, us, hc, ts, nl, it, wc, wm, ac, en, ro, mo, tt, ys, yw, yv, yl, rfl, rfl, I⟩
theorem i_up {k : Nat} {u : SX} {v : SY} (h : i_Rel k u v) : i_Rel (k + 4) u v := h
end
end
section
section
variable {NC EC OC tc ec nc : Nat} {xr xm xt xe wc wm ac en ro mo tt : Int32} {to ta es el ed se sx kd sa sb ex1 ex2 pm1 pm2 us hc ts nl it ys yw yv yl : Nat → Int32}
def sf_oc (hc : Nat → Int32) (c : Int32) : Option Nat → Int32
  | none => c
  | some s => c ||| hc s
theorem sf_oc_b {c : Int32} {o : Option Nat} (h : sf_b c) (g : ∀ s, o = some s → sf_b (hc s)) : sf_b (sf_oc hc c o) := by
  cases o with
  | none => exact h
  | some s => exact (sf_bo h (g s rfl)).1
theorem sf_su_k {a : Nat → Int32} {o : Option Nat} {j : Nat} (h : a j = 1) : sf_su a o j = 1 := by
  cases o with
  | none => exact h
  | some s =>
    by_cases z : j = s
    · subst z; exact pk_us
    · exact (pk_un z).trans h
theorem sf_su_1 {a : Nat → Int32} {j : Nat} : sf_su a (some j) j = 1 := pk_us
theorem sf_E_so {o : Option Nat} (H : sf_E ec tc es el ed se to) (h : ∀ j, o = some j → j < ec) : sf_E ec tc es el ed (sf_su se o) to := by
  cases o with
  | none => exact H
  | some s => exact sf_E_seal H (h s rfl)
theorem sf_W_so {o : Option Nat} {e : Nat} (h : sf_W ec ed se e) : sf_W ec ed (sf_su se o) e := ⟨h.1, sf_su_k h.2.1, h.2.2⟩
theorem sf_I_ad {LS : Nat → List Int32} {SZ : Nat → Nat} (c1 : 4 ≤ NC) (c2 : NC ≤ 16) (c3 : EC ≤ 16) (c4 : 8 ≤ OC) (c5 : OC ≤ 32) (c7 : ec ≤ EC) (hE : sf_E ec tc es el ed se to) (hN : sf_N (sf_V es el to ta) (sf_W ec ed se) nc kd sa sb ex1 ex2 pm1 pm2 us hc ts nl it LS SZ) (hR : sf_R nc LS xr xm xt xe ac en ro mo tt) (hn : nc < NC)
    {k p q : Int32} {a b e f : Option Nat} {it' : Nat → Int32} {L : List Int32} {z : Nat} {c : Int32}
    (ha : ∀ s, a = some s → s < nc ∧ us s = 0) (hb : ∀ s, b = some s → s < nc ∧ us s = 0) (hab : ∀ s, a = some s → b ≠ some s) (he : ∀ j, e = some j → j < ec) (hf : ∀ j, f = some j → j < ec)
    (hK : sf_K (sf_V es el to ta) (sf_W ec ed (sf_su (sf_su se e) f)) (sf_gu LS nc L) (sf_gu SZ nc z) (upd hc nc c) nc k (sf_o a) (sf_o b) (sf_o e) (sf_o f) p q)
    (hL : L.length ≤ 128) (hL2 : c = 0 → L.length ≤ 16) (hc1 : sf_b c) (hi : sf_U it it' (nc * 128)) (hg : sf_G it' (nc * 128) L)
    (hz : z = 1 + sf_oz SZ a + sf_oz SZ b) :
    sf_I NC EC OC (nc + 1) ec tc to ta es el ed (sf_su (sf_su se e) f) (upd kd nc k) (upd sa nc (sf_o a)) (upd sb nc (sf_o b)) (upd ex1 nc (sf_o e)) (upd ex2 nc (sf_o f)) (upd pm1 nc p) (upd pm2 nc q) (sf_su (sf_su us a) b) (upd hc nc c) (upd ts nc (nI z)) (upd nl nc (nI L.length)) it' xr xm xt xe ac en ro mo tt := by
  refine ⟨c1, c2, c3, c4, c5, by omega, c7, sf_E_so (sf_E_so hE he) hf, sf_gu LS nc L, sf_gu SZ nc z, ?_, sf_R_add hR⟩
  exact sf_N_ad (sf_N_VW (fun _ _ => rfl) (fun _ h => sf_W_so (sf_W_so h)) hN) (by omega) ha hb hab hK hL hL2 hc1 hi hg hz
/-! the questions that both sides ask of an argument -/
def sf_isw (ec : Nat) (ed : Nat → Int32) (e : Int32) : Prop := ∃ j, j < ec ∧ e = nI j ∧ ed j = 1
def sf_isf (nc : Nat) (us : Nat → Int32) (s : Int32) : Prop := ∃ j, j < nc ∧ s = nI j ∧ us j = 0
end
end
section
section
variable {NC EC OC tc ec nc : Nat} {xr xm xt xe wc wm ac en ro mo tt : Int32} {to ta es el ed se sx kd sa sb ex1 ex2 pm1 pm2 us hc ts nl it ys yw yv yl : Nat → Int32}
/-! the component's small methods -/
theorem sf_x_bin {post : Int32 → Prop} {o : Nat} (ho : o < 10) (h0 : o < 3 → post 0) (h1 : 3 ≤ o → post 1) : wpX_isBinary post (nI o) := by
  by_cases h : o < 3
  · exact br_t (sf_lt3 h) (h0 h)
  · exact br_f (sf_nlt3 (by omega) ho) (h1 (by omega))
theorem sf_x_opd {post : Int32 → Prop} {o a x y : Int32} (h : post (sf_opd o a x y)) : wpX_operand post o a x y := by
  unfold sf_opd at h
  by_cases h0 : o = 0
  · rw [if_pos h0] at h; exact br_t h0 h
  · rw [if_neg h0] at h
    by_cases h1 : o = 1
    · rw [if_pos h1] at h; exact br_f h0 (br_t h1 h)
    · rw [if_neg h1] at h; exact br_f h0 (br_f h1 h)
theorem sf_cmb3 {a b : Int32} : sf_cmb (nI 3) a b = a + b := if_pos rfl
theorem sf_cmb4 {a b : Int32} : sf_cmb (nI 4) a b = a - b := by
  unfold sf_cmb; rw [if_neg (by decide), if_pos (by decide)]
theorem sf_cmb5 {a b : Int32} : sf_cmb (nI 5) a b = a * b := by
  unfold sf_cmb; rw [if_neg (by decide), if_neg (by decide), if_pos (by decide)]
theorem sf_cmb6 {a b : Int32} : sf_cmb (nI 6) a b = if b = 0 then 0 else a / b := by
  unfold sf_cmb; rw [if_neg (by decide), if_neg (by decide), if_neg (by decide), if_pos (by decide)]
theorem sf_cmb7 {a b : Int32} : sf_cmb (nI 7) a b = if b = 0 then 0 else a - a / b * b := by
  unfold sf_cmb; rw [if_neg (by decide), if_neg (by decide), if_neg (by decide), if_neg (by decide), if_pos (by decide)]
theorem sf_cmb8 {a b : Int32} : sf_cmb (nI 8) a b = if a < b then 1 else 0 := by
  unfold sf_cmb; rw [if_neg (by decide), if_neg (by decide), if_neg (by decide), if_neg (by decide), if_neg (by decide), if_pos (by decide)]
theorem sf_cmb9 {a b : Int32} : sf_cmb (nI 9) a b = if a = b then 1 else 0 := by
  unfold sf_cmb; rw [if_neg (by decide), if_neg (by decide), if_neg (by decide), if_neg (by decide), if_neg (by decide), if_neg (by decide)]
theorem sf_o7 {P : Nat → Prop} {o : Nat} (h : 3 ≤ o) (h2 : o < 10) (h3 : P 3) (h4 : P 4) (h5 : P 5) (h6 : P 6) (h7 : P 7) (h8 : P 8) (h9 : P 9) : P o := by
  have e : o = 3 ∨ o = 4 ∨ o = 5 ∨ o = 6 ∨ o = 7 ∨ o = 8 ∨ o = 9 := by omega
  rcases e with e | e | e | e | e | e | e <;> subst e <;> assumption
theorem sf_x_comb {post : Int32 → Prop} {o : Nat} {a b : Int32} (h3 : 3 ≤ o) (h10 : o < 10) (h : post (sf_cmb (nI o) a b)) : wpX_combine post (nI o) a b := by
  revert h
  refine sf_o7 (P := fun o => post (sf_cmb (nI o) a b) → wpX_combine post (nI o) a b) h3 h10 ?_ ?_ ?_ ?_ ?_ ?_ ?_ <;> intro h
  · rw [sf_cmb3] at h
    exact br_f (by decide) (br_f (by decide) (br_t (by decide) h))
  · rw [sf_cmb4] at h
    exact br_f (by decide) (br_f (by decide) (br_f (by decide) (br_t (by decide) h)))
  · rw [sf_cmb5] at h
    exact br_f (by decide) (br_f (by decide) (br_f (by decide) (br_f (by decide) (br_t (by decide) h))))
  · rw [sf_cmb6] at h
    refine br_f (by decide) (br_f (by decide) (br_f (by decide) (br_f (by decide) (br_f (by decide) (br_t (by decide) ?_)))))
    by_cases z : b = 0
    · rw [if_pos z] at h; exact br_t z h
    · rw [if_neg z] at h; exact br_f z ⟨z, h⟩
  · rw [sf_cmb7] at h
    refine br_f (by decide) (br_f (by decide) (br_f (by decide) (br_f (by decide) (br_f (by decide) (br_f (by decide) (br_t (by decide) ?_))))))
    by_cases z : b = 0
    · rw [if_pos z] at h; exact br_t z h
    · rw [if_neg z] at h; exact br_f z ⟨z, h⟩
  · rw [sf_cmb8] at h
    refine br_f (by decide) (br_f (by decide) (br_f (by decide) (br_f (by decide) (br_f (by decide) (br_f (by decide) (br_f (by decide) (br_t (by decide) ?_)))))))
    by_cases z : a < b
    · rw [if_pos z] at h; exact br_f (Int32.not_le.mpr z) h
    · rw [if_neg z] at h; exact br_t (Int32.not_lt.mp z) h
  · rw [sf_cmb9] at h
    refine br_f (by decide) (br_t (by decide) ?_)
    by_cases z : a = b
    · rw [if_pos z] at h; exact br_t z h
    · rw [if_neg z] at h; exact br_f z h
/-! an evaluation -/
theorem sf_x_vloop {post : Int32 → SX → Prop} {f l : Nat} {x y : Int32} (hlg : sf_lg to f l) (hf : f + l ≤ 128) (hd1 : sf_dp to f l = 1)
    (h : ∀ sx', post (sf_sk to ta f x y l 0) (nI NC, nI EC, nI OC, nI tc, nI ec, nI nc, xr, xm, xt, xe, to, ta, es, el, ed, se, sx', kd, sa, sb, ex1, ex2, pm1, pm2, us, hc, ts, nl, it)) :
    ∀ (d m : Nat) (sx : Nat → Int32), m + d = l → sf_A sx (sf_sk to ta f x y m) (sf_dp to f m) → wX_valueOf_26 post x y (nI (f + l)) (nI NC) (nI EC) (nI OC) (nI tc) (nI ec) (nI nc) xr xm xt xe (d + 1) (nI (sf_dp to f m)) (nI (f + m)) to ta es el ed se sx kd sa sb ex1 ex2 pm1 pm2 us hc ts nl it := by
  intro d
  induction d with
  | zero =>
    intro m sx hm hA
    have em : m = l := by omega
    subst em
    refine br_t (nI_le (by omega) (by omega)) ?_
    rw [hA 0 (by omega)]
    exact h sx
  | succ d ih =>
    intro m sx hm hA
    obtain ⟨o, ho, et, g1, g2⟩ := hlg m (by omega)
    have d8 := sf_dp8 hlg m (by omega)
    refine br_f (nI_ge (by omega) (by omega)) ⟨vp_in_nI (by omega) (by omega), ?_⟩
    rw [nI_clamp (show f + m < 2 ^ 31 by omega)]
    refine nm_r et (sf_x_bin ho (fun h3 => br_t rfl ⟨vp_in_nI (by omega) (by omega), ?_⟩) (fun h3 => br_f (by decide) ?_))
    · refine sf_x_opd ?_
      have dm := g1 h3
      refine ⟨vp_in_nI dm (by omega), nm_e (nm_r (nI_1 _) (nm_r (nI_1 _) ?_))⟩
      rw [nI_clamp (show sf_dp to f m < 2 ^ 31 by omega)]
      have := ih (m + 1) _ (by omega) (sf_A_p (ta := ta) (x := x) (y := y) et h3 hA)
      rw [sf_dp_p et h3] at this
      exact this
    · have dm := g2 h3
      have hA' := sf_A_b (ta := ta) (x := x) (y := y) et h3 ho dm hA
      have := ih (m + 1) _ (by omega) hA'
      rw [sf_dp_b et h3 ho] at this
      refine nm_r (sf_m1 (by omega)) ?_
      rw [sf_s1 (show 0 < sf_dp to f m - 1 by omega), show sf_dp to f m - 1 - 1 = sf_dp to f m - 2 by omega, nI_clamp (show sf_dp to f m - 2 < 2 ^ 31 by omega), nI_clamp (show sf_dp to f m - 1 < 2 ^ 31 by omega)]
      refine ⟨vp_in_nI (by omega) (by omega), vp_in_nI (by omega) (by omega), sf_x_comb h3 ho ⟨vp_in_nI (by omega) (by omega), nm_e (nm_r (nI_1 _) ?_)⟩⟩
      exact this
theorem sf_x_val {post : Int32 → SX → Prop} {e : Nat} {v : Int32 → Int32 → Int32} {x y : Int32} (hw : sf_wf es el to ta e v) (he : e < 16) (h : ∀ sx', post (v x y) (nI NC, nI EC, nI OC, nI tc, nI ec, nI nc, xr, xm, xt, xe, to, ta, es, el, ed, se, sx', kd, sa, sb, ex1, ex2, pm1, pm2, us, hc, ts, nl, it)) : wpX_valueOf post (nI NC, nI EC, nI OC, nI tc, nI ec, nI nc, xr, xm, xt, xe, to, ta, es, el, ed, se, sx, kd, sa, sb, ex1, ex2, pm1, pm2, us, hc, ts, nl, it) (nI e) x y := by
  obtain ⟨f, l, q1, q2, q3, q4, q5, q6, q7, q8⟩ := hw
  subst q8
  have ce : (nI e).toNatClampNeg = e := nI_clamp (by omega)
  refine ⟨vp_in_nI he (by omega), nm_r (e' := nI f) (by rw [ce]; exact q1) ⟨vp_in_nI he (by omega), nm_r (e' := nI (f + l)) (by rw [ce, q2, nI_add]) ⟨l + 1, ?_⟩⟩⟩
  exact sf_x_vloop q6 q5 q7 h l 0 sx (by omega) sf_A0
/-! the questions -/
theorem sf_x_wf1 {post : Int32 → Prop} {e : Nat} (h16 : ec ≤ 16) (he : e < ec) (hd : ed e = 1) (h : post 1) : wpX_isWellFormed post (nI NC, nI EC, nI OC, nI tc, nI ec, nI nc, xr, xm, xt, xe, to, ta, es, el, ed, se, sx, kd, sa, sb, ex1, ex2, pm1, pm2, us, hc, ts, nl, it) (nI e) := by
  refine br_f (nI_pos (by omega)) (br_f (nI_ge he (by omega)) ⟨vp_in_nI (by omega) (by omega), br_t ?_ h⟩)
  rw [nI_clamp (by omega)]; exact hd
theorem sf_x_wf0 {post : Int32 → Prop} {e : Int32} (h16 : ec ≤ 16) (hn : ¬ sf_isw ec ed e) (h : post 0) : wpX_isWellFormed post (nI NC, nI EC, nI OC, nI tc, nI ec, nI nc, xr, xm, xt, xe, to, ta, es, el, ed, se, sx, kd, sa, sb, ex1, ex2, pm1, pm2, us, hc, ts, nl, it) e := by
  rcases pk_ix e (n := ec) (by omega) with g | g | ⟨j, hj, rfl⟩
  · exact br_t g h
  · by_cases z : e < 0
    · exact br_t z h
    · exact br_f z (br_t g h)
  · refine br_f (nI_pos (by omega)) (br_f (nI_ge hj (by omega)) ⟨vp_in_nI (by omega) (by omega), br_f ?_ h⟩)
    rw [nI_clamp (by omega)]
    exact fun z => hn ⟨j, hj, rfl, z⟩
theorem sf_x_room1 {post : Int32 → Prop} (hN : NC ≤ 16) (hn : nc < NC) (h : post 1) : wpX_hasRoomForNode post (nI NC, nI EC, nI OC, nI tc, nI ec, nI nc, xr, xm, xt, xe, to, ta, es, el, ed, se, sx, kd, sa, sb, ex1, ex2, pm1, pm2, us, hc, ts, nl, it) := br_f (nI_ge hn (by omega)) h
theorem sf_x_room0 {post : Int32 → Prop} (h16 : nc ≤ 16) (hn : ¬ nc < NC) (h : post 0) : wpX_hasRoomForNode post (nI NC, nI EC, nI OC, nI tc, nI ec, nI nc, xr, xm, xt, xe, to, ta, es, el, ed, se, sx, kd, sa, sb, ex1, ex2, pm1, pm2, us, hc, ts, nl, it) := br_t (nI_le (by omega) (by omega)) h
theorem sf_x_node1 {post : Int32 → Prop} {s : Nat} (h16 : nc ≤ 16) (hs : s < nc) (h : post 1) : wpX_isNode post (nI NC, nI EC, nI OC, nI tc, nI ec, nI nc, xr, xm, xt, xe, to, ta, es, el, ed, se, sx, kd, sa, sb, ex1, ex2, pm1, pm2, us, hc, ts, nl, it) (nI s) :=
  br_f (nI_pos (by omega)) (br_f (nI_ge hs (by omega)) h)
theorem sf_x_node0 {post : Int32 → Prop} {s : Int32} (h16 : nc ≤ 16) (hn : ¬ ∃ j, j < nc ∧ s = nI j) (h : post 0) : wpX_isNode post (nI NC, nI EC, nI OC, nI tc, nI ec, nI nc, xr, xm, xt, xe, to, ta, es, el, ed, se, sx, kd, sa, sb, ex1, ex2, pm1, pm2, us, hc, ts, nl, it) s := by
  rcases pk_ix s (n := nc) (by omega) with g | g | g
  · exact br_t g h
  · by_cases z : s < 0
    · exact br_t z h
    · exact br_f z (br_t g h)
  · exact absurd g hn
theorem sf_x_free1 {post : Int32 → Prop} {s : Nat} (h16 : nc ≤ 16) (hs : s < nc) (hu : us s = 0) (h : post 1) : wpX_isFreeNode post (nI NC, nI EC, nI OC, nI tc, nI ec, nI nc, xr, xm, xt, xe, to, ta, es, el, ed, se, sx, kd, sa, sb, ex1, ex2, pm1, pm2, us, hc, ts, nl, it) (nI s) := by
  unfold wpX_isFreeNode
  refine sf_x_node1 h16 hs (br_f (by decide) ⟨vp_in_nI (by omega) (by omega), br_t ?_ h⟩)
  rw [nI_clamp (by omega)]; exact hu
theorem sf_x_free0 {post : Int32 → Prop} {s : Int32} (h16 : nc ≤ 16) (hn : ¬ sf_isf nc us s) (h : post 0) : wpX_isFreeNode post (nI NC, nI EC, nI OC, nI tc, nI ec, nI nc, xr, xm, xt, xe, to, ta, es, el, ed, se, sx, kd, sa, sb, ex1, ex2, pm1, pm2, us, hc, ts, nl, it) s := by
  unfold wpX_isFreeNode
  by_cases g : ∃ j, j < nc ∧ s = nI j
  · obtain ⟨j, hj, rfl⟩ := g
    refine sf_x_node1 h16 hj (br_f (by decide) ⟨vp_in_nI (by omega) (by omega), br_f ?_ h⟩)
    rw [nI_clamp (by omega)]
    exact fun z => hn ⟨j, hj, rfl, z⟩
  · exact sf_x_node0 h16 g (br_t rfl h)
theorem sf_x_item {post : Int32 → Prop} {s i : Nat} (hs : s < 16) (hi : i < 128) (h : post (it (s * 128 + i))) : wpX_item post (nI NC, nI EC, nI OC, nI tc, nI ec, nI nc, xr, xm, xt, xe, to, ta, es, el, ed, se, sx, kd, sa, sb, ex1, ex2, pm1, pm2, us, hc, ts, nl, it) (nI s) (nI i) := by
  unfold wpX_item
  dsimp only
  rw [sf_128, nI_add, nI_clamp (by omega)]
  exact ⟨vp_in_nI (by omega) (by omega), h⟩
theorem sf_x_app {post : SX → Prop} {n c : Nat} {v : Int32} (hn : n < 16) (hcc : c < 128) (hl : nl n = nI c) (h : post (nI NC, nI EC, nI OC, nI tc, nI ec, nI nc, xr, xm, xt, xe, to, ta, es, el, ed, se, sx, kd, sa, sb, ex1, ex2, pm1, pm2, us, hc, ts, upd nl n (nI (c + 1)), upd it (n * 128 + c) v)) : wpX_append post (nI NC, nI EC, nI OC, nI tc, nI ec, nI nc, xr, xm, xt, xe, to, ta, es, el, ed, se, sx, kd, sa, sb, ex1, ex2, pm1, pm2, us, hc, ts, nl, it) (nI n) v := by
  unfold wpX_append
  dsimp only
  rw [sf_128, nI_clamp (show n < 2 ^ 31 by omega), hl, nI_add, nI_clamp (show n * 128 + c < 2 ^ 31 by omega), nI_1]
  exact ⟨vp_in_nI hn (by omega), vp_in_nI (by omega) (by omega), nm_e ⟨vp_in_nI hn (by omega), vp_in_nI hn (by omega), nm_e h⟩⟩
/-- the same over a list that grows -/
theorem sf_x_appl {post : SX → Prop} {n c : Nat} {v : Int32} (hn : n < 16) (hcc : c < 128) (h : post (nI NC, nI EC, nI OC, nI tc, nI ec, nI nc, xr, xm, xt, xe, to, ta, es, el, ed, se, sx, kd, sa, sb, ex1, ex2, pm1, pm2, us, hc, ts, upd nl n (nI (c + 1)), upd it (n * 128 + c) v)) : wpX_append post (nI NC, nI EC, nI OC, nI tc, nI ec, nI nc, xr, xm, xt, xe, to, ta, es, el, ed, se, sx, kd, sa, sb, ex1, ex2, pm1, pm2, us, hc, ts, upd nl n (nI c), it) (nI n) v :=
  sf_x_app hn hcc pk_us (by rw [sf_updd]; exact h)
theorem sf_x_min {post : Int32 → Prop} {a b : Nat} (ha : a < 2 ^ 31) (hb : b < 2 ^ 31) (h : post (nI (sf_mn a b))) : wpX_smaller post (nI a) (nI b) := by
  unfold sf_mn at h
  by_cases z : a < b
  · rw [if_pos z] at h; exact br_f (nI_ge z hb) h
  · rw [if_neg z] at h; exact br_t (nI_le (by omega) ha) h
end
end
section
section
variable {NC EC OC tc ec nc : Nat} {xr xm xt xe wc wm ac en ro mo tt : Int32} {to ta es el ed se sx kd sa sb ex1 ex2 pm1 pm2 us hc ts nl it ys yw yv yl : Nat → Int32}
/-! the component's new node -/
theorem sf_x_att {post : SX → Prop} {SZ : Nat → Nat} {n z : Nat} {c : Int32} {o : Option Nat} (hn : n < 16) (ho : ∀ s, o = some s → s < n ∧ ts s = nI (SZ s) ∧ sf_b (hc s)) (hc1 : sf_b c)
    (h : post (nI NC, nI EC, nI OC, nI tc, nI ec, nI nc, xr, xm, xt, xe, to, ta, es, el, ed, se, sx, kd, sa, sb, ex1, ex2, pm1, pm2, sf_su us o, upd hc n (sf_oc hc c o), upd ts n (nI (z + sf_oz SZ o)), nl, it)) : wpX_attachSource post (nI NC, nI EC, nI OC, nI tc, nI ec, nI nc, xr, xm, xt, xe, to, ta, es, el, ed, se, sx, kd, sa, sb, ex1, ex2, pm1, pm2, us, upd hc n c, upd ts n (nI z), nl, it) (nI n) (sf_o o) := by
  cases o with
  | none => exact br_t rfl h
  | some s =>
    obtain ⟨hs, g1, g2⟩ := ho s rfl
    have hne : s ≠ n := by omega
    have h' : post (nI NC, nI EC, nI OC, nI tc, nI ec, nI nc, xr, xm, xt, xe, to, ta, es, el, ed, se, sx, kd, sa, sb, ex1, ex2, pm1, pm2, upd us s 1, upd hc n (c ||| hc s), upd ts n (nI (z + SZ s)), nl, it) := h
    show wpX_attachSource post (nI NC, nI EC, nI OC, nI tc, nI ec, nI nc, xr, xm, xt, xe, to, ta, es, el, ed, se, sx, kd, sa, sb, ex1, ex2, pm1, pm2, us, upd hc n c, upd ts n (nI z), nl, it) (nI n) (nI s)
    unfold wpX_attachSource
    dsimp only
    rw [nI_clamp (show s < 2 ^ 31 by omega), nI_clamp (show n < 2 ^ 31 by omega), pk_us, pk_us, pk_un hne, pk_un hne, g1, nI_add, sf_bn (sf_bo hc1 g2).1, sf_vb1]
    refine br_f (sf_ne1 (by omega)) ⟨vp_in_nI (by omega) (by omega), nm_e ⟨vp_in_nI hn (by omega), vp_in_nI (by omega) (by omega), vp_in_nI hn (by omega), nm_e ⟨vp_in_nI hn (by omega), vp_in_nI (by omega) (by omega), vp_in_nI hn (by omega), nm_e ?_⟩⟩⟩
    rw [sf_updd, sf_updd]
    exact h'
theorem sf_x_seal {post : SX → Prop} {o : Option Nat} (ho : ∀ j, o = some j → j < 16) (h : post (nI NC, nI EC, nI OC, nI tc, nI ec, nI nc, xr, xm, xt, xe, to, ta, es, el, ed, sf_su se o, sx, kd, sa, sb, ex1, ex2, pm1, pm2, us, hc, ts, nl, it)) : wpX_sealExpr post (nI NC, nI EC, nI OC, nI tc, nI ec, nI nc, xr, xm, xt, xe, to, ta, es, el, ed, se, sx, kd, sa, sb, ex1, ex2, pm1, pm2, us, hc, ts, nl, it) (sf_o o) := by
  cases o with
  | none => exact br_t rfl h
  | some s =>
    have hs := ho s rfl
    refine br_f (sf_ne1 (by omega)) ⟨vp_in_nI hs (by omega), nm_r (e' := upd se s 1) ?_ h⟩
    rw [show sf_o (some s) = nI s from rfl, nI_clamp (by omega), sf_vb1]
theorem sf_x_add83 {post : Int32 → SX → Prop} {SZ : Nat → Nat} {c : Int32} {a b e f : Option Nat} (hn : nc < 16) (ha : ∀ s, a = some s → s < nc ∧ ts s = nI (SZ s) ∧ sf_b (hc s)) (hb : ∀ s, b = some s → s < nc ∧ ts s = nI (SZ s) ∧ sf_b (hc s)) (he : ∀ j, e = some j → j < 16) (hf : ∀ j, f = some j → j < 16) (hc1 : sf_b c)
    (h : post (nI nc) (nI NC, nI EC, nI OC, nI tc, nI ec, nI (nc + 1), xr, xm, xt, xe, to, ta, es, el, ed, sf_su (sf_su se e) f, sx, kd, sa, sb, ex1, ex2, pm1, pm2, sf_su (sf_su us a) b, upd hc nc (sf_oc hc (sf_oc hc c a) b), upd ts nc (nI (1 + sf_oz SZ a + sf_oz SZ b)), nl, it)) : wX_addNode_83 post (sf_o a) (sf_o b) (sf_o e) (sf_o f) (nI nc) c (nI nc) (nI NC) (nI EC) (nI OC) (nI tc) (nI ec) (nI nc) xr xm xt xe to ta es el ed se sx kd sa sb ex1 ex2 pm1 pm2 us hc ts nl it := by
  unfold wX_addNode_83
  rw [nI_clamp (show nc < 2 ^ 31 by omega), sf_bn hc1]
  refine ⟨vp_in_nI hn (by omega), nm_e ⟨vp_in_nI hn (by omega), nm_e ?_⟩⟩
  refine sf_x_att (SZ := SZ) (z := 1) hn ha hc1 ?_
  refine sf_x_att (SZ := SZ) (z := 1 + sf_oz SZ a) hn hb (sf_oc_b hc1 (fun s hs => (ha s hs).2.2)) ?_
  refine sf_x_seal he ?_
  refine sf_x_seal hf ?_
  exact nm_r (nI_1 nc) h
theorem sf_x_add {post : Int32 → SX → Prop} {SZ : Nat → Nat} {k p q c : Int32} {a b e f : Option Nat} (hn : nc < 16) (ha : ∀ s, a = some s → s < nc ∧ ts s = nI (SZ s) ∧ sf_b (hc s)) (hb : ∀ s, b = some s → s < nc ∧ ts s = nI (SZ s) ∧ sf_b (hc s)) (he : ∀ j, e = some j → j < 16) (hf : ∀ j, f = some j → j < 16) (hk : (k = 8 ∧ c = 1) ∨ (¬ k = 8 ∧ c = 0))
    (h : post (nI nc) (nI NC, nI EC, nI OC, nI tc, nI ec, nI (nc + 1), xr, xm, xt, xe, to, ta, es, el, ed, sf_su (sf_su se e) f, sx, upd kd nc k, upd sa nc (sf_o a), upd sb nc (sf_o b), upd ex1 nc (sf_o e), upd ex2 nc (sf_o f), upd pm1 nc p, upd pm2 nc q, sf_su (sf_su us a) b, upd hc nc (sf_oc hc (sf_oc hc c a) b), upd ts nc (nI (1 + sf_oz SZ a + sf_oz SZ b)), nl, it)) : wpX_addNode post (nI NC, nI EC, nI OC, nI tc, nI ec, nI nc, xr, xm, xt, xe, to, ta, es, el, ed, se, sx, kd, sa, sb, ex1, ex2, pm1, pm2, us, hc, ts, nl, it) k (sf_o a) (sf_o b) (sf_o e) (sf_o f) p q := by
  have vn : vp_in (nI nc) 16 := vp_in_nI hn (by omega)
  have cn : (nI nc).toNatClampNeg = nc := nI_clamp (by omega)
  refine ⟨vn, nm_r (congrArg (fun j => upd kd j k) cn) ⟨vn, nm_r (congrArg (fun j => upd sa j (sf_o a)) cn) ⟨vn, nm_r (congrArg (fun j => upd sb j (sf_o b)) cn) ⟨vn, nm_r (congrArg (fun j => upd ex1 j (sf_o e)) cn) ⟨vn, nm_r (congrArg (fun j => upd ex2 j (sf_o f)) cn) ⟨vn, nm_r (congrArg (fun j => upd pm1 j p) cn) ⟨vn, nm_r (congrArg (fun j => upd pm2 j q) cn) ?_⟩⟩⟩⟩⟩⟩⟩
  rcases hk with ⟨h1, h2⟩ | ⟨h1, h2⟩
  · subst h2
    exact br_t h1 (sf_x_add83 hn ha hb he hf sf_b1 h)
  · subst h2
    exact br_f h1 (sf_x_add83 hn ha hb he hf sf_b0 h)
/-! the component's loops: a list grows at node n -/
theorem sf_rd {it0 v : Nat → Int32} {l : List Int32} {s n i : Nat} (hU : sf_U it0 v (n * 128)) (hg : sf_G it0 (s * 128) l) (hs : s < n) (hl : l.length ≤ 128) (hi : i < l.length) : v (s * 128 + i) = l.getD i 0 := by
  have c := Nat.mul_le_mul_right 128 (show s + 1 ≤ n by omega)
  rw [hU _ (by omega)]
  exact hg i hi
theorem sf_Gtb {v : Nat → Int32} {b i : Nat} {g : Nat → Int32} (hG : sf_G v b (sf_tb g i)) : sf_G (upd v (b + i) (g i)) b (sf_tb g (i + 1)) := by
  have := sf_Gapp hG (g i)
  rw [sf_tb_len] at this
  exact this
theorem sf_Gtb2 {v : Nat → Int32} {b i : Nat} {g : Nat → Int32} {l0 : List Int32} (hG : sf_G v b (l0 ++ sf_tb g i)) : sf_G (upd v (b + (l0.length + i)) (g i)) b (l0 ++ sf_tb g (i + 1)) := by
  have := sf_Gapp hG (g i)
  rw [List.length_append, sf_tb_len, List.append_assoc] at this
  exact this
theorem sf_x_rangeloop {post : Int32 → SX → Prop} {n c : Nat} {lo : Int32} {it0 : Nat → Int32} (hn : n < 16) (hc2 : c ≤ 16)
    (h : ∀ it', sf_U it0 it' (n * 128) → sf_G it' (n * 128) (sf_tb (fun i => lo + nI i) c) → post (nI n) (nI NC, nI EC, nI OC, nI tc, nI ec, nI nc, xr, xm, xt, xe, to, ta, es, el, ed, se, sx, kd, sa, sb, ex1, ex2, pm1, pm2, us, hc, ts, upd nl n (nI c), it')) :
    ∀ (d i : Nat) (it : Nat → Int32), i + d = c → sf_U it0 it (n * 128) → sf_G it (n * 128) (sf_tb (fun i => lo + nI i) i) → wX_range_34 post lo (nI c) (nI n) (d + 1) (nI i) (nI NC) (nI EC) (nI OC) (nI tc) (nI ec) (nI nc) xr xm xt xe to ta es el ed se sx kd sa sb ex1 ex2 pm1 pm2 us hc ts (upd nl n (nI i)) it := by
  intro d
  induction d with
  | zero =>
    intro i it hi hU hG
    have ei : i = c := by omega
    subst ei
    exact br_t (nI_le (by omega) (by omega)) (h it hU hG)
  | succ d ih =>
    intro i it hi hU hG
    refine br_f (nI_ge (by omega) (by omega)) (sf_x_appl hn (by omega) (nm_r (nI_1 i) ?_))
    exact ih (i + 1) _ (by omega) (sf_Uapp hU) (sf_Gtb hG)
theorem sf_x_maploop {post : Int32 → SX → Prop} {s e n : Nat} {v : Int32 → Int32 → Int32} {l : List Int32} {it0 : Nat → Int32} (hn : n < 16) (hs : s < n) (he : e < 16) (hw : sf_wf es el to ta e v) (hl : l.length ≤ 128) (hg : sf_G it0 (s * 128) l)
    (h : ∀ sx' it', sf_U it0 it' (n * 128) → sf_G it' (n * 128) (sf_tb (fun i => v (l.getD i 0) 0) l.length) → post (nI n) (nI NC, nI EC, nI OC, nI tc, nI ec, nI nc, xr, xm, xt, xe, to, ta, es, el, ed, se, sx', kd, sa, sb, ex1, ex2, pm1, pm2, us, hc, ts, upd nl n (nI l.length), it')) :
    ∀ (d i : Nat) (sx it : Nat → Int32), i + d = l.length → sf_U it0 it (n * 128) → sf_G it (n * 128) (sf_tb (fun i => v (l.getD i 0) 0) i) → wX_map_48 post (nI s) (nI e) (nI n) (nI l.length) (d + 1) (nI i) (nI NC) (nI EC) (nI OC) (nI tc) (nI ec) (nI nc) xr xm xt xe to ta es el ed se sx kd sa sb ex1 ex2 pm1 pm2 us hc ts (upd nl n (nI i)) it := by
  intro d
  induction d with
  | zero =>
    intro i sx it hi hU hG
    have ei : i = l.length := by omega
    subst ei
    exact br_t (nI_le (by omega) (by omega)) (h sx it hU hG)
  | succ d ih =>
    intro i sx it hi hU hG
    refine br_f (nI_ge (by omega) (by omega)) (sf_x_item (by omega) (by omega) ?_)
    rw [sf_rd hU hg hs hl (show i < l.length by omega)]
    refine sf_x_val hw he (fun sx' => ?_)
    refine sf_x_appl hn (by omega) (nm_r (nI_1 i) ?_)
    exact ih (i + 1) sx' _ (by omega) (sf_Uapp hU) (sf_Gtb hG)
theorem sf_x_filterloop {post : Int32 → SX → Prop} {s e n : Nat} {v : Int32 → Int32 → Int32} {l : List Int32} {it0 : Nat → Int32} (hn : n < 16) (hs : s < n) (he : e < 16) (hw : sf_wf es el to ta e v) (hl : l.length ≤ 128) (hg : sf_G it0 (s * 128) l)
    (h : ∀ sx' it', sf_U it0 it' (n * 128) → sf_G it' (n * 128) (sf_ft (fun x => v x 0) l l.length) → post (nI n) (nI NC, nI EC, nI OC, nI tc, nI ec, nI nc, xr, xm, xt, xe, to, ta, es, el, ed, se, sx', kd, sa, sb, ex1, ex2, pm1, pm2, us, hc, ts, upd nl n (nI (sf_ft (fun x => v x 0) l l.length).length), it')) :
    ∀ (d i : Nat) (sx it : Nat → Int32), i + d = l.length → sf_U it0 it (n * 128) → sf_G it (n * 128) (sf_ft (fun x => v x 0) l i) → wX_filter_48 post (nI s) (nI e) (nI n) (nI l.length) (d + 1) (nI i) (nI NC) (nI EC) (nI OC) (nI tc) (nI ec) (nI nc) xr xm xt xe to ta es el ed se sx kd sa sb ex1 ex2 pm1 pm2 us hc ts (upd nl n (nI (sf_ft (fun x => v x 0) l i).length)) it := by
  intro d
  induction d with
  | zero =>
    intro i sx it hi hU hG
    have ei : i = l.length := by omega
    subst ei
    exact br_t (nI_le (by omega) (by omega)) (h sx it hU hG)
  | succ d ih =>
    intro i sx it hi hU hG
    have hle := sf_ft_len (fun x => v x 0) l i
    have ef : sf_ft (fun x => v x 0) l (i + 1) = if v (l.getD i 0) 0 = 0 then sf_ft (fun x => v x 0) l i else sf_ft (fun x => v x 0) l i ++ [l.getD i 0] := rfl
    refine br_f (nI_ge (by omega) (by omega)) (sf_x_item (by omega) (by omega) ?_)
    rw [sf_rd hU hg hs hl (show i < l.length by omega)]
    refine sf_x_val hw he (fun sx' => ?_)
    by_cases z : v (l.getD i 0) 0 = 0
    · rw [if_pos z] at ef
      refine br_t z (nm_r (nI_1 i) ?_)
      have := ih (i + 1) sx' it (by omega) hU (by rw [ef]; exact hG)
      rw [ef] at this
      exact this
    · rw [if_neg z] at ef
      refine br_f z (sf_x_appl hn (by omega) (nm_r (nI_1 i) ?_))
      have := ih (i + 1) sx' _ (by omega) (sf_Uapp hU) (by rw [ef]; exact sf_Gapp hG _)
      rw [ef, sf_lenapp] at this
      exact this
theorem sf_x_scanloop {post : Int32 → SX → Prop} {s e n : Nat} {v : Int32 → Int32 → Int32} {a : Int32} {l : List Int32} {it0 : Nat → Int32} (hn : n < 16) (hs : s < n) (he : e < 16) (hw : sf_wf es el to ta e v) (hl : l.length ≤ 128) (hg : sf_G it0 (s * 128) l)
    (h : ∀ sx' it', sf_U it0 it' (n * 128) → sf_G it' (n * 128) (sf_tb (fun i => sf_ac v a l (i + 1)) l.length) → post (nI n) (nI NC, nI EC, nI OC, nI tc, nI ec, nI nc, xr, xm, xt, xe, to, ta, es, el, ed, se, sx', kd, sa, sb, ex1, ex2, pm1, pm2, us, hc, ts, upd nl n (nI l.length), it')) :
    ∀ (d i : Nat) (sx it : Nat → Int32), i + d = l.length → sf_U it0 it (n * 128) → sf_G it (n * 128) (sf_tb (fun i => sf_ac v a l (i + 1)) i) → wX_scan_52 post (nI s) (nI e) (nI n) (nI l.length) (d + 1) (sf_ac v a l i) (nI i) (nI NC) (nI EC) (nI OC) (nI tc) (nI ec) (nI nc) xr xm xt xe to ta es el ed se sx kd sa sb ex1 ex2 pm1 pm2 us hc ts (upd nl n (nI i)) it := by
  intro d
  induction d with
  | zero =>
    intro i sx it hi hU hG
    have ei : i = l.length := by omega
    subst ei
    exact br_t (nI_le (by omega) (by omega)) (h sx it hU hG)
  | succ d ih =>
    intro i sx it hi hU hG
    refine br_f (nI_ge (by omega) (by omega)) (sf_x_item (by omega) (by omega) ?_)
    rw [sf_rd hU hg hs hl (show i < l.length by omega)]
    refine sf_x_val hw he (fun sx' => ?_)
    refine sf_x_appl hn (by omega) (nm_r (nI_1 i) ?_)
    exact ih (i + 1) sx' _ (by omega) (sf_Uapp hU) (sf_Gtb hG)
theorem sf_x_ziploop {post : Int32 → SX → Prop} {s t e n c : Nat} {v : Int32 → Int32 → Int32} {l m : List Int32} {it0 : Nat → Int32} (hn : n < 16) (hs : s < n) (ht : t < n) (he : e < 16) (hw : sf_wf es el to ta e v) (hl : l.length ≤ 128) (hm : m.length ≤ 128) (hg : sf_G it0 (s * 128) l) (hg2 : sf_G it0 (t * 128) m) (hc1 : c ≤ l.length) (hc2 : c ≤ m.length)
    (h : ∀ sx' it', sf_U it0 it' (n * 128) → sf_G it' (n * 128) (sf_tb (fun i => v (l.getD i 0) (m.getD i 0)) c) → post (nI n) (nI NC, nI EC, nI OC, nI tc, nI ec, nI nc, xr, xm, xt, xe, to, ta, es, el, ed, se, sx', kd, sa, sb, ex1, ex2, pm1, pm2, us, hc, ts, upd nl n (nI c), it')) :
    ∀ (d i : Nat) (sx it : Nat → Int32), i + d = c → sf_U it0 it (n * 128) → sf_G it (n * 128) (sf_tb (fun i => v (l.getD i 0) (m.getD i 0)) i) → wX_zip_71 post (nI s) (nI t) (nI e) (nI n) (nI c) (d + 1) (nI i) (nI NC) (nI EC) (nI OC) (nI tc) (nI ec) (nI nc) xr xm xt xe to ta es el ed se sx kd sa sb ex1 ex2 pm1 pm2 us hc ts (upd nl n (nI i)) it := by
  intro d
  induction d with
  | zero =>
    intro i sx it hi hU hG
    have ei : i = c := by omega
    subst ei
    exact br_t (nI_le (by omega) (by omega)) (h sx it hU hG)
  | succ d ih =>
    intro i sx it hi hU hG
    refine br_f (nI_ge (by omega) (by omega)) (sf_x_item (by omega) (by omega) ?_)
    rw [sf_rd hU hg hs hl (show i < l.length by omega)]
    refine sf_x_item (by omega) (by omega) ?_
    rw [sf_rd hU hg2 ht hm (show i < m.length by omega)]
    refine sf_x_val hw he (fun sx' => ?_)
    refine sf_x_appl hn (by omega) (nm_r (nI_1 i) ?_)
    exact ih (i + 1) sx' _ (by omega) (sf_Uapp hU) (sf_Gtb hG)
theorem sf_x_copyloop {post : SX → Prop} {s n fr c : Nat} {l : List Int32} {it0 : Nat → Int32} (hn : n < 16) (hs : s < n) (hl : l.length ≤ 128) (hg : sf_G it0 (s * 128) l) (hc1 : fr + c ≤ l.length)
    (h : ∀ it', sf_U it0 it' (n * 128) → sf_G it' (n * 128) (sf_tb (fun i => l.getD (fr + i) 0) c) → post (nI NC, nI EC, nI OC, nI tc, nI ec, nI nc, xr, xm, xt, xe, to, ta, es, el, ed, se, sx, kd, sa, sb, ex1, ex2, pm1, pm2, us, hc, ts, upd nl n (nI c), it')) :
    ∀ (d i : Nat) (it : Nat → Int32), i + d = c → sf_U it0 it (n * 128) → sf_G it (n * 128) (sf_tb (fun i => l.getD (fr + i) 0) i) → wX_copyItems_3 post (nI s) (nI (fr + c)) (nI n) (d + 1) (nI (fr + i)) (nI NC) (nI EC) (nI OC) (nI tc) (nI ec) (nI nc) xr xm xt xe to ta es el ed se sx kd sa sb ex1 ex2 pm1 pm2 us hc ts (upd nl n (nI i)) it := by
  intro d
  induction d with
  | zero =>
    intro i it hi hU hG
    have ei : i = c := by omega
    subst ei
    exact br_t (nI_le (by omega) (by omega)) (h it hU hG)
  | succ d ih =>
    intro i it hi hU hG
    refine br_f (nI_ge (by omega) (by omega)) (sf_x_item (by omega) (by omega) ?_)
    rw [sf_rd hU hg hs hl (show fr + i < l.length by omega)]
    refine sf_x_appl hn (by omega) (nm_r (nI_1 (fr + i)) ?_)
    exact ih (i + 1) _ (by omega) (sf_Uapp hU) (sf_Gtb hG)
theorem sf_x_clamp8 {post : Int32 → Prop} {w : Int32} (h : post (nI (sf_cl w))) : wpX_clamp post w 0 8 := by
  unfold sf_cl at h
  by_cases g : w < 0
  · rw [if_pos g] at h
    exact br_f (Int32.not_le.mpr g) h
  · rw [if_neg g] at h
    by_cases g2 : 8 < w
    · rw [if_pos g2] at h
      exact br_t (Int32.not_lt.mp g) (br_f (Int32.not_le.mpr g2) h)
    · rw [if_neg g2] at h
      obtain ⟨j, hj, rfl⟩ := nI_of g
      rw [nI_clamp hj] at h
      exact br_t (Int32.not_lt.mp g) (br_t (Int32.not_lt.mp g2) h)
theorem sf_x_innerloop {post : SX → Prop} {e n c : Nat} {v : Int32 → Int32 → Int32} {x : Int32} {l0 : List Int32} {it0 : Nat → Int32} (hn : n < 16) (he : e < 16) (hw : sf_wf es el to ta e v) (hl : l0.length + c ≤ 128)
    (h : ∀ sx' it', sf_U it0 it' (n * 128) → sf_G it' (n * 128) (l0 ++ sf_tb (fun j => v x (nI j)) c) → post (nI NC, nI EC, nI OC, nI tc, nI ec, nI nc, xr, xm, xt, xe, to, ta, es, el, ed, se, sx', kd, sa, sb, ex1, ex2, pm1, pm2, us, hc, ts, upd nl n (nI (l0.length + c)), it')) :
    ∀ (d i : Nat) (sx it : Nat → Int32), i + d = c → sf_U it0 it (n * 128) → sf_G it (n * 128) (l0 ++ sf_tb (fun j => v x (nI j)) i) → wX_appendInner_22 post (nI n) x (nI e) (nI c) (d + 1) (nI i) (nI NC) (nI EC) (nI OC) (nI tc) (nI ec) (nI nc) xr xm xt xe to ta es el ed se sx kd sa sb ex1 ex2 pm1 pm2 us hc ts (upd nl n (nI (l0.length + i))) it := by
  intro d
  induction d with
  | zero =>
    intro i sx it hi hU hG
    have ei : i = c := by omega
    subst ei
    exact br_t (nI_le (by omega) (by omega)) (h sx it hU hG)
  | succ d ih =>
    intro i sx it hi hU hG
    refine br_f (nI_ge (by omega) (by omega)) (sf_x_val hw he (fun sx' => ?_))
    refine sf_x_appl hn (by omega) (nm_r (nI_1 i) ?_)
    exact ih (i + 1) sx' _ (by omega) (sf_Uapp hU) (sf_Gtb2 hG)
theorem sf_x_inner {post : SX → Prop} {e e' n : Nat} {v v' : Int32 → Int32 → Int32} {x : Int32} {l0 : List Int32} {it0 : Nat → Int32} (hn : n < 16) (he : e < 16) (he' : e' < 16) (hw : sf_wf es el to ta e v) (hw' : sf_wf es el to ta e' v') (hl : l0.length ≤ 120) (hU : sf_U it0 it (n * 128)) (hG : sf_G it (n * 128) l0)
    (h : ∀ sx' it', sf_U it0 it' (n * 128) → sf_G it' (n * 128) (l0 ++ sf_tb (fun j => v' x (nI j)) (sf_cl (v x 0))) → post (nI NC, nI EC, nI OC, nI tc, nI ec, nI nc, xr, xm, xt, xe, to, ta, es, el, ed, se, sx', kd, sa, sb, ex1, ex2, pm1, pm2, us, hc, ts, upd nl n (nI (l0.length + sf_cl (v x 0))), it')) : wpX_appendInner post (nI NC, nI EC, nI OC, nI tc, nI ec, nI nc, xr, xm, xt, xe, to, ta, es, el, ed, se, sx, kd, sa, sb, ex1, ex2, pm1, pm2, us, hc, ts, upd nl n (nI l0.length), it) (nI n) x (nI e) (nI e') := by
  have h8 := sf_cl8 (v x 0)
  unfold wpX_appendInner
  refine sf_x_val hw he (fun sx' => ?_)
  refine sf_x_clamp8 ⟨sf_cl (v x 0) + 1, ?_⟩
  exact sf_x_innerloop hn he' hw' (by omega) h (sf_cl (v x 0)) 0 sx' it (by omega) hU (by rw [show sf_tb (fun j => v' x (nI j)) 0 = [] from rfl, List.append_nil]; exact hG)
theorem sf_x_cmloop {post : Int32 → SX → Prop} {s e e' n : Nat} {v v' : Int32 → Int32 → Int32} {l : List Int32} {it0 : Nat → Int32} (hn : n < 16) (hs : s < n) (he : e < 16) (he' : e' < 16) (hw : sf_wf es el to ta e v) (hw' : sf_wf es el to ta e' v') (hl : l.length ≤ 16) (hg : sf_G it0 (s * 128) l)
    (h : ∀ sx' it', sf_U it0 it' (n * 128) → sf_G it' (n * 128) (sf_cm (fun x => v x 0) v' l l.length) → post (nI n) (nI NC, nI EC, nI OC, nI tc, nI ec, nI nc, xr, xm, xt, xe, to, ta, es, el, ed, se, sx', kd, sa, sb, ex1, ex2, pm1, pm2, us, hc, ts, upd nl n (nI (sf_cm (fun x => v x 0) v' l l.length).length), it')) :
    ∀ (d i : Nat) (sx it : Nat → Int32), i + d = l.length → sf_U it0 it (n * 128) → sf_G it (n * 128) (sf_cm (fun x => v x 0) v' l i) → wX_concatMap_67 post (nI s) (nI e) (nI e') (nI n) (nI l.length) (d + 1) (nI i) (nI NC) (nI EC) (nI OC) (nI tc) (nI ec) (nI nc) xr xm xt xe to ta es el ed se sx kd sa sb ex1 ex2 pm1 pm2 us hc ts (upd nl n (nI (sf_cm (fun x => v x 0) v' l i).length)) it := by
  intro d
  induction d with
  | zero =>
    intro i sx it hi hU hG
    have ei : i = l.length := by omega
    subst ei
    exact br_t (nI_le (by omega) (by omega)) (h sx it hU hG)
  | succ d ih =>
    intro i sx it hi hU hG
    have hle := sf_cm_len (fun x => v x 0) v' l i
    refine br_f (nI_ge (by omega) (by omega)) (sf_x_item (by omega) (by omega) ?_)
    rw [sf_rd hU hg hs (by omega) (show i < l.length by omega)]
    refine sf_x_inner hn he he' hw hw' (by omega) hU hG (fun sx' it' hU' hG' => nm_r (nI_1 i) ?_)
    have := ih (i + 1) sx' it' (by omega) hU' hG'
    rw [show (sf_cm (fun x => v x 0) v' l (i + 1)).length = (sf_cm (fun x => v x 0) v' l i).length + sf_cl (v (l.getD i 0) 0) from by
      show (sf_cm (fun x => v x 0) v' l i ++ sf_tb (fun j => v' (l.getD i 0) (nI j)) (sf_cl (v (l.getD i 0) 0))).length = _
      rw [List.length_append, sf_tb_len]] at this
    exact this
end
end
section
section
variable {NC EC OC tc ec nc : Nat} {xr xm xt xe wc wm ac en ro mo tt : Int32} {to ta es el ed se sx kd sa sb ex1 ex2 pm1 pm2 us hc ts nl it ys yw yv yl : Nat → Int32}
/-! the reference's questions -/
theorem sf_y_wf1 {post : Int32 → Prop} {e : Nat} (hE : sf_E ec tc es el ed se to) (he : e < ec) (hd : ed e = 1) (h : post 1) : wpY_wellFormed post (nI NC, nI EC, nI OC, nI nc, nI ec, nI tc, wc, wm, ac, en, ro, mo, tt, kd, sa, sb, ex1, ex2, pm1, pm2, us, es, el, ed, se, to, ta, ys, yw, yv, yl) (nI e) := by
  have h16 := hE.1
  obtain ⟨f, l, q1, q2, q3, q4, -⟩ := sf_E_wf (ta := ta) hE he hd
  have ce : (nI e).toNatClampNeg = e := nI_clamp (by omega)
  refine br_f (nI_pos (by omega)) (br_f (nI_ge he (by omega)) ⟨vp_in_nI (by omega) (by omega), br_f ?_ ⟨vp_in_nI (by omega) (by omega), br_t ?_ h⟩⟩)
  · rw [ce, q2]; exact nI_nlt (b := 1) q3 (by omega)
  · rw [ce]; exact hd
theorem sf_y_wf0 {post : Int32 → Prop} {e : Int32} (h16 : ec ≤ 16) (hn : ¬ sf_isw ec ed e) (h : post 0) : wpY_wellFormed post (nI NC, nI EC, nI OC, nI nc, nI ec, nI tc, wc, wm, ac, en, ro, mo, tt, kd, sa, sb, ex1, ex2, pm1, pm2, us, es, el, ed, se, to, ta, ys, yw, yv, yl) e := by
  rcases pk_ix e (n := ec) (by omega) with g | g | ⟨j, hj, rfl⟩
  · exact br_t g h
  · by_cases z : e < 0
    · exact br_t z h
    · exact br_f z (br_t g h)
  · refine br_f (nI_pos (by omega)) (br_f (nI_ge hj (by omega)) ⟨vp_in_nI (by omega) (by omega), br_c (fun _ => h) (fun _ => ⟨vp_in_nI (by omega) (by omega), br_f ?_ h⟩)⟩)
    rw [nI_clamp (by omega)]
    exact fun z => hn ⟨j, hj, rfl, z⟩
theorem sf_y_bad0 {post : Int32 → Prop} {s : Nat} (h16 : nc ≤ 16) (hs : s < nc) (hu : us s = 0) (h : post 0) : wpY_badSrc post (nI NC, nI EC, nI OC, nI nc, nI ec, nI tc, wc, wm, ac, en, ro, mo, tt, kd, sa, sb, ex1, ex2, pm1, pm2, us, es, el, ed, se, to, ta, ys, yw, yv, yl) (nI s) := by
  refine br_f (nI_pos (by omega)) (br_f (nI_ge hs (by omega)) ⟨vp_in_nI (by omega) (by omega), br_t ?_ h⟩)
  rw [nI_clamp (by omega)]; exact hu
theorem sf_y_bad1 {post : Int32 → Prop} {s : Int32} (h16 : nc ≤ 16) (hn : ¬ sf_isf nc us s) (h : post 1) : wpY_badSrc post (nI NC, nI EC, nI OC, nI nc, nI ec, nI tc, wc, wm, ac, en, ro, mo, tt, kd, sa, sb, ex1, ex2, pm1, pm2, us, es, el, ed, se, to, ta, ys, yw, yv, yl) s := by
  rcases pk_ix s (n := nc) (by omega) with g | g | ⟨j, hj, rfl⟩
  · exact br_t g h
  · by_cases z : s < 0
    · exact br_t z h
    · exact br_f z (br_t g h)
  · refine br_f (nI_pos (by omega)) (br_f (nI_ge hj (by omega)) ⟨vp_in_nI (by omega) (by omega), br_f ?_ h⟩)
    rw [nI_clamp (by omega)]
    exact fun z => hn ⟨j, hj, rfl, z⟩
/-! the reference's evaluation -/
abbrev sf_TJ : Type := Int32 → Int32 → (Nat → Int32) → (Nat → Int32) → (Nat → Int32) → (Nat → Int32) → (Nat → Int32) → (Nat → Int32) → (Nat → Int32) → (Nat → Int32) → (Nat → Int32) → (Nat → Int32) → (Nat → Int32) → (Nat → Int32) → (Nat → Int32) → (Nat → Int32) → (Nat → Int32) → (Nat → Int32) → (Nat → Int32) → (Nat → Int32) → Prop
theorem sf_y_e105 {post : Int32 → SY → Prop} {J : sf_TJ} {x1 x y z : Int32} {d m : Nat} (hd : d < 8) (hJ : J (nI (d + 1)) (nI (m + 1)) kd sa sb ex1 ex2 pm1 pm2 us es el ed se to ta (upd ys d z) yw yv yl) : wY_eval_105 post J x1 x y (nI d) (nI m) z (nI NC) (nI EC) (nI OC) (nI nc) (nI ec) (nI tc) wc wm ac en ro mo tt kd sa sb ex1 ex2 pm1 pm2 us es el ed se to ta ys yw yv yl := by
  refine br_f (nI_ge (b := 8) hd (by decide)) ⟨vp_in_nI hd (by omega), nm_r (e' := upd ys d z) ?_ (nm_r (nI_1 d) (nm_r (nI_1 m) hJ))⟩
  rw [nI_clamp (by omega)]
theorem sf_y_e79 {post : Int32 → SY → Prop} {J : sf_TJ} {x1 x y : Int32} {d m k o : Nat} (hd : d < 8) (hk : k < 128) (ho : o < 3) (hJ : J (nI (d + 1)) (nI (m + 1)) kd sa sb ex1 ex2 pm1 pm2 us es el ed se to ta (upd ys d (sf_opd (nI o) (ta k) x y)) yw yv yl) : wY_eval_79 post J x1 x y (nI d) (nI m) (nI k) (nI o) (nI NC) (nI EC) (nI OC) (nI nc) (nI ec) (nI tc) wc wm ac en ro mo tt kd sa sb ex1 ex2 pm1 pm2 us es el ed se to ta ys yw yv yl := by
  have e : o = 0 ∨ o = 1 ∨ o = 2 := by omega
  rcases e with e | e | e
  · subst e
    refine br_t (by decide) ⟨vp_in_nI hk (by omega), ?_⟩
    rw [nI_clamp (by omega)]
    exact sf_y_e105 hd hJ
  · subst e
    exact br_f (by decide) (br_t (by decide) (sf_y_e105 hd hJ))
  · subst e
    exact br_f (by decide) (br_f (by decide) (sf_y_e105 hd hJ))
theorem sf_y_e305 {post : Int32 → SY → Prop} {J : sf_TJ} {x1 x y z : Int32} {d m : Nat} (hd : 2 ≤ d) (hd8 : d ≤ 8) (hJ : J (nI (d - 1)) (nI (m + 1)) kd sa sb ex1 ex2 pm1 pm2 us es el ed se to ta (upd ys (d - 2) z) yw yv yl) : wY_eval_305 post J x1 x y (nI d) (nI m) z (nI NC) (nI EC) (nI OC) (nI nc) (nI ec) (nI tc) wc wm ac en ro mo tt kd sa sb ex1 ex2 pm1 pm2 us es el ed se to ta ys yw yv yl := by
  refine nm_r (sf_m1 (by omega)) ⟨pk_in (d - 2) 8 (by omega) (sf_s1 (by omega)), nm_r (e' := upd ys (d - 2) z) ?_ (nm_r (nI_1 m) hJ)⟩
  rw [sf_s1 (by omega), nI_clamp (by omega)]
  rfl
theorem sf_y_vloop {post : Int32 → SY → Prop} {e f l : Nat} {x y : Int32} (he : e < 16) (q1 : es e = nI f) (q2 : el e = nI l) (hlg : sf_lg to f l) (hf : f + l ≤ 128) (hd1 : sf_dp to f l = 1)
    (h : ∀ ys', post (sf_sk to ta f x y l 0) (nI NC, nI EC, nI OC, nI nc, nI ec, nI tc, wc, wm, ac, en, ro, mo, tt, kd, sa, sb, ex1, ex2, pm1, pm2, us, es, el, ed, se, to, ta, ys', yw, yv, yl)) :
    ∀ (d m : Nat) (ys : Nat → Int32), m + d = l → sf_A ys (sf_sk to ta f x y m) (sf_dp to f m) → wY_eval_16 post (nI e) x y (nI NC) (nI EC) (nI OC) (nI nc) (nI ec) (nI tc) wc wm ac en ro mo tt (d + 1) (nI (sf_dp to f m)) (nI m) kd sa sb ex1 ex2 pm1 pm2 us es el ed se to ta ys yw yv yl := by
  have ce : (nI e).toNatClampNeg = e := nI_clamp (by omega)
  have ve : vp_in (nI e) 16 := vp_in_nI he (by omega)
  intro d
  induction d with
  | zero =>
    intro m ys hm hA
    have em : m = l := by omega
    subst em
    refine ⟨ve, br_t (by rw [ce, q2]; exact nI_le (Nat.le_refl m) (by omega)) (br_f ?_ ?_)⟩
    · rw [hd1]; decide
    · rw [hA 0 (by omega)]
      exact h ys
  | succ d ih =>
    intro m ys hm hA
    obtain ⟨o, ho, et, g1, g2⟩ := hlg m (by omega)
    have d8 := sf_dp8 hlg m (by omega)
    refine ⟨ve, br_f (by rw [ce, q2]; exact nI_ge (by omega) (by omega)) ⟨ve, nm_r (e' := nI (f + m)) (by rw [ce, q1, nI_add]) (br_f (nI_pos (by omega)) (br_t (nI_lt (b := 128) (by omega) (by decide)) ⟨vp_in_nI (by omega) (by omega), nm_r (e' := nI o) (by rw [nI_clamp (by omega)]; exact et) ?_⟩))⟩⟩
    by_cases h3 : o < 3
    · have hJ := ih (m + 1) _ (by omega) (sf_A_p (ta := ta) (x := x) (y := y) et h3 hA)
      rw [sf_dp_p et h3] at hJ
      have hr : wY_eval_79 post (wY_eval_16 post (nI e) x y (nI NC) (nI EC) (nI OC) (nI nc) (nI ec) (nI tc) wc wm ac en ro mo tt (d + 1)) (nI e) x y (nI (sf_dp to f m)) (nI m) (nI (f + m)) (nI o) (nI NC) (nI EC) (nI OC) (nI nc) (nI ec) (nI tc) wc wm ac en ro mo tt kd sa sb ex1 ex2 pm1 pm2 us es el ed se to ta ys yw yv yl := sf_y_e79 (g1 h3) (by omega) h3 hJ
      have eo : o = 0 ∨ o = 1 ∨ o = 2 := by omega
      rcases eo with z | z | z
      · subst z
        exact br_t (by decide) hr
      · subst z
        exact br_f (by decide) (br_t (by decide) hr)
      · subst z
        exact br_f (by decide) (br_f (by decide) (br_t (by decide) hr))
    · have dm := g2 (by omega)
      have hJ := ih (m + 1) _ (by omega) (sf_A_b (ta := ta) (x := x) (y := y) et (by omega) ho dm hA)
      rw [sf_dp_b et (by omega) ho] at hJ
      have hr : wY_eval_305 post (wY_eval_16 post (nI e) x y (nI NC) (nI EC) (nI OC) (nI nc) (nI ec) (nI tc) wc wm ac en ro mo tt (d + 1)) (nI e) x y (nI (sf_dp to f m)) (nI m) (sf_cmb (nI o) (ys (sf_dp to f m - 2)) (ys (sf_dp to f m - 1))) (nI NC) (nI EC) (nI OC) (nI nc) (nI ec) (nI tc) wc wm ac en ro mo tt kd sa sb ex1 ex2 pm1 pm2 us es el ed se to ta ys yw yv yl := sf_y_e305 dm d8 hJ
      have i1 : nI (sf_dp to f m) - 1 = nI (sf_dp to f m - 1) := sf_s1 (by omega)
      have i2 : nI (sf_dp to f m) - 2 = nI (sf_dp to f m - 2) := sf_s2 (by omega)
      have v1 : vp_in (nI (sf_dp to f m) - 1) 8 := pk_in (sf_dp to f m - 1) 8 (by omega) i1
      have v2 : vp_in (nI (sf_dp to f m) - 2) 8 := pk_in (sf_dp to f m - 2) 8 (by omega) i2
      have w1 : ys (nI (sf_dp to f m) - 1).toNatClampNeg = ys (sf_dp to f m - 1) := by rw [i1, nI_clamp (by omega)]
      have w2 : ys (nI (sf_dp to f m) - 2).toNatClampNeg = ys (sf_dp to f m - 2) := by rw [i2, nI_clamp (by omega)]
      have n2 : ¬ nI (sf_dp to f m) < 2 := nI_nlt (b := 2) dm (by omega)
      generalize ys (sf_dp to f m - 1) = b at hr w1
      generalize ys (sf_dp to f m - 2) = a at hr w2
      have eo : o = 3 ∨ o = 4 ∨ o = 5 ∨ o = 6 ∨ o = 7 ∨ o = 8 ∨ o = 9 := by omega
      rcases eo with z | z | z | z | z | z | z <;> subst z <;> refine br_f (by decide) (br_f (by decide) (br_f (by decide) (br_f n2 ⟨v1, nm_r w1 ⟨v2, nm_r w2 ?_⟩⟩)))
      · rw [sf_cmb3] at hr
        exact br_t (by decide) (nm_e hr)
      · rw [sf_cmb4] at hr
        exact br_f (by decide) (br_t (by decide) (nm_e hr))
      · rw [sf_cmb5] at hr
        exact br_f (by decide) (br_f (by decide) (br_t (by decide) (nm_e hr)))
      · rw [sf_cmb6] at hr
        refine br_f (by decide) (br_f (by decide) (br_f (by decide) (br_t (by decide) ?_)))
        by_cases z : b = 0
        · rw [if_pos z] at hr; exact br_t z hr
        · rw [if_neg z] at hr; exact br_f z ⟨z, hr⟩
      · rw [sf_cmb7] at hr
        refine br_f (by decide) (br_f (by decide) (br_f (by decide) (br_f (by decide) (br_t (by decide) ?_))))
        by_cases z : b = 0
        · rw [if_pos z] at hr; exact br_t z hr
        · rw [if_neg z] at hr; exact br_f z ⟨z, hr⟩
      · rw [sf_cmb8] at hr
        refine br_f (by decide) (br_f (by decide) (br_f (by decide) (br_f (by decide) (br_f (by decide) (br_t (by decide) ?_)))))
        by_cases z : a < b
        · rw [if_pos z] at hr; exact br_f (Int32.not_le.mpr z) hr
        · rw [if_neg z] at hr; exact br_t (Int32.not_lt.mp z) hr
      · rw [sf_cmb9] at hr
        refine br_f (by decide) (br_f (by decide) (br_f (by decide) (br_f (by decide) (br_f (by decide) (br_f (by decide) (br_t (by decide) ?_))))))
        by_cases z : a = b
        · rw [if_pos z] at hr; exact br_t z hr
        · rw [if_neg z] at hr; exact br_f z hr
theorem sf_y_eval {post : Int32 → SY → Prop} {e : Nat} {p x y : Int32} (hE : sf_E ec tc es el ed se to) (he : e < ec) (hd : ed e = 1) (hp : p = nI e) (h : ∀ ys', post (sf_V es el to ta e x y) (nI NC, nI EC, nI OC, nI nc, nI ec, nI tc, wc, wm, ac, en, ro, mo, tt, kd, sa, sb, ex1, ex2, pm1, pm2, us, es, el, ed, se, to, ta, ys', yw, yv, yl)) : wpY_eval post (nI NC, nI EC, nI OC, nI nc, nI ec, nI tc, wc, wm, ac, en, ro, mo, tt, kd, sa, sb, ex1, ex2, pm1, pm2, us, es, el, ed, se, to, ta, ys, yw, yv, yl) p x y := by
  subst hp
  have h16 := hE.1
  obtain ⟨f, l, q1, q2, q3, q4, q5, q6, q7, q8⟩ := sf_E_wf (ta := ta) hE he hd
  rw [q8] at h
  unfold wpY_eval
  refine sf_y_wf1 hE he hd (br_f (by decide) ⟨l + 1, ?_⟩)
  exact sf_y_vloop (by omega) q1 q2 q6 q5 q7 h l 0 ys (by omega) sf_A0
theorem sf_y_eval0 {post : Int32 → SY → Prop} {e x y : Int32} (h16 : ec ≤ 16) (hn : ¬ sf_isw ec ed e) (h : post 0 (nI NC, nI EC, nI OC, nI nc, nI ec, nI tc, wc, wm, ac, en, ro, mo, tt, kd, sa, sb, ex1, ex2, pm1, pm2, us, es, el, ed, se, to, ta, ys, yw, yv, yl)) : wpY_eval post (nI NC, nI EC, nI OC, nI nc, nI ec, nI tc, wc, wm, ac, en, ro, mo, tt, kd, sa, sb, ex1, ex2, pm1, pm2, us, es, el, ed, se, to, ta, ys, yw, yv, yl) e x y := by
  unfold wpY_eval
  exact sf_y_wf0 h16 hn (br_t rfl h)
/-! the reference's new node -/
theorem sf_y_109 {post : Int32 → SY → Prop} {o : Option Nat} {x8 : Int32} (ho : ∀ j, o = some j → j < 16) (h : post x8 (nI NC, nI EC, nI OC, nI (nc + 1), nI ec, nI tc, wc, wm, ac, en, ro, mo, tt, kd, sa, sb, ex1, ex2, pm1, pm2, us, es, el, ed, sf_su se o, to, ta, ys, yw, yv, yl)) : wY_add_109 post (sf_o o) x8 (nI NC) (nI EC) (nI OC) (nI nc) (nI ec) (nI tc) wc wm ac en ro mo tt kd sa sb ex1 ex2 pm1 pm2 us es el ed se to ta ys yw yv yl := by
  cases o with
  | none => exact br_t (by decide) (nm_r (nI_1 nc) h)
  | some s =>
    have hs := ho s rfl
    refine br_f (nI_pos (by omega)) ⟨vp_in_nI hs (by omega), nm_r (e' := upd se s 1) ?_ (nm_r (nI_1 nc) h)⟩
    rw [show sf_o (some s) = nI s from rfl, nI_clamp (by omega), sf_vb1]
theorem sf_y_96 {post : Int32 → SY → Prop} {o b : Option Nat} {x8 : Int32} (ho : ∀ j, o = some j → j < 16) (hb : ∀ j, b = some j → j < 16) (h : post x8 (nI NC, nI EC, nI OC, nI (nc + 1), nI ec, nI tc, wc, wm, ac, en, ro, mo, tt, kd, sa, sb, ex1, ex2, pm1, pm2, us, es, el, ed, sf_su (sf_su se o) b, to, ta, ys, yw, yv, yl)) : wY_add_96 post (sf_o o) (sf_o b) x8 (nI NC) (nI EC) (nI OC) (nI nc) (nI ec) (nI tc) wc wm ac en ro mo tt kd sa sb ex1 ex2 pm1 pm2 us es el ed se to ta ys yw yv yl := by
  cases o with
  | none => exact br_t (by decide) (sf_y_109 hb h)
  | some s =>
    have hs := ho s rfl
    refine br_f (nI_pos (by omega)) ⟨vp_in_nI hs (by omega), nm_r (e' := upd se s 1) ?_ (sf_y_109 hb h)⟩
    rw [show sf_o (some s) = nI s from rfl, nI_clamp (by omega), sf_vb1]
theorem sf_y_85 {post : Int32 → SY → Prop} {b e f : Option Nat} {x8 : Int32} (hb : ∀ j, b = some j → j < 16) (he : ∀ j, e = some j → j < 16) (hf : ∀ j, f = some j → j < 16) (h : post x8 (nI NC, nI EC, nI OC, nI (nc + 1), nI ec, nI tc, wc, wm, ac, en, ro, mo, tt, kd, sa, sb, ex1, ex2, pm1, pm2, sf_su us b, es, el, ed, sf_su (sf_su se e) f, to, ta, ys, yw, yv, yl)) : wY_add_85 post (sf_o b) (sf_o e) (sf_o f) x8 (nI NC) (nI EC) (nI OC) (nI nc) (nI ec) (nI tc) wc wm ac en ro mo tt kd sa sb ex1 ex2 pm1 pm2 us es el ed se to ta ys yw yv yl := by
  cases b with
  | none => exact br_t (by decide) (sf_y_96 he hf h)
  | some s =>
    have hs := hb s rfl
    refine br_f (nI_pos (by omega)) ⟨vp_in_nI hs (by omega), nm_r (e' := upd us s 1) ?_ (sf_y_96 he hf h)⟩
    rw [show sf_o (some s) = nI s from rfl, nI_clamp (by omega), sf_vb1]
theorem sf_y_add {post : Int32 → SY → Prop} {k p q : Int32} {a b e f : Option Nat} (hn : nc < 16) (hu : us nc = 0) (ha : ∀ j, a = some j → j < 16) (hb : ∀ j, b = some j → j < 16) (he : ∀ j, e = some j → j < 16) (hf : ∀ j, f = some j → j < 16)
    (h : post (nI nc) (nI NC, nI EC, nI OC, nI (nc + 1), nI ec, nI tc, wc, wm, ac, en, ro, mo, tt, upd kd nc k, upd sa nc (sf_o a), upd sb nc (sf_o b), upd ex1 nc (sf_o e), upd ex2 nc (sf_o f), upd pm1 nc p, upd pm2 nc q, sf_su (sf_su us a) b, es, el, ed, sf_su (sf_su se e) f, to, ta, ys, yw, yv, yl)) : wpY_add post (nI NC, nI EC, nI OC, nI nc, nI ec, nI tc, wc, wm, ac, en, ro, mo, tt, kd, sa, sb, ex1, ex2, pm1, pm2, us, es, el, ed, se, to, ta, ys, yw, yv, yl) k (sf_o a) (sf_o b) (sf_o e) (sf_o f) p q := by
  have vn : vp_in (nI nc) 16 := vp_in_nI hn (by omega)
  have cn : (nI nc).toNatClampNeg = nc := nI_clamp (by omega)
  have e0 : upd us (nI nc).toNatClampNeg (vp_nar .boolean 0) = us := by rw [cn, sf_vb0]; exact sf_updid hu
  refine ⟨vn, nm_r (congrArg (fun j => upd kd j k) cn) ⟨vn, nm_r (congrArg (fun j => upd sa j (sf_o a)) cn) ⟨vn, nm_r (congrArg (fun j => upd sb j (sf_o b)) cn) ⟨vn, nm_r (congrArg (fun j => upd ex1 j (sf_o e)) cn) ⟨vn, nm_r (congrArg (fun j => upd ex2 j (sf_o f)) cn) ⟨vn, nm_r (congrArg (fun j => upd pm1 j p) cn) ⟨vn, nm_r (congrArg (fun j => upd pm2 j q) cn) ⟨vn, nm_r e0 ?_⟩⟩⟩⟩⟩⟩⟩⟩
  cases a with
  | none => exact br_t (by decide) (sf_y_85 hb he hf h)
  | some s =>
    have hs := ha s rfl
    refine br_f (nI_pos (by omega)) ⟨vp_in_nI hs (by omega), nm_r (e' := upd us s 1) ?_ (sf_y_85 hb he hf h)⟩
    rw [show sf_o (some s) = nI s from rfl, nI_clamp (by omega), sf_vb1]
end
end
section
section
variable {NC EC OC tc ec nc : Nat} {xr xm xt xe wc wm ac en ro mo tt : Int32} {to ta es el ed se sx kd sa sb ex1 ex2 pm1 pm2 us hc ts nl it ys yw yv yl : Nat → Int32}
/-! the reference's walk over a tree -/
abbrev sf_TW : Type := Int32 → Int32 → sf_TJ
theorem sf_y_w132a {post : SY → Prop} {J : sf_TW} {sp g n : Nat} (hn : n < 16) (hb : sb n = -1) (hJ : J (nI sp) (nI (g + 1)) wc wm kd sa sb ex1 ex2 pm1 pm2 us es el ed se to ta ys yw yv yl) : wY_walk_132 post J (nI sp) (nI g) (nI n) (nI NC) (nI EC) (nI OC) (nI nc) (nI ec) (nI tc) wc wm ac en ro mo tt kd sa sb ex1 ex2 pm1 pm2 us es el ed se to ta ys yw yv yl := by
  refine ⟨vp_in_nI hn (by omega), br_t ?_ (nm_r (nI_1 g) hJ)⟩
  rw [nI_clamp (by omega), hb]; decide
theorem sf_y_w132b {post : SY → Prop} {J : sf_TW} {sp g n t : Nat} (hn : n < 16) (ht : t < 16) (hsp : sp < 16) (hb : sb n = nI t) (hJ : J (nI (sp + 1)) (nI (g + 1)) wc wm kd sa sb ex1 ex2 pm1 pm2 us es el ed se to ta ys (upd yw sp (nI t)) yv yl) : wY_walk_132 post J (nI sp) (nI g) (nI n) (nI NC) (nI EC) (nI OC) (nI nc) (nI ec) (nI tc) wc wm ac en ro mo tt kd sa sb ex1 ex2 pm1 pm2 us es el ed se to ta ys yw yv yl := by
  have c1 : sb (nI n).toNatClampNeg = nI t := by rw [nI_clamp (by omega)]; exact hb
  refine ⟨vp_in_nI hn (by omega), br_f (by rw [c1]; exact nI_pos (by omega)) (br_f (nI_ge (b := 16) hsp (by decide)) ⟨vp_in_nI hn (by omega), vp_in_nI hsp (by omega), nm_r (e' := upd yw sp (nI t)) (by rw [c1, nI_clamp (by omega)]) (nm_r (nI_1 sp) (nm_r (nI_1 g) hJ))⟩)⟩
theorem sf_y_w100a {post : SY → Prop} {J : sf_TW} {x2 x3 : Int32} {n : Nat} (hn : n < 16) (hb : sa n = -1) (h : wY_walk_132 post J x2 x3 (nI n) (nI NC) (nI EC) (nI OC) (nI nc) (nI ec) (nI tc) wc wm ac en ro mo tt kd sa sb ex1 ex2 pm1 pm2 us es el ed se to ta ys yw yv yl) : wY_walk_100 post J x2 x3 (nI n) (nI NC) (nI EC) (nI OC) (nI nc) (nI ec) (nI tc) wc wm ac en ro mo tt kd sa sb ex1 ex2 pm1 pm2 us es el ed se to ta ys yw yv yl := by
  refine ⟨vp_in_nI hn (by omega), br_t ?_ h⟩
  rw [nI_clamp (by omega), hb]; decide
theorem sf_y_w100b {post : SY → Prop} {J : sf_TW} {x3 : Int32} {sp n s : Nat} (hn : n < 16) (hs : s < 16) (hsp : sp < 16) (hb : sa n = nI s) (h : wY_walk_132 post J (nI (sp + 1)) x3 (nI n) (nI NC) (nI EC) (nI OC) (nI nc) (nI ec) (nI tc) wc wm ac en ro mo tt kd sa sb ex1 ex2 pm1 pm2 us es el ed se to ta ys (upd yw sp (nI s)) yv yl) : wY_walk_100 post J (nI sp) x3 (nI n) (nI NC) (nI EC) (nI OC) (nI nc) (nI ec) (nI tc) wc wm ac en ro mo tt kd sa sb ex1 ex2 pm1 pm2 us es el ed se to ta ys yw yv yl := by
  have c1 : sa (nI n).toNatClampNeg = nI s := by rw [nI_clamp (by omega)]; exact hb
  refine ⟨vp_in_nI hn (by omega), br_f (by rw [c1]; exact nI_pos (by omega)) (br_f (nI_ge (b := 16) hsp (by decide)) ⟨vp_in_nI hn (by omega), vp_in_nI hsp (by omega), nm_r (e' := upd yw sp (nI s)) (by rw [c1, nI_clamp (by omega)]) (nm_r (nI_1 sp) h)⟩)⟩
theorem sf_y_wloop {post : SY → Prop} {V : Nat → Int32 → Int32 → Int32} {W : Nat → Prop} {LS : Nat → List Int32} {SZ : Nat → Nat} {r : Nat} (hN : sf_N V W nc kd sa sb ex1 ex2 pm1 pm2 us hc ts nl it LS SZ) (hr : r < nc) (h : ∀ w, post (nI NC, nI EC, nI OC, nI nc, nI ec, nI tc, nI (SZ r), hc r, ac, en, ro, mo, tt, kd, sa, sb, ex1, ex2, pm1, pm2, us, es, el, ed, se, to, ta, ys, w, yv, yl)) :
    ∀ (d sp c : Nat) (yw : Nat → Int32) (wm : Int32), c + d = SZ r → sf_wI nc SZ hc yw sp c wm r → wY_walk_37 post (nI NC) (nI EC) (nI OC) (nI nc) (nI ec) (nI tc) ac en ro mo tt (d + 1) (nI sp) (nI c) (nI c) wm kd sa sb ex1 ex2 pm1 pm2 us es el ed se to ta ys yw yv yl := by
  have h16 := hN.1
  have hr2 := (hN.2.1 r hr).2.2.2.2.2.2.2.1
  have hrb := (hN.2.1 r hr).2.2.2.2.2.2.2.2.1
  intro d
  induction d with
  | zero =>
    intro sp c yw wm hc1 hI
    cases sp with
    | zero =>
      obtain ⟨e1, e2⟩ := sf_we hI hrb
      subst e2
      refine br_f (nI_ge (b := 64) (by omega) (by decide)) (br_t (by decide) ?_)
      rw [e1]
      exact h yw
    | succ j =>
      obtain ⟨n, hn, en⟩ := hI.1 j (by omega)
      have q := hI.2.1
      rw [sf_qs_s en (by omega)] at q
      have := (hN.2.1 n hn).2.2.2.2.2.2.1
      omega
  | succ d ih =>
    intro sp c yw wm hc1 hI
    cases sp with
    | zero =>
      have := (sf_we hI hrb).1
      omega
    | succ j =>
      obtain ⟨n, hn, en⟩ := hI.1 j (by omega)
      have room := sf_wroom h16 (fun m hm => (hN.2.1 m hm).2.2.2.2.2.2.1) hr2 hI en hn
      have z1 := (hN.2.1 n hn).2.2.2.2.2.2.1
      have n16 : n < 16 := by omega
      refine br_f (nI_ge (b := 64) (by omega) (by decide)) (br_f (nI_nle (by omega) (by omega)) (nm_r (pk_m1 j) ⟨vp_in_nI (by omega) (by omega), nm_r (e' := nI n) (by rw [nI_clamp (by omega)]; exact en) (br_f (nI_pos (by omega)) (br_t (nI_lt (b := 16) n16 (by decide)) (nm_r (nI_1 c) ⟨vp_in_nI n16 (by omega), ?_⟩)))⟩))
      have cn : (nI n).toNatClampNeg = n := nI_clamp (by omega)
      rw [cn]
      rcases (hN.2.1 n hn).1 with ⟨h1, h2, h3, h4, h5, -⟩ | ⟨s, e, hs, h1, h2, h3, h4, -, -, h6⟩ | ⟨s, m, hs, h1, h2, h3, h4, -, -, h6⟩ | ⟨s, e, f, hs, h1, h2, h3, h4, -, -, -, -, -, h8, -⟩ | ⟨s, t, e, hs, ht, h1, h2, h3, h4, -, -, h6, -⟩
      · refine br_f (by rw [h1]; decide) (sf_y_w100a n16 h2 (sf_y_w132a n16 h3 ?_))
        exact ih j (c + 1) yw wm (by omega) (sf_ws0 h16 hI en hn h4 h5)
      · have k8 : ¬ kd n = 8 := by
          rcases h6 with ⟨h6, -⟩ | ⟨h6, -⟩ | ⟨h6, -⟩ <;> rw [h6] <;> decide
        refine br_f k8 (sf_y_w100b n16 (show s < 16 by omega) (by omega) h1 (sf_y_w132a n16 h2 ?_))
        exact ih (j + 1) (c + 1) _ wm (by omega) (sf_ws1 h16 hI en hn (by omega) h3 h4)
      · have k8 : ¬ kd n = 8 := by
          rcases h6 with ⟨h6, -⟩ | ⟨h6, -⟩ <;> rw [h6] <;> decide
        refine br_f k8 (sf_y_w100b n16 (show s < 16 by omega) (by omega) h1 (sf_y_w132a n16 h2 ?_))
        exact ih (j + 1) (c + 1) _ wm (by omega) (sf_ws1 h16 hI en hn (by omega) h3 h4)
      · refine br_t h8 (sf_y_w100b n16 (show s < 16 by omega) (by omega) h1 (sf_y_w132a n16 h2 ?_))
        exact ih (j + 1) (c + 1) _ 1 (by omega) (sf_ws8 h16 hI en hn (by omega) h3 h4)
      · have g1 := (hN.2.1 s (by omega)).2.2.2.2.2.2.2.2.1
        have g2 := (hN.2.1 t (by omega)).2.2.2.2.2.2.2.2.1
        have y1 := (hN.2.1 s (by omega)).2.2.2.2.2.2.1
        have y2 := (hN.2.1 t (by omega)).2.2.2.2.2.2.1
        refine br_f (by rw [h6]; decide) (sf_y_w100b n16 (show s < 16 by omega) (by omega) h1 (sf_y_w132b n16 (show t < 16 by omega) (by omega) h2 ?_))
        exact ih (j + 2) (c + 1) _ wm (by omega) (sf_ws2 h16 hI en hn (by omega) (by omega) h3 (by rw [h4]; exact (sf_bo g1 g2).2.1))
theorem sf_y_walk {post : SY → Prop} {V : Nat → Int32 → Int32 → Int32} {W : Nat → Prop} {LS : Nat → List Int32} {SZ : Nat → Nat} {r : Nat} (hN : sf_N V W nc kd sa sb ex1 ex2 pm1 pm2 us hc ts nl it LS SZ) (hr : r < nc) (h : ∀ w, post (nI NC, nI EC, nI OC, nI nc, nI ec, nI tc, nI (SZ r), hc r, ac, en, ro, mo, tt, kd, sa, sb, ex1, ex2, pm1, pm2, us, es, el, ed, se, to, ta, ys, w, yv, yl)) : wpY_walk post (nI NC, nI EC, nI OC, nI nc, nI ec, nI tc, wc, wm, ac, en, ro, mo, tt, kd, sa, sb, ex1, ex2, pm1, pm2, us, es, el, ed, se, to, ta, ys, yw, yv, yl) (nI r) := by
  have h16 := hN.1
  refine br_f (nI_pos (by omega)) (br_t (nI_lt hr (by omega)) (nm_e (nm_r (e' := nI 1) (by decide) ⟨SZ r + 1, ?_⟩)))
  exact sf_y_wloop hN hr h (SZ r) 1 0 _ 0 (by omega) (sf_w0 h16 hr)
end
end
section
section
variable {NC EC OC tc ec nc : Nat} {xr xm xt xe wc wm ac en ro mo tt : Int32} {to ta es el ed se sx kd sa sb ex1 ex2 pm1 pm2 us hc ts nl it ys yw yv yl : Nat → Int32}
/-! the reference reckons a node -/
theorem sf_ad {b i : Nat} (h : b + i < 2048) : (nI b + nI i).toNatClampNeg = b + i := by rw [nI_add, nI_clamp (by omega)]
theorem sf_ai {b i : Nat} (h : b + i < 2048) : vp_in (nI b + nI i) 2048 := pk_in (b + i) 2048 h (nI_add _ _)
theorem sf_y_ev {post : Int32 → SY → Prop} {e : Nat} {p x' y' x y : Int32} (hE : sf_E ec tc es el ed se to) (he : e < ec) (hd : ed e = 1) (hp : p = nI e) (hx : x' = x) (hy : y' = y) (h : ∀ ys', post (sf_V es el to ta e x y) (nI NC, nI EC, nI OC, nI nc, nI ec, nI tc, wc, wm, ac, en, ro, mo, tt, kd, sa, sb, ex1, ex2, pm1, pm2, us, es, el, ed, se, to, ta, ys', yw, yv, yl)) : wpY_eval post (nI NC, nI EC, nI OC, nI nc, nI ec, nI tc, wc, wm, ac, en, ro, mo, tt, kd, sa, sb, ex1, ex2, pm1, pm2, us, es, el, ed, se, to, ta, ys, yw, yv, yl) p x' y' := by
  subst hx hy
  exact sf_y_eval hE he hd hp h
theorem sf_y_rangeloop {post : SY → Prop} {n c : Nat} {yv0 : Nat → Int32} (hn : n < 16) (hc2 : c ≤ 16) (hp : pm2 n = nI c)
    (h : ∀ yv', sf_U yv0 yv' (n * 128) → sf_G yv' (n * 128) (sf_tb (fun i => pm1 n + nI i) c) → post (nI NC, nI EC, nI OC, nI nc, nI ec, nI tc, wc, wm, ac, en, ro, mo, tt, kd, sa, sb, ex1, ex2, pm1, pm2, us, es, el, ed, se, to, ta, ys, yw, yv', upd yl n (nI c))) :
    ∀ (d i : Nat) (yv : Nat → Int32), i + d = c → sf_U yv0 yv (n * 128) → sf_G yv (n * 128) (sf_tb (fun i => pm1 n + nI i) i) → wY_computeNode_96 post (nI n) (nI (n * 128)) (nI NC) (nI EC) (nI OC) (nI nc) (nI ec) (nI tc) wc wm ac en ro mo tt (d + 1) (nI i) (nI i) kd sa sb ex1 ex2 pm1 pm2 us es el ed se to ta ys yw yv yl := by
  have vn : vp_in (nI n) 16 := vp_in_nI hn (by omega)
  have cn : (nI n).toNatClampNeg = n := nI_clamp (by omega)
  intro d
  induction d with
  | zero =>
    intro i yv hi hU hG
    have ei : i = c := by omega
    subst ei
    exact ⟨vn, br_t (by rw [cn, hp]; exact nI_le (by omega) (by omega)) ⟨vn, nm_r (congrArg (fun j => upd yl j (nI i)) cn) (h yv hU hG)⟩⟩
  | succ d ih =>
    intro i yv hi hU hG
    refine ⟨vn, br_f (by rw [cn, hp]; exact nI_ge (by omega) (by omega)) (br_f (nI_ge (b := 128) (by omega) (by decide)) ⟨vn, sf_ai (by omega), nm_r (e' := upd yv (n * 128 + i) (pm1 n + nI i)) (by rw [cn, sf_ad (by omega)]) (nm_r (nI_1 i) (nm_r (nI_1 i) ?_))⟩)⟩
    exact ih (i + 1) _ (by omega) (sf_Uapp hU) (sf_Gtb (g := fun i => pm1 n + nI i) hG)
theorem sf_y_maploop {post : SY → Prop} {s e n : Nat} {l : List Int32} {yv0 : Nat → Int32} (hn : n < 16) (hs : s < n) (hE : sf_E ec tc es el ed se to) (he : e < ec) (hd : ed e = 1) (hx : ex1 n = nI e) (hl : l.length ≤ 128) (hg : sf_G yv0 (s * 128) l)
    (h : ∀ ys' yv', sf_U yv0 yv' (n * 128) → sf_G yv' (n * 128) (sf_tb (fun i => sf_V es el to ta e (l.getD i 0) 0) l.length) → post (nI NC, nI EC, nI OC, nI nc, nI ec, nI tc, wc, wm, ac, en, ro, mo, tt, kd, sa, sb, ex1, ex2, pm1, pm2, us, es, el, ed, se, to, ta, ys', yw, yv', upd yl n (nI l.length))) :
    ∀ (d i : Nat) (ys yv : Nat → Int32), i + d = l.length → sf_U yv0 yv (n * 128) → sf_G yv (n * 128) (sf_tb (fun i => sf_V es el to ta e (l.getD i 0) 0) i) → wY_computeNode_154 post (nI n) (nI (n * 128)) (nI (s * 128)) (nI l.length) (d + 1) (nI i) (nI i) (nI NC) (nI EC) (nI OC) (nI nc) (nI ec) (nI tc) wc wm ac en ro mo tt kd sa sb ex1 ex2 pm1 pm2 us es el ed se to ta ys yw yv yl := by
  have vn : vp_in (nI n) 16 := vp_in_nI hn (by omega)
  have cn : (nI n).toNatClampNeg = n := nI_clamp (by omega)
  intro d
  induction d with
  | zero =>
    intro i ys yv hi hU hG
    have ei : i = l.length := by omega
    subst ei
    exact br_t (nI_le (by omega) (by omega)) ⟨vn, nm_r (congrArg (fun j => upd yl j (nI l.length)) cn) (h ys yv hU hG)⟩
  | succ d ih =>
    intro i ys yv hi hU hG
    have er : yv (nI (s * 128) + nI i).toNatClampNeg = l.getD i 0 := by
      rw [sf_ad (by omega)]; exact sf_rd hU hg hs hl (by omega)
    refine br_f (nI_ge (by omega) (by omega)) ⟨vn, sf_ai (by omega), sf_y_ev hE he hd (by rw [cn]; exact hx) er rfl (fun ys' => ⟨sf_ai (by omega), nm_r (congrArg (fun j => upd yv j _) (sf_ad (by omega))) (nm_r (nI_1 i) (nm_r (nI_1 i) ?_))⟩)⟩
    exact ih (i + 1) ys' _ (by omega) (sf_Uapp hU) (sf_Gtb hG)
theorem sf_y_filterloop {post : SY → Prop} {s e n : Nat} {l : List Int32} {yv0 : Nat → Int32} (hn : n < 16) (hs : s < n) (hE : sf_E ec tc es el ed se to) (he : e < ec) (hd : ed e = 1) (hx : ex1 n = nI e) (hl : l.length ≤ 128) (hg : sf_G yv0 (s * 128) l)
    (h : ∀ ys' yv', sf_U yv0 yv' (n * 128) → sf_G yv' (n * 128) (sf_ft (fun x => sf_V es el to ta e x 0) l l.length) → post (nI NC, nI EC, nI OC, nI nc, nI ec, nI tc, wc, wm, ac, en, ro, mo, tt, kd, sa, sb, ex1, ex2, pm1, pm2, us, es, el, ed, se, to, ta, ys', yw, yv', upd yl n (nI (sf_ft (fun x => sf_V es el to ta e x 0) l l.length).length))) :
    ∀ (d i : Nat) (ys yv : Nat → Int32), i + d = l.length → sf_U yv0 yv (n * 128) → sf_G yv (n * 128) (sf_ft (fun x => sf_V es el to ta e x 0) l i) → wY_computeNode_211 post (nI n) (nI (n * 128)) (nI (s * 128)) (nI l.length) (d + 1) (nI (sf_ft (fun x => sf_V es el to ta e x 0) l i).length) (nI i) (nI NC) (nI EC) (nI OC) (nI nc) (nI ec) (nI tc) wc wm ac en ro mo tt kd sa sb ex1 ex2 pm1 pm2 us es el ed se to ta ys yw yv yl := by
  have vn : vp_in (nI n) 16 := vp_in_nI hn (by omega)
  have cn : (nI n).toNatClampNeg = n := nI_clamp (by omega)
  intro d
  induction d with
  | zero =>
    intro i ys yv hi hU hG
    have ei : i = l.length := by omega
    subst ei
    exact br_t (nI_le (by omega) (by omega)) ⟨vn, nm_r (congrArg (fun j => upd yl j _) cn) (h ys yv hU hG)⟩
  | succ d ih =>
    intro i ys yv hi hU hG
    have hle := sf_ft_len (fun x => sf_V es el to ta e x 0) l i
    have ef : sf_ft (fun x => sf_V es el to ta e x 0) l (i + 1) = if sf_V es el to ta e (l.getD i 0) 0 = 0 then sf_ft (fun x => sf_V es el to ta e x 0) l i else sf_ft (fun x => sf_V es el to ta e x 0) l i ++ [l.getD i 0] := rfl
    have er : yv (nI (s * 128) + nI i).toNatClampNeg = l.getD i 0 := by
      rw [sf_ad (by omega)]; exact sf_rd hU hg hs hl (by omega)
    refine br_f (nI_ge (by omega) (by omega)) ⟨sf_ai (by omega), nm_r er ⟨vn, sf_y_ev hE he hd (by rw [cn]; exact hx) rfl rfl (fun ys' => ?_)⟩⟩
    by_cases z : sf_V es el to ta e (l.getD i 0) 0 = 0
    · rw [if_pos z] at ef
      refine br_t z (nm_r (nI_1 i) ?_)
      have := ih (i + 1) ys' yv (by omega) hU (by rw [ef]; exact hG)
      rw [ef] at this
      exact this
    · rw [if_neg z] at ef
      refine br_f z ⟨sf_ai (by omega), nm_r (congrArg (fun j => upd yv j _) (sf_ad (by omega))) (nm_r (nI_1 _) (nm_r (nI_1 i) ?_))⟩
      have := ih (i + 1) ys' _ (by omega) (sf_Uapp hU) (by rw [ef]; exact sf_Gapp hG _)
      rw [ef, sf_lenapp] at this
      exact this
theorem sf_y_scanloop {post : SY → Prop} {s e n : Nat} {a : Int32} {l : List Int32} {yv0 : Nat → Int32} (hn : n < 16) (hs : s < n) (hE : sf_E ec tc es el ed se to) (he : e < ec) (hd : ed e = 1) (hx : ex1 n = nI e) (hl : l.length ≤ 128) (hg : sf_G yv0 (s * 128) l)
    (h : ∀ ys' yv', sf_U yv0 yv' (n * 128) → sf_G yv' (n * 128) (sf_tb (fun i => sf_ac (sf_V es el to ta e) a l (i + 1)) l.length) → post (nI NC, nI EC, nI OC, nI nc, nI ec, nI tc, wc, wm, ac, en, ro, mo, tt, kd, sa, sb, ex1, ex2, pm1, pm2, us, es, el, ed, se, to, ta, ys', yw, yv', upd yl n (nI l.length))) :
    ∀ (d i : Nat) (ys yv : Nat → Int32), i + d = l.length → sf_U yv0 yv (n * 128) → sf_G yv (n * 128) (sf_tb (fun i => sf_ac (sf_V es el to ta e) a l (i + 1)) i) → wY_computeNode_285 post (nI n) (nI (n * 128)) (nI (s * 128)) (nI l.length) (d + 1) (nI i) (sf_ac (sf_V es el to ta e) a l i) (nI i) (nI NC) (nI EC) (nI OC) (nI nc) (nI ec) (nI tc) wc wm ac en ro mo tt kd sa sb ex1 ex2 pm1 pm2 us es el ed se to ta ys yw yv yl := by
  have vn : vp_in (nI n) 16 := vp_in_nI hn (by omega)
  have cn : (nI n).toNatClampNeg = n := nI_clamp (by omega)
  intro d
  induction d with
  | zero =>
    intro i ys yv hi hU hG
    have ei : i = l.length := by omega
    subst ei
    exact br_t (nI_le (by omega) (by omega)) ⟨vn, nm_r (congrArg (fun j => upd yl j (nI l.length)) cn) (h ys yv hU hG)⟩
  | succ d ih =>
    intro i ys yv hi hU hG
    have er : yv (nI (s * 128) + nI i).toNatClampNeg = l.getD i 0 := by
      rw [sf_ad (by omega)]; exact sf_rd hU hg hs hl (by omega)
    refine br_f (nI_ge (by omega) (by omega)) ⟨vn, sf_ai (by omega), sf_y_ev hE he hd (by rw [cn]; exact hx) rfl er (fun ys' => ⟨sf_ai (by omega), nm_r (congrArg (fun j => upd yv j _) (sf_ad (by omega))) (nm_r (nI_1 i) (nm_r (nI_1 i) ?_))⟩)⟩
    exact ih (i + 1) ys' _ (by omega) (sf_Uapp hU) (sf_Gtb (g := fun i => sf_ac (sf_V es el to ta e) a l (i + 1)) hG)
theorem sf_y_ziploop {post : SY → Prop} {s t e n c : Nat} {l m : List Int32} {yv0 : Nat → Int32} (hn : n < 16) (hs : s < n) (ht : t < n) (hE : sf_E ec tc es el ed se to) (he : e < ec) (hd : ed e = 1) (hx : ex1 n = nI e) (hl : l.length ≤ 128) (hm : m.length ≤ 128) (hg : sf_G yv0 (s * 128) l) (hg2 : sf_G yv0 (t * 128) m) (hc1 : c ≤ l.length) (hc2 : c ≤ m.length)
    (h : ∀ ys' yv', sf_U yv0 yv' (n * 128) → sf_G yv' (n * 128) (sf_tb (fun i => sf_V es el to ta e (l.getD i 0) (m.getD i 0)) c) → post (nI NC, nI EC, nI OC, nI nc, nI ec, nI tc, wc, wm, ac, en, ro, mo, tt, kd, sa, sb, ex1, ex2, pm1, pm2, us, es, el, ed, se, to, ta, ys', yw, yv', upd yl n (nI c))) :
    ∀ (d i : Nat) (ys yv : Nat → Int32), i + d = c → sf_U yv0 yv (n * 128) → sf_G yv (n * 128) (sf_tb (fun i => sf_V es el to ta e (l.getD i 0) (m.getD i 0)) i) → wY_computeNode_401 post (nI n) (nI (n * 128)) (nI (s * 128)) (nI t) (nI c) (d + 1) (nI i) (nI i) (nI NC) (nI EC) (nI OC) (nI nc) (nI ec) (nI tc) wc wm ac en ro mo tt kd sa sb ex1 ex2 pm1 pm2 us es el ed se to ta ys yw yv yl := by
  have vn : vp_in (nI n) 16 := vp_in_nI hn (by omega)
  have cn : (nI n).toNatClampNeg = n := nI_clamp (by omega)
  intro d
  induction d with
  | zero =>
    intro i ys yv hi hU hG
    have ei : i = c := by omega
    subst ei
    exact br_t (nI_le (by omega) (by omega)) ⟨vn, nm_r (congrArg (fun j => upd yl j (nI i)) cn) (h ys yv hU hG)⟩
  | succ d ih =>
    intro i ys yv hi hU hG
    have er : yv (nI (s * 128) + nI i).toNatClampNeg = l.getD i 0 := by
      rw [sf_ad (by omega)]; exact sf_rd hU hg hs hl (by omega)
    have er2 : yv (nI t * 128 + nI i).toNatClampNeg = m.getD i 0 := by
      rw [sf_128, sf_ad (by omega)]; exact sf_rd hU hg2 ht hm (by omega)
    refine br_f (nI_ge (by omega) (by omega)) ⟨vn, sf_ai (by omega), by rw [sf_128]; exact sf_ai (by omega), sf_y_ev hE he hd (by rw [cn]; exact hx) er er2 (fun ys' => ⟨sf_ai (by omega), nm_r (congrArg (fun j => upd yv j _) (sf_ad (by omega))) (nm_r (nI_1 i) (nm_r (nI_1 i) ?_))⟩)⟩
    exact ih (i + 1) ys' _ (by omega) (sf_Uapp hU) (sf_Gtb hG)
theorem sf_y_cp496 {post : SY → Prop} {s n fr c : Nat} {l : List Int32} {yv0 : Nat → Int32} (hn : n < 16) (hs : s < n) (hl : l.length ≤ 128) (hg : sf_G yv0 (s * 128) l) (hc1 : fr + c ≤ l.length)
    (h : ∀ yv', sf_U yv0 yv' (n * 128) → sf_G yv' (n * 128) (sf_tb (fun i => l.getD (fr + i) 0) c) → post (nI NC, nI EC, nI OC, nI nc, nI ec, nI tc, wc, wm, ac, en, ro, mo, tt, kd, sa, sb, ex1, ex2, pm1, pm2, us, es, el, ed, se, to, ta, ys, yw, yv', upd yl n (nI c))) :
    ∀ (d i : Nat) (yv : Nat → Int32), i + d = c → sf_U yv0 yv (n * 128) → sf_G yv (n * 128) (sf_tb (fun i => l.getD (fr + i) 0) i) → wY_computeNode_496 post (nI n) (nI (n * 128)) (nI (s * 128)) (nI (fr + c)) (nI NC) (nI EC) (nI OC) (nI nc) (nI ec) (nI tc) wc wm ac en ro mo tt (d + 1) (nI i) (nI (fr + i)) kd sa sb ex1 ex2 pm1 pm2 us es el ed se to ta ys yw yv yl := by
  have vn : vp_in (nI n) 16 := vp_in_nI hn (by omega)
  have cn : (nI n).toNatClampNeg = n := nI_clamp (by omega)
  intro d
  induction d with
  | zero =>
    intro i yv hi hU hG
    have ei : i = c := by omega
    subst ei
    exact br_t (nI_le (by omega) (by omega)) ⟨vn, nm_r (congrArg (fun j => upd yl j (nI i)) cn) (h yv hU hG)⟩
  | succ d ih =>
    intro i yv hi hU hG
    have er : yv (nI (s * 128) + nI (fr + i)).toNatClampNeg = l.getD (fr + i) 0 := by
      rw [sf_ad (by omega)]; exact sf_rd hU hg hs hl (by omega)
    refine br_f (nI_ge (by omega) (by omega)) ⟨sf_ai (by omega), sf_ai (by omega), nm_r (e' := upd yv (n * 128 + i) (l.getD (fr + i) 0)) (by rw [er, sf_ad (by omega)]) (nm_r (nI_1 i) (nm_r (nI_1 (fr + i)) ?_))⟩
    exact ih (i + 1) _ (by omega) (sf_Uapp hU) (sf_Gtb hG)
theorem sf_y_cp568 {post : SY → Prop} {s n fr c : Nat} {l : List Int32} {yv0 : Nat → Int32} (hn : n < 16) (hs : s < n) (hl : l.length ≤ 128) (hg : sf_G yv0 (s * 128) l) (hc1 : fr + c ≤ l.length)
    (h : ∀ yv', sf_U yv0 yv' (n * 128) → sf_G yv' (n * 128) (sf_tb (fun i => l.getD (fr + i) 0) c) → post (nI NC, nI EC, nI OC, nI nc, nI ec, nI tc, wc, wm, ac, en, ro, mo, tt, kd, sa, sb, ex1, ex2, pm1, pm2, us, es, el, ed, se, to, ta, ys, yw, yv', upd yl n (nI c))) :
    ∀ (d i : Nat) (yv : Nat → Int32), i + d = c → sf_U yv0 yv (n * 128) → sf_G yv (n * 128) (sf_tb (fun i => l.getD (fr + i) 0) i) → wY_computeNode_568 post (nI n) (nI (n * 128)) (nI (s * 128)) (nI (fr + c)) (nI NC) (nI EC) (nI OC) (nI nc) (nI ec) (nI tc) wc wm ac en ro mo tt (d + 1) (nI i) (nI (fr + i)) kd sa sb ex1 ex2 pm1 pm2 us es el ed se to ta ys yw yv yl := by
  have vn : vp_in (nI n) 16 := vp_in_nI hn (by omega)
  have cn : (nI n).toNatClampNeg = n := nI_clamp (by omega)
  intro d
  induction d with
  | zero =>
    intro i yv hi hU hG
    have ei : i = c := by omega
    subst ei
    exact br_t (nI_le (by omega) (by omega)) ⟨vn, nm_r (congrArg (fun j => upd yl j (nI i)) cn) (h yv hU hG)⟩
  | succ d ih =>
    intro i yv hi hU hG
    have er : yv (nI (s * 128) + nI (fr + i)).toNatClampNeg = l.getD (fr + i) 0 := by
      rw [sf_ad (by omega)]; exact sf_rd hU hg hs hl (by omega)
    refine br_f (nI_ge (by omega) (by omega)) ⟨sf_ai (by omega), sf_ai (by omega), nm_r (e' := upd yv (n * 128 + i) (l.getD (fr + i) 0)) (by rw [er, sf_ad (by omega)]) (nm_r (nI_1 i) (nm_r (nI_1 (fr + i)) ?_))⟩
    exact ih (i + 1) _ (by omega) (sf_Uapp hU) (sf_Gtb hG)
theorem sf_y_innerloop {post : SY → Prop} {J : Int32 → Int32 → Int32 → Int32 → Int32 → Int32 → Int32 → Int32 → Int32 → Int32 → Int32 → Int32 → Int32 → Int32 → Int32 → (Nat → Int32) → (Nat → Int32) → (Nat → Int32) → (Nat → Int32) → (Nat → Int32) → (Nat → Int32) → (Nat → Int32) → (Nat → Int32) → (Nat → Int32) → (Nat → Int32) → (Nat → Int32) → (Nat → Int32) → (Nat → Int32) → (Nat → Int32) → (Nat → Int32) → (Nat → Int32) → (Nat → Int32) → (Nat → Int32) → Prop} {n e c i0 : Nat} {x x6 x7 : Int32} {l0 : List Int32} {yv0 : Nat → Int32} (hn : n < 16) (hE : sf_E ec tc es el ed se to) (he : e < ec) (hd : ed e = 1) (hx : ex2 n = nI e) (hl : l0.length + c ≤ 128)
    (hJ : ∀ ys' yv', sf_U yv0 yv' (n * 128) → sf_G yv' (n * 128) (l0 ++ sf_tb (fun j => sf_V es el to ta e x (nI j)) c) → J (nI (l0.length + c)) (nI (i0 + 1)) (nI NC) (nI EC) (nI OC) (nI nc) (nI ec) (nI tc) wc wm ac en ro mo tt kd sa sb ex1 ex2 pm1 pm2 us es el ed se to ta ys' yw yv' yl) :
    ∀ (d i : Nat) (ys yv : Nat → Int32), i + d = c → sf_U yv0 yv (n * 128) → sf_G yv (n * 128) (l0 ++ sf_tb (fun j => sf_V es el to ta e x (nI j)) i) → wY_computeNode_671 post J (nI n) (nI (n * 128)) x6 x7 (nI i0) x (nI c) (d + 1) (nI (l0.length + i)) (nI i) (nI NC) (nI EC) (nI OC) (nI nc) (nI ec) (nI tc) wc wm ac en ro mo tt kd sa sb ex1 ex2 pm1 pm2 us es el ed se to ta ys yw yv yl := by
  have vn : vp_in (nI n) 16 := vp_in_nI hn (by omega)
  have cn : (nI n).toNatClampNeg = n := nI_clamp (by omega)
  intro d
  induction d with
  | zero =>
    intro i ys yv hi hU hG
    have ei : i = c := by omega
    subst ei
    exact br_t (nI_le (by omega) (by omega)) (nm_r (nI_1 i0) (hJ ys yv hU hG))
  | succ d ih =>
    intro i ys yv hi hU hG
    refine br_f (nI_ge (by omega) (by omega)) (br_f (nI_ge (b := 128) (by omega) (by decide)) ⟨vn, sf_y_ev hE he hd (by rw [cn]; exact hx) rfl rfl (fun ys' => ⟨sf_ai (by omega), nm_r (congrArg (fun j => upd yv j _) (sf_ad (by omega))) (nm_r (nI_1 _) (nm_r (nI_1 i) ?_))⟩)⟩)
    exact ih (i + 1) ys' _ (by omega) (sf_Uapp hU) (sf_Gtb2 hG)
theorem sf_y_cl {post : SY → Prop} {J : Int32 → Int32 → Int32 → Int32 → Int32 → Int32 → Int32 → Int32 → Int32 → Int32 → Int32 → Int32 → Int32 → Int32 → Int32 → (Nat → Int32) → (Nat → Int32) → (Nat → Int32) → (Nat → Int32) → (Nat → Int32) → (Nat → Int32) → (Nat → Int32) → (Nat → Int32) → (Nat → Int32) → (Nat → Int32) → (Nat → Int32) → (Nat → Int32) → (Nat → Int32) → (Nat → Int32) → (Nat → Int32) → (Nat → Int32) → (Nat → Int32) → (Nat → Int32) → Prop} {x1 x2 x3 x6 x7 x8 x9 w : Int32} (h : ∃ n, wY_computeNode_671 post J x1 x2 x6 x7 x8 x9 (nI (sf_cl w)) n x3 0 (nI NC) (nI EC) (nI OC) (nI nc) (nI ec) (nI tc) wc wm ac en ro mo tt kd sa sb ex1 ex2 pm1 pm2 us es el ed se to ta ys yw yv yl) : (0 ≤ w → wY_computeNode_657 post J x1 x2 x3 x6 x7 x8 x9 w (nI NC) (nI EC) (nI OC) (nI nc) (nI ec) (nI tc) wc wm ac en ro mo tt kd sa sb ex1 ex2 pm1 pm2 us es el ed se to ta ys yw yv yl) ∧ (¬ 0 ≤ w → wY_computeNode_657 post J x1 x2 x3 x6 x7 x8 x9 0 (nI NC) (nI EC) (nI OC) (nI nc) (nI ec) (nI tc) wc wm ac en ro mo tt kd sa sb ex1 ex2 pm1 pm2 us es el ed se to ta ys yw yv yl) := by
  unfold sf_cl at h
  by_cases g : w < 0
  · rw [if_pos g] at h
    exact br_f (Int32.not_le.mpr g) (br_t (by decide) h)
  · rw [if_neg g] at h
    by_cases g2 : 8 < w
    · rw [if_pos g2] at h
      exact br_t (Int32.not_lt.mp g) (br_f (Int32.not_le.mpr g2) h)
    · rw [if_neg g2] at h
      obtain ⟨j, hj, rfl⟩ := nI_of g
      rw [nI_clamp hj] at h
      exact br_t (Int32.not_lt.mp g) (br_t (Int32.not_lt.mp g2) h)
theorem sf_y_cmloop {post : SY → Prop} {s e f n : Nat} {l : List Int32} {yv0 : Nat → Int32} (hn : n < 16) (hs : s < n) (hE : sf_E ec tc es el ed se to) (he : e < ec) (hd : ed e = 1) (hx : ex1 n = nI e) (hf : f < ec) (hdf : ed f = 1) (hxf : ex2 n = nI f) (hl : l.length ≤ 16) (hg : sf_G yv0 (s * 128) l)
    (h : ∀ ys' yv', sf_U yv0 yv' (n * 128) → sf_G yv' (n * 128) (sf_cm (fun x => sf_V es el to ta e x 0) (sf_V es el to ta f) l l.length) → post (nI NC, nI EC, nI OC, nI nc, nI ec, nI tc, wc, wm, ac, en, ro, mo, tt, kd, sa, sb, ex1, ex2, pm1, pm2, us, es, el, ed, se, to, ta, ys', yw, yv', upd yl n (nI (sf_cm (fun x => sf_V es el to ta e x 0) (sf_V es el to ta f) l l.length).length))) :
    ∀ (d i : Nat) (ys yv : Nat → Int32), i + d = l.length → sf_U yv0 yv (n * 128) → sf_G yv (n * 128) (sf_cm (fun x => sf_V es el to ta e x 0) (sf_V es el to ta f) l i) → wY_computeNode_615 post (nI n) (nI (n * 128)) (nI (s * 128)) (nI l.length) (d + 1) (nI (sf_cm (fun x => sf_V es el to ta e x 0) (sf_V es el to ta f) l i).length) (nI i) (nI NC) (nI EC) (nI OC) (nI nc) (nI ec) (nI tc) wc wm ac en ro mo tt kd sa sb ex1 ex2 pm1 pm2 us es el ed se to ta ys yw yv yl := by
  have vn : vp_in (nI n) 16 := vp_in_nI hn (by omega)
  have cn : (nI n).toNatClampNeg = n := nI_clamp (by omega)
  intro d
  induction d with
  | zero =>
    intro i ys yv hi hU hG
    have ei : i = l.length := by omega
    subst ei
    exact br_t (nI_le (by omega) (by omega)) ⟨vn, nm_r (congrArg (fun j => upd yl j _) cn) (h ys yv hU hG)⟩
  | succ d ih =>
    intro i ys yv hi hU hG
    have hle := sf_cm_len (fun x => sf_V es el to ta e x 0) (sf_V es el to ta f) l i
    have h8 := sf_cl8 (sf_V es el to ta e (l.getD i 0) 0)
    have elen : (sf_cm (fun x => sf_V es el to ta e x 0) (sf_V es el to ta f) l (i + 1)).length = (sf_cm (fun x => sf_V es el to ta e x 0) (sf_V es el to ta f) l i).length + sf_cl (sf_V es el to ta e (l.getD i 0) 0) := by
      show (sf_cm (fun x => sf_V es el to ta e x 0) (sf_V es el to ta f) l i ++ sf_tb (fun j => sf_V es el to ta f (l.getD i 0) (nI j)) (sf_cl (sf_V es el to ta e (l.getD i 0) 0))).length = _
      rw [List.length_append, sf_tb_len]
    have er : yv (nI (s * 128) + nI i).toNatClampNeg = l.getD i 0 := by
      rw [sf_ad (by omega)]; exact sf_rd hU hg hs (by omega) (by omega)
    refine br_f (nI_ge (by omega) (by omega)) ⟨sf_ai (by omega), nm_r er ⟨vn, sf_y_ev hE he hd (by rw [cn]; exact hx) rfl rfl (fun ys' => ?_)⟩⟩
    refine sf_y_cl ⟨sf_cl (sf_V es el to ta e (l.getD i 0) 0) + 1, ?_⟩
    refine sf_y_innerloop (l0 := sf_cm (fun x => sf_V es el to ta e x 0) (sf_V es el to ta f) l i) hn hE hf hdf hxf (by omega) (fun ys'' yv'' hU' hG' => ?_) (sf_cl (sf_V es el to ta e (l.getD i 0) 0)) 0 ys' yv (by omega) hU (by rw [show sf_tb (fun j => sf_V es el to ta f (l.getD i 0) (nI j)) 0 = [] from rfl, List.append_nil]; exact hG)
    have := ih (i + 1) ys'' yv'' (by omega) hU' hG'
    rw [elen] at this
    exact this
end
end
section
section
variable {NC EC OC tc ec nc : Nat} {xr xm xt xe wc wm ac en ro mo tt : Int32} {to ta es el ed se sx kd sa sb ex1 ex2 pm1 pm2 us hc ts nl it ys yw yv yl : Nat → Int32}
theorem sf_y_50 {post : SY → Prop} {n s c : Nat} {x2 x3 k : Int32} (hk : ¬ k = 1) (hs : s < 16) (hl : yl s = nI c) (h : wY_computeNode_85 post (nI n) x2 x3 k (nI (s * 128)) (nI c) (nI NC) (nI EC) (nI OC) (nI nc) (nI ec) (nI tc) wc wm ac en ro mo tt kd sa sb ex1 ex2 pm1 pm2 us es el ed se to ta ys yw yv yl) : wY_computeNode_50 post (nI n) x2 x3 k (nI s) (nI NC) (nI EC) (nI OC) (nI nc) (nI ec) (nI tc) wc wm ac en ro mo tt kd sa sb ex1 ex2 pm1 pm2 us es el ed se to ta ys yw yv yl := by
  refine br_f hk (br_f hk ⟨vp_in_nI hs (by omega), ?_⟩)
  rw [sf_128, nI_clamp (by omega), hl]
  exact h
theorem sf_y_cn {post : SY → Prop} {n : Nat} {LS : Nat → List Int32} {SZ : Nat → Nat} (hE : sf_E ec tc es el ed se to) (hN : sf_N (sf_V es el to ta) (sf_W ec ed se) nc kd sa sb ex1 ex2 pm1 pm2 us hc ts nl it LS SZ) (hn : n < nc) (hH : sf_H yv yl LS n)
    (h : ∀ ys' yv' yl', sf_H yv' yl' LS (n + 1) → post (nI NC, nI EC, nI OC, nI nc, nI ec, nI tc, wc, wm, ac, en, ro, mo, tt, kd, sa, sb, ex1, ex2, pm1, pm2, us, es, el, ed, se, to, ta, ys', yw, yv', yl')) : wpY_computeNode post (nI NC, nI EC, nI OC, nI nc, nI ec, nI tc, wc, wm, ac, en, ro, mo, tt, kd, sa, sb, ex1, ex2, pm1, pm2, us, es, el, ed, se, to, ta, ys, yw, yv, yl) (nI n) := by
  have h16 := hN.1
  have n16 : n < 16 := by omega
  have vn : vp_in (nI n) 16 := vp_in_nI n16 (by omega)
  have cn : (nI n).toNatClampNeg = n := nI_clamp (by omega)
  have hlen : ∀ s, s < nc → (LS s).length ≤ 128 := fun s hs => (hN.2.1 s hs).2.2.1
  have h' : ∀ ys' yv', sf_U yv yv' (n * 128) → sf_G yv' (n * 128) (LS n) → post (nI NC, nI EC, nI OC, nI nc, nI ec, nI tc, wc, wm, ac, en, ro, mo, tt, kd, sa, sb, ex1, ex2, pm1, pm2, us, es, el, ed, se, to, ta, ys', yw, yv', upd yl n (nI (LS n).length)) := fun ys' yv' hU hG => h ys' yv' _ (sf_H_s (fun s hs => hlen s (by omega)) hH hU hG)
  rcases (hN.2.1 n hn).1 with ⟨k1, a1, -, -, -, m, hm, p2e, hL⟩ | ⟨s, e, hs, h1, h2, -, -, we, h5, ⟨k1, hL⟩ | ⟨k1, hL⟩ | ⟨k1, hL⟩⟩ | ⟨s, m, hs, h1, h2, -, -, hm, h5, ⟨k1, hL⟩ | ⟨k1, hL⟩⟩ | ⟨s, e, f, hs, h1, h2, -, h4, hs0, we, h6, wf, h7, k1, hL⟩ | ⟨s, t, e, hs, ht, h1, h2, -, -, we, h5, k1, hL⟩
  · rw [hL, sf_tb_len] at h'
    refine nm_r (sf_128 n) ⟨vn, nm_r ((congrArg kd cn).trans k1) ⟨vn, nm_r ((congrArg sa cn).trans a1) ?_⟩⟩
    refine br_t rfl (br_t rfl (br_t rfl (br_t rfl ⟨m + 1, ?_⟩)))
    exact sf_y_rangeloop n16 hm p2e (fun yv' hU hG => h' ys yv' hU hG) m 0 yv (by omega) sf_U0 sf_G0
  · rw [hL, sf_tb_len] at h'
    refine nm_r (sf_128 n) ⟨vn, nm_r ((congrArg kd cn).trans k1) ⟨vn, nm_r ((congrArg sa cn).trans h1) ?_⟩⟩
    refine br_f (by decide) (br_f (nI_pos (by omega)) (br_t (nI_lt (b := 16) (by omega) (by decide)) (sf_y_50 (by decide) (by omega) (hH s hs).1 ?_)))
    refine br_f (by decide) (br_t rfl ⟨(LS s).length + 1, ?_⟩)
    exact sf_y_maploop n16 hs hE we.1 we.2.2 h5 (hlen s (by omega)) (hH s hs).2 h' (LS s).length 0 ys yv (by omega) sf_U0 sf_G0
  · rw [hL] at h'
    refine nm_r (sf_128 n) ⟨vn, nm_r ((congrArg kd cn).trans k1) ⟨vn, nm_r ((congrArg sa cn).trans h1) ?_⟩⟩
    refine br_f (by decide) (br_f (nI_pos (by omega)) (br_t (nI_lt (b := 16) (by omega) (by decide)) (sf_y_50 (by decide) (by omega) (hH s hs).1 ?_)))
    refine br_f (by decide) (br_f (by decide) (br_t rfl ⟨(LS s).length + 1, ?_⟩))
    exact sf_y_filterloop n16 hs hE we.1 we.2.2 h5 (hlen s (by omega)) (hH s hs).2 h' (LS s).length 0 ys yv (by omega) sf_U0 sf_G0
  · rw [hL, sf_tb_len] at h'
    refine nm_r (sf_128 n) ⟨vn, nm_r ((congrArg kd cn).trans k1) ⟨vn, nm_r ((congrArg sa cn).trans h1) ?_⟩⟩
    refine br_f (by decide) (br_f (nI_pos (by omega)) (br_t (nI_lt (b := 16) (by omega) (by decide)) (sf_y_50 (by decide) (by omega) (hH s hs).1 ?_)))
    refine br_f (by decide) (br_f (by decide) (br_f (by decide) (br_t rfl ⟨vn, nm_r (congrArg pm1 cn) ⟨(LS s).length + 1, ?_⟩⟩)))
    exact sf_y_scanloop n16 hs hE we.1 we.2.2 h5 (hlen s (by omega)) (hH s hs).2 h' (LS s).length 0 ys yv (by omega) sf_U0 sf_G0
  · rw [hL, sf_tb_len] at h'
    have l1 := hlen s (by omega)
    have mn := sf_mn_l m (LS s).length
    refine nm_r (sf_128 n) ⟨vn, nm_r ((congrArg kd cn).trans k1) ⟨vn, nm_r ((congrArg sa cn).trans h1) ?_⟩⟩
    refine br_f (by decide) (br_f (nI_pos (by omega)) (br_t (nI_lt (b := 16) (by omega) (by decide)) (sf_y_50 (by decide) (by omega) (hH s hs).1 ?_)))
    refine br_f (by decide) (br_f (by decide) (br_f (by decide) (br_f (by decide) (br_f (by decide) (br_t rfl ⟨vn, ?_⟩)))))
    have ep : pm1 (nI n).toNatClampNeg = nI m := by rw [cn]; exact h5
    have lp := sf_y_cp496 (fr := 0) (c := sf_mn m (LS s).length) n16 hs l1 (hH s hs).2 (by omega) (fun yv' hU hG => h' ys yv' hU hG) (sf_mn m (LS s).length) 0 yv (by omega) sf_U0 sf_G0
    rw [Nat.zero_add] at lp
    by_cases z : m < (LS s).length
    · rw [show sf_mn m (LS s).length = m from if_pos z] at lp
      exact br_f (by rw [ep]; exact nI_ge z (by omega)) ⟨vn, nm_r ep ⟨_, lp⟩⟩
    · rw [show sf_mn m (LS s).length = (LS s).length from if_neg z] at lp
      exact br_t (by rw [ep]; exact nI_le (by omega) hm) ⟨_, lp⟩
  · rw [hL, sf_tb_len] at h'
    have l1 := hlen s (by omega)
    have mn := sf_mn_l m (LS s).length
    refine nm_r (sf_128 n) ⟨vn, nm_r ((congrArg kd cn).trans k1) ⟨vn, nm_r ((congrArg sa cn).trans h1) ?_⟩⟩
    refine br_f (by decide) (br_f (nI_pos (by omega)) (br_t (nI_lt (b := 16) (by omega) (by decide)) (sf_y_50 (by decide) (by omega) (hH s hs).1 ?_)))
    refine br_f (by decide) (br_f (by decide) (br_f (by decide) (br_f (by decide) (br_f (by decide) (br_f (by decide) (br_t rfl ⟨vn, ?_⟩))))))
    have ep : pm1 (nI n).toNatClampNeg = nI m := by rw [cn]; exact h5
    have lp := sf_y_cp568 (fr := sf_mn m (LS s).length) (c := (LS s).length - sf_mn m (LS s).length) n16 hs l1 (hH s hs).2 (by omega) (fun yv' hU hG => h' ys yv' hU hG) ((LS s).length - sf_mn m (LS s).length) 0 yv (by omega) sf_U0 sf_G0
    rw [Nat.add_zero, show sf_mn m (LS s).length + ((LS s).length - sf_mn m (LS s).length) = (LS s).length by omega] at lp
    by_cases z : m < (LS s).length
    · rw [show sf_mn m (LS s).length = m from if_pos z] at lp
      exact br_f (by rw [ep]; exact nI_ge z (by omega)) ⟨vn, nm_r ep ⟨_, lp⟩⟩
    · rw [show sf_mn m (LS s).length = (LS s).length from if_neg z] at lp
      exact br_t (by rw [ep]; exact nI_le (by omega) hm) ⟨_, lp⟩
  · rw [hL] at h'
    have l16 := (hN.2.1 s (by omega)).2.2.2.1 hs0
    refine nm_r (sf_128 n) ⟨vn, nm_r ((congrArg kd cn).trans k1) ⟨vn, nm_r ((congrArg sa cn).trans h1) ?_⟩⟩
    refine br_f (by decide) (br_f (nI_pos (by omega)) (br_t (nI_lt (b := 16) (by omega) (by decide)) (sf_y_50 (by decide) (by omega) (hH s hs).1 ?_)))
    refine br_f (by decide) (br_f (by decide) (br_f (by decide) (br_f (by decide) (br_f (by decide) (br_f (by decide) (br_f (by decide) (br_t rfl ⟨(LS s).length + 1, ?_⟩)))))))
    exact sf_y_cmloop n16 hs hE we.1 we.2.2 h6 wf.1 wf.2.2 h7 l16 (hH s hs).2 h' (LS s).length 0 ys yv (by omega) sf_U0 sf_G0
  · rw [hL, sf_tb_len] at h'
    have l1 := hlen s (by omega)
    have l2 := hlen t (by omega)
    have mn := sf_mn_l (LS s).length (LS t).length
    refine nm_r (sf_128 n) ⟨vn, nm_r ((congrArg kd cn).trans k1) ⟨vn, nm_r ((congrArg sa cn).trans h1) ?_⟩⟩
    refine br_f (by decide) (br_f (nI_pos (by omega)) (br_t (nI_lt (b := 16) (by omega) (by decide)) (sf_y_50 (by decide) (by omega) (hH s hs).1 ?_)))
    have lp := sf_y_ziploop (c := sf_mn (LS s).length (LS t).length) n16 hs ht hE we.1 we.2.2 h5 l1 l2 (hH s hs).2 (hH t ht).2 mn.1 mn.2 h' (sf_mn (LS s).length (LS t).length) 0 ys yv (by omega) sf_U0 sf_G0
    have vt : vp_in (nI t) 16 := vp_in_nI (by omega) (by omega)
    have et : yl (nI t).toNatClampNeg = nI (LS t).length := by rw [nI_clamp (by omega)]; exact (hH t ht).1
    refine br_f (by decide) (br_f (by decide) (br_f (by decide) (br_f (by decide) (br_t rfl ⟨vn, nm_r ((congrArg sb cn).trans h2) (br_f (nI_pos (by omega)) (br_t (nI_lt (b := 16) (by omega) (by decide)) ⟨vt, ?_⟩))⟩))))
    by_cases z : (LS s).length < (LS t).length
    · rw [show sf_mn (LS s).length (LS t).length = (LS s).length from if_pos z] at lp
      exact br_f (by rw [et]; exact nI_ge z (by omega)) ⟨_, lp⟩
    · rw [show sf_mn (LS s).length (LS t).length = (LS t).length from if_neg z] at lp
      exact br_t (by rw [et]; exact nI_le (by omega) (by omega)) ⟨vt, nm_r et ⟨_, lp⟩⟩
theorem sf_y_up {post : SY → Prop} {r : Nat} {LS : Nat → List Int32} {SZ : Nat → Nat} (hE : sf_E ec tc es el ed se to) (hN : sf_N (sf_V es el to ta) (sf_W ec ed se) nc kd sa sb ex1 ex2 pm1 pm2 us hc ts nl it LS SZ) (hr : r < nc)
    (h : ∀ ys' yv' yl', sf_H yv' yl' LS (r + 1) → post (nI NC, nI EC, nI OC, nI nc, nI ec, nI tc, wc, wm, ac, en, ro, mo, tt, kd, sa, sb, ex1, ex2, pm1, pm2, us, es, el, ed, se, to, ta, ys', yw, yv', yl')) : wpY_computeUpTo post (nI NC, nI EC, nI OC, nI nc, nI ec, nI tc, wc, wm, ac, en, ro, mo, tt, kd, sa, sb, ex1, ex2, pm1, pm2, us, es, el, ed, se, to, ta, ys, yw, yv, yl) (nI r) := by
  have h16 := hN.1
  have loop : ∀ (d i : Nat) (ys yv yl : Nat → Int32), i + d = r + 1 → sf_H yv yl LS i → wY_computeUpTo_2 post (nI r) (d + 1) (nI i) (nI NC) (nI EC) (nI OC) (nI nc) (nI ec) (nI tc) wc wm ac en ro mo tt kd sa sb ex1 ex2 pm1 pm2 us es el ed se to ta ys yw yv yl := by
    intro d
    induction d with
    | zero =>
      intro i ys yv yl hi hH
      have ei : i = r + 1 := by omega
      subst ei
      exact br_t (nI_lt (by omega) (by omega)) (h ys yv yl hH)
    | succ d ih =>
      intro i ys yv yl hi hH
      refine br_f (nI_nlt (by omega) (by omega)) (br_f (nI_ge (show i < nc by omega) (by omega)) (sf_y_cn hE hN (by omega) hH (fun ys' yv' yl' hH' => nm_r (nI_1 i) ?_)))
      exact ih (i + 1) ys' yv' yl' (by omega) hH'
  exact ⟨r + 1 + 1, loop (r + 1) 0 ys yv yl (by omega) sf_H0⟩
end
end
section
section
variable {NC EC OC tc ec nc : Nat} {xr xm xt xe wc wm ac en ro mo tt : Int32} {to ta es el ed se sx kd sa sb ex1 ex2 pm1 pm2 us hc ts nl it ys yw yv yl : Nat → Int32}
/-! numbers between two bounds -/
def sf_cD (p : Int32) (lo hi N : Nat) : Prop := (nI lo ≤ p ∧ p ≤ nI hi ∧ p = nI N) ∨ (nI lo ≤ p ∧ ¬ p ≤ nI hi ∧ N = hi) ∨ (¬ nI lo ≤ p ∧ N = lo)
theorem sf_cl3 (p : Int32) {lo hi : Nat} (h : lo ≤ hi) (hh : hi < 2 ^ 31) : ∃ N, lo ≤ N ∧ N ≤ hi ∧ sf_cD p lo hi N := by
  by_cases a : nI lo ≤ p
  · by_cases b : p ≤ nI hi
    · have h0 : ¬ p < 0 := Int32.not_lt.mpr (Int32.le_trans (nI_pos' (by omega)) a)
      obtain ⟨j, hj, rfl⟩ := nI_of h0
      rw [nI_leI (by omega) hj] at a
      rw [nI_leI hj hh] at b
      exact ⟨j, a, b, Or.inl ⟨nI_le a hj, nI_le b hh, rfl⟩⟩
    · exact ⟨hi, h, Nat.le_refl hi, Or.inr (Or.inl ⟨a, b, rfl⟩)⟩
  · exact ⟨lo, Nat.le_refl lo, h, Or.inr (Or.inr ⟨a, rfl⟩)⟩
theorem sf_x_cl {post : Int32 → Prop} {p : Int32} {lo hi N : Nat} (hd : sf_cD p lo hi N) (h : post (nI N)) : wpX_clamp post p (nI lo) (nI hi) := by
  rcases hd with ⟨a, b, rfl⟩ | ⟨a, b, rfl⟩ | ⟨a, rfl⟩
  · exact br_t a (br_t b h)
  · exact br_t a (br_f b h)
  · exact br_f a h
theorem sf_p_cl {P : Int32 → Prop} {p : Int32} {lo hi N : Nat} (hd : sf_cD p lo hi N) (h : P (nI N)) : ((nI lo ≤ p → (((p ≤ nI hi → (P p)) ∧ (¬ p ≤ nI hi → (P (nI hi)))))) ∧ (¬ nI lo ≤ p → (P (nI lo)))) := sf_x_cl hd h
theorem i_vc0 (k0 : Int32) (k1 : Int32) (k2 : Int32) : wpX_init (fun u => wpY_init (fun v => i_Rel 3 u v) k0 k1 k2) k0 k1 k2 := by
  obtain ⟨N0, a0, b0, d0⟩ := sf_cl3 k0 (lo := 4) (hi := 16) (by decide) (by decide)
  obtain ⟨N1, a1, b1, d1⟩ := sf_cl3 k1 (lo := 4) (hi := 16) (by decide) (by decide)
  obtain ⟨N2, a2, b2, d2⟩ := sf_cl3 k2 (lo := 8) (hi := 32) (by decide) (by decide)
  unfold wpX_init
  refine sf_x_cl (lo := 4) (hi := 16) d0 (sf_x_cl (lo := 4) (hi := 16) d1 (sf_x_cl (lo := 8) (hi := 32) d2 ?_))
  refine sf_p_cl (P := fun z => wY_init_173 (fun v => i_Rel 3 (nI N0, nI N1, nI N2, 0, 0, 0, (-1), (-1), 0, 0, (fun _ => 0), (fun _ => 0), (fun _ => 0), (fun _ => 0), (fun _ => 0), (fun _ => 0), (fun _ => 0), (fun _ => 0), (fun _ => 0), (fun _ => 0), (fun _ => 0), (fun _ => 0), (fun _ => 0), (fun _ => 0), (fun _ => 0), (fun _ => 0), (fun _ => 0), (fun _ => 0), (fun _ => 0)) v) k1 k2 z 0 0 0 0 0 0 0 0 0 0 0 0 0 (fun _ => 0) (fun _ => 0) (fun _ => 0) (fun _ => 0) (fun _ => 0) (fun _ => 0) (fun _ => 0) (fun _ => 0) (fun _ => 0) (fun _ => 0) (fun _ => 0) (fun _ => 0) (fun _ => 0) (fun _ => 0) (fun _ => 0) (fun _ => 0) (fun _ => 0) (fun _ => 0)) (lo := 4) (hi := 16) d0 ?_
  refine sf_p_cl (P := fun z => wY_init_198 _ k2 z (nI N0) 0 0 0 0 0 0 0 0 0 0 0 0 (fun _ => 0) (fun _ => 0) (fun _ => 0) (fun _ => 0) (fun _ => 0) (fun _ => 0) (fun _ => 0) (fun _ => 0) (fun _ => 0) (fun _ => 0) (fun _ => 0) (fun _ => 0) (fun _ => 0) (fun _ => 0) (fun _ => 0) (fun _ => 0) (fun _ => 0) (fun _ => 0)) (lo := 4) (hi := 16) d1 ?_
  refine sf_p_cl (P := fun z => wY_init_225 _ z (nI N0) (nI N1) 0 0 0 0 0 0 0 0 0 0 0 (fun _ => 0) (fun _ => 0) (fun _ => 0) (fun _ => 0) (fun _ => 0) (fun _ => 0) (fun _ => 0) (fun _ => 0) (fun _ => 0) (fun _ => 0) (fun _ => 0) (fun _ => 0) (fun _ => 0) (fun _ => 0) (fun _ => 0) (fun _ => 0) (fun _ => 0) (fun _ => 0)) (lo := 8) (hi := 32) d2 ?_
  exact sf_mk (k := 3) (nc := 0) (ec := 0) (tc := 0) ⟨a0, b0, b1, a2, b2, by omega, by omega, sf_E0, fun _ => [], fun _ => 0, sf_N0, Or.inl ⟨rfl, rfl, rfl, rfl, rfl⟩⟩
theorem i_vc_newExpr {k : Nat} {u : SX} {v : SY} (I : i_Rel k u v) (hk : k + 4 ≤ 2051) : wpX_newExpr (fun r u' => wpY_newExpr (fun r' v' => r' = r ∧ i_Rel (k + 4) u' v') v) u := by
  have I0 := I
  obtain ⟨NC, EC, OC, tc, ec, nc, xr, xm, xt, xe, to, ta, es, el, ed, se, sx, kd, sa, sb, ex1, ex2, pm1, pm2, us, hc, ts, nl, it, wc, wm, ac, en, ro, mo, tt, ys, yw, yv, yl, rfl, rfl, I⟩ := I
  obtain ⟨c1, c2, c3, c4, c5, c6, c7, hE, LS, SZ, hN, hR⟩ := I
  by_cases h : ec < EC
  · have ve : vp_in (nI ec) 16 := vp_in_nI (by omega) (by omega)
    have ce : (nI ec).toNatClampNeg = ec := nI_clamp (by omega)
    obtain ⟨z1, z2, z3⟩ := hE.2.2.2 ec (Nat.le_refl ec)
    have I' : sf_I NC EC OC nc (ec + 1) tc to ta (upd es ec (nI tc)) el ed se kd sa sb ex1 ex2 pm1 pm2 us hc ts nl it xr xm xt xe ac en ro mo tt :=
      ⟨c1, c2, c3, c4, c5, c6, by omega, sf_E_new hE (by omega), LS, SZ, sf_N_VW (fun e we => sf_V_new we.1) (fun e we => ⟨by have := we.1; omega, we.2⟩) hN, hR⟩
    exact br_t (nI_lt h (by omega)) ⟨ve, nm_r (congrArg (fun j => upd es j (nI tc)) ce) (nm_r (nI_1 ec) (br_t (nI_lt h (by omega)) ⟨ve, nm_r (congrArg (fun j => upd es j (nI tc)) ce) ⟨ve, nm_r (e' := el) (by rw [ce]; exact sf_updid z1) ⟨ve, nm_r (e' := ed) (by rw [ce]; exact sf_updid z2) ⟨ve, nm_r (e' := se) (by rw [ce, sf_vb0]; exact sf_updid z3) (nm_r (nI_1 ec) ⟨nI_pred ec, sf_mk I'⟩)⟩⟩⟩⟩))⟩
  · exact br_f (nI_nlt (by omega) (by omega)) (br_f (nI_nlt (by omega) (by omega)) ⟨rfl, i_up I0⟩)
/-! tok -/
theorem sf_x_tok {post : Int32 → SX → Prop} {k l d : Nat} {op arg : Int32} (hk : k < 16) (hl : l ≤ 16) (hd : d ≤ 8) (ht : tc ≤ 128) (el1 : el k = nI l) (ed1 : ed k = nI d) (h0 : (¬ ∃ o, o < 10 ∧ op = nI o ∧ se k = 0 ∧ l < 16 ∧ tc < 128 ∧ (o < 3 → d < 8) ∧ (3 ≤ o → 2 ≤ d)) → post (-1) (nI NC, nI EC, nI OC, nI tc, nI (k + 1), nI nc, xr, xm, xt, xe, to, ta, es, el, ed, se, sx, kd, sa, sb, ex1, ex2, pm1, pm2, us, hc, ts, nl, it))
    (h1 : ∀ o, o < 10 → op = nI o → se k = 0 → l < 16 → tc < 128 → (o < 3 → d < 8) → (3 ≤ o → 2 ≤ d) → post (nI (if o < 3 then d + 1 else d - 1)) (nI NC, nI EC, nI OC, nI (tc + 1), nI (k + 1), nI nc, xr, xm, xt, xe, upd to tc (nI o), upd ta tc arg, es, upd el k (nI (l + 1)), upd ed k (nI (if o < 3 then d + 1 else d - 1)), se, sx, kd, sa, sb, ex1, ex2, pm1, pm2, us, hc, ts, nl, it)) : wpX_tok post (nI NC, nI EC, nI OC, nI tc, nI (k + 1), nI nc, xr, xm, xt, xe, to, ta, es, el, ed, se, sx, kd, sa, sb, ex1, ex2, pm1, pm2, us, hc, ts, nl, it) op arg := by
  have vk : vp_in (nI k) 16 := vp_in_nI hk (by omega)
  have ck : (nI k).toNatClampNeg = k := nI_clamp (by omega)
  refine br_f (nI_ne0 (by omega) (by omega)) (nm_r (nI_pred k) ?_)
  have hA : ∀ P : Int32 → Prop, ((¬ ∃ o, o < 10 ∧ op = nI o ∧ se k = 0 ∧ l < 16 ∧ tc < 128 ∧ (o < 3 → d < 8) ∧ (3 ≤ o → 2 ≤ d)) → P 0) → (∀ o, o < 10 → op = nI o → se k = 0 → l < 16 → tc < 128 → (o < 3 → d < 8) → (3 ≤ o → 2 ≤ d) → P 1) → wpX_acceptsToken P (nI NC, nI EC, nI OC, nI tc, nI (k + 1), nI nc, xr, xm, xt, xe, to, ta, es, el, ed, se, sx, kd, sa, sb, ex1, ex2, pm1, pm2, us, hc, ts, nl, it) (nI k) op := by
    intro P p0 p1
    unfold wpX_acceptsToken
    dsimp only
    rw [ck, el1, ed1]
    refine ⟨vk, br_c (fun s0 => br_c (fun g => p0 ?_) (fun g => br_c (fun g9 => ⟨vk, br_c (fun gl => p0 ?_) (fun gl => br_c (fun gt => ?_) (fun gt => p0 ?_))⟩) (fun g9 => p0 ?_))) (fun s0 => p0 ?_)⟩
    · rintro ⟨o, ho, rfl, -⟩
      exact absurd g (nI_pos (by omega))
    · rintro ⟨o, ho, rfl, -, l1, -⟩
      exact absurd gl (nI_ge (b := 16) l1 (by decide))
    · obtain ⟨o, ho, rfl⟩ := nI_of2 (M := 9) (n := 9) (by decide) g g9
      have l1 : l < 16 := by
        by_cases z : l < 16
        · exact z
        · exact absurd (nI_le (a := 16) (b := l) (by omega) (by omega)) gl
      have t1 : tc < 128 := by
        by_cases z : tc < 128
        · exact z
        · exact absurd gt (nI_nlt (b := 128) (by omega) (by omega))
      refine sf_x_bin (by omega) (fun o3 => br_t rfl ⟨vk, ?_⟩) (fun o3 => br_f (by decide) ⟨vk, ?_⟩)
      · by_cases z : d < 8
        · exact br_f (nI_ge (b := 8) z (by decide)) (p1 o (by omega) rfl s0 l1 t1 (fun _ => z) (fun w => by omega))
        · refine br_t (nI_le (a := 8) (by omega) (by omega)) (p0 ?_)
          rintro ⟨o', ho', e, -, -, -, q, -⟩
          have := sf_im e (by omega) (by omega)
          exact z (q (by omega))
      · by_cases z : 2 ≤ d
        · exact br_f (nI_nlt (b := 2) z (by omega)) (p1 o (by omega) rfl s0 l1 t1 (fun w => by omega) (fun _ => z))
        · refine br_t (nI_lt (b := 2) (by omega) (by decide)) (p0 ?_)
          rintro ⟨o', ho', e, -, -, -, -, q⟩
          have := sf_im e (by omega) (by omega)
          exact z (q (by omega))
    · rintro ⟨o, ho, -, -, -, t1, -⟩
      exact absurd (nI_lt (b := 128) t1 (by decide)) gt
    · rintro ⟨o, ho, rfl, -⟩
      exact absurd (nI_le (b := 9) (by omega) (by decide)) g9
    · rintro ⟨o, ho, -, s1, -⟩
      exact s0 s1
  refine hA _ (fun n => br_t rfl (h0 n)) (fun o ho eo s0 l1 t1 g1 g2 => br_f (by decide) ?_)
  have h2 := h1 o ho eo s0 l1 t1 g1 g2
  subst eo
  have vt : vp_in (nI tc) 128 := vp_in_nI t1 (by omega)
  have ct : (nI tc).toNatClampNeg = tc := nI_clamp (by omega)
  refine ⟨vt, nm_r (congrArg (fun j => upd to j (nI o)) ct) ⟨vt, nm_r (congrArg (fun j => upd ta j arg) ct) (nm_r (nI_1 tc) ⟨vk, vk, nm_r (e' := upd el k (nI (l + 1))) (by rw [ck, el1, nI_1]) ⟨vk, ?_⟩⟩)⟩⟩
  refine sf_x_bin ho (fun o3 => br_t rfl ⟨vk, nm_r (e' := upd ed k (nI (d + 1))) (by rw [ck, ed1, nI_1]) ⟨vk, ?_⟩⟩) (fun o3 => br_f (by decide) ⟨vk, nm_r (e' := upd ed k (nI (d - 1))) (by rw [ck, ed1, sf_m1 (by have := g2 o3; omega)]) ⟨vk, ?_⟩⟩)
  · rw [if_pos o3] at h2
    rw [ck, pk_us]
    exact h2
  · rw [if_neg (by omega)] at h2
    rw [ck, pk_us]
    exact h2
end
end
section
section
variable {NC EC OC tc ec nc : Nat} {xr xm xt xe wc wm ac en ro mo tt : Int32} {to ta es el ed se sx kd sa sb ex1 ex2 pm1 pm2 us hc ts nl it ys yw yv yl : Nat → Int32}
theorem sf_y_t120p {post : Int32 → SY → Prop} {k l d : Nat} {op arg : Int32} (hk : k < 16) (t1 : tc < 128) (el1 : el k = nI l) (ed1 : ed k = nI d) (h : post (nI (d + 1)) (nI NC, nI EC, nI OC, nI nc, nI ec, nI (tc + 1), wc, wm, ac, en, ro, mo, tt, kd, sa, sb, ex1, ex2, pm1, pm2, us, es, upd el k (nI (l + 1)), upd ed k (nI (d + 1)), se, upd to tc op, upd ta tc arg, ys, yw, yv, yl)) : wY_tok_120 post op arg (nI k) 1 (nI NC) (nI EC) (nI OC) (nI nc) (nI ec) (nI tc) wc wm ac en ro mo tt kd sa sb ex1 ex2 pm1 pm2 us es el ed se to ta ys yw yv yl := by
  have vk : vp_in (nI k) 16 := vp_in_nI hk (by omega)
  have ck : (nI k).toNatClampNeg = k := nI_clamp (by omega)
  have vt : vp_in (nI tc) 128 := vp_in_nI t1 (by omega)
  have ct : (nI tc).toNatClampNeg = tc := nI_clamp (by omega)
  refine ⟨vt, nm_r (congrArg (fun j => upd to j op) ct) ⟨vt, nm_r (congrArg (fun j => upd ta j arg) ct) (nm_r (nI_1 tc) ⟨vk, vk, nm_r (e' := upd el k (nI (l + 1))) (by rw [ck, el1, nI_1]) (br_f (by decide) ⟨vk, vk, nm_r (e' := upd ed k (nI (d + 1))) (by rw [ck, ed1, nI_1]) ⟨vk, ?_⟩⟩)⟩)⟩⟩
  rw [ck, pk_us]
  exact h
theorem sf_y_t120b {post : Int32 → SY → Prop} {k l d : Nat} {op arg : Int32} (hk : k < 16) (t1 : tc < 128) (hd : 2 ≤ d) (el1 : el k = nI l) (ed1 : ed k = nI d) (h : post (nI (d - 1)) (nI NC, nI EC, nI OC, nI nc, nI ec, nI (tc + 1), wc, wm, ac, en, ro, mo, tt, kd, sa, sb, ex1, ex2, pm1, pm2, us, es, upd el k (nI (l + 1)), upd ed k (nI (d - 1)), se, upd to tc op, upd ta tc arg, ys, yw, yv, yl)) : wY_tok_120 post op arg (nI k) 0 (nI NC) (nI EC) (nI OC) (nI nc) (nI ec) (nI tc) wc wm ac en ro mo tt kd sa sb ex1 ex2 pm1 pm2 us es el ed se to ta ys yw yv yl := by
  have vk : vp_in (nI k) 16 := vp_in_nI hk (by omega)
  have ck : (nI k).toNatClampNeg = k := nI_clamp (by omega)
  have vt : vp_in (nI tc) 128 := vp_in_nI t1 (by omega)
  have ct : (nI tc).toNatClampNeg = tc := nI_clamp (by omega)
  refine ⟨vt, nm_r (congrArg (fun j => upd to j op) ct) ⟨vt, nm_r (congrArg (fun j => upd ta j arg) ct) (nm_r (nI_1 tc) ⟨vk, vk, nm_r (e' := upd el k (nI (l + 1))) (by rw [ck, el1, nI_1]) (br_t rfl ⟨vk, vk, nm_r (e' := upd ed k (nI (d - 1))) (by rw [ck, ed1, sf_s1 (by omega)]) ⟨vk, ?_⟩⟩)⟩)⟩⟩
  rw [ck, pk_us]
  exact h
theorem sf_y_tok {post : Int32 → SY → Prop} {k l d : Nat} {op arg : Int32} (hk : k < 16) (hl : l ≤ 16) (hd : d ≤ 8) (ht : tc ≤ 128) (el1 : el k = nI l) (ed1 : ed k = nI d) (h0 : (¬ ∃ o, o < 10 ∧ op = nI o ∧ se k = 0 ∧ l < 16 ∧ tc < 128 ∧ (o < 3 → d < 8) ∧ (3 ≤ o → 2 ≤ d)) → post (-1) (nI NC, nI EC, nI OC, nI nc, nI (k + 1), nI tc, wc, wm, ac, en, ro, mo, tt, kd, sa, sb, ex1, ex2, pm1, pm2, us, es, el, ed, se, to, ta, ys, yw, yv, yl))
    (h1 : ∀ o, o < 10 → op = nI o → se k = 0 → l < 16 → tc < 128 → (o < 3 → d < 8) → (3 ≤ o → 2 ≤ d) → post (nI (if o < 3 then d + 1 else d - 1)) (nI NC, nI EC, nI OC, nI nc, nI (k + 1), nI (tc + 1), wc, wm, ac, en, ro, mo, tt, kd, sa, sb, ex1, ex2, pm1, pm2, us, es, upd el k (nI (l + 1)), upd ed k (nI (if o < 3 then d + 1 else d - 1)), se, upd to tc (nI o), upd ta tc arg, ys, yw, yv, yl)) : wpY_tok post (nI NC, nI EC, nI OC, nI nc, nI (k + 1), nI tc, wc, wm, ac, en, ro, mo, tt, kd, sa, sb, ex1, ex2, pm1, pm2, us, es, el, ed, se, to, ta, ys, yw, yv, yl) op arg := by
  have vk : vp_in (nI k) 16 := vp_in_nI hk (by omega)
  have ck : (nI k).toNatClampNeg = k := nI_clamp (by omega)
  refine br_f (nI_ne0 (by omega) (by omega)) (nm_r (nI_pred k) ?_)
  rw [ck, el1]
  refine ⟨vk, br_c (fun s0 => br_c (fun g => h0 ?_) (fun g => br_c (fun g9 => ⟨vk, br_c (fun gl => br_c (fun gt => ?_) (fun gt => h0 ?_)) (fun gl => h0 ?_)⟩) (fun g9 => h0 ?_))) (fun s0 => h0 ?_)⟩
  · rintro ⟨o, ho, rfl, -⟩
    exact absurd g (nI_pos (by omega))
  · obtain ⟨o, ho, rfl⟩ := nI_of2 (M := 9) (n := 9) (by decide) g g9
    have l1 : l < 16 := by
      by_cases z : l < 16
      · exact z
      · exact absurd gl (nI_nlt (b := 16) (by omega) (by omega))
    have t1 : tc < 128 := by
      by_cases z : tc < 128
      · exact z
      · exact absurd gt (nI_nlt (b := 128) (by omega) (by omega))
    by_cases o3 : o < 3
    · have hp : wY_tok_78 post (nI o) arg (nI k) (nI NC) (nI EC) (nI OC) (nI nc) (nI (k + 1)) (nI tc) wc wm ac en ro mo tt kd sa sb ex1 ex2 pm1 pm2 us es el ed se to ta ys yw yv yl := by
        refine br_f (by decide) (br_f (by decide) ⟨vk, ?_⟩)
        rw [ck, ed1]
        by_cases z : d < 8
        · have h2 := h1 o (by omega) rfl s0 l1 t1 (fun _ => z) (fun w => by omega)
          rw [if_pos o3] at h2
          refine br_f (fun w => ?_) (sf_y_t120p hk t1 el1 ed1 h2)
          have := sf_im (b := 8) w (by omega) (by decide)
          omega
        · refine br_t (by rw [show d = 8 by omega]; rfl) (h0 ?_)
          rintro ⟨o', ho', e, -, -, -, q, -⟩
          have := sf_im e (by omega) (by omega)
          exact z (q (by omega))
      have eo : o = 0 ∨ o = 1 ∨ o = 2 := by omega
      rcases eo with z | z | z
      · subst z
        exact br_t (by decide) hp
      · subst z
        exact br_f (by decide) (br_t (by decide) hp)
      · subst z
        exact br_f (by decide) (br_f (by decide) (br_t (by decide) hp))
    · have hp : wY_tok_83 post (nI o) arg (nI k) 0 (nI NC) (nI EC) (nI OC) (nI nc) (nI (k + 1)) (nI tc) wc wm ac en ro mo tt kd sa sb ex1 ex2 pm1 pm2 us es el ed se to ta ys yw yv yl := by
        refine br_t rfl ⟨vk, ?_⟩
        rw [ck, ed1]
        by_cases z : 2 ≤ d
        · have h2 := h1 o (by omega) rfl s0 l1 t1 (fun w => by omega) (fun _ => z)
          rw [if_neg o3] at h2
          exact br_t (nI_le (a := 2) z (by omega)) (br_t rfl (sf_y_t120b hk t1 z el1 ed1 h2))
        · refine br_f (nI_ge (b := 2) (by omega) (by decide)) (h0 ?_)
          rintro ⟨o', ho', e, -, -, -, -, q⟩
          have := sf_im e (by omega) (by omega)
          exact z (q (by omega))
      have n0 : ∀ j, j < 3 → ¬ nI o = nI j := fun j hj e => by
        have := sf_im e (by omega) (by omega)
        omega
      exact br_f (n0 0 (by omega)) (br_f (n0 1 (by omega)) (br_f (n0 2 (by omega)) hp))
  · rintro ⟨o, ho, -, -, -, t1, -⟩
    exact absurd (nI_lt (b := 128) t1 (by decide)) gt
  · rintro ⟨o, ho, -, -, l1, -⟩
    exact absurd (nI_lt (b := 16) l1 (by decide)) gl
  · rintro ⟨o, ho, rfl, -⟩
    exact absurd (nI_le (b := 9) (by omega) (by decide)) g9
  · rintro ⟨o, ho, -, s1, -⟩
    exact s0 s1
theorem i_vc_tok {k : Nat} {u : SX} {v : SY} (I : i_Rel k u v) (hk : k + 4 ≤ 2051) (v1 : Int32) (v2 : Int32) : wpX_tok (fun r u' => wpY_tok (fun r' v' => r' = r ∧ i_Rel (k + 4) u' v') v v1 v2) u v1 v2 := by
  have I0 := I
  obtain ⟨NC, EC, OC, tc, ec, nc, xr, xm, xt, xe, to, ta, es, el, ed, se, sx, kd, sa, sb, ex1, ex2, pm1, pm2, us, hc, ts, nl, it, wc, wm, ac, en, ro, mo, tt, ys, yw, yv, yl, rfl, rfl, I⟩ := I
  obtain ⟨c1, c2, c3, c4, c5, c6, c7, hE, LS, SZ, hN, hR⟩ := I
  cases ec with
  | zero => exact br_t rfl (br_t rfl ⟨rfl, i_up I0⟩)
  | succ j =>
    obtain ⟨g1, g2, g3, g4⟩ := id hE
    obtain ⟨f, l, q1, q2, q3, q4, q5, q6, q7, q8⟩ := g3 j (by omega)
    have d8 := sf_dp8 q6 l (Nat.le_refl l)
    refine sf_x_tok (by omega) q3 d8 g2 q2 q7 (fun hn => ?_) (fun o ho eo s0 l1 t1 w1 w2 => ?_)
    · refine sf_y_tok (by omega) q3 d8 g2 q2 q7 (fun _ => ⟨rfl, i_up I0⟩) (fun o ho eo s0 l1 t1 w1 w2 => ?_)
      exact absurd ⟨o, ho, eo, s0, l1, t1, w1, w2⟩ hn
    · refine sf_y_tok (by omega) q3 d8 g2 q2 q7 (fun hn => absurd ⟨o, ho, eo, s0, l1, t1, w1, w2⟩ hn) (fun o' ho' eo' _ _ _ _ _ => ?_)
      have e := sf_im (eo'.symm.trans eo) (by omega) (by omega)
      subst e
      have hE' := sf_E_tok (o := o') hE q1 l1 (q5 rfl) q6 t1 ho w1 w2 (d := if o' < 3 then sf_dp to f l + 1 else sf_dp to f l - 1) rfl
      have ne : ∀ e, sf_W (j + 1) ed se e → e ≠ j := fun e we z => by
        have := we.2.1
        rw [z, s0] at this
        exact absurd this sf_n01
      refine ⟨rfl, sf_mk ⟨c1, c2, c3, c4, c5, c6, c7, hE', LS, SZ, sf_N_VW (fun e we => sf_V_tok hE we.1 (ne e we)) (fun e we => ⟨we.1, we.2.1, ?_⟩) hN, hR⟩⟩
      rw [pk_un (ne e we)]
      exact we.2.2
theorem i_vc_evalExpr {k : Nat} {u : SX} {v : SY} (I : i_Rel k u v) (hk : k + 4 ≤ 2051) (v1 : Int32) (v2 : Int32) (v3 : Int32) : wpX_evalExpr (fun r u' => wpY_evalExpr (fun r' v' => r' = r ∧ i_Rel (k + 4) u' v') v v1 v2 v3) u v1 v2 v3 := by
  obtain ⟨NC, EC, OC, tc, ec, nc, xr, xm, xt, xe, to, ta, es, el, ed, se, sx, kd, sa, sb, ex1, ex2, pm1, pm2, us, hc, ts, nl, it, wc, wm, ac, en, ro, mo, tt, ys, yw, yv, yl, rfl, rfl, I⟩ := I
  obtain ⟨c1, c2, c3, c4, c5, c6, c7, hE, LS, SZ, hN, hR⟩ := I
  have h16 := hE.1
  have I' : sf_I NC EC OC nc ec tc to ta es el ed se kd sa sb ex1 ex2 pm1 pm2 us hc ts nl it xr xm xt xe ac en ro mo tt := ⟨c1, c2, c3, c4, c5, c6, c7, hE, LS, SZ, hN, hR⟩
  unfold wpX_evalExpr
  by_cases h : sf_isw ec ed v1
  · obtain ⟨e, he, rfl, hd⟩ := h
    refine sf_x_wf1 h16 he hd (br_f (by decide) (sf_x_val (sf_E_wf (ta := ta) hE he hd) (by omega) (fun sx' => ?_)))
    unfold wpY_evalExpr
    exact sf_y_eval hE he hd rfl (fun ys' => ⟨rfl, sf_mk I'⟩)
  · refine sf_x_wf0 h16 h (br_t rfl ?_)
    unfold wpY_evalExpr
    exact sf_y_eval0 h16 h ⟨rfl, sf_mk I'⟩
theorem i_vc_start {k : Nat} {u : SX} {v : SY} (I : i_Rel k u v) (hk : k + 4 ≤ 2051) (v1 : Int32) (v2 : Int32) : wpX_start (fun r u' => wpY_start (fun r' v' => r' = r ∧ i_Rel (k + 4) u' v') v v1 v2) u v1 v2 := by
  have I0 := I
  obtain ⟨NC, EC, OC, tc, ec, nc, xr, xm, xt, xe, to, ta, es, el, ed, se, sx, kd, sa, sb, ex1, ex2, pm1, pm2, us, hc, ts, nl, it, wc, wm, ac, en, ro, mo, tt, ys, yw, yv, yl, rfl, rfl, I⟩ := I
  obtain ⟨c1, c2, c3, c4, c5, c6, c7, hE, LS, SZ, hN, hR⟩ := I
  have h16 := hN.1
  unfold wpX_start
  by_cases h : ∃ j, j < nc ∧ v1 = nI j
  · obtain ⟨j, hj, rfl⟩ := h
    have cj : (nI j).toNatClampNeg = j := nI_clamp (by omega)
    have tj : ts (nI j).toNatClampNeg = nI (SZ j) := by rw [cj]; exact (hN.2.1 j hj).2.2.2.2.2.1
    have hR' : sf_R nc LS (nI j) v2 0 0 1 0 (nI j) v2 0 := Or.inr ⟨rfl, rfl, rfl, rfl, rfl, sf_b0, j, 0, hj, rfl, Nat.zero_le _, rfl⟩
    refine sf_x_node1 h16 hj (br_f (by decide) ?_)
    have fin : wX_start_19 (fun r u' => wpY_start (fun r' v' => r' = r ∧ i_Rel (k + 4) u' v') (nI NC, nI EC, nI OC, nI nc, nI ec, nI tc, wc, wm, ac, en, ro, mo, tt, kd, sa, sb, ex1, ex2, pm1, pm2, us, es, el, ed, se, to, ta, ys, yw, yv, yl) (nI j) v2) (nI j) v2 (nI NC) (nI EC) (nI OC) (nI tc) (nI ec) (nI nc) xr xm xt xe to ta es el ed se sx kd sa sb ex1 ex2 pm1 pm2 us hc ts nl it ∨ ¬ (v2 = 0 ∨ v2 = 1) := by
      by_cases m : v2 = 0 ∨ v2 = 1
      · left
        have hs : ∀ P : Int32 → SY → Prop, (∀ w, P (nI (SZ j)) (nI NC, nI EC, nI OC, nI nc, nI ec, nI tc, nI (SZ j), hc j, 1, 0, nI j, v2, 0, kd, sa, sb, ex1, ex2, pm1, pm2, us, es, el, ed, se, to, ta, ys, w, yv, yl)) → wY_start_25 P (nI j) v2 (nI NC) (nI EC) (nI OC) (nI nc) (nI ec) (nI tc) wc wm ac en ro mo tt kd sa sb ex1 ex2 pm1 pm2 us es el ed se to ta ys yw yv yl := by
          intro P hP
          exact sf_y_walk hN hj hP
        refine ⟨vp_in_nI (by omega) (by omega), br_f (nI_pos (by omega)) (br_t (nI_lt hj (by omega)) ?_)⟩
        have hf := hs (fun r' v' => r' = ts (nI j).toNatClampNeg ∧ i_Rel (k + 4) (nI NC, nI EC, nI OC, nI tc, nI ec, nI nc, nI j, v2, 0, 0, to, ta, es, el, ed, se, sx, kd, sa, sb, ex1, ex2, pm1, pm2, us, hc, ts, nl, it) v') (fun w => ⟨tj.symm, sf_mk ⟨c1, c2, c3, c4, c5, c6, c7, hE, LS, SZ, hN, hR'⟩⟩)
        rcases m with m | m
        · exact br_t m hf
        · by_cases m0 : v2 = 0
          · exact br_t m0 hf
          · exact br_f m0 (br_t m hf)
      · right; exact m
    rcases fin with hf | hf
    · by_cases m0 : v2 = 0
      · exact br_t m0 hf
      · by_cases m1 : v2 = 1
        · exact br_f m0 (br_t m1 hf)
        · exact br_f m0 (br_f m1 (br_f (nI_pos (by omega)) (br_t (nI_lt hj (by omega)) (br_f m0 (br_f m1 ⟨rfl, i_up I0⟩)))))
    · have m0 : ¬ v2 = 0 := fun z => hf (Or.inl z)
      have m1 : ¬ v2 = 1 := fun z => hf (Or.inr z)
      exact br_f m0 (br_f m1 (br_f (nI_pos (by omega)) (br_t (nI_lt hj (by omega)) (br_f m0 (br_f m1 ⟨rfl, i_up I0⟩)))))
  · refine sf_x_node0 h16 h (br_t rfl ?_)
    by_cases z : v1 < 0
    · exact br_t z ⟨rfl, i_up I0⟩
    · refine br_f z (br_f (fun w => ?_) ⟨rfl, i_up I0⟩)
      obtain ⟨j, hj, rfl⟩ := nI_of z
      rw [nI_ltI hj (by omega)] at w
      exact h ⟨j, w, rfl⟩
end
end
section
section
variable {NC EC OC tc ec nc : Nat} {xr xm xt xe wc wm ac en ro mo tt : Int32} {to ta es el ed se sx kd sa sb ex1 ex2 pm1 pm2 us hc ts nl it ys yw yv yl : Nat → Int32}
theorem sf_neg_ne {x : Int32} (c : Nat) (h : x < 0) (hc1 : c < 2 ^ 31) : ¬ x = nI c := fun e => nI_pos hc1 (e ▸ h)
theorem sf_big_ne {x : Int32} (a c : Nat) (h : nI a < x) (hca : c ≤ a) (ha : a < 2 ^ 31) : ¬ x = nI c := fun e => nI_nlt hca ha (e ▸ h)
theorem i_vc_query {k : Nat} {u : SX} {v : SY} (I : i_Rel k u v) (hk : k + 4 ≤ 2051) (v1 : Int32) : wpX_query (fun r => wpY_query (fun r' => r' = r ∧ i_Rel (k + 4) u v) v v1) u v1 := by
  have I0 := i_up I
  obtain ⟨NC, EC, OC, tc, ec, nc, xr, xm, xt, xe, to, ta, es, el, ed, se, sx, kd, sa, sb, ex1, ex2, pm1, pm2, us, hc, ts, nl, it, wc, wm, ac, en, ro, mo, tt, ys, yw, yv, yl, rfl, rfl, I⟩ := I
  obtain ⟨c1, c2, c3, c4, c5, c6, c7, hE, LS, SZ, hN, hR⟩ := I
  have h16 := hN.1
  by_cases g : v1 < 0
  · exact br_t g (br_f (sf_neg_ne 0 g (by decide)) (br_f (sf_neg_ne 1 g (by decide)) (br_f (sf_neg_ne 2 g (by decide)) (br_f (sf_neg_ne 3 g (by decide)) (br_f (sf_neg_ne 4 g (by decide)) (br_f (sf_neg_ne 5 g (by decide)) (br_f (sf_neg_ne 6 g (by decide)) (br_f (sf_neg_ne 7 g (by decide)) ⟨rfl, I0⟩))))))))
  · by_cases g7 : 7 < v1
    · exact br_f g (br_t g7 (br_f (sf_big_ne 7 0 g7 (by decide) (by decide)) (br_f (sf_big_ne 7 1 g7 (by decide) (by decide)) (br_f (sf_big_ne 7 2 g7 (by decide) (by decide)) (br_f (sf_big_ne 7 3 g7 (by decide) (by decide)) (br_f (sf_big_ne 7 4 g7 (by decide) (by decide)) (br_f (sf_big_ne 7 5 g7 (by decide) (by decide)) (br_f (sf_big_ne 7 6 g7 (by decide) (by decide)) (br_f (sf_big_ne 7 7 g7 (by decide) (by decide)) ⟨rfl, I0⟩)))))))))
    · obtain ⟨j, hj, rfl⟩ := nI_of2 (M := 7) (n := 7) (by decide) g (Int32.not_lt.mp g7)
      have ej : j = 0 ∨ j = 1 ∨ j = 2 ∨ j = 3 ∨ j = 4 ∨ j = 5 ∨ j = 6 ∨ j = 7 := by omega
      rcases hR with ⟨rfl, rfl, rfl, rfl, rfl⟩ | ⟨rfl, rfl, rfl, rfl, rfl, hb, r, t, hr, rfl, ht, rfl⟩
      · rcases ej with e | e | e | e | e | e | e | e <;> subst e
        · exact br_f (by decide) (br_f (by decide) (br_t (by decide) (br_t (by decide) ⟨rfl, I0⟩)))
        · exact br_f (by decide) (br_f (by decide) (br_f (by decide) (br_t (by decide) (br_f (by decide) (br_t (by decide) ⟨rfl, I0⟩)))))
        · exact br_f (by decide) (br_f (by decide) (br_f (by decide) (br_f (by decide) (br_t (by decide) (br_f (by decide) (br_f (by decide) (br_t (by decide) ⟨rfl, I0⟩)))))))
        · exact br_f (by decide) (br_f (by decide) (br_f (by decide) (br_f (by decide) (br_f (by decide) (br_t (by decide) (br_t rfl (br_t rfl (br_f (by decide) (br_f (by decide) (br_f (by decide) (br_t (by decide) (br_t rfl ⟨rfl, I0⟩))))))))))))
        · exact br_f (by decide) (br_f (by decide) (br_f (by decide) (br_f (by decide) (br_f (by decide) (br_f (by decide) (br_t (by decide) (br_f (by decide) (br_f (by decide) (br_f (by decide) (br_f (by decide) (br_t (by decide) (br_t rfl ⟨rfl, I0⟩))))))))))))
        · exact br_f (by decide) (br_f (by decide) (br_f (by decide) (br_f (by decide) (br_f (by decide) (br_f (by decide) (br_f (by decide) (br_t (by decide) (br_f (by decide) (br_f (by decide) (br_f (by decide) (br_f (by decide) (br_f (by decide) (br_t (by decide) (br_t rfl ⟨rfl, I0⟩))))))))))))))
        · exact br_f (by decide) (br_f (by decide) (br_f (by decide) (br_f (by decide) (br_f (by decide) (br_f (by decide) (br_f (by decide) (br_f (by decide) (br_t (by decide) (br_f (by decide) (br_f (by decide) (br_f (by decide) (br_f (by decide) (br_f (by decide) (br_f (by decide) (br_t (by decide) (br_t rfl ⟨rfl, I0⟩))))))))))))))))
        · exact br_f (by decide) (br_f (by decide) (br_f (by decide) (br_f (by decide) (br_f (by decide) (br_f (by decide) (br_f (by decide) (br_f (by decide) (br_f (by decide) (br_t (by decide) (br_t rfl (br_f (by decide) (br_f (by decide) (br_f (by decide) (br_f (by decide) (br_f (by decide) (br_f (by decide) (br_f (by decide) (br_t (by decide) (br_t rfl ⟨rfl, I0⟩)))))))))))))))))))
      · rcases ej with e | e | e | e | e | e | e | e <;> subst e
        · exact br_f (by decide) (br_f (by decide) (br_t (by decide) (br_t (by decide) ⟨rfl, I0⟩)))
        · exact br_f (by decide) (br_f (by decide) (br_f (by decide) (br_t (by decide) (br_f (by decide) (br_t (by decide) ⟨rfl, I0⟩)))))
        · exact br_f (by decide) (br_f (by decide) (br_f (by decide) (br_f (by decide) (br_t (by decide) (br_f (by decide) (br_f (by decide) (br_t (by decide) ⟨rfl, I0⟩)))))))
        · exact br_f (by decide) (br_f (by decide) (br_f (by decide) (br_f (by decide) (br_f (by decide) (br_t (by decide) (br_f (sf_ne1 (by omega)) (br_f (by decide) (br_f (by decide) (br_f (by decide) (br_f (by decide) (br_t (by decide) (br_f (by decide) ⟨rfl, I0⟩))))))))))))
        · exact br_f (by decide) (br_f (by decide) (br_f (by decide) (br_f (by decide) (br_f (by decide) (br_f (by decide) (br_t (by decide) (br_f (by decide) (br_f (by decide) (br_f (by decide) (br_f (by decide) (br_t (by decide) (br_f (by decide) ⟨rfl, I0⟩))))))))))))
        · exact br_f (by decide) (br_f (by decide) (br_f (by decide) (br_f (by decide) (br_f (by decide) (br_f (by decide) (br_f (by decide) (br_t (by decide) (br_f (by decide) (br_f (by decide) (br_f (by decide) (br_f (by decide) (br_f (by decide) (br_t (by decide) (br_f (by decide) ⟨rfl, I0⟩))))))))))))))
        · exact br_f (by decide) (br_f (by decide) (br_f (by decide) (br_f (by decide) (br_f (by decide) (br_f (by decide) (br_f (by decide) (br_f (by decide) (br_t (by decide) (br_f (by decide) (br_f (by decide) (br_f (by decide) (br_f (by decide) (br_f (by decide) (br_f (by decide) (br_t (by decide) (br_f (by decide) ⟨rfl, I0⟩))))))))))))))))
        · rcases hb with hb | hb
          · exact br_f (by decide) (br_f (by decide) (br_f (by decide) (br_f (by decide) (br_f (by decide) (br_f (by decide) (br_f (by decide) (br_f (by decide) (br_f (by decide) (br_t (by decide) (br_t hb (br_f (by decide) (br_f (by decide) (br_f (by decide) (br_f (by decide) (br_f (by decide) (br_f (by decide) (br_f (by decide) (br_t (by decide) (br_f (by decide) (br_t hb ⟨rfl, I0⟩))))))))))))))))))))
          · have hn : ¬ en = 0 := by rw [hb]; decide
            exact br_f (by decide) (br_f (by decide) (br_f (by decide) (br_f (by decide) (br_f (by decide) (br_f (by decide) (br_f (by decide) (br_f (by decide) (br_f (by decide) (br_t (by decide) (br_f hn (br_f (by decide) (br_f (by decide) (br_f (by decide) (br_f (by decide) (br_f (by decide) (br_f (by decide) (br_f (by decide) (br_t (by decide) (br_f (by decide) (br_f hn ⟨rfl, I0⟩))))))))))))))))))))
theorem i_vc_nodeInfo {k : Nat} {u : SX} {v : SY} (I : i_Rel k u v) (hk : k + 4 ≤ 2051) (v1 : Int32) (v2 : Int32) : wpX_nodeInfo (fun r => wpY_nodeInfo (fun r' v' => r' = r ∧ i_Rel (k + 4) u v') v v1 v2) u v1 v2 := by
  have I0 := i_up I
  obtain ⟨NC, EC, OC, tc, ec, nc, xr, xm, xt, xe, to, ta, es, el, ed, se, sx, kd, sa, sb, ex1, ex2, pm1, pm2, us, hc, ts, nl, it, wc, wm, ac, en, ro, mo, tt, ys, yw, yv, yl, rfl, rfl, I⟩ := I
  obtain ⟨c1, c2, c3, c4, c5, c6, c7, hE, LS, SZ, hN, hR⟩ := I
  have h16 := hN.1
  unfold wpX_nodeInfo
  by_cases h : ∃ j, j < nc ∧ v1 = nI j
  · obtain ⟨n, hn, rfl⟩ := h
    have vn : vp_in (nI n) 16 := vp_in_nI (by omega) (by omega)
    have cn : (nI n).toNatClampNeg = n := nI_clamp (by omega)
    have p0 : ¬ nI n < 0 := nI_pos (by omega)
    have p1 : ¬ nI nc ≤ nI n := nI_ge hn (by omega)
    refine sf_x_node1 h16 hn (br_f (by decide) ?_)
    by_cases g : v2 < 0
    · exact br_t g (br_f p0 (br_f p1 (br_t g ⟨rfl, I0⟩)))
    · by_cases g9 : 9 < v2
      · exact br_f g (br_t g9 (br_f p0 (br_f p1 (br_f g (br_f (Int32.not_le.mpr g9) ⟨rfl, I0⟩)))))
      · obtain ⟨j, hj, rfl⟩ := nI_of2 (M := 9) (n := 9) (by decide) g (Int32.not_lt.mp g9)
        have ej : j = 0 ∨ j = 1 ∨ j = 2 ∨ j = 3 ∨ j = 4 ∨ j = 5 ∨ j = 6 ∨ j = 7 ∨ j = 8 ∨ j = 9 := by omega
        rcases ej with e | e | e | e | e | e | e | e | e | e <;> subst e <;> refine br_f (by decide) (br_f (by decide) ?_)
        · exact (br_t (by decide) ⟨vn, (br_f p0 (br_f p1 (br_f (by decide) (br_t (by decide) (br_t (by decide) ⟨vn, rfl, I0⟩)))))⟩)
        · exact (br_f (by decide) (br_t (by decide) ⟨vn, (br_f p0 (br_f p1 (br_f (by decide) (br_t (by decide) (br_f (by decide) (br_t (by decide) ⟨vn, rfl, I0⟩))))))⟩))
        · exact (br_f (by decide) (br_f (by decide) (br_t (by decide) ⟨vn, (br_f p0 (br_f p1 (br_f (by decide) (br_t (by decide) (br_f (by decide) (br_f (by decide) (br_t (by decide) ⟨vn, rfl, I0⟩)))))))⟩)))
        · exact (br_f (by decide) (br_f (by decide) (br_f (by decide) (br_t (by decide) ⟨vn, (br_f p0 (br_f p1 (br_f (by decide) (br_t (by decide) (br_f (by decide) (br_f (by decide) (br_f (by decide) (br_t (by decide) ⟨vn, rfl, I0⟩))))))))⟩))))
        · exact (br_f (by decide) (br_f (by decide) (br_f (by decide) (br_f (by decide) (br_t (by decide) ⟨vn, (br_f p0 (br_f p1 (br_f (by decide) (br_t (by decide) (br_f (by decide) (br_f (by decide) (br_f (by decide) (br_f (by decide) (br_t (by decide) ⟨vn, rfl, I0⟩)))))))))⟩)))))
        · exact (br_f (by decide) (br_f (by decide) (br_f (by decide) (br_f (by decide) (br_f (by decide) (br_t (by decide) ⟨vn, (br_f p0 (br_f p1 (br_f (by decide) (br_t (by decide) (br_f (by decide) (br_f (by decide) (br_f (by decide) (br_f (by decide) (br_f (by decide) (br_t (by decide) ⟨vn, rfl, I0⟩))))))))))⟩))))))
        · exact (br_f (by decide) (br_f (by decide) (br_f (by decide) (br_f (by decide) (br_f (by decide) (br_f (by decide) (br_t (by decide) ⟨vn, (br_f p0 (br_f p1 (br_f (by decide) (br_t (by decide) (br_f (by decide) (br_f (by decide) (br_f (by decide) (br_f (by decide) (br_f (by decide) (br_f (by decide) (br_t (by decide) ⟨vn, rfl, I0⟩)))))))))))⟩)))))))
        · by_cases z : us (nI n).toNatClampNeg = 0
          · exact (br_f (by decide) (br_f (by decide) (br_f (by decide) (br_f (by decide) (br_f (by decide) (br_f (by decide) (br_f (by decide) (br_t (by decide) ⟨vn, br_t z (br_f p0 (br_f p1 (br_f (by decide) (br_t (by decide) (br_f (by decide) (br_f (by decide) (br_f (by decide) (br_f (by decide) (br_f (by decide) (br_f (by decide) (br_f (by decide) (br_t (by decide) ⟨vn, br_t z ⟨rfl, I0⟩⟩))))))))))))⟩))))))))
          · exact (br_f (by decide) (br_f (by decide) (br_f (by decide) (br_f (by decide) (br_f (by decide) (br_f (by decide) (br_f (by decide) (br_t (by decide) ⟨vn, br_f z (br_f p0 (br_f p1 (br_f (by decide) (br_t (by decide) (br_f (by decide) (br_f (by decide) (br_f (by decide) (br_f (by decide) (br_f (by decide) (br_f (by decide) (br_f (by decide) (br_t (by decide) ⟨vn, br_f z ⟨rfl, I0⟩⟩))))))))))))⟩))))))))
        · refine (br_f (by decide) (br_f (by decide) (br_f (by decide) (br_f (by decide) (br_f (by decide) (br_f (by decide) (br_f (by decide) (br_f (by decide) (br_t (by decide) ⟨vn, (br_f p0 (br_f p1 (br_f (by decide) (br_t (by decide) (br_f (by decide) (br_f (by decide) (br_f (by decide) (br_f (by decide) (br_f (by decide) (br_f (by decide) (br_f (by decide) (br_f (by decide) (br_t (by decide) ?_)))))))))))))⟩)))))))))
          refine sf_y_up hE hN hn (fun ys' yv' yl' hH => ⟨vn, ?_, sf_mk ⟨c1, c2, c3, c4, c5, c6, c7, hE, LS, SZ, hN, hR⟩⟩)
          rw [cn, (hH n (by omega)).1, (hN.2.1 n hn).2.1]
        · have hw : ∀ P : SY → Prop, (∀ w, P (nI NC, nI EC, nI OC, nI nc, nI ec, nI tc, nI (SZ n), hc n, ac, en, ro, mo, tt, kd, sa, sb, ex1, ex2, pm1, pm2, us, es, el, ed, se, to, ta, ys, w, yv, yl)) → wpY_walk P (nI NC, nI EC, nI OC, nI nc, nI ec, nI tc, wc, wm, ac, en, ro, mo, tt, kd, sa, sb, ex1, ex2, pm1, pm2, us, es, el, ed, se, to, ta, ys, yw, yv, yl) (nI n) := fun P hP => sf_y_walk hN hn hP
          by_cases z : hc n = 0
          · refine (br_f (by decide) (br_f (by decide) (br_f (by decide) (br_f (by decide) (br_f (by decide) (br_f (by decide) (br_f (by decide) (br_f (by decide) (br_f (by decide) (br_t (by decide) ⟨vn, br_t (by rw [cn]; exact z) (br_f p0 (br_f p1 (br_f (by decide) (br_t (by decide) (br_f (by decide) (br_f (by decide) (br_f (by decide) (br_f (by decide) (br_f (by decide) (br_f (by decide) (br_f (by decide) (br_f (by decide) (br_f (by decide) ?_)))))))))))))⟩))))))))))
            exact hw _ (fun w => br_t z ⟨rfl, sf_mk ⟨c1, c2, c3, c4, c5, c6, c7, hE, LS, SZ, hN, hR⟩⟩)
          · refine (br_f (by decide) (br_f (by decide) (br_f (by decide) (br_f (by decide) (br_f (by decide) (br_f (by decide) (br_f (by decide) (br_f (by decide) (br_f (by decide) (br_t (by decide) ⟨vn, br_f (by rw [cn]; exact z) (br_f p0 (br_f p1 (br_f (by decide) (br_t (by decide) (br_f (by decide) (br_f (by decide) (br_f (by decide) (br_f (by decide) (br_f (by decide) (br_f (by decide) (br_f (by decide) (br_f (by decide) (br_f (by decide) ?_)))))))))))))⟩))))))))))
            exact hw _ (fun w => br_f z ⟨rfl, sf_mk ⟨c1, c2, c3, c4, c5, c6, c7, hE, LS, SZ, hN, hR⟩⟩)
  · refine sf_x_node0 h16 h (br_t rfl ?_)
    by_cases z : v1 < 0
    · exact br_t z ⟨rfl, I0⟩
    · refine br_f z (br_t ?_ ⟨rfl, I0⟩)
      obtain ⟨j, hj, rfl⟩ := nI_of z
      exact nI_le (Nat.le_of_not_lt (fun w => h ⟨j, w, rfl⟩)) hj
/-! run -/
theorem sf_y_runloop {post : Int32 → SY → Prop} {K len t : Nat} (hK : K ≤ 32) (hl : len ≤ 128) (h1 : t + K ≤ len → post (nI K) (nI NC, nI EC, nI OC, nI nc, nI ec, nI tc, wc, wm, ac, 0, ro, mo, nI (t + K), kd, sa, sb, ex1, ex2, pm1, pm2, us, es, el, ed, se, to, ta, ys, yw, yv, yl)) (h2 : len < t + K → post (nI (len - t)) (nI NC, nI EC, nI OC, nI nc, nI ec, nI tc, wc, wm, ac, 1, ro, mo, nI len, kd, sa, sb, ex1, ex2, pm1, pm2, us, es, el, ed, se, to, ta, ys, yw, yv, yl)) :
    ∀ d i : Nat, i + d = K → t + i ≤ len → wY_run_52 post (nI K) (nI len) (nI NC) (nI EC) (nI OC) (nI nc) (nI ec) (nI tc) wc wm ac 0 ro mo kd sa sb ex1 ex2 pm1 pm2 us es el ed se to ta ys yw yv yl (d + 1) (nI i) (nI i) (nI (t + i)) := by
  intro d
  induction d with
  | zero =>
    intro i hi ht
    have ei : i = K := by omega
    subst ei
    exact br_t (nI_le (by omega) (by omega)) (h1 ht)
  | succ d ih =>
    intro i hi ht
    refine br_f (nI_ge (by omega) (by omega)) (br_t rfl ?_)
    by_cases z : len ≤ t + i
    · have e1 : t + i = len := by omega
      have e2 : i = len - t := by omega
      refine br_t (nI_le z (by omega)) ?_
      rw [e1]
      have := h2 (by omega)
      rw [← e2] at this
      exact this
    · exact br_f (nI_ge (by omega) (by omega)) (nm_r (nI_1 (t + i)) (nm_r (nI_1 i) (nm_r (nI_1 i) (ih (i + 1) (by omega) (by omega)))))
theorem i_vc_run {k : Nat} {u : SX} {v : SY} (I : i_Rel k u v) (hk : k + 4 ≤ 2051) (v1 : Int32) : wpX_run (fun r u' => wpY_run (fun r' v' => r' = r ∧ i_Rel (k + 4) u' v') v v1) u v1 := by
  have I0 := i_up I
  obtain ⟨NC, EC, OC, tc, ec, nc, xr, xm, xt, xe, to, ta, es, el, ed, se, sx, kd, sa, sb, ex1, ex2, pm1, pm2, us, hc, ts, nl, it, wc, wm, ac, en, ro, mo, tt, ys, yw, yv, yl, rfl, rfl, I⟩ := I
  obtain ⟨c1, c2, c3, c4, c5, c6, c7, hE, LS, SZ, hN, hR⟩ := I
  have h16 := hN.1
  unfold wpX_run
  rcases hR with ⟨rfl, rfl, rfl, rfl, rfl⟩ | ⟨rfl, rfl, rfl, rfl, rfl, hb, r, t, hr, rfl, ht, rfl⟩
  · exact br_t rfl (br_t rfl (br_t rfl ⟨rfl, I0⟩))
  · have l128 := (hN.2.1 r hr).2.2.1
    have vr : vp_in (nI r) 16 := vp_in_nI (by omega) (by omega)
    have cr : (nI r).toNatClampNeg = r := nI_clamp (by omega)
    obtain ⟨K, k1, k2, dK⟩ := sf_cl3 v1 (lo := 1) (hi := OC) (by omega) (by omega)
    have yK : ∀ (P : Int32 → SY → Prop), wY_run_29 P (nI K) (nI NC) (nI EC) (nI OC) (nI nc) (nI ec) (nI tc) wc wm 1 en (nI r) mo (nI t) kd sa sb ex1 ex2 pm1 pm2 us es el ed se to ta ys yw yv yl → wpY_run P (nI NC, nI EC, nI OC, nI nc, nI ec, nI tc, wc, wm, 1, en, nI r, mo, nI t, kd, sa, sb, ex1, ex2, pm1, pm2, us, es, el, ed, se, to, ta, ys, yw, yv, yl) v1 := by
      intro P hP
      refine br_f (by decide) ?_
      rcases dK with ⟨a, b, rfl⟩ | ⟨a, b, rfl⟩ | ⟨a, rfl⟩
      · exact br_t a (br_t b hP)
      · exact br_t a (br_f b hP)
      · exact br_f a (br_t (nI_le (a := 1) (by omega) (by omega)) hP)
    have yL : ∀ (P : Int32 → SY → Prop), (∀ ys' yv' yl', ∃ n52, wY_run_52 P (nI K) (nI (LS r).length) (nI NC) (nI EC) (nI OC) (nI nc) (nI ec) (nI tc) wc wm 1 en (nI r) mo kd sa sb ex1 ex2 pm1 pm2 us es el ed se to ta ys' yw yv' yl' n52 0 0 (nI t)) → wY_run_29 P (nI K) (nI NC) (nI EC) (nI OC) (nI nc) (nI ec) (nI tc) wc wm 1 en (nI r) mo (nI t) kd sa sb ex1 ex2 pm1 pm2 us es el ed se to ta ys yw yv yl := by
      intro P hP
      refine sf_y_up hE hN hr (fun ys' yv' yl' hH => ⟨vr, nm_r (e' := nI (LS r).length) (by rw [cr]; exact (hH r (by omega)).1) (hP ys' yv' yl')⟩)
    refine br_f (sf_ne1 (by omega)) (br_f (by decide) ?_)
    rcases hb with hb | hb
    · subst hb
      refine br_t rfl (sf_x_cl (lo := 1) dK ⟨vr, nm_r (e' := nI ((LS r).length - t)) (by rw [cr, (hN.2.1 r hr).2.1, pk_sub ht]) (sf_x_min (by omega) (by omega) ?_)⟩)
      by_cases z : t + K ≤ (LS r).length
      · have em : sf_mn K ((LS r).length - t) = K := by unfold sf_mn; split <;> omega
        rw [em]
        refine nm_r (nI_add t K) (br_t (nI_le (Nat.le_refl K) (by omega)) ?_)
        refine yK _ (yL _ (fun ys' yv' yl' => ⟨K + 1, ?_⟩))
        refine sf_y_runloop (by omega) l128 (fun _ => ⟨rfl, sf_mk ⟨c1, c2, c3, c4, c5, c6, c7, hE, LS, SZ, hN, Or.inr ⟨rfl, rfl, rfl, rfl, rfl, sf_b0, r, t + K, hr, rfl, z, rfl⟩⟩⟩) (fun w => absurd w (by omega)) K 0 (by omega) (by omega)
      · have em : sf_mn K ((LS r).length - t) = (LS r).length - t := by unfold sf_mn; split <;> omega
        rw [em]
        refine nm_r (e' := nI (LS r).length) (by rw [nI_add]; exact congrArg nI (by omega)) (br_f (nI_ge (by omega) (by omega)) ?_)
        refine yK _ (yL _ (fun ys' yv' yl' => ⟨K + 1, ?_⟩))
        refine sf_y_runloop (by omega) l128 (fun w => absurd w z) (fun _ => ⟨rfl, sf_mk ⟨c1, c2, c3, c4, c5, c6, c7, hE, LS, SZ, hN, Or.inr ⟨rfl, rfl, rfl, rfl, rfl, sf_b1, r, (LS r).length, hr, rfl, Nat.le_refl _, rfl⟩⟩⟩) K 0 (by omega) (by omega)
    · subst hb
      refine br_f (by decide) (yK _ (yL _ (fun ys' yv' yl' => ⟨1, ?_⟩)))
      exact br_f (nI_nle (by omega) (by omega)) (br_f (by decide) ⟨rfl, sf_mk ⟨c1, c2, c3, c4, c5, c6, c7, hE, LS, SZ, hN, Or.inr ⟨rfl, rfl, rfl, rfl, rfl, sf_b1, r, t, hr, rfl, ht, rfl⟩⟩⟩)
theorem i_vc_outValue {k : Nat} {u : SX} {v : SY} (I : i_Rel k u v) (hk : k + 4 ≤ 2051) (v1 : Int32) : wpX_outValue (fun r => wpY_outValue (fun r' v' => r' = r ∧ i_Rel (k + 4) u v') v v1) u v1 := by
  have I0 := i_up I
  obtain ⟨NC, EC, OC, tc, ec, nc, xr, xm, xt, xe, to, ta, es, el, ed, se, sx, kd, sa, sb, ex1, ex2, pm1, pm2, us, hc, ts, nl, it, wc, wm, ac, en, ro, mo, tt, ys, yw, yv, yl, rfl, rfl, I⟩ := I
  obtain ⟨c1, c2, c3, c4, c5, c6, c7, hE, LS, SZ, hN, hR⟩ := I
  have h16 := hN.1
  unfold wpX_outValue
  rcases hR with ⟨rfl, rfl, rfl, rfl, rfl⟩ | ⟨rfl, rfl, rfl, rfl, rfl, hb, r, t, hr, rfl, ht, rfl⟩
  · exact br_t rfl (br_t rfl (br_t rfl ⟨rfl, I0⟩))
  · have l128 := (hN.2.1 r hr).2.2.1
    have vr : vp_in (nI r) 16 := vp_in_nI (by omega) (by omega)
    have cr : (nI r).toNatClampNeg = r := nI_clamp (by omega)
    refine br_f (sf_ne1 (by omega)) (br_f (by decide) ?_)
    by_cases g : v1 < 0
    · exact br_t g (br_f (by decide) (br_t g ⟨rfl, I0⟩))
    · obtain ⟨i, hi, rfl⟩ := nI_of g
      by_cases g1 : nI t ≤ nI i
      · exact br_f g (br_t g1 (br_f (by decide) (br_f g (br_t g1 ⟨rfl, I0⟩))))
      · by_cases g2 : nI t - nI OC ≤ nI i
        · rw [nI_leI (by omega) hi] at g1
          have g1' : ¬ nI t ≤ nI i := nI_ge (by omega) (by omega)
          refine br_f g (br_f g1' (br_t g2 (sf_x_item (by omega) (by omega) (br_f (by decide) (br_f g (br_f g1' (br_t g2 ?_)))))))
          refine sf_y_up hE hN hr (fun ys' yv' yl' hH => ⟨vr, br_f ?_ (br_t (nI_lt (b := 128) (by omega) (by decide)) ⟨?_, ?_, sf_mk ⟨c1, c2, c3, c4, c5, c6, c7, hE, LS, SZ, hN, Or.inr ⟨rfl, rfl, rfl, rfl, rfl, hb, r, t, hr, rfl, ht, rfl⟩⟩⟩)⟩)
          · rw [cr, (hH r (by omega)).1]
            exact nI_ge (by omega) (by omega)
          · rw [sf_128]
            exact sf_ai (by omega)
          · rw [sf_128, sf_ad (by omega), (hH r (by omega)).2 i (by omega), (hN.2.1 r hr).2.2.2.2.1 i (by omega)]
        · exact br_f g (br_f g1 (br_f g2 (br_f (by decide) (br_f g (br_f g1 (br_f g2 ⟨rfl, I0⟩))))))
end
end
section
section
variable {NC EC OC tc ec nc : Nat} {xr xm xt xe wc wm ac en ro mo tt : Int32} {to ta es el ed se sx kd sa sb ex1 ex2 pm1 pm2 us hc ts nl it ys yw yv yl : Nat → Int32}
theorem sf_none {P : Nat → Prop} : ∀ s, (none : Option Nat) = some s → P s := fun _ e => by cases e
theorem sf_some {P : Nat → Prop} {s : Nat} (h : P s) : ∀ t, (some s : Option Nat) = some t → P t := fun t e => by cases e; exact h
theorem sf_x_min2 {post : Int32 → Prop} {x y : Int32} {a b : Nat} (hx : x = nI a) (hy : y = nI b) (ha : a < 2 ^ 31) (hb : b < 2 ^ 31) (h : post (nI (sf_mn a b))) : wpX_smaller post x y := by
  subst hx hy
  exact sf_x_min ha hb h
theorem sf_x_copy {post : SX → Prop} {s n fr c : Nat} {x y : Int32} {l : List Int32} (hx : x = nI fr) (hy : y = nI (fr + c)) (hn : n < 16) (hs : s < n) (hl : l.length ≤ 128) (hg : sf_G it (s * 128) l) (hc1 : fr + c ≤ l.length) (hz : nl n = 0)
    (h : ∀ it', sf_U it it' (n * 128) → sf_G it' (n * 128) (sf_tb (fun i => l.getD (fr + i) 0) c) → post (nI NC, nI EC, nI OC, nI tc, nI ec, nI nc, xr, xm, xt, xe, to, ta, es, el, ed, se, sx, kd, sa, sb, ex1, ex2, pm1, pm2, us, hc, ts, upd nl n (nI c), it')) : wpX_copyItems post (nI NC, nI EC, nI OC, nI tc, nI ec, nI nc, xr, xm, xt, xe, to, ta, es, el, ed, se, sx, kd, sa, sb, ex1, ex2, pm1, pm2, us, hc, ts, nl, it) (nI s) x y (nI n) := by
  subst hx hy
  have e0 : upd nl n (nI 0) = nl := sf_updid hz
  refine ⟨c + 1, ?_⟩
  rw [← e0]
  exact sf_x_copyloop hn hs hl hg hc1 h c 0 it (by omega) sf_U0 sf_G0
theorem sf_x_range {post : Int32 → SX → Prop} {LS : Nat → List Int32} {SZ : Nat → Nat} {c : Nat} {lo : Int32} (hE : sf_E ec tc es el ed se to) (hN : sf_N (sf_V es el to ta) (sf_W ec ed se) nc kd sa sb ex1 ex2 pm1 pm2 us hc ts nl it LS SZ) (c2 : NC ≤ 16) (hn : nc < NC) (hc16 : c ≤ 16)
    (h : ∀ it', sf_U it it' (nc * 128) → sf_G it' (nc * 128) (sf_tb (fun i => lo + nI i) c) → post (nI nc) (nI NC, nI EC, nI OC, nI tc, nI ec, nI (nc + 1), xr, xm, xt, xe, to, ta, es, el, ed, sf_su (sf_su se none) none, sx, upd kd nc 1, upd sa nc (sf_o none), upd sb nc (sf_o none), upd ex1 nc (sf_o none), upd ex2 nc (sf_o none), upd pm1 nc lo, upd pm2 nc (nI c), sf_su (sf_su us none) none, upd hc nc (sf_oc hc (sf_oc hc 0 none) none), upd ts nc (nI (1 + sf_oz SZ none + sf_oz SZ none)), upd nl nc (nI c), it')) : wpX_range post (nI NC, nI EC, nI OC, nI tc, nI ec, nI nc, xr, xm, xt, xe, to, ta, es, el, ed, se, sx, kd, sa, sb, ex1, ex2, pm1, pm2, us, hc, ts, nl, it) lo (nI c) := by
  have h16 := hN.1
  have e16 := hE.1
  have n16 : nc < 16 := by omega
  have e0 : upd nl nc (nI 0) = nl := sf_updid (hN.2.2.1 nc (Nat.le_refl nc)).2
  unfold wpX_range
  refine sf_x_room1 c2 hn (br_f (by decide) (br_f (nI_pos (by omega)) (br_t (nI_le (b := 16) hc16 (by decide)) (sf_x_add (SZ := SZ) (a := none) (b := none) (e := none) (f := none) (c := 0) n16 sf_none sf_none sf_none sf_none (Or.inr ⟨by decide, rfl⟩) ⟨c + 1, ?_⟩))))
  rw [← e0]
  exact sf_x_rangeloop n16 hc16 h c 0 it (by omega) sf_U0 sf_G0
theorem sf_x_map {post : Int32 → SX → Prop} {LS : Nat → List Int32} {SZ : Nat → Nat} {s e : Nat} (hE : sf_E ec tc es el ed se to) (hN : sf_N (sf_V es el to ta) (sf_W ec ed se) nc kd sa sb ex1 ex2 pm1 pm2 us hc ts nl it LS SZ) (c2 : NC ≤ 16) (hn : nc < NC) (hs : s < nc) (hu : us s = 0) (he : e < ec) (hd : ed e = 1)
    (h : ∀ sx' it', sf_U it it' (nc * 128) → sf_G it' (nc * 128) (sf_tb (fun i => sf_V es el to ta e ((LS s).getD i 0) 0) (LS s).length) → post (nI nc) (nI NC, nI EC, nI OC, nI tc, nI ec, nI (nc + 1), xr, xm, xt, xe, to, ta, es, el, ed, sf_su (sf_su se (some e)) none, sx', upd kd nc 2, upd sa nc (sf_o (some s)), upd sb nc (sf_o none), upd ex1 nc (sf_o (some e)), upd ex2 nc (sf_o none), upd pm1 nc 0, upd pm2 nc 0, sf_su (sf_su us (some s)) none, upd hc nc (sf_oc hc (sf_oc hc 0 (some s)) none), upd ts nc (nI (1 + sf_oz SZ (some s) + sf_oz SZ none)), upd nl nc (nI (LS s).length), it')) : wpX_map post (nI NC, nI EC, nI OC, nI tc, nI ec, nI nc, xr, xm, xt, xe, to, ta, es, el, ed, se, sx, kd, sa, sb, ex1, ex2, pm1, pm2, us, hc, ts, nl, it) (nI s) (nI e) := by
  have h16 := hN.1
  have e16 := hE.1
  have n16 : nc < 16 := by omega
  have e0 : upd nl nc (nI 0) = nl := sf_updid (hN.2.2.1 nc (Nat.le_refl nc)).2
  have hA : s < nc ∧ ts s = nI (SZ s) ∧ sf_b (hc s) := ⟨hs, (hN.2.1 s hs).2.2.2.2.2.1, (hN.2.1 s hs).2.2.2.2.2.2.2.2.1⟩
  have vs : vp_in (nI s) 16 := vp_in_nI (by omega) (by omega)
  have ls : nl (nI s).toNatClampNeg = nI (LS s).length := by rw [nI_clamp (by omega)]; exact (hN.2.1 s hs).2.1
  have l128 := (hN.2.1 s hs).2.2.1
  have gs := (hN.2.1 s hs).2.2.2.2.1
  unfold wpX_map
  refine sf_x_room1 c2 hn (br_f (by decide) (sf_x_free1 h16 hs hu (br_f (by decide) (sf_x_wf1 e16 he hd (br_f (by decide) (sf_x_add (SZ := SZ) (a := some s) (b := none) (e := some e) (f := none) (c := 0) n16 (sf_some hA) sf_none (sf_some (by omega)) sf_none (Or.inr ⟨by decide, rfl⟩) ⟨vs, nm_r ls ⟨(LS s).length + 1, ?_⟩⟩))))))
  rw [← e0]
  exact sf_x_maploop n16 hs (by omega) (sf_E_wf (ta := ta) hE he hd) l128 gs h (LS s).length 0 sx it (by omega) sf_U0 sf_G0
theorem sf_x_filter {post : Int32 → SX → Prop} {LS : Nat → List Int32} {SZ : Nat → Nat} {s e : Nat} (hE : sf_E ec tc es el ed se to) (hN : sf_N (sf_V es el to ta) (sf_W ec ed se) nc kd sa sb ex1 ex2 pm1 pm2 us hc ts nl it LS SZ) (c2 : NC ≤ 16) (hn : nc < NC) (hs : s < nc) (hu : us s = 0) (he : e < ec) (hd : ed e = 1)
    (h : ∀ sx' it', sf_U it it' (nc * 128) → sf_G it' (nc * 128) (sf_ft (fun x => sf_V es el to ta e x 0) (LS s) (LS s).length) → post (nI nc) (nI NC, nI EC, nI OC, nI tc, nI ec, nI (nc + 1), xr, xm, xt, xe, to, ta, es, el, ed, sf_su (sf_su se (some e)) none, sx', upd kd nc 3, upd sa nc (sf_o (some s)), upd sb nc (sf_o none), upd ex1 nc (sf_o (some e)), upd ex2 nc (sf_o none), upd pm1 nc 0, upd pm2 nc 0, sf_su (sf_su us (some s)) none, upd hc nc (sf_oc hc (sf_oc hc 0 (some s)) none), upd ts nc (nI (1 + sf_oz SZ (some s) + sf_oz SZ none)), upd nl nc (nI (sf_ft (fun x => sf_V es el to ta e x 0) (LS s) (LS s).length).length), it')) : wpX_filter post (nI NC, nI EC, nI OC, nI tc, nI ec, nI nc, xr, xm, xt, xe, to, ta, es, el, ed, se, sx, kd, sa, sb, ex1, ex2, pm1, pm2, us, hc, ts, nl, it) (nI s) (nI e) := by
  have h16 := hN.1
  have e16 := hE.1
  have n16 : nc < 16 := by omega
  have e0 : upd nl nc (nI 0) = nl := sf_updid (hN.2.2.1 nc (Nat.le_refl nc)).2
  have hA : s < nc ∧ ts s = nI (SZ s) ∧ sf_b (hc s) := ⟨hs, (hN.2.1 s hs).2.2.2.2.2.1, (hN.2.1 s hs).2.2.2.2.2.2.2.2.1⟩
  have vs : vp_in (nI s) 16 := vp_in_nI (by omega) (by omega)
  have ls : nl (nI s).toNatClampNeg = nI (LS s).length := by rw [nI_clamp (by omega)]; exact (hN.2.1 s hs).2.1
  have l128 := (hN.2.1 s hs).2.2.1
  have gs := (hN.2.1 s hs).2.2.2.2.1
  unfold wpX_filter
  refine sf_x_room1 c2 hn (br_f (by decide) (sf_x_free1 h16 hs hu (br_f (by decide) (sf_x_wf1 e16 he hd (br_f (by decide) (sf_x_add (SZ := SZ) (a := some s) (b := none) (e := some e) (f := none) (c := 0) n16 (sf_some hA) sf_none (sf_some (by omega)) sf_none (Or.inr ⟨by decide, rfl⟩) ⟨vs, nm_r ls ⟨(LS s).length + 1, ?_⟩⟩))))))
  rw [← e0]
  exact sf_x_filterloop n16 hs (by omega) (sf_E_wf (ta := ta) hE he hd) l128 gs h (LS s).length 0 sx it (by omega) sf_U0 sf_G0
theorem sf_x_scan {post : Int32 → SX → Prop} {LS : Nat → List Int32} {SZ : Nat → Nat} {s e : Nat} {a : Int32} (hE : sf_E ec tc es el ed se to) (hN : sf_N (sf_V es el to ta) (sf_W ec ed se) nc kd sa sb ex1 ex2 pm1 pm2 us hc ts nl it LS SZ) (c2 : NC ≤ 16) (hn : nc < NC) (hs : s < nc) (hu : us s = 0) (he : e < ec) (hd : ed e = 1)
    (h : ∀ sx' it', sf_U it it' (nc * 128) → sf_G it' (nc * 128) (sf_tb (fun i => sf_ac (sf_V es el to ta e) a (LS s) (i + 1)) (LS s).length) → post (nI nc) (nI NC, nI EC, nI OC, nI tc, nI ec, nI (nc + 1), xr, xm, xt, xe, to, ta, es, el, ed, sf_su (sf_su se (some e)) none, sx', upd kd nc 4, upd sa nc (sf_o (some s)), upd sb nc (sf_o none), upd ex1 nc (sf_o (some e)), upd ex2 nc (sf_o none), upd pm1 nc a, upd pm2 nc 0, sf_su (sf_su us (some s)) none, upd hc nc (sf_oc hc (sf_oc hc 0 (some s)) none), upd ts nc (nI (1 + sf_oz SZ (some s) + sf_oz SZ none)), upd nl nc (nI (LS s).length), it')) : wpX_scan post (nI NC, nI EC, nI OC, nI tc, nI ec, nI nc, xr, xm, xt, xe, to, ta, es, el, ed, se, sx, kd, sa, sb, ex1, ex2, pm1, pm2, us, hc, ts, nl, it) (nI s) a (nI e) := by
  have h16 := hN.1
  have e16 := hE.1
  have n16 : nc < 16 := by omega
  have e0 : upd nl nc (nI 0) = nl := sf_updid (hN.2.2.1 nc (Nat.le_refl nc)).2
  have hA : s < nc ∧ ts s = nI (SZ s) ∧ sf_b (hc s) := ⟨hs, (hN.2.1 s hs).2.2.2.2.2.1, (hN.2.1 s hs).2.2.2.2.2.2.2.2.1⟩
  have vs : vp_in (nI s) 16 := vp_in_nI (by omega) (by omega)
  have ls : nl (nI s).toNatClampNeg = nI (LS s).length := by rw [nI_clamp (by omega)]; exact (hN.2.1 s hs).2.1
  have l128 := (hN.2.1 s hs).2.2.1
  have gs := (hN.2.1 s hs).2.2.2.2.1
  unfold wpX_scan
  refine sf_x_room1 c2 hn (br_f (by decide) (sf_x_free1 h16 hs hu (br_f (by decide) (sf_x_wf1 e16 he hd (br_f (by decide) (sf_x_add (SZ := SZ) (a := some s) (b := none) (e := some e) (f := none) (c := 0) n16 (sf_some hA) sf_none (sf_some (by omega)) sf_none (Or.inr ⟨by decide, rfl⟩) ⟨vs, nm_r ls ⟨(LS s).length + 1, ?_⟩⟩))))))
  rw [← e0]
  exact sf_x_scanloop n16 hs (by omega) (sf_E_wf (ta := ta) hE he hd) l128 gs h (LS s).length 0 sx it (by omega) sf_U0 sf_G0
theorem sf_x_take {post : Int32 → SX → Prop} {LS : Nat → List Int32} {SZ : Nat → Nat} {s m : Nat} (hE : sf_E ec tc es el ed se to) (hN : sf_N (sf_V es el to ta) (sf_W ec ed se) nc kd sa sb ex1 ex2 pm1 pm2 us hc ts nl it LS SZ) (c2 : NC ≤ 16) (hn : nc < NC) (hs : s < nc) (hu : us s = 0) (hm : m < 2 ^ 31)
    (h : ∀ it', sf_U it it' (nc * 128) → sf_G it' (nc * 128) (sf_tb (fun i => (LS s).getD (0 + i) 0) (sf_mn m (LS s).length)) → post (nI nc) (nI NC, nI EC, nI OC, nI tc, nI ec, nI (nc + 1), xr, xm, xt, xe, to, ta, es, el, ed, sf_su (sf_su se none) none, sx, upd kd nc 6, upd sa nc (sf_o (some s)), upd sb nc (sf_o none), upd ex1 nc (sf_o none), upd ex2 nc (sf_o none), upd pm1 nc (nI m), upd pm2 nc 0, sf_su (sf_su us (some s)) none, upd hc nc (sf_oc hc (sf_oc hc 0 (some s)) none), upd ts nc (nI (1 + sf_oz SZ (some s) + sf_oz SZ none)), upd nl nc (nI (sf_mn m (LS s).length)), it')) : wpX_take post (nI NC, nI EC, nI OC, nI tc, nI ec, nI nc, xr, xm, xt, xe, to, ta, es, el, ed, se, sx, kd, sa, sb, ex1, ex2, pm1, pm2, us, hc, ts, nl, it) (nI s) (nI m) := by
  have h16 := hN.1
  have e16 := hE.1
  have n16 : nc < 16 := by omega
  have e0 : upd nl nc (nI 0) = nl := sf_updid (hN.2.2.1 nc (Nat.le_refl nc)).2
  have hA : s < nc ∧ ts s = nI (SZ s) ∧ sf_b (hc s) := ⟨hs, (hN.2.1 s hs).2.2.2.2.2.1, (hN.2.1 s hs).2.2.2.2.2.2.2.2.1⟩
  have vs : vp_in (nI s) 16 := vp_in_nI (by omega) (by omega)
  have ls : nl (nI s).toNatClampNeg = nI (LS s).length := by rw [nI_clamp (by omega)]; exact (hN.2.1 s hs).2.1
  have l128 := (hN.2.1 s hs).2.2.1
  have gs := (hN.2.1 s hs).2.2.2.2.1
  have z0 := (hN.2.2.1 nc (Nat.le_refl nc)).2
  have mn := sf_mn_l m (LS s).length
  unfold wpX_take
  exact sf_x_room1 c2 hn (br_f (by decide) (sf_x_free1 h16 hs hu (br_f (by decide) (br_t (nI_pos' hm) (sf_x_add (SZ := SZ) (a := some s) (b := none) (e := none) (f := none) (c := 0) n16 (sf_some hA) sf_none sf_none sf_none (Or.inr ⟨by decide, rfl⟩) ⟨vs, sf_x_min2 rfl ls (by omega) (by omega) (sf_x_copy (fr := 0) (c := sf_mn m (LS s).length) rfl (by rw [Nat.zero_add]) n16 hs l128 gs (by omega) z0 h)⟩)))))
theorem sf_x_drop {post : Int32 → SX → Prop} {LS : Nat → List Int32} {SZ : Nat → Nat} {s m : Nat} (hE : sf_E ec tc es el ed se to) (hN : sf_N (sf_V es el to ta) (sf_W ec ed se) nc kd sa sb ex1 ex2 pm1 pm2 us hc ts nl it LS SZ) (c2 : NC ≤ 16) (hn : nc < NC) (hs : s < nc) (hu : us s = 0) (hm : m < 2 ^ 31)
    (h : ∀ it', sf_U it it' (nc * 128) → sf_G it' (nc * 128) (sf_tb (fun i => (LS s).getD (sf_mn m (LS s).length + i) 0) ((LS s).length - sf_mn m (LS s).length)) → post (nI nc) (nI NC, nI EC, nI OC, nI tc, nI ec, nI (nc + 1), xr, xm, xt, xe, to, ta, es, el, ed, sf_su (sf_su se none) none, sx, upd kd nc 7, upd sa nc (sf_o (some s)), upd sb nc (sf_o none), upd ex1 nc (sf_o none), upd ex2 nc (sf_o none), upd pm1 nc (nI m), upd pm2 nc 0, sf_su (sf_su us (some s)) none, upd hc nc (sf_oc hc (sf_oc hc 0 (some s)) none), upd ts nc (nI (1 + sf_oz SZ (some s) + sf_oz SZ none)), upd nl nc (nI ((LS s).length - sf_mn m (LS s).length)), it')) : wpX_drop post (nI NC, nI EC, nI OC, nI tc, nI ec, nI nc, xr, xm, xt, xe, to, ta, es, el, ed, se, sx, kd, sa, sb, ex1, ex2, pm1, pm2, us, hc, ts, nl, it) (nI s) (nI m) := by
  have h16 := hN.1
  have e16 := hE.1
  have n16 : nc < 16 := by omega
  have e0 : upd nl nc (nI 0) = nl := sf_updid (hN.2.2.1 nc (Nat.le_refl nc)).2
  have hA : s < nc ∧ ts s = nI (SZ s) ∧ sf_b (hc s) := ⟨hs, (hN.2.1 s hs).2.2.2.2.2.1, (hN.2.1 s hs).2.2.2.2.2.2.2.2.1⟩
  have vs : vp_in (nI s) 16 := vp_in_nI (by omega) (by omega)
  have ls : nl (nI s).toNatClampNeg = nI (LS s).length := by rw [nI_clamp (by omega)]; exact (hN.2.1 s hs).2.1
  have l128 := (hN.2.1 s hs).2.2.1
  have gs := (hN.2.1 s hs).2.2.2.2.1
  have z0 := (hN.2.2.1 nc (Nat.le_refl nc)).2
  have mn := sf_mn_l m (LS s).length
  unfold wpX_drop
  exact sf_x_room1 c2 hn (br_f (by decide) (sf_x_free1 h16 hs hu (br_f (by decide) (br_t (nI_pos' hm) (sf_x_add (SZ := SZ) (a := some s) (b := none) (e := none) (f := none) (c := 0) n16 (sf_some hA) sf_none sf_none sf_none (Or.inr ⟨by decide, rfl⟩) ⟨vs, nm_r ls (sf_x_min2 rfl rfl (by omega) (by omega) (sf_x_copy (fr := sf_mn m (LS s).length) (c := (LS s).length - sf_mn m (LS s).length) rfl (congrArg nI (by omega)) n16 hs l128 gs (by omega) z0 h))⟩)))))
theorem sf_x_concatMap {post : Int32 → SX → Prop} {LS : Nat → List Int32} {SZ : Nat → Nat} {s e f : Nat} (hE : sf_E ec tc es el ed se to) (hN : sf_N (sf_V es el to ta) (sf_W ec ed se) nc kd sa sb ex1 ex2 pm1 pm2 us hc ts nl it LS SZ) (c2 : NC ≤ 16) (hn : nc < NC) (hs : s < nc) (hu : us s = 0) (hc0 : hc s = 0) (he : e < ec) (hd : ed e = 1) (hf : f < ec) (hdf : ed f = 1)
    (h : ∀ sx' it', sf_U it it' (nc * 128) → sf_G it' (nc * 128) (sf_cm (fun x => sf_V es el to ta e x 0) (sf_V es el to ta f) (LS s) (LS s).length) → post (nI nc) (nI NC, nI EC, nI OC, nI tc, nI ec, nI (nc + 1), xr, xm, xt, xe, to, ta, es, el, ed, sf_su (sf_su se (some e)) (some f), sx', upd kd nc 8, upd sa nc (sf_o (some s)), upd sb nc (sf_o none), upd ex1 nc (sf_o (some e)), upd ex2 nc (sf_o (some f)), upd pm1 nc 0, upd pm2 nc 0, sf_su (sf_su us (some s)) none, upd hc nc (sf_oc hc (sf_oc hc 1 (some s)) none), upd ts nc (nI (1 + sf_oz SZ (some s) + sf_oz SZ none)), upd nl nc (nI (sf_cm (fun x => sf_V es el to ta e x 0) (sf_V es el to ta f) (LS s) (LS s).length).length), it')) : wpX_concatMap post (nI NC, nI EC, nI OC, nI tc, nI ec, nI nc, xr, xm, xt, xe, to, ta, es, el, ed, se, sx, kd, sa, sb, ex1, ex2, pm1, pm2, us, hc, ts, nl, it) (nI s) (nI e) (nI f) := by
  have h16 := hN.1
  have e16 := hE.1
  have n16 : nc < 16 := by omega
  have e0 : upd nl nc (nI 0) = nl := sf_updid (hN.2.2.1 nc (Nat.le_refl nc)).2
  have hA : s < nc ∧ ts s = nI (SZ s) ∧ sf_b (hc s) := ⟨hs, (hN.2.1 s hs).2.2.2.2.2.1, (hN.2.1 s hs).2.2.2.2.2.2.2.2.1⟩
  have vs : vp_in (nI s) 16 := vp_in_nI (by omega) (by omega)
  have ls : nl (nI s).toNatClampNeg = nI (LS s).length := by rw [nI_clamp (by omega)]; exact (hN.2.1 s hs).2.1
  have l128 := (hN.2.1 s hs).2.2.1
  have gs := (hN.2.1 s hs).2.2.2.2.1
  have l16 := (hN.2.1 s hs).2.2.2.1 hc0
  unfold wpX_concatMap
  refine sf_x_room1 c2 hn (br_f (by decide) (sf_x_free1 h16 hs hu (br_f (by decide) (sf_x_wf1 e16 he hd (br_f (by decide) (sf_x_wf1 e16 hf hdf (br_f (by decide) ⟨vs, br_t (by rw [nI_clamp (by omega)]; exact hc0) (sf_x_add (SZ := SZ) (a := some s) (b := none) (e := some e) (f := some f) (c := 1) n16 (sf_some hA) sf_none (sf_some (by omega)) (sf_some (by omega)) (Or.inl ⟨by decide, rfl⟩) ⟨vs, nm_r ls ⟨(LS s).length + 1, ?_⟩⟩)⟩)))))))
  rw [← e0]
  exact sf_x_cmloop n16 hs (by omega) (by omega) (sf_E_wf (ta := ta) hE he hd) (sf_E_wf (ta := ta) hE hf hdf) l16 gs h (LS s).length 0 sx it (by omega) sf_U0 sf_G0
theorem sf_x_zip {post : Int32 → SX → Prop} {LS : Nat → List Int32} {SZ : Nat → Nat} {s t e : Nat} (hE : sf_E ec tc es el ed se to) (hN : sf_N (sf_V es el to ta) (sf_W ec ed se) nc kd sa sb ex1 ex2 pm1 pm2 us hc ts nl it LS SZ) (c2 : NC ≤ 16) (hn : nc < NC) (hs : s < nc) (hu : us s = 0) (ht : t < nc) (hut : us t = 0) (hst : s ≠ t) (he : e < ec) (hd : ed e = 1)
    (h : ∀ sx' it', sf_U it it' (nc * 128) → sf_G it' (nc * 128) (sf_tb (fun i => sf_V es el to ta e ((LS s).getD i 0) ((LS t).getD i 0)) (sf_mn (LS s).length (LS t).length)) → post (nI nc) (nI NC, nI EC, nI OC, nI tc, nI ec, nI (nc + 1), xr, xm, xt, xe, to, ta, es, el, ed, sf_su (sf_su se (some e)) none, sx', upd kd nc 5, upd sa nc (sf_o (some s)), upd sb nc (sf_o (some t)), upd ex1 nc (sf_o (some e)), upd ex2 nc (sf_o none), upd pm1 nc 0, upd pm2 nc 0, sf_su (sf_su us (some s)) (some t), upd hc nc (sf_oc hc (sf_oc hc 0 (some s)) (some t)), upd ts nc (nI (1 + sf_oz SZ (some s) + sf_oz SZ (some t))), upd nl nc (nI (sf_mn (LS s).length (LS t).length)), it')) : wpX_zip post (nI NC, nI EC, nI OC, nI tc, nI ec, nI nc, xr, xm, xt, xe, to, ta, es, el, ed, se, sx, kd, sa, sb, ex1, ex2, pm1, pm2, us, hc, ts, nl, it) (nI s) (nI t) (nI e) := by
  have h16 := hN.1
  have e16 := hE.1
  have n16 : nc < 16 := by omega
  have e0 : upd nl nc (nI 0) = nl := sf_updid (hN.2.2.1 nc (Nat.le_refl nc)).2
  have hA : s < nc ∧ ts s = nI (SZ s) ∧ sf_b (hc s) := ⟨hs, (hN.2.1 s hs).2.2.2.2.2.1, (hN.2.1 s hs).2.2.2.2.2.2.2.2.1⟩
  have vs : vp_in (nI s) 16 := vp_in_nI (by omega) (by omega)
  have ls : nl (nI s).toNatClampNeg = nI (LS s).length := by rw [nI_clamp (by omega)]; exact (hN.2.1 s hs).2.1
  have l128 := (hN.2.1 s hs).2.2.1
  have gs := (hN.2.1 s hs).2.2.2.2.1
  have hA2 : t < nc ∧ ts t = nI (SZ t) ∧ sf_b (hc t) := ⟨ht, (hN.2.1 t ht).2.2.2.2.2.1, (hN.2.1 t ht).2.2.2.2.2.2.2.2.1⟩
  have vt : vp_in (nI t) 16 := vp_in_nI (by omega) (by omega)
  have lt : nl (nI t).toNatClampNeg = nI (LS t).length := by rw [nI_clamp (by omega)]; exact (hN.2.1 t ht).2.1
  have m128 := (hN.2.1 t ht).2.2.1
  have gt := (hN.2.1 t ht).2.2.2.2.1
  have mn := sf_mn_l (LS s).length (LS t).length
  unfold wpX_zip
  refine sf_x_room1 c2 hn (br_f (by decide) (sf_x_free1 h16 hs hu (br_f (by decide) (sf_x_free1 h16 ht hut (br_f (by decide) (br_f (fun w => hst (sf_im w (by omega) (by omega))) (sf_x_wf1 e16 he hd (br_f (by decide) (sf_x_add (SZ := SZ) (a := some s) (b := some t) (e := some e) (f := none) (c := 0) n16 (sf_some hA) (sf_some hA2) (sf_some (by omega)) sf_none (Or.inr ⟨by decide, rfl⟩) ⟨vs, vt, sf_x_min2 ls lt (by omega) (by omega) ⟨sf_mn (LS s).length (LS t).length + 1, ?_⟩⟩)))))))))
  rw [← e0]
  exact sf_x_ziploop n16 hs ht (by omega) (sf_E_wf (ta := ta) hE he hd) l128 m128 gs gt mn.1 mn.2 h (sf_mn (LS s).length (LS t).length) 0 sx it (by omega) sf_U0 sf_G0
end
end
section
section
variable {NC EC OC tc ec nc : Nat} {xr xm xt xe wc wm ac en ro mo tt : Int32} {to ta es el ed se sx kd sa sb ex1 ex2 pm1 pm2 us hc ts nl it ys yw yv yl : Nat → Int32}
theorem sf_k1 {SZ : Nat → Nat} {s : Nat} (hs : s < nc) : sf_gu SZ nc (1 + sf_oz SZ (some s) + sf_oz SZ none) nc = sf_gu SZ nc (1 + sf_oz SZ (some s) + sf_oz SZ none) s + 1 := by
  rw [sf_gus, sf_gun (by omega)]
  show 1 + SZ s + 0 = SZ s + 1
  omega
theorem sf_k2 {s : Nat} (hs : s < nc) : upd hc nc (sf_oc hc (sf_oc hc 0 (some s)) none) nc = upd hc nc (sf_oc hc (sf_oc hc 0 (some s)) none) s := by
  rw [pk_us, pk_un (by omega)]
  exact Int32.zero_or
theorem sf_k3 {s : Nat} (h : sf_oc hc (sf_oc hc 0 (some s)) none = 0) : hc s = 0 := by
  have h' : (0 ||| hc s) = 0 := h
  rw [Int32.zero_or] at h'
  exact h'
theorem sf_nab {a : Option Nat} : ∀ s, a = some s → (none : Option Nat) ≠ some s := fun _ _ e => by cases e
theorem i_vc_map {k : Nat} {u : SX} {v : SY} (I : i_Rel k u v) (hk : k + 4 ≤ 2051) (v1 : Int32) (v2 : Int32) : wpX_map (fun r u' => wpY_map (fun r' v' => r' = r ∧ i_Rel (k + 4) u' v') v v1 v2) u v1 v2 := by
  have I0 := i_up I
  obtain ⟨NC, EC, OC, tc, ec, nc, xr, xm, xt, xe, to, ta, es, el, ed, se, sx, kd, sa, sb, ex1, ex2, pm1, pm2, us, hc, ts, nl, it, wc, wm, ac, en, ro, mo, tt, ys, yw, yv, yl, rfl, rfl, I⟩ := I
  obtain ⟨c1, c2, c3, c4, c5, c6, c7, hE, LS, SZ, hN, hR⟩ := I
  have h16 := hN.1
  have e16 := hE.1
  have u0 := (hN.2.2.1 nc (Nat.le_refl nc)).1
  by_cases h0 : nc < NC
  · have nr : ¬ nI NC ≤ nI nc := nI_ge h0 (by omega)
    by_cases h1 : sf_isf nc us v1
    · obtain ⟨s, hs, rfl, hu⟩ := h1
      by_cases h2 : sf_isw ec ed v2
      · obtain ⟨e, he, rfl, hd⟩ := h2
        have hbs := (hN.2.1 s hs).2.2.2.2.2.2.2.2.1
        have l128 := (hN.2.1 s hs).2.2.1
        have l16 := (hN.2.1 s hs).2.2.2.1
        refine sf_x_map hE hN c2 h0 hs hu he hd (fun sx' it' hU hG => ?_)
        refine br_f nr (sf_y_bad0 h16 hs hu (br_t rfl (sf_y_wf1 hE he hd (br_f (by decide) (sf_y_add (a := some s) (b := none) (e := some e) (f := none) (by omega) u0 (sf_some (by omega)) sf_none (sf_some (by omega)) sf_none ⟨rfl, ?_⟩)))))
        have I1 := sf_I_ad (a := (some s)) (b := none) (e := (some e)) (f := none) (k := 2) (p := 0) (q := 0) (it' := it') (L := (sf_tb (fun i => sf_V es el to ta e ((LS s).getD i 0) 0) (LS s).length)) (z := 1 + sf_oz SZ (some s) + sf_oz SZ none) (c := sf_oc hc (sf_oc hc 0 (some s)) none) c1 c2 c3 c4 c5 c7 hE hN hR h0 (sf_some ⟨hs, hu⟩) sf_none sf_nab (sf_some he) sf_none (Or.inr (Or.inl ⟨s, e, hs, rfl, rfl, sf_k1 hs, sf_k2 hs, ⟨he, sf_su_k sf_su_1, hd⟩, rfl, (Or.inl ⟨rfl, by rw [sf_gus, sf_gun (by omega)]⟩)⟩)) (by rw [sf_tb_len]; exact l128) (fun z => by rw [sf_tb_len]; exact l16 (sf_k3 z)) (sf_oc_b (sf_oc_b sf_b0 (sf_some hbs)) sf_none) hU hG rfl
        rw [sf_tb_len] at I1
        exact sf_mk I1
      · unfold wpX_map
        exact sf_x_room1 c2 h0 (br_f (by decide) (sf_x_free1 h16 hs hu (br_f (by decide) (sf_x_wf0 e16 h2 (br_t rfl (br_f nr (sf_y_bad0 h16 hs hu (br_t rfl (sf_y_wf0 e16 h2 (br_t rfl ⟨rfl, I0⟩))))))))))
    · unfold wpX_map
      exact sf_x_room1 c2 h0 (br_f (by decide) (sf_x_free0 h16 h1 (br_t rfl (br_f nr (sf_y_bad1 h16 h1 (br_f (by decide) ⟨rfl, I0⟩))))))
  · unfold wpX_map
    exact sf_x_room0 h16 h0 (br_t rfl (br_t (nI_le (by omega) (by omega)) ⟨rfl, I0⟩))
theorem i_vc_filter {k : Nat} {u : SX} {v : SY} (I : i_Rel k u v) (hk : k + 4 ≤ 2051) (v1 : Int32) (v2 : Int32) : wpX_filter (fun r u' => wpY_filter (fun r' v' => r' = r ∧ i_Rel (k + 4) u' v') v v1 v2) u v1 v2 := by
  have I0 := i_up I
  obtain ⟨NC, EC, OC, tc, ec, nc, xr, xm, xt, xe, to, ta, es, el, ed, se, sx, kd, sa, sb, ex1, ex2, pm1, pm2, us, hc, ts, nl, it, wc, wm, ac, en, ro, mo, tt, ys, yw, yv, yl, rfl, rfl, I⟩ := I
  obtain ⟨c1, c2, c3, c4, c5, c6, c7, hE, LS, SZ, hN, hR⟩ := I
  have h16 := hN.1
  have e16 := hE.1
  have u0 := (hN.2.2.1 nc (Nat.le_refl nc)).1
  by_cases h0 : nc < NC
  · have nr : ¬ nI NC ≤ nI nc := nI_ge h0 (by omega)
    by_cases h1 : sf_isf nc us v1
    · obtain ⟨s, hs, rfl, hu⟩ := h1
      by_cases h2 : sf_isw ec ed v2
      · obtain ⟨e, he, rfl, hd⟩ := h2
        have hbs := (hN.2.1 s hs).2.2.2.2.2.2.2.2.1
        have l128 := (hN.2.1 s hs).2.2.1
        have l16 := (hN.2.1 s hs).2.2.2.1
        refine sf_x_filter hE hN c2 h0 hs hu he hd (fun sx' it' hU hG => ?_)
        refine br_f nr (sf_y_bad0 h16 hs hu (br_t rfl (sf_y_wf1 hE he hd (br_f (by decide) (sf_y_add (a := some s) (b := none) (e := some e) (f := none) (by omega) u0 (sf_some (by omega)) sf_none (sf_some (by omega)) sf_none ⟨rfl, ?_⟩)))))
        have I1 := sf_I_ad (a := (some s)) (b := none) (e := (some e)) (f := none) (k := 3) (p := 0) (q := 0) (it' := it') (L := (sf_ft (fun x => sf_V es el to ta e x 0) (LS s) (LS s).length)) (z := 1 + sf_oz SZ (some s) + sf_oz SZ none) (c := sf_oc hc (sf_oc hc 0 (some s)) none) c1 c2 c3 c4 c5 c7 hE hN hR h0 (sf_some ⟨hs, hu⟩) sf_none sf_nab (sf_some he) sf_none (Or.inr (Or.inl ⟨s, e, hs, rfl, rfl, sf_k1 hs, sf_k2 hs, ⟨he, sf_su_k sf_su_1, hd⟩, rfl, (Or.inr (Or.inl ⟨rfl, by rw [sf_gus, sf_gun (by omega)]⟩))⟩)) (Nat.le_trans (sf_ft_len _ _ _) l128) (fun z => Nat.le_trans (sf_ft_len _ _ _) (l16 (sf_k3 z))) (sf_oc_b (sf_oc_b sf_b0 (sf_some hbs)) sf_none) hU hG rfl
        exact sf_mk I1
      · unfold wpX_filter
        exact sf_x_room1 c2 h0 (br_f (by decide) (sf_x_free1 h16 hs hu (br_f (by decide) (sf_x_wf0 e16 h2 (br_t rfl (br_f nr (sf_y_bad0 h16 hs hu (br_t rfl (sf_y_wf0 e16 h2 (br_t rfl ⟨rfl, I0⟩))))))))))
    · unfold wpX_filter
      exact sf_x_room1 c2 h0 (br_f (by decide) (sf_x_free0 h16 h1 (br_t rfl (br_f nr (sf_y_bad1 h16 h1 (br_f (by decide) ⟨rfl, I0⟩))))))
  · unfold wpX_filter
    exact sf_x_room0 h16 h0 (br_t rfl (br_t (nI_le (by omega) (by omega)) ⟨rfl, I0⟩))
theorem i_vc_scan {k : Nat} {u : SX} {v : SY} (I : i_Rel k u v) (hk : k + 4 ≤ 2051) (v1 : Int32) (v2 : Int32) (v3 : Int32) : wpX_scan (fun r u' => wpY_scan (fun r' v' => r' = r ∧ i_Rel (k + 4) u' v') v v1 v2 v3) u v1 v2 v3 := by
  have I0 := i_up I
  obtain ⟨NC, EC, OC, tc, ec, nc, xr, xm, xt, xe, to, ta, es, el, ed, se, sx, kd, sa, sb, ex1, ex2, pm1, pm2, us, hc, ts, nl, it, wc, wm, ac, en, ro, mo, tt, ys, yw, yv, yl, rfl, rfl, I⟩ := I
  obtain ⟨c1, c2, c3, c4, c5, c6, c7, hE, LS, SZ, hN, hR⟩ := I
  have h16 := hN.1
  have e16 := hE.1
  have u0 := (hN.2.2.1 nc (Nat.le_refl nc)).1
  by_cases h0 : nc < NC
  · have nr : ¬ nI NC ≤ nI nc := nI_ge h0 (by omega)
    by_cases h1 : sf_isf nc us v1
    · obtain ⟨s, hs, rfl, hu⟩ := h1
      by_cases h2 : sf_isw ec ed v3
      · obtain ⟨e, he, rfl, hd⟩ := h2
        have hbs := (hN.2.1 s hs).2.2.2.2.2.2.2.2.1
        have l128 := (hN.2.1 s hs).2.2.1
        have l16 := (hN.2.1 s hs).2.2.2.1
        refine sf_x_scan hE hN c2 h0 hs hu he hd (fun sx' it' hU hG => ?_)
        refine br_f nr (sf_y_bad0 h16 hs hu (br_t rfl (sf_y_wf1 hE he hd (br_f (by decide) (sf_y_add (a := some s) (b := none) (e := some e) (f := none) (by omega) u0 (sf_some (by omega)) sf_none (sf_some (by omega)) sf_none ⟨rfl, ?_⟩)))))
        have I1 := sf_I_ad (a := (some s)) (b := none) (e := (some e)) (f := none) (k := 4) (p := v2) (q := 0) (it' := it') (L := (sf_tb (fun i => sf_ac (sf_V es el to ta e) v2 (LS s) (i + 1)) (LS s).length)) (z := 1 + sf_oz SZ (some s) + sf_oz SZ none) (c := sf_oc hc (sf_oc hc 0 (some s)) none) c1 c2 c3 c4 c5 c7 hE hN hR h0 (sf_some ⟨hs, hu⟩) sf_none sf_nab (sf_some he) sf_none (Or.inr (Or.inl ⟨s, e, hs, rfl, rfl, sf_k1 hs, sf_k2 hs, ⟨he, sf_su_k sf_su_1, hd⟩, rfl, (Or.inr (Or.inr ⟨rfl, by rw [sf_gus, sf_gun (by omega)]⟩))⟩)) (by rw [sf_tb_len]; exact l128) (fun z => by rw [sf_tb_len]; exact l16 (sf_k3 z)) (sf_oc_b (sf_oc_b sf_b0 (sf_some hbs)) sf_none) hU hG rfl
        rw [sf_tb_len] at I1
        exact sf_mk I1
      · unfold wpX_scan
        exact sf_x_room1 c2 h0 (br_f (by decide) (sf_x_free1 h16 hs hu (br_f (by decide) (sf_x_wf0 e16 h2 (br_t rfl (br_f nr (sf_y_bad0 h16 hs hu (br_t rfl (sf_y_wf0 e16 h2 (br_t rfl ⟨rfl, I0⟩))))))))))
    · unfold wpX_scan
      exact sf_x_room1 c2 h0 (br_f (by decide) (sf_x_free0 h16 h1 (br_t rfl (br_f nr (sf_y_bad1 h16 h1 (br_f (by decide) ⟨rfl, I0⟩))))))
  · unfold wpX_scan
    exact sf_x_room0 h16 h0 (br_t rfl (br_t (nI_le (by omega) (by omega)) ⟨rfl, I0⟩))
theorem i_vc_take {k : Nat} {u : SX} {v : SY} (I : i_Rel k u v) (hk : k + 4 ≤ 2051) (v1 : Int32) (v2 : Int32) : wpX_take (fun r u' => wpY_take (fun r' v' => r' = r ∧ i_Rel (k + 4) u' v') v v1 v2) u v1 v2 := by
  have I0 := i_up I
  obtain ⟨NC, EC, OC, tc, ec, nc, xr, xm, xt, xe, to, ta, es, el, ed, se, sx, kd, sa, sb, ex1, ex2, pm1, pm2, us, hc, ts, nl, it, wc, wm, ac, en, ro, mo, tt, ys, yw, yv, yl, rfl, rfl, I⟩ := I
  obtain ⟨c1, c2, c3, c4, c5, c6, c7, hE, LS, SZ, hN, hR⟩ := I
  have h16 := hN.1
  have e16 := hE.1
  have u0 := (hN.2.2.1 nc (Nat.le_refl nc)).1
  by_cases h0 : nc < NC
  · have nr : ¬ nI NC ≤ nI nc := nI_ge h0 (by omega)
    by_cases h1 : sf_isf nc us v1
    · obtain ⟨s, hs, rfl, hu⟩ := h1
      by_cases h2 : v2 < 0
      · unfold wpX_take
        exact sf_x_room1 c2 h0 (br_f (by decide) (sf_x_free1 h16 hs hu (br_f (by decide) (br_f (Int32.not_le.mpr h2) (br_f nr (sf_y_bad0 h16 hs hu (br_t rfl (br_f (Int32.not_le.mpr h2) ⟨rfl, I0⟩))))))))
      · obtain ⟨m, hm, rfl⟩ := nI_of h2
        have hbs := (hN.2.1 s hs).2.2.2.2.2.2.2.2.1
        have l128 := (hN.2.1 s hs).2.2.1
        have l16 := (hN.2.1 s hs).2.2.2.1
        have mn := sf_mn_l m (LS s).length
        refine sf_x_take hE hN c2 h0 hs hu hm (fun it' hU hG => ?_)
        refine br_f nr (sf_y_bad0 h16 hs hu (br_t rfl (br_t (nI_pos' hm) (sf_y_add (a := some s) (b := none) (e := none) (f := none) (by omega) u0 (sf_some (by omega)) sf_none sf_none sf_none ⟨rfl, ?_⟩))))
        have I1 := sf_I_ad (a := (some s)) (b := none) (e := none) (f := none) (k := 6) (p := (nI m)) (q := 0) (it' := it') (L := (sf_tb (fun i => (LS s).getD (0 + i) 0) (sf_mn m (LS s).length))) (z := 1 + sf_oz SZ (some s) + sf_oz SZ none) (c := sf_oc hc (sf_oc hc 0 (some s)) none) c1 c2 c3 c4 c5 c7 hE hN hR h0 (sf_some ⟨hs, hu⟩) sf_none sf_nab sf_none sf_none (Or.inr (Or.inr (Or.inl ⟨s, m, hs, rfl, rfl, sf_k1 hs, sf_k2 hs, hm, rfl, Or.inl ⟨rfl, by rw [sf_gus, sf_gun (by omega)]⟩⟩))) (by rw [sf_tb_len]; omega) (fun z => by rw [sf_tb_len]; have := l16 (sf_k3 z); omega) (sf_oc_b (sf_oc_b sf_b0 (sf_some hbs)) sf_none) hU hG rfl
        rw [sf_tb_len] at I1
        exact sf_mk I1
    · unfold wpX_take
      exact sf_x_room1 c2 h0 (br_f (by decide) (sf_x_free0 h16 h1 (br_t rfl (br_f nr (sf_y_bad1 h16 h1 (br_f (by decide) ⟨rfl, I0⟩))))))
  · unfold wpX_take
    exact sf_x_room0 h16 h0 (br_t rfl (br_t (nI_le (by omega) (by omega)) ⟨rfl, I0⟩))
theorem i_vc_drop {k : Nat} {u : SX} {v : SY} (I : i_Rel k u v) (hk : k + 4 ≤ 2051) (v1 : Int32) (v2 : Int32) : wpX_drop (fun r u' => wpY_drop (fun r' v' => r' = r ∧ i_Rel (k + 4) u' v') v v1 v2) u v1 v2 := by
  have I0 := i_up I
  obtain ⟨NC, EC, OC, tc, ec, nc, xr, xm, xt, xe, to, ta, es, el, ed, se, sx, kd, sa, sb, ex1, ex2, pm1, pm2, us, hc, ts, nl, it, wc, wm, ac, en, ro, mo, tt, ys, yw, yv, yl, rfl, rfl, I⟩ := I
  obtain ⟨c1, c2, c3, c4, c5, c6, c7, hE, LS, SZ, hN, hR⟩ := I
  have h16 := hN.1
  have e16 := hE.1
  have u0 := (hN.2.2.1 nc (Nat.le_refl nc)).1
  by_cases h0 : nc < NC
  · have nr : ¬ nI NC ≤ nI nc := nI_ge h0 (by omega)
    by_cases h1 : sf_isf nc us v1
    · obtain ⟨s, hs, rfl, hu⟩ := h1
      by_cases h2 : v2 < 0
      · unfold wpX_drop
        exact sf_x_room1 c2 h0 (br_f (by decide) (sf_x_free1 h16 hs hu (br_f (by decide) (br_f (Int32.not_le.mpr h2) (br_f nr (sf_y_bad0 h16 hs hu (br_t rfl (br_f (Int32.not_le.mpr h2) ⟨rfl, I0⟩))))))))
      · obtain ⟨m, hm, rfl⟩ := nI_of h2
        have hbs := (hN.2.1 s hs).2.2.2.2.2.2.2.2.1
        have l128 := (hN.2.1 s hs).2.2.1
        have l16 := (hN.2.1 s hs).2.2.2.1
        have mn := sf_mn_l m (LS s).length
        refine sf_x_drop hE hN c2 h0 hs hu hm (fun it' hU hG => ?_)
        refine br_f nr (sf_y_bad0 h16 hs hu (br_t rfl (br_t (nI_pos' hm) (sf_y_add (a := some s) (b := none) (e := none) (f := none) (by omega) u0 (sf_some (by omega)) sf_none sf_none sf_none ⟨rfl, ?_⟩))))
        have I1 := sf_I_ad (a := (some s)) (b := none) (e := none) (f := none) (k := 7) (p := (nI m)) (q := 0) (it' := it') (L := (sf_tb (fun i => (LS s).getD (sf_mn m (LS s).length + i) 0) ((LS s).length - sf_mn m (LS s).length))) (z := 1 + sf_oz SZ (some s) + sf_oz SZ none) (c := sf_oc hc (sf_oc hc 0 (some s)) none) c1 c2 c3 c4 c5 c7 hE hN hR h0 (sf_some ⟨hs, hu⟩) sf_none sf_nab sf_none sf_none (Or.inr (Or.inr (Or.inl ⟨s, m, hs, rfl, rfl, sf_k1 hs, sf_k2 hs, hm, rfl, Or.inr ⟨rfl, by rw [sf_gus, sf_gun (by omega)]⟩⟩))) (by rw [sf_tb_len]; omega) (fun z => by rw [sf_tb_len]; have := l16 (sf_k3 z); omega) (sf_oc_b (sf_oc_b sf_b0 (sf_some hbs)) sf_none) hU hG rfl
        rw [sf_tb_len] at I1
        exact sf_mk I1
    · unfold wpX_drop
      exact sf_x_room1 c2 h0 (br_f (by decide) (sf_x_free0 h16 h1 (br_t rfl (br_f nr (sf_y_bad1 h16 h1 (br_f (by decide) ⟨rfl, I0⟩))))))
  · unfold wpX_drop
    exact sf_x_room0 h16 h0 (br_t rfl (br_t (nI_le (by omega) (by omega)) ⟨rfl, I0⟩))
theorem i_vc_range {k : Nat} {u : SX} {v : SY} (I : i_Rel k u v) (hk : k + 4 ≤ 2051) (v1 : Int32) (v2 : Int32) : wpX_range (fun r u' => wpY_range (fun r' v' => r' = r ∧ i_Rel (k + 4) u' v') v v1 v2) u v1 v2 := by
  have I0 := i_up I
  obtain ⟨NC, EC, OC, tc, ec, nc, xr, xm, xt, xe, to, ta, es, el, ed, se, sx, kd, sa, sb, ex1, ex2, pm1, pm2, us, hc, ts, nl, it, wc, wm, ac, en, ro, mo, tt, ys, yw, yv, yl, rfl, rfl, I⟩ := I
  obtain ⟨c1, c2, c3, c4, c5, c6, c7, hE, LS, SZ, hN, hR⟩ := I
  have h16 := hN.1
  have e16 := hE.1
  have u0 := (hN.2.2.1 nc (Nat.le_refl nc)).1
  by_cases h0 : nc < NC
  · have nr : nI nc < nI NC := nI_lt h0 (by omega)
    by_cases g : v2 < 0
    · unfold wpX_range
      exact sf_x_room1 c2 h0 (br_f (by decide) (br_t g (br_t nr (br_t g ⟨rfl, I0⟩))))
    · by_cases g16 : v2 ≤ 16
      · obtain ⟨c, hc16, rfl⟩ := nI_of2 (M := 16) (n := 16) (by decide) g g16
        refine sf_x_range hE hN c2 h0 hc16 (fun it' hU hG => ?_)
        refine br_t nr (br_f g (br_t g16 (sf_y_add (a := none) (b := none) (e := none) (f := none) (by omega) u0 sf_none sf_none sf_none sf_none ⟨rfl, ?_⟩)))
        have I1 := sf_I_ad (a := none) (b := none) (e := none) (f := none) (k := 1) (p := v1) (q := (nI c)) (it' := it') (L := (sf_tb (fun i => v1 + nI i) c)) (z := 1 + sf_oz SZ none + sf_oz SZ none) (c := sf_oc hc (sf_oc hc 0 none) none) c1 c2 c3 c4 c5 c7 hE hN hR h0 sf_none sf_none sf_nab sf_none sf_none (Or.inl ⟨rfl, rfl, rfl, by rw [sf_gus]; rfl, by rw [pk_us]; rfl, c, hc16, rfl, by rw [sf_gus]⟩) (by rw [sf_tb_len]; omega) (fun _ => by rw [sf_tb_len]; exact hc16) sf_b0 hU hG rfl
        rw [sf_tb_len] at I1
        exact sf_mk I1
      · unfold wpX_range
        exact sf_x_room1 c2 h0 (br_f (by decide) (br_f g (br_f g16 (br_t nr (br_f g (br_f g16 ⟨rfl, I0⟩))))))
  · unfold wpX_range
    exact sf_x_room0 h16 h0 (br_t rfl (br_f (nI_nlt (by omega) (by omega)) ⟨rfl, I0⟩))
theorem i_vc_concatMap {k : Nat} {u : SX} {v : SY} (I : i_Rel k u v) (hk : k + 4 ≤ 2051) (v1 : Int32) (v2 : Int32) (v3 : Int32) : wpX_concatMap (fun r u' => wpY_concatMap (fun r' v' => r' = r ∧ i_Rel (k + 4) u' v') v v1 v2 v3) u v1 v2 v3 := by
  have I0 := i_up I
  obtain ⟨NC, EC, OC, tc, ec, nc, xr, xm, xt, xe, to, ta, es, el, ed, se, sx, kd, sa, sb, ex1, ex2, pm1, pm2, us, hc, ts, nl, it, wc, wm, ac, en, ro, mo, tt, ys, yw, yv, yl, rfl, rfl, I⟩ := I
  obtain ⟨c1, c2, c3, c4, c5, c6, c7, hE, LS, SZ, hN, hR⟩ := I
  have h16 := hN.1
  have e16 := hE.1
  have u0 := (hN.2.2.1 nc (Nat.le_refl nc)).1
  by_cases h0 : nc < NC
  · have nr : ¬ nI NC ≤ nI nc := nI_ge h0 (by omega)
    by_cases h1 : sf_isf nc us v1
    · obtain ⟨s, hs, rfl, hu⟩ := h1
      by_cases h2 : sf_isw ec ed v2
      · obtain ⟨e, he, rfl, hd⟩ := h2
        by_cases h3 : sf_isw ec ed v3
        · obtain ⟨f, hf, rfl, hdf⟩ := h3
          by_cases hc0 : hc s = 0
          · have l16 := (hN.2.1 s hs).2.2.2.1 hc0
            have c1e : sf_oc hc (sf_oc hc 1 (some s)) none = 1 := by
              show (1 ||| hc s) = 1
              rw [hc0]
              decide
            refine sf_x_concatMap hE hN c2 h0 hs hu hc0 he hd hf hdf (fun sx' it' hU hG => ?_)
            refine br_f nr (sf_y_bad0 h16 hs hu (br_t rfl (sf_y_wf1 hE he hd (br_f (by decide) (sf_y_wf1 hE hf hdf (br_f (by decide) (sf_y_walk hN hs (fun w => br_t hc0 (sf_y_add (a := some s) (b := none) (e := some e) (f := some f) (by omega) u0 (sf_some (by omega)) sf_none (sf_some (by omega)) (sf_some (by omega)) ⟨rfl, ?_⟩)))))))))
            have I1 := sf_I_ad (a := (some s)) (b := none) (e := (some e)) (f := (some f)) (k := 8) (p := 0) (q := 0) (it' := it') (L := (sf_cm (fun x => sf_V es el to ta e x 0) (sf_V es el to ta f) (LS s) (LS s).length)) (z := 1 + sf_oz SZ (some s) + sf_oz SZ none) (c := sf_oc hc (sf_oc hc 1 (some s)) none) c1 c2 c3 c4 c5 c7 hE hN hR h0 (sf_some ⟨hs, hu⟩) sf_none sf_nab (sf_some he) (sf_some hf) (Or.inr (Or.inr (Or.inr (Or.inl ⟨s, e, f, hs, rfl, rfl, sf_k1 hs, by rw [pk_us]; exact c1e, by rw [pk_un (by omega)]; exact hc0, ⟨he, sf_su_k sf_su_1, hd⟩, rfl, ⟨hf, sf_su_1, hdf⟩, rfl, rfl, by rw [sf_gus, sf_gun (by omega)]⟩)))) (by have := sf_cm_len (fun x => sf_V es el to ta e x 0) (sf_V es el to ta f) (LS s) (LS s).length; omega) (fun z => absurd (c1e.symm.trans z) sf_n10) (by rw [c1e]; exact sf_b1) hU hG rfl
            exact sf_mk I1
          · unfold wpX_concatMap
            have vs : vp_in (nI s) 16 := vp_in_nI (by omega) (by omega)
            refine sf_x_room1 c2 h0 (br_f (by decide) (sf_x_free1 h16 hs hu (br_f (by decide) (sf_x_wf1 e16 he hd (br_f (by decide) (sf_x_wf1 e16 hf hdf (br_f (by decide) ⟨vs, br_f (by rw [nI_clamp (by omega)]; exact hc0) ?_⟩)))))))
            exact br_f nr (sf_y_bad0 h16 hs hu (br_t rfl (sf_y_wf1 hE he hd (br_f (by decide) (sf_y_wf1 hE hf hdf (br_f (by decide) (sf_y_walk hN hs (fun w => br_f hc0 ⟨rfl, sf_mk ⟨c1, c2, c3, c4, c5, c6, c7, hE, LS, SZ, hN, hR⟩⟩))))))))
        · unfold wpX_concatMap
          exact sf_x_room1 c2 h0 (br_f (by decide) (sf_x_free1 h16 hs hu (br_f (by decide) (sf_x_wf1 e16 he hd (br_f (by decide) (sf_x_wf0 e16 h3 (br_t rfl (br_f nr (sf_y_bad0 h16 hs hu (br_t rfl (sf_y_wf1 hE he hd (br_f (by decide) (sf_y_wf0 e16 h3 (br_t rfl ⟨rfl, I0⟩))))))))))))))
      · unfold wpX_concatMap
        exact sf_x_room1 c2 h0 (br_f (by decide) (sf_x_free1 h16 hs hu (br_f (by decide) (sf_x_wf0 e16 h2 (br_t rfl (br_f nr (sf_y_bad0 h16 hs hu (br_t rfl (sf_y_wf0 e16 h2 (br_t rfl ⟨rfl, I0⟩))))))))))
    · unfold wpX_concatMap
      exact sf_x_room1 c2 h0 (br_f (by decide) (sf_x_free0 h16 h1 (br_t rfl (br_f nr (sf_y_bad1 h16 h1 (br_f (by decide) ⟨rfl, I0⟩))))))
  · unfold wpX_concatMap
    exact sf_x_room0 h16 h0 (br_t rfl (br_t (nI_le (by omega) (by omega)) ⟨rfl, I0⟩))
theorem i_vc_zip {k : Nat} {u : SX} {v : SY} (I : i_Rel k u v) (hk : k + 4 ≤ 2051) (v1 : Int32) (v2 : Int32) (v3 : Int32) : wpX_zip (fun r u' => wpY_zip (fun r' v' => r' = r ∧ i_Rel (k + 4) u' v') v v1 v2 v3) u v1 v2 v3 := by
  have I0 := i_up I
  obtain ⟨NC, EC, OC, tc, ec, nc, xr, xm, xt, xe, to, ta, es, el, ed, se, sx, kd, sa, sb, ex1, ex2, pm1, pm2, us, hc, ts, nl, it, wc, wm, ac, en, ro, mo, tt, ys, yw, yv, yl, rfl, rfl, I⟩ := I
  obtain ⟨c1, c2, c3, c4, c5, c6, c7, hE, LS, SZ, hN, hR⟩ := I
  have h16 := hN.1
  have e16 := hE.1
  have u0 := (hN.2.2.1 nc (Nat.le_refl nc)).1
  by_cases h0 : nc < NC
  · have nr : ¬ nI NC ≤ nI nc := nI_ge h0 (by omega)
    by_cases h1 : sf_isf nc us v1
    · obtain ⟨s, hs, rfl, hu⟩ := h1
      by_cases h1b : sf_isf nc us v2
      · obtain ⟨t, ht, rfl, hut⟩ := h1b
        by_cases hst : s = t
        · subst hst
          unfold wpX_zip
          exact sf_x_room1 c2 h0 (br_f (by decide) (sf_x_free1 h16 hs hu (br_f (by decide) (sf_x_free1 h16 ht hut (br_f (by decide) (br_t rfl (br_f nr (sf_y_bad0 h16 hs hu (br_t rfl (sf_y_bad0 h16 ht hut (br_t rfl (br_t rfl ⟨rfl, I0⟩))))))))))))
        · have nst : ¬ nI s = nI t := fun w => hst (sf_im w (by omega) (by omega))
          by_cases h2 : sf_isw ec ed v3
          · obtain ⟨e, he, rfl, hd⟩ := h2
            have hbs := (hN.2.1 s hs).2.2.2.2.2.2.2.2.1
            have hbt := (hN.2.1 t ht).2.2.2.2.2.2.2.2.1
            have l128 := (hN.2.1 s hs).2.2.1
            have l16 := (hN.2.1 s hs).2.2.2.1
            have mn := sf_mn_l (LS s).length (LS t).length
            have c0e : sf_oc hc (sf_oc hc 0 (some s)) (some t) = (hc s ||| hc t) := by
              show ((0 ||| hc s) ||| hc t) = _
              rw [Int32.zero_or]
            have zz : 1 + sf_oz SZ (some s) + sf_oz SZ (some t) = SZ s + SZ t + 1 := by
              show 1 + SZ s + SZ t = _
              omega
            refine sf_x_zip hE hN c2 h0 hs hu ht hut hst he hd (fun sx' it' hU hG => ?_)
            refine br_f nr (sf_y_bad0 h16 hs hu (br_t rfl (sf_y_bad0 h16 ht hut (br_t rfl (br_f nst (sf_y_wf1 hE he hd (br_f (by decide) (sf_y_add (a := some s) (b := some t) (e := some e) (f := none) (by omega) u0 (sf_some (by omega)) (sf_some (by omega)) (sf_some (by omega)) sf_none ⟨rfl, ?_⟩))))))))
            have I1 := sf_I_ad (a := (some s)) (b := (some t)) (e := (some e)) (f := none) (k := 5) (p := 0) (q := 0) (it' := it') (L := (sf_tb (fun i => sf_V es el to ta e ((LS s).getD i 0) ((LS t).getD i 0)) (sf_mn (LS s).length (LS t).length))) (z := 1 + sf_oz SZ (some s) + sf_oz SZ (some t)) (c := sf_oc hc (sf_oc hc 0 (some s)) (some t)) c1 c2 c3 c4 c5 c7 hE hN hR h0 (sf_some ⟨hs, hu⟩) (sf_some ⟨ht, hut⟩) (fun q hq w => hst ((Option.some.inj hq).trans (Option.some.inj w).symm)) (sf_some he) sf_none (Or.inr (Or.inr (Or.inr (Or.inr ⟨s, t, e, hs, ht, rfl, rfl, by rw [sf_gus, sf_gun (show s ≠ nc by omega), sf_gun (show t ≠ nc by omega)]; exact zz, by rw [pk_us, pk_un (show s ≠ nc by omega), pk_un (show t ≠ nc by omega)]; exact c0e, ⟨he, sf_su_k sf_su_1, hd⟩, rfl, rfl, by rw [sf_gus, sf_gun (show s ≠ nc by omega), sf_gun (show t ≠ nc by omega)]⟩)))) (by rw [sf_tb_len]; omega) (fun z => by rw [sf_tb_len]; have := l16 (((sf_bo hbs hbt).2.2.mp (c0e.symm.trans z)).1); omega) (by rw [c0e]; exact (sf_bo hbs hbt).1) hU hG rfl
            rw [sf_tb_len] at I1
            exact sf_mk I1
          · unfold wpX_zip
            exact sf_x_room1 c2 h0 (br_f (by decide) (sf_x_free1 h16 hs hu (br_f (by decide) (sf_x_free1 h16 ht hut (br_f (by decide) (br_f nst (sf_x_wf0 e16 h2 (br_t rfl (br_f nr (sf_y_bad0 h16 hs hu (br_t rfl (sf_y_bad0 h16 ht hut (br_t rfl (br_f nst (sf_y_wf0 e16 h2 (br_t rfl ⟨rfl, I0⟩))))))))))))))))
      · unfold wpX_zip
        exact sf_x_room1 c2 h0 (br_f (by decide) (sf_x_free1 h16 hs hu (br_f (by decide) (sf_x_free0 h16 h1b (br_t rfl (br_f nr (sf_y_bad0 h16 hs hu (br_t rfl (sf_y_bad1 h16 h1b (br_f (by decide) ⟨rfl, I0⟩))))))))))
    · unfold wpX_zip
      exact sf_x_room1 c2 h0 (br_f (by decide) (sf_x_free0 h16 h1 (br_t rfl (br_f nr (sf_y_bad1 h16 h1 (br_f (by decide) ⟨rfl, I0⟩))))))
  · unfold wpX_zip
    exact sf_x_room0 h16 h0 (br_t rfl (br_t (nI_le (by omega) (by omega)) ⟨rfl, I0⟩))
end
end
