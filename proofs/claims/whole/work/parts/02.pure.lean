section
/-! expressions: the depth and the stack after m tokens -/
def sf_opd (o a x y : Int32) : Int32 := if o = 0 then a else if o = 1 then x else y
def sf_cmb (o a b : Int32) : Int32 := if o = 3 then a + b else if o = 4 then a - b else if o = 5 then a * b else if o = 6 then (if b = 0 then 0 else a / b) else if o = 7 then (if b = 0 then 0 else a - a / b * b) else if o = 8 then (if a < b then 1 else 0) else (if a = b then 1 else 0)
def sf_dp (to : Nat → Int32) (f : Nat) : Nat → Nat
  | 0 => 0
  | m + 1 => if to (f + m) < 3 then sf_dp to f m + 1 else sf_dp to f m - 1
def sf_sk (to ta : Nat → Int32) (f : Nat) (x y : Int32) : Nat → Nat → Int32
  | 0 => fun _ => 0
  | m + 1 => if to (f + m) < 3 then upd (sf_sk to ta f x y m) (sf_dp to f m) (sf_opd (to (f + m)) (ta (f + m)) x y) else upd (sf_sk to ta f x y m) (sf_dp to f m - 2) (sf_cmb (to (f + m)) (sf_sk to ta f x y m (sf_dp to f m - 2)) (sf_sk to ta f x y m (sf_dp to f m - 1)))
/-- the tokens f .. f + l - 1 keep the depth within -/
def sf_lg (to : Nat → Int32) (f l : Nat) : Prop := ∀ m, m < l → ∃ o, o < 10 ∧ to (f + m) = nI o ∧ (o < 3 → sf_dp to f m < 8) ∧ (3 ≤ o → 2 ≤ sf_dp to f m)
theorem sf_lt3 {o : Nat} (h : o < 3) : nI o < 3 := nI_lt (b := 3) h (by decide)
theorem sf_nlt3 {o : Nat} (h : 3 ≤ o) (h2 : o < 10) : ¬ nI o < 3 := nI_nlt (b := 3) h (by omega)
theorem sf_dp_p {to : Nat → Int32} {f m o : Nat} (h : to (f + m) = nI o) (ho : o < 3) : sf_dp to f (m + 1) = sf_dp to f m + 1 := by
  have e : sf_dp to f (m + 1) = if to (f + m) < 3 then sf_dp to f m + 1 else sf_dp to f m - 1 := rfl
  rw [e, h, if_pos (sf_lt3 ho)]
theorem sf_dp_b {to : Nat → Int32} {f m o : Nat} (h : to (f + m) = nI o) (ho : 3 ≤ o) (h2 : o < 10) : sf_dp to f (m + 1) = sf_dp to f m - 1 := by
  have e : sf_dp to f (m + 1) = if to (f + m) < 3 then sf_dp to f m + 1 else sf_dp to f m - 1 := rfl
  rw [e, h, if_neg (sf_nlt3 ho h2)]
theorem sf_sk_p {to ta : Nat → Int32} {f m o : Nat} {x y : Int32} (h : to (f + m) = nI o) (ho : o < 3) : sf_sk to ta f x y (m + 1) = upd (sf_sk to ta f x y m) (sf_dp to f m) (sf_opd (nI o) (ta (f + m)) x y) := by
  have e : sf_sk to ta f x y (m + 1) = if to (f + m) < 3 then upd (sf_sk to ta f x y m) (sf_dp to f m) (sf_opd (to (f + m)) (ta (f + m)) x y) else upd (sf_sk to ta f x y m) (sf_dp to f m - 2) (sf_cmb (to (f + m)) (sf_sk to ta f x y m (sf_dp to f m - 2)) (sf_sk to ta f x y m (sf_dp to f m - 1))) := rfl
  rw [e, h, if_pos (sf_lt3 ho)]
theorem sf_sk_b {to ta : Nat → Int32} {f m o : Nat} {x y : Int32} (h : to (f + m) = nI o) (ho : 3 ≤ o) (h2 : o < 10) : sf_sk to ta f x y (m + 1) = upd (sf_sk to ta f x y m) (sf_dp to f m - 2) (sf_cmb (nI o) (sf_sk to ta f x y m (sf_dp to f m - 2)) (sf_sk to ta f x y m (sf_dp to f m - 1))) := by
  have e : sf_sk to ta f x y (m + 1) = if to (f + m) < 3 then upd (sf_sk to ta f x y m) (sf_dp to f m) (sf_opd (to (f + m)) (ta (f + m)) x y) else upd (sf_sk to ta f x y m) (sf_dp to f m - 2) (sf_cmb (to (f + m)) (sf_sk to ta f x y m (sf_dp to f m - 2)) (sf_sk to ta f x y m (sf_dp to f m - 1))) := rfl
  rw [e, h, if_neg (sf_nlt3 ho h2)]
theorem sf_dp8 {to : Nat → Int32} {f l : Nat} (h : sf_lg to f l) : ∀ m, m ≤ l → sf_dp to f m ≤ 8
  | 0, _ => Nat.zero_le 8
  | m + 1, hm => by
    have ih := sf_dp8 h m (by omega)
    obtain ⟨o, ho, e, h1, h2⟩ := h m (by omega)
    by_cases h3 : o < 3
    · rw [sf_dp_p e h3]; have := h1 h3; omega
    · rw [sf_dp_b e (by omega) ho]; omega
theorem sf_dp_c {to to' : Nat → Int32} {f : Nat} : ∀ m, (∀ j, j < f + m → to' j = to j) → sf_dp to' f m = sf_dp to f m
  | 0, _ => rfl
  | m + 1, h => by
    have ih := sf_dp_c (to := to) (to' := to') (f := f) m (fun j hj => h j (by omega))
    show (if to' (f + m) < 3 then sf_dp to' f m + 1 else sf_dp to' f m - 1) = (if to (f + m) < 3 then sf_dp to f m + 1 else sf_dp to f m - 1)
    rw [ih, h (f + m) (by omega)]
theorem sf_sk_c {to to' ta ta' : Nat → Int32} {f : Nat} {x y : Int32} : ∀ m, (∀ j, j < f + m → to' j = to j) → (∀ j, j < f + m → ta' j = ta j) → sf_sk to' ta' f x y m = sf_sk to ta f x y m
  | 0, _, _ => rfl
  | m + 1, h, g => by
    have ih := sf_sk_c (to := to) (to' := to') (ta := ta) (ta' := ta') (f := f) (x := x) (y := y) m (fun j hj => h j (by omega)) (fun j hj => g j (by omega))
    have e := sf_dp_c (to := to) (to' := to') (f := f) m (fun j hj => h j (by omega))
    have e1 : sf_sk to' ta' f x y (m + 1) = if to' (f + m) < 3 then upd (sf_sk to' ta' f x y m) (sf_dp to' f m) (sf_opd (to' (f + m)) (ta' (f + m)) x y) else upd (sf_sk to' ta' f x y m) (sf_dp to' f m - 2) (sf_cmb (to' (f + m)) (sf_sk to' ta' f x y m (sf_dp to' f m - 2)) (sf_sk to' ta' f x y m (sf_dp to' f m - 1))) := rfl
    have e2 : sf_sk to ta f x y (m + 1) = if to (f + m) < 3 then upd (sf_sk to ta f x y m) (sf_dp to f m) (sf_opd (to (f + m)) (ta (f + m)) x y) else upd (sf_sk to ta f x y m) (sf_dp to f m - 2) (sf_cmb (to (f + m)) (sf_sk to ta f x y m (sf_dp to f m - 2)) (sf_sk to ta f x y m (sf_dp to f m - 1))) := rfl
    rw [e1, e2, ih, e, h (f + m) (by omega), g (f + m) (by omega)]
theorem sf_lg_c {to to' : Nat → Int32} {f l : Nat} (h : ∀ j, j < f + l → to' j = to j) (g : sf_lg to f l) : sf_lg to' f l := by
  intro m hm
  obtain ⟨o, ho, e, h1, h2⟩ := g m hm
  refine ⟨o, ho, ?_, ?_, ?_⟩
  · rw [h (f + m) (by omega)]; exact e
  · rw [sf_dp_c m (fun j hj => h j (by omega))]; exact h1
  · rw [sf_dp_c m (fun j hj => h j (by omega))]; exact h2
theorem sf_lg_s {to : Nat → Int32} {f l o : Nat} (g : sf_lg to f l) (ho : o < 10) (e : to (f + l) = nI o) (h1 : o < 3 → sf_dp to f l < 8) (h2 : 3 ≤ o → 2 ≤ sf_dp to f l) : sf_lg to f (l + 1) := by
  intro m hm
  by_cases hl : m = l
  · subst hl; exact ⟨o, ho, e, h1, h2⟩
  · exact g m (by omega)
/-- the value of expression e -/
def sf_V (es el to ta : Nat → Int32) (e : Nat) (x y : Int32) : Int32 := sf_sk to ta (es e).toNatClampNeg x y (el e).toNatClampNeg 0
def sf_W (ec : Nat) (ed se : Nat → Int32) (e : Nat) : Prop := e < ec ∧ se e = 1 ∧ ed e = 1
def sf_E (ec tc : Nat) (es el ed se to : Nat → Int32) : Prop :=
  ec ≤ 16 ∧ tc ≤ 128 ∧ (∀ e, e < ec → ∃ f l, es e = nI f ∧ el e = nI l ∧ l ≤ 16 ∧ f + l ≤ tc ∧ (e + 1 = ec → f + l = tc) ∧ sf_lg to f l ∧ ed e = nI (sf_dp to f l) ∧ sf_b (se e)) ∧ (∀ e, ec ≤ e → el e = 0 ∧ ed e = 0 ∧ se e = 0)
theorem sf_E0 : sf_E 0 0 (fun _ => 0) (fun _ => 0) (fun _ => 0) (fun _ => 0) (fun _ => 0) :=
  ⟨by decide, by decide, fun _ h => absurd h (Nat.not_lt_zero _), fun _ _ => ⟨rfl, rfl, rfl⟩⟩
theorem sf_E_new {ec tc : Nat} {es el ed se to : Nat → Int32} (H : sf_E ec tc es el ed se to) (h : ec < 16) : sf_E (ec + 1) tc (upd es ec (nI tc)) el ed se to := by
  obtain ⟨h1, h2, h3, h4⟩ := H
  refine ⟨by omega, h2, fun e he => ?_, fun e he => h4 e (by omega)⟩
  by_cases e1 : e = ec
  · subst e1
    obtain ⟨a, b, c⟩ := h4 e (Nat.le_refl e)
    exact ⟨tc, 0, pk_us, a, by omega, by omega, fun _ => rfl, fun m hm => absurd hm (Nat.not_lt_zero m), by rw [b]; rfl, Or.inl c⟩
  · obtain ⟨f, l, q1, q2, q3, q4, q5, q6, q7, q8⟩ := h3 e (by omega)
    exact ⟨f, l, by rw [pk_un e1]; exact q1, q2, q3, q4, fun z => absurd z (by omega), q6, q7, q8⟩
theorem sf_V_new {ec : Nat} {es el to ta : Nat → Int32} {x : Int32} {e : Nat} (h : e < ec) : sf_V (upd es ec x) el to ta e = sf_V es el to ta e := by
  funext x y
  unfold sf_V
  rw [pk_un (by omega)]
theorem sf_E_tok {k tc f l o : Nat} {es el ed se to : Nat → Int32} (H : sf_E (k + 1) tc es el ed se to) (q1 : es k = nI f) (hl : l < 16) (q5 : f + l = tc) (q6 : sf_lg to f l) (ht : tc < 128) (ho : o < 10) (h1 : o < 3 → sf_dp to f l < 8) (h2 : 3 ≤ o → 2 ≤ sf_dp to f l) {d : Nat} (hd : d = if o < 3 then sf_dp to f l + 1 else sf_dp to f l - 1) : sf_E (k + 1) (tc + 1) es (upd el k (nI (l + 1))) (upd ed k (nI d)) se (upd to tc (nI o)) := by
  obtain ⟨g1, g2, g3, g4⟩ := H
  refine ⟨g1, by omega, fun e he => ?_, fun e he => ?_⟩
  · by_cases e1 : e = k
    · obtain ⟨-, -, -, -, -, -, -, -, -, r8⟩ := g3 e he
      subst e1
      have ag : ∀ j, j < f + l → upd to tc (nI o) j = to j := fun j hj => pk_un (by omega)
      have et : upd to tc (nI o) (f + l) = nI o := by rw [q5]; exact pk_us
      have ed1 : sf_dp (upd to tc (nI o)) f l = sf_dp to f l := sf_dp_c l ag
      refine ⟨f, l + 1, q1, pk_us, by omega, by omega, fun _ => by omega, ?_, ?_, r8⟩
      · exact sf_lg_s (sf_lg_c ag q6) ho et (by rw [ed1]; exact h1) (by rw [ed1]; exact h2)
      · rw [pk_us, hd]
        by_cases h3 : o < 3
        · rw [if_pos h3, sf_dp_p et h3, ed1]
        · rw [if_neg h3, sf_dp_b et (by omega) ho, ed1]
    · obtain ⟨f', l', r1, r2, r3, r4, r5, r6, r7, r8⟩ := g3 e he
      have ag : ∀ j, j < f' + l' → upd to tc (nI o) j = to j := fun j hj => pk_un (by omega)
      refine ⟨f', l', r1, by rw [pk_un e1]; exact r2, r3, by omega, fun z => absurd z (by omega), sf_lg_c ag r6, ?_, r8⟩
      rw [pk_un e1, sf_dp_c l' ag]; exact r7
  · obtain ⟨a, b, c⟩ := g4 e he
    exact ⟨by rw [pk_un (by omega)]; exact a, by rw [pk_un (by omega)]; exact b, c⟩
theorem sf_V_tok {ec tc k : Nat} {es el ed se to ta : Nat → Int32} (H : sf_E ec tc es el ed se to) {x y z : Int32} {e : Nat} (h : e < ec) (hk : e ≠ k) : sf_V es (upd el k x) (upd to tc y) (upd ta tc z) e = sf_V es el to ta e := by
  obtain ⟨g1, g2, g3, g4⟩ := H
  obtain ⟨f, l, r1, r2, r3, r4, r5, r6, r7, r8⟩ := g3 e h
  funext u v
  unfold sf_V
  rw [pk_un hk, r1, r2, nI_clamp (by omega), nI_clamp (by omega)]
  have q := sf_sk_c (to := to) (to' := upd to tc y) (ta := ta) (ta' := upd ta tc z) (f := f) (x := u) (y := v) l (fun j hj => pk_un (by omega)) (fun j hj => pk_un (by omega))
  rw [q]
theorem sf_E_seal {ec tc k : Nat} {es el ed se to : Nat → Int32} (H : sf_E ec tc es el ed se to) (h : k < ec) : sf_E ec tc es el ed (upd se k 1) to := by
  obtain ⟨g1, g2, g3, g4⟩ := H
  refine ⟨g1, g2, fun e he => ?_, fun e he => ?_⟩
  · obtain ⟨f, l, r1, r2, r3, r4, r5, r6, r7, r8⟩ := g3 e he
    exact ⟨f, l, r1, r2, r3, r4, r5, r6, r7, sf_bu r8 sf_b1⟩
  · obtain ⟨a, b, c⟩ := g4 e he
    exact ⟨a, b, by rw [pk_un (by omega)]; exact c⟩
theorem sf_W_seal {ec k : Nat} {ed se : Nat → Int32} {e : Nat} (h : sf_W ec ed se e) : sf_W ec ed (upd se k 1) e := by
  refine ⟨h.1, ?_, h.2.2⟩
  by_cases z : e = k
  · subst z; exact pk_us
  · rw [pk_un z]; exact h.2.1
/-- well-formed: what both walks ask -/
def sf_wf (es el to ta : Nat → Int32) (e : Nat) (v : Int32 → Int32 → Int32) : Prop := ∃ f l, es e = nI f ∧ el e = nI l ∧ 1 ≤ l ∧ l ≤ 16 ∧ f + l ≤ 128 ∧ sf_lg to f l ∧ sf_dp to f l = 1 ∧ v = fun x y => sf_sk to ta f x y l 0
theorem sf_E_wf {ec tc : Nat} {es el ed se to ta : Nat → Int32} (H : sf_E ec tc es el ed se to) {e : Nat} (he : e < ec) (hd : ed e = 1) : sf_wf es el to ta e (sf_V es el to ta e) := by
  obtain ⟨g1, g2, g3, g4⟩ := H
  obtain ⟨f, l, r1, r2, r3, r4, r5, r6, r7, r8⟩ := g3 e he
  have hb := sf_dp8 r6 l (Nat.le_refl l)
  have e1 : sf_dp to f l = 1 := sf_im (b := 1) (r7.symm.trans hd) (by omega) (by decide)
  have l1 : 1 ≤ l := by
    cases l with
    | zero => exact absurd (show (0 : Nat) = 1 from e1) (by decide)
    | succ l => omega
  refine ⟨f, l, r1, r2, l1, r3, by omega, r6, e1, ?_⟩
  funext x y
  unfold sf_V
  rw [r1, r2, nI_clamp (by omega), nI_clamp (by omega)]
end
