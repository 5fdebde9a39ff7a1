section
/-! a new node: its sources -/
section
variable {V V' : Nat → Int32 → Int32 → Int32} {W W' : Nat → Prop} {nc : Nat} {kd sa sb e1 e2 p1 p2 us hc ts nl it : Nat → Int32} {LS : Nat → List Int32} {SZ : Nat → Nat}
def sf_o : Option Nat → Int32
  | none => -1
  | some s => nI s
def sf_su (a : Nat → Int32) : Option Nat → Nat → Int32
  | none => a
  | some s => upd a s 1
def sf_oz (SZ : Nat → Nat) : Option Nat → Nat
  | none => 0
  | some s => SZ s
def sf_oh (hc : Nat → Int32) : Option Nat → Int32
  | none => 0
  | some s => hc s
theorem sf_updd {a : Nat → Int32} {k : Nat} {x y : Int32} : upd (upd a k x) k y = upd a k y := by
  funext j
  by_cases e : j = k
  · subst e; rw [pk_us, pk_us]
  · rw [pk_un e, pk_un e, pk_un e]
theorem sf_su_b {o : Option Nat} {j : Nat} (h : sf_b (us j)) : sf_b (sf_su us o j) := by
  cases o with
  | none => exact h
  | some s => exact sf_bu h sf_b1
theorem sf_su_o {o : Option Nat} {j : Nat} (h : ∀ s, o = some s → s ≠ j) : sf_su us o j = us j := by
  cases o with
  | none => rfl
  | some s => exact pk_un (fun e => h s rfl e.symm)
theorem sf_sm_o {o : Option Nat} (h : ∀ s, o = some s → s < nc ∧ us s = 0) : sf_sm (sf_su us o) SZ nc + sf_oz SZ o = sf_sm us SZ nc := by
  cases o with
  | none => rfl
  | some s => exact sf_sm_u (h s rfl).2 nc (h s rfl).1
theorem sf_N_ad (H : sf_N V W nc kd sa sb e1 e2 p1 p2 us hc ts nl it LS SZ) (hn : nc < 16) {k e f p q : Int32} {a b : Option Nat} {it' : Nat → Int32} {L : List Int32} {z : Nat} {c : Int32}
    (ha : ∀ s, a = some s → s < nc ∧ us s = 0) (hb : ∀ s, b = some s → s < nc ∧ us s = 0) (hab : ∀ s, a = some s → b ≠ some s)
    (hK : sf_K V W (sf_gu LS nc L) (sf_gu SZ nc z) (upd hc nc c) nc k (sf_o a) (sf_o b) e f p q)
    (hL : L.length ≤ 128) (hL2 : c = 0 → L.length ≤ 16) (hc1 : sf_b c) (hi : sf_U it it' (nc * 128)) (hg : sf_G it' (nc * 128) L)
    (hz : z = 1 + sf_oz SZ a + sf_oz SZ b) :
    sf_N V W (nc + 1) (upd kd nc k) (upd sa nc (sf_o a)) (upd sb nc (sf_o b)) (upd e1 nc e) (upd e2 nc f) (upd p1 nc p) (upd p2 nc q) (sf_su (sf_su us a) b) (upd hc nc c) (upd ts nc (nI z)) (upd nl nc (nI L.length)) it' (sf_gu LS nc L) (sf_gu SZ nc z) := by
  have hb' : ∀ s, b = some s → s < nc ∧ sf_su us a s = 0 := by
    intro s hs
    refine ⟨(hb s hs).1, ?_⟩
    rw [sf_su_o (fun t ht e => hab t ht (by rw [hs, e]))]
    exact (hb s hs).2
  have s1 := sf_sm_o (SZ := SZ) ha
  have s2 := sf_sm_o (SZ := SZ) hb'
  have s0 := H.2.2.2
  refine sf_N_add H hn hK hL hL2 hc1 hi hg (by omega) (fun j h => sf_su_b (sf_su_b h)) (fun j hj => ?_) (by omega)
  rw [sf_su_o (fun t ht => by have := (hb t ht).1; omega), sf_su_o (fun t ht => by have := (ha t ht).1; omega)]
end
/-! the stack of an evaluation -/
def sf_A (s g : Nat → Int32) (d : Nat) : Prop := ∀ i, i < d → s i = g i
theorem sf_A0 {s g : Nat → Int32} : sf_A s g 0 := fun i h => absurd h (Nat.not_lt_zero i)
theorem sf_A_p {to ta s : Nat → Int32} {f m o : Nat} {x y : Int32} (e : to (f + m) = nI o) (ho : o < 3) (h : sf_A s (sf_sk to ta f x y m) (sf_dp to f m)) : sf_A (upd s (sf_dp to f m) (sf_opd (nI o) (ta (f + m)) x y)) (sf_sk to ta f x y (m + 1)) (sf_dp to f (m + 1)) := by
  intro i hi
  rw [sf_dp_p e ho] at hi
  rw [sf_sk_p e ho]
  by_cases z : i = sf_dp to f m
  · rw [z, pk_us, pk_us]
  · rw [pk_un z, pk_un z]; exact h i (by omega)
theorem sf_A_b {to ta s : Nat → Int32} {f m o : Nat} {x y : Int32} (e : to (f + m) = nI o) (ho : 3 ≤ o) (h2 : o < 10) (hd : 2 ≤ sf_dp to f m) (h : sf_A s (sf_sk to ta f x y m) (sf_dp to f m)) : sf_A (upd s (sf_dp to f m - 2) (sf_cmb (nI o) (s (sf_dp to f m - 2)) (s (sf_dp to f m - 1)))) (sf_sk to ta f x y (m + 1)) (sf_dp to f (m + 1)) := by
  intro i hi
  rw [sf_dp_b e ho h2] at hi
  rw [sf_sk_b e ho h2, h (sf_dp to f m - 2) (by omega), h (sf_dp to f m - 1) (by omega)]
  by_cases z : i = sf_dp to f m - 2
  · rw [z, pk_us, pk_us]
  · rw [pk_un z, pk_un z]; exact h i (by omega)
/-! the walk over a tree -/
def sf_qs (SZ : Nat → Nat) (w : Nat → Int32) : Nat → Nat
  | 0 => 0
  | i + 1 => sf_qs SZ w i + SZ (w i).toNatClampNeg
def sf_qm (hc w : Nat → Int32) : Nat → Prop
  | 0 => False
  | i + 1 => sf_qm hc w i ∨ hc (w i).toNatClampNeg = 1
theorem sf_qs_c {SZ : Nat → Nat} {w w' : Nat → Int32} : ∀ n, (∀ i, i < n → w' i = w i) → sf_qs SZ w' n = sf_qs SZ w n
  | 0, _ => rfl
  | n + 1, h => by
    show sf_qs SZ w' n + SZ (w' n).toNatClampNeg = sf_qs SZ w n + SZ (w n).toNatClampNeg
    rw [sf_qs_c n (fun i hi => h i (by omega)), h n (by omega)]
theorem sf_qm_c {hc w w' : Nat → Int32} : ∀ n, (∀ i, i < n → w' i = w i) → sf_qm hc w' n = sf_qm hc w n
  | 0, _ => rfl
  | n + 1, h => by
    show (sf_qm hc w' n ∨ hc (w' n).toNatClampNeg = 1) = (sf_qm hc w n ∨ hc (w n).toNatClampNeg = 1)
    rw [sf_qm_c n (fun i hi => h i (by omega)), h n (by omega)]
theorem sf_qs_s {SZ : Nat → Nat} {w : Nat → Int32} {j n : Nat} (e : w j = nI n) (hn : n < 16) : sf_qs SZ w (j + 1) = sf_qs SZ w j + SZ n := by
  show sf_qs SZ w j + SZ (w j).toNatClampNeg = _
  rw [e, nI_clamp (by omega)]
theorem sf_qm_s {hc w : Nat → Int32} {j n : Nat} (e : w j = nI n) (hn : n < 16) : sf_qm hc w (j + 1) = (sf_qm hc w j ∨ hc n = 1) := by
  show (sf_qm hc w j ∨ hc (w j).toNatClampNeg = 1) = _
  rw [e, nI_clamp (by omega)]
def sf_q (nc : Nat) (w : Nat → Int32) (sp : Nat) : Prop := ∀ i, i < sp → ∃ m, m < nc ∧ w i = nI m
theorem sf_qs_ge {SZ : Nat → Nat} {nc : Nat} {w : Nat → Int32} (hn : nc ≤ 16) (h1 : ∀ m, m < nc → 1 ≤ SZ m) : ∀ n, sf_q nc w n → n ≤ sf_qs SZ w n
  | 0, _ => Nat.le_refl 0
  | n + 1, h => by
    obtain ⟨m, hm, e⟩ := h n (by omega)
    rw [sf_qs_s e (by omega)]
    have := sf_qs_ge hn h1 n (fun i hi => h i (by omega))
    have := h1 m hm
    omega
def sf_wI (nc : Nat) (SZ : Nat → Nat) (hc w : Nat → Int32) (sp c : Nat) (wm : Int32) (r : Nat) : Prop :=
  sf_q nc w sp ∧ c + sf_qs SZ w sp = SZ r ∧ sf_b wm ∧ ((wm = 1 ∨ sf_qm hc w sp) ↔ hc r = 1)
section
variable {nc : Nat} {SZ : Nat → Nat} {hc w : Nat → Int32} {j c : Nat} {wm : Int32} {r n s t : Nat}
theorem sf_w0 (hn : nc ≤ 16) (hr : r < nc) : sf_wI nc SZ hc (upd w 0 (nI r)) 1 0 0 r := by
  have e : upd w 0 (nI r) 0 = nI r := pk_us
  refine ⟨fun i hi => ⟨r, hr, ?_⟩, ?_, sf_b0, ?_⟩
  · rw [show i = 0 from by omega]; exact e
  · have q := sf_qs_s (SZ := SZ) e (show r < 16 by omega)
    have q0 : sf_qs SZ (upd w 0 (nI r)) 0 = 0 := rfl
    show 0 + sf_qs SZ (upd w 0 (nI r)) (0 + 1) = SZ r
    omega
  · show ((0 : Int32) = 1 ∨ (sf_qm hc (upd w 0 (nI r)) 0 ∨ hc ((upd w 0 (nI r)) 0).toNatClampNeg = 1)) ↔ hc r = 1
    rw [e, nI_clamp (by omega)]
    constructor
    · rintro (h | h | h)
      · exact absurd h sf_n01
      · exact (show False from h).elim
      · exact h
    · intro h; exact Or.inr (Or.inr h)
theorem sf_we (H : sf_wI nc SZ hc w 0 c wm r) (hb : sf_b (hc r)) : c = SZ r ∧ wm = hc r := by
  obtain ⟨-, h2, h3, h4⟩ := H
  refine ⟨by have q : sf_qs SZ w 0 = 0 := rfl
             omega, ?_⟩
  rcases h3 with h | h
  · rcases hb with g | g
    · rw [h, g]
    · rcases h4.mpr g with z | z
      · rw [g]; exact z
      · exact (show False from z).elim
  · rw [h]; exact (h4.mp (Or.inl h)).symm
theorem sf_ws0 (hn : nc ≤ 16) (H : sf_wI nc SZ hc w (j + 1) c wm r) (e : w j = nI n) (hlt : n < nc) (hz : SZ n = 1) (hh : hc n = 0) : sf_wI nc SZ hc w j (c + 1) wm r := by
  obtain ⟨h1, h2, h3, h4⟩ := H
  rw [sf_qs_s e (by omega)] at h2
  rw [sf_qm_s e (by omega), hh] at h4
  refine ⟨fun i hi => h1 i (by omega), by omega, h3, ?_⟩
  rw [← h4]
  constructor
  · rintro (h | h)
    · exact Or.inl h
    · exact Or.inr (Or.inl h)
  · rintro (h | h | h)
    · exact Or.inl h
    · exact Or.inr h
    · exact absurd h sf_n01
theorem sf_ws1 (hn : nc ≤ 16) (H : sf_wI nc SZ hc w (j + 1) c wm r) (e : w j = nI n) (hlt : n < nc) (hs : s < nc) (hz : SZ n = SZ s + 1) (hh : hc n = hc s) : sf_wI nc SZ hc (upd w j (nI s)) (j + 1) (c + 1) wm r := by
  obtain ⟨h1, h2, h3, h4⟩ := H
  have e' : upd w j (nI s) j = nI s := pk_us
  have ag : ∀ i, i < j → upd w j (nI s) i = w i := fun i hi => pk_un (by omega)
  rw [sf_qs_s e (by omega)] at h2
  rw [sf_qm_s e (by omega), hh] at h4
  refine ⟨fun i hi => ?_, ?_, h3, ?_⟩
  · by_cases z : i = j
    · subst z; exact ⟨s, hs, e'⟩
    · rw [pk_un z]; exact h1 i (by omega)
  · rw [sf_qs_s e' (by omega), sf_qs_c j ag]; omega
  · rw [sf_qm_s e' (by omega), sf_qm_c j ag]; exact h4
theorem sf_ws8 (hn : nc ≤ 16) (H : sf_wI nc SZ hc w (j + 1) c wm r) (e : w j = nI n) (hlt : n < nc) (hs : s < nc) (hz : SZ n = SZ s + 1) (hh : hc n = 1) : sf_wI nc SZ hc (upd w j (nI s)) (j + 1) (c + 1) 1 r := by
  obtain ⟨h1, h2, h3, h4⟩ := H
  have e' : upd w j (nI s) j = nI s := pk_us
  have ag : ∀ i, i < j → upd w j (nI s) i = w i := fun i hi => pk_un (by omega)
  rw [sf_qs_s e (by omega)] at h2
  rw [sf_qm_s e (by omega), hh] at h4
  refine ⟨fun i hi => ?_, ?_, sf_b1, ?_⟩
  · by_cases z : i = j
    · subst z; exact ⟨s, hs, e'⟩
    · rw [pk_un z]; exact h1 i (by omega)
  · rw [sf_qs_s e' (by omega), sf_qs_c j ag]; omega
  · exact ⟨fun _ => h4.mp (Or.inr (Or.inr rfl)), fun _ => Or.inl rfl⟩
theorem sf_ws2 (hn : nc ≤ 16) (H : sf_wI nc SZ hc w (j + 1) c wm r) (e : w j = nI n) (hlt : n < nc) (hs : s < nc) (ht : t < nc) (hz : SZ n = SZ s + SZ t + 1) (hh : hc n = 1 ↔ (hc s = 1 ∨ hc t = 1)) : sf_wI nc SZ hc (upd (upd w j (nI s)) (j + 1) (nI t)) (j + 2) (c + 1) wm r := by
  obtain ⟨h1, h2, h3, h4⟩ := H
  have e1 : upd (upd w j (nI s)) (j + 1) (nI t) j = nI s := by rw [pk_un (by omega)]; exact pk_us
  have e2 : upd (upd w j (nI s)) (j + 1) (nI t) (j + 1) = nI t := pk_us
  have ag : ∀ i, i < j → upd (upd w j (nI s)) (j + 1) (nI t) i = w i := fun i hi => by rw [pk_un (by omega), pk_un (by omega)]
  rw [sf_qs_s e (by omega)] at h2
  rw [sf_qm_s e (by omega), hh] at h4
  refine ⟨fun i hi => ?_, ?_, h3, ?_⟩
  · by_cases z : i = j + 1
    · subst z; exact ⟨t, ht, e2⟩
    · by_cases z2 : i = j
      · subst z2; exact ⟨s, hs, e1⟩
      · rw [ag i (by omega)]; exact h1 i (by omega)
  · rw [sf_qs_s e2 (by omega), sf_qs_s e1 (by omega), sf_qs_c j ag]; omega
  · rw [sf_qm_s e2 (by omega), sf_qm_s e1 (by omega), sf_qm_c j ag, ← h4]
    constructor
    · rintro (h | (h | h) | h)
      · exact Or.inl h
      · exact Or.inr (Or.inl h)
      · exact Or.inr (Or.inr (Or.inl h))
      · exact Or.inr (Or.inr (Or.inr h))
    · rintro (h | h | h | h)
      · exact Or.inl h
      · exact Or.inr (Or.inl (Or.inl h))
      · exact Or.inr (Or.inl (Or.inr h))
      · exact Or.inr (Or.inr h)
theorem sf_wroom (hn : nc ≤ 16) (h1 : ∀ m, m < nc → 1 ≤ SZ m) (hr : SZ r ≤ nc) (H : sf_wI nc SZ hc w (j + 1) c wm r) (e : w j = nI n) (hlt : n < nc) : c + j + SZ n ≤ 16 := by
  obtain ⟨g1, g2, -, -⟩ := H
  rw [sf_qs_s e (by omega)] at g2
  have := sf_qs_ge hn h1 j (fun i hi => g1 i (by omega))
  omega
end
/-! what the reference's tables hold once the first m nodes are reckoned -/
def sf_H (v l : Nat → Int32) (LS : Nat → List Int32) (m : Nat) : Prop := ∀ s, s < m → l s = nI (LS s).length ∧ sf_G v (s * 128) (LS s)
theorem sf_H0 {v l : Nat → Int32} {LS : Nat → List Int32} : sf_H v l LS 0 := fun s h => absurd h (Nat.not_lt_zero s)
theorem sf_H_s {v v' l : Nat → Int32} {LS : Nat → List Int32} {m : Nat} (hl : ∀ s, s < m → (LS s).length ≤ 128) (h : sf_H v l LS m) (hu : sf_U v v' (m * 128)) (hg : sf_G v' (m * 128) (LS m)) : sf_H v' (upd l m (nI (LS m).length)) LS (m + 1) := by
  intro s hs
  by_cases e : s = m
  · subst e; exact ⟨pk_us, hg⟩
  · refine ⟨by rw [pk_un e]; exact (h s (by omega)).1, fun i hi => ?_⟩
    have b := hl s (by omega)
    have c := Nat.mul_le_mul_right 128 (show s + 1 ≤ m by omega)
    rw [hu _ (by omega)]
    exact (h s (by omega)).2 i hi
theorem sf_H_g {v v' l : Nat → Int32} {LS : Nat → List Int32} {m s i : Nat} (hl : (LS s).length ≤ 128) (h : sf_H v l LS m) (hs : s < m) (hu : sf_U v v' (m * 128)) (hi : i < (LS s).length) : v' (s * 128 + i) = (LS s).getD i 0 := by
  have c := Nat.mul_le_mul_right 128 (show s + 1 ≤ m by omega)
  rw [hu _ (by omega)]
  exact (h s hs).2 i hi
/-! the run -/
def sf_R (nc : Nat) (LS : Nat → List Int32) (xr xm xt xe ac en ro mo tt : Int32) : Prop :=
  (ac = 0 ∧ xr = -1 ∧ xm = -1 ∧ xt = 0 ∧ xe = 0) ∨ (ac = 1 ∧ ro = xr ∧ mo = xm ∧ tt = xt ∧ en = xe ∧ sf_b xe ∧ ∃ r t, r < nc ∧ xr = nI r ∧ t ≤ (LS r).length ∧ xt = nI t)
theorem sf_R_add {nc : Nat} {LS : Nat → List Int32} {L : List Int32} {xr xm xt xe ac en ro mo tt : Int32} (h : sf_R nc LS xr xm xt xe ac en ro mo tt) : sf_R (nc + 1) (sf_gu LS nc L) xr xm xt xe ac en ro mo tt := by
  rcases h with h | ⟨h1, h2, h3, h4, h5, h6, r, t, h7, h8, h9, h10⟩
  · exact Or.inl h
  · exact Or.inr ⟨h1, h2, h3, h4, h5, h6, r, t, by omega, h8, by rw [sf_gun (by omega)]; exact h9, h10⟩
end
