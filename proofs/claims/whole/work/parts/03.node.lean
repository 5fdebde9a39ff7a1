section
/-! lists, as the loops build them -/
theorem sf_getappl : ∀ (l r : List Int32) (i : Nat), i < l.length → (l ++ r).getD i 0 = l.getD i 0
  | [], _, i, h => absurd h (Nat.not_lt_zero i)
  | _ :: _, _, 0, _ => rfl
  | _ :: l, r, i + 1, h => sf_getappl l r i (Nat.lt_of_succ_lt_succ h)
theorem sf_getapp : ∀ (l : List Int32) (x : Int32), (l ++ [x]).getD l.length 0 = x
  | [], _ => rfl
  | _ :: l, x => sf_getapp l x
theorem sf_lenapp (l : List Int32) (x : Int32) : (l ++ [x]).length = l.length + 1 := by rw [List.length_append]; rfl
/-- v holds l from b on -/
def sf_G (v : Nat → Int32) (b : Nat) (l : List Int32) : Prop := ∀ i, i < l.length → v (b + i) = l.getD i 0
theorem sf_G0 {v : Nat → Int32} {b : Nat} : sf_G v b [] := fun i h => absurd h (Nat.not_lt_zero i)
theorem sf_Gapp {v : Nat → Int32} {b : Nat} {l : List Int32} (h : sf_G v b l) (x : Int32) : sf_G (upd v (b + l.length) x) b (l ++ [x]) := by
  intro i hi
  rw [sf_lenapp] at hi
  by_cases e : i = l.length
  · subst e; rw [pk_us, sf_getapp]
  · rw [pk_un (by omega), sf_getappl _ _ _ (by omega)]; exact h i (by omega)
def sf_U (v0 v : Nat → Int32) (b : Nat) : Prop := ∀ j, j < b → v j = v0 j
theorem sf_U0 {v : Nat → Int32} {b : Nat} : sf_U v v b := fun _ _ => rfl
theorem sf_Uapp {v0 v : Nat → Int32} {b k : Nat} {x : Int32} (h : sf_U v0 v b) : sf_U v0 (upd v (b + k) x) b := by
  intro j hj
  rw [pk_un (by omega)]; exact h j hj
def sf_tb (g : Nat → Int32) : Nat → List Int32
  | 0 => []
  | i + 1 => sf_tb g i ++ [g i]
theorem sf_tb_len (g : Nat → Int32) : ∀ m, (sf_tb g m).length = m
  | 0 => rfl
  | m + 1 => by
    show (sf_tb g m ++ [g m]).length = m + 1
    rw [sf_lenapp, sf_tb_len g m]
def sf_mn (a b : Nat) : Nat := if a < b then a else b
theorem sf_mn_l (a b : Nat) : sf_mn a b ≤ a ∧ sf_mn a b ≤ b := by unfold sf_mn; split <;> omega
def sf_cl (x : Int32) : Nat := if x < 0 then 0 else if 8 < x then 8 else x.toNatClampNeg
theorem sf_cl8 (x : Int32) : sf_cl x ≤ 8 := by
  unfold sf_cl
  split
  · omega
  · rename_i h
    split
    · omega
    · rename_i h2
      obtain ⟨j, hj, rfl⟩ := nI_of h
      rw [nI_clamp hj]
      by_cases z : j ≤ 8
      · exact z
      · exact absurd (nI_lt (a := 8) (b := j) (by omega) hj) h2
def sf_ft (f : Int32 → Int32) (l : List Int32) : Nat → List Int32
  | 0 => []
  | i + 1 => if f (l.getD i 0) = 0 then sf_ft f l i else sf_ft f l i ++ [l.getD i 0]
theorem sf_ft_len (f : Int32 → Int32) (l : List Int32) : ∀ m, (sf_ft f l m).length ≤ m
  | 0 => Nat.le_refl 0
  | m + 1 => by
    have ih := sf_ft_len f l m
    show (if f (l.getD m 0) = 0 then sf_ft f l m else sf_ft f l m ++ [l.getD m 0]).length ≤ m + 1
    split
    · omega
    · rw [sf_lenapp]; omega
def sf_ac (f : Int32 → Int32 → Int32) (a : Int32) (l : List Int32) : Nat → Int32
  | 0 => a
  | i + 1 => f (sf_ac f a l i) (l.getD i 0)
def sf_cm (f : Int32 → Int32) (g : Int32 → Int32 → Int32) (l : List Int32) : Nat → List Int32
  | 0 => []
  | i + 1 => sf_cm f g l i ++ sf_tb (fun j => g (l.getD i 0) (nI j)) (sf_cl (f (l.getD i 0)))
theorem sf_cm_len (f : Int32 → Int32) (g : Int32 → Int32 → Int32) (l : List Int32) : ∀ m, (sf_cm f g l m).length ≤ 8 * m
  | 0 => Nat.le_refl 0
  | m + 1 => by
    have ih := sf_cm_len f g l m
    show (sf_cm f g l m ++ sf_tb (fun j => g (l.getD m 0) (nI j)) (sf_cl (f (l.getD m 0)))).length ≤ 8 * (m + 1)
    rw [List.length_append, sf_tb_len]
    have := sf_cl8 (f (l.getD m 0))
    omega
/-! one node: its kind, its sources, its list, its tree -/
def sf_K (V : Nat → Int32 → Int32 → Int32) (W : Nat → Prop) (LS : Nat → List Int32) (SZ : Nat → Nat) (hc : Nat → Int32) (n : Nat) (k a b e1 e2 p1 p2 : Int32) : Prop :=
  (k = 1 ∧ a = -1 ∧ b = -1 ∧ SZ n = 1 ∧ hc n = 0 ∧ ∃ m, m ≤ 16 ∧ p2 = nI m ∧ LS n = sf_tb (fun i => p1 + nI i) m) ∨
  (∃ s e, s < n ∧ a = nI s ∧ b = -1 ∧ SZ n = SZ s + 1 ∧ hc n = hc s ∧ W e ∧ e1 = nI e ∧ (
      (k = 2 ∧ LS n = sf_tb (fun i => V e ((LS s).getD i 0) 0) (LS s).length)
    ∨ (k = 3 ∧ LS n = sf_ft (fun v => V e v 0) (LS s) (LS s).length)
    ∨ (k = 4 ∧ LS n = sf_tb (fun i => sf_ac (V e) p1 (LS s) (i + 1)) (LS s).length))) ∨
  (∃ s m, s < n ∧ a = nI s ∧ b = -1 ∧ SZ n = SZ s + 1 ∧ hc n = hc s ∧ m < 2 ^ 31 ∧ p1 = nI m ∧ (
      (k = 6 ∧ LS n = sf_tb (fun i => (LS s).getD (0 + i) 0) (sf_mn m (LS s).length))
    ∨ (k = 7 ∧ LS n = sf_tb (fun i => (LS s).getD (sf_mn m (LS s).length + i) 0) ((LS s).length - sf_mn m (LS s).length)))) ∨
  (∃ s e f, s < n ∧ a = nI s ∧ b = -1 ∧ SZ n = SZ s + 1 ∧ hc n = 1 ∧ hc s = 0 ∧ W e ∧ e1 = nI e ∧ W f ∧ e2 = nI f ∧ k = 8 ∧ LS n = sf_cm (fun v => V e v 0) (V f) (LS s) (LS s).length) ∨
  (∃ s t e, s < n ∧ t < n ∧ a = nI s ∧ b = nI t ∧ SZ n = SZ s + SZ t + 1 ∧ hc n = (hc s ||| hc t) ∧ W e ∧ e1 = nI e ∧ k = 5 ∧ LS n = sf_tb (fun i => V e ((LS s).getD i 0) ((LS t).getD i 0)) (sf_mn (LS s).length (LS t).length))
theorem sf_K_c {V V' : Nat → Int32 → Int32 → Int32} {W W' : Nat → Prop} {LS LS' : Nat → List Int32} {SZ SZ' : Nat → Nat} {hc hc' : Nat → Int32} {n : Nat} {k a b e1 e2 p1 p2 : Int32} (hV : ∀ e, W e → V' e = V e) (hW : ∀ e, W e → W' e) (hL : ∀ s, s ≤ n → LS' s = LS s) (hS : ∀ s, s ≤ n → SZ' s = SZ s) (hh : ∀ s, s ≤ n → hc' s = hc s) (H : sf_K V W LS SZ hc n k a b e1 e2 p1 p2) : sf_K V' W' LS' SZ' hc' n k a b e1 e2 p1 p2 := by
  have Ln := hL n (Nat.le_refl n)
  have Sn := hS n (Nat.le_refl n)
  have Cn := hh n (Nat.le_refl n)
  rcases H with ⟨h1, h2, h3, h4, h5, m, hm, h6, h7⟩ | ⟨s, e, hs, h1, h2, h3, h4, we, h5, h6⟩ | ⟨s, m, hs, h1, h2, h3, h4, hm, h5, h6⟩ | ⟨s, e, f, hs, h1, h2, h3, h4, h5, we, h6, wf, h7, h8, h9⟩ | ⟨s, t, e, hs, ht, h1, h2, h3, h4, we, h5, h6, h7⟩
  · exact Or.inl ⟨h1, h2, h3, Sn.trans h4, Cn.trans h5, m, hm, h6, Ln.trans h7⟩
  · refine Or.inr (Or.inl ⟨s, e, hs, h1, h2, ?_, ?_, hW e we, h5, ?_⟩)
    · rw [Sn, hS s (by omega)]; exact h3
    · rw [Cn, hh s (by omega)]; exact h4
    · rw [Ln, hL s (by omega), hV e we]; exact h6
  · refine Or.inr (Or.inr (Or.inl ⟨s, m, hs, h1, h2, ?_, ?_, hm, h5, ?_⟩))
    · rw [Sn, hS s (by omega)]; exact h3
    · rw [Cn, hh s (by omega)]; exact h4
    · rw [Ln, hL s (by omega)]; exact h6
  · refine Or.inr (Or.inr (Or.inr (Or.inl ⟨s, e, f, hs, h1, h2, ?_, ?_, ?_, hW e we, h6, hW f wf, h7, h8, ?_⟩)))
    · rw [Sn, hS s (by omega)]; exact h3
    · rw [Cn]; exact h4
    · rw [hh s (by omega)]; exact h5
    · rw [Ln, hL s (by omega), hV e we, hV f wf]; exact h9
  · refine Or.inr (Or.inr (Or.inr (Or.inr ⟨s, t, e, hs, ht, h1, h2, ?_, ?_, hW e we, h5, h6, ?_⟩)))
    · rw [Sn, hS s (by omega), hS t (by omega)]; exact h3
    · rw [Cn, hh s (by omega), hh t (by omega)]; exact h4
    · rw [Ln, hL s (by omega), hL t (by omega), hV e we]; exact h7
/-! all nodes -/
def sf_sm (us : Nat → Int32) (SZ : Nat → Nat) : Nat → Nat
  | 0 => 0
  | n + 1 => sf_sm us SZ n + (if us n = 0 then SZ n else 0)
theorem sf_sm_c {us us' : Nat → Int32} {SZ SZ' : Nat → Nat} : ∀ n, (∀ j, j < n → us' j = us j) → (∀ j, j < n → SZ' j = SZ j) → sf_sm us' SZ' n = sf_sm us SZ n
  | 0, _, _ => rfl
  | n + 1, h, g => by
    show sf_sm us' SZ' n + (if us' n = 0 then SZ' n else 0) = sf_sm us SZ n + (if us n = 0 then SZ n else 0)
    rw [sf_sm_c n (fun j hj => h j (by omega)) (fun j hj => g j (by omega)), h n (by omega), g n (by omega)]
theorem sf_sm_u {us : Nat → Int32} {SZ : Nat → Nat} {s : Nat} (h : us s = 0) : ∀ n, s < n → sf_sm (upd us s 1) SZ n + SZ s = sf_sm us SZ n
  | 0, hn => absurd hn (Nat.not_lt_zero s)
  | n + 1, hn => by
    show sf_sm (upd us s 1) SZ n + (if upd us s 1 n = 0 then SZ n else 0) + SZ s = sf_sm us SZ n + (if us n = 0 then SZ n else 0)
    by_cases e : s = n
    · subst e
      rw [pk_us, if_neg sf_n10, if_pos h, sf_sm_c (us := us) (SZ := SZ) s (fun j hj => pk_un (by omega)) (fun _ _ => rfl)]
      omega
    · have ih := sf_sm_u (SZ := SZ) h n (by omega)
      rw [pk_un (fun z => e z.symm)]
      omega
/-- what is known of node n -/
def sf_N1 (V : Nat → Int32 → Int32 → Int32) (W : Nat → Prop) (nc n : Nat) (kd sa sb e1 e2 p1 p2 us hc ts nl it : Nat → Int32) (LS : Nat → List Int32) (SZ : Nat → Nat) : Prop :=
  sf_K V W LS SZ hc n (kd n) (sa n) (sb n) (e1 n) (e2 n) (p1 n) (p2 n) ∧ nl n = nI (LS n).length ∧ (LS n).length ≤ 128 ∧ (hc n = 0 → (LS n).length ≤ 16) ∧ sf_G it (n * 128) (LS n) ∧ ts n = nI (SZ n) ∧ 1 ≤ SZ n ∧ SZ n ≤ nc ∧ sf_b (hc n) ∧ sf_b (us n)
def sf_N (V : Nat → Int32 → Int32 → Int32) (W : Nat → Prop) (nc : Nat) (kd sa sb e1 e2 p1 p2 us hc ts nl it : Nat → Int32) (LS : Nat → List Int32) (SZ : Nat → Nat) : Prop :=
  nc ≤ 16 ∧ (∀ n, n < nc → sf_N1 V W nc n kd sa sb e1 e2 p1 p2 us hc ts nl it LS SZ) ∧ (∀ n, nc ≤ n → us n = 0 ∧ nl n = 0) ∧ sf_sm us SZ nc ≤ nc
theorem sf_N0 {V : Nat → Int32 → Int32 → Int32} {W : Nat → Prop} {LS : Nat → List Int32} {SZ : Nat → Nat} : sf_N V W 0 (fun _ => 0) (fun _ => 0) (fun _ => 0) (fun _ => 0) (fun _ => 0) (fun _ => 0) (fun _ => 0) (fun _ => 0) (fun _ => 0) (fun _ => 0) (fun _ => 0) (fun _ => 0) LS SZ :=
  ⟨by decide, fun _ h => absurd h (Nat.not_lt_zero _), fun _ _ => ⟨rfl, rfl⟩, Nat.le_refl 0⟩
section
variable {V V' : Nat → Int32 → Int32 → Int32} {W W' : Nat → Prop} {nc : Nat} {kd sa sb e1 e2 p1 p2 us hc ts nl it : Nat → Int32} {LS : Nat → List Int32} {SZ : Nat → Nat}
theorem sf_N_VW (hV : ∀ e, W e → V' e = V e) (hW : ∀ e, W e → W' e) (H : sf_N V W nc kd sa sb e1 e2 p1 p2 us hc ts nl it LS SZ) : sf_N V' W' nc kd sa sb e1 e2 p1 p2 us hc ts nl it LS SZ := by
  obtain ⟨h1, h2, h3, h4⟩ := H
  exact ⟨h1, fun n hn => ⟨sf_K_c hV hW (fun _ _ => rfl) (fun _ _ => rfl) (fun _ _ => rfl) (h2 n hn).1, (h2 n hn).2⟩, h3, h4⟩
def sf_gu {α : Type} (f : Nat → α) (n : Nat) (x : α) : Nat → α := fun j => if j = n then x else f j
theorem sf_gus {α : Type} {f : Nat → α} {n : Nat} {x : α} : sf_gu f n x n = x := if_pos rfl
theorem sf_gun {α : Type} {f : Nat → α} {n j : Nat} {x : α} (h : j ≠ n) : sf_gu f n x j = f j := if_neg h
/-- a new node at nc -/
theorem sf_N_add (H : sf_N V W nc kd sa sb e1 e2 p1 p2 us hc ts nl it LS SZ) (hn : nc < 16) {k a b e f p q : Int32} {us' it' : Nat → Int32} {L : List Int32} {z : Nat} {c : Int32}
    (hK : sf_K V W (sf_gu LS nc L) (sf_gu SZ nc z) (upd hc nc c) nc k a b e f p q)
    (hL : L.length ≤ 128) (hL2 : c = 0 → L.length ≤ 16) (hc1 : sf_b c) (hi : sf_U it it' (nc * 128)) (hg : sf_G it' (nc * 128) L)
    (hz : 1 ≤ z) (hu : ∀ j, sf_b (us j) → sf_b (us' j)) (hu0 : ∀ j, nc ≤ j → us' j = us j) (hs : sf_sm us' SZ nc + z ≤ nc + 1) :
    sf_N V W (nc + 1) (upd kd nc k) (upd sa nc a) (upd sb nc b) (upd e1 nc e) (upd e2 nc f) (upd p1 nc p) (upd p2 nc q) us' (upd hc nc c) (upd ts nc (nI z)) (upd nl nc (nI L.length)) it' (sf_gu LS nc L) (sf_gu SZ nc z) := by
  obtain ⟨h1, h2, h3, h4⟩ := H
  refine ⟨by omega, fun n hn' => ?_, fun n hn' => ?_, ?_⟩
  · by_cases en : n = nc
    · subst en
      refine ⟨?_, ?_, ?_, ?_, ?_, ?_, ?_, ?_, ?_, ?_⟩
      · rw [pk_us, pk_us, pk_us, pk_us, pk_us, pk_us, pk_us]; exact hK
      · rw [pk_us, sf_gus]
      · rw [sf_gus]; exact hL
      · rw [pk_us, sf_gus]; exact hL2
      · rw [sf_gus]; exact hg
      · rw [pk_us, sf_gus]
      · rw [sf_gus]; exact hz
      · rw [sf_gus]; omega
      · rw [pk_us]; exact hc1
      · exact hu n (Or.inl (h3 n (Nat.le_refl n)).1)
    · obtain ⟨g1, g2, g3, g4, g5, g6, g7, g8, g9, g10⟩ := h2 n (by omega)
      refine ⟨?_, ?_, ?_, ?_, ?_, ?_, ?_, ?_, ?_, ?_⟩
      · rw [pk_un en, pk_un en, pk_un en, pk_un en, pk_un en, pk_un en, pk_un en]
        exact sf_K_c (fun _ _ => rfl) (fun _ h => h) (fun s hs => sf_gun (by omega)) (fun s hs => sf_gun (by omega)) (fun s hs => pk_un (by omega)) g1
      · rw [pk_un en, sf_gun en]; exact g2
      · rw [sf_gun en]; exact g3
      · rw [pk_un en, sf_gun en]; exact g4
      · rw [sf_gun en]
        intro i hi'
        have c1 := Nat.mul_le_mul_right 128 (show n + 1 ≤ nc by omega)
        rw [hi (n * 128 + i) (by omega)]
        exact g5 i hi'
      · rw [pk_un en, sf_gun en]; exact g6
      · rw [sf_gun en]; exact g7
      · rw [sf_gun en]; omega
      · rw [pk_un en]; exact g9
      · exact hu n g10
  · obtain ⟨a1, a2⟩ := h3 n (by omega)
    exact ⟨(hu0 n (by omega)).trans a1, by rw [pk_un (by omega)]; exact a2⟩
  · show sf_sm us' (sf_gu SZ nc z) nc + (if us' nc = 0 then sf_gu SZ nc z nc else 0) ≤ nc + 1
    rw [sf_sm_c (us := us') (SZ := SZ) nc (fun _ _ => rfl) (fun j hj => sf_gun (by omega)), sf_gus, if_pos ((hu0 nc (Nat.le_refl nc)).trans (h3 nc (Nat.le_refl nc)).1)]
    exact hs
end
end
