section
variable {NC EC OC tc ec nc : Nat} {xr xm xt xe wc wm ac en ro mo tt : Int32} {to ta es el ed se sx kd sa sb ex1 ex2 pm1 pm2 us hc ts nl it ys yw yv yl : Nat → Int32}
/-! the reference reckons a node -/
theorem sf_ad {b i : Nat} (h : b + i < 2048) : (nI b + nI i).toNatClampNeg = b + i := by rw [nI_add, nI_clamp (by omega)]
theorem sf_ai {b i : Nat} (h : b + i < 2048) : vp_in (nI b + nI i) 2048 := pk_in (b + i) 2048 h (nI_add _ _)
theorem sf_y_ev {post : Int32 → SY → Prop} {e : Nat} {p x' y' x y : Int32} (hE : sf_E ec tc es el ed se to) (he : e < ec) (hd : ed e = 1) (hp : p = nI e) (hx : x' = x) (hy : y' = y) (h : ∀ ys', post (sf_V es el to ta e x y) (nI NC, nI EC, nI OC, nI nc, nI ec, nI tc, wc, wm, ac, en, ro, mo, tt, kd, sa, sb, ex1, ex2, pm1, pm2, us, es, el, ed, se, to, ta, ys', yw, yv, yl)) : wpY_eval post (nI NC, nI EC, nI OC, nI nc, nI ec, nI tc, wc, wm, ac, en, ro, mo, tt, kd, sa, sb, ex1, ex2, pm1, pm2, us, es, el, ed, se, to, ta, ys, yw, yv, yl) p x' y' := by
  subst hx hy
  exact sf_y_eval hE he hd hp h
theorem sf_y_rangeloop {post : SY → Prop} {n c : Nat} {yv0 : Nat → Int32} (hn : n < 16) (hc2 : c ≤ 16) (hp : pm2 n = nI c)
    (h : ∀ yv', sf_U yv0 yv' (n * 128) → sf_G yv' (n * 128) (sf_tb (fun i => pm1 n + nI i) c) → post (nI NC, nI EC, nI OC, nI nc, nI ec, nI tc, wc, wm, ac, en, ro, mo, tt, kd, sa, sb, ex1, ex2, pm1, pm2, us, es, el, ed, se, to, ta, ys, yw, yv', upd yl n (nI c))) :
    ∀ (d i : Nat) (yv : Nat → Int32), i + d = c → sf_U yv0 yv (n * 128) → sf_G yv (n * 128) (sf_tb (fun i => pm1 n + nI i) i) → wY_computeNode_96 post (nI n) (nI (n * 128)) (nI NC) (nI EC) (nI OC) (nI nc) (nI ec) (nI tc) wc wm ac en ro mo tt (d + 1) (nI i) (nI i) kd sa sb ex1 ex2 pm1 pm2 us es el ed se to ta ys yw yv yl := by
  have vn : vp_in (nI n) 16 := vp_in_nI hn (by omega)
  have cn : (nI n).toNatClampNeg = n := nI_clamp (by omega)
  intro d
  induction d with
  | zero =>
    intro i yv hi hU hG
    have ei : i = c := by omega
    subst ei
    exact ⟨vn, br_t (by rw [cn, hp]; exact nI_le (by omega) (by omega)) ⟨vn, nm_r (congrArg (fun j => upd yl j (nI i)) cn) (h yv hU hG)⟩⟩
  | succ d ih =>
    intro i yv hi hU hG
    refine ⟨vn, br_f (by rw [cn, hp]; exact nI_ge (by omega) (by omega)) (br_f (nI_ge (b := 128) (by omega) (by decide)) ⟨vn, sf_ai (by omega), nm_r (e' := upd yv (n * 128 + i) (pm1 n + nI i)) (by rw [cn, sf_ad (by omega)]) (nm_r (nI_1 i) (nm_r (nI_1 i) ?_))⟩)⟩
    exact ih (i + 1) _ (by omega) (sf_Uapp hU) (sf_Gtb (g := fun i => pm1 n + nI i) hG)
theorem sf_y_maploop {post : SY → Prop} {s e n : Nat} {l : List Int32} {yv0 : Nat → Int32} (hn : n < 16) (hs : s < n) (hE : sf_E ec tc es el ed se to) (he : e < ec) (hd : ed e = 1) (hx : ex1 n = nI e) (hl : l.length ≤ 128) (hg : sf_G yv0 (s * 128) l)
    (h : ∀ ys' yv', sf_U yv0 yv' (n * 128) → sf_G yv' (n * 128) (sf_tb (fun i => sf_V es el to ta e (l.getD i 0) 0) l.length) → post (nI NC, nI EC, nI OC, nI nc, nI ec, nI tc, wc, wm, ac, en, ro, mo, tt, kd, sa, sb, ex1, ex2, pm1, pm2, us, es, el, ed, se, to, ta, ys', yw, yv', upd yl n (nI l.length))) :
    ∀ (d i : Nat) (ys yv : Nat → Int32), i + d = l.length → sf_U yv0 yv (n * 128) → sf_G yv (n * 128) (sf_tb (fun i => sf_V es el to ta e (l.getD i 0) 0) i) → wY_computeNode_154 post (nI n) (nI (n * 128)) (nI (s * 128)) (nI l.length) (d + 1) (nI i) (nI i) (nI NC) (nI EC) (nI OC) (nI nc) (nI ec) (nI tc) wc wm ac en ro mo tt kd sa sb ex1 ex2 pm1 pm2 us es el ed se to ta ys yw yv yl := by
  have vn : vp_in (nI n) 16 := vp_in_nI hn (by omega)
  have cn : (nI n).toNatClampNeg = n := nI_clamp (by omega)
  intro d
  induction d with
  | zero =>
    intro i ys yv hi hU hG
    have ei : i = l.length := by omega
    subst ei
    exact br_t (nI_le (by omega) (by omega)) ⟨vn, nm_r (congrArg (fun j => upd yl j (nI l.length)) cn) (h ys yv hU hG)⟩
  | succ d ih =>
    intro i ys yv hi hU hG
    have er : yv (nI (s * 128) + nI i).toNatClampNeg = l.getD i 0 := by
      rw [sf_ad (by omega)]; exact sf_rd hU hg hs hl (by omega)
    refine br_f (nI_ge (by omega) (by omega)) ⟨vn, sf_ai (by omega), sf_y_ev hE he hd (by rw [cn]; exact hx) er rfl (fun ys' => ⟨sf_ai (by omega), nm_r (congrArg (fun j => upd yv j _) (sf_ad (by omega))) (nm_r (nI_1 i) (nm_r (nI_1 i) ?_))⟩)⟩
    exact ih (i + 1) ys' _ (by omega) (sf_Uapp hU) (sf_Gtb hG)
theorem sf_y_filterloop {post : SY → Prop} {s e n : Nat} {l : List Int32} {yv0 : Nat → Int32} (hn : n < 16) (hs : s < n) (hE : sf_E ec tc es el ed se to) (he : e < ec) (hd : ed e = 1) (hx : ex1 n = nI e) (hl : l.length ≤ 128) (hg : sf_G yv0 (s * 128) l)
    (h : ∀ ys' yv', sf_U yv0 yv' (n * 128) → sf_G yv' (n * 128) (sf_ft (fun x => sf_V es el to ta e x 0) l l.length) → post (nI NC, nI EC, nI OC, nI nc, nI ec, nI tc, wc, wm, ac, en, ro, mo, tt, kd, sa, sb, ex1, ex2, pm1, pm2, us, es, el, ed, se, to, ta, ys', yw, yv', upd yl n (nI (sf_ft (fun x => sf_V es el to ta e x 0) l l.length).length))) :
    ∀ (d i : Nat) (ys yv : Nat → Int32), i + d = l.length → sf_U yv0 yv (n * 128) → sf_G yv (n * 128) (sf_ft (fun x => sf_V es el to ta e x 0) l i) → wY_computeNode_211 post (nI n) (nI (n * 128)) (nI (s * 128)) (nI l.length) (d + 1) (nI (sf_ft (fun x => sf_V es el to ta e x 0) l i).length) (nI i) (nI NC) (nI EC) (nI OC) (nI nc) (nI ec) (nI tc) wc wm ac en ro mo tt kd sa sb ex1 ex2 pm1 pm2 us es el ed se to ta ys yw yv yl := by
  have vn : vp_in (nI n) 16 := vp_in_nI hn (by omega)
  have cn : (nI n).toNatClampNeg = n := nI_clamp (by omega)
  intro d
  induction d with
  | zero =>
    intro i ys yv hi hU hG
    have ei : i = l.length := by omega
    subst ei
    exact br_t (nI_le (by omega) (by omega)) ⟨vn, nm_r (congrArg (fun j => upd yl j _) cn) (h ys yv hU hG)⟩
  | succ d ih =>
    intro i ys yv hi hU hG
    have hle := sf_ft_len (fun x => sf_V es el to ta e x 0) l i
    have ef : sf_ft (fun x => sf_V es el to ta e x 0) l (i + 1) = if sf_V es el to ta e (l.getD i 0) 0 = 0 then sf_ft (fun x => sf_V es el to ta e x 0) l i else sf_ft (fun x => sf_V es el to ta e x 0) l i ++ [l.getD i 0] := rfl
    have er : yv (nI (s * 128) + nI i).toNatClampNeg = l.getD i 0 := by
      rw [sf_ad (by omega)]; exact sf_rd hU hg hs hl (by omega)
    refine br_f (nI_ge (by omega) (by omega)) ⟨sf_ai (by omega), nm_r er ⟨vn, sf_y_ev hE he hd (by rw [cn]; exact hx) rfl rfl (fun ys' => ?_)⟩⟩
    by_cases z : sf_V es el to ta e (l.getD i 0) 0 = 0
    · rw [if_pos z] at ef
      refine br_t z (nm_r (nI_1 i) ?_)
      have := ih (i + 1) ys' yv (by omega) hU (by rw [ef]; exact hG)
      rw [ef] at this
      exact this
    · rw [if_neg z] at ef
      refine br_f z ⟨sf_ai (by omega), nm_r (congrArg (fun j => upd yv j _) (sf_ad (by omega))) (nm_r (nI_1 _) (nm_r (nI_1 i) ?_))⟩
      have := ih (i + 1) ys' _ (by omega) (sf_Uapp hU) (by rw [ef]; exact sf_Gapp hG _)
      rw [ef, sf_lenapp] at this
      exact this
theorem sf_y_scanloop {post : SY → Prop} {s e n : Nat} {a : Int32} {l : List Int32} {yv0 : Nat → Int32} (hn : n < 16) (hs : s < n) (hE : sf_E ec tc es el ed se to) (he : e < ec) (hd : ed e = 1) (hx : ex1 n = nI e) (hl : l.length ≤ 128) (hg : sf_G yv0 (s * 128) l)
    (h : ∀ ys' yv', sf_U yv0 yv' (n * 128) → sf_G yv' (n * 128) (sf_tb (fun i => sf_ac (sf_V es el to ta e) a l (i + 1)) l.length) → post (nI NC, nI EC, nI OC, nI nc, nI ec, nI tc, wc, wm, ac, en, ro, mo, tt, kd, sa, sb, ex1, ex2, pm1, pm2, us, es, el, ed, se, to, ta, ys', yw, yv', upd yl n (nI l.length))) :
    ∀ (d i : Nat) (ys yv : Nat → Int32), i + d = l.length → sf_U yv0 yv (n * 128) → sf_G yv (n * 128) (sf_tb (fun i => sf_ac (sf_V es el to ta e) a l (i + 1)) i) → wY_computeNode_285 post (nI n) (nI (n * 128)) (nI (s * 128)) (nI l.length) (d + 1) (nI i) (sf_ac (sf_V es el to ta e) a l i) (nI i) (nI NC) (nI EC) (nI OC) (nI nc) (nI ec) (nI tc) wc wm ac en ro mo tt kd sa sb ex1 ex2 pm1 pm2 us es el ed se to ta ys yw yv yl := by
  have vn : vp_in (nI n) 16 := vp_in_nI hn (by omega)
  have cn : (nI n).toNatClampNeg = n := nI_clamp (by omega)
  intro d
  induction d with
  | zero =>
    intro i ys yv hi hU hG
    have ei : i = l.length := by omega
    subst ei
    exact br_t (nI_le (by omega) (by omega)) ⟨vn, nm_r (congrArg (fun j => upd yl j (nI l.length)) cn) (h ys yv hU hG)⟩
  | succ d ih =>
    intro i ys yv hi hU hG
    have er : yv (nI (s * 128) + nI i).toNatClampNeg = l.getD i 0 := by
      rw [sf_ad (by omega)]; exact sf_rd hU hg hs hl (by omega)
    refine br_f (nI_ge (by omega) (by omega)) ⟨vn, sf_ai (by omega), sf_y_ev hE he hd (by rw [cn]; exact hx) rfl er (fun ys' => ⟨sf_ai (by omega), nm_r (congrArg (fun j => upd yv j _) (sf_ad (by omega))) (nm_r (nI_1 i) (nm_r (nI_1 i) ?_))⟩)⟩
    exact ih (i + 1) ys' _ (by omega) (sf_Uapp hU) (sf_Gtb (g := fun i => sf_ac (sf_V es el to ta e) a l (i + 1)) hG)
theorem sf_y_ziploop {post : SY → Prop} {s t e n c : Nat} {l m : List Int32} {yv0 : Nat → Int32} (hn : n < 16) (hs : s < n) (ht : t < n) (hE : sf_E ec tc es el ed se to) (he : e < ec) (hd : ed e = 1) (hx : ex1 n = nI e) (hl : l.length ≤ 128) (hm : m.length ≤ 128) (hg : sf_G yv0 (s * 128) l) (hg2 : sf_G yv0 (t * 128) m) (hc1 : c ≤ l.length) (hc2 : c ≤ m.length)
    (h : ∀ ys' yv', sf_U yv0 yv' (n * 128) → sf_G yv' (n * 128) (sf_tb (fun i => sf_V es el to ta e (l.getD i 0) (m.getD i 0)) c) → post (nI NC, nI EC, nI OC, nI nc, nI ec, nI tc, wc, wm, ac, en, ro, mo, tt, kd, sa, sb, ex1, ex2, pm1, pm2, us, es, el, ed, se, to, ta, ys', yw, yv', upd yl n (nI c))) :
    ∀ (d i : Nat) (ys yv : Nat → Int32), i + d = c → sf_U yv0 yv (n * 128) → sf_G yv (n * 128) (sf_tb (fun i => sf_V es el to ta e (l.getD i 0) (m.getD i 0)) i) → wY_computeNode_401 post (nI n) (nI (n * 128)) (nI (s * 128)) (nI t) (nI c) (d + 1) (nI i) (nI i) (nI NC) (nI EC) (nI OC) (nI nc) (nI ec) (nI tc) wc wm ac en ro mo tt kd sa sb ex1 ex2 pm1 pm2 us es el ed se to ta ys yw yv yl := by
  have vn : vp_in (nI n) 16 := vp_in_nI hn (by omega)
  have cn : (nI n).toNatClampNeg = n := nI_clamp (by omega)
  intro d
  induction d with
  | zero =>
    intro i ys yv hi hU hG
    have ei : i = c := by omega
    subst ei
    exact br_t (nI_le (by omega) (by omega)) ⟨vn, nm_r (congrArg (fun j => upd yl j (nI i)) cn) (h ys yv hU hG)⟩
  | succ d ih =>
    intro i ys yv hi hU hG
    have er : yv (nI (s * 128) + nI i).toNatClampNeg = l.getD i 0 := by
      rw [sf_ad (by omega)]; exact sf_rd hU hg hs hl (by omega)
    have er2 : yv (nI t * 128 + nI i).toNatClampNeg = m.getD i 0 := by
      rw [sf_128, sf_ad (by omega)]; exact sf_rd hU hg2 ht hm (by omega)
    refine br_f (nI_ge (by omega) (by omega)) ⟨vn, sf_ai (by omega), by rw [sf_128]; exact sf_ai (by omega), sf_y_ev hE he hd (by rw [cn]; exact hx) er er2 (fun ys' => ⟨sf_ai (by omega), nm_r (congrArg (fun j => upd yv j _) (sf_ad (by omega))) (nm_r (nI_1 i) (nm_r (nI_1 i) ?_))⟩)⟩
    exact ih (i + 1) ys' _ (by omega) (sf_Uapp hU) (sf_Gtb hG)
theorem sf_y_cp496 {post : SY → Prop} {s n fr c : Nat} {l : List Int32} {yv0 : Nat → Int32} (hn : n < 16) (hs : s < n) (hl : l.length ≤ 128) (hg : sf_G yv0 (s * 128) l) (hc1 : fr + c ≤ l.length)
    (h : ∀ yv', sf_U yv0 yv' (n * 128) → sf_G yv' (n * 128) (sf_tb (fun i => l.getD (fr + i) 0) c) → post (nI NC, nI EC, nI OC, nI nc, nI ec, nI tc, wc, wm, ac, en, ro, mo, tt, kd, sa, sb, ex1, ex2, pm1, pm2, us, es, el, ed, se, to, ta, ys, yw, yv', upd yl n (nI c))) :
    ∀ (d i : Nat) (yv : Nat → Int32), i + d = c → sf_U yv0 yv (n * 128) → sf_G yv (n * 128) (sf_tb (fun i => l.getD (fr + i) 0) i) → wY_computeNode_496 post (nI n) (nI (n * 128)) (nI (s * 128)) (nI (fr + c)) (nI NC) (nI EC) (nI OC) (nI nc) (nI ec) (nI tc) wc wm ac en ro mo tt (d + 1) (nI i) (nI (fr + i)) kd sa sb ex1 ex2 pm1 pm2 us es el ed se to ta ys yw yv yl := by
  have vn : vp_in (nI n) 16 := vp_in_nI hn (by omega)
  have cn : (nI n).toNatClampNeg = n := nI_clamp (by omega)
  intro d
  induction d with
  | zero =>
    intro i yv hi hU hG
    have ei : i = c := by omega
    subst ei
    exact br_t (nI_le (by omega) (by omega)) ⟨vn, nm_r (congrArg (fun j => upd yl j (nI i)) cn) (h yv hU hG)⟩
  | succ d ih =>
    intro i yv hi hU hG
    have er : yv (nI (s * 128) + nI (fr + i)).toNatClampNeg = l.getD (fr + i) 0 := by
      rw [sf_ad (by omega)]; exact sf_rd hU hg hs hl (by omega)
    refine br_f (nI_ge (by omega) (by omega)) ⟨sf_ai (by omega), sf_ai (by omega), nm_r (e' := upd yv (n * 128 + i) (l.getD (fr + i) 0)) (by rw [er, sf_ad (by omega)]) (nm_r (nI_1 i) (nm_r (nI_1 (fr + i)) ?_))⟩
    exact ih (i + 1) _ (by omega) (sf_Uapp hU) (sf_Gtb hG)
theorem sf_y_cp568 {post : SY → Prop} {s n fr c : Nat} {l : List Int32} {yv0 : Nat → Int32} (hn : n < 16) (hs : s < n) (hl : l.length ≤ 128) (hg : sf_G yv0 (s * 128) l) (hc1 : fr + c ≤ l.length)
    (h : ∀ yv', sf_U yv0 yv' (n * 128) → sf_G yv' (n * 128) (sf_tb (fun i => l.getD (fr + i) 0) c) → post (nI NC, nI EC, nI OC, nI nc, nI ec, nI tc, wc, wm, ac, en, ro, mo, tt, kd, sa, sb, ex1, ex2, pm1, pm2, us, es, el, ed, se, to, ta, ys, yw, yv', upd yl n (nI c))) :
    ∀ (d i : Nat) (yv : Nat → Int32), i + d = c → sf_U yv0 yv (n * 128) → sf_G yv (n * 128) (sf_tb (fun i => l.getD (fr + i) 0) i) → wY_computeNode_568 post (nI n) (nI (n * 128)) (nI (s * 128)) (nI (fr + c)) (nI NC) (nI EC) (nI OC) (nI nc) (nI ec) (nI tc) wc wm ac en ro mo tt (d + 1) (nI i) (nI (fr + i)) kd sa sb ex1 ex2 pm1 pm2 us es el ed se to ta ys yw yv yl := by
  have vn : vp_in (nI n) 16 := vp_in_nI hn (by omega)
  have cn : (nI n).toNatClampNeg = n := nI_clamp (by omega)
  intro d
  induction d with
  | zero =>
    intro i yv hi hU hG
    have ei : i = c := by omega
    subst ei
    exact br_t (nI_le (by omega) (by omega)) ⟨vn, nm_r (congrArg (fun j => upd yl j (nI i)) cn) (h yv hU hG)⟩
  | succ d ih =>
    intro i yv hi hU hG
    have er : yv (nI (s * 128) + nI (fr + i)).toNatClampNeg = l.getD (fr + i) 0 := by
      rw [sf_ad (by omega)]; exact sf_rd hU hg hs hl (by omega)
    refine br_f (nI_ge (by omega) (by omega)) ⟨sf_ai (by omega), sf_ai (by omega), nm_r (e' := upd yv (n * 128 + i) (l.getD (fr + i) 0)) (by rw [er, sf_ad (by omega)]) (nm_r (nI_1 i) (nm_r (nI_1 (fr + i)) ?_))⟩
    exact ih (i + 1) _ (by omega) (sf_Uapp hU) (sf_Gtb hG)
theorem sf_y_innerloop {post : SY → Prop} {J : Int32 → Int32 → Int32 → Int32 → Int32 → Int32 → Int32 → Int32 → Int32 → Int32 → Int32 → Int32 → Int32 → Int32 → Int32 → (Nat → Int32) → (Nat → Int32) → (Nat → Int32) → (Nat → Int32) → (Nat → Int32) → (Nat → Int32) → (Nat → Int32) → (Nat → Int32) → (Nat → Int32) → (Nat → Int32) → (Nat → Int32) → (Nat → Int32) → (Nat → Int32) → (Nat → Int32) → (Nat → Int32) → (Nat → Int32) → (Nat → Int32) → (Nat → Int32) → Prop} {n e c i0 : Nat} {x x6 x7 : Int32} {l0 : List Int32} {yv0 : Nat → Int32} (hn : n < 16) (hE : sf_E ec tc es el ed se to) (he : e < ec) (hd : ed e = 1) (hx : ex2 n = nI e) (hl : l0.length + c ≤ 128)
    (hJ : ∀ ys' yv', sf_U yv0 yv' (n * 128) → sf_G yv' (n * 128) (l0 ++ sf_tb (fun j => sf_V es el to ta e x (nI j)) c) → J (nI (l0.length + c)) (nI (i0 + 1)) (nI NC) (nI EC) (nI OC) (nI nc) (nI ec) (nI tc) wc wm ac en ro mo tt kd sa sb ex1 ex2 pm1 pm2 us es el ed se to ta ys' yw yv' yl) :
    ∀ (d i : Nat) (ys yv : Nat → Int32), i + d = c → sf_U yv0 yv (n * 128) → sf_G yv (n * 128) (l0 ++ sf_tb (fun j => sf_V es el to ta e x (nI j)) i) → wY_computeNode_671 post J (nI n) (nI (n * 128)) x6 x7 (nI i0) x (nI c) (d + 1) (nI (l0.length + i)) (nI i) (nI NC) (nI EC) (nI OC) (nI nc) (nI ec) (nI tc) wc wm ac en ro mo tt kd sa sb ex1 ex2 pm1 pm2 us es el ed se to ta ys yw yv yl := by
  have vn : vp_in (nI n) 16 := vp_in_nI hn (by omega)
  have cn : (nI n).toNatClampNeg = n := nI_clamp (by omega)
  intro d
  induction d with
  | zero =>
    intro i ys yv hi hU hG
    have ei : i = c := by omega
    subst ei
    exact br_t (nI_le (by omega) (by omega)) (nm_r (nI_1 i0) (hJ ys yv hU hG))
  | succ d ih =>
    intro i ys yv hi hU hG
    refine br_f (nI_ge (by omega) (by omega)) (br_f (nI_ge (b := 128) (by omega) (by decide)) ⟨vn, sf_y_ev hE he hd (by rw [cn]; exact hx) rfl rfl (fun ys' => ⟨sf_ai (by omega), nm_r (congrArg (fun j => upd yv j _) (sf_ad (by omega))) (nm_r (nI_1 _) (nm_r (nI_1 i) ?_))⟩)⟩)
    exact ih (i + 1) ys' _ (by omega) (sf_Uapp hU) (sf_Gtb2 hG)
theorem sf_y_cl {post : SY → Prop} {J : Int32 → Int32 → Int32 → Int32 → Int32 → Int32 → Int32 → Int32 → Int32 → Int32 → Int32 → Int32 → Int32 → Int32 → Int32 → (Nat → Int32) → (Nat → Int32) → (Nat → Int32) → (Nat → Int32) → (Nat → Int32) → (Nat → Int32) → (Nat → Int32) → (Nat → Int32) → (Nat → Int32) → (Nat → Int32) → (Nat → Int32) → (Nat → Int32) → (Nat → Int32) → (Nat → Int32) → (Nat → Int32) → (Nat → Int32) → (Nat → Int32) → (Nat → Int32) → Prop} {x1 x2 x3 x6 x7 x8 x9 w : Int32} (h : ∃ n, wY_computeNode_671 post J x1 x2 x6 x7 x8 x9 (nI (sf_cl w)) n x3 0 (nI NC) (nI EC) (nI OC) (nI nc) (nI ec) (nI tc) wc wm ac en ro mo tt kd sa sb ex1 ex2 pm1 pm2 us es el ed se to ta ys yw yv yl) : (0 ≤ w → wY_computeNode_657 post J x1 x2 x3 x6 x7 x8 x9 w (nI NC) (nI EC) (nI OC) (nI nc) (nI ec) (nI tc) wc wm ac en ro mo tt kd sa sb ex1 ex2 pm1 pm2 us es el ed se to ta ys yw yv yl) ∧ (¬ 0 ≤ w → wY_computeNode_657 post J x1 x2 x3 x6 x7 x8 x9 0 (nI NC) (nI EC) (nI OC) (nI nc) (nI ec) (nI tc) wc wm ac en ro mo tt kd sa sb ex1 ex2 pm1 pm2 us es el ed se to ta ys yw yv yl) := by
  unfold sf_cl at h
  by_cases g : w < 0
  · rw [if_pos g] at h
    exact br_f (Int32.not_le.mpr g) (br_t (by decide) h)
  · rw [if_neg g] at h
    by_cases g2 : 8 < w
    · rw [if_pos g2] at h
      exact br_t (Int32.not_lt.mp g) (br_f (Int32.not_le.mpr g2) h)
    · rw [if_neg g2] at h
      obtain ⟨j, hj, rfl⟩ := nI_of g
      rw [nI_clamp hj] at h
      exact br_t (Int32.not_lt.mp g) (br_t (Int32.not_lt.mp g2) h)
theorem sf_y_cmloop {post : SY → Prop} {s e f n : Nat} {l : List Int32} {yv0 : Nat → Int32} (hn : n < 16) (hs : s < n) (hE : sf_E ec tc es el ed se to) (he : e < ec) (hd : ed e = 1) (hx : ex1 n = nI e) (hf : f < ec) (hdf : ed f = 1) (hxf : ex2 n = nI f) (hl : l.length ≤ 16) (hg : sf_G yv0 (s * 128) l)
    (h : ∀ ys' yv', sf_U yv0 yv' (n * 128) → sf_G yv' (n * 128) (sf_cm (fun x => sf_V es el to ta e x 0) (sf_V es el to ta f) l l.length) → post (nI NC, nI EC, nI OC, nI nc, nI ec, nI tc, wc, wm, ac, en, ro, mo, tt, kd, sa, sb, ex1, ex2, pm1, pm2, us, es, el, ed, se, to, ta, ys', yw, yv', upd yl n (nI (sf_cm (fun x => sf_V es el to ta e x 0) (sf_V es el to ta f) l l.length).length))) :
    ∀ (d i : Nat) (ys yv : Nat → Int32), i + d = l.length → sf_U yv0 yv (n * 128) → sf_G yv (n * 128) (sf_cm (fun x => sf_V es el to ta e x 0) (sf_V es el to ta f) l i) → wY_computeNode_615 post (nI n) (nI (n * 128)) (nI (s * 128)) (nI l.length) (d + 1) (nI (sf_cm (fun x => sf_V es el to ta e x 0) (sf_V es el to ta f) l i).length) (nI i) (nI NC) (nI EC) (nI OC) (nI nc) (nI ec) (nI tc) wc wm ac en ro mo tt kd sa sb ex1 ex2 pm1 pm2 us es el ed se to ta ys yw yv yl := by
  have vn : vp_in (nI n) 16 := vp_in_nI hn (by omega)
  have cn : (nI n).toNatClampNeg = n := nI_clamp (by omega)
  intro d
  induction d with
  | zero =>
    intro i ys yv hi hU hG
    have ei : i = l.length := by omega
    subst ei
    exact br_t (nI_le (by omega) (by omega)) ⟨vn, nm_r (congrArg (fun j => upd yl j _) cn) (h ys yv hU hG)⟩
  | succ d ih =>
    intro i ys yv hi hU hG
    have hle := sf_cm_len (fun x => sf_V es el to ta e x 0) (sf_V es el to ta f) l i
    have h8 := sf_cl8 (sf_V es el to ta e (l.getD i 0) 0)
    have elen : (sf_cm (fun x => sf_V es el to ta e x 0) (sf_V es el to ta f) l (i + 1)).length = (sf_cm (fun x => sf_V es el to ta e x 0) (sf_V es el to ta f) l i).length + sf_cl (sf_V es el to ta e (l.getD i 0) 0) := by
      show (sf_cm (fun x => sf_V es el to ta e x 0) (sf_V es el to ta f) l i ++ sf_tb (fun j => sf_V es el to ta f (l.getD i 0) (nI j)) (sf_cl (sf_V es el to ta e (l.getD i 0) 0))).length = _
      rw [List.length_append, sf_tb_len]
    have er : yv (nI (s * 128) + nI i).toNatClampNeg = l.getD i 0 := by
      rw [sf_ad (by omega)]; exact sf_rd hU hg hs (by omega) (by omega)
    refine br_f (nI_ge (by omega) (by omega)) ⟨sf_ai (by omega), nm_r er ⟨vn, sf_y_ev hE he hd (by rw [cn]; exact hx) rfl rfl (fun ys' => ?_)⟩⟩
    refine sf_y_cl ⟨sf_cl (sf_V es el to ta e (l.getD i 0) 0) + 1, ?_⟩
    refine sf_y_innerloop (l0 := sf_cm (fun x => sf_V es el to ta e x 0) (sf_V es el to ta f) l i) hn hE hf hdf hxf (by omega) (fun ys'' yv'' hU' hG' => ?_) (sf_cl (sf_V es el to ta e (l.getD i 0) 0)) 0 ys' yv (by omega) hU (by rw [show sf_tb (fun j => sf_V es el to ta f (l.getD i 0) (nI j)) 0 = [] from rfl, List.append_nil]; exact hG)
    have := ih (i + 1) ys'' yv'' (by omega) hU' hG'
    rw [elen] at this
    exact this
end
