section
variable {NC EC OC tc ec nc : Nat} {xr xm xt xe wc wm ac en ro mo tt : Int32} {to ta es el ed se sx kd sa sb ex1 ex2 pm1 pm2 us hc ts nl it ys yw yv yl : Nat → Int32}
/-! the component's new node -/
theorem sf_x_att {post : SX → Prop} {SZ : Nat → Nat} {n z : Nat} {c : Int32} {o : Option Nat} (hn : n < 16) (ho : ∀ s, o = some s → s < n ∧ ts s = nI (SZ s) ∧ sf_b (hc s)) (hc1 : sf_b c)
    (h : post (nI NC, nI EC, nI OC, nI tc, nI ec, nI nc, xr, xm, xt, xe, to, ta, es, el, ed, se, sx, kd, sa, sb, ex1, ex2, pm1, pm2, sf_su us o, upd hc n (sf_oc hc c o), upd ts n (nI (z + sf_oz SZ o)), nl, it)) : wpX_attachSource post (nI NC, nI EC, nI OC, nI tc, nI ec, nI nc, xr, xm, xt, xe, to, ta, es, el, ed, se, sx, kd, sa, sb, ex1, ex2, pm1, pm2, us, upd hc n c, upd ts n (nI z), nl, it) (nI n) (sf_o o) := by
  cases o with
  | none => exact br_t rfl h
  | some s =>
    obtain ⟨hs, g1, g2⟩ := ho s rfl
    have hne : s ≠ n := by omega
    have h' : post (nI NC, nI EC, nI OC, nI tc, nI ec, nI nc, xr, xm, xt, xe, to, ta, es, el, ed, se, sx, kd, sa, sb, ex1, ex2, pm1, pm2, upd us s 1, upd hc n (c ||| hc s), upd ts n (nI (z + SZ s)), nl, it) := h
    show wpX_attachSource post (nI NC, nI EC, nI OC, nI tc, nI ec, nI nc, xr, xm, xt, xe, to, ta, es, el, ed, se, sx, kd, sa, sb, ex1, ex2, pm1, pm2, us, upd hc n c, upd ts n (nI z), nl, it) (nI n) (nI s)
    unfold wpX_attachSource
    dsimp only
    rw [nI_clamp (show s < 2 ^ 31 by omega), nI_clamp (show n < 2 ^ 31 by omega), pk_us, pk_us, pk_un hne, pk_un hne, g1, nI_add, sf_bn (sf_bo hc1 g2).1, sf_vb1]
    refine br_f (sf_ne1 (by omega)) ⟨vp_in_nI (by omega) (by omega), nm_e ⟨vp_in_nI hn (by omega), vp_in_nI (by omega) (by omega), vp_in_nI hn (by omega), nm_e ⟨vp_in_nI hn (by omega), vp_in_nI (by omega) (by omega), vp_in_nI hn (by omega), nm_e ?_⟩⟩⟩
    rw [sf_updd, sf_updd]
    exact h'
theorem sf_x_seal {post : SX → Prop} {o : Option Nat} (ho : ∀ j, o = some j → j < 16) (h : post (nI NC, nI EC, nI OC, nI tc, nI ec, nI nc, xr, xm, xt, xe, to, ta, es, el, ed, sf_su se o, sx, kd, sa, sb, ex1, ex2, pm1, pm2, us, hc, ts, nl, it)) : wpX_sealExpr post (nI NC, nI EC, nI OC, nI tc, nI ec, nI nc, xr, xm, xt, xe, to, ta, es, el, ed, se, sx, kd, sa, sb, ex1, ex2, pm1, pm2, us, hc, ts, nl, it) (sf_o o) := by
  cases o with
  | none => exact br_t rfl h
  | some s =>
    have hs := ho s rfl
    refine br_f (sf_ne1 (by omega)) ⟨vp_in_nI hs (by omega), nm_r (e' := upd se s 1) ?_ h⟩
    rw [show sf_o (some s) = nI s from rfl, nI_clamp (by omega), sf_vb1]
theorem sf_x_add83 {post : Int32 → SX → Prop} {SZ : Nat → Nat} {c : Int32} {a b e f : Option Nat} (hn : nc < 16) (ha : ∀ s, a = some s → s < nc ∧ ts s = nI (SZ s) ∧ sf_b (hc s)) (hb : ∀ s, b = some s → s < nc ∧ ts s = nI (SZ s) ∧ sf_b (hc s)) (he : ∀ j, e = some j → j < 16) (hf : ∀ j, f = some j → j < 16) (hc1 : sf_b c)
    (h : post (nI nc) (nI NC, nI EC, nI OC, nI tc, nI ec, nI (nc + 1), xr, xm, xt, xe, to, ta, es, el, ed, sf_su (sf_su se e) f, sx, kd, sa, sb, ex1, ex2, pm1, pm2, sf_su (sf_su us a) b, upd hc nc (sf_oc hc (sf_oc hc c a) b), upd ts nc (nI (1 + sf_oz SZ a + sf_oz SZ b)), nl, it)) : wX_addNode_83 post (sf_o a) (sf_o b) (sf_o e) (sf_o f) (nI nc) c (nI nc) (nI NC) (nI EC) (nI OC) (nI tc) (nI ec) (nI nc) xr xm xt xe to ta es el ed se sx kd sa sb ex1 ex2 pm1 pm2 us hc ts nl it := by
  unfold wX_addNode_83
  rw [nI_clamp (show nc < 2 ^ 31 by omega), sf_bn hc1]
  refine ⟨vp_in_nI hn (by omega), nm_e ⟨vp_in_nI hn (by omega), nm_e ?_⟩⟩
  refine sf_x_att (SZ := SZ) (z := 1) hn ha hc1 ?_
  refine sf_x_att (SZ := SZ) (z := 1 + sf_oz SZ a) hn hb (sf_oc_b hc1 (fun s hs => (ha s hs).2.2)) ?_
  refine sf_x_seal he ?_
  refine sf_x_seal hf ?_
  exact nm_r (nI_1 nc) h
theorem sf_x_add {post : Int32 → SX → Prop} {SZ : Nat → Nat} {k p q c : Int32} {a b e f : Option Nat} (hn : nc < 16) (ha : ∀ s, a = some s → s < nc ∧ ts s = nI (SZ s) ∧ sf_b (hc s)) (hb : ∀ s, b = some s → s < nc ∧ ts s = nI (SZ s) ∧ sf_b (hc s)) (he : ∀ j, e = some j → j < 16) (hf : ∀ j, f = some j → j < 16) (hk : (k = 8 ∧ c = 1) ∨ (¬ k = 8 ∧ c = 0))
    (h : post (nI nc) (nI NC, nI EC, nI OC, nI tc, nI ec, nI (nc + 1), xr, xm, xt, xe, to, ta, es, el, ed, sf_su (sf_su se e) f, sx, upd kd nc k, upd sa nc (sf_o a), upd sb nc (sf_o b), upd ex1 nc (sf_o e), upd ex2 nc (sf_o f), upd pm1 nc p, upd pm2 nc q, sf_su (sf_su us a) b, upd hc nc (sf_oc hc (sf_oc hc c a) b), upd ts nc (nI (1 + sf_oz SZ a + sf_oz SZ b)), nl, it)) : wpX_addNode post (nI NC, nI EC, nI OC, nI tc, nI ec, nI nc, xr, xm, xt, xe, to, ta, es, el, ed, se, sx, kd, sa, sb, ex1, ex2, pm1, pm2, us, hc, ts, nl, it) k (sf_o a) (sf_o b) (sf_o e) (sf_o f) p q := by
  have vn : vp_in (nI nc) 16 := vp_in_nI hn (by omega)
  have cn : (nI nc).toNatClampNeg = nc := nI_clamp (by omega)
  refine ⟨vn, nm_r (congrArg (fun j => upd kd j k) cn) ⟨vn, nm_r (congrArg (fun j => upd sa j (sf_o a)) cn) ⟨vn, nm_r (congrArg (fun j => upd sb j (sf_o b)) cn) ⟨vn, nm_r (congrArg (fun j => upd ex1 j (sf_o e)) cn) ⟨vn, nm_r (congrArg (fun j => upd ex2 j (sf_o f)) cn) ⟨vn, nm_r (congrArg (fun j => upd pm1 j p) cn) ⟨vn, nm_r (congrArg (fun j => upd pm2 j q) cn) ?_⟩⟩⟩⟩⟩⟩⟩
  rcases hk with ⟨h1, h2⟩ | ⟨h1, h2⟩
  · subst h2
    exact br_t h1 (sf_x_add83 hn ha hb he hf sf_b1 h)
  · subst h2
    exact br_f h1 (sf_x_add83 hn ha hb he hf sf_b0 h)
/-! the component's loops: a list grows at node n -/
theorem sf_rd {it0 v : Nat → Int32} {l : List Int32} {s n i : Nat} (hU : sf_U it0 v (n * 128)) (hg : sf_G it0 (s * 128) l) (hs : s < n) (hl : l.length ≤ 128) (hi : i < l.length) : v (s * 128 + i) = l.getD i 0 := by
  have c := Nat.mul_le_mul_right 128 (show s + 1 ≤ n by omega)
  rw [hU _ (by omega)]
  exact hg i hi
theorem sf_Gtb {v : Nat → Int32} {b i : Nat} {g : Nat → Int32} (hG : sf_G v b (sf_tb g i)) : sf_G (upd v (b + i) (g i)) b (sf_tb g (i + 1)) := by
  have := sf_Gapp hG (g i)
  rw [sf_tb_len] at this
  exact this
theorem sf_Gtb2 {v : Nat → Int32} {b i : Nat} {g : Nat → Int32} {l0 : List Int32} (hG : sf_G v b (l0 ++ sf_tb g i)) : sf_G (upd v (b + (l0.length + i)) (g i)) b (l0 ++ sf_tb g (i + 1)) := by
  have := sf_Gapp hG (g i)
  rw [List.length_append, sf_tb_len, List.append_assoc] at this
  exact this
theorem sf_x_rangeloop {post : Int32 → SX → Prop} {n c : Nat} {lo : Int32} {it0 : Nat → Int32} (hn : n < 16) (hc2 : c ≤ 16)
    (h : ∀ it', sf_U it0 it' (n * 128) → sf_G it' (n * 128) (sf_tb (fun i => lo + nI i) c) → post (nI n) (nI NC, nI EC, nI OC, nI tc, nI ec, nI nc, xr, xm, xt, xe, to, ta, es, el, ed, se, sx, kd, sa, sb, ex1, ex2, pm1, pm2, us, hc, ts, upd nl n (nI c), it')) :
    ∀ (d i : Nat) (it : Nat → Int32), i + d = c → sf_U it0 it (n * 128) → sf_G it (n * 128) (sf_tb (fun i => lo + nI i) i) → wX_range_34 post lo (nI c) (nI n) (d + 1) (nI i) (nI NC) (nI EC) (nI OC) (nI tc) (nI ec) (nI nc) xr xm xt xe to ta es el ed se sx kd sa sb ex1 ex2 pm1 pm2 us hc ts (upd nl n (nI i)) it := by
  intro d
  induction d with
  | zero =>
    intro i it hi hU hG
    have ei : i = c := by omega
    subst ei
    exact br_t (nI_le (by omega) (by omega)) (h it hU hG)
  | succ d ih =>
    intro i it hi hU hG
    refine br_f (nI_ge (by omega) (by omega)) (sf_x_appl hn (by omega) (nm_r (nI_1 i) ?_))
    exact ih (i + 1) _ (by omega) (sf_Uapp hU) (sf_Gtb hG)
theorem sf_x_maploop {post : Int32 → SX → Prop} {s e n : Nat} {v : Int32 → Int32 → Int32} {l : List Int32} {it0 : Nat → Int32} (hn : n < 16) (hs : s < n) (he : e < 16) (hw : sf_wf es el to ta e v) (hl : l.length ≤ 128) (hg : sf_G it0 (s * 128) l)
    (h : ∀ sx' it', sf_U it0 it' (n * 128) → sf_G it' (n * 128) (sf_tb (fun i => v (l.getD i 0) 0) l.length) → post (nI n) (nI NC, nI EC, nI OC, nI tc, nI ec, nI nc, xr, xm, xt, xe, to, ta, es, el, ed, se, sx', kd, sa, sb, ex1, ex2, pm1, pm2, us, hc, ts, upd nl n (nI l.length), it')) :
    ∀ (d i : Nat) (sx it : Nat → Int32), i + d = l.length → sf_U it0 it (n * 128) → sf_G it (n * 128) (sf_tb (fun i => v (l.getD i 0) 0) i) → wX_map_48 post (nI s) (nI e) (nI n) (nI l.length) (d + 1) (nI i) (nI NC) (nI EC) (nI OC) (nI tc) (nI ec) (nI nc) xr xm xt xe to ta es el ed se sx kd sa sb ex1 ex2 pm1 pm2 us hc ts (upd nl n (nI i)) it := by
  intro d
  induction d with
  | zero =>
    intro i sx it hi hU hG
    have ei : i = l.length := by omega
    subst ei
    exact br_t (nI_le (by omega) (by omega)) (h sx it hU hG)
  | succ d ih =>
    intro i sx it hi hU hG
    refine br_f (nI_ge (by omega) (by omega)) (sf_x_item (by omega) (by omega) ?_)
    rw [sf_rd hU hg hs hl (show i < l.length by omega)]
    refine sf_x_val hw he (fun sx' => ?_)
    refine sf_x_appl hn (by omega) (nm_r (nI_1 i) ?_)
    exact ih (i + 1) sx' _ (by omega) (sf_Uapp hU) (sf_Gtb hG)
theorem sf_x_filterloop {post : Int32 → SX → Prop} {s e n : Nat} {v : Int32 → Int32 → Int32} {l : List Int32} {it0 : Nat → Int32} (hn : n < 16) (hs : s < n) (he : e < 16) (hw : sf_wf es el to ta e v) (hl : l.length ≤ 128) (hg : sf_G it0 (s * 128) l)
    (h : ∀ sx' it', sf_U it0 it' (n * 128) → sf_G it' (n * 128) (sf_ft (fun x => v x 0) l l.length) → post (nI n) (nI NC, nI EC, nI OC, nI tc, nI ec, nI nc, xr, xm, xt, xe, to, ta, es, el, ed, se, sx', kd, sa, sb, ex1, ex2, pm1, pm2, us, hc, ts, upd nl n (nI (sf_ft (fun x => v x 0) l l.length).length), it')) :
    ∀ (d i : Nat) (sx it : Nat → Int32), i + d = l.length → sf_U it0 it (n * 128) → sf_G it (n * 128) (sf_ft (fun x => v x 0) l i) → wX_filter_48 post (nI s) (nI e) (nI n) (nI l.length) (d + 1) (nI i) (nI NC) (nI EC) (nI OC) (nI tc) (nI ec) (nI nc) xr xm xt xe to ta es el ed se sx kd sa sb ex1 ex2 pm1 pm2 us hc ts (upd nl n (nI (sf_ft (fun x => v x 0) l i).length)) it := by
  intro d
  induction d with
  | zero =>
    intro i sx it hi hU hG
    have ei : i = l.length := by omega
    subst ei
    exact br_t (nI_le (by omega) (by omega)) (h sx it hU hG)
  | succ d ih =>
    intro i sx it hi hU hG
    have hle := sf_ft_len (fun x => v x 0) l i
    have ef : sf_ft (fun x => v x 0) l (i + 1) = if v (l.getD i 0) 0 = 0 then sf_ft (fun x => v x 0) l i else sf_ft (fun x => v x 0) l i ++ [l.getD i 0] := rfl
    refine br_f (nI_ge (by omega) (by omega)) (sf_x_item (by omega) (by omega) ?_)
    rw [sf_rd hU hg hs hl (show i < l.length by omega)]
    refine sf_x_val hw he (fun sx' => ?_)
    by_cases z : v (l.getD i 0) 0 = 0
    · rw [if_pos z] at ef
      refine br_t z (nm_r (nI_1 i) ?_)
      have := ih (i + 1) sx' it (by omega) hU (by rw [ef]; exact hG)
      rw [ef] at this
      exact this
    · rw [if_neg z] at ef
      refine br_f z (sf_x_appl hn (by omega) (nm_r (nI_1 i) ?_))
      have := ih (i + 1) sx' _ (by omega) (sf_Uapp hU) (by rw [ef]; exact sf_Gapp hG _)
      rw [ef, sf_lenapp] at this
      exact this
theorem sf_x_scanloop {post : Int32 → SX → Prop} {s e n : Nat} {v : Int32 → Int32 → Int32} {a : Int32} {l : List Int32} {it0 : Nat → Int32} (hn : n < 16) (hs : s < n) (he : e < 16) (hw : sf_wf es el to ta e v) (hl : l.length ≤ 128) (hg : sf_G it0 (s * 128) l)
    (h : ∀ sx' it', sf_U it0 it' (n * 128) → sf_G it' (n * 128) (sf_tb (fun i => sf_ac v a l (i + 1)) l.length) → post (nI n) (nI NC, nI EC, nI OC, nI tc, nI ec, nI nc, xr, xm, xt, xe, to, ta, es, el, ed, se, sx', kd, sa, sb, ex1, ex2, pm1, pm2, us, hc, ts, upd nl n (nI l.length), it')) :
    ∀ (d i : Nat) (sx it : Nat → Int32), i + d = l.length → sf_U it0 it (n * 128) → sf_G it (n * 128) (sf_tb (fun i => sf_ac v a l (i + 1)) i) → wX_scan_52 post (nI s) (nI e) (nI n) (nI l.length) (d + 1) (sf_ac v a l i) (nI i) (nI NC) (nI EC) (nI OC) (nI tc) (nI ec) (nI nc) xr xm xt xe to ta es el ed se sx kd sa sb ex1 ex2 pm1 pm2 us hc ts (upd nl n (nI i)) it := by
  intro d
  induction d with
  | zero =>
    intro i sx it hi hU hG
    have ei : i = l.length := by omega
    subst ei
    exact br_t (nI_le (by omega) (by omega)) (h sx it hU hG)
  | succ d ih =>
    intro i sx it hi hU hG
    refine br_f (nI_ge (by omega) (by omega)) (sf_x_item (by omega) (by omega) ?_)
    rw [sf_rd hU hg hs hl (show i < l.length by omega)]
    refine sf_x_val hw he (fun sx' => ?_)
    refine sf_x_appl hn (by omega) (nm_r (nI_1 i) ?_)
    exact ih (i + 1) sx' _ (by omega) (sf_Uapp hU) (sf_Gtb hG)
theorem sf_x_ziploop {post : Int32 → SX → Prop} {s t e n c : Nat} {v : Int32 → Int32 → Int32} {l m : List Int32} {it0 : Nat → Int32} (hn : n < 16) (hs : s < n) (ht : t < n) (he : e < 16) (hw : sf_wf es el to ta e v) (hl : l.length ≤ 128) (hm : m.length ≤ 128) (hg : sf_G it0 (s * 128) l) (hg2 : sf_G it0 (t * 128) m) (hc1 : c ≤ l.length) (hc2 : c ≤ m.length)
    (h : ∀ sx' it', sf_U it0 it' (n * 128) → sf_G it' (n * 128) (sf_tb (fun i => v (l.getD i 0) (m.getD i 0)) c) → post (nI n) (nI NC, nI EC, nI OC, nI tc, nI ec, nI nc, xr, xm, xt, xe, to, ta, es, el, ed, se, sx', kd, sa, sb, ex1, ex2, pm1, pm2, us, hc, ts, upd nl n (nI c), it')) :
    ∀ (d i : Nat) (sx it : Nat → Int32), i + d = c → sf_U it0 it (n * 128) → sf_G it (n * 128) (sf_tb (fun i => v (l.getD i 0) (m.getD i 0)) i) → wX_zip_71 post (nI s) (nI t) (nI e) (nI n) (nI c) (d + 1) (nI i) (nI NC) (nI EC) (nI OC) (nI tc) (nI ec) (nI nc) xr xm xt xe to ta es el ed se sx kd sa sb ex1 ex2 pm1 pm2 us hc ts (upd nl n (nI i)) it := by
  intro d
  induction d with
  | zero =>
    intro i sx it hi hU hG
    have ei : i = c := by omega
    subst ei
    exact br_t (nI_le (by omega) (by omega)) (h sx it hU hG)
  | succ d ih =>
    intro i sx it hi hU hG
    refine br_f (nI_ge (by omega) (by omega)) (sf_x_item (by omega) (by omega) ?_)
    rw [sf_rd hU hg hs hl (show i < l.length by omega)]
    refine sf_x_item (by omega) (by omega) ?_
    rw [sf_rd hU hg2 ht hm (show i < m.length by omega)]
    refine sf_x_val hw he (fun sx' => ?_)
    refine sf_x_appl hn (by omega) (nm_r (nI_1 i) ?_)
    exact ih (i + 1) sx' _ (by omega) (sf_Uapp hU) (sf_Gtb hG)
theorem sf_x_copyloop {post : SX → Prop} {s n fr c : Nat} {l : List Int32} {it0 : Nat → Int32} (hn : n < 16) (hs : s < n) (hl : l.length ≤ 128) (hg : sf_G it0 (s * 128) l) (hc1 : fr + c ≤ l.length)
    (h : ∀ it', sf_U it0 it' (n * 128) → sf_G it' (n * 128) (sf_tb (fun i => l.getD (fr + i) 0) c) → post (nI NC, nI EC, nI OC, nI tc, nI ec, nI nc, xr, xm, xt, xe, to, ta, es, el, ed, se, sx, kd, sa, sb, ex1, ex2, pm1, pm2, us, hc, ts, upd nl n (nI c), it')) :
    ∀ (d i : Nat) (it : Nat → Int32), i + d = c → sf_U it0 it (n * 128) → sf_G it (n * 128) (sf_tb (fun i => l.getD (fr + i) 0) i) → wX_copyItems_3 post (nI s) (nI (fr + c)) (nI n) (d + 1) (nI (fr + i)) (nI NC) (nI EC) (nI OC) (nI tc) (nI ec) (nI nc) xr xm xt xe to ta es el ed se sx kd sa sb ex1 ex2 pm1 pm2 us hc ts (upd nl n (nI i)) it := by
  intro d
  induction d with
  | zero =>
    intro i it hi hU hG
    have ei : i = c := by omega
    subst ei
    exact br_t (nI_le (by omega) (by omega)) (h it hU hG)
  | succ d ih =>
    intro i it hi hU hG
    refine br_f (nI_ge (by omega) (by omega)) (sf_x_item (by omega) (by omega) ?_)
    rw [sf_rd hU hg hs hl (show fr + i < l.length by omega)]
    refine sf_x_appl hn (by omega) (nm_r (nI_1 (fr + i)) ?_)
    exact ih (i + 1) _ (by omega) (sf_Uapp hU) (sf_Gtb hG)
theorem sf_x_clamp8 {post : Int32 → Prop} {w : Int32} (h : post (nI (sf_cl w))) : wpX_clamp post w 0 8 := by
  unfold sf_cl at h
  by_cases g : w < 0
  · rw [if_pos g] at h
    exact br_f (Int32.not_le.mpr g) h
  · rw [if_neg g] at h
    by_cases g2 : 8 < w
    · rw [if_pos g2] at h
      exact br_t (Int32.not_lt.mp g) (br_f (Int32.not_le.mpr g2) h)
    · rw [if_neg g2] at h
      obtain ⟨j, hj, rfl⟩ := nI_of g
      rw [nI_clamp hj] at h
      exact br_t (Int32.not_lt.mp g) (br_t (Int32.not_lt.mp g2) h)
theorem sf_x_innerloop {post : SX → Prop} {e n c : Nat} {v : Int32 → Int32 → Int32} {x : Int32} {l0 : List Int32} {it0 : Nat → Int32} (hn : n < 16) (he : e < 16) (hw : sf_wf es el to ta e v) (hl : l0.length + c ≤ 128)
    (h : ∀ sx' it', sf_U it0 it' (n * 128) → sf_G it' (n * 128) (l0 ++ sf_tb (fun j => v x (nI j)) c) → post (nI NC, nI EC, nI OC, nI tc, nI ec, nI nc, xr, xm, xt, xe, to, ta, es, el, ed, se, sx', kd, sa, sb, ex1, ex2, pm1, pm2, us, hc, ts, upd nl n (nI (l0.length + c)), it')) :
    ∀ (d i : Nat) (sx it : Nat → Int32), i + d = c → sf_U it0 it (n * 128) → sf_G it (n * 128) (l0 ++ sf_tb (fun j => v x (nI j)) i) → wX_appendInner_22 post (nI n) x (nI e) (nI c) (d + 1) (nI i) (nI NC) (nI EC) (nI OC) (nI tc) (nI ec) (nI nc) xr xm xt xe to ta es el ed se sx kd sa sb ex1 ex2 pm1 pm2 us hc ts (upd nl n (nI (l0.length + i))) it := by
  intro d
  induction d with
  | zero =>
    intro i sx it hi hU hG
    have ei : i = c := by omega
    subst ei
    exact br_t (nI_le (by omega) (by omega)) (h sx it hU hG)
  | succ d ih =>
    intro i sx it hi hU hG
    refine br_f (nI_ge (by omega) (by omega)) (sf_x_val hw he (fun sx' => ?_))
    refine sf_x_appl hn (by omega) (nm_r (nI_1 i) ?_)
    exact ih (i + 1) sx' _ (by omega) (sf_Uapp hU) (sf_Gtb2 hG)
theorem sf_x_inner {post : SX → Prop} {e e' n : Nat} {v v' : Int32 → Int32 → Int32} {x : Int32} {l0 : List Int32} {it0 : Nat → Int32} (hn : n < 16) (he : e < 16) (he' : e' < 16) (hw : sf_wf es el to ta e v) (hw' : sf_wf es el to ta e' v') (hl : l0.length ≤ 120) (hU : sf_U it0 it (n * 128)) (hG : sf_G it (n * 128) l0)
    (h : ∀ sx' it', sf_U it0 it' (n * 128) → sf_G it' (n * 128) (l0 ++ sf_tb (fun j => v' x (nI j)) (sf_cl (v x 0))) → post (nI NC, nI EC, nI OC, nI tc, nI ec, nI nc, xr, xm, xt, xe, to, ta, es, el, ed, se, sx', kd, sa, sb, ex1, ex2, pm1, pm2, us, hc, ts, upd nl n (nI (l0.length + sf_cl (v x 0))), it')) : wpX_appendInner post (nI NC, nI EC, nI OC, nI tc, nI ec, nI nc, xr, xm, xt, xe, to, ta, es, el, ed, se, sx, kd, sa, sb, ex1, ex2, pm1, pm2, us, hc, ts, upd nl n (nI l0.length), it) (nI n) x (nI e) (nI e') := by
  have h8 := sf_cl8 (v x 0)
  unfold wpX_appendInner
  refine sf_x_val hw he (fun sx' => ?_)
  refine sf_x_clamp8 ⟨sf_cl (v x 0) + 1, ?_⟩
  exact sf_x_innerloop hn he' hw' (by omega) h (sf_cl (v x 0)) 0 sx' it (by omega) hU (by rw [show sf_tb (fun j => v' x (nI j)) 0 = [] from rfl, List.append_nil]; exact hG)
theorem sf_x_cmloop {post : Int32 → SX → Prop} {s e e' n : Nat} {v v' : Int32 → Int32 → Int32} {l : List Int32} {it0 : Nat → Int32} (hn : n < 16) (hs : s < n) (he : e < 16) (he' : e' < 16) (hw : sf_wf es el to ta e v) (hw' : sf_wf es el to ta e' v') (hl : l.length ≤ 16) (hg : sf_G it0 (s * 128) l)
    (h : ∀ sx' it', sf_U it0 it' (n * 128) → sf_G it' (n * 128) (sf_cm (fun x => v x 0) v' l l.length) → post (nI n) (nI NC, nI EC, nI OC, nI tc, nI ec, nI nc, xr, xm, xt, xe, to, ta, es, el, ed, se, sx', kd, sa, sb, ex1, ex2, pm1, pm2, us, hc, ts, upd nl n (nI (sf_cm (fun x => v x 0) v' l l.length).length), it')) :
    ∀ (d i : Nat) (sx it : Nat → Int32), i + d = l.length → sf_U it0 it (n * 128) → sf_G it (n * 128) (sf_cm (fun x => v x 0) v' l i) → wX_concatMap_67 post (nI s) (nI e) (nI e') (nI n) (nI l.length) (d + 1) (nI i) (nI NC) (nI EC) (nI OC) (nI tc) (nI ec) (nI nc) xr xm xt xe to ta es el ed se sx kd sa sb ex1 ex2 pm1 pm2 us hc ts (upd nl n (nI (sf_cm (fun x => v x 0) v' l i).length)) it := by
  intro d
  induction d with
  | zero =>
    intro i sx it hi hU hG
    have ei : i = l.length := by omega
    subst ei
    exact br_t (nI_le (by omega) (by omega)) (h sx it hU hG)
  | succ d ih =>
    intro i sx it hi hU hG
    have hle := sf_cm_len (fun x => v x 0) v' l i
    refine br_f (nI_ge (by omega) (by omega)) (sf_x_item (by omega) (by omega) ?_)
    rw [sf_rd hU hg hs (by omega) (show i < l.length by omega)]
    refine sf_x_inner hn he he' hw hw' (by omega) hU hG (fun sx' it' hU' hG' => nm_r (nI_1 i) ?_)
    have := ih (i + 1) sx' it' (by omega) hU' hG'
    rw [show (sf_cm (fun x => v x 0) v' l (i + 1)).length = (sf_cm (fun x => v x 0) v' l i).length + sf_cl (v (l.getD i 0) 0) from by
      show (sf_cm (fun x => v x 0) v' l i ++ sf_tb (fun j => v' (l.getD i 0) (nI j)) (sf_cl (v (l.getD i 0) 0))).length = _
      rw [List.length_append, sf_tb_len]] at this
    exact this
end
