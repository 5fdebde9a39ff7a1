section
variable {NC EC OC tc ec nc : Nat} {xr xm xt xe wc wm ac en ro mo tt : Int32} {to ta es el ed se sx kd sa sb ex1 ex2 pm1 pm2 us hc ts nl it ys yw yv yl : Nat → Int32}
/-! the component's small methods -/
theorem sf_x_bin {post : Int32 → Prop} {o : Nat} (ho : o < 10) (h0 : o < 3 → post 0) (h1 : 3 ≤ o → post 1) : wpX_isBinary post (nI o) := by
  by_cases h : o < 3
  · exact br_t (sf_lt3 h) (h0 h)
  · exact br_f (sf_nlt3 (by omega) ho) (h1 (by omega))
theorem sf_x_opd {post : Int32 → Prop} {o a x y : Int32} (h : post (sf_opd o a x y)) : wpX_operand post o a x y := by
  unfold sf_opd at h
  by_cases h0 : o = 0
  · rw [if_pos h0] at h; exact br_t h0 h
  · rw [if_neg h0] at h
    by_cases h1 : o = 1
    · rw [if_pos h1] at h; exact br_f h0 (br_t h1 h)
    · rw [if_neg h1] at h; exact br_f h0 (br_f h1 h)
theorem sf_cmb3 {a b : Int32} : sf_cmb (nI 3) a b = a + b := if_pos rfl
theorem sf_cmb4 {a b : Int32} : sf_cmb (nI 4) a b = a - b := by
  unfold sf_cmb; rw [if_neg (by decide), if_pos (by decide)]
theorem sf_cmb5 {a b : Int32} : sf_cmb (nI 5) a b = a * b := by
  unfold sf_cmb; rw [if_neg (by decide), if_neg (by decide), if_pos (by decide)]
theorem sf_cmb6 {a b : Int32} : sf_cmb (nI 6) a b = if b = 0 then 0 else a / b := by
  unfold sf_cmb; rw [if_neg (by decide), if_neg (by decide), if_neg (by decide), if_pos (by decide)]
theorem sf_cmb7 {a b : Int32} : sf_cmb (nI 7) a b = if b = 0 then 0 else a - a / b * b := by
  unfold sf_cmb; rw [if_neg (by decide), if_neg (by decide), if_neg (by decide), if_neg (by decide), if_pos (by decide)]
theorem sf_cmb8 {a b : Int32} : sf_cmb (nI 8) a b = if a < b then 1 else 0 := by
  unfold sf_cmb; rw [if_neg (by decide), if_neg (by decide), if_neg (by decide), if_neg (by decide), if_neg (by decide), if_pos (by decide)]
theorem sf_cmb9 {a b : Int32} : sf_cmb (nI 9) a b = if a = b then 1 else 0 := by
  unfold sf_cmb; rw [if_neg (by decide), if_neg (by decide), if_neg (by decide), if_neg (by decide), if_neg (by decide), if_neg (by decide)]
theorem sf_o7 {P : Nat → Prop} {o : Nat} (h : 3 ≤ o) (h2 : o < 10) (h3 : P 3) (h4 : P 4) (h5 : P 5) (h6 : P 6) (h7 : P 7) (h8 : P 8) (h9 : P 9) : P o := by
  have e : o = 3 ∨ o = 4 ∨ o = 5 ∨ o = 6 ∨ o = 7 ∨ o = 8 ∨ o = 9 := by omega
  rcases e with e | e | e | e | e | e | e <;> subst e <;> assumption
theorem sf_x_comb {post : Int32 → Prop} {o : Nat} {a b : Int32} (h3 : 3 ≤ o) (h10 : o < 10) (h : post (sf_cmb (nI o) a b)) : wpX_combine post (nI o) a b := by
  revert h
  refine sf_o7 (P := fun o => post (sf_cmb (nI o) a b) → wpX_combine post (nI o) a b) h3 h10 ?_ ?_ ?_ ?_ ?_ ?_ ?_ <;> intro h
  · rw [sf_cmb3] at h
    exact br_f (by decide) (br_f (by decide) (br_t (by decide) h))
  · rw [sf_cmb4] at h
    exact br_f (by decide) (br_f (by decide) (br_f (by decide) (br_t (by decide) h)))
  · rw [sf_cmb5] at h
    exact br_f (by decide) (br_f (by decide) (br_f (by decide) (br_f (by decide) (br_t (by decide) h))))
  · rw [sf_cmb6] at h
    refine br_f (by decide) (br_f (by decide) (br_f (by decide) (br_f (by decide) (br_f (by decide) (br_t (by decide) ?_)))))
    by_cases z : b = 0
    · rw [if_pos z] at h; exact br_t z h
    · rw [if_neg z] at h; exact br_f z ⟨z, h⟩
  · rw [sf_cmb7] at h
    refine br_f (by decide) (br_f (by decide) (br_f (by decide) (br_f (by decide) (br_f (by decide) (br_f (by decide) (br_t (by decide) ?_))))))
    by_cases z : b = 0
    · rw [if_pos z] at h; exact br_t z h
    · rw [if_neg z] at h; exact br_f z ⟨z, h⟩
  · rw [sf_cmb8] at h
    refine br_f (by decide) (br_f (by decide) (br_f (by decide) (br_f (by decide) (br_f (by decide) (br_f (by decide) (br_f (by decide) (br_t (by decide) ?_)))))))
    by_cases z : a < b
    · rw [if_pos z] at h; exact br_f (Int32.not_le.mpr z) h
    · rw [if_neg z] at h; exact br_t (Int32.not_lt.mp z) h
  · rw [sf_cmb9] at h
    refine br_f (by decide) (br_t (by decide) ?_)
    by_cases z : a = b
    · rw [if_pos z] at h; exact br_t z h
    · rw [if_neg z] at h; exact br_f z h
/-! an evaluation -/
theorem sf_x_vloop {post : Int32 → SX → Prop} {f l : Nat} {x y : Int32} (hlg : sf_lg to f l) (hf : f + l ≤ 128) (hd1 : sf_dp to f l = 1)
    (h : ∀ sx', post (sf_sk to ta f x y l 0) (nI NC, nI EC, nI OC, nI tc, nI ec, nI nc, xr, xm, xt, xe, to, ta, es, el, ed, se, sx', kd, sa, sb, ex1, ex2, pm1, pm2, us, hc, ts, nl, it)) :
    ∀ (d m : Nat) (sx : Nat → Int32), m + d = l → sf_A sx (sf_sk to ta f x y m) (sf_dp to f m) → wX_valueOf_26 post x y (nI (f + l)) (nI NC) (nI EC) (nI OC) (nI tc) (nI ec) (nI nc) xr xm xt xe (d + 1) (nI (sf_dp to f m)) (nI (f + m)) to ta es el ed se sx kd sa sb ex1 ex2 pm1 pm2 us hc ts nl it := by
  intro d
  induction d with
  | zero =>
    intro m sx hm hA
    have em : m = l := by omega
    subst em
    refine br_t (nI_le (by omega) (by omega)) ?_
    rw [hA 0 (by omega)]
    exact h sx
  | succ d ih =>
    intro m sx hm hA
    obtain ⟨o, ho, et, g1, g2⟩ := hlg m (by omega)
    have d8 := sf_dp8 hlg m (by omega)
    refine br_f (nI_ge (by omega) (by omega)) ⟨vp_in_nI (by omega) (by omega), ?_⟩
    rw [nI_clamp (show f + m < 2 ^ 31 by omega)]
    refine nm_r et (sf_x_bin ho (fun h3 => br_t rfl ⟨vp_in_nI (by omega) (by omega), ?_⟩) (fun h3 => br_f (by decide) ?_))
    · refine sf_x_opd ?_
      have dm := g1 h3
      refine ⟨vp_in_nI dm (by omega), nm_e (nm_r (nI_1 _) (nm_r (nI_1 _) ?_))⟩
      rw [nI_clamp (show sf_dp to f m < 2 ^ 31 by omega)]
      have := ih (m + 1) _ (by omega) (sf_A_p (ta := ta) (x := x) (y := y) et h3 hA)
      rw [sf_dp_p et h3] at this
      exact this
    · have dm := g2 h3
      have hA' := sf_A_b (ta := ta) (x := x) (y := y) et h3 ho dm hA
      have := ih (m + 1) _ (by omega) hA'
      rw [sf_dp_b et h3 ho] at this
      refine nm_r (sf_m1 (by omega)) ?_
      rw [sf_s1 (show 0 < sf_dp to f m - 1 by omega), show sf_dp to f m - 1 - 1 = sf_dp to f m - 2 by omega, nI_clamp (show sf_dp to f m - 2 < 2 ^ 31 by omega), nI_clamp (show sf_dp to f m - 1 < 2 ^ 31 by omega)]
      refine ⟨vp_in_nI (by omega) (by omega), vp_in_nI (by omega) (by omega), sf_x_comb h3 ho ⟨vp_in_nI (by omega) (by omega), nm_e (nm_r (nI_1 _) ?_)⟩⟩
      exact this
theorem sf_x_val {post : Int32 → SX → Prop} {e : Nat} {v : Int32 → Int32 → Int32} {x y : Int32} (hw : sf_wf es el to ta e v) (he : e < 16) (h : ∀ sx', post (v x y) (nI NC, nI EC, nI OC, nI tc, nI ec, nI nc, xr, xm, xt, xe, to, ta, es, el, ed, se, sx', kd, sa, sb, ex1, ex2, pm1, pm2, us, hc, ts, nl, it)) : wpX_valueOf post (nI NC, nI EC, nI OC, nI tc, nI ec, nI nc, xr, xm, xt, xe, to, ta, es, el, ed, se, sx, kd, sa, sb, ex1, ex2, pm1, pm2, us, hc, ts, nl, it) (nI e) x y := by
  obtain ⟨f, l, q1, q2, q3, q4, q5, q6, q7, q8⟩ := hw
  subst q8
  have ce : (nI e).toNatClampNeg = e := nI_clamp (by omega)
  refine ⟨vp_in_nI he (by omega), nm_r (e' := nI f) (by rw [ce]; exact q1) ⟨vp_in_nI he (by omega), nm_r (e' := nI (f + l)) (by rw [ce, q2, nI_add]) ⟨l + 1, ?_⟩⟩⟩
  exact sf_x_vloop q6 q5 q7 h l 0 sx (by omega) sf_A0
/-! the questions -/
theorem sf_x_wf1 {post : Int32 → Prop} {e : Nat} (h16 : ec ≤ 16) (he : e < ec) (hd : ed e = 1) (h : post 1) : wpX_isWellFormed post (nI NC, nI EC, nI OC, nI tc, nI ec, nI nc, xr, xm, xt, xe, to, ta, es, el, ed, se, sx, kd, sa, sb, ex1, ex2, pm1, pm2, us, hc, ts, nl, it) (nI e) := by
  refine br_f (nI_pos (by omega)) (br_f (nI_ge he (by omega)) ⟨vp_in_nI (by omega) (by omega), br_t ?_ h⟩)
  rw [nI_clamp (by omega)]; exact hd
theorem sf_x_wf0 {post : Int32 → Prop} {e : Int32} (h16 : ec ≤ 16) (hn : ¬ sf_isw ec ed e) (h : post 0) : wpX_isWellFormed post (nI NC, nI EC, nI OC, nI tc, nI ec, nI nc, xr, xm, xt, xe, to, ta, es, el, ed, se, sx, kd, sa, sb, ex1, ex2, pm1, pm2, us, hc, ts, nl, it) e := by
  rcases pk_ix e (n := ec) (by omega) with g | g | ⟨j, hj, rfl⟩
  · exact br_t g h
  · by_cases z : e < 0
    · exact br_t z h
    · exact br_f z (br_t g h)
  · refine br_f (nI_pos (by omega)) (br_f (nI_ge hj (by omega)) ⟨vp_in_nI (by omega) (by omega), br_f ?_ h⟩)
    rw [nI_clamp (by omega)]
    exact fun z => hn ⟨j, hj, rfl, z⟩
theorem sf_x_room1 {post : Int32 → Prop} (hN : NC ≤ 16) (hn : nc < NC) (h : post 1) : wpX_hasRoomForNode post (nI NC, nI EC, nI OC, nI tc, nI ec, nI nc, xr, xm, xt, xe, to, ta, es, el, ed, se, sx, kd, sa, sb, ex1, ex2, pm1, pm2, us, hc, ts, nl, it) := br_f (nI_ge hn (by omega)) h
theorem sf_x_room0 {post : Int32 → Prop} (h16 : nc ≤ 16) (hn : ¬ nc < NC) (h : post 0) : wpX_hasRoomForNode post (nI NC, nI EC, nI OC, nI tc, nI ec, nI nc, xr, xm, xt, xe, to, ta, es, el, ed, se, sx, kd, sa, sb, ex1, ex2, pm1, pm2, us, hc, ts, nl, it) := br_t (nI_le (by omega) (by omega)) h
theorem sf_x_node1 {post : Int32 → Prop} {s : Nat} (h16 : nc ≤ 16) (hs : s < nc) (h : post 1) : wpX_isNode post (nI NC, nI EC, nI OC, nI tc, nI ec, nI nc, xr, xm, xt, xe, to, ta, es, el, ed, se, sx, kd, sa, sb, ex1, ex2, pm1, pm2, us, hc, ts, nl, it) (nI s) :=
  br_f (nI_pos (by omega)) (br_f (nI_ge hs (by omega)) h)
theorem sf_x_node0 {post : Int32 → Prop} {s : Int32} (h16 : nc ≤ 16) (hn : ¬ ∃ j, j < nc ∧ s = nI j) (h : post 0) : wpX_isNode post (nI NC, nI EC, nI OC, nI tc, nI ec, nI nc, xr, xm, xt, xe, to, ta, es, el, ed, se, sx, kd, sa, sb, ex1, ex2, pm1, pm2, us, hc, ts, nl, it) s := by
  rcases pk_ix s (n := nc) (by omega) with g | g | g
  · exact br_t g h
  · by_cases z : s < 0
    · exact br_t z h
    · exact br_f z (br_t g h)
  · exact absurd g hn
theorem sf_x_free1 {post : Int32 → Prop} {s : Nat} (h16 : nc ≤ 16) (hs : s < nc) (hu : us s = 0) (h : post 1) : wpX_isFreeNode post (nI NC, nI EC, nI OC, nI tc, nI ec, nI nc, xr, xm, xt, xe, to, ta, es, el, ed, se, sx, kd, sa, sb, ex1, ex2, pm1, pm2, us, hc, ts, nl, it) (nI s) := by
  unfold wpX_isFreeNode
  refine sf_x_node1 h16 hs (br_f (by decide) ⟨vp_in_nI (by omega) (by omega), br_t ?_ h⟩)
  rw [nI_clamp (by omega)]; exact hu
theorem sf_x_free0 {post : Int32 → Prop} {s : Int32} (h16 : nc ≤ 16) (hn : ¬ sf_isf nc us s) (h : post 0) : wpX_isFreeNode post (nI NC, nI EC, nI OC, nI tc, nI ec, nI nc, xr, xm, xt, xe, to, ta, es, el, ed, se, sx, kd, sa, sb, ex1, ex2, pm1, pm2, us, hc, ts, nl, it) s := by
  unfold wpX_isFreeNode
  by_cases g : ∃ j, j < nc ∧ s = nI j
  · obtain ⟨j, hj, rfl⟩ := g
    refine sf_x_node1 h16 hj (br_f (by decide) ⟨vp_in_nI (by omega) (by omega), br_f ?_ h⟩)
    rw [nI_clamp (by omega)]
    exact fun z => hn ⟨j, hj, rfl, z⟩
  · exact sf_x_node0 h16 g (br_t rfl h)
theorem sf_x_item {post : Int32 → Prop} {s i : Nat} (hs : s < 16) (hi : i < 128) (h : post (it (s * 128 + i))) : wpX_item post (nI NC, nI EC, nI OC, nI tc, nI ec, nI nc, xr, xm, xt, xe, to, ta, es, el, ed, se, sx, kd, sa, sb, ex1, ex2, pm1, pm2, us, hc, ts, nl, it) (nI s) (nI i) := by
  unfold wpX_item
  dsimp only
  rw [sf_128, nI_add, nI_clamp (by omega)]
  exact ⟨vp_in_nI (by omega) (by omega), h⟩
theorem sf_x_app {post : SX → Prop} {n c : Nat} {v : Int32} (hn : n < 16) (hcc : c < 128) (hl : nl n = nI c) (h : post (nI NC, nI EC, nI OC, nI tc, nI ec, nI nc, xr, xm, xt, xe, to, ta, es, el, ed, se, sx, kd, sa, sb, ex1, ex2, pm1, pm2, us, hc, ts, upd nl n (nI (c + 1)), upd it (n * 128 + c) v)) : wpX_append post (nI NC, nI EC, nI OC, nI tc, nI ec, nI nc, xr, xm, xt, xe, to, ta, es, el, ed, se, sx, kd, sa, sb, ex1, ex2, pm1, pm2, us, hc, ts, nl, it) (nI n) v := by
  unfold wpX_append
  dsimp only
  rw [sf_128, nI_clamp (show n < 2 ^ 31 by omega), hl, nI_add, nI_clamp (show n * 128 + c < 2 ^ 31 by omega), nI_1]
  exact ⟨vp_in_nI hn (by omega), vp_in_nI (by omega) (by omega), nm_e ⟨vp_in_nI hn (by omega), vp_in_nI hn (by omega), nm_e h⟩⟩
/-- the same over a list that grows -/
theorem sf_x_appl {post : SX → Prop} {n c : Nat} {v : Int32} (hn : n < 16) (hcc : c < 128) (h : post (nI NC, nI EC, nI OC, nI tc, nI ec, nI nc, xr, xm, xt, xe, to, ta, es, el, ed, se, sx, kd, sa, sb, ex1, ex2, pm1, pm2, us, hc, ts, upd nl n (nI (c + 1)), upd it (n * 128 + c) v)) : wpX_append post (nI NC, nI EC, nI OC, nI tc, nI ec, nI nc, xr, xm, xt, xe, to, ta, es, el, ed, se, sx, kd, sa, sb, ex1, ex2, pm1, pm2, us, hc, ts, upd nl n (nI c), it) (nI n) v :=
  sf_x_app hn hcc pk_us (by rw [sf_updd]; exact h)
theorem sf_x_min {post : Int32 → Prop} {a b : Nat} (ha : a < 2 ^ 31) (hb : b < 2 ^ 31) (h : post (nI (sf_mn a b))) : wpX_smaller post (nI a) (nI b) := by
  unfold sf_mn at h
  by_cases z : a < b
  · rw [if_pos z] at h; exact br_f (nI_ge z hb) h
  · rw [if_neg z] at h; exact br_t (nI_le (by omega) ha) h
end
