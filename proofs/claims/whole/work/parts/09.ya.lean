section
variable {NC EC OC tc ec nc : Nat} {xr xm xt xe wc wm ac en ro mo tt : Int32} {to ta es el ed se sx kd sa sb ex1 ex2 pm1 pm2 us hc ts nl it ys yw yv yl : Nat → Int32}
/-! the reference's questions -/
theorem sf_y_wf1 {post : Int32 → Prop} {e : Nat} (hE : sf_E ec tc es el ed se to) (he : e < ec) (hd : ed e = 1) (h : post 1) : wpY_wellFormed post (nI NC, nI EC, nI OC, nI nc, nI ec, nI tc, wc, wm, ac, en, ro, mo, tt, kd, sa, sb, ex1, ex2, pm1, pm2, us, es, el, ed, se, to, ta, ys, yw, yv, yl) (nI e) := by
  have h16 := hE.1
  obtain ⟨f, l, q1, q2, q3, q4, -⟩ := sf_E_wf (ta := ta) hE he hd
  have ce : (nI e).toNatClampNeg = e := nI_clamp (by omega)
  refine br_f (nI_pos (by omega)) (br_f (nI_ge he (by omega)) ⟨vp_in_nI (by omega) (by omega), br_f ?_ ⟨vp_in_nI (by omega) (by omega), br_t ?_ h⟩⟩)
  · rw [ce, q2]; exact nI_nlt (b := 1) q3 (by omega)
  · rw [ce]; exact hd
theorem sf_y_wf0 {post : Int32 → Prop} {e : Int32} (h16 : ec ≤ 16) (hn : ¬ sf_isw ec ed e) (h : post 0) : wpY_wellFormed post (nI NC, nI EC, nI OC, nI nc, nI ec, nI tc, wc, wm, ac, en, ro, mo, tt, kd, sa, sb, ex1, ex2, pm1, pm2, us, es, el, ed, se, to, ta, ys, yw, yv, yl) e := by
  rcases pk_ix e (n := ec) (by omega) with g | g | ⟨j, hj, rfl⟩
  · exact br_t g h
  · by_cases z : e < 0
    · exact br_t z h
    · exact br_f z (br_t g h)
  · refine br_f (nI_pos (by omega)) (br_f (nI_ge hj (by omega)) ⟨vp_in_nI (by omega) (by omega), br_c (fun _ => h) (fun _ => ⟨vp_in_nI (by omega) (by omega), br_f ?_ h⟩)⟩)
    rw [nI_clamp (by omega)]
    exact fun z => hn ⟨j, hj, rfl, z⟩
theorem sf_y_bad0 {post : Int32 → Prop} {s : Nat} (h16 : nc ≤ 16) (hs : s < nc) (hu : us s = 0) (h : post 0) : wpY_badSrc post (nI NC, nI EC, nI OC, nI nc, nI ec, nI tc, wc, wm, ac, en, ro, mo, tt, kd, sa, sb, ex1, ex2, pm1, pm2, us, es, el, ed, se, to, ta, ys, yw, yv, yl) (nI s) := by
  refine br_f (nI_pos (by omega)) (br_f (nI_ge hs (by omega)) ⟨vp_in_nI (by omega) (by omega), br_t ?_ h⟩)
  rw [nI_clamp (by omega)]; exact hu
theorem sf_y_bad1 {post : Int32 → Prop} {s : Int32} (h16 : nc ≤ 16) (hn : ¬ sf_isf nc us s) (h : post 1) : wpY_badSrc post (nI NC, nI EC, nI OC, nI nc, nI ec, nI tc, wc, wm, ac, en, ro, mo, tt, kd, sa, sb, ex1, ex2, pm1, pm2, us, es, el, ed, se, to, ta, ys, yw, yv, yl) s := by
  rcases pk_ix s (n := nc) (by omega) with g | g | ⟨j, hj, rfl⟩
  · exact br_t g h
  · by_cases z : s < 0
    · exact br_t z h
    · exact br_f z (br_t g h)
  · refine br_f (nI_pos (by omega)) (br_f (nI_ge hj (by omega)) ⟨vp_in_nI (by omega) (by omega), br_f ?_ h⟩)
    rw [nI_clamp (by omega)]
    exact fun z => hn ⟨j, hj, rfl, z⟩
/-! the reference's evaluation -/
abbrev sf_TJ : Type := Int32 → Int32 → (Nat → Int32) → (Nat → Int32) → (Nat → Int32) → (Nat → Int32) → (Nat → Int32) → (Nat → Int32) → (Nat → Int32) → (Nat → Int32) → (Nat → Int32) → (Nat → Int32) → (Nat → Int32) → (Nat → Int32) → (Nat → Int32) → (Nat → Int32) → (Nat → Int32) → (Nat → Int32) → (Nat → Int32) → (Nat → Int32) → Prop
theorem sf_y_e105 {post : Int32 → SY → Prop} {J : sf_TJ} {x1 x y z : Int32} {d m : Nat} (hd : d < 8) (hJ : J (nI (d + 1)) (nI (m + 1)) kd sa sb ex1 ex2 pm1 pm2 us es el ed se to ta (upd ys d z) yw yv yl) : wY_eval_105 post J x1 x y (nI d) (nI m) z (nI NC) (nI EC) (nI OC) (nI nc) (nI ec) (nI tc) wc wm ac en ro mo tt kd sa sb ex1 ex2 pm1 pm2 us es el ed se to ta ys yw yv yl := by
  refine br_f (nI_ge (b := 8) hd (by decide)) ⟨vp_in_nI hd (by omega), nm_r (e' := upd ys d z) ?_ (nm_r (nI_1 d) (nm_r (nI_1 m) hJ))⟩
  rw [nI_clamp (by omega)]
theorem sf_y_e79 {post : Int32 → SY → Prop} {J : sf_TJ} {x1 x y : Int32} {d m k o : Nat} (hd : d < 8) (hk : k < 128) (ho : o < 3) (hJ : J (nI (d + 1)) (nI (m + 1)) kd sa sb ex1 ex2 pm1 pm2 us es el ed se to ta (upd ys d (sf_opd (nI o) (ta k) x y)) yw yv yl) : wY_eval_79 post J x1 x y (nI d) (nI m) (nI k) (nI o) (nI NC) (nI EC) (nI OC) (nI nc) (nI ec) (nI tc) wc wm ac en ro mo tt kd sa sb ex1 ex2 pm1 pm2 us es el ed se to ta ys yw yv yl := by
  have e : o = 0 ∨ o = 1 ∨ o = 2 := by omega
  rcases e with e | e | e
  · subst e
    refine br_t (by decide) ⟨vp_in_nI hk (by omega), ?_⟩
    rw [nI_clamp (by omega)]
    exact sf_y_e105 hd hJ
  · subst e
    exact br_f (by decide) (br_t (by decide) (sf_y_e105 hd hJ))
  · subst e
    exact br_f (by decide) (br_f (by decide) (sf_y_e105 hd hJ))
theorem sf_y_e305 {post : Int32 → SY → Prop} {J : sf_TJ} {x1 x y z : Int32} {d m : Nat} (hd : 2 ≤ d) (hd8 : d ≤ 8) (hJ : J (nI (d - 1)) (nI (m + 1)) kd sa sb ex1 ex2 pm1 pm2 us es el ed se to ta (upd ys (d - 2) z) yw yv yl) : wY_eval_305 post J x1 x y (nI d) (nI m) z (nI NC) (nI EC) (nI OC) (nI nc) (nI ec) (nI tc) wc wm ac en ro mo tt kd sa sb ex1 ex2 pm1 pm2 us es el ed se to ta ys yw yv yl := by
  refine nm_r (sf_m1 (by omega)) ⟨pk_in (d - 2) 8 (by omega) (sf_s1 (by omega)), nm_r (e' := upd ys (d - 2) z) ?_ (nm_r (nI_1 m) hJ)⟩
  rw [sf_s1 (by omega), nI_clamp (by omega)]
  rfl
theorem sf_y_vloop {post : Int32 → SY → Prop} {e f l : Nat} {x y : Int32} (he : e < 16) (q1 : es e = nI f) (q2 : el e = nI l) (hlg : sf_lg to f l) (hf : f + l ≤ 128) (hd1 : sf_dp to f l = 1)
    (h : ∀ ys', post (sf_sk to ta f x y l 0) (nI NC, nI EC, nI OC, nI nc, nI ec, nI tc, wc, wm, ac, en, ro, mo, tt, kd, sa, sb, ex1, ex2, pm1, pm2, us, es, el, ed, se, to, ta, ys', yw, yv, yl)) :
    ∀ (d m : Nat) (ys : Nat → Int32), m + d = l → sf_A ys (sf_sk to ta f x y m) (sf_dp to f m) → wY_eval_16 post (nI e) x y (nI NC) (nI EC) (nI OC) (nI nc) (nI ec) (nI tc) wc wm ac en ro mo tt (d + 1) (nI (sf_dp to f m)) (nI m) kd sa sb ex1 ex2 pm1 pm2 us es el ed se to ta ys yw yv yl := by
  have ce : (nI e).toNatClampNeg = e := nI_clamp (by omega)
  have ve : vp_in (nI e) 16 := vp_in_nI he (by omega)
  intro d
  induction d with
  | zero =>
    intro m ys hm hA
    have em : m = l := by omega
    subst em
    refine ⟨ve, br_t (by rw [ce, q2]; exact nI_le (Nat.le_refl m) (by omega)) (br_f ?_ ?_)⟩
    · rw [hd1]; decide
    · rw [hA 0 (by omega)]
      exact h ys
  | succ d ih =>
    intro m ys hm hA
    obtain ⟨o, ho, et, g1, g2⟩ := hlg m (by omega)
    have d8 := sf_dp8 hlg m (by omega)
    refine ⟨ve, br_f (by rw [ce, q2]; exact nI_ge (by omega) (by omega)) ⟨ve, nm_r (e' := nI (f + m)) (by rw [ce, q1, nI_add]) (br_f (nI_pos (by omega)) (br_t (nI_lt (b := 128) (by omega) (by decide)) ⟨vp_in_nI (by omega) (by omega), nm_r (e' := nI o) (by rw [nI_clamp (by omega)]; exact et) ?_⟩))⟩⟩
    by_cases h3 : o < 3
    · have hJ := ih (m + 1) _ (by omega) (sf_A_p (ta := ta) (x := x) (y := y) et h3 hA)
      rw [sf_dp_p et h3] at hJ
      have hr : wY_eval_79 post (wY_eval_16 post (nI e) x y (nI NC) (nI EC) (nI OC) (nI nc) (nI ec) (nI tc) wc wm ac en ro mo tt (d + 1)) (nI e) x y (nI (sf_dp to f m)) (nI m) (nI (f + m)) (nI o) (nI NC) (nI EC) (nI OC) (nI nc) (nI ec) (nI tc) wc wm ac en ro mo tt kd sa sb ex1 ex2 pm1 pm2 us es el ed se to ta ys yw yv yl := sf_y_e79 (g1 h3) (by omega) h3 hJ
      have eo : o = 0 ∨ o = 1 ∨ o = 2 := by omega
      rcases eo with z | z | z
      · subst z
        exact br_t (by decide) hr
      · subst z
        exact br_f (by decide) (br_t (by decide) hr)
      · subst z
        exact br_f (by decide) (br_f (by decide) (br_t (by decide) hr))
    · have dm := g2 (by omega)
      have hJ := ih (m + 1) _ (by omega) (sf_A_b (ta := ta) (x := x) (y := y) et (by omega) ho dm hA)
      rw [sf_dp_b et (by omega) ho] at hJ
      have hr : wY_eval_305 post (wY_eval_16 post (nI e) x y (nI NC) (nI EC) (nI OC) (nI nc) (nI ec) (nI tc) wc wm ac en ro mo tt (d + 1)) (nI e) x y (nI (sf_dp to f m)) (nI m) (sf_cmb (nI o) (ys (sf_dp to f m - 2)) (ys (sf_dp to f m - 1))) (nI NC) (nI EC) (nI OC) (nI nc) (nI ec) (nI tc) wc wm ac en ro mo tt kd sa sb ex1 ex2 pm1 pm2 us es el ed se to ta ys yw yv yl := sf_y_e305 dm d8 hJ
      have i1 : nI (sf_dp to f m) - 1 = nI (sf_dp to f m - 1) := sf_s1 (by omega)
      have i2 : nI (sf_dp to f m) - 2 = nI (sf_dp to f m - 2) := sf_s2 (by omega)
      have v1 : vp_in (nI (sf_dp to f m) - 1) 8 := pk_in (sf_dp to f m - 1) 8 (by omega) i1
      have v2 : vp_in (nI (sf_dp to f m) - 2) 8 := pk_in (sf_dp to f m - 2) 8 (by omega) i2
      have w1 : ys (nI (sf_dp to f m) - 1).toNatClampNeg = ys (sf_dp to f m - 1) := by rw [i1, nI_clamp (by omega)]
      have w2 : ys (nI (sf_dp to f m) - 2).toNatClampNeg = ys (sf_dp to f m - 2) := by rw [i2, nI_clamp (by omega)]
      have n2 : ¬ nI (sf_dp to f m) < 2 := nI_nlt (b := 2) dm (by omega)
      generalize ys (sf_dp to f m - 1) = b at hr w1
      generalize ys (sf_dp to f m - 2) = a at hr w2
      have eo : o = 3 ∨ o = 4 ∨ o = 5 ∨ o = 6 ∨ o = 7 ∨ o = 8 ∨ o = 9 := by omega
      rcases eo with z | z | z | z | z | z | z <;> subst z <;> refine br_f (by decide) (br_f (by decide) (br_f (by decide) (br_f n2 ⟨v1, nm_r w1 ⟨v2, nm_r w2 ?_⟩⟩)))
      · rw [sf_cmb3] at hr
        exact br_t (by decide) (nm_e hr)
      · rw [sf_cmb4] at hr
        exact br_f (by decide) (br_t (by decide) (nm_e hr))
      · rw [sf_cmb5] at hr
        exact br_f (by decide) (br_f (by decide) (br_t (by decide) (nm_e hr)))
      · rw [sf_cmb6] at hr
        refine br_f (by decide) (br_f (by decide) (br_f (by decide) (br_t (by decide) ?_)))
        by_cases z : b = 0
        · rw [if_pos z] at hr; exact br_t z hr
        · rw [if_neg z] at hr; exact br_f z ⟨z, hr⟩
      · rw [sf_cmb7] at hr
        refine br_f (by decide) (br_f (by decide) (br_f (by decide) (br_f (by decide) (br_t (by decide) ?_))))
        by_cases z : b = 0
        · rw [if_pos z] at hr; exact br_t z hr
        · rw [if_neg z] at hr; exact br_f z ⟨z, hr⟩
      · rw [sf_cmb8] at hr
        refine br_f (by decide) (br_f (by decide) (br_f (by decide) (br_f (by decide) (br_f (by decide) (br_t (by decide) ?_)))))
        by_cases z : a < b
        · rw [if_pos z] at hr; exact br_f (Int32.not_le.mpr z) hr
        · rw [if_neg z] at hr; exact br_t (Int32.not_lt.mp z) hr
      · rw [sf_cmb9] at hr
        refine br_f (by decide) (br_f (by decide) (br_f (by decide) (br_f (by decide) (br_f (by decide) (br_f (by decide) (br_t (by decide) ?_))))))
        by_cases z : a = b
        · rw [if_pos z] at hr; exact br_t z hr
        · rw [if_neg z] at hr; exact br_f z hr
theorem sf_y_eval {post : Int32 → SY → Prop} {e : Nat} {p x y : Int32} (hE : sf_E ec tc es el ed se to) (he : e < ec) (hd : ed e = 1) (hp : p = nI e) (h : ∀ ys', post (sf_V es el to ta e x y) (nI NC, nI EC, nI OC, nI nc, nI ec, nI tc, wc, wm, ac, en, ro, mo, tt, kd, sa, sb, ex1, ex2, pm1, pm2, us, es, el, ed, se, to, ta, ys', yw, yv, yl)) : wpY_eval post (nI NC, nI EC, nI OC, nI nc, nI ec, nI tc, wc, wm, ac, en, ro, mo, tt, kd, sa, sb, ex1, ex2, pm1, pm2, us, es, el, ed, se, to, ta, ys, yw, yv, yl) p x y := by
  subst hp
  have h16 := hE.1
  obtain ⟨f, l, q1, q2, q3, q4, q5, q6, q7, q8⟩ := sf_E_wf (ta := ta) hE he hd
  rw [q8] at h
  unfold wpY_eval
  refine sf_y_wf1 hE he hd (br_f (by decide) ⟨l + 1, ?_⟩)
  exact sf_y_vloop (by omega) q1 q2 q6 q5 q7 h l 0 ys (by omega) sf_A0
theorem sf_y_eval0 {post : Int32 → SY → Prop} {e x y : Int32} (h16 : ec ≤ 16) (hn : ¬ sf_isw ec ed e) (h : post 0 (nI NC, nI EC, nI OC, nI nc, nI ec, nI tc, wc, wm, ac, en, ro, mo, tt, kd, sa, sb, ex1, ex2, pm1, pm2, us, es, el, ed, se, to, ta, ys, yw, yv, yl)) : wpY_eval post (nI NC, nI EC, nI OC, nI nc, nI ec, nI tc, wc, wm, ac, en, ro, mo, tt, kd, sa, sb, ex1, ex2, pm1, pm2, us, es, el, ed, se, to, ta, ys, yw, yv, yl) e x y := by
  unfold wpY_eval
  exact sf_y_wf0 h16 hn (br_t rfl h)
/-! the reference's new node -/
theorem sf_y_109 {post : Int32 → SY → Prop} {o : Option Nat} {x8 : Int32} (ho : ∀ j, o = some j → j < 16) (h : post x8 (nI NC, nI EC, nI OC, nI (nc + 1), nI ec, nI tc, wc, wm, ac, en, ro, mo, tt, kd, sa, sb, ex1, ex2, pm1, pm2, us, es, el, ed, sf_su se o, to, ta, ys, yw, yv, yl)) : wY_add_109 post (sf_o o) x8 (nI NC) (nI EC) (nI OC) (nI nc) (nI ec) (nI tc) wc wm ac en ro mo tt kd sa sb ex1 ex2 pm1 pm2 us es el ed se to ta ys yw yv yl := by
  cases o with
  | none => exact br_t (by decide) (nm_r (nI_1 nc) h)
  | some s =>
    have hs := ho s rfl
    refine br_f (nI_pos (by omega)) ⟨vp_in_nI hs (by omega), nm_r (e' := upd se s 1) ?_ (nm_r (nI_1 nc) h)⟩
    rw [show sf_o (some s) = nI s from rfl, nI_clamp (by omega), sf_vb1]
theorem sf_y_96 {post : Int32 → SY → Prop} {o b : Option Nat} {x8 : Int32} (ho : ∀ j, o = some j → j < 16) (hb : ∀ j, b = some j → j < 16) (h : post x8 (nI NC, nI EC, nI OC, nI (nc + 1), nI ec, nI tc, wc, wm, ac, en, ro, mo, tt, kd, sa, sb, ex1, ex2, pm1, pm2, us, es, el, ed, sf_su (sf_su se o) b, to, ta, ys, yw, yv, yl)) : wY_add_96 post (sf_o o) (sf_o b) x8 (nI NC) (nI EC) (nI OC) (nI nc) (nI ec) (nI tc) wc wm ac en ro mo tt kd sa sb ex1 ex2 pm1 pm2 us es el ed se to ta ys yw yv yl := by
  cases o with
  | none => exact br_t (by decide) (sf_y_109 hb h)
  | some s =>
    have hs := ho s rfl
    refine br_f (nI_pos (by omega)) ⟨vp_in_nI hs (by omega), nm_r (e' := upd se s 1) ?_ (sf_y_109 hb h)⟩
    rw [show sf_o (some s) = nI s from rfl, nI_clamp (by omega), sf_vb1]
theorem sf_y_85 {post : Int32 → SY → Prop} {b e f : Option Nat} {x8 : Int32} (hb : ∀ j, b = some j → j < 16) (he : ∀ j, e = some j → j < 16) (hf : ∀ j, f = some j → j < 16) (h : post x8 (nI NC, nI EC, nI OC, nI (nc + 1), nI ec, nI tc, wc, wm, ac, en, ro, mo, tt, kd, sa, sb, ex1, ex2, pm1, pm2, sf_su us b, es, el, ed, sf_su (sf_su se e) f, to, ta, ys, yw, yv, yl)) : wY_add_85 post (sf_o b) (sf_o e) (sf_o f) x8 (nI NC) (nI EC) (nI OC) (nI nc) (nI ec) (nI tc) wc wm ac en ro mo tt kd sa sb ex1 ex2 pm1 pm2 us es el ed se to ta ys yw yv yl := by
  cases b with
  | none => exact br_t (by decide) (sf_y_96 he hf h)
  | some s =>
    have hs := hb s rfl
    refine br_f (nI_pos (by omega)) ⟨vp_in_nI hs (by omega), nm_r (e' := upd us s 1) ?_ (sf_y_96 he hf h)⟩
    rw [show sf_o (some s) = nI s from rfl, nI_clamp (by omega), sf_vb1]
theorem sf_y_add {post : Int32 → SY → Prop} {k p q : Int32} {a b e f : Option Nat} (hn : nc < 16) (hu : us nc = 0) (ha : ∀ j, a = some j → j < 16) (hb : ∀ j, b = some j → j < 16) (he : ∀ j, e = some j → j < 16) (hf : ∀ j, f = some j → j < 16)
    (h : post (nI nc) (nI NC, nI EC, nI OC, nI (nc + 1), nI ec, nI tc, wc, wm, ac, en, ro, mo, tt, upd kd nc k, upd sa nc (sf_o a), upd sb nc (sf_o b), upd ex1 nc (sf_o e), upd ex2 nc (sf_o f), upd pm1 nc p, upd pm2 nc q, sf_su (sf_su us a) b, es, el, ed, sf_su (sf_su se e) f, to, ta, ys, yw, yv, yl)) : wpY_add post (nI NC, nI EC, nI OC, nI nc, nI ec, nI tc, wc, wm, ac, en, ro, mo, tt, kd, sa, sb, ex1, ex2, pm1, pm2, us, es, el, ed, se, to, ta, ys, yw, yv, yl) k (sf_o a) (sf_o b) (sf_o e) (sf_o f) p q := by
  have vn : vp_in (nI nc) 16 := vp_in_nI hn (by omega)
  have cn : (nI nc).toNatClampNeg = nc := nI_clamp (by omega)
  have e0 : upd us (nI nc).toNatClampNeg (vp_nar .boolean 0) = us := by rw [cn, sf_vb0]; exact sf_updid hu
  refine ⟨vn, nm_r (congrArg (fun j => upd kd j k) cn) ⟨vn, nm_r (congrArg (fun j => upd sa j (sf_o a)) cn) ⟨vn, nm_r (congrArg (fun j => upd sb j (sf_o b)) cn) ⟨vn, nm_r (congrArg (fun j => upd ex1 j (sf_o e)) cn) ⟨vn, nm_r (congrArg (fun j => upd ex2 j (sf_o f)) cn) ⟨vn, nm_r (congrArg (fun j => upd pm1 j p) cn) ⟨vn, nm_r (congrArg (fun j => upd pm2 j q) cn) ⟨vn, nm_r e0 ?_⟩⟩⟩⟩⟩⟩⟩⟩
  cases a with
  | none => exact br_t (by decide) (sf_y_85 hb he hf h)
  | some s =>
    have hs := ha s rfl
    refine br_f (nI_pos (by omega)) ⟨vp_in_nI hs (by omega), nm_r (e' := upd us s 1) ?_ (sf_y_85 hb he hf h)⟩
    rw [show sf_o (some s) = nI s from rfl, nI_clamp (by omega), sf_vb1]
end
