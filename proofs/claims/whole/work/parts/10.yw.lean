section
variable {NC EC OC tc ec nc : Nat} {xr xm xt xe wc wm ac en ro mo tt : Int32} {to ta es el ed se sx kd sa sb ex1 ex2 pm1 pm2 us hc ts nl it ys yw yv yl : Nat → Int32}
/-! the reference's walk over a tree -/
abbrev sf_TW : Type := Int32 → Int32 → sf_TJ
theorem sf_y_w132a {post : SY → Prop} {J : sf_TW} {sp g n : Nat} (hn : n < 16) (hb : sb n = -1) (hJ : J (nI sp) (nI (g + 1)) wc wm kd sa sb ex1 ex2 pm1 pm2 us es el ed se to ta ys yw yv yl) : wY_walk_132 post J (nI sp) (nI g) (nI n) (nI NC) (nI EC) (nI OC) (nI nc) (nI ec) (nI tc) wc wm ac en ro mo tt kd sa sb ex1 ex2 pm1 pm2 us es el ed se to ta ys yw yv yl := by
  refine ⟨vp_in_nI hn (by omega), br_t ?_ (nm_r (nI_1 g) hJ)⟩
  rw [nI_clamp (by omega), hb]; decide
theorem sf_y_w132b {post : SY → Prop} {J : sf_TW} {sp g n t : Nat} (hn : n < 16) (ht : t < 16) (hsp : sp < 16) (hb : sb n = nI t) (hJ : J (nI (sp + 1)) (nI (g + 1)) wc wm kd sa sb ex1 ex2 pm1 pm2 us es el ed se to ta ys (upd yw sp (nI t)) yv yl) : wY_walk_132 post J (nI sp) (nI g) (nI n) (nI NC) (nI EC) (nI OC) (nI nc) (nI ec) (nI tc) wc wm ac en ro mo tt kd sa sb ex1 ex2 pm1 pm2 us es el ed se to ta ys yw yv yl := by
  have c1 : sb (nI n).toNatClampNeg = nI t := by rw [nI_clamp (by omega)]; exact hb
  refine ⟨vp_in_nI hn (by omega), br_f (by rw [c1]; exact nI_pos (by omega)) (br_f (nI_ge (b := 16) hsp (by decide)) ⟨vp_in_nI hn (by omega), vp_in_nI hsp (by omega), nm_r (e' := upd yw sp (nI t)) (by rw [c1, nI_clamp (by omega)]) (nm_r (nI_1 sp) (nm_r (nI_1 g) hJ))⟩)⟩
theorem sf_y_w100a {post : SY → Prop} {J : sf_TW} {x2 x3 : Int32} {n : Nat} (hn : n < 16) (hb : sa n = -1) (h : wY_walk_132 post J x2 x3 (nI n) (nI NC) (nI EC) (nI OC) (nI nc) (nI ec) (nI tc) wc wm ac en ro mo tt kd sa sb ex1 ex2 pm1 pm2 us es el ed se to ta ys yw yv yl) : wY_walk_100 post J x2 x3 (nI n) (nI NC) (nI EC) (nI OC) (nI nc) (nI ec) (nI tc) wc wm ac en ro mo tt kd sa sb ex1 ex2 pm1 pm2 us es el ed se to ta ys yw yv yl := by
  refine ⟨vp_in_nI hn (by omega), br_t ?_ h⟩
  rw [nI_clamp (by omega), hb]; decide
theorem sf_y_w100b {post : SY → Prop} {J : sf_TW} {x3 : Int32} {sp n s : Nat} (hn : n < 16) (hs : s < 16) (hsp : sp < 16) (hb : sa n = nI s) (h : wY_walk_132 post J (nI (sp + 1)) x3 (nI n) (nI NC) (nI EC) (nI OC) (nI nc) (nI ec) (nI tc) wc wm ac en ro mo tt kd sa sb ex1 ex2 pm1 pm2 us es el ed se to ta ys (upd yw sp (nI s)) yv yl) : wY_walk_100 post J (nI sp) x3 (nI n) (nI NC) (nI EC) (nI OC) (nI nc) (nI ec) (nI tc) wc wm ac en ro mo tt kd sa sb ex1 ex2 pm1 pm2 us es el ed se to ta ys yw yv yl := by
  have c1 : sa (nI n).toNatClampNeg = nI s := by rw [nI_clamp (by omega)]; exact hb
  refine ⟨vp_in_nI hn (by omega), br_f (by rw [c1]; exact nI_pos (by omega)) (br_f (nI_ge (b := 16) hsp (by decide)) ⟨vp_in_nI hn (by omega), vp_in_nI hsp (by omega), nm_r (e' := upd yw sp (nI s)) (by rw [c1, nI_clamp (by omega)]) (nm_r (nI_1 sp) h)⟩)⟩
theorem sf_y_wloop {post : SY → Prop} {V : Nat → Int32 → Int32 → Int32} {W : Nat → Prop} {LS : Nat → List Int32} {SZ : Nat → Nat} {r : Nat} (hN : sf_N V W nc kd sa sb ex1 ex2 pm1 pm2 us hc ts nl it LS SZ) (hr : r < nc) (h : ∀ w, post (nI NC, nI EC, nI OC, nI nc, nI ec, nI tc, nI (SZ r), hc r, ac, en, ro, mo, tt, kd, sa, sb, ex1, ex2, pm1, pm2, us, es, el, ed, se, to, ta, ys, w, yv, yl)) :
    ∀ (d sp c : Nat) (yw : Nat → Int32) (wm : Int32), c + d = SZ r → sf_wI nc SZ hc yw sp c wm r → wY_walk_37 post (nI NC) (nI EC) (nI OC) (nI nc) (nI ec) (nI tc) ac en ro mo tt (d + 1) (nI sp) (nI c) (nI c) wm kd sa sb ex1 ex2 pm1 pm2 us es el ed se to ta ys yw yv yl := by
  have h16 := hN.1
  have hr2 := (hN.2.1 r hr).2.2.2.2.2.2.2.1
  have hrb := (hN.2.1 r hr).2.2.2.2.2.2.2.2.1
  intro d
  induction d with
  | zero =>
    intro sp c yw wm hc1 hI
    cases sp with
    | zero =>
      obtain ⟨e1, e2⟩ := sf_we hI hrb
      subst e2
      refine br_f (nI_ge (b := 64) (by omega) (by decide)) (br_t (by decide) ?_)
      rw [e1]
      exact h yw
    | succ j =>
      obtain ⟨n, hn, en⟩ := hI.1 j (by omega)
      have q := hI.2.1
      rw [sf_qs_s en (by omega)] at q
      have := (hN.2.1 n hn).2.2.2.2.2.2.1
      omega
  | succ d ih =>
    intro sp c yw wm hc1 hI
    cases sp with
    | zero =>
      have := (sf_we hI hrb).1
      omega
    | succ j =>
      obtain ⟨n, hn, en⟩ := hI.1 j (by omega)
      have room := sf_wroom h16 (fun m hm => (hN.2.1 m hm).2.2.2.2.2.2.1) hr2 hI en hn
      have z1 := (hN.2.1 n hn).2.2.2.2.2.2.1
      have n16 : n < 16 := by omega
      refine br_f (nI_ge (b := 64) (by omega) (by decide)) (br_f (nI_nle (by omega) (by omega)) (nm_r (pk_m1 j) ⟨vp_in_nI (by omega) (by omega), nm_r (e' := nI n) (by rw [nI_clamp (by omega)]; exact en) (br_f (nI_pos (by omega)) (br_t (nI_lt (b := 16) n16 (by decide)) (nm_r (nI_1 c) ⟨vp_in_nI n16 (by omega), ?_⟩)))⟩))
      have cn : (nI n).toNatClampNeg = n := nI_clamp (by omega)
      rw [cn]
      rcases (hN.2.1 n hn).1 with ⟨h1, h2, h3, h4, h5, -⟩ | ⟨s, e, hs, h1, h2, h3, h4, -, -, h6⟩ | ⟨s, m, hs, h1, h2, h3, h4, -, -, h6⟩ | ⟨s, e, f, hs, h1, h2, h3, h4, -, -, -, -, -, h8, -⟩ | ⟨s, t, e, hs, ht, h1, h2, h3, h4, -, -, h6, -⟩
      · refine br_f (by rw [h1]; decide) (sf_y_w100a n16 h2 (sf_y_w132a n16 h3 ?_))
        exact ih j (c + 1) yw wm (by omega) (sf_ws0 h16 hI en hn h4 h5)
      · have k8 : ¬ kd n = 8 := by
          rcases h6 with ⟨h6, -⟩ | ⟨h6, -⟩ | ⟨h6, -⟩ <;> rw [h6] <;> decide
        refine br_f k8 (sf_y_w100b n16 (show s < 16 by omega) (by omega) h1 (sf_y_w132a n16 h2 ?_))
        exact ih (j + 1) (c + 1) _ wm (by omega) (sf_ws1 h16 hI en hn (by omega) h3 h4)
      · have k8 : ¬ kd n = 8 := by
          rcases h6 with ⟨h6, -⟩ | ⟨h6, -⟩ <;> rw [h6] <;> decide
        refine br_f k8 (sf_y_w100b n16 (show s < 16 by omega) (by omega) h1 (sf_y_w132a n16 h2 ?_))
        exact ih (j + 1) (c + 1) _ wm (by omega) (sf_ws1 h16 hI en hn (by omega) h3 h4)
      · refine br_t h8 (sf_y_w100b n16 (show s < 16 by omega) (by omega) h1 (sf_y_w132a n16 h2 ?_))
        exact ih (j + 1) (c + 1) _ 1 (by omega) (sf_ws8 h16 hI en hn (by omega) h3 h4)
      · have g1 := (hN.2.1 s (by omega)).2.2.2.2.2.2.2.2.1
        have g2 := (hN.2.1 t (by omega)).2.2.2.2.2.2.2.2.1
        have y1 := (hN.2.1 s (by omega)).2.2.2.2.2.2.1
        have y2 := (hN.2.1 t (by omega)).2.2.2.2.2.2.1
        refine br_f (by rw [h6]; decide) (sf_y_w100b n16 (show s < 16 by omega) (by omega) h1 (sf_y_w132b n16 (show t < 16 by omega) (by omega) h2 ?_))
        exact ih (j + 2) (c + 1) _ wm (by omega) (sf_ws2 h16 hI en hn (by omega) (by omega) h3 (by rw [h4]; exact (sf_bo g1 g2).2.1))
theorem sf_y_walk {post : SY → Prop} {V : Nat → Int32 → Int32 → Int32} {W : Nat → Prop} {LS : Nat → List Int32} {SZ : Nat → Nat} {r : Nat} (hN : sf_N V W nc kd sa sb ex1 ex2 pm1 pm2 us hc ts nl it LS SZ) (hr : r < nc) (h : ∀ w, post (nI NC, nI EC, nI OC, nI nc, nI ec, nI tc, nI (SZ r), hc r, ac, en, ro, mo, tt, kd, sa, sb, ex1, ex2, pm1, pm2, us, es, el, ed, se, to, ta, ys, w, yv, yl)) : wpY_walk post (nI NC, nI EC, nI OC, nI nc, nI ec, nI tc, wc, wm, ac, en, ro, mo, tt, kd, sa, sb, ex1, ex2, pm1, pm2, us, es, el, ed, se, to, ta, ys, yw, yv, yl) (nI r) := by
  have h16 := hN.1
  refine br_f (nI_pos (by omega)) (br_t (nI_lt hr (by omega)) (nm_e (nm_r (e' := nI 1) (by decide) ⟨SZ r + 1, ?_⟩)))
  exact sf_y_wloop hN hr h (SZ r) 1 0 _ 0 (by omega) (sf_w0 h16 hr)
end
