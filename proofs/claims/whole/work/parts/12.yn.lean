section
variable {NC EC OC tc ec nc : Nat} {xr xm xt xe wc wm ac en ro mo tt : Int32} {to ta es el ed se sx kd sa sb ex1 ex2 pm1 pm2 us hc ts nl it ys yw yv yl : Nat → Int32}
theorem sf_y_50 {post : SY → Prop} {n s c : Nat} {x2 x3 k : Int32} (hk : ¬ k = 1) (hs : s < 16) (hl : yl s = nI c) (h : wY_computeNode_85 post (nI n) x2 x3 k (nI (s * 128)) (nI c) (nI NC) (nI EC) (nI OC) (nI nc) (nI ec) (nI tc) wc wm ac en ro mo tt kd sa sb ex1 ex2 pm1 pm2 us es el ed se to ta ys yw yv yl) : wY_computeNode_50 post (nI n) x2 x3 k (nI s) (nI NC) (nI EC) (nI OC) (nI nc) (nI ec) (nI tc) wc wm ac en ro mo tt kd sa sb ex1 ex2 pm1 pm2 us es el ed se to ta ys yw yv yl := by
  refine br_f hk (br_f hk ⟨vp_in_nI hs (by omega), ?_⟩)
  rw [sf_128, nI_clamp (by omega), hl]
  exact h
theorem sf_y_cn {post : SY → Prop} {n : Nat} {LS : Nat → List Int32} {SZ : Nat → Nat} (hE : sf_E ec tc es el ed se to) (hN : sf_N (sf_V es el to ta) (sf_W ec ed se) nc kd sa sb ex1 ex2 pm1 pm2 us hc ts nl it LS SZ) (hn : n < nc) (hH : sf_H yv yl LS n)
    (h : ∀ ys' yv' yl', sf_H yv' yl' LS (n + 1) → post (nI NC, nI EC, nI OC, nI nc, nI ec, nI tc, wc, wm, ac, en, ro, mo, tt, kd, sa, sb, ex1, ex2, pm1, pm2, us, es, el, ed, se, to, ta, ys', yw, yv', yl')) : wpY_computeNode post (nI NC, nI EC, nI OC, nI nc, nI ec, nI tc, wc, wm, ac, en, ro, mo, tt, kd, sa, sb, ex1, ex2, pm1, pm2, us, es, el, ed, se, to, ta, ys, yw, yv, yl) (nI n) := by
  have h16 := hN.1
  have n16 : n < 16 := by omega
  have vn : vp_in (nI n) 16 := vp_in_nI n16 (by omega)
  have cn : (nI n).toNatClampNeg = n := nI_clamp (by omega)
  have hlen : ∀ s, s < nc → (LS s).length ≤ 128 := fun s hs => (hN.2.1 s hs).2.2.1
  have h' : ∀ ys' yv', sf_U yv yv' (n * 128) → sf_G yv' (n * 128) (LS n) → post (nI NC, nI EC, nI OC, nI nc, nI ec, nI tc, wc, wm, ac, en, ro, mo, tt, kd, sa, sb, ex1, ex2, pm1, pm2, us, es, el, ed, se, to, ta, ys', yw, yv', upd yl n (nI (LS n).length)) := fun ys' yv' hU hG => h ys' yv' _ (sf_H_s (fun s hs => hlen s (by omega)) hH hU hG)
  rcases (hN.2.1 n hn).1 with ⟨k1, a1, -, -, -, m, hm, p2e, hL⟩ | ⟨s, e, hs, h1, h2, -, -, we, h5, ⟨k1, hL⟩ | ⟨k1, hL⟩ | ⟨k1, hL⟩⟩ | ⟨s, m, hs, h1, h2, -, -, hm, h5, ⟨k1, hL⟩ | ⟨k1, hL⟩⟩ | ⟨s, e, f, hs, h1, h2, -, h4, hs0, we, h6, wf, h7, k1, hL⟩ | ⟨s, t, e, hs, ht, h1, h2, -, -, we, h5, k1, hL⟩
  · rw [hL, sf_tb_len] at h'
    refine nm_r (sf_128 n) ⟨vn, nm_r ((congrArg kd cn).trans k1) ⟨vn, nm_r ((congrArg sa cn).trans a1) ?_⟩⟩
    refine br_t rfl (br_t rfl (br_t rfl (br_t rfl ⟨m + 1, ?_⟩)))
    exact sf_y_rangeloop n16 hm p2e (fun yv' hU hG => h' ys yv' hU hG) m 0 yv (by omega) sf_U0 sf_G0
  · rw [hL, sf_tb_len] at h'
    refine nm_r (sf_128 n) ⟨vn, nm_r ((congrArg kd cn).trans k1) ⟨vn, nm_r ((congrArg sa cn).trans h1) ?_⟩⟩
    refine br_f (by decide) (br_f (nI_pos (by omega)) (br_t (nI_lt (b := 16) (by omega) (by decide)) (sf_y_50 (by decide) (by omega) (hH s hs).1 ?_)))
    refine br_f (by decide) (br_t rfl ⟨(LS s).length + 1, ?_⟩)
    exact sf_y_maploop n16 hs hE we.1 we.2.2 h5 (hlen s (by omega)) (hH s hs).2 h' (LS s).length 0 ys yv (by omega) sf_U0 sf_G0
  · rw [hL] at h'
    refine nm_r (sf_128 n) ⟨vn, nm_r ((congrArg kd cn).trans k1) ⟨vn, nm_r ((congrArg sa cn).trans h1) ?_⟩⟩
    refine br_f (by decide) (br_f (nI_pos (by omega)) (br_t (nI_lt (b := 16) (by omega) (by decide)) (sf_y_50 (by decide) (by omega) (hH s hs).1 ?_)))
    refine br_f (by decide) (br_f (by decide) (br_t rfl ⟨(LS s).length + 1, ?_⟩))
    exact sf_y_filterloop n16 hs hE we.1 we.2.2 h5 (hlen s (by omega)) (hH s hs).2 h' (LS s).length 0 ys yv (by omega) sf_U0 sf_G0
  · rw [hL, sf_tb_len] at h'
    refine nm_r (sf_128 n) ⟨vn, nm_r ((congrArg kd cn).trans k1) ⟨vn, nm_r ((congrArg sa cn).trans h1) ?_⟩⟩
    refine br_f (by decide) (br_f (nI_pos (by omega)) (br_t (nI_lt (b := 16) (by omega) (by decide)) (sf_y_50 (by decide) (by omega) (hH s hs).1 ?_)))
    refine br_f (by decide) (br_f (by decide) (br_f (by decide) (br_t rfl ⟨vn, nm_r (congrArg pm1 cn) ⟨(LS s).length + 1, ?_⟩⟩)))
    exact sf_y_scanloop n16 hs hE we.1 we.2.2 h5 (hlen s (by omega)) (hH s hs).2 h' (LS s).length 0 ys yv (by omega) sf_U0 sf_G0
  · rw [hL, sf_tb_len] at h'
    have l1 := hlen s (by omega)
    have mn := sf_mn_l m (LS s).length
    refine nm_r (sf_128 n) ⟨vn, nm_r ((congrArg kd cn).trans k1) ⟨vn, nm_r ((congrArg sa cn).trans h1) ?_⟩⟩
    refine br_f (by decide) (br_f (nI_pos (by omega)) (br_t (nI_lt (b := 16) (by omega) (by decide)) (sf_y_50 (by decide) (by omega) (hH s hs).1 ?_)))
    refine br_f (by decide) (br_f (by decide) (br_f (by decide) (br_f (by decide) (br_f (by decide) (br_t rfl ⟨vn, ?_⟩)))))
    have ep : pm1 (nI n).toNatClampNeg = nI m := by rw [cn]; exact h5
    have lp := sf_y_cp496 (fr := 0) (c := sf_mn m (LS s).length) n16 hs l1 (hH s hs).2 (by omega) (fun yv' hU hG => h' ys yv' hU hG) (sf_mn m (LS s).length) 0 yv (by omega) sf_U0 sf_G0
    rw [Nat.zero_add] at lp
    by_cases z : m < (LS s).length
    · rw [show sf_mn m (LS s).length = m from if_pos z] at lp
      exact br_f (by rw [ep]; exact nI_ge z (by omega)) ⟨vn, nm_r ep ⟨_, lp⟩⟩
    · rw [show sf_mn m (LS s).length = (LS s).length from if_neg z] at lp
      exact br_t (by rw [ep]; exact nI_le (by omega) hm) ⟨_, lp⟩
  · rw [hL, sf_tb_len] at h'
    have l1 := hlen s (by omega)
    have mn := sf_mn_l m (LS s).length
    refine nm_r (sf_128 n) ⟨vn, nm_r ((congrArg kd cn).trans k1) ⟨vn, nm_r ((congrArg sa cn).trans h1) ?_⟩⟩
    refine br_f (by decide) (br_f (nI_pos (by omega)) (br_t (nI_lt (b := 16) (by omega) (by decide)) (sf_y_50 (by decide) (by omega) (hH s hs).1 ?_)))
    refine br_f (by decide) (br_f (by decide) (br_f (by decide) (br_f (by decide) (br_f (by decide) (br_f (by decide) (br_t rfl ⟨vn, ?_⟩))))))
    have ep : pm1 (nI n).toNatClampNeg = nI m := by rw [cn]; exact h5
    have lp := sf_y_cp568 (fr := sf_mn m (LS s).length) (c := (LS s).length - sf_mn m (LS s).length) n16 hs l1 (hH s hs).2 (by omega) (fun yv' hU hG => h' ys yv' hU hG) ((LS s).length - sf_mn m (LS s).length) 0 yv (by omega) sf_U0 sf_G0
    rw [Nat.add_zero, show sf_mn m (LS s).length + ((LS s).length - sf_mn m (LS s).length) = (LS s).length by omega] at lp
    by_cases z : m < (LS s).length
    · rw [show sf_mn m (LS s).length = m from if_pos z] at lp
      exact br_f (by rw [ep]; exact nI_ge z (by omega)) ⟨vn, nm_r ep ⟨_, lp⟩⟩
    · rw [show sf_mn m (LS s).length = (LS s).length from if_neg z] at lp
      exact br_t (by rw [ep]; exact nI_le (by omega) hm) ⟨_, lp⟩
  · rw [hL] at h'
    have l16 := (hN.2.1 s (by omega)).2.2.2.1 hs0
    refine nm_r (sf_128 n) ⟨vn, nm_r ((congrArg kd cn).trans k1) ⟨vn, nm_r ((congrArg sa cn).trans h1) ?_⟩⟩
    refine br_f (by decide) (br_f (nI_pos (by omega)) (br_t (nI_lt (b := 16) (by omega) (by decide)) (sf_y_50 (by decide) (by omega) (hH s hs).1 ?_)))
    refine br_f (by decide) (br_f (by decide) (br_f (by decide) (br_f (by decide) (br_f (by decide) (br_f (by decide) (br_f (by decide) (br_t rfl ⟨(LS s).length + 1, ?_⟩)))))))
    exact sf_y_cmloop n16 hs hE we.1 we.2.2 h6 wf.1 wf.2.2 h7 l16 (hH s hs).2 h' (LS s).length 0 ys yv (by omega) sf_U0 sf_G0
  · rw [hL, sf_tb_len] at h'
    have l1 := hlen s (by omega)
    have l2 := hlen t (by omega)
    have mn := sf_mn_l (LS s).length (LS t).length
    refine nm_r (sf_128 n) ⟨vn, nm_r ((congrArg kd cn).trans k1) ⟨vn, nm_r ((congrArg sa cn).trans h1) ?_⟩⟩
    refine br_f (by decide) (br_f (nI_pos (by omega)) (br_t (nI_lt (b := 16) (by omega) (by decide)) (sf_y_50 (by decide) (by omega) (hH s hs).1 ?_)))
    have lp := sf_y_ziploop (c := sf_mn (LS s).length (LS t).length) n16 hs ht hE we.1 we.2.2 h5 l1 l2 (hH s hs).2 (hH t ht).2 mn.1 mn.2 h' (sf_mn (LS s).length (LS t).length) 0 ys yv (by omega) sf_U0 sf_G0
    have vt : vp_in (nI t) 16 := vp_in_nI (by omega) (by omega)
    have et : yl (nI t).toNatClampNeg = nI (LS t).length := by rw [nI_clamp (by omega)]; exact (hH t ht).1
    refine br_f (by decide) (br_f (by decide) (br_f (by decide) (br_f (by decide) (br_t rfl ⟨vn, nm_r ((congrArg sb cn).trans h2) (br_f (nI_pos (by omega)) (br_t (nI_lt (b := 16) (by omega) (by decide)) ⟨vt, ?_⟩))⟩))))
    by_cases z : (LS s).length < (LS t).length
    · rw [show sf_mn (LS s).length (LS t).length = (LS s).length from if_pos z] at lp
      exact br_f (by rw [et]; exact nI_ge z (by omega)) ⟨_, lp⟩
    · rw [show sf_mn (LS s).length (LS t).length = (LS t).length from if_neg z] at lp
      exact br_t (by rw [et]; exact nI_le (by omega) (by omega)) ⟨vt, nm_r et ⟨_, lp⟩⟩
theorem sf_y_up {post : SY → Prop} {r : Nat} {LS : Nat → List Int32} {SZ : Nat → Nat} (hE : sf_E ec tc es el ed se to) (hN : sf_N (sf_V es el to ta) (sf_W ec ed se) nc kd sa sb ex1 ex2 pm1 pm2 us hc ts nl it LS SZ) (hr : r < nc)
    (h : ∀ ys' yv' yl', sf_H yv' yl' LS (r + 1) → post (nI NC, nI EC, nI OC, nI nc, nI ec, nI tc, wc, wm, ac, en, ro, mo, tt, kd, sa, sb, ex1, ex2, pm1, pm2, us, es, el, ed, se, to, ta, ys', yw, yv', yl')) : wpY_computeUpTo post (nI NC, nI EC, nI OC, nI nc, nI ec, nI tc, wc, wm, ac, en, ro, mo, tt, kd, sa, sb, ex1, ex2, pm1, pm2, us, es, el, ed, se, to, ta, ys, yw, yv, yl) (nI r) := by
  have h16 := hN.1
  have loop : ∀ (d i : Nat) (ys yv yl : Nat → Int32), i + d = r + 1 → sf_H yv yl LS i → wY_computeUpTo_2 post (nI r) (d + 1) (nI i) (nI NC) (nI EC) (nI OC) (nI nc) (nI ec) (nI tc) wc wm ac en ro mo tt kd sa sb ex1 ex2 pm1 pm2 us es el ed se to ta ys yw yv yl := by
    intro d
    induction d with
    | zero =>
      intro i ys yv yl hi hH
      have ei : i = r + 1 := by omega
      subst ei
      exact br_t (nI_lt (by omega) (by omega)) (h ys yv yl hH)
    | succ d ih =>
      intro i ys yv yl hi hH
      refine br_f (nI_nlt (by omega) (by omega)) (br_f (nI_ge (show i < nc by omega) (by omega)) (sf_y_cn hE hN (by omega) hH (fun ys' yv' yl' hH' => nm_r (nI_1 i) ?_)))
      exact ih (i + 1) ys' yv' yl' (by omega) hH'
  exact ⟨r + 1 + 1, loop (r + 1) 0 ys yv yl (by omega) sf_H0⟩
end
