section
variable {NC EC OC tc ec nc : Nat} {xr xm xt xe wc wm ac en ro mo tt : Int32} {to ta es el ed se sx kd sa sb ex1 ex2 pm1 pm2 us hc ts nl it ys yw yv yl : Nat → Int32}
theorem sf_y_t120p {post : Int32 → SY → Prop} {k l d : Nat} {op arg : Int32} (hk : k < 16) (t1 : tc < 128) (el1 : el k = nI l) (ed1 : ed k = nI d) (h : post (nI (d + 1)) (nI NC, nI EC, nI OC, nI nc, nI ec, nI (tc + 1), wc, wm, ac, en, ro, mo, tt, kd, sa, sb, ex1, ex2, pm1, pm2, us, es, upd el k (nI (l + 1)), upd ed k (nI (d + 1)), se, upd to tc op, upd ta tc arg, ys, yw, yv, yl)) : wY_tok_120 post op arg (nI k) 1 (nI NC) (nI EC) (nI OC) (nI nc) (nI ec) (nI tc) wc wm ac en ro mo tt kd sa sb ex1 ex2 pm1 pm2 us es el ed se to ta ys yw yv yl := by
  have vk : vp_in (nI k) 16 := vp_in_nI hk (by omega)
  have ck : (nI k).toNatClampNeg = k := nI_clamp (by omega)
  have vt : vp_in (nI tc) 128 := vp_in_nI t1 (by omega)
  have ct : (nI tc).toNatClampNeg = tc := nI_clamp (by omega)
  refine ⟨vt, nm_r (congrArg (fun j => upd to j op) ct) ⟨vt, nm_r (congrArg (fun j => upd ta j arg) ct) (nm_r (nI_1 tc) ⟨vk, vk, nm_r (e' := upd el k (nI (l + 1))) (by rw [ck, el1, nI_1]) (br_f (by decide) ⟨vk, vk, nm_r (e' := upd ed k (nI (d + 1))) (by rw [ck, ed1, nI_1]) ⟨vk, ?_⟩⟩)⟩)⟩⟩
  rw [ck, pk_us]
  exact h
theorem sf_y_t120b {post : Int32 → SY → Prop} {k l d : Nat} {op arg : Int32} (hk : k < 16) (t1 : tc < 128) (hd : 2 ≤ d) (el1 : el k = nI l) (ed1 : ed k = nI d) (h : post (nI (d - 1)) (nI NC, nI EC, nI OC, nI nc, nI ec, nI (tc + 1), wc, wm, ac, en, ro, mo, tt, kd, sa, sb, ex1, ex2, pm1, pm2, us, es, upd el k (nI (l + 1)), upd ed k (nI (d - 1)), se, upd to tc op, upd ta tc arg, ys, yw, yv, yl)) : wY_tok_120 post op arg (nI k) 0 (nI NC) (nI EC) (nI OC) (nI nc) (nI ec) (nI tc) wc wm ac en ro mo tt kd sa sb ex1 ex2 pm1 pm2 us es el ed se to ta ys yw yv yl := by
  have vk : vp_in (nI k) 16 := vp_in_nI hk (by omega)
  have ck : (nI k).toNatClampNeg = k := nI_clamp (by omega)
  have vt : vp_in (nI tc) 128 := vp_in_nI t1 (by omega)
  have ct : (nI tc).toNatClampNeg = tc := nI_clamp (by omega)
  refine ⟨vt, nm_r (congrArg (fun j => upd to j op) ct) ⟨vt, nm_r (congrArg (fun j => upd ta j arg) ct) (nm_r (nI_1 tc) ⟨vk, vk, nm_r (e' := upd el k (nI (l + 1))) (by rw [ck, el1, nI_1]) (br_t rfl ⟨vk, vk, nm_r (e' := upd ed k (nI (d - 1))) (by rw [ck, ed1, sf_s1 (by omega)]) ⟨vk, ?_⟩⟩)⟩)⟩⟩
  rw [ck, pk_us]
  exact h
theorem sf_y_tok {post : Int32 → SY → Prop} {k l d : Nat} {op arg : Int32} (hk : k < 16) (hl : l ≤ 16) (hd : d ≤ 8) (ht : tc ≤ 128) (el1 : el k = nI l) (ed1 : ed k = nI d) (h0 : (¬ ∃ o, o < 10 ∧ op = nI o ∧ se k = 0 ∧ l < 16 ∧ tc < 128 ∧ (o < 3 → d < 8) ∧ (3 ≤ o → 2 ≤ d)) → post (-1) (nI NC, nI EC, nI OC, nI nc, nI (k + 1), nI tc, wc, wm, ac, en, ro, mo, tt, kd, sa, sb, ex1, ex2, pm1, pm2, us, es, el, ed, se, to, ta, ys, yw, yv, yl))
    (h1 : ∀ o, o < 10 → op = nI o → se k = 0 → l < 16 → tc < 128 → (o < 3 → d < 8) → (3 ≤ o → 2 ≤ d) → post (nI (if o < 3 then d + 1 else d - 1)) (nI NC, nI EC, nI OC, nI nc, nI (k + 1), nI (tc + 1), wc, wm, ac, en, ro, mo, tt, kd, sa, sb, ex1, ex2, pm1, pm2, us, es, upd el k (nI (l + 1)), upd ed k (nI (if o < 3 then d + 1 else d - 1)), se, upd to tc (nI o), upd ta tc arg, ys, yw, yv, yl)) : wpY_tok post (nI NC, nI EC, nI OC, nI nc, nI (k + 1), nI tc, wc, wm, ac, en, ro, mo, tt, kd, sa, sb, ex1, ex2, pm1, pm2, us, es, el, ed, se, to, ta, ys, yw, yv, yl) op arg := by
  have vk : vp_in (nI k) 16 := vp_in_nI hk (by omega)
  have ck : (nI k).toNatClampNeg = k := nI_clamp (by omega)
  refine br_f (nI_ne0 (by omega) (by omega)) (nm_r (nI_pred k) ?_)
  rw [ck, el1]
  refine ⟨vk, br_c (fun s0 => br_c (fun g => h0 ?_) (fun g => br_c (fun g9 => ⟨vk, br_c (fun gl => br_c (fun gt => ?_) (fun gt => h0 ?_)) (fun gl => h0 ?_)⟩) (fun g9 => h0 ?_))) (fun s0 => h0 ?_)⟩
  · rintro ⟨o, ho, rfl, -⟩
    exact absurd g (nI_pos (by omega))
  · obtain ⟨o, ho, rfl⟩ := nI_of2 (M := 9) (n := 9) (by decide) g g9
    have l1 : l < 16 := by
      by_cases z : l < 16
      · exact z
      · exact absurd gl (nI_nlt (b := 16) (by omega) (by omega))
    have t1 : tc < 128 := by
      by_cases z : tc < 128
      · exact z
      · exact absurd gt (nI_nlt (b := 128) (by omega) (by omega))
    by_cases o3 : o < 3
    · have hp : wY_tok_78 post (nI o) arg (nI k) (nI NC) (nI EC) (nI OC) (nI nc) (nI (k + 1)) (nI tc) wc wm ac en ro mo tt kd sa sb ex1 ex2 pm1 pm2 us es el ed se to ta ys yw yv yl := by
        refine br_f (by decide) (br_f (by decide) ⟨vk, ?_⟩)
        rw [ck, ed1]
        by_cases z : d < 8
        · have h2 := h1 o (by omega) rfl s0 l1 t1 (fun _ => z) (fun w => by omega)
          rw [if_pos o3] at h2
          refine br_f (fun w => ?_) (sf_y_t120p hk t1 el1 ed1 h2)
          have := sf_im (b := 8) w (by omega) (by decide)
          omega
        · refine br_t (by rw [show d = 8 by omega]; rfl) (h0 ?_)
          rintro ⟨o', ho', e, -, -, -, q, -⟩
          have := sf_im e (by omega) (by omega)
          exact z (q (by omega))
      have eo : o = 0 ∨ o = 1 ∨ o = 2 := by omega
      rcases eo with z | z | z
      · subst z
        exact br_t (by decide) hp
      · subst z
        exact br_f (by decide) (br_t (by decide) hp)
      · subst z
        exact br_f (by decide) (br_f (by decide) (br_t (by decide) hp))
    · have hp : wY_tok_83 post (nI o) arg (nI k) 0 (nI NC) (nI EC) (nI OC) (nI nc) (nI (k + 1)) (nI tc) wc wm ac en ro mo tt kd sa sb ex1 ex2 pm1 pm2 us es el ed se to ta ys yw yv yl := by
        refine br_t rfl ⟨vk, ?_⟩
        rw [ck, ed1]
        by_cases z : 2 ≤ d
        · have h2 := h1 o (by omega) rfl s0 l1 t1 (fun w => by omega) (fun _ => z)
          rw [if_neg o3] at h2
          exact br_t (nI_le (a := 2) z (by omega)) (br_t rfl (sf_y_t120b hk t1 z el1 ed1 h2))
        · refine br_f (nI_ge (b := 2) (by omega) (by decide)) (h0 ?_)
          rintro ⟨o', ho', e, -, -, -, -, q⟩
          have := sf_im e (by omega) (by omega)
          exact z (q (by omega))
      have n0 : ∀ j, j < 3 → ¬ nI o = nI j := fun j hj e => by
        have := sf_im e (by omega) (by omega)
        omega
      exact br_f (n0 0 (by omega)) (br_f (n0 1 (by omega)) (br_f (n0 2 (by omega)) hp))
  · rintro ⟨o, ho, -, -, -, t1, -⟩
    exact absurd (nI_lt (b := 128) t1 (by decide)) gt
  · rintro ⟨o, ho, -, -, l1, -⟩
    exact absurd (nI_lt (b := 16) l1 (by decide)) gl
  · rintro ⟨o, ho, rfl, -⟩
    exact absurd (nI_le (b := 9) (by omega) (by decide)) g9
  · rintro ⟨o, ho, -, s1, -⟩
    exact s0 s1
theorem i_vc_tok {k : Nat} {u : SX} {v : SY} (I : i_Rel k u v) (hk : k + 4 ≤ 2051) (v1 : Int32) (v2 : Int32) : wpX_tok (fun r u' => wpY_tok (fun r' v' => r' = r ∧ i_Rel (k + 4) u' v') v v1 v2) u v1 v2 := by
  have I0 := I
  obtain ⟨NC, EC, OC, tc, ec, nc, xr, xm, xt, xe, to, ta, es, el, ed, se, sx, kd, sa, sb, ex1, ex2, pm1, pm2, us, hc, ts, nl, it, wc, wm, ac, en, ro, mo, tt, ys, yw, yv, yl, rfl, rfl, I⟩ := I
  obtain ⟨c1, c2, c3, c4, c5, c6, c7, hE, LS, SZ, hN, hR⟩ := I
  cases ec with
  | zero => exact br_t rfl (br_t rfl ⟨rfl, i_up I0⟩)
  | succ j =>
    obtain ⟨g1, g2, g3, g4⟩ := id hE
    obtain ⟨f, l, q1, q2, q3, q4, q5, q6, q7, q8⟩ := g3 j (by omega)
    have d8 := sf_dp8 q6 l (Nat.le_refl l)
    refine sf_x_tok (by omega) q3 d8 g2 q2 q7 (fun hn => ?_) (fun o ho eo s0 l1 t1 w1 w2 => ?_)
    · refine sf_y_tok (by omega) q3 d8 g2 q2 q7 (fun _ => ⟨rfl, i_up I0⟩) (fun o ho eo s0 l1 t1 w1 w2 => ?_)
      exact absurd ⟨o, ho, eo, s0, l1, t1, w1, w2⟩ hn
    · refine sf_y_tok (by omega) q3 d8 g2 q2 q7 (fun hn => absurd ⟨o, ho, eo, s0, l1, t1, w1, w2⟩ hn) (fun o' ho' eo' _ _ _ _ _ => ?_)
      have e := sf_im (eo'.symm.trans eo) (by omega) (by omega)
      subst e
      have hE' := sf_E_tok (o := o') hE q1 l1 (q5 rfl) q6 t1 ho w1 w2 (d := if o' < 3 then sf_dp to f l + 1 else sf_dp to f l - 1) rfl
      have ne : ∀ e, sf_W (j + 1) ed se e → e ≠ j := fun e we z => by
        have := we.2.1
        rw [z, s0] at this
        exact absurd this sf_n01
      refine ⟨rfl, sf_mk ⟨c1, c2, c3, c4, c5, c6, c7, hE', LS, SZ, sf_N_VW (fun e we => sf_V_tok hE we.1 (ne e we)) (fun e we => ⟨we.1, we.2.1, ?_⟩) hN, hR⟩⟩
      rw [pk_un (ne e we)]
      exact we.2.2
theorem i_vc_evalExpr {k : Nat} {u : SX} {v : SY} (I : i_Rel k u v) (hk : k + 4 ≤ 2051) (v1 : Int32) (v2 : Int32) (v3 : Int32) : wpX_evalExpr (fun r u' => wpY_evalExpr (fun r' v' => r' = r ∧ i_Rel (k + 4) u' v') v v1 v2 v3) u v1 v2 v3 := by
  obtain ⟨NC, EC, OC, tc, ec, nc, xr, xm, xt, xe, to, ta, es, el, ed, se, sx, kd, sa, sb, ex1, ex2, pm1, pm2, us, hc, ts, nl, it, wc, wm, ac, en, ro, mo, tt, ys, yw, yv, yl, rfl, rfl, I⟩ := I
  obtain ⟨c1, c2, c3, c4, c5, c6, c7, hE, LS, SZ, hN, hR⟩ := I
  have h16 := hE.1
  have I' : sf_I NC EC OC nc ec tc to ta es el ed se kd sa sb ex1 ex2 pm1 pm2 us hc ts nl it xr xm xt xe ac en ro mo tt := ⟨c1, c2, c3, c4, c5, c6, c7, hE, LS, SZ, hN, hR⟩
  unfold wpX_evalExpr
  by_cases h : sf_isw ec ed v1
  · obtain ⟨e, he, rfl, hd⟩ := h
    refine sf_x_wf1 h16 he hd (br_f (by decide) (sf_x_val (sf_E_wf (ta := ta) hE he hd) (by omega) (fun sx' => ?_)))
    unfold wpY_evalExpr
    exact sf_y_eval hE he hd rfl (fun ys' => ⟨rfl, sf_mk I'⟩)
  · refine sf_x_wf0 h16 h (br_t rfl ?_)
    unfold wpY_evalExpr
    exact sf_y_eval0 h16 h ⟨rfl, sf_mk I'⟩
theorem i_vc_start {k : Nat} {u : SX} {v : SY} (I : i_Rel k u v) (hk : k + 4 ≤ 2051) (v1 : Int32) (v2 : Int32) : wpX_start (fun r u' => wpY_start (fun r' v' => r' = r ∧ i_Rel (k + 4) u' v') v v1 v2) u v1 v2 := by
  have I0 := I
  obtain ⟨NC, EC, OC, tc, ec, nc, xr, xm, xt, xe, to, ta, es, el, ed, se, sx, kd, sa, sb, ex1, ex2, pm1, pm2, us, hc, ts, nl, it, wc, wm, ac, en, ro, mo, tt, ys, yw, yv, yl, rfl, rfl, I⟩ := I
  obtain ⟨c1, c2, c3, c4, c5, c6, c7, hE, LS, SZ, hN, hR⟩ := I
  have h16 := hN.1
  unfold wpX_start
  by_cases h : ∃ j, j < nc ∧ v1 = nI j
  · obtain ⟨j, hj, rfl⟩ := h
    have cj : (nI j).toNatClampNeg = j := nI_clamp (by omega)
    have tj : ts (nI j).toNatClampNeg = nI (SZ j) := by rw [cj]; exact (hN.2.1 j hj).2.2.2.2.2.1
    have hR' : sf_R nc LS (nI j) v2 0 0 1 0 (nI j) v2 0 := Or.inr ⟨rfl, rfl, rfl, rfl, rfl, sf_b0, j, 0, hj, rfl, Nat.zero_le _, rfl⟩
    refine sf_x_node1 h16 hj (br_f (by decide) ?_)
    have fin : wX_start_19 (fun r u' => wpY_start (fun r' v' => r' = r ∧ i_Rel (k + 4) u' v') (nI NC, nI EC, nI OC, nI nc, nI ec, nI tc, wc, wm, ac, en, ro, mo, tt, kd, sa, sb, ex1, ex2, pm1, pm2, us, es, el, ed, se, to, ta, ys, yw, yv, yl) (nI j) v2) (nI j) v2 (nI NC) (nI EC) (nI OC) (nI tc) (nI ec) (nI nc) xr xm xt xe to ta es el ed se sx kd sa sb ex1 ex2 pm1 pm2 us hc ts nl it ∨ ¬ (v2 = 0 ∨ v2 = 1) := by
      by_cases m : v2 = 0 ∨ v2 = 1
      · left
        have hs : ∀ P : Int32 → SY → Prop, (∀ w, P (nI (SZ j)) (nI NC, nI EC, nI OC, nI nc, nI ec, nI tc, nI (SZ j), hc j, 1, 0, nI j, v2, 0, kd, sa, sb, ex1, ex2, pm1, pm2, us, es, el, ed, se, to, ta, ys, w, yv, yl)) → wY_start_25 P (nI j) v2 (nI NC) (nI EC) (nI OC) (nI nc) (nI ec) (nI tc) wc wm ac en ro mo tt kd sa sb ex1 ex2 pm1 pm2 us es el ed se to ta ys yw yv yl := by
          intro P hP
          exact sf_y_walk hN hj hP
        refine ⟨vp_in_nI (by omega) (by omega), br_f (nI_pos (by omega)) (br_t (nI_lt hj (by omega)) ?_)⟩
        have hf := hs (fun r' v' => r' = ts (nI j).toNatClampNeg ∧ i_Rel (k + 4) (nI NC, nI EC, nI OC, nI tc, nI ec, nI nc, nI j, v2, 0, 0, to, ta, es, el, ed, se, sx, kd, sa, sb, ex1, ex2, pm1, pm2, us, hc, ts, nl, it) v') (fun w => ⟨tj.symm, sf_mk ⟨c1, c2, c3, c4, c5, c6, c7, hE, LS, SZ, hN, hR'⟩⟩)
        rcases m with m | m
        · exact br_t m hf
        · by_cases m0 : v2 = 0
          · exact br_t m0 hf
          · exact br_f m0 (br_t m hf)
      · right; exact m
    rcases fin with hf | hf
    · by_cases m0 : v2 = 0
      · exact br_t m0 hf
      · by_cases m1 : v2 = 1
        · exact br_f m0 (br_t m1 hf)
        · exact br_f m0 (br_f m1 (br_f (nI_pos (by omega)) (br_t (nI_lt hj (by omega)) (br_f m0 (br_f m1 ⟨rfl, i_up I0⟩)))))
    · have m0 : ¬ v2 = 0 := fun z => hf (Or.inl z)
      have m1 : ¬ v2 = 1 := fun z => hf (Or.inr z)
      exact br_f m0 (br_f m1 (br_f (nI_pos (by omega)) (br_t (nI_lt hj (by omega)) (br_f m0 (br_f m1 ⟨rfl, i_up I0⟩)))))
  · refine sf_x_node0 h16 h (br_t rfl ?_)
    by_cases z : v1 < 0
    · exact br_t z ⟨rfl, i_up I0⟩
    · refine br_f z (br_f (fun w => ?_) ⟨rfl, i_up I0⟩)
      obtain ⟨j, hj, rfl⟩ := nI_of z
      rw [nI_ltI hj (by omega)] at w
      exact h ⟨j, w, rfl⟩
end
