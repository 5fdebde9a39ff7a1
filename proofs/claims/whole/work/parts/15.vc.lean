section
variable {NC EC OC tc ec nc : Nat} {xr xm xt xe wc wm ac en ro mo tt : Int32} {to ta es el ed se sx kd sa sb ex1 ex2 pm1 pm2 us hc ts nl it ys yw yv yl : Nat → Int32}
theorem sf_neg_ne {x : Int32} (c : Nat) (h : x < 0) (hc1 : c < 2 ^ 31) : ¬ x = nI c := fun e => nI_pos hc1 (e ▸ h)
theorem sf_big_ne {x : Int32} (a c : Nat) (h : nI a < x) (hca : c ≤ a) (ha : a < 2 ^ 31) : ¬ x = nI c := fun e => nI_nlt hca ha (e ▸ h)
theorem i_vc_query {k : Nat} {u : SX} {v : SY} (I : i_Rel k u v) (hk : k + 4 ≤ 2051) (v1 : Int32) : wpX_query (fun r => wpY_query (fun r' => r' = r ∧ i_Rel (k + 4) u v) v v1) u v1 := by
  have I0 := i_up I
  obtain ⟨NC, EC, OC, tc, ec, nc, xr, xm, xt, xe, to, ta, es, el, ed, se, sx, kd, sa, sb, ex1, ex2, pm1, pm2, us, hc, ts, nl, it, wc, wm, ac, en, ro, mo, tt, ys, yw, yv, yl, rfl, rfl, I⟩ := I
  obtain ⟨c1, c2, c3, c4, c5, c6, c7, hE, LS, SZ, hN, hR⟩ := I
  have h16 := hN.1
  by_cases g : v1 < 0
  · exact br_t g (br_f (sf_neg_ne 0 g (by decide)) (br_f (sf_neg_ne 1 g (by decide)) (br_f (sf_neg_ne 2 g (by decide)) (br_f (sf_neg_ne 3 g (by decide)) (br_f (sf_neg_ne 4 g (by decide)) (br_f (sf_neg_ne 5 g (by decide)) (br_f (sf_neg_ne 6 g (by decide)) (br_f (sf_neg_ne 7 g (by decide)) ⟨rfl, I0⟩))))))))
  · by_cases g7 : 7 < v1
    · exact br_f g (br_t g7 (br_f (sf_big_ne 7 0 g7 (by decide) (by decide)) (br_f (sf_big_ne 7 1 g7 (by decide) (by decide)) (br_f (sf_big_ne 7 2 g7 (by decide) (by decide)) (br_f (sf_big_ne 7 3 g7 (by decide) (by decide)) (br_f (sf_big_ne 7 4 g7 (by decide) (by decide)) (br_f (sf_big_ne 7 5 g7 (by decide) (by decide)) (br_f (sf_big_ne 7 6 g7 (by decide) (by decide)) (br_f (sf_big_ne 7 7 g7 (by decide) (by decide)) ⟨rfl, I0⟩)))))))))
    · obtain ⟨j, hj, rfl⟩ := nI_of2 (M := 7) (n := 7) (by decide) g (Int32.not_lt.mp g7)
      have ej : j = 0 ∨ j = 1 ∨ j = 2 ∨ j = 3 ∨ j = 4 ∨ j = 5 ∨ j = 6 ∨ j = 7 := by omega
      rcases hR with ⟨rfl, rfl, rfl, rfl, rfl⟩ | ⟨rfl, rfl, rfl, rfl, rfl, hb, r, t, hr, rfl, ht, rfl⟩
      · rcases ej with e | e | e | e | e | e | e | e <;> subst e
        · exact br_f (by decide) (br_f (by decide) (br_t (by decide) (br_t (by decide) ⟨rfl, I0⟩)))
        · exact br_f (by decide) (br_f (by decide) (br_f (by decide) (br_t (by decide) (br_f (by decide) (br_t (by decide) ⟨rfl, I0⟩)))))
        · exact br_f (by decide) (br_f (by decide) (br_f (by decide) (br_f (by decide) (br_t (by decide) (br_f (by decide) (br_f (by decide) (br_t (by decide) ⟨rfl, I0⟩)))))))
        · exact br_f (by decide) (br_f (by decide) (br_f (by decide) (br_f (by decide) (br_f (by decide) (br_t (by decide) (br_t rfl (br_t rfl (br_f (by decide) (br_f (by decide) (br_f (by decide) (br_t (by decide) (br_t rfl ⟨rfl, I0⟩))))))))))))
        · exact br_f (by decide) (br_f (by decide) (br_f (by decide) (br_f (by decide) (br_f (by decide) (br_f (by decide) (br_t (by decide) (br_f (by decide) (br_f (by decide) (br_f (by decide) (br_f (by decide) (br_t (by decide) (br_t rfl ⟨rfl, I0⟩))))))))))))
        · exact br_f (by decide) (br_f (by decide) (br_f (by decide) (br_f (by decide) (br_f (by decide) (br_f (by decide) (br_f (by decide) (br_t (by decide) (br_f (by decide) (br_f (by decide) (br_f (by decide) (br_f (by decide) (br_f (by decide) (br_t (by decide) (br_t rfl ⟨rfl, I0⟩))))))))))))))
        · exact br_f (by decide) (br_f (by decide) (br_f (by decide) (br_f (by decide) (br_f (by decide) (br_f (by decide) (br_f (by decide) (br_f (by decide) (br_t (by decide) (br_f (by decide) (br_f (by decide) (br_f (by decide) (br_f (by decide) (br_f (by decide) (br_f (by decide) (br_t (by decide) (br_t rfl ⟨rfl, I0⟩))))))))))))))))
        · exact br_f (by decide) (br_f (by decide) (br_f (by decide) (br_f (by decide) (br_f (by decide) (br_f (by decide) (br_f (by decide) (br_f (by decide) (br_f (by decide) (br_t (by decide) (br_t rfl (br_f (by decide) (br_f (by decide) (br_f (by decide) (br_f (by decide) (br_f (by decide) (br_f (by decide) (br_f (by decide) (br_t (by decide) (br_t rfl ⟨rfl, I0⟩)))))))))))))))))))
      · rcases ej with e | e | e | e | e | e | e | e <;> subst e
        · exact br_f (by decide) (br_f (by decide) (br_t (by decide) (br_t (by decide) ⟨rfl, I0⟩)))
        · exact br_f (by decide) (br_f (by decide) (br_f (by decide) (br_t (by decide) (br_f (by decide) (br_t (by decide) ⟨rfl, I0⟩)))))
        · exact br_f (by decide) (br_f (by decide) (br_f (by decide) (br_f (by decide) (br_t (by decide) (br_f (by decide) (br_f (by decide) (br_t (by decide) ⟨rfl, I0⟩)))))))
        · exact br_f (by decide) (br_f (by decide) (br_f (by decide) (br_f (by decide) (br_f (by decide) (br_t (by decide) (br_f (sf_ne1 (by omega)) (br_f (by decide) (br_f (by decide) (br_f (by decide) (br_f (by decide) (br_t (by decide) (br_f (by decide) ⟨rfl, I0⟩))))))))))))
        · exact br_f (by decide) (br_f (by decide) (br_f (by decide) (br_f (by decide) (br_f (by decide) (br_f (by decide) (br_t (by decide) (br_f (by decide) (br_f (by decide) (br_f (by decide) (br_f (by decide) (br_t (by decide) (br_f (by decide) ⟨rfl, I0⟩))))))))))))
        · exact br_f (by decide) (br_f (by decide) (br_f (by decide) (br_f (by decide) (br_f (by decide) (br_f (by decide) (br_f (by decide) (br_t (by decide) (br_f (by decide) (br_f (by decide) (br_f (by decide) (br_f (by decide) (br_f (by decide) (br_t (by decide) (br_f (by decide) ⟨rfl, I0⟩))))))))))))))
        · exact br_f (by decide) (br_f (by decide) (br_f (by decide) (br_f (by decide) (br_f (by decide) (br_f (by decide) (br_f (by decide) (br_f (by decide) (br_t (by decide) (br_f (by decide) (br_f (by decide) (br_f (by decide) (br_f (by decide) (br_f (by decide) (br_f (by decide) (br_t (by decide) (br_f (by decide) ⟨rfl, I0⟩))))))))))))))))
        · rcases hb with hb | hb
          · exact br_f (by decide) (br_f (by decide) (br_f (by decide) (br_f (by decide) (br_f (by decide) (br_f (by decide) (br_f (by decide) (br_f (by decide) (br_f (by decide) (br_t (by decide) (br_t hb (br_f (by decide) (br_f (by decide) (br_f (by decide) (br_f (by decide) (br_f (by decide) (br_f (by decide) (br_f (by decide) (br_t (by decide) (br_f (by decide) (br_t hb ⟨rfl, I0⟩))))))))))))))))))))
          · have hn : ¬ en = 0 := by rw [hb]; decide
            exact br_f (by decide) (br_f (by decide) (br_f (by decide) (br_f (by decide) (br_f (by decide) (br_f (by decide) (br_f (by decide) (br_f (by decide) (br_f (by decide) (br_t (by decide) (br_f hn (br_f (by decide) (br_f (by decide) (br_f (by decide) (br_f (by decide) (br_f (by decide) (br_f (by decide) (br_f (by decide) (br_t (by decide) (br_f (by decide) (br_f hn ⟨rfl, I0⟩))))))))))))))))))))
theorem i_vc_nodeInfo {k : Nat} {u : SX} {v : SY} (I : i_Rel k u v) (hk : k + 4 ≤ 2051) (v1 : Int32) (v2 : Int32) : wpX_nodeInfo (fun r => wpY_nodeInfo (fun r' v' => r' = r ∧ i_Rel (k + 4) u v') v v1 v2) u v1 v2 := by
  have I0 := i_up I
  obtain ⟨NC, EC, OC, tc, ec, nc, xr, xm, xt, xe, to, ta, es, el, ed, se, sx, kd, sa, sb, ex1, ex2, pm1, pm2, us, hc, ts, nl, it, wc, wm, ac, en, ro, mo, tt, ys, yw, yv, yl, rfl, rfl, I⟩ := I
  obtain ⟨c1, c2, c3, c4, c5, c6, c7, hE, LS, SZ, hN, hR⟩ := I
  have h16 := hN.1
  unfold wpX_nodeInfo
  by_cases h : ∃ j, j < nc ∧ v1 = nI j
  · obtain ⟨n, hn, rfl⟩ := h
    have vn : vp_in (nI n) 16 := vp_in_nI (by omega) (by omega)
    have cn : (nI n).toNatClampNeg = n := nI_clamp (by omega)
    have p0 : ¬ nI n < 0 := nI_pos (by omega)
    have p1 : ¬ nI nc ≤ nI n := nI_ge hn (by omega)
    refine sf_x_node1 h16 hn (br_f (by decide) ?_)
    by_cases g : v2 < 0
    · exact br_t g (br_f p0 (br_f p1 (br_t g ⟨rfl, I0⟩)))
    · by_cases g9 : 9 < v2
      · exact br_f g (br_t g9 (br_f p0 (br_f p1 (br_f g (br_f (Int32.not_le.mpr g9) ⟨rfl, I0⟩)))))
      · obtain ⟨j, hj, rfl⟩ := nI_of2 (M := 9) (n := 9) (by decide) g (Int32.not_lt.mp g9)
        have ej : j = 0 ∨ j = 1 ∨ j = 2 ∨ j = 3 ∨ j = 4 ∨ j = 5 ∨ j = 6 ∨ j = 7 ∨ j = 8 ∨ j = 9 := by omega
        rcases ej with e | e | e | e | e | e | e | e | e | e <;> subst e <;> refine br_f (by decide) (br_f (by decide) ?_)
        · exact (br_t (by decide) ⟨vn, (br_f p0 (br_f p1 (br_f (by decide) (br_t (by decide) (br_t (by decide) ⟨vn, rfl, I0⟩)))))⟩)
        · exact (br_f (by decide) (br_t (by decide) ⟨vn, (br_f p0 (br_f p1 (br_f (by decide) (br_t (by decide) (br_f (by decide) (br_t (by decide) ⟨vn, rfl, I0⟩))))))⟩))
        · exact (br_f (by decide) (br_f (by decide) (br_t (by decide) ⟨vn, (br_f p0 (br_f p1 (br_f (by decide) (br_t (by decide) (br_f (by decide) (br_f (by decide) (br_t (by decide) ⟨vn, rfl, I0⟩)))))))⟩)))
        · exact (br_f (by decide) (br_f (by decide) (br_f (by decide) (br_t (by decide) ⟨vn, (br_f p0 (br_f p1 (br_f (by decide) (br_t (by decide) (br_f (by decide) (br_f (by decide) (br_f (by decide) (br_t (by decide) ⟨vn, rfl, I0⟩))))))))⟩))))
        · exact (br_f (by decide) (br_f (by decide) (br_f (by decide) (br_f (by decide) (br_t (by decide) ⟨vn, (br_f p0 (br_f p1 (br_f (by decide) (br_t (by decide) (br_f (by decide) (br_f (by decide) (br_f (by decide) (br_f (by decide) (br_t (by decide) ⟨vn, rfl, I0⟩)))))))))⟩)))))
        · exact (br_f (by decide) (br_f (by decide) (br_f (by decide) (br_f (by decide) (br_f (by decide) (br_t (by decide) ⟨vn, (br_f p0 (br_f p1 (br_f (by decide) (br_t (by decide) (br_f (by decide) (br_f (by decide) (br_f (by decide) (br_f (by decide) (br_f (by decide) (br_t (by decide) ⟨vn, rfl, I0⟩))))))))))⟩))))))
        · exact (br_f (by decide) (br_f (by decide) (br_f (by decide) (br_f (by decide) (br_f (by decide) (br_f (by decide) (br_t (by decide) ⟨vn, (br_f p0 (br_f p1 (br_f (by decide) (br_t (by decide) (br_f (by decide) (br_f (by decide) (br_f (by decide) (br_f (by decide) (br_f (by decide) (br_f (by decide) (br_t (by decide) ⟨vn, rfl, I0⟩)))))))))))⟩)))))))
        · by_cases z : us (nI n).toNatClampNeg = 0
          · exact (br_f (by decide) (br_f (by decide) (br_f (by decide) (br_f (by decide) (br_f (by decide) (br_f (by decide) (br_f (by decide) (br_t (by decide) ⟨vn, br_t z (br_f p0 (br_f p1 (br_f (by decide) (br_t (by decide) (br_f (by decide) (br_f (by decide) (br_f (by decide) (br_f (by decide) (br_f (by decide) (br_f (by decide) (br_f (by decide) (br_t (by decide) ⟨vn, br_t z ⟨rfl, I0⟩⟩))))))))))))⟩))))))))
          · exact (br_f (by decide) (br_f (by decide) (br_f (by decide) (br_f (by decide) (br_f (by decide) (br_f (by decide) (br_f (by decide) (br_t (by decide) ⟨vn, br_f z (br_f p0 (br_f p1 (br_f (by decide) (br_t (by decide) (br_f (by decide) (br_f (by decide) (br_f (by decide) (br_f (by decide) (br_f (by decide) (br_f (by decide) (br_f (by decide) (br_t (by decide) ⟨vn, br_f z ⟨rfl, I0⟩⟩))))))))))))⟩))))))))
        · refine (br_f (by decide) (br_f (by decide) (br_f (by decide) (br_f (by decide) (br_f (by decide) (br_f (by decide) (br_f (by decide) (br_f (by decide) (br_t (by decide) ⟨vn, (br_f p0 (br_f p1 (br_f (by decide) (br_t (by decide) (br_f (by decide) (br_f (by decide) (br_f (by decide) (br_f (by decide) (br_f (by decide) (br_f (by decide) (br_f (by decide) (br_f (by decide) (br_t (by decide) ?_)))))))))))))⟩)))))))))
          refine sf_y_up hE hN hn (fun ys' yv' yl' hH => ⟨vn, ?_, sf_mk ⟨c1, c2, c3, c4, c5, c6, c7, hE, LS, SZ, hN, hR⟩⟩)
          rw [cn, (hH n (by omega)).1, (hN.2.1 n hn).2.1]
        · have hw : ∀ P : SY → Prop, (∀ w, P (nI NC, nI EC, nI OC, nI nc, nI ec, nI tc, nI (SZ n), hc n, ac, en, ro, mo, tt, kd, sa, sb, ex1, ex2, pm1, pm2, us, es, el, ed, se, to, ta, ys, w, yv, yl)) → wpY_walk P (nI NC, nI EC, nI OC, nI nc, nI ec, nI tc, wc, wm, ac, en, ro, mo, tt, kd, sa, sb, ex1, ex2, pm1, pm2, us, es, el, ed, se, to, ta, ys, yw, yv, yl) (nI n) := fun P hP => sf_y_walk hN hn hP
          by_cases z : hc n = 0
          · refine (br_f (by decide) (br_f (by decide) (br_f (by decide) (br_f (by decide) (br_f (by decide) (br_f (by decide) (br_f (by decide) (br_f (by decide) (br_f (by decide) (br_t (by decide) ⟨vn, br_t (by rw [cn]; exact z) (br_f p0 (br_f p1 (br_f (by decide) (br_t (by decide) (br_f (by decide) (br_f (by decide) (br_f (by decide) (br_f (by decide) (br_f (by decide) (br_f (by decide) (br_f (by decide) (br_f (by decide) (br_f (by decide) ?_)))))))))))))⟩))))))))))
            exact hw _ (fun w => br_t z ⟨rfl, sf_mk ⟨c1, c2, c3, c4, c5, c6, c7, hE, LS, SZ, hN, hR⟩⟩)
          · refine (br_f (by decide) (br_f (by decide) (br_f (by decide) (br_f (by decide) (br_f (by decide) (br_f (by decide) (br_f (by decide) (br_f (by decide) (br_f (by decide) (br_t (by decide) ⟨vn, br_f (by rw [cn]; exact z) (br_f p0 (br_f p1 (br_f (by decide) (br_t (by decide) (br_f (by decide) (br_f (by decide) (br_f (by decide) (br_f (by decide) (br_f (by decide) (br_f (by decide) (br_f (by decide) (br_f (by decide) (br_f (by decide) ?_)))))))))))))⟩))))))))))
            exact hw _ (fun w => br_f z ⟨rfl, sf_mk ⟨c1, c2, c3, c4, c5, c6, c7, hE, LS, SZ, hN, hR⟩⟩)
  · refine sf_x_node0 h16 h (br_t rfl ?_)
    by_cases z : v1 < 0
    · exact br_t z ⟨rfl, I0⟩
    · refine br_f z (br_t ?_ ⟨rfl, I0⟩)
      obtain ⟨j, hj, rfl⟩ := nI_of z
      exact nI_le (Nat.le_of_not_lt (fun w => h ⟨j, w, rfl⟩)) hj
/-! run -/
theorem sf_y_runloop {post : Int32 → SY → Prop} {K len t : Nat} (hK : K ≤ 32) (hl : len ≤ 128) (h1 : t + K ≤ len → post (nI K) (nI NC, nI EC, nI OC, nI nc, nI ec, nI tc, wc, wm, ac, 0, ro, mo, nI (t + K), kd, sa, sb, ex1, ex2, pm1, pm2, us, es, el, ed, se, to, ta, ys, yw, yv, yl)) (h2 : len < t + K → post (nI (len - t)) (nI NC, nI EC, nI OC, nI nc, nI ec, nI tc, wc, wm, ac, 1, ro, mo, nI len, kd, sa, sb, ex1, ex2, pm1, pm2, us, es, el, ed, se, to, ta, ys, yw, yv, yl)) :
    ∀ d i : Nat, i + d = K → t + i ≤ len → wY_run_52 post (nI K) (nI len) (nI NC) (nI EC) (nI OC) (nI nc) (nI ec) (nI tc) wc wm ac 0 ro mo kd sa sb ex1 ex2 pm1 pm2 us es el ed se to ta ys yw yv yl (d + 1) (nI i) (nI i) (nI (t + i)) := by
  intro d
  induction d with
  | zero =>
    intro i hi ht
    have ei : i = K := by omega
    subst ei
    exact br_t (nI_le (by omega) (by omega)) (h1 ht)
  | succ d ih =>
    intro i hi ht
    refine br_f (nI_ge (by omega) (by omega)) (br_t rfl ?_)
    by_cases z : len ≤ t + i
    · have e1 : t + i = len := by omega
      have e2 : i = len - t := by omega
      refine br_t (nI_le z (by omega)) ?_
      rw [e1]
      have := h2 (by omega)
      rw [← e2] at this
      exact this
    · exact br_f (nI_ge (by omega) (by omega)) (nm_r (nI_1 (t + i)) (nm_r (nI_1 i) (nm_r (nI_1 i) (ih (i + 1) (by omega) (by omega)))))
theorem i_vc_run {k : Nat} {u : SX} {v : SY} (I : i_Rel k u v) (hk : k + 4 ≤ 2051) (v1 : Int32) : wpX_run (fun r u' => wpY_run (fun r' v' => r' = r ∧ i_Rel (k + 4) u' v') v v1) u v1 := by
  have I0 := i_up I
  obtain ⟨NC, EC, OC, tc, ec, nc, xr, xm, xt, xe, to, ta, es, el, ed, se, sx, kd, sa, sb, ex1, ex2, pm1, pm2, us, hc, ts, nl, it, wc, wm, ac, en, ro, mo, tt, ys, yw, yv, yl, rfl, rfl, I⟩ := I
  obtain ⟨c1, c2, c3, c4, c5, c6, c7, hE, LS, SZ, hN, hR⟩ := I
  have h16 := hN.1
  unfold wpX_run
  rcases hR with ⟨rfl, rfl, rfl, rfl, rfl⟩ | ⟨rfl, rfl, rfl, rfl, rfl, hb, r, t, hr, rfl, ht, rfl⟩
  · exact br_t rfl (br_t rfl (br_t rfl ⟨rfl, I0⟩))
  · have l128 := (hN.2.1 r hr).2.2.1
    have vr : vp_in (nI r) 16 := vp_in_nI (by omega) (by omega)
    have cr : (nI r).toNatClampNeg = r := nI_clamp (by omega)
    obtain ⟨K, k1, k2, dK⟩ := sf_cl3 v1 (lo := 1) (hi := OC) (by omega) (by omega)
    have yK : ∀ (P : Int32 → SY → Prop), wY_run_29 P (nI K) (nI NC) (nI EC) (nI OC) (nI nc) (nI ec) (nI tc) wc wm 1 en (nI r) mo (nI t) kd sa sb ex1 ex2 pm1 pm2 us es el ed se to ta ys yw yv yl → wpY_run P (nI NC, nI EC, nI OC, nI nc, nI ec, nI tc, wc, wm, 1, en, nI r, mo, nI t, kd, sa, sb, ex1, ex2, pm1, pm2, us, es, el, ed, se, to, ta, ys, yw, yv, yl) v1 := by
      intro P hP
      refine br_f (by decide) ?_
      rcases dK with ⟨a, b, rfl⟩ | ⟨a, b, rfl⟩ | ⟨a, rfl⟩
      · exact br_t a (br_t b hP)
      · exact br_t a (br_f b hP)
      · exact br_f a (br_t (nI_le (a := 1) (by omega) (by omega)) hP)
    have yL : ∀ (P : Int32 → SY → Prop), (∀ ys' yv' yl', ∃ n52, wY_run_52 P (nI K) (nI (LS r).length) (nI NC) (nI EC) (nI OC) (nI nc) (nI ec) (nI tc) wc wm 1 en (nI r) mo kd sa sb ex1 ex2 pm1 pm2 us es el ed se to ta ys' yw yv' yl' n52 0 0 (nI t)) → wY_run_29 P (nI K) (nI NC) (nI EC) (nI OC) (nI nc) (nI ec) (nI tc) wc wm 1 en (nI r) mo (nI t) kd sa sb ex1 ex2 pm1 pm2 us es el ed se to ta ys yw yv yl := by
      intro P hP
      refine sf_y_up hE hN hr (fun ys' yv' yl' hH => ⟨vr, nm_r (e' := nI (LS r).length) (by rw [cr]; exact (hH r (by omega)).1) (hP ys' yv' yl')⟩)
    refine br_f (sf_ne1 (by omega)) (br_f (by decide) ?_)
    rcases hb with hb | hb
    · subst hb
      refine br_t rfl (sf_x_cl (lo := 1) dK ⟨vr, nm_r (e' := nI ((LS r).length - t)) (by rw [cr, (hN.2.1 r hr).2.1, pk_sub ht]) (sf_x_min (by omega) (by omega) ?_)⟩)
      by_cases z : t + K ≤ (LS r).length
      · have em : sf_mn K ((LS r).length - t) = K := by unfold sf_mn; split <;> omega
        rw [em]
        refine nm_r (nI_add t K) (br_t (nI_le (Nat.le_refl K) (by omega)) ?_)
        refine yK _ (yL _ (fun ys' yv' yl' => ⟨K + 1, ?_⟩))
        refine sf_y_runloop (by omega) l128 (fun _ => ⟨rfl, sf_mk ⟨c1, c2, c3, c4, c5, c6, c7, hE, LS, SZ, hN, Or.inr ⟨rfl, rfl, rfl, rfl, rfl, sf_b0, r, t + K, hr, rfl, z, rfl⟩⟩⟩) (fun w => absurd w (by omega)) K 0 (by omega) (by omega)
      · have em : sf_mn K ((LS r).length - t) = (LS r).length - t := by unfold sf_mn; split <;> omega
        rw [em]
        refine nm_r (e' := nI (LS r).length) (by rw [nI_add]; exact congrArg nI (by omega)) (br_f (nI_ge (by omega) (by omega)) ?_)
        refine yK _ (yL _ (fun ys' yv' yl' => ⟨K + 1, ?_⟩))
        refine sf_y_runloop (by omega) l128 (fun w => absurd w z) (fun _ => ⟨rfl, sf_mk ⟨c1, c2, c3, c4, c5, c6, c7, hE, LS, SZ, hN, Or.inr ⟨rfl, rfl, rfl, rfl, rfl, sf_b1, r, (LS r).length, hr, rfl, Nat.le_refl _, rfl⟩⟩⟩) K 0 (by omega) (by omega)
    · subst hb
      refine br_f (by decide) (yK _ (yL _ (fun ys' yv' yl' => ⟨1, ?_⟩)))
      exact br_f (nI_nle (by omega) (by omega)) (br_f (by decide) ⟨rfl, sf_mk ⟨c1, c2, c3, c4, c5, c6, c7, hE, LS, SZ, hN, Or.inr ⟨rfl, rfl, rfl, rfl, rfl, sf_b1, r, t, hr, rfl, ht, rfl⟩⟩⟩)
theorem i_vc_outValue {k : Nat} {u : SX} {v : SY} (I : i_Rel k u v) (hk : k + 4 ≤ 2051) (v1 : Int32) : wpX_outValue (fun r => wpY_outValue (fun r' v' => r' = r ∧ i_Rel (k + 4) u v') v v1) u v1 := by
  have I0 := i_up I
  obtain ⟨NC, EC, OC, tc, ec, nc, xr, xm, xt, xe, to, ta, es, el, ed, se, sx, kd, sa, sb, ex1, ex2, pm1, pm2, us, hc, ts, nl, it, wc, wm, ac, en, ro, mo, tt, ys, yw, yv, yl, rfl, rfl, I⟩ := I
  obtain ⟨c1, c2, c3, c4, c5, c6, c7, hE, LS, SZ, hN, hR⟩ := I
  have h16 := hN.1
  unfold wpX_outValue
  rcases hR with ⟨rfl, rfl, rfl, rfl, rfl⟩ | ⟨rfl, rfl, rfl, rfl, rfl, hb, r, t, hr, rfl, ht, rfl⟩
  · exact br_t rfl (br_t rfl (br_t rfl ⟨rfl, I0⟩))
  · have l128 := (hN.2.1 r hr).2.2.1
    have vr : vp_in (nI r) 16 := vp_in_nI (by omega) (by omega)
    have cr : (nI r).toNatClampNeg = r := nI_clamp (by omega)
    refine br_f (sf_ne1 (by omega)) (br_f (by decide) ?_)
    by_cases g : v1 < 0
    · exact br_t g (br_f (by decide) (br_t g ⟨rfl, I0⟩))
    · obtain ⟨i, hi, rfl⟩ := nI_of g
      by_cases g1 : nI t ≤ nI i
      · exact br_f g (br_t g1 (br_f (by decide) (br_f g (br_t g1 ⟨rfl, I0⟩))))
      · by_cases g2 : nI t - nI OC ≤ nI i
        · rw [nI_leI (by omega) hi] at g1
          have g1' : ¬ nI t ≤ nI i := nI_ge (by omega) (by omega)
          refine br_f g (br_f g1' (br_t g2 (sf_x_item (by omega) (by omega) (br_f (by decide) (br_f g (br_f g1' (br_t g2 ?_)))))))
          refine sf_y_up hE hN hr (fun ys' yv' yl' hH => ⟨vr, br_f ?_ (br_t (nI_lt (b := 128) (by omega) (by decide)) ⟨?_, ?_, sf_mk ⟨c1, c2, c3, c4, c5, c6, c7, hE, LS, SZ, hN, Or.inr ⟨rfl, rfl, rfl, rfl, rfl, hb, r, t, hr, rfl, ht, rfl⟩⟩⟩)⟩)
          · rw [cr, (hH r (by omega)).1]
            exact nI_ge (by omega) (by omega)
          · rw [sf_128]
            exact sf_ai (by omega)
          · rw [sf_128, sf_ad (by omega), (hH r (by omega)).2 i (by omega), (hN.2.1 r hr).2.2.2.2.1 i (by omega)]
        · exact br_f g (br_f g1 (br_f g2 (br_f (by decide) (br_f g (br_f g1 (br_f g2 ⟨rfl, I0⟩))))))
end
