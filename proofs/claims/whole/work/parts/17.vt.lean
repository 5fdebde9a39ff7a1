section
variable {NC EC OC tc ec nc : Nat} {xr xm xt xe wc wm ac en ro mo tt : Int32} {to ta es el ed se sx kd sa sb ex1 ex2 pm1 pm2 us hc ts nl it ys yw yv yl : Nat → Int32}
theorem sf_k1 {SZ : Nat → Nat} {s : Nat} (hs : s < nc) : sf_gu SZ nc (1 + sf_oz SZ (some s) + sf_oz SZ none) nc = sf_gu SZ nc (1 + sf_oz SZ (some s) + sf_oz SZ none) s + 1 := by
  rw [sf_gus, sf_gun (by omega)]
  show 1 + SZ s + 0 = SZ s + 1
  omega
theorem sf_k2 {s : Nat} (hs : s < nc) : upd hc nc (sf_oc hc (sf_oc hc 0 (some s)) none) nc = upd hc nc (sf_oc hc (sf_oc hc 0 (some s)) none) s := by
  rw [pk_us, pk_un (by omega)]
  exact Int32.zero_or
theorem sf_k3 {s : Nat} (h : sf_oc hc (sf_oc hc 0 (some s)) none = 0) : hc s = 0 := by
  have h' : (0 ||| hc s) = 0 := h
  rw [Int32.zero_or] at h'
  exact h'
theorem sf_nab {a : Option Nat} : ∀ s, a = some s → (none : Option Nat) ≠ some s := fun _ _ e => by cases e
theorem i_vc_map {k : Nat} {u : SX} {v : SY} (I : i_Rel k u v) (hk : k + 4 ≤ 2051) (v1 : Int32) (v2 : Int32) : wpX_map (fun r u' => wpY_map (fun r' v' => r' = r ∧ i_Rel (k + 4) u' v') v v1 v2) u v1 v2 := by
  have I0 := i_up I
  obtain ⟨NC, EC, OC, tc, ec, nc, xr, xm, xt, xe, to, ta, es, el, ed, se, sx, kd, sa, sb, ex1, ex2, pm1, pm2, us, hc, ts, nl, it, wc, wm, ac, en, ro, mo, tt, ys, yw, yv, yl, rfl, rfl, I⟩ := I
  obtain ⟨c1, c2, c3, c4, c5, c6, c7, hE, LS, SZ, hN, hR⟩ := I
  have h16 := hN.1
  have e16 := hE.1
  have u0 := (hN.2.2.1 nc (Nat.le_refl nc)).1
  by_cases h0 : nc < NC
  · have nr : ¬ nI NC ≤ nI nc := nI_ge h0 (by omega)
    by_cases h1 : sf_isf nc us v1
    · obtain ⟨s, hs, rfl, hu⟩ := h1
      by_cases h2 : sf_isw ec ed v2
      · obtain ⟨e, he, rfl, hd⟩ := h2
        have hbs := (hN.2.1 s hs).2.2.2.2.2.2.2.2.1
        have l128 := (hN.2.1 s hs).2.2.1
        have l16 := (hN.2.1 s hs).2.2.2.1
        refine sf_x_map hE hN c2 h0 hs hu he hd (fun sx' it' hU hG => ?_)
        refine br_f nr (sf_y_bad0 h16 hs hu (br_t rfl (sf_y_wf1 hE he hd (br_f (by decide) (sf_y_add (a := some s) (b := none) (e := some e) (f := none) (by omega) u0 (sf_some (by omega)) sf_none (sf_some (by omega)) sf_none ⟨rfl, ?_⟩)))))
        have I1 := sf_I_ad (a := (some s)) (b := none) (e := (some e)) (f := none) (k := 2) (p := 0) (q := 0) (it' := it') (L := (sf_tb (fun i => sf_V es el to ta e ((LS s).getD i 0) 0) (LS s).length)) (z := 1 + sf_oz SZ (some s) + sf_oz SZ none) (c := sf_oc hc (sf_oc hc 0 (some s)) none) c1 c2 c3 c4 c5 c7 hE hN hR h0 (sf_some ⟨hs, hu⟩) sf_none sf_nab (sf_some he) sf_none (Or.inr (Or.inl ⟨s, e, hs, rfl, rfl, sf_k1 hs, sf_k2 hs, ⟨he, sf_su_k sf_su_1, hd⟩, rfl, (Or.inl ⟨rfl, by rw [sf_gus, sf_gun (by omega)]⟩)⟩)) (by rw [sf_tb_len]; exact l128) (fun z => by rw [sf_tb_len]; exact l16 (sf_k3 z)) (sf_oc_b (sf_oc_b sf_b0 (sf_some hbs)) sf_none) hU hG rfl
        rw [sf_tb_len] at I1
        exact sf_mk I1
      · unfold wpX_map
        exact sf_x_room1 c2 h0 (br_f (by decide) (sf_x_free1 h16 hs hu (br_f (by decide) (sf_x_wf0 e16 h2 (br_t rfl (br_f nr (sf_y_bad0 h16 hs hu (br_t rfl (sf_y_wf0 e16 h2 (br_t rfl ⟨rfl, I0⟩))))))))))
    · unfold wpX_map
      exact sf_x_room1 c2 h0 (br_f (by decide) (sf_x_free0 h16 h1 (br_t rfl (br_f nr (sf_y_bad1 h16 h1 (br_f (by decide) ⟨rfl, I0⟩))))))
  · unfold wpX_map
    exact sf_x_room0 h16 h0 (br_t rfl (br_t (nI_le (by omega) (by omega)) ⟨rfl, I0⟩))
theorem i_vc_filter {k : Nat} {u : SX} {v : SY} (I : i_Rel k u v) (hk : k + 4 ≤ 2051) (v1 : Int32) (v2 : Int32) : wpX_filter (fun r u' => wpY_filter (fun r' v' => r' = r ∧ i_Rel (k + 4) u' v') v v1 v2) u v1 v2 := by
  have I0 := i_up I
  obtain ⟨NC, EC, OC, tc, ec, nc, xr, xm, xt, xe, to, ta, es, el, ed, se, sx, kd, sa, sb, ex1, ex2, pm1, pm2, us, hc, ts, nl, it, wc, wm, ac, en, ro, mo, tt, ys, yw, yv, yl, rfl, rfl, I⟩ := I
  obtain ⟨c1, c2, c3, c4, c5, c6, c7, hE, LS, SZ, hN, hR⟩ := I
  have h16 := hN.1
  have e16 := hE.1
  have u0 := (hN.2.2.1 nc (Nat.le_refl nc)).1
  by_cases h0 : nc < NC
  · have nr : ¬ nI NC ≤ nI nc := nI_ge h0 (by omega)
    by_cases h1 : sf_isf nc us v1
    · obtain ⟨s, hs, rfl, hu⟩ := h1
      by_cases h2 : sf_isw ec ed v2
      · obtain ⟨e, he, rfl, hd⟩ := h2
        have hbs := (hN.2.1 s hs).2.2.2.2.2.2.2.2.1
        have l128 := (hN.2.1 s hs).2.2.1
        have l16 := (hN.2.1 s hs).2.2.2.1
        refine sf_x_filter hE hN c2 h0 hs hu he hd (fun sx' it' hU hG => ?_)
        refine br_f nr (sf_y_bad0 h16 hs hu (br_t rfl (sf_y_wf1 hE he hd (br_f (by decide) (sf_y_add (a := some s) (b := none) (e := some e) (f := none) (by omega) u0 (sf_some (by omega)) sf_none (sf_some (by omega)) sf_none ⟨rfl, ?_⟩)))))
        have I1 := sf_I_ad (a := (some s)) (b := none) (e := (some e)) (f := none) (k := 3) (p := 0) (q := 0) (it' := it') (L := (sf_ft (fun x => sf_V es el to ta e x 0) (LS s) (LS s).length)) (z := 1 + sf_oz SZ (some s) + sf_oz SZ none) (c := sf_oc hc (sf_oc hc 0 (some s)) none) c1 c2 c3 c4 c5 c7 hE hN hR h0 (sf_some ⟨hs, hu⟩) sf_none sf_nab (sf_some he) sf_none (Or.inr (Or.inl ⟨s, e, hs, rfl, rfl, sf_k1 hs, sf_k2 hs, ⟨he, sf_su_k sf_su_1, hd⟩, rfl, (Or.inr (Or.inl ⟨rfl, by rw [sf_gus, sf_gun (by omega)]⟩))⟩)) (Nat.le_trans (sf_ft_len _ _ _) l128) (fun z => Nat.le_trans (sf_ft_len _ _ _) (l16 (sf_k3 z))) (sf_oc_b (sf_oc_b sf_b0 (sf_some hbs)) sf_none) hU hG rfl
        exact sf_mk I1
      · unfold wpX_filter
        exact sf_x_room1 c2 h0 (br_f (by decide) (sf_x_free1 h16 hs hu (br_f (by decide) (sf_x_wf0 e16 h2 (br_t rfl (br_f nr (sf_y_bad0 h16 hs hu (br_t rfl (sf_y_wf0 e16 h2 (br_t rfl ⟨rfl, I0⟩))))))))))
    · unfold wpX_filter
      exact sf_x_room1 c2 h0 (br_f (by decide) (sf_x_free0 h16 h1 (br_t rfl (br_f nr (sf_y_bad1 h16 h1 (br_f (by decide) ⟨rfl, I0⟩))))))
  · unfold wpX_filter
    exact sf_x_room0 h16 h0 (br_t rfl (br_t (nI_le (by omega) (by omega)) ⟨rfl, I0⟩))
theorem i_vc_scan {k : Nat} {u : SX} {v : SY} (I : i_Rel k u v) (hk : k + 4 ≤ 2051) (v1 : Int32) (v2 : Int32) (v3 : Int32) : wpX_scan (fun r u' => wpY_scan (fun r' v' => r' = r ∧ i_Rel (k + 4) u' v') v v1 v2 v3) u v1 v2 v3 := by
  have I0 := i_up I
  obtain ⟨NC, EC, OC, tc, ec, nc, xr, xm, xt, xe, to, ta, es, el, ed, se, sx, kd, sa, sb, ex1, ex2, pm1, pm2, us, hc, ts, nl, it, wc, wm, ac, en, ro, mo, tt, ys, yw, yv, yl, rfl, rfl, I⟩ := I
  obtain ⟨c1, c2, c3, c4, c5, c6, c7, hE, LS, SZ, hN, hR⟩ := I
  have h16 := hN.1
  have e16 := hE.1
  have u0 := (hN.2.2.1 nc (Nat.le_refl nc)).1
  by_cases h0 : nc < NC
  · have nr : ¬ nI NC ≤ nI nc := nI_ge h0 (by omega)
    by_cases h1 : sf_isf nc us v1
    · obtain ⟨s, hs, rfl, hu⟩ := h1
      by_cases h2 : sf_isw ec ed v3
      · obtain ⟨e, he, rfl, hd⟩ := h2
        have hbs := (hN.2.1 s hs).2.2.2.2.2.2.2.2.1
        have l128 := (hN.2.1 s hs).2.2.1
        have l16 := (hN.2.1 s hs).2.2.2.1
        refine sf_x_scan hE hN c2 h0 hs hu he hd (fun sx' it' hU hG => ?_)
        refine br_f nr (sf_y_bad0 h16 hs hu (br_t rfl (sf_y_wf1 hE he hd (br_f (by decide) (sf_y_add (a := some s) (b := none) (e := some e) (f := none) (by omega) u0 (sf_some (by omega)) sf_none (sf_some (by omega)) sf_none ⟨rfl, ?_⟩)))))
        have I1 := sf_I_ad (a := (some s)) (b := none) (e := (some e)) (f := none) (k := 4) (p := v2) (q := 0) (it' := it') (L := (sf_tb (fun i => sf_ac (sf_V es el to ta e) v2 (LS s) (i + 1)) (LS s).length)) (z := 1 + sf_oz SZ (some s) + sf_oz SZ none) (c := sf_oc hc (sf_oc hc 0 (some s)) none) c1 c2 c3 c4 c5 c7 hE hN hR h0 (sf_some ⟨hs, hu⟩) sf_none sf_nab (sf_some he) sf_none (Or.inr (Or.inl ⟨s, e, hs, rfl, rfl, sf_k1 hs, sf_k2 hs, ⟨he, sf_su_k sf_su_1, hd⟩, rfl, (Or.inr (Or.inr ⟨rfl, by rw [sf_gus, sf_gun (by omega)]⟩))⟩)) (by rw [sf_tb_len]; exact l128) (fun z => by rw [sf_tb_len]; exact l16 (sf_k3 z)) (sf_oc_b (sf_oc_b sf_b0 (sf_some hbs)) sf_none) hU hG rfl
        rw [sf_tb_len] at I1
        exact sf_mk I1
      · unfold wpX_scan
        exact sf_x_room1 c2 h0 (br_f (by decide) (sf_x_free1 h16 hs hu (br_f (by decide) (sf_x_wf0 e16 h2 (br_t rfl (br_f nr (sf_y_bad0 h16 hs hu (br_t rfl (sf_y_wf0 e16 h2 (br_t rfl ⟨rfl, I0⟩))))))))))
    · unfold wpX_scan
      exact sf_x_room1 c2 h0 (br_f (by decide) (sf_x_free0 h16 h1 (br_t rfl (br_f nr (sf_y_bad1 h16 h1 (br_f (by decide) ⟨rfl, I0⟩))))))
  · unfold wpX_scan
    exact sf_x_room0 h16 h0 (br_t rfl (br_t (nI_le (by omega) (by omega)) ⟨rfl, I0⟩))
theorem i_vc_take {k : Nat} {u : SX} {v : SY} (I : i_Rel k u v) (hk : k + 4 ≤ 2051) (v1 : Int32) (v2 : Int32) : wpX_take (fun r u' => wpY_take (fun r' v' => r' = r ∧ i_Rel (k + 4) u' v') v v1 v2) u v1 v2 := by
  have I0 := i_up I
  obtain ⟨NC, EC, OC, tc, ec, nc, xr, xm, xt, xe, to, ta, es, el, ed, se, sx, kd, sa, sb, ex1, ex2, pm1, pm2, us, hc, ts, nl, it, wc, wm, ac, en, ro, mo, tt, ys, yw, yv, yl, rfl, rfl, I⟩ := I
  obtain ⟨c1, c2, c3, c4, c5, c6, c7, hE, LS, SZ, hN, hR⟩ := I
  have h16 := hN.1
  have e16 := hE.1
  have u0 := (hN.2.2.1 nc (Nat.le_refl nc)).1
  by_cases h0 : nc < NC
  · have nr : ¬ nI NC ≤ nI nc := nI_ge h0 (by omega)
    by_cases h1 : sf_isf nc us v1
    · obtain ⟨s, hs, rfl, hu⟩ := h1
      by_cases h2 : v2 < 0
      · unfold wpX_take
        exact sf_x_room1 c2 h0 (br_f (by decide) (sf_x_free1 h16 hs hu (br_f (by decide) (br_f (Int32.not_le.mpr h2) (br_f nr (sf_y_bad0 h16 hs hu (br_t rfl (br_f (Int32.not_le.mpr h2) ⟨rfl, I0⟩))))))))
      · obtain ⟨m, hm, rfl⟩ := nI_of h2
        have hbs := (hN.2.1 s hs).2.2.2.2.2.2.2.2.1
        have l128 := (hN.2.1 s hs).2.2.1
        have l16 := (hN.2.1 s hs).2.2.2.1
        have mn := sf_mn_l m (LS s).length
        refine sf_x_take hE hN c2 h0 hs hu hm (fun it' hU hG => ?_)
        refine br_f nr (sf_y_bad0 h16 hs hu (br_t rfl (br_t (nI_pos' hm) (sf_y_add (a := some s) (b := none) (e := none) (f := none) (by omega) u0 (sf_some (by omega)) sf_none sf_none sf_none ⟨rfl, ?_⟩))))
        have I1 := sf_I_ad (a := (some s)) (b := none) (e := none) (f := none) (k := 6) (p := (nI m)) (q := 0) (it' := it') (L := (sf_tb (fun i => (LS s).getD (0 + i) 0) (sf_mn m (LS s).length))) (z := 1 + sf_oz SZ (some s) + sf_oz SZ none) (c := sf_oc hc (sf_oc hc 0 (some s)) none) c1 c2 c3 c4 c5 c7 hE hN hR h0 (sf_some ⟨hs, hu⟩) sf_none sf_nab sf_none sf_none (Or.inr (Or.inr (Or.inl ⟨s, m, hs, rfl, rfl, sf_k1 hs, sf_k2 hs, hm, rfl, Or.inl ⟨rfl, by rw [sf_gus, sf_gun (by omega)]⟩⟩))) (by rw [sf_tb_len]; omega) (fun z => by rw [sf_tb_len]; have := l16 (sf_k3 z); omega) (sf_oc_b (sf_oc_b sf_b0 (sf_some hbs)) sf_none) hU hG rfl
        rw [sf_tb_len] at I1
        exact sf_mk I1
    · unfold wpX_take
      exact sf_x_room1 c2 h0 (br_f (by decide) (sf_x_free0 h16 h1 (br_t rfl (br_f nr (sf_y_bad1 h16 h1 (br_f (by decide) ⟨rfl, I0⟩))))))
  · unfold wpX_take
    exact sf_x_room0 h16 h0 (br_t rfl (br_t (nI_le (by omega) (by omega)) ⟨rfl, I0⟩))
theorem i_vc_drop {k : Nat} {u : SX} {v : SY} (I : i_Rel k u v) (hk : k + 4 ≤ 2051) (v1 : Int32) (v2 : Int32) : wpX_drop (fun r u' => wpY_drop (fun r' v' => r' = r ∧ i_Rel (k + 4) u' v') v v1 v2) u v1 v2 := by
  have I0 := i_up I
  obtain ⟨NC, EC, OC, tc, ec, nc, xr, xm, xt, xe, to, ta, es, el, ed, se, sx, kd, sa, sb, ex1, ex2, pm1, pm2, us, hc, ts, nl, it, wc, wm, ac, en, ro, mo, tt, ys, yw, yv, yl, rfl, rfl, I⟩ := I
  obtain ⟨c1, c2, c3, c4, c5, c6, c7, hE, LS, SZ, hN, hR⟩ := I
  have h16 := hN.1
  have e16 := hE.1
  have u0 := (hN.2.2.1 nc (Nat.le_refl nc)).1
  by_cases h0 : nc < NC
  · have nr : ¬ nI NC ≤ nI nc := nI_ge h0 (by omega)
    by_cases h1 : sf_isf nc us v1
    · obtain ⟨s, hs, rfl, hu⟩ := h1
      by_cases h2 : v2 < 0
      · unfold wpX_drop
        exact sf_x_room1 c2 h0 (br_f (by decide) (sf_x_free1 h16 hs hu (br_f (by decide) (br_f (Int32.not_le.mpr h2) (br_f nr (sf_y_bad0 h16 hs hu (br_t rfl (br_f (Int32.not_le.mpr h2) ⟨rfl, I0⟩))))))))
      · obtain ⟨m, hm, rfl⟩ := nI_of h2
        have hbs := (hN.2.1 s hs).2.2.2.2.2.2.2.2.1
        have l128 := (hN.2.1 s hs).2.2.1
        have l16 := (hN.2.1 s hs).2.2.2.1
        have mn := sf_mn_l m (LS s).length
        refine sf_x_drop hE hN c2 h0 hs hu hm (fun it' hU hG => ?_)
        refine br_f nr (sf_y_bad0 h16 hs hu (br_t rfl (br_t (nI_pos' hm) (sf_y_add (a := some s) (b := none) (e := none) (f := none) (by omega) u0 (sf_some (by omega)) sf_none sf_none sf_none ⟨rfl, ?_⟩))))
        have I1 := sf_I_ad (a := (some s)) (b := none) (e := none) (f := none) (k := 7) (p := (nI m)) (q := 0) (it' := it') (L := (sf_tb (fun i => (LS s).getD (sf_mn m (LS s).length + i) 0) ((LS s).length - sf_mn m (LS s).length))) (z := 1 + sf_oz SZ (some s) + sf_oz SZ none) (c := sf_oc hc (sf_oc hc 0 (some s)) none) c1 c2 c3 c4 c5 c7 hE hN hR h0 (sf_some ⟨hs, hu⟩) sf_none sf_nab sf_none sf_none (Or.inr (Or.inr (Or.inl ⟨s, m, hs, rfl, rfl, sf_k1 hs, sf_k2 hs, hm, rfl, Or.inr ⟨rfl, by rw [sf_gus, sf_gun (by omega)]⟩⟩))) (by rw [sf_tb_len]; omega) (fun z => by rw [sf_tb_len]; have := l16 (sf_k3 z); omega) (sf_oc_b (sf_oc_b sf_b0 (sf_some hbs)) sf_none) hU hG rfl
        rw [sf_tb_len] at I1
        exact sf_mk I1
    · unfold wpX_drop
      exact sf_x_room1 c2 h0 (br_f (by decide) (sf_x_free0 h16 h1 (br_t rfl (br_f nr (sf_y_bad1 h16 h1 (br_f (by decide) ⟨rfl, I0⟩))))))
  · unfold wpX_drop
    exact sf_x_room0 h16 h0 (br_t rfl (br_t (nI_le (by omega) (by omega)) ⟨rfl, I0⟩))
theorem i_vc_range {k : Nat} {u : SX} {v : SY} (I : i_Rel k u v) (hk : k + 4 ≤ 2051) (v1 : Int32) (v2 : Int32) : wpX_range (fun r u' => wpY_range (fun r' v' => r' = r ∧ i_Rel (k + 4) u' v') v v1 v2) u v1 v2 := by
  have I0 := i_up I
  obtain ⟨NC, EC, OC, tc, ec, nc, xr, xm, xt, xe, to, ta, es, el, ed, se, sx, kd, sa, sb, ex1, ex2, pm1, pm2, us, hc, ts, nl, it, wc, wm, ac, en, ro, mo, tt, ys, yw, yv, yl, rfl, rfl, I⟩ := I
  obtain ⟨c1, c2, c3, c4, c5, c6, c7, hE, LS, SZ, hN, hR⟩ := I
  have h16 := hN.1
  have e16 := hE.1
  have u0 := (hN.2.2.1 nc (Nat.le_refl nc)).1
  by_cases h0 : nc < NC
  · have nr : nI nc < nI NC := nI_lt h0 (by omega)
    by_cases g : v2 < 0
    · unfold wpX_range
      exact sf_x_room1 c2 h0 (br_f (by decide) (br_t g (br_t nr (br_t g ⟨rfl, I0⟩))))
    · by_cases g16 : v2 ≤ 16
      · obtain ⟨c, hc16, rfl⟩ := nI_of2 (M := 16) (n := 16) (by decide) g g16
        refine sf_x_range hE hN c2 h0 hc16 (fun it' hU hG => ?_)
        refine br_t nr (br_f g (br_t g16 (sf_y_add (a := none) (b := none) (e := none) (f := none) (by omega) u0 sf_none sf_none sf_none sf_none ⟨rfl, ?_⟩)))
        have I1 := sf_I_ad (a := none) (b := none) (e := none) (f := none) (k := 1) (p := v1) (q := (nI c)) (it' := it') (L := (sf_tb (fun i => v1 + nI i) c)) (z := 1 + sf_oz SZ none + sf_oz SZ none) (c := sf_oc hc (sf_oc hc 0 none) none) c1 c2 c3 c4 c5 c7 hE hN hR h0 sf_none sf_none sf_nab sf_none sf_none (Or.inl ⟨rfl, rfl, rfl, by rw [sf_gus]; rfl, by rw [pk_us]; rfl, c, hc16, rfl, by rw [sf_gus]⟩) (by rw [sf_tb_len]; omega) (fun _ => by rw [sf_tb_len]; exact hc16) sf_b0 hU hG rfl
        rw [sf_tb_len] at I1
        exact sf_mk I1
      · unfold wpX_range
        exact sf_x_room1 c2 h0 (br_f (by decide) (br_f g (br_f g16 (br_t nr (br_f g (br_f g16 ⟨rfl, I0⟩))))))
  · unfold wpX_range
    exact sf_x_room0 h16 h0 (br_t rfl (br_f (nI_nlt (by omega) (by omega)) ⟨rfl, I0⟩))
theorem i_vc_concatMap {k : Nat} {u : SX} {v : SY} (I : i_Rel k u v) (hk : k + 4 ≤ 2051) (v1 : Int32) (v2 : Int32) (v3 : Int32) : wpX_concatMap (fun r u' => wpY_concatMap (fun r' v' => r' = r ∧ i_Rel (k + 4) u' v') v v1 v2 v3) u v1 v2 v3 := by
  have I0 := i_up I
  obtain ⟨NC, EC, OC, tc, ec, nc, xr, xm, xt, xe, to, ta, es, el, ed, se, sx, kd, sa, sb, ex1, ex2, pm1, pm2, us, hc, ts, nl, it, wc, wm, ac, en, ro, mo, tt, ys, yw, yv, yl, rfl, rfl, I⟩ := I
  obtain ⟨c1, c2, c3, c4, c5, c6, c7, hE, LS, SZ, hN, hR⟩ := I
  have h16 := hN.1
  have e16 := hE.1
  have u0 := (hN.2.2.1 nc (Nat.le_refl nc)).1
  by_cases h0 : nc < NC
  · have nr : ¬ nI NC ≤ nI nc := nI_ge h0 (by omega)
    by_cases h1 : sf_isf nc us v1
    · obtain ⟨s, hs, rfl, hu⟩ := h1
      by_cases h2 : sf_isw ec ed v2
      · obtain ⟨e, he, rfl, hd⟩ := h2
        by_cases h3 : sf_isw ec ed v3
        · obtain ⟨f, hf, rfl, hdf⟩ := h3
          by_cases hc0 : hc s = 0
          · have l16 := (hN.2.1 s hs).2.2.2.1 hc0
            have c1e : sf_oc hc (sf_oc hc 1 (some s)) none = 1 := by
              show (1 ||| hc s) = 1
              rw [hc0]
              decide
            refine sf_x_concatMap hE hN c2 h0 hs hu hc0 he hd hf hdf (fun sx' it' hU hG => ?_)
            refine br_f nr (sf_y_bad0 h16 hs hu (br_t rfl (sf_y_wf1 hE he hd (br_f (by decide) (sf_y_wf1 hE hf hdf (br_f (by decide) (sf_y_walk hN hs (fun w => br_t hc0 (sf_y_add (a := some s) (b := none) (e := some e) (f := some f) (by omega) u0 (sf_some (by omega)) sf_none (sf_some (by omega)) (sf_some (by omega)) ⟨rfl, ?_⟩)))))))))
            have I1 := sf_I_ad (a := (some s)) (b := none) (e := (some e)) (f := (some f)) (k := 8) (p := 0) (q := 0) (it' := it') (L := (sf_cm (fun x => sf_V es el to ta e x 0) (sf_V es el to ta f) (LS s) (LS s).length)) (z := 1 + sf_oz SZ (some s) + sf_oz SZ none) (c := sf_oc hc (sf_oc hc 1 (some s)) none) c1 c2 c3 c4 c5 c7 hE hN hR h0 (sf_some ⟨hs, hu⟩) sf_none sf_nab (sf_some he) (sf_some hf) (Or.inr (Or.inr (Or.inr (Or.inl ⟨s, e, f, hs, rfl, rfl, sf_k1 hs, by rw [pk_us]; exact c1e, by rw [pk_un (by omega)]; exact hc0, ⟨he, sf_su_k sf_su_1, hd⟩, rfl, ⟨hf, sf_su_1, hdf⟩, rfl, rfl, by rw [sf_gus, sf_gun (by omega)]⟩)))) (by have := sf_cm_len (fun x => sf_V es el to ta e x 0) (sf_V es el to ta f) (LS s) (LS s).length; omega) (fun z => absurd (c1e.symm.trans z) sf_n10) (by rw [c1e]; exact sf_b1) hU hG rfl
            exact sf_mk I1
          · unfold wpX_concatMap
            have vs : vp_in (nI s) 16 := vp_in_nI (by omega) (by omega)
            refine sf_x_room1 c2 h0 (br_f (by decide) (sf_x_free1 h16 hs hu (br_f (by decide) (sf_x_wf1 e16 he hd (br_f (by decide) (sf_x_wf1 e16 hf hdf (br_f (by decide) ⟨vs, br_f (by rw [nI_clamp (by omega)]; exact hc0) ?_⟩)))))))
            exact br_f nr (sf_y_bad0 h16 hs hu (br_t rfl (sf_y_wf1 hE he hd (br_f (by decide) (sf_y_wf1 hE hf hdf (br_f (by decide) (sf_y_walk hN hs (fun w => br_f hc0 ⟨rfl, sf_mk ⟨c1, c2, c3, c4, c5, c6, c7, hE, LS, SZ, hN, hR⟩⟩))))))))
        · unfold wpX_concatMap
          exact sf_x_room1 c2 h0 (br_f (by decide) (sf_x_free1 h16 hs hu (br_f (by decide) (sf_x_wf1 e16 he hd (br_f (by decide) (sf_x_wf0 e16 h3 (br_t rfl (br_f nr (sf_y_bad0 h16 hs hu (br_t rfl (sf_y_wf1 hE he hd (br_f (by decide) (sf_y_wf0 e16 h3 (br_t rfl ⟨rfl, I0⟩))))))))))))))
      · unfold wpX_concatMap
        exact sf_x_room1 c2 h0 (br_f (by decide) (sf_x_free1 h16 hs hu (br_f (by decide) (sf_x_wf0 e16 h2 (br_t rfl (br_f nr (sf_y_bad0 h16 hs hu (br_t rfl (sf_y_wf0 e16 h2 (br_t rfl ⟨rfl, I0⟩))))))))))
    · unfold wpX_concatMap
      exact sf_x_room1 c2 h0 (br_f (by decide) (sf_x_free0 h16 h1 (br_t rfl (br_f nr (sf_y_bad1 h16 h1 (br_f (by decide) ⟨rfl, I0⟩))))))
  · unfold wpX_concatMap
    exact sf_x_room0 h16 h0 (br_t rfl (br_t (nI_le (by omega) (by omega)) ⟨rfl, I0⟩))
theorem i_vc_zip {k : Nat} {u : SX} {v : SY} (I : i_Rel k u v) (hk : k + 4 ≤ 2051) (v1 : Int32) (v2 : Int32) (v3 : Int32) : wpX_zip (fun r u' => wpY_zip (fun r' v' => r' = r ∧ i_Rel (k + 4) u' v') v v1 v2 v3) u v1 v2 v3 := by
  have I0 := i_up I
  obtain ⟨NC, EC, OC, tc, ec, nc, xr, xm, xt, xe, to, ta, es, el, ed, se, sx, kd, sa, sb, ex1, ex2, pm1, pm2, us, hc, ts, nl, it, wc, wm, ac, en, ro, mo, tt, ys, yw, yv, yl, rfl, rfl, I⟩ := I
  obtain ⟨c1, c2, c3, c4, c5, c6, c7, hE, LS, SZ, hN, hR⟩ := I
  have h16 := hN.1
  have e16 := hE.1
  have u0 := (hN.2.2.1 nc (Nat.le_refl nc)).1
  by_cases h0 : nc < NC
  · have nr : ¬ nI NC ≤ nI nc := nI_ge h0 (by omega)
    by_cases h1 : sf_isf nc us v1
    · obtain ⟨s, hs, rfl, hu⟩ := h1
      by_cases h1b : sf_isf nc us v2
      · obtain ⟨t, ht, rfl, hut⟩ := h1b
        by_cases hst : s = t
        · subst hst
          unfold wpX_zip
          exact sf_x_room1 c2 h0 (br_f (by decide) (sf_x_free1 h16 hs hu (br_f (by decide) (sf_x_free1 h16 ht hut (br_f (by decide) (br_t rfl (br_f nr (sf_y_bad0 h16 hs hu (br_t rfl (sf_y_bad0 h16 ht hut (br_t rfl (br_t rfl ⟨rfl, I0⟩))))))))))))
        · have nst : ¬ nI s = nI t := fun w => hst (sf_im w (by omega) (by omega))
          by_cases h2 : sf_isw ec ed v3
          · obtain ⟨e, he, rfl, hd⟩ := h2
            have hbs := (hN.2.1 s hs).2.2.2.2.2.2.2.2.1
            have hbt := (hN.2.1 t ht).2.2.2.2.2.2.2.2.1
            have l128 := (hN.2.1 s hs).2.2.1
            have l16 := (hN.2.1 s hs).2.2.2.1
            have mn := sf_mn_l (LS s).length (LS t).length
            have c0e : sf_oc hc (sf_oc hc 0 (some s)) (some t) = (hc s ||| hc t) := by
              show ((0 ||| hc s) ||| hc t) = _
              rw [Int32.zero_or]
            have zz : 1 + sf_oz SZ (some s) + sf_oz SZ (some t) = SZ s + SZ t + 1 := by
              show 1 + SZ s + SZ t = _
              omega
            refine sf_x_zip hE hN c2 h0 hs hu ht hut hst he hd (fun sx' it' hU hG => ?_)
            refine br_f nr (sf_y_bad0 h16 hs hu (br_t rfl (sf_y_bad0 h16 ht hut (br_t rfl (br_f nst (sf_y_wf1 hE he hd (br_f (by decide) (sf_y_add (a := some s) (b := some t) (e := some e) (f := none) (by omega) u0 (sf_some (by omega)) (sf_some (by omega)) (sf_some (by omega)) sf_none ⟨rfl, ?_⟩))))))))
            have I1 := sf_I_ad (a := (some s)) (b := (some t)) (e := (some e)) (f := none) (k := 5) (p := 0) (q := 0) (it' := it') (L := (sf_tb (fun i => sf_V es el to ta e ((LS s).getD i 0) ((LS t).getD i 0)) (sf_mn (LS s).length (LS t).length))) (z := 1 + sf_oz SZ (some s) + sf_oz SZ (some t)) (c := sf_oc hc (sf_oc hc 0 (some s)) (some t)) c1 c2 c3 c4 c5 c7 hE hN hR h0 (sf_some ⟨hs, hu⟩) (sf_some ⟨ht, hut⟩) (fun q hq w => hst ((Option.some.inj hq).trans (Option.some.inj w).symm)) (sf_some he) sf_none (Or.inr (Or.inr (Or.inr (Or.inr ⟨s, t, e, hs, ht, rfl, rfl, by rw [sf_gus, sf_gun (show s ≠ nc by omega), sf_gun (show t ≠ nc by omega)]; exact zz, by rw [pk_us, pk_un (show s ≠ nc by omega), pk_un (show t ≠ nc by omega)]; exact c0e, ⟨he, sf_su_k sf_su_1, hd⟩, rfl, rfl, by rw [sf_gus, sf_gun (show s ≠ nc by omega), sf_gun (show t ≠ nc by omega)]⟩)))) (by rw [sf_tb_len]; omega) (fun z => by rw [sf_tb_len]; have := l16 (((sf_bo hbs hbt).2.2.mp (c0e.symm.trans z)).1); omega) (by rw [c0e]; exact (sf_bo hbs hbt).1) hU hG rfl
            rw [sf_tb_len] at I1
            exact sf_mk I1
          · unfold wpX_zip
            exact sf_x_room1 c2 h0 (br_f (by decide) (sf_x_free1 h16 hs hu (br_f (by decide) (sf_x_free1 h16 ht hut (br_f (by decide) (br_f nst (sf_x_wf0 e16 h2 (br_t rfl (br_f nr (sf_y_bad0 h16 hs hu (br_t rfl (sf_y_bad0 h16 ht hut (br_t rfl (br_f nst (sf_y_wf0 e16 h2 (br_t rfl ⟨rfl, I0⟩))))))))))))))))
      · unfold wpX_zip
        exact sf_x_room1 c2 h0 (br_f (by decide) (sf_x_free1 h16 hs hu (br_f (by decide) (sf_x_free0 h16 h1b (br_t rfl (br_f nr (sf_y_bad0 h16 hs hu (br_t rfl (sf_y_bad1 h16 h1b (br_f (by decide) ⟨rfl, I0⟩))))))))))
    · unfold wpX_zip
      exact sf_x_room1 c2 h0 (br_f (by decide) (sf_x_free0 h16 h1 (br_t rfl (br_f nr (sf_y_bad1 h16 h1 (br_f (by decide) ⟨rfl, I0⟩))))))
  · unfold wpX_zip
    exact sf_x_room0 h16 h0 (br_t rfl (br_t (nI_le (by omega) (by omega)) ⟨rfl, I0⟩))
end
