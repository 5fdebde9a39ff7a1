section
variable {NC EC OC tc ec nc : Nat} {xr xm xt xe wc wm ac en ro mo tt : Int32} {to ta es el ed se sx kd sa sb ex1 ex2 pm1 pm2 us hc ts nl it ys yw yv yl : Nat → Int32}
theorem sf_none {P : Nat → Prop} : ∀ s, (none : Option Nat) = some s → P s := fun _ e => by cases e
theorem sf_some {P : Nat → Prop} {s : Nat} (h : P s) : ∀ t, (some s : Option Nat) = some t → P t := fun t e => by cases e; exact h
theorem sf_x_min2 {post : Int32 → Prop} {x y : Int32} {a b : Nat} (hx : x = nI a) (hy : y = nI b) (ha : a < 2 ^ 31) (hb : b < 2 ^ 31) (h : post (nI (sf_mn a b))) : wpX_smaller post x y := by
  subst hx hy
  exact sf_x_min ha hb h
theorem sf_x_copy {post : SX → Prop} {s n fr c : Nat} {x y : Int32} {l : List Int32} (hx : x = nI fr) (hy : y = nI (fr + c)) (hn : n < 16) (hs : s < n) (hl : l.length ≤ 128) (hg : sf_G it (s * 128) l) (hc1 : fr + c ≤ l.length) (hz : nl n = 0)
    (h : ∀ it', sf_U it it' (n * 128) → sf_G it' (n * 128) (sf_tb (fun i => l.getD (fr + i) 0) c) → post (nI NC, nI EC, nI OC, nI tc, nI ec, nI nc, xr, xm, xt, xe, to, ta, es, el, ed, se, sx, kd, sa, sb, ex1, ex2, pm1, pm2, us, hc, ts, upd nl n (nI c), it')) : wpX_copyItems post (nI NC, nI EC, nI OC, nI tc, nI ec, nI nc, xr, xm, xt, xe, to, ta, es, el, ed, se, sx, kd, sa, sb, ex1, ex2, pm1, pm2, us, hc, ts, nl, it) (nI s) x y (nI n) := by
  subst hx hy
  have e0 : upd nl n (nI 0) = nl := sf_updid hz
  refine ⟨c + 1, ?_⟩
  rw [← e0]
  exact sf_x_copyloop hn hs hl hg hc1 h c 0 it (by omega) sf_U0 sf_G0
theorem sf_x_range {post : Int32 → SX → Prop} {LS : Nat → List Int32} {SZ : Nat → Nat} {c : Nat} {lo : Int32} (hE : sf_E ec tc es el ed se to) (hN : sf_N (sf_V es el to ta) (sf_W ec ed se) nc kd sa sb ex1 ex2 pm1 pm2 us hc ts nl it LS SZ) (c2 : NC ≤ 16) (hn : nc < NC) (hc16 : c ≤ 16)
    (h : ∀ it', sf_U it it' (nc * 128) → sf_G it' (nc * 128) (sf_tb (fun i => lo + nI i) c) → post (nI nc) (nI NC, nI EC, nI OC, nI tc, nI ec, nI (nc + 1), xr, xm, xt, xe, to, ta, es, el, ed, sf_su (sf_su se none) none, sx, upd kd nc 1, upd sa nc (sf_o none), upd sb nc (sf_o none), upd ex1 nc (sf_o none), upd ex2 nc (sf_o none), upd pm1 nc lo, upd pm2 nc (nI c), sf_su (sf_su us none) none, upd hc nc (sf_oc hc (sf_oc hc 0 none) none), upd ts nc (nI (1 + sf_oz SZ none + sf_oz SZ none)), upd nl nc (nI c), it')) : wpX_range post (nI NC, nI EC, nI OC, nI tc, nI ec, nI nc, xr, xm, xt, xe, to, ta, es, el, ed, se, sx, kd, sa, sb, ex1, ex2, pm1, pm2, us, hc, ts, nl, it) lo (nI c) := by
  have h16 := hN.1
  have e16 := hE.1
  have n16 : nc < 16 := by omega
  have e0 : upd nl nc (nI 0) = nl := sf_updid (hN.2.2.1 nc (Nat.le_refl nc)).2
  unfold wpX_range
  refine sf_x_room1 c2 hn (br_f (by decide) (br_f (nI_pos (by omega)) (br_t (nI_le (b := 16) hc16 (by decide)) (sf_x_add (SZ := SZ) (a := none) (b := none) (e := none) (f := none) (c := 0) n16 sf_none sf_none sf_none sf_none (Or.inr ⟨by decide, rfl⟩) ⟨c + 1, ?_⟩))))
  rw [← e0]
  exact sf_x_rangeloop n16 hc16 h c 0 it (by omega) sf_U0 sf_G0
theorem sf_x_map {post : Int32 → SX → Prop} {LS : Nat → List Int32} {SZ : Nat → Nat} {s e : Nat} (hE : sf_E ec tc es el ed se to) (hN : sf_N (sf_V es el to ta) (sf_W ec ed se) nc kd sa sb ex1 ex2 pm1 pm2 us hc ts nl it LS SZ) (c2 : NC ≤ 16) (hn : nc < NC) (hs : s < nc) (hu : us s = 0) (he : e < ec) (hd : ed e = 1)
    (h : ∀ sx' it', sf_U it it' (nc * 128) → sf_G it' (nc * 128) (sf_tb (fun i => sf_V es el to ta e ((LS s).getD i 0) 0) (LS s).length) → post (nI nc) (nI NC, nI EC, nI OC, nI tc, nI ec, nI (nc + 1), xr, xm, xt, xe, to, ta, es, el, ed, sf_su (sf_su se (some e)) none, sx', upd kd nc 2, upd sa nc (sf_o (some s)), upd sb nc (sf_o none), upd ex1 nc (sf_o (some e)), upd ex2 nc (sf_o none), upd pm1 nc 0, upd pm2 nc 0, sf_su (sf_su us (some s)) none, upd hc nc (sf_oc hc (sf_oc hc 0 (some s)) none), upd ts nc (nI (1 + sf_oz SZ (some s) + sf_oz SZ none)), upd nl nc (nI (LS s).length), it')) : wpX_map post (nI NC, nI EC, nI OC, nI tc, nI ec, nI nc, xr, xm, xt, xe, to, ta, es, el, ed, se, sx, kd, sa, sb, ex1, ex2, pm1, pm2, us, hc, ts, nl, it) (nI s) (nI e) := by
  have h16 := hN.1
  have e16 := hE.1
  have n16 : nc < 16 := by omega
  have e0 : upd nl nc (nI 0) = nl := sf_updid (hN.2.2.1 nc (Nat.le_refl nc)).2
  have hA : s < nc ∧ ts s = nI (SZ s) ∧ sf_b (hc s) := ⟨hs, (hN.2.1 s hs).2.2.2.2.2.1, (hN.2.1 s hs).2.2.2.2.2.2.2.2.1⟩
  have vs : vp_in (nI s) 16 := vp_in_nI (by omega) (by omega)
  have ls : nl (nI s).toNatClampNeg = nI (LS s).length := by rw [nI_clamp (by omega)]; exact (hN.2.1 s hs).2.1
  have l128 := (hN.2.1 s hs).2.2.1
  have gs := (hN.2.1 s hs).2.2.2.2.1
  unfold wpX_map
  refine sf_x_room1 c2 hn (br_f (by decide) (sf_x_free1 h16 hs hu (br_f (by decide) (sf_x_wf1 e16 he hd (br_f (by decide) (sf_x_add (SZ := SZ) (a := some s) (b := none) (e := some e) (f := none) (c := 0) n16 (sf_some hA) sf_none (sf_some (by omega)) sf_none (Or.inr ⟨by decide, rfl⟩) ⟨vs, nm_r ls ⟨(LS s).length + 1, ?_⟩⟩))))))
  rw [← e0]
  exact sf_x_maploop n16 hs (by omega) (sf_E_wf (ta := ta) hE he hd) l128 gs h (LS s).length 0 sx it (by omega) sf_U0 sf_G0
theorem sf_x_filter {post : Int32 → SX → Prop} {LS : Nat → List Int32} {SZ : Nat → Nat} {s e : Nat} (hE : sf_E ec tc es el ed se to) (hN : sf_N (sf_V es el to ta) (sf_W ec ed se) nc kd sa sb ex1 ex2 pm1 pm2 us hc ts nl it LS SZ) (c2 : NC ≤ 16) (hn : nc < NC) (hs : s < nc) (hu : us s = 0) (he : e < ec) (hd : ed e = 1)
    (h : ∀ sx' it', sf_U it it' (nc * 128) → sf_G it' (nc * 128) (sf_ft (fun x => sf_V es el to ta e x 0) (LS s) (LS s).length) → post (nI nc) (nI NC, nI EC, nI OC, nI tc, nI ec, nI (nc + 1), xr, xm, xt, xe, to, ta, es, el, ed, sf_su (sf_su se (some e)) none, sx', upd kd nc 3, upd sa nc (sf_o (some s)), upd sb nc (sf_o none), upd ex1 nc (sf_o (some e)), upd ex2 nc (sf_o none), upd pm1 nc 0, upd pm2 nc 0, sf_su (sf_su us (some s)) none, upd hc nc (sf_oc hc (sf_oc hc 0 (some s)) none), upd ts nc (nI (1 + sf_oz SZ (some s) + sf_oz SZ none)), upd nl nc (nI (sf_ft (fun x => sf_V es el to ta e x 0) (LS s) (LS s).length).length), it')) : wpX_filter post (nI NC, nI EC, nI OC, nI tc, nI ec, nI nc, xr, xm, xt, xe, to, ta, es, el, ed, se, sx, kd, sa, sb, ex1, ex2, pm1, pm2, us, hc, ts, nl, it) (nI s) (nI e) := by
  have h16 := hN.1
  have e16 := hE.1
  have n16 : nc < 16 := by omega
  have e0 : upd nl nc (nI 0) = nl := sf_updid (hN.2.2.1 nc (Nat.le_refl nc)).2
  have hA : s < nc ∧ ts s = nI (SZ s) ∧ sf_b (hc s) := ⟨hs, (hN.2.1 s hs).2.2.2.2.2.1, (hN.2.1 s hs).2.2.2.2.2.2.2.2.1⟩
  have vs : vp_in (nI s) 16 := vp_in_nI (by omega) (by omega)
  have ls : nl (nI s).toNatClampNeg = nI (LS s).length := by rw [nI_clamp (by omega)]; exact (hN.2.1 s hs).2.1
  have l128 := (hN.2.1 s hs).2.2.1
  have gs := (hN.2.1 s hs).2.2.2.2.1
  unfold wpX_filter
  refine sf_x_room1 c2 hn (br_f (by decide) (sf_x_free1 h16 hs hu (br_f (by decide) (sf_x_wf1 e16 he hd (br_f (by decide) (sf_x_add (SZ := SZ) (a := some s) (b := none) (e := some e) (f := none) (c := 0) n16 (sf_some hA) sf_none (sf_some (by omega)) sf_none (Or.inr ⟨by decide, rfl⟩) ⟨vs, nm_r ls ⟨(LS s).length + 1, ?_⟩⟩))))))
  rw [← e0]
  exact sf_x_filterloop n16 hs (by omega) (sf_E_wf (ta := ta) hE he hd) l128 gs h (LS s).length 0 sx it (by omega) sf_U0 sf_G0
theorem sf_x_scan {post : Int32 → SX → Prop} {LS : Nat → List Int32} {SZ : Nat → Nat} {s e : Nat} {a : Int32} (hE : sf_E ec tc es el ed se to) (hN : sf_N (sf_V es el to ta) (sf_W ec ed se) nc kd sa sb ex1 ex2 pm1 pm2 us hc ts nl it LS SZ) (c2 : NC ≤ 16) (hn : nc < NC) (hs : s < nc) (hu : us s = 0) (he : e < ec) (hd : ed e = 1)
    (h : ∀ sx' it', sf_U it it' (nc * 128) → sf_G it' (nc * 128) (sf_tb (fun i => sf_ac (sf_V es el to ta e) a (LS s) (i + 1)) (LS s).length) → post (nI nc) (nI NC, nI EC, nI OC, nI tc, nI ec, nI (nc + 1), xr, xm, xt, xe, to, ta, es, el, ed, sf_su (sf_su se (some e)) none, sx', upd kd nc 4, upd sa nc (sf_o (some s)), upd sb nc (sf_o none), upd ex1 nc (sf_o (some e)), upd ex2 nc (sf_o none), upd pm1 nc a, upd pm2 nc 0, sf_su (sf_su us (some s)) none, upd hc nc (sf_oc hc (sf_oc hc 0 (some s)) none), upd ts nc (nI (1 + sf_oz SZ (some s) + sf_oz SZ none)), upd nl nc (nI (LS s).length), it')) : wpX_scan post (nI NC, nI EC, nI OC, nI tc, nI ec, nI nc, xr, xm, xt, xe, to, ta, es, el, ed, se, sx, kd, sa, sb, ex1, ex2, pm1, pm2, us, hc, ts, nl, it) (nI s) a (nI e) := by
  have h16 := hN.1
  have e16 := hE.1
  have n16 : nc < 16 := by omega
  have e0 : upd nl nc (nI 0) = nl := sf_updid (hN.2.2.1 nc (Nat.le_refl nc)).2
  have hA : s < nc ∧ ts s = nI (SZ s) ∧ sf_b (hc s) := ⟨hs, (hN.2.1 s hs).2.2.2.2.2.1, (hN.2.1 s hs).2.2.2.2.2.2.2.2.1⟩
  have vs : vp_in (nI s) 16 := vp_in_nI (by omega) (by omega)
  have ls : nl (nI s).toNatClampNeg = nI (LS s).length := by rw [nI_clamp (by omega)]; exact (hN.2.1 s hs).2.1
  have l128 := (hN.2.1 s hs).2.2.1
  have gs := (hN.2.1 s hs).2.2.2.2.1
  unfold wpX_scan
  refine sf_x_room1 c2 hn (br_f (by decide) (sf_x_free1 h16 hs hu (br_f (by decide) (sf_x_wf1 e16 he hd (br_f (by decide) (sf_x_add (SZ := SZ) (a := some s) (b := none) (e := some e) (f := none) (c := 0) n16 (sf_some hA) sf_none (sf_some (by omega)) sf_none (Or.inr ⟨by decide, rfl⟩) ⟨vs, nm_r ls ⟨(LS s).length + 1, ?_⟩⟩))))))
  rw [← e0]
  exact sf_x_scanloop n16 hs (by omega) (sf_E_wf (ta := ta) hE he hd) l128 gs h (LS s).length 0 sx it (by omega) sf_U0 sf_G0
theorem sf_x_take {post : Int32 → SX → Prop} {LS : Nat → List Int32} {SZ : Nat → Nat} {s m : Nat} (hE : sf_E ec tc es el ed se to) (hN : sf_N (sf_V es el to ta) (sf_W ec ed se) nc kd sa sb ex1 ex2 pm1 pm2 us hc ts nl it LS SZ) (c2 : NC ≤ 16) (hn : nc < NC) (hs : s < nc) (hu : us s = 0) (hm : m < 2 ^ 31)
    (h : ∀ it', sf_U it it' (nc * 128) → sf_G it' (nc * 128) (sf_tb (fun i => (LS s).getD (0 + i) 0) (sf_mn m (LS s).length)) → post (nI nc) (nI NC, nI EC, nI OC, nI tc, nI ec, nI (nc + 1), xr, xm, xt, xe, to, ta, es, el, ed, sf_su (sf_su se none) none, sx, upd kd nc 6, upd sa nc (sf_o (some s)), upd sb nc (sf_o none), upd ex1 nc (sf_o none), upd ex2 nc (sf_o none), upd pm1 nc (nI m), upd pm2 nc 0, sf_su (sf_su us (some s)) none, upd hc nc (sf_oc hc (sf_oc hc 0 (some s)) none), upd ts nc (nI (1 + sf_oz SZ (some s) + sf_oz SZ none)), upd nl nc (nI (sf_mn m (LS s).length)), it')) : wpX_take post (nI NC, nI EC, nI OC, nI tc, nI ec, nI nc, xr, xm, xt, xe, to, ta, es, el, ed, se, sx, kd, sa, sb, ex1, ex2, pm1, pm2, us, hc, ts, nl, it) (nI s) (nI m) := by
  have h16 := hN.1
  have e16 := hE.1
  have n16 : nc < 16 := by omega
  have e0 : upd nl nc (nI 0) = nl := sf_updid (hN.2.2.1 nc (Nat.le_refl nc)).2
  have hA : s < nc ∧ ts s = nI (SZ s) ∧ sf_b (hc s) := ⟨hs, (hN.2.1 s hs).2.2.2.2.2.1, (hN.2.1 s hs).2.2.2.2.2.2.2.2.1⟩
  have vs : vp_in (nI s) 16 := vp_in_nI (by omega) (by omega)
  have ls : nl (nI s).toNatClampNeg = nI (LS s).length := by rw [nI_clamp (by omega)]; exact (hN.2.1 s hs).2.1
  have l128 := (hN.2.1 s hs).2.2.1
  have gs := (hN.2.1 s hs).2.2.2.2.1
  have z0 := (hN.2.2.1 nc (Nat.le_refl nc)).2
  have mn := sf_mn_l m (LS s).length
  unfold wpX_take
  exact sf_x_room1 c2 hn (br_f (by decide) (sf_x_free1 h16 hs hu (br_f (by decide) (br_t (nI_pos' hm) (sf_x_add (SZ := SZ) (a := some s) (b := none) (e := none) (f := none) (c := 0) n16 (sf_some hA) sf_none sf_none sf_none (Or.inr ⟨by decide, rfl⟩) ⟨vs, sf_x_min2 rfl ls (by omega) (by omega) (sf_x_copy (fr := 0) (c := sf_mn m (LS s).length) rfl (by rw [Nat.zero_add]) n16 hs l128 gs (by omega) z0 h)⟩)))))
theorem sf_x_drop {post : Int32 → SX → Prop} {LS : Nat → List Int32} {SZ : Nat → Nat} {s m : Nat} (hE : sf_E ec tc es el ed se to) (hN : sf_N (sf_V es el to ta) (sf_W ec ed se) nc kd sa sb ex1 ex2 pm1 pm2 us hc ts nl it LS SZ) (c2 : NC ≤ 16) (hn : nc < NC) (hs : s < nc) (hu : us s = 0) (hm : m < 2 ^ 31)
    (h : ∀ it', sf_U it it' (nc * 128) → sf_G it' (nc * 128) (sf_tb (fun i => (LS s).getD (sf_mn m (LS s).length + i) 0) ((LS s).length - sf_mn m (LS s).length)) → post (nI nc) (nI NC, nI EC, nI OC, nI tc, nI ec, nI (nc + 1), xr, xm, xt, xe, to, ta, es, el, ed, sf_su (sf_su se none) none, sx, upd kd nc 7, upd sa nc (sf_o (some s)), upd sb nc (sf_o none), upd ex1 nc (sf_o none), upd ex2 nc (sf_o none), upd pm1 nc (nI m), upd pm2 nc 0, sf_su (sf_su us (some s)) none, upd hc nc (sf_oc hc (sf_oc hc 0 (some s)) none), upd ts nc (nI (1 + sf_oz SZ (some s) + sf_oz SZ none)), upd nl nc (nI ((LS s).length - sf_mn m (LS s).length)), it')) : wpX_drop post (nI NC, nI EC, nI OC, nI tc, nI ec, nI nc, xr, xm, xt, xe, to, ta, es, el, ed, se, sx, kd, sa, sb, ex1, ex2, pm1, pm2, us, hc, ts, nl, it) (nI s) (nI m) := by
  have h16 := hN.1
  have e16 := hE.1
  have n16 : nc < 16 := by omega
  have e0 : upd nl nc (nI 0) = nl := sf_updid (hN.2.2.1 nc (Nat.le_refl nc)).2
  have hA : s < nc ∧ ts s = nI (SZ s) ∧ sf_b (hc s) := ⟨hs, (hN.2.1 s hs).2.2.2.2.2.1, (hN.2.1 s hs).2.2.2.2.2.2.2.2.1⟩
  have vs : vp_in (nI s) 16 := vp_in_nI (by omega) (by omega)
  have ls : nl (nI s).toNatClampNeg = nI (LS s).length := by rw [nI_clamp (by omega)]; exact (hN.2.1 s hs).2.1
  have l128 := (hN.2.1 s hs).2.2.1
  have gs := (hN.2.1 s hs).2.2.2.2.1
  have z0 := (hN.2.2.1 nc (Nat.le_refl nc)).2
  have mn := sf_mn_l m (LS s).length
  unfold wpX_drop
  exact sf_x_room1 c2 hn (br_f (by decide) (sf_x_free1 h16 hs hu (br_f (by decide) (br_t (nI_pos' hm) (sf_x_add (SZ := SZ) (a := some s) (b := none) (e := none) (f := none) (c := 0) n16 (sf_some hA) sf_none sf_none sf_none (Or.inr ⟨by decide, rfl⟩) ⟨vs, nm_r ls (sf_x_min2 rfl rfl (by omega) (by omega) (sf_x_copy (fr := sf_mn m (LS s).length) (c := (LS s).length - sf_mn m (LS s).length) rfl (congrArg nI (by omega)) n16 hs l128 gs (by omega) z0 h))⟩)))))
theorem sf_x_concatMap {post : Int32 → SX → Prop} {LS : Nat → List Int32} {SZ : Nat → Nat} {s e f : Nat} (hE : sf_E ec tc es el ed se to) (hN : sf_N (sf_V es el to ta) (sf_W ec ed se) nc kd sa sb ex1 ex2 pm1 pm2 us hc ts nl it LS SZ) (c2 : NC ≤ 16) (hn : nc < NC) (hs : s < nc) (hu : us s = 0) (hc0 : hc s = 0) (he : e < ec) (hd : ed e = 1) (hf : f < ec) (hdf : ed f = 1)
    (h : ∀ sx' it', sf_U it it' (nc * 128) → sf_G it' (nc * 128) (sf_cm (fun x => sf_V es el to ta e x 0) (sf_V es el to ta f) (LS s) (LS s).length) → post (nI nc) (nI NC, nI EC, nI OC, nI tc, nI ec, nI (nc + 1), xr, xm, xt, xe, to, ta, es, el, ed, sf_su (sf_su se (some e)) (some f), sx', upd kd nc 8, upd sa nc (sf_o (some s)), upd sb nc (sf_o none), upd ex1 nc (sf_o (some e)), upd ex2 nc (sf_o (some f)), upd pm1 nc 0, upd pm2 nc 0, sf_su (sf_su us (some s)) none, upd hc nc (sf_oc hc (sf_oc hc 1 (some s)) none), upd ts nc (nI (1 + sf_oz SZ (some s) + sf_oz SZ none)), upd nl nc (nI (sf_cm (fun x => sf_V es el to ta e x 0) (sf_V es el to ta f) (LS s) (LS s).length).length), it')) : wpX_concatMap post (nI NC, nI EC, nI OC, nI tc, nI ec, nI nc, xr, xm, xt, xe, to, ta, es, el, ed, se, sx, kd, sa, sb, ex1, ex2, pm1, pm2, us, hc, ts, nl, it) (nI s) (nI e) (nI f) := by
  have h16 := hN.1
  have e16 := hE.1
  have n16 : nc < 16 := by omega
  have e0 : upd nl nc (nI 0) = nl := sf_updid (hN.2.2.1 nc (Nat.le_refl nc)).2
  have hA : s < nc ∧ ts s = nI (SZ s) ∧ sf_b (hc s) := ⟨hs, (hN.2.1 s hs).2.2.2.2.2.1, (hN.2.1 s hs).2.2.2.2.2.2.2.2.1⟩
  have vs : vp_in (nI s) 16 := vp_in_nI (by omega) (by omega)
  have ls : nl (nI s).toNatClampNeg = nI (LS s).length := by rw [nI_clamp (by omega)]; exact (hN.2.1 s hs).2.1
  have l128 := (hN.2.1 s hs).2.2.1
  have gs := (hN.2.1 s hs).2.2.2.2.1
  have l16 := (hN.2.1 s hs).2.2.2.1 hc0
  unfold wpX_concatMap
  refine sf_x_room1 c2 hn (br_f (by decide) (sf_x_free1 h16 hs hu (br_f (by decide) (sf_x_wf1 e16 he hd (br_f (by decide) (sf_x_wf1 e16 hf hdf (br_f (by decide) ⟨vs, br_t (by rw [nI_clamp (by omega)]; exact hc0) (sf_x_add (SZ := SZ) (a := some s) (b := none) (e := some e) (f := some f) (c := 1) n16 (sf_some hA) sf_none (sf_some (by omega)) (sf_some (by omega)) (Or.inl ⟨by decide, rfl⟩) ⟨vs, nm_r ls ⟨(LS s).length + 1, ?_⟩⟩)⟩)))))))
  rw [← e0]
  exact sf_x_cmloop n16 hs (by omega) (by omega) (sf_E_wf (ta := ta) hE he hd) (sf_E_wf (ta := ta) hE hf hdf) l16 gs h (LS s).length 0 sx it (by omega) sf_U0 sf_G0
theorem sf_x_zip {post : Int32 → SX → Prop} {LS : Nat → List Int32} {SZ : Nat → Nat} {s t e : Nat} (hE : sf_E ec tc es el ed se to) (hN : sf_N (sf_V es el to ta) (sf_W ec ed se) nc kd sa sb ex1 ex2 pm1 pm2 us hc ts nl it LS SZ) (c2 : NC ≤ 16) (hn : nc < NC) (hs : s < nc) (hu : us s = 0) (ht : t < nc) (hut : us t = 0) (hst : s ≠ t) (he : e < ec) (hd : ed e = 1)
    (h : ∀ sx' it', sf_U it it' (nc * 128) → sf_G it' (nc * 128) (sf_tb (fun i => sf_V es el to ta e ((LS s).getD i 0) ((LS t).getD i 0)) (sf_mn (LS s).length (LS t).length)) → post (nI nc) (nI NC, nI EC, nI OC, nI tc, nI ec, nI (nc + 1), xr, xm, xt, xe, to, ta, es, el, ed, sf_su (sf_su se (some e)) none, sx', upd kd nc 5, upd sa nc (sf_o (some s)), upd sb nc (sf_o (some t)), upd ex1 nc (sf_o (some e)), upd ex2 nc (sf_o none), upd pm1 nc 0, upd pm2 nc 0, sf_su (sf_su us (some s)) (some t), upd hc nc (sf_oc hc (sf_oc hc 0 (some s)) (some t)), upd ts nc (nI (1 + sf_oz SZ (some s) + sf_oz SZ (some t))), upd nl nc (nI (sf_mn (LS s).length (LS t).length)), it')) : wpX_zip post (nI NC, nI EC, nI OC, nI tc, nI ec, nI nc, xr, xm, xt, xe, to, ta, es, el, ed, se, sx, kd, sa, sb, ex1, ex2, pm1, pm2, us, hc, ts, nl, it) (nI s) (nI t) (nI e) := by
  have h16 := hN.1
  have e16 := hE.1
  have n16 : nc < 16 := by omega
  have e0 : upd nl nc (nI 0) = nl := sf_updid (hN.2.2.1 nc (Nat.le_refl nc)).2
  have hA : s < nc ∧ ts s = nI (SZ s) ∧ sf_b (hc s) := ⟨hs, (hN.2.1 s hs).2.2.2.2.2.1, (hN.2.1 s hs).2.2.2.2.2.2.2.2.1⟩
  have vs : vp_in (nI s) 16 := vp_in_nI (by omega) (by omega)
  have ls : nl (nI s).toNatClampNeg = nI (LS s).length := by rw [nI_clamp (by omega)]; exact (hN.2.1 s hs).2.1
  have l128 := (hN.2.1 s hs).2.2.1
  have gs := (hN.2.1 s hs).2.2.2.2.1
  have hA2 : t < nc ∧ ts t = nI (SZ t) ∧ sf_b (hc t) := ⟨ht, (hN.2.1 t ht).2.2.2.2.2.1, (hN.2.1 t ht).2.2.2.2.2.2.2.2.1⟩
  have vt : vp_in (nI t) 16 := vp_in_nI (by omega) (by omega)
  have lt : nl (nI t).toNatClampNeg = nI (LS t).length := by rw [nI_clamp (by omega)]; exact (hN.2.1 t ht).2.1
  have m128 := (hN.2.1 t ht).2.2.1
  have gt := (hN.2.1 t ht).2.2.2.2.1
  have mn := sf_mn_l (LS s).length (LS t).length
  unfold wpX_zip
  refine sf_x_room1 c2 hn (br_f (by decide) (sf_x_free1 h16 hs hu (br_f (by decide) (sf_x_free1 h16 ht hut (br_f (by decide) (br_f (fun w => hst (sf_im w (by omega) (by omega))) (sf_x_wf1 e16 he hd (br_f (by decide) (sf_x_add (SZ := SZ) (a := some s) (b := some t) (e := some e) (f := none) (c := 0) n16 (sf_some hA) (sf_some hA2) (sf_some (by omega)) sf_none (Or.inr ⟨by decide, rfl⟩) ⟨vs, vt, sf_x_min2 ls lt (by omega) (by omega) ⟨sf_mn (LS s).length (LS t).length + 1, ?_⟩⟩)))))))))
  rw [← e0]
  exact sf_x_ziploop n16 hs ht (by omega) (sf_E_wf (ta := ta) hE he hd) l128 m128 gs gt mn.1 mn.2 h (sf_mn (LS s).length (LS t).length) 0 sx it (by omega) sf_U0 sf_G0
end
