section
variable {NC EC OC tc ec nc : Nat} {xr xm xt xe wc wm ac en ro mo tt : Int32} {to ta es el ed se sx kd sa sb ex1 ex2 pm1 pm2 us hc ts nl it ys yw yv yl : Nat → Int32}
/-! numbers between two bounds -/
def sf_cD (p : Int32) (lo hi N : Nat) : Prop := (nI lo ≤ p ∧ p ≤ nI hi ∧ p = nI N) ∨ (nI lo ≤ p ∧ ¬ p ≤ nI hi ∧ N = hi) ∨ (¬ nI lo ≤ p ∧ N = lo)
theorem sf_cl3 (p : Int32) {lo hi : Nat} (h : lo ≤ hi) (hh : hi < 2 ^ 31) : ∃ N, lo ≤ N ∧ N ≤ hi ∧ sf_cD p lo hi N := by
  by_cases a : nI lo ≤ p
  · by_cases b : p ≤ nI hi
    · have h0 : ¬ p < 0 := Int32.not_lt.mpr (Int32.le_trans (nI_pos' (by omega)) a)
      obtain ⟨j, hj, rfl⟩ := nI_of h0
      rw [nI_leI (by omega) hj] at a
      rw [nI_leI hj hh] at b
      exact ⟨j, a, b, Or.inl ⟨nI_le a hj, nI_le b hh, rfl⟩⟩
    · exact ⟨hi, h, Nat.le_refl hi, Or.inr (Or.inl ⟨a, b, rfl⟩)⟩
  · exact ⟨lo, Nat.le_refl lo, h, Or.inr (Or.inr ⟨a, rfl⟩)⟩
theorem sf_x_cl {post : Int32 → Prop} {p : Int32} {lo hi N : Nat} (hd : sf_cD p lo hi N) (h : post (nI N)) : wpX_clamp post p (nI lo) (nI hi) := by
  rcases hd with ⟨a, b, rfl⟩ | ⟨a, b, rfl⟩ | ⟨a, rfl⟩
  · exact br_t a (br_t b h)
  · exact br_t a (br_f b h)
  · exact br_f a h
theorem sf_p_cl {P : Int32 → Prop} {p : Int32} {lo hi N : Nat} (hd : sf_cD p lo hi N) (h : P (nI N)) : ((nI lo ≤ p → (((p ≤ nI hi → (P p)) ∧ (¬ p ≤ nI hi → (P (nI hi)))))) ∧ (¬ nI lo ≤ p → (P (nI lo)))) := sf_x_cl hd h
theorem i_vc0 (k0 : Int32) (k1 : Int32) (k2 : Int32) : wpX_init (fun u => wpY_init (fun v => i_Rel 3 u v) k0 k1 k2) k0 k1 k2 := by
  obtain ⟨N0, a0, b0, d0⟩ := sf_cl3 k0 (lo := 4) (hi := 16) (by decide) (by decide)
  obtain ⟨N1, a1, b1, d1⟩ := sf_cl3 k1 (lo := 4) (hi := 16) (by decide) (by decide)
  obtain ⟨N2, a2, b2, d2⟩ := sf_cl3 k2 (lo := 8) (hi := 32) (by decide) (by decide)
  unfold wpX_init
  refine sf_x_cl (lo := 4) (hi := 16) d0 (sf_x_cl (lo := 4) (hi := 16) d1 (sf_x_cl (lo := 8) (hi := 32) d2 ?_))
  refine sf_p_cl (P := fun z => wY_init_173 (fun v => i_Rel 3 (nI N0, nI N1, nI N2, 0, 0, 0, (-1), (-1), 0, 0, (fun _ => 0), (fun _ => 0), (fun _ => 0), (fun _ => 0), (fun _ => 0), (fun _ => 0), (fun _ => 0), (fun _ => 0), (fun _ => 0), (fun _ => 0), (fun _ => 0), (fun _ => 0), (fun _ => 0), (fun _ => 0), (fun _ => 0), (fun _ => 0), (fun _ => 0), (fun _ => 0), (fun _ => 0)) v) k1 k2 z 0 0 0 0 0 0 0 0 0 0 0 0 0 (fun _ => 0) (fun _ => 0) (fun _ => 0) (fun _ => 0) (fun _ => 0) (fun _ => 0) (fun _ => 0) (fun _ => 0) (fun _ => 0) (fun _ => 0) (fun _ => 0) (fun _ => 0) (fun _ => 0) (fun _ => 0) (fun _ => 0) (fun _ => 0) (fun _ => 0) (fun _ => 0)) (lo := 4) (hi := 16) d0 ?_
  refine sf_p_cl (P := fun z => wY_init_198 _ k2 z (nI N0) 0 0 0 0 0 0 0 0 0 0 0 0 (fun _ => 0) (fun _ => 0) (fun _ => 0) (fun _ => 0) (fun _ => 0) (fun _ => 0) (fun _ => 0) (fun _ => 0) (fun _ => 0) (fun _ => 0) (fun _ => 0) (fun _ => 0) (fun _ => 0) (fun _ => 0) (fun _ => 0) (fun _ => 0) (fun _ => 0) (fun _ => 0)) (lo := 4) (hi := 16) d1 ?_
  refine sf_p_cl (P := fun z => wY_init_225 _ z (nI N0) (nI N1) 0 0 0 0 0 0 0 0 0 0 0 (fun _ => 0) (fun _ => 0) (fun _ => 0) (fun _ => 0) (fun _ => 0) (fun _ => 0) (fun _ => 0) (fun _ => 0) (fun _ => 0) (fun _ => 0) (fun _ => 0) (fun _ => 0) (fun _ => 0) (fun _ => 0) (fun _ => 0) (fun _ => 0) (fun _ => 0) (fun _ => 0)) (lo := 8) (hi := 32) d2 ?_
  exact sf_mk (k := 3) (nc := 0) (ec := 0) (tc := 0) ⟨a0, b0, b1, a2, b2, by omega, by omega, sf_E0, fun _ => [], fun _ => 0, sf_N0, Or.inl ⟨rfl, rfl, rfl, rfl, rfl⟩⟩
theorem i_vc_newExpr {k : Nat} {u : SX} {v : SY} (I : i_Rel k u v) (hk : k + 4 ≤ 2051) : wpX_newExpr (fun r u' => wpY_newExpr (fun r' v' => r' = r ∧ i_Rel (k + 4) u' v') v) u := by
  have I0 := I
  obtain ⟨NC, EC, OC, tc, ec, nc, xr, xm, xt, xe, to, ta, es, el, ed, se, sx, kd, sa, sb, ex1, ex2, pm1, pm2, us, hc, ts, nl, it, wc, wm, ac, en, ro, mo, tt, ys, yw, yv, yl, rfl, rfl, I⟩ := I
  obtain ⟨c1, c2, c3, c4, c5, c6, c7, hE, LS, SZ, hN, hR⟩ := I
  by_cases h : ec < EC
  · have ve : vp_in (nI ec) 16 := vp_in_nI (by omega) (by omega)
    have ce : (nI ec).toNatClampNeg = ec := nI_clamp (by omega)
    obtain ⟨z1, z2, z3⟩ := hE.2.2.2 ec (Nat.le_refl ec)
    have I' : sf_I NC EC OC nc (ec + 1) tc to ta (upd es ec (nI tc)) el ed se kd sa sb ex1 ex2 pm1 pm2 us hc ts nl it xr xm xt xe ac en ro mo tt :=
      ⟨c1, c2, c3, c4, c5, c6, by omega, sf_E_new hE (by omega), LS, SZ, sf_N_VW (fun e we => sf_V_new we.1) (fun e we => ⟨by have := we.1; omega, we.2⟩) hN, hR⟩
    exact br_t (nI_lt h (by omega)) ⟨ve, nm_r (congrArg (fun j => upd es j (nI tc)) ce) (nm_r (nI_1 ec) (br_t (nI_lt h (by omega)) ⟨ve, nm_r (congrArg (fun j => upd es j (nI tc)) ce) ⟨ve, nm_r (e' := el) (by rw [ce]; exact sf_updid z1) ⟨ve, nm_r (e' := ed) (by rw [ce]; exact sf_updid z2) ⟨ve, nm_r (e' := se) (by rw [ce, sf_vb0]; exact sf_updid z3) (nm_r (nI_1 ec) ⟨nI_pred ec, sf_mk I'⟩)⟩⟩⟩⟩))⟩
  · exact br_f (nI_nlt (by omega) (by omega)) (br_f (nI_nlt (by omega) (by omega)) ⟨rfl, i_up I0⟩)
/-! tok -/
theorem sf_x_tok {post : Int32 → SX → Prop} {k l d : Nat} {op arg : Int32} (hk : k < 16) (hl : l ≤ 16) (hd : d ≤ 8) (ht : tc ≤ 128) (el1 : el k = nI l) (ed1 : ed k = nI d) (h0 : (¬ ∃ o, o < 10 ∧ op = nI o ∧ se k = 0 ∧ l < 16 ∧ tc < 128 ∧ (o < 3 → d < 8) ∧ (3 ≤ o → 2 ≤ d)) → post (-1) (nI NC, nI EC, nI OC, nI tc, nI (k + 1), nI nc, xr, xm, xt, xe, to, ta, es, el, ed, se, sx, kd, sa, sb, ex1, ex2, pm1, pm2, us, hc, ts, nl, it))
    (h1 : ∀ o, o < 10 → op = nI o → se k = 0 → l < 16 → tc < 128 → (o < 3 → d < 8) → (3 ≤ o → 2 ≤ d) → post (nI (if o < 3 then d + 1 else d - 1)) (nI NC, nI EC, nI OC, nI (tc + 1), nI (k + 1), nI nc, xr, xm, xt, xe, upd to tc (nI o), upd ta tc arg, es, upd el k (nI (l + 1)), upd ed k (nI (if o < 3 then d + 1 else d - 1)), se, sx, kd, sa, sb, ex1, ex2, pm1, pm2, us, hc, ts, nl, it)) : wpX_tok post (nI NC, nI EC, nI OC, nI tc, nI (k + 1), nI nc, xr, xm, xt, xe, to, ta, es, el, ed, se, sx, kd, sa, sb, ex1, ex2, pm1, pm2, us, hc, ts, nl, it) op arg := by
  have vk : vp_in (nI k) 16 := vp_in_nI hk (by omega)
  have ck : (nI k).toNatClampNeg = k := nI_clamp (by omega)
  refine br_f (nI_ne0 (by omega) (by omega)) (nm_r (nI_pred k) ?_)
  have hA : ∀ P : Int32 → Prop, ((¬ ∃ o, o < 10 ∧ op = nI o ∧ se k = 0 ∧ l < 16 ∧ tc < 128 ∧ (o < 3 → d < 8) ∧ (3 ≤ o → 2 ≤ d)) → P 0) → (∀ o, o < 10 → op = nI o → se k = 0 → l < 16 → tc < 128 → (o < 3 → d < 8) → (3 ≤ o → 2 ≤ d) → P 1) → wpX_acceptsToken P (nI NC, nI EC, nI OC, nI tc, nI (k + 1), nI nc, xr, xm, xt, xe, to, ta, es, el, ed, se, sx, kd, sa, sb, ex1, ex2, pm1, pm2, us, hc, ts, nl, it) (nI k) op := by
    intro P p0 p1
    unfold wpX_acceptsToken
    dsimp only
    rw [ck, el1, ed1]
    refine ⟨vk, br_c (fun s0 => br_c (fun g => p0 ?_) (fun g => br_c (fun g9 => ⟨vk, br_c (fun gl => p0 ?_) (fun gl => br_c (fun gt => ?_) (fun gt => p0 ?_))⟩) (fun g9 => p0 ?_))) (fun s0 => p0 ?_)⟩
    · rintro ⟨o, ho, rfl, -⟩
      exact absurd g (nI_pos (by omega))
    · rintro ⟨o, ho, rfl, -, l1, -⟩
      exact absurd gl (nI_ge (b := 16) l1 (by decide))
    · obtain ⟨o, ho, rfl⟩ := nI_of2 (M := 9) (n := 9) (by decide) g g9
      have l1 : l < 16 := by
        by_cases z : l < 16
        · exact z
        · exact absurd (nI_le (a := 16) (b := l) (by omega) (by omega)) gl
      have t1 : tc < 128 := by
        by_cases z : tc < 128
        · exact z
        · exact absurd gt (nI_nlt (b := 128) (by omega) (by omega))
      refine sf_x_bin (by omega) (fun o3 => br_t rfl ⟨vk, ?_⟩) (fun o3 => br_f (by decide) ⟨vk, ?_⟩)
      · by_cases z : d < 8
        · exact br_f (nI_ge (b := 8) z (by decide)) (p1 o (by omega) rfl s0 l1 t1 (fun _ => z) (fun w => by omega))
        · refine br_t (nI_le (a := 8) (by omega) (by omega)) (p0 ?_)
          rintro ⟨o', ho', e, -, -, -, q, -⟩
          have := sf_im e (by omega) (by omega)
          exact z (q (by omega))
      · by_cases z : 2 ≤ d
        · exact br_f (nI_nlt (b := 2) z (by omega)) (p1 o (by omega) rfl s0 l1 t1 (fun w => by omega) (fun _ => z))
        · refine br_t (nI_lt (b := 2) (by omega) (by decide)) (p0 ?_)
          rintro ⟨o', ho', e, -, -, -, -, q⟩
          have := sf_im e (by omega) (by omega)
          exact z (q (by omega))
    · rintro ⟨o, ho, -, -, -, t1, -⟩
      exact absurd (nI_lt (b := 128) t1 (by decide)) gt
    · rintro ⟨o, ho, rfl, -⟩
      exact absurd (nI_le (b := 9) (by omega) (by decide)) g9
    · rintro ⟨o, ho, -, s1, -⟩
      exact s0 s1
  refine hA _ (fun n => br_t rfl (h0 n)) (fun o ho eo s0 l1 t1 g1 g2 => br_f (by decide) ?_)
  have h2 := h1 o ho eo s0 l1 t1 g1 g2
  subst eo
  have vt : vp_in (nI tc) 128 := vp_in_nI t1 (by omega)
  have ct : (nI tc).toNatClampNeg = tc := nI_clamp (by omega)
  refine ⟨vt, nm_r (congrArg (fun j => upd to j (nI o)) ct) ⟨vt, nm_r (congrArg (fun j => upd ta j arg) ct) (nm_r (nI_1 tc) ⟨vk, vk, nm_r (e' := upd el k (nI (l + 1))) (by rw [ck, el1, nI_1]) ⟨vk, ?_⟩⟩)⟩⟩
  refine sf_x_bin ho (fun o3 => br_t rfl ⟨vk, nm_r (e' := upd ed k (nI (d + 1))) (by rw [ck, ed1, nI_1]) ⟨vk, ?_⟩⟩) (fun o3 => br_f (by decide) ⟨vk, nm_r (e' := upd ed k (nI (d - 1))) (by rw [ck, ed1, sf_m1 (by have := g2 o3; omega)]) ⟨vk, ?_⟩⟩)
  · rw [if_pos o3] at h2
    rw [ck, pk_us]
    exact h2
  · rw [if_neg (by omega)] at h2
    rw [ck, pk_us]
    exact h2
end
