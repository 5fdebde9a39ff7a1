section
variable {NC EC OC tc ec nc : Nat} {xr xm xt xe wc wm ac en ro mo tt : Int32} {to ta es el ed se sx kd sa sb ex1 ex2 pm1 pm2 us hc ts nl it ys yw yv yl : Nat → Int32}
def sf_oc (hc : Nat → Int32) (c : Int32) : Option Nat → Int32
  | none => c
  | some s => c ||| hc s
theorem sf_oc_b {c : Int32} {o : Option Nat} (h : sf_b c) (g : ∀ s, o = some s → sf_b (hc s)) : sf_b (sf_oc hc c o) := by
  cases o with
  | none => exact h
  | some s => exact (sf_bo h (g s rfl)).1
theorem sf_su_k {a : Nat → Int32} {o : Option Nat} {j : Nat} (h : a j = 1) : sf_su a o j = 1 := by
  cases o with
  | none => exact h
  | some s =>
    by_cases z : j = s
    · subst z; exact pk_us
    · exact (pk_un z).trans h
theorem sf_su_1 {a : Nat → Int32} {j : Nat} : sf_su a (some j) j = 1 := pk_us
theorem sf_E_so {o : Option Nat} (H : sf_E ec tc es el ed se to) (h : ∀ j, o = some j → j < ec) : sf_E ec tc es el ed (sf_su se o) to := by
  cases o with
  | none => exact H
  | some s => exact sf_E_seal H (h s rfl)
theorem sf_W_so {o : Option Nat} {e : Nat} (h : sf_W ec ed se e) : sf_W ec ed (sf_su se o) e := ⟨h.1, sf_su_k h.2.1, h.2.2⟩
theorem sf_I_ad {LS : Nat → List Int32} {SZ : Nat → Nat} (c1 : 4 ≤ NC) (c2 : NC ≤ 16) (c3 : EC ≤ 16) (c4 : 8 ≤ OC) (c5 : OC ≤ 32) (c7 : ec ≤ EC) (hE : sf_E ec tc es el ed se to) (hN : sf_N (sf_V es el to ta) (sf_W ec ed se) nc kd sa sb ex1 ex2 pm1 pm2 us hc ts nl it LS SZ) (hR : sf_R nc LS xr xm xt xe ac en ro mo tt) (hn : nc < NC)
    {k p q : Int32} {a b e f : Option Nat} {it' : Nat → Int32} {L : List Int32} {z : Nat} {c : Int32}
    (ha : ∀ s, a = some s → s < nc ∧ us s = 0) (hb : ∀ s, b = some s → s < nc ∧ us s = 0) (hab : ∀ s, a = some s → b ≠ some s) (he : ∀ j, e = some j → j < ec) (hf : ∀ j, f = some j → j < ec)
    (hK : sf_K (sf_V es el to ta) (sf_W ec ed (sf_su (sf_su se e) f)) (sf_gu LS nc L) (sf_gu SZ nc z) (upd hc nc c) nc k (sf_o a) (sf_o b) (sf_o e) (sf_o f) p q)
    (hL : L.length ≤ 128) (hL2 : c = 0 → L.length ≤ 16) (hc1 : sf_b c) (hi : sf_U it it' (nc * 128)) (hg : sf_G it' (nc * 128) L)
    (hz : z = 1 + sf_oz SZ a + sf_oz SZ b) :
    sf_I NC EC OC (nc + 1) ec tc to ta es el ed (sf_su (sf_su se e) f) (upd kd nc k) (upd sa nc (sf_o a)) (upd sb nc (sf_o b)) (upd ex1 nc (sf_o e)) (upd ex2 nc (sf_o f)) (upd pm1 nc p) (upd pm2 nc q) (sf_su (sf_su us a) b) (upd hc nc c) (upd ts nc (nI z)) (upd nl nc (nI L.length)) it' xr xm xt xe ac en ro mo tt := by
  refine ⟨c1, c2, c3, c4, c5, by omega, c7, sf_E_so (sf_E_so hE he) hf, sf_gu LS nc L, sf_gu SZ nc z, ?_, sf_R_add hR⟩
  exact sf_N_ad (sf_N_VW (fun _ _ => rfl) (fun _ h => sf_W_so (sf_W_so h)) hN) (by omega) ha hb hab hK hL hL2 hc1 hi hg hz
/-! the questions that both sides ask of an argument -/
def sf_isw (ec : Nat) (ed : Nat → Int32) (e : Int32) : Prop := ∃ j, j < ec ∧ e = nI j ∧ ed j = 1
def sf_isf (nc : Nat) (us : Nat → Int32) (s : Int32) : Prop := ∃ j, j < nc ∧ s = nI j ∧ us j = 0
end
