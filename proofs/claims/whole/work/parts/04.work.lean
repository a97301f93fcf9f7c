/-! bounds: the response is small, so that a quarter of its fourfold is itself -/
theorem wg_picB {c : Nat → Int32} (h : wg_B 99 c) (a b : Nat) : -99 ≤ (wg_pic c a b).toInt ∧ (wg_pic c a b).toInt ≤ 99 := by
  unfold wg_pic
  split
  · exact h _
  · decide
theorem wg_prodB {x y : Int32} (hx : -9 ≤ x.toInt ∧ x.toInt ≤ 9) (hy : -99 ≤ y.toInt ∧ y.toInt ≤ 99) : -891 ≤ (x * y).toInt ∧ (x * y).toInt ≤ 891 := by
  have h : (x.toInt * y.toInt).natAbs ≤ 9 * 99 := by
    rw [Int.natAbs_mul]
    exact Nat.mul_le_mul (by omega) (by omega)
  rw [Int32.toInt_mul, Int.bmod_eq_of_le (by omega) (by omega)]
  omega
theorem wg_psB {c w : Nat → Int32} (hc : wg_B 99 c) (hw : wg_B 9 w) (f x y : Nat) : ∀ k : Nat, k ≤ 9 → -(891 * (k : Int)) ≤ (wg_ps c w f x y k).toInt ∧ (wg_ps c w f x y k).toInt ≤ 891 * (k : Int) := by
  intro k
  induction k with
  | zero =>
    intro _
    show -(891 * ((0 : Nat) : Int)) ≤ (0 : Int32).toInt ∧ (0 : Int32).toInt ≤ 891 * ((0 : Nat) : Int)
    decide
  | succ k ih =>
    intro hk
    have h1 := ih (by omega)
    have h2 := wg_prodB (hw (9 * f + k)) (wg_picB hc (x + k % 3) (y + k / 3))
    rw [wg_ps, Int32.toInt_add, Int.bmod_eq_of_le (by omega) (by omega)]
    omega
theorem wg_q4 {x : Int32} (h : -8019 ≤ x.toInt ∧ x.toInt ≤ 8019) : (4 * x) / 4 = x := by
  apply Int32.toInt_inj.mp
  have e4 : (4 : Int32).toInt = 4 := by decide
  have e : (4 * x).toInt = 4 * x.toInt := by
    rw [Int32.toInt_mul, e4, Int.bmod_eq_of_le (by omega) (by omega)]
  rw [Int32.toInt_div, e, e4, Int.mul_tdiv_cancel_left _ (by decide), Int.bmod_eq_of_le (by omega) (by omega)]
/-! X's lines -/
theorem wg_slX {post : SX → Prop} {c w r s p : Nat → Int32} {x y : Int32} (a t : Nat) (h : a + 3 * t < 16) (ex : x = nI a) (ey : y = nI t) (hp : post (c, w, r, wg_sl a t s, p)) : wpX_spreadLine post (c, w, r, s, p) x y := by
  subst ex ey
  have i1 : nI a + nI t = nI (a + t) := nI_add a t
  have i2 : nI a + 2 * nI t = nI (a + 2 * t) := by show nI a + nI 2 * nI t = _; rw [pk_mul, nI_add]
  have i3 : nI a + 3 * nI t = nI (a + 3 * t) := by show nI a + nI 3 * nI t = _; rw [pk_mul, nI_add]
  have c0 : (nI a).toNatClampNeg = a := nI_clamp (by omega)
  have c1 : (nI a + nI t).toNatClampNeg = a + t := pk_cl _ i1
  have c2 : (nI a + 2 * nI t).toNatClampNeg = a + 2 * t := pk_cl _ i2
  have c3 : (nI a + 3 * nI t).toNatClampNeg = a + 3 * t := pk_cl _ i3
  have h0 : vp_in (nI a) 16 := vp_in_nI (by omega) (by decide)
  have h1 : vp_in (nI a + nI t) 16 := pk_in (a + t) 16 (by omega) i1
  have h2 : vp_in (nI a + 2 * nI t) 16 := pk_in (a + 2 * t) 16 (by omega) i2
  have h3 : vp_in (nI a + 3 * nI t) 16 := pk_in (a + 3 * t) 16 (by omega) i3
  refine ⟨h0, nm_e ⟨h1, nm_e ⟨h2, nm_e ⟨h0, nm_e ⟨h1, nm_e ⟨h2, nm_e ⟨h3, nm_e ?_⟩⟩⟩⟩⟩⟩⟩
  rw [c0, c1, c2, c3]
  exact hp
theorem wg_mxX {post : SX → Prop} {c w r s p : Nat → Int32} {x y : Int32} (a t : Nat) (h : a + 3 * t < 16) (ex : x = nI a) (ey : y = nI t) (hp : post (c, w, r, s, wg_mx a t p)) : wpX_mixLine post (c, w, r, s, p) x y := by
  subst ex ey
  have i1 : nI a + nI t = nI (a + t) := nI_add a t
  have i2 : nI a + 2 * nI t = nI (a + 2 * t) := by show nI a + nI 2 * nI t = _; rw [pk_mul, nI_add]
  have i3 : nI a + 3 * nI t = nI (a + 3 * t) := by show nI a + nI 3 * nI t = _; rw [pk_mul, nI_add]
  have c0 : (nI a).toNatClampNeg = a := nI_clamp (by omega)
  have c1 : (nI a + nI t).toNatClampNeg = a + t := pk_cl _ i1
  have c2 : (nI a + 2 * nI t).toNatClampNeg = a + 2 * t := pk_cl _ i2
  have c3 : (nI a + 3 * nI t).toNatClampNeg = a + 3 * t := pk_cl _ i3
  have h0 : vp_in (nI a) 16 := vp_in_nI (by omega) (by decide)
  have h1 : vp_in (nI a + nI t) 16 := pk_in (a + t) 16 (by omega) i1
  have h2 : vp_in (nI a + 2 * nI t) 16 := pk_in (a + 2 * t) 16 (by omega) i2
  have h3 : vp_in (nI a + 3 * nI t) 16 := pk_in (a + 3 * t) 16 (by omega) i3
  refine ⟨h0, nm_e ⟨h1, nm_e ⟨h2, nm_e ⟨h3, nm_e ⟨h0, nm_e ⟨h1, nm_e ⟨h2, nm_e ⟨h3, nm_e ?_⟩⟩⟩⟩⟩⟩⟩⟩
  rw [c0, c1, c2, c3]
  exact hp
theorem wg_gaX {post : SX → Prop} {c w r s p : Nat → Int32} {x y : Int32} (a t : Nat) (h : a + 3 * t < 16) (ex : x = nI a) (ey : y = nI t) (hp : post (c, w, r, s, wg_ga a t p)) : wpX_gatherLine post (c, w, r, s, p) x y := by
  subst ex ey
  have i1 : nI a + nI t = nI (a + t) := nI_add a t
  have i2 : nI a + 2 * nI t = nI (a + 2 * t) := by show nI a + nI 2 * nI t = _; rw [pk_mul, nI_add]
  have i3 : nI a + 3 * nI t = nI (a + 3 * t) := by show nI a + nI 3 * nI t = _; rw [pk_mul, nI_add]
  have c0 : (nI a).toNatClampNeg = a := nI_clamp (by omega)
  have c1 : (nI a + nI t).toNatClampNeg = a + t := pk_cl _ i1
  have c2 : (nI a + 2 * nI t).toNatClampNeg = a + 2 * t := pk_cl _ i2
  have c3 : (nI a + 3 * nI t).toNatClampNeg = a + 3 * t := pk_cl _ i3
  have h0 : vp_in (nI a) 16 := vp_in_nI (by omega) (by decide)
  have h1 : vp_in (nI a + nI t) 16 := pk_in (a + t) 16 (by omega) i1
  have h2 : vp_in (nI a + 2 * nI t) 16 := pk_in (a + 2 * t) 16 (by omega) i2
  have h3 : vp_in (nI a + 3 * nI t) 16 := pk_in (a + 3 * t) 16 (by omega) i3
  refine ⟨h0, nm_e ⟨h1, nm_e ⟨h2, nm_e ⟨h3, nm_e ⟨h0, nm_e ⟨h1, nm_e ?_⟩⟩⟩⟩⟩⟩
  rw [c0, c1, c2, c3]
  exact hp
/-! X's spreadFilter -/
theorem wg_sf60 {post : SX → Prop} (c w r s p : Nat → Int32) (hp : post (c, w, r, (wg_it (fun k => wg_sl (4 * k) 1) s 4), p)) : ∀ d k, k + d = 4 → wX_spreadFilter_60 post (d + 1) (nI k) c w r (wg_it (fun k => wg_sl (4 * k) 1) s k) p := by
  intro d
  induction d with
  | zero =>
    intro k hk
    obtain rfl : k = 4 := by omega
    exact br_t (nI_le (b := 4) (Nat.le_refl 4) (by decide)) hp
  | succ d ih =>
    intro k hk
    exact br_f (nI_ge (b := 4) (by omega) (by decide)) (wg_slX (4 * k) 1 (by omega) (pk_mul 4 k) rfl (nm_r (nI_1 k) (ih (k + 1) (by omega))))
theorem wg_sf41 {post : SX → Prop} (c w r s p : Nat → Int32) (hp : ∃ n, wX_spreadFilter_60 post n 0 c w r (wg_it (fun k => wg_sl k 4) s 3) p) : ∀ d k, k + d = 3 → wX_spreadFilter_41 post (d + 1) (nI k) c w r (wg_it (fun k => wg_sl k 4) s k) p := by
  intro d
  induction d with
  | zero =>
    intro k hk
    obtain rfl : k = 3 := by omega
    exact br_t (nI_le (b := 3) (Nat.le_refl 3) (by decide)) hp
  | succ d ih =>
    intro k hk
    exact br_f (nI_ge (b := 3) (by omega) (by decide)) (wg_slX k 4 (by omega) rfl rfl (nm_r (nI_1 k) (ih (k + 1) (by omega))))
theorem wg_sf2 {post : SX → Prop} {f : Nat} (hf : f < 2) (c w r s p : Nat → Int32) (hp : ∃ n, wX_spreadFilter_41 post n 0 c w r (wg_it (fun k s => upd s (4 * (k / 3) + k % 3) (w (9 * f + k))) s 9) p) : ∀ d k, k + d = 9 → wX_spreadFilter_2 post (nI f) (d + 1) (nI k) c w r (wg_it (fun k s => upd s (4 * (k / 3) + k % 3) (w (9 * f + k))) s k) p := by
  intro d
  induction d with
  | zero =>
    intro k hk
    obtain rfl : k = 9 := by omega
    exact br_t (nI_le (b := 9) (Nat.le_refl 9) (by decide)) hp
  | succ d ih =>
    intro k hk
    have hi : 9 * nI f + nI k = nI (9 * f + k) := wg_lin 9 f k
    have hj : 4 * (nI k / 3) + (nI k - nI k / 3 * 3) = nI (4 * (k / 3) + k % 3) := by rw [wg_rem3 (by omega), wg_div3 (by omega)]; exact wg_lin 4 _ _
    refine br_f (nI_ge (b := 9) (by omega) (by decide)) ⟨wg_3, wg_3, pk_in (9 * f + k) 18 (by omega) hi, pk_in (4 * (k / 3) + k % 3) 16 (by omega) hj, nm_r ?_ (nm_r (nI_1 k) (ih (k + 1) (by omega)))⟩
    rw [pk_cl (9 * f + k) hi, pk_cl (4 * (k / 3) + k % 3) hj]
    rfl
theorem wg_sfX {post : SX → Prop} {c w r s p : Nat → Int32} {f : Nat} (hf : f < 2) (hp : post (c, w, r, wg_S3 (wg_S2 (wg_S1 w f s)), p)) : wpX_spreadFilter post (c, w, r, s, p) (nI f) :=
  ⟨10, wg_sf2 hf c w r s p ⟨4, wg_sf41 c w r (wg_S1 w f s) p ⟨5, wg_sf60 c w r (wg_S2 (wg_S1 w f s)) p hp 4 0 rfl⟩ 3 0 rfl⟩ 9 0 rfl⟩
/-! X's block -/
theorem wg_ldX_l {post : SX → Prop} {x y : Nat} (hx : x < 10) (hy : y < 10) (c w r s p : Nat → Int32) (hp : post (c, w, r, s, wg_LD c x y p)) : ∀ d k, k + d = 16 → wX_loadPatch_2 post (nI x - 1) (nI y - 1) (d + 1) (nI k) c w r s (wg_it (fun k p => upd p k (wg_pic c (x + k % 4) (y + k / 4))) p k) := by
  intro d
  induction d with
  | zero =>
    intro k hk
    obtain rfl : k = 16 := by omega
    exact br_t (nI_le (b := 16) (Nat.le_refl 16) (by decide)) hp
  | succ d ih =>
    intro k hk
    refine br_f (nI_ge (b := 16) (by omega) (by decide)) ⟨wg_4, wg_4, wg_imX (x + k % 4) (y + k / 4) (by omega) (by omega) (wg_lh x (by omega)) (wg_lv y (by omega)) ⟨vp_in_nI (by omega) (by decide), nm_r ?_ (nm_r (nI_1 k) (ih (k + 1) (by omega)))⟩⟩
    rw [nI_clamp (by omega)]
    rfl
theorem wg_ldX {post : SX → Prop} {c w r s p : Nat → Int32} {x y : Nat} (hx : x < 10) (hy : y < 10) (hp : post (c, w, r, s, wg_LD c x y p)) : wpX_loadPatch post (c, w, r, s, p) (nI x - 1) (nI y - 1) := ⟨17, wg_ldX_l hx hy c w r s p hp 16 0 rfl⟩
def wg_b4 (q : Nat) (r : Nat → Int32) (v0 v1 v2 v3 : Int32) : Nat → Int32 := upd (upd (upd (upd r q v0) (q + 1) v1) (q + 10) v2) (q + 11) v3
theorem wg_b111 {post : SX → Prop} {q : Nat} (hq : q < 89) (c w r s p : Nat → Int32) (hp : post (c, w, wg_b4 q r (wg_G2 p 0 / 4) (wg_G2 p 1 / 4) (wg_G2 p 4 / 4) (wg_G2 p 5 / 4), s, wg_G2 p)) : ∀ d k, k + d = 2 → wX_workOutBlock_111 post (nI q) (d + 1) (nI k) c w r s (wg_it (fun k => wg_ga (4 * k) 1) p k) := by
  intro d
  induction d with
  | zero =>
    intro k hk
    obtain rfl : k = 2 := by omega
    have i1 : nI q + 1 = nI (q + 1) := nI_1 q
    have i2 : nI q + 10 = nI (q + 10) := nI_add q 10
    have i3 : (nI q + 10) + 1 = nI (q + 11) := by rw [i2]; exact nI_1 (q + 10)
    refine br_t (nI_le (b := 2) (Nat.le_refl 2) (by decide)) ⟨wg_4, vp_in_nI (by omega) (by decide), nm_e ⟨wg_4, pk_in (q + 1) 100 (by omega) i1, nm_e ⟨wg_4, pk_in (q + 10) 100 (by omega) i2, nm_e ⟨wg_4, pk_in (q + 11) 100 (by omega) i3, nm_e ?_⟩⟩⟩⟩
    rw [pk_cl (q + 11) i3, pk_cl (q + 10) i2, pk_cl (q + 1) i1, nI_clamp (by omega)]
    exact hp
  | succ d ih =>
    intro k hk
    exact br_f (nI_ge (b := 2) (by omega) (by decide)) (wg_gaX (4 * k) 1 (by omega) (pk_mul 4 k) rfl (nm_r (nI_1 k) (ih (k + 1) (by omega))))
theorem wg_b92 {post : SX → Prop} {x2 : Int32} (c w r s p : Nat → Int32) (hp : ∃ n, wX_workOutBlock_111 post x2 n 0 c w r s (wg_it (fun k => wg_ga k 4) p 4)) : ∀ d k, k + d = 4 → wX_workOutBlock_92 post x2 (d + 1) (nI k) c w r s (wg_it (fun k => wg_ga k 4) p k) := by
  intro d
  induction d with
  | zero =>
    intro k hk
    obtain rfl : k = 4 := by omega
    exact br_t (nI_le (b := 4) (Nat.le_refl 4) (by decide)) hp
  | succ d ih =>
    intro k hk
    exact br_f (nI_ge (b := 4) (by omega) (by decide)) (wg_gaX k 4 (by omega) rfl rfl (nm_r (nI_1 k) (ih (k + 1) (by omega))))
theorem wg_b63 {post : SX → Prop} {x2 : Int32} (c w r s p : Nat → Int32) (hp : ∃ n, wX_workOutBlock_92 post x2 n 0 c w r s (wg_ML s p)) : ∀ d k, k + d = 16 → wX_workOutBlock_63 post x2 (d + 1) (nI k) c w r s (wg_it (fun k p => upd p k (p k * s k)) p k) := by
  intro d
  induction d with
  | zero =>
    intro k hk
    obtain rfl : k = 16 := by omega
    exact br_t (nI_le (b := 16) (Nat.le_refl 16) (by decide)) hp
  | succ d ih =>
    intro k hk
    have hv : vp_in (nI k) 16 := vp_in_nI (by omega) (by decide)
    refine br_f (nI_ge (b := 16) (by omega) (by decide)) ⟨hv, hv, hv, nm_r ?_ (nm_r (nI_1 k) (ih (k + 1) (by omega)))⟩
    rw [nI_clamp (by omega)]
    rfl
theorem wg_b42 {post : SX → Prop} {x2 : Int32} (c w r s p : Nat → Int32) (hp : ∃ n, wX_workOutBlock_63 post x2 n 0 c w r s (wg_it (fun k => wg_mx (4 * k) 1) p 4)) : ∀ d k, k + d = 4 → wX_workOutBlock_42 post x2 (d + 1) (nI k) c w r s (wg_it (fun k => wg_mx (4 * k) 1) p k) := by
  intro d
  induction d with
  | zero =>
    intro k hk
    obtain rfl : k = 4 := by omega
    exact br_t (nI_le (b := 4) (Nat.le_refl 4) (by decide)) hp
  | succ d ih =>
    intro k hk
    exact br_f (nI_ge (b := 4) (by omega) (by decide)) (wg_mxX (4 * k) 1 (by omega) (pk_mul 4 k) rfl (nm_r (nI_1 k) (ih (k + 1) (by omega))))
theorem wg_b23 {post : SX → Prop} {x2 : Int32} (c w r s p : Nat → Int32) (hp : ∃ n, wX_workOutBlock_42 post x2 n 0 c w r s (wg_it (fun k => wg_mx k 4) p 4)) : ∀ d k, k + d = 4 → wX_workOutBlock_23 post x2 (d + 1) (nI k) c w r s (wg_it (fun k => wg_mx k 4) p k) := by
  intro d
  induction d with
  | zero =>
    intro k hk
    obtain rfl : k = 4 := by omega
    exact br_t (nI_le (b := 4) (Nat.le_refl 4) (by decide)) hp
  | succ d ih =>
    intro k hk
    exact br_f (nI_ge (b := 4) (by omega) (by decide)) (wg_mxX k 4 (by omega) rfl rfl (nm_r (nI_1 k) (ih (k + 1) (by omega))))
theorem wg_bX {post : SX → Prop} {q : Nat} (hq : q < 89) {c w r s p : Nat → Int32} (hp : ∀ p', post (c, w, wg_b4 q r (wg_G2 (wg_G1 (wg_ML s (wg_M2 (wg_M1 p)))) 0 / 4) (wg_G2 (wg_G1 (wg_ML s (wg_M2 (wg_M1 p)))) 1 / 4) (wg_G2 (wg_G1 (wg_ML s (wg_M2 (wg_M1 p)))) 4 / 4) (wg_G2 (wg_G1 (wg_ML s (wg_M2 (wg_M1 p)))) 5 / 4), s, p')) : ∃ n, wX_workOutBlock_23 post (nI q) n 0 c w r s p :=
  ⟨5, wg_b23 c w r s p ⟨5, wg_b42 c w r s (wg_M1 p) ⟨17, wg_b63 c w r s (wg_M2 (wg_M1 p)) ⟨5, wg_b92 c w r s (wg_ML s (wg_M2 (wg_M1 p))) ⟨3, wg_b111 hq c w r s (wg_G1 (wg_ML s (wg_M2 (wg_M1 p)))) (hp _) 2 0 rfl⟩ 4 0 rfl⟩ 16 0 rfl⟩ 4 0 rfl⟩ 4 0 rfl⟩
theorem wg_val0 {c w s : Nat → Int32} {f : Nat} (hc : wg_B 99 c) (hw : wg_B 9 w) (hs : wg_SV s (fun k => w (9 * f + k))) (x y : Nat) (p : Nat → Int32) : wg_G2 (wg_G1 (wg_ML s (wg_M2 (wg_M1 (wg_LD c x y p))))) 0 / 4 = wg_ps c w f x y 9 := by
  have e : wg_G2 (wg_G1 (wg_ML s (wg_M2 (wg_M1 (wg_LD c x y p))))) 0 = 4 * wg_ps c w f x y 9 := by
    rw [wg_win0 _ hs]
    apply congrArg (fun z => 4 * z)
    rw [wg_LDv c x y p 0 (by decide), wg_LDv c x y p 1 (by decide), wg_LDv c x y p 2 (by decide), wg_LDv c x y p 4 (by decide), wg_LDv c x y p 5 (by decide), wg_LDv c x y p 6 (by decide), wg_LDv c x y p 8 (by decide), wg_LDv c x y p 9 (by decide), wg_LDv c x y p 10 (by decide)]
    rfl
  rw [e]
  exact wg_q4 (wg_psB hc hw f _ _ 9 (Nat.le_refl 9))
theorem wg_val1 {c w s : Nat → Int32} {f : Nat} (hc : wg_B 99 c) (hw : wg_B 9 w) (hs : wg_SV s (fun k => w (9 * f + k))) (x y : Nat) (p : Nat → Int32) : wg_G2 (wg_G1 (wg_ML s (wg_M2 (wg_M1 (wg_LD c x y p))))) 1 / 4 = wg_ps c w f (x + 1) y 9 := by
  have e : wg_G2 (wg_G1 (wg_ML s (wg_M2 (wg_M1 (wg_LD c x y p))))) 1 = 4 * wg_ps c w f (x + 1) y 9 := by
    rw [wg_win1 _ hs]
    apply congrArg (fun z => 4 * z)
    rw [wg_LDv c x y p 1 (by decide), wg_LDv c x y p 2 (by decide), wg_LDv c x y p 3 (by decide), wg_LDv c x y p 5 (by decide), wg_LDv c x y p 6 (by decide), wg_LDv c x y p 7 (by decide), wg_LDv c x y p 9 (by decide), wg_LDv c x y p 10 (by decide), wg_LDv c x y p 11 (by decide)]
    rfl
  rw [e]
  exact wg_q4 (wg_psB hc hw f _ _ 9 (Nat.le_refl 9))
theorem wg_val4 {c w s : Nat → Int32} {f : Nat} (hc : wg_B 99 c) (hw : wg_B 9 w) (hs : wg_SV s (fun k => w (9 * f + k))) (x y : Nat) (p : Nat → Int32) : wg_G2 (wg_G1 (wg_ML s (wg_M2 (wg_M1 (wg_LD c x y p))))) 4 / 4 = wg_ps c w f x (y + 1) 9 := by
  have e : wg_G2 (wg_G1 (wg_ML s (wg_M2 (wg_M1 (wg_LD c x y p))))) 4 = 4 * wg_ps c w f x (y + 1) 9 := by
    rw [wg_win4 _ hs]
    apply congrArg (fun z => 4 * z)
    rw [wg_LDv c x y p 4 (by decide), wg_LDv c x y p 5 (by decide), wg_LDv c x y p 6 (by decide), wg_LDv c x y p 8 (by decide), wg_LDv c x y p 9 (by decide), wg_LDv c x y p 10 (by decide), wg_LDv c x y p 12 (by decide), wg_LDv c x y p 13 (by decide), wg_LDv c x y p 14 (by decide)]
    rfl
  rw [e]
  exact wg_q4 (wg_psB hc hw f _ _ 9 (Nat.le_refl 9))
theorem wg_val5 {c w s : Nat → Int32} {f : Nat} (hc : wg_B 99 c) (hw : wg_B 9 w) (hs : wg_SV s (fun k => w (9 * f + k))) (x y : Nat) (p : Nat → Int32) : wg_G2 (wg_G1 (wg_ML s (wg_M2 (wg_M1 (wg_LD c x y p))))) 5 / 4 = wg_ps c w f (x + 1) (y + 1) 9 := by
  have e : wg_G2 (wg_G1 (wg_ML s (wg_M2 (wg_M1 (wg_LD c x y p))))) 5 = 4 * wg_ps c w f (x + 1) (y + 1) 9 := by
    rw [wg_win5 _ hs]
    apply congrArg (fun z => 4 * z)
    rw [wg_LDv c x y p 5 (by decide), wg_LDv c x y p 6 (by decide), wg_LDv c x y p 7 (by decide), wg_LDv c x y p 9 (by decide), wg_LDv c x y p 10 (by decide), wg_LDv c x y p 11 (by decide), wg_LDv c x y p 13 (by decide), wg_LDv c x y p 14 (by decide), wg_LDv c x y p 15 (by decide)]
    rfl
  rw [e]
  exact wg_q4 (wg_psB hc hw f _ _ 9 (Nat.le_refl 9))
def wg_q (b : Nat) : Nat := 20 * (b / 5) + 2 * (b % 5)
theorem wg_corner {post : Int32 → Prop} {b : Nat} (hb : b < 25) (hp : post (nI (wg_q b))) : wpX_cornerOf post (nI b) := by
  refine ⟨wg_5, wg_5, ?_⟩
  have e : 20 * (nI b / 5) + 2 * (nI b - nI b / 5 * 5) = nI (wg_q b) := by
    rw [wg_rem5 (by omega), wg_div5 (by omega)]
    show nI 20 * nI (b / 5) + nI 2 * nI (b % 5) = _
    rw [pk_mul, pk_mul, nI_add]
    rfl
  rw [e]
  exact hp
theorem wg_blkX {post : SX → Prop} {c w r s p : Nat → Int32} {f b : Nat} (hb : b < 25) (hc : wg_B 99 c) (hw : wg_B 9 w) (hs : wg_SV s (fun k => w (9 * f + k))) (hp : ∀ p', post (c, w, wg_b4 (wg_q b) r (wg_R c w f (wg_q b)) (wg_R c w f (wg_q b + 1)) (wg_R c w f (wg_q b + 10)) (wg_R c w f (wg_q b + 11)), s, p')) : wpX_workOutBlock post (c, w, r, s, p) (nI b) := by
  have hq : wg_q b < 89 ∧ wg_q b % 10 ≤ 8 := by unfold wg_q; omega
  unfold wpX_workOutBlock
  dsimp only
  refine wg_corner hb ⟨wg_ten, wg_ten, ?_⟩
  rw [wg_rem10 (by omega), wg_div10 (by omega)]
  refine wg_ldX (by omega) (by omega) ?_
  refine wg_bX hq.1 ?_
  rw [wg_val0 hc hw hs, wg_val1 hc hw hs, wg_val4 hc hw hs, wg_val5 hc hw hs]
  have a1 : (wg_q b + 1) % 10 = wg_q b % 10 + 1 := by omega
  have a2 : (wg_q b + 1) / 10 = wg_q b / 10 := by omega
  have a3 : (wg_q b + 10) % 10 = wg_q b % 10 := by omega
  have a4 : (wg_q b + 10) / 10 = wg_q b / 10 + 1 := by omega
  have a5 : (wg_q b + 11) % 10 = wg_q b % 10 + 1 := by omega
  have a6 : (wg_q b + 11) / 10 = wg_q b / 10 + 1 := by omega
  unfold wg_R at hp
  rw [a1, a2, a3, a4, a5, a6] at hp
  exact hp
/-! X's responses, all of them -/
theorem wg_wrX_l {post : SX → Prop} {f : Nat} (c w s : Nat → Int32) (hc : wg_B 99 c) (hw : wg_B 9 w) (hs : wg_SV s (fun k => w (9 * f + k))) (hp : ∀ r p, (∀ j, j < 100 → r j = wg_R c w f j) → post (c, w, r, s, p)) : ∀ d k r p, k + d = 25 → (∀ j, j < 100 → 5 * (j / 20) + j % 10 / 2 < k → r j = wg_R c w f j) → wX_workOutResponses_7 post (d + 1) (nI k) c w r s p := by
  intro d
  induction d with
  | zero =>
    intro k r p hk hr
    obtain rfl : k = 25 := by omega
    exact br_t (nI_le (b := 25) (Nat.le_refl 25) (by decide)) (hp r p (fun j hj => hr j hj (by omega)))
  | succ d ih =>
    intro k r p hk hr
    refine br_f (nI_ge (b := 25) (by omega) (by decide)) (wg_blkX (f := f) (by omega) hc hw hs (fun p' => nm_r (nI_1 k) (ih (k + 1) _ p' (by omega) ?_)))
    intro j hj hb
    unfold wg_b4
    by_cases e3 : j = wg_q k + 11
    · rw [e3, pk_us]
    · rw [pk_un e3]
      by_cases e2 : j = wg_q k + 10
      · rw [e2, pk_us]
      · rw [pk_un e2]
        by_cases e1 : j = wg_q k + 1
        · rw [e1, pk_us]
        · rw [pk_un e1]
          by_cases e0 : j = wg_q k
          · rw [e0, pk_us]
          · rw [pk_un e0]
            refine hr j hj ?_
            unfold wg_q at e0 e1 e2 e3
            omega
theorem wg_wrX {post : SX → Prop} {c w r s p : Nat → Int32} {f : Nat} (hf : f < 2) (hc : wg_B 99 c) (hw : wg_B 9 w) (hp : ∀ r s p, (∀ j, j < 100 → r j = wg_R c w f j) → post (c, w, r, s, p)) : wpX_workOutResponses post (c, w, r, s, p) (nI f) := by
  unfold wpX_workOutResponses
  dsimp only
  refine wg_sfX hf ⟨26, ?_⟩
  exact wg_wrX_l c w _ hc hw (wg_SVx w f s) (fun r p h => hp r _ p h) 25 0 r p rfl (fun j _ h => absurd h (Nat.not_lt_zero _))
