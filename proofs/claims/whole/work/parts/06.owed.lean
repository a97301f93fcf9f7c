/-! the owed statements: both images and both filters are the same functions, the cells within -99 .. 99, the weights within -9 .. 9; the working arrays are free -/
def i_Rel (_ : Nat) (u : SX) (v : SY) : Prop := ∃ c w r s p g : Nat → Int32, u = (c, w, r, s, p) ∧ v = (c, g, w) ∧ wg_B 99 c ∧ wg_B 9 w
theorem wg_mk {k : Nat} {c w r s p g : Nat → Int32} (hc : wg_B 99 c) (hw : wg_B 9 w) : i_Rel k (c, w, r, s, p) (c, g, w) := ⟨c, w, r, s, p, g, rfl, rfl, hc, hw⟩
theorem i_up {k : Nat} {u : SX} {v : SY} (h : i_Rel k u v) : i_Rel (k + 5) u v := h
theorem i_vc0 : wpX_init (fun u => wpY_init (fun v => i_Rel 0 u v)) := wg_mk (k := 0) (wg_B0 99 (by decide)) (wg_B0 9 (by decide))
theorem i_vc_set {k : Nat} {u : SX} {v : SY} (I : i_Rel k u v) (hk : k + 5 ≤ 2560) (v1 : Int32) (v2 : Int32) : wpX_set (fun r u' => wpY_set (fun r' v' => r' = r ∧ i_Rel (k + 5) u' v') v v1 v2) u v1 v2 := by
  obtain ⟨c, w, r, s, p, g, rfl, rfl, hc, hw⟩ := I
  unfold wpX_set wpY_set
  dsimp only
  rcases wg_ix v1 (n := 100) (by decide) with h | ⟨j, hj, rfl⟩
  · exact wg_cellXn h (br_t rfl (wg_cellYn h (br_t rfl ⟨rfl, wg_mk hc hw⟩)))
  · have hv : vp_in (nI j) 100 := vp_in_nI hj (by decide)
    by_cases h : -99 ≤ v2.toInt ∧ v2.toInt ≤ 99
    · exact wg_cellX hj (br_f wg_10 (wg_valX h (br_f wg_10 ⟨hv, nm_e (wg_cellY hj (br_f wg_10 (wg_valY h (br_f wg_10 ⟨hv, nm_e ⟨rfl, wg_mk (wg_Bu hc h) hw⟩⟩))))⟩)))
    · exact wg_cellX hj (br_f wg_10 (wg_valXn h (br_t rfl (wg_cellY hj (br_f wg_10 (wg_valYn h (br_t rfl ⟨rfl, wg_mk hc hw⟩)))))))
theorem wg_stripeX {post : Int32 → SX → Prop} {c w r s p : Nat → Int32} {l a b : Nat} {v : Int32} (hl : l < 20) (ha : a < 10) (hb : b < 10) (hv : -99 ≤ v.toInt ∧ v.toInt ≤ 99) (I : Nat → Nat) (hI : I = if l < 10 then (fun k => 10 * l + k) else (fun k => (l - 10) + 10 * k)) (hp : post (nI (b + 1 - a)) (wg_st I v c a (b + 1 - a), w, r, s, p)) : wpX_stripe post (c, w, r, s, p) (nI l) (nI a) (nI b) v := by
  unfold wpX_stripe
  dsimp only
  refine br_f (nI_pos (by omega)) (br_f (nI_ge (b := 20) hl (by decide)) (wg_placeX ha (br_f wg_10 (wg_placeX hb (br_f wg_10 (wg_valX hv (br_f wg_10 ?_)))))))
  by_cases h : l < 10
  · rw [if_pos h] at hI
    subst hI
    refine br_f (nI_ge (b := 10) h (by decide)) (br_f wg_10 (br_f wg_10 ⟨_, wg_stX (fun k => 10 * l + k) c w r s p ha hb rfl (fun k hk => ⟨?_, by omega⟩) hp (b + 1 - a) 0 (by omega)⟩))
    show nI 10 * nI l + nI 1 * nI k = nI (10 * l + k)
    rw [pk_mul, pk_mul, nI_add, Nat.one_mul]
  · rw [if_neg h] at hI
    subst hI
    refine br_t (nI_le (a := 10) (by omega) (by omega)) (br_t rfl (br_t rfl ⟨_, wg_stX (fun k => (l - 10) + 10 * k) c w r s p ha hb rfl (fun k hk => ⟨?_, by omega⟩) hp (b + 1 - a) 0 (by omega)⟩))
    show (nI l - nI 10) + nI 10 * nI k = nI ((l - 10) + 10 * k)
    rw [pk_mul, pk_sub (by omega), nI_add]
theorem wg_stripeY {post : Int32 → SY → Prop} {m g w : Nat → Int32} {l a b : Nat} {v : Int32} (hl : l < 20) (ha : a < 10) (hb : b < 10) (hv : -99 ≤ v.toInt ∧ v.toInt ≤ 99) (I : Nat → Nat) (hI : I = if l < 10 then (fun k => 10 * l + k) else (fun k => (l - 10) + 10 * k)) (hp : post (nI (b + 1 - a)) (wg_st I v m a (b + 1 - a), g, w)) : wpY_stripe post (m, g, w) (nI l) (nI a) (nI b) v := by
  unfold wpY_stripe
  dsimp only
  refine br_f (nI_pos (by omega)) (br_f (nI_nlt (a := 19) (by omega) (by decide)) (wg_placeY ha (br_f wg_10 (wg_placeY hb (br_f wg_10 (wg_valY hv (br_f wg_10 ?_)))))))
  by_cases h : l < 10
  · rw [if_pos h] at hI
    subst hI
    exact ⟨_, wg_stY (fun k => 10 * l + k) m g w ha hb rfl (Or.inr ⟨nI_ge (b := 10) h (by decide), fun k hk => ⟨wg_lin 10 l k, by omega⟩⟩) hp (b + 1 - a) 0 (by omega)⟩
  · rw [if_neg h] at hI
    subst hI
    refine ⟨_, wg_stY (fun k => (l - 10) + 10 * k) m g w ha hb rfl (Or.inl ⟨nI_le (a := 10) (by omega) (by omega), fun k hk => ⟨?_, by omega⟩⟩) hp (b + 1 - a) 0 (by omega)⟩
    show (nI 10 * nI k + nI l) - nI 10 = nI ((l - 10) + 10 * k)
    rw [pk_mul, nI_add, pk_sub (by omega)]
    exact congrArg nI (by omega)
theorem i_vc_stripe {k : Nat} {u : SX} {v : SY} (I : i_Rel k u v) (hk : k + 5 ≤ 2560) (v1 : Int32) (v2 : Int32) (v3 : Int32) (v4 : Int32) : wpX_stripe (fun r u' => wpY_stripe (fun r' v' => r' = r ∧ i_Rel (k + 5) u' v') v v1 v2 v3 v4) u v1 v2 v3 v4 := by
  obtain ⟨c, w, r, s, p, g, rfl, rfl, hc, hw⟩ := I
  rcases wg_ix v1 (n := 20) (by decide) with h | ⟨l, hl, rfl⟩
  · unfold wpX_stripe wpY_stripe
    dsimp only
    by_cases h0 : v1 < 0
    · exact br_t h0 (br_t h0 ⟨rfl, wg_mk hc hw⟩)
    · have h1 := h.resolve_left h0
      exact br_f h0 (br_t h1 (br_f h0 (br_t (wg_ltp (n := 19) h1 (by decide)) ⟨rfl, wg_mk hc hw⟩)))
  · have a0 : ¬ nI l < 0 := nI_pos (by omega)
    have a1 : ¬ (20 : Int32) ≤ nI l := nI_ge (b := 20) hl (by decide)
    have a2 : ¬ (19 : Int32) < nI l := nI_nlt (a := 19) (by omega) (by decide)
    rcases wg_ix v2 (n := 10) (by decide) with h | ⟨a, ha, rfl⟩
    · unfold wpX_stripe wpY_stripe
      dsimp only
      exact br_f a0 (br_f a1 (wg_placeXn h (br_t rfl (br_f a0 (br_f a2 (wg_placeYn h (br_t rfl ⟨rfl, wg_mk hc hw⟩)))))))
    · rcases wg_ix v3 (n := 10) (by decide) with h | ⟨b, hb, rfl⟩
      · unfold wpX_stripe wpY_stripe
        dsimp only
        exact br_f a0 (br_f a1 (wg_placeX ha (br_f wg_10 (wg_placeXn h (br_t rfl (br_f a0 (br_f a2 (wg_placeY ha (br_f wg_10 (wg_placeYn h (br_t rfl ⟨rfl, wg_mk hc hw⟩)))))))))))
      · by_cases h : -99 ≤ v4.toInt ∧ v4.toInt ≤ 99
        · exact wg_stripeX hl ha hb h _ rfl (wg_stripeY hl ha hb h _ rfl ⟨rfl, wg_mk (wg_stB _ hc h a _) hw⟩)
        · unfold wpX_stripe wpY_stripe
          dsimp only
          exact br_f a0 (br_f a1 (wg_placeX ha (br_f wg_10 (wg_placeX hb (br_f wg_10 (wg_valXn h (br_t rfl (br_f a0 (br_f a2 (wg_placeY ha (br_f wg_10 (wg_placeY hb (br_f wg_10 (wg_valYn h (br_t rfl ⟨rfl, wg_mk hc hw⟩)))))))))))))))
theorem i_vc_weight {k : Nat} {u : SX} {v : SY} (I : i_Rel k u v) (hk : k + 5 ≤ 2560) (v1 : Int32) (v2 : Int32) (v3 : Int32) : wpX_weight (fun r u' => wpY_weight (fun r' v' => r' = r ∧ i_Rel (k + 5) u' v') v v1 v2 v3) u v1 v2 v3 := by
  obtain ⟨c, w, r, s, p, g, rfl, rfl, hc, hw⟩ := I
  unfold wpX_weight wpY_weight
  dsimp only
  rcases wg_ix v1 (n := 2) (by decide) with h | ⟨f, hf, rfl⟩
  · exact wg_filXn h (br_t rfl (wg_filYn h (br_t rfl ⟨rfl, wg_mk hc hw⟩)))
  · refine wg_filX hf (br_f wg_10 ?_)
    rcases wg_ix v2 (n := 9) (by decide) with h | ⟨n, hn, rfl⟩
    · by_cases h0 : v2 < 0
      · exact br_t h0 (wg_filY hf (br_f wg_10 (br_t h0 ⟨rfl, wg_mk hc hw⟩)))
      · have h1 := h.resolve_left h0
        exact br_f h0 (br_t h1 (wg_filY hf (br_f wg_10 (br_f h0 (br_t (wg_ltp (n := 8) h1 (by decide)) ⟨rfl, wg_mk hc hw⟩)))))
    · have a0 : ¬ nI n < 0 := nI_pos (by omega)
      have a1 : ¬ (9 : Int32) ≤ nI n := nI_ge (b := 9) hn (by decide)
      have a2 : ¬ (8 : Int32) < nI n := nI_nlt (a := 8) (by omega) (by decide)
      by_cases h1 : v3 < (-9)
      · exact br_f a0 (br_f a1 (br_t h1 (wg_filY hf (br_f wg_10 (br_f a0 (br_f a2 (br_t h1 ⟨rfl, wg_mk hc hw⟩)))))))
      · by_cases h2 : v3 ≤ 9
        · have hi : 9 * nI f + nI n = nI (9 * f + n) := wg_lin 9 f n
          have hv : vp_in (9 * nI f + nI n) 18 := pk_in (9 * f + n) 18 (by omega) hi
          have hb : -9 ≤ v3.toInt ∧ v3.toInt ≤ 9 := by
            rw [Int32.lt_iff_toInt_lt, wg_n9] at h1
            rw [Int32.le_iff_toInt_le, wg_p9] at h2
            omega
          exact br_f a0 (br_f a1 (br_f h1 (br_t h2 ⟨hv, nm_e (wg_filY hf (br_f wg_10 (br_f a0 (br_f a2 (br_f h1 (br_t h2 ⟨hv, nm_e ⟨rfl, wg_mk hc (wg_Bu hw hb)⟩⟩))))))⟩)))
        · exact br_f a0 (br_f a1 (br_f h1 (br_f h2 (wg_filY hf (br_f wg_10 (br_f a0 (br_f a2 (br_f h1 (br_f h2 ⟨rfl, wg_mk hc hw⟩)))))))))
theorem i_vc_response {k : Nat} {u : SX} {v : SY} (I : i_Rel k u v) (hk : k + 5 ≤ 2560) (v1 : Int32) (v2 : Int32) : wpX_response (fun r => wpY_response (fun r' => r' = r ∧ i_Rel (k + 5) u v) v v1 v2) u v1 v2 := by
  obtain ⟨c, w, r, s, p, g, rfl, rfl, hc, hw⟩ := I
  unfold wpX_response wpY_response
  dsimp only
  rcases wg_ix v1 (n := 2) (by decide) with h | ⟨f, hf, rfl⟩
  · exact wg_filXn h (br_t rfl (wg_filYn h (br_t rfl ⟨rfl, wg_mk hc hw⟩)))
  · refine wg_filX hf (br_f wg_10 ?_)
    rcases wg_ix v2 (n := 100) (by decide) with h | ⟨j, hj, rfl⟩
    · exact wg_cellXn h (br_t rfl (wg_filY hf (br_f wg_10 (wg_cellYn h (br_t rfl ⟨rfl, wg_mk hc hw⟩)))))
    · rw [wg_rem10 (by omega), wg_div10 (by omega)]
      exact wg_cellX hj (br_f wg_10 ⟨wg_ten, wg_ten, wg_raX hf (by omega) (by omega) (wg_filY hf (br_f wg_10 (wg_cellY hj (br_f wg_10 ⟨wg_ten, wg_ten, wg_atY0 hf (by omega) (by omega) ⟨rfl, wg_mk hc hw⟩⟩))))⟩)
theorem i_vc_second {k : Nat} {u : SX} {v : SY} (I : i_Rel k u v) (hk : k + 5 ≤ 2560) (v1 : Int32) : wpX_second (fun r => wpY_second (fun r' v' => r' = r ∧ i_Rel (k + 5) u v') v v1) u v1 := by
  obtain ⟨c, w, r, s, p, g, rfl, rfl, hc, hw⟩ := I
  unfold wpX_second wpY_second
  dsimp only
  rcases wg_ix v1 (n := 100) (by decide) with h | ⟨j, hj, rfl⟩
  · exact wg_cellXn h (br_t rfl (wg_cellYn h (br_t rfl ⟨rfl, wg_mk hc hw⟩)))
  · refine wg_cellX hj (br_f wg_10 ⟨10, wg_seX_l c w r s p hj ?_ 9 0 rfl⟩)
    refine wg_cellY hj (br_f wg_10 (wg_resY (f := 0) (by decide) (fun g' hg => ⟨wg_ten, wg_ten, ?_⟩)))
    rw [wg_rem10 (by omega), wg_div10 (by omega)]
    exact wg_atY1 (f := 1) (by decide) (by omega) (by omega) ⟨wg_psC hg w 1 _ _ 9, wg_mk hc hw⟩
theorem i_vc_greatest {k : Nat} {u : SX} {v : SY} (I : i_Rel k u v) (hk : k + 5 ≤ 2560) (v1 : Int32) : wpX_greatest (fun r u' => wpY_greatest (fun r' v' => r' = r ∧ i_Rel (k + 5) u' v') v v1) u v1 := by
  obtain ⟨c, w, r, s, p, g, rfl, rfl, hc, hw⟩ := I
  unfold wpX_greatest wpY_greatest
  dsimp only
  rcases wg_ix v1 (n := 2) (by decide) with h | ⟨f, hf, rfl⟩
  · exact wg_filXn h (br_t rfl (wg_filYn h (br_t rfl ⟨rfl, wg_mk hc hw⟩)))
  · have hl := wg_bsL (wg_R c w f) 99
    have hv : vp_in (nI (wg_bs (wg_R c w f) 99)) 100 := vp_in_nI (by omega) (by decide)
    have ck : (nI (wg_bs (wg_R c w f) 99)).toNatClampNeg = wg_bs (wg_R c w f) 99 := nI_clamp (by omega)
    refine wg_filX hf (br_f wg_10 (wg_wrX hf hc hw (fun r' s' p' hr => wg_fgX hr ⟨hv, ?_⟩)))
    refine wg_filY hf (br_f wg_10 (wg_resY hf (fun g' hg => wg_fgY hg ⟨hv, ?_, wg_mk hc hw⟩)))
    dsimp only
    rw [ck, hg _ (by omega), hr _ (by omega)]
theorem i_vc_where {k : Nat} {u : SX} {v : SY} (I : i_Rel k u v) (hk : k + 5 ≤ 2560) (v1 : Int32) : wpX_where (fun r u' => wpY_where (fun r' v' => r' = r ∧ i_Rel (k + 5) u' v') v v1) u v1 := by
  obtain ⟨c, w, r, s, p, g, rfl, rfl, hc, hw⟩ := I
  unfold wpX_where wpY_where
  dsimp only
  rcases wg_ix v1 (n := 2) (by decide) with h | ⟨f, hf, rfl⟩
  · exact wg_filXn h (br_t rfl (wg_filYn h (br_t rfl ⟨rfl, wg_mk hc hw⟩)))
  · refine wg_filX hf (br_f wg_10 (wg_wrX hf hc hw (fun r' s' p' hr => wg_fgX hr ?_)))
    exact wg_filY hf (br_f wg_10 (wg_resY hf (fun g' hg => wg_fgY hg ⟨rfl, wg_mk hc hw⟩)))
theorem i_vc_total {k : Nat} {u : SX} {v : SY} (I : i_Rel k u v) (hk : k + 5 ≤ 2560) (v1 : Int32) : wpX_total (fun r u' => wpY_total (fun r' v' => r' = r ∧ i_Rel (k + 5) u' v') v v1) u v1 := by
  obtain ⟨c, w, r, s, p, g, rfl, rfl, hc, hw⟩ := I
  unfold wpX_total wpY_total
  dsimp only
  rcases wg_ix v1 (n := 2) (by decide) with h | ⟨f, hf, rfl⟩
  · exact wg_filXn h (br_t rfl (wg_filYn h (br_t rfl ⟨rfl, wg_mk hc hw⟩)))
  · refine wg_filX hf (br_f wg_10 (wg_wrX hf hc hw (fun r' s' p' hr => ⟨101, wg_ttX (wg_R c w f) c w r' s' p' hr ?_ 100 0 rfl⟩)))
    exact wg_filY hf (br_f wg_10 (wg_resY hf (fun g' hg => ⟨101, wg_ttY (wg_R c w f) c g' w hg ⟨rfl, wg_mk hc hw⟩ 100 0 rfl⟩)))
theorem i_vc_apply {k : Nat} {u : SX} {v : SY} (I : i_Rel k u v) (hk : k + 5 ≤ 2560) (v1 : Int32) : wpX_apply (fun r u' => wpY_apply (fun r' v' => r' = r ∧ i_Rel (k + 5) u' v') v v1) u v1 := by
  obtain ⟨c, w, r, s, p, g, rfl, rfl, hc, hw⟩ := I
  unfold wpX_apply wpY_apply
  dsimp only
  rcases wg_ix v1 (n := 2) (by decide) with h | ⟨f, hf, rfl⟩
  · exact wg_filXn h (br_t rfl (wg_filYn h (br_t rfl ⟨rfl, wg_mk hc hw⟩)))
  · refine wg_filX hf (br_f wg_10 (wg_wrX hf hc hw (fun r' s' p' hr => ⟨101, wg_apX (wg_R c w f) c w r' s' p' hr ?_ 100 0 rfl⟩)))
    exact wg_filY hf (br_f wg_10 (wg_resY hf (fun g' hg => ⟨101, wg_apY (wg_R c w f) c g' w hg ⟨rfl, wg_mk (wg_apB _ hc 100) hw⟩ 100 0 rfl⟩)))
theorem i_vc_turn {k : Nat} {u : SX} {v : SY} (I : i_Rel k u v) (hk : k + 5 ≤ 2560) (v1 : Int32) : wpX_turn (fun r u' => wpY_turn (fun r' v' => r' = r ∧ i_Rel (k + 5) u' v') v v1) u v1 := by
  obtain ⟨c, w, r, s, p, g, rfl, rfl, hc, hw⟩ := I
  unfold wpX_turn wpY_turn
  dsimp only
  rcases wg_ix v1 (n := 2) (by decide) with h | ⟨f, hf, rfl⟩
  · exact wg_filXn h (br_t rfl (wg_filYn h (br_t rfl ⟨rfl, wg_mk hc hw⟩)))
  · have e2 : 9 * nI f = nI (9 * f) := pk_mul 9 f
    have e3 : (nI (9 * f) + 9) - 1 = nI (9 * f + 8) := by
      show (nI (9 * f) + nI 9) - nI 1 = _
      rw [nI_add, pk_sub (by omega)]
      exact congrArg nI (by omega)
    exact wg_filX hf (br_f wg_10 (nm_r e2 (nm_r e3 ⟨5, wg_tnX hf rfl rfl c w r s p (wg_filY hf (br_f wg_10 ⟨5, wg_tnY hf c g w ⟨rfl, wg_mk hc (wg_tnB f hw 4)⟩ 4 0 rfl⟩)) 4 0 rfl⟩)))
/-! pooled -/
def wg_mx2 (a b : Int32) : Int32 := if a ≤ b then b else a
def wg_my (a b : Int32) : Int32 := if b ≤ a then a else b
theorem wg_mxT (a b : Int32) : (wg_mx2 a b).toInt = max a.toInt b.toInt := by
  unfold wg_mx2
  by_cases h : a ≤ b
  · rw [if_pos h]; rw [Int32.le_iff_toInt_le] at h; omega
  · rw [if_neg h]; rw [Int32.le_iff_toInt_le] at h; omega
theorem wg_myT (a b : Int32) : (wg_my a b).toInt = max a.toInt b.toInt := by
  unfold wg_my
  by_cases h : b ≤ a
  · rw [if_pos h]; rw [Int32.le_iff_toInt_le] at h; omega
  · rw [if_neg h]; rw [Int32.le_iff_toInt_le] at h; omega
theorem wg_4max (a b c d : Int32) : wg_my (wg_my (wg_my a b) c) d = wg_mx2 (wg_mx2 a b) (wg_mx2 c d) := by
  apply Int32.toInt_inj.mp
  rw [wg_myT, wg_myT, wg_myT, wg_mxT, wg_mxT, wg_mxT]
  omega
theorem wg_grX {post : Int32 → Prop} {a b : Int32} (hp : post (wg_mx2 a b)) : wpX_greater post a b := by
  unfold wg_mx2 at hp
  by_cases h : a ≤ b
  · rw [if_pos h] at hp; exact br_t h hp
  · rw [if_neg h] at hp; exact br_f h hp
theorem wg_p95 {post : Int32 → SY → Prop} {m g w : Nat → Int32} {q : Nat} {y d : Int32} (hq : q < 89) (e : g (q + 11) = d) (hp : post (wg_my y d) (m, g, w)) : wY_pooled_95 post (nI q) y m g w := by
  have i : nI q + 11 = nI (q + 11) := nI_add q 11
  have v : vp_in (nI q + 11) 100 := pk_in (q + 11) 100 (by omega) i
  have c : (nI q + 11).toNatClampNeg = q + 11 := pk_cl _ i
  refine ⟨v, ?_⟩
  rw [c, e]
  unfold wg_my at hp
  by_cases h : d ≤ y
  · rw [if_pos h] at hp; exact br_t h hp
  · rw [if_neg h] at hp; exact br_f h ⟨v, hp⟩
theorem wg_p70 {post : Int32 → SY → Prop} {m g w : Nat → Int32} {q : Nat} {y c' d : Int32} (hq : q < 89) (e0 : g (q + 10) = c') (e : g (q + 11) = d) (hp : post (wg_my (wg_my y c') d) (m, g, w)) : wY_pooled_70 post (nI q) y m g w := by
  have i : nI q + 10 = nI (q + 10) := nI_add q 10
  have v : vp_in (nI q + 10) 100 := pk_in (q + 10) 100 (by omega) i
  have c : (nI q + 10).toNatClampNeg = q + 10 := pk_cl _ i
  refine ⟨v, ?_⟩
  rw [c, e0]
  by_cases h : c' ≤ y
  · have ey : wg_my y c' = y := if_pos h
    rw [ey] at hp; exact br_t h (wg_p95 hq e hp)
  · have ey : wg_my y c' = c' := if_neg h
    rw [ey] at hp; exact br_f h ⟨v, nm_e (wg_p95 hq e hp)⟩
theorem wg_b4v {q : Nat} {r : Nat → Int32} {v0 v1 v2 v3 : Int32} : wg_b4 q r v0 v1 v2 v3 q = v0 ∧ wg_b4 q r v0 v1 v2 v3 (q + 1) = v1 ∧ wg_b4 q r v0 v1 v2 v3 (q + 10) = v2 ∧ wg_b4 q r v0 v1 v2 v3 (q + 11) = v3 := by
  unfold wg_b4
  refine ⟨?_, ?_, ?_, ?_⟩
  · rw [pk_un (by omega), pk_un (by omega), pk_un (by omega), pk_us]
  · rw [pk_un (by omega), pk_un (by omega), pk_us]
  · rw [pk_un (by omega), pk_us]
  · rw [pk_us]
theorem wg_poolX {post : Int32 → SX → Prop} {c w r s p : Nat → Int32} {f b : Nat} (hf : f < 2) (hb : b < 25) (hc : wg_B 99 c) (hw : wg_B 9 w) (hp : ∀ r s p, post (wg_mx2 (wg_mx2 (wg_R c w f (wg_q b)) (wg_R c w f (wg_q b + 1))) (wg_mx2 (wg_R c w f (wg_q b + 10)) (wg_R c w f (wg_q b + 11)))) (c, w, r, s, p)) : wpX_pooled post (c, w, r, s, p) (nI f) (nI b) := by
  have hq : wg_q b < 89 := by unfold wg_q; omega
  unfold wpX_pooled
  dsimp only
  refine wg_filX hf (br_f wg_10 (br_f (nI_pos (by omega)) (br_t (nI_lt (b := 25) hb (by decide)) (wg_sfX hf ?_))))
  dsimp only
  refine wg_blkX (f := f) hb hc hw (wg_SVx w f s) (fun p' => ?_)
  dsimp only
  refine wg_corner hb ?_
  generalize wg_q b = q at hq hp ⊢
  have i1 : nI q + 1 = nI (q + 1) := nI_1 q
  have i2 : nI q + 10 = nI (q + 10) := nI_add q 10
  have i3 : (nI q + 10) + 1 = nI (q + 11) := by rw [i2]; exact nI_1 (q + 10)
  have hb4 := wg_b4v (q := q) (r := r) (v0 := wg_R c w f q) (v1 := wg_R c w f (q + 1)) (v2 := wg_R c w f (q + 10)) (v3 := wg_R c w f (q + 11))
  refine ⟨vp_in_nI (by omega) (by decide), pk_in (q + 1) 100 (by omega) i1, ?_⟩
  rw [nI_clamp (by omega), pk_cl (q + 1) i1, hb4.1, hb4.2.1]
  refine wg_grX ⟨pk_in (q + 10) 100 (by omega) i2, pk_in (q + 11) 100 (by omega) i3, ?_⟩
  rw [pk_cl (q + 11) i3, pk_cl (q + 10) i2, hb4.2.2.1, hb4.2.2.2]
  exact wg_grX (wg_grX (hp _ _ _))
theorem wg_poolY {post : Int32 → SY → Prop} {m g w : Nat → Int32} {f b : Nat} (hf : f < 2) (hb : b < 25) (hp : ∀ g, post (wg_my (wg_my (wg_my (wg_R m w f (wg_q b)) (wg_R m w f (wg_q b + 1))) (wg_R m w f (wg_q b + 10))) (wg_R m w f (wg_q b + 11))) (m, g, w)) : wpY_pooled post (m, g, w) (nI f) (nI b) := by
  have hq : wg_q b < 89 := by unfold wg_q; omega
  unfold wpY_pooled
  dsimp only
  refine wg_filY hf (br_f wg_10 (br_f (nI_pos (by omega)) (br_t (nI_le (b := 24) (by omega) (by decide)) (wg_resY hf (fun g' hg => ⟨wg_5, wg_5, nm_r (e' := nI (wg_q b)) ?_ ?_⟩)))))
  · rw [wg_rem5 (by omega), wg_div5 (by omega)]
    show nI 20 * nI (b / 5) + nI 2 * nI (b % 5) = _
    rw [pk_mul, pk_mul, nI_add]
    rfl
  · have hp' := hp g'
    generalize wg_q b = q at hq hp' ⊢
    have i1 : nI q + 1 = nI (q + 1) := nI_1 q
    have v1 : vp_in (nI q + 1) 100 := pk_in (q + 1) 100 (by omega) i1
    have c1 : (nI q + 1).toNatClampNeg = q + 1 := pk_cl _ i1
    have c0 : (nI q).toNatClampNeg = q := nI_clamp (by omega)
    refine ⟨vp_in_nI (by omega) (by decide), nm_r (e' := wg_R m w f q) (by rw [c0]; exact hg q (by omega)) ⟨v1, ?_⟩⟩
    dsimp only
    rw [c1, hg (q + 1) (by omega)]
    by_cases h : wg_R m w f (q + 1) ≤ wg_R m w f q
    · have ey : wg_my (wg_R m w f q) (wg_R m w f (q + 1)) = wg_R m w f q := if_pos h
      rw [ey] at hp'
      exact br_t h (wg_p70 hq (hg _ (by omega)) (hg _ (by omega)) hp')
    · have ey : wg_my (wg_R m w f q) (wg_R m w f (q + 1)) = wg_R m w f (q + 1) := if_neg h
      rw [ey] at hp'
      exact br_f h ⟨v1, nm_e (wg_p70 hq (hg _ (by omega)) (hg _ (by omega)) hp')⟩
theorem i_vc_pooled {k : Nat} {u : SX} {v : SY} (I : i_Rel k u v) (hk : k + 5 ≤ 2560) (v1 : Int32) (v2 : Int32) : wpX_pooled (fun r u' => wpY_pooled (fun r' v' => r' = r ∧ i_Rel (k + 5) u' v') v v1 v2) u v1 v2 := by
  obtain ⟨c, w, r, s, p, g, rfl, rfl, hc, hw⟩ := I
  rcases wg_ix v1 (n := 2) (by decide) with h | ⟨f, hf, rfl⟩
  · unfold wpX_pooled wpY_pooled
    dsimp only
    exact wg_filXn h (br_t rfl (wg_filYn h (br_t rfl ⟨rfl, wg_mk hc hw⟩)))
  · rcases wg_ix v2 (n := 25) (by decide) with h | ⟨b, hb, rfl⟩
    · unfold wpX_pooled wpY_pooled
      dsimp only
      refine wg_filX hf (br_f wg_10 ?_)
      by_cases h0 : v2 < 0
      · exact br_t h0 (wg_filY hf (br_f wg_10 (br_t h0 ⟨rfl, wg_mk hc hw⟩)))
      · have h1 : (25 : Int32) ≤ v2 := h.resolve_left h0
        have h2 : ¬ v2 < 25 := Int32.not_lt.mpr h1
        have h3 : ¬ v2 ≤ 24 := Int32.not_le.mpr (wg_ltp (n := 24) h1 (by decide))
        exact br_f h0 (br_f h2 (wg_filY hf (br_f wg_10 (br_f h0 (br_f h3 ⟨rfl, wg_mk hc hw⟩)))))
    · exact wg_poolX hf hb hc hw (fun r' s' p' => wg_poolY hf hb (fun g' => ⟨wg_4max _ _ _ _, wg_mk hc hw⟩))
