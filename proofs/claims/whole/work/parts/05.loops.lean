/-! the public methods' own loops, each side against one pure picture -/
def wg_st (I : Nat → Nat) (v : Int32) (c : Nat → Int32) (a : Nat) : Nat → (Nat → Int32)
  | 0 => c
  | i + 1 => upd (wg_st I v c a i) (I (a + i)) v
theorem wg_stB (I : Nat → Nat) {v : Int32} {c : Nat → Int32} (hc : wg_B 99 c) (hv : -99 ≤ v.toInt ∧ v.toInt ≤ 99) (a : Nat) : ∀ i, wg_B 99 (wg_st I v c a i)
  | 0 => hc
  | i + 1 => wg_Bu (wg_stB I hc hv a i) hv
theorem wg_stX {post : Int32 → SX → Prop} (I : Nat → Nat) {z st v : Int32} {a b e : Nat} (c w r s p : Nat → Int32) (ha : a < 10) (hb : b < 10) (he : b + 1 - a = e) (hI : ∀ k, k < 10 → z + st * nI k = nI (I k) ∧ I k < 100) (hp : post (nI e) (wg_st I v c a e, w, r, s, p)) : ∀ d i, i + d = e → wX_stripe_85 post (nI b) v z st (d + 1) (nI i) (nI (a + i)) (wg_st I v c a i) w r s p := by
  intro d
  induction d with
  | zero =>
    intro i hi
    obtain rfl : i = e := by omega
    exact br_t (nI_lt (by omega) (by omega)) hp
  | succ d ih =>
    intro i hi
    obtain ⟨e1, e2⟩ := hI (a + i) (by omega)
    refine br_f (nI_nlt (by omega) (by omega)) ⟨pk_in (I (a + i)) 100 e2 e1, nm_r ?_ (nm_r (nI_1 i) (nm_r (nI_1 (a + i)) (ih (i + 1) (by omega))))⟩
    rw [pk_cl (I (a + i)) e1]
    rfl
theorem wg_stY {post : Int32 → SY → Prop} (I : Nat → Nat) {x1 v : Int32} {a b e : Nat} (m g w : Nat → Int32) (ha : a < 10) (hb : b < 10) (he : b + 1 - a = e) (hI : (10 ≤ x1 ∧ ∀ k, k < 10 → ((10 * nI k) + x1) - 10 = nI (I k) ∧ I k < 100) ∨ (¬ 10 ≤ x1 ∧ ∀ k, k < 10 → (10 * x1) + nI k = nI (I k) ∧ I k < 100)) (hp : post (nI e) (wg_st I v m a e, g, w)) : ∀ d i, i + d = e → wY_stripe_44 post x1 (nI b) v (d + 1) (nI i) (nI (a + i)) (wg_st I v m a i) g w := by
  intro d
  induction d with
  | zero =>
    intro i hi
    obtain rfl : i = e := by omega
    exact br_t (nI_lt (by omega) (by omega)) hp
  | succ d ih =>
    intro i hi
    refine br_f (nI_nlt (by omega) (by omega)) ?_
    rcases hI with ⟨h1, hI⟩ | ⟨h1, hI⟩
    · obtain ⟨e1, e2⟩ := hI (a + i) (by omega)
      refine br_t h1 ⟨pk_in (I (a + i)) 100 e2 e1, nm_r ?_ (nm_r (nI_1 i) (nm_r (nI_1 (a + i)) (ih (i + 1) (by omega))))⟩
      rw [pk_cl (I (a + i)) e1]
      rfl
    · obtain ⟨e1, e2⟩ := hI (a + i) (by omega)
      refine br_f h1 ⟨pk_in (I (a + i)) 100 e2 e1, nm_r ?_ (nm_r (nI_1 i) (nm_r (nI_1 (a + i)) (ih (i + 1) (by omega))))⟩
      rw [pk_cl (I (a + i)) e1]
      rfl
/-! the first greatest -/
def wg_bs (R : Nat → Int32) : Nat → Nat
  | 0 => 0
  | k + 1 => if R (k + 1) ≤ R (wg_bs R k) then wg_bs R k else k + 1
theorem wg_bsL (R : Nat → Int32) : ∀ k, wg_bs R k ≤ k
  | 0 => Nat.le_refl 0
  | k + 1 => by
    have := wg_bsL R k
    unfold wg_bs
    split <;> omega
theorem wg_bsX {post : Int32 → Prop} (R c w r s p : Nat → Int32) (hr : ∀ j, j < 100 → r j = R j) (hp : post (nI (wg_bs R 99))) : ∀ d k, k + d = 99 → wX_firstGreatestCell_4 post c w r s p (d + 1) (nI (wg_bs R k)) (nI (k + 1)) := by
  intro d
  induction d with
  | zero =>
    intro k hk
    obtain rfl : k = 99 := by omega
    exact br_t (nI_le (b := 100) (Nat.le_refl 100) (by decide)) hp
  | succ d ih =>
    intro k hk
    have hl := wg_bsL R k
    have nx := ih (k + 1) (by omega)
    have e1 : r (nI (k + 1)).toNatClampNeg = R (k + 1) := by rw [nI_clamp (by omega)]; exact hr _ (by omega)
    have e2 : r (nI (wg_bs R k)).toNatClampNeg = R (wg_bs R k) := by rw [nI_clamp (by omega)]; exact hr _ (by omega)
    refine br_f (nI_ge (b := 100) (by omega) (by decide)) ⟨vp_in_nI (by omega) (by decide), vp_in_nI (by omega) (by decide), ?_⟩
    rw [e1, e2]
    by_cases h : R (k + 1) ≤ R (wg_bs R k)
    · have e : wg_bs R (k + 1) = wg_bs R k := if_pos h
      rw [e] at nx
      exact br_t h (nm_r (nI_1 (k + 1)) nx)
    · have e : wg_bs R (k + 1) = k + 1 := if_neg h
      rw [e] at nx
      exact br_f h (nm_r (nI_1 (k + 1)) nx)
theorem wg_fgX {post : Int32 → Prop} {R c w r s p : Nat → Int32} (hr : ∀ j, j < 100 → r j = R j) (hp : post (nI (wg_bs R 99))) : wpX_firstGreatestCell post (c, w, r, s, p) := ⟨100, wg_bsX R c w r s p hr hp 99 0 rfl⟩
theorem wg_bsY {post : Int32 → Prop} (R m g w : Nat → Int32) (hr : ∀ j, j < 100 → g j = R j) (hp : post (nI (wg_bs R 99))) : ∀ d k, k + d = 99 → wY_best_4 post m g w (d + 1) (nI (wg_bs R k)) (nI (k + 1)) := by
  intro d
  induction d with
  | zero =>
    intro k hk
    obtain rfl : k = 99 := by omega
    exact br_t (nI_le (b := 100) (Nat.le_refl 100) (by decide)) hp
  | succ d ih =>
    intro k hk
    have hl := wg_bsL R k
    have nx := ih (k + 1) (by omega)
    have e1 : g (nI (k + 1)).toNatClampNeg = R (k + 1) := by rw [nI_clamp (by omega)]; exact hr _ (by omega)
    have e2 : g (nI (wg_bs R k)).toNatClampNeg = R (wg_bs R k) := by rw [nI_clamp (by omega)]; exact hr _ (by omega)
    refine br_f (nI_ge (b := 100) (by omega) (by decide)) ⟨vp_in_nI (by omega) (by decide), vp_in_nI (by omega) (by decide), ?_⟩
    rw [e1, e2]
    by_cases h : R (k + 1) ≤ R (wg_bs R k)
    · have e : wg_bs R (k + 1) = wg_bs R k := if_pos h
      rw [e] at nx
      exact br_t h (nm_r (nI_1 (k + 1)) nx)
    · have e : wg_bs R (k + 1) = k + 1 := if_neg h
      rw [e] at nx
      exact br_f h (nm_r (nI_1 (k + 1)) nx)
theorem wg_fgY {post : Int32 → Prop} {R m g w : Nat → Int32} (hr : ∀ j, j < 100 → g j = R j) (hp : post (nI (wg_bs R 99))) : wpY_best post (m, g, w) := ⟨100, wg_bsY R m g w hr hp 99 0 rfl⟩
/-! the total -/
def wg_tt (R : Nat → Int32) : Nat → Int32
  | 0 => 0
  | k + 1 => wg_tt R k + R k
theorem wg_ttX {post : Int32 → SX → Prop} (R c w r s p : Nat → Int32) (hr : ∀ j, j < 100 → r j = R j) (hp : post (wg_tt R 100) (c, w, r, s, p)) : ∀ d k, k + d = 100 → wX_total_19 post c w r s p (d + 1) (wg_tt R k) (nI k) := by
  intro d
  induction d with
  | zero =>
    intro k hk
    obtain rfl : k = 100 := by omega
    exact br_t (nI_le (b := 100) (Nat.le_refl 100) (by decide)) hp
  | succ d ih =>
    intro k hk
    refine br_f (nI_ge (b := 100) (by omega) (by decide)) ⟨vp_in_nI (by omega) (by decide), nm_r ?_ (nm_r (nI_1 k) (ih (k + 1) (by omega)))⟩
    rw [nI_clamp (by omega), hr k (by omega)]
    rfl
theorem wg_ttY {post : Int32 → SY → Prop} (R m g w : Nat → Int32) (hr : ∀ j, j < 100 → g j = R j) (hp : post (wg_tt R 100) (m, g, w)) : ∀ d k, k + d = 100 → wY_total_20 post m g w (d + 1) (wg_tt R k) (nI k) := by
  intro d
  induction d with
  | zero =>
    intro k hk
    obtain rfl : k = 100 := by omega
    exact br_t (nI_le (b := 100) (Nat.le_refl 100) (by decide)) hp
  | succ d ih =>
    intro k hk
    refine br_f (nI_ge (b := 100) (by omega) (by decide)) ⟨vp_in_nI (by omega) (by decide), nm_r ?_ (nm_r (nI_1 k) (ih (k + 1) (by omega)))⟩
    rw [nI_clamp (by omega), hr k (by omega)]
    rfl
/-! apply -/
def wg_ok (x : Int32) : Prop := -99 ≤ x.toInt ∧ x.toInt ≤ 99
def wg_cut (x : Int32) : Int32 := if x.toInt < -99 then -99 else if 99 < x.toInt then 99 else x
theorem wg_cutB (x : Int32) : -99 ≤ (wg_cut x).toInt ∧ (wg_cut x).toInt ≤ 99 := by
  unfold wg_cut
  split
  · decide
  · split
    · decide
    · omega
def wg_ap (R c : Nat → Int32) : Nat → (Nat → Int32)
  | 0 => c
  | k + 1 => upd (wg_ap R c k) k (wg_cut (R k))
theorem wg_apB (R : Nat → Int32) {c : Nat → Int32} (hc : wg_B 99 c) : ∀ k, wg_B 99 (wg_ap R c k)
  | 0 => hc
  | k + 1 => wg_Bu (wg_apB R hc k) (wg_cutB _)
def wg_ct (R : Nat → Int32) : Nat → Nat
  | 0 => 0
  | k + 1 => if wg_cut (R k) = R k then wg_ct R k else wg_ct R k + 1
theorem wg_apX {post : Int32 → SX → Prop} (R c w r s p : Nat → Int32) (hr : ∀ j, j < 100 → r j = R j) (hp : post (nI (wg_ct R 100)) (wg_ap R c 100, w, r, s, p)) : ∀ d k, k + d = 100 → wX_apply_19 post (d + 1) (nI (wg_ct R k)) (nI k) (wg_ap R c k) w r s p := by
  intro d
  induction d with
  | zero =>
    intro k hk
    obtain rfl : k = 100 := by omega
    exact br_t (nI_le (b := 100) (Nat.le_refl 100) (by decide)) hp
  | succ d ih =>
    intro k hk
    have nx := ih (k + 1) (by omega)
    have hv : vp_in (nI k) 100 := vp_in_nI (by omega) (by decide)
    have ck : (nI k).toNatClampNeg = k := nI_clamp (by omega)
    have e1 : r (nI k).toNatClampNeg = R k := by rw [ck]; exact hr _ (by omega)
    have ea : wg_ap R c (k + 1) = upd (wg_ap R c k) k (wg_cut (R k)) := rfl
    have ec : wg_ct R (k + 1) = if wg_cut (R k) = R k then wg_ct R k else wg_ct R k + 1 := rfl
    refine br_f (nI_ge (b := 100) (by omega) (by decide)) ⟨hv, nm_r e1 ?_⟩
    by_cases h : -99 ≤ (R k).toInt ∧ (R k).toInt ≤ 99
    · have e : wg_cut (R k) = R k := by unfold wg_cut; rw [if_neg (by omega), if_neg (by omega)]
      rw [if_pos e] at ec
      rw [ea, ec, e] at nx
      refine wg_valX h (br_f wg_10 ⟨hv, nm_r ?_ (nm_r (nI_1 k) nx)⟩)
      rw [ck]
    · refine wg_valXn h (br_t rfl ?_)
      by_cases h0 : 99 < (R k).toInt
      · have e : wg_cut (R k) = 99 := by unfold wg_cut; rw [if_neg (by omega), if_pos h0]
        have ne : ¬ (99 : Int32) = R k := by
          intro z
          rw [← z, wg_p99] at h0
          omega
        rw [e, if_neg ne] at ec
        rw [ea, ec, e] at nx
        have hz : (0 : Int32) ≤ R k := by
          rw [Int32.le_iff_toInt_le, show (0 : Int32).toInt = 0 from by decide]
          omega
        refine br_t hz ⟨hv, nm_r ?_ (nm_r (nI_1 (wg_ct R k)) (nm_r (nI_1 k) nx))⟩
        rw [ck]
      · have h1 : (R k).toInt < -99 := by omega
        have e : wg_cut (R k) = -99 := by unfold wg_cut; rw [if_pos h1]
        have ne : ¬ (-99 : Int32) = R k := by
          intro z
          rw [← z, wg_n99] at h1
          omega
        rw [e, if_neg ne] at ec
        rw [ea, ec, e] at nx
        have hz : ¬ (0 : Int32) ≤ R k := by
          rw [Int32.le_iff_toInt_le, show (0 : Int32).toInt = 0 from by decide]
          omega
        refine br_f hz ⟨hv, nm_r ?_ (nm_r (nI_1 (wg_ct R k)) (nm_r (nI_1 k) nx))⟩
        rw [ck]
theorem wg_ap69 {post : Int32 → SY → Prop} {J : Int32 → Int32 → (Nat → Int32) → (Nat → Int32) → (Nat → Int32) → Prop} {R m g w : Nat → Int32} {k t : Nat} (hk : k < 100) (eg : g k = R k) (hJ : J (nI (if wg_cut (R k) = R k then t else t + 1)) (nI (k + 1)) (upd m k (wg_cut (R k))) g w) {z : Int32} (hz : z = wg_cut (R k)) : wY_apply_69 post J (nI t) (nI k) z (nI k) m g w := by
  subst hz
  have hv : vp_in (nI k) 100 := vp_in_nI (by omega) (by decide)
  have ck : (nI k).toNatClampNeg = k := nI_clamp (by omega)
  refine ⟨hv, nm_r (e' := upd m k (wg_cut (R k))) (by rw [ck]) ⟨hv, hv, ?_⟩⟩
  rw [ck, pk_us, eg]
  by_cases h : wg_cut (R k) = R k
  · rw [if_pos h] at hJ
    exact br_t h (nm_r (nI_1 k) hJ)
  · rw [if_neg h] at hJ
    exact br_f h (nm_r (nI_1 t) (nm_r (nI_1 k) hJ))
theorem wg_apY {post : Int32 → SY → Prop} (R m g w : Nat → Int32) (hr : ∀ j, j < 100 → g j = R j) (hp : post (nI (wg_ct R 100)) (wg_ap R m 100, g, w)) : ∀ d k, k + d = 100 → wY_apply_20 post (d + 1) (nI (wg_ct R k)) (nI k) (wg_ap R m k) g w := by
  intro d
  induction d with
  | zero =>
    intro k hk
    obtain rfl : k = 100 := by omega
    exact br_t (nI_le (b := 100) (Nat.le_refl 100) (by decide)) hp
  | succ d ih =>
    intro k hk
    have nx := ih (k + 1) (by omega)
    have hv : vp_in (nI k) 100 := vp_in_nI (by omega) (by decide)
    have ck : (nI k).toNatClampNeg = k := nI_clamp (by omega)
    have eg : g k = R k := hr k (by omega)
    refine br_f (nI_ge (b := 100) (by omega) (by decide)) ⟨hv, ?_⟩
    rw [ck, eg]
    by_cases h1 : (R k).toInt < -99
    · have e : (-99 : Int32) = wg_cut (R k) := by unfold wg_cut; rw [if_pos h1]
      have hz : ¬ (-99 : Int32) ≤ R k := by
        rw [Int32.le_iff_toInt_le, wg_n99]
        omega
      exact br_f hz (wg_ap69 (by omega) eg nx e)
    · have hz : (-99 : Int32) ≤ R k := by
        rw [Int32.le_iff_toInt_le, wg_n99]
        omega
      refine br_t hz ⟨hv, ?_⟩
      by_cases h0 : 99 < (R k).toInt
      · have e : (99 : Int32) = wg_cut (R k) := by unfold wg_cut; rw [if_neg h1, if_pos h0]
        have hy : ¬ R k ≤ 99 := by
          rw [Int32.le_iff_toInt_le, wg_p99]
          omega
        exact br_f hy (wg_ap69 (by omega) eg nx e)
      · have e : R k = wg_cut (R k) := by unfold wg_cut; rw [if_neg h1, if_neg h0]
        have hy : R k ≤ 99 := by
          rw [Int32.le_iff_toInt_le, wg_p99]
          omega
        exact br_t hy ⟨hv, wg_ap69 (by omega) eg nx e⟩
/-! turn -/
def wg_tn (f : Nat) (w : Nat → Int32) : Nat → (Nat → Int32)
  | 0 => w
  | k + 1 => upd (upd (wg_tn f w k) (9 * f + k) (wg_tn f w k (9 * f + 8 - k))) (9 * f + 8 - k) (wg_tn f w k (9 * f + k))
theorem wg_tnB (f : Nat) {w : Nat → Int32} (hw : wg_B 9 w) : ∀ k, wg_B 9 (wg_tn f w k)
  | 0 => hw
  | k + 1 => wg_Bu (wg_Bu (wg_tnB f hw k) (wg_tnB f hw k _)) (wg_tnB f hw k _)
theorem wg_tnX {post : Int32 → SX → Prop} {f : Nat} (hf : f < 2) {x2 x3 : Int32} (h2 : x2 = nI (9 * f)) (h3 : x3 = nI (9 * f + 8)) (c w r s p : Nat → Int32) (hp : post 1 (c, wg_tn f w 4, r, s, p)) : ∀ d k, k + d = 4 → wX_turn_24 post x2 x3 (d + 1) (nI k) c (wg_tn f w k) r s p := by
  intro d
  induction d with
  | zero =>
    intro k hk
    obtain rfl : k = 4 := by omega
    exact br_t (nI_le (b := 4) (Nat.le_refl 4) (by decide)) hp
  | succ d ih =>
    intro k hk
    have i1 : x2 + nI k = nI (9 * f + k) := by rw [h2, nI_add]
    have i2 : x3 - nI k = nI (9 * f + 8 - k) := by rw [h3, pk_sub (by omega)]
    have c1 : (x2 + nI k).toNatClampNeg = 9 * f + k := pk_cl _ i1
    have c2 : (x3 - nI k).toNatClampNeg = 9 * f + 8 - k := pk_cl _ i2
    have v1 : vp_in (x2 + nI k) 18 := pk_in (9 * f + k) 18 (by omega) i1
    have v2 : vp_in (x3 - nI k) 18 := pk_in (9 * f + 8 - k) 18 (by omega) i2
    refine br_f (nI_ge (b := 4) (by omega) (by decide)) ⟨v1, nm_e ⟨v2, v1, nm_e ⟨v2, nm_r ?_ (nm_r (nI_1 k) (ih (k + 1) (by omega)))⟩⟩⟩
    rw [c1, c2]
    rfl
theorem wg_tnY {post : Int32 → SY → Prop} {f : Nat} (hf : f < 2) (m g w : Nat → Int32) (hp : post 1 (m, g, wg_tn f w 4)) : ∀ d k, k + d = 4 → wY_turn_12 post (nI f) (d + 1) (nI k) m g (wg_tn f w k) := by
  intro d
  induction d with
  | zero =>
    intro k hk
    obtain rfl : k = 4 := by omega
    exact br_t (nI_le (b := 4) (Nat.le_refl 4) (by decide)) hp
  | succ d ih =>
    intro k hk
    have i1 : 9 * nI f + nI k = nI (9 * f + k) := wg_lin 9 f k
    have i0 : 9 * nI f + 8 = nI (9 * f + 8) := wg_lin 9 f 8
    have i2 : 9 * nI f + 8 - nI k = nI (9 * f + 8 - k) := by rw [i0, pk_sub (by omega)]
    have c1 : (9 * nI f + nI k).toNatClampNeg = 9 * f + k := pk_cl _ i1
    have c2 : (9 * nI f + 8 - nI k).toNatClampNeg = 9 * f + 8 - k := pk_cl _ i2
    have v1 : vp_in (9 * nI f + nI k) 18 := pk_in (9 * f + k) 18 (by omega) i1
    have v2 : vp_in (9 * nI f + 8 - nI k) 18 := pk_in (9 * f + 8 - k) 18 (by omega) i2
    refine br_f (nI_ge (b := 4) (by omega) (by decide)) ⟨v1, nm_e ⟨v2, v1, nm_e ⟨v2, nm_r ?_ (nm_r (nI_1 k) (ih (k + 1) (by omega)))⟩⟩⟩
    rw [c1, c2]
    rfl
