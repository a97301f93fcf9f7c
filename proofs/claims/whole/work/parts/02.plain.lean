/-! the plain sum: X's responseAt, Y's at, Y's respond, X's second -/
theorem wg_raX_l {post : Int32 → Prop} (c w r s p : Nat → Int32) {f x y : Nat} (hf : f < 2) (hx : x < 10) (hy : y < 10) (hp : post (wg_ps c w f x y 9)) : ∀ d k, k + d = 9 → wX_responseAt_6 post (nI f) (nI x) (nI y) c w r s p (d + 1) (wg_ps c w f x y k) (nI k) := by
  intro d
  induction d with
  | zero =>
    intro k hk
    obtain rfl : k = 9 := by omega
    exact br_t (nI_le (b := 9) (Nat.le_refl 9) (by decide)) hp
  | succ d ih =>
    intro k hk
    have hi : 9 * nI f + nI k = nI (9 * f + k) := wg_lin 9 f k
    refine br_f (nI_ge (b := 9) (by omega) (by decide)) ⟨wg_3, wg_3, wg_imX (x + k % 3) (y + k / 3) (by omega) (by omega) (wg_sh x (by omega)) (wg_sv y (by omega)) ⟨pk_in (9 * f + k) 18 (by omega) hi, nm_r ?_ (nm_r (nI_1 k) (ih (k + 1) (by omega)))⟩⟩
    rw [pk_cl (9 * f + k) hi]
    rfl
theorem wg_raX {post : Int32 → Prop} {c w r s p : Nat → Int32} {f x y : Nat} (hf : f < 2) (hx : x < 10) (hy : y < 10) (hp : post (wg_ps c w f x y 9)) : wpX_responseAt post (c, w, r, s, p) (nI f) (nI x) (nI y) := ⟨10, wg_raX_l c w r s p hf hx hy hp 9 0 rfl⟩
theorem wg_atY_l {post : Int32 → Prop} (m g w a : Nat → Int32) (z : Int32) (hz : (z = 0 ∧ a = m) ∨ (¬ z = 0 ∧ a = g)) {f x y : Nat} (hf : f < 2) (hx : x < 10) (hy : y < 10) (hp : post (wg_ps a w f x y 9)) : ∀ d k, k + d = 9 → wY_at_6 post (nI f) (nI x) (nI y) z m g w (d + 1) (wg_ps a w f x y k) (nI k) := by
  intro d
  induction d with
  | zero =>
    intro k hk
    obtain rfl : k = 9 := by omega
    exact br_t (nI_le (b := 9) (Nat.le_refl 9) (by decide)) hp
  | succ d ih =>
    intro k hk
    have hi : 9 * nI f + nI k = nI (9 * f + k) := wg_lin 9 f k
    have hn : wg_ps a w f x y (k + 1) = wg_ps a w f x y k + w (9 * f + k) * wg_pic a (x + k % 3) (y + k / 3) := rfl
    refine br_f (nI_ge (b := 9) (by omega) (by decide)) ⟨wg_3, nm_r (wg_sh x (by omega)) ⟨wg_3, nm_r (wg_sv y (by omega)) ?_⟩⟩
    have ha : x + k % 3 < 1000 := by omega
    have hb : y + k / 3 < 1000 := by omega
    generalize x + k % 3 = A at ha hn ⊢
    generalize y + k / 3 = B at hb hn ⊢
    have nx := ih (k + 1) (by omega)
    by_cases h1 : 1 ≤ A ∧ A ≤ 10
    · by_cases h2 : 1 ≤ B ∧ B ≤ 10
      · have e : wg_pic a A B = a (10 * (B - 1) + (A - 1)) := if_pos ⟨h1.1, h1.2, h2.1, h2.2⟩
        rw [e] at hn
        have hj : 10 * nI (B - 1) + nI (A - 1) = nI (10 * (B - 1) + (A - 1)) := wg_lin 10 _ _
        rw [wg_pred h1.1, wg_pred h2.1]
        refine wg_placeY (by omega) (br_f wg_10 (wg_placeY (by omega) (br_f wg_10 ⟨pk_in (9 * f + k) 18 (by omega) hi, ?_⟩)))
        rcases hz with ⟨z0, rfl⟩ | ⟨z0, rfl⟩
        · refine br_t z0 ⟨pk_in (10 * (B - 1) + (A - 1)) 100 (by omega) hj, nm_r ?_ (nm_r (nI_1 k) nx)⟩
          rw [pk_cl (9 * f + k) hi, pk_cl (10 * (B - 1) + (A - 1)) hj, hn]
        · refine br_f z0 ⟨pk_in (10 * (B - 1) + (A - 1)) 100 (by omega) hj, nm_r ?_ (nm_r (nI_1 k) nx)⟩
          rw [pk_cl (9 * f + k) hi, pk_cl (10 * (B - 1) + (A - 1)) hj, hn]
      · have e : wg_pic a A B = 0 := if_neg (fun h => h2 h.2.2)
        rw [e, Int32.mul_zero, Int32.add_zero] at hn
        rw [hn] at nx
        rw [wg_pred h1.1]
        exact wg_placeY (by omega) (br_f wg_10 (wg_placeYn (wg_out h2 hb) (br_t rfl (nm_r (nI_1 k) nx))))
    · have e : wg_pic a A B = 0 := if_neg (fun h => h1 ⟨h.1, h.2.1⟩)
      rw [e, Int32.mul_zero, Int32.add_zero] at hn
      rw [hn] at nx
      exact wg_placeYn (wg_out h1 ha) (br_t rfl (nm_r (nI_1 k) nx))
theorem wg_atY0 {post : Int32 → Prop} {m g w : Nat → Int32} {f x y : Nat} (hf : f < 2) (hx : x < 10) (hy : y < 10) (hp : post (wg_ps m w f x y 9)) : wpY_at post (m, g, w) (nI f) (nI x) (nI y) 0 := ⟨10, wg_atY_l m g w m 0 (Or.inl ⟨rfl, rfl⟩) hf hx hy hp 9 0 rfl⟩
theorem wg_atY1 {post : Int32 → Prop} {m g w : Nat → Int32} {f x y : Nat} (hf : f < 2) (hx : x < 10) (hy : y < 10) (hp : post (wg_ps g w f x y 9)) : wpY_at post (m, g, w) (nI f) (nI x) (nI y) 1 := ⟨10, wg_atY_l m g w g 1 (Or.inr ⟨wg_10, rfl⟩) hf hx hy hp 9 0 rfl⟩
theorem wg_resY_l {post : SY → Prop} (m w : Nat → Int32) {f : Nat} (hf : f < 2) (hp : ∀ g, (∀ j, j < 100 → g j = wg_R m w f j) → post (m, g, w)) : ∀ d k g, k + d = 100 → (∀ j, j < k → g j = wg_R m w f j) → wY_respond_2 post (nI f) (d + 1) (nI k) m g w := by
  intro d
  induction d with
  | zero =>
    intro k g hk hg
    obtain rfl : k = 100 := by omega
    exact br_t (nI_le (b := 100) (Nat.le_refl 100) (by decide)) (hp g hg)
  | succ d ih =>
    intro k g hk hg
    refine br_f (nI_ge (b := 100) (by omega) (by decide)) ⟨wg_ten, wg_ten, ?_⟩
    rw [wg_rem10 (by omega), wg_div10 (by omega)]
    refine wg_atY0 hf (by omega) (by omega) ⟨vp_in_nI (by omega) (by decide), nm_e (nm_r (nI_1 k) (ih (k + 1) _ (by omega) ?_))⟩
    intro j hj
    rw [nI_clamp (by omega)]
    by_cases e : j = k
    · rw [e, pk_us]; rfl
    · rw [pk_un e]; exact hg j (by omega)
theorem wg_resY {post : SY → Prop} {m g w : Nat → Int32} {f : Nat} (hf : f < 2) (hp : ∀ g, (∀ j, j < 100 → g j = wg_R m w f j) → post (m, g, w)) : wpY_respond post (m, g, w) (nI f) := ⟨101, wg_resY_l m w hf hp 100 0 g rfl (fun _ h => absurd h (Nat.not_lt_zero _))⟩
theorem wg_picC {a b : Nat → Int32} (h : ∀ j, j < 100 → a j = b j) (x y : Nat) : wg_pic a x y = wg_pic b x y := by
  unfold wg_pic
  by_cases z : 1 ≤ x ∧ x ≤ 10 ∧ 1 ≤ y ∧ y ≤ 10
  · rw [if_pos z, if_pos z]; exact h _ (by omega)
  · rw [if_neg z, if_neg z]
theorem wg_psC {a b : Nat → Int32} (h : ∀ j, j < 100 → a j = b j) (w : Nat → Int32) (f x y : Nat) : ∀ k, wg_ps a w f x y k = wg_ps b w f x y k
  | 0 => rfl
  | k + 1 => by rw [wg_ps, wg_ps, wg_psC h w f x y k, wg_picC h]
/-! X's second -/
theorem wg_seX_l {post : Int32 → Prop} (c w r s p : Nat → Int32) {q : Nat} (hq : q < 100) (hp : post (wg_ps (wg_R c w 0) w 1 (q % 10) (q / 10) 9)) : ∀ d k, k + d = 9 → wX_second_14 post (nI q) c w r s p (d + 1) (wg_ps (wg_R c w 0) w 1 (q % 10) (q / 10) k) (nI k) := by
  intro d
  induction d with
  | zero =>
    intro k hk
    obtain rfl : k = 9 := by omega
    exact br_t (nI_le (b := 9) (Nat.le_refl 9) (by decide)) hp
  | succ d ih =>
    intro k hk
    have hi : 9 + nI k = nI (9 + k) := nI_add 9 k
    have hn : wg_ps (wg_R c w 0) w 1 (q % 10) (q / 10) (k + 1) = wg_ps (wg_R c w 0) w 1 (q % 10) (q / 10) k + w (9 + k) * wg_pic (wg_R c w 0) (q % 10 + k % 3) (q / 10 + k / 3) := rfl
    have e1 : (nI q - nI q / 10 * 10 + (nI k - nI k / 3 * 3)) - 1 = nI (q % 10 + k % 3) - 1 := by rw [wg_rem10 (by omega)]; exact wg_sh _ (by omega)
    have e2 : (nI q / 10 + nI k / 3) - 1 = nI (q / 10 + k / 3) - 1 := by rw [wg_div10 (by omega)]; exact wg_sv _ (by omega)
    refine br_f (nI_ge (b := 9) (by omega) (by decide)) ⟨wg_ten, wg_3, nm_r e1 ⟨wg_ten, wg_3, nm_r e2 ?_⟩⟩
    have ha : q % 10 + k % 3 < 1000 := by omega
    have hb : q / 10 + k / 3 < 1000 := by omega
    generalize q % 10 + k % 3 = A at ha hn ⊢
    generalize q / 10 + k / 3 = B at hb hn ⊢
    have nx := ih (k + 1) (by omega)
    by_cases h1 : 1 ≤ A ∧ A ≤ 10
    · by_cases h2 : 1 ≤ B ∧ B ≤ 10
      · have e : wg_pic (wg_R c w 0) A B = wg_ps c w 0 (A - 1) (B - 1) 9 := by
          have e' : wg_pic (wg_R c w 0) A B = wg_R c w 0 (10 * (B - 1) + (A - 1)) := if_pos ⟨h1.1, h1.2, h2.1, h2.2⟩
          have m1 : (10 * (B - 1) + (A - 1)) % 10 = A - 1 := by omega
          have m2 : (10 * (B - 1) + (A - 1)) / 10 = B - 1 := by omega
          rw [e', wg_R, m1, m2]
        rw [e] at hn
        rw [wg_pred h1.1, wg_pred h2.1]
        refine wg_placeX (by omega) (br_f wg_10 (wg_placeX (by omega) (br_f wg_10 (wg_raX (f := 0) (by decide) (by omega) (by omega) ⟨pk_in (9 + k) 18 (by omega) hi, nm_r ?_ (nm_r (nI_1 k) nx)⟩))))
        rw [pk_cl (9 + k) hi, hn]
      · have e : wg_pic (wg_R c w 0) A B = 0 := if_neg (fun h => h2 h.2.2)
        rw [e, Int32.mul_zero, Int32.add_zero] at hn
        rw [hn] at nx
        rw [wg_pred h1.1]
        exact wg_placeX (by omega) (br_f wg_10 (wg_placeXn (wg_out h2 hb) (br_t rfl (nm_r (nI_1 k) nx))))
    · have e : wg_pic (wg_R c w 0) A B = 0 := if_neg (fun h => h1 ⟨h.1, h.2.1⟩)
      rw [e, Int32.mul_zero, Int32.add_zero] at hn
      rw [hn] at nx
      exact wg_placeXn (wg_out h1 ha) (br_t rfl (nm_r (nI_1 k) nx))
