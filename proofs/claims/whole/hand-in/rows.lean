section
theorem pk_us {f : Nat → Int32} {k : Nat} {x : Int32} : upd f k x k = x := if_pos rfl
theorem pk_un {f : Nat → Int32} {k j : Nat} {x : Int32} (h : j ≠ k) : upd f k x j = f j := if_neg h
theorem pk_sub {a b : Nat} (h : b ≤ a) : nI a - nI b = nI (a - b) := by
  obtain ⟨c, rfl⟩ : ∃ c, a = c + b := ⟨a - b, by omega⟩
  rw [← nI_add, Int32.add_sub_cancel, Nat.add_sub_cancel]
theorem pk_mul (a b : Nat) : nI a * nI b = nI (a * b) := (Int32.ofNat_mul a b).symm
theorem pk_div {a d : Nat} (ha : a < 2 ^ 31) (h0 : 0 < d) (hd : d < 2 ^ 31) : nI a / nI d = nI (a / d) := by
  apply Int32.toInt_inj.mp
  rw [lg_idiv_nonneg (by rw [nI_toInt ha]; omega) (by rw [nI_toInt hd]; omega), nI_toInt ha, nI_toInt hd, nI_toInt (Nat.lt_of_le_of_lt (Nat.div_le_self a d) ha)]
  first | rfl | exact (Int.natCast_ediv _ _).symm
theorem pk_rem {a d : Nat} (ha : a < 2 ^ 31) (h0 : 0 < d) (hd : d < 2 ^ 31) : nI a - nI a / nI d * nI d = nI (a % d) := by
  rw [pk_div ha h0 hd, pk_mul, pk_sub (Nat.div_mul_le_self a d)]
  exact congrArg nI (by have := Nat.div_add_mod' a d; omega)
theorem pk_sub_toInt {a b : Nat} (ha : a < 2 ^ 30) (hb : b < 2 ^ 30) : (nI a - nI b).toInt = (a : Int) - b := by
  rw [Int32.toInt_sub, nI_toInt (by omega), nI_toInt (by omega)]
  exact Int.bmod_eq_of_le (by omega) (by omega)
theorem pk_sneg {a b : Nat} (hb : b < 2 ^ 30) (h : a < b) : nI a - nI b < 0 := by
  rw [Int32.lt_iff_toInt_lt, pk_sub_toInt (by omega) hb, show (0 : Int32).toInt = 0 from by decide]
  omega
theorem pk_ix (x : Int32) {n : Nat} (hn : n < 2 ^ 31) : x < 0 ∨ nI n ≤ x ∨ ∃ j : Nat, j < n ∧ x = nI j := by
  by_cases h : x < 0
  · exact Or.inl h
  · obtain ⟨j, hj, rfl⟩ := nI_of h
    by_cases h2 : j < n
    · exact Or.inr (Or.inr ⟨j, h2, rfl⟩)
    · exact Or.inr (Or.inl (nI_le (by omega) hj))
theorem pk_le {x y : Int32} {A B : Prop} (a b : Nat) (f : a ≤ b → A) (g : b < a → B) (hx : x = nI a := by rfl) (hy : y = nI b := by rfl) (ha : a < 2 ^ 31 := by omega) (hb : b < 2 ^ 31 := by omega) : (x ≤ y → A) ∧ (¬ x ≤ y → B) := by
  subst hx hy
  rw [nI_leI ha hb]
  exact ⟨f, fun z => g (by omega)⟩
theorem pk_lt {x y : Int32} {A B : Prop} (a b : Nat) (f : a < b → A) (g : b ≤ a → B) (hx : x = nI a := by rfl) (hy : y = nI b := by rfl) (ha : a < 2 ^ 31 := by omega) (hb : b < 2 ^ 31 := by omega) : (x < y → A) ∧ (¬ x < y → B) := by
  subst hx hy
  rw [nI_ltI ha hb]
  exact ⟨f, fun z => g (by omega)⟩
theorem pk_eq {x y : Int32} {A B : Prop} (a b : Nat) (f : a = b → A) (g : a ≠ b → B) (hx : x = nI a := by rfl) (hy : y = nI b := by rfl) (ha : a < 2 ^ 31 := by omega) (hb : b < 2 ^ 31 := by omega) : (x = y → A) ∧ (¬ x = y → B) := by
  subst hx hy
  rw [nI_eq ha hb]
  exact ⟨f, g⟩
theorem pk_in {x : Int32} (n N : Nat) (h : n < N) (hx : x = nI n := by rfl) (hN : N < 2 ^ 31 := by omega) : vp_in x N := by
  subst hx
  exact vp_in_nI h hN
theorem pk_cl {x : Int32} (n : Nat) (hx : x = nI n := by rfl) (h : n < 2 ^ 31 := by omega) : x.toNatClampNeg = n := by
  subst hx
  exact nI_clamp h
/-! the picture: what the image shows at the place (a - 1, b - 1), the response as a running sum, the bounds -/
def wg_pic (c : Nat → Int32) (a b : Nat) : Int32 := if 1 ≤ a ∧ a ≤ 10 ∧ 1 ≤ b ∧ b ≤ 10 then c (10 * (b - 1) + (a - 1)) else 0
def wg_ps (c w : Nat → Int32) (f x y : Nat) : Nat → Int32
  | 0 => 0
  | k + 1 => wg_ps c w f x y k + w (9 * f + k) * wg_pic c (x + k % 3) (y + k / 3)
def wg_R (c w : Nat → Int32) (f : Nat) : Nat → Int32 := fun j => wg_ps c w f (j % 10) (j / 10) 9
def wg_B (m : Int) (c : Nat → Int32) : Prop := ∀ j, -m ≤ (c j).toInt ∧ (c j).toInt ≤ m
theorem wg_B0 (m : Int) (h : 0 ≤ m) : wg_B m (fun _ => 0) := fun _ => ⟨by rw [show (0 : Int32).toInt = 0 from by decide]; omega, by rw [show (0 : Int32).toInt = 0 from by decide]; omega⟩
theorem wg_Bu {m : Int} {c : Nat → Int32} {k : Nat} {x : Int32} (h : wg_B m c) (hx : -m ≤ x.toInt ∧ x.toInt ≤ m) : wg_B m (upd c k x) := by
  intro j
  by_cases e : j = k
  · rw [e, pk_us]; exact hx
  · rw [pk_un e]; exact h j
theorem wg_n99 : (-99 : Int32).toInt = -99 := by decide
theorem wg_p99 : (99 : Int32).toInt = 99 := by decide
theorem wg_n9 : (-9 : Int32).toInt = -9 := by decide
theorem wg_p9 : (9 : Int32).toInt = 9 := by decide
theorem wg_10 : ¬ (1 : Int32) = 0 := by decide
theorem wg_3 : ¬ (3 : Int32) = 0 := by decide
theorem wg_4 : ¬ (4 : Int32) = 0 := by decide
theorem wg_5 : ¬ (5 : Int32) = 0 := by decide
theorem wg_ten : ¬ (10 : Int32) = 0 := by decide
theorem wg_ix (x : Int32) {n : Nat} (hn : n < 2 ^ 31) : (x < 0 ∨ nI n ≤ x) ∨ ∃ j : Nat, j < n ∧ x = nI j := by
  rcases pk_ix x hn with h | h | h
  · exact Or.inl (Or.inl h)
  · exact Or.inl (Or.inr h)
  · exact Or.inr h
theorem wg_ltp {n : Nat} {x : Int32} (h : nI (n + 1) ≤ x) (hn : n + 1 < 2 ^ 31) : nI n < x := by
  rw [Int32.le_iff_toInt_le, nI_toInt hn] at h
  rw [Int32.lt_iff_toInt_lt, nI_toInt (by omega)]
  omega
/-! X's and Y's checks -/
theorem wg_cellX {post : Int32 → Prop} {j : Nat} (h : j < 100) (hp : post 1) : wpX_isCell post (nI j) := br_f (nI_pos (by omega)) (br_f (nI_ge (b := 100) h (by decide)) hp)
theorem wg_cellXn {post : Int32 → Prop} {x : Int32} (h : x < 0 ∨ nI 100 ≤ x) (hp : post 0) : wpX_isCell post x := br_c (fun _ => hp) (fun h0 => br_t (h.resolve_left h0) hp)
theorem wg_placeX {post : Int32 → Prop} {j : Nat} (h : j < 10) (hp : post 1) : wpX_isPlace post (nI j) := br_f (nI_pos (by omega)) (br_f (nI_ge (b := 10) h (by decide)) hp)
theorem wg_placeXn {post : Int32 → Prop} {x : Int32} (h : x < 0 ∨ nI 10 ≤ x) (hp : post 0) : wpX_isPlace post x := br_c (fun _ => hp) (fun h0 => br_t (h.resolve_left h0) hp)
theorem wg_filX {post : Int32 → Prop} {j : Nat} (h : j < 2) (hp : post 1) : wpX_isFilter post (nI j) := br_f (nI_pos (by omega)) (br_f (nI_ge (b := 2) h (by decide)) hp)
theorem wg_filXn {post : Int32 → Prop} {x : Int32} (h : x < 0 ∨ nI 2 ≤ x) (hp : post 0) : wpX_isFilter post x := br_c (fun _ => hp) (fun h0 => br_t (h.resolve_left h0) hp)
theorem wg_vl {x : Int32} (h : -99 ≤ x.toInt ∧ x.toInt ≤ 99) : ¬ x < (-99) ∧ ¬ 99 < x := by
  rw [Int32.lt_iff_toInt_lt, Int32.lt_iff_toInt_lt, wg_n99, wg_p99]
  omega
theorem wg_vln {x : Int32} (h : ¬ (-99 ≤ x.toInt ∧ x.toInt ≤ 99)) : x < (-99) ∨ 99 < x := by
  rw [Int32.lt_iff_toInt_lt, Int32.lt_iff_toInt_lt, wg_n99, wg_p99]
  omega
theorem wg_valX {post : Int32 → Prop} {x : Int32} (h : -99 ≤ x.toInt ∧ x.toInt ≤ 99) (hp : post 1) : wpX_isCellValue post x := br_f (wg_vl h).1 (br_f (wg_vl h).2 hp)
theorem wg_valXn {post : Int32 → Prop} {x : Int32} (h : ¬ (-99 ≤ x.toInt ∧ x.toInt ≤ 99)) (hp : post 0) : wpX_isCellValue post x := br_c (fun _ => hp) (fun h0 => br_t ((wg_vln h).resolve_left h0) hp)
theorem wg_cellY {post : Int32 → Prop} {u : SY} {j : Nat} (h : j < 100) (hp : post 1) : wpY_isCell post u (nI j) := br_f (nI_pos (by omega)) (br_f (nI_nlt (a := 99) (by omega) (by decide)) hp)
theorem wg_cellYn {post : Int32 → Prop} {u : SY} {x : Int32} (h : x < 0 ∨ nI 100 ≤ x) (hp : post 0) : wpY_isCell post u x := br_c (fun _ => hp) (fun h0 => br_t (wg_ltp (n := 99) (h.resolve_left h0) (by decide)) hp)
theorem wg_placeY {post : Int32 → Prop} {u : SY} {j : Nat} (h : j < 10) (hp : post 1) : wpY_isPlace post u (nI j) := br_f (nI_pos (by omega)) (br_f (nI_nlt (a := 9) (by omega) (by decide)) hp)
theorem wg_placeYn {post : Int32 → Prop} {u : SY} {x : Int32} (h : x < 0 ∨ nI 10 ≤ x) (hp : post 0) : wpY_isPlace post u x := br_c (fun _ => hp) (fun h0 => br_t (wg_ltp (n := 9) (h.resolve_left h0) (by decide)) hp)
theorem wg_filY {post : Int32 → Prop} {u : SY} {j : Nat} (h : j < 2) (hp : post 1) : wpY_isFilter post u (nI j) := by
  have e : j = 0 ∨ j = 1 := by omega
  rcases e with rfl | rfl
  · exact br_t rfl hp
  · exact br_f wg_10 (br_t rfl hp)
theorem wg_filYn {post : Int32 → Prop} {u : SY} {x : Int32} (h : x < 0 ∨ nI 2 ≤ x) (hp : post 0) : wpY_isFilter post u x := by
  have e0 : ¬ x = 0 := by
    rintro rfl
    rcases h with h | h
    · exact absurd h (by decide)
    · exact absurd h (by decide)
  have e1 : ¬ x = 1 := by
    rintro rfl
    rcases h with h | h
    · exact absurd h (by decide)
    · exact absurd h (by decide)
  exact br_f e0 (br_f e1 hp)
theorem wg_valY {post : Int32 → Prop} {u : SY} {x : Int32} (h : -99 ≤ x.toInt ∧ x.toInt ≤ 99) (hp : post 1) : wpY_isValue post u x := br_f (wg_vl h).1 (br_f (wg_vl h).2 hp)
theorem wg_valYn {post : Int32 → Prop} {u : SY} {x : Int32} (h : ¬ (-99 ≤ x.toInt ∧ x.toInt ≤ 99)) (hp : post 0) : wpY_isValue post u x := br_c (fun _ => hp) (fun h0 => br_t ((wg_vln h).resolve_left h0) hp)
/-! indices -/
theorem wg_lin (m a b : Nat) : nI m * nI a + nI b = nI (m * a + b) := by rw [pk_mul, nI_add]
theorem wg_pred {a : Nat} (h : 1 ≤ a) : nI a - 1 = nI (a - 1) := pk_sub (b := 1) h
theorem wg_in {a : Nat} (h : 1 ≤ a ∧ a ≤ 10) : ∃ j, j < 10 ∧ a - 1 = j ∧ nI a - 1 = nI j := ⟨a - 1, by omega, rfl, wg_pred h.1⟩
theorem wg_out {a : Nat} (h : ¬ (1 ≤ a ∧ a ≤ 10)) (ha : a < 1000) : nI a - 1 < 0 ∨ nI 10 ≤ nI a - 1 := by
  by_cases h0 : a = 0
  · subst h0; exact Or.inl (by decide)
  · right
    rw [wg_pred (by omega)]
    exact nI_le (by omega) (by omega)
theorem wg_rem3 {k : Nat} (h : k < 2 ^ 31) : nI k - nI k / 3 * 3 = nI (k % 3) := pk_rem (d := 3) h (by decide) (by decide)
theorem wg_div3 {k : Nat} (h : k < 2 ^ 31) : nI k / 3 = nI (k / 3) := pk_div (d := 3) h (by decide) (by decide)
theorem wg_rem4 {k : Nat} (h : k < 2 ^ 31) : nI k - nI k / 4 * 4 = nI (k % 4) := pk_rem (d := 4) h (by decide) (by decide)
theorem wg_div4 {k : Nat} (h : k < 2 ^ 31) : nI k / 4 = nI (k / 4) := pk_div (d := 4) h (by decide) (by decide)
theorem wg_rem5 {k : Nat} (h : k < 2 ^ 31) : nI k - nI k / 5 * 5 = nI (k % 5) := pk_rem (d := 5) h (by decide) (by decide)
theorem wg_div5 {k : Nat} (h : k < 2 ^ 31) : nI k / 5 = nI (k / 5) := pk_div (d := 5) h (by decide) (by decide)
theorem wg_rem10 {k : Nat} (h : k < 2 ^ 31) : nI k - nI k / 10 * 10 = nI (k % 10) := pk_rem (d := 10) h (by decide) (by decide)
theorem wg_div10 {k : Nat} (h : k < 2 ^ 31) : nI k / 10 = nI (k / 10) := pk_div (d := 10) h (by decide) (by decide)
theorem wg_sh (x : Nat) {k : Nat} (h : k < 2 ^ 31) : (nI x + (nI k - nI k / 3 * 3)) - 1 = nI (x + k % 3) - 1 := by rw [wg_rem3 h, nI_add]
theorem wg_sv (x : Nat) {k : Nat} (h : k < 2 ^ 31) : (nI x + (nI k / 3)) - 1 = nI (x + k / 3) - 1 := by rw [wg_div3 h, nI_add]
theorem wg_sc (a b : Int32) : a - 1 + b = a + b - 1 := by grind
theorem wg_lh (x : Nat) {k : Nat} (h : k < 2 ^ 31) : (nI x - 1) + (nI k - nI k / 4 * 4) = nI (x + k % 4) - 1 := by rw [wg_rem4 h, wg_sc, nI_add]
theorem wg_lv (x : Nat) {k : Nat} (h : k < 2 ^ 31) : (nI x - 1) + (nI k / 4) = nI (x + k / 4) - 1 := by rw [wg_div4 h, wg_sc, nI_add]
/-! the image at a place -/
theorem wg_imX {post : Int32 → Prop} {c w r s p : Nat → Int32} {x y : Int32} (a b : Nat) (ha : a < 1000) (hb : b < 1000) (ex : x = nI a - 1) (ey : y = nI b - 1) (hp : post (wg_pic c a b)) : wpX_imageAt post (c, w, r, s, p) x y := by
  subst ex ey
  unfold wpX_imageAt
  dsimp only
  by_cases h1 : 1 ≤ a ∧ a ≤ 10
  · by_cases h2 : 1 ≤ b ∧ b ≤ 10
    · have e : wg_pic c a b = c (10 * (b - 1) + (a - 1)) := if_pos ⟨h1.1, h1.2, h2.1, h2.2⟩
      rw [e] at hp
      have hj : 10 * nI (b - 1) + nI (a - 1) = nI (10 * (b - 1) + (a - 1)) := wg_lin 10 _ _
      rw [wg_pred h1.1, wg_pred h2.1]
      refine wg_placeX (by omega) (br_f wg_10 (wg_placeX (by omega) (br_f wg_10 ⟨pk_in (10 * (b - 1) + (a - 1)) 100 (by omega) hj, ?_⟩)))
      rw [pk_cl (10 * (b - 1) + (a - 1)) hj]
      exact hp
    · have e : wg_pic c a b = 0 := if_neg (fun h => h2 h.2.2)
      rw [e] at hp
      rw [wg_pred h1.1]
      exact wg_placeX (by omega) (br_f wg_10 (wg_placeXn (wg_out h2 hb) (br_t rfl hp)))
  · have e : wg_pic c a b = 0 := if_neg (fun h => h1 ⟨h.1, h.2.1⟩)
    rw [e] at hp
    exact wg_placeXn (wg_out h1 ha) (br_t rfl hp)
end
section
/-! the plain sum: X's responseAt, Y's at, Y's respond, X's second -/
theorem wg_raX_l {post : Int32 → Prop} (c w r s p : Nat → Int32) {f x y : Nat} (hf : f < 2) (hx : x < 10) (hy : y < 10) (hp : post (wg_ps c w f x y 9)) : ∀ d k, k + d = 9 → wX_responseAt_6 post (nI f) (nI x) (nI y) c w r s p (d + 1) (wg_ps c w f x y k) (nI k) := by
  intro d
  induction d with
  | zero =>
    intro k hk
    obtain rfl : k = 9 := by omega
    exact br_t (nI_le (b := 9) (Nat.le_refl 9) (by decide)) hp
  | succ d ih =>
    intro k hk
    have hi : 9 * nI f + nI k = nI (9 * f + k) := wg_lin 9 f k
    refine br_f (nI_ge (b := 9) (by omega) (by decide)) ⟨wg_3, wg_3, wg_imX (x + k % 3) (y + k / 3) (by omega) (by omega) (wg_sh x (by omega)) (wg_sv y (by omega)) ⟨pk_in (9 * f + k) 18 (by omega) hi, nm_r ?_ (nm_r (nI_1 k) (ih (k + 1) (by omega)))⟩⟩
    rw [pk_cl (9 * f + k) hi]
    rfl
theorem wg_raX {post : Int32 → Prop} {c w r s p : Nat → Int32} {f x y : Nat} (hf : f < 2) (hx : x < 10) (hy : y < 10) (hp : post (wg_ps c w f x y 9)) : wpX_responseAt post (c, w, r, s, p) (nI f) (nI x) (nI y) := ⟨10, wg_raX_l c w r s p hf hx hy hp 9 0 rfl⟩
theorem wg_atY_l {post : Int32 → Prop} (m g w a : Nat → Int32) (z : Int32) (hz : (z = 0 ∧ a = m) ∨ (¬ z = 0 ∧ a = g)) {f x y : Nat} (hf : f < 2) (hx : x < 10) (hy : y < 10) (hp : post (wg_ps a w f x y 9)) : ∀ d k, k + d = 9 → wY_at_6 post (nI f) (nI x) (nI y) z m g w (d + 1) (wg_ps a w f x y k) (nI k) := by
  intro d
  induction d with
  | zero =>
    intro k hk
    obtain rfl : k = 9 := by omega
    exact br_t (nI_le (b := 9) (Nat.le_refl 9) (by decide)) hp
  | succ d ih =>
    intro k hk
    have hi : 9 * nI f + nI k = nI (9 * f + k) := wg_lin 9 f k
    have hn : wg_ps a w f x y (k + 1) = wg_ps a w f x y k + w (9 * f + k) * wg_pic a (x + k % 3) (y + k / 3) := rfl
    refine br_f (nI_ge (b := 9) (by omega) (by decide)) ⟨wg_3, nm_r (wg_sh x (by omega)) ⟨wg_3, nm_r (wg_sv y (by omega)) ?_⟩⟩
    have ha : x + k % 3 < 1000 := by omega
    have hb : y + k / 3 < 1000 := by omega
    generalize x + k % 3 = A at ha hn ⊢
    generalize y + k / 3 = B at hb hn ⊢
    have nx := ih (k + 1) (by omega)
    by_cases h1 : 1 ≤ A ∧ A ≤ 10
    · by_cases h2 : 1 ≤ B ∧ B ≤ 10
      · have e : wg_pic a A B = a (10 * (B - 1) + (A - 1)) := if_pos ⟨h1.1, h1.2, h2.1, h2.2⟩
        rw [e] at hn
        have hj : 10 * nI (B - 1) + nI (A - 1) = nI (10 * (B - 1) + (A - 1)) := wg_lin 10 _ _
        rw [wg_pred h1.1, wg_pred h2.1]
        refine wg_placeY (by omega) (br_f wg_10 (wg_placeY (by omega) (br_f wg_10 ⟨pk_in (9 * f + k) 18 (by omega) hi, ?_⟩)))
        rcases hz with ⟨z0, rfl⟩ | ⟨z0, rfl⟩
        · refine br_t z0 ⟨pk_in (10 * (B - 1) + (A - 1)) 100 (by omega) hj, nm_r ?_ (nm_r (nI_1 k) nx)⟩
          rw [pk_cl (9 * f + k) hi, pk_cl (10 * (B - 1) + (A - 1)) hj, hn]
        · refine br_f z0 ⟨pk_in (10 * (B - 1) + (A - 1)) 100 (by omega) hj, nm_r ?_ (nm_r (nI_1 k) nx)⟩
          rw [pk_cl (9 * f + k) hi, pk_cl (10 * (B - 1) + (A - 1)) hj, hn]
      · have e : wg_pic a A B = 0 := if_neg (fun h => h2 h.2.2)
        rw [e, Int32.mul_zero, Int32.add_zero] at hn
        rw [hn] at nx
        rw [wg_pred h1.1]
        exact wg_placeY (by omega) (br_f wg_10 (wg_placeYn (wg_out h2 hb) (br_t rfl (nm_r (nI_1 k) nx))))
    · have e : wg_pic a A B = 0 := if_neg (fun h => h1 ⟨h.1, h.2.1⟩)
      rw [e, Int32.mul_zero, Int32.add_zero] at hn
      rw [hn] at nx
      exact wg_placeYn (wg_out h1 ha) (br_t rfl (nm_r (nI_1 k) nx))
theorem wg_atY0 {post : Int32 → Prop} {m g w : Nat → Int32} {f x y : Nat} (hf : f < 2) (hx : x < 10) (hy : y < 10) (hp : post (wg_ps m w f x y 9)) : wpY_at post (m, g, w) (nI f) (nI x) (nI y) 0 := ⟨10, wg_atY_l m g w m 0 (Or.inl ⟨rfl, rfl⟩) hf hx hy hp 9 0 rfl⟩
theorem wg_atY1 {post : Int32 → Prop} {m g w : Nat → Int32} {f x y : Nat} (hf : f < 2) (hx : x < 10) (hy : y < 10) (hp : post (wg_ps g w f x y 9)) : wpY_at post (m, g, w) (nI f) (nI x) (nI y) 1 := ⟨10, wg_atY_l m g w g 1 (Or.inr ⟨wg_10, rfl⟩) hf hx hy hp 9 0 rfl⟩
theorem wg_resY_l {post : SY → Prop} (m w : Nat → Int32) {f : Nat} (hf : f < 2) (hp : ∀ g, (∀ j, j < 100 → g j = wg_R m w f j) → post (m, g, w)) : ∀ d k g, k + d = 100 → (∀ j, j < k → g j = wg_R m w f j) → wY_respond_2 post (nI f) (d + 1) (nI k) m g w := by
  intro d
  induction d with
  | zero =>
    intro k g hk hg
    obtain rfl : k = 100 := by omega
    exact br_t (nI_le (b := 100) (Nat.le_refl 100) (by decide)) (hp g hg)
  | succ d ih =>
    intro k g hk hg
    refine br_f (nI_ge (b := 100) (by omega) (by decide)) ⟨wg_ten, wg_ten, ?_⟩
    rw [wg_rem10 (by omega), wg_div10 (by omega)]
    refine wg_atY0 hf (by omega) (by omega) ⟨vp_in_nI (by omega) (by decide), nm_e (nm_r (nI_1 k) (ih (k + 1) _ (by omega) ?_))⟩
    intro j hj
    rw [nI_clamp (by omega)]
    by_cases e : j = k
    · rw [e, pk_us]; rfl
    · rw [pk_un e]; exact hg j (by omega)
theorem wg_resY {post : SY → Prop} {m g w : Nat → Int32} {f : Nat} (hf : f < 2) (hp : ∀ g, (∀ j, j < 100 → g j = wg_R m w f j) → post (m, g, w)) : wpY_respond post (m, g, w) (nI f) := ⟨101, wg_resY_l m w hf hp 100 0 g rfl (fun _ h => absurd h (Nat.not_lt_zero _))⟩
theorem wg_picC {a b : Nat → Int32} (h : ∀ j, j < 100 → a j = b j) (x y : Nat) : wg_pic a x y = wg_pic b x y := by
  unfold wg_pic
  by_cases z : 1 ≤ x ∧ x ≤ 10 ∧ 1 ≤ y ∧ y ≤ 10
  · rw [if_pos z, if_pos z]; exact h _ (by omega)
  · rw [if_neg z, if_neg z]
theorem wg_psC {a b : Nat → Int32} (h : ∀ j, j < 100 → a j = b j) (w : Nat → Int32) (f x y : Nat) : ∀ k, wg_ps a w f x y k = wg_ps b w f x y k
  | 0 => rfl
  | k + 1 => by rw [wg_ps, wg_ps, wg_psC h w f x y k, wg_picC h]
/-! X's second -/
theorem wg_seX_l {post : Int32 → Prop} (c w r s p : Nat → Int32) {q : Nat} (hq : q < 100) (hp : post (wg_ps (wg_R c w 0) w 1 (q % 10) (q / 10) 9)) : ∀ d k, k + d = 9 → wX_second_14 post (nI q) c w r s p (d + 1) (wg_ps (wg_R c w 0) w 1 (q % 10) (q / 10) k) (nI k) := by
  intro d
  induction d with
  | zero =>
    intro k hk
    obtain rfl : k = 9 := by omega
    exact br_t (nI_le (b := 9) (Nat.le_refl 9) (by decide)) hp
  | succ d ih =>
    intro k hk
    have hi : 9 + nI k = nI (9 + k) := nI_add 9 k
    have hn : wg_ps (wg_R c w 0) w 1 (q % 10) (q / 10) (k + 1) = wg_ps (wg_R c w 0) w 1 (q % 10) (q / 10) k + w (9 + k) * wg_pic (wg_R c w 0) (q % 10 + k % 3) (q / 10 + k / 3) := rfl
    have e1 : (nI q - nI q / 10 * 10 + (nI k - nI k / 3 * 3)) - 1 = nI (q % 10 + k % 3) - 1 := by rw [wg_rem10 (by omega)]; exact wg_sh _ (by omega)
    have e2 : (nI q / 10 + nI k / 3) - 1 = nI (q / 10 + k / 3) - 1 := by rw [wg_div10 (by omega)]; exact wg_sv _ (by omega)
    refine br_f (nI_ge (b := 9) (by omega) (by decide)) ⟨wg_ten, wg_3, nm_r e1 ⟨wg_ten, wg_3, nm_r e2 ?_⟩⟩
    have ha : q % 10 + k % 3 < 1000 := by omega
    have hb : q / 10 + k / 3 < 1000 := by omega
    generalize q % 10 + k % 3 = A at ha hn ⊢
    generalize q / 10 + k / 3 = B at hb hn ⊢
    have nx := ih (k + 1) (by omega)
    by_cases h1 : 1 ≤ A ∧ A ≤ 10
    · by_cases h2 : 1 ≤ B ∧ B ≤ 10
      · have e : wg_pic (wg_R c w 0) A B = wg_ps c w 0 (A - 1) (B - 1) 9 := by
          have e' : wg_pic (wg_R c w 0) A B = wg_R c w 0 (10 * (B - 1) + (A - 1)) := if_pos ⟨h1.1, h1.2, h2.1, h2.2⟩
          have m1 : (10 * (B - 1) + (A - 1)) % 10 = A - 1 := by omega
          have m2 : (10 * (B - 1) + (A - 1)) / 10 = B - 1 := by omega
          rw [e', wg_R, m1, m2]
        rw [e] at hn
        rw [wg_pred h1.1, wg_pred h2.1]
        refine wg_placeX (by omega) (br_f wg_10 (wg_placeX (by omega) (br_f wg_10 (wg_raX (f := 0) (by decide) (by omega) (by omega) ⟨pk_in (9 + k) 18 (by omega) hi, nm_r ?_ (nm_r (nI_1 k) nx)⟩))))
        rw [pk_cl (9 + k) hi, hn]
      · have e : wg_pic (wg_R c w 0) A B = 0 := if_neg (fun h => h2 h.2.2)
        rw [e, Int32.mul_zero, Int32.add_zero] at hn
        rw [hn] at nx
        rw [wg_pred h1.1]
        exact wg_placeX (by omega) (br_f wg_10 (wg_placeXn (wg_out h2 hb) (br_t rfl (nm_r (nI_1 k) nx))))
    · have e : wg_pic (wg_R c w 0) A B = 0 := if_neg (fun h => h1 ⟨h.1, h.2.1⟩)
      rw [e, Int32.mul_zero, Int32.add_zero] at hn
      rw [hn] at nx
      exact wg_placeXn (wg_out h1 ha) (br_t rfl (nm_r (nI_1 k) nx))
end
section
/-! Winograd's lines as functions on arrays, iterated as the loops do -/
def wg_it (F : Nat → (Nat → Int32) → (Nat → Int32)) (p : Nat → Int32) : Nat → (Nat → Int32)
  | 0 => p
  | k + 1 => F k (wg_it F p k)
def wg_sl (a t : Nat) (s : Nat → Int32) : Nat → Int32 := upd (upd (upd (upd s a (s a + s a)) (a + t) ((s a + s (a + t)) + s (a + 2 * t))) (a + 2 * t) ((s a - s (a + t)) + s (a + 2 * t))) (a + 3 * t) (s (a + 2 * t) + s (a + 2 * t))
def wg_mx (a t : Nat) (p : Nat → Int32) : Nat → Int32 := upd (upd (upd (upd p a (p a - p (a + 2 * t))) (a + t) (p (a + t) + p (a + 2 * t))) (a + 2 * t) (p (a + 2 * t) - p (a + t))) (a + 3 * t) (p (a + t) - p (a + 3 * t))
def wg_ga (a t : Nat) (p : Nat → Int32) : Nat → Int32 := upd (upd p a ((p a + p (a + t)) + p (a + 2 * t))) (a + t) ((p (a + t) - p (a + 2 * t)) - p (a + 3 * t))
def wg_S1 (w : Nat → Int32) (f : Nat) (s : Nat → Int32) : Nat → Int32 := wg_it (fun k s => upd s (4 * (k / 3) + k % 3) (w (9 * f + k))) s 9
def wg_S2 (s : Nat → Int32) : Nat → Int32 := wg_it (fun k => wg_sl k 4) s 3
def wg_S3 (s : Nat → Int32) : Nat → Int32 := wg_it (fun k => wg_sl (4 * k) 1) s 4
def wg_LD (c : Nat → Int32) (x y : Nat) (p : Nat → Int32) : Nat → Int32 := wg_it (fun k p => upd p k (wg_pic c (x + k % 4) (y + k / 4))) p 16
def wg_M1 (p : Nat → Int32) : Nat → Int32 := wg_it (fun k => wg_mx k 4) p 4
def wg_M2 (p : Nat → Int32) : Nat → Int32 := wg_it (fun k => wg_mx (4 * k) 1) p 4
def wg_ML (s p : Nat → Int32) : Nat → Int32 := wg_it (fun k p => upd p k (p k * s k)) p 16
def wg_G1 (p : Nat → Int32) : Nat → Int32 := wg_it (fun k => wg_ga k 4) p 4
def wg_G2 (p : Nat → Int32) : Nat → Int32 := wg_it (fun k => wg_ga (4 * k) 1) p 2
theorem wg_itU (v : Nat → Int32) (p : Nat → Int32) : ∀ n j, j < n → wg_it (fun k p => upd p k (v k)) p n j = v j := by
  intro n
  induction n with
  | zero => intro j h; exact absurd h (Nat.not_lt_zero _)
  | succ n ih =>
    intro j h
    show upd (wg_it _ p n) n (v n) j = v j
    by_cases e : j = n
    · rw [e, pk_us]
    · rw [pk_un e]; exact ih j (by omega)
theorem wg_itM (s p : Nat → Int32) : ∀ n, (∀ j, j < n → wg_it (fun k p => upd p k (p k * s k)) p n j = p j * s j) ∧ (∀ j, n ≤ j → wg_it (fun k p => upd p k (p k * s k)) p n j = p j) := by
  intro n
  induction n with
  | zero => exact ⟨fun j h => absurd h (Nat.not_lt_zero _), fun _ _ => rfl⟩
  | succ n ih =>
    refine ⟨fun j h => ?_, fun j h => ?_⟩
    · show upd (wg_it _ p n) n (wg_it _ p n n * s n) j = p j * s j
      by_cases e : j = n
      · rw [e, pk_us, ih.2 n (Nat.le_refl n)]
      · rw [pk_un e]; exact ih.1 j (by omega)
    · show upd (wg_it _ p n) n (wg_it _ p n n * s n) j = p j
      rw [pk_un (by omega)]; exact ih.2 j (by omega)
theorem wg_LDv (c : Nat → Int32) (x y : Nat) (p : Nat → Int32) (j : Nat) (h : j < 16) : wg_LD c x y p j = wg_pic c (x + j % 4) (y + j / 4) := wg_itU (fun k => wg_pic c (x + k % 4) (y + k / 4)) p 16 j h
theorem wg_MLv (s p : Nat → Int32) (j : Nat) (h : j < 16) : wg_ML s p j = p j * s j := (wg_itM s p 16).1 j h
/-! their values -/
theorem wg_S1_0 (w : Nat → Int32) (f : Nat) (p : Nat → Int32) : wg_S1 w f p 0 = w (9 * f + 0) := rfl
theorem wg_S1_1 (w : Nat → Int32) (f : Nat) (p : Nat → Int32) : wg_S1 w f p 1 = w (9 * f + 1) := rfl
theorem wg_S1_2 (w : Nat → Int32) (f : Nat) (p : Nat → Int32) : wg_S1 w f p 2 = w (9 * f + 2) := rfl
theorem wg_S1_4 (w : Nat → Int32) (f : Nat) (p : Nat → Int32) : wg_S1 w f p 4 = w (9 * f + 3) := rfl
theorem wg_S1_5 (w : Nat → Int32) (f : Nat) (p : Nat → Int32) : wg_S1 w f p 5 = w (9 * f + 4) := rfl
theorem wg_S1_6 (w : Nat → Int32) (f : Nat) (p : Nat → Int32) : wg_S1 w f p 6 = w (9 * f + 5) := rfl
theorem wg_S1_8 (w : Nat → Int32) (f : Nat) (p : Nat → Int32) : wg_S1 w f p 8 = w (9 * f + 6) := rfl
theorem wg_S1_9 (w : Nat → Int32) (f : Nat) (p : Nat → Int32) : wg_S1 w f p 9 = w (9 * f + 7) := rfl
theorem wg_S1_10 (w : Nat → Int32) (f : Nat) (p : Nat → Int32) : wg_S1 w f p 10 = w (9 * f + 8) := rfl
theorem wg_S2_0 (p : Nat → Int32) : wg_S2 p 0 = p 0 + p 0 := rfl
theorem wg_S2_1 (p : Nat → Int32) : wg_S2 p 1 = p 1 + p 1 := rfl
theorem wg_S2_2 (p : Nat → Int32) : wg_S2 p 2 = p 2 + p 2 := rfl
theorem wg_S2_4 (p : Nat → Int32) : wg_S2 p 4 = (p 0 + p 4) + p 8 := rfl
theorem wg_S2_5 (p : Nat → Int32) : wg_S2 p 5 = (p 1 + p 5) + p 9 := rfl
theorem wg_S2_6 (p : Nat → Int32) : wg_S2 p 6 = (p 2 + p 6) + p 10 := rfl
theorem wg_S2_8 (p : Nat → Int32) : wg_S2 p 8 = (p 0 - p 4) + p 8 := rfl
theorem wg_S2_9 (p : Nat → Int32) : wg_S2 p 9 = (p 1 - p 5) + p 9 := rfl
theorem wg_S2_10 (p : Nat → Int32) : wg_S2 p 10 = (p 2 - p 6) + p 10 := rfl
theorem wg_S2_12 (p : Nat → Int32) : wg_S2 p 12 = p 8 + p 8 := rfl
theorem wg_S2_13 (p : Nat → Int32) : wg_S2 p 13 = p 9 + p 9 := rfl
theorem wg_S2_14 (p : Nat → Int32) : wg_S2 p 14 = p 10 + p 10 := rfl
theorem wg_S3_0 (p : Nat → Int32) : wg_S3 p 0 = p 0 + p 0 := rfl
theorem wg_S3_1 (p : Nat → Int32) : wg_S3 p 1 = (p 0 + p 1) + p 2 := rfl
theorem wg_S3_2 (p : Nat → Int32) : wg_S3 p 2 = (p 0 - p 1) + p 2 := rfl
theorem wg_S3_3 (p : Nat → Int32) : wg_S3 p 3 = p 2 + p 2 := rfl
theorem wg_S3_4 (p : Nat → Int32) : wg_S3 p 4 = p 4 + p 4 := rfl
theorem wg_S3_5 (p : Nat → Int32) : wg_S3 p 5 = (p 4 + p 5) + p 6 := rfl
theorem wg_S3_6 (p : Nat → Int32) : wg_S3 p 6 = (p 4 - p 5) + p 6 := rfl
theorem wg_S3_7 (p : Nat → Int32) : wg_S3 p 7 = p 6 + p 6 := rfl
theorem wg_S3_8 (p : Nat → Int32) : wg_S3 p 8 = p 8 + p 8 := rfl
theorem wg_S3_9 (p : Nat → Int32) : wg_S3 p 9 = (p 8 + p 9) + p 10 := rfl
theorem wg_S3_10 (p : Nat → Int32) : wg_S3 p 10 = (p 8 - p 9) + p 10 := rfl
theorem wg_S3_11 (p : Nat → Int32) : wg_S3 p 11 = p 10 + p 10 := rfl
theorem wg_S3_12 (p : Nat → Int32) : wg_S3 p 12 = p 12 + p 12 := rfl
theorem wg_S3_13 (p : Nat → Int32) : wg_S3 p 13 = (p 12 + p 13) + p 14 := rfl
theorem wg_S3_14 (p : Nat → Int32) : wg_S3 p 14 = (p 12 - p 13) + p 14 := rfl
theorem wg_S3_15 (p : Nat → Int32) : wg_S3 p 15 = p 14 + p 14 := rfl
theorem wg_M1_0 (p : Nat → Int32) : wg_M1 p 0 = p 0 - p 8 := rfl
theorem wg_M1_1 (p : Nat → Int32) : wg_M1 p 1 = p 1 - p 9 := rfl
theorem wg_M1_2 (p : Nat → Int32) : wg_M1 p 2 = p 2 - p 10 := rfl
theorem wg_M1_3 (p : Nat → Int32) : wg_M1 p 3 = p 3 - p 11 := rfl
theorem wg_M1_4 (p : Nat → Int32) : wg_M1 p 4 = p 4 + p 8 := rfl
theorem wg_M1_5 (p : Nat → Int32) : wg_M1 p 5 = p 5 + p 9 := rfl
theorem wg_M1_6 (p : Nat → Int32) : wg_M1 p 6 = p 6 + p 10 := rfl
theorem wg_M1_7 (p : Nat → Int32) : wg_M1 p 7 = p 7 + p 11 := rfl
theorem wg_M1_8 (p : Nat → Int32) : wg_M1 p 8 = p 8 - p 4 := rfl
theorem wg_M1_9 (p : Nat → Int32) : wg_M1 p 9 = p 9 - p 5 := rfl
theorem wg_M1_10 (p : Nat → Int32) : wg_M1 p 10 = p 10 - p 6 := rfl
theorem wg_M1_11 (p : Nat → Int32) : wg_M1 p 11 = p 11 - p 7 := rfl
theorem wg_M1_12 (p : Nat → Int32) : wg_M1 p 12 = p 4 - p 12 := rfl
theorem wg_M1_13 (p : Nat → Int32) : wg_M1 p 13 = p 5 - p 13 := rfl
theorem wg_M1_14 (p : Nat → Int32) : wg_M1 p 14 = p 6 - p 14 := rfl
theorem wg_M1_15 (p : Nat → Int32) : wg_M1 p 15 = p 7 - p 15 := rfl
theorem wg_M2_0 (p : Nat → Int32) : wg_M2 p 0 = p 0 - p 2 := rfl
theorem wg_M2_1 (p : Nat → Int32) : wg_M2 p 1 = p 1 + p 2 := rfl
theorem wg_M2_2 (p : Nat → Int32) : wg_M2 p 2 = p 2 - p 1 := rfl
theorem wg_M2_3 (p : Nat → Int32) : wg_M2 p 3 = p 1 - p 3 := rfl
theorem wg_M2_4 (p : Nat → Int32) : wg_M2 p 4 = p 4 - p 6 := rfl
theorem wg_M2_5 (p : Nat → Int32) : wg_M2 p 5 = p 5 + p 6 := rfl
theorem wg_M2_6 (p : Nat → Int32) : wg_M2 p 6 = p 6 - p 5 := rfl
theorem wg_M2_7 (p : Nat → Int32) : wg_M2 p 7 = p 5 - p 7 := rfl
theorem wg_M2_8 (p : Nat → Int32) : wg_M2 p 8 = p 8 - p 10 := rfl
theorem wg_M2_9 (p : Nat → Int32) : wg_M2 p 9 = p 9 + p 10 := rfl
theorem wg_M2_10 (p : Nat → Int32) : wg_M2 p 10 = p 10 - p 9 := rfl
theorem wg_M2_11 (p : Nat → Int32) : wg_M2 p 11 = p 9 - p 11 := rfl
theorem wg_M2_12 (p : Nat → Int32) : wg_M2 p 12 = p 12 - p 14 := rfl
theorem wg_M2_13 (p : Nat → Int32) : wg_M2 p 13 = p 13 + p 14 := rfl
theorem wg_M2_14 (p : Nat → Int32) : wg_M2 p 14 = p 14 - p 13 := rfl
theorem wg_M2_15 (p : Nat → Int32) : wg_M2 p 15 = p 13 - p 15 := rfl
theorem wg_G1_0 (p : Nat → Int32) : wg_G1 p 0 = (p 0 + p 4) + p 8 := rfl
theorem wg_G1_1 (p : Nat → Int32) : wg_G1 p 1 = (p 1 + p 5) + p 9 := rfl
theorem wg_G1_2 (p : Nat → Int32) : wg_G1 p 2 = (p 2 + p 6) + p 10 := rfl
theorem wg_G1_3 (p : Nat → Int32) : wg_G1 p 3 = (p 3 + p 7) + p 11 := rfl
theorem wg_G1_4 (p : Nat → Int32) : wg_G1 p 4 = (p 4 - p 8) - p 12 := rfl
theorem wg_G1_5 (p : Nat → Int32) : wg_G1 p 5 = (p 5 - p 9) - p 13 := rfl
theorem wg_G1_6 (p : Nat → Int32) : wg_G1 p 6 = (p 6 - p 10) - p 14 := rfl
theorem wg_G1_7 (p : Nat → Int32) : wg_G1 p 7 = (p 7 - p 11) - p 15 := rfl
theorem wg_G2_0 (p : Nat → Int32) : wg_G2 p 0 = (p 0 + p 1) + p 2 := rfl
theorem wg_G2_1 (p : Nat → Int32) : wg_G2 p 1 = (p 1 - p 2) - p 3 := rfl
theorem wg_G2_4 (p : Nat → Int32) : wg_G2 p 4 = (p 4 + p 5) + p 6 := rfl
theorem wg_G2_5 (p : Nat → Int32) : wg_G2 p 5 = (p 5 - p 6) - p 7 := rfl
theorem wg_ML_0 (s p : Nat → Int32) : wg_ML s p 0 = p 0 * s 0 := wg_MLv s p 0 (by decide)
theorem wg_ML_1 (s p : Nat → Int32) : wg_ML s p 1 = p 1 * s 1 := wg_MLv s p 1 (by decide)
theorem wg_ML_2 (s p : Nat → Int32) : wg_ML s p 2 = p 2 * s 2 := wg_MLv s p 2 (by decide)
theorem wg_ML_3 (s p : Nat → Int32) : wg_ML s p 3 = p 3 * s 3 := wg_MLv s p 3 (by decide)
theorem wg_ML_4 (s p : Nat → Int32) : wg_ML s p 4 = p 4 * s 4 := wg_MLv s p 4 (by decide)
theorem wg_ML_5 (s p : Nat → Int32) : wg_ML s p 5 = p 5 * s 5 := wg_MLv s p 5 (by decide)
theorem wg_ML_6 (s p : Nat → Int32) : wg_ML s p 6 = p 6 * s 6 := wg_MLv s p 6 (by decide)
theorem wg_ML_7 (s p : Nat → Int32) : wg_ML s p 7 = p 7 * s 7 := wg_MLv s p 7 (by decide)
theorem wg_ML_8 (s p : Nat → Int32) : wg_ML s p 8 = p 8 * s 8 := wg_MLv s p 8 (by decide)
theorem wg_ML_9 (s p : Nat → Int32) : wg_ML s p 9 = p 9 * s 9 := wg_MLv s p 9 (by decide)
theorem wg_ML_10 (s p : Nat → Int32) : wg_ML s p 10 = p 10 * s 10 := wg_MLv s p 10 (by decide)
theorem wg_ML_11 (s p : Nat → Int32) : wg_ML s p 11 = p 11 * s 11 := wg_MLv s p 11 (by decide)
theorem wg_ML_12 (s p : Nat → Int32) : wg_ML s p 12 = p 12 * s 12 := wg_MLv s p 12 (by decide)
theorem wg_ML_13 (s p : Nat → Int32) : wg_ML s p 13 = p 13 * s 13 := wg_MLv s p 13 (by decide)
theorem wg_ML_14 (s p : Nat → Int32) : wg_ML s p 14 = p 14 * s 14 := wg_MLv s p 14 (by decide)
theorem wg_ML_15 (s p : Nat → Int32) : wg_ML s p 15 = p 15 * s 15 := wg_MLv s p 15 (by decide)
def wg_SV (s g : Nat → Int32) : Prop := s 0 = (g 0 + g 0) + (g 0 + g 0) ∧ s 1 = ((g 0 + g 0) + (g 1 + g 1)) + (g 2 + g 2) ∧ s 2 = ((g 0 + g 0) - (g 1 + g 1)) + (g 2 + g 2) ∧ s 3 = (g 2 + g 2) + (g 2 + g 2) ∧ s 4 = ((g 0 + g 3) + g 6) + ((g 0 + g 3) + g 6) ∧ s 5 = (((g 0 + g 3) + g 6) + ((g 1 + g 4) + g 7)) + ((g 2 + g 5) + g 8) ∧ s 6 = (((g 0 + g 3) + g 6) - ((g 1 + g 4) + g 7)) + ((g 2 + g 5) + g 8) ∧ s 7 = ((g 2 + g 5) + g 8) + ((g 2 + g 5) + g 8) ∧ s 8 = ((g 0 - g 3) + g 6) + ((g 0 - g 3) + g 6) ∧ s 9 = (((g 0 - g 3) + g 6) + ((g 1 - g 4) + g 7)) + ((g 2 - g 5) + g 8) ∧ s 10 = (((g 0 - g 3) + g 6) - ((g 1 - g 4) + g 7)) + ((g 2 - g 5) + g 8) ∧ s 11 = ((g 2 - g 5) + g 8) + ((g 2 - g 5) + g 8) ∧ s 12 = (g 6 + g 6) + (g 6 + g 6) ∧ s 13 = ((g 6 + g 6) + (g 7 + g 7)) + (g 8 + g 8) ∧ s 14 = ((g 6 + g 6) - (g 7 + g 7)) + (g 8 + g 8) ∧ s 15 = (g 8 + g 8) + (g 8 + g 8)
theorem wg_SVx (w : Nat → Int32) (f : Nat) (s : Nat → Int32) : wg_SV (wg_S3 (wg_S2 (wg_S1 w f s))) (fun k => w (9 * f + k)) := by
  refine ⟨?_, ?_, ?_, ?_, ?_, ?_, ?_, ?_, ?_, ?_, ?_, ?_, ?_, ?_, ?_, ?_⟩
  · rw [wg_S3_0, wg_S2_0]; rfl
  · rw [wg_S3_1, wg_S2_0, wg_S2_1, wg_S2_2]; rfl
  · rw [wg_S3_2, wg_S2_0, wg_S2_1, wg_S2_2]; rfl
  · rw [wg_S3_3, wg_S2_2]; rfl
  · rw [wg_S3_4, wg_S2_4]; rfl
  · rw [wg_S3_5, wg_S2_4, wg_S2_5, wg_S2_6]; rfl
  · rw [wg_S3_6, wg_S2_4, wg_S2_5, wg_S2_6]; rfl
  · rw [wg_S3_7, wg_S2_6]; rfl
  · rw [wg_S3_8, wg_S2_8]; rfl
  · rw [wg_S3_9, wg_S2_8, wg_S2_9, wg_S2_10]; rfl
  · rw [wg_S3_10, wg_S2_8, wg_S2_9, wg_S2_10]; rfl
  · rw [wg_S3_11, wg_S2_10]; rfl
  · rw [wg_S3_12, wg_S2_12]; rfl
  · rw [wg_S3_13, wg_S2_12, wg_S2_13, wg_S2_14]; rfl
  · rw [wg_S3_14, wg_S2_12, wg_S2_13, wg_S2_14]; rfl
  · rw [wg_S3_15, wg_S2_14]; rfl
/-! the sums -/
theorem wg_l0 (a b c x y z : Int32) : ((a - c) * (x + x) + (b + c) * ((x + y) + z)) + (c - b) * ((x - y) + z) = 2 * ((a * x + b * y) + c * z) := by grind
theorem wg_l1 (b c d x y z : Int32) : ((b + c) * ((x + y) + z) - (c - b) * ((x - y) + z)) - (b - d) * (z + z) = 2 * ((b * x + c * y) + d * z) := by grind
theorem wg_rpp (a0 a1 a2 b0 b1 b2 c0 c1 c2 : Int32) : (((a0 + b0) + c0) + ((a1 + b1) + c1)) + ((a2 + b2) + c2) = (((a0 + a1) + a2) + ((b0 + b1) + b2)) + ((c0 + c1) + c2) := by grind
theorem wg_rpm (a0 a1 a2 b0 b1 b2 c0 c1 c2 : Int32) : (((a0 + b0) + c0) - ((a1 + b1) + c1)) - ((a2 + b2) + c2) = (((a0 - a1) - a2) + ((b0 - b1) - b2)) + ((c0 - c1) - c2) := by grind
theorem wg_rmp (a0 a1 a2 b0 b1 b2 c0 c1 c2 : Int32) : (((a0 - b0) - c0) + ((a1 - b1) - c1)) + ((a2 - b2) - c2) = (((a0 + a1) + a2) - ((b0 + b1) + b2)) - ((c0 + c1) + c2) := by grind
theorem wg_rmm (a0 a1 a2 b0 b1 b2 c0 c1 c2 : Int32) : (((a0 - b0) - c0) - ((a1 - b1) - c1)) - ((a2 - b2) - c2) = (((a0 - a1) - a2) - ((b0 - b1) - b2)) - ((c0 - c1) - c2) := by grind
theorem wg_tp (a0 a1 a2 b0 b1 b2 c0 c1 c2 : Int32) : (2 * ((a0 + a1) + a2) + 2 * ((b0 + b1) + b2)) + 2 * ((c0 + c1) + c2) = 2 * ((((a0 + b0) + c0) + ((a1 + b1) + c1)) + ((a2 + b2) + c2)) := by grind
theorem wg_tm (a0 a1 a2 b0 b1 b2 c0 c1 c2 : Int32) : (2 * ((a0 + a1) + a2) - 2 * ((b0 + b1) + b2)) - 2 * ((c0 + c1) + c2) = 2 * ((((a0 - b0) - c0) + ((a1 - b1) - c1)) + ((a2 - b2) - c2)) := by grind
theorem wg_fin (d0 d1 d2 d3 d4 d5 d6 d7 d8 g0 g1 g2 g3 g4 g5 g6 g7 g8 : Int32) : 2 * ((2 * ((d0 * g0 + d3 * g3) + d6 * g6) + 2 * ((d1 * g1 + d4 * g4) + d7 * g7)) + 2 * ((d2 * g2 + d5 * g5) + d8 * g8)) = 4 * (0 + g0 * d0 + g1 * d1 + g2 * d2 + g3 * d3 + g4 * d4 + g5 * d5 + g6 * d6 + g7 * d7 + g8 * d8) := by grind
theorem wg_alg00 (d0 d1 d2 d3 d4 d5 d6 d7 d8 d9 d10 d11 d12 d13 d14 d15 g0 g1 g2 g3 g4 g5 g6 g7 g8 : Int32) : (((((d0 - d8) - (d2 - d10)) * ((g0 + g0) + (g0 + g0)) + ((d4 + d8) - (d6 + d10)) * (((g0 + g3) + g6) + ((g0 + g3) + g6))) + ((d8 - d4) - (d10 - d6)) * (((g0 - g3) + g6) + ((g0 - g3) + g6))) + ((((d1 - d9) + (d2 - d10)) * (((g0 + g0) + (g1 + g1)) + (g2 + g2)) + ((d5 + d9) + (d6 + d10)) * ((((g0 + g3) + g6) + ((g1 + g4) + g7)) + ((g2 + g5) + g8))) + ((d9 - d5) + (d10 - d6)) * ((((g0 - g3) + g6) + ((g1 - g4) + g7)) + ((g2 - g5) + g8)))) + ((((d2 - d10) - (d1 - d9)) * (((g0 + g0) - (g1 + g1)) + (g2 + g2)) + ((d6 + d10) - (d5 + d9)) * ((((g0 + g3) + g6) - ((g1 + g4) + g7)) + ((g2 + g5) + g8))) + ((d10 - d6) - (d9 - d5)) * ((((g0 - g3) + g6) - ((g1 - g4) + g7)) + ((g2 - g5) + g8))) = 4 * (0 + g0 * d0 + g1 * d1 + g2 * d2 + g3 * d4 + g4 * d5 + g5 * d6 + g6 * d8 + g7 * d9 + g8 * d10) := by
  refine (wg_rpp _ _ _ _ _ _ _ _ _).trans ?_
  rw [wg_l0, wg_l0, wg_l0, wg_tp, wg_l0, wg_l0, wg_l0, wg_fin]
theorem wg_win0 {s g : Nat → Int32} (p : Nat → Int32) (h : wg_SV s g) : wg_G2 (wg_G1 (wg_ML s (wg_M2 (wg_M1 p)))) 0 = 4 * (0 + g 0 * p 0 + g 1 * p 1 + g 2 * p 2 + g 3 * p 4 + g 4 * p 5 + g 5 * p 6 + g 6 * p 8 + g 7 * p 9 + g 8 * p 10) := by
  obtain ⟨h0, h1, h2, h3, h4, h5, h6, h7, h8, h9, h10, h11, h12, h13, h14, h15⟩ := h
  simp only [wg_G2_0, wg_G1_0, wg_G1_1, wg_G1_2, wg_ML_0, wg_ML_1, wg_ML_2, wg_ML_4, wg_ML_5, wg_ML_6, wg_ML_8, wg_ML_9, wg_ML_10, wg_M2_0, wg_M2_1, wg_M2_2, wg_M2_4, wg_M2_5, wg_M2_6, wg_M2_8, wg_M2_9, wg_M2_10, wg_M1_0, wg_M1_1, wg_M1_2, wg_M1_4, wg_M1_5, wg_M1_6, wg_M1_8, wg_M1_9, wg_M1_10, h0, h1, h2, h4, h5, h6, h8, h9, h10]
  exact wg_alg00 (p 0) (p 1) (p 2) (p 3) (p 4) (p 5) (p 6) (p 7) (p 8) (p 9) (p 10) (p 11) (p 12) (p 13) (p 14) (p 15) (g 0) (g 1) (g 2) (g 3) (g 4) (g 5) (g 6) (g 7) (g 8)
theorem wg_alg01 (d0 d1 d2 d3 d4 d5 d6 d7 d8 d9 d10 d11 d12 d13 d14 d15 g0 g1 g2 g3 g4 g5 g6 g7 g8 : Int32) : (((((d1 - d9) + (d2 - d10)) * (((g0 + g0) + (g1 + g1)) + (g2 + g2)) + ((d5 + d9) + (d6 + d10)) * ((((g0 + g3) + g6) + ((g1 + g4) + g7)) + ((g2 + g5) + g8))) + ((d9 - d5) + (d10 - d6)) * ((((g0 - g3) + g6) + ((g1 - g4) + g7)) + ((g2 - g5) + g8))) - ((((d2 - d10) - (d1 - d9)) * (((g0 + g0) - (g1 + g1)) + (g2 + g2)) + ((d6 + d10) - (d5 + d9)) * ((((g0 + g3) + g6) - ((g1 + g4) + g7)) + ((g2 + g5) + g8))) + ((d10 - d6) - (d9 - d5)) * ((((g0 - g3) + g6) - ((g1 - g4) + g7)) + ((g2 - g5) + g8)))) - ((((d1 - d9) - (d3 - d11)) * ((g2 + g2) + (g2 + g2)) + ((d5 + d9) - (d7 + d11)) * (((g2 + g5) + g8) + ((g2 + g5) + g8))) + ((d9 - d5) - (d11 - d7)) * (((g2 - g5) + g8) + ((g2 - g5) + g8))) = 4 * (0 + g0 * d1 + g1 * d2 + g2 * d3 + g3 * d5 + g4 * d6 + g5 * d7 + g6 * d9 + g7 * d10 + g8 * d11) := by
  refine (wg_rpm _ _ _ _ _ _ _ _ _).trans ?_
  rw [wg_l1, wg_l1, wg_l1, wg_tp, wg_l0, wg_l0, wg_l0, wg_fin]
theorem wg_win1 {s g : Nat → Int32} (p : Nat → Int32) (h : wg_SV s g) : wg_G2 (wg_G1 (wg_ML s (wg_M2 (wg_M1 p)))) 1 = 4 * (0 + g 0 * p 1 + g 1 * p 2 + g 2 * p 3 + g 3 * p 5 + g 4 * p 6 + g 5 * p 7 + g 6 * p 9 + g 7 * p 10 + g 8 * p 11) := by
  obtain ⟨h0, h1, h2, h3, h4, h5, h6, h7, h8, h9, h10, h11, h12, h13, h14, h15⟩ := h
  simp only [wg_G2_1, wg_G1_1, wg_G1_2, wg_G1_3, wg_ML_1, wg_ML_2, wg_ML_3, wg_ML_5, wg_ML_6, wg_ML_7, wg_ML_9, wg_ML_10, wg_ML_11, wg_M2_1, wg_M2_2, wg_M2_3, wg_M2_5, wg_M2_6, wg_M2_7, wg_M2_9, wg_M2_10, wg_M2_11, wg_M1_1, wg_M1_2, wg_M1_3, wg_M1_5, wg_M1_6, wg_M1_7, wg_M1_9, wg_M1_10, wg_M1_11, h1, h2, h3, h5, h6, h7, h9, h10, h11]
  exact wg_alg01 (p 0) (p 1) (p 2) (p 3) (p 4) (p 5) (p 6) (p 7) (p 8) (p 9) (p 10) (p 11) (p 12) (p 13) (p 14) (p 15) (g 0) (g 1) (g 2) (g 3) (g 4) (g 5) (g 6) (g 7) (g 8)
theorem wg_alg10 (d0 d1 d2 d3 d4 d5 d6 d7 d8 d9 d10 d11 d12 d13 d14 d15 g0 g1 g2 g3 g4 g5 g6 g7 g8 : Int32) : (((((d4 + d8) - (d6 + d10)) * (((g0 + g3) + g6) + ((g0 + g3) + g6)) - ((d8 - d4) - (d10 - d6)) * (((g0 - g3) + g6) + ((g0 - g3) + g6))) - ((d4 - d12) - (d6 - d14)) * ((g6 + g6) + (g6 + g6))) + ((((d5 + d9) + (d6 + d10)) * ((((g0 + g3) + g6) + ((g1 + g4) + g7)) + ((g2 + g5) + g8)) - ((d9 - d5) + (d10 - d6)) * ((((g0 - g3) + g6) + ((g1 - g4) + g7)) + ((g2 - g5) + g8))) - ((d5 - d13) + (d6 - d14)) * (((g6 + g6) + (g7 + g7)) + (g8 + g8)))) + ((((d6 + d10) - (d5 + d9)) * ((((g0 + g3) + g6) - ((g1 + g4) + g7)) + ((g2 + g5) + g8)) - ((d10 - d6) - (d9 - d5)) * ((((g0 - g3) + g6) - ((g1 - g4) + g7)) + ((g2 - g5) + g8))) - ((d6 - d14) - (d5 - d13)) * (((g6 + g6) - (g7 + g7)) + (g8 + g8))) = 4 * (0 + g0 * d4 + g1 * d5 + g2 * d6 + g3 * d8 + g4 * d9 + g5 * d10 + g6 * d12 + g7 * d13 + g8 * d14) := by
  refine (wg_rmp _ _ _ _ _ _ _ _ _).trans ?_
  rw [wg_l0, wg_l0, wg_l0, wg_tm, wg_l1, wg_l1, wg_l1, wg_fin]
theorem wg_win4 {s g : Nat → Int32} (p : Nat → Int32) (h : wg_SV s g) : wg_G2 (wg_G1 (wg_ML s (wg_M2 (wg_M1 p)))) 4 = 4 * (0 + g 0 * p 4 + g 1 * p 5 + g 2 * p 6 + g 3 * p 8 + g 4 * p 9 + g 5 * p 10 + g 6 * p 12 + g 7 * p 13 + g 8 * p 14) := by
  obtain ⟨h0, h1, h2, h3, h4, h5, h6, h7, h8, h9, h10, h11, h12, h13, h14, h15⟩ := h
  simp only [wg_G2_4, wg_G1_4, wg_G1_5, wg_G1_6, wg_ML_4, wg_ML_5, wg_ML_6, wg_ML_8, wg_ML_9, wg_ML_10, wg_ML_12, wg_ML_13, wg_ML_14, wg_M2_4, wg_M2_5, wg_M2_6, wg_M2_8, wg_M2_9, wg_M2_10, wg_M2_12, wg_M2_13, wg_M2_14, wg_M1_4, wg_M1_5, wg_M1_6, wg_M1_8, wg_M1_9, wg_M1_10, wg_M1_12, wg_M1_13, wg_M1_14, h4, h5, h6, h8, h9, h10, h12, h13, h14]
  exact wg_alg10 (p 0) (p 1) (p 2) (p 3) (p 4) (p 5) (p 6) (p 7) (p 8) (p 9) (p 10) (p 11) (p 12) (p 13) (p 14) (p 15) (g 0) (g 1) (g 2) (g 3) (g 4) (g 5) (g 6) (g 7) (g 8)
theorem wg_alg11 (d0 d1 d2 d3 d4 d5 d6 d7 d8 d9 d10 d11 d12 d13 d14 d15 g0 g1 g2 g3 g4 g5 g6 g7 g8 : Int32) : (((((d5 + d9) + (d6 + d10)) * ((((g0 + g3) + g6) + ((g1 + g4) + g7)) + ((g2 + g5) + g8)) - ((d9 - d5) + (d10 - d6)) * ((((g0 - g3) + g6) + ((g1 - g4) + g7)) + ((g2 - g5) + g8))) - ((d5 - d13) + (d6 - d14)) * (((g6 + g6) + (g7 + g7)) + (g8 + g8))) - ((((d6 + d10) - (d5 + d9)) * ((((g0 + g3) + g6) - ((g1 + g4) + g7)) + ((g2 + g5) + g8)) - ((d10 - d6) - (d9 - d5)) * ((((g0 - g3) + g6) - ((g1 - g4) + g7)) + ((g2 - g5) + g8))) - ((d6 - d14) - (d5 - d13)) * (((g6 + g6) - (g7 + g7)) + (g8 + g8)))) - ((((d5 + d9) - (d7 + d11)) * (((g2 + g5) + g8) + ((g2 + g5) + g8)) - ((d9 - d5) - (d11 - d7)) * (((g2 - g5) + g8) + ((g2 - g5) + g8))) - ((d5 - d13) - (d7 - d15)) * ((g8 + g8) + (g8 + g8))) = 4 * (0 + g0 * d5 + g1 * d6 + g2 * d7 + g3 * d9 + g4 * d10 + g5 * d11 + g6 * d13 + g7 * d14 + g8 * d15) := by
  refine (wg_rmm _ _ _ _ _ _ _ _ _).trans ?_
  rw [wg_l1, wg_l1, wg_l1, wg_tm, wg_l1, wg_l1, wg_l1, wg_fin]
theorem wg_win5 {s g : Nat → Int32} (p : Nat → Int32) (h : wg_SV s g) : wg_G2 (wg_G1 (wg_ML s (wg_M2 (wg_M1 p)))) 5 = 4 * (0 + g 0 * p 5 + g 1 * p 6 + g 2 * p 7 + g 3 * p 9 + g 4 * p 10 + g 5 * p 11 + g 6 * p 13 + g 7 * p 14 + g 8 * p 15) := by
  obtain ⟨h0, h1, h2, h3, h4, h5, h6, h7, h8, h9, h10, h11, h12, h13, h14, h15⟩ := h
  simp only [wg_G2_5, wg_G1_5, wg_G1_6, wg_G1_7, wg_ML_5, wg_ML_6, wg_ML_7, wg_ML_9, wg_ML_10, wg_ML_11, wg_ML_13, wg_ML_14, wg_ML_15, wg_M2_5, wg_M2_6, wg_M2_7, wg_M2_9, wg_M2_10, wg_M2_11, wg_M2_13, wg_M2_14, wg_M2_15, wg_M1_5, wg_M1_6, wg_M1_7, wg_M1_9, wg_M1_10, wg_M1_11, wg_M1_13, wg_M1_14, wg_M1_15, h5, h6, h7, h9, h10, h11, h13, h14, h15]
  exact wg_alg11 (p 0) (p 1) (p 2) (p 3) (p 4) (p 5) (p 6) (p 7) (p 8) (p 9) (p 10) (p 11) (p 12) (p 13) (p 14) (p 15) (g 0) (g 1) (g 2) (g 3) (g 4) (g 5) (g 6) (g 7) (g 8)
end
section
/-! bounds: the response is small, so that a quarter of its fourfold is itself -/
theorem wg_picB {c : Nat → Int32} (h : wg_B 99 c) (a b : Nat) : -99 ≤ (wg_pic c a b).toInt ∧ (wg_pic c a b).toInt ≤ 99 := by
  unfold wg_pic
  split
  · exact h _
  · decide
theorem wg_prodB {x y : Int32} (hx : -9 ≤ x.toInt ∧ x.toInt ≤ 9) (hy : -99 ≤ y.toInt ∧ y.toInt ≤ 99) : -891 ≤ (x * y).toInt ∧ (x * y).toInt ≤ 891 := by
  have h : (x.toInt * y.toInt).natAbs ≤ 9 * 99 := by
    rw [Int.natAbs_mul]
    exact Nat.mul_le_mul (by omega) (by omega)
  rw [Int32.toInt_mul, Int.bmod_eq_of_le (by omega) (by omega)]
  omega
theorem wg_psB {c w : Nat → Int32} (hc : wg_B 99 c) (hw : wg_B 9 w) (f x y : Nat) : ∀ k : Nat, k ≤ 9 → -(891 * (k : Int)) ≤ (wg_ps c w f x y k).toInt ∧ (wg_ps c w f x y k).toInt ≤ 891 * (k : Int) := by
  intro k
  induction k with
  | zero =>
    intro _
    show -(891 * ((0 : Nat) : Int)) ≤ (0 : Int32).toInt ∧ (0 : Int32).toInt ≤ 891 * ((0 : Nat) : Int)
    decide
  | succ k ih =>
    intro hk
    have h1 := ih (by omega)
    have h2 := wg_prodB (hw (9 * f + k)) (wg_picB hc (x + k % 3) (y + k / 3))
    rw [wg_ps, Int32.toInt_add, Int.bmod_eq_of_le (by omega) (by omega)]
    omega
theorem wg_q4 {x : Int32} (h : -8019 ≤ x.toInt ∧ x.toInt ≤ 8019) : (4 * x) / 4 = x := by
  apply Int32.toInt_inj.mp
  have e4 : (4 : Int32).toInt = 4 := by decide
  have e : (4 * x).toInt = 4 * x.toInt := by
    rw [Int32.toInt_mul, e4, Int.bmod_eq_of_le (by omega) (by omega)]
  rw [Int32.toInt_div, e, e4, Int.mul_tdiv_cancel_left _ (by decide), Int.bmod_eq_of_le (by omega) (by omega)]
/-! X's lines -/
theorem wg_slX {post : SX → Prop} {c w r s p : Nat → Int32} {x y : Int32} (a t : Nat) (h : a + 3 * t < 16) (ex : x = nI a) (ey : y = nI t) (hp : post (c, w, r, wg_sl a t s, p)) : wpX_spreadLine post (c, w, r, s, p) x y := by
  subst ex ey
  have i1 : nI a + nI t = nI (a + t) := nI_add a t
  have i2 : nI a + 2 * nI t = nI (a + 2 * t) := by show nI a + nI 2 * nI t = _; rw [pk_mul, nI_add]
  have i3 : nI a + 3 * nI t = nI (a + 3 * t) := by show nI a + nI 3 * nI t = _; rw [pk_mul, nI_add]
  have c0 : (nI a).toNatClampNeg = a := nI_clamp (by omega)
  have c1 : (nI a + nI t).toNatClampNeg = a + t := pk_cl _ i1
  have c2 : (nI a + 2 * nI t).toNatClampNeg = a + 2 * t := pk_cl _ i2
  have c3 : (nI a + 3 * nI t).toNatClampNeg = a + 3 * t := pk_cl _ i3
  have h0 : vp_in (nI a) 16 := vp_in_nI (by omega) (by decide)
  have h1 : vp_in (nI a + nI t) 16 := pk_in (a + t) 16 (by omega) i1
  have h2 : vp_in (nI a + 2 * nI t) 16 := pk_in (a + 2 * t) 16 (by omega) i2
  have h3 : vp_in (nI a + 3 * nI t) 16 := pk_in (a + 3 * t) 16 (by omega) i3
  refine ⟨h0, nm_e ⟨h1, nm_e ⟨h2, nm_e ⟨h0, nm_e ⟨h1, nm_e ⟨h2, nm_e ⟨h3, nm_e ?_⟩⟩⟩⟩⟩⟩⟩
  rw [c0, c1, c2, c3]
  exact hp
theorem wg_mxX {post : SX → Prop} {c w r s p : Nat → Int32} {x y : Int32} (a t : Nat) (h : a + 3 * t < 16) (ex : x = nI a) (ey : y = nI t) (hp : post (c, w, r, s, wg_mx a t p)) : wpX_mixLine post (c, w, r, s, p) x y := by
  subst ex ey
  have i1 : nI a + nI t = nI (a + t) := nI_add a t
  have i2 : nI a + 2 * nI t = nI (a + 2 * t) := by show nI a + nI 2 * nI t = _; rw [pk_mul, nI_add]
  have i3 : nI a + 3 * nI t = nI (a + 3 * t) := by show nI a + nI 3 * nI t = _; rw [pk_mul, nI_add]
  have c0 : (nI a).toNatClampNeg = a := nI_clamp (by omega)
  have c1 : (nI a + nI t).toNatClampNeg = a + t := pk_cl _ i1
  have c2 : (nI a + 2 * nI t).toNatClampNeg = a + 2 * t := pk_cl _ i2
  have c3 : (nI a + 3 * nI t).toNatClampNeg = a + 3 * t := pk_cl _ i3
  have h0 : vp_in (nI a) 16 := vp_in_nI (by omega) (by decide)
  have h1 : vp_in (nI a + nI t) 16 := pk_in (a + t) 16 (by omega) i1
  have h2 : vp_in (nI a + 2 * nI t) 16 := pk_in (a + 2 * t) 16 (by omega) i2
  have h3 : vp_in (nI a + 3 * nI t) 16 := pk_in (a + 3 * t) 16 (by omega) i3
  refine ⟨h0, nm_e ⟨h1, nm_e ⟨h2, nm_e ⟨h3, nm_e ⟨h0, nm_e ⟨h1, nm_e ⟨h2, nm_e ⟨h3, nm_e ?_⟩⟩⟩⟩⟩⟩⟩⟩
  rw [c0, c1, c2, c3]
  exact hp
theorem wg_gaX {post : SX → Prop} {c w r s p : Nat → Int32} {x y : Int32} (a t : Nat) (h : a + 3 * t < 16) (ex : x = nI a) (ey : y = nI t) (hp : post (c, w, r, s, wg_ga a t p)) : wpX_gatherLine post (c, w, r, s, p) x y := by
  subst ex ey
  have i1 : nI a + nI t = nI (a + t) := nI_add a t
  have i2 : nI a + 2 * nI t = nI (a + 2 * t) := by show nI a + nI 2 * nI t = _; rw [pk_mul, nI_add]
  have i3 : nI a + 3 * nI t = nI (a + 3 * t) := by show nI a + nI 3 * nI t = _; rw [pk_mul, nI_add]
  have c0 : (nI a).toNatClampNeg = a := nI_clamp (by omega)
  have c1 : (nI a + nI t).toNatClampNeg = a + t := pk_cl _ i1
  have c2 : (nI a + 2 * nI t).toNatClampNeg = a + 2 * t := pk_cl _ i2
  have c3 : (nI a + 3 * nI t).toNatClampNeg = a + 3 * t := pk_cl _ i3
  have h0 : vp_in (nI a) 16 := vp_in_nI (by omega) (by decide)
  have h1 : vp_in (nI a + nI t) 16 := pk_in (a + t) 16 (by omega) i1
  have h2 : vp_in (nI a + 2 * nI t) 16 := pk_in (a + 2 * t) 16 (by omega) i2
  have h3 : vp_in (nI a + 3 * nI t) 16 := pk_in (a + 3 * t) 16 (by omega) i3
  refine ⟨h0, nm_e ⟨h1, nm_e ⟨h2, nm_e ⟨h3, nm_e ⟨h0, nm_e ⟨h1, nm_e ?_⟩⟩⟩⟩⟩⟩
  rw [c0, c1, c2, c3]
  exact hp
/-! X's spreadFilter -/
theorem wg_sf60 {post : SX → Prop} (c w r s p : Nat → Int32) (hp : post (c, w, r, (wg_it (fun k => wg_sl (4 * k) 1) s 4), p)) : ∀ d k, k + d = 4 → wX_spreadFilter_60 post (d + 1) (nI k) c w r (wg_it (fun k => wg_sl (4 * k) 1) s k) p := by
  intro d
  induction d with
  | zero =>
    intro k hk
    obtain rfl : k = 4 := by omega
    exact br_t (nI_le (b := 4) (Nat.le_refl 4) (by decide)) hp
  | succ d ih =>
    intro k hk
    exact br_f (nI_ge (b := 4) (by omega) (by decide)) (wg_slX (4 * k) 1 (by omega) (pk_mul 4 k) rfl (nm_r (nI_1 k) (ih (k + 1) (by omega))))
theorem wg_sf41 {post : SX → Prop} (c w r s p : Nat → Int32) (hp : ∃ n, wX_spreadFilter_60 post n 0 c w r (wg_it (fun k => wg_sl k 4) s 3) p) : ∀ d k, k + d = 3 → wX_spreadFilter_41 post (d + 1) (nI k) c w r (wg_it (fun k => wg_sl k 4) s k) p := by
  intro d
  induction d with
  | zero =>
    intro k hk
    obtain rfl : k = 3 := by omega
    exact br_t (nI_le (b := 3) (Nat.le_refl 3) (by decide)) hp
  | succ d ih =>
    intro k hk
    exact br_f (nI_ge (b := 3) (by omega) (by decide)) (wg_slX k 4 (by omega) rfl rfl (nm_r (nI_1 k) (ih (k + 1) (by omega))))
theorem wg_sf2 {post : SX → Prop} {f : Nat} (hf : f < 2) (c w r s p : Nat → Int32) (hp : ∃ n, wX_spreadFilter_41 post n 0 c w r (wg_it (fun k s => upd s (4 * (k / 3) + k % 3) (w (9 * f + k))) s 9) p) : ∀ d k, k + d = 9 → wX_spreadFilter_2 post (nI f) (d + 1) (nI k) c w r (wg_it (fun k s => upd s (4 * (k / 3) + k % 3) (w (9 * f + k))) s k) p := by
  intro d
  induction d with
  | zero =>
    intro k hk
    obtain rfl : k = 9 := by omega
    exact br_t (nI_le (b := 9) (Nat.le_refl 9) (by decide)) hp
  | succ d ih =>
    intro k hk
    have hi : 9 * nI f + nI k = nI (9 * f + k) := wg_lin 9 f k
    have hj : 4 * (nI k / 3) + (nI k - nI k / 3 * 3) = nI (4 * (k / 3) + k % 3) := by rw [wg_rem3 (by omega), wg_div3 (by omega)]; exact wg_lin 4 _ _
    refine br_f (nI_ge (b := 9) (by omega) (by decide)) ⟨wg_3, wg_3, pk_in (9 * f + k) 18 (by omega) hi, pk_in (4 * (k / 3) + k % 3) 16 (by omega) hj, nm_r ?_ (nm_r (nI_1 k) (ih (k + 1) (by omega)))⟩
    rw [pk_cl (9 * f + k) hi, pk_cl (4 * (k / 3) + k % 3) hj]
    rfl
theorem wg_sfX {post : SX → Prop} {c w r s p : Nat → Int32} {f : Nat} (hf : f < 2) (hp : post (c, w, r, wg_S3 (wg_S2 (wg_S1 w f s)), p)) : wpX_spreadFilter post (c, w, r, s, p) (nI f) :=
  ⟨10, wg_sf2 hf c w r s p ⟨4, wg_sf41 c w r (wg_S1 w f s) p ⟨5, wg_sf60 c w r (wg_S2 (wg_S1 w f s)) p hp 4 0 rfl⟩ 3 0 rfl⟩ 9 0 rfl⟩
/-! X's block -/
theorem wg_ldX_l {post : SX → Prop} {x y : Nat} (hx : x < 10) (hy : y < 10) (c w r s p : Nat → Int32) (hp : post (c, w, r, s, wg_LD c x y p)) : ∀ d k, k + d = 16 → wX_loadPatch_2 post (nI x - 1) (nI y - 1) (d + 1) (nI k) c w r s (wg_it (fun k p => upd p k (wg_pic c (x + k % 4) (y + k / 4))) p k) := by
  intro d
  induction d with
  | zero =>
    intro k hk
    obtain rfl : k = 16 := by omega
    exact br_t (nI_le (b := 16) (Nat.le_refl 16) (by decide)) hp
  | succ d ih =>
    intro k hk
    refine br_f (nI_ge (b := 16) (by omega) (by decide)) ⟨wg_4, wg_4, wg_imX (x + k % 4) (y + k / 4) (by omega) (by omega) (wg_lh x (by omega)) (wg_lv y (by omega)) ⟨vp_in_nI (by omega) (by decide), nm_r ?_ (nm_r (nI_1 k) (ih (k + 1) (by omega)))⟩⟩
    rw [nI_clamp (by omega)]
    rfl
theorem wg_ldX {post : SX → Prop} {c w r s p : Nat → Int32} {x y : Nat} (hx : x < 10) (hy : y < 10) (hp : post (c, w, r, s, wg_LD c x y p)) : wpX_loadPatch post (c, w, r, s, p) (nI x - 1) (nI y - 1) := ⟨17, wg_ldX_l hx hy c w r s p hp 16 0 rfl⟩
def wg_b4 (q : Nat) (r : Nat → Int32) (v0 v1 v2 v3 : Int32) : Nat → Int32 := upd (upd (upd (upd r q v0) (q + 1) v1) (q + 10) v2) (q + 11) v3
theorem wg_b111 {post : SX → Prop} {q : Nat} (hq : q < 89) (c w r s p : Nat → Int32) (hp : post (c, w, wg_b4 q r (wg_G2 p 0 / 4) (wg_G2 p 1 / 4) (wg_G2 p 4 / 4) (wg_G2 p 5 / 4), s, wg_G2 p)) : ∀ d k, k + d = 2 → wX_workOutBlock_111 post (nI q) (d + 1) (nI k) c w r s (wg_it (fun k => wg_ga (4 * k) 1) p k) := by
  intro d
  induction d with
  | zero =>
    intro k hk
    obtain rfl : k = 2 := by omega
    have i1 : nI q + 1 = nI (q + 1) := nI_1 q
    have i2 : nI q + 10 = nI (q + 10) := nI_add q 10
    have i3 : (nI q + 10) + 1 = nI (q + 11) := by rw [i2]; exact nI_1 (q + 10)
    refine br_t (nI_le (b := 2) (Nat.le_refl 2) (by decide)) ⟨wg_4, vp_in_nI (by omega) (by decide), nm_e ⟨wg_4, pk_in (q + 1) 100 (by omega) i1, nm_e ⟨wg_4, pk_in (q + 10) 100 (by omega) i2, nm_e ⟨wg_4, pk_in (q + 11) 100 (by omega) i3, nm_e ?_⟩⟩⟩⟩
    rw [pk_cl (q + 11) i3, pk_cl (q + 10) i2, pk_cl (q + 1) i1, nI_clamp (by omega)]
    exact hp
  | succ d ih =>
    intro k hk
    exact br_f (nI_ge (b := 2) (by omega) (by decide)) (wg_gaX (4 * k) 1 (by omega) (pk_mul 4 k) rfl (nm_r (nI_1 k) (ih (k + 1) (by omega))))
theorem wg_b92 {post : SX → Prop} {x2 : Int32} (c w r s p : Nat → Int32) (hp : ∃ n, wX_workOutBlock_111 post x2 n 0 c w r s (wg_it (fun k => wg_ga k 4) p 4)) : ∀ d k, k + d = 4 → wX_workOutBlock_92 post x2 (d + 1) (nI k) c w r s (wg_it (fun k => wg_ga k 4) p k) := by
  intro d
  induction d with
  | zero =>
    intro k hk
    obtain rfl : k = 4 := by omega
    exact br_t (nI_le (b := 4) (Nat.le_refl 4) (by decide)) hp
  | succ d ih =>
    intro k hk
    exact br_f (nI_ge (b := 4) (by omega) (by decide)) (wg_gaX k 4 (by omega) rfl rfl (nm_r (nI_1 k) (ih (k + 1) (by omega))))
theorem wg_b63 {post : SX → Prop} {x2 : Int32} (c w r s p : Nat → Int32) (hp : ∃ n, wX_workOutBlock_92 post x2 n 0 c w r s (wg_ML s p)) : ∀ d k, k + d = 16 → wX_workOutBlock_63 post x2 (d + 1) (nI k) c w r s (wg_it (fun k p => upd p k (p k * s k)) p k) := by
  intro d
  induction d with
  | zero =>
    intro k hk
    obtain rfl : k = 16 := by omega
    exact br_t (nI_le (b := 16) (Nat.le_refl 16) (by decide)) hp
  | succ d ih =>
    intro k hk
    have hv : vp_in (nI k) 16 := vp_in_nI (by omega) (by decide)
    refine br_f (nI_ge (b := 16) (by omega) (by decide)) ⟨hv, hv, hv, nm_r ?_ (nm_r (nI_1 k) (ih (k + 1) (by omega)))⟩
    rw [nI_clamp (by omega)]
    rfl
theorem wg_b42 {post : SX → Prop} {x2 : Int32} (c w r s p : Nat → Int32) (hp : ∃ n, wX_workOutBlock_63 post x2 n 0 c w r s (wg_it (fun k => wg_mx (4 * k) 1) p 4)) : ∀ d k, k + d = 4 → wX_workOutBlock_42 post x2 (d + 1) (nI k) c w r s (wg_it (fun k => wg_mx (4 * k) 1) p k) := by
  intro d
  induction d with
  | zero =>
    intro k hk
    obtain rfl : k = 4 := by omega
    exact br_t (nI_le (b := 4) (Nat.le_refl 4) (by decide)) hp
  | succ d ih =>
    intro k hk
    exact br_f (nI_ge (b := 4) (by omega) (by decide)) (wg_mxX (4 * k) 1 (by omega) (pk_mul 4 k) rfl (nm_r (nI_1 k) (ih (k + 1) (by omega))))
theorem wg_b23 {post : SX → Prop} {x2 : Int32} (c w r s p : Nat → Int32) (hp : ∃ n, wX_workOutBlock_42 post x2 n 0 c w r s (wg_it (fun k => wg_mx k 4) p 4)) : ∀ d k, k + d = 4 → wX_workOutBlock_23 post x2 (d + 1) (nI k) c w r s (wg_it (fun k => wg_mx k 4) p k) := by
  intro d
  induction d with
  | zero =>
    intro k hk
    obtain rfl : k = 4 := by omega
    exact br_t (nI_le (b := 4) (Nat.le_refl 4) (by decide)) hp
  | succ d ih =>
    intro k hk
    exact br_f (nI_ge (b := 4) (by omega) (by decide)) (wg_mxX k 4 (by omega) rfl rfl (nm_r (nI_1 k) (ih (k + 1) (by omega))))
theorem wg_bX {post : SX → Prop} {q : Nat} (hq : q < 89) {c w r s p : Nat → Int32} (hp : ∀ p', post (c, w, wg_b4 q r (wg_G2 (wg_G1 (wg_ML s (wg_M2 (wg_M1 p)))) 0 / 4) (wg_G2 (wg_G1 (wg_ML s (wg_M2 (wg_M1 p)))) 1 / 4) (wg_G2 (wg_G1 (wg_ML s (wg_M2 (wg_M1 p)))) 4 / 4) (wg_G2 (wg_G1 (wg_ML s (wg_M2 (wg_M1 p)))) 5 / 4), s, p')) : ∃ n, wX_workOutBlock_23 post (nI q) n 0 c w r s p :=
  ⟨5, wg_b23 c w r s p ⟨5, wg_b42 c w r s (wg_M1 p) ⟨17, wg_b63 c w r s (wg_M2 (wg_M1 p)) ⟨5, wg_b92 c w r s (wg_ML s (wg_M2 (wg_M1 p))) ⟨3, wg_b111 hq c w r s (wg_G1 (wg_ML s (wg_M2 (wg_M1 p)))) (hp _) 2 0 rfl⟩ 4 0 rfl⟩ 16 0 rfl⟩ 4 0 rfl⟩ 4 0 rfl⟩
theorem wg_val0 {c w s : Nat → Int32} {f : Nat} (hc : wg_B 99 c) (hw : wg_B 9 w) (hs : wg_SV s (fun k => w (9 * f + k))) (x y : Nat) (p : Nat → Int32) : wg_G2 (wg_G1 (wg_ML s (wg_M2 (wg_M1 (wg_LD c x y p))))) 0 / 4 = wg_ps c w f x y 9 := by
  have e : wg_G2 (wg_G1 (wg_ML s (wg_M2 (wg_M1 (wg_LD c x y p))))) 0 = 4 * wg_ps c w f x y 9 := by
    rw [wg_win0 _ hs]
    apply congrArg (fun z => 4 * z)
    rw [wg_LDv c x y p 0 (by decide), wg_LDv c x y p 1 (by decide), wg_LDv c x y p 2 (by decide), wg_LDv c x y p 4 (by decide), wg_LDv c x y p 5 (by decide), wg_LDv c x y p 6 (by decide), wg_LDv c x y p 8 (by decide), wg_LDv c x y p 9 (by decide), wg_LDv c x y p 10 (by decide)]
    rfl
  rw [e]
  exact wg_q4 (wg_psB hc hw f _ _ 9 (Nat.le_refl 9))
theorem wg_val1 {c w s : Nat → Int32} {f : Nat} (hc : wg_B 99 c) (hw : wg_B 9 w) (hs : wg_SV s (fun k => w (9 * f + k))) (x y : Nat) (p : Nat → Int32) : wg_G2 (wg_G1 (wg_ML s (wg_M2 (wg_M1 (wg_LD c x y p))))) 1 / 4 = wg_ps c w f (x + 1) y 9 := by
  have e : wg_G2 (wg_G1 (wg_ML s (wg_M2 (wg_M1 (wg_LD c x y p))))) 1 = 4 * wg_ps c w f (x + 1) y 9 := by
    rw [wg_win1 _ hs]
    apply congrArg (fun z => 4 * z)
    rw [wg_LDv c x y p 1 (by decide), wg_LDv c x y p 2 (by decide), wg_LDv c x y p 3 (by decide), wg_LDv c x y p 5 (by decide), wg_LDv c x y p 6 (by decide), wg_LDv c x y p 7 (by decide), wg_LDv c x y p 9 (by decide), wg_LDv c x y p 10 (by decide), wg_LDv c x y p 11 (by decide)]
    rfl
  rw [e]
  exact wg_q4 (wg_psB hc hw f _ _ 9 (Nat.le_refl 9))
theorem wg_val4 {c w s : Nat → Int32} {f : Nat} (hc : wg_B 99 c) (hw : wg_B 9 w) (hs : wg_SV s (fun k => w (9 * f + k))) (x y : Nat) (p : Nat → Int32) : wg_G2 (wg_G1 (wg_ML s (wg_M2 (wg_M1 (wg_LD c x y p))))) 4 / 4 = wg_ps c w f x (y + 1) 9 := by
  have e : wg_G2 (wg_G1 (wg_ML s (wg_M2 (wg_M1 (wg_LD c x y p))))) 4 = 4 * wg_ps c w f x (y + 1) 9 := by
    rw [wg_win4 _ hs]
    apply congrArg (fun z => 4 * z)
    rw [wg_LDv c x y p 4 (by decide), wg_LDv c x y p 5 (by decide), wg_LDv c x y p 6 (by decide), wg_LDv c x y p 8 (by decide), wg_LDv c x y p 9 (by decide), wg_LDv c x y p 10 (by decide), wg_LDv c x y p 12 (by decide), wg_LDv c x y p 13 (by decide), wg_LDv c x y p 14 (by decide)]
    rfl
  rw [e]
  exact wg_q4 (wg_psB hc hw f _ _ 9 (Nat.le_refl 9))
theorem wg_val5 {c w s : Nat → Int32} {f : Nat} (hc : wg_B 99 c) (hw : wg_B 9 w) (hs : wg_SV s (fun k => w (9 * f + k))) (x y : Nat) (p : Nat → Int32) : wg_G2 (wg_G1 (wg_ML s (wg_M2 (wg_M1 (wg_LD c x y p))))) 5 / 4 = wg_ps c w f (x + 1) (y + 1) 9 := by
  have e : wg_G2 (wg_G1 (wg_ML s (wg_M2 (wg_M1 (wg_LD c x y p))))) 5 = 4 * wg_ps c w f (x + 1) (y + 1) 9 := by
    rw [wg_win5 _ hs]
    apply congrArg (fun z => 4 * z)
    rw [wg_LDv c x y p 5 (by decide), wg_LDv c x y p 6 (by decide), wg_LDv c x y p 7 (by decide), wg_LDv c x y p 9 (by decide), wg_LDv c x y p 10 (by decide), wg_LDv c x y p 11 (by decide), wg_LDv c x y p 13 (by decide), wg_LDv c x y p 14 (by decide), wg_LDv c x y p 15 (by decide)]
    rfl
  rw [e]
  exact wg_q4 (wg_psB hc hw f _ _ 9 (Nat.le_refl 9))
def wg_q (b : Nat) : Nat := 20 * (b / 5) + 2 * (b % 5)
theorem wg_corner {post : Int32 → Prop} {b : Nat} (hb : b < 25) (hp : post (nI (wg_q b))) : wpX_cornerOf post (nI b) := by
  refine ⟨wg_5, wg_5, ?_⟩
  have e : 20 * (nI b / 5) + 2 * (nI b - nI b / 5 * 5) = nI (wg_q b) := by
    rw [wg_rem5 (by omega), wg_div5 (by omega)]
    show nI 20 * nI (b / 5) + nI 2 * nI (b % 5) = _
    rw [pk_mul, pk_mul, nI_add]
    rfl
  rw [e]
  exact hp
theorem wg_blkX {post : SX → Prop} {c w r s p : Nat → Int32} {f b : Nat} (hb : b < 25) (hc : wg_B 99 c) (hw : wg_B 9 w) (hs : wg_SV s (fun k => w (9 * f + k))) (hp : ∀ p', post (c, w, wg_b4 (wg_q b) r (wg_R c w f (wg_q b)) (wg_R c w f (wg_q b + 1)) (wg_R c w f (wg_q b + 10)) (wg_R c w f (wg_q b + 11)), s, p')) : wpX_workOutBlock post (c, w, r, s, p) (nI b) := by
  have hq : wg_q b < 89 ∧ wg_q b % 10 ≤ 8 := by unfold wg_q; omega
  unfold wpX_workOutBlock
  dsimp only
  refine wg_corner hb ⟨wg_ten, wg_ten, ?_⟩
  rw [wg_rem10 (by omega), wg_div10 (by omega)]
  refine wg_ldX (by omega) (by omega) ?_
  refine wg_bX hq.1 ?_
  rw [wg_val0 hc hw hs, wg_val1 hc hw hs, wg_val4 hc hw hs, wg_val5 hc hw hs]
  have a1 : (wg_q b + 1) % 10 = wg_q b % 10 + 1 := by omega
  have a2 : (wg_q b + 1) / 10 = wg_q b / 10 := by omega
  have a3 : (wg_q b + 10) % 10 = wg_q b % 10 := by omega
  have a4 : (wg_q b + 10) / 10 = wg_q b / 10 + 1 := by omega
  have a5 : (wg_q b + 11) % 10 = wg_q b % 10 + 1 := by omega
  have a6 : (wg_q b + 11) / 10 = wg_q b / 10 + 1 := by omega
  unfold wg_R at hp
  rw [a1, a2, a3, a4, a5, a6] at hp
  exact hp
/-! X's responses, all of them -/
theorem wg_wrX_l {post : SX → Prop} {f : Nat} (c w s : Nat → Int32) (hc : wg_B 99 c) (hw : wg_B 9 w) (hs : wg_SV s (fun k => w (9 * f + k))) (hp : ∀ r p, (∀ j, j < 100 → r j = wg_R c w f j) → post (c, w, r, s, p)) : ∀ d k r p, k + d = 25 → (∀ j, j < 100 → 5 * (j / 20) + j % 10 / 2 < k → r j = wg_R c w f j) → wX_workOutResponses_7 post (d + 1) (nI k) c w r s p := by
  intro d
  induction d with
  | zero =>
    intro k r p hk hr
    obtain rfl : k = 25 := by omega
    exact br_t (nI_le (b := 25) (Nat.le_refl 25) (by decide)) (hp r p (fun j hj => hr j hj (by omega)))
  | succ d ih =>
    intro k r p hk hr
    refine br_f (nI_ge (b := 25) (by omega) (by decide)) (wg_blkX (f := f) (by omega) hc hw hs (fun p' => nm_r (nI_1 k) (ih (k + 1) _ p' (by omega) ?_)))
    intro j hj hb
    unfold wg_b4
    by_cases e3 : j = wg_q k + 11
    · rw [e3, pk_us]
    · rw [pk_un e3]
      by_cases e2 : j = wg_q k + 10
      · rw [e2, pk_us]
      · rw [pk_un e2]
        by_cases e1 : j = wg_q k + 1
        · rw [e1, pk_us]
        · rw [pk_un e1]
          by_cases e0 : j = wg_q k
          · rw [e0, pk_us]
          · rw [pk_un e0]
            refine hr j hj ?_
            unfold wg_q at e0 e1 e2 e3
            omega
theorem wg_wrX {post : SX → Prop} {c w r s p : Nat → Int32} {f : Nat} (hf : f < 2) (hc : wg_B 99 c) (hw : wg_B 9 w) (hp : ∀ r s p, (∀ j, j < 100 → r j = wg_R c w f j) → post (c, w, r, s, p)) : wpX_workOutResponses post (c, w, r, s, p) (nI f) := by
  unfold wpX_workOutResponses
  dsimp only
  refine wg_sfX hf ⟨26, ?_⟩
  exact wg_wrX_l c w _ hc hw (wg_SVx w f s) (fun r p h => hp r _ p h) 25 0 r p rfl (fun j _ h => absurd h (Nat.not_lt_zero _))
end
section
/-! the public methods' own loops, each side against one pure picture -/
def wg_st (I : Nat → Nat) (v : Int32) (c : Nat → Int32) (a : Nat) : Nat → (Nat → Int32)
  | 0 => c
  | i + 1 => upd (wg_st I v c a i) (I (a + i)) v
theorem wg_stB (I : Nat → Nat) {v : Int32} {c : Nat → Int32} (hc : wg_B 99 c) (hv : -99 ≤ v.toInt ∧ v.toInt ≤ 99) (a : Nat) : ∀ i, wg_B 99 (wg_st I v c a i)
  | 0 => hc
  | i + 1 => wg_Bu (wg_stB I hc hv a i) hv
theorem wg_stX {post : Int32 → SX → Prop} (I : Nat → Nat) {z st v : Int32} {a b e : Nat} (c w r s p : Nat → Int32) (ha : a < 10) (hb : b < 10) (he : b + 1 - a = e) (hI : ∀ k, k < 10 → z + st * nI k = nI (I k) ∧ I k < 100) (hp : post (nI e) (wg_st I v c a e, w, r, s, p)) : ∀ d i, i + d = e → wX_stripe_85 post (nI b) v z st (d + 1) (nI i) (nI (a + i)) (wg_st I v c a i) w r s p := by
  intro d
  induction d with
  | zero =>
    intro i hi
    obtain rfl : i = e := by omega
    exact br_t (nI_lt (by omega) (by omega)) hp
  | succ d ih =>
    intro i hi
    obtain ⟨e1, e2⟩ := hI (a + i) (by omega)
    refine br_f (nI_nlt (by omega) (by omega)) ⟨pk_in (I (a + i)) 100 e2 e1, nm_r ?_ (nm_r (nI_1 i) (nm_r (nI_1 (a + i)) (ih (i + 1) (by omega))))⟩
    rw [pk_cl (I (a + i)) e1]
    rfl
theorem wg_stY {post : Int32 → SY → Prop} (I : Nat → Nat) {x1 v : Int32} {a b e : Nat} (m g w : Nat → Int32) (ha : a < 10) (hb : b < 10) (he : b + 1 - a = e) (hI : (10 ≤ x1 ∧ ∀ k, k < 10 → ((10 * nI k) + x1) - 10 = nI (I k) ∧ I k < 100) ∨ (¬ 10 ≤ x1 ∧ ∀ k, k < 10 → (10 * x1) + nI k = nI (I k) ∧ I k < 100)) (hp : post (nI e) (wg_st I v m a e, g, w)) : ∀ d i, i + d = e → wY_stripe_44 post x1 (nI b) v (d + 1) (nI i) (nI (a + i)) (wg_st I v m a i) g w := by
  intro d
  induction d with
  | zero =>
    intro i hi
    obtain rfl : i = e := by omega
    exact br_t (nI_lt (by omega) (by omega)) hp
  | succ d ih =>
    intro i hi
    refine br_f (nI_nlt (by omega) (by omega)) ?_
    rcases hI with ⟨h1, hI⟩ | ⟨h1, hI⟩
    · obtain ⟨e1, e2⟩ := hI (a + i) (by omega)
      refine br_t h1 ⟨pk_in (I (a + i)) 100 e2 e1, nm_r ?_ (nm_r (nI_1 i) (nm_r (nI_1 (a + i)) (ih (i + 1) (by omega))))⟩
      rw [pk_cl (I (a + i)) e1]
      rfl
    · obtain ⟨e1, e2⟩ := hI (a + i) (by omega)
      refine br_f h1 ⟨pk_in (I (a + i)) 100 e2 e1, nm_r ?_ (nm_r (nI_1 i) (nm_r (nI_1 (a + i)) (ih (i + 1) (by omega))))⟩
      rw [pk_cl (I (a + i)) e1]
      rfl
/-! the first greatest -/
def wg_bs (R : Nat → Int32) : Nat → Nat
  | 0 => 0
  | k + 1 => if R (k + 1) ≤ R (wg_bs R k) then wg_bs R k else k + 1
theorem wg_bsL (R : Nat → Int32) : ∀ k, wg_bs R k ≤ k
  | 0 => Nat.le_refl 0
  | k + 1 => by
    have := wg_bsL R k
    unfold wg_bs
    split <;> omega
theorem wg_bsX {post : Int32 → Prop} (R c w r s p : Nat → Int32) (hr : ∀ j, j < 100 → r j = R j) (hp : post (nI (wg_bs R 99))) : ∀ d k, k + d = 99 → wX_firstGreatestCell_4 post c w r s p (d + 1) (nI (wg_bs R k)) (nI (k + 1)) := by
  intro d
  induction d with
  | zero =>
    intro k hk
    obtain rfl : k = 99 := by omega
    exact br_t (nI_le (b := 100) (Nat.le_refl 100) (by decide)) hp
  | succ d ih =>
    intro k hk
    have hl := wg_bsL R k
    have nx := ih (k + 1) (by omega)
    have e1 : r (nI (k + 1)).toNatClampNeg = R (k + 1) := by rw [nI_clamp (by omega)]; exact hr _ (by omega)
    have e2 : r (nI (wg_bs R k)).toNatClampNeg = R (wg_bs R k) := by rw [nI_clamp (by omega)]; exact hr _ (by omega)
    refine br_f (nI_ge (b := 100) (by omega) (by decide)) ⟨vp_in_nI (by omega) (by decide), vp_in_nI (by omega) (by decide), ?_⟩
    rw [e1, e2]
    by_cases h : R (k + 1) ≤ R (wg_bs R k)
    · have e : wg_bs R (k + 1) = wg_bs R k := if_pos h
      rw [e] at nx
      exact br_t h (nm_r (nI_1 (k + 1)) nx)
    · have e : wg_bs R (k + 1) = k + 1 := if_neg h
      rw [e] at nx
      exact br_f h (nm_r (nI_1 (k + 1)) nx)
theorem wg_fgX {post : Int32 → Prop} {R c w r s p : Nat → Int32} (hr : ∀ j, j < 100 → r j = R j) (hp : post (nI (wg_bs R 99))) : wpX_firstGreatestCell post (c, w, r, s, p) := ⟨100, wg_bsX R c w r s p hr hp 99 0 rfl⟩
theorem wg_bsY {post : Int32 → Prop} (R m g w : Nat → Int32) (hr : ∀ j, j < 100 → g j = R j) (hp : post (nI (wg_bs R 99))) : ∀ d k, k + d = 99 → wY_best_4 post m g w (d + 1) (nI (wg_bs R k)) (nI (k + 1)) := by
  intro d
  induction d with
  | zero =>
    intro k hk
    obtain rfl : k = 99 := by omega
    exact br_t (nI_le (b := 100) (Nat.le_refl 100) (by decide)) hp
  | succ d ih =>
    intro k hk
    have hl := wg_bsL R k
    have nx := ih (k + 1) (by omega)
    have e1 : g (nI (k + 1)).toNatClampNeg = R (k + 1) := by rw [nI_clamp (by omega)]; exact hr _ (by omega)
    have e2 : g (nI (wg_bs R k)).toNatClampNeg = R (wg_bs R k) := by rw [nI_clamp (by omega)]; exact hr _ (by omega)
    refine br_f (nI_ge (b := 100) (by omega) (by decide)) ⟨vp_in_nI (by omega) (by decide), vp_in_nI (by omega) (by decide), ?_⟩
    rw [e1, e2]
    by_cases h : R (k + 1) ≤ R (wg_bs R k)
    · have e : wg_bs R (k + 1) = wg_bs R k := if_pos h
      rw [e] at nx
      exact br_t h (nm_r (nI_1 (k + 1)) nx)
    · have e : wg_bs R (k + 1) = k + 1 := if_neg h
      rw [e] at nx
      exact br_f h (nm_r (nI_1 (k + 1)) nx)
theorem wg_fgY {post : Int32 → Prop} {R m g w : Nat → Int32} (hr : ∀ j, j < 100 → g j = R j) (hp : post (nI (wg_bs R 99))) : wpY_best post (m, g, w) := ⟨100, wg_bsY R m g w hr hp 99 0 rfl⟩
/-! the total -/
def wg_tt (R : Nat → Int32) : Nat → Int32
  | 0 => 0
  | k + 1 => wg_tt R k + R k
theorem wg_ttX {post : Int32 → SX → Prop} (R c w r s p : Nat → Int32) (hr : ∀ j, j < 100 → r j = R j) (hp : post (wg_tt R 100) (c, w, r, s, p)) : ∀ d k, k + d = 100 → wX_total_19 post c w r s p (d + 1) (wg_tt R k) (nI k) := by
  intro d
  induction d with
  | zero =>
    intro k hk
    obtain rfl : k = 100 := by omega
    exact br_t (nI_le (b := 100) (Nat.le_refl 100) (by decide)) hp
  | succ d ih =>
    intro k hk
    refine br_f (nI_ge (b := 100) (by omega) (by decide)) ⟨vp_in_nI (by omega) (by decide), nm_r ?_ (nm_r (nI_1 k) (ih (k + 1) (by omega)))⟩
    rw [nI_clamp (by omega), hr k (by omega)]
    rfl
theorem wg_ttY {post : Int32 → SY → Prop} (R m g w : Nat → Int32) (hr : ∀ j, j < 100 → g j = R j) (hp : post (wg_tt R 100) (m, g, w)) : ∀ d k, k + d = 100 → wY_total_20 post m g w (d + 1) (wg_tt R k) (nI k) := by
  intro d
  induction d with
  | zero =>
    intro k hk
    obtain rfl : k = 100 := by omega
    exact br_t (nI_le (b := 100) (Nat.le_refl 100) (by decide)) hp
  | succ d ih =>
    intro k hk
    refine br_f (nI_ge (b := 100) (by omega) (by decide)) ⟨vp_in_nI (by omega) (by decide), nm_r ?_ (nm_r (nI_1 k) (ih (k + 1) (by omega)))⟩
    rw [nI_clamp (by omega), hr k (by omega)]
    rfl
/-! apply -/
def wg_ok (x : Int32) : Prop := -99 ≤ x.toInt ∧ x.toInt ≤ 99
def wg_cut (x : Int32) : Int32 := if x.toInt < -99 then -99 else if 99 < x.toInt then 99 else x
theorem wg_cutB (x : Int32) : -99 ≤ (wg_cut x).toInt ∧ (wg_cut x).toInt ≤ 99 := by
  unfold wg_cut
  split
  · decide
  · split
    · decide
    · omega
def wg_ap (R c : Nat → Int32) : Nat → (Nat → Int32)
  | 0 => c
  | k + 1 => upd (wg_ap R c k) k (wg_cut (R k))
theorem wg_apB (R : Nat → Int32) {c : Nat → Int32} (hc : wg_B 99 c) : ∀ k, wg_B 99 (wg_ap R c k)
  | 0 => hc
  | k + 1 => wg_Bu (wg_apB R hc k) (wg_cutB _)
def wg_ct (R : Nat → Int32) : Nat → Nat
  | 0 => 0
  | k + 1 => if wg_cut (R k) = R k then wg_ct R k else wg_ct R k + 1
theorem wg_apX {post : Int32 → SX → Prop} (R c w r s p : Nat → Int32) (hr : ∀ j, j < 100 → r j = R j) (hp : post (nI (wg_ct R 100)) (wg_ap R c 100, w, r, s, p)) : ∀ d k, k + d = 100 → wX_apply_19 post (d + 1) (nI (wg_ct R k)) (nI k) (wg_ap R c k) w r s p := by
  intro d
  induction d with
  | zero =>
    intro k hk
    obtain rfl : k = 100 := by omega
    exact br_t (nI_le (b := 100) (Nat.le_refl 100) (by decide)) hp
  | succ d ih =>
    intro k hk
    have nx := ih (k + 1) (by omega)
    have hv : vp_in (nI k) 100 := vp_in_nI (by omega) (by decide)
    have ck : (nI k).toNatClampNeg = k := nI_clamp (by omega)
    have e1 : r (nI k).toNatClampNeg = R k := by rw [ck]; exact hr _ (by omega)
    have ea : wg_ap R c (k + 1) = upd (wg_ap R c k) k (wg_cut (R k)) := rfl
    have ec : wg_ct R (k + 1) = if wg_cut (R k) = R k then wg_ct R k else wg_ct R k + 1 := rfl
    refine br_f (nI_ge (b := 100) (by omega) (by decide)) ⟨hv, nm_r e1 ?_⟩
    by_cases h : -99 ≤ (R k).toInt ∧ (R k).toInt ≤ 99
    · have e : wg_cut (R k) = R k := by unfold wg_cut; rw [if_neg (by omega), if_neg (by omega)]
      rw [if_pos e] at ec
      rw [ea, ec, e] at nx
      refine wg_valX h (br_f wg_10 ⟨hv, nm_r ?_ (nm_r (nI_1 k) nx)⟩)
      rw [ck]
    · refine wg_valXn h (br_t rfl ?_)
      by_cases h0 : 99 < (R k).toInt
      · have e : wg_cut (R k) = 99 := by unfold wg_cut; rw [if_neg (by omega), if_pos h0]
        have ne : ¬ (99 : Int32) = R k := by
          intro z
          rw [← z, wg_p99] at h0
          omega
        rw [e, if_neg ne] at ec
        rw [ea, ec, e] at nx
        have hz : (0 : Int32) ≤ R k := by
          rw [Int32.le_iff_toInt_le, show (0 : Int32).toInt = 0 from by decide]
          omega
        refine br_t hz ⟨hv, nm_r ?_ (nm_r (nI_1 (wg_ct R k)) (nm_r (nI_1 k) nx))⟩
        rw [ck]
      · have h1 : (R k).toInt < -99 := by omega
        have e : wg_cut (R k) = -99 := by unfold wg_cut; rw [if_pos h1]
        have ne : ¬ (-99 : Int32) = R k := by
          intro z
          rw [← z, wg_n99] at h1
          omega
        rw [e, if_neg ne] at ec
        rw [ea, ec, e] at nx
        have hz : ¬ (0 : Int32) ≤ R k := by
          rw [Int32.le_iff_toInt_le, show (0 : Int32).toInt = 0 from by decide]
          omega
        refine br_f hz ⟨hv, nm_r ?_ (nm_r (nI_1 (wg_ct R k)) (nm_r (nI_1 k) nx))⟩
        rw [ck]
theorem wg_ap69 {post : Int32 → SY → Prop} {J : Int32 → Int32 → (Nat → Int32) → (Nat → Int32) → (Nat → Int32) → Prop} {R m g w : Nat → Int32} {k t : Nat} (hk : k < 100) (eg : g k = R k) (hJ : J (nI (if wg_cut (R k) = R k then t else t + 1)) (nI (k + 1)) (upd m k (wg_cut (R k))) g w) {z : Int32} (hz : z = wg_cut (R k)) : wY_apply_69 post J (nI t) (nI k) z (nI k) m g w := by
  subst hz
  have hv : vp_in (nI k) 100 := vp_in_nI (by omega) (by decide)
  have ck : (nI k).toNatClampNeg = k := nI_clamp (by omega)
  refine ⟨hv, nm_r (e' := upd m k (wg_cut (R k))) (by rw [ck]) ⟨hv, hv, ?_⟩⟩
  rw [ck, pk_us, eg]
  by_cases h : wg_cut (R k) = R k
  · rw [if_pos h] at hJ
    exact br_t h (nm_r (nI_1 k) hJ)
  · rw [if_neg h] at hJ
    exact br_f h (nm_r (nI_1 t) (nm_r (nI_1 k) hJ))
theorem wg_apY {post : Int32 → SY → Prop} (R m g w : Nat → Int32) (hr : ∀ j, j < 100 → g j = R j) (hp : post (nI (wg_ct R 100)) (wg_ap R m 100, g, w)) : ∀ d k, k + d = 100 → wY_apply_20 post (d + 1) (nI (wg_ct R k)) (nI k) (wg_ap R m k) g w := by
  intro d
  induction d with
  | zero =>
    intro k hk
    obtain rfl : k = 100 := by omega
    exact br_t (nI_le (b := 100) (Nat.le_refl 100) (by decide)) hp
  | succ d ih =>
    intro k hk
    have nx := ih (k + 1) (by omega)
    have hv : vp_in (nI k) 100 := vp_in_nI (by omega) (by decide)
    have ck : (nI k).toNatClampNeg = k := nI_clamp (by omega)
    have eg : g k = R k := hr k (by omega)
    refine br_f (nI_ge (b := 100) (by omega) (by decide)) ⟨hv, ?_⟩
    rw [ck, eg]
    by_cases h1 : (R k).toInt < -99
    · have e : (-99 : Int32) = wg_cut (R k) := by unfold wg_cut; rw [if_pos h1]
      have hz : ¬ (-99 : Int32) ≤ R k := by
        rw [Int32.le_iff_toInt_le, wg_n99]
        omega
      exact br_f hz (wg_ap69 (by omega) eg nx e)
    · have hz : (-99 : Int32) ≤ R k := by
        rw [Int32.le_iff_toInt_le, wg_n99]
        omega
      refine br_t hz ⟨hv, ?_⟩
      by_cases h0 : 99 < (R k).toInt
      · have e : (99 : Int32) = wg_cut (R k) := by unfold wg_cut; rw [if_neg h1, if_pos h0]
        have hy : ¬ R k ≤ 99 := by
          rw [Int32.le_iff_toInt_le, wg_p99]
          omega
        exact br_f hy (wg_ap69 (by omega) eg nx e)
      · have e : R k = wg_cut (R k) := by unfold wg_cut; rw [if_neg h1, if_neg h0]
        have hy : R k ≤ 99 := by
          rw [Int32.le_iff_toInt_le, wg_p99]
          omega
        exact br_t hy ⟨hv, wg_ap69 (by omega) eg nx e⟩
/-! turn -/
def wg_tn (f : Nat) (w : Nat → Int32) : Nat → (Nat → Int32)
  | 0 => w
  | k + 1 => upd (upd (wg_tn f w k) (9 * f + k) (wg_tn f w k (9 * f + 8 - k))) (9 * f + 8 - k) (wg_tn f w k (9 * f + k))
theorem wg_tnB (f : Nat) {w : Nat → Int32} (hw : wg_B 9 w) : ∀ k, wg_B 9 (wg_tn f w k)
  | 0 => hw
  | k + 1 => wg_Bu (wg_Bu (wg_tnB f hw k) (wg_tnB f hw k _)) (wg_tnB f hw k _)
theorem wg_tnX {post : Int32 → SX → Prop} {f : Nat} (hf : f < 2) {x2 x3 : Int32} (h2 : x2 = nI (9 * f)) (h3 : x3 = nI (9 * f + 8)) (c w r s p : Nat → Int32) (hp : post 1 (c, wg_tn f w 4, r, s, p)) : ∀ d k, k + d = 4 → wX_turn_24 post x2 x3 (d + 1) (nI k) c (wg_tn f w k) r s p := by
  intro d
  induction d with
  | zero =>
    intro k hk
    obtain rfl : k = 4 := by omega
    exact br_t (nI_le (b := 4) (Nat.le_refl 4) (by decide)) hp
  | succ d ih =>
    intro k hk
    have i1 : x2 + nI k = nI (9 * f + k) := by rw [h2, nI_add]
    have i2 : x3 - nI k = nI (9 * f + 8 - k) := by rw [h3, pk_sub (by omega)]
    have c1 : (x2 + nI k).toNatClampNeg = 9 * f + k := pk_cl _ i1
    have c2 : (x3 - nI k).toNatClampNeg = 9 * f + 8 - k := pk_cl _ i2
    have v1 : vp_in (x2 + nI k) 18 := pk_in (9 * f + k) 18 (by omega) i1
    have v2 : vp_in (x3 - nI k) 18 := pk_in (9 * f + 8 - k) 18 (by omega) i2
    refine br_f (nI_ge (b := 4) (by omega) (by decide)) ⟨v1, nm_e ⟨v2, v1, nm_e ⟨v2, nm_r ?_ (nm_r (nI_1 k) (ih (k + 1) (by omega)))⟩⟩⟩
    rw [c1, c2]
    rfl
theorem wg_tnY {post : Int32 → SY → Prop} {f : Nat} (hf : f < 2) (m g w : Nat → Int32) (hp : post 1 (m, g, wg_tn f w 4)) : ∀ d k, k + d = 4 → wY_turn_12 post (nI f) (d + 1) (nI k) m g (wg_tn f w k) := by
  intro d
  induction d with
  | zero =>
    intro k hk
    obtain rfl : k = 4 := by omega
    exact br_t (nI_le (b := 4) (Nat.le_refl 4) (by decide)) hp
  | succ d ih =>
    intro k hk
    have i1 : 9 * nI f + nI k = nI (9 * f + k) := wg_lin 9 f k
    have i0 : 9 * nI f + 8 = nI (9 * f + 8) := wg_lin 9 f 8
    have i2 : 9 * nI f + 8 - nI k = nI (9 * f + 8 - k) := by rw [i0, pk_sub (by omega)]
    have c1 : (9 * nI f + nI k).toNatClampNeg = 9 * f + k := pk_cl _ i1
    have c2 : (9 * nI f + 8 - nI k).toNatClampNeg = 9 * f + 8 - k := pk_cl _ i2
    have v1 : vp_in (9 * nI f + nI k) 18 := pk_in (9 * f + k) 18 (by omega) i1
    have v2 : vp_in (9 * nI f + 8 - nI k) 18 := pk_in (9 * f + 8 - k) 18 (by omega) i2
    refine br_f (nI_ge (b := 4) (by omega) (by decide)) ⟨v1, nm_e ⟨v2, v1, nm_e ⟨v2, nm_r ?_ (nm_r (nI_1 k) (ih (k + 1) (by omega)))⟩⟩⟩
    rw [c1, c2]
    rfl
end
section
/-! the owed statements: both images and both filters are the same functions, the cells within -99 .. 99, the weights within -9 .. 9; the working arrays are free -/
def i_Rel (_ : Nat) (u : SX) (v : SY) : Prop := ∃ c w r s p g : Nat → Int32, u = (c, w, r, s, p) ∧ v = (c, g, w) ∧ wg_B 99 c ∧ wg_B 9 w
theorem wg_mk {k : Nat} {c w r s p g : Nat → Int32} (hc : wg_B 99 c) (hw : wg_B 9 w) : i_Rel k (c, w, r, s, p) (c, g, w) := ⟨c, w, r, s, p, g, rfl, rfl, hc, hw⟩
theorem i_up {k : Nat} {u : SX} {v : SY} (h : i_Rel k u v) : i_Rel (k + 5) u v := h
theorem i_vc0 : wpX_init (fun u => wpY_init (fun v => i_Rel 0 u v)) := wg_mk (k := 0) (wg_B0 99 (by decide)) (wg_B0 9 (by decide))
theorem i_vc_set {k : Nat} {u : SX} {v : SY} (I : i_Rel k u v) (hk : k + 5 ≤ 2560) (v1 : Int32) (v2 : Int32) : wpX_set (fun r u' => wpY_set (fun r' v' => r' = r ∧ i_Rel (k + 5) u' v') v v1 v2) u v1 v2 := by
  obtain ⟨c, w, r, s, p, g, rfl, rfl, hc, hw⟩ := I
  unfold wpX_set wpY_set
  dsimp only
  rcases wg_ix v1 (n := 100) (by decide) with h | ⟨j, hj, rfl⟩
  · exact wg_cellXn h (br_t rfl (wg_cellYn h (br_t rfl ⟨rfl, wg_mk hc hw⟩)))
  · have hv : vp_in (nI j) 100 := vp_in_nI hj (by decide)
    by_cases h : -99 ≤ v2.toInt ∧ v2.toInt ≤ 99
    · exact wg_cellX hj (br_f wg_10 (wg_valX h (br_f wg_10 ⟨hv, nm_e (wg_cellY hj (br_f wg_10 (wg_valY h (br_f wg_10 ⟨hv, nm_e ⟨rfl, wg_mk (wg_Bu hc h) hw⟩⟩))))⟩)))
    · exact wg_cellX hj (br_f wg_10 (wg_valXn h (br_t rfl (wg_cellY hj (br_f wg_10 (wg_valYn h (br_t rfl ⟨rfl, wg_mk hc hw⟩)))))))
theorem wg_stripeX {post : Int32 → SX → Prop} {c w r s p : Nat → Int32} {l a b : Nat} {v : Int32} (hl : l < 20) (ha : a < 10) (hb : b < 10) (hv : -99 ≤ v.toInt ∧ v.toInt ≤ 99) (I : Nat → Nat) (hI : I = if l < 10 then (fun k => 10 * l + k) else (fun k => (l - 10) + 10 * k)) (hp : post (nI (b + 1 - a)) (wg_st I v c a (b + 1 - a), w, r, s, p)) : wpX_stripe post (c, w, r, s, p) (nI l) (nI a) (nI b) v := by
  unfold wpX_stripe
  dsimp only
  refine br_f (nI_pos (by omega)) (br_f (nI_ge (b := 20) hl (by decide)) (wg_placeX ha (br_f wg_10 (wg_placeX hb (br_f wg_10 (wg_valX hv (br_f wg_10 ?_)))))))
  by_cases h : l < 10
  · rw [if_pos h] at hI
    subst hI
    refine br_f (nI_ge (b := 10) h (by decide)) (br_f wg_10 (br_f wg_10 ⟨_, wg_stX (fun k => 10 * l + k) c w r s p ha hb rfl (fun k hk => ⟨?_, by omega⟩) hp (b + 1 - a) 0 (by omega)⟩))
    show nI 10 * nI l + nI 1 * nI k = nI (10 * l + k)
    rw [pk_mul, pk_mul, nI_add, Nat.one_mul]
  · rw [if_neg h] at hI
    subst hI
    refine br_t (nI_le (a := 10) (by omega) (by omega)) (br_t rfl (br_t rfl ⟨_, wg_stX (fun k => (l - 10) + 10 * k) c w r s p ha hb rfl (fun k hk => ⟨?_, by omega⟩) hp (b + 1 - a) 0 (by omega)⟩))
    show (nI l - nI 10) + nI 10 * nI k = nI ((l - 10) + 10 * k)
    rw [pk_mul, pk_sub (by omega), nI_add]
theorem wg_stripeY {post : Int32 → SY → Prop} {m g w : Nat → Int32} {l a b : Nat} {v : Int32} (hl : l < 20) (ha : a < 10) (hb : b < 10) (hv : -99 ≤ v.toInt ∧ v.toInt ≤ 99) (I : Nat → Nat) (hI : I = if l < 10 then (fun k => 10 * l + k) else (fun k => (l - 10) + 10 * k)) (hp : post (nI (b + 1 - a)) (wg_st I v m a (b + 1 - a), g, w)) : wpY_stripe post (m, g, w) (nI l) (nI a) (nI b) v := by
  unfold wpY_stripe
  dsimp only
  refine br_f (nI_pos (by omega)) (br_f (nI_nlt (a := 19) (by omega) (by decide)) (wg_placeY ha (br_f wg_10 (wg_placeY hb (br_f wg_10 (wg_valY hv (br_f wg_10 ?_)))))))
  by_cases h : l < 10
  · rw [if_pos h] at hI
    subst hI
    exact ⟨_, wg_stY (fun k => 10 * l + k) m g w ha hb rfl (Or.inr ⟨nI_ge (b := 10) h (by decide), fun k hk => ⟨wg_lin 10 l k, by omega⟩⟩) hp (b + 1 - a) 0 (by omega)⟩
  · rw [if_neg h] at hI
    subst hI
    refine ⟨_, wg_stY (fun k => (l - 10) + 10 * k) m g w ha hb rfl (Or.inl ⟨nI_le (a := 10) (by omega) (by omega), fun k hk => ⟨?_, by omega⟩⟩) hp (b + 1 - a) 0 (by omega)⟩
    show (nI 10 * nI k + nI l) - nI 10 = nI ((l - 10) + 10 * k)
    rw [pk_mul, nI_add, pk_sub (by omega)]
    exact congrArg nI (by omega)
theorem i_vc_stripe {k : Nat} {u : SX} {v : SY} (I : i_Rel k u v) (hk : k + 5 ≤ 2560) (v1 : Int32) (v2 : Int32) (v3 : Int32) (v4 : Int32) : wpX_stripe (fun r u' => wpY_stripe (fun r' v' => r' = r ∧ i_Rel (k + 5) u' v') v v1 v2 v3 v4) u v1 v2 v3 v4 := by
  obtain ⟨c, w, r, s, p, g, rfl, rfl, hc, hw⟩ := I
  rcases wg_ix v1 (n := 20) (by decide) with h | ⟨l, hl, rfl⟩
  · unfold wpX_stripe wpY_stripe
    dsimp only
    by_cases h0 : v1 < 0
    · exact br_t h0 (br_t h0 ⟨rfl, wg_mk hc hw⟩)
    · have h1 := h.resolve_left h0
      exact br_f h0 (br_t h1 (br_f h0 (br_t (wg_ltp (n := 19) h1 (by decide)) ⟨rfl, wg_mk hc hw⟩)))
  · have a0 : ¬ nI l < 0 := nI_pos (by omega)
    have a1 : ¬ (20 : Int32) ≤ nI l := nI_ge (b := 20) hl (by decide)
    have a2 : ¬ (19 : Int32) < nI l := nI_nlt (a := 19) (by omega) (by decide)
    rcases wg_ix v2 (n := 10) (by decide) with h | ⟨a, ha, rfl⟩
    · unfold wpX_stripe wpY_stripe
      dsimp only
      exact br_f a0 (br_f a1 (wg_placeXn h (br_t rfl (br_f a0 (br_f a2 (wg_placeYn h (br_t rfl ⟨rfl, wg_mk hc hw⟩)))))))
    · rcases wg_ix v3 (n := 10) (by decide) with h | ⟨b, hb, rfl⟩
      · unfold wpX_stripe wpY_stripe
        dsimp only
        exact br_f a0 (br_f a1 (wg_placeX ha (br_f wg_10 (wg_placeXn h (br_t rfl (br_f a0 (br_f a2 (wg_placeY ha (br_f wg_10 (wg_placeYn h (br_t rfl ⟨rfl, wg_mk hc hw⟩)))))))))))
      · by_cases h : -99 ≤ v4.toInt ∧ v4.toInt ≤ 99
        · exact wg_stripeX hl ha hb h _ rfl (wg_stripeY hl ha hb h _ rfl ⟨rfl, wg_mk (wg_stB _ hc h a _) hw⟩)
        · unfold wpX_stripe wpY_stripe
          dsimp only
          exact br_f a0 (br_f a1 (wg_placeX ha (br_f wg_10 (wg_placeX hb (br_f wg_10 (wg_valXn h (br_t rfl (br_f a0 (br_f a2 (wg_placeY ha (br_f wg_10 (wg_placeY hb (br_f wg_10 (wg_valYn h (br_t rfl ⟨rfl, wg_mk hc hw⟩)))))))))))))))
theorem i_vc_weight {k : Nat} {u : SX} {v : SY} (I : i_Rel k u v) (hk : k + 5 ≤ 2560) (v1 : Int32) (v2 : Int32) (v3 : Int32) : wpX_weight (fun r u' => wpY_weight (fun r' v' => r' = r ∧ i_Rel (k + 5) u' v') v v1 v2 v3) u v1 v2 v3 := by
  obtain ⟨c, w, r, s, p, g, rfl, rfl, hc, hw⟩ := I
  unfold wpX_weight wpY_weight
  dsimp only
  rcases wg_ix v1 (n := 2) (by decide) with h | ⟨f, hf, rfl⟩
  · exact wg_filXn h (br_t rfl (wg_filYn h (br_t rfl ⟨rfl, wg_mk hc hw⟩)))
  · refine wg_filX hf (br_f wg_10 ?_)
    rcases wg_ix v2 (n := 9) (by decide) with h | ⟨n, hn, rfl⟩
    · by_cases h0 : v2 < 0
      · exact br_t h0 (wg_filY hf (br_f wg_10 (br_t h0 ⟨rfl, wg_mk hc hw⟩)))
      · have h1 := h.resolve_left h0
        exact br_f h0 (br_t h1 (wg_filY hf (br_f wg_10 (br_f h0 (br_t (wg_ltp (n := 8) h1 (by decide)) ⟨rfl, wg_mk hc hw⟩)))))
    · have a0 : ¬ nI n < 0 := nI_pos (by omega)
      have a1 : ¬ (9 : Int32) ≤ nI n := nI_ge (b := 9) hn (by decide)
      have a2 : ¬ (8 : Int32) < nI n := nI_nlt (a := 8) (by omega) (by decide)
      by_cases h1 : v3 < (-9)
      · exact br_f a0 (br_f a1 (br_t h1 (wg_filY hf (br_f wg_10 (br_f a0 (br_f a2 (br_t h1 ⟨rfl, wg_mk hc hw⟩)))))))
      · by_cases h2 : v3 ≤ 9
        · have hi : 9 * nI f + nI n = nI (9 * f + n) := wg_lin 9 f n
          have hv : vp_in (9 * nI f + nI n) 18 := pk_in (9 * f + n) 18 (by omega) hi
          have hb : -9 ≤ v3.toInt ∧ v3.toInt ≤ 9 := by
            rw [Int32.lt_iff_toInt_lt, wg_n9] at h1
            rw [Int32.le_iff_toInt_le, wg_p9] at h2
            omega
          exact br_f a0 (br_f a1 (br_f h1 (br_t h2 ⟨hv, nm_e (wg_filY hf (br_f wg_10 (br_f a0 (br_f a2 (br_f h1 (br_t h2 ⟨hv, nm_e ⟨rfl, wg_mk hc (wg_Bu hw hb)⟩⟩))))))⟩)))
        · exact br_f a0 (br_f a1 (br_f h1 (br_f h2 (wg_filY hf (br_f wg_10 (br_f a0 (br_f a2 (br_f h1 (br_f h2 ⟨rfl, wg_mk hc hw⟩)))))))))
theorem i_vc_response {k : Nat} {u : SX} {v : SY} (I : i_Rel k u v) (hk : k + 5 ≤ 2560) (v1 : Int32) (v2 : Int32) : wpX_response (fun r => wpY_response (fun r' => r' = r ∧ i_Rel (k + 5) u v) v v1 v2) u v1 v2 := by
  obtain ⟨c, w, r, s, p, g, rfl, rfl, hc, hw⟩ := I
  unfold wpX_response wpY_response
  dsimp only
  rcases wg_ix v1 (n := 2) (by decide) with h | ⟨f, hf, rfl⟩
  · exact wg_filXn h (br_t rfl (wg_filYn h (br_t rfl ⟨rfl, wg_mk hc hw⟩)))
  · refine wg_filX hf (br_f wg_10 ?_)
    rcases wg_ix v2 (n := 100) (by decide) with h | ⟨j, hj, rfl⟩
    · exact wg_cellXn h (br_t rfl (wg_filY hf (br_f wg_10 (wg_cellYn h (br_t rfl ⟨rfl, wg_mk hc hw⟩)))))
    · rw [wg_rem10 (by omega), wg_div10 (by omega)]
      exact wg_cellX hj (br_f wg_10 ⟨wg_ten, wg_ten, wg_raX hf (by omega) (by omega) (wg_filY hf (br_f wg_10 (wg_cellY hj (br_f wg_10 ⟨wg_ten, wg_ten, wg_atY0 hf (by omega) (by omega) ⟨rfl, wg_mk hc hw⟩⟩))))⟩)
theorem i_vc_second {k : Nat} {u : SX} {v : SY} (I : i_Rel k u v) (hk : k + 5 ≤ 2560) (v1 : Int32) : wpX_second (fun r => wpY_second (fun r' v' => r' = r ∧ i_Rel (k + 5) u v') v v1) u v1 := by
  obtain ⟨c, w, r, s, p, g, rfl, rfl, hc, hw⟩ := I
  unfold wpX_second wpY_second
  dsimp only
  rcases wg_ix v1 (n := 100) (by decide) with h | ⟨j, hj, rfl⟩
  · exact wg_cellXn h (br_t rfl (wg_cellYn h (br_t rfl ⟨rfl, wg_mk hc hw⟩)))
  · refine wg_cellX hj (br_f wg_10 ⟨10, wg_seX_l c w r s p hj ?_ 9 0 rfl⟩)
    refine wg_cellY hj (br_f wg_10 (wg_resY (f := 0) (by decide) (fun g' hg => ⟨wg_ten, wg_ten, ?_⟩)))
    rw [wg_rem10 (by omega), wg_div10 (by omega)]
    exact wg_atY1 (f := 1) (by decide) (by omega) (by omega) ⟨wg_psC hg w 1 _ _ 9, wg_mk hc hw⟩
theorem i_vc_greatest {k : Nat} {u : SX} {v : SY} (I : i_Rel k u v) (hk : k + 5 ≤ 2560) (v1 : Int32) : wpX_greatest (fun r u' => wpY_greatest (fun r' v' => r' = r ∧ i_Rel (k + 5) u' v') v v1) u v1 := by
  obtain ⟨c, w, r, s, p, g, rfl, rfl, hc, hw⟩ := I
  unfold wpX_greatest wpY_greatest
  dsimp only
  rcases wg_ix v1 (n := 2) (by decide) with h | ⟨f, hf, rfl⟩
  · exact wg_filXn h (br_t rfl (wg_filYn h (br_t rfl ⟨rfl, wg_mk hc hw⟩)))
  · have hl := wg_bsL (wg_R c w f) 99
    have hv : vp_in (nI (wg_bs (wg_R c w f) 99)) 100 := vp_in_nI (by omega) (by decide)
    have ck : (nI (wg_bs (wg_R c w f) 99)).toNatClampNeg = wg_bs (wg_R c w f) 99 := nI_clamp (by omega)
    refine wg_filX hf (br_f wg_10 (wg_wrX hf hc hw (fun r' s' p' hr => wg_fgX hr ⟨hv, ?_⟩)))
    refine wg_filY hf (br_f wg_10 (wg_resY hf (fun g' hg => wg_fgY hg ⟨hv, ?_, wg_mk hc hw⟩)))
    dsimp only
    rw [ck, hg _ (by omega), hr _ (by omega)]
theorem i_vc_where {k : Nat} {u : SX} {v : SY} (I : i_Rel k u v) (hk : k + 5 ≤ 2560) (v1 : Int32) : wpX_where (fun r u' => wpY_where (fun r' v' => r' = r ∧ i_Rel (k + 5) u' v') v v1) u v1 := by
  obtain ⟨c, w, r, s, p, g, rfl, rfl, hc, hw⟩ := I
  unfold wpX_where wpY_where
  dsimp only
  rcases wg_ix v1 (n := 2) (by decide) with h | ⟨f, hf, rfl⟩
  · exact wg_filXn h (br_t rfl (wg_filYn h (br_t rfl ⟨rfl, wg_mk hc hw⟩)))
  · refine wg_filX hf (br_f wg_10 (wg_wrX hf hc hw (fun r' s' p' hr => wg_fgX hr ?_)))
    exact wg_filY hf (br_f wg_10 (wg_resY hf (fun g' hg => wg_fgY hg ⟨rfl, wg_mk hc hw⟩)))
theorem i_vc_total {k : Nat} {u : SX} {v : SY} (I : i_Rel k u v) (hk : k + 5 ≤ 2560) (v1 : Int32) : wpX_total (fun r u' => wpY_total (fun r' v' => r' = r ∧ i_Rel (k + 5) u' v') v v1) u v1 := by
  obtain ⟨c, w, r, s, p, g, rfl, rfl, hc, hw⟩ := I
  unfold wpX_total wpY_total
  dsimp only
  rcases wg_ix v1 (n := 2) (by decide) with h | ⟨f, hf, rfl⟩
  · exact wg_filXn h (br_t rfl (wg_filYn h (br_t rfl ⟨rfl, wg_mk hc hw⟩)))
  · refine wg_filX hf (br_f wg_10 (wg_wrX hf hc hw (fun r' s' p' hr => ⟨101, wg_ttX (wg_R c w f) c w r' s' p' hr ?_ 100 0 rfl⟩)))
    exact wg_filY hf (br_f wg_10 (wg_resY hf (fun g' hg => ⟨101, wg_ttY (wg_R c w f) c g' w hg ⟨rfl, wg_mk hc hw⟩ 100 0 rfl⟩)))
theorem i_vc_apply {k : Nat} {u : SX} {v : SY} (I : i_Rel k u v) (hk : k + 5 ≤ 2560) (v1 : Int32) : wpX_apply (fun r u' => wpY_apply (fun r' v' => r' = r ∧ i_Rel (k + 5) u' v') v v1) u v1 := by
  obtain ⟨c, w, r, s, p, g, rfl, rfl, hc, hw⟩ := I
  unfold wpX_apply wpY_apply
  dsimp only
  rcases wg_ix v1 (n := 2) (by decide) with h | ⟨f, hf, rfl⟩
  · exact wg_filXn h (br_t rfl (wg_filYn h (br_t rfl ⟨rfl, wg_mk hc hw⟩)))
  · refine wg_filX hf (br_f wg_10 (wg_wrX hf hc hw (fun r' s' p' hr => ⟨101, wg_apX (wg_R c w f) c w r' s' p' hr ?_ 100 0 rfl⟩)))
    exact wg_filY hf (br_f wg_10 (wg_resY hf (fun g' hg => ⟨101, wg_apY (wg_R c w f) c g' w hg ⟨rfl, wg_mk (wg_apB _ hc 100) hw⟩ 100 0 rfl⟩)))
theorem i_vc_turn {k : Nat} {u : SX} {v : SY} (I : i_Rel k u v) (hk : k + 5 ≤ 2560) (v1 : Int32) : wpX_turn (fun r u' => wpY_turn (fun r' v' => r' = r ∧ i_Rel (k + 5) u' v') v v1) u v1 := by
  obtain ⟨c, w, r, s, p, g, rfl, rfl, hc, hw⟩ := I
  unfold wpX_turn wpY_turn
  dsimp only
  rcases wg_ix v1 (n := 2) (by decide) with h | ⟨f, hf, rfl⟩
  · exact wg_filXn h (br_t rfl (wg_filYn h (br_t rfl ⟨rfl, wg_mk hc hw⟩)))
  · have e2 : 9 * nI f = nI (9 * f) := pk_mul 9 f
    have e3 : (nI (9 * f) + 9) - 1 = nI (9 * f + 8) := by
      show (nI (9 * f) + nI 9) - nI 1 = _
      rw [nI_add, pk_sub (by omega)]
      exact congrArg nI (by omega)
    exact wg_filX hf (br_f wg_10 (nm_r e2 (nm_r e3 ⟨5, wg_tnX hf rfl rfl c w r s p (wg_filY hf (br_f wg_10 ⟨5, wg_tnY hf c g w ⟨rfl, wg_mk hc (wg_tnB f hw 4)⟩ 4 0 rfl⟩)) 4 0 rfl⟩)))
/-! pooled -/
def wg_mx2 (a b : Int32) : Int32 := if a ≤ b then b else a
def wg_my (a b : Int32) : Int32 := if b ≤ a then a else b
theorem wg_mxT (a b : Int32) : (wg_mx2 a b).toInt = max a.toInt b.toInt := by
  unfold wg_mx2
  by_cases h : a ≤ b
  · rw [if_pos h]; rw [Int32.le_iff_toInt_le] at h; omega
  · rw [if_neg h]; rw [Int32.le_iff_toInt_le] at h; omega
theorem wg_myT (a b : Int32) : (wg_my a b).toInt = max a.toInt b.toInt := by
  unfold wg_my
  by_cases h : b ≤ a
  · rw [if_pos h]; rw [Int32.le_iff_toInt_le] at h; omega
  · rw [if_neg h]; rw [Int32.le_iff_toInt_le] at h; omega
theorem wg_4max (a b c d : Int32) : wg_my (wg_my (wg_my a b) c) d = wg_mx2 (wg_mx2 a b) (wg_mx2 c d) := by
  apply Int32.toInt_inj.mp
  rw [wg_myT, wg_myT, wg_myT, wg_mxT, wg_mxT, wg_mxT]
  omega
theorem wg_grX {post : Int32 → Prop} {a b : Int32} (hp : post (wg_mx2 a b)) : wpX_greater post a b := by
  unfold wg_mx2 at hp
  by_cases h : a ≤ b
  · rw [if_pos h] at hp; exact br_t h hp
  · rw [if_neg h] at hp; exact br_f h hp
theorem wg_p95 {post : Int32 → SY → Prop} {m g w : Nat → Int32} {q : Nat} {y d : Int32} (hq : q < 89) (e : g (q + 11) = d) (hp : post (wg_my y d) (m, g, w)) : wY_pooled_95 post (nI q) y m g w := by
  have i : nI q + 11 = nI (q + 11) := nI_add q 11
  have v : vp_in (nI q + 11) 100 := pk_in (q + 11) 100 (by omega) i
  have c : (nI q + 11).toNatClampNeg = q + 11 := pk_cl _ i
  refine ⟨v, ?_⟩
  rw [c, e]
  unfold wg_my at hp
  by_cases h : d ≤ y
  · rw [if_pos h] at hp; exact br_t h hp
  · rw [if_neg h] at hp; exact br_f h ⟨v, hp⟩
theorem wg_p70 {post : Int32 → SY → Prop} {m g w : Nat → Int32} {q : Nat} {y c' d : Int32} (hq : q < 89) (e0 : g (q + 10) = c') (e : g (q + 11) = d) (hp : post (wg_my (wg_my y c') d) (m, g, w)) : wY_pooled_70 post (nI q) y m g w := by
  have i : nI q + 10 = nI (q + 10) := nI_add q 10
  have v : vp_in (nI q + 10) 100 := pk_in (q + 10) 100 (by omega) i
  have c : (nI q + 10).toNatClampNeg = q + 10 := pk_cl _ i
  refine ⟨v, ?_⟩
  rw [c, e0]
  by_cases h : c' ≤ y
  · have ey : wg_my y c' = y := if_pos h
    rw [ey] at hp; exact br_t h (wg_p95 hq e hp)
  · have ey : wg_my y c' = c' := if_neg h
    rw [ey] at hp; exact br_f h ⟨v, nm_e (wg_p95 hq e hp)⟩
theorem wg_b4v {q : Nat} {r : Nat → Int32} {v0 v1 v2 v3 : Int32} : wg_b4 q r v0 v1 v2 v3 q = v0 ∧ wg_b4 q r v0 v1 v2 v3 (q + 1) = v1 ∧ wg_b4 q r v0 v1 v2 v3 (q + 10) = v2 ∧ wg_b4 q r v0 v1 v2 v3 (q + 11) = v3 := by
  unfold wg_b4
  refine ⟨?_, ?_, ?_, ?_⟩
  · rw [pk_un (by omega), pk_un (by omega), pk_un (by omega), pk_us]
  · rw [pk_un (by omega), pk_un (by omega), pk_us]
  · rw [pk_un (by omega), pk_us]
  · rw [pk_us]
theorem wg_poolX {post : Int32 → SX → Prop} {c w r s p : Nat → Int32} {f b : Nat} (hf : f < 2) (hb : b < 25) (hc : wg_B 99 c) (hw : wg_B 9 w) (hp : ∀ r s p, post (wg_mx2 (wg_mx2 (wg_R c w f (wg_q b)) (wg_R c w f (wg_q b + 1))) (wg_mx2 (wg_R c w f (wg_q b + 10)) (wg_R c w f (wg_q b + 11)))) (c, w, r, s, p)) : wpX_pooled post (c, w, r, s, p) (nI f) (nI b) := by
  have hq : wg_q b < 89 := by unfold wg_q; omega
  unfold wpX_pooled
  dsimp only
  refine wg_filX hf (br_f wg_10 (br_f (nI_pos (by omega)) (br_t (nI_lt (b := 25) hb (by decide)) (wg_sfX hf ?_))))
  dsimp only
  refine wg_blkX (f := f) hb hc hw (wg_SVx w f s) (fun p' => ?_)
  dsimp only
  refine wg_corner hb ?_
  generalize wg_q b = q at hq hp ⊢
  have i1 : nI q + 1 = nI (q + 1) := nI_1 q
  have i2 : nI q + 10 = nI (q + 10) := nI_add q 10
  have i3 : (nI q + 10) + 1 = nI (q + 11) := by rw [i2]; exact nI_1 (q + 10)
  have hb4 := wg_b4v (q := q) (r := r) (v0 := wg_R c w f q) (v1 := wg_R c w f (q + 1)) (v2 := wg_R c w f (q + 10)) (v3 := wg_R c w f (q + 11))
  refine ⟨vp_in_nI (by omega) (by decide), pk_in (q + 1) 100 (by omega) i1, ?_⟩
  rw [nI_clamp (by omega), pk_cl (q + 1) i1, hb4.1, hb4.2.1]
  refine wg_grX ⟨pk_in (q + 10) 100 (by omega) i2, pk_in (q + 11) 100 (by omega) i3, ?_⟩
  rw [pk_cl (q + 11) i3, pk_cl (q + 10) i2, hb4.2.2.1, hb4.2.2.2]
  exact wg_grX (wg_grX (hp _ _ _))
theorem wg_poolY {post : Int32 → SY → Prop} {m g w : Nat → Int32} {f b : Nat} (hf : f < 2) (hb : b < 25) (hp : ∀ g, post (wg_my (wg_my (wg_my (wg_R m w f (wg_q b)) (wg_R m w f (wg_q b + 1))) (wg_R m w f (wg_q b + 10))) (wg_R m w f (wg_q b + 11))) (m, g, w)) : wpY_pooled post (m, g, w) (nI f) (nI b) := by
  have hq : wg_q b < 89 := by unfold wg_q; omega
  unfold wpY_pooled
  dsimp only
  refine wg_filY hf (br_f wg_10 (br_f (nI_pos (by omega)) (br_t (nI_le (b := 24) (by omega) (by decide)) (wg_resY hf (fun g' hg => ⟨wg_5, wg_5, nm_r (e' := nI (wg_q b)) ?_ ?_⟩)))))
  · rw [wg_rem5 (by omega), wg_div5 (by omega)]
    show nI 20 * nI (b / 5) + nI 2 * nI (b % 5) = _
    rw [pk_mul, pk_mul, nI_add]
    rfl
  · have hp' := hp g'
    generalize wg_q b = q at hq hp' ⊢
    have i1 : nI q + 1 = nI (q + 1) := nI_1 q
    have v1 : vp_in (nI q + 1) 100 := pk_in (q + 1) 100 (by omega) i1
    have c1 : (nI q + 1).toNatClampNeg = q + 1 := pk_cl _ i1
    have c0 : (nI q).toNatClampNeg = q := nI_clamp (by omega)
    refine ⟨vp_in_nI (by omega) (by decide), nm_r (e' := wg_R m w f q) (by rw [c0]; exact hg q (by omega)) ⟨v1, ?_⟩⟩
    dsimp only
    rw [c1, hg (q + 1) (by omega)]
    by_cases h : wg_R m w f (q + 1) ≤ wg_R m w f q
    · have ey : wg_my (wg_R m w f q) (wg_R m w f (q + 1)) = wg_R m w f q := if_pos h
      rw [ey] at hp'
      exact br_t h (wg_p70 hq (hg _ (by omega)) (hg _ (by omega)) hp')
    · have ey : wg_my (wg_R m w f q) (wg_R m w f (q + 1)) = wg_R m w f (q + 1) := if_neg h
      rw [ey] at hp'
      exact br_f h ⟨v1, nm_e (wg_p70 hq (hg _ (by omega)) (hg _ (by omega)) hp')⟩
theorem i_vc_pooled {k : Nat} {u : SX} {v : SY} (I : i_Rel k u v) (hk : k + 5 ≤ 2560) (v1 : Int32) (v2 : Int32) : wpX_pooled (fun r u' => wpY_pooled (fun r' v' => r' = r ∧ i_Rel (k + 5) u' v') v v1 v2) u v1 v2 := by
  obtain ⟨c, w, r, s, p, g, rfl, rfl, hc, hw⟩ := I
  rcases wg_ix v1 (n := 2) (by decide) with h | ⟨f, hf, rfl⟩
  · unfold wpX_pooled wpY_pooled
    dsimp only
    exact wg_filXn h (br_t rfl (wg_filYn h (br_t rfl ⟨rfl, wg_mk hc hw⟩)))
  · rcases wg_ix v2 (n := 25) (by decide) with h | ⟨b, hb, rfl⟩
    · unfold wpX_pooled wpY_pooled
      dsimp only
      refine wg_filX hf (br_f wg_10 ?_)
      by_cases h0 : v2 < 0
      · exact br_t h0 (wg_filY hf (br_f wg_10 (br_t h0 ⟨rfl, wg_mk hc hw⟩)))
      · have h1 : (25 : Int32) ≤ v2 := h.resolve_left h0
        have h2 : ¬ v2 < 25 := Int32.not_lt.mpr h1
        have h3 : ¬ v2 ≤ 24 := Int32.not_le.mpr (wg_ltp (n := 24) h1 (by decide))
        exact br_f h0 (br_f h2 (wg_filY hf (br_f wg_10 (br_f h0 (br_f h3 ⟨rfl, wg_mk hc hw⟩)))))
    · exact wg_poolX hf hb hc hw (fun r' s' p' => wg_poolY hf hb (fun g' => ⟨wg_4max _ _ _ _, wg_mk hc hw⟩))
end
