theorem pk_us {f : Nat → Int32} {k : Nat} {x : Int32} : upd f k x k = x := if_pos rfl
theorem pk_un {f : Nat → Int32} {k j : Nat} {x : Int32} (h : j ≠ k) : upd f k x j = f j := if_neg h
theorem pk_sub {a b : Nat} (h : b ≤ a) : nI a - nI b = nI (a - b) := by
  obtain ⟨c, rfl⟩ : ∃ c, a = c + b := ⟨a - b, by omega⟩
  rw [← nI_add, Int32.add_sub_cancel, Nat.add_sub_cancel]
theorem pk_mul (a b : Nat) : nI a * nI b = nI (a * b) := (Int32.ofNat_mul a b).symm
theorem pk_div {a d : Nat} (ha : a < 2 ^ 31) (h0 : 0 < d) (hd : d < 2 ^ 31) : nI a / nI d = nI (a / d) := by
  apply Int32.toInt_inj.mp
  rw [lg_idiv_nonneg (by rw [nI_toInt ha]; omega) (by rw [nI_toInt hd]; omega), nI_toInt ha, nI_toInt hd, nI_toInt (Nat.lt_of_le_of_lt (Nat.div_le_self a d) ha)]
  first | rfl | exact (Int.natCast_ediv _ _).symm
theorem pk_rem {a d : Nat} (ha : a < 2 ^ 31) (h0 : 0 < d) (hd : d < 2 ^ 31) : nI a - nI a / nI d * nI d = nI (a % d) := by
  rw [pk_div ha h0 hd, pk_mul, pk_sub (Nat.div_mul_le_self a d)]
  exact congrArg nI (by have := Nat.div_add_mod' a d; omega)
theorem pk_sub_toInt {a b : Nat} (ha : a < 2 ^ 30) (hb : b < 2 ^ 30) : (nI a - nI b).toInt = (a : Int) - b := by
  rw [Int32.toInt_sub, nI_toInt (by omega), nI_toInt (by omega)]
  exact Int.bmod_eq_of_le (by omega) (by omega)
theorem pk_sneg {a b : Nat} (hb : b < 2 ^ 30) (h : a < b) : nI a - nI b < 0 := by
  rw [Int32.lt_iff_toInt_lt, pk_sub_toInt (by omega) hb, show (0 : Int32).toInt = 0 from by decide]
  omega
theorem pk_ix (x : Int32) {n : Nat} (hn : n < 2 ^ 31) : x < 0 ∨ nI n ≤ x ∨ ∃ j : Nat, j < n ∧ x = nI j := by
  by_cases h : x < 0
  · exact Or.inl h
  · obtain ⟨j, hj, rfl⟩ := nI_of h
    by_cases h2 : j < n
    · exact Or.inr (Or.inr ⟨j, h2, rfl⟩)
    · exact Or.inr (Or.inl (nI_le (by omega) hj))
theorem pk_le {x y : Int32} {A B : Prop} (a b : Nat) (f : a ≤ b → A) (g : b < a → B) (hx : x = nI a := by rfl) (hy : y = nI b := by rfl) (ha : a < 2 ^ 31 := by omega) (hb : b < 2 ^ 31 := by omega) : (x ≤ y → A) ∧ (¬ x ≤ y → B) := by
  subst hx hy
  rw [nI_leI ha hb]
  exact ⟨f, fun z => g (by omega)⟩
theorem pk_lt {x y : Int32} {A B : Prop} (a b : Nat) (f : a < b → A) (g : b ≤ a → B) (hx : x = nI a := by rfl) (hy : y = nI b := by rfl) (ha : a < 2 ^ 31 := by omega) (hb : b < 2 ^ 31 := by omega) : (x < y → A) ∧ (¬ x < y → B) := by
  subst hx hy
  rw [nI_ltI ha hb]
  exact ⟨f, fun z => g (by omega)⟩
theorem pk_eq {x y : Int32} {A B : Prop} (a b : Nat) (f : a = b → A) (g : a ≠ b → B) (hx : x = nI a := by rfl) (hy : y = nI b := by rfl) (ha : a < 2 ^ 31 := by omega) (hb : b < 2 ^ 31 := by omega) : (x = y → A) ∧ (¬ x = y → B) := by
  subst hx hy
  rw [nI_eq ha hb]
  exact ⟨f, g⟩
theorem pk_in {x : Int32} (n N : Nat) (h : n < N) (hx : x = nI n := by rfl) (hN : N < 2 ^ 31 := by omega) : vp_in x N := by
  subst hx
  exact vp_in_nI h hN
theorem pk_cl {x : Int32} (n : Nat) (hx : x = nI n := by rfl) (h : n < 2 ^ 31 := by omega) : x.toNatClampNeg = n := by
  subst hx
  exact nI_clamp h
/-! the picture: what the image shows at the place (a - 1, b - 1), the response as a running sum, the bounds -/
def wg_pic (c : Nat → Int32) (a b : Nat) : Int32 := if 1 ≤ a ∧ a ≤ 10 ∧ 1 ≤ b ∧ b ≤ 10 then c (10 * (b - 1) + (a - 1)) else 0
def wg_ps (c w : Nat → Int32) (f x y : Nat) : Nat → Int32
  | 0 => 0
  | k + 1 => wg_ps c w f x y k + w (9 * f + k) * wg_pic c (x + k % 3) (y + k / 3)
def wg_R (c w : Nat → Int32) (f : Nat) : Nat → Int32 := fun j => wg_ps c w f (j % 10) (j / 10) 9
def wg_B (m : Int) (c : Nat → Int32) : Prop := ∀ j, -m ≤ (c j).toInt ∧ (c j).toInt ≤ m
theorem wg_B0 (m : Int) (h : 0 ≤ m) : wg_B m (fun _ => 0) := fun _ => ⟨by rw [show (0 : Int32).toInt = 0 from by decide]; omega, by rw [show (0 : Int32).toInt = 0 from by decide]; omega⟩
theorem wg_Bu {m : Int} {c : Nat → Int32} {k : Nat} {x : Int32} (h : wg_B m c) (hx : -m ≤ x.toInt ∧ x.toInt ≤ m) : wg_B m (upd c k x) := by
  intro j
  by_cases e : j = k
  · rw [e, pk_us]; exact hx
  · rw [pk_un e]; exact h j
theorem wg_n99 : (-99 : Int32).toInt = -99 := by decide
theorem wg_p99 : (99 : Int32).toInt = 99 := by decide
theorem wg_n9 : (-9 : Int32).toInt = -9 := by decide
theorem wg_p9 : (9 : Int32).toInt = 9 := by decide
theorem wg_10 : ¬ (1 : Int32) = 0 := by decide
theorem wg_3 : ¬ (3 : Int32) = 0 := by decide
theorem wg_4 : ¬ (4 : Int32) = 0 := by decide
theorem wg_5 : ¬ (5 : Int32) = 0 := by decide
theorem wg_ten : ¬ (10 : Int32) = 0 := by decide
theorem wg_ix (x : Int32) {n : Nat} (hn : n < 2 ^ 31) : (x < 0 ∨ nI n ≤ x) ∨ ∃ j : Nat, j < n ∧ x = nI j := by
  rcases pk_ix x hn with h | h | h
  · exact Or.inl (Or.inl h)
  · exact Or.inl (Or.inr h)
  · exact Or.inr h
theorem wg_ltp {n : Nat} {x : Int32} (h : nI (n + 1) ≤ x) (hn : n + 1 < 2 ^ 31) : nI n < x := by
  rw [Int32.le_iff_toInt_le, nI_toInt hn] at h
  rw [Int32.lt_iff_toInt_lt, nI_toInt (by omega)]
  omega
/-! X's and Y's checks -/
theorem wg_cellX {post : Int32 → Prop} {j : Nat} (h : j < 100) (hp : post 1) : wpX_isCell post (nI j) := br_f (nI_pos (by omega)) (br_f (nI_ge (b := 100) h (by decide)) hp)
theorem wg_cellXn {post : Int32 → Prop} {x : Int32} (h : x < 0 ∨ nI 100 ≤ x) (hp : post 0) : wpX_isCell post x := br_c (fun _ => hp) (fun h0 => br_t (h.resolve_left h0) hp)
theorem wg_placeX {post : Int32 → Prop} {j : Nat} (h : j < 10) (hp : post 1) : wpX_isPlace post (nI j) := br_f (nI_pos (by omega)) (br_f (nI_ge (b := 10) h (by decide)) hp)
theorem wg_placeXn {post : Int32 → Prop} {x : Int32} (h : x < 0 ∨ nI 10 ≤ x) (hp : post 0) : wpX_isPlace post x := br_c (fun _ => hp) (fun h0 => br_t (h.resolve_left h0) hp)
theorem wg_filX {post : Int32 → Prop} {j : Nat} (h : j < 2) (hp : post 1) : wpX_isFilter post (nI j) := br_f (nI_pos (by omega)) (br_f (nI_ge (b := 2) h (by decide)) hp)
theorem wg_filXn {post : Int32 → Prop} {x : Int32} (h : x < 0 ∨ nI 2 ≤ x) (hp : post 0) : wpX_isFilter post x := br_c (fun _ => hp) (fun h0 => br_t (h.resolve_left h0) hp)
theorem wg_vl {x : Int32} (h : -99 ≤ x.toInt ∧ x.toInt ≤ 99) : ¬ x < (-99) ∧ ¬ 99 < x := by
  rw [Int32.lt_iff_toInt_lt, Int32.lt_iff_toInt_lt, wg_n99, wg_p99]
  omega
theorem wg_vln {x : Int32} (h : ¬ (-99 ≤ x.toInt ∧ x.toInt ≤ 99)) : x < (-99) ∨ 99 < x := by
  rw [Int32.lt_iff_toInt_lt, Int32.lt_iff_toInt_lt, wg_n99, wg_p99]
  omega
theorem wg_valX {post : Int32 → Prop} {x : Int32} (h : -99 ≤ x.toInt ∧ x.toInt ≤ 99) (hp : post 1) : wpX_isCellValue post x := br_f (wg_vl h).1 (br_f (wg_vl h).2 hp)
theorem wg_valXn {post : Int32 → Prop} {x : Int32} (h : ¬ (-99 ≤ x.toInt ∧ x.toInt ≤ 99)) (hp : post 0) : wpX_isCellValue post x := br_c (fun _ => hp) (fun h0 => br_t ((wg_vln h).resolve_left h0) hp)
theorem wg_cellY {post : Int32 → Prop} {u : SY} {j : Nat} (h : j < 100) (hp : post 1) : wpY_isCell post u (nI j) := br_f (nI_pos (by omega)) (br_f (nI_nlt (a := 99) (by omega) (by decide)) hp)
theorem wg_cellYn {post : Int32 → Prop} {u : SY} {x : Int32} (h : x < 0 ∨ nI 100 ≤ x) (hp : post 0) : wpY_isCell post u x := br_c (fun _ => hp) (fun h0 => br_t (wg_ltp (n := 99) (h.resolve_left h0) (by decide)) hp)
theorem wg_placeY {post : Int32 → Prop} {u : SY} {j : Nat} (h : j < 10) (hp : post 1) : wpY_isPlace post u (nI j) := br_f (nI_pos (by omega)) (br_f (nI_nlt (a := 9) (by omega) (by decide)) hp)
theorem wg_placeYn {post : Int32 → Prop} {u : SY} {x : Int32} (h : x < 0 ∨ nI 10 ≤ x) (hp : post 0) : wpY_isPlace post u x := br_c (fun _ => hp) (fun h0 => br_t (wg_ltp (n := 9) (h.resolve_left h0) (by decide)) hp)
theorem wg_filY {post : Int32 → Prop} {u : SY} {j : Nat} (h : j < 2) (hp : post 1) : wpY_isFilter post u (nI j) := by
  have e : j = 0 ∨ j = 1 := by omega
  rcases e with rfl | rfl
  · exact br_t rfl hp
  · exact br_f wg_10 (br_t rfl hp)
theorem wg_filYn {post : Int32 → Prop} {u : SY} {x : Int32} (h : x < 0 ∨ nI 2 ≤ x) (hp : post 0) : wpY_isFilter post u x := by
  have e0 : ¬ x = 0 := by
    rintro rfl
    rcases h with h | h
    · exact absurd h (by decide)
    · exact absurd h (by decide)
  have e1 : ¬ x = 1 := by
    rintro rfl
    rcases h with h | h
    · exact absurd h (by decide)
    · exact absurd h (by decide)
  exact br_f e0 (br_f e1 hp)
theorem wg_valY {post : Int32 → Prop} {u : SY} {x : Int32} (h : -99 ≤ x.toInt ∧ x.toInt ≤ 99) (hp : post 1) : wpY_isValue post u x := br_f (wg_vl h).1 (br_f (wg_vl h).2 hp)
theorem wg_valYn {post : Int32 → Prop} {u : SY} {x : Int32} (h : ¬ (-99 ≤ x.toInt ∧ x.toInt ≤ 99)) (hp : post 0) : wpY_isValue post u x := br_c (fun _ => hp) (fun h0 => br_t ((wg_vln h).resolve_left h0) hp)
/-! indices -/
theorem wg_lin (m a b : Nat) : nI m * nI a + nI b = nI (m * a + b) := by rw [pk_mul, nI_add]
theorem wg_pred {a : Nat} (h : 1 ≤ a) : nI a - 1 = nI (a - 1) := pk_sub (b := 1) h
theorem wg_in {a : Nat} (h : 1 ≤ a ∧ a ≤ 10) : ∃ j, j < 10 ∧ a - 1 = j ∧ nI a - 1 = nI j := ⟨a - 1, by omega, rfl, wg_pred h.1⟩
theorem wg_out {a : Nat} (h : ¬ (1 ≤ a ∧ a ≤ 10)) (ha : a < 1000) : nI a - 1 < 0 ∨ nI 10 ≤ nI a - 1 := by
  by_cases h0 : a = 0
  · subst h0; exact Or.inl (by decide)
  · right
    rw [wg_pred (by omega)]
    exact nI_le (by omega) (by omega)
theorem wg_rem3 {k : Nat} (h : k < 2 ^ 31) : nI k - nI k / 3 * 3 = nI (k % 3) := pk_rem (d := 3) h (by decide) (by decide)
theorem wg_div3 {k : Nat} (h : k < 2 ^ 31) : nI k / 3 = nI (k / 3) := pk_div (d := 3) h (by decide) (by decide)
theorem wg_rem4 {k : Nat} (h : k < 2 ^ 31) : nI k - nI k / 4 * 4 = nI (k % 4) := pk_rem (d := 4) h (by decide) (by decide)
theorem wg_div4 {k : Nat} (h : k < 2 ^ 31) : nI k / 4 = nI (k / 4) := pk_div (d := 4) h (by decide) (by decide)
theorem wg_rem5 {k : Nat} (h : k < 2 ^ 31) : nI k - nI k / 5 * 5 = nI (k % 5) := pk_rem (d := 5) h (by decide) (by decide)
theorem wg_div5 {k : Nat} (h : k < 2 ^ 31) : nI k / 5 = nI (k / 5) := pk_div (d := 5) h (by decide) (by decide)
theorem wg_rem10 {k : Nat} (h : k < 2 ^ 31) : nI k - nI k / 10 * 10 = nI (k % 10) := pk_rem (d := 10) h (by decide) (by decide)
theorem wg_div10 {k : Nat} (h : k < 2 ^ 31) : nI k / 10 = nI (k / 10) := pk_div (d := 10) h (by decide) (by decide)
theorem wg_sh (x : Nat) {k : Nat} (h : k < 2 ^ 31) : (nI x + (nI k - nI k / 3 * 3)) - 1 = nI (x + k % 3) - 1 := by rw [wg_rem3 h, nI_add]
theorem wg_sv (x : Nat) {k : Nat} (h : k < 2 ^ 31) : (nI x + (nI k / 3)) - 1 = nI (x + k / 3) - 1 := by rw [wg_div3 h, nI_add]
theorem wg_sc (a b : Int32) : a - 1 + b = a + b - 1 := by grind
theorem wg_lh (x : Nat) {k : Nat} (h : k < 2 ^ 31) : (nI x - 1) + (nI k - nI k / 4 * 4) = nI (x + k % 4) - 1 := by rw [wg_rem4 h, wg_sc, nI_add]
theorem wg_lv (x : Nat) {k : Nat} (h : k < 2 ^ 31) : (nI x - 1) + (nI k / 4) = nI (x + k / 4) - 1 := by rw [wg_div4 h, wg_sc, nI_add]
/-! the image at a place -/
theorem wg_imX {post : Int32 → Prop} {c w r s p : Nat → Int32} {x y : Int32} (a b : Nat) (ha : a < 1000) (hb : b < 1000) (ex : x = nI a - 1) (ey : y = nI b - 1) (hp : post (wg_pic c a b)) : wpX_imageAt post (c, w, r, s, p) x y := by
  subst ex ey
  unfold wpX_imageAt
  dsimp only
  by_cases h1 : 1 ≤ a ∧ a ≤ 10
  · by_cases h2 : 1 ≤ b ∧ b ≤ 10
    · have e : wg_pic c a b = c (10 * (b - 1) + (a - 1)) := if_pos ⟨h1.1, h1.2, h2.1, h2.2⟩
      rw [e] at hp
      have hj : 10 * nI (b - 1) + nI (a - 1) = nI (10 * (b - 1) + (a - 1)) := wg_lin 10 _ _
      rw [wg_pred h1.1, wg_pred h2.1]
      refine wg_placeX (by omega) (br_f wg_10 (wg_placeX (by omega) (br_f wg_10 ⟨pk_in (10 * (b - 1) + (a - 1)) 100 (by omega) hj, ?_⟩)))
      rw [pk_cl (10 * (b - 1) + (a - 1)) hj]
      exact hp
    · have e : wg_pic c a b = 0 := if_neg (fun h => h2 h.2.2)
      rw [e] at hp
      rw [wg_pred h1.1]
      exact wg_placeX (by omega) (br_f wg_10 (wg_placeXn (wg_out h2 hb) (br_t rfl hp)))
  · have e : wg_pic c a b = 0 := if_neg (fun h => h1 ⟨h.1, h.2.1⟩)
    rw [e] at hp
    exact wg_placeXn (wg_out h1 ha) (br_t rfl hp)
