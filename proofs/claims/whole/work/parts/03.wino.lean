/-! Winograd's lines as functions on arrays, iterated as the loops do -/
def wg_it (F : Nat → (Nat → Int32) → (Nat → Int32)) (p : Nat → Int32) : Nat → (Nat → Int32)
  | 0 => p
  | k + 1 => F k (wg_it F p k)
def wg_sl (a t : Nat) (s : Nat → Int32) : Nat → Int32 := upd (upd (upd (upd s a (s a + s a)) (a + t) ((s a + s (a + t)) + s (a + 2 * t))) (a + 2 * t) ((s a - s (a + t)) + s (a + 2 * t))) (a + 3 * t) (s (a + 2 * t) + s (a + 2 * t))
def wg_mx (a t : Nat) (p : Nat → Int32) : Nat → Int32 := upd (upd (upd (upd p a (p a - p (a + 2 * t))) (a + t) (p (a + t) + p (a + 2 * t))) (a + 2 * t) (p (a + 2 * t) - p (a + t))) (a + 3 * t) (p (a + t) - p (a + 3 * t))
def wg_ga (a t : Nat) (p : Nat → Int32) : Nat → Int32 := upd (upd p a ((p a + p (a + t)) + p (a + 2 * t))) (a + t) ((p (a + t) - p (a + 2 * t)) - p (a + 3 * t))
def wg_S1 (w : Nat → Int32) (f : Nat) (s : Nat → Int32) : Nat → Int32 := wg_it (fun k s => upd s (4 * (k / 3) + k % 3) (w (9 * f + k))) s 9
def wg_S2 (s : Nat → Int32) : Nat → Int32 := wg_it (fun k => wg_sl k 4) s 3
def wg_S3 (s : Nat → Int32) : Nat → Int32 := wg_it (fun k => wg_sl (4 * k) 1) s 4
def wg_LD (c : Nat → Int32) (x y : Nat) (p : Nat → Int32) : Nat → Int32 := wg_it (fun k p => upd p k (wg_pic c (x + k % 4) (y + k / 4))) p 16
def wg_M1 (p : Nat → Int32) : Nat → Int32 := wg_it (fun k => wg_mx k 4) p 4
def wg_M2 (p : Nat → Int32) : Nat → Int32 := wg_it (fun k => wg_mx (4 * k) 1) p 4
def wg_ML (s p : Nat → Int32) : Nat → Int32 := wg_it (fun k p => upd p k (p k * s k)) p 16
def wg_G1 (p : Nat → Int32) : Nat → Int32 := wg_it (fun k => wg_ga k 4) p 4
def wg_G2 (p : Nat → Int32) : Nat → Int32 := wg_it (fun k => wg_ga (4 * k) 1) p 2
theorem wg_itU (v : Nat → Int32) (p : Nat → Int32) : ∀ n j, j < n → wg_it (fun k p => upd p k (v k)) p n j = v j := by
  intro n
  induction n with
  | zero => intro j h; exact absurd h (Nat.not_lt_zero _)
  | succ n ih =>
    intro j h
    show upd (wg_it _ p n) n (v n) j = v j
    by_cases e : j = n
    · rw [e, pk_us]
    · rw [pk_un e]; exact ih j (by omega)
theorem wg_itM (s p : Nat → Int32) : ∀ n, (∀ j, j < n → wg_it (fun k p => upd p k (p k * s k)) p n j = p j * s j) ∧ (∀ j, n ≤ j → wg_it (fun k p => upd p k (p k * s k)) p n j = p j) := by
  intro n
  induction n with
  | zero => exact ⟨fun j h => absurd h (Nat.not_lt_zero _), fun _ _ => rfl⟩
  | succ n ih =>
    refine ⟨fun j h => ?_, fun j h => ?_⟩
    · show upd (wg_it _ p n) n (wg_it _ p n n * s n) j = p j * s j
      by_cases e : j = n
      · rw [e, pk_us, ih.2 n (Nat.le_refl n)]
      · rw [pk_un e]; exact ih.1 j (by omega)
    · show upd (wg_it _ p n) n (wg_it _ p n n * s n) j = p j
      rw [pk_un (by omega)]; exact ih.2 j (by omega)
theorem wg_LDv (c : Nat → Int32) (x y : Nat) (p : Nat → Int32) (j : Nat) (h : j < 16) : wg_LD c x y p j = wg_pic c (x + j % 4) (y + j / 4) := wg_itU (fun k => wg_pic c (x + k % 4) (y + k / 4)) p 16 j h
theorem wg_MLv (s p : Nat → Int32) (j : Nat) (h : j < 16) : wg_ML s p j = p j * s j := (wg_itM s p 16).1 j h
/-! their values -/
theorem wg_S1_0 (w : Nat → Int32) (f : Nat) (p : Nat → Int32) : wg_S1 w f p 0 = w (9 * f + 0) := rfl
theorem wg_S1_1 (w : Nat → Int32) (f : Nat) (p : Nat → Int32) : wg_S1 w f p 1 = w (9 * f + 1) := rfl
theorem wg_S1_2 (w : Nat → Int32) (f : Nat) (p : Nat → Int32) : wg_S1 w f p 2 = w (9 * f + 2) := rfl
theorem wg_S1_4 (w : Nat → Int32) (f : Nat) (p : Nat → Int32) : wg_S1 w f p 4 = w (9 * f + 3) := rfl
theorem wg_S1_5 (w : Nat → Int32) (f : Nat) (p : Nat → Int32) : wg_S1 w f p 5 = w (9 * f + 4) := rfl
theorem wg_S1_6 (w : Nat → Int32) (f : Nat) (p : Nat → Int32) : wg_S1 w f p 6 = w (9 * f + 5) := rfl
theorem wg_S1_8 (w : Nat → Int32) (f : Nat) (p : Nat → Int32) : wg_S1 w f p 8 = w (9 * f + 6) := rfl
theorem wg_S1_9 (w : Nat → Int32) (f : Nat) (p : Nat → Int32) : wg_S1 w f p 9 = w (9 * f + 7) := rfl
theorem wg_S1_10 (w : Nat → Int32) (f : Nat) (p : Nat → Int32) : wg_S1 w f p 10 = w (9 * f + 8) := rfl
theorem wg_S2_0 (p : Nat → Int32) : wg_S2 p 0 = p 0 + p 0 := rfl
theorem wg_S2_1 (p : Nat → Int32) : wg_S2 p 1 = p 1 + p 1 := rfl
theorem wg_S2_2 (p : Nat → Int32) : wg_S2 p 2 = p 2 + p 2 := rfl
theorem wg_S2_4 (p : Nat → Int32) : wg_S2 p 4 = (p 0 + p 4) + p 8 := rfl
theorem wg_S2_5 (p : Nat → Int32) : wg_S2 p 5 = (p 1 + p 5) + p 9 := rfl
theorem wg_S2_6 (p : Nat → Int32) : wg_S2 p 6 = (p 2 + p 6) + p 10 := rfl
theorem wg_S2_8 (p : Nat → Int32) : wg_S2 p 8 = (p 0 - p 4) + p 8 := rfl
theorem wg_S2_9 (p : Nat → Int32) : wg_S2 p 9 = (p 1 - p 5) + p 9 := rfl
theorem wg_S2_10 (p : Nat → Int32) : wg_S2 p 10 = (p 2 - p 6) + p 10 := rfl
theorem wg_S2_12 (p : Nat → Int32) : wg_S2 p 12 = p 8 + p 8 := rfl
theorem wg_S2_13 (p : Nat → Int32) : wg_S2 p 13 = p 9 + p 9 := rfl
theorem wg_S2_14 (p : Nat → Int32) : wg_S2 p 14 = p 10 + p 10 := rfl
theorem wg_S3_0 (p : Nat → Int32) : wg_S3 p 0 = p 0 + p 0 := rfl
theorem wg_S3_1 (p : Nat → Int32) : wg_S3 p 1 = (p 0 + p 1) + p 2 := rfl
theorem wg_S3_2 (p : Nat → Int32) : wg_S3 p 2 = (p 0 - p 1) + p 2 := rfl
theorem wg_S3_3 (p : Nat → Int32) : wg_S3 p 3 = p 2 + p 2 := rfl
theorem wg_S3_4 (p : Nat → Int32) : wg_S3 p 4 = p 4 + p 4 := rfl
theorem wg_S3_5 (p : Nat → Int32) : wg_S3 p 5 = (p 4 + p 5) + p 6 := rfl
theorem wg_S3_6 (p : Nat → Int32) : wg_S3 p 6 = (p 4 - p 5) + p 6 := rfl
theorem wg_S3_7 (p : Nat → Int32) : wg_S3 p 7 = p 6 + p 6 := rfl
theorem wg_S3_8 (p : Nat → Int32) : wg_S3 p 8 = p 8 + p 8 := rfl
theorem wg_S3_9 (p : Nat → Int32) : wg_S3 p 9 = (p 8 + p 9) + p 10 := rfl
theorem wg_S3_10 (p : Nat → Int32) : wg_S3 p 10 = (p 8 - p 9) + p 10 := rfl
theorem wg_S3_11 (p : Nat → Int32) : wg_S3 p 11 = p 10 + p 10 := rfl
theorem wg_S3_12 (p : Nat → Int32) : wg_S3 p 12 = p 12 + p 12 := rfl
theorem wg_S3_13 (p : Nat → Int32) : wg_S3 p 13 = (p 12 + p 13) + p 14 := rfl
theorem wg_S3_14 (p : Nat → Int32) : wg_S3 p 14 = (p 12 - p 13) + p 14 := rfl
theorem wg_S3_15 (p : Nat → Int32) : wg_S3 p 15 = p 14 + p 14 := rfl
theorem wg_M1_0 (p : Nat → Int32) : wg_M1 p 0 = p 0 - p 8 := rfl
theorem wg_M1_1 (p : Nat → Int32) : wg_M1 p 1 = p 1 - p 9 := rfl
theorem wg_M1_2 (p : Nat → Int32) : wg_M1 p 2 = p 2 - p 10 := rfl
theorem wg_M1_3 (p : Nat → Int32) : wg_M1 p 3 = p 3 - p 11 := rfl
theorem wg_M1_4 (p : Nat → Int32) : wg_M1 p 4 = p 4 + p 8 := rfl
theorem wg_M1_5 (p : Nat → Int32) : wg_M1 p 5 = p 5 + p 9 := rfl
theorem wg_M1_6 (p : Nat → Int32) : wg_M1 p 6 = p 6 + p 10 := rfl
theorem wg_M1_7 (p : Nat → Int32) : wg_M1 p 7 = p 7 + p 11 := rfl
theorem wg_M1_8 (p : Nat → Int32) : wg_M1 p 8 = p 8 - p 4 := rfl
theorem wg_M1_9 (p : Nat → Int32) : wg_M1 p 9 = p 9 - p 5 := rfl
theorem wg_M1_10 (p : Nat → Int32) : wg_M1 p 10 = p 10 - p 6 := rfl
theorem wg_M1_11 (p : Nat → Int32) : wg_M1 p 11 = p 11 - p 7 := rfl
theorem wg_M1_12 (p : Nat → Int32) : wg_M1 p 12 = p 4 - p 12 := rfl
theorem wg_M1_13 (p : Nat → Int32) : wg_M1 p 13 = p 5 - p 13 := rfl
theorem wg_M1_14 (p : Nat → Int32) : wg_M1 p 14 = p 6 - p 14 := rfl
theorem wg_M1_15 (p : Nat → Int32) : wg_M1 p 15 = p 7 - p 15 := rfl
theorem wg_M2_0 (p : Nat → Int32) : wg_M2 p 0 = p 0 - p 2 := rfl
theorem wg_M2_1 (p : Nat → Int32) : wg_M2 p 1 = p 1 + p 2 := rfl
theorem wg_M2_2 (p : Nat → Int32) : wg_M2 p 2 = p 2 - p 1 := rfl
theorem wg_M2_3 (p : Nat → Int32) : wg_M2 p 3 = p 1 - p 3 := rfl
theorem wg_M2_4 (p : Nat → Int32) : wg_M2 p 4 = p 4 - p 6 := rfl
theorem wg_M2_5 (p : Nat → Int32) : wg_M2 p 5 = p 5 + p 6 := rfl
theorem wg_M2_6 (p : Nat → Int32) : wg_M2 p 6 = p 6 - p 5 := rfl
theorem wg_M2_7 (p : Nat → Int32) : wg_M2 p 7 = p 5 - p 7 := rfl
theorem wg_M2_8 (p : Nat → Int32) : wg_M2 p 8 = p 8 - p 10 := rfl
theorem wg_M2_9 (p : Nat → Int32) : wg_M2 p 9 = p 9 + p 10 := rfl
theorem wg_M2_10 (p : Nat → Int32) : wg_M2 p 10 = p 10 - p 9 := rfl
theorem wg_M2_11 (p : Nat → Int32) : wg_M2 p 11 = p 9 - p 11 := rfl
theorem wg_M2_12 (p : Nat → Int32) : wg_M2 p 12 = p 12 - p 14 := rfl
theorem wg_M2_13 (p : Nat → Int32) : wg_M2 p 13 = p 13 + p 14 := rfl
theorem wg_M2_14 (p : Nat → Int32) : wg_M2 p 14 = p 14 - p 13 := rfl
theorem wg_M2_15 (p : Nat → Int32) : wg_M2 p 15 = p 13 - p 15 := rfl
theorem wg_G1_0 (p : Nat → Int32) : wg_G1 p 0 = (p 0 + p 4) + p 8 := rfl
theorem wg_G1_1 (p : Nat → Int32) : wg_G1 p 1 = (p 1 + p 5) + p 9 := rfl
theorem wg_G1_2 (p : Nat → Int32) : wg_G1 p 2 = (p 2 + p 6) + p 10 := rfl
theorem wg_G1_3 (p : Nat → Int32) : wg_G1 p 3 = (p 3 + p 7) + p 11 := rfl
theorem wg_G1_4 (p : Nat → Int32) : wg_G1 p 4 = (p 4 - p 8) - p 12 := rfl
theorem wg_G1_5 (p : Nat → Int32) : wg_G1 p 5 = (p 5 - p 9) - p 13 := rfl
theorem wg_G1_6 (p : Nat → Int32) : wg_G1 p 6 = (p 6 - p 10) - p 14 := rfl
theorem wg_G1_7 (p : Nat → Int32) : wg_G1 p 7 = (p 7 - p 11) - p 15 := rfl
theorem wg_G2_0 (p : Nat → Int32) : wg_G2 p 0 = (p 0 + p 1) + p 2 := rfl
theorem wg_G2_1 (p : Nat → Int32) : wg_G2 p 1 = (p 1 - p 2) - p 3 := rfl
theorem wg_G2_4 (p : Nat → Int32) : wg_G2 p 4 = (p 4 + p 5) + p 6 := rfl
theorem wg_G2_5 (p : Nat → Int32) : wg_G2 p 5 = (p 5 - p 6) - p 7 := rfl
theorem wg_ML_0 (s p : Nat → Int32) : wg_ML s p 0 = p 0 * s 0 := wg_MLv s p 0 (by decide)
theorem wg_ML_1 (s p : Nat → Int32) : wg_ML s p 1 = p 1 * s 1 := wg_MLv s p 1 (by decide)
theorem wg_ML_2 (s p : Nat → Int32) : wg_ML s p 2 = p 2 * s 2 := wg_MLv s p 2 (by decide)
theorem wg_ML_3 (s p : Nat → Int32) : wg_ML s p 3 = p 3 * s 3 := wg_MLv s p 3 (by decide)
theorem wg_ML_4 (s p : Nat → Int32) : wg_ML s p 4 = p 4 * s 4 := wg_MLv s p 4 (by decide)
theorem wg_ML_5 (s p : Nat → Int32) : wg_ML s p 5 = p 5 * s 5 := wg_MLv s p 5 (by decide)
theorem wg_ML_6 (s p : Nat → Int32) : wg_ML s p 6 = p 6 * s 6 := wg_MLv s p 6 (by decide)
theorem wg_ML_7 (s p : Nat → Int32) : wg_ML s p 7 = p 7 * s 7 := wg_MLv s p 7 (by decide)
theorem wg_ML_8 (s p : Nat → Int32) : wg_ML s p 8 = p 8 * s 8 := wg_MLv s p 8 (by decide)
theorem wg_ML_9 (s p : Nat → Int32) : wg_ML s p 9 = p 9 * s 9 := wg_MLv s p 9 (by decide)
theorem wg_ML_10 (s p : Nat → Int32) : wg_ML s p 10 = p 10 * s 10 := wg_MLv s p 10 (by decide)
theorem wg_ML_11 (s p : Nat → Int32) : wg_ML s p 11 = p 11 * s 11 := wg_MLv s p 11 (by decide)
theorem wg_ML_12 (s p : Nat → Int32) : wg_ML s p 12 = p 12 * s 12 := wg_MLv s p 12 (by decide)
theorem wg_ML_13 (s p : Nat → Int32) : wg_ML s p 13 = p 13 * s 13 := wg_MLv s p 13 (by decide)
theorem wg_ML_14 (s p : Nat → Int32) : wg_ML s p 14 = p 14 * s 14 := wg_MLv s p 14 (by decide)
theorem wg_ML_15 (s p : Nat → Int32) : wg_ML s p 15 = p 15 * s 15 := wg_MLv s p 15 (by decide)
def wg_SV (s g : Nat → Int32) : Prop := s 0 = (g 0 + g 0) + (g 0 + g 0) ∧ s 1 = ((g 0 + g 0) + (g 1 + g 1)) + (g 2 + g 2) ∧ s 2 = ((g 0 + g 0) - (g 1 + g 1)) + (g 2 + g 2) ∧ s 3 = (g 2 + g 2) + (g 2 + g 2) ∧ s 4 = ((g 0 + g 3) + g 6) + ((g 0 + g 3) + g 6) ∧ s 5 = (((g 0 + g 3) + g 6) + ((g 1 + g 4) + g 7)) + ((g 2 + g 5) + g 8) ∧ s 6 = (((g 0 + g 3) + g 6) - ((g 1 + g 4) + g 7)) + ((g 2 + g 5) + g 8) ∧ s 7 = ((g 2 + g 5) + g 8) + ((g 2 + g 5) + g 8) ∧ s 8 = ((g 0 - g 3) + g 6) + ((g 0 - g 3) + g 6) ∧ s 9 = (((g 0 - g 3) + g 6) + ((g 1 - g 4) + g 7)) + ((g 2 - g 5) + g 8) ∧ s 10 = (((g 0 - g 3) + g 6) - ((g 1 - g 4) + g 7)) + ((g 2 - g 5) + g 8) ∧ s 11 = ((g 2 - g 5) + g 8) + ((g 2 - g 5) + g 8) ∧ s 12 = (g 6 + g 6) + (g 6 + g 6) ∧ s 13 = ((g 6 + g 6) + (g 7 + g 7)) + (g 8 + g 8) ∧ s 14 = ((g 6 + g 6) - (g 7 + g 7)) + (g 8 + g 8) ∧ s 15 = (g 8 + g 8) + (g 8 + g 8)
theorem wg_SVx (w : Nat → Int32) (f : Nat) (s : Nat → Int32) : wg_SV (wg_S3 (wg_S2 (wg_S1 w f s))) (fun k => w (9 * f + k)) := by
  refine ⟨?_, ?_, ?_, ?_, ?_, ?_, ?_, ?_, ?_, ?_, ?_, ?_, ?_, ?_, ?_, ?_⟩
  · rw [wg_S3_0, wg_S2_0]; rfl
  · rw [wg_S3_1, wg_S2_0, wg_S2_1, wg_S2_2]; rfl
  · rw [wg_S3_2, wg_S2_0, wg_S2_1, wg_S2_2]; rfl
  · rw [wg_S3_3, wg_S2_2]; rfl
  · rw [wg_S3_4, wg_S2_4]; rfl
  · rw [wg_S3_5, wg_S2_4, wg_S2_5, wg_S2_6]; rfl
  · rw [wg_S3_6, wg_S2_4, wg_S2_5, wg_S2_6]; rfl
  · rw [wg_S3_7, wg_S2_6]; rfl
  · rw [wg_S3_8, wg_S2_8]; rfl
  · rw [wg_S3_9, wg_S2_8, wg_S2_9, wg_S2_10]; rfl
  · rw [wg_S3_10, wg_S2_8, wg_S2_9, wg_S2_10]; rfl
  · rw [wg_S3_11, wg_S2_10]; rfl
  · rw [wg_S3_12, wg_S2_12]; rfl
  · rw [wg_S3_13, wg_S2_12, wg_S2_13, wg_S2_14]; rfl
  · rw [wg_S3_14, wg_S2_12, wg_S2_13, wg_S2_14]; rfl
  · rw [wg_S3_15, wg_S2_14]; rfl
/-! the sums -/
theorem wg_l0 (a b c x y z : Int32) : ((a - c) * (x + x) + (b + c) * ((x + y) + z)) + (c - b) * ((x - y) + z) = 2 * ((a * x + b * y) + c * z) := by grind
theorem wg_l1 (b c d x y z : Int32) : ((b + c) * ((x + y) + z) - (c - b) * ((x - y) + z)) - (b - d) * (z + z) = 2 * ((b * x + c * y) + d * z) := by grind
theorem wg_rpp (a0 a1 a2 b0 b1 b2 c0 c1 c2 : Int32) : (((a0 + b0) + c0) + ((a1 + b1) + c1)) + ((a2 + b2) + c2) = (((a0 + a1) + a2) + ((b0 + b1) + b2)) + ((c0 + c1) + c2) := by grind
theorem wg_rpm (a0 a1 a2 b0 b1 b2 c0 c1 c2 : Int32) : (((a0 + b0) + c0) - ((a1 + b1) + c1)) - ((a2 + b2) + c2) = (((a0 - a1) - a2) + ((b0 - b1) - b2)) + ((c0 - c1) - c2) := by grind
theorem wg_rmp (a0 a1 a2 b0 b1 b2 c0 c1 c2 : Int32) : (((a0 - b0) - c0) + ((a1 - b1) - c1)) + ((a2 - b2) - c2) = (((a0 + a1) + a2) - ((b0 + b1) + b2)) - ((c0 + c1) + c2) := by grind
theorem wg_rmm (a0 a1 a2 b0 b1 b2 c0 c1 c2 : Int32) : (((a0 - b0) - c0) - ((a1 - b1) - c1)) - ((a2 - b2) - c2) = (((a0 - a1) - a2) - ((b0 - b1) - b2)) - ((c0 - c1) - c2) := by grind
theorem wg_tp (a0 a1 a2 b0 b1 b2 c0 c1 c2 : Int32) : (2 * ((a0 + a1) + a2) + 2 * ((b0 + b1) + b2)) + 2 * ((c0 + c1) + c2) = 2 * ((((a0 + b0) + c0) + ((a1 + b1) + c1)) + ((a2 + b2) + c2)) := by grind
theorem wg_tm (a0 a1 a2 b0 b1 b2 c0 c1 c2 : Int32) : (2 * ((a0 + a1) + a2) - 2 * ((b0 + b1) + b2)) - 2 * ((c0 + c1) + c2) = 2 * ((((a0 - b0) - c0) + ((a1 - b1) - c1)) + ((a2 - b2) - c2)) := by grind
theorem wg_fin (d0 d1 d2 d3 d4 d5 d6 d7 d8 g0 g1 g2 g3 g4 g5 g6 g7 g8 : Int32) : 2 * ((2 * ((d0 * g0 + d3 * g3) + d6 * g6) + 2 * ((d1 * g1 + d4 * g4) + d7 * g7)) + 2 * ((d2 * g2 + d5 * g5) + d8 * g8)) = 4 * (0 + g0 * d0 + g1 * d1 + g2 * d2 + g3 * d3 + g4 * d4 + g5 * d5 + g6 * d6 + g7 * d7 + g8 * d8) := by grind
theorem wg_alg00 (d0 d1 d2 d3 d4 d5 d6 d7 d8 d9 d10 d11 d12 d13 d14 d15 g0 g1 g2 g3 g4 g5 g6 g7 g8 : Int32) : (((((d0 - d8) - (d2 - d10)) * ((g0 + g0) + (g0 + g0)) + ((d4 + d8) - (d6 + d10)) * (((g0 + g3) + g6) + ((g0 + g3) + g6))) + ((d8 - d4) - (d10 - d6)) * (((g0 - g3) + g6) + ((g0 - g3) + g6))) + ((((d1 - d9) + (d2 - d10)) * (((g0 + g0) + (g1 + g1)) + (g2 + g2)) + ((d5 + d9) + (d6 + d10)) * ((((g0 + g3) + g6) + ((g1 + g4) + g7)) + ((g2 + g5) + g8))) + ((d9 - d5) + (d10 - d6)) * ((((g0 - g3) + g6) + ((g1 - g4) + g7)) + ((g2 - g5) + g8)))) + ((((d2 - d10) - (d1 - d9)) * (((g0 + g0) - (g1 + g1)) + (g2 + g2)) + ((d6 + d10) - (d5 + d9)) * ((((g0 + g3) + g6) - ((g1 + g4) + g7)) + ((g2 + g5) + g8))) + ((d10 - d6) - (d9 - d5)) * ((((g0 - g3) + g6) - ((g1 - g4) + g7)) + ((g2 - g5) + g8))) = 4 * (0 + g0 * d0 + g1 * d1 + g2 * d2 + g3 * d4 + g4 * d5 + g5 * d6 + g6 * d8 + g7 * d9 + g8 * d10) := by
  refine (wg_rpp _ _ _ _ _ _ _ _ _).trans ?_
  rw [wg_l0, wg_l0, wg_l0, wg_tp, wg_l0, wg_l0, wg_l0, wg_fin]
theorem wg_win0 {s g : Nat → Int32} (p : Nat → Int32) (h : wg_SV s g) : wg_G2 (wg_G1 (wg_ML s (wg_M2 (wg_M1 p)))) 0 = 4 * (0 + g 0 * p 0 + g 1 * p 1 + g 2 * p 2 + g 3 * p 4 + g 4 * p 5 + g 5 * p 6 + g 6 * p 8 + g 7 * p 9 + g 8 * p 10) := by
  obtain ⟨h0, h1, h2, h3, h4, h5, h6, h7, h8, h9, h10, h11, h12, h13, h14, h15⟩ := h
  simp only [wg_G2_0, wg_G1_0, wg_G1_1, wg_G1_2, wg_ML_0, wg_ML_1, wg_ML_2, wg_ML_4, wg_ML_5, wg_ML_6, wg_ML_8, wg_ML_9, wg_ML_10, wg_M2_0, wg_M2_1, wg_M2_2, wg_M2_4, wg_M2_5, wg_M2_6, wg_M2_8, wg_M2_9, wg_M2_10, wg_M1_0, wg_M1_1, wg_M1_2, wg_M1_4, wg_M1_5, wg_M1_6, wg_M1_8, wg_M1_9, wg_M1_10, h0, h1, h2, h4, h5, h6, h8, h9, h10]
  exact wg_alg00 (p 0) (p 1) (p 2) (p 3) (p 4) (p 5) (p 6) (p 7) (p 8) (p 9) (p 10) (p 11) (p 12) (p 13) (p 14) (p 15) (g 0) (g 1) (g 2) (g 3) (g 4) (g 5) (g 6) (g 7) (g 8)
theorem wg_alg01 (d0 d1 d2 d3 d4 d5 d6 d7 d8 d9 d10 d11 d12 d13 d14 d15 g0 g1 g2 g3 g4 g5 g6 g7 g8 : Int32) : (((((d1 - d9) + (d2 - d10)) * (((g0 + g0) + (g1 + g1)) + (g2 + g2)) + ((d5 + d9) + (d6 + d10)) * ((((g0 + g3) + g6) + ((g1 + g4) + g7)) + ((g2 + g5) + g8))) + ((d9 - d5) + (d10 - d6)) * ((((g0 - g3) + g6) + ((g1 - g4) + g7)) + ((g2 - g5) + g8))) - ((((d2 - d10) - (d1 - d9)) * (((g0 + g0) - (g1 + g1)) + (g2 + g2)) + ((d6 + d10) - (d5 + d9)) * ((((g0 + g3) + g6) - ((g1 + g4) + g7)) + ((g2 + g5) + g8))) + ((d10 - d6) - (d9 - d5)) * ((((g0 - g3) + g6) - ((g1 - g4) + g7)) + ((g2 - g5) + g8)))) - ((((d1 - d9) - (d3 - d11)) * ((g2 + g2) + (g2 + g2)) + ((d5 + d9) - (d7 + d11)) * (((g2 + g5) + g8) + ((g2 + g5) + g8))) + ((d9 - d5) - (d11 - d7)) * (((g2 - g5) + g8) + ((g2 - g5) + g8))) = 4 * (0 + g0 * d1 + g1 * d2 + g2 * d3 + g3 * d5 + g4 * d6 + g5 * d7 + g6 * d9 + g7 * d10 + g8 * d11) := by
  refine (wg_rpm _ _ _ _ _ _ _ _ _).trans ?_
  rw [wg_l1, wg_l1, wg_l1, wg_tp, wg_l0, wg_l0, wg_l0, wg_fin]
theorem wg_win1 {s g : Nat → Int32} (p : Nat → Int32) (h : wg_SV s g) : wg_G2 (wg_G1 (wg_ML s (wg_M2 (wg_M1 p)))) 1 = 4 * (0 + g 0 * p 1 + g 1 * p 2 + g 2 * p 3 + g 3 * p 5 + g 4 * p 6 + g 5 * p 7 + g 6 * p 9 + g 7 * p 10 + g 8 * p 11) := by
  obtain ⟨h0, h1, h2, h3, h4, h5, h6, h7, h8, h9, h10, h11, h12, h13, h14, h15⟩ := h
  simp only [wg_G2_1, wg_G1_1, wg_G1_2, wg_G1_3, wg_ML_1, wg_ML_2, wg_ML_3, wg_ML_5, wg_ML_6, wg_ML_7, wg_ML_9, wg_ML_10, wg_ML_11, wg_M2_1, wg_M2_2, wg_M2_3, wg_M2_5, wg_M2_6, wg_M2_7, wg_M2_9, wg_M2_10, wg_M2_11, wg_M1_1, wg_M1_2, wg_M1_3, wg_M1_5, wg_M1_6, wg_M1_7, wg_M1_9, wg_M1_10, wg_M1_11, h1, h2, h3, h5, h6, h7, h9, h10, h11]
  exact wg_alg01 (p 0) (p 1) (p 2) (p 3) (p 4) (p 5) (p 6) (p 7) (p 8) (p 9) (p 10) (p 11) (p 12) (p 13) (p 14) (p 15) (g 0) (g 1) (g 2) (g 3) (g 4) (g 5) (g 6) (g 7) (g 8)
theorem wg_alg10 (d0 d1 d2 d3 d4 d5 d6 d7 d8 d9 d10 d11 d12 d13 d14 d15 g0 g1 g2 g3 g4 g5 g6 g7 g8 : Int32) : (((((d4 + d8) - (d6 + d10)) * (((g0 + g3) + g6) + ((g0 + g3) + g6)) - ((d8 - d4) - (d10 - d6)) * (((g0 - g3) + g6) + ((g0 - g3) + g6))) - ((d4 - d12) - (d6 - d14)) * ((g6 + g6) + (g6 + g6))) + ((((d5 + d9) + (d6 + d10)) * ((((g0 + g3) + g6) + ((g1 + g4) + g7)) + ((g2 + g5) + g8)) - ((d9 - d5) + (d10 - d6)) * ((((g0 - g3) + g6) + ((g1 - g4) + g7)) + ((g2 - g5) + g8))) - ((d5 - d13) + (d6 - d14)) * (((g6 + g6) + (g7 + g7)) + (g8 + g8)))) + ((((d6 + d10) - (d5 + d9)) * ((((g0 + g3) + g6) - ((g1 + g4) + g7)) + ((g2 + g5) + g8)) - ((d10 - d6) - (d9 - d5)) * ((((g0 - g3) + g6) - ((g1 - g4) + g7)) + ((g2 - g5) + g8))) - ((d6 - d14) - (d5 - d13)) * (((g6 + g6) - (g7 + g7)) + (g8 + g8))) = 4 * (0 + g0 * d4 + g1 * d5 + g2 * d6 + g3 * d8 + g4 * d9 + g5 * d10 + g6 * d12 + g7 * d13 + g8 * d14) := by
  refine (wg_rmp _ _ _ _ _ _ _ _ _).trans ?_
  rw [wg_l0, wg_l0, wg_l0, wg_tm, wg_l1, wg_l1, wg_l1, wg_fin]
theorem wg_win4 {s g : Nat → Int32} (p : Nat → Int32) (h : wg_SV s g) : wg_G2 (wg_G1 (wg_ML s (wg_M2 (wg_M1 p)))) 4 = 4 * (0 + g 0 * p 4 + g 1 * p 5 + g 2 * p 6 + g 3 * p 8 + g 4 * p 9 + g 5 * p 10 + g 6 * p 12 + g 7 * p 13 + g 8 * p 14) := by
  obtain ⟨h0, h1, h2, h3, h4, h5, h6, h7, h8, h9, h10, h11, h12, h13, h14, h15⟩ := h
  simp only [wg_G2_4, wg_G1_4, wg_G1_5, wg_G1_6, wg_ML_4, wg_ML_5, wg_ML_6, wg_ML_8, wg_ML_9, wg_ML_10, wg_ML_12, wg_ML_13, wg_ML_14, wg_M2_4, wg_M2_5, wg_M2_6, wg_M2_8, wg_M2_9, wg_M2_10, wg_M2_12, wg_M2_13, wg_M2_14, wg_M1_4, wg_M1_5, wg_M1_6, wg_M1_8, wg_M1_9, wg_M1_10, wg_M1_12, wg_M1_13, wg_M1_14, h4, h5, h6, h8, h9, h10, h12, h13, h14]
  exact wg_alg10 (p 0) (p 1) (p 2) (p 3) (p 4) (p 5) (p 6) (p 7) (p 8) (p 9) (p 10) (p 11) (p 12) (p 13) (p 14) (p 15) (g 0) (g 1) (g 2) (g 3) (g 4) (g 5) (g 6) (g 7) (g 8)
theorem wg_alg11 (d0 d1 d2 d3 d4 d5 d6 d7 d8 d9 d10 d11 d12 d13 d14 d15 g0 g1 g2 g3 g4 g5 g6 g7 g8 : Int32) : (((((d5 + d9) + (d6 + d10)) * ((((g0 + g3) + g6) + ((g1 + g4) + g7)) + ((g2 + g5) + g8)) - ((d9 - d5) + (d10 - d6)) * ((((g0 - g3) + g6) + ((g1 - g4) + g7)) + ((g2 - g5) + g8))) - ((d5 - d13) + (d6 - d14)) * (((g6 + g6) + (g7 + g7)) + (g8 + g8))) - ((((d6 + d10) - (d5 + d9)) * ((((g0 + g3) + g6) - ((g1 + g4) + g7)) + ((g2 + g5) + g8)) - ((d10 - d6) - (d9 - d5)) * ((((g0 - g3) + g6) - ((g1 - g4) + g7)) + ((g2 - g5) + g8))) - ((d6 - d14) - (d5 - d13)) * (((g6 + g6) - (g7 + g7)) + (g8 + g8)))) - ((((d5 + d9) - (d7 + d11)) * (((g2 + g5) + g8) + ((g2 + g5) + g8)) - ((d9 - d5) - (d11 - d7)) * (((g2 - g5) + g8) + ((g2 - g5) + g8))) - ((d5 - d13) - (d7 - d15)) * ((g8 + g8) + (g8 + g8))) = 4 * (0 + g0 * d5 + g1 * d6 + g2 * d7 + g3 * d9 + g4 * d10 + g5 * d11 + g6 * d13 + g7 * d14 + g8 * d15) := by
  refine (wg_rmm _ _ _ _ _ _ _ _ _).trans ?_
  rw [wg_l1, wg_l1, wg_l1, wg_tm, wg_l1, wg_l1, wg_l1, wg_fin]
theorem wg_win5 {s g : Nat → Int32} (p : Nat → Int32) (h : wg_SV s g) : wg_G2 (wg_G1 (wg_ML s (wg_M2 (wg_M1 p)))) 5 = 4 * (0 + g 0 * p 5 + g 1 * p 6 + g 2 * p 7 + g 3 * p 9 + g 4 * p 10 + g 5 * p 11 + g 6 * p 13 + g 7 * p 14 + g 8 * p 15) := by
  obtain ⟨h0, h1, h2, h3, h4, h5, h6, h7, h8, h9, h10, h11, h12, h13, h14, h15⟩ := h
  simp only [wg_G2_5, wg_G1_5, wg_G1_6, wg_G1_7, wg_ML_5, wg_ML_6, wg_ML_7, wg_ML_9, wg_ML_10, wg_ML_11, wg_ML_13, wg_ML_14, wg_ML_15, wg_M2_5, wg_M2_6, wg_M2_7, wg_M2_9, wg_M2_10, wg_M2_11, wg_M2_13, wg_M2_14, wg_M2_15, wg_M1_5, wg_M1_6, wg_M1_7, wg_M1_9, wg_M1_10, wg_M1_11, wg_M1_13, wg_M1_14, wg_M1_15, h5, h6, h7, h9, h10, h11, h13, h14, h15]
  exact wg_alg11 (p 0) (p 1) (p 2) (p 3) (p 4) (p 5) (p 6) (p 7) (p 8) (p 9) (p 10) (p 11) (p 12) (p 13) (p 14) (p 15) (g 0) (g 1) (g 2) (g 3) (g 4) (g 5) (g 6) (g 7) (g 8)
