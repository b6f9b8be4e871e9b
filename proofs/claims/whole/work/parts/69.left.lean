/-! ===== what is left is fewer than the parts ===== -/
def sumZ (f : Nat → Int) : Nat → Int
  | 0 => 0
  | k + 1 => sumZ f k + f k
theorem sumZ_mul (w : Int) (f : Nat → Int) : ∀ n, sumZ (fun k => w * f k) n = w * sumZ f n
  | 0 => by show (0 : Int) = w * 0; rw [Int.mul_zero]
  | k + 1 => by
    show sumZ (fun k => w * f k) k + w * f k = w * (sumZ f k + f k)
    rw [sumZ_mul w f k, Int.mul_add]
theorem sumZ_split (S : Int) (g : Nat → Int) : ∀ n, S * sumZ (fun k => g k / S) n + sumZ (fun k => g k % S) n = sumZ g n
  | 0 => by show S * 0 + 0 = (0 : Int); rw [Int.mul_zero]; rfl
  | k + 1 => by
    show S * (sumZ (fun k => g k / S) k + g k / S) + (sumZ (fun k => g k % S) k + g k % S) = sumZ g k + g k
    have h1 := sumZ_split S g k
    have h2 := Int.mul_ediv_add_emod (g k) S
    rw [Int.mul_add]
    omega
theorem sumZ_rest {S : Int} (hS : 0 < S) (g : Nat → Int) : ∀ n, 0 ≤ sumZ (fun k => g k % S) n ∧ sumZ (fun k => g k % S) n ≤ (n : Int) * S - n
  | 0 => by
    show (0 : Int) ≤ 0 ∧ (0 : Int) ≤ ((0 : Nat) : Int) * S - ((0 : Nat) : Int)
    rw [show ((0 : Nat) : Int) = 0 from rfl, Int.zero_mul]; exact ⟨Int.le_refl 0, by omega⟩
  | k + 1 => by
    show 0 ≤ sumZ (fun k => g k % S) k + g k % S ∧ sumZ (fun k => g k % S) k + g k % S ≤ ((k + 1 : Nat) : Int) * S - ((k + 1 : Nat) : Int)
    have h1 := sumZ_rest hS g k
    have h2 := Int.emod_nonneg (g k) (show S ≠ 0 by omega)
    have h3 := Int.emod_lt_of_pos (g k) hS
    have h4 : ((k + 1 : Nat) : Int) * S = (k : Int) * S + S := by rw [show ((k + 1 : Nat) : Int) = (k : Int) + 1 from rfl, Int.add_mul, Int.one_mul]
    omega
theorem sumZ_congr {f g : Nat → Int} : ∀ n, (∀ i, i < n → f i = g i) → sumZ f n = sumZ g n
  | 0, _ => rfl
  | k + 1, h => by
    show sumZ f k + f k = sumZ g k + g k
    rw [sumZ_congr k (fun i hi => h i (by omega)), h k (by omega)]
theorem sumL_T {f : Nat → Int64} {A : Int} (h0 : 0 ≤ A) (hA : A ≤ 1000000000000000000) : ∀ n, n ≤ 6 → (∀ k, k < n → -A ≤ (f k).toInt ∧ (f k).toInt ≤ A) → (sumL f n).toInt = sumZ (fun k => (f k).toInt) n ∧ -((n : Int) * A) ≤ sumZ (fun k => (f k).toInt) n ∧ sumZ (fun k => (f k).toInt) n ≤ (n : Int) * A
  | 0, _, _ => by
    show (0 : Int64).toInt = 0 ∧ -(((0 : Nat) : Int) * A) ≤ 0 ∧ (0 : Int) ≤ ((0 : Nat) : Int) * A
    rw [show ((0 : Nat) : Int) = 0 from rfl, Int.zero_mul]; exact ⟨rfl, by omega, by omega⟩
  | k + 1, hn, h => by
    show (sumL f k + f k).toInt = sumZ (fun k => (f k).toInt) k + (f k).toInt ∧ -(((k + 1 : Nat) : Int) * A) ≤ sumZ (fun k => (f k).toInt) k + (f k).toInt ∧ sumZ (fun k => (f k).toInt) k + (f k).toInt ≤ ((k + 1 : Nat) : Int) * A
    obtain ⟨h1, h2, h3⟩ := sumL_T h0 hA k (by omega) (fun i hi => h i (by omega))
    have h4 := h k (by omega)
    have h5 : ((k + 1 : Nat) : Int) * A = (k : Int) * A + A := by rw [show ((k + 1 : Nat) : Int) = (k : Int) + 1 from rfl, Int.add_mul, Int.one_mul]
    have h6 : (k : Int) * A ≤ 6 * A := Int.mul_le_mul_of_nonneg_right (by omega) h0
    refine ⟨?_, by omega, by omega⟩
    rw [Int64.toInt_add, h1, Int.bmod_eq_of_le (by omega) (by omega)]
theorem ediv_bd {w s S : Int} (hS : 0 < S) (h0 : 0 ≤ s) (h1 : s ≤ S) : (0 ≤ w → 0 ≤ w * s / S ∧ w * s / S ≤ w) ∧ (w < 0 → w ≤ w * s / S ∧ w * s / S ≤ 0) := by
  refine ⟨fun hw => ⟨Int.ediv_nonneg (Int.mul_nonneg hw h0) (by omega), ?_⟩, fun hw => ⟨?_, ?_⟩⟩
  · have h2 : w * s ≤ w * S := Int.mul_le_mul_of_nonneg_left h1 hw
    have h3 := Int.ediv_le_ediv hS h2
    rw [Int.mul_ediv_cancel _ (by omega)] at h3
    exact h3
  · have h2 : w * S ≤ w * s := Int.mul_le_mul_of_nonpos_left (by omega) h1
    have h3 := Int.ediv_le_ediv hS h2
    rw [Int.mul_ediv_cancel _ (by omega)] at h3
    exact h3
  · have h2 : w * s ≤ 0 := Int.mul_nonpos_of_nonpos_of_nonneg (by omega) h0
    have h3 := Int.ediv_le_ediv hS h2
    rw [Int.zero_ediv] at h3
    exact h3
theorem sumZ_ge {f : Nat → Int} : ∀ n, (∀ k, k < n → 0 ≤ f k) → 0 ≤ sumZ f n ∧ ∀ k, k < n → f k ≤ sumZ f n
  | 0, _ => ⟨Int.le_refl 0, fun k hk => absurd hk (by omega)⟩
  | n + 1, h => by
    obtain ⟨h1, h2⟩ := sumZ_ge n (fun k hk => h k (by omega))
    have h3 := h n (by omega)
    show 0 ≤ sumZ f n + f n ∧ ∀ k, k < n + 1 → f k ≤ sumZ f n + f n
    refine ⟨by omega, fun k hk => ?_⟩
    by_cases e : k = n
    · subst e; omega
    · have := h2 k (by omega); omega
/-- shares at least 0, at most B; a whole within A; A*B small: what is left, and the bounds of the parts -/
theorem left_lt {W : Int64} {sh : Nat → Int64} {n : Nat} (h1 : 1 ≤ n) (h6 : n ≤ 6) {A B : Int} (hA : A ≤ 1000000000000) (hB : B ≤ 1000000000000) (hAB : A * B ≤ 1000000000000000) (hW : -A ≤ W.toInt ∧ W.toInt ≤ A) (hs : ∀ k, k < n → 0 ≤ (sh k).toInt ∧ (sh k).toInt ≤ B) (hS : 0 < (sumL sh n).toInt) : (∃ L, L < n ∧ W - sumL (part0 W sh n) n = lN L) ∧ ∀ k, k < n → -A ≤ (part0 W sh n k).toInt ∧ (part0 W sh n k).toInt ≤ A := by
  have hA0 : 0 ≤ A := by omega
  have hB0 : 0 ≤ B := by have := hs 0 (by omega); omega
  obtain ⟨s1, s2, s3⟩ := sumL_T (f := sh) hB0 (by omega) n h6 (fun k hk => by have := hs k hk; omega)
  obtain ⟨g1, g2⟩ := sumZ_ge (f := fun k => (sh k).toInt) n (fun k hk => (hs k hk).1)
  have hm : ∀ k, k < n → (W * sh k).toInt = W.toInt * (sh k).toInt := fun k hk => by
    have hk2 := hs k hk
    have b1 : W.toInt * (sh k).toInt ≤ A * B := by
      have := Int.mul_le_mul_of_nonneg_right (c := (sh k).toInt) hW.2 hk2.1
      have := Int.mul_le_mul_of_nonneg_left (c := A) hk2.2 hA0
      omega
    have b2 : -(A * B) ≤ W.toInt * (sh k).toInt := by
      have h3 := Int.mul_le_mul_of_nonneg_right (c := (sh k).toInt) hW.1 hk2.1
      have h4 := Int.mul_le_mul_of_nonneg_left (c := A) hk2.2 hA0
      rw [Int.neg_mul] at h3
      omega
    rw [Int64.toInt_mul, Int.bmod_eq_of_le (by omega) (by omega)]
  have hp : ∀ k, k < n → (part0 W sh n k).toInt = W.toInt * (sh k).toInt / (sumL sh n).toInt := fun k hk => by
    unfold part0
    rw [flo_T hS, hm k hk]
  have hb : ∀ k, k < n → -A ≤ (part0 W sh n k).toInt ∧ (part0 W sh n k).toInt ≤ A := fun k hk => by
    obtain ⟨e1, e2⟩ := ediv_bd (w := W.toInt) (s := (sh k).toInt) hS (hs k hk).1 (by rw [s1]; exact g2 k hk)
    rw [hp k hk]
    rcases Int.lt_or_le W.toInt 0 with h | h
    · have := e2 h; omega
    · have := e1 h; omega
  refine ⟨?_, hb⟩
  obtain ⟨t1, t2, t3⟩ := sumL_T (f := part0 W sh n) hA0 (by omega) n h6 hb
  have hn6 : (n : Int) * A ≤ 6 * A := Int.mul_le_mul_of_nonneg_right (by omega) hA0
  have hl : (W - sumL (part0 W sh n) n).toInt = W.toInt - sumZ (fun k => (part0 W sh n k).toInt) n := by
    rw [Int64.toInt_sub, t1, Int.bmod_eq_of_le (by omega) (by omega)]
  have hz : sumZ (fun k => (part0 W sh n k).toInt) n = sumZ (fun k => (W.toInt * (sh k).toInt) / (sumL sh n).toInt) n := sumZ_congr n hp
  have hsp := sumZ_split (sumL sh n).toInt (fun k => W.toInt * (sh k).toInt) n
  have hmu := sumZ_mul W.toInt (fun k => (sh k).toInt) n
  obtain ⟨r1, r2⟩ := sumZ_rest hS (fun k => W.toInt * (sh k).toInt) n
  rw [hmu, ← s1, ← hz, Int.mul_comm W.toInt] at hsp
  have hX : (sumL sh n).toInt * (W.toInt - sumZ (fun k => (part0 W sh n k).toInt) n) = sumZ (fun k => W.toInt * (sh k).toInt % (sumL sh n).toInt) n := by
    rw [Int.mul_sub]; omega
  rw [← hl] at hX
  have hL0 : 0 ≤ (W - sumL (part0 W sh n) n).toInt := by
    rcases Int.lt_or_le (W - sumL (part0 W sh n) n).toInt 0 with h | h
    · have := Int.mul_le_mul_of_nonneg_left (c := (sumL sh n).toInt) (show (W - sumL (part0 W sh n) n).toInt ≤ -1 by omega) (by omega)
      rw [Int.mul_neg, Int.mul_one] at this
      omega
    · exact h
  have hL1 : (W - sumL (part0 W sh n) n).toInt < n := by
    rcases Int.lt_or_le (W - sumL (part0 W sh n) n).toInt n with h | h
    · exact h
    · have := Int.mul_le_mul_of_nonneg_left (c := (sumL sh n).toInt) h (by omega)
      rw [Int.mul_comm _ (n : Int)] at this
      omega
  refine ⟨(W - sumL (part0 W sh n) n).toInt.toNat, by omega, ?_⟩
  rw [← Int64.toInt_inj, lN_toInt (by omega)]
  omega
theorem give_bd {n : Nat} (hn : 1 ≤ n) {A B : Int} : ∀ (t : Nat) {p r : Nat → Int64}, -1000000000000000000 ≤ A → B + t ≤ 1000000000000000000 → (∀ k, k < n → A ≤ (p k).toInt ∧ (p k).toInt ≤ B) → ∀ k, k < n → A ≤ (give n t p r k).toInt ∧ (give n t p r k).toInt ≤ B + t
  | 0, p, r, _, _, h => fun k hk => by have := h k hk; show A ≤ (p k).toInt ∧ (p k).toInt ≤ B + ((0 : Nat) : Int); omega
  | t + 1, p, r, ha, hb, h => fun k hk => by
    have hle := amax_le r (n - 1)
    have e := give_bd hn (A := A) (B := B + 1) t (p := vp_updL p (amax r (n - 1)) (p (amax r (n - 1)) + 1)) (r := vp_updL r (amax r (n - 1)) (-1)) ha (by omega) (fun i hi => by
      by_cases hia : i = amax r (n - 1)
      · have := h i hi
        rw [hia, updL_s, Int64.toInt_add]
        rw [hia] at this
        show A ≤ Int.bmod ((p (amax r (n - 1))).toInt + 1) (2 ^ 64) ∧ Int.bmod ((p (amax r (n - 1))).toInt + 1) (2 ^ 64) ≤ B + 1
        rw [Int.bmod_eq_of_le (by omega) (by omega)]
        omega
      · have := h i hi
        rw [updL_n _ _ hia]; omega) k hk
    show A ≤ (give n t _ _ k).toInt ∧ (give n t _ _ k).toInt ≤ B + ((t + 1 : Nat) : Int)
    omega
theorem partsF_bd {W : Int64} {sh : Nat → Int64} {n : Nat} (h1 : 1 ≤ n) (h6 : n ≤ 6) {A B : Int} (hA : A ≤ 1000000000000) (hB : B ≤ 1000000000000) (hAB : A * B ≤ 1000000000000000) (hW : -A ≤ W.toInt ∧ W.toInt ≤ A) (hs : ∀ k, k < n → 0 ≤ (sh k).toInt ∧ (sh k).toInt ≤ B) (hS : 0 < (sumL sh n).toInt) : ∀ k, k < n → -A ≤ (partsF W sh n k).toInt ∧ (partsF W sh n k).toInt ≤ A + 6 := by
  obtain ⟨⟨L, hL, eL⟩, hb⟩ := left_lt h1 h6 hA hB hAB hW hs hS
  intro k hk
  unfold partsF
  have hc := clampL (lN L)
  rw [lN_toInt (by omega)] at hc
  rw [eL, show (lN L).toNatClampNeg = L by split at hc <;> omega]
  have := give_bd h1 (A := -A) (B := A) L (p := part0 W sh n) (r := rest0 W sh n) (by omega) (by omega) hb k hk
  omega
