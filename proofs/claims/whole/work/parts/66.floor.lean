/-! ===== rounding down, over long ===== -/
theorem L_ring1 (a b c : Int64) : a - b - c = a - (b + c) := by grind
theorem L_ring2 (x t y : Int64) : x - (t - 1) * y = x - t * y + y := by grind
theorem ofL (x : Int64) : Int64.ofInt x.toInt = x := Int64.ofInt_toInt x
theorem toL {z : Int} (h1 : -9223372036854775808 ≤ z) (h2 : z < 9223372036854775808) : (Int64.ofInt z).toInt = z := Int64.toInt_ofInt_of_le (by omega) (by omega)
theorem bdL (x : Int64) : -9223372036854775808 ≤ x.toInt ∧ x.toInt < 9223372036854775808 := by
  have h1 := Int64.le_toInt x
  have h2 := Int64.toInt_lt x
  omega
/-- the machine's quotient and rest by a number above 0, in whole numbers -/
theorem quoL {x y : Int64} (hy : 0 < y.toInt) : (0 ≤ jreml x y ∧ (x / y).toInt = x.toInt / y.toInt ∧ (jreml x y).toInt = x.toInt % y.toInt ∧ (0 ≤ x.toInt ∨ jreml x y = 0)) ∨ (¬ 0 ≤ jreml x y ∧ (x / y).toInt = x.toInt / y.toInt + 1 ∧ x.toInt < 0 ∧ ¬ jreml x y = 0) := by
  have bx := bdL x
  have by1 := bdL y
  have e1 : (x / y).toInt = (x.toInt.tdiv y.toInt) := by
    rw [Int64.toInt_div]
    have h1 : -9223372036854775808 ≤ x.toInt.tdiv y.toInt ∧ x.toInt.tdiv y.toInt < 9223372036854775808 := by
      rcases Int.lt_or_le x.toInt 0 with hx | hx
      · have h3 := Int.neg_tdiv x.toInt y.toInt
        have h4 : 0 ≤ (-x.toInt).tdiv y.toInt := Int.tdiv_nonneg (by omega) (by omega)
        have h5 : (-x.toInt).tdiv y.toInt ≤ -x.toInt := Int.tdiv_le_self _ (by omega)
        omega
      · have h4 : 0 ≤ x.toInt.tdiv y.toInt := Int.tdiv_nonneg (by omega) (by omega)
        have h5 : x.toInt.tdiv y.toInt ≤ x.toInt := Int.tdiv_le_self _ (by omega)
        omega
    rw [Int.bmod_eq_of_le (by omega) (by omega)]
  have e2 : jreml x y = Int64.ofInt (x.toInt - x.toInt.tdiv y.toInt * y.toInt) := by
    rw [Int64.ofInt_sub, Int64.ofInt_mul, ofL, ofL, ← e1, ofL]
  have q1 := Int.mul_ediv_add_emod x.toInt y.toInt
  have q2 := Int.emod_nonneg x.toInt (show y.toInt ≠ 0 by omega)
  have q3 := Int.emod_lt_of_pos x.toInt hy
  have q4 := Int.mul_comm y.toInt (x.toInt / y.toInt)
  have z0 : (0 : Int64).toInt = 0 := rfl
  have q5 := @Int.tdiv_eq_ediv x.toInt y.toInt
  have q6 : y.toInt.sign = 1 := Int.sign_eq_one_of_pos hy
  by_cases hc : 0 ≤ x.toInt ∨ y.toInt ∣ x.toInt
  · rw [if_pos hc] at q5
    have e3 : (jreml x y).toInt = x.toInt % y.toInt := by
      rw [e2, q5, Int.add_zero, toL (by omega) (by omega)]; omega
    refine Or.inl ⟨?_, by rw [e1, q5, Int.add_zero], e3, ?_⟩
    · rw [Int64.le_iff_toInt_le, z0, e3]; exact q2
    · rcases hc with hc | hc
      · exact Or.inl hc
      · refine Or.inr ?_
        rw [← Int64.toInt_inj, e3, z0]
        exact Int.emod_eq_zero_of_dvd hc
  · rw [if_neg hc, q6] at q5
    have hr : ¬ x.toInt % y.toInt = 0 := fun z => hc (Or.inr (Int.dvd_of_emod_eq_zero z))
    have q7 : (x.toInt / y.toInt + 1) * y.toInt = x.toInt / y.toInt * y.toInt + y.toInt := by rw [Int.add_mul, Int.one_mul]
    have e3 : (jreml x y).toInt = x.toInt % y.toInt - y.toInt := by
      rw [e2, q5, toL (by omega) (by omega)]; omega
    refine Or.inr ⟨?_, by rw [e1, q5], by omega, ?_⟩
    · rw [Int64.le_iff_toInt_le, z0, e3]; omega
    · rw [← Int64.toInt_inj, e3, z0]; omega
theorem flo_T {x y : Int64} (hy : 0 < y.toInt) : (flo x y).toInt = x.toInt / y.toInt := by
  unfold flo
  rcases quoL (x := x) hy with ⟨h1, h2, -, -⟩ | ⟨h1, h2, h3, h4⟩
  · rw [if_pos h1, h2]
  · rw [if_neg h1, Int64.toInt_sub, h2]
    have b1 := bdL (x / y)
    have b2 := bdL x
    have z1 : (1 : Int64).toInt = 1 := rfl
    have b3 : x.toInt / y.toInt ≤ 0 := Int.ediv_nonpos_of_nonpos_of_neg (by omega) (by omega)
    have b4 : x.toInt ≤ x.toInt / y.toInt := by
      have := Int.mul_ediv_add_emod x.toInt y.toInt
      have := Int.emod_nonneg x.toInt (show y.toInt ≠ 0 by omega)
      have := Int.mul_le_mul_of_nonpos_right (show (1 : Int) ≤ y.toInt by omega) b3
      have := Int.emod_lt_of_pos x.toInt hy
      rcases Int.lt_or_le (x.toInt / y.toInt) x.toInt with hh | hh
      · exfalso
        have h9 : y.toInt * (x.toInt / y.toInt) ≤ y.toInt * (x.toInt - 1) := Int.mul_le_mul_of_nonneg_left (by omega) (by omega)
        have h10 : y.toInt * (x.toInt - 1) = y.toInt * x.toInt - y.toInt := by rw [Int.mul_sub, Int.mul_one]
        have h11 := Int.mul_le_mul_of_nonpos_right (show (1 : Int) ≤ y.toInt by omega) (show x.toInt ≤ 0 by omega)
        omega
      · exact hh
    rw [z1, Int.add_sub_cancel, Int.bmod_eq_of_le (by omega) (by omega)]
theorem rest_T {x y : Int64} (hy : 0 < y.toInt) : (x - flo x y * y).toInt = x.toInt % y.toInt := by
  have e2 : x - flo x y * y = Int64.ofInt (x.toInt - x.toInt / y.toInt * y.toInt) := by
    rw [Int64.ofInt_sub, Int64.ofInt_mul, ofL, ofL, ← flo_T hy, ofL]
  have q1 := Int.mul_ediv_add_emod x.toInt y.toInt
  have q2 := Int.emod_nonneg x.toInt (show y.toInt ≠ 0 by omega)
  have q3 := Int.emod_lt_of_pos x.toInt hy
  have q4 := Int.mul_comm y.toInt (x.toInt / y.toInt)
  have by1 := bdL y
  rw [e2, toL (by omega) (by omega)]
  omega
theorem xor_sg {x y : Int64} (hy : 0 < y.toInt) : (0 : Int64) ≤ x ^^^ y ↔ 0 ≤ x.toInt := by
  have g : ∀ a : Int64, (0 ≤ a.toInt) ↔ a.toBitVec.msb = false := fun a => by
    rw [← Int64.toInt_toBitVec, BitVec.msb_eq_toInt]
    simp
  have hy2 : y.toBitVec.msb = false := (g y).mp (by omega)
  have z0 : (0 : Int64).toInt = 0 := rfl
  rw [Int64.le_iff_toInt_le, z0, g, g, Int64.toBitVec_xor, BitVec.msb_xor, hy2, Bool.xor_false]
theorem ne0_of_pos {y : Int64} (hy : 0 < y.toInt) : ¬ y = 0 := fun e => by
  rw [e] at hy; exact absurd hy (by decide)
theorem floorDiv_w {x y : Int64} (hy : 0 < y.toInt) {Q : Int64 → Prop} (h : Q (flo x y)) : wJ9_floorDiv_f86c9 x y Q := by
  unfold wJ9_floorDiv_f86c9
  refine ⟨ne0_of_pos hy, fun t et => ?_⟩
  subst et
  rw [xor_sg hy]
  unfold flo at h
  rcases quoL (x := x) hy with ⟨h1, h2, h3, h4⟩ | ⟨h1, h2, h3, h4⟩
  · rw [if_pos h1] at h
    refine ⟨fun _ => h, fun c => ⟨fun _ => h, fun c2 => ?_⟩⟩
    rcases h4 with h4 | h4
    · exact absurd h4 c
    · exact absurd (Int64.sub_eq_iff_eq_add.mp h4 |>.symm ▸ (by grind)) c2
  · rw [if_neg h1] at h
    refine ⟨fun c => absurd h3 (by omega), fun c => ⟨fun c2 => ?_, fun _ => h⟩⟩
    exact absurd (by unfold jreml; rw [c2]; grind) h4
theorem floorMod_w {x y : Int64} (hy : 0 < y.toInt) {Q : Int64 → Prop} (h : Q (x - flo x y * y)) : wJ9_floorMod_f86c9 x y Q := by
  unfold wJ9_floorMod_f86c9
  refine ⟨ne0_of_pos hy, fun t et => ?_⟩
  subst et
  rw [xor_sg hy]
  unfold flo at h
  rcases quoL (x := x) hy with ⟨h1, h2, h3, h4⟩ | ⟨h1, h2, h3, h4⟩
  · rw [if_pos h1] at h
    refine ⟨fun _ => h, fun c => ⟨fun _ => h, fun c2 => ?_⟩⟩
    rcases h4 with h4 | h4
    · exact absurd h4 c
    · exact absurd h4 c2
  · rw [if_neg h1, L_ring2] at h
    exact ⟨fun c => absurd h3 (by omega), fun c => ⟨fun c2 => absurd c2 h4, fun _ => h⟩⟩
theorem floR_w {x y : Int64} (hy : ¬ y = 0) {Q : Int64 → Prop} (h : Q (flo x y)) : wX9_floor x y Q := by
  unfold wX9_floor
  refine ⟨hy, fun t et => ⟨hy, ?_⟩⟩
  subst et
  unfold flo at h
  refine ⟨fun c => ?_, fun c => ?_⟩
  · rw [if_pos c] at h; exact h
  · rw [if_neg c] at h; exact h
