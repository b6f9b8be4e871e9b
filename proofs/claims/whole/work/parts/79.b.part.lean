/-! ===== part ===== -/
theorem sumL_T8 {f : Nat → Int64} {A : Int} (h0 : 0 ≤ A) (hA : A ≤ 500000000000000000) : ∀ n, n ≤ 8 → (∀ k, k < n → -A ≤ (f k).toInt ∧ (f k).toInt ≤ A) → (sumL f n).toInt = sumZ (fun k => (f k).toInt) n ∧ -((n : Int) * A) ≤ sumZ (fun k => (f k).toInt) n ∧ sumZ (fun k => (f k).toInt) n ≤ (n : Int) * A
  | 0, _, _ => by
    show (0 : Int64).toInt = 0 ∧ -(((0 : Nat) : Int) * A) ≤ 0 ∧ (0 : Int) ≤ ((0 : Nat) : Int) * A
    rw [show ((0 : Nat) : Int) = 0 from rfl, Int.zero_mul]; exact ⟨rfl, by omega, by omega⟩
  | k + 1, hn, h => by
    show (sumL f k + f k).toInt = sumZ (fun k => (f k).toInt) k + (f k).toInt ∧ -(((k + 1 : Nat) : Int) * A) ≤ sumZ (fun k => (f k).toInt) k + (f k).toInt ∧ sumZ (fun k => (f k).toInt) k + (f k).toInt ≤ ((k + 1 : Nat) : Int) * A
    obtain ⟨h1, h2, h3⟩ := sumL_T8 h0 hA k (by omega) (fun i hi => h i (by omega))
    have h4 := h k (by omega)
    have h5 : ((k + 1 : Nat) : Int) * A = (k : Int) * A + A := by rw [show ((k + 1 : Nat) : Int) = (k : Int) + 1 from rfl, Int.add_mul, Int.one_mul]
    have h6 : (k : Int) * A ≤ 8 * A := Int.mul_le_mul_of_nonneg_right (by omega) h0
    refine ⟨?_, by omega, by omega⟩
    rw [Int64.toInt_add, h1, Int.bmod_eq_of_le (by omega) (by omega)]
theorem sumL_of (f : Nat → Int64) : ∀ n, sumL f n = Int64.ofInt (sumZ (fun k => (f k).toInt) n)
  | 0 => rfl
  | n + 1 => by
    show sumL f n + f n = Int64.ofInt (sumZ (fun k => (f k).toInt) n + (f n).toInt)
    rw [sumL_of f n, Int64.ofInt_add, ofL]
theorem byF_bd {ru : Int32} {fx co : Nat → Int32} {gap : Int64} (hg : -3000000 ≤ gap.toInt ∧ gap.toInt ≤ 3000000) (hcb : ∀ c, c < 6 → ∃ m, 1 ≤ m ∧ m ≤ 181 ∧ co c = nI m) {c : Nat} (hc : c < 6) : -3000006 ≤ (byF ru fx co gap c).toInt ∧ (byF ru fx co gap c).toInt ≤ 3000006 := by
  have zero : (0 : Int64).toInt = 0 := rfl
  unfold byF
  by_cases z : cheapF fx co 6 = -1
  · rw [if_pos z, zero]; omega
  rw [if_neg z]
  by_cases z1 : ru = 1
  · rw [if_pos z1]
    obtain ⟨k, hk, ek, fk⟩ := (cheapF_lt fx co 6).resolve_left z
    have shb : ∀ c, c < 6 → 0 ≤ (if fx c = 0 then (2520 : Int64) / (co c).toInt64 else 0).toInt ∧ (if fx c = 0 then (2520 : Int64) / (co c).toInt64 else 0).toInt ≤ 2520 ∧ (fx c = 0 → 0 < (if fx c = 0 then (2520 : Int64) / (co c).toInt64 else 0).toInt) := fun c hc => by
      obtain ⟨m, m1, m2, em⟩ := hcb c hc
      by_cases z0 : fx c = 0
      · have d1 : 2520 / m ≤ 2520 := Nat.div_le_self _ _
        have d2 : 0 < 2520 / m := Nat.div_pos (by omega) (by omega)
        rw [if_pos z0, em, sh_2520 m1 m2, lN_toInt (by omega)]
        omega
      · rw [if_neg z0]
        exact ⟨Int.le_refl 0, by decide, fun h => absurd h z0⟩
    obtain ⟨t1, t2, t3⟩ := sumL_T (f := fun c => if fx c = 0 then (2520 : Int64) / (co c).toInt64 else 0) (A := 2520) (by decide) (by decide) 6 (by decide) (fun c hc => by have := shb c hc; omega)
    obtain ⟨g1, g2⟩ := sumZ_ge (f := fun c => (if fx c = 0 then (2520 : Int64) / (co c).toInt64 else 0).toInt) 6 (fun c hc => (shb c hc).1)
    have g3 := g2 k hk
    have g4 := (shb k hk).2.2 fk
    have := partsF_bd (W := gap) (sh := fun c => if fx c = 0 then (2520 : Int64) / (co c).toInt64 else 0) (n := 6) (A := 3000000) (B := 2520) (by decide) (by decide) (by decide) (by decide) (by decide) hg (fun c hc => ⟨(shb c hc).1, (shb c hc).2.1⟩) (by rw [t1]; exact Int.lt_of_lt_of_le g4 g3) c hc
    omega
  · rw [if_neg z1]
    split
    · omega
    · rw [zero]; omega
theorem closS_bd {v : Mm} (h : okT v) (lp y : Nat) {q c : Nat} (hq : q < 4) (hc : c < 6) : -3600000 ≤ (closS v lp y q c).toInt ∧ (closS v lp y q c).toInt ≤ 3600000 := by
  have bb : ∀ c, c < 6 → -500000 ≤ (bentC v lp y q c).toInt ∧ (bentC v lp y q c).toInt ≤ 500000 := fun c hc => by
    rw [bentC_at v lp y q hc]; exact bentS_bd h _ _ hq
  have hb := byF_bd (ru := v.1 118 0) (fx := fxC v lp) (co := costC v lp y q) (gapF_bd (sp := v.1 9) bb) (costC_bd h lp y q) hc
  have hb : -3000006 ≤ (byS v lp y q c).toInt ∧ (byS v lp y q c).toInt ≤ 3000006 := hb
  have hc2 := bb c hc
  unfold closS
  split
  · rw [Int64.toInt_sub, Int.bmod_eq_of_le (by omega) (by omega)]; omega
  · rw [Int64.toInt_add, Int.bmod_eq_of_le (by omega) (by omega)]; omega
theorem totS_bd {v : Mm} (h : okT v) (a1 a2 : Int32) {c t : Nat} (hc : c < 6) (ht : t < 12) : -28800000 ≤ (totS v a1 a2 c t 8).toInt ∧ (totS v a1 a2 c t 8).toInt ≤ 28800000 := by
  have zero : (0 : Int64).toInt = 0 := rfl
  unfold totS
  obtain ⟨t1, t2, t3⟩ := sumL_T8 (f := fun k => if inA a1 (k / 4) ∧ inA a2 (k % 4) then closS v k (t / 4) (t % 4) c else 0) (A := 3600000) (by decide) (by decide) 8 (by decide) (fun k hk => by
    have := closS_bd h k (t / 4) (q := t % 4) (by omega) hc
    split
    · omega
    · rw [zero]; omega)
  rw [t1]; omega
theorem volS_bd {u v : Mm} (h : Rel u v) {c t p : Nat} (hc : c < 6) (ht : t < 12) (hp : p < 4) : -288000000 ≤ (volS v c t p).toInt ∧ (volS v c t p).toInt ≤ 288000000 := by
  obtain ⟨-, x, x1, x2, ex⟩ := pri_bd h (show p * 12 + t < 48 by omega)
  have hb := totS_bd (rel_okT h) (-1) (nI p) hc ht
  have eP : (priS v p t).toInt = (x : Int) := by unfold priS; rw [ex, i64_T, nI_toInt (by omega)]
  have hx : ((100 : Int64) * totS v (-1) (nI p) c t 8).toInt = 100 * (totS v (-1) (nI p) c t 8).toInt := by
    rw [Int64.toInt_mul]
    show Int.bmod (100 * (totS v (-1) (nI p) c t 8).toInt) (2 ^ 64) = _
    rw [Int.bmod_eq_of_le (by omega) (by omega)]
  unfold volS
  rw [flo_T (by omega), hx, eP]
  generalize (totS v (-1) (nI p) c t 8).toInt = T at hb
  refine ⟨?_, ?_⟩
  · rw [Int.le_ediv_iff_mul_le (by omega)]
    have : (288000000 : Int) * 10 ≤ 288000000 * (x : Int) := Int.mul_le_mul_of_nonneg_left (by omega) (by omega)
    rw [Int.neg_mul]; omega
  · have : (288000000 : Int) * 10 ≤ 288000000 * (x : Int) := Int.mul_le_mul_of_nonneg_left (by omega) (by omega)
    have h2 : 100 * T / (x : Int) ≤ 288000000 * (x : Int) / (x : Int) := Int.ediv_le_ediv (by omega) (by omega)
    rw [Int.mul_ediv_cancel _ (by omega)] at h2
    exact h2
theorem meaS_bd {u v : Mm} (h : Rel u v) {p y : Nat} (hp : p < 4) (hy : y < 3) : 0 ≤ (meaS v y p).toInt ∧ (meaS v y p).toInt ≤ 4000 := by
  have b : ∀ k, k < 4 → 0 ≤ (priS v p (4 * y + k)).toInt ∧ (priS v p (4 * y + k)).toInt ≤ 1000 := fun k hk => by
    obtain ⟨-, x, x1, x2, ex⟩ := pri_bd h (show p * 12 + (4 * y + k) < 48 by omega)
    unfold priS; rw [ex, i64_T, nI_toInt (by omega)]; omega
  obtain ⟨t1, t2, t3⟩ := sumL_T (f := fun k => priS v p (4 * y + k)) (A := 1000) (by decide) (by decide) 4 (by decide) (fun k hk => by have := b k hk; omega)
  have g := (sumZ_ge (f := fun k => (priS v p (4 * y + k)).toInt) 4 (fun k hk => (b k hk).1)).1
  unfold meaS
  rw [t1]; omega
def v1S (v : Mm) (c t y p : Nat) : Int64 := volS v c t p * meaS v y p
theorem v1S_bd {u v : Mm} (h : Rel u v) {c t y p : Nat} (hc : c < 6) (ht : t < 12) (hy : y < 3) (hp : p < 4) : -1152000000000 ≤ (v1S v c t y p).toInt ∧ (v1S v c t y p).toInt ≤ 1152000000000 := by
  have hv := volS_bd h hc ht hp
  have hm := meaS_bd h hp hy
  unfold v1S
  generalize (volS v c t p) = V at hv
  generalize (meaS v y p) = M at hm
  have b1 : V.toInt * M.toInt ≤ 288000000 * 4000 := by
    have e1 := Int.mul_le_mul_of_nonneg_right (c := M.toInt) hv.2 hm.1
    have e2 := Int.mul_le_mul_of_nonneg_left (c := (288000000 : Int)) hm.2 (by decide)
    omega
  have b2 : -(288000000 * 4000) ≤ V.toInt * M.toInt := by
    have e1 := Int.mul_le_mul_of_nonneg_right (c := M.toInt) hv.1 hm.1
    have e2 := Int.mul_le_mul_of_nonneg_left (c := (288000000 : Int)) hm.2 (by decide)
    rw [Int.neg_mul] at e1
    omega
  rw [Int64.toInt_mul, Int.bmod_eq_of_le (by omega) (by omega)]
  omega
theorem valS_one {v : Mm} {c t y p : Nat} (hp : p < 4) : valS v (nI p) c t y 4 = v1S v c t y p := by
  have e : valS v (nI p) c t y 4 = 0 + (if inA (nI p) 0 then v1S v c t y 0 else 0) + (if inA (nI p) 1 then v1S v c t y 1 else 0) + (if inA (nI p) 2 then v1S v c t y 2 else 0) + (if inA (nI p) 3 then v1S v c t y 3 else 0) := rfl
  rw [e]
  rcases (show p = 0 ∨ p = 1 ∨ p = 2 ∨ p = 3 by omega) with rfl | rfl | rfl | rfl
  · rw [if_pos (by decide), if_neg (by decide), if_neg (by decide), if_neg (by decide)]; grind
  · rw [if_neg (by decide), if_pos (by decide), if_neg (by decide), if_neg (by decide)]; grind
  · rw [if_neg (by decide), if_neg (by decide), if_pos (by decide), if_neg (by decide)]; grind
  · rw [if_neg (by decide), if_neg (by decide), if_neg (by decide), if_pos (by decide)]; grind
theorem valS_all (v : Mm) (c t y n : Nat) : valS v (-1) c t y n = sumL (v1S v c t y) n := by
  unfold valS
  congr 1
def xS (v : Mm) (c t p : Nat) : Int64 := 1000000 * (v1S v c t (t / 4 - 1) p - v1S v c (t - 1) (t / 4 - 1) p)
def lowA (v : Mm) (c t : Nat) : Int64 := valS v (-1) c (t - 1) (t / 4 - 1) 4
def prtP (v : Mm) (c t : Nat) : Nat → Int64 := fun p => flo (xS v c t p) (lowA v c t)
def prtR (v : Mm) (c t : Nat) : Nat → Int64 := fun p => xS v c t p - flo (xS v c t p) (lowA v c t) * lowA v c t
theorem part_left {u v : Mm} (h : Rel u v) {c t : Nat} (hc : c < 6) (h1 : 1 ≤ t) (ht : t < 12) (hl : ¬ lowA v c t ≤ 0) : ∃ L, L < 4 ∧ groS v (-1) c t - 1000000 - sumL (prtP v c t) 4 = lN L := by
  have hS := pos_of hl
  have m6 : (1000000 : Int64).toInt = 1000000 := rfl
  have bV := fun p (hp : p < 4) => v1S_bd h hc ht (show t / 4 - 1 < 3 by omega) hp
  have bW := fun p (hp : p < 4) => v1S_bd h hc (show t - 1 < 12 by omega) (show t / 4 - 1 < 3 by omega) hp
  obtain ⟨v1, v2, v3⟩ := sumL_T (f := v1S v c t (t / 4 - 1)) (A := 1152000000000) (by decide) (by decide) 4 (by decide) bV
  obtain ⟨w1, w2, w3⟩ := sumL_T (f := v1S v c (t - 1) (t / 4 - 1)) (A := 1152000000000) (by decide) (by decide) 4 (by decide) bW
  have eV : valS v (-1) c t (t / 4 - 1) 4 = sumL (v1S v c t (t / 4 - 1)) 4 := valS_all v c t _ 4
  have eW : lowA v c t = sumL (v1S v c (t - 1) (t / 4 - 1)) 4 := valS_all v c (t - 1) _ 4
  have eG : groS v (-1) c t = flo (1000000 * valS v (-1) c t (t / 4 - 1) 4) (lowA v c t) := by
    unfold groS
    have hl2 : ¬ valS v (-1) c (t - 1) (t / 4 - 1) 4 ≤ 0 := hl
    rw [if_neg hl2]
    rfl
  have hx : ∀ p, p < 4 → (xS v c t p).toInt = 1000000 * ((v1S v c t (t / 4 - 1) p).toInt - (v1S v c (t - 1) (t / 4 - 1) p).toInt) := fun p hp => by
    have := bV p hp
    have := bW p hp
    unfold xS
    rw [Int64.toInt_mul, Int64.toInt_sub, m6, Int.bmod_eq_of_le (n := (v1S v c t (t / 4 - 1) p).toInt - (v1S v c (t - 1) (t / 4 - 1) p).toInt) (by omega) (by omega), Int.bmod_eq_of_le (by omega) (by omega)]
  have hG : (groS v (-1) c t).toInt = 1000000 * sumZ (fun k => (v1S v c t (t / 4 - 1) k).toInt) 4 / (lowA v c t).toInt := by
    rw [eG, flo_T hS, Int64.toInt_mul, eV, v1, m6, Int.bmod_eq_of_le (by omega) (by omega)]
  have hSz : (lowA v c t).toInt = sumZ (fun k => (v1S v c (t - 1) (t / 4 - 1) k).toInt) 4 := by rw [eW, w1]
  generalize hSv : (lowA v c t).toInt = S at hS hG hSz
  have hp : ∀ p, p < 4 → (prtP v c t p).toInt = (xS v c t p).toInt / S := fun p hp => by
    unfold prtP
    rw [flo_T (by omega), hSv]
  have hX : sumZ (fun p => (xS v c t p).toInt) 4 = 1000000 * sumZ (fun k => (v1S v c t (t / 4 - 1) k).toInt) 4 - 1000000 * S := by
    rw [sumZ_congr 4 hx, hSz]
    simp only [sumZ]
    omega
  have hsp := sumZ_split S (fun p => (xS v c t p).toInt) 4
  obtain ⟨r1, r2⟩ := sumZ_rest hS (fun p => (xS v c t p).toInt) 4
  generalize hZq : sumZ (fun k => (xS v c t k).toInt / S) 4 = Zq at hsp
  generalize hZr : sumZ (fun k => (xS v c t k).toInt % S) 4 = Zr at hsp r1 r2
  -- growth less a million
  have hg2 : (groS v (-1) c t).toInt - 1000000 = Zq + Zr / S := by
    have e1 : 1000000 * sumZ (fun k => (v1S v c t (t / 4 - 1) k).toInt) 4 = Zr + (Zq + 1000000) * S := by
      rw [Int.add_mul, Int.mul_comm Zq]
      omega
    rw [hG, e1, Int.add_mul_ediv_right _ _ (by omega)]
    omega
  have q0 : 0 ≤ Zr / S := Int.ediv_nonneg r1 (by omega)
  have q1 : Zr / S < 4 := Int.ediv_lt_of_lt_mul hS (by omega)
  have hSum : sumL (prtP v c t) 4 = Int64.ofInt Zq := by
    rw [sumL_of, sumZ_congr 4 hp, hZq]
  refine ⟨(Zr / S).toNat, by omega, ?_⟩
  rw [hSum, ← ofL (groS v (-1) c t), show (1000000 : Int64) = Int64.ofInt 1000000 from rfl, ← Int64.ofInt_sub, ← Int64.ofInt_sub, show (groS v (-1) c t).toInt - 1000000 - Zq = Zr / S by omega, ← Int64.toInt_inj, toL (by omega) (by omega), lN_toInt (by omega)]
  omega
