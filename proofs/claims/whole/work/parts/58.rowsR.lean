/-! ===== the reference's rows ===== -/
theorem bestR_lt (RS RC RL : Nat → Int32) (code src last upTo : Int32) : ∀ i, bestR RS RC RL code src last upTo i = -1 ∨ ∃ k, k < i ∧ bestR RS RC RL code src last upTo i = nI k ∧ isRow RS RC RL code src last upTo k
  | 0 => Or.inl rfl
  | i + 1 => by
    unfold bestR
    by_cases c : isRow RS RC RL code src last upTo i ∧ (bestR RS RC RL code src last upTo i = -1 ∨ RL (bestR RS RC RL code src last upTo i).toNatClampNeg ≤ RL i)
    · rw [if_pos c]; exact Or.inr ⟨i, by omega, rfl, c.1⟩
    · rw [if_neg c]
      rcases bestR_lt RS RC RL code src last upTo i with h | ⟨k, h1, h2⟩
      · exact Or.inl h
      · exact Or.inr ⟨k, by omega, h2⟩
theorem nI_ne1 {k : Nat} (hk : k < 1000) : ¬ nI k = -1 := fun h => by
  have := congrArg Int32.toInt h
  rw [nI_toInt (by omega)] at this
  have e : (-1 : Int32).toInt = -1 := by decide
  rw [e] at this
  omega
theorem countR_w {v : Mm} {n : Nat} (hn : v.1 101 0 = nI n) (hn80 : n ≤ 80) (code src last upTo : Int32) {Q : Int32 → Prop} (h : Q (bestR (v.1 2) (v.1 3) (v.1 5) code src last upTo n)) : wX9_countingRow v code src last upTo Q := by
  unfold wX9_countingRow
  refine loopF (fun m i => wX9_countingRow_b6 v Q m code src last upTo (bestR (v.1 2) (v.1 3) (v.1 5) code src last upTo i) (nI i)) n (fun m => ?_) (fun m i hi ih => ?_) 0 (by omega)
  · unfold wX9_countingRow_b6
    rw [hn]
    exact ⟨fun _ => h, fun c => absurd ((nI_leI (by omega) (by omega)).mpr (Nat.le_refl n)) c⟩
  · have hb := bestR_lt (v.1 2) (v.1 3) (v.1 5) code src last upTo i
    have e : bestR (v.1 2) (v.1 3) (v.1 5) code src last upTo (i + 1) = if isRow (v.1 2) (v.1 3) (v.1 5) code src last upTo i ∧ (bestR (v.1 2) (v.1 3) (v.1 5) code src last upTo i = -1 ∨ v.1 5 (bestR (v.1 2) (v.1 3) (v.1 5) code src last upTo i).toNatClampNeg ≤ v.1 5 i) then nI i else bestR (v.1 2) (v.1 3) (v.1 5) code src last upTo i := rfl
    rw [e] at ih
    generalize bestR (v.1 2) (v.1 3) (v.1 5) code src last upTo i = S at hb ih ⊢
    have k0 : ¬ isRow (v.1 2) (v.1 3) (v.1 5) code src last upTo i → wX9_countingRow_b70 v (fun (x1 : Int32) (x2 : Int32) (x3 : Int32) (x4 : Int32) (x5 : Int32) (x6 : Int32) => wX9_countingRow_b6 v Q m x1 x2 x3 x4 x5 x6) Q code src last upTo S (nI i) (0 : Int32) := by
      intro hr
      rw [if_neg (fun z => hr z.1)] at ih
      unfold wX9_countingRow_b70
      refine br0 (fun x ex => ?_)
      rw [ex, nI_1]
      exact ih
    have k1 : isRow (v.1 2) (v.1 3) (v.1 5) code src last upTo i → wX9_countingRow_b70 v (fun (x1 : Int32) (x2 : Int32) (x3 : Int32) (x4 : Int32) (x5 : Int32) (x6 : Int32) => wX9_countingRow_b6 v Q m x1 x2 x3 x4 x5 x6) Q code src last upTo S (nI i) (1 : Int32) := by
      intro hr
      unfold wX9_countingRow_b70
      refine br1 ⟨fun c x ex => ?_, fun c => ?_⟩
      · rw [if_pos ⟨hr, Or.inl c⟩] at ih
        rw [ex, nI_1]
        exact ih
      · obtain ⟨k, hk, rfl, -⟩ := hb.resolve_left c
        rw [nI_clamp (n := k) (by omega)] at ih ⊢
        rw [nI_clamp (n := i) (by omega)]
        refine ⟨vp_in_nI (by omega) (by omega), vp_in_nI (by omega) (by omega), fun d x ex => ?_, fun d x ex => ?_⟩
        · rw [if_neg (fun z => z.2.elim (fun y => c y) (fun y => absurd d (Int32.not_lt.mpr y)))] at ih
          rw [ex, nI_1]
          exact ih
        · rw [if_pos ⟨hr, Or.inr (Int32.not_lt.mp d)⟩] at ih
          rw [ex, nI_1]
          exact ih
    unfold wX9_countingRow_b6
    rw [hn, nI_clamp (n := i) (by omega)]
    refine ⟨fun c => absurd ((nI_leI (by omega) (by omega)).mp c) (by omega), fun _ => ⟨vp_in_nI (by omega) (by omega), fun c1 => ⟨vp_in_nI (by omega) (by omega), fun c2 => ⟨vp_in_nI (by omega) (by omega), fun c3 => ?_, fun c3 => ⟨vp_in_nI (by omega) (by omega), fun c4 => ⟨fun c5 => ?_, fun c5 => ?_⟩, fun c4 => ?_⟩⟩, fun c2 => ?_⟩, fun c1 => ?_⟩⟩
    · exact k1 ⟨c1, c2, Or.inl c3⟩
    · exact k0 (fun z => z.2.2.elim (fun y => c3 y) (fun y => absurd c5 (Int32.not_lt.mpr y.2)))
    · exact k1 ⟨c1, c2, Or.inr ⟨c4, Int32.not_lt.mp c5⟩⟩
    · exact k0 (fun z => z.2.2.elim (fun y => c3 y) (fun y => c4 y.1))
    · exact k0 (fun z => c2 z.2.1)
    · exact k0 (fun z => c1 z.1)
theorem two_ne {w : Int32} (h : ¬ w = 0) : ¬ (2 : Int64) * w.toInt64 = 0 := fun e => h (by
  have e2 := congrArg Int64.toInt e
  rw [Int64.toInt_mul, i64_T] at e2
  have b1 := Int32.le_toInt w
  have b2 := Int32.toInt_lt w
  have t2 : (2 : Int64).toInt = 2 := by decide
  have t0 : (0 : Int64).toInt = 0 := by decide
  rw [t2, t0, Int.bmod_eq_of_le (by omega) (by omega)] at e2
  rw [← Int32.toInt_inj]
  have z : (0 : Int32).toInt = 0 := by decide
  rw [z]
  omega)
theorem s32_s32 (u : Mm) (k i : Nat) (x y : Int32) : s32 (s32 u k i x) k i y = s32 u k i y := by
  unfold s32
  refine Prod.ext ?_ rfl
  funext q
  by_cases hq : q = k
  · subst hq
    simp only [if_true]
    funext j
    unfold upd
    by_cases hj : j = i
    · simp [hj]
    · simp [hj]
  · simp only [if_neg hq]
theorem saidBy_w {v : Mm} {n : Nat} (hn : v.1 101 0 = nI n) (hn80 : n ≤ 80) (code last upTo : Int32) {Q : Int64 → Mm → Prop} (h : Q (saidR (v.1 1) (v.1 2) (v.1 3) (v.1 4) (v.1 5) n code last upTo) (s32 v 111 0 (wgtR (v.1 1) (v.1 2) (v.1 3) (v.1 5) n code last upTo 10))) : wX9_saidBy v code last upTo Q := by
  unfold wX9_saidBy
  intro u1 e1
  subst e1
  refine loopF (fun m i => wX9_saidBy_b11 Q m (s32 v 111 0 (wgtR (v.1 1) (v.1 2) (v.1 3) (v.1 5) n code last upTo i)) code last upTo (sumR (v.1 1) (v.1 2) (v.1 3) (v.1 4) (v.1 5) n code last upTo i) (nI i)) 10 (fun m => ?_) (fun m i hi ih => ?_) 0 (by omega)
  · unfold wX9_saidBy_b11
    refine ⟨fun _ => ?_, fun c => absurd ((nI_leI (a := 10) (b := 10) (by omega) (by omega)).mpr (Nat.le_refl 10)) c⟩
    rw [s32_k, upd_s]
    unfold saidR at h
    refine ⟨fun c => ?_, fun c => ⟨two_ne c, ?_⟩⟩
    · rw [if_pos c] at h; exact h
    · rw [if_neg c] at h; exact h
  · unfold wX9_saidBy_b11
    refine ⟨fun c => absurd ((nI_leI (a := 10) (b := i) (by omega) (by omega)).mp c) (by omega), fun _ => countR_w (v := s32 v 111 0 _) hn hn80 _ _ _ _ ?_⟩
    have q1 : ∀ w, (s32 v 111 0 w).1 1 = v.1 1 := fun _ => rfl
    have q2 : ∀ w, (s32 v 111 0 w).1 2 = v.1 2 := fun _ => rfl
    have q3 : ∀ w, (s32 v 111 0 w).1 3 = v.1 3 := fun _ => rfl
    have q4 : ∀ w, (s32 v 111 0 w).1 4 = v.1 4 := fun _ => rfl
    have q5 : ∀ w, (s32 v 111 0 w).1 5 = v.1 5 := fun _ => rfl
    simp only [q1, q2, q3, q4, q5]
    have e1 : wgtR (v.1 1) (v.1 2) (v.1 3) (v.1 5) n code last upTo (i + 1) = if bestR (v.1 2) (v.1 3) (v.1 5) code (nI i) last upTo n = -1 then wgtR (v.1 1) (v.1 2) (v.1 3) (v.1 5) n code last upTo i else wgtR (v.1 1) (v.1 2) (v.1 3) (v.1 5) n code last upTo i + v.1 1 i := rfl
    have e2 : sumR (v.1 1) (v.1 2) (v.1 3) (v.1 4) (v.1 5) n code last upTo (i + 1) = if bestR (v.1 2) (v.1 3) (v.1 5) code (nI i) last upTo n = -1 then sumR (v.1 1) (v.1 2) (v.1 3) (v.1 4) (v.1 5) n code last upTo i else sumR (v.1 1) (v.1 2) (v.1 3) (v.1 4) (v.1 5) n code last upTo i + (v.1 1 i).toInt64 * (v.1 4 (bestR (v.1 2) (v.1 3) (v.1 5) code (nI i) last upTo n).toNatClampNeg).toInt64 := rfl
    rw [e1, e2] at ih
    have hb := bestR_lt (v.1 2) (v.1 3) (v.1 5) code (nI i) last upTo n
    refine ⟨fun c x ex => ?_, fun c => ?_⟩
    · rw [if_pos c, if_pos c] at ih
      rw [ex, nI_1]
      exact ih
    · rw [if_neg c, if_neg c] at ih
      obtain ⟨k, hk, ek, -⟩ := hb.resolve_left c
      rw [ek] at ih ⊢
      refine ⟨vp_in_nI hi (by omega), vp_in_nI (by omega) (by omega), fun x ex => ⟨vp_in_nI hi (by omega), fun u4 e4 y ey => ?_⟩⟩
      rw [nI_clamp (n := i) (by omega)] at ex e4
      rw [s32_s32, s32_k, upd_s] at e4
      rw [ey, nI_1, e4, ex]
      exact ih
