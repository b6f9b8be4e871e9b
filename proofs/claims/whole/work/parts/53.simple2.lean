theorem pl12_C (a b : Nat) : (nI a * (12 : Int32)) + nI b = nI (a * 12 + b) := by
  simp only [show (12 : Int32) = nI 12 from rfl, pk_mul, nI_add]
theorem pl12_R (a b : Nat) : ((12 : Int32) * nI a) + nI b = nI (a * 12 + b) := by
  simp only [show (12 : Int32) = nI 12 from rfl, pk_mul, nI_add]
  exact congrArg nI (by omega)
theorem st_price {u v : Mm} (h : Rel u v) (a1 a2 a3 : Int32) : wX8_price u a1 a2 a3 (fun (r : Int32) (u1 : Mm) => wX9_price v a1 a2 a3 (fun (r2 : Int32) (v1 : Mm) => r = r2 ∧ Rel u1 v1)) := by
  unfold wX8_price
  refine below_b 4 (fun n => ?_) (fun p => below_b 12 (fun n => ?_) (fun q => within_b 10 1000 (fun n => ?_) (fun w => ?_)))
  · unfold wX9_price; exact in_b 0 3 (fun _ => ⟨rfl, h⟩) (fun z => absurd z (by omega))
  · unfold wX9_price; exact in_b 0 3 (fun z => absurd p (by omega)) (fun _ => in_b 0 11 (fun _ => ⟨rfl, h⟩) (fun z => absurd z (by omega)))
  · unfold wX9_price; exact in_b 0 3 (fun z => absurd p (by omega)) (fun _ => in_b 0 11 (fun z => absurd q (by omega)) (fun _ => in_b 10 1000 (fun _ => ⟨rfl, h⟩) (fun z => absurd z n)))
  · obtain ⟨i, hi, rfl⟩ := ix_of 4 p
    obtain ⟨j, hj, rfl⟩ := ix_of 12 q
    have hk : i * 12 + j < 48 := by omega
    generalize hke : i * 12 + j = k at hk
    intro x ex
    rw [pl12_C, hke] at ex
    subst ex
    rw [nI_clamp (by omega)]
    refine ⟨vp_in_nI hk (by omega), fun y ey => ⟨vp_in_nI hk (by omega), fun u6 e6 => ?_⟩⟩
    unfold wX9_price
    refine in_b 0 3 (fun z => absurd p (by omega)) (fun _ => in_b 0 11 (fun z => absurd q (by omega)) (fun _ => in_b 10 1000 (fun z => absurd w z) (fun _ => ?_)))
    rw [pl12_R, hke, nI_clamp (by omega)]
    refine ⟨vp_in_nI hk (by omega), fun y2 ey2 => ⟨vp_in_nI hk (by omega), fun v6 f6 => ?_⟩⟩
    subst e6 f6
    obtain ⟨hA, hB, hC, hD, hE, hF, hG, hH, hI, hJ, hK, hL, hM, hN, hO, hP, hQ, hR⟩ := h
    refine ⟨by rw [ey, ey2]; exact (hI k hk).1, hA, hB, hC, hD, hE, hF, hG, hH, ?_, hJ, hK, hL, hM, hN, hO, hP, hQ, hR⟩
    intro m hm
    show upd (u.1 24) k a3 m = upd (v.1 18) k a3 m ∧ 10 ≤ (upd (v.1 18) k a3 m).toInt ∧ (upd (v.1 18) k a3 m).toInt ≤ 1000
    by_cases hmk : m = k
    · subst hmk; rw [upd_s, upd_s]; exact ⟨rfl, w⟩
    · rw [upd_n _ _ hmk, upd_n _ _ hmk]; exact hI m hm
theorem st_precise {u v : Mm} (h : Rel u v) (a1 a2 : Int32) : wX8_precise u a1 a2 (fun (r : Int32) (u1 : Mm) => wX9_precise v a1 a2 (fun (r2 : Int32) (v1 : Mm) => r = r2 ∧ Rel u1 v1)) := by
  unfold wX8_precise
  refine below_b 2 (fun n => ?_) (fun p => isGrade_b (fun n => ?_) (fun q => ?_))
  · unfold wX9_precise; exact in_b 0 1 (fun _ => ⟨rfl, h⟩) (fun z => absurd z (by omega))
  · unfold wX9_precise; exact in_b 0 1 (fun z => absurd p (by omega)) (fun _ => in_b 1 9 (fun _ => ⟨rfl, h⟩) (fun z => absurd z n))
  · obtain ⟨i, hi, rfl⟩ := ix_of 2 p
    rw [nI_clamp (by omega)]
    refine ⟨vp_in_nI hi (by omega), fun x ex => ⟨vp_in_nI hi (by omega), fun u4 e4 => ?_⟩⟩
    unfold wX9_precise
    rw [nI_clamp (by omega)]
    refine in_b 0 1 (fun z => absurd p (by omega)) (fun _ => in_b 1 9 (fun z => absurd q z) (fun _ => ⟨vp_in_nI hi (by omega), fun y ey => ⟨vp_in_nI hi (by omega), fun v4 f4 => ?_⟩⟩))
    subst e4 f4
    obtain ⟨hA, hB, hC, hD, hE, hF, hG, hH, hI, hJ, hK, hL, hM, hN, hO, hP, hQ, hR⟩ := h
    refine ⟨by rw [ex, ey]; exact (hK i hi).1, hA, hB, hC, hD, hE, hF, hG, hH, hI, hJ, ?_, hL, hM, hN, hO, hP, hQ, hR⟩
    intro k hk
    show upd (u.1 31) i a2 k = upd (v.1 20) i a2 k ∧ 1 ≤ (upd (v.1 20) i a2 k).toInt ∧ (upd (v.1 20) i a2 k).toInt ≤ 9
    by_cases hki : k = i
    · subst hki; rw [upd_s, upd_s]; exact ⟨rfl, q⟩
    · rw [upd_n _ _ hki, upd_n _ _ hki]; exact hK k hk
theorem tr_C (l p q w : Nat) : ((((((nI l * (4 : Int32)) + nI p) * (12 : Int32)) + nI q) * (2 : Int32)) + nI w) = nI (((l * 4 + p) * 12 + q) * 2 + w) := by
  simp only [show (4 : Int32) = nI 4 from rfl, show (12 : Int32) = nI 12 from rfl, show (2 : Int32) = nI 2 from rfl, pk_mul, nI_add]
theorem tr_R (l p q w : Nat) : (((((96 : Int32) * nI l) + ((24 : Int32) * nI p)) + ((2 : Int32) * nI q)) + nI w) = nI (((l * 4 + p) * 12 + q) * 2 + w) := by
  simp only [show (96 : Int32) = nI 96 from rfl, show (24 : Int32) = nI 24 from rfl, show (2 : Int32) = nI 2 from rfl, pk_mul, nI_add]
  exact congrArg nI (by omega)
theorem st_trade {u v : Mm} (h : Rel u v) (a1 a2 a3 a4 a5 : Int32) : wX8_trade u a1 a2 a3 a4 a5 (fun (r : Int32) (u1 : Mm) => wX9_trade v a1 a2 a3 a4 a5 (fun (r2 : Int32) (v1 : Mm) => r = r2 ∧ Rel u1 v1)) := by
  unfold wX8_trade
  refine isBalance_b (fun n => ?_) (fun p => within_b 0 1 (fun n => ?_) (fun q => within_b (-1) 100000 (fun n => ?_) (fun w => ?_)))
  · unfold wX9_trade; exact isPlace_b (fun _ => ⟨rfl, h⟩) (fun z => absurd z n)
  · unfold wX9_trade; exact isPlace_b (fun z => absurd p z) (fun _ => in_b 0 1 (fun _ => ⟨rfl, h⟩) (fun z => absurd z n))
  · unfold wX9_trade; exact isPlace_b (fun z => absurd p z) (fun _ => in_b 0 1 (fun z => absurd q z) (fun _ => in_b (-1) 100000 (fun _ => ⟨rfl, h⟩) (fun z => absurd z n)))
  · obtain ⟨l, hl, rfl⟩ := ix_of 2 p.1
    obtain ⟨m, hm, rfl⟩ := ix_of 4 p.2.1
    obtain ⟨t, ht, rfl⟩ := ix_of 12 p.2.2
    obtain ⟨b, hb, rfl⟩ := ix_of 2 (a := a4) (by omega)
    have hk : ((l * 4 + m) * 12 + t) * 2 + b < 192 := by omega
    unfold wX0_placeOf
    rw [tr_C]
    generalize hke : ((l * 4 + m) * 12 + t) * 2 + b = k at hk
    dsimp only
    rw [nI_clamp (by omega)]
    refine ⟨vp_in_nI hk (by omega), fun y ey => ⟨vp_in_nI hk (by omega), fun u6 e6 => ?_⟩⟩
    unfold wX9_trade
    refine isPlace_b (fun z => absurd p z) (fun _ => in_b 0 1 (fun z => absurd q z) (fun _ => in_b (-1) 100000 (fun z => absurd w z) (fun _ x ex => ?_)))
    rw [tr_R, hke] at ex
    subst ex
    rw [nI_clamp (by omega)]
    refine ⟨vp_in_nI hk (by omega), fun y2 ey2 => ⟨vp_in_nI hk (by omega), fun v6 f6 => ?_⟩⟩
    subst e6 f6
    obtain ⟨hA, hB, hC, hD, hE, hF, hG, hH, hI, hJ, hK, hL, hM, hN, hO, hP, hQ, hR⟩ := h
    refine ⟨by rw [ey, ey2]; exact (hJ k hk).1, hA, hB, hC, hD, hE, hF, hG, hH, hI, ?_, hK, hL, hM, hN, hO, hP, hQ, hR⟩
    intro m hm
    show upd (u.1 30) k a5 m = upd (v.1 19) k a5 m ∧ -1 ≤ (upd (v.1 19) k a5 m).toInt ∧ (upd (v.1 19) k a5 m).toInt ≤ 100000
    by_cases hmk : m = k
    · subst hmk; rw [upd_s, upd_s]; exact ⟨rfl, w⟩
    · rw [upd_n _ _ hmk, upd_n _ _ hmk]; exact hJ m hm
theorem sub1 {l : Nat} (hl : l < 2) : (1 : Int32) - nI l = nI (1 - l) := by
  rw [show (1 : Int32) = nI 1 from rfl, pk_sub (by omega)]
theorem st_hidden {u v : Mm} (h : Rel u v) (a1 a2 a3 : Int32) : wX8_hidden u a1 a2 a3 (fun (r : Int32) => wX9_hidden v a1 a2 a3 (fun (r2 : Int32) => r = r2 ∧ Rel u v)) := by
  unfold wX8_hidden
  refine isBalance_b (fun n => ?_) (fun p => ?_)
  · unfold wX9_hidden; exact isPlace_b (fun _ => ⟨rfl, h⟩) (fun z => absurd z n)
  · obtain ⟨l, hl, rfl⟩ := ix_of 2 p.1
    obtain ⟨m, hm, rfl⟩ := ix_of 4 p.2.1
    obtain ⟨t, ht, rfl⟩ := ix_of 12 p.2.2
    have hJ := h.2.2.2.2.2.2.2.2.2.1
    have hk : ((l * 4 + m) * 12 + t) * 2 + 0 < 192 := by omega
    have hk2 : (((1 - l) * 4 + m) * 12 + t) * 2 + 1 < 192 := by omega
    unfold wX0_hiddenOf wX0_placeOf wX9_hidden wX9_soldBy wX9_boughtFrom
    have e1 : ((((((nI l * (4 : Int32)) + nI m) * (12 : Int32)) + nI t) * (2 : Int32)) + (0 : Int32)) = nI (((l * 4 + m) * 12 + t) * 2 + 0) := tr_C l m t 0
    have e2 : (((((((1 : Int32) - nI l) * (4 : Int32)) + nI m) * (12 : Int32) + nI t) * (2 : Int32)) + (1 : Int32)) = nI (((1 - l) * 4 + m) * 12 * 2 + t * 2 + 1) := by
      rw [sub1 hl]
      exact (tr_C (1 - l) m t 1).trans (congrArg nI (by omega))
    have e3 : ((((96 : Int32) * nI l) + ((24 : Int32) * nI m)) + ((2 : Int32) * nI t)) = nI (((l * 4 + m) * 12 + t) * 2 + 0) := by
      simp only [show (96 : Int32) = nI 96 from rfl, show (24 : Int32) = nI 24 from rfl, show (2 : Int32) = nI 2 from rfl, pk_mul, nI_add]
      exact congrArg nI (by omega)
    have e4 : (((((96 : Int32) * ((1 : Int32) - nI l)) + ((24 : Int32) * nI m)) + ((2 : Int32) * nI t)) + (1 : Int32)) = nI (((1 - l) * 4 + m) * 12 * 2 + t * 2 + 1) := by
      rw [sub1 hl]
      exact (tr_R (1 - l) m t 1).trans (congrArg nI (by omega))
    dsimp only
    rw [e1, e2, e3, e4]
    have c1 : (nI (((l * 4 + m) * 12 + t) * 2 + 0)).toNatClampNeg = ((l * 4 + m) * 12 + t) * 2 + 0 := nI_clamp (by omega)
    have c2 : (nI (((1 - l) * 4 + m) * 12 * 2 + t * 2 + 1)).toNatClampNeg = ((1 - l) * 4 + m) * 12 * 2 + t * 2 + 1 := nI_clamp (by omega)
    rw [c1, c2]
    have hk2 : ((1 - l) * 4 + m) * 12 * 2 + t * 2 + 1 < 192 := by omega
    refine ⟨vp_in_nI hk (by omega), fun x ex => ⟨vp_in_nI hk2 (by omega), fun y ey => ?_⟩⟩
    rw [(hJ _ hk).1] at ex
    rw [(hJ _ hk2).1] at ey
    rw [ex, ey]
    refine ⟨fun c => ?_, fun c => ⟨fun d => ?_, fun d => ?_⟩⟩
    · exact isPlace_b (fun z => absurd p z) (fun _ => ⟨vp_in_nI hk (by omega), vp_in_nI hk2 (by omega), fun _ => ⟨rfl, h⟩, fun d => absurd c d⟩)
    · exact isPlace_b (fun z => absurd p z) (fun _ => ⟨vp_in_nI hk (by omega), vp_in_nI hk2 (by omega), fun d => absurd d c, fun _ => ⟨fun _ => ⟨rfl, h⟩, fun e => absurd d e⟩⟩)
    · exact isPlace_b (fun z => absurd p z) (fun _ => ⟨vp_in_nI hk (by omega), vp_in_nI hk2 (by omega), fun e => absurd e c, fun _ => ⟨fun e => absurd e d, fun _ => ⟨rfl, h⟩⟩⟩)
theorem fl_C (a b q : Nat) : ((((nI a * (6 : Int32)) + nI b) * (12 : Int32)) + nI q) = nI ((a * 6 + b) * 12 + q) := by
  simp only [show (6 : Int32) = nI 6 from rfl, show (12 : Int32) = nI 12 from rfl, pk_mul, nI_add]
theorem fl_R (a b q : Nat) : ((((72 : Int32) * nI a) + ((12 : Int32) * nI b)) + nI q) = nI ((a * 6 + b) * 12 + q) := by
  simp only [show (72 : Int32) = nI 72 from rfl, show (12 : Int32) = nI 12 from rfl, pk_mul, nI_add]
  exact congrArg nI (by omega)
theorem refused_bad {Q : Int64 → Prop} (h : Q (-9223372036854775806)) : wX8_refused (-2 : Int32) Q := by
  unfold wX8_refused
  rw [show ((-9223372036854775808 : Int64) - (-2 : Int32).toInt64) = -9223372036854775806 by decide]
  exact h
theorem refused_not {Q : Int64 → Prop} (h : Q (-9223372036854775805)) : wX8_refused (-3 : Int32) Q := by
  unfold wX8_refused
  rw [show ((-9223372036854775808 : Int64) - (-3 : Int32).toInt64) = -9223372036854775805 by decide]
  exact h
theorem st_flow {u v : Mm} (h : Rel u v) (a1 a2 a3 a4 : Int32) : wX8_flow u a1 a2 a3 a4 (fun (r : Int64) (u1 : Mm) => wX9_flow v a1 a2 a3 a4 (fun (r2 : Int64) (v1 : Mm) => r = r2 ∧ Rel u1 v1)) := by
  unfold wX8_flow
  refine below_b 6 (fun n => ?_) (fun p => below_b 6 (fun n => ?_) (fun q => ⟨fun e => ?_, fun e => below_b 12 (fun n => ?_) (fun w => within_b (-100000) 100000 (fun n => ?_) (fun z => ?_))⟩))
  · unfold wX9_flow; exact refused_bad (isSector_b (fun _ => ⟨rfl, h⟩) (fun z => absurd z n))
  · unfold wX9_flow; exact refused_bad (isSector_b (fun z => absurd p z) (fun _ => isSector_b (fun _ => ⟨rfl, h⟩) (fun z => absurd z n)))
  · unfold wX9_flow; exact refused_bad (isSector_b (fun z => absurd p z) (fun _ => isSector_b (fun z => absurd q z) (fun _ => ⟨fun _ => ⟨rfl, h⟩, fun d => absurd e d⟩)))
  · unfold wX9_flow; exact refused_bad (isSector_b (fun z => absurd p z) (fun _ => isSector_b (fun z => absurd q z) (fun _ => ⟨fun d => absurd d e, fun _ => isQuarter_b (fun _ => ⟨rfl, h⟩) (fun z => absurd z n)⟩)))
  · unfold wX9_flow; exact refused_bad (isSector_b (fun z => absurd p z) (fun _ => isSector_b (fun z => absurd q z) (fun _ => ⟨fun d => absurd d e, fun _ => isQuarter_b (fun z => absurd w z) (fun _ => in_b (-100000) 100000 (fun _ => ⟨rfl, h⟩) (fun z => absurd z n))⟩)))
  · unfold wX9_flow
    unfold wX4_addFlow wX4_placeOf
    obtain ⟨a, ha, rfl⟩ := ix_of 6 p
    obtain ⟨b, hb, rfl⟩ := ix_of 6 q
    obtain ⟨t, ht, rfl⟩ := ix_of 12 w
    have hk : (a * 6 + b) * 12 + t < 432 := by omega
    rw [fl_C, fl_R]
    generalize hke : (a * 6 + b) * 12 + t = k at hk
    rw [nI_clamp (by omega)]
    refine ⟨vp_in_nI hk (by omega), vp_in_nI hk (by omega), fun u2 e2 => ⟨vp_in_nI hk (by omega), ?_⟩⟩
    refine isSector_b (fun z => absurd p z) (fun _ => isSector_b (fun z => absurd q z) (fun _ => ⟨fun d => absurd d e, fun _ => isQuarter_b (fun z => absurd w z) (fun _ => in_b (-100000) 100000 (fun y => absurd z y) (fun _ x ex => ?_))⟩))
    subst ex
    rw [nI_clamp (by omega)]
    refine ⟨vp_in_nI hk (by omega), vp_in_nI hk (by omega), fun v2 f2 => ⟨vp_in_nI hk (by omega), ?_⟩⟩
    subst e2 f2
    obtain ⟨hA, hB, hC, hD, hE, hF, hG, hH, hI, hJ, hK, hL, hM, hN, hO, hP, hQ, hR⟩ := h
    refine ⟨?_, hA, hB, hC, hD, hE, hF, hG, hH, hI, hJ, hK, ?_, hM, hN, hO, hP, hQ, hR⟩
    · rw [s64_k, s64_k, updL_s, updL_s, hL k hk]
    · intro m hm
      show vp_updL (u.2 33) k _ m = vp_updL (v.2 21) k _ m
      by_cases hmk : m = k
      · subst hmk; rw [updL_s, updL_s, hL m hk]
      · rw [updL_n _ _ hmk, updL_n _ _ hmk]; exact hL m hm
