/-! ===== the reference's closes ===== -/
theorem cheapF_lt (fx co : Nat → Int32) : ∀ n, cheapF fx co n = -1 ∨ ∃ k, k < n ∧ cheapF fx co n = nI k ∧ fx k = 0
  | 0 => Or.inl rfl
  | n + 1 => by
    show (if fx n = 0 ∧ (cheapF fx co n = -1 ∨ co n < co (cheapF fx co n).toNatClampNeg) then nI n else cheapF fx co n) = -1 ∨ ∃ k, k < n + 1 ∧ (if fx n = 0 ∧ (cheapF fx co n = -1 ∨ co n < co (cheapF fx co n).toNatClampNeg) then nI n else cheapF fx co n) = nI k ∧ fx k = 0
    split
    · rename_i h
      exact Or.inr ⟨n, by omega, rfl, h.1⟩
    · rcases cheapF_lt fx co n with h | ⟨k, hk, h1, h2⟩
      · exact Or.inl h
      · exact Or.inr ⟨k, by omega, h1, h2⟩
theorem sh_2520 {m : Nat} (h1 : 1 ≤ m) (h2 : m ≤ 181) : (2520 : Int64) / (nI m).toInt64 = lN (2520 / m) := by
  rw [nI_l (by omega), show (2520 : Int64) = lN 2520 from rfl, pk_lDiv (by omega) (by omega) (by omega)]
theorem gapR_w {v : Mm} {l p t : Nat} (hl : l < 2) (hp : p < 4) (ht : t < 12) {sp : Nat → Int32} (hsp : ∀ c, c < 6 → v.1 9 c = sp c) {b : Nat → Int64} (hb : ∀ c, c < 6 → v.2 13 (((l * 4 + p) * 6 + c) * 12 + t) = b c) {Q : Int64 → Prop} (h : Q (gapF sp b)) : wX9_gapOf v (nI l) (nI p) (nI t) Q := by
  unfold wX9_gapOf
  unfold gapF at h
  refine loopF (fun f i => wX9_gapOf_b6 v Q f (nI l) (nI p) (nI t) (sumL (fun c => if sp c = 1 then b c else -b c) i) (nI i)) 6 (fun f => ?_) (fun f i hi ih => ?_) 0 (by omega)
  · unfold wX9_gapOf_b6
    exact ⟨fun _ => h, fun cc => absurd ((nI_leI (a := 6) (b := 6) (by omega) (by omega)).mpr (Nat.le_refl _)) cc⟩
  · unfold wX9_gapOf_b6 wX9_cellOf
    rw [cell_R]
    dsimp only
    rw [nI_clamp (n := ((l * 4 + p) * 6 + i) * 12 + t) (by omega), nI_clamp (n := i) (by omega), hb i hi, hsp i hi]
    have e : sumL (fun c => if sp c = 1 then b c else -b c) (i + 1) = sumL (fun c => if sp c = 1 then b c else -b c) i + (if sp i = 1 then b i else -b i) := rfl
    refine ⟨fun cc => absurd ((nI_leI (a := 6) (b := i) (by omega) (by omega)).mp cc) (by omega), fun _ => ⟨vp_in_nI (by omega) (by omega), fun x ex => ⟨vp_in_nI (by omega) (by omega), fun z y ey w ew => ?_, fun z y ey w ew => ?_⟩⟩⟩
    · rw [if_pos z] at e
      rw [ey, ew, ex, nI_1, ← e]; exact ih
    · rw [if_neg z] at e
      rw [ey, ew, ex, nI_1, ← e]; exact ih
theorem closes_w {v : Mm} {l p t : Nat} (hl : l < 2) (hp : p < 4) (ht : t < 12) {sp fx co : Nat → Int32} {b : Nat → Int64}
    (hsp : ∀ c, c < 6 → v.1 9 c = sp c) (hb : ∀ c, c < 6 → v.2 13 (((l * 4 + p) * 6 + c) * 12 + t) = b c)
    (hfx : ∀ c, c < 6 → v.1 14 ((l * 4 + p) * 6 + c) = fx c)
    (hco : ∀ c, c < 6 → (1 : Int32) + v.1 8 (((l * 4 + p) * 6 + c) * 12 + t) + v.1 8 (576 + ((l * 4 + p) * 6 + c) * 3 + t / 4) = co c)
    (hcb : ∀ c, c < 6 → ∃ m, 1 ≤ m ∧ m ≤ 181 ∧ co c = nI m) {Q : Mm → Prop}
    (hq : ∀ v1 : Mm, (∀ k, k ≠ 17 → v1.1 k = v.1 k) → (∀ k, k ≠ 10 → k ≠ 11 → k ≠ 12 → k ≠ 15 → k ≠ 16 → v1.2 k = v.2 k) →
      (∀ c, c < 6 → v1.2 15 (((l * 4 + p) * 6 + c) * 12 + t) = if sp c = 1 then b c - byF (v.1 118 0) fx co (gapF sp b) c else b c + byF (v.1 118 0) fx co (gapF sp b) c) →
      (∀ i, (∀ c, c < 6 → i ≠ ((l * 4 + p) * 6 + c) * 12 + t) → v1.2 15 i = v.2 15 i) →
      v1.2 16 ((l * 4 + p) * 12 + t) = sumL (fun c => amt (byF (v.1 118 0) fx co (gapF sp b) c)) 6 → (∀ i, i ≠ (l * 4 + p) * 12 + t → v1.2 16 i = v.2 16 i) →
      v1.1 17 ((l * 4 + p) * 12 + t) = (if cheapF fx co 6 = -1 ∧ gapF sp b ≠ 0 then 1 else 0) → (∀ i, i ≠ (l * 4 + p) * 12 + t → v1.1 17 i = v.1 17 i) → Q v1) :
    wX9_closes v (nI l) (nI p) (nI t) Q := by
  unfold wX9_closes
  intro x4 e4
  have e4 : x4 = nI ((l * 4 + p) * 12 + t) := by
    rw [e4]
    simp only [show (48 : Int32) = nI 48 from rfl, show (12 : Int32) = nI 12 from rfl, pk_mul, nI_add]
    exact congrArg nI (by omega)
  subst e4
  refine gapR_w hl hp ht hsp hb ?_
  generalize gapF sp b = gap at hq
  generalize hat : (l * 4 + p) * 12 + t = at0 at hq
  generalize hBY : byF (v.1 118 0) fx co gap = BY at hq
  have hat96 : at0 < 96 := by omega
  have vat : vp_in (nI at0) 96 := vp_in_nI hat96 (by omega)
  have cost_w : ∀ (w : Mm), w.1 = v.1 → ∀ c, c < 6 → ∀ R : Int32 → Prop, R (co c) → wX9_costOf w (nI l) (nI p) (nI c) (nI t) R := fun w ew c hc R hR => by
    unfold wX9_costOf wX9_cellOf wX9_annualOf
    rw [show (4 : Int32) = nI 4 from rfl, pk_div (by omega) (by omega) (by omega), cell_R, ann_R]
    dsimp only
    rw [nI_clamp (n := ((l * 4 + p) * 6 + c) * 12 + t) (by omega), nI_clamp (n := 576 + ((l * 4 + p) * 6 + c) * 3 + t / 4) (by omega), ew, hco c hc]
    exact ⟨vp_in_nI (by omega) (by omega), vp_in_nI (by omega) (by omega), hR⟩
  -- the last loop
  have lastL : ∀ w : Mm, (∀ k, k ≠ 17 → w.1 k = v.1 k) → (∀ k, k ≠ 10 → k ≠ 11 → k ≠ 12 → k ≠ 16 → w.2 k = v.2 k) → w.2 16 at0 = 0 → (∀ i, i ≠ at0 → w.2 16 i = v.2 16 i) → w.1 17 at0 = (if cheapF fx co 6 = -1 ∧ gap ≠ 0 then 1 else 0) → (∀ i, i ≠ at0 → w.1 17 i = v.1 17 i) → (¬ cheapF fx co 6 = -1 → v.1 118 0 = 1 → ∀ c, c < 6 → w.2 11 c = BY c) → ∃ f, wX9_closes_b201 Q f w (nI l) (nI p) (nI t) (nI at0) gap (cheapF fx co 6) (0 : Int32) := by
    intro w w1 w2 w3 w4 w5 w6 w7
    refine loopS (fun f i (s : Mm) => wX9_closes_b201 Q f s (nI l) (nI p) (nI t) (nI at0) gap (cheapF fx co 6) (nI i)) (fun i s => s.1 = w.1 ∧ (∀ k, k ≠ 15 → k ≠ 16 → s.2 k = w.2 k) ∧ (∀ c, c < i → s.2 15 (((l * 4 + p) * 6 + c) * 12 + t) = if sp c = 1 then b c - BY c else b c + BY c) ∧ (∀ k, (∀ c, c < 6 → k ≠ ((l * 4 + p) * 6 + c) * 12 + t) → s.2 15 k = v.2 15 k) ∧ s.2 16 at0 = sumL (fun c => amt (BY c)) i ∧ (∀ i, i ≠ at0 → s.2 16 i = v.2 16 i)) 6 (fun f s hJ => ?_) (fun f i s hi hJ ih => ?_) 0 w (by omega) ⟨rfl, fun _ _ _ => rfl, fun q hq => absurd hq (by omega), fun k _ => by rw [w2 15 (by decide) (by decide) (by decide) (by decide)], w3, w4⟩
    · obtain ⟨j1, j2, j3, j4, j5, j6⟩ := hJ
      unfold wX9_closes_b201
      exact ⟨fun _ => hq s (fun k hk => by rw [j1, w1 k hk]) (fun k a1 a2 a3 a4 a5 => by rw [j2 k a4 a5, w2 k a1 a2 a3 a5]) j3 j4 j5 j6 (by rw [j1, w5]) (fun i hi => by rw [j1, w6 i hi]), fun cc => absurd ((nI_leI (a := 6) (b := 6) (by omega) (by omega)).mpr (Nat.le_refl _)) cc⟩
    · obtain ⟨j1, j2, j3, j4, j5, j6⟩ := hJ
      have s9 : s.1 9 i = sp i := by rw [j1, w1 9 (by decide), hsp i hi]
      have s118 : s.1 118 0 = v.1 118 0 := by rw [j1, w1 118 (by decide)]
      have s13 : s.2 13 (((l * 4 + p) * 6 + i) * 12 + t) = b i := by rw [j2 13 (by decide) (by decide), w2 13 (by decide) (by decide) (by decide) (by decide), hb i hi]
      have tail : ∀ y : Int64, y = BY i → wX9_closes_b249 (fun (u : Mm) (x1 : Int32) (x2 : Int32) (x3 : Int32) (x4 : Int32) (x5 : Int64) (x7 : Int32) (x8 : Int32) => wX9_closes_b201 Q f u x1 x2 x3 x4 x5 x7 x8) Q s (nI l) (nI p) (nI t) (nI at0) gap (cheapF fx co 6) (nI i) y := by
        intro y ey
        have tail2 : ∀ x : Int64, x = (if sp i = 1 then b i - BY i else b i + BY i) → wX9_closes_b301 (fun (u : Mm) (x1 : Int32) (x2 : Int32) (x3 : Int32) (x4 : Int32) (x5 : Int64) (x7 : Int32) (x8 : Int32) => wX9_closes_b201 Q f u x1 x2 x3 x4 x5 x7 x8) Q s (nI l) (nI p) (nI t) (nI at0) gap (cheapF fx co 6) (nI i) y x (nI (((l * 4 + p) * 6 + i) * 12 + t)) := by
          intro x ex
          unfold wX9_closes_b301
          rw [nI_clamp (n := ((l * 4 + p) * 6 + i) * 12 + t) (by omega), nI_clamp (n := at0) (by omega)]
          refine ⟨vp_in_nI (by omega) (by omega), fun s1 es => ⟨vat, ?_⟩⟩
          have ham : ∀ R : Int64 → Prop, R (amt y) → wX9_amount y R := fun R hR => by
            unfold wX9_amount
            unfold amt at hR
            refine ⟨fun z => ?_, fun z => ?_⟩
            · rw [if_pos z] at hR; exact hR
            · rw [if_neg z] at hR; exact hR
          refine ham _ ⟨vat, fun s3 es3 z ez => ?_⟩
          rw [ez, nI_1]
          have s116 : s1.2 16 = s.2 16 := by rw [es, s64_n _ _ _ (by decide)]
          refine ih s3 ⟨by rw [es3, es]; exact j1, fun k a1 a2 => by rw [es3, s64_n _ _ _ a2, es, s64_n _ _ _ a1, j2 k a1 a2], fun c hc => ?_, fun k hk => ?_, ?_, fun k hk => ?_⟩
          · rw [es3, s64_n _ _ _ (by decide), es, s64_k]
            by_cases e : c = i
            · subst e; rw [updL_s, ex]
            · rw [updL_n _ _ (by omega), j3 c (by omega)]
          · rw [es3, s64_n _ _ _ (by decide), es, s64_k, updL_n _ _ (hk i hi), j4 k hk]
          · rw [es3, s64_k, updL_s, s116, j5, ey]; rfl
          · rw [es3, s64_k, updL_n _ _ hk, s116, j6 k hk]
        unfold wX9_closes_b249 wX9_cellOf
        rw [cell_R]
        dsimp only
        rw [nI_clamp (n := i) (by omega), nI_clamp (n := ((l * 4 + p) * 6 + i) * 12 + t) (by omega), s9, s13]
        refine ⟨vp_in_nI (by omega) (by omega), fun z => ⟨vp_in_nI (by omega) (by omega), tail2 _ ?_⟩, fun z => ⟨vp_in_nI (by omega) (by omega), tail2 _ ?_⟩⟩
        · rw [if_pos z, ey]
        · rw [if_neg z, ey]
      unfold wX9_closes_b201
      rw [nI_clamp (n := i) (by omega), s118]
      refine ⟨fun cc => absurd ((nI_leI (a := 6) (b := i) (by omega) (by omega)).mp cc) (by omega), fun _ => ⟨fun z => tail _ ?_, fun z => ⟨fun z2 => ⟨vp_in_nI (by omega) (by omega), tail _ ?_⟩, fun z2 => ⟨fun z3 => tail _ ?_, fun z3 => tail _ ?_⟩⟩⟩⟩
      · rw [← hBY]; unfold byF; rw [if_pos z]
      · rw [j2 11 (by decide) (by decide)]; exact w7 z z2 i hi
      · rw [← hBY]; unfold byF; rw [if_neg z, if_neg z2, if_pos z3]
      · rw [← hBY]; unfold byF; rw [if_neg z, if_neg z2, if_neg z3]
  -- the first loop
  have key : ∃ f, (fun f i (s : Mm) => wX9_closes_b28 Q f s (nI l) (nI p) (nI t) (nI at0) gap (cheapF fx co i) (nI i)) f 0 v := by
    refine loopS (fun f i (s : Mm) => wX9_closes_b28 Q f s (nI l) (nI p) (nI t) (nI at0) gap (cheapF fx co i) (nI i)) (fun i s => s.1 = v.1 ∧ (∀ k, k ≠ 10 → s.2 k = v.2 k) ∧ (∀ c, c < i → s.2 10 c = if fx c = 0 then 2520 / (co c).toInt64 else 0)) 6 (fun f s hJ => ?_) (fun f i s hi hJ ih => ?_) 0 v (by omega) ⟨rfl, fun _ _ => rfl, fun q hq => absurd hq (by omega)⟩
    · obtain ⟨j1, j2, j3⟩ := hJ
      have mid : ∀ y : Int32, (y = 0 ∨ y = 1) → y = (if cheapF fx co 6 = -1 ∧ gap ≠ 0 then 1 else 0) → wX9_closes_b175 Q s (nI l) (nI p) (nI t) (nI at0) gap (cheapF fx co 6) y (nI at0) := by
        intro y hy01 ey
        have hnar : vp_nar .boolean y = y := by rcases hy01 with h | h <;> rw [h] <;> rfl
        unfold wX9_closes_b175
        rw [nI_clamp (n := at0) (by omega), hnar]
        refine ⟨vat, fun s1 es => ⟨vat, fun s2 es2 => ?_⟩⟩
        have a1 : ∀ k, k ≠ 17 → s2.1 k = v.1 k := fun k hk => by rw [es2, s64_1, es, s32_n _ _ _ hk, j1]
        have a2 : ∀ k, k ≠ 10 → k ≠ 16 → s2.2 k = v.2 k := fun k h1 h2 => by rw [es2, s64_n _ _ _ h2, es, s32_2, j2 k h1]
        have a3 : s2.2 16 at0 = 0 := by rw [es2, s64_k, updL_s]
        have a4 : ∀ i, i ≠ at0 → s2.2 16 i = v.2 16 i := fun i hi => by rw [es2, s64_k, updL_n _ _ hi, es, s32_2, j2 16 (by decide)]
        have a5 : s2.1 17 at0 = (if cheapF fx co 6 = -1 ∧ gap ≠ 0 then 1 else 0) := by rw [es2, s64_1, es, s32_k, upd_s, ey]
        have a6 : ∀ i, i ≠ at0 → s2.1 17 i = v.1 17 i := fun i hi => by rw [es2, s64_1, es, s32_k, upd_n _ _ hi, j1]
        have a10 : ∀ c, c < 6 → s2.2 10 c = if fx c = 0 then 2520 / (co c).toInt64 else 0 := fun c hc => by rw [es2, s64_n _ _ _ (by decide), es, s32_2, j3 c hc]
        refine ⟨fun z => lastL s2 a1 (fun k h1 _ _ h4 => a2 k h1 h4) a3 a4 a5 a6 (fun h => absurd z h), fun z => parts_w (n := 6) (by decide) (by decide) ?_ (fun s3 e1 e2 e3 => lastL s3 (fun k hk => by rw [e1, a1 k hk]) (fun k h1 h2 h3 h4 => by rw [e2 k h2 h3, a2 k h1 h4]) (by rw [e2 16 (by decide) (by decide), a3]) (fun i hi => by rw [e2 16 (by decide) (by decide), a4 i hi]) (by rw [e1, a5]) (fun i hi => by rw [e1, a6 i hi]) (fun _ hr c hc => ?_))⟩
        · rw [sumL_congr 6 a10]
          obtain ⟨k, hk, ek, fk⟩ := (cheapF_lt fx co 6).resolve_left z
          have shb : ∀ c, c < 6 → 0 ≤ (if fx c = 0 then (2520 : Int64) / (co c).toInt64 else 0).toInt ∧ (if fx c = 0 then (2520 : Int64) / (co c).toInt64 else 0).toInt ≤ 2520 ∧ (fx c = 0 → 0 < (if fx c = 0 then (2520 : Int64) / (co c).toInt64 else 0).toInt) := fun c hc => by
            obtain ⟨m, m1, m2, em⟩ := hcb c hc
            by_cases z0 : fx c = 0
            · have d1 : 2520 / m ≤ 2520 := Nat.div_le_self _ _
              have d2 : 0 < 2520 / m := Nat.div_pos (by omega) (by omega)
              rw [if_pos z0, em, sh_2520 m1 m2, lN_toInt (by omega)]
              omega
            · rw [if_neg z0]
              exact ⟨Int.le_refl 0, by decide, fun h => absurd h z0⟩
          obtain ⟨t1, t2, t3⟩ := sumL_T (f := fun c => if fx c = 0 then (2520 : Int64) / (co c).toInt64 else 0) (A := 2520) (by decide) (by decide) 6 (by decide) (fun c hc => by have := shb c hc; omega)
          obtain ⟨g1, g2⟩ := sumZ_ge (f := fun c => (if fx c = 0 then (2520 : Int64) / (co c).toInt64 else 0).toInt) 6 (fun c hc => (shb c hc).1)
          have g3 := g2 k hk
          have g4 := (shb k hk).2.2 fk
          refine ne0_of_pos ?_
          rw [t1]
          exact Int.lt_of_lt_of_le g4 g3
        · rw [e3 c hc, ← hBY]
          unfold byF
          rw [if_neg z, if_pos hr]
          exact partsF_congr (by decide) a10 c hc
      unfold wX9_closes_b28
      refine ⟨fun _ => ⟨fun z => ⟨fun z2 => mid 0 (Or.inl rfl) ?_, fun z2 => mid 1 (Or.inr rfl) ?_⟩, fun z => mid 0 (Or.inl rfl) ?_⟩, fun cc => absurd ((nI_leI (a := 6) (b := 6) (by omega) (by omega)).mpr (Nat.le_refl _)) cc⟩
      · rw [if_neg (fun h => h.2 z2)]
      · rw [if_pos ⟨z, z2⟩]
      · rw [if_neg (fun h => z h.1)]
    · obtain ⟨j1, j2, j3⟩ := hJ
      have e48 : (((24 : Int32) * nI l) + ((6 : Int32) * nI p)) + nI i = nI ((l * 4 + p) * 6 + i) := by
        simp only [show (24 : Int32) = nI 24 from rfl, show (6 : Int32) = nI 6 from rfl, pk_mul, nI_add]
        exact congrArg nI (by omega)
      have s14 : s.1 14 ((l * 4 + p) * 6 + i) = fx i := by rw [j1, hfx i hi]
      have ech : cheapF fx co (i + 1) = if fx i = 0 ∧ (cheapF fx co i = -1 ∨ co i < co (cheapF fx co i).toNatClampNeg) then nI i else cheapF fx co i := rfl
      have vi : vp_in (nI i) 6 := vp_in_nI (by omega) (by omega)
      have nxt : ∀ (s1 : Mm) (x : Int64), x = (if fx i = 0 then 2520 / (co i).toInt64 else 0) → s1 = s64 s 10 i x → wX9_closes_b28 Q f s1 (nI l) (nI p) (nI t) (nI at0) gap (cheapF fx co (i + 1)) (nI (i + 1)) := fun s1 x ex es => by
        refine ih s1 ⟨by rw [es]; exact j1, fun k hk => by rw [es, s64_n _ _ _ hk, j2 k hk], fun c hc => ?_⟩
        rw [es, s64_k]
        by_cases e : c = i
        · subst e; rw [updL_s, ex]
        · rw [updL_n _ _ e, j3 c (by omega)]
      have n113 : ∀ (m9 y : Int32), ((fx i = 0 ∧ m9 = 1) ∨ (¬ fx i = 0 ∧ m9 = 0)) → y = cheapF fx co (i + 1) → wX9_closes_b113 (fun (u : Mm) (x1 : Int32) (x2 : Int32) (x3 : Int32) (x4 : Int32) (x5 : Int64) (x7 : Int32) (x8 : Int32) => wX9_closes_b28 Q f u x1 x2 x3 x4 x5 x7 x8) Q s (nI l) (nI p) (nI t) (nI at0) gap (nI i) m9 y := fun m9 y hm ey => by
        unfold wX9_closes_b113
        rw [nI_clamp (n := i) (by omega)]
        obtain ⟨m, m1, m2, em⟩ := hcb i hi
        refine ⟨fun z => ⟨vi, fun s1 es x ex => ?_⟩, fun z => cost_w s j1 i hi _ ⟨?_, vi, fun s1 es x ex => ?_⟩⟩
        · rw [ex, nI_1, ey]
          refine nxt s1 0 ?_ es
          rcases hm with ⟨h1, h2⟩ | ⟨h1, h2⟩
          · rw [h2] at z; exact absurd z (by decide)
          · rw [if_neg h1]
        · rw [em, nI_l (by omega)]; exact lN_ne0 (by omega) (by omega)
        · rw [ex, nI_1, ey]
          refine nxt s1 _ ?_ es
          rcases hm with ⟨h1, h2⟩ | ⟨h1, h2⟩
          · rw [if_pos h1]
          · exact absurd h2 z
      unfold wX9_closes_b28
      rw [e48, nI_clamp (n := (l * 4 + p) * 6 + i) (by omega), s14]
      refine ⟨fun cc => absurd ((nI_leI (a := 6) (b := i) (by omega) (by omega)).mp cc) (by omega), fun _ => ⟨vp_in_nI (by omega) (by omega), fun z => ?_, fun z => ?_⟩⟩
      · unfold wX9_closes_b60
        refine ⟨fun h => absurd h (by decide), fun _ => ⟨fun z1 => ?_, fun z1 => ?_⟩⟩
        · unfold wX9_closes_b99
          refine ⟨fun h => absurd h (by decide), fun _ => n113 1 (nI i) (Or.inl ⟨z, rfl⟩) ?_⟩
          rw [ech, if_pos ⟨z, Or.inl z1⟩]
        · obtain ⟨k, hk, ek, fk⟩ := (cheapF_lt fx co i).resolve_left z1
          rw [ek]
          refine cost_w s j1 i hi _ (cost_w s j1 k (by omega) _ ⟨fun z2 => ?_, fun z2 => ?_⟩)
          · unfold wX9_closes_b99
            refine ⟨fun _ => n113 1 (nI k) (Or.inl ⟨z, rfl⟩) ?_, fun h => absurd rfl h⟩
            rw [ech, if_neg, ek]
            rintro ⟨-, h | h⟩
            · exact z1 h
            · rw [ek, nI_clamp (n := k) (by omega), Int32.lt_iff_toInt_lt] at h
              rw [Int32.le_iff_toInt_le] at z2
              omega
          · unfold wX9_closes_b99
            refine ⟨fun h => absurd h (by decide), fun _ => n113 1 (nI i) (Or.inl ⟨z, rfl⟩) ?_⟩
            rw [ech, if_pos]
            refine ⟨z, Or.inr ?_⟩
            rw [ek, nI_clamp (n := k) (by omega), Int32.lt_iff_toInt_lt]
            rw [Int32.le_iff_toInt_le] at z2
            omega
      · unfold wX9_closes_b60
        refine ⟨fun _ => ?_, fun h => absurd rfl h⟩
        unfold wX9_closes_b99
        refine ⟨fun _ => n113 0 (cheapF fx co i) (Or.inr ⟨z, rfl⟩) ?_, fun h => absurd rfl h⟩
        rw [ech, if_neg (fun h => z h.1)]
  exact key
