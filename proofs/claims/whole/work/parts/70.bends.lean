/-! ===== the reference's bends ===== -/
theorem unsB_le (w : Nat → Int32) : ∀ k, unsB w k ≤ k
  | 0 => Nat.le_refl 0
  | k + 1 => by
    have := unsB_le w k
    show (if w k = 0 then unsB w k + 1 else unsB w k) ≤ k + 1
    split <;> omega
theorem unsB_mono (w : Nat → Int32) (a : Nat) : ∀ d, unsB w a ≤ unsB w (a + d)
  | 0 => Nat.le_refl _
  | d + 1 => by
    have := unsB_mono w a d
    show unsB w a ≤ (if w (a + d) = 0 then unsB w (a + d) + 1 else unsB w (a + d))
    split <;> omega
theorem sumL_one : ∀ n, sumL (fun _ => (1 : Int64)) n = lN n
  | 0 => rfl
  | n + 1 => by
    show sumL (fun _ => (1 : Int64)) n + 1 = lN (n + 1)
    rw [sumL_one n, lN_1]
theorem lN_ne0 {n : Nat} (h0 : 0 < n) (h : n < 2147483648) : ¬ lN n = 0 := fun e => by
  have := congrArg Int64.toInt e
  rw [lN_toInt (by omega)] at this
  have z : (0 : Int64).toInt = 0 := rfl
  omega
theorem bends_w {v : Mm} {l p c y : Nat} (hl : l < 2) (hp : p < 4) (hc : c < 6) (hy : y < 3) {F G : Nat} (eF : F = ((l * 4 + p) * 6 + c) * 12 + 4 * y) (eG : G = 576 + ((l * 4 + p) * 6 + c) * 3 + y) (hw : ∀ k, k < 4 → 0 ≤ (v.1 8 (F + k)).toInt) {Q : Mm → Prop}
    (hq : ∀ v1 : Mm, v1.1 = v.1 → (∀ k, k ≠ 10 → k ≠ 11 → k ≠ 12 → k ≠ 13 → v1.2 k = v.2 k) → (∀ q, q < 4 → v1.2 13 (F + q) = bentF (fun k => if k < 4 then v.1 8 (F + k) else 0) (fun k => if k < 4 then v.2 7 (F + k) else 0) (v.1 8 G) (v.2 7 G) q) → (∀ i, i < F ∨ F + 4 ≤ i → v1.2 13 i = v.2 13 i) → Q v1) : wX9_bends v (nI l) (nI p) (nI c) (nI y) Q := by
  have hF : F + 4 ≤ 576 := by omega
  have hG : G < 720 := by omega
  unfold wX9_bends wX9_cellOf wX9_annualOf
  rw [show (4 : Int32) * nI y = nI (4 * y) by rw [show (4 : Int32) = nI 4 from rfl, pk_mul], cell_R, ann_R, ← eF, ← eG]
  generalize hwf : (fun k => if k < 4 then v.1 8 (F + k) else 0) = w at hq
  generalize hsf : (fun k => if k < 4 then v.2 7 (F + k) else 0) = sd at hq
  have hwk : ∀ k, k < 4 → v.1 8 (F + k) = w k := fun k hk => by rw [← hwf]; show _ = (if k < 4 then v.1 8 (F + k) else 0); rw [if_pos hk]
  have hsk : ∀ k, k < 4 → v.2 7 (F + k) = sd k := fun k hk => by rw [← hsf]; show _ = (if k < 4 then v.2 7 (F + k) else 0); rw [if_pos hk]
  have n4 : nI F + (4 : Int32) = nI (F + 4) := by rw [show (4 : Int32) = nI 4 from rfl, nI_add]
  have fin : ∀ v1 : Mm, v1.1 = v.1 → (∀ k, k ≠ 10 → k ≠ 11 → k ≠ 12 → k ≠ 13 → v1.2 k = v.2 k) → (∀ q, q < 4 → v1.2 13 (F + q) = bentF w sd (v.1 8 G) (v.2 7 G) q) → (∀ i, i < F ∨ F + 4 ≤ i → v1.2 13 i = v.2 13 i) → Q v1 := hq
  -- the first loop
  have key : ∃ f, (fun f i (t : Mm) => wX9_bends_b32 Q f t (nI F) (nI G) (nI (i - unsB w i)) (sumL sd i) (nI (F + i))) f 0 v := by
    refine loopS (fun f i (t : Mm) => wX9_bends_b32 Q f t (nI F) (nI G) (nI (i - unsB w i)) (sumL sd i) (nI (F + i))) (fun i t => t.1 = v.1 ∧ (∀ k, k ≠ 13 → t.2 k = v.2 k) ∧ (∀ q, q < i → t.2 13 (F + q) = sd q) ∧ (∀ q, q < F ∨ F + i ≤ q → t.2 13 q = v.2 13 q)) 4 (fun f t hI => ?_) (fun f i t hi hI ih => ?_) 0 v (by omega) ⟨rfl, fun _ _ => rfl, fun q hq => absurd hq (by omega), fun _ _ => rfl⟩
    · obtain ⟨i1, i2, i3, i4⟩ := hI
      have t7 : t.2 7 = v.2 7 := i2 7 (by decide)
      unfold wX9_bends_b32
      rw [n4, i1, t7, nI_clamp (n := G) (by omega)]
      refine ⟨fun _ => ⟨vp_in_nI hG (by omega), fun c0 => ?_, fun c0 => ⟨fun c4 => ?_, fun c4 => ?_⟩⟩, fun cc => absurd ((nI_leI (a := F + 4) (b := F + 4) (by omega) (by omega)).mpr (Nat.le_refl _)) cc⟩
      · refine fin t i1 (fun k _ _ _ k4 => i2 k k4) (fun q hq4 => ?_) i4
        rw [i3 q hq4]
        unfold bentF
        rw [if_pos c0]
      · -- all are said
        have u0 : unsB w 4 = 0 := by
          have h1 := unsB_le w 4
          have h2 := congrArg Int32.toInt c4
          rw [nI_toInt (by omega), show (4 : Int32).toInt = 4 from rfl] at h2
          omega
        refine loopS (fun f i (s : Mm) => wX9_bends_b113 Q f s (nI F) (nI G) (sumL sd 4) (nI i)) (fun i s => s.1 = t.1 ∧ (∀ k, k ≠ 10 → s.2 k = t.2 k) ∧ (∀ k, k < i → s.2 10 k = (if sumL sd 4 = 0 then 1 else sd k))) 4 (fun f s hJ => ?_) (fun f i s hi hJ ih => ?_) 0 t (by omega) ⟨rfl, fun _ _ => rfl, fun k hk => absurd hk (by omega)⟩
        · obtain ⟨j1, j2, j3⟩ := hJ
          unfold wX9_bends_b113
          have s7 : s.2 7 = v.2 7 := (j2 7 (by decide)).trans t7
          rw [s7, nI_clamp (n := G) (by omega)]
          refine ⟨fun _ => ⟨vp_in_nI hG (by omega), parts_w (n := 4) (by decide) (by decide) ?_ (fun s1 e1 e2 e3 => ?_)⟩, fun cc => absurd ((nI_leI (a := 4) (b := 4) (by omega) (by omega)).mpr (Nat.le_refl _)) cc⟩
          · rw [sumL_congr 4 j3]
            by_cases z : sumL sd 4 = 0
            · simp only [if_pos z, sumL_one]
              exact lN_ne0 (by decide) (by decide)
            · simp only [if_neg z]; exact z
          · have e4 : ∀ q, q < 4 → s1.2 11 q = bentF w sd (v.1 8 G) (v.2 7 G) q := fun q hq4 => by
              rw [e3 q hq4]
              unfold bentF
              rw [if_neg c0, if_pos u0]
              exact partsF_congr (by decide) j3 q hq4
            refine loopS (fun f i (r : Mm) => wX9_bends_b168 Q f r (nI F) (nI i)) (fun i r => r.1 = s1.1 ∧ (∀ k, k ≠ 13 → r.2 k = s1.2 k) ∧ (∀ q, q < i → r.2 13 (F + q) = s1.2 11 q) ∧ (∀ q, q < F ∨ F + i ≤ q → r.2 13 q = s1.2 13 q)) 4 (fun f r hK => ?_) (fun f i r hi hK ih => ?_) 0 s1 (by omega) ⟨rfl, fun _ _ => rfl, fun q hq => absurd hq (by omega), fun _ _ => rfl⟩
            · obtain ⟨k1, k2, k3, k4⟩ := hK
              unfold wX9_bends_b168
              refine ⟨fun _ => fin r (k1.trans (e1.trans (j1.trans i1))) (fun k a1 a2 a3 a4 => (k2 k a4).trans ((e2 k a2 a3).trans ((j2 k a1).trans (i2 k a4)))) (fun q hq4 => (k3 q hq4).trans (e4 q hq4)) (fun i hi => ?_), fun cc => absurd ((nI_leI (a := 4) (b := 4) (by omega) (by omega)).mpr (Nat.le_refl _)) cc⟩
              rw [k4 i hi, e2 13 (by decide) (by decide), j2 13 (by decide), i4 i hi]
            · obtain ⟨k1, k2, k3, k4⟩ := hK
              unfold wX9_bends_b168
              rw [nI_add, nI_clamp (n := i) (by omega), nI_clamp (n := F + i) (by omega)]
              refine ⟨fun cc => absurd ((nI_leI (a := 4) (b := i) (by omega) (by omega)).mp cc) (by omega), fun _ => ⟨vp_in_nI (by omega) (by omega), vp_in_nI (by omega) (by omega), fun r1 er y ey => ?_⟩⟩
              rw [ey, nI_1]
              refine ih r1 ⟨by rw [er]; exact k1, fun k hk => by rw [er, s64_n _ _ _ hk, k2 k hk], fun q hq4 => ?_, fun q hq4 => ?_⟩
              · rw [er, s64_k]
                by_cases e : q = i
                · subst e; rw [updL_s, k2 11 (by decide)]
                · rw [updL_n _ _ (by omega), k3 q (by omega)]
              · rw [er, s64_k, updL_n _ _ (by omega), k4 q (by omega)]
        · obtain ⟨j1, j2, j3⟩ := hJ
          unfold wX9_bends_b113
          have s7 : s.2 7 = v.2 7 := (j2 7 (by decide)).trans t7
          rw [nI_add, s7, nI_clamp (n := i) (by omega), nI_clamp (n := F + i) (by omega)]
          have step : ∀ (s1 : Mm) (x : Int64), x = (if sumL sd 4 = 0 then 1 else sd i) → s1 = s64 s 10 i x → wX9_bends_b113 Q f s1 (nI F) (nI G) (sumL sd 4) (nI (i + 1)) := fun s1 x ex es => by
            refine ih s1 ⟨by rw [es]; exact j1, fun k hk => by rw [es, s64_n _ _ _ hk, j2 k hk], fun k hk => ?_⟩
            rw [es, s64_k]
            by_cases e : k = i
            · subst e; rw [updL_s, ex]
            · rw [updL_n _ _ e, j3 k (by omega)]
          refine ⟨fun cc => absurd ((nI_leI (a := 4) (b := i) (by omega) (by omega)).mp cc) (by omega), fun _ => ⟨fun z => ⟨vp_in_nI (by omega) (by omega), fun s1 es y ey => ?_⟩, fun z => ⟨vp_in_nI (by omega) (by omega), vp_in_nI (by omega) (by omega), fun s1 es y ey => ?_⟩⟩⟩
          · rw [ey, nI_1]; exact step s1 1 (by rw [if_pos z]) es
          · rw [ey, nI_1]; exact step s1 _ (by rw [if_neg z, hsk i hi]) es
      · -- some are not said
        have hle := unsB_le w 4
        have u0 : ¬ unsB w 4 = 0 := fun z => c4 (by rw [z]; rfl)
        generalize hm : unsB w 4 = m at u0 hle
        have e4m : (4 : Int32) - nI (4 - m) = nI m := by
          rw [show (4 : Int32) = nI 4 from rfl, pk_sub (by omega)]
          exact congrArg nI (by omega)
        refine loopS (fun f i (s : Mm) => wX9_bends_b201 Q f s (nI F) (nI G) (nI (4 - m)) (sumL sd 4) (nI i)) (fun i s => s.1 = t.1 ∧ (∀ k, k ≠ 10 → s.2 k = t.2 k) ∧ (∀ k, k < i → s.2 10 k = 1)) m (fun f s hJ => ?_) (fun f i s hi hJ ih => ?_) 0 t (by omega) ⟨rfl, fun _ _ => rfl, fun k hk => absurd hk (by omega)⟩
        · obtain ⟨j1, j2, j3⟩ := hJ
          unfold wX9_bends_b201
          have s7 : s.2 7 = v.2 7 := (j2 7 (by decide)).trans t7
          rw [s7, e4m, nI_clamp (n := G) (by omega)]
          refine ⟨fun _ => ⟨vp_in_nI hG (by omega), parts_w (n := m) (by omega) (by omega) ?_ (fun s1 e1 e2 e3 => ?_)⟩, fun cc => absurd ((nI_leI (a := m) (b := m) (by omega) (by omega)).mpr (Nat.le_refl _)) cc⟩
          · rw [sumL_congr m j3, sumL_one]
            exact lN_ne0 (by omega) (by omega)
          · have e5 : ∀ i, i < m → s1.2 11 i = partsF (v.2 7 G - sumL sd 4) (fun _ => 1) m i := fun i hi => by
              rw [e3 i hi]
              exact partsF_congr (by omega) j3 i hi
            have s13 : ∀ q, q < F ∨ F + 4 ≤ q → s1.2 13 q = v.2 13 q := fun q hq4 => by rw [e2 13 (by decide) (by decide), j2 13 (by decide), i4 q hq4]
            have s13b : ∀ q, q < 4 → s1.2 13 (F + q) = sd q := fun q hq4 => by rw [e2 13 (by decide) (by decide), j2 13 (by decide), i3 q hq4]
            refine loopS (fun f i (r : Mm) => wX9_bends_b249 Q f r (nI F) (nI (unsB w i)) (nI (F + i))) (fun i r => r.1 = s1.1 ∧ (∀ k, k ≠ 13 → r.2 k = s1.2 k) ∧ (∀ q, q < i → r.2 13 (F + q) = bentF w sd (v.1 8 G) (v.2 7 G) q) ∧ (∀ q, q < F ∨ F + i ≤ q → r.2 13 q = s1.2 13 q)) 4 (fun f r hK => ?_) (fun f i r hi hK ih => ?_) 0 s1 (by omega) ⟨rfl, fun _ _ => rfl, fun q hq => absurd hq (by omega), fun _ _ => rfl⟩
            · obtain ⟨k1, k2, k3, k4⟩ := hK
              unfold wX9_bends_b249
              rw [n4]
              exact ⟨fun _ => fin r (k1.trans (e1.trans (j1.trans i1))) (fun k a1 a2 a3 a4 => (k2 k a4).trans ((e2 k a2 a3).trans ((j2 k a1).trans (i2 k a4)))) (fun q hq4 => k3 q hq4) (fun i hi => (k4 i hi).trans (s13 i hi)), fun cc => absurd ((nI_leI (a := F + 4) (b := F + 4) (by omega) (by omega)).mpr (Nat.le_refl _)) cc⟩
            · obtain ⟨k1, k2, k3, k4⟩ := hK
              unfold wX9_bends_b249
              have r8 : r.1 8 (F + i) = w i := by rw [k1, e1, j1, i1, hwk i hi]
              have hu := unsB_le w i
              rw [n4, nI_clamp (n := F + i) (by omega), nI_clamp (n := unsB w i) (by omega), r8]
              have eu : unsB w (i + 1) = if w i = 0 then unsB w i + 1 else unsB w i := rfl
              refine ⟨fun cc => absurd ((nI_leI (a := F + 4) (b := F + i) (by omega) (by omega)).mp cc) (by omega), fun _ => ⟨vp_in_nI (by omega) (by omega), fun z => ⟨vp_in_nI (by omega) (by omega), vp_in_nI (by omega) (by omega), fun r1 er y ey x ex => ?_⟩, fun z x ex => ?_⟩⟩
              · rw [if_pos z] at eu
                have hmo := unsB_mono w (i + 1) (4 - (i + 1))
                rw [show i + 1 + (4 - (i + 1)) = 4 by omega, hm] at hmo
                rw [ey, ex, nI_1, nI_1, Nat.add_assoc, ← eu]
                refine ih r1 ⟨by rw [er]; exact k1, fun k hk => by rw [er, s64_n _ _ _ hk, k2 k hk], fun q hq4 => ?_, fun q hq4 => ?_⟩
                · rw [er, s64_k]
                  by_cases e : q = i
                  · subst e
                    rw [updL_s, k2 11 (by decide), e5 _ (by omega)]
                    unfold bentF
                    rw [if_neg c0, hm, if_neg u0, if_pos z]
                  · rw [updL_n _ _ (by omega), k3 q (by omega)]
                · rw [er, s64_k, updL_n _ _ (by omega), k4 q (by omega)]
              · rw [if_neg z] at eu
                rw [ex, nI_1, Nat.add_assoc, ← eu]
                refine ih r ⟨k1, k2, fun q hq4 => ?_, fun q hq4 => k4 q (by omega)⟩
                by_cases e : q = i
                · subst e
                  rw [k4 _ (by omega), s13b q hi]
                  unfold bentF
                  rw [if_neg c0, hm, if_neg u0, if_neg z]
                · exact k3 q (by omega)
        · obtain ⟨j1, j2, j3⟩ := hJ
          unfold wX9_bends_b201
          rw [e4m, nI_clamp (n := i) (by omega)]
          refine ⟨fun cc => absurd ((nI_leI (a := m) (b := i) (by omega) (by omega)).mp cc) (by omega), fun _ => ⟨vp_in_nI (by omega) (by omega), fun s1 es y ey => ?_⟩⟩
          rw [ey, nI_1]
          refine ih s1 ⟨by rw [es]; exact j1, fun k hk => by rw [es, s64_n _ _ _ hk, j2 k hk], fun k hk => ?_⟩
          rw [es, s64_k]
          by_cases e : k = i
          · subst e; rw [updL_s]
          · rw [updL_n _ _ e, j3 k (by omega)]
    · obtain ⟨i1, i2, i3, i4⟩ := hI
      unfold wX9_bends_b32
      have t7 : t.2 7 = v.2 7 := i2 7 (by decide)
      have hle := unsB_le w i
      rw [n4, t7, nI_clamp (n := F + i) (by omega), hsk i hi]
      refine ⟨fun cc => absurd ((nI_leI (a := F + 4) (b := F + i) (by omega) (by omega)).mp cc) (by omega), fun _ => ⟨vp_in_nI (by omega) (by omega), vp_in_nI (by omega) (by omega), fun t1 et => ⟨vp_in_nI (by omega) (by omega), ?_⟩⟩⟩
      have t18 : t1.1 8 (F + i) = w i := by rw [et, s64_1, i1, hwk i hi]
      have t17 : t1.2 7 (F + i) = sd i := by rw [et, s64_n _ _ _ (by decide), t7, hsk i hi]
      have eu : unsB w (i + 1) = if w i = 0 then unsB w i + 1 else unsB w i := rfl
      have inv : t1.1 = v.1 ∧ (∀ k, k ≠ 13 → t1.2 k = v.2 k) ∧ (∀ q, q < i + 1 → t1.2 13 (F + q) = sd q) ∧ (∀ q, q < F ∨ F + (i + 1) ≤ q → t1.2 13 q = v.2 13 q) := by
        refine ⟨by rw [et]; exact i1, fun k hk => by rw [et, s64_n _ _ _ hk, i2 k hk], fun q hq4 => ?_, fun q hq4 => ?_⟩
        · rw [et, s64_k]
          by_cases e : q = i
          · subst e; rw [updL_s]
          · rw [updL_n _ _ (by omega), i3 q (by omega)]
        · rw [et, s64_k, updL_n _ _ (by omega), i4 q (by omega)]
      have hwi := hw i hi
      rw [hwk i hi] at hwi
      have zz : (0 : Int32).toInt = 0 := rfl
      rw [t18]
      unfold wX9_bends_b72
      rw [nI_clamp (n := F + i) (by omega), t17]
      refine ⟨fun c0 x ex => ⟨vp_in_nI (by omega) (by omega), fun y ey z ez => ?_⟩, fun c0 x ex => ⟨vp_in_nI (by omega) (by omega), fun y ey z ez => ?_⟩⟩
      · rw [Int32.le_iff_toInt_le, zz] at c0
        have w0 : w i = 0 := by rw [← Int32.toInt_inj, zz]; omega
        rw [if_pos w0] at eu
        rw [ey, ez, ex, nI_1, show nI (i - unsB w i) + (0 : Int32) = nI (i + 1 - unsB w (i + 1)) by rw [show (0 : Int32) = nI 0 from rfl, nI_add]; exact congrArg nI (by omega)]
        exact ih t1 inv
      · rw [Int32.le_iff_toInt_le, zz] at c0
        have w0 : ¬ w i = 0 := fun e => by rw [e, zz] at c0; omega
        rw [if_neg w0] at eu
        rw [ey, ez, ex, nI_1, nI_1, show i - unsB w i + 1 = i + 1 - unsB w (i + 1) by omega]
        exact ih t1 inv
  exact key
