theorem pU_of {u u1 : Mm} (h1 : ∀ k, kU1.contains k = true → u1.1 k = u.1 k) (h2 : ∀ k, kU2.contains k = true → u1.2 k = u.2 k) : pU u1 = pU u := by
  unfold pU
  refine Prod.ext ?_ ?_
  · funext k
    dsimp only
    by_cases h : kU1.contains k = true
    · rw [if_pos h, if_pos h, h1 k h]
    · rw [if_neg h, if_neg h]
  · funext k
    dsimp only
    by_cases h : kU2.contains k = true
    · rw [if_pos h, if_pos h, h2 k h]
    · rw [if_neg h, if_neg h]
theorem pV_of {u u1 : Mm} (h1 : ∀ k, kV1.contains k = true → u1.1 k = u.1 k) (h2 : ∀ k, kV2.contains k = true → u1.2 k = u.2 k) : pV u1 = pV u := by
  unfold pV
  refine Prod.ext ?_ ?_
  · funext k
    dsimp only
    by_cases h : kV1.contains k = true
    · rw [if_pos h, if_pos h, h1 k h]
    · rw [if_neg h, if_neg h]
  · funext k
    dsimp only
    by_cases h : kV2.contains k = true
    · rw [if_pos h, if_pos h, h2 k h]
    · rw [if_neg h, if_neg h]
theorem Sd_scr {u u1 v v1 : Mm} (h : Sd u v) (hu : pU u1 = pU u) (hv : pV v1 = pV v) : Sd u1 v1 := ⟨rel_scr h.1 hu hv, fun lp y hl hy => by
  have g : ∀ P : Mm → Mm → Prop, P (pU u) (pV v) → P (pU u1) (pV v1) := fun P hp => by rw [hu, hv]; exact hp
  exact g (fun m m2 => blkOK m m2 lp y) (h.2 lp y hl hy)⟩
theorem rR1_scr {v v1 : Mm} (h : rR1 v) (hv : pV v1 = pV v) : rR1 v1 := by
  have g : ∀ P : Mm → Prop, P (pV v) → P (pV v1) := fun P hp => by rw [hv]; exact hp
  exact g rR1 h
def prtA (v : Mm) (c t : Nat) : Nat → Int64 := give 4 (groS v (-1) c t - 1000000 - sumL (prtP v c t) 4).toNatClampNeg (prtP v c t) (prtR v c t)
theorem partC_w {u v : Mm} (h : Sd u v) {p c t : Nat} (hp : p < 4) (hc : c < 6) (h1 : 1 ≤ t) (ht : t < 12) (hl : ¬ lowA v c t ≤ 0) {Q : Int64 → Mm → Prop} (hq : ∀ u1, Sd u1 v → Q (prtA v c t p) u1) : wX7_partOf u (nI p) (nI c) (nI t) Q := by
  obtain ⟨L, hL, eL⟩ := part_left h.1 hc h1 ht hl
  have hc2 := clampL (lN L)
  rw [lN_toInt (by omega)] at hc2
  have eLc : (lN L).toNatClampNeg = L := by split at hc2 <;> omega
  unfold wX7_partOf
  rw [pre1 h1]
  refine pyC_w ht (valC_w h (-1) hc (by omega) (by omega) (valC_w h (-1) hc ht (by omega) (ratio_w ?_)))
  have eg : (if valS v (-1) c (t - 1) (t / 4 - 1) 4 ≤ 0 then (-1 : Int64) else flo (1000000 * valS v (-1) c t (t / 4 - 1) 4) (valS v (-1) c (t - 1) (t / 4 - 1) 4)) = groS v (-1) c t := rfl
  rw [eg]
  intro x7 e7
  have e0 : x7 = groS v (-1) c t - 1000000 - sumL (prtP v c t) 0 := by rw [e7]; show _ = _ - (0 : Int64); grind
  rw [e0]
  refine loopS (fun f i (w : Mm) => wX7_partOf_b42 Q f w (nI p) (nI c) (nI t) (nI (t / 4 - 1)) (lowA v c t) (groS v (-1) c t - 1000000 - sumL (prtP v c t) i) (nI i)) (fun i w => w.1 = u.1 ∧ (∀ k, k ≠ 27 → k ≠ 28 → w.2 k = u.2 k) ∧ ∀ k, k < i → w.2 27 k = prtP v c t k ∧ w.2 28 k = prtR v c t k) 4 (fun f w hI => ?_) (fun f i w hi hI ih => ?_) 0 u (by omega) ⟨rfl, fun _ _ _ => rfl, fun k hk => absurd hk (by omega)⟩
  · obtain ⟨i1, i2, i3⟩ := hI
    unfold wX7_partOf_b42
    rw [eL, nI_clamp (n := p) (by omega)]
    refine ⟨fun _ => hand_w (j := 1) (n := 4) (by decide) (by decide) (Nat.le_of_lt hL) (fun u2 e1 e2 e3 => ⟨vp_in_nI (by omega) (by omega), ?_⟩), fun cc => absurd ((nI_leI (a := 4) (b := 4) (by omega) (by omega)).mpr (Nat.le_refl _)) cc⟩
    have e3 : u2.2 27 = give 4 L (w.2 27) (w.2 28) := e3
    have ea : u2.2 27 p = prtA v c t p := by
      rw [e3]
      unfold prtA
      rw [eL, eLc]
      exact give_congr (by decide) L (fun k hk => (i3 k hk).1) (fun k hk => (i3 k hk).2) p hp
    rw [ea]
    refine hq u2 (Sd_scr h (pU_of (fun k _ => by rw [e1, i1]) (fun k hk => ?_)) rfl)
    have k1 : k ≠ 27 := fun e => by rw [e] at hk; exact absurd hk (by decide)
    have k2 : k ≠ 28 := fun e => by rw [e] at hk; exact absurd hk (by decide)
    rw [e2 k k1 k2, i2 k k1 k2]
  · obtain ⟨i1, i2, i3⟩ := hI
    have hw : Sd w v := Sd_scr h (pU_of (fun k _ => by rw [i1]) (fun k hk => i2 k (fun e => by rw [e] at hk; exact absurd hk (by decide)) (fun e => by rw [e] at hk; exact absurd hk (by decide)))) rfl
    unfold wX7_partOf_b42
    rw [pre1 h1]
    refine ⟨fun cc => absurd ((nI_leI (a := 4) (b := i) (by omega) (by omega)).mp cc) (by omega), fun _ => valC_w hw (nI i) hc ht (by omega) (valC_w hw (nI i) hc (by omega) (by omega) (fun x10 e10 => ?_))⟩
    rw [valS_one hi, valS_one hi] at e10
    have ex : x10 * 1000000 = xS v c t i := by rw [e10]; unfold xS; exact Int64.mul_comm _ _
    rw [ex]
    refine divide_w (j := 1) (by omega) (pos_of hl) (fun x7 e7 y ey => ?_)
    have e7 : x7 = groS v (-1) c t - 1000000 - sumL (prtP v c t) i - prtP v c t i := e7
    rw [L_ring1] at e7
    rw [e7, ey, nI_1]
    refine ih _ ⟨i1, fun k k1 k2 => by rw [s64_n _ _ _ (show k ≠ 14 + 14 * 1 by omega), s64_n _ _ _ (show k ≠ 13 + 14 * 1 by omega), i2 k k1 k2], fun k hk => ?_⟩
    rw [s64_n _ (k := 14 + 14 * 1) (q := 27) _ _ (by decide), s64_k _ (13 + 14 * 1), s64_k _ (14 + 14 * 1), s64_n _ (k := 13 + 14 * 1) (q := 14 + 14 * 1) _ _ (by decide)]
    by_cases hki : k = i
    · subst hki
      rw [updL_s, updL_s]
      exact ⟨rfl, rfl⟩
    · rw [updL_n _ _ hki, updL_n _ _ hki]
      exact i3 k (by omega)
theorem hasG_w {u v : Mm} (h : Sd u v) {c t : Nat} (hc : c < 6) (h1 : 1 ≤ t) (ht : t < 12) {Q : Int32 → Prop} (q0 : lowA v c t ≤ 0 → Q 0) (q1 : ¬ lowA v c t ≤ 0 → Q 1) : wX7_hasGrowth u (nI c) (nI t) Q := by
  unfold wX7_hasGrowth
  rw [pre1 h1]
  exact pyC_w ht (valC_w h (-1) hc (by omega) (by omega) ⟨q0, q1⟩)
theorem partR_w {u v : Mm} (h : Sd u v) (hr : rR1 v) {p c t : Nat} (hp : p < 4) (hc : c < 6) (h1 : 1 ≤ t) (ht : t < 12) (hl : ¬ lowA v c t ≤ 0) {Q : Int64 → Mm → Prop} (hq : ∀ v1, Sd u v1 → Q (prtA v c t p) v1) : ∃ f, wX9_part_b86 Q f v (nI p) (nI c) (nI t) (lowA v c t) (nI (t / 4 - 1)) (groS v (-1) c t - 1000000) (0 : Int32) := by
  have e0 : groS v (-1) c t - 1000000 = groS v (-1) c t - 1000000 - sumL (prtP v c t) 0 := by show _ = _ - (0 : Int64); grind
  rw [e0]
  refine loopS (fun f i (w : Mm) => wX9_part_b86 Q f w (nI p) (nI c) (nI t) (lowA v c t) (nI (t / 4 - 1)) (groS v (-1) c t - 1000000 - sumL (prtP v c t) i) (nI i)) (fun i w => w.1 = v.1 ∧ (∀ k, k ≠ 11 → k ≠ 12 → w.2 k = v.2 k) ∧ ∀ k, k < i → w.2 11 k = prtP v c t k ∧ w.2 12 k = prtR v c t k) 4 (fun f w hI => ?_) (fun f i w hi hI ih => ?_) 0 v (by omega) ⟨rfl, fun _ _ _ => rfl, fun k hk => absurd hk (by omega)⟩
  · obtain ⟨i1, i2, i3⟩ := hI
    unfold wX9_part_b86 wX9_givesRest
    rw [nI_clamp (n := p) (by omega)]
    refine ⟨fun _ => gives_w (n := 4) (by decide) (by decide) _ w _ rfl (fun u2 e1 e2 e3 => ⟨vp_in_nI (by omega) (by omega), ?_⟩), fun cc => absurd ((nI_leI (a := 4) (b := 4) (by omega) (by omega)).mpr (Nat.le_refl _)) cc⟩
    have ea : u2.2 11 p = prtA v c t p := by
      rw [e3]
      unfold prtA
      exact give_congr (by decide) _ (fun k hk => (i3 k hk).1) (fun k hk => (i3 k hk).2) p hp
    rw [ea]
    refine hq u2 (Sd_scr h rfl (pV_of (fun k _ => by rw [e1, i1]) (fun k hk => ?_)))
    have k1 : k ≠ 11 := fun e => by rw [e] at hk; exact absurd hk (by decide)
    have k2 : k ≠ 12 := fun e => by rw [e] at hk; exact absurd hk (by decide)
    rw [e2 k k1 k2, i2 k k1 k2]
  · obtain ⟨i1, i2, i3⟩ := hI
    have hv : pV w = pV v := pV_of (fun k _ => by rw [i1]) (fun k hk => i2 k (fun e => by rw [e] at hk; exact absurd hk (by decide)) (fun e => by rw [e] at hk; exact absurd hk (by decide)))
    have htw : tV w = tV v := tV_of (fun k _ => by rw [i1]) (fun k hk => i2 k (fun e => by rw [e] at hk; exact absurd hk (by decide)) (fun e => by rw [e] at hk; exact absurd hk (by decide)))
    have hw : Sd u w := Sd_scr h rfl hv
    have hrw : rR1 w := rR1_scr hr hv
    have eV : ∀ a t y, valS w a c t y 4 = valS v a c t y 4 := fun a t y => tV_f htw (fun m => valS m a c t y 4) (fun m => valS_t m a c t y 4)
    have vi : vp_in (nI i) 6 := vp_in_nI (by omega) (by omega)
    unfold wX9_part_b86
    rw [pre1 h1, nI_clamp (n := i) (by omega)]
    refine ⟨fun cc => absurd ((nI_leI (a := 4) (b := i) (by omega) (by omega)).mp cc) (by omega), fun _ => valR_w hw.1 hrw (nI i) hc ht (by omega) (valR_w hw.1 hrw (nI i) hc (by omega) (by omega) (fun x10 e10 => ?_))⟩
    rw [eV, eV, valS_one hi, valS_one hi] at e10
    have e10 : x10 = xS v c t i := e10
    subst e10
    refine floR_w (ne0_of_pos (pos_of hl)) ⟨vi, fun w7 e7 => ⟨vi, vi, fun w8 e8 => ⟨vi, fun x7 ex y ey => ?_⟩⟩⟩
    have k7 : w7.2 11 i = prtP v c t i := by rw [e7, s64_k, updL_s]; rfl
    rw [k7] at e8
    have k8 : w8.2 11 i = prtP v c t i := by rw [e8, s64_n _ _ _ (by decide), k7]
    rw [k8, L_ring1] at ex
    rw [ex, ey, nI_1]
    refine ih w8 ⟨by rw [e8, e7]; exact i1, fun k k1 k2 => by rw [e8, s64_n _ _ _ k2, e7, s64_n _ _ _ k1, i2 k k1 k2], fun k hk => ?_⟩
    rw [e8, s64_k, s64_n _ _ _ (by decide), e7, s64_k, s64_n _ _ _ (by decide)]
    by_cases hki : k = i
    · subst hki
      rw [updL_s, updL_s]
      exact ⟨rfl, rfl⟩
    · rw [updL_n _ _ hki, updL_n _ _ hki]
      exact i3 k (by omega)
theorem v1S_t (m : Mm) (c t y p : Nat) : v1S (tV m) c t y p = v1S m c t y p := by unfold v1S; rw [volS_t, meaS_t]
theorem lowA_t (m : Mm) (c t : Nat) : lowA (tV m) c t = lowA m c t := by unfold lowA; rw [valS_t]
theorem xS_t (m : Mm) (c t p : Nat) : xS (tV m) c t p = xS m c t p := by unfold xS; rw [v1S_t, v1S_t]
theorem prtA_t (m : Mm) (c t p : Nat) : prtA (tV m) c t p = prtA m c t p := by
  have e1 : prtP (tV m) c t = prtP m c t := by funext k; unfold prtP; rw [xS_t, lowA_t]
  have e2 : prtR (tV m) c t = prtR m c t := by funext k; unfold prtR; rw [xS_t, lowA_t]
  unfold prtA
  rw [e1, e2, groS_t]
theorem st_part {u v : Mm} (h : Rel u v) (a1 a2 a3 : Int32) : wX8_part u a1 a2 a3 (fun (r : Int64) (u1 : Mm) => wX9_part v a1 a2 a3 (fun (r2 : Int64) (v1 : Mm) => r = r2 ∧ Rel u1 v1)) := by
  unfold wX8_part
  refine below_b 4 (fun n => refused_bad ?_) (fun p1 => below_b 6 (fun n => refused_bad ?_) (fun p2 => within_b 1 11 (fun n => refused_bad ?_) (fun p3 => ?_)))
  · unfold wX9_part; exact in_b 0 3 (fun _ => ⟨rfl, h⟩) (fun z => absurd (by omega) n)
  · unfold wX9_part; exact in_b 0 3 (fun z => absurd (by omega) z) (fun _ => in_b 0 5 (fun _ => ⟨rfl, h⟩) (fun z => absurd (by omega) n))
  · unfold wX9_part; exact in_b 0 3 (fun z => absurd (by omega) z) (fun _ => in_b 0 5 (fun z => absurd (by omega) z) (fun _ => in_b 1 11 (fun _ => ⟨rfl, h⟩) (fun z => absurd z n)))
  obtain ⟨p, hp, rfl⟩ := ix_of 4 p1
  obtain ⟨c, hc, rfl⟩ := ix_of 6 p2
  obtain ⟨t, ht, rfl⟩ := ix_of 12 (a := a3) (by omega)
  have t1 : 1 ≤ t := by rw [nI_toInt (by omega)] at p3; omega
  have ref : ∀ (u1 : Mm) (r : Int64), Sd u1 v → (lowA v c t ≤ 0 → r = -9223372036854775805) → (¬ lowA v c t ≤ 0 → r = prtA v c t p) → wX9_part v (nI p) (nI c) (nI t) (fun (r2 : Int64) (v1 : Mm) => r = r2 ∧ Rel u1 v1) := by
    intro u1 r h1 g1 g2
    unfold wX9_part
    refine in_b 0 3 (fun z => absurd (by omega) z) (fun _ => in_b 0 5 (fun z => absurd (by omega) z) (fun _ => in_b 1 11 (fun z => absurd p3 z) (fun _ => looks_Sd h1 (fun v1 h2 htv hr => lowR_w h2.1 hr (-1) hc t1 ht ?_))))
    have eL : lowA v1 c t = lowA v c t := tV_f htv (fun m => lowA m c t) (fun m => lowA_t m c t)
    have eA : prtA v1 c t p = prtA v c t p := tV_f htv (fun m => prtA m c t p) (fun m => prtA_t m c t p)
    have zero : (0 : Int64).toInt = 0 := rfl
    show ((0 : Int64) < lowA v1 c t → _) ∧ (¬ (0 : Int64) < lowA v1 c t → _)
    refine ⟨fun z => pyR_w ht (growR_w h2.1 hr (-1) hc t1 ht (fun x7 e7 => ?_)), fun z => ⟨g1 ?_, h2.1⟩⟩
    · have hl : ¬ lowA v1 c t ≤ 0 := fun d => by
        rw [Int64.le_iff_toInt_le] at d
        rw [Int64.lt_iff_toInt_lt] at z
        omega
      rw [e7]
      exact partR_w h2 hr hp hc t1 ht hl (fun v2 h3 => ⟨by rw [eA]; exact g2 (by rw [← eL]; exact hl), h3.1⟩)
    · rw [← eL, Int64.le_iff_toInt_le]
      rw [Int64.lt_iff_toInt_lt] at z
      omega
  refine setAll_w h (fun u1 h1 => hasG_w h1 hc t1 ht (fun z => br0 (refused_not (ref u1 _ h1 (fun _ => rfl) (fun y => absurd z y)))) (fun z => br1 (partC_w h1 hp hc t1 ht z (fun u2 h2 => ref u2 _ h2 (fun y => absurd y z) (fun _ => rfl)))))
