/-! ===== the class's bend ===== -/
theorem give_add {n : Nat} : ∀ (t : Nat) (p r : Nat → Int64) (i : Nat), give n t p r i = p i + give n t (fun _ => 0) r i
  | 0, p, r, i => by show p i = p i + 0; grind
  | t + 1, p, r, i => by
    show give n t (vp_updL p (amax r (n - 1)) (p (amax r (n - 1)) + 1)) (vp_updL r (amax r (n - 1)) (-1)) i = p i + give n t (vp_updL (fun _ => 0) (amax r (n - 1)) (0 + 1)) (vp_updL r (amax r (n - 1)) (-1)) i
    rw [give_add t (vp_updL p (amax r (n - 1)) (p (amax r (n - 1)) + 1)), give_add t (vp_updL (fun _ => 0) (amax r (n - 1)) (0 + 1))]
    by_cases e : i = amax r (n - 1)
    · rw [e, updL_s, updL_s]; grind
    · rw [updL_n _ _ e, updL_n _ _ e]; grind
def bw (b0 b1 b2 b3 : Bool) : Nat → Int32 := fun k => if k = 0 then (if b0 then 0 else 1) else if k = 1 then (if b1 then 0 else 1) else if k = 2 then (if b2 then 0 else 1) else (if b3 then 0 else 1)
theorem give_bw : ∀ b0 b1 b2 b3 : Bool, ∀ t : Fin 4, ∀ q : Fin 4, bw b0 b1 b2 b3 q.1 = 0 → t.1 < unsB (bw b0 b1 b2 b3) 4 → give 4 t.1 (fun _ => 0) (fun k => if bw b0 b1 b2 b3 k = 0 then lN t.1 else 0) q.1 = give (unsB (bw b0 b1 b2 b3) 4) t.1 (fun _ => 0) (fun _ => lN t.1) (unsB (bw b0 b1 b2 b3) q.1) := by decide +kernel
theorem unsB_congr {w w2 : Nat → Int32} {n : Nat} (h : ∀ k, k < n → (w k = 0 ↔ w2 k = 0)) : ∀ j, j ≤ n → unsB w j = unsB w2 j
  | 0, _ => rfl
  | j + 1, hj => by
    show (if w j = 0 then unsB w j + 1 else unsB w j) = (if w2 j = 0 then unsB w2 j + 1 else unsB w2 j)
    rw [unsB_congr h j (by omega)]
    by_cases z : w j = 0
    · rw [if_pos z, if_pos ((h j (by omega)).mp z)]
    · rw [if_neg z, if_neg (fun y => z ((h j (by omega)).mpr y))]
theorem give_mask {w : Nat → Int32} {t q : Nat} (hq : q < 4) (hw : w q = 0) (ht : t < unsB w 4) : give 4 t (fun _ => 0) (fun k => if w k = 0 then lN t else 0) q = give (unsB w 4) t (fun _ => 0) (fun _ => lN t) (unsB w q) := by
  have hle := unsB_le w 4
  have hb : ∀ k, k < 4 → (bw (decide (w 0 = 0)) (decide (w 1 = 0)) (decide (w 2 = 0)) (decide (w 3 = 0)) k = 0 ↔ w k = 0) := fun k hk => by
    rcases (show k = 0 ∨ k = 1 ∨ k = 2 ∨ k = 3 by omega) with rfl | rfl | rfl | rfl
    · by_cases z : w 0 = 0 <;> simp [bw, z]
    · by_cases z : w 1 = 0 <;> simp [bw, z]
    · by_cases z : w 2 = 0 <;> simp [bw, z]
    · by_cases z : w 3 = 0 <;> simp [bw, z]
  have h4 := unsB_congr hb 4 (Nat.le_refl 4)
  have hqq := unsB_congr hb q (by omega)
  have key := give_bw (decide (w 0 = 0)) (decide (w 1 = 0)) (decide (w 2 = 0)) (decide (w 3 = 0)) ⟨t, by omega⟩ ⟨q, hq⟩ ((hb q hq).mpr hw) (by rw [h4]; exact ht)
  dsimp only at key
  rw [h4, hqq] at key
  rw [← key]
  refine give_congr (by decide) t (fun _ _ => rfl) (fun k hk => ?_) q hq
  by_cases z : w k = 0
  · rw [if_pos z, if_pos ((hb k hk).mpr z)]
  · rw [if_neg z, if_neg (fun y => z ((hb k hk).mp y))]
theorem sumL_mask (w : Nat → Int32) (F : Int64) : ∀ j, sumL (fun k => if w k = 0 then F else 0) j = lN (unsB w j) * F
  | 0 => by show (0 : Int64) = lN 0 * F; rw [show lN 0 = (0 : Int64) from rfl]; grind
  | j + 1 => by
    show sumL (fun k => if w k = 0 then F else 0) j + (if w j = 0 then F else 0) = lN (if w j = 0 then unsB w j + 1 else unsB w j) * F
    rw [sumL_mask w F j]
    by_cases h : w j = 0
    · rw [if_pos h, if_pos h, ← lN_1]; grind
    · rw [if_neg h, if_neg h]; grind
theorem sumL_const (F : Int64) : ∀ m, sumL (fun _ => F) m = lN m * F
  | 0 => by show (0 : Int64) = lN 0 * F; rw [show lN 0 = (0 : Int64) from rfl]; grind
  | m + 1 => by
    show sumL (fun _ => F) m + F = lN (m + 1) * F
    rw [sumL_const F m, ← lN_1]; grind
theorem flo_0 {y : Int64} (hy : 0 < y.toInt) : flo 0 y = 0 := by
  rw [← Int64.toInt_inj, flo_T hy, show (0 : Int64).toInt = 0 from rfl, Int.zero_ediv]
theorem partsF_mask {w : Nat → Int32} {W : Int64} (hm : 0 < unsB w 4) {q : Nat} (hq : q < 4) (hw : w q = 0) : partsF W (fun k => if w k = 0 then 1 else 0) 4 q = partsF W (fun _ => 1) (unsB w 4) (unsB w q) := by
  have hle := unsB_le w 4
  have gm := fun t => give_mask (t := t) hq hw
  have eS : sumL (fun k => if w k = 0 then (1 : Int64) else 0) 4 = lN (unsB w 4) := by rw [sumL_mask]; grind
  have eM := fun F => sumL_mask w F 4
  generalize unsB w 4 = m at hm hle gm eS eM ⊢
  have hy : 0 < (lN m).toInt := by rw [lN_toInt (by omega)]; omega
  have p1 : part0 W (fun k => if w k = 0 then 1 else 0) 4 = fun k => if w k = 0 then flo W (lN m) else 0 := by
    funext k
    unfold part0
    rw [eS]
    by_cases h : w k = 0
    · simp only [if_pos h, Int64.mul_one]
    · simp only [if_neg h, Int64.mul_zero, flo_0 hy]
  have r1 : rest0 W (fun k => if w k = 0 then 1 else 0) 4 = fun k => if w k = 0 then W - flo W (lN m) * lN m else 0 := by
    funext k
    unfold rest0
    rw [eS, p1]
    by_cases h : w k = 0
    · simp only [if_pos h, Int64.mul_one]
    · simp only [if_neg h]; grind
  have eO : sumL (fun _ => (1 : Int64)) m = lN m := sumL_one m
  have p2 : part0 W (fun _ => 1) m = fun _ => flo W (lN m) := by
    funext k
    unfold part0
    rw [eO, Int64.mul_one]
  have r2 : rest0 W (fun _ => 1) m = fun _ => W - flo W (lN m) * lN m := by
    funext k
    unfold rest0
    rw [eO, p2, Int64.mul_one]
  have l1 : W - sumL (fun k => if w k = 0 then flo W (lN m) else 0) 4 = W - flo W (lN m) * lN m := by rw [eM]; grind
  have l2 : W - sumL (fun _ => flo W (lN m)) m = W - flo W (lN m) * lN m := by rw [sumL_const]; grind
  unfold partsF
  rw [p1, r1, p2, r2, l1, l2]
  have hr := rest_T (x := W) hy
  rw [lN_toInt (n := m) (by omega)] at hr
  have h1 := Int.emod_nonneg W.toInt (show (m : Int) ≠ 0 by omega)
  have h2 := Int.emod_lt_of_pos W.toInt (show 0 < (m : Int) by omega)
  obtain ⟨t, ht, et⟩ : ∃ t, t < m ∧ W - flo W (lN m) * lN m = lN t := by
    refine ⟨(W.toInt % (m : Int)).toNat, by omega, ?_⟩
    rw [← Int64.toInt_inj, hr, lN_toInt (by omega)]
    omega
  have hc := clampL (lN t)
  rw [lN_toInt (by omega)] at hc
  rw [et, show (lN t).toNatClampNeg = t by split at hc <;> omega, give_add, give_add (n := m), gm t ht]
  simp only [if_pos hw]
theorem dealB_w {u : Mm} {n : Nat} (h1 : 1 ≤ n) (h6 : n ≤ 6) {W : Int64} {A B : Int} (hA : A ≤ 1000000000000) (hB : B ≤ 1000000000000) (hAB : A * B ≤ 1000000000000000) (hW : -A ≤ W.toInt ∧ W.toInt ≤ A) (hs : ∀ k, k < n → 0 ≤ (u.2 12 k).toInt ∧ (u.2 12 k).toInt ≤ B) (hS : 0 < (sumL (u.2 12) n).toInt) {Q : Mm → Prop} (hq : ∀ u1 : Mm, u1.1 = u.1 → (∀ k, k ≠ 13 → k ≠ 14 → u1.2 k = u.2 k) → (∀ i, i < n → u1.2 13 i = partsF W (u.2 12) n i) → Q u1) : wX2_deal 0 u W (nI n) Q := by
  obtain ⟨⟨L, hL, eL⟩, -⟩ := left_lt h1 h6 hA hB hAB hW hs hS
  exact deal_w h1 h6 hS (Nat.le_of_lt hL) eL hq
theorem sum_sd {sd : Nat → Int64} (bs : ∀ k, k < 4 → ∃ x, x ≤ 100000 ∧ sd k = lN x) : 0 ≤ (sumL sd 4).toInt ∧ (sumL sd 4).toInt ≤ 400000 := by
  have b : ∀ k, k < 4 → 0 ≤ (sd k).toInt ∧ (sd k).toInt ≤ 100000 := fun k hk => by
    obtain ⟨x, hx, e⟩ := bs k hk
    rw [e, lN_toInt (by omega)]; omega
  obtain ⟨t1, t2, t3⟩ := sumL_T (f := sd) (A := 100000) (by decide) (by decide) 4 (by decide) (fun k hk => by have := b k hk; omega)
  have g := (sumZ_ge (f := fun k => (sd k).toInt) 4 (fun k hk => (b k hk).1)).1
  rw [t1]
  exact ⟨g, by omega⟩
theorem bend_w {u : Mm} {F G : Nat} (hF : F + 4 ≤ 576) (hG : G < 720) {w : Nat → Int32} {sd : Nat → Int64} {wa : Int32} {a : Int64} (hw : ∀ k, k < 4 → u.1 19 (F + k) = w k) (hsd : ∀ k, k < 4 → (u.1 18 (F + k)).toInt64 = sd k) (hwa : u.1 19 G = wa) (ha : (u.1 18 G).toInt64 = a) (bs : ∀ k, k < 4 → ∃ x, x ≤ 100000 ∧ sd k = lN x) (ba : ∃ x, x ≤ 100000 ∧ a = lN x) {Q : Mm → Prop}
    (hq : ∀ u1 : Mm, u1.1 = u.1 → (∀ k, k ≠ 12 → k ≠ 13 → k ≠ 14 → k ≠ 21 → u1.2 k = u.2 k) → (∀ q, q < 4 → u1.2 21 (F + q) = bentF w sd wa a q) → (∀ i, i < F ∨ F + 4 ≤ i → u1.2 21 i = u.2 21 i) → Q u1) : wX6_bend u (nI F) (nI G) Q := by
  have hsum := sum_sd bs
  have hle4 := unsB_le w 4
  unfold wX6_bend
  refine loopS (fun f i (t : Mm) => wX6_bend_b8 Q f t (nI F) (nI G) (sumL sd i) (nI (unsB w i)) (nI i)) (fun i t => t.1 = u.1 ∧ (∀ k, k ≠ 21 → t.2 k = u.2 k) ∧ (∀ q, q < i → t.2 21 (F + q) = sd q) ∧ (∀ q, q < F ∨ F + i ≤ q → t.2 21 q = u.2 21 q)) 4 (fun f t hI => ?_) (fun f i t hi hI ih => ?_) 0 u (by omega) ⟨rfl, fun _ _ => rfl, fun q hq => absurd hq (by omega), fun _ _ => rfl⟩
  · obtain ⟨i1, i2, i3, i4⟩ := hI
    have dealt : ∀ fl : Int32, ¬ wa = 0 → ((fl = 0 ∧ unsB w 4 = 0) ∨ (fl = 1 ∧ 0 < unsB w 4)) → ∃ n, wX6_bend_b99 Q n t (nI F) (nI G) (sumL sd 4) fl (0 : Int32) := by
      intro fl hwa0 hfl
      have fl0 : fl = 0 ↔ unsB w 4 = 0 := by
        rcases hfl with ⟨e, z⟩ | ⟨e, z⟩
        · rw [e]; exact ⟨fun _ => z, fun _ => rfl⟩
        · rw [e]; exact ⟨fun c => absurd c (by decide), fun c => by omega⟩
      generalize hSH : (fun k => if unsB w 4 = 0 then (if sumL sd 4 = 0 then 1 else sd k) else if w k = 0 then (1 : Int64) else 0) = SH
      have hSk : ∀ k, SH k = if unsB w 4 = 0 then (if sumL sd 4 = 0 then 1 else sd k) else if w k = 0 then (1 : Int64) else 0 := fun k => by rw [← hSH]
      refine loopS (fun f i (s : Mm) => wX6_bend_b99 Q f s (nI F) (nI G) (sumL sd 4) fl (nI i)) (fun i s => s.1 = t.1 ∧ (∀ k, k ≠ 12 → s.2 k = t.2 k) ∧ (∀ k, k < i → s.2 12 k = SH k)) 4 (fun f s hJ => ?_) (fun f i s hi hJ ih => ?_) 0 t (by omega) ⟨rfl, fun _ _ => rfl, fun k hk => absurd hk (by omega)⟩
      · obtain ⟨j1, j2, j3⟩ := hJ
        have one : (1 : Int64).toInt = 1 := rfl
        have zero : (0 : Int64).toInt = 0 := rfl
        have dl : ∀ W : Int64, W = (if unsB w 4 = 0 then a else a - sumL sd 4) → wX2_deal 0 s W (4 : Int32) (fun (u2 : Mm) => ∃ n211, wX6_bend_b211 Q n211 u2 (nI F) fl (0 : Int32)) := by
          intro W eW
          obtain ⟨xa, hxa, exa⟩ := ba
          have aT : a.toInt = (xa : Int) := by rw [exa, lN_toInt (by omega)]
          have bW : -500000 ≤ W.toInt ∧ W.toInt ≤ 500000 := by
            rw [eW]
            split
            · omega
            · rw [Int64.toInt_sub, Int.bmod_eq_of_le (by omega) (by omega)]; omega
          have bS : ∀ k, k < 4 → 0 ≤ (s.2 12 k).toInt ∧ (s.2 12 k).toInt ≤ 100000 := fun k hk => by
            rw [j3 k hk, hSk]
            obtain ⟨x, hx, e⟩ := bs k hk
            split
            · split
              · rw [one]; omega
              · rw [e, lN_toInt (by omega)]; omega
            · split
              · rw [one]; omega
              · rw [zero]; omega
          have pS : 0 < (sumL (s.2 12) 4).toInt := by
            rw [sumL_congr 4 j3, ← hSH]
            by_cases z : unsB w 4 = 0
            · simp only [if_pos z]
              by_cases z2 : sumL sd 4 = 0
              · simp only [if_pos z2, sumL_one]
                decide
              · simp only [if_neg z2]
                rcases Int.lt_or_le 0 (sumL sd 4).toInt with g | g
                · exact g
                · exact absurd (by rw [← Int64.toInt_inj, zero]; omega) z2
            · simp only [if_neg z, sumL_mask, Int64.mul_one]
              rw [lN_toInt (by omega)]; omega
          refine dealB_w (n := 4) (A := 500000) (B := 100000) (by decide) (by decide) (by decide) (by decide) (by decide) bW bS pS (fun s1 e1 e2 e3 => ?_)
          have e4 : ∀ q, q < 4 → s1.2 13 q = partsF W SH 4 q := fun q hq4 => by rw [e3 q hq4]; exact partsF_congr (by decide) j3 q hq4
          have s21 : s1.2 21 = t.2 21 := by rw [e2 21 (by decide) (by decide), j2 21 (by decide)]
          refine loopS (fun f i (r : Mm) => wX6_bend_b211 Q f r (nI F) fl (nI i)) (fun i r => r.1 = s1.1 ∧ (∀ k, k ≠ 21 → r.2 k = s1.2 k) ∧ (∀ q, q < i → r.2 21 (F + q) = bentF w sd wa a q) ∧ (∀ q, q < F ∨ F + i ≤ q → r.2 21 q = s1.2 21 q)) 4 (fun f r hK => ?_) (fun f i r hi hK ih => ?_) 0 s1 (by omega) ⟨rfl, fun _ _ => rfl, fun q hq => absurd hq (by omega), fun _ _ => rfl⟩
          · obtain ⟨k1, k2, k3, k4⟩ := hK
            unfold wX6_bend_b211
            exact ⟨fun _ => hq r (k1.trans (e1.trans (j1.trans i1))) (fun k a1 a2 a3 a4 => (k2 k a4).trans ((e2 k a2 a3).trans ((j2 k a1).trans (i2 k a4)))) k3 (fun i hi => by rw [k4 i hi, s21, i4 i hi]), fun cc => absurd ((nI_leI (a := 4) (b := 4) (by omega) (by omega)).mpr (Nat.le_refl _)) cc⟩
          · obtain ⟨k1, k2, k3, k4⟩ := hK
            have r19 : r.1 19 (F + i) = w i := by rw [k1, e1, j1, i1, hw i hi]
            have put : bentF w sd wa a i = partsF W SH 4 i → wX6_bend_b234 (fun (u : Mm) (x1 : Int32) (x6 : Int32) (x7 : Int32) => wX6_bend_b211 Q f u x1 x6 x7) Q r (nI F) fl (nI i) := fun eb => by
              unfold wX6_bend_b234
              rw [nI_add, nI_clamp (n := i) (by omega), nI_clamp (n := F + i) (by omega)]
              refine ⟨vp_in_nI (by omega) (by omega), vp_in_nI (by omega) (by omega), fun r1 er y ey => ?_⟩
              rw [ey, nI_1]
              refine ih r1 ⟨by rw [er]; exact k1, fun k hk => by rw [er, s64_n _ _ _ hk, k2 k hk], fun q hq4 => ?_, fun q hq4 => ?_⟩
              · rw [er, s64_k]
                by_cases e : q = i
                · subst e; rw [updL_s, k2 13 (by decide), e4 q hi, eb]
                · rw [updL_n _ _ (by omega), k3 q (by omega)]
              · rw [er, s64_k, updL_n _ _ (by omega), k4 q (by omega)]
            unfold wX6_bend_b211
            rw [nI_add, nI_clamp (n := F + i) (by omega), r19]
            refine ⟨fun cc => absurd ((nI_leI (a := 4) (b := i) (by omega) (by omega)).mp cc) (by omega), fun _ => ⟨fun z => put ?_, fun z => ⟨vp_in_nI (by omega) (by omega), fun z2 => put ?_, fun z2 y ey => ?_⟩⟩⟩
            · have u0 := fl0.mp z
              rw [if_pos u0] at eW
              unfold bentF
              rw [if_neg hwa0, if_pos u0, eW, ← hSH]
              simp only [if_pos u0]
            · have u0 : ¬ unsB w 4 = 0 := fun c => z (fl0.mpr c)
              rw [if_neg u0] at eW
              unfold bentF
              rw [if_neg hwa0, if_neg u0, if_pos z2, eW, ← hSH]
              simp only [if_neg u0]
              exact (partsF_mask (by omega) hi z2).symm
            · have u0 : ¬ unsB w 4 = 0 := fun c => z (fl0.mpr c)
              rw [ey, nI_1]
              refine ih r ⟨k1, k2, fun q hq4 => ?_, fun q hq4 => k4 q (by omega)⟩
              by_cases e : q = i
              · subst e
                rw [k4 _ (by omega), s21, i3 q hi]
                unfold bentF
                rw [if_neg hwa0, if_neg u0, if_neg z2]
              · exact k3 q (by omega)
        have s18 : (s.1 18 G).toInt64 = a := by rw [j1, i1, ha]
        unfold wX6_bend_b99
        rw [nI_clamp (n := G) (by omega), s18]
        refine ⟨fun _ => ⟨fun z => ⟨vp_in_nI hG (by omega), dl _ (by rw [if_pos (fl0.mp z)])⟩, fun z => ⟨vp_in_nI hG (by omega), dl _ (by rw [if_neg (fun c => z (fl0.mpr c))])⟩⟩, fun cc => absurd ((nI_leI (a := 4) (b := 4) (by omega) (by omega)).mpr (Nat.le_refl _)) cc⟩
      · obtain ⟨j1, j2, j3⟩ := hJ
        have s18 : (s.1 18 (F + i)).toInt64 = sd i := by rw [j1, i1, hsd i hi]
        have s19 : s.1 19 (F + i) = w i := by rw [j1, i1, hw i hi]
        have step : ∀ (s1 : Mm) (x : Int64) (y : Int32), y = nI i + 1 → x = SH i → s1 = s64 s 12 i x → wX6_bend_b99 Q f s1 (nI F) (nI G) (sumL sd 4) fl y := fun s1 x y ey ex es => by
          rw [ey, nI_1]
          refine ih s1 ⟨by rw [es]; exact j1, fun k hk => by rw [es, s64_n _ _ _ hk, j2 k hk], fun k hk => ?_⟩
          rw [es, s64_k]
          by_cases e : k = i
          · subst e; rw [updL_s, ex]
          · rw [updL_n _ _ e, j3 k (by omega)]
        have vi : vp_in (nI i) 6 := vp_in_nI (by omega) (by omega)
        have vF : vp_in (nI (F + i)) 720 := vp_in_nI (by omega) (by omega)
        unfold wX6_bend_b99
        rw [nI_add, nI_clamp (n := i) (by omega), nI_clamp (n := F + i) (by omega), s18, s19]
        refine ⟨fun cc => absurd ((nI_leI (a := 4) (b := i) (by omega) (by omega)).mp cc) (by omega), fun _ => ⟨fun z => ⟨fun z2 => ⟨vi, fun s1 es y ey => step s1 1 y ey ?_ es⟩, fun z2 => ⟨vF, vi, fun s1 es y ey => step s1 _ y ey ?_ es⟩⟩, fun z => ⟨vF, fun z2 => ⟨vi, fun s1 es y ey => step s1 1 y ey ?_ es⟩, fun z2 => ⟨vi, fun s1 es y ey => step s1 0 y ey ?_ es⟩⟩⟩⟩
        · rw [hSk, if_pos (fl0.mp z), if_pos z2]
        · rw [hSk, if_pos (fl0.mp z), if_neg z2]
        · rw [hSk, if_neg (fun c => z (fl0.mpr c)), if_pos z2]
        · rw [hSk, if_neg (fun c => z (fl0.mpr c)), if_neg z2]
    unfold wX6_bend_b8
    rw [i1, nI_clamp (n := G) (by omega), hwa]
    have z0 : (0 : Int32) = nI 0 := rfl
    refine ⟨fun _ => ⟨vp_in_nI hG (by omega), fun c0 => hq t i1 (fun k _ _ _ k4 => i2 k k4) (fun q hq4 => ?_) i4, fun c0 => ⟨fun c4 => dealt 0 c0 (Or.inl ⟨rfl, ?_⟩), fun c4 => dealt 1 c0 (Or.inr ⟨rfl, ?_⟩)⟩⟩, fun cc => absurd ((nI_leI (a := 4) (b := 4) (by omega) (by omega)).mpr (Nat.le_refl _)) cc⟩
    · rw [i3 q hq4]
      unfold bentF
      rw [if_pos c0]
    · rw [z0] at c4
      have := (nI_leI (a := unsB w 4) (b := 0) (by omega) (by omega)).mp c4
      omega
    · rcases Nat.eq_zero_or_pos (unsB w 4) with z | z
      · rw [z] at c4; exact absurd (by decide) c4
      · exact z
  · obtain ⟨i1, i2, i3, i4⟩ := hI
    have hle := unsB_le w i
    have t18 : (t.1 18 (F + i)).toInt64 = sd i := by rw [i1, hsd i hi]
    unfold wX6_bend_b8
    rw [nI_add, nI_clamp (n := F + i) (by omega), t18]
    refine ⟨fun cc => absurd ((nI_leI (a := 4) (b := i) (by omega) (by omega)).mp cc) (by omega), fun _ => ⟨vp_in_nI (by omega) (by omega), vp_in_nI (by omega) (by omega), fun t1 et => ⟨vp_in_nI (by omega) (by omega), fun x ex => ⟨vp_in_nI (by omega) (by omega), ?_⟩⟩⟩⟩
    have k1 : t1.1 = u.1 := by rw [et]; exact i1
    rw [k1, hsd i hi] at ex
    have eu : unsB w (i + 1) = if w i = 0 then unsB w i + 1 else unsB w i := rfl
    have inv : t1.1 = u.1 ∧ (∀ k, k ≠ 21 → t1.2 k = u.2 k) ∧ (∀ q, q < i + 1 → t1.2 21 (F + q) = sd q) ∧ (∀ q, q < F ∨ F + (i + 1) ≤ q → t1.2 21 q = u.2 21 q) := by
      refine ⟨k1, fun k hk => by rw [et, s64_n _ _ _ hk, i2 k hk], fun q hq4 => ?_, fun q hq4 => ?_⟩
      · rw [et, s64_k]
        by_cases e : q = i
        · subst e; rw [updL_s]
        · rw [updL_n _ _ (by omega), i3 q (by omega)]
      · rw [et, s64_k, updL_n _ _ (by omega), i4 q (by omega)]
    rw [k1, hw i hi]
    refine ⟨fun z y ey z3 ez => ?_, fun z y ey z3 ez => ?_⟩
    · rw [if_pos z] at eu
      rw [ey, ez, ex, nI_1, nI_1, ← eu]
      exact ih t1 inv
    · rw [if_neg z] at eu
      rw [ey, ez, ex, nI_1, show nI (unsB w i) + (0 : Int32) = nI (unsB w (i + 1)) by rw [show (0 : Int32) = nI 0 from rfl, nI_add, eu]; rfl]
      exact ih t1 inv
