/-! ===== parts of a whole: the class's ===== -/
theorem handScan_w {u : Mm} {j n : Nat} (h1 : 1 ≤ n) (h6 : n ≤ 6) {x1 : Int64} {x4 : Int32} {k3 : Mm → Int64 → Int32 → Int32 → Prop} {Q : Mm → Prop} (h : k3 (s64 (s64 u (13 + 14 * j) (amax (u.2 (14 + 14 * j)) (n - 1)) (u.2 (13 + 14 * j) (amax (u.2 (14 + 14 * j)) (n - 1)) + 1)) (14 + 14 * j) (amax (u.2 (14 + 14 * j)) (n - 1)) (-1)) x1 (nI n) (x4 + 1)) : ∃ f, wX2_handOut_b23 j k3 Q f u x1 (nI n) x4 (0 : Int32) (1 : Int32) := by
  refine loopF (fun f i => wX2_handOut_b23 j k3 Q f u x1 (nI n) x4 (nI (amax (u.2 (14 + 14 * j)) i)) (nI (i + 1))) (n - 1) (fun f => ?_) (fun f i hi ih => ?_) 0 (by omega)
  · have hb := amax_le (u.2 (14 + 14 * j)) (n - 1)
    rw [show n - 1 + 1 = n by omega]
    unfold wX2_handOut_b23
    rw [nI_clamp (n := amax (u.2 (14 + 14 * j)) (n - 1)) (by omega)]
    refine ⟨fun _ => ⟨vp_in_nI (by omega) (by omega), vp_in_nI (by omega) (by omega), fun u1 e1 => ⟨vp_in_nI (by omega) (by omega), fun u2 e2 y ey => ?_⟩⟩, fun c => absurd ((nI_leI (a := n) (b := n) (by omega) (by omega)).mpr (Nat.le_refl n)) c⟩
    rw [ey, e2, e1]; exact h
  · have hb := amax_le (u.2 (14 + 14 * j)) i
    unfold wX2_handOut_b23
    rw [nI_clamp (n := amax (u.2 (14 + 14 * j)) i) (by omega), nI_clamp (n := i + 1) (by omega)]
    refine ⟨fun c => absurd ((nI_leI (a := n) (b := i + 1) (by omega) (by omega)).mp c) (by omega), fun _ => ⟨vp_in_nI (by omega) (by omega), vp_in_nI (by omega) (by omega), fun c y ey => ?_, fun c y ey => ?_⟩⟩
    · rw [ey, nI_1]
      have e : amax (u.2 (14 + 14 * j)) (i + 1) = amax (u.2 (14 + 14 * j)) i := by
        show (if u.2 (14 + 14 * j) (amax (u.2 (14 + 14 * j)) i) < u.2 (14 + 14 * j) (i + 1) then i + 1 else amax (u.2 (14 + 14 * j)) i) = _
        rw [if_neg (by rw [Int64.lt_iff_toInt_lt]; rw [Int64.le_iff_toInt_le] at c; omega)]
      rw [e] at ih; exact ih
    · rw [ey, nI_1]
      have e : amax (u.2 (14 + 14 * j)) (i + 1) = i + 1 := by
        show (if u.2 (14 + 14 * j) (amax (u.2 (14 + 14 * j)) i) < u.2 (14 + 14 * j) (i + 1) then i + 1 else amax (u.2 (14 + 14 * j)) i) = _
        rw [if_pos (by rw [Int64.lt_iff_toInt_lt]; rw [Int64.le_iff_toInt_le] at c; omega)]
      rw [e] at ih; exact ih
/-- what is left is at most n: it is given wholly -/
theorem handL_w {j n : Nat} (h1 : 1 ≤ n) (h6 : n ≤ 6) (L : Nat) (hL : L ≤ n) : ∀ (t i : Nat) (u : Mm) {Q : Mm → Prop}, i + t = L → (∀ u1 : Mm, u1.1 = u.1 → (∀ k, k ≠ 13 + 14 * j → k ≠ 14 + 14 * j → u1.2 k = u.2 k) → u1.2 (13 + 14 * j) = give n t (u.2 (13 + 14 * j)) (u.2 (14 + 14 * j)) → Q u1) → ∃ f, wX2_handOut_b3 j Q f u (lN L) (nI n) (nI i)
  | 0, i, u, Q, ht, hq => by
    refine ⟨1, ?_⟩
    unfold wX2_handOut_b3
    refine ⟨fun _ => hq u rfl (fun _ _ _ => rfl) rfl, fun z => absurd ?_ z⟩
    rw [nI_l (by omega), show L = i by omega, Int64.le_iff_toInt_le]
    exact Int.le_refl _
  | t + 1, i, u, Q, ht, hq => by
    have hd : (13 + 14 * j : Nat) ≠ 14 + 14 * j := by omega
    obtain ⟨f, hf⟩ := handL_w h1 h6 L hL t (i + 1) (s64 (s64 u (13 + 14 * j) (amax (u.2 (14 + 14 * j)) (n - 1)) (u.2 (13 + 14 * j) (amax (u.2 (14 + 14 * j)) (n - 1)) + 1)) (14 + 14 * j) (amax (u.2 (14 + 14 * j)) (n - 1)) (-1)) (Q := Q) (by omega) (fun u1 e1 e2 e3 => hq u1 e1 (fun k k1 k2 => by rw [e2 k k1 k2, s64_n _ _ _ k2, s64_n _ _ _ k1]) (by rw [e3, s64_k, s64_n _ _ _ hd, s64_k, s64_n _ _ _ (Ne.symm hd)]; rfl))
    refine ⟨f + 1, ?_⟩
    unfold wX2_handOut_b3
    refine ⟨fun c => ?_, fun _ => ⟨fun c => absurd ((nI_leI (a := n) (b := i) (by omega) (by omega)).mp c) (by omega), fun _ => handScan_w h1 h6 (by rw [nI_1]; exact hf)⟩⟩
    rw [nI_l (by omega), Int64.le_iff_toInt_le, lN_toInt (by omega), lN_toInt (by omega)] at c
    omega
theorem hand_w {u : Mm} {j n L : Nat} (h1 : 1 ≤ n) (h6 : n ≤ 6) (hL : L ≤ n) {Q : Mm → Prop} (hq : ∀ u1 : Mm, u1.1 = u.1 → (∀ k, k ≠ 13 + 14 * j → k ≠ 14 + 14 * j → u1.2 k = u.2 k) → u1.2 (13 + 14 * j) = give n L (u.2 (13 + 14 * j)) (u.2 (14 + 14 * j)) → Q u1) : wX2_handOut j u (lN L) (nI n) Q := by
  unfold wX2_handOut
  exact handL_w h1 h6 L hL L 0 u (by omega) hq
theorem divide_w {u : Mm} {j i : Nat} (hi : i < 6) {x y : Int64} (hy : 0 < y.toInt) {Q : Int64 → Mm → Prop} (h : Q (flo x y) (s64 (s64 u (13 + 14 * j) i (flo x y)) (14 + 14 * j) i (x - flo x y * y))) : wX2_divide j u (nI i) x y Q := by
  unfold wX2_divide
  have vi : vp_in (nI i) 6 := vp_in_nI hi (by omega)
  have hy2 : ¬ y ≤ 0 := fun c => by
    rw [Int64.le_iff_toInt_le] at c
    have c : y.toInt ≤ 0 := c
    omega
  have hd : (13 + 14 * j : Nat) ≠ 14 + 14 * j := by omega
  refine ⟨fun c => absurd c hy2, fun _ => floorDiv_w hy ?_⟩
  unfold wX2_divide_b22
  rw [nI_clamp (by omega)]
  refine ⟨vi, fun u1 e1 => ⟨fun c => absurd c hy2, fun _ => floorMod_w hy ⟨vi, fun u4 e4 => ⟨vi, ?_⟩⟩⟩⟩
  have e5 : u4.2 (13 + 14 * j) i = flo x y := by rw [e4, s64_n _ _ _ hd, e1, s64_k, updL_s]
  rw [e5, e4, e1]; exact h
theorem divide0_w {u : Mm} {j i : Nat} (hi : i < 6) {x : Int64} {Q : Int64 → Mm → Prop} (h : Q 0 (s64 (s64 u (13 + 14 * j) i 0) (14 + 14 * j) i 0)) : wX2_divide j u (nI i) x 0 Q := by
  unfold wX2_divide
  have vi : vp_in (nI i) 6 := vp_in_nI hi (by omega)
  have hd : (13 + 14 * j : Nat) ≠ 14 + 14 * j := by omega
  refine ⟨fun _ => ?_, fun c => absurd (by decide) c⟩
  unfold wX2_divide_b22
  rw [nI_clamp (by omega)]
  refine ⟨vi, fun u1 e1 => ⟨fun _ => ⟨vi, fun u4 e4 => ⟨vi, ?_⟩⟩, fun c => absurd (by decide) c⟩⟩
  have e5 : u4.2 (13 + 14 * j) i = 0 := by rw [e4, s64_n _ _ _ hd, e1, s64_k, updL_s]
  rw [e5, e4, e1]; exact h
/-- the class's parts, where what is left is at most n -/
theorem deal_w {u : Mm} {n : Nat} (h1 : 1 ≤ n) (h6 : n ≤ 6) {W : Int64} (hs : 0 < (sumL (u.2 12) n).toInt) {L : Nat} (hL : L ≤ n) (eL : W - sumL (part0 W (u.2 12) n) n = lN L) {Q : Mm → Prop} (hq : ∀ u1 : Mm, u1.1 = u.1 → (∀ k, k ≠ 13 → k ≠ 14 → u1.2 k = u.2 k) → (∀ i, i < n → u1.2 13 i = partsF W (u.2 12) n i) → Q u1) : wX2_deal 0 u W (nI n) Q := by
  unfold wX2_deal
  refine loopF (fun f i => wX2_deal_b6 0 Q f u W (nI n) (sumL (u.2 12) i) (nI i)) n (fun f => ?_) (fun f i hi ih => ?_) 0 (by omega)
  · unfold wX2_deal_b6
    refine ⟨fun _ => ?_, fun c => absurd ((nI_leI (a := n) (b := n) (by omega) (by omega)).mpr (Nat.le_refl n)) c⟩
    refine loopS (fun f i (w : Mm) => wX2_deal_b36 0 Q f w W (nI n) (sumL (u.2 12) n) (W - sumL (part0 W (u.2 12) n) i) (nI i)) (fun i w => w.1 = u.1 ∧ (∀ k, k ≠ 13 → k ≠ 14 → w.2 k = u.2 k) ∧ (∀ k, k < i → w.2 13 k = part0 W (u.2 12) n k ∧ w.2 14 k = rest0 W (u.2 12) n k)) n (fun f w hI => ?_) (fun f i w hi hI ih => ?_) 0 u (by omega) ⟨rfl, fun _ _ _ => rfl, fun k hk => absurd hk (by omega)⟩ |> fun ⟨f, hf⟩ => ⟨f, by have e : W - sumL (part0 W (u.2 12) n) 0 = W := (by show W - 0 = W; grind); rw [e] at hf; exact hf⟩
    · obtain ⟨i1, i2, i3⟩ := hI
      unfold wX2_deal_b36
      refine ⟨fun _ => ⟨fun c => ?_, fun _ => ?_⟩, fun c => absurd ((nI_leI (a := n) (b := n) (by omega) (by omega)).mpr (Nat.le_refl n)) c⟩
      · rw [Int64.le_iff_toInt_le] at c
        have c : (sumL (u.2 12) n).toInt ≤ 0 := c
        omega
      · rw [eL]
        refine hand_w h1 h6 hL (fun u1 e1 e2 e3 => hq u1 (e1.trans i1) (fun k k1 k2 => (e2 k k1 k2).trans (i2 k k1 k2)) (fun i hi => ?_))
        have e3 : u1.2 13 = give n L (w.2 13) (w.2 14) := e3
        rw [e3]
        unfold partsF
        have hc := clampL (lN L)
        rw [lN_toInt (by omega)] at hc
        rw [eL, show (lN L).toNatClampNeg = L by split at hc <;> omega]
        exact give_congr h1 _ (fun k hk => (i3 k hk).1) (fun k hk => (i3 k hk).2) i hi
    · obtain ⟨i1, i2, i3⟩ := hI
      unfold wX2_deal_b36
      rw [nI_clamp (n := i) (by omega)]
      have w12 : w.2 (12 + 14 * 0) = u.2 12 := i2 12 (by decide) (by decide)
      have vi : vp_in (nI i) 6 := vp_in_nI (by omega) (by omega)
      rw [w12]
      refine ⟨fun c => absurd ((nI_leI (a := n) (b := i) (by omega) (by omega)).mp c) (by omega), fun _ => ⟨vi, divide_w (by omega) hs (fun y ey z ez => ?_)⟩⟩
      have ey : y = W - sumL (part0 W (u.2 12) n) i - part0 W (u.2 12) n i := ey
      rw [L_ring1] at ey
      rw [ey, ez, nI_1]
      refine ih _ ⟨i1, fun k k1 k2 => by rw [s64_n _ _ _ (show k ≠ 14 + 14 * 0 by omega), s64_n _ _ _ (show k ≠ 13 + 14 * 0 by omega), i2 k k1 k2], fun k hk => ?_⟩
      rw [s64_n _ (k := 14 + 14 * 0) (q := 13) _ _ (by decide), s64_k _ (13 + 14 * 0), s64_k _ (14 + 14 * 0), s64_n _ (k := 13 + 14 * 0) (q := 14 + 14 * 0) _ _ (by decide)]
      by_cases hki : k = i
      · subst hki
        rw [updL_s, updL_s]
        exact ⟨rfl, rfl⟩
      · have := i3 k (by omega)
        rw [updL_n _ _ hki, updL_n _ _ hki]
        exact this
  · unfold wX2_deal_b6
    rw [nI_clamp (n := i) (by omega)]
    refine ⟨fun c => absurd ((nI_leI (a := n) (b := i) (by omega) (by omega)).mp c) (by omega), fun _ => ⟨vp_in_nI (by omega) (by omega), fun y ey z ez => ?_⟩⟩
    rw [ey, ez, nI_1]
    exact ih
/-- without any share all parts are 0 -/
theorem deal0_w {u : Mm} {n : Nat} (h1 : 1 ≤ n) (h6 : n ≤ 6) {W : Int64} (hs : sumL (u.2 12) n = 0) {Q : Mm → Prop} (hq : ∀ u1 : Mm, u1.1 = u.1 → (∀ k, k ≠ 13 → k ≠ 14 → u1.2 k = u.2 k) → (∀ i, i < n → u1.2 13 i = 0) → Q u1) : wX2_deal 0 u W (nI n) Q := by
  unfold wX2_deal
  refine loopF (fun f i => wX2_deal_b6 0 Q f u W (nI n) (sumL (u.2 12) i) (nI i)) n (fun f => ?_) (fun f i hi ih => ?_) 0 (by omega)
  · unfold wX2_deal_b6
    rw [hs]
    refine ⟨fun _ => ?_, fun c => absurd ((nI_leI (a := n) (b := n) (by omega) (by omega)).mpr (Nat.le_refl n)) c⟩
    refine loopS (fun f i (w : Mm) => wX2_deal_b36 0 Q f w W (nI n) 0 W (nI i)) (fun i w => w.1 = u.1 ∧ (∀ k, k ≠ 13 → k ≠ 14 → w.2 k = u.2 k) ∧ (∀ k, k < i → w.2 13 k = 0)) n (fun f w hI => ?_) (fun f i w hi hI ih => ?_) 0 u (by omega) ⟨rfl, fun _ _ _ => rfl, fun k hk => absurd hk (by omega)⟩
    · obtain ⟨i1, i2, i3⟩ := hI
      unfold wX2_deal_b36
      exact ⟨fun _ => ⟨fun _ => hq w i1 i2 i3, fun c => absurd (by decide) c⟩, fun c => absurd ((nI_leI (a := n) (b := n) (by omega) (by omega)).mpr (Nat.le_refl n)) c⟩
    · obtain ⟨i1, i2, i3⟩ := hI
      unfold wX2_deal_b36
      have vi : vp_in (nI i) 6 := vp_in_nI (by omega) (by omega)
      refine ⟨fun c => absurd ((nI_leI (a := n) (b := i) (by omega) (by omega)).mp c) (by omega), fun _ => ⟨vi, divide0_w (by omega) (fun y ey z ez => ?_)⟩⟩
      have ey : y = W := ey.trans (by grind)
      rw [ey, ez, nI_1]
      refine ih _ ⟨i1, fun k k1 k2 => by rw [s64_n _ _ _ (show k ≠ 14 + 14 * 0 by omega), s64_n _ _ _ (show k ≠ 13 + 14 * 0 by omega), i2 k k1 k2], fun k hk => ?_⟩
      rw [s64_n _ (k := 14 + 14 * 0) (q := 13) _ _ (by decide), s64_k _ (13 + 14 * 0)]
      by_cases hki : k = i
      · subst hki
        rw [updL_s]
      · rw [updL_n _ _ hki]
        exact i3 k (by omega)
  · unfold wX2_deal_b6
    rw [nI_clamp (n := i) (by omega)]
    refine ⟨fun c => absurd ((nI_leI (a := n) (b := i) (by omega) (by omega)).mp c) (by omega), fun _ => ⟨vp_in_nI (by omega) (by omega), fun y ey z ez => ?_⟩⟩
    rw [ey, ez, nI_1]
    exact ih
