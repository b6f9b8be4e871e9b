/-! ===== parts of a whole ===== -/
theorem amax_le (r : Nat → Int64) : ∀ k, amax r k ≤ k
  | 0 => Nat.le_refl 0
  | k + 1 => by
    unfold amax
    have := amax_le r k
    split <;> omega
theorem amax_congr {r r2 : Nat → Int64} : ∀ k, (∀ i, i ≤ k → r i = r2 i) → amax r k = amax r2 k
  | 0, _ => rfl
  | k + 1, h => by
    unfold amax
    have h1 := amax_congr k (fun i hi => h i (by omega))
    have h2 := amax_le r2 k
    rw [h1, h _ (show amax r2 k ≤ k + 1 by omega), h _ (Nat.le_refl _)]
theorem updL_congr {n : Nat} {p p2 : Nat → Int64} (h : ∀ i, i < n → p i = p2 i) (k : Nat) {x x2 : Int64} (hx : x = x2) : ∀ i, i < n → vp_updL p k x i = vp_updL p2 k x2 i := fun i hi => by
  subst hx
  by_cases hik : i = k
  · subst hik; rw [updL_s, updL_s]
  · rw [updL_n _ _ hik, updL_n _ _ hik, h i hi]
theorem give_congr {n : Nat} (hn : 1 ≤ n) : ∀ (t : Nat) {p p2 r r2 : Nat → Int64}, (∀ i, i < n → p i = p2 i) → (∀ i, i < n → r i = r2 i) → ∀ i, i < n → give n t p r i = give n t p2 r2 i
  | 0, _, _, _, _, hp, _ => hp
  | t + 1, p, p2, r, r2, hp, hr => by
    unfold give
    have h1 : amax r (n - 1) = amax r2 (n - 1) := amax_congr _ (fun i hi => hr i (by omega))
    have h2 := amax_le r2 (n - 1)
    rw [h1]
    exact give_congr hn t (updL_congr hp _ (by rw [hp _ (by omega)])) (updL_congr hr _ rfl)
theorem sumL_congr {f g : Nat → Int64} : ∀ n, (∀ i, i < n → f i = g i) → sumL f n = sumL g n
  | 0, _ => rfl
  | k + 1, h => by
    unfold sumL
    rw [sumL_congr k (fun i hi => h i (by omega)), h k (by omega)]
theorem partsF_congr {n : Nat} (hn : 1 ≤ n) {W : Int64} {f g : Nat → Int64} (h : ∀ i, i < n → f i = g i) (i : Nat) (hi : i < n) : partsF W f n i = partsF W g n i := by
  have e1 : sumL f n = sumL g n := sumL_congr n h
  have e2 : ∀ k, k < n → part0 W f n k = part0 W g n k := fun k hk => by unfold part0; rw [h k hk, e1]
  have e3 : ∀ k, k < n → rest0 W f n k = rest0 W g n k := fun k hk => by unfold rest0; rw [e2 k hk, h k hk, e1]
  unfold partsF
  rw [sumL_congr n e2]
  exact give_congr hn _ e2 e3 i hi
/-! the reference's -/
theorem givesScan_w {u : Mm} {n : Nat} (h1 : 1 ≤ n) (h6 : n ≤ 6) {x4 : Int64} {k3 : Mm → Int32 → Int64 → Prop} {Q : Mm → Prop} (h : k3 (s64 (s64 u 11 (amax (u.2 12) (n - 1)) (u.2 11 (amax (u.2 12) (n - 1)) + 1)) 12 (amax (u.2 12) (n - 1)) (-1)) (nI n) (x4 - 1)) : ∃ f, wX9_givesRest_b16 k3 Q f u (nI n) x4 (0 : Int32) (1 : Int32) := by
  refine loopF (fun f i => wX9_givesRest_b16 k3 Q f u (nI n) x4 (nI (amax (u.2 12) i)) (nI (i + 1))) (n - 1) (fun f => ?_) (fun f i hi ih => ?_) 0 (by omega)
  · have hb := amax_le (u.2 12) (n - 1)
    rw [show n - 1 + 1 = n by omega]
    unfold wX9_givesRest_b16
    rw [nI_clamp (n := amax (u.2 12) (n - 1)) (by omega)]
    refine ⟨fun _ => ⟨vp_in_nI (by omega) (by omega), vp_in_nI (by omega) (by omega), fun u1 e1 => ⟨vp_in_nI (by omega) (by omega), fun u2 e2 y ey => ?_⟩⟩, fun c => absurd ((nI_leI (a := n) (b := n) (by omega) (by omega)).mpr (Nat.le_refl n)) c⟩
    rw [ey, e2, e1]; exact h
  · have hb := amax_le (u.2 12) i
    unfold wX9_givesRest_b16
    rw [nI_clamp (n := amax (u.2 12) i) (by omega), nI_clamp (n := i + 1) (by omega)]
    refine ⟨fun c => absurd ((nI_leI (a := n) (b := i + 1) (by omega) (by omega)).mp c) (by omega), fun _ => ⟨vp_in_nI (by omega) (by omega), vp_in_nI (by omega) (by omega), fun c y ey => ?_, fun c y ey => ?_⟩⟩
    · rw [ey, nI_1]
      have e : amax (u.2 12) (i + 1) = amax (u.2 12) i := by
        show (if u.2 12 (amax (u.2 12) i) < u.2 12 (i + 1) then i + 1 else amax (u.2 12) i) = _
        rw [if_neg (by rw [Int64.lt_iff_toInt_lt]; rw [Int64.le_iff_toInt_le] at c; omega)]
      rw [e] at ih; exact ih
    · rw [ey, nI_1]
      have e : amax (u.2 12) (i + 1) = i + 1 := by
        show (if u.2 12 (amax (u.2 12) i) < u.2 12 (i + 1) then i + 1 else amax (u.2 12) i) = _
        rw [if_pos (by rw [Int64.lt_iff_toInt_lt]; rw [Int64.le_iff_toInt_le] at c; omega)]
      rw [e] at ih; exact ih
theorem clampL (x : Int64) : (x.toNatClampNeg : Int) = if 0 ≤ x.toInt then x.toInt else 0 := by
  rw [← Int64.toNat_toInt]; split <;> omega
theorem gives_w {n : Nat} (h1 : 1 ≤ n) (h6 : n ≤ 6) : ∀ (t : Nat) (u : Mm) (x4 : Int64) {Q : Mm → Prop}, x4.toNatClampNeg = t → (∀ u1 : Mm, u1.1 = u.1 → (∀ k, k ≠ 11 → k ≠ 12 → u1.2 k = u.2 k) → u1.2 11 = give n t (u.2 11) (u.2 12) → Q u1) → ∃ f, wX9_givesRest_b3 Q f u (nI n) x4
  | 0, u, x4, Q, ht, hq => by
    refine ⟨1, ?_⟩
    unfold wX9_givesRest_b3
    have := clampL x4
    have c : x4 ≤ 0 := by
      rw [Int64.le_iff_toInt_le]
      show x4.toInt ≤ 0
      split at this <;> omega
    exact ⟨fun _ => hq u rfl (fun _ _ _ => rfl) rfl, fun z => absurd c z⟩
  | t + 1, u, x4, Q, ht, hq => by
    have hc := clampL x4
    have b := bdL x4
    have hp : 0 < x4.toInt := by split at hc <;> omega
    have h4 : (x4 - 1).toInt = x4.toInt - 1 := by
      rw [Int64.toInt_sub]
      show (x4.toInt - 1).bmod (2 ^ 64) = _
      rw [Int.bmod_eq_of_le (by omega) (by omega)]
    have h5 : (x4 - 1).toNatClampNeg = t := by
      have := clampL (x4 - 1)
      rw [h4] at this
      split at this <;> split at hc <;> omega
    obtain ⟨f, hf⟩ := gives_w h1 h6 t (s64 (s64 u 11 (amax (u.2 12) (n - 1)) (u.2 11 (amax (u.2 12) (n - 1)) + 1)) 12 (amax (u.2 12) (n - 1)) (-1)) (x4 - 1) (Q := Q) h5 (fun u1 e1 e2 e3 => hq u1 e1 (fun k k1 k2 => by rw [e2 k k1 k2, s64_n _ _ _ k2, s64_n _ _ _ k1]) (by rw [e3]; rfl))
    refine ⟨f + 1, ?_⟩
    unfold wX9_givesRest_b3
    refine ⟨fun c => ?_, fun _ => givesScan_w h1 h6 hf⟩
    rw [Int64.le_iff_toInt_le] at c
    have c : x4.toInt ≤ 0 := c
    omega
theorem parts_w {u : Mm} {n : Nat} (h1 : 1 ≤ n) (h6 : n ≤ 6) {W : Int64} (hs : ¬ sumL (u.2 10) n = 0) {Q : Mm → Prop} (hq : ∀ u1 : Mm, u1.1 = u.1 → (∀ k, k ≠ 11 → k ≠ 12 → u1.2 k = u.2 k) → (∀ i, i < n → u1.2 11 i = partsF W (u.2 10) n i) → Q u1) : wX9_parts u W (nI n) Q := by
  unfold wX9_parts
  have hq2 : ∀ u1 : Mm, u1.1 = u.1 → (∀ k, k ≠ 11 → k ≠ 12 → u1.2 k = u.2 k) → (∀ i, i < n → u1.2 11 i = partsF W (u.2 10) n i) → Q u1 := hq
  refine loopF (fun f i => wX9_parts_b6 Q f u W (nI n) (sumL (u.2 10) i) (nI i)) n (fun f => ?_) (fun f i hi ih => ?_) 0 (by omega)
  · unfold wX9_parts_b6
    refine ⟨fun _ => ?_, fun c => absurd ((nI_leI (a := n) (b := n) (by omega) (by omega)).mpr (Nat.le_refl n)) c⟩
    refine loopS (fun f i (w : Mm) => wX9_parts_b36 Q f w W (nI n) (sumL (u.2 10) n) (W - sumL (part0 W (u.2 10) n) i) (nI i)) (fun i w => w.1 = u.1 ∧ (∀ k, k ≠ 11 → k ≠ 12 → w.2 k = u.2 k) ∧ (∀ k, k < i → w.2 11 k = part0 W (u.2 10) n k ∧ w.2 12 k = rest0 W (u.2 10) n k)) n (fun f w hI => ?_) (fun f i w hi hI ih => ?_) 0 u (by omega) ⟨rfl, fun _ _ _ => rfl, fun k hk => absurd hk (by omega)⟩ |> fun ⟨f, hf⟩ => ⟨f, by have e : W - sumL (part0 W (u.2 10) n) 0 = W := (by show W - 0 = W; grind); rw [e] at hf; exact hf⟩
    · obtain ⟨i1, i2, i3⟩ := hI
      unfold wX9_parts_b36
      refine ⟨fun _ => ?_, fun c => absurd ((nI_leI (a := n) (b := n) (by omega) (by omega)).mpr (Nat.le_refl n)) c⟩
      unfold wX9_givesRest
      refine gives_w h1 h6 _ w _ rfl (fun u1 e1 e2 e3 => hq2 u1 (e1.trans i1) (fun k k1 k2 => (e2 k k1 k2).trans (i2 k k1 k2)) (fun i hi => ?_))
      rw [e3]
      unfold partsF
      exact give_congr h1 _ (fun k hk => (i3 k hk).1) (fun k hk => (i3 k hk).2) i hi
    · obtain ⟨i1, i2, i3⟩ := hI
      unfold wX9_parts_b36
      rw [nI_clamp (n := i) (by omega)]
      have w10 : w.2 10 = u.2 10 := i2 10 (by decide) (by decide)
      have vi : vp_in (nI i) 6 := vp_in_nI (by omega) (by omega)
      rw [w10]
      refine ⟨fun c => absurd ((nI_leI (a := n) (b := i) (by omega) (by omega)).mp c) (by omega), fun _ => ⟨vi, floR_w hs ⟨vi, fun u4 e4 => ⟨vi, vi, vi, fun u5 e5 => ⟨vi, fun y ey z ez => ?_⟩⟩⟩⟩⟩
      have a11 : u4.2 11 i = part0 W (u.2 10) n i := by rw [e4, s64_k, updL_s]; rfl
      have a10 : u4.2 10 = u.2 10 := by rw [e4, s64_n _ _ _ (by decide), w10]
      have b11 : u5.2 11 i = part0 W (u.2 10) n i := by rw [e5, s64_n _ _ _ (by decide), a11]
      rw [b11, L_ring1] at ey
      rw [ey, ez, nI_1]
      refine ih u5 ⟨by rw [e5, e4]; exact i1, fun k k1 k2 => by rw [e5, e4, s64_n _ _ _ k2, s64_n _ _ _ k1, i2 k k1 k2], fun k hk => ?_⟩
      by_cases hki : k = i
      · subst hki
        refine ⟨b11, ?_⟩
        rw [e5, s64_k, updL_s, a10, a11]; rfl
      · have := i3 k (by omega)
        rw [e5, s64_n _ _ _ (by decide), s64_k, updL_n _ _ hki, e4, s64_k, s64_n _ _ _ (by decide), updL_n _ _ hki]
        exact this
  · unfold wX9_parts_b6
    rw [nI_clamp (n := i) (by omega)]
    refine ⟨fun c => absurd ((nI_leI (a := n) (b := i) (by omega) (by omega)).mp c) (by omega), fun _ => ⟨vp_in_nI (by omega) (by omega), fun y ey z ez => ?_⟩⟩
    rw [ey, ez, nI_1]
    exact ih
