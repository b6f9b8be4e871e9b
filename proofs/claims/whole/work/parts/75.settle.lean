/-! ===== the class's settle ===== -/
def kS1 : List Nat := [2, 3, 4, 5, 6, 7, 8, 15, 16, 24, 30, 31, 34, 35, 38, 42, 46, 50, 55, 57, 59, 61, 107, 124, 125, 270, 693, 757, 821, 885, 965, 966, 967, 997, 998, 999, 1029, 1030, 1031, 1061, 1062, 1063, 39, 40, 43, 44, 47, 48, 51, 52, 696, 760, 824, 888]
def kS2 : List Nat := [33]
def pS (u : Mm) : Mm := (fun k => if kS1.contains k = true then u.1 k else fun _ => 0, fun k => if kS2.contains k = true then u.2 k else fun _ => 0)
theorem pS_pU (u : Mm) : pS (pU u) = pS u := by
  unfold pS pU
  refine Prod.ext ?_ ?_
  · funext k
    dsimp only
    by_cases h : kS1.contains k = true
    · have h2 : kU1.contains k = true := by
        unfold kS1 at h
        unfold kU1
        simp only [List.contains_eq_mem, List.mem_cons, decide_eq_true_eq, List.not_mem_nil, or_false] at h ⊢
        omega
      rw [if_pos h, if_pos h2, if_pos h]
    · rw [if_neg h, if_neg h]
  · funext k
    dsimp only
    by_cases h : kS2.contains k = true
    · have h2 : kU2.contains k = true := by
        unfold kS2 at h
        unfold kU2
        simp only [List.contains_eq_mem, List.mem_cons, decide_eq_true_eq, List.not_mem_nil, or_false] at h ⊢
        omega
      rw [if_pos h, if_pos h2, if_pos h]
    · rw [if_neg h, if_neg h]
theorem pS_of_pU {u u1 : Mm} (h : pU u1 = pU u) : pS u1 = pS u := by rw [← pS_pU u1, h, pS_pU]
theorem pS_of {u u1 : Mm} (h1 : ∀ k, kS1.contains k = true → u1.1 k = u.1 k) (h2 : ∀ k, kS2.contains k = true → u1.2 k = u.2 k) : pS u1 = pS u := by
  unfold pS
  refine Prod.ext ?_ ?_
  · funext k
    dsimp only
    by_cases h : kS1.contains k = true
    · rw [if_pos h, if_pos h, h1 k h]
    · rw [if_neg h, if_neg h]
  · funext k
    dsimp only
    by_cases h : kS2.contains k = true
    · rw [if_pos h, if_pos h, h2 k h]
    · rw [if_neg h, if_neg h]
theorem pS_1 {u u1 : Mm} (h : pS u1 = pS u) {k : Nat} (hk : kS1.contains k = true) : u1.1 k = u.1 k := by
  have h2 := congrArg (fun m : Mm => m.1 k) h
  unfold pS at h2
  dsimp only at h2
  rw [hk] at h2
  exact h2
theorem pU_1 {u u1 : Mm} (h : pU u1 = pU u) {k : Nat} (hk : kU1.contains k = true) : u1.1 k = u.1 k := by
  have h2 := congrArg (fun m : Mm => m.1 k) h
  unfold pU at h2
  dsimp only at h2
  rw [hk] at h2
  exact h2
theorem pU_2 {u u1 : Mm} (h : pU u1 = pU u) {k : Nat} (hk : kU2.contains k = true) : u1.2 k = u.2 k := by
  have h2 := congrArg (fun m : Mm => m.2 k) h
  unfold pU at h2
  dsimp only at h2
  rw [hk] at h2
  exact h2
theorem pS_s32 (u : Mm) {k : Nat} (i : Nat) (x : Int32) (h : kS1.contains k = false) : pS (s32 u k i x) = pS u := pS_of (fun q hq => s32_n _ _ _ (fun e => by rw [e, h] at hq; exact absurd hq (by decide))) (fun _ _ => rfl)
theorem rel_S {u u1 v : Mm} (h : Rel u v) (hs : pS u1 = pS u) (hQ1 : rQ u1 v) : Rel u1 v := by
  obtain ⟨hA, hB, hC, hD, hE, hF, hG, hH, hI, hJ, hK, hL, hM, hN, hO, hP, hQ, hR⟩ := h
  have g : ∀ (P : Mm → Mm → Prop), P (pS u) v → P (pS u1) v := fun P hp => by rw [hs]; exact hp
  exact ⟨g rA hA, g rB hB, g rC hC, g rD hD, g rE hE, g rF hF, g rG hG, g rH hH, g rI hI, g rJ hJ, g rK hK, g rL hL, g rM hM, g rN hN, g rO hO, g rP hP, hQ1, hR⟩
theorem hear_w {u v s : Mm} (h : Rel u v) (hs : pS s = pS u) {c : Nat} (hc : c < 720) {Q : Mm → Prop} (hq : ∀ s1 : Mm, pS s1 = pS u → s1.1 17 = s.1 17 → (s1.1 18 c).toInt64 = saidS v c → (∀ i, i ≠ c → s1.1 18 i = s.1 18 i) → s1.1 19 c = wgtS v c → (∀ i, i ≠ c → s1.1 19 i = s.1 19 i) → s1.2 21 = s.2 21 → s1.2 22 = s.2 22 → Q s1) : wX6_hear s (nI c) Q := by
  obtain ⟨n80, -, -⟩ := rel_n h
  have g : ∀ (P : Mm → Mm → Prop), P (pS u) v → P (pS s) v := fun P hp => by rw [hs]; exact hp
  have hA : rA s v := g rA h.1
  have hC : ∀ k, k < nrow v → _ := g rC h.2.2.1
  have hD : rD s v := g rD h.2.2.2.1
  have hE : rE s v := g rE h.2.2.2.2.1
  have hT : ∀ i, i < 10 → s.1 2 i = v.1 1 i := fun i hi => (hA i hi).1
  have hR : ∀ k, k < nrow v → s.1 3 k = v.1 2 k ∧ s.1 4 k = v.1 3 k ∧ s.1 6 k = v.1 5 k := fun k hk => ⟨(hC k hk).1, (hC k hk).2.1, (hC k hk).2.2.2.1⟩
  have hV : ∀ k, k < nrow v → s.1 5 k = v.1 4 k := fun k hk => (hC k hk).2.2.1
  have hcode : ∀ k, k < nrow v → s.1 4 k = v.1 3 k := fun k hk => (hR k hk).2.1
  unfold wX6_hear
  rw [hE.1, nI_clamp (n := c) (by omega)]
  refine tally_w n80 hc (v.1 106 0) 9 ?_ ?_ ?_ ?_ ?_ (fun u1 f1 f2 f3 f4 => ⟨vp_in_nI hc (by omega), fun u3 e3 => ⟨vp_in_nI hc (by omega), fun u4 e4 => ?_⟩⟩)
  · rw [lastR_congr hcode (nI c) (nrow v) (Nat.le_refl _)]; exact hD.1 c hc
  · intro k hk; rw [lastR_congr hcode (s.1 4 k) k (by omega), hcode k hk]; exact hD.2 k hk
  · intro k hk
    obtain ⟨x, h1, h2⟩ := (hC k hk).2.2.2.2.1
    exact ⟨x, h1, (hR k hk).1.trans h2⟩
  · intro i hi
    obtain ⟨j, h1, h2⟩ := ix_of 10 (a := v.1 1 i) ⟨by have := (hA i hi).2; omega, by have := (hA i hi).2; omega⟩
    have h3 := (hA i hi).2
    rw [h2, nI_toInt (by omega)] at h3
    exact ⟨j, by omega, by omega, (hT i hi).trans h2⟩
  · intro k hk
    obtain ⟨x, h1, h2⟩ := (hC k hk).2.2.2.2.2.2.1
    exact ⟨x, h1, (hV k hk).trans h2⟩
  · rw [wgtR_congr (by omega) hT hR (nI c) (v.1 106 0) 9 10 (Nat.le_refl 10)] at f2
    rw [saidR_congr (by omega) hT hR hV (nI c) (v.1 106 0) 9] at f3
    have k126 : u3.1 126 0 = u1.1 126 0 := by rw [e3, s32_n _ _ _ (by decide)]
    refine hq u4 ?_ ?_ ?_ (fun i hi => ?_) ?_ (fun i hi => ?_) ?_ ?_
    · rw [e4, pS_s32 _ _ _ (by decide), e3, pS_s32 _ _ _ (by decide), pS_of_pU f1, hs]
    · rw [e4, s32_n _ _ _ (by decide), e3, s32_n _ _ _ (by decide), pU_1 f1 (by decide)]
    · rw [e4, s32_n _ _ _ (by decide), e3, s32_k, upd_s, f3]; rfl
    · rw [e4, s32_n _ _ _ (by decide), e3, s32_k, upd_n _ _ hi, pU_1 f1 (k := 18) (by decide)]
    · rw [e4, s32_k, upd_s, k126, f2]; rfl
    · rw [e4, s32_k, upd_n _ _ hi, e3, s32_n _ _ _ (by decide), pU_1 f1 (k := 19) (by decide)]
    · rw [e4, s32_2, e3, s32_2, pU_2 f1 (by decide)]
    · rw [e4, s32_2, e3, s32_2, pU_2 f1 (by decide)]
theorem bentF_bd {w : Nat → Int32} {sd : Nat → Int64} {wa : Int32} {a : Int64} (bs : ∀ k, k < 4 → ∃ x, x ≤ 100000 ∧ sd k = lN x) (ba : ∃ x, x ≤ 100000 ∧ a = lN x) {q : Nat} (hq : q < 4) : -500000 ≤ (bentF w sd wa a q).toInt ∧ (bentF w sd wa a q).toInt ≤ 500000 := by
  have hsum := sum_sd bs
  have one : (1 : Int64).toInt = 1 := rfl
  have zero : (0 : Int64).toInt = 0 := rfl
  obtain ⟨xa, hxa, exa⟩ := ba
  have aT : a.toInt = (xa : Int) := by rw [exa, lN_toInt (by omega)]
  obtain ⟨xq, hxq, exq⟩ := bs q hq
  have qT : (sd q).toInt = (xq : Int) := by rw [exq, lN_toInt (by omega)]
  have hle := unsB_le w 4
  unfold bentF
  by_cases z1 : wa = 0
  · rw [if_pos z1]; omega
  rw [if_neg z1]
  by_cases z2 : unsB w 4 = 0
  · rw [if_pos z2]
    have := partsF_bd (W := a) (sh := fun k => if sumL sd 4 = 0 then 1 else sd k) (n := 4) (A := 100000) (B := 100000) (by decide) (by decide) (by decide) (by decide) (by decide) (by omega) (fun k hk => by
      obtain ⟨x, hx, e⟩ := bs k hk
      split
      · rw [one]; omega
      · rw [e, lN_toInt (by omega)]; omega) (by
      by_cases z3 : sumL sd 4 = 0
      · simp only [if_pos z3, sumL_one]; decide
      · simp only [if_neg z3]
        rcases Int.lt_or_le 0 (sumL sd 4).toInt with g | g
        · exact g
        · exact absurd (by rw [← Int64.toInt_inj, zero]; omega) z3) q hq
    omega
  rw [if_neg z2]
  by_cases z3 : w q = 0
  · rw [if_pos z3]
    have hmo := unsB_mono w (q + 1) (4 - (q + 1))
    rw [show q + 1 + (4 - (q + 1)) = 4 by omega] at hmo
    have eu : unsB w (q + 1) = if w q = 0 then unsB w q + 1 else unsB w q := rfl
    rw [if_pos z3] at eu
    have := partsF_bd (W := a - sumL sd 4) (sh := fun _ => 1) (n := unsB w 4) (A := 400000) (B := 1) (by omega) (by omega) (by decide) (by decide) (by decide) (by
      rw [Int64.toInt_sub, Int.bmod_eq_of_le (by omega) (by omega)]; omega) (fun k hk => by rw [one]; omega) (by rw [sumL_one, lN_toInt (by omega)]; omega) (unsB w q) (by omega)
    omega
  · rw [if_neg z3]; omega
theorem bentS_bd {v : Mm} (h : okT v) (ln y : Nat) {q : Nat} (hq : q < 4) : -500000 ≤ (bentS v ln y q).toInt ∧ (bentS v ln y q).toInt ≤ 500000 := by
  unfold bentS
  refine bentF_bd (fun k hk => ?_) ?_ hq
  · obtain ⟨x, _, hx, -, e, -⟩ := saidS_bd h (ln * 12 + 4 * y + k)
    exact ⟨x, hx, by rw [if_pos hk]; exact e⟩
  · obtain ⟨x, _, hx, -, e, -⟩ := saidS_bd h (576 + ln * 3 + y)
    exact ⟨x, hx, e⟩
theorem settle_rel {u v : Mm} (h : Rel u v) {l p y : Nat} (hl : l < 2) (hp : p < 4) (hy : y < 3) {Q : Mm → Prop} (hq : ∀ u1 : Mm, Rel u1 v → blkOK u1 v (l * 4 + p) y → ¬ u1.1 17 ((l * 4 + p) * 3 + y) = 0 → (∀ i, ¬ u.1 17 i = 0 → ¬ u1.1 17 i = 0) → pS u1 = pS u → Q u1) : wX6_settle u (nI l) (nI p) (nI y) Q := by
  have okt := rel_okT h
  unfold wX6_settle wX6_blockOf
  rw [blk_C]
  dsimp only
  rw [nI_clamp (n := (l * 4 + p) * 3 + y) (by omega)]
  refine ⟨vp_in_nI (by omega) (by omega), fun z => ⟨vp_in_nI (by omega) (by omega), fun u2 e2 x5 e5 => ?_⟩, fun z => hq u h (h.2.2.2.2.2.2.2.2.2.2.2.2.2.2.2.2.1 _ _ (by omega) hy z) z (fun _ d => d) rfl⟩
  have e5 : x5 = nI (4 * y) := by
    rw [e5, show (4 : Int32) = nI 4 from rfl, pk_mul]; exact congrArg nI (by omega)
  subst e5
  generalize hlp : l * 4 + p = lp at hq e2
  have hlp8 : lp < 8 := by omega
  have k17 : ∀ i, i ≠ lp * 3 + y → u2.1 17 i = u.1 17 i := fun i hi => by rw [e2, s32_k, upd_n _ _ hi]
  have k17b : ¬ u2.1 17 (lp * 3 + y) = 0 := by rw [e2, s32_k, upd_s]; decide
  have kS : pS u2 = pS u := by rw [e2, pS_s32 _ _ _ (by decide)]
  have kf : u2.1 18 = u.1 18 ∧ u2.1 19 = u.1 19 ∧ u2.2 = u.2 := ⟨by rw [e2, s32_n _ _ _ (by decide)], by rw [e2, s32_n _ _ _ (by decide)], by rw [e2]; rfl⟩
  -- what holds of column c once it is heard and bent
  have col : ∀ c, c < 6 → lp * 6 + c < 48 := fun c hc => by omega
  -- the frame: other codes stay
  generalize hFr : (fun (s : Mm) => pS s = pS u ∧ s.1 17 = u2.1 17 ∧ (∀ lp2 c2 y2, c2 < 6 → y2 < 3 → ¬ (lp2 = lp ∧ y2 = y) → (s.1 18 (576 + (lp2 * 6 + c2) * 3 + y2) = u.1 18 (576 + (lp2 * 6 + c2) * 3 + y2) ∧ s.1 19 (576 + (lp2 * 6 + c2) * 3 + y2) = u.1 19 (576 + (lp2 * 6 + c2) * 3 + y2)) ∧ ∀ q, lp2 < 8 → q < 4 → s.1 18 ((lp2 * 6 + c2) * 12 + 4 * y2 + q) = u.1 18 ((lp2 * 6 + c2) * 12 + 4 * y2 + q) ∧ s.1 19 ((lp2 * 6 + c2) * 12 + 4 * y2 + q) = u.1 19 ((lp2 * 6 + c2) * 12 + 4 * y2 + q) ∧ s.2 21 ((lp2 * 6 + c2) * 12 + 4 * y2 + q) = u.2 21 ((lp2 * 6 + c2) * 12 + 4 * y2 + q) ∧ s.2 22 ((lp2 * 6 + c2) * 12 + 4 * y2 + q) = u.2 22 ((lp2 * 6 + c2) * 12 + 4 * y2 + q))) = Fr
  have Fr0 : Fr u2 := by
    rw [← hFr]
    refine ⟨kS, rfl, fun lp2 c2 y2 _ _ _ => ⟨?_, fun q _ _ => ?_⟩⟩
    · rw [kf.1, kf.2.1]; exact ⟨rfl, rfl⟩
    · rw [kf.1, kf.2.1, kf.2.2]; exact ⟨rfl, rfl, rfl, rfl⟩
  have heard : ∀ (s : Mm) (c : Nat), c < 720 → Fr s → (∃ c2, c2 < 6 ∧ (c = 576 + (lp * 6 + c2) * 3 + y ∨ ∃ q, q < 4 ∧ c = (lp * 6 + c2) * 12 + 4 * y + q)) → ∀ {R : Mm → Prop}, (∀ s1 : Mm, Fr s1 → (s1.1 18 c).toInt64 = saidS v c → (∀ i, i ≠ c → s1.1 18 i = s.1 18 i) → s1.1 19 c = wgtS v c → (∀ i, i ≠ c → s1.1 19 i = s.1 19 i) → s1.2 21 = s.2 21 → s1.2 22 = s.2 22 → R s1) → wX6_hear s (nI c) R := by
    intro s c hc hfs hin R hR
    rw [← hFr] at hfs
    obtain ⟨f1, f2, f3⟩ := hfs
    refine hear_w h f1 hc (fun s1 g1 g2 g3 g4 g5 g6 g7 g8 => hR s1 ?_ g3 g4 g5 g6 g7 g8)
    rw [← hFr]
    refine ⟨g1, g2.trans f2, fun lp2 c2 y2 hc2 hy2 hne => ⟨?_, fun q hlp2 hq4 => ?_⟩⟩
    · have : 576 + (lp2 * 6 + c2) * 3 + y2 ≠ c := fun e => by
        obtain ⟨c3, hc3, h3 | ⟨q3, hq3, h3⟩⟩ := hin
        · exact hne (by omega)
        · have := col c3 hc3; omega
      rw [g4 _ this, g6 _ this]
      exact (f3 lp2 c2 y2 hc2 hy2 hne).1
    · have : (lp2 * 6 + c2) * 12 + 4 * y2 + q ≠ c := fun e => by
        obtain ⟨c3, hc3, h3 | ⟨q3, hq3, h3⟩⟩ := hin
        · omega
        · exact hne (by omega)
      rw [g4 _ this, g6 _ this, g7, g8]
      exact (f3 lp2 c2 y2 hc2 hy2 hne).2 q hlp2 hq4
  generalize hCd : (fun (s : Mm) (c : Nat) => ((s.1 18 (576 + (lp * 6 + c) * 3 + y)).toInt64 = saidS v (576 + (lp * 6 + c) * 3 + y) ∧ s.1 19 (576 + (lp * 6 + c) * 3 + y) = wgtS v (576 + (lp * 6 + c) * 3 + y)) ∧ ∀ q, q < 4 → (s.1 18 ((lp * 6 + c) * 12 + 4 * y + q)).toInt64 = saidS v ((lp * 6 + c) * 12 + 4 * y + q) ∧ s.1 19 ((lp * 6 + c) * 12 + 4 * y + q) = wgtS v ((lp * 6 + c) * 12 + 4 * y + q) ∧ s.2 21 ((lp * 6 + c) * 12 + 4 * y + q) = bentS v (lp * 6 + c) y q) = Cd
  refine loopS (fun f i (s : Mm) => wX6_settle_b35 Q f s (nI l) (nI p) (nI y) (nI (4 * y)) (nI i)) (fun i s => Fr s ∧ ∀ c, c < i → Cd s c) 6 (fun f s hI => ?_) (fun f i s hi hI ih => ?_) 0 u2 (by omega) ⟨Fr0, fun c hc => absurd hc (by omega)⟩
  · obtain ⟨i1, i2⟩ := hI
    unfold wX6_settle_b35
    refine ⟨fun _ => ?_, fun cc => absurd ((nI_leI (a := 6) (b := 6) (by omega) (by omega)).mpr (Nat.le_refl _)) cc⟩
    refine loopS (fun f i (s : Mm) => wX6_settle_b110 Q f s (nI l) (nI p) (nI (4 * y)) (nI i)) (fun i s => Fr s ∧ (∀ c, c < 6 → Cd s c) ∧ ∀ c q, c < 6 → q < i → s.2 22 ((lp * 6 + c) * 12 + 4 * y + q) = closS v lp y q c) 4 (fun f s hJ => ?_) (fun f i s hi hJ ih => ?_) 0 s (by omega) ⟨i1, i2, fun c q _ hq => absurd hq (by omega)⟩
    · obtain ⟨j1, j2, j3⟩ := hJ
      unfold wX6_settle_b110
      refine ⟨fun _ => ?_, fun cc => absurd ((nI_leI (a := 4) (b := 4) (by omega) (by omega)).mpr (Nat.le_refl _)) cc⟩
      rw [← hFr] at j1
      obtain ⟨f1, f2, f3⟩ := j1
      have hblk : blkOK s v lp y := fun c hc => by
        have := j2 c hc
        rw [← hCd] at this
        exact ⟨this.1, fun q hq4 => ⟨(this.2 q hq4).1, (this.2 q hq4).2.1, (this.2 q hq4).2.2, j3 c q hc hq4⟩⟩
      have hQ0 := h.2.2.2.2.2.2.2.2.2.2.2.2.2.2.2.2.1
      refine hq s (rel_S h f1 (fun lp2 y2 hlp2 hy2 d => ?_)) hblk (by rw [f2]; exact k17b) (fun i hi => ?_) ?_
      · by_cases e : lp2 = lp ∧ y2 = y
        · rw [e.1, e.2]; exact hblk
        · rw [f2, k17 _ (by omega)] at d
          have hb := hQ0 lp2 y2 hlp2 hy2 d
          intro c hc
          have g := f3 lp2 c y2 hc hy2 e
          refine ⟨by rw [g.1.1, g.1.2]; exact (hb c hc).1, fun q hq4 => ?_⟩
          obtain ⟨g1, g2, g3, g4⟩ := g.2 q hlp2 hq4
          rw [g1, g2, g3, g4]
          exact (hb c hc).2 q hq4
      · rw [f2]
        by_cases e : i = lp * 3 + y
        · rw [e]; exact k17b
        · rw [k17 i e]; exact hi
      · exact f1
    · obtain ⟨j1, j2, j3⟩ := hJ
      unfold wX6_settle_b110
      rw [nI_add]
      refine ⟨fun cc => absurd ((nI_leI (a := 4) (b := i) (by omega) (by omega)).mp cc) (by omega), fun _ => ?_⟩
      have j1' := j1
      rw [← hFr] at j1'
      obtain ⟨f1, f2, f3⟩ := j1'
      have g : ∀ (P : Mm → Mm → Prop), P (pS u) v → P (pS s) v := fun P hp => by rw [f1]; exact hp
      have hF : rF s v := g rF h.2.2.2.2.2.1
      have hG : rG s v := g rG h.2.2.2.2.2.2.1
      have hH : rH s v := g rH h.2.2.2.2.2.2.2.1
      have ec : ∀ c, (lp * 6 + c) * 12 + (4 * y + i) = (lp * 6 + c) * 12 + 4 * y + i := fun c => by omega
      have ey4 : (4 * y + i) / 4 = y := by omega
      have jc : ∀ c, c < 6 → _ := fun c hc => by have := j2 c hc; rw [← hCd] at this; exact this
      refine close_w (l := l) (p := p) (t := 4 * y + i) hl hp (by omega) (sp := v.1 9) (fx := fxC v lp) (co := costC v lp y i) (b := bentC v lp y i) (ru := v.1 118 0) (fun c hc => (hF c hc).1) (fun c hc => (hF c hc).2) (fun c hc => ?_) (fun c hc => ?_) (fun c hc => ?_) (fun c hc => ?_) (costC_bd okt _ _ _) hH.1 hH.2 (fun s1 a1 a2 a3 a4 x ex => ?_)
      · rw [hlp, ec, ((jc c hc).2 i hi).2.2]
        show _ = (if c < 6 then bentS v (lp * 6 + c) y i else 0)
        rw [if_pos hc]
      · show -500000 ≤ (if c < 6 then bentS v (lp * 6 + c) y i else 0).toInt ∧ (if c < 6 then bentS v (lp * 6 + c) y i else 0).toInt ≤ 500000
        rw [if_pos hc]
        exact bentS_bd okt _ _ hi
      · rw [hlp, (hG _ (by omega)).1]
        show _ = (if c < 6 then v.1 14 (lp * 6 + c) else 0)
        rw [if_pos hc]
      · rw [hlp, ec, ey4, ((jc c hc).2 i hi).2.1, (jc c hc).1.2]
        show _ = (if c < 6 then 1 + wgtS v ((lp * 6 + c) * 12 + 4 * y + i) + wgtS v (576 + (lp * 6 + c) * 3 + y) else 0)
        rw [if_pos hc]
        grind
      · rw [hlp] at a3 a4
        rw [ex, nI_1]
        refine ih s1 ⟨?_, fun c hc => ?_, fun c q hc hq4 => ?_⟩
        · rw [← hFr]
          refine ⟨(pS_of (fun k hk => a1 k (fun e => by rw [e] at hk; exact absurd hk (by decide))) (fun k hk => a2 k (fun e => by rw [e] at hk; exact absurd hk (by decide)) (fun e => by rw [e] at hk; exact absurd hk (by decide)) (fun e => by rw [e] at hk; exact absurd hk (by decide)) (fun e => by rw [e] at hk; exact absurd hk (by decide)))).trans f1, (a1 17 (by decide)).trans f2, fun lp2 c2 y2 hc2 hy2 hne => ?_⟩
          rw [a1 18 (by decide), a1 19 (by decide), a2 21 (by decide) (by decide) (by decide) (by decide)]
          refine ⟨(f3 lp2 c2 y2 hc2 hy2 hne).1, fun q hlp2 hq4 => ?_⟩
          rw [a4 _ (fun c3 hc3 e => hne (by omega))]
          exact (f3 lp2 c2 y2 hc2 hy2 hne).2 q hlp2 hq4
        · rw [← hCd]
          dsimp only
          rw [a1 18 (by decide), a1 19 (by decide), a2 21 (by decide) (by decide) (by decide) (by decide)]
          exact jc c hc
        · by_cases e : q = i
          · subst e
            have := a3 c hc
            rw [ec] at this
            exact this
          · rw [a4 _ (fun c3 hc3 e2 => e (by omega))]
            exact j3 c q hc (by omega)
  · obtain ⟨i1, i2⟩ := hI
    unfold wX6_settle_b35 wX8_annualCode wX8_cellCode
    rw [ann_C, cell_C, hlp]
    refine ⟨fun cc => absurd ((nI_leI (a := 6) (b := i) (by omega) (by omega)).mp cc) (by omega), fun _ => ?_⟩
    refine heard s _ (by omega) i1 ⟨i, hi, Or.inl rfl⟩ (fun s4 b1 b2 b3 b4 b5 b6 b7 => ?_)
    have cdk : ∀ (r r1 : Mm) (c : Nat), (∀ k, (k = 576 + (lp * 6 + c) * 3 + y ∨ ∃ q, q < 4 ∧ k = (lp * 6 + c) * 12 + 4 * y + q) → r1.1 18 k = r.1 18 k ∧ r1.1 19 k = r.1 19 k) → (∀ q, q < 4 → r1.2 21 ((lp * 6 + c) * 12 + 4 * y + q) = r.2 21 ((lp * 6 + c) * 12 + 4 * y + q)) → Cd r c → Cd r1 c := by
      intro r r1 c h1 h2 h3
      rw [← hCd] at h3 ⊢
      dsimp only at h3 ⊢
      rw [(h1 _ (Or.inl rfl)).1, (h1 _ (Or.inl rfl)).2]
      refine ⟨h3.1, fun q hq4 => ?_⟩
      rw [(h1 _ (Or.inr ⟨q, hq4, rfl⟩)).1, (h1 _ (Or.inr ⟨q, hq4, rfl⟩)).2, h2 q hq4]
      exact h3.2 q hq4
    have ci := col i hi
    refine loopS (fun g j (r : Mm) => wX6_settle_b72 (fun (u : Mm) (x1 : Int32) (x2 : Int32) (x3 : Int32) (x5 : Int32) (x6 : Int32) => wX6_settle_b35 Q f u x1 x2 x3 x5 x6) Q g r (nI l) (nI p) (nI y) (nI (4 * y)) (nI i) (nI (576 + (lp * 6 + i) * 3 + y)) (nI ((lp * 6 + i) * 12 + 4 * y)) (nI j)) (fun j r => Fr r ∧ (∀ c, c < i → Cd r c) ∧ ((r.1 18 (576 + (lp * 6 + i) * 3 + y)).toInt64 = saidS v (576 + (lp * 6 + i) * 3 + y) ∧ r.1 19 (576 + (lp * 6 + i) * 3 + y) = wgtS v (576 + (lp * 6 + i) * 3 + y)) ∧ ∀ q, q < j → (r.1 18 ((lp * 6 + i) * 12 + 4 * y + q)).toInt64 = saidS v ((lp * 6 + i) * 12 + 4 * y + q) ∧ r.1 19 ((lp * 6 + i) * 12 + 4 * y + q) = wgtS v ((lp * 6 + i) * 12 + 4 * y + q)) 4 (fun g r hK => ?_) (fun g j r hj hK ih2 => ?_) 0 s4 (by omega) ⟨b1, fun c hc => cdk s s4 c (fun k hk => ?_) (fun q hq4 => by rw [b6]) (i2 c hc), ⟨b2, b4⟩, fun q hq => absurd hq (by omega)⟩
    · obtain ⟨c1, c2, c3, c4⟩ := hK
      unfold wX6_settle_b72
      refine ⟨fun _ => ?_, fun cc => absurd ((nI_leI (a := 4) (b := 4) (by omega) (by omega)).mpr (Nat.le_refl _)) cc⟩
      refine bend_w (F := (lp * 6 + i) * 12 + 4 * y) (G := 576 + (lp * 6 + i) * 3 + y) (by omega) (by omega) (w := fun k => if k < 4 then wgtS v ((lp * 6 + i) * 12 + 4 * y + k) else 0) (sd := fun k => if k < 4 then saidS v ((lp * 6 + i) * 12 + 4 * y + k) else 0) (wa := wgtS v (576 + (lp * 6 + i) * 3 + y)) (a := saidS v (576 + (lp * 6 + i) * 3 + y)) (fun k hk => by rw [if_pos hk]; exact (c4 k hk).2) (fun k hk => by rw [if_pos hk]; exact (c4 k hk).1) c3.2 c3.1 (fun k hk => ?_) ?_ (fun r1 a1 a2 a3 a4 x ex => ?_)
      · obtain ⟨x, _, hx, -, e, -⟩ := saidS_bd okt ((lp * 6 + i) * 12 + 4 * y + k)
        exact ⟨x, hx, by rw [if_pos hk]; exact e⟩
      · obtain ⟨x, _, hx, -, e, -⟩ := saidS_bd okt (576 + (lp * 6 + i) * 3 + y)
        exact ⟨x, hx, e⟩
      · rw [ex, nI_1]
        refine ih r1 ⟨?_, fun c hc => ?_⟩
        · rw [← hFr] at c1 ⊢
          obtain ⟨f1, f2, f3⟩ := c1
          refine ⟨(pS_of (fun k hk => by rw [a1]) (fun k hk => a2 k (fun e => by rw [e] at hk; exact absurd hk (by decide)) (fun e => by rw [e] at hk; exact absurd hk (by decide)) (fun e => by rw [e] at hk; exact absurd hk (by decide)) (fun e => by rw [e] at hk; exact absurd hk (by decide)))).trans f1, by rw [a1]; exact f2, fun lp2 c2 y2 hc2 hy2 hne => ?_⟩
          rw [a1, a2 22 (by decide) (by decide) (by decide) (by decide)]
          refine ⟨(f3 lp2 c2 y2 hc2 hy2 hne).1, fun q hlp2 hq4 => ?_⟩
          rw [a4 _ (by omega)]
          exact (f3 lp2 c2 y2 hc2 hy2 hne).2 q hlp2 hq4
        · by_cases e : c = i
          · subst e
            rw [← hCd]
            dsimp only
            rw [a1]
            exact ⟨c3, fun q hq4 => ⟨(c4 q hq4).1, (c4 q hq4).2, a3 q hq4⟩⟩
          · exact cdk r r1 c (fun k hk => by rw [a1]; exact ⟨rfl, rfl⟩) (fun q hq4 => a4 _ (by omega)) (c2 c (by omega))
    · obtain ⟨c1, c2, c3, c4⟩ := hK
      unfold wX6_settle_b72
      rw [nI_add]
      refine ⟨fun cc => absurd ((nI_leI (a := 4) (b := j) (by omega) (by omega)).mp cc) (by omega), fun _ => ?_⟩
      refine heard r _ (by omega) c1 ⟨i, hi, Or.inr ⟨j, hj, rfl⟩⟩ (fun r1 d1 d2 d3 d4 d5 d6 d7 x ex => ?_)
      rw [ex, nI_1]
      refine ih2 r1 ⟨d1, fun c hc => cdk r r1 c (fun k hk => ?_) (fun q hq4 => by rw [d6]) (c2 c hc), ?_, fun q hq4 => ?_⟩
      · have : k ≠ (lp * 6 + i) * 12 + 4 * y + j := fun e => by
          rcases hk with h3 | ⟨q3, hq3, h3⟩
          · omega
          · omega
        rw [d3 k this, d5 k this]; exact ⟨rfl, rfl⟩
      · rw [d3 _ (by omega), d5 _ (by omega)]; exact c3
      · by_cases e : q = j
        · subst e; exact ⟨d2, d4⟩
        · rw [d3 _ (by omega), d5 _ (by omega)]; exact c4 q (by omega)
    · have : k ≠ 576 + (lp * 6 + i) * 3 + y := fun e => by
        have := col c (by omega)
        rcases hk with h3 | ⟨q3, hq3, h3⟩
        · omega
        · omega
      rw [b3 k this, b5 k this]; exact ⟨rfl, rfl⟩
theorem settleAll_rel {u v : Mm} (h : Rel u v) {Q : Mm → Prop} (hq : ∀ u1 : Mm, Rel u1 v → (∀ lp y, lp < 8 → y < 3 → blkOK u1 v lp y) → pS u1 = pS u → Q u1) : wX6_settleAll u Q := by
  unfold wX6_settleAll
  refine loopS (fun f i (s : Mm) => wX6_settleAll_b2 Q f s (nI i)) (fun i s => (Rel s v ∧ ∀ b, b < i → ¬ s.1 17 b = 0) ∧ pS s = pS u) 24 (fun f s hI0 => ?_) (fun f i s hi hI0 ih => ?_) 0 u (by omega) ⟨⟨h, fun b hb => absurd hb (by omega)⟩, rfl⟩
  · obtain ⟨hI, hS⟩ := hI0
    unfold wX6_settleAll_b2
    exact ⟨fun _ => hq s hI.1 (fun lp y hlp hy => hI.1.2.2.2.2.2.2.2.2.2.2.2.2.2.2.2.2.1 lp y hlp hy (hI.2 _ (by omega))) hS, fun cc => absurd ((nI_leI (a := 24) (b := 24) (by omega) (by omega)).mpr (Nat.le_refl _)) cc⟩
  · obtain ⟨hI, hS⟩ := hI0
    unfold wX6_settleAll_b2
    refine ⟨fun cc => absurd ((nI_leI (a := 24) (b := i) (by omega) (by omega)).mp cc) (by omega), fun _ x2 e2 => ?_⟩
    rw [show (3 : Int32) = nI 3 from rfl, pk_div (by omega) (by omega) (by omega)] at e2
    subst e2
    have e1 : nI (i / 3) / (4 : Int32) = nI (i / 3 / 4) := by rw [show (4 : Int32) = nI 4 from rfl, pk_div (by omega) (by omega) (by omega)]
    have e2 : jrem (nI (i / 3)) (4 : Int32) = nI (i / 3 % 4) := by
      rw [show (4 : Int32) = nI 4 from rfl]
      unfold jrem
      rw [pk_rem (by omega) (by decide) (by decide)]
    have e3 : jrem (nI i) (3 : Int32) = nI (i % 3) := by
      rw [show (3 : Int32) = nI 3 from rfl]
      unfold jrem
      rw [pk_rem (by omega) (by decide) (by decide)]
    rw [e1, e2, e3]
    refine settle_rel hI.1 (by omega) (by omega) (by omega) (fun s1 h1 _ h3 h4 h5 x ex => ?_)
    rw [ex, nI_1]
    refine ih s1 ⟨⟨h1, fun b hb => ?_⟩, h5.trans hS⟩
    by_cases e : b = i
    · subst e
      rw [show (b / 3 / 4 * 4 + b / 3 % 4) * 3 + b % 3 = b by omega] at h3
      exact h3
    · exact h4 b (hI.2 b (by omega))
