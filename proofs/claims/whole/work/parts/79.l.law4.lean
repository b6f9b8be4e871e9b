/-! ===== fault, left, unkept ===== -/
theorem frT_pX {j : Nat} {u u1 : Mm} (hj : j < 4) (h : frT j u u1) : pX u1 = pX u := by
  unfold pX
  refine Prod.ext ?_ ?_
  · funext k
    dsimp only
    by_cases g : kX1.contains k = true
    · rw [if_pos g, if_pos g]
      have ne : ∀ m, kX1.contains m = false → k ≠ m := fun m hm e => by rw [e, hm] at g; exact absurd g (by decide)
      rcases (show j = 0 ∨ j = 1 ∨ j = 2 ∨ j = 3 by omega) with rfl | rfl | rfl | rfl <;> exact h.2 k (ne _ (by decide)) (ne _ (by decide)) (ne _ (by decide)) (ne _ (by decide))
    · rw [if_neg g, if_neg g]
  · rw [h.1]
theorem Sd_X {u u1 v : Mm} (h : Sd u v) (hu : pX u1 = pX u) : Sd u1 v := ⟨rel_X h.1 hu, fun lp y hl hy => by
  have g : ∀ P : Mm → Prop, P (pX u) → P (pX u1) := fun P hp => by rw [hu]; exact hp
  exact g (fun m => blkOK m v lp y) (h.2 lp y hl hy)⟩
theorem pS_law {j : Nat} {u u1 : Mm} (hj : j < 4) (h : pS u1 = pS u) : u1.1 (39 + 4 * j) = u.1 (39 + 4 * j) ∧ u1.1 (40 + 4 * j) = u.1 (40 + 4 * j) ∧ u1.1 (696 + 64 * j) = u.1 (696 + 64 * j) := by
  rcases (show j = 0 ∨ j = 1 ∨ j = 2 ∨ j = 3 by omega) with rfl | rfl | rfl | rfl <;> exact ⟨pS_1 h (by decide), pS_1 h (by decide), pS_1 h (by decide)⟩
theorem leftC_w {u v : Mm} (h : Sd u v) {j K qt : Nat} (hqt : qt < 12) (hK : K ≤ 60) (h6 : u.1 (696 + 64 * j) 0 = nI K) (hcd : ∀ m, m < K → okCd (u.1 (40 + 4 * j) m)) {Q : Int64 → Prop} (hq : Q (tS j u (Cl v qt) K)) : wX1_leftOver j u (nI qt) Q := by
  unfold wX1_leftOver
  refine loopF (fun f i => wX1_leftOver_b5 j u Q f (nI qt) (tS j u (Cl v qt) i) (nI i)) K (fun f => ?_) (fun f i hi ih => ?_) 0 (by omega)
  · unfold wX1_leftOver_b5
    rw [h6]
    exact ⟨fun _ => hq, fun cc => absurd ((nI_leI (by omega) (by omega)).mpr (Nat.le_refl _)) cc⟩
  · have es : tS j u (Cl v qt) (i + 1) = tS j u (Cl v qt) i + tt j u (Cl v qt) i := rfl
    have vi : vp_in (nI i) 60 := vp_in_nI (by omega) (by omega)
    unfold tt at es
    unfold wX1_leftOver_b5
    rw [h6, nI_clamp (n := i) (by omega)]
    refine ⟨fun cc => absurd ((nI_leI (by omega) (by omega)).mp cc) (by omega), fun _ => ⟨vi, fun z => ⟨vi, fun x ex y ey => ?_⟩, fun z => ⟨vi, vi, ?_⟩⟩⟩
    · rw [if_pos z] at es
      rw [ex, ey, nI_1, ← es]; exact ih
    · obtain ⟨l, m, c, hl, hm, hc, e⟩ := (hcd i hi).resolve_left z
      rw [if_neg z, e, Cl_at v qt hl hm hc] at es
      have b := (blk_at (c := c) (t := qt) (h.2 (l * 4 + m) (qt / 4) (by omega) (by omega)) hc).2.2.2
      rw [e, nI_add, nI_clamp (n := ((l * 4 + m) * 6 + c) * 12 + qt) (by omega), b]
      refine ⟨vp_in_nI (by omega) (by omega), fun x ex y ey => ?_⟩
      rw [ex, ey, nI_1, ← es]; exact ih
theorem pV_w {v1 w : Mm} (h2 : w.2 = v1.2) (h1 : ∀ k, k ≠ 131 → k ≠ 132 → k ≠ 133 → k ≠ 134 → w.1 k = v1.1 k) : pV w = pV v1 := pV_of (fun k hk => by
    have ne : ∀ m, kV1.contains m = false → k ≠ m := fun m hm e => by rw [e, hm] at hk; exact absurd hk (by decide)
    exact h1 k (ne _ (by decide)) (ne _ (by decide)) (ne _ (by decide)) (ne _ (by decide))) (fun k _ => by rw [h2])
theorem st_fault {u v : Mm} (h : Rel u v) (a1 : Int32) : wX8_fault u a1 (fun (r : Int32) (u1 : Mm) => wX9_fault v a1 (fun (r2 : Int32) (v1 : Mm) => r = r2 ∧ Rel u1 v1)) := by
  unfold wX8_fault
  refine below_b 4 (fun n => ?_) (fun p => ?_)
  · unfold wX9_fault; exact isLaw_b (fun _ => ⟨rfl, h⟩) (fun z => absurd z n)
  · obtain ⟨j, hj, rfl⟩ := ix_of 4 p
    obtain ⟨n60, e24, e693, etx⟩ := law_rel h hj
    refine ⟨vp_in_nI hj (by omega), fun j2 h2 e2 => ?_⟩
    obtain rfl := nI_j (by omega) (by omega) e2
    refine scanC_w hj n60 e693 etx (fun u1 f1 _ => ?_)
    have h1 : Rel u1 v := rel_X h (frT_pX hj f1)
    unfold wX9_fault
    refine isLaw_b (fun z => absurd p z) (fun _ => readsR_w (qt := 0) h1 hj (by omega) (fun x w v1 g1 g2 g3 g4 g5 g6 g7 => ⟨g6.symm, rel_scr g1 rfl (pV_w g4 g5)⟩))
theorem st_left {u v : Mm} (h : Rel u v) (a1 a2 : Int32) : wX8_left u a1 a2 (fun (r : Int64) (u1 : Mm) => wX9_left v a1 a2 (fun (r2 : Int64) (v1 : Mm) => r = r2 ∧ Rel u1 v1)) := by
  unfold wX8_left
  refine below_b 4 (fun n => ?_) (fun p => below_b 12 (fun n => ?_) (fun q => ?_))
  · unfold wX9_left; exact refused_bad (isLaw_b (fun _ => ⟨rfl, h⟩) (fun z => absurd z n))
  · unfold wX9_left; exact refused_bad (isLaw_b (fun z => absurd p z) (fun _ => isQuarter_b (fun _ => ⟨rfl, h⟩) (fun z => absurd z n)))
  · obtain ⟨j, hj, rfl⟩ := ix_of 4 p
    obtain ⟨qt, hqt, rfl⟩ := ix_of 12 q
    obtain ⟨n60, e24, e693, etx⟩ := law_rel h hj
    have vj : vp_in (nI j) 4 := vp_in_nI hj (by omega)
    have ref : ∀ (u1 : Mm) (r : Int64), Rel u1 v → (lwB (lawT v j) (lawN v j) = -1 → r = lwV (lawT v j) (lawN v j) (Cl v qt)) → (¬ lwB (lawT v j) (lawN v j) = -1 → r = -9223372036854775805) → wX9_left v (nI j) (nI qt) (fun (r2 : Int64) (v1 : Mm) => r = r2 ∧ Rel u1 v1) := by
      intro u1 r h1 g1 g2
      unfold wX9_left
      refine isLaw_b (fun z => absurd p z) (fun _ => isQuarter_b (fun z => absurd q z) (fun _ => readsR_w h1 hj hqt (fun x w v1 k1 k2 k3 k4 k5 k6 k7 => ?_)))
      have hw : Rel u1 w := rel_scr k1 rfl (pV_w k4 k5)
      rw [k6]
      exact ⟨fun e => ⟨by rw [g1 e, k7 e], hw⟩, fun e => ⟨g2 e, hw⟩⟩
    refine ⟨vj, fun j4 h4 e4 => ?_⟩
    obtain rfl := nI_j (by omega) (by omega) e4
    refine scanC_w hj n60 e693 etx (fun u6 f6 t6 => ?_)
    have h6 : Rel u6 v := rel_X h (frT_pX hj f6)
    refine ⟨fun e => settleAll_rel h6 (fun u8 h8 b8 s8 => ⟨vj, fun j9 h9 e9 => ?_⟩), fun e => refused_not (ref u6 _ h6 (fun y => absurd y e) (fun _ => rfl))⟩
    obtain rfl := nI_j (by omega) (by omega) e9
    obtain ⟨K, k1, k2, k3, k4⟩ := t6 e
    obtain ⟨l1, l2, l3⟩ := pS_law hj s8
    refine leftC_w ⟨h8, b8⟩ hqt k1 (by rw [l3]; exact k2) (fun m hm => by rw [l2]; exact k3 m hm) ?_
    rw [tS_congr (u := u6) (fun i _ => by rw [l1]) (fun i _ => by rw [l2]), k4]
    exact ref u8 _ h8 (fun _ => rfl) (fun y => absurd e y)
def unkN (v : Mm) (qt : Nat) : Nat → Nat
  | 0 => 0
  | k + 1 => if lwB (lawT v k) (lawN v k) = -1 ∧ ¬ lwV (lawT v k) (lawN v k) (Cl v qt) = 0 then unkN v qt k + 1 else unkN v qt k
theorem Cl_t (m : Mm) (qt : Nat) : Cl (tV m) qt = Cl m qt := by funext c; unfold Cl; rw [closS_t]
theorem closS_p (m : Mm) (lp y q c : Nat) : closS (pV m) lp y q c = closS m lp y q c := rfl
theorem Cl_p (m : Mm) (qt : Nat) : Cl (pV m) qt = Cl m qt := by funext c; unfold Cl; rw [closS_p]
theorem st_unkept {u v : Mm} (h : Rel u v) (a1 : Int32) : wX8_unkept u a1 (fun (r : Int32) (u1 : Mm) => wX9_unkept v a1 (fun (r2 : Int32) (v1 : Mm) => r = r2 ∧ Rel u1 v1)) := by
  unfold wX8_unkept
  refine below_b 12 (fun n => ?_) (fun q => ?_)
  · unfold wX9_unkept; exact isQuarter_b (fun _ => ⟨rfl, h⟩) (fun z => absurd z n)
  · obtain ⟨qt, hqt, rfl⟩ := ix_of 12 q
    refine setAll_w h (fun u3 h3 => ?_)
    refine loopS (fun f i (s : Mm) => wX8_unkept_b23 (fun (r : Int32) (u1 : Mm) => wX9_unkept v (nI qt) (fun (r2 : Int32) (v1 : Mm) => r = r2 ∧ Rel u1 v1)) f s (nI qt) (nI (unkN v qt i)) (nI i)) (fun i s => Sd s v) 4 (fun f s hI => ?_) (fun f i s hi hI ih => ?_) 0 u3 (by omega) h3
    · unfold wX8_unkept_b23
      refine ⟨fun _ => ?_, fun cc => absurd ((nI_leI (a := 4) (b := 4) (by omega) (by omega)).mpr (Nat.le_refl _)) cc⟩
      unfold wX9_unkept
      refine isQuarter_b (fun z => absurd q z) (fun _ => ?_)
      refine loopS (fun f i (w : Mm) => wX9_unkept_b14 (fun (r2 : Int32) (v1 : Mm) => nI (unkN v qt 4) = r2 ∧ Rel s v1) f w (nI qt) (nI (unkN v qt i)) (nI i)) (fun i w => Rel s w ∧ w.1 24 = v.1 24 ∧ w.1 25 = v.1 25 ∧ Cl w qt = Cl v qt) 4 (fun f w hJ => ?_) (fun f i w hi hJ ih => ?_) 0 v (by omega) ⟨hI.1, rfl, rfl, rfl⟩
      · unfold wX9_unkept_b14
        exact ⟨fun _ => ⟨rfl, hJ.1⟩, fun cc => absurd ((nI_leI (a := 4) (b := 4) (by omega) (by omega)).mpr (Nat.le_refl _)) cc⟩
      · obtain ⟨j1, j2, j3, j4⟩ := hJ
        have es : unkN v qt (i + 1) = if lwB (lawT v i) (lawN v i) = -1 ∧ ¬ lwV (lawT v i) (lawN v i) (Cl v qt) = 0 then unkN v qt i + 1 else unkN v qt i := rfl
        have eT : lawT w i = lawT v i := by unfold lawT; rw [j3]
        have eN : lawN w i = lawN v i := by unfold lawN; rw [j2]
        unfold wX9_unkept_b14
        refine ⟨fun cc => absurd ((nI_leI (a := 4) (b := i) (by omega) (by omega)).mp cc) (by omega), fun _ => readsR_w j1 hi hqt (fun x w1 v1 k1 k2 k3 k4 k5 k6 k7 => ?_)⟩
        rw [eT, eN] at k6 k7
        rw [j4] at k7
        have hp := pV_w k4 k5
        have hJ1 : Rel s w1 ∧ w1.1 24 = v.1 24 ∧ w1.1 25 = v.1 25 ∧ Cl w1 qt = Cl v qt := by
          refine ⟨rel_scr k1 rfl hp, ?_, ?_, ?_⟩
          · rw [k5 24 (by decide) (by decide) (by decide) (by decide), tV_1 k2 (k := 24) (by decide), j2]
          · rw [k5 25 (by decide) (by decide) (by decide) (by decide), tV_1 k2 (k := 25) (by decide), j3]
          · rw [← Cl_p w1, hp, Cl_p, tV_f k2 (fun m => Cl m qt) (fun m => Cl_t m qt), j4]
        rw [k6]
        refine ⟨fun e => ⟨fun z y ey y2 ey2 => ?_, fun z y ey y2 ey2 => ?_⟩, fun e y ey y2 ey2 => ?_⟩
        · rw [if_neg (fun d => d.2 (by rw [← k7 e]; exact z))] at es
          rw [ey, ey2, nI_1, nI_0', ← es]; exact ih w1 hJ1
        · rw [if_pos ⟨e, by rw [← k7 e]; exact z⟩] at es
          rw [ey, ey2, nI_1, nI_1, ← es]; exact ih w1 hJ1
        · rw [if_neg (fun d => e d.1)] at es
          rw [ey, ey2, nI_1, nI_0', ← es]; exact ih w1 hJ1
    · obtain ⟨n60, e24, e693, etx⟩ := law_rel hI.1 hi
      have es : unkN v qt (i + 1) = if lwB (lawT v i) (lawN v i) = -1 ∧ ¬ lwV (lawT v i) (lawN v i) (Cl v qt) = 0 then unkN v qt i + 1 else unkN v qt i := rfl
      have vi : vp_in (nI i) 4 := vp_in_nI hi (by omega)
      unfold wX8_unkept_b23
      refine ⟨fun cc => absurd ((nI_leI (a := 4) (b := i) (by omega) (by omega)).mp cc) (by omega), fun _ => ⟨vi, fun j1 h1 e1 => ?_⟩⟩
      obtain rfl := nI_j (by omega) (by omega) e1
      refine scanC_w hi n60 e693 etx (fun s1 f1 t1 => ?_)
      have hs1 : Sd s1 v := Sd_X hI (frT_pX hi f1)
      refine ⟨fun e => ⟨vi, fun j5 h5 e5 => ?_⟩, fun e y ey => ?_⟩
      · obtain rfl := nI_j (by omega) (by omega) e5
        obtain ⟨K, k1, k2, k3, k4⟩ := t1 e
        refine leftC_w hs1 hqt k1 k2 k3 ?_
        rw [k4]
        refine ⟨fun z y ey => ?_, fun z x ex y ey => ?_⟩
        · rw [if_neg (fun d => d.2 z)] at es
          rw [ey, nI_1, ← es]; exact ih s1 hs1
        · rw [if_pos ⟨e, z⟩] at es
          rw [ex, ey, nI_1, nI_1, ← es]; exact ih s1 hs1
      · rw [if_neg (fun d => e d.1)] at es
        rw [ey, nI_1, ← es]; exact ih s1 hs1
