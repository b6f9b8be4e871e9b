theorem sheetL_w {w : Mm} {j n : Nat} (hj : j < 4) {Q : Int32 → Mm → Prop} (h : Q (nI n) (r32 w 29 (fun k => if 60 * j ≤ k ∧ k < 60 * j + 60 then 0 else w.1 29 k))) : ∃ f, wX9_sheet_b62 Q f w (nI j) (nI n) (0 : Int32) := by
  have hw : ∃ f, wX9_sheet_b62 Q f (r32 w 29 (fun k => if 60 * j ≤ k ∧ k < 60 * j + 0 then 0 else w.1 29 k)) (nI j) (nI n) (nI 0) := by
    refine loopF (fun f i => wX9_sheet_b62 Q f (r32 w 29 (fun k => if 60 * j ≤ k ∧ k < 60 * j + i then 0 else w.1 29 k)) (nI j) (nI n) (nI i)) 60 (fun f => ?_) (fun f i hi ih => ?_) 0 (by omega)
    · unfold wX9_sheet_b62
      exact ⟨fun _ => h, fun c => absurd ((nI_leI (a := 60) (b := 60) (by omega) (by omega)).mpr (Nat.le_refl 60)) c⟩
    · unfold wX9_sheet_b62
      rw [it_R, nI_clamp (by omega)]
      refine ⟨fun c => absurd ((nI_leI (a := 60) (b := i) (by omega) (by omega)).mp c) (by omega), fun _ => ⟨vp_in_nI (by omega) (by omega), fun u1 e1 x ex => ?_⟩⟩
      rw [ex, nI_1, e1, s32_r32]
      have e2 : upd (fun k => if 60 * j ≤ k ∧ k < 60 * j + i then (0 : Int32) else w.1 29 k) (60 * j + i) 0 = fun k => if 60 * j ≤ k ∧ k < 60 * j + (i + 1) then 0 else w.1 29 k := by
        funext k
        unfold upd
        show (if k = 60 * j + i then (0 : Int32) else if 60 * j ≤ k ∧ k < 60 * j + i then 0 else w.1 29 k) = if 60 * j ≤ k ∧ k < 60 * j + (i + 1) then 0 else w.1 29 k
        by_cases h1 : k = 60 * j + i
        · rw [if_pos h1, if_pos (by omega)]
        · rw [if_neg h1]
          by_cases h2 : 60 * j ≤ k ∧ k < 60 * j + i
          · rw [if_pos h2, if_pos (by omega)]
          · rw [if_neg h2, if_neg (by omega)]
      rw [e2]
      exact ih
  obtain ⟨f, hf⟩ := hw
  rw [r32_congr (by funext k; rw [if_neg (by omega)])] at hf
  exact ⟨f, hf⟩
theorem r32_k (u : Mm) (k : Nat) (f : Nat → Int32) : (r32 u k f).1 k = f := by unfold r32; simp
theorem r32_n (u : Mm) {k q : Nat} (f : Nat → Int32) (h : q ≠ k) : (r32 u k f).1 q = u.1 q := by unfold r32; simp [h]
theorem st_sheet {u v : Mm} (h : Rel u v) (a1 a2 a3 : Int32) : wX8_sheet u a1 a2 a3 (fun (r : Int32) (u1 : Mm) => wX9_sheet v a1 a2 a3 (fun (r2 : Int32) (v1 : Mm) => r = r2 ∧ Rel u1 v1)) := by
  have hO : rO u v := h.2.2.2.2.2.2.2.2.2.2.2.2.2.2.1
  unfold wX8_sheet
  refine below_b 4 (fun n => ?_) (fun p => below_b 3 (fun n => ?_) (fun q => ⟨fun c => ⟨fun d => ?_, fun d => ?_⟩, fun c => ?_⟩))
  · unfold wX9_sheet; exact isSheet_b (fun _ => ⟨rfl, h⟩) (fun z => absurd z n)
  · unfold wX9_sheet; exact isSheet_b (fun z => absurd p z) (fun _ => in_b 0 2 (fun _ => ⟨rfl, h⟩) (fun z => absurd z (by omega)))
  · have c2 := c
    have d2 := d
    rw [Int32.le_iff_toInt_le] at c2 d2
    have z60 : (60 : Int32).toInt = 60 := by decide
    have z0 : (0 : Int32).toInt = 0 := by decide
    rw [z60] at c2
    rw [z0] at d2
    obtain ⟨j, hj, rfl⟩ := ix_of 4 p
    obtain ⟨f, hf, rfl⟩ := ix_of 3 q
    obtain ⟨n, hn, rfl⟩ := ix_of 61 (a := a3) (by omega)
    refine ⟨vp_in_nI hj (by omega), fun j3 h3 e3 => ?_⟩
    obtain rfl := nI_j (by omega) (by omega) e3
    unfold wX5_renew
    refine fill_wp (by decide) u 0 (fun u3 e4 u4 e5 u5 e6 => ?_)
    unfold wX9_sheet
    refine isSheet_b (fun z => absurd p z) (fun _ => in_b 0 2 (fun z => absurd q (by omega)) (fun _ => ⟨fun _ => ⟨fun _ => ?_, fun z => absurd d z⟩, fun z => absurd c z⟩))
    rw [nI_clamp (n := j3) (by omega), nar1]
    refine ⟨vp_in_nI hj (by omega), fun v3 f3 => ⟨vp_in_nI hj (by omega), fun v4 f4 => ⟨vp_in_nI hj (by omega), fun v5 f5 => sheetL_w hj ⟨rfl, ?_⟩⟩⟩⟩
    have k29 : v5.1 29 = v.1 29 := by rw [f5, f4, f3]; rfl
    have k26 : v5.1 26 = upd (v.1 26) j3 1 := by rw [f5, f4, f3]; rfl
    have k27 : v5.1 27 = upd (v.1 27) j3 (nI f) := by rw [f5, f4, f3]; rfl
    have k28 : v5.1 28 = upd (v.1 28) j3 (nI n) := by rw [f5, f4, f3]; rfl
    refine rel_O h ?_ ?_ (rO_of (fun k hk => ?_))
    · rw [e6, e5, e4, qU_s32 _ _ _ (kUo_l hj).1, qU_s32 _ _ _ (kUo_l hj).2.2.1, qU_s32 _ _ _ (kUo_l hj).2.1, qU_r32 _ _ (kUo_l hj).2.2.2]
    · rw [qV_r32 _ _ (by decide), f5, f4, f3, qV_s32 _ _ _ (by decide), qV_s32 _ _ _ (by decide), qV_s32 _ _ _ (by decide)]
    · rw [r32_k, r32_n v5 (k := 29) (q := 26) _ (by decide), r32_n v5 (k := 29) (q := 27) _ (by decide), r32_n v5 (k := 29) (q := 28) _ (by decide), k26, k27, k28, k29]
      by_cases hkj : k = j3
      · subst hkj
        have g1 : u5.1 (967 + 32 * k) 0 = 0 := by rw [e6, s32_k, upd_s]
        have g2 : u5.1 (966 + 32 * k) 0 = nI n := by rw [e6, s32_n _ _ _ (by omega), e5, s32_k, upd_s]
        have g3 : u5.1 (965 + 32 * k) 0 = nI f := by rw [e6, s32_n _ _ _ (by omega), e5, s32_n _ _ _ (by omega), e4, s32_k, upd_s]
        have g4 : ∀ i, i < 60 → u5.1 (55 + 2 * k) i = 0 := fun i hi => by
          rw [e6, s32_n _ _ _ (by omega), e5, s32_n _ _ _ (by omega), e4, s32_n _ _ _ (by omega), r32_k, if_pos hi]
        rw [g1, g2, g3, upd_s, upd_s, upd_s]
        refine ⟨Or.inl ⟨rfl, rfl⟩, rfl, ?_, rfl, by rw [nI_clamp (by omega)]; omega, by rw [nI_clamp (by omega)], fun i hi => ?_⟩
        · rcases (show f = 0 ∨ f = 1 ∨ f = 2 by omega) with rfl | rfl | rfl
          · exact Or.inl rfl
          · exact Or.inr (Or.inl rfl)
          · exact Or.inr (Or.inr rfl)
        · rw [g4 i hi]
          show (0 : Int32) = (if 60 * k ≤ 60 * k + i ∧ 60 * k + i < 60 * k + 60 then 0 else v.1 29 (60 * k + i))
          rw [if_pos (by omega)]
      · have g : ∀ q, q ≠ 967 + 32 * j3 → q ≠ 966 + 32 * j3 → q ≠ 965 + 32 * j3 → q ≠ 55 + 2 * j3 → u5.1 q = u.1 q := fun q q1 q2 q3 q4 => by
          rw [e6, s32_n _ _ _ q1, e5, s32_n _ _ _ q2, e4, s32_n _ _ _ q3, r32_n _ _ q4]
        obtain ⟨w1, w2, w3, w4, w5, w6, w7⟩ := rO_at hO hk
        rw [g (967 + 32 * k) (by omega) (by omega) (by omega) (by omega), g (966 + 32 * k) (by omega) (by omega) (by omega) (by omega), g (965 + 32 * k) (by omega) (by omega) (by omega) (by omega), g (55 + 2 * k) (by omega) (by omega) (by omega) (by omega), upd_n _ _ hkj, upd_n _ _ hkj, upd_n _ _ hkj]
        exact ⟨w1, w2, w3, w4, w5, w6, fun i hi => by
          show _ = (if 60 * j3 ≤ 60 * k + i ∧ 60 * k + i < 60 * j3 + 60 then (0 : Int32) else v.1 29 (60 * k + i))
          rw [if_neg (by omega)]; exact w7 i hi⟩
  · refine found_w ?_
    unfold wX9_sheet
    exact isSheet_b (fun z => absurd p z) (fun _ => in_b 0 2 (fun z => absurd q (by omega)) (fun _ => ⟨fun _ => ⟨fun z => absurd z d, fun _ => meets_w ⟨rfl, rel_find h 5⟩⟩, fun z => absurd c z⟩))
  · unfold wX9_sheet
    exact isSheet_b (fun z => absurd p z) (fun _ => in_b 0 2 (fun z => absurd q (by omega)) (fun _ => ⟨fun z => absurd z c, fun _ => ⟨rfl, h⟩⟩))
