/-- what a tally leaves behind: the weight and the mean; all that Rel looks at stays -/
theorem tallyL_w {u : Mm} {n : Nat} (hn80 : n ≤ 80) (code last upTo : Int32) (hT : ∀ i, i < 10 → ∃ t, 1 ≤ t ∧ t ≤ 9 ∧ u.1 2 i = nI t) (hV : ∀ k, k < n → ∃ x, x ≤ 100000 ∧ u.1 5 k = nI x) (P : Nat → Int32) (hP : ∀ s, s < 10 → P s = bestR (u.1 3) (u.1 4) (u.1 6) code (nI s) last upTo n) (h127 : u.1 127 0 = 0) {Q : Mm → Prop} (hq : ∀ u1 : Mm, pU u1 = pU u → u1.1 126 0 = wgtR (u.1 2) (u.1 3) (u.1 4) (u.1 6) n code last upTo 10 → (u1.1 127 0).toInt64 = saidR (u.1 2) (u.1 3) (u.1 4) (u.1 5) (u.1 6) n code last upTo → (∃ x, x ≤ 100000 ∧ u1.1 127 0 = nI x) → Q u1) :
    ∃ f, wX3_tally_b34 Q f (s32 (r32 u 9 P) 126 0 0) (0 : Int32) (0 : Int32) := by
  have hp : ∀ w : Int32, pU (s32 (r32 u 9 P) 126 0 w) = pU u := fun w => by rw [pU_s32 _ _ _ (by decide), pU_r32 _ _ (by decide)]
  refine loopS (fun f i (σ : Nat) => wX3_tally_b34 Q f (s32 (r32 u 9 P) 126 0 (wgtR (u.1 2) (u.1 3) (u.1 4) (u.1 6) n code last upTo i)) (nI σ) (nI i)) (fun i σ => ∃ W : Nat, wgtR (u.1 2) (u.1 3) (u.1 4) (u.1 6) n code last upTo i = nI W ∧ sumR (u.1 2) (u.1 3) (u.1 4) (u.1 5) (u.1 6) n code last upTo i = lN σ ∧ W ≤ 9 * i ∧ σ ≤ 100000 * W) 10 (fun f σ hI => ?_) (fun f i σ hi hI ih => ?_) 0 0 (by omega) ⟨0, rfl, rfl, by omega, by omega⟩
  · obtain ⟨W, w1, w2, w3, w4⟩ := hI
    unfold wX3_tally_b34
    refine ⟨fun _ => ?_, fun c => absurd ((nI_leI (a := 10) (b := 10) (by omega) (by omega)).mpr (Nat.le_refl 10)) c⟩
    rw [s32_k, upd_s, w1]
    have z0 : (0 : Int32) = nI 0 := rfl
    refine ⟨fun c => ?_, fun c => ?_⟩
    · rw [z0] at c
      have hW : W = 0 := by
        have := (nI_leI (a := W) (b := 0) (by omega) (by omega)).mp c
        omega
      subst hW
      refine hq _ (hp _) ?_ ?_ ⟨0, by omega, h127⟩
      · rw [s32_k, upd_s, w1]
      · show (u.1 127 0).toInt64 = _
        rw [h127]
        unfold saidR
        rw [w1, if_pos (show nI 0 = 0 from rfl)]
        rfl
    · have hW : 0 < W := by
        rcases Nat.eq_zero_or_pos W with z | z
        · subst z; exact absurd (by decide) c
        · exact z
      have e2 : (2 : Int32) * nI W = nI (2 * W) := by rw [show (2 : Int32) = nI 2 from rfl, pk_mul]
      have e3 : (2 : Int32) * nI σ + nI W = nI (2 * σ + W) := by rw [show (2 : Int32) = nI 2 from rfl, pk_mul, nI_add]
      rw [e2, e3, pk_div (by omega) (by omega) (by omega)]
      refine ⟨nI_ne0 (by omega) (by omega), fun u1 e1 => hq u1 ?_ ?_ ?_ ⟨(2 * σ + W) / (2 * W), ?_, ?_⟩⟩
      · rw [e1, pU_s32 _ _ _ (by decide), hp]
      · rw [e1, s32_n _ _ _ (by decide), s32_k, upd_s, w1]
      · rw [e1, s32_k, upd_s]
        unfold saidR
        have hm : (2 * σ + W) / (2 * W) ≤ 2 * σ + W := Nat.div_le_self _ _
        have eW : (nI W).toInt64 = lN W := nI_l (by omega)
        have eM : (nI ((2 * σ + W) / (2 * W))).toInt64 = lN ((2 * σ + W) / (2 * W)) := nI_l (by omega)
        rw [w1, w2, if_neg (nI_ne0 hW (by omega)), eM, eW, show (2 : Int64) = lN 2 from rfl, lN_mul, lN_mul, lN_add, pk_lDiv (by omega) (by omega) (by omega)]
      · have h1 : 2 * σ + W ≤ 100000 * (2 * W) + W := by omega
        have h2 : (2 * σ + W) / (2 * W) < 100001 := by
          rw [Nat.div_lt_iff_lt_mul (by omega)]
          omega
        omega
      · rw [e1, s32_k, upd_s]
  · obtain ⟨W, w1, w2, w3, w4⟩ := hI
    have e1 : wgtR (u.1 2) (u.1 3) (u.1 4) (u.1 6) n code last upTo (i + 1) = if bestR (u.1 3) (u.1 4) (u.1 6) code (nI i) last upTo n = -1 then wgtR (u.1 2) (u.1 3) (u.1 4) (u.1 6) n code last upTo i else wgtR (u.1 2) (u.1 3) (u.1 4) (u.1 6) n code last upTo i + u.1 2 i := rfl
    have e2 : sumR (u.1 2) (u.1 3) (u.1 4) (u.1 5) (u.1 6) n code last upTo (i + 1) = if bestR (u.1 3) (u.1 4) (u.1 6) code (nI i) last upTo n = -1 then sumR (u.1 2) (u.1 3) (u.1 4) (u.1 5) (u.1 6) n code last upTo i else sumR (u.1 2) (u.1 3) (u.1 4) (u.1 5) (u.1 6) n code last upTo i + (u.1 2 i).toInt64 * (u.1 5 (bestR (u.1 3) (u.1 4) (u.1 6) code (nI i) last upTo n).toNatClampNeg).toInt64 := rfl
    rw [e1, e2] at ih
    have hb := bestR_lt (u.1 3) (u.1 4) (u.1 6) code (nI i) last upTo n
    rw [← hP i hi] at hb ih
    unfold wX3_tally_b34
    rw [nI_clamp (n := i) (by omega)]
    have eP : ∀ w, (s32 (r32 u 9 P) 126 0 w).1 9 i = P i := fun w => rfl
    rw [eP]
    refine ⟨fun c => absurd ((nI_leI (a := 10) (b := i) (by omega) (by omega)).mp c) (by omega), fun _ => ⟨vp_in_nI hi (by omega), fun c x ex => ?_, fun c => ⟨vp_in_nI hi (by omega), fun u3 e3 => ?_⟩⟩⟩
    · rw [if_pos c, if_pos c] at ih
      rw [ex, nI_1]
      exact ih σ ⟨W, w1, w2, by omega, w4⟩
    · rw [if_neg c, if_neg c] at ih
      obtain ⟨k, hk, ek, -⟩ := hb.resolve_left c
      obtain ⟨t, t1, t2, et⟩ := hT i hi
      obtain ⟨x, hx, exx⟩ := hV k hk
      have e126 : ∀ w, (s32 (r32 u 9 P) 126 0 w).1 126 0 = w := fun w => rfl
      have e2i : ∀ w, (s32 (r32 u 9 P) 126 0 w).1 2 i = u.1 2 i := fun w => rfl
      rw [e126, e2i, s32_s32] at e3
      subst e3
      rw [eP, ek, nI_clamp (n := k) (by omega)]
      refine ⟨vp_in_nI hi (by omega), vp_in_nI hi (by omega), vp_in_nI (by omega) (by omega), fun y ey z ez => ?_⟩
      have ey : y = nI σ + u.1 2 i * u.1 5 k := ey
      rw [ek, nI_clamp (n := k) (by omega)] at ih
      rw [et, exx, pk_mul, nI_add] at ey
      rw [ey, ez, nI_1]
      have htx : t * x ≤ t * 100000 := Nat.mul_le_mul_left t hx
      refine ih (σ + t * x) ⟨W + t, ?_, ?_, by omega, by omega⟩
      · rw [w1, et, nI_add]
      · rw [w2, et, exx, nI_l (by omega), nI_l (by omega), lN_mul, lN_add]
theorem tally_w {u : Mm} {n : Nat} (hn80 : n ≤ 80) {c : Nat} (hc : c < 720) (last upTo : Int32) (hlat : u.1 7 c = lastR (u.1 4) (nI c) n) (hold : ∀ k, k < n → u.1 8 k = lastR (u.1 4) (u.1 4 k) k) (hRS : ∀ k, k < n → ∃ s, s < 10 ∧ u.1 3 k = nI s) (hT : ∀ i, i < 10 → ∃ t, 1 ≤ t ∧ t ≤ 9 ∧ u.1 2 i = nI t) (hV : ∀ k, k < n → ∃ x, x ≤ 100000 ∧ u.1 5 k = nI x) {Q : Mm → Prop} (hq : ∀ u1 : Mm, pU u1 = pU u → u1.1 126 0 = wgtR (u.1 2) (u.1 3) (u.1 4) (u.1 6) n (nI c) last upTo 10 → (u1.1 127 0).toInt64 = saidR (u.1 2) (u.1 3) (u.1 4) (u.1 5) (u.1 6) n (nI c) last upTo → (∃ x, x ≤ 100000 ∧ u1.1 127 0 = nI x) → Q u1) : wX3_tally u (nI c) last upTo Q := by
  unfold wX3_tally
  intro u1 e1 u2 e2
  have hp2 : pU u2 = pU u := by rw [e2, e1, pU_s32 _ _ _ (by decide), pU_s32 _ _ _ (by decide)]
  have h126 : u2.1 126 0 = 0 := by rw [e2, e1]; rfl
  have h127 : u2.1 127 0 = 0 := by rw [e2]; rfl
  have k2 : u2.1 2 = u.1 2 := by rw [e2, e1]; rfl
  have k3 : u2.1 3 = u.1 3 := by rw [e2, e1]; rfl
  have k4 : u2.1 4 = u.1 4 := by rw [e2, e1]; rfl
  have k5 : u2.1 5 = u.1 5 := by rw [e2, e1]; rfl
  have k6 : u2.1 6 = u.1 6 := by rw [e2, e1]; rfl
  have k7 : u2.1 7 = u.1 7 := by rw [e2, e1]; rfl
  have k8 : u2.1 8 = u.1 8 := by rw [e2, e1]; rfl
  rw [nI_clamp (n := c) (by omega)]
  refine ⟨vp_in_nI hc (by omega), fun d => ?_, fun d => ?_⟩
  · rw [k7, hlat] at d
    have hno : ∀ k, k < n → ¬ u.1 4 k = nI c := by
      rcases lastR_spec (u.1 4) (nI c) n (by omega) with ⟨-, a⟩ | ⟨i, hi, ei, -⟩
      · exact a
      · rw [ei] at d; exact absurd d (nI_ne1 (by omega))
    have hbest : ∀ s, bestR (u.1 3) (u.1 4) (u.1 6) (nI c) s last upTo n = -1 := by
      intro s
      rcases bestR_lt (u.1 3) (u.1 4) (u.1 6) (nI c) s last upTo n with z | ⟨k, hk, -, hr⟩
      · exact z
      · exact absurd hr.1 (hno k hk)
    have hw : ∀ s, wgtR (u.1 2) (u.1 3) (u.1 4) (u.1 6) n (nI c) last upTo s = 0 := by
      intro s
      induction s with
      | zero => rfl
      | succ s ih => unfold wgtR; rw [if_pos (hbest _)]; exact ih
    refine hq u2 hp2 (h126.trans (hw 10).symm) ?_ ⟨0, by omega, h127⟩
    unfold saidR
    rw [hw 10, if_pos rfl, h127]
    rfl
  · refine pick_w (u := u2) hn80 hc last upTo (by rw [k7, k4]; exact hlat) (by rw [k8, k4]; exact hold) (by rw [k3]; exact hRS) (fun P hP => ?_)
    have e3 : r32 u2 9 P = s32 (r32 u2 9 P) 126 0 0 := by
      have := upd_s32_same (r32 u2 9 P) 126 0
      have e4 : (r32 u2 9 P).1 126 0 = 0 := h126
      rw [e4] at this
      exact this.symm
    rw [e3]
    refine tallyL_w (u := u2) hn80 (nI c) last upTo (by rw [k2]; exact hT) (by rw [k5]; exact hV) P hP h127 (fun u1 f1 f2 f3 f4 => hq u1 (f1.trans hp2) ?_ ?_ f4)
    · rw [k2, k3, k4, k6] at f2; exact f2
    · rw [k2, k3, k4, k5, k6] at f3; exact f3
