theorem rel_find {u v : Mm} (h : Rel u v) (k : Int32) : Rel (s32 u 107 0 k) (s32 v 142 0 k) := by
  obtain ⟨hA, hB, hC, hD, hE, hF, hG, hH, hI, hJ, hK, hL, hM, hN, hO, hP, hQ, hR⟩ := h
  exact ⟨hA, hB, hC, hD, hE, hF, hG, hH, hI, hJ, hK, hL, hM, hN, hO, rfl, hQ, hR⟩
theorem found_w {u : Mm} {k : Int32} {Q : Int32 → Mm → Prop} (h : Q (-10 - k) (s32 u 107 0 k)) : wX8_found u k Q := by
  unfold wX8_found; intro u1 e; subst e; exact h
theorem meets_w {u : Mm} {k : Int32} {Q : Int32 → Mm → Prop} (h : Q (-10 - k) (s32 u 142 0 k)) : wX9_meets u k Q := by
  unfold wX9_meets; intro u1 e; subst e; exact h
theorem nI_j {i j : Nat} (hi : i < 100) (hj : j < 100) (e : nI i = nI j) : j = i := ((nI_eq (by omega) (by omega)).mp e).symm
theorem st_repeal {u v : Mm} (h : Rel u v) (a1 : Int32) : wX8_repeal u a1 (fun (r : Int32) (u1 : Mm) => wX9_repeal v a1 (fun (r2 : Int32) (v1 : Mm) => r = r2 ∧ Rel u1 v1)) := by
  unfold wX8_repeal
  refine below_b 4 (fun n => ?_) (fun p => ?_)
  · unfold wX9_repeal; exact isLaw_b (fun _ => ⟨rfl, h⟩) (fun z => absurd z n)
  · obtain ⟨j, hj, rfl⟩ := ix_of 4 p
    refine ⟨vp_in_nI hj (by omega), fun j2 h2 e2 x ex => ⟨vp_in_nI hj (by omega), fun j4 h4 e4 u5 e5 => ?_⟩⟩
    obtain rfl := nI_j (by omega) (by omega) e2
    obtain rfl := nI_j (by omega) (by omega) e4
    unfold wX9_repeal
    rw [nI_clamp (by omega)]
    refine isLaw_b (fun z => absurd p z) (fun _ => ⟨vp_in_nI hj (by omega), fun y ey => ⟨vp_in_nI hj (by omega), fun v3 f3 => ?_⟩⟩)
    subst e5 f3
    obtain ⟨hA, hB, hC, hD, hE, hF, hG, hH, hI, hJ, hK, hL, hM, hN, hO, hP, hQ, hR⟩ := h
    refine ⟨by rw [ex, ey]; exact (rN_at hN hj).1, ?_⟩
    have z : ∀ (tx tt : Nat → Int32) (o : Nat), lawOK 0 tx 0 tt o := fun tx tt o => ⟨rfl, by decide, rfl, fun i hi => absurd hi (by rw [show (0 : Int32).toNatClampNeg = 0 from rfl]; omega)⟩
    rcases (show j4 = 0 ∨ j4 = 1 ∨ j4 = 2 ∨ j4 = 3 by omega) with rfl | rfl | rfl | rfl
    · show Rel (s32 u 693 0 0) (s32 v 24 0 0)
      exact ⟨hA, hB, hC, hD, hE, hF, hG, hH, hI, hJ, hK, hL, hM, ⟨z _ _ _, hN.2.1, hN.2.2.1, hN.2.2.2⟩, hO, hP, hQ, hR⟩
    · show Rel (s32 u 757 0 0) (s32 v 24 1 0)
      exact ⟨hA, hB, hC, hD, hE, hF, hG, hH, hI, hJ, hK, hL, hM, ⟨hN.1, z _ _ _, hN.2.2.1, hN.2.2.2⟩, hO, hP, hQ, hR⟩
    · show Rel (s32 u 821 0 0) (s32 v 24 2 0)
      exact ⟨hA, hB, hC, hD, hE, hF, hG, hH, hI, hJ, hK, hL, hM, ⟨hN.1, hN.2.1, z _ _ _, hN.2.2.2⟩, hO, hP, hQ, hR⟩
    · show Rel (s32 u 885 0 0) (s32 v 24 3 0)
      exact ⟨hA, hB, hC, hD, hE, hF, hG, hH, hI, hJ, hK, hL, hM, ⟨hN.1, hN.2.1, hN.2.2.1, z _ _ _⟩, hO, hP, hQ, hR⟩
theorem lawOK_upd {len : Int32} {tx : Nat → Int32} {n2 : Int32} {tt : Nat → Int32} {o m : Nat} {b : Int32} (h : lawOK len tx n2 tt o) (hm : m < o ∨ o + 60 ≤ m) : lawOK len tx n2 (upd tt m b) o := by
  obtain ⟨h1, h2, h3, h4⟩ := h
  refine ⟨h1, h2, h3, fun i hi => ?_⟩
  rw [upd_n _ _ (by omega)]
  exact h4 i hi
theorem lawOK_app {len : Int32} {tx : Nat → Int32} {n : Nat} {tt : Nat → Int32} {o : Nat} {b : Int32} (h : lawOK len tx (nI n) tt o) (hn : n < 60) (hb : 0 ≤ b.toInt ∧ b.toInt ≤ 255) : lawOK (nI (n + 1)) (upd tx n b) (nI (n + 1)) (upd tt (o + n) b) o := by
  obtain ⟨h1, h2, h3, h4⟩ := h
  have c1 : (nI (n + 1)).toNatClampNeg = n + 1 := nI_clamp (by omega)
  have c0 : (nI n).toNatClampNeg = n := nI_clamp (by omega)
  unfold lawOK
  rw [c1]
  rw [c0] at h4
  refine ⟨rfl, by omega, rfl, fun i hi => ?_⟩
  by_cases hin : i = n
  · subst hin; rw [upd_s, upd_s]; exact ⟨rfl, hb⟩
  · rw [upd_n _ _ hin, upd_n _ _ (by omega)]; exact h4 i (by omega)
theorem st_type {u v : Mm} (h : Rel u v) (a1 a2 : Int32) : wX8_type u a1 a2 (fun (r : Int32) (u1 : Mm) => wX9_type v a1 a2 (fun (r2 : Int32) (v1 : Mm) => r = r2 ∧ Rel u1 v1)) := by
  unfold wX8_type
  refine below_b 4 (fun n => ?_) (fun p => within_b 0 255 (fun n => ?_) (fun q => ?_))
  · unfold wX9_type; exact isLaw_b (fun _ => ⟨rfl, h⟩) (fun z => absurd z n)
  · unfold wX9_type; exact isLaw_b (fun z => absurd p z) (fun _ => in_b 0 255 (fun _ => ⟨rfl, h⟩) (fun z => absurd z n))
  · obtain ⟨j, hj, rfl⟩ := ix_of 4 p
    obtain ⟨hA, hB, hC, hD, hE, hF, hG, hH, hI, hJ, hK, hL, hM, hN, hO, hP, hQ, hR⟩ := id h
    have hj4 := rN_at hN hj
    obtain ⟨n, hn⟩ : ∃ n, n = (v.1 24 j).toNatClampNeg := ⟨_, rfl⟩
    have e24 : v.1 24 j = nI n := by rw [hn]; exact hj4.2.2.1
    have hn60 : n ≤ 60 := by rw [hn]; exact hj4.2.1
    have e693 : u.1 (693 + 64 * j) 0 = nI n := hj4.1.trans e24
    have p60 : ((60 : Int32) * nI j) + nI n = nI (60 * j + n) := by
      simp only [show (60 : Int32) = nI 60 from rfl, pk_mul, nI_add]
    refine ⟨vp_in_nI hj (by omega), fun j3 h3 e3 => ?_⟩
    obtain rfl := nI_j (by omega) (by omega) e3
    unfold wX9_type
    rw [nI_clamp (by omega), e693, e24, show (60 : Int32) = nI 60 from rfl, nI_ltI (by omega) (by omega)]
    refine ⟨fun c => ⟨vp_in_nI hj (by omega), fun j4 h4 e4 => ?_⟩, fun c => ?_⟩
    · obtain rfl := nI_j (by omega) (by omega) e4
      unfold wX1_append
      rw [e693]
      refine ⟨vp_in_nI c (by omega), fun u1 e1 u2 e2 => ⟨vp_in_nI hj (by omega), fun j7 h7 e7 => ?_⟩⟩
      obtain rfl := nI_j (by omega) (by omega) e7
      refine isLaw_b (fun z => absurd p z) (fun _ => in_b 0 255 (fun z => absurd q z) (fun _ => ⟨vp_in_nI hj (by omega), fun d => absurd (nI_j (by omega) (by omega) d) (by omega), fun _ => ⟨vp_in_nI hj (by omega), ?_⟩⟩))
      rw [show nI 60 * nI j7 + nI n = nI (60 * j7 + n) from p60, nI_clamp (by omega)]
      refine ⟨vp_in_nI (by omega) (by omega), fun v3 f3 => ⟨vp_in_nI hj (by omega), vp_in_nI hj (by omega), fun v4 f4 => ⟨vp_in_nI hj (by omega), ?_⟩⟩⟩
      rw [nI_clamp (by omega)] at e1
      have e11 : u1.1 (693 + 64 * j7) 0 = nI n := by rw [e1, s32_n _ _ _ (by omega)]; exact e693
      have f11 : v3.1 24 j7 = nI n := by rw [f3, s32_n _ _ _ (by omega)]; exact e24
      rw [e11, nI_1] at e2
      rw [f11, nI_1] at f4
      subst e2 f4
      refine ⟨by rw [s32_k, s32_k, upd_s, upd_s], ?_⟩
      subst e1 f3
      have happ := lawOK_app (len := u.1 (693 + 64 * j7) 0) (tx := u.1 (38 + 4 * j7)) (tt := v.1 25) (o := 60 * j7) (b := a2) (n := n) (by rw [← e24]; exact hj4) c q
      rcases (show j7 = 0 ∨ j7 = 1 ∨ j7 = 2 ∨ j7 = 3 by omega) with rfl | rfl | rfl | rfl
      · show Rel (s32 (s32 u 38 n a2) 693 0 (nI (n + 1))) (s32 (s32 v 25 (0 + n) a2) 24 0 (nI (n + 1)))
        exact ⟨hA, hB, hC, hD, hE, hF, hG, hH, hI, hJ, hK, hL, hM, ⟨happ, lawOK_upd hN.2.1 (by omega), lawOK_upd hN.2.2.1 (by omega), lawOK_upd hN.2.2.2 (by omega)⟩, hO, hP, hQ, hR⟩
      · show Rel (s32 (s32 u 42 n a2) 757 0 (nI (n + 1))) (s32 (s32 v 25 (60 + n) a2) 24 1 (nI (n + 1)))
        exact ⟨hA, hB, hC, hD, hE, hF, hG, hH, hI, hJ, hK, hL, hM, ⟨lawOK_upd hN.1 (by omega), happ, lawOK_upd hN.2.2.1 (by omega), lawOK_upd hN.2.2.2 (by omega)⟩, hO, hP, hQ, hR⟩
      · show Rel (s32 (s32 u 46 n a2) 821 0 (nI (n + 1))) (s32 (s32 v 25 (120 + n) a2) 24 2 (nI (n + 1)))
        exact ⟨hA, hB, hC, hD, hE, hF, hG, hH, hI, hJ, hK, hL, hM, ⟨lawOK_upd hN.1 (by omega), lawOK_upd hN.2.1 (by omega), happ, lawOK_upd hN.2.2.2 (by omega)⟩, hO, hP, hQ, hR⟩
      · show Rel (s32 (s32 u 50 n a2) 885 0 (nI (n + 1))) (s32 (s32 v 25 (180 + n) a2) 24 3 (nI (n + 1)))
        exact ⟨hA, hB, hC, hD, hE, hF, hG, hH, hI, hJ, hK, hL, hM, ⟨lawOK_upd hN.1 (by omega), lawOK_upd hN.2.1 (by omega), lawOK_upd hN.2.2.1 (by omega), happ⟩, hO, hP, hQ, hR⟩
    · obtain rfl : n = 60 := by omega
      exact isLaw_b (fun z => absurd p z) (fun _ => in_b 0 255 (fun z => absurd q z) (fun _ => ⟨vp_in_nI hj (by omega), fun _ => ⟨rfl, h⟩, fun d => absurd rfl d⟩))
/-! agreed -/
theorem max_w {a b : Int32} {Q : Int32 → Prop} (h : Q (if a < b then b else a)) : wJ9_max_7cf53 a b Q := by
  unfold wJ9_max_7cf53
  refine ⟨fun c => ?_, fun c => ?_⟩
  · rw [if_pos c] at h; exact h
  · rw [if_neg c] at h; exact h
theorem agr_one {S B : Int32} (hS : -1 ≤ S.toInt) (hB : -1 ≤ B.toInt) (h : S = -1 ∨ B = -1) : (if (0 : Int32) < (if S < B then B else S) then (if S < B then B else S) else 0) = if S = -1 then (if B = -1 then 0 else B) else S := by
  have m1 : (-1 : Int32).toInt = -1 := by decide
  have m0 : (0 : Int32).toInt = 0 := by decide
  have eS : S = -1 ↔ S.toInt = -1 := by rw [← Int32.toInt_inj, m1]
  have eB : B = -1 ↔ B.toInt = -1 := by rw [← Int32.toInt_inj, m1]
  by_cases hs : S = -1
  · rw [if_pos hs]
    by_cases hb : B = -1
    · rw [if_pos hb, hs, hb]; decide
    · rw [if_neg hb]
      have : S < B := by rw [Int32.lt_iff_toInt_lt]; rw [eB] at hb; rw [eS] at hs; omega
      rw [if_pos this]
      by_cases hz : (0 : Int32) < B
      · rw [if_pos hz]
      · rw [if_neg hz, ← Int32.toInt_inj, m0]
        rw [Int32.lt_iff_toInt_lt, m0] at hz
        rw [eB] at hb
        omega
  · rw [if_neg hs]
    have hb : B = -1 := h.resolve_left hs
    have : ¬ S < B := by rw [Int32.lt_iff_toInt_lt]; rw [eB] at hb; rw [eS] at hs; omega
    rw [if_neg this]
    by_cases hz : (0 : Int32) < S
    · rw [if_pos hz]
    · rw [if_neg hz, ← Int32.toInt_inj, m0]
      rw [Int32.lt_iff_toInt_lt, m0] at hz
      rw [eS] at hs
      omega
theorem agr_R {u : Mm} {S B : Int32} {Q : Int32 → Prop} (h : S = -1 ∨ B = -1) (hq : Q (if S = -1 then (if B = -1 then 0 else B) else S)) : wX9_agreed_b42 u Q S B := by
  unfold wX9_agreed_b42 wX9_agreed_b58
  refine ⟨fun c => ⟨fun d => ?_, fun d => ⟨fun _ => ?_, fun e => absurd c e⟩⟩, fun c => ⟨fun e => absurd e c, fun _ => ?_⟩⟩
  · rw [if_pos c, if_pos d] at hq; exact hq
  · rw [if_pos c, if_neg d] at hq; exact hq
  · rw [if_neg c] at hq; exact hq
