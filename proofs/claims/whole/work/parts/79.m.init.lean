/-! ===== at the start ===== -/
theorem rel_init0 {v : Mm} (h2 : v.2 = ru0.2) (h1 : ∀ k, k ≠ 1 → k ≠ 9 → k ≠ 18 → k ≠ 19 → k ≠ 20 → v.1 k = ru0.1 k) (a1 : ∀ i, i < 10 → v.1 1 i = 1) (a9 : ∀ i, i < 6 → v.1 9 i = if i < 3 then 1 else 0) (a18 : ∀ i, i < 48 → v.1 18 i = 100) (a19 : ∀ i, i < 192 → v.1 19 i = -1) (a20 : ∀ i, i < 2 → v.1 20 i = 1) : Rel cu0 v := by
  have z : ∀ k, k ≠ 1 → k ≠ 9 → k ≠ 18 → k ≠ 19 → k ≠ 20 → k ≠ 106 → ∀ i, v.1 k i = 0 := fun k b1 b2 b3 b4 b5 b6 i => by
    rw [h1 k b1 b2 b3 b4 b5]
    show (if k = 106 then (fun _ => (9 : Int32)) else (fun _ => 0)) i = 0
    rw [if_neg b6]
  have e101 : v.1 101 0 = 0 := z 101 (by decide) (by decide) (by decide) (by decide) (by decide) (by decide) 0
  have n0 : (v.1 101 0).toNatClampNeg = 0 := by rw [e101]; rfl
  have e106 : v.1 106 0 = 9 := by rw [h1 106 (by decide) (by decide) (by decide) (by decide) (by decide)]; rfl
  refine ⟨fun i hi => ?_, ⟨?_, ?_, ?_⟩, fun k hk => ?_, ⟨fun c hc => ?_, fun k hk => ?_⟩, ⟨?_, 9, by omega, ?_⟩, fun c hc => ?_, fun k hk => ?_, ⟨?_, Or.inl ?_⟩, fun k hk => ?_, fun k hk => ?_, fun k hk => ?_, fun k hk => ?_, fun k hk => ?_, ⟨?_, ?_, ?_, ?_⟩, ⟨?_, ?_, ?_, ?_⟩, ?_, fun lp y _ _ d => ?_, fun d => ?_⟩
  · rw [a1 i hi]
    refine ⟨?_, by decide, by decide⟩
    show (fillc 10 (1 : Int32)) i = 1
    unfold fillc; rw [if_pos hi]
  · rw [e101]; rfl
  · rw [n0]; omega
  · rw [n0, e101]; rfl
  · rw [n0] at hk; omega
  · rw [n0]
    show (fillc 720 (-1 : Int32)) c = -1
    unfold fillc; rw [if_pos hc]
  · rw [n0] at hk; omega
  · rw [e106]; rfl
  · rw [e106]; rfl
  · rw [a9 c hc]
    rcases (show c = 0 ∨ c = 1 ∨ c = 2 ∨ c = 3 ∨ c = 4 ∨ c = 5 by omega) with rfl | rfl | rfl | rfl | rfl | rfl <;> decide
  · rw [z 14 (by decide) (by decide) (by decide) (by decide) (by decide) (by decide) k]; exact ⟨rfl, Or.inl rfl⟩
  · rw [z 118 (by decide) (by decide) (by decide) (by decide) (by decide) (by decide) 0]; rfl
  · exact z 118 (by decide) (by decide) (by decide) (by decide) (by decide) (by decide) 0
  · rw [a18 k hk]
    refine ⟨?_, by decide, by decide⟩
    show (fillc 48 (100 : Int32)) k = 100
    unfold fillc; rw [if_pos hk]
  · rw [a19 k hk]
    refine ⟨?_, by decide, by decide⟩
    show (fillc 192 (-1 : Int32)) k = -1
    unfold fillc; rw [if_pos hk]
  · rw [a20 k hk]
    refine ⟨?_, by decide, by decide⟩
    show (fillc 2 (1 : Int32)) k = 1
    unfold fillc; rw [if_pos hk]
  · rw [h2]; rfl
  · rw [z 22 (by decide) (by decide) (by decide) (by decide) (by decide) (by decide) k, z 23 (by decide) (by decide) (by decide) (by decide) (by decide) (by decide) k]; exact ⟨rfl, rfl, Or.inl rfl⟩
  all_goals first
    | (have e24 := fun i => z 24 (by decide) (by decide) (by decide) (by decide) (by decide) (by decide) i
       unfold lawOK
       rw [e24]
       exact ⟨rfl, by decide, rfl, fun i hi => absurd hi (by rw [show (0 : Int32).toNatClampNeg = 0 from rfl]; omega)⟩)
    | (have e26 := fun i => z 26 (by decide) (by decide) (by decide) (by decide) (by decide) (by decide) i
       have e27 := fun i => z 27 (by decide) (by decide) (by decide) (by decide) (by decide) (by decide) i
       have e28 := fun i => z 28 (by decide) (by decide) (by decide) (by decide) (by decide) (by decide) i
       have e29 := fun i => z 29 (by decide) (by decide) (by decide) (by decide) (by decide) (by decide) i
       unfold shOK
       rw [e26, e27, e28]
       exact ⟨Or.inr ⟨rfl, rfl⟩, rfl, Or.inl rfl, rfl, by decide, rfl, fun i hi => by rw [e29]; rfl⟩)
    | skip
  · rw [show rP cu0 v = (cu0.1 107 0 = v.1 142 0) from rfl, z 142 (by decide) (by decide) (by decide) (by decide) (by decide) (by decide) 0]; rfl
  · exact absurd rfl d
  · exact absurd (z 107 (by decide) (by decide) (by decide) (by decide) (by decide) (by decide) 0) d
theorem rel_init : wX9_init_b253 (fun v => Rel cu0 v) ru0 := by
  unfold wX9_init_b253
  refine loopS (fun f i s => wX9_init_b255 (fun v => Rel cu0 v) f s (nI i)) (fun i s => s.2 = ru0.2 ∧ (∀ k, k ≠ 1 → s.1 k = ru0.1 k) ∧ ∀ m, m < i → s.1 1 m = 1) 10 (fun f s hI => ?_) (fun f i s hi hI ih => ?_) 0 ru0 (by omega) ⟨rfl, fun _ _ => rfl, fun m hm => absurd hm (by omega)⟩
  · obtain ⟨i1, i2, i3⟩ := hI
    unfold wX9_init_b255
    refine ⟨fun _ => ?_, fun cc => absurd ((nI_leI (a := 10) (b := 10) (by omega) (by omega)).mpr (Nat.le_refl _)) cc⟩
    refine loopS (fun f i t => wX9_init_b276 (fun v => Rel cu0 v) f t (nI i)) (fun i t => t.2 = s.2 ∧ (∀ k, k ≠ 9 → t.1 k = s.1 k) ∧ ∀ m, m < i → t.1 9 m = if m < 3 then 1 else 0) 6 (fun f t hJ => ?_) (fun f i t hi hJ ih => ?_) 0 s (by omega) ⟨rfl, fun _ _ => rfl, fun m hm => absurd hm (by omega)⟩
    · obtain ⟨j1, j2, j3⟩ := hJ
      unfold wX9_init_b276
      refine ⟨fun _ => ?_, fun cc => absurd ((nI_leI (a := 6) (b := 6) (by omega) (by omega)).mpr (Nat.le_refl _)) cc⟩
      refine loopS (fun f i r => wX9_init_b306 (fun v => Rel cu0 v) f r (nI i)) (fun i r => r.2 = t.2 ∧ (∀ k, k ≠ 18 → r.1 k = t.1 k) ∧ ∀ m, m < i → r.1 18 m = 100) 48 (fun f r hK => ?_) (fun f i r hi hK ih => ?_) 0 t (by omega) ⟨rfl, fun _ _ => rfl, fun m hm => absurd hm (by omega)⟩
      · obtain ⟨k1, k2, k3⟩ := hK
        unfold wX9_init_b306
        refine ⟨fun _ => ?_, fun cc => absurd ((nI_leI (a := 48) (b := 48) (by omega) (by omega)).mpr (Nat.le_refl _)) cc⟩
        refine loopS (fun f i q => wX9_init_b328 (fun v => Rel cu0 v) f q (nI i)) (fun i q => q.2 = r.2 ∧ (∀ k, k ≠ 19 → q.1 k = r.1 k) ∧ ∀ m, m < i → q.1 19 m = -1) 192 (fun f q hL => ?_) (fun f i q hi hL ih => ?_) 0 r (by omega) ⟨rfl, fun _ _ => rfl, fun m hm => absurd hm (by omega)⟩
        · obtain ⟨l1, l2, l3⟩ := hL
          unfold wX9_init_b328
          refine ⟨fun _ => ⟨by unfold vp_in; decide, fun u1 e1 => ⟨by unfold vp_in; decide, fun u2 e2 => ?_⟩⟩, fun cc => absurd ((nI_leI (a := 192) (b := 192) (by omega) (by omega)).mpr (Nat.le_refl _)) cc⟩
          have g : ∀ k, k ≠ 20 → u2.1 k = q.1 k := fun k hk => by rw [e2, s32_n _ _ _ hk, e1, s32_n _ _ _ hk]
          refine rel_init0 ?_ (fun k b1 b2 b3 b4 b5 => ?_) (fun i hi => ?_) (fun i hi => ?_) (fun i hi => ?_) (fun i hi => ?_) (fun i hi => ?_)
          · rw [e2, e1, s32_2, s32_2, l1, k1, j1, i1]
          · rw [g k b5, l2 k b4, k2 k b3, j2 k b2, i2 k b1]
          · rw [g 1 (by decide), l2 1 (by decide), k2 1 (by decide), j2 1 (by decide), i3 i hi]
          · rw [g 9 (by decide), l2 9 (by decide), k2 9 (by decide), j3 i hi]
          · rw [g 18 (by decide), l2 18 (by decide), k3 i hi]
          · rw [g 19 (by decide), l3 i hi]
          · rw [e2, s32_k, e1, s32_k]
            rcases (show i = 0 ∨ i = 1 by omega) with rfl | rfl
            · rw [upd_n _ _ (by decide), show (0 : Int32).toNatClampNeg = 0 from rfl, upd_s]
            · rw [show (1 : Int32).toNatClampNeg = 1 from rfl, upd_s]
        · obtain ⟨l1, l2, l3⟩ := hL
          unfold wX9_init_b328
          rw [nI_clamp (n := i) (by omega)]
          refine ⟨fun cc => absurd ((nI_leI (a := 192) (b := i) (by omega) (by omega)).mp cc) (by omega), fun _ => ⟨vp_in_nI hi (by omega), fun u1 e1 y ey => ?_⟩⟩
          rw [ey, nI_1]
          refine ih u1 ⟨by rw [e1]; exact l1, fun k hk => by rw [e1, s32_n _ _ _ hk, l2 k hk], fun m hm => ?_⟩
          rw [e1, s32_k]
          by_cases e : m = i
          · subst e; rw [upd_s]
          · rw [upd_n _ _ e, l3 m (by omega)]
      · obtain ⟨k1, k2, k3⟩ := hK
        unfold wX9_init_b306
        rw [nI_clamp (n := i) (by omega)]
        refine ⟨fun cc => absurd ((nI_leI (a := 48) (b := i) (by omega) (by omega)).mp cc) (by omega), fun _ => ⟨vp_in_nI hi (by omega), fun u1 e1 y ey => ?_⟩⟩
        rw [ey, nI_1]
        refine ih u1 ⟨by rw [e1]; exact k1, fun k hk => by rw [e1, s32_n _ _ _ hk, k2 k hk], fun m hm => ?_⟩
        rw [e1, s32_k]
        by_cases e : m = i
        · subst e; rw [upd_s]
        · rw [upd_n _ _ e, k3 m (by omega)]
    · obtain ⟨j1, j2, j3⟩ := hJ
      have step : ∀ (u1 : Mm) (x y : Int32), y = nI i + 1 → x = (if i < 3 then 1 else 0) → u1 = s32 t 9 i x → wX9_init_b276 (fun v => Rel cu0 v) f u1 y := fun u1 x y ey ex e1 => by
        rw [ey, nI_1]
        refine ih u1 ⟨by rw [e1]; exact j1, fun k hk => by rw [e1, s32_n _ _ _ hk, j2 k hk], fun m hm => ?_⟩
        rw [e1, s32_k]
        by_cases e : m = i
        · subst e; rw [upd_s, ex]
        · rw [upd_n _ _ e, j3 m (by omega)]
      unfold wX9_init_b276
      rw [nI_clamp (n := i) (by omega)]
      refine ⟨fun cc => absurd ((nI_leI (a := 6) (b := i) (by omega) (by omega)).mp cc) (by omega), fun _ => ⟨fun c => ⟨vp_in_nI hi (by omega), fun u1 e1 y ey => step u1 _ y ey ?_ e1⟩, fun c => ⟨vp_in_nI hi (by omega), fun u1 e1 y ey => step u1 _ y ey ?_ e1⟩⟩⟩
      · rw [show (3 : Int32) = nI 3 from rfl, nI_leI (by omega) (by omega)] at c
        rw [if_neg (by omega)]
      · rw [show (3 : Int32) = nI 3 from rfl, nI_leI (by omega) (by omega)] at c
        rw [if_pos (by omega)]
  · obtain ⟨i1, i2, i3⟩ := hI
    unfold wX9_init_b255
    rw [nI_clamp (n := i) (by omega)]
    refine ⟨fun cc => absurd ((nI_leI (a := 10) (b := i) (by omega) (by omega)).mp cc) (by omega), fun _ => ⟨vp_in_nI hi (by omega), fun u1 e1 y ey => ?_⟩⟩
    rw [ey, nI_1]
    refine ih u1 ⟨by rw [e1]; exact i1, fun k hk => by rw [e1, s32_n _ _ _ hk, i2 k hk], fun m hm => ?_⟩
    rw [e1, s32_k]
    by_cases e : m = i
    · subst e; rw [upd_s]
    · rw [upd_n _ _ e, i3 m (by omega)]
