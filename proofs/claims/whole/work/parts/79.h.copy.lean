/-! ===== copy ===== -/
abbrev okC (a b : Int32) (n : Nat) : Prop := 0 ≤ a.toInt ∧ 0 ≤ b.toInt ∧ a.toInt + b.toInt ≤ (n : Int)
theorem holds_w {u : Mm} {j n : Nat} (hn : u.1 (966 + 32 * j) 0 = nI n) (n60 : n ≤ 60) (a b : Int32) {Q : Int32 → Prop} (q0 : ¬ okC a b n → Q 0) (q1 : okC a b n → Q 1) : wX5_holds j u a b Q := by
  unfold wX5_holds
  rw [hn]
  have z0 : (0 : Int32).toInt = 0 := rfl
  have nT : (nI n).toInt = (n : Int) := nI_toInt (by omega)
  simp only [Int32.lt_iff_toInt_lt, z0, nT]
  refine ⟨fun c => q0 (fun d => by omega), fun c1 => ⟨fun c => q0 (fun d => by omega), fun c2 => ⟨fun c => q0 (fun d => by omega), fun c3 => ?_⟩⟩⟩
  obtain ⟨x, hx, rfl⟩ := ix_of 61 (a := a) (by omega)
  rw [nI_toInt (by omega)] at c1 c3
  have e : (nI n - nI x).toInt = (n : Int) - x := by rw [pk_sub (by omega), nI_toInt (by omega)]; omega
  rw [e]
  refine ⟨fun c => q0 (fun d => ?_), fun c => q1 ⟨?_, by omega, ?_⟩⟩
  · have := d.2.2; rw [nI_toInt (by omega)] at this; omega
  · rw [nI_toInt (by omega)]; omega
  · rw [nI_toInt (by omega)]; omega
theorem copyR_w {v : Mm} {j3 j4 s d n : Nat} (h3 : j3 < 4) (h4 : j4 < 4) (hs : s + n ≤ 60) (hd : d + n ≤ 60) {Q : Int32 → Mm → Prop} (hq : ∀ w : Mm, (∀ k, k ≠ 29 → k ≠ 30 → w.1 k = v.1 k) → w.2 = v.2 → (∀ k, w.1 29 k = if 60 * j4 + d ≤ k ∧ k < 60 * j4 + d + n then v.1 29 (60 * j3 + s + (k - (60 * j4 + d))) else v.1 29 k) → Q 1 w) : ∃ f, wX9_copy_b120 Q f v (nI j3) (nI s) (nI j4) (nI d) (nI n) (0 : Int32) := by
  refine loopS (fun f i (w : Mm) => wX9_copy_b120 Q f w (nI j3) (nI s) (nI j4) (nI d) (nI n) (nI i)) (fun i w => (∀ k, k ≠ 30 → w.1 k = v.1 k) ∧ w.2 = v.2 ∧ ∀ k, k < i → w.1 30 k = v.1 29 (60 * j3 + s + k)) n (fun f w hI => ?_) (fun f i w hi hI ih => ?_) 0 v (by omega) ⟨fun _ _ => rfl, rfl, fun k hk => absurd hk (by omega)⟩
  · obtain ⟨i1, i2, i3⟩ := hI
    unfold wX9_copy_b120
    refine ⟨fun _ => ?_, fun cc => absurd ((nI_leI (by omega) (by omega)).mpr (Nat.le_refl _)) cc⟩
    refine loopS (fun f i (t : Mm) => wX9_copy_b157 Q f t (nI j4) (nI d) (nI n) (nI i)) (fun i t => (∀ k, k ≠ 29 → t.1 k = w.1 k) ∧ t.2 = w.2 ∧ ∀ k, t.1 29 k = if 60 * j4 + d ≤ k ∧ k < 60 * j4 + d + i then v.1 29 (60 * j3 + s + (k - (60 * j4 + d))) else v.1 29 k) n (fun f t hJ => ?_) (fun f i t hi hJ ih => ?_) 0 w (by omega) ⟨fun _ _ => rfl, rfl, fun k => by rw [if_neg (by omega), i1 29 (by decide)]⟩
    · obtain ⟨j1, j2, j3'⟩ := hJ
      unfold wX9_copy_b157
      exact ⟨fun _ => hq t (fun k k1 k2 => by rw [j1 k k1, i1 k k2]) (by rw [j2, i2]) j3', fun cc => absurd ((nI_leI (by omega) (by omega)).mpr (Nat.le_refl _)) cc⟩
    · obtain ⟨j1, j2, j3'⟩ := hJ
      unfold wX9_copy_b157
      rw [it_R, nI_add, nI_clamp (n := i) (by omega), nI_clamp (n := 60 * j4 + d + i) (by omega)]
      refine ⟨fun cc => absurd ((nI_leI (by omega) (by omega)).mp cc) (by omega), fun _ => ⟨vp_in_nI (by omega) (by omega), vp_in_nI (by omega) (by omega), fun t1 et y ey => ?_⟩⟩
      rw [ey, nI_1]
      refine ih t1 ⟨fun k hk => by rw [et, s32_n _ _ _ hk, j1 k hk], by rw [et]; exact j2, fun k => ?_⟩
      rw [et, s32_k]
      by_cases e : k = 60 * j4 + d + i
      · rw [e, upd_s, if_pos (by omega), j1 30 (by decide), i3 i hi]
        exact congrArg (v.1 29) (by omega)
      · rw [upd_n _ _ e, j3' k]
        by_cases g : 60 * j4 + d ≤ k ∧ k < 60 * j4 + d + i
        · rw [if_pos g, if_pos (by omega)]
        · rw [if_neg g, if_neg (by omega)]
  · obtain ⟨i1, i2, i3⟩ := hI
    unfold wX9_copy_b120
    rw [it_R, nI_add, nI_clamp (n := i) (by omega), nI_clamp (n := 60 * j3 + s + i) (by omega)]
    refine ⟨fun cc => absurd ((nI_leI (by omega) (by omega)).mp cc) (by omega), fun _ => ⟨vp_in_nI (by omega) (by omega), vp_in_nI (by omega) (by omega), fun w1 ew y ey => ?_⟩⟩
    rw [ey, nI_1]
    refine ih w1 ⟨fun k hk => by rw [ew, s32_n _ _ _ hk, i1 k hk], by rw [ew]; exact i2, fun k hk => ?_⟩
    rw [ew, s32_k]
    by_cases e : k = i
    · subst e; rw [upd_s, i1 29 (by decide)]
    · rw [upd_n _ _ e, i3 k (by omega)]
theorem bd32 (x : Int32) : -2147483648 ≤ x.toInt ∧ x.toInt < 2147483648 := by
  have h1 := Int32.le_toInt x
  have h2 := Int32.toInt_lt x
  omega
theorem add64 (a b : Int32) : (a.toInt64 + b.toInt64).toInt = a.toInt + b.toInt := by
  have h1 := bd32 a
  have h2 := bd32 b
  rw [Int64.toInt_add, i64_T, i64_T, Int.bmod_eq_of_le (by omega) (by omega)]
theorem st_copy {u v : Mm} (h : Rel u v) (a1 a2 a3 a4 a5 : Int32) : wX8_copy u a1 a2 a3 a4 a5 (fun (r : Int32) (u1 : Mm) => wX9_copy v a1 a2 a3 a4 a5 (fun (r2 : Int32) (v1 : Mm) => r = r2 ∧ Rel u1 v1)) := by
  have hO := rel_rO h
  unfold wX8_copy
  refine below_b 4 (fun n => ?_) (fun p1 => below_b 4 (fun n => ?_) (fun p3 => ?_))
  · unfold wX9_copy; exact isSheet_b (fun _ => ⟨rfl, h⟩) (fun z => absurd z n)
  · unfold wX9_copy; exact isSheet_b (fun z => absurd p1 z) (fun _ => isSheet_b (fun _ => ⟨rfl, h⟩) (fun z => absurd z n))
  · obtain ⟨j, hj, rfl⟩ := ix_of 4 p1
    obtain ⟨i, hi, rfl⟩ := ix_of 4 p3
    have vj : vp_in (nI j) 4 := vp_in_nI hj (by omega)
    have vi : vp_in (nI i) 4 := vp_in_nI hi (by omega)
    refine ⟨vj, fun j3 h3 e3 => ⟨vi, fun j4 h4 e4 => ?_⟩⟩
    obtain rfl := nI_j (by omega) (by omega) e3
    obtain rfl := nI_j (by omega) (by omega) e4
    have hlj := lost_iff hO hj
    have hli := lost_iff hO hi
    obtain ⟨y1, y2, y3, y4, y5, y6, y7⟩ := rO_at hO hj
    obtain ⟨z1, z2, z3, z4, z5, z6, z7⟩ := rO_at hO hi
    obtain ⟨n, hn⟩ : ∃ n, n = (v.1 28 j3).toNatClampNeg := ⟨_, rfl⟩
    obtain ⟨m, hm⟩ : ∃ m, m = (v.1 28 j4).toNatClampNeg := ⟨_, rfl⟩
    rw [← hn] at y5 y6
    rw [← hm] at z5 z6
    -- the reference, past its first checks
    have ref : ∀ {R : Int32 → Mm → Prop}, (v.1 26 j3 = 0 → R (-11) (s32 v 142 0 1)) → (¬ v.1 26 j3 = 0 → v.1 26 j4 = 0 → R (-11) (s32 v 142 0 1)) → (¬ v.1 26 j3 = 0 → ¬ v.1 26 j4 = 0 → ¬ v.1 27 j3 = v.1 27 j4 → R (-14) (s32 v 142 0 4)) → (¬ v.1 26 j3 = 0 → ¬ v.1 26 j4 = 0 → v.1 27 j3 = v.1 27 j4 → ¬ (okC a2 a5 n ∧ okC a4 a5 m) → R (-12) (s32 v 142 0 2)) → (¬ v.1 26 j3 = 0 → ¬ v.1 26 j4 = 0 → v.1 27 j3 = v.1 27 j4 → okC a2 a5 n → okC a4 a5 m → ∃ f, wX9_copy_b120 R f v (nI j3) a2 (nI j4) a4 a5 (0 : Int32)) → wX9_copy v (nI j3) a2 (nI j4) a4 a5 R := by
      intro R r1 r2 r3 r4 r5
      unfold wX9_copy
      refine isSheet_b (fun z => absurd p1 z) (fun _ => isSheet_b (fun z => absurd p3 z) (fun _ => ?_))
      have z0 : (0 : Int32).toInt = 0 := rfl
      have e1 : ((v.1 28 j3).toInt64 < a2.toInt64 + a5.toInt64) ↔ (n : Int) < a2.toInt + a5.toInt := by
        rw [Int64.lt_iff_toInt_lt, add64, i64_T, y6, nI_toInt (by omega)]
      have e2 : (a4.toInt64 + a5.toInt64 ≤ (v.1 28 j4).toInt64) ↔ a4.toInt + a5.toInt ≤ (m : Int) := by
        rw [Int64.le_iff_toInt_le, add64, i64_T, z6, nI_toInt (by omega)]
      rw [nI_clamp (n := j3) (by omega), nI_clamp (n := j4) (by omega), e1, e2]
      simp only [Int32.lt_iff_toInt_lt, z0]
      refine ⟨vj, fun c => meets_w (r1 c), fun c1 => ⟨vi, fun c => meets_w (r2 c1 c), fun c2 => ⟨vj, vi, fun c3 => ?_, fun c3 => meets_w (r3 c1 c2 c3)⟩⟩⟩
      have bad := r4 c1 c2 c3
      have ok := r5 c1 c2 c3
      refine ⟨fun d => meets_w (bad (fun g => by have := g.1.1; omega)), fun d1 => ⟨fun d => meets_w (bad (fun g => by have := g.2.1; omega)), fun d2 => ⟨fun d => meets_w (bad (fun g => by have := g.1.2.1; omega)), fun d3 => ⟨vj, fun d => meets_w (bad (fun g => by have := g.1.2.2; omega)), fun d4 => ⟨vi, fun d => ok ⟨by omega, by omega, by omega⟩ ⟨by omega, by omega, d⟩, fun d => meets_w (bad (fun g => d g.2.2.2))⟩⟩⟩⟩⟩
    refine ⟨fun c1 => ⟨fun c2 => ⟨fun c3 => ?_, fun c3 => found_w ?_⟩, fun c2 => found_w ?_⟩, fun c1 => found_w ?_⟩
    · have c3 : v.1 27 j3 = v.1 27 j4 := by rw [← y2, ← z2, c3]
      have bad : ¬ (okC a2 a5 n ∧ okC a4 a5 m) → wX8_found u (2 : Int32) (fun (r8 : Int32) (u9 : Mm) => wX9_copy v (nI j3) a2 (nI j4) a4 a5 (fun (r2 : Int32) (v1 : Mm) => r8 = r2 ∧ Rel u9 v1)) := fun g => found_w (ref (fun y => absurd y (hlj.mp c1)) (fun _ y => absurd y (hli.mp c2)) (fun _ _ y => absurd c3 y) (fun _ _ _ _ => ⟨rfl, rel_find h 2⟩) (fun _ _ _ y1 y2 => absurd ⟨y1, y2⟩ g))
      refine holds_w (y4.trans y6) y5 a2 a5 (fun g => br0 (bad (fun d => g d.1))) (fun g1 => br1 (holds_w (z4.trans z6) z5 a4 a5 (fun g => br0 (bad (fun d => g d.2))) (fun g2 => br1 ?_)))
      obtain ⟨s, hs, rfl⟩ := ix_of 61 (a := a2) (by omega)
      obtain ⟨d, hd, rfl⟩ := ix_of 61 (a := a4) (by omega)
      obtain ⟨k, hk, rfl⟩ := ix_of 61 (a := a5) (by omega)
      have b1 := g1.2.2
      have b2 := g2.2.2
      rw [nI_toInt (by omega), nI_toInt (by omega)] at b1 b2
      have ns : ∀ x, x < 61 → ¬ nI x < 0 := fun x hx e => by
        rw [Int32.lt_iff_toInt_lt, nI_toInt (by omega)] at e
        have z0 : (0 : Int32).toInt = 0 := rfl
        omega
      rw [nI_clamp (n := s) (by omega), nI_clamp (n := d) (by omega), nI_clamp (n := k) (by omega)]
      refine ⟨ns s hs, ns d hd, ns k hk, by omega, by omega, fun u1 e1 => ref (fun y => absurd y (hlj.mp c1)) (fun _ y => absurd y (hli.mp c2)) (fun _ _ y => absurd c3 y) (fun _ _ _ y => absurd ⟨g1, g2⟩ y) (fun _ _ _ _ _ => copyR_w hj hi (by omega) (by omega) (fun w k1 k2 k3 => ⟨rfl, ?_⟩))⟩
      refine rel_O h (by rw [e1, qU_r32 _ _ (kUo_l hi).2.2.2]) ?_ (rO_of (fun t ht => ?_))
      · unfold qV
        refine Prod.ext ?_ k2
        funext q
        dsimp only
        by_cases g : kVo.contains q = true
        · rw [if_pos g, if_pos g]
        · rw [if_neg g, if_neg g, k1 q (fun e => g (by rw [e]; decide)) (fun e => g (by rw [e]; decide))]
      · obtain ⟨w1, w2, w3, w4, w5, w6, w7⟩ := rO_at hO ht
        rw [e1, r32_n _ _ (show 965 + 32 * t ≠ 55 + 2 * j4 by omega), r32_n _ _ (show 966 + 32 * t ≠ 55 + 2 * j4 by omega), r32_n _ _ (show 967 + 32 * t ≠ 55 + 2 * j4 by omega), k1 26 (by decide) (by decide), k1 27 (by decide) (by decide), k1 28 (by decide) (by decide)]
        refine ⟨w1, w2, w3, w4, w5, w6, fun x hx => ?_⟩
        rw [k3]
        by_cases e : t = j4
        · subst e
          rw [r32_k]
          unfold va_cpy
          by_cases g : d ≤ x ∧ x < d + k
          · rw [if_pos g, if_pos (by omega), y7 (s + (x - d)) (by omega)]
            exact congrArg (v.1 29) (by omega)
          · rw [if_neg g, if_neg (by omega)]; exact w7 x hx
        · rw [r32_n _ _ (show 55 + 2 * t ≠ 55 + 2 * j4 by omega), if_neg (by omega)]; exact w7 x hx
    · exact ref (fun y => absurd y (hlj.mp c1)) (fun _ y => absurd y (hli.mp c2)) (fun _ _ _ => ⟨rfl, rel_find h 4⟩) (fun _ _ y _ => absurd (by rw [y2, z2]; exact y) c3) (fun _ _ y _ _ => absurd (by rw [y2, z2]; exact y) c3)
    · exact ref (fun y => absurd y (hlj.mp c1)) (fun _ _ => ⟨rfl, rel_find h 1⟩) (fun _ y _ => absurd (hli.mpr y) c2) (fun _ y _ _ => absurd (hli.mpr y) c2) (fun _ y _ _ _ => absurd (hli.mpr y) c2)
    · exact ref (fun _ => ⟨rfl, rel_find h 1⟩) (fun y _ => absurd (hlj.mpr y) c1) (fun y _ _ => absurd (hlj.mpr y) c1) (fun y _ _ _ => absurd (hlj.mpr y) c1) (fun y _ _ _ _ => absurd (hlj.mpr y) c1)
