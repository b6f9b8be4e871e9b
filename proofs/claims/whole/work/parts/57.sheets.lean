theorem lost_iff {u v : Mm} (h : rO u v) {j : Nat} (hj : j < 4) : (u.1 (967 + 32 * j) 0 = 0 ↔ ¬ v.1 26 j = 0) := by
  rcases (rO_at h hj).1 with ⟨a, b⟩ | ⟨a, b⟩
  · rw [a, b]; decide
  · rw [a, b]; decide
theorem st_lose {u v : Mm} (h : Rel u v) (a1 : Int32) : wX8_lose u a1 (fun (r : Int32) (u1 : Mm) => wX9_lose v a1 (fun (r2 : Int32) (v1 : Mm) => r = r2 ∧ Rel u1 v1)) := by
  unfold wX8_lose
  refine below_b 4 (fun n => ?_) (fun p => ?_)
  · unfold wX9_lose; exact isSheet_b (fun _ => ⟨rfl, h⟩) (fun z => absurd z n)
  · obtain ⟨j, hj, rfl⟩ := ix_of 4 p
    have hO : rO u v := h.2.2.2.2.2.2.2.2.2.2.2.2.2.2.1
    have hl := lost_iff hO hj
    refine ⟨vp_in_nI hj (by omega), fun j2 h2 e2 => ?_⟩
    obtain rfl := nI_j (by omega) (by omega) e2
    unfold wX9_lose
    rw [nI_clamp (by omega)]
    refine ⟨fun c => ⟨vp_in_nI hj (by omega), fun j3 h3 e3 u4 e4 => ⟨vp_in_nI hj (by omega), fun j5 h5 e5 => ?_⟩⟩, fun c => found_w ?_⟩
    · obtain rfl := nI_j (by omega) (by omega) e3
      obtain rfl := nI_j (by omega) (by omega) e5
      refine isSheet_b (fun z => absurd p z) (fun _ => ⟨vp_in_nI hj (by omega), fun d => absurd d (hl.mp c), fun _ => ⟨vp_in_nI hj (by omega), fun v2 f2 => ⟨vp_in_nI hj (by omega), ?_⟩⟩⟩)
      rw [nar0] at f2
      subst e4 f2
      refine ⟨?_, rel_O h (qU_s32 _ _ _ (kUo_l hj).1) (qV_s32 _ _ _ (by decide)) (rO_of (fun k hk => ?_))⟩
      · rw [s32_n _ _ _ (by omega), s32_n _ _ _ (by decide)]
        exact (rO_at hO hj).2.2.2.1
      · obtain ⟨z1, z2, z3, z4, z5, z6, z7⟩ := rO_at hO hk
        rw [s32_n u (k := 967 + 32 * j5) (q := 965 + 32 * k) _ _ (by omega), s32_n u (k := 967 + 32 * j5) (q := 966 + 32 * k) _ _ (by omega), s32_n u (k := 967 + 32 * j5) (q := 55 + 2 * k) _ _ (by omega), s32_k, s32_n v (k := 26) (q := 27) _ _ (by decide), s32_n v (k := 26) (q := 28) _ _ (by decide), s32_n v (k := 26) (q := 29) _ _ (by decide)]
        refine ⟨?_, z2, z3, z4, z5, z6, z7⟩
        by_cases hkj : k = j5
        · subst hkj; rw [s32_k, upd_s, upd_s]; exact Or.inr ⟨rfl, rfl⟩
        · rw [s32_n u (k := 967 + 32 * j5) (q := 967 + 32 * k) _ _ (by omega), upd_n _ _ hkj]; exact z1
    · exact isSheet_b (fun z => absurd p z) (fun _ => ⟨vp_in_nI hj (by omega), fun _ => meets_w ⟨rfl, rel_find h 1⟩, fun d => absurd (hl.mpr d) c⟩)
theorem it_R (j i : Nat) : ((60 : Int32) * nI j) + nI i = nI (60 * j + i) := by
  simp only [show (60 : Int32) = nI 60 from rfl, pk_mul, nI_add]
/-- the item's refusal, on both sides: found k, or fine -/
theorem item_C {u v : Mm} (h : Rel u v) {j : Nat} (hj : j < 4) (a2 a3 : Int32) (hf : 0 ≤ a2.toInt ∧ a2.toInt < 3) {Q : Int32 → Mm → Prop} (hbad : ∀ k : Int32, (k = 1 ∧ v.1 26 j = 0) ∨ (k = 3 ∧ ¬ v.1 26 j = 0 ∧ ¬ v.1 27 j = a2) ∨ (k = 2 ∧ ¬ v.1 26 j = 0 ∧ v.1 27 j = a2 ∧ ¬ (0 ≤ a3.toInt ∧ a3.toInt < (v.1 28 j).toInt)) → Q (-10 - k) (s32 u 107 0 k)) (hok : ¬ v.1 26 j = 0 → v.1 27 j = a2 → (0 ≤ a3.toInt ∧ a3.toInt < (v.1 28 j).toInt) → Q 0 u) : wX8_refusalOfItem u (nI j) a2 a3 Q := by
  have hO : rO u v := h.2.2.2.2.2.2.2.2.2.2.2.2.2.2.1
  have hl := lost_iff hO hj
  obtain ⟨z1, z2, z3, z4, z5, z6, z7⟩ := rO_at hO hj
  unfold wX8_refusalOfItem
  refine below_b 4 (fun n => absurd (ix_in (N := 4) hj) n) (fun p => below_b 3 (fun n => absurd hf n) (fun _ => ⟨vp_in_nI hj (by omega), fun j3 h3 e3 => ?_⟩))
  obtain rfl := nI_j (by omega) (by omega) e3
  refine ⟨fun c => ⟨vp_in_nI hj (by omega), fun j4 h4 e4 => ?_⟩, fun c => found_w (hbad 1 (Or.inl ⟨rfl, ?_⟩))⟩
  · obtain rfl := nI_j (by omega) (by omega) e4
    refine ⟨fun d => ⟨vp_in_nI hj (by omega), fun j5 h5 e5 => ?_⟩, fun d => found_w (hbad 3 (Or.inr (Or.inl ⟨rfl, hl.mp c, fun e => d (z2.trans e)⟩)))⟩
    obtain rfl := nI_j (by omega) (by omega) e5
    refine below_w (fun n => br0 (found_w (hbad 2 (Or.inr (Or.inr ⟨rfl, hl.mp c, z2.symm.trans d, ?_⟩))))) (fun q => br1 (hok (hl.mp c) (z2.symm.trans d) ?_))
    · rw [z4] at n; exact n
    · rw [z4] at q; exact q
  · rcases Classical.em (v.1 26 j3 = 0) with e | e
    · exact e
    · exact absurd (hl.mpr e) c
theorem lacks_w {v : Mm} {j : Nat} (hj : j < 4) (a2 a3 : Int32) {n : Nat} (hn : v.1 28 j = nI n) (hn60 : n ≤ 60) {Q : Int32 → Prop} (h1 : v.1 26 j = 0 → Q 1) (h3 : ¬ v.1 26 j = 0 → ¬ v.1 27 j = a2 → Q 3) (h2 : ¬ v.1 26 j = 0 → v.1 27 j = a2 → ¬ (0 ≤ a3.toInt ∧ a3.toInt < (n : Int)) → Q 2) (h0 : ¬ v.1 26 j = 0 → v.1 27 j = a2 → (0 ≤ a3.toInt ∧ a3.toInt < (n : Int)) → Q 0) : wX9_lacks v (nI j) a2 a3 Q := by
  unfold wX9_lacks
  rw [nI_clamp (by omega), hn]
  have hs : (nI n - (1 : Int32)).toInt = (n : Int) - 1 := by
    rw [show (1 : Int32) = nI 1 from rfl, pk_sub_toInt (by omega) (by omega)]; rfl
  refine ⟨vp_in_nI hj (by omega), fun c => h1 c, fun c => ⟨vp_in_nI hj (by omega), fun d => ⟨vp_in_nI hj (by omega), in_w (fun z => br0 (h2 c d (fun y => z ?_))) (fun z => br1 (h0 c d ?_))⟩, fun d => h3 c d⟩⟩
  · rw [i64_T, hs]; exact ⟨y.1, by omega⟩
  · rw [i64_T, hs] at z; exact ⟨z.1, by omega⟩
theorem st_put {u v : Mm} (h : Rel u v) (a1 a2 a3 a4 : Int32) : wX8_put u a1 a2 a3 a4 (fun (r : Int32) (u1 : Mm) => wX9_put v a1 a2 a3 a4 (fun (r2 : Int32) (v1 : Mm) => r = r2 ∧ Rel u1 v1)) := by
  have hO : rO u v := h.2.2.2.2.2.2.2.2.2.2.2.2.2.2.1
  unfold wX8_put
  by_cases p : 0 ≤ a1.toInt ∧ a1.toInt < 4
  case neg =>
    unfold wX8_refusalOfItem
    refine below_b 4 (fun n => ?_) (fun z => absurd z p)
    refine ⟨fun c => absurd c (by decide), fun _ => ?_⟩
    unfold wX9_put; exact isSheet_b (fun _ => ⟨rfl, h⟩) (fun z => absurd z p)
  case pos =>
    by_cases q : 0 ≤ a2.toInt ∧ a2.toInt < 3
    case neg =>
      unfold wX8_refusalOfItem
      refine below_b 4 (fun n => absurd p n) (fun _ => below_b 3 (fun n => ?_) (fun z => absurd z q))
      refine ⟨fun c => absurd c (by decide), fun _ => ?_⟩
      unfold wX9_put; exact isSheet_b (fun z => absurd p z) (fun _ => in_b 0 2 (fun _ => ⟨rfl, h⟩) (fun z => absurd z (by omega)))
    case pos =>
      obtain ⟨j, hj, rfl⟩ := ix_of 4 p
      obtain ⟨z1, z2, z3, z4, z5, z6, z7⟩ := rO_at hO hj
      obtain ⟨n, hn⟩ : ∃ n, n = (v.1 28 j).toNatClampNeg := ⟨_, rfl⟩
      rw [← hn] at z5 z6
      have nT : (v.1 28 j).toInt = (n : Int) := by rw [z6]; exact nI_toInt (by omega)
      refine item_C h hj a2 a3 q (fun k hk => ⟨fun c => ?_, fun _ => ?_⟩) (fun c d e => br0 ⟨vp_in_nI hj (by omega), fun j3 h3 e3 => ?_⟩)
      · rcases hk with ⟨rfl, -⟩ | ⟨rfl, -⟩ | ⟨rfl, -⟩ <;> exact absurd c (by decide)
      · unfold wX9_put
        refine isSheet_b (fun z => absurd p z) (fun _ => in_b 0 2 (fun z => absurd q (by omega)) (fun _ => lacks_w hj a2 a3 z6 z5 (fun c => ?_) (fun c d => ?_) (fun c d e => ?_) (fun c d e => ?_)))
        · rcases hk with ⟨rfl, -⟩ | ⟨-, y, -⟩ | ⟨-, y, -⟩
          · exact ⟨fun y => absurd y (by decide), fun _ => meets_w ⟨rfl, rel_find h 1⟩⟩
          · exact absurd c y
          · exact absurd c y
        · rcases hk with ⟨-, y⟩ | ⟨rfl, -⟩ | ⟨-, -, y, -⟩
          · exact absurd y c
          · exact ⟨fun y => absurd y (by decide), fun _ => meets_w ⟨rfl, rel_find h 3⟩⟩
          · exact absurd y d
        · rcases hk with ⟨-, y⟩ | ⟨-, -, y⟩ | ⟨rfl, -⟩
          · exact absurd y c
          · exact absurd d y
          · exact ⟨fun y => absurd y (by decide), fun _ => meets_w ⟨rfl, rel_find h 2⟩⟩
        · rcases hk with ⟨-, y⟩ | ⟨-, -, y⟩ | ⟨-, -, -, y⟩
          · exact absurd y c
          · exact absurd d y
          · rw [nT] at y; exact absurd e y
      · obtain rfl := nI_j (by omega) (by omega) e3
        rw [nT] at e
        obtain ⟨i, hi, rfl⟩ := ix_of n e (by omega)
        have key : ∀ x y : Int32, x = y → ∀ u3 v3 : Mm, u3 = s32 u (55 + 2 * j3) (nI i).toNatClampNeg x → v3 = s32 v 29 (nI (60 * j3 + i)).toNatClampNeg y → Rel u3 v3 := by
          intro x y exy u3 v3 eu ev
          subst exy
          rw [nI_clamp (by omega)] at eu ev
          subst eu ev
          refine rel_O h (qU_s32 _ _ _ (kUo_l hj).2.2.2) (qV_s32 _ _ _ (by decide)) (rO_of (fun k hk => ?_))
          obtain ⟨w1, w2, w3, w4, w5, w6, w7⟩ := rO_at hO hk
          rw [s32_n u (k := 55 + 2 * j3) (q := 965 + 32 * k) _ _ (by omega), s32_n u (k := 55 + 2 * j3) (q := 966 + 32 * k) _ _ (by omega), s32_n u (k := 55 + 2 * j3) (q := 967 + 32 * k) _ _ (by omega), s32_k, s32_n v (k := 29) (q := 26) _ _ (by decide), s32_n v (k := 29) (q := 27) _ _ (by decide), s32_n v (k := 29) (q := 28) _ _ (by decide)]
          refine ⟨w1, w2, w3, w4, w5, w6, fun m hm => ?_⟩
          by_cases hkj : k = j3
          · subst hkj
            rw [s32_k]
            by_cases hmi : m = i
            · subst hmi; rw [upd_s, upd_s]
            · rw [upd_n _ _ hmi, upd_n _ _ (by omega)]; exact w7 m hm
          · rw [s32_n u (k := 55 + 2 * j3) (q := 55 + 2 * k) _ _ (by omega), upd_n _ _ (by omega)]; exact w7 m hm
        have ei : a4.toInt64.toInt32 = a4 := by
          rw [← Int32.toInt_inj, Int64.toInt_toInt32, i64_T]
          exact Int32.toInt_bmod_size a4
        have R : ∀ (Qr : Mm → Prop), (∀ v3 : Mm, v3 = s32 v 29 (nI (60 * j3 + i)).toNatClampNeg (if v.1 27 j3 = 0 then a4.toInt8.toInt32 else if v.1 27 j3 = 1 then a4.toInt16.toInt32 else a4) → Qr v3) → wX9_lay v (nI j3) (nI i) a4.toInt64 Qr := by
          intro Qr hq
          unfold wX9_lay
          rw [it_R, ei, nI_clamp (n := j3) (by omega)]
          refine ⟨vp_in_nI hj (by omega), fun c => ⟨vp_in_nI (by omega) (by omega), fun v3 f3 => hq v3 ?_⟩, fun c => ⟨vp_in_nI hj (by omega), fun d => ⟨vp_in_nI (by omega) (by omega), fun v3 f3 => hq v3 ?_⟩, fun d => ⟨vp_in_nI (by omega) (by omega), fun v3 f3 => hq v3 ?_⟩⟩⟩
          · rw [if_pos c]; exact f3
          · rw [if_neg c, if_pos d]; exact f3
          · rw [if_neg c, if_neg d]; exact f3
        have P : ∀ u3 : Mm, u3 = s32 u (55 + 2 * j3) (nI i).toNatClampNeg (if v.1 27 j3 = 0 then a4.toInt8.toInt32 else if v.1 27 j3 = 1 then a4.toInt16.toInt32 else a4) → wX9_put v (nI j3) a2 (nI i) a4 (fun (r2 : Int32) (v1 : Mm) => (1 : Int32) = r2 ∧ Rel u3 v1) := by
          intro u3 eu
          unfold wX9_put
          refine isSheet_b (fun z => absurd p z) (fun _ => in_b 0 2 (fun z => absurd q (by omega)) (fun _ => lacks_w hj a2 (nI i) z6 z5 (fun y => absurd y c) (fun _ y => absurd d y) (fun _ _ y => absurd e y) (fun _ _ _ => ⟨fun _ => R _ (fun v3 ev => ⟨rfl, key _ _ rfl u3 v3 eu ev⟩), fun y => absurd (by decide) y⟩)))
        unfold wX5_store
        rw [z2]
        refine ⟨fun y => ⟨vp_in_nI (by omega) (by omega), fun u3 eu => P u3 ?_⟩, fun y => ⟨fun x => ⟨vp_in_nI (by omega) (by omega), fun u3 eu => P u3 ?_⟩, fun x => ⟨vp_in_nI (by omega) (by omega), fun u3 eu => P u3 ?_⟩⟩⟩
        · rw [if_pos y]; exact eu
        · rw [if_neg y, if_pos x]; exact eu
        · rw [if_neg y, if_neg x]; exact eu
theorem st_get {u v : Mm} (h : Rel u v) (a1 a2 a3 : Int32) : wX8_get u a1 a2 a3 (fun (r : Int32) (u1 : Mm) => wX9_get v a1 a2 a3 (fun (r2 : Int32) (v1 : Mm) => r = r2 ∧ Rel u1 v1)) := by
  have hO : rO u v := h.2.2.2.2.2.2.2.2.2.2.2.2.2.2.1
  unfold wX8_get
  by_cases p : 0 ≤ a1.toInt ∧ a1.toInt < 4
  case neg =>
    unfold wX8_refusalOfItem
    refine below_b 4 (fun n => ?_) (fun z => absurd z p)
    refine ⟨fun c => absurd c (by decide), fun _ => ?_⟩
    unfold wX9_get; exact isSheet_b (fun _ => ⟨rfl, h⟩) (fun z => absurd z p)
  case pos =>
    by_cases q : 0 ≤ a2.toInt ∧ a2.toInt < 3
    case neg =>
      unfold wX8_refusalOfItem
      refine below_b 4 (fun n => absurd p n) (fun _ => below_b 3 (fun n => ?_) (fun z => absurd z q))
      refine ⟨fun c => absurd c (by decide), fun _ => ?_⟩
      unfold wX9_get; exact isSheet_b (fun z => absurd p z) (fun _ => in_b 0 2 (fun _ => ⟨rfl, h⟩) (fun z => absurd z (by omega)))
    case pos =>
      obtain ⟨j, hj, rfl⟩ := ix_of 4 p
      obtain ⟨z1, z2, z3, z4, z5, z6, z7⟩ := rO_at hO hj
      obtain ⟨n, hn⟩ : ∃ n, n = (v.1 28 j).toNatClampNeg := ⟨_, rfl⟩
      rw [← hn] at z5 z6
      have nT : (v.1 28 j).toInt = (n : Int) := by rw [z6]; exact nI_toInt (by omega)
      refine item_C h hj a2 a3 q (fun k hk => ⟨fun c => ?_, fun _ => ?_⟩) (fun c d e => br0 ⟨vp_in_nI hj (by omega), fun j3 h3 e3 => ?_⟩)
      · rcases hk with ⟨rfl, -⟩ | ⟨rfl, -⟩ | ⟨rfl, -⟩ <;> exact absurd c (by decide)
      · unfold wX9_get
        refine isSheet_b (fun z => absurd p z) (fun _ => in_b 0 2 (fun z => absurd q (by omega)) (fun _ => lacks_w hj a2 a3 z6 z5 (fun c => ?_) (fun c d => ?_) (fun c d e => ?_) (fun c d e => ?_)))
        · rcases hk with ⟨rfl, -⟩ | ⟨-, y, -⟩ | ⟨-, y, -⟩
          · exact ⟨fun y => absurd y (by decide), fun _ v4 f4 => by subst f4; exact ⟨rfl, rel_find h 1⟩⟩
          · exact absurd c y
          · exact absurd c y
        · rcases hk with ⟨-, y⟩ | ⟨rfl, -⟩ | ⟨-, -, y, -⟩
          · exact absurd y c
          · exact ⟨fun y => absurd y (by decide), fun _ v4 f4 => by subst f4; exact ⟨rfl, rel_find h 3⟩⟩
          · exact absurd y d
        · rcases hk with ⟨-, y⟩ | ⟨-, -, y⟩ | ⟨rfl, -⟩
          · exact absurd y c
          · exact absurd d y
          · exact ⟨fun y => absurd y (by decide), fun _ v4 f4 => by subst f4; exact ⟨rfl, rel_find h 2⟩⟩
        · rcases hk with ⟨-, y⟩ | ⟨-, -, y⟩ | ⟨-, -, -, y⟩
          · exact absurd y c
          · exact absurd d y
          · rw [nT] at y; exact absurd e y
      · obtain rfl := nI_j (by omega) (by omega) e3
        rw [nT] at e
        obtain ⟨i, hi, rfl⟩ := ix_of n e (by omega)
        unfold wX9_get
        rw [it_R, nI_clamp (n := i) (by omega)]
        refine ⟨vp_in_nI (by omega) (by omega), isSheet_b (fun z => absurd p z) (fun _ => in_b 0 2 (fun z => absurd q (by omega)) (fun _ => lacks_w hj a2 (nI i) z6 z5 (fun y => absurd y c) (fun _ y => absurd d y) (fun _ _ y => absurd e y) (fun _ _ _ => ⟨fun _ => ⟨vp_in_nI (by omega) (by omega), ?_, h⟩, fun y => absurd (by decide) y⟩)))⟩
        rw [nI_clamp (n := 60 * j3 + i) (by omega)]
        exact z7 i (by omega)
