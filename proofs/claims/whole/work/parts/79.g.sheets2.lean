/-! ===== copy, read, write ===== -/
theorem rel_rO {u v : Mm} (h : Rel u v) : rO u v := h.2.2.2.2.2.2.2.2.2.2.2.2.2.2.1
theorem rel_item {u v : Mm} (h : Rel u v) {j i : Nat} (hj : j < 4) (hi : i < 60) (x : Int32) : Rel (s32 u (55 + 2 * j) i x) (s32 v 29 (60 * j + i) x) := by
  refine rel_O h (qU_s32 _ _ _ (kUo_l hj).2.2.2) (qV_s32 _ _ _ (by decide)) (rO_of (fun k hk => ?_))
  obtain ⟨w1, w2, w3, w4, w5, w6, w7⟩ := rO_at (rel_rO h) hk
  rw [s32_n u (k := 55 + 2 * j) (q := 965 + 32 * k) _ _ (by omega), s32_n u (k := 55 + 2 * j) (q := 966 + 32 * k) _ _ (by omega), s32_n u (k := 55 + 2 * j) (q := 967 + 32 * k) _ _ (by omega), s32_k, s32_n v (k := 29) (q := 26) _ _ (by decide), s32_n v (k := 29) (q := 27) _ _ (by decide), s32_n v (k := 29) (q := 28) _ _ (by decide)]
  refine ⟨w1, w2, w3, w4, w5, w6, fun m hm => ?_⟩
  by_cases hkj : k = j
  · subst hkj
    rw [s32_k]
    by_cases hmi : m = i
    · subst hmi; rw [upd_s, upd_s]
    · rw [upd_n _ _ hmi, upd_n _ _ (by omega)]; exact w7 m hm
  · rw [s32_n u (k := 55 + 2 * j) (q := 55 + 2 * k) _ _ (by omega), upd_n _ _ (by omega)]; exact w7 m hm
def wr (p o : Nat) (g : Nat → Int32) (u : Mm) : Nat → Mm
  | 0 => u
  | i + 1 => s32 (wr p o g u i) p (o + i) (g i)
theorem wr_n (p o : Nat) (g : Nat → Int32) (u : Mm) {k : Nat} (hk : k ≠ p) : ∀ i, (wr p o g u i).1 k = u.1 k
  | 0 => rfl
  | i + 1 => by
    show (s32 (wr p o g u i) p (o + i) (g i)).1 k = u.1 k
    rw [s32_n _ _ _ hk, wr_n p o g u hk i]
theorem wr_2 (p o : Nat) (g : Nat → Int32) (u : Mm) : ∀ i, (wr p o g u i).2 = u.2
  | 0 => rfl
  | i + 1 => by
    show (s32 (wr p o g u i) p (o + i) (g i)).2 = u.2
    rw [s32_2, wr_2 p o g u i]
theorem wr_rel {u v : Mm} (h : Rel u v) {j : Nat} (hj : j < 4) (g : Nat → Int32) : ∀ m, m ≤ 60 → Rel (wr (55 + 2 * j) 0 g u m) (wr 29 (60 * j) g v m)
  | 0, _ => h
  | m + 1, hm => by
    have ih := wr_rel h hj g m (by omega)
    show Rel (s32 (wr (55 + 2 * j) 0 g u m) (55 + 2 * j) (0 + m) (g m)) (s32 (wr 29 (60 * j) g v m) 29 (60 * j + m) (g m))
    rw [Nat.zero_add]
    exact rel_item ih hj (by omega) (g m)
def conv (fo x : Int32) : Int32 := if fo = 0 then x.toInt8.toInt32 else if fo = 1 then x.toInt16.toInt32 else x
theorem store_w {u : Mm} {j i : Nat} (hi : i < 60) (x : Int32) {Q : Mm → Prop} (hq : Q (s32 u (55 + 2 * j) i (conv (u.1 (965 + 32 * j) 0) x))) : wX5_store j u (nI i) x Q := by
  unfold wX5_store
  rw [nI_clamp (n := i) (by omega)]
  unfold conv at hq
  refine ⟨fun z => ⟨vp_in_nI hi (by omega), fun u3 e3 => ?_⟩, fun z => ⟨fun z2 => ⟨vp_in_nI hi (by omega), fun u3 e3 => ?_⟩, fun z2 => ⟨vp_in_nI hi (by omega), fun u3 e3 => ?_⟩⟩⟩
  · rw [if_pos z] at hq; rw [e3]; exact hq
  · rw [if_neg z, if_pos z2] at hq; rw [e3]; exact hq
  · rw [if_neg z, if_neg z2] at hq; rw [e3]; exact hq
theorem lay_w {v : Mm} {j i : Nat} (hj : j < 4) (hi : i < 60) (x : Int64) {Q : Mm → Prop} (hq : Q (s32 v 29 (60 * j + i) (conv (v.1 27 j) x.toInt32))) : wX9_lay v (nI j) (nI i) x Q := by
  unfold wX9_lay
  rw [it_R, nI_clamp (n := j) (by omega), nI_clamp (n := 60 * j + i) (by omega)]
  unfold conv at hq
  refine ⟨vp_in_nI hj (by omega), fun z => ⟨vp_in_nI (by omega) (by omega), fun u3 e3 => ?_⟩, fun z => ⟨vp_in_nI hj (by omega), fun z2 => ⟨vp_in_nI (by omega) (by omega), fun u3 e3 => ?_⟩, fun z2 => ⟨vp_in_nI (by omega) (by omega), fun u3 e3 => ?_⟩⟩⟩
  · rw [if_pos z] at hq; rw [e3]; exact hq
  · rw [if_neg z, if_pos z2] at hq; rw [e3]; exact hq
  · rw [if_neg z, if_neg z2] at hq; rw [e3]; exact hq
def wrG (v : Mm) (j lp c : Nat) : Nat → Int32 := fun t => conv (v.1 27 j) (closS v lp (t / 4) (t % 4) c).toInt32
def m12 (n : Nat) : Nat := if 12 < n then 12 else n
theorem st_write {u v : Mm} (h : Rel u v) (a1 a2 a3 a4 : Int32) : wX8_write u a1 a2 a3 a4 (fun (r : Int32) (u1 : Mm) => wX9_write v a1 a2 a3 a4 (fun (r2 : Int32) (v1 : Mm) => r = r2 ∧ Rel u1 v1)) := by
  have hO := rel_rO h
  unfold wX8_write
  refine below_b 4 (fun n => ?_) (fun p => isLine_b (fun n => ?_) (fun q => ?_))
  · unfold wX9_write; exact isSheet_b (fun _ => ⟨rfl, h⟩) (fun z => absurd z n)
  · unfold wX9_write; exact isSheet_b (fun z => absurd p z) (fun _ => areThere_b (fun _ => ⟨rfl, h⟩) (fun z => absurd z n))
  · obtain ⟨j, hj, rfl⟩ := ix_of 4 p
    obtain ⟨l, hl, rfl⟩ := ix_of 2 q.1
    obtain ⟨pp, hp, rfl⟩ := ix_of 4 q.2.1
    obtain ⟨c, hc, rfl⟩ := ix_of 6 q.2.2
    have vj : vp_in (nI j) 4 := vp_in_nI hj (by omega)
    refine ⟨vj, fun j3 h3 e3 => ?_⟩
    obtain rfl := nI_j (by omega) (by omega) e3
    have hl2 := lost_iff hO hj
    refine ⟨fun z => setAll_w h (fun u1 h1 => ?_), fun z => found_w ?_⟩
    · unfold wX8_cellCode
      rw [show (0 : Int32) = nI 0 from rfl, cell_C]
      dsimp only
      refine ⟨vj, fun j7 h7 e7 => ?_⟩
      obtain rfl := nI_j (by omega) (by omega) e7
      obtain ⟨z1, z2, z3, z4, z5, z6, z7⟩ := rO_at (rel_rO h1.1) hj
      obtain ⟨n, hn⟩ : ∃ n, n = (v.1 28 j7).toNatClampNeg := ⟨_, rfl⟩
      rw [← hn] at z5 z6
      rw [z4, z6]
      have hm : m12 n ≤ 12 ∧ m12 n ≤ n := by unfold m12; split <;> omega
      have hm2 : m12 n = 12 ∨ m12 n = n := by unfold m12; split <;> simp
      have min_w : ∀ {R : Int32 → Prop}, R (nI (m12 n)) → wJ9_min_7cf53 (nI n) (12 : Int32) R := by
        intro R hR
        unfold wJ9_min_7cf53
        unfold m12 at hR
        rw [show (12 : Int32) = nI 12 from rfl, nI_ltI (by omega) (by omega)]
        refine ⟨fun d => ?_, fun d => ?_⟩
        · rw [if_pos d] at hR; exact hR
        · rw [if_neg d] at hR; exact hR
      refine min_w ?_
      generalize m12 n = m at hm hm2
      have fin : wX9_write v (nI j7) (nI l) (nI pp) (nI c) (fun (r2 : Int32) (v1 : Mm) => nI m = r2 ∧ Rel (wr (55 + 2 * j7) 0 (wrG v j7 (l * 4 + pp) c) u1 m) v1) := by
        unfold wX9_write
        refine isSheet_b (fun y => absurd p y) (fun _ => areThere_b (fun y => absurd q y) (fun _ => ?_))
        rw [nI_clamp (n := j7) (by omega)]
        refine ⟨vj, fun y => absurd y (hl2.mp z), fun _ => looks_Sd h1 (fun v1 h2 ht hr => ?_)⟩
        have s28 : v1.1 28 j7 = nI n := by rw [tV_1 ht (k := 28) (by decide), z6]
        have eG : wrG v1 j7 (l * 4 + pp) c = wrG v j7 (l * 4 + pp) c := by
          funext t
          unfold wrG
          rw [tV_1 ht (k := 27) (by decide), tV_f ht (fun m => closS m (l * 4 + pp) (t / 4) (t % 4) c) (fun _ => rfl)]
        have goal : ∀ w, w = wr 29 (60 * j7) (wrG v1 j7 (l * 4 + pp) c) v1 m → nI m = nI m ∧ Rel (wr (55 + 2 * j7) 0 (wrG v j7 (l * 4 + pp) c) u1 m) w := fun w ew => by
          rw [ew, eG]; exact ⟨rfl, wr_rel h2.1 hj _ m (by omega)⟩
        refine loopF (fun f i => wX9_write_b42 (fun (r2 : Int32) (v1 : Mm) => nI m = r2 ∧ Rel (wr (55 + 2 * j7) 0 (wrG v j7 (l * 4 + pp) c) u1 m) v1) f (wr 29 (60 * j7) (wrG v1 j7 (l * 4 + pp) c) v1 i) (nI j7) (nI l) (nI pp) (nI c) (nI i)) m (fun f => ?_) (fun f i hi ih => ?_) 0 (by omega)
        · unfold wX9_write_b42
          rw [nI_clamp (n := j7) (by omega), wr_n _ _ _ _ (by decide), s28]
          refine ⟨fun _ => goal _ rfl, fun c1 => ⟨vj, fun _ => goal _ rfl, fun c2 => ?_⟩⟩
          exfalso
          rcases hm2 with e | e
          · exact c1 (by rw [e]; decide)
          · exact c2 ((nI_leI (by omega) (by omega)).mpr (by omega))
        · unfold wX9_write_b42 wX9_cellOf
          rw [nI_clamp (n := j7) (by omega), wr_n _ _ _ _ (by decide), s28, cell_R]
          dsimp only
          rw [wr_2, nI_clamp (n := ((l * 4 + pp) * 6 + c) * 12 + i) (by omega), (rR_at hr (by omega) hc (by omega)).2]
          refine ⟨fun cc => absurd ((nI_leI (a := 12) (b := i) (by omega) (by omega)).mp cc) (by omega), fun _ => ⟨vj, fun cc => absurd ((nI_leI (by omega) (by omega)).mp cc) (by omega), fun _ => ⟨vp_in_nI (by omega) (by omega), lay_w hj (by omega) _ (fun y ey => ?_)⟩⟩⟩
          rw [ey, nI_1, wr_n _ _ _ _ (by decide)]
          exact ih
      refine loopF (fun f i => wX8_write_b75 (fun (r : Int32) (u1 : Mm) => wX9_write v (nI j7) (nI l) (nI pp) (nI c) (fun (r2 : Int32) (v1 : Mm) => r = r2 ∧ Rel u1 v1)) f (wr (55 + 2 * j7) 0 (wrG v j7 (l * 4 + pp) c) u1 i) (nI j7) (nI (((l * 4 + pp) * 6 + c) * 12 + 0)) (nI m) (nI i)) m (fun f => ?_) (fun f i hi ih => ?_) 0 (by omega)
      · unfold wX8_write_b75
        exact ⟨fun _ => fin, fun cc => absurd ((nI_leI (by omega) (by omega)).mpr (Nat.le_refl _)) cc⟩
      · unfold wX8_write_b75
        rw [nI_add, Nat.add_zero, nI_clamp (n := ((l * 4 + pp) * 6 + c) * 12 + i) (by omega), wr_2, (blk_at (h1.2 (l * 4 + pp) (i / 4) (by omega) (by omega)) hc).2.2.2]
        refine ⟨fun cc => absurd ((nI_leI (by omega) (by omega)).mp cc) (by omega), fun _ => ⟨vj, fun j8 h8 e8 => ⟨vp_in_nI (by omega) (by omega), ?_⟩⟩⟩
        obtain rfl := nI_j (by omega) (by omega) e8
        refine store_w (by omega) _ (fun y ey => ?_)
        rw [ey, nI_1, wr_n _ _ _ _ (by omega), z2]
        have ew : wr (55 + 2 * j8) 0 (wrG v j8 (l * 4 + pp) c) u1 (i + 1) = s32 (wr (55 + 2 * j8) 0 (wrG v j8 (l * 4 + pp) c) u1 i) (55 + 2 * j8) i (conv (v.1 27 j8) (closS v (l * 4 + pp) (i / 4) (i % 4) c).toInt32) := by
          show s32 (wr (55 + 2 * j8) 0 (wrG v j8 (l * 4 + pp) c) u1 i) (55 + 2 * j8) (0 + i) _ = _
          rw [Nat.zero_add]; rfl
        rw [← ew]
        exact ih
    · unfold wX9_write
      refine isSheet_b (fun y => absurd p y) (fun _ => areThere_b (fun y => absurd q y) (fun _ => ?_))
      rw [nI_clamp (n := j3) (by omega)]
      exact ⟨vj, fun _ => meets_w ⟨rfl, rel_find h 1⟩, fun y => absurd (hl2.mpr y) z⟩
theorem read_L {j : Nat} (hj : j < 4) : ∀ (d i x : Nat) (u v : Mm), i < 100 → 60 ≤ i + 4 * d → Rel u v → ∃ (r : Int32) (u1 v1 : Mm), Rel u1 v1 ∧ (∀ Q : Int32 → Mm → Prop, Q r u1 → ∃ f, wX8_read_b44 Q f u (nI j) j (nI x) (nI i)) ∧ (∀ Q : Int32 → Mm → Prop, Q r v1 → ∃ f, wX9_read_b32 Q f v (nI j) (nI x) (nI (60 * j + i))) := by
  intro d
  induction d with
  | zero =>
    intro i x u v hi hd h
    obtain ⟨z1, z2, z3, z4, z5, z6, z7⟩ := rO_at (rel_rO h) hj
    obtain ⟨n, hn⟩ : ∃ n, n = (v.1 28 j).toNatClampNeg := ⟨_, rfl⟩
    rw [← hn] at z5 z6
    refine ⟨nI x, u, v, h, fun Q q => ⟨1, ?_⟩, fun Q q => ⟨1, ?_⟩⟩
    · unfold wX8_read_b44
      refine ⟨vp_in_nI hj (by omega), fun j1 h1 e1 => ?_⟩
      obtain rfl := nI_j (by omega) (by omega) e1
      rw [z4, z6, show nI i + (4 : Int32) = nI (i + 4) by rw [show (4 : Int32) = nI 4 from rfl, nI_add]]
      exact ⟨fun _ => q, fun cc => absurd ((nI_ltI (by omega) (by omega)).mpr (by omega)) cc⟩
    · unfold wX9_read_b32
      rw [nI_clamp (n := j) (by omega), z6, it_R, show nI (60 * j + i) + (3 : Int32) = nI (60 * j + i + 3) by rw [show (3 : Int32) = nI 3 from rfl, nI_add]]
      exact ⟨vp_in_nI hj (by omega), fun _ => q, fun cc => absurd ((nI_leI (by omega) (by omega)).mpr (by omega)) cc⟩
  | succ d ih =>
    intro i x u v hi hd h
    obtain ⟨z1, z2, z3, z4, z5, z6, z7⟩ := rO_at (rel_rO h) hj
    obtain ⟨n, hn⟩ : ∃ n, n = (v.1 28 j).toNatClampNeg := ⟨_, rfl⟩
    rw [← hn] at z5 z6
    have i4 : nI i + (4 : Int32) = nI (i + 4) := by rw [show (4 : Int32) = nI 4 from rfl, nI_add]
    have i2 : nI i + (2 : Int32) = nI (i + 2) := by rw [show (2 : Int32) = nI 2 from rfl, nI_add]
    have i3 : nI i + (3 : Int32) = nI (i + 3) := by rw [show (3 : Int32) = nI 3 from rfl, nI_add]
    have r4 : nI (60 * j + i) + (4 : Int32) = nI (60 * j + (i + 4)) := by rw [show (4 : Int32) = nI 4 from rfl, nI_add]; rfl
    have r2 : nI (60 * j + i) + (2 : Int32) = nI (60 * j + (i + 2)) := by rw [show (2 : Int32) = nI 2 from rfl, nI_add]; rfl
    have r3 : nI (60 * j + i) + (3 : Int32) = nI (60 * j + (i + 3)) := by rw [show (3 : Int32) = nI 3 from rfl, nI_add]; rfl
    have r1 : nI (60 * j + i) + (1 : Int32) = nI (60 * j + (i + 1)) := nI_1 _
    by_cases g : n < i + 4
    · refine ⟨nI x, u, v, h, fun Q q => ⟨1, ?_⟩, fun Q q => ⟨1, ?_⟩⟩
      · unfold wX8_read_b44
        refine ⟨vp_in_nI hj (by omega), fun j1 h1 e1 => ?_⟩
        obtain rfl := nI_j (by omega) (by omega) e1
        rw [z4, z6, i4]
        exact ⟨fun _ => q, fun cc => absurd ((nI_ltI (by omega) (by omega)).mpr (by omega)) cc⟩
      · unfold wX9_read_b32
        rw [nI_clamp (n := j) (by omega), z6, it_R, r3]
        exact ⟨vp_in_nI hj (by omega), fun _ => q, fun cc => absurd ((nI_leI (by omega) (by omega)).mpr (by omega)) cc⟩
    · obtain ⟨r, u1, v1, h1, -, hC, hR⟩ := row_CR h (v.1 29 (60 * j + i)) (v.1 29 (60 * j + (i + 1))) (v.1 29 (60 * j + (i + 2))) (v.1 29 (60 * j + (i + 3)))
      have stepC : ∀ (Q : Int32 → Mm → Prop) (f : Nat), ((0 ≤ r → ∀ x3_4 : Int32, x3_4 = nI x + (1 : Int32) → ∀ x4_5 : Int32, x4_5 = nI i + (4 : Int32) → wX8_read_b44 Q f u1 (nI j) j x3_4 x4_5) ∧ (¬ 0 ≤ r → Q (nI x) u1)) → wX8_read_b44 Q (f + 1) u (nI j) j (nI x) (nI i) := by
        intro Q f hh
        unfold wX8_read_b44
        refine ⟨vp_in_nI hj (by omega), fun j1 hj1 e1 => ?_⟩
        obtain rfl := nI_j (by omega) (by omega) e1
        rw [i4] at hh ⊢
        rw [z4, z6, i2, i3, nI_1 i, nI_clamp (n := i) (by omega), nI_clamp (n := i + 1) (by omega), nI_clamp (n := i + 2) (by omega), nI_clamp (n := i + 3) (by omega), z7 i (by omega), z7 (i + 1) (by omega), z7 (i + 2) (by omega), z7 (i + 3) (by omega)]
        exact ⟨fun cc => absurd ((nI_ltI (by omega) (by omega)).mp cc) (by omega), fun _ => ⟨vp_in_nI (by omega) (by omega), vp_in_nI (by omega) (by omega), vp_in_nI (by omega) (by omega), vp_in_nI (by omega) (by omega), hC _ hh⟩⟩
      have stepR : ∀ (Q : Int32 → Mm → Prop) (f : Nat), ((0 ≤ r → ∀ x3_4 : Int32, x3_4 = nI x + (1 : Int32) → ∀ x4_5 : Int32, x4_5 = nI (60 * j + i) + (4 : Int32) → wX9_read_b32 Q f v1 (nI j) x3_4 x4_5) ∧ (¬ 0 ≤ r → Q (nI x) v1)) → wX9_read_b32 Q (f + 1) v (nI j) (nI x) (nI (60 * j + i)) := by
        intro Q f hh
        unfold wX9_read_b32
        rw [nI_clamp (n := j) (by omega), z6, it_R, r1, r2, r3, nI_clamp (n := 60 * j + i) (by omega), nI_clamp (n := 60 * j + (i + 1)) (by omega), nI_clamp (n := 60 * j + (i + 2)) (by omega), nI_clamp (n := 60 * j + (i + 3)) (by omega)]
        exact ⟨vp_in_nI hj (by omega), fun cc => absurd ((nI_leI (by omega) (by omega)).mp cc) (by omega), fun _ => ⟨vp_in_nI (by omega) (by omega), vp_in_nI (by omega) (by omega), vp_in_nI (by omega) (by omega), vp_in_nI (by omega) (by omega), hR _ hh⟩⟩
      by_cases gr : 0 ≤ r
      · obtain ⟨ra, ua, va, ha, hCa, hRa⟩ := ih (i + 4) (x + 1) u1 v1 (by omega) (by omega) h1
        refine ⟨ra, ua, va, ha, fun Q q => ?_, fun Q q => ?_⟩
        · obtain ⟨f, hf⟩ := hCa Q q
          refine ⟨f + 1, stepC Q f ⟨fun _ x3 e3 x4 e4 => ?_, fun d => absurd gr d⟩⟩
          rw [e3, e4, nI_1, i4]; exact hf
        · obtain ⟨f, hf⟩ := hRa Q q
          refine ⟨f + 1, stepR Q f ⟨fun _ x3 e3 x4 e4 => ?_, fun d => absurd gr d⟩⟩
          rw [e3, e4, nI_1, r4]; exact hf
      · exact ⟨nI x, u1, v1, h1, fun Q q => ⟨1, stepC Q 0 ⟨fun d => absurd d gr, fun _ => q⟩⟩, fun Q q => ⟨1, stepR Q 0 ⟨fun d => absurd d gr, fun _ => q⟩⟩⟩
theorem st_read {u v : Mm} (h : Rel u v) (a1 : Int32) : wX8_read u a1 (fun (r : Int32) (u1 : Mm) => wX9_read v a1 (fun (r2 : Int32) (v1 : Mm) => r = r2 ∧ Rel u1 v1)) := by
  have hO := rel_rO h
  unfold wX8_read
  refine below_b 4 (fun n => ?_) (fun p => ?_)
  · unfold wX9_read; exact isSheet_b (fun _ => ⟨rfl, h⟩) (fun z => absurd z n)
  · obtain ⟨j, hj, rfl⟩ := ix_of 4 p
    have vj : vp_in (nI j) 4 := vp_in_nI hj (by omega)
    refine ⟨vj, fun j2 h2 e2 => ?_⟩
    obtain rfl := nI_j (by omega) (by omega) e2
    have hl2 := lost_iff hO hj
    refine ⟨fun z => ⟨vj, fun j3 h3 e3 => ?_⟩, fun z => found_w ?_⟩
    · obtain rfl := nI_j (by omega) (by omega) e3
      obtain ⟨r, u1, v1, h1, hC, hR⟩ := read_L hj 15 0 0 u v (by omega) (by omega) h
      refine hC _ ?_
      unfold wX9_read
      refine isSheet_b (fun y => absurd p y) (fun _ => ?_)
      rw [nI_clamp (n := j3) (by omega)]
      refine ⟨vj, fun y => absurd y (hl2.mp z), fun _ x3 e3 => ?_⟩
      have e3 : x3 = nI (60 * j3 + 0) := by rw [e3, show (60 : Int32) = nI 60 from rfl, pk_mul]; rfl
      rw [e3]
      exact hR _ ⟨rfl, h1⟩
    · unfold wX9_read
      refine isSheet_b (fun y => absurd p y) (fun _ => ?_)
      rw [nI_clamp (n := j2) (by omega)]
      exact ⟨vj, fun _ => meets_w ⟨rfl, rel_find h 1⟩, fun y => absurd (hl2.mpr y) z⟩
