/-! ===== rowIs, count, led ===== -/
theorem cnt_01 (v : Mm) (k : Nat) : cntS v k = 0 ∨ cntS v k = 1 := by
  unfold cntS; split
  · exact Or.inr rfl
  · exact Or.inl rfl
theorem counted_w {u v : Mm} (h : Rel u v) {k : Nat} (hk : k < nrow v) {Q : Int32 → Mm → Prop} (hq : ∀ P, Q (cntS v k) (r32 u 9 P)) : wX3_isCounted u (nI k) Q := by
  obtain ⟨n80, -, -⟩ := rel_n h
  have hC : ∀ k, k < nrow v → _ := h.2.2.1
  have hD := h.2.2.2.1
  have hE := h.2.2.2.2.1
  have hR : ∀ k, k < nrow v → u.1 3 k = v.1 2 k ∧ u.1 4 k = v.1 3 k ∧ u.1 6 k = v.1 5 k := fun k hk => ⟨(hC k hk).1, (hC k hk).2.1, (hC k hk).2.2.2.1⟩
  have hcode : ∀ k, k < nrow v → u.1 4 k = v.1 3 k := fun k hk => (hR k hk).2.1
  obtain ⟨s, hs, es⟩ := (hC k hk).2.2.2.2.1
  obtain ⟨c, hc, ec⟩ := (hC k hk).2.2.2.2.2.1
  unfold wX3_isCounted
  rw [nI_clamp (n := k) (by omega), hcode k hk, ec, hE.1]
  refine ⟨vp_in_nI (by omega) (by omega), pick_w n80 hc (v.1 106 0) 9 ?_ ?_ ?_ (fun P hP => ?_)⟩
  · rw [lastR_congr hcode (nI c) (nrow v) (Nat.le_refl _)]; exact hD.1 c hc
  · intro k hk; rw [lastR_congr hcode (u.1 4 k) k (by omega), hcode k hk]; exact hD.2 k hk
  · intro k hk
    obtain ⟨x, h1, h2⟩ := (hC k hk).2.2.2.2.1
    exact ⟨x, h1, (hR k hk).1.trans h2⟩
  · have e3 : (r32 u 9 P).1 3 k = nI s := by rw [r32_n _ _ (by decide), (hR k hk).1, es]
    have e9 : (r32 u 9 P).1 9 = P := r32_k _ _ _
    rw [e3, e9, nI_clamp (n := s) (by omega), hP s hs, bestR_congr (by omega) hR (nI c) (nI s) (v.1 106 0) 9 (nrow v) (Nat.le_refl _)]
    have hq := hq P
    unfold cntS at hq
    rw [es, ec] at hq
    refine ⟨vp_in_nI (by omega) (by omega), vp_in_nI hs (by omega), fun z => ?_, fun z => ?_⟩
    · have z : bestR (v.1 2) (v.1 3) (v.1 5) (nI c) (nI s) (v.1 106 0) 9 (v.1 101 0).toNatClampNeg = nI k := z
      rw [if_pos z] at hq; exact hq
    · have z : ¬ bestR (v.1 2) (v.1 3) (v.1 5) (nI c) (nI s) (v.1 106 0) 9 (v.1 101 0).toNatClampNeg = nI k := z
      rw [if_neg z] at hq; exact hq
theorem rel_9 {u v : Mm} (h : Rel u v) (P : Nat → Int32) : Rel (r32 u 9 P) v := rel_scr h (pU_r32 _ _ (by decide)) rfl
theorem rowIs_t {v v1 : Mm} (ht : tV v1 = tV v) : v1.1 2 = v.1 2 ∧ v1.1 3 = v.1 3 ∧ v1.1 4 = v.1 4 ∧ v1.1 5 = v.1 5 := ⟨tV_1 ht (by decide), tV_1 ht (by decide), tV_1 ht (by decide), tV_1 ht (by decide)⟩
theorem st_rowIs {u v : Mm} (h : Rel u v) (a1 a2 : Int32) : wX8_rowIs u a1 a2 (fun (r : Int32) (u1 : Mm) => wX9_rowIs v a1 a2 (fun (r2 : Int32) (v1 : Mm) => r = r2 ∧ Rel u1 v1)) := by
  obtain ⟨n80, e101, e124⟩ := rel_n h
  have hC : ∀ k, k < nrow v → _ := h.2.2.1
  have hm1 : (((nI (nrow v)) - (1 : Int32)).toInt64).toInt = (nrow v : Int) - 1 := by
    rw [i64_T, Int32.toInt_sub, nI_toInt (by omega), show (1 : Int32).toInt = 1 from rfl, Int.bmod_eq_of_le (by omega) (by omega)]
  unfold wX8_rowIs
  rw [e124]
  refine below_b (nrow v : Int) (fun n => ?_) (fun p => ?_) (nI_toInt (by omega))
  · unfold wX9_rowIs
    rw [e101]
    exact in_b 0 ((nrow v : Int) - 1) (fun _ => ⟨rfl, h⟩) (fun z => absurd (by omega) n) (by decide) hm1
  · obtain ⟨k, hk80, rfl⟩ := ix_of 80 (a := a1) (by omega)
    have hk : k < nrow v := by rw [nI_toInt (by omega)] at p; omega
    have vk : vp_in (nI k) 80 := vp_in_nI (by omega) (by omega)
    obtain ⟨c1, c2, c3, c4, -⟩ := hC k hk
    have ref : ∀ (u1 : Mm) (r : Int32), Rel u1 v → (∀ v1, Rel u1 v1 → tV v1 = tV v → rR1 v1 → (a2 = nI 0 → vp_in (nI k) 80 ∧ r = v1.1 2 k ∧ Rel u1 v1) ∧ (a2 = nI 1 → vp_in (nI k) 80 ∧ r = v1.1 3 k ∧ Rel u1 v1) ∧ (a2 = nI 2 → vp_in (nI k) 80 ∧ r = v1.1 4 k ∧ Rel u1 v1) ∧ (a2 = nI 3 → vp_in (nI k) 80 ∧ r = v1.1 5 k ∧ Rel u1 v1) ∧ (a2 = nI 4 → vp_in (nI k) 80 ∧ (v1.1 6 k = 0 → r = 0 ∧ Rel u1 v1) ∧ (¬ v1.1 6 k = 0 → r = 1 ∧ Rel u1 v1)) ∧ (a2.toInt < 0 ∨ (4 : Int) < a2.toInt → r = -1000000 ∧ Rel u1 v1)) → wX9_rowIs v (nI k) a2 (fun (r2 : Int32) (v1 : Mm) => r = r2 ∧ Rel u1 v1) := by
      intro u1 r h1 hx
      unfold wX9_rowIs
      rw [e101]
      refine in_b 0 ((nrow v : Int) - 1) (fun z => absurd (by omega) z) (fun _ => looks_rel h1 (fun v1 h2 ht hr => ?_)) (by decide) hm1
      rw [nI_clamp (n := k) (by omega)]
      exact hx v1 h2 ht hr
    rw [nI_clamp (n := k) (by omega), c1, c2, c3, c4]
    refine ⟨fun e => ⟨vk, ref u _ h (fun v1 h2 ht hr => ?_)⟩, fun e => ⟨vk, ref u _ h (fun v1 h2 ht hr => ?_)⟩, fun e => ⟨vk, ref u _ h (fun v1 h2 ht hr => ?_)⟩, fun e => ⟨vk, ref u _ h (fun v1 h2 ht hr => ?_)⟩, fun e => counted_w h hk (fun P => ⟨fun z => ref _ _ (rel_9 h P) (fun v1 h2 ht hr => ?_), fun z => ref _ _ (rel_9 h P) (fun v1 h2 ht hr => ?_)⟩), fun e => ref u _ h (fun v1 h2 ht hr => ?_)⟩
    · refine ⟨fun _ => ⟨vk, by rw [(rowIs_t ht).1], h2⟩, ?_, ?_, ?_, ?_, ?_⟩ <;> (intro d; exfalso; rw [e] at d; revert d; decide)
    · refine ⟨?_, fun _ => ⟨vk, by rw [(rowIs_t ht).2.1], h2⟩, ?_, ?_, ?_, ?_⟩ <;> (intro d; exfalso; rw [e] at d; revert d; decide)
    · refine ⟨?_, ?_, fun _ => ⟨vk, by rw [(rowIs_t ht).2.2.1], h2⟩, ?_, ?_, ?_⟩ <;> (intro d; exfalso; rw [e] at d; revert d; decide)
    · refine ⟨?_, ?_, ?_, fun _ => ⟨vk, by rw [(rowIs_t ht).2.2.2], h2⟩, ?_, ?_⟩ <;> (intro d; exfalso; rw [e] at d; revert d; decide)
    · have e6 : v1.1 6 k = cntS v k := by rw [hr.2.1 k (by rw [tV_1 ht (k := 101) (by decide)]; exact hk), tV_f ht (fun m => cntS m k) (fun _ => rfl)]
      refine ⟨?_, ?_, ?_, ?_, fun _ => ⟨vk, fun _ => ⟨rfl, h2⟩, fun y => absurd (e6.trans z) y⟩, ?_⟩ <;> (intro d; exfalso; rw [e] at d; revert d; decide)
    · have e6 : v1.1 6 k = cntS v k := by rw [hr.2.1 k (by rw [tV_1 ht (k := 101) (by decide)]; exact hk), tV_f ht (fun m => cntS m k) (fun _ => rfl)]
      refine ⟨?_, ?_, ?_, ?_, fun _ => ⟨vk, fun y => absurd (e6.symm.trans y) z, fun _ => ⟨rfl, h2⟩⟩, ?_⟩ <;> (intro d; exfalso; rw [e] at d; revert d; decide)
    · refine ⟨?_, ?_, ?_, ?_, ?_, fun _ => ⟨rfl, h2⟩⟩ <;> (intro d; exfalso; rw [d] at e; revert e; decide)
/-! count -/
def cwN (v : Mm) : Nat → Nat
  | 0 => 0
  | k + 1 => if cntS v k = 0 then cwN v k else cwN v k + 1
theorem cwN_t (m : Mm) : ∀ k, cwN (tV m) k = cwN m k
  | 0 => rfl
  | k + 1 => by
    have e : cntS (tV m) k = cntS m k := rfl
    unfold cwN
    rw [e, cwN_t m k]
def tru (f : Nat → Int32) : Nat → Nat
  | 0 => 0
  | k + 1 => if f k = 0 then tru f k else tru f k + 1
theorem tru_le (f : Nat → Int32) : ∀ k, tru f k ≤ k
  | 0 => Nat.le_refl 0
  | k + 1 => by
    have := tru_le f k
    show (if f k = 0 then tru f k else tru f k + 1) ≤ k + 1
    split <;> omega
theorem tru_congr {f g : Nat → Int32} : ∀ n, (∀ k, k < n → f k = g k) → tru f n = tru g n
  | 0, _ => rfl
  | n + 1, h => by unfold tru; rw [h n (by omega), tru_congr n (fun k hk => h k (by omega))]
theorem true_w {u : Mm} {k nk : Nat} (hn : nk ≤ 100) {Q : Int32 → Prop} (hq : Q (nI (tru (u.1 k) nk))) : wX8_howManyTrue k nk u Q := by
  unfold wX8_howManyTrue
  refine loopF (fun f i => wX8_howManyTrue_b10 k nk u Q f (nI (tru (u.1 k) i)) (nI nk) (nI i)) nk (fun f => ?_) (fun f i hi ih => ?_) 0 (by omega)
  · unfold wX8_howManyTrue_b10
    exact ⟨fun _ => hq, fun cc => absurd ((nI_leI (by omega) (by omega)).mpr (Nat.le_refl _)) cc⟩
  · have es : tru (u.1 k) (i + 1) = if u.1 k i = 0 then tru (u.1 k) i else tru (u.1 k) i + 1 := rfl
    unfold wX8_howManyTrue_b10
    rw [nI_clamp (n := i) (by omega)]
    refine ⟨fun cc => absurd ((nI_leI (a := nk) (b := i) (by omega) (by omega)).mp cc) (by omega), fun _ => ⟨vp_in_nI hi (by omega), fun x5 e5 => ?_⟩⟩
    subst e5
    refine ⟨fun z y ey => ?_, fun z x ex y ey => ?_⟩
    · rw [if_pos z] at es
      rw [ey, nI_1, ← es]; exact ih
    · rw [if_neg z] at es
      rw [ex, ey, nI_1, nI_1, ← es]; exact ih
theorem cntRows_w {u v : Mm} (h : Rel u v) {Q : Int32 → Mm → Prop} (hq : ∀ u1, pU u1 = pU u → Q (nI (cwN v (nrow v))) u1) : wX3_countedRows u Q := by
  obtain ⟨n80, e101, e124⟩ := rel_n h
  unfold wX3_countedRows
  refine loopS (fun f i (s : Mm) => wX3_countedRows_b4 Q f s (nI (cwN v i)) (nI i)) (fun i s => pU s = pU u) (nrow v) (fun f s hI => ?_) (fun f i s hi hI ih => ?_) 0 u (by omega) rfl
  · have hs : Rel s v := rel_scr h hI rfl
    unfold wX3_countedRows_b4
    rw [(rel_n hs).2.2]
    exact ⟨fun _ => hq s hI, fun cc => absurd ((nI_leI (by omega) (by omega)).mpr (Nat.le_refl _)) cc⟩
  · have hs : Rel s v := rel_scr h hI rfl
    have es : cwN v (i + 1) = if cntS v i = 0 then cwN v i else cwN v i + 1 := rfl
    unfold wX3_countedRows_b4
    rw [(rel_n hs).2.2]
    refine ⟨fun cc => absurd ((nI_leI (a := nrow v) (b := i) (by omega) (by omega)).mp cc) (by omega), fun _ => counted_w hs hi (fun P => ⟨fun z y ey => ?_, fun z x ex y ey => ?_⟩)⟩
    · rw [if_pos z] at es
      rw [ey, nI_1, ← es]
      exact ih _ ((pU_r32 _ _ (by decide)).trans hI)
    · rw [if_neg z] at es
      rw [ex, ey, nI_1, nI_1, ← es]
      exact ih _ ((pU_r32 _ _ (by decide)).trans hI)
theorem bytes_w {u v : Mm} (h : Rel u v) {Q : Int32 → Prop} (hq : Q (v.1 24 0 + v.1 24 1 + v.1 24 2 + v.1 24 3)) : wX8_bytesOfLaws u Q := by
  have hN : ∀ j, j < 4 → u.1 (693 + 64 * j) 0 = v.1 24 j := fun j hj => (rN_at h.2.2.2.2.2.2.2.2.2.2.2.2.2.1 hj).1
  unfold wX8_bytesOfLaws
  have key : ∃ f, (fun f i => wX8_bytesOfLaws_b4 u Q f (if i = 0 then 0 else if i = 1 then 0 + v.1 24 0 else if i = 2 then 0 + v.1 24 0 + v.1 24 1 else if i = 3 then 0 + v.1 24 0 + v.1 24 1 + v.1 24 2 else 0 + v.1 24 0 + v.1 24 1 + v.1 24 2 + v.1 24 3) (nI i)) f 0 := by
    refine loopF (fun f i => wX8_bytesOfLaws_b4 u Q f (if i = 0 then 0 else if i = 1 then 0 + v.1 24 0 else if i = 2 then 0 + v.1 24 0 + v.1 24 1 else if i = 3 then 0 + v.1 24 0 + v.1 24 1 + v.1 24 2 else 0 + v.1 24 0 + v.1 24 1 + v.1 24 2 + v.1 24 3) (nI i)) 4 (fun f => ?_) (fun f i hi ih => ?_) 0 (by omega)
    · unfold wX8_bytesOfLaws_b4
      refine ⟨fun _ => ?_, fun cc => absurd ((nI_leI (a := 4) (b := 4) (by omega) (by omega)).mpr (Nat.le_refl _)) cc⟩
      have e : (0 : Int32) + v.1 24 0 + v.1 24 1 + v.1 24 2 + v.1 24 3 = v.1 24 0 + v.1 24 1 + v.1 24 2 + v.1 24 3 := by grind
      show Q (0 + v.1 24 0 + v.1 24 1 + v.1 24 2 + v.1 24 3)
      rw [e]; exact hq
    · unfold wX8_bytesOfLaws_b4
      refine ⟨fun cc => absurd ((nI_leI (a := 4) (b := i) (by omega) (by omega)).mp cc) (by omega), fun _ => ⟨vp_in_nI hi (by omega), fun j hj ej x ex y ey => ?_⟩⟩
      have : j = i := nI_j (by omega) (by omega) ej
      subst this
      rw [hN j hj] at ex
      rw [ey, nI_1, ex]
      rcases (show j = 0 ∨ j = 1 ∨ j = 2 ∨ j = 3 by omega) with rfl | rfl | rfl | rfl <;> exact ih
  exact key
def cntV (v : Mm) (a : Int32) : Int32 := if a = nI 0 then v.1 101 0 else if a = nI 1 then nI (cwN v (nrow v)) else if a = nI 2 then v.1 106 0 else if a = nI 3 then v.1 118 0 else if a = nI 4 then nI (tru (v.1 9) 6) else if a = nI 5 then nI (tru (v.1 14) 48) else if a = nI 6 then nI (tru (v.1 22) 72) else if a = nI 7 then v.1 24 0 + v.1 24 1 + v.1 24 2 + v.1 24 3 else if a = nI 8 then v.1 142 0 else -2
theorem cntV_t (m : Mm) (a : Int32) : cntV (tV m) a = cntV m a := by
  have e : cwN (tV m) (nrow (tV m)) = cwN m (nrow m) := cwN_t m _
  unfold cntV
  rw [e]
  rfl
theorem cntV_out {v : Mm} {a : Int32} (h : a.toInt < 0 ∨ (8 : Int) < a.toInt) : cntV v a = -2 := by
  have g : ∀ j, j ≤ 8 → ¬ a = nI j := fun j hj e => by rw [e, nI_toInt (by omega)] at h; omega
  unfold cntV
  rw [if_neg (g 0 (by omega)), if_neg (g 1 (by omega)), if_neg (g 2 (by omega)), if_neg (g 3 (by omega)), if_neg (g 4 (by omega)), if_neg (g 5 (by omega)), if_neg (g 6 (by omega)), if_neg (g 7 (by omega)), if_neg (g 8 (by omega))]
theorem countC_w {u v : Mm} (h : Rel u v) (a : Int32) {Q : Int32 → Mm → Prop} (hq : ∀ u1, pU u1 = pU u → Q (cntV v a) u1) : wX8_count u a Q := by
  have e0 := h.2.1.1
  have hE := h.2.2.2.2.1.1
  have hF := h.2.2.2.2.2.1
  have hG := h.2.2.2.2.2.2.1
  have hH := h.2.2.2.2.2.2.2.1.1
  have hM := h.2.2.2.2.2.2.2.2.2.2.2.2.1
  have hP := h.2.2.2.2.2.2.2.2.2.2.2.2.2.2.2.1
  have q0 := hq u rfl
  unfold wX8_count
  refine ⟨fun e => ?_, fun e => ?_, fun e => ?_, fun e => ?_, fun e => ?_, fun e => ?_, fun e => ?_, fun e => ?_, fun e => ?_, fun e => ?_⟩
  · subst e; rw [e0]; exact q0
  · subst e; exact cntRows_w h hq
  · subst e; rw [hE]; exact q0
  · subst e; rw [hH]; exact q0
  · subst e; refine true_w (by omega) ?_; rw [tru_congr 6 (fun k hk => (hF k hk).1)]; exact q0
  · subst e; refine true_w (by omega) ?_; rw [tru_congr 48 (fun k hk => (hG k hk).1)]; exact q0
  · subst e; refine true_w (by omega) ?_; rw [tru_congr 72 (fun k hk => (hM k hk).2.1)]; exact q0
  · subst e; exact bytes_w h q0
  · subst e; rw [hP]; exact q0
  · rw [cntV_out e] at q0; exact q0
theorem countR_w2 {u v : Mm} (h : Rel u v) (a : Int32) {Q : Int32 → Mm → Prop} (hq : ∀ v1, Rel u v1 → tV v1 = tV v → rR1 v1 → Q (cntV v a) v1) : wX9_count v a Q := by
  unfold wX9_count
  refine looks_rel h (fun v1 h2 ht hr => ?_)
  have q0 := hq v1 h2 ht hr
  rw [← tV_f ht (fun m => cntV m a) (fun m => cntV_t m a)] at q0
  obtain ⟨n80, e101, -⟩ := rel_n h2
  have hF := h2.2.2.2.2.2.1
  refine ⟨fun e => ?_, fun e => ?_, fun e => ?_, fun e => ?_, fun e => ?_, fun e => ?_, fun e => ?_, fun e => ?_, fun e => ?_, fun e => ?_⟩
  · subst e; exact q0
  · subst e
    refine loopF (fun f i => wX9_count_b63 Q f v1 (nI (cwN v1 i)) (nI i)) (nrow v1) (fun f => ?_) (fun f i hi ih => ?_) 0 (by omega)
    · unfold wX9_count_b63
      rw [e101]
      exact ⟨fun _ => q0, fun cc => absurd ((nI_leI (by omega) (by omega)).mpr (Nat.le_refl _)) cc⟩
    · have es : cwN v1 (i + 1) = if cntS v1 i = 0 then cwN v1 i else cwN v1 i + 1 := rfl
      unfold wX9_count_b63
      rw [e101, nI_clamp (n := i) (by omega), hr.2.1 i hi]
      refine ⟨fun cc => absurd ((nI_leI (a := nrow v1) (b := i) (by omega) (by omega)).mp cc) (by omega), fun _ => ⟨vp_in_nI (by omega) (by omega), fun z x ex y ey => ?_, fun z x ex y ey => ?_⟩⟩
      · rw [if_pos z] at es
        rw [ex, ey, nI_1, nI_0', ← es]; exact ih
      · rw [if_neg z] at es
        rw [ex, ey, nI_1, nI_1, ← es]; exact ih
  · subst e; exact q0
  · subst e; exact q0
  · subst e
    refine loopF (fun f i => wX9_count_b108 Q f v1 (nI (tru (v1.1 9) i)) (nI i)) 6 (fun f => ?_) (fun f i hi ih => ?_) 0 (by omega)
    · unfold wX9_count_b108
      exact ⟨fun _ => q0, fun cc => absurd ((nI_leI (a := 6) (b := 6) (by omega) (by omega)).mpr (Nat.le_refl _)) cc⟩
    · have es : tru (v1.1 9) (i + 1) = if v1.1 9 i = 0 then tru (v1.1 9) i else tru (v1.1 9) i + 1 := rfl
      unfold wX9_count_b108
      rw [nI_clamp (n := i) (by omega)]
      refine ⟨fun cc => absurd ((nI_leI (a := 6) (b := i) (by omega) (by omega)).mp cc) (by omega), fun _ => ⟨vp_in_nI hi (by omega), fun x ex y ey => ?_⟩⟩
      rcases (hF i hi).2 with z | z
      · rw [if_pos z] at es
        rw [ex, z, ey, nI_1, nI_0', ← es]; exact ih
      · rw [if_neg (by rw [z]; decide)] at es
        rw [ex, z, ey, nI_1, nI_1, ← es]; exact ih
  · subst e
    refine loopF (fun f i => wX9_count_b133 Q f v1 (nI (tru (v1.1 14) i)) (nI i)) 48 (fun f => ?_) (fun f i hi ih => ?_) 0 (by omega)
    · unfold wX9_count_b133
      exact ⟨fun _ => q0, fun cc => absurd ((nI_leI (a := 48) (b := 48) (by omega) (by omega)).mpr (Nat.le_refl _)) cc⟩
    · have es : tru (v1.1 14) (i + 1) = if v1.1 14 i = 0 then tru (v1.1 14) i else tru (v1.1 14) i + 1 := rfl
      unfold wX9_count_b133
      rw [nI_clamp (n := i) (by omega)]
      refine ⟨fun cc => absurd ((nI_leI (a := 48) (b := i) (by omega) (by omega)).mp cc) (by omega), fun _ => ⟨vp_in_nI hi (by omega), fun z x ex y ey => ?_, fun z x ex y ey => ?_⟩⟩
      · rw [if_pos z] at es
        rw [ex, ey, nI_1, nI_0', ← es]; exact ih
      · rw [if_neg z] at es
        rw [ex, ey, nI_1, nI_1, ← es]; exact ih
  · subst e
    refine loopF (fun f i => wX9_count_b166 Q f v1 (nI (tru (v1.1 22) i)) (nI i)) 72 (fun f => ?_) (fun f i hi ih => ?_) 0 (by omega)
    · unfold wX9_count_b166
      exact ⟨fun _ => q0, fun cc => absurd ((nI_leI (a := 72) (b := 72) (by omega) (by omega)).mpr (Nat.le_refl _)) cc⟩
    · have es : tru (v1.1 22) (i + 1) = if v1.1 22 i = 0 then tru (v1.1 22) i else tru (v1.1 22) i + 1 := rfl
      unfold wX9_count_b166
      rw [nI_clamp (n := i) (by omega)]
      refine ⟨fun cc => absurd ((nI_leI (a := 72) (b := i) (by omega) (by omega)).mp cc) (by omega), fun _ => ⟨vp_in_nI hi (by omega), fun z x ex y ey => ?_, fun z x ex y ey => ?_⟩⟩
      · rw [if_pos z] at es
        rw [ex, ey, nI_1, nI_0', ← es]; exact ih
      · rw [if_neg z] at es
        rw [ex, ey, nI_1, nI_1, ← es]; exact ih
  · subst e
    exact ⟨by unfold vp_in; decide, by unfold vp_in; decide, by unfold vp_in; decide, by unfold vp_in; decide, q0⟩
  · subst e; exact q0
  · rw [cntV_out e] at q0; exact q0
theorem st_count {u v : Mm} (h : Rel u v) (a1 : Int32) : wX8_count u a1 (fun (r : Int32) (u1 : Mm) => wX9_count v a1 (fun (r2 : Int32) (v1 : Mm) => r = r2 ∧ Rel u1 v1)) :=
  countC_w h a1 (fun _ hu => countR_w2 (rel_scr h hu rfl) a1 (fun _ h2 _ _ => ⟨rfl, h2⟩))
