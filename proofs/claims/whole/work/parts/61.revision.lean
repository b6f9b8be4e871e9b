theorem bestR_congr {RS RC RL RS2 RC2 RL2 : Nat → Int32} {n : Nat} (hn : n < 1000) (h : ∀ k, k < n → RS k = RS2 k ∧ RC k = RC2 k ∧ RL k = RL2 k) (code src last upTo : Int32) : ∀ i, i ≤ n → bestR RS RC RL code src last upTo i = bestR RS2 RC2 RL2 code src last upTo i
  | 0, _ => rfl
  | i + 1, hi => by
    have ih := bestR_congr hn h code src last upTo i (by omega)
    obtain ⟨a, b, c⟩ := h i (by omega)
    unfold bestR
    have e1 : isRow RS RC RL code src last upTo i = isRow RS2 RC2 RL2 code src last upTo i := by unfold isRow; rw [a, b, c]
    have e2 : bestR RS2 RC2 RL2 code src last upTo i = -1 ∨ RL (bestR RS2 RC2 RL2 code src last upTo i).toNatClampNeg = RL2 (bestR RS2 RC2 RL2 code src last upTo i).toNatClampNeg := by
      rcases bestR_lt RS2 RC2 RL2 code src last upTo i with z | ⟨k, hk, ek, -⟩
      · exact Or.inl z
      · right; rw [ek, nI_clamp (by omega)]; exact (h k (by omega)).2.2
    have e3 : (isRow RS RC RL code src last upTo i ∧ (bestR RS RC RL code src last upTo i = -1 ∨ RL (bestR RS RC RL code src last upTo i).toNatClampNeg ≤ RL i)) ↔ (isRow RS2 RC2 RL2 code src last upTo i ∧ (bestR RS2 RC2 RL2 code src last upTo i = -1 ∨ RL2 (bestR RS2 RC2 RL2 code src last upTo i).toNatClampNeg ≤ RL2 i)) := by
      rw [ih, e1, c]
      rcases e2 with z | z
      · rw [z]; simp
      · rw [z]
    by_cases d : isRow RS2 RC2 RL2 code src last upTo i ∧ (bestR RS2 RC2 RL2 code src last upTo i = -1 ∨ RL2 (bestR RS2 RC2 RL2 code src last upTo i).toNatClampNeg ≤ RL2 i)
    · rw [if_pos d, if_pos (e3.mpr d)]
    · rw [if_neg d, if_neg (fun y => d (e3.mp y)), ih]
theorem lastR_congr {RC RC2 : Nat → Int32} {n : Nat} (h : ∀ k, k < n → RC k = RC2 k) (c : Int32) : ∀ i, i ≤ n → lastR RC c i = lastR RC2 c i
  | 0, _ => rfl
  | i + 1, hi => by unfold lastR; rw [h i (by omega), lastR_congr h c i (by omega)]
theorem wgtR_congr {T RS RC RL T2 RS2 RC2 RL2 : Nat → Int32} {n : Nat} (hn : n < 1000) (hT : ∀ i, i < 10 → T i = T2 i) (h : ∀ k, k < n → RS k = RS2 k ∧ RC k = RC2 k ∧ RL k = RL2 k) (code last upTo : Int32) : ∀ s, s ≤ 10 → wgtR T RS RC RL n code last upTo s = wgtR T2 RS2 RC2 RL2 n code last upTo s
  | 0, _ => rfl
  | s + 1, hs => by
    unfold wgtR
    rw [wgtR_congr hn hT h code last upTo s (by omega), hT s (by omega), bestR_congr hn h code (nI s) last upTo n (Nat.le_refl n)]
theorem sumR_congr {T RS RC RV RL T2 RS2 RC2 RV2 RL2 : Nat → Int32} {n : Nat} (hn : n < 1000) (hT : ∀ i, i < 10 → T i = T2 i) (h : ∀ k, k < n → RS k = RS2 k ∧ RC k = RC2 k ∧ RL k = RL2 k) (hV : ∀ k, k < n → RV k = RV2 k) (code last upTo : Int32) : ∀ s, s ≤ 10 → sumR T RS RC RV RL n code last upTo s = sumR T2 RS2 RC2 RV2 RL2 n code last upTo s
  | 0, _ => rfl
  | s + 1, hs => by
    unfold sumR
    rw [sumR_congr hn hT h hV code last upTo s (by omega), hT s (by omega), bestR_congr hn h code (nI s) last upTo n (Nat.le_refl n)]
    by_cases c : bestR RS2 RC2 RL2 code (nI s) last upTo n = -1
    · rw [if_pos c, if_pos c]
    · rw [if_neg c, if_neg c]
      rcases bestR_lt RS2 RC2 RL2 code (nI s) last upTo n with z | ⟨k, hk, ek, -⟩
      · exact absurd z c
      · rw [ek, nI_clamp (by omega), hV k hk]
theorem saidR_congr {T RS RC RV RL T2 RS2 RC2 RV2 RL2 : Nat → Int32} {n : Nat} (hn : n < 1000) (hT : ∀ i, i < 10 → T i = T2 i) (h : ∀ k, k < n → RS k = RS2 k ∧ RC k = RC2 k ∧ RL k = RL2 k) (hV : ∀ k, k < n → RV k = RV2 k) (code last upTo : Int32) : saidR T RS RC RV RL n code last upTo = saidR T2 RS2 RC2 RV2 RL2 n code last upTo := by
  unfold saidR
  rw [wgtR_congr hn hT h code last upTo 10 (Nat.le_refl 10), sumR_congr hn hT h hV code last upTo 10 (Nat.le_refl 10)]
theorem rel_n {u v : Mm} (h : Rel u v) : nrow v ≤ 80 ∧ v.1 101 0 = nI (nrow v) ∧ u.1 124 0 = nI (nrow v) := ⟨h.2.1.2.1, h.2.1.2.2, h.2.1.1.trans h.2.1.2.2⟩
theorem tally_rel {u v : Mm} (h : Rel u v) {c : Nat} (hc : c < 720) (last upTo : Int32) {Q : Mm → Prop} (hq : ∀ u1 : Mm, pU u1 = pU u → u1.1 126 0 = wgtR (v.1 1) (v.1 2) (v.1 3) (v.1 5) (nrow v) (nI c) last upTo 10 → (u1.1 127 0).toInt64 = saidR (v.1 1) (v.1 2) (v.1 3) (v.1 4) (v.1 5) (nrow v) (nI c) last upTo → (∃ x, x ≤ 100000 ∧ u1.1 127 0 = nI x) → Q u1) : wX3_tally u (nI c) last upTo Q := by
  obtain ⟨n80, -, -⟩ := rel_n h
  have hA := h.1
  have hC : ∀ k, k < nrow v → _ := h.2.2.1
  have hD := h.2.2.2.1
  have hT : ∀ i, i < 10 → u.1 2 i = v.1 1 i := fun i hi => (hA i hi).1
  have hR : ∀ k, k < nrow v → u.1 3 k = v.1 2 k ∧ u.1 4 k = v.1 3 k ∧ u.1 6 k = v.1 5 k := fun k hk => ⟨(hC k hk).1, (hC k hk).2.1, (hC k hk).2.2.2.1⟩
  have hV : ∀ k, k < nrow v → u.1 5 k = v.1 4 k := fun k hk => (hC k hk).2.2.1
  have hcode : ∀ k, k < nrow v → u.1 4 k = v.1 3 k := fun k hk => (hR k hk).2.1
  refine tally_w n80 hc last upTo ?_ ?_ ?_ ?_ ?_ (fun u1 f1 f2 f3 f4 => hq u1 f1 ?_ ?_ f4)
  · rw [lastR_congr hcode (nI c) (nrow v) (Nat.le_refl _)]; exact hD.1 c hc
  · intro k hk; rw [lastR_congr hcode (u.1 4 k) k (by omega), hcode k hk]; exact hD.2 k hk
  · intro k hk
    obtain ⟨s, h1, h2⟩ := (hC k hk).2.2.2.2.1
    exact ⟨s, h1, (hR k hk).1.trans h2⟩
  · intro i hi
    obtain ⟨j, h1, h2⟩ := ix_of 10 (a := v.1 1 i) ⟨by have := (hA i hi).2; omega, by have := (hA i hi).2; omega⟩
    have h3 := (hA i hi).2
    rw [h2, nI_toInt (by omega)] at h3
    exact ⟨j, by omega, by omega, (hT i hi).trans h2⟩
  · intro k hk
    obtain ⟨x, h1, h2⟩ := (hC k hk).2.2.2.2.2.2.1
    exact ⟨x, h1, (hV k hk).trans h2⟩
  · rw [f2]; exact wgtR_congr (by omega) hT hR (nI c) last upTo 10 (Nat.le_refl 10)
  · rw [f3]; exact saidR_congr (by omega) hT hR hV (nI c) last upTo
abbrev okV (a b c : Int32) : Prop := (0 ≤ a.toInt ∧ a.toInt < 720) ∧ (0 ≤ b.toInt ∧ b.toInt < 10) ∧ (0 ≤ c.toInt ∧ c.toInt < 10) ∧ b.toInt < c.toInt
theorem isRevision_b {a b c : Int32} {A B : Prop} (h0 : ¬ okV a b c → A) (h1 : okV a b c → B) : wX8_isRevision a b c (fun r => (r = 0 → A) ∧ (¬ r = 0 → B)) := by
  unfold wX8_isRevision
  refine below_b 720 (fun n => br0 (h0 (fun z => n z.1))) (fun p => below_b 10 (fun n => br0 (h0 (fun z => n z.2.1))) (fun q => below_b 10 (fun n => br0 (h0 (fun z => n z.2.2.1))) (fun r => ?_)))
  rw [Int32.le_iff_toInt_le]
  exact ⟨fun d => br0 (h0 (fun z => by omega)), fun d => br1 (h1 ⟨p, q, r, by omega⟩)⟩
theorem areReleases_b {a b c : Int32} {A B : Prop} (h0 : ¬ okV a b c → A) (h1 : okV a b c → B) : wX9_areReleases a b c (fun r => (r = 0 → A) ∧ (¬ r = 0 → B)) := by
  unfold wX9_areReleases
  refine isCode_b (fun n => br0 (h0 (fun z => n z.1))) (fun p => in_b 0 9 (fun n => br0 (h0 (fun z => n (by omega)))) (fun q => ?_))
  obtain ⟨i, hi, rfl⟩ := ix_of 10 (a := b) (by omega)
  have e : ((nI i + (1 : Int32)).toInt64).toInt = (i : Int) + 1 := by
    rw [i64_T, show (1 : Int32) = nI 1 from rfl, nI_add, nI_toInt (by omega)]; omega
  have t9 : (9 : Int64).toInt = 9 := by decide
  have eb : (nI i).toInt = (i : Int) := nI_toInt (by omega)
  refine in_w (fun n => br0 (br0 (h0 (fun z => n ?_)))) (fun z => br1 (br1 (h1 ⟨p, by omega, ?_, ?_⟩)))
  · rw [e, t9]; have := z.2; omega
  · rw [e, t9] at z; omega
  · rw [e, t9] at z; omega
theorem rel_111 {u v : Mm} (h : Rel u v) (x : Int32) : Rel u (s32 v 111 0 x) := rel_scr h rfl (pV_s32 _ _ _ (by decide))
theorem meanWith_rel {u v : Mm} (h : Rel u v) {c : Nat} (hc : c < 720) (last upTo : Int32) {Q : Int64 → Mm → Prop} (hq : ∀ u1 : Mm, Rel u1 v → Q (saidR (v.1 1) (v.1 2) (v.1 3) (v.1 4) (v.1 5) (nrow v) (nI c) last upTo) u1) : wX3_meanWith u (nI c) last upTo Q := by
  unfold wX3_meanWith
  refine tally_rel h hc last upTo (fun u1 f1 f2 f3 f4 => ?_)
  rw [f3]
  exact hq u1 (rel_scr h f1 rfl)
theorem saidBy_rel {u v : Mm} (h : Rel u v) (code last upTo : Int32) {Q : Int64 → Mm → Prop} (hq : ∀ x, Q (saidR (v.1 1) (v.1 2) (v.1 3) (v.1 4) (v.1 5) (nrow v) code last upTo) (s32 v 111 0 x)) : wX9_saidBy v code last upTo Q := by
  obtain ⟨n80, e, -⟩ := rel_n h
  exact saidBy_w e n80 code last upTo (hq _)
theorem st_revision {u v : Mm} (h : Rel u v) (a1 a2 a3 : Int32) : wX8_revision u a1 a2 a3 (fun (r : Int64) (u1 : Mm) => wX9_revision v a1 a2 a3 (fun (r2 : Int64) (v1 : Mm) => r = r2 ∧ Rel u1 v1)) := by
  unfold wX8_revision
  refine isRevision_b (fun n => ?_) (fun p => ?_)
  · unfold wX9_revision; exact refused_bad (areReleases_b (fun _ => ⟨rfl, h⟩) (fun z => absurd z n))
  · obtain ⟨c, hc, rfl⟩ := ix_of 720 p.1
    refine meanWith_rel h hc a3 9 (fun u1 h1 => meanWith_rel h1 hc a2 9 (fun u2 h2 => ?_))
    unfold wX9_revision
    refine areReleases_b (fun z => absurd p z) (fun _ => saidBy_rel h (nI c) a3 9 (fun x => saidBy_rel (rel_111 h x) (nI c) a2 9 (fun y => ⟨rfl, rel_111 (rel_111 h2 x) y⟩)))
