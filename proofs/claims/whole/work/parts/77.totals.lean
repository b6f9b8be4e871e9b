/-! ===== shape, total, open, broken, breaks ===== -/
theorem firstCell_w {c : Nat} (h1 : 576 ≤ c) (h2 : c < 720) {Q : Int32 → Prop} (h : Q (nI (lineN c * 12 + 4 * yearN c))) : wX6_firstCellOf (nI c) Q := by
  unfold wX6_firstCellOf
  refine lineOfCode_w h2 (yearOf_w h2 ?_)
  rw [show (12 : Int32) = nI 12 from rfl, show (4 : Int32) = nI 4 from rfl, pk_mul, pk_mul, nI_add, show yearN c * 4 = 4 * yearN c by omega]
  exact h
theorem le0_iff {W : Nat} (hW : W ≤ 90) : (nI W ≤ 0 ↔ nI W = 0) := by
  rcases Nat.eq_zero_or_pos W with z | z
  · subst z; exact ⟨fun _ => rfl, fun _ => by decide⟩
  · exact ⟨fun c => absurd c (nI_nle (by omega) (by omega)), fun c => absurd c (nI_ne0 z (by omega))⟩
theorem wgt_le0 {v : Mm} (h : okT v) (c : Nat) : (wgtS v c ≤ 0 ↔ wgtS v c = 0) := by
  obtain ⟨_, W, -, hW, -, e⟩ := saidS_bd h c
  rw [e]; exact le0_iff hW
abbrev allSd (v : Mm) (c : Nat) : Prop := (∀ q, q < 4 → ¬ wgtS v (lineN c * 12 + 4 * yearN c + q) = 0) ∧ ¬ wgtS v c = 0
theorem blk_ann {u v : Mm} {c : Nat} (h1 : 576 ≤ c) (h2 : c < 720) (hb : blkOK u v (lineN c / 6) (yearN c)) : ((u.1 18 c).toInt64 = saidS v c ∧ u.1 19 c = wgtS v c) ∧ ∀ q, q < 4 → (u.1 18 (lineN c * 12 + 4 * yearN c + q)).toInt64 = saidS v (lineN c * 12 + 4 * yearN c + q) ∧ u.1 19 (lineN c * 12 + 4 * yearN c + q) = wgtS v (lineN c * 12 + 4 * yearN c + q) ∧ u.2 21 (lineN c * 12 + 4 * yearN c + q) = bentS v (lineN c) (yearN c) q ∧ u.2 22 (lineN c * 12 + 4 * yearN c + q) = closS v (lineN c / 6) (yearN c) q (lineN c % 6) := by
  obtain ⟨-, -, -, -, -, -, x7⟩ := aix h1 h2
  have hb2 := hb (lineN c % 6) (by omega)
  rw [x7, show lineN c / 6 * 6 + lineN c % 6 = lineN c by omega] at hb2
  exact hb2
theorem shapeC_w {u v : Mm} {c : Nat} (h1 : 576 ≤ c) (h2 : c < 720) (hb : blkOK u v (lineN c / 6) (yearN c)) {Q : Int64 → Prop} (hq : Q (sumL (fun q => amt (bentS v (lineN c) (yearN c) q - saidS v (lineN c * 12 + 4 * yearN c + q))) 4)) : wX6_shapeOf u (nI c) Q := by
  obtain ⟨-, x2, x3, x4, x5, x6, x7⟩ := aix h1 h2
  have hl := lineN_lt h2
  have hbk := (blk_ann h1 h2 hb).2
  unfold wX6_shapeOf
  refine firstCell_w h1 h2 ?_
  refine loopF (fun f i => wX6_shapeOf_b10 u Q f (nI (lineN c * 12 + 4 * yearN c)) (sumL (fun q => amt (bentS v (lineN c) (yearN c) q - saidS v (lineN c * 12 + 4 * yearN c + q))) i) (nI i)) 4 (fun f => ?_) (fun f i hi ih => ?_) 0 (by omega)
  · unfold wX6_shapeOf_b10
    exact ⟨fun _ => hq, fun cc => absurd ((nI_leI (a := 4) (b := 4) (by omega) (by omega)).mpr (Nat.le_refl _)) cc⟩
  · unfold wX6_shapeOf_b10
    rw [nI_add, nI_clamp (n := lineN c * 12 + 4 * yearN c + i) (by omega), (hbk i hi).1, (hbk i hi).2.2.1]
    refine ⟨fun cc => absurd ((nI_leI (a := 4) (b := i) (by omega) (by omega)).mp cc) (by omega), fun _ => ⟨vp_in_nI (by omega) (by omega), vp_in_nI (by omega) (by omega), absC_w (fun x ex y ey => ?_)⟩⟩
    rw [ex, ey, nI_1]
    exact ih
theorem allSaid_w {u v : Mm} (h : okT v) {c : Nat} (h1 : 576 ≤ c) (h2 : c < 720) (hb : blkOK u v (lineN c / 6) (yearN c)) {Q : Int32 → Prop} (q0 : ¬ allSd v c → Q 0) (q1 : allSd v c → Q 1) : wX6_isAllSaid u (nI c) Q := by
  obtain ⟨-, x2, x3, x4, x5, x6, x7⟩ := aix h1 h2
  have hl := lineN_lt h2
  obtain ⟨ha, hbk⟩ := blk_ann h1 h2 hb
  unfold wX6_isAllSaid
  refine firstCell_w h1 h2 ?_
  refine loopS (fun f i (_ : Unit) => wX6_isAllSaid_b7 u Q f (nI c) (nI (lineN c * 12 + 4 * yearN c)) (nI i)) (fun i _ => ∀ q, q < i → ¬ wgtS v (lineN c * 12 + 4 * yearN c + q) = 0) 4 (fun f _ hI => ?_) (fun f i _ hi hI ih => ?_) 0 () (by omega) (fun c hc => absurd hc (by omega))
  · unfold wX6_isAllSaid_b7
    rw [nI_clamp (n := c) (by omega), ha.2, wgt_le0 h]
    exact ⟨fun _ => ⟨vp_in_nI (by omega) (by omega), fun z => q0 (fun a => a.2 z), fun z => q1 ⟨hI, z⟩⟩, fun cc => absurd ((nI_leI (a := 4) (b := 4) (by omega) (by omega)).mpr (Nat.le_refl _)) cc⟩
  · unfold wX6_isAllSaid_b7
    rw [nI_add, nI_clamp (n := lineN c * 12 + 4 * yearN c + i) (by omega), (hbk i hi).2.1]
    refine ⟨fun cc => absurd ((nI_leI (a := 4) (b := i) (by omega) (by omega)).mp cc) (by omega), fun _ => ⟨vp_in_nI (by omega) (by omega), fun z => q0 (fun a => a.1 i hi z), fun z y ey => ?_⟩⟩
    rw [ey, nI_1]
    refine ih () (fun q hq => ?_)
    by_cases e : q = i
    · subst e; exact z
    · exact hI q (by omega)
/-- the first cell of an annual code, as the reference finds it -/
theorem cellR_w {c : Nat} (h1 : 576 ≤ c) (h2 : c < 720) {Q : Int32 → Prop} (h : Q (nI (lineN c * 12 + 4 * yearN c))) : wX9_landOf (nI c) (fun (r5 : Int32) => wX9_productOf (nI c) (fun (r6 : Int32) => wX9_columnOf (nI c) (fun (r7 : Int32) => wX9_timeOf (nI c) (fun (r8 : Int32) => wX9_cellOf r5 r6 r7 ((4 : Int32) * r8) Q)))) := by
  obtain ⟨-, x2, x3, x4, x5, x6, x7⟩ := aix h1 h2
  refine landR_w h2 (productR_w h2 (columnR_w h2 (timeR_w h2 ?_)))
  unfold wX9_cellOf
  rw [show (4 : Int32) * nI (perN c) = nI (4 * perN c) by rw [show (4 : Int32) = nI 4 from rfl, pk_mul], cell_R, x6, ← x5, show lineN c / 6 * 6 + lineN c % 6 = lineN c by omega]
  exact h
theorem rR_ann {v : Mm} (hr : rR1 v) {c q : Nat} (h1 : 576 ≤ c) (h2 : c < 720) (hq : q < 4) : v.2 13 (lineN c * 12 + 4 * yearN c + q) = bentS v (lineN c) (yearN c) q ∧ v.2 15 (lineN c * 12 + 4 * yearN c + q) = closS v (lineN c / 6) (yearN c) q (lineN c % 6) := by
  obtain ⟨-, x2, x3, x4, x5, x6, x7⟩ := aix h1 h2
  have hl := lineN_lt h2
  have := hr.2.2.1 (lineN c / 6) (lineN c % 6) (yearN c) q (by omega) (by omega) x4 hq
  rw [show lineN c / 6 * 6 + lineN c % 6 = lineN c by omega] at this
  exact this
theorem shapeR_w {u v : Mm} (h : Rel u v) {c : Nat} (h1 : 576 ≤ c) (h2 : c < 720) {Q : Int64 → Mm → Prop} (q0 : ¬ allSd v c → ∀ v1, Rel u v1 → Q (-9223372036854775805) v1) (q1 : allSd v c → ∀ v1, Rel u v1 → Q (sumL (fun q => amt (bentS v (lineN c) (yearN c) q - saidS v (lineN c * 12 + 4 * yearN c + q))) 4) v1) : wX9_looks v (fun (u4 : Mm) => wX9_landOf (nI c) (fun (r5 : Int32) => wX9_productOf (nI c) (fun (r6 : Int32) => wX9_columnOf (nI c) (fun (r7 : Int32) => wX9_timeOf (nI c) (fun (r8 : Int32) => wX9_cellOf r5 r6 r7 ((4 : Int32) * r8) (fun (r9 : Int32) => ∃ n49, wX9_shape_b49 Q n49 u4 (nI c) r9 (0 : Int64) r9)))))) := by
  obtain ⟨-, x2, x3, x4, x5, x6, x7⟩ := aix h1 h2
  have hl := lineN_lt h2
  refine looks_rel h (fun v1 h3 ht hr => cellR_w h1 h2 ?_)
  have eA : allSd v c = allSd v1 c := (tV_f ht (fun m => allSd m c) (fun _ => rfl)).symm
  have eS : sumL (fun q => amt (bentS v (lineN c) (yearN c) q - saidS v (lineN c * 12 + 4 * yearN c + q))) 4 = sumL (fun q => amt (bentS v1 (lineN c) (yearN c) q - saidS v1 (lineN c * 12 + 4 * yearN c + q))) 4 := (tV_f ht (fun m => sumL (fun q => amt (bentS m (lineN c) (yearN c) q - saidS m (lineN c * 12 + 4 * yearN c + q))) 4) (fun _ => rfl)).symm
  rw [eA] at q0 q1
  rw [eS] at q1
  refine loopS (fun f i (_ : Unit) => wX9_shape_b49 Q f v1 (nI c) (nI (lineN c * 12 + 4 * yearN c)) (sumL (fun q => amt (bentS v1 (lineN c) (yearN c) q - saidS v1 (lineN c * 12 + 4 * yearN c + q))) i) (nI (lineN c * 12 + 4 * yearN c + i))) (fun i _ => (∀ q, q < i → ¬ wgtS v1 (lineN c * 12 + 4 * yearN c + q) = 0) ∧ (0 < i → ¬ wgtS v1 c = 0)) 4 (fun f _ hI => ?_) (fun f i _ hi hI ih => ?_) 0 () (by omega) ⟨fun c hc => absurd hc (by omega), fun hc => absurd hc (by omega)⟩
  · unfold wX9_shape_b49
    rw [show nI (lineN c * 12 + 4 * yearN c) + (4 : Int32) = nI (lineN c * 12 + 4 * yearN c + 4) by rw [show (4 : Int32) = nI 4 from rfl, nI_add]]
    exact ⟨fun _ => q1 ⟨hI.1, hI.2 (by omega)⟩ v1 h3, fun cc => absurd ((nI_leI (a := lineN c * 12 + 4 * yearN c + 4) (b := lineN c * 12 + 4 * yearN c + 4) (by omega) (by omega)).mpr (Nat.le_refl _)) cc⟩
  · unfold wX9_shape_b49
    rw [show nI (lineN c * 12 + 4 * yearN c) + (4 : Int32) = nI (lineN c * 12 + 4 * yearN c + 4) by rw [show (4 : Int32) = nI 4 from rfl, nI_add], nI_clamp (n := lineN c * 12 + 4 * yearN c + i) (by omega), nI_clamp (n := c) (by omega), (hr.1 _ (show lineN c * 12 + 4 * yearN c + i < 720 by omega)).2, (hr.1 _ (show lineN c * 12 + 4 * yearN c + i < 720 by omega)).1, (hr.1 c h2).2, (rR_ann hr h1 h2 hi).1]
    refine ⟨fun cc => absurd ((nI_leI (a := lineN c * 12 + 4 * yearN c + 4) (b := lineN c * 12 + 4 * yearN c + i) (by omega) (by omega)).mp cc) (by omega), fun _ => ⟨vp_in_nI (by omega) (by omega), fun z => q0 (fun a => a.1 i hi z) v1 h3, fun z => ⟨vp_in_nI (by omega) (by omega), fun z2 => q0 (fun a => a.2 z2) v1 h3, fun z2 => ⟨vp_in_nI (by omega) (by omega), vp_in_nI (by omega) (by omega), amountR_w (fun x ex y ey => ?_)⟩⟩⟩⟩
    rw [ex, ey, nI_1]
    refine ih () ⟨fun q hq => ?_, fun _ => z2⟩
    by_cases e : q = i
    · subst e; exact z
    · exact hI.1 q (by omega)
theorem st_shape {u v : Mm} (h : Rel u v) (a1 : Int32) : wX8_shape u a1 (fun (r : Int64) (u1 : Mm) => wX9_shape v a1 (fun (r2 : Int64) (v1 : Mm) => r = r2 ∧ Rel u1 v1)) := by
  unfold wX8_shape
  refine below_b 720 (fun n => ?_) (fun p => ?_)
  · unfold wX9_shape; exact refused_bad (isCode_b (fun _ => ⟨rfl, h⟩) (fun z => absurd z n))
  · obtain ⟨c, hc, rfl⟩ := ix_of 720 p
    refine isAnnual_w hc (fun g => br0 (refused_bad ?_)) (fun g => br1 ?_)
    · unfold wX9_shape
      exact isCode_b (fun z => absurd p z) (fun _ => isCell_b (fun z => absurd (ix_in g) z) (fun _ => ⟨rfl, h⟩))
    · have hcell : ¬ (0 ≤ (nI c).toInt ∧ (nI c).toInt < 576) := by rw [nI_toInt (by omega)]; omega
      obtain ⟨-, x2, x3, x4, x5, x6, x7⟩ := aix g hc
      refine landOf_w hc (productOf_w hc (yearOf_w hc (settle_rel h x2 x3 x4 (fun u1 h1 hb _ _ _ => ?_))))
      rw [x6] at hb
      refine allSaid_w (rel_okT h1) g hc hb (fun z => br0 (refused_not ?_)) (fun z => br1 (shapeC_w g hc hb ?_))
      · unfold wX9_shape
        exact isCode_b (fun y => absurd p y) (fun _ => isCell_b (fun _ => shapeR_w h1 g hc (fun _ v1 h3 => ⟨rfl, h3⟩) (fun y => absurd y z)) (fun y => absurd y hcell))
      · unfold wX9_shape
        exact isCode_b (fun y => absurd p y) (fun _ => isCell_b (fun _ => shapeR_w h1 g hc (fun y => absurd z y) (fun _ v1 h3 => ⟨rfl, h3⟩)) (fun y => absurd y hcell))
/-- all blocks are settled -/
def Sd (u v : Mm) : Prop := Rel u v ∧ ∀ lp y, lp < 8 → y < 3 → blkOK u v lp y
abbrev inA (a : Int32) (k : Nat) : Prop := a = -1 ∨ a = nI k
def totS (v : Mm) (a1 a2 : Int32) (c t : Nat) : Nat → Int64 := sumL (fun k => if inA a1 (k / 4) ∧ inA a2 (k % 4) then closS v k (t / 4) (t % 4) c else 0)
theorem sumC_w {u v : Mm} (h : Sd u v) (a1 a2 : Int32) {c t : Nat} (hc : c < 6) (ht : t < 12) {Q : Int64 → Prop} (hq : Q (totS v a1 a2 c t 8)) : wX6_sumOf u a1 a2 (nI c) (nI t) Q := by
  unfold wX6_sumOf
  refine loopF (fun f i => wX6_sumOf_b6 u Q f a1 a2 (nI c) (nI t) (totS v a1 a2 c t (4 * i)) (nI i)) 2 (fun f => ?_) (fun f i hi ih => ?_) 0 (by omega)
  · unfold wX6_sumOf_b6
    exact ⟨fun _ => hq, fun cc => absurd ((nI_leI (a := 2) (b := 2) (by omega) (by omega)).mpr (Nat.le_refl _)) cc⟩
  · unfold wX6_sumOf_b6
    refine ⟨fun cc => absurd ((nI_leI (a := 2) (b := i) (by omega) (by omega)).mp cc) (by omega), fun _ => ?_⟩
    refine loopF (fun g j => wX6_sumOf_b15 u (fun (x1 : Int32) (x2 : Int32) (x3 : Int32) (x4 : Int32) (x5 : Int64) (x7 : Int32) => wX6_sumOf_b6 u Q f x1 x2 x3 x4 x5 x7) Q g a1 a2 (nI c) (nI t) (totS v a1 a2 c t (4 * i + j)) (nI i) (nI j)) 4 (fun g => ?_) (fun g j hj ih2 => ?_) 0 (by omega)
    · unfold wX6_sumOf_b15
      refine ⟨fun _ y ey => ?_, fun cc => absurd ((nI_leI (a := 4) (b := 4) (by omega) (by omega)).mpr (Nat.le_refl _)) cc⟩
      rw [ey, nI_1, show 4 * i + 4 = 4 * (i + 1) by omega]
      exact ih
    · have es : totS v a1 a2 c t (4 * i + j + 1) = totS v a1 a2 c t (4 * i + j) + (if inA a1 ((4 * i + j) / 4) ∧ inA a2 ((4 * i + j) % 4) then closS v (4 * i + j) (t / 4) (t % 4) c else 0) := rfl
      rw [show (4 * i + j) / 4 = i by omega, show (4 * i + j) % 4 = j by omega] at es
      rw [show 4 * i + (j + 1) = 4 * i + j + 1 by omega] at ih2
      have skip : ¬ (inA a1 i ∧ inA a2 j) → wX6_sumOf_b15 u (fun (x1 : Int32) (x2 : Int32) (x3 : Int32) (x4 : Int32) (x5 : Int64) (x7 : Int32) => wX6_sumOf_b6 u Q f x1 x2 x3 x4 x5 x7) Q g a1 a2 (nI c) (nI t) (totS v a1 a2 c t (4 * i + j)) (nI i) (nI (j + 1)) := fun d => by
        rw [if_neg d] at es
        rw [show totS v a1 a2 c t (4 * i + j) = totS v a1 a2 c t (4 * i + j + 1) by rw [es]; grind]
        exact ih2
      have take : inA a1 i → inA a2 j → wX6_sumOf_b43 u (fun (x1 : Int32) (x2 : Int32) (x3 : Int32) (x4 : Int32) (x5 : Int64) (x7 : Int32) (x8 : Int32) => wX6_sumOf_b15 u (fun (x1 : Int32) (x2 : Int32) (x3 : Int32) (x4 : Int32) (x5 : Int64) (x7 : Int32) => wX6_sumOf_b6 u Q f x1 x2 x3 x4 x5 x7) Q g x1 x2 x3 x4 x5 x7 x8) Q a1 a2 (nI c) (nI t) (totS v a1 a2 c t (4 * i + j)) (nI i) (nI j) := fun d1 d2 => by
        rw [if_pos ⟨d1, d2⟩] at es
        unfold wX6_sumOf_b43 wX8_cellCode
        rw [cell_C]
        dsimp only
        have e1 := (blk_at (c := c) (t := t) (h.2 (i * 4 + j) (t / 4) (by omega) (by omega)) hc).2.2.2
        rw [nI_clamp (n := ((i * 4 + j) * 6 + c) * 12 + t) (by omega), e1]
        refine ⟨vp_in_nI (by omega) (by omega), fun x ex y ey => ?_⟩
        rw [show i * 4 + j = 4 * i + j by omega] at ex
        rw [ex, ey, nI_1, ← es]
        exact ih2
      have mid : inA a1 i → wX6_sumOf_b32 u (fun (x1 : Int32) (x2 : Int32) (x3 : Int32) (x4 : Int32) (x5 : Int64) (x7 : Int32) (x8 : Int32) => wX6_sumOf_b15 u (fun (x1 : Int32) (x2 : Int32) (x3 : Int32) (x4 : Int32) (x5 : Int64) (x7 : Int32) => wX6_sumOf_b6 u Q f x1 x2 x3 x4 x5 x7) Q g x1 x2 x3 x4 x5 x7 x8) Q a1 a2 (nI c) (nI t) (totS v a1 a2 c t (4 * i + j)) (nI i) (nI j) := fun d1 => by
        unfold wX6_sumOf_b32
        refine ⟨fun z => take d1 (Or.inl z), fun z => ⟨fun z2 => take d1 (Or.inr z2), fun z2 y ey => ?_⟩⟩
        rw [ey, nI_1]
        exact skip (fun d => d.2.elim z z2)
      unfold wX6_sumOf_b15
      refine ⟨fun cc => absurd ((nI_leI (a := 4) (b := j) (by omega) (by omega)).mp cc) (by omega), fun _ => ⟨fun z => mid (Or.inl z), fun z => ⟨fun z2 => mid (Or.inr z2), fun z2 y ey => ?_⟩⟩⟩
      rw [ey, nI_1]
      exact skip (fun d => d.1.elim z z2)
theorem totalR_w {v : Mm} (h : rR1 v) (a1 a2 : Int32) {c t : Nat} (hc : c < 6) (ht : t < 12) {Q : Int64 → Prop} (hq : Q (totS v a1 a2 c t 8)) : wX9_totalOf v a1 a2 (nI c) (nI t) Q := by
  unfold wX9_totalOf
  refine loopF (fun f i => wX9_totalOf_b6 v Q f a1 a2 (nI c) (nI t) (totS v a1 a2 c t i) (nI i)) 8 (fun f => ?_) (fun f i hi ih => ?_) 0 (by omega)
  · unfold wX9_totalOf_b6
    exact ⟨fun _ => hq, fun cc => absurd ((nI_leI (a := 8) (b := 8) (by omega) (by omega)).mpr (Nat.le_refl _)) cc⟩
  · have es : totS v a1 a2 c t (i + 1) = totS v a1 a2 c t i + (if inA a1 (i / 4) ∧ inA a2 (i % 4) then closS v i (t / 4) (t % 4) c else 0) := rfl
    have d4 : nI i / (4 : Int32) = nI (i / 4) := by rw [show (4 : Int32) = nI 4 from rfl, pk_div (by omega) (by omega) (by omega)]
    have r4 : jrem (nI i) (4 : Int32) = nI (i % 4) := by
      rw [show (4 : Int32) = nI 4 from rfl]
      unfold jrem
      rw [pk_rem (by omega) (by decide) (by decide)]
    have no : ¬ (inA a1 (i / 4) ∧ inA a2 (i % 4)) → wX9_totalOf_b44 v (fun (x1 : Int32) (x2 : Int32) (x3 : Int32) (x4 : Int32) (x5 : Int64) (x7 : Int32) => wX9_totalOf_b6 v Q f x1 x2 x3 x4 x5 x7) Q a1 a2 (nI c) (nI t) (totS v a1 a2 c t i) (nI i) (0 : Int32) := fun d => by
      rw [if_neg d] at es
      unfold wX9_totalOf_b44
      refine ⟨fun _ x ex y ey => ?_, fun z => absurd rfl z⟩
      rw [ex, ey, nI_1, ← es]; exact ih
    have yes : inA a1 (i / 4) → inA a2 (i % 4) → wX9_totalOf_b44 v (fun (x1 : Int32) (x2 : Int32) (x3 : Int32) (x4 : Int32) (x5 : Int64) (x7 : Int32) => wX9_totalOf_b6 v Q f x1 x2 x3 x4 x5 x7) Q a1 a2 (nI c) (nI t) (totS v a1 a2 c t i) (nI i) (1 : Int32) := fun d1 d2 => by
      rw [if_pos ⟨d1, d2⟩] at es
      unfold wX9_totalOf_b44 wX9_cellOf
      rw [d4, r4, cell_R, show i / 4 * 4 + i % 4 = i by omega]
      refine ⟨fun z => absurd z (by decide), fun _ => ⟨vp_in_nI (by omega) (by omega), fun x ex y ey => ?_⟩⟩
      rw [nI_clamp (n := (i * 6 + c) * 12 + t) (by omega), (rR_at h hi hc ht).2] at ex
      rw [ex, ey, nI_1, ← es]; exact ih
    have mid : inA a1 (i / 4) → wX9_totalOf_b26 v (fun (x1 : Int32) (x2 : Int32) (x3 : Int32) (x4 : Int32) (x5 : Int64) (x7 : Int32) (y0 : Int32) => wX9_totalOf_b44 v (fun (x1 : Int32) (x2 : Int32) (x3 : Int32) (x4 : Int32) (x5 : Int64) (x7 : Int32) => wX9_totalOf_b6 v Q f x1 x2 x3 x4 x5 x7) Q x1 x2 x3 x4 x5 x7 y0) Q a1 a2 (nI c) (nI t) (totS v a1 a2 c t i) (nI i) := fun d1 => by
      unfold wX9_totalOf_b26
      rw [r4]
      exact ⟨fun z => yes d1 (Or.inl z), fun z => ⟨fun z2 => yes d1 (Or.inr z2), fun z2 => no (fun d => d.2.elim z z2)⟩⟩
    unfold wX9_totalOf_b6
    rw [d4]
    exact ⟨fun cc => absurd ((nI_leI (a := 8) (b := i) (by omega) (by omega)).mp cc) (by omega), fun _ => ⟨fun z => mid (Or.inl z), fun z => ⟨fun z2 => mid (Or.inr z2), fun z2 => no (fun d => d.1.elim z z2)⟩⟩⟩
theorem setAll_w {u v : Mm} (h : Rel u v) {Q : Mm → Prop} (hq : ∀ u1, Sd u1 v → Q u1) : wX6_settleAll u Q := settleAll_rel h (fun u1 h1 h2 _ => hq u1 ⟨h1, h2⟩)
theorem looks_Sd {u v : Mm} (h : Sd u v) {Q : Mm → Prop} (hq : ∀ v1, Sd u v1 → tV v1 = tV v → rR1 v1 → Q v1) : wX9_looks v Q := looks_rel h.1 (fun v1 h1 ht hr => hq v1 ⟨h1, fun lp y hl hy => blk_L ht (h.2 lp y hl hy)⟩ ht hr)
theorem st_total {u v : Mm} (h : Rel u v) (a1 a2 a3 a4 : Int32) : wX8_total u a1 a2 a3 a4 (fun (r : Int64) (u1 : Mm) => wX9_total v a1 a2 a3 a4 (fun (r2 : Int64) (v1 : Mm) => r = r2 ∧ Rel u1 v1)) := by
  unfold wX8_total wX9_total
  refine within_b (-1) 1 (fun n => refused_bad (in_b (-1) 1 (fun _ => ⟨rfl, h⟩) (fun z => absurd z n))) (fun p1 => within_b (-1) 3 (fun n => refused_bad (in_b (-1) 1 (fun z => absurd p1 z) (fun _ => in_b (-1) 3 (fun _ => ⟨rfl, h⟩) (fun z => absurd z n)))) (fun p2 => below_b 6 (fun n => refused_bad (in_b (-1) 1 (fun z => absurd p1 z) (fun _ => in_b (-1) 3 (fun z => absurd p2 z) (fun _ => in_b 0 5 (fun _ => ⟨rfl, h⟩) (fun z => absurd (by omega) n))))) (fun p3 => below_b 12 (fun n => refused_bad (in_b (-1) 1 (fun z => absurd p1 z) (fun _ => in_b (-1) 3 (fun z => absurd p2 z) (fun _ => in_b 0 5 (fun z => absurd (by omega) z) (fun _ => in_b 0 11 (fun _ => ⟨rfl, h⟩) (fun z => absurd (by omega) n)))))) (fun p4 => ?_))))
  obtain ⟨c, hc, rfl⟩ := ix_of 6 p3
  obtain ⟨t, ht, rfl⟩ := ix_of 12 p4
  refine setAll_w h (fun u1 h1 => sumC_w h1 a1 a2 hc ht (in_b (-1) 1 (fun z => absurd p1 z) (fun _ => in_b (-1) 3 (fun z => absurd p2 z) (fun _ => in_b 0 5 (fun z => absurd (by omega) z) (fun _ => in_b 0 11 (fun z => absurd (by omega) z) (fun _ => ?_))))))
  refine looks_Sd h1 (fun v1 h2 htv hr => totalR_w hr a1 a2 hc ht ⟨?_, h2.1⟩)
  exact (tV_f htv (fun m => totS m a1 a2 c t 8) (fun _ => rfl)).symm
