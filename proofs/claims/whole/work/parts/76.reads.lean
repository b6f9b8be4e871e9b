/-! ===== reading: said, weight, bent, closed, gap, moved, shape ===== -/
theorem cix {c : Nat} (hc : c < 576) : lineN c / 24 < 2 ∧ lineN c / 6 % 4 < 4 ∧ yearN c < 3 ∧ lineN c / 24 * 4 + lineN c / 6 % 4 = c / 72 ∧ yearN c = c % 12 / 4 ∧ (c / 72 * 6 + c / 12 % 6) * 12 + c % 12 = c := by
  unfold lineN yearN
  rw [if_pos hc, if_pos hc]
  omega
theorem aix {c : Nat} (h1 : 576 ≤ c) (h2 : c < 720) : lineN c = (c - 576) / 3 ∧ lineN c / 24 < 2 ∧ lineN c / 6 % 4 < 4 ∧ yearN c < 3 ∧ yearN c = perN c ∧ lineN c / 24 * 4 + lineN c / 6 % 4 = lineN c / 6 ∧ 576 + (lineN c / 6 * 6 + lineN c % 6) * 3 + yearN c = c := by
  unfold lineN yearN perN
  rw [if_neg (by omega), if_neg (by omega), if_neg (by omega)]
  omega
theorem blk_L {u v v1 : Mm} (ht : tV v1 = tV v) {lp y : Nat} (hb : blkOK u v lp y) : blkOK u v1 lp y := by
  have g : ∀ P : Mm → Prop, P (tV v) → P (tV v1) := fun P hp => by rw [ht]; exact hp
  exact g (fun m => blkOK u m lp y) hb
theorem blk_at {u v : Mm} {lp c t : Nat} (hb : blkOK u v lp (t / 4)) (hc : c < 6) : (u.1 18 ((lp * 6 + c) * 12 + t)).toInt64 = saidS v ((lp * 6 + c) * 12 + t) ∧ u.1 19 ((lp * 6 + c) * 12 + t) = wgtS v ((lp * 6 + c) * 12 + t) ∧ u.2 21 ((lp * 6 + c) * 12 + t) = bentS v (lp * 6 + c) (t / 4) (t % 4) ∧ u.2 22 ((lp * 6 + c) * 12 + t) = closS v lp (t / 4) (t % 4) c := by
  have := (hb c hc).2 (t % 4) (by omega)
  rw [show (lp * 6 + c) * 12 + 4 * (t / 4) + t % 4 = (lp * 6 + c) * 12 + t by omega] at this
  exact this
theorem rR_at {v : Mm} (h : rR1 v) {lp c t : Nat} (hlp : lp < 8) (hc : c < 6) (ht : t < 12) : v.2 13 ((lp * 6 + c) * 12 + t) = bentS v (lp * 6 + c) (t / 4) (t % 4) ∧ v.2 15 ((lp * 6 + c) * 12 + t) = closS v lp (t / 4) (t % 4) c := by
  have := h.2.2.1 lp c (t / 4) (t % 4) hlp hc (by omega) (by omega)
  rw [show (lp * 6 + c) * 12 + 4 * (t / 4) + t % 4 = (lp * 6 + c) * 12 + t by omega] at this
  exact this
theorem rR_pl {v : Mm} (h : rR1 v) {lp t : Nat} (hlp : lp < 8) (ht : t < 12) : v.2 16 (lp * 12 + t) = movdS v lp (t / 4) (t % 4) ∧ v.1 17 (lp * 12 + t) = openS v lp (t / 4) (t % 4) := by
  have := h.2.2.2 lp (t / 4) (t % 4) hlp (by omega) (by omega)
  rw [show lp * 12 + 4 * (t / 4) + t % 4 = lp * 12 + t by omega] at this
  exact this
theorem tal_rel {u v : Mm} (h : Rel u v) {c : Nat} (hc : c < 720) {Q : Mm → Prop} (hq : ∀ u1 : Mm, Rel u1 v → u1.1 126 0 = wgtS v c → (u1.1 127 0).toInt64 = saidS v c → Q u1) : wX3_tally u (nI c) (u.1 125 0) (9 : Int32) Q := by
  rw [h.2.2.2.2.1.1]
  exact tally_rel h hc _ _ (fun u1 f1 f2 f3 _ => hq u1 (rel_scr h f1 rfl) f2 f3)
theorem st_said {u v : Mm} (h : Rel u v) (a1 : Int32) : wX8_said u a1 (fun (r : Int64) (u1 : Mm) => wX9_said v a1 (fun (r2 : Int64) (v1 : Mm) => r = r2 ∧ Rel u1 v1)) := by
  unfold wX8_said
  refine below_b 720 (fun n => ?_) (fun p => ?_)
  · unfold wX9_said; exact refused_bad (isCode_b (fun _ => ⟨rfl, h⟩) (fun z => absurd z n))
  · obtain ⟨c, hc, rfl⟩ := ix_of 720 p
    refine tal_rel h hc (fun u1 h1 e1 e2 => ?_)
    rw [e1, e2]
    refine ⟨fun z => refused_not ?_, fun z => ?_⟩
    · unfold wX9_said
      refine isCode_b (fun y => absurd p y) (fun _ => looks_rel h1 (fun v1 h2 ht hr => ⟨vp_in_nI hc (by omega), ?_⟩))
      rw [nI_clamp (n := c) (by omega), (hr.1 c hc).2, (hr.1 c hc).1, tV_f ht (fun m => wgtS m c) (fun _ => rfl)]
      exact ⟨fun _ => ⟨rfl, h2⟩, fun y => absurd z y⟩
    · unfold wX9_said
      refine isCode_b (fun y => absurd p y) (fun _ => looks_rel h1 (fun v1 h2 ht hr => ⟨vp_in_nI hc (by omega), ?_⟩))
      rw [nI_clamp (n := c) (by omega), (hr.1 c hc).2, (hr.1 c hc).1, tV_f ht (fun m => wgtS m c) (fun _ => rfl), tV_f ht (fun m => saidS m c) (fun _ => rfl)]
      exact ⟨fun y => absurd y z, fun _ => ⟨vp_in_nI hc (by omega), rfl, h2⟩⟩
theorem st_weight {u v : Mm} (h : Rel u v) (a1 : Int32) : wX8_weight u a1 (fun (r : Int32) (u1 : Mm) => wX9_weight v a1 (fun (r2 : Int32) (v1 : Mm) => r = r2 ∧ Rel u1 v1)) := by
  unfold wX8_weight
  refine below_b 720 (fun n => ?_) (fun p => ?_)
  · unfold wX9_weight; exact isCode_b (fun _ => ⟨rfl, h⟩) (fun z => absurd z n)
  · obtain ⟨c, hc, rfl⟩ := ix_of 720 p
    refine tal_rel h hc (fun u1 h1 e1 e2 => ?_)
    rw [e1]
    unfold wX9_weight
    refine isCode_b (fun y => absurd p y) (fun _ => looks_rel h1 (fun v1 h2 ht hr => ⟨vp_in_nI hc (by omega), ?_, h2⟩))
    rw [nI_clamp (n := c) (by omega), (hr.1 c hc).2, tV_f ht (fun m => wgtS m c) (fun _ => rfl)]
theorem st_bent {u v : Mm} (h : Rel u v) (a1 : Int32) : wX8_bent u a1 (fun (r : Int64) (u1 : Mm) => wX9_bent v a1 (fun (r2 : Int64) (v1 : Mm) => r = r2 ∧ Rel u1 v1)) := by
  unfold wX8_bent
  refine below_b 576 (fun n => ?_) (fun p => ?_)
  · unfold wX9_bent; exact refused_bad (isCell_b (fun _ => ⟨rfl, h⟩) (fun z => absurd z n))
  · obtain ⟨c, hc, rfl⟩ := ix_of 576 p
    obtain ⟨x1, x2, x3, x4, x5, x6⟩ := cix hc
    refine landOf_w (by omega) (productOf_w (by omega) (yearOf_w (by omega) (settle_rel h x1 x2 x3 (fun u1 h1 hb _ _ _ => ⟨vp_in_nI hc (by omega), ?_⟩))))
    unfold wX9_bent
    refine isCell_b (fun y => absurd p y) (fun _ => looks_rel h1 (fun v1 h2 ht hr => ⟨vp_in_nI hc (by omega), ?_, h2⟩))
    rw [x4, x5] at hb
    have e1 := (blk_at (c := c / 12 % 6) (t := c % 12) hb (by omega)).2.2.1
    have e2 := (rR_at (lp := c / 72) (c := c / 12 % 6) (t := c % 12) hr (by omega) (by omega) (by omega)).1
    rw [x6] at e1 e2
    rw [nI_clamp (n := c) (by omega), e1, e2]
    exact (tV_f ht (fun m => bentS m (c / 72 * 6 + c / 12 % 6) (c % 12 / 4) (c % 12 % 4)) (fun _ => rfl)).symm
theorem st_closed {u v : Mm} (h : Rel u v) (a1 : Int32) : wX8_closed u a1 (fun (r : Int64) (u1 : Mm) => wX9_closed v a1 (fun (r2 : Int64) (v1 : Mm) => r = r2 ∧ Rel u1 v1)) := by
  unfold wX8_closed
  refine below_b 576 (fun n => ?_) (fun p => ?_)
  · unfold wX9_closed; exact refused_bad (isCell_b (fun _ => ⟨rfl, h⟩) (fun z => absurd z n))
  · obtain ⟨c, hc, rfl⟩ := ix_of 576 p
    obtain ⟨x1, x2, x3, x4, x5, x6⟩ := cix hc
    refine landOf_w (by omega) (productOf_w (by omega) (yearOf_w (by omega) (settle_rel h x1 x2 x3 (fun u1 h1 hb _ _ _ => ⟨vp_in_nI hc (by omega), ?_⟩))))
    unfold wX9_closed
    refine isCell_b (fun y => absurd p y) (fun _ => looks_rel h1 (fun v1 h2 ht hr => ⟨vp_in_nI hc (by omega), ?_, h2⟩))
    rw [x4, x5] at hb
    have e1 := (blk_at (c := c / 12 % 6) (t := c % 12) hb (by omega)).2.2.2
    have e2 := (rR_at (lp := c / 72) (c := c / 12 % 6) (t := c % 12) hr (by omega) (by omega) (by omega)).2
    rw [x6] at e1 e2
    rw [nI_clamp (n := c) (by omega), e1, e2]
    exact (tV_f ht (fun m => closS m (c / 72) (c % 12 / 4) (c % 12 % 4) (c / 12 % 6)) (fun _ => rfl)).symm
theorem bentC_at (v : Mm) (lp y q : Nat) {c : Nat} (hc : c < 6) : bentC v lp y q c = bentS v (lp * 6 + c) y q := by
  show (if c < 6 then bentS v (lp * 6 + c) y q else 0) = _
  rw [if_pos hc]
theorem gapU_w {u v : Mm} (h : Rel u v) {l p t : Nat} (hl : l < 2) (hp : p < 4) (ht : t < 12) (hb : blkOK u v (l * 4 + p) (t / 4)) {Q : Int64 → Prop} (hq : Q (gapS v (l * 4 + p) (t / 4) (t % 4))) : wX6_gapOf u (nI l) (nI p) (nI t) Q := by
  have hF := h.2.2.2.2.2.1
  exact gapC_w hl hp ht (sp := v.1 9) (fun c hc => (hF c hc).1) (fun c hc => (hF c hc).2) (b := bentC v (l * 4 + p) (t / 4) (t % 4)) (fun c hc => by rw [bentC_at v _ _ _ hc, (blk_at hb hc).2.2.1]) hq
theorem div4 {t : Nat} (ht : t < 12) : nI t / (4 : Int32) = nI (t / 4) := by rw [show (4 : Int32) = nI 4 from rfl, pk_div (by omega) (by omega) (by omega)]
theorem st_gap {u v : Mm} (h : Rel u v) (a1 a2 a3 : Int32) : wX8_gap u a1 a2 a3 (fun (r : Int64) (u1 : Mm) => wX9_gap v a1 a2 a3 (fun (r2 : Int64) (v1 : Mm) => r = r2 ∧ Rel u1 v1)) := by
  unfold wX8_gap
  refine isBalance_b (fun n => ?_) (fun p => ?_)
  · unfold wX9_gap; exact refused_bad (isPlace_b (fun _ => ⟨rfl, h⟩) (fun z => absurd z n))
  · obtain ⟨l, hl, rfl⟩ := ix_of 2 p.1
    obtain ⟨m, hm, rfl⟩ := ix_of 4 p.2.1
    obtain ⟨t, ht, rfl⟩ := ix_of 12 p.2.2
    rw [div4 ht]
    refine settle_rel h hl hm (by omega) (fun u1 h1 hb _ _ _ => gapU_w h1 hl hm ht hb ?_)
    unfold wX9_gap
    refine isPlace_b (fun y => absurd p y) (fun _ => looks_rel h1 (fun v1 h2 htv hr => gapR_w hl hm ht (sp := v1.1 9) (fun _ _ => rfl) (b := bentC v1 (l * 4 + m) (t / 4) (t % 4)) (fun c hc => ?_) ⟨?_, h2⟩))
    · rw [bentC_at v1 _ _ _ hc, (rR_at hr (by omega) hc ht).1]
    · exact (tV_f htv (fun x => gapS x (l * 4 + m) (t / 4) (t % 4)) (fun _ => rfl)).symm
theorem cheap_all {fx co : Nat → Int32} : ∀ n, n ≤ 6 → (cheapF fx co n = -1 ↔ ∀ c, c < n → ¬ fx c = 0)
  | 0, _ => ⟨fun _ c hc => absurd hc (by omega), fun _ => rfl⟩
  | n + 1, hn => by
    have ih := cheap_all (fx := fx) (co := co) n (by omega)
    have ech : cheapF fx co (n + 1) = if fx n = 0 ∧ (cheapF fx co n = -1 ∨ co n < co (cheapF fx co n).toNatClampNeg) then nI n else cheapF fx co n := rfl
    rw [ech]
    by_cases g : fx n = 0 ∧ (cheapF fx co n = -1 ∨ co n < co (cheapF fx co n).toNatClampNeg)
    · rw [if_pos g]
      exact ⟨fun e => absurd e (nI_ne1 (by omega)), fun a => absurd g.1 (a n (by omega))⟩
    · rw [if_neg g, ih]
      refine ⟨fun a c hc => ?_, fun a c hc => a c (by omega)⟩
      by_cases e : c = n
      · subst e; exact fun d => g ⟨d, Or.inl (ih.mpr a)⟩
      · exact a c (by omega)
theorem isOpen_w {u v : Mm} (h : Rel u v) {l p t : Nat} (hl : l < 2) (hp : p < 4) (ht : t < 12) (hb : blkOK u v (l * 4 + p) (t / 4)) {Q : Int32 → Prop} (hq : Q (openS v (l * 4 + p) (t / 4) (t % 4))) : wX6_isOpen u (nI l) (nI p) (nI t) Q := by
  have hG := h.2.2.2.2.2.2.1
  unfold wX6_isOpen
  refine loopS (fun f i (_ : Unit) => wX6_isOpen_b3 u Q f (nI l) (nI p) (nI t) (nI i)) (fun i _ => ∀ c, c < i → ¬ fxC v (l * 4 + p) c = 0) 6 (fun f _ hI => ?_) (fun f i _ hi hI ih => ?_) 0 () (by omega) (fun c hc => absurd hc (by omega))
  · unfold wX6_isOpen_b3
    refine ⟨fun _ => gapU_w h hl hp ht hb ?_, fun cc => absurd ((nI_leI (a := 6) (b := 6) (by omega) (by omega)).mpr (Nat.le_refl _)) cc⟩
    unfold openS at hq
    have hch := (cheap_all (fx := fxC v (l * 4 + p)) (co := costC v (l * 4 + p) (t / 4) (t % 4)) 6 (by omega)).mpr hI
    refine ⟨fun z => ?_, fun z => ?_⟩
    · rw [if_neg (fun d => d.2 z)] at hq; exact hq
    · rw [if_pos ⟨hch, z⟩] at hq; exact hq
  · unfold wX6_isOpen_b3 wX8_lineOf
    rw [ln_C]
    dsimp only
    rw [nI_clamp (n := (l * 4 + p) * 6 + i) (by omega), (hG _ (by omega)).1]
    have ef : fxC v (l * 4 + p) i = v.1 14 ((l * 4 + p) * 6 + i) := by
      show (if i < 6 then v.1 14 ((l * 4 + p) * 6 + i) else 0) = _
      rw [if_pos hi]
    refine ⟨fun cc => absurd ((nI_leI (a := 6) (b := i) (by omega) (by omega)).mp cc) (by omega), fun _ => ⟨vp_in_nI (by omega) (by omega), fun z => ?_, fun z y ey => ?_⟩⟩
    · unfold openS at hq
      rw [if_neg (fun d => (cheap_all 6 (by omega)).mp d.1 i hi (by rw [ef]; exact z))] at hq
      exact hq
    · rw [ey, nI_1]
      refine ih () (fun c hc => ?_)
      by_cases e : c = i
      · subst e; rw [ef]; exact z
      · exact hI c (by omega)
theorem amt_neg (x : Int64) : amt (-x) = amt x := by
  have hb := bdL x
  have zero : (0 : Int64).toInt = 0 := rfl
  by_cases hm : x.toInt = -9223372036854775808
  · have : x = -9223372036854775808 := by rw [← Int64.toInt_inj, hm]; decide
    rw [this]; decide
  · have hn : (-x).toInt = -x.toInt := by rw [Int64.toInt_neg, Int.bmod_eq_of_le (by omega) (by omega)]
    unfold amt
    have i1 : (0 : Int64) ≤ -x ↔ 0 ≤ -x.toInt := by rw [Int64.le_iff_toInt_le, hn, zero]
    have i2 : (0 : Int64) ≤ x ↔ 0 ≤ x.toInt := by rw [Int64.le_iff_toInt_le, zero]
    by_cases h1 : x.toInt = 0
    · have : x = 0 := by rw [← Int64.toInt_inj, h1, zero]
      rw [this]; decide
    · by_cases h2 : 0 ≤ x.toInt
      · rw [if_neg (fun d => by have := i1.mp d; omega), if_pos (i2.mpr h2)]; grind
      · rw [if_pos (i1.mpr (by omega)), if_neg (fun d => h2 (i2.mp d))]
theorem absC_w {x : Int64} {Q : Int64 → Prop} (h : Q (amt x)) : wJ9_abs_067f4 x Q := by
  unfold wJ9_abs_067f4
  unfold amt at h
  refine ⟨fun z => ?_, fun z => ?_⟩
  · rw [if_pos z] at h; exact h
  · rw [if_neg z] at h; exact h
theorem amountR_w {x : Int64} {Q : Int64 → Prop} (h : Q (amt x)) : wX9_amount x Q := by
  unfold wX9_amount
  unfold amt at h
  refine ⟨fun z => ?_, fun z => ?_⟩
  · rw [if_pos z] at h; exact h
  · rw [if_neg z] at h; exact h
theorem moves_w {u v : Mm} {l p t : Nat} (hl : l < 2) (hp : p < 4) (ht : t < 12) (hb : blkOK u v (l * 4 + p) (t / 4)) {Q : Int64 → Prop} (hq : Q (movdS v (l * 4 + p) (t / 4) (t % 4))) : wX6_movesOf u (nI l) (nI p) (nI t) Q := by
  unfold wX6_movesOf
  unfold movdS at hq
  refine loopF (fun f i => wX6_movesOf_b6 u Q f (nI l) (nI p) (nI t) (sumL (fun c => amt (byS v (l * 4 + p) (t / 4) (t % 4) c)) i) (nI i)) 6 (fun f => ?_) (fun f i hi ih => ?_) 0 (by omega)
  · unfold wX6_movesOf_b6
    exact ⟨fun _ => hq, fun cc => absurd ((nI_leI (a := 6) (b := 6) (by omega) (by omega)).mpr (Nat.le_refl _)) cc⟩
  · unfold wX6_movesOf_b6 wX8_cellCode
    rw [cell_C]
    dsimp only
    obtain ⟨-, -, e1, e2⟩ := blk_at hb hi
    rw [nI_clamp (n := ((l * 4 + p) * 6 + i) * 12 + t) (by omega), e1, e2]
    refine ⟨fun cc => absurd ((nI_leI (a := 6) (b := i) (by omega) (by omega)).mp cc) (by omega), fun _ => ⟨vp_in_nI (by omega) (by omega), vp_in_nI (by omega) (by omega), absC_w (fun x ex y ey => ?_)⟩⟩
    have ea : amt (closS v (l * 4 + p) (t / 4) (t % 4) i - bentS v ((l * 4 + p) * 6 + i) (t / 4) (t % 4)) = amt (byS v (l * 4 + p) (t / 4) (t % 4) i) := by
      unfold closS
      rw [bentC_at v _ _ _ hi]
      split
      · rw [← amt_neg (byS v (l * 4 + p) (t / 4) (t % 4) i)]
        exact congrArg amt (by grind)
      · exact congrArg amt (by grind)
    rw [ea] at ex
    rw [ex, ey, nI_1]
    exact ih
theorem st_moved {u v : Mm} (h : Rel u v) (a1 a2 a3 : Int32) : wX8_moved u a1 a2 a3 (fun (r : Int64) (u1 : Mm) => wX9_moved v a1 a2 a3 (fun (r2 : Int64) (v1 : Mm) => r = r2 ∧ Rel u1 v1)) := by
  unfold wX8_moved
  refine isBalance_b (fun n => ?_) (fun p => ?_)
  · unfold wX9_moved; exact refused_bad (isPlace_b (fun _ => ⟨rfl, h⟩) (fun z => absurd z n))
  · obtain ⟨l, hl, rfl⟩ := ix_of 2 p.1
    obtain ⟨m, hm, rfl⟩ := ix_of 4 p.2.1
    obtain ⟨t, ht, rfl⟩ := ix_of 12 p.2.2
    rw [div4 ht]
    refine settle_rel h hl hm (by omega) (fun u1 h1 hb _ _ _ => isOpen_w h1 hl hm ht hb ?_)
    have ref : ∀ r : Int64, (openS v (l * 4 + m) (t / 4) (t % 4) = 0 → r = movdS v (l * 4 + m) (t / 4) (t % 4)) → (¬ openS v (l * 4 + m) (t / 4) (t % 4) = 0 → r = -9223372036854775805) → wX9_moved v (nI l) (nI m) (nI t) (fun (r2 : Int64) (v1 : Mm) => r = r2 ∧ Rel u1 v1) := by
      intro r g1 g2
      unfold wX9_moved
      refine isPlace_b (fun y => absurd p y) (fun _ => looks_rel h1 (fun v1 h2 htv hr x4 e4 => ?_))
      have e4 : x4 = nI ((l * 4 + m) * 12 + t) := by
        rw [e4]
        simp only [show (48 : Int32) = nI 48 from rfl, show (12 : Int32) = nI 12 from rfl, pk_mul, nI_add]
        exact congrArg nI (by omega)
      subst e4
      rw [nI_clamp (n := (l * 4 + m) * 12 + t) (by omega), (rR_pl hr (by omega) ht).1, (rR_pl hr (by omega) ht).2, tV_f htv (fun x => openS x (l * 4 + m) (t / 4) (t % 4)) (fun _ => rfl), tV_f htv (fun x => movdS x (l * 4 + m) (t / 4) (t % 4)) (fun _ => rfl)]
      exact ⟨vp_in_nI (by omega) (by omega), fun z => ⟨vp_in_nI (by omega) (by omega), g1 z, h2⟩, fun z => ⟨g2 z, h2⟩⟩
    exact ⟨fun z => moves_w hl hm ht hb (ref _ (fun _ => rfl) (fun y => absurd z y)), fun z => refused_not (ref _ (fun y => absurd y z) (fun _ => rfl))⟩
