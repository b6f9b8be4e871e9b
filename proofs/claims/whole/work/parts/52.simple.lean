/-! ===== codes ===== -/
theorem cell_C (l p c q : Nat) : ((((((nI l * (4 : Int32)) + nI p) * (6 : Int32)) + nI c) * (12 : Int32)) + nI q) = nI (((l * 4 + p) * 6 + c) * 12 + q) := by
  simp only [show (4 : Int32) = nI 4 from rfl, show (6 : Int32) = nI 6 from rfl, show (12 : Int32) = nI 12 from rfl, pk_mul, nI_add]
theorem cell_R (l p c q : Nat) : (((((288 : Int32) * nI l) + ((72 : Int32) * nI p)) + ((12 : Int32) * nI c)) + nI q) = nI (((l * 4 + p) * 6 + c) * 12 + q) := by
  simp only [show (288 : Int32) = nI 288 from rfl, show (72 : Int32) = nI 72 from rfl, show (12 : Int32) = nI 12 from rfl, pk_mul, nI_add]
  exact congrArg nI (by omega)
theorem ann_C (l p c y : Nat) : (((576 : Int32) + (((((nI l * (4 : Int32)) + nI p) * (6 : Int32)) + nI c) * (3 : Int32))) + nI y) = nI (576 + ((l * 4 + p) * 6 + c) * 3 + y) := by
  simp only [show (4 : Int32) = nI 4 from rfl, show (6 : Int32) = nI 6 from rfl, show (3 : Int32) = nI 3 from rfl, show (576 : Int32) = nI 576 from rfl, pk_mul, nI_add]
theorem ann_R (l p c y : Nat) : (((((576 : Int32) + ((72 : Int32) * nI l)) + ((18 : Int32) * nI p)) + ((3 : Int32) * nI c)) + nI y) = nI (576 + ((l * 4 + p) * 6 + c) * 3 + y) := by
  simp only [show (576 : Int32) = nI 576 from rfl, show (72 : Int32) = nI 72 from rfl, show (18 : Int32) = nI 18 from rfl, show (3 : Int32) = nI 3 from rfl, pk_mul, nI_add]
  exact congrArg nI (by omega)
theorem st_code {u v : Mm} (h : Rel u v) (a1 a2 a3 a4 : Int32) : wX8_code a1 a2 a3 a4 (fun (r : Int32) => wX9_code a1 a2 a3 a4 (fun (r2 : Int32) => r = r2 ∧ Rel u v)) := by
  unfold wX8_code
  refine isLine_b (fun n => ?_) (fun p => below_b 12 (fun n => ?_) (fun q => ?_))
  · unfold wX9_code; exact areThere_b (fun _ => ⟨rfl, h⟩) (fun z => absurd z n)
  · unfold wX9_code; exact areThere_b (fun z => absurd p z) (fun _ => in_b 0 11 (fun _ => ⟨rfl, h⟩) (fun z => absurd z (by omega)))
  · unfold wX8_cellCode wX9_code
    refine areThere_b (fun z => absurd p z) (fun _ => in_b 0 11 (fun z => absurd q (by omega)) (fun _ => ?_))
    obtain ⟨l, hl, rfl⟩ := ix_of 2 p.1
    obtain ⟨m, hm, rfl⟩ := ix_of 4 p.2.1
    obtain ⟨c, hc, rfl⟩ := ix_of 6 p.2.2
    obtain ⟨t, ht, rfl⟩ := ix_of 12 q
    unfold wX9_cellOf
    exact ⟨by rw [cell_C, cell_R], h⟩
theorem st_annual {u v : Mm} (h : Rel u v) (a1 a2 a3 a4 : Int32) : wX8_annual a1 a2 a3 a4 (fun (r : Int32) => wX9_annual a1 a2 a3 a4 (fun (r2 : Int32) => r = r2 ∧ Rel u v)) := by
  unfold wX8_annual
  refine isLine_b (fun n => ?_) (fun p => below_b 3 (fun n => ?_) (fun q => ?_))
  · unfold wX9_annual; exact areThere_b (fun _ => ⟨rfl, h⟩) (fun z => absurd z n)
  · unfold wX9_annual; exact areThere_b (fun z => absurd p z) (fun _ => in_b 0 2 (fun _ => ⟨rfl, h⟩) (fun z => absurd z (by omega)))
  · unfold wX8_annualCode wX9_annual
    refine areThere_b (fun z => absurd p z) (fun _ => in_b 0 2 (fun z => absurd q (by omega)) (fun _ => ?_))
    obtain ⟨l, hl, rfl⟩ := ix_of 2 p.1
    obtain ⟨m, hm, rfl⟩ := ix_of 4 p.2.1
    obtain ⟨c, hc, rfl⟩ := ix_of 6 p.2.2
    obtain ⟨t, ht, rfl⟩ := ix_of 3 q
    unfold wX9_annualOf
    exact ⟨by rw [ann_C, ann_R], h⟩
def lineN (c : Nat) : Nat := if c < 576 then c / 12 else (c - 576) / 3
def perN (c : Nat) : Nat := if c < 576 then c % 12 else (c - 576) % 3
def yearN (c : Nat) : Nat := if c < 576 then c % 12 / 4 else (c - 576) % 3
theorem isAnnual_w {c : Nat} (hc : c < 720) {Q : Int32 → Prop} (h0 : c < 576 → Q 0) (h1 : 576 ≤ c → Q 1) : wX8_isAnnual (nI c) Q := by
  unfold wX8_isAnnual
  rw [show (576 : Int32) = nI 576 from rfl, nI_ltI (by omega) (by omega)]
  exact ⟨fun z => h0 z, fun z => h1 (by omega)⟩
theorem lineOfCode_w {c : Nat} (hc : c < 720) {Q : Int32 → Prop} (h : Q (nI (lineN c))) : wX8_lineOfCode (nI c) Q := by
  unfold wX8_lineOfCode
  unfold lineN at h
  refine isAnnual_w hc (fun z => br0 ?_) (fun z => br1 ?_)
  · rw [if_pos z] at h
    rw [show (12 : Int32) = nI 12 from rfl, pk_div (by omega) (by decide) (by decide)]; exact h
  · rw [if_neg (by omega)] at h
    rw [show (576 : Int32) = nI 576 from rfl, show (3 : Int32) = nI 3 from rfl, pk_sub z, pk_div (by omega) (by decide) (by decide)]; exact h
theorem lineN_lt {c : Nat} (hc : c < 720) : lineN c < 48 := by unfold lineN; split <;> omega
theorem landOf_w {c : Nat} (hc : c < 720) {Q : Int32 → Prop} (h : Q (nI (lineN c / 24))) : wX8_landOf (nI c) Q := by
  unfold wX8_landOf
  have hl := lineN_lt hc
  refine lineOfCode_w hc ?_
  rw [show (24 : Int32) = nI 24 from rfl, pk_div (by omega) (by decide) (by decide)]; exact h
theorem productOf_w {c : Nat} (hc : c < 720) {Q : Int32 → Prop} (h : Q (nI (lineN c / 6 % 4))) : wX8_productOf (nI c) Q := by
  unfold wX8_productOf
  have hl := lineN_lt hc
  refine lineOfCode_w hc ?_
  rw [show (6 : Int32) = nI 6 from rfl, show (4 : Int32) = nI 4 from rfl, pk_div (by omega) (by decide) (by decide)]
  unfold jrem
  rw [pk_rem (by omega) (by decide) (by decide)]; exact h
theorem columnOf_w {c : Nat} (hc : c < 720) {Q : Int32 → Prop} (h : Q (nI (lineN c % 6))) : wX8_columnOf (nI c) Q := by
  unfold wX8_columnOf
  have hl := lineN_lt hc
  refine lineOfCode_w hc ?_
  rw [show (6 : Int32) = nI 6 from rfl]
  unfold jrem
  rw [pk_rem (by omega) (by decide) (by decide)]; exact h
theorem periodOf_w {c : Nat} (hc : c < 720) {Q : Int32 → Prop} (h : Q (nI (perN c))) : wX8_periodOf (nI c) Q := by
  unfold wX8_periodOf
  unfold perN at h
  refine isAnnual_w hc (fun z => br0 ?_) (fun z => br1 ?_)
  · rw [if_pos z] at h
    rw [show (12 : Int32) = nI 12 from rfl]
    unfold jrem
    rw [pk_rem (by omega) (by decide) (by decide)]; exact h
  · rw [if_neg (by omega)] at h
    rw [show (576 : Int32) = nI 576 from rfl, show (3 : Int32) = nI 3 from rfl, pk_sub z]
    unfold jrem
    rw [pk_rem (by omega) (by decide) (by decide)]; exact h
theorem perN_lt {c : Nat} (hc : c < 720) : perN c < 12 := by unfold perN; split <;> omega
theorem yearOf_w {c : Nat} (hc : c < 720) {Q : Int32 → Prop} (h : Q (nI (yearN c))) : wX8_yearOf (nI c) Q := by
  unfold wX8_yearOf
  have hp := perN_lt hc
  refine isAnnual_w hc (fun z => br0 ?_) (fun z => br1 ?_)
  · refine periodOf_w hc ?_
    rw [show (4 : Int32) = nI 4 from rfl, pk_div (by omega) (by decide) (by decide)]
    unfold yearN at h
    rw [if_pos z] at h
    unfold perN
    rw [if_pos z]; exact h
  · refine periodOf_w hc ?_
    unfold yearN at h
    rw [if_neg (by omega)] at h
    unfold perN
    rw [if_neg (by omega)]; exact h
theorem landR_w {c : Nat} (hc : c < 720) {Q : Int32 → Prop} (h : Q (nI (lineN c / 24))) : wX9_landOf (nI c) Q := by
  unfold wX9_landOf
  unfold lineN at h
  rw [show (576 : Int32) = nI 576 from rfl, nI_leI (by omega) (by omega)]
  refine ⟨fun z => ?_, fun z => ?_⟩
  · rw [if_neg (by omega), show (c - 576) / 3 / 24 = (c - 576) / 72 by omega] at h
    rw [pk_sub z, show (72 : Int32) = nI 72 from rfl, pk_div (by omega) (by decide) (by decide)]; exact h
  · rw [if_pos (by omega), show c / 12 / 24 = c / 288 by omega] at h
    rw [show (288 : Int32) = nI 288 from rfl, pk_div (by omega) (by decide) (by decide)]; exact h
theorem productR_w {c : Nat} (hc : c < 720) {Q : Int32 → Prop} (h : Q (nI (lineN c / 6 % 4))) : wX9_productOf (nI c) Q := by
  unfold wX9_productOf
  unfold lineN at h
  rw [show (576 : Int32) = nI 576 from rfl, nI_leI (by omega) (by omega), show (4 : Int32) = nI 4 from rfl]
  refine ⟨fun z => ?_, fun z => ?_⟩
  · rw [if_neg (by omega), show (c - 576) / 3 / 6 = (c - 576) / 18 by omega] at h
    rw [pk_sub z, show (18 : Int32) = nI 18 from rfl, pk_div (by omega) (by decide) (by decide)]
    unfold jrem
    rw [pk_rem (by omega) (by decide) (by decide)]; exact h
  · rw [if_pos (by omega), show c / 12 / 6 = c / 72 by omega] at h
    rw [show (72 : Int32) = nI 72 from rfl, pk_div (by omega) (by decide) (by decide)]
    unfold jrem
    rw [pk_rem (by omega) (by decide) (by decide)]; exact h
theorem columnR_w {c : Nat} (hc : c < 720) {Q : Int32 → Prop} (h : Q (nI (lineN c % 6))) : wX9_columnOf (nI c) Q := by
  unfold wX9_columnOf
  unfold lineN at h
  rw [show (576 : Int32) = nI 576 from rfl, nI_leI (by omega) (by omega), show (6 : Int32) = nI 6 from rfl]
  refine ⟨fun z => ?_, fun z => ?_⟩
  · rw [if_neg (by omega)] at h
    rw [pk_sub z, show (3 : Int32) = nI 3 from rfl, pk_div (by omega) (by decide) (by decide)]
    unfold jrem
    rw [pk_rem (by omega) (by decide) (by decide)]; exact h
  · rw [if_pos (by omega)] at h
    rw [show (12 : Int32) = nI 12 from rfl, pk_div (by omega) (by decide) (by decide)]
    unfold jrem
    rw [pk_rem (by omega) (by decide) (by decide)]; exact h
theorem timeR_w {c : Nat} (hc : c < 720) {Q : Int32 → Prop} (h : Q (nI (perN c))) : wX9_timeOf (nI c) Q := by
  unfold wX9_timeOf
  unfold perN at h
  rw [show (576 : Int32) = nI 576 from rfl, nI_leI (by omega) (by omega)]
  refine ⟨fun z => ?_, fun z => ?_⟩
  · rw [if_neg (by omega)] at h
    rw [pk_sub z, show (3 : Int32) = nI 3 from rfl]
    unfold jrem
    rw [pk_rem (by omega) (by decide) (by decide)]; exact h
  · rw [if_pos (by omega)] at h
    rw [show (12 : Int32) = nI 12 from rfl]
    unfold jrem
    rw [pk_rem (by omega) (by decide) (by decide)]; exact h
theorem st_decode {u v : Mm} (h : Rel u v) (a1 a2 : Int32) : wX8_decode a1 a2 (fun (r : Int32) => wX9_decode a1 a2 (fun (r2 : Int32) => r = r2 ∧ Rel u v)) := by
  unfold wX8_decode
  refine below_b 720 (fun n => ?_) (fun p => ?_)
  · unfold wX9_decode; exact isCode_b (fun _ => ⟨rfl, h⟩) (fun z => absurd z n)
  · have e : ∀ {i j : Nat}, i < 100 → j < 100 → nI i = nI j → i = j := fun h1 h2 z => (nI_eq (by omega) (by omega)).mp z
    have t : ∀ {j : Nat}, j < 5 → ¬ ((nI j).toInt < 0 ∨ (4 : Int) < (nI j).toInt) := fun hj z => by rw [nI_toInt (by omega)] at z; omega
    obtain ⟨c, hc, rfl⟩ := ix_of 720 p
    unfold wX9_decode
    refine ⟨fun z => landOf_w hc ?_, fun z => productOf_w hc ?_, fun z => columnOf_w hc ?_, fun z => periodOf_w hc ?_, fun z => isAnnual_w hc (fun y => br0 ?_) (fun y => br1 ?_), fun z => ?_⟩
    · subst z
      exact isCode_b (fun n => absurd p n) (fun _ => ⟨fun _ => landR_w hc ⟨rfl, h⟩, fun z => absurd (e (by omega) (by omega) z) (by decide), fun z => absurd (e (by omega) (by omega) z) (by decide), fun z => absurd (e (by omega) (by omega) z) (by decide), fun z => absurd (e (by omega) (by omega) z) (by decide), fun z => absurd z (t (by omega))⟩)
    · subst z
      exact isCode_b (fun n => absurd p n) (fun _ => ⟨fun z => absurd (e (by omega) (by omega) z) (by decide), fun _ => productR_w hc ⟨rfl, h⟩, fun z => absurd (e (by omega) (by omega) z) (by decide), fun z => absurd (e (by omega) (by omega) z) (by decide), fun z => absurd (e (by omega) (by omega) z) (by decide), fun z => absurd z (t (by omega))⟩)
    · subst z
      exact isCode_b (fun n => absurd p n) (fun _ => ⟨fun z => absurd (e (by omega) (by omega) z) (by decide), fun z => absurd (e (by omega) (by omega) z) (by decide), fun _ => columnR_w hc ⟨rfl, h⟩, fun z => absurd (e (by omega) (by omega) z) (by decide), fun z => absurd (e (by omega) (by omega) z) (by decide), fun z => absurd z (t (by omega))⟩)
    · subst z
      exact isCode_b (fun n => absurd p n) (fun _ => ⟨fun z => absurd (e (by omega) (by omega) z) (by decide), fun z => absurd (e (by omega) (by omega) z) (by decide), fun z => absurd (e (by omega) (by omega) z) (by decide), fun _ => timeR_w hc ⟨rfl, h⟩, fun z => absurd (e (by omega) (by omega) z) (by decide), fun z => absurd z (t (by omega))⟩)
    · subst z
      exact isCode_b (fun n => absurd p n) (fun _ => ⟨fun z => absurd (e (by omega) (by omega) z) (by decide), fun z => absurd (e (by omega) (by omega) z) (by decide), fun z => absurd (e (by omega) (by omega) z) (by decide), fun z => absurd (e (by omega) (by omega) z) (by decide), fun _ => isCell_b (fun n => absurd (ix_in (N := 576) y) n) (fun _ => ⟨rfl, h⟩), fun z => absurd z (t (by omega))⟩)
    · subst z
      exact isCode_b (fun n => absurd p n) (fun _ => ⟨fun z => absurd (e (by omega) (by omega) z) (by decide), fun z => absurd (e (by omega) (by omega) z) (by decide), fun z => absurd (e (by omega) (by omega) z) (by decide), fun z => absurd (e (by omega) (by omega) z) (by decide), fun _ => isCell_b (fun _ => ⟨rfl, h⟩) (fun q => absurd q (by rw [nI_toInt (by omega)]; omega)), fun z => absurd z (t (by omega))⟩)
    · refine isCode_b (fun n => absurd p n) (fun _ => ⟨fun y => ?_, fun y => ?_, fun y => ?_, fun y => ?_, fun y => ?_, fun _ => ⟨rfl, h⟩⟩)
      all_goals (subst y; exact absurd z (t (by omega)))
/-! ===== what forgets ===== -/
def zero24 (f : Nat → Int32) : Nat → Int32 := fun j => if j < 24 then 0 else f j
theorem nar0 : vp_nar .boolean (0 : Int32) = 0 := by decide
theorem nar1 : vp_nar .boolean (1 : Int32) = 1 := by decide
theorem r32_congr {u : Mm} {k : Nat} {f : Nat → Int32} (h : f = u.1 k) : r32 u k f = u := by
  unfold r32
  refine Prod.ext ?_ rfl
  funext q
  by_cases hq : q = k
  · subst hq; simp [h]
  · simp [hq]
theorem s32_r32 (u : Mm) (k i : Nat) (x : Int32) (f : Nat → Int32) : s32 (r32 u k f) k i x = r32 u k (upd f i x) := by
  unfold s32 r32
  refine Prod.ext ?_ rfl
  funext q
  by_cases hq : q = k
  · subst hq; simp
  · simp [hq]
theorem forgetAll_w (u : Mm) {Q : Mm → Prop} (h : Q (r32 u 17 (zero24 (u.1 17)))) : wX6_forgetAll u Q := by
  unfold wX6_forgetAll
  have hw : ∀ i : Nat, i ≤ 24 → ∃ n, wX6_forgetAll_b2 Q n (r32 u 17 (fun j => if j < i then 0 else u.1 17 j)) (nI i) := by
    intro i hi
    refine loopF (fun n i => wX6_forgetAll_b2 Q n (r32 u 17 (fun j => if j < i then 0 else u.1 17 j)) (nI i)) 24 (fun n => ?_) (fun n i hi ih => ?_) i hi
    · unfold wX6_forgetAll_b2
      exact ⟨fun _ => h, fun c => absurd ((nI_leI (by omega) (by omega)).mpr (Nat.le_refl 24)) c⟩
    · unfold wX6_forgetAll_b2
      refine ⟨fun c => absurd ((nI_leI (by omega) (by omega)).mp c) (by omega), fun _ => ⟨vp_in_nI hi (by omega), fun u1 e1 x ex => ?_⟩⟩
      rw [ex, nI_1, e1, nI_clamp (by omega), s32_r32, nar0]
      have e2 : upd (fun j => if j < i then (0 : Int32) else u.1 17 j) i 0 = fun j => if j < i + 1 then 0 else u.1 17 j := by
        funext j
        unfold upd
        by_cases hj : j = i
        · subst hj; simp
        · rw [if_neg hj]
          show (if j < i then (0 : Int32) else u.1 17 j) = if j < i + 1 then 0 else u.1 17 j
          by_cases h2 : j < i
          · rw [if_pos h2, if_pos (by omega)]
          · rw [if_neg h2, if_neg (by omega)]
      rw [e2]
      exact ih
  obtain ⟨n, hn⟩ := hw 0 (by omega)
  rw [r32_congr (by funext j; simp)] at hn
  exact ⟨n, hn⟩
theorem rQ_z {u v : Mm} (h : ∀ b, b < 24 → u.1 17 b = 0) : rQ u v := fun lp y h1 h2 h3 => absurd (h (lp * 3 + y) (by omega)) h3
theorem rR_z {v : Mm} (h : v.1 107 0 = 0) : rR v := fun h2 => absurd h h2
theorem z24 (f : Nat → Int32) : ∀ b, b < 24 → zero24 f b = 0 := fun b hb => by unfold zero24; rw [if_pos hb]
theorem st_trust {u v : Mm} (h : Rel u v) (a1 a2 : Int32) : wX8_trust u a1 a2 (fun (r : Int32) (u1 : Mm) => wX9_trust v a1 a2 (fun (r2 : Int32) (v1 : Mm) => r = r2 ∧ Rel u1 v1)) := by
  unfold wX8_trust
  refine below_b 10 (fun n => ?_) (fun p => isGrade_b (fun n => ?_) (fun q => ?_))
  · unfold wX9_trust; exact in_b 0 9 (fun _ => ⟨rfl, h⟩) (fun z => absurd z (by omega))
  · unfold wX9_trust; exact in_b 0 9 (fun z => absurd p (by omega)) (fun _ => in_b 1 9 (fun _ => ⟨rfl, h⟩) (fun z => absurd z n))
  · obtain ⟨i, hi, rfl⟩ := ix_of 10 p
    refine ⟨vp_in_nI hi (by omega), fun x ex => ⟨vp_in_nI hi (by omega), fun u4 e4 => forgetAll_w _ ?_⟩⟩
    unfold wX9_trust
    refine in_b 0 9 (fun z => absurd p (by omega)) (fun _ => in_b 1 9 (fun z => absurd q z) (fun _ => ⟨vp_in_nI hi (by omega), fun y ey => ⟨vp_in_nI hi (by omega), fun v4 f4 v5 f5 => ?_⟩⟩))
    rw [nI_clamp (by omega)] at ex ey e4 f4
    subst e4 f4 f5
    obtain ⟨hA, hB, hC, hD, hE, hF, hG, hH, hI, hJ, hK, hL, hM, hN, hO, hP, hQ, hR⟩ := h
    refine ⟨by rw [ex, ey]; exact (hA i hi).1, ?_, hB, hC, hD, hE, hF, hG, hH, hI, hJ, hK, hL, hM, hN, hO, hP, rQ_z (z24 _), rR_z rfl⟩
    intro k hk
    show upd (u.1 2) i a2 k = upd (v.1 1) i a2 k ∧ 1 ≤ (upd (v.1 1) i a2 k).toInt ∧ (upd (v.1 1) i a2 k).toInt ≤ 9
    by_cases hki : k = i
    · subst hki; rw [upd_s, upd_s]; exact ⟨rfl, q⟩
    · rw [upd_n _ _ hki, upd_n _ _ hki]; exact hA k hk

theorem st_asOf {u v : Mm} (h : Rel u v) (a1 : Int32) : wX8_asOf u a1 (fun (r : Int32) (u1 : Mm) => wX9_asOf v a1 (fun (r2 : Int32) (v1 : Mm) => r = r2 ∧ Rel u1 v1)) := by
  unfold wX8_asOf
  refine below_b 10 (fun n => ?_) (fun p => ?_)
  · unfold wX9_asOf; exact in_b 0 9 (fun _ => ⟨rfl, h⟩) (fun z => absurd z (by omega))
  · intro x ex u3 e3
    refine forgetAll_w _ ?_
    unfold wX9_asOf
    refine in_b 0 9 (fun z => absurd p (by omega)) (fun _ y ey v3 f3 v4 f4 => ?_)
    obtain ⟨i, hi, rfl⟩ := ix_of 10 p
    subst e3 f3 f4
    obtain ⟨hA, hB, hC, hD, hE, hF, hG, hH, hI, hJ, hK, hL, hM, hN, hO, hP, hQ, hR⟩ := h
    exact ⟨by rw [ex, ey]; exact hE.1, hA, hB, hC, hD, ⟨rfl, i, hi, rfl⟩, hF, hG, hH, hI, hJ, hK, hL, hM, hN, hO, hP, rQ_z (z24 _), rR_z rfl⟩
theorem st_rule {u v : Mm} (h : Rel u v) (a1 : Int32) : wX8_rule u a1 (fun (r : Int32) (u1 : Mm) => wX9_rule v a1 (fun (r2 : Int32) (v1 : Mm) => r = r2 ∧ Rel u1 v1)) := by
  unfold wX8_rule
  refine within_b 0 1 (fun n => ?_) (fun p => ?_)
  · unfold wX9_rule; exact in_b 0 1 (fun _ => ⟨rfl, h⟩) (fun z => absurd z n)
  · intro x ex u3 e3
    refine forgetAll_w _ ?_
    unfold wX9_rule
    refine in_b 0 1 (fun z => absurd p z) (fun _ y ey v3 f3 v4 f4 => ?_)
    obtain ⟨i, hi, rfl⟩ := ix_of 2 (a := a1) (by omega)
    subst e3 f3 f4
    obtain ⟨hA, hB, hC, hD, hE, hF, hG, hH, hI, hJ, hK, hL, hM, hN, hO, hP, hQ, hR⟩ := h
    refine ⟨by rw [ex, ey]; exact hH.1, hA, hB, hC, hD, hE, hF, hG, ⟨rfl, ?_⟩, hI, hJ, hK, hL, hM, hN, hO, hP, rQ_z (z24 _), rR_z rfl⟩
    rcases (show i = 0 ∨ i = 1 by omega) with rfl | rfl
    · exact Or.inl rfl
    · exact Or.inr rfl
theorem st_column {u v : Mm} (h : Rel u v) (a1 a2 : Int32) : wX8_column u a1 a2 (fun (r : Int32) (u1 : Mm) => wX9_column v a1 a2 (fun (r2 : Int32) (v1 : Mm) => r = r2 ∧ Rel u1 v1)) := by
  unfold wX8_column
  refine below_b 6 (fun n => ?_) (fun p => within_b 0 1 (fun n => ?_) (fun q => ?_))
  · unfold wX9_column; exact in_b 0 5 (fun _ => ⟨rfl, h⟩) (fun z => absurd z (by omega))
  · unfold wX9_column; exact in_b 0 5 (fun z => absurd p (by omega)) (fun _ => in_b 0 1 (fun _ => ⟨rfl, h⟩) (fun z => absurd z n))
  · obtain ⟨i, hi, rfl⟩ := ix_of 6 p
    obtain ⟨hA, hB, hC, hD, hE, hF, hG, hH, hI, hJ, hK, hL, hM, hN, hO, hP, hQ, hR⟩ := h
    have key : ∀ (r : Int32), r = v.1 9 i → wX8_column_b38 (fun (r : Int32) (u1 : Mm) => wX9_column v (nI i) a2 (fun (r2 : Int32) (v1 : Mm) => r = r2 ∧ Rel u1 v1)) u (nI i) a2 r := by
      intro r er
      obtain ⟨b, hb, rfl⟩ := ix_of 2 (a := a2) (by omega)
      unfold wX8_column_b38
      refine ⟨fun c => ⟨vp_in_nI hi (by omega), fun u4 e4 => forgetAll_w _ ?_⟩, fun c => ⟨vp_in_nI hi (by omega), fun u4 e4 => forgetAll_w _ ?_⟩⟩
      all_goals
        unfold wX9_column
        refine in_b 0 5 (fun z => absurd p (by omega)) (fun _ => in_b 0 1 (fun z => absurd q z) (fun _ => ⟨vp_in_nI hi (by omega), fun y ey => ⟨vp_in_nI hi (by omega), fun v4 f4 v5 f5 => ?_⟩⟩))
        rw [nI_clamp (by omega)] at ey e4 f4
        subst e4 f4 f5
        refine ⟨er.trans ey.symm, hA, hB, hC, hD, hE, ?_, hG, hH, hI, hJ, hK, hL, hM, hN, hO, hP, rQ_z (z24 _), rR_z rfl⟩
        intro k hk
        show upd (u.1 15) i _ k = upd (v.1 9) i (nI b) k ∧ (upd (v.1 9) i (nI b) k = 0 ∨ upd (v.1 9) i (nI b) k = 1)
        by_cases hki : k = i
        · subst hki; rw [upd_s, upd_s]
          rcases (show b = 0 ∨ b = 1 by omega) with rfl | rfl
          · first | exact ⟨rfl, Or.inl rfl⟩ | exact absurd rfl c | exact absurd c (by decide)
          · first | exact ⟨rfl, Or.inr rfl⟩ | exact absurd rfl c | exact absurd c (by decide)
        · rw [upd_n _ _ hki, upd_n _ _ hki]; exact hF k hk
    rw [nI_clamp (by omega)]
    refine ⟨vp_in_nI hi (by omega), fun c => key 0 ?_, fun c => key 1 ?_⟩
    · rw [← (hF i hi).1, c]
    · rw [(hF i hi).1] at c
      rcases (hF i hi).2 with z | z
      · exact absurd z c
      · exact z.symm
