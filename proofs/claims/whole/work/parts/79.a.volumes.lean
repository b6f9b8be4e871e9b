/-! ===== volumes, values, growth, chain, apart ===== -/
def priS (v : Mm) (p t : Nat) : Int64 := (v.1 18 (p * 12 + t)).toInt64
def volS (v : Mm) (c t p : Nat) : Int64 := flo (100 * totS v (-1) (nI p) c t 8) (priS v p t)
def meaS (v : Mm) (y p : Nat) : Int64 := sumL (fun k => priS v p (4 * y + k)) 4
def valS (v : Mm) (a : Int32) (c t y : Nat) : Nat → Int64 := sumL (fun p => if inA a p then volS v c t p * meaS v y p else 0)
def groS (v : Mm) (a : Int32) (c t : Nat) : Int64 := if valS v a c (t - 1) (t / 4 - 1) 4 ≤ 0 then -1 else flo (1000000 * valS v a c t (t / 4 - 1) 4) (valS v a c (t - 1) (t / 4 - 1) 4)
def cutF (x m : Int64) : Int64 := if x ≤ m then (if -m ≤ x then x else -m) else m
def chnS (v : Mm) (a : Int32) (c : Nat) : Nat → Int64
  | 0 => 1000000
  | t + 1 => if valS v a c t ((t + 1) / 4 - 1) 4 ≤ 0 then chnS v a c t else cutF (flo (chnS v a c t * cutF (groS v a c (t + 1)) 1000000000) 1000000) 10000000
def aprS (v : Mm) (c t : Nat) : Nat → Int64 := sumL (fun p => flo (valS v (nI p) c 0 0 4 * chnS v (nI p) c t) 1000000)
theorem closS_t (m : Mm) (lp y q c : Nat) : closS (tV m) lp y q c = closS m lp y q c := rfl
theorem totS_t (m : Mm) (a1 a2 : Int32) (c t k : Nat) : totS (tV m) a1 a2 c t k = totS m a1 a2 c t k := by unfold totS; simp only [closS_t]
theorem priS_t (m : Mm) (p t : Nat) : priS (tV m) p t = priS m p t := rfl
theorem volS_t (m : Mm) (c t p : Nat) : volS (tV m) c t p = volS m c t p := by unfold volS; rw [totS_t, priS_t]
theorem meaS_t (m : Mm) (y p : Nat) : meaS (tV m) y p = meaS m y p := by unfold meaS; simp only [priS_t]
theorem valS_t (m : Mm) (a : Int32) (c t y k : Nat) : valS (tV m) a c t y k = valS m a c t y k := by unfold valS; simp only [volS_t, meaS_t]
theorem groS_t (m : Mm) (a : Int32) (c t : Nat) : groS (tV m) a c t = groS m a c t := by unfold groS; rw [valS_t, valS_t]
theorem chnS_t (m : Mm) (a : Int32) (c : Nat) : ∀ t, chnS (tV m) a c t = chnS m a c t
  | 0 => rfl
  | t + 1 => by unfold chnS; rw [valS_t, groS_t, chnS_t m a c t]
theorem aprS_t (m : Mm) (c t k : Nat) : aprS (tV m) c t k = aprS m c t k := by unfold aprS; simp only [valS_t, chnS_t]
theorem pt_C (p t : Nat) : (nI p * (12 : Int32)) + nI t = nI (p * 12 + t) := by rw [show (12 : Int32) = nI 12 from rfl, pk_mul, nI_add]
theorem pt_R (p t : Nat) : ((12 : Int32) * nI p) + nI t = nI (p * 12 + t) := by rw [show (12 : Int32) = nI 12 from rfl, pk_mul, nI_add, Nat.mul_comm]
theorem pri_bd {u v : Mm} (h : Rel u v) {k : Nat} (hk : k < 48) : u.1 24 k = v.1 18 k ∧ ∃ x, 10 ≤ x ∧ x ≤ 1000 ∧ v.1 18 k = nI x := by
  obtain ⟨e, h1, h2⟩ := h.2.2.2.2.2.2.2.2.1 k hk
  obtain ⟨x, hx, ex⟩ := ix_of 1001 (a := v.1 18 k) (by omega)
  rw [ex, nI_toInt (by omega)] at h1 h2
  exact ⟨e, x, by omega, by omega, ex⟩
theorem volC_w {u v : Mm} (h : Sd u v) {p c t : Nat} (hp : p < 4) (hc : c < 6) (ht : t < 12) {Q : Int64 → Prop} (hq : Q (volS v c t p)) : wX7_volumeOf u (nI p) (nI c) (nI t) Q := by
  obtain ⟨e, x, x1, x2, ex⟩ := pri_bd h.1 (show p * 12 + t < 48 by omega)
  unfold wX7_volumeOf
  rw [pt_C, nI_clamp (n := p * 12 + t) (by omega), e]
  refine ⟨vp_in_nI (by omega) (by omega), fun x4 e4 => sumC_w h (-1) (nI p) hc ht (fun x5 e5 => ⟨fun z => ?_, fun _ => ?_⟩)⟩
  · rw [e4, ex] at z; exact absurd z (nI_nle (by omega) (by omega))
  · rw [e4, e5]
    refine floorDiv_w ?_ hq
    rw [ex, i64_T, nI_toInt (by omega)]; omega
theorem volR_w {u v : Mm} (h : Rel u v) (hr : rR1 v) {p c t : Nat} (hp : p < 4) (hc : c < 6) (ht : t < 12) {Q : Int64 → Prop} (hq : Q (volS v c t p)) : wX9_volumeOf v (nI p) (nI c) (nI t) Q := by
  obtain ⟨e, x, x1, x2, ex⟩ := pri_bd h (show p * 12 + t < 48 by omega)
  unfold wX9_volumeOf
  rw [pt_R, nI_clamp (n := p * 12 + t) (by omega)]
  refine totalR_w hr (-1) (nI p) hc ht ⟨vp_in_nI (by omega) (by omega), floR_w (ne0_of_pos ?_) hq⟩
  rw [ex, i64_T, nI_toInt (by omega)]; omega
theorem meanC_w {u v : Mm} (h : Rel u v) {p y : Nat} (hp : p < 4) (hy : y < 3) {Q : Int64 → Prop} (hq : Q (meaS v y p)) : wX7_meanPriceOf u (nI p) (nI y) Q := by
  unfold wX7_meanPriceOf
  intro x3 e3
  have e3 : x3 = nI (p * 12 + 4 * y) := by
    rw [e3, show (12 : Int32) = nI 12 from rfl, show (4 : Int32) = nI 4 from rfl, pk_mul, pk_mul, nI_add, Nat.mul_comm y]
  subst e3
  refine loopF (fun f i => wX7_meanPriceOf_b15 u Q f (nI (p * 12 + 4 * y)) (sumL (fun k => priS v p (4 * y + k)) i) (nI i)) 4 (fun f => ?_) (fun f i hi ih => ?_) 0 (by omega)
  · unfold wX7_meanPriceOf_b15
    exact ⟨fun _ => hq, fun cc => absurd ((nI_leI (a := 4) (b := 4) (by omega) (by omega)).mpr (Nat.le_refl _)) cc⟩
  · unfold wX7_meanPriceOf_b15
    rw [nI_add, nI_clamp (n := p * 12 + 4 * y + i) (by omega), (pri_bd h (show p * 12 + 4 * y + i < 48 by omega)).1]
    refine ⟨fun cc => absurd ((nI_leI (a := 4) (b := i) (by omega) (by omega)).mp cc) (by omega), fun _ => ⟨vp_in_nI (by omega) (by omega), fun x ex z ez => ?_⟩⟩
    rw [Nat.add_assoc] at ex
    rw [ex, ez, nI_1]
    exact ih
theorem meanR {u v : Mm} (h : Rel u v) {p y : Nat} (hp : p < 4) (hy : y < 3) : ((((v.1 18 (p * 12 + 4 * y)) + (v.1 18 (p * 12 + 4 * y + 1))) + (v.1 18 (p * 12 + 4 * y + 2))) + (v.1 18 (p * 12 + 4 * y + 3))).toInt64 = meaS v y p := by
  obtain ⟨-, a, a1, a2, ea⟩ := pri_bd h (show p * 12 + 4 * y < 48 by omega)
  obtain ⟨-, b, b1, b2, eb⟩ := pri_bd h (show p * 12 + 4 * y + 1 < 48 by omega)
  obtain ⟨-, c, c1, c2, ec⟩ := pri_bd h (show p * 12 + 4 * y + 2 < 48 by omega)
  obtain ⟨-, d, d1, d2, ed⟩ := pri_bd h (show p * 12 + 4 * y + 3 < 48 by omega)
  have e : meaS v y p = 0 + (v.1 18 (p * 12 + 4 * y)).toInt64 + (v.1 18 (p * 12 + 4 * y + 1)).toInt64 + (v.1 18 (p * 12 + 4 * y + 2)).toInt64 + (v.1 18 (p * 12 + 4 * y + 3)).toInt64 := rfl
  rw [e, ea, eb, ec, ed, nI_add, nI_add, nI_add, nI_l (by omega), nI_l (by omega), nI_l (by omega), nI_l (by omega), nI_l (by omega), show (0 : Int64) = lN 0 from rfl, lN_add, lN_add, lN_add, lN_add]
  exact congrArg lN (by omega)
theorem valC_w {u v : Mm} (h : Sd u v) (a : Int32) {c t y : Nat} (hc : c < 6) (ht : t < 12) (hy : y < 3) {Q : Int64 → Prop} (hq : Q (valS v a c t y 4)) : wX7_valueOf u a (nI c) (nI t) (nI y) Q := by
  unfold wX7_valueOf
  refine loopF (fun f i => wX7_valueOf_b6 u Q f a (nI c) (nI t) (nI y) (valS v a c t y i) (nI i)) 4 (fun f => ?_) (fun f i hi ih => ?_) 0 (by omega)
  · unfold wX7_valueOf_b6
    exact ⟨fun _ => hq, fun cc => absurd ((nI_leI (a := 4) (b := 4) (by omega) (by omega)).mpr (Nat.le_refl _)) cc⟩
  · have es : valS v a c t y (i + 1) = valS v a c t y i + (if inA a i then volS v c t i * meaS v y i else 0) := rfl
    have take : inA a i → wX7_valueOf_b23 u (fun (x1 : Int32) (x2 : Int32) (x3 : Int32) (x4 : Int32) (x5 : Int64) (x7 : Int32) => wX7_valueOf_b6 u Q f x1 x2 x3 x4 x5 x7) Q a (nI c) (nI t) (nI y) (valS v a c t y i) (nI i) := fun d => by
      rw [if_pos d] at es
      unfold wX7_valueOf_b23
      refine volC_w h hi hc ht (meanC_w h.1 hi hy (fun x ex z ez => ?_))
      rw [ex, ez, nI_1, ← es]; exact ih
    unfold wX7_valueOf_b6
    refine ⟨fun cc => absurd ((nI_leI (a := 4) (b := i) (by omega) (by omega)).mp cc) (by omega), fun _ => ⟨fun z => take (Or.inl z), fun z => ⟨fun z2 => take (Or.inr z2), fun z2 y ey => ?_⟩⟩⟩
    rw [if_neg (fun d => d.elim z z2)] at es
    rw [ey, nI_1, show valS v a c t _ i = valS v a c t _ (i + 1) by rw [es]; grind]
    exact ih
theorem valR_w {u v : Mm} (h : Rel u v) (hr : rR1 v) (a : Int32) {c t y : Nat} (hc : c < 6) (ht : t < 12) (hy : y < 3) {Q : Int64 → Prop} (hq : Q (valS v a c t y 4)) : wX9_atPricesOf v a (nI c) (nI t) (nI y) Q := by
  unfold wX9_atPricesOf
  refine loopF (fun f i => wX9_atPricesOf_b6 v Q f a (nI c) (nI t) (nI y) (valS v a c t y i) (nI i)) 4 (fun f => ?_) (fun f i hi ih => ?_) 0 (by omega)
  · unfold wX9_atPricesOf_b6
    exact ⟨fun _ => hq, fun cc => absurd ((nI_leI (a := 4) (b := 4) (by omega) (by omega)).mpr (Nat.le_refl _)) cc⟩
  · have es : valS v a c t y (i + 1) = valS v a c t y i + (if inA a i then volS v c t i * meaS v y i else 0) := rfl
    unfold wX9_atPricesOf_b6
    refine ⟨fun cc => absurd ((nI_leI (a := 4) (b := i) (by omega) (by omega)).mp cc) (by omega), fun _ x8 e8 => ?_⟩
    have e8 : x8 = nI (i * 12 + 4 * y) := by
      rw [e8, show (12 : Int32) = nI 12 from rfl, show (4 : Int32) = nI 4 from rfl, pk_mul, pk_mul, nI_add, Nat.mul_comm 12]
    subst e8
    have hn2 : nI (i * 12 + 4 * y) + (2 : Int32) = nI (i * 12 + 4 * y + 2) := by rw [show (2 : Int32) = nI 2 from rfl, nI_add]
    have hn3 : nI (i * 12 + 4 * y) + (3 : Int32) = nI (i * 12 + 4 * y + 3) := by rw [show (3 : Int32) = nI 3 from rfl, nI_add]
    rw [nI_1, hn2, hn3, nI_clamp (n := i * 12 + 4 * y) (by omega), nI_clamp (n := i * 12 + 4 * y + 1) (by omega), nI_clamp (n := i * 12 + 4 * y + 2) (by omega), nI_clamp (n := i * 12 + 4 * y + 3) (by omega), meanR h hi hy]
    refine ⟨vp_in_nI (by omega) (by omega), vp_in_nI (by omega) (by omega), vp_in_nI (by omega) (by omega), vp_in_nI (by omega) (by omega), fun x9 e9 => ?_⟩
    have take : inA a i → wX9_atPricesOf_b77 v (fun (x1 : Int32) (x2 : Int32) (x3 : Int32) (x4 : Int32) (x5 : Int64) (x7 : Int32) => wX9_atPricesOf_b6 v Q f x1 x2 x3 x4 x5 x7) Q a (nI c) (nI t) (nI y) (nI i) x9 (valS v a c t y i) := fun d => by
      rw [if_pos d] at es
      unfold wX9_atPricesOf_b77
      refine volR_w h hr hi hc ht (fun x ex z ez => ?_)
      rw [e9] at ex
      rw [ex, ez, nI_1, ← es]; exact ih
    refine ⟨fun z => take (Or.inl z), fun z => ⟨fun z2 => take (Or.inr z2), fun z2 x ex y ey => ?_⟩⟩
    rw [if_neg (fun d => d.elim z z2)] at es
    rw [ex, ey, nI_1, ← es]; exact ih
theorem pyC_w {t : Nat} (ht : t < 12) {Q : Int32 → Prop} (hq : Q (nI (t / 4 - 1))) : wX7_priceYearOf (nI t) Q := by
  unfold wX7_priceYearOf
  rw [div4 ht]
  refine max_w ?_
  by_cases z : t / 4 = 0
  · rw [z] at hq ⊢
    exact hq
  · rw [show nI (t / 4) - (1 : Int32) = nI (t / 4 - 1) by rw [show (1 : Int32) = nI 1 from rfl, pk_sub (by omega)]]
    rw [if_neg (by
      rw [show (0 : Int32) = nI 0 from rfl, nI_ltI (by omega) (by omega)]; omega)]
    exact hq
theorem pyR_w {t : Nat} (ht : t < 12) {Q : Int32 → Prop} (hq : Q (nI (t / 4 - 1))) : wX9_yearFor (nI t) Q := by
  unfold wX9_yearFor
  rw [div4 ht]
  refine ⟨fun z => ?_, fun z => ?_⟩
  · rw [show (4 : Int32) = nI 4 from rfl, nI_leI (by omega) (by omega)] at z
    rw [show nI (t / 4) - (1 : Int32) = nI (t / 4 - 1) by rw [show (1 : Int32) = nI 1 from rfl, pk_sub (by omega)]]
    exact hq
  · rw [show (4 : Int32) = nI 4 from rfl, nI_leI (by omega) (by omega)] at z
    rw [show t / 4 - 1 = 0 by omega] at hq
    exact hq
theorem pre1 {t : Nat} (h : 1 ≤ t) : nI t - (1 : Int32) = nI (t - 1) := by rw [show (1 : Int32) = nI 1 from rfl, pk_sub h]
theorem pos_of {x : Int64} (h : ¬ x ≤ 0) : 0 < x.toInt := by
  rw [Int64.le_iff_toInt_le] at h
  have z : (0 : Int64).toInt = 0 := rfl
  omega
theorem ratio_w {x y : Int64} {Q : Int64 → Prop} (hq : Q (if y ≤ 0 then -1 else flo (1000000 * x) y)) : wX7_ratio x y Q := by
  unfold wX7_ratio
  refine ⟨fun z => ?_, fun z => ?_⟩
  · rw [if_pos z] at hq; exact hq
  · rw [if_neg z] at hq
    rw [Int64.mul_comm]
    exact floorDiv_w (pos_of z) hq
theorem growC_w {u v : Mm} (h : Sd u v) (a : Int32) {c t : Nat} (hc : c < 6) (h1 : 1 ≤ t) (ht : t < 12) {Q : Int64 → Prop} (hq : Q (groS v a c t)) : wX7_growthOf u a (nI c) (nI t) Q := by
  unfold wX7_growthOf
  refine pyC_w ht (valC_w h a hc ht (by omega) ?_)
  rw [pre1 h1]
  exact valC_w h a hc (by omega) (by omega) (ratio_w hq)
theorem lowR_w {u v : Mm} (h : Rel u v) (hr : rR1 v) (a : Int32) {c t : Nat} (hc : c < 6) (h1 : 1 ≤ t) (ht : t < 12) {Q : Int64 → Prop} (hq : Q (valS v a c (t - 1) (t / 4 - 1) 4)) : wX9_lowerOf v a (nI c) (nI t) Q := by
  unfold wX9_lowerOf
  refine pyR_w ht ?_
  rw [pre1 h1]
  exact valR_w h hr a hc (by omega) (by omega) hq
theorem growR_w {u v : Mm} (h : Rel u v) (hr : rR1 v) (a : Int32) {c t : Nat} (hc : c < 6) (h1 : 1 ≤ t) (ht : t < 12) {Q : Int64 → Prop} (hq : Q (groS v a c t)) : wX9_growthOf v a (nI c) (nI t) Q := by
  unfold wX9_growthOf
  unfold groS at hq
  refine lowR_w h hr a hc h1 ht ⟨fun z => ?_, fun z => ?_⟩
  · rw [if_pos z] at hq; exact hq
  · rw [if_neg z] at hq
    exact pyR_w ht (valR_w h hr a hc ht (by omega) (floR_w (ne0_of_pos (pos_of z)) hq))
theorem cutC_w {x m : Int64} (hm : ¬ m < -m) {Q : Int64 → Prop} (hq : Q (cutF x m)) : wX7_cut x m Q := by
  unfold wX7_cut wJ9_min_f86c9 wJ9_max_f86c9
  unfold cutF at hq
  simp only [Int64.lt_iff_toInt_lt] at hm ⊢
  simp only [Int64.le_iff_toInt_le] at hq
  refine ⟨fun z => ?_, fun z => ?_⟩
  · rw [if_neg (by omega)] at hq
    refine ⟨fun _ => hq, fun z2 => ?_⟩
    have : m = -m := by rw [← Int64.toInt_inj]; omega
    rw [← this]; exact hq
  · rw [if_pos (by omega)] at hq
    refine ⟨fun z2 => ?_, fun z2 => ?_⟩
    · rw [if_pos (by omega)] at hq; exact hq
    · by_cases e : (-m).toInt ≤ x.toInt
      · rw [if_pos e] at hq
        have : -m = x := by rw [← Int64.toInt_inj]; omega
        rw [this]; exact hq
      · rw [if_neg e] at hq; exact hq
theorem cutR_w {x m : Int64} {Q : Int64 → Prop} (hq : Q (cutF x m)) : wX9_cut x m Q := by
  unfold wX9_cut
  unfold cutF at hq
  refine ⟨fun z => ⟨fun z2 => ?_, fun z2 => ?_⟩, fun z => ?_⟩
  · rw [if_pos z, if_pos z2] at hq; exact hq
  · rw [if_pos z, if_neg z2] at hq; exact hq
  · rw [if_neg z] at hq; exact hq
theorem chainedC_w {x y : Int64} {Q : Int64 → Prop} (hq : Q (flo (x * y) 1000000)) : wX7_chained x y Q := by
  unfold wX7_chained
  exact floorDiv_w (by decide) hq
theorem chainC_w {u v : Mm} (h : Sd u v) (a : Int32) {c T : Nat} (hc : c < 6) (hT : T < 12) {Q : Int64 → Prop} (hq : Q (chnS v a c T)) : wX7_chainOf u a (nI c) (nI T) Q := by
  unfold wX7_chainOf
  refine loopF (fun f i => wX7_chainOf_b8 u Q f a (nI c) (nI T) (chnS v a c i) (nI (i + 1))) T (fun f => ?_) (fun f i hi ih => ?_) 0 (by omega)
  · unfold wX7_chainOf_b8
    exact ⟨fun _ => hq, fun cc => absurd ((nI_ltI (by omega) (by omega)).mpr (by omega)) cc⟩
  · have es : chnS v a c (i + 1) = if valS v a c i ((i + 1) / 4 - 1) 4 ≤ 0 then chnS v a c i else cutF (flo (chnS v a c i * cutF (groS v a c (i + 1)) 1000000000) 1000000) 10000000 := rfl
    unfold wX7_chainOf_b8
    rw [pre1 (t := i + 1) (by omega), show i + 1 - 1 = i by omega]
    refine ⟨fun cc => absurd ((nI_ltI (by omega) (by omega)).mp cc) (by omega), fun _ => pyC_w (by omega) (valC_w h a hc (by omega) (by omega) ⟨fun z y ey => ?_, fun z => ?_⟩)⟩
    · rw [if_pos z] at es
      rw [ey, nI_1, ← es]; exact ih
    · rw [if_neg z] at es
      refine valC_w h a hc (by omega) (by omega) (ratio_w ?_)
      have eg : groS v a c (i + 1) = if valS v a c i ((i + 1) / 4 - 1) 4 ≤ 0 then -1 else flo (1000000 * valS v a c (i + 1) ((i + 1) / 4 - 1) 4) (valS v a c i ((i + 1) / 4 - 1) 4) := rfl
      rw [← eg]
      refine cutC_w (by decide) (chainedC_w ?_)
      rw [Int64.mul_comm]
      refine cutC_w (by decide) (fun y ey => ?_)
      rw [← es, ey, nI_1]; exact ih
theorem chainR_w {u v : Mm} (h : Rel u v) (hr : rR1 v) (a : Int32) {c T : Nat} (hc : c < 6) (hT : T < 12) {Q : Int64 → Prop} (hq : Q (chnS v a c T)) : wX9_chainOf v a (nI c) (nI T) Q := by
  unfold wX9_chainOf
  refine loopF (fun f i => wX9_chainOf_b8 v Q f a (nI c) (nI T) (chnS v a c i) (nI (i + 1))) T (fun f => ?_) (fun f i hi ih => ?_) 0 (by omega)
  · unfold wX9_chainOf_b8
    exact ⟨fun _ => hq, fun cc => absurd ((nI_ltI (by omega) (by omega)).mpr (by omega)) cc⟩
  · have es : chnS v a c (i + 1) = if valS v a c i ((i + 1) / 4 - 1) 4 ≤ 0 then chnS v a c i else cutF (flo (chnS v a c i * cutF (groS v a c (i + 1)) 1000000000) 1000000) 10000000 := rfl
    unfold wX9_chainOf_b8
    refine ⟨fun cc => absurd ((nI_ltI (by omega) (by omega)).mp cc) (by omega), fun _ => lowR_w h hr a hc (by omega) (by omega) ⟨fun z y ey => ?_, fun z => ?_⟩⟩
    · have z : valS v a c i ((i + 1) / 4 - 1) 4 ≤ 0 := z
      rw [if_pos z] at es
      rw [ey, nI_1, ← es]; exact ih
    · have z : ¬ valS v a c i ((i + 1) / 4 - 1) 4 ≤ 0 := z
      rw [if_neg z] at es
      refine growR_w h hr a hc (by omega) (by omega) (cutR_w (floR_w (by decide) (cutR_w (fun y ey => ?_))))
      rw [← es, ey, nI_1]; exact ih
theorem apartC_w {u v : Mm} (h : Sd u v) {c T : Nat} (hc : c < 6) (hT : T < 12) {Q : Int64 → Prop} (hq : Q (aprS v c T 4 - flo (valS v (-1) c 0 0 4 * chnS v (-1) c T) 1000000)) : wX7_apartOf u (nI c) (nI T) Q := by
  unfold wX7_apartOf
  refine loopF (fun f i => wX7_apartOf_b5 u Q f (nI c) (nI T) (aprS v c T i) (nI i)) 4 (fun f => ?_) (fun f i hi ih => ?_) 0 (by omega)
  · unfold wX7_apartOf_b5
    exact ⟨fun _ => valC_w (t := 0) (y := 0) h (-1) hc (by omega) (by omega) (chainC_w h (-1) hc hT (chainedC_w hq)), fun cc => absurd ((nI_leI (a := 4) (b := 4) (by omega) (by omega)).mpr (Nat.le_refl _)) cc⟩
  · unfold wX7_apartOf_b5
    refine ⟨fun cc => absurd ((nI_leI (a := 4) (b := i) (by omega) (by omega)).mp cc) (by omega), fun _ => valC_w (t := 0) (y := 0) h (nI i) hc (by omega) (by omega) (chainC_w h (nI i) hc hT (chainedC_w (fun x ex y ey => ?_)))⟩
    rw [ex, ey, nI_1]; exact ih
theorem apartR_w {u v : Mm} (h : Rel u v) (hr : rR1 v) {c T : Nat} (hc : c < 6) (hT : T < 12) {Q : Int64 → Mm → Prop} (hq : Q (aprS v c T 4 - flo (valS v (-1) c 0 0 4 * chnS v (-1) c T) 1000000) v) : ∃ f, wX9_apart_b37 Q f v (nI c) (nI T) (0 : Int64) (0 : Int32) := by
  refine loopF (fun f i => wX9_apart_b37 Q f v (nI c) (nI T) (aprS v c T i) (nI i)) 4 (fun f => ?_) (fun f i hi ih => ?_) 0 (by omega)
  · unfold wX9_apart_b37
    exact ⟨fun _ => valR_w (t := 0) (y := 0) h hr (-1) hc (by omega) (by omega) (chainR_w h hr (-1) hc hT (floR_w (by decide) hq)), fun cc => absurd ((nI_leI (a := 4) (b := 4) (by omega) (by omega)).mpr (Nat.le_refl _)) cc⟩
  · unfold wX9_apart_b37
    refine ⟨fun cc => absurd ((nI_leI (a := 4) (b := i) (by omega) (by omega)).mp cc) (by omega), fun _ => valR_w (t := 0) (y := 0) h hr (nI i) hc (by omega) (by omega) (chainR_w h hr (nI i) hc hT (floR_w (by decide) (fun x ex y ey => ?_)))⟩
    rw [ex, ey, nI_1]; exact ih
theorem st_volume {u v : Mm} (h : Rel u v) (a1 a2 a3 : Int32) : wX8_volume u a1 a2 a3 (fun (r : Int64) (u1 : Mm) => wX9_volume v a1 a2 a3 (fun (r2 : Int64) (v1 : Mm) => r = r2 ∧ Rel u1 v1)) := by
  unfold wX8_volume wX9_volume
  refine below_b 4 (fun n => refused_bad (in_b 0 3 (fun _ => ⟨rfl, h⟩) (fun z => absurd (by omega) n))) (fun p1 => below_b 6 (fun n => refused_bad (in_b 0 3 (fun z => absurd (by omega) z) (fun _ => in_b 0 5 (fun _ => ⟨rfl, h⟩) (fun z => absurd (by omega) n)))) (fun p2 => below_b 12 (fun n => refused_bad (in_b 0 3 (fun z => absurd (by omega) z) (fun _ => in_b 0 5 (fun z => absurd (by omega) z) (fun _ => in_b 0 11 (fun _ => ⟨rfl, h⟩) (fun z => absurd (by omega) n))))) (fun p3 => ?_)))
  obtain ⟨p, hp, rfl⟩ := ix_of 4 p1
  obtain ⟨c, hc, rfl⟩ := ix_of 6 p2
  obtain ⟨t, ht, rfl⟩ := ix_of 12 p3
  refine setAll_w h (fun u1 h1 => volC_w h1 hp hc ht (in_b 0 3 (fun z => absurd (by omega) z) (fun _ => in_b 0 5 (fun z => absurd (by omega) z) (fun _ => in_b 0 11 (fun z => absurd (by omega) z) (fun _ => looks_Sd h1 (fun v1 h2 htv hr => volR_w h2.1 hr hp hc ht ⟨?_, h2.1⟩))))))
  exact (tV_f htv (fun m => volS m c t p) (fun m => volS_t m c t p)).symm
theorem st_atPrices {u v : Mm} (h : Rel u v) (a1 a2 a3 a4 : Int32) : wX8_atPrices u a1 a2 a3 a4 (fun (r : Int64) (u1 : Mm) => wX9_atPrices v a1 a2 a3 a4 (fun (r2 : Int64) (v1 : Mm) => r = r2 ∧ Rel u1 v1)) := by
  unfold wX8_atPrices wX9_atPrices
  refine isSeries_b (fun n => refused_bad (in_b (-1) 3 (fun _ => ⟨rfl, h⟩) (fun y => in_b 0 5 (fun _ => ⟨rfl, h⟩) (fun z => absurd ⟨y, by omega⟩ n)))) (fun p1 => below_b 12 (fun n => refused_bad (in_b (-1) 3 (fun z => absurd p1.1 z) (fun _ => in_b 0 5 (fun z => absurd (by have := p1.2; omega) z) (fun _ => in_b 0 11 (fun _ => ⟨rfl, h⟩) (fun z => absurd (by omega) n))))) (fun p2 => below_b 3 (fun n => refused_bad (in_b (-1) 3 (fun z => absurd p1.1 z) (fun _ => in_b 0 5 (fun z => absurd (by have := p1.2; omega) z) (fun _ => in_b 0 11 (fun z => absurd (by omega) z) (fun _ => in_b 0 2 (fun _ => ⟨rfl, h⟩) (fun z => absurd (by omega) n)))))) (fun p3 => ?_)))
  obtain ⟨c, hc, rfl⟩ := ix_of 6 p1.2
  obtain ⟨t, ht, rfl⟩ := ix_of 12 p2
  obtain ⟨y, hy, rfl⟩ := ix_of 3 p3
  refine setAll_w h (fun u1 h1 => valC_w h1 a1 hc ht hy (in_b (-1) 3 (fun z => absurd p1.1 z) (fun _ => in_b 0 5 (fun z => absurd (by have := p1.2; omega) z) (fun _ => in_b 0 11 (fun z => absurd (by omega) z) (fun _ => in_b 0 2 (fun z => absurd (by omega) z) (fun _ => looks_Sd h1 (fun v1 h2 htv hr => valR_w h2.1 hr a1 hc ht hy ⟨?_, h2.1⟩)))))))
  exact (tV_f htv (fun m => valS m a1 c t y 4) (fun m => valS_t m a1 c t y 4)).symm
theorem st_growth {u v : Mm} (h : Rel u v) (a1 a2 a3 : Int32) : wX8_growth u a1 a2 a3 (fun (r : Int64) (u1 : Mm) => wX9_growth v a1 a2 a3 (fun (r2 : Int64) (v1 : Mm) => r = r2 ∧ Rel u1 v1)) := by
  unfold wX8_growth wX9_growth
  refine isSeries_b (fun n => refused_bad (in_b (-1) 3 (fun _ => ⟨rfl, h⟩) (fun y => in_b 0 5 (fun _ => ⟨rfl, h⟩) (fun z => absurd ⟨y, by omega⟩ n)))) (fun p1 => within_b 1 11 (fun n => refused_bad (in_b (-1) 3 (fun z => absurd p1.1 z) (fun _ => in_b 0 5 (fun z => absurd (by have := p1.2; omega) z) (fun _ => in_b 1 11 (fun _ => ⟨rfl, h⟩) (fun z => absurd z n))))) (fun p2 => ?_))
  obtain ⟨c, hc, rfl⟩ := ix_of 6 p1.2
  obtain ⟨t, ht, rfl⟩ := ix_of 12 (a := a3) (by omega)
  have t1 : 1 ≤ t := by rw [nI_toInt (by omega)] at p2; omega
  refine setAll_w h (fun u1 h1 => growC_w h1 a1 hc t1 ht (in_b (-1) 3 (fun z => absurd p1.1 z) (fun _ => in_b 0 5 (fun z => absurd (by have := p1.2; omega) z) (fun _ => in_b 1 11 (fun z => absurd p2 z) (fun _ => looks_Sd h1 (fun v1 h2 htv hr => growR_w h2.1 hr a1 hc t1 ht ⟨?_, h2.1⟩))))))
  exact (tV_f htv (fun m => groS m a1 c t) (fun m => groS_t m a1 c t)).symm
theorem st_chain {u v : Mm} (h : Rel u v) (a1 a2 a3 : Int32) : wX8_chain u a1 a2 a3 (fun (r : Int64) (u1 : Mm) => wX9_chain v a1 a2 a3 (fun (r2 : Int64) (v1 : Mm) => r = r2 ∧ Rel u1 v1)) := by
  unfold wX8_chain wX9_chain
  refine isSeries_b (fun n => refused_bad (in_b (-1) 3 (fun _ => ⟨rfl, h⟩) (fun y => in_b 0 5 (fun _ => ⟨rfl, h⟩) (fun z => absurd ⟨y, by omega⟩ n)))) (fun p1 => below_b 12 (fun n => refused_bad (in_b (-1) 3 (fun z => absurd p1.1 z) (fun _ => in_b 0 5 (fun z => absurd (by have := p1.2; omega) z) (fun _ => in_b 0 11 (fun _ => ⟨rfl, h⟩) (fun z => absurd (by omega) n))))) (fun p2 => ?_))
  obtain ⟨c, hc, rfl⟩ := ix_of 6 p1.2
  obtain ⟨t, ht, rfl⟩ := ix_of 12 p2
  refine setAll_w h (fun u1 h1 => chainC_w h1 a1 hc ht (in_b (-1) 3 (fun z => absurd p1.1 z) (fun _ => in_b 0 5 (fun z => absurd (by have := p1.2; omega) z) (fun _ => in_b 0 11 (fun z => absurd (by omega) z) (fun _ => looks_Sd h1 (fun v1 h2 htv hr => chainR_w h2.1 hr a1 hc ht ⟨?_, h2.1⟩))))))
  exact (tV_f htv (fun m => chnS m a1 c t) (fun m => chnS_t m a1 c t)).symm
theorem st_apart {u v : Mm} (h : Rel u v) (a1 a2 : Int32) : wX8_apart u a1 a2 (fun (r : Int64) (u1 : Mm) => wX9_apart v a1 a2 (fun (r2 : Int64) (v1 : Mm) => r = r2 ∧ Rel u1 v1)) := by
  unfold wX8_apart wX9_apart
  refine below_b 6 (fun n => refused_bad (in_b 0 5 (fun _ => ⟨rfl, h⟩) (fun z => absurd (by omega) n))) (fun p1 => below_b 12 (fun n => refused_bad (in_b 0 5 (fun z => absurd (by omega) z) (fun _ => in_b 0 11 (fun _ => ⟨rfl, h⟩) (fun z => absurd (by omega) n)))) (fun p2 => ?_))
  obtain ⟨c, hc, rfl⟩ := ix_of 6 p1
  obtain ⟨t, ht, rfl⟩ := ix_of 12 p2
  refine setAll_w h (fun u1 h1 => apartC_w h1 hc ht (in_b 0 5 (fun z => absurd (by omega) z) (fun _ => in_b 0 11 (fun z => absurd (by omega) z) (fun _ => looks_Sd h1 (fun v1 h2 htv hr => apartR_w h2.1 hr hc ht ⟨?_, h2.1⟩)))))
  rw [tV_f htv (fun m => aprS m c t 4) (fun m => aprS_t m c t 4), tV_f htv (fun m => valS m (-1) c 0 0 4) (fun m => valS_t m (-1) c 0 0 4), tV_f htv (fun m => chnS m (-1) c t) (fun m => chnS_t m (-1) c t)]
