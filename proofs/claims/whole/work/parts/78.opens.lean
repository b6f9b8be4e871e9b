/-! ===== open, broken, breaks ===== -/
def opN (v : Mm) : Nat → Nat
  | 0 => 0
  | k + 1 => if openS v (k / 12) (k % 12 / 4) (k % 12 % 4) = 0 then opN v k else opN v k + 1
theorem opN_le (v : Mm) : ∀ k, opN v k ≤ k
  | 0 => Nat.le_refl 0
  | k + 1 => by
    have := opN_le v k
    show (if openS v (k / 12) (k % 12 / 4) (k % 12 % 4) = 0 then opN v k else opN v k + 1) ≤ k + 1
    split <;> omega
theorem nI_0' (n : Nat) : nI n + (0 : Int32) = nI n := by rw [show (0 : Int32) = nI 0 from rfl, nI_add]; rfl
theorem openC_w {u v : Mm} (h : Sd u v) {Q : Int32 → Prop} (hq : Q (nI (opN v 96))) : wX6_howManyOpen u Q := by
  unfold wX6_howManyOpen
  refine loopF (fun f i => wX6_howManyOpen_b4 u Q f (nI (opN v (48 * i))) (nI i)) 2 (fun f => ?_) (fun f i hi ih => ?_) 0 (by omega)
  · unfold wX6_howManyOpen_b4
    exact ⟨fun _ => hq, fun cc => absurd ((nI_leI (a := 2) (b := 2) (by omega) (by omega)).mpr (Nat.le_refl _)) cc⟩
  · unfold wX6_howManyOpen_b4
    refine ⟨fun cc => absurd ((nI_leI (a := 2) (b := i) (by omega) (by omega)).mp cc) (by omega), fun _ => ?_⟩
    refine loopF (fun g j => wX6_howManyOpen_b11 u (fun (x1 : Int32) (x2 : Int32) => wX6_howManyOpen_b4 u Q f x1 x2) Q g (nI (opN v (48 * i + 12 * j))) (nI i) (nI j)) 4 (fun g => ?_) (fun g j hj ih2 => ?_) 0 (by omega)
    · unfold wX6_howManyOpen_b11
      refine ⟨fun _ y ey => ?_, fun cc => absurd ((nI_leI (a := 4) (b := 4) (by omega) (by omega)).mpr (Nat.le_refl _)) cc⟩
      rw [ey, nI_1, show 48 * i + 12 * 4 = 48 * (i + 1) by omega]
      exact ih
    · unfold wX6_howManyOpen_b11
      refine ⟨fun cc => absurd ((nI_leI (a := 4) (b := j) (by omega) (by omega)).mp cc) (by omega), fun _ => ?_⟩
      refine loopF (fun e t => wX6_howManyOpen_b19 u (fun (x1 : Int32) (x2 : Int32) (x3 : Int32) => wX6_howManyOpen_b11 u (fun (x1 : Int32) (x2 : Int32) => wX6_howManyOpen_b4 u Q f x1 x2) Q g x1 x2 x3) Q e (nI (opN v (48 * i + 12 * j + t))) (nI i) (nI j) (nI t)) 12 (fun e => ?_) (fun e t ht ih3 => ?_) 0 (by omega)
      · unfold wX6_howManyOpen_b19
        refine ⟨fun _ y ey => ?_, fun cc => absurd ((nI_leI (a := 12) (b := 12) (by omega) (by omega)).mpr (Nat.le_refl _)) cc⟩
        rw [ey, nI_1, show 48 * i + 12 * j + 12 = 48 * i + 12 * (j + 1) by omega]
        exact ih2
      · have es : opN v (48 * i + 12 * j + t + 1) = if openS v ((48 * i + 12 * j + t) / 12) ((48 * i + 12 * j + t) % 12 / 4) ((48 * i + 12 * j + t) % 12 % 4) = 0 then opN v (48 * i + 12 * j + t) else opN v (48 * i + 12 * j + t) + 1 := rfl
        rw [show (48 * i + 12 * j + t) / 12 = i * 4 + j by omega, show (48 * i + 12 * j + t) % 12 = t by omega] at es
        unfold wX6_howManyOpen_b19
        refine ⟨fun cc => absurd ((nI_leI (a := 12) (b := t) (by omega) (by omega)).mp cc) (by omega), fun _ => isOpen_w h.1 hi hj ht (h.2 _ _ (by omega) (by omega)) ⟨fun z x ex y ey => ?_, fun z x ex y ey => ?_⟩⟩
        · rw [if_pos z] at es
          rw [ex, ey, nI_1, nI_0', ← es]
          exact ih3
        · rw [if_neg z] at es
          rw [ex, ey, nI_1, nI_1, ← es]
          exact ih3
theorem openL_w {v : Mm} (h : rR1 v) {Q : Int32 → Mm → Prop} (hq : Q (nI (opN v 96)) v) : ∃ f, wX9_openMany_b8 Q f v (0 : Int32) (0 : Int32) := by
  refine loopF (fun f i => wX9_openMany_b8 Q f v (nI (opN v i)) (nI i)) 96 (fun f => ?_) (fun f i hi ih => ?_) 0 (by omega)
  · unfold wX9_openMany_b8
    exact ⟨fun _ => hq, fun cc => absurd ((nI_leI (a := 96) (b := 96) (by omega) (by omega)).mpr (Nat.le_refl _)) cc⟩
  · have es : opN v (i + 1) = if openS v (i / 12) (i % 12 / 4) (i % 12 % 4) = 0 then opN v i else opN v i + 1 := rfl
    have e17 := (rR_pl (lp := i / 12) (t := i % 12) h (by omega) (by omega)).2
    rw [show i / 12 * 12 + i % 12 = i by omega] at e17
    unfold wX9_openMany_b8
    rw [nI_clamp (n := i) (by omega), e17]
    refine ⟨fun cc => absurd ((nI_leI (a := 96) (b := i) (by omega) (by omega)).mp cc) (by omega), fun _ => ⟨vp_in_nI (by omega) (by omega), fun z x ex y ey => ?_, fun z x ex y ey => ?_⟩⟩
    · rw [if_pos z] at es
      rw [ex, ey, nI_1, nI_0', ← es]; exact ih
    · rw [if_neg z] at es
      rw [ex, ey, nI_1, nI_1, ← es]; exact ih
theorem opN_t (m : Mm) : ∀ k, opN (tV m) k = opN m k
  | 0 => rfl
  | k + 1 => by
    have e : openS (tV m) (k / 12) (k % 12 / 4) (k % 12 % 4) = openS m (k / 12) (k % 12 / 4) (k % 12 % 4) := rfl
    show (if openS (tV m) (k / 12) (k % 12 / 4) (k % 12 % 4) = 0 then opN (tV m) k else opN (tV m) k + 1) = (if openS m (k / 12) (k % 12 / 4) (k % 12 % 4) = 0 then opN m k else opN m k + 1)
    rw [e, opN_t m k]
theorem openR_w {u v : Mm} (h : Sd u v) {Q : Int32 → Mm → Prop} (hq : ∀ v1, Sd u v1 → tV v1 = tV v → rR1 v1 → Q (nI (opN v 96)) v1) : wX9_openMany v Q := by
  unfold wX9_openMany
  refine looks_Sd h (fun v1 h1 ht hr => openL_w hr ?_)
  rw [tV_f ht (fun m => opN m 96) (fun m => opN_t m 96)]
  exact hq v1 h1 ht hr
theorem st_open {u v : Mm} (h : Rel u v) : wX8_open u (fun (r : Int32) (u1 : Mm) => wX9_open v (fun (r2 : Int32) (v1 : Mm) => r = r2 ∧ Rel u1 v1)) := by
  unfold wX8_open wX9_open
  exact setAll_w h (fun u1 h1 => openC_w h1 (openR_w h1 (fun v1 h2 _ _ => ⟨rfl, h2.1⟩)))
def clo4 (v : Mm) (c : Nat) : Int64 := sumL (fun q => closS v (lineN c / 6) (yearN c) q (lineN c % 6)) 4
abbrev isBr (v : Mm) (c : Nat) : Prop := ¬ wgtS v c ≤ 0 ∧ ¬ clo4 v c = saidS v c
theorem isBroken_w {u v : Mm} (h : Sd u v) {c : Nat} (h1 : 576 ≤ c) (h2 : c < 720) {Q : Int32 → Prop} (q0 : ¬ isBr v c → Q 0) (q1 : isBr v c → Q 1) : wX6_isBroken u (nI c) Q := by
  obtain ⟨-, x2, x3, x4, x5, x6, x7⟩ := aix h1 h2
  have hl := lineN_lt h2
  obtain ⟨ha, hbk⟩ := blk_ann h1 h2 (h.2 (lineN c / 6) (yearN c) (by omega) x4)
  unfold wX6_isBroken
  refine firstCell_w h1 h2 ?_
  refine loopF (fun f i => wX6_isBroken_b10 u Q f (nI c) (nI (lineN c * 12 + 4 * yearN c)) (sumL (fun q => closS v (lineN c / 6) (yearN c) q (lineN c % 6)) i) (nI i)) 4 (fun f => ?_) (fun f i hi ih => ?_) 0 (by omega)
  · unfold wX6_isBroken_b10
    rw [nI_clamp (n := c) (by omega), ha.1, ha.2]
    exact ⟨fun _ => ⟨vp_in_nI (by omega) (by omega), fun z => q0 (fun d => d.1 z), fun z => ⟨vp_in_nI (by omega) (by omega), fun z2 => q0 (fun d => d.2 z2), fun z2 => q1 ⟨z, z2⟩⟩⟩, fun cc => absurd ((nI_leI (a := 4) (b := 4) (by omega) (by omega)).mpr (Nat.le_refl _)) cc⟩
  · unfold wX6_isBroken_b10
    rw [nI_add, nI_clamp (n := lineN c * 12 + 4 * yearN c + i) (by omega), (hbk i hi).2.2.2]
    refine ⟨fun cc => absurd ((nI_leI (a := 4) (b := i) (by omega) (by omega)).mp cc) (by omega), fun _ => ⟨vp_in_nI (by omega) (by omega), fun x ex y ey => ?_⟩⟩
    rw [ex, ey, nI_1]; exact ih
def brN (v : Mm) : Nat → Nat
  | 0 => 0
  | k + 1 => if isBr v (576 + k) then brN v k + 1 else brN v k
theorem isBr_t (m : Mm) (c : Nat) : isBr (tV m) c = isBr m c := rfl
theorem brN_t (m : Mm) : ∀ k, brN (tV m) k = brN m k
  | 0 => rfl
  | k + 1 => by
    have e1 : wgtS (tV m) (576 + k) = wgtS m (576 + k) := rfl
    have e2 : clo4 (tV m) (576 + k) = clo4 m (576 + k) := rfl
    have e3 : saidS (tV m) (576 + k) = saidS m (576 + k) := rfl
    unfold brN isBr
    rw [e1, e2, e3, brN_t m k]
theorem brN_le (v : Mm) : ∀ k, brN v k ≤ k
  | 0 => Nat.le_refl 0
  | k + 1 => by
    have := brN_le v k
    show (if isBr v (576 + k) then brN v k + 1 else brN v k) ≤ k + 1
    split <;> omega
theorem brokenC_w {u v : Mm} (h : Sd u v) {Q : Int32 → Prop} (hq : Q (nI (brN v 144))) : wX6_howManyBroken u Q := by
  unfold wX6_howManyBroken
  refine loopF (fun f i => wX6_howManyBroken_b6 u Q f (nI (brN v i)) (nI (576 + i))) 144 (fun f => ?_) (fun f i hi ih => ?_) 0 (by omega)
  · unfold wX6_howManyBroken_b6
    exact ⟨fun _ => hq, fun cc => absurd ((nI_leI (a := 720) (b := 720) (by omega) (by omega)).mpr (Nat.le_refl _)) cc⟩
  · have es : brN v (i + 1) = if isBr v (576 + i) then brN v i + 1 else brN v i := rfl
    unfold wX6_howManyBroken_b6
    refine ⟨fun cc => absurd ((nI_leI (a := 720) (b := 576 + i) (by omega) (by omega)).mp cc) (by omega), fun _ => isBroken_w h (by omega) (by omega) (fun d => br0 (fun x ex y ey => ?_)) (fun d => br1 (fun x ex y ey => ?_))⟩
    · rw [if_neg d] at es
      rw [ex, ey, nI_1, nI_0', ← es]; exact ih
    · rw [if_pos d] at es
      rw [ex, ey, nI_1, nI_1, ← es]; exact ih
/-- the a-th broken year, from place k on -/
def findB (v : Mm) (a : Int32) : Nat → Nat → Int32
  | 0, _ => -1
  | d + 1, k => if isBr v (576 + k) ∧ nI (brN v k) = a then nI (576 + k) else findB v a d (k + 1)
theorem findB_t (m : Mm) (a : Int32) : ∀ d k, findB (tV m) a d k = findB m a d k
  | 0, _ => rfl
  | d + 1, k => by
    have e1 : wgtS (tV m) (576 + k) = wgtS m (576 + k) := rfl
    have e2 : clo4 (tV m) (576 + k) = clo4 m (576 + k) := rfl
    have e3 : saidS (tV m) (576 + k) = saidS m (576 + k) := rfl
    unfold findB isBr
    rw [e1, e2, e3, brN_t m k, findB_t m a d (k + 1)]
theorem findC_w {u v : Mm} (h : Sd u v) (a : Int32) {Q : Int32 → Prop} (hq : Q (findB v a 144 0)) : wX6_findBroken u a Q := by
  unfold wX6_findBroken
  have key : ∃ f, (fun f i (_ : Unit) => wX6_findBroken_b6 u Q f (a - nI (brN v i)) (nI (576 + i))) f 0 () := by
    refine loopS (fun f i (_ : Unit) => wX6_findBroken_b6 u Q f (a - nI (brN v i)) (nI (576 + i))) (fun i _ => findB v a (144 - i) i = findB v a 144 0) 144 (fun f _ hI => ?_) (fun f i _ hi hI ih => ?_) 0 () (by omega) rfl
    · unfold wX6_findBroken_b6
      refine ⟨fun _ => ?_, fun cc => absurd ((nI_leI (a := 720) (b := 720) (by omega) (by omega)).mpr (Nat.le_refl _)) cc⟩
      rw [← hI] at hq; exact hq
    · have es : brN v (i + 1) = if isBr v (576 + i) then brN v i + 1 else brN v i := rfl
      rw [show 144 - i = (144 - (i + 1)) + 1 by omega] at hI
      have ef : findB v a (144 - (i + 1) + 1) i = if isBr v (576 + i) ∧ nI (brN v i) = a then nI (576 + i) else findB v a (144 - (i + 1)) (i + 1) := rfl
      rw [ef] at hI
      unfold wX6_findBroken_b6
      refine ⟨fun cc => absurd ((nI_leI (a := 720) (b := 576 + i) (by omega) (by omega)).mp cc) (by omega), fun _ => isBroken_w h (by omega) (by omega) (fun d => br0 (fun y ey => ?_)) (fun d => br1 ⟨fun z => ?_, fun z x ex y ey => ?_⟩)⟩
      · rw [if_neg d] at es
        rw [if_neg (fun c => d c.1)] at hI
        rw [ey, nI_1, ← es]
        exact ih () hI
      · rw [if_pos ⟨d, by grind⟩] at hI
        rw [← hI] at hq; exact hq
      · rw [if_pos d] at es
        rw [if_neg (fun c => z (by rw [← c.2]; grind))] at hI
        have e2 : a - nI (brN v i) + (-1 : Int32) = a - nI (brN v (i + 1)) := by rw [es, ← nI_1]; grind
        rw [ey, nI_1, ex, e2]
        exact ih () hI
  have e0 : a - nI (brN v 0) = a := by show a - nI 0 = a; rw [show nI 0 = (0 : Int32) from rfl]; grind
  obtain ⟨f, hf⟩ := key
  rw [e0] at hf
  exact ⟨f, hf⟩
theorem Sd_122 {u v : Mm} (h : Sd u v) (x : Int32) : Sd u (s32 v 122 0 x) := ⟨rel_scr h.1 rfl (pV_s32 _ _ _ (by decide)), fun lp y hl hy => h.2 lp y hl hy⟩
/-- the reference's search: to the a-th, or through all of them -/
theorem brokenR_w {u v : Mm} (h : Sd u v) (a : Int32) {Q : Int32 → Mm → Prop} (hq : ∀ v1, Sd u v1 → (findB v a 144 0 = -1 → v1.1 122 0 = nI (brN v 144)) → tV v1 = tV (s32 v 122 0 (v1.1 122 0)) → rR1 v1 → Q (findB v a 144 0) v1) : wX9_brokenOf v a Q := by
  unfold wX9_brokenOf
  refine looks_Sd h (fun v1 h1 ht hr v3 e3 => ?_)
  have eF : findB v a 144 0 = findB v1 a 144 0 := (tV_f ht (fun m => findB m a 144 0) (fun m => findB_t m a 144 0)).symm
  have eN : brN v 144 = brN v1 144 := (tV_f ht (fun m => brN m 144) (fun m => brN_t m 144)).symm
  have t122 : ∀ x, tV (s32 v1 122 0 x) = tV (s32 v 122 0 x) := fun x => tV_of (fun k hk => by
    by_cases e : k = 122
    · subst e
      rw [s32_k, s32_k, tV_1 ht hk]
    · rw [s32_n _ _ _ e, s32_n _ _ _ e, tV_1 ht hk]) (fun k hk => tV_2 ht hk)
  rw [eF, eN] at hq
  have key : ∃ f, (fun f i (_ : Unit) => wX9_brokenOf_b13 Q f (s32 v1 122 0 (nI (brN v1 i))) a (nI (576 + i))) f 0 () := by
    refine loopS (fun f i (_ : Unit) => wX9_brokenOf_b13 Q f (s32 v1 122 0 (nI (brN v1 i))) a (nI (576 + i))) (fun i _ => findB v1 a (144 - i) i = findB v1 a 144 0) 144 (fun f _ hI => ?_) (fun f i _ hi hI ih => ?_) 0 () (by omega) rfl
    · unfold wX9_brokenOf_b13
      refine ⟨fun _ => ?_, fun cc => absurd ((nI_leI (a := 720) (b := 720) (by omega) (by omega)).mpr (Nat.le_refl _)) cc⟩
      rw [← hI] at hq
      exact hq _ (Sd_122 h1 _) (fun _ => by rw [s32_k, upd_s]) (by rw [s32_k, upd_s]; exact t122 _) hr
    · have es : brN v1 (i + 1) = if isBr v1 (576 + i) then brN v1 i + 1 else brN v1 i := rfl
      rw [show 144 - i = (144 - (i + 1)) + 1 by omega] at hI
      have ef : findB v1 a (144 - (i + 1) + 1) i = if isBr v1 (576 + i) ∧ nI (brN v1 i) = a then nI (576 + i) else findB v1 a (144 - (i + 1)) (i + 1) := rfl
      rw [ef] at hI
      unfold wX9_brokenOf_b13
      refine ⟨fun cc => absurd ((nI_leI (a := 720) (b := 576 + i) (by omega) (by omega)).mp cc) (by omega), fun _ => cellR_w (by omega) (by omega) ?_⟩
      obtain ⟨-, x2, x3, x4, x5, x6, x7⟩ := aix (c := 576 + i) (by omega) (by omega)
      have hl := lineN_lt (c := 576 + i) (by omega)
      have h15 : ∀ q, q < 4 → v1.2 15 (lineN (576 + i) * 12 + 4 * yearN (576 + i) + q) = closS v1 (lineN (576 + i) / 6) (yearN (576 + i)) q (lineN (576 + i) % 6) := fun q hq => (rR_ann hr (by omega) (by omega) hq).2
      have h150 : v1.2 15 (lineN (576 + i) * 12 + 4 * yearN (576 + i)) = closS v1 (lineN (576 + i) / 6) (yearN (576 + i)) 0 (lineN (576 + i) % 6) := h15 0 (by omega)
      have hn1 : nI (lineN (576 + i) * 12 + 4 * yearN (576 + i)) + (1 : Int32) = nI (lineN (576 + i) * 12 + 4 * yearN (576 + i) + 1) := nI_1 _
      have hn2 : nI (lineN (576 + i) * 12 + 4 * yearN (576 + i)) + (2 : Int32) = nI (lineN (576 + i) * 12 + 4 * yearN (576 + i) + 2) := by rw [show (2 : Int32) = nI 2 from rfl, nI_add]
      have hn3 : nI (lineN (576 + i) * 12 + 4 * yearN (576 + i)) + (3 : Int32) = nI (lineN (576 + i) * 12 + 4 * yearN (576 + i) + 3) := by rw [show (3 : Int32) = nI 3 from rfl, nI_add]
      rw [hn1, hn2, hn3]
      refine ⟨vp_in_nI (by omega) (by omega), vp_in_nI (by omega) (by omega), vp_in_nI (by omega) (by omega), vp_in_nI (by omega) (by omega), fun x4 e4 => ?_⟩
      have e4 : x4 = clo4 v1 (576 + i) := by
        rw [e4, s32_2, nI_clamp (n := lineN (576 + i) * 12 + 4 * yearN (576 + i)) (by omega), nI_clamp (n := lineN (576 + i) * 12 + 4 * yearN (576 + i) + 1) (by omega), nI_clamp (n := lineN (576 + i) * 12 + 4 * yearN (576 + i) + 2) (by omega), nI_clamp (n := lineN (576 + i) * 12 + 4 * yearN (576 + i) + 3) (by omega), h15 1 (by omega), h15 2 (by omega), h15 3 (by omega), h150]
        unfold clo4
        show _ = 0 + closS v1 (lineN (576 + i) / 6) (yearN (576 + i)) 0 (lineN (576 + i) % 6) + closS v1 (lineN (576 + i) / 6) (yearN (576 + i)) 1 (lineN (576 + i) % 6) + closS v1 (lineN (576 + i) / 6) (yearN (576 + i)) 2 (lineN (576 + i) % 6) + closS v1 (lineN (576 + i) / 6) (yearN (576 + i)) 3 (lineN (576 + i) % 6)
        grind
      rw [e4, nI_clamp (n := 576 + i) (by omega), s32_n _ _ _ (by decide), s32_2, (hr.1 (576 + i) (by omega)).1, (hr.1 (576 + i) (by omega)).2, s32_k, upd_s]
      have no : ¬ isBr v1 (576 + i) → wX9_brokenOf_b13 Q f (s32 v1 122 0 (nI (brN v1 i))) a (nI (576 + i + 1)) := fun d => by
        rw [if_neg d] at es
        rw [if_neg (fun c => d c.1)] at hI
        rw [← es]
        exact ih () hI
      refine ⟨vp_in_nI (by omega) (by omega), fun z y ey => ?_, fun z => ⟨vp_in_nI (by omega) (by omega), fun z2 y ey => ?_, fun z2 => ⟨fun z3 => ?_, fun z3 w ew y ey => ?_⟩⟩⟩
      · rw [ey, nI_1]; exact no (fun d => d.1 z)
      · rw [ey, nI_1]; exact no (fun d => d.2 z2)
      · have g : isBr v1 (576 + i) ∧ nI (brN v1 i) = a := ⟨⟨z, z2⟩, z3⟩
        rw [if_pos g] at hI
        rw [← hI] at hq
        exact hq _ (Sd_122 h1 _) (fun e => absurd e (nI_ne1 (by omega))) (by rw [s32_k, upd_s]; exact t122 _) hr
      · rw [if_pos ⟨z, z2⟩] at es
        rw [if_neg (fun c => z3 c.2)] at hI
        rw [s32_s32, nI_1, ← es] at ew
        rw [ew, ey, nI_1]
        exact ih () hI
  obtain ⟨f, hf⟩ := key
  rw [e3]
  exact ⟨f, hf⟩
theorem findB_m1 (v : Mm) : ∀ d k, k + d ≤ 144 → findB v (-1) d k = -1
  | 0, _, _ => rfl
  | d + 1, k, hk => by
    have := brN_le v k
    show (if isBr v (576 + k) ∧ nI (brN v k) = -1 then nI (576 + k) else findB v (-1) d (k + 1)) = -1
    rw [if_neg (fun c => nI_ne1 (by omega) c.2), findB_m1 v d (k + 1) (by omega)]
theorem st_broken {u v : Mm} (h : Rel u v) : wX8_broken u (fun (r : Int32) (u1 : Mm) => wX9_broken v (fun (r2 : Int32) (v1 : Mm) => r = r2 ∧ Rel u1 v1)) := by
  unfold wX8_broken wX9_broken
  exact setAll_w h (fun u1 h1 => brokenC_w h1 (brokenR_w h1 (-1) (fun v1 h2 e _ _ => ⟨(e (findB_m1 v 144 0 (by omega))).symm, h2.1⟩)))
theorem st_breaks {u v : Mm} (h : Rel u v) (a1 : Int32) : wX8_breaks u a1 (fun (r : Int32) (u1 : Mm) => wX9_breaks v a1 (fun (r2 : Int32) (v1 : Mm) => r = r2 ∧ Rel u1 v1)) := by
  unfold wX8_breaks wX9_breaks
  refine ⟨fun z => setAll_w h (fun u1 h1 => findC_w h1 a1 ⟨fun _ => brokenR_w h1 a1 (fun v1 h2 _ _ _ => ⟨rfl, h2.1⟩), fun y => absurd z y⟩), fun z => ⟨fun y => absurd y z, fun _ => ⟨rfl, h⟩⟩⟩
