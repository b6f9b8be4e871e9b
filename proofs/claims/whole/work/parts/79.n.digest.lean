/-! ===== digest ===== -/
def DS (a b : Mm) : Prop := (∀ lp y q c, closS a lp y q c = closS b lp y q c) ∧ (∀ lp y q, openS a lp y q = openS b lp y q) ∧ a.1 18 = b.1 18 ∧ a.2 21 = b.2 21 ∧ a.1 24 = b.1 24 ∧ a.1 25 = b.1 25
theorem DS_trans {a b c : Mm} (h1 : DS a b) (h2 : DS b c) : DS a c := ⟨fun lp y q k => (h1.1 lp y q k).trans (h2.1 lp y q k), fun lp y q => (h1.2.1 lp y q).trans (h2.2.1 lp y q), h1.2.2.1.trans h2.2.2.1, h1.2.2.2.1.trans h2.2.2.2.1, h1.2.2.2.2.1.trans h2.2.2.2.2.1, h1.2.2.2.2.2.trans h2.2.2.2.2.2⟩
theorem DS_t {a b : Mm} (h : tV a = tV b) : DS a b := ⟨fun lp y q c => tV_f h (fun m => closS m lp y q c) (fun _ => rfl), fun lp y q => tV_f h (fun m => openS m lp y q) (fun _ => rfl), tV_1 h (by decide), tV_2 h (by decide), tV_1 h (by decide), tV_1 h (by decide)⟩
theorem DS_p {a b : Mm} (h : pV a = pV b) : DS a b := by
  have g : ∀ {α : Type} (f : Mm → α), (∀ m, f (pV m) = f m) → f a = f b := fun f hf => by rw [← hf a, h, hf]
  exact ⟨fun lp y q c => g (fun m => closS m lp y q c) (fun _ => rfl), fun lp y q => g (fun m => openS m lp y q) (fun _ => rfl), g (fun m => m.1 18) (fun _ => rfl), g (fun m => m.2 21) (fun _ => rfl), g (fun m => m.1 24) (fun _ => rfl), g (fun m => m.1 25) (fun _ => rfl)⟩
theorem totS_d {a b : Mm} (h : DS a b) (a1 a2 : Int32) (c t k : Nat) : totS a a1 a2 c t k = totS b a1 a2 c t k := by unfold totS; simp only [h.1]
theorem priS_d {a b : Mm} (h : DS a b) (p t : Nat) : priS a p t = priS b p t := by unfold priS; rw [h.2.2.1]
theorem volS_d {a b : Mm} (h : DS a b) (c t p : Nat) : volS a c t p = volS b c t p := by unfold volS; rw [totS_d h, priS_d h]
theorem meaS_d {a b : Mm} (h : DS a b) (y p : Nat) : meaS a y p = meaS b y p := by unfold meaS; simp only [priS_d h]
theorem valS_d {a b : Mm} (h : DS a b) (x : Int32) (c t y k : Nat) : valS a x c t y k = valS b x c t y k := by unfold valS; simp only [volS_d h, meaS_d h]
theorem groS_d {a b : Mm} (h : DS a b) (x : Int32) (c t : Nat) : groS a x c t = groS b x c t := by unfold groS; rw [valS_d h, valS_d h]
theorem chnS_d {a b : Mm} (h : DS a b) (x : Int32) (c : Nat) : ∀ t, chnS a x c t = chnS b x c t
  | 0 => rfl
  | t + 1 => by unfold chnS; rw [valS_d h, groS_d h, chnS_d h x c t]
theorem opN_d {a b : Mm} (h : DS a b) : ∀ k, opN a k = opN b k
  | 0 => rfl
  | k + 1 => by unfold opN; rw [h.2.1, opN_d h k]
def dgC (v : Mm) : Nat → Int64
  | 0 => 17
  | k + 1 => 31 * dgC v k + (cntV v (nI k)).toInt64
def dgT (v : Mm) (x : Int64) : Nat → Int64
  | 0 => x
  | k + 1 => 31 * dgT v x k + totS v (-1) (-1) (k / 12) (k % 12) 8
def dgH (v : Mm) (x : Int64) : Nat → Int64
  | 0 => x
  | k + 1 => 31 * dgH v x k + chnS v (-1) k 11
def dgN (v : Mm) (x : Int64) : Nat → Int64
  | 0 => x
  | k + 1 => 31 * dgN v x k + netF (v.2 21) k 0 6
def dgL (v : Mm) (x : Int64) : Nat → Int64
  | 0 => x
  | k + 1 => 31 * dgL v x k + (lwB (lawT v k) (lawN v k)).toInt64
def dg1 (v : Mm) : Int64 := 31 * (31 * dgC v 8 + (nI (opN v 96)).toInt64) + (nI (brN v 144)).toInt64
def dgV (v : Mm) : Int64 := dgL v (dgN v (dgH v (dgT v (dg1 v) 72) 6) 6) 4
theorem dgLawC_w {u v : Mm} (h : Sd u v) (x : Int64) {Q : Int64 → Mm → Prop} (hq : ∀ u1, Sd u1 v → Q (dgL v x 4) u1) : ∃ f, wX8_digest_b181 Q f u x (0 : Int32) := by
  refine loopS (fun f i (s : Mm) => wX8_digest_b181 Q f s (dgL v x i) (nI i)) (fun i s => Sd s v) 4 (fun f s hI => ?_) (fun f i s hi hI ih => ?_) 0 u (by omega) h
  · unfold wX8_digest_b181
    exact ⟨fun _ => hq s hI, fun cc => absurd ((nI_leI (a := 4) (b := 4) (by omega) (by omega)).mpr (Nat.le_refl _)) cc⟩
  · obtain ⟨n60, e24, e693, etx⟩ := law_rel hI.1 hi
    unfold wX8_digest_b181
    refine ⟨fun cc => absurd ((nI_leI (a := 4) (b := i) (by omega) (by omega)).mp cc) (by omega), fun _ => ⟨vp_in_nI hi (by omega), fun j1 h1 e1 => ?_⟩⟩
    obtain rfl := nI_j (by omega) (by omega) e1
    refine scanC_w hi n60 e693 etx (fun s1 f1 _ y ey y2 ey2 => ?_)
    rw [ey, ey2, nI_1]
    exact ih s1 (Sd_X hI (frT_pX hi f1))
theorem dgNetC_w {u v : Mm} (h : Sd u v) (x : Int64) {Q : Int64 → Mm → Prop} (hq : ∃ f, wX8_digest_b181 Q f u (dgN v x 6) (0 : Int32)) : ∃ f, wX8_digest_b151 Q f u x (0 : Int32) := by
  refine loopF (fun f i => wX8_digest_b151 Q f u (dgN v x i) (nI i)) 6 (fun f => ?_) (fun f i hi ih => ?_) 0 (by omega)
  · unfold wX8_digest_b151
    exact ⟨fun _ => hq, fun cc => absurd ((nI_leI (a := 6) (b := 6) (by omega) (by omega)).mpr (Nat.le_refl _)) cc⟩
  · unfold wX8_digest_b151
    refine ⟨fun cc => absurd ((nI_leI (a := 6) (b := i) (by omega) (by omega)).mp cc) (by omega), fun _ => netC_w (q := 0) hi (by omega) (fun y ey y2 ey2 => ?_)⟩
    rw [net_eq h.1 hi (by omega)] at ey
    rw [ey, ey2, nI_1]; exact ih
theorem dgChC_w {u v : Mm} (h : Sd u v) (x : Int64) {Q : Int64 → Mm → Prop} (hq : ∃ f, wX8_digest_b151 Q f u (dgH v x 6) (0 : Int32)) : ∃ f, wX8_digest_b119 Q f u x (0 : Int32) := by
  refine loopF (fun f i => wX8_digest_b119 Q f u (dgH v x i) (nI i)) 6 (fun f => ?_) (fun f i hi ih => ?_) 0 (by omega)
  · unfold wX8_digest_b119
    exact ⟨fun _ => hq, fun cc => absurd ((nI_leI (a := 6) (b := 6) (by omega) (by omega)).mpr (Nat.le_refl _)) cc⟩
  · unfold wX8_digest_b119
    refine ⟨fun cc => absurd ((nI_leI (a := 6) (b := i) (by omega) (by omega)).mp cc) (by omega), fun _ => chainC_w (T := 11) h (-1) hi (by omega) (fun y ey y2 ey2 => ?_)⟩
    rw [ey, ey2, nI_1]; exact ih
theorem dgTotC_w {u v : Mm} (h : Sd u v) (x : Int64) {Q : Int64 → Mm → Prop} (hq : ∃ f, wX8_digest_b119 Q f u (dgT v x 72) (0 : Int32)) : ∃ f, wX8_digest_b70 Q f u x (0 : Int32) := by
  refine loopF (fun f i => wX8_digest_b70 Q f u (dgT v x (12 * i)) (nI i)) 6 (fun f => ?_) (fun f i hi ih => ?_) 0 (by omega)
  · unfold wX8_digest_b70
    exact ⟨fun _ => hq, fun cc => absurd ((nI_leI (a := 6) (b := 6) (by omega) (by omega)).mpr (Nat.le_refl _)) cc⟩
  · unfold wX8_digest_b70
    refine ⟨fun cc => absurd ((nI_leI (a := 6) (b := i) (by omega) (by omega)).mp cc) (by omega), fun _ => ?_⟩
    refine loopF (fun g t => wX8_digest_b79 (fun (u : Mm) (x1 : Int64) (x3 : Int32) => wX8_digest_b70 Q f u x1 x3) Q g u (dgT v x (12 * i + t)) (nI i) (nI t)) 12 (fun g => ?_) (fun g t ht ih2 => ?_) 0 (by omega)
    · unfold wX8_digest_b79
      refine ⟨fun _ y ey => ?_, fun cc => absurd ((nI_leI (a := 12) (b := 12) (by omega) (by omega)).mpr (Nat.le_refl _)) cc⟩
      rw [ey, nI_1, show 12 * i + 12 = 12 * (i + 1) by omega]; exact ih
    · have es : dgT v x (12 * i + t + 1) = 31 * dgT v x (12 * i + t) + totS v (-1) (-1) ((12 * i + t) / 12) ((12 * i + t) % 12) 8 := rfl
      rw [show (12 * i + t) / 12 = i by omega, show (12 * i + t) % 12 = t by omega] at es
      unfold wX8_digest_b79
      refine ⟨fun cc => absurd ((nI_leI (a := 12) (b := t) (by omega) (by omega)).mp cc) (by omega), fun _ => sumC_w h (-1) (-1) hi ht (fun y ey y2 ey2 => ?_)⟩
      rw [ey, ey2, nI_1, ← es]; exact ih2
theorem digestC_w {u v : Mm} (h : Rel u v) {Q : Int64 → Mm → Prop} (hq : ∀ u1, Sd u1 v → Q (dgV v) u1) : wX8_digest u Q := by
  unfold wX8_digest
  refine setAll_w h (fun u2 h2 => ?_)
  refine loopS (fun f i (s : Mm) => wX8_digest_b13 Q f s (dgC v i) (nI i)) (fun i s => Sd s v) 8 (fun f s hI => ?_) (fun f i s hi hI ih => ?_) 0 u2 (by omega) h2
  · unfold wX8_digest_b13
    refine ⟨fun _ => openC_w hI (fun x2 e2 => brokenC_w hI (fun x4 e4 => ?_)), fun cc => absurd ((nI_leI (a := 8) (b := 8) (by omega) (by omega)).mpr (Nat.le_refl _)) cc⟩
    have e : x4 = dg1 v := by rw [e4, e2]; rfl
    rw [e]
    exact dgTotC_w hI _ (dgChC_w hI _ (dgNetC_w hI _ (dgLawC_w hI _ hq)))
  · unfold wX8_digest_b13
    refine ⟨fun cc => absurd ((nI_leI (a := 8) (b := i) (by omega) (by omega)).mp cc) (by omega), fun _ => countC_w hI.1 (nI i) (fun s1 hs1 y ey y2 ey2 => ?_)⟩
    rw [ey, ey2, nI_1]
    exact ih s1 (Sd_scr hI hs1 rfl)
theorem dgLawR_w {u v w : Mm} (h : Rel u w) (h24 : w.1 24 = v.1 24) (h25 : w.1 25 = v.1 25) (x : Int64) {Q : Int64 → Mm → Prop} (hq : ∀ w1, Rel u w1 → Q (dgL v x 4) w1) : ∃ f, wX9_digest_b175 Q f w x (0 : Int32) := by
  refine loopS (fun f i (s : Mm) => wX9_digest_b175 Q f s (dgL v x i) (nI i)) (fun i s => Rel u s ∧ s.1 24 = v.1 24 ∧ s.1 25 = v.1 25) 4 (fun f s hI => ?_) (fun f i s hi hI ih => ?_) 0 w (by omega) ⟨h, h24, h25⟩
  · unfold wX9_digest_b175
    exact ⟨fun _ => hq s hI.1, fun cc => absurd ((nI_leI (a := 4) (b := 4) (by omega) (by omega)).mpr (Nat.le_refl _)) cc⟩
  · obtain ⟨i1, i2, i3⟩ := hI
    have eT : lawT s i = lawT v i := by unfold lawT; rw [i3]
    have eN : lawN s i = lawN v i := by unfold lawN; rw [i2]
    unfold wX9_digest_b175
    refine ⟨fun cc => absurd ((nI_leI (a := 4) (b := i) (by omega) (by omega)).mp cc) (by omega), fun _ => readsR_w (qt := 0) i1 hi (by omega) (fun x1 w1 v1 k1 k2 k3 k4 k5 k6 k7 y ey y2 ey2 => ?_)⟩
    rw [eT, eN] at k6
    rw [k6] at ey
    rw [ey, ey2, nI_1]
    refine ih w1 ⟨rel_scr k1 rfl (pV_w k4 k5), ?_, ?_⟩
    · rw [k5 24 (by decide) (by decide) (by decide) (by decide), tV_1 k2 (k := 24) (by decide), i2]
    · rw [k5 25 (by decide) (by decide) (by decide) (by decide), tV_1 k2 (k := 25) (by decide), i3]
theorem digestR_w {u v : Mm} (h : Sd u v) {Q : Int64 → Mm → Prop} (hq : ∀ v1, Rel u v1 → Q (dgV v) v1) : wX9_digest v Q := by
  unfold wX9_digest
  refine loopS (fun f i (s : Mm) => wX9_digest_b6 Q f s (dgC v i) (nI i)) (fun i s => Sd u s ∧ tV s = tV v) 8 (fun f s hI => ?_) (fun f i s hi hI ih => ?_) 0 v (by omega) ⟨h, rfl⟩
  · obtain ⟨hS, hT⟩ := hI
    unfold wX9_digest_b6
    refine ⟨fun _ => brokenR_w hS (-1) (fun v1 h1 e1 t1 r1 => openR_w h1 (fun v2 h2 t2 r2 x5 e5 x6 e6 => ?_)), fun cc => absurd ((nI_leI (a := 8) (b := 8) (by omega) (by omega)).mpr (Nat.le_refl _)) cc⟩
    have d1 : DS v1 v := DS_trans (DS_t t1) (DS_trans (DS_p (pV_s32 _ _ _ (by decide))) (DS_t hT))
    have d2 : DS v2 v := DS_trans (DS_t t2) d1
    have e122 : v2.1 122 0 = nI (brN v 144) := by
      rw [tV_1 t2 (k := 122) (by decide), e1 (findB_m1 s 144 0 (by omega)), tV_f hT (fun m => brN m 144) (fun m => brN_t m 144)]
    have e : x6 = dg1 v := by rw [e6, e5, e122, opN_d d1]; rfl
    rw [e]
    have lw : ∃ f, wX9_digest_b175 Q f v2 (dgN v (dgH v (dgT v (dg1 v) 72) 6) 6) (0 : Int32) := dgLawR_w h2.1 d2.2.2.2.2.1 d2.2.2.2.2.2 _ hq
    have nt : ∃ f, wX9_digest_b145 Q f v2 (dgH v (dgT v (dg1 v) 72) 6) (0 : Int32) := by
      refine loopF (fun f i => wX9_digest_b145 Q f v2 (dgN v (dgH v (dgT v (dg1 v) 72) 6) i) (nI i)) 6 (fun f => ?_) (fun f i hi ih => ?_) 0 (by omega)
      · unfold wX9_digest_b145
        exact ⟨fun _ => lw, fun cc => absurd ((nI_leI (a := 6) (b := 6) (by omega) (by omega)).mpr (Nat.le_refl _)) cc⟩
      · unfold wX9_digest_b145
        refine ⟨fun cc => absurd ((nI_leI (a := 6) (b := i) (by omega) (by omega)).mp cc) (by omega), fun _ => netR_w (q := 0) hi (by omega) (fun y ey y2 ey2 => ?_)⟩
        rw [d2.2.2.2.1] at ey
        rw [ey, ey2, nI_1]; exact ih
    have ch : ∃ f, wX9_digest_b113 Q f v2 (dgT v (dg1 v) 72) (0 : Int32) := by
      refine loopF (fun f i => wX9_digest_b113 Q f v2 (dgH v (dgT v (dg1 v) 72) i) (nI i)) 6 (fun f => ?_) (fun f i hi ih => ?_) 0 (by omega)
      · unfold wX9_digest_b113
        exact ⟨fun _ => nt, fun cc => absurd ((nI_leI (a := 6) (b := 6) (by omega) (by omega)).mpr (Nat.le_refl _)) cc⟩
      · unfold wX9_digest_b113
        refine ⟨fun cc => absurd ((nI_leI (a := 6) (b := i) (by omega) (by omega)).mp cc) (by omega), fun _ => chainR_w (T := 11) h2.1 r2 (-1) hi (by omega) (fun y ey y2 ey2 => ?_)⟩
        rw [chnS_d d2] at ey
        rw [ey, ey2, nI_1]; exact ih
    refine loopF (fun f i => wX9_digest_b64 Q f v2 (dgT v (dg1 v) (12 * i)) (nI i)) 6 (fun f => ?_) (fun f i hi ih => ?_) 0 (by omega)
    · unfold wX9_digest_b64
      exact ⟨fun _ => ch, fun cc => absurd ((nI_leI (a := 6) (b := 6) (by omega) (by omega)).mpr (Nat.le_refl _)) cc⟩
    · unfold wX9_digest_b64
      refine ⟨fun cc => absurd ((nI_leI (a := 6) (b := i) (by omega) (by omega)).mp cc) (by omega), fun _ => ?_⟩
      refine loopF (fun g t => wX9_digest_b74 (fun (u : Mm) (x1 : Int64) (x4 : Int32) => wX9_digest_b64 Q f u x1 x4) Q g v2 (dgT v (dg1 v) (12 * i + t)) (nI i) (nI t)) 12 (fun g => ?_) (fun g t ht ih2 => ?_) 0 (by omega)
      · unfold wX9_digest_b74
        refine ⟨fun _ y ey => ?_, fun cc => absurd ((nI_leI (a := 12) (b := 12) (by omega) (by omega)).mpr (Nat.le_refl _)) cc⟩
        rw [ey, nI_1, show 12 * i + 12 = 12 * (i + 1) by omega]; exact ih
      · have es : dgT v (dg1 v) (12 * i + t + 1) = 31 * dgT v (dg1 v) (12 * i + t) + totS v (-1) (-1) ((12 * i + t) / 12) ((12 * i + t) % 12) 8 := rfl
        rw [show (12 * i + t) / 12 = i by omega, show (12 * i + t) % 12 = t by omega] at es
        unfold wX9_digest_b74
        refine ⟨fun cc => absurd ((nI_leI (a := 12) (b := t) (by omega) (by omega)).mp cc) (by omega), fun _ => totalR_w r2 (-1) (-1) hi ht (fun y ey y2 ey2 => ?_)⟩
        rw [totS_d d2] at ey
        rw [ey, ey2, nI_1, ← es]; exact ih2
  · unfold wX9_digest_b6
    refine ⟨fun cc => absurd ((nI_leI (a := 8) (b := i) (by omega) (by omega)).mp cc) (by omega), fun _ => countR_w2 hI.1.1 (nI i) (fun s1 h1 t1 r1 y ey y2 ey2 => ?_)⟩
    rw [tV_f hI.2 (fun m => cntV m (nI i)) (fun m => cntV_t m (nI i))] at ey
    rw [ey, ey2, nI_1]
    exact ih s1 ⟨⟨h1, fun lp y hl hy => blk_L t1 (hI.1.2 lp y hl hy)⟩, t1.trans hI.2⟩
theorem st_digest {u v : Mm} (h : Rel u v) : wX8_digest u (fun (r : Int64) (u1 : Mm) => wX9_digest v (fun (r2 : Int64) (v1 : Mm) => r = r2 ∧ Rel u1 v1)) :=
  digestC_w h (fun u1 h1 => digestR_w h1 (fun v1 h2 => ⟨rfl, h2⟩))
