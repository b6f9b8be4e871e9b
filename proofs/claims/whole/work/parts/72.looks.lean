/-! ===== the reference's looks ===== -/
def kL1 : List Nat := [6, 8, 17, 107, 111]
def kL2 : List Nat := [7, 10, 11, 12, 13, 15, 16]
def tV (v : Mm) : Mm := (fun k => if kL1.contains k = true then fun _ => 0 else v.1 k, fun k => if kL2.contains k = true then fun _ => 0 else v.2 k)
theorem tV_1 {v v1 : Mm} (h : tV v1 = tV v) {k : Nat} (hk : kL1.contains k = false) : v1.1 k = v.1 k := by
  have h2 := congrArg (fun m : Mm => m.1 k) h
  unfold tV at h2
  dsimp only at h2
  rw [hk] at h2
  exact h2
theorem tV_2 {v v1 : Mm} (h : tV v1 = tV v) {k : Nat} (hk : kL2.contains k = false) : v1.2 k = v.2 k := by
  have h2 := congrArg (fun m : Mm => m.2 k) h
  unfold tV at h2
  dsimp only at h2
  rw [hk] at h2
  exact h2
theorem tV_of {v v1 : Mm} (h1 : ∀ k, kL1.contains k = false → v1.1 k = v.1 k) (h2 : ∀ k, kL2.contains k = false → v1.2 k = v.2 k) : tV v1 = tV v := by
  unfold tV
  refine Prod.ext ?_ ?_
  · funext k
    show (if kL1.contains k = true then fun _ => 0 else v1.1 k) = (if kL1.contains k = true then fun _ => 0 else v.1 k)
    by_cases h : kL1.contains k = true
    · rw [if_pos h, if_pos h]
    · rw [if_neg h, if_neg h, h1 k (by simpa using h)]
  · funext k
    show (if kL2.contains k = true then fun _ => 0 else v1.2 k) = (if kL2.contains k = true then fun _ => 0 else v.2 k)
    by_cases h : kL2.contains k = true
    · rw [if_pos h, if_pos h]
    · rw [if_neg h, if_neg h, h2 k (by simpa using h)]
theorem tV_s32 (v : Mm) {k : Nat} (i : Nat) (x : Int32) (h : kL1.contains k = true) : tV (s32 v k i x) = tV v := tV_of (fun q hq => s32_n _ _ _ (fun e => by rw [e, h] at hq; exact absurd hq (by decide))) (fun _ _ => rfl)
theorem tV_s64 (v : Mm) {k : Nat} (i : Nat) (x : Int64) (h : kL2.contains k = true) : tV (s64 v k i x) = tV v := tV_of (fun _ _ => rfl) (fun q hq => s64_n _ _ _ (fun e => by rw [e, h] at hq; exact absurd hq (by decide)))
theorem tV_f {α : Type} {v v1 : Mm} (h : tV v1 = tV v) (f : Mm → α) (hf : ∀ m, f (tV m) = f m) : f v1 = f v := by
  rw [← hf v1, h, hf]
def okT (v : Mm) : Prop := nrow v ≤ 80 ∧ v.1 101 0 = nI (nrow v) ∧ (∀ i, i < 10 → ∃ t, 1 ≤ t ∧ t ≤ 9 ∧ v.1 1 i = nI t) ∧ (∀ k, k < nrow v → (∃ s, s < 10 ∧ v.1 2 k = nI s) ∧ (∃ c, c < 720 ∧ v.1 3 k = nI c) ∧ (∃ x, x ≤ 100000 ∧ v.1 4 k = nI x) ∧ (∃ r, r < 10 ∧ v.1 5 k = nI r))
theorem rel_okT {u v : Mm} (h : Rel u v) : okT v := by
  refine ⟨(rel_n h).1, (rel_n h).2.1, fun i hi => ?_, fun k hk => (h.2.2.1 k hk).2.2.2.2⟩
  obtain ⟨-, h1, h2⟩ := h.1 i hi
  obtain ⟨t, ht, et⟩ := ix_of 10 (a := v.1 1 i) (by omega)
  rw [et, nI_toInt (by omega)] at h1 h2
  exact ⟨t, by omega, by omega, et⟩
theorem wsum_bd {T RS RC RV RL : Nat → Int32} {n : Nat} (hn : n ≤ 80) (hT : ∀ i, i < 10 → ∃ t, 1 ≤ t ∧ t ≤ 9 ∧ T i = nI t) (hV : ∀ k, k < n → ∃ x, x ≤ 100000 ∧ RV k = nI x) (code last upTo : Int32) : ∀ i, i ≤ 10 → ∃ W σ : Nat, wgtR T RS RC RL n code last upTo i = nI W ∧ sumR T RS RC RV RL n code last upTo i = lN σ ∧ W ≤ 9 * i ∧ σ ≤ 100000 * W
  | 0, _ => ⟨0, 0, rfl, rfl, by omega, by omega⟩
  | i + 1, hi => by
    obtain ⟨W, σ, w1, w2, w3, w4⟩ := wsum_bd hn hT hV code last upTo i (by omega)
    have e1 : wgtR T RS RC RL n code last upTo (i + 1) = if bestR RS RC RL code (nI i) last upTo n = -1 then wgtR T RS RC RL n code last upTo i else wgtR T RS RC RL n code last upTo i + T i := rfl
    have e2 : sumR T RS RC RV RL n code last upTo (i + 1) = if bestR RS RC RL code (nI i) last upTo n = -1 then sumR T RS RC RV RL n code last upTo i else sumR T RS RC RV RL n code last upTo i + (T i).toInt64 * (RV (bestR RS RC RL code (nI i) last upTo n).toNatClampNeg).toInt64 := rfl
    rw [e1, e2]
    rcases bestR_lt RS RC RL code (nI i) last upTo n with hb | ⟨k, hk, ek, -⟩
    · rw [if_pos hb, if_pos hb]
      exact ⟨W, σ, w1, w2, by omega, w4⟩
    · rw [ek, if_neg (nI_ne1 (by omega)), if_neg (nI_ne1 (by omega)), nI_clamp (n := k) (by omega)]
      obtain ⟨t, t1, t2, et⟩ := hT i (by omega)
      obtain ⟨x, hx, ex⟩ := hV k hk
      have htx : t * x ≤ t * 100000 := Nat.mul_le_mul_left t hx
      refine ⟨W + t, σ + t * x, ?_, ?_, by omega, by omega⟩
      · rw [w1, et, nI_add]
      · rw [w2, et, ex, nI_l (by omega), nI_l (by omega), lN_mul, lN_add]
theorem saidR_bd {T RS RC RV RL : Nat → Int32} {n : Nat} (hn : n ≤ 80) (hT : ∀ i, i < 10 → ∃ t, 1 ≤ t ∧ t ≤ 9 ∧ T i = nI t) (hV : ∀ k, k < n → ∃ x, x ≤ 100000 ∧ RV k = nI x) (code last upTo : Int32) : ∃ x W : Nat, x ≤ 100000 ∧ W ≤ 90 ∧ saidR T RS RC RV RL n code last upTo = lN x ∧ wgtR T RS RC RL n code last upTo 10 = nI W := by
  obtain ⟨W, σ, w1, w2, w3, w4⟩ := wsum_bd (RS := RS) (RC := RC) (RL := RL) hn hT hV code last upTo 10 (by omega)
  unfold saidR
  rw [w1, w2]
  by_cases hW : W = 0
  · subst hW
    exact ⟨0, 0, by omega, by omega, by rw [if_pos (show nI 0 = 0 from rfl)]; rfl, rfl⟩
  · refine ⟨(2 * σ + W) / (2 * W), W, ?_, by omega, ?_, rfl⟩
    · have h2 : (2 * σ + W) / (2 * W) < 100001 := by
        rw [Nat.div_lt_iff_lt_mul (by omega)]
        omega
      omega
    · rw [if_neg (nI_ne0 (by omega) (by omega)), nI_l (by omega), show (2 : Int64) = lN 2 from rfl, lN_mul, lN_mul, lN_add, pk_lDiv (by omega) (by omega) (by omega)]
theorem saidS_bd {v : Mm} (h : okT v) (c : Nat) : ∃ x W : Nat, x ≤ 100000 ∧ W ≤ 90 ∧ saidS v c = lN x ∧ wgtS v c = nI W := saidR_bd h.1 h.2.2.1 (fun k hk => (h.2.2.2 k hk).2.2.1) _ _ _
theorem noRow_best {RS RC RL : Nat → Int32} {code : Int32} : ∀ {n : Nat}, (∀ k, k < n → ¬ RC k = code) → ∀ src last upTo, bestR RS RC RL code src last upTo n = -1
  | 0, _, _, _, _ => rfl
  | n + 1, h, src, last, upTo => by
    show (if isRow RS RC RL code src last upTo n ∧ _ then nI n else bestR RS RC RL code src last upTo n) = -1
    rw [if_neg (fun z => h n (by omega) z.1.1)]
    exact noRow_best (fun k hk => h k (by omega)) src last upTo
theorem noRow_wgt {T RS RC RL : Nat → Int32} {code : Int32} {n : Nat} (h : ∀ k, k < n → ¬ RC k = code) (last upTo : Int32) : ∀ s, wgtR T RS RC RL n code last upTo s = 0
  | 0 => rfl
  | s + 1 => by
    show (if bestR RS RC RL code (nI s) last upTo n = -1 then wgtR T RS RC RL n code last upTo s else _) = 0
    rw [if_pos (noRow_best h _ _ _), noRow_wgt h last upTo s]
theorem noRow_said {T RS RC RV RL : Nat → Int32} {code : Int32} {n : Nat} (h : ∀ k, k < n → ¬ RC k = code) (last upTo : Int32) : saidR T RS RC RV RL n code last upTo = 0 := by
  unfold saidR
  rw [if_pos (noRow_wgt h last upTo 10)]
/-- with said, weight and counting known -/
def lkA (v s : Mm) : Prop := tV s = tV v ∧ (∀ k, k < nrow v → s.1 6 k = cntS v k) ∧ ∀ c, c < 720 → s.2 7 c = saidS v c ∧ s.1 8 c = wgtS v c
theorem costC_bd {v : Mm} (h : okT v) (lp y q : Nat) : ∀ c, c < 6 → ∃ m, 1 ≤ m ∧ m ≤ 181 ∧ costC v lp y q c = nI m := fun c hc => by
  obtain ⟨x1, W1, -, h1, -, e1⟩ := saidS_bd h ((lp * 6 + c) * 12 + 4 * y + q)
  obtain ⟨x2, W2, -, h2, -, e2⟩ := saidS_bd h (576 + (lp * 6 + c) * 3 + y)
  refine ⟨1 + W1 + W2, by omega, by omega, ?_⟩
  show (if c < 6 then 1 + wgtS v ((lp * 6 + c) * 12 + 4 * y + q) + wgtS v (576 + (lp * 6 + c) * 3 + y) else 0) = _
  rw [if_pos hc, e1, e2, show (1 : Int32) = nI 1 from rfl, nI_add, nI_add]
theorem lookD_w {v : Mm} (h : okT v) {Q : Mm → Prop} (hq : ∀ v1, tV v1 = tV v → rR1 v1 → Q v1) {s0 : Mm} (h0 : lkA v s0) (h13 : ∀ ln y q, ln < 48 → y < 3 → q < 4 → s0.2 13 (ln * 12 + 4 * y + q) = bentS v ln y q) : ∃ f, wX9_looks_b207 Q f s0 (0 : Int32) := by
  refine loopS (fun f i s => wX9_looks_b207 Q f s (nI i)) (fun i s => lkA v s ∧ (∀ ln y q, ln < 48 → y < 3 → q < 4 → s.2 13 (ln * 12 + 4 * y + q) = bentS v ln y q) ∧ ∀ lp y q, lp < 8 → y < 3 → q < 4 → lp * 12 + 4 * y + q < i → (∀ c, c < 6 → s.2 15 ((lp * 6 + c) * 12 + 4 * y + q) = closS v lp y q c) ∧ s.2 16 (lp * 12 + 4 * y + q) = movdS v lp y q ∧ s.1 17 (lp * 12 + 4 * y + q) = openS v lp y q) 96 (fun f s hI => ?_) (fun f i s hi hI ih => ?_) 0 s0 (by omega) ⟨h0, h13, fun lp y q _ _ _ z => absurd z (by omega)⟩
  · obtain ⟨⟨i1, i2, i3⟩, i4, i5⟩ := hI
    unfold wX9_looks_b207
    refine ⟨fun _ s1 es => ?_, fun cc => absurd ((nI_leI (a := 96) (b := 96) (by omega) (by omega)).mpr (Nat.le_refl _)) cc⟩
    have et : tV s1 = tV v := by rw [es, tV_s32 _ _ _ (by decide)]; exact i1
    have k1 : ∀ k, k ≠ 107 → s1.1 k = s.1 k := fun k hk => by rw [es, s32_n _ _ _ hk]
    have k2 : s1.2 = s.2 := by rw [es]; rfl
    have nr : (s1.1 101 0).toNatClampNeg = nrow v := by rw [tV_1 et (k := 101) (by decide)]; rfl
    refine hq s1 et ⟨fun c hc => ?_, fun k hk => ?_, fun lp c y q hlp hc hy hq => ?_, fun lp y q hlp hy hq => ?_⟩
    · rw [tV_f et (fun m => saidS m c) (fun _ => rfl), tV_f et (fun m => wgtS m c) (fun _ => rfl), k1 8 (by decide), k2]
      exact i3 c hc
    · rw [nr] at hk
      rw [tV_f et (fun m => cntS m k) (fun _ => rfl), k1 6 (by decide)]
      exact i2 k hk
    · rw [tV_f et (fun m => bentS m (lp * 6 + c) y q) (fun _ => rfl), tV_f et (fun m => closS m lp y q c) (fun _ => rfl), k2]
      exact ⟨i4 _ y q (by omega) hy hq, (i5 lp y q hlp hy hq (by omega)).1 c hc⟩
    · rw [tV_f et (fun m => movdS m lp y q) (fun _ => rfl), tV_f et (fun m => openS m lp y q) (fun _ => rfl), k2, k1 17 (by decide)]
      exact (i5 lp y q hlp hy hq (by omega)).2
  · obtain ⟨⟨i1, i2, i3⟩, i4, i5⟩ := hI
    unfold wX9_looks_b207
    refine ⟨fun cc => absurd ((nI_leI (a := 96) (b := i) (by omega) (by omega)).mp cc) (by omega), fun _ => ?_⟩
    have e1 : nI i / (48 : Int32) = nI (i / 48) := by rw [show (48 : Int32) = nI 48 from rfl, pk_div (by omega) (by omega) (by omega)]
    have e2 : jrem (nI i / (12 : Int32)) (4 : Int32) = nI (i / 12 % 4) := by
      rw [show (12 : Int32) = nI 12 from rfl, show (4 : Int32) = nI 4 from rfl, pk_div (by omega) (by omega) (by omega)]
      unfold jrem
      rw [pk_rem (by omega) (by decide) (by decide)]
    have e3 : jrem (nI i) (12 : Int32) = nI (i % 12) := by
      rw [show (12 : Int32) = nI 12 from rfl]
      unfold jrem
      rw [pk_rem (by omega) (by decide) (by decide)]
    rw [e1, e2, e3]
    have elp : i / 48 * 4 + i / 12 % 4 = i / 12 := by omega
    have ec : ∀ c, (i / 12 * 6 + c) * 12 + i % 12 = (i / 12 * 6 + c) * 12 + 4 * (i % 12 / 4) + i % 12 % 4 := fun c => by omega
    have ey : i % 12 / 4 < 3 := by omega
    have eq : i % 12 % 4 < 4 := by omega
    have hlp : i / 12 < 8 := by omega
    refine closes_w (l := i / 48) (p := i / 12 % 4) (t := i % 12) (by omega) (by omega) (by omega) (sp := v.1 9) (fx := fxC v (i / 12)) (co := costC v (i / 12) (i % 12 / 4) (i % 12 % 4)) (b := bentC v (i / 12) (i % 12 / 4) (i % 12 % 4)) (fun c hc => ?_) (fun c hc => ?_) (fun c hc => ?_) (fun c hc => ?_) (costC_bd h _ _ _) (fun s1 a1 a2 a3 a4 a5 a6 a7 a8 x ex => ?_)
    · rw [tV_1 i1 (k := 9) (by decide)]
    · rw [elp, ec, i4 _ _ _ (by omega) ey eq]
      show _ = (if c < 6 then bentS v (i / 12 * 6 + c) (i % 12 / 4) (i % 12 % 4) else 0)
      rw [if_pos hc]
    · rw [elp, tV_1 i1 (k := 14) (by decide)]
      show _ = (if c < 6 then v.1 14 (i / 12 * 6 + c) else 0)
      rw [if_pos hc]
    · rw [elp, ec, (i3 _ (by omega)).2, (i3 _ (by omega)).2]
      show _ = (if c < 6 then 1 + wgtS v ((i / 12 * 6 + c) * 12 + 4 * (i % 12 / 4) + i % 12 % 4) + wgtS v (576 + (i / 12 * 6 + c) * 3 + i % 12 / 4) else 0)
      rw [if_pos hc]
    · rw [elp] at a3 a4 a5 a6 a7 a8
      rw [ex, nI_1]
      have et : tV s1 = tV v := (tV_of (fun k hk => a1 k (fun e => by rw [e] at hk; exact absurd hk (by decide))) (fun k hk => a2 k (fun e => by rw [e] at hk; exact absurd hk (by decide)) (fun e => by rw [e] at hk; exact absurd hk (by decide)) (fun e => by rw [e] at hk; exact absurd hk (by decide)) (fun e => by rw [e] at hk; exact absurd hk (by decide)) (fun e => by rw [e] at hk; exact absurd hk (by decide)))).trans i1
      have s118 : s.1 118 0 = v.1 118 0 := by rw [tV_1 i1 (k := 118) (by decide)]
      rw [s118] at a3 a5
      refine ih s1 ⟨⟨et, fun k hk => by rw [a1 6 (by decide), i2 k hk], fun c hc => by rw [a2 7 (by decide) (by decide) (by decide) (by decide) (by decide), a1 8 (by decide)]; exact i3 c hc⟩, fun ln y q h1 h2 h3 => by rw [a2 13 (by decide) (by decide) (by decide) (by decide) (by decide)]; exact i4 ln y q h1 h2 h3, fun lp y q h1 h2 h3 h4 => ?_⟩
      by_cases e : lp * 12 + 4 * y + q = i
      · have f1 : lp = i / 12 := by omega
        have f2 : y = i % 12 / 4 := by omega
        have f3 : q = i % 12 % 4 := by omega
        have f4 : i / 12 * 12 + i % 12 = i / 12 * 12 + 4 * (i % 12 / 4) + i % 12 % 4 := by omega
        rw [f4] at a5 a7
        subst f1 f2 f3
        refine ⟨fun c hc => ?_, a5, a7⟩
        have := a3 c hc
        rw [ec] at this
        exact this
      · obtain ⟨b1, b2, b3⟩ := i5 lp y q h1 h2 h3 (by omega)
        refine ⟨fun c hc => ?_, ?_, ?_⟩
        · rw [a4 _ (fun c2 hc2 => by omega), b1 c hc]
        · rw [a6 _ (by omega), b2]
        · rw [a8 _ (by omega), b3]
theorem lookC_w {v : Mm} (h : okT v) {Q : Mm → Prop} (hq : ∀ v1, tV v1 = tV v → rR1 v1 → Q v1) {s0 : Mm} (h0 : lkA v s0) : ∃ f, wX9_looks_b169 Q f s0 (0 : Int32) := by
  refine loopS (fun f i s => wX9_looks_b169 Q f s (nI i)) (fun i s => lkA v s ∧ (∀ ln y q, ln < 48 → y < 3 → q < 4 → ln * 3 + y < i → s.2 13 (ln * 12 + 4 * y + q) = bentS v ln y q)) 144 (fun f s hI => ?_) (fun f i s hi hI ih => ?_) 0 s0 (by omega) ⟨h0, fun ln y q _ _ _ z => absurd z (by omega)⟩
  · unfold wX9_looks_b169
    exact ⟨fun _ => lookD_w h hq hI.1 (fun ln y q h1 h2 h3 => hI.2 ln y q h1 h2 h3 (by omega)), fun cc => absurd ((nI_leI (a := 144) (b := 144) (by omega) (by omega)).mpr (Nat.le_refl _)) cc⟩
  · obtain ⟨⟨i1, i2, i3⟩, i4⟩ := hI
    unfold wX9_looks_b169
    refine ⟨fun cc => absurd ((nI_leI (a := 144) (b := i) (by omega) (by omega)).mp cc) (by omega), fun _ => ?_⟩
    have e1 : nI i / (72 : Int32) = nI (i / 72) := by rw [show (72 : Int32) = nI 72 from rfl, pk_div (by omega) (by omega) (by omega)]
    have e2 : jrem (nI i / (18 : Int32)) (4 : Int32) = nI (i / 18 % 4) := by
      rw [show (18 : Int32) = nI 18 from rfl, show (4 : Int32) = nI 4 from rfl, pk_div (by omega) (by omega) (by omega)]
      unfold jrem
      rw [pk_rem (by omega) (by decide) (by decide)]
    have e3 : jrem (nI i / (3 : Int32)) (6 : Int32) = nI (i / 3 % 6) := by
      rw [show (3 : Int32) = nI 3 from rfl, show (6 : Int32) = nI 6 from rfl, pk_div (by omega) (by omega) (by omega)]
      unfold jrem
      rw [pk_rem (by omega) (by decide) (by decide)]
    have e4 : jrem (nI i) (3 : Int32) = nI (i % 3) := by
      rw [show (3 : Int32) = nI 3 from rfl]
      unfold jrem
      rw [pk_rem (by omega) (by decide) (by decide)]
    rw [e1, e2, e3, e4]
    refine bends_w (l := i / 72) (p := i / 18 % 4) (c := i / 3 % 6) (y := i % 3) (by omega) (by omega) (by omega) (by omega) (F := i / 3 * 12 + 4 * (i % 3)) (G := 576 + i / 3 * 3 + i % 3) (by omega) (by omega) (fun k hk => ?_) (fun s1 a1 a2 a3 a4 x ex => ?_)
    · rw [(i3 _ (by omega)).2]
      obtain ⟨_, W, -, h1, -, e⟩ := saidS_bd h (i / 3 * 12 + 4 * (i % 3) + k)
      rw [e, nI_toInt (by omega)]; omega
    · rw [ex, nI_1]
      have et : tV s1 = tV v := (tV_of (fun k hk => by rw [a1]) (fun k hk => a2 k (fun e => by rw [e] at hk; exact absurd hk (by decide)) (fun e => by rw [e] at hk; exact absurd hk (by decide)) (fun e => by rw [e] at hk; exact absurd hk (by decide)) (fun e => by rw [e] at hk; exact absurd hk (by decide)))).trans i1
      refine ih s1 ⟨⟨et, fun k hk => by rw [a1, i2 k hk], fun c hc => by rw [a2 7 (by decide) (by decide) (by decide) (by decide), a1]; exact i3 c hc⟩, fun ln y q h1 h2 h3 h4 => ?_⟩
      by_cases e : ln * 3 + y = i
      · have f1 : ln = i / 3 := by omega
        have f2 : y = i % 3 := by omega
        subst f1 f2
        rw [a3 q h3]
        unfold bentS
        have g1 : (fun k => if k < 4 then s.1 8 (i / 3 * 12 + 4 * (i % 3) + k) else 0) = (fun k => if k < 4 then wgtS v (i / 3 * 12 + 4 * (i % 3) + k) else 0) := by
          funext k
          by_cases hk : k < 4
          · rw [if_pos hk, if_pos hk, (i3 _ (by omega)).2]
          · rw [if_neg hk, if_neg hk]
        have g2 : (fun k => if k < 4 then s.2 7 (i / 3 * 12 + 4 * (i % 3) + k) else 0) = (fun k => if k < 4 then saidS v (i / 3 * 12 + 4 * (i % 3) + k) else 0) := by
          funext k
          by_cases hk : k < 4
          · rw [if_pos hk, if_pos hk, (i3 _ (by omega)).1]
          · rw [if_neg hk, if_neg hk]
        rw [g1, g2, (i3 _ (by omega)).1, (i3 _ (by omega)).2]
      · rw [a4 _ (by omega), i4 ln y q h1 h2 h3 (by omega)]
theorem lookB_w {v : Mm} (h : okT v) {Q : Mm → Prop} (hq : ∀ v1, tV v1 = tV v → rR1 v1 → Q v1) {s0 : Mm} (h0 : tV s0 = tV v) (h78 : ∀ c, c < 720 → s0.2 7 c = 0 ∧ s0.1 8 c = 0) : ∃ f, wX9_looks_b60 Q f s0 (0 : Int32) := by
  obtain ⟨hn, en, hT, hR⟩ := h
  refine loopS (fun f i s => wX9_looks_b60 Q f s (nI i)) (fun i s => tV s = tV v ∧ (∀ k, k < i → s.1 6 k = cntS v k) ∧ ∀ c, c < 720 → (s.2 7 c = saidS v c ∧ s.1 8 c = wgtS v c) ∨ ((∀ k, k < i → ¬ v.1 3 k = nI c) ∧ s.2 7 c = 0 ∧ s.1 8 c = 0)) (nrow v) (fun f s hI => ?_) (fun f i s hi hI ih => ?_) 0 s0 (by omega) ⟨h0, fun k z => absurd z (by omega), fun c hc => Or.inr ⟨fun k z => absurd z (by omega), h78 c hc⟩⟩
  · obtain ⟨i1, i2, i3⟩ := hI
    unfold wX9_looks_b60
    have s101 : s.1 101 0 = nI (nrow v) := by rw [tV_1 i1 (k := 101) (by decide), en]
    rw [s101]
    refine ⟨fun _ => lookC_w ⟨hn, en, hT, hR⟩ hq ⟨i1, i2, fun c hc => ?_⟩, fun cc => absurd ((nI_leI (a := nrow v) (b := nrow v) (by omega) (by omega)).mpr (Nat.le_refl _)) cc⟩
    rcases i3 c hc with h | ⟨h1, h2, h3⟩
    · exact h
    · rw [h2, h3]
      exact ⟨(noRow_said h1 _ _).symm, (noRow_wgt h1 _ _ 10).symm⟩
  · obtain ⟨i1, i2, i3⟩ := hI
    unfold wX9_looks_b60
    have s101 : s.1 101 0 = nI (nrow v) := by rw [tV_1 i1 (k := 101) (by decide), en]
    have s2 : s.1 2 = v.1 2 := tV_1 i1 (by decide)
    have s3 : s.1 3 = v.1 3 := tV_1 i1 (by decide)
    have s5 : s.1 5 = v.1 5 := tV_1 i1 (by decide)
    have s106 : s.1 106 = v.1 106 := tV_1 i1 (by decide)
    have vi : vp_in (nI i) 80 := vp_in_nI (by omega) (by omega)
    rw [s101, nI_clamp (n := i) (by omega)]
    refine ⟨fun cc => absurd ((nI_leI (a := nrow v) (b := i) (by omega) (by omega)).mp cc) (by omega), fun _ => ⟨vi, vi, countR_w s101 hn _ _ _ _ ?_⟩⟩
    rw [s2, s3, s5, s106]
    have tail : ∀ y : Int32, (y = 0 ∨ y = 1) → y = cntS v i → wX9_looks_b104 (fun (u : Mm) (x1 : Int32) => wX9_looks_b60 Q f u x1) Q s (nI i) y (nI i) := by
      intro y hy01 ey
      unfold wX9_looks_b104
      rw [nI_clamp (n := i) (by omega), nar_b hy01]
      refine ⟨vi, fun s1 es => ?_⟩
      have et : tV s1 = tV v := by rw [es, tV_s32 _ _ _ (by decide)]; exact i1
      obtain ⟨c, hc, ec⟩ := (hR i hi).2.1
      have k3 : s1.1 3 i = nI c := by rw [tV_1 et (k := 3) (by decide), ec]
      have k8 : s1.1 8 = s.1 8 := by rw [es, s32_n _ _ _ (by decide)]
      have vc : vp_in (nI c) 720 := vp_in_nI hc (by omega)
      have k6 : ∀ k, k < i + 1 → s1.1 6 k = cntS v k := fun k hk => by
        rw [es, s32_k]
        by_cases e : k = i
        · subst e; rw [upd_s, ey]
        · rw [upd_n _ _ e, i2 k (by omega)]
      rw [k3, nI_clamp (n := c) (by omega), k8]
      refine ⟨vi, vc, fun z => ⟨vi, vi, ?_⟩, fun z x ex => ?_⟩
      · refine saidBy_w (n := nrow v) (by rw [tV_1 et (k := 101) (by decide), en]) hn _ _ _ ⟨vc, fun s5 es5 => ⟨vi, ?_⟩⟩
        have k53 : s5.1 3 i = nI c := by rw [es5, s64_1, s32_n _ _ _ (by decide), k3]
        have k5111 : s5.1 111 0 = wgtR (s1.1 1) (s1.1 2) (s1.1 3) (s1.1 5) (nrow v) (nI c) (s1.1 106 0) 9 10 := by rw [es5, s64_1, s32_k, upd_s]
        rw [k53, nI_clamp (n := c) (by omega), k5111]
        refine ⟨vc, fun s6 es6 x ex => ?_⟩
        rw [ex, nI_1]
        have et6 : tV s6 = tV v := by rw [es6, tV_s32 _ _ _ (by decide), es5, tV_s64 _ _ _ (by decide), tV_s32 _ _ _ (by decide), et]
        refine ih s6 ⟨et6, fun k hk => ?_, fun c2 hc2 => ?_⟩
        · rw [es6, s32_n _ _ _ (by decide), es5, s64_1, s32_n _ _ _ (by decide), k6 k hk]
        · have q7 : s6.2 7 c2 = vp_updL (s1.2 7) c (saidR (s1.1 1) (s1.1 2) (s1.1 3) (s1.1 4) (s1.1 5) (nrow v) (nI c) (s1.1 106 0) 9) c2 := by rw [es6, s32_2, es5, s64_k, s32_2]
          have q8 : s6.1 8 c2 = upd (s1.1 8) c (wgtR (s1.1 1) (s1.1 2) (s1.1 3) (s1.1 5) (nrow v) (nI c) (s1.1 106 0) 9 10) c2 := by rw [es6, s32_k, es5, s64_1, s32_n _ _ _ (by decide)]
          by_cases e : c2 = c
          · subst e
            left
            rw [q7, q8, updL_s, upd_s]
            exact ⟨tV_f et (fun m => saidS m c2) (fun _ => rfl) |> fun g => by rw [← g]; unfold saidS; rw [tV_1 et (k := 101) (by decide)]; rfl, tV_f et (fun m => wgtS m c2) (fun _ => rfl) |> fun g => by rw [← g]; unfold wgtS; rw [tV_1 et (k := 101) (by decide)]; rfl⟩
          · rw [q7, q8, updL_n _ _ e, upd_n _ _ e, k8]
            have : s1.2 7 = s.2 7 := by rw [es]; rfl
            rw [this]
            rcases i3 c2 hc2 with g | ⟨g1, g2⟩
            · exact Or.inl g
            · refine Or.inr ⟨fun k hk => ?_, g2⟩
              by_cases e2 : k = i
              · subst e2
                rw [ec]
                intro e3
                exact e ((nI_eq (by omega) (by omega)).mp e3).symm
              · exact g1 k (by omega)
      · rw [ex, nI_1]
        refine ih s1 ⟨et, k6, fun c2 hc2 => ?_⟩
        have : s1.2 7 = s.2 7 := by rw [es]; rfl
        rw [k8, this]
        by_cases e : c2 = c
        · subst e
          rcases i3 c2 hc2 with g | ⟨g1, g2, g3⟩
          · exact Or.inl g
          · exact absurd g3 z
        · rcases i3 c2 hc2 with g | ⟨g1, g2⟩
          · exact Or.inl g
          · refine Or.inr ⟨fun k hk => ?_, g2⟩
            by_cases e2 : k = i
            · subst e2
              rw [ec]
              intro e3
              exact e ((nI_eq (by omega) (by omega)).mp e3).symm
            · exact g1 k (by omega)
    refine ⟨fun z => tail 1 (Or.inr rfl) ?_, fun z => tail 0 (Or.inl rfl) ?_⟩
    · unfold cntS; exact (if_pos z).symm
    · unfold cntS; exact (if_neg z).symm
theorem looks_w {v : Mm} (h : okT v) (hr : rR v) {Q : Mm → Prop} (hq : ∀ v1, tV v1 = tV v → rR1 v1 → Q v1) : wX9_looks v Q := by
  unfold wX9_looks
  refine ⟨fun _ => ?_, fun z => hq v rfl (hr z)⟩
  refine loopS (fun f i s => wX9_looks_b10 Q f s (nI i)) (fun i s => tV s = tV v) 80 (fun f s hI => ?_) (fun f i s hi hI ih => ?_) 0 v (by omega) rfl
  · unfold wX9_looks_b10
    refine ⟨fun _ => ?_, fun cc => absurd ((nI_leI (a := 80) (b := 80) (by omega) (by omega)).mpr (Nat.le_refl _)) cc⟩
    refine loopS (fun f i s => wX9_looks_b31 Q f s (nI i)) (fun i s => tV s = tV v ∧ ∀ c, c < i → s.2 7 c = 0 ∧ s.1 8 c = 0) 720 (fun f s hI => ?_) (fun f i s hi hI ih => ?_) 0 s (by omega) ⟨hI, fun c z => absurd z (by omega)⟩
    · unfold wX9_looks_b31
      exact ⟨fun _ => lookB_w h hq hI.1 hI.2, fun cc => absurd ((nI_leI (a := 720) (b := 720) (by omega) (by omega)).mpr (Nat.le_refl _)) cc⟩
    · unfold wX9_looks_b31
      rw [nI_clamp (n := i) (by omega)]
      refine ⟨fun cc => absurd ((nI_leI (a := 720) (b := i) (by omega) (by omega)).mp cc) (by omega), fun _ => ⟨vp_in_nI (by omega) (by omega), fun s1 e1 => ⟨vp_in_nI (by omega) (by omega), fun s2 e2 x ex => ?_⟩⟩⟩
      rw [ex, nI_1]
      refine ih s2 ⟨by rw [e2, tV_s32 _ _ _ (by decide), e1, tV_s64 _ _ _ (by decide)]; exact hI.1, fun c hc => ?_⟩
      rw [e2, s32_k, s32_2, e1, s64_k, s64_1]
      by_cases e : c = i
      · subst e; rw [updL_s, upd_s]; exact ⟨rfl, rfl⟩
      · rw [updL_n _ _ e, upd_n _ _ e]; exact hI.2 c (by omega)
  · unfold wX9_looks_b10
    rw [nI_clamp (n := i) (by omega)]
    refine ⟨fun cc => absurd ((nI_leI (a := 80) (b := i) (by omega) (by omega)).mp cc) (by omega), fun _ => ⟨vp_in_nI (by omega) (by omega), fun s1 e1 x ex => ?_⟩⟩
    rw [ex, nI_1]
    exact ih s1 (by rw [e1, tV_s32 _ _ _ (by decide)]; exact hI)
theorem rel_L {u v v1 : Mm} (h : Rel u v) (ht : tV v1 = tV v) (h1 : rR1 v1) : Rel u v1 := by
  obtain ⟨hA, hB, hC, hD, hE, hF, hG, hH, hI, hJ, hK, hL, hM, hN, hO, hP, hQ, hR⟩ := h
  have g : ∀ (P : Mm → Mm → Prop), P u (tV v) → P u (tV v1) := fun P hp => by rw [ht]; exact hp
  exact ⟨g rA hA, g rB hB, g rC hC, g rD hD, g rE hE, g rF hF, g rG hG, g rH hH, g rI hI, g rJ hJ, g rK hK, g rL hL, g rM hM, g rN hN, g rO hO, g rP hP, g rQ hQ, fun _ => h1⟩
/-- looks, between class and reference -/
theorem looks_rel {u v : Mm} (h : Rel u v) {Q : Mm → Prop} (hq : ∀ v1, Rel u v1 → tV v1 = tV v → rR1 v1 → Q v1) : wX9_looks v Q :=
  looks_w (rel_okT h) h.2.2.2.2.2.2.2.2.2.2.2.2.2.2.2.2.2 (fun v1 ht h1 => hq v1 (rel_L h ht h1) ht h1)
