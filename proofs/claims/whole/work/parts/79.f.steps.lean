/-! ===== steps, step ===== -/
abbrev rwAt (v : Mm) (c s r : Int32) (k : Nat) : Prop := v.1 3 k = c ∧ v.1 2 k = s ∧ v.1 5 k = r
def hasN (v : Mm) (c s r : Int32) : Nat → Int32
  | 0 => 0
  | k + 1 => if rwAt v c s r k then 1 else hasN v c s r k
theorem hasN_spec (v : Mm) (c s r : Int32) : ∀ n, (hasN v c s r n = 1 ∧ ∃ k, k < n ∧ rwAt v c s r k) ∨ (hasN v c s r n = 0 ∧ ∀ k, k < n → ¬ rwAt v c s r k)
  | 0 => Or.inr ⟨rfl, fun k hk => absurd hk (by omega)⟩
  | n + 1 => by
    have e : hasN v c s r (n + 1) = if rwAt v c s r n then 1 else hasN v c s r n := rfl
    rw [e]
    by_cases g : rwAt v c s r n
    · rw [if_pos g]; exact Or.inl ⟨rfl, n, by omega, g⟩
    · rw [if_neg g]
      rcases hasN_spec v c s r n with ⟨h1, k, hk, h2⟩ | ⟨h1, h2⟩
      · exact Or.inl ⟨h1, k, by omega, h2⟩
      · refine Or.inr ⟨h1, fun k hk => ?_⟩
        by_cases e : k = n
        · subst e; exact g
        · exact h2 k (by omega)
theorem hasN_1 {v : Mm} {c s r : Int32} {n k : Nat} (hk : k < n) (h : rwAt v c s r k) : hasN v c s r n = 1 := by
  rcases hasN_spec v c s r n with ⟨h1, -⟩ | ⟨-, h2⟩
  · exact h1
  · exact absurd h (h2 k hk)
theorem hasN_0 {v : Mm} {c s r : Int32} {n : Nat} (h : ∀ k, k < n → ¬ rwAt v c s r k) : hasN v c s r n = 0 := by
  rcases hasN_spec v c s r n with ⟨-, k, hk, h2⟩ | ⟨h1, -⟩
  · exact absurd h2 (h k hk)
  · exact h1
theorem hasR_w {v : Mm} (hn : v.1 101 0 = nI (nrow v)) (n80 : nrow v ≤ 80) (c s r : Int32) {Q : Int32 → Prop} (hq : Q (hasN v c s r (nrow v))) : wX9_hasRow v c s r Q := by
  unfold wX9_hasRow
  refine loopS (fun f i (_ : Unit) => wX9_hasRow_b3 v Q f c s r (nI i)) (fun i _ => ∀ k, k < i → ¬ rwAt v c s r k) (nrow v) (fun f _ hI => ?_) (fun f i _ hi hI ih => ?_) 0 () (by omega) (fun c hc => absurd hc (by omega))
  · unfold wX9_hasRow_b3
    rw [hn]
    rw [hasN_0 hI] at hq
    exact ⟨fun _ => hq, fun cc => absurd ((nI_leI (by omega) (by omega)).mpr (Nat.le_refl _)) cc⟩
  · have vi : vp_in (nI i) 80 := vp_in_nI (by omega) (by omega)
    have nxt : ¬ rwAt v c s r i → ∀ y : Int32, y = nI i + 1 → wX9_hasRow_b3 v Q f c s r y := fun d y ey => by
      rw [ey, nI_1]
      refine ih () (fun k hk => ?_)
      by_cases e : k = i
      · subst e; exact d
      · exact hI k (by omega)
    unfold wX9_hasRow_b3
    rw [hn, nI_clamp (n := i) (by omega)]
    refine ⟨fun cc => absurd ((nI_leI (a := nrow v) (b := i) (by omega) (by omega)).mp cc) (by omega), fun _ => ⟨vi, fun z => ⟨vi, fun z2 => ⟨vi, fun z3 => ?_, fun z3 => nxt (fun d => z3 d.2.2)⟩, fun z2 => nxt (fun d => z2 d.2.1)⟩, fun z => nxt (fun d => z d.1)⟩⟩
    rw [hasN_1 hi ⟨z, z2, z3⟩] at hq
    exact hq
theorem hasC_w {u v : Mm} (h : Rel u v) {c : Nat} (hc : c < 720) (s r : Int32) {Q : Int32 → Prop} (hq : Q (hasN v (nI c) s r (nrow v))) : wX3_hasRow u (nI c) s r Q := by
  obtain ⟨n80, e101, e124⟩ := rel_n h
  have hC : ∀ k, k < nrow v → _ := h.2.2.1
  have hD := h.2.2.2.1
  unfold wX3_hasRow
  rw [nI_clamp (n := c) (by omega), hD.1 c hc]
  refine ⟨vp_in_nI hc (by omega), fun x4 e4 => ?_⟩
  refine loopS (fun f j (x : Int32) => wX3_hasRow_b11 u Q f s r x (nI j)) (fun j x => ∃ m, m ≤ nrow v ∧ m + j ≤ 80 ∧ x = lastR (v.1 3) (nI c) m ∧ ∀ k, m ≤ k → k < nrow v → ¬ rwAt v (nI c) s r k) 80 (fun f x hI => ?_) (fun f j x hj hI ih => ?_) 0 x4 (by omega) ⟨nrow v, Nat.le_refl _, by omega, e4, fun k h1 h2 => absurd h2 (by omega)⟩
  · obtain ⟨m, m1, m2, m3, m4⟩ := hI
    unfold wX3_hasRow_b11
    rw [hasN_0 (fun k hk => m4 k (by omega) hk)] at hq
    exact ⟨fun _ => hq, fun cc => absurd ((nI_leI (a := 80) (b := 80) (by omega) (by omega)).mpr (Nat.le_refl _)) cc⟩
  · obtain ⟨m, m1, m2, m3, m4⟩ := hI
    unfold wX3_hasRow_b11
    refine ⟨fun cc => absurd ((nI_leI (a := 80) (b := j) (by omega) (by omega)).mp cc) (by omega), fun _ => ?_⟩
    rcases lastR_spec (v.1 3) (nI c) m (by omega) with ⟨e, g⟩ | ⟨i, hi, e, ei, g⟩
    · refine ⟨fun _ => ?_, fun z => absurd (m3.trans e) z⟩
      rw [hasN_0 (fun k hk d => by
        by_cases hkm : k < m
        · exact g k hkm d.1
        · exact m4 k (by omega) hk d)] at hq
      exact hq
    · have hin : i < nrow v := by omega
      rw [m3, e, nI_clamp (n := i) (by omega), (hC i hin).1, (hC i hin).2.2.2.1]
      have vi : vp_in (nI i) 80 := vp_in_nI (by omega) (by omega)
      have nxt : ¬ rwAt v (nI c) s r i → wX3_hasRow_b48 u (fun (x2 : Int32) (x3 : Int32) (x4 : Int32) (x5 : Int32) => wX3_hasRow_b11 u Q f x2 x3 x4 x5) Q s r (nI i) (nI j) := fun d => by
        unfold wX3_hasRow_b48
        rw [nI_clamp (n := i) (by omega), hD.2 i hin, ei]
        refine ⟨vi, fun x ex y ey => ?_⟩
        rw [ey, nI_1]
        refine ih x ⟨i, by omega, by omega, ex, fun k h1 h2 h3 => ?_⟩
        by_cases e2 : k = i
        · subst e2; exact d h3
        · by_cases hkm : k < m
          · exact g k (by omega) hkm h3.1
          · exact m4 k (by omega) h2 h3
      refine ⟨fun z => absurd z (nI_ne1 (by omega)), fun _ => ⟨vi, fun z => ⟨vi, fun z2 => ?_, fun z2 => nxt (fun d => z2 d.2.2)⟩, fun z => nxt (fun d => z d.2.1)⟩⟩
      rw [hasN_1 hin ⟨ei, z, z2⟩] at hq
      exact hq
def hasV (v : Mm) (c a : Nat) : Int32 := hasN v (nI c) (nI (a % 10)) (nI (a / 10)) (nrow v)
/-- how many of the d places from lo on have a row -/
def stN (v : Mm) (c lo : Nat) : Nat → Nat
  | 0 => 0
  | d + 1 => if hasV v c (lo + d) = 0 then stN v c lo d else stN v c lo d + 1
theorem stN_le (v : Mm) (c lo : Nat) : ∀ d, stN v c lo d ≤ d
  | 0 => Nat.le_refl 0
  | d + 1 => by
    have := stN_le v c lo d
    show (if hasV v c (lo + d) = 0 then stN v c lo d else stN v c lo d + 1) ≤ d + 1
    split <;> omega
def fSt (v : Mm) (c lo : Nat) (a : Int32) : Nat → Nat → Int32
  | 0, _ => -1
  | d + 1, k => if ¬ hasV v c (lo + k) = 0 ∧ nI (stN v c lo k) = a then nI (lo + k) else fSt v c lo a d (k + 1)
theorem fSt_m1 (v : Mm) (c lo : Nat) : ∀ d k, k + d ≤ 900 → fSt v c lo (-1) d k = -1
  | 0, _, _ => rfl
  | d + 1, k, hk => by
    have := stN_le v c lo k
    show (if ¬ hasV v c (lo + k) = 0 ∧ nI (stN v c lo k) = -1 then nI (lo + k) else fSt v c lo (-1) d (k + 1)) = -1
    rw [if_neg (fun c => nI_ne1 (by omega) c.2), fSt_m1 v c lo d (k + 1) (by omega)]
theorem fSt_lo (v : Mm) (c lo : Nat) {a : Int32} : ∀ d k, k + d ≤ 900 → (stN v c lo (k + d) : Int) ≤ a.toInt → fSt v c lo a d k = -1
  | 0, _, _, _ => rfl
  | d + 1, k, hk, h => by
    have h1 := stN_le v c lo k
    have mono : stN v c lo (k + 1) ≤ stN v c lo (k + 1 + d) := by
      clear h hk h1
      induction d with
      | zero => exact Nat.le_refl _
      | succ d ih =>
        have e : stN v c lo (k + 1 + (d + 1)) = if hasV v c (lo + (k + 1 + d)) = 0 then stN v c lo (k + 1 + d) else stN v c lo (k + 1 + d) + 1 := rfl
        rw [e]; split <;> omega
    rw [show k + (d + 1) = k + 1 + d by omega] at h
    have es : stN v c lo (k + 1) = if hasV v c (lo + k) = 0 then stN v c lo k else stN v c lo k + 1 := rfl
    show (if ¬ hasV v c (lo + k) = 0 ∧ nI (stN v c lo k) = a then nI (lo + k) else fSt v c lo a d (k + 1)) = -1
    rw [if_neg (fun g => by
      rw [if_neg g.1] at es
      have := congrArg Int32.toInt g.2
      rw [nI_toInt (by omega)] at this
      omega), fSt_lo v c lo d (k + 1) (by omega) h]
theorem fSt_hi (v : Mm) (c lo : Nat) {a : Int32} : ∀ d k, k + d ≤ 900 → (stN v c lo k : Int) ≤ a.toInt → a.toInt < (stN v c lo (k + d) : Int) → ∃ j, j < k + d ∧ fSt v c lo a d k = nI (lo + j)
  | 0, _, _, h1, h2 => by rw [Nat.add_zero] at h2; omega
  | d + 1, k, hk, h1, h2 => by
    have hle := stN_le v c lo k
    have es : stN v c lo (k + 1) = if hasV v c (lo + k) = 0 then stN v c lo k else stN v c lo k + 1 := rfl
    have ef : fSt v c lo a (d + 1) k = if ¬ hasV v c (lo + k) = 0 ∧ nI (stN v c lo k) = a then nI (lo + k) else fSt v c lo a d (k + 1) := rfl
    rw [ef]
    by_cases g : ¬ hasV v c (lo + k) = 0 ∧ nI (stN v c lo k) = a
    · rw [if_pos g]; exact ⟨k, by omega, rfl⟩
    · rw [if_neg g]
      have h3 : (stN v c lo (k + 1) : Int) ≤ a.toInt := by
        by_cases g2 : hasV v c (lo + k) = 0
        · rw [if_pos g2] at es; omega
        · rw [if_neg g2] at es
          have : (stN v c lo k : Int) ≠ a.toInt := fun e => g ⟨g2, by rw [← Int32.toInt_inj, nI_toInt (by omega), e]⟩
          omega
      rw [show k + (d + 1) = k + 1 + d by omega] at h2 ⊢
      exact fSt_hi v c lo d (k + 1) (by omega) h3 h2
theorem at10 {a : Nat} (ha : a < 1000) : jrem (nI a) (10 : Int32) = nI (a % 10) ∧ nI a / (10 : Int32) = nI (a / 10) := by
  rw [show (10 : Int32) = nI 10 from rfl]
  unfold jrem
  exact ⟨pk_rem (by omega) (by decide) (by decide), pk_div (by omega) (by omega) (by omega)⟩
theorem first10 (A : Nat) : (nI A + (1 : Int32)) * (10 : Int32) = nI ((A + 1) * 10) := by rw [nI_1, show (10 : Int32) = nI 10 from rfl, pk_mul]
theorem stepsC_w {u v : Mm} (h : Rel u v) {c A B : Nat} (hc : c < 720) (hAB : A < B) (hB : B < 10) {Q : Int32 → Prop} (hq : Q (nI (stN v c ((A + 1) * 10) ((B - A) * 10)))) : ∃ f, wX8_steps_b21 u Q f (nI c) (nI B) (0 : Int32) (nI ((A + 1) * 10)) := by
  refine loopF (fun f i => wX8_steps_b21 u Q f (nI c) (nI B) (nI (stN v c ((A + 1) * 10) i)) (nI ((A + 1) * 10 + i))) ((B - A) * 10) (fun f => ?_) (fun f i hi ih => ?_) 0 (by omega)
  · unfold wX8_steps_b21 wX8_firstStep
    rw [first10]
    exact ⟨fun _ => hq, fun cc => absurd ((nI_leI (by omega) (by omega)).mpr (by omega)) cc⟩
  · have es : stN v c ((A + 1) * 10) (i + 1) = if hasV v c ((A + 1) * 10 + i) = 0 then stN v c ((A + 1) * 10) i else stN v c ((A + 1) * 10) i + 1 := rfl
    unfold wX8_steps_b21 wX8_firstStep
    rw [first10, (at10 (a := (A + 1) * 10 + i) (by omega)).1, (at10 (a := (A + 1) * 10 + i) (by omega)).2]
    refine ⟨fun cc => absurd ((nI_leI (by omega) (by omega)).mp cc) (by omega), fun _ => hasC_w h hc _ _ ⟨fun z y ey => ?_, fun z x ex y ey => ?_⟩⟩
    · have z : hasV v c ((A + 1) * 10 + i) = 0 := z
      rw [if_pos z] at es
      rw [ey, nI_1, ← es]; exact ih
    · have z : ¬ hasV v c ((A + 1) * 10 + i) = 0 := z
      rw [if_neg z] at es
      rw [ex, ey, nI_1, nI_1, ← es]; exact ih
theorem findSt_w {u v : Mm} (h : Rel u v) {c lo D : Nat} (hc : c < 720) (hD : lo + D ≤ 200) (a : Int32) {Q : Int32 → Prop} (hq : Q (fSt v c lo a D 0)) : wX3_findStep u (nI c) (nI lo) (nI (lo + D)) a Q := by
  unfold wX3_findStep
  have key : ∃ f, (fun f i (_ : Unit) => wX3_findStep_b7 u Q f (nI c) (nI (lo + D)) (a - nI (stN v c lo i)) (nI (lo + i))) f 0 () := by
    refine loopS (fun f i (_ : Unit) => wX3_findStep_b7 u Q f (nI c) (nI (lo + D)) (a - nI (stN v c lo i)) (nI (lo + i))) (fun i _ => fSt v c lo a (D - i) i = fSt v c lo a D 0) D (fun f _ hI => ?_) (fun f i _ hi hI ih => ?_) 0 () (by omega) rfl
    · unfold wX3_findStep_b7
      rw [Nat.sub_self] at hI
      refine ⟨fun _ => ?_, fun cc => absurd ((nI_leI (by omega) (by omega)).mpr (Nat.le_refl _)) cc⟩
      rw [← hI] at hq; exact hq
    · have es : stN v c lo (i + 1) = if hasV v c (lo + i) = 0 then stN v c lo i else stN v c lo i + 1 := rfl
      rw [show D - i = (D - (i + 1)) + 1 by omega] at hI
      have ef : fSt v c lo a (D - (i + 1) + 1) i = if ¬ hasV v c (lo + i) = 0 ∧ nI (stN v c lo i) = a then nI (lo + i) else fSt v c lo a (D - (i + 1)) (i + 1) := rfl
      rw [ef] at hI
      unfold wX3_findStep_b7
      rw [(at10 (a := lo + i) (by omega)).1, (at10 (a := lo + i) (by omega)).2]
      refine ⟨fun cc => absurd ((nI_leI (by omega) (by omega)).mp cc) (by omega), fun _ => hasC_w h hc _ _ ⟨fun z y ey => ?_, fun z => ⟨fun z2 => ?_, fun z2 x ex y ey => ?_⟩⟩⟩
      · have z : hasV v c (lo + i) = 0 := z
        rw [if_pos z] at es
        rw [if_neg (fun d => d.1 z)] at hI
        rw [ey, nI_1, ← es]
        exact ih () hI
      · have z : ¬ hasV v c (lo + i) = 0 := z
        rw [if_pos ⟨z, by grind⟩] at hI
        rw [← hI] at hq; exact hq
      · have z : ¬ hasV v c (lo + i) = 0 := z
        rw [if_neg z] at es
        rw [if_neg (fun d => z2 (by rw [← d.2]; grind))] at hI
        have e2 : a - nI (stN v c lo i) + (-1 : Int32) = a - nI (stN v c lo (i + 1)) := by rw [es, ← nI_1]; grind
        rw [ey, nI_1, ex, e2]
        exact ih () hI
  have e0 : a - nI (stN v c lo 0) = a := by show a - nI 0 = a; rw [show nI 0 = (0 : Int32) from rfl]; grind
  obtain ⟨f, hf⟩ := key
  rw [e0] at hf
  exact ⟨f, hf⟩
theorem hasV_f {v w : Mm} (h : ∀ k, k ≠ 135 → k ≠ 136 → w.1 k = v.1 k) (c a : Nat) : hasV w c a = hasV v c a := by
  have e : ∀ n, hasN w (nI c) (nI (a % 10)) (nI (a / 10)) n = hasN v (nI c) (nI (a % 10)) (nI (a / 10)) n := by
    intro n
    induction n with
    | zero => rfl
    | succ n ih =>
      unfold hasN rwAt
      rw [ih, h 3 (by decide) (by decide), h 2 (by decide) (by decide), h 5 (by decide) (by decide)]
  unfold hasV
  rw [show nrow w = nrow v by unfold nrow; rw [h 101 (by decide) (by decide)], e]
theorem stepsTo_w {u v : Mm} (h : Rel u v) {c A B : Nat} (hAB : A < B) (hB : B < 10) (a : Int32) {Q : Int32 → Mm → Prop}
    (hq : ∀ (r : Int32) (w : Mm), (∀ k, k ≠ 135 → k ≠ 136 → w.1 k = v.1 k) → w.2 = v.2 → (fSt v c ((A + 1) * 10) a ((B - A) * 10) 0 = -1 → r = nI (stN v c ((A + 1) * 10) ((B - A) * 10))) → (∀ t, t < 200 → fSt v c ((A + 1) * 10) a ((B - A) * 10) 0 = nI t → w.1 135 0 = nI (t % 10) ∧ w.1 136 0 = nI (t / 10)) → Q r w) :
    wX9_stepsTo v (nI c) (nI A) (nI B) a Q := by
  obtain ⟨n80, e101, e124⟩ := rel_n h
  unfold wX9_stepsTo
  intro x6 e6
  rw [nI_1] at e6
  subst e6
  generalize hlo : (A + 1) * 10 = lo at hq
  generalize hDD : (B - A) * 10 = D at hq
  refine loopS (fun f i (w : Mm) => wX9_stepsTo_b8 Q f w (nI c) (nI B) a (nI (stN v c lo (10 * i))) (nI (A + 1 + i))) (fun i w => (∀ k, k ≠ 135 → k ≠ 136 → w.1 k = v.1 k) ∧ w.2 = v.2 ∧ fSt v c lo a (D - 10 * i) (10 * i) = fSt v c lo a D 0) (B - A) (fun f w hI => ?_) (fun f i w hi hI ih => ?_) 0 v (by omega) ⟨fun _ _ _ => rfl, rfl, rfl⟩
  · obtain ⟨i1, i2, i3⟩ := hI
    rw [show D - 10 * (B - A) = 0 by omega] at i3
    have i3 : -1 = fSt v c lo a D 0 := i3
    unfold wX9_stepsTo_b8
    refine ⟨fun _ => hq _ w i1 i2 (fun _ => by rw [show 10 * (B - A) = D by omega]) (fun t ht e => ?_), fun cc => absurd ((nI_ltI (by omega) (by omega)).mpr (by omega)) cc⟩
    rw [← i3] at e
    exact absurd e.symm (nI_ne1 (by omega))
  · obtain ⟨i1, i2, i3⟩ := hI
    unfold wX9_stepsTo_b8
    refine ⟨fun cc => absurd ((nI_ltI (by omega) (by omega)).mp cc) (by omega), fun _ => ?_⟩
    refine loopS (fun g j (w : Mm) => wX9_stepsTo_b17 (fun (u : Mm) (x1 : Int32) (x3 : Int32) (x4 : Int32) (x5 : Int32) (x6 : Int32) => wX9_stepsTo_b8 Q f u x1 x3 x4 x5 x6) Q g w (nI c) (nI B) a (nI (stN v c lo (10 * i + j))) (nI (A + 1 + i)) (nI j)) (fun j w => (∀ k, k ≠ 135 → k ≠ 136 → w.1 k = v.1 k) ∧ w.2 = v.2 ∧ fSt v c lo a (D - (10 * i + j)) (10 * i + j) = fSt v c lo a D 0) 10 (fun g w hJ => ?_) (fun g j w hj hJ ih2 => ?_) 0 w (by omega) ⟨i1, i2, i3⟩
    · unfold wX9_stepsTo_b17
      refine ⟨fun _ y ey => ?_, fun cc => absurd ((nI_leI (a := 10) (b := 10) (by omega) (by omega)).mpr (Nat.le_refl _)) cc⟩
      rw [ey, nI_1, show 10 * i + 10 = 10 * (i + 1) by omega, Nat.add_assoc]
      exact ih w (by rw [show 10 * (i + 1) = 10 * i + 10 by omega]; exact hJ)
    · obtain ⟨j1, j2, j3⟩ := hJ
      have es : stN v c lo (10 * i + j + 1) = if hasV v c (lo + (10 * i + j)) = 0 then stN v c lo (10 * i + j) else stN v c lo (10 * i + j) + 1 := rfl
      have hle := stN_le v c lo (10 * i + j)
      rw [show D - (10 * i + j) = (D - (10 * i + j + 1)) + 1 by omega] at j3
      have ef : fSt v c lo a (D - (10 * i + j + 1) + 1) (10 * i + j) = if ¬ hasV v c (lo + (10 * i + j)) = 0 ∧ nI (stN v c lo (10 * i + j)) = a then nI (lo + (10 * i + j)) else fSt v c lo a (D - (10 * i + j + 1)) (10 * i + j + 1) := rfl
      rw [ef] at j3
      have em : (lo + (10 * i + j)) % 10 = j := by omega
      have ed : (lo + (10 * i + j)) / 10 = A + 1 + i := by omega
      have nw : nrow w = nrow v := by unfold nrow; rw [j1 101 (by decide) (by decide)]
      have hV : hasN w (nI c) (nI j) (nI (A + 1 + i)) (nrow w) = hasV v c (lo + (10 * i + j)) := by
        rw [← hasV_f j1 c (lo + (10 * i + j))]
        unfold hasV
        rw [em, ed]
      unfold wX9_stepsTo_b17
      refine ⟨fun cc => absurd ((nI_leI (a := 10) (b := j) (by omega) (by omega)).mp cc) (by omega), fun _ => hasR_w (by rw [nw, j1 101 (by decide) (by decide), e101]) (by rw [nw]; exact n80) _ _ _ ?_⟩
      rw [hV]
      refine ⟨fun z y ey => ?_, fun z w4 e4 w5 e5 => ?_⟩
      · rw [if_pos z] at es
        rw [if_neg (fun d => d.1 z)] at j3
        rw [ey, nI_1, ← es]
        exact ih2 w ⟨j1, j2, j3⟩
      · have k1 : ∀ k, k ≠ 135 → k ≠ 136 → w5.1 k = v.1 k := fun k k1 k2 => by rw [e5, s32_n _ _ _ k2, e4, s32_n _ _ _ k1, j1 k k1 k2]
        have k2 : w5.2 = v.2 := by rw [e5, s32_2, e4, s32_2, j2]
        rw [if_neg z] at es
        refine ⟨fun z2 => ?_, fun z2 x ex y ey => ?_⟩
        · rw [if_pos ⟨z, z2⟩] at j3
          refine hq _ w5 k1 k2 (fun e => ?_) (fun t ht e => ?_)
          · rw [← j3] at e; exact absurd e (nI_ne1 (by omega))
          · rw [← j3] at e
            have : t = lo + (10 * i + j) := ((nI_eq (by omega) (by omega)).mp e).symm
            rw [this, em, ed]
            exact ⟨by rw [e5, s32_n _ _ _ (by decide), e4, s32_k, upd_s], by rw [e5, s32_k, upd_s]⟩
        · rw [if_neg (fun d => z2 d.2)] at j3
          rw [ex, ey, nI_1, nI_1, ← es]
          exact ih2 w5 ⟨k1, k2, j3⟩
theorem rel_sf {u v w : Mm} (h : Rel u v) (h1 : ∀ k, k ≠ 135 → k ≠ 136 → w.1 k = v.1 k) (h2 : w.2 = v.2) : Rel u w := rel_scr h rfl (pV_of (fun k hk => h1 k (fun e => by rw [e] at hk; exact absurd hk (by decide)) (fun e => by rw [e] at hk; exact absurd hk (by decide))) (fun k _ => by rw [h2]))
theorem rev_ix {a b c : Int32} (p : okV a b c) : ∃ x y z : Nat, x < 720 ∧ y < z ∧ z < 10 ∧ a = nI x ∧ b = nI y ∧ c = nI z := by
  obtain ⟨x, hx, rfl⟩ := ix_of 720 p.1
  obtain ⟨y, hy, rfl⟩ := ix_of 10 p.2.1
  obtain ⟨z, hz, rfl⟩ := ix_of 10 p.2.2.1
  have := p.2.2.2
  rw [nI_toInt (by omega), nI_toInt (by omega)] at this
  exact ⟨x, y, z, hx, by omega, hz, rfl, rfl, rfl⟩
theorem st_steps {u v : Mm} (h : Rel u v) (a1 a2 a3 : Int32) : wX8_steps u a1 a2 a3 (fun (r : Int32) => wX9_steps v a1 a2 a3 (fun (r2 : Int32) (v1 : Mm) => r = r2 ∧ Rel u v1)) := by
  unfold wX8_steps
  refine isRevision_b (fun n => ?_) (fun p => ?_)
  · unfold wX9_steps; exact areReleases_b (fun _ => ⟨rfl, h⟩) (fun z => absurd z n)
  · obtain ⟨c, A, B, hc, hAB, hB, rfl, rfl, rfl⟩ := rev_ix p
    unfold wX8_firstStep
    rw [first10]
    refine stepsC_w h hc hAB hB ?_
    unfold wX9_steps
    refine areReleases_b (fun z => absurd p z) (fun _ => stepsTo_w h hAB hB (-1) (fun r w k1 k2 e1 _ => ⟨?_, rel_sf h k1 k2⟩))
    exact (e1 (fSt_m1 v c _ _ 0 (by omega))).symm
theorem st_step {u v : Mm} (h : Rel u v) (a1 a2 a3 a4 a5 : Int32) : wX8_step u a1 a2 a3 a4 a5 (fun (r : Int64) (u1 : Mm) => wX9_step v a1 a2 a3 a4 a5 (fun (r2 : Int64) (v1 : Mm) => r = r2 ∧ Rel u1 v1)) := by
  unfold wX8_step
  refine isRevision_b (fun n => ?_) (fun p => ?_)
  · unfold wX9_step; exact refused_bad (areReleases_b (fun _ => ⟨rfl, h⟩) (fun z => absurd z n))
  · refine ⟨fun z => refused_bad ?_, fun z => ?_⟩
    · unfold wX9_step; exact areReleases_b (fun y => absurd p y) (fun _ => ⟨fun _ => ⟨rfl, h⟩, fun y => absurd z y⟩)
    · obtain ⟨c, A, B, hc, hAB, hB, rfl, rfl, rfl⟩ := rev_ix p
      have hD := stN_le v c ((A + 1) * 10) ((B - A) * 10)
      -- the reference's way
      have ref : ∀ (u1 : Mm) (r : Int64), Rel u1 v → ((stN v c ((A + 1) * 10) ((B - A) * 10) : Int) ≤ a4.toInt → r = -9223372036854775806) → (¬ (stN v c ((A + 1) * 10) ((B - A) * 10) : Int) ≤ a4.toInt → ¬ (0 ≤ a5.toInt ∧ a5.toInt ≤ 2) → r = -9223372036854775806) → (∀ t, t < 200 → fSt v c ((A + 1) * 10) a4 ((B - A) * 10) 0 = nI t → (0 ≤ a5.toInt ∧ a5.toInt ≤ 2) → (a5 ≤ 0 → r = saidR (v.1 1) (v.1 2) (v.1 3) (v.1 4) (v.1 5) (nrow v) (nI c) (nI (t / 10)) (nI (t % 10)) - saidR (v.1 1) (v.1 2) (v.1 3) (v.1 4) (v.1 5) (nrow v) (nI c) (nI (t / 10)) (nI (t % 10) - 1)) ∧ (¬ a5 ≤ 0 → (a5 = 1 → r = (nI (t % 10)).toInt64) ∧ (¬ a5 = 1 → r = (nI (t / 10)).toInt64))) → wX9_step v (nI c) (nI A) (nI B) a4 a5 (fun (r2 : Int64) (v1 : Mm) => r = r2 ∧ Rel u1 v1) := by
        intro u1 r h1 g1 g2 g3
        unfold wX9_step
        refine areReleases_b (fun y => absurd p y) (fun _ => ⟨fun y => absurd y z, fun _ => stepsTo_w h1 hAB hB (-1) (fun r2 w k1 k2 e1 _ => ?_)⟩)
        have e2 := e1 (fSt_m1 v c _ _ 0 (by omega))
        have hw : Rel u1 w := rel_sf h1 k1 k2
        rw [e2]
        have le : nI (stN v c ((A + 1) * 10) ((B - A) * 10)) ≤ a4 ↔ (stN v c ((A + 1) * 10) ((B - A) * 10) : Int) ≤ a4.toInt := by
          rw [Int32.le_iff_toInt_le, nI_toInt (by omega)]
        rw [le]
        refine ⟨fun y => ⟨g1 y, hw⟩, fun y => in_b 0 2 (fun n => ⟨g2 y n, hw⟩) (fun n => ?_)⟩
        have eS : ∀ d, stN w c ((A + 1) * 10) d = stN v c ((A + 1) * 10) d := by
          intro d
          induction d with
          | zero => rfl
          | succ d ih => unfold stN; rw [hasV_f k1, ih]
        have eF : ∀ d k, fSt w c ((A + 1) * 10) a4 d k = fSt v c ((A + 1) * 10) a4 d k := by
          intro d
          induction d with
          | zero => intro k; rfl
          | succ d ih => intro k; unfold fSt; rw [hasV_f k1, eS, ih]
        refine stepsTo_w hw hAB hB a4 (fun r3 w2 l1 l2 _ f2 => ?_)
        rw [eF] at f2
        have z4 : 0 ≤ a4.toInt := by
          rw [Int32.lt_iff_toInt_lt] at z
          have : (0 : Int32).toInt = 0 := rfl
          omega
        obtain ⟨j, hj, ej⟩ := fSt_hi v c ((A + 1) * 10) (a := a4) ((B - A) * 10) 0 (by omega) (by show ((0 : Nat) : Int) ≤ a4.toInt; omega) (by rw [Nat.zero_add]; omega)
        obtain ⟨m1, m2⟩ := f2 ((A + 1) * 10 + j) (by omega) ej
        obtain ⟨q1, q2⟩ := g3 ((A + 1) * 10 + j) (by omega) ej n
        have hw2 : Rel u1 w2 := rel_sf hw l1 l2
        have en : nrow w2 = nrow v := by unfold nrow; rw [l1 101 (by decide) (by decide), k1 101 (by decide) (by decide)]
        have e5 : ∀ k, k ≠ 135 → k ≠ 136 → w2.1 k = v.1 k := fun k a b => (l1 k a b).trans (k1 k a b)
        rw [m1, m2]
        refine ⟨fun y5 => saidBy_rel hw2 (nI c) _ _ (fun x => ?_), fun y5 => ⟨fun y6 => ⟨(q2 y5).1 y6, hw2⟩, fun y6 => ⟨(q2 y5).2 y6, hw2⟩⟩⟩
        have s135 : (s32 w2 111 0 x).1 135 0 = nI (((A + 1) * 10 + j) % 10) := by rw [s32_n _ _ _ (by decide), m1]
        have s136 : (s32 w2 111 0 x).1 136 0 = nI (((A + 1) * 10 + j) / 10) := by rw [s32_n _ _ _ (by decide), m2]
        rw [s135, s136]
        refine saidBy_rel (rel_111 hw2 x) (nI c) _ _ (fun x2 => ⟨?_, rel_111 (rel_111 hw2 x) x2⟩)
        have en2 : nrow (s32 w2 111 0 x) = nrow v := en
        rw [en2, en, s32_n _ (q := 1) _ _ (by decide), s32_n _ (q := 2) _ _ (by decide), s32_n _ (q := 3) _ _ (by decide), s32_n _ (q := 4) _ _ (by decide), s32_n _ (q := 5) _ _ (by decide), e5 1 (by decide) (by decide), e5 2 (by decide) (by decide), e5 3 (by decide) (by decide), e5 4 (by decide) (by decide), e5 5 (by decide) (by decide)]
        exact q1 y5
      refine within_b 0 2 (fun n => refused_bad (ref u _ h (fun _ => rfl) (fun _ _ => rfl) (fun t _ _ n2 => absurd n2 n))) (fun n => ?_)
      unfold wX8_firstStep
      rw [first10, first10, show (B + 1) * 10 = (A + 1) * 10 + (B - A) * 10 by omega]
      refine findSt_w h hc (by omega) a4 ⟨fun e => refused_bad ?_, fun e => ?_⟩
      · refine ref u _ h (fun _ => rfl) (fun _ n2 => absurd n n2) (fun t ht e2 _ => ?_)
        rw [e] at e2
        exact absurd e2.symm (nI_ne1 (by omega))
      · have z4 : 0 ≤ a4.toInt := by
          rw [Int32.lt_iff_toInt_lt] at z
          have : (0 : Int32).toInt = 0 := rfl
          omega
        have hlt : a4.toInt < (stN v c ((A + 1) * 10) (0 + (B - A) * 10) : Int) := by
          rcases Int.lt_or_le a4.toInt (stN v c ((A + 1) * 10) (0 + (B - A) * 10) : Int) with g | g
          · exact g
          · exact absurd (fSt_lo v c ((A + 1) * 10) ((B - A) * 10) 0 (by omega) g) e
        obtain ⟨j, hj, ej⟩ := fSt_hi v c ((A + 1) * 10) (a := a4) ((B - A) * 10) 0 (by omega) (by show ((0 : Nat) : Int) ≤ a4.toInt; omega) hlt
        rw [Nat.zero_add] at hlt
        have t200 : (A + 1) * 10 + j < 200 := by omega
        generalize (A + 1) * 10 + j = t at ej t200
        rw [ej, (at10 (a := t) (by omega)).1, (at10 (a := t) (by omega)).2]
        intro x7 e7 x8 e8
        rw [e7, e8]
        have same : ∀ t2, t2 < 200 → fSt v c ((A + 1) * 10) a4 ((B - A) * 10) 0 = nI t2 → t2 = t := fun t2 ht2 e2 => by
          rw [ej] at e2
          exact ((nI_eq (by omega) (by omega)).mp e2).symm
        refine ⟨fun y0 => meanWith_rel h hc _ _ (fun u1 h1 => meanWith_rel h1 hc _ _ (fun u2 h2 => ref u2 _ h2 (fun g => absurd g (by omega)) (fun _ n2 => absurd n n2) (fun t2 ht2 e2 _ => ?_))), fun y0 => ⟨fun y1 => ref u _ h (fun g => absurd g (by omega)) (fun _ n2 => absurd n n2) (fun t2 ht2 e2 _ => ?_), fun y1 => ref u _ h (fun g => absurd g (by omega)) (fun _ n2 => absurd n n2) (fun t2 ht2 e2 _ => ?_)⟩⟩
        · rw [same t2 ht2 e2]
          exact ⟨fun _ => rfl, fun y => absurd (by rw [y0]; decide) y⟩
        · rw [same t2 ht2 e2]
          exact ⟨fun y => by rw [y1] at y; exact absurd y (by decide), fun _ => ⟨fun _ => rfl, fun y => absurd y1 y⟩⟩
        · rw [same t2 ht2 e2]
          refine ⟨fun y => ?_, fun _ => ⟨fun y => absurd y y1, fun _ => rfl⟩⟩
          have zz : (0 : Int32).toInt = 0 := rfl
          rw [Int32.le_iff_toInt_le] at y
          exact absurd (by rw [← Int32.toInt_inj, zz]; omega) y0
