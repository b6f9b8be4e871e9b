/-! ===== the class's close ===== -/
theorem reckon_w {u : Mm} {l p t : Nat} (hl : l < 2) (hp : p < 4) (ht : t < 12) {fx co : Nat → Int32} (hfx : ∀ c, c < 6 → u.1 16 ((l * 4 + p) * 6 + c) = fx c) (hco : ∀ c, c < 6 → u.1 19 (((l * 4 + p) * 6 + c) * 12 + t) + u.1 19 (576 + ((l * 4 + p) * 6 + c) * 3 + t / 4) + (1 : Int32) = co c) {Q : Mm → Prop} (hq : ∀ u1 : Mm, (∀ k, k ≠ 20 → u1.1 k = u.1 k) → u1.2 = u.2 → (∀ c, c < 6 → u1.1 20 c = if fx c = 0 then co c else 0) → Q u1) : wX6_reckonCosts u (nI l) (nI p) (nI t) Q := by
  unfold wX6_reckonCosts
  intro x4 e4
  rw [show (4 : Int32) = nI 4 from rfl, pk_div (by omega) (by omega) (by omega)] at e4
  subst e4
  refine loopS (fun f i (s : Mm) => wX6_reckonCosts_b8 Q f s (nI l) (nI p) (nI t) (nI (t / 4)) (nI i)) (fun i s => (∀ k, k ≠ 20 → s.1 k = u.1 k) ∧ s.2 = u.2 ∧ ∀ c, c < i → s.1 20 c = if fx c = 0 then co c else 0) 6 (fun f s hI => ?_) (fun f i s hi hI ih => ?_) 0 u (by omega) ⟨fun _ _ => rfl, rfl, fun c hc => absurd hc (by omega)⟩
  · unfold wX6_reckonCosts_b8
    exact ⟨fun _ => hq s hI.1 hI.2.1 hI.2.2, fun cc => absurd ((nI_leI (a := 6) (b := 6) (by omega) (by omega)).mpr (Nat.le_refl _)) cc⟩
  · obtain ⟨i1, i2, i3⟩ := hI
    unfold wX6_reckonCosts_b8 wX8_cellCode wX8_annualCode wX8_lineOf
    rw [cell_C, ann_C, ln_C]
    dsimp only
    rw [nI_clamp (n := ((l * 4 + p) * 6 + i) * 12 + t) (by omega), nI_clamp (n := 576 + ((l * 4 + p) * 6 + i) * 3 + t / 4) (by omega), nI_clamp (n := (l * 4 + p) * 6 + i) (by omega), nI_clamp (n := i) (by omega), i1 16 (by decide), i1 19 (by decide), hfx i hi, hco i hi]
    have step : ∀ (s1 : Mm) (x y : Int32), y = nI i + 1 → x = (if fx i = 0 then co i else 0) → s1 = s32 s 20 i x → wX6_reckonCosts_b8 Q f s1 (nI l) (nI p) (nI t) (nI (t / 4)) y := fun s1 x y ey ex es => by
      rw [ey, nI_1]
      refine ih s1 ⟨fun k hk => by rw [es, s32_n _ _ _ hk, i1 k hk], by rw [es]; exact i2, fun c hc => ?_⟩
      rw [es, s32_k]
      by_cases e : c = i
      · subst e; rw [upd_s, ex]
      · rw [upd_n _ _ e, i3 c (by omega)]
    refine ⟨fun cc => absurd ((nI_leI (a := 6) (b := i) (by omega) (by omega)).mp cc) (by omega), fun _ => ⟨vp_in_nI (by omega) (by omega), fun x8 e8 => ?_⟩⟩
    subst e8
    refine ⟨fun z => ⟨vp_in_nI (by omega) (by omega), vp_in_nI (by omega) (by omega), vp_in_nI (by omega) (by omega), fun s1 es y ey => step s1 _ y ey (by rw [if_pos z]) es⟩, fun z => ⟨vp_in_nI (by omega) (by omega), fun s1 es y ey => step s1 _ y ey (by rw [if_neg z]) es⟩⟩
theorem cheap_w {u : Mm} {fx co : Nat → Int32} (hc : ∀ c, c < 6 → u.1 20 c = if fx c = 0 then co c else 0) (hcb : ∀ c, c < 6 → ∃ m, 1 ≤ m ∧ m ≤ 181 ∧ co c = nI m) {Q : Mm → Prop} (hq : ∀ u1 : Mm, u1.1 = u.1 → (∀ k, k ≠ 12 → u1.2 k = u.2 k) → (∀ c, c < 6 → u1.2 12 c = if nI c = cheapF fx co 6 then 1 else 0) → Q u1) : wX6_shareToCheapest u Q := by
  unfold wX6_shareToCheapest
  refine loopS (fun f i (s : Mm) => wX6_shareToCheapest_b4 Q f s (cheapF fx co i) (nI i)) (fun i s => s.1 = u.1 ∧ (∀ k, k ≠ 12 → s.2 k = u.2 k) ∧ ∀ c, c < i → s.2 12 c = 0) 6 (fun f s hI => ?_) (fun f i s hi hI ih => ?_) 0 u (by omega) ⟨rfl, fun _ _ => rfl, fun c hc => absurd hc (by omega)⟩
  · obtain ⟨i1, i2, i3⟩ := hI
    unfold wX6_shareToCheapest_b4
    refine ⟨fun _ => ⟨fun z => hq s i1 i2 (fun c hc6 => ?_), fun z => ?_⟩, fun cc => absurd ((nI_leI (a := 6) (b := 6) (by omega) (by omega)).mpr (Nat.le_refl _)) cc⟩
    · rw [z, if_neg (nI_ne1 (by omega)), i3 c hc6]
    · obtain ⟨k, hk, ek, -⟩ := (cheapF_lt fx co 6).resolve_left z
      rw [ek] at hq ⊢
      rw [nI_clamp (n := k) (by omega)]
      refine ⟨vp_in_nI (by omega) (by omega), fun s1 es => hq s1 (by rw [es]; exact i1) (fun q hq => by rw [es, s64_n _ _ _ hq, i2 q hq]) (fun c hc6 => ?_)⟩
      rw [es, s64_k]
      by_cases e : c = k
      · subst e; rw [updL_s, if_pos rfl]
      · rw [updL_n _ _ e, i3 c hc6, if_neg (fun d => e ((nI_eq (by omega) (by omega)).mp d))]
  · obtain ⟨i1, i2, i3⟩ := hI
    have ech : cheapF fx co (i + 1) = if fx i = 0 ∧ (cheapF fx co i = -1 ∨ co i < co (cheapF fx co i).toNatClampNeg) then nI i else cheapF fx co i := rfl
    have vi : vp_in (nI i) 6 := vp_in_nI (by omega) (by omega)
    unfold wX6_shareToCheapest_b4
    rw [nI_clamp (n := i) (by omega)]
    refine ⟨fun cc => absurd ((nI_leI (a := 6) (b := i) (by omega) (by omega)).mp cc) (by omega), fun _ => ⟨vi, fun s1 es => ?_⟩⟩
    have k1 : s1.1 = u.1 := by rw [es]; exact i1
    have inv : s1.1 = u.1 ∧ (∀ k, k ≠ 12 → s1.2 k = u.2 k) ∧ ∀ c, c < i + 1 → s1.2 12 c = 0 := by
      refine ⟨k1, fun q hq => by rw [es, s64_n _ _ _ hq, i2 q hq], fun c hc6 => ?_⟩
      rw [es, s64_k]
      by_cases e : c = i
      · subst e; rw [updL_s]
      · rw [updL_n _ _ e, i3 c (by omega)]
    rw [k1, hc i hi]
    obtain ⟨m, m1, m2, em⟩ := hcb i hi
    refine ⟨vi, fun z y ey => ?_, fun z => ⟨fun z2 y ey => ?_, fun z2 => ⟨vi, ?_⟩⟩⟩
    · have f0 : ¬ fx i = 0 := fun c => by rw [if_pos c, em] at z; exact absurd z (nI_nle (by omega) (by omega))
      rw [if_neg (fun c => f0 c.1)] at ech
      rw [ey, nI_1, ← ech]; exact ih s1 inv
    · have f0 : fx i = 0 := by
        by_cases c : fx i = 0
        · exact c
        · rw [if_neg c] at z; exact absurd (by decide) z
      rw [if_pos ⟨f0, Or.inl z2⟩] at ech
      rw [ey, nI_1]
      rw [ech] at ih; exact ih s1 inv
    · have f0 : fx i = 0 := by
        by_cases c : fx i = 0
        · exact c
        · rw [if_neg c] at z; exact absurd (by decide) z
      obtain ⟨k, hk, ek, fk⟩ := (cheapF_lt fx co i).resolve_left z2
      rw [ek, nI_clamp (n := k) (by omega)] at ech
      rw [ek, nI_clamp (n := k) (by omega), hc k (by omega), if_pos f0, if_pos fk]
      refine ⟨vp_in_nI (by omega) (by omega), fun d y ey => ?_, fun d y ey => ?_⟩
      · rw [if_neg (fun c => by
          rcases c.2 with g | g
          · exact nI_ne1 (by omega) g
          · rw [Int32.lt_iff_toInt_lt] at g; rw [Int32.le_iff_toInt_le] at d; omega)] at ech
        rw [ey, nI_1, ← ech]; exact ih s1 inv
      · rw [if_pos ⟨f0, Or.inr (by rw [Int32.lt_iff_toInt_lt]; rw [Int32.le_iff_toInt_le] at d; omega)⟩] at ech
        rw [ey, nI_1]
        rw [ech] at ih; exact ih s1 inv
theorem byCost_w {u : Mm} {fx co : Nat → Int32} (hc : ∀ c, c < 6 → u.1 20 c = if fx c = 0 then co c else 0) (hcb : ∀ c, c < 6 → ∃ m, 1 ≤ m ∧ m ≤ 181 ∧ co c = nI m) {Q : Mm → Prop} (hq : ∀ u1 : Mm, u1.1 = u.1 → (∀ k, k ≠ 12 → u1.2 k = u.2 k) → (∀ c, c < 6 → u1.2 12 c = if fx c = 0 then 2520 / (co c).toInt64 else 0) → Q u1) : wX6_shareByCost u Q := by
  unfold wX6_shareByCost
  refine loopS (fun f i (s : Mm) => wX6_shareByCost_b2 Q f s (nI i)) (fun i s => s.1 = u.1 ∧ (∀ k, k ≠ 12 → s.2 k = u.2 k) ∧ ∀ c, c < i → s.2 12 c = if fx c = 0 then 2520 / (co c).toInt64 else 0) 6 (fun f s hI => ?_) (fun f i s hi hI ih => ?_) 0 u (by omega) ⟨rfl, fun _ _ => rfl, fun c hc => absurd hc (by omega)⟩
  · unfold wX6_shareByCost_b2
    exact ⟨fun _ => hq s hI.1 hI.2.1 hI.2.2, fun cc => absurd ((nI_leI (a := 6) (b := 6) (by omega) (by omega)).mpr (Nat.le_refl _)) cc⟩
  · obtain ⟨i1, i2, i3⟩ := hI
    have vi : vp_in (nI i) 6 := vp_in_nI (by omega) (by omega)
    have step : ∀ (s1 : Mm) (x : Int64) (y : Int32), y = nI i + 1 → x = (if fx i = 0 then 2520 / (co i).toInt64 else 0) → s1 = s64 s 12 i x → wX6_shareByCost_b2 Q f s1 y := fun s1 x y ey ex es => by
      rw [ey, nI_1]
      refine ih s1 ⟨by rw [es]; exact i1, fun k hk => by rw [es, s64_n _ _ _ hk, i2 k hk], fun c hc => ?_⟩
      rw [es, s64_k]
      by_cases e : c = i
      · subst e; rw [updL_s, ex]
      · rw [updL_n _ _ e, i3 c (by omega)]
    unfold wX6_shareByCost_b2
    rw [nI_clamp (n := i) (by omega), i1, hc i hi]
    obtain ⟨m, m1, m2, em⟩ := hcb i hi
    refine ⟨fun cc => absurd ((nI_leI (a := 6) (b := i) (by omega) (by omega)).mp cc) (by omega), fun _ => ⟨vi, fun z => ⟨vi, fun s1 es y ey => step s1 _ y ey ?_ es⟩, fun z => ⟨vi, ?_, vi, fun s1 es y ey => step s1 _ y ey ?_ es⟩⟩⟩
    · have f0 : ¬ fx i = 0 := fun c => by rw [if_pos c, em] at z; exact absurd z (nI_nle (by omega) (by omega))
      rw [if_neg f0]
    · intro e; rw [e] at z; exact absurd (by decide) z
    · have f0 : fx i = 0 := by
        by_cases c : fx i = 0
        · exact c
        · rw [if_neg c] at z; exact absurd (by decide) z
      have hd : 2520 / m ≤ 2520 := Nat.div_le_self _ _
      rw [if_pos f0, if_pos f0, em, sh_2520 m1 m2, show (2520 : Int32) = nI 2520 from rfl, pk_div (by omega) (by omega) (by omega), nI_l (by omega)]
theorem gapC_w {u : Mm} {l p t : Nat} (hl : l < 2) (hp : p < 4) (ht : t < 12) {sp : Nat → Int32} (hsp : ∀ c, c < 6 → u.1 15 c = sp c) (h01 : ∀ c, c < 6 → sp c = 0 ∨ sp c = 1) {b : Nat → Int64} (hb : ∀ c, c < 6 → u.2 21 (((l * 4 + p) * 6 + c) * 12 + t) = b c) {Q : Int64 → Prop} (h : Q (gapF sp b)) : wX6_gapOf u (nI l) (nI p) (nI t) Q := by
  unfold wX6_gapOf
  unfold gapF at h
  refine loopF (fun f i => wX6_gapOf_b6 u Q f (nI l) (nI p) (nI t) (sumL (fun c => if sp c = 1 then b c else -b c) i) (nI i)) 6 (fun f => ?_) (fun f i hi ih => ?_) 0 (by omega)
  · unfold wX6_gapOf_b6
    exact ⟨fun _ => h, fun cc => absurd ((nI_leI (a := 6) (b := 6) (by omega) (by omega)).mpr (Nat.le_refl _)) cc⟩
  · unfold wX6_gapOf_b6 wX8_cellCode
    rw [cell_C]
    dsimp only
    rw [nI_clamp (n := ((l * 4 + p) * 6 + i) * 12 + t) (by omega), nI_clamp (n := i) (by omega), hb i hi, hsp i hi]
    have e : sumL (fun c => if sp c = 1 then b c else -b c) (i + 1) = sumL (fun c => if sp c = 1 then b c else -b c) i + (if sp i = 1 then b i else -b i) := rfl
    refine ⟨fun cc => absurd ((nI_leI (a := 6) (b := i) (by omega) (by omega)).mp cc) (by omega), fun _ => ⟨vp_in_nI (by omega) (by omega), fun x ex => ⟨vp_in_nI (by omega) (by omega), fun z y ey w ew => ?_, fun z y ey w ew => ?_⟩⟩⟩
    · rw [if_neg (by rw [z]; decide)] at e
      rw [ey, ew, ex, nI_1, ← e]; exact ih
    · rw [if_pos ((h01 i hi).resolve_left z)] at e
      rw [ey, ew, ex, nI_1, ← e]; exact ih
theorem gapF_bd {sp : Nat → Int32} {b : Nat → Int64} (bb : ∀ c, c < 6 → -500000 ≤ (b c).toInt ∧ (b c).toInt ≤ 500000) : -3000000 ≤ (gapF sp b).toInt ∧ (gapF sp b).toInt ≤ 3000000 := by
  unfold gapF
  obtain ⟨t1, t2, t3⟩ := sumL_T (f := fun c => if sp c = 1 then b c else -b c) (A := 500000) (by decide) (by decide) 6 (by decide) (fun c hc => by
    have := bb c hc
    split
    · omega
    · rw [Int64.toInt_neg, Int.bmod_eq_of_le (by omega) (by omega)]; omega)
  rw [t1]; omega
theorem sumL_ind (W : Int64) {k : Nat} (hk : k < 6) : ∀ n, n ≤ 6 → sumL (fun c => if nI c = nI k then W else 0) n = if k < n then W else 0
  | 0, _ => rfl
  | n + 1, hn => by
    show sumL (fun c => if nI c = nI k then W else 0) n + (if nI n = nI k then W else 0) = _
    rw [sumL_ind W hk n (by omega)]
    by_cases e : n = k
    · subst e; rw [if_neg (by omega), if_pos rfl, if_pos (by omega)]; grind
    · rw [if_neg (fun d => e ((nI_eq (by omega) (by omega)).mp d))]
      by_cases g : k < n
      · rw [if_pos g, if_pos (by omega)]; grind
      · rw [if_neg g, if_neg (by omega)]; rfl
theorem flo_1 (x : Int64) : flo x 1 = x := by
  rw [← Int64.toInt_inj, flo_T (by decide), show (1 : Int64).toInt = 1 from rfl, Int.ediv_one]
theorem partsF_ind {W : Int64} {k : Nat} (hk : k < 6) (c : Nat) : partsF W (fun c => if nI c = nI k then 1 else 0) 6 c = if nI c = nI k then W else 0 := by
  have eS : sumL (fun c => if nI c = nI k then (1 : Int64) else 0) 6 = 1 := by rw [sumL_ind 1 hk 6 (by omega), if_pos hk]
  have p1 : part0 W (fun c => if nI c = nI k then 1 else 0) 6 = fun c => if nI c = nI k then W else 0 := by
    funext c
    unfold part0
    rw [eS, flo_1]
    by_cases h : nI c = nI k
    · simp only [if_pos h, Int64.mul_one]
    · simp only [if_neg h, Int64.mul_zero]
  unfold partsF
  have l1 : W - sumL (fun c => if nI c = nI k then W else 0) 6 = 0 := by rw [sumL_ind W hk 6 (by omega), if_pos hk]; grind
  rw [p1, l1]
  rfl
theorem close_w {u : Mm} {l p t : Nat} (hl : l < 2) (hp : p < 4) (ht : t < 12) {sp fx co : Nat → Int32} {b : Nat → Int64} {ru : Int32}
    (hsp : ∀ c, c < 6 → u.1 15 c = sp c) (h01 : ∀ c, c < 6 → sp c = 0 ∨ sp c = 1)
    (hb : ∀ c, c < 6 → u.2 21 (((l * 4 + p) * 6 + c) * 12 + t) = b c) (bb : ∀ c, c < 6 → -500000 ≤ (b c).toInt ∧ (b c).toInt ≤ 500000)
    (hfx : ∀ c, c < 6 → u.1 16 ((l * 4 + p) * 6 + c) = fx c)
    (hco : ∀ c, c < 6 → u.1 19 (((l * 4 + p) * 6 + c) * 12 + t) + u.1 19 (576 + ((l * 4 + p) * 6 + c) * 3 + t / 4) + (1 : Int32) = co c)
    (hcb : ∀ c, c < 6 → ∃ m, 1 ≤ m ∧ m ≤ 181 ∧ co c = nI m) (hru : u.1 270 0 = ru) (hr01 : ru = 0 ∨ ru = 1) {Q : Mm → Prop}
    (hq : ∀ u1 : Mm, (∀ k, k ≠ 20 → u1.1 k = u.1 k) → (∀ k, k ≠ 12 → k ≠ 13 → k ≠ 14 → k ≠ 22 → u1.2 k = u.2 k) →
      (∀ c, c < 6 → u1.2 22 (((l * 4 + p) * 6 + c) * 12 + t) = if sp c = 1 then b c - byF ru fx co (gapF sp b) c else b c + byF ru fx co (gapF sp b) c) →
      (∀ i, (∀ c, c < 6 → i ≠ ((l * 4 + p) * 6 + c) * 12 + t) → u1.2 22 i = u.2 22 i) → Q u1) :
    wX6_close u (nI l) (nI p) (nI t) Q := by
  unfold wX6_close
  refine reckon_w hl hp ht hfx hco (fun s a1 a2 a3 => ?_)
  have hg := gapF_bd (sp := sp) bb
  have zero : (0 : Int64).toInt = 0 := rfl
  have one : (1 : Int64).toInt = 1 := rfl
  have b25 : ∀ r : Mm, r.1 = s.1 → (∀ k, k ≠ 12 → r.2 k = s.2 k) → (∀ c, c < 6 → 0 ≤ (r.2 12 c).toInt ∧ (r.2 12 c).toInt ≤ 2520) → ((sumL (r.2 12) 6 = 0 ∧ ∀ c, c < 6 → byF ru fx co (gapF sp b) c = 0) ∨ (0 < (sumL (r.2 12) 6).toInt ∧ ∀ c, c < 6 → byF ru fx co (gapF sp b) c = partsF (gapF sp b) (r.2 12) 6 c)) → wX6_close_b25 Q r (nI l) (nI p) (nI t) := by
    intro r r1 r2 r3 r4
    unfold wX6_close_b25
    have hb2 : ∀ c, c < 6 → r.2 21 (((l * 4 + p) * 6 + c) * 12 + t) = b c := fun c hc => by rw [r2 21 (by decide), a2, hb c hc]
    refine gapC_w hl hp ht (fun c hc => by rw [r1, a1 15 (by decide), hsp c hc]) h01 hb2 ?_
    have last : ∀ u3 : Mm, u3.1 = r.1 → (∀ k, k ≠ 13 → k ≠ 14 → u3.2 k = r.2 k) → (∀ i, i < 6 → u3.2 13 i = byF ru fx co (gapF sp b) i) → ∃ n44, wX6_close_b44 Q n44 u3 (nI l) (nI p) (nI t) (0 : Int32) := by
      intro u3 e1 e2 e3
      generalize byF ru fx co (gapF sp b) = BY at hq e3
      refine loopS (fun f i (w : Mm) => wX6_close_b44 Q f w (nI l) (nI p) (nI t) (nI i)) (fun i w => w.1 = u3.1 ∧ (∀ k, k ≠ 22 → w.2 k = u3.2 k) ∧ (∀ c, c < i → w.2 22 (((l * 4 + p) * 6 + c) * 12 + t) = if sp c = 1 then b c - BY c else b c + BY c) ∧ (∀ k, (∀ c, c < 6 → k ≠ ((l * 4 + p) * 6 + c) * 12 + t) → w.2 22 k = u3.2 22 k)) 6 (fun f w hI => ?_) (fun f i w hi hI ih => ?_) 0 u3 (by omega) ⟨rfl, fun _ _ => rfl, fun c hc => absurd hc (by omega), fun _ _ => rfl⟩
      · obtain ⟨i1, i2, i3, i4⟩ := hI
        unfold wX6_close_b44
        exact ⟨fun _ => hq w (fun k hk => by rw [i1, e1, r1, a1 k hk]) (fun k k1 k2 k3 k4 => by rw [i2 k k4, e2 k k2 k3, r2 k k1, a2]) i3 (fun i hi => by rw [i4 i hi, e2 22 (by decide) (by decide), r2 22 (by decide), a2]), fun cc => absurd ((nI_leI (a := 6) (b := 6) (by omega) (by omega)).mpr (Nat.le_refl _)) cc⟩
      · obtain ⟨i1, i2, i3, i4⟩ := hI
        have w15 : w.1 15 i = sp i := by rw [i1, e1, r1, a1 15 (by decide), hsp i hi]
        have w21 : w.2 21 (((l * 4 + p) * 6 + i) * 12 + t) = b i := by rw [i2 21 (by decide), e2 21 (by decide) (by decide), hb2 i hi]
        have w13 : w.2 13 i = BY i := by rw [i2 13 (by decide), e3 i hi]
        have put : ∀ y0 : Int64, b i + y0 = (if sp i = 1 then b i - BY i else b i + BY i) → wX6_close_b95 (fun (u : Mm) (x1 : Int32) (x2 : Int32) (x3 : Int32) (x4 : Int32) => wX6_close_b44 Q f u x1 x2 x3 x4) Q w (nI l) (nI p) (nI t) (nI i) (nI (((l * 4 + p) * 6 + i) * 12 + t)) y0 := fun y0 ey0 => by
          unfold wX6_close_b95
          rw [nI_clamp (n := ((l * 4 + p) * 6 + i) * 12 + t) (by omega), w21, ey0]
          refine ⟨vp_in_nI (by omega) (by omega), vp_in_nI (by omega) (by omega), fun w1 ew y ey => ?_⟩
          rw [ey, nI_1]
          refine ih w1 ⟨by rw [ew]; exact i1, fun k hk => by rw [ew, s64_n _ _ _ hk, i2 k hk], fun c hc => ?_, fun k hk => ?_⟩
          · rw [ew, s64_k]
            by_cases e : c = i
            · subst e; rw [updL_s]
            · rw [updL_n _ _ (by omega), i3 c (by omega)]
          · rw [ew, s64_k, updL_n _ _ (hk i hi), i4 k hk]
        unfold wX6_close_b44 wX8_cellCode
        rw [cell_C]
        dsimp only
        rw [nI_clamp (n := i) (by omega), w15, w13]
        refine ⟨fun cc => absurd ((nI_leI (a := 6) (b := i) (by omega) (by omega)).mp cc) (by omega), fun _ => ⟨vp_in_nI (by omega) (by omega), fun z => ⟨vp_in_nI (by omega) (by omega), put _ ?_⟩, fun z => ⟨vp_in_nI (by omega) (by omega), put _ ?_⟩⟩⟩
        · rw [if_neg (by rw [z]; decide)]
        · rw [if_pos ((h01 i hi).resolve_left z)]; grind
    rcases r4 with ⟨g1, g2⟩ | ⟨g1, g2⟩
    · exact deal0_w (n := 6) (by decide) (by decide) g1 (fun u3 e1 e2 e3 => last u3 e1 e2 (fun i hi => by rw [e3 i hi, g2 i hi]))
    · exact dealB_w (n := 6) (A := 3000000) (B := 2520) (by decide) (by decide) (by decide) (by decide) (by decide) hg r3 g1 (fun u3 e1 e2 e3 => last u3 e1 e2 (fun i hi => by rw [e3 i hi, g2 i hi]))
  have s270 : s.1 270 0 = ru := by rw [a1 270 (by decide), hru]
  rw [s270]
  refine ⟨fun z => cheap_w a3 hcb (fun r r1 r2 r3 => b25 r r1 r2 (fun c hc => ?_) ?_), fun z => byCost_w a3 hcb (fun r r1 r2 r3 => ?_)⟩
  · rw [r3 c hc]; split
    · rw [one]; omega
    · rw [zero]; omega
  · have hr : ¬ ru = 1 := by rw [z]; decide
    rcases cheapF_lt fx co 6 with h | ⟨k, hk, ek, -⟩
    · left
      refine ⟨?_, fun c hc => ?_⟩
      · rw [sumL_congr 6 (g := fun _ => 0) (fun c hc => by rw [r3 c hc, h, if_neg (nI_ne1 (by omega))])]
        rw [sumL_const]; grind
      · unfold byF; rw [if_pos h]
    · right
      rw [ek] at r3
      have e6 : sumL (r.2 12) 6 = 1 := by rw [sumL_congr 6 r3, sumL_ind 1 hk 6 (by omega), if_pos hk]
      refine ⟨by rw [e6]; decide, fun c hc => ?_⟩
      rw [partsF_congr (by decide) r3 c hc, partsF_ind hk c]
      unfold byF
      rw [ek, if_neg (nI_ne1 (by omega)), if_neg hr]
  · have hr : ru = 1 := hr01.resolve_left z
    have shb : ∀ c, c < 6 → 0 ≤ (r.2 12 c).toInt ∧ (r.2 12 c).toInt ≤ 2520 ∧ (fx c = 0 → 0 < (r.2 12 c).toInt) := fun c hc => by
      obtain ⟨m, m1, m2, em⟩ := hcb c hc
      rw [r3 c hc]
      by_cases z0 : fx c = 0
      · have d1 : 2520 / m ≤ 2520 := Nat.div_le_self _ _
        have d2 : 0 < 2520 / m := Nat.div_pos (by omega) (by omega)
        rw [if_pos z0, em, sh_2520 m1 m2, lN_toInt (by omega)]
        omega
      · rw [if_neg z0]
        exact ⟨Int.le_refl 0, by decide, fun h => absurd h z0⟩
    refine b25 r r1 r2 (fun c hc => ⟨(shb c hc).1, (shb c hc).2.1⟩) ?_
    rcases cheapF_lt fx co 6 with h | ⟨k, hk, ek, fk⟩
    · left
      have allfx : ∀ n, n ≤ 6 → cheapF fx co n = -1 → ∀ c, c < n → ¬ fx c = 0 := by
        intro n
        induction n with
        | zero => intro _ _ c hc; exact absurd hc (by omega)
        | succ n ih =>
          intro hn hch c hc
          have ech : cheapF fx co (n + 1) = if fx n = 0 ∧ (cheapF fx co n = -1 ∨ co n < co (cheapF fx co n).toNatClampNeg) then nI n else cheapF fx co n := rfl
          rw [ech] at hch
          by_cases g : fx n = 0 ∧ (cheapF fx co n = -1 ∨ co n < co (cheapF fx co n).toNatClampNeg)
          · rw [if_pos g] at hch; exact absurd hch (nI_ne1 (by omega))
          · rw [if_neg g] at hch
            by_cases e : c = n
            · subst e; exact fun d => g ⟨d, Or.inl hch⟩
            · exact ih (by omega) hch c (by omega)
      have af := allfx 6 (by omega) h
      refine ⟨?_, fun c hc => ?_⟩
      · rw [sumL_congr 6 (g := fun _ => 0) (fun c hc => by rw [r3 c hc, if_neg (af c hc)])]
        rw [sumL_const]; grind
      · unfold byF; rw [if_pos h]
    · right
      obtain ⟨t1, t2, t3⟩ := sumL_T (f := r.2 12) (A := 2520) (by decide) (by decide) 6 (by decide) (fun c hc => by have := shb c hc; omega)
      obtain ⟨g1, g2⟩ := sumZ_ge (f := fun c => (r.2 12 c).toInt) 6 (fun c hc => (shb c hc).1)
      have g3 := g2 k hk
      have g4 := (shb k hk).2.2 fk
      refine ⟨by rw [t1]; exact Int.lt_of_lt_of_le g4 g3, fun c hc => ?_⟩
      rw [partsF_congr (by decide) r3 c hc]
      unfold byF
      rw [ek, if_neg (nI_ne1 (by omega)), if_pos hr]
