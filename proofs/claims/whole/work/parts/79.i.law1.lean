/-! ===== laws: the text, and the class's reading of a term ===== -/
def bt (T : Nat → Int32) (n p : Nat) : Int32 := if n ≤ p then -1 else T p
abbrev isFig (T : Nat → Int32) (n p : Nat) : Prop := p < n ∧ 48 ≤ (T p).toInt ∧ (T p).toInt ≤ 57
def dg (T : Nat → Int32) (p : Nat) : Nat := (T p).toNatClampNeg - 48
theorem fig_dg {T : Nat → Int32} {n p : Nat} (h : isFig T n p) : dg T p ≤ 9 ∧ T p = nI (48 + dg T p) := by
  obtain ⟨x, hx, e⟩ := ix_of 58 (a := T p) (by omega)
  have h1 := h.2.1
  rw [e, nI_toInt (by omega)] at h1
  unfold dg
  rw [e, nI_clamp (n := x) (by omega)]
  exact ⟨by omega, congrArg nI (by omega)⟩
def nfR (T : Nat → Int32) (n p : Nat) : Nat → Nat
  | 0 => 0
  | k + 1 => if nfR T n p k = k ∧ isFig T n (p + k) then k + 1 else nfR T n p k
theorem nfR_spec (T : Nat → Int32) (n p : Nat) : ∀ k, nfR T n p k ≤ k ∧ (∀ i, i < nfR T n p k → isFig T n (p + i)) ∧ (nfR T n p k = k ∨ ¬ isFig T n (p + nfR T n p k))
  | 0 => ⟨Nat.le_refl 0, fun i hi => absurd hi (by show ¬ i < 0; omega), Or.inl rfl⟩
  | k + 1 => by
    obtain ⟨h1, h2, h3⟩ := nfR_spec T n p k
    have e : nfR T n p (k + 1) = if nfR T n p k = k ∧ isFig T n (p + k) then k + 1 else nfR T n p k := rfl
    rw [e]
    by_cases g : nfR T n p k = k ∧ isFig T n (p + k)
    · rw [if_pos g]
      refine ⟨Nat.le_refl _, fun i hi => ?_, Or.inl rfl⟩
      by_cases hik : i = k
      · subst hik; exact g.2
      · exact h2 i (by omega)
    · rw [if_neg g]
      refine ⟨by omega, h2, Or.inr (fun d => ?_)⟩
      rcases h3 with h3 | h3
      · rw [h3] at d; exact g ⟨h3, d⟩
      · exact h3 d
def nf (T : Nat → Int32) (n p : Nat) : Nat := nfR T n p 6
theorem nf_uniq {T : Nat → Int32} {n p i : Nat} (hi : i ≤ 6) (ha : ∀ k, k < i → isFig T n (p + k)) (hb : i = 6 ∨ ¬ isFig T n (p + i)) : nf T n p = i := by
  obtain ⟨h1, h2, h3⟩ := nfR_spec T n p 6
  unfold nf
  rcases Nat.lt_trichotomy (nfR T n p 6) i with g | g | g
  · rcases h3 with h3 | h3
    · omega
    · exact absurd (ha _ g) h3
  · exact g
  · rcases hb with hb | hb
    · omega
    · exact absurd (h2 i g) hb
def numN (T : Nat → Int32) (p : Nat) : Nat → Nat
  | 0 => 0
  | k + 1 => 10 * numN T p k + dg T (p + k)
theorem numN_lt {T : Nat → Int32} {n p : Nat} : ∀ k, k ≤ 6 → (∀ i, i < k → isFig T n (p + i)) → numN T p k < 10 ^ k
  | 0, _, _ => by show (0 : Nat) < 1; omega
  | k + 1, hk, h => by
    have ih := numN_lt k (by omega) (fun i hi => h i (by omega))
    have hd := (fig_dg (h k (by omega))).1
    show 10 * numN T p k + dg T (p + k) < 10 ^ (k + 1)
    rw [Nat.pow_succ]
    omega
theorem numN_bd {T : Nat → Int32} {n p k : Nat} (hk : k ≤ 6) (h : ∀ i, i < k → isFig T n (p + i)) : numN T p k < 1000000 := by
  have h1 := numN_lt k hk h
  have h2 : 10 ^ k ≤ 10 ^ 6 := Nat.pow_le_pow_right (by decide) hk
  omega
/-- the class's state while it reads: text, length, place -/
def stC (j n : Nat) (T : Nat → Int32) (u : Mm) (p : Nat) : Prop := u.1 (693 + 64 * j) 0 = nI n ∧ (∀ i, i < n → u.1 (38 + 4 * j) i = T i) ∧ u.1 (697 + 64 * j) 0 = nI p
def fr7 (j : Nat) (u u1 : Mm) : Prop := u1.2 = u.2 ∧ ∀ k, k ≠ 697 + 64 * j → u1.1 k = u.1 k
theorem fr7_trans {j : Nat} {u u1 u2 : Mm} (h1 : fr7 j u u1) (h2 : fr7 j u1 u2) : fr7 j u u2 := ⟨h2.1.trans h1.1, fun k hk => (h2.2 k hk).trans (h1.2 k hk)⟩
theorem stC_put {j n : Nat} {T : Nat → Int32} {u : Mm} {p : Nat} (hj : j < 4) (h : stC j n T u p) (x : Nat) : stC j n T (s32 u (697 + 64 * j) 0 (nI x)) x ∧ fr7 j u (s32 u (697 + 64 * j) 0 (nI x)) :=
  ⟨⟨by rw [s32_n _ _ _ (by omega)]; exact h.1, fun i hi => by rw [s32_n _ _ _ (by omega)]; exact h.2.1 i hi, by rw [s32_k, upd_s]⟩, ⟨rfl, fun k hk => s32_n _ _ _ hk⟩⟩
theorem figC_w {j n : Nat} {T : Nat → Int32} {u : Mm} {p : Nat} (hn : n ≤ 60) (hp : p ≤ n) (h : stC j n T u p) {Q : Int32 → Prop} (q0 : ¬ isFig T n p → Q 0) (q1 : isFig T n p → Q 1) : wX1_isFigureNext j u Q := by
  unfold wX1_isFigureNext
  rw [h.1, h.2.2, nI_leI (by omega) (by omega), nI_clamp (n := p) (by omega)]
  refine ⟨fun c => q0 (fun d => by omega), fun c => ⟨vp_in_nI (by omega) (by omega), ?_⟩⟩
  rw [h.2.1 p (by omega)]
  exact within_b 48 57 (fun g => q0 (fun d => g d.2)) (fun g => q1 ⟨by omega, g⟩)
theorem nextC_w {j n : Nat} {T : Nat → Int32} {u : Mm} {p : Nat} (hn : n ≤ 60) (hp : p ≤ n) (h : stC j n T u p) (b : Int32) (hb : ¬ -1 = b) {Q : Int32 → Prop} (q0 : ¬ bt T n p = b → Q 0) (q1 : bt T n p = b → p < n → Q 1) : wX1_isNext j u b Q := by
  unfold wX1_isNext
  unfold bt at q0 q1
  rw [h.1, h.2.2, nI_leI (by omega) (by omega), nI_clamp (n := p) (by omega)]
  refine ⟨fun c => ?_, fun c => ⟨vp_in_nI (by omega) (by omega), ?_⟩⟩
  · rw [if_pos c] at q0; exact q0 hb
  · rw [if_neg c] at q0 q1
    rw [h.2.1 p (by omega)]
    exact ⟨fun d => q1 d (by omega), fun d => q0 d⟩
theorem numC_w {j n : Nat} {T : Nat → Int32} {u : Mm} {p : Nat} (hj : j < 4) (hn : n ≤ 60) (hp : p ≤ n) (h : stC j n T u p) {Q : Int32 → Mm → Prop} (hq : ∀ u1, fr7 j u u1 → stC j n T u1 (p + nf T n p) → Q (nI (numN T p (nf T n p))) u1) : wX1_scanNumber j u Q := by
  unfold wX1_scanNumber
  refine loopS (fun f i (s : Mm) => wX1_scanNumber_b4 j Q f s (nI (numN T p i)) (nI i)) (fun i s => fr7 j u s ∧ stC j n T s (p + i) ∧ p + i ≤ n ∧ ∀ k, k < i → isFig T n (p + k)) 6 (fun f s hI => ?_) (fun f i s hi hI ih => ?_) 0 u (by omega) ⟨⟨rfl, fun _ _ => rfl⟩, h, hp, fun k hk => absurd hk (by omega)⟩
  · obtain ⟨i1, i2, i3, i4⟩ := hI
    have e := nf_uniq (by omega) i4 (Or.inl rfl)
    rw [e] at hq
    unfold wX1_scanNumber_b4
    exact ⟨fun _ => hq s i1 i2, fun cc => absurd ((nI_leI (a := 6) (b := 6) (by omega) (by omega)).mpr (Nat.le_refl _)) cc⟩
  · obtain ⟨i1, i2, i3, i4⟩ := hI
    unfold wX1_scanNumber_b4
    refine ⟨fun cc => absurd ((nI_leI (a := 6) (b := i) (by omega) (by omega)).mp cc) (by omega), fun _ => figC_w hn i3 i2 (fun g => br0 ?_) (fun g => br1 ?_)⟩
    · have e := nf_uniq (by omega) i4 (Or.inr g)
      rw [e] at hq
      exact hq s i1 i2
    · rw [i2.2.2, nI_clamp (n := p + i) (by omega), i2.2.1 (p + i) g.1, nI_1]
      refine ⟨vp_in_nI (by omega) (by omega), fun x ex s1 es y ey => ?_⟩
      have hb := numN_bd (k := i) (by omega) i4
      have ex : x = nI (numN T p (i + 1)) := by
        rw [ex, (fig_dg g).2, show (10 : Int32) = nI 10 from rfl, show (48 : Int32) = nI 48 from rfl, pk_mul, nI_add, pk_sub (by omega)]
        exact congrArg nI (by show _ = 10 * numN T p i + dg T (p + i); omega)
      obtain ⟨p1, p2⟩ := stC_put hj i2 (p + i + 1)
      rw [ex, ey, nI_1, es]
      refine ih _ ⟨fr7_trans i1 p2, p1, by have := g.1; omega, fun k hk => ?_⟩
      by_cases e : k = i
      · subst e; exact g
      · exact i4 k (by omega)
/-- a cell's three figures from p on: its fault, or -1 -/
def cB (T : Nat → Int32) (n p : Nat) : Int32 := if isFig T n p then (if isFig T n (p + 1) then (if isFig T n (p + 2) then (if dg T p < 2 ∧ dg T (p + 1) < 4 ∧ dg T (p + 2) < 6 then -1 else nI p) else nI (p + 2)) else nI (p + 1)) else nI p
def cdN (T : Nat → Int32) (p : Nat) : Nat := ((dg T p * 4 + dg T (p + 1)) * 6 + dg T (p + 2)) * 12
theorem cB_ok {T : Nat → Int32} {n p : Nat} (hp : p < 900) (h : cB T n p = -1) : (isFig T n p ∧ isFig T n (p + 1) ∧ isFig T n (p + 2)) ∧ dg T p < 2 ∧ dg T (p + 1) < 4 ∧ dg T (p + 2) < 6 := by
  unfold cB at h
  by_cases a : isFig T n p
  · rw [if_pos a] at h
    by_cases b : isFig T n (p + 1)
    · rw [if_pos b] at h
      by_cases c : isFig T n (p + 2)
      · rw [if_pos c] at h
        by_cases d : dg T p < 2 ∧ dg T (p + 1) < 4 ∧ dg T (p + 2) < 6
        · exact ⟨⟨a, b, c⟩, d⟩
        · rw [if_neg d] at h; exact absurd h (nI_ne1 (by omega))
      · rw [if_neg c] at h; exact absurd h (nI_ne1 (by omega))
    · rw [if_neg b] at h; exact absurd h (nI_ne1 (by omega))
  · rw [if_neg a] at h; exact absurd h (nI_ne1 (by omega))
theorem cB_at {T : Nat → Int32} {n p i : Nat} (hi : i < 3) (ha : ∀ k, k < i → isFig T n (p + k)) (hb : ¬ isFig T n (p + i)) : cB T n p = nI (p + i) := by
  unfold cB
  rcases (show i = 0 ∨ i = 1 ∨ i = 2 by omega) with rfl | rfl | rfl
  · rw [Nat.add_zero] at hb
    rw [if_neg hb]; rfl
  · have a0 : isFig T n p := ha 0 (by omega)
    rw [if_pos a0, if_neg hb]
  · have a0 : isFig T n p := ha 0 (by omega)
    rw [if_pos a0, if_pos (ha 1 (by omega)), if_neg hb]
theorem cB_3 {T : Nat → Int32} {n p : Nat} (ha : ∀ k, k < 3 → isFig T n (p + k)) : cB T n p = if dg T p < 2 ∧ dg T (p + 1) < 4 ∧ dg T (p + 2) < 6 then -1 else nI p := by
  have a0 : isFig T n p := ha 0 (by omega)
  unfold cB
  rw [if_pos a0, if_pos (ha 1 (by omega)), if_pos (ha 2 (by omega))]
/-- what a term lays down -/
def laid (j : Nat) (u u1 : Mm) (k : Nat) (x c : Int32) : Prop := u1.2 = u.2 ∧ (∀ q, q ≠ 39 + 4 * j → q ≠ 40 + 4 * j → q ≠ 696 + 64 * j → q ≠ 697 + 64 * j → u1.1 q = u.1 q) ∧ u1.1 (39 + 4 * j) = upd (u.1 (39 + 4 * j)) k x ∧ u1.1 (40 + 4 * j) = upd (u.1 (40 + 4 * j)) k c ∧ u1.1 (696 + 64 * j) 0 = nI (k + 1)
theorem laid_fr {j : Nat} {u u1 u2 : Mm} {k : Nat} {x c : Int32} (hj : j < 4) (h1 : fr7 j u u1) (h2 : laid j u1 u2 k x c) : laid j u u2 k x c :=
  ⟨h2.1.trans h1.1, fun q a b e f => (h2.2.1 q a b e f).trans (h1.2 q f), by rw [h2.2.2.1, h1.2 _ (by omega)], by rw [h2.2.2.2.1, h1.2 _ (by omega)], h2.2.2.2.2⟩
theorem addC_w {j n : Nat} {T : Nat → Int32} {u : Mm} {p k : Nat} (hj : j < 4) (hk : k < 60) (h : stC j n T u p) (h6 : u.1 (696 + 64 * j) 0 = nI k) (x c : Int32) {Q : Int32 → Mm → Prop} (hq : ∀ u1, laid j u u1 k x c → stC j n T u1 p → Q (-1) u1) : wX1_addTerm j u x c Q := by
  unfold wX1_addTerm
  rw [h6, nI_clamp (n := k) (by omega)]
  refine ⟨fun cc => absurd ((nI_leI (a := 60) (b := k) (by omega) (by omega)).mp cc) (by omega), fun _ => ⟨vp_in_nI (by omega) (by omega), fun u1 e1 => ?_⟩⟩
  have k1 : u1.1 (696 + 64 * j) 0 = nI k := by rw [e1, s32_n _ _ _ (by omega), h6]
  rw [k1, nI_clamp (n := k) (by omega)]
  refine ⟨vp_in_nI (by omega) (by omega), fun u2 e2 u3 e3 => ?_⟩
  have k2 : u2.1 (696 + 64 * j) 0 = nI k := by rw [e2, s32_n _ _ _ (by omega), k1]
  rw [k2, nI_1] at e3
  refine hq u3 ⟨by rw [e3, s32_2, e2, s32_2, e1, s32_2], fun q a b e f => by rw [e3, s32_n _ _ _ e, e2, s32_n _ _ _ b, e1, s32_n _ _ _ a], ?_, ?_, by rw [e3, s32_k, upd_s]⟩ ⟨?_, fun i hi => ?_, ?_⟩
  · rw [e3, s32_n _ _ _ (by omega), e2, s32_n _ _ _ (by omega), e1, s32_k]
  · rw [e3, s32_n _ _ _ (by omega), e2, s32_k, e1, s32_n _ _ _ (by omega)]
  · rw [e3, s32_n _ _ _ (by omega), e2, s32_n _ _ _ (by omega), e1, s32_n _ _ _ (by omega)]; exact h.1
  · rw [e3, s32_n _ _ _ (by omega), e2, s32_n _ _ _ (by omega), e1, s32_n _ _ _ (by omega)]; exact h.2.1 i hi
  · rw [e3, s32_n _ _ _ (by omega), e2, s32_n _ _ _ (by omega), e1, s32_n _ _ _ (by omega)]; exact h.2.2
theorem isL_n {a b c : Nat} (ha : a < 10) (hb : b < 10) (hc : c < 10) : okL (nI a) (nI b) (nI c) ↔ a < 2 ∧ b < 4 ∧ c < 6 := by
  unfold okL
  rw [nI_toInt (by omega), nI_toInt (by omega), nI_toInt (by omega)]
  omega
def csB (T : Nat → Int32) (n p : Nat) : Int32 := if bt T n p = 99 then cB T n (p + 1) else nI p
theorem cellC_w {j n : Nat} {T : Nat → Int32} {u : Mm} {p k : Nat} (hj : j < 4) (hn : n ≤ 60) (hp : p ≤ n) (hk : k < 60) (h : stC j n T u p) (h6 : u.1 (696 + 64 * j) 0 = nI k) (x : Int32) {Q : Int32 → Mm → Prop} (hbad : ¬ csB T n p = -1 → ∀ u1, fr7 j u u1 → Q (csB T n p) u1) (hok : csB T n p = -1 → ∀ u1, laid j u u1 k x (nI (cdN T (p + 1))) → stC j n T u1 (p + 4) → Q (-1) u1) : wX1_scanCell j u x Q := by
  unfold wX1_scanCell
  unfold csB at hbad hok
  refine nextC_w hn hp h 99 (by decide) (fun g => br0 ?_) (fun g gn => br1 (fun u2 e2 x2 ex2 => ?_))
  · rw [if_neg g] at hbad
    rw [h.2.2]
    exact hbad (nI_ne1 (by omega)) u ⟨rfl, fun _ _ => rfl⟩
  · rw [if_pos g] at hbad hok
    rw [h.2.2, nI_1] at e2
    obtain ⟨p1, p2⟩ := stC_put hj h (p + 1)
    rw [← e2] at p1 p2
    rw [p1.2.2] at ex2
    subst ex2
    refine loopS (fun f i (s : Mm) => wX1_scanCell_b31 j Q f s x (nI (p + 1)) (nI i)) (fun i s => fr7 j u s ∧ stC j n T s (p + 1 + i) ∧ p + 1 + i ≤ n ∧ ∀ k, k < i → isFig T n (p + 1 + k)) 3 (fun f s hI => ?_) (fun f i s hi hI ih => ?_) 0 u2 (by omega) ⟨p2, p1, by omega, fun k hk => absurd hk (by omega)⟩
    · obtain ⟨i1, i2, i3, i4⟩ := hI
      have f0 := fig_dg (i4 0 (by omega))
      have f1 := fig_dg (i4 1 (by omega))
      have f2 := fig_dg (i4 2 (by omega))
      have c3 := cB_3 i4
      rw [Nat.add_zero] at f0
      unfold wX1_scanCell_b31
      rw [nI_1 (p + 1), show nI (p + 1) + (2 : Int32) = nI (p + 1 + 2) by rw [show (2 : Int32) = nI 2 from rfl, nI_add], nI_clamp (n := p + 1) (by omega), nI_clamp (n := p + 1 + 1) (by omega), nI_clamp (n := p + 1 + 2) (by omega), i2.2.1 (p + 1) (by omega), i2.2.1 (p + 1 + 1) (by omega), i2.2.1 (p + 1 + 2) (by omega), f0.2, f1.2, f2.2]
      have s48 : ∀ d, nI (48 + d) - (48 : Int32) = nI d := fun d => by rw [show (48 : Int32) = nI 48 from rfl, pk_sub (by omega)]; exact congrArg nI (by omega)
      rw [s48, s48, s48]
      refine ⟨fun _ => ⟨vp_in_nI (by omega) (by omega), fun x3 e3 => ⟨vp_in_nI (by omega) (by omega), fun x4 e4 => ⟨vp_in_nI (by omega) (by omega), fun x5 e5 => ?_⟩⟩⟩, fun cc => absurd ((nI_leI (a := 3) (b := 3) (by omega) (by omega)).mpr (Nat.le_refl _)) cc⟩
      subst e3 e4 e5
      have iff := isL_n (a := dg T (p + 1)) (b := dg T (p + 1 + 1)) (c := dg T (p + 1 + 2)) (by omega) (by omega) (by omega)
      refine isLine_b (fun g => ?_) (fun g => ?_)
      · rw [if_neg (fun d => g (iff.mpr d))] at c3
        rw [c3] at hbad
        exact hbad (nI_ne1 (by omega)) s i1
      · have g := iff.mp g
        rw [if_pos g] at c3
        unfold wX8_cellCode
        rw [show (0 : Int32) = nI 0 from rfl, cell_C]
        dsimp only
        have h6s : s.1 (696 + 64 * j) 0 = nI k := by rw [i1.2 _ (by omega), h6]
        exact addC_w hj hk i2 h6s x _ (fun u1 l1 l2 => hok c3 u1 (laid_fr hj i1 l1) l2)
    · obtain ⟨i1, i2, i3, i4⟩ := hI
      unfold wX1_scanCell_b31
      refine ⟨fun cc => absurd ((nI_leI (a := 3) (b := i) (by omega) (by omega)).mp cc) (by omega), fun _ => figC_w hn i3 i2 (fun g => br0 ?_) (fun g => br1 (fun s1 es y ey => ?_))⟩
      · rw [i2.2.2]
        rw [cB_at hi i4 g] at hbad
        exact hbad (nI_ne1 (by omega)) s i1
      · rw [i2.2.2, nI_1] at es
        obtain ⟨p3, p4⟩ := stC_put hj i2 (p + 1 + i + 1)
        rw [ey, nI_1, es]
        refine ih _ ⟨fr7_trans i1 p4, p3, by have := g.1; omega, fun k hk => ?_⟩
        by_cases e : k = i
        · subst e; exact g
        · exact i4 k (by omega)
def tB (T : Nat → Int32) (n p : Nat) : Int32 := if nf T n p = 0 then csB T n p else if bt T n (p + nf T n p) = 42 then csB T n (p + nf T n p + 1) else -1
def tE (T : Nat → Int32) (n p : Nat) : Nat := if nf T n p = 0 then p + 4 else if bt T n (p + nf T n p) = 42 then p + nf T n p + 5 else p + nf T n p
def tM (T : Nat → Int32) (n p : Nat) : Nat := if nf T n p = 0 then 1 else numN T p (nf T n p)
def tC (T : Nat → Int32) (n p : Nat) : Int32 := if nf T n p = 0 then nI (cdN T (p + 1)) else if bt T n (p + nf T n p) = 42 then nI (cdN T (p + nf T n p + 2)) else -1
theorem nf_le {T : Nat → Int32} {n p : Nat} (hp : p ≤ n) : nf T n p ≤ 6 ∧ p + nf T n p ≤ n ∧ ∀ i, i < nf T n p → isFig T n (p + i) := by
  obtain ⟨h1, h2, h3⟩ := nfR_spec T n p 6
  refine ⟨h1, ?_, h2⟩
  unfold nf
  rcases Nat.eq_zero_or_pos (nfR T n p 6) with z | z
  · omega
  · have := (h2 (nfR T n p 6 - 1) (by omega)).1; omega
theorem tM_bd {T : Nat → Int32} {n p : Nat} (hp : p ≤ n) : tM T n p < 1000000 := by
  obtain ⟨h1, h2, h3⟩ := nf_le hp (T := T)
  unfold tM
  split
  · decide
  · exact numN_bd h1 h3
theorem bt_lt {T : Nat → Int32} {n p : Nat} {b : Int32} (h : bt T n p = b) (hb : ¬ -1 = b) : p < n := by
  unfold bt at h
  by_cases g : n ≤ p
  · rw [if_pos g] at h; exact absurd h hb
  · omega
theorem cs_ok {T : Nat → Int32} {n p : Nat} (hp : p < 800) (h : csB T n p = -1) : p + 4 ≤ n ∧ dg T (p + 1) < 2 ∧ dg T (p + 1 + 1) < 4 ∧ dg T (p + 1 + 2) < 6 := by
  unfold csB at h
  by_cases g : bt T n p = 99
  · rw [if_pos g] at h
    obtain ⟨⟨a, b, c⟩, d⟩ := cB_ok (by omega) h
    exact ⟨by have := c.1; omega, d⟩
  · rw [if_neg g] at h; exact absurd h (nI_ne1 (by omega))
theorem t_ok {T : Nat → Int32} {n p : Nat} (hn : n ≤ 60) (hp : p ≤ n) (h : tB T n p = -1) : p + 1 ≤ tE T n p ∧ tE T n p ≤ n ∧ (tC T n p = -1 ∨ ∃ l m c : Nat, l < 2 ∧ m < 4 ∧ c < 6 ∧ tC T n p = nI (((l * 4 + m) * 6 + c) * 12)) := by
  obtain ⟨h1, h2, h3⟩ := nf_le hp (T := T)
  unfold tB at h
  unfold tE tC
  by_cases a : nf T n p = 0
  · rw [if_pos a] at h
    rw [if_pos a, if_pos a]
    obtain ⟨e1, e2, e3, e4⟩ := cs_ok (by omega) h
    exact ⟨by omega, e1, Or.inr ⟨_, _, _, e2, e3, e4, rfl⟩⟩
  · rw [if_neg a] at h
    rw [if_neg a, if_neg a]
    by_cases b : bt T n (p + nf T n p) = 42
    · rw [if_pos b] at h
      rw [if_pos b, if_pos b]
      obtain ⟨e1, e2, e3, e4⟩ := cs_ok (by omega) h
      exact ⟨by omega, by omega, Or.inr ⟨_, _, _, e2, e3, e4, rfl⟩⟩
    · rw [if_neg b, if_neg b]
      exact ⟨by omega, h2, Or.inl rfl⟩
theorem termC_w {j n : Nat} {T : Nat → Int32} {u : Mm} {p k : Nat} (hj : j < 4) (hn : n ≤ 60) (hp : p ≤ n) (hk : k < 60) (h : stC j n T u p) (h6 : u.1 (696 + 64 * j) 0 = nI k) (x : Int32) {Q : Int32 → Mm → Prop} (hbad : ¬ tB T n p = -1 → ∀ u1, fr7 j u u1 → Q (tB T n p) u1) (hok : tB T n p = -1 → ∀ u1, laid j u u1 k (x * nI (tM T n p)) (tC T n p) → stC j n T u1 (tE T n p) → Q (-1) u1) : wX1_scanTerm j u x Q := by
  obtain ⟨h1, h2, h3⟩ := nf_le hp (T := T)
  unfold wX1_scanTerm
  intro x2 ex2
  rw [h.2.2] at ex2
  subst ex2
  refine numC_w hj hn hp h (fun u3 f3 s3 => ?_)
  have h63 : u3.1 (696 + 64 * j) 0 = nI k := by rw [f3.2 _ (by omega), h6]
  rw [s3.2.2]
  unfold tB at hbad hok
  unfold tM tC tE at hok
  refine ⟨fun z => ?_, fun z => ?_⟩
  · have a : nf T n p = 0 := by have := (nI_eq (by omega) (by omega)).mp z; omega
    rw [a, Nat.add_zero] at s3
    rw [if_pos a] at hbad
    rw [if_pos a, if_pos a, if_pos a, if_pos a, show x * nI 1 = x from Int32.mul_one x] at hok
    exact cellC_w hj hn hp hk s3 h63 x (fun g u1 g1 => hbad g u1 (fr7_trans f3 g1)) (fun g u1 g1 g2 => hok g u1 (laid_fr hj f3 g1) g2)
  · have a : ¬ nf T n p = 0 := fun e => z (by rw [e]; rfl)
    rw [if_neg a] at hbad
    rw [if_neg a, if_neg a, if_neg a, if_neg a] at hok
    refine nextC_w hn h2 s3 42 (by decide) (fun g => br0 ?_) (fun g gn => br1 (fun u7 e7 => ?_))
    · rw [if_neg g, if_neg g, if_neg g] at hok
      exact addC_w hj hk s3 h63 _ _ (fun u1 l1 l2 => hok rfl u1 (laid_fr hj f3 l1) l2)
    · rw [if_pos g] at hbad
      rw [if_pos g, if_pos g, if_pos g] at hok
      rw [nI_1] at e7
      obtain ⟨p1, p2⟩ := stC_put hj s3 (p + nf T n p + 1)
      rw [← e7] at p1 p2
      have f7 := fr7_trans f3 p2
      have h67 : u7.1 (696 + 64 * j) 0 = nI k := by rw [f7.2 _ (by omega), h6]
      exact cellC_w hj hn (by omega) hk p1 h67 _ (fun g u1 g1 => hbad g u1 (fr7_trans f7 g1)) (fun g u1 g1 g2 => hok g u1 (laid_fr hj f7 g1) g2)
