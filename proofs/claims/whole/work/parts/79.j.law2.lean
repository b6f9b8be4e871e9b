/-! ===== laws: the reference's reading of a term; sums of terms ===== -/
def stR (j n : Nat) (T : Nat → Int32) (w : Mm) (p : Nat) : Prop := w.1 131 0 = nI j ∧ w.1 132 0 = nI p ∧ w.1 24 j = nI n ∧ (∀ i, i < n → w.1 25 (60 * j + i) = T i) ∧ w.1 133 0 = -1
def frR (w w1 : Mm) : Prop := w1.2 = w.2 ∧ ∀ k, k ≠ 132 → k ≠ 133 → w1.1 k = w.1 k
theorem frR_trans {w w1 w2 : Mm} (h1 : frR w w1) (h2 : frR w1 w2) : frR w w2 := ⟨h2.1.trans h1.1, fun k a b => (h2.2 k a b).trans (h1.2 k a b)⟩
theorem frR_refl (w : Mm) : frR w w := ⟨rfl, fun _ _ _ => rfl⟩
theorem frR_132 (w : Mm) (x : Int32) : frR w (s32 w 132 0 x) := ⟨rfl, fun k a _ => s32_n _ _ _ a⟩
theorem frR_133 (w : Mm) (x : Int32) : frR w (s32 w 133 0 x) := ⟨rfl, fun k _ b => s32_n _ _ _ b⟩
theorem stR_put {j n : Nat} {T : Nat → Int32} {w : Mm} {p : Nat} (h : stR j n T w p) (x : Nat) : stR j n T (s32 w 132 0 (nI x)) x :=
  ⟨by rw [s32_n _ _ _ (by decide)]; exact h.1, by rw [s32_k, upd_s], by rw [s32_n _ _ _ (by decide)]; exact h.2.2.1, fun i hi => by rw [s32_n _ _ _ (by decide)]; exact h.2.2.2.1 i hi, by rw [s32_n _ _ _ (by decide)]; exact h.2.2.2.2⟩
theorem byteR_w {j n : Nat} {T : Nat → Int32} {w : Mm} {p : Nat} (hj : j < 4) (hn : n ≤ 60) (hp : p < 200) (h : stR j n T w p) {Q : Int32 → Prop} (hq : Q (bt T n p)) : wX9_byteNow w Q := by
  unfold wX9_byteNow
  unfold bt at hq
  rw [h.1, h.2.1, nI_clamp (n := j) (by omega), h.2.2.1, nI_leI (by omega) (by omega), it_R, nI_clamp (n := 60 * j + p) (by omega)]
  refine ⟨vp_in_nI hj (by omega), fun c => ?_, fun c => ⟨vp_in_nI (by omega) (by omega), ?_⟩⟩
  · rw [if_pos c] at hq; exact hq
  · rw [if_neg c] at hq
    rw [h.2.2.2.1 p (by omega)]; exact hq
theorem figR_w {j n : Nat} {T : Nat → Int32} {w : Mm} {p : Nat} (hj : j < 4) (hn : n ≤ 60) (hp : p < 200) (h : stR j n T w p) {Q : Int32 → Prop} (q0 : ¬ isFig T n p → Q 0) (q1 : isFig T n p → Q 1) : wX9_isFigure w Q := by
  unfold wX9_isFigure
  have t48 : (48 : Int32).toInt = 48 := by decide
  have t57 : (57 : Int32).toInt = 57 := by decide
  refine byteR_w hj hn hp h ?_
  by_cases g : n ≤ p
  · have e : bt T n p = -1 := by unfold bt; rw [if_pos g]
    rw [e]
    exact ⟨fun _ => q0 (fun d => by omega), fun c => absurd (by decide) c⟩
  · have e : bt T n p = T p := by unfold bt; rw [if_neg g]
    rw [e, Int32.lt_iff_toInt_lt, t48]
    refine ⟨fun c => q0 (fun d => by omega), fun c => byteR_w hj hn hp h ?_⟩
    rw [e, Int32.lt_iff_toInt_lt, t57]
    exact ⟨fun c2 => q0 (fun d => by omega), fun c2 => q1 ⟨by omega, by omega, by omega⟩⟩
theorem cellRd_w {j n : Nat} {T : Nat → Int32} {w : Mm} {p qt : Nat} (hj : j < 4) (hn : n ≤ 60) (hp : p ≤ n) (hqt : qt < 12) (h : stR j n T w p) (h134 : w.1 134 0 = nI qt) {C : Int32 → Int64} (hC : ∀ l m c, l < 2 → m < 4 → c < 6 → w.2 15 (((l * 4 + m) * 6 + c) * 12 + qt) = C (nI (((l * 4 + m) * 6 + c) * 12))) {Q : Int64 → Mm → Prop} (hbad : ¬ cB T n p = -1 → ∀ w1, frR w w1 → w1.1 133 0 = cB T n p → Q 0 w1) (hok : cB T n p = -1 → ∀ w1, frR w w1 → stR j n T w1 (p + 3) → Q (C (nI (cdN T p))) w1) : wX9_cell w Q := by
  unfold wX9_cell
  intro x1 e1
  rw [h.2.1] at e1
  subst e1
  refine loopS (fun f i (s : Mm) => wX9_cell_b9 Q f s (nI p) (nI (numN T p i)) (nI i)) (fun i s => frR w s ∧ stR j n T s (p + i) ∧ p + i ≤ n ∧ ∀ k, k < i → isFig T n (p + k)) 3 (fun f s hI => ?_) (fun f i s hi hI ih => ?_) 0 w (by omega) ⟨frR_refl w, h, hp, fun k hk => absurd hk (by omega)⟩
  · obtain ⟨i1, i2, i3, i4⟩ := hI
    have f0 := fig_dg (i4 0 (by omega))
    have f1 := fig_dg (i4 1 (by omega))
    have f2 := fig_dg (i4 2 (by omega))
    rw [Nat.add_zero] at f0
    have c3 := cB_3 i4
    have en : numN T p 3 = 100 * dg T p + 10 * dg T (p + 1) + dg T (p + 2) := by
      show 10 * (10 * (10 * 0 + dg T (p + 0)) + dg T (p + 1)) + dg T (p + 2) = _
      rw [Nat.add_zero p]; omega
    have d100 : nI (numN T p 3) / (100 : Int32) = nI (dg T p) := by
      rw [show (100 : Int32) = nI 100 from rfl, pk_div (by omega) (by omega) (by omega)]
      exact congrArg nI (by omega)
    have d10 : jrem (nI (numN T p 3) / (10 : Int32)) (10 : Int32) = nI (dg T (p + 1)) := by
      rw [show (10 : Int32) = nI 10 from rfl, pk_div (by omega) (by omega) (by omega)]
      unfold jrem
      rw [pk_rem (by omega) (by decide) (by decide)]
      exact congrArg nI (by omega)
    have d1 : jrem (nI (numN T p 3)) (10 : Int32) = nI (dg T (p + 2)) := by
      rw [show (10 : Int32) = nI 10 from rfl]
      unfold jrem
      rw [pk_rem (by omega) (by decide) (by decide)]
      exact congrArg nI (by omega)
    unfold wX9_cell_b9
    rw [d100, d10, d1]
    have iff := isL_n (a := dg T p) (b := dg T (p + 1)) (c := dg T (p + 2)) (by omega) (by omega) (by omega)
    refine ⟨fun _ => areThere_b (fun g u3 e3 => ?_) (fun g => ?_), fun cc => absurd ((nI_leI (a := 3) (b := 3) (by omega) (by omega)).mpr (Nat.le_refl _)) cc⟩
    · rw [if_neg (fun d => g (iff.mpr d))] at c3
      rw [c3] at hbad
      rw [e3]
      exact hbad (nI_ne1 (by omega)) _ (frR_trans i1 (frR_133 _ _)) (by rw [s32_k, upd_s])
    · have g := iff.mp g
      rw [if_pos g] at c3
      unfold wX9_cellOf
      rw [i1.2 134 (by decide) (by decide), h134, cell_R]
      dsimp only
      rw [nI_clamp (n := ((dg T p * 4 + dg T (p + 1)) * 6 + dg T (p + 2)) * 12 + qt) (by omega), i1.1, hC _ _ _ g.1 g.2.1 g.2.2]
      exact ⟨vp_in_nI (by omega) (by omega), hok c3 s i1 i2⟩
  · obtain ⟨i1, i2, i3, i4⟩ := hI
    unfold wX9_cell_b9
    refine ⟨fun cc => absurd ((nI_leI (a := 3) (b := i) (by omega) (by omega)).mp cc) (by omega), fun _ => figR_w hj hn (by omega) i2 (fun g => br0 (fun u9 e9 => ?_)) (fun g => br1 (byteR_w hj hn (by omega) i2 (fun x2 e2 u7 e7 y ey => ?_)))⟩
    · rw [i2.2.1] at e9
      rw [cB_at hi i4 g] at hbad
      rw [e9]
      exact hbad (nI_ne1 (by omega)) _ (frR_trans i1 (frR_133 _ _)) (by rw [s32_k, upd_s])
    · have hb := numN_bd (k := i) (by omega) i4
      have gl := g.1
      have eb : bt T n (p + i) = nI (48 + dg T (p + i)) := by unfold bt; rw [if_neg (by omega), ← (fig_dg g).2]
      have e2 : x2 = nI (numN T p (i + 1)) := by
        rw [e2, eb, show (10 : Int32) = nI 10 from rfl, show (48 : Int32) = nI 48 from rfl, pk_mul, nI_add, pk_sub (by omega)]
        exact congrArg nI (by show _ = 10 * numN T p i + dg T (p + i); omega)
      rw [i2.2.1, nI_1] at e7
      rw [e2, ey, nI_1, e7]
      refine ih _ ⟨frR_trans i1 (frR_132 _ _), stR_put i2 (p + i + 1), by omega, fun k hk => ?_⟩
      by_cases e : k = i
      · subst e; exact g
      · exact i4 k (by omega)
/-- what a term is worth: C tells the cells -/
def tv (T : Nat → Int32) (n : Nat) (C : Int32 → Int64) (p : Nat) : Int64 := if tC T n p = -1 then lN (tM T n p) else lN (tM T n p) * C (tC T n p)
theorem cdN_ne (T : Nat → Int32) {p : Nat} (h : dg T p < 2 ∧ dg T (p + 1) < 4 ∧ dg T (p + 2) < 6) : ¬ nI (cdN T p) = -1 := nI_ne1 (by unfold cdN; omega)
theorem termR_w {j n : Nat} {T : Nat → Int32} {w : Mm} {p qt : Nat} (hj : j < 4) (hn : n ≤ 60) (hp : p ≤ n) (hqt : qt < 12) (h : stR j n T w p) (h134 : w.1 134 0 = nI qt) {C : Int32 → Int64} (hC : ∀ l m c, l < 2 → m < 4 → c < 6 → w.2 15 (((l * 4 + m) * 6 + c) * 12 + qt) = C (nI (((l * 4 + m) * 6 + c) * 12))) {Q : Int64 → Mm → Prop} (hbad : ¬ tB T n p = -1 → ∀ x w1, frR w w1 → w1.1 133 0 = tB T n p → Q x w1) (hok : tB T n p = -1 → ∀ w1, frR w w1 → stR j n T w1 (tE T n p) → Q (tv T n C p) w1) : wX9_term w Q := by
  obtain ⟨h1, h2, h3⟩ := nf_le hp (T := T)
  have nfu := fun i => nf_uniq (T := T) (n := n) (p := p) (i := i)
  unfold wX9_term
  refine byteR_w hj hn (by omega) h ⟨fun z u3 e3 => ?_, fun z x1 e1 => ?_⟩
  · have hpn := bt_lt z (by decide)
    have a : nf T n p = 0 := nfu 0 (by omega) (fun k hk => absurd hk (by omega)) (Or.inr (fun d => by
      have e : bt T n p = T p := by unfold bt; rw [if_neg (by omega)]
      have := d.2.2
      rw [Nat.add_zero, ← e, z] at this
      exact absurd this (by decide)))
    have eB : tB T n p = cB T n (p + 1) := by unfold tB csB; rw [if_pos a, if_pos z]
    have eE : tE T n p = p + 1 + 3 := by unfold tE; rw [if_pos a]
    have eM : tM T n p = 1 := by unfold tM; rw [if_pos a]
    have eC : tC T n p = nI (cdN T (p + 1)) := by unfold tC; rw [if_pos a]
    rw [eB] at hbad hok
    rw [eE] at hok
    rw [h.2.1, nI_1] at e3
    rw [e3]
    refine cellRd_w hj hn (by omega) hqt (stR_put h (p + 1)) (by rw [s32_n _ _ _ (by decide)]; exact h134) hC (fun g w1 f1 e1 => hbad g 0 w1 (frR_trans (frR_132 _ _) f1) e1) (fun g w1 f1 s1 => ?_)
    have := hok g w1 (frR_trans (frR_132 _ _) f1) s1
    unfold tv at this
    rw [eM, eC, if_neg (cdN_ne T (cB_ok (by omega) g).2)] at this
    have e1 : lN 1 * C (nI (cdN T (p + 1))) = C (nI (cdN T (p + 1))) := by rw [show lN 1 = (1 : Int64) from rfl]; grind
    rw [e1] at this
    exact this
  · rw [h.2.1] at e1
    subst e1
    have b78 : ∀ s : Mm, frR w s → stR j n T s (p + nf T n p) → wX9_term_b78 Q s (nI p) (lN (numN T p (nf T n p))) := by
      intro s f1 s1
      unfold wX9_term_b78
      rw [s1.2.1]
      refine ⟨fun y u8 e8 => ?_, fun y => ?_⟩
      · have a : nf T n p = 0 := by have := (nI_eq (by omega) (by omega)).mp y; omega
        have eB : tB T n p = nI p := by unfold tB csB; rw [if_pos a, if_neg z]
        rw [eB] at hbad
        rw [a, Nat.add_zero] at e8
        rw [e8]
        exact hbad (nI_ne1 (by omega)) 0 _ (frR_trans f1 (frR_133 _ _)) (by rw [s32_k, upd_s])
      · have a : ¬ nf T n p = 0 := fun e => y (by rw [e]; rfl)
        have eM : tM T n p = numN T p (nf T n p) := by unfold tM; rw [if_neg a]
        refine byteR_w hj hn (by omega) s1 ⟨fun g u2 e2 => ?_, fun g => ?_⟩
        · have eB : tB T n p = csB T n (p + nf T n p + 1) := by unfold tB; rw [if_neg a, if_pos g]
          have eE : tE T n p = p + nf T n p + 1 + 1 + 3 := by unfold tE; rw [if_neg a, if_pos g]
          have eC : tC T n p = nI (cdN T (p + nf T n p + 1 + 1)) := by unfold tC; rw [if_neg a, if_pos g]
          have gl := bt_lt g (by decide)
          rw [nI_1] at e2
          have s2 := stR_put s1 (p + nf T n p + 1)
          have f2 := frR_trans f1 (frR_132 s (nI (p + nf T n p + 1)))
          rw [← e2] at s2 f2
          rw [s2.2.1]
          refine byteR_w hj hn (by omega) s2 ⟨fun g2 u4 e4 => ?_, fun g2 u7 e7 => ?_⟩
          · have eB2 : tB T n p = cB T n (p + nf T n p + 1 + 1) := by rw [eB]; unfold csB; rw [if_pos g2]
            rw [eB2] at hbad hok
            rw [eE] at hok
            have gl2 := bt_lt g2 (by decide)
            rw [nI_1] at e4
            rw [e4]
            refine cellRd_w hj hn (by omega) hqt (stR_put s2 (p + nf T n p + 1 + 1)) (by rw [s32_n _ _ _ (by decide), f2.2 134 (by decide) (by decide)]; exact h134) (C := C) (fun l m c a1 a2 a3 => by rw [s32_2, f2.1]; exact hC l m c a1 a2 a3) (fun g3 w1 f3 e3 => hbad g3 _ w1 (frR_trans f2 (frR_trans (frR_132 _ _) f3)) e3) (fun g3 w1 f3 s3 => ?_)
            have := hok g3 w1 (frR_trans f2 (frR_trans (frR_132 _ _) f3)) s3
            unfold tv at this
            rw [eM, eC, if_neg (cdN_ne T (cB_ok (by omega) g3).2)] at this
            exact this
          · have eB2 : tB T n p = nI (p + nf T n p + 1) := by rw [eB]; unfold csB; rw [if_neg g2]
            rw [eB2] at hbad
            rw [e7]
            exact hbad (nI_ne1 (by omega)) 0 _ (frR_trans f2 (frR_133 _ _)) (by rw [s32_k, upd_s])
        · have eB : tB T n p = -1 := by unfold tB; rw [if_neg a, if_neg g]
          have eE : tE T n p = p + nf T n p := by unfold tE; rw [if_neg a, if_neg g]
          have eC : tC T n p = -1 := by unfold tC; rw [if_neg a, if_neg g]
          rw [eE] at hok
          have := hok eB s f1 s1
          unfold tv at this
          rw [eM, eC, if_pos rfl] at this
          exact this
    have key : ∃ f, (fun f i (s : Mm) => wX9_term_b31 Q f s (nI p) (lN (numN T p i))) f 0 w := by
      refine loopS (fun f i (s : Mm) => wX9_term_b31 Q f s (nI p) (lN (numN T p i))) (fun i s => frR w s ∧ stR j n T s (p + i) ∧ p + i ≤ n ∧ ∀ k, k < i → isFig T n (p + k)) 6 (fun f s hI => ?_) (fun f i s hi hI ih => ?_) 0 w (by omega) ⟨frR_refl w, h, hp, fun k hk => absurd hk (by omega)⟩
      · obtain ⟨i1, i2, i3, i4⟩ := hI
        have e := nfu 6 (by omega) i4 (Or.inl rfl)
        rw [e] at b78
        unfold wX9_term_b31
        rw [i2.2.1, show nI p + (6 : Int32) = nI (p + 6) by rw [show (6 : Int32) = nI 6 from rfl, nI_add]]
        exact ⟨fun _ => b78 s i1 i2, fun cc => absurd ((nI_leI (by omega) (by omega)).mpr (Nat.le_refl _)) cc⟩
      · obtain ⟨i1, i2, i3, i4⟩ := hI
        unfold wX9_term_b31
        rw [i2.2.1, show nI p + (6 : Int32) = nI (p + 6) by rw [show (6 : Int32) = nI 6 from rfl, nI_add]]
        refine ⟨fun cc => absurd ((nI_leI (by omega) (by omega)).mp cc) (by omega), fun _ => figR_w hj hn (by omega) i2 (fun g => br0 ?_) (fun g => br1 (byteR_w hj hn (by omega) i2 (fun x2 e2 u4 e4 => ?_)))⟩
        · have e := nfu i (by omega) i4 (Or.inr g)
          rw [e] at b78
          exact b78 s i1 i2
        · have hb := numN_bd (k := i) (by omega) i4
          have gl := g.1
          have hd := (fig_dg g).1
          have eb : bt T n (p + i) = nI (48 + dg T (p + i)) := by unfold bt; rw [if_neg (by omega), ← (fig_dg g).2]
          have e2 : x2 = lN (numN T p (i + 1)) := by
            rw [e2, eb, nI_l (by omega), show (10 : Int64) = lN 10 from rfl, show (48 : Int64) = lN 48 from rfl, lN_mul, lN_add, lN_sub (by omega)]
            exact congrArg lN (by show _ = 10 * numN T p i + dg T (p + i); omega)
          rw [nI_1] at e4
          rw [e2, e4]
          refine ih _ ⟨frR_trans i1 (frR_132 _ _), stR_put i2 (p + i + 1), by omega, fun k hk => ?_⟩
          by_cases e : k = i
          · subst e; exact g
          · exact i4 k (by omega)
    exact key
def segB (T : Nat → Int32) (n : Nat) : Nat → Nat → Int32
  | 0, _ => 0
  | d + 1, p => if tB T n p = -1 then (if bt T n (tE T n p) = 43 ∨ bt T n (tE T n p) = 45 then segB T n d (tE T n p + 1) else -1) else tB T n p
def segE (T : Nat → Int32) (n : Nat) : Nat → Nat → Nat
  | 0, p => p
  | d + 1, p => if bt T n (tE T n p) = 43 ∨ bt T n (tE T n p) = 45 then segE T n d (tE T n p + 1) else tE T n p
def segV (T : Nat → Int32) (n : Nat) (C : Int32 → Int64) : Nat → Nat → Int64 → Int64
  | 0, _, _ => 0
  | d + 1, p, s => s * tv T n C p + (if bt T n (tE T n p) = 43 then segV T n C d (tE T n p + 1) 1 else if bt T n (tE T n p) = 45 then segV T n C d (tE T n p + 1) (-1) else 0)
theorem segE_le {T : Nat → Int32} {n : Nat} (hn : n ≤ 60) : ∀ d p, p ≤ n → n < p + 2 * d → segB T n d p = -1 → segE T n d p ≤ n ∧ ¬ bt T n (segE T n d p) = 43 ∧ ¬ bt T n (segE T n d p) = 45
  | 0, p, hp, hd, _ => by omega
  | d + 1, p, hp, hd, h => by
    have eB : segB T n (d + 1) p = if tB T n p = -1 then (if bt T n (tE T n p) = 43 ∨ bt T n (tE T n p) = 45 then segB T n d (tE T n p + 1) else -1) else tB T n p := rfl
    have eE : segE T n (d + 1) p = if bt T n (tE T n p) = 43 ∨ bt T n (tE T n p) = 45 then segE T n d (tE T n p + 1) else tE T n p := rfl
    rw [eB] at h
    rw [eE]
    by_cases a : tB T n p = -1
    · rw [if_pos a] at h
      obtain ⟨t1, t2, -⟩ := t_ok hn hp a
      by_cases b : bt T n (tE T n p) = 43 ∨ bt T n (tE T n p) = 45
      · have hlt : tE T n p < n := b.elim (fun e => bt_lt e (by decide)) (fun e => bt_lt e (by decide))
        rw [if_pos b] at h ⊢
        exact segE_le hn d _ (by omega) (by omega) h
      · rw [if_neg b]
        exact ⟨t2, fun e => b (Or.inl e), fun e => b (Or.inr e)⟩
    · rw [if_neg a] at h; exact absurd h a
theorem segR_w {j n qt : Nat} {T : Nat → Int32} (hj : j < 4) (hn : n ≤ 60) (hqt : qt < 12) {C : Int32 → Int64} {Q : Int64 → Mm → Prop} : ∀ (d p : Nat) (w : Mm) (x1 s : Int64) (g : Nat), stR j n T w p → w.1 134 0 = nI qt → (∀ l m c, l < 2 → m < 4 → c < 6 → w.2 15 (((l * 4 + m) * 6 + c) * 12 + qt) = C (nI (((l * 4 + m) * 6 + c) * 12))) → p ≤ n → n < p + 2 * d → (¬ segB T n d p = -1 → ∀ x w1, frR w w1 → w1.1 133 0 = segB T n d p → Q x w1) → (segB T n d p = -1 → ∀ w1, frR w w1 → stR j n T w1 (segE T n d p) → Q (x1 + segV T n C d p s) w1) → ∀ {P : Int64 → Mm → Prop}, (∀ (r2 : Int64) (u3 : Mm), (∀ x1_4 : Int64, x1_4 = (x1 + (s * r2)) → wX9_sum_b5 Q (d + g) u3 x1_4) → P r2 u3) → wX9_term w P
  | 0, p, w, x1, s, g, hs, _, _, hp, hd, _, _, _, _ => by omega
  | d + 1, p, w, x1, s, g, hs, h134, hC, hp, hd, hbad, hok, P, hP => by
    have eB : segB T n (d + 1) p = if tB T n p = -1 then (if bt T n (tE T n p) = 43 ∨ bt T n (tE T n p) = 45 then segB T n d (tE T n p + 1) else -1) else tB T n p := rfl
    have eE : segE T n (d + 1) p = if bt T n (tE T n p) = 43 ∨ bt T n (tE T n p) = 45 then segE T n d (tE T n p + 1) else tE T n p := rfl
    have eV : segV T n C (d + 1) p s = s * tv T n C p + (if bt T n (tE T n p) = 43 then segV T n C d (tE T n p + 1) 1 else if bt T n (tE T n p) = 45 then segV T n C d (tE T n p + 1) (-1) else 0) := rfl
    rw [show d + 1 + g = (d + g) + 1 by omega] at hP
    refine termR_w hj hn hp hqt hs h134 hC (fun a x w1 f1 e1 => hP _ _ (fun y ey => ?_)) (fun a w1 f1 s1 => hP _ _ (fun y ey => ?_))
    · rw [if_neg a] at eB
      rw [eB] at hbad
      unfold wX9_sum_b5
      rw [e1]
      exact ⟨fun c => absurd c a, fun _ => hbad a y w1 f1 e1⟩
    · rw [if_pos a] at eB
      obtain ⟨t1, t2, -⟩ := t_ok hn hp a
      unfold wX9_sum_b5
      refine ⟨fun _ => ?_, fun c => absurd s1.2.2.2.2 c⟩
      have h134w : w1.1 134 0 = nI qt := by rw [f1.2 134 (by decide) (by decide)]; exact h134
      have go : ∀ (σ : Int32) (s2 : Int64), σ.toInt64 = s2 → (bt T n (tE T n p) = 43 ∨ bt T n (tE T n p) = 45) → (if bt T n (tE T n p) = 43 then segV T n C d (tE T n p + 1) 1 else if bt T n (tE T n p) = 45 then segV T n C d (tE T n p + 1) (-1) else 0) = segV T n C d (tE T n p + 1) s2 → wX9_sum_b45 (fun (u : Mm) (x1 : Int64) => wX9_sum_b5 Q (d + g) u x1) Q w1 y σ := by
        intro σ s2 es b ev
        have hlt : tE T n p < n := b.elim (fun e => bt_lt e (by decide)) (fun e => bt_lt e (by decide))
        rw [if_pos b] at eB eE
        rw [ev] at eV
        unfold wX9_sum_b45
        intro u1 e1
        rw [s1.2.1, nI_1] at e1
        rw [e1, es]
        refine segR_w hj hn hqt d (tE T n p + 1) (s32 w1 132 0 (nI (tE T n p + 1))) y s2 g (stR_put s1 _) (by rw [s32_n _ _ _ (by decide)]; exact h134w) (fun l m c a1 a2 a3 => by rw [s32_2, f1.1]; exact hC l m c a1 a2 a3) (by omega) (by omega) (fun nb x w2 f2 e2 => hbad (by rw [eB]; exact nb) x w2 (frR_trans f1 (frR_trans (frR_132 _ _) f2)) (by rw [eB]; exact e2)) (fun nb w2 f2 s2' => ?_) (fun _ _ z => z)
        have := hok (by rw [eB]; exact nb) w2 (frR_trans f1 (frR_trans (frR_132 _ _) f2)) (by rw [eE]; exact s2')
        rw [eV] at this
        rw [ey, show x1 + s * tv T n C p + segV T n C d (tE T n p + 1) s2 = x1 + (s * tv T n C p + segV T n C d (tE T n p + 1) s2) by grind]
        exact this
      refine byteR_w hj hn (by omega) s1 ⟨fun b => ?_, fun b => byteR_w hj hn (by omega) s1 ⟨fun b2 => ?_, fun b2 => ?_⟩⟩
      · unfold wX9_sum_b31
        exact byteR_w hj hn (by omega) s1 ⟨fun _ => go 1 1 rfl (Or.inl b) (by rw [if_pos b]), fun c => absurd b c⟩
      · unfold wX9_sum_b31
        exact byteR_w hj hn (by omega) s1 ⟨fun c => absurd c b, fun _ => go (-1) (-1) rfl (Or.inr b2) (by rw [if_neg b, if_pos b2])⟩
      · rw [if_neg (fun c => c.elim b b2)] at eB eE
        rw [if_neg b, if_neg b2] at eV
        have := hok eB w1 f1 (by rw [eE]; exact s1)
        rw [eV] at this
        rw [ey, show x1 + s * tv T n C p = x1 + (s * tv T n C p + 0) by grind]
        exact this
