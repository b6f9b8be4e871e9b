/-! ===== laws: sums of the class, what is left, the statements ===== -/
def frT (j : Nat) (u u1 : Mm) : Prop := u1.2 = u.2 ∧ ∀ q, q ≠ 39 + 4 * j → q ≠ 40 + 4 * j → q ≠ 696 + 64 * j → q ≠ 697 + 64 * j → u1.1 q = u.1 q
theorem frT_trans {j : Nat} {u u1 u2 : Mm} (h1 : frT j u u1) (h2 : frT j u1 u2) : frT j u u2 := ⟨h2.1.trans h1.1, fun q a b c d => (h2.2 q a b c d).trans (h1.2 q a b c d)⟩
theorem frT_7 {j : Nat} {u u1 : Mm} (h : fr7 j u u1) : frT j u u1 := ⟨h.1, fun q _ _ _ d => h.2 q d⟩
def tt (j : Nat) (u : Mm) (C : Int32 → Int64) (i : Nat) : Int64 := if u.1 (40 + 4 * j) i = -1 then (u.1 (39 + 4 * j) i).toInt64 else (u.1 (39 + 4 * j) i).toInt64 * C (u.1 (40 + 4 * j) i)
def tS (j : Nat) (u : Mm) (C : Int32 → Int64) : Nat → Int64 := sumL (tt j u C)
def okCd (c : Int32) : Prop := c = -1 ∨ ∃ l m k : Nat, l < 2 ∧ m < 4 ∧ k < 6 ∧ c = nI (((l * 4 + m) * 6 + k) * 12)
theorem tS_congr {j : Nat} {u u1 : Mm} {C : Int32 → Int64} {k : Nat} (h1 : ∀ i, i < k → u1.1 (39 + 4 * j) i = u.1 (39 + 4 * j) i) (h2 : ∀ i, i < k → u1.1 (40 + 4 * j) i = u.1 (40 + 4 * j) i) : tS j u1 C k = tS j u C k := sumL_congr k (fun i hi => by unfold tt; rw [h1 i hi, h2 i hi])
theorem sgn_l {a b : Int32} (ha : a = 1 ∨ a = -1) (hb : b = 1 ∨ b = -1) {m : Nat} (hm : m < 1000000) : (a * b * nI m).toInt64 = a.toInt64 * b.toInt64 * lN m := by
  have e1 : ((1 : Int32) * nI m).toInt64 = lN m := by rw [show (1 : Int32) = nI 1 from rfl, pk_mul, Nat.one_mul, nI_l (by omega)]
  have e2 : ((-1 : Int32) * nI m).toInt64 = -lN m := by
    have e3 : (-1 : Int32) * nI m = -nI m := by grind
    rw [e3, ← Int64.toInt_inj, i64_T, Int32.toInt_neg, nI_toInt (by omega), Int64.toInt_neg, lN_toInt (by omega), Int.bmod_eq_of_le (by omega) (by omega), Int.bmod_eq_of_le (by omega) (by omega)]
  rcases ha with rfl | rfl <;> rcases hb with rfl | rfl
  · rw [show (1 : Int32) * 1 = 1 from rfl, e1, show ((1 : Int32).toInt64) = 1 from rfl]; grind
  · rw [show (1 : Int32) * (-1) = -1 from rfl, e2, show ((1 : Int32).toInt64) = 1 from rfl, show ((-1 : Int32).toInt64) = -1 from rfl]; grind
  · rw [show (-1 : Int32) * 1 = -1 from rfl, e2, show ((1 : Int32).toInt64) = 1 from rfl, show ((-1 : Int32).toInt64) = -1 from rfl]; grind
  · rw [show (-1 : Int32) * (-1) = 1 from rfl, e1, show ((-1 : Int32).toInt64) = -1 from rfl]; grind
theorem laid_T {j n : Nat} {T : Nat → Int32} {u u1 : Mm} {p k : Nat} {a b : Int32} (hj : j < 4) (hp : p ≤ n) (ha : a = 1 ∨ a = -1) (hb : b = 1 ∨ b = -1) (h : laid j u u1 k (a * b * nI (tM T n p)) (tC T n p)) : frT j u u1 ∧ (∀ C, tS j u1 C (k + 1) = tS j u C k + a.toInt64 * (b.toInt64 * tv T n C p)) ∧ (∀ m, m < k → u1.1 (40 + 4 * j) m = u.1 (40 + 4 * j) m) ∧ u1.1 (40 + 4 * j) k = tC T n p := by
  obtain ⟨h1, h2, h3, h4, h5⟩ := h
  have k4 : u1.1 (40 + 4 * j) k = tC T n p := by rw [h4, upd_s]
  have k3 : u1.1 (39 + 4 * j) k = a * b * nI (tM T n p) := by rw [h3, upd_s]
  refine ⟨⟨h1, h2⟩, fun C => ?_, fun m hm => by rw [h4, upd_n _ _ (by omega)], k4⟩
  have e : tS j u1 C (k + 1) = tS j u1 C k + tt j u1 C k := rfl
  rw [e, tS_congr (u := u) (fun i hi => by rw [h3, upd_n _ _ (by omega)]) (fun i hi => by rw [h4, upd_n _ _ (by omega)])]
  unfold tt tv
  rw [k3, k4, sgn_l ha hb (tM_bd hp)]
  by_cases g : tC T n p = -1
  · rw [if_pos g, if_pos g]; grind
  · rw [if_neg g, if_neg g]; grind
theorem segC_w {j n : Nat} {T : Nat → Int32} (hj : j < 4) (hn : n ≤ 60) {Q : Int32 → Mm → Prop} {ρ : Int32} (hρ : ρ = 1 ∨ ρ = -1) : ∀ (d p k i : Nat) (u : Mm) (s : Int32) (g : Nat), stC j n T u p → u.1 (696 + 64 * j) 0 = nI k → p ≤ n → n < p + 2 * d → 2 * i ≤ p → k ≤ i → (s = 1 ∨ s = -1) → (∀ m, m < k → okCd (u.1 (40 + 4 * j) m)) →
    (¬ segB T n d p = -1 → ∀ u1, frT j u u1 → Q (segB T n d p) u1) →
    (segB T n d p = -1 → ∀ (u1 : Mm) (k1 i1 g1 : Nat), g ≤ g1 → frT j u u1 → stC j n T u1 (segE T n d p) → u1.1 (696 + 64 * j) 0 = nI k1 → k1 ≤ i1 + 1 → 2 * (i1 + 1) ≤ segE T n d p + 1 → (∀ m, m < k1 → okCd (u1.1 (40 + 4 * j) m)) → (∀ C, tS j u1 C k1 = tS j u C k + ρ.toInt64 * segV T n C d p s.toInt64) → (ρ = -1 → Q (if n ≤ segE T n d p then -1 else nI (segE T n d p)) u1) ∧ (ρ = 1 → (bt T n (segE T n d p) = 61 → wX1_scan_b16 j Q g1 (s32 u1 (697 + 64 * j) 0 (nI (segE T n d p + 1))) (-1) (-1) (nI (i1 + 1))) ∧ (¬ bt T n (segE T n d p) = 61 → Q (nI (segE T n d p)) u1))) →
    wX1_scan_b16 j Q (d + g) u ρ (ρ * s) (nI i)
  | 0, p, k, i, u, s, g, hs, h6, hp, hd, _, _, _, _, _, _ => by omega
  | d + 1, p, k, i, u, s, g, hs, h6, hp, hd, hi, hk, hsg, hcd, hbad, hok => by
    have eB : segB T n (d + 1) p = if tB T n p = -1 then (if bt T n (tE T n p) = 43 ∨ bt T n (tE T n p) = 45 then segB T n d (tE T n p + 1) else -1) else tB T n p := rfl
    have eE : segE T n (d + 1) p = if bt T n (tE T n p) = 43 ∨ bt T n (tE T n p) = 45 then segE T n d (tE T n p + 1) else tE T n p := rfl
    have eV : ∀ C, segV T n C (d + 1) p s.toInt64 = s.toInt64 * tv T n C p + (if bt T n (tE T n p) = 43 then segV T n C d (tE T n p + 1) 1 else if bt T n (tE T n p) = 45 then segV T n C d (tE T n p + 1) (-1) else 0) := fun C => rfl
    rw [show d + 1 + g = (d + g) + 1 by omega]
    unfold wX1_scan_b16
    refine ⟨fun cc => absurd ((nI_leI (a := 60) (b := i) (by omega) (by omega)).mp cc) (by omega), fun _ => termC_w hj hn hp (by omega) hs h6 (ρ * s) (fun a u1 f1 => ?_) (fun a u2 l2 s2 => ?_)⟩
    · rw [if_neg a] at eB
      rw [eB] at hbad
      exact ⟨fun c => absurd c a, fun _ => hbad a u1 (frT_7 f1)⟩
    · rw [if_pos a] at eB
      obtain ⟨t1, t2, t3⟩ := t_ok hn hp a
      have h62 : u2.1 (696 + 64 * j) 0 = nI (k + 1) := l2.2.2.2.2
      obtain ⟨f2, v2, c2, c2k⟩ := laid_T hj hp hρ hsg l2
      have hcd2 : ∀ m, m < k + 1 → okCd (u2.1 (40 + 4 * j) m) := fun m hm => by
        by_cases e : m = k
        · rw [e, c2k]; exact t3
        · rw [c2 m (by omega)]; exact hcd m (by omega)
      refine ⟨fun _ => ?_, fun c => absurd rfl c⟩
      rw [s2.2.2, s2.1, nI_ltI (by omega) (by omega)]
      -- a further term of the same side
      have go : ∀ s' : Int32, (s' = 1 ∨ s' = -1) → (bt T n (tE T n p) = 43 ∨ bt T n (tE T n p) = 45) → (∀ C, (if bt T n (tE T n p) = 43 then segV T n C d (tE T n p + 1) 1 else if bt T n (tE T n p) = 45 then segV T n C d (tE T n p + 1) (-1) else 0) = segV T n C d (tE T n p + 1) s'.toInt64) → wX1_scan_b116 j (fun (u : Mm) (x1 : Int32) (x2 : Int32) (x3 : Int32) => wX1_scan_b16 j Q (d + g) u x1 x2 x3) Q u2 ρ (ρ * s') (nI i) := by
        intro s' hs' b ev
        have hlt : tE T n p < n := b.elim (fun e => bt_lt e (by decide)) (fun e => bt_lt e (by decide))
        rw [if_pos b] at eB eE
        unfold wX1_scan_b116
        rw [s2.2.2, nI_1]
        intro u3 e3 y ey
        obtain ⟨p1, p2⟩ := stC_put hj s2 (tE T n p + 1)
        rw [← e3] at p1 p2
        have f3 := frT_trans f2 (frT_7 p2)
        rw [ey, nI_1]
        refine segC_w hj hn hρ d (tE T n p + 1) (k + 1) (i + 1) u3 s' g p1 (by rw [p2.2 _ (by omega)]; exact h62) (by omega) (by omega) (by omega) (by omega) hs' (fun m hm => by rw [p2.2 _ (by omega)]; exact hcd2 m hm) (fun nb u4 f4 => by rw [eB] at hbad; exact hbad nb u4 (frT_trans f3 f4)) (fun nb u4 k1 i1 g1 hg f4 s4 q1 q2 q3 q4 q5 => ?_)
        rw [eE] at hok
        refine hok (by rw [eB]; exact nb) u4 k1 i1 g1 hg (frT_trans f3 f4) s4 q1 q2 q3 q4 (fun C => ?_)
        rw [q5 C, tS_congr (u := u2) (u1 := u3) (fun m hm => by rw [p2.2 _ (by omega)]) (fun m hm => by rw [p2.2 _ (by omega)]), v2 C, eV C, ev C]
        grind
      -- the end of this side
      have fin : ¬ (bt T n (tE T n p) = 43 ∨ bt T n (tE T n p) = 45) → (ρ = -1 → Q (if n ≤ tE T n p then -1 else nI (tE T n p)) u2) ∧ (ρ = 1 → (bt T n (tE T n p) = 61 → wX1_scan_b16 j Q (d + g) (s32 u2 (697 + 64 * j) 0 (nI (tE T n p + 1))) (-1) (-1) (nI (i + 1))) ∧ (¬ bt T n (tE T n p) = 61 → Q (nI (tE T n p)) u2)) := fun b => by
        rw [if_neg b] at eB eE
        rw [eE] at hok
        refine hok eB u2 (k + 1) i (d + g) (by omega) f2 s2 h62 (by omega) (by omega) hcd2 (fun C => ?_)
        rw [v2 C, eV C, if_neg (fun e => b (Or.inl e)), if_neg (fun e => b (Or.inr e))]
        grind
      have b82 : tE T n p < n → ¬ (bt T n (tE T n p) = 61 ∧ ρ = 1) → wX1_scan_b82 j (fun (u : Mm) (x1 : Int32) (x2 : Int32) (x3 : Int32) => wX1_scan_b116 j (fun (u : Mm) (x1 : Int32) (x2 : Int32) (x3 : Int32) => wX1_scan_b16 j Q (d + g) u x1 x2 x3) Q u x1 x2 x3) Q u2 ρ (nI i) := by
        intro hlt h61
        unfold wX1_scan_b82
        refine nextC_w hn t2 s2 43 (by decide) (fun b1 => br0 (nextC_w hn t2 s2 45 (by decide) (fun b2 => br0 ?_) (fun b2 _ => br1 (fun x2 e2 => ?_)))) (fun b1 _ => br1 ?_)
        · obtain ⟨z1, z2⟩ := fin (fun e => e.elim b1 b2)
          rw [s2.2.2]
          rcases hρ with e | e
          · exact (z2 e).2 (fun y => h61 ⟨y, e⟩)
          · have := z1 e
            rw [if_neg (by omega)] at this
            exact this
        · have e2 : x2 = ρ * (-1) := by rw [e2]; grind
          rw [e2]
          exact go (-1) (Or.inr rfl) (Or.inr b2) (fun C => by rw [if_neg b1, if_pos b2]; rfl)
        · have e2 : ρ = ρ * 1 := by grind
          have := go 1 (Or.inl rfl) (Or.inl b1) (fun C => by rw [if_pos b1]; rfl)
          rw [← e2] at this
          exact this
      refine ⟨fun hlt => nextC_w hn t2 s2 61 (by decide) (fun b => br0 (b82 hlt (fun e => b e.1))) (fun b _ => br1 ⟨fun c => b82 hlt (fun e => ?_), fun c => ?_⟩), fun hlt => ⟨fun c => ?_, fun c => ?_⟩⟩
      · rw [e.2] at c; exact absurd c (by decide)
      · have e1 : ρ = 1 := hρ.resolve_right (fun e => c (by rw [e]; decide))
        have n4 : ¬ (bt T n (tE T n p) = 43 ∨ bt T n (tE T n p) = 45) := fun e => by
          rw [b] at e
          exact e.elim (fun e => absurd e (by decide)) (fun e => absurd e (by decide))
        unfold wX1_scan_b116
        rw [s2.2.2, nI_1]
        intro u3 e3 y ey
        rw [ey, nI_1, e3]
        exact ((fin n4).2 e1).1 b
      · have e1 : ρ = 1 := hρ.resolve_right (fun e => by rw [e] at c; exact absurd c (by decide))
        have ebt : bt T n (tE T n p) = -1 := by unfold bt; rw [if_pos (by omega)]
        exact ((fin (fun e => by rw [ebt] at e; exact e.elim (fun e => absurd e (by decide)) (fun e => absurd e (by decide)))).2 e1).2 (by rw [ebt]; decide)
      · have e1 : ρ = -1 := hρ.resolve_left (fun e => c (by rw [e]; decide))
        have ebt : bt T n (tE T n p) = -1 := by unfold bt; rw [if_pos (by omega)]
        have := (fin (fun e => by rw [ebt] at e; exact e.elim (fun e => absurd e (by decide)) (fun e => absurd e (by decide)))).1 e1
        rw [if_pos (by omega)] at this
        exact this
def lwB (T : Nat → Int32) (n : Nat) : Int32 := if segB T n 31 0 = -1 then (if bt T n (segE T n 31 0) = 61 then (if segB T n 31 (segE T n 31 0 + 1) = -1 then (if n ≤ segE T n 31 (segE T n 31 0 + 1) then -1 else nI (segE T n 31 (segE T n 31 0 + 1))) else segB T n 31 (segE T n 31 0 + 1)) else nI (segE T n 31 0)) else segB T n 31 0
def lwV (T : Nat → Int32) (n : Nat) (C : Int32 → Int64) : Int64 := segV T n C 31 0 1 - segV T n C 31 (segE T n 31 0 + 1) 1
theorem scanC_w {j n : Nat} {T : Nat → Int32} {u : Mm} (hj : j < 4) (hn : n ≤ 60) (h1 : u.1 (693 + 64 * j) 0 = nI n) (h2 : ∀ i, i < n → u.1 (38 + 4 * j) i = T i) {Q : Int32 → Mm → Prop} (hq : ∀ u1, frT j u u1 → (lwB T n = -1 → ∃ K, K ≤ 60 ∧ u1.1 (696 + 64 * j) 0 = nI K ∧ (∀ m, m < K → okCd (u1.1 (40 + 4 * j) m)) ∧ ∀ C, tS j u1 C K = lwV T n C) → Q (lwB T n) u1) : wX1_scan j u Q := by
  unfold wX1_scan
  intro u1 e1 u2 e2
  have hs : stC j n T u2 0 := ⟨by rw [e2, s32_n _ _ _ (by omega), e1, s32_n _ _ _ (by omega)]; exact h1, fun i hi => by rw [e2, s32_n _ _ _ (by omega), e1, s32_n _ _ _ (by omega)]; exact h2 i hi, by rw [e2, s32_n _ _ _ (by omega), e1, s32_k, upd_s]; rfl⟩
  have h6 : u2.1 (696 + 64 * j) 0 = nI 0 := by rw [e2, s32_k, upd_s]; rfl
  have f0 : frT j u u2 := ⟨by rw [e2, e1]; rfl, fun q _ _ c d => by rw [e2, s32_n _ _ _ c, e1, s32_n _ _ _ d]⟩
  refine ⟨31 + 31, segC_w hj hn (ρ := 1) (Or.inl rfl) 31 0 0 0 u2 1 31 hs h6 (by omega) (by omega) (by omega) (by omega) (Or.inl rfl) (fun m hm => absurd hm (by omega)) (fun nb u3 f3 => ?_) (fun nb u3 k1 i1 g1 hg f3 s3 q1 q2 q3 q4 q5 => ⟨fun e => absurd e (by decide), fun _ => ⟨fun b => ?_, fun b => ?_⟩⟩)⟩
  · have eL : lwB T n = segB T n 31 0 := by unfold lwB; rw [if_neg nb]
    rw [← eL]
    exact hq u3 (frT_trans f0 f3) (fun e => absurd (eL.symm.trans e) nb)
  · have hlt := bt_lt b (by decide)
    obtain ⟨p1, p2⟩ := stC_put hj s3 (segE T n 31 0 + 1)
    generalize hu4 : s32 u3 (697 + 64 * j) 0 (nI (segE T n 31 0 + 1)) = u4 at p1 p2
    have f4 := frT_trans f0 (frT_trans f3 (frT_7 p2))
    rw [show g1 = 31 + (g1 - 31) by omega]
    refine segC_w hj hn (ρ := -1) (Or.inr rfl) 31 (segE T n 31 0 + 1) k1 (i1 + 1) u4 1 (g1 - 31) p1 (by rw [p2.2 _ (by omega)]; exact q1) (by omega) (by omega) (by omega) (by omega) (Or.inl rfl) (fun m hm => by rw [p2.2 _ (by omega)]; exact q4 m hm) (fun nb2 u5 f5 => ?_) (fun nb2 u5 k2 i2 g2 hg2 f5 s5 r1 r2 r3 r4 r5 => ⟨fun _ => ?_, fun e => absurd e (by decide)⟩)
    · have eL : lwB T n = segB T n 31 (segE T n 31 0 + 1) := by unfold lwB; rw [if_pos nb, if_pos b, if_neg nb2]
      rw [← eL]
      exact hq u5 (frT_trans f4 f5) (fun e => absurd (eL.symm.trans e) nb2)
    · have eL : lwB T n = if n ≤ segE T n 31 (segE T n 31 0 + 1) then -1 else nI (segE T n 31 (segE T n 31 0 + 1)) := by unfold lwB; rw [if_pos nb, if_pos b, if_pos nb2]
      rw [← eL]
      have hle := (segE_le hn 31 _ (by omega) (by omega) nb2).1
      refine hq u5 (frT_trans f4 f5) (fun _ => ⟨k2, by omega, r1, r4, fun C => ?_⟩)
      rw [r5 C, tS_congr (u := u3) (u1 := u4) (fun m hm => by rw [p2.2 _ (by omega)]) (fun m hm => by rw [p2.2 _ (by omega)]), q5 C]
      unfold lwV
      rw [show ((1 : Int32).toInt64) = 1 from rfl, show ((-1 : Int32).toInt64) = -1 from rfl, show tS j u2 C 0 = 0 from rfl]
      grind
  · have eL : lwB T n = nI (segE T n 31 0) := by unfold lwB; rw [if_pos nb, if_neg b]
    have hle := (segE_le hn 31 0 (by omega) (by omega) nb).1
    rw [← eL]
    exact hq u3 (frT_trans f0 f3) (fun e => absurd (eL.symm.trans e) (nI_ne1 (by omega)))
theorem sumTop_w {j n qt : Nat} {T : Nat → Int32} (hj : j < 4) (hn : n ≤ 60) (hqt : qt < 12) {C : Int32 → Int64} {w : Mm} {p : Nat} (hs : stR j n T w p) (h134 : w.1 134 0 = nI qt) (hC : ∀ l m c, l < 2 → m < 4 → c < 6 → w.2 15 (((l * 4 + m) * 6 + c) * 12 + qt) = C (nI (((l * 4 + m) * 6 + c) * 12))) (hp : p ≤ n) {Q : Int64 → Mm → Prop} (hbad : ¬ segB T n 31 p = -1 → ∀ x w1, frR w w1 → w1.1 133 0 = segB T n 31 p → Q x w1) (hok : segB T n 31 p = -1 → ∀ w1, frR w w1 → stR j n T w1 (segE T n 31 p) → Q (segV T n C 31 p 1) w1) : wX9_sum w Q := by
  unfold wX9_sum
  refine segR_w hj hn hqt 31 p w 0 1 0 hs h134 hC hp (by omega) hbad (fun nb w1 f1 s1 => ?_) (fun r u3 z => ⟨31 + 0, z r (by grind)⟩)
  rw [show (0 : Int64) + segV T n C 31 p 1 = segV T n C 31 p 1 by grind]
  exact hok nb w1 f1 s1
def lawT (v : Mm) (j : Nat) : Nat → Int32 := fun i => v.1 25 (60 * j + i)
def lawN (v : Mm) (j : Nat) : Nat := (v.1 24 j).toNatClampNeg
def Cl (v : Mm) (qt : Nat) (c : Int32) : Int64 := closS v (c.toNatClampNeg / 72) (qt / 4) (qt % 4) (c.toNatClampNeg / 12 % 6)
theorem Cl_at (v : Mm) (qt : Nat) {l m c : Nat} (hl : l < 2) (hm : m < 4) (hc : c < 6) : Cl v qt (nI (((l * 4 + m) * 6 + c) * 12)) = closS v (l * 4 + m) (qt / 4) (qt % 4) c := by
  unfold Cl
  rw [nI_clamp (n := ((l * 4 + m) * 6 + c) * 12) (by omega), show ((l * 4 + m) * 6 + c) * 12 / 72 = l * 4 + m by omega, show ((l * 4 + m) * 6 + c) * 12 / 12 % 6 = c by omega]
theorem law_rel {u v : Mm} (h : Rel u v) {j : Nat} (hj : j < 4) : lawN v j ≤ 60 ∧ v.1 24 j = nI (lawN v j) ∧ u.1 (693 + 64 * j) 0 = nI (lawN v j) ∧ ∀ i, i < lawN v j → u.1 (38 + 4 * j) i = lawT v j i := by
  obtain ⟨h1, h2, h3, h4⟩ := rN_at h.2.2.2.2.2.2.2.2.2.2.2.2.2.1 hj
  exact ⟨h2, h3, h1.trans h3, fun i hi => (h4 i hi).1⟩
theorem readsR_w {u v : Mm} (h : Rel u v) {j qt : Nat} (hj : j < 4) (hqt : qt < 12) {Q : Int64 → Mm → Prop} (hq : ∀ (x : Int64) (w v1 : Mm), Rel u v1 → tV v1 = tV v → rR1 v1 → w.2 = v1.2 → (∀ k, k ≠ 131 → k ≠ 132 → k ≠ 133 → k ≠ 134 → w.1 k = v1.1 k) → w.1 133 0 = lwB (lawT v j) (lawN v j) → (lwB (lawT v j) (lawN v j) = -1 → x = lwV (lawT v j) (lawN v j) (Cl v qt)) → Q x w) : wX9_reads v (nI j) (nI qt) Q := by
  obtain ⟨n60, e24, -, -⟩ := law_rel h hj
  unfold wX9_reads
  refine looks_rel h (fun v1 h1 ht hr u3 e3 u4 e4 u5 e5 u6 e6 => ?_)
  generalize hn : lawN v j = n at hq n60 e24
  generalize hT : lawT v j = T at hq
  have s6 : stR j n T u6 0 := by
    refine ⟨?_, ?_, ?_, fun i hi => ?_, ?_⟩
    · rw [e6, s32_n _ _ _ (by decide), e5, s32_n _ _ _ (by decide), e4, s32_n _ _ _ (by decide), e3, s32_k, upd_s]
    · rw [e6, s32_n _ _ _ (by decide), e5, s32_k, upd_s]; rfl
    · rw [e6, s32_n _ _ _ (by decide), e5, s32_n _ _ _ (by decide), e4, s32_n _ _ _ (by decide), e3, s32_n _ _ _ (by decide), tV_1 ht (k := 24) (by decide), e24]
    · rw [e6, s32_n _ _ _ (by decide), e5, s32_n _ _ _ (by decide), e4, s32_n _ _ _ (by decide), e3, s32_n _ _ _ (by decide), tV_1 ht (k := 25) (by decide), ← hT]; rfl
    · rw [e6, s32_k, upd_s]
  have k2 : u6.2 = v1.2 := by rw [e6, e5, e4, e3]; rfl
  have k1 : ∀ k, k ≠ 131 → k ≠ 132 → k ≠ 133 → k ≠ 134 → u6.1 k = v1.1 k := fun k a b c d => by rw [e6, s32_n _ _ _ c, e5, s32_n _ _ _ b, e4, s32_n _ _ _ d, e3, s32_n _ _ _ a]
  have h134 : u6.1 134 0 = nI qt := by rw [e6, s32_n _ _ _ (by decide), e5, s32_n _ _ _ (by decide), e4, s32_k, upd_s]
  have hC : ∀ l m c, l < 2 → m < 4 → c < 6 → u6.2 15 (((l * 4 + m) * 6 + c) * 12 + qt) = Cl v qt (nI (((l * 4 + m) * 6 + c) * 12)) := fun l m c hl hm hc => by
    rw [k2, (rR_at hr (lp := l * 4 + m) (by omega) hc hqt).2, Cl_at v qt hl hm hc]
    exact tV_f ht (fun x => closS x (l * 4 + m) (qt / 4) (qt % 4) c) (fun _ => rfl)
  have fq : ∀ (x : Int64) (w : Mm), frR u6 w → w.1 133 0 = lwB T n → (lwB T n = -1 → x = lwV T n (Cl v qt)) → Q x w := fun x w f1 f2 f3 => hq x w v1 h1 ht hr (f1.1.trans k2) (fun k a b c d => (f1.2 k b c).trans (k1 k a b c d)) f2 f3
  refine sumTop_w hj n60 hqt s6 h134 hC (by omega) (fun nb x w1 f1 b1 => ?_) (fun nb w1 f1 s1 => ?_)
  · have eL : lwB T n = segB T n 31 0 := by unfold lwB; rw [if_neg nb]
    refine ⟨fun c => absurd (b1.symm.trans c) nb, fun _ => ?_⟩
    unfold wX9_reads_b54
    exact ⟨fun c => absurd (b1.symm.trans c) nb, fun _ => fq 0 w1 f1 (b1.trans eL.symm) (fun e => absurd (eL.symm.trans e) nb)⟩
  · have hle := (segE_le n60 31 0 (by omega) (by omega) nb).1
    refine ⟨fun _ => byteR_w hj n60 (by omega) s1 ⟨fun b => ?_, fun b u10 e10 => ?_⟩, fun c => absurd s1.2.2.2.2 c⟩
    · have hlt := bt_lt b (by decide)
      unfold wX9_reads_b54
      refine ⟨fun _ u1 e1 => ?_, fun c => absurd s1.2.2.2.2 c⟩
      rw [s1.2.1, nI_1] at e1
      have s2 := stR_put s1 (segE T n 31 0 + 1)
      have f2 := frR_trans f1 (frR_132 w1 (nI (segE T n 31 0 + 1)))
      rw [← e1] at s2 f2
      refine sumTop_w hj n60 hqt s2 (by rw [f2.2 134 (by decide) (by decide)]; exact h134) (C := Cl v qt) (fun l m c a1 a2 a3 => by rw [f2.1]; exact hC l m c a1 a2 a3) (by omega) (fun nb2 x w3 f3 b3 => ?_) (fun nb2 w3 f3 s3 => ?_)
      · have eL : lwB T n = segB T n 31 (segE T n 31 0 + 1) := by unfold lwB; rw [if_pos nb, if_pos b, if_neg nb2]
        exact ⟨fun c => absurd (b3.symm.trans c) nb2, fun _ => fq _ w3 (frR_trans f2 f3) (b3.trans eL.symm) (fun e => absurd (eL.symm.trans e) nb2)⟩
      · have eL : lwB T n = if n ≤ segE T n 31 (segE T n 31 0 + 1) then -1 else nI (segE T n 31 (segE T n 31 0 + 1)) := by unfold lwB; rw [if_pos nb, if_pos b, if_pos nb2]
        have hle2 := (segE_le n60 31 _ (by omega) (by omega) nb2).1
        refine ⟨fun _ => ⟨vp_in_nI hj (by omega), ?_⟩, fun c => absurd s3.2.2.2.2 c⟩
        rw [nI_clamp (n := j) (by omega), s3.2.2.1, s3.2.1, nI_leI (by omega) (by omega)]
        refine ⟨fun c => ?_, fun c u4 e4 => ?_⟩
        · rw [if_pos c] at eL
          exact fq _ w3 (frR_trans f2 f3) (s3.2.2.2.2.trans eL.symm) (fun _ => rfl)
        · rw [if_neg c] at eL
          rw [e4]
          exact fq _ _ (frR_trans f2 (frR_trans f3 (frR_133 _ _))) (by rw [s32_k, upd_s, eL]) (fun e => absurd (eL.symm.trans e) (nI_ne1 (by omega)))
    · have eL : lwB T n = nI (segE T n 31 0) := by unfold lwB; rw [if_pos nb, if_neg b]
      rw [s1.2.1] at e10
      have e133 : u10.1 133 0 = nI (segE T n 31 0) := by rw [e10, s32_k, upd_s]
      have f10 := frR_trans f1 (frR_133 w1 (nI (segE T n 31 0)))
      rw [← e10] at f10
      unfold wX9_reads_b54
      rw [e133]
      exact ⟨fun c => absurd c (nI_ne1 (by omega)), fun _ => fq 0 u10 f10 (e133.trans eL.symm) (fun e => absurd (eL.symm.trans e) (nI_ne1 (by omega)))⟩
