/-! ===== the class's rows: the list of a code, the best of each source ===== -/
def bestC (RS RC RL : Nat → Int32) (code src last upTo : Int32) (lo n : Nat) (x : Int32) : Prop :=
  (x = -1 ∧ ∀ k, lo ≤ k → k < n → ¬ isRow RS RC RL code src last upTo k) ∨ (∃ k0, lo ≤ k0 ∧ k0 < n ∧ x = nI k0 ∧ isRow RS RC RL code src last upTo k0 ∧ ∀ k, lo ≤ k → k < n → isRow RS RC RL code src last upTo k → (RL k).toInt < (RL k0).toInt ∨ ((RL k).toInt = (RL k0).toInt ∧ k ≤ k0))
theorem bestC_uniq {RS RC RL : Nat → Int32} {code src last upTo : Int32} {lo n : Nat} {x y : Int32} (hx : bestC RS RC RL code src last upTo lo n x) (hy : bestC RS RC RL code src last upTo lo n y) : x = y := by
  rcases hx with ⟨a1, a2⟩ | ⟨k, a1, a2, a3, a4, a5⟩
  · rcases hy with ⟨b1, b2⟩ | ⟨m, b1, b2, b3, b4, b5⟩
    · rw [a1, b1]
    · exact absurd b4 (a2 m b1 b2)
  · rcases hy with ⟨b1, b2⟩ | ⟨m, b1, b2, b3, b4, b5⟩
    · exact absurd a4 (b2 k a1 a2)
    · have h1 := a5 m b1 b2 b4
      have h2 := b5 k a1 a2 a4
      have : k = m := by omega
      rw [a3, b3, this]
theorem bestR_C (RS RC RL : Nat → Int32) (code src last upTo : Int32) : ∀ n, n < 1000 → bestC RS RC RL code src last upTo 0 n (bestR RS RC RL code src last upTo n)
  | 0, _ => Or.inl ⟨rfl, fun k _ h => absurd h (by omega)⟩
  | n + 1, hn => by
    have ih := bestR_C RS RC RL code src last upTo n (by omega)
    unfold bestR
    generalize bestR RS RC RL code src last upTo n = S at ih
    by_cases c : isRow RS RC RL code src last upTo n ∧ (S = -1 ∨ RL S.toNatClampNeg ≤ RL n)
    · rw [if_pos c]
      refine Or.inr ⟨n, by omega, by omega, rfl, c.1, fun k _ hk hr => ?_⟩
      by_cases hkn : k = n
      · subst hkn; exact Or.inr ⟨rfl, Nat.le_refl _⟩
      · rcases ih with ⟨a1, a2⟩ | ⟨k0, a1, a2, a3, a4, a5⟩
        · exact absurd hr (a2 k (by omega) (by omega))
        · have h1 := a5 k (by omega) (by omega) hr
          have h2 : RL k0 ≤ RL n := by
            rcases c.2 with z | z
            · rw [a3] at z; exact absurd z (nI_ne1 (by omega))
            · rw [a3, nI_clamp (by omega)] at z; exact z
          rw [Int32.le_iff_toInt_le] at h2
          omega
    · rw [if_neg c]
      rcases ih with ⟨a1, a2⟩ | ⟨k0, a1, a2, a3, a4, a5⟩
      · refine Or.inl ⟨a1, fun k _ hk hr => ?_⟩
        by_cases hkn : k = n
        · subst hkn; exact c ⟨hr, Or.inl a1⟩
        · exact a2 k (by omega) (by omega) hr
      · refine Or.inr ⟨k0, by omega, by omega, a3, a4, fun k _ hk hr => ?_⟩
        by_cases hkn : k = n
        · subst hkn
          have h2 : ¬ RL k0 ≤ RL k := fun z => c ⟨hr, Or.inr (by rw [a3, nI_clamp (by omega)]; exact z)⟩
          rw [Int32.le_iff_toInt_le] at h2
          omega
        · exact a5 k (by omega) (by omega) hr
theorem bestC_ext {RS RC RL : Nat → Int32} {code src last upTo : Int32} {i m n : Nat} {x : Int32} (h : bestC RS RC RL code src last upTo m n x) (hno : ∀ k, i ≤ k → k < m → ¬ isRow RS RC RL code src last upTo k) (him : i ≤ m) : bestC RS RC RL code src last upTo i n x := by
  rcases h with ⟨a1, a2⟩ | ⟨k0, a1, a2, a3, a4, a5⟩
  · refine Or.inl ⟨a1, fun k h1 h2 hr => ?_⟩
    by_cases hk : k < m
    · exact hno k h1 hk hr
    · exact a2 k (by omega) h2 hr
  · refine Or.inr ⟨k0, by omega, a2, a3, a4, fun k h1 h2 hr => ?_⟩
    by_cases hk : k < m
    · exact absurd hr (hno k h1 hk)
    · exact a5 k (by omega) h2 hr
theorem lastR_spec (RC : Nat → Int32) (c : Int32) : ∀ m, m < 1000 → (lastR RC c m = -1 ∧ ∀ k, k < m → ¬ RC k = c) ∨ ∃ i, i < m ∧ lastR RC c m = nI i ∧ RC i = c ∧ ∀ k, i < k → k < m → ¬ RC k = c
  | 0, _ => Or.inl ⟨rfl, fun k h => absurd h (by omega)⟩
  | m + 1, hm => by
    unfold lastR
    by_cases e : RC m = c
    · rw [if_pos e]; exact Or.inr ⟨m, by omega, rfl, e, fun k h1 h2 => absurd h1 (by omega)⟩
    · rw [if_neg e]
      rcases lastR_spec RC c m (by omega) with ⟨a, b⟩ | ⟨i, a1, a2, a3, a4⟩
      · refine Or.inl ⟨a, fun k hk => ?_⟩
        by_cases hkm : k = m
        · rw [hkm]; exact e
        · exact b k (by omega)
      · refine Or.inr ⟨i, by omega, a2, a3, fun k h1 h2 => ?_⟩
        by_cases hkm : k = m
        · rw [hkm]; exact e
        · exact a4 k h1 (by omega)
theorem pickL_w {u : Mm} {n : Nat} (hn80 : n ≤ 80) (c : Nat) (last upTo : Int32) (hold : ∀ k, k < n → u.1 8 k = lastR (u.1 4) (u.1 4 k) k) (hRS : ∀ k, k < n → ∃ s, s < 10 ∧ u.1 3 k = nI s) {Q : Mm → Prop} (hq : ∀ P : Nat → Int32, (∀ s, s < 10 → P s = bestR (u.1 3) (u.1 4) (u.1 6) (nI c) (nI s) last upTo n) → Q (r32 u 9 P)) :
    ∀ (f m cnt : Nat) (P : Nat → Int32), m < f → m ≤ n → cnt + m ≤ 80 → (∀ s, s < 10 → bestC (u.1 3) (u.1 4) (u.1 6) (nI c) (nI s) last upTo m n (P s)) → wX3_pick_b19 Q f (r32 u 9 P) last upTo (lastR (u.1 4) (nI c) m) (nI cnt) := by
  have fin : ∀ P : Nat → Int32, (∀ s, s < 10 → bestC (u.1 3) (u.1 4) (u.1 6) (nI c) (nI s) last upTo 0 n (P s)) → Q (r32 u 9 P) := fun P h => hq P (fun s hs => bestC_uniq (h s hs) (bestR_C _ _ _ _ _ _ _ n (by omega)))
  intro f
  induction f with
  | zero => intro m cnt P h; exact absurd h (by omega)
  | succ f ih =>
    intro m cnt P hmf hmn hcnt hb
    unfold wX3_pick_b19
    refine ⟨fun d => fin P ?_, fun d => ⟨fun e => fin P ?_, fun e => ?_⟩⟩
    · have : 80 ≤ cnt := (nI_leI (a := 80) (b := cnt) (by omega) (by omega)).mp d
      obtain rfl : m = 0 := by omega
      exact hb
    · rcases lastR_spec (u.1 4) (nI c) m (by omega) with ⟨-, a2⟩ | ⟨i, a1, a2, -⟩
      · exact fun s hs => bestC_ext (hb s hs) (fun k _ hk hr => a2 k hk hr.1) (Nat.zero_le m)
      · rw [a2] at e; exact absurd e (nI_ne1 (by omega))
    · rcases lastR_spec (u.1 4) (nI c) m (by omega) with ⟨a1, -⟩ | ⟨i, hi, ei, hci, hno⟩
      · exact absurd a1 e
      rw [ei, nI_clamp (n := i) (by omega)]
      obtain ⟨s0, hs0, es0⟩ := hRS i (by omega)
      refine ⟨vp_in_nI (by omega) (by omega), fun x6 e6 => ⟨vp_in_nI (by omega) (by omega), fun x7 e7 => ?_⟩⟩
      have e6 : x6 = nI s0 := e6.trans es0
      have e7 : x7 = u.1 6 i := e7
      subst e6 e7
      -- going on with a new P
      have go : ∀ P2 : Nat → Int32, (∀ s, s < 10 → bestC (u.1 3) (u.1 4) (u.1 6) (nI c) (nI s) last upTo i n (P2 s)) → wX3_pick_b117 (fun (u : Mm) (x2 : Int32) (x3 : Int32) (x4 : Int32) (x5 : Int32) => wX3_pick_b19 Q f u x2 x3 x4 x5) Q (r32 u 9 P2) last upTo (nI i) (nI cnt) := by
        intro P2 h2
        unfold wX3_pick_b117
        rw [nI_clamp (n := i) (by omega)]
        refine ⟨vp_in_nI (by omega) (by omega), fun x ex y ey => ?_⟩
        have ex : x = u.1 8 i := ex
        rw [ex, ey, nI_1, hold i (by omega), hci]
        exact ih i (cnt + 1) P2 (by omega) (by omega) (by omega) h2
      have isr : ∀ s, s < 10 → isRow (u.1 3) (u.1 4) (u.1 6) (nI c) (nI s) last upTo i → s = s0 := by
        intro s hs hr
        have := hr.2.1
        rw [es0] at this
        exact ((nI_eq (by omega) (by omega)).mp this).symm
      have gap : ∀ s k, i < k → k < m → ¬ isRow (u.1 3) (u.1 4) (u.1 6) (nI c) (nI s) last upTo k := fun s k h1 h2 hr => hno k h1 h2 hr.1
      have k0 : ¬ isRow (u.1 3) (u.1 4) (u.1 6) (nI c) (nI s0) last upTo i → wX3_pick_b73 (fun (u : Mm) (x2 : Int32) (x3 : Int32) (x4 : Int32) (x5 : Int32) => wX3_pick_b19 Q f u x2 x3 x4 x5) Q (r32 u 9 P) last upTo (nI i) (nI cnt) (nI s0) (u.1 6 i) (0 : Int32) := by
        intro hr
        unfold wX3_pick_b73
        refine br0 (go P (fun s hs => bestC_ext (hb s hs) (fun k h1 h2 hk => ?_) (by omega)))
        by_cases hki : k = i
        · subst hki
          obtain rfl := isr s hs hk
          exact hr hk
        · exact gap s k (by omega) h2 hk
      have k1 : isRow (u.1 3) (u.1 4) (u.1 6) (nI c) (nI s0) last upTo i → wX3_pick_b73 (fun (u : Mm) (x2 : Int32) (x3 : Int32) (x4 : Int32) (x5 : Int32) => wX3_pick_b19 Q f u x2 x3 x4 x5) Q (r32 u 9 P) last upTo (nI i) (nI cnt) (nI s0) (u.1 6 i) (1 : Int32) := by
        intro hr
        have put : (∀ k, m ≤ k → k < n → isRow (u.1 3) (u.1 4) (u.1 6) (nI c) (nI s0) last upTo k → (u.1 6 k).toInt < (u.1 6 i).toInt) → wX3_pick_b108 (fun (u : Mm) (x2 : Int32) (x3 : Int32) (x4 : Int32) (x5 : Int32) => wX3_pick_b117 (fun (u : Mm) (x2 : Int32) (x3 : Int32) (x4 : Int32) (x5 : Int32) => wX3_pick_b19 Q f u x2 x3 x4 x5) Q u x2 x3 x4 x5) Q (r32 u 9 P) last upTo (nI i) (nI cnt) (nI s0) := by
          intro hlt
          unfold wX3_pick_b108
          rw [nI_clamp (n := s0) (by omega)]
          refine ⟨vp_in_nI hs0 (by omega), fun u1 e1 => ?_⟩
          rw [e1, s32_r32]
          refine go _ (fun s hs => ?_)
          by_cases hss : s = s0
          · subst hss
            rw [upd_s]
            refine Or.inr ⟨i, Nat.le_refl i, by omega, rfl, hr, fun k h1 h2 hk => ?_⟩
            by_cases hki : k = i
            · subst hki; exact Or.inr ⟨rfl, Nat.le_refl _⟩
            · by_cases hkm : k < m
              · exact absurd hk (gap s k (by omega) hkm)
              · exact Or.inl (hlt k (by omega) h2 hk)
          · rw [upd_n _ _ hss]
            refine bestC_ext (hb s hs) (fun k h1 h2 hk => ?_) (by omega)
            by_cases hki : k = i
            · subst hki; exact hss (isr s hs hk)
            · exact gap s k (by omega) h2 hk
        unfold wX3_pick_b73
        rw [nI_clamp (n := s0) (by omega)]
        have eP : (r32 u 9 P).1 9 s0 = P s0 := rfl
        have eL : (r32 u 9 P).1 6 = u.1 6 := rfl
        rw [eP, eL]
        refine br1 ⟨vp_in_nI hs0 (by omega), fun d => put (fun k h1 h2 hk => ?_), fun d => ?_⟩
        · rcases hb s0 hs0 with ⟨-, b2⟩ | ⟨k1, b1, b2, b3, -⟩
          · exact absurd hk (b2 k h1 h2)
          · rw [b3] at d; exact absurd d (nI_ne1 (by omega))
        · rcases hb s0 hs0 with ⟨b1, -⟩ | ⟨k1, b1, b2, b3, b4, b5⟩
          · exact absurd b1 d
          rw [b3, nI_clamp (n := k1) (by omega)]
          refine ⟨vp_in_nI hs0 (by omega), vp_in_nI (by omega) (by omega), fun g => go P (fun s hs => ?_), fun g => put (fun k h1 h2 hk => ?_)⟩
          · by_cases hss : s = s0
            · subst hss
              refine Or.inr ⟨k1, by omega, b2, b3, b4, fun k h1 h2 hk => ?_⟩
              by_cases hki : k = i
              · subst hki
                rw [Int32.le_iff_toInt_le] at g
                omega
              · by_cases hkm : k < m
                · exact absurd hk (gap s k (by omega) hkm)
                · exact b5 k (by omega) h2 hk
            · refine bestC_ext (hb s hs) (fun k h1 h2 hk => ?_) (by omega)
              by_cases hki : k = i
              · subst hki; exact hss (isr s hs hk)
              · exact gap s k (by omega) h2 hk
          · have := b5 k h1 h2 hk
            rw [Int32.le_iff_toInt_le] at g
            omega
      refine ⟨fun d => k1 ⟨hci, es0, Or.inl d⟩, fun d => ⟨fun g => ⟨fun z => k0 (fun y => y.2.2.elim d (fun w => absurd z (Int32.not_lt.mpr w.2))), fun z => k1 ⟨hci, es0, Or.inr ⟨g, Int32.not_lt.mp z⟩⟩⟩, fun g => k0 (fun y => y.2.2.elim d (fun w => g w.1))⟩⟩
theorem pick_w {u : Mm} {n : Nat} (hn80 : n ≤ 80) {c : Nat} (hc : c < 720) (last upTo : Int32) (hlat : u.1 7 c = lastR (u.1 4) (nI c) n) (hold : ∀ k, k < n → u.1 8 k = lastR (u.1 4) (u.1 4 k) k) (hRS : ∀ k, k < n → ∃ s, s < 10 ∧ u.1 3 k = nI s) {Q : Mm → Prop} (hq : ∀ P : Nat → Int32, (∀ s, s < 10 → P s = bestR (u.1 3) (u.1 4) (u.1 6) (nI c) (nI s) last upTo n) → Q (r32 u 9 P)) : wX3_pick u (nI c) last upTo Q := by
  unfold wX3_pick
  refine fill_wp (by decide) u (-1) ?_
  rw [nI_clamp (n := c) (by omega)]
  refine ⟨vp_in_nI hc (by omega), fun x ex => ?_⟩
  have ex : x = u.1 7 c := ex
  rw [ex, hlat]
  refine ⟨n + 1, pickL_w hn80 c last upTo hold hRS hq (n + 1) n 0 _ (by omega) (Nat.le_refl n) (by omega) (fun s hs => ?_)⟩
  rw [if_pos hs]
  exact Or.inl ⟨rfl, fun k h1 h2 => absurd h2 (by omega)⟩
