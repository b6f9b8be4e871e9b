/-! ===== a row more ===== -/
/-- the codes of a block say the same -/
def sameB (v v2 : Mm) (lp y : Nat) : Prop := ∀ c, c < 6 → (wgtS v2 (576 + (lp * 6 + c) * 3 + y) = wgtS v (576 + (lp * 6 + c) * 3 + y) ∧ saidS v2 (576 + (lp * 6 + c) * 3 + y) = saidS v (576 + (lp * 6 + c) * 3 + y)) ∧ ∀ q, q < 4 → wgtS v2 ((lp * 6 + c) * 12 + 4 * y + q) = wgtS v ((lp * 6 + c) * 12 + 4 * y + q) ∧ saidS v2 ((lp * 6 + c) * 12 + 4 * y + q) = saidS v ((lp * 6 + c) * 12 + 4 * y + q)
theorem bentS_same {v v2 : Mm} {lp y : Nat} (h : sameB v v2 lp y) {c : Nat} (hc : c < 6) (q : Nat) : bentS v2 (lp * 6 + c) y q = bentS v (lp * 6 + c) y q := by
  unfold bentS
  obtain ⟨⟨a1, a2⟩, a3⟩ := h c hc
  rw [a1, a2]
  have e1 : (fun k => if k < 4 then wgtS v2 ((lp * 6 + c) * 12 + 4 * y + k) else 0) = (fun k => if k < 4 then wgtS v ((lp * 6 + c) * 12 + 4 * y + k) else 0) := by
    funext k
    by_cases hk : k < 4
    · rw [if_pos hk, if_pos hk, (a3 k hk).1]
    · rw [if_neg hk, if_neg hk]
  have e2 : (fun k => if k < 4 then saidS v2 ((lp * 6 + c) * 12 + 4 * y + k) else 0) = (fun k => if k < 4 then saidS v ((lp * 6 + c) * 12 + 4 * y + k) else 0) := by
    funext k
    by_cases hk : k < 4
    · rw [if_pos hk, if_pos hk, (a3 k hk).2]
    · rw [if_neg hk, if_neg hk]
  rw [e1, e2]
theorem closS_same {v v2 : Mm} {lp y : Nat} (h : sameB v v2 lp y) (h9 : v2.1 9 = v.1 9) (h118 : v2.1 118 0 = v.1 118 0) (h14 : v2.1 14 = v.1 14) {q c : Nat} (hq : q < 4) : closS v2 lp y q c = closS v lp y q c := by
  have e1 : bentC v2 lp y q = bentC v lp y q := by
    funext k
    unfold bentC
    by_cases hk : k < 6
    · rw [if_pos hk, if_pos hk, bentS_same h hk]
    · rw [if_neg hk, if_neg hk]
  have e2 : costC v2 lp y q = costC v lp y q := by
    funext k
    unfold costC
    by_cases hk : k < 6
    · rw [if_pos hk, if_pos hk, ((h k hk).2 q hq).1, (h k hk).1.1]
    · rw [if_neg hk, if_neg hk]
  have e3 : gapS v2 lp y q = gapS v lp y q := by unfold gapS; rw [h9, e1]
  have e4 : fxC v2 lp = fxC v lp := by unfold fxC; rw [h14]
  unfold closS byS
  rw [h9, h118, e1, e2, e3, e4]
theorem blkOK_same {u u2 v v2 : Mm} {lp y : Nat} (h : sameB v v2 lp y) (h9 : v2.1 9 = v.1 9) (h118 : v2.1 118 0 = v.1 118 0) (h14 : v2.1 14 = v.1 14) (k18 : u2.1 18 = u.1 18) (k19 : u2.1 19 = u.1 19) (k2 : u2.2 = u.2) (hb : blkOK u v lp y) : blkOK u2 v2 lp y := by
  intro c hc
  obtain ⟨⟨b1, b2⟩, b3⟩ := hb c hc
  obtain ⟨⟨a1, a2⟩, a3⟩ := h c hc
  refine ⟨⟨by rw [k18, a2]; exact b1, by rw [k19, a1]; exact b2⟩, fun q hq => ?_⟩
  obtain ⟨c1, c2, c3, c4⟩ := b3 q hq
  refine ⟨by rw [k18, (a3 q hq).2]; exact c1, by rw [k19, (a3 q hq).1]; exact c2, by rw [k2, bentS_same h hc]; exact c3, by rw [k2, closS_same h h9 h118 h14 hq]; exact c4⟩
/-- a row of another code changes nothing -/
theorem bestR_more {RS RC RL RS2 RC2 RL2 : Nat → Int32} {n : Nat} (hn : n < 1000) (h : ∀ k, k < n → RS k = RS2 k ∧ RC k = RC2 k ∧ RL k = RL2 k) {code : Int32} (hc : ¬ RC2 n = code) (src last upTo : Int32) : bestR RS2 RC2 RL2 code src last upTo (n + 1) = bestR RS RC RL code src last upTo n := by
  rw [bestR_congr hn h code src last upTo n (Nat.le_refl n)]
  exact if_neg (fun z => hc z.1.1)
theorem wgtR_more {T RS RC RL RS2 RC2 RL2 : Nat → Int32} {n : Nat} (hn : n < 1000) (h : ∀ k, k < n → RS k = RS2 k ∧ RC k = RC2 k ∧ RL k = RL2 k) {code : Int32} (hc : ¬ RC2 n = code) (last upTo : Int32) : ∀ s, wgtR T RS2 RC2 RL2 (n + 1) code last upTo s = wgtR T RS RC RL n code last upTo s
  | 0 => rfl
  | s + 1 => by unfold wgtR; rw [wgtR_more hn h hc last upTo s, bestR_more hn h hc]
theorem sumR_more {T RS RC RV RL RS2 RC2 RV2 RL2 : Nat → Int32} {n : Nat} (hn : n < 1000) (h : ∀ k, k < n → RS k = RS2 k ∧ RC k = RC2 k ∧ RL k = RL2 k) (hV : ∀ k, k < n → RV k = RV2 k) {code : Int32} (hc : ¬ RC2 n = code) (last upTo : Int32) : ∀ s, sumR T RS2 RC2 RV2 RL2 (n + 1) code last upTo s = sumR T RS RC RV RL n code last upTo s
  | 0 => rfl
  | s + 1 => by
    unfold sumR
    rw [sumR_more hn h hV hc last upTo s, bestR_more hn h hc]
    by_cases c : bestR RS RC RL code (nI s) last upTo n = -1
    · rw [if_pos c, if_pos c]
    · rw [if_neg c, if_neg c]
      rcases bestR_lt RS RC RL code (nI s) last upTo n with z | ⟨k, hk, ek, -⟩
      · exact absurd z c
      · rw [ek, nI_clamp (by omega), hV k hk]
theorem row_rel {u v : Mm} (h : Rel u v) {n s c x r : Nat} (hn : nrow v = n) (hn80 : n < 80) (hs : s < 10) (hc : c < 720) (hx : x ≤ 100000) (hr : r < 10) {u2 v2 : Mm}
    (eu : u2 = s32 (s32 (s32 (s32 (s32 (s32 (s32 (s32 u 17 (lineN c / 6 * 3 + yearN c) 0) 3 n (nI s)) 4 n (nI c)) 5 n (nI x)) 6 n (nI r)) 8 n (u.1 7 c)) 7 c (nI n)) 124 0 (nI (n + 1)))
    (ev : v2 = s32 (s32 (s32 (s32 (s32 (s32 v 2 n (nI s)) 3 n (nI c)) 4 n (nI x)) 5 n (nI r)) 101 0 (nI (n + 1))) 107 0 0) : Rel u2 v2 := by
  subst eu ev
  obtain ⟨hA, hB, hC, hD, hE, hF, hG, hH, hI, hJ, hK, hL, hM, hN, hO, hP, hQ, hR⟩ := h
  have hC : ∀ k, k < nrow v → _ := hC
  have hD1 : ∀ c, c < 720 → u.1 7 c = lastR (v.1 3) (nI c) (nrow v) := hD.1
  have hD2 : ∀ k, k < nrow v → u.1 8 k = lastR (v.1 3) (v.1 3 k) k := hD.2
  rw [hn] at hC hD1 hD2
  have cl : (nI (n + 1)).toNatClampNeg = n + 1 := nI_clamp (by omega)
  have hlast : ∀ (d : Int32) i, i ≤ n → lastR (upd (v.1 3) n (nI c)) d i = lastR (v.1 3) d i := fun d i hi => lastR_congr (fun k hk => by rw [upd_n _ _ (by omega)]) d i hi
  refine ⟨hA, ⟨rfl, ?_, ?_⟩, ?_, ⟨?_, ?_⟩, hE, hF, hG, hH, hI, hJ, hK, hL, hM, hN, hO, hP, ?_, rR_z rfl⟩
  · show (nI (n + 1)).toNatClampNeg ≤ 80
    rw [cl]; omega
  · show nI (n + 1) = nI (nI (n + 1)).toNatClampNeg
    rw [cl]
  · intro k hk
    have hk : k < (nI (n + 1)).toNatClampNeg := hk
    rw [cl] at hk
    show upd (u.1 3) n (nI s) k = upd (v.1 2) n (nI s) k ∧ upd (u.1 4) n (nI c) k = upd (v.1 3) n (nI c) k ∧ upd (u.1 5) n (nI x) k = upd (v.1 4) n (nI x) k ∧ upd (u.1 6) n (nI r) k = upd (v.1 5) n (nI r) k ∧ (∃ s2, s2 < 10 ∧ upd (v.1 2) n (nI s) k = nI s2) ∧ (∃ c2, c2 < 720 ∧ upd (v.1 3) n (nI c) k = nI c2) ∧ (∃ x2, x2 ≤ 100000 ∧ upd (v.1 4) n (nI x) k = nI x2) ∧ (∃ r2, r2 < 10 ∧ upd (v.1 5) n (nI r) k = nI r2)
    by_cases hkn : k = n
    · subst hkn
      simp only [upd_s]
      exact ⟨trivial, trivial, trivial, trivial, ⟨s, hs, rfl⟩, ⟨c, hc, rfl⟩, ⟨x, hx, rfl⟩, ⟨r, hr, rfl⟩⟩
    · simp only [upd_n _ _ hkn]
      exact hC k (by omega)
  · intro d hd
    show upd (u.1 7) c (nI n) d = lastR (upd (v.1 3) n (nI c)) (nI d) (nI (n + 1)).toNatClampNeg
    rw [cl]
    unfold lastR
    rw [upd_s, hlast _ n (Nat.le_refl n)]
    by_cases hdc : d = c
    · subst hdc; rw [upd_s, if_pos rfl]
    · rw [upd_n _ _ hdc, if_neg (fun z => hdc ((nI_eq (by omega) (by omega)).mp z).symm)]
      exact hD1 d hd
  · intro k hk
    have hk : k < (nI (n + 1)).toNatClampNeg := hk
    rw [cl] at hk
    show upd (u.1 8) n (u.1 7 c) k = lastR (upd (v.1 3) n (nI c)) (upd (v.1 3) n (nI c) k) k
    rw [hlast _ k (by omega)]
    by_cases hkn : k = n
    · subst hkn; rw [upd_s, upd_s]; exact hD1 c hc
    · rw [upd_n _ _ hkn, upd_n _ _ hkn]; exact hD2 k (by omega)
  · intro lp y h1 h2 h3
    have h3 : ¬ upd (u.1 17) (lineN c / 6 * 3 + yearN c) 0 (lp * 3 + y) = 0 := h3
    by_cases hq : lp * 3 + y = lineN c / 6 * 3 + yearN c
    · rw [hq, upd_s] at h3; exact absurd rfl h3
    · rw [upd_n _ _ hq] at h3
      have hb := hQ lp y h1 h2 h3
      have hold : ∀ k, k < n → v.1 2 k = upd (v.1 2) n (nI s) k ∧ v.1 3 k = upd (v.1 3) n (nI c) k ∧ v.1 5 k = upd (v.1 5) n (nI r) k := fun k hk => by
        rw [upd_n _ _ (by omega), upd_n _ _ (by omega), upd_n _ _ (by omega)]; exact ⟨rfl, rfl, rfl⟩
      have holdV : ∀ k, k < n → v.1 4 k = upd (v.1 4) n (nI x) k := fun k hk => by rw [upd_n _ _ (by omega)]
      have ew : ∀ d, d < 720 → d ≠ c → wgtS (s32 (s32 (s32 (s32 (s32 (s32 v 2 n (nI s)) 3 n (nI c)) 4 n (nI x)) 5 n (nI r)) 101 0 (nI (n + 1))) 107 0 0) d = wgtS v d := by
        intro d hd hdc
        show wgtR (v.1 1) (upd (v.1 2) n (nI s)) (upd (v.1 3) n (nI c)) (upd (v.1 5) n (nI r)) (nI (n + 1)).toNatClampNeg (nI d) (v.1 106 0) 9 10 = wgtR (v.1 1) (v.1 2) (v.1 3) (v.1 5) (nrow v) (nI d) (v.1 106 0) 9 10
        rw [cl, hn]
        exact wgtR_more (by omega) hold (by rw [upd_s]; exact fun z => hdc ((nI_eq (by omega) (by omega)).mp z).symm) _ _ 10
      have es : ∀ d, d < 720 → d ≠ c → saidS (s32 (s32 (s32 (s32 (s32 (s32 v 2 n (nI s)) 3 n (nI c)) 4 n (nI x)) 5 n (nI r)) 101 0 (nI (n + 1))) 107 0 0) d = saidS v d := by
        intro d hd hdc
        show saidR (v.1 1) (upd (v.1 2) n (nI s)) (upd (v.1 3) n (nI c)) (upd (v.1 4) n (nI x)) (upd (v.1 5) n (nI r)) (nI (n + 1)).toNatClampNeg (nI d) (v.1 106 0) 9 = saidR (v.1 1) (v.1 2) (v.1 3) (v.1 4) (v.1 5) (nrow v) (nI d) (v.1 106 0) 9
        have hne : ¬ upd (v.1 3) n (nI c) n = nI d := by rw [upd_s]; exact fun z => hdc ((nI_eq (by omega) (by omega)).mp z).symm
        rw [cl, hn]
        unfold saidR
        rw [wgtR_more (by omega) hold hne _ _ 10, sumR_more (by omega) hold holdV hne _ _ 10]
      have far : ∀ d, d < 720 → lineN d / 6 = lp → yearN d = y → d ≠ c := fun d _ a b e => by subst e; exact hq (by rw [a, b])
      refine blkOK_same (u := u) (v := v) (fun k hk => ⟨⟨ew _ ?_ (far _ ?_ ?_ ?_), es _ ?_ (far _ ?_ ?_ ?_)⟩, fun q hq => ⟨ew _ ?_ (far _ ?_ ?_ ?_), es _ ?_ (far _ ?_ ?_ ?_)⟩⟩) rfl rfl rfl rfl rfl rfl hb
      all_goals first | omega | (unfold lineN; split <;> omega) | (unfold yearN; split <;> omega)

theorem append_w {u : Mm} {n c : Nat} (hn : n < 80) (hc : c < 720) (e124 : u.1 124 0 = nI n) (s x r : Int32) {Q : Int32 → Mm → Prop} (h : Q (nI n) (s32 (s32 (s32 (s32 (s32 (s32 (s32 u 3 n s) 4 n (nI c)) 5 n x) 6 n r) 8 n (u.1 7 c)) 7 c (nI n)) 124 0 (nI (n + 1)))) : wX3_append u s (nI c) x r Q := by
  unfold wX3_append
  intro k ek
  rw [e124] at ek
  subst ek
  rw [nI_clamp (n := n) (by omega), nI_clamp (n := c) (by omega)]
  refine ⟨vp_in_nI hn (by omega), fun u2 e2 => ⟨vp_in_nI hn (by omega), fun u3 e3 => ⟨vp_in_nI hn (by omega), fun u4 e4 => ⟨vp_in_nI hn (by omega), fun u5 e5 => ⟨vp_in_nI hc (by omega), vp_in_nI hn (by omega), fun u6 e6 => ⟨vp_in_nI hc (by omega), fun u7 e7 u8 e8 => ?_⟩⟩⟩⟩⟩⟩
  have q7 : u5.1 7 c = u.1 7 c := by rw [e5, e4, e3, e2]; rfl
  have q124 : u7.1 124 0 = nI n := by rw [e7, e6, e5, e4, e3, e2]; exact e124
  rw [q7] at e6
  rw [q124, nI_1] at e8
  subst e2 e3 e4 e5 e6 e7 e8
  exact h
theorem rowMore_w {v : Mm} {n : Nat} (hn : n < 80) (e101 : v.1 101 0 = nI n) {a1 a2 a3 a4 : Int32} (p1 : 0 ≤ a1.toInt ∧ a1.toInt < 10) (p2 : 0 ≤ a2.toInt ∧ a2.toInt < 720) (p3 : 0 ≤ a3.toInt ∧ a3.toInt ≤ 100000) (p4 : 0 ≤ a4.toInt ∧ a4.toInt < 10) {Q : Int32 → Mm → Prop} (h : Q (nI n) (s32 (s32 (s32 (s32 (s32 (s32 v 2 n a1) 3 n a2) 4 n a3) 5 n a4) 101 0 (nI (n + 1))) 107 0 0)) : wX9_rowMore v a1 a2 a3 a4 Q := by
  unfold wX9_rowMore
  refine in_b 0 9 (fun z => absurd p1 (by omega)) (fun _ => isCode_b (fun z => absurd p2 z) (fun _ => in_b 0 100000 (fun z => absurd p3 z) (fun _ => in_b 0 9 (fun z => absurd p4 (by omega)) (fun _ => ?_))))
  rw [e101, nI_clamp (n := n) (by omega)]
  refine ⟨fun c => absurd ((nI_eq (a := n) (b := 80) (by omega) (by omega)).mp c) (by omega), fun _ => ⟨vp_in_nI hn (by omega), fun u5 e5 => ?_⟩⟩
  have q5 : u5.1 101 0 = nI n := by rw [e5]; exact e101
  rw [q5, nI_clamp (n := n) (by omega)]
  refine ⟨vp_in_nI hn (by omega), fun u6 e6 => ?_⟩
  have q6 : u6.1 101 0 = nI n := by rw [e6]; exact q5
  rw [q6, nI_clamp (n := n) (by omega)]
  refine ⟨vp_in_nI hn (by omega), fun u7 e7 => ?_⟩
  have q7 : u7.1 101 0 = nI n := by rw [e7]; exact q6
  rw [q7, nI_clamp (n := n) (by omega)]
  refine ⟨vp_in_nI hn (by omega), fun u8 e8 u9 e9 u10 e10 => ?_⟩
  have q8 : u8.1 101 0 = nI n := by rw [e8]; exact q7
  rw [q8, nI_1] at e9
  have q10 : u10.1 101 0 = nI (n + 1) := by rw [e10, e9]; rfl
  rw [q10, nI_pred]
  subst e5 e6 e7 e8 e9 e10
  exact h
/-- row, on both sides: it is BAD or FULL and nothing changes, or it is the next number -/
theorem row_CR {u v : Mm} (h : Rel u v) (a1 a2 a3 a4 : Int32) : ∃ (r : Int32) (u1 v1 : Mm), Rel u1 v1 ∧ (r < 0 ∨ ¬ r < 0) ∧ (∀ Q : Int32 → Mm → Prop, Q r u1 → wX8_row u a1 a2 a3 a4 Q) ∧ (∀ Q : Int32 → Mm → Prop, Q r v1 → wX9_rowMore v a1 a2 a3 a4 Q) := by
  obtain ⟨n80, e101, e124⟩ := rel_n h
  by_cases p1 : 0 ≤ a1.toInt ∧ a1.toInt < 10
  case neg =>
    refine ⟨-2, u, v, h, Or.inl (by decide), fun Q q => ?_, fun Q q => ?_⟩
    · unfold wX8_row; exact below_b 10 (fun _ => q) (fun z => absurd z p1)
    · unfold wX9_rowMore; exact in_b 0 9 (fun _ => q) (fun z => absurd z (by omega))
  by_cases p2 : 0 ≤ a2.toInt ∧ a2.toInt < 720
  case neg =>
    refine ⟨-2, u, v, h, Or.inl (by decide), fun Q q => ?_, fun Q q => ?_⟩
    · unfold wX8_row; exact below_b 10 (fun z => absurd p1 z) (fun _ => below_b 720 (fun _ => q) (fun z => absurd z p2))
    · unfold wX9_rowMore; exact in_b 0 9 (fun z => absurd p1 (by omega)) (fun _ => isCode_b (fun _ => q) (fun z => absurd z p2))
  by_cases p3 : 0 ≤ a3.toInt ∧ a3.toInt ≤ 100000
  case neg =>
    refine ⟨-2, u, v, h, Or.inl (by decide), fun Q q => ?_, fun Q q => ?_⟩
    · unfold wX8_row; exact below_b 10 (fun z => absurd p1 z) (fun _ => below_b 720 (fun z => absurd p2 z) (fun _ => within_b 0 100000 (fun _ => q) (fun z => absurd z p3)))
    · unfold wX9_rowMore; exact in_b 0 9 (fun z => absurd p1 (by omega)) (fun _ => isCode_b (fun z => absurd p2 z) (fun _ => in_b 0 100000 (fun _ => q) (fun z => absurd z p3)))
  by_cases p4 : 0 ≤ a4.toInt ∧ a4.toInt < 10
  case neg =>
    refine ⟨-2, u, v, h, Or.inl (by decide), fun Q q => ?_, fun Q q => ?_⟩
    · unfold wX8_row; exact below_b 10 (fun z => absurd p1 z) (fun _ => below_b 720 (fun z => absurd p2 z) (fun _ => within_b 0 100000 (fun z => absurd p3 z) (fun _ => below_b 10 (fun _ => q) (fun z => absurd z p4))))
    · unfold wX9_rowMore; exact in_b 0 9 (fun z => absurd p1 (by omega)) (fun _ => isCode_b (fun z => absurd p2 z) (fun _ => in_b 0 100000 (fun z => absurd p3 z) (fun _ => in_b 0 9 (fun _ => q) (fun z => absurd z (by omega)))))
  obtain ⟨s, hs, rfl⟩ := ix_of 10 p1
  obtain ⟨c, hc, rfl⟩ := ix_of 720 p2
  obtain ⟨x, hx, rfl⟩ := ix_of 100001 (a := a3) (by omega)
  obtain ⟨r, hr, rfl⟩ := ix_of 10 p4
  obtain ⟨n, hn⟩ : ∃ n, nrow v = n := ⟨_, rfl⟩
  rw [hn] at n80 e101 e124
  by_cases hfull : n < 80
  · refine ⟨nI n, _, _, row_rel h hn hfull hs hc (by omega) hr rfl rfl, Or.inr (nI_pos (by omega)), fun Q q => ?_, fun Q q => rowMore_w hfull e101 p1 p2 p3 p4 q⟩
    unfold wX8_row
    refine below_b 10 (fun z => absurd p1 z) (fun _ => below_b 720 (fun z => absurd p2 z) (fun _ => within_b 0 100000 (fun z => absurd p3 z) (fun _ => below_b 10 (fun z => absurd p4 z) (fun _ => ⟨fun _ => ?_, fun d => absurd ?_ d⟩))))
    · have hl := lineN_lt hc
      have hy : yearN c < 3 := by unfold yearN; split <;> omega
      refine landOf_w hc (productOf_w hc (yearOf_w hc (forget_w (by omega) (by omega) hy ?_)))
      have e : (lineN c / 24 * 4 + lineN c / 6 % 4) * 3 + yearN c = lineN c / 6 * 3 + yearN c := by omega
      rw [e]
      exact append_w (u := s32 u 17 (lineN c / 6 * 3 + yearN c) 0) hfull hc e124 _ _ _ q
    · rw [e124, show (80 : Int32) = nI 80 from rfl, nI_ltI (by omega) (by omega)]; exact hfull
  · obtain rfl : n = 80 := by omega
    refine ⟨-4, u, v, h, Or.inl (by decide), fun Q q => ?_, fun Q q => ?_⟩
    · unfold wX8_row
      refine below_b 10 (fun z => absurd p1 z) (fun _ => below_b 720 (fun z => absurd p2 z) (fun _ => within_b 0 100000 (fun z => absurd p3 z) (fun _ => below_b 10 (fun z => absurd p4 z) (fun _ => ⟨fun d => absurd d ?_, fun _ => q⟩))))
      rw [e124]; decide
    · unfold wX9_rowMore
      refine in_b 0 9 (fun z => absurd p1 (by omega)) (fun _ => isCode_b (fun z => absurd p2 z) (fun _ => in_b 0 100000 (fun z => absurd p3 z) (fun _ => in_b 0 9 (fun z => absurd p4 (by omega)) (fun _ => ⟨fun _ => q, fun d => absurd e101 d⟩))))
theorem st_row {u v : Mm} (h : Rel u v) (a1 a2 a3 a4 : Int32) : wX8_row u a1 a2 a3 a4 (fun (r : Int32) (u1 : Mm) => wX9_row v a1 a2 a3 a4 (fun (r2 : Int32) (v1 : Mm) => r = r2 ∧ Rel u1 v1)) := by
  obtain ⟨r, u1, v1, h1, -, hC, hR⟩ := row_CR h a1 a2 a3 a4
  refine hC _ ?_
  unfold wX9_row
  exact hR _ ⟨rfl, h1⟩
