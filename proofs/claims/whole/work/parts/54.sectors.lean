theorem st_stock {u v : Mm} (h : Rel u v) (a1 a2 a3 : Int32) : wX8_stock u a1 a2 a3 (fun (r : Int32) (u1 : Mm) => wX9_stock v a1 a2 a3 (fun (r2 : Int32) (v1 : Mm) => r = r2 ∧ Rel u1 v1)) := by
  unfold wX8_stock
  refine isAccount_b (fun n => ?_) (fun p => within_b (-1000000) 1000000 (fun n => ?_) (fun w => ?_))
  · unfold wX9_stock; exact isSector_b (fun _ => ⟨rfl, h⟩) (fun z => isQuarter_b (fun _ => ⟨rfl, h⟩) (fun y => absurd ⟨z, y⟩ n))
  · unfold wX9_stock; exact isSector_b (fun z => absurd p.1 z) (fun _ => isQuarter_b (fun z => absurd p.2 z) (fun _ => in_b (-1000000) 1000000 (fun _ => ⟨rfl, h⟩) (fun z => absurd z n)))
  · obtain ⟨i, hi, rfl⟩ := ix_of 6 p.1
    obtain ⟨j, hj, rfl⟩ := ix_of 12 p.2
    have hk : i * 12 + j < 72 := by omega
    unfold wX9_stock
    rw [pl12_C, pl12_R]
    generalize hke : i * 12 + j = k at hk
    intro x ex
    subst ex
    rw [nI_clamp (by omega)]
    refine ⟨vp_in_nI hk (by omega), fun u4 e4 => ⟨vp_in_nI hk (by omega), fun u5 e5 => ?_⟩⟩
    refine isSector_b (fun z => absurd p.1 z) (fun _ => isQuarter_b (fun z => absurd p.2 z) (fun _ => in_b (-1000000) 1000000 (fun z => absurd w z) (fun _ => ⟨vp_in_nI hk (by omega), fun v4 f4 => ⟨vp_in_nI hk (by omega), fun v5 f5 => ?_⟩⟩)))
    rw [nar1] at e5 f5
    subst e4 e5 f4 f5
    obtain ⟨hA, hB, hC, hD, hE, hF, hG, hH, hI, hJ, hK, hL, hM, hN, hO, hP, hQ, hR⟩ := h
    refine ⟨rfl, hA, hB, hC, hD, hE, hF, hG, hH, hI, hJ, hK, hL, ?_, hN, hO, hP, hQ, hR⟩
    intro m hm
    show upd (u.1 34) k a3 m = upd (v.1 23) k a3 m ∧ upd (u.1 35) k 1 m = upd (v.1 22) k 1 m ∧ (upd (v.1 22) k 1 m = 0 ∨ upd (v.1 22) k 1 m = 1)
    by_cases hmk : m = k
    · subst hmk; simp only [upd_s]; exact ⟨trivial, trivial, Or.inr trivial⟩
    · simp only [upd_n _ _ hmk]; exact hM m hm
theorem st_unstock {u v : Mm} (h : Rel u v) (a1 a2 : Int32) : wX8_unstock u a1 a2 (fun (r : Int32) (u1 : Mm) => wX9_unstock v a1 a2 (fun (r2 : Int32) (v1 : Mm) => r = r2 ∧ Rel u1 v1)) := by
  unfold wX8_unstock
  refine isAccount_b (fun n => ?_) (fun p => ?_)
  · unfold wX9_unstock; exact isSector_b (fun _ => ⟨rfl, h⟩) (fun z => isQuarter_b (fun _ => ⟨rfl, h⟩) (fun y => absurd ⟨z, y⟩ n))
  · obtain ⟨i, hi, rfl⟩ := ix_of 6 p.1
    obtain ⟨j, hj, rfl⟩ := ix_of 12 p.2
    have hk : i * 12 + j < 72 := by omega
    unfold wX9_unstock wX9_unstock_b36 wX8_unstock_b35
    simp only [pl12_C, pl12_R]
    generalize hke : i * 12 + j = k at hk
    intro x ex
    subst ex
    rw [nI_clamp (by omega)]
    obtain ⟨hA, hB, hC, hD, hE, hF, hG, hH, hI, hJ, hK, hL, hM, hN, hO, hP, hQ, hR⟩ := h
    have key : ∀ (u1 v1 : Mm), u1 = s32 u 35 k (vp_nar .boolean 0) → v1 = s32 v 22 k (vp_nar .boolean 0) → Rel u1 v1 := by
      intro u1 v1 e f
      rw [nar0] at e f
      subst e f
      refine ⟨hA, hB, hC, hD, hE, hF, hG, hH, hI, hJ, hK, hL, ?_, hN, hO, hP, hQ, hR⟩
      intro m hm
      show u.1 34 m = v.1 23 m ∧ upd (u.1 35) k 0 m = upd (v.1 22) k 0 m ∧ (upd (v.1 22) k 0 m = 0 ∨ upd (v.1 22) k 0 m = 1)
      by_cases hmk : m = k
      · subst hmk; simp only [upd_s]; exact ⟨(hM m hm).1, trivial, Or.inl trivial⟩
      · simp only [upd_n _ _ hmk]; exact hM m hm
    refine ⟨vp_in_nI hk (by omega), fun c => ⟨vp_in_nI hk (by omega), fun u1 e => ?_⟩, fun c => ⟨vp_in_nI hk (by omega), fun u1 e => ?_⟩⟩
    · rw [(hM k hk).2.1] at c
      exact isSector_b (fun z => absurd p.1 z) (fun _ => isQuarter_b (fun z => absurd p.2 z) (fun _ => ⟨vp_in_nI hk (by omega), fun _ => ⟨vp_in_nI hk (by omega), fun v1 f => ⟨trivial, key u1 v1 e f⟩⟩, fun d => absurd c d⟩))
    · rw [(hM k hk).2.1] at c
      exact isSector_b (fun z => absurd p.1 z) (fun _ => isQuarter_b (fun z => absurd p.2 z) (fun _ => ⟨vp_in_nI hk (by omega), fun d => absurd d c, fun _ => ⟨vp_in_nI hk (by omega), fun v1 f => ⟨trivial, key u1 v1 e f⟩⟩⟩))
/-! nets -/
def netF (f : Nat → Int64) (s q : Nat) : Nat → Int64
  | 0 => 0
  | o + 1 => netF f s q o + (f ((o * 6 + s) * 12 + q) - f ((s * 6 + o) * 12 + q))
theorem netF_congr {f g : Nat → Int64} (h : ∀ k, k < 432 → f k = g k) {s q : Nat} (hs : s < 6) (hq : q < 12) : ∀ o, o ≤ 6 → netF f s q o = netF g s q o
  | 0, _ => rfl
  | o + 1, ho => by
    unfold netF
    rw [netF_congr h hs hq o (by omega), h _ (by omega), h _ (by omega)]
theorem netC_w {u : Mm} {s q : Nat} (hs : s < 6) (hq : q < 12) {Q : Int64 → Prop} (h : Q (netF (u.2 33) s q 6)) : wX4_netOf u (nI s) (nI q) Q := by
  unfold wX4_netOf
  refine loopF (fun n i => wX4_netOf_b5 u Q n (nI s) (nI q) (netF (u.2 33) s q i) (nI i)) 6 (fun n => ?_) (fun n i hi ih => ?_) 0 (by omega)
  · unfold wX4_netOf_b5
    exact ⟨fun _ => h, fun c => absurd ((nI_leI (a := 6) (b := 6) (by omega) (by omega)).mpr (Nat.le_refl 6)) c⟩
  · unfold wX4_netOf_b5 wX4_placeOf
    simp only [fl_C]
    rw [nI_clamp (by omega), nI_clamp (by omega)]
    refine ⟨fun c => absurd ((nI_leI (a := 6) (b := i) (by omega) (by omega)).mp c) (by omega), fun _ => ⟨vp_in_nI (by omega) (by omega), vp_in_nI (by omega) (by omega), fun x ex y ey => ?_⟩⟩
    rw [ex, ey, nI_1]
    exact ih
theorem netR_w {u : Mm} {s q : Nat} (hs : s < 6) (hq : q < 12) {Q : Int64 → Prop} (h : Q (netF (u.2 21) s q 6)) : wX9_netOf u (nI s) (nI q) Q := by
  unfold wX9_netOf
  refine loopF (fun n i => wX9_netOf_b5 u Q n (nI s) (nI q) (netF (u.2 21) s q i) (nI i)) 6 (fun n => ?_) (fun n i hi ih => ?_) 0 (by omega)
  · unfold wX9_netOf_b5
    exact ⟨fun _ => h, fun c => absurd ((nI_leI (a := 6) (b := 6) (by omega) (by omega)).mpr (Nat.le_refl 6)) c⟩
  · unfold wX9_netOf_b5
    simp only [fl_R]
    rw [nI_clamp (by omega), nI_clamp (by omega)]
    refine ⟨fun c => absurd ((nI_leI (a := 6) (b := i) (by omega) (by omega)).mp c) (by omega), fun _ => ⟨vp_in_nI (by omega) (by omega), vp_in_nI (by omega) (by omega), fun x ex y ey => ?_⟩⟩
    rw [ex, ey, nI_1]
    exact ih
theorem net_eq {u v : Mm} (h : Rel u v) {s q : Nat} (hs : s < 6) (hq : q < 12) : netF (u.2 33) s q 6 = netF (v.2 21) s q 6 := netF_congr h.2.2.2.2.2.2.2.2.2.2.2.1 hs hq 6 (Nat.le_refl 6)
theorem st_net {u v : Mm} (h : Rel u v) (a1 a2 : Int32) : wX8_net u a1 a2 (fun (r : Int64) => wX9_net v a1 a2 (fun (r2 : Int64) => r = r2 ∧ Rel u v)) := by
  unfold wX8_net
  refine isAccount_b (fun n => ?_) (fun p => ?_)
  · unfold wX9_net; exact refused_bad (isSector_b (fun _ => ⟨rfl, h⟩) (fun z => isQuarter_b (fun _ => ⟨rfl, h⟩) (fun y => absurd ⟨z, y⟩ n)))
  · obtain ⟨i, hi, rfl⟩ := ix_of 6 p.1
    obtain ⟨j, hj, rfl⟩ := ix_of 12 p.2
    refine netC_w hi hj ?_
    unfold wX9_net
    exact isSector_b (fun z => absurd p.1 z) (fun _ => isQuarter_b (fun z => absurd p.2 z) (fun _ => netR_w hi hj ⟨net_eq h hi hj, h⟩))
/-- due ahead of the quarter's own net -/
def dueF (f : Nat → Int64) (st tl : Nat → Int32) (s : Nat) : Nat → Int64
  | 0 => 0
  | q + 1 => if tl (s * 12 + q) = 0 then dueF f st tl s q + netF f s q 6 else (st (s * 12 + q)).toInt64
theorem dueC_w {u : Mm} {s t : Nat} (hs : s < 6) (ht : t < 12) {Q : Int64 → Prop} (h : Q (dueF (u.2 33) (u.1 34) (u.1 35) s t + netF (u.2 33) s t 6)) : wX4_dueOf u (nI s) (nI t) Q := by
  unfold wX4_dueOf
  refine loopF (fun n i => wX4_dueOf_b5 u Q n (nI s) (nI t) (dueF (u.2 33) (u.1 34) (u.1 35) s i) (nI i)) t (fun n => ?_) (fun n i hi ih => ?_) 0 (by omega)
  · unfold wX4_dueOf_b5
    exact ⟨fun _ => netC_w hs ht h, fun c => absurd ((nI_leI (by omega) (by omega)).mpr (Nat.le_refl t)) c⟩
  · unfold wX4_dueOf_b5
    rw [pl12_C]
    refine ⟨fun c => absurd ((nI_leI (by omega) (by omega)).mp c) (by omega), fun _ x ex => ?_⟩
    subst ex
    rw [nI_clamp (by omega)]
    have ih2 := ih
    unfold dueF at ih2
    refine ⟨vp_in_nI (by omega) (by omega), fun c => netC_w hs (by omega) (fun y ey z ez => ?_), fun c => ⟨vp_in_nI (by omega) (by omega), fun y ey z ez => ?_⟩⟩
    · rw [ey, ez, nI_1]
      rw [if_pos c] at ih2
      exact ih2
    · rw [ey, ez, nI_1]
      rw [if_neg c] at ih2
      exact ih2

theorem dueR_w {u : Mm} {s t : Nat} (hs : s < 6) (ht : t < 12) {Q : Int64 → Prop} (h : Q (dueF (u.2 21) (u.1 23) (u.1 22) s t + netF (u.2 21) s t 6)) : wX9_dueOf u (nI s) (nI t) Q := by
  unfold wX9_dueOf
  have key : ∀ (k : Nat), k ≤ 12 → ∀ (x : Int64) (fr : Int32), fr = nI k - 1 → Q (x + dueF (u.2 21) (u.1 23) (u.1 22) s k) → wX9_dueOf_b12 u Q (k + 1) (nI s) fr x := by
    intro k
    induction k with
    | zero =>
      intro _ x fr efr hq
      have efr : fr = -1 := efr
      subst efr
      unfold wX9_dueOf_b12 wX9_dueOf_b47
      refine ⟨fun _ => ⟨fun c => absurd c (by decide), fun _ => ?_⟩, fun c => absurd (by decide) c⟩
      unfold dueF at hq
      rw [Int64.add_zero] at hq
      exact hq
    | succ k ih =>
      intro hk x fr efr hq
      rw [nI_pred] at efr
      subst efr
      unfold wX9_dueOf_b12 wX9_dueOf_b47
      rw [pl12_R, nI_clamp (by omega)]
      unfold dueF at hq
      refine ⟨fun c => absurd c (nI_pos (by omega)), fun _ => ⟨vp_in_nI (by omega) (by omega), fun c => netR_w hs (by omega) (fun y ey z ez => ?_), fun c => ?_⟩⟩
      · rw [if_pos c] at hq
        refine ih (by omega) y z ?_ ?_
        · rw [ez, Int32.sub_eq_add_neg]
        · rw [ey, Int64.add_assoc, Int64.add_comm (netF _ _ _ _)]; exact hq
      · rw [if_neg c] at hq
        exact ⟨fun _ => ⟨vp_in_nI (by omega) (by omega), hq⟩, fun d => absurd (nI_pos' (by omega)) d⟩
  intro fr efr
  refine netR_w hs ht ⟨t + 1, key t (by omega) _ fr efr ?_⟩
  rw [Int64.add_comm]
  exact h
theorem dueF_congr {f g : Nat → Int64} {st st2 tl tl2 : Nat → Int32} (h : ∀ k, k < 432 → f k = g k) (h2 : ∀ k, k < 72 → st k = st2 k ∧ tl k = tl2 k) {s : Nat} (hs : s < 6) : ∀ q, q ≤ 12 → dueF f st tl s q = dueF g st2 tl2 s q
  | 0, _ => rfl
  | q + 1, hq => by
    unfold dueF
    rw [dueF_congr h h2 hs q (by omega), netF_congr h hs (by omega) 6 (Nat.le_refl 6), (h2 _ (by omega)).1, (h2 _ (by omega)).2]
theorem due_eq {u v : Mm} (h : Rel u v) {s t : Nat} (hs : s < 6) (ht : t < 12) : dueF (u.2 33) (u.1 34) (u.1 35) s t + netF (u.2 33) s t 6 = dueF (v.2 21) (v.1 23) (v.1 22) s t + netF (v.2 21) s t 6 := by
  have hL := h.2.2.2.2.2.2.2.2.2.2.2.1
  have hM := h.2.2.2.2.2.2.2.2.2.2.2.2.1
  rw [netF_congr hL hs ht 6 (Nat.le_refl 6), dueF_congr hL (fun k hk => ⟨(hM k hk).1, (hM k hk).2.1⟩) hs t (by omega)]
theorem st_due {u v : Mm} (h : Rel u v) (a1 a2 : Int32) : wX8_due u a1 a2 (fun (r : Int64) => wX9_due v a1 a2 (fun (r2 : Int64) => r = r2 ∧ Rel u v)) := by
  unfold wX8_due
  refine isAccount_b (fun n => ?_) (fun p => ?_)
  · unfold wX9_due; exact refused_bad (isSector_b (fun _ => ⟨rfl, h⟩) (fun z => isQuarter_b (fun _ => ⟨rfl, h⟩) (fun y => absurd ⟨z, y⟩ n)))
  · obtain ⟨i, hi, rfl⟩ := ix_of 6 p.1
    obtain ⟨j, hj, rfl⟩ := ix_of 12 p.2
    refine dueC_w hi hj ?_
    unfold wX9_due
    exact isSector_b (fun z => absurd p.1 z) (fun _ => isQuarter_b (fun z => absurd p.2 z) (fun _ => dueR_w hi hj ⟨due_eq h hi hj, h⟩))
theorem st_off {u v : Mm} (h : Rel u v) (a1 a2 : Int32) : wX8_off u a1 a2 (fun (r : Int64) => wX9_off v a1 a2 (fun (r2 : Int64) => r = r2 ∧ Rel u v)) := by
  unfold wX8_off
  refine isAccount_b (fun n => ?_) (fun p => ?_)
  · unfold wX9_off; exact refused_bad (isSector_b (fun _ => ⟨rfl, h⟩) (fun z => isQuarter_b (fun _ => ⟨rfl, h⟩) (fun y => absurd ⟨z, y⟩ n)))
  · obtain ⟨i, hi, rfl⟩ := ix_of 6 p.1
    obtain ⟨j, hj, rfl⟩ := ix_of 12 p.2
    have hM := h.2.2.2.2.2.2.2.2.2.2.2.2.1
    have hk : i * 12 + j < 72 := by omega
    have hd := due_eq h hi hj
    unfold wX9_off
    rw [pl12_C, pl12_R]
    generalize hke : i * 12 + j = k at hk
    intro x ex
    subst ex
    rw [nI_clamp (by omega)]
    refine ⟨vp_in_nI hk (by omega), fun c => ?_, fun c => ⟨vp_in_nI hk (by omega), dueC_w hi hj ?_⟩⟩
    · rw [(hM k hk).2.1] at c
      refine refused_not (isSector_b (fun z => absurd p.1 z) (fun _ => isQuarter_b (fun z => absurd p.2 z) (fun _ x ex => ?_)))
      subst ex
      rw [nI_clamp (by omega)]
      exact ⟨vp_in_nI hk (by omega), fun _ => ⟨rfl, h⟩, fun d => absurd c d⟩
    · rw [(hM k hk).2.1] at c
      refine isSector_b (fun z => absurd p.1 z) (fun _ => isQuarter_b (fun z => absurd p.2 z) (fun _ x ex => ?_))
      subst ex
      rw [nI_clamp (by omega)]
      refine ⟨vp_in_nI hk (by omega), fun d => absurd d c, fun _ => ⟨vp_in_nI hk (by omega), dueR_w hi hj ⟨?_, h⟩⟩⟩
      rw [hd, (hM k hk).1]
/-! fix -/
theorem ln_C (l p c : Nat) : ((((nI l * (4 : Int32)) + nI p) * (6 : Int32)) + nI c) = nI ((l * 4 + p) * 6 + c) := by
  simp only [show (4 : Int32) = nI 4 from rfl, show (6 : Int32) = nI 6 from rfl, pk_mul, nI_add]
theorem ln_R (l p c : Nat) : ((((24 : Int32) * nI l) + ((6 : Int32) * nI p)) + nI c) = nI ((l * 4 + p) * 6 + c) := by
  simp only [show (24 : Int32) = nI 24 from rfl, show (6 : Int32) = nI 6 from rfl, pk_mul, nI_add]
  exact congrArg nI (by omega)
theorem blk_C (l p y : Nat) : ((((nI l * (4 : Int32)) + nI p) * (3 : Int32)) + nI y) = nI ((l * 4 + p) * 3 + y) := by
  simp only [show (4 : Int32) = nI 4 from rfl, show (3 : Int32) = nI 3 from rfl, pk_mul, nI_add]
theorem forget_w {u : Mm} {l p y : Nat} (hl : l < 2) (hp : p < 4) (hy : y < 3) {Q : Mm → Prop} (h : Q (s32 u 17 ((l * 4 + p) * 3 + y) 0)) : wX6_forget u (nI l) (nI p) (nI y) Q := by
  unfold wX6_forget wX6_blockOf
  dsimp only
  rw [blk_C, nI_clamp (by omega), nar0]
  exact ⟨vp_in_nI (by omega) (by omega), fun u2 e2 => by subst e2; exact h⟩
theorem fixL_w {u : Mm} {l p : Nat} (hl : l < 2) (hp : p < 4) {Q : Int32 → Mm → Prop} (h : Q 1 (s32 (s32 (s32 u 17 ((l * 4 + p) * 3 + 0) 0) 17 ((l * 4 + p) * 3 + 1) 0) 17 ((l * 4 + p) * 3 + 2) 0)) : ∃ n, wX8_fix_b52 Q n u (nI l) (nI p) (0 : Int32) := by
  refine ⟨4, ?_⟩
  unfold wX8_fix_b52
  refine ⟨fun c => absurd c (by decide), fun _ => forget_w (y := 0) hl hp (by omega) (fun x ex => ?_)⟩
  have ex : x = nI 1 := ex
  subst ex
  unfold wX8_fix_b52
  refine ⟨fun c => absurd c (by decide), fun _ => forget_w (y := 1) hl hp (by omega) (fun x ex => ?_)⟩
  have ex : x = nI 2 := ex
  subst ex
  unfold wX8_fix_b52
  refine ⟨fun c => absurd c (by decide), fun _ => forget_w (y := 2) hl hp (by omega) (fun x ex => ?_)⟩
  have ex : x = nI 3 := ex
  subst ex
  unfold wX8_fix_b52
  exact ⟨fun _ => h, fun c => absurd (by decide) c⟩

theorem upd_same (f : Nat → Int32) (k : Nat) : upd f k (f k) = f := by
  funext j
  unfold upd
  by_cases h : j = k
  · subst h; simp
  · simp [h]
theorem upd_s32_same (v : Mm) (c k : Nat) : s32 v c k (v.1 c k) = v := by
  unfold s32
  refine Prod.ext ?_ rfl
  funext q
  by_cases hq : q = c
  · subst hq; simp [upd_same]
  · simp [hq]
theorem nar_b {a : Int32} (h : a = 0 ∨ a = 1) : vp_nar .boolean a = a := by
  rcases h with rfl | rfl
  · exact nar0
  · exact nar1
theorem fxC_upd (v : Mm) (k : Nat) (a : Int32) (lp : Nat) (h : ¬ (lp * 6 ≤ k ∧ k < lp * 6 + 6)) : fxC (s32 (s32 v 14 k a) 107 0 0) lp = fxC v lp := by
  funext j
  show (if j < 6 then upd (v.1 14) k a (lp * 6 + j) else 0) = if j < 6 then v.1 14 (lp * 6 + j) else 0
  by_cases hj : j < 6
  · rw [if_pos hj, if_pos hj, upd_n _ _ (by omega)]
  · rw [if_neg hj, if_neg hj]
theorem st_fix {u v : Mm} (h : Rel u v) (a1 a2 a3 a4 : Int32) (hz : a4 = 0 ∨ a4 = 1) : wX8_fix u a1 a2 a3 a4 (fun (r : Int32) (u1 : Mm) => wX9_fix v a1 a2 a3 a4 (fun (r2 : Int32) (v1 : Mm) => r = r2 ∧ Rel u1 v1)) := by
  unfold wX8_fix
  refine isLine_b (fun n => ?_) (fun p => ?_)
  · unfold wX9_fix; exact areThere_b (fun _ => ⟨rfl, h⟩) (fun z => absurd z n)
  · obtain ⟨l, hl, rfl⟩ := ix_of 2 p.1
    obtain ⟨m, hm, rfl⟩ := ix_of 4 p.2.1
    obtain ⟨c, hc, rfl⟩ := ix_of 6 p.2.2
    unfold wX8_lineOf wX9_fix wX9_fix_b42
    dsimp only
    rw [ln_C, ln_R]
    have hk : (l * 4 + m) * 6 + c < 48 := by omega
    have hblk : (l * 4 + m) * 6 ≤ (l * 4 + m) * 6 + c ∧ (l * 4 + m) * 6 + c < (l * 4 + m) * 6 + 6 := by omega
    have hlp : l * 4 + m < 8 := by omega
    generalize hke : (l * 4 + m) * 6 + c = k at hk hblk
    rw [nI_clamp (by omega), nar_b hz]
    obtain ⟨hA, hB, hC, hD, hE, hF, hG, hH, hI, hJ, hK, hL, hM, hN, hO, hP, hQ, hR⟩ := h
    refine ⟨vp_in_nI hk (by omega), fun e => ?_, fun e => ⟨vp_in_nI hk (by omega), fun u3 e3 => fixL_w hl hm ?_⟩⟩
    · rw [(hG k hk).1] at e
      refine areThere_b (fun z => absurd p z) (fun _ x ex => ?_)
      subst ex
      rw [nI_clamp (by omega)]
      refine ⟨vp_in_nI hk (by omega), fun _ => ⟨vp_in_nI hk (by omega), fun v1 f1 v2 f2 => br1 ?_⟩, fun d => absurd e d⟩
      rw [← e, upd_s32_same] at f1
      subst f1 f2
      exact ⟨rfl, hA, hB, hC, hD, hE, hF, hG, hH, hI, hJ, hK, hL, hM, hN, hO, hP, hQ, rR_z rfl⟩
    · rw [(hG k hk).1] at e
      refine areThere_b (fun z => absurd p z) (fun _ x ex => ?_)
      subst ex
      rw [nI_clamp (by omega)]
      refine ⟨vp_in_nI hk (by omega), fun d => absurd d e, fun _ => ⟨vp_in_nI hk (by omega), fun v1 f1 v2 f2 => br0 ?_⟩⟩
      subst e3 f1 f2
      refine ⟨rfl, hA, hB, hC, hD, hE, hF, ?_, hH, hI, hJ, hK, hL, hM, hN, hO, hP, ?_, rR_z rfl⟩
      · intro i hi
        show upd (u.1 16) k a4 i = upd (v.1 14) k a4 i ∧ (upd (v.1 14) k a4 i = 0 ∨ upd (v.1 14) k a4 i = 1)
        by_cases hik : i = k
        · subst hik; simp only [upd_s]; exact ⟨trivial, hz⟩
        · simp only [upd_n _ _ hik]; exact hG i hi
      · intro lp y h1 h2 h3
        have h3 : ¬ upd (upd (upd (u.1 17) ((l * 4 + m) * 3 + 0) 0) ((l * 4 + m) * 3 + 1) 0) ((l * 4 + m) * 3 + 2) 0 (lp * 3 + y) = 0 := h3
        by_cases hq : lp = l * 4 + m
        · exfalso
          apply h3
          subst hq
          rcases (show y = 0 ∨ y = 1 ∨ y = 2 by omega) with rfl | rfl | rfl
          · rw [upd_n _ _ (by omega), upd_n _ _ (by omega), upd_s]
          · rw [upd_n _ _ (by omega), upd_s]
          · rw [upd_s]
        · rw [upd_n _ _ (by omega), upd_n _ _ (by omega), upd_n _ _ (by omega)] at h3
          have hb := hQ lp y h1 h2 h3
          have hfx := fxC_upd v k a4 lp (by omega)
          intro c hc
          refine ⟨(hb c hc).1, fun q hq => ?_⟩
          obtain ⟨z1, z2, z3, z4⟩ := (hb c hc).2 q hq
          refine ⟨z1, z2, z3, z4.trans ?_⟩
          show closS v lp y q c = _
          have hby : byS (s32 (s32 v 14 k a4) 107 0 0) lp y q c = byS v lp y q c := by
            show byF (v.1 118 0) (fxC (s32 (s32 v 14 k a4) 107 0 0) lp) (costC v lp y q) (gapS v lp y q) c = byS v lp y q c
            rw [hfx]
            rfl
          show _ = (if v.1 9 c = 1 then bentC v lp y q c - byS (s32 (s32 v 14 k a4) 107 0 0) lp y q c else bentC v lp y q c + byS (s32 (s32 v 14 k a4) 107 0 0) lp y q c)
          rw [hby]
          rfl
