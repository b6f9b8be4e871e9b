/-! ===== led ===== -/
def bitN (k : Nat) : Int64 := (1 : Int64) <<< ((nI k).toInt64 &&& 63)
def cd (v : Mm) (k : Nat) : Nat := (v.1 3 k).toNatClampNeg
def ledF (S : Nat → Prop) [DecidablePred S] (v : Mm) : Nat → Int64
  | 0 => 0
  | k + 1 => if S (cd v k) ∧ ¬ cntS v k = 0 then ledF S v k ||| bitN k else ledF S v k
def mN (v : Mm) : Nat := if nrow v ≤ 63 then nrow v else 63
theorem mN_le (v : Mm) : mN v ≤ nrow v ∧ mN v ≤ 63 := by unfold mN; split <;> omega
theorem mN_or (v : Mm) : nrow v ≤ mN v ∨ 63 ≤ mN v := by unfold mN; split <;> omega
theorem cd_at {v : Mm} (h : okT v) {k : Nat} (hk : k < nrow v) : cd v k < 720 ∧ v.1 3 k = nI (cd v k) := by
  obtain ⟨c, hc, e⟩ := (h.2.2.2 k hk).2.1
  unfold cd
  rw [e, nI_clamp (n := c) (by omega)]
  exact ⟨hc, rfl⟩
theorem ledF_congr {S T : Nat → Prop} [DecidablePred S] [DecidablePred T] {v : Mm} (h : okT v) (hST : ∀ c, c < 720 → (S c ↔ T c)) : ∀ k, k ≤ nrow v → ledF S v k = ledF T v k
  | 0, _ => rfl
  | k + 1, hk => by
    have ih := ledF_congr h hST k (by omega)
    have e := hST (cd v k) (cd_at h (by omega)).1
    unfold ledF
    rw [ih]
    by_cases z : S (cd v k) ∧ ¬ cntS v k = 0
    · rw [if_pos z, if_pos ⟨e.mp z.1, z.2⟩]
    · rw [if_neg z, if_neg (fun y => z ⟨e.mpr y.1, y.2⟩)]
theorem ledF_none {S : Nat → Prop} [DecidablePred S] {v : Mm} (h : okT v) (hS : ∀ c, c < 720 → ¬ S c) : ∀ k, k ≤ nrow v → ledF S v k = 0
  | 0, _ => rfl
  | k + 1, hk => by
    unfold ledF
    rw [if_neg (fun y => hS _ (cd_at h (by omega)).1 y.1), ledF_none h hS k (by omega)]
theorem or3 (a b c : Int64) : a ||| b ||| c = (a ||| c) ||| (b ||| c) := by
  rw [Int64.or_assoc, Int64.or_assoc a c, ← Int64.or_assoc c b c, Int64.or_comm c b, Int64.or_assoc b c c, Int64.or_self]
theorem or_r (a b c : Int64) : a ||| b ||| c = a ||| (b ||| c) := Int64.or_assoc a b c
theorem or_l (a b c : Int64) : a ||| b ||| c = (a ||| c) ||| b := by rw [Int64.or_assoc, Int64.or_comm b c, ← Int64.or_assoc]
theorem ledF_or {U S T : Nat → Prop} [DecidablePred U] [DecidablePred S] [DecidablePred T] {v : Mm} (h : okT v) (hU : ∀ c, c < 720 → (U c ↔ S c ∨ T c)) : ∀ k, k ≤ nrow v → ledF U v k = ledF S v k ||| ledF T v k
  | 0, _ => by show (0 : Int64) = 0 ||| 0; decide
  | k + 1, hk => by
    have ih := ledF_or (S := S) (T := T) h hU k (by omega)
    have e := hU (cd v k) (cd_at h (by omega)).1
    unfold ledF
    rw [ih]
    by_cases z : cntS v k = 0
    · rw [if_neg (fun y => y.2 z), if_neg (fun y => y.2 z), if_neg (fun y => y.2 z)]
    · by_cases s : S (cd v k)
      · rw [if_pos ⟨e.mpr (Or.inl s), z⟩, if_pos ⟨s, z⟩]
        by_cases t : T (cd v k)
        · rw [if_pos ⟨t, z⟩]; exact or3 _ _ _
        · rw [if_neg (fun y => t y.1)]; exact or_l _ _ _
      · by_cases t : T (cd v k)
        · rw [if_pos ⟨e.mpr (Or.inr t), z⟩, if_neg (fun y => s y.1), if_pos ⟨t, z⟩]; exact or_r _ _ _
        · rw [if_neg (fun y => (e.mp y.1).elim s t), if_neg (fun y => s y.1), if_neg (fun y => t y.1)]
abbrev oneB (c0 c : Nat) : Prop := lineN c / 6 = lineN c0 / 6 ∧ yearN c = yearN c0
theorem oneBlock_w {a b : Nat} (ha : a < 720) (hb : b < 720) {Q : Int32 → Prop} (q0 : ¬ oneB a b → Q 0) (q1 : oneB a b → Q 1) : wX8_isOneBlock (nI a) (nI b) Q := by
  have la := lineN_lt ha
  have lb := lineN_lt hb
  have ya : yearN a < 12 := by unfold yearN; split <;> omega
  have yb : yearN b < 12 := by unfold yearN; split <;> omega
  unfold wX8_isOneBlock
  refine landOf_w ha (landOf_w hb ⟨fun z => productOf_w ha (productOf_w hb ⟨fun z2 => yearOf_w ha (yearOf_w hb ⟨fun z3 => q1 ?_, fun z3 => q0 (fun d => z3 ?_)⟩), fun z2 => q0 (fun d => z2 ?_)⟩), fun z => q0 (fun d => z ?_)⟩)
  · have z := (nI_eq (by omega) (by omega)).mp z
    have z2 := (nI_eq (by omega) (by omega)).mp z2
    have z3 := (nI_eq (by omega) (by omega)).mp z3
    exact ⟨by omega, z3.symm⟩
  · rw [d.2]
  · rw [d.1]
  · have := d.1
    rw [show lineN a / 24 = lineN b / 24 by omega]
abbrev ldS (a2 : Int32) (c0 c : Nat) : Prop := (a2 = 0 ∧ c0 = c) ∨ (¬ a2 = 0 ∧ oneB c0 c)
theorem ledC_w {u v : Mm} (h : Rel u v) {c0 : Nat} (hc0 : c0 < 720) (a2 : Int32) {Q : Int64 → Mm → Prop} (hq : ∀ u1, Rel u1 v → Q (ledF (ldS a2 c0) v (mN v)) u1) : ∃ f, wX8_led_b32 Q f u (nI c0) a2 (0 : Int64) (0 : Int32) := by
  obtain ⟨n80, e101, e124⟩ := rel_n h
  have okt := rel_okT h
  have hm := mN_le v
  refine loopS (fun f i (s : Mm) => wX8_led_b32 Q f s (nI c0) a2 (ledF (ldS a2 c0) v i) (nI i)) (fun i s => Rel s v) (mN v) (fun f s hI => ?_) (fun f i s hi hI ih => ?_) 0 u (by omega) h
  · unfold wX8_led_b32
    rw [(rel_n hI).2.2]
    refine ⟨fun _ => hq s hI, fun c1 => ⟨fun _ => hq s hI, fun c2 => ?_⟩⟩
    exfalso
    have d1 : ¬ nrow v ≤ mN v := fun d => c1 ((nI_leI (by omega) (by omega)).mpr d)
    have d2 : ¬ 63 ≤ mN v := fun d => c2 ((nI_leI (a := 63) (by omega) (by omega)).mpr d)
    exact (mN_or v).elim d1 d2
  · obtain ⟨hcd, ecd⟩ := cd_at okt (show i < nrow v by omega)
    have hin : i < nrow v := by omega
    have s4 : s.1 4 i = nI (cd v i) := by rw [(hI.2.2.1 i hin).2.1, ecd]
    have es : ledF (ldS a2 c0) v (i + 1) = if ldS a2 c0 (cd v i) ∧ ¬ cntS v i = 0 then ledF (ldS a2 c0) v i ||| bitN i else ledF (ldS a2 c0) v i := rfl
    have no : ¬ ldS a2 c0 (cd v i) → wX8_led_b91 (fun (u : Mm) (x1 : Int32) (x2 : Int32) (x3 : Int64) (x5 : Int32) => wX8_led_b32 Q f u x1 x2 x3 x5) Q s (nI c0) a2 (ledF (ldS a2 c0) v i) (nI i) (0 : Int32) := fun d => by
      rw [if_neg (fun y => d y.1)] at es
      unfold wX8_led_b91
      refine ⟨fun _ y ey => ?_, fun z => absurd rfl z⟩
      rw [ey, nI_1, ← es]; exact ih s hI
    have yes : ldS a2 c0 (cd v i) → wX8_led_b91 (fun (u : Mm) (x1 : Int32) (x2 : Int32) (x3 : Int64) (x5 : Int32) => wX8_led_b32 Q f u x1 x2 x3 x5) Q s (nI c0) a2 (ledF (ldS a2 c0) v i) (nI i) (1 : Int32) := fun d => by
      unfold wX8_led_b91
      refine ⟨fun z => absurd z (by decide), fun _ => counted_w hI (by omega) (fun P => ⟨fun z y ey => ?_, fun z x ex y ey => ?_⟩)⟩
      · rw [if_neg (fun y => y.2 z)] at es
        rw [ey, nI_1, ← es]; exact ih _ (rel_9 hI P)
      · rw [if_pos ⟨d, z⟩] at es
        have ex : x = ledF (ldS a2 c0) v i ||| bitN i := ex
        rw [ex, ey, nI_1, ← es]; exact ih _ (rel_9 hI P)
    unfold wX8_led_b32
    rw [(rel_n hI).2.2, nI_clamp (n := i) (by omega), s4]
    have vi : vp_in (nI i) 80 := vp_in_nI (by omega) (by omega)
    refine ⟨fun cc => absurd ((nI_leI (a := nrow v) (b := i) (by omega) (by omega)).mp cc) (by omega), fun _ => ⟨fun cc => absurd ((nI_leI (a := 63) (b := i) (by omega) (by omega)).mp cc) (by omega), fun _ => ⟨fun z => ⟨vi, fun z2 => yes (Or.inl ⟨z, (nI_eq (by omega) (by omega)).mp z2⟩), fun z2 => no (fun d => d.elim (fun d => z2 (by rw [d.2])) (fun d => d.1 z))⟩, fun z => ⟨vi, oneBlock_w hc0 hcd (fun d => no (fun y => y.elim (fun y => z y.1) (fun y => d y.2))) (fun d => yes (Or.inr ⟨z, d⟩))⟩⟩⟩⟩
theorem ledBy_w {u v : Mm} (h : Rel u v) (hr : rR1 v) {c0 : Nat} (hc0 : c0 < 720) {Q : Int64 → Prop} (hq : Q (ledF (fun c => c = c0) v (mN v))) : wX9_ledBy v (nI c0) Q := by
  obtain ⟨n80, e101, e124⟩ := rel_n h
  have okt := rel_okT h
  have hm := mN_le v
  unfold wX9_ledBy
  refine loopF (fun f i => wX9_ledBy_b5 v Q f (nI c0) (ledF (fun c => c = c0) v i) (nI i)) (mN v) (fun f => ?_) (fun f i hi ih => ?_) 0 (by omega)
  · unfold wX9_ledBy_b5
    rw [e101]
    refine ⟨fun _ => hq, fun c1 => ⟨fun _ => hq, fun c2 => ?_⟩⟩
    exfalso
    have d1 : ¬ nrow v ≤ mN v := fun d => c1 ((nI_leI (by omega) (by omega)).mpr d)
    have d2 : ¬ 63 ≤ mN v := fun d => c2 ((nI_leI (a := 63) (by omega) (by omega)).mpr d)
    exact (mN_or v).elim d1 d2
  · obtain ⟨hcd, ecd⟩ := cd_at okt (show i < nrow v by omega)
    have es : ledF (fun c => c = c0) v (i + 1) = if cd v i = c0 ∧ ¬ cntS v i = 0 then ledF (fun c => c = c0) v i ||| bitN i else ledF (fun c => c = c0) v i := rfl
    have vi : vp_in (nI i) 80 := vp_in_nI (by omega) (by omega)
    have o0 : ∀ x : Int64, x ||| 0 = x := fun x => Int64.or_zero
    have hin : i < nrow v := by omega
    unfold wX9_ledBy_b5
    rw [e101, nI_clamp (n := i) (by omega), ecd, hr.2.1 i hin]
    refine ⟨fun cc => absurd ((nI_leI (a := nrow v) (b := i) (by omega) (by omega)).mp cc) (by omega), fun _ => ⟨fun cc => absurd ((nI_leI (a := 63) (b := i) (by omega) (by omega)).mp cc) (by omega), fun _ => ⟨vi, fun z => ⟨vi, fun z2 x ex y ey => ?_, fun z2 x ex y ey => ?_⟩, fun z x ex y ey => ?_⟩⟩⟩
    · rw [if_neg (fun y => y.2 z2)] at es
      rw [o0] at ex
      rw [ex, ey, nI_1, ← es]; exact ih
    · rw [if_pos ⟨(nI_eq (by omega) (by omega)).mp z, z2⟩] at es
      have ex : x = ledF (fun c => c = c0) v i ||| bitN i := ex
      rw [ex, ey, nI_1, ← es]; exact ih
    · rw [if_neg (fun y => z (by rw [y.1]))] at es
      rw [o0] at ex
      rw [ex, ey, nI_1, ← es]; exact ih
abbrev ldU (lp y i c : Nat) : Prop := lineN c / 6 = lp ∧ yearN c = y ∧ lineN c % 6 < i
abbrev ldV (lp y i j c : Nat) : Prop := lineN c / 6 = lp ∧ yearN c = y ∧ (lineN c % 6 < i ∨ (lineN c % 6 = i ∧ (576 ≤ c ∨ c % 4 < j)))
theorem ledR_w {u v : Mm} (h : Rel u v) (hr : rR1 v) {c0 : Nat} (hc0 : c0 < 576) {Q : Int64 → Mm → Prop} (hq : Q (ledF (oneB c0) v (mN v)) v) : ∃ f, wX9_led_b49 Q f v (nI c0) (0 : Int64) (nI (yearN c0)) (0 : Int32) := by
  have okt := rel_okT h
  have hm := mN_le v
  obtain ⟨x1, x2, x3, x4, x5, x6⟩ := cix hc0
  have hl8 : lineN c0 / 6 < 8 := by have := lineN_lt (c := c0) (by omega); omega
  have elp : lineN c0 / 24 * 4 + lineN c0 / 6 % 4 = lineN c0 / 6 := by omega
  generalize hlp : lineN c0 / 6 = lp at hl8
  generalize hy : yearN c0 = y at x3
  have eU0 : ledF (ldU lp y 0) v (mN v) = 0 := ledF_none okt (fun c hc d => by have := d.2.2; omega) _ hm.1
  rw [← eU0]
  refine loopF (fun f i => wX9_led_b49 Q f v (nI c0) (ledF (ldU lp y i) v (mN v)) (nI y) (nI i)) 6 (fun f => ?_) (fun f i hi ih => ?_) 0 (by omega)
  · unfold wX9_led_b49
    refine ⟨fun _ => ?_, fun cc => absurd ((nI_leI (a := 6) (b := 6) (by omega) (by omega)).mpr (Nat.le_refl _)) cc⟩
    rw [ledF_congr okt (T := oneB c0) (fun c hc => by
      rw [← hlp, ← hy]
      exact ⟨fun d => ⟨d.1, d.2.1⟩, fun d => ⟨d.1, d.2, by omega⟩⟩) _ hm.1]
    exact hq
  · unfold wX9_led_b49
    refine ⟨fun cc => absurd ((nI_leI (a := 6) (b := i) (by omega) (by omega)).mp cc) (by omega), fun _ => landR_w (by omega) (productR_w (by omega) ?_)⟩
    unfold wX9_annualOf
    rw [ann_R, elp, hlp]
    dsimp only
    refine ledBy_w h hr (by omega) (fun x ex x7 e7 => ?_)
    have e7 : x7 = nI (4 * y + 0) := by rw [e7, show (4 : Int32) = nI 4 from rfl, pk_mul]; rfl
    rw [← ledF_or (U := ldV lp y i 0) okt (fun c hc => by
      by_cases g : c < 576
      · simp only [ldV, ldU, lineN, yearN, if_pos g]; omega
      · simp only [ldV, ldU, lineN, yearN, if_neg g]; omega) _ hm.1] at ex
    rw [ex, e7]
    refine loopF (fun g j => wX9_led_b84 (fun (u : Mm) (x1 : Int32) (x3 : Int64) (x5 : Int32) (x6 : Int32) => wX9_led_b49 Q f u x1 x3 x5 x6) Q g v (nI c0) (ledF (ldV lp y i j) v (mN v)) (nI y) (nI i) (nI (4 * y + j))) 4 (fun g => ?_) (fun g j hj ih2 => ?_) 0 (by omega)
    · unfold wX9_led_b84
      rw [show (4 : Int32) * nI y + (4 : Int32) = nI (4 * y + 4) by rw [show (4 : Int32) = nI 4 from rfl, pk_mul, nI_add]]
      refine ⟨fun _ y2 ey => ?_, fun cc => absurd ((nI_leI (by omega) (by omega)).mpr (Nat.le_refl _)) cc⟩
      rw [ey, nI_1, ledF_congr okt (T := ldU lp y (i + 1)) (fun c hc => by
        by_cases g : c < 576
        · simp only [ldV, ldU, lineN, yearN, if_pos g]; omega
        · simp only [ldV, ldU, lineN, yearN, if_neg g]; omega) _ hm.1]
      exact ih
    · unfold wX9_led_b84
      rw [show (4 : Int32) * nI y + (4 : Int32) = nI (4 * y + 4) by rw [show (4 : Int32) = nI 4 from rfl, pk_mul, nI_add]]
      refine ⟨fun cc => absurd ((nI_leI (by omega) (by omega)).mp cc) (by omega), fun _ => landR_w (by omega) (productR_w (by omega) ?_)⟩
      unfold wX9_cellOf
      rw [cell_R, elp, hlp]
      dsimp only
      refine ledBy_w h hr (by omega) (fun x ex y2 ey => ?_)
      rw [← ledF_or (U := ldV lp y i (j + 1)) okt (fun c hc => by
        by_cases g : c < 576
        · simp only [ldV, lineN, yearN, if_pos g]; omega
        · simp only [ldV, lineN, yearN, if_neg g]; omega) _ hm.1] at ex
      rw [ex, ey, nI_1, Nat.add_assoc]
      exact ih2
theorem ledF_t (S : Nat → Prop) [DecidablePred S] (m : Mm) : ∀ k, ledF S (tV m) k = ledF S m k
  | 0 => rfl
  | k + 1 => by
    have e1 : cntS (tV m) k = cntS m k := rfl
    have e2 : cd (tV m) k = cd m k := rfl
    unfold ledF
    rw [e1, e2, ledF_t S m k]
theorem st_led {u v : Mm} (h : Rel u v) (a1 a2 : Int32) (hz : a2 = 0 ∨ a2 = 1) : wX8_led u a1 a2 (fun (r : Int64) (u1 : Mm) => wX9_led v a1 a2 (fun (r2 : Int64) (v1 : Mm) => r = r2 ∧ Rel u1 v1)) := by
  unfold wX8_led
  refine below_b 720 (fun n => ?_) (fun p => ?_)
  · unfold wX9_led; exact refused_bad (isCode_b (fun _ => ⟨rfl, h⟩) (fun z => absurd z n))
  · obtain ⟨c0, hc0, rfl⟩ := ix_of 720 p
    have eL : ∀ v1 : Mm, tV v1 = tV v → ∀ S : Nat → Prop, ∀ _ : DecidablePred S, ledF S v1 (mN v1) = ledF S v (mN v) := fun v1 ht S _ => tV_f ht (fun m => ledF S m (mN m)) (fun m => ledF_t S m _)
    refine ⟨fun z => ledC_w h hc0 a2 (fun u1 h1 => ?_), fun z => isAnnual_w hc0 (fun g => br0 (ledC_w h hc0 a2 (fun u1 h1 => ?_))) (fun g => br1 (refused_bad ?_))⟩
    · unfold wX9_led
      refine isCode_b (fun y => absurd p y) (fun _ => ⟨fun _ => ?_, fun y => absurd z y⟩)
      unfold wX9_led_b22
      refine looks_rel h1 (fun v1 h2 ht hr => ⟨fun _ => ledBy_w h2 hr hc0 ⟨?_, h2⟩, fun y => absurd z y⟩)
      rw [eL v1 ht]
      exact ledF_congr (rel_okT h) (fun c hc => ⟨fun d => d.elim (fun d => d.2.symm) (fun d => absurd z d.1), fun d => Or.inl ⟨z, d.symm⟩⟩) _ (mN_le v).1
    · unfold wX9_led
      refine isCode_b (fun y => absurd p y) (fun _ => ⟨fun y => absurd y z, fun _ => isCell_b (fun y => absurd (ix_in g) y) (fun _ => ?_)⟩)
      unfold wX9_led_b22
      refine looks_rel h1 (fun v1 h2 ht hr => ⟨fun y => absurd y z, fun _ => timeR_w hc0 (fun x5 e5 => ?_)⟩)
      have hpl := perN_lt (c := c0) (by omega)
      have e5 : x5 = nI (yearN c0) := by
        rw [e5, div4 hpl]
        unfold perN yearN
        rw [if_pos g, if_pos g]
      rw [e5]
      refine ledR_w h2 hr g ⟨?_, h2⟩
      rw [eL v1 ht]
      exact ledF_congr (rel_okT h) (fun c hc => ⟨fun d => d.elim (fun d => absurd d.1 z) (fun d => d.2), fun d => Or.inr ⟨z, d⟩⟩) _ (mN_le v).1
    · unfold wX9_led
      exact isCode_b (fun y => absurd p y) (fun _ => ⟨fun y => absurd y z, fun _ => isCell_b (fun _ => ⟨rfl, h⟩) (fun y => by rw [nI_toInt (by omega)] at y; omega)⟩)
