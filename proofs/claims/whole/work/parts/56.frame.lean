/-! ===== what Rel looks at: all else may change ===== -/
def kX1 : List Nat := [2, 3, 4, 5, 6, 7, 8, 15, 16, 17, 18, 19, 24, 30, 31, 34, 35, 38, 42, 46, 50, 55, 57, 59, 61, 107, 124, 125, 270, 693, 757, 821, 885, 965, 966, 967, 997, 998, 999, 1029, 1030, 1031, 1061, 1062, 1063]
def kU1 : List Nat := [2, 3, 4, 5, 6, 7, 8, 15, 16, 17, 18, 19, 24, 30, 31, 34, 35, 38, 42, 46, 50, 55, 57, 59, 61, 107, 124, 125, 270, 693, 757, 821, 885, 965, 966, 967, 997, 998, 999, 1029, 1030, 1031, 1061, 1062, 1063, 39, 40, 43, 44, 47, 48, 51, 52, 696, 760, 824, 888]
def kV1 : List Nat := [1, 2, 3, 4, 5, 6, 8, 9, 14, 17, 18, 19, 20, 22, 23, 24, 25, 26, 27, 28, 29, 101, 106, 107, 118, 142]
def kU2 : List Nat := [21, 22, 33]
def kV2 : List Nat := [7, 13, 15, 16, 21]
def pU (u : Mm) : Mm := (fun k => if kU1.contains k = true then u.1 k else fun _ => 0, fun k => if kU2.contains k = true then u.2 k else fun _ => 0)
def pV (v : Mm) : Mm := (fun k => if kV1.contains k = true then v.1 k else fun _ => 0, fun k => if kV2.contains k = true then v.2 k else fun _ => 0)
def pX (u : Mm) : Mm := (fun k => if kX1.contains k = true then u.1 k else fun _ => 0, fun k => if kU2.contains k = true then u.2 k else fun _ => 0)
theorem rel_px (u v : Mm) : Rel (pX u) v = Rel u v := rfl
theorem rel_X {u u1 v : Mm} (h : Rel u v) (hu : pX u1 = pX u) : Rel u1 v := by
  rw [← rel_px, hu, rel_px]; exact h
theorem rel_p (u v : Mm) : Rel (pU u) (pV v) = Rel u v := rfl
theorem rel_scr {u u1 v v1 : Mm} (h : Rel u v) (hu : pU u1 = pU u) (hv : pV v1 = pV v) : Rel u1 v1 := by
  rw [← rel_p, hu, hv, rel_p]; exact h
theorem pU_s32 (u : Mm) {k : Nat} (i : Nat) (x : Int32) (h : kU1.contains k = false) : pU (s32 u k i x) = pU u := by
  unfold pU s32
  refine Prod.ext ?_ rfl
  funext q
  by_cases hq : q = k
  · subst hq; simp only [h, Bool.false_eq_true, if_false]
  · simp [hq]
theorem pU_r32 (u : Mm) {k : Nat} (f : Nat → Int32) (h : kU1.contains k = false) : pU (r32 u k f) = pU u := by
  unfold pU r32
  refine Prod.ext ?_ rfl
  funext q
  by_cases hq : q = k
  · subst hq; simp only [h, Bool.false_eq_true, if_false]
  · simp [hq]
theorem pU_s64 (u : Mm) {k : Nat} (i : Nat) (x : Int64) (h : kU2.contains k = false) : pU (s64 u k i x) = pU u := by
  unfold pU s64
  refine Prod.ext rfl ?_
  funext q
  by_cases hq : q = k
  · subst hq; simp only [h, Bool.false_eq_true, if_false]
  · simp [hq]
theorem pV_s32 (u : Mm) {k : Nat} (i : Nat) (x : Int32) (h : kV1.contains k = false) : pV (s32 u k i x) = pV u := by
  unfold pV s32
  refine Prod.ext ?_ rfl
  funext q
  by_cases hq : q = k
  · subst hq; simp only [h, Bool.false_eq_true, if_false]
  · simp [hq]
theorem pV_s64 (u : Mm) {k : Nat} (i : Nat) (x : Int64) (h : kV2.contains k = false) : pV (s64 u k i x) = pV u := by
  unfold pV s64
  refine Prod.ext rfl ?_
  funext q
  by_cases hq : q = k
  · subst hq; simp only [h, Bool.false_eq_true, if_false]
  · simp [hq]
/-- all but the sheets -/
def kUo : List Nat := [55, 57, 59, 61, 965, 966, 967, 997, 998, 999, 1029, 1030, 1031, 1061, 1062, 1063]
def kVo : List Nat := [26, 27, 28, 29, 30]
def qU (u : Mm) : Mm := (fun k => if kUo.contains k = true then fun _ => 0 else u.1 k, u.2)
def qV (v : Mm) : Mm := (fun k => if kVo.contains k = true then fun _ => 0 else v.1 k, v.2)
theorem rel_O {u u1 v v1 : Mm} (h : Rel u v) (hu : qU u1 = qU u) (hv : qV v1 = qV v) (hO1 : rO u1 v1) : Rel u1 v1 := by
  obtain ⟨hA, hB, hC, hD, hE, hF, hG, hH, hI, hJ, hK, hL, hM, hN, hO, hP, hQ, hR⟩ := h
  have g : ∀ (P : Mm → Mm → Prop), P (qU u) (qV v) → P (qU u1) (qV v1) := fun P hp => by rw [hu, hv]; exact hp
  have g2 : rR (qV v1) := by rw [hv]; exact hR
  exact ⟨g rA hA, g rB hB, g rC hC, g rD hD, g rE hE, g rF hF, g rG hG, g rH hH, g rI hI, g rJ hJ, g rK hK, g rL hL, g rM hM, g rN hN, hO1, g rP hP, g rQ hQ, g2⟩
theorem qU_s32 (u : Mm) {k : Nat} (i : Nat) (x : Int32) (h : kUo.contains k = true) : qU (s32 u k i x) = qU u := by
  unfold qU s32
  refine Prod.ext ?_ rfl
  funext q
  by_cases hq : q = k
  · subst hq; simp only [h, if_true]
  · simp only [if_neg hq]
theorem qU_r32 (u : Mm) {k : Nat} (f : Nat → Int32) (h : kUo.contains k = true) : qU (r32 u k f) = qU u := by
  unfold qU r32
  refine Prod.ext ?_ rfl
  funext q
  by_cases hq : q = k
  · subst hq; simp only [h, if_true]
  · simp only [if_neg hq]
theorem qV_s32 (u : Mm) {k : Nat} (i : Nat) (x : Int32) (h : kVo.contains k = true) : qV (s32 u k i x) = qV u := by
  unfold qV s32
  refine Prod.ext ?_ rfl
  funext q
  by_cases hq : q = k
  · subst hq; simp only [h, if_true]
  · simp only [if_neg hq]
theorem qV_r32 (u : Mm) {k : Nat} (f : Nat → Int32) (h : kVo.contains k = true) : qV (r32 u k f) = qV u := by
  unfold qV r32
  refine Prod.ext ?_ rfl
  funext q
  by_cases hq : q = k
  · subst hq; simp only [h, if_true]
  · simp only [if_neg hq]
theorem kUo_l {j : Nat} (hj : j < 4) : kUo.contains (967 + 32 * j) = true ∧ kUo.contains (965 + 32 * j) = true ∧ kUo.contains (966 + 32 * j) = true ∧ kUo.contains (55 + 2 * j) = true := by
  rcases (show j = 0 ∨ j = 1 ∨ j = 2 ∨ j = 3 by omega) with rfl | rfl | rfl | rfl <;> decide
theorem rO_of {u v : Mm} (h : ∀ j, j < 4 → shOK (u.1 (967 + 32 * j) 0) (u.1 (965 + 32 * j) 0) (u.1 (966 + 32 * j) 0) (u.1 (55 + 2 * j)) (v.1 26 j) (v.1 27 j) (v.1 28 j) (v.1 29) (60 * j)) : rO u v := ⟨h 0 (by omega), h 1 (by omega), h 2 (by omega), h 3 (by omega)⟩
