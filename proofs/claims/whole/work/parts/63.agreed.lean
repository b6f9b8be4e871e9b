theorem st_agreed {u v : Mm} (h : Rel u v) (a1 a2 a3 : Int32) : wX8_agreed u a1 a2 a3 (fun (r : Int32) => wX9_agreed v a1 a2 a3 (fun (r2 : Int32) => r = r2 ∧ Rel u v)) := by
  unfold wX8_agreed
  refine isBalance_b (fun n => ?_) (fun p => ?_)
  · unfold wX9_agreed; exact isPlace_b (fun _ => ⟨rfl, h⟩) (fun z => absurd z n)
  · obtain ⟨l, hl, rfl⟩ := ix_of 2 p.1
    obtain ⟨m, hm, rfl⟩ := ix_of 4 p.2.1
    obtain ⟨t, ht, rfl⟩ := ix_of 12 p.2.2
    have hJ := h.2.2.2.2.2.2.2.2.2.1
    have hK := h.2.2.2.2.2.2.2.2.2.2.1
    have hk : ((l * 4 + m) * 12 + t) * 2 + 0 < 192 := by omega
    have hk2 : ((1 - l) * 4 + m) * 12 * 2 + t * 2 + 1 < 192 := by omega
    unfold wX0_agreedOf wX0_placeOf wX9_agreed wX9_soldBy wX9_boughtFrom
    have e1 : ((((((nI l * (4 : Int32)) + nI m) * (12 : Int32)) + nI t) * (2 : Int32)) + (0 : Int32)) = nI (((l * 4 + m) * 12 + t) * 2 + 0) := tr_C l m t 0
    have e2 : (((((((1 : Int32) - nI l) * (4 : Int32)) + nI m) * (12 : Int32) + nI t) * (2 : Int32)) + (1 : Int32)) = nI (((1 - l) * 4 + m) * 12 * 2 + t * 2 + 1) := by
      rw [sub1 hl]
      exact (tr_C (1 - l) m t 1).trans (congrArg nI (by omega))
    have e3 : ((((96 : Int32) * nI l) + ((24 : Int32) * nI m)) + ((2 : Int32) * nI t)) = nI (((l * 4 + m) * 12 + t) * 2 + 0) := by
      simp only [show (96 : Int32) = nI 96 from rfl, show (24 : Int32) = nI 24 from rfl, show (2 : Int32) = nI 2 from rfl, pk_mul, nI_add]
      exact congrArg nI (by omega)
    have e4 : (((((96 : Int32) * ((1 : Int32) - nI l)) + ((24 : Int32) * nI m)) + ((2 : Int32) * nI t)) + (1 : Int32)) = nI (((1 - l) * 4 + m) * 12 * 2 + t * 2 + 1) := by
      rw [sub1 hl]
      exact (tr_R (1 - l) m t 1).trans (congrArg nI (by omega))
    dsimp only
    rw [e1, e2, e3, e4, sub1 hl]
    have c1 : (nI (((l * 4 + m) * 12 + t) * 2 + 0)).toNatClampNeg = ((l * 4 + m) * 12 + t) * 2 + 0 := nI_clamp (by omega)
    have c2 : (nI (((1 - l) * 4 + m) * 12 * 2 + t * 2 + 1)).toNatClampNeg = ((1 - l) * 4 + m) * 12 * 2 + t * 2 + 1 := nI_clamp (by omega)
    have c3 : (nI l).toNatClampNeg = l := nI_clamp (by omega)
    have c4 : (nI (1 - l)).toNatClampNeg = 1 - l := nI_clamp (by omega)
    have c5 : (0 : Int32).toNatClampNeg = 0 := rfl
    have c6 : (1 : Int32).toNatClampNeg = 1 := rfl
    rw [c1, c2, c3, c4, c5, c6]
    refine ⟨vp_in_nI hk (by omega), fun x ex => ⟨vp_in_nI hk2 (by omega), fun y ey => ?_⟩⟩
    rw [(hJ _ hk).1] at ex
    rw [(hJ _ hk2).1] at ey
    have bS := (hJ _ hk).2
    have bB := (hJ _ hk2).2
    rw [← ex] at bS ⊢
    rw [← ey] at bB ⊢
    have one : x = -1 ∨ y = -1 → wJ9_max_7cf53 x y (fun (r5 : Int32) => wJ9_max_7cf53 (0 : Int32) r5 (fun (r6 : Int32) => wX9_isPlace (nI l) (nI m) (nI t) (fun r1 => (r1 = 0 → r6 = -2 ∧ Rel u v) ∧ (¬ r1 = 0 → vp_in (nI (((l * 4 + m) * 12 + t) * 2 + 0)) 192 ∧ vp_in (nI (((1 - l) * 4 + m) * 12 * 2 + t * 2 + 1)) 192 ∧ (x = -1 → wX9_agreed_b42 v (fun (r2 : Int32) => r6 = r2 ∧ Rel u v) x y) ∧ (¬ x = -1 → (y = -1 → wX9_agreed_b42 v (fun (r2 : Int32) => r6 = r2 ∧ Rel u v) x y) ∧ (¬ y = -1 → vp_in (0 : Int32) 2 ∧ vp_in (1 : Int32) 2 ∧ ∀ x6_4 : Int32, x6_4 = v.1 20 0 + v.1 20 1 → vp_in (nI l) 2 ∧ vp_in (nI (1 - l)) 2 ∧ ¬ (2 : Int32) * x6_4 = 0 ∧ r6 = ((2 : Int32) * (v.1 20 l * x + v.1 20 (1 - l) * y) + x6_4) / ((2 : Int32) * x6_4) ∧ Rel u v)))))) := by
      intro hor
      refine max_w (max_w (isPlace_b (fun z => absurd p z) (fun _ => ⟨vp_in_nI hk (by omega), vp_in_nI hk2 (by omega), fun _ => agr_R hor ⟨agr_one bS.1 bB.1 hor, h⟩, fun c => ⟨fun _ => agr_R hor ⟨agr_one bS.1 bB.1 hor, h⟩, fun d => absurd hor (fun z => z.elim c d)⟩⟩)))
    obtain ⟨a, ha, ea⟩ := ix_of 10 (a := v.1 20 l) ⟨by have := (hK l hl).2; omega, by have := (hK l hl).2; omega⟩
    obtain ⟨b, hb, eb⟩ := ix_of 10 (a := v.1 20 (1 - l)) ⟨by have := (hK (1 - l) (by omega)).2; omega, by have := (hK (1 - l) (by omega)).2; omega⟩
    have ha1 : 1 ≤ a := by have := (hK l hl).2.1; rw [ea, nI_toInt (by omega)] at this; omega
    have ua : u.1 31 l = nI a := (hK l hl).1.trans ea
    have ub : u.1 31 (1 - l) = nI b := (hK (1 - l) (by omega)).1.trans eb
    have hall : v.1 20 0 + v.1 20 1 = nI (a + b) := by
      rcases (show l = 0 ∨ l = 1 by omega) with rfl | rfl
      · rw [show v.1 20 0 = nI a from ea, show v.1 20 1 = nI b from eb, nI_add]
      · rw [show v.1 20 1 = nI a from ea, show v.1 20 0 = nI b from eb, nI_add, Nat.add_comm]
    have h2 : (2 : Int32) * nI (a + b) = nI (2 * (a + b)) := by rw [show (2 : Int32) = nI 2 from rfl, pk_mul]
    refine ⟨fun c => one (Or.inl c), fun c => ⟨fun d => one (Or.inr d), fun d => ⟨vp_in_nI hl (by omega), vp_in_nI (by omega) (by omega), fun w ew => ⟨vp_in_nI hl (by omega), vp_in_nI (by omega) (by omega), fun z ez => ?_⟩⟩⟩⟩
    rw [ua, ub, nI_add] at ew
    rw [ua, ub] at ez
    subst ew
    refine ⟨fun y => absurd y (nI_nle (by omega) (by omega)), fun _ => ⟨by rw [h2]; exact nI_ne0 (by omega) (by omega), ?_⟩⟩
    refine isPlace_b (fun z => absurd p z) (fun _ => ⟨vp_in_nI hk (by omega), vp_in_nI hk2 (by omega), fun y => absurd y c, fun _ => ⟨fun y => absurd y d, fun _ => ⟨by unfold vp_in; decide, by unfold vp_in; decide, fun w ew => ⟨vp_in_nI hl (by omega), vp_in_nI (by omega) (by omega), ?_, ?_, h⟩⟩⟩⟩)
    · rw [ew, hall, h2]; exact nI_ne0 (by omega) (by omega)
    · rw [ew, hall, ez, ea, eb, Int32.mul_comm x, Int32.mul_comm y]
