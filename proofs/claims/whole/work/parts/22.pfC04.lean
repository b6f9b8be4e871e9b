set_option maxHeartbeats 4000000 in
set_option maxRecDepth 100000 in
theorem okX8_repeal (l : Launch) {D : va_G} {g : Nat → ClassId} {ad : Nat → Nat} (hJ : CJ ad) {u : Mm} {a1 : Int32} {Q : Int32 → Mm → Prop} (h : wX8_repeal u a1 Q) : Met l yX8_repeal (Cond.code yX8_repeal cX8_repeal 3 (some .int) :: gt) ({ frames := 1, cells := 0, slots := 0, locals := 21 } : Room) (CPc D g ad u [.ref (ad 0), .int a1]) (va_Qi Q (CB D g ad) (CA ad)) 0 0 (CA ad) := by
  refine Met.ofW (cc := cX8_repeal) (maxL := 3) (ret := (some .int)) (by decide) rfl ?_
  intro p e s m args below meth c s₁ B hml hv
  refine Centry (own := RX8) B hml hv hJ rfl (Nat.le_of_ble_eq_true rfl) (fun ls H locs X w hl => ?_)
  obtain ⟨⟨hx, hb, hml, hown, hts⟩, hr, hlocks, hK, hJ, hAA⟩ := id X
  have hl : lv_has ls 3 [(0, .ref (ad 0)), (1, .int a1)] := hl
  unfold wX8_repeal at h
  refine lv_iload_n (pc := 0) hx hb dX8_repeal_0 rfl (lv_at hl 1 rfl) ?_
  refine lv_iconst (pc := 1) (v := (4 : Int32)) hx hb dX8_repeal_1 (by decide) ?_
  refine Ccalli (rest := []) (CrunS (pc := 2) X w (okX8_below l hJ h) kw23 kmX8_below ⟨rfl, rfl⟩ ⟨by decide, by decide⟩ rfl hl.1 rfl (Nat.le_of_ble_eq_true rfl) dX8_repeal_2) w (fun r1 u9_ H locs h w => ?_)
  obtain ⟨hz_r1, h⟩ := h
  obtain ⟨rfl, h⟩ := h
  refine lv_if_ne (pc := 5) (tgt := 11) hx hb dX8_repeal_5 (by decide) (fun c_ => ?_) (fun c_ => ?_)
  · have h := h.2 c_
    refine lv_aload_n (pc := 11) hx hb dX8_repeal_11 rfl (lv_at hl 0 rfl) ?_
    refine Cgf_0_5 (pc := 12) X w kw402 dX8_repeal_12 ?_
    refine lv_iload_n (pc := 15) hx hb dX8_repeal_15 rfl (lv_at hl 1 rfl) ?_
    obtain ⟨j2, hj_, e_⟩ := vp_in_of h.1 (by decide)
    have h := h.2 j2 hj_ e_
    refine W.eq (g2 := F0 m 16 ls (.int (nI j2) :: .ref (ad 36) :: [])) (by rw [e_]) ?_
    clear e_
    rcases (show j2 = 0 ∨ j2 = 1 ∨ j2 = 2 ∨ j2 = 3 by omega) with rfl | rfl | rfl | rfl
    · refine Caq_36 0 (by decide) (pc := 16) X w dX8_repeal_16 ?_
      refine Cgf_37_1 (pc := 17) X w kw403 dX8_repeal_17 ?_
      refine lv_topi (fun x2_3 e_ => ?_)
      have h := h x2_3 e_
      refine lv_istore_n (pc := 20) (lv' := [(2, .int x2_3), (0, .ref (ad 0)), (1, .int a1)]) hx hb dX8_repeal_20 rfl hl (by decide) rfl (fun ls hl => ?_)
      refine lv_aload_n (pc := 21) hx hb dX8_repeal_21 rfl (lv_at hl 1 rfl) ?_
      refine Cgf_0_5 (pc := 22) X w kw402 dX8_repeal_22 ?_
      refine lv_iload_n (pc := 25) hx hb dX8_repeal_25 rfl (lv_at hl 2 rfl) ?_
      obtain ⟨j4, hj_, e_⟩ := vp_in_of h.1 (by decide)
      have h := h.2 j4 hj_ e_
      refine W.eq (g2 := F0 m 26 ls (.int (nI j4) :: .ref (ad 36) :: [])) (by rw [e_]) ?_
      clear e_
      rcases (show j4 = 0 ∨ j4 = 1 ∨ j4 = 2 ∨ j4 = 3 by omega) with rfl | rfl | rfl | rfl
      · refine Caq_36 0 (by decide) (pc := 26) X w dX8_repeal_26 ?_
        refine lv_iconst (pc := 27) (v := (0 : Int32)) hx hb dX8_repeal_27 (by decide) ?_
        refine Cpf_37_1 (pc := 28) X w kw403 dX8_repeal_28 (fun H locs w => ?_)
        obtain ⟨u5, e_⟩ : ∃ y : Mm, y = s32 u 693 0 (0 : Int32) := ⟨_, rfl⟩
        rw [← e_] at w
        have h := h u5 e_
        refine lv_iload_n (pc := 31) hx hb dX8_repeal_31 rfl (lv_at hl 0 rfl) ?_
        exact Ciret (pc := 32) X w h dX8_repeal_32
      · refine Caq_36 1 (by decide) (pc := 26) X w dX8_repeal_26 ?_
        refine lv_iconst (pc := 27) (v := (0 : Int32)) hx hb dX8_repeal_27 (by decide) ?_
        refine Cpf_41_1 (pc := 28) X w kw403 dX8_repeal_28 (fun H locs w => ?_)
        obtain ⟨u5, e_⟩ : ∃ y : Mm, y = s32 u 757 0 (0 : Int32) := ⟨_, rfl⟩
        rw [← e_] at w
        have h := h u5 e_
        refine lv_iload_n (pc := 31) hx hb dX8_repeal_31 rfl (lv_at hl 0 rfl) ?_
        exact Ciret (pc := 32) X w h dX8_repeal_32
      · refine Caq_36 2 (by decide) (pc := 26) X w dX8_repeal_26 ?_
        refine lv_iconst (pc := 27) (v := (0 : Int32)) hx hb dX8_repeal_27 (by decide) ?_
        refine Cpf_45_1 (pc := 28) X w kw403 dX8_repeal_28 (fun H locs w => ?_)
        obtain ⟨u5, e_⟩ : ∃ y : Mm, y = s32 u 821 0 (0 : Int32) := ⟨_, rfl⟩
        rw [← e_] at w
        have h := h u5 e_
        refine lv_iload_n (pc := 31) hx hb dX8_repeal_31 rfl (lv_at hl 0 rfl) ?_
        exact Ciret (pc := 32) X w h dX8_repeal_32
      · refine Caq_36 3 (by decide) (pc := 26) X w dX8_repeal_26 ?_
        refine lv_iconst (pc := 27) (v := (0 : Int32)) hx hb dX8_repeal_27 (by decide) ?_
        refine Cpf_49_1 (pc := 28) X w kw403 dX8_repeal_28 (fun H locs w => ?_)
        obtain ⟨u5, e_⟩ : ∃ y : Mm, y = s32 u 885 0 (0 : Int32) := ⟨_, rfl⟩
        rw [← e_] at w
        have h := h u5 e_
        refine lv_iload_n (pc := 31) hx hb dX8_repeal_31 rfl (lv_at hl 0 rfl) ?_
        exact Ciret (pc := 32) X w h dX8_repeal_32
    · refine Caq_36 1 (by decide) (pc := 16) X w dX8_repeal_16 ?_
      refine Cgf_41_1 (pc := 17) X w kw403 dX8_repeal_17 ?_
      refine lv_topi (fun x2_3 e_ => ?_)
      have h := h x2_3 e_
      refine lv_istore_n (pc := 20) (lv' := [(2, .int x2_3), (0, .ref (ad 0)), (1, .int a1)]) hx hb dX8_repeal_20 rfl hl (by decide) rfl (fun ls hl => ?_)
      refine lv_aload_n (pc := 21) hx hb dX8_repeal_21 rfl (lv_at hl 1 rfl) ?_
      refine Cgf_0_5 (pc := 22) X w kw402 dX8_repeal_22 ?_
      refine lv_iload_n (pc := 25) hx hb dX8_repeal_25 rfl (lv_at hl 2 rfl) ?_
      obtain ⟨j4, hj_, e_⟩ := vp_in_of h.1 (by decide)
      have h := h.2 j4 hj_ e_
      refine W.eq (g2 := F0 m 26 ls (.int (nI j4) :: .ref (ad 36) :: [])) (by rw [e_]) ?_
      clear e_
      rcases (show j4 = 0 ∨ j4 = 1 ∨ j4 = 2 ∨ j4 = 3 by omega) with rfl | rfl | rfl | rfl
      · refine Caq_36 0 (by decide) (pc := 26) X w dX8_repeal_26 ?_
        refine lv_iconst (pc := 27) (v := (0 : Int32)) hx hb dX8_repeal_27 (by decide) ?_
        refine Cpf_37_1 (pc := 28) X w kw403 dX8_repeal_28 (fun H locs w => ?_)
        obtain ⟨u5, e_⟩ : ∃ y : Mm, y = s32 u 693 0 (0 : Int32) := ⟨_, rfl⟩
        rw [← e_] at w
        have h := h u5 e_
        refine lv_iload_n (pc := 31) hx hb dX8_repeal_31 rfl (lv_at hl 0 rfl) ?_
        exact Ciret (pc := 32) X w h dX8_repeal_32
      · refine Caq_36 1 (by decide) (pc := 26) X w dX8_repeal_26 ?_
        refine lv_iconst (pc := 27) (v := (0 : Int32)) hx hb dX8_repeal_27 (by decide) ?_
        refine Cpf_41_1 (pc := 28) X w kw403 dX8_repeal_28 (fun H locs w => ?_)
        obtain ⟨u5, e_⟩ : ∃ y : Mm, y = s32 u 757 0 (0 : Int32) := ⟨_, rfl⟩
        rw [← e_] at w
        have h := h u5 e_
        refine lv_iload_n (pc := 31) hx hb dX8_repeal_31 rfl (lv_at hl 0 rfl) ?_
        exact Ciret (pc := 32) X w h dX8_repeal_32
      · refine Caq_36 2 (by decide) (pc := 26) X w dX8_repeal_26 ?_
        refine lv_iconst (pc := 27) (v := (0 : Int32)) hx hb dX8_repeal_27 (by decide) ?_
        refine Cpf_45_1 (pc := 28) X w kw403 dX8_repeal_28 (fun H locs w => ?_)
        obtain ⟨u5, e_⟩ : ∃ y : Mm, y = s32 u 821 0 (0 : Int32) := ⟨_, rfl⟩
        rw [← e_] at w
        have h := h u5 e_
        refine lv_iload_n (pc := 31) hx hb dX8_repeal_31 rfl (lv_at hl 0 rfl) ?_
        exact Ciret (pc := 32) X w h dX8_repeal_32
      · refine Caq_36 3 (by decide) (pc := 26) X w dX8_repeal_26 ?_
        refine lv_iconst (pc := 27) (v := (0 : Int32)) hx hb dX8_repeal_27 (by decide) ?_
        refine Cpf_49_1 (pc := 28) X w kw403 dX8_repeal_28 (fun H locs w => ?_)
        obtain ⟨u5, e_⟩ : ∃ y : Mm, y = s32 u 885 0 (0 : Int32) := ⟨_, rfl⟩
        rw [← e_] at w
        have h := h u5 e_
        refine lv_iload_n (pc := 31) hx hb dX8_repeal_31 rfl (lv_at hl 0 rfl) ?_
        exact Ciret (pc := 32) X w h dX8_repeal_32
    · refine Caq_36 2 (by decide) (pc := 16) X w dX8_repeal_16 ?_
      refine Cgf_45_1 (pc := 17) X w kw403 dX8_repeal_17 ?_
      refine lv_topi (fun x2_3 e_ => ?_)
      have h := h x2_3 e_
      refine lv_istore_n (pc := 20) (lv' := [(2, .int x2_3), (0, .ref (ad 0)), (1, .int a1)]) hx hb dX8_repeal_20 rfl hl (by decide) rfl (fun ls hl => ?_)
      refine lv_aload_n (pc := 21) hx hb dX8_repeal_21 rfl (lv_at hl 1 rfl) ?_
      refine Cgf_0_5 (pc := 22) X w kw402 dX8_repeal_22 ?_
      refine lv_iload_n (pc := 25) hx hb dX8_repeal_25 rfl (lv_at hl 2 rfl) ?_
      obtain ⟨j4, hj_, e_⟩ := vp_in_of h.1 (by decide)
      have h := h.2 j4 hj_ e_
      refine W.eq (g2 := F0 m 26 ls (.int (nI j4) :: .ref (ad 36) :: [])) (by rw [e_]) ?_
      clear e_
      rcases (show j4 = 0 ∨ j4 = 1 ∨ j4 = 2 ∨ j4 = 3 by omega) with rfl | rfl | rfl | rfl
      · refine Caq_36 0 (by decide) (pc := 26) X w dX8_repeal_26 ?_
        refine lv_iconst (pc := 27) (v := (0 : Int32)) hx hb dX8_repeal_27 (by decide) ?_
        refine Cpf_37_1 (pc := 28) X w kw403 dX8_repeal_28 (fun H locs w => ?_)
        obtain ⟨u5, e_⟩ : ∃ y : Mm, y = s32 u 693 0 (0 : Int32) := ⟨_, rfl⟩
        rw [← e_] at w
        have h := h u5 e_
        refine lv_iload_n (pc := 31) hx hb dX8_repeal_31 rfl (lv_at hl 0 rfl) ?_
        exact Ciret (pc := 32) X w h dX8_repeal_32
      · refine Caq_36 1 (by decide) (pc := 26) X w dX8_repeal_26 ?_
        refine lv_iconst (pc := 27) (v := (0 : Int32)) hx hb dX8_repeal_27 (by decide) ?_
        refine Cpf_41_1 (pc := 28) X w kw403 dX8_repeal_28 (fun H locs w => ?_)
        obtain ⟨u5, e_⟩ : ∃ y : Mm, y = s32 u 757 0 (0 : Int32) := ⟨_, rfl⟩
        rw [← e_] at w
        have h := h u5 e_
        refine lv_iload_n (pc := 31) hx hb dX8_repeal_31 rfl (lv_at hl 0 rfl) ?_
        exact Ciret (pc := 32) X w h dX8_repeal_32
      · refine Caq_36 2 (by decide) (pc := 26) X w dX8_repeal_26 ?_
        refine lv_iconst (pc := 27) (v := (0 : Int32)) hx hb dX8_repeal_27 (by decide) ?_
        refine Cpf_45_1 (pc := 28) X w kw403 dX8_repeal_28 (fun H locs w => ?_)
        obtain ⟨u5, e_⟩ : ∃ y : Mm, y = s32 u 821 0 (0 : Int32) := ⟨_, rfl⟩
        rw [← e_] at w
        have h := h u5 e_
        refine lv_iload_n (pc := 31) hx hb dX8_repeal_31 rfl (lv_at hl 0 rfl) ?_
        exact Ciret (pc := 32) X w h dX8_repeal_32
      · refine Caq_36 3 (by decide) (pc := 26) X w dX8_repeal_26 ?_
        refine lv_iconst (pc := 27) (v := (0 : Int32)) hx hb dX8_repeal_27 (by decide) ?_
        refine Cpf_49_1 (pc := 28) X w kw403 dX8_repeal_28 (fun H locs w => ?_)
        obtain ⟨u5, e_⟩ : ∃ y : Mm, y = s32 u 885 0 (0 : Int32) := ⟨_, rfl⟩
        rw [← e_] at w
        have h := h u5 e_
        refine lv_iload_n (pc := 31) hx hb dX8_repeal_31 rfl (lv_at hl 0 rfl) ?_
        exact Ciret (pc := 32) X w h dX8_repeal_32
    · refine Caq_36 3 (by decide) (pc := 16) X w dX8_repeal_16 ?_
      refine Cgf_49_1 (pc := 17) X w kw403 dX8_repeal_17 ?_
      refine lv_topi (fun x2_3 e_ => ?_)
      have h := h x2_3 e_
      refine lv_istore_n (pc := 20) (lv' := [(2, .int x2_3), (0, .ref (ad 0)), (1, .int a1)]) hx hb dX8_repeal_20 rfl hl (by decide) rfl (fun ls hl => ?_)
      refine lv_aload_n (pc := 21) hx hb dX8_repeal_21 rfl (lv_at hl 1 rfl) ?_
      refine Cgf_0_5 (pc := 22) X w kw402 dX8_repeal_22 ?_
      refine lv_iload_n (pc := 25) hx hb dX8_repeal_25 rfl (lv_at hl 2 rfl) ?_
      obtain ⟨j4, hj_, e_⟩ := vp_in_of h.1 (by decide)
      have h := h.2 j4 hj_ e_
      refine W.eq (g2 := F0 m 26 ls (.int (nI j4) :: .ref (ad 36) :: [])) (by rw [e_]) ?_
      clear e_
      rcases (show j4 = 0 ∨ j4 = 1 ∨ j4 = 2 ∨ j4 = 3 by omega) with rfl | rfl | rfl | rfl
      · refine Caq_36 0 (by decide) (pc := 26) X w dX8_repeal_26 ?_
        refine lv_iconst (pc := 27) (v := (0 : Int32)) hx hb dX8_repeal_27 (by decide) ?_
        refine Cpf_37_1 (pc := 28) X w kw403 dX8_repeal_28 (fun H locs w => ?_)
        obtain ⟨u5, e_⟩ : ∃ y : Mm, y = s32 u 693 0 (0 : Int32) := ⟨_, rfl⟩
        rw [← e_] at w
        have h := h u5 e_
        refine lv_iload_n (pc := 31) hx hb dX8_repeal_31 rfl (lv_at hl 0 rfl) ?_
        exact Ciret (pc := 32) X w h dX8_repeal_32
      · refine Caq_36 1 (by decide) (pc := 26) X w dX8_repeal_26 ?_
        refine lv_iconst (pc := 27) (v := (0 : Int32)) hx hb dX8_repeal_27 (by decide) ?_
        refine Cpf_41_1 (pc := 28) X w kw403 dX8_repeal_28 (fun H locs w => ?_)
        obtain ⟨u5, e_⟩ : ∃ y : Mm, y = s32 u 757 0 (0 : Int32) := ⟨_, rfl⟩
        rw [← e_] at w
        have h := h u5 e_
        refine lv_iload_n (pc := 31) hx hb dX8_repeal_31 rfl (lv_at hl 0 rfl) ?_
        exact Ciret (pc := 32) X w h dX8_repeal_32
      · refine Caq_36 2 (by decide) (pc := 26) X w dX8_repeal_26 ?_
        refine lv_iconst (pc := 27) (v := (0 : Int32)) hx hb dX8_repeal_27 (by decide) ?_
        refine Cpf_45_1 (pc := 28) X w kw403 dX8_repeal_28 (fun H locs w => ?_)
        obtain ⟨u5, e_⟩ : ∃ y : Mm, y = s32 u 821 0 (0 : Int32) := ⟨_, rfl⟩
        rw [← e_] at w
        have h := h u5 e_
        refine lv_iload_n (pc := 31) hx hb dX8_repeal_31 rfl (lv_at hl 0 rfl) ?_
        exact Ciret (pc := 32) X w h dX8_repeal_32
      · refine Caq_36 3 (by decide) (pc := 26) X w dX8_repeal_26 ?_
        refine lv_iconst (pc := 27) (v := (0 : Int32)) hx hb dX8_repeal_27 (by decide) ?_
        refine Cpf_49_1 (pc := 28) X w kw403 dX8_repeal_28 (fun H locs w => ?_)
        obtain ⟨u5, e_⟩ : ∃ y : Mm, y = s32 u 885 0 (0 : Int32) := ⟨_, rfl⟩
        rw [← e_] at w
        have h := h u5 e_
        refine lv_iload_n (pc := 31) hx hb dX8_repeal_31 rfl (lv_at hl 0 rfl) ?_
        exact Ciret (pc := 32) X w h dX8_repeal_32
  · have h := h.1 c_
    refine lv_bipush (pc := 8) (v := (-2 : Int32)) hx hb dX8_repeal_8 (by decide) ?_
    exact Ciret (pc := 10) X w h dX8_repeal_10
set_option maxHeartbeats 4000000 in
set_option maxRecDepth 100000 in
theorem okX8_fault (l : Launch) {D : va_G} {g : Nat → ClassId} {ad : Nat → Nat} (hJ : CJ ad) {u : Mm} {a1 : Int32} {Q : Int32 → Mm → Prop} (h : wX8_fault u a1 Q) : Met l yX8_fault (Cond.code yX8_fault cX8_fault 2 (some .int) :: gt) ({ frames := 5, cells := 0, slots := 0, locals := 115 } : Room) (CPc D g ad u [.ref (ad 0), .int a1]) (va_Qi Q (CB D g ad) (CA ad)) 0 0 (CA ad) := by
  refine Met.ofW (cc := cX8_fault) (maxL := 2) (ret := (some .int)) (by decide) rfl ?_
  intro p e s m args below meth c s₁ B hml hv
  refine Centry (own := RX8) B hml hv hJ rfl (Nat.le_of_ble_eq_true rfl) (fun ls H locs X w hl => ?_)
  obtain ⟨⟨hx, hb, hml, hown, hts⟩, hr, hlocks, hK, hJ, hAA⟩ := id X
  have hl : lv_has ls 2 [(0, .ref (ad 0)), (1, .int a1)] := hl
  unfold wX8_fault at h
  refine lv_iload_n (pc := 0) hx hb dX8_fault_0 rfl (lv_at hl 1 rfl) ?_
  refine lv_iconst (pc := 1) (v := (4 : Int32)) hx hb dX8_fault_1 (by decide) ?_
  refine Ccalli (rest := []) (CrunS (pc := 2) X w (okX8_below l hJ h) kw23 kmX8_below ⟨rfl, rfl⟩ ⟨by decide, by decide⟩ rfl hl.1 rfl (Nat.le_of_ble_eq_true rfl) dX8_fault_2) w (fun r1 u9_ H locs h w => ?_)
  obtain ⟨hz_r1, h⟩ := h
  obtain ⟨rfl, h⟩ := h
  refine lv_if_ne (pc := 5) (tgt := 11) hx hb dX8_fault_5 (by decide) (fun c_ => ?_) (fun c_ => ?_)
  · have h := h.2 c_
    refine lv_aload_n (pc := 11) hx hb dX8_fault_11 rfl (lv_at hl 0 rfl) ?_
    refine Cgf_0_5 (pc := 12) X w kw402 dX8_fault_12 ?_
    refine lv_iload_n (pc := 15) hx hb dX8_fault_15 rfl (lv_at hl 1 rfl) ?_
    obtain ⟨j2, hj_, e_⟩ := vp_in_of h.1 (by decide)
    have h := h.2 j2 hj_ e_
    refine W.eq (g2 := F0 m 16 ls (.int (nI j2) :: .ref (ad 36) :: [])) (by rw [e_]) ?_
    clear e_
    rcases (show j2 = 0 ∨ j2 = 1 ∨ j2 = 2 ∨ j2 = 3 by omega) with rfl | rfl | rfl | rfl
    · refine Caq_36 0 (by decide) (pc := 16) X w dX8_fault_16 ?_
      refine Ccalli (rest := []) (CrunV (pc := 17) X w (okX1_scan_i0 l hJ h) kw408 kmX1_scan ⟨rfl, rfl⟩ ⟨by decide, by decide⟩ (Crv_37 X w) rfl hl.1 rfl (Nat.le_of_ble_eq_true rfl) dX8_fault_17) w (fun r3 u4 H locs h w => ?_)
      exact Ciret (pc := 20) X w h dX8_fault_20
    · refine Caq_36 1 (by decide) (pc := 16) X w dX8_fault_16 ?_
      refine Ccalli (rest := []) (CrunV (pc := 17) X w (okX1_scan_i1 l hJ h) kw408 kmX1_scan ⟨rfl, rfl⟩ ⟨by decide, by decide⟩ (Crv_41 X w) rfl hl.1 rfl (Nat.le_of_ble_eq_true rfl) dX8_fault_17) w (fun r3 u4 H locs h w => ?_)
      exact Ciret (pc := 20) X w h dX8_fault_20
    · refine Caq_36 2 (by decide) (pc := 16) X w dX8_fault_16 ?_
      refine Ccalli (rest := []) (CrunV (pc := 17) X w (okX1_scan_i2 l hJ h) kw408 kmX1_scan ⟨rfl, rfl⟩ ⟨by decide, by decide⟩ (Crv_45 X w) rfl hl.1 rfl (Nat.le_of_ble_eq_true rfl) dX8_fault_17) w (fun r3 u4 H locs h w => ?_)
      exact Ciret (pc := 20) X w h dX8_fault_20
    · refine Caq_36 3 (by decide) (pc := 16) X w dX8_fault_16 ?_
      refine Ccalli (rest := []) (CrunV (pc := 17) X w (okX1_scan_i3 l hJ h) kw408 kmX1_scan ⟨rfl, rfl⟩ ⟨by decide, by decide⟩ (Crv_49 X w) rfl hl.1 rfl (Nat.le_of_ble_eq_true rfl) dX8_fault_17) w (fun r3 u4 H locs h w => ?_)
      exact Ciret (pc := 20) X w h dX8_fault_20
  · have h := h.1 c_
    refine lv_bipush (pc := 8) (v := (-2 : Int32)) hx hb dX8_fault_8 (by decide) ?_
    exact Ciret (pc := 10) X w h dX8_fault_10
set_option maxHeartbeats 4000000 in
set_option maxRecDepth 100000 in
theorem okX8_left (l : Launch) {D : va_G} {g : Nat → ClassId} {ad : Nat → Nat} (hJ : CJ ad) {u : Mm} {a1 : Int32} {a2 : Int32} {Q : Int64 → Mm → Prop} (h : wX8_left u a1 a2 Q) : Met l yX8_left (Cond.code yX8_left cX8_left 3 (some .long) :: gt) ({ frames := 6, cells := 0, slots := 0, locals := 156 } : Room) (CPc D g ad u [.ref (ad 0), .int a1, .int a2]) (va_Ql Q (CB D g ad) (CA ad)) 0 0 (CA ad) := by
  refine Met.ofW (cc := cX8_left) (maxL := 3) (ret := (some .long)) (by decide) rfl ?_
  intro p e s m args below meth c s₁ B hml hv
  refine Centry (own := RX8) B hml hv hJ rfl (Nat.le_of_ble_eq_true rfl) (fun ls H locs X w hl => ?_)
  obtain ⟨⟨hx, hb, hml, hown, hts⟩, hr, hlocks, hK, hJ, hAA⟩ := id X
  have hl : lv_has ls 3 [(0, .ref (ad 0)), (1, .int a1), (2, .int a2)] := hl
  unfold wX8_left at h
  refine lv_iload_n (pc := 0) hx hb dX8_left_0 rfl (lv_at hl 1 rfl) ?_
  refine lv_iconst (pc := 1) (v := (4 : Int32)) hx hb dX8_left_1 (by decide) ?_
  refine Ccalli (rest := []) (CrunS (pc := 2) X w (okX8_below l hJ h) kw23 kmX8_below ⟨rfl, rfl⟩ ⟨by decide, by decide⟩ rfl hl.1 rfl (Nat.le_of_ble_eq_true rfl) dX8_left_2) w (fun r1 u9_ H locs h w => ?_)
  obtain ⟨hz_r1, h⟩ := h
  obtain ⟨rfl, h⟩ := h
  refine lv_if_eq (pc := 5) (tgt := 17) hx hb dX8_left_5 (by decide) (fun c_ => ?_) (fun c_ => ?_)
  · have h := h.1 c_
    refine lv_bipush (pc := 17) (v := (-2 : Int32)) hx hb dX8_left_17 (by decide) ?_
    refine Ccalll (rest := []) (CrunS (pc := 19) X w (okX8_refused l hJ h) kw305 kmX8_refused ⟨rfl, rfl⟩ ⟨by decide, by decide⟩ rfl hl.1 rfl (Nat.le_of_ble_eq_true rfl) dX8_left_19) w (fun r2 u9_ H locs h w => ?_)
    obtain ⟨rfl, h⟩ := h
    exact Clret (pc := 22) X w h dX8_left_22
  · have h := h.2 c_
    refine lv_iload_n (pc := 8) hx hb dX8_left_8 rfl (lv_at hl 2 rfl) ?_
    refine lv_bipush (pc := 9) (v := (12 : Int32)) hx hb dX8_left_9 (by decide) ?_
    refine Ccalli (rest := []) (CrunS (pc := 11) X w (okX8_below l hJ h) kw23 kmX8_below ⟨rfl, rfl⟩ ⟨by decide, by decide⟩ rfl hl.1 rfl (Nat.le_of_ble_eq_true rfl) dX8_left_11) w (fun r3 u9_ H locs h w => ?_)
    obtain ⟨hz_r3, h⟩ := h
    obtain ⟨rfl, h⟩ := h
    refine lv_if_ne (pc := 14) (tgt := 23) hx hb dX8_left_14 (by decide) (fun c_ => ?_) (fun c_ => ?_)
    · have h := h.2 c_
      refine lv_aload_n (pc := 23) hx hb dX8_left_23 rfl (lv_at hl 0 rfl) ?_
      refine Cgf_0_5 (pc := 24) X w kw402 dX8_left_24 ?_
      refine lv_iload_n (pc := 27) hx hb dX8_left_27 rfl (lv_at hl 1 rfl) ?_
      obtain ⟨j4, hj_, e_⟩ := vp_in_of h.1 (by decide)
      have h := h.2 j4 hj_ e_
      refine W.eq (g2 := F0 m 28 ls (.int (nI j4) :: .ref (ad 36) :: [])) (by rw [e_]) ?_
      clear e_
      rcases (show j4 = 0 ∨ j4 = 1 ∨ j4 = 2 ∨ j4 = 3 by omega) with rfl | rfl | rfl | rfl
      · refine Caq_36 0 (by decide) (pc := 28) X w dX8_left_28 ?_
        refine Ccalli (rest := []) (CrunV (pc := 29) X w (okX1_scan_i0 l hJ h) kw408 kmX1_scan ⟨rfl, rfl⟩ ⟨by decide, by decide⟩ (Crv_37 X w) rfl hl.1 rfl (Nat.le_of_ble_eq_true rfl) dX8_left_29) w (fun r5 u6 H locs h w => ?_)
        refine lv_iconst (pc := 32) (v := (-1 : Int32)) hx hb dX8_left_32 (by decide) ?_
        refine lv_icmp_eq (pc := 33) (tgt := 42) hx hb dX8_left_33 (by decide) (fun c_ => ?_) (fun c_ => ?_)
        · have h := h.1 c_
          refine lv_aload_n (pc := 42) hx hb dX8_left_42 rfl (lv_at hl 0 rfl) ?_
          refine Cgf_0_1 (pc := 43) X w kw264 dX8_left_43 ?_
          refine Ccallv (rest := []) (CrunV (pc := 46) X w (okX6_settleAll l hJ h) kw331 kmX6_settleAll ⟨rfl, rfl⟩ ⟨by decide, by decide⟩ (Crv_10 X w) rfl hl.1 rfl (Nat.le_of_ble_eq_true rfl) dX8_left_46) w (fun u8 H locs h w => ?_)
          refine lv_aload_n (pc := 49) hx hb dX8_left_49 rfl (lv_at hl 0 rfl) ?_
          refine Cgf_0_5 (pc := 50) X w kw402 dX8_left_50 ?_
          refine lv_iload_n (pc := 53) hx hb dX8_left_53 rfl (lv_at hl 1 rfl) ?_
          obtain ⟨j9, hj_, e_⟩ := vp_in_of h.1 (by decide)
          have h := h.2 j9 hj_ e_
          refine W.eq (g2 := F0 m 54 ls (.int (nI j9) :: .ref (ad 36) :: [])) (by rw [e_]) ?_
          clear e_
          rcases (show j9 = 0 ∨ j9 = 1 ∨ j9 = 2 ∨ j9 = 3 by omega) with rfl | rfl | rfl | rfl
          · refine Caq_36 0 (by decide) (pc := 54) X w dX8_left_54 ?_
            refine lv_aload_n (pc := 55) hx hb dX8_left_55 rfl (lv_at hl 0 rfl) ?_
            refine Cgf_0_1 (pc := 56) X w kw264 dX8_left_56 ?_
            refine Cgf_10_9 (pc := 59) X w kw325 dX8_left_59 ?_
            refine lv_iload_n (pc := 62) hx hb dX8_left_62 rfl (lv_at hl 2 rfl) ?_
            refine Ccalll (rest := []) (CrunV (pc := 63) X w (okX1_leftOver_i0 l hJ h) kw412 kmX1_leftOver ⟨rfl, rfl⟩ ⟨by decide, by decide⟩ (Crv_37 X w) rfl hl.1 rfl (Nat.le_of_ble_eq_true rfl) dX8_left_63) w (fun r10 u9_ H locs h w => ?_)
            obtain ⟨rfl, h⟩ := h
            exact Clret (pc := 66) X w h dX8_left_66
          · refine Caq_36 1 (by decide) (pc := 54) X w dX8_left_54 ?_
            refine lv_aload_n (pc := 55) hx hb dX8_left_55 rfl (lv_at hl 0 rfl) ?_
            refine Cgf_0_1 (pc := 56) X w kw264 dX8_left_56 ?_
            refine Cgf_10_9 (pc := 59) X w kw325 dX8_left_59 ?_
            refine lv_iload_n (pc := 62) hx hb dX8_left_62 rfl (lv_at hl 2 rfl) ?_
            refine Ccalll (rest := []) (CrunV (pc := 63) X w (okX1_leftOver_i1 l hJ h) kw412 kmX1_leftOver ⟨rfl, rfl⟩ ⟨by decide, by decide⟩ (Crv_41 X w) rfl hl.1 rfl (Nat.le_of_ble_eq_true rfl) dX8_left_63) w (fun r10 u9_ H locs h w => ?_)
            obtain ⟨rfl, h⟩ := h
            exact Clret (pc := 66) X w h dX8_left_66
          · refine Caq_36 2 (by decide) (pc := 54) X w dX8_left_54 ?_
            refine lv_aload_n (pc := 55) hx hb dX8_left_55 rfl (lv_at hl 0 rfl) ?_
            refine Cgf_0_1 (pc := 56) X w kw264 dX8_left_56 ?_
            refine Cgf_10_9 (pc := 59) X w kw325 dX8_left_59 ?_
            refine lv_iload_n (pc := 62) hx hb dX8_left_62 rfl (lv_at hl 2 rfl) ?_
            refine Ccalll (rest := []) (CrunV (pc := 63) X w (okX1_leftOver_i2 l hJ h) kw412 kmX1_leftOver ⟨rfl, rfl⟩ ⟨by decide, by decide⟩ (Crv_45 X w) rfl hl.1 rfl (Nat.le_of_ble_eq_true rfl) dX8_left_63) w (fun r10 u9_ H locs h w => ?_)
            obtain ⟨rfl, h⟩ := h
            exact Clret (pc := 66) X w h dX8_left_66
          · refine Caq_36 3 (by decide) (pc := 54) X w dX8_left_54 ?_
            refine lv_aload_n (pc := 55) hx hb dX8_left_55 rfl (lv_at hl 0 rfl) ?_
            refine Cgf_0_1 (pc := 56) X w kw264 dX8_left_56 ?_
            refine Cgf_10_9 (pc := 59) X w kw325 dX8_left_59 ?_
            refine lv_iload_n (pc := 62) hx hb dX8_left_62 rfl (lv_at hl 2 rfl) ?_
            refine Ccalll (rest := []) (CrunV (pc := 63) X w (okX1_leftOver_i3 l hJ h) kw412 kmX1_leftOver ⟨rfl, rfl⟩ ⟨by decide, by decide⟩ (Crv_49 X w) rfl hl.1 rfl (Nat.le_of_ble_eq_true rfl) dX8_left_63) w (fun r10 u9_ H locs h w => ?_)
            obtain ⟨rfl, h⟩ := h
            exact Clret (pc := 66) X w h dX8_left_66
        · have h := h.2 c_
          refine lv_bipush (pc := 36) (v := (-3 : Int32)) hx hb dX8_left_36 (by decide) ?_
          refine Ccalll (rest := []) (CrunS (pc := 38) X w (okX8_refused l hJ h) kw305 kmX8_refused ⟨rfl, rfl⟩ ⟨by decide, by decide⟩ rfl hl.1 rfl (Nat.le_of_ble_eq_true rfl) dX8_left_38) w (fun r510 u9_ H locs h w => ?_)
          obtain ⟨rfl, h⟩ := h
          exact Clret (pc := 41) X w h dX8_left_41
      · refine Caq_36 1 (by decide) (pc := 28) X w dX8_left_28 ?_
        refine Ccalli (rest := []) (CrunV (pc := 29) X w (okX1_scan_i1 l hJ h) kw408 kmX1_scan ⟨rfl, rfl⟩ ⟨by decide, by decide⟩ (Crv_41 X w) rfl hl.1 rfl (Nat.le_of_ble_eq_true rfl) dX8_left_29) w (fun r5 u6 H locs h w => ?_)
        refine lv_iconst (pc := 32) (v := (-1 : Int32)) hx hb dX8_left_32 (by decide) ?_
        refine lv_icmp_eq (pc := 33) (tgt := 42) hx hb dX8_left_33 (by decide) (fun c_ => ?_) (fun c_ => ?_)
        · have h := h.1 c_
          refine lv_aload_n (pc := 42) hx hb dX8_left_42 rfl (lv_at hl 0 rfl) ?_
          refine Cgf_0_1 (pc := 43) X w kw264 dX8_left_43 ?_
          refine Ccallv (rest := []) (CrunV (pc := 46) X w (okX6_settleAll l hJ h) kw331 kmX6_settleAll ⟨rfl, rfl⟩ ⟨by decide, by decide⟩ (Crv_10 X w) rfl hl.1 rfl (Nat.le_of_ble_eq_true rfl) dX8_left_46) w (fun u8 H locs h w => ?_)
          refine lv_aload_n (pc := 49) hx hb dX8_left_49 rfl (lv_at hl 0 rfl) ?_
          refine Cgf_0_5 (pc := 50) X w kw402 dX8_left_50 ?_
          refine lv_iload_n (pc := 53) hx hb dX8_left_53 rfl (lv_at hl 1 rfl) ?_
          obtain ⟨j9, hj_, e_⟩ := vp_in_of h.1 (by decide)
          have h := h.2 j9 hj_ e_
          refine W.eq (g2 := F0 m 54 ls (.int (nI j9) :: .ref (ad 36) :: [])) (by rw [e_]) ?_
          clear e_
          rcases (show j9 = 0 ∨ j9 = 1 ∨ j9 = 2 ∨ j9 = 3 by omega) with rfl | rfl | rfl | rfl
          · refine Caq_36 0 (by decide) (pc := 54) X w dX8_left_54 ?_
            refine lv_aload_n (pc := 55) hx hb dX8_left_55 rfl (lv_at hl 0 rfl) ?_
            refine Cgf_0_1 (pc := 56) X w kw264 dX8_left_56 ?_
            refine Cgf_10_9 (pc := 59) X w kw325 dX8_left_59 ?_
            refine lv_iload_n (pc := 62) hx hb dX8_left_62 rfl (lv_at hl 2 rfl) ?_
            refine Ccalll (rest := []) (CrunV (pc := 63) X w (okX1_leftOver_i0 l hJ h) kw412 kmX1_leftOver ⟨rfl, rfl⟩ ⟨by decide, by decide⟩ (Crv_37 X w) rfl hl.1 rfl (Nat.le_of_ble_eq_true rfl) dX8_left_63) w (fun r10 u9_ H locs h w => ?_)
            obtain ⟨rfl, h⟩ := h
            exact Clret (pc := 66) X w h dX8_left_66
          · refine Caq_36 1 (by decide) (pc := 54) X w dX8_left_54 ?_
            refine lv_aload_n (pc := 55) hx hb dX8_left_55 rfl (lv_at hl 0 rfl) ?_
            refine Cgf_0_1 (pc := 56) X w kw264 dX8_left_56 ?_
            refine Cgf_10_9 (pc := 59) X w kw325 dX8_left_59 ?_
            refine lv_iload_n (pc := 62) hx hb dX8_left_62 rfl (lv_at hl 2 rfl) ?_
            refine Ccalll (rest := []) (CrunV (pc := 63) X w (okX1_leftOver_i1 l hJ h) kw412 kmX1_leftOver ⟨rfl, rfl⟩ ⟨by decide, by decide⟩ (Crv_41 X w) rfl hl.1 rfl (Nat.le_of_ble_eq_true rfl) dX8_left_63) w (fun r10 u9_ H locs h w => ?_)
            obtain ⟨rfl, h⟩ := h
            exact Clret (pc := 66) X w h dX8_left_66
          · refine Caq_36 2 (by decide) (pc := 54) X w dX8_left_54 ?_
            refine lv_aload_n (pc := 55) hx hb dX8_left_55 rfl (lv_at hl 0 rfl) ?_
            refine Cgf_0_1 (pc := 56) X w kw264 dX8_left_56 ?_
            refine Cgf_10_9 (pc := 59) X w kw325 dX8_left_59 ?_
            refine lv_iload_n (pc := 62) hx hb dX8_left_62 rfl (lv_at hl 2 rfl) ?_
            refine Ccalll (rest := []) (CrunV (pc := 63) X w (okX1_leftOver_i2 l hJ h) kw412 kmX1_leftOver ⟨rfl, rfl⟩ ⟨by decide, by decide⟩ (Crv_45 X w) rfl hl.1 rfl (Nat.le_of_ble_eq_true rfl) dX8_left_63) w (fun r10 u9_ H locs h w => ?_)
            obtain ⟨rfl, h⟩ := h
            exact Clret (pc := 66) X w h dX8_left_66
          · refine Caq_36 3 (by decide) (pc := 54) X w dX8_left_54 ?_
            refine lv_aload_n (pc := 55) hx hb dX8_left_55 rfl (lv_at hl 0 rfl) ?_
            refine Cgf_0_1 (pc := 56) X w kw264 dX8_left_56 ?_
            refine Cgf_10_9 (pc := 59) X w kw325 dX8_left_59 ?_
            refine lv_iload_n (pc := 62) hx hb dX8_left_62 rfl (lv_at hl 2 rfl) ?_
            refine Ccalll (rest := []) (CrunV (pc := 63) X w (okX1_leftOver_i3 l hJ h) kw412 kmX1_leftOver ⟨rfl, rfl⟩ ⟨by decide, by decide⟩ (Crv_49 X w) rfl hl.1 rfl (Nat.le_of_ble_eq_true rfl) dX8_left_63) w (fun r10 u9_ H locs h w => ?_)
            obtain ⟨rfl, h⟩ := h
            exact Clret (pc := 66) X w h dX8_left_66
        · have h := h.2 c_
          refine lv_bipush (pc := 36) (v := (-3 : Int32)) hx hb dX8_left_36 (by decide) ?_
          refine Ccalll (rest := []) (CrunS (pc := 38) X w (okX8_refused l hJ h) kw305 kmX8_refused ⟨rfl, rfl⟩ ⟨by decide, by decide⟩ rfl hl.1 rfl (Nat.le_of_ble_eq_true rfl) dX8_left_38) w (fun r510 u9_ H locs h w => ?_)
          obtain ⟨rfl, h⟩ := h
          exact Clret (pc := 41) X w h dX8_left_41
      · refine Caq_36 2 (by decide) (pc := 28) X w dX8_left_28 ?_
        refine Ccalli (rest := []) (CrunV (pc := 29) X w (okX1_scan_i2 l hJ h) kw408 kmX1_scan ⟨rfl, rfl⟩ ⟨by decide, by decide⟩ (Crv_45 X w) rfl hl.1 rfl (Nat.le_of_ble_eq_true rfl) dX8_left_29) w (fun r5 u6 H locs h w => ?_)
        refine lv_iconst (pc := 32) (v := (-1 : Int32)) hx hb dX8_left_32 (by decide) ?_
        refine lv_icmp_eq (pc := 33) (tgt := 42) hx hb dX8_left_33 (by decide) (fun c_ => ?_) (fun c_ => ?_)
        · have h := h.1 c_
          refine lv_aload_n (pc := 42) hx hb dX8_left_42 rfl (lv_at hl 0 rfl) ?_
          refine Cgf_0_1 (pc := 43) X w kw264 dX8_left_43 ?_
          refine Ccallv (rest := []) (CrunV (pc := 46) X w (okX6_settleAll l hJ h) kw331 kmX6_settleAll ⟨rfl, rfl⟩ ⟨by decide, by decide⟩ (Crv_10 X w) rfl hl.1 rfl (Nat.le_of_ble_eq_true rfl) dX8_left_46) w (fun u8 H locs h w => ?_)
          refine lv_aload_n (pc := 49) hx hb dX8_left_49 rfl (lv_at hl 0 rfl) ?_
          refine Cgf_0_5 (pc := 50) X w kw402 dX8_left_50 ?_
          refine lv_iload_n (pc := 53) hx hb dX8_left_53 rfl (lv_at hl 1 rfl) ?_
          obtain ⟨j9, hj_, e_⟩ := vp_in_of h.1 (by decide)
          have h := h.2 j9 hj_ e_
          refine W.eq (g2 := F0 m 54 ls (.int (nI j9) :: .ref (ad 36) :: [])) (by rw [e_]) ?_
          clear e_
          rcases (show j9 = 0 ∨ j9 = 1 ∨ j9 = 2 ∨ j9 = 3 by omega) with rfl | rfl | rfl | rfl
          · refine Caq_36 0 (by decide) (pc := 54) X w dX8_left_54 ?_
            refine lv_aload_n (pc := 55) hx hb dX8_left_55 rfl (lv_at hl 0 rfl) ?_
            refine Cgf_0_1 (pc := 56) X w kw264 dX8_left_56 ?_
            refine Cgf_10_9 (pc := 59) X w kw325 dX8_left_59 ?_
            refine lv_iload_n (pc := 62) hx hb dX8_left_62 rfl (lv_at hl 2 rfl) ?_
            refine Ccalll (rest := []) (CrunV (pc := 63) X w (okX1_leftOver_i0 l hJ h) kw412 kmX1_leftOver ⟨rfl, rfl⟩ ⟨by decide, by decide⟩ (Crv_37 X w) rfl hl.1 rfl (Nat.le_of_ble_eq_true rfl) dX8_left_63) w (fun r10 u9_ H locs h w => ?_)
            obtain ⟨rfl, h⟩ := h
            exact Clret (pc := 66) X w h dX8_left_66
          · refine Caq_36 1 (by decide) (pc := 54) X w dX8_left_54 ?_
            refine lv_aload_n (pc := 55) hx hb dX8_left_55 rfl (lv_at hl 0 rfl) ?_
            refine Cgf_0_1 (pc := 56) X w kw264 dX8_left_56 ?_
            refine Cgf_10_9 (pc := 59) X w kw325 dX8_left_59 ?_
            refine lv_iload_n (pc := 62) hx hb dX8_left_62 rfl (lv_at hl 2 rfl) ?_
            refine Ccalll (rest := []) (CrunV (pc := 63) X w (okX1_leftOver_i1 l hJ h) kw412 kmX1_leftOver ⟨rfl, rfl⟩ ⟨by decide, by decide⟩ (Crv_41 X w) rfl hl.1 rfl (Nat.le_of_ble_eq_true rfl) dX8_left_63) w (fun r10 u9_ H locs h w => ?_)
            obtain ⟨rfl, h⟩ := h
            exact Clret (pc := 66) X w h dX8_left_66
          · refine Caq_36 2 (by decide) (pc := 54) X w dX8_left_54 ?_
            refine lv_aload_n (pc := 55) hx hb dX8_left_55 rfl (lv_at hl 0 rfl) ?_
            refine Cgf_0_1 (pc := 56) X w kw264 dX8_left_56 ?_
            refine Cgf_10_9 (pc := 59) X w kw325 dX8_left_59 ?_
            refine lv_iload_n (pc := 62) hx hb dX8_left_62 rfl (lv_at hl 2 rfl) ?_
            refine Ccalll (rest := []) (CrunV (pc := 63) X w (okX1_leftOver_i2 l hJ h) kw412 kmX1_leftOver ⟨rfl, rfl⟩ ⟨by decide, by decide⟩ (Crv_45 X w) rfl hl.1 rfl (Nat.le_of_ble_eq_true rfl) dX8_left_63) w (fun r10 u9_ H locs h w => ?_)
            obtain ⟨rfl, h⟩ := h
            exact Clret (pc := 66) X w h dX8_left_66
          · refine Caq_36 3 (by decide) (pc := 54) X w dX8_left_54 ?_
            refine lv_aload_n (pc := 55) hx hb dX8_left_55 rfl (lv_at hl 0 rfl) ?_
            refine Cgf_0_1 (pc := 56) X w kw264 dX8_left_56 ?_
            refine Cgf_10_9 (pc := 59) X w kw325 dX8_left_59 ?_
            refine lv_iload_n (pc := 62) hx hb dX8_left_62 rfl (lv_at hl 2 rfl) ?_
            refine Ccalll (rest := []) (CrunV (pc := 63) X w (okX1_leftOver_i3 l hJ h) kw412 kmX1_leftOver ⟨rfl, rfl⟩ ⟨by decide, by decide⟩ (Crv_49 X w) rfl hl.1 rfl (Nat.le_of_ble_eq_true rfl) dX8_left_63) w (fun r10 u9_ H locs h w => ?_)
            obtain ⟨rfl, h⟩ := h
            exact Clret (pc := 66) X w h dX8_left_66
        · have h := h.2 c_
          refine lv_bipush (pc := 36) (v := (-3 : Int32)) hx hb dX8_left_36 (by decide) ?_
          refine Ccalll (rest := []) (CrunS (pc := 38) X w (okX8_refused l hJ h) kw305 kmX8_refused ⟨rfl, rfl⟩ ⟨by decide, by decide⟩ rfl hl.1 rfl (Nat.le_of_ble_eq_true rfl) dX8_left_38) w (fun r510 u9_ H locs h w => ?_)
          obtain ⟨rfl, h⟩ := h
          exact Clret (pc := 41) X w h dX8_left_41
      · refine Caq_36 3 (by decide) (pc := 28) X w dX8_left_28 ?_
        refine Ccalli (rest := []) (CrunV (pc := 29) X w (okX1_scan_i3 l hJ h) kw408 kmX1_scan ⟨rfl, rfl⟩ ⟨by decide, by decide⟩ (Crv_49 X w) rfl hl.1 rfl (Nat.le_of_ble_eq_true rfl) dX8_left_29) w (fun r5 u6 H locs h w => ?_)
        refine lv_iconst (pc := 32) (v := (-1 : Int32)) hx hb dX8_left_32 (by decide) ?_
        refine lv_icmp_eq (pc := 33) (tgt := 42) hx hb dX8_left_33 (by decide) (fun c_ => ?_) (fun c_ => ?_)
        · have h := h.1 c_
          refine lv_aload_n (pc := 42) hx hb dX8_left_42 rfl (lv_at hl 0 rfl) ?_
          refine Cgf_0_1 (pc := 43) X w kw264 dX8_left_43 ?_
          refine Ccallv (rest := []) (CrunV (pc := 46) X w (okX6_settleAll l hJ h) kw331 kmX6_settleAll ⟨rfl, rfl⟩ ⟨by decide, by decide⟩ (Crv_10 X w) rfl hl.1 rfl (Nat.le_of_ble_eq_true rfl) dX8_left_46) w (fun u8 H locs h w => ?_)
          refine lv_aload_n (pc := 49) hx hb dX8_left_49 rfl (lv_at hl 0 rfl) ?_
          refine Cgf_0_5 (pc := 50) X w kw402 dX8_left_50 ?_
          refine lv_iload_n (pc := 53) hx hb dX8_left_53 rfl (lv_at hl 1 rfl) ?_
          obtain ⟨j9, hj_, e_⟩ := vp_in_of h.1 (by decide)
          have h := h.2 j9 hj_ e_
          refine W.eq (g2 := F0 m 54 ls (.int (nI j9) :: .ref (ad 36) :: [])) (by rw [e_]) ?_
          clear e_
          rcases (show j9 = 0 ∨ j9 = 1 ∨ j9 = 2 ∨ j9 = 3 by omega) with rfl | rfl | rfl | rfl
          · refine Caq_36 0 (by decide) (pc := 54) X w dX8_left_54 ?_
            refine lv_aload_n (pc := 55) hx hb dX8_left_55 rfl (lv_at hl 0 rfl) ?_
            refine Cgf_0_1 (pc := 56) X w kw264 dX8_left_56 ?_
            refine Cgf_10_9 (pc := 59) X w kw325 dX8_left_59 ?_
            refine lv_iload_n (pc := 62) hx hb dX8_left_62 rfl (lv_at hl 2 rfl) ?_
            refine Ccalll (rest := []) (CrunV (pc := 63) X w (okX1_leftOver_i0 l hJ h) kw412 kmX1_leftOver ⟨rfl, rfl⟩ ⟨by decide, by decide⟩ (Crv_37 X w) rfl hl.1 rfl (Nat.le_of_ble_eq_true rfl) dX8_left_63) w (fun r10 u9_ H locs h w => ?_)
            obtain ⟨rfl, h⟩ := h
            exact Clret (pc := 66) X w h dX8_left_66
          · refine Caq_36 1 (by decide) (pc := 54) X w dX8_left_54 ?_
            refine lv_aload_n (pc := 55) hx hb dX8_left_55 rfl (lv_at hl 0 rfl) ?_
            refine Cgf_0_1 (pc := 56) X w kw264 dX8_left_56 ?_
            refine Cgf_10_9 (pc := 59) X w kw325 dX8_left_59 ?_
            refine lv_iload_n (pc := 62) hx hb dX8_left_62 rfl (lv_at hl 2 rfl) ?_
            refine Ccalll (rest := []) (CrunV (pc := 63) X w (okX1_leftOver_i1 l hJ h) kw412 kmX1_leftOver ⟨rfl, rfl⟩ ⟨by decide, by decide⟩ (Crv_41 X w) rfl hl.1 rfl (Nat.le_of_ble_eq_true rfl) dX8_left_63) w (fun r10 u9_ H locs h w => ?_)
            obtain ⟨rfl, h⟩ := h
            exact Clret (pc := 66) X w h dX8_left_66
          · refine Caq_36 2 (by decide) (pc := 54) X w dX8_left_54 ?_
            refine lv_aload_n (pc := 55) hx hb dX8_left_55 rfl (lv_at hl 0 rfl) ?_
            refine Cgf_0_1 (pc := 56) X w kw264 dX8_left_56 ?_
            refine Cgf_10_9 (pc := 59) X w kw325 dX8_left_59 ?_
            refine lv_iload_n (pc := 62) hx hb dX8_left_62 rfl (lv_at hl 2 rfl) ?_
            refine Ccalll (rest := []) (CrunV (pc := 63) X w (okX1_leftOver_i2 l hJ h) kw412 kmX1_leftOver ⟨rfl, rfl⟩ ⟨by decide, by decide⟩ (Crv_45 X w) rfl hl.1 rfl (Nat.le_of_ble_eq_true rfl) dX8_left_63) w (fun r10 u9_ H locs h w => ?_)
            obtain ⟨rfl, h⟩ := h
            exact Clret (pc := 66) X w h dX8_left_66
          · refine Caq_36 3 (by decide) (pc := 54) X w dX8_left_54 ?_
            refine lv_aload_n (pc := 55) hx hb dX8_left_55 rfl (lv_at hl 0 rfl) ?_
            refine Cgf_0_1 (pc := 56) X w kw264 dX8_left_56 ?_
            refine Cgf_10_9 (pc := 59) X w kw325 dX8_left_59 ?_
            refine lv_iload_n (pc := 62) hx hb dX8_left_62 rfl (lv_at hl 2 rfl) ?_
            refine Ccalll (rest := []) (CrunV (pc := 63) X w (okX1_leftOver_i3 l hJ h) kw412 kmX1_leftOver ⟨rfl, rfl⟩ ⟨by decide, by decide⟩ (Crv_49 X w) rfl hl.1 rfl (Nat.le_of_ble_eq_true rfl) dX8_left_63) w (fun r10 u9_ H locs h w => ?_)
            obtain ⟨rfl, h⟩ := h
            exact Clret (pc := 66) X w h dX8_left_66
        · have h := h.2 c_
          refine lv_bipush (pc := 36) (v := (-3 : Int32)) hx hb dX8_left_36 (by decide) ?_
          refine Ccalll (rest := []) (CrunS (pc := 38) X w (okX8_refused l hJ h) kw305 kmX8_refused ⟨rfl, rfl⟩ ⟨by decide, by decide⟩ rfl hl.1 rfl (Nat.le_of_ble_eq_true rfl) dX8_left_38) w (fun r510 u9_ H locs h w => ?_)
          obtain ⟨rfl, h⟩ := h
          exact Clret (pc := 41) X w h dX8_left_41
    · have h := h.1 c_
      refine lv_bipush (pc := 17) (v := (-2 : Int32)) hx hb dX8_left_17 (by decide) ?_
      refine Ccalll (rest := []) (CrunS (pc := 19) X w (okX8_refused l hJ h) kw305 kmX8_refused ⟨rfl, rfl⟩ ⟨by decide, by decide⟩ rfl hl.1 rfl (Nat.le_of_ble_eq_true rfl) dX8_left_19) w (fun r505 u9_ H locs h w => ?_)
      obtain ⟨rfl, h⟩ := h
      exact Clret (pc := 22) X w h dX8_left_22
set_option maxHeartbeats 4000000 in
set_option maxRecDepth 100000 in
theorem bX8_unkept_23 {l : Launch} {p : Program} {e : Env} {s : State} {m : MethodId} {args : Array Value} {below : List Frame} {meth : Method} {c : Code} {D : va_G} {g : Nat → ClassId} {ad : Nat → Nat} {Q : Int32 → Mm → Prop} (X : CX p s m args meth c cX8_unkept RX8 4 (some .int) (Cond.code yX8_unkept cX8_unkept 4 (some .int)) D g ad (CA ad)) : ∀ (n : Nat) (u : Mm) (x1 : Int32) (x2 : Int32) (x3 : Int32) (H : Heap) (locs : List Loc) (ls : Array Slot), wX8_unkept_b23 Q n u x1 x2 x3 → CWd D g ad (CA ad) s u H locs → lv_has ls 4 [(0, .ref (ad 0)), (1, .int x1), (2, .int x2), (3, .int x3)] → W p l e ({ frames := 6, cells := 0, slots := 0, locals := 156 } : Room) s m args below meth c H locs 0 0 (MQ below (va_Qi Q (CB D g ad) (CA ad)) args s 0 0 (CA ad)) (F0 m 23 ls []) := by
  obtain ⟨⟨hx, hb, hml, hown, hts⟩, hr, hlocks, hK, hJ, hAA⟩ := id X
  intro n
  induction n with
  | zero =>
    intro u x1 x2 x3 H locs ls h
    exact False.elim h
  | succ n ih =>
    intro u x1 x2 x3 H locs ls h w hl
    unfold wX8_unkept_b23 at h
    refine lv_iload_n (pc := 23) hx hb dX8_unkept_23 rfl (lv_at hl 3 rfl) ?_
    refine lv_iconst (pc := 24) (v := (4 : Int32)) hx hb dX8_unkept_24 (by decide) ?_
    refine lv_icmp_ge (pc := 25) (tgt := 72) hx hb dX8_unkept_25 (by decide) (fun c_ => ?_) (fun c_ => ?_)
    · have h := h.1 c_
      refine lv_iload_n (pc := 72) hx hb dX8_unkept_72 rfl (lv_at hl 2 rfl) ?_
      exact Ciret (pc := 73) X w h dX8_unkept_73
    · have h := h.2 c_
      refine lv_aload_n (pc := 28) hx hb dX8_unkept_28 rfl (lv_at hl 0 rfl) ?_
      refine Cgf_0_5 (pc := 29) X w kw402 dX8_unkept_29 ?_
      refine lv_iload_n (pc := 32) hx hb dX8_unkept_32 rfl (lv_at hl 3 rfl) ?_
      obtain ⟨j1, hj_, e_⟩ := vp_in_of h.1 (by decide)
      have h := h.2 j1 hj_ e_
      refine W.eq (g2 := F0 m 33 ls (.int (nI j1) :: .ref (ad 36) :: [])) (by rw [e_]) ?_
      clear e_
      rcases (show j1 = 0 ∨ j1 = 1 ∨ j1 = 2 ∨ j1 = 3 by omega) with rfl | rfl | rfl | rfl
      · refine Caq_36 0 (by decide) (pc := 33) X w dX8_unkept_33 ?_
        refine Ccalli (rest := []) (CrunV (pc := 34) X w (okX1_scan_i0 l hJ h) kw408 kmX1_scan ⟨rfl, rfl⟩ ⟨by decide, by decide⟩ (Crv_37 X w) rfl hl.1 rfl (Nat.le_of_ble_eq_true rfl) dX8_unkept_34) w (fun r2 u3 H locs h w => ?_)
        refine lv_iconst (pc := 37) (v := (-1 : Int32)) hx hb dX8_unkept_37 (by decide) ?_
        refine lv_icmp_ne (pc := 38) (tgt := 66) hx hb dX8_unkept_38 (by decide) (fun c_ => ?_) (fun c_ => ?_)
        · have h := h.2 c_
          obtain ⟨x3_4, e_⟩ : ∃ y : Int32, y = x3 + (1 : Int32) := ⟨_, rfl⟩
          have h := h x3_4 e_
          refine lv_iinc (pc := 66) (v := x3_4) (lv' := [(3, .int x3_4), (0, .ref (ad 0)), (1, .int x1), (2, .int x2)]) hx hb dX8_unkept_66 hl (k := 3) rfl (by rw [e_]; rfl) (by decide) rfl (fun ls hl => ?_)
          refine lv_goto (pc := 69) (tgt := 23) hx hb dX8_unkept_69 (by decide) ?_
          exact ih u3 x1 x2 x3_4 H locs ls h w (lv_sub hl [1, 2, 3, 0] rfl)
        · have h := h.1 c_
          refine lv_aload_n (pc := 41) hx hb dX8_unkept_41 rfl (lv_at hl 0 rfl) ?_
          refine Cgf_0_5 (pc := 42) X w kw402 dX8_unkept_42 ?_
          refine lv_iload_n (pc := 45) hx hb dX8_unkept_45 rfl (lv_at hl 3 rfl) ?_
          obtain ⟨j5, hj_, e_⟩ := vp_in_of h.1 (by decide)
          have h := h.2 j5 hj_ e_
          refine W.eq (g2 := F0 m 46 ls (.int (nI j5) :: .ref (ad 36) :: [])) (by rw [e_]) ?_
          clear e_
          rcases (show j5 = 0 ∨ j5 = 1 ∨ j5 = 2 ∨ j5 = 3 by omega) with rfl | rfl | rfl | rfl
          · refine Caq_36 0 (by decide) (pc := 46) X w dX8_unkept_46 ?_
            refine lv_aload_n (pc := 47) hx hb dX8_unkept_47 rfl (lv_at hl 0 rfl) ?_
            refine Cgf_0_1 (pc := 48) X w kw264 dX8_unkept_48 ?_
            refine Cgf_10_9 (pc := 51) X w kw325 dX8_unkept_51 ?_
            refine lv_iload_n (pc := 54) hx hb dX8_unkept_54 rfl (lv_at hl 1 rfl) ?_
            refine Ccalll (rest := []) (CrunV (pc := 55) X w (okX1_leftOver_i0 l hJ h) kw412 kmX1_leftOver ⟨rfl, rfl⟩ ⟨by decide, by decide⟩ (Crv_37 X w) rfl hl.1 rfl (Nat.le_of_ble_eq_true rfl) dX8_unkept_55) w (fun r6 u9_ H locs h w => ?_)
            obtain ⟨rfl, h⟩ := h
            refine lv_lconst (pc := 58) (v := (0 : Int64)) hx hb dX8_unkept_58 (by decide) ?_
            refine lq_eq (pc := 59) (tgt := 66) hx hb dX8_unkept_59 dX8_unkept_60 (by decide) (fun c_ => ?_) (fun c_ => ?_)
            · have h := h.1 c_
              obtain ⟨x3_7, e_⟩ : ∃ y : Int32, y = x3 + (1 : Int32) := ⟨_, rfl⟩
              have h := h x3_7 e_
              refine lv_iinc (pc := 66) (v := x3_7) (lv' := [(3, .int x3_7), (0, .ref (ad 0)), (1, .int x1), (2, .int x2)]) hx hb dX8_unkept_66 hl (k := 3) rfl (by rw [e_]; rfl) (by decide) rfl (fun ls hl => ?_)
              refine lv_goto (pc := 69) (tgt := 23) hx hb dX8_unkept_69 (by decide) ?_
              exact ih u3 x1 x2 x3_7 H locs ls h w (lv_sub hl [1, 2, 3, 0] rfl)
            · have h := h.2 c_
              obtain ⟨x2_8, e_⟩ : ∃ y : Int32, y = x2 + (1 : Int32) := ⟨_, rfl⟩
              have h := h x2_8 e_
              refine lv_iinc (pc := 63) (v := x2_8) (lv' := [(2, .int x2_8), (0, .ref (ad 0)), (1, .int x1), (3, .int x3)]) hx hb dX8_unkept_63 hl (k := 2) rfl (by rw [e_]; rfl) (by decide) rfl (fun ls hl => ?_)
              obtain ⟨x3_9, e_⟩ : ∃ y : Int32, y = x3 + (1 : Int32) := ⟨_, rfl⟩
              have h := h x3_9 e_
              refine lv_iinc (pc := 66) (v := x3_9) (lv' := [(3, .int x3_9), (2, .int x2_8), (0, .ref (ad 0)), (1, .int x1)]) hx hb dX8_unkept_66 hl (k := 3) rfl (by rw [e_]; rfl) (by decide) rfl (fun ls hl => ?_)
              refine lv_goto (pc := 69) (tgt := 23) hx hb dX8_unkept_69 (by decide) ?_
              exact ih u3 x1 x2_8 x3_9 H locs ls h w (lv_sub hl [2, 3, 1, 0] rfl)
          · refine Caq_36 1 (by decide) (pc := 46) X w dX8_unkept_46 ?_
            refine lv_aload_n (pc := 47) hx hb dX8_unkept_47 rfl (lv_at hl 0 rfl) ?_
            refine Cgf_0_1 (pc := 48) X w kw264 dX8_unkept_48 ?_
            refine Cgf_10_9 (pc := 51) X w kw325 dX8_unkept_51 ?_
            refine lv_iload_n (pc := 54) hx hb dX8_unkept_54 rfl (lv_at hl 1 rfl) ?_
            refine Ccalll (rest := []) (CrunV (pc := 55) X w (okX1_leftOver_i1 l hJ h) kw412 kmX1_leftOver ⟨rfl, rfl⟩ ⟨by decide, by decide⟩ (Crv_41 X w) rfl hl.1 rfl (Nat.le_of_ble_eq_true rfl) dX8_unkept_55) w (fun r6 u9_ H locs h w => ?_)
            obtain ⟨rfl, h⟩ := h
            refine lv_lconst (pc := 58) (v := (0 : Int64)) hx hb dX8_unkept_58 (by decide) ?_
            refine lq_eq (pc := 59) (tgt := 66) hx hb dX8_unkept_59 dX8_unkept_60 (by decide) (fun c_ => ?_) (fun c_ => ?_)
            · have h := h.1 c_
              obtain ⟨x3_7, e_⟩ : ∃ y : Int32, y = x3 + (1 : Int32) := ⟨_, rfl⟩
              have h := h x3_7 e_
              refine lv_iinc (pc := 66) (v := x3_7) (lv' := [(3, .int x3_7), (0, .ref (ad 0)), (1, .int x1), (2, .int x2)]) hx hb dX8_unkept_66 hl (k := 3) rfl (by rw [e_]; rfl) (by decide) rfl (fun ls hl => ?_)
              refine lv_goto (pc := 69) (tgt := 23) hx hb dX8_unkept_69 (by decide) ?_
              exact ih u3 x1 x2 x3_7 H locs ls h w (lv_sub hl [1, 2, 3, 0] rfl)
            · have h := h.2 c_
              obtain ⟨x2_8, e_⟩ : ∃ y : Int32, y = x2 + (1 : Int32) := ⟨_, rfl⟩
              have h := h x2_8 e_
              refine lv_iinc (pc := 63) (v := x2_8) (lv' := [(2, .int x2_8), (0, .ref (ad 0)), (1, .int x1), (3, .int x3)]) hx hb dX8_unkept_63 hl (k := 2) rfl (by rw [e_]; rfl) (by decide) rfl (fun ls hl => ?_)
              obtain ⟨x3_9, e_⟩ : ∃ y : Int32, y = x3 + (1 : Int32) := ⟨_, rfl⟩
              have h := h x3_9 e_
              refine lv_iinc (pc := 66) (v := x3_9) (lv' := [(3, .int x3_9), (2, .int x2_8), (0, .ref (ad 0)), (1, .int x1)]) hx hb dX8_unkept_66 hl (k := 3) rfl (by rw [e_]; rfl) (by decide) rfl (fun ls hl => ?_)
              refine lv_goto (pc := 69) (tgt := 23) hx hb dX8_unkept_69 (by decide) ?_
              exact ih u3 x1 x2_8 x3_9 H locs ls h w (lv_sub hl [2, 3, 1, 0] rfl)
          · refine Caq_36 2 (by decide) (pc := 46) X w dX8_unkept_46 ?_
            refine lv_aload_n (pc := 47) hx hb dX8_unkept_47 rfl (lv_at hl 0 rfl) ?_
            refine Cgf_0_1 (pc := 48) X w kw264 dX8_unkept_48 ?_
            refine Cgf_10_9 (pc := 51) X w kw325 dX8_unkept_51 ?_
            refine lv_iload_n (pc := 54) hx hb dX8_unkept_54 rfl (lv_at hl 1 rfl) ?_
            refine Ccalll (rest := []) (CrunV (pc := 55) X w (okX1_leftOver_i2 l hJ h) kw412 kmX1_leftOver ⟨rfl, rfl⟩ ⟨by decide, by decide⟩ (Crv_45 X w) rfl hl.1 rfl (Nat.le_of_ble_eq_true rfl) dX8_unkept_55) w (fun r6 u9_ H locs h w => ?_)
            obtain ⟨rfl, h⟩ := h
            refine lv_lconst (pc := 58) (v := (0 : Int64)) hx hb dX8_unkept_58 (by decide) ?_
            refine lq_eq (pc := 59) (tgt := 66) hx hb dX8_unkept_59 dX8_unkept_60 (by decide) (fun c_ => ?_) (fun c_ => ?_)
            · have h := h.1 c_
              obtain ⟨x3_7, e_⟩ : ∃ y : Int32, y = x3 + (1 : Int32) := ⟨_, rfl⟩
              have h := h x3_7 e_
              refine lv_iinc (pc := 66) (v := x3_7) (lv' := [(3, .int x3_7), (0, .ref (ad 0)), (1, .int x1), (2, .int x2)]) hx hb dX8_unkept_66 hl (k := 3) rfl (by rw [e_]; rfl) (by decide) rfl (fun ls hl => ?_)
              refine lv_goto (pc := 69) (tgt := 23) hx hb dX8_unkept_69 (by decide) ?_
              exact ih u3 x1 x2 x3_7 H locs ls h w (lv_sub hl [1, 2, 3, 0] rfl)
            · have h := h.2 c_
              obtain ⟨x2_8, e_⟩ : ∃ y : Int32, y = x2 + (1 : Int32) := ⟨_, rfl⟩
              have h := h x2_8 e_
              refine lv_iinc (pc := 63) (v := x2_8) (lv' := [(2, .int x2_8), (0, .ref (ad 0)), (1, .int x1), (3, .int x3)]) hx hb dX8_unkept_63 hl (k := 2) rfl (by rw [e_]; rfl) (by decide) rfl (fun ls hl => ?_)
              obtain ⟨x3_9, e_⟩ : ∃ y : Int32, y = x3 + (1 : Int32) := ⟨_, rfl⟩
              have h := h x3_9 e_
              refine lv_iinc (pc := 66) (v := x3_9) (lv' := [(3, .int x3_9), (2, .int x2_8), (0, .ref (ad 0)), (1, .int x1)]) hx hb dX8_unkept_66 hl (k := 3) rfl (by rw [e_]; rfl) (by decide) rfl (fun ls hl => ?_)
              refine lv_goto (pc := 69) (tgt := 23) hx hb dX8_unkept_69 (by decide) ?_
              exact ih u3 x1 x2_8 x3_9 H locs ls h w (lv_sub hl [2, 3, 1, 0] rfl)
          · refine Caq_36 3 (by decide) (pc := 46) X w dX8_unkept_46 ?_
            refine lv_aload_n (pc := 47) hx hb dX8_unkept_47 rfl (lv_at hl 0 rfl) ?_
            refine Cgf_0_1 (pc := 48) X w kw264 dX8_unkept_48 ?_
            refine Cgf_10_9 (pc := 51) X w kw325 dX8_unkept_51 ?_
            refine lv_iload_n (pc := 54) hx hb dX8_unkept_54 rfl (lv_at hl 1 rfl) ?_
            refine Ccalll (rest := []) (CrunV (pc := 55) X w (okX1_leftOver_i3 l hJ h) kw412 kmX1_leftOver ⟨rfl, rfl⟩ ⟨by decide, by decide⟩ (Crv_49 X w) rfl hl.1 rfl (Nat.le_of_ble_eq_true rfl) dX8_unkept_55) w (fun r6 u9_ H locs h w => ?_)
            obtain ⟨rfl, h⟩ := h
            refine lv_lconst (pc := 58) (v := (0 : Int64)) hx hb dX8_unkept_58 (by decide) ?_
            refine lq_eq (pc := 59) (tgt := 66) hx hb dX8_unkept_59 dX8_unkept_60 (by decide) (fun c_ => ?_) (fun c_ => ?_)
            · have h := h.1 c_
              obtain ⟨x3_7, e_⟩ : ∃ y : Int32, y = x3 + (1 : Int32) := ⟨_, rfl⟩
              have h := h x3_7 e_
              refine lv_iinc (pc := 66) (v := x3_7) (lv' := [(3, .int x3_7), (0, .ref (ad 0)), (1, .int x1), (2, .int x2)]) hx hb dX8_unkept_66 hl (k := 3) rfl (by rw [e_]; rfl) (by decide) rfl (fun ls hl => ?_)
              refine lv_goto (pc := 69) (tgt := 23) hx hb dX8_unkept_69 (by decide) ?_
              exact ih u3 x1 x2 x3_7 H locs ls h w (lv_sub hl [1, 2, 3, 0] rfl)
            · have h := h.2 c_
              obtain ⟨x2_8, e_⟩ : ∃ y : Int32, y = x2 + (1 : Int32) := ⟨_, rfl⟩
              have h := h x2_8 e_
              refine lv_iinc (pc := 63) (v := x2_8) (lv' := [(2, .int x2_8), (0, .ref (ad 0)), (1, .int x1), (3, .int x3)]) hx hb dX8_unkept_63 hl (k := 2) rfl (by rw [e_]; rfl) (by decide) rfl (fun ls hl => ?_)
              obtain ⟨x3_9, e_⟩ : ∃ y : Int32, y = x3 + (1 : Int32) := ⟨_, rfl⟩
              have h := h x3_9 e_
              refine lv_iinc (pc := 66) (v := x3_9) (lv' := [(3, .int x3_9), (2, .int x2_8), (0, .ref (ad 0)), (1, .int x1)]) hx hb dX8_unkept_66 hl (k := 3) rfl (by rw [e_]; rfl) (by decide) rfl (fun ls hl => ?_)
              refine lv_goto (pc := 69) (tgt := 23) hx hb dX8_unkept_69 (by decide) ?_
              exact ih u3 x1 x2_8 x3_9 H locs ls h w (lv_sub hl [2, 3, 1, 0] rfl)
      · refine Caq_36 1 (by decide) (pc := 33) X w dX8_unkept_33 ?_
        refine Ccalli (rest := []) (CrunV (pc := 34) X w (okX1_scan_i1 l hJ h) kw408 kmX1_scan ⟨rfl, rfl⟩ ⟨by decide, by decide⟩ (Crv_41 X w) rfl hl.1 rfl (Nat.le_of_ble_eq_true rfl) dX8_unkept_34) w (fun r2 u3 H locs h w => ?_)
        refine lv_iconst (pc := 37) (v := (-1 : Int32)) hx hb dX8_unkept_37 (by decide) ?_
        refine lv_icmp_ne (pc := 38) (tgt := 66) hx hb dX8_unkept_38 (by decide) (fun c_ => ?_) (fun c_ => ?_)
        · have h := h.2 c_
          obtain ⟨x3_4, e_⟩ : ∃ y : Int32, y = x3 + (1 : Int32) := ⟨_, rfl⟩
          have h := h x3_4 e_
          refine lv_iinc (pc := 66) (v := x3_4) (lv' := [(3, .int x3_4), (0, .ref (ad 0)), (1, .int x1), (2, .int x2)]) hx hb dX8_unkept_66 hl (k := 3) rfl (by rw [e_]; rfl) (by decide) rfl (fun ls hl => ?_)
          refine lv_goto (pc := 69) (tgt := 23) hx hb dX8_unkept_69 (by decide) ?_
          exact ih u3 x1 x2 x3_4 H locs ls h w (lv_sub hl [1, 2, 3, 0] rfl)
        · have h := h.1 c_
          refine lv_aload_n (pc := 41) hx hb dX8_unkept_41 rfl (lv_at hl 0 rfl) ?_
          refine Cgf_0_5 (pc := 42) X w kw402 dX8_unkept_42 ?_
          refine lv_iload_n (pc := 45) hx hb dX8_unkept_45 rfl (lv_at hl 3 rfl) ?_
          obtain ⟨j5, hj_, e_⟩ := vp_in_of h.1 (by decide)
          have h := h.2 j5 hj_ e_
          refine W.eq (g2 := F0 m 46 ls (.int (nI j5) :: .ref (ad 36) :: [])) (by rw [e_]) ?_
          clear e_
          rcases (show j5 = 0 ∨ j5 = 1 ∨ j5 = 2 ∨ j5 = 3 by omega) with rfl | rfl | rfl | rfl
          · refine Caq_36 0 (by decide) (pc := 46) X w dX8_unkept_46 ?_
            refine lv_aload_n (pc := 47) hx hb dX8_unkept_47 rfl (lv_at hl 0 rfl) ?_
            refine Cgf_0_1 (pc := 48) X w kw264 dX8_unkept_48 ?_
            refine Cgf_10_9 (pc := 51) X w kw325 dX8_unkept_51 ?_
            refine lv_iload_n (pc := 54) hx hb dX8_unkept_54 rfl (lv_at hl 1 rfl) ?_
            refine Ccalll (rest := []) (CrunV (pc := 55) X w (okX1_leftOver_i0 l hJ h) kw412 kmX1_leftOver ⟨rfl, rfl⟩ ⟨by decide, by decide⟩ (Crv_37 X w) rfl hl.1 rfl (Nat.le_of_ble_eq_true rfl) dX8_unkept_55) w (fun r6 u9_ H locs h w => ?_)
            obtain ⟨rfl, h⟩ := h
            refine lv_lconst (pc := 58) (v := (0 : Int64)) hx hb dX8_unkept_58 (by decide) ?_
            refine lq_eq (pc := 59) (tgt := 66) hx hb dX8_unkept_59 dX8_unkept_60 (by decide) (fun c_ => ?_) (fun c_ => ?_)
            · have h := h.1 c_
              obtain ⟨x3_7, e_⟩ : ∃ y : Int32, y = x3 + (1 : Int32) := ⟨_, rfl⟩
              have h := h x3_7 e_
              refine lv_iinc (pc := 66) (v := x3_7) (lv' := [(3, .int x3_7), (0, .ref (ad 0)), (1, .int x1), (2, .int x2)]) hx hb dX8_unkept_66 hl (k := 3) rfl (by rw [e_]; rfl) (by decide) rfl (fun ls hl => ?_)
              refine lv_goto (pc := 69) (tgt := 23) hx hb dX8_unkept_69 (by decide) ?_
              exact ih u3 x1 x2 x3_7 H locs ls h w (lv_sub hl [1, 2, 3, 0] rfl)
            · have h := h.2 c_
              obtain ⟨x2_8, e_⟩ : ∃ y : Int32, y = x2 + (1 : Int32) := ⟨_, rfl⟩
              have h := h x2_8 e_
              refine lv_iinc (pc := 63) (v := x2_8) (lv' := [(2, .int x2_8), (0, .ref (ad 0)), (1, .int x1), (3, .int x3)]) hx hb dX8_unkept_63 hl (k := 2) rfl (by rw [e_]; rfl) (by decide) rfl (fun ls hl => ?_)
              obtain ⟨x3_9, e_⟩ : ∃ y : Int32, y = x3 + (1 : Int32) := ⟨_, rfl⟩
              have h := h x3_9 e_
              refine lv_iinc (pc := 66) (v := x3_9) (lv' := [(3, .int x3_9), (2, .int x2_8), (0, .ref (ad 0)), (1, .int x1)]) hx hb dX8_unkept_66 hl (k := 3) rfl (by rw [e_]; rfl) (by decide) rfl (fun ls hl => ?_)
              refine lv_goto (pc := 69) (tgt := 23) hx hb dX8_unkept_69 (by decide) ?_
              exact ih u3 x1 x2_8 x3_9 H locs ls h w (lv_sub hl [2, 3, 1, 0] rfl)
          · refine Caq_36 1 (by decide) (pc := 46) X w dX8_unkept_46 ?_
            refine lv_aload_n (pc := 47) hx hb dX8_unkept_47 rfl (lv_at hl 0 rfl) ?_
            refine Cgf_0_1 (pc := 48) X w kw264 dX8_unkept_48 ?_
            refine Cgf_10_9 (pc := 51) X w kw325 dX8_unkept_51 ?_
            refine lv_iload_n (pc := 54) hx hb dX8_unkept_54 rfl (lv_at hl 1 rfl) ?_
            refine Ccalll (rest := []) (CrunV (pc := 55) X w (okX1_leftOver_i1 l hJ h) kw412 kmX1_leftOver ⟨rfl, rfl⟩ ⟨by decide, by decide⟩ (Crv_41 X w) rfl hl.1 rfl (Nat.le_of_ble_eq_true rfl) dX8_unkept_55) w (fun r6 u9_ H locs h w => ?_)
            obtain ⟨rfl, h⟩ := h
            refine lv_lconst (pc := 58) (v := (0 : Int64)) hx hb dX8_unkept_58 (by decide) ?_
            refine lq_eq (pc := 59) (tgt := 66) hx hb dX8_unkept_59 dX8_unkept_60 (by decide) (fun c_ => ?_) (fun c_ => ?_)
            · have h := h.1 c_
              obtain ⟨x3_7, e_⟩ : ∃ y : Int32, y = x3 + (1 : Int32) := ⟨_, rfl⟩
              have h := h x3_7 e_
              refine lv_iinc (pc := 66) (v := x3_7) (lv' := [(3, .int x3_7), (0, .ref (ad 0)), (1, .int x1), (2, .int x2)]) hx hb dX8_unkept_66 hl (k := 3) rfl (by rw [e_]; rfl) (by decide) rfl (fun ls hl => ?_)
              refine lv_goto (pc := 69) (tgt := 23) hx hb dX8_unkept_69 (by decide) ?_
              exact ih u3 x1 x2 x3_7 H locs ls h w (lv_sub hl [1, 2, 3, 0] rfl)
            · have h := h.2 c_
              obtain ⟨x2_8, e_⟩ : ∃ y : Int32, y = x2 + (1 : Int32) := ⟨_, rfl⟩
              have h := h x2_8 e_
              refine lv_iinc (pc := 63) (v := x2_8) (lv' := [(2, .int x2_8), (0, .ref (ad 0)), (1, .int x1), (3, .int x3)]) hx hb dX8_unkept_63 hl (k := 2) rfl (by rw [e_]; rfl) (by decide) rfl (fun ls hl => ?_)
              obtain ⟨x3_9, e_⟩ : ∃ y : Int32, y = x3 + (1 : Int32) := ⟨_, rfl⟩
              have h := h x3_9 e_
              refine lv_iinc (pc := 66) (v := x3_9) (lv' := [(3, .int x3_9), (2, .int x2_8), (0, .ref (ad 0)), (1, .int x1)]) hx hb dX8_unkept_66 hl (k := 3) rfl (by rw [e_]; rfl) (by decide) rfl (fun ls hl => ?_)
              refine lv_goto (pc := 69) (tgt := 23) hx hb dX8_unkept_69 (by decide) ?_
              exact ih u3 x1 x2_8 x3_9 H locs ls h w (lv_sub hl [2, 3, 1, 0] rfl)
          · refine Caq_36 2 (by decide) (pc := 46) X w dX8_unkept_46 ?_
            refine lv_aload_n (pc := 47) hx hb dX8_unkept_47 rfl (lv_at hl 0 rfl) ?_
            refine Cgf_0_1 (pc := 48) X w kw264 dX8_unkept_48 ?_
            refine Cgf_10_9 (pc := 51) X w kw325 dX8_unkept_51 ?_
            refine lv_iload_n (pc := 54) hx hb dX8_unkept_54 rfl (lv_at hl 1 rfl) ?_
            refine Ccalll (rest := []) (CrunV (pc := 55) X w (okX1_leftOver_i2 l hJ h) kw412 kmX1_leftOver ⟨rfl, rfl⟩ ⟨by decide, by decide⟩ (Crv_45 X w) rfl hl.1 rfl (Nat.le_of_ble_eq_true rfl) dX8_unkept_55) w (fun r6 u9_ H locs h w => ?_)
            obtain ⟨rfl, h⟩ := h
            refine lv_lconst (pc := 58) (v := (0 : Int64)) hx hb dX8_unkept_58 (by decide) ?_
            refine lq_eq (pc := 59) (tgt := 66) hx hb dX8_unkept_59 dX8_unkept_60 (by decide) (fun c_ => ?_) (fun c_ => ?_)
            · have h := h.1 c_
              obtain ⟨x3_7, e_⟩ : ∃ y : Int32, y = x3 + (1 : Int32) := ⟨_, rfl⟩
              have h := h x3_7 e_
              refine lv_iinc (pc := 66) (v := x3_7) (lv' := [(3, .int x3_7), (0, .ref (ad 0)), (1, .int x1), (2, .int x2)]) hx hb dX8_unkept_66 hl (k := 3) rfl (by rw [e_]; rfl) (by decide) rfl (fun ls hl => ?_)
              refine lv_goto (pc := 69) (tgt := 23) hx hb dX8_unkept_69 (by decide) ?_
              exact ih u3 x1 x2 x3_7 H locs ls h w (lv_sub hl [1, 2, 3, 0] rfl)
            · have h := h.2 c_
              obtain ⟨x2_8, e_⟩ : ∃ y : Int32, y = x2 + (1 : Int32) := ⟨_, rfl⟩
              have h := h x2_8 e_
              refine lv_iinc (pc := 63) (v := x2_8) (lv' := [(2, .int x2_8), (0, .ref (ad 0)), (1, .int x1), (3, .int x3)]) hx hb dX8_unkept_63 hl (k := 2) rfl (by rw [e_]; rfl) (by decide) rfl (fun ls hl => ?_)
              obtain ⟨x3_9, e_⟩ : ∃ y : Int32, y = x3 + (1 : Int32) := ⟨_, rfl⟩
              have h := h x3_9 e_
              refine lv_iinc (pc := 66) (v := x3_9) (lv' := [(3, .int x3_9), (2, .int x2_8), (0, .ref (ad 0)), (1, .int x1)]) hx hb dX8_unkept_66 hl (k := 3) rfl (by rw [e_]; rfl) (by decide) rfl (fun ls hl => ?_)
              refine lv_goto (pc := 69) (tgt := 23) hx hb dX8_unkept_69 (by decide) ?_
              exact ih u3 x1 x2_8 x3_9 H locs ls h w (lv_sub hl [2, 3, 1, 0] rfl)
          · refine Caq_36 3 (by decide) (pc := 46) X w dX8_unkept_46 ?_
            refine lv_aload_n (pc := 47) hx hb dX8_unkept_47 rfl (lv_at hl 0 rfl) ?_
            refine Cgf_0_1 (pc := 48) X w kw264 dX8_unkept_48 ?_
            refine Cgf_10_9 (pc := 51) X w kw325 dX8_unkept_51 ?_
            refine lv_iload_n (pc := 54) hx hb dX8_unkept_54 rfl (lv_at hl 1 rfl) ?_
            refine Ccalll (rest := []) (CrunV (pc := 55) X w (okX1_leftOver_i3 l hJ h) kw412 kmX1_leftOver ⟨rfl, rfl⟩ ⟨by decide, by decide⟩ (Crv_49 X w) rfl hl.1 rfl (Nat.le_of_ble_eq_true rfl) dX8_unkept_55) w (fun r6 u9_ H locs h w => ?_)
            obtain ⟨rfl, h⟩ := h
            refine lv_lconst (pc := 58) (v := (0 : Int64)) hx hb dX8_unkept_58 (by decide) ?_
            refine lq_eq (pc := 59) (tgt := 66) hx hb dX8_unkept_59 dX8_unkept_60 (by decide) (fun c_ => ?_) (fun c_ => ?_)
            · have h := h.1 c_
              obtain ⟨x3_7, e_⟩ : ∃ y : Int32, y = x3 + (1 : Int32) := ⟨_, rfl⟩
              have h := h x3_7 e_
              refine lv_iinc (pc := 66) (v := x3_7) (lv' := [(3, .int x3_7), (0, .ref (ad 0)), (1, .int x1), (2, .int x2)]) hx hb dX8_unkept_66 hl (k := 3) rfl (by rw [e_]; rfl) (by decide) rfl (fun ls hl => ?_)
              refine lv_goto (pc := 69) (tgt := 23) hx hb dX8_unkept_69 (by decide) ?_
              exact ih u3 x1 x2 x3_7 H locs ls h w (lv_sub hl [1, 2, 3, 0] rfl)
            · have h := h.2 c_
              obtain ⟨x2_8, e_⟩ : ∃ y : Int32, y = x2 + (1 : Int32) := ⟨_, rfl⟩
              have h := h x2_8 e_
              refine lv_iinc (pc := 63) (v := x2_8) (lv' := [(2, .int x2_8), (0, .ref (ad 0)), (1, .int x1), (3, .int x3)]) hx hb dX8_unkept_63 hl (k := 2) rfl (by rw [e_]; rfl) (by decide) rfl (fun ls hl => ?_)
              obtain ⟨x3_9, e_⟩ : ∃ y : Int32, y = x3 + (1 : Int32) := ⟨_, rfl⟩
              have h := h x3_9 e_
              refine lv_iinc (pc := 66) (v := x3_9) (lv' := [(3, .int x3_9), (2, .int x2_8), (0, .ref (ad 0)), (1, .int x1)]) hx hb dX8_unkept_66 hl (k := 3) rfl (by rw [e_]; rfl) (by decide) rfl (fun ls hl => ?_)
              refine lv_goto (pc := 69) (tgt := 23) hx hb dX8_unkept_69 (by decide) ?_
              exact ih u3 x1 x2_8 x3_9 H locs ls h w (lv_sub hl [2, 3, 1, 0] rfl)
      · refine Caq_36 2 (by decide) (pc := 33) X w dX8_unkept_33 ?_
        refine Ccalli (rest := []) (CrunV (pc := 34) X w (okX1_scan_i2 l hJ h) kw408 kmX1_scan ⟨rfl, rfl⟩ ⟨by decide, by decide⟩ (Crv_45 X w) rfl hl.1 rfl (Nat.le_of_ble_eq_true rfl) dX8_unkept_34) w (fun r2 u3 H locs h w => ?_)
        refine lv_iconst (pc := 37) (v := (-1 : Int32)) hx hb dX8_unkept_37 (by decide) ?_
        refine lv_icmp_ne (pc := 38) (tgt := 66) hx hb dX8_unkept_38 (by decide) (fun c_ => ?_) (fun c_ => ?_)
        · have h := h.2 c_
          obtain ⟨x3_4, e_⟩ : ∃ y : Int32, y = x3 + (1 : Int32) := ⟨_, rfl⟩
          have h := h x3_4 e_
          refine lv_iinc (pc := 66) (v := x3_4) (lv' := [(3, .int x3_4), (0, .ref (ad 0)), (1, .int x1), (2, .int x2)]) hx hb dX8_unkept_66 hl (k := 3) rfl (by rw [e_]; rfl) (by decide) rfl (fun ls hl => ?_)
          refine lv_goto (pc := 69) (tgt := 23) hx hb dX8_unkept_69 (by decide) ?_
          exact ih u3 x1 x2 x3_4 H locs ls h w (lv_sub hl [1, 2, 3, 0] rfl)
        · have h := h.1 c_
          refine lv_aload_n (pc := 41) hx hb dX8_unkept_41 rfl (lv_at hl 0 rfl) ?_
          refine Cgf_0_5 (pc := 42) X w kw402 dX8_unkept_42 ?_
          refine lv_iload_n (pc := 45) hx hb dX8_unkept_45 rfl (lv_at hl 3 rfl) ?_
          obtain ⟨j5, hj_, e_⟩ := vp_in_of h.1 (by decide)
          have h := h.2 j5 hj_ e_
          refine W.eq (g2 := F0 m 46 ls (.int (nI j5) :: .ref (ad 36) :: [])) (by rw [e_]) ?_
          clear e_
          rcases (show j5 = 0 ∨ j5 = 1 ∨ j5 = 2 ∨ j5 = 3 by omega) with rfl | rfl | rfl | rfl
          · refine Caq_36 0 (by decide) (pc := 46) X w dX8_unkept_46 ?_
            refine lv_aload_n (pc := 47) hx hb dX8_unkept_47 rfl (lv_at hl 0 rfl) ?_
            refine Cgf_0_1 (pc := 48) X w kw264 dX8_unkept_48 ?_
            refine Cgf_10_9 (pc := 51) X w kw325 dX8_unkept_51 ?_
            refine lv_iload_n (pc := 54) hx hb dX8_unkept_54 rfl (lv_at hl 1 rfl) ?_
            refine Ccalll (rest := []) (CrunV (pc := 55) X w (okX1_leftOver_i0 l hJ h) kw412 kmX1_leftOver ⟨rfl, rfl⟩ ⟨by decide, by decide⟩ (Crv_37 X w) rfl hl.1 rfl (Nat.le_of_ble_eq_true rfl) dX8_unkept_55) w (fun r6 u9_ H locs h w => ?_)
            obtain ⟨rfl, h⟩ := h
            refine lv_lconst (pc := 58) (v := (0 : Int64)) hx hb dX8_unkept_58 (by decide) ?_
            refine lq_eq (pc := 59) (tgt := 66) hx hb dX8_unkept_59 dX8_unkept_60 (by decide) (fun c_ => ?_) (fun c_ => ?_)
            · have h := h.1 c_
              obtain ⟨x3_7, e_⟩ : ∃ y : Int32, y = x3 + (1 : Int32) := ⟨_, rfl⟩
              have h := h x3_7 e_
              refine lv_iinc (pc := 66) (v := x3_7) (lv' := [(3, .int x3_7), (0, .ref (ad 0)), (1, .int x1), (2, .int x2)]) hx hb dX8_unkept_66 hl (k := 3) rfl (by rw [e_]; rfl) (by decide) rfl (fun ls hl => ?_)
              refine lv_goto (pc := 69) (tgt := 23) hx hb dX8_unkept_69 (by decide) ?_
              exact ih u3 x1 x2 x3_7 H locs ls h w (lv_sub hl [1, 2, 3, 0] rfl)
            · have h := h.2 c_
              obtain ⟨x2_8, e_⟩ : ∃ y : Int32, y = x2 + (1 : Int32) := ⟨_, rfl⟩
              have h := h x2_8 e_
              refine lv_iinc (pc := 63) (v := x2_8) (lv' := [(2, .int x2_8), (0, .ref (ad 0)), (1, .int x1), (3, .int x3)]) hx hb dX8_unkept_63 hl (k := 2) rfl (by rw [e_]; rfl) (by decide) rfl (fun ls hl => ?_)
              obtain ⟨x3_9, e_⟩ : ∃ y : Int32, y = x3 + (1 : Int32) := ⟨_, rfl⟩
              have h := h x3_9 e_
              refine lv_iinc (pc := 66) (v := x3_9) (lv' := [(3, .int x3_9), (2, .int x2_8), (0, .ref (ad 0)), (1, .int x1)]) hx hb dX8_unkept_66 hl (k := 3) rfl (by rw [e_]; rfl) (by decide) rfl (fun ls hl => ?_)
              refine lv_goto (pc := 69) (tgt := 23) hx hb dX8_unkept_69 (by decide) ?_
              exact ih u3 x1 x2_8 x3_9 H locs ls h w (lv_sub hl [2, 3, 1, 0] rfl)
          · refine Caq_36 1 (by decide) (pc := 46) X w dX8_unkept_46 ?_
            refine lv_aload_n (pc := 47) hx hb dX8_unkept_47 rfl (lv_at hl 0 rfl) ?_
            refine Cgf_0_1 (pc := 48) X w kw264 dX8_unkept_48 ?_
            refine Cgf_10_9 (pc := 51) X w kw325 dX8_unkept_51 ?_
            refine lv_iload_n (pc := 54) hx hb dX8_unkept_54 rfl (lv_at hl 1 rfl) ?_
            refine Ccalll (rest := []) (CrunV (pc := 55) X w (okX1_leftOver_i1 l hJ h) kw412 kmX1_leftOver ⟨rfl, rfl⟩ ⟨by decide, by decide⟩ (Crv_41 X w) rfl hl.1 rfl (Nat.le_of_ble_eq_true rfl) dX8_unkept_55) w (fun r6 u9_ H locs h w => ?_)
            obtain ⟨rfl, h⟩ := h
            refine lv_lconst (pc := 58) (v := (0 : Int64)) hx hb dX8_unkept_58 (by decide) ?_
            refine lq_eq (pc := 59) (tgt := 66) hx hb dX8_unkept_59 dX8_unkept_60 (by decide) (fun c_ => ?_) (fun c_ => ?_)
            · have h := h.1 c_
              obtain ⟨x3_7, e_⟩ : ∃ y : Int32, y = x3 + (1 : Int32) := ⟨_, rfl⟩
              have h := h x3_7 e_
              refine lv_iinc (pc := 66) (v := x3_7) (lv' := [(3, .int x3_7), (0, .ref (ad 0)), (1, .int x1), (2, .int x2)]) hx hb dX8_unkept_66 hl (k := 3) rfl (by rw [e_]; rfl) (by decide) rfl (fun ls hl => ?_)
              refine lv_goto (pc := 69) (tgt := 23) hx hb dX8_unkept_69 (by decide) ?_
              exact ih u3 x1 x2 x3_7 H locs ls h w (lv_sub hl [1, 2, 3, 0] rfl)
            · have h := h.2 c_
              obtain ⟨x2_8, e_⟩ : ∃ y : Int32, y = x2 + (1 : Int32) := ⟨_, rfl⟩
              have h := h x2_8 e_
              refine lv_iinc (pc := 63) (v := x2_8) (lv' := [(2, .int x2_8), (0, .ref (ad 0)), (1, .int x1), (3, .int x3)]) hx hb dX8_unkept_63 hl (k := 2) rfl (by rw [e_]; rfl) (by decide) rfl (fun ls hl => ?_)
              obtain ⟨x3_9, e_⟩ : ∃ y : Int32, y = x3 + (1 : Int32) := ⟨_, rfl⟩
              have h := h x3_9 e_
              refine lv_iinc (pc := 66) (v := x3_9) (lv' := [(3, .int x3_9), (2, .int x2_8), (0, .ref (ad 0)), (1, .int x1)]) hx hb dX8_unkept_66 hl (k := 3) rfl (by rw [e_]; rfl) (by decide) rfl (fun ls hl => ?_)
              refine lv_goto (pc := 69) (tgt := 23) hx hb dX8_unkept_69 (by decide) ?_
              exact ih u3 x1 x2_8 x3_9 H locs ls h w (lv_sub hl [2, 3, 1, 0] rfl)
          · refine Caq_36 2 (by decide) (pc := 46) X w dX8_unkept_46 ?_
            refine lv_aload_n (pc := 47) hx hb dX8_unkept_47 rfl (lv_at hl 0 rfl) ?_
            refine Cgf_0_1 (pc := 48) X w kw264 dX8_unkept_48 ?_
            refine Cgf_10_9 (pc := 51) X w kw325 dX8_unkept_51 ?_
            refine lv_iload_n (pc := 54) hx hb dX8_unkept_54 rfl (lv_at hl 1 rfl) ?_
            refine Ccalll (rest := []) (CrunV (pc := 55) X w (okX1_leftOver_i2 l hJ h) kw412 kmX1_leftOver ⟨rfl, rfl⟩ ⟨by decide, by decide⟩ (Crv_45 X w) rfl hl.1 rfl (Nat.le_of_ble_eq_true rfl) dX8_unkept_55) w (fun r6 u9_ H locs h w => ?_)
            obtain ⟨rfl, h⟩ := h
            refine lv_lconst (pc := 58) (v := (0 : Int64)) hx hb dX8_unkept_58 (by decide) ?_
            refine lq_eq (pc := 59) (tgt := 66) hx hb dX8_unkept_59 dX8_unkept_60 (by decide) (fun c_ => ?_) (fun c_ => ?_)
            · have h := h.1 c_
              obtain ⟨x3_7, e_⟩ : ∃ y : Int32, y = x3 + (1 : Int32) := ⟨_, rfl⟩
              have h := h x3_7 e_
              refine lv_iinc (pc := 66) (v := x3_7) (lv' := [(3, .int x3_7), (0, .ref (ad 0)), (1, .int x1), (2, .int x2)]) hx hb dX8_unkept_66 hl (k := 3) rfl (by rw [e_]; rfl) (by decide) rfl (fun ls hl => ?_)
              refine lv_goto (pc := 69) (tgt := 23) hx hb dX8_unkept_69 (by decide) ?_
              exact ih u3 x1 x2 x3_7 H locs ls h w (lv_sub hl [1, 2, 3, 0] rfl)
            · have h := h.2 c_
              obtain ⟨x2_8, e_⟩ : ∃ y : Int32, y = x2 + (1 : Int32) := ⟨_, rfl⟩
              have h := h x2_8 e_
              refine lv_iinc (pc := 63) (v := x2_8) (lv' := [(2, .int x2_8), (0, .ref (ad 0)), (1, .int x1), (3, .int x3)]) hx hb dX8_unkept_63 hl (k := 2) rfl (by rw [e_]; rfl) (by decide) rfl (fun ls hl => ?_)
              obtain ⟨x3_9, e_⟩ : ∃ y : Int32, y = x3 + (1 : Int32) := ⟨_, rfl⟩
              have h := h x3_9 e_
              refine lv_iinc (pc := 66) (v := x3_9) (lv' := [(3, .int x3_9), (2, .int x2_8), (0, .ref (ad 0)), (1, .int x1)]) hx hb dX8_unkept_66 hl (k := 3) rfl (by rw [e_]; rfl) (by decide) rfl (fun ls hl => ?_)
              refine lv_goto (pc := 69) (tgt := 23) hx hb dX8_unkept_69 (by decide) ?_
              exact ih u3 x1 x2_8 x3_9 H locs ls h w (lv_sub hl [2, 3, 1, 0] rfl)
          · refine Caq_36 3 (by decide) (pc := 46) X w dX8_unkept_46 ?_
            refine lv_aload_n (pc := 47) hx hb dX8_unkept_47 rfl (lv_at hl 0 rfl) ?_
            refine Cgf_0_1 (pc := 48) X w kw264 dX8_unkept_48 ?_
            refine Cgf_10_9 (pc := 51) X w kw325 dX8_unkept_51 ?_
            refine lv_iload_n (pc := 54) hx hb dX8_unkept_54 rfl (lv_at hl 1 rfl) ?_
            refine Ccalll (rest := []) (CrunV (pc := 55) X w (okX1_leftOver_i3 l hJ h) kw412 kmX1_leftOver ⟨rfl, rfl⟩ ⟨by decide, by decide⟩ (Crv_49 X w) rfl hl.1 rfl (Nat.le_of_ble_eq_true rfl) dX8_unkept_55) w (fun r6 u9_ H locs h w => ?_)
            obtain ⟨rfl, h⟩ := h
            refine lv_lconst (pc := 58) (v := (0 : Int64)) hx hb dX8_unkept_58 (by decide) ?_
            refine lq_eq (pc := 59) (tgt := 66) hx hb dX8_unkept_59 dX8_unkept_60 (by decide) (fun c_ => ?_) (fun c_ => ?_)
            · have h := h.1 c_
              obtain ⟨x3_7, e_⟩ : ∃ y : Int32, y = x3 + (1 : Int32) := ⟨_, rfl⟩
              have h := h x3_7 e_
              refine lv_iinc (pc := 66) (v := x3_7) (lv' := [(3, .int x3_7), (0, .ref (ad 0)), (1, .int x1), (2, .int x2)]) hx hb dX8_unkept_66 hl (k := 3) rfl (by rw [e_]; rfl) (by decide) rfl (fun ls hl => ?_)
              refine lv_goto (pc := 69) (tgt := 23) hx hb dX8_unkept_69 (by decide) ?_
              exact ih u3 x1 x2 x3_7 H locs ls h w (lv_sub hl [1, 2, 3, 0] rfl)
            · have h := h.2 c_
              obtain ⟨x2_8, e_⟩ : ∃ y : Int32, y = x2 + (1 : Int32) := ⟨_, rfl⟩
              have h := h x2_8 e_
              refine lv_iinc (pc := 63) (v := x2_8) (lv' := [(2, .int x2_8), (0, .ref (ad 0)), (1, .int x1), (3, .int x3)]) hx hb dX8_unkept_63 hl (k := 2) rfl (by rw [e_]; rfl) (by decide) rfl (fun ls hl => ?_)
              obtain ⟨x3_9, e_⟩ : ∃ y : Int32, y = x3 + (1 : Int32) := ⟨_, rfl⟩
              have h := h x3_9 e_
              refine lv_iinc (pc := 66) (v := x3_9) (lv' := [(3, .int x3_9), (2, .int x2_8), (0, .ref (ad 0)), (1, .int x1)]) hx hb dX8_unkept_66 hl (k := 3) rfl (by rw [e_]; rfl) (by decide) rfl (fun ls hl => ?_)
              refine lv_goto (pc := 69) (tgt := 23) hx hb dX8_unkept_69 (by decide) ?_
              exact ih u3 x1 x2_8 x3_9 H locs ls h w (lv_sub hl [2, 3, 1, 0] rfl)
      · refine Caq_36 3 (by decide) (pc := 33) X w dX8_unkept_33 ?_
        refine Ccalli (rest := []) (CrunV (pc := 34) X w (okX1_scan_i3 l hJ h) kw408 kmX1_scan ⟨rfl, rfl⟩ ⟨by decide, by decide⟩ (Crv_49 X w) rfl hl.1 rfl (Nat.le_of_ble_eq_true rfl) dX8_unkept_34) w (fun r2 u3 H locs h w => ?_)
        refine lv_iconst (pc := 37) (v := (-1 : Int32)) hx hb dX8_unkept_37 (by decide) ?_
        refine lv_icmp_ne (pc := 38) (tgt := 66) hx hb dX8_unkept_38 (by decide) (fun c_ => ?_) (fun c_ => ?_)
        · have h := h.2 c_
          obtain ⟨x3_4, e_⟩ : ∃ y : Int32, y = x3 + (1 : Int32) := ⟨_, rfl⟩
          have h := h x3_4 e_
          refine lv_iinc (pc := 66) (v := x3_4) (lv' := [(3, .int x3_4), (0, .ref (ad 0)), (1, .int x1), (2, .int x2)]) hx hb dX8_unkept_66 hl (k := 3) rfl (by rw [e_]; rfl) (by decide) rfl (fun ls hl => ?_)
          refine lv_goto (pc := 69) (tgt := 23) hx hb dX8_unkept_69 (by decide) ?_
          exact ih u3 x1 x2 x3_4 H locs ls h w (lv_sub hl [1, 2, 3, 0] rfl)
        · have h := h.1 c_
          refine lv_aload_n (pc := 41) hx hb dX8_unkept_41 rfl (lv_at hl 0 rfl) ?_
          refine Cgf_0_5 (pc := 42) X w kw402 dX8_unkept_42 ?_
          refine lv_iload_n (pc := 45) hx hb dX8_unkept_45 rfl (lv_at hl 3 rfl) ?_
          obtain ⟨j5, hj_, e_⟩ := vp_in_of h.1 (by decide)
          have h := h.2 j5 hj_ e_
          refine W.eq (g2 := F0 m 46 ls (.int (nI j5) :: .ref (ad 36) :: [])) (by rw [e_]) ?_
          clear e_
          rcases (show j5 = 0 ∨ j5 = 1 ∨ j5 = 2 ∨ j5 = 3 by omega) with rfl | rfl | rfl | rfl
          · refine Caq_36 0 (by decide) (pc := 46) X w dX8_unkept_46 ?_
            refine lv_aload_n (pc := 47) hx hb dX8_unkept_47 rfl (lv_at hl 0 rfl) ?_
            refine Cgf_0_1 (pc := 48) X w kw264 dX8_unkept_48 ?_
            refine Cgf_10_9 (pc := 51) X w kw325 dX8_unkept_51 ?_
            refine lv_iload_n (pc := 54) hx hb dX8_unkept_54 rfl (lv_at hl 1 rfl) ?_
            refine Ccalll (rest := []) (CrunV (pc := 55) X w (okX1_leftOver_i0 l hJ h) kw412 kmX1_leftOver ⟨rfl, rfl⟩ ⟨by decide, by decide⟩ (Crv_37 X w) rfl hl.1 rfl (Nat.le_of_ble_eq_true rfl) dX8_unkept_55) w (fun r6 u9_ H locs h w => ?_)
            obtain ⟨rfl, h⟩ := h
            refine lv_lconst (pc := 58) (v := (0 : Int64)) hx hb dX8_unkept_58 (by decide) ?_
            refine lq_eq (pc := 59) (tgt := 66) hx hb dX8_unkept_59 dX8_unkept_60 (by decide) (fun c_ => ?_) (fun c_ => ?_)
            · have h := h.1 c_
              obtain ⟨x3_7, e_⟩ : ∃ y : Int32, y = x3 + (1 : Int32) := ⟨_, rfl⟩
              have h := h x3_7 e_
              refine lv_iinc (pc := 66) (v := x3_7) (lv' := [(3, .int x3_7), (0, .ref (ad 0)), (1, .int x1), (2, .int x2)]) hx hb dX8_unkept_66 hl (k := 3) rfl (by rw [e_]; rfl) (by decide) rfl (fun ls hl => ?_)
              refine lv_goto (pc := 69) (tgt := 23) hx hb dX8_unkept_69 (by decide) ?_
              exact ih u3 x1 x2 x3_7 H locs ls h w (lv_sub hl [1, 2, 3, 0] rfl)
            · have h := h.2 c_
              obtain ⟨x2_8, e_⟩ : ∃ y : Int32, y = x2 + (1 : Int32) := ⟨_, rfl⟩
              have h := h x2_8 e_
              refine lv_iinc (pc := 63) (v := x2_8) (lv' := [(2, .int x2_8), (0, .ref (ad 0)), (1, .int x1), (3, .int x3)]) hx hb dX8_unkept_63 hl (k := 2) rfl (by rw [e_]; rfl) (by decide) rfl (fun ls hl => ?_)
              obtain ⟨x3_9, e_⟩ : ∃ y : Int32, y = x3 + (1 : Int32) := ⟨_, rfl⟩
              have h := h x3_9 e_
              refine lv_iinc (pc := 66) (v := x3_9) (lv' := [(3, .int x3_9), (2, .int x2_8), (0, .ref (ad 0)), (1, .int x1)]) hx hb dX8_unkept_66 hl (k := 3) rfl (by rw [e_]; rfl) (by decide) rfl (fun ls hl => ?_)
              refine lv_goto (pc := 69) (tgt := 23) hx hb dX8_unkept_69 (by decide) ?_
              exact ih u3 x1 x2_8 x3_9 H locs ls h w (lv_sub hl [2, 3, 1, 0] rfl)
          · refine Caq_36 1 (by decide) (pc := 46) X w dX8_unkept_46 ?_
            refine lv_aload_n (pc := 47) hx hb dX8_unkept_47 rfl (lv_at hl 0 rfl) ?_
            refine Cgf_0_1 (pc := 48) X w kw264 dX8_unkept_48 ?_
            refine Cgf_10_9 (pc := 51) X w kw325 dX8_unkept_51 ?_
            refine lv_iload_n (pc := 54) hx hb dX8_unkept_54 rfl (lv_at hl 1 rfl) ?_
            refine Ccalll (rest := []) (CrunV (pc := 55) X w (okX1_leftOver_i1 l hJ h) kw412 kmX1_leftOver ⟨rfl, rfl⟩ ⟨by decide, by decide⟩ (Crv_41 X w) rfl hl.1 rfl (Nat.le_of_ble_eq_true rfl) dX8_unkept_55) w (fun r6 u9_ H locs h w => ?_)
            obtain ⟨rfl, h⟩ := h
            refine lv_lconst (pc := 58) (v := (0 : Int64)) hx hb dX8_unkept_58 (by decide) ?_
            refine lq_eq (pc := 59) (tgt := 66) hx hb dX8_unkept_59 dX8_unkept_60 (by decide) (fun c_ => ?_) (fun c_ => ?_)
            · have h := h.1 c_
              obtain ⟨x3_7, e_⟩ : ∃ y : Int32, y = x3 + (1 : Int32) := ⟨_, rfl⟩
              have h := h x3_7 e_
              refine lv_iinc (pc := 66) (v := x3_7) (lv' := [(3, .int x3_7), (0, .ref (ad 0)), (1, .int x1), (2, .int x2)]) hx hb dX8_unkept_66 hl (k := 3) rfl (by rw [e_]; rfl) (by decide) rfl (fun ls hl => ?_)
              refine lv_goto (pc := 69) (tgt := 23) hx hb dX8_unkept_69 (by decide) ?_
              exact ih u3 x1 x2 x3_7 H locs ls h w (lv_sub hl [1, 2, 3, 0] rfl)
            · have h := h.2 c_
              obtain ⟨x2_8, e_⟩ : ∃ y : Int32, y = x2 + (1 : Int32) := ⟨_, rfl⟩
              have h := h x2_8 e_
              refine lv_iinc (pc := 63) (v := x2_8) (lv' := [(2, .int x2_8), (0, .ref (ad 0)), (1, .int x1), (3, .int x3)]) hx hb dX8_unkept_63 hl (k := 2) rfl (by rw [e_]; rfl) (by decide) rfl (fun ls hl => ?_)
              obtain ⟨x3_9, e_⟩ : ∃ y : Int32, y = x3 + (1 : Int32) := ⟨_, rfl⟩
              have h := h x3_9 e_
              refine lv_iinc (pc := 66) (v := x3_9) (lv' := [(3, .int x3_9), (2, .int x2_8), (0, .ref (ad 0)), (1, .int x1)]) hx hb dX8_unkept_66 hl (k := 3) rfl (by rw [e_]; rfl) (by decide) rfl (fun ls hl => ?_)
              refine lv_goto (pc := 69) (tgt := 23) hx hb dX8_unkept_69 (by decide) ?_
              exact ih u3 x1 x2_8 x3_9 H locs ls h w (lv_sub hl [2, 3, 1, 0] rfl)
          · refine Caq_36 2 (by decide) (pc := 46) X w dX8_unkept_46 ?_
            refine lv_aload_n (pc := 47) hx hb dX8_unkept_47 rfl (lv_at hl 0 rfl) ?_
            refine Cgf_0_1 (pc := 48) X w kw264 dX8_unkept_48 ?_
            refine Cgf_10_9 (pc := 51) X w kw325 dX8_unkept_51 ?_
            refine lv_iload_n (pc := 54) hx hb dX8_unkept_54 rfl (lv_at hl 1 rfl) ?_
            refine Ccalll (rest := []) (CrunV (pc := 55) X w (okX1_leftOver_i2 l hJ h) kw412 kmX1_leftOver ⟨rfl, rfl⟩ ⟨by decide, by decide⟩ (Crv_45 X w) rfl hl.1 rfl (Nat.le_of_ble_eq_true rfl) dX8_unkept_55) w (fun r6 u9_ H locs h w => ?_)
            obtain ⟨rfl, h⟩ := h
            refine lv_lconst (pc := 58) (v := (0 : Int64)) hx hb dX8_unkept_58 (by decide) ?_
            refine lq_eq (pc := 59) (tgt := 66) hx hb dX8_unkept_59 dX8_unkept_60 (by decide) (fun c_ => ?_) (fun c_ => ?_)
            · have h := h.1 c_
              obtain ⟨x3_7, e_⟩ : ∃ y : Int32, y = x3 + (1 : Int32) := ⟨_, rfl⟩
              have h := h x3_7 e_
              refine lv_iinc (pc := 66) (v := x3_7) (lv' := [(3, .int x3_7), (0, .ref (ad 0)), (1, .int x1), (2, .int x2)]) hx hb dX8_unkept_66 hl (k := 3) rfl (by rw [e_]; rfl) (by decide) rfl (fun ls hl => ?_)
              refine lv_goto (pc := 69) (tgt := 23) hx hb dX8_unkept_69 (by decide) ?_
              exact ih u3 x1 x2 x3_7 H locs ls h w (lv_sub hl [1, 2, 3, 0] rfl)
            · have h := h.2 c_
              obtain ⟨x2_8, e_⟩ : ∃ y : Int32, y = x2 + (1 : Int32) := ⟨_, rfl⟩
              have h := h x2_8 e_
              refine lv_iinc (pc := 63) (v := x2_8) (lv' := [(2, .int x2_8), (0, .ref (ad 0)), (1, .int x1), (3, .int x3)]) hx hb dX8_unkept_63 hl (k := 2) rfl (by rw [e_]; rfl) (by decide) rfl (fun ls hl => ?_)
              obtain ⟨x3_9, e_⟩ : ∃ y : Int32, y = x3 + (1 : Int32) := ⟨_, rfl⟩
              have h := h x3_9 e_
              refine lv_iinc (pc := 66) (v := x3_9) (lv' := [(3, .int x3_9), (2, .int x2_8), (0, .ref (ad 0)), (1, .int x1)]) hx hb dX8_unkept_66 hl (k := 3) rfl (by rw [e_]; rfl) (by decide) rfl (fun ls hl => ?_)
              refine lv_goto (pc := 69) (tgt := 23) hx hb dX8_unkept_69 (by decide) ?_
              exact ih u3 x1 x2_8 x3_9 H locs ls h w (lv_sub hl [2, 3, 1, 0] rfl)
          · refine Caq_36 3 (by decide) (pc := 46) X w dX8_unkept_46 ?_
            refine lv_aload_n (pc := 47) hx hb dX8_unkept_47 rfl (lv_at hl 0 rfl) ?_
            refine Cgf_0_1 (pc := 48) X w kw264 dX8_unkept_48 ?_
            refine Cgf_10_9 (pc := 51) X w kw325 dX8_unkept_51 ?_
            refine lv_iload_n (pc := 54) hx hb dX8_unkept_54 rfl (lv_at hl 1 rfl) ?_
            refine Ccalll (rest := []) (CrunV (pc := 55) X w (okX1_leftOver_i3 l hJ h) kw412 kmX1_leftOver ⟨rfl, rfl⟩ ⟨by decide, by decide⟩ (Crv_49 X w) rfl hl.1 rfl (Nat.le_of_ble_eq_true rfl) dX8_unkept_55) w (fun r6 u9_ H locs h w => ?_)
            obtain ⟨rfl, h⟩ := h
            refine lv_lconst (pc := 58) (v := (0 : Int64)) hx hb dX8_unkept_58 (by decide) ?_
            refine lq_eq (pc := 59) (tgt := 66) hx hb dX8_unkept_59 dX8_unkept_60 (by decide) (fun c_ => ?_) (fun c_ => ?_)
            · have h := h.1 c_
              obtain ⟨x3_7, e_⟩ : ∃ y : Int32, y = x3 + (1 : Int32) := ⟨_, rfl⟩
              have h := h x3_7 e_
              refine lv_iinc (pc := 66) (v := x3_7) (lv' := [(3, .int x3_7), (0, .ref (ad 0)), (1, .int x1), (2, .int x2)]) hx hb dX8_unkept_66 hl (k := 3) rfl (by rw [e_]; rfl) (by decide) rfl (fun ls hl => ?_)
              refine lv_goto (pc := 69) (tgt := 23) hx hb dX8_unkept_69 (by decide) ?_
              exact ih u3 x1 x2 x3_7 H locs ls h w (lv_sub hl [1, 2, 3, 0] rfl)
            · have h := h.2 c_
              obtain ⟨x2_8, e_⟩ : ∃ y : Int32, y = x2 + (1 : Int32) := ⟨_, rfl⟩
              have h := h x2_8 e_
              refine lv_iinc (pc := 63) (v := x2_8) (lv' := [(2, .int x2_8), (0, .ref (ad 0)), (1, .int x1), (3, .int x3)]) hx hb dX8_unkept_63 hl (k := 2) rfl (by rw [e_]; rfl) (by decide) rfl (fun ls hl => ?_)
              obtain ⟨x3_9, e_⟩ : ∃ y : Int32, y = x3 + (1 : Int32) := ⟨_, rfl⟩
              have h := h x3_9 e_
              refine lv_iinc (pc := 66) (v := x3_9) (lv' := [(3, .int x3_9), (2, .int x2_8), (0, .ref (ad 0)), (1, .int x1)]) hx hb dX8_unkept_66 hl (k := 3) rfl (by rw [e_]; rfl) (by decide) rfl (fun ls hl => ?_)
              refine lv_goto (pc := 69) (tgt := 23) hx hb dX8_unkept_69 (by decide) ?_
              exact ih u3 x1 x2_8 x3_9 H locs ls h w (lv_sub hl [2, 3, 1, 0] rfl)
set_option maxHeartbeats 4000000 in
set_option maxRecDepth 100000 in
theorem okX8_unkept (l : Launch) {D : va_G} {g : Nat → ClassId} {ad : Nat → Nat} (hJ : CJ ad) {u : Mm} {a1 : Int32} {Q : Int32 → Mm → Prop} (h : wX8_unkept u a1 Q) : Met l yX8_unkept (Cond.code yX8_unkept cX8_unkept 4 (some .int) :: gt) ({ frames := 6, cells := 0, slots := 0, locals := 156 } : Room) (CPc D g ad u [.ref (ad 0), .int a1]) (va_Qi Q (CB D g ad) (CA ad)) 0 0 (CA ad) := by
  refine Met.ofW (cc := cX8_unkept) (maxL := 4) (ret := (some .int)) (by decide) rfl ?_
  intro p e s m args below meth c s₁ B hml hv
  refine Centry (own := RX8) B hml hv hJ rfl (Nat.le_of_ble_eq_true rfl) (fun ls H locs X w hl => ?_)
  obtain ⟨⟨hx, hb, hml, hown, hts⟩, hr, hlocks, hK, hJ, hAA⟩ := id X
  have hl : lv_has ls 4 [(0, .ref (ad 0)), (1, .int a1)] := hl
  unfold wX8_unkept at h
  refine lv_iload_n (pc := 0) hx hb dX8_unkept_0 rfl (lv_at hl 1 rfl) ?_
  refine lv_bipush (pc := 1) (v := (12 : Int32)) hx hb dX8_unkept_1 (by decide) ?_
  refine Ccalli (rest := []) (CrunS (pc := 3) X w (okX8_below l hJ h) kw23 kmX8_below ⟨rfl, rfl⟩ ⟨by decide, by decide⟩ rfl hl.1 rfl (Nat.le_of_ble_eq_true rfl) dX8_unkept_3) w (fun r1 u9_ H locs h w => ?_)
  obtain ⟨hz_r1, h⟩ := h
  obtain ⟨rfl, h⟩ := h
  refine lv_if_ne (pc := 6) (tgt := 12) hx hb dX8_unkept_6 (by decide) (fun c_ => ?_) (fun c_ => ?_)
  · have h := h.2 c_
    refine lv_aload_n (pc := 12) hx hb dX8_unkept_12 rfl (lv_at hl 0 rfl) ?_
    refine Cgf_0_1 (pc := 13) X w kw264 dX8_unkept_13 ?_
    refine Ccallv (rest := []) (CrunV (pc := 16) X w (okX6_settleAll l hJ h) kw331 kmX6_settleAll ⟨rfl, rfl⟩ ⟨by decide, by decide⟩ (Crv_10 X w) rfl hl.1 rfl (Nat.le_of_ble_eq_true rfl) dX8_unkept_16) w (fun u3 H locs h w => ?_)
    refine lv_iconst (pc := 19) (v := (0 : Int32)) hx hb dX8_unkept_19 (by decide) ?_
    refine lv_istore_n (pc := 20) (lv' := [(2, .int (0 : Int32)), (0, .ref (ad 0)), (1, .int a1)]) hx hb dX8_unkept_20 rfl hl (by decide) rfl (fun ls hl => ?_)
    refine lv_iconst (pc := 21) (v := (0 : Int32)) hx hb dX8_unkept_21 (by decide) ?_
    refine lv_istore_n (pc := 22) (lv' := [(3, .int (0 : Int32)), (2, .int (0 : Int32)), (0, .ref (ad 0)), (1, .int a1)]) hx hb dX8_unkept_22 rfl hl (by decide) rfl (fun ls hl => ?_)
    obtain ⟨n9, h⟩ := h
    exact bX8_unkept_23 X n9 u3 a1 (0 : Int32) (0 : Int32) H locs ls h w (lv_sub hl [2, 3, 1, 0] rfl)
  · have h := h.1 c_
    refine lv_bipush (pc := 9) (v := (-2 : Int32)) hx hb dX8_unkept_9 (by decide) ?_
    exact Ciret (pc := 11) X w h dX8_unkept_11
set_option maxHeartbeats 4000000 in
set_option maxRecDepth 100000 in
theorem okX8_isRevision (l : Launch) {D : va_G} {g : Nat → ClassId} {ad : Nat → Nat} (hJ : CJ ad) {u : Mm} {a0 : Int32} {a1 : Int32} {a2 : Int32} {Q : Int32 → Prop} (h : wX8_isRevision a0 a1 a2 Q) : Met l yX8_isRevision (Cond.code yX8_isRevision cX8_isRevision 3 (some .boolean) :: gt) ({ frames := 1, cells := 0, slots := 0, locals := 21 } : Room) (CPc D g ad u [.int a0, .int a1, .int a2]) (va_Qi (fun r u1 => bz r ∧ (u = u1 ∧ Q r)) (CB D g ad) (CA ad)) 0 0 (CA ad) := by
  refine Met.ofW (cc := cX8_isRevision) (maxL := 3) (ret := (some .boolean)) (by decide) rfl ?_
  intro p e s m args below meth c s₁ B hml hv
  refine Centry (own := RX8) B hml hv hJ rfl (Nat.le_of_ble_eq_true rfl) (fun ls H locs X w hl => ?_)
  obtain ⟨⟨hx, hb, hml, hown, hts⟩, hr, hlocks, hK, hJ, hAA⟩ := id X
  have hl : lv_has ls 3 [(0, .int a0), (1, .int a1), (2, .int a2)] := hl
  unfold wX8_isRevision at h
  refine lv_iload_n (pc := 0) hx hb dX8_isRevision_0 rfl (lv_at hl 0 rfl) ?_
  refine lv_sipush (pc := 1) (v := (720 : Int32)) hx hb dX8_isRevision_1 (by decide) ?_
  refine Ccalli (rest := []) (CrunS (pc := 4) X w (okX8_below l hJ h) kw23 kmX8_below ⟨rfl, rfl⟩ ⟨by decide, by decide⟩ rfl hl.1 rfl (Nat.le_of_ble_eq_true rfl) dX8_isRevision_4) w (fun r1 u9_ H locs h w => ?_)
  obtain ⟨hz_r1, h⟩ := h
  obtain ⟨rfl, h⟩ := h
  refine lv_if_eq (pc := 7) (tgt := 37) hx hb dX8_isRevision_7 (by decide) (fun c_ => ?_) (fun c_ => ?_)
  · have h := h.1 c_
    refine lv_iconst (pc := 37) (v := (0 : Int32)) hx hb dX8_isRevision_37 (by decide) ?_
    exact Czret (pc := 38) X w rfl ⟨rfl, h⟩ dX8_isRevision_38
  · have h := h.2 c_
    refine lv_iload_n (pc := 10) hx hb dX8_isRevision_10 rfl (lv_at hl 1 rfl) ?_
    refine lv_bipush (pc := 11) (v := (10 : Int32)) hx hb dX8_isRevision_11 (by decide) ?_
    refine Ccalli (rest := []) (CrunS (pc := 13) X w (okX8_below l hJ h) kw23 kmX8_below ⟨rfl, rfl⟩ ⟨by decide, by decide⟩ rfl hl.1 rfl (Nat.le_of_ble_eq_true rfl) dX8_isRevision_13) w (fun r2 u9_ H locs h w => ?_)
    obtain ⟨hz_r2, h⟩ := h
    obtain ⟨rfl, h⟩ := h
    refine lv_if_eq (pc := 16) (tgt := 37) hx hb dX8_isRevision_16 (by decide) (fun c_ => ?_) (fun c_ => ?_)
    · have h := h.1 c_
      refine lv_iconst (pc := 37) (v := (0 : Int32)) hx hb dX8_isRevision_37 (by decide) ?_
      exact Czret (pc := 38) X w rfl ⟨rfl, h⟩ dX8_isRevision_38
    · have h := h.2 c_
      refine lv_iload_n (pc := 19) hx hb dX8_isRevision_19 rfl (lv_at hl 2 rfl) ?_
      refine lv_bipush (pc := 20) (v := (10 : Int32)) hx hb dX8_isRevision_20 (by decide) ?_
      refine Ccalli (rest := []) (CrunS (pc := 22) X w (okX8_below l hJ h) kw23 kmX8_below ⟨rfl, rfl⟩ ⟨by decide, by decide⟩ rfl hl.1 rfl (Nat.le_of_ble_eq_true rfl) dX8_isRevision_22) w (fun r3 u9_ H locs h w => ?_)
      obtain ⟨hz_r3, h⟩ := h
      obtain ⟨rfl, h⟩ := h
      refine lv_if_eq (pc := 25) (tgt := 37) hx hb dX8_isRevision_25 (by decide) (fun c_ => ?_) (fun c_ => ?_)
      · have h := h.1 c_
        refine lv_iconst (pc := 37) (v := (0 : Int32)) hx hb dX8_isRevision_37 (by decide) ?_
        exact Czret (pc := 38) X w rfl ⟨rfl, h⟩ dX8_isRevision_38
      · have h := h.2 c_
        refine lv_iload_n (pc := 28) hx hb dX8_isRevision_28 rfl (lv_at hl 1 rfl) ?_
        refine lv_iload_n (pc := 29) hx hb dX8_isRevision_29 rfl (lv_at hl 2 rfl) ?_
        refine lv_icmp_ge (pc := 30) (tgt := 37) hx hb dX8_isRevision_30 (by decide) (fun c_ => ?_) (fun c_ => ?_)
        · have h := h.1 c_
          refine lv_iconst (pc := 37) (v := (0 : Int32)) hx hb dX8_isRevision_37 (by decide) ?_
          exact Czret (pc := 38) X w rfl ⟨rfl, h⟩ dX8_isRevision_38
        · have h := h.2 c_
          refine lv_iconst (pc := 33) (v := (1 : Int32)) hx hb dX8_isRevision_33 (by decide) ?_
          refine lv_goto (pc := 34) (tgt := 38) hx hb dX8_isRevision_34 (by decide) ?_
          exact Czret (pc := 38) X w rfl ⟨rfl, h⟩ dX8_isRevision_38
set_option maxHeartbeats 4000000 in
set_option maxRecDepth 100000 in
theorem okX8_revision (l : Launch) {D : va_G} {g : Nat → ClassId} {ad : Nat → Nat} (hJ : CJ ad) {u : Mm} {a1 : Int32} {a2 : Int32} {a3 : Int32} {Q : Int64 → Mm → Prop} (h : wX8_revision u a1 a2 a3 Q) : Met l yX8_revision (Cond.code yX8_revision cX8_revision 4 (some .long) :: gt) ({ frames := 4, cells := 0, slots := 0, locals := 99 } : Room) (CPc D g ad u [.ref (ad 0), .int a1, .int a2, .int a3]) (va_Ql Q (CB D g ad) (CA ad)) 0 0 (CA ad) := by
  refine Met.ofW (cc := cX8_revision) (maxL := 4) (ret := (some .long)) (by decide) rfl ?_
  intro p e s m args below meth c s₁ B hml hv
  refine Centry (own := RX8) B hml hv hJ rfl (Nat.le_of_ble_eq_true rfl) (fun ls H locs X w hl => ?_)
  obtain ⟨⟨hx, hb, hml, hown, hts⟩, hr, hlocks, hK, hJ, hAA⟩ := id X
  have hl : lv_has ls 4 [(0, .ref (ad 0)), (1, .int a1), (2, .int a2), (3, .int a3)] := hl
  unfold wX8_revision at h
  refine lv_iload_n (pc := 0) hx hb dX8_revision_0 rfl (lv_at hl 1 rfl) ?_
  refine lv_iload_n (pc := 1) hx hb dX8_revision_1 rfl (lv_at hl 2 rfl) ?_
  refine lv_iload_n (pc := 2) hx hb dX8_revision_2 rfl (lv_at hl 3 rfl) ?_
  refine Ccalli (rest := []) (CrunS (pc := 3) X w (okX8_isRevision l hJ h) kw416 kmX8_isRevision ⟨rfl, rfl⟩ ⟨by decide, by decide⟩ rfl hl.1 rfl (Nat.le_of_ble_eq_true rfl) dX8_revision_3) w (fun r1 u9_ H locs h w => ?_)
  obtain ⟨hz_r1, h⟩ := h
  obtain ⟨rfl, h⟩ := h
  refine lv_if_ne (pc := 6) (tgt := 15) hx hb dX8_revision_6 (by decide) (fun c_ => ?_) (fun c_ => ?_)
  · have h := h.2 c_
    refine lv_aload_n (pc := 15) hx hb dX8_revision_15 rfl (lv_at hl 0 rfl) ?_
    refine Cgf_0_0 (pc := 16) X w kw262 dX8_revision_16 ?_
    refine lv_iload_n (pc := 19) hx hb dX8_revision_19 rfl (lv_at hl 1 rfl) ?_
    refine lv_iload_n (pc := 20) hx hb dX8_revision_20 rfl (lv_at hl 3 rfl) ?_
    refine lv_bipush (pc := 21) (v := (9 : Int32)) hx hb dX8_revision_21 (by decide) ?_
    refine Ccalll (rest := []) (CrunV (pc := 23) X w (okX3_meanWith l hJ h) kw419 kmX3_meanWith ⟨rfl, rfl⟩ ⟨by decide, by decide⟩ (Crv_1 X w) rfl hl.1 rfl (Nat.le_of_ble_eq_true rfl) dX8_revision_23) w (fun r2 u3 H locs h w => ?_)
    refine lv_aload_n (pc := 26) hx hb dX8_revision_26 rfl (lv_at hl 0 rfl) ?_
    refine Cgf_0_0 (pc := 27) X w kw262 dX8_revision_27 ?_
    refine lv_iload_n (pc := 30) hx hb dX8_revision_30 rfl (lv_at hl 1 rfl) ?_
    refine lv_iload_n (pc := 31) hx hb dX8_revision_31 rfl (lv_at hl 2 rfl) ?_
    refine lv_bipush (pc := 32) (v := (9 : Int32)) hx hb dX8_revision_32 (by decide) ?_
    refine Ccalll (rest := [.long r2]) (CrunV (pc := 34) X w (okX3_meanWith l hJ h) kw419 kmX3_meanWith ⟨rfl, rfl⟩ ⟨by decide, by decide⟩ (Crv_1 X w) rfl hl.1 rfl (Nat.le_of_ble_eq_true rfl) dX8_revision_34) w (fun r4 u5 H locs h w => ?_)
    refine lv_lsub (pc := 37) hx hb dX8_revision_37 ?_
    exact Clret (pc := 38) X w h dX8_revision_38
  · have h := h.1 c_
    refine lv_bipush (pc := 9) (v := (-2 : Int32)) hx hb dX8_revision_9 (by decide) ?_
    refine Ccalll (rest := []) (CrunS (pc := 11) X w (okX8_refused l hJ h) kw305 kmX8_refused ⟨rfl, rfl⟩ ⟨by decide, by decide⟩ rfl hl.1 rfl (Nat.le_of_ble_eq_true rfl) dX8_revision_11) w (fun r6 u9_ H locs h w => ?_)
    obtain ⟨rfl, h⟩ := h
    exact Clret (pc := 14) X w h dX8_revision_14
set_option maxHeartbeats 4000000 in
set_option maxRecDepth 100000 in
theorem okX8_firstStep (l : Launch) {D : va_G} {g : Nat → ClassId} {ad : Nat → Nat} (hJ : CJ ad) {u : Mm} {a0 : Int32} {Q : Int32 → Prop} (h : wX8_firstStep a0 Q) : Met l yX8_firstStep (Cond.code yX8_firstStep cX8_firstStep 1 (some .int) :: gt) ({ frames := 0, cells := 0, slots := 0, locals := 0 } : Room) (CPc D g ad u [.int a0]) (va_Qi (fun r u1 => u = u1 ∧ Q r) (CB D g ad) (CA ad)) 0 0 (CA ad) := by
  refine Met.ofW (cc := cX8_firstStep) (maxL := 1) (ret := (some .int)) (by decide) rfl ?_
  intro p e s m args below meth c s₁ B hml hv
  refine Centry (own := RX8) B hml hv hJ rfl (Nat.le_of_ble_eq_true rfl) (fun ls H locs X w hl => ?_)
  obtain ⟨⟨hx, hb, hml, hown, hts⟩, hr, hlocks, hK, hJ, hAA⟩ := id X
  have hl : lv_has ls 1 [(0, .int a0)] := hl
  unfold wX8_firstStep at h
  refine lv_iload_n (pc := 0) hx hb dX8_firstStep_0 rfl (lv_at hl 0 rfl) ?_
  refine lv_iconst (pc := 1) (v := (1 : Int32)) hx hb dX8_firstStep_1 (by decide) ?_
  refine lv_iadd (pc := 2) hx hb dX8_firstStep_2 ?_
  refine lv_bipush (pc := 3) (v := (10 : Int32)) hx hb dX8_firstStep_3 (by decide) ?_
  refine lv_imul (pc := 5) hx hb dX8_firstStep_5 ?_
  exact Ciret (pc := 6) X w ⟨rfl, h⟩ dX8_firstStep_6
set_option maxHeartbeats 4000000 in
set_option maxRecDepth 100000 in
theorem bX8_steps_21 {l : Launch} {p : Program} {e : Env} {s : State} {m : MethodId} {args : Array Value} {below : List Frame} {meth : Method} {c : Code} {D : va_G} {g : Nat → ClassId} {ad : Nat → Nat} {u : Mm} {Q : Int32 → Prop} (X : CX p s m args meth c cX8_steps RX8 6 (some .int) (Cond.code yX8_steps cX8_steps 6 (some .int)) D g ad (CA ad)) : ∀ (n : Nat) (x1 : Int32) (x3 : Int32) (x4 : Int32) (x5 : Int32) (H : Heap) (locs : List Loc) (ls : Array Slot), wX8_steps_b21 u Q n x1 x3 x4 x5 → CWd D g ad (CA ad) s u H locs → lv_has ls 6 [(0, .ref (ad 0)), (1, .int x1), (3, .int x3), (4, .int x4), (5, .int x5)] → W p l e ({ frames := 2, cells := 0, slots := 0, locals := 43 } : Room) s m args below meth c H locs 0 0 (MQ below (va_Qi (fun r u1 => u = u1 ∧ Q r) (CB D g ad) (CA ad)) args s 0 0 (CA ad)) (F0 m 21 ls []) := by
  obtain ⟨⟨hx, hb, hml, hown, hts⟩, hr, hlocks, hK, hJ, hAA⟩ := id X
  intro n
  induction n with
  | zero =>
    intro x1 x3 x4 x5 H locs ls h
    exact False.elim h
  | succ n ih =>
    intro x1 x3 x4 x5 H locs ls h w hl
    unfold wX8_steps_b21 at h
    refine lv_iload (pc := 21) hx hb dX8_steps_21 (lv_at hl 4 rfl) ?_
    refine lv_iload_n (pc := 23) hx hb dX8_steps_23 rfl (lv_at hl 2 rfl) ?_
    refine Ccalli (rest := [.int x5]) (CrunS (pc := 24) X w (okX8_firstStep l hJ h) kw423 kmX8_firstStep ⟨rfl, rfl⟩ ⟨by decide, by decide⟩ rfl hl.1 rfl (Nat.le_of_ble_eq_true rfl) dX8_steps_24) w (fun r1 u9_ H locs h w => ?_)
    obtain ⟨rfl, h⟩ := h
    refine lv_icmp_ge (pc := 27) (tgt := 60) hx hb dX8_steps_27 (by decide) (fun c_ => ?_) (fun c_ => ?_)
    · have h := h.1 c_
      refine lv_iload (pc := 60) hx hb dX8_steps_60 (lv_at hl 3 rfl) ?_
      exact Ciret (pc := 62) X w ⟨rfl, h⟩ dX8_steps_62
    · have h := h.2 c_
      refine lv_aload_n (pc := 30) hx hb dX8_steps_30 rfl (lv_at hl 0 rfl) ?_
      refine Cgf_0_0 (pc := 31) X w kw262 dX8_steps_31 ?_
      refine lv_iload_n (pc := 34) hx hb dX8_steps_34 rfl (lv_at hl 1 rfl) ?_
      refine lv_iload (pc := 35) hx hb dX8_steps_35 (lv_at hl 4 rfl) ?_
      refine lv_bipush (pc := 37) (v := (10 : Int32)) hx hb dX8_steps_37 (by decide) ?_
      refine lv_irem (pc := 39) hx hb dX8_steps_39 (by decide) ?_
      refine lv_iload (pc := 40) hx hb dX8_steps_40 (lv_at hl 4 rfl) ?_
      refine lv_bipush (pc := 42) (v := (10 : Int32)) hx hb dX8_steps_42 (by decide) ?_
      refine lv_idiv (pc := 44) hx hb dX8_steps_44 (by decide) ?_
      refine Ccalli (rest := []) (CrunV (pc := 45) X w (okX3_hasRow l hJ h) kw426 kmX3_hasRow ⟨rfl, rfl⟩ ⟨by decide, by decide⟩ (Crv_1 X w) rfl hl.1 rfl (Nat.le_of_ble_eq_true rfl) dX8_steps_45) w (fun r2 u9_ H locs h w => ?_)
      obtain ⟨hz_r2, h⟩ := h
      obtain ⟨rfl, h⟩ := h
      refine lv_if_eq (pc := 48) (tgt := 54) hx hb dX8_steps_48 (by decide) (fun c_ => ?_) (fun c_ => ?_)
      · have h := h.1 c_
        obtain ⟨x5_3, e_⟩ : ∃ y : Int32, y = x5 + (1 : Int32) := ⟨_, rfl⟩
        have h := h x5_3 e_
        refine lv_iinc (pc := 54) (v := x5_3) (lv' := [(5, .int x5_3), (0, .ref (ad 0)), (1, .int x1), (3, .int x3), (4, .int x4)]) hx hb dX8_steps_54 hl (k := 4) rfl (by rw [e_]; rfl) (by decide) rfl (fun ls hl => ?_)
        refine lv_goto (pc := 57) (tgt := 21) hx hb dX8_steps_57 (by decide) ?_
        exact ih x1 x3 x4 x5_3 H locs ls h w (lv_sub hl [1, 2, 3, 4, 0] rfl)
      · have h := h.2 c_
        obtain ⟨x4_4, e_⟩ : ∃ y : Int32, y = x4 + (1 : Int32) := ⟨_, rfl⟩
        have h := h x4_4 e_
        refine lv_iinc (pc := 51) (v := x4_4) (lv' := [(4, .int x4_4), (0, .ref (ad 0)), (1, .int x1), (3, .int x3), (5, .int x5)]) hx hb dX8_steps_51 hl (k := 3) rfl (by rw [e_]; rfl) (by decide) rfl (fun ls hl => ?_)
        obtain ⟨x5_5, e_⟩ : ∃ y : Int32, y = x5 + (1 : Int32) := ⟨_, rfl⟩
        have h := h x5_5 e_
        refine lv_iinc (pc := 54) (v := x5_5) (lv' := [(5, .int x5_5), (4, .int x4_4), (0, .ref (ad 0)), (1, .int x1), (3, .int x3)]) hx hb dX8_steps_54 hl (k := 4) rfl (by rw [e_]; rfl) (by decide) rfl (fun ls hl => ?_)
        refine lv_goto (pc := 57) (tgt := 21) hx hb dX8_steps_57 (by decide) ?_
        exact ih x1 x3 x4_4 x5_5 H locs ls h w (lv_sub hl [2, 3, 4, 1, 0] rfl)
set_option maxHeartbeats 4000000 in
set_option maxRecDepth 100000 in
theorem okX8_steps (l : Launch) {D : va_G} {g : Nat → ClassId} {ad : Nat → Nat} (hJ : CJ ad) {u : Mm} {a1 : Int32} {a2 : Int32} {a3 : Int32} {Q : Int32 → Prop} (h : wX8_steps u a1 a2 a3 Q) : Met l yX8_steps (Cond.code yX8_steps cX8_steps 6 (some .int) :: gt) ({ frames := 2, cells := 0, slots := 0, locals := 43 } : Room) (CPc D g ad u [.ref (ad 0), .int a1, .int a2, .int a3]) (va_Qi (fun r u1 => u = u1 ∧ Q r) (CB D g ad) (CA ad)) 0 0 (CA ad) := by
  refine Met.ofW (cc := cX8_steps) (maxL := 6) (ret := (some .int)) (by decide) rfl ?_
  intro p e s m args below meth c s₁ B hml hv
  refine Centry (own := RX8) B hml hv hJ rfl (Nat.le_of_ble_eq_true rfl) (fun ls H locs X w hl => ?_)
  obtain ⟨⟨hx, hb, hml, hown, hts⟩, hr, hlocks, hK, hJ, hAA⟩ := id X
  have hl : lv_has ls 6 [(0, .ref (ad 0)), (1, .int a1), (2, .int a2), (3, .int a3)] := hl
  unfold wX8_steps at h
  refine lv_iload_n (pc := 0) hx hb dX8_steps_0 rfl (lv_at hl 1 rfl) ?_
  refine lv_iload_n (pc := 1) hx hb dX8_steps_1 rfl (lv_at hl 2 rfl) ?_
  refine lv_iload_n (pc := 2) hx hb dX8_steps_2 rfl (lv_at hl 3 rfl) ?_
  refine Ccalli (rest := []) (CrunS (pc := 3) X w (okX8_isRevision l hJ h) kw416 kmX8_isRevision ⟨rfl, rfl⟩ ⟨by decide, by decide⟩ rfl hl.1 rfl (Nat.le_of_ble_eq_true rfl) dX8_steps_3) w (fun r1 u9_ H locs h w => ?_)
  obtain ⟨hz_r1, h⟩ := h
  obtain ⟨rfl, h⟩ := h
  refine lv_if_ne (pc := 6) (tgt := 12) hx hb dX8_steps_6 (by decide) (fun c_ => ?_) (fun c_ => ?_)
  · have h := h.2 c_
    refine lv_iconst (pc := 12) (v := (0 : Int32)) hx hb dX8_steps_12 (by decide) ?_
    refine lv_istore (pc := 13) (lv' := [(4, .int (0 : Int32)), (0, .ref (ad 0)), (1, .int a1), (2, .int a2), (3, .int a3)]) hx hb dX8_steps_13 hl (by decide) rfl (fun ls hl => ?_)
    refine lv_iload_n (pc := 15) hx hb dX8_steps_15 rfl (lv_at hl 3 rfl) ?_
    refine Ccalli (rest := []) (CrunS (pc := 16) X w (okX8_firstStep l hJ h) kw423 kmX8_firstStep ⟨rfl, rfl⟩ ⟨by decide, by decide⟩ rfl hl.1 rfl (Nat.le_of_ble_eq_true rfl) dX8_steps_16) w (fun r2 u9_ H locs h w => ?_)
    obtain ⟨rfl, h⟩ := h
    refine lv_istore (pc := 19) (lv' := [(5, .int r2), (4, .int (0 : Int32)), (0, .ref (ad 0)), (1, .int a1), (2, .int a2), (3, .int a3)]) hx hb dX8_steps_19 hl (by decide) rfl (fun ls hl => ?_)
    obtain ⟨n9, h⟩ := h
    exact bX8_steps_21 X n9 a1 a3 (0 : Int32) r2 H locs ls h w (lv_sub hl [2, 3, 5, 1, 0] rfl)
  · have h := h.1 c_
    refine lv_bipush (pc := 9) (v := (-2 : Int32)) hx hb dX8_steps_9 (by decide) ?_
    exact Ciret (pc := 11) X w ⟨rfl, h⟩ dX8_steps_11
set_option maxHeartbeats 4000000 in
set_option maxRecDepth 100000 in
theorem okX8_step (l : Launch) {D : va_G} {g : Nat → ClassId} {ad : Nat → Nat} (hJ : CJ ad) {u : Mm} {a1 : Int32} {a2 : Int32} {a3 : Int32} {a4 : Int32} {a5 : Int32} {Q : Int64 → Mm → Prop} (h : wX8_step u a1 a2 a3 a4 a5 Q) : Met l yX8_step (Cond.code yX8_step cX8_step 9 (some .long) :: gt) ({ frames := 4, cells := 0, slots := 0, locals := 99 } : Room) (CPc D g ad u [.ref (ad 0), .int a1, .int a2, .int a3, .int a4, .int a5]) (va_Ql Q (CB D g ad) (CA ad)) 0 0 (CA ad) := by
  refine Met.ofW (cc := cX8_step) (maxL := 9) (ret := (some .long)) (by decide) rfl ?_
  intro p e s m args below meth c s₁ B hml hv
  refine Centry (own := RX8) B hml hv hJ rfl (Nat.le_of_ble_eq_true rfl) (fun ls H locs X w hl => ?_)
  obtain ⟨⟨hx, hb, hml, hown, hts⟩, hr, hlocks, hK, hJ, hAA⟩ := id X
  have hl : lv_has ls 9 [(0, .ref (ad 0)), (1, .int a1), (2, .int a2), (3, .int a3), (4, .int a4), (5, .int a5)] := hl
  unfold wX8_step at h
  refine lv_iload_n (pc := 0) hx hb dX8_step_0 rfl (lv_at hl 1 rfl) ?_
  refine lv_iload_n (pc := 1) hx hb dX8_step_1 rfl (lv_at hl 2 rfl) ?_
  refine lv_iload_n (pc := 2) hx hb dX8_step_2 rfl (lv_at hl 3 rfl) ?_
  refine Ccalli (rest := []) (CrunS (pc := 3) X w (okX8_isRevision l hJ h) kw416 kmX8_isRevision ⟨rfl, rfl⟩ ⟨by decide, by decide⟩ rfl hl.1 rfl (Nat.le_of_ble_eq_true rfl) dX8_step_3) w (fun r1 u9_ H locs h w => ?_)
  obtain ⟨hz_r1, h⟩ := h
  obtain ⟨rfl, h⟩ := h
  refine lv_if_eq (pc := 6) (tgt := 24) hx hb dX8_step_6 (by decide) (fun c_ => ?_) (fun c_ => ?_)
  · have h := h.1 c_
    refine lv_bipush (pc := 24) (v := (-2 : Int32)) hx hb dX8_step_24 (by decide) ?_
    refine Ccalll (rest := []) (CrunS (pc := 26) X w (okX8_refused l hJ h) kw305 kmX8_refused ⟨rfl, rfl⟩ ⟨by decide, by decide⟩ rfl hl.1 rfl (Nat.le_of_ble_eq_true rfl) dX8_step_26) w (fun r2 u9_ H locs h w => ?_)
    obtain ⟨rfl, h⟩ := h
    exact Clret (pc := 29) X w h dX8_step_29
  · have h := h.2 c_
    refine lv_iload (pc := 9) hx hb dX8_step_9 (lv_at hl 4 rfl) ?_
    refine lv_if_lt (pc := 11) (tgt := 24) hx hb dX8_step_11 (by decide) (fun c_ => ?_) (fun c_ => ?_)
    · have h := h.1 c_
      refine lv_bipush (pc := 24) (v := (-2 : Int32)) hx hb dX8_step_24 (by decide) ?_
      refine Ccalll (rest := []) (CrunS (pc := 26) X w (okX8_refused l hJ h) kw305 kmX8_refused ⟨rfl, rfl⟩ ⟨by decide, by decide⟩ rfl hl.1 rfl (Nat.le_of_ble_eq_true rfl) dX8_step_26) w (fun r3 u9_ H locs h w => ?_)
      obtain ⟨rfl, h⟩ := h
      exact Clret (pc := 29) X w h dX8_step_29
    · have h := h.2 c_
      refine lv_iload (pc := 14) hx hb dX8_step_14 (lv_at hl 5 rfl) ?_
      refine lv_iconst (pc := 16) (v := (0 : Int32)) hx hb dX8_step_16 (by decide) ?_
      refine lv_iconst (pc := 17) (v := (2 : Int32)) hx hb dX8_step_17 (by decide) ?_
      refine Ccalli (rest := []) (CrunS (pc := 18) X w (okX8_within l hJ h) kw258 kmX8_within ⟨rfl, rfl⟩ ⟨by decide, by decide⟩ rfl hl.1 rfl (Nat.le_of_ble_eq_true rfl) dX8_step_18) w (fun r4 u9_ H locs h w => ?_)
      obtain ⟨hz_r4, h⟩ := h
      obtain ⟨rfl, h⟩ := h
      refine lv_if_ne (pc := 21) (tgt := 30) hx hb dX8_step_21 (by decide) (fun c_ => ?_) (fun c_ => ?_)
      · have h := h.2 c_
        refine lv_aload_n (pc := 30) hx hb dX8_step_30 rfl (lv_at hl 0 rfl) ?_
        refine Cgf_0_0 (pc := 31) X w kw262 dX8_step_31 ?_
        refine lv_iload_n (pc := 34) hx hb dX8_step_34 rfl (lv_at hl 1 rfl) ?_
        refine lv_iload_n (pc := 35) hx hb dX8_step_35 rfl (lv_at hl 2 rfl) ?_
        refine Ccalli (rest := [.int a1, .ref (ad 1)]) (CrunS (pc := 36) X w (okX8_firstStep l hJ h) kw423 kmX8_firstStep ⟨rfl, rfl⟩ ⟨by decide, by decide⟩ rfl hl.1 rfl (Nat.le_of_ble_eq_true rfl) dX8_step_36) w (fun r5 u9_ H locs h w => ?_)
        obtain ⟨rfl, h⟩ := h
        refine lv_iload_n (pc := 39) hx hb dX8_step_39 rfl (lv_at hl 3 rfl) ?_
        refine Ccalli (rest := [.int r5, .int a1, .ref (ad 1)]) (CrunS (pc := 40) X w (okX8_firstStep l hJ h) kw423 kmX8_firstStep ⟨rfl, rfl⟩ ⟨by decide, by decide⟩ rfl hl.1 rfl (Nat.le_of_ble_eq_true rfl) dX8_step_40) w (fun r6 u9_ H locs h w => ?_)
        obtain ⟨rfl, h⟩ := h
        refine lv_iload (pc := 43) hx hb dX8_step_43 (lv_at hl 4 rfl) ?_
        refine Ccalli (rest := []) (CrunV (pc := 45) X w (okX3_findStep l hJ h) kw427 kmX3_findStep ⟨rfl, rfl⟩ ⟨by decide, by decide⟩ (Crv_1 X w) rfl hl.1 rfl (Nat.le_of_ble_eq_true rfl) dX8_step_45) w (fun r7 u9_ H locs h w => ?_)
        obtain ⟨rfl, h⟩ := h
        refine lv_istore (pc := 48) (lv' := [(6, .int r7), (0, .ref (ad 0)), (1, .int a1), (2, .int a2), (3, .int a3), (4, .int a4), (5, .int a5)]) hx hb dX8_step_48 hl (by decide) rfl (fun ls hl => ?_)
        refine lv_iload (pc := 50) hx hb dX8_step_50 (lv_at hl 0 rfl) ?_
        refine lv_iconst (pc := 52) (v := (-1 : Int32)) hx hb dX8_step_52 (by decide) ?_
        refine lv_icmp_ne (pc := 53) (tgt := 62) hx hb dX8_step_53 (by decide) (fun c_ => ?_) (fun c_ => ?_)
        · have h := h.2 c_
          refine lv_iload (pc := 62) hx hb dX8_step_62 (lv_at hl 0 rfl) ?_
          refine lv_bipush (pc := 64) (v := (10 : Int32)) hx hb dX8_step_64 (by decide) ?_
          refine lv_irem (pc := 66) hx hb dX8_step_66 (by decide) ?_
          refine lv_topi (fun x7_8 e_ => ?_)
          have h := h x7_8 e_
          refine lv_istore (pc := 67) (lv' := [(7, .int x7_8), (6, .int r7), (0, .ref (ad 0)), (1, .int a1), (2, .int a2), (3, .int a3), (4, .int a4), (5, .int a5)]) hx hb dX8_step_67 hl (by decide) rfl (fun ls hl => ?_)
          refine lv_iload (pc := 69) hx hb dX8_step_69 (lv_at hl 1 rfl) ?_
          refine lv_bipush (pc := 71) (v := (10 : Int32)) hx hb dX8_step_71 (by decide) ?_
          refine lv_idiv (pc := 73) hx hb dX8_step_73 (by decide) ?_
          refine lv_topi (fun x8_9 e_ => ?_)
          have h := h x8_9 e_
          refine lv_istore (pc := 74) (lv' := [(8, .int x8_9), (7, .int x7_8), (6, .int r7), (0, .ref (ad 0)), (1, .int a1), (2, .int a2), (3, .int a3), (4, .int a4), (5, .int a5)]) hx hb dX8_step_74 hl (by decide) rfl (fun ls hl => ?_)
          refine lv_iload (pc := 76) hx hb dX8_step_76 (lv_at hl 8 rfl) ?_
          by_cases c0_ : a5 = (0 : Int32)
          · have h := h.1 c0_
            refine lv_lookup (pc := 78) (tgt := 104) (off := 26) hx hb dX8_step_78 (by decide +kernel) (by rw [c0_]; decide +kernel) (by decide) ?_
            refine lv_aload_n (pc := 104) hx hb dX8_step_104 rfl (lv_at hl 3 rfl) ?_
            refine Cgf_0_0 (pc := 105) X w kw262 dX8_step_105 ?_
            refine lv_iload_n (pc := 108) hx hb dX8_step_108 rfl (lv_at hl 4 rfl) ?_
            refine lv_iload (pc := 109) hx hb dX8_step_109 (lv_at hl 0 rfl) ?_
            refine lv_iload (pc := 111) hx hb dX8_step_111 (lv_at hl 1 rfl) ?_
            refine Ccalll (rest := []) (CrunV (pc := 113) X w (okX3_meanWith l hJ h) kw419 kmX3_meanWith ⟨rfl, rfl⟩ ⟨by decide, by decide⟩ (Crv_1 X w) rfl hl.1 rfl (Nat.le_of_ble_eq_true rfl) dX8_step_113) w (fun r10 u11 H locs h w => ?_)
            refine lv_aload_n (pc := 116) hx hb dX8_step_116 rfl (lv_at hl 3 rfl) ?_
            refine Cgf_0_0 (pc := 117) X w kw262 dX8_step_117 ?_
            refine lv_iload_n (pc := 120) hx hb dX8_step_120 rfl (lv_at hl 4 rfl) ?_
            refine lv_iload (pc := 121) hx hb dX8_step_121 (lv_at hl 0 rfl) ?_
            refine lv_iload (pc := 123) hx hb dX8_step_123 (lv_at hl 1 rfl) ?_
            refine lv_iconst (pc := 125) (v := (1 : Int32)) hx hb dX8_step_125 (by decide) ?_
            refine lv_isub (pc := 126) hx hb dX8_step_126 ?_
            refine Ccalll (rest := [.long r10]) (CrunV (pc := 127) X w (okX3_meanWith l hJ h) kw419 kmX3_meanWith ⟨rfl, rfl⟩ ⟨by decide, by decide⟩ (Crv_1 X w) rfl hl.1 rfl (Nat.le_of_ble_eq_true rfl) dX8_step_127) w (fun r12 u13 H locs h w => ?_)
            refine lv_lsub (pc := 130) hx hb dX8_step_130 ?_
            exact Clret (pc := 131) X w h dX8_step_131
          · have h := h.2 c0_
            by_cases c1_ : a5 = (1 : Int32)
            · have h := h.1 c1_
              refine lv_lookup (pc := 78) (tgt := 132) (off := 54) hx hb dX8_step_78 (by decide +kernel) (by rw [c1_]; decide +kernel) (by decide) ?_
              refine lv_iload (pc := 132) hx hb dX8_step_132 (lv_at hl 1 rfl) ?_
              refine lv_i2l (pc := 134) hx hb dX8_step_134 rfl ?_
              exact Clret (pc := 135) X w h dX8_step_135
            · have h := h.2 c1_
              refine lv_lookup (pc := 78) (tgt := 136) (off := 58) hx hb dX8_step_78 (by decide +kernel) (lk_out c0_ c1_) (by decide) ?_
              refine lv_iload (pc := 136) hx hb dX8_step_136 (lv_at hl 0 rfl) ?_
              refine lv_i2l (pc := 138) hx hb dX8_step_138 rfl ?_
              exact Clret (pc := 139) X w h dX8_step_139
        · have h := h.1 c_
          refine lv_bipush (pc := 56) (v := (-2 : Int32)) hx hb dX8_step_56 (by decide) ?_
          refine Ccalll (rest := []) (CrunS (pc := 58) X w (okX8_refused l hJ h) kw305 kmX8_refused ⟨rfl, rfl⟩ ⟨by decide, by decide⟩ rfl hl.1 rfl (Nat.le_of_ble_eq_true rfl) dX8_step_58) w (fun r14 u9_ H locs h w => ?_)
          obtain ⟨rfl, h⟩ := h
          exact Clret (pc := 61) X w h dX8_step_61
      · have h := h.1 c_
        refine lv_bipush (pc := 24) (v := (-2 : Int32)) hx hb dX8_step_24 (by decide) ?_
        refine Ccalll (rest := []) (CrunS (pc := 26) X w (okX8_refused l hJ h) kw305 kmX8_refused ⟨rfl, rfl⟩ ⟨by decide, by decide⟩ rfl hl.1 rfl (Nat.le_of_ble_eq_true rfl) dX8_step_26) w (fun r15 u9_ H locs h w => ?_)
        obtain ⟨rfl, h⟩ := h
        exact Clret (pc := 29) X w h dX8_step_29
set_option maxHeartbeats 4000000 in
set_option maxRecDepth 100000 in
theorem okX8_isOneBlock (l : Launch) {D : va_G} {g : Nat → ClassId} {ad : Nat → Nat} (hJ : CJ ad) {u : Mm} {a0 : Int32} {a1 : Int32} {Q : Int32 → Prop} (h : wX8_isOneBlock a0 a1 Q) : Met l yX8_isOneBlock (Cond.code yX8_isOneBlock cX8_isOneBlock 2 (some .boolean) :: gt) ({ frames := 3, cells := 0, slots := 0, locals := 60 } : Room) (CPc D g ad u [.int a0, .int a1]) (va_Qi (fun r u1 => bz r ∧ (u = u1 ∧ Q r)) (CB D g ad) (CA ad)) 0 0 (CA ad) := by
  refine Met.ofW (cc := cX8_isOneBlock) (maxL := 2) (ret := (some .boolean)) (by decide) rfl ?_
  intro p e s m args below meth c s₁ B hml hv
  refine Centry (own := RX8) B hml hv hJ rfl (Nat.le_of_ble_eq_true rfl) (fun ls H locs X w hl => ?_)
  obtain ⟨⟨hx, hb, hml, hown, hts⟩, hr, hlocks, hK, hJ, hAA⟩ := id X
  have hl : lv_has ls 2 [(0, .int a0), (1, .int a1)] := hl
  unfold wX8_isOneBlock at h
  refine lv_iload_n (pc := 0) hx hb dX8_isOneBlock_0 rfl (lv_at hl 0 rfl) ?_
  refine Ccalli (rest := []) (CrunS (pc := 1) X w (okX8_landOf l hJ h) kw273 kmX8_landOf ⟨rfl, rfl⟩ ⟨by decide, by decide⟩ rfl hl.1 rfl (Nat.le_of_ble_eq_true rfl) dX8_isOneBlock_1) w (fun r1 u9_ H locs h w => ?_)
  obtain ⟨rfl, h⟩ := h
  refine lv_iload_n (pc := 4) hx hb dX8_isOneBlock_4 rfl (lv_at hl 1 rfl) ?_
  refine Ccalli (rest := [.int r1]) (CrunS (pc := 5) X w (okX8_landOf l hJ h) kw273 kmX8_landOf ⟨rfl, rfl⟩ ⟨by decide, by decide⟩ rfl hl.1 rfl (Nat.le_of_ble_eq_true rfl) dX8_isOneBlock_5) w (fun r2 u9_ H locs h w => ?_)
  obtain ⟨rfl, h⟩ := h
  refine lv_icmp_ne (pc := 8) (tgt := 37) hx hb dX8_isOneBlock_8 (by decide) (fun c_ => ?_) (fun c_ => ?_)
  · have h := h.2 c_
    refine lv_iconst (pc := 37) (v := (0 : Int32)) hx hb dX8_isOneBlock_37 (by decide) ?_
    exact Czret (pc := 38) X w rfl ⟨rfl, h⟩ dX8_isOneBlock_38
  · have h := h.1 c_
    refine lv_iload_n (pc := 11) hx hb dX8_isOneBlock_11 rfl (lv_at hl 0 rfl) ?_
    refine Ccalli (rest := []) (CrunS (pc := 12) X w (okX8_productOf l hJ h) kw276 kmX8_productOf ⟨rfl, rfl⟩ ⟨by decide, by decide⟩ rfl hl.1 rfl (Nat.le_of_ble_eq_true rfl) dX8_isOneBlock_12) w (fun r3 u9_ H locs h w => ?_)
    obtain ⟨rfl, h⟩ := h
    refine lv_iload_n (pc := 15) hx hb dX8_isOneBlock_15 rfl (lv_at hl 1 rfl) ?_
    refine Ccalli (rest := [.int r3]) (CrunS (pc := 16) X w (okX8_productOf l hJ h) kw276 kmX8_productOf ⟨rfl, rfl⟩ ⟨by decide, by decide⟩ rfl hl.1 rfl (Nat.le_of_ble_eq_true rfl) dX8_isOneBlock_16) w (fun r4 u9_ H locs h w => ?_)
    obtain ⟨rfl, h⟩ := h
    refine lv_icmp_ne (pc := 19) (tgt := 37) hx hb dX8_isOneBlock_19 (by decide) (fun c_ => ?_) (fun c_ => ?_)
    · have h := h.2 c_
      refine lv_iconst (pc := 37) (v := (0 : Int32)) hx hb dX8_isOneBlock_37 (by decide) ?_
      exact Czret (pc := 38) X w rfl ⟨rfl, h⟩ dX8_isOneBlock_38
    · have h := h.1 c_
      refine lv_iload_n (pc := 22) hx hb dX8_isOneBlock_22 rfl (lv_at hl 0 rfl) ?_
      refine Ccalli (rest := []) (CrunS (pc := 23) X w (okX8_yearOf l hJ h) kw284 kmX8_yearOf ⟨rfl, rfl⟩ ⟨by decide, by decide⟩ rfl hl.1 rfl (Nat.le_of_ble_eq_true rfl) dX8_isOneBlock_23) w (fun r5 u9_ H locs h w => ?_)
      obtain ⟨rfl, h⟩ := h
      refine lv_iload_n (pc := 26) hx hb dX8_isOneBlock_26 rfl (lv_at hl 1 rfl) ?_
      refine Ccalli (rest := [.int r5]) (CrunS (pc := 27) X w (okX8_yearOf l hJ h) kw284 kmX8_yearOf ⟨rfl, rfl⟩ ⟨by decide, by decide⟩ rfl hl.1 rfl (Nat.le_of_ble_eq_true rfl) dX8_isOneBlock_27) w (fun r6 u9_ H locs h w => ?_)
      obtain ⟨rfl, h⟩ := h
      refine lv_icmp_ne (pc := 30) (tgt := 37) hx hb dX8_isOneBlock_30 (by decide) (fun c_ => ?_) (fun c_ => ?_)
      · have h := h.2 c_
        refine lv_iconst (pc := 37) (v := (0 : Int32)) hx hb dX8_isOneBlock_37 (by decide) ?_
        exact Czret (pc := 38) X w rfl ⟨rfl, h⟩ dX8_isOneBlock_38
      · have h := h.1 c_
        refine lv_iconst (pc := 33) (v := (1 : Int32)) hx hb dX8_isOneBlock_33 (by decide) ?_
        refine lv_goto (pc := 34) (tgt := 38) hx hb dX8_isOneBlock_34 (by decide) ?_
        exact Czret (pc := 38) X w rfl ⟨rfl, h⟩ dX8_isOneBlock_38
set_option maxHeartbeats 4000000 in
set_option maxRecDepth 100000 in
theorem bX8_led_91 {l : Launch} {p : Program} {e : Env} {s : State} {m : MethodId} {args : Array Value} {below : List Frame} {meth : Method} {c : Code} {D : va_G} {g : Nat → ClassId} {ad : Nat → Nat} {Q : Int64 → Mm → Prop} {k32 : Mm → Int32 → Int32 → Int64 → Int32 → Prop} (X : CX p s m args meth c cX8_led RX8 7 (some .long) (Cond.code yX8_led cX8_led 7 (some .long)) D g ad (CA ad)) (hk32 : ∀ (u : Mm) (x1 : Int32) (x2 : Int32) (x3 : Int64) (x5 : Int32) (H : Heap) (locs : List Loc) (ls : Array Slot), k32 u x1 x2 x3 x5 → CWd D g ad (CA ad) s u H locs → lv_has ls 7 [(0, .ref (ad 0)), (1, .int x1), (2, .int x2), (3, .long x3), (5, .int x5)] → W p l e ({ frames := 4, cells := 0, slots := 0, locals := 81 } : Room) s m args below meth c H locs 0 0 (MQ below (va_Ql Q (CB D g ad) (CA ad)) args s 0 0 (CA ad)) (F0 m 32 ls [])) : ∀ (u : Mm) (x1 : Int32) (x2 : Int32) (x3 : Int64) (x5 : Int32) (y0 : Int32) (H : Heap) (locs : List Loc) (ls : Array Slot), wX8_led_b91 k32 Q u x1 x2 x3 x5 y0 → CWd D g ad (CA ad) s u H locs → lv_has ls 7 [(0, .ref (ad 0)), (1, .int x1), (2, .int x2), (3, .long x3), (5, .int x5)] → W p l e ({ frames := 4, cells := 0, slots := 0, locals := 81 } : Room) s m args below meth c H locs 0 0 (MQ below (va_Ql Q (CB D g ad) (CA ad)) args s 0 0 (CA ad)) (F0 m 91 ls [.int y0]) := by
  obtain ⟨⟨hx, hb, hml, hown, hts⟩, hr, hlocks, hK, hJ, hAA⟩ := id X
  intro u x1 x2 x3 x5 y0 H locs ls h w hl
  unfold wX8_led_b91 at h
  refine lv_istore (pc := 91) (lv' := [(6, .int y0), (0, .ref (ad 0)), (1, .int x1), (2, .int x2), (3, .long x3), (5, .int x5)]) hx hb dX8_led_91 hl (by decide) rfl (fun ls hl => ?_)
  refine lv_iload (pc := 93) hx hb dX8_led_93 (lv_at hl 0 rfl) ?_
  refine lv_if_eq (pc := 95) (tgt := 117) hx hb dX8_led_95 (by decide) (fun c_ => ?_) (fun c_ => ?_)
  · have h := h.1 c_
    obtain ⟨x5_1, e_⟩ : ∃ y : Int32, y = x5 + (1 : Int32) := ⟨_, rfl⟩
    have h := h x5_1 e_
    refine lv_iinc (pc := 117) (v := x5_1) (lv' := [(5, .int x5_1), (6, .int y0), (0, .ref (ad 0)), (1, .int x1), (2, .int x2), (3, .long x3)]) hx hb dX8_led_117 hl (k := 5) rfl (by rw [e_]; rfl) (by decide) rfl (fun ls hl => ?_)
    refine lv_goto (pc := 120) (tgt := 32) hx hb dX8_led_120 (by decide) ?_
    exact hk32 u x1 x2 x3 x5_1 H locs ls h w (lv_sub hl [2, 3, 4, 5, 0] rfl)
  · have h := h.2 c_
    refine lv_aload_n (pc := 98) hx hb dX8_led_98 rfl (lv_at hl 1 rfl) ?_
    refine Cgf_0_0 (pc := 99) X w kw262 dX8_led_99 ?_
    refine lv_iload (pc := 102) hx hb dX8_led_102 (lv_at hl 5 rfl) ?_
    refine Ccalli (rest := []) (CrunV (pc := 104) X w (okX3_isCounted l hJ h) kw298 kmX3_isCounted ⟨rfl, rfl⟩ ⟨by decide, by decide⟩ (Crv_1 X w) rfl hl.1 rfl (Nat.le_of_ble_eq_true rfl) dX8_led_104) w (fun r2 u3 H locs h w => ?_)
    obtain ⟨hz_r2, h⟩ := h
    refine lv_if_eq (pc := 107) (tgt := 117) hx hb dX8_led_107 (by decide) (fun c_ => ?_) (fun c_ => ?_)
    · have h := h.1 c_
      obtain ⟨x5_4, e_⟩ : ∃ y : Int32, y = x5 + (1 : Int32) := ⟨_, rfl⟩
      have h := h x5_4 e_
      refine lv_iinc (pc := 117) (v := x5_4) (lv' := [(5, .int x5_4), (6, .int y0), (0, .ref (ad 0)), (1, .int x1), (2, .int x2), (3, .long x3)]) hx hb dX8_led_117 hl (k := 5) rfl (by rw [e_]; rfl) (by decide) rfl (fun ls hl => ?_)
      refine lv_goto (pc := 120) (tgt := 32) hx hb dX8_led_120 (by decide) ?_
      exact hk32 u3 x1 x2 x3 x5_4 H locs ls h w (lv_sub hl [2, 3, 4, 5, 0] rfl)
    · have h := h.2 c_
      refine lv_lload_n (pc := 110) hx hb dX8_led_110 rfl (lv_at hl 4 rfl) ?_
      refine lv_lconst (pc := 111) (v := (1 : Int64)) hx hb dX8_led_111 (by decide) ?_
      refine lv_iload (pc := 112) hx hb dX8_led_112 (lv_at hl 5 rfl) ?_
      refine lv_lshl (pc := 114) hx hb dX8_led_114 rfl ?_
      refine lv_lor (pc := 115) hx hb dX8_led_115 ?_
      refine lv_topl (fun x3_5 e_ => ?_)
      have h := h x3_5 e_
      refine lv_lstore_n (pc := 116) (lv' := [(3, .long x3_5), (6, .int y0), (0, .ref (ad 0)), (1, .int x1), (2, .int x2), (5, .int x5)]) hx hb dX8_led_116 rfl hl (by decide) rfl (fun ls hl => ?_)
      obtain ⟨x5_6, e_⟩ : ∃ y : Int32, y = x5 + (1 : Int32) := ⟨_, rfl⟩
      have h := h x5_6 e_
      refine lv_iinc (pc := 117) (v := x5_6) (lv' := [(5, .int x5_6), (3, .long x3_5), (6, .int y0), (0, .ref (ad 0)), (1, .int x1), (2, .int x2)]) hx hb dX8_led_117 hl (k := 5) rfl (by rw [e_]; rfl) (by decide) rfl (fun ls hl => ?_)
      refine lv_goto (pc := 120) (tgt := 32) hx hb dX8_led_120 (by decide) ?_
      exact hk32 u3 x1 x2 x3_5 x5_6 H locs ls h w (lv_sub hl [3, 4, 5, 1, 0] rfl)
set_option maxHeartbeats 4000000 in
set_option maxRecDepth 100000 in
theorem bX8_led_32 {l : Launch} {p : Program} {e : Env} {s : State} {m : MethodId} {args : Array Value} {below : List Frame} {meth : Method} {c : Code} {D : va_G} {g : Nat → ClassId} {ad : Nat → Nat} {Q : Int64 → Mm → Prop} (X : CX p s m args meth c cX8_led RX8 7 (some .long) (Cond.code yX8_led cX8_led 7 (some .long)) D g ad (CA ad)) : ∀ (n : Nat) (u : Mm) (x1 : Int32) (x2 : Int32) (x3 : Int64) (x5 : Int32) (H : Heap) (locs : List Loc) (ls : Array Slot), wX8_led_b32 Q n u x1 x2 x3 x5 → CWd D g ad (CA ad) s u H locs → lv_has ls 7 [(0, .ref (ad 0)), (1, .int x1), (2, .int x2), (3, .long x3), (5, .int x5)] → W p l e ({ frames := 4, cells := 0, slots := 0, locals := 81 } : Room) s m args below meth c H locs 0 0 (MQ below (va_Ql Q (CB D g ad) (CA ad)) args s 0 0 (CA ad)) (F0 m 32 ls []) := by
  obtain ⟨⟨hx, hb, hml, hown, hts⟩, hr, hlocks, hK, hJ, hAA⟩ := id X
  intro n
  induction n with
  | zero =>
    intro u x1 x2 x3 x5 H locs ls h
    exact False.elim h
  | succ n ih =>
    intro u x1 x2 x3 x5 H locs ls h w hl
    unfold wX8_led_b32 at h
    refine lv_iload (pc := 32) hx hb dX8_led_32 (lv_at hl 4 rfl) ?_
    refine lv_aload_n (pc := 34) hx hb dX8_led_34 rfl (lv_at hl 0 rfl) ?_
    refine Cgf_0_0 (pc := 35) X w kw262 dX8_led_35 ?_
    refine Cgf_1_8 (pc := 38) X w kw283 dX8_led_38 ?_
    refine lv_icmp_ge (pc := 41) (tgt := 123) hx hb dX8_led_41 (by decide) (fun c_ => ?_) (fun c_ => ?_)
    · have h := h.1 c_
      refine lv_lload_n (pc := 123) hx hb dX8_led_123 rfl (lv_at hl 3 rfl) ?_
      exact Clret (pc := 124) X w h dX8_led_124
    · have h := h.2 c_
      refine lv_iload (pc := 44) hx hb dX8_led_44 (lv_at hl 4 rfl) ?_
      refine lv_bipush (pc := 46) (v := (63 : Int32)) hx hb dX8_led_46 (by decide) ?_
      refine lv_icmp_ge (pc := 48) (tgt := 123) hx hb dX8_led_48 (by decide) (fun c_ => ?_) (fun c_ => ?_)
      · have h := h.1 c_
        refine lv_lload_n (pc := 123) hx hb dX8_led_123 rfl (lv_at hl 3 rfl) ?_
        exact Clret (pc := 124) X w h dX8_led_124
      · have h := h.2 c_
        refine lv_iload_n (pc := 51) hx hb dX8_led_51 rfl (lv_at hl 2 rfl) ?_
        refine lv_if_eq (pc := 52) (tgt := 72) hx hb dX8_led_52 (by decide) (fun c_ => ?_) (fun c_ => ?_)
        · have h := h.1 c_
          refine lv_iload_n (pc := 72) hx hb dX8_led_72 rfl (lv_at hl 1 rfl) ?_
          refine lv_aload_n (pc := 73) hx hb dX8_led_73 rfl (lv_at hl 0 rfl) ?_
          refine Cgf_0_0 (pc := 74) X w kw262 dX8_led_74 ?_
          refine Cgf_1_2 (pc := 77) X w kw295 dX8_led_77 ?_
          refine lv_iload (pc := 80) hx hb dX8_led_80 (lv_at hl 4 rfl) ?_
          refine Cld_4 (pc := 82) X w h.1 dX8_led_82 ?_
          have h := h.2
          refine lv_icmp_ne (pc := 83) (tgt := 90) hx hb dX8_led_83 (by decide) (fun c_ => ?_) (fun c_ => ?_)
          · have h := h.2 c_
            refine lv_iconst (pc := 90) (v := (0 : Int32)) hx hb dX8_led_90 (by decide) ?_
            refine bX8_led_91 X ?_ u x1 x2 x3 x5 (0 : Int32) H locs ls h w (lv_sub hl [0, 1, 2, 3, 4] rfl)
            · intro u x1 x2 x3 x5 H locs ls h w hl
              exact ih u x1 x2 x3 x5 H locs ls h w (lv_sub hl [0, 1, 2, 3, 4] rfl)
          · have h := h.1 c_
            refine lv_iconst (pc := 86) (v := (1 : Int32)) hx hb dX8_led_86 (by decide) ?_
            refine lv_goto (pc := 87) (tgt := 91) hx hb dX8_led_87 (by decide) ?_
            refine bX8_led_91 X ?_ u x1 x2 x3 x5 (1 : Int32) H locs ls h w (lv_sub hl [0, 1, 2, 3, 4] rfl)
            · intro u x1 x2 x3 x5 H locs ls h w hl
              exact ih u x1 x2 x3 x5 H locs ls h w (lv_sub hl [0, 1, 2, 3, 4] rfl)
        · have h := h.2 c_
          refine lv_iload_n (pc := 55) hx hb dX8_led_55 rfl (lv_at hl 1 rfl) ?_
          refine lv_aload_n (pc := 56) hx hb dX8_led_56 rfl (lv_at hl 0 rfl) ?_
          refine Cgf_0_0 (pc := 57) X w kw262 dX8_led_57 ?_
          refine Cgf_1_2 (pc := 60) X w kw295 dX8_led_60 ?_
          refine lv_iload (pc := 63) hx hb dX8_led_63 (lv_at hl 4 rfl) ?_
          refine Cld_4 (pc := 65) X w h.1 dX8_led_65 ?_
          have h := h.2
          refine Ccalli (rest := []) (CrunS (pc := 66) X w (okX8_isOneBlock l hJ h) kw431 kmX8_isOneBlock ⟨rfl, rfl⟩ ⟨by decide, by decide⟩ rfl hl.1 rfl (Nat.le_of_ble_eq_true rfl) dX8_led_66) w (fun r1 u9_ H locs h w => ?_)
          obtain ⟨hz_r1, h⟩ := h
          obtain ⟨rfl, h⟩ := h
          refine lv_goto (pc := 69) (tgt := 91) hx hb dX8_led_69 (by decide) ?_
          refine bX8_led_91 X ?_ u x1 x2 x3 x5 r1 H locs ls h w (lv_sub hl [0, 1, 2, 3, 4] rfl)
          · intro u x1 x2 x3 x5 H locs ls h w hl
            exact ih u x1 x2 x3 x5 H locs ls h w (lv_sub hl [0, 1, 2, 3, 4] rfl)
set_option maxHeartbeats 4000000 in
set_option maxRecDepth 100000 in
theorem okX8_led (l : Launch) {D : va_G} {g : Nat → ClassId} {ad : Nat → Nat} (hJ : CJ ad) {u : Mm} {a1 : Int32} {a2 : Int32} {Q : Int64 → Mm → Prop} (h : wX8_led u a1 a2 Q) : Met l yX8_led (Cond.code yX8_led cX8_led 7 (some .long) :: gt) ({ frames := 4, cells := 0, slots := 0, locals := 81 } : Room) (CPc D g ad u [.ref (ad 0), .int a1, .int a2]) (va_Ql Q (CB D g ad) (CA ad)) 0 0 (CA ad) := by
  refine Met.ofW (cc := cX8_led) (maxL := 7) (ret := (some .long)) (by decide) rfl ?_
  intro p e s m args below meth c s₁ B hml hv
  refine Centry (own := RX8) B hml hv hJ rfl (Nat.le_of_ble_eq_true rfl) (fun ls H locs X w hl => ?_)
  obtain ⟨⟨hx, hb, hml, hown, hts⟩, hr, hlocks, hK, hJ, hAA⟩ := id X
  have hl : lv_has ls 7 [(0, .ref (ad 0)), (1, .int a1), (2, .int a2)] := hl
  unfold wX8_led at h
  refine lv_iload_n (pc := 0) hx hb dX8_led_0 rfl (lv_at hl 1 rfl) ?_
  refine lv_sipush (pc := 1) (v := (720 : Int32)) hx hb dX8_led_1 (by decide) ?_
  refine Ccalli (rest := []) (CrunS (pc := 4) X w (okX8_below l hJ h) kw23 kmX8_below ⟨rfl, rfl⟩ ⟨by decide, by decide⟩ rfl hl.1 rfl (Nat.le_of_ble_eq_true rfl) dX8_led_4) w (fun r1 u9_ H locs h w => ?_)
  obtain ⟨hz_r1, h⟩ := h
  obtain ⟨rfl, h⟩ := h
  refine lv_if_eq (pc := 7) (tgt := 21) hx hb dX8_led_7 (by decide) (fun c_ => ?_) (fun c_ => ?_)
  · have h := h.1 c_
    refine lv_bipush (pc := 21) (v := (-2 : Int32)) hx hb dX8_led_21 (by decide) ?_
    refine Ccalll (rest := []) (CrunS (pc := 23) X w (okX8_refused l hJ h) kw305 kmX8_refused ⟨rfl, rfl⟩ ⟨by decide, by decide⟩ rfl hl.1 rfl (Nat.le_of_ble_eq_true rfl) dX8_led_23) w (fun r2 u9_ H locs h w => ?_)
    obtain ⟨rfl, h⟩ := h
    exact Clret (pc := 26) X w h dX8_led_26
  · have h := h.2 c_
    refine lv_iload_n (pc := 10) hx hb dX8_led_10 rfl (lv_at hl 2 rfl) ?_
    refine lv_if_eq (pc := 11) (tgt := 27) hx hb dX8_led_11 (by decide) (fun c_ => ?_) (fun c_ => ?_)
    · have h := h.1 c_
      refine lv_lconst (pc := 27) (v := (0 : Int64)) hx hb dX8_led_27 (by decide) ?_
      refine lv_lstore_n (pc := 28) (lv' := [(3, .long (0 : Int64)), (0, .ref (ad 0)), (1, .int a1), (2, .int a2)]) hx hb dX8_led_28 rfl hl (by decide) rfl (fun ls hl => ?_)
      refine lv_iconst (pc := 29) (v := (0 : Int32)) hx hb dX8_led_29 (by decide) ?_
      refine lv_istore (pc := 30) (lv' := [(5, .int (0 : Int32)), (3, .long (0 : Int64)), (0, .ref (ad 0)), (1, .int a1), (2, .int a2)]) hx hb dX8_led_30 hl (by decide) rfl (fun ls hl => ?_)
      obtain ⟨n9, h⟩ := h
      exact bX8_led_32 X n9 u a1 a2 (0 : Int64) (0 : Int32) H locs ls h w (lv_sub hl [2, 3, 4, 1, 0] rfl)
    · have h := h.2 c_
      refine lv_iload_n (pc := 14) hx hb dX8_led_14 rfl (lv_at hl 1 rfl) ?_
      refine Ccalli (rest := []) (CrunS (pc := 15) X w (okX8_isAnnual l hJ h) kw185 kmX8_isAnnual ⟨rfl, rfl⟩ ⟨by decide, by decide⟩ rfl hl.1 rfl (Nat.le_of_ble_eq_true rfl) dX8_led_15) w (fun r3 u9_ H locs h w => ?_)
      obtain ⟨hz_r3, h⟩ := h
      obtain ⟨rfl, h⟩ := h
      refine lv_if_eq (pc := 18) (tgt := 27) hx hb dX8_led_18 (by decide) (fun c_ => ?_) (fun c_ => ?_)
      · have h := h.1 c_
        refine lv_lconst (pc := 27) (v := (0 : Int64)) hx hb dX8_led_27 (by decide) ?_
        refine lv_lstore_n (pc := 28) (lv' := [(3, .long (0 : Int64)), (0, .ref (ad 0)), (1, .int a1), (2, .int a2)]) hx hb dX8_led_28 rfl hl (by decide) rfl (fun ls hl => ?_)
        refine lv_iconst (pc := 29) (v := (0 : Int32)) hx hb dX8_led_29 (by decide) ?_
        refine lv_istore (pc := 30) (lv' := [(5, .int (0 : Int32)), (3, .long (0 : Int64)), (0, .ref (ad 0)), (1, .int a1), (2, .int a2)]) hx hb dX8_led_30 hl (by decide) rfl (fun ls hl => ?_)
        obtain ⟨n9, h⟩ := h
        exact bX8_led_32 X n9 u a1 a2 (0 : Int64) (0 : Int32) H locs ls h w (lv_sub hl [2, 3, 4, 1, 0] rfl)
      · have h := h.2 c_
        refine lv_bipush (pc := 21) (v := (-2 : Int32)) hx hb dX8_led_21 (by decide) ?_
        refine Ccalll (rest := []) (CrunS (pc := 23) X w (okX8_refused l hJ h) kw305 kmX8_refused ⟨rfl, rfl⟩ ⟨by decide, by decide⟩ rfl hl.1 rfl (Nat.le_of_ble_eq_true rfl) dX8_led_23) w (fun r4 u9_ H locs h w => ?_)
        obtain ⟨rfl, h⟩ := h
        exact Clret (pc := 26) X w h dX8_led_26
set_option maxHeartbeats 4000000 in
set_option maxRecDepth 100000 in
theorem okX8_found (l : Launch) {D : va_G} {g : Nat → ClassId} {ad : Nat → Nat} (hJ : CJ ad) {u : Mm} {a1 : Int32} {Q : Int32 → Mm → Prop} (h : wX8_found u a1 Q) : Met l yX8_found (Cond.code yX8_found cX8_found 2 (some .int) :: gt) ({ frames := 0, cells := 0, slots := 0, locals := 0 } : Room) (CPc D g ad u [.ref (ad 0), .int a1]) (va_Qi Q (CB D g ad) (CA ad)) 0 0 (CA ad) := by
  refine Met.ofW (cc := cX8_found) (maxL := 2) (ret := (some .int)) (by decide) rfl ?_
  intro p e s m args below meth c s₁ B hml hv
  refine Centry (own := RX8) B hml hv hJ rfl (Nat.le_of_ble_eq_true rfl) (fun ls H locs X w hl => ?_)
  obtain ⟨⟨hx, hb, hml, hown, hts⟩, hr, hlocks, hK, hJ, hAA⟩ := id X
  have hl : lv_has ls 2 [(0, .ref (ad 0)), (1, .int a1)] := hl
  unfold wX8_found at h
  refine lv_aload_n (pc := 0) hx hb dX8_found_0 rfl (lv_at hl 0 rfl) ?_
  refine lv_iload_n (pc := 1) hx hb dX8_found_1 rfl (lv_at hl 1 rfl) ?_
  refine Cpf_0_7 (pc := 2) X w kw434 dX8_found_2 (fun H locs w => ?_)
  obtain ⟨u1, e_⟩ : ∃ y : Mm, y = s32 u 107 0 a1 := ⟨_, rfl⟩
  rw [← e_] at w
  have h := h u1 e_
  refine lv_bipush (pc := 5) (v := (-10 : Int32)) hx hb dX8_found_5 (by decide) ?_
  refine lv_iload_n (pc := 7) hx hb dX8_found_7 rfl (lv_at hl 1 rfl) ?_
  refine lv_isub (pc := 8) hx hb dX8_found_8 ?_
  exact Ciret (pc := 9) X w h dX8_found_9
set_option maxHeartbeats 4000000 in
set_option maxRecDepth 100000 in
theorem okX8_sheet (l : Launch) {D : va_G} {g : Nat → ClassId} {ad : Nat → Nat} (hJ : CJ ad) {u : Mm} {a1 : Int32} {a2 : Int32} {a3 : Int32} {Q : Int32 → Mm → Prop} (h : wX8_sheet u a1 a2 a3 Q) : Met l yX8_sheet (Cond.code yX8_sheet cX8_sheet 4 (some .int) :: gt) ({ frames := 2, cells := 0, slots := 0, locals := 45 } : Room) (CPc D g ad u [.ref (ad 0), .int a1, .int a2, .int a3]) (va_Qi Q (CB D g ad) (CA ad)) 0 0 (CA ad) := by
  refine Met.ofW (cc := cX8_sheet) (maxL := 4) (ret := (some .int)) (by decide) rfl ?_
  intro p e s m args below meth c s₁ B hml hv
  refine Centry (own := RX8) B hml hv hJ rfl (Nat.le_of_ble_eq_true rfl) (fun ls H locs X w hl => ?_)
  obtain ⟨⟨hx, hb, hml, hown, hts⟩, hr, hlocks, hK, hJ, hAA⟩ := id X
  have hl : lv_has ls 4 [(0, .ref (ad 0)), (1, .int a1), (2, .int a2), (3, .int a3)] := hl
  unfold wX8_sheet at h
  refine lv_iload_n (pc := 0) hx hb dX8_sheet_0 rfl (lv_at hl 1 rfl) ?_
  refine lv_iconst (pc := 1) (v := (4 : Int32)) hx hb dX8_sheet_1 (by decide) ?_
  refine Ccalli (rest := []) (CrunS (pc := 2) X w (okX8_below l hJ h) kw23 kmX8_below ⟨rfl, rfl⟩ ⟨by decide, by decide⟩ rfl hl.1 rfl (Nat.le_of_ble_eq_true rfl) dX8_sheet_2) w (fun r1 u9_ H locs h w => ?_)
  obtain ⟨hz_r1, h⟩ := h
  obtain ⟨rfl, h⟩ := h
  refine lv_if_eq (pc := 5) (tgt := 22) hx hb dX8_sheet_5 (by decide) (fun c_ => ?_) (fun c_ => ?_)
  · have h := h.1 c_
    refine lv_bipush (pc := 22) (v := (-2 : Int32)) hx hb dX8_sheet_22 (by decide) ?_
    exact Ciret (pc := 24) X w h dX8_sheet_24
  · have h := h.2 c_
    refine lv_iload_n (pc := 8) hx hb dX8_sheet_8 rfl (lv_at hl 2 rfl) ?_
    refine lv_iconst (pc := 9) (v := (3 : Int32)) hx hb dX8_sheet_9 (by decide) ?_
    refine Ccalli (rest := []) (CrunS (pc := 10) X w (okX8_below l hJ h) kw23 kmX8_below ⟨rfl, rfl⟩ ⟨by decide, by decide⟩ rfl hl.1 rfl (Nat.le_of_ble_eq_true rfl) dX8_sheet_10) w (fun r2 u9_ H locs h w => ?_)
    obtain ⟨hz_r2, h⟩ := h
    obtain ⟨rfl, h⟩ := h
    refine lv_if_eq (pc := 13) (tgt := 22) hx hb dX8_sheet_13 (by decide) (fun c_ => ?_) (fun c_ => ?_)
    · have h := h.1 c_
      refine lv_bipush (pc := 22) (v := (-2 : Int32)) hx hb dX8_sheet_22 (by decide) ?_
      exact Ciret (pc := 24) X w h dX8_sheet_24
    · have h := h.2 c_
      refine lv_iload_n (pc := 16) hx hb dX8_sheet_16 rfl (lv_at hl 3 rfl) ?_
      refine lv_bipush (pc := 17) (v := (60 : Int32)) hx hb dX8_sheet_17 (by decide) ?_
      refine lv_icmp_le (pc := 19) (tgt := 25) hx hb dX8_sheet_19 (by decide) (fun c_ => ?_) (fun c_ => ?_)
      · have h := h.1 c_
        refine lv_iload_n (pc := 25) hx hb dX8_sheet_25 rfl (lv_at hl 3 rfl) ?_
        refine lv_if_ge (pc := 26) (tgt := 35) hx hb dX8_sheet_26 (by decide) (fun c_ => ?_) (fun c_ => ?_)
        · have h := h.1 c_
          refine lv_aload_n (pc := 35) hx hb dX8_sheet_35 rfl (lv_at hl 0 rfl) ?_
          refine Cgf_0_6 (pc := 36) X w kw435 dX8_sheet_36 ?_
          refine lv_iload_n (pc := 39) hx hb dX8_sheet_39 rfl (lv_at hl 1 rfl) ?_
          obtain ⟨j3, hj_, e_⟩ := vp_in_of h.1 (by decide)
          have h := h.2 j3 hj_ e_
          refine W.eq (g2 := F0 m 40 ls (.int (nI j3) :: .ref (ad 53) :: [])) (by rw [e_]) ?_
          clear e_
          rcases (show j3 = 0 ∨ j3 = 1 ∨ j3 = 2 ∨ j3 = 3 by omega) with rfl | rfl | rfl | rfl
          · refine Caq_53 0 (by decide) (pc := 40) X w dX8_sheet_40 ?_
            refine lv_iload_n (pc := 41) hx hb dX8_sheet_41 rfl (lv_at hl 2 rfl) ?_
            refine lv_iload_n (pc := 42) hx hb dX8_sheet_42 rfl (lv_at hl 3 rfl) ?_
            refine Ccallv (rest := []) (CrunV (pc := 43) X w (okX5_renew_i0 l hJ h) kw436 kmX5_renew ⟨rfl, rfl⟩ ⟨by decide, by decide⟩ (Crv_54 X w) rfl hl.1 rfl (Nat.le_of_ble_eq_true rfl) dX8_sheet_43) w (fun u5 H locs h w => ?_)
            refine lv_iload_n (pc := 46) hx hb dX8_sheet_46 rfl (lv_at hl 3 rfl) ?_
            exact Ciret (pc := 47) X w h dX8_sheet_47
          · refine Caq_53 1 (by decide) (pc := 40) X w dX8_sheet_40 ?_
            refine lv_iload_n (pc := 41) hx hb dX8_sheet_41 rfl (lv_at hl 2 rfl) ?_
            refine lv_iload_n (pc := 42) hx hb dX8_sheet_42 rfl (lv_at hl 3 rfl) ?_
            refine Ccallv (rest := []) (CrunV (pc := 43) X w (okX5_renew_i1 l hJ h) kw436 kmX5_renew ⟨rfl, rfl⟩ ⟨by decide, by decide⟩ (Crv_56 X w) rfl hl.1 rfl (Nat.le_of_ble_eq_true rfl) dX8_sheet_43) w (fun u5 H locs h w => ?_)
            refine lv_iload_n (pc := 46) hx hb dX8_sheet_46 rfl (lv_at hl 3 rfl) ?_
            exact Ciret (pc := 47) X w h dX8_sheet_47
          · refine Caq_53 2 (by decide) (pc := 40) X w dX8_sheet_40 ?_
            refine lv_iload_n (pc := 41) hx hb dX8_sheet_41 rfl (lv_at hl 2 rfl) ?_
            refine lv_iload_n (pc := 42) hx hb dX8_sheet_42 rfl (lv_at hl 3 rfl) ?_
            refine Ccallv (rest := []) (CrunV (pc := 43) X w (okX5_renew_i2 l hJ h) kw436 kmX5_renew ⟨rfl, rfl⟩ ⟨by decide, by decide⟩ (Crv_58 X w) rfl hl.1 rfl (Nat.le_of_ble_eq_true rfl) dX8_sheet_43) w (fun u5 H locs h w => ?_)
            refine lv_iload_n (pc := 46) hx hb dX8_sheet_46 rfl (lv_at hl 3 rfl) ?_
            exact Ciret (pc := 47) X w h dX8_sheet_47
          · refine Caq_53 3 (by decide) (pc := 40) X w dX8_sheet_40 ?_
            refine lv_iload_n (pc := 41) hx hb dX8_sheet_41 rfl (lv_at hl 2 rfl) ?_
            refine lv_iload_n (pc := 42) hx hb dX8_sheet_42 rfl (lv_at hl 3 rfl) ?_
            refine Ccallv (rest := []) (CrunV (pc := 43) X w (okX5_renew_i3 l hJ h) kw436 kmX5_renew ⟨rfl, rfl⟩ ⟨by decide, by decide⟩ (Crv_60 X w) rfl hl.1 rfl (Nat.le_of_ble_eq_true rfl) dX8_sheet_43) w (fun u5 H locs h w => ?_)
            refine lv_iload_n (pc := 46) hx hb dX8_sheet_46 rfl (lv_at hl 3 rfl) ?_
            exact Ciret (pc := 47) X w h dX8_sheet_47
        · have h := h.2 c_
          refine lv_aload_n (pc := 29) hx hb dX8_sheet_29 rfl (lv_at hl 0 rfl) ?_
          refine lv_iconst (pc := 30) (v := (5 : Int32)) hx hb dX8_sheet_30 (by decide) ?_
          refine Ccalli (rest := []) (CrunV (pc := 31) X w (okX8_found l hJ h) kw441 kmX8_found ⟨rfl, rfl⟩ ⟨by decide, by decide⟩ (Crv_0 X w) rfl hl.1 rfl (Nat.le_of_ble_eq_true rfl) dX8_sheet_31) w (fun r504 u505 H locs h w => ?_)
          exact Ciret (pc := 34) X w h dX8_sheet_34
      · have h := h.2 c_
        refine lv_bipush (pc := 22) (v := (-2 : Int32)) hx hb dX8_sheet_22 (by decide) ?_
        exact Ciret (pc := 24) X w h dX8_sheet_24
set_option maxHeartbeats 4000000 in
set_option maxRecDepth 100000 in
theorem okX8_lose (l : Launch) {D : va_G} {g : Nat → ClassId} {ad : Nat → Nat} (hJ : CJ ad) {u : Mm} {a1 : Int32} {Q : Int32 → Mm → Prop} (h : wX8_lose u a1 Q) : Met l yX8_lose (Cond.code yX8_lose cX8_lose 2 (some .int) :: gt) ({ frames := 1, cells := 0, slots := 0, locals := 21 } : Room) (CPc D g ad u [.ref (ad 0), .int a1]) (va_Qi Q (CB D g ad) (CA ad)) 0 0 (CA ad) := by
  refine Met.ofW (cc := cX8_lose) (maxL := 2) (ret := (some .int)) (by decide) rfl ?_
  intro p e s m args below meth c s₁ B hml hv
  refine Centry (own := RX8) B hml hv hJ rfl (Nat.le_of_ble_eq_true rfl) (fun ls H locs X w hl => ?_)
  obtain ⟨⟨hx, hb, hml, hown, hts⟩, hr, hlocks, hK, hJ, hAA⟩ := id X
  have hl : lv_has ls 2 [(0, .ref (ad 0)), (1, .int a1)] := hl
  unfold wX8_lose at h
  refine lv_iload_n (pc := 0) hx hb dX8_lose_0 rfl (lv_at hl 1 rfl) ?_
  refine lv_iconst (pc := 1) (v := (4 : Int32)) hx hb dX8_lose_1 (by decide) ?_
  refine Ccalli (rest := []) (CrunS (pc := 2) X w (okX8_below l hJ h) kw23 kmX8_below ⟨rfl, rfl⟩ ⟨by decide, by decide⟩ rfl hl.1 rfl (Nat.le_of_ble_eq_true rfl) dX8_lose_2) w (fun r1 u9_ H locs h w => ?_)
  obtain ⟨hz_r1, h⟩ := h
  obtain ⟨rfl, h⟩ := h
  refine lv_if_ne (pc := 5) (tgt := 11) hx hb dX8_lose_5 (by decide) (fun c_ => ?_) (fun c_ => ?_)
  · have h := h.2 c_
    refine lv_aload_n (pc := 11) hx hb dX8_lose_11 rfl (lv_at hl 0 rfl) ?_
    refine Cgf_0_6 (pc := 12) X w kw435 dX8_lose_12 ?_
    refine lv_iload_n (pc := 15) hx hb dX8_lose_15 rfl (lv_at hl 1 rfl) ?_
    obtain ⟨j2, hj_, e_⟩ := vp_in_of h.1 (by decide)
    have h := h.2 j2 hj_ e_
    refine W.eq (g2 := F0 m 16 ls (.int (nI j2) :: .ref (ad 53) :: [])) (by rw [e_]) ?_
    clear e_
    rcases (show j2 = 0 ∨ j2 = 1 ∨ j2 = 2 ∨ j2 = 3 by omega) with rfl | rfl | rfl | rfl
    · refine Caq_53 0 (by decide) (pc := 16) X w dX8_lose_16 ?_
      refine Cgf_54_3 (pc := 17) X w kw445 dX8_lose_17 ?_
      refine lv_if_eq (pc := 20) (tgt := 29) hx hb dX8_lose_20 (by decide) (fun c_ => ?_) (fun c_ => ?_)
      · have h := h.1 c_
        refine lv_aload_n (pc := 29) hx hb dX8_lose_29 rfl (lv_at hl 0 rfl) ?_
        refine Cgf_0_6 (pc := 30) X w kw435 dX8_lose_30 ?_
        refine lv_iload_n (pc := 33) hx hb dX8_lose_33 rfl (lv_at hl 1 rfl) ?_
        obtain ⟨j3, hj_, e_⟩ := vp_in_of h.1 (by decide)
        have h := h.2 j3 hj_ e_
        refine W.eq (g2 := F0 m 34 ls (.int (nI j3) :: .ref (ad 53) :: [])) (by rw [e_]) ?_
        clear e_
        rcases (show j3 = 0 ∨ j3 = 1 ∨ j3 = 2 ∨ j3 = 3 by omega) with rfl | rfl | rfl | rfl
        · refine Caq_53 0 (by decide) (pc := 34) X w dX8_lose_34 ?_
          refine lv_iconst (pc := 35) (v := (1 : Int32)) hx hb dX8_lose_35 (by decide) ?_
          refine Cpf_54_3 (pc := 36) X w kw445 rfl rfl dX8_lose_36 (fun H locs w => ?_)
          obtain ⟨u4, e_⟩ : ∃ y : Mm, y = s32 u 967 0 (1 : Int32) := ⟨_, rfl⟩
          rw [← e_] at w
          have h := h u4 e_
          refine lv_aload_n (pc := 39) hx hb dX8_lose_39 rfl (lv_at hl 0 rfl) ?_
          refine Cgf_0_6 (pc := 40) X w kw435 dX8_lose_40 ?_
          refine lv_iload_n (pc := 43) hx hb dX8_lose_43 rfl (lv_at hl 1 rfl) ?_
          obtain ⟨j5, hj_, e_⟩ := vp_in_of h.1 (by decide)
          have h := h.2 j5 hj_ e_
          refine W.eq (g2 := F0 m 44 ls (.int (nI j5) :: .ref (ad 53) :: [])) (by rw [e_]) ?_
          clear e_
          rcases (show j5 = 0 ∨ j5 = 1 ∨ j5 = 2 ∨ j5 = 3 by omega) with rfl | rfl | rfl | rfl
          · refine Caq_53 0 (by decide) (pc := 44) X w dX8_lose_44 ?_
            refine Cgf_54_2 (pc := 45) X w kw446 dX8_lose_45 ?_
            exact Ciret (pc := 48) X w h dX8_lose_48
          · refine Caq_53 1 (by decide) (pc := 44) X w dX8_lose_44 ?_
            refine Cgf_56_2 (pc := 45) X w kw446 dX8_lose_45 ?_
            exact Ciret (pc := 48) X w h dX8_lose_48
          · refine Caq_53 2 (by decide) (pc := 44) X w dX8_lose_44 ?_
            refine Cgf_58_2 (pc := 45) X w kw446 dX8_lose_45 ?_
            exact Ciret (pc := 48) X w h dX8_lose_48
          · refine Caq_53 3 (by decide) (pc := 44) X w dX8_lose_44 ?_
            refine Cgf_60_2 (pc := 45) X w kw446 dX8_lose_45 ?_
            exact Ciret (pc := 48) X w h dX8_lose_48
        · refine Caq_53 1 (by decide) (pc := 34) X w dX8_lose_34 ?_
          refine lv_iconst (pc := 35) (v := (1 : Int32)) hx hb dX8_lose_35 (by decide) ?_
          refine Cpf_56_3 (pc := 36) X w kw445 rfl rfl dX8_lose_36 (fun H locs w => ?_)
          obtain ⟨u4, e_⟩ : ∃ y : Mm, y = s32 u 999 0 (1 : Int32) := ⟨_, rfl⟩
          rw [← e_] at w
          have h := h u4 e_
          refine lv_aload_n (pc := 39) hx hb dX8_lose_39 rfl (lv_at hl 0 rfl) ?_
          refine Cgf_0_6 (pc := 40) X w kw435 dX8_lose_40 ?_
          refine lv_iload_n (pc := 43) hx hb dX8_lose_43 rfl (lv_at hl 1 rfl) ?_
          obtain ⟨j5, hj_, e_⟩ := vp_in_of h.1 (by decide)
          have h := h.2 j5 hj_ e_
          refine W.eq (g2 := F0 m 44 ls (.int (nI j5) :: .ref (ad 53) :: [])) (by rw [e_]) ?_
          clear e_
          rcases (show j5 = 0 ∨ j5 = 1 ∨ j5 = 2 ∨ j5 = 3 by omega) with rfl | rfl | rfl | rfl
          · refine Caq_53 0 (by decide) (pc := 44) X w dX8_lose_44 ?_
            refine Cgf_54_2 (pc := 45) X w kw446 dX8_lose_45 ?_
            exact Ciret (pc := 48) X w h dX8_lose_48
          · refine Caq_53 1 (by decide) (pc := 44) X w dX8_lose_44 ?_
            refine Cgf_56_2 (pc := 45) X w kw446 dX8_lose_45 ?_
            exact Ciret (pc := 48) X w h dX8_lose_48
          · refine Caq_53 2 (by decide) (pc := 44) X w dX8_lose_44 ?_
            refine Cgf_58_2 (pc := 45) X w kw446 dX8_lose_45 ?_
            exact Ciret (pc := 48) X w h dX8_lose_48
          · refine Caq_53 3 (by decide) (pc := 44) X w dX8_lose_44 ?_
            refine Cgf_60_2 (pc := 45) X w kw446 dX8_lose_45 ?_
            exact Ciret (pc := 48) X w h dX8_lose_48
        · refine Caq_53 2 (by decide) (pc := 34) X w dX8_lose_34 ?_
          refine lv_iconst (pc := 35) (v := (1 : Int32)) hx hb dX8_lose_35 (by decide) ?_
          refine Cpf_58_3 (pc := 36) X w kw445 rfl rfl dX8_lose_36 (fun H locs w => ?_)
          obtain ⟨u4, e_⟩ : ∃ y : Mm, y = s32 u 1031 0 (1 : Int32) := ⟨_, rfl⟩
          rw [← e_] at w
          have h := h u4 e_
          refine lv_aload_n (pc := 39) hx hb dX8_lose_39 rfl (lv_at hl 0 rfl) ?_
          refine Cgf_0_6 (pc := 40) X w kw435 dX8_lose_40 ?_
          refine lv_iload_n (pc := 43) hx hb dX8_lose_43 rfl (lv_at hl 1 rfl) ?_
          obtain ⟨j5, hj_, e_⟩ := vp_in_of h.1 (by decide)
          have h := h.2 j5 hj_ e_
          refine W.eq (g2 := F0 m 44 ls (.int (nI j5) :: .ref (ad 53) :: [])) (by rw [e_]) ?_
          clear e_
          rcases (show j5 = 0 ∨ j5 = 1 ∨ j5 = 2 ∨ j5 = 3 by omega) with rfl | rfl | rfl | rfl
          · refine Caq_53 0 (by decide) (pc := 44) X w dX8_lose_44 ?_
            refine Cgf_54_2 (pc := 45) X w kw446 dX8_lose_45 ?_
            exact Ciret (pc := 48) X w h dX8_lose_48
          · refine Caq_53 1 (by decide) (pc := 44) X w dX8_lose_44 ?_
            refine Cgf_56_2 (pc := 45) X w kw446 dX8_lose_45 ?_
            exact Ciret (pc := 48) X w h dX8_lose_48
          · refine Caq_53 2 (by decide) (pc := 44) X w dX8_lose_44 ?_
            refine Cgf_58_2 (pc := 45) X w kw446 dX8_lose_45 ?_
            exact Ciret (pc := 48) X w h dX8_lose_48
          · refine Caq_53 3 (by decide) (pc := 44) X w dX8_lose_44 ?_
            refine Cgf_60_2 (pc := 45) X w kw446 dX8_lose_45 ?_
            exact Ciret (pc := 48) X w h dX8_lose_48
        · refine Caq_53 3 (by decide) (pc := 34) X w dX8_lose_34 ?_
          refine lv_iconst (pc := 35) (v := (1 : Int32)) hx hb dX8_lose_35 (by decide) ?_
          refine Cpf_60_3 (pc := 36) X w kw445 rfl rfl dX8_lose_36 (fun H locs w => ?_)
          obtain ⟨u4, e_⟩ : ∃ y : Mm, y = s32 u 1063 0 (1 : Int32) := ⟨_, rfl⟩
          rw [← e_] at w
          have h := h u4 e_
          refine lv_aload_n (pc := 39) hx hb dX8_lose_39 rfl (lv_at hl 0 rfl) ?_
          refine Cgf_0_6 (pc := 40) X w kw435 dX8_lose_40 ?_
          refine lv_iload_n (pc := 43) hx hb dX8_lose_43 rfl (lv_at hl 1 rfl) ?_
          obtain ⟨j5, hj_, e_⟩ := vp_in_of h.1 (by decide)
          have h := h.2 j5 hj_ e_
          refine W.eq (g2 := F0 m 44 ls (.int (nI j5) :: .ref (ad 53) :: [])) (by rw [e_]) ?_
          clear e_
          rcases (show j5 = 0 ∨ j5 = 1 ∨ j5 = 2 ∨ j5 = 3 by omega) with rfl | rfl | rfl | rfl
          · refine Caq_53 0 (by decide) (pc := 44) X w dX8_lose_44 ?_
            refine Cgf_54_2 (pc := 45) X w kw446 dX8_lose_45 ?_
            exact Ciret (pc := 48) X w h dX8_lose_48
          · refine Caq_53 1 (by decide) (pc := 44) X w dX8_lose_44 ?_
            refine Cgf_56_2 (pc := 45) X w kw446 dX8_lose_45 ?_
            exact Ciret (pc := 48) X w h dX8_lose_48
          · refine Caq_53 2 (by decide) (pc := 44) X w dX8_lose_44 ?_
            refine Cgf_58_2 (pc := 45) X w kw446 dX8_lose_45 ?_
            exact Ciret (pc := 48) X w h dX8_lose_48
          · refine Caq_53 3 (by decide) (pc := 44) X w dX8_lose_44 ?_
            refine Cgf_60_2 (pc := 45) X w kw446 dX8_lose_45 ?_
            exact Ciret (pc := 48) X w h dX8_lose_48
      · have h := h.2 c_
        refine lv_aload_n (pc := 23) hx hb dX8_lose_23 rfl (lv_at hl 0 rfl) ?_
        refine lv_iconst (pc := 24) (v := (1 : Int32)) hx hb dX8_lose_24 (by decide) ?_
        refine Ccalli (rest := []) (CrunV (pc := 25) X w (okX8_found l hJ h) kw441 kmX8_found ⟨rfl, rfl⟩ ⟨by decide, by decide⟩ (Crv_0 X w) rfl hl.1 rfl (Nat.le_of_ble_eq_true rfl) dX8_lose_25) w (fun r504 u505 H locs h w => ?_)
        exact Ciret (pc := 28) X w h dX8_lose_28
    · refine Caq_53 1 (by decide) (pc := 16) X w dX8_lose_16 ?_
      refine Cgf_56_3 (pc := 17) X w kw445 dX8_lose_17 ?_
      refine lv_if_eq (pc := 20) (tgt := 29) hx hb dX8_lose_20 (by decide) (fun c_ => ?_) (fun c_ => ?_)
      · have h := h.1 c_
        refine lv_aload_n (pc := 29) hx hb dX8_lose_29 rfl (lv_at hl 0 rfl) ?_
        refine Cgf_0_6 (pc := 30) X w kw435 dX8_lose_30 ?_
        refine lv_iload_n (pc := 33) hx hb dX8_lose_33 rfl (lv_at hl 1 rfl) ?_
        obtain ⟨j3, hj_, e_⟩ := vp_in_of h.1 (by decide)
        have h := h.2 j3 hj_ e_
        refine W.eq (g2 := F0 m 34 ls (.int (nI j3) :: .ref (ad 53) :: [])) (by rw [e_]) ?_
        clear e_
        rcases (show j3 = 0 ∨ j3 = 1 ∨ j3 = 2 ∨ j3 = 3 by omega) with rfl | rfl | rfl | rfl
        · refine Caq_53 0 (by decide) (pc := 34) X w dX8_lose_34 ?_
          refine lv_iconst (pc := 35) (v := (1 : Int32)) hx hb dX8_lose_35 (by decide) ?_
          refine Cpf_54_3 (pc := 36) X w kw445 rfl rfl dX8_lose_36 (fun H locs w => ?_)
          obtain ⟨u4, e_⟩ : ∃ y : Mm, y = s32 u 967 0 (1 : Int32) := ⟨_, rfl⟩
          rw [← e_] at w
          have h := h u4 e_
          refine lv_aload_n (pc := 39) hx hb dX8_lose_39 rfl (lv_at hl 0 rfl) ?_
          refine Cgf_0_6 (pc := 40) X w kw435 dX8_lose_40 ?_
          refine lv_iload_n (pc := 43) hx hb dX8_lose_43 rfl (lv_at hl 1 rfl) ?_
          obtain ⟨j5, hj_, e_⟩ := vp_in_of h.1 (by decide)
          have h := h.2 j5 hj_ e_
          refine W.eq (g2 := F0 m 44 ls (.int (nI j5) :: .ref (ad 53) :: [])) (by rw [e_]) ?_
          clear e_
          rcases (show j5 = 0 ∨ j5 = 1 ∨ j5 = 2 ∨ j5 = 3 by omega) with rfl | rfl | rfl | rfl
          · refine Caq_53 0 (by decide) (pc := 44) X w dX8_lose_44 ?_
            refine Cgf_54_2 (pc := 45) X w kw446 dX8_lose_45 ?_
            exact Ciret (pc := 48) X w h dX8_lose_48
          · refine Caq_53 1 (by decide) (pc := 44) X w dX8_lose_44 ?_
            refine Cgf_56_2 (pc := 45) X w kw446 dX8_lose_45 ?_
            exact Ciret (pc := 48) X w h dX8_lose_48
          · refine Caq_53 2 (by decide) (pc := 44) X w dX8_lose_44 ?_
            refine Cgf_58_2 (pc := 45) X w kw446 dX8_lose_45 ?_
            exact Ciret (pc := 48) X w h dX8_lose_48
          · refine Caq_53 3 (by decide) (pc := 44) X w dX8_lose_44 ?_
            refine Cgf_60_2 (pc := 45) X w kw446 dX8_lose_45 ?_
            exact Ciret (pc := 48) X w h dX8_lose_48
        · refine Caq_53 1 (by decide) (pc := 34) X w dX8_lose_34 ?_
          refine lv_iconst (pc := 35) (v := (1 : Int32)) hx hb dX8_lose_35 (by decide) ?_
          refine Cpf_56_3 (pc := 36) X w kw445 rfl rfl dX8_lose_36 (fun H locs w => ?_)
          obtain ⟨u4, e_⟩ : ∃ y : Mm, y = s32 u 999 0 (1 : Int32) := ⟨_, rfl⟩
          rw [← e_] at w
          have h := h u4 e_
          refine lv_aload_n (pc := 39) hx hb dX8_lose_39 rfl (lv_at hl 0 rfl) ?_
          refine Cgf_0_6 (pc := 40) X w kw435 dX8_lose_40 ?_
          refine lv_iload_n (pc := 43) hx hb dX8_lose_43 rfl (lv_at hl 1 rfl) ?_
          obtain ⟨j5, hj_, e_⟩ := vp_in_of h.1 (by decide)
          have h := h.2 j5 hj_ e_
          refine W.eq (g2 := F0 m 44 ls (.int (nI j5) :: .ref (ad 53) :: [])) (by rw [e_]) ?_
          clear e_
          rcases (show j5 = 0 ∨ j5 = 1 ∨ j5 = 2 ∨ j5 = 3 by omega) with rfl | rfl | rfl | rfl
          · refine Caq_53 0 (by decide) (pc := 44) X w dX8_lose_44 ?_
            refine Cgf_54_2 (pc := 45) X w kw446 dX8_lose_45 ?_
            exact Ciret (pc := 48) X w h dX8_lose_48
          · refine Caq_53 1 (by decide) (pc := 44) X w dX8_lose_44 ?_
            refine Cgf_56_2 (pc := 45) X w kw446 dX8_lose_45 ?_
            exact Ciret (pc := 48) X w h dX8_lose_48
          · refine Caq_53 2 (by decide) (pc := 44) X w dX8_lose_44 ?_
            refine Cgf_58_2 (pc := 45) X w kw446 dX8_lose_45 ?_
            exact Ciret (pc := 48) X w h dX8_lose_48
          · refine Caq_53 3 (by decide) (pc := 44) X w dX8_lose_44 ?_
            refine Cgf_60_2 (pc := 45) X w kw446 dX8_lose_45 ?_
            exact Ciret (pc := 48) X w h dX8_lose_48
        · refine Caq_53 2 (by decide) (pc := 34) X w dX8_lose_34 ?_
          refine lv_iconst (pc := 35) (v := (1 : Int32)) hx hb dX8_lose_35 (by decide) ?_
          refine Cpf_58_3 (pc := 36) X w kw445 rfl rfl dX8_lose_36 (fun H locs w => ?_)
          obtain ⟨u4, e_⟩ : ∃ y : Mm, y = s32 u 1031 0 (1 : Int32) := ⟨_, rfl⟩
          rw [← e_] at w
          have h := h u4 e_
          refine lv_aload_n (pc := 39) hx hb dX8_lose_39 rfl (lv_at hl 0 rfl) ?_
          refine Cgf_0_6 (pc := 40) X w kw435 dX8_lose_40 ?_
          refine lv_iload_n (pc := 43) hx hb dX8_lose_43 rfl (lv_at hl 1 rfl) ?_
          obtain ⟨j5, hj_, e_⟩ := vp_in_of h.1 (by decide)
          have h := h.2 j5 hj_ e_
          refine W.eq (g2 := F0 m 44 ls (.int (nI j5) :: .ref (ad 53) :: [])) (by rw [e_]) ?_
          clear e_
          rcases (show j5 = 0 ∨ j5 = 1 ∨ j5 = 2 ∨ j5 = 3 by omega) with rfl | rfl | rfl | rfl
          · refine Caq_53 0 (by decide) (pc := 44) X w dX8_lose_44 ?_
            refine Cgf_54_2 (pc := 45) X w kw446 dX8_lose_45 ?_
            exact Ciret (pc := 48) X w h dX8_lose_48
          · refine Caq_53 1 (by decide) (pc := 44) X w dX8_lose_44 ?_
            refine Cgf_56_2 (pc := 45) X w kw446 dX8_lose_45 ?_
            exact Ciret (pc := 48) X w h dX8_lose_48
          · refine Caq_53 2 (by decide) (pc := 44) X w dX8_lose_44 ?_
            refine Cgf_58_2 (pc := 45) X w kw446 dX8_lose_45 ?_
            exact Ciret (pc := 48) X w h dX8_lose_48
          · refine Caq_53 3 (by decide) (pc := 44) X w dX8_lose_44 ?_
            refine Cgf_60_2 (pc := 45) X w kw446 dX8_lose_45 ?_
            exact Ciret (pc := 48) X w h dX8_lose_48
        · refine Caq_53 3 (by decide) (pc := 34) X w dX8_lose_34 ?_
          refine lv_iconst (pc := 35) (v := (1 : Int32)) hx hb dX8_lose_35 (by decide) ?_
          refine Cpf_60_3 (pc := 36) X w kw445 rfl rfl dX8_lose_36 (fun H locs w => ?_)
          obtain ⟨u4, e_⟩ : ∃ y : Mm, y = s32 u 1063 0 (1 : Int32) := ⟨_, rfl⟩
          rw [← e_] at w
          have h := h u4 e_
          refine lv_aload_n (pc := 39) hx hb dX8_lose_39 rfl (lv_at hl 0 rfl) ?_
          refine Cgf_0_6 (pc := 40) X w kw435 dX8_lose_40 ?_
          refine lv_iload_n (pc := 43) hx hb dX8_lose_43 rfl (lv_at hl 1 rfl) ?_
          obtain ⟨j5, hj_, e_⟩ := vp_in_of h.1 (by decide)
          have h := h.2 j5 hj_ e_
          refine W.eq (g2 := F0 m 44 ls (.int (nI j5) :: .ref (ad 53) :: [])) (by rw [e_]) ?_
          clear e_
          rcases (show j5 = 0 ∨ j5 = 1 ∨ j5 = 2 ∨ j5 = 3 by omega) with rfl | rfl | rfl | rfl
          · refine Caq_53 0 (by decide) (pc := 44) X w dX8_lose_44 ?_
            refine Cgf_54_2 (pc := 45) X w kw446 dX8_lose_45 ?_
            exact Ciret (pc := 48) X w h dX8_lose_48
          · refine Caq_53 1 (by decide) (pc := 44) X w dX8_lose_44 ?_
            refine Cgf_56_2 (pc := 45) X w kw446 dX8_lose_45 ?_
            exact Ciret (pc := 48) X w h dX8_lose_48
          · refine Caq_53 2 (by decide) (pc := 44) X w dX8_lose_44 ?_
            refine Cgf_58_2 (pc := 45) X w kw446 dX8_lose_45 ?_
            exact Ciret (pc := 48) X w h dX8_lose_48
          · refine Caq_53 3 (by decide) (pc := 44) X w dX8_lose_44 ?_
            refine Cgf_60_2 (pc := 45) X w kw446 dX8_lose_45 ?_
            exact Ciret (pc := 48) X w h dX8_lose_48
      · have h := h.2 c_
        refine lv_aload_n (pc := 23) hx hb dX8_lose_23 rfl (lv_at hl 0 rfl) ?_
        refine lv_iconst (pc := 24) (v := (1 : Int32)) hx hb dX8_lose_24 (by decide) ?_
        refine Ccalli (rest := []) (CrunV (pc := 25) X w (okX8_found l hJ h) kw441 kmX8_found ⟨rfl, rfl⟩ ⟨by decide, by decide⟩ (Crv_0 X w) rfl hl.1 rfl (Nat.le_of_ble_eq_true rfl) dX8_lose_25) w (fun r504 u505 H locs h w => ?_)
        exact Ciret (pc := 28) X w h dX8_lose_28
    · refine Caq_53 2 (by decide) (pc := 16) X w dX8_lose_16 ?_
      refine Cgf_58_3 (pc := 17) X w kw445 dX8_lose_17 ?_
      refine lv_if_eq (pc := 20) (tgt := 29) hx hb dX8_lose_20 (by decide) (fun c_ => ?_) (fun c_ => ?_)
      · have h := h.1 c_
        refine lv_aload_n (pc := 29) hx hb dX8_lose_29 rfl (lv_at hl 0 rfl) ?_
        refine Cgf_0_6 (pc := 30) X w kw435 dX8_lose_30 ?_
        refine lv_iload_n (pc := 33) hx hb dX8_lose_33 rfl (lv_at hl 1 rfl) ?_
        obtain ⟨j3, hj_, e_⟩ := vp_in_of h.1 (by decide)
        have h := h.2 j3 hj_ e_
        refine W.eq (g2 := F0 m 34 ls (.int (nI j3) :: .ref (ad 53) :: [])) (by rw [e_]) ?_
        clear e_
        rcases (show j3 = 0 ∨ j3 = 1 ∨ j3 = 2 ∨ j3 = 3 by omega) with rfl | rfl | rfl | rfl
        · refine Caq_53 0 (by decide) (pc := 34) X w dX8_lose_34 ?_
          refine lv_iconst (pc := 35) (v := (1 : Int32)) hx hb dX8_lose_35 (by decide) ?_
          refine Cpf_54_3 (pc := 36) X w kw445 rfl rfl dX8_lose_36 (fun H locs w => ?_)
          obtain ⟨u4, e_⟩ : ∃ y : Mm, y = s32 u 967 0 (1 : Int32) := ⟨_, rfl⟩
          rw [← e_] at w
          have h := h u4 e_
          refine lv_aload_n (pc := 39) hx hb dX8_lose_39 rfl (lv_at hl 0 rfl) ?_
          refine Cgf_0_6 (pc := 40) X w kw435 dX8_lose_40 ?_
          refine lv_iload_n (pc := 43) hx hb dX8_lose_43 rfl (lv_at hl 1 rfl) ?_
          obtain ⟨j5, hj_, e_⟩ := vp_in_of h.1 (by decide)
          have h := h.2 j5 hj_ e_
          refine W.eq (g2 := F0 m 44 ls (.int (nI j5) :: .ref (ad 53) :: [])) (by rw [e_]) ?_
          clear e_
          rcases (show j5 = 0 ∨ j5 = 1 ∨ j5 = 2 ∨ j5 = 3 by omega) with rfl | rfl | rfl | rfl
          · refine Caq_53 0 (by decide) (pc := 44) X w dX8_lose_44 ?_
            refine Cgf_54_2 (pc := 45) X w kw446 dX8_lose_45 ?_
            exact Ciret (pc := 48) X w h dX8_lose_48
          · refine Caq_53 1 (by decide) (pc := 44) X w dX8_lose_44 ?_
            refine Cgf_56_2 (pc := 45) X w kw446 dX8_lose_45 ?_
            exact Ciret (pc := 48) X w h dX8_lose_48
          · refine Caq_53 2 (by decide) (pc := 44) X w dX8_lose_44 ?_
            refine Cgf_58_2 (pc := 45) X w kw446 dX8_lose_45 ?_
            exact Ciret (pc := 48) X w h dX8_lose_48
          · refine Caq_53 3 (by decide) (pc := 44) X w dX8_lose_44 ?_
            refine Cgf_60_2 (pc := 45) X w kw446 dX8_lose_45 ?_
            exact Ciret (pc := 48) X w h dX8_lose_48
        · refine Caq_53 1 (by decide) (pc := 34) X w dX8_lose_34 ?_
          refine lv_iconst (pc := 35) (v := (1 : Int32)) hx hb dX8_lose_35 (by decide) ?_
          refine Cpf_56_3 (pc := 36) X w kw445 rfl rfl dX8_lose_36 (fun H locs w => ?_)
          obtain ⟨u4, e_⟩ : ∃ y : Mm, y = s32 u 999 0 (1 : Int32) := ⟨_, rfl⟩
          rw [← e_] at w
          have h := h u4 e_
          refine lv_aload_n (pc := 39) hx hb dX8_lose_39 rfl (lv_at hl 0 rfl) ?_
          refine Cgf_0_6 (pc := 40) X w kw435 dX8_lose_40 ?_
          refine lv_iload_n (pc := 43) hx hb dX8_lose_43 rfl (lv_at hl 1 rfl) ?_
          obtain ⟨j5, hj_, e_⟩ := vp_in_of h.1 (by decide)
          have h := h.2 j5 hj_ e_
          refine W.eq (g2 := F0 m 44 ls (.int (nI j5) :: .ref (ad 53) :: [])) (by rw [e_]) ?_
          clear e_
          rcases (show j5 = 0 ∨ j5 = 1 ∨ j5 = 2 ∨ j5 = 3 by omega) with rfl | rfl | rfl | rfl
          · refine Caq_53 0 (by decide) (pc := 44) X w dX8_lose_44 ?_
            refine Cgf_54_2 (pc := 45) X w kw446 dX8_lose_45 ?_
            exact Ciret (pc := 48) X w h dX8_lose_48
          · refine Caq_53 1 (by decide) (pc := 44) X w dX8_lose_44 ?_
            refine Cgf_56_2 (pc := 45) X w kw446 dX8_lose_45 ?_
            exact Ciret (pc := 48) X w h dX8_lose_48
          · refine Caq_53 2 (by decide) (pc := 44) X w dX8_lose_44 ?_
            refine Cgf_58_2 (pc := 45) X w kw446 dX8_lose_45 ?_
            exact Ciret (pc := 48) X w h dX8_lose_48
          · refine Caq_53 3 (by decide) (pc := 44) X w dX8_lose_44 ?_
            refine Cgf_60_2 (pc := 45) X w kw446 dX8_lose_45 ?_
            exact Ciret (pc := 48) X w h dX8_lose_48
        · refine Caq_53 2 (by decide) (pc := 34) X w dX8_lose_34 ?_
          refine lv_iconst (pc := 35) (v := (1 : Int32)) hx hb dX8_lose_35 (by decide) ?_
          refine Cpf_58_3 (pc := 36) X w kw445 rfl rfl dX8_lose_36 (fun H locs w => ?_)
          obtain ⟨u4, e_⟩ : ∃ y : Mm, y = s32 u 1031 0 (1 : Int32) := ⟨_, rfl⟩
          rw [← e_] at w
          have h := h u4 e_
          refine lv_aload_n (pc := 39) hx hb dX8_lose_39 rfl (lv_at hl 0 rfl) ?_
          refine Cgf_0_6 (pc := 40) X w kw435 dX8_lose_40 ?_
          refine lv_iload_n (pc := 43) hx hb dX8_lose_43 rfl (lv_at hl 1 rfl) ?_
          obtain ⟨j5, hj_, e_⟩ := vp_in_of h.1 (by decide)
          have h := h.2 j5 hj_ e_
          refine W.eq (g2 := F0 m 44 ls (.int (nI j5) :: .ref (ad 53) :: [])) (by rw [e_]) ?_
          clear e_
          rcases (show j5 = 0 ∨ j5 = 1 ∨ j5 = 2 ∨ j5 = 3 by omega) with rfl | rfl | rfl | rfl
          · refine Caq_53 0 (by decide) (pc := 44) X w dX8_lose_44 ?_
            refine Cgf_54_2 (pc := 45) X w kw446 dX8_lose_45 ?_
            exact Ciret (pc := 48) X w h dX8_lose_48
          · refine Caq_53 1 (by decide) (pc := 44) X w dX8_lose_44 ?_
            refine Cgf_56_2 (pc := 45) X w kw446 dX8_lose_45 ?_
            exact Ciret (pc := 48) X w h dX8_lose_48
          · refine Caq_53 2 (by decide) (pc := 44) X w dX8_lose_44 ?_
            refine Cgf_58_2 (pc := 45) X w kw446 dX8_lose_45 ?_
            exact Ciret (pc := 48) X w h dX8_lose_48
          · refine Caq_53 3 (by decide) (pc := 44) X w dX8_lose_44 ?_
            refine Cgf_60_2 (pc := 45) X w kw446 dX8_lose_45 ?_
            exact Ciret (pc := 48) X w h dX8_lose_48
        · refine Caq_53 3 (by decide) (pc := 34) X w dX8_lose_34 ?_
          refine lv_iconst (pc := 35) (v := (1 : Int32)) hx hb dX8_lose_35 (by decide) ?_
          refine Cpf_60_3 (pc := 36) X w kw445 rfl rfl dX8_lose_36 (fun H locs w => ?_)
          obtain ⟨u4, e_⟩ : ∃ y : Mm, y = s32 u 1063 0 (1 : Int32) := ⟨_, rfl⟩
          rw [← e_] at w
          have h := h u4 e_
          refine lv_aload_n (pc := 39) hx hb dX8_lose_39 rfl (lv_at hl 0 rfl) ?_
          refine Cgf_0_6 (pc := 40) X w kw435 dX8_lose_40 ?_
          refine lv_iload_n (pc := 43) hx hb dX8_lose_43 rfl (lv_at hl 1 rfl) ?_
          obtain ⟨j5, hj_, e_⟩ := vp_in_of h.1 (by decide)
          have h := h.2 j5 hj_ e_
          refine W.eq (g2 := F0 m 44 ls (.int (nI j5) :: .ref (ad 53) :: [])) (by rw [e_]) ?_
          clear e_
          rcases (show j5 = 0 ∨ j5 = 1 ∨ j5 = 2 ∨ j5 = 3 by omega) with rfl | rfl | rfl | rfl
          · refine Caq_53 0 (by decide) (pc := 44) X w dX8_lose_44 ?_
            refine Cgf_54_2 (pc := 45) X w kw446 dX8_lose_45 ?_
            exact Ciret (pc := 48) X w h dX8_lose_48
          · refine Caq_53 1 (by decide) (pc := 44) X w dX8_lose_44 ?_
            refine Cgf_56_2 (pc := 45) X w kw446 dX8_lose_45 ?_
            exact Ciret (pc := 48) X w h dX8_lose_48
          · refine Caq_53 2 (by decide) (pc := 44) X w dX8_lose_44 ?_
            refine Cgf_58_2 (pc := 45) X w kw446 dX8_lose_45 ?_
            exact Ciret (pc := 48) X w h dX8_lose_48
          · refine Caq_53 3 (by decide) (pc := 44) X w dX8_lose_44 ?_
            refine Cgf_60_2 (pc := 45) X w kw446 dX8_lose_45 ?_
            exact Ciret (pc := 48) X w h dX8_lose_48
      · have h := h.2 c_
        refine lv_aload_n (pc := 23) hx hb dX8_lose_23 rfl (lv_at hl 0 rfl) ?_
        refine lv_iconst (pc := 24) (v := (1 : Int32)) hx hb dX8_lose_24 (by decide) ?_
        refine Ccalli (rest := []) (CrunV (pc := 25) X w (okX8_found l hJ h) kw441 kmX8_found ⟨rfl, rfl⟩ ⟨by decide, by decide⟩ (Crv_0 X w) rfl hl.1 rfl (Nat.le_of_ble_eq_true rfl) dX8_lose_25) w (fun r504 u505 H locs h w => ?_)
        exact Ciret (pc := 28) X w h dX8_lose_28
    · refine Caq_53 3 (by decide) (pc := 16) X w dX8_lose_16 ?_
      refine Cgf_60_3 (pc := 17) X w kw445 dX8_lose_17 ?_
      refine lv_if_eq (pc := 20) (tgt := 29) hx hb dX8_lose_20 (by decide) (fun c_ => ?_) (fun c_ => ?_)
      · have h := h.1 c_
        refine lv_aload_n (pc := 29) hx hb dX8_lose_29 rfl (lv_at hl 0 rfl) ?_
        refine Cgf_0_6 (pc := 30) X w kw435 dX8_lose_30 ?_
        refine lv_iload_n (pc := 33) hx hb dX8_lose_33 rfl (lv_at hl 1 rfl) ?_
        obtain ⟨j3, hj_, e_⟩ := vp_in_of h.1 (by decide)
        have h := h.2 j3 hj_ e_
        refine W.eq (g2 := F0 m 34 ls (.int (nI j3) :: .ref (ad 53) :: [])) (by rw [e_]) ?_
        clear e_
        rcases (show j3 = 0 ∨ j3 = 1 ∨ j3 = 2 ∨ j3 = 3 by omega) with rfl | rfl | rfl | rfl
        · refine Caq_53 0 (by decide) (pc := 34) X w dX8_lose_34 ?_
          refine lv_iconst (pc := 35) (v := (1 : Int32)) hx hb dX8_lose_35 (by decide) ?_
          refine Cpf_54_3 (pc := 36) X w kw445 rfl rfl dX8_lose_36 (fun H locs w => ?_)
          obtain ⟨u4, e_⟩ : ∃ y : Mm, y = s32 u 967 0 (1 : Int32) := ⟨_, rfl⟩
          rw [← e_] at w
          have h := h u4 e_
          refine lv_aload_n (pc := 39) hx hb dX8_lose_39 rfl (lv_at hl 0 rfl) ?_
          refine Cgf_0_6 (pc := 40) X w kw435 dX8_lose_40 ?_
          refine lv_iload_n (pc := 43) hx hb dX8_lose_43 rfl (lv_at hl 1 rfl) ?_
          obtain ⟨j5, hj_, e_⟩ := vp_in_of h.1 (by decide)
          have h := h.2 j5 hj_ e_
          refine W.eq (g2 := F0 m 44 ls (.int (nI j5) :: .ref (ad 53) :: [])) (by rw [e_]) ?_
          clear e_
          rcases (show j5 = 0 ∨ j5 = 1 ∨ j5 = 2 ∨ j5 = 3 by omega) with rfl | rfl | rfl | rfl
          · refine Caq_53 0 (by decide) (pc := 44) X w dX8_lose_44 ?_
            refine Cgf_54_2 (pc := 45) X w kw446 dX8_lose_45 ?_
            exact Ciret (pc := 48) X w h dX8_lose_48
          · refine Caq_53 1 (by decide) (pc := 44) X w dX8_lose_44 ?_
            refine Cgf_56_2 (pc := 45) X w kw446 dX8_lose_45 ?_
            exact Ciret (pc := 48) X w h dX8_lose_48
          · refine Caq_53 2 (by decide) (pc := 44) X w dX8_lose_44 ?_
            refine Cgf_58_2 (pc := 45) X w kw446 dX8_lose_45 ?_
            exact Ciret (pc := 48) X w h dX8_lose_48
          · refine Caq_53 3 (by decide) (pc := 44) X w dX8_lose_44 ?_
            refine Cgf_60_2 (pc := 45) X w kw446 dX8_lose_45 ?_
            exact Ciret (pc := 48) X w h dX8_lose_48
        · refine Caq_53 1 (by decide) (pc := 34) X w dX8_lose_34 ?_
          refine lv_iconst (pc := 35) (v := (1 : Int32)) hx hb dX8_lose_35 (by decide) ?_
          refine Cpf_56_3 (pc := 36) X w kw445 rfl rfl dX8_lose_36 (fun H locs w => ?_)
          obtain ⟨u4, e_⟩ : ∃ y : Mm, y = s32 u 999 0 (1 : Int32) := ⟨_, rfl⟩
          rw [← e_] at w
          have h := h u4 e_
          refine lv_aload_n (pc := 39) hx hb dX8_lose_39 rfl (lv_at hl 0 rfl) ?_
          refine Cgf_0_6 (pc := 40) X w kw435 dX8_lose_40 ?_
          refine lv_iload_n (pc := 43) hx hb dX8_lose_43 rfl (lv_at hl 1 rfl) ?_
          obtain ⟨j5, hj_, e_⟩ := vp_in_of h.1 (by decide)
          have h := h.2 j5 hj_ e_
          refine W.eq (g2 := F0 m 44 ls (.int (nI j5) :: .ref (ad 53) :: [])) (by rw [e_]) ?_
          clear e_
          rcases (show j5 = 0 ∨ j5 = 1 ∨ j5 = 2 ∨ j5 = 3 by omega) with rfl | rfl | rfl | rfl
          · refine Caq_53 0 (by decide) (pc := 44) X w dX8_lose_44 ?_
            refine Cgf_54_2 (pc := 45) X w kw446 dX8_lose_45 ?_
            exact Ciret (pc := 48) X w h dX8_lose_48
          · refine Caq_53 1 (by decide) (pc := 44) X w dX8_lose_44 ?_
            refine Cgf_56_2 (pc := 45) X w kw446 dX8_lose_45 ?_
            exact Ciret (pc := 48) X w h dX8_lose_48
          · refine Caq_53 2 (by decide) (pc := 44) X w dX8_lose_44 ?_
            refine Cgf_58_2 (pc := 45) X w kw446 dX8_lose_45 ?_
            exact Ciret (pc := 48) X w h dX8_lose_48
          · refine Caq_53 3 (by decide) (pc := 44) X w dX8_lose_44 ?_
            refine Cgf_60_2 (pc := 45) X w kw446 dX8_lose_45 ?_
            exact Ciret (pc := 48) X w h dX8_lose_48
        · refine Caq_53 2 (by decide) (pc := 34) X w dX8_lose_34 ?_
          refine lv_iconst (pc := 35) (v := (1 : Int32)) hx hb dX8_lose_35 (by decide) ?_
          refine Cpf_58_3 (pc := 36) X w kw445 rfl rfl dX8_lose_36 (fun H locs w => ?_)
          obtain ⟨u4, e_⟩ : ∃ y : Mm, y = s32 u 1031 0 (1 : Int32) := ⟨_, rfl⟩
          rw [← e_] at w
          have h := h u4 e_
          refine lv_aload_n (pc := 39) hx hb dX8_lose_39 rfl (lv_at hl 0 rfl) ?_
          refine Cgf_0_6 (pc := 40) X w kw435 dX8_lose_40 ?_
          refine lv_iload_n (pc := 43) hx hb dX8_lose_43 rfl (lv_at hl 1 rfl) ?_
          obtain ⟨j5, hj_, e_⟩ := vp_in_of h.1 (by decide)
          have h := h.2 j5 hj_ e_
          refine W.eq (g2 := F0 m 44 ls (.int (nI j5) :: .ref (ad 53) :: [])) (by rw [e_]) ?_
          clear e_
          rcases (show j5 = 0 ∨ j5 = 1 ∨ j5 = 2 ∨ j5 = 3 by omega) with rfl | rfl | rfl | rfl
          · refine Caq_53 0 (by decide) (pc := 44) X w dX8_lose_44 ?_
            refine Cgf_54_2 (pc := 45) X w kw446 dX8_lose_45 ?_
            exact Ciret (pc := 48) X w h dX8_lose_48
          · refine Caq_53 1 (by decide) (pc := 44) X w dX8_lose_44 ?_
            refine Cgf_56_2 (pc := 45) X w kw446 dX8_lose_45 ?_
            exact Ciret (pc := 48) X w h dX8_lose_48
          · refine Caq_53 2 (by decide) (pc := 44) X w dX8_lose_44 ?_
            refine Cgf_58_2 (pc := 45) X w kw446 dX8_lose_45 ?_
            exact Ciret (pc := 48) X w h dX8_lose_48
          · refine Caq_53 3 (by decide) (pc := 44) X w dX8_lose_44 ?_
            refine Cgf_60_2 (pc := 45) X w kw446 dX8_lose_45 ?_
            exact Ciret (pc := 48) X w h dX8_lose_48
        · refine Caq_53 3 (by decide) (pc := 34) X w dX8_lose_34 ?_
          refine lv_iconst (pc := 35) (v := (1 : Int32)) hx hb dX8_lose_35 (by decide) ?_
          refine Cpf_60_3 (pc := 36) X w kw445 rfl rfl dX8_lose_36 (fun H locs w => ?_)
          obtain ⟨u4, e_⟩ : ∃ y : Mm, y = s32 u 1063 0 (1 : Int32) := ⟨_, rfl⟩
          rw [← e_] at w
          have h := h u4 e_
          refine lv_aload_n (pc := 39) hx hb dX8_lose_39 rfl (lv_at hl 0 rfl) ?_
          refine Cgf_0_6 (pc := 40) X w kw435 dX8_lose_40 ?_
          refine lv_iload_n (pc := 43) hx hb dX8_lose_43 rfl (lv_at hl 1 rfl) ?_
          obtain ⟨j5, hj_, e_⟩ := vp_in_of h.1 (by decide)
          have h := h.2 j5 hj_ e_
          refine W.eq (g2 := F0 m 44 ls (.int (nI j5) :: .ref (ad 53) :: [])) (by rw [e_]) ?_
          clear e_
          rcases (show j5 = 0 ∨ j5 = 1 ∨ j5 = 2 ∨ j5 = 3 by omega) with rfl | rfl | rfl | rfl
          · refine Caq_53 0 (by decide) (pc := 44) X w dX8_lose_44 ?_
            refine Cgf_54_2 (pc := 45) X w kw446 dX8_lose_45 ?_
            exact Ciret (pc := 48) X w h dX8_lose_48
          · refine Caq_53 1 (by decide) (pc := 44) X w dX8_lose_44 ?_
            refine Cgf_56_2 (pc := 45) X w kw446 dX8_lose_45 ?_
            exact Ciret (pc := 48) X w h dX8_lose_48
          · refine Caq_53 2 (by decide) (pc := 44) X w dX8_lose_44 ?_
            refine Cgf_58_2 (pc := 45) X w kw446 dX8_lose_45 ?_
            exact Ciret (pc := 48) X w h dX8_lose_48
          · refine Caq_53 3 (by decide) (pc := 44) X w dX8_lose_44 ?_
            refine Cgf_60_2 (pc := 45) X w kw446 dX8_lose_45 ?_
            exact Ciret (pc := 48) X w h dX8_lose_48
      · have h := h.2 c_
        refine lv_aload_n (pc := 23) hx hb dX8_lose_23 rfl (lv_at hl 0 rfl) ?_
        refine lv_iconst (pc := 24) (v := (1 : Int32)) hx hb dX8_lose_24 (by decide) ?_
        refine Ccalli (rest := []) (CrunV (pc := 25) X w (okX8_found l hJ h) kw441 kmX8_found ⟨rfl, rfl⟩ ⟨by decide, by decide⟩ (Crv_0 X w) rfl hl.1 rfl (Nat.le_of_ble_eq_true rfl) dX8_lose_25) w (fun r504 u505 H locs h w => ?_)
        exact Ciret (pc := 28) X w h dX8_lose_28
  · have h := h.1 c_
    refine lv_bipush (pc := 8) (v := (-2 : Int32)) hx hb dX8_lose_8 (by decide) ?_
    exact Ciret (pc := 10) X w h dX8_lose_10
set_option maxHeartbeats 4000000 in
set_option maxRecDepth 100000 in
theorem okX8_refusalOfItem (l : Launch) {D : va_G} {g : Nat → ClassId} {ad : Nat → Nat} (hJ : CJ ad) {u : Mm} {a1 : Int32} {a2 : Int32} {a3 : Int32} {Q : Int32 → Mm → Prop} (h : wX8_refusalOfItem u a1 a2 a3 Q) : Met l yX8_refusalOfItem (Cond.code yX8_refusalOfItem cX8_refusalOfItem 4 (some .int) :: gt) ({ frames := 1, cells := 0, slots := 0, locals := 21 } : Room) (CPc D g ad u [.ref (ad 0), .int a1, .int a2, .int a3]) (va_Qi Q (CB D g ad) (CA ad)) 0 0 (CA ad) := by
  refine Met.ofW (cc := cX8_refusalOfItem) (maxL := 4) (ret := (some .int)) (by decide) rfl ?_
  intro p e s m args below meth c s₁ B hml hv
  refine Centry (own := RX8) B hml hv hJ rfl (Nat.le_of_ble_eq_true rfl) (fun ls H locs X w hl => ?_)
  obtain ⟨⟨hx, hb, hml, hown, hts⟩, hr, hlocks, hK, hJ, hAA⟩ := id X
  have hl : lv_has ls 4 [(0, .ref (ad 0)), (1, .int a1), (2, .int a2), (3, .int a3)] := hl
  unfold wX8_refusalOfItem at h
  refine lv_iload_n (pc := 0) hx hb dX8_refusalOfItem_0 rfl (lv_at hl 1 rfl) ?_
  refine lv_iconst (pc := 1) (v := (4 : Int32)) hx hb dX8_refusalOfItem_1 (by decide) ?_
  refine Ccalli (rest := []) (CrunS (pc := 2) X w (okX8_below l hJ h) kw23 kmX8_below ⟨rfl, rfl⟩ ⟨by decide, by decide⟩ rfl hl.1 rfl (Nat.le_of_ble_eq_true rfl) dX8_refusalOfItem_2) w (fun r1 u9_ H locs h w => ?_)
  obtain ⟨hz_r1, h⟩ := h
  obtain ⟨rfl, h⟩ := h
  refine lv_if_eq (pc := 5) (tgt := 16) hx hb dX8_refusalOfItem_5 (by decide) (fun c_ => ?_) (fun c_ => ?_)
  · have h := h.1 c_
    refine lv_bipush (pc := 16) (v := (-2 : Int32)) hx hb dX8_refusalOfItem_16 (by decide) ?_
    exact Ciret (pc := 18) X w h dX8_refusalOfItem_18
  · have h := h.2 c_
    refine lv_iload_n (pc := 8) hx hb dX8_refusalOfItem_8 rfl (lv_at hl 2 rfl) ?_
    refine lv_iconst (pc := 9) (v := (3 : Int32)) hx hb dX8_refusalOfItem_9 (by decide) ?_
    refine Ccalli (rest := []) (CrunS (pc := 10) X w (okX8_below l hJ h) kw23 kmX8_below ⟨rfl, rfl⟩ ⟨by decide, by decide⟩ rfl hl.1 rfl (Nat.le_of_ble_eq_true rfl) dX8_refusalOfItem_10) w (fun r2 u9_ H locs h w => ?_)
    obtain ⟨hz_r2, h⟩ := h
    obtain ⟨rfl, h⟩ := h
    refine lv_if_ne (pc := 13) (tgt := 19) hx hb dX8_refusalOfItem_13 (by decide) (fun c_ => ?_) (fun c_ => ?_)
    · have h := h.2 c_
      refine lv_aload_n (pc := 19) hx hb dX8_refusalOfItem_19 rfl (lv_at hl 0 rfl) ?_
      refine Cgf_0_6 (pc := 20) X w kw435 dX8_refusalOfItem_20 ?_
      refine lv_iload_n (pc := 23) hx hb dX8_refusalOfItem_23 rfl (lv_at hl 1 rfl) ?_
      obtain ⟨j3, hj_, e_⟩ := vp_in_of h.1 (by decide)
      have h := h.2 j3 hj_ e_
      refine W.eq (g2 := F0 m 24 ls (.int (nI j3) :: .ref (ad 53) :: [])) (by rw [e_]) ?_
      clear e_
      rcases (show j3 = 0 ∨ j3 = 1 ∨ j3 = 2 ∨ j3 = 3 by omega) with rfl | rfl | rfl | rfl
      · refine Caq_53 0 (by decide) (pc := 24) X w dX8_refusalOfItem_24 ?_
        refine Cgf_54_3 (pc := 25) X w kw445 dX8_refusalOfItem_25 ?_
        refine lv_if_eq (pc := 28) (tgt := 37) hx hb dX8_refusalOfItem_28 (by decide) (fun c_ => ?_) (fun c_ => ?_)
        · have h := h.1 c_
          refine lv_aload_n (pc := 37) hx hb dX8_refusalOfItem_37 rfl (lv_at hl 0 rfl) ?_
          refine Cgf_0_6 (pc := 38) X w kw435 dX8_refusalOfItem_38 ?_
          refine lv_iload_n (pc := 41) hx hb dX8_refusalOfItem_41 rfl (lv_at hl 1 rfl) ?_
          obtain ⟨j4, hj_, e_⟩ := vp_in_of h.1 (by decide)
          have h := h.2 j4 hj_ e_
          refine W.eq (g2 := F0 m 42 ls (.int (nI j4) :: .ref (ad 53) :: [])) (by rw [e_]) ?_
          clear e_
          rcases (show j4 = 0 ∨ j4 = 1 ∨ j4 = 2 ∨ j4 = 3 by omega) with rfl | rfl | rfl | rfl
          · refine Caq_53 0 (by decide) (pc := 42) X w dX8_refusalOfItem_42 ?_
            refine Cgf_54_1 (pc := 43) X w kw447 dX8_refusalOfItem_43 ?_
            refine lv_iload_n (pc := 46) hx hb dX8_refusalOfItem_46 rfl (lv_at hl 2 rfl) ?_
            refine lv_icmp_eq (pc := 47) (tgt := 56) hx hb dX8_refusalOfItem_47 (by decide) (fun c_ => ?_) (fun c_ => ?_)
            · have h := h.1 c_
              refine lv_iload_n (pc := 56) hx hb dX8_refusalOfItem_56 rfl (lv_at hl 3 rfl) ?_
              refine lv_aload_n (pc := 57) hx hb dX8_refusalOfItem_57 rfl (lv_at hl 0 rfl) ?_
              refine Cgf_0_6 (pc := 58) X w kw435 dX8_refusalOfItem_58 ?_
              refine lv_iload_n (pc := 61) hx hb dX8_refusalOfItem_61 rfl (lv_at hl 1 rfl) ?_
              obtain ⟨j5, hj_, e_⟩ := vp_in_of h.1 (by decide)
              have h := h.2 j5 hj_ e_
              refine W.eq (g2 := F0 m 62 ls (.int (nI j5) :: .ref (ad 53) :: .int a3 :: [])) (by rw [e_]) ?_
              clear e_
              rcases (show j5 = 0 ∨ j5 = 1 ∨ j5 = 2 ∨ j5 = 3 by omega) with rfl | rfl | rfl | rfl
              · refine Caq_53 0 (by decide) (pc := 62) X w dX8_refusalOfItem_62 ?_
                refine Cgf_54_2 (pc := 63) X w kw446 dX8_refusalOfItem_63 ?_
                refine Ccalli (rest := []) (CrunS (pc := 66) X w (okX8_below l hJ h) kw23 kmX8_below ⟨rfl, rfl⟩ ⟨by decide, by decide⟩ rfl hl.1 rfl (Nat.le_of_ble_eq_true rfl) dX8_refusalOfItem_66) w (fun r6 u9_ H locs h w => ?_)
                obtain ⟨hz_r6, h⟩ := h
                obtain ⟨rfl, h⟩ := h
                refine lv_if_eq (pc := 69) (tgt := 76) hx hb dX8_refusalOfItem_69 (by decide) (fun c_ => ?_) (fun c_ => ?_)
                · have h := h.1 c_
                  refine lv_aload_n (pc := 76) hx hb dX8_refusalOfItem_76 rfl (lv_at hl 0 rfl) ?_
                  refine lv_iconst (pc := 77) (v := (2 : Int32)) hx hb dX8_refusalOfItem_77 (by decide) ?_
                  refine Ccalli (rest := []) (CrunV (pc := 78) X w (okX8_found l hJ h) kw441 kmX8_found ⟨rfl, rfl⟩ ⟨by decide, by decide⟩ (Crv_0 X w) rfl hl.1 rfl (Nat.le_of_ble_eq_true rfl) dX8_refusalOfItem_78) w (fun r7 u8 H locs h w => ?_)
                  exact Ciret (pc := 81) X w h dX8_refusalOfItem_81
                · have h := h.2 c_
                  refine lv_iconst (pc := 72) (v := (0 : Int32)) hx hb dX8_refusalOfItem_72 (by decide) ?_
                  refine lv_goto (pc := 73) (tgt := 81) hx hb dX8_refusalOfItem_73 (by decide) ?_
                  exact Ciret (pc := 81) X w h dX8_refusalOfItem_81
              · refine Caq_53 1 (by decide) (pc := 62) X w dX8_refusalOfItem_62 ?_
                refine Cgf_56_2 (pc := 63) X w kw446 dX8_refusalOfItem_63 ?_
                refine Ccalli (rest := []) (CrunS (pc := 66) X w (okX8_below l hJ h) kw23 kmX8_below ⟨rfl, rfl⟩ ⟨by decide, by decide⟩ rfl hl.1 rfl (Nat.le_of_ble_eq_true rfl) dX8_refusalOfItem_66) w (fun r6 u9_ H locs h w => ?_)
                obtain ⟨hz_r6, h⟩ := h
                obtain ⟨rfl, h⟩ := h
                refine lv_if_eq (pc := 69) (tgt := 76) hx hb dX8_refusalOfItem_69 (by decide) (fun c_ => ?_) (fun c_ => ?_)
                · have h := h.1 c_
                  refine lv_aload_n (pc := 76) hx hb dX8_refusalOfItem_76 rfl (lv_at hl 0 rfl) ?_
                  refine lv_iconst (pc := 77) (v := (2 : Int32)) hx hb dX8_refusalOfItem_77 (by decide) ?_
                  refine Ccalli (rest := []) (CrunV (pc := 78) X w (okX8_found l hJ h) kw441 kmX8_found ⟨rfl, rfl⟩ ⟨by decide, by decide⟩ (Crv_0 X w) rfl hl.1 rfl (Nat.le_of_ble_eq_true rfl) dX8_refusalOfItem_78) w (fun r7 u8 H locs h w => ?_)
                  exact Ciret (pc := 81) X w h dX8_refusalOfItem_81
                · have h := h.2 c_
                  refine lv_iconst (pc := 72) (v := (0 : Int32)) hx hb dX8_refusalOfItem_72 (by decide) ?_
                  refine lv_goto (pc := 73) (tgt := 81) hx hb dX8_refusalOfItem_73 (by decide) ?_
                  exact Ciret (pc := 81) X w h dX8_refusalOfItem_81
              · refine Caq_53 2 (by decide) (pc := 62) X w dX8_refusalOfItem_62 ?_
                refine Cgf_58_2 (pc := 63) X w kw446 dX8_refusalOfItem_63 ?_
                refine Ccalli (rest := []) (CrunS (pc := 66) X w (okX8_below l hJ h) kw23 kmX8_below ⟨rfl, rfl⟩ ⟨by decide, by decide⟩ rfl hl.1 rfl (Nat.le_of_ble_eq_true rfl) dX8_refusalOfItem_66) w (fun r6 u9_ H locs h w => ?_)
                obtain ⟨hz_r6, h⟩ := h
                obtain ⟨rfl, h⟩ := h
                refine lv_if_eq (pc := 69) (tgt := 76) hx hb dX8_refusalOfItem_69 (by decide) (fun c_ => ?_) (fun c_ => ?_)
                · have h := h.1 c_
                  refine lv_aload_n (pc := 76) hx hb dX8_refusalOfItem_76 rfl (lv_at hl 0 rfl) ?_
                  refine lv_iconst (pc := 77) (v := (2 : Int32)) hx hb dX8_refusalOfItem_77 (by decide) ?_
                  refine Ccalli (rest := []) (CrunV (pc := 78) X w (okX8_found l hJ h) kw441 kmX8_found ⟨rfl, rfl⟩ ⟨by decide, by decide⟩ (Crv_0 X w) rfl hl.1 rfl (Nat.le_of_ble_eq_true rfl) dX8_refusalOfItem_78) w (fun r7 u8 H locs h w => ?_)
                  exact Ciret (pc := 81) X w h dX8_refusalOfItem_81
                · have h := h.2 c_
                  refine lv_iconst (pc := 72) (v := (0 : Int32)) hx hb dX8_refusalOfItem_72 (by decide) ?_
                  refine lv_goto (pc := 73) (tgt := 81) hx hb dX8_refusalOfItem_73 (by decide) ?_
                  exact Ciret (pc := 81) X w h dX8_refusalOfItem_81
              · refine Caq_53 3 (by decide) (pc := 62) X w dX8_refusalOfItem_62 ?_
                refine Cgf_60_2 (pc := 63) X w kw446 dX8_refusalOfItem_63 ?_
                refine Ccalli (rest := []) (CrunS (pc := 66) X w (okX8_below l hJ h) kw23 kmX8_below ⟨rfl, rfl⟩ ⟨by decide, by decide⟩ rfl hl.1 rfl (Nat.le_of_ble_eq_true rfl) dX8_refusalOfItem_66) w (fun r6 u9_ H locs h w => ?_)
                obtain ⟨hz_r6, h⟩ := h
                obtain ⟨rfl, h⟩ := h
                refine lv_if_eq (pc := 69) (tgt := 76) hx hb dX8_refusalOfItem_69 (by decide) (fun c_ => ?_) (fun c_ => ?_)
                · have h := h.1 c_
                  refine lv_aload_n (pc := 76) hx hb dX8_refusalOfItem_76 rfl (lv_at hl 0 rfl) ?_
                  refine lv_iconst (pc := 77) (v := (2 : Int32)) hx hb dX8_refusalOfItem_77 (by decide) ?_
                  refine Ccalli (rest := []) (CrunV (pc := 78) X w (okX8_found l hJ h) kw441 kmX8_found ⟨rfl, rfl⟩ ⟨by decide, by decide⟩ (Crv_0 X w) rfl hl.1 rfl (Nat.le_of_ble_eq_true rfl) dX8_refusalOfItem_78) w (fun r7 u8 H locs h w => ?_)
                  exact Ciret (pc := 81) X w h dX8_refusalOfItem_81
                · have h := h.2 c_
                  refine lv_iconst (pc := 72) (v := (0 : Int32)) hx hb dX8_refusalOfItem_72 (by decide) ?_
                  refine lv_goto (pc := 73) (tgt := 81) hx hb dX8_refusalOfItem_73 (by decide) ?_
                  exact Ciret (pc := 81) X w h dX8_refusalOfItem_81
            · have h := h.2 c_
              refine lv_aload_n (pc := 50) hx hb dX8_refusalOfItem_50 rfl (lv_at hl 0 rfl) ?_
              refine lv_iconst (pc := 51) (v := (3 : Int32)) hx hb dX8_refusalOfItem_51 (by decide) ?_
              refine Ccalli (rest := []) (CrunV (pc := 52) X w (okX8_found l hJ h) kw441 kmX8_found ⟨rfl, rfl⟩ ⟨by decide, by decide⟩ (Crv_0 X w) rfl hl.1 rfl (Nat.le_of_ble_eq_true rfl) dX8_refusalOfItem_52) w (fun r506 u507 H locs h w => ?_)
              exact Ciret (pc := 55) X w h dX8_refusalOfItem_55
          · refine Caq_53 1 (by decide) (pc := 42) X w dX8_refusalOfItem_42 ?_
            refine Cgf_56_1 (pc := 43) X w kw447 dX8_refusalOfItem_43 ?_
            refine lv_iload_n (pc := 46) hx hb dX8_refusalOfItem_46 rfl (lv_at hl 2 rfl) ?_
            refine lv_icmp_eq (pc := 47) (tgt := 56) hx hb dX8_refusalOfItem_47 (by decide) (fun c_ => ?_) (fun c_ => ?_)
            · have h := h.1 c_
              refine lv_iload_n (pc := 56) hx hb dX8_refusalOfItem_56 rfl (lv_at hl 3 rfl) ?_
              refine lv_aload_n (pc := 57) hx hb dX8_refusalOfItem_57 rfl (lv_at hl 0 rfl) ?_
              refine Cgf_0_6 (pc := 58) X w kw435 dX8_refusalOfItem_58 ?_
              refine lv_iload_n (pc := 61) hx hb dX8_refusalOfItem_61 rfl (lv_at hl 1 rfl) ?_
              obtain ⟨j5, hj_, e_⟩ := vp_in_of h.1 (by decide)
              have h := h.2 j5 hj_ e_
              refine W.eq (g2 := F0 m 62 ls (.int (nI j5) :: .ref (ad 53) :: .int a3 :: [])) (by rw [e_]) ?_
              clear e_
              rcases (show j5 = 0 ∨ j5 = 1 ∨ j5 = 2 ∨ j5 = 3 by omega) with rfl | rfl | rfl | rfl
              · refine Caq_53 0 (by decide) (pc := 62) X w dX8_refusalOfItem_62 ?_
                refine Cgf_54_2 (pc := 63) X w kw446 dX8_refusalOfItem_63 ?_
                refine Ccalli (rest := []) (CrunS (pc := 66) X w (okX8_below l hJ h) kw23 kmX8_below ⟨rfl, rfl⟩ ⟨by decide, by decide⟩ rfl hl.1 rfl (Nat.le_of_ble_eq_true rfl) dX8_refusalOfItem_66) w (fun r6 u9_ H locs h w => ?_)
                obtain ⟨hz_r6, h⟩ := h
                obtain ⟨rfl, h⟩ := h
                refine lv_if_eq (pc := 69) (tgt := 76) hx hb dX8_refusalOfItem_69 (by decide) (fun c_ => ?_) (fun c_ => ?_)
                · have h := h.1 c_
                  refine lv_aload_n (pc := 76) hx hb dX8_refusalOfItem_76 rfl (lv_at hl 0 rfl) ?_
                  refine lv_iconst (pc := 77) (v := (2 : Int32)) hx hb dX8_refusalOfItem_77 (by decide) ?_
                  refine Ccalli (rest := []) (CrunV (pc := 78) X w (okX8_found l hJ h) kw441 kmX8_found ⟨rfl, rfl⟩ ⟨by decide, by decide⟩ (Crv_0 X w) rfl hl.1 rfl (Nat.le_of_ble_eq_true rfl) dX8_refusalOfItem_78) w (fun r7 u8 H locs h w => ?_)
                  exact Ciret (pc := 81) X w h dX8_refusalOfItem_81
                · have h := h.2 c_
                  refine lv_iconst (pc := 72) (v := (0 : Int32)) hx hb dX8_refusalOfItem_72 (by decide) ?_
                  refine lv_goto (pc := 73) (tgt := 81) hx hb dX8_refusalOfItem_73 (by decide) ?_
                  exact Ciret (pc := 81) X w h dX8_refusalOfItem_81
              · refine Caq_53 1 (by decide) (pc := 62) X w dX8_refusalOfItem_62 ?_
                refine Cgf_56_2 (pc := 63) X w kw446 dX8_refusalOfItem_63 ?_
                refine Ccalli (rest := []) (CrunS (pc := 66) X w (okX8_below l hJ h) kw23 kmX8_below ⟨rfl, rfl⟩ ⟨by decide, by decide⟩ rfl hl.1 rfl (Nat.le_of_ble_eq_true rfl) dX8_refusalOfItem_66) w (fun r6 u9_ H locs h w => ?_)
                obtain ⟨hz_r6, h⟩ := h
                obtain ⟨rfl, h⟩ := h
                refine lv_if_eq (pc := 69) (tgt := 76) hx hb dX8_refusalOfItem_69 (by decide) (fun c_ => ?_) (fun c_ => ?_)
                · have h := h.1 c_
                  refine lv_aload_n (pc := 76) hx hb dX8_refusalOfItem_76 rfl (lv_at hl 0 rfl) ?_
                  refine lv_iconst (pc := 77) (v := (2 : Int32)) hx hb dX8_refusalOfItem_77 (by decide) ?_
                  refine Ccalli (rest := []) (CrunV (pc := 78) X w (okX8_found l hJ h) kw441 kmX8_found ⟨rfl, rfl⟩ ⟨by decide, by decide⟩ (Crv_0 X w) rfl hl.1 rfl (Nat.le_of_ble_eq_true rfl) dX8_refusalOfItem_78) w (fun r7 u8 H locs h w => ?_)
                  exact Ciret (pc := 81) X w h dX8_refusalOfItem_81
                · have h := h.2 c_
                  refine lv_iconst (pc := 72) (v := (0 : Int32)) hx hb dX8_refusalOfItem_72 (by decide) ?_
                  refine lv_goto (pc := 73) (tgt := 81) hx hb dX8_refusalOfItem_73 (by decide) ?_
                  exact Ciret (pc := 81) X w h dX8_refusalOfItem_81
              · refine Caq_53 2 (by decide) (pc := 62) X w dX8_refusalOfItem_62 ?_
                refine Cgf_58_2 (pc := 63) X w kw446 dX8_refusalOfItem_63 ?_
                refine Ccalli (rest := []) (CrunS (pc := 66) X w (okX8_below l hJ h) kw23 kmX8_below ⟨rfl, rfl⟩ ⟨by decide, by decide⟩ rfl hl.1 rfl (Nat.le_of_ble_eq_true rfl) dX8_refusalOfItem_66) w (fun r6 u9_ H locs h w => ?_)
                obtain ⟨hz_r6, h⟩ := h
                obtain ⟨rfl, h⟩ := h
                refine lv_if_eq (pc := 69) (tgt := 76) hx hb dX8_refusalOfItem_69 (by decide) (fun c_ => ?_) (fun c_ => ?_)
                · have h := h.1 c_
                  refine lv_aload_n (pc := 76) hx hb dX8_refusalOfItem_76 rfl (lv_at hl 0 rfl) ?_
                  refine lv_iconst (pc := 77) (v := (2 : Int32)) hx hb dX8_refusalOfItem_77 (by decide) ?_
                  refine Ccalli (rest := []) (CrunV (pc := 78) X w (okX8_found l hJ h) kw441 kmX8_found ⟨rfl, rfl⟩ ⟨by decide, by decide⟩ (Crv_0 X w) rfl hl.1 rfl (Nat.le_of_ble_eq_true rfl) dX8_refusalOfItem_78) w (fun r7 u8 H locs h w => ?_)
                  exact Ciret (pc := 81) X w h dX8_refusalOfItem_81
                · have h := h.2 c_
                  refine lv_iconst (pc := 72) (v := (0 : Int32)) hx hb dX8_refusalOfItem_72 (by decide) ?_
                  refine lv_goto (pc := 73) (tgt := 81) hx hb dX8_refusalOfItem_73 (by decide) ?_
                  exact Ciret (pc := 81) X w h dX8_refusalOfItem_81
              · refine Caq_53 3 (by decide) (pc := 62) X w dX8_refusalOfItem_62 ?_
                refine Cgf_60_2 (pc := 63) X w kw446 dX8_refusalOfItem_63 ?_
                refine Ccalli (rest := []) (CrunS (pc := 66) X w (okX8_below l hJ h) kw23 kmX8_below ⟨rfl, rfl⟩ ⟨by decide, by decide⟩ rfl hl.1 rfl (Nat.le_of_ble_eq_true rfl) dX8_refusalOfItem_66) w (fun r6 u9_ H locs h w => ?_)
                obtain ⟨hz_r6, h⟩ := h
                obtain ⟨rfl, h⟩ := h
                refine lv_if_eq (pc := 69) (tgt := 76) hx hb dX8_refusalOfItem_69 (by decide) (fun c_ => ?_) (fun c_ => ?_)
                · have h := h.1 c_
                  refine lv_aload_n (pc := 76) hx hb dX8_refusalOfItem_76 rfl (lv_at hl 0 rfl) ?_
                  refine lv_iconst (pc := 77) (v := (2 : Int32)) hx hb dX8_refusalOfItem_77 (by decide) ?_
                  refine Ccalli (rest := []) (CrunV (pc := 78) X w (okX8_found l hJ h) kw441 kmX8_found ⟨rfl, rfl⟩ ⟨by decide, by decide⟩ (Crv_0 X w) rfl hl.1 rfl (Nat.le_of_ble_eq_true rfl) dX8_refusalOfItem_78) w (fun r7 u8 H locs h w => ?_)
                  exact Ciret (pc := 81) X w h dX8_refusalOfItem_81
                · have h := h.2 c_
                  refine lv_iconst (pc := 72) (v := (0 : Int32)) hx hb dX8_refusalOfItem_72 (by decide) ?_
                  refine lv_goto (pc := 73) (tgt := 81) hx hb dX8_refusalOfItem_73 (by decide) ?_
                  exact Ciret (pc := 81) X w h dX8_refusalOfItem_81
            · have h := h.2 c_
              refine lv_aload_n (pc := 50) hx hb dX8_refusalOfItem_50 rfl (lv_at hl 0 rfl) ?_
              refine lv_iconst (pc := 51) (v := (3 : Int32)) hx hb dX8_refusalOfItem_51 (by decide) ?_
              refine Ccalli (rest := []) (CrunV (pc := 52) X w (okX8_found l hJ h) kw441 kmX8_found ⟨rfl, rfl⟩ ⟨by decide, by decide⟩ (Crv_0 X w) rfl hl.1 rfl (Nat.le_of_ble_eq_true rfl) dX8_refusalOfItem_52) w (fun r506 u507 H locs h w => ?_)
              exact Ciret (pc := 55) X w h dX8_refusalOfItem_55
          · refine Caq_53 2 (by decide) (pc := 42) X w dX8_refusalOfItem_42 ?_
            refine Cgf_58_1 (pc := 43) X w kw447 dX8_refusalOfItem_43 ?_
            refine lv_iload_n (pc := 46) hx hb dX8_refusalOfItem_46 rfl (lv_at hl 2 rfl) ?_
            refine lv_icmp_eq (pc := 47) (tgt := 56) hx hb dX8_refusalOfItem_47 (by decide) (fun c_ => ?_) (fun c_ => ?_)
            · have h := h.1 c_
              refine lv_iload_n (pc := 56) hx hb dX8_refusalOfItem_56 rfl (lv_at hl 3 rfl) ?_
              refine lv_aload_n (pc := 57) hx hb dX8_refusalOfItem_57 rfl (lv_at hl 0 rfl) ?_
              refine Cgf_0_6 (pc := 58) X w kw435 dX8_refusalOfItem_58 ?_
              refine lv_iload_n (pc := 61) hx hb dX8_refusalOfItem_61 rfl (lv_at hl 1 rfl) ?_
              obtain ⟨j5, hj_, e_⟩ := vp_in_of h.1 (by decide)
              have h := h.2 j5 hj_ e_
              refine W.eq (g2 := F0 m 62 ls (.int (nI j5) :: .ref (ad 53) :: .int a3 :: [])) (by rw [e_]) ?_
              clear e_
              rcases (show j5 = 0 ∨ j5 = 1 ∨ j5 = 2 ∨ j5 = 3 by omega) with rfl | rfl | rfl | rfl
              · refine Caq_53 0 (by decide) (pc := 62) X w dX8_refusalOfItem_62 ?_
                refine Cgf_54_2 (pc := 63) X w kw446 dX8_refusalOfItem_63 ?_
                refine Ccalli (rest := []) (CrunS (pc := 66) X w (okX8_below l hJ h) kw23 kmX8_below ⟨rfl, rfl⟩ ⟨by decide, by decide⟩ rfl hl.1 rfl (Nat.le_of_ble_eq_true rfl) dX8_refusalOfItem_66) w (fun r6 u9_ H locs h w => ?_)
                obtain ⟨hz_r6, h⟩ := h
                obtain ⟨rfl, h⟩ := h
                refine lv_if_eq (pc := 69) (tgt := 76) hx hb dX8_refusalOfItem_69 (by decide) (fun c_ => ?_) (fun c_ => ?_)
                · have h := h.1 c_
                  refine lv_aload_n (pc := 76) hx hb dX8_refusalOfItem_76 rfl (lv_at hl 0 rfl) ?_
                  refine lv_iconst (pc := 77) (v := (2 : Int32)) hx hb dX8_refusalOfItem_77 (by decide) ?_
                  refine Ccalli (rest := []) (CrunV (pc := 78) X w (okX8_found l hJ h) kw441 kmX8_found ⟨rfl, rfl⟩ ⟨by decide, by decide⟩ (Crv_0 X w) rfl hl.1 rfl (Nat.le_of_ble_eq_true rfl) dX8_refusalOfItem_78) w (fun r7 u8 H locs h w => ?_)
                  exact Ciret (pc := 81) X w h dX8_refusalOfItem_81
                · have h := h.2 c_
                  refine lv_iconst (pc := 72) (v := (0 : Int32)) hx hb dX8_refusalOfItem_72 (by decide) ?_
                  refine lv_goto (pc := 73) (tgt := 81) hx hb dX8_refusalOfItem_73 (by decide) ?_
                  exact Ciret (pc := 81) X w h dX8_refusalOfItem_81
              · refine Caq_53 1 (by decide) (pc := 62) X w dX8_refusalOfItem_62 ?_
                refine Cgf_56_2 (pc := 63) X w kw446 dX8_refusalOfItem_63 ?_
                refine Ccalli (rest := []) (CrunS (pc := 66) X w (okX8_below l hJ h) kw23 kmX8_below ⟨rfl, rfl⟩ ⟨by decide, by decide⟩ rfl hl.1 rfl (Nat.le_of_ble_eq_true rfl) dX8_refusalOfItem_66) w (fun r6 u9_ H locs h w => ?_)
                obtain ⟨hz_r6, h⟩ := h
                obtain ⟨rfl, h⟩ := h
                refine lv_if_eq (pc := 69) (tgt := 76) hx hb dX8_refusalOfItem_69 (by decide) (fun c_ => ?_) (fun c_ => ?_)
                · have h := h.1 c_
                  refine lv_aload_n (pc := 76) hx hb dX8_refusalOfItem_76 rfl (lv_at hl 0 rfl) ?_
                  refine lv_iconst (pc := 77) (v := (2 : Int32)) hx hb dX8_refusalOfItem_77 (by decide) ?_
                  refine Ccalli (rest := []) (CrunV (pc := 78) X w (okX8_found l hJ h) kw441 kmX8_found ⟨rfl, rfl⟩ ⟨by decide, by decide⟩ (Crv_0 X w) rfl hl.1 rfl (Nat.le_of_ble_eq_true rfl) dX8_refusalOfItem_78) w (fun r7 u8 H locs h w => ?_)
                  exact Ciret (pc := 81) X w h dX8_refusalOfItem_81
                · have h := h.2 c_
                  refine lv_iconst (pc := 72) (v := (0 : Int32)) hx hb dX8_refusalOfItem_72 (by decide) ?_
                  refine lv_goto (pc := 73) (tgt := 81) hx hb dX8_refusalOfItem_73 (by decide) ?_
                  exact Ciret (pc := 81) X w h dX8_refusalOfItem_81
              · refine Caq_53 2 (by decide) (pc := 62) X w dX8_refusalOfItem_62 ?_
                refine Cgf_58_2 (pc := 63) X w kw446 dX8_refusalOfItem_63 ?_
                refine Ccalli (rest := []) (CrunS (pc := 66) X w (okX8_below l hJ h) kw23 kmX8_below ⟨rfl, rfl⟩ ⟨by decide, by decide⟩ rfl hl.1 rfl (Nat.le_of_ble_eq_true rfl) dX8_refusalOfItem_66) w (fun r6 u9_ H locs h w => ?_)
                obtain ⟨hz_r6, h⟩ := h
                obtain ⟨rfl, h⟩ := h
                refine lv_if_eq (pc := 69) (tgt := 76) hx hb dX8_refusalOfItem_69 (by decide) (fun c_ => ?_) (fun c_ => ?_)
                · have h := h.1 c_
                  refine lv_aload_n (pc := 76) hx hb dX8_refusalOfItem_76 rfl (lv_at hl 0 rfl) ?_
                  refine lv_iconst (pc := 77) (v := (2 : Int32)) hx hb dX8_refusalOfItem_77 (by decide) ?_
                  refine Ccalli (rest := []) (CrunV (pc := 78) X w (okX8_found l hJ h) kw441 kmX8_found ⟨rfl, rfl⟩ ⟨by decide, by decide⟩ (Crv_0 X w) rfl hl.1 rfl (Nat.le_of_ble_eq_true rfl) dX8_refusalOfItem_78) w (fun r7 u8 H locs h w => ?_)
                  exact Ciret (pc := 81) X w h dX8_refusalOfItem_81
                · have h := h.2 c_
                  refine lv_iconst (pc := 72) (v := (0 : Int32)) hx hb dX8_refusalOfItem_72 (by decide) ?_
                  refine lv_goto (pc := 73) (tgt := 81) hx hb dX8_refusalOfItem_73 (by decide) ?_
                  exact Ciret (pc := 81) X w h dX8_refusalOfItem_81
              · refine Caq_53 3 (by decide) (pc := 62) X w dX8_refusalOfItem_62 ?_
                refine Cgf_60_2 (pc := 63) X w kw446 dX8_refusalOfItem_63 ?_
                refine Ccalli (rest := []) (CrunS (pc := 66) X w (okX8_below l hJ h) kw23 kmX8_below ⟨rfl, rfl⟩ ⟨by decide, by decide⟩ rfl hl.1 rfl (Nat.le_of_ble_eq_true rfl) dX8_refusalOfItem_66) w (fun r6 u9_ H locs h w => ?_)
                obtain ⟨hz_r6, h⟩ := h
                obtain ⟨rfl, h⟩ := h
                refine lv_if_eq (pc := 69) (tgt := 76) hx hb dX8_refusalOfItem_69 (by decide) (fun c_ => ?_) (fun c_ => ?_)
                · have h := h.1 c_
                  refine lv_aload_n (pc := 76) hx hb dX8_refusalOfItem_76 rfl (lv_at hl 0 rfl) ?_
                  refine lv_iconst (pc := 77) (v := (2 : Int32)) hx hb dX8_refusalOfItem_77 (by decide) ?_
                  refine Ccalli (rest := []) (CrunV (pc := 78) X w (okX8_found l hJ h) kw441 kmX8_found ⟨rfl, rfl⟩ ⟨by decide, by decide⟩ (Crv_0 X w) rfl hl.1 rfl (Nat.le_of_ble_eq_true rfl) dX8_refusalOfItem_78) w (fun r7 u8 H locs h w => ?_)
                  exact Ciret (pc := 81) X w h dX8_refusalOfItem_81
                · have h := h.2 c_
                  refine lv_iconst (pc := 72) (v := (0 : Int32)) hx hb dX8_refusalOfItem_72 (by decide) ?_
                  refine lv_goto (pc := 73) (tgt := 81) hx hb dX8_refusalOfItem_73 (by decide) ?_
                  exact Ciret (pc := 81) X w h dX8_refusalOfItem_81
            · have h := h.2 c_
              refine lv_aload_n (pc := 50) hx hb dX8_refusalOfItem_50 rfl (lv_at hl 0 rfl) ?_
              refine lv_iconst (pc := 51) (v := (3 : Int32)) hx hb dX8_refusalOfItem_51 (by decide) ?_
              refine Ccalli (rest := []) (CrunV (pc := 52) X w (okX8_found l hJ h) kw441 kmX8_found ⟨rfl, rfl⟩ ⟨by decide, by decide⟩ (Crv_0 X w) rfl hl.1 rfl (Nat.le_of_ble_eq_true rfl) dX8_refusalOfItem_52) w (fun r506 u507 H locs h w => ?_)
              exact Ciret (pc := 55) X w h dX8_refusalOfItem_55
          · refine Caq_53 3 (by decide) (pc := 42) X w dX8_refusalOfItem_42 ?_
            refine Cgf_60_1 (pc := 43) X w kw447 dX8_refusalOfItem_43 ?_
            refine lv_iload_n (pc := 46) hx hb dX8_refusalOfItem_46 rfl (lv_at hl 2 rfl) ?_
            refine lv_icmp_eq (pc := 47) (tgt := 56) hx hb dX8_refusalOfItem_47 (by decide) (fun c_ => ?_) (fun c_ => ?_)
            · have h := h.1 c_
              refine lv_iload_n (pc := 56) hx hb dX8_refusalOfItem_56 rfl (lv_at hl 3 rfl) ?_
              refine lv_aload_n (pc := 57) hx hb dX8_refusalOfItem_57 rfl (lv_at hl 0 rfl) ?_
              refine Cgf_0_6 (pc := 58) X w kw435 dX8_refusalOfItem_58 ?_
              refine lv_iload_n (pc := 61) hx hb dX8_refusalOfItem_61 rfl (lv_at hl 1 rfl) ?_
              obtain ⟨j5, hj_, e_⟩ := vp_in_of h.1 (by decide)
              have h := h.2 j5 hj_ e_
              refine W.eq (g2 := F0 m 62 ls (.int (nI j5) :: .ref (ad 53) :: .int a3 :: [])) (by rw [e_]) ?_
              clear e_
              rcases (show j5 = 0 ∨ j5 = 1 ∨ j5 = 2 ∨ j5 = 3 by omega) with rfl | rfl | rfl | rfl
              · refine Caq_53 0 (by decide) (pc := 62) X w dX8_refusalOfItem_62 ?_
                refine Cgf_54_2 (pc := 63) X w kw446 dX8_refusalOfItem_63 ?_
                refine Ccalli (rest := []) (CrunS (pc := 66) X w (okX8_below l hJ h) kw23 kmX8_below ⟨rfl, rfl⟩ ⟨by decide, by decide⟩ rfl hl.1 rfl (Nat.le_of_ble_eq_true rfl) dX8_refusalOfItem_66) w (fun r6 u9_ H locs h w => ?_)
                obtain ⟨hz_r6, h⟩ := h
                obtain ⟨rfl, h⟩ := h
                refine lv_if_eq (pc := 69) (tgt := 76) hx hb dX8_refusalOfItem_69 (by decide) (fun c_ => ?_) (fun c_ => ?_)
                · have h := h.1 c_
                  refine lv_aload_n (pc := 76) hx hb dX8_refusalOfItem_76 rfl (lv_at hl 0 rfl) ?_
                  refine lv_iconst (pc := 77) (v := (2 : Int32)) hx hb dX8_refusalOfItem_77 (by decide) ?_
                  refine Ccalli (rest := []) (CrunV (pc := 78) X w (okX8_found l hJ h) kw441 kmX8_found ⟨rfl, rfl⟩ ⟨by decide, by decide⟩ (Crv_0 X w) rfl hl.1 rfl (Nat.le_of_ble_eq_true rfl) dX8_refusalOfItem_78) w (fun r7 u8 H locs h w => ?_)
                  exact Ciret (pc := 81) X w h dX8_refusalOfItem_81
                · have h := h.2 c_
                  refine lv_iconst (pc := 72) (v := (0 : Int32)) hx hb dX8_refusalOfItem_72 (by decide) ?_
                  refine lv_goto (pc := 73) (tgt := 81) hx hb dX8_refusalOfItem_73 (by decide) ?_
                  exact Ciret (pc := 81) X w h dX8_refusalOfItem_81
              · refine Caq_53 1 (by decide) (pc := 62) X w dX8_refusalOfItem_62 ?_
                refine Cgf_56_2 (pc := 63) X w kw446 dX8_refusalOfItem_63 ?_
                refine Ccalli (rest := []) (CrunS (pc := 66) X w (okX8_below l hJ h) kw23 kmX8_below ⟨rfl, rfl⟩ ⟨by decide, by decide⟩ rfl hl.1 rfl (Nat.le_of_ble_eq_true rfl) dX8_refusalOfItem_66) w (fun r6 u9_ H locs h w => ?_)
                obtain ⟨hz_r6, h⟩ := h
                obtain ⟨rfl, h⟩ := h
                refine lv_if_eq (pc := 69) (tgt := 76) hx hb dX8_refusalOfItem_69 (by decide) (fun c_ => ?_) (fun c_ => ?_)
                · have h := h.1 c_
                  refine lv_aload_n (pc := 76) hx hb dX8_refusalOfItem_76 rfl (lv_at hl 0 rfl) ?_
                  refine lv_iconst (pc := 77) (v := (2 : Int32)) hx hb dX8_refusalOfItem_77 (by decide) ?_
                  refine Ccalli (rest := []) (CrunV (pc := 78) X w (okX8_found l hJ h) kw441 kmX8_found ⟨rfl, rfl⟩ ⟨by decide, by decide⟩ (Crv_0 X w) rfl hl.1 rfl (Nat.le_of_ble_eq_true rfl) dX8_refusalOfItem_78) w (fun r7 u8 H locs h w => ?_)
                  exact Ciret (pc := 81) X w h dX8_refusalOfItem_81
                · have h := h.2 c_
                  refine lv_iconst (pc := 72) (v := (0 : Int32)) hx hb dX8_refusalOfItem_72 (by decide) ?_
                  refine lv_goto (pc := 73) (tgt := 81) hx hb dX8_refusalOfItem_73 (by decide) ?_
                  exact Ciret (pc := 81) X w h dX8_refusalOfItem_81
              · refine Caq_53 2 (by decide) (pc := 62) X w dX8_refusalOfItem_62 ?_
                refine Cgf_58_2 (pc := 63) X w kw446 dX8_refusalOfItem_63 ?_
                refine Ccalli (rest := []) (CrunS (pc := 66) X w (okX8_below l hJ h) kw23 kmX8_below ⟨rfl, rfl⟩ ⟨by decide, by decide⟩ rfl hl.1 rfl (Nat.le_of_ble_eq_true rfl) dX8_refusalOfItem_66) w (fun r6 u9_ H locs h w => ?_)
                obtain ⟨hz_r6, h⟩ := h
                obtain ⟨rfl, h⟩ := h
                refine lv_if_eq (pc := 69) (tgt := 76) hx hb dX8_refusalOfItem_69 (by decide) (fun c_ => ?_) (fun c_ => ?_)
                · have h := h.1 c_
                  refine lv_aload_n (pc := 76) hx hb dX8_refusalOfItem_76 rfl (lv_at hl 0 rfl) ?_
                  refine lv_iconst (pc := 77) (v := (2 : Int32)) hx hb dX8_refusalOfItem_77 (by decide) ?_
                  refine Ccalli (rest := []) (CrunV (pc := 78) X w (okX8_found l hJ h) kw441 kmX8_found ⟨rfl, rfl⟩ ⟨by decide, by decide⟩ (Crv_0 X w) rfl hl.1 rfl (Nat.le_of_ble_eq_true rfl) dX8_refusalOfItem_78) w (fun r7 u8 H locs h w => ?_)
                  exact Ciret (pc := 81) X w h dX8_refusalOfItem_81
                · have h := h.2 c_
                  refine lv_iconst (pc := 72) (v := (0 : Int32)) hx hb dX8_refusalOfItem_72 (by decide) ?_
                  refine lv_goto (pc := 73) (tgt := 81) hx hb dX8_refusalOfItem_73 (by decide) ?_
                  exact Ciret (pc := 81) X w h dX8_refusalOfItem_81
              · refine Caq_53 3 (by decide) (pc := 62) X w dX8_refusalOfItem_62 ?_
                refine Cgf_60_2 (pc := 63) X w kw446 dX8_refusalOfItem_63 ?_
                refine Ccalli (rest := []) (CrunS (pc := 66) X w (okX8_below l hJ h) kw23 kmX8_below ⟨rfl, rfl⟩ ⟨by decide, by decide⟩ rfl hl.1 rfl (Nat.le_of_ble_eq_true rfl) dX8_refusalOfItem_66) w (fun r6 u9_ H locs h w => ?_)
                obtain ⟨hz_r6, h⟩ := h
                obtain ⟨rfl, h⟩ := h
                refine lv_if_eq (pc := 69) (tgt := 76) hx hb dX8_refusalOfItem_69 (by decide) (fun c_ => ?_) (fun c_ => ?_)
                · have h := h.1 c_
                  refine lv_aload_n (pc := 76) hx hb dX8_refusalOfItem_76 rfl (lv_at hl 0 rfl) ?_
                  refine lv_iconst (pc := 77) (v := (2 : Int32)) hx hb dX8_refusalOfItem_77 (by decide) ?_
                  refine Ccalli (rest := []) (CrunV (pc := 78) X w (okX8_found l hJ h) kw441 kmX8_found ⟨rfl, rfl⟩ ⟨by decide, by decide⟩ (Crv_0 X w) rfl hl.1 rfl (Nat.le_of_ble_eq_true rfl) dX8_refusalOfItem_78) w (fun r7 u8 H locs h w => ?_)
                  exact Ciret (pc := 81) X w h dX8_refusalOfItem_81
                · have h := h.2 c_
                  refine lv_iconst (pc := 72) (v := (0 : Int32)) hx hb dX8_refusalOfItem_72 (by decide) ?_
                  refine lv_goto (pc := 73) (tgt := 81) hx hb dX8_refusalOfItem_73 (by decide) ?_
                  exact Ciret (pc := 81) X w h dX8_refusalOfItem_81
            · have h := h.2 c_
              refine lv_aload_n (pc := 50) hx hb dX8_refusalOfItem_50 rfl (lv_at hl 0 rfl) ?_
              refine lv_iconst (pc := 51) (v := (3 : Int32)) hx hb dX8_refusalOfItem_51 (by decide) ?_
              refine Ccalli (rest := []) (CrunV (pc := 52) X w (okX8_found l hJ h) kw441 kmX8_found ⟨rfl, rfl⟩ ⟨by decide, by decide⟩ (Crv_0 X w) rfl hl.1 rfl (Nat.le_of_ble_eq_true rfl) dX8_refusalOfItem_52) w (fun r506 u507 H locs h w => ?_)
              exact Ciret (pc := 55) X w h dX8_refusalOfItem_55
        · have h := h.2 c_
          refine lv_aload_n (pc := 31) hx hb dX8_refusalOfItem_31 rfl (lv_at hl 0 rfl) ?_
          refine lv_iconst (pc := 32) (v := (1 : Int32)) hx hb dX8_refusalOfItem_32 (by decide) ?_
          refine Ccalli (rest := []) (CrunV (pc := 33) X w (okX8_found l hJ h) kw441 kmX8_found ⟨rfl, rfl⟩ ⟨by decide, by decide⟩ (Crv_0 X w) rfl hl.1 rfl (Nat.le_of_ble_eq_true rfl) dX8_refusalOfItem_33) w (fun r505 u506 H locs h w => ?_)
          exact Ciret (pc := 36) X w h dX8_refusalOfItem_36
      · refine Caq_53 1 (by decide) (pc := 24) X w dX8_refusalOfItem_24 ?_
        refine Cgf_56_3 (pc := 25) X w kw445 dX8_refusalOfItem_25 ?_
        refine lv_if_eq (pc := 28) (tgt := 37) hx hb dX8_refusalOfItem_28 (by decide) (fun c_ => ?_) (fun c_ => ?_)
        · have h := h.1 c_
          refine lv_aload_n (pc := 37) hx hb dX8_refusalOfItem_37 rfl (lv_at hl 0 rfl) ?_
          refine Cgf_0_6 (pc := 38) X w kw435 dX8_refusalOfItem_38 ?_
          refine lv_iload_n (pc := 41) hx hb dX8_refusalOfItem_41 rfl (lv_at hl 1 rfl) ?_
          obtain ⟨j4, hj_, e_⟩ := vp_in_of h.1 (by decide)
          have h := h.2 j4 hj_ e_
          refine W.eq (g2 := F0 m 42 ls (.int (nI j4) :: .ref (ad 53) :: [])) (by rw [e_]) ?_
          clear e_
          rcases (show j4 = 0 ∨ j4 = 1 ∨ j4 = 2 ∨ j4 = 3 by omega) with rfl | rfl | rfl | rfl
          · refine Caq_53 0 (by decide) (pc := 42) X w dX8_refusalOfItem_42 ?_
            refine Cgf_54_1 (pc := 43) X w kw447 dX8_refusalOfItem_43 ?_
            refine lv_iload_n (pc := 46) hx hb dX8_refusalOfItem_46 rfl (lv_at hl 2 rfl) ?_
            refine lv_icmp_eq (pc := 47) (tgt := 56) hx hb dX8_refusalOfItem_47 (by decide) (fun c_ => ?_) (fun c_ => ?_)
            · have h := h.1 c_
              refine lv_iload_n (pc := 56) hx hb dX8_refusalOfItem_56 rfl (lv_at hl 3 rfl) ?_
              refine lv_aload_n (pc := 57) hx hb dX8_refusalOfItem_57 rfl (lv_at hl 0 rfl) ?_
              refine Cgf_0_6 (pc := 58) X w kw435 dX8_refusalOfItem_58 ?_
              refine lv_iload_n (pc := 61) hx hb dX8_refusalOfItem_61 rfl (lv_at hl 1 rfl) ?_
              obtain ⟨j5, hj_, e_⟩ := vp_in_of h.1 (by decide)
              have h := h.2 j5 hj_ e_
              refine W.eq (g2 := F0 m 62 ls (.int (nI j5) :: .ref (ad 53) :: .int a3 :: [])) (by rw [e_]) ?_
              clear e_
              rcases (show j5 = 0 ∨ j5 = 1 ∨ j5 = 2 ∨ j5 = 3 by omega) with rfl | rfl | rfl | rfl
              · refine Caq_53 0 (by decide) (pc := 62) X w dX8_refusalOfItem_62 ?_
                refine Cgf_54_2 (pc := 63) X w kw446 dX8_refusalOfItem_63 ?_
                refine Ccalli (rest := []) (CrunS (pc := 66) X w (okX8_below l hJ h) kw23 kmX8_below ⟨rfl, rfl⟩ ⟨by decide, by decide⟩ rfl hl.1 rfl (Nat.le_of_ble_eq_true rfl) dX8_refusalOfItem_66) w (fun r6 u9_ H locs h w => ?_)
                obtain ⟨hz_r6, h⟩ := h
                obtain ⟨rfl, h⟩ := h
                refine lv_if_eq (pc := 69) (tgt := 76) hx hb dX8_refusalOfItem_69 (by decide) (fun c_ => ?_) (fun c_ => ?_)
                · have h := h.1 c_
                  refine lv_aload_n (pc := 76) hx hb dX8_refusalOfItem_76 rfl (lv_at hl 0 rfl) ?_
                  refine lv_iconst (pc := 77) (v := (2 : Int32)) hx hb dX8_refusalOfItem_77 (by decide) ?_
                  refine Ccalli (rest := []) (CrunV (pc := 78) X w (okX8_found l hJ h) kw441 kmX8_found ⟨rfl, rfl⟩ ⟨by decide, by decide⟩ (Crv_0 X w) rfl hl.1 rfl (Nat.le_of_ble_eq_true rfl) dX8_refusalOfItem_78) w (fun r7 u8 H locs h w => ?_)
                  exact Ciret (pc := 81) X w h dX8_refusalOfItem_81
                · have h := h.2 c_
                  refine lv_iconst (pc := 72) (v := (0 : Int32)) hx hb dX8_refusalOfItem_72 (by decide) ?_
                  refine lv_goto (pc := 73) (tgt := 81) hx hb dX8_refusalOfItem_73 (by decide) ?_
                  exact Ciret (pc := 81) X w h dX8_refusalOfItem_81
              · refine Caq_53 1 (by decide) (pc := 62) X w dX8_refusalOfItem_62 ?_
                refine Cgf_56_2 (pc := 63) X w kw446 dX8_refusalOfItem_63 ?_
                refine Ccalli (rest := []) (CrunS (pc := 66) X w (okX8_below l hJ h) kw23 kmX8_below ⟨rfl, rfl⟩ ⟨by decide, by decide⟩ rfl hl.1 rfl (Nat.le_of_ble_eq_true rfl) dX8_refusalOfItem_66) w (fun r6 u9_ H locs h w => ?_)
                obtain ⟨hz_r6, h⟩ := h
                obtain ⟨rfl, h⟩ := h
                refine lv_if_eq (pc := 69) (tgt := 76) hx hb dX8_refusalOfItem_69 (by decide) (fun c_ => ?_) (fun c_ => ?_)
                · have h := h.1 c_
                  refine lv_aload_n (pc := 76) hx hb dX8_refusalOfItem_76 rfl (lv_at hl 0 rfl) ?_
                  refine lv_iconst (pc := 77) (v := (2 : Int32)) hx hb dX8_refusalOfItem_77 (by decide) ?_
                  refine Ccalli (rest := []) (CrunV (pc := 78) X w (okX8_found l hJ h) kw441 kmX8_found ⟨rfl, rfl⟩ ⟨by decide, by decide⟩ (Crv_0 X w) rfl hl.1 rfl (Nat.le_of_ble_eq_true rfl) dX8_refusalOfItem_78) w (fun r7 u8 H locs h w => ?_)
                  exact Ciret (pc := 81) X w h dX8_refusalOfItem_81
                · have h := h.2 c_
                  refine lv_iconst (pc := 72) (v := (0 : Int32)) hx hb dX8_refusalOfItem_72 (by decide) ?_
                  refine lv_goto (pc := 73) (tgt := 81) hx hb dX8_refusalOfItem_73 (by decide) ?_
                  exact Ciret (pc := 81) X w h dX8_refusalOfItem_81
              · refine Caq_53 2 (by decide) (pc := 62) X w dX8_refusalOfItem_62 ?_
                refine Cgf_58_2 (pc := 63) X w kw446 dX8_refusalOfItem_63 ?_
                refine Ccalli (rest := []) (CrunS (pc := 66) X w (okX8_below l hJ h) kw23 kmX8_below ⟨rfl, rfl⟩ ⟨by decide, by decide⟩ rfl hl.1 rfl (Nat.le_of_ble_eq_true rfl) dX8_refusalOfItem_66) w (fun r6 u9_ H locs h w => ?_)
                obtain ⟨hz_r6, h⟩ := h
                obtain ⟨rfl, h⟩ := h
                refine lv_if_eq (pc := 69) (tgt := 76) hx hb dX8_refusalOfItem_69 (by decide) (fun c_ => ?_) (fun c_ => ?_)
                · have h := h.1 c_
                  refine lv_aload_n (pc := 76) hx hb dX8_refusalOfItem_76 rfl (lv_at hl 0 rfl) ?_
                  refine lv_iconst (pc := 77) (v := (2 : Int32)) hx hb dX8_refusalOfItem_77 (by decide) ?_
                  refine Ccalli (rest := []) (CrunV (pc := 78) X w (okX8_found l hJ h) kw441 kmX8_found ⟨rfl, rfl⟩ ⟨by decide, by decide⟩ (Crv_0 X w) rfl hl.1 rfl (Nat.le_of_ble_eq_true rfl) dX8_refusalOfItem_78) w (fun r7 u8 H locs h w => ?_)
                  exact Ciret (pc := 81) X w h dX8_refusalOfItem_81
                · have h := h.2 c_
                  refine lv_iconst (pc := 72) (v := (0 : Int32)) hx hb dX8_refusalOfItem_72 (by decide) ?_
                  refine lv_goto (pc := 73) (tgt := 81) hx hb dX8_refusalOfItem_73 (by decide) ?_
                  exact Ciret (pc := 81) X w h dX8_refusalOfItem_81
              · refine Caq_53 3 (by decide) (pc := 62) X w dX8_refusalOfItem_62 ?_
                refine Cgf_60_2 (pc := 63) X w kw446 dX8_refusalOfItem_63 ?_
                refine Ccalli (rest := []) (CrunS (pc := 66) X w (okX8_below l hJ h) kw23 kmX8_below ⟨rfl, rfl⟩ ⟨by decide, by decide⟩ rfl hl.1 rfl (Nat.le_of_ble_eq_true rfl) dX8_refusalOfItem_66) w (fun r6 u9_ H locs h w => ?_)
                obtain ⟨hz_r6, h⟩ := h
                obtain ⟨rfl, h⟩ := h
                refine lv_if_eq (pc := 69) (tgt := 76) hx hb dX8_refusalOfItem_69 (by decide) (fun c_ => ?_) (fun c_ => ?_)
                · have h := h.1 c_
                  refine lv_aload_n (pc := 76) hx hb dX8_refusalOfItem_76 rfl (lv_at hl 0 rfl) ?_
                  refine lv_iconst (pc := 77) (v := (2 : Int32)) hx hb dX8_refusalOfItem_77 (by decide) ?_
                  refine Ccalli (rest := []) (CrunV (pc := 78) X w (okX8_found l hJ h) kw441 kmX8_found ⟨rfl, rfl⟩ ⟨by decide, by decide⟩ (Crv_0 X w) rfl hl.1 rfl (Nat.le_of_ble_eq_true rfl) dX8_refusalOfItem_78) w (fun r7 u8 H locs h w => ?_)
                  exact Ciret (pc := 81) X w h dX8_refusalOfItem_81
                · have h := h.2 c_
                  refine lv_iconst (pc := 72) (v := (0 : Int32)) hx hb dX8_refusalOfItem_72 (by decide) ?_
                  refine lv_goto (pc := 73) (tgt := 81) hx hb dX8_refusalOfItem_73 (by decide) ?_
                  exact Ciret (pc := 81) X w h dX8_refusalOfItem_81
            · have h := h.2 c_
              refine lv_aload_n (pc := 50) hx hb dX8_refusalOfItem_50 rfl (lv_at hl 0 rfl) ?_
              refine lv_iconst (pc := 51) (v := (3 : Int32)) hx hb dX8_refusalOfItem_51 (by decide) ?_
              refine Ccalli (rest := []) (CrunV (pc := 52) X w (okX8_found l hJ h) kw441 kmX8_found ⟨rfl, rfl⟩ ⟨by decide, by decide⟩ (Crv_0 X w) rfl hl.1 rfl (Nat.le_of_ble_eq_true rfl) dX8_refusalOfItem_52) w (fun r506 u507 H locs h w => ?_)
              exact Ciret (pc := 55) X w h dX8_refusalOfItem_55
          · refine Caq_53 1 (by decide) (pc := 42) X w dX8_refusalOfItem_42 ?_
            refine Cgf_56_1 (pc := 43) X w kw447 dX8_refusalOfItem_43 ?_
            refine lv_iload_n (pc := 46) hx hb dX8_refusalOfItem_46 rfl (lv_at hl 2 rfl) ?_
            refine lv_icmp_eq (pc := 47) (tgt := 56) hx hb dX8_refusalOfItem_47 (by decide) (fun c_ => ?_) (fun c_ => ?_)
            · have h := h.1 c_
              refine lv_iload_n (pc := 56) hx hb dX8_refusalOfItem_56 rfl (lv_at hl 3 rfl) ?_
              refine lv_aload_n (pc := 57) hx hb dX8_refusalOfItem_57 rfl (lv_at hl 0 rfl) ?_
              refine Cgf_0_6 (pc := 58) X w kw435 dX8_refusalOfItem_58 ?_
              refine lv_iload_n (pc := 61) hx hb dX8_refusalOfItem_61 rfl (lv_at hl 1 rfl) ?_
              obtain ⟨j5, hj_, e_⟩ := vp_in_of h.1 (by decide)
              have h := h.2 j5 hj_ e_
              refine W.eq (g2 := F0 m 62 ls (.int (nI j5) :: .ref (ad 53) :: .int a3 :: [])) (by rw [e_]) ?_
              clear e_
              rcases (show j5 = 0 ∨ j5 = 1 ∨ j5 = 2 ∨ j5 = 3 by omega) with rfl | rfl | rfl | rfl
              · refine Caq_53 0 (by decide) (pc := 62) X w dX8_refusalOfItem_62 ?_
                refine Cgf_54_2 (pc := 63) X w kw446 dX8_refusalOfItem_63 ?_
                refine Ccalli (rest := []) (CrunS (pc := 66) X w (okX8_below l hJ h) kw23 kmX8_below ⟨rfl, rfl⟩ ⟨by decide, by decide⟩ rfl hl.1 rfl (Nat.le_of_ble_eq_true rfl) dX8_refusalOfItem_66) w (fun r6 u9_ H locs h w => ?_)
                obtain ⟨hz_r6, h⟩ := h
                obtain ⟨rfl, h⟩ := h
                refine lv_if_eq (pc := 69) (tgt := 76) hx hb dX8_refusalOfItem_69 (by decide) (fun c_ => ?_) (fun c_ => ?_)
                · have h := h.1 c_
                  refine lv_aload_n (pc := 76) hx hb dX8_refusalOfItem_76 rfl (lv_at hl 0 rfl) ?_
                  refine lv_iconst (pc := 77) (v := (2 : Int32)) hx hb dX8_refusalOfItem_77 (by decide) ?_
                  refine Ccalli (rest := []) (CrunV (pc := 78) X w (okX8_found l hJ h) kw441 kmX8_found ⟨rfl, rfl⟩ ⟨by decide, by decide⟩ (Crv_0 X w) rfl hl.1 rfl (Nat.le_of_ble_eq_true rfl) dX8_refusalOfItem_78) w (fun r7 u8 H locs h w => ?_)
                  exact Ciret (pc := 81) X w h dX8_refusalOfItem_81
                · have h := h.2 c_
                  refine lv_iconst (pc := 72) (v := (0 : Int32)) hx hb dX8_refusalOfItem_72 (by decide) ?_
                  refine lv_goto (pc := 73) (tgt := 81) hx hb dX8_refusalOfItem_73 (by decide) ?_
                  exact Ciret (pc := 81) X w h dX8_refusalOfItem_81
              · refine Caq_53 1 (by decide) (pc := 62) X w dX8_refusalOfItem_62 ?_
                refine Cgf_56_2 (pc := 63) X w kw446 dX8_refusalOfItem_63 ?_
                refine Ccalli (rest := []) (CrunS (pc := 66) X w (okX8_below l hJ h) kw23 kmX8_below ⟨rfl, rfl⟩ ⟨by decide, by decide⟩ rfl hl.1 rfl (Nat.le_of_ble_eq_true rfl) dX8_refusalOfItem_66) w (fun r6 u9_ H locs h w => ?_)
                obtain ⟨hz_r6, h⟩ := h
                obtain ⟨rfl, h⟩ := h
                refine lv_if_eq (pc := 69) (tgt := 76) hx hb dX8_refusalOfItem_69 (by decide) (fun c_ => ?_) (fun c_ => ?_)
                · have h := h.1 c_
                  refine lv_aload_n (pc := 76) hx hb dX8_refusalOfItem_76 rfl (lv_at hl 0 rfl) ?_
                  refine lv_iconst (pc := 77) (v := (2 : Int32)) hx hb dX8_refusalOfItem_77 (by decide) ?_
                  refine Ccalli (rest := []) (CrunV (pc := 78) X w (okX8_found l hJ h) kw441 kmX8_found ⟨rfl, rfl⟩ ⟨by decide, by decide⟩ (Crv_0 X w) rfl hl.1 rfl (Nat.le_of_ble_eq_true rfl) dX8_refusalOfItem_78) w (fun r7 u8 H locs h w => ?_)
                  exact Ciret (pc := 81) X w h dX8_refusalOfItem_81
                · have h := h.2 c_
                  refine lv_iconst (pc := 72) (v := (0 : Int32)) hx hb dX8_refusalOfItem_72 (by decide) ?_
                  refine lv_goto (pc := 73) (tgt := 81) hx hb dX8_refusalOfItem_73 (by decide) ?_
                  exact Ciret (pc := 81) X w h dX8_refusalOfItem_81
              · refine Caq_53 2 (by decide) (pc := 62) X w dX8_refusalOfItem_62 ?_
                refine Cgf_58_2 (pc := 63) X w kw446 dX8_refusalOfItem_63 ?_
                refine Ccalli (rest := []) (CrunS (pc := 66) X w (okX8_below l hJ h) kw23 kmX8_below ⟨rfl, rfl⟩ ⟨by decide, by decide⟩ rfl hl.1 rfl (Nat.le_of_ble_eq_true rfl) dX8_refusalOfItem_66) w (fun r6 u9_ H locs h w => ?_)
                obtain ⟨hz_r6, h⟩ := h
                obtain ⟨rfl, h⟩ := h
                refine lv_if_eq (pc := 69) (tgt := 76) hx hb dX8_refusalOfItem_69 (by decide) (fun c_ => ?_) (fun c_ => ?_)
                · have h := h.1 c_
                  refine lv_aload_n (pc := 76) hx hb dX8_refusalOfItem_76 rfl (lv_at hl 0 rfl) ?_
                  refine lv_iconst (pc := 77) (v := (2 : Int32)) hx hb dX8_refusalOfItem_77 (by decide) ?_
                  refine Ccalli (rest := []) (CrunV (pc := 78) X w (okX8_found l hJ h) kw441 kmX8_found ⟨rfl, rfl⟩ ⟨by decide, by decide⟩ (Crv_0 X w) rfl hl.1 rfl (Nat.le_of_ble_eq_true rfl) dX8_refusalOfItem_78) w (fun r7 u8 H locs h w => ?_)
                  exact Ciret (pc := 81) X w h dX8_refusalOfItem_81
                · have h := h.2 c_
                  refine lv_iconst (pc := 72) (v := (0 : Int32)) hx hb dX8_refusalOfItem_72 (by decide) ?_
                  refine lv_goto (pc := 73) (tgt := 81) hx hb dX8_refusalOfItem_73 (by decide) ?_
                  exact Ciret (pc := 81) X w h dX8_refusalOfItem_81
              · refine Caq_53 3 (by decide) (pc := 62) X w dX8_refusalOfItem_62 ?_
                refine Cgf_60_2 (pc := 63) X w kw446 dX8_refusalOfItem_63 ?_
                refine Ccalli (rest := []) (CrunS (pc := 66) X w (okX8_below l hJ h) kw23 kmX8_below ⟨rfl, rfl⟩ ⟨by decide, by decide⟩ rfl hl.1 rfl (Nat.le_of_ble_eq_true rfl) dX8_refusalOfItem_66) w (fun r6 u9_ H locs h w => ?_)
                obtain ⟨hz_r6, h⟩ := h
                obtain ⟨rfl, h⟩ := h
                refine lv_if_eq (pc := 69) (tgt := 76) hx hb dX8_refusalOfItem_69 (by decide) (fun c_ => ?_) (fun c_ => ?_)
                · have h := h.1 c_
                  refine lv_aload_n (pc := 76) hx hb dX8_refusalOfItem_76 rfl (lv_at hl 0 rfl) ?_
                  refine lv_iconst (pc := 77) (v := (2 : Int32)) hx hb dX8_refusalOfItem_77 (by decide) ?_
                  refine Ccalli (rest := []) (CrunV (pc := 78) X w (okX8_found l hJ h) kw441 kmX8_found ⟨rfl, rfl⟩ ⟨by decide, by decide⟩ (Crv_0 X w) rfl hl.1 rfl (Nat.le_of_ble_eq_true rfl) dX8_refusalOfItem_78) w (fun r7 u8 H locs h w => ?_)
                  exact Ciret (pc := 81) X w h dX8_refusalOfItem_81
                · have h := h.2 c_
                  refine lv_iconst (pc := 72) (v := (0 : Int32)) hx hb dX8_refusalOfItem_72 (by decide) ?_
                  refine lv_goto (pc := 73) (tgt := 81) hx hb dX8_refusalOfItem_73 (by decide) ?_
                  exact Ciret (pc := 81) X w h dX8_refusalOfItem_81
            · have h := h.2 c_
              refine lv_aload_n (pc := 50) hx hb dX8_refusalOfItem_50 rfl (lv_at hl 0 rfl) ?_
              refine lv_iconst (pc := 51) (v := (3 : Int32)) hx hb dX8_refusalOfItem_51 (by decide) ?_
              refine Ccalli (rest := []) (CrunV (pc := 52) X w (okX8_found l hJ h) kw441 kmX8_found ⟨rfl, rfl⟩ ⟨by decide, by decide⟩ (Crv_0 X w) rfl hl.1 rfl (Nat.le_of_ble_eq_true rfl) dX8_refusalOfItem_52) w (fun r506 u507 H locs h w => ?_)
              exact Ciret (pc := 55) X w h dX8_refusalOfItem_55
          · refine Caq_53 2 (by decide) (pc := 42) X w dX8_refusalOfItem_42 ?_
            refine Cgf_58_1 (pc := 43) X w kw447 dX8_refusalOfItem_43 ?_
            refine lv_iload_n (pc := 46) hx hb dX8_refusalOfItem_46 rfl (lv_at hl 2 rfl) ?_
            refine lv_icmp_eq (pc := 47) (tgt := 56) hx hb dX8_refusalOfItem_47 (by decide) (fun c_ => ?_) (fun c_ => ?_)
            · have h := h.1 c_
              refine lv_iload_n (pc := 56) hx hb dX8_refusalOfItem_56 rfl (lv_at hl 3 rfl) ?_
              refine lv_aload_n (pc := 57) hx hb dX8_refusalOfItem_57 rfl (lv_at hl 0 rfl) ?_
              refine Cgf_0_6 (pc := 58) X w kw435 dX8_refusalOfItem_58 ?_
              refine lv_iload_n (pc := 61) hx hb dX8_refusalOfItem_61 rfl (lv_at hl 1 rfl) ?_
              obtain ⟨j5, hj_, e_⟩ := vp_in_of h.1 (by decide)
              have h := h.2 j5 hj_ e_
              refine W.eq (g2 := F0 m 62 ls (.int (nI j5) :: .ref (ad 53) :: .int a3 :: [])) (by rw [e_]) ?_
              clear e_
              rcases (show j5 = 0 ∨ j5 = 1 ∨ j5 = 2 ∨ j5 = 3 by omega) with rfl | rfl | rfl | rfl
              · refine Caq_53 0 (by decide) (pc := 62) X w dX8_refusalOfItem_62 ?_
                refine Cgf_54_2 (pc := 63) X w kw446 dX8_refusalOfItem_63 ?_
                refine Ccalli (rest := []) (CrunS (pc := 66) X w (okX8_below l hJ h) kw23 kmX8_below ⟨rfl, rfl⟩ ⟨by decide, by decide⟩ rfl hl.1 rfl (Nat.le_of_ble_eq_true rfl) dX8_refusalOfItem_66) w (fun r6 u9_ H locs h w => ?_)
                obtain ⟨hz_r6, h⟩ := h
                obtain ⟨rfl, h⟩ := h
                refine lv_if_eq (pc := 69) (tgt := 76) hx hb dX8_refusalOfItem_69 (by decide) (fun c_ => ?_) (fun c_ => ?_)
                · have h := h.1 c_
                  refine lv_aload_n (pc := 76) hx hb dX8_refusalOfItem_76 rfl (lv_at hl 0 rfl) ?_
                  refine lv_iconst (pc := 77) (v := (2 : Int32)) hx hb dX8_refusalOfItem_77 (by decide) ?_
                  refine Ccalli (rest := []) (CrunV (pc := 78) X w (okX8_found l hJ h) kw441 kmX8_found ⟨rfl, rfl⟩ ⟨by decide, by decide⟩ (Crv_0 X w) rfl hl.1 rfl (Nat.le_of_ble_eq_true rfl) dX8_refusalOfItem_78) w (fun r7 u8 H locs h w => ?_)
                  exact Ciret (pc := 81) X w h dX8_refusalOfItem_81
                · have h := h.2 c_
                  refine lv_iconst (pc := 72) (v := (0 : Int32)) hx hb dX8_refusalOfItem_72 (by decide) ?_
                  refine lv_goto (pc := 73) (tgt := 81) hx hb dX8_refusalOfItem_73 (by decide) ?_
                  exact Ciret (pc := 81) X w h dX8_refusalOfItem_81
              · refine Caq_53 1 (by decide) (pc := 62) X w dX8_refusalOfItem_62 ?_
                refine Cgf_56_2 (pc := 63) X w kw446 dX8_refusalOfItem_63 ?_
                refine Ccalli (rest := []) (CrunS (pc := 66) X w (okX8_below l hJ h) kw23 kmX8_below ⟨rfl, rfl⟩ ⟨by decide, by decide⟩ rfl hl.1 rfl (Nat.le_of_ble_eq_true rfl) dX8_refusalOfItem_66) w (fun r6 u9_ H locs h w => ?_)
                obtain ⟨hz_r6, h⟩ := h
                obtain ⟨rfl, h⟩ := h
                refine lv_if_eq (pc := 69) (tgt := 76) hx hb dX8_refusalOfItem_69 (by decide) (fun c_ => ?_) (fun c_ => ?_)
                · have h := h.1 c_
                  refine lv_aload_n (pc := 76) hx hb dX8_refusalOfItem_76 rfl (lv_at hl 0 rfl) ?_
                  refine lv_iconst (pc := 77) (v := (2 : Int32)) hx hb dX8_refusalOfItem_77 (by decide) ?_
                  refine Ccalli (rest := []) (CrunV (pc := 78) X w (okX8_found l hJ h) kw441 kmX8_found ⟨rfl, rfl⟩ ⟨by decide, by decide⟩ (Crv_0 X w) rfl hl.1 rfl (Nat.le_of_ble_eq_true rfl) dX8_refusalOfItem_78) w (fun r7 u8 H locs h w => ?_)
                  exact Ciret (pc := 81) X w h dX8_refusalOfItem_81
                · have h := h.2 c_
                  refine lv_iconst (pc := 72) (v := (0 : Int32)) hx hb dX8_refusalOfItem_72 (by decide) ?_
                  refine lv_goto (pc := 73) (tgt := 81) hx hb dX8_refusalOfItem_73 (by decide) ?_
                  exact Ciret (pc := 81) X w h dX8_refusalOfItem_81
              · refine Caq_53 2 (by decide) (pc := 62) X w dX8_refusalOfItem_62 ?_
                refine Cgf_58_2 (pc := 63) X w kw446 dX8_refusalOfItem_63 ?_
                refine Ccalli (rest := []) (CrunS (pc := 66) X w (okX8_below l hJ h) kw23 kmX8_below ⟨rfl, rfl⟩ ⟨by decide, by decide⟩ rfl hl.1 rfl (Nat.le_of_ble_eq_true rfl) dX8_refusalOfItem_66) w (fun r6 u9_ H locs h w => ?_)
                obtain ⟨hz_r6, h⟩ := h
                obtain ⟨rfl, h⟩ := h
                refine lv_if_eq (pc := 69) (tgt := 76) hx hb dX8_refusalOfItem_69 (by decide) (fun c_ => ?_) (fun c_ => ?_)
                · have h := h.1 c_
                  refine lv_aload_n (pc := 76) hx hb dX8_refusalOfItem_76 rfl (lv_at hl 0 rfl) ?_
                  refine lv_iconst (pc := 77) (v := (2 : Int32)) hx hb dX8_refusalOfItem_77 (by decide) ?_
                  refine Ccalli (rest := []) (CrunV (pc := 78) X w (okX8_found l hJ h) kw441 kmX8_found ⟨rfl, rfl⟩ ⟨by decide, by decide⟩ (Crv_0 X w) rfl hl.1 rfl (Nat.le_of_ble_eq_true rfl) dX8_refusalOfItem_78) w (fun r7 u8 H locs h w => ?_)
                  exact Ciret (pc := 81) X w h dX8_refusalOfItem_81
                · have h := h.2 c_
                  refine lv_iconst (pc := 72) (v := (0 : Int32)) hx hb dX8_refusalOfItem_72 (by decide) ?_
                  refine lv_goto (pc := 73) (tgt := 81) hx hb dX8_refusalOfItem_73 (by decide) ?_
                  exact Ciret (pc := 81) X w h dX8_refusalOfItem_81
              · refine Caq_53 3 (by decide) (pc := 62) X w dX8_refusalOfItem_62 ?_
                refine Cgf_60_2 (pc := 63) X w kw446 dX8_refusalOfItem_63 ?_
                refine Ccalli (rest := []) (CrunS (pc := 66) X w (okX8_below l hJ h) kw23 kmX8_below ⟨rfl, rfl⟩ ⟨by decide, by decide⟩ rfl hl.1 rfl (Nat.le_of_ble_eq_true rfl) dX8_refusalOfItem_66) w (fun r6 u9_ H locs h w => ?_)
                obtain ⟨hz_r6, h⟩ := h
                obtain ⟨rfl, h⟩ := h
                refine lv_if_eq (pc := 69) (tgt := 76) hx hb dX8_refusalOfItem_69 (by decide) (fun c_ => ?_) (fun c_ => ?_)
                · have h := h.1 c_
                  refine lv_aload_n (pc := 76) hx hb dX8_refusalOfItem_76 rfl (lv_at hl 0 rfl) ?_
                  refine lv_iconst (pc := 77) (v := (2 : Int32)) hx hb dX8_refusalOfItem_77 (by decide) ?_
                  refine Ccalli (rest := []) (CrunV (pc := 78) X w (okX8_found l hJ h) kw441 kmX8_found ⟨rfl, rfl⟩ ⟨by decide, by decide⟩ (Crv_0 X w) rfl hl.1 rfl (Nat.le_of_ble_eq_true rfl) dX8_refusalOfItem_78) w (fun r7 u8 H locs h w => ?_)
                  exact Ciret (pc := 81) X w h dX8_refusalOfItem_81
                · have h := h.2 c_
                  refine lv_iconst (pc := 72) (v := (0 : Int32)) hx hb dX8_refusalOfItem_72 (by decide) ?_
                  refine lv_goto (pc := 73) (tgt := 81) hx hb dX8_refusalOfItem_73 (by decide) ?_
                  exact Ciret (pc := 81) X w h dX8_refusalOfItem_81
            · have h := h.2 c_
              refine lv_aload_n (pc := 50) hx hb dX8_refusalOfItem_50 rfl (lv_at hl 0 rfl) ?_
              refine lv_iconst (pc := 51) (v := (3 : Int32)) hx hb dX8_refusalOfItem_51 (by decide) ?_
              refine Ccalli (rest := []) (CrunV (pc := 52) X w (okX8_found l hJ h) kw441 kmX8_found ⟨rfl, rfl⟩ ⟨by decide, by decide⟩ (Crv_0 X w) rfl hl.1 rfl (Nat.le_of_ble_eq_true rfl) dX8_refusalOfItem_52) w (fun r506 u507 H locs h w => ?_)
              exact Ciret (pc := 55) X w h dX8_refusalOfItem_55
          · refine Caq_53 3 (by decide) (pc := 42) X w dX8_refusalOfItem_42 ?_
            refine Cgf_60_1 (pc := 43) X w kw447 dX8_refusalOfItem_43 ?_
            refine lv_iload_n (pc := 46) hx hb dX8_refusalOfItem_46 rfl (lv_at hl 2 rfl) ?_
            refine lv_icmp_eq (pc := 47) (tgt := 56) hx hb dX8_refusalOfItem_47 (by decide) (fun c_ => ?_) (fun c_ => ?_)
            · have h := h.1 c_
              refine lv_iload_n (pc := 56) hx hb dX8_refusalOfItem_56 rfl (lv_at hl 3 rfl) ?_
              refine lv_aload_n (pc := 57) hx hb dX8_refusalOfItem_57 rfl (lv_at hl 0 rfl) ?_
              refine Cgf_0_6 (pc := 58) X w kw435 dX8_refusalOfItem_58 ?_
              refine lv_iload_n (pc := 61) hx hb dX8_refusalOfItem_61 rfl (lv_at hl 1 rfl) ?_
              obtain ⟨j5, hj_, e_⟩ := vp_in_of h.1 (by decide)
              have h := h.2 j5 hj_ e_
              refine W.eq (g2 := F0 m 62 ls (.int (nI j5) :: .ref (ad 53) :: .int a3 :: [])) (by rw [e_]) ?_
              clear e_
              rcases (show j5 = 0 ∨ j5 = 1 ∨ j5 = 2 ∨ j5 = 3 by omega) with rfl | rfl | rfl | rfl
              · refine Caq_53 0 (by decide) (pc := 62) X w dX8_refusalOfItem_62 ?_
                refine Cgf_54_2 (pc := 63) X w kw446 dX8_refusalOfItem_63 ?_
                refine Ccalli (rest := []) (CrunS (pc := 66) X w (okX8_below l hJ h) kw23 kmX8_below ⟨rfl, rfl⟩ ⟨by decide, by decide⟩ rfl hl.1 rfl (Nat.le_of_ble_eq_true rfl) dX8_refusalOfItem_66) w (fun r6 u9_ H locs h w => ?_)
                obtain ⟨hz_r6, h⟩ := h
                obtain ⟨rfl, h⟩ := h
                refine lv_if_eq (pc := 69) (tgt := 76) hx hb dX8_refusalOfItem_69 (by decide) (fun c_ => ?_) (fun c_ => ?_)
                · have h := h.1 c_
                  refine lv_aload_n (pc := 76) hx hb dX8_refusalOfItem_76 rfl (lv_at hl 0 rfl) ?_
                  refine lv_iconst (pc := 77) (v := (2 : Int32)) hx hb dX8_refusalOfItem_77 (by decide) ?_
                  refine Ccalli (rest := []) (CrunV (pc := 78) X w (okX8_found l hJ h) kw441 kmX8_found ⟨rfl, rfl⟩ ⟨by decide, by decide⟩ (Crv_0 X w) rfl hl.1 rfl (Nat.le_of_ble_eq_true rfl) dX8_refusalOfItem_78) w (fun r7 u8 H locs h w => ?_)
                  exact Ciret (pc := 81) X w h dX8_refusalOfItem_81
                · have h := h.2 c_
                  refine lv_iconst (pc := 72) (v := (0 : Int32)) hx hb dX8_refusalOfItem_72 (by decide) ?_
                  refine lv_goto (pc := 73) (tgt := 81) hx hb dX8_refusalOfItem_73 (by decide) ?_
                  exact Ciret (pc := 81) X w h dX8_refusalOfItem_81
              · refine Caq_53 1 (by decide) (pc := 62) X w dX8_refusalOfItem_62 ?_
                refine Cgf_56_2 (pc := 63) X w kw446 dX8_refusalOfItem_63 ?_
                refine Ccalli (rest := []) (CrunS (pc := 66) X w (okX8_below l hJ h) kw23 kmX8_below ⟨rfl, rfl⟩ ⟨by decide, by decide⟩ rfl hl.1 rfl (Nat.le_of_ble_eq_true rfl) dX8_refusalOfItem_66) w (fun r6 u9_ H locs h w => ?_)
                obtain ⟨hz_r6, h⟩ := h
                obtain ⟨rfl, h⟩ := h
                refine lv_if_eq (pc := 69) (tgt := 76) hx hb dX8_refusalOfItem_69 (by decide) (fun c_ => ?_) (fun c_ => ?_)
                · have h := h.1 c_
                  refine lv_aload_n (pc := 76) hx hb dX8_refusalOfItem_76 rfl (lv_at hl 0 rfl) ?_
                  refine lv_iconst (pc := 77) (v := (2 : Int32)) hx hb dX8_refusalOfItem_77 (by decide) ?_
                  refine Ccalli (rest := []) (CrunV (pc := 78) X w (okX8_found l hJ h) kw441 kmX8_found ⟨rfl, rfl⟩ ⟨by decide, by decide⟩ (Crv_0 X w) rfl hl.1 rfl (Nat.le_of_ble_eq_true rfl) dX8_refusalOfItem_78) w (fun r7 u8 H locs h w => ?_)
                  exact Ciret (pc := 81) X w h dX8_refusalOfItem_81
                · have h := h.2 c_
                  refine lv_iconst (pc := 72) (v := (0 : Int32)) hx hb dX8_refusalOfItem_72 (by decide) ?_
                  refine lv_goto (pc := 73) (tgt := 81) hx hb dX8_refusalOfItem_73 (by decide) ?_
                  exact Ciret (pc := 81) X w h dX8_refusalOfItem_81
              · refine Caq_53 2 (by decide) (pc := 62) X w dX8_refusalOfItem_62 ?_
                refine Cgf_58_2 (pc := 63) X w kw446 dX8_refusalOfItem_63 ?_
                refine Ccalli (rest := []) (CrunS (pc := 66) X w (okX8_below l hJ h) kw23 kmX8_below ⟨rfl, rfl⟩ ⟨by decide, by decide⟩ rfl hl.1 rfl (Nat.le_of_ble_eq_true rfl) dX8_refusalOfItem_66) w (fun r6 u9_ H locs h w => ?_)
                obtain ⟨hz_r6, h⟩ := h
                obtain ⟨rfl, h⟩ := h
                refine lv_if_eq (pc := 69) (tgt := 76) hx hb dX8_refusalOfItem_69 (by decide) (fun c_ => ?_) (fun c_ => ?_)
                · have h := h.1 c_
                  refine lv_aload_n (pc := 76) hx hb dX8_refusalOfItem_76 rfl (lv_at hl 0 rfl) ?_
                  refine lv_iconst (pc := 77) (v := (2 : Int32)) hx hb dX8_refusalOfItem_77 (by decide) ?_
                  refine Ccalli (rest := []) (CrunV (pc := 78) X w (okX8_found l hJ h) kw441 kmX8_found ⟨rfl, rfl⟩ ⟨by decide, by decide⟩ (Crv_0 X w) rfl hl.1 rfl (Nat.le_of_ble_eq_true rfl) dX8_refusalOfItem_78) w (fun r7 u8 H locs h w => ?_)
                  exact Ciret (pc := 81) X w h dX8_refusalOfItem_81
                · have h := h.2 c_
                  refine lv_iconst (pc := 72) (v := (0 : Int32)) hx hb dX8_refusalOfItem_72 (by decide) ?_
                  refine lv_goto (pc := 73) (tgt := 81) hx hb dX8_refusalOfItem_73 (by decide) ?_
                  exact Ciret (pc := 81) X w h dX8_refusalOfItem_81
              · refine Caq_53 3 (by decide) (pc := 62) X w dX8_refusalOfItem_62 ?_
                refine Cgf_60_2 (pc := 63) X w kw446 dX8_refusalOfItem_63 ?_
                refine Ccalli (rest := []) (CrunS (pc := 66) X w (okX8_below l hJ h) kw23 kmX8_below ⟨rfl, rfl⟩ ⟨by decide, by decide⟩ rfl hl.1 rfl (Nat.le_of_ble_eq_true rfl) dX8_refusalOfItem_66) w (fun r6 u9_ H locs h w => ?_)
                obtain ⟨hz_r6, h⟩ := h
                obtain ⟨rfl, h⟩ := h
                refine lv_if_eq (pc := 69) (tgt := 76) hx hb dX8_refusalOfItem_69 (by decide) (fun c_ => ?_) (fun c_ => ?_)
                · have h := h.1 c_
                  refine lv_aload_n (pc := 76) hx hb dX8_refusalOfItem_76 rfl (lv_at hl 0 rfl) ?_
                  refine lv_iconst (pc := 77) (v := (2 : Int32)) hx hb dX8_refusalOfItem_77 (by decide) ?_
                  refine Ccalli (rest := []) (CrunV (pc := 78) X w (okX8_found l hJ h) kw441 kmX8_found ⟨rfl, rfl⟩ ⟨by decide, by decide⟩ (Crv_0 X w) rfl hl.1 rfl (Nat.le_of_ble_eq_true rfl) dX8_refusalOfItem_78) w (fun r7 u8 H locs h w => ?_)
                  exact Ciret (pc := 81) X w h dX8_refusalOfItem_81
                · have h := h.2 c_
                  refine lv_iconst (pc := 72) (v := (0 : Int32)) hx hb dX8_refusalOfItem_72 (by decide) ?_
                  refine lv_goto (pc := 73) (tgt := 81) hx hb dX8_refusalOfItem_73 (by decide) ?_
                  exact Ciret (pc := 81) X w h dX8_refusalOfItem_81
            · have h := h.2 c_
              refine lv_aload_n (pc := 50) hx hb dX8_refusalOfItem_50 rfl (lv_at hl 0 rfl) ?_
              refine lv_iconst (pc := 51) (v := (3 : Int32)) hx hb dX8_refusalOfItem_51 (by decide) ?_
              refine Ccalli (rest := []) (CrunV (pc := 52) X w (okX8_found l hJ h) kw441 kmX8_found ⟨rfl, rfl⟩ ⟨by decide, by decide⟩ (Crv_0 X w) rfl hl.1 rfl (Nat.le_of_ble_eq_true rfl) dX8_refusalOfItem_52) w (fun r506 u507 H locs h w => ?_)
              exact Ciret (pc := 55) X w h dX8_refusalOfItem_55
        · have h := h.2 c_
          refine lv_aload_n (pc := 31) hx hb dX8_refusalOfItem_31 rfl (lv_at hl 0 rfl) ?_
          refine lv_iconst (pc := 32) (v := (1 : Int32)) hx hb dX8_refusalOfItem_32 (by decide) ?_
          refine Ccalli (rest := []) (CrunV (pc := 33) X w (okX8_found l hJ h) kw441 kmX8_found ⟨rfl, rfl⟩ ⟨by decide, by decide⟩ (Crv_0 X w) rfl hl.1 rfl (Nat.le_of_ble_eq_true rfl) dX8_refusalOfItem_33) w (fun r505 u506 H locs h w => ?_)
          exact Ciret (pc := 36) X w h dX8_refusalOfItem_36
      · refine Caq_53 2 (by decide) (pc := 24) X w dX8_refusalOfItem_24 ?_
        refine Cgf_58_3 (pc := 25) X w kw445 dX8_refusalOfItem_25 ?_
        refine lv_if_eq (pc := 28) (tgt := 37) hx hb dX8_refusalOfItem_28 (by decide) (fun c_ => ?_) (fun c_ => ?_)
        · have h := h.1 c_
          refine lv_aload_n (pc := 37) hx hb dX8_refusalOfItem_37 rfl (lv_at hl 0 rfl) ?_
          refine Cgf_0_6 (pc := 38) X w kw435 dX8_refusalOfItem_38 ?_
          refine lv_iload_n (pc := 41) hx hb dX8_refusalOfItem_41 rfl (lv_at hl 1 rfl) ?_
          obtain ⟨j4, hj_, e_⟩ := vp_in_of h.1 (by decide)
          have h := h.2 j4 hj_ e_
          refine W.eq (g2 := F0 m 42 ls (.int (nI j4) :: .ref (ad 53) :: [])) (by rw [e_]) ?_
          clear e_
          rcases (show j4 = 0 ∨ j4 = 1 ∨ j4 = 2 ∨ j4 = 3 by omega) with rfl | rfl | rfl | rfl
          · refine Caq_53 0 (by decide) (pc := 42) X w dX8_refusalOfItem_42 ?_
            refine Cgf_54_1 (pc := 43) X w kw447 dX8_refusalOfItem_43 ?_
            refine lv_iload_n (pc := 46) hx hb dX8_refusalOfItem_46 rfl (lv_at hl 2 rfl) ?_
            refine lv_icmp_eq (pc := 47) (tgt := 56) hx hb dX8_refusalOfItem_47 (by decide) (fun c_ => ?_) (fun c_ => ?_)
            · have h := h.1 c_
              refine lv_iload_n (pc := 56) hx hb dX8_refusalOfItem_56 rfl (lv_at hl 3 rfl) ?_
              refine lv_aload_n (pc := 57) hx hb dX8_refusalOfItem_57 rfl (lv_at hl 0 rfl) ?_
              refine Cgf_0_6 (pc := 58) X w kw435 dX8_refusalOfItem_58 ?_
              refine lv_iload_n (pc := 61) hx hb dX8_refusalOfItem_61 rfl (lv_at hl 1 rfl) ?_
              obtain ⟨j5, hj_, e_⟩ := vp_in_of h.1 (by decide)
              have h := h.2 j5 hj_ e_
              refine W.eq (g2 := F0 m 62 ls (.int (nI j5) :: .ref (ad 53) :: .int a3 :: [])) (by rw [e_]) ?_
              clear e_
              rcases (show j5 = 0 ∨ j5 = 1 ∨ j5 = 2 ∨ j5 = 3 by omega) with rfl | rfl | rfl | rfl
              · refine Caq_53 0 (by decide) (pc := 62) X w dX8_refusalOfItem_62 ?_
                refine Cgf_54_2 (pc := 63) X w kw446 dX8_refusalOfItem_63 ?_
                refine Ccalli (rest := []) (CrunS (pc := 66) X w (okX8_below l hJ h) kw23 kmX8_below ⟨rfl, rfl⟩ ⟨by decide, by decide⟩ rfl hl.1 rfl (Nat.le_of_ble_eq_true rfl) dX8_refusalOfItem_66) w (fun r6 u9_ H locs h w => ?_)
                obtain ⟨hz_r6, h⟩ := h
                obtain ⟨rfl, h⟩ := h
                refine lv_if_eq (pc := 69) (tgt := 76) hx hb dX8_refusalOfItem_69 (by decide) (fun c_ => ?_) (fun c_ => ?_)
                · have h := h.1 c_
                  refine lv_aload_n (pc := 76) hx hb dX8_refusalOfItem_76 rfl (lv_at hl 0 rfl) ?_
                  refine lv_iconst (pc := 77) (v := (2 : Int32)) hx hb dX8_refusalOfItem_77 (by decide) ?_
                  refine Ccalli (rest := []) (CrunV (pc := 78) X w (okX8_found l hJ h) kw441 kmX8_found ⟨rfl, rfl⟩ ⟨by decide, by decide⟩ (Crv_0 X w) rfl hl.1 rfl (Nat.le_of_ble_eq_true rfl) dX8_refusalOfItem_78) w (fun r7 u8 H locs h w => ?_)
                  exact Ciret (pc := 81) X w h dX8_refusalOfItem_81
                · have h := h.2 c_
                  refine lv_iconst (pc := 72) (v := (0 : Int32)) hx hb dX8_refusalOfItem_72 (by decide) ?_
                  refine lv_goto (pc := 73) (tgt := 81) hx hb dX8_refusalOfItem_73 (by decide) ?_
                  exact Ciret (pc := 81) X w h dX8_refusalOfItem_81
              · refine Caq_53 1 (by decide) (pc := 62) X w dX8_refusalOfItem_62 ?_
                refine Cgf_56_2 (pc := 63) X w kw446 dX8_refusalOfItem_63 ?_
                refine Ccalli (rest := []) (CrunS (pc := 66) X w (okX8_below l hJ h) kw23 kmX8_below ⟨rfl, rfl⟩ ⟨by decide, by decide⟩ rfl hl.1 rfl (Nat.le_of_ble_eq_true rfl) dX8_refusalOfItem_66) w (fun r6 u9_ H locs h w => ?_)
                obtain ⟨hz_r6, h⟩ := h
                obtain ⟨rfl, h⟩ := h
                refine lv_if_eq (pc := 69) (tgt := 76) hx hb dX8_refusalOfItem_69 (by decide) (fun c_ => ?_) (fun c_ => ?_)
                · have h := h.1 c_
                  refine lv_aload_n (pc := 76) hx hb dX8_refusalOfItem_76 rfl (lv_at hl 0 rfl) ?_
                  refine lv_iconst (pc := 77) (v := (2 : Int32)) hx hb dX8_refusalOfItem_77 (by decide) ?_
                  refine Ccalli (rest := []) (CrunV (pc := 78) X w (okX8_found l hJ h) kw441 kmX8_found ⟨rfl, rfl⟩ ⟨by decide, by decide⟩ (Crv_0 X w) rfl hl.1 rfl (Nat.le_of_ble_eq_true rfl) dX8_refusalOfItem_78) w (fun r7 u8 H locs h w => ?_)
                  exact Ciret (pc := 81) X w h dX8_refusalOfItem_81
                · have h := h.2 c_
                  refine lv_iconst (pc := 72) (v := (0 : Int32)) hx hb dX8_refusalOfItem_72 (by decide) ?_
                  refine lv_goto (pc := 73) (tgt := 81) hx hb dX8_refusalOfItem_73 (by decide) ?_
                  exact Ciret (pc := 81) X w h dX8_refusalOfItem_81
              · refine Caq_53 2 (by decide) (pc := 62) X w dX8_refusalOfItem_62 ?_
                refine Cgf_58_2 (pc := 63) X w kw446 dX8_refusalOfItem_63 ?_
                refine Ccalli (rest := []) (CrunS (pc := 66) X w (okX8_below l hJ h) kw23 kmX8_below ⟨rfl, rfl⟩ ⟨by decide, by decide⟩ rfl hl.1 rfl (Nat.le_of_ble_eq_true rfl) dX8_refusalOfItem_66) w (fun r6 u9_ H locs h w => ?_)
                obtain ⟨hz_r6, h⟩ := h
                obtain ⟨rfl, h⟩ := h
                refine lv_if_eq (pc := 69) (tgt := 76) hx hb dX8_refusalOfItem_69 (by decide) (fun c_ => ?_) (fun c_ => ?_)
                · have h := h.1 c_
                  refine lv_aload_n (pc := 76) hx hb dX8_refusalOfItem_76 rfl (lv_at hl 0 rfl) ?_
                  refine lv_iconst (pc := 77) (v := (2 : Int32)) hx hb dX8_refusalOfItem_77 (by decide) ?_
                  refine Ccalli (rest := []) (CrunV (pc := 78) X w (okX8_found l hJ h) kw441 kmX8_found ⟨rfl, rfl⟩ ⟨by decide, by decide⟩ (Crv_0 X w) rfl hl.1 rfl (Nat.le_of_ble_eq_true rfl) dX8_refusalOfItem_78) w (fun r7 u8 H locs h w => ?_)
                  exact Ciret (pc := 81) X w h dX8_refusalOfItem_81
                · have h := h.2 c_
                  refine lv_iconst (pc := 72) (v := (0 : Int32)) hx hb dX8_refusalOfItem_72 (by decide) ?_
                  refine lv_goto (pc := 73) (tgt := 81) hx hb dX8_refusalOfItem_73 (by decide) ?_
                  exact Ciret (pc := 81) X w h dX8_refusalOfItem_81
              · refine Caq_53 3 (by decide) (pc := 62) X w dX8_refusalOfItem_62 ?_
                refine Cgf_60_2 (pc := 63) X w kw446 dX8_refusalOfItem_63 ?_
                refine Ccalli (rest := []) (CrunS (pc := 66) X w (okX8_below l hJ h) kw23 kmX8_below ⟨rfl, rfl⟩ ⟨by decide, by decide⟩ rfl hl.1 rfl (Nat.le_of_ble_eq_true rfl) dX8_refusalOfItem_66) w (fun r6 u9_ H locs h w => ?_)
                obtain ⟨hz_r6, h⟩ := h
                obtain ⟨rfl, h⟩ := h
                refine lv_if_eq (pc := 69) (tgt := 76) hx hb dX8_refusalOfItem_69 (by decide) (fun c_ => ?_) (fun c_ => ?_)
                · have h := h.1 c_
                  refine lv_aload_n (pc := 76) hx hb dX8_refusalOfItem_76 rfl (lv_at hl 0 rfl) ?_
                  refine lv_iconst (pc := 77) (v := (2 : Int32)) hx hb dX8_refusalOfItem_77 (by decide) ?_
                  refine Ccalli (rest := []) (CrunV (pc := 78) X w (okX8_found l hJ h) kw441 kmX8_found ⟨rfl, rfl⟩ ⟨by decide, by decide⟩ (Crv_0 X w) rfl hl.1 rfl (Nat.le_of_ble_eq_true rfl) dX8_refusalOfItem_78) w (fun r7 u8 H locs h w => ?_)
                  exact Ciret (pc := 81) X w h dX8_refusalOfItem_81
                · have h := h.2 c_
                  refine lv_iconst (pc := 72) (v := (0 : Int32)) hx hb dX8_refusalOfItem_72 (by decide) ?_
                  refine lv_goto (pc := 73) (tgt := 81) hx hb dX8_refusalOfItem_73 (by decide) ?_
                  exact Ciret (pc := 81) X w h dX8_refusalOfItem_81
            · have h := h.2 c_
              refine lv_aload_n (pc := 50) hx hb dX8_refusalOfItem_50 rfl (lv_at hl 0 rfl) ?_
              refine lv_iconst (pc := 51) (v := (3 : Int32)) hx hb dX8_refusalOfItem_51 (by decide) ?_
              refine Ccalli (rest := []) (CrunV (pc := 52) X w (okX8_found l hJ h) kw441 kmX8_found ⟨rfl, rfl⟩ ⟨by decide, by decide⟩ (Crv_0 X w) rfl hl.1 rfl (Nat.le_of_ble_eq_true rfl) dX8_refusalOfItem_52) w (fun r506 u507 H locs h w => ?_)
              exact Ciret (pc := 55) X w h dX8_refusalOfItem_55
          · refine Caq_53 1 (by decide) (pc := 42) X w dX8_refusalOfItem_42 ?_
            refine Cgf_56_1 (pc := 43) X w kw447 dX8_refusalOfItem_43 ?_
            refine lv_iload_n (pc := 46) hx hb dX8_refusalOfItem_46 rfl (lv_at hl 2 rfl) ?_
            refine lv_icmp_eq (pc := 47) (tgt := 56) hx hb dX8_refusalOfItem_47 (by decide) (fun c_ => ?_) (fun c_ => ?_)
            · have h := h.1 c_
              refine lv_iload_n (pc := 56) hx hb dX8_refusalOfItem_56 rfl (lv_at hl 3 rfl) ?_
              refine lv_aload_n (pc := 57) hx hb dX8_refusalOfItem_57 rfl (lv_at hl 0 rfl) ?_
              refine Cgf_0_6 (pc := 58) X w kw435 dX8_refusalOfItem_58 ?_
              refine lv_iload_n (pc := 61) hx hb dX8_refusalOfItem_61 rfl (lv_at hl 1 rfl) ?_
              obtain ⟨j5, hj_, e_⟩ := vp_in_of h.1 (by decide)
              have h := h.2 j5 hj_ e_
              refine W.eq (g2 := F0 m 62 ls (.int (nI j5) :: .ref (ad 53) :: .int a3 :: [])) (by rw [e_]) ?_
              clear e_
              rcases (show j5 = 0 ∨ j5 = 1 ∨ j5 = 2 ∨ j5 = 3 by omega) with rfl | rfl | rfl | rfl
              · refine Caq_53 0 (by decide) (pc := 62) X w dX8_refusalOfItem_62 ?_
                refine Cgf_54_2 (pc := 63) X w kw446 dX8_refusalOfItem_63 ?_
                refine Ccalli (rest := []) (CrunS (pc := 66) X w (okX8_below l hJ h) kw23 kmX8_below ⟨rfl, rfl⟩ ⟨by decide, by decide⟩ rfl hl.1 rfl (Nat.le_of_ble_eq_true rfl) dX8_refusalOfItem_66) w (fun r6 u9_ H locs h w => ?_)
                obtain ⟨hz_r6, h⟩ := h
                obtain ⟨rfl, h⟩ := h
                refine lv_if_eq (pc := 69) (tgt := 76) hx hb dX8_refusalOfItem_69 (by decide) (fun c_ => ?_) (fun c_ => ?_)
                · have h := h.1 c_
                  refine lv_aload_n (pc := 76) hx hb dX8_refusalOfItem_76 rfl (lv_at hl 0 rfl) ?_
                  refine lv_iconst (pc := 77) (v := (2 : Int32)) hx hb dX8_refusalOfItem_77 (by decide) ?_
                  refine Ccalli (rest := []) (CrunV (pc := 78) X w (okX8_found l hJ h) kw441 kmX8_found ⟨rfl, rfl⟩ ⟨by decide, by decide⟩ (Crv_0 X w) rfl hl.1 rfl (Nat.le_of_ble_eq_true rfl) dX8_refusalOfItem_78) w (fun r7 u8 H locs h w => ?_)
                  exact Ciret (pc := 81) X w h dX8_refusalOfItem_81
                · have h := h.2 c_
                  refine lv_iconst (pc := 72) (v := (0 : Int32)) hx hb dX8_refusalOfItem_72 (by decide) ?_
                  refine lv_goto (pc := 73) (tgt := 81) hx hb dX8_refusalOfItem_73 (by decide) ?_
                  exact Ciret (pc := 81) X w h dX8_refusalOfItem_81
              · refine Caq_53 1 (by decide) (pc := 62) X w dX8_refusalOfItem_62 ?_
                refine Cgf_56_2 (pc := 63) X w kw446 dX8_refusalOfItem_63 ?_
                refine Ccalli (rest := []) (CrunS (pc := 66) X w (okX8_below l hJ h) kw23 kmX8_below ⟨rfl, rfl⟩ ⟨by decide, by decide⟩ rfl hl.1 rfl (Nat.le_of_ble_eq_true rfl) dX8_refusalOfItem_66) w (fun r6 u9_ H locs h w => ?_)
                obtain ⟨hz_r6, h⟩ := h
                obtain ⟨rfl, h⟩ := h
                refine lv_if_eq (pc := 69) (tgt := 76) hx hb dX8_refusalOfItem_69 (by decide) (fun c_ => ?_) (fun c_ => ?_)
                · have h := h.1 c_
                  refine lv_aload_n (pc := 76) hx hb dX8_refusalOfItem_76 rfl (lv_at hl 0 rfl) ?_
                  refine lv_iconst (pc := 77) (v := (2 : Int32)) hx hb dX8_refusalOfItem_77 (by decide) ?_
                  refine Ccalli (rest := []) (CrunV (pc := 78) X w (okX8_found l hJ h) kw441 kmX8_found ⟨rfl, rfl⟩ ⟨by decide, by decide⟩ (Crv_0 X w) rfl hl.1 rfl (Nat.le_of_ble_eq_true rfl) dX8_refusalOfItem_78) w (fun r7 u8 H locs h w => ?_)
                  exact Ciret (pc := 81) X w h dX8_refusalOfItem_81
                · have h := h.2 c_
                  refine lv_iconst (pc := 72) (v := (0 : Int32)) hx hb dX8_refusalOfItem_72 (by decide) ?_
                  refine lv_goto (pc := 73) (tgt := 81) hx hb dX8_refusalOfItem_73 (by decide) ?_
                  exact Ciret (pc := 81) X w h dX8_refusalOfItem_81
              · refine Caq_53 2 (by decide) (pc := 62) X w dX8_refusalOfItem_62 ?_
                refine Cgf_58_2 (pc := 63) X w kw446 dX8_refusalOfItem_63 ?_
                refine Ccalli (rest := []) (CrunS (pc := 66) X w (okX8_below l hJ h) kw23 kmX8_below ⟨rfl, rfl⟩ ⟨by decide, by decide⟩ rfl hl.1 rfl (Nat.le_of_ble_eq_true rfl) dX8_refusalOfItem_66) w (fun r6 u9_ H locs h w => ?_)
                obtain ⟨hz_r6, h⟩ := h
                obtain ⟨rfl, h⟩ := h
                refine lv_if_eq (pc := 69) (tgt := 76) hx hb dX8_refusalOfItem_69 (by decide) (fun c_ => ?_) (fun c_ => ?_)
                · have h := h.1 c_
                  refine lv_aload_n (pc := 76) hx hb dX8_refusalOfItem_76 rfl (lv_at hl 0 rfl) ?_
                  refine lv_iconst (pc := 77) (v := (2 : Int32)) hx hb dX8_refusalOfItem_77 (by decide) ?_
                  refine Ccalli (rest := []) (CrunV (pc := 78) X w (okX8_found l hJ h) kw441 kmX8_found ⟨rfl, rfl⟩ ⟨by decide, by decide⟩ (Crv_0 X w) rfl hl.1 rfl (Nat.le_of_ble_eq_true rfl) dX8_refusalOfItem_78) w (fun r7 u8 H locs h w => ?_)
                  exact Ciret (pc := 81) X w h dX8_refusalOfItem_81
                · have h := h.2 c_
                  refine lv_iconst (pc := 72) (v := (0 : Int32)) hx hb dX8_refusalOfItem_72 (by decide) ?_
                  refine lv_goto (pc := 73) (tgt := 81) hx hb dX8_refusalOfItem_73 (by decide) ?_
                  exact Ciret (pc := 81) X w h dX8_refusalOfItem_81
              · refine Caq_53 3 (by decide) (pc := 62) X w dX8_refusalOfItem_62 ?_
                refine Cgf_60_2 (pc := 63) X w kw446 dX8_refusalOfItem_63 ?_
                refine Ccalli (rest := []) (CrunS (pc := 66) X w (okX8_below l hJ h) kw23 kmX8_below ⟨rfl, rfl⟩ ⟨by decide, by decide⟩ rfl hl.1 rfl (Nat.le_of_ble_eq_true rfl) dX8_refusalOfItem_66) w (fun r6 u9_ H locs h w => ?_)
                obtain ⟨hz_r6, h⟩ := h
                obtain ⟨rfl, h⟩ := h
                refine lv_if_eq (pc := 69) (tgt := 76) hx hb dX8_refusalOfItem_69 (by decide) (fun c_ => ?_) (fun c_ => ?_)
                · have h := h.1 c_
                  refine lv_aload_n (pc := 76) hx hb dX8_refusalOfItem_76 rfl (lv_at hl 0 rfl) ?_
                  refine lv_iconst (pc := 77) (v := (2 : Int32)) hx hb dX8_refusalOfItem_77 (by decide) ?_
                  refine Ccalli (rest := []) (CrunV (pc := 78) X w (okX8_found l hJ h) kw441 kmX8_found ⟨rfl, rfl⟩ ⟨by decide, by decide⟩ (Crv_0 X w) rfl hl.1 rfl (Nat.le_of_ble_eq_true rfl) dX8_refusalOfItem_78) w (fun r7 u8 H locs h w => ?_)
                  exact Ciret (pc := 81) X w h dX8_refusalOfItem_81
                · have h := h.2 c_
                  refine lv_iconst (pc := 72) (v := (0 : Int32)) hx hb dX8_refusalOfItem_72 (by decide) ?_
                  refine lv_goto (pc := 73) (tgt := 81) hx hb dX8_refusalOfItem_73 (by decide) ?_
                  exact Ciret (pc := 81) X w h dX8_refusalOfItem_81
            · have h := h.2 c_
              refine lv_aload_n (pc := 50) hx hb dX8_refusalOfItem_50 rfl (lv_at hl 0 rfl) ?_
              refine lv_iconst (pc := 51) (v := (3 : Int32)) hx hb dX8_refusalOfItem_51 (by decide) ?_
              refine Ccalli (rest := []) (CrunV (pc := 52) X w (okX8_found l hJ h) kw441 kmX8_found ⟨rfl, rfl⟩ ⟨by decide, by decide⟩ (Crv_0 X w) rfl hl.1 rfl (Nat.le_of_ble_eq_true rfl) dX8_refusalOfItem_52) w (fun r506 u507 H locs h w => ?_)
              exact Ciret (pc := 55) X w h dX8_refusalOfItem_55
          · refine Caq_53 2 (by decide) (pc := 42) X w dX8_refusalOfItem_42 ?_
            refine Cgf_58_1 (pc := 43) X w kw447 dX8_refusalOfItem_43 ?_
            refine lv_iload_n (pc := 46) hx hb dX8_refusalOfItem_46 rfl (lv_at hl 2 rfl) ?_
            refine lv_icmp_eq (pc := 47) (tgt := 56) hx hb dX8_refusalOfItem_47 (by decide) (fun c_ => ?_) (fun c_ => ?_)
            · have h := h.1 c_
              refine lv_iload_n (pc := 56) hx hb dX8_refusalOfItem_56 rfl (lv_at hl 3 rfl) ?_
              refine lv_aload_n (pc := 57) hx hb dX8_refusalOfItem_57 rfl (lv_at hl 0 rfl) ?_
              refine Cgf_0_6 (pc := 58) X w kw435 dX8_refusalOfItem_58 ?_
              refine lv_iload_n (pc := 61) hx hb dX8_refusalOfItem_61 rfl (lv_at hl 1 rfl) ?_
              obtain ⟨j5, hj_, e_⟩ := vp_in_of h.1 (by decide)
              have h := h.2 j5 hj_ e_
              refine W.eq (g2 := F0 m 62 ls (.int (nI j5) :: .ref (ad 53) :: .int a3 :: [])) (by rw [e_]) ?_
              clear e_
              rcases (show j5 = 0 ∨ j5 = 1 ∨ j5 = 2 ∨ j5 = 3 by omega) with rfl | rfl | rfl | rfl
              · refine Caq_53 0 (by decide) (pc := 62) X w dX8_refusalOfItem_62 ?_
                refine Cgf_54_2 (pc := 63) X w kw446 dX8_refusalOfItem_63 ?_
                refine Ccalli (rest := []) (CrunS (pc := 66) X w (okX8_below l hJ h) kw23 kmX8_below ⟨rfl, rfl⟩ ⟨by decide, by decide⟩ rfl hl.1 rfl (Nat.le_of_ble_eq_true rfl) dX8_refusalOfItem_66) w (fun r6 u9_ H locs h w => ?_)
                obtain ⟨hz_r6, h⟩ := h
                obtain ⟨rfl, h⟩ := h
                refine lv_if_eq (pc := 69) (tgt := 76) hx hb dX8_refusalOfItem_69 (by decide) (fun c_ => ?_) (fun c_ => ?_)
                · have h := h.1 c_
                  refine lv_aload_n (pc := 76) hx hb dX8_refusalOfItem_76 rfl (lv_at hl 0 rfl) ?_
                  refine lv_iconst (pc := 77) (v := (2 : Int32)) hx hb dX8_refusalOfItem_77 (by decide) ?_
                  refine Ccalli (rest := []) (CrunV (pc := 78) X w (okX8_found l hJ h) kw441 kmX8_found ⟨rfl, rfl⟩ ⟨by decide, by decide⟩ (Crv_0 X w) rfl hl.1 rfl (Nat.le_of_ble_eq_true rfl) dX8_refusalOfItem_78) w (fun r7 u8 H locs h w => ?_)
                  exact Ciret (pc := 81) X w h dX8_refusalOfItem_81
                · have h := h.2 c_
                  refine lv_iconst (pc := 72) (v := (0 : Int32)) hx hb dX8_refusalOfItem_72 (by decide) ?_
                  refine lv_goto (pc := 73) (tgt := 81) hx hb dX8_refusalOfItem_73 (by decide) ?_
                  exact Ciret (pc := 81) X w h dX8_refusalOfItem_81
              · refine Caq_53 1 (by decide) (pc := 62) X w dX8_refusalOfItem_62 ?_
                refine Cgf_56_2 (pc := 63) X w kw446 dX8_refusalOfItem_63 ?_
                refine Ccalli (rest := []) (CrunS (pc := 66) X w (okX8_below l hJ h) kw23 kmX8_below ⟨rfl, rfl⟩ ⟨by decide, by decide⟩ rfl hl.1 rfl (Nat.le_of_ble_eq_true rfl) dX8_refusalOfItem_66) w (fun r6 u9_ H locs h w => ?_)
                obtain ⟨hz_r6, h⟩ := h
                obtain ⟨rfl, h⟩ := h
                refine lv_if_eq (pc := 69) (tgt := 76) hx hb dX8_refusalOfItem_69 (by decide) (fun c_ => ?_) (fun c_ => ?_)
                · have h := h.1 c_
                  refine lv_aload_n (pc := 76) hx hb dX8_refusalOfItem_76 rfl (lv_at hl 0 rfl) ?_
                  refine lv_iconst (pc := 77) (v := (2 : Int32)) hx hb dX8_refusalOfItem_77 (by decide) ?_
                  refine Ccalli (rest := []) (CrunV (pc := 78) X w (okX8_found l hJ h) kw441 kmX8_found ⟨rfl, rfl⟩ ⟨by decide, by decide⟩ (Crv_0 X w) rfl hl.1 rfl (Nat.le_of_ble_eq_true rfl) dX8_refusalOfItem_78) w (fun r7 u8 H locs h w => ?_)
                  exact Ciret (pc := 81) X w h dX8_refusalOfItem_81
                · have h := h.2 c_
                  refine lv_iconst (pc := 72) (v := (0 : Int32)) hx hb dX8_refusalOfItem_72 (by decide) ?_
                  refine lv_goto (pc := 73) (tgt := 81) hx hb dX8_refusalOfItem_73 (by decide) ?_
                  exact Ciret (pc := 81) X w h dX8_refusalOfItem_81
              · refine Caq_53 2 (by decide) (pc := 62) X w dX8_refusalOfItem_62 ?_
                refine Cgf_58_2 (pc := 63) X w kw446 dX8_refusalOfItem_63 ?_
                refine Ccalli (rest := []) (CrunS (pc := 66) X w (okX8_below l hJ h) kw23 kmX8_below ⟨rfl, rfl⟩ ⟨by decide, by decide⟩ rfl hl.1 rfl (Nat.le_of_ble_eq_true rfl) dX8_refusalOfItem_66) w (fun r6 u9_ H locs h w => ?_)
                obtain ⟨hz_r6, h⟩ := h
                obtain ⟨rfl, h⟩ := h
                refine lv_if_eq (pc := 69) (tgt := 76) hx hb dX8_refusalOfItem_69 (by decide) (fun c_ => ?_) (fun c_ => ?_)
                · have h := h.1 c_
                  refine lv_aload_n (pc := 76) hx hb dX8_refusalOfItem_76 rfl (lv_at hl 0 rfl) ?_
                  refine lv_iconst (pc := 77) (v := (2 : Int32)) hx hb dX8_refusalOfItem_77 (by decide) ?_
                  refine Ccalli (rest := []) (CrunV (pc := 78) X w (okX8_found l hJ h) kw441 kmX8_found ⟨rfl, rfl⟩ ⟨by decide, by decide⟩ (Crv_0 X w) rfl hl.1 rfl (Nat.le_of_ble_eq_true rfl) dX8_refusalOfItem_78) w (fun r7 u8 H locs h w => ?_)
                  exact Ciret (pc := 81) X w h dX8_refusalOfItem_81
                · have h := h.2 c_
                  refine lv_iconst (pc := 72) (v := (0 : Int32)) hx hb dX8_refusalOfItem_72 (by decide) ?_
                  refine lv_goto (pc := 73) (tgt := 81) hx hb dX8_refusalOfItem_73 (by decide) ?_
                  exact Ciret (pc := 81) X w h dX8_refusalOfItem_81
              · refine Caq_53 3 (by decide) (pc := 62) X w dX8_refusalOfItem_62 ?_
                refine Cgf_60_2 (pc := 63) X w kw446 dX8_refusalOfItem_63 ?_
                refine Ccalli (rest := []) (CrunS (pc := 66) X w (okX8_below l hJ h) kw23 kmX8_below ⟨rfl, rfl⟩ ⟨by decide, by decide⟩ rfl hl.1 rfl (Nat.le_of_ble_eq_true rfl) dX8_refusalOfItem_66) w (fun r6 u9_ H locs h w => ?_)
                obtain ⟨hz_r6, h⟩ := h
                obtain ⟨rfl, h⟩ := h
                refine lv_if_eq (pc := 69) (tgt := 76) hx hb dX8_refusalOfItem_69 (by decide) (fun c_ => ?_) (fun c_ => ?_)
                · have h := h.1 c_
                  refine lv_aload_n (pc := 76) hx hb dX8_refusalOfItem_76 rfl (lv_at hl 0 rfl) ?_
                  refine lv_iconst (pc := 77) (v := (2 : Int32)) hx hb dX8_refusalOfItem_77 (by decide) ?_
                  refine Ccalli (rest := []) (CrunV (pc := 78) X w (okX8_found l hJ h) kw441 kmX8_found ⟨rfl, rfl⟩ ⟨by decide, by decide⟩ (Crv_0 X w) rfl hl.1 rfl (Nat.le_of_ble_eq_true rfl) dX8_refusalOfItem_78) w (fun r7 u8 H locs h w => ?_)
                  exact Ciret (pc := 81) X w h dX8_refusalOfItem_81
                · have h := h.2 c_
                  refine lv_iconst (pc := 72) (v := (0 : Int32)) hx hb dX8_refusalOfItem_72 (by decide) ?_
                  refine lv_goto (pc := 73) (tgt := 81) hx hb dX8_refusalOfItem_73 (by decide) ?_
                  exact Ciret (pc := 81) X w h dX8_refusalOfItem_81
            · have h := h.2 c_
              refine lv_aload_n (pc := 50) hx hb dX8_refusalOfItem_50 rfl (lv_at hl 0 rfl) ?_
              refine lv_iconst (pc := 51) (v := (3 : Int32)) hx hb dX8_refusalOfItem_51 (by decide) ?_
              refine Ccalli (rest := []) (CrunV (pc := 52) X w (okX8_found l hJ h) kw441 kmX8_found ⟨rfl, rfl⟩ ⟨by decide, by decide⟩ (Crv_0 X w) rfl hl.1 rfl (Nat.le_of_ble_eq_true rfl) dX8_refusalOfItem_52) w (fun r506 u507 H locs h w => ?_)
              exact Ciret (pc := 55) X w h dX8_refusalOfItem_55
          · refine Caq_53 3 (by decide) (pc := 42) X w dX8_refusalOfItem_42 ?_
            refine Cgf_60_1 (pc := 43) X w kw447 dX8_refusalOfItem_43 ?_
            refine lv_iload_n (pc := 46) hx hb dX8_refusalOfItem_46 rfl (lv_at hl 2 rfl) ?_
            refine lv_icmp_eq (pc := 47) (tgt := 56) hx hb dX8_refusalOfItem_47 (by decide) (fun c_ => ?_) (fun c_ => ?_)
            · have h := h.1 c_
              refine lv_iload_n (pc := 56) hx hb dX8_refusalOfItem_56 rfl (lv_at hl 3 rfl) ?_
              refine lv_aload_n (pc := 57) hx hb dX8_refusalOfItem_57 rfl (lv_at hl 0 rfl) ?_
              refine Cgf_0_6 (pc := 58) X w kw435 dX8_refusalOfItem_58 ?_
              refine lv_iload_n (pc := 61) hx hb dX8_refusalOfItem_61 rfl (lv_at hl 1 rfl) ?_
              obtain ⟨j5, hj_, e_⟩ := vp_in_of h.1 (by decide)
              have h := h.2 j5 hj_ e_
              refine W.eq (g2 := F0 m 62 ls (.int (nI j5) :: .ref (ad 53) :: .int a3 :: [])) (by rw [e_]) ?_
              clear e_
              rcases (show j5 = 0 ∨ j5 = 1 ∨ j5 = 2 ∨ j5 = 3 by omega) with rfl | rfl | rfl | rfl
              · refine Caq_53 0 (by decide) (pc := 62) X w dX8_refusalOfItem_62 ?_
                refine Cgf_54_2 (pc := 63) X w kw446 dX8_refusalOfItem_63 ?_
                refine Ccalli (rest := []) (CrunS (pc := 66) X w (okX8_below l hJ h) kw23 kmX8_below ⟨rfl, rfl⟩ ⟨by decide, by decide⟩ rfl hl.1 rfl (Nat.le_of_ble_eq_true rfl) dX8_refusalOfItem_66) w (fun r6 u9_ H locs h w => ?_)
                obtain ⟨hz_r6, h⟩ := h
                obtain ⟨rfl, h⟩ := h
                refine lv_if_eq (pc := 69) (tgt := 76) hx hb dX8_refusalOfItem_69 (by decide) (fun c_ => ?_) (fun c_ => ?_)
                · have h := h.1 c_
                  refine lv_aload_n (pc := 76) hx hb dX8_refusalOfItem_76 rfl (lv_at hl 0 rfl) ?_
                  refine lv_iconst (pc := 77) (v := (2 : Int32)) hx hb dX8_refusalOfItem_77 (by decide) ?_
                  refine Ccalli (rest := []) (CrunV (pc := 78) X w (okX8_found l hJ h) kw441 kmX8_found ⟨rfl, rfl⟩ ⟨by decide, by decide⟩ (Crv_0 X w) rfl hl.1 rfl (Nat.le_of_ble_eq_true rfl) dX8_refusalOfItem_78) w (fun r7 u8 H locs h w => ?_)
                  exact Ciret (pc := 81) X w h dX8_refusalOfItem_81
                · have h := h.2 c_
                  refine lv_iconst (pc := 72) (v := (0 : Int32)) hx hb dX8_refusalOfItem_72 (by decide) ?_
                  refine lv_goto (pc := 73) (tgt := 81) hx hb dX8_refusalOfItem_73 (by decide) ?_
                  exact Ciret (pc := 81) X w h dX8_refusalOfItem_81
              · refine Caq_53 1 (by decide) (pc := 62) X w dX8_refusalOfItem_62 ?_
                refine Cgf_56_2 (pc := 63) X w kw446 dX8_refusalOfItem_63 ?_
                refine Ccalli (rest := []) (CrunS (pc := 66) X w (okX8_below l hJ h) kw23 kmX8_below ⟨rfl, rfl⟩ ⟨by decide, by decide⟩ rfl hl.1 rfl (Nat.le_of_ble_eq_true rfl) dX8_refusalOfItem_66) w (fun r6 u9_ H locs h w => ?_)
                obtain ⟨hz_r6, h⟩ := h
                obtain ⟨rfl, h⟩ := h
                refine lv_if_eq (pc := 69) (tgt := 76) hx hb dX8_refusalOfItem_69 (by decide) (fun c_ => ?_) (fun c_ => ?_)
                · have h := h.1 c_
                  refine lv_aload_n (pc := 76) hx hb dX8_refusalOfItem_76 rfl (lv_at hl 0 rfl) ?_
                  refine lv_iconst (pc := 77) (v := (2 : Int32)) hx hb dX8_refusalOfItem_77 (by decide) ?_
                  refine Ccalli (rest := []) (CrunV (pc := 78) X w (okX8_found l hJ h) kw441 kmX8_found ⟨rfl, rfl⟩ ⟨by decide, by decide⟩ (Crv_0 X w) rfl hl.1 rfl (Nat.le_of_ble_eq_true rfl) dX8_refusalOfItem_78) w (fun r7 u8 H locs h w => ?_)
                  exact Ciret (pc := 81) X w h dX8_refusalOfItem_81
                · have h := h.2 c_
                  refine lv_iconst (pc := 72) (v := (0 : Int32)) hx hb dX8_refusalOfItem_72 (by decide) ?_
                  refine lv_goto (pc := 73) (tgt := 81) hx hb dX8_refusalOfItem_73 (by decide) ?_
                  exact Ciret (pc := 81) X w h dX8_refusalOfItem_81
              · refine Caq_53 2 (by decide) (pc := 62) X w dX8_refusalOfItem_62 ?_
                refine Cgf_58_2 (pc := 63) X w kw446 dX8_refusalOfItem_63 ?_
                refine Ccalli (rest := []) (CrunS (pc := 66) X w (okX8_below l hJ h) kw23 kmX8_below ⟨rfl, rfl⟩ ⟨by decide, by decide⟩ rfl hl.1 rfl (Nat.le_of_ble_eq_true rfl) dX8_refusalOfItem_66) w (fun r6 u9_ H locs h w => ?_)
                obtain ⟨hz_r6, h⟩ := h
                obtain ⟨rfl, h⟩ := h
                refine lv_if_eq (pc := 69) (tgt := 76) hx hb dX8_refusalOfItem_69 (by decide) (fun c_ => ?_) (fun c_ => ?_)
                · have h := h.1 c_
                  refine lv_aload_n (pc := 76) hx hb dX8_refusalOfItem_76 rfl (lv_at hl 0 rfl) ?_
                  refine lv_iconst (pc := 77) (v := (2 : Int32)) hx hb dX8_refusalOfItem_77 (by decide) ?_
                  refine Ccalli (rest := []) (CrunV (pc := 78) X w (okX8_found l hJ h) kw441 kmX8_found ⟨rfl, rfl⟩ ⟨by decide, by decide⟩ (Crv_0 X w) rfl hl.1 rfl (Nat.le_of_ble_eq_true rfl) dX8_refusalOfItem_78) w (fun r7 u8 H locs h w => ?_)
                  exact Ciret (pc := 81) X w h dX8_refusalOfItem_81
                · have h := h.2 c_
                  refine lv_iconst (pc := 72) (v := (0 : Int32)) hx hb dX8_refusalOfItem_72 (by decide) ?_
                  refine lv_goto (pc := 73) (tgt := 81) hx hb dX8_refusalOfItem_73 (by decide) ?_
                  exact Ciret (pc := 81) X w h dX8_refusalOfItem_81
              · refine Caq_53 3 (by decide) (pc := 62) X w dX8_refusalOfItem_62 ?_
                refine Cgf_60_2 (pc := 63) X w kw446 dX8_refusalOfItem_63 ?_
                refine Ccalli (rest := []) (CrunS (pc := 66) X w (okX8_below l hJ h) kw23 kmX8_below ⟨rfl, rfl⟩ ⟨by decide, by decide⟩ rfl hl.1 rfl (Nat.le_of_ble_eq_true rfl) dX8_refusalOfItem_66) w (fun r6 u9_ H locs h w => ?_)
                obtain ⟨hz_r6, h⟩ := h
                obtain ⟨rfl, h⟩ := h
                refine lv_if_eq (pc := 69) (tgt := 76) hx hb dX8_refusalOfItem_69 (by decide) (fun c_ => ?_) (fun c_ => ?_)
                · have h := h.1 c_
                  refine lv_aload_n (pc := 76) hx hb dX8_refusalOfItem_76 rfl (lv_at hl 0 rfl) ?_
                  refine lv_iconst (pc := 77) (v := (2 : Int32)) hx hb dX8_refusalOfItem_77 (by decide) ?_
                  refine Ccalli (rest := []) (CrunV (pc := 78) X w (okX8_found l hJ h) kw441 kmX8_found ⟨rfl, rfl⟩ ⟨by decide, by decide⟩ (Crv_0 X w) rfl hl.1 rfl (Nat.le_of_ble_eq_true rfl) dX8_refusalOfItem_78) w (fun r7 u8 H locs h w => ?_)
                  exact Ciret (pc := 81) X w h dX8_refusalOfItem_81
                · have h := h.2 c_
                  refine lv_iconst (pc := 72) (v := (0 : Int32)) hx hb dX8_refusalOfItem_72 (by decide) ?_
                  refine lv_goto (pc := 73) (tgt := 81) hx hb dX8_refusalOfItem_73 (by decide) ?_
                  exact Ciret (pc := 81) X w h dX8_refusalOfItem_81
            · have h := h.2 c_
              refine lv_aload_n (pc := 50) hx hb dX8_refusalOfItem_50 rfl (lv_at hl 0 rfl) ?_
              refine lv_iconst (pc := 51) (v := (3 : Int32)) hx hb dX8_refusalOfItem_51 (by decide) ?_
              refine Ccalli (rest := []) (CrunV (pc := 52) X w (okX8_found l hJ h) kw441 kmX8_found ⟨rfl, rfl⟩ ⟨by decide, by decide⟩ (Crv_0 X w) rfl hl.1 rfl (Nat.le_of_ble_eq_true rfl) dX8_refusalOfItem_52) w (fun r506 u507 H locs h w => ?_)
              exact Ciret (pc := 55) X w h dX8_refusalOfItem_55
        · have h := h.2 c_
          refine lv_aload_n (pc := 31) hx hb dX8_refusalOfItem_31 rfl (lv_at hl 0 rfl) ?_
          refine lv_iconst (pc := 32) (v := (1 : Int32)) hx hb dX8_refusalOfItem_32 (by decide) ?_
          refine Ccalli (rest := []) (CrunV (pc := 33) X w (okX8_found l hJ h) kw441 kmX8_found ⟨rfl, rfl⟩ ⟨by decide, by decide⟩ (Crv_0 X w) rfl hl.1 rfl (Nat.le_of_ble_eq_true rfl) dX8_refusalOfItem_33) w (fun r505 u506 H locs h w => ?_)
          exact Ciret (pc := 36) X w h dX8_refusalOfItem_36
      · refine Caq_53 3 (by decide) (pc := 24) X w dX8_refusalOfItem_24 ?_
        refine Cgf_60_3 (pc := 25) X w kw445 dX8_refusalOfItem_25 ?_
        refine lv_if_eq (pc := 28) (tgt := 37) hx hb dX8_refusalOfItem_28 (by decide) (fun c_ => ?_) (fun c_ => ?_)
        · have h := h.1 c_
          refine lv_aload_n (pc := 37) hx hb dX8_refusalOfItem_37 rfl (lv_at hl 0 rfl) ?_
          refine Cgf_0_6 (pc := 38) X w kw435 dX8_refusalOfItem_38 ?_
          refine lv_iload_n (pc := 41) hx hb dX8_refusalOfItem_41 rfl (lv_at hl 1 rfl) ?_
          obtain ⟨j4, hj_, e_⟩ := vp_in_of h.1 (by decide)
          have h := h.2 j4 hj_ e_
          refine W.eq (g2 := F0 m 42 ls (.int (nI j4) :: .ref (ad 53) :: [])) (by rw [e_]) ?_
          clear e_
          rcases (show j4 = 0 ∨ j4 = 1 ∨ j4 = 2 ∨ j4 = 3 by omega) with rfl | rfl | rfl | rfl
          · refine Caq_53 0 (by decide) (pc := 42) X w dX8_refusalOfItem_42 ?_
            refine Cgf_54_1 (pc := 43) X w kw447 dX8_refusalOfItem_43 ?_
            refine lv_iload_n (pc := 46) hx hb dX8_refusalOfItem_46 rfl (lv_at hl 2 rfl) ?_
            refine lv_icmp_eq (pc := 47) (tgt := 56) hx hb dX8_refusalOfItem_47 (by decide) (fun c_ => ?_) (fun c_ => ?_)
            · have h := h.1 c_
              refine lv_iload_n (pc := 56) hx hb dX8_refusalOfItem_56 rfl (lv_at hl 3 rfl) ?_
              refine lv_aload_n (pc := 57) hx hb dX8_refusalOfItem_57 rfl (lv_at hl 0 rfl) ?_
              refine Cgf_0_6 (pc := 58) X w kw435 dX8_refusalOfItem_58 ?_
              refine lv_iload_n (pc := 61) hx hb dX8_refusalOfItem_61 rfl (lv_at hl 1 rfl) ?_
              obtain ⟨j5, hj_, e_⟩ := vp_in_of h.1 (by decide)
              have h := h.2 j5 hj_ e_
              refine W.eq (g2 := F0 m 62 ls (.int (nI j5) :: .ref (ad 53) :: .int a3 :: [])) (by rw [e_]) ?_
              clear e_
              rcases (show j5 = 0 ∨ j5 = 1 ∨ j5 = 2 ∨ j5 = 3 by omega) with rfl | rfl | rfl | rfl
              · refine Caq_53 0 (by decide) (pc := 62) X w dX8_refusalOfItem_62 ?_
                refine Cgf_54_2 (pc := 63) X w kw446 dX8_refusalOfItem_63 ?_
                refine Ccalli (rest := []) (CrunS (pc := 66) X w (okX8_below l hJ h) kw23 kmX8_below ⟨rfl, rfl⟩ ⟨by decide, by decide⟩ rfl hl.1 rfl (Nat.le_of_ble_eq_true rfl) dX8_refusalOfItem_66) w (fun r6 u9_ H locs h w => ?_)
                obtain ⟨hz_r6, h⟩ := h
                obtain ⟨rfl, h⟩ := h
                refine lv_if_eq (pc := 69) (tgt := 76) hx hb dX8_refusalOfItem_69 (by decide) (fun c_ => ?_) (fun c_ => ?_)
                · have h := h.1 c_
                  refine lv_aload_n (pc := 76) hx hb dX8_refusalOfItem_76 rfl (lv_at hl 0 rfl) ?_
                  refine lv_iconst (pc := 77) (v := (2 : Int32)) hx hb dX8_refusalOfItem_77 (by decide) ?_
                  refine Ccalli (rest := []) (CrunV (pc := 78) X w (okX8_found l hJ h) kw441 kmX8_found ⟨rfl, rfl⟩ ⟨by decide, by decide⟩ (Crv_0 X w) rfl hl.1 rfl (Nat.le_of_ble_eq_true rfl) dX8_refusalOfItem_78) w (fun r7 u8 H locs h w => ?_)
                  exact Ciret (pc := 81) X w h dX8_refusalOfItem_81
                · have h := h.2 c_
                  refine lv_iconst (pc := 72) (v := (0 : Int32)) hx hb dX8_refusalOfItem_72 (by decide) ?_
                  refine lv_goto (pc := 73) (tgt := 81) hx hb dX8_refusalOfItem_73 (by decide) ?_
                  exact Ciret (pc := 81) X w h dX8_refusalOfItem_81
              · refine Caq_53 1 (by decide) (pc := 62) X w dX8_refusalOfItem_62 ?_
                refine Cgf_56_2 (pc := 63) X w kw446 dX8_refusalOfItem_63 ?_
                refine Ccalli (rest := []) (CrunS (pc := 66) X w (okX8_below l hJ h) kw23 kmX8_below ⟨rfl, rfl⟩ ⟨by decide, by decide⟩ rfl hl.1 rfl (Nat.le_of_ble_eq_true rfl) dX8_refusalOfItem_66) w (fun r6 u9_ H locs h w => ?_)
                obtain ⟨hz_r6, h⟩ := h
                obtain ⟨rfl, h⟩ := h
                refine lv_if_eq (pc := 69) (tgt := 76) hx hb dX8_refusalOfItem_69 (by decide) (fun c_ => ?_) (fun c_ => ?_)
                · have h := h.1 c_
                  refine lv_aload_n (pc := 76) hx hb dX8_refusalOfItem_76 rfl (lv_at hl 0 rfl) ?_
                  refine lv_iconst (pc := 77) (v := (2 : Int32)) hx hb dX8_refusalOfItem_77 (by decide) ?_
                  refine Ccalli (rest := []) (CrunV (pc := 78) X w (okX8_found l hJ h) kw441 kmX8_found ⟨rfl, rfl⟩ ⟨by decide, by decide⟩ (Crv_0 X w) rfl hl.1 rfl (Nat.le_of_ble_eq_true rfl) dX8_refusalOfItem_78) w (fun r7 u8 H locs h w => ?_)
                  exact Ciret (pc := 81) X w h dX8_refusalOfItem_81
                · have h := h.2 c_
                  refine lv_iconst (pc := 72) (v := (0 : Int32)) hx hb dX8_refusalOfItem_72 (by decide) ?_
                  refine lv_goto (pc := 73) (tgt := 81) hx hb dX8_refusalOfItem_73 (by decide) ?_
                  exact Ciret (pc := 81) X w h dX8_refusalOfItem_81
              · refine Caq_53 2 (by decide) (pc := 62) X w dX8_refusalOfItem_62 ?_
                refine Cgf_58_2 (pc := 63) X w kw446 dX8_refusalOfItem_63 ?_
                refine Ccalli (rest := []) (CrunS (pc := 66) X w (okX8_below l hJ h) kw23 kmX8_below ⟨rfl, rfl⟩ ⟨by decide, by decide⟩ rfl hl.1 rfl (Nat.le_of_ble_eq_true rfl) dX8_refusalOfItem_66) w (fun r6 u9_ H locs h w => ?_)
                obtain ⟨hz_r6, h⟩ := h
                obtain ⟨rfl, h⟩ := h
                refine lv_if_eq (pc := 69) (tgt := 76) hx hb dX8_refusalOfItem_69 (by decide) (fun c_ => ?_) (fun c_ => ?_)
                · have h := h.1 c_
                  refine lv_aload_n (pc := 76) hx hb dX8_refusalOfItem_76 rfl (lv_at hl 0 rfl) ?_
                  refine lv_iconst (pc := 77) (v := (2 : Int32)) hx hb dX8_refusalOfItem_77 (by decide) ?_
                  refine Ccalli (rest := []) (CrunV (pc := 78) X w (okX8_found l hJ h) kw441 kmX8_found ⟨rfl, rfl⟩ ⟨by decide, by decide⟩ (Crv_0 X w) rfl hl.1 rfl (Nat.le_of_ble_eq_true rfl) dX8_refusalOfItem_78) w (fun r7 u8 H locs h w => ?_)
                  exact Ciret (pc := 81) X w h dX8_refusalOfItem_81
                · have h := h.2 c_
                  refine lv_iconst (pc := 72) (v := (0 : Int32)) hx hb dX8_refusalOfItem_72 (by decide) ?_
                  refine lv_goto (pc := 73) (tgt := 81) hx hb dX8_refusalOfItem_73 (by decide) ?_
                  exact Ciret (pc := 81) X w h dX8_refusalOfItem_81
              · refine Caq_53 3 (by decide) (pc := 62) X w dX8_refusalOfItem_62 ?_
                refine Cgf_60_2 (pc := 63) X w kw446 dX8_refusalOfItem_63 ?_
                refine Ccalli (rest := []) (CrunS (pc := 66) X w (okX8_below l hJ h) kw23 kmX8_below ⟨rfl, rfl⟩ ⟨by decide, by decide⟩ rfl hl.1 rfl (Nat.le_of_ble_eq_true rfl) dX8_refusalOfItem_66) w (fun r6 u9_ H locs h w => ?_)
                obtain ⟨hz_r6, h⟩ := h
                obtain ⟨rfl, h⟩ := h
                refine lv_if_eq (pc := 69) (tgt := 76) hx hb dX8_refusalOfItem_69 (by decide) (fun c_ => ?_) (fun c_ => ?_)
                · have h := h.1 c_
                  refine lv_aload_n (pc := 76) hx hb dX8_refusalOfItem_76 rfl (lv_at hl 0 rfl) ?_
                  refine lv_iconst (pc := 77) (v := (2 : Int32)) hx hb dX8_refusalOfItem_77 (by decide) ?_
                  refine Ccalli (rest := []) (CrunV (pc := 78) X w (okX8_found l hJ h) kw441 kmX8_found ⟨rfl, rfl⟩ ⟨by decide, by decide⟩ (Crv_0 X w) rfl hl.1 rfl (Nat.le_of_ble_eq_true rfl) dX8_refusalOfItem_78) w (fun r7 u8 H locs h w => ?_)
                  exact Ciret (pc := 81) X w h dX8_refusalOfItem_81
                · have h := h.2 c_
                  refine lv_iconst (pc := 72) (v := (0 : Int32)) hx hb dX8_refusalOfItem_72 (by decide) ?_
                  refine lv_goto (pc := 73) (tgt := 81) hx hb dX8_refusalOfItem_73 (by decide) ?_
                  exact Ciret (pc := 81) X w h dX8_refusalOfItem_81
            · have h := h.2 c_
              refine lv_aload_n (pc := 50) hx hb dX8_refusalOfItem_50 rfl (lv_at hl 0 rfl) ?_
              refine lv_iconst (pc := 51) (v := (3 : Int32)) hx hb dX8_refusalOfItem_51 (by decide) ?_
              refine Ccalli (rest := []) (CrunV (pc := 52) X w (okX8_found l hJ h) kw441 kmX8_found ⟨rfl, rfl⟩ ⟨by decide, by decide⟩ (Crv_0 X w) rfl hl.1 rfl (Nat.le_of_ble_eq_true rfl) dX8_refusalOfItem_52) w (fun r506 u507 H locs h w => ?_)
              exact Ciret (pc := 55) X w h dX8_refusalOfItem_55
          · refine Caq_53 1 (by decide) (pc := 42) X w dX8_refusalOfItem_42 ?_
            refine Cgf_56_1 (pc := 43) X w kw447 dX8_refusalOfItem_43 ?_
            refine lv_iload_n (pc := 46) hx hb dX8_refusalOfItem_46 rfl (lv_at hl 2 rfl) ?_
            refine lv_icmp_eq (pc := 47) (tgt := 56) hx hb dX8_refusalOfItem_47 (by decide) (fun c_ => ?_) (fun c_ => ?_)
            · have h := h.1 c_
              refine lv_iload_n (pc := 56) hx hb dX8_refusalOfItem_56 rfl (lv_at hl 3 rfl) ?_
              refine lv_aload_n (pc := 57) hx hb dX8_refusalOfItem_57 rfl (lv_at hl 0 rfl) ?_
              refine Cgf_0_6 (pc := 58) X w kw435 dX8_refusalOfItem_58 ?_
              refine lv_iload_n (pc := 61) hx hb dX8_refusalOfItem_61 rfl (lv_at hl 1 rfl) ?_
              obtain ⟨j5, hj_, e_⟩ := vp_in_of h.1 (by decide)
              have h := h.2 j5 hj_ e_
              refine W.eq (g2 := F0 m 62 ls (.int (nI j5) :: .ref (ad 53) :: .int a3 :: [])) (by rw [e_]) ?_
              clear e_
              rcases (show j5 = 0 ∨ j5 = 1 ∨ j5 = 2 ∨ j5 = 3 by omega) with rfl | rfl | rfl | rfl
              · refine Caq_53 0 (by decide) (pc := 62) X w dX8_refusalOfItem_62 ?_
                refine Cgf_54_2 (pc := 63) X w kw446 dX8_refusalOfItem_63 ?_
                refine Ccalli (rest := []) (CrunS (pc := 66) X w (okX8_below l hJ h) kw23 kmX8_below ⟨rfl, rfl⟩ ⟨by decide, by decide⟩ rfl hl.1 rfl (Nat.le_of_ble_eq_true rfl) dX8_refusalOfItem_66) w (fun r6 u9_ H locs h w => ?_)
                obtain ⟨hz_r6, h⟩ := h
                obtain ⟨rfl, h⟩ := h
                refine lv_if_eq (pc := 69) (tgt := 76) hx hb dX8_refusalOfItem_69 (by decide) (fun c_ => ?_) (fun c_ => ?_)
                · have h := h.1 c_
                  refine lv_aload_n (pc := 76) hx hb dX8_refusalOfItem_76 rfl (lv_at hl 0 rfl) ?_
                  refine lv_iconst (pc := 77) (v := (2 : Int32)) hx hb dX8_refusalOfItem_77 (by decide) ?_
                  refine Ccalli (rest := []) (CrunV (pc := 78) X w (okX8_found l hJ h) kw441 kmX8_found ⟨rfl, rfl⟩ ⟨by decide, by decide⟩ (Crv_0 X w) rfl hl.1 rfl (Nat.le_of_ble_eq_true rfl) dX8_refusalOfItem_78) w (fun r7 u8 H locs h w => ?_)
                  exact Ciret (pc := 81) X w h dX8_refusalOfItem_81
                · have h := h.2 c_
                  refine lv_iconst (pc := 72) (v := (0 : Int32)) hx hb dX8_refusalOfItem_72 (by decide) ?_
                  refine lv_goto (pc := 73) (tgt := 81) hx hb dX8_refusalOfItem_73 (by decide) ?_
                  exact Ciret (pc := 81) X w h dX8_refusalOfItem_81
              · refine Caq_53 1 (by decide) (pc := 62) X w dX8_refusalOfItem_62 ?_
                refine Cgf_56_2 (pc := 63) X w kw446 dX8_refusalOfItem_63 ?_
                refine Ccalli (rest := []) (CrunS (pc := 66) X w (okX8_below l hJ h) kw23 kmX8_below ⟨rfl, rfl⟩ ⟨by decide, by decide⟩ rfl hl.1 rfl (Nat.le_of_ble_eq_true rfl) dX8_refusalOfItem_66) w (fun r6 u9_ H locs h w => ?_)
                obtain ⟨hz_r6, h⟩ := h
                obtain ⟨rfl, h⟩ := h
                refine lv_if_eq (pc := 69) (tgt := 76) hx hb dX8_refusalOfItem_69 (by decide) (fun c_ => ?_) (fun c_ => ?_)
                · have h := h.1 c_
                  refine lv_aload_n (pc := 76) hx hb dX8_refusalOfItem_76 rfl (lv_at hl 0 rfl) ?_
                  refine lv_iconst (pc := 77) (v := (2 : Int32)) hx hb dX8_refusalOfItem_77 (by decide) ?_
                  refine Ccalli (rest := []) (CrunV (pc := 78) X w (okX8_found l hJ h) kw441 kmX8_found ⟨rfl, rfl⟩ ⟨by decide, by decide⟩ (Crv_0 X w) rfl hl.1 rfl (Nat.le_of_ble_eq_true rfl) dX8_refusalOfItem_78) w (fun r7 u8 H locs h w => ?_)
                  exact Ciret (pc := 81) X w h dX8_refusalOfItem_81
                · have h := h.2 c_
                  refine lv_iconst (pc := 72) (v := (0 : Int32)) hx hb dX8_refusalOfItem_72 (by decide) ?_
                  refine lv_goto (pc := 73) (tgt := 81) hx hb dX8_refusalOfItem_73 (by decide) ?_
                  exact Ciret (pc := 81) X w h dX8_refusalOfItem_81
              · refine Caq_53 2 (by decide) (pc := 62) X w dX8_refusalOfItem_62 ?_
                refine Cgf_58_2 (pc := 63) X w kw446 dX8_refusalOfItem_63 ?_
                refine Ccalli (rest := []) (CrunS (pc := 66) X w (okX8_below l hJ h) kw23 kmX8_below ⟨rfl, rfl⟩ ⟨by decide, by decide⟩ rfl hl.1 rfl (Nat.le_of_ble_eq_true rfl) dX8_refusalOfItem_66) w (fun r6 u9_ H locs h w => ?_)
                obtain ⟨hz_r6, h⟩ := h
                obtain ⟨rfl, h⟩ := h
                refine lv_if_eq (pc := 69) (tgt := 76) hx hb dX8_refusalOfItem_69 (by decide) (fun c_ => ?_) (fun c_ => ?_)
                · have h := h.1 c_
                  refine lv_aload_n (pc := 76) hx hb dX8_refusalOfItem_76 rfl (lv_at hl 0 rfl) ?_
                  refine lv_iconst (pc := 77) (v := (2 : Int32)) hx hb dX8_refusalOfItem_77 (by decide) ?_
                  refine Ccalli (rest := []) (CrunV (pc := 78) X w (okX8_found l hJ h) kw441 kmX8_found ⟨rfl, rfl⟩ ⟨by decide, by decide⟩ (Crv_0 X w) rfl hl.1 rfl (Nat.le_of_ble_eq_true rfl) dX8_refusalOfItem_78) w (fun r7 u8 H locs h w => ?_)
                  exact Ciret (pc := 81) X w h dX8_refusalOfItem_81
                · have h := h.2 c_
                  refine lv_iconst (pc := 72) (v := (0 : Int32)) hx hb dX8_refusalOfItem_72 (by decide) ?_
                  refine lv_goto (pc := 73) (tgt := 81) hx hb dX8_refusalOfItem_73 (by decide) ?_
                  exact Ciret (pc := 81) X w h dX8_refusalOfItem_81
              · refine Caq_53 3 (by decide) (pc := 62) X w dX8_refusalOfItem_62 ?_
                refine Cgf_60_2 (pc := 63) X w kw446 dX8_refusalOfItem_63 ?_
                refine Ccalli (rest := []) (CrunS (pc := 66) X w (okX8_below l hJ h) kw23 kmX8_below ⟨rfl, rfl⟩ ⟨by decide, by decide⟩ rfl hl.1 rfl (Nat.le_of_ble_eq_true rfl) dX8_refusalOfItem_66) w (fun r6 u9_ H locs h w => ?_)
                obtain ⟨hz_r6, h⟩ := h
                obtain ⟨rfl, h⟩ := h
                refine lv_if_eq (pc := 69) (tgt := 76) hx hb dX8_refusalOfItem_69 (by decide) (fun c_ => ?_) (fun c_ => ?_)
                · have h := h.1 c_
                  refine lv_aload_n (pc := 76) hx hb dX8_refusalOfItem_76 rfl (lv_at hl 0 rfl) ?_
                  refine lv_iconst (pc := 77) (v := (2 : Int32)) hx hb dX8_refusalOfItem_77 (by decide) ?_
                  refine Ccalli (rest := []) (CrunV (pc := 78) X w (okX8_found l hJ h) kw441 kmX8_found ⟨rfl, rfl⟩ ⟨by decide, by decide⟩ (Crv_0 X w) rfl hl.1 rfl (Nat.le_of_ble_eq_true rfl) dX8_refusalOfItem_78) w (fun r7 u8 H locs h w => ?_)
                  exact Ciret (pc := 81) X w h dX8_refusalOfItem_81
                · have h := h.2 c_
                  refine lv_iconst (pc := 72) (v := (0 : Int32)) hx hb dX8_refusalOfItem_72 (by decide) ?_
                  refine lv_goto (pc := 73) (tgt := 81) hx hb dX8_refusalOfItem_73 (by decide) ?_
                  exact Ciret (pc := 81) X w h dX8_refusalOfItem_81
            · have h := h.2 c_
              refine lv_aload_n (pc := 50) hx hb dX8_refusalOfItem_50 rfl (lv_at hl 0 rfl) ?_
              refine lv_iconst (pc := 51) (v := (3 : Int32)) hx hb dX8_refusalOfItem_51 (by decide) ?_
              refine Ccalli (rest := []) (CrunV (pc := 52) X w (okX8_found l hJ h) kw441 kmX8_found ⟨rfl, rfl⟩ ⟨by decide, by decide⟩ (Crv_0 X w) rfl hl.1 rfl (Nat.le_of_ble_eq_true rfl) dX8_refusalOfItem_52) w (fun r506 u507 H locs h w => ?_)
              exact Ciret (pc := 55) X w h dX8_refusalOfItem_55
          · refine Caq_53 2 (by decide) (pc := 42) X w dX8_refusalOfItem_42 ?_
            refine Cgf_58_1 (pc := 43) X w kw447 dX8_refusalOfItem_43 ?_
            refine lv_iload_n (pc := 46) hx hb dX8_refusalOfItem_46 rfl (lv_at hl 2 rfl) ?_
            refine lv_icmp_eq (pc := 47) (tgt := 56) hx hb dX8_refusalOfItem_47 (by decide) (fun c_ => ?_) (fun c_ => ?_)
            · have h := h.1 c_
              refine lv_iload_n (pc := 56) hx hb dX8_refusalOfItem_56 rfl (lv_at hl 3 rfl) ?_
              refine lv_aload_n (pc := 57) hx hb dX8_refusalOfItem_57 rfl (lv_at hl 0 rfl) ?_
              refine Cgf_0_6 (pc := 58) X w kw435 dX8_refusalOfItem_58 ?_
              refine lv_iload_n (pc := 61) hx hb dX8_refusalOfItem_61 rfl (lv_at hl 1 rfl) ?_
              obtain ⟨j5, hj_, e_⟩ := vp_in_of h.1 (by decide)
              have h := h.2 j5 hj_ e_
              refine W.eq (g2 := F0 m 62 ls (.int (nI j5) :: .ref (ad 53) :: .int a3 :: [])) (by rw [e_]) ?_
              clear e_
              rcases (show j5 = 0 ∨ j5 = 1 ∨ j5 = 2 ∨ j5 = 3 by omega) with rfl | rfl | rfl | rfl
              · refine Caq_53 0 (by decide) (pc := 62) X w dX8_refusalOfItem_62 ?_
                refine Cgf_54_2 (pc := 63) X w kw446 dX8_refusalOfItem_63 ?_
                refine Ccalli (rest := []) (CrunS (pc := 66) X w (okX8_below l hJ h) kw23 kmX8_below ⟨rfl, rfl⟩ ⟨by decide, by decide⟩ rfl hl.1 rfl (Nat.le_of_ble_eq_true rfl) dX8_refusalOfItem_66) w (fun r6 u9_ H locs h w => ?_)
                obtain ⟨hz_r6, h⟩ := h
                obtain ⟨rfl, h⟩ := h
                refine lv_if_eq (pc := 69) (tgt := 76) hx hb dX8_refusalOfItem_69 (by decide) (fun c_ => ?_) (fun c_ => ?_)
                · have h := h.1 c_
                  refine lv_aload_n (pc := 76) hx hb dX8_refusalOfItem_76 rfl (lv_at hl 0 rfl) ?_
                  refine lv_iconst (pc := 77) (v := (2 : Int32)) hx hb dX8_refusalOfItem_77 (by decide) ?_
                  refine Ccalli (rest := []) (CrunV (pc := 78) X w (okX8_found l hJ h) kw441 kmX8_found ⟨rfl, rfl⟩ ⟨by decide, by decide⟩ (Crv_0 X w) rfl hl.1 rfl (Nat.le_of_ble_eq_true rfl) dX8_refusalOfItem_78) w (fun r7 u8 H locs h w => ?_)
                  exact Ciret (pc := 81) X w h dX8_refusalOfItem_81
                · have h := h.2 c_
                  refine lv_iconst (pc := 72) (v := (0 : Int32)) hx hb dX8_refusalOfItem_72 (by decide) ?_
                  refine lv_goto (pc := 73) (tgt := 81) hx hb dX8_refusalOfItem_73 (by decide) ?_
                  exact Ciret (pc := 81) X w h dX8_refusalOfItem_81
              · refine Caq_53 1 (by decide) (pc := 62) X w dX8_refusalOfItem_62 ?_
                refine Cgf_56_2 (pc := 63) X w kw446 dX8_refusalOfItem_63 ?_
                refine Ccalli (rest := []) (CrunS (pc := 66) X w (okX8_below l hJ h) kw23 kmX8_below ⟨rfl, rfl⟩ ⟨by decide, by decide⟩ rfl hl.1 rfl (Nat.le_of_ble_eq_true rfl) dX8_refusalOfItem_66) w (fun r6 u9_ H locs h w => ?_)
                obtain ⟨hz_r6, h⟩ := h
                obtain ⟨rfl, h⟩ := h
                refine lv_if_eq (pc := 69) (tgt := 76) hx hb dX8_refusalOfItem_69 (by decide) (fun c_ => ?_) (fun c_ => ?_)
                · have h := h.1 c_
                  refine lv_aload_n (pc := 76) hx hb dX8_refusalOfItem_76 rfl (lv_at hl 0 rfl) ?_
                  refine lv_iconst (pc := 77) (v := (2 : Int32)) hx hb dX8_refusalOfItem_77 (by decide) ?_
                  refine Ccalli (rest := []) (CrunV (pc := 78) X w (okX8_found l hJ h) kw441 kmX8_found ⟨rfl, rfl⟩ ⟨by decide, by decide⟩ (Crv_0 X w) rfl hl.1 rfl (Nat.le_of_ble_eq_true rfl) dX8_refusalOfItem_78) w (fun r7 u8 H locs h w => ?_)
                  exact Ciret (pc := 81) X w h dX8_refusalOfItem_81
                · have h := h.2 c_
                  refine lv_iconst (pc := 72) (v := (0 : Int32)) hx hb dX8_refusalOfItem_72 (by decide) ?_
                  refine lv_goto (pc := 73) (tgt := 81) hx hb dX8_refusalOfItem_73 (by decide) ?_
                  exact Ciret (pc := 81) X w h dX8_refusalOfItem_81
              · refine Caq_53 2 (by decide) (pc := 62) X w dX8_refusalOfItem_62 ?_
                refine Cgf_58_2 (pc := 63) X w kw446 dX8_refusalOfItem_63 ?_
                refine Ccalli (rest := []) (CrunS (pc := 66) X w (okX8_below l hJ h) kw23 kmX8_below ⟨rfl, rfl⟩ ⟨by decide, by decide⟩ rfl hl.1 rfl (Nat.le_of_ble_eq_true rfl) dX8_refusalOfItem_66) w (fun r6 u9_ H locs h w => ?_)
                obtain ⟨hz_r6, h⟩ := h
                obtain ⟨rfl, h⟩ := h
                refine lv_if_eq (pc := 69) (tgt := 76) hx hb dX8_refusalOfItem_69 (by decide) (fun c_ => ?_) (fun c_ => ?_)
                · have h := h.1 c_
                  refine lv_aload_n (pc := 76) hx hb dX8_refusalOfItem_76 rfl (lv_at hl 0 rfl) ?_
                  refine lv_iconst (pc := 77) (v := (2 : Int32)) hx hb dX8_refusalOfItem_77 (by decide) ?_
                  refine Ccalli (rest := []) (CrunV (pc := 78) X w (okX8_found l hJ h) kw441 kmX8_found ⟨rfl, rfl⟩ ⟨by decide, by decide⟩ (Crv_0 X w) rfl hl.1 rfl (Nat.le_of_ble_eq_true rfl) dX8_refusalOfItem_78) w (fun r7 u8 H locs h w => ?_)
                  exact Ciret (pc := 81) X w h dX8_refusalOfItem_81
                · have h := h.2 c_
                  refine lv_iconst (pc := 72) (v := (0 : Int32)) hx hb dX8_refusalOfItem_72 (by decide) ?_
                  refine lv_goto (pc := 73) (tgt := 81) hx hb dX8_refusalOfItem_73 (by decide) ?_
                  exact Ciret (pc := 81) X w h dX8_refusalOfItem_81
              · refine Caq_53 3 (by decide) (pc := 62) X w dX8_refusalOfItem_62 ?_
                refine Cgf_60_2 (pc := 63) X w kw446 dX8_refusalOfItem_63 ?_
                refine Ccalli (rest := []) (CrunS (pc := 66) X w (okX8_below l hJ h) kw23 kmX8_below ⟨rfl, rfl⟩ ⟨by decide, by decide⟩ rfl hl.1 rfl (Nat.le_of_ble_eq_true rfl) dX8_refusalOfItem_66) w (fun r6 u9_ H locs h w => ?_)
                obtain ⟨hz_r6, h⟩ := h
                obtain ⟨rfl, h⟩ := h
                refine lv_if_eq (pc := 69) (tgt := 76) hx hb dX8_refusalOfItem_69 (by decide) (fun c_ => ?_) (fun c_ => ?_)
                · have h := h.1 c_
                  refine lv_aload_n (pc := 76) hx hb dX8_refusalOfItem_76 rfl (lv_at hl 0 rfl) ?_
                  refine lv_iconst (pc := 77) (v := (2 : Int32)) hx hb dX8_refusalOfItem_77 (by decide) ?_
                  refine Ccalli (rest := []) (CrunV (pc := 78) X w (okX8_found l hJ h) kw441 kmX8_found ⟨rfl, rfl⟩ ⟨by decide, by decide⟩ (Crv_0 X w) rfl hl.1 rfl (Nat.le_of_ble_eq_true rfl) dX8_refusalOfItem_78) w (fun r7 u8 H locs h w => ?_)
                  exact Ciret (pc := 81) X w h dX8_refusalOfItem_81
                · have h := h.2 c_
                  refine lv_iconst (pc := 72) (v := (0 : Int32)) hx hb dX8_refusalOfItem_72 (by decide) ?_
                  refine lv_goto (pc := 73) (tgt := 81) hx hb dX8_refusalOfItem_73 (by decide) ?_
                  exact Ciret (pc := 81) X w h dX8_refusalOfItem_81
            · have h := h.2 c_
              refine lv_aload_n (pc := 50) hx hb dX8_refusalOfItem_50 rfl (lv_at hl 0 rfl) ?_
              refine lv_iconst (pc := 51) (v := (3 : Int32)) hx hb dX8_refusalOfItem_51 (by decide) ?_
              refine Ccalli (rest := []) (CrunV (pc := 52) X w (okX8_found l hJ h) kw441 kmX8_found ⟨rfl, rfl⟩ ⟨by decide, by decide⟩ (Crv_0 X w) rfl hl.1 rfl (Nat.le_of_ble_eq_true rfl) dX8_refusalOfItem_52) w (fun r506 u507 H locs h w => ?_)
              exact Ciret (pc := 55) X w h dX8_refusalOfItem_55
          · refine Caq_53 3 (by decide) (pc := 42) X w dX8_refusalOfItem_42 ?_
            refine Cgf_60_1 (pc := 43) X w kw447 dX8_refusalOfItem_43 ?_
            refine lv_iload_n (pc := 46) hx hb dX8_refusalOfItem_46 rfl (lv_at hl 2 rfl) ?_
            refine lv_icmp_eq (pc := 47) (tgt := 56) hx hb dX8_refusalOfItem_47 (by decide) (fun c_ => ?_) (fun c_ => ?_)
            · have h := h.1 c_
              refine lv_iload_n (pc := 56) hx hb dX8_refusalOfItem_56 rfl (lv_at hl 3 rfl) ?_
              refine lv_aload_n (pc := 57) hx hb dX8_refusalOfItem_57 rfl (lv_at hl 0 rfl) ?_
              refine Cgf_0_6 (pc := 58) X w kw435 dX8_refusalOfItem_58 ?_
              refine lv_iload_n (pc := 61) hx hb dX8_refusalOfItem_61 rfl (lv_at hl 1 rfl) ?_
              obtain ⟨j5, hj_, e_⟩ := vp_in_of h.1 (by decide)
              have h := h.2 j5 hj_ e_
              refine W.eq (g2 := F0 m 62 ls (.int (nI j5) :: .ref (ad 53) :: .int a3 :: [])) (by rw [e_]) ?_
              clear e_
              rcases (show j5 = 0 ∨ j5 = 1 ∨ j5 = 2 ∨ j5 = 3 by omega) with rfl | rfl | rfl | rfl
              · refine Caq_53 0 (by decide) (pc := 62) X w dX8_refusalOfItem_62 ?_
                refine Cgf_54_2 (pc := 63) X w kw446 dX8_refusalOfItem_63 ?_
                refine Ccalli (rest := []) (CrunS (pc := 66) X w (okX8_below l hJ h) kw23 kmX8_below ⟨rfl, rfl⟩ ⟨by decide, by decide⟩ rfl hl.1 rfl (Nat.le_of_ble_eq_true rfl) dX8_refusalOfItem_66) w (fun r6 u9_ H locs h w => ?_)
                obtain ⟨hz_r6, h⟩ := h
                obtain ⟨rfl, h⟩ := h
                refine lv_if_eq (pc := 69) (tgt := 76) hx hb dX8_refusalOfItem_69 (by decide) (fun c_ => ?_) (fun c_ => ?_)
                · have h := h.1 c_
                  refine lv_aload_n (pc := 76) hx hb dX8_refusalOfItem_76 rfl (lv_at hl 0 rfl) ?_
                  refine lv_iconst (pc := 77) (v := (2 : Int32)) hx hb dX8_refusalOfItem_77 (by decide) ?_
                  refine Ccalli (rest := []) (CrunV (pc := 78) X w (okX8_found l hJ h) kw441 kmX8_found ⟨rfl, rfl⟩ ⟨by decide, by decide⟩ (Crv_0 X w) rfl hl.1 rfl (Nat.le_of_ble_eq_true rfl) dX8_refusalOfItem_78) w (fun r7 u8 H locs h w => ?_)
                  exact Ciret (pc := 81) X w h dX8_refusalOfItem_81
                · have h := h.2 c_
                  refine lv_iconst (pc := 72) (v := (0 : Int32)) hx hb dX8_refusalOfItem_72 (by decide) ?_
                  refine lv_goto (pc := 73) (tgt := 81) hx hb dX8_refusalOfItem_73 (by decide) ?_
                  exact Ciret (pc := 81) X w h dX8_refusalOfItem_81
              · refine Caq_53 1 (by decide) (pc := 62) X w dX8_refusalOfItem_62 ?_
                refine Cgf_56_2 (pc := 63) X w kw446 dX8_refusalOfItem_63 ?_
                refine Ccalli (rest := []) (CrunS (pc := 66) X w (okX8_below l hJ h) kw23 kmX8_below ⟨rfl, rfl⟩ ⟨by decide, by decide⟩ rfl hl.1 rfl (Nat.le_of_ble_eq_true rfl) dX8_refusalOfItem_66) w (fun r6 u9_ H locs h w => ?_)
                obtain ⟨hz_r6, h⟩ := h
                obtain ⟨rfl, h⟩ := h
                refine lv_if_eq (pc := 69) (tgt := 76) hx hb dX8_refusalOfItem_69 (by decide) (fun c_ => ?_) (fun c_ => ?_)
                · have h := h.1 c_
                  refine lv_aload_n (pc := 76) hx hb dX8_refusalOfItem_76 rfl (lv_at hl 0 rfl) ?_
                  refine lv_iconst (pc := 77) (v := (2 : Int32)) hx hb dX8_refusalOfItem_77 (by decide) ?_
                  refine Ccalli (rest := []) (CrunV (pc := 78) X w (okX8_found l hJ h) kw441 kmX8_found ⟨rfl, rfl⟩ ⟨by decide, by decide⟩ (Crv_0 X w) rfl hl.1 rfl (Nat.le_of_ble_eq_true rfl) dX8_refusalOfItem_78) w (fun r7 u8 H locs h w => ?_)
                  exact Ciret (pc := 81) X w h dX8_refusalOfItem_81
                · have h := h.2 c_
                  refine lv_iconst (pc := 72) (v := (0 : Int32)) hx hb dX8_refusalOfItem_72 (by decide) ?_
                  refine lv_goto (pc := 73) (tgt := 81) hx hb dX8_refusalOfItem_73 (by decide) ?_
                  exact Ciret (pc := 81) X w h dX8_refusalOfItem_81
              · refine Caq_53 2 (by decide) (pc := 62) X w dX8_refusalOfItem_62 ?_
                refine Cgf_58_2 (pc := 63) X w kw446 dX8_refusalOfItem_63 ?_
                refine Ccalli (rest := []) (CrunS (pc := 66) X w (okX8_below l hJ h) kw23 kmX8_below ⟨rfl, rfl⟩ ⟨by decide, by decide⟩ rfl hl.1 rfl (Nat.le_of_ble_eq_true rfl) dX8_refusalOfItem_66) w (fun r6 u9_ H locs h w => ?_)
                obtain ⟨hz_r6, h⟩ := h
                obtain ⟨rfl, h⟩ := h
                refine lv_if_eq (pc := 69) (tgt := 76) hx hb dX8_refusalOfItem_69 (by decide) (fun c_ => ?_) (fun c_ => ?_)
                · have h := h.1 c_
                  refine lv_aload_n (pc := 76) hx hb dX8_refusalOfItem_76 rfl (lv_at hl 0 rfl) ?_
                  refine lv_iconst (pc := 77) (v := (2 : Int32)) hx hb dX8_refusalOfItem_77 (by decide) ?_
                  refine Ccalli (rest := []) (CrunV (pc := 78) X w (okX8_found l hJ h) kw441 kmX8_found ⟨rfl, rfl⟩ ⟨by decide, by decide⟩ (Crv_0 X w) rfl hl.1 rfl (Nat.le_of_ble_eq_true rfl) dX8_refusalOfItem_78) w (fun r7 u8 H locs h w => ?_)
                  exact Ciret (pc := 81) X w h dX8_refusalOfItem_81
                · have h := h.2 c_
                  refine lv_iconst (pc := 72) (v := (0 : Int32)) hx hb dX8_refusalOfItem_72 (by decide) ?_
                  refine lv_goto (pc := 73) (tgt := 81) hx hb dX8_refusalOfItem_73 (by decide) ?_
                  exact Ciret (pc := 81) X w h dX8_refusalOfItem_81
              · refine Caq_53 3 (by decide) (pc := 62) X w dX8_refusalOfItem_62 ?_
                refine Cgf_60_2 (pc := 63) X w kw446 dX8_refusalOfItem_63 ?_
                refine Ccalli (rest := []) (CrunS (pc := 66) X w (okX8_below l hJ h) kw23 kmX8_below ⟨rfl, rfl⟩ ⟨by decide, by decide⟩ rfl hl.1 rfl (Nat.le_of_ble_eq_true rfl) dX8_refusalOfItem_66) w (fun r6 u9_ H locs h w => ?_)
                obtain ⟨hz_r6, h⟩ := h
                obtain ⟨rfl, h⟩ := h
                refine lv_if_eq (pc := 69) (tgt := 76) hx hb dX8_refusalOfItem_69 (by decide) (fun c_ => ?_) (fun c_ => ?_)
                · have h := h.1 c_
                  refine lv_aload_n (pc := 76) hx hb dX8_refusalOfItem_76 rfl (lv_at hl 0 rfl) ?_
                  refine lv_iconst (pc := 77) (v := (2 : Int32)) hx hb dX8_refusalOfItem_77 (by decide) ?_
                  refine Ccalli (rest := []) (CrunV (pc := 78) X w (okX8_found l hJ h) kw441 kmX8_found ⟨rfl, rfl⟩ ⟨by decide, by decide⟩ (Crv_0 X w) rfl hl.1 rfl (Nat.le_of_ble_eq_true rfl) dX8_refusalOfItem_78) w (fun r7 u8 H locs h w => ?_)
                  exact Ciret (pc := 81) X w h dX8_refusalOfItem_81
                · have h := h.2 c_
                  refine lv_iconst (pc := 72) (v := (0 : Int32)) hx hb dX8_refusalOfItem_72 (by decide) ?_
                  refine lv_goto (pc := 73) (tgt := 81) hx hb dX8_refusalOfItem_73 (by decide) ?_
                  exact Ciret (pc := 81) X w h dX8_refusalOfItem_81
            · have h := h.2 c_
              refine lv_aload_n (pc := 50) hx hb dX8_refusalOfItem_50 rfl (lv_at hl 0 rfl) ?_
              refine lv_iconst (pc := 51) (v := (3 : Int32)) hx hb dX8_refusalOfItem_51 (by decide) ?_
              refine Ccalli (rest := []) (CrunV (pc := 52) X w (okX8_found l hJ h) kw441 kmX8_found ⟨rfl, rfl⟩ ⟨by decide, by decide⟩ (Crv_0 X w) rfl hl.1 rfl (Nat.le_of_ble_eq_true rfl) dX8_refusalOfItem_52) w (fun r506 u507 H locs h w => ?_)
              exact Ciret (pc := 55) X w h dX8_refusalOfItem_55
        · have h := h.2 c_
          refine lv_aload_n (pc := 31) hx hb dX8_refusalOfItem_31 rfl (lv_at hl 0 rfl) ?_
          refine lv_iconst (pc := 32) (v := (1 : Int32)) hx hb dX8_refusalOfItem_32 (by decide) ?_
          refine Ccalli (rest := []) (CrunV (pc := 33) X w (okX8_found l hJ h) kw441 kmX8_found ⟨rfl, rfl⟩ ⟨by decide, by decide⟩ (Crv_0 X w) rfl hl.1 rfl (Nat.le_of_ble_eq_true rfl) dX8_refusalOfItem_33) w (fun r505 u506 H locs h w => ?_)
          exact Ciret (pc := 36) X w h dX8_refusalOfItem_36
    · have h := h.1 c_
      refine lv_bipush (pc := 16) (v := (-2 : Int32)) hx hb dX8_refusalOfItem_16 (by decide) ?_
      exact Ciret (pc := 18) X w h dX8_refusalOfItem_18
