set_option maxHeartbeats 4000000 in
set_option maxRecDepth 100000 in
theorem okX9_due (l : Launch) {D : va_G} {g : Nat → ClassId} {ad : Nat → Nat} (hJ : RJ ad) {u : Mm} {a1 : Int32} {a2 : Int32} {Q : Int64 → Prop} (h : wX9_due u a1 a2 Q) : Met l yX9_due (Cond.code yX9_due cX9_due 3 (some .long) :: gt) ({ frames := 2, cells := 0, slots := 0, locals := 50 } : Room) (RPc D g ad u [.ref (ad 0), .int a1, .int a2]) (va_Ql (fun r u1 => u = u1 ∧ Q r) (RB D g ad) (RA ad)) 0 0 (RA ad) := by
  refine Met.ofW (cc := cX9_due) (maxL := 3) (ret := (some .long)) (by decide) rfl ?_
  intro p e s m args below meth c s₁ B hml hv
  refine Rentry (own := RX9) B hml hv hJ rfl (Nat.le_of_ble_eq_true rfl) (fun ls H locs X w hl => ?_)
  obtain ⟨⟨hx, hb, hml, hown, hts⟩, hr, hlocks, hK, hJ, hAA⟩ := id X
  have hl : lv_has ls 3 [(0, .ref (ad 0)), (1, .int a1), (2, .int a2)] := hl
  unfold wX9_due at h
  refine lv_iload_n (pc := 0) hx hb dX9_due_0 rfl (lv_at hl 1 rfl) ?_
  refine Rcalli (rest := []) (RrunS (pc := 1) X w (okX9_isSector l hJ h) kw662 kmX9_isSector ⟨rfl, rfl⟩ ⟨by decide, by decide⟩ rfl hl.1 rfl (Nat.le_of_ble_eq_true rfl) dX9_due_1) w (fun r1 u9_ H locs h w => ?_)
  obtain ⟨hz_r1, h⟩ := h
  obtain ⟨rfl, h⟩ := h
  refine lv_if_eq (pc := 4) (tgt := 23) hx hb dX9_due_4 (by decide) (fun c_ => ?_) (fun c_ => ?_)
  · have h := h.1 c_
    refine lv_ldc2 (pc := 23) (v := (-9223372036854775806 : Int64)) hx hb hown (hts _ (List.mem_cons_of_mem _ kw601)) dX9_due_23 ?_
    exact Rlret (pc := 26) X w ⟨rfl, h⟩ dX9_due_26
  · have h := h.2 c_
    refine lv_iload_n (pc := 7) hx hb dX9_due_7 rfl (lv_at hl 2 rfl) ?_
    refine Rcalli (rest := []) (RrunS (pc := 8) X w (okX9_isQuarter l hJ h) kw665 kmX9_isQuarter ⟨rfl, rfl⟩ ⟨by decide, by decide⟩ rfl hl.1 rfl (Nat.le_of_ble_eq_true rfl) dX9_due_8) w (fun r2 u9_ H locs h w => ?_)
    obtain ⟨hz_r2, h⟩ := h
    obtain ⟨rfl, h⟩ := h
    refine lv_if_eq (pc := 11) (tgt := 23) hx hb dX9_due_11 (by decide) (fun c_ => ?_) (fun c_ => ?_)
    · have h := h.1 c_
      refine lv_ldc2 (pc := 23) (v := (-9223372036854775806 : Int64)) hx hb hown (hts _ (List.mem_cons_of_mem _ kw601)) dX9_due_23 ?_
      exact Rlret (pc := 26) X w ⟨rfl, h⟩ dX9_due_26
    · have h := h.2 c_
      refine lv_aload_n (pc := 14) hx hb dX9_due_14 rfl (lv_at hl 0 rfl) ?_
      refine lv_iload_n (pc := 15) hx hb dX9_due_15 rfl (lv_at hl 1 rfl) ?_
      refine lv_iload_n (pc := 16) hx hb dX9_due_16 rfl (lv_at hl 2 rfl) ?_
      refine Rcalll (rest := []) (RrunV (pc := 17) X w (okX9_dueOf l hJ h) kw677 kmX9_dueOf ⟨rfl, rfl⟩ ⟨by decide, by decide⟩ (Rrv_0 X w) rfl hl.1 rfl (Nat.le_of_ble_eq_true rfl) dX9_due_17) w (fun r3 u9_ H locs h w => ?_)
      obtain ⟨rfl, h⟩ := h
      refine lv_goto (pc := 20) (tgt := 26) hx hb dX9_due_20 (by decide) ?_
      exact Rlret (pc := 26) X w ⟨rfl, h⟩ dX9_due_26
set_option maxHeartbeats 4000000 in
set_option maxRecDepth 100000 in
theorem okX9_off (l : Launch) {D : va_G} {g : Nat → ClassId} {ad : Nat → Nat} (hJ : RJ ad) {u : Mm} {a1 : Int32} {a2 : Int32} {Q : Int64 → Prop} (h : wX9_off u a1 a2 Q) : Met l yX9_off (Cond.code yX9_off cX9_off 4 (some .long) :: gt) ({ frames := 2, cells := 0, slots := 0, locals := 50 } : Room) (RPc D g ad u [.ref (ad 0), .int a1, .int a2]) (va_Ql (fun r u1 => u = u1 ∧ Q r) (RB D g ad) (RA ad)) 0 0 (RA ad) := by
  refine Met.ofW (cc := cX9_off) (maxL := 4) (ret := (some .long)) (by decide) rfl ?_
  intro p e s m args below meth c s₁ B hml hv
  refine Rentry (own := RX9) B hml hv hJ rfl (Nat.le_of_ble_eq_true rfl) (fun ls H locs X w hl => ?_)
  obtain ⟨⟨hx, hb, hml, hown, hts⟩, hr, hlocks, hK, hJ, hAA⟩ := id X
  have hl : lv_has ls 4 [(0, .ref (ad 0)), (1, .int a1), (2, .int a2)] := hl
  unfold wX9_off at h
  refine lv_iload_n (pc := 0) hx hb dX9_off_0 rfl (lv_at hl 1 rfl) ?_
  refine Rcalli (rest := []) (RrunS (pc := 1) X w (okX9_isSector l hJ h) kw662 kmX9_isSector ⟨rfl, rfl⟩ ⟨by decide, by decide⟩ rfl hl.1 rfl (Nat.le_of_ble_eq_true rfl) dX9_off_1) w (fun r1 u9_ H locs h w => ?_)
  obtain ⟨hz_r1, h⟩ := h
  obtain ⟨rfl, h⟩ := h
  refine lv_if_eq (pc := 4) (tgt := 14) hx hb dX9_off_4 (by decide) (fun c_ => ?_) (fun c_ => ?_)
  · have h := h.1 c_
    refine lv_ldc2 (pc := 14) (v := (-9223372036854775806 : Int64)) hx hb hown (hts _ (List.mem_cons_of_mem _ kw601)) dX9_off_14 ?_
    exact Rlret (pc := 17) X w ⟨rfl, h⟩ dX9_off_17
  · have h := h.2 c_
    refine lv_iload_n (pc := 7) hx hb dX9_off_7 rfl (lv_at hl 2 rfl) ?_
    refine Rcalli (rest := []) (RrunS (pc := 8) X w (okX9_isQuarter l hJ h) kw665 kmX9_isQuarter ⟨rfl, rfl⟩ ⟨by decide, by decide⟩ rfl hl.1 rfl (Nat.le_of_ble_eq_true rfl) dX9_off_8) w (fun r2 u9_ H locs h w => ?_)
    obtain ⟨hz_r2, h⟩ := h
    obtain ⟨rfl, h⟩ := h
    refine lv_if_ne (pc := 11) (tgt := 18) hx hb dX9_off_11 (by decide) (fun c_ => ?_) (fun c_ => ?_)
    · have h := h.2 c_
      refine lv_bipush (pc := 18) (v := (12 : Int32)) hx hb dX9_off_18 (by decide) ?_
      refine lv_iload_n (pc := 20) hx hb dX9_off_20 rfl (lv_at hl 1 rfl) ?_
      refine lv_imul (pc := 21) hx hb dX9_off_21 ?_
      refine lv_iload_n (pc := 22) hx hb dX9_off_22 rfl (lv_at hl 2 rfl) ?_
      refine lv_iadd (pc := 23) hx hb dX9_off_23 ?_
      refine lv_topi (fun x3_3 e_ => ?_)
      have h := h x3_3 e_
      refine lv_istore_n (pc := 24) (lv' := [(3, .int x3_3), (0, .ref (ad 0)), (1, .int a1), (2, .int a2)]) hx hb dX9_off_24 rfl hl (by decide) rfl (fun ls hl => ?_)
      refine lv_aload_n (pc := 25) hx hb dX9_off_25 rfl (lv_at hl 1 rfl) ?_
      refine Rgf_0_27 (pc := 26) X w kw676 dX9_off_26 ?_
      refine lv_iload_n (pc := 29) hx hb dX9_off_29 rfl (lv_at hl 0 rfl) ?_
      refine Rld_22 (pc := 30) X w h.1 dX9_off_30 ?_
      have h := h.2
      refine lv_if_eq (pc := 31) (tgt := 51) hx hb dX9_off_31 (by decide) (fun c_ => ?_) (fun c_ => ?_)
      · have h := h.1 c_
        refine lv_ldc2 (pc := 51) (v := (-9223372036854775805 : Int64)) hx hb hown (hts _ (List.mem_cons_of_mem _ kw600)) dX9_off_51 ?_
        exact Rlret (pc := 54) X w ⟨rfl, h⟩ dX9_off_54
      · have h := h.2 c_
        refine lv_aload_n (pc := 34) hx hb dX9_off_34 rfl (lv_at hl 1 rfl) ?_
        refine Rgf_0_28 (pc := 35) X w kw675 dX9_off_35 ?_
        refine lv_iload_n (pc := 38) hx hb dX9_off_38 rfl (lv_at hl 0 rfl) ?_
        refine Rld_23 (pc := 39) X w h.1 dX9_off_39 ?_
        have h := h.2
        refine lv_i2l (pc := 40) hx hb dX9_off_40 rfl ?_
        refine lv_aload_n (pc := 41) hx hb dX9_off_41 rfl (lv_at hl 1 rfl) ?_
        refine lv_iload_n (pc := 42) hx hb dX9_off_42 rfl (lv_at hl 2 rfl) ?_
        refine lv_iload_n (pc := 43) hx hb dX9_off_43 rfl (lv_at hl 3 rfl) ?_
        refine Rcalll (rest := [.long (u.1 23 x3_3.toNatClampNeg).toInt64]) (RrunV (pc := 44) X w (okX9_dueOf l hJ h) kw677 kmX9_dueOf ⟨rfl, rfl⟩ ⟨by decide, by decide⟩ (Rrv_0 X w) rfl hl.1 rfl (Nat.le_of_ble_eq_true rfl) dX9_off_44) w (fun r4 u9_ H locs h w => ?_)
        obtain ⟨rfl, h⟩ := h
        refine lv_lsub (pc := 47) hx hb dX9_off_47 ?_
        refine lv_goto (pc := 48) (tgt := 54) hx hb dX9_off_48 (by decide) ?_
        exact Rlret (pc := 54) X w ⟨rfl, h⟩ dX9_off_54
    · have h := h.1 c_
      refine lv_ldc2 (pc := 14) (v := (-9223372036854775806 : Int64)) hx hb hown (hts _ (List.mem_cons_of_mem _ kw601)) dX9_off_14 ?_
      exact Rlret (pc := 17) X w ⟨rfl, h⟩ dX9_off_17
set_option maxHeartbeats 4000000 in
set_option maxRecDepth 100000 in
theorem okX9_isLaw (l : Launch) {D : va_G} {g : Nat → ClassId} {ad : Nat → Nat} (hJ : RJ ad) {u : Mm} {a0 : Int32} {Q : Int32 → Prop} (h : wX9_isLaw a0 Q) : Met l yX9_isLaw (Cond.code yX9_isLaw cX9_isLaw 1 (some .boolean) :: gt) ({ frames := 1, cells := 0, slots := 0, locals := 25 } : Room) (RPc D g ad u [.int a0]) (va_Qi (fun r u1 => bz r ∧ (u = u1 ∧ Q r)) (RB D g ad) (RA ad)) 0 0 (RA ad) := by
  refine Met.ofW (cc := cX9_isLaw) (maxL := 1) (ret := (some .boolean)) (by decide) rfl ?_
  intro p e s m args below meth c s₁ B hml hv
  refine Rentry (own := RX9) B hml hv hJ rfl (Nat.le_of_ble_eq_true rfl) (fun ls H locs X w hl => ?_)
  obtain ⟨⟨hx, hb, hml, hown, hts⟩, hr, hlocks, hK, hJ, hAA⟩ := id X
  have hl : lv_has ls 1 [(0, .int a0)] := hl
  unfold wX9_isLaw at h
  refine lv_iload_n (pc := 0) hx hb dX9_isLaw_0 rfl (lv_at hl 0 rfl) ?_
  refine lv_i2l (pc := 1) hx hb dX9_isLaw_1 rfl ?_
  refine lv_lconst (pc := 2) (v := (0 : Int64)) hx hb dX9_isLaw_2 (by decide) ?_
  refine lv_ldc2 (pc := 3) (v := (3 : Int64)) hx hb hown (hts _ (List.mem_cons_of_mem _ kw494)) dX9_isLaw_3 ?_
  refine Rcalli (rest := []) (RrunS (pc := 6) X w (okX9_in l hJ h) kw490 kmX9_in ⟨rfl, rfl⟩ ⟨by decide, by decide⟩ rfl hl.1 rfl (Nat.le_of_ble_eq_true rfl) dX9_isLaw_6) w (fun r1 u9_ H locs h w => ?_)
  obtain ⟨hz_r1, h⟩ := h
  obtain ⟨rfl, h⟩ := h
  exact Rzret (pc := 9) X w hz_r1 ⟨rfl, h⟩ dX9_isLaw_9
set_option maxHeartbeats 4000000 in
set_option maxRecDepth 100000 in
theorem okX9_type (l : Launch) {D : va_G} {g : Nat → ClassId} {ad : Nat → Nat} (hJ : RJ ad) {u : Mm} {a1 : Int32} {a2 : Int32} {Q : Int32 → Mm → Prop} (h : wX9_type u a1 a2 Q) : Met l yX9_type (Cond.code yX9_type cX9_type 3 (some .int) :: gt) ({ frames := 2, cells := 0, slots := 0, locals := 45 } : Room) (RPc D g ad u [.ref (ad 0), .int a1, .int a2]) (va_Qi Q (RB D g ad) (RA ad)) 0 0 (RA ad) := by
  refine Met.ofW (cc := cX9_type) (maxL := 3) (ret := (some .int)) (by decide) rfl ?_
  intro p e s m args below meth c s₁ B hml hv
  refine Rentry (own := RX9) B hml hv hJ rfl (Nat.le_of_ble_eq_true rfl) (fun ls H locs X w hl => ?_)
  obtain ⟨⟨hx, hb, hml, hown, hts⟩, hr, hlocks, hK, hJ, hAA⟩ := id X
  have hl : lv_has ls 3 [(0, .ref (ad 0)), (1, .int a1), (2, .int a2)] := hl
  unfold wX9_type at h
  refine lv_iload_n (pc := 0) hx hb dX9_type_0 rfl (lv_at hl 1 rfl) ?_
  refine Rcalli (rest := []) (RrunS (pc := 1) X w (okX9_isLaw l hJ h) kw681 kmX9_isLaw ⟨rfl, rfl⟩ ⟨by decide, by decide⟩ rfl hl.1 rfl (Nat.le_of_ble_eq_true rfl) dX9_type_1) w (fun r1 u9_ H locs h w => ?_)
  obtain ⟨hz_r1, h⟩ := h
  obtain ⟨rfl, h⟩ := h
  refine lv_if_eq (pc := 4) (tgt := 19) hx hb dX9_type_4 (by decide) (fun c_ => ?_) (fun c_ => ?_)
  · have h := h.1 c_
    refine lv_bipush (pc := 19) (v := (-2 : Int32)) hx hb dX9_type_19 (by decide) ?_
    exact Riret (pc := 21) X w h dX9_type_21
  · have h := h.2 c_
    refine lv_iload_n (pc := 7) hx hb dX9_type_7 rfl (lv_at hl 2 rfl) ?_
    refine lv_i2l (pc := 8) hx hb dX9_type_8 rfl ?_
    refine lv_lconst (pc := 9) (v := (0 : Int64)) hx hb dX9_type_9 (by decide) ?_
    refine lv_ldc2 (pc := 10) (v := (255 : Int64)) hx hb hown (hts _ (List.mem_cons_of_mem _ kw684)) dX9_type_10 ?_
    refine Rcalli (rest := []) (RrunS (pc := 13) X w (okX9_in l hJ h) kw490 kmX9_in ⟨rfl, rfl⟩ ⟨by decide, by decide⟩ rfl hl.1 rfl (Nat.le_of_ble_eq_true rfl) dX9_type_13) w (fun r2 u9_ H locs h w => ?_)
    obtain ⟨hz_r2, h⟩ := h
    obtain ⟨rfl, h⟩ := h
    refine lv_if_ne (pc := 16) (tgt := 22) hx hb dX9_type_16 (by decide) (fun c_ => ?_) (fun c_ => ?_)
    · have h := h.2 c_
      refine lv_aload_n (pc := 22) hx hb dX9_type_22 rfl (lv_at hl 0 rfl) ?_
      refine Rgf_0_29 (pc := 23) X w kw685 dX9_type_23 ?_
      refine lv_iload_n (pc := 26) hx hb dX9_type_26 rfl (lv_at hl 1 rfl) ?_
      refine Rld_24 (pc := 27) X w h.1 dX9_type_27 ?_
      have h := h.2
      refine lv_bipush (pc := 28) (v := (60 : Int32)) hx hb dX9_type_28 (by decide) ?_
      refine lv_icmp_ne (pc := 30) (tgt := 36) hx hb dX9_type_30 (by decide) (fun c_ => ?_) (fun c_ => ?_)
      · have h := h.2 c_
        refine lv_aload_n (pc := 36) hx hb dX9_type_36 rfl (lv_at hl 0 rfl) ?_
        refine Rgf_0_30 (pc := 37) X w kw686 dX9_type_37 ?_
        refine lv_bipush (pc := 40) (v := (60 : Int32)) hx hb dX9_type_40 (by decide) ?_
        refine lv_iload_n (pc := 42) hx hb dX9_type_42 rfl (lv_at hl 1 rfl) ?_
        refine lv_imul (pc := 43) hx hb dX9_type_43 ?_
        refine lv_aload_n (pc := 44) hx hb dX9_type_44 rfl (lv_at hl 0 rfl) ?_
        refine Rgf_0_29 (pc := 45) X w kw685 dX9_type_45 ?_
        refine lv_iload_n (pc := 48) hx hb dX9_type_48 rfl (lv_at hl 1 rfl) ?_
        refine Rld_24 (pc := 49) X w h.1 dX9_type_49 ?_
        have h := h.2
        refine lv_iadd (pc := 50) hx hb dX9_type_50 ?_
        refine lv_iload_n (pc := 51) hx hb dX9_type_51 rfl (lv_at hl 2 rfl) ?_
        refine Rst_25 (pc := 52) X w h.1 dX9_type_52 (fun H locs w => ?_)
        have h := h.2
        obtain ⟨u3, e_⟩ : ∃ y : Mm, y = s32 u 25 (((60 : Int32) * a1) + (u.1 24 a1.toNatClampNeg)).toNatClampNeg a2 := ⟨_, rfl⟩
        rw [← e_] at w
        have h := h u3 e_
        refine lv_aload_n (pc := 53) hx hb dX9_type_53 rfl (lv_at hl 0 rfl) ?_
        refine Rgf_0_29 (pc := 54) X w kw685 dX9_type_54 ?_
        refine lv_iload_n (pc := 57) hx hb dX9_type_57 rfl (lv_at hl 1 rfl) ?_
        refine lv_dup2_11 (pc := 58) hx hb dX9_type_58 rfl rfl ?_
        refine Rld_24 (pc := 59) X w h.1 dX9_type_59 ?_
        have h := h.2
        refine lv_iconst (pc := 60) (v := (1 : Int32)) hx hb dX9_type_60 (by decide) ?_
        refine lv_iadd (pc := 61) hx hb dX9_type_61 ?_
        refine Rst_24 (pc := 62) X w h.1 dX9_type_62 (fun H locs w => ?_)
        have h := h.2
        obtain ⟨u4, e_⟩ : ∃ y : Mm, y = s32 u3 24 a1.toNatClampNeg ((u3.1 24 a1.toNatClampNeg) + (1 : Int32)) := ⟨_, rfl⟩
        rw [← e_] at w
        have h := h u4 e_
        refine lv_aload_n (pc := 63) hx hb dX9_type_63 rfl (lv_at hl 0 rfl) ?_
        refine Rgf_0_29 (pc := 64) X w kw685 dX9_type_64 ?_
        refine lv_iload_n (pc := 67) hx hb dX9_type_67 rfl (lv_at hl 1 rfl) ?_
        refine Rld_24 (pc := 68) X w h.1 dX9_type_68 ?_
        have h := h.2
        exact Riret (pc := 69) X w h dX9_type_69
      · have h := h.1 c_
        refine lv_bipush (pc := 33) (v := (-4 : Int32)) hx hb dX9_type_33 (by decide) ?_
        exact Riret (pc := 35) X w h dX9_type_35
    · have h := h.1 c_
      refine lv_bipush (pc := 19) (v := (-2 : Int32)) hx hb dX9_type_19 (by decide) ?_
      exact Riret (pc := 21) X w h dX9_type_21
set_option maxHeartbeats 4000000 in
set_option maxRecDepth 100000 in
theorem okX9_repeal (l : Launch) {D : va_G} {g : Nat → ClassId} {ad : Nat → Nat} (hJ : RJ ad) {u : Mm} {a1 : Int32} {Q : Int32 → Mm → Prop} (h : wX9_repeal u a1 Q) : Met l yX9_repeal (Cond.code yX9_repeal cX9_repeal 3 (some .int) :: gt) ({ frames := 2, cells := 0, slots := 0, locals := 45 } : Room) (RPc D g ad u [.ref (ad 0), .int a1]) (va_Qi Q (RB D g ad) (RA ad)) 0 0 (RA ad) := by
  refine Met.ofW (cc := cX9_repeal) (maxL := 3) (ret := (some .int)) (by decide) rfl ?_
  intro p e s m args below meth c s₁ B hml hv
  refine Rentry (own := RX9) B hml hv hJ rfl (Nat.le_of_ble_eq_true rfl) (fun ls H locs X w hl => ?_)
  obtain ⟨⟨hx, hb, hml, hown, hts⟩, hr, hlocks, hK, hJ, hAA⟩ := id X
  have hl : lv_has ls 3 [(0, .ref (ad 0)), (1, .int a1)] := hl
  unfold wX9_repeal at h
  refine lv_iload_n (pc := 0) hx hb dX9_repeal_0 rfl (lv_at hl 1 rfl) ?_
  refine Rcalli (rest := []) (RrunS (pc := 1) X w (okX9_isLaw l hJ h) kw681 kmX9_isLaw ⟨rfl, rfl⟩ ⟨by decide, by decide⟩ rfl hl.1 rfl (Nat.le_of_ble_eq_true rfl) dX9_repeal_1) w (fun r1 u9_ H locs h w => ?_)
  obtain ⟨hz_r1, h⟩ := h
  obtain ⟨rfl, h⟩ := h
  refine lv_if_ne (pc := 4) (tgt := 10) hx hb dX9_repeal_4 (by decide) (fun c_ => ?_) (fun c_ => ?_)
  · have h := h.2 c_
    refine lv_aload_n (pc := 10) hx hb dX9_repeal_10 rfl (lv_at hl 0 rfl) ?_
    refine Rgf_0_29 (pc := 11) X w kw685 dX9_repeal_11 ?_
    refine lv_iload_n (pc := 14) hx hb dX9_repeal_14 rfl (lv_at hl 1 rfl) ?_
    refine Rld_24 (pc := 15) X w h.1 dX9_repeal_15 ?_
    have h := h.2
    refine lv_topi (fun x2_2 e_ => ?_)
    have h := h x2_2 e_
    refine lv_istore_n (pc := 16) (lv' := [(2, .int x2_2), (0, .ref (ad 0)), (1, .int a1)]) hx hb dX9_repeal_16 rfl hl (by decide) rfl (fun ls hl => ?_)
    refine lv_aload_n (pc := 17) hx hb dX9_repeal_17 rfl (lv_at hl 1 rfl) ?_
    refine Rgf_0_29 (pc := 18) X w kw685 dX9_repeal_18 ?_
    refine lv_iload_n (pc := 21) hx hb dX9_repeal_21 rfl (lv_at hl 2 rfl) ?_
    refine lv_iconst (pc := 22) (v := (0 : Int32)) hx hb dX9_repeal_22 (by decide) ?_
    refine Rst_24 (pc := 23) X w h.1 dX9_repeal_23 (fun H locs w => ?_)
    have h := h.2
    obtain ⟨u3, e_⟩ : ∃ y : Mm, y = s32 u 24 a1.toNatClampNeg (0 : Int32) := ⟨_, rfl⟩
    rw [← e_] at w
    have h := h u3 e_
    refine lv_iload_n (pc := 24) hx hb dX9_repeal_24 rfl (lv_at hl 0 rfl) ?_
    exact Riret (pc := 25) X w h dX9_repeal_25
  · have h := h.1 c_
    refine lv_bipush (pc := 7) (v := (-2 : Int32)) hx hb dX9_repeal_7 (by decide) ?_
    exact Riret (pc := 9) X w h dX9_repeal_9
set_option maxHeartbeats 4000000 in
set_option maxRecDepth 100000 in
theorem okX9_byteNow (l : Launch) {D : va_G} {g : Nat → ClassId} {ad : Nat → Nat} (hJ : RJ ad) {u : Mm} {Q : Int32 → Prop} (h : wX9_byteNow u Q) : Met l yX9_byteNow (Cond.code yX9_byteNow cX9_byteNow 1 (some .int) :: gt) ({ frames := 0, cells := 0, slots := 0, locals := 0 } : Room) (RPc D g ad u [.ref (ad 0)]) (va_Qi (fun r u1 => u = u1 ∧ Q r) (RB D g ad) (RA ad)) 0 0 (RA ad) := by
  refine Met.ofW (cc := cX9_byteNow) (maxL := 1) (ret := (some .int)) (by decide) rfl ?_
  intro p e s m args below meth c s₁ B hml hv
  refine Rentry (own := RX9) B hml hv hJ rfl (Nat.le_of_ble_eq_true rfl) (fun ls H locs X w hl => ?_)
  obtain ⟨⟨hx, hb, hml, hown, hts⟩, hr, hlocks, hK, hJ, hAA⟩ := id X
  have hl : lv_has ls 1 [(0, .ref (ad 0))] := hl
  unfold wX9_byteNow at h
  refine lv_aload_n (pc := 0) hx hb dX9_byteNow_0 rfl (lv_at hl 0 rfl) ?_
  refine Rgf_0_32 (pc := 1) X w kw687 dX9_byteNow_1 ?_
  refine lv_aload_n (pc := 4) hx hb dX9_byteNow_4 rfl (lv_at hl 0 rfl) ?_
  refine Rgf_0_29 (pc := 5) X w kw685 dX9_byteNow_5 ?_
  refine lv_aload_n (pc := 8) hx hb dX9_byteNow_8 rfl (lv_at hl 0 rfl) ?_
  refine Rgf_0_31 (pc := 9) X w kw688 dX9_byteNow_9 ?_
  refine Rld_24 (pc := 12) X w h.1 dX9_byteNow_12 ?_
  have h := h.2
  refine lv_icmp_ge (pc := 13) (tgt := 36) hx hb dX9_byteNow_13 (by decide) (fun c_ => ?_) (fun c_ => ?_)
  · have h := h.1 c_
    refine lv_iconst (pc := 36) (v := (-1 : Int32)) hx hb dX9_byteNow_36 (by decide) ?_
    exact Riret (pc := 37) X w ⟨rfl, h⟩ dX9_byteNow_37
  · have h := h.2 c_
    refine lv_aload_n (pc := 16) hx hb dX9_byteNow_16 rfl (lv_at hl 0 rfl) ?_
    refine Rgf_0_30 (pc := 17) X w kw686 dX9_byteNow_17 ?_
    refine lv_bipush (pc := 20) (v := (60 : Int32)) hx hb dX9_byteNow_20 (by decide) ?_
    refine lv_aload_n (pc := 22) hx hb dX9_byteNow_22 rfl (lv_at hl 0 rfl) ?_
    refine Rgf_0_31 (pc := 23) X w kw688 dX9_byteNow_23 ?_
    refine lv_imul (pc := 26) hx hb dX9_byteNow_26 ?_
    refine lv_aload_n (pc := 27) hx hb dX9_byteNow_27 rfl (lv_at hl 0 rfl) ?_
    refine Rgf_0_32 (pc := 28) X w kw687 dX9_byteNow_28 ?_
    refine lv_iadd (pc := 31) hx hb dX9_byteNow_31 ?_
    refine Rld_25 (pc := 32) X w h.1 dX9_byteNow_32 ?_
    have h := h.2
    refine lv_goto (pc := 33) (tgt := 37) hx hb dX9_byteNow_33 (by decide) ?_
    exact Riret (pc := 37) X w ⟨rfl, h⟩ dX9_byteNow_37
set_option maxHeartbeats 4000000 in
set_option maxRecDepth 100000 in
theorem okX9_isFigure (l : Launch) {D : va_G} {g : Nat → ClassId} {ad : Nat → Nat} (hJ : RJ ad) {u : Mm} {Q : Int32 → Prop} (h : wX9_isFigure u Q) : Met l yX9_isFigure (Cond.code yX9_isFigure cX9_isFigure 1 (some .boolean) :: gt) ({ frames := 1, cells := 0, slots := 0, locals := 20 } : Room) (RPc D g ad u [.ref (ad 0)]) (va_Qi (fun r u1 => bz r ∧ (u = u1 ∧ Q r)) (RB D g ad) (RA ad)) 0 0 (RA ad) := by
  refine Met.ofW (cc := cX9_isFigure) (maxL := 1) (ret := (some .boolean)) (by decide) rfl ?_
  intro p e s m args below meth c s₁ B hml hv
  refine Rentry (own := RX9) B hml hv hJ rfl (Nat.le_of_ble_eq_true rfl) (fun ls H locs X w hl => ?_)
  obtain ⟨⟨hx, hb, hml, hown, hts⟩, hr, hlocks, hK, hJ, hAA⟩ := id X
  have hl : lv_has ls 1 [(0, .ref (ad 0))] := hl
  unfold wX9_isFigure at h
  refine lv_aload_n (pc := 0) hx hb dX9_isFigure_0 rfl (lv_at hl 0 rfl) ?_
  refine Rcalli (rest := []) (RrunV (pc := 1) X w (okX9_byteNow l hJ h) kw689 kmX9_byteNow ⟨rfl, rfl⟩ ⟨by decide, by decide⟩ (Rrv_0 X w) rfl hl.1 rfl (Nat.le_of_ble_eq_true rfl) dX9_isFigure_1) w (fun r1 u9_ H locs h w => ?_)
  obtain ⟨rfl, h⟩ := h
  refine lv_bipush (pc := 4) (v := (48 : Int32)) hx hb dX9_isFigure_4 (by decide) ?_
  refine lv_icmp_lt (pc := 6) (tgt := 22) hx hb dX9_isFigure_6 (by decide) (fun c_ => ?_) (fun c_ => ?_)
  · have h := h.1 c_
    refine lv_iconst (pc := 22) (v := (0 : Int32)) hx hb dX9_isFigure_22 (by decide) ?_
    exact Rzret (pc := 23) X w rfl ⟨rfl, h⟩ dX9_isFigure_23
  · have h := h.2 c_
    refine lv_aload_n (pc := 9) hx hb dX9_isFigure_9 rfl (lv_at hl 0 rfl) ?_
    refine Rcalli (rest := []) (RrunV (pc := 10) X w (okX9_byteNow l hJ h) kw689 kmX9_byteNow ⟨rfl, rfl⟩ ⟨by decide, by decide⟩ (Rrv_0 X w) rfl hl.1 rfl (Nat.le_of_ble_eq_true rfl) dX9_isFigure_10) w (fun r2 u9_ H locs h w => ?_)
    obtain ⟨rfl, h⟩ := h
    refine lv_bipush (pc := 13) (v := (57 : Int32)) hx hb dX9_isFigure_13 (by decide) ?_
    refine lv_icmp_gt (pc := 15) (tgt := 22) hx hb dX9_isFigure_15 (by decide) (fun c_ => ?_) (fun c_ => ?_)
    · have h := h.1 c_
      refine lv_iconst (pc := 22) (v := (0 : Int32)) hx hb dX9_isFigure_22 (by decide) ?_
      exact Rzret (pc := 23) X w rfl ⟨rfl, h⟩ dX9_isFigure_23
    · have h := h.2 c_
      refine lv_iconst (pc := 18) (v := (1 : Int32)) hx hb dX9_isFigure_18 (by decide) ?_
      refine lv_goto (pc := 19) (tgt := 23) hx hb dX9_isFigure_19 (by decide) ?_
      exact Rzret (pc := 23) X w rfl ⟨rfl, h⟩ dX9_isFigure_23
set_option maxHeartbeats 4000000 in
set_option maxRecDepth 100000 in
theorem bX9_cell_9 {l : Launch} {p : Program} {e : Env} {s : State} {m : MethodId} {args : Array Value} {below : List Frame} {meth : Method} {c : Code} {D : va_G} {g : Nat → ClassId} {ad : Nat → Nat} {Q : Int64 → Mm → Prop} (X : RX p s m args meth c cX9_cell RX9 4 (some .long) (Cond.code yX9_cell cX9_cell 4 (some .long)) D g ad (RA ad)) : ∀ (n : Nat) (u : Mm) (x1 : Int32) (x2 : Int32) (x3 : Int32) (H : Heap) (locs : List Loc) (ls : Array Slot), wX9_cell_b9 Q n u x1 x2 x3 → RWd D g ad (RA ad) s u H locs → lv_has ls 4 [(0, .ref (ad 0)), (1, .int x1), (2, .int x2), (3, .int x3)] → W p l e ({ frames := 2, cells := 0, slots := 0, locals := 47 } : Room) s m args below meth c H locs 0 0 (MQ below (va_Ql Q (RB D g ad) (RA ad)) args s 0 0 (RA ad)) (F0 m 9 ls []) := by
  obtain ⟨⟨hx, hb, hml, hown, hts⟩, hr, hlocks, hK, hJ, hAA⟩ := id X
  intro n
  induction n with
  | zero =>
    intro u x1 x2 x3 H locs ls h
    exact False.elim h
  | succ n ih =>
    intro u x1 x2 x3 H locs ls h w hl
    unfold wX9_cell_b9 at h
    refine lv_iload_n (pc := 9) hx hb dX9_cell_9 rfl (lv_at hl 3 rfl) ?_
    refine lv_iconst (pc := 10) (v := (3 : Int32)) hx hb dX9_cell_10 (by decide) ?_
    refine lv_icmp_ge (pc := 11) (tgt := 60) hx hb dX9_cell_11 (by decide) (fun c_ => ?_) (fun c_ => ?_)
    · have h := h.1 c_
      refine lv_iload_n (pc := 60) hx hb dX9_cell_60 rfl (lv_at hl 2 rfl) ?_
      refine lv_bipush (pc := 61) (v := (100 : Int32)) hx hb dX9_cell_61 (by decide) ?_
      refine lv_idiv (pc := 63) hx hb dX9_cell_63 (by decide) ?_
      refine lv_iload_n (pc := 64) hx hb dX9_cell_64 rfl (lv_at hl 2 rfl) ?_
      refine lv_bipush (pc := 65) (v := (10 : Int32)) hx hb dX9_cell_65 (by decide) ?_
      refine lv_idiv (pc := 67) hx hb dX9_cell_67 (by decide) ?_
      refine lv_bipush (pc := 68) (v := (10 : Int32)) hx hb dX9_cell_68 (by decide) ?_
      refine lv_irem (pc := 70) hx hb dX9_cell_70 (by decide) ?_
      refine lv_iload_n (pc := 71) hx hb dX9_cell_71 rfl (lv_at hl 2 rfl) ?_
      refine lv_bipush (pc := 72) (v := (10 : Int32)) hx hb dX9_cell_72 (by decide) ?_
      refine lv_irem (pc := 74) hx hb dX9_cell_74 (by decide) ?_
      refine Rcalli (rest := []) (RrunS (pc := 75) X w (okX9_areThere l hJ h) kw498 kmX9_areThere ⟨rfl, rfl⟩ ⟨by decide, by decide⟩ rfl hl.1 rfl (Nat.le_of_ble_eq_true rfl) dX9_cell_75) w (fun r1 u9_ H locs h w => ?_)
      obtain ⟨hz_r1, h⟩ := h
      obtain ⟨rfl, h⟩ := h
      refine lv_if_ne (pc := 78) (tgt := 88) hx hb dX9_cell_78 (by decide) (fun c_ => ?_) (fun c_ => ?_)
      · have h := h.2 c_
        refine lv_aload_n (pc := 88) hx hb dX9_cell_88 rfl (lv_at hl 0 rfl) ?_
        refine Rgf_0_19 (pc := 89) X w kw576 dX9_cell_89 ?_
        refine lv_iload_n (pc := 92) hx hb dX9_cell_92 rfl (lv_at hl 2 rfl) ?_
        refine lv_bipush (pc := 93) (v := (100 : Int32)) hx hb dX9_cell_93 (by decide) ?_
        refine lv_idiv (pc := 95) hx hb dX9_cell_95 (by decide) ?_
        refine lv_iload_n (pc := 96) hx hb dX9_cell_96 rfl (lv_at hl 2 rfl) ?_
        refine lv_bipush (pc := 97) (v := (10 : Int32)) hx hb dX9_cell_97 (by decide) ?_
        refine lv_idiv (pc := 99) hx hb dX9_cell_99 (by decide) ?_
        refine lv_bipush (pc := 100) (v := (10 : Int32)) hx hb dX9_cell_100 (by decide) ?_
        refine lv_irem (pc := 102) hx hb dX9_cell_102 (by decide) ?_
        refine lv_iload_n (pc := 103) hx hb dX9_cell_103 rfl (lv_at hl 2 rfl) ?_
        refine lv_bipush (pc := 104) (v := (10 : Int32)) hx hb dX9_cell_104 (by decide) ?_
        refine lv_irem (pc := 106) hx hb dX9_cell_106 (by decide) ?_
        refine lv_aload_n (pc := 107) hx hb dX9_cell_107 rfl (lv_at hl 0 rfl) ?_
        refine Rgf_0_34 (pc := 108) X w kw693 dX9_cell_108 ?_
        refine Rcalli (rest := [.ref (ad 15)]) (RrunS (pc := 111) X w (okX9_cellOf l hJ h) kw502 kmX9_cellOf ⟨rfl, rfl⟩ ⟨by decide, by decide⟩ rfl hl.1 rfl (Nat.le_of_ble_eq_true rfl) dX9_cell_111) w (fun r2 u9_ H locs h w => ?_)
        obtain ⟨rfl, h⟩ := h
        refine Rld_15 (pc := 114) X w h.1 dX9_cell_114 ?_
        have h := h.2
        exact Rlret (pc := 115) X w h dX9_cell_115
      · have h := h.1 c_
        refine lv_aload_n (pc := 81) hx hb dX9_cell_81 rfl (lv_at hl 0 rfl) ?_
        refine lv_iload_n (pc := 82) hx hb dX9_cell_82 rfl (lv_at hl 1 rfl) ?_
        refine Rpf_0_33 (pc := 83) X w kw694 dX9_cell_83 (fun H locs w => ?_)
        obtain ⟨u3, e_⟩ : ∃ y : Mm, y = s32 u 133 0 x1 := ⟨_, rfl⟩
        rw [← e_] at w
        have h := h u3 e_
        refine lv_lconst (pc := 86) (v := (0 : Int64)) hx hb dX9_cell_86 (by decide) ?_
        exact Rlret (pc := 87) X w h dX9_cell_87
    · have h := h.2 c_
      refine lv_aload_n (pc := 14) hx hb dX9_cell_14 rfl (lv_at hl 0 rfl) ?_
      refine Rcalli (rest := []) (RrunV (pc := 15) X w (okX9_isFigure l hJ h) kw695 kmX9_isFigure ⟨rfl, rfl⟩ ⟨by decide, by decide⟩ (Rrv_0 X w) rfl hl.1 rfl (Nat.le_of_ble_eq_true rfl) dX9_cell_15) w (fun r4 u9_ H locs h w => ?_)
      obtain ⟨hz_r4, h⟩ := h
      obtain ⟨rfl, h⟩ := h
      refine lv_if_ne (pc := 18) (tgt := 31) hx hb dX9_cell_18 (by decide) (fun c_ => ?_) (fun c_ => ?_)
      · have h := h.2 c_
        refine lv_bipush (pc := 31) (v := (10 : Int32)) hx hb dX9_cell_31 (by decide) ?_
        refine lv_iload_n (pc := 33) hx hb dX9_cell_33 rfl (lv_at hl 2 rfl) ?_
        refine lv_imul (pc := 34) hx hb dX9_cell_34 ?_
        refine lv_aload_n (pc := 35) hx hb dX9_cell_35 rfl (lv_at hl 0 rfl) ?_
        refine Rcalli (rest := [.int ((10 : Int32) * x2)]) (RrunV (pc := 36) X w (okX9_byteNow l hJ h) kw689 kmX9_byteNow ⟨rfl, rfl⟩ ⟨by decide, by decide⟩ (Rrv_0 X w) rfl hl.1 rfl (Nat.le_of_ble_eq_true rfl) dX9_cell_36) w (fun r5 u9_ H locs h w => ?_)
        obtain ⟨rfl, h⟩ := h
        refine lv_iadd (pc := 39) hx hb dX9_cell_39 ?_
        refine lv_bipush (pc := 40) (v := (48 : Int32)) hx hb dX9_cell_40 (by decide) ?_
        refine lv_isub (pc := 42) hx hb dX9_cell_42 ?_
        refine lv_topi (fun x2_6 e_ => ?_)
        have h := h x2_6 e_
        refine lv_istore_n (pc := 43) (lv' := [(2, .int x2_6), (0, .ref (ad 0)), (1, .int x1), (3, .int x3)]) hx hb dX9_cell_43 rfl hl (by decide) rfl (fun ls hl => ?_)
        refine lv_aload_n (pc := 44) hx hb dX9_cell_44 rfl (lv_at hl 1 rfl) ?_
        refine lv_dup (pc := 45) hx hb dX9_cell_45 rfl ?_
        refine Rgf_0_32 (pc := 46) X w kw687 dX9_cell_46 ?_
        refine lv_iconst (pc := 49) (v := (1 : Int32)) hx hb dX9_cell_49 (by decide) ?_
        refine lv_iadd (pc := 50) hx hb dX9_cell_50 ?_
        refine Rpf_0_32 (pc := 51) X w kw687 dX9_cell_51 (fun H locs w => ?_)
        obtain ⟨u7, e_⟩ : ∃ y : Mm, y = s32 u 132 0 ((u.1 132 0) + (1 : Int32)) := ⟨_, rfl⟩
        rw [← e_] at w
        have h := h u7 e_
        obtain ⟨x3_8, e_⟩ : ∃ y : Int32, y = x3 + (1 : Int32) := ⟨_, rfl⟩
        have h := h x3_8 e_
        refine lv_iinc (pc := 54) (v := x3_8) (lv' := [(3, .int x3_8), (2, .int x2_6), (0, .ref (ad 0)), (1, .int x1)]) hx hb dX9_cell_54 hl (k := 3) rfl (by rw [e_]; rfl) (by decide) rfl (fun ls hl => ?_)
        refine lv_goto (pc := 57) (tgt := 9) hx hb dX9_cell_57 (by decide) ?_
        exact ih u7 x1 x2_6 x3_8 H locs ls h w (lv_sub hl [2, 3, 1, 0] rfl)
      · have h := h.1 c_
        refine lv_aload_n (pc := 21) hx hb dX9_cell_21 rfl (lv_at hl 0 rfl) ?_
        refine lv_aload_n (pc := 22) hx hb dX9_cell_22 rfl (lv_at hl 0 rfl) ?_
        refine Rgf_0_32 (pc := 23) X w kw687 dX9_cell_23 ?_
        refine Rpf_0_33 (pc := 26) X w kw694 dX9_cell_26 (fun H locs w => ?_)
        obtain ⟨u9, e_⟩ : ∃ y : Mm, y = s32 u 133 0 (u.1 132 0) := ⟨_, rfl⟩
        rw [← e_] at w
        have h := h u9 e_
        refine lv_lconst (pc := 29) (v := (0 : Int64)) hx hb dX9_cell_29 (by decide) ?_
        exact Rlret (pc := 30) X w h dX9_cell_30
set_option maxHeartbeats 4000000 in
set_option maxRecDepth 100000 in
theorem okX9_cell (l : Launch) {D : va_G} {g : Nat → ClassId} {ad : Nat → Nat} (hJ : RJ ad) {u : Mm} {Q : Int64 → Mm → Prop} (h : wX9_cell u Q) : Met l yX9_cell (Cond.code yX9_cell cX9_cell 4 (some .long) :: gt) ({ frames := 2, cells := 0, slots := 0, locals := 47 } : Room) (RPc D g ad u [.ref (ad 0)]) (va_Ql Q (RB D g ad) (RA ad)) 0 0 (RA ad) := by
  refine Met.ofW (cc := cX9_cell) (maxL := 4) (ret := (some .long)) (by decide) rfl ?_
  intro p e s m args below meth c s₁ B hml hv
  refine Rentry (own := RX9) B hml hv hJ rfl (Nat.le_of_ble_eq_true rfl) (fun ls H locs X w hl => ?_)
  obtain ⟨⟨hx, hb, hml, hown, hts⟩, hr, hlocks, hK, hJ, hAA⟩ := id X
  have hl : lv_has ls 4 [(0, .ref (ad 0))] := hl
  unfold wX9_cell at h
  refine lv_aload_n (pc := 0) hx hb dX9_cell_0 rfl (lv_at hl 0 rfl) ?_
  refine Rgf_0_32 (pc := 1) X w kw687 dX9_cell_1 ?_
  refine lv_topi (fun x1_1 e_ => ?_)
  have h := h x1_1 e_
  refine lv_istore_n (pc := 4) (lv' := [(1, .int x1_1), (0, .ref (ad 0))]) hx hb dX9_cell_4 rfl hl (by decide) rfl (fun ls hl => ?_)
  refine lv_iconst (pc := 5) (v := (0 : Int32)) hx hb dX9_cell_5 (by decide) ?_
  refine lv_istore_n (pc := 6) (lv' := [(2, .int (0 : Int32)), (1, .int x1_1), (0, .ref (ad 0))]) hx hb dX9_cell_6 rfl hl (by decide) rfl (fun ls hl => ?_)
  refine lv_iconst (pc := 7) (v := (0 : Int32)) hx hb dX9_cell_7 (by decide) ?_
  refine lv_istore_n (pc := 8) (lv' := [(3, .int (0 : Int32)), (2, .int (0 : Int32)), (1, .int x1_1), (0, .ref (ad 0))]) hx hb dX9_cell_8 rfl hl (by decide) rfl (fun ls hl => ?_)
  obtain ⟨n9, h⟩ := h
  exact bX9_cell_9 X n9 u x1_1 (0 : Int32) (0 : Int32) H locs ls h w (lv_sub hl [3, 2, 1, 0] rfl)
set_option maxHeartbeats 4000000 in
set_option maxRecDepth 100000 in
theorem bX9_term_78 {l : Launch} {p : Program} {e : Env} {s : State} {m : MethodId} {args : Array Value} {below : List Frame} {meth : Method} {c : Code} {D : va_G} {g : Nat → ClassId} {ad : Nat → Nat} {Q : Int64 → Mm → Prop} (X : RX p s m args meth c cX9_term RX9 4 (some .long) (Cond.code yX9_term cX9_term 4 (some .long)) D g ad (RA ad)) : ∀ (u : Mm) (x1 : Int32) (x2 : Int64) (H : Heap) (locs : List Loc) (ls : Array Slot), wX9_term_b78 Q u x1 x2 → RWd D g ad (RA ad) s u H locs → lv_has ls 4 [(0, .ref (ad 0)), (1, .int x1), (2, .long x2)] → W p l e ({ frames := 3, cells := 0, slots := 0, locals := 70 } : Room) s m args below meth c H locs 0 0 (MQ below (va_Ql Q (RB D g ad) (RA ad)) args s 0 0 (RA ad)) (F0 m 78 ls []) := by
  obtain ⟨⟨hx, hb, hml, hown, hts⟩, hr, hlocks, hK, hJ, hAA⟩ := id X
  intro u x1 x2 H locs ls h w hl
  unfold wX9_term_b78 at h
  refine lv_aload_n (pc := 78) hx hb dX9_term_78 rfl (lv_at hl 0 rfl) ?_
  refine Rgf_0_32 (pc := 79) X w kw687 dX9_term_79 ?_
  refine lv_iload_n (pc := 82) hx hb dX9_term_82 rfl (lv_at hl 1 rfl) ?_
  refine lv_icmp_ne (pc := 83) (tgt := 96) hx hb dX9_term_83 (by decide) (fun c_ => ?_) (fun c_ => ?_)
  · have h := h.2 c_
    refine lv_aload_n (pc := 96) hx hb dX9_term_96 rfl (lv_at hl 0 rfl) ?_
    refine Rcalli (rest := []) (RrunV (pc := 97) X w (okX9_byteNow l hJ h) kw689 kmX9_byteNow ⟨rfl, rfl⟩ ⟨by decide, by decide⟩ (Rrv_0 X w) rfl hl.1 rfl (Nat.le_of_ble_eq_true rfl) dX9_term_97) w (fun r1 u9_ H locs h w => ?_)
    obtain ⟨rfl, h⟩ := h
    refine lv_bipush (pc := 100) (v := (42 : Int32)) hx hb dX9_term_100 (by decide) ?_
    refine lv_icmp_eq (pc := 102) (tgt := 107) hx hb dX9_term_102 (by decide) (fun c_ => ?_) (fun c_ => ?_)
    · have h := h.1 c_
      refine lv_aload_n (pc := 107) hx hb dX9_term_107 rfl (lv_at hl 0 rfl) ?_
      refine lv_dup (pc := 108) hx hb dX9_term_108 rfl ?_
      refine Rgf_0_32 (pc := 109) X w kw687 dX9_term_109 ?_
      refine lv_iconst (pc := 112) (v := (1 : Int32)) hx hb dX9_term_112 (by decide) ?_
      refine lv_iadd (pc := 113) hx hb dX9_term_113 ?_
      refine Rpf_0_32 (pc := 114) X w kw687 dX9_term_114 (fun H locs w => ?_)
      obtain ⟨u2, e_⟩ : ∃ y : Mm, y = s32 u 132 0 ((u.1 132 0) + (1 : Int32)) := ⟨_, rfl⟩
      rw [← e_] at w
      have h := h u2 e_
      refine lv_aload_n (pc := 117) hx hb dX9_term_117 rfl (lv_at hl 0 rfl) ?_
      refine Rcalli (rest := []) (RrunV (pc := 118) X w (okX9_byteNow l hJ h) kw689 kmX9_byteNow ⟨rfl, rfl⟩ ⟨by decide, by decide⟩ (Rrv_0 X w) rfl hl.1 rfl (Nat.le_of_ble_eq_true rfl) dX9_term_118) w (fun r3 u9_ H locs h w => ?_)
      obtain ⟨rfl, h⟩ := h
      refine lv_bipush (pc := 121) (v := (99 : Int32)) hx hb dX9_term_121 (by decide) ?_
      refine lv_icmp_eq (pc := 123) (tgt := 136) hx hb dX9_term_123 (by decide) (fun c_ => ?_) (fun c_ => ?_)
      · have h := h.1 c_
        refine lv_aload_n (pc := 136) hx hb dX9_term_136 rfl (lv_at hl 0 rfl) ?_
        refine lv_dup (pc := 137) hx hb dX9_term_137 rfl ?_
        refine Rgf_0_32 (pc := 138) X w kw687 dX9_term_138 ?_
        refine lv_iconst (pc := 141) (v := (1 : Int32)) hx hb dX9_term_141 (by decide) ?_
        refine lv_iadd (pc := 142) hx hb dX9_term_142 ?_
        refine Rpf_0_32 (pc := 143) X w kw687 dX9_term_143 (fun H locs w => ?_)
        obtain ⟨u4, e_⟩ : ∃ y : Mm, y = s32 u2 132 0 ((u2.1 132 0) + (1 : Int32)) := ⟨_, rfl⟩
        rw [← e_] at w
        have h := h u4 e_
        refine lv_lload_n (pc := 146) hx hb dX9_term_146 rfl (lv_at hl 2 rfl) ?_
        refine lv_aload_n (pc := 147) hx hb dX9_term_147 rfl (lv_at hl 0 rfl) ?_
        refine Rcalll (rest := [.long x2]) (RrunV (pc := 148) X w (okX9_cell l hJ h) kw699 kmX9_cell ⟨rfl, rfl⟩ ⟨by decide, by decide⟩ (Rrv_0 X w) rfl hl.1 rfl (Nat.le_of_ble_eq_true rfl) dX9_term_148) w (fun r5 u6 H locs h w => ?_)
        refine lv_lmul (pc := 151) hx hb dX9_term_151 ?_
        exact Rlret (pc := 152) X w h dX9_term_152
      · have h := h.2 c_
        refine lv_aload_n (pc := 126) hx hb dX9_term_126 rfl (lv_at hl 0 rfl) ?_
        refine lv_aload_n (pc := 127) hx hb dX9_term_127 rfl (lv_at hl 0 rfl) ?_
        refine Rgf_0_32 (pc := 128) X w kw687 dX9_term_128 ?_
        refine Rpf_0_33 (pc := 131) X w kw694 dX9_term_131 (fun H locs w => ?_)
        obtain ⟨u7, e_⟩ : ∃ y : Mm, y = s32 u2 133 0 (u2.1 132 0) := ⟨_, rfl⟩
        rw [← e_] at w
        have h := h u7 e_
        refine lv_lconst (pc := 134) (v := (0 : Int64)) hx hb dX9_term_134 (by decide) ?_
        exact Rlret (pc := 135) X w h dX9_term_135
    · have h := h.2 c_
      refine lv_lload_n (pc := 105) hx hb dX9_term_105 rfl (lv_at hl 2 rfl) ?_
      exact Rlret (pc := 106) X w h dX9_term_106
  · have h := h.1 c_
    refine lv_aload_n (pc := 86) hx hb dX9_term_86 rfl (lv_at hl 0 rfl) ?_
    refine lv_aload_n (pc := 87) hx hb dX9_term_87 rfl (lv_at hl 0 rfl) ?_
    refine Rgf_0_32 (pc := 88) X w kw687 dX9_term_88 ?_
    refine Rpf_0_33 (pc := 91) X w kw694 dX9_term_91 (fun H locs w => ?_)
    obtain ⟨u8, e_⟩ : ∃ y : Mm, y = s32 u 133 0 (u.1 132 0) := ⟨_, rfl⟩
    rw [← e_] at w
    have h := h u8 e_
    refine lv_lconst (pc := 94) (v := (0 : Int64)) hx hb dX9_term_94 (by decide) ?_
    exact Rlret (pc := 95) X w h dX9_term_95
set_option maxHeartbeats 4000000 in
set_option maxRecDepth 100000 in
theorem bX9_term_31 {l : Launch} {p : Program} {e : Env} {s : State} {m : MethodId} {args : Array Value} {below : List Frame} {meth : Method} {c : Code} {D : va_G} {g : Nat → ClassId} {ad : Nat → Nat} {Q : Int64 → Mm → Prop} (X : RX p s m args meth c cX9_term RX9 4 (some .long) (Cond.code yX9_term cX9_term 4 (some .long)) D g ad (RA ad)) : ∀ (n : Nat) (u : Mm) (x1 : Int32) (x2 : Int64) (H : Heap) (locs : List Loc) (ls : Array Slot), wX9_term_b31 Q n u x1 x2 → RWd D g ad (RA ad) s u H locs → lv_has ls 4 [(0, .ref (ad 0)), (1, .int x1), (2, .long x2)] → W p l e ({ frames := 3, cells := 0, slots := 0, locals := 70 } : Room) s m args below meth c H locs 0 0 (MQ below (va_Ql Q (RB D g ad) (RA ad)) args s 0 0 (RA ad)) (F0 m 31 ls []) := by
  obtain ⟨⟨hx, hb, hml, hown, hts⟩, hr, hlocks, hK, hJ, hAA⟩ := id X
  intro n
  induction n with
  | zero =>
    intro u x1 x2 H locs ls h
    exact False.elim h
  | succ n ih =>
    intro u x1 x2 H locs ls h w hl
    unfold wX9_term_b31 at h
    refine lv_aload_n (pc := 31) hx hb dX9_term_31 rfl (lv_at hl 0 rfl) ?_
    refine Rgf_0_32 (pc := 32) X w kw687 dX9_term_32 ?_
    refine lv_iload_n (pc := 35) hx hb dX9_term_35 rfl (lv_at hl 1 rfl) ?_
    refine lv_bipush (pc := 36) (v := (6 : Int32)) hx hb dX9_term_36 (by decide) ?_
    refine lv_iadd (pc := 38) hx hb dX9_term_38 ?_
    refine lv_icmp_ge (pc := 39) (tgt := 78) hx hb dX9_term_39 (by decide) (fun c_ => ?_) (fun c_ => ?_)
    · have h := h.1 c_
      exact bX9_term_78 X u x1 x2 H locs ls h w (lv_sub hl [0, 1, 2] rfl)
    · have h := h.2 c_
      refine lv_aload_n (pc := 42) hx hb dX9_term_42 rfl (lv_at hl 0 rfl) ?_
      refine Rcalli (rest := []) (RrunV (pc := 43) X w (okX9_isFigure l hJ h) kw695 kmX9_isFigure ⟨rfl, rfl⟩ ⟨by decide, by decide⟩ (Rrv_0 X w) rfl hl.1 rfl (Nat.le_of_ble_eq_true rfl) dX9_term_43) w (fun r1 u9_ H locs h w => ?_)
      obtain ⟨hz_r1, h⟩ := h
      obtain ⟨rfl, h⟩ := h
      refine lv_if_eq (pc := 46) (tgt := 78) hx hb dX9_term_46 (by decide) (fun c_ => ?_) (fun c_ => ?_)
      · have h := h.1 c_
        exact bX9_term_78 X u x1 x2 H locs ls h w (lv_sub hl [0, 1, 2] rfl)
      · have h := h.2 c_
        refine lv_ldc2 (pc := 49) (v := (10 : Int64)) hx hb hown (hts _ (List.mem_cons_of_mem _ kw618)) dX9_term_49 ?_
        refine lv_lload_n (pc := 52) hx hb dX9_term_52 rfl (lv_at hl 2 rfl) ?_
        refine lv_lmul (pc := 53) hx hb dX9_term_53 ?_
        refine lv_aload_n (pc := 54) hx hb dX9_term_54 rfl (lv_at hl 0 rfl) ?_
        refine Rcalli (rest := [.long ((10 : Int64) * x2)]) (RrunV (pc := 55) X w (okX9_byteNow l hJ h) kw689 kmX9_byteNow ⟨rfl, rfl⟩ ⟨by decide, by decide⟩ (Rrv_0 X w) rfl hl.1 rfl (Nat.le_of_ble_eq_true rfl) dX9_term_55) w (fun r2 u9_ H locs h w => ?_)
        obtain ⟨rfl, h⟩ := h
        refine lv_i2l (pc := 58) hx hb dX9_term_58 rfl ?_
        refine lv_ladd (pc := 59) hx hb dX9_term_59 ?_
        refine lv_ldc2 (pc := 60) (v := (48 : Int64)) hx hb hown (hts _ (List.mem_cons_of_mem _ kw703)) dX9_term_60 ?_
        refine lv_lsub (pc := 63) hx hb dX9_term_63 ?_
        refine lv_topl (fun x2_3 e_ => ?_)
        have h := h x2_3 e_
        refine lv_lstore_n (pc := 64) (lv' := [(2, .long x2_3), (0, .ref (ad 0)), (1, .int x1)]) hx hb dX9_term_64 rfl hl (by decide) rfl (fun ls hl => ?_)
        refine lv_aload_n (pc := 65) hx hb dX9_term_65 rfl (lv_at hl 1 rfl) ?_
        refine lv_dup (pc := 66) hx hb dX9_term_66 rfl ?_
        refine Rgf_0_32 (pc := 67) X w kw687 dX9_term_67 ?_
        refine lv_iconst (pc := 70) (v := (1 : Int32)) hx hb dX9_term_70 (by decide) ?_
        refine lv_iadd (pc := 71) hx hb dX9_term_71 ?_
        refine Rpf_0_32 (pc := 72) X w kw687 dX9_term_72 (fun H locs w => ?_)
        obtain ⟨u4, e_⟩ : ∃ y : Mm, y = s32 u 132 0 ((u.1 132 0) + (1 : Int32)) := ⟨_, rfl⟩
        rw [← e_] at w
        have h := h u4 e_
        refine lv_goto (pc := 75) (tgt := 31) hx hb dX9_term_75 (by decide) ?_
        exact ih u4 x1 x2_3 H locs ls h w (lv_sub hl [1, 2, 0] rfl)
set_option maxHeartbeats 4000000 in
set_option maxRecDepth 100000 in
theorem okX9_term (l : Launch) {D : va_G} {g : Nat → ClassId} {ad : Nat → Nat} (hJ : RJ ad) {u : Mm} {Q : Int64 → Mm → Prop} (h : wX9_term u Q) : Met l yX9_term (Cond.code yX9_term cX9_term 4 (some .long) :: gt) ({ frames := 3, cells := 0, slots := 0, locals := 70 } : Room) (RPc D g ad u [.ref (ad 0)]) (va_Ql Q (RB D g ad) (RA ad)) 0 0 (RA ad) := by
  refine Met.ofW (cc := cX9_term) (maxL := 4) (ret := (some .long)) (by decide) rfl ?_
  intro p e s m args below meth c s₁ B hml hv
  refine Rentry (own := RX9) B hml hv hJ rfl (Nat.le_of_ble_eq_true rfl) (fun ls H locs X w hl => ?_)
  obtain ⟨⟨hx, hb, hml, hown, hts⟩, hr, hlocks, hK, hJ, hAA⟩ := id X
  have hl : lv_has ls 4 [(0, .ref (ad 0))] := hl
  unfold wX9_term at h
  refine lv_aload_n (pc := 0) hx hb dX9_term_0 rfl (lv_at hl 0 rfl) ?_
  refine Rcalli (rest := []) (RrunV (pc := 1) X w (okX9_byteNow l hJ h) kw689 kmX9_byteNow ⟨rfl, rfl⟩ ⟨by decide, by decide⟩ (Rrv_0 X w) rfl hl.1 rfl (Nat.le_of_ble_eq_true rfl) dX9_term_1) w (fun r1 u9_ H locs h w => ?_)
  obtain ⟨rfl, h⟩ := h
  refine lv_bipush (pc := 4) (v := (99 : Int32)) hx hb dX9_term_4 (by decide) ?_
  refine lv_icmp_ne (pc := 6) (tgt := 24) hx hb dX9_term_6 (by decide) (fun c_ => ?_) (fun c_ => ?_)
  · have h := h.2 c_
    refine lv_aload_n (pc := 24) hx hb dX9_term_24 rfl (lv_at hl 0 rfl) ?_
    refine Rgf_0_32 (pc := 25) X w kw687 dX9_term_25 ?_
    refine lv_topi (fun x1_2 e_ => ?_)
    have h := h x1_2 e_
    refine lv_istore_n (pc := 28) (lv' := [(1, .int x1_2), (0, .ref (ad 0))]) hx hb dX9_term_28 rfl hl (by decide) rfl (fun ls hl => ?_)
    refine lv_lconst (pc := 29) (v := (0 : Int64)) hx hb dX9_term_29 (by decide) ?_
    refine lv_lstore_n (pc := 30) (lv' := [(2, .long (0 : Int64)), (1, .int x1_2), (0, .ref (ad 0))]) hx hb dX9_term_30 rfl hl (by decide) rfl (fun ls hl => ?_)
    obtain ⟨n9, h⟩ := h
    exact bX9_term_31 X n9 u x1_2 (0 : Int64) H locs ls h w (lv_sub hl [2, 1, 0] rfl)
  · have h := h.1 c_
    refine lv_aload_n (pc := 9) hx hb dX9_term_9 rfl (lv_at hl 0 rfl) ?_
    refine lv_dup (pc := 10) hx hb dX9_term_10 rfl ?_
    refine Rgf_0_32 (pc := 11) X w kw687 dX9_term_11 ?_
    refine lv_iconst (pc := 14) (v := (1 : Int32)) hx hb dX9_term_14 (by decide) ?_
    refine lv_iadd (pc := 15) hx hb dX9_term_15 ?_
    refine Rpf_0_32 (pc := 16) X w kw687 dX9_term_16 (fun H locs w => ?_)
    obtain ⟨u3, e_⟩ : ∃ y : Mm, y = s32 u 132 0 ((u.1 132 0) + (1 : Int32)) := ⟨_, rfl⟩
    rw [← e_] at w
    have h := h u3 e_
    refine lv_aload_n (pc := 19) hx hb dX9_term_19 rfl (lv_at hl 0 rfl) ?_
    refine Rcalll (rest := []) (RrunV (pc := 20) X w (okX9_cell l hJ h) kw699 kmX9_cell ⟨rfl, rfl⟩ ⟨by decide, by decide⟩ (Rrv_0 X w) rfl hl.1 rfl (Nat.le_of_ble_eq_true rfl) dX9_term_20) w (fun r4 u5 H locs h w => ?_)
    exact Rlret (pc := 23) X w h dX9_term_23
set_option maxHeartbeats 4000000 in
set_option maxRecDepth 100000 in
theorem bX9_sum_45 {l : Launch} {p : Program} {e : Env} {s : State} {m : MethodId} {args : Array Value} {below : List Frame} {meth : Method} {c : Code} {D : va_G} {g : Nat → ClassId} {ad : Nat → Nat} {Q : Int64 → Mm → Prop} {k5 : Mm → Int64 → Prop} (X : RX p s m args meth c cX9_sum RX9 4 (some .long) (Cond.code yX9_sum cX9_sum 4 (some .long)) D g ad (RA ad)) (hk5 : ∀ (u : Mm) (x1 : Int64) (H : Heap) (locs : List Loc) (ls : Array Slot), k5 u x1 → RWd D g ad (RA ad) s u H locs → lv_has ls 4 [(0, .ref (ad 0)), (1, .long x1)] → W p l e ({ frames := 4, cells := 0, slots := 0, locals := 93 } : Room) s m args below meth c H locs 0 0 (MQ below (va_Ql Q (RB D g ad) (RA ad)) args s 0 0 (RA ad)) (F0 m 5 ls [])) : ∀ (u : Mm) (x1 : Int64) (y0 : Int32) (H : Heap) (locs : List Loc) (ls : Array Slot), wX9_sum_b45 k5 Q u x1 y0 → RWd D g ad (RA ad) s u H locs → lv_has ls 4 [(0, .ref (ad 0)), (1, .long x1)] → W p l e ({ frames := 4, cells := 0, slots := 0, locals := 93 } : Room) s m args below meth c H locs 0 0 (MQ below (va_Ql Q (RB D g ad) (RA ad)) args s 0 0 (RA ad)) (F0 m 45 ls [.int y0]) := by
  obtain ⟨⟨hx, hb, hml, hown, hts⟩, hr, hlocks, hK, hJ, hAA⟩ := id X
  intro u x1 y0 H locs ls h w hl
  unfold wX9_sum_b45 at h
  refine lv_istore_n (pc := 45) (lv' := [(3, .int y0), (0, .ref (ad 0)), (1, .long x1)]) hx hb dX9_sum_45 rfl hl (by decide) rfl (fun ls hl => ?_)
  refine lv_aload_n (pc := 46) hx hb dX9_sum_46 rfl (lv_at hl 1 rfl) ?_
  refine lv_dup (pc := 47) hx hb dX9_sum_47 rfl ?_
  refine Rgf_0_32 (pc := 48) X w kw687 dX9_sum_48 ?_
  refine lv_iconst (pc := 51) (v := (1 : Int32)) hx hb dX9_sum_51 (by decide) ?_
  refine lv_iadd (pc := 52) hx hb dX9_sum_52 ?_
  refine Rpf_0_32 (pc := 53) X w kw687 dX9_sum_53 (fun H locs w => ?_)
  obtain ⟨u1, e_⟩ : ∃ y : Mm, y = s32 u 132 0 ((u.1 132 0) + (1 : Int32)) := ⟨_, rfl⟩
  rw [← e_] at w
  have h := h u1 e_
  refine lv_lload_n (pc := 56) hx hb dX9_sum_56 rfl (lv_at hl 2 rfl) ?_
  refine lv_iload_n (pc := 57) hx hb dX9_sum_57 rfl (lv_at hl 0 rfl) ?_
  refine lv_i2l (pc := 58) hx hb dX9_sum_58 rfl ?_
  refine lv_aload_n (pc := 59) hx hb dX9_sum_59 rfl (lv_at hl 1 rfl) ?_
  refine Rcalll (rest := [.long y0.toInt64, .long x1]) (RrunV (pc := 60) X w (okX9_term l hJ h) kw704 kmX9_term ⟨rfl, rfl⟩ ⟨by decide, by decide⟩ (Rrv_0 X w) rfl hl.1 rfl (Nat.le_of_ble_eq_true rfl) dX9_sum_60) w (fun r2 u3 H locs h w => ?_)
  refine lv_lmul (pc := 63) hx hb dX9_sum_63 ?_
  refine lv_ladd (pc := 64) hx hb dX9_sum_64 ?_
  refine lv_topl (fun x1_4 e_ => ?_)
  have h := h x1_4 e_
  refine lv_lstore_n (pc := 65) (lv' := [(1, .long x1_4), (3, .int y0), (0, .ref (ad 0))]) hx hb dX9_sum_65 rfl hl (by decide) rfl (fun ls hl => ?_)
  refine lv_goto (pc := 66) (tgt := 5) hx hb dX9_sum_66 (by decide) ?_
  exact hk5 u3 x1_4 H locs ls h w (lv_sub hl [2, 0] rfl)
set_option maxHeartbeats 4000000 in
set_option maxRecDepth 100000 in
theorem bX9_sum_31 {l : Launch} {p : Program} {e : Env} {s : State} {m : MethodId} {args : Array Value} {below : List Frame} {meth : Method} {c : Code} {D : va_G} {g : Nat → ClassId} {ad : Nat → Nat} {Q : Int64 → Mm → Prop} {k5 : Mm → Int64 → Prop} (X : RX p s m args meth c cX9_sum RX9 4 (some .long) (Cond.code yX9_sum cX9_sum 4 (some .long)) D g ad (RA ad)) (hk5 : ∀ (u : Mm) (x1 : Int64) (H : Heap) (locs : List Loc) (ls : Array Slot), k5 u x1 → RWd D g ad (RA ad) s u H locs → lv_has ls 4 [(0, .ref (ad 0)), (1, .long x1)] → W p l e ({ frames := 4, cells := 0, slots := 0, locals := 93 } : Room) s m args below meth c H locs 0 0 (MQ below (va_Ql Q (RB D g ad) (RA ad)) args s 0 0 (RA ad)) (F0 m 5 ls [])) : ∀ (u : Mm) (x1 : Int64) (H : Heap) (locs : List Loc) (ls : Array Slot), wX9_sum_b31 k5 Q u x1 → RWd D g ad (RA ad) s u H locs → lv_has ls 4 [(0, .ref (ad 0)), (1, .long x1)] → W p l e ({ frames := 4, cells := 0, slots := 0, locals := 93 } : Room) s m args below meth c H locs 0 0 (MQ below (va_Ql Q (RB D g ad) (RA ad)) args s 0 0 (RA ad)) (F0 m 31 ls []) := by
  obtain ⟨⟨hx, hb, hml, hown, hts⟩, hr, hlocks, hK, hJ, hAA⟩ := id X
  intro u x1 H locs ls h w hl
  unfold wX9_sum_b31 at h
  refine lv_aload_n (pc := 31) hx hb dX9_sum_31 rfl (lv_at hl 0 rfl) ?_
  refine Rcalli (rest := []) (RrunV (pc := 32) X w (okX9_byteNow l hJ h) kw689 kmX9_byteNow ⟨rfl, rfl⟩ ⟨by decide, by decide⟩ (Rrv_0 X w) rfl hl.1 rfl (Nat.le_of_ble_eq_true rfl) dX9_sum_32) w (fun r1 u9_ H locs h w => ?_)
  obtain ⟨rfl, h⟩ := h
  refine lv_bipush (pc := 35) (v := (43 : Int32)) hx hb dX9_sum_35 (by decide) ?_
  refine lv_icmp_ne (pc := 37) (tgt := 44) hx hb dX9_sum_37 (by decide) (fun c_ => ?_) (fun c_ => ?_)
  · have h := h.2 c_
    refine lv_iconst (pc := 44) (v := (-1 : Int32)) hx hb dX9_sum_44 (by decide) ?_
    refine bX9_sum_45 X ?_ u x1 (-1 : Int32) H locs ls h w (lv_sub hl [0, 1] rfl)
    · intro u x1 H locs ls h w hl
      exact hk5 u x1 H locs ls h w (lv_sub hl [0, 1] rfl)
  · have h := h.1 c_
    refine lv_iconst (pc := 40) (v := (1 : Int32)) hx hb dX9_sum_40 (by decide) ?_
    refine lv_goto (pc := 41) (tgt := 45) hx hb dX9_sum_41 (by decide) ?_
    refine bX9_sum_45 X ?_ u x1 (1 : Int32) H locs ls h w (lv_sub hl [0, 1] rfl)
    · intro u x1 H locs ls h w hl
      exact hk5 u x1 H locs ls h w (lv_sub hl [0, 1] rfl)
set_option maxHeartbeats 4000000 in
set_option maxRecDepth 100000 in
theorem bX9_sum_5 {l : Launch} {p : Program} {e : Env} {s : State} {m : MethodId} {args : Array Value} {below : List Frame} {meth : Method} {c : Code} {D : va_G} {g : Nat → ClassId} {ad : Nat → Nat} {Q : Int64 → Mm → Prop} (X : RX p s m args meth c cX9_sum RX9 4 (some .long) (Cond.code yX9_sum cX9_sum 4 (some .long)) D g ad (RA ad)) : ∀ (n : Nat) (u : Mm) (x1 : Int64) (H : Heap) (locs : List Loc) (ls : Array Slot), wX9_sum_b5 Q n u x1 → RWd D g ad (RA ad) s u H locs → lv_has ls 4 [(0, .ref (ad 0)), (1, .long x1)] → W p l e ({ frames := 4, cells := 0, slots := 0, locals := 93 } : Room) s m args below meth c H locs 0 0 (MQ below (va_Ql Q (RB D g ad) (RA ad)) args s 0 0 (RA ad)) (F0 m 5 ls []) := by
  obtain ⟨⟨hx, hb, hml, hown, hts⟩, hr, hlocks, hK, hJ, hAA⟩ := id X
  intro n
  induction n with
  | zero =>
    intro u x1 H locs ls h
    exact False.elim h
  | succ n ih =>
    intro u x1 H locs ls h w hl
    unfold wX9_sum_b5 at h
    refine lv_aload_n (pc := 5) hx hb dX9_sum_5 rfl (lv_at hl 0 rfl) ?_
    refine Rgf_0_33 (pc := 6) X w kw694 dX9_sum_6 ?_
    refine lv_iconst (pc := 9) (v := (-1 : Int32)) hx hb dX9_sum_9 (by decide) ?_
    refine lv_icmp_ne (pc := 10) (tgt := 69) hx hb dX9_sum_10 (by decide) (fun c_ => ?_) (fun c_ => ?_)
    · have h := h.2 c_
      refine lv_lload_n (pc := 69) hx hb dX9_sum_69 rfl (lv_at hl 1 rfl) ?_
      exact Rlret (pc := 70) X w h dX9_sum_70
    · have h := h.1 c_
      refine lv_aload_n (pc := 13) hx hb dX9_sum_13 rfl (lv_at hl 0 rfl) ?_
      refine Rcalli (rest := []) (RrunV (pc := 14) X w (okX9_byteNow l hJ h) kw689 kmX9_byteNow ⟨rfl, rfl⟩ ⟨by decide, by decide⟩ (Rrv_0 X w) rfl hl.1 rfl (Nat.le_of_ble_eq_true rfl) dX9_sum_14) w (fun r1 u9_ H locs h w => ?_)
      obtain ⟨rfl, h⟩ := h
      refine lv_bipush (pc := 17) (v := (43 : Int32)) hx hb dX9_sum_17 (by decide) ?_
      refine lv_icmp_eq (pc := 19) (tgt := 31) hx hb dX9_sum_19 (by decide) (fun c_ => ?_) (fun c_ => ?_)
      · have h := h.1 c_
        refine bX9_sum_31 X ?_ u x1 H locs ls h w (lv_sub hl [0, 1] rfl)
        · intro u x1 H locs ls h w hl
          exact ih u x1 H locs ls h w (lv_sub hl [0, 1] rfl)
      · have h := h.2 c_
        refine lv_aload_n (pc := 22) hx hb dX9_sum_22 rfl (lv_at hl 0 rfl) ?_
        refine Rcalli (rest := []) (RrunV (pc := 23) X w (okX9_byteNow l hJ h) kw689 kmX9_byteNow ⟨rfl, rfl⟩ ⟨by decide, by decide⟩ (Rrv_0 X w) rfl hl.1 rfl (Nat.le_of_ble_eq_true rfl) dX9_sum_23) w (fun r2 u9_ H locs h w => ?_)
        obtain ⟨rfl, h⟩ := h
        refine lv_bipush (pc := 26) (v := (45 : Int32)) hx hb dX9_sum_26 (by decide) ?_
        refine lv_icmp_ne (pc := 28) (tgt := 69) hx hb dX9_sum_28 (by decide) (fun c_ => ?_) (fun c_ => ?_)
        · have h := h.2 c_
          refine lv_lload_n (pc := 69) hx hb dX9_sum_69 rfl (lv_at hl 1 rfl) ?_
          exact Rlret (pc := 70) X w h dX9_sum_70
        · have h := h.1 c_
          refine bX9_sum_31 X ?_ u x1 H locs ls h w (lv_sub hl [0, 1] rfl)
          · intro u x1 H locs ls h w hl
            exact ih u x1 H locs ls h w (lv_sub hl [0, 1] rfl)
set_option maxHeartbeats 4000000 in
set_option maxRecDepth 100000 in
theorem okX9_sum (l : Launch) {D : va_G} {g : Nat → ClassId} {ad : Nat → Nat} (hJ : RJ ad) {u : Mm} {Q : Int64 → Mm → Prop} (h : wX9_sum u Q) : Met l yX9_sum (Cond.code yX9_sum cX9_sum 4 (some .long) :: gt) ({ frames := 4, cells := 0, slots := 0, locals := 93 } : Room) (RPc D g ad u [.ref (ad 0)]) (va_Ql Q (RB D g ad) (RA ad)) 0 0 (RA ad) := by
  refine Met.ofW (cc := cX9_sum) (maxL := 4) (ret := (some .long)) (by decide) rfl ?_
  intro p e s m args below meth c s₁ B hml hv
  refine Rentry (own := RX9) B hml hv hJ rfl (Nat.le_of_ble_eq_true rfl) (fun ls H locs X w hl => ?_)
  obtain ⟨⟨hx, hb, hml, hown, hts⟩, hr, hlocks, hK, hJ, hAA⟩ := id X
  have hl : lv_has ls 4 [(0, .ref (ad 0))] := hl
  unfold wX9_sum at h
  refine lv_aload_n (pc := 0) hx hb dX9_sum_0 rfl (lv_at hl 0 rfl) ?_
  refine Rcalll (rest := []) (RrunV (pc := 1) X w (okX9_term l hJ h) kw704 kmX9_term ⟨rfl, rfl⟩ ⟨by decide, by decide⟩ (Rrv_0 X w) rfl hl.1 rfl (Nat.le_of_ble_eq_true rfl) dX9_sum_1) w (fun r1 u2 H locs h w => ?_)
  refine lv_lstore_n (pc := 4) (lv' := [(1, .long r1), (0, .ref (ad 0))]) hx hb dX9_sum_4 rfl hl (by decide) rfl (fun ls hl => ?_)
  obtain ⟨n9, h⟩ := h
  exact bX9_sum_5 X n9 u2 r1 H locs ls h w (lv_sub hl [1, 0] rfl)
set_option maxHeartbeats 4000000 in
set_option maxRecDepth 100000 in
theorem bX9_reads_54 {l : Launch} {p : Program} {e : Env} {s : State} {m : MethodId} {args : Array Value} {below : List Frame} {meth : Method} {c : Code} {D : va_G} {g : Nat → ClassId} {ad : Nat → Nat} {Q : Int64 → Mm → Prop} (X : RX p s m args meth c cX9_reads RX9 7 (some .long) (Cond.code yX9_reads cX9_reads 7 (some .long)) D g ad (RA ad)) : ∀ (u : Mm) (x1 : Int32) (x3 : Int64) (H : Heap) (locs : List Loc) (ls : Array Slot), wX9_reads_b54 Q u x1 x3 → RWd D g ad (RA ad) s u H locs → lv_has ls 7 [(0, .ref (ad 0)), (1, .int x1), (3, .long x3)] → W p l e ({ frames := 5, cells := 0, slots := 0, locals := 116 } : Room) s m args below meth c H locs 0 0 (MQ below (va_Ql Q (RB D g ad) (RA ad)) args s 0 0 (RA ad)) (F0 m 54 ls []) := by
  obtain ⟨⟨hx, hb, hml, hown, hts⟩, hr, hlocks, hK, hJ, hAA⟩ := id X
  intro u x1 x3 H locs ls h w hl
  unfold wX9_reads_b54 at h
  refine lv_aload_n (pc := 54) hx hb dX9_reads_54 rfl (lv_at hl 0 rfl) ?_
  refine Rgf_0_33 (pc := 55) X w kw694 dX9_reads_55 ?_
  refine lv_iconst (pc := 58) (v := (-1 : Int32)) hx hb dX9_reads_58 (by decide) ?_
  refine lv_icmp_eq (pc := 59) (tgt := 64) hx hb dX9_reads_59 (by decide) (fun c_ => ?_) (fun c_ => ?_)
  · have h := h.1 c_
    refine lv_aload_n (pc := 64) hx hb dX9_reads_64 rfl (lv_at hl 0 rfl) ?_
    refine lv_dup (pc := 65) hx hb dX9_reads_65 rfl ?_
    refine Rgf_0_32 (pc := 66) X w kw687 dX9_reads_66 ?_
    refine lv_iconst (pc := 69) (v := (1 : Int32)) hx hb dX9_reads_69 (by decide) ?_
    refine lv_iadd (pc := 70) hx hb dX9_reads_70 ?_
    refine Rpf_0_32 (pc := 71) X w kw687 dX9_reads_71 (fun H locs w => ?_)
    obtain ⟨u1, e_⟩ : ∃ y : Mm, y = s32 u 132 0 ((u.1 132 0) + (1 : Int32)) := ⟨_, rfl⟩
    rw [← e_] at w
    have h := h u1 e_
    refine lv_aload_n (pc := 74) hx hb dX9_reads_74 rfl (lv_at hl 0 rfl) ?_
    refine Rcalll (rest := []) (RrunV (pc := 75) X w (okX9_sum l hJ h) kw708 kmX9_sum ⟨rfl, rfl⟩ ⟨by decide, by decide⟩ (Rrv_0 X w) rfl hl.1 rfl (Nat.le_of_ble_eq_true rfl) dX9_reads_75) w (fun r2 u3 H locs h w => ?_)
    refine lv_lstore (pc := 78) (lv' := [(5, .long r2), (0, .ref (ad 0)), (1, .int x1), (3, .long x3)]) hx hb dX9_reads_78 hl (by decide) rfl (fun ls hl => ?_)
    refine lv_aload_n (pc := 80) hx hb dX9_reads_80 rfl (lv_at hl 1 rfl) ?_
    refine Rgf_0_33 (pc := 81) X w kw694 dX9_reads_81 ?_
    refine lv_iconst (pc := 84) (v := (-1 : Int32)) hx hb dX9_reads_84 (by decide) ?_
    refine lv_icmp_ne (pc := 85) (tgt := 109) hx hb dX9_reads_85 (by decide) (fun c_ => ?_) (fun c_ => ?_)
    · have h := h.2 c_
      refine lv_lload_n (pc := 109) hx hb dX9_reads_109 rfl (lv_at hl 3 rfl) ?_
      refine lv_lload (pc := 110) hx hb dX9_reads_110 (lv_at hl 0 rfl) ?_
      refine lv_lsub (pc := 112) hx hb dX9_reads_112 ?_
      exact Rlret (pc := 113) X w h dX9_reads_113
    · have h := h.1 c_
      refine lv_aload_n (pc := 88) hx hb dX9_reads_88 rfl (lv_at hl 1 rfl) ?_
      refine Rgf_0_32 (pc := 89) X w kw687 dX9_reads_89 ?_
      refine lv_aload_n (pc := 92) hx hb dX9_reads_92 rfl (lv_at hl 1 rfl) ?_
      refine Rgf_0_29 (pc := 93) X w kw685 dX9_reads_93 ?_
      refine lv_iload_n (pc := 96) hx hb dX9_reads_96 rfl (lv_at hl 2 rfl) ?_
      refine Rld_24 (pc := 97) X w h.1 dX9_reads_97 ?_
      have h := h.2
      refine lv_icmp_ge (pc := 98) (tgt := 109) hx hb dX9_reads_98 (by decide) (fun c_ => ?_) (fun c_ => ?_)
      · have h := h.1 c_
        refine lv_lload_n (pc := 109) hx hb dX9_reads_109 rfl (lv_at hl 3 rfl) ?_
        refine lv_lload (pc := 110) hx hb dX9_reads_110 (lv_at hl 0 rfl) ?_
        refine lv_lsub (pc := 112) hx hb dX9_reads_112 ?_
        exact Rlret (pc := 113) X w h dX9_reads_113
      · have h := h.2 c_
        refine lv_aload_n (pc := 101) hx hb dX9_reads_101 rfl (lv_at hl 1 rfl) ?_
        refine lv_aload_n (pc := 102) hx hb dX9_reads_102 rfl (lv_at hl 1 rfl) ?_
        refine Rgf_0_32 (pc := 103) X w kw687 dX9_reads_103 ?_
        refine Rpf_0_33 (pc := 106) X w kw694 dX9_reads_106 (fun H locs w => ?_)
        obtain ⟨u4, e_⟩ : ∃ y : Mm, y = s32 u3 133 0 (u3.1 132 0) := ⟨_, rfl⟩
        rw [← e_] at w
        have h := h u4 e_
        refine lv_lload_n (pc := 109) hx hb dX9_reads_109 rfl (lv_at hl 3 rfl) ?_
        refine lv_lload (pc := 110) hx hb dX9_reads_110 (lv_at hl 0 rfl) ?_
        refine lv_lsub (pc := 112) hx hb dX9_reads_112 ?_
        exact Rlret (pc := 113) X w h dX9_reads_113
  · have h := h.2 c_
    refine lv_lconst (pc := 62) (v := (0 : Int64)) hx hb dX9_reads_62 (by decide) ?_
    exact Rlret (pc := 63) X w h dX9_reads_63
set_option maxHeartbeats 4000000 in
set_option maxRecDepth 100000 in
theorem okX9_reads (l : Launch) {D : va_G} {g : Nat → ClassId} {ad : Nat → Nat} (hJ : RJ ad) {u : Mm} {a1 : Int32} {a2 : Int32} {Q : Int64 → Mm → Prop} (h : wX9_reads u a1 a2 Q) : Met l yX9_reads (Cond.code yX9_reads cX9_reads 7 (some .long) :: gt) ({ frames := 5, cells := 0, slots := 0, locals := 116 } : Room) (RPc D g ad u [.ref (ad 0), .int a1, .int a2]) (va_Ql Q (RB D g ad) (RA ad)) 0 0 (RA ad) := by
  refine Met.ofW (cc := cX9_reads) (maxL := 7) (ret := (some .long)) (by decide) rfl ?_
  intro p e s m args below meth c s₁ B hml hv
  refine Rentry (own := RX9) B hml hv hJ rfl (Nat.le_of_ble_eq_true rfl) (fun ls H locs X w hl => ?_)
  obtain ⟨⟨hx, hb, hml, hown, hts⟩, hr, hlocks, hK, hJ, hAA⟩ := id X
  have hl : lv_has ls 7 [(0, .ref (ad 0)), (1, .int a1), (2, .int a2)] := hl
  unfold wX9_reads at h
  refine lv_aload_n (pc := 0) hx hb dX9_reads_0 rfl (lv_at hl 0 rfl) ?_
  refine Rcallv (rest := []) (RrunV (pc := 1) X w (okX9_looks l hJ h) kw595 kmX9_looks ⟨rfl, rfl⟩ ⟨by decide, by decide⟩ (Rrv_0 X w) rfl hl.1 rfl (Nat.le_of_ble_eq_true rfl) dX9_reads_1) w (fun u2 H locs h w => ?_)
  refine lv_aload_n (pc := 4) hx hb dX9_reads_4 rfl (lv_at hl 0 rfl) ?_
  refine lv_iload_n (pc := 5) hx hb dX9_reads_5 rfl (lv_at hl 1 rfl) ?_
  refine Rpf_0_31 (pc := 6) X w kw688 dX9_reads_6 (fun H locs w => ?_)
  obtain ⟨u3, e_⟩ : ∃ y : Mm, y = s32 u2 131 0 a1 := ⟨_, rfl⟩
  rw [← e_] at w
  have h := h u3 e_
  refine lv_aload_n (pc := 9) hx hb dX9_reads_9 rfl (lv_at hl 0 rfl) ?_
  refine lv_iload_n (pc := 10) hx hb dX9_reads_10 rfl (lv_at hl 2 rfl) ?_
  refine Rpf_0_34 (pc := 11) X w kw693 dX9_reads_11 (fun H locs w => ?_)
  obtain ⟨u4, e_⟩ : ∃ y : Mm, y = s32 u3 134 0 a2 := ⟨_, rfl⟩
  rw [← e_] at w
  have h := h u4 e_
  refine lv_aload_n (pc := 14) hx hb dX9_reads_14 rfl (lv_at hl 0 rfl) ?_
  refine lv_iconst (pc := 15) (v := (0 : Int32)) hx hb dX9_reads_15 (by decide) ?_
  refine Rpf_0_32 (pc := 16) X w kw687 dX9_reads_16 (fun H locs w => ?_)
  obtain ⟨u5, e_⟩ : ∃ y : Mm, y = s32 u4 132 0 (0 : Int32) := ⟨_, rfl⟩
  rw [← e_] at w
  have h := h u5 e_
  refine lv_aload_n (pc := 19) hx hb dX9_reads_19 rfl (lv_at hl 0 rfl) ?_
  refine lv_iconst (pc := 20) (v := (-1 : Int32)) hx hb dX9_reads_20 (by decide) ?_
  refine Rpf_0_33 (pc := 21) X w kw694 dX9_reads_21 (fun H locs w => ?_)
  obtain ⟨u6, e_⟩ : ∃ y : Mm, y = s32 u5 133 0 (-1 : Int32) := ⟨_, rfl⟩
  rw [← e_] at w
  have h := h u6 e_
  refine lv_aload_n (pc := 24) hx hb dX9_reads_24 rfl (lv_at hl 0 rfl) ?_
  refine Rcalll (rest := []) (RrunV (pc := 25) X w (okX9_sum l hJ h) kw708 kmX9_sum ⟨rfl, rfl⟩ ⟨by decide, by decide⟩ (Rrv_0 X w) rfl hl.1 rfl (Nat.le_of_ble_eq_true rfl) dX9_reads_25) w (fun r7 u8 H locs h w => ?_)
  refine lv_lstore_n (pc := 28) (lv' := [(3, .long r7), (0, .ref (ad 0)), (1, .int a1), (2, .int a2)]) hx hb dX9_reads_28 rfl hl (by decide) rfl (fun ls hl => ?_)
  refine lv_aload_n (pc := 29) hx hb dX9_reads_29 rfl (lv_at hl 1 rfl) ?_
  refine Rgf_0_33 (pc := 30) X w kw694 dX9_reads_30 ?_
  refine lv_iconst (pc := 33) (v := (-1 : Int32)) hx hb dX9_reads_33 (by decide) ?_
  refine lv_icmp_ne (pc := 34) (tgt := 54) hx hb dX9_reads_34 (by decide) (fun c_ => ?_) (fun c_ => ?_)
  · have h := h.2 c_
    exact bX9_reads_54 X u8 a1 r7 H locs ls h w (lv_sub hl [1, 2, 0] rfl)
  · have h := h.1 c_
    refine lv_aload_n (pc := 37) hx hb dX9_reads_37 rfl (lv_at hl 1 rfl) ?_
    refine Rcalli (rest := []) (RrunV (pc := 38) X w (okX9_byteNow l hJ h) kw689 kmX9_byteNow ⟨rfl, rfl⟩ ⟨by decide, by decide⟩ (Rrv_0 X w) rfl hl.1 rfl (Nat.le_of_ble_eq_true rfl) dX9_reads_38) w (fun r9 u9_ H locs h w => ?_)
    obtain ⟨rfl, h⟩ := h
    refine lv_bipush (pc := 41) (v := (61 : Int32)) hx hb dX9_reads_41 (by decide) ?_
    refine lv_icmp_eq (pc := 43) (tgt := 54) hx hb dX9_reads_43 (by decide) (fun c_ => ?_) (fun c_ => ?_)
    · have h := h.1 c_
      exact bX9_reads_54 X u8 a1 r7 H locs ls h w (lv_sub hl [1, 2, 0] rfl)
    · have h := h.2 c_
      refine lv_aload_n (pc := 46) hx hb dX9_reads_46 rfl (lv_at hl 1 rfl) ?_
      refine lv_aload_n (pc := 47) hx hb dX9_reads_47 rfl (lv_at hl 1 rfl) ?_
      refine Rgf_0_32 (pc := 48) X w kw687 dX9_reads_48 ?_
      refine Rpf_0_33 (pc := 51) X w kw694 dX9_reads_51 (fun H locs w => ?_)
      obtain ⟨u10, e_⟩ : ∃ y : Mm, y = s32 u8 133 0 (u8.1 132 0) := ⟨_, rfl⟩
      rw [← e_] at w
      have h := h u10 e_
      exact bX9_reads_54 X u10 a1 r7 H locs ls h w (lv_sub hl [1, 2, 0] rfl)
set_option maxHeartbeats 4000000 in
set_option maxRecDepth 100000 in
theorem okX9_fault (l : Launch) {D : va_G} {g : Nat → ClassId} {ad : Nat → Nat} (hJ : RJ ad) {u : Mm} {a1 : Int32} {Q : Int32 → Mm → Prop} (h : wX9_fault u a1 Q) : Met l yX9_fault (Cond.code yX9_fault cX9_fault 4 (some .int) :: gt) ({ frames := 6, cells := 0, slots := 0, locals := 142 } : Room) (RPc D g ad u [.ref (ad 0), .int a1]) (va_Qi Q (RB D g ad) (RA ad)) 0 0 (RA ad) := by
  refine Met.ofW (cc := cX9_fault) (maxL := 4) (ret := (some .int)) (by decide) rfl ?_
  intro p e s m args below meth c s₁ B hml hv
  refine Rentry (own := RX9) B hml hv hJ rfl (Nat.le_of_ble_eq_true rfl) (fun ls H locs X w hl => ?_)
  obtain ⟨⟨hx, hb, hml, hown, hts⟩, hr, hlocks, hK, hJ, hAA⟩ := id X
  have hl : lv_has ls 4 [(0, .ref (ad 0)), (1, .int a1)] := hl
  unfold wX9_fault at h
  refine lv_iload_n (pc := 0) hx hb dX9_fault_0 rfl (lv_at hl 1 rfl) ?_
  refine Rcalli (rest := []) (RrunS (pc := 1) X w (okX9_isLaw l hJ h) kw681 kmX9_isLaw ⟨rfl, rfl⟩ ⟨by decide, by decide⟩ rfl hl.1 rfl (Nat.le_of_ble_eq_true rfl) dX9_fault_1) w (fun r1 u9_ H locs h w => ?_)
  obtain ⟨hz_r1, h⟩ := h
  obtain ⟨rfl, h⟩ := h
  refine lv_if_ne (pc := 4) (tgt := 10) hx hb dX9_fault_4 (by decide) (fun c_ => ?_) (fun c_ => ?_)
  · have h := h.2 c_
    refine lv_aload_n (pc := 10) hx hb dX9_fault_10 rfl (lv_at hl 0 rfl) ?_
    refine lv_iload_n (pc := 11) hx hb dX9_fault_11 rfl (lv_at hl 1 rfl) ?_
    refine lv_iconst (pc := 12) (v := (0 : Int32)) hx hb dX9_fault_12 (by decide) ?_
    refine Rcalll (rest := []) (RrunV (pc := 13) X w (okX9_reads l hJ h) kw712 kmX9_reads ⟨rfl, rfl⟩ ⟨by decide, by decide⟩ (Rrv_0 X w) rfl hl.1 rfl (Nat.le_of_ble_eq_true rfl) dX9_fault_13) w (fun r2 u3 H locs h w => ?_)
    refine lv_lstore_n (pc := 16) (lv' := [(2, .long r2), (0, .ref (ad 0)), (1, .int a1)]) hx hb dX9_fault_16 rfl hl (by decide) rfl (fun ls hl => ?_)
    refine lv_aload_n (pc := 17) hx hb dX9_fault_17 rfl (lv_at hl 1 rfl) ?_
    refine Rgf_0_33 (pc := 18) X w kw694 dX9_fault_18 ?_
    exact Riret (pc := 21) X w h dX9_fault_21
  · have h := h.1 c_
    refine lv_bipush (pc := 7) (v := (-2 : Int32)) hx hb dX9_fault_7 (by decide) ?_
    exact Riret (pc := 9) X w h dX9_fault_9
set_option maxHeartbeats 4000000 in
set_option maxRecDepth 100000 in
theorem okX9_left (l : Launch) {D : va_G} {g : Nat → ClassId} {ad : Nat → Nat} (hJ : RJ ad) {u : Mm} {a1 : Int32} {a2 : Int32} {Q : Int64 → Mm → Prop} (h : wX9_left u a1 a2 Q) : Met l yX9_left (Cond.code yX9_left cX9_left 5 (some .long) :: gt) ({ frames := 6, cells := 0, slots := 0, locals := 142 } : Room) (RPc D g ad u [.ref (ad 0), .int a1, .int a2]) (va_Ql Q (RB D g ad) (RA ad)) 0 0 (RA ad) := by
  refine Met.ofW (cc := cX9_left) (maxL := 5) (ret := (some .long)) (by decide) rfl ?_
  intro p e s m args below meth c s₁ B hml hv
  refine Rentry (own := RX9) B hml hv hJ rfl (Nat.le_of_ble_eq_true rfl) (fun ls H locs X w hl => ?_)
  obtain ⟨⟨hx, hb, hml, hown, hts⟩, hr, hlocks, hK, hJ, hAA⟩ := id X
  have hl : lv_has ls 5 [(0, .ref (ad 0)), (1, .int a1), (2, .int a2)] := hl
  unfold wX9_left at h
  refine lv_iload_n (pc := 0) hx hb dX9_left_0 rfl (lv_at hl 1 rfl) ?_
  refine Rcalli (rest := []) (RrunS (pc := 1) X w (okX9_isLaw l hJ h) kw681 kmX9_isLaw ⟨rfl, rfl⟩ ⟨by decide, by decide⟩ rfl hl.1 rfl (Nat.le_of_ble_eq_true rfl) dX9_left_1) w (fun r1 u9_ H locs h w => ?_)
  obtain ⟨hz_r1, h⟩ := h
  obtain ⟨rfl, h⟩ := h
  refine lv_if_eq (pc := 4) (tgt := 14) hx hb dX9_left_4 (by decide) (fun c_ => ?_) (fun c_ => ?_)
  · have h := h.1 c_
    refine lv_ldc2 (pc := 14) (v := (-9223372036854775806 : Int64)) hx hb hown (hts _ (List.mem_cons_of_mem _ kw601)) dX9_left_14 ?_
    exact Rlret (pc := 17) X w h dX9_left_17
  · have h := h.2 c_
    refine lv_iload_n (pc := 7) hx hb dX9_left_7 rfl (lv_at hl 2 rfl) ?_
    refine Rcalli (rest := []) (RrunS (pc := 8) X w (okX9_isQuarter l hJ h) kw665 kmX9_isQuarter ⟨rfl, rfl⟩ ⟨by decide, by decide⟩ rfl hl.1 rfl (Nat.le_of_ble_eq_true rfl) dX9_left_8) w (fun r2 u9_ H locs h w => ?_)
    obtain ⟨hz_r2, h⟩ := h
    obtain ⟨rfl, h⟩ := h
    refine lv_if_ne (pc := 11) (tgt := 18) hx hb dX9_left_11 (by decide) (fun c_ => ?_) (fun c_ => ?_)
    · have h := h.2 c_
      refine lv_aload_n (pc := 18) hx hb dX9_left_18 rfl (lv_at hl 0 rfl) ?_
      refine lv_iload_n (pc := 19) hx hb dX9_left_19 rfl (lv_at hl 1 rfl) ?_
      refine lv_iload_n (pc := 20) hx hb dX9_left_20 rfl (lv_at hl 2 rfl) ?_
      refine Rcalll (rest := []) (RrunV (pc := 21) X w (okX9_reads l hJ h) kw712 kmX9_reads ⟨rfl, rfl⟩ ⟨by decide, by decide⟩ (Rrv_0 X w) rfl hl.1 rfl (Nat.le_of_ble_eq_true rfl) dX9_left_21) w (fun r3 u4 H locs h w => ?_)
      refine lv_lstore_n (pc := 24) (lv' := [(3, .long r3), (0, .ref (ad 0)), (1, .int a1), (2, .int a2)]) hx hb dX9_left_24 rfl hl (by decide) rfl (fun ls hl => ?_)
      refine lv_aload_n (pc := 25) hx hb dX9_left_25 rfl (lv_at hl 1 rfl) ?_
      refine Rgf_0_33 (pc := 26) X w kw694 dX9_left_26 ?_
      refine lv_iconst (pc := 29) (v := (-1 : Int32)) hx hb dX9_left_29 (by decide) ?_
      refine lv_icmp_ne (pc := 30) (tgt := 37) hx hb dX9_left_30 (by decide) (fun c_ => ?_) (fun c_ => ?_)
      · have h := h.2 c_
        refine lv_ldc2 (pc := 37) (v := (-9223372036854775805 : Int64)) hx hb hown (hts _ (List.mem_cons_of_mem _ kw600)) dX9_left_37 ?_
        exact Rlret (pc := 40) X w h dX9_left_40
      · have h := h.1 c_
        refine lv_lload_n (pc := 33) hx hb dX9_left_33 rfl (lv_at hl 0 rfl) ?_
        refine lv_goto (pc := 34) (tgt := 40) hx hb dX9_left_34 (by decide) ?_
        exact Rlret (pc := 40) X w h dX9_left_40
    · have h := h.1 c_
      refine lv_ldc2 (pc := 14) (v := (-9223372036854775806 : Int64)) hx hb hown (hts _ (List.mem_cons_of_mem _ kw601)) dX9_left_14 ?_
      exact Rlret (pc := 17) X w h dX9_left_17
set_option maxHeartbeats 4000000 in
set_option maxRecDepth 100000 in
theorem bX9_unkept_14 {l : Launch} {p : Program} {e : Env} {s : State} {m : MethodId} {args : Array Value} {below : List Frame} {meth : Method} {c : Code} {D : va_G} {g : Nat → ClassId} {ad : Nat → Nat} {Q : Int32 → Mm → Prop} (X : RX p s m args meth c cX9_unkept RX9 6 (some .int) (Cond.code yX9_unkept cX9_unkept 6 (some .int)) D g ad (RA ad)) : ∀ (n : Nat) (u : Mm) (x1 : Int32) (x2 : Int32) (x3 : Int32) (H : Heap) (locs : List Loc) (ls : Array Slot), wX9_unkept_b14 Q n u x1 x2 x3 → RWd D g ad (RA ad) s u H locs → lv_has ls 6 [(0, .ref (ad 0)), (1, .int x1), (2, .int x2), (3, .int x3)] → W p l e ({ frames := 6, cells := 0, slots := 0, locals := 142 } : Room) s m args below meth c H locs 0 0 (MQ below (va_Qi Q (RB D g ad) (RA ad)) args s 0 0 (RA ad)) (F0 m 14 ls []) := by
  obtain ⟨⟨hx, hb, hml, hown, hts⟩, hr, hlocks, hK, hJ, hAA⟩ := id X
  intro n
  induction n with
  | zero =>
    intro u x1 x2 x3 H locs ls h
    exact False.elim h
  | succ n ih =>
    intro u x1 x2 x3 H locs ls h w hl
    unfold wX9_unkept_b14 at h
    refine lv_iload_n (pc := 14) hx hb dX9_unkept_14 rfl (lv_at hl 3 rfl) ?_
    refine lv_iconst (pc := 15) (v := (4 : Int32)) hx hb dX9_unkept_15 (by decide) ?_
    refine lv_icmp_ge (pc := 16) (tgt := 56) hx hb dX9_unkept_16 (by decide) (fun c_ => ?_) (fun c_ => ?_)
    · have h := h.1 c_
      refine lv_iload_n (pc := 56) hx hb dX9_unkept_56 rfl (lv_at hl 2 rfl) ?_
      exact Riret (pc := 57) X w h dX9_unkept_57
    · have h := h.2 c_
      refine lv_aload_n (pc := 19) hx hb dX9_unkept_19 rfl (lv_at hl 0 rfl) ?_
      refine lv_iload_n (pc := 20) hx hb dX9_unkept_20 rfl (lv_at hl 3 rfl) ?_
      refine lv_iload_n (pc := 21) hx hb dX9_unkept_21 rfl (lv_at hl 1 rfl) ?_
      refine Rcalll (rest := []) (RrunV (pc := 22) X w (okX9_reads l hJ h) kw712 kmX9_reads ⟨rfl, rfl⟩ ⟨by decide, by decide⟩ (Rrv_0 X w) rfl hl.1 rfl (Nat.le_of_ble_eq_true rfl) dX9_unkept_22) w (fun r1 u2 H locs h w => ?_)
      refine lv_lstore (pc := 25) (lv' := [(4, .long r1), (0, .ref (ad 0)), (1, .int x1), (2, .int x2), (3, .int x3)]) hx hb dX9_unkept_25 hl (by decide) rfl (fun ls hl => ?_)
      refine lv_iload_n (pc := 27) hx hb dX9_unkept_27 rfl (lv_at hl 3 rfl) ?_
      refine lv_aload_n (pc := 28) hx hb dX9_unkept_28 rfl (lv_at hl 1 rfl) ?_
      refine Rgf_0_33 (pc := 29) X w kw694 dX9_unkept_29 ?_
      refine lv_iconst (pc := 32) (v := (-1 : Int32)) hx hb dX9_unkept_32 (by decide) ?_
      refine lv_icmp_ne (pc := 33) (tgt := 47) hx hb dX9_unkept_33 (by decide) (fun c_ => ?_) (fun c_ => ?_)
      · have h := h.2 c_
        refine lv_iconst (pc := 47) (v := (0 : Int32)) hx hb dX9_unkept_47 (by decide) ?_
        refine lv_iadd (pc := 48) hx hb dX9_unkept_48 ?_
        refine lv_topi (fun x2_3 e_ => ?_)
        have h := h x2_3 e_
        refine lv_istore_n (pc := 49) (lv' := [(2, .int x2_3), (4, .long r1), (0, .ref (ad 0)), (1, .int x1), (3, .int x3)]) hx hb dX9_unkept_49 rfl hl (by decide) rfl (fun ls hl => ?_)
        obtain ⟨x3_4, e_⟩ : ∃ y : Int32, y = x3 + (1 : Int32) := ⟨_, rfl⟩
        have h := h x3_4 e_
        refine lv_iinc (pc := 50) (v := x3_4) (lv' := [(3, .int x3_4), (2, .int x2_3), (4, .long r1), (0, .ref (ad 0)), (1, .int x1)]) hx hb dX9_unkept_50 hl (k := 4) rfl (by rw [e_]; rfl) (by decide) rfl (fun ls hl => ?_)
        refine lv_goto (pc := 53) (tgt := 14) hx hb dX9_unkept_53 (by decide) ?_
        exact ih u2 x1 x2_3 x3_4 H locs ls h w (lv_sub hl [3, 4, 1, 0] rfl)
      · have h := h.1 c_
        refine lv_lload (pc := 36) hx hb dX9_unkept_36 (lv_at hl 0 rfl) ?_
        refine lv_lconst (pc := 38) (v := (0 : Int64)) hx hb dX9_unkept_38 (by decide) ?_
        refine lq_eq (pc := 39) (tgt := 47) hx hb dX9_unkept_39 dX9_unkept_40 (by decide) (fun c_ => ?_) (fun c_ => ?_)
        · have h := h.1 c_
          refine lv_iconst (pc := 47) (v := (0 : Int32)) hx hb dX9_unkept_47 (by decide) ?_
          refine lv_iadd (pc := 48) hx hb dX9_unkept_48 ?_
          refine lv_topi (fun x2_5 e_ => ?_)
          have h := h x2_5 e_
          refine lv_istore_n (pc := 49) (lv' := [(2, .int x2_5), (4, .long r1), (0, .ref (ad 0)), (1, .int x1), (3, .int x3)]) hx hb dX9_unkept_49 rfl hl (by decide) rfl (fun ls hl => ?_)
          obtain ⟨x3_6, e_⟩ : ∃ y : Int32, y = x3 + (1 : Int32) := ⟨_, rfl⟩
          have h := h x3_6 e_
          refine lv_iinc (pc := 50) (v := x3_6) (lv' := [(3, .int x3_6), (2, .int x2_5), (4, .long r1), (0, .ref (ad 0)), (1, .int x1)]) hx hb dX9_unkept_50 hl (k := 4) rfl (by rw [e_]; rfl) (by decide) rfl (fun ls hl => ?_)
          refine lv_goto (pc := 53) (tgt := 14) hx hb dX9_unkept_53 (by decide) ?_
          exact ih u2 x1 x2_5 x3_6 H locs ls h w (lv_sub hl [3, 4, 1, 0] rfl)
        · have h := h.2 c_
          refine lv_iconst (pc := 43) (v := (1 : Int32)) hx hb dX9_unkept_43 (by decide) ?_
          refine lv_goto (pc := 44) (tgt := 48) hx hb dX9_unkept_44 (by decide) ?_
          refine lv_iadd (pc := 48) hx hb dX9_unkept_48 ?_
          refine lv_topi (fun x2_7 e_ => ?_)
          have h := h x2_7 e_
          refine lv_istore_n (pc := 49) (lv' := [(2, .int x2_7), (4, .long r1), (0, .ref (ad 0)), (1, .int x1), (3, .int x3)]) hx hb dX9_unkept_49 rfl hl (by decide) rfl (fun ls hl => ?_)
          obtain ⟨x3_8, e_⟩ : ∃ y : Int32, y = x3 + (1 : Int32) := ⟨_, rfl⟩
          have h := h x3_8 e_
          refine lv_iinc (pc := 50) (v := x3_8) (lv' := [(3, .int x3_8), (2, .int x2_7), (4, .long r1), (0, .ref (ad 0)), (1, .int x1)]) hx hb dX9_unkept_50 hl (k := 4) rfl (by rw [e_]; rfl) (by decide) rfl (fun ls hl => ?_)
          refine lv_goto (pc := 53) (tgt := 14) hx hb dX9_unkept_53 (by decide) ?_
          exact ih u2 x1 x2_7 x3_8 H locs ls h w (lv_sub hl [3, 4, 1, 0] rfl)
set_option maxHeartbeats 4000000 in
set_option maxRecDepth 100000 in
theorem okX9_unkept (l : Launch) {D : va_G} {g : Nat → ClassId} {ad : Nat → Nat} (hJ : RJ ad) {u : Mm} {a1 : Int32} {Q : Int32 → Mm → Prop} (h : wX9_unkept u a1 Q) : Met l yX9_unkept (Cond.code yX9_unkept cX9_unkept 6 (some .int) :: gt) ({ frames := 6, cells := 0, slots := 0, locals := 142 } : Room) (RPc D g ad u [.ref (ad 0), .int a1]) (va_Qi Q (RB D g ad) (RA ad)) 0 0 (RA ad) := by
  refine Met.ofW (cc := cX9_unkept) (maxL := 6) (ret := (some .int)) (by decide) rfl ?_
  intro p e s m args below meth c s₁ B hml hv
  refine Rentry (own := RX9) B hml hv hJ rfl (Nat.le_of_ble_eq_true rfl) (fun ls H locs X w hl => ?_)
  obtain ⟨⟨hx, hb, hml, hown, hts⟩, hr, hlocks, hK, hJ, hAA⟩ := id X
  have hl : lv_has ls 6 [(0, .ref (ad 0)), (1, .int a1)] := hl
  unfold wX9_unkept at h
  refine lv_iload_n (pc := 0) hx hb dX9_unkept_0 rfl (lv_at hl 1 rfl) ?_
  refine Rcalli (rest := []) (RrunS (pc := 1) X w (okX9_isQuarter l hJ h) kw665 kmX9_isQuarter ⟨rfl, rfl⟩ ⟨by decide, by decide⟩ rfl hl.1 rfl (Nat.le_of_ble_eq_true rfl) dX9_unkept_1) w (fun r1 u9_ H locs h w => ?_)
  obtain ⟨hz_r1, h⟩ := h
  obtain ⟨rfl, h⟩ := h
  refine lv_if_ne (pc := 4) (tgt := 10) hx hb dX9_unkept_4 (by decide) (fun c_ => ?_) (fun c_ => ?_)
  · have h := h.2 c_
    refine lv_iconst (pc := 10) (v := (0 : Int32)) hx hb dX9_unkept_10 (by decide) ?_
    refine lv_istore_n (pc := 11) (lv' := [(2, .int (0 : Int32)), (0, .ref (ad 0)), (1, .int a1)]) hx hb dX9_unkept_11 rfl hl (by decide) rfl (fun ls hl => ?_)
    refine lv_iconst (pc := 12) (v := (0 : Int32)) hx hb dX9_unkept_12 (by decide) ?_
    refine lv_istore_n (pc := 13) (lv' := [(3, .int (0 : Int32)), (2, .int (0 : Int32)), (0, .ref (ad 0)), (1, .int a1)]) hx hb dX9_unkept_13 rfl hl (by decide) rfl (fun ls hl => ?_)
    obtain ⟨n9, h⟩ := h
    exact bX9_unkept_14 X n9 u a1 (0 : Int32) (0 : Int32) H locs ls h w (lv_sub hl [2, 3, 1, 0] rfl)
  · have h := h.1 c_
    refine lv_bipush (pc := 7) (v := (-2 : Int32)) hx hb dX9_unkept_7 (by decide) ?_
    exact Riret (pc := 9) X w h dX9_unkept_9
set_option maxHeartbeats 4000000 in
set_option maxRecDepth 100000 in
theorem okX9_areReleases (l : Launch) {D : va_G} {g : Nat → ClassId} {ad : Nat → Nat} (hJ : RJ ad) {u : Mm} {a0 : Int32} {a1 : Int32} {a2 : Int32} {Q : Int32 → Prop} (h : wX9_areReleases a0 a1 a2 Q) : Met l yX9_areReleases (Cond.code yX9_areReleases cX9_areReleases 3 (some .boolean) :: gt) ({ frames := 2, cells := 0, slots := 0, locals := 45 } : Room) (RPc D g ad u [.int a0, .int a1, .int a2]) (va_Qi (fun r u1 => bz r ∧ (u = u1 ∧ Q r)) (RB D g ad) (RA ad)) 0 0 (RA ad) := by
  refine Met.ofW (cc := cX9_areReleases) (maxL := 3) (ret := (some .boolean)) (by decide) rfl ?_
  intro p e s m args below meth c s₁ B hml hv
  refine Rentry (own := RX9) B hml hv hJ rfl (Nat.le_of_ble_eq_true rfl) (fun ls H locs X w hl => ?_)
  obtain ⟨⟨hx, hb, hml, hown, hts⟩, hr, hlocks, hK, hJ, hAA⟩ := id X
  have hl : lv_has ls 3 [(0, .int a0), (1, .int a1), (2, .int a2)] := hl
  unfold wX9_areReleases at h
  refine lv_iload_n (pc := 0) hx hb dX9_areReleases_0 rfl (lv_at hl 0 rfl) ?_
  refine Rcalli (rest := []) (RrunS (pc := 1) X w (okX9_isCode l hJ h) kw509 kmX9_isCode ⟨rfl, rfl⟩ ⟨by decide, by decide⟩ rfl hl.1 rfl (Nat.le_of_ble_eq_true rfl) dX9_areReleases_1) w (fun r1 u9_ H locs h w => ?_)
  obtain ⟨hz_r1, h⟩ := h
  obtain ⟨rfl, h⟩ := h
  refine lv_if_eq (pc := 4) (tgt := 38) hx hb dX9_areReleases_4 (by decide) (fun c_ => ?_) (fun c_ => ?_)
  · have h := h.1 c_
    refine lv_iconst (pc := 38) (v := (0 : Int32)) hx hb dX9_areReleases_38 (by decide) ?_
    exact Rzret (pc := 39) X w rfl ⟨rfl, h⟩ dX9_areReleases_39
  · have h := h.2 c_
    refine lv_iload_n (pc := 7) hx hb dX9_areReleases_7 rfl (lv_at hl 1 rfl) ?_
    refine lv_i2l (pc := 8) hx hb dX9_areReleases_8 rfl ?_
    refine lv_lconst (pc := 9) (v := (0 : Int64)) hx hb dX9_areReleases_9 (by decide) ?_
    refine lv_ldc2 (pc := 10) (v := (9 : Int64)) hx hb hown (hts _ (List.mem_cons_of_mem _ kw527)) dX9_areReleases_10 ?_
    refine Rcalli (rest := []) (RrunS (pc := 13) X w (okX9_in l hJ h) kw490 kmX9_in ⟨rfl, rfl⟩ ⟨by decide, by decide⟩ rfl hl.1 rfl (Nat.le_of_ble_eq_true rfl) dX9_areReleases_13) w (fun r2 u9_ H locs h w => ?_)
    obtain ⟨hz_r2, h⟩ := h
    obtain ⟨rfl, h⟩ := h
    refine lv_if_eq (pc := 16) (tgt := 38) hx hb dX9_areReleases_16 (by decide) (fun c_ => ?_) (fun c_ => ?_)
    · have h := h.1 c_
      refine lv_iconst (pc := 38) (v := (0 : Int32)) hx hb dX9_areReleases_38 (by decide) ?_
      exact Rzret (pc := 39) X w rfl ⟨rfl, h⟩ dX9_areReleases_39
    · have h := h.2 c_
      refine lv_iload_n (pc := 19) hx hb dX9_areReleases_19 rfl (lv_at hl 2 rfl) ?_
      refine lv_i2l (pc := 20) hx hb dX9_areReleases_20 rfl ?_
      refine lv_iload_n (pc := 21) hx hb dX9_areReleases_21 rfl (lv_at hl 1 rfl) ?_
      refine lv_iconst (pc := 22) (v := (1 : Int32)) hx hb dX9_areReleases_22 (by decide) ?_
      refine lv_iadd (pc := 23) hx hb dX9_areReleases_23 ?_
      refine lv_i2l (pc := 24) hx hb dX9_areReleases_24 rfl ?_
      refine lv_ldc2 (pc := 25) (v := (9 : Int64)) hx hb hown (hts _ (List.mem_cons_of_mem _ kw527)) dX9_areReleases_25 ?_
      refine Rcalli (rest := []) (RrunS (pc := 28) X w (okX9_in l hJ h) kw490 kmX9_in ⟨rfl, rfl⟩ ⟨by decide, by decide⟩ rfl hl.1 rfl (Nat.le_of_ble_eq_true rfl) dX9_areReleases_28) w (fun r3 u9_ H locs h w => ?_)
      obtain ⟨hz_r3, h⟩ := h
      obtain ⟨rfl, h⟩ := h
      refine lv_if_eq (pc := 31) (tgt := 38) hx hb dX9_areReleases_31 (by decide) (fun c_ => ?_) (fun c_ => ?_)
      · have h := h.1 c_
        refine lv_iconst (pc := 38) (v := (0 : Int32)) hx hb dX9_areReleases_38 (by decide) ?_
        exact Rzret (pc := 39) X w rfl ⟨rfl, h⟩ dX9_areReleases_39
      · have h := h.2 c_
        refine lv_iconst (pc := 34) (v := (1 : Int32)) hx hb dX9_areReleases_34 (by decide) ?_
        refine lv_goto (pc := 35) (tgt := 39) hx hb dX9_areReleases_35 (by decide) ?_
        exact Rzret (pc := 39) X w rfl ⟨rfl, h⟩ dX9_areReleases_39
set_option maxHeartbeats 4000000 in
set_option maxRecDepth 100000 in
theorem okX9_revision (l : Launch) {D : va_G} {g : Nat → ClassId} {ad : Nat → Nat} (hJ : RJ ad) {u : Mm} {a1 : Int32} {a2 : Int32} {a3 : Int32} {Q : Int64 → Mm → Prop} (h : wX9_revision u a1 a2 a3 Q) : Met l yX9_revision (Cond.code yX9_revision cX9_revision 4 (some .long) :: gt) ({ frames := 3, cells := 0, slots := 0, locals := 67 } : Room) (RPc D g ad u [.ref (ad 0), .int a1, .int a2, .int a3]) (va_Ql Q (RB D g ad) (RA ad)) 0 0 (RA ad) := by
  refine Met.ofW (cc := cX9_revision) (maxL := 4) (ret := (some .long)) (by decide) rfl ?_
  intro p e s m args below meth c s₁ B hml hv
  refine Rentry (own := RX9) B hml hv hJ rfl (Nat.le_of_ble_eq_true rfl) (fun ls H locs X w hl => ?_)
  obtain ⟨⟨hx, hb, hml, hown, hts⟩, hr, hlocks, hK, hJ, hAA⟩ := id X
  have hl : lv_has ls 4 [(0, .ref (ad 0)), (1, .int a1), (2, .int a2), (3, .int a3)] := hl
  unfold wX9_revision at h
  refine lv_iload_n (pc := 0) hx hb dX9_revision_0 rfl (lv_at hl 1 rfl) ?_
  refine lv_iload_n (pc := 1) hx hb dX9_revision_1 rfl (lv_at hl 2 rfl) ?_
  refine lv_iload_n (pc := 2) hx hb dX9_revision_2 rfl (lv_at hl 3 rfl) ?_
  refine Rcalli (rest := []) (RrunS (pc := 3) X w (okX9_areReleases l hJ h) kw716 kmX9_areReleases ⟨rfl, rfl⟩ ⟨by decide, by decide⟩ rfl hl.1 rfl (Nat.le_of_ble_eq_true rfl) dX9_revision_3) w (fun r1 u9_ H locs h w => ?_)
  obtain ⟨hz_r1, h⟩ := h
  obtain ⟨rfl, h⟩ := h
  refine lv_if_eq (pc := 6) (tgt := 29) hx hb dX9_revision_6 (by decide) (fun c_ => ?_) (fun c_ => ?_)
  · have h := h.1 c_
    refine lv_ldc2 (pc := 29) (v := (-9223372036854775806 : Int64)) hx hb hown (hts _ (List.mem_cons_of_mem _ kw601)) dX9_revision_29 ?_
    exact Rlret (pc := 32) X w h dX9_revision_32
  · have h := h.2 c_
    refine lv_aload_n (pc := 9) hx hb dX9_revision_9 rfl (lv_at hl 0 rfl) ?_
    refine lv_iload_n (pc := 10) hx hb dX9_revision_10 rfl (lv_at hl 1 rfl) ?_
    refine lv_iload_n (pc := 11) hx hb dX9_revision_11 rfl (lv_at hl 3 rfl) ?_
    refine lv_bipush (pc := 12) (v := (9 : Int32)) hx hb dX9_revision_12 (by decide) ?_
    refine Rcalll (rest := []) (RrunV (pc := 14) X w (okX9_saidBy l hJ h) kw587 kmX9_saidBy ⟨rfl, rfl⟩ ⟨by decide, by decide⟩ (Rrv_0 X w) rfl hl.1 rfl (Nat.le_of_ble_eq_true rfl) dX9_revision_14) w (fun r2 u3 H locs h w => ?_)
    refine lv_aload_n (pc := 17) hx hb dX9_revision_17 rfl (lv_at hl 0 rfl) ?_
    refine lv_iload_n (pc := 18) hx hb dX9_revision_18 rfl (lv_at hl 1 rfl) ?_
    refine lv_iload_n (pc := 19) hx hb dX9_revision_19 rfl (lv_at hl 2 rfl) ?_
    refine lv_bipush (pc := 20) (v := (9 : Int32)) hx hb dX9_revision_20 (by decide) ?_
    refine Rcalll (rest := [.long r2]) (RrunV (pc := 22) X w (okX9_saidBy l hJ h) kw587 kmX9_saidBy ⟨rfl, rfl⟩ ⟨by decide, by decide⟩ (Rrv_0 X w) rfl hl.1 rfl (Nat.le_of_ble_eq_true rfl) dX9_revision_22) w (fun r4 u5 H locs h w => ?_)
    refine lv_lsub (pc := 25) hx hb dX9_revision_25 ?_
    refine lv_goto (pc := 26) (tgt := 32) hx hb dX9_revision_26 (by decide) ?_
    exact Rlret (pc := 32) X w h dX9_revision_32
set_option maxHeartbeats 4000000 in
set_option maxRecDepth 100000 in
theorem bX9_hasRow_3 {l : Launch} {p : Program} {e : Env} {s : State} {m : MethodId} {args : Array Value} {below : List Frame} {meth : Method} {c : Code} {D : va_G} {g : Nat → ClassId} {ad : Nat → Nat} {u : Mm} {Q : Int32 → Prop} (X : RX p s m args meth c cX9_hasRow RX9 5 (some .boolean) (Cond.code yX9_hasRow cX9_hasRow 5 (some .boolean)) D g ad (RA ad)) : ∀ (n : Nat) (x1 : Int32) (x2 : Int32) (x3 : Int32) (x4 : Int32) (H : Heap) (locs : List Loc) (ls : Array Slot), wX9_hasRow_b3 u Q n x1 x2 x3 x4 → RWd D g ad (RA ad) s u H locs → lv_has ls 5 [(0, .ref (ad 0)), (1, .int x1), (2, .int x2), (3, .int x3), (4, .int x4)] → W p l e ({ frames := 0, cells := 0, slots := 0, locals := 0 } : Room) s m args below meth c H locs 0 0 (MQ below (va_Qi (fun r u1 => bz r ∧ (u = u1 ∧ Q r)) (RB D g ad) (RA ad)) args s 0 0 (RA ad)) (F0 m 3 ls []) := by
  obtain ⟨⟨hx, hb, hml, hown, hts⟩, hr, hlocks, hK, hJ, hAA⟩ := id X
  intro n
  induction n with
  | zero =>
    intro x1 x2 x3 x4 H locs ls h
    exact False.elim h
  | succ n ih =>
    intro x1 x2 x3 x4 H locs ls h w hl
    unfold wX9_hasRow_b3 at h
    refine lv_iload (pc := 3) hx hb dX9_hasRow_3 (lv_at hl 4 rfl) ?_
    refine lv_aload_n (pc := 5) hx hb dX9_hasRow_5 rfl (lv_at hl 0 rfl) ?_
    refine Rgf_0_1 (pc := 6) X w kw531 dX9_hasRow_6 ?_
    refine lv_icmp_ge (pc := 9) (tgt := 53) hx hb dX9_hasRow_9 (by decide) (fun c_ => ?_) (fun c_ => ?_)
    · have h := h.1 c_
      refine lv_iconst (pc := 53) (v := (0 : Int32)) hx hb dX9_hasRow_53 (by decide) ?_
      exact Rzret (pc := 54) X w rfl ⟨rfl, h⟩ dX9_hasRow_54
    · have h := h.2 c_
      refine lv_aload_n (pc := 12) hx hb dX9_hasRow_12 rfl (lv_at hl 0 rfl) ?_
      refine Rgf_0_3 (pc := 13) X w kw533 dX9_hasRow_13 ?_
      refine lv_iload (pc := 16) hx hb dX9_hasRow_16 (lv_at hl 4 rfl) ?_
      refine Rld_3 (pc := 18) X w h.1 dX9_hasRow_18 ?_
      have h := h.2
      refine lv_iload_n (pc := 19) hx hb dX9_hasRow_19 rfl (lv_at hl 1 rfl) ?_
      refine lv_icmp_ne (pc := 20) (tgt := 47) hx hb dX9_hasRow_20 (by decide) (fun c_ => ?_) (fun c_ => ?_)
      · have h := h.2 c_
        obtain ⟨x4_1, e_⟩ : ∃ y : Int32, y = x4 + (1 : Int32) := ⟨_, rfl⟩
        have h := h x4_1 e_
        refine lv_iinc (pc := 47) (v := x4_1) (lv' := [(4, .int x4_1), (0, .ref (ad 0)), (1, .int x1), (2, .int x2), (3, .int x3)]) hx hb dX9_hasRow_47 hl (k := 4) rfl (by rw [e_]; rfl) (by decide) rfl (fun ls hl => ?_)
        refine lv_goto (pc := 50) (tgt := 3) hx hb dX9_hasRow_50 (by decide) ?_
        exact ih x1 x2 x3 x4_1 H locs ls h w (lv_sub hl [1, 2, 3, 4, 0] rfl)
      · have h := h.1 c_
        refine lv_aload_n (pc := 23) hx hb dX9_hasRow_23 rfl (lv_at hl 0 rfl) ?_
        refine Rgf_0_2 (pc := 24) X w kw532 dX9_hasRow_24 ?_
        refine lv_iload (pc := 27) hx hb dX9_hasRow_27 (lv_at hl 4 rfl) ?_
        refine Rld_2 (pc := 29) X w h.1 dX9_hasRow_29 ?_
        have h := h.2
        refine lv_iload_n (pc := 30) hx hb dX9_hasRow_30 rfl (lv_at hl 2 rfl) ?_
        refine lv_icmp_ne (pc := 31) (tgt := 47) hx hb dX9_hasRow_31 (by decide) (fun c_ => ?_) (fun c_ => ?_)
        · have h := h.2 c_
          obtain ⟨x4_2, e_⟩ : ∃ y : Int32, y = x4 + (1 : Int32) := ⟨_, rfl⟩
          have h := h x4_2 e_
          refine lv_iinc (pc := 47) (v := x4_2) (lv' := [(4, .int x4_2), (0, .ref (ad 0)), (1, .int x1), (2, .int x2), (3, .int x3)]) hx hb dX9_hasRow_47 hl (k := 4) rfl (by rw [e_]; rfl) (by decide) rfl (fun ls hl => ?_)
          refine lv_goto (pc := 50) (tgt := 3) hx hb dX9_hasRow_50 (by decide) ?_
          exact ih x1 x2 x3 x4_2 H locs ls h w (lv_sub hl [1, 2, 3, 4, 0] rfl)
        · have h := h.1 c_
          refine lv_aload_n (pc := 34) hx hb dX9_hasRow_34 rfl (lv_at hl 0 rfl) ?_
          refine Rgf_0_5 (pc := 35) X w kw535 dX9_hasRow_35 ?_
          refine lv_iload (pc := 38) hx hb dX9_hasRow_38 (lv_at hl 4 rfl) ?_
          refine Rld_5 (pc := 40) X w h.1 dX9_hasRow_40 ?_
          have h := h.2
          refine lv_iload_n (pc := 41) hx hb dX9_hasRow_41 rfl (lv_at hl 3 rfl) ?_
          refine lv_icmp_ne (pc := 42) (tgt := 47) hx hb dX9_hasRow_42 (by decide) (fun c_ => ?_) (fun c_ => ?_)
          · have h := h.2 c_
            obtain ⟨x4_3, e_⟩ : ∃ y : Int32, y = x4 + (1 : Int32) := ⟨_, rfl⟩
            have h := h x4_3 e_
            refine lv_iinc (pc := 47) (v := x4_3) (lv' := [(4, .int x4_3), (0, .ref (ad 0)), (1, .int x1), (2, .int x2), (3, .int x3)]) hx hb dX9_hasRow_47 hl (k := 4) rfl (by rw [e_]; rfl) (by decide) rfl (fun ls hl => ?_)
            refine lv_goto (pc := 50) (tgt := 3) hx hb dX9_hasRow_50 (by decide) ?_
            exact ih x1 x2 x3 x4_3 H locs ls h w (lv_sub hl [1, 2, 3, 4, 0] rfl)
          · have h := h.1 c_
            refine lv_iconst (pc := 45) (v := (1 : Int32)) hx hb dX9_hasRow_45 (by decide) ?_
            exact Rzret (pc := 46) X w rfl ⟨rfl, h⟩ dX9_hasRow_46
set_option maxHeartbeats 4000000 in
set_option maxRecDepth 100000 in
theorem okX9_hasRow (l : Launch) {D : va_G} {g : Nat → ClassId} {ad : Nat → Nat} (hJ : RJ ad) {u : Mm} {a1 : Int32} {a2 : Int32} {a3 : Int32} {Q : Int32 → Prop} (h : wX9_hasRow u a1 a2 a3 Q) : Met l yX9_hasRow (Cond.code yX9_hasRow cX9_hasRow 5 (some .boolean) :: gt) ({ frames := 0, cells := 0, slots := 0, locals := 0 } : Room) (RPc D g ad u [.ref (ad 0), .int a1, .int a2, .int a3]) (va_Qi (fun r u1 => bz r ∧ (u = u1 ∧ Q r)) (RB D g ad) (RA ad)) 0 0 (RA ad) := by
  refine Met.ofW (cc := cX9_hasRow) (maxL := 5) (ret := (some .boolean)) (by decide) rfl ?_
  intro p e s m args below meth c s₁ B hml hv
  refine Rentry (own := RX9) B hml hv hJ rfl (Nat.le_of_ble_eq_true rfl) (fun ls H locs X w hl => ?_)
  obtain ⟨⟨hx, hb, hml, hown, hts⟩, hr, hlocks, hK, hJ, hAA⟩ := id X
  have hl : lv_has ls 5 [(0, .ref (ad 0)), (1, .int a1), (2, .int a2), (3, .int a3)] := hl
  unfold wX9_hasRow at h
  refine lv_iconst (pc := 0) (v := (0 : Int32)) hx hb dX9_hasRow_0 (by decide) ?_
  refine lv_istore (pc := 1) (lv' := [(4, .int (0 : Int32)), (0, .ref (ad 0)), (1, .int a1), (2, .int a2), (3, .int a3)]) hx hb dX9_hasRow_1 hl (by decide) rfl (fun ls hl => ?_)
  obtain ⟨n9, h⟩ := h
  exact bX9_hasRow_3 X n9 a1 a2 a3 (0 : Int32) H locs ls h w (lv_sub hl [1, 2, 3, 4, 0] rfl)
set_option maxHeartbeats 4000000 in
set_option maxRecDepth 100000 in
theorem bX9_stepsTo_17 {l : Launch} {p : Program} {e : Env} {s : State} {m : MethodId} {args : Array Value} {below : List Frame} {meth : Method} {c : Code} {D : va_G} {g : Nat → ClassId} {ad : Nat → Nat} {Q : Int32 → Mm → Prop} {k8 : Mm → Int32 → Int32 → Int32 → Int32 → Int32 → Prop} (X : RX p s m args meth c cX9_stepsTo RX9 8 (some .int) (Cond.code yX9_stepsTo cX9_stepsTo 8 (some .int)) D g ad (RA ad)) (hk8 : ∀ (u : Mm) (x1 : Int32) (x3 : Int32) (x4 : Int32) (x5 : Int32) (x6 : Int32) (H : Heap) (locs : List Loc) (ls : Array Slot), k8 u x1 x3 x4 x5 x6 → RWd D g ad (RA ad) s u H locs → lv_has ls 8 [(0, .ref (ad 0)), (1, .int x1), (3, .int x3), (4, .int x4), (5, .int x5), (6, .int x6)] → W p l e ({ frames := 1, cells := 0, slots := 0, locals := 24 } : Room) s m args below meth c H locs 0 0 (MQ below (va_Qi Q (RB D g ad) (RA ad)) args s 0 0 (RA ad)) (F0 m 8 ls [])) : ∀ (n : Nat) (u : Mm) (x1 : Int32) (x3 : Int32) (x4 : Int32) (x5 : Int32) (x6 : Int32) (x7 : Int32) (H : Heap) (locs : List Loc) (ls : Array Slot), wX9_stepsTo_b17 k8 Q n u x1 x3 x4 x5 x6 x7 → RWd D g ad (RA ad) s u H locs → lv_has ls 8 [(0, .ref (ad 0)), (1, .int x1), (3, .int x3), (4, .int x4), (5, .int x5), (6, .int x6), (7, .int x7)] → W p l e ({ frames := 1, cells := 0, slots := 0, locals := 24 } : Room) s m args below meth c H locs 0 0 (MQ below (va_Qi Q (RB D g ad) (RA ad)) args s 0 0 (RA ad)) (F0 m 17 ls []) := by
  obtain ⟨⟨hx, hb, hml, hown, hts⟩, hr, hlocks, hK, hJ, hAA⟩ := id X
  intro n
  induction n with
  | zero =>
    intro u x1 x3 x4 x5 x6 x7 H locs ls h
    exact False.elim h
  | succ n ih =>
    intro u x1 x3 x4 x5 x6 x7 H locs ls h w hl
    unfold wX9_stepsTo_b17 at h
    refine lv_iload (pc := 17) hx hb dX9_stepsTo_17 (lv_at hl 6 rfl) ?_
    refine lv_bipush (pc := 19) (v := (10 : Int32)) hx hb dX9_stepsTo_19 (by decide) ?_
    refine lv_icmp_ge (pc := 21) (tgt := 67) hx hb dX9_stepsTo_21 (by decide) (fun c_ => ?_) (fun c_ => ?_)
    · have h := h.1 c_
      obtain ⟨x6_1, e_⟩ : ∃ y : Int32, y = x6 + (1 : Int32) := ⟨_, rfl⟩
      have h := h x6_1 e_
      refine lv_iinc (pc := 67) (v := x6_1) (lv' := [(6, .int x6_1), (0, .ref (ad 0)), (1, .int x1), (3, .int x3), (4, .int x4), (5, .int x5), (7, .int x7)]) hx hb dX9_stepsTo_67 hl (k := 5) rfl (by rw [e_]; rfl) (by decide) rfl (fun ls hl => ?_)
      refine lv_goto (pc := 70) (tgt := 8) hx hb dX9_stepsTo_70 (by decide) ?_
      exact hk8 u x1 x3 x4 x5 x6_1 H locs ls h w (lv_sub hl [1, 2, 3, 4, 5, 0] rfl)
    · have h := h.2 c_
      refine lv_aload_n (pc := 24) hx hb dX9_stepsTo_24 rfl (lv_at hl 0 rfl) ?_
      refine lv_iload_n (pc := 25) hx hb dX9_stepsTo_25 rfl (lv_at hl 1 rfl) ?_
      refine lv_iload (pc := 26) hx hb dX9_stepsTo_26 (lv_at hl 6 rfl) ?_
      refine lv_iload (pc := 28) hx hb dX9_stepsTo_28 (lv_at hl 5 rfl) ?_
      refine Rcalli (rest := []) (RrunV (pc := 30) X w (okX9_hasRow l hJ h) kw719 kmX9_hasRow ⟨rfl, rfl⟩ ⟨by decide, by decide⟩ (Rrv_0 X w) rfl hl.1 rfl (Nat.le_of_ble_eq_true rfl) dX9_stepsTo_30) w (fun r2 u9_ H locs h w => ?_)
      obtain ⟨hz_r2, h⟩ := h
      obtain ⟨rfl, h⟩ := h
      refine lv_if_eq (pc := 33) (tgt := 61) hx hb dX9_stepsTo_33 (by decide) (fun c_ => ?_) (fun c_ => ?_)
      · have h := h.1 c_
        obtain ⟨x7_3, e_⟩ : ∃ y : Int32, y = x7 + (1 : Int32) := ⟨_, rfl⟩
        have h := h x7_3 e_
        refine lv_iinc (pc := 61) (v := x7_3) (lv' := [(7, .int x7_3), (0, .ref (ad 0)), (1, .int x1), (3, .int x3), (4, .int x4), (5, .int x5), (6, .int x6)]) hx hb dX9_stepsTo_61 hl (k := 6) rfl (by rw [e_]; rfl) (by decide) rfl (fun ls hl => ?_)
        refine lv_goto (pc := 64) (tgt := 17) hx hb dX9_stepsTo_64 (by decide) ?_
        exact ih u x1 x3 x4 x5 x6 x7_3 H locs ls h w (lv_sub hl [1, 2, 3, 4, 5, 6, 0] rfl)
      · have h := h.2 c_
        refine lv_aload_n (pc := 36) hx hb dX9_stepsTo_36 rfl (lv_at hl 0 rfl) ?_
        refine lv_iload (pc := 37) hx hb dX9_stepsTo_37 (lv_at hl 6 rfl) ?_
        refine Rpf_0_35 (pc := 39) X w kw723 dX9_stepsTo_39 (fun H locs w => ?_)
        obtain ⟨u4, e_⟩ : ∃ y : Mm, y = s32 u 135 0 x7 := ⟨_, rfl⟩
        rw [← e_] at w
        have h := h u4 e_
        refine lv_aload_n (pc := 42) hx hb dX9_stepsTo_42 rfl (lv_at hl 0 rfl) ?_
        refine lv_iload (pc := 43) hx hb dX9_stepsTo_43 (lv_at hl 5 rfl) ?_
        refine Rpf_0_36 (pc := 45) X w kw724 dX9_stepsTo_45 (fun H locs w => ?_)
        obtain ⟨u5, e_⟩ : ∃ y : Mm, y = s32 u4 136 0 x6 := ⟨_, rfl⟩
        rw [← e_] at w
        have h := h u5 e_
        refine lv_iload (pc := 48) hx hb dX9_stepsTo_48 (lv_at hl 4 rfl) ?_
        refine lv_iload (pc := 50) hx hb dX9_stepsTo_50 (lv_at hl 3 rfl) ?_
        refine lv_icmp_ne (pc := 52) (tgt := 58) hx hb dX9_stepsTo_52 (by decide) (fun c_ => ?_) (fun c_ => ?_)
        · have h := h.2 c_
          obtain ⟨x5_6, e_⟩ : ∃ y : Int32, y = x5 + (1 : Int32) := ⟨_, rfl⟩
          have h := h x5_6 e_
          refine lv_iinc (pc := 58) (v := x5_6) (lv' := [(5, .int x5_6), (0, .ref (ad 0)), (1, .int x1), (3, .int x3), (4, .int x4), (6, .int x6), (7, .int x7)]) hx hb dX9_stepsTo_58 hl (k := 4) rfl (by rw [e_]; rfl) (by decide) rfl (fun ls hl => ?_)
          obtain ⟨x7_7, e_⟩ : ∃ y : Int32, y = x7 + (1 : Int32) := ⟨_, rfl⟩
          have h := h x7_7 e_
          refine lv_iinc (pc := 61) (v := x7_7) (lv' := [(7, .int x7_7), (5, .int x5_6), (0, .ref (ad 0)), (1, .int x1), (3, .int x3), (4, .int x4), (6, .int x6)]) hx hb dX9_stepsTo_61 hl (k := 6) rfl (by rw [e_]; rfl) (by decide) rfl (fun ls hl => ?_)
          refine lv_goto (pc := 64) (tgt := 17) hx hb dX9_stepsTo_64 (by decide) ?_
          exact ih u5 x1 x3 x4 x5_6 x6 x7_7 H locs ls h w (lv_sub hl [2, 3, 4, 5, 1, 6, 0] rfl)
        · have h := h.1 c_
          refine lv_iload (pc := 55) hx hb dX9_stepsTo_55 (lv_at hl 4 rfl) ?_
          exact Riret (pc := 57) X w h dX9_stepsTo_57
set_option maxHeartbeats 4000000 in
set_option maxRecDepth 100000 in
theorem bX9_stepsTo_8 {l : Launch} {p : Program} {e : Env} {s : State} {m : MethodId} {args : Array Value} {below : List Frame} {meth : Method} {c : Code} {D : va_G} {g : Nat → ClassId} {ad : Nat → Nat} {Q : Int32 → Mm → Prop} (X : RX p s m args meth c cX9_stepsTo RX9 8 (some .int) (Cond.code yX9_stepsTo cX9_stepsTo 8 (some .int)) D g ad (RA ad)) : ∀ (n : Nat) (u : Mm) (x1 : Int32) (x3 : Int32) (x4 : Int32) (x5 : Int32) (x6 : Int32) (H : Heap) (locs : List Loc) (ls : Array Slot), wX9_stepsTo_b8 Q n u x1 x3 x4 x5 x6 → RWd D g ad (RA ad) s u H locs → lv_has ls 8 [(0, .ref (ad 0)), (1, .int x1), (3, .int x3), (4, .int x4), (5, .int x5), (6, .int x6)] → W p l e ({ frames := 1, cells := 0, slots := 0, locals := 24 } : Room) s m args below meth c H locs 0 0 (MQ below (va_Qi Q (RB D g ad) (RA ad)) args s 0 0 (RA ad)) (F0 m 8 ls []) := by
  obtain ⟨⟨hx, hb, hml, hown, hts⟩, hr, hlocks, hK, hJ, hAA⟩ := id X
  intro n
  induction n with
  | zero =>
    intro u x1 x3 x4 x5 x6 H locs ls h
    exact False.elim h
  | succ n ih =>
    intro u x1 x3 x4 x5 x6 H locs ls h w hl
    unfold wX9_stepsTo_b8 at h
    refine lv_iload (pc := 8) hx hb dX9_stepsTo_8 (lv_at hl 5 rfl) ?_
    refine lv_iload_n (pc := 10) hx hb dX9_stepsTo_10 rfl (lv_at hl 2 rfl) ?_
    refine lv_icmp_gt (pc := 11) (tgt := 73) hx hb dX9_stepsTo_11 (by decide) (fun c_ => ?_) (fun c_ => ?_)
    · have h := h.1 c_
      refine lv_iload (pc := 73) hx hb dX9_stepsTo_73 (lv_at hl 4 rfl) ?_
      exact Riret (pc := 75) X w h dX9_stepsTo_75
    · have h := h.2 c_
      refine lv_iconst (pc := 14) (v := (0 : Int32)) hx hb dX9_stepsTo_14 (by decide) ?_
      refine lv_istore (pc := 15) (lv' := [(7, .int (0 : Int32)), (0, .ref (ad 0)), (1, .int x1), (3, .int x3), (4, .int x4), (5, .int x5), (6, .int x6)]) hx hb dX9_stepsTo_15 hl (by decide) rfl (fun ls hl => ?_)
      obtain ⟨n9, h⟩ := h
      refine bX9_stepsTo_17 X ?_ n9 u x1 x3 x4 x5 x6 (0 : Int32) H locs ls h w (lv_sub hl [1, 2, 3, 4, 5, 6, 0] rfl)
      · intro u x1 x3 x4 x5 x6 H locs ls h w hl
        exact ih u x1 x3 x4 x5 x6 H locs ls h w (lv_sub hl [0, 1, 2, 3, 4, 5] rfl)
set_option maxHeartbeats 4000000 in
set_option maxRecDepth 100000 in
theorem okX9_stepsTo (l : Launch) {D : va_G} {g : Nat → ClassId} {ad : Nat → Nat} (hJ : RJ ad) {u : Mm} {a1 : Int32} {a2 : Int32} {a3 : Int32} {a4 : Int32} {Q : Int32 → Mm → Prop} (h : wX9_stepsTo u a1 a2 a3 a4 Q) : Met l yX9_stepsTo (Cond.code yX9_stepsTo cX9_stepsTo 8 (some .int) :: gt) ({ frames := 1, cells := 0, slots := 0, locals := 24 } : Room) (RPc D g ad u [.ref (ad 0), .int a1, .int a2, .int a3, .int a4]) (va_Qi Q (RB D g ad) (RA ad)) 0 0 (RA ad) := by
  refine Met.ofW (cc := cX9_stepsTo) (maxL := 8) (ret := (some .int)) (by decide) rfl ?_
  intro p e s m args below meth c s₁ B hml hv
  refine Rentry (own := RX9) B hml hv hJ rfl (Nat.le_of_ble_eq_true rfl) (fun ls H locs X w hl => ?_)
  obtain ⟨⟨hx, hb, hml, hown, hts⟩, hr, hlocks, hK, hJ, hAA⟩ := id X
  have hl : lv_has ls 8 [(0, .ref (ad 0)), (1, .int a1), (2, .int a2), (3, .int a3), (4, .int a4)] := hl
  unfold wX9_stepsTo at h
  refine lv_iconst (pc := 0) (v := (0 : Int32)) hx hb dX9_stepsTo_0 (by decide) ?_
  refine lv_istore (pc := 1) (lv' := [(5, .int (0 : Int32)), (0, .ref (ad 0)), (1, .int a1), (2, .int a2), (3, .int a3), (4, .int a4)]) hx hb dX9_stepsTo_1 hl (by decide) rfl (fun ls hl => ?_)
  refine lv_iload_n (pc := 3) hx hb dX9_stepsTo_3 rfl (lv_at hl 3 rfl) ?_
  refine lv_iconst (pc := 4) (v := (1 : Int32)) hx hb dX9_stepsTo_4 (by decide) ?_
  refine lv_iadd (pc := 5) hx hb dX9_stepsTo_5 ?_
  refine lv_topi (fun x6_1 e_ => ?_)
  have h := h x6_1 e_
  refine lv_istore (pc := 6) (lv' := [(6, .int x6_1), (5, .int (0 : Int32)), (0, .ref (ad 0)), (1, .int a1), (2, .int a2), (3, .int a3), (4, .int a4)]) hx hb dX9_stepsTo_6 hl (by decide) rfl (fun ls hl => ?_)
  obtain ⟨n9, h⟩ := h
  exact bX9_stepsTo_8 X n9 u a1 a3 a4 (0 : Int32) x6_1 H locs ls h w (lv_sub hl [2, 3, 5, 6, 1, 0] rfl)
set_option maxHeartbeats 4000000 in
set_option maxRecDepth 100000 in
theorem okX9_steps (l : Launch) {D : va_G} {g : Nat → ClassId} {ad : Nat → Nat} (hJ : RJ ad) {u : Mm} {a1 : Int32} {a2 : Int32} {a3 : Int32} {Q : Int32 → Mm → Prop} (h : wX9_steps u a1 a2 a3 Q) : Met l yX9_steps (Cond.code yX9_steps cX9_steps 4 (some .int) :: gt) ({ frames := 3, cells := 0, slots := 0, locals := 67 } : Room) (RPc D g ad u [.ref (ad 0), .int a1, .int a2, .int a3]) (va_Qi Q (RB D g ad) (RA ad)) 0 0 (RA ad) := by
  refine Met.ofW (cc := cX9_steps) (maxL := 4) (ret := (some .int)) (by decide) rfl ?_
  intro p e s m args below meth c s₁ B hml hv
  refine Rentry (own := RX9) B hml hv hJ rfl (Nat.le_of_ble_eq_true rfl) (fun ls H locs X w hl => ?_)
  obtain ⟨⟨hx, hb, hml, hown, hts⟩, hr, hlocks, hK, hJ, hAA⟩ := id X
  have hl : lv_has ls 4 [(0, .ref (ad 0)), (1, .int a1), (2, .int a2), (3, .int a3)] := hl
  unfold wX9_steps at h
  refine lv_iload_n (pc := 0) hx hb dX9_steps_0 rfl (lv_at hl 1 rfl) ?_
  refine lv_iload_n (pc := 1) hx hb dX9_steps_1 rfl (lv_at hl 2 rfl) ?_
  refine lv_iload_n (pc := 2) hx hb dX9_steps_2 rfl (lv_at hl 3 rfl) ?_
  refine Rcalli (rest := []) (RrunS (pc := 3) X w (okX9_areReleases l hJ h) kw716 kmX9_areReleases ⟨rfl, rfl⟩ ⟨by decide, by decide⟩ rfl hl.1 rfl (Nat.le_of_ble_eq_true rfl) dX9_steps_3) w (fun r1 u9_ H locs h w => ?_)
  obtain ⟨hz_r1, h⟩ := h
  obtain ⟨rfl, h⟩ := h
  refine lv_if_eq (pc := 6) (tgt := 20) hx hb dX9_steps_6 (by decide) (fun c_ => ?_) (fun c_ => ?_)
  · have h := h.1 c_
    refine lv_bipush (pc := 20) (v := (-2 : Int32)) hx hb dX9_steps_20 (by decide) ?_
    exact Riret (pc := 22) X w h dX9_steps_22
  · have h := h.2 c_
    refine lv_aload_n (pc := 9) hx hb dX9_steps_9 rfl (lv_at hl 0 rfl) ?_
    refine lv_iload_n (pc := 10) hx hb dX9_steps_10 rfl (lv_at hl 1 rfl) ?_
    refine lv_iload_n (pc := 11) hx hb dX9_steps_11 rfl (lv_at hl 2 rfl) ?_
    refine lv_iload_n (pc := 12) hx hb dX9_steps_12 rfl (lv_at hl 3 rfl) ?_
    refine lv_iconst (pc := 13) (v := (-1 : Int32)) hx hb dX9_steps_13 (by decide) ?_
    refine Rcalli (rest := []) (RrunV (pc := 14) X w (okX9_stepsTo l hJ h) kw725 kmX9_stepsTo ⟨rfl, rfl⟩ ⟨by decide, by decide⟩ (Rrv_0 X w) rfl hl.1 rfl (Nat.le_of_ble_eq_true rfl) dX9_steps_14) w (fun r2 u3 H locs h w => ?_)
    refine lv_goto (pc := 17) (tgt := 22) hx hb dX9_steps_17 (by decide) ?_
    exact Riret (pc := 22) X w h dX9_steps_22
set_option maxHeartbeats 4000000 in
set_option maxRecDepth 100000 in
theorem okX9_step (l : Launch) {D : va_G} {g : Nat → ClassId} {ad : Nat → Nat} (hJ : RJ ad) {u : Mm} {a1 : Int32} {a2 : Int32} {a3 : Int32} {a4 : Int32} {a5 : Int32} {Q : Int64 → Mm → Prop} (h : wX9_step u a1 a2 a3 a4 a5 Q) : Met l yX9_step (Cond.code yX9_step cX9_step 7 (some .long) :: gt) ({ frames := 3, cells := 0, slots := 0, locals := 67 } : Room) (RPc D g ad u [.ref (ad 0), .int a1, .int a2, .int a3, .int a4, .int a5]) (va_Ql Q (RB D g ad) (RA ad)) 0 0 (RA ad) := by
  refine Met.ofW (cc := cX9_step) (maxL := 7) (ret := (some .long)) (by decide) rfl ?_
  intro p e s m args below meth c s₁ B hml hv
  refine Rentry (own := RX9) B hml hv hJ rfl (Nat.le_of_ble_eq_true rfl) (fun ls H locs X w hl => ?_)
  obtain ⟨⟨hx, hb, hml, hown, hts⟩, hr, hlocks, hK, hJ, hAA⟩ := id X
  have hl : lv_has ls 7 [(0, .ref (ad 0)), (1, .int a1), (2, .int a2), (3, .int a3), (4, .int a4), (5, .int a5)] := hl
  unfold wX9_step at h
  refine lv_iload_n (pc := 0) hx hb dX9_step_0 rfl (lv_at hl 1 rfl) ?_
  refine lv_iload_n (pc := 1) hx hb dX9_step_1 rfl (lv_at hl 2 rfl) ?_
  refine lv_iload_n (pc := 2) hx hb dX9_step_2 rfl (lv_at hl 3 rfl) ?_
  refine Rcalli (rest := []) (RrunS (pc := 3) X w (okX9_areReleases l hJ h) kw716 kmX9_areReleases ⟨rfl, rfl⟩ ⟨by decide, by decide⟩ rfl hl.1 rfl (Nat.le_of_ble_eq_true rfl) dX9_step_3) w (fun r1 u9_ H locs h w => ?_)
  obtain ⟨hz_r1, h⟩ := h
  obtain ⟨rfl, h⟩ := h
  refine lv_if_eq (pc := 6) (tgt := 40) hx hb dX9_step_6 (by decide) (fun c_ => ?_) (fun c_ => ?_)
  · have h := h.1 c_
    refine lv_ldc2 (pc := 40) (v := (-9223372036854775806 : Int64)) hx hb hown (hts _ (List.mem_cons_of_mem _ kw601)) dX9_step_40 ?_
    exact Rlret (pc := 43) X w h dX9_step_43
  · have h := h.2 c_
    refine lv_iload (pc := 9) hx hb dX9_step_9 (lv_at hl 4 rfl) ?_
    refine lv_if_lt (pc := 11) (tgt := 40) hx hb dX9_step_11 (by decide) (fun c_ => ?_) (fun c_ => ?_)
    · have h := h.1 c_
      refine lv_ldc2 (pc := 40) (v := (-9223372036854775806 : Int64)) hx hb hown (hts _ (List.mem_cons_of_mem _ kw601)) dX9_step_40 ?_
      exact Rlret (pc := 43) X w h dX9_step_43
    · have h := h.2 c_
      refine lv_iload (pc := 14) hx hb dX9_step_14 (lv_at hl 4 rfl) ?_
      refine lv_aload_n (pc := 16) hx hb dX9_step_16 rfl (lv_at hl 0 rfl) ?_
      refine lv_iload_n (pc := 17) hx hb dX9_step_17 rfl (lv_at hl 1 rfl) ?_
      refine lv_iload_n (pc := 18) hx hb dX9_step_18 rfl (lv_at hl 2 rfl) ?_
      refine lv_iload_n (pc := 19) hx hb dX9_step_19 rfl (lv_at hl 3 rfl) ?_
      refine lv_iconst (pc := 20) (v := (-1 : Int32)) hx hb dX9_step_20 (by decide) ?_
      refine Rcalli (rest := [.int a4]) (RrunV (pc := 21) X w (okX9_stepsTo l hJ h) kw725 kmX9_stepsTo ⟨rfl, rfl⟩ ⟨by decide, by decide⟩ (Rrv_0 X w) rfl hl.1 rfl (Nat.le_of_ble_eq_true rfl) dX9_step_21) w (fun r2 u3 H locs h w => ?_)
      refine lv_icmp_ge (pc := 24) (tgt := 40) hx hb dX9_step_24 (by decide) (fun c_ => ?_) (fun c_ => ?_)
      · have h := h.1 c_
        refine lv_ldc2 (pc := 40) (v := (-9223372036854775806 : Int64)) hx hb hown (hts _ (List.mem_cons_of_mem _ kw601)) dX9_step_40 ?_
        exact Rlret (pc := 43) X w h dX9_step_43
      · have h := h.2 c_
        refine lv_iload (pc := 27) hx hb dX9_step_27 (lv_at hl 5 rfl) ?_
        refine lv_i2l (pc := 29) hx hb dX9_step_29 rfl ?_
        refine lv_lconst (pc := 30) (v := (0 : Int64)) hx hb dX9_step_30 (by decide) ?_
        refine lv_ldc2 (pc := 31) (v := (2 : Int64)) hx hb hown (hts _ (List.mem_cons_of_mem _ kw505)) dX9_step_31 ?_
        refine Rcalli (rest := []) (RrunS (pc := 34) X w (okX9_in l hJ h) kw490 kmX9_in ⟨rfl, rfl⟩ ⟨by decide, by decide⟩ rfl hl.1 rfl (Nat.le_of_ble_eq_true rfl) dX9_step_34) w (fun r4 u9_ H locs h w => ?_)
        obtain ⟨hz_r4, h⟩ := h
        obtain ⟨rfl, h⟩ := h
        refine lv_if_ne (pc := 37) (tgt := 44) hx hb dX9_step_37 (by decide) (fun c_ => ?_) (fun c_ => ?_)
        · have h := h.2 c_
          refine lv_aload_n (pc := 44) hx hb dX9_step_44 rfl (lv_at hl 0 rfl) ?_
          refine lv_iload_n (pc := 45) hx hb dX9_step_45 rfl (lv_at hl 1 rfl) ?_
          refine lv_iload_n (pc := 46) hx hb dX9_step_46 rfl (lv_at hl 2 rfl) ?_
          refine lv_iload_n (pc := 47) hx hb dX9_step_47 rfl (lv_at hl 3 rfl) ?_
          refine lv_iload (pc := 48) hx hb dX9_step_48 (lv_at hl 4 rfl) ?_
          refine Rcalli (rest := []) (RrunV (pc := 50) X w (okX9_stepsTo l hJ h) kw725 kmX9_stepsTo ⟨rfl, rfl⟩ ⟨by decide, by decide⟩ (Rrv_0 X w) rfl hl.1 rfl (Nat.le_of_ble_eq_true rfl) dX9_step_50) w (fun r5 u6 H locs h w => ?_)
          refine lv_istore (pc := 53) (lv' := [(6, .int r5), (0, .ref (ad 0)), (1, .int a1), (2, .int a2), (3, .int a3), (4, .int a4), (5, .int a5)]) hx hb dX9_step_53 hl (by decide) rfl (fun ls hl => ?_)
          refine lv_iload (pc := 55) hx hb dX9_step_55 (lv_at hl 6 rfl) ?_
          refine lv_if_le (pc := 57) (tgt := 80) hx hb dX9_step_57 (by decide) (fun c_ => ?_) (fun c_ => ?_)
          · have h := h.1 c_
            refine lv_aload_n (pc := 80) hx hb dX9_step_80 rfl (lv_at hl 1 rfl) ?_
            refine lv_iload_n (pc := 81) hx hb dX9_step_81 rfl (lv_at hl 2 rfl) ?_
            refine lv_aload_n (pc := 82) hx hb dX9_step_82 rfl (lv_at hl 1 rfl) ?_
            refine Rgf_0_36 (pc := 83) X w kw724 dX9_step_83 ?_
            refine lv_aload_n (pc := 86) hx hb dX9_step_86 rfl (lv_at hl 1 rfl) ?_
            refine Rgf_0_35 (pc := 87) X w kw723 dX9_step_87 ?_
            refine Rcalll (rest := []) (RrunV (pc := 90) X w (okX9_saidBy l hJ h) kw587 kmX9_saidBy ⟨rfl, rfl⟩ ⟨by decide, by decide⟩ (Rrv_0 X w) rfl hl.1 rfl (Nat.le_of_ble_eq_true rfl) dX9_step_90) w (fun r7 u8 H locs h w => ?_)
            refine lv_aload_n (pc := 93) hx hb dX9_step_93 rfl (lv_at hl 1 rfl) ?_
            refine lv_iload_n (pc := 94) hx hb dX9_step_94 rfl (lv_at hl 2 rfl) ?_
            refine lv_aload_n (pc := 95) hx hb dX9_step_95 rfl (lv_at hl 1 rfl) ?_
            refine Rgf_0_36 (pc := 96) X w kw724 dX9_step_96 ?_
            refine lv_aload_n (pc := 99) hx hb dX9_step_99 rfl (lv_at hl 1 rfl) ?_
            refine Rgf_0_35 (pc := 100) X w kw723 dX9_step_100 ?_
            refine lv_iconst (pc := 103) (v := (1 : Int32)) hx hb dX9_step_103 (by decide) ?_
            refine lv_isub (pc := 104) hx hb dX9_step_104 ?_
            refine Rcalll (rest := [.long r7]) (RrunV (pc := 105) X w (okX9_saidBy l hJ h) kw587 kmX9_saidBy ⟨rfl, rfl⟩ ⟨by decide, by decide⟩ (Rrv_0 X w) rfl hl.1 rfl (Nat.le_of_ble_eq_true rfl) dX9_step_105) w (fun r9 u10 H locs h w => ?_)
            refine lv_lsub (pc := 108) hx hb dX9_step_108 ?_
            exact Rlret (pc := 109) X w h dX9_step_109
          · have h := h.2 c_
            refine lv_iload (pc := 60) hx hb dX9_step_60 (lv_at hl 6 rfl) ?_
            refine lv_iconst (pc := 62) (v := (1 : Int32)) hx hb dX9_step_62 (by decide) ?_
            refine lv_icmp_ne (pc := 63) (tgt := 74) hx hb dX9_step_63 (by decide) (fun c_ => ?_) (fun c_ => ?_)
            · have h := h.2 c_
              refine lv_aload_n (pc := 74) hx hb dX9_step_74 rfl (lv_at hl 1 rfl) ?_
              refine Rgf_0_36 (pc := 75) X w kw724 dX9_step_75 ?_
              refine lv_i2l (pc := 78) hx hb dX9_step_78 rfl ?_
              exact Rlret (pc := 79) X w h dX9_step_79
            · have h := h.1 c_
              refine lv_aload_n (pc := 66) hx hb dX9_step_66 rfl (lv_at hl 1 rfl) ?_
              refine Rgf_0_35 (pc := 67) X w kw723 dX9_step_67 ?_
              refine lv_i2l (pc := 70) hx hb dX9_step_70 rfl ?_
              refine lv_goto (pc := 71) (tgt := 79) hx hb dX9_step_71 (by decide) ?_
              exact Rlret (pc := 79) X w h dX9_step_79
        · have h := h.1 c_
          refine lv_ldc2 (pc := 40) (v := (-9223372036854775806 : Int64)) hx hb hown (hts _ (List.mem_cons_of_mem _ kw601)) dX9_step_40 ?_
          exact Rlret (pc := 43) X w h dX9_step_43
set_option maxHeartbeats 4000000 in
set_option maxRecDepth 100000 in
theorem bX9_ledBy_5 {l : Launch} {p : Program} {e : Env} {s : State} {m : MethodId} {args : Array Value} {below : List Frame} {meth : Method} {c : Code} {D : va_G} {g : Nat → ClassId} {ad : Nat → Nat} {u : Mm} {Q : Int64 → Prop} (X : RX p s m args meth c cX9_ledBy RX9 5 (some .long) (Cond.code yX9_ledBy cX9_ledBy 5 (some .long)) D g ad (RA ad)) : ∀ (n : Nat) (x1 : Int32) (x2 : Int64) (x4 : Int32) (H : Heap) (locs : List Loc) (ls : Array Slot), wX9_ledBy_b5 u Q n x1 x2 x4 → RWd D g ad (RA ad) s u H locs → lv_has ls 5 [(0, .ref (ad 0)), (1, .int x1), (2, .long x2), (4, .int x4)] → W p l e ({ frames := 0, cells := 0, slots := 0, locals := 0 } : Room) s m args below meth c H locs 0 0 (MQ below (va_Ql (fun r u1 => u = u1 ∧ Q r) (RB D g ad) (RA ad)) args s 0 0 (RA ad)) (F0 m 5 ls []) := by
  obtain ⟨⟨hx, hb, hml, hown, hts⟩, hr, hlocks, hK, hJ, hAA⟩ := id X
  intro n
  induction n with
  | zero =>
    intro x1 x2 x4 H locs ls h
    exact False.elim h
  | succ n ih =>
    intro x1 x2 x4 H locs ls h w hl
    unfold wX9_ledBy_b5 at h
    refine lv_iload (pc := 5) hx hb dX9_ledBy_5 (lv_at hl 3 rfl) ?_
    refine lv_aload_n (pc := 7) hx hb dX9_ledBy_7 rfl (lv_at hl 0 rfl) ?_
    refine Rgf_0_1 (pc := 8) X w kw531 dX9_ledBy_8 ?_
    refine lv_icmp_ge (pc := 11) (tgt := 59) hx hb dX9_ledBy_11 (by decide) (fun c_ => ?_) (fun c_ => ?_)
    · have h := h.1 c_
      refine lv_lload_n (pc := 59) hx hb dX9_ledBy_59 rfl (lv_at hl 2 rfl) ?_
      exact Rlret (pc := 60) X w ⟨rfl, h⟩ dX9_ledBy_60
    · have h := h.2 c_
      refine lv_iload (pc := 14) hx hb dX9_ledBy_14 (lv_at hl 3 rfl) ?_
      refine lv_bipush (pc := 16) (v := (63 : Int32)) hx hb dX9_ledBy_16 (by decide) ?_
      refine lv_icmp_ge (pc := 18) (tgt := 59) hx hb dX9_ledBy_18 (by decide) (fun c_ => ?_) (fun c_ => ?_)
      · have h := h.1 c_
        refine lv_lload_n (pc := 59) hx hb dX9_ledBy_59 rfl (lv_at hl 2 rfl) ?_
        exact Rlret (pc := 60) X w ⟨rfl, h⟩ dX9_ledBy_60
      · have h := h.2 c_
        refine lv_lload_n (pc := 21) hx hb dX9_ledBy_21 rfl (lv_at hl 2 rfl) ?_
        refine lv_aload_n (pc := 22) hx hb dX9_ledBy_22 rfl (lv_at hl 0 rfl) ?_
        refine Rgf_0_3 (pc := 23) X w kw533 dX9_ledBy_23 ?_
        refine lv_iload (pc := 26) hx hb dX9_ledBy_26 (lv_at hl 3 rfl) ?_
        refine Rld_3 (pc := 28) X w h.1 dX9_ledBy_28 ?_
        have h := h.2
        refine lv_iload_n (pc := 29) hx hb dX9_ledBy_29 rfl (lv_at hl 1 rfl) ?_
        refine lv_icmp_ne (pc := 30) (tgt := 50) hx hb dX9_ledBy_30 (by decide) (fun c_ => ?_) (fun c_ => ?_)
        · have h := h.2 c_
          refine lv_lconst (pc := 50) (v := (0 : Int64)) hx hb dX9_ledBy_50 (by decide) ?_
          refine lv_lor (pc := 51) hx hb dX9_ledBy_51 ?_
          refine lv_topl (fun x2_1 e_ => ?_)
          have h := h x2_1 e_
          refine lv_lstore_n (pc := 52) (lv' := [(2, .long x2_1), (0, .ref (ad 0)), (1, .int x1), (4, .int x4)]) hx hb dX9_ledBy_52 rfl hl (by decide) rfl (fun ls hl => ?_)
          obtain ⟨x4_2, e_⟩ : ∃ y : Int32, y = x4 + (1 : Int32) := ⟨_, rfl⟩
          have h := h x4_2 e_
          refine lv_iinc (pc := 53) (v := x4_2) (lv' := [(4, .int x4_2), (2, .long x2_1), (0, .ref (ad 0)), (1, .int x1)]) hx hb dX9_ledBy_53 hl (k := 3) rfl (by rw [e_]; rfl) (by decide) rfl (fun ls hl => ?_)
          refine lv_goto (pc := 56) (tgt := 5) hx hb dX9_ledBy_56 (by decide) ?_
          exact ih x1 x2_1 x4_2 H locs ls h w (lv_sub hl [2, 3, 1, 0] rfl)
        · have h := h.1 c_
          refine lv_aload_n (pc := 33) hx hb dX9_ledBy_33 rfl (lv_at hl 0 rfl) ?_
          refine Rgf_0_8 (pc := 34) X w kw581 dX9_ledBy_34 ?_
          refine lv_iload (pc := 37) hx hb dX9_ledBy_37 (lv_at hl 3 rfl) ?_
          refine Rld_6 (pc := 39) X w h.1 dX9_ledBy_39 ?_
          have h := h.2
          refine lv_if_eq (pc := 40) (tgt := 50) hx hb dX9_ledBy_40 (by decide) (fun c_ => ?_) (fun c_ => ?_)
          · have h := h.1 c_
            refine lv_lconst (pc := 50) (v := (0 : Int64)) hx hb dX9_ledBy_50 (by decide) ?_
            refine lv_lor (pc := 51) hx hb dX9_ledBy_51 ?_
            refine lv_topl (fun x2_3 e_ => ?_)
            have h := h x2_3 e_
            refine lv_lstore_n (pc := 52) (lv' := [(2, .long x2_3), (0, .ref (ad 0)), (1, .int x1), (4, .int x4)]) hx hb dX9_ledBy_52 rfl hl (by decide) rfl (fun ls hl => ?_)
            obtain ⟨x4_4, e_⟩ : ∃ y : Int32, y = x4 + (1 : Int32) := ⟨_, rfl⟩
            have h := h x4_4 e_
            refine lv_iinc (pc := 53) (v := x4_4) (lv' := [(4, .int x4_4), (2, .long x2_3), (0, .ref (ad 0)), (1, .int x1)]) hx hb dX9_ledBy_53 hl (k := 3) rfl (by rw [e_]; rfl) (by decide) rfl (fun ls hl => ?_)
            refine lv_goto (pc := 56) (tgt := 5) hx hb dX9_ledBy_56 (by decide) ?_
            exact ih x1 x2_3 x4_4 H locs ls h w (lv_sub hl [2, 3, 1, 0] rfl)
          · have h := h.2 c_
            refine lv_lconst (pc := 43) (v := (1 : Int64)) hx hb dX9_ledBy_43 (by decide) ?_
            refine lv_iload (pc := 44) hx hb dX9_ledBy_44 (lv_at hl 3 rfl) ?_
            refine lv_lshl (pc := 46) hx hb dX9_ledBy_46 rfl ?_
            refine lv_goto (pc := 47) (tgt := 51) hx hb dX9_ledBy_47 (by decide) ?_
            refine lv_lor (pc := 51) hx hb dX9_ledBy_51 ?_
            refine lv_topl (fun x2_5 e_ => ?_)
            have h := h x2_5 e_
            refine lv_lstore_n (pc := 52) (lv' := [(2, .long x2_5), (0, .ref (ad 0)), (1, .int x1), (4, .int x4)]) hx hb dX9_ledBy_52 rfl hl (by decide) rfl (fun ls hl => ?_)
            obtain ⟨x4_6, e_⟩ : ∃ y : Int32, y = x4 + (1 : Int32) := ⟨_, rfl⟩
            have h := h x4_6 e_
            refine lv_iinc (pc := 53) (v := x4_6) (lv' := [(4, .int x4_6), (2, .long x2_5), (0, .ref (ad 0)), (1, .int x1)]) hx hb dX9_ledBy_53 hl (k := 3) rfl (by rw [e_]; rfl) (by decide) rfl (fun ls hl => ?_)
            refine lv_goto (pc := 56) (tgt := 5) hx hb dX9_ledBy_56 (by decide) ?_
            exact ih x1 x2_5 x4_6 H locs ls h w (lv_sub hl [2, 3, 1, 0] rfl)
set_option maxHeartbeats 4000000 in
set_option maxRecDepth 100000 in
theorem okX9_ledBy (l : Launch) {D : va_G} {g : Nat → ClassId} {ad : Nat → Nat} (hJ : RJ ad) {u : Mm} {a1 : Int32} {Q : Int64 → Prop} (h : wX9_ledBy u a1 Q) : Met l yX9_ledBy (Cond.code yX9_ledBy cX9_ledBy 5 (some .long) :: gt) ({ frames := 0, cells := 0, slots := 0, locals := 0 } : Room) (RPc D g ad u [.ref (ad 0), .int a1]) (va_Ql (fun r u1 => u = u1 ∧ Q r) (RB D g ad) (RA ad)) 0 0 (RA ad) := by
  refine Met.ofW (cc := cX9_ledBy) (maxL := 5) (ret := (some .long)) (by decide) rfl ?_
  intro p e s m args below meth c s₁ B hml hv
  refine Rentry (own := RX9) B hml hv hJ rfl (Nat.le_of_ble_eq_true rfl) (fun ls H locs X w hl => ?_)
  obtain ⟨⟨hx, hb, hml, hown, hts⟩, hr, hlocks, hK, hJ, hAA⟩ := id X
  have hl : lv_has ls 5 [(0, .ref (ad 0)), (1, .int a1)] := hl
  unfold wX9_ledBy at h
  refine lv_lconst (pc := 0) (v := (0 : Int64)) hx hb dX9_ledBy_0 (by decide) ?_
  refine lv_lstore_n (pc := 1) (lv' := [(2, .long (0 : Int64)), (0, .ref (ad 0)), (1, .int a1)]) hx hb dX9_ledBy_1 rfl hl (by decide) rfl (fun ls hl => ?_)
  refine lv_iconst (pc := 2) (v := (0 : Int32)) hx hb dX9_ledBy_2 (by decide) ?_
  refine lv_istore (pc := 3) (lv' := [(4, .int (0 : Int32)), (2, .long (0 : Int64)), (0, .ref (ad 0)), (1, .int a1)]) hx hb dX9_ledBy_3 hl (by decide) rfl (fun ls hl => ?_)
  obtain ⟨n9, h⟩ := h
  exact bX9_ledBy_5 X n9 a1 (0 : Int64) (0 : Int32) H locs ls h w (lv_sub hl [2, 3, 1, 0] rfl)
set_option maxHeartbeats 4000000 in
set_option maxRecDepth 100000 in
theorem bX9_led_84 {l : Launch} {p : Program} {e : Env} {s : State} {m : MethodId} {args : Array Value} {below : List Frame} {meth : Method} {c : Code} {D : va_G} {g : Nat → ClassId} {ad : Nat → Nat} {Q : Int64 → Mm → Prop} {k49 : Mm → Int32 → Int64 → Int32 → Int32 → Prop} (X : RX p s m args meth c cX9_led RX9 8 (some .long) (Cond.code yX9_led cX9_led 8 (some .long)) D g ad (RA ad)) (hk49 : ∀ (u : Mm) (x1 : Int32) (x3 : Int64) (x5 : Int32) (x6 : Int32) (H : Heap) (locs : List Loc) (ls : Array Slot), k49 u x1 x3 x5 x6 → RWd D g ad (RA ad) s u H locs → lv_has ls 8 [(0, .ref (ad 0)), (1, .int x1), (3, .long x3), (5, .int x5), (6, .int x6)] → W p l e ({ frames := 4, cells := 0, slots := 0, locals := 107 } : Room) s m args below meth c H locs 0 0 (MQ below (va_Ql Q (RB D g ad) (RA ad)) args s 0 0 (RA ad)) (F0 m 49 ls [])) : ∀ (n : Nat) (u : Mm) (x1 : Int32) (x3 : Int64) (x5 : Int32) (x6 : Int32) (x7 : Int32) (H : Heap) (locs : List Loc) (ls : Array Slot), wX9_led_b84 k49 Q n u x1 x3 x5 x6 x7 → RWd D g ad (RA ad) s u H locs → lv_has ls 8 [(0, .ref (ad 0)), (1, .int x1), (3, .long x3), (5, .int x5), (6, .int x6), (7, .int x7)] → W p l e ({ frames := 4, cells := 0, slots := 0, locals := 107 } : Room) s m args below meth c H locs 0 0 (MQ below (va_Ql Q (RB D g ad) (RA ad)) args s 0 0 (RA ad)) (F0 m 84 ls []) := by
  obtain ⟨⟨hx, hb, hml, hown, hts⟩, hr, hlocks, hK, hJ, hAA⟩ := id X
  intro n
  induction n with
  | zero =>
    intro u x1 x3 x5 x6 x7 H locs ls h
    exact False.elim h
  | succ n ih =>
    intro u x1 x3 x5 x6 x7 H locs ls h w hl
    unfold wX9_led_b84 at h
    refine lv_iload (pc := 84) hx hb dX9_led_84 (lv_at hl 5 rfl) ?_
    refine lv_iconst (pc := 86) (v := (4 : Int32)) hx hb dX9_led_86 (by decide) ?_
    refine lv_iload (pc := 87) hx hb dX9_led_87 (lv_at hl 3 rfl) ?_
    refine lv_imul (pc := 89) hx hb dX9_led_89 ?_
    refine lv_iconst (pc := 90) (v := (4 : Int32)) hx hb dX9_led_90 (by decide) ?_
    refine lv_iadd (pc := 91) hx hb dX9_led_91 ?_
    refine lv_icmp_ge (pc := 92) (tgt := 123) hx hb dX9_led_92 (by decide) (fun c_ => ?_) (fun c_ => ?_)
    · have h := h.1 c_
      obtain ⟨x6_1, e_⟩ : ∃ y : Int32, y = x6 + (1 : Int32) := ⟨_, rfl⟩
      have h := h x6_1 e_
      refine lv_iinc (pc := 123) (v := x6_1) (lv' := [(6, .int x6_1), (0, .ref (ad 0)), (1, .int x1), (3, .long x3), (5, .int x5), (7, .int x7)]) hx hb dX9_led_123 hl (k := 4) rfl (by rw [e_]; rfl) (by decide) rfl (fun ls hl => ?_)
      refine lv_goto (pc := 126) (tgt := 49) hx hb dX9_led_126 (by decide) ?_
      exact hk49 u x1 x3 x5 x6_1 H locs ls h w (lv_sub hl [1, 2, 3, 4, 0] rfl)
    · have h := h.2 c_
      refine lv_lload_n (pc := 95) hx hb dX9_led_95 rfl (lv_at hl 2 rfl) ?_
      refine lv_aload_n (pc := 96) hx hb dX9_led_96 rfl (lv_at hl 0 rfl) ?_
      refine lv_iload_n (pc := 97) hx hb dX9_led_97 rfl (lv_at hl 1 rfl) ?_
      refine Rcalli (rest := [.ref (ad 0), .long x3]) (RrunS (pc := 98) X w (okX9_landOf l hJ h) kw512 kmX9_landOf ⟨rfl, rfl⟩ ⟨by decide, by decide⟩ rfl hl.1 rfl (Nat.le_of_ble_eq_true rfl) dX9_led_98) w (fun r2 u9_ H locs h w => ?_)
      obtain ⟨rfl, h⟩ := h
      refine lv_iload_n (pc := 101) hx hb dX9_led_101 rfl (lv_at hl 1 rfl) ?_
      refine Rcalli (rest := [.int r2, .ref (ad 0), .long x3]) (RrunS (pc := 102) X w (okX9_productOf l hJ h) kw515 kmX9_productOf ⟨rfl, rfl⟩ ⟨by decide, by decide⟩ rfl hl.1 rfl (Nat.le_of_ble_eq_true rfl) dX9_led_102) w (fun r3 u9_ H locs h w => ?_)
      obtain ⟨rfl, h⟩ := h
      refine lv_iload (pc := 105) hx hb dX9_led_105 (lv_at hl 4 rfl) ?_
      refine lv_iload (pc := 107) hx hb dX9_led_107 (lv_at hl 5 rfl) ?_
      refine Rcalli (rest := [.ref (ad 0), .long x3]) (RrunS (pc := 109) X w (okX9_cellOf l hJ h) kw502 kmX9_cellOf ⟨rfl, rfl⟩ ⟨by decide, by decide⟩ rfl hl.1 rfl (Nat.le_of_ble_eq_true rfl) dX9_led_109) w (fun r4 u9_ H locs h w => ?_)
      obtain ⟨rfl, h⟩ := h
      refine Rcalll (rest := [.long x3]) (RrunV (pc := 112) X w (okX9_ledBy l hJ h) kw729 kmX9_ledBy ⟨rfl, rfl⟩ ⟨by decide, by decide⟩ (Rrv_0 X w) rfl hl.1 rfl (Nat.le_of_ble_eq_true rfl) dX9_led_112) w (fun r5 u9_ H locs h w => ?_)
      obtain ⟨rfl, h⟩ := h
      refine lv_lor (pc := 115) hx hb dX9_led_115 ?_
      refine lv_topl (fun x3_6 e_ => ?_)
      have h := h x3_6 e_
      refine lv_lstore_n (pc := 116) (lv' := [(3, .long x3_6), (0, .ref (ad 0)), (1, .int x1), (5, .int x5), (6, .int x6), (7, .int x7)]) hx hb dX9_led_116 rfl hl (by decide) rfl (fun ls hl => ?_)
      obtain ⟨x7_7, e_⟩ : ∃ y : Int32, y = x7 + (1 : Int32) := ⟨_, rfl⟩
      have h := h x7_7 e_
      refine lv_iinc (pc := 117) (v := x7_7) (lv' := [(7, .int x7_7), (3, .long x3_6), (0, .ref (ad 0)), (1, .int x1), (5, .int x5), (6, .int x6)]) hx hb dX9_led_117 hl (k := 5) rfl (by rw [e_]; rfl) (by decide) rfl (fun ls hl => ?_)
      refine lv_goto (pc := 120) (tgt := 84) hx hb dX9_led_120 (by decide) ?_
      exact ih u x1 x3_6 x5 x6 x7_7 H locs ls h w (lv_sub hl [2, 3, 1, 4, 5, 0] rfl)
set_option maxHeartbeats 4000000 in
set_option maxRecDepth 100000 in
theorem bX9_led_49 {l : Launch} {p : Program} {e : Env} {s : State} {m : MethodId} {args : Array Value} {below : List Frame} {meth : Method} {c : Code} {D : va_G} {g : Nat → ClassId} {ad : Nat → Nat} {Q : Int64 → Mm → Prop} (X : RX p s m args meth c cX9_led RX9 8 (some .long) (Cond.code yX9_led cX9_led 8 (some .long)) D g ad (RA ad)) : ∀ (n : Nat) (u : Mm) (x1 : Int32) (x3 : Int64) (x5 : Int32) (x6 : Int32) (H : Heap) (locs : List Loc) (ls : Array Slot), wX9_led_b49 Q n u x1 x3 x5 x6 → RWd D g ad (RA ad) s u H locs → lv_has ls 8 [(0, .ref (ad 0)), (1, .int x1), (3, .long x3), (5, .int x5), (6, .int x6)] → W p l e ({ frames := 4, cells := 0, slots := 0, locals := 107 } : Room) s m args below meth c H locs 0 0 (MQ below (va_Ql Q (RB D g ad) (RA ad)) args s 0 0 (RA ad)) (F0 m 49 ls []) := by
  obtain ⟨⟨hx, hb, hml, hown, hts⟩, hr, hlocks, hK, hJ, hAA⟩ := id X
  intro n
  induction n with
  | zero =>
    intro u x1 x3 x5 x6 H locs ls h
    exact False.elim h
  | succ n ih =>
    intro u x1 x3 x5 x6 H locs ls h w hl
    unfold wX9_led_b49 at h
    refine lv_iload (pc := 49) hx hb dX9_led_49 (lv_at hl 4 rfl) ?_
    refine lv_bipush (pc := 51) (v := (6 : Int32)) hx hb dX9_led_51 (by decide) ?_
    refine lv_icmp_ge (pc := 53) (tgt := 129) hx hb dX9_led_53 (by decide) (fun c_ => ?_) (fun c_ => ?_)
    · have h := h.1 c_
      refine lv_lload_n (pc := 129) hx hb dX9_led_129 rfl (lv_at hl 2 rfl) ?_
      exact Rlret (pc := 130) X w h dX9_led_130
    · have h := h.2 c_
      refine lv_lload_n (pc := 56) hx hb dX9_led_56 rfl (lv_at hl 2 rfl) ?_
      refine lv_aload_n (pc := 57) hx hb dX9_led_57 rfl (lv_at hl 0 rfl) ?_
      refine lv_iload_n (pc := 58) hx hb dX9_led_58 rfl (lv_at hl 1 rfl) ?_
      refine Rcalli (rest := [.ref (ad 0), .long x3]) (RrunS (pc := 59) X w (okX9_landOf l hJ h) kw512 kmX9_landOf ⟨rfl, rfl⟩ ⟨by decide, by decide⟩ rfl hl.1 rfl (Nat.le_of_ble_eq_true rfl) dX9_led_59) w (fun r1 u9_ H locs h w => ?_)
      obtain ⟨rfl, h⟩ := h
      refine lv_iload_n (pc := 62) hx hb dX9_led_62 rfl (lv_at hl 1 rfl) ?_
      refine Rcalli (rest := [.int r1, .ref (ad 0), .long x3]) (RrunS (pc := 63) X w (okX9_productOf l hJ h) kw515 kmX9_productOf ⟨rfl, rfl⟩ ⟨by decide, by decide⟩ rfl hl.1 rfl (Nat.le_of_ble_eq_true rfl) dX9_led_63) w (fun r2 u9_ H locs h w => ?_)
      obtain ⟨rfl, h⟩ := h
      refine lv_iload (pc := 66) hx hb dX9_led_66 (lv_at hl 4 rfl) ?_
      refine lv_iload (pc := 68) hx hb dX9_led_68 (lv_at hl 3 rfl) ?_
      refine Rcalli (rest := [.ref (ad 0), .long x3]) (RrunS (pc := 70) X w (okX9_annualOf l hJ h) kw506 kmX9_annualOf ⟨rfl, rfl⟩ ⟨by decide, by decide⟩ rfl hl.1 rfl (Nat.le_of_ble_eq_true rfl) dX9_led_70) w (fun r3 u9_ H locs h w => ?_)
      obtain ⟨rfl, h⟩ := h
      refine Rcalll (rest := [.long x3]) (RrunV (pc := 73) X w (okX9_ledBy l hJ h) kw729 kmX9_ledBy ⟨rfl, rfl⟩ ⟨by decide, by decide⟩ (Rrv_0 X w) rfl hl.1 rfl (Nat.le_of_ble_eq_true rfl) dX9_led_73) w (fun r4 u9_ H locs h w => ?_)
      obtain ⟨rfl, h⟩ := h
      refine lv_lor (pc := 76) hx hb dX9_led_76 ?_
      refine lv_topl (fun x3_5 e_ => ?_)
      have h := h x3_5 e_
      refine lv_lstore_n (pc := 77) (lv' := [(3, .long x3_5), (0, .ref (ad 0)), (1, .int x1), (5, .int x5), (6, .int x6)]) hx hb dX9_led_77 rfl hl (by decide) rfl (fun ls hl => ?_)
      refine lv_iconst (pc := 78) (v := (4 : Int32)) hx hb dX9_led_78 (by decide) ?_
      refine lv_iload (pc := 79) hx hb dX9_led_79 (lv_at hl 3 rfl) ?_
      refine lv_imul (pc := 81) hx hb dX9_led_81 ?_
      refine lv_topi (fun x7_6 e_ => ?_)
      have h := h x7_6 e_
      refine lv_istore (pc := 82) (lv' := [(7, .int x7_6), (3, .long x3_5), (0, .ref (ad 0)), (1, .int x1), (5, .int x5), (6, .int x6)]) hx hb dX9_led_82 hl (by decide) rfl (fun ls hl => ?_)
      obtain ⟨n9, h⟩ := h
      refine bX9_led_84 X ?_ n9 u x1 x3_5 x5 x6 x7_6 H locs ls h w (lv_sub hl [2, 3, 1, 4, 5, 0] rfl)
      · intro u x1 x3 x5 x6 H locs ls h w hl
        exact ih u x1 x3 x5 x6 H locs ls h w (lv_sub hl [0, 1, 2, 3, 4] rfl)
set_option maxHeartbeats 4000000 in
set_option maxRecDepth 100000 in
theorem bX9_led_22 {l : Launch} {p : Program} {e : Env} {s : State} {m : MethodId} {args : Array Value} {below : List Frame} {meth : Method} {c : Code} {D : va_G} {g : Nat → ClassId} {ad : Nat → Nat} {Q : Int64 → Mm → Prop} (X : RX p s m args meth c cX9_led RX9 8 (some .long) (Cond.code yX9_led cX9_led 8 (some .long)) D g ad (RA ad)) : ∀ (u : Mm) (x1 : Int32) (x2 : Int32) (H : Heap) (locs : List Loc) (ls : Array Slot), wX9_led_b22 Q u x1 x2 → RWd D g ad (RA ad) s u H locs → lv_has ls 8 [(0, .ref (ad 0)), (1, .int x1), (2, .int x2)] → W p l e ({ frames := 4, cells := 0, slots := 0, locals := 107 } : Room) s m args below meth c H locs 0 0 (MQ below (va_Ql Q (RB D g ad) (RA ad)) args s 0 0 (RA ad)) (F0 m 22 ls []) := by
  obtain ⟨⟨hx, hb, hml, hown, hts⟩, hr, hlocks, hK, hJ, hAA⟩ := id X
  intro u x1 x2 H locs ls h w hl
  unfold wX9_led_b22 at h
  refine lv_aload_n (pc := 22) hx hb dX9_led_22 rfl (lv_at hl 0 rfl) ?_
  refine Rcallv (rest := []) (RrunV (pc := 23) X w (okX9_looks l hJ h) kw595 kmX9_looks ⟨rfl, rfl⟩ ⟨by decide, by decide⟩ (Rrv_0 X w) rfl hl.1 rfl (Nat.le_of_ble_eq_true rfl) dX9_led_23) w (fun u2 H locs h w => ?_)
  refine lv_iload_n (pc := 26) hx hb dX9_led_26 rfl (lv_at hl 2 rfl) ?_
  refine lv_if_ne (pc := 27) (tgt := 36) hx hb dX9_led_27 (by decide) (fun c_ => ?_) (fun c_ => ?_)
  · have h := h.2 c_
    refine lv_lconst (pc := 36) (v := (0 : Int64)) hx hb dX9_led_36 (by decide) ?_
    refine lv_lstore_n (pc := 37) (lv' := [(3, .long (0 : Int64)), (0, .ref (ad 0)), (1, .int x1), (2, .int x2)]) hx hb dX9_led_37 rfl hl (by decide) rfl (fun ls hl => ?_)
    refine lv_iload_n (pc := 38) hx hb dX9_led_38 rfl (lv_at hl 2 rfl) ?_
    refine Rcalli (rest := []) (RrunS (pc := 39) X w (okX9_timeOf l hJ h) kw521 kmX9_timeOf ⟨rfl, rfl⟩ ⟨by decide, by decide⟩ rfl hl.1 rfl (Nat.le_of_ble_eq_true rfl) dX9_led_39) w (fun r3 u9_ H locs h w => ?_)
    obtain ⟨rfl, h⟩ := h
    refine lv_iconst (pc := 42) (v := (4 : Int32)) hx hb dX9_led_42 (by decide) ?_
    refine lv_idiv (pc := 43) hx hb dX9_led_43 (by decide) ?_
    refine lv_topi (fun x5_4 e_ => ?_)
    have h := h x5_4 e_
    refine lv_istore (pc := 44) (lv' := [(5, .int x5_4), (3, .long (0 : Int64)), (0, .ref (ad 0)), (1, .int x1), (2, .int x2)]) hx hb dX9_led_44 hl (by decide) rfl (fun ls hl => ?_)
    refine lv_iconst (pc := 46) (v := (0 : Int32)) hx hb dX9_led_46 (by decide) ?_
    refine lv_istore (pc := 47) (lv' := [(6, .int (0 : Int32)), (5, .int x5_4), (3, .long (0 : Int64)), (0, .ref (ad 0)), (1, .int x1), (2, .int x2)]) hx hb dX9_led_47 hl (by decide) rfl (fun ls hl => ?_)
    obtain ⟨n9, h⟩ := h
    exact bX9_led_49 X n9 u2 x1 (0 : Int64) x5_4 (0 : Int32) H locs ls h w (lv_sub hl [3, 4, 2, 1, 0] rfl)
  · have h := h.1 c_
    refine lv_aload_n (pc := 30) hx hb dX9_led_30 rfl (lv_at hl 0 rfl) ?_
    refine lv_iload_n (pc := 31) hx hb dX9_led_31 rfl (lv_at hl 1 rfl) ?_
    refine Rcalll (rest := []) (RrunV (pc := 32) X w (okX9_ledBy l hJ h) kw729 kmX9_ledBy ⟨rfl, rfl⟩ ⟨by decide, by decide⟩ (Rrv_0 X w) rfl hl.1 rfl (Nat.le_of_ble_eq_true rfl) dX9_led_32) w (fun r5 u9_ H locs h w => ?_)
    obtain ⟨rfl, h⟩ := h
    exact Rlret (pc := 35) X w h dX9_led_35
set_option maxHeartbeats 4000000 in
set_option maxRecDepth 100000 in
theorem okX9_led (l : Launch) {D : va_G} {g : Nat → ClassId} {ad : Nat → Nat} (hJ : RJ ad) {u : Mm} {a1 : Int32} {a2 : Int32} {Q : Int64 → Mm → Prop} (h : wX9_led u a1 a2 Q) : Met l yX9_led (Cond.code yX9_led cX9_led 8 (some .long) :: gt) ({ frames := 4, cells := 0, slots := 0, locals := 107 } : Room) (RPc D g ad u [.ref (ad 0), .int a1, .int a2]) (va_Ql Q (RB D g ad) (RA ad)) 0 0 (RA ad) := by
  refine Met.ofW (cc := cX9_led) (maxL := 8) (ret := (some .long)) (by decide) rfl ?_
  intro p e s m args below meth c s₁ B hml hv
  refine Rentry (own := RX9) B hml hv hJ rfl (Nat.le_of_ble_eq_true rfl) (fun ls H locs X w hl => ?_)
  obtain ⟨⟨hx, hb, hml, hown, hts⟩, hr, hlocks, hK, hJ, hAA⟩ := id X
  have hl : lv_has ls 8 [(0, .ref (ad 0)), (1, .int a1), (2, .int a2)] := hl
  unfold wX9_led at h
  refine lv_iload_n (pc := 0) hx hb dX9_led_0 rfl (lv_at hl 1 rfl) ?_
  refine Rcalli (rest := []) (RrunS (pc := 1) X w (okX9_isCode l hJ h) kw509 kmX9_isCode ⟨rfl, rfl⟩ ⟨by decide, by decide⟩ rfl hl.1 rfl (Nat.le_of_ble_eq_true rfl) dX9_led_1) w (fun r1 u9_ H locs h w => ?_)
  obtain ⟨hz_r1, h⟩ := h
  obtain ⟨rfl, h⟩ := h
  refine lv_if_eq (pc := 4) (tgt := 18) hx hb dX9_led_4 (by decide) (fun c_ => ?_) (fun c_ => ?_)
  · have h := h.1 c_
    refine lv_ldc2 (pc := 18) (v := (-9223372036854775806 : Int64)) hx hb hown (hts _ (List.mem_cons_of_mem _ kw601)) dX9_led_18 ?_
    exact Rlret (pc := 21) X w h dX9_led_21
  · have h := h.2 c_
    refine lv_iload_n (pc := 7) hx hb dX9_led_7 rfl (lv_at hl 2 rfl) ?_
    refine lv_if_eq (pc := 8) (tgt := 22) hx hb dX9_led_8 (by decide) (fun c_ => ?_) (fun c_ => ?_)
    · have h := h.1 c_
      exact bX9_led_22 X u a1 a2 H locs ls h w (lv_sub hl [0, 1, 2] rfl)
    · have h := h.2 c_
      refine lv_iload_n (pc := 11) hx hb dX9_led_11 rfl (lv_at hl 1 rfl) ?_
      refine Rcalli (rest := []) (RrunS (pc := 12) X w (okX9_isCell l hJ h) kw524 kmX9_isCell ⟨rfl, rfl⟩ ⟨by decide, by decide⟩ rfl hl.1 rfl (Nat.le_of_ble_eq_true rfl) dX9_led_12) w (fun r2 u9_ H locs h w => ?_)
      obtain ⟨hz_r2, h⟩ := h
      obtain ⟨rfl, h⟩ := h
      refine lv_if_ne (pc := 15) (tgt := 22) hx hb dX9_led_15 (by decide) (fun c_ => ?_) (fun c_ => ?_)
      · have h := h.2 c_
        exact bX9_led_22 X u a1 a2 H locs ls h w (lv_sub hl [0, 1, 2] rfl)
      · have h := h.1 c_
        refine lv_ldc2 (pc := 18) (v := (-9223372036854775806 : Int64)) hx hb hown (hts _ (List.mem_cons_of_mem _ kw601)) dX9_led_18 ?_
        exact Rlret (pc := 21) X w h dX9_led_21
set_option maxHeartbeats 4000000 in
set_option maxRecDepth 100000 in
theorem okX9_meets (l : Launch) {D : va_G} {g : Nat → ClassId} {ad : Nat → Nat} (hJ : RJ ad) {u : Mm} {a1 : Int32} {Q : Int32 → Mm → Prop} (h : wX9_meets u a1 Q) : Met l yX9_meets (Cond.code yX9_meets cX9_meets 2 (some .int) :: gt) ({ frames := 0, cells := 0, slots := 0, locals := 0 } : Room) (RPc D g ad u [.ref (ad 0), .int a1]) (va_Qi Q (RB D g ad) (RA ad)) 0 0 (RA ad) := by
  refine Met.ofW (cc := cX9_meets) (maxL := 2) (ret := (some .int)) (by decide) rfl ?_
  intro p e s m args below meth c s₁ B hml hv
  refine Rentry (own := RX9) B hml hv hJ rfl (Nat.le_of_ble_eq_true rfl) (fun ls H locs X w hl => ?_)
  obtain ⟨⟨hx, hb, hml, hown, hts⟩, hr, hlocks, hK, hJ, hAA⟩ := id X
  have hl : lv_has ls 2 [(0, .ref (ad 0)), (1, .int a1)] := hl
  unfold wX9_meets at h
  refine lv_aload_n (pc := 0) hx hb dX9_meets_0 rfl (lv_at hl 0 rfl) ?_
  refine lv_iload_n (pc := 1) hx hb dX9_meets_1 rfl (lv_at hl 1 rfl) ?_
  refine Rpf_0_42 (pc := 2) X w kw733 dX9_meets_2 (fun H locs w => ?_)
  obtain ⟨u1, e_⟩ : ∃ y : Mm, y = s32 u 142 0 a1 := ⟨_, rfl⟩
  rw [← e_] at w
  have h := h u1 e_
  refine lv_bipush (pc := 5) (v := (-10 : Int32)) hx hb dX9_meets_5 (by decide) ?_
  refine lv_iload_n (pc := 7) hx hb dX9_meets_7 rfl (lv_at hl 1 rfl) ?_
  refine lv_isub (pc := 8) hx hb dX9_meets_8 ?_
  exact Riret (pc := 9) X w h dX9_meets_9
set_option maxHeartbeats 4000000 in
set_option maxRecDepth 100000 in
theorem okX9_isSheet (l : Launch) {D : va_G} {g : Nat → ClassId} {ad : Nat → Nat} (hJ : RJ ad) {u : Mm} {a0 : Int32} {Q : Int32 → Prop} (h : wX9_isSheet a0 Q) : Met l yX9_isSheet (Cond.code yX9_isSheet cX9_isSheet 1 (some .boolean) :: gt) ({ frames := 1, cells := 0, slots := 0, locals := 25 } : Room) (RPc D g ad u [.int a0]) (va_Qi (fun r u1 => bz r ∧ (u = u1 ∧ Q r)) (RB D g ad) (RA ad)) 0 0 (RA ad) := by
  refine Met.ofW (cc := cX9_isSheet) (maxL := 1) (ret := (some .boolean)) (by decide) rfl ?_
  intro p e s m args below meth c s₁ B hml hv
  refine Rentry (own := RX9) B hml hv hJ rfl (Nat.le_of_ble_eq_true rfl) (fun ls H locs X w hl => ?_)
  obtain ⟨⟨hx, hb, hml, hown, hts⟩, hr, hlocks, hK, hJ, hAA⟩ := id X
  have hl : lv_has ls 1 [(0, .int a0)] := hl
  unfold wX9_isSheet at h
  refine lv_iload_n (pc := 0) hx hb dX9_isSheet_0 rfl (lv_at hl 0 rfl) ?_
  refine lv_i2l (pc := 1) hx hb dX9_isSheet_1 rfl ?_
  refine lv_lconst (pc := 2) (v := (0 : Int64)) hx hb dX9_isSheet_2 (by decide) ?_
  refine lv_ldc2 (pc := 3) (v := (3 : Int64)) hx hb hown (hts _ (List.mem_cons_of_mem _ kw494)) dX9_isSheet_3 ?_
  refine Rcalli (rest := []) (RrunS (pc := 6) X w (okX9_in l hJ h) kw490 kmX9_in ⟨rfl, rfl⟩ ⟨by decide, by decide⟩ rfl hl.1 rfl (Nat.le_of_ble_eq_true rfl) dX9_isSheet_6) w (fun r1 u9_ H locs h w => ?_)
  obtain ⟨hz_r1, h⟩ := h
  obtain ⟨rfl, h⟩ := h
  exact Rzret (pc := 9) X w hz_r1 ⟨rfl, h⟩ dX9_isSheet_9
set_option maxHeartbeats 4000000 in
set_option maxRecDepth 100000 in
theorem bX9_sheet_62 {l : Launch} {p : Program} {e : Env} {s : State} {m : MethodId} {args : Array Value} {below : List Frame} {meth : Method} {c : Code} {D : va_G} {g : Nat → ClassId} {ad : Nat → Nat} {Q : Int32 → Mm → Prop} (X : RX p s m args meth c cX9_sheet RX9 5 (some .int) (Cond.code yX9_sheet cX9_sheet 5 (some .int)) D g ad (RA ad)) : ∀ (n : Nat) (u : Mm) (x1 : Int32) (x3 : Int32) (x4 : Int32) (H : Heap) (locs : List Loc) (ls : Array Slot), wX9_sheet_b62 Q n u x1 x3 x4 → RWd D g ad (RA ad) s u H locs → lv_has ls 5 [(0, .ref (ad 0)), (1, .int x1), (3, .int x3), (4, .int x4)] → W p l e ({ frames := 2, cells := 0, slots := 0, locals := 45 } : Room) s m args below meth c H locs 0 0 (MQ below (va_Qi Q (RB D g ad) (RA ad)) args s 0 0 (RA ad)) (F0 m 62 ls []) := by
  obtain ⟨⟨hx, hb, hml, hown, hts⟩, hr, hlocks, hK, hJ, hAA⟩ := id X
  intro n
  induction n with
  | zero =>
    intro u x1 x3 x4 H locs ls h
    exact False.elim h
  | succ n ih =>
    intro u x1 x3 x4 H locs ls h w hl
    unfold wX9_sheet_b62 at h
    refine lv_iload (pc := 62) hx hb dX9_sheet_62 (lv_at hl 3 rfl) ?_
    refine lv_bipush (pc := 64) (v := (60 : Int32)) hx hb dX9_sheet_64 (by decide) ?_
    refine lv_icmp_ge (pc := 66) (tgt := 88) hx hb dX9_sheet_66 (by decide) (fun c_ => ?_) (fun c_ => ?_)
    · have h := h.1 c_
      refine lv_iload_n (pc := 88) hx hb dX9_sheet_88 rfl (lv_at hl 2 rfl) ?_
      exact Riret (pc := 89) X w h dX9_sheet_89
    · have h := h.2 c_
      refine lv_aload_n (pc := 69) hx hb dX9_sheet_69 rfl (lv_at hl 0 rfl) ?_
      refine Rgf_0_40 (pc := 70) X w kw744 dX9_sheet_70 ?_
      refine lv_bipush (pc := 73) (v := (60 : Int32)) hx hb dX9_sheet_73 (by decide) ?_
      refine lv_iload_n (pc := 75) hx hb dX9_sheet_75 rfl (lv_at hl 1 rfl) ?_
      refine lv_imul (pc := 76) hx hb dX9_sheet_76 ?_
      refine lv_iload (pc := 77) hx hb dX9_sheet_77 (lv_at hl 3 rfl) ?_
      refine lv_iadd (pc := 79) hx hb dX9_sheet_79 ?_
      refine lv_iconst (pc := 80) (v := (0 : Int32)) hx hb dX9_sheet_80 (by decide) ?_
      refine Rst_29 (pc := 81) X w h.1 dX9_sheet_81 (fun H locs w => ?_)
      have h := h.2
      obtain ⟨u1, e_⟩ : ∃ y : Mm, y = s32 u 29 (((60 : Int32) * x1) + x4).toNatClampNeg (0 : Int32) := ⟨_, rfl⟩
      rw [← e_] at w
      have h := h u1 e_
      obtain ⟨x4_2, e_⟩ : ∃ y : Int32, y = x4 + (1 : Int32) := ⟨_, rfl⟩
      have h := h x4_2 e_
      refine lv_iinc (pc := 82) (v := x4_2) (lv' := [(4, .int x4_2), (0, .ref (ad 0)), (1, .int x1), (3, .int x3)]) hx hb dX9_sheet_82 hl (k := 3) rfl (by rw [e_]; rfl) (by decide) rfl (fun ls hl => ?_)
      refine lv_goto (pc := 85) (tgt := 62) hx hb dX9_sheet_85 (by decide) ?_
      exact ih u1 x1 x3 x4_2 H locs ls h w (lv_sub hl [1, 2, 3, 0] rfl)
set_option maxHeartbeats 4000000 in
set_option maxRecDepth 100000 in
theorem okX9_sheet (l : Launch) {D : va_G} {g : Nat → ClassId} {ad : Nat → Nat} (hJ : RJ ad) {u : Mm} {a1 : Int32} {a2 : Int32} {a3 : Int32} {Q : Int32 → Mm → Prop} (h : wX9_sheet u a1 a2 a3 Q) : Met l yX9_sheet (Cond.code yX9_sheet cX9_sheet 5 (some .int) :: gt) ({ frames := 2, cells := 0, slots := 0, locals := 45 } : Room) (RPc D g ad u [.ref (ad 0), .int a1, .int a2, .int a3]) (va_Qi Q (RB D g ad) (RA ad)) 0 0 (RA ad) := by
  refine Met.ofW (cc := cX9_sheet) (maxL := 5) (ret := (some .int)) (by decide) rfl ?_
  intro p e s m args below meth c s₁ B hml hv
  refine Rentry (own := RX9) B hml hv hJ rfl (Nat.le_of_ble_eq_true rfl) (fun ls H locs X w hl => ?_)
  obtain ⟨⟨hx, hb, hml, hown, hts⟩, hr, hlocks, hK, hJ, hAA⟩ := id X
  have hl : lv_has ls 5 [(0, .ref (ad 0)), (1, .int a1), (2, .int a2), (3, .int a3)] := hl
  unfold wX9_sheet at h
  refine lv_iload_n (pc := 0) hx hb dX9_sheet_0 rfl (lv_at hl 1 rfl) ?_
  refine Rcalli (rest := []) (RrunS (pc := 1) X w (okX9_isSheet l hJ h) kw734 kmX9_isSheet ⟨rfl, rfl⟩ ⟨by decide, by decide⟩ rfl hl.1 rfl (Nat.le_of_ble_eq_true rfl) dX9_sheet_1) w (fun r1 u9_ H locs h w => ?_)
  obtain ⟨hz_r1, h⟩ := h
  obtain ⟨rfl, h⟩ := h
  refine lv_if_eq (pc := 4) (tgt := 25) hx hb dX9_sheet_4 (by decide) (fun c_ => ?_) (fun c_ => ?_)
  · have h := h.1 c_
    refine lv_bipush (pc := 25) (v := (-2 : Int32)) hx hb dX9_sheet_25 (by decide) ?_
    exact Riret (pc := 27) X w h dX9_sheet_27
  · have h := h.2 c_
    refine lv_iload_n (pc := 7) hx hb dX9_sheet_7 rfl (lv_at hl 2 rfl) ?_
    refine lv_i2l (pc := 8) hx hb dX9_sheet_8 rfl ?_
    refine lv_lconst (pc := 9) (v := (0 : Int64)) hx hb dX9_sheet_9 (by decide) ?_
    refine lv_ldc2 (pc := 10) (v := (2 : Int64)) hx hb hown (hts _ (List.mem_cons_of_mem _ kw505)) dX9_sheet_10 ?_
    refine Rcalli (rest := []) (RrunS (pc := 13) X w (okX9_in l hJ h) kw490 kmX9_in ⟨rfl, rfl⟩ ⟨by decide, by decide⟩ rfl hl.1 rfl (Nat.le_of_ble_eq_true rfl) dX9_sheet_13) w (fun r2 u9_ H locs h w => ?_)
    obtain ⟨hz_r2, h⟩ := h
    obtain ⟨rfl, h⟩ := h
    refine lv_if_eq (pc := 16) (tgt := 25) hx hb dX9_sheet_16 (by decide) (fun c_ => ?_) (fun c_ => ?_)
    · have h := h.1 c_
      refine lv_bipush (pc := 25) (v := (-2 : Int32)) hx hb dX9_sheet_25 (by decide) ?_
      exact Riret (pc := 27) X w h dX9_sheet_27
    · have h := h.2 c_
      refine lv_iload_n (pc := 19) hx hb dX9_sheet_19 rfl (lv_at hl 3 rfl) ?_
      refine lv_bipush (pc := 20) (v := (60 : Int32)) hx hb dX9_sheet_20 (by decide) ?_
      refine lv_icmp_le (pc := 22) (tgt := 28) hx hb dX9_sheet_22 (by decide) (fun c_ => ?_) (fun c_ => ?_)
      · have h := h.1 c_
        refine lv_iload_n (pc := 28) hx hb dX9_sheet_28 rfl (lv_at hl 3 rfl) ?_
        refine lv_if_ge (pc := 29) (tgt := 38) hx hb dX9_sheet_29 (by decide) (fun c_ => ?_) (fun c_ => ?_)
        · have h := h.1 c_
          refine lv_aload_n (pc := 38) hx hb dX9_sheet_38 rfl (lv_at hl 0 rfl) ?_
          refine Rgf_0_37 (pc := 39) X w kw737 dX9_sheet_39 ?_
          refine lv_iload_n (pc := 42) hx hb dX9_sheet_42 rfl (lv_at hl 1 rfl) ?_
          refine lv_iconst (pc := 43) (v := (1 : Int32)) hx hb dX9_sheet_43 (by decide) ?_
          refine Rst_26 (pc := 44) X w h.1 dX9_sheet_44 (fun H locs w => ?_)
          have h := h.2
          obtain ⟨u3, e_⟩ : ∃ y : Mm, y = s32 u 26 a1.toNatClampNeg (vp_nar .boolean (1 : Int32)) := ⟨_, rfl⟩
          rw [← e_] at w
          have h := h u3 e_
          refine lv_aload_n (pc := 45) hx hb dX9_sheet_45 rfl (lv_at hl 0 rfl) ?_
          refine Rgf_0_38 (pc := 46) X w kw738 dX9_sheet_46 ?_
          refine lv_iload_n (pc := 49) hx hb dX9_sheet_49 rfl (lv_at hl 1 rfl) ?_
          refine lv_iload_n (pc := 50) hx hb dX9_sheet_50 rfl (lv_at hl 2 rfl) ?_
          refine Rst_27 (pc := 51) X w h.1 dX9_sheet_51 (fun H locs w => ?_)
          have h := h.2
          obtain ⟨u4, e_⟩ : ∃ y : Mm, y = s32 u3 27 a1.toNatClampNeg a2 := ⟨_, rfl⟩
          rw [← e_] at w
          have h := h u4 e_
          refine lv_aload_n (pc := 52) hx hb dX9_sheet_52 rfl (lv_at hl 0 rfl) ?_
          refine Rgf_0_39 (pc := 53) X w kw739 dX9_sheet_53 ?_
          refine lv_iload_n (pc := 56) hx hb dX9_sheet_56 rfl (lv_at hl 1 rfl) ?_
          refine lv_iload_n (pc := 57) hx hb dX9_sheet_57 rfl (lv_at hl 3 rfl) ?_
          refine Rst_28 (pc := 58) X w h.1 dX9_sheet_58 (fun H locs w => ?_)
          have h := h.2
          obtain ⟨u5, e_⟩ : ∃ y : Mm, y = s32 u4 28 a1.toNatClampNeg a3 := ⟨_, rfl⟩
          rw [← e_] at w
          have h := h u5 e_
          refine lv_iconst (pc := 59) (v := (0 : Int32)) hx hb dX9_sheet_59 (by decide) ?_
          refine lv_istore (pc := 60) (lv' := [(4, .int (0 : Int32)), (0, .ref (ad 0)), (1, .int a1), (2, .int a2), (3, .int a3)]) hx hb dX9_sheet_60 hl (by decide) rfl (fun ls hl => ?_)
          obtain ⟨n9, h⟩ := h
          exact bX9_sheet_62 X n9 u5 a1 a3 (0 : Int32) H locs ls h w (lv_sub hl [1, 2, 4, 0] rfl)
        · have h := h.2 c_
          refine lv_aload_n (pc := 32) hx hb dX9_sheet_32 rfl (lv_at hl 0 rfl) ?_
          refine lv_iconst (pc := 33) (v := (5 : Int32)) hx hb dX9_sheet_33 (by decide) ?_
          refine Rcalli (rest := []) (RrunV (pc := 34) X w (okX9_meets l hJ h) kw740 kmX9_meets ⟨rfl, rfl⟩ ⟨by decide, by decide⟩ (Rrv_0 X w) rfl hl.1 rfl (Nat.le_of_ble_eq_true rfl) dX9_sheet_34) w (fun r6 u7 H locs h w => ?_)
          exact Riret (pc := 37) X w h dX9_sheet_37
      · have h := h.2 c_
        refine lv_bipush (pc := 25) (v := (-2 : Int32)) hx hb dX9_sheet_25 (by decide) ?_
        exact Riret (pc := 27) X w h dX9_sheet_27
set_option maxHeartbeats 4000000 in
set_option maxRecDepth 100000 in
theorem okX9_lose (l : Launch) {D : va_G} {g : Nat → ClassId} {ad : Nat → Nat} (hJ : RJ ad) {u : Mm} {a1 : Int32} {Q : Int32 → Mm → Prop} (h : wX9_lose u a1 Q) : Met l yX9_lose (Cond.code yX9_lose cX9_lose 2 (some .int) :: gt) ({ frames := 2, cells := 0, slots := 0, locals := 45 } : Room) (RPc D g ad u [.ref (ad 0), .int a1]) (va_Qi Q (RB D g ad) (RA ad)) 0 0 (RA ad) := by
  refine Met.ofW (cc := cX9_lose) (maxL := 2) (ret := (some .int)) (by decide) rfl ?_
  intro p e s m args below meth c s₁ B hml hv
  refine Rentry (own := RX9) B hml hv hJ rfl (Nat.le_of_ble_eq_true rfl) (fun ls H locs X w hl => ?_)
  obtain ⟨⟨hx, hb, hml, hown, hts⟩, hr, hlocks, hK, hJ, hAA⟩ := id X
  have hl : lv_has ls 2 [(0, .ref (ad 0)), (1, .int a1)] := hl
  unfold wX9_lose at h
  refine lv_iload_n (pc := 0) hx hb dX9_lose_0 rfl (lv_at hl 1 rfl) ?_
  refine Rcalli (rest := []) (RrunS (pc := 1) X w (okX9_isSheet l hJ h) kw734 kmX9_isSheet ⟨rfl, rfl⟩ ⟨by decide, by decide⟩ rfl hl.1 rfl (Nat.le_of_ble_eq_true rfl) dX9_lose_1) w (fun r1 u9_ H locs h w => ?_)
  obtain ⟨hz_r1, h⟩ := h
  obtain ⟨rfl, h⟩ := h
  refine lv_if_ne (pc := 4) (tgt := 10) hx hb dX9_lose_4 (by decide) (fun c_ => ?_) (fun c_ => ?_)
  · have h := h.2 c_
    refine lv_aload_n (pc := 10) hx hb dX9_lose_10 rfl (lv_at hl 0 rfl) ?_
    refine Rgf_0_37 (pc := 11) X w kw737 dX9_lose_11 ?_
    refine lv_iload_n (pc := 14) hx hb dX9_lose_14 rfl (lv_at hl 1 rfl) ?_
    refine Rld_26 (pc := 15) X w h.1 dX9_lose_15 ?_
    have h := h.2
    refine lv_if_ne (pc := 16) (tgt := 25) hx hb dX9_lose_16 (by decide) (fun c_ => ?_) (fun c_ => ?_)
    · have h := h.2 c_
      refine lv_aload_n (pc := 25) hx hb dX9_lose_25 rfl (lv_at hl 0 rfl) ?_
      refine Rgf_0_37 (pc := 26) X w kw737 dX9_lose_26 ?_
      refine lv_iload_n (pc := 29) hx hb dX9_lose_29 rfl (lv_at hl 1 rfl) ?_
      refine lv_iconst (pc := 30) (v := (0 : Int32)) hx hb dX9_lose_30 (by decide) ?_
      refine Rst_26 (pc := 31) X w h.1 dX9_lose_31 (fun H locs w => ?_)
      have h := h.2
      obtain ⟨u2, e_⟩ : ∃ y : Mm, y = s32 u 26 a1.toNatClampNeg (vp_nar .boolean (0 : Int32)) := ⟨_, rfl⟩
      rw [← e_] at w
      have h := h u2 e_
      refine lv_aload_n (pc := 32) hx hb dX9_lose_32 rfl (lv_at hl 0 rfl) ?_
      refine Rgf_0_39 (pc := 33) X w kw739 dX9_lose_33 ?_
      refine lv_iload_n (pc := 36) hx hb dX9_lose_36 rfl (lv_at hl 1 rfl) ?_
      refine Rld_28 (pc := 37) X w h.1 dX9_lose_37 ?_
      have h := h.2
      exact Riret (pc := 38) X w h dX9_lose_38
    · have h := h.1 c_
      refine lv_aload_n (pc := 19) hx hb dX9_lose_19 rfl (lv_at hl 0 rfl) ?_
      refine lv_iconst (pc := 20) (v := (1 : Int32)) hx hb dX9_lose_20 (by decide) ?_
      refine Rcalli (rest := []) (RrunV (pc := 21) X w (okX9_meets l hJ h) kw740 kmX9_meets ⟨rfl, rfl⟩ ⟨by decide, by decide⟩ (Rrv_0 X w) rfl hl.1 rfl (Nat.le_of_ble_eq_true rfl) dX9_lose_21) w (fun r3 u4 H locs h w => ?_)
      exact Riret (pc := 24) X w h dX9_lose_24
  · have h := h.1 c_
    refine lv_bipush (pc := 7) (v := (-2 : Int32)) hx hb dX9_lose_7 (by decide) ?_
    exact Riret (pc := 9) X w h dX9_lose_9
set_option maxHeartbeats 4000000 in
set_option maxRecDepth 100000 in
theorem okX9_lacks (l : Launch) {D : va_G} {g : Nat → ClassId} {ad : Nat → Nat} (hJ : RJ ad) {u : Mm} {a1 : Int32} {a2 : Int32} {a3 : Int32} {Q : Int32 → Prop} (h : wX9_lacks u a1 a2 a3 Q) : Met l yX9_lacks (Cond.code yX9_lacks cX9_lacks 4 (some .int) :: gt) ({ frames := 1, cells := 0, slots := 0, locals := 25 } : Room) (RPc D g ad u [.ref (ad 0), .int a1, .int a2, .int a3]) (va_Qi (fun r u1 => u = u1 ∧ Q r) (RB D g ad) (RA ad)) 0 0 (RA ad) := by
  refine Met.ofW (cc := cX9_lacks) (maxL := 4) (ret := (some .int)) (by decide) rfl ?_
  intro p e s m args below meth c s₁ B hml hv
  refine Rentry (own := RX9) B hml hv hJ rfl (Nat.le_of_ble_eq_true rfl) (fun ls H locs X w hl => ?_)
  obtain ⟨⟨hx, hb, hml, hown, hts⟩, hr, hlocks, hK, hJ, hAA⟩ := id X
  have hl : lv_has ls 4 [(0, .ref (ad 0)), (1, .int a1), (2, .int a2), (3, .int a3)] := hl
  unfold wX9_lacks at h
  refine lv_aload_n (pc := 0) hx hb dX9_lacks_0 rfl (lv_at hl 0 rfl) ?_
  refine Rgf_0_37 (pc := 1) X w kw737 dX9_lacks_1 ?_
  refine lv_iload_n (pc := 4) hx hb dX9_lacks_4 rfl (lv_at hl 1 rfl) ?_
  refine Rld_26 (pc := 5) X w h.1 dX9_lacks_5 ?_
  have h := h.2
  refine lv_if_ne (pc := 6) (tgt := 13) hx hb dX9_lacks_6 (by decide) (fun c_ => ?_) (fun c_ => ?_)
  · have h := h.2 c_
    refine lv_aload_n (pc := 13) hx hb dX9_lacks_13 rfl (lv_at hl 0 rfl) ?_
    refine Rgf_0_38 (pc := 14) X w kw738 dX9_lacks_14 ?_
    refine lv_iload_n (pc := 17) hx hb dX9_lacks_17 rfl (lv_at hl 1 rfl) ?_
    refine Rld_27 (pc := 18) X w h.1 dX9_lacks_18 ?_
    have h := h.2
    refine lv_iload_n (pc := 19) hx hb dX9_lacks_19 rfl (lv_at hl 2 rfl) ?_
    refine lv_icmp_eq (pc := 20) (tgt := 27) hx hb dX9_lacks_20 (by decide) (fun c_ => ?_) (fun c_ => ?_)
    · have h := h.1 c_
      refine lv_iload_n (pc := 27) hx hb dX9_lacks_27 rfl (lv_at hl 3 rfl) ?_
      refine lv_i2l (pc := 28) hx hb dX9_lacks_28 rfl ?_
      refine lv_lconst (pc := 29) (v := (0 : Int64)) hx hb dX9_lacks_29 (by decide) ?_
      refine lv_aload_n (pc := 30) hx hb dX9_lacks_30 rfl (lv_at hl 0 rfl) ?_
      refine Rgf_0_39 (pc := 31) X w kw739 dX9_lacks_31 ?_
      refine lv_iload_n (pc := 34) hx hb dX9_lacks_34 rfl (lv_at hl 1 rfl) ?_
      refine Rld_28 (pc := 35) X w h.1 dX9_lacks_35 ?_
      have h := h.2
      refine lv_iconst (pc := 36) (v := (1 : Int32)) hx hb dX9_lacks_36 (by decide) ?_
      refine lv_isub (pc := 37) hx hb dX9_lacks_37 ?_
      refine lv_i2l (pc := 38) hx hb dX9_lacks_38 rfl ?_
      refine Rcalli (rest := []) (RrunS (pc := 39) X w (okX9_in l hJ h) kw490 kmX9_in ⟨rfl, rfl⟩ ⟨by decide, by decide⟩ rfl hl.1 rfl (Nat.le_of_ble_eq_true rfl) dX9_lacks_39) w (fun r1 u9_ H locs h w => ?_)
      obtain ⟨hz_r1, h⟩ := h
      obtain ⟨rfl, h⟩ := h
      refine lv_if_eq (pc := 42) (tgt := 49) hx hb dX9_lacks_42 (by decide) (fun c_ => ?_) (fun c_ => ?_)
      · have h := h.1 c_
        refine lv_iconst (pc := 49) (v := (2 : Int32)) hx hb dX9_lacks_49 (by decide) ?_
        exact Riret (pc := 50) X w ⟨rfl, h⟩ dX9_lacks_50
      · have h := h.2 c_
        refine lv_iconst (pc := 45) (v := (0 : Int32)) hx hb dX9_lacks_45 (by decide) ?_
        refine lv_goto (pc := 46) (tgt := 50) hx hb dX9_lacks_46 (by decide) ?_
        exact Riret (pc := 50) X w ⟨rfl, h⟩ dX9_lacks_50
    · have h := h.2 c_
      refine lv_iconst (pc := 23) (v := (3 : Int32)) hx hb dX9_lacks_23 (by decide) ?_
      refine lv_goto (pc := 24) (tgt := 50) hx hb dX9_lacks_24 (by decide) ?_
      exact Riret (pc := 50) X w ⟨rfl, h⟩ dX9_lacks_50
  · have h := h.1 c_
    refine lv_iconst (pc := 9) (v := (1 : Int32)) hx hb dX9_lacks_9 (by decide) ?_
    refine lv_goto (pc := 10) (tgt := 50) hx hb dX9_lacks_10 (by decide) ?_
    exact Riret (pc := 50) X w ⟨rfl, h⟩ dX9_lacks_50
set_option maxHeartbeats 4000000 in
set_option maxRecDepth 100000 in
theorem okX9_lay (l : Launch) {D : va_G} {g : Nat → ClassId} {ad : Nat → Nat} (hJ : RJ ad) {u : Mm} {a1 : Int32} {a2 : Int32} {a3 : Int64} {Q : Mm → Prop} (h : wX9_lay u a1 a2 a3 Q) : Met l yX9_lay (Cond.code yX9_lay cX9_lay 5 none :: gt) ({ frames := 0, cells := 0, slots := 0, locals := 0 } : Room) (RPc D g ad u [.ref (ad 0), .int a1, .int a2, .long a3]) (va_Qv Q (RB D g ad) (RA ad)) 0 0 (RA ad) := by
  refine Met.ofW (cc := cX9_lay) (maxL := 5) (ret := none) (by decide) rfl ?_
  intro p e s m args below meth c s₁ B hml hv
  refine Rentry (own := RX9) B hml hv hJ rfl (Nat.le_of_ble_eq_true rfl) (fun ls H locs X w hl => ?_)
  obtain ⟨⟨hx, hb, hml, hown, hts⟩, hr, hlocks, hK, hJ, hAA⟩ := id X
  have hl : lv_has ls 5 [(0, .ref (ad 0)), (1, .int a1), (2, .int a2), (3, .long a3)] := hl
  unfold wX9_lay at h
  refine lv_aload_n (pc := 0) hx hb dX9_lay_0 rfl (lv_at hl 0 rfl) ?_
  refine Rgf_0_40 (pc := 1) X w kw744 dX9_lay_1 ?_
  refine lv_bipush (pc := 4) (v := (60 : Int32)) hx hb dX9_lay_4 (by decide) ?_
  refine lv_iload_n (pc := 6) hx hb dX9_lay_6 rfl (lv_at hl 1 rfl) ?_
  refine lv_imul (pc := 7) hx hb dX9_lay_7 ?_
  refine lv_iload_n (pc := 8) hx hb dX9_lay_8 rfl (lv_at hl 2 rfl) ?_
  refine lv_iadd (pc := 9) hx hb dX9_lay_9 ?_
  refine lv_aload_n (pc := 10) hx hb dX9_lay_10 rfl (lv_at hl 0 rfl) ?_
  refine Rgf_0_38 (pc := 11) X w kw738 dX9_lay_11 ?_
  refine lv_iload_n (pc := 14) hx hb dX9_lay_14 rfl (lv_at hl 1 rfl) ?_
  refine Rld_27 (pc := 15) X w h.1 dX9_lay_15 ?_
  have h := h.2
  refine lv_if_ne (pc := 16) (tgt := 25) hx hb dX9_lay_16 (by decide) (fun c_ => ?_) (fun c_ => ?_)
  · have h := h.2 c_
    refine lv_aload_n (pc := 25) hx hb dX9_lay_25 rfl (lv_at hl 0 rfl) ?_
    refine Rgf_0_38 (pc := 26) X w kw738 dX9_lay_26 ?_
    refine lv_iload_n (pc := 29) hx hb dX9_lay_29 rfl (lv_at hl 1 rfl) ?_
    refine Rld_27 (pc := 30) X w h.1 dX9_lay_30 ?_
    have h := h.2
    refine lv_iconst (pc := 31) (v := (1 : Int32)) hx hb dX9_lay_31 (by decide) ?_
    refine lv_icmp_ne (pc := 32) (tgt := 41) hx hb dX9_lay_32 (by decide) (fun c_ => ?_) (fun c_ => ?_)
    · have h := h.2 c_
      refine lv_lload_n (pc := 41) hx hb dX9_lay_41 rfl (lv_at hl 3 rfl) ?_
      refine lv_l2i (pc := 42) hx hb dX9_lay_42 rfl ?_
      refine Rst_29 (pc := 43) X w h.1 dX9_lay_43 (fun H locs w => ?_)
      have h := h.2
      obtain ⟨u1, e_⟩ : ∃ y : Mm, y = s32 u 29 (((60 : Int32) * a1) + a2).toNatClampNeg a3.toInt32 := ⟨_, rfl⟩
      rw [← e_] at w
      have h := h u1 e_
      exact Rvret (pc := 44) X w h dX9_lay_44
    · have h := h.1 c_
      refine lv_lload_n (pc := 35) hx hb dX9_lay_35 rfl (lv_at hl 3 rfl) ?_
      refine lv_l2i (pc := 36) hx hb dX9_lay_36 rfl ?_
      refine lv_i2s (pc := 37) hx hb dX9_lay_37 rfl ?_
      refine lv_goto (pc := 38) (tgt := 43) hx hb dX9_lay_38 (by decide) ?_
      refine Rst_29 (pc := 43) X w h.1 dX9_lay_43 (fun H locs w => ?_)
      have h := h.2
      obtain ⟨u2, e_⟩ : ∃ y : Mm, y = s32 u 29 (((60 : Int32) * a1) + a2).toNatClampNeg a3.toInt32.toInt16.toInt32 := ⟨_, rfl⟩
      rw [← e_] at w
      have h := h u2 e_
      exact Rvret (pc := 44) X w h dX9_lay_44
  · have h := h.1 c_
    refine lv_lload_n (pc := 19) hx hb dX9_lay_19 rfl (lv_at hl 3 rfl) ?_
    refine lv_l2i (pc := 20) hx hb dX9_lay_20 rfl ?_
    refine lv_i2b (pc := 21) hx hb dX9_lay_21 rfl ?_
    refine lv_goto (pc := 22) (tgt := 43) hx hb dX9_lay_22 (by decide) ?_
    refine Rst_29 (pc := 43) X w h.1 dX9_lay_43 (fun H locs w => ?_)
    have h := h.2
    obtain ⟨u3, e_⟩ : ∃ y : Mm, y = s32 u 29 (((60 : Int32) * a1) + a2).toNatClampNeg a3.toInt32.toInt8.toInt32 := ⟨_, rfl⟩
    rw [← e_] at w
    have h := h u3 e_
    exact Rvret (pc := 44) X w h dX9_lay_44
set_option maxHeartbeats 4000000 in
set_option maxRecDepth 100000 in
theorem okX9_put (l : Launch) {D : va_G} {g : Nat → ClassId} {ad : Nat → Nat} (hJ : RJ ad) {u : Mm} {a1 : Int32} {a2 : Int32} {a3 : Int32} {a4 : Int32} {Q : Int32 → Mm → Prop} (h : wX9_put u a1 a2 a3 a4 Q) : Met l yX9_put (Cond.code yX9_put cX9_put 6 (some .int) :: gt) ({ frames := 2, cells := 0, slots := 0, locals := 48 } : Room) (RPc D g ad u [.ref (ad 0), .int a1, .int a2, .int a3, .int a4]) (va_Qi Q (RB D g ad) (RA ad)) 0 0 (RA ad) := by
  refine Met.ofW (cc := cX9_put) (maxL := 6) (ret := (some .int)) (by decide) rfl ?_
  intro p e s m args below meth c s₁ B hml hv
  refine Rentry (own := RX9) B hml hv hJ rfl (Nat.le_of_ble_eq_true rfl) (fun ls H locs X w hl => ?_)
  obtain ⟨⟨hx, hb, hml, hown, hts⟩, hr, hlocks, hK, hJ, hAA⟩ := id X
  have hl : lv_has ls 6 [(0, .ref (ad 0)), (1, .int a1), (2, .int a2), (3, .int a3), (4, .int a4)] := hl
  unfold wX9_put at h
  refine lv_iload_n (pc := 0) hx hb dX9_put_0 rfl (lv_at hl 1 rfl) ?_
  refine Rcalli (rest := []) (RrunS (pc := 1) X w (okX9_isSheet l hJ h) kw734 kmX9_isSheet ⟨rfl, rfl⟩ ⟨by decide, by decide⟩ rfl hl.1 rfl (Nat.le_of_ble_eq_true rfl) dX9_put_1) w (fun r1 u9_ H locs h w => ?_)
  obtain ⟨hz_r1, h⟩ := h
  obtain ⟨rfl, h⟩ := h
  refine lv_if_eq (pc := 4) (tgt := 19) hx hb dX9_put_4 (by decide) (fun c_ => ?_) (fun c_ => ?_)
  · have h := h.1 c_
    refine lv_bipush (pc := 19) (v := (-2 : Int32)) hx hb dX9_put_19 (by decide) ?_
    exact Riret (pc := 21) X w h dX9_put_21
  · have h := h.2 c_
    refine lv_iload_n (pc := 7) hx hb dX9_put_7 rfl (lv_at hl 2 rfl) ?_
    refine lv_i2l (pc := 8) hx hb dX9_put_8 rfl ?_
    refine lv_lconst (pc := 9) (v := (0 : Int64)) hx hb dX9_put_9 (by decide) ?_
    refine lv_ldc2 (pc := 10) (v := (2 : Int64)) hx hb hown (hts _ (List.mem_cons_of_mem _ kw505)) dX9_put_10 ?_
    refine Rcalli (rest := []) (RrunS (pc := 13) X w (okX9_in l hJ h) kw490 kmX9_in ⟨rfl, rfl⟩ ⟨by decide, by decide⟩ rfl hl.1 rfl (Nat.le_of_ble_eq_true rfl) dX9_put_13) w (fun r2 u9_ H locs h w => ?_)
    obtain ⟨hz_r2, h⟩ := h
    obtain ⟨rfl, h⟩ := h
    refine lv_if_ne (pc := 16) (tgt := 22) hx hb dX9_put_16 (by decide) (fun c_ => ?_) (fun c_ => ?_)
    · have h := h.2 c_
      refine lv_aload_n (pc := 22) hx hb dX9_put_22 rfl (lv_at hl 0 rfl) ?_
      refine lv_iload_n (pc := 23) hx hb dX9_put_23 rfl (lv_at hl 1 rfl) ?_
      refine lv_iload_n (pc := 24) hx hb dX9_put_24 rfl (lv_at hl 2 rfl) ?_
      refine lv_iload_n (pc := 25) hx hb dX9_put_25 rfl (lv_at hl 3 rfl) ?_
      refine Rcalli (rest := []) (RrunV (pc := 26) X w (okX9_lacks l hJ h) kw745 kmX9_lacks ⟨rfl, rfl⟩ ⟨by decide, by decide⟩ (Rrv_0 X w) rfl hl.1 rfl (Nat.le_of_ble_eq_true rfl) dX9_put_26) w (fun r3 u9_ H locs h w => ?_)
      obtain ⟨rfl, h⟩ := h
      refine lv_istore (pc := 29) (lv' := [(5, .int r3), (0, .ref (ad 0)), (1, .int a1), (2, .int a2), (3, .int a3), (4, .int a4)]) hx hb dX9_put_29 hl (by decide) rfl (fun ls hl => ?_)
      refine lv_iload (pc := 31) hx hb dX9_put_31 (lv_at hl 0 rfl) ?_
      refine lv_if_le (pc := 33) (tgt := 43) hx hb dX9_put_33 (by decide) (fun c_ => ?_) (fun c_ => ?_)
      · have h := h.1 c_
        refine lv_aload_n (pc := 43) hx hb dX9_put_43 rfl (lv_at hl 1 rfl) ?_
        refine lv_iload_n (pc := 44) hx hb dX9_put_44 rfl (lv_at hl 2 rfl) ?_
        refine lv_iload_n (pc := 45) hx hb dX9_put_45 rfl (lv_at hl 4 rfl) ?_
        refine lv_iload (pc := 46) hx hb dX9_put_46 (lv_at hl 5 rfl) ?_
        refine lv_i2l (pc := 48) hx hb dX9_put_48 rfl ?_
        refine Rcallv (rest := []) (RrunV (pc := 49) X w (okX9_lay l hJ h) kw749 kmX9_lay ⟨rfl, rfl⟩ ⟨by decide, by decide⟩ (Rrv_0 X w) rfl hl.1 rfl (Nat.le_of_ble_eq_true rfl) dX9_put_49) w (fun u5 H locs h w => ?_)
        refine lv_iconst (pc := 52) (v := (1 : Int32)) hx hb dX9_put_52 (by decide) ?_
        exact Riret (pc := 53) X w h dX9_put_53
      · have h := h.2 c_
        refine lv_aload_n (pc := 36) hx hb dX9_put_36 rfl (lv_at hl 1 rfl) ?_
        refine lv_iload (pc := 37) hx hb dX9_put_37 (lv_at hl 0 rfl) ?_
        refine Rcalli (rest := []) (RrunV (pc := 39) X w (okX9_meets l hJ h) kw740 kmX9_meets ⟨rfl, rfl⟩ ⟨by decide, by decide⟩ (Rrv_0 X w) rfl hl.1 rfl (Nat.le_of_ble_eq_true rfl) dX9_put_39) w (fun r6 u7 H locs h w => ?_)
        exact Riret (pc := 42) X w h dX9_put_42
    · have h := h.1 c_
      refine lv_bipush (pc := 19) (v := (-2 : Int32)) hx hb dX9_put_19 (by decide) ?_
      exact Riret (pc := 21) X w h dX9_put_21
set_option maxHeartbeats 4000000 in
set_option maxRecDepth 100000 in
theorem okX9_get (l : Launch) {D : va_G} {g : Nat → ClassId} {ad : Nat → Nat} (hJ : RJ ad) {u : Mm} {a1 : Int32} {a2 : Int32} {a3 : Int32} {Q : Int32 → Mm → Prop} (h : wX9_get u a1 a2 a3 Q) : Met l yX9_get (Cond.code yX9_get cX9_get 5 (some .int) :: gt) ({ frames := 2, cells := 0, slots := 0, locals := 48 } : Room) (RPc D g ad u [.ref (ad 0), .int a1, .int a2, .int a3]) (va_Qi Q (RB D g ad) (RA ad)) 0 0 (RA ad) := by
  refine Met.ofW (cc := cX9_get) (maxL := 5) (ret := (some .int)) (by decide) rfl ?_
  intro p e s m args below meth c s₁ B hml hv
  refine Rentry (own := RX9) B hml hv hJ rfl (Nat.le_of_ble_eq_true rfl) (fun ls H locs X w hl => ?_)
  obtain ⟨⟨hx, hb, hml, hown, hts⟩, hr, hlocks, hK, hJ, hAA⟩ := id X
  have hl : lv_has ls 5 [(0, .ref (ad 0)), (1, .int a1), (2, .int a2), (3, .int a3)] := hl
  unfold wX9_get at h
  refine lv_iload_n (pc := 0) hx hb dX9_get_0 rfl (lv_at hl 1 rfl) ?_
  refine Rcalli (rest := []) (RrunS (pc := 1) X w (okX9_isSheet l hJ h) kw734 kmX9_isSheet ⟨rfl, rfl⟩ ⟨by decide, by decide⟩ rfl hl.1 rfl (Nat.le_of_ble_eq_true rfl) dX9_get_1) w (fun r1 u9_ H locs h w => ?_)
  obtain ⟨hz_r1, h⟩ := h
  obtain ⟨rfl, h⟩ := h
  refine lv_if_eq (pc := 4) (tgt := 19) hx hb dX9_get_4 (by decide) (fun c_ => ?_) (fun c_ => ?_)
  · have h := h.1 c_
    refine lv_ldcw (pc := 19) (v := (-2147483648 : Int32)) hx hb hown (hts _ (List.mem_cons_of_mem _ kw753)) dX9_get_19 ?_
    exact Riret (pc := 22) X w h dX9_get_22
  · have h := h.2 c_
    refine lv_iload_n (pc := 7) hx hb dX9_get_7 rfl (lv_at hl 2 rfl) ?_
    refine lv_i2l (pc := 8) hx hb dX9_get_8 rfl ?_
    refine lv_lconst (pc := 9) (v := (0 : Int64)) hx hb dX9_get_9 (by decide) ?_
    refine lv_ldc2 (pc := 10) (v := (2 : Int64)) hx hb hown (hts _ (List.mem_cons_of_mem _ kw505)) dX9_get_10 ?_
    refine Rcalli (rest := []) (RrunS (pc := 13) X w (okX9_in l hJ h) kw490 kmX9_in ⟨rfl, rfl⟩ ⟨by decide, by decide⟩ rfl hl.1 rfl (Nat.le_of_ble_eq_true rfl) dX9_get_13) w (fun r2 u9_ H locs h w => ?_)
    obtain ⟨hz_r2, h⟩ := h
    obtain ⟨rfl, h⟩ := h
    refine lv_if_ne (pc := 16) (tgt := 23) hx hb dX9_get_16 (by decide) (fun c_ => ?_) (fun c_ => ?_)
    · have h := h.2 c_
      refine lv_aload_n (pc := 23) hx hb dX9_get_23 rfl (lv_at hl 0 rfl) ?_
      refine lv_iload_n (pc := 24) hx hb dX9_get_24 rfl (lv_at hl 1 rfl) ?_
      refine lv_iload_n (pc := 25) hx hb dX9_get_25 rfl (lv_at hl 2 rfl) ?_
      refine lv_iload_n (pc := 26) hx hb dX9_get_26 rfl (lv_at hl 3 rfl) ?_
      refine Rcalli (rest := []) (RrunV (pc := 27) X w (okX9_lacks l hJ h) kw745 kmX9_lacks ⟨rfl, rfl⟩ ⟨by decide, by decide⟩ (Rrv_0 X w) rfl hl.1 rfl (Nat.le_of_ble_eq_true rfl) dX9_get_27) w (fun r3 u9_ H locs h w => ?_)
      obtain ⟨rfl, h⟩ := h
      refine lv_istore (pc := 30) (lv' := [(4, .int r3), (0, .ref (ad 0)), (1, .int a1), (2, .int a2), (3, .int a3)]) hx hb dX9_get_30 hl (by decide) rfl (fun ls hl => ?_)
      refine lv_iload (pc := 32) hx hb dX9_get_32 (lv_at hl 0 rfl) ?_
      refine lv_if_le (pc := 34) (tgt := 47) hx hb dX9_get_34 (by decide) (fun c_ => ?_) (fun c_ => ?_)
      · have h := h.1 c_
        refine lv_aload_n (pc := 47) hx hb dX9_get_47 rfl (lv_at hl 1 rfl) ?_
        refine Rgf_0_40 (pc := 48) X w kw744 dX9_get_48 ?_
        refine lv_bipush (pc := 51) (v := (60 : Int32)) hx hb dX9_get_51 (by decide) ?_
        refine lv_iload_n (pc := 53) hx hb dX9_get_53 rfl (lv_at hl 2 rfl) ?_
        refine lv_imul (pc := 54) hx hb dX9_get_54 ?_
        refine lv_iload_n (pc := 55) hx hb dX9_get_55 rfl (lv_at hl 4 rfl) ?_
        refine lv_iadd (pc := 56) hx hb dX9_get_56 ?_
        refine Rld_29 (pc := 57) X w h.1 dX9_get_57 ?_
        have h := h.2
        exact Riret (pc := 58) X w h dX9_get_58
      · have h := h.2 c_
        refine lv_aload_n (pc := 37) hx hb dX9_get_37 rfl (lv_at hl 1 rfl) ?_
        refine lv_iload (pc := 38) hx hb dX9_get_38 (lv_at hl 0 rfl) ?_
        refine Rpf_0_42 (pc := 40) X w kw733 dX9_get_40 (fun H locs w => ?_)
        obtain ⟨u4, e_⟩ : ∃ y : Mm, y = s32 u 142 0 r3 := ⟨_, rfl⟩
        rw [← e_] at w
        have h := h u4 e_
        refine lv_ldcw (pc := 43) (v := (-2147483648 : Int32)) hx hb hown (hts _ (List.mem_cons_of_mem _ kw753)) dX9_get_43 ?_
        exact Riret (pc := 46) X w h dX9_get_46
    · have h := h.1 c_
      refine lv_ldcw (pc := 19) (v := (-2147483648 : Int32)) hx hb hown (hts _ (List.mem_cons_of_mem _ kw753)) dX9_get_19 ?_
      exact Riret (pc := 22) X w h dX9_get_22
set_option maxHeartbeats 4000000 in
set_option maxRecDepth 100000 in
theorem bX9_copy_157 {l : Launch} {p : Program} {e : Env} {s : State} {m : MethodId} {args : Array Value} {below : List Frame} {meth : Method} {c : Code} {D : va_G} {g : Nat → ClassId} {ad : Nat → Nat} {Q : Int32 → Mm → Prop} (X : RX p s m args meth c cX9_copy RX9 7 (some .int) (Cond.code yX9_copy cX9_copy 7 (some .int)) D g ad (RA ad)) : ∀ (n : Nat) (u : Mm) (x3 : Int32) (x4 : Int32) (x5 : Int32) (x6 : Int32) (H : Heap) (locs : List Loc) (ls : Array Slot), wX9_copy_b157 Q n u x3 x4 x5 x6 → RWd D g ad (RA ad) s u H locs → lv_has ls 7 [(0, .ref (ad 0)), (3, .int x3), (4, .int x4), (5, .int x5), (6, .int x6)] → W p l e ({ frames := 2, cells := 0, slots := 0, locals := 45 } : Room) s m args below meth c H locs 0 0 (MQ below (va_Qi Q (RB D g ad) (RA ad)) args s 0 0 (RA ad)) (F0 m 157 ls []) := by
  obtain ⟨⟨hx, hb, hml, hown, hts⟩, hr, hlocks, hK, hJ, hAA⟩ := id X
  intro n
  induction n with
  | zero =>
    intro u x3 x4 x5 x6 H locs ls h
    exact False.elim h
  | succ n ih =>
    intro u x3 x4 x5 x6 H locs ls h w hl
    unfold wX9_copy_b157 at h
    refine lv_iload (pc := 157) hx hb dX9_copy_157 (lv_at hl 4 rfl) ?_
    refine lv_iload (pc := 159) hx hb dX9_copy_159 (lv_at hl 3 rfl) ?_
    refine lv_icmp_ge (pc := 161) (tgt := 192) hx hb dX9_copy_161 (by decide) (fun c_ => ?_) (fun c_ => ?_)
    · have h := h.1 c_
      refine lv_iconst (pc := 192) (v := (1 : Int32)) hx hb dX9_copy_192 (by decide) ?_
      exact Riret (pc := 193) X w h dX9_copy_193
    · have h := h.2 c_
      refine lv_aload_n (pc := 164) hx hb dX9_copy_164 rfl (lv_at hl 0 rfl) ?_
      refine Rgf_0_40 (pc := 165) X w kw744 dX9_copy_165 ?_
      refine lv_bipush (pc := 168) (v := (60 : Int32)) hx hb dX9_copy_168 (by decide) ?_
      refine lv_iload_n (pc := 170) hx hb dX9_copy_170 rfl (lv_at hl 1 rfl) ?_
      refine lv_imul (pc := 171) hx hb dX9_copy_171 ?_
      refine lv_iload (pc := 172) hx hb dX9_copy_172 (lv_at hl 2 rfl) ?_
      refine lv_iadd (pc := 174) hx hb dX9_copy_174 ?_
      refine lv_iload (pc := 175) hx hb dX9_copy_175 (lv_at hl 4 rfl) ?_
      refine lv_iadd (pc := 177) hx hb dX9_copy_177 ?_
      refine lv_aload_n (pc := 178) hx hb dX9_copy_178 rfl (lv_at hl 0 rfl) ?_
      refine Rgf_0_41 (pc := 179) X w kw754 dX9_copy_179 ?_
      refine lv_iload (pc := 182) hx hb dX9_copy_182 (lv_at hl 4 rfl) ?_
      refine Rld_30 (pc := 184) X w h.1 dX9_copy_184 ?_
      have h := h.2
      refine Rst_29 (pc := 185) X w h.1 dX9_copy_185 (fun H locs w => ?_)
      have h := h.2
      obtain ⟨u1, e_⟩ : ∃ y : Mm, y = s32 u 29 ((((60 : Int32) * x3) + x4) + x6).toNatClampNeg (u.1 30 x6.toNatClampNeg) := ⟨_, rfl⟩
      rw [← e_] at w
      have h := h u1 e_
      obtain ⟨x6_2, e_⟩ : ∃ y : Int32, y = x6 + (1 : Int32) := ⟨_, rfl⟩
      have h := h x6_2 e_
      refine lv_iinc (pc := 186) (v := x6_2) (lv' := [(6, .int x6_2), (0, .ref (ad 0)), (3, .int x3), (4, .int x4), (5, .int x5)]) hx hb dX9_copy_186 hl (k := 4) rfl (by rw [e_]; rfl) (by decide) rfl (fun ls hl => ?_)
      refine lv_goto (pc := 189) (tgt := 157) hx hb dX9_copy_189 (by decide) ?_
      exact ih u1 x3 x4 x5 x6_2 H locs ls h w (lv_sub hl [1, 2, 3, 4, 0] rfl)
set_option maxHeartbeats 4000000 in
set_option maxRecDepth 100000 in
theorem bX9_copy_120 {l : Launch} {p : Program} {e : Env} {s : State} {m : MethodId} {args : Array Value} {below : List Frame} {meth : Method} {c : Code} {D : va_G} {g : Nat → ClassId} {ad : Nat → Nat} {Q : Int32 → Mm → Prop} (X : RX p s m args meth c cX9_copy RX9 7 (some .int) (Cond.code yX9_copy cX9_copy 7 (some .int)) D g ad (RA ad)) : ∀ (n : Nat) (u : Mm) (x1 : Int32) (x2 : Int32) (x3 : Int32) (x4 : Int32) (x5 : Int32) (x6 : Int32) (H : Heap) (locs : List Loc) (ls : Array Slot), wX9_copy_b120 Q n u x1 x2 x3 x4 x5 x6 → RWd D g ad (RA ad) s u H locs → lv_has ls 7 [(0, .ref (ad 0)), (1, .int x1), (2, .int x2), (3, .int x3), (4, .int x4), (5, .int x5), (6, .int x6)] → W p l e ({ frames := 2, cells := 0, slots := 0, locals := 45 } : Room) s m args below meth c H locs 0 0 (MQ below (va_Qi Q (RB D g ad) (RA ad)) args s 0 0 (RA ad)) (F0 m 120 ls []) := by
  obtain ⟨⟨hx, hb, hml, hown, hts⟩, hr, hlocks, hK, hJ, hAA⟩ := id X
  intro n
  induction n with
  | zero =>
    intro u x1 x2 x3 x4 x5 x6 H locs ls h
    exact False.elim h
  | succ n ih =>
    intro u x1 x2 x3 x4 x5 x6 H locs ls h w hl
    unfold wX9_copy_b120 at h
    refine lv_iload (pc := 120) hx hb dX9_copy_120 (lv_at hl 6 rfl) ?_
    refine lv_iload (pc := 122) hx hb dX9_copy_122 (lv_at hl 5 rfl) ?_
    refine lv_icmp_ge (pc := 124) (tgt := 154) hx hb dX9_copy_124 (by decide) (fun c_ => ?_) (fun c_ => ?_)
    · have h := h.1 c_
      refine lv_iconst (pc := 154) (v := (0 : Int32)) hx hb dX9_copy_154 (by decide) ?_
      refine lv_istore (pc := 155) (lv' := [(6, .int (0 : Int32)), (0, .ref (ad 0)), (1, .int x1), (2, .int x2), (3, .int x3), (4, .int x4), (5, .int x5)]) hx hb dX9_copy_155 hl (by decide) rfl (fun ls hl => ?_)
      obtain ⟨n9, h⟩ := h
      exact bX9_copy_157 X n9 u x3 x4 x5 (0 : Int32) H locs ls h w (lv_sub hl [1, 4, 5, 6, 0] rfl)
    · have h := h.2 c_
      refine lv_aload_n (pc := 127) hx hb dX9_copy_127 rfl (lv_at hl 0 rfl) ?_
      refine Rgf_0_41 (pc := 128) X w kw754 dX9_copy_128 ?_
      refine lv_iload (pc := 131) hx hb dX9_copy_131 (lv_at hl 6 rfl) ?_
      refine lv_aload_n (pc := 133) hx hb dX9_copy_133 rfl (lv_at hl 0 rfl) ?_
      refine Rgf_0_40 (pc := 134) X w kw744 dX9_copy_134 ?_
      refine lv_bipush (pc := 137) (v := (60 : Int32)) hx hb dX9_copy_137 (by decide) ?_
      refine lv_iload_n (pc := 139) hx hb dX9_copy_139 rfl (lv_at hl 1 rfl) ?_
      refine lv_imul (pc := 140) hx hb dX9_copy_140 ?_
      refine lv_iload_n (pc := 141) hx hb dX9_copy_141 rfl (lv_at hl 2 rfl) ?_
      refine lv_iadd (pc := 142) hx hb dX9_copy_142 ?_
      refine lv_iload (pc := 143) hx hb dX9_copy_143 (lv_at hl 6 rfl) ?_
      refine lv_iadd (pc := 145) hx hb dX9_copy_145 ?_
      refine Rld_29 (pc := 146) X w h.1 dX9_copy_146 ?_
      have h := h.2
      refine Rst_30 (pc := 147) X w h.1 dX9_copy_147 (fun H locs w => ?_)
      have h := h.2
      obtain ⟨u1, e_⟩ : ∃ y : Mm, y = s32 u 30 x6.toNatClampNeg (u.1 29 ((((60 : Int32) * x1) + x2) + x6).toNatClampNeg) := ⟨_, rfl⟩
      rw [← e_] at w
      have h := h u1 e_
      obtain ⟨x6_2, e_⟩ : ∃ y : Int32, y = x6 + (1 : Int32) := ⟨_, rfl⟩
      have h := h x6_2 e_
      refine lv_iinc (pc := 148) (v := x6_2) (lv' := [(6, .int x6_2), (0, .ref (ad 0)), (1, .int x1), (2, .int x2), (3, .int x3), (4, .int x4), (5, .int x5)]) hx hb dX9_copy_148 hl (k := 6) rfl (by rw [e_]; rfl) (by decide) rfl (fun ls hl => ?_)
      refine lv_goto (pc := 151) (tgt := 120) hx hb dX9_copy_151 (by decide) ?_
      exact ih u1 x1 x2 x3 x4 x5 x6_2 H locs ls h w (lv_sub hl [1, 2, 3, 4, 5, 6, 0] rfl)
set_option maxHeartbeats 4000000 in
set_option maxRecDepth 100000 in
theorem okX9_copy (l : Launch) {D : va_G} {g : Nat → ClassId} {ad : Nat → Nat} (hJ : RJ ad) {u : Mm} {a1 : Int32} {a2 : Int32} {a3 : Int32} {a4 : Int32} {a5 : Int32} {Q : Int32 → Mm → Prop} (h : wX9_copy u a1 a2 a3 a4 a5 Q) : Met l yX9_copy (Cond.code yX9_copy cX9_copy 7 (some .int) :: gt) ({ frames := 2, cells := 0, slots := 0, locals := 45 } : Room) (RPc D g ad u [.ref (ad 0), .int a1, .int a2, .int a3, .int a4, .int a5]) (va_Qi Q (RB D g ad) (RA ad)) 0 0 (RA ad) := by
  refine Met.ofW (cc := cX9_copy) (maxL := 7) (ret := (some .int)) (by decide) rfl ?_
  intro p e s m args below meth c s₁ B hml hv
  refine Rentry (own := RX9) B hml hv hJ rfl (Nat.le_of_ble_eq_true rfl) (fun ls H locs X w hl => ?_)
  obtain ⟨⟨hx, hb, hml, hown, hts⟩, hr, hlocks, hK, hJ, hAA⟩ := id X
  have hl : lv_has ls 7 [(0, .ref (ad 0)), (1, .int a1), (2, .int a2), (3, .int a3), (4, .int a4), (5, .int a5)] := hl
  unfold wX9_copy at h
  refine lv_iload_n (pc := 0) hx hb dX9_copy_0 rfl (lv_at hl 1 rfl) ?_
  refine Rcalli (rest := []) (RrunS (pc := 1) X w (okX9_isSheet l hJ h) kw734 kmX9_isSheet ⟨rfl, rfl⟩ ⟨by decide, by decide⟩ rfl hl.1 rfl (Nat.le_of_ble_eq_true rfl) dX9_copy_1) w (fun r1 u9_ H locs h w => ?_)
  obtain ⟨hz_r1, h⟩ := h
  obtain ⟨rfl, h⟩ := h
  refine lv_if_eq (pc := 4) (tgt := 14) hx hb dX9_copy_4 (by decide) (fun c_ => ?_) (fun c_ => ?_)
  · have h := h.1 c_
    refine lv_bipush (pc := 14) (v := (-2 : Int32)) hx hb dX9_copy_14 (by decide) ?_
    exact Riret (pc := 16) X w h dX9_copy_16
  · have h := h.2 c_
    refine lv_iload_n (pc := 7) hx hb dX9_copy_7 rfl (lv_at hl 3 rfl) ?_
    refine Rcalli (rest := []) (RrunS (pc := 8) X w (okX9_isSheet l hJ h) kw734 kmX9_isSheet ⟨rfl, rfl⟩ ⟨by decide, by decide⟩ rfl hl.1 rfl (Nat.le_of_ble_eq_true rfl) dX9_copy_8) w (fun r2 u9_ H locs h w => ?_)
    obtain ⟨hz_r2, h⟩ := h
    obtain ⟨rfl, h⟩ := h
    refine lv_if_ne (pc := 11) (tgt := 17) hx hb dX9_copy_11 (by decide) (fun c_ => ?_) (fun c_ => ?_)
    · have h := h.2 c_
      refine lv_aload_n (pc := 17) hx hb dX9_copy_17 rfl (lv_at hl 0 rfl) ?_
      refine Rgf_0_37 (pc := 18) X w kw737 dX9_copy_18 ?_
      refine lv_iload_n (pc := 21) hx hb dX9_copy_21 rfl (lv_at hl 1 rfl) ?_
      refine Rld_26 (pc := 22) X w h.1 dX9_copy_22 ?_
      have h := h.2
      refine lv_if_eq (pc := 23) (tgt := 35) hx hb dX9_copy_23 (by decide) (fun c_ => ?_) (fun c_ => ?_)
      · have h := h.1 c_
        refine lv_aload_n (pc := 35) hx hb dX9_copy_35 rfl (lv_at hl 0 rfl) ?_
        refine lv_iconst (pc := 36) (v := (1 : Int32)) hx hb dX9_copy_36 (by decide) ?_
        refine Rcalli (rest := []) (RrunV (pc := 37) X w (okX9_meets l hJ h) kw740 kmX9_meets ⟨rfl, rfl⟩ ⟨by decide, by decide⟩ (Rrv_0 X w) rfl hl.1 rfl (Nat.le_of_ble_eq_true rfl) dX9_copy_37) w (fun r3 u4 H locs h w => ?_)
        exact Riret (pc := 40) X w h dX9_copy_40
      · have h := h.2 c_
        refine lv_aload_n (pc := 26) hx hb dX9_copy_26 rfl (lv_at hl 0 rfl) ?_
        refine Rgf_0_37 (pc := 27) X w kw737 dX9_copy_27 ?_
        refine lv_iload_n (pc := 30) hx hb dX9_copy_30 rfl (lv_at hl 3 rfl) ?_
        refine Rld_26 (pc := 31) X w h.1 dX9_copy_31 ?_
        have h := h.2
        refine lv_if_ne (pc := 32) (tgt := 41) hx hb dX9_copy_32 (by decide) (fun c_ => ?_) (fun c_ => ?_)
        · have h := h.2 c_
          refine lv_aload_n (pc := 41) hx hb dX9_copy_41 rfl (lv_at hl 0 rfl) ?_
          refine Rgf_0_38 (pc := 42) X w kw738 dX9_copy_42 ?_
          refine lv_iload_n (pc := 45) hx hb dX9_copy_45 rfl (lv_at hl 1 rfl) ?_
          refine Rld_27 (pc := 46) X w h.1 dX9_copy_46 ?_
          have h := h.2
          refine lv_aload_n (pc := 47) hx hb dX9_copy_47 rfl (lv_at hl 0 rfl) ?_
          refine Rgf_0_38 (pc := 48) X w kw738 dX9_copy_48 ?_
          refine lv_iload_n (pc := 51) hx hb dX9_copy_51 rfl (lv_at hl 3 rfl) ?_
          refine Rld_27 (pc := 52) X w h.1 dX9_copy_52 ?_
          have h := h.2
          refine lv_icmp_eq (pc := 53) (tgt := 62) hx hb dX9_copy_53 (by decide) (fun c_ => ?_) (fun c_ => ?_)
          · have h := h.1 c_
            refine lv_iload_n (pc := 62) hx hb dX9_copy_62 rfl (lv_at hl 2 rfl) ?_
            refine lv_if_lt (pc := 63) (tgt := 111) hx hb dX9_copy_63 (by decide) (fun c_ => ?_) (fun c_ => ?_)
            · have h := h.1 c_
              refine lv_aload_n (pc := 111) hx hb dX9_copy_111 rfl (lv_at hl 0 rfl) ?_
              refine lv_iconst (pc := 112) (v := (2 : Int32)) hx hb dX9_copy_112 (by decide) ?_
              refine Rcalli (rest := []) (RrunV (pc := 113) X w (okX9_meets l hJ h) kw740 kmX9_meets ⟨rfl, rfl⟩ ⟨by decide, by decide⟩ (Rrv_0 X w) rfl hl.1 rfl (Nat.le_of_ble_eq_true rfl) dX9_copy_113) w (fun r5 u6 H locs h w => ?_)
              exact Riret (pc := 116) X w h dX9_copy_116
            · have h := h.2 c_
              refine lv_iload (pc := 66) hx hb dX9_copy_66 (lv_at hl 4 rfl) ?_
              refine lv_if_lt (pc := 68) (tgt := 111) hx hb dX9_copy_68 (by decide) (fun c_ => ?_) (fun c_ => ?_)
              · have h := h.1 c_
                refine lv_aload_n (pc := 111) hx hb dX9_copy_111 rfl (lv_at hl 0 rfl) ?_
                refine lv_iconst (pc := 112) (v := (2 : Int32)) hx hb dX9_copy_112 (by decide) ?_
                refine Rcalli (rest := []) (RrunV (pc := 113) X w (okX9_meets l hJ h) kw740 kmX9_meets ⟨rfl, rfl⟩ ⟨by decide, by decide⟩ (Rrv_0 X w) rfl hl.1 rfl (Nat.le_of_ble_eq_true rfl) dX9_copy_113) w (fun r7 u8 H locs h w => ?_)
                exact Riret (pc := 116) X w h dX9_copy_116
              · have h := h.2 c_
                refine lv_iload (pc := 71) hx hb dX9_copy_71 (lv_at hl 5 rfl) ?_
                refine lv_if_lt (pc := 73) (tgt := 111) hx hb dX9_copy_73 (by decide) (fun c_ => ?_) (fun c_ => ?_)
                · have h := h.1 c_
                  refine lv_aload_n (pc := 111) hx hb dX9_copy_111 rfl (lv_at hl 0 rfl) ?_
                  refine lv_iconst (pc := 112) (v := (2 : Int32)) hx hb dX9_copy_112 (by decide) ?_
                  refine Rcalli (rest := []) (RrunV (pc := 113) X w (okX9_meets l hJ h) kw740 kmX9_meets ⟨rfl, rfl⟩ ⟨by decide, by decide⟩ (Rrv_0 X w) rfl hl.1 rfl (Nat.le_of_ble_eq_true rfl) dX9_copy_113) w (fun r9 u10 H locs h w => ?_)
                  exact Riret (pc := 116) X w h dX9_copy_116
                · have h := h.2 c_
                  refine lv_iload_n (pc := 76) hx hb dX9_copy_76 rfl (lv_at hl 2 rfl) ?_
                  refine lv_i2l (pc := 77) hx hb dX9_copy_77 rfl ?_
                  refine lv_iload (pc := 78) hx hb dX9_copy_78 (lv_at hl 5 rfl) ?_
                  refine lv_i2l (pc := 80) hx hb dX9_copy_80 rfl ?_
                  refine lv_ladd (pc := 81) hx hb dX9_copy_81 ?_
                  refine lv_aload_n (pc := 82) hx hb dX9_copy_82 rfl (lv_at hl 0 rfl) ?_
                  refine Rgf_0_39 (pc := 83) X w kw739 dX9_copy_83 ?_
                  refine lv_iload_n (pc := 86) hx hb dX9_copy_86 rfl (lv_at hl 1 rfl) ?_
                  refine Rld_28 (pc := 87) X w h.1 dX9_copy_87 ?_
                  have h := h.2
                  refine lv_i2l (pc := 88) hx hb dX9_copy_88 rfl ?_
                  refine lq_gt (pc := 89) (tgt := 111) hx hb dX9_copy_89 dX9_copy_90 (by decide) (fun c_ => ?_) (fun c_ => ?_)
                  · have h := h.1 c_
                    refine lv_aload_n (pc := 111) hx hb dX9_copy_111 rfl (lv_at hl 0 rfl) ?_
                    refine lv_iconst (pc := 112) (v := (2 : Int32)) hx hb dX9_copy_112 (by decide) ?_
                    refine Rcalli (rest := []) (RrunV (pc := 113) X w (okX9_meets l hJ h) kw740 kmX9_meets ⟨rfl, rfl⟩ ⟨by decide, by decide⟩ (Rrv_0 X w) rfl hl.1 rfl (Nat.le_of_ble_eq_true rfl) dX9_copy_113) w (fun r11 u12 H locs h w => ?_)
                    exact Riret (pc := 116) X w h dX9_copy_116
                  · have h := h.2 c_
                    refine lv_iload (pc := 93) hx hb dX9_copy_93 (lv_at hl 4 rfl) ?_
                    refine lv_i2l (pc := 95) hx hb dX9_copy_95 rfl ?_
                    refine lv_iload (pc := 96) hx hb dX9_copy_96 (lv_at hl 5 rfl) ?_
                    refine lv_i2l (pc := 98) hx hb dX9_copy_98 rfl ?_
                    refine lv_ladd (pc := 99) hx hb dX9_copy_99 ?_
                    refine lv_aload_n (pc := 100) hx hb dX9_copy_100 rfl (lv_at hl 0 rfl) ?_
                    refine Rgf_0_39 (pc := 101) X w kw739 dX9_copy_101 ?_
                    refine lv_iload_n (pc := 104) hx hb dX9_copy_104 rfl (lv_at hl 3 rfl) ?_
                    refine Rld_28 (pc := 105) X w h.1 dX9_copy_105 ?_
                    have h := h.2
                    refine lv_i2l (pc := 106) hx hb dX9_copy_106 rfl ?_
                    refine lq_le (pc := 107) (tgt := 117) hx hb dX9_copy_107 dX9_copy_108 (by decide) (fun c_ => ?_) (fun c_ => ?_)
                    · have h := h.1 c_
                      refine lv_iconst (pc := 117) (v := (0 : Int32)) hx hb dX9_copy_117 (by decide) ?_
                      refine lv_istore (pc := 118) (lv' := [(6, .int (0 : Int32)), (0, .ref (ad 0)), (1, .int a1), (2, .int a2), (3, .int a3), (4, .int a4), (5, .int a5)]) hx hb dX9_copy_118 hl (by decide) rfl (fun ls hl => ?_)
                      obtain ⟨n9, h⟩ := h
                      exact bX9_copy_120 X n9 u a1 a2 a3 a4 a5 (0 : Int32) H locs ls h w (lv_sub hl [1, 2, 3, 4, 5, 6, 0] rfl)
                    · have h := h.2 c_
                      refine lv_aload_n (pc := 111) hx hb dX9_copy_111 rfl (lv_at hl 0 rfl) ?_
                      refine lv_iconst (pc := 112) (v := (2 : Int32)) hx hb dX9_copy_112 (by decide) ?_
                      refine Rcalli (rest := []) (RrunV (pc := 113) X w (okX9_meets l hJ h) kw740 kmX9_meets ⟨rfl, rfl⟩ ⟨by decide, by decide⟩ (Rrv_0 X w) rfl hl.1 rfl (Nat.le_of_ble_eq_true rfl) dX9_copy_113) w (fun r13 u14 H locs h w => ?_)
                      exact Riret (pc := 116) X w h dX9_copy_116
          · have h := h.2 c_
            refine lv_aload_n (pc := 56) hx hb dX9_copy_56 rfl (lv_at hl 0 rfl) ?_
            refine lv_iconst (pc := 57) (v := (4 : Int32)) hx hb dX9_copy_57 (by decide) ?_
            refine Rcalli (rest := []) (RrunV (pc := 58) X w (okX9_meets l hJ h) kw740 kmX9_meets ⟨rfl, rfl⟩ ⟨by decide, by decide⟩ (Rrv_0 X w) rfl hl.1 rfl (Nat.le_of_ble_eq_true rfl) dX9_copy_58) w (fun r15 u16 H locs h w => ?_)
            exact Riret (pc := 61) X w h dX9_copy_61
        · have h := h.1 c_
          refine lv_aload_n (pc := 35) hx hb dX9_copy_35 rfl (lv_at hl 0 rfl) ?_
          refine lv_iconst (pc := 36) (v := (1 : Int32)) hx hb dX9_copy_36 (by decide) ?_
          refine Rcalli (rest := []) (RrunV (pc := 37) X w (okX9_meets l hJ h) kw740 kmX9_meets ⟨rfl, rfl⟩ ⟨by decide, by decide⟩ (Rrv_0 X w) rfl hl.1 rfl (Nat.le_of_ble_eq_true rfl) dX9_copy_37) w (fun r17 u18 H locs h w => ?_)
          exact Riret (pc := 40) X w h dX9_copy_40
    · have h := h.1 c_
      refine lv_bipush (pc := 14) (v := (-2 : Int32)) hx hb dX9_copy_14 (by decide) ?_
      exact Riret (pc := 16) X w h dX9_copy_16
set_option maxHeartbeats 4000000 in
set_option maxRecDepth 100000 in
theorem bX9_read_32 {l : Launch} {p : Program} {e : Env} {s : State} {m : MethodId} {args : Array Value} {below : List Frame} {meth : Method} {c : Code} {D : va_G} {g : Nat → ClassId} {ad : Nat → Nat} {Q : Int32 → Mm → Prop} (X : RX p s m args meth c cX9_read RX9 4 (some .int) (Cond.code yX9_read cX9_read 4 (some .int)) D g ad (RA ad)) : ∀ (n : Nat) (u : Mm) (x1 : Int32) (x2 : Int32) (x3 : Int32) (H : Heap) (locs : List Loc) (ls : Array Slot), wX9_read_b32 Q n u x1 x2 x3 → RWd D g ad (RA ad) s u H locs → lv_has ls 4 [(0, .ref (ad 0)), (1, .int x1), (2, .int x2), (3, .int x3)] → W p l e ({ frames := 3, cells := 0, slots := 0, locals := 69 } : Room) s m args below meth c H locs 0 0 (MQ below (va_Qi Q (RB D g ad) (RA ad)) args s 0 0 (RA ad)) (F0 m 32 ls []) := by
  obtain ⟨⟨hx, hb, hml, hown, hts⟩, hr, hlocks, hK, hJ, hAA⟩ := id X
  intro n
  induction n with
  | zero =>
    intro u x1 x2 x3 H locs ls h
    exact False.elim h
  | succ n ih =>
    intro u x1 x2 x3 H locs ls h w hl
    unfold wX9_read_b32 at h
    refine lv_iload_n (pc := 32) hx hb dX9_read_32 rfl (lv_at hl 3 rfl) ?_
    refine lv_iconst (pc := 33) (v := (3 : Int32)) hx hb dX9_read_33 (by decide) ?_
    refine lv_iadd (pc := 34) hx hb dX9_read_34 ?_
    refine lv_bipush (pc := 35) (v := (60 : Int32)) hx hb dX9_read_35 (by decide) ?_
    refine lv_iload_n (pc := 37) hx hb dX9_read_37 rfl (lv_at hl 1 rfl) ?_
    refine lv_imul (pc := 38) hx hb dX9_read_38 ?_
    refine lv_aload_n (pc := 39) hx hb dX9_read_39 rfl (lv_at hl 0 rfl) ?_
    refine Rgf_0_39 (pc := 40) X w kw739 dX9_read_40 ?_
    refine lv_iload_n (pc := 43) hx hb dX9_read_43 rfl (lv_at hl 1 rfl) ?_
    refine Rld_28 (pc := 44) X w h.1 dX9_read_44 ?_
    have h := h.2
    refine lv_iadd (pc := 45) hx hb dX9_read_45 ?_
    refine lv_icmp_ge (pc := 46) (tgt := 97) hx hb dX9_read_46 (by decide) (fun c_ => ?_) (fun c_ => ?_)
    · have h := h.1 c_
      refine lv_iload_n (pc := 97) hx hb dX9_read_97 rfl (lv_at hl 2 rfl) ?_
      exact Riret (pc := 98) X w h dX9_read_98
    · have h := h.2 c_
      refine lv_aload_n (pc := 49) hx hb dX9_read_49 rfl (lv_at hl 0 rfl) ?_
      refine lv_aload_n (pc := 50) hx hb dX9_read_50 rfl (lv_at hl 0 rfl) ?_
      refine Rgf_0_40 (pc := 51) X w kw744 dX9_read_51 ?_
      refine lv_iload_n (pc := 54) hx hb dX9_read_54 rfl (lv_at hl 3 rfl) ?_
      refine Rld_29 (pc := 55) X w h.1 dX9_read_55 ?_
      have h := h.2
      refine lv_aload_n (pc := 56) hx hb dX9_read_56 rfl (lv_at hl 0 rfl) ?_
      refine Rgf_0_40 (pc := 57) X w kw744 dX9_read_57 ?_
      refine lv_iload_n (pc := 60) hx hb dX9_read_60 rfl (lv_at hl 3 rfl) ?_
      refine lv_iconst (pc := 61) (v := (1 : Int32)) hx hb dX9_read_61 (by decide) ?_
      refine lv_iadd (pc := 62) hx hb dX9_read_62 ?_
      refine Rld_29 (pc := 63) X w h.1 dX9_read_63 ?_
      have h := h.2
      refine lv_aload_n (pc := 64) hx hb dX9_read_64 rfl (lv_at hl 0 rfl) ?_
      refine Rgf_0_40 (pc := 65) X w kw744 dX9_read_65 ?_
      refine lv_iload_n (pc := 68) hx hb dX9_read_68 rfl (lv_at hl 3 rfl) ?_
      refine lv_iconst (pc := 69) (v := (2 : Int32)) hx hb dX9_read_69 (by decide) ?_
      refine lv_iadd (pc := 70) hx hb dX9_read_70 ?_
      refine Rld_29 (pc := 71) X w h.1 dX9_read_71 ?_
      have h := h.2
      refine lv_aload_n (pc := 72) hx hb dX9_read_72 rfl (lv_at hl 0 rfl) ?_
      refine Rgf_0_40 (pc := 73) X w kw744 dX9_read_73 ?_
      refine lv_iload_n (pc := 76) hx hb dX9_read_76 rfl (lv_at hl 3 rfl) ?_
      refine lv_iconst (pc := 77) (v := (3 : Int32)) hx hb dX9_read_77 (by decide) ?_
      refine lv_iadd (pc := 78) hx hb dX9_read_78 ?_
      refine Rld_29 (pc := 79) X w h.1 dX9_read_79 ?_
      have h := h.2
      refine Rcalli (rest := []) (RrunV (pc := 80) X w (okX9_rowMore l hJ h) kw536 kmX9_rowMore ⟨rfl, rfl⟩ ⟨by decide, by decide⟩ (Rrv_0 X w) rfl hl.1 rfl (Nat.le_of_ble_eq_true rfl) dX9_read_80) w (fun r1 u2 H locs h w => ?_)
      refine lv_if_ge (pc := 83) (tgt := 88) hx hb dX9_read_83 (by decide) (fun c_ => ?_) (fun c_ => ?_)
      · have h := h.1 c_
        obtain ⟨x2_3, e_⟩ : ∃ y : Int32, y = x2 + (1 : Int32) := ⟨_, rfl⟩
        have h := h x2_3 e_
        refine lv_iinc (pc := 88) (v := x2_3) (lv' := [(2, .int x2_3), (0, .ref (ad 0)), (1, .int x1), (3, .int x3)]) hx hb dX9_read_88 hl (k := 2) rfl (by rw [e_]; rfl) (by decide) rfl (fun ls hl => ?_)
        obtain ⟨x3_4, e_⟩ : ∃ y : Int32, y = x3 + (4 : Int32) := ⟨_, rfl⟩
        have h := h x3_4 e_
        refine lv_iinc (pc := 91) (v := x3_4) (lv' := [(3, .int x3_4), (2, .int x2_3), (0, .ref (ad 0)), (1, .int x1)]) hx hb dX9_read_91 hl (k := 3) rfl (by rw [e_]; rfl) (by decide) rfl (fun ls hl => ?_)
        refine lv_goto (pc := 94) (tgt := 32) hx hb dX9_read_94 (by decide) ?_
        exact ih u2 x1 x2_3 x3_4 H locs ls h w (lv_sub hl [2, 3, 1, 0] rfl)
      · have h := h.2 c_
        refine lv_iload_n (pc := 86) hx hb dX9_read_86 rfl (lv_at hl 2 rfl) ?_
        exact Riret (pc := 87) X w h dX9_read_87
set_option maxHeartbeats 4000000 in
set_option maxRecDepth 100000 in
theorem okX9_read (l : Launch) {D : va_G} {g : Nat → ClassId} {ad : Nat → Nat} (hJ : RJ ad) {u : Mm} {a1 : Int32} {Q : Int32 → Mm → Prop} (h : wX9_read u a1 Q) : Met l yX9_read (Cond.code yX9_read cX9_read 4 (some .int) :: gt) ({ frames := 3, cells := 0, slots := 0, locals := 69 } : Room) (RPc D g ad u [.ref (ad 0), .int a1]) (va_Qi Q (RB D g ad) (RA ad)) 0 0 (RA ad) := by
  refine Met.ofW (cc := cX9_read) (maxL := 4) (ret := (some .int)) (by decide) rfl ?_
  intro p e s m args below meth c s₁ B hml hv
  refine Rentry (own := RX9) B hml hv hJ rfl (Nat.le_of_ble_eq_true rfl) (fun ls H locs X w hl => ?_)
  obtain ⟨⟨hx, hb, hml, hown, hts⟩, hr, hlocks, hK, hJ, hAA⟩ := id X
  have hl : lv_has ls 4 [(0, .ref (ad 0)), (1, .int a1)] := hl
  unfold wX9_read at h
  refine lv_iload_n (pc := 0) hx hb dX9_read_0 rfl (lv_at hl 1 rfl) ?_
  refine Rcalli (rest := []) (RrunS (pc := 1) X w (okX9_isSheet l hJ h) kw734 kmX9_isSheet ⟨rfl, rfl⟩ ⟨by decide, by decide⟩ rfl hl.1 rfl (Nat.le_of_ble_eq_true rfl) dX9_read_1) w (fun r1 u9_ H locs h w => ?_)
  obtain ⟨hz_r1, h⟩ := h
  obtain ⟨rfl, h⟩ := h
  refine lv_if_ne (pc := 4) (tgt := 10) hx hb dX9_read_4 (by decide) (fun c_ => ?_) (fun c_ => ?_)
  · have h := h.2 c_
    refine lv_aload_n (pc := 10) hx hb dX9_read_10 rfl (lv_at hl 0 rfl) ?_
    refine Rgf_0_37 (pc := 11) X w kw737 dX9_read_11 ?_
    refine lv_iload_n (pc := 14) hx hb dX9_read_14 rfl (lv_at hl 1 rfl) ?_
    refine Rld_26 (pc := 15) X w h.1 dX9_read_15 ?_
    have h := h.2
    refine lv_if_ne (pc := 16) (tgt := 25) hx hb dX9_read_16 (by decide) (fun c_ => ?_) (fun c_ => ?_)
    · have h := h.2 c_
      refine lv_iconst (pc := 25) (v := (0 : Int32)) hx hb dX9_read_25 (by decide) ?_
      refine lv_istore_n (pc := 26) (lv' := [(2, .int (0 : Int32)), (0, .ref (ad 0)), (1, .int a1)]) hx hb dX9_read_26 rfl hl (by decide) rfl (fun ls hl => ?_)
      refine lv_bipush (pc := 27) (v := (60 : Int32)) hx hb dX9_read_27 (by decide) ?_
      refine lv_iload_n (pc := 29) hx hb dX9_read_29 rfl (lv_at hl 2 rfl) ?_
      refine lv_imul (pc := 30) hx hb dX9_read_30 ?_
      refine lv_topi (fun x3_2 e_ => ?_)
      have h := h x3_2 e_
      refine lv_istore_n (pc := 31) (lv' := [(3, .int x3_2), (2, .int (0 : Int32)), (0, .ref (ad 0)), (1, .int a1)]) hx hb dX9_read_31 rfl hl (by decide) rfl (fun ls hl => ?_)
      obtain ⟨n9, h⟩ := h
      exact bX9_read_32 X n9 u a1 (0 : Int32) x3_2 H locs ls h w (lv_sub hl [2, 3, 1, 0] rfl)
    · have h := h.1 c_
      refine lv_aload_n (pc := 19) hx hb dX9_read_19 rfl (lv_at hl 0 rfl) ?_
      refine lv_iconst (pc := 20) (v := (1 : Int32)) hx hb dX9_read_20 (by decide) ?_
      refine Rcalli (rest := []) (RrunV (pc := 21) X w (okX9_meets l hJ h) kw740 kmX9_meets ⟨rfl, rfl⟩ ⟨by decide, by decide⟩ (Rrv_0 X w) rfl hl.1 rfl (Nat.le_of_ble_eq_true rfl) dX9_read_21) w (fun r3 u4 H locs h w => ?_)
      exact Riret (pc := 24) X w h dX9_read_24
  · have h := h.1 c_
    refine lv_bipush (pc := 7) (v := (-2 : Int32)) hx hb dX9_read_7 (by decide) ?_
    exact Riret (pc := 9) X w h dX9_read_9
set_option maxHeartbeats 4000000 in
set_option maxRecDepth 100000 in
theorem bX9_write_42 {l : Launch} {p : Program} {e : Env} {s : State} {m : MethodId} {args : Array Value} {below : List Frame} {meth : Method} {c : Code} {D : va_G} {g : Nat → ClassId} {ad : Nat → Nat} {Q : Int32 → Mm → Prop} (X : RX p s m args meth c cX9_write RX9 6 (some .int) (Cond.code yX9_write cX9_write 6 (some .int)) D g ad (RA ad)) : ∀ (n : Nat) (u : Mm) (x1 : Int32) (x2 : Int32) (x3 : Int32) (x4 : Int32) (x5 : Int32) (H : Heap) (locs : List Loc) (ls : Array Slot), wX9_write_b42 Q n u x1 x2 x3 x4 x5 → RWd D g ad (RA ad) s u H locs → lv_has ls 6 [(0, .ref (ad 0)), (1, .int x1), (2, .int x2), (3, .int x3), (4, .int x4), (5, .int x5)] → W p l e ({ frames := 4, cells := 0, slots := 0, locals := 107 } : Room) s m args below meth c H locs 0 0 (MQ below (va_Qi Q (RB D g ad) (RA ad)) args s 0 0 (RA ad)) (F0 m 42 ls []) := by
  obtain ⟨⟨hx, hb, hml, hown, hts⟩, hr, hlocks, hK, hJ, hAA⟩ := id X
  intro n
  induction n with
  | zero =>
    intro u x1 x2 x3 x4 x5 H locs ls h
    exact False.elim h
  | succ n ih =>
    intro u x1 x2 x3 x4 x5 H locs ls h w hl
    unfold wX9_write_b42 at h
    refine lv_iload (pc := 42) hx hb dX9_write_42 (lv_at hl 5 rfl) ?_
    refine lv_bipush (pc := 44) (v := (12 : Int32)) hx hb dX9_write_44 (by decide) ?_
    refine lv_icmp_ge (pc := 46) (tgt := 87) hx hb dX9_write_46 (by decide) (fun c_ => ?_) (fun c_ => ?_)
    · have h := h.1 c_
      refine lv_iload (pc := 87) hx hb dX9_write_87 (lv_at hl 5 rfl) ?_
      exact Riret (pc := 89) X w h dX9_write_89
    · have h := h.2 c_
      refine lv_iload (pc := 49) hx hb dX9_write_49 (lv_at hl 5 rfl) ?_
      refine lv_aload_n (pc := 51) hx hb dX9_write_51 rfl (lv_at hl 0 rfl) ?_
      refine Rgf_0_39 (pc := 52) X w kw739 dX9_write_52 ?_
      refine lv_iload_n (pc := 55) hx hb dX9_write_55 rfl (lv_at hl 1 rfl) ?_
      refine Rld_28 (pc := 56) X w h.1 dX9_write_56 ?_
      have h := h.2
      refine lv_icmp_ge (pc := 57) (tgt := 87) hx hb dX9_write_57 (by decide) (fun c_ => ?_) (fun c_ => ?_)
      · have h := h.1 c_
        refine lv_iload (pc := 87) hx hb dX9_write_87 (lv_at hl 5 rfl) ?_
        exact Riret (pc := 89) X w h dX9_write_89
      · have h := h.2 c_
        refine lv_aload_n (pc := 60) hx hb dX9_write_60 rfl (lv_at hl 0 rfl) ?_
        refine lv_iload_n (pc := 61) hx hb dX9_write_61 rfl (lv_at hl 1 rfl) ?_
        refine lv_iload (pc := 62) hx hb dX9_write_62 (lv_at hl 5 rfl) ?_
        refine lv_aload_n (pc := 64) hx hb dX9_write_64 rfl (lv_at hl 0 rfl) ?_
        refine Rgf_0_19 (pc := 65) X w kw576 dX9_write_65 ?_
        refine lv_iload_n (pc := 68) hx hb dX9_write_68 rfl (lv_at hl 2 rfl) ?_
        refine lv_iload_n (pc := 69) hx hb dX9_write_69 rfl (lv_at hl 3 rfl) ?_
        refine lv_iload (pc := 70) hx hb dX9_write_70 (lv_at hl 4 rfl) ?_
        refine lv_iload (pc := 72) hx hb dX9_write_72 (lv_at hl 5 rfl) ?_
        refine Rcalli (rest := [.ref (ad 15), .int x5, .int x1, .ref (ad 0)]) (RrunS (pc := 74) X w (okX9_cellOf l hJ h) kw502 kmX9_cellOf ⟨rfl, rfl⟩ ⟨by decide, by decide⟩ rfl hl.1 rfl (Nat.le_of_ble_eq_true rfl) dX9_write_74) w (fun r1 u9_ H locs h w => ?_)
        obtain ⟨rfl, h⟩ := h
        refine Rld_15 (pc := 77) X w h.1 dX9_write_77 ?_
        have h := h.2
        refine Rcallv (rest := []) (RrunV (pc := 78) X w (okX9_lay l hJ h) kw749 kmX9_lay ⟨rfl, rfl⟩ ⟨by decide, by decide⟩ (Rrv_0 X w) rfl hl.1 rfl (Nat.le_of_ble_eq_true rfl) dX9_write_78) w (fun u3 H locs h w => ?_)
        obtain ⟨x5_4, e_⟩ : ∃ y : Int32, y = x5 + (1 : Int32) := ⟨_, rfl⟩
        have h := h x5_4 e_
        refine lv_iinc (pc := 81) (v := x5_4) (lv' := [(5, .int x5_4), (0, .ref (ad 0)), (1, .int x1), (2, .int x2), (3, .int x3), (4, .int x4)]) hx hb dX9_write_81 hl (k := 5) rfl (by rw [e_]; rfl) (by decide) rfl (fun ls hl => ?_)
        refine lv_goto (pc := 84) (tgt := 42) hx hb dX9_write_84 (by decide) ?_
        exact ih u3 x1 x2 x3 x4 x5_4 H locs ls h w (lv_sub hl [1, 2, 3, 4, 5, 0] rfl)
set_option maxHeartbeats 4000000 in
set_option maxRecDepth 100000 in
theorem okX9_write (l : Launch) {D : va_G} {g : Nat → ClassId} {ad : Nat → Nat} (hJ : RJ ad) {u : Mm} {a1 : Int32} {a2 : Int32} {a3 : Int32} {a4 : Int32} {Q : Int32 → Mm → Prop} (h : wX9_write u a1 a2 a3 a4 Q) : Met l yX9_write (Cond.code yX9_write cX9_write 6 (some .int) :: gt) ({ frames := 4, cells := 0, slots := 0, locals := 107 } : Room) (RPc D g ad u [.ref (ad 0), .int a1, .int a2, .int a3, .int a4]) (va_Qi Q (RB D g ad) (RA ad)) 0 0 (RA ad) := by
  refine Met.ofW (cc := cX9_write) (maxL := 6) (ret := (some .int)) (by decide) rfl ?_
  intro p e s m args below meth c s₁ B hml hv
  refine Rentry (own := RX9) B hml hv hJ rfl (Nat.le_of_ble_eq_true rfl) (fun ls H locs X w hl => ?_)
  obtain ⟨⟨hx, hb, hml, hown, hts⟩, hr, hlocks, hK, hJ, hAA⟩ := id X
  have hl : lv_has ls 6 [(0, .ref (ad 0)), (1, .int a1), (2, .int a2), (3, .int a3), (4, .int a4)] := hl
  unfold wX9_write at h
  refine lv_iload_n (pc := 0) hx hb dX9_write_0 rfl (lv_at hl 1 rfl) ?_
  refine Rcalli (rest := []) (RrunS (pc := 1) X w (okX9_isSheet l hJ h) kw734 kmX9_isSheet ⟨rfl, rfl⟩ ⟨by decide, by decide⟩ rfl hl.1 rfl (Nat.le_of_ble_eq_true rfl) dX9_write_1) w (fun r1 u9_ H locs h w => ?_)
  obtain ⟨hz_r1, h⟩ := h
  obtain ⟨rfl, h⟩ := h
  refine lv_if_eq (pc := 4) (tgt := 17) hx hb dX9_write_4 (by decide) (fun c_ => ?_) (fun c_ => ?_)
  · have h := h.1 c_
    refine lv_bipush (pc := 17) (v := (-2 : Int32)) hx hb dX9_write_17 (by decide) ?_
    exact Riret (pc := 19) X w h dX9_write_19
  · have h := h.2 c_
    refine lv_iload_n (pc := 7) hx hb dX9_write_7 rfl (lv_at hl 2 rfl) ?_
    refine lv_iload_n (pc := 8) hx hb dX9_write_8 rfl (lv_at hl 3 rfl) ?_
    refine lv_iload (pc := 9) hx hb dX9_write_9 (lv_at hl 4 rfl) ?_
    refine Rcalli (rest := []) (RrunS (pc := 11) X w (okX9_areThere l hJ h) kw498 kmX9_areThere ⟨rfl, rfl⟩ ⟨by decide, by decide⟩ rfl hl.1 rfl (Nat.le_of_ble_eq_true rfl) dX9_write_11) w (fun r2 u9_ H locs h w => ?_)
    obtain ⟨hz_r2, h⟩ := h
    obtain ⟨rfl, h⟩ := h
    refine lv_if_ne (pc := 14) (tgt := 20) hx hb dX9_write_14 (by decide) (fun c_ => ?_) (fun c_ => ?_)
    · have h := h.2 c_
      refine lv_aload_n (pc := 20) hx hb dX9_write_20 rfl (lv_at hl 0 rfl) ?_
      refine Rgf_0_37 (pc := 21) X w kw737 dX9_write_21 ?_
      refine lv_iload_n (pc := 24) hx hb dX9_write_24 rfl (lv_at hl 1 rfl) ?_
      refine Rld_26 (pc := 25) X w h.1 dX9_write_25 ?_
      have h := h.2
      refine lv_if_ne (pc := 26) (tgt := 35) hx hb dX9_write_26 (by decide) (fun c_ => ?_) (fun c_ => ?_)
      · have h := h.2 c_
        refine lv_aload_n (pc := 35) hx hb dX9_write_35 rfl (lv_at hl 0 rfl) ?_
        refine Rcallv (rest := []) (RrunV (pc := 36) X w (okX9_looks l hJ h) kw595 kmX9_looks ⟨rfl, rfl⟩ ⟨by decide, by decide⟩ (Rrv_0 X w) rfl hl.1 rfl (Nat.le_of_ble_eq_true rfl) dX9_write_36) w (fun u4 H locs h w => ?_)
        refine lv_iconst (pc := 39) (v := (0 : Int32)) hx hb dX9_write_39 (by decide) ?_
        refine lv_istore (pc := 40) (lv' := [(5, .int (0 : Int32)), (0, .ref (ad 0)), (1, .int a1), (2, .int a2), (3, .int a3), (4, .int a4)]) hx hb dX9_write_40 hl (by decide) rfl (fun ls hl => ?_)
        obtain ⟨n9, h⟩ := h
        exact bX9_write_42 X n9 u4 a1 a2 a3 a4 (0 : Int32) H locs ls h w (lv_sub hl [1, 2, 3, 4, 5, 0] rfl)
      · have h := h.1 c_
        refine lv_aload_n (pc := 29) hx hb dX9_write_29 rfl (lv_at hl 0 rfl) ?_
        refine lv_iconst (pc := 30) (v := (1 : Int32)) hx hb dX9_write_30 (by decide) ?_
        refine Rcalli (rest := []) (RrunV (pc := 31) X w (okX9_meets l hJ h) kw740 kmX9_meets ⟨rfl, rfl⟩ ⟨by decide, by decide⟩ (Rrv_0 X w) rfl hl.1 rfl (Nat.le_of_ble_eq_true rfl) dX9_write_31) w (fun r5 u6 H locs h w => ?_)
        exact Riret (pc := 34) X w h dX9_write_34
    · have h := h.1 c_
      refine lv_bipush (pc := 17) (v := (-2 : Int32)) hx hb dX9_write_17 (by decide) ?_
      exact Riret (pc := 19) X w h dX9_write_19
set_option maxHeartbeats 4000000 in
set_option maxRecDepth 100000 in
theorem bX9_count_63 {l : Launch} {p : Program} {e : Env} {s : State} {m : MethodId} {args : Array Value} {below : List Frame} {meth : Method} {c : Code} {D : va_G} {g : Nat → ClassId} {ad : Nat → Nat} {Q : Int32 → Mm → Prop} (X : RX p s m args meth c cX9_count RX9 4 (some .int) (Cond.code yX9_count cX9_count 4 (some .int)) D g ad (RA ad)) : ∀ (n : Nat) (u : Mm) (x2 : Int32) (x3 : Int32) (H : Heap) (locs : List Loc) (ls : Array Slot), wX9_count_b63 Q n u x2 x3 → RWd D g ad (RA ad) s u H locs → lv_has ls 4 [(0, .ref (ad 0)), (2, .int x2), (3, .int x3)] → W p l e ({ frames := 4, cells := 0, slots := 0, locals := 107 } : Room) s m args below meth c H locs 0 0 (MQ below (va_Qi Q (RB D g ad) (RA ad)) args s 0 0 (RA ad)) (F0 m 63 ls []) := by
  obtain ⟨⟨hx, hb, hml, hown, hts⟩, hr, hlocks, hK, hJ, hAA⟩ := id X
  intro n
  induction n with
  | zero =>
    intro u x2 x3 H locs ls h
    exact False.elim h
  | succ n ih =>
    intro u x2 x3 H locs ls h w hl
    unfold wX9_count_b63 at h
    refine lv_iload_n (pc := 63) hx hb dX9_count_63 rfl (lv_at hl 2 rfl) ?_
    refine lv_aload_n (pc := 64) hx hb dX9_count_64 rfl (lv_at hl 0 rfl) ?_
    refine Rgf_0_1 (pc := 65) X w kw531 dX9_count_65 ?_
    refine lv_icmp_ge (pc := 68) (tgt := 94) hx hb dX9_count_68 (by decide) (fun c_ => ?_) (fun c_ => ?_)
    · have h := h.1 c_
      refine lv_iload_n (pc := 94) hx hb dX9_count_94 rfl (lv_at hl 1 rfl) ?_
      exact Riret (pc := 95) X w h dX9_count_95
    · have h := h.2 c_
      refine lv_iload_n (pc := 71) hx hb dX9_count_71 rfl (lv_at hl 1 rfl) ?_
      refine lv_aload_n (pc := 72) hx hb dX9_count_72 rfl (lv_at hl 0 rfl) ?_
      refine Rgf_0_8 (pc := 73) X w kw581 dX9_count_73 ?_
      refine lv_iload_n (pc := 76) hx hb dX9_count_76 rfl (lv_at hl 2 rfl) ?_
      refine Rld_6 (pc := 77) X w h.1 dX9_count_77 ?_
      have h := h.2
      refine lv_if_eq (pc := 78) (tgt := 85) hx hb dX9_count_78 (by decide) (fun c_ => ?_) (fun c_ => ?_)
      · have h := h.1 c_
        refine lv_iconst (pc := 85) (v := (0 : Int32)) hx hb dX9_count_85 (by decide) ?_
        refine lv_iadd (pc := 86) hx hb dX9_count_86 ?_
        refine lv_topi (fun x2_1 e_ => ?_)
        have h := h x2_1 e_
        refine lv_istore_n (pc := 87) (lv' := [(2, .int x2_1), (0, .ref (ad 0)), (3, .int x3)]) hx hb dX9_count_87 rfl hl (by decide) rfl (fun ls hl => ?_)
        obtain ⟨x3_2, e_⟩ : ∃ y : Int32, y = x3 + (1 : Int32) := ⟨_, rfl⟩
        have h := h x3_2 e_
        refine lv_iinc (pc := 88) (v := x3_2) (lv' := [(3, .int x3_2), (2, .int x2_1), (0, .ref (ad 0))]) hx hb dX9_count_88 hl (k := 2) rfl (by rw [e_]; rfl) (by decide) rfl (fun ls hl => ?_)
        refine lv_goto (pc := 91) (tgt := 63) hx hb dX9_count_91 (by decide) ?_
        exact ih u x2_1 x3_2 H locs ls h w (lv_sub hl [2, 1, 0] rfl)
      · have h := h.2 c_
        refine lv_iconst (pc := 81) (v := (1 : Int32)) hx hb dX9_count_81 (by decide) ?_
        refine lv_goto (pc := 82) (tgt := 86) hx hb dX9_count_82 (by decide) ?_
        refine lv_iadd (pc := 86) hx hb dX9_count_86 ?_
        refine lv_topi (fun x2_3 e_ => ?_)
        have h := h x2_3 e_
        refine lv_istore_n (pc := 87) (lv' := [(2, .int x2_3), (0, .ref (ad 0)), (3, .int x3)]) hx hb dX9_count_87 rfl hl (by decide) rfl (fun ls hl => ?_)
        obtain ⟨x3_4, e_⟩ : ∃ y : Int32, y = x3 + (1 : Int32) := ⟨_, rfl⟩
        have h := h x3_4 e_
        refine lv_iinc (pc := 88) (v := x3_4) (lv' := [(3, .int x3_4), (2, .int x2_3), (0, .ref (ad 0))]) hx hb dX9_count_88 hl (k := 2) rfl (by rw [e_]; rfl) (by decide) rfl (fun ls hl => ?_)
        refine lv_goto (pc := 91) (tgt := 63) hx hb dX9_count_91 (by decide) ?_
        exact ih u x2_3 x3_4 H locs ls h w (lv_sub hl [2, 1, 0] rfl)
set_option maxHeartbeats 4000000 in
set_option maxRecDepth 100000 in
theorem bX9_count_108 {l : Launch} {p : Program} {e : Env} {s : State} {m : MethodId} {args : Array Value} {below : List Frame} {meth : Method} {c : Code} {D : va_G} {g : Nat → ClassId} {ad : Nat → Nat} {Q : Int32 → Mm → Prop} (X : RX p s m args meth c cX9_count RX9 4 (some .int) (Cond.code yX9_count cX9_count 4 (some .int)) D g ad (RA ad)) : ∀ (n : Nat) (u : Mm) (x2 : Int32) (x3 : Int32) (H : Heap) (locs : List Loc) (ls : Array Slot), wX9_count_b108 Q n u x2 x3 → RWd D g ad (RA ad) s u H locs → lv_has ls 4 [(0, .ref (ad 0)), (2, .int x2), (3, .int x3)] → W p l e ({ frames := 4, cells := 0, slots := 0, locals := 107 } : Room) s m args below meth c H locs 0 0 (MQ below (va_Qi Q (RB D g ad) (RA ad)) args s 0 0 (RA ad)) (F0 m 108 ls []) := by
  obtain ⟨⟨hx, hb, hml, hown, hts⟩, hr, hlocks, hK, hJ, hAA⟩ := id X
  intro n
  induction n with
  | zero =>
    intro u x2 x3 H locs ls h
    exact False.elim h
  | succ n ih =>
    intro u x2 x3 H locs ls h w hl
    unfold wX9_count_b108 at h
    refine lv_iload_n (pc := 108) hx hb dX9_count_108 rfl (lv_at hl 2 rfl) ?_
    refine lv_bipush (pc := 109) (v := (6 : Int32)) hx hb dX9_count_109 (by decide) ?_
    refine lv_icmp_ge (pc := 111) (tgt := 129) hx hb dX9_count_111 (by decide) (fun c_ => ?_) (fun c_ => ?_)
    · have h := h.1 c_
      refine lv_iload_n (pc := 129) hx hb dX9_count_129 rfl (lv_at hl 1 rfl) ?_
      exact Riret (pc := 130) X w h dX9_count_130
    · have h := h.2 c_
      refine lv_iload_n (pc := 114) hx hb dX9_count_114 rfl (lv_at hl 1 rfl) ?_
      refine lv_aload_n (pc := 115) hx hb dX9_count_115 rfl (lv_at hl 0 rfl) ?_
      refine Rgf_0_12 (pc := 116) X w kw563 dX9_count_116 ?_
      refine lv_iload_n (pc := 119) hx hb dX9_count_119 rfl (lv_at hl 2 rfl) ?_
      refine Rld_9 (pc := 120) X w h.1 dX9_count_120 ?_
      have h := h.2
      refine lv_iadd (pc := 121) hx hb dX9_count_121 ?_
      refine lv_topi (fun x2_1 e_ => ?_)
      have h := h x2_1 e_
      refine lv_istore_n (pc := 122) (lv' := [(2, .int x2_1), (0, .ref (ad 0)), (3, .int x3)]) hx hb dX9_count_122 rfl hl (by decide) rfl (fun ls hl => ?_)
      obtain ⟨x3_2, e_⟩ : ∃ y : Int32, y = x3 + (1 : Int32) := ⟨_, rfl⟩
      have h := h x3_2 e_
      refine lv_iinc (pc := 123) (v := x3_2) (lv' := [(3, .int x3_2), (2, .int x2_1), (0, .ref (ad 0))]) hx hb dX9_count_123 hl (k := 2) rfl (by rw [e_]; rfl) (by decide) rfl (fun ls hl => ?_)
      refine lv_goto (pc := 126) (tgt := 108) hx hb dX9_count_126 (by decide) ?_
      exact ih u x2_1 x3_2 H locs ls h w (lv_sub hl [2, 1, 0] rfl)
set_option maxHeartbeats 4000000 in
set_option maxRecDepth 100000 in
theorem bX9_count_133 {l : Launch} {p : Program} {e : Env} {s : State} {m : MethodId} {args : Array Value} {below : List Frame} {meth : Method} {c : Code} {D : va_G} {g : Nat → ClassId} {ad : Nat → Nat} {Q : Int32 → Mm → Prop} (X : RX p s m args meth c cX9_count RX9 4 (some .int) (Cond.code yX9_count cX9_count 4 (some .int)) D g ad (RA ad)) : ∀ (n : Nat) (u : Mm) (x2 : Int32) (x3 : Int32) (H : Heap) (locs : List Loc) (ls : Array Slot), wX9_count_b133 Q n u x2 x3 → RWd D g ad (RA ad) s u H locs → lv_has ls 4 [(0, .ref (ad 0)), (2, .int x2), (3, .int x3)] → W p l e ({ frames := 4, cells := 0, slots := 0, locals := 107 } : Room) s m args below meth c H locs 0 0 (MQ below (va_Qi Q (RB D g ad) (RA ad)) args s 0 0 (RA ad)) (F0 m 133 ls []) := by
  obtain ⟨⟨hx, hb, hml, hown, hts⟩, hr, hlocks, hK, hJ, hAA⟩ := id X
  intro n
  induction n with
  | zero =>
    intro u x2 x3 H locs ls h
    exact False.elim h
  | succ n ih =>
    intro u x2 x3 H locs ls h w hl
    unfold wX9_count_b133 at h
    refine lv_iload_n (pc := 133) hx hb dX9_count_133 rfl (lv_at hl 2 rfl) ?_
    refine lv_bipush (pc := 134) (v := (48 : Int32)) hx hb dX9_count_134 (by decide) ?_
    refine lv_icmp_ge (pc := 136) (tgt := 162) hx hb dX9_count_136 (by decide) (fun c_ => ?_) (fun c_ => ?_)
    · have h := h.1 c_
      refine lv_iload_n (pc := 162) hx hb dX9_count_162 rfl (lv_at hl 1 rfl) ?_
      exact Riret (pc := 163) X w h dX9_count_163
    · have h := h.2 c_
      refine lv_iload_n (pc := 139) hx hb dX9_count_139 rfl (lv_at hl 1 rfl) ?_
      refine lv_aload_n (pc := 140) hx hb dX9_count_140 rfl (lv_at hl 0 rfl) ?_
      refine Rgf_0_17 (pc := 141) X w kw569 dX9_count_141 ?_
      refine lv_iload_n (pc := 144) hx hb dX9_count_144 rfl (lv_at hl 2 rfl) ?_
      refine Rld_14 (pc := 145) X w h.1 dX9_count_145 ?_
      have h := h.2
      refine lv_if_eq (pc := 146) (tgt := 153) hx hb dX9_count_146 (by decide) (fun c_ => ?_) (fun c_ => ?_)
      · have h := h.1 c_
        refine lv_iconst (pc := 153) (v := (0 : Int32)) hx hb dX9_count_153 (by decide) ?_
        refine lv_iadd (pc := 154) hx hb dX9_count_154 ?_
        refine lv_topi (fun x2_1 e_ => ?_)
        have h := h x2_1 e_
        refine lv_istore_n (pc := 155) (lv' := [(2, .int x2_1), (0, .ref (ad 0)), (3, .int x3)]) hx hb dX9_count_155 rfl hl (by decide) rfl (fun ls hl => ?_)
        obtain ⟨x3_2, e_⟩ : ∃ y : Int32, y = x3 + (1 : Int32) := ⟨_, rfl⟩
        have h := h x3_2 e_
        refine lv_iinc (pc := 156) (v := x3_2) (lv' := [(3, .int x3_2), (2, .int x2_1), (0, .ref (ad 0))]) hx hb dX9_count_156 hl (k := 2) rfl (by rw [e_]; rfl) (by decide) rfl (fun ls hl => ?_)
        refine lv_goto (pc := 159) (tgt := 133) hx hb dX9_count_159 (by decide) ?_
        exact ih u x2_1 x3_2 H locs ls h w (lv_sub hl [2, 1, 0] rfl)
      · have h := h.2 c_
        refine lv_iconst (pc := 149) (v := (1 : Int32)) hx hb dX9_count_149 (by decide) ?_
        refine lv_goto (pc := 150) (tgt := 154) hx hb dX9_count_150 (by decide) ?_
        refine lv_iadd (pc := 154) hx hb dX9_count_154 ?_
        refine lv_topi (fun x2_3 e_ => ?_)
        have h := h x2_3 e_
        refine lv_istore_n (pc := 155) (lv' := [(2, .int x2_3), (0, .ref (ad 0)), (3, .int x3)]) hx hb dX9_count_155 rfl hl (by decide) rfl (fun ls hl => ?_)
        obtain ⟨x3_4, e_⟩ : ∃ y : Int32, y = x3 + (1 : Int32) := ⟨_, rfl⟩
        have h := h x3_4 e_
        refine lv_iinc (pc := 156) (v := x3_4) (lv' := [(3, .int x3_4), (2, .int x2_3), (0, .ref (ad 0))]) hx hb dX9_count_156 hl (k := 2) rfl (by rw [e_]; rfl) (by decide) rfl (fun ls hl => ?_)
        refine lv_goto (pc := 159) (tgt := 133) hx hb dX9_count_159 (by decide) ?_
        exact ih u x2_3 x3_4 H locs ls h w (lv_sub hl [2, 1, 0] rfl)
set_option maxHeartbeats 4000000 in
set_option maxRecDepth 100000 in
theorem bX9_count_166 {l : Launch} {p : Program} {e : Env} {s : State} {m : MethodId} {args : Array Value} {below : List Frame} {meth : Method} {c : Code} {D : va_G} {g : Nat → ClassId} {ad : Nat → Nat} {Q : Int32 → Mm → Prop} (X : RX p s m args meth c cX9_count RX9 4 (some .int) (Cond.code yX9_count cX9_count 4 (some .int)) D g ad (RA ad)) : ∀ (n : Nat) (u : Mm) (x2 : Int32) (x3 : Int32) (H : Heap) (locs : List Loc) (ls : Array Slot), wX9_count_b166 Q n u x2 x3 → RWd D g ad (RA ad) s u H locs → lv_has ls 4 [(0, .ref (ad 0)), (2, .int x2), (3, .int x3)] → W p l e ({ frames := 4, cells := 0, slots := 0, locals := 107 } : Room) s m args below meth c H locs 0 0 (MQ below (va_Qi Q (RB D g ad) (RA ad)) args s 0 0 (RA ad)) (F0 m 166 ls []) := by
  obtain ⟨⟨hx, hb, hml, hown, hts⟩, hr, hlocks, hK, hJ, hAA⟩ := id X
  intro n
  induction n with
  | zero =>
    intro u x2 x3 H locs ls h
    exact False.elim h
  | succ n ih =>
    intro u x2 x3 H locs ls h w hl
    unfold wX9_count_b166 at h
    refine lv_iload_n (pc := 166) hx hb dX9_count_166 rfl (lv_at hl 2 rfl) ?_
    refine lv_bipush (pc := 167) (v := (72 : Int32)) hx hb dX9_count_167 (by decide) ?_
    refine lv_icmp_ge (pc := 169) (tgt := 195) hx hb dX9_count_169 (by decide) (fun c_ => ?_) (fun c_ => ?_)
    · have h := h.1 c_
      refine lv_iload_n (pc := 195) hx hb dX9_count_195 rfl (lv_at hl 1 rfl) ?_
      exact Riret (pc := 196) X w h dX9_count_196
    · have h := h.2 c_
      refine lv_iload_n (pc := 172) hx hb dX9_count_172 rfl (lv_at hl 1 rfl) ?_
      refine lv_aload_n (pc := 173) hx hb dX9_count_173 rfl (lv_at hl 0 rfl) ?_
      refine Rgf_0_27 (pc := 174) X w kw676 dX9_count_174 ?_
      refine lv_iload_n (pc := 177) hx hb dX9_count_177 rfl (lv_at hl 2 rfl) ?_
      refine Rld_22 (pc := 178) X w h.1 dX9_count_178 ?_
      have h := h.2
      refine lv_if_eq (pc := 179) (tgt := 186) hx hb dX9_count_179 (by decide) (fun c_ => ?_) (fun c_ => ?_)
      · have h := h.1 c_
        refine lv_iconst (pc := 186) (v := (0 : Int32)) hx hb dX9_count_186 (by decide) ?_
        refine lv_iadd (pc := 187) hx hb dX9_count_187 ?_
        refine lv_topi (fun x2_1 e_ => ?_)
        have h := h x2_1 e_
        refine lv_istore_n (pc := 188) (lv' := [(2, .int x2_1), (0, .ref (ad 0)), (3, .int x3)]) hx hb dX9_count_188 rfl hl (by decide) rfl (fun ls hl => ?_)
        obtain ⟨x3_2, e_⟩ : ∃ y : Int32, y = x3 + (1 : Int32) := ⟨_, rfl⟩
        have h := h x3_2 e_
        refine lv_iinc (pc := 189) (v := x3_2) (lv' := [(3, .int x3_2), (2, .int x2_1), (0, .ref (ad 0))]) hx hb dX9_count_189 hl (k := 2) rfl (by rw [e_]; rfl) (by decide) rfl (fun ls hl => ?_)
        refine lv_goto (pc := 192) (tgt := 166) hx hb dX9_count_192 (by decide) ?_
        exact ih u x2_1 x3_2 H locs ls h w (lv_sub hl [2, 1, 0] rfl)
      · have h := h.2 c_
        refine lv_iconst (pc := 182) (v := (1 : Int32)) hx hb dX9_count_182 (by decide) ?_
        refine lv_goto (pc := 183) (tgt := 187) hx hb dX9_count_183 (by decide) ?_
        refine lv_iadd (pc := 187) hx hb dX9_count_187 ?_
        refine lv_topi (fun x2_3 e_ => ?_)
        have h := h x2_3 e_
        refine lv_istore_n (pc := 188) (lv' := [(2, .int x2_3), (0, .ref (ad 0)), (3, .int x3)]) hx hb dX9_count_188 rfl hl (by decide) rfl (fun ls hl => ?_)
        obtain ⟨x3_4, e_⟩ : ∃ y : Int32, y = x3 + (1 : Int32) := ⟨_, rfl⟩
        have h := h x3_4 e_
        refine lv_iinc (pc := 189) (v := x3_4) (lv' := [(3, .int x3_4), (2, .int x2_3), (0, .ref (ad 0))]) hx hb dX9_count_189 hl (k := 2) rfl (by rw [e_]; rfl) (by decide) rfl (fun ls hl => ?_)
        refine lv_goto (pc := 192) (tgt := 166) hx hb dX9_count_192 (by decide) ?_
        exact ih u x2_3 x3_4 H locs ls h w (lv_sub hl [2, 1, 0] rfl)
set_option maxHeartbeats 4000000 in
set_option maxRecDepth 100000 in
theorem okX9_count (l : Launch) {D : va_G} {g : Nat → ClassId} {ad : Nat → Nat} (hJ : RJ ad) {u : Mm} {a1 : Int32} {Q : Int32 → Mm → Prop} (h : wX9_count u a1 Q) : Met l yX9_count (Cond.code yX9_count cX9_count 4 (some .int) :: gt) ({ frames := 4, cells := 0, slots := 0, locals := 107 } : Room) (RPc D g ad u [.ref (ad 0), .int a1]) (va_Qi Q (RB D g ad) (RA ad)) 0 0 (RA ad) := by
  refine Met.ofW (cc := cX9_count) (maxL := 4) (ret := (some .int)) (by decide) rfl ?_
  intro p e s m args below meth c s₁ B hml hv
  refine Rentry (own := RX9) B hml hv hJ rfl (Nat.le_of_ble_eq_true rfl) (fun ls H locs X w hl => ?_)
  obtain ⟨⟨hx, hb, hml, hown, hts⟩, hr, hlocks, hK, hJ, hAA⟩ := id X
  have hl : lv_has ls 4 [(0, .ref (ad 0)), (1, .int a1)] := hl
  unfold wX9_count at h
  refine lv_iconst (pc := 0) (v := (0 : Int32)) hx hb dX9_count_0 (by decide) ?_
  refine lv_istore_n (pc := 1) (lv' := [(2, .int (0 : Int32)), (0, .ref (ad 0)), (1, .int a1)]) hx hb dX9_count_1 rfl hl (by decide) rfl (fun ls hl => ?_)
  refine lv_aload_n (pc := 2) hx hb dX9_count_2 rfl (lv_at hl 1 rfl) ?_
  refine Rcallv (rest := []) (RrunV (pc := 3) X w (okX9_looks l hJ h) kw595 kmX9_looks ⟨rfl, rfl⟩ ⟨by decide, by decide⟩ (Rrv_0 X w) rfl hl.1 rfl (Nat.le_of_ble_eq_true rfl) dX9_count_3) w (fun u2 H locs h w => ?_)
  refine lv_iload_n (pc := 6) hx hb dX9_count_6 rfl (lv_at hl 2 rfl) ?_
  rcases sw_in a1 8 (by decide) with hs | ⟨js, hjs, hs⟩
  · have h := h.2.2.2.2.2.2.2.2.2 hs
    refine lv_tableOut (pc := 7) (tgt := 230) hx hb dX9_count_7 hs (by decide) ?_
    refine lv_bipush (pc := 230) (v := (-2 : Int32)) hx hb dX9_count_230 (by decide) ?_
    exact Riret (pc := 232) X w h dX9_count_232
  · rcases (show js = 0 ∨ js = 1 ∨ js = 2 ∨ js = 3 ∨ js = 4 ∨ js = 5 ∨ js = 6 ∨ js = 7 ∨ js = 8 by omega) with rfl | rfl | rfl | rfl | rfl | rfl | rfl | rfl | rfl
    · have h := h.1 hs
      refine lv_topi (fun z_ ez_ => ?_)
      rw [hs] at ez_
      subst ez_
      refine lv_tableIn (pc := 7) (tgt := 56) (off := 49) hx hb dX9_count_7 (by decide) (by decide) (by decide +kernel) (by decide) ?_
      refine lv_aload_n (pc := 56) hx hb dX9_count_56 rfl (lv_at hl 1 rfl) ?_
      refine Rgf_0_1 (pc := 57) X w kw531 dX9_count_57 ?_
      exact Riret (pc := 60) X w h dX9_count_60
    · have h := h.2.1 hs
      refine lv_topi (fun z_ ez_ => ?_)
      rw [hs] at ez_
      subst ez_
      refine lv_tableIn (pc := 7) (tgt := 61) (off := 54) hx hb dX9_count_7 (by decide) (by decide) (by decide +kernel) (by decide) ?_
      refine lv_iconst (pc := 61) (v := (0 : Int32)) hx hb dX9_count_61 (by decide) ?_
      refine lv_istore_n (pc := 62) (lv' := [(3, .int (0 : Int32)), (2, .int (0 : Int32)), (0, .ref (ad 0)), (1, .int a1)]) hx hb dX9_count_62 rfl hl (by decide) rfl (fun ls hl => ?_)
      obtain ⟨n9, h⟩ := h
      exact bX9_count_63 X n9 u2 (0 : Int32) (0 : Int32) H locs ls h w (lv_sub hl [2, 1, 0] rfl)
    · have h := h.2.2.1 hs
      refine lv_topi (fun z_ ez_ => ?_)
      rw [hs] at ez_
      subst ez_
      refine lv_tableIn (pc := 7) (tgt := 96) (off := 89) hx hb dX9_count_7 (by decide) (by decide) (by decide +kernel) (by decide) ?_
      refine lv_aload_n (pc := 96) hx hb dX9_count_96 rfl (lv_at hl 1 rfl) ?_
      refine Rgf_0_6 (pc := 97) X w kw582 dX9_count_97 ?_
      exact Riret (pc := 100) X w h dX9_count_100
    · have h := h.2.2.2.1 hs
      refine lv_topi (fun z_ ez_ => ?_)
      rw [hs] at ez_
      subst ez_
      refine lv_tableIn (pc := 7) (tgt := 101) (off := 94) hx hb dX9_count_7 (by decide) (by decide) (by decide +kernel) (by decide) ?_
      refine lv_aload_n (pc := 101) hx hb dX9_count_101 rfl (lv_at hl 1 rfl) ?_
      refine Rgf_0_18 (pc := 102) X w kw575 dX9_count_102 ?_
      exact Riret (pc := 105) X w h dX9_count_105
    · have h := h.2.2.2.2.1 hs
      refine lv_topi (fun z_ ez_ => ?_)
      rw [hs] at ez_
      subst ez_
      refine lv_tableIn (pc := 7) (tgt := 106) (off := 99) hx hb dX9_count_7 (by decide) (by decide) (by decide +kernel) (by decide) ?_
      refine lv_iconst (pc := 106) (v := (0 : Int32)) hx hb dX9_count_106 (by decide) ?_
      refine lv_istore_n (pc := 107) (lv' := [(3, .int (0 : Int32)), (2, .int (0 : Int32)), (0, .ref (ad 0)), (1, .int a1)]) hx hb dX9_count_107 rfl hl (by decide) rfl (fun ls hl => ?_)
      obtain ⟨n9, h⟩ := h
      exact bX9_count_108 X n9 u2 (0 : Int32) (0 : Int32) H locs ls h w (lv_sub hl [2, 1, 0] rfl)
    · have h := h.2.2.2.2.2.1 hs
      refine lv_topi (fun z_ ez_ => ?_)
      rw [hs] at ez_
      subst ez_
      refine lv_tableIn (pc := 7) (tgt := 131) (off := 124) hx hb dX9_count_7 (by decide) (by decide) (by decide +kernel) (by decide) ?_
      refine lv_iconst (pc := 131) (v := (0 : Int32)) hx hb dX9_count_131 (by decide) ?_
      refine lv_istore_n (pc := 132) (lv' := [(3, .int (0 : Int32)), (2, .int (0 : Int32)), (0, .ref (ad 0)), (1, .int a1)]) hx hb dX9_count_132 rfl hl (by decide) rfl (fun ls hl => ?_)
      obtain ⟨n9, h⟩ := h
      exact bX9_count_133 X n9 u2 (0 : Int32) (0 : Int32) H locs ls h w (lv_sub hl [2, 1, 0] rfl)
    · have h := h.2.2.2.2.2.2.1 hs
      refine lv_topi (fun z_ ez_ => ?_)
      rw [hs] at ez_
      subst ez_
      refine lv_tableIn (pc := 7) (tgt := 164) (off := 157) hx hb dX9_count_7 (by decide) (by decide) (by decide +kernel) (by decide) ?_
      refine lv_iconst (pc := 164) (v := (0 : Int32)) hx hb dX9_count_164 (by decide) ?_
      refine lv_istore_n (pc := 165) (lv' := [(3, .int (0 : Int32)), (2, .int (0 : Int32)), (0, .ref (ad 0)), (1, .int a1)]) hx hb dX9_count_165 rfl hl (by decide) rfl (fun ls hl => ?_)
      obtain ⟨n9, h⟩ := h
      exact bX9_count_166 X n9 u2 (0 : Int32) (0 : Int32) H locs ls h w (lv_sub hl [2, 1, 0] rfl)
    · have h := h.2.2.2.2.2.2.2.1 hs
      refine lv_topi (fun z_ ez_ => ?_)
      rw [hs] at ez_
      subst ez_
      refine lv_tableIn (pc := 7) (tgt := 197) (off := 190) hx hb dX9_count_7 (by decide) (by decide) (by decide +kernel) (by decide) ?_
      refine lv_aload_n (pc := 197) hx hb dX9_count_197 rfl (lv_at hl 1 rfl) ?_
      refine Rgf_0_29 (pc := 198) X w kw685 dX9_count_198 ?_
      refine lv_iconst (pc := 201) (v := (0 : Int32)) hx hb dX9_count_201 (by decide) ?_
      refine Rld_24 (pc := 202) X w h.1 dX9_count_202 ?_
      have h := h.2
      refine lv_aload_n (pc := 203) hx hb dX9_count_203 rfl (lv_at hl 1 rfl) ?_
      refine Rgf_0_29 (pc := 204) X w kw685 dX9_count_204 ?_
      refine lv_iconst (pc := 207) (v := (1 : Int32)) hx hb dX9_count_207 (by decide) ?_
      refine Rld_24 (pc := 208) X w h.1 dX9_count_208 ?_
      have h := h.2
      refine lv_iadd (pc := 209) hx hb dX9_count_209 ?_
      refine lv_aload_n (pc := 210) hx hb dX9_count_210 rfl (lv_at hl 1 rfl) ?_
      refine Rgf_0_29 (pc := 211) X w kw685 dX9_count_211 ?_
      refine lv_iconst (pc := 214) (v := (2 : Int32)) hx hb dX9_count_214 (by decide) ?_
      refine Rld_24 (pc := 215) X w h.1 dX9_count_215 ?_
      have h := h.2
      refine lv_iadd (pc := 216) hx hb dX9_count_216 ?_
      refine lv_aload_n (pc := 217) hx hb dX9_count_217 rfl (lv_at hl 1 rfl) ?_
      refine Rgf_0_29 (pc := 218) X w kw685 dX9_count_218 ?_
      refine lv_iconst (pc := 221) (v := (3 : Int32)) hx hb dX9_count_221 (by decide) ?_
      refine Rld_24 (pc := 222) X w h.1 dX9_count_222 ?_
      have h := h.2
      refine lv_iadd (pc := 223) hx hb dX9_count_223 ?_
      exact Riret (pc := 224) X w h dX9_count_224
    · have h := h.2.2.2.2.2.2.2.2.1 hs
      refine lv_topi (fun z_ ez_ => ?_)
      rw [hs] at ez_
      subst ez_
      refine lv_tableIn (pc := 7) (tgt := 225) (off := 218) hx hb dX9_count_7 (by decide) (by decide) (by decide +kernel) (by decide) ?_
      refine lv_aload_n (pc := 225) hx hb dX9_count_225 rfl (lv_at hl 1 rfl) ?_
      refine Rgf_0_42 (pc := 226) X w kw733 dX9_count_226 ?_
      exact Riret (pc := 229) X w h dX9_count_229
