set_option maxHeartbeats 4000000 in
set_option maxRecDepth 100000 in
theorem okX0_placeOf (l : Launch) {D : va_G} {g : Nat → ClassId} {ad : Nat → Nat} (hJ : CJ ad) {u : Mm} {a1 : Int32} {a2 : Int32} {a3 : Int32} {a4 : Int32} {Q : Int32 → Prop} (h : wX0_placeOf a1 a2 a3 a4 Q) : Met l yX0_placeOf (Cond.code yX0_placeOf cX0_placeOf 5 (some .int) :: gt) ({ frames := 0, cells := 0, slots := 0, locals := 0 } : Room) (CPc D g ad u [.ref (ad 29), .int a1, .int a2, .int a3, .int a4]) (va_Qi (fun r u1 => u = u1 ∧ Q r) (CB D g ad) (CA ad)) 0 0 (CA ad) := by
  refine Met.ofW (cc := cX0_placeOf) (maxL := 5) (ret := (some .int)) (by decide) rfl ?_
  intro p e s m args below meth c s₁ B hml hv
  refine Centry (own := RX0) B hml hv hJ rfl (Nat.le_of_ble_eq_true rfl) (fun ls H locs X w hl => ?_)
  obtain ⟨⟨hx, hb, hml, hown, hts⟩, hr, hlocks, hK, hJ, hAA⟩ := id X
  have hl : lv_has ls 5 [(0, .ref (ad 29)), (1, .int a1), (2, .int a2), (3, .int a3), (4, .int a4)] := hl
  unfold wX0_placeOf at h
  refine lv_iload_n (pc := 0) hx hb dX0_placeOf_0 rfl (lv_at hl 1 rfl) ?_
  refine lv_iconst (pc := 1) (v := (4 : Int32)) hx hb dX0_placeOf_1 (by decide) ?_
  refine lv_imul (pc := 2) hx hb dX0_placeOf_2 ?_
  refine lv_iload_n (pc := 3) hx hb dX0_placeOf_3 rfl (lv_at hl 2 rfl) ?_
  refine lv_iadd (pc := 4) hx hb dX0_placeOf_4 ?_
  refine lv_bipush (pc := 5) (v := (12 : Int32)) hx hb dX0_placeOf_5 (by decide) ?_
  refine lv_imul (pc := 7) hx hb dX0_placeOf_7 ?_
  refine lv_iload_n (pc := 8) hx hb dX0_placeOf_8 rfl (lv_at hl 3 rfl) ?_
  refine lv_iadd (pc := 9) hx hb dX0_placeOf_9 ?_
  refine lv_iconst (pc := 10) (v := (2 : Int32)) hx hb dX0_placeOf_10 (by decide) ?_
  refine lv_imul (pc := 11) hx hb dX0_placeOf_11 ?_
  refine lv_iload (pc := 12) hx hb dX0_placeOf_12 (lv_at hl 4 rfl) ?_
  refine lv_iadd (pc := 14) hx hb dX0_placeOf_14 ?_
  exact Ciret (pc := 15) X w ⟨rfl, h⟩ dX0_placeOf_15
set_option maxHeartbeats 4000000 in
set_option maxRecDepth 100000 in
theorem okX0_hiddenOf (l : Launch) {D : va_G} {g : Nat → ClassId} {ad : Nat → Nat} (hJ : CJ ad) {u : Mm} {a1 : Int32} {a2 : Int32} {a3 : Int32} {Q : Int32 → Prop} (h : wX0_hiddenOf u a1 a2 a3 Q) : Met l yX0_hiddenOf (Cond.code yX0_hiddenOf cX0_hiddenOf 6 (some .int) :: gt) ({ frames := 1, cells := 0, slots := 0, locals := 24 } : Room) (CPc D g ad u [.ref (ad 29), .int a1, .int a2, .int a3]) (va_Qi (fun r u1 => u = u1 ∧ Q r) (CB D g ad) (CA ad)) 0 0 (CA ad) := by
  refine Met.ofW (cc := cX0_hiddenOf) (maxL := 6) (ret := (some .int)) (by decide) rfl ?_
  intro p e s m args below meth c s₁ B hml hv
  refine Centry (own := RX0) B hml hv hJ rfl (Nat.le_of_ble_eq_true rfl) (fun ls H locs X w hl => ?_)
  obtain ⟨⟨hx, hb, hml, hown, hts⟩, hr, hlocks, hK, hJ, hAA⟩ := id X
  have hl : lv_has ls 6 [(0, .ref (ad 29)), (1, .int a1), (2, .int a2), (3, .int a3)] := hl
  unfold wX0_hiddenOf at h
  refine lv_aload_n (pc := 0) hx hb dX0_hiddenOf_0 rfl (lv_at hl 0 rfl) ?_
  refine Cgf_29_0 (pc := 1) X w kw0 dX0_hiddenOf_1 ?_
  refine lv_aload_n (pc := 4) hx hb dX0_hiddenOf_4 rfl (lv_at hl 0 rfl) ?_
  refine lv_iload_n (pc := 5) hx hb dX0_hiddenOf_5 rfl (lv_at hl 1 rfl) ?_
  refine lv_iload_n (pc := 6) hx hb dX0_hiddenOf_6 rfl (lv_at hl 2 rfl) ?_
  refine lv_iload_n (pc := 7) hx hb dX0_hiddenOf_7 rfl (lv_at hl 3 rfl) ?_
  refine lv_iconst (pc := 8) (v := (0 : Int32)) hx hb dX0_hiddenOf_8 (by decide) ?_
  refine Ccalli (rest := [.ref (ad 30)]) (CrunV (pc := 9) X w (okX0_placeOf l hJ h) kw1 kmX0_placeOf ⟨rfl, rfl⟩ ⟨by decide, by decide⟩ (Crv_29 X w) rfl hl.1 rfl (Nat.le_of_ble_eq_true rfl) dX0_hiddenOf_9) w (fun r1 u9_ H locs h w => ?_)
  obtain ⟨rfl, h⟩ := h
  refine Cld_30 (pc := 12) X w h.1 dX0_hiddenOf_12 ?_
  have h := h.2
  refine lv_topi (fun x4_2 e_ => ?_)
  have h := h x4_2 e_
  refine lv_istore (pc := 13) (lv' := [(4, .int x4_2), (0, .ref (ad 29)), (1, .int a1), (2, .int a2), (3, .int a3)]) hx hb dX0_hiddenOf_13 hl (by decide) rfl (fun ls hl => ?_)
  refine lv_aload_n (pc := 15) hx hb dX0_hiddenOf_15 rfl (lv_at hl 1 rfl) ?_
  refine Cgf_29_0 (pc := 16) X w kw0 dX0_hiddenOf_16 ?_
  refine lv_aload_n (pc := 19) hx hb dX0_hiddenOf_19 rfl (lv_at hl 1 rfl) ?_
  refine lv_iconst (pc := 20) (v := (1 : Int32)) hx hb dX0_hiddenOf_20 (by decide) ?_
  refine lv_iload_n (pc := 21) hx hb dX0_hiddenOf_21 rfl (lv_at hl 2 rfl) ?_
  refine lv_isub (pc := 22) hx hb dX0_hiddenOf_22 ?_
  refine lv_iload_n (pc := 23) hx hb dX0_hiddenOf_23 rfl (lv_at hl 3 rfl) ?_
  refine lv_iload_n (pc := 24) hx hb dX0_hiddenOf_24 rfl (lv_at hl 4 rfl) ?_
  refine lv_iconst (pc := 25) (v := (1 : Int32)) hx hb dX0_hiddenOf_25 (by decide) ?_
  refine Ccalli (rest := [.ref (ad 30)]) (CrunV (pc := 26) X w (okX0_placeOf l hJ h) kw1 kmX0_placeOf ⟨rfl, rfl⟩ ⟨by decide, by decide⟩ (Crv_29 X w) rfl hl.1 rfl (Nat.le_of_ble_eq_true rfl) dX0_hiddenOf_26) w (fun r3 u9_ H locs h w => ?_)
  obtain ⟨rfl, h⟩ := h
  refine Cld_30 (pc := 29) X w h.1 dX0_hiddenOf_29 ?_
  have h := h.2
  refine lv_topi (fun x5_4 e_ => ?_)
  have h := h x5_4 e_
  refine lv_istore (pc := 30) (lv' := [(5, .int x5_4), (4, .int x4_2), (0, .ref (ad 29)), (1, .int a1), (2, .int a2), (3, .int a3)]) hx hb dX0_hiddenOf_30 hl (by decide) rfl (fun ls hl => ?_)
  refine lv_iload (pc := 32) hx hb dX0_hiddenOf_32 (lv_at hl 1 rfl) ?_
  refine lv_iconst (pc := 34) (v := (-1 : Int32)) hx hb dX0_hiddenOf_34 (by decide) ?_
  refine lv_icmp_eq (pc := 35) (tgt := 44) hx hb dX0_hiddenOf_35 (by decide) (fun c_ => ?_) (fun c_ => ?_)
  · have h := h.1 c_
    refine lv_ldc (pc := 44) (v := (-1000000 : Int32)) hx hb hown (hts _ (List.mem_cons_of_mem _ kw6)) dX0_hiddenOf_44 ?_
    refine lv_goto (pc := 46) (tgt := 54) hx hb dX0_hiddenOf_46 (by decide) ?_
    exact Ciret (pc := 54) X w ⟨rfl, h⟩ dX0_hiddenOf_54
  · have h := h.2 c_
    refine lv_iload (pc := 38) hx hb dX0_hiddenOf_38 (lv_at hl 0 rfl) ?_
    refine lv_iconst (pc := 40) (v := (-1 : Int32)) hx hb dX0_hiddenOf_40 (by decide) ?_
    refine lv_icmp_ne (pc := 41) (tgt := 49) hx hb dX0_hiddenOf_41 (by decide) (fun c_ => ?_) (fun c_ => ?_)
    · have h := h.2 c_
      refine lv_iload (pc := 49) hx hb dX0_hiddenOf_49 (lv_at hl 0 rfl) ?_
      refine lv_iload (pc := 51) hx hb dX0_hiddenOf_51 (lv_at hl 1 rfl) ?_
      refine lv_isub (pc := 53) hx hb dX0_hiddenOf_53 ?_
      exact Ciret (pc := 54) X w ⟨rfl, h⟩ dX0_hiddenOf_54
    · have h := h.1 c_
      refine lv_ldc (pc := 44) (v := (-1000000 : Int32)) hx hb hown (hts _ (List.mem_cons_of_mem _ kw6)) dX0_hiddenOf_44 ?_
      refine lv_goto (pc := 46) (tgt := 54) hx hb dX0_hiddenOf_46 (by decide) ?_
      exact Ciret (pc := 54) X w ⟨rfl, h⟩ dX0_hiddenOf_54
set_option maxHeartbeats 4000000 in
set_option maxRecDepth 100000 in
theorem okJ9_max_7cf53 (l : Launch) {D : va_G} {g : Nat → ClassId} {ad : Nat → Nat} (hJ : CJ ad) {u : Mm} {a0 : Int32} {a1 : Int32} {Q : Int32 → Prop} (h : wJ9_max_7cf53 a0 a1 Q) : Met l yJ9_max_7cf53 (Cond.code yJ9_max_7cf53 cJ9_max_7cf53 2 (some .int) :: gt) ({ frames := 0, cells := 0, slots := 0, locals := 0 } : Room) (CPc D g ad u [.int a0, .int a1]) (va_Qi (fun r u1 => u = u1 ∧ Q r) (CB D g ad) (CA ad)) 0 0 (CA ad) := by
  refine va_MetF (cc := cJ9_max_7cf53) (maxL := 2) (ret := (some .int)) (by decide +kernel) rfl ?_
  intro p e s m args below meth c s₁ B hml hv
  refine Centry (own := RJ9) B hml hv hJ rfl (Nat.le_of_ble_eq_true rfl) (fun ls H locs X w hl => ?_)
  obtain ⟨⟨hx, hb, hml, hown, hts⟩, hr, hlocks, hK, hJ, hAA⟩ := id X
  have hl : lv_has ls 2 [(0, .int a0), (1, .int a1)] := hl
  unfold wJ9_max_7cf53 at h
  refine lv_iload_n (pc := 0) hx hb dJ9_max_7cf53_0 rfl (lv_at hl 0 rfl) ?_
  refine lv_iload_n (pc := 1) hx hb dJ9_max_7cf53_1 rfl (lv_at hl 1 rfl) ?_
  refine lv_icmp_lt (pc := 2) (tgt := 9) hx hb dJ9_max_7cf53_2 (by decide) (fun c_ => ?_) (fun c_ => ?_)
  · have h := h.1 c_
    refine lv_iload_n (pc := 9) hx hb dJ9_max_7cf53_9 rfl (lv_at hl 1 rfl) ?_
    exact Ciret (pc := 10) X w ⟨rfl, h⟩ dJ9_max_7cf53_10
  · have h := h.2 c_
    refine lv_iload_n (pc := 5) hx hb dJ9_max_7cf53_5 rfl (lv_at hl 0 rfl) ?_
    refine lv_goto (pc := 6) (tgt := 10) hx hb dJ9_max_7cf53_6 (by decide) ?_
    exact Ciret (pc := 10) X w ⟨rfl, h⟩ dJ9_max_7cf53_10
set_option maxHeartbeats 4000000 in
set_option maxRecDepth 100000 in
theorem okX0_agreedOf (l : Launch) {D : va_G} {g : Nat → ClassId} {ad : Nat → Nat} (hJ : CJ ad) {u : Mm} {a1 : Int32} {a2 : Int32} {a3 : Int32} {Q : Int32 → Prop} (h : wX0_agreedOf u a1 a2 a3 Q) : Met l yX0_agreedOf (Cond.code yX0_agreedOf cX0_agreedOf 8 (some .int) :: gt) ({ frames := 1, cells := 0, slots := 0, locals := 24 } : Room) (CPc D g ad u [.ref (ad 29), .int a1, .int a2, .int a3]) (va_Qi (fun r u1 => u = u1 ∧ Q r) (CB D g ad) (CA ad)) 0 0 (CA ad) := by
  refine Met.ofW (cc := cX0_agreedOf) (maxL := 8) (ret := (some .int)) (by decide) rfl ?_
  intro p e s m args below meth c s₁ B hml hv
  refine Centry (own := RX0) B hml hv hJ rfl (Nat.le_of_ble_eq_true rfl) (fun ls H locs X w hl => ?_)
  obtain ⟨⟨hx, hb, hml, hown, hts⟩, hr, hlocks, hK, hJ, hAA⟩ := id X
  have hl : lv_has ls 8 [(0, .ref (ad 29)), (1, .int a1), (2, .int a2), (3, .int a3)] := hl
  unfold wX0_agreedOf at h
  refine lv_aload_n (pc := 0) hx hb dX0_agreedOf_0 rfl (lv_at hl 0 rfl) ?_
  refine Cgf_29_0 (pc := 1) X w kw0 dX0_agreedOf_1 ?_
  refine lv_aload_n (pc := 4) hx hb dX0_agreedOf_4 rfl (lv_at hl 0 rfl) ?_
  refine lv_iload_n (pc := 5) hx hb dX0_agreedOf_5 rfl (lv_at hl 1 rfl) ?_
  refine lv_iload_n (pc := 6) hx hb dX0_agreedOf_6 rfl (lv_at hl 2 rfl) ?_
  refine lv_iload_n (pc := 7) hx hb dX0_agreedOf_7 rfl (lv_at hl 3 rfl) ?_
  refine lv_iconst (pc := 8) (v := (0 : Int32)) hx hb dX0_agreedOf_8 (by decide) ?_
  refine Ccalli (rest := [.ref (ad 30)]) (CrunV (pc := 9) X w (okX0_placeOf l hJ h) kw1 kmX0_placeOf ⟨rfl, rfl⟩ ⟨by decide, by decide⟩ (Crv_29 X w) rfl hl.1 rfl (Nat.le_of_ble_eq_true rfl) dX0_agreedOf_9) w (fun r1 u9_ H locs h w => ?_)
  obtain ⟨rfl, h⟩ := h
  refine Cld_30 (pc := 12) X w h.1 dX0_agreedOf_12 ?_
  have h := h.2
  refine lv_topi (fun x4_2 e_ => ?_)
  have h := h x4_2 e_
  refine lv_istore (pc := 13) (lv' := [(4, .int x4_2), (0, .ref (ad 29)), (1, .int a1), (2, .int a2), (3, .int a3)]) hx hb dX0_agreedOf_13 hl (by decide) rfl (fun ls hl => ?_)
  refine lv_aload_n (pc := 15) hx hb dX0_agreedOf_15 rfl (lv_at hl 1 rfl) ?_
  refine Cgf_29_0 (pc := 16) X w kw0 dX0_agreedOf_16 ?_
  refine lv_aload_n (pc := 19) hx hb dX0_agreedOf_19 rfl (lv_at hl 1 rfl) ?_
  refine lv_iconst (pc := 20) (v := (1 : Int32)) hx hb dX0_agreedOf_20 (by decide) ?_
  refine lv_iload_n (pc := 21) hx hb dX0_agreedOf_21 rfl (lv_at hl 2 rfl) ?_
  refine lv_isub (pc := 22) hx hb dX0_agreedOf_22 ?_
  refine lv_iload_n (pc := 23) hx hb dX0_agreedOf_23 rfl (lv_at hl 3 rfl) ?_
  refine lv_iload_n (pc := 24) hx hb dX0_agreedOf_24 rfl (lv_at hl 4 rfl) ?_
  refine lv_iconst (pc := 25) (v := (1 : Int32)) hx hb dX0_agreedOf_25 (by decide) ?_
  refine Ccalli (rest := [.ref (ad 30)]) (CrunV (pc := 26) X w (okX0_placeOf l hJ h) kw1 kmX0_placeOf ⟨rfl, rfl⟩ ⟨by decide, by decide⟩ (Crv_29 X w) rfl hl.1 rfl (Nat.le_of_ble_eq_true rfl) dX0_agreedOf_26) w (fun r3 u9_ H locs h w => ?_)
  obtain ⟨rfl, h⟩ := h
  refine Cld_30 (pc := 29) X w h.1 dX0_agreedOf_29 ?_
  have h := h.2
  refine lv_topi (fun x5_4 e_ => ?_)
  have h := h x5_4 e_
  refine lv_istore (pc := 30) (lv' := [(5, .int x5_4), (4, .int x4_2), (0, .ref (ad 29)), (1, .int a1), (2, .int a2), (3, .int a3)]) hx hb dX0_agreedOf_30 hl (by decide) rfl (fun ls hl => ?_)
  refine lv_iload (pc := 32) hx hb dX0_agreedOf_32 (lv_at hl 1 rfl) ?_
  refine lv_iconst (pc := 34) (v := (-1 : Int32)) hx hb dX0_agreedOf_34 (by decide) ?_
  refine lv_icmp_eq (pc := 35) (tgt := 44) hx hb dX0_agreedOf_35 (by decide) (fun c_ => ?_) (fun c_ => ?_)
  · have h := h.1 c_
    refine lv_iconst (pc := 44) (v := (0 : Int32)) hx hb dX0_agreedOf_44 (by decide) ?_
    refine lv_iload (pc := 45) hx hb dX0_agreedOf_45 (lv_at hl 1 rfl) ?_
    refine lv_iload (pc := 47) hx hb dX0_agreedOf_47 (lv_at hl 0 rfl) ?_
    refine Ccalli (rest := [.int (0 : Int32)]) (CrunS (pc := 49) X w (okJ9_max_7cf53 l hJ h) kw7 kmJ9_max_7cf53 ⟨rfl, rfl⟩ ⟨by decide, by decide⟩ rfl hl.1 rfl (Nat.le_of_ble_eq_true rfl) dX0_agreedOf_49) w (fun r5 u9_ H locs h w => ?_)
    obtain ⟨rfl, h⟩ := h
    refine Ccalli (rest := []) (CrunS (pc := 52) X w (okJ9_max_7cf53 l hJ h) kw7 kmJ9_max_7cf53 ⟨rfl, rfl⟩ ⟨by decide, by decide⟩ rfl hl.1 rfl (Nat.le_of_ble_eq_true rfl) dX0_agreedOf_52) w (fun r6 u9_ H locs h w => ?_)
    obtain ⟨rfl, h⟩ := h
    exact Ciret (pc := 55) X w ⟨rfl, h⟩ dX0_agreedOf_55
  · have h := h.2 c_
    refine lv_iload (pc := 38) hx hb dX0_agreedOf_38 (lv_at hl 0 rfl) ?_
    refine lv_iconst (pc := 40) (v := (-1 : Int32)) hx hb dX0_agreedOf_40 (by decide) ?_
    refine lv_icmp_ne (pc := 41) (tgt := 56) hx hb dX0_agreedOf_41 (by decide) (fun c_ => ?_) (fun c_ => ?_)
    · have h := h.2 c_
      refine lv_aload_n (pc := 56) hx hb dX0_agreedOf_56 rfl (lv_at hl 2 rfl) ?_
      refine Cgf_29_1 (pc := 57) X w kw11 dX0_agreedOf_57 ?_
      refine lv_iload_n (pc := 60) hx hb dX0_agreedOf_60 rfl (lv_at hl 3 rfl) ?_
      refine Cld_31 (pc := 61) X w h.1 dX0_agreedOf_61 ?_
      have h := h.2
      refine lv_aload_n (pc := 62) hx hb dX0_agreedOf_62 rfl (lv_at hl 2 rfl) ?_
      refine Cgf_29_1 (pc := 63) X w kw11 dX0_agreedOf_63 ?_
      refine lv_iconst (pc := 66) (v := (1 : Int32)) hx hb dX0_agreedOf_66 (by decide) ?_
      refine lv_iload_n (pc := 67) hx hb dX0_agreedOf_67 rfl (lv_at hl 3 rfl) ?_
      refine lv_isub (pc := 68) hx hb dX0_agreedOf_68 ?_
      refine Cld_31 (pc := 69) X w h.1 dX0_agreedOf_69 ?_
      have h := h.2
      refine lv_iadd (pc := 70) hx hb dX0_agreedOf_70 ?_
      refine lv_topi (fun x6_7 e_ => ?_)
      have h := h x6_7 e_
      refine lv_istore (pc := 71) (lv' := [(6, .int x6_7), (5, .int x5_4), (4, .int x4_2), (0, .ref (ad 29)), (1, .int a1), (2, .int a2), (3, .int a3)]) hx hb dX0_agreedOf_71 hl (by decide) rfl (fun ls hl => ?_)
      refine lv_iload (pc := 73) hx hb dX0_agreedOf_73 (lv_at hl 2 rfl) ?_
      refine lv_aload_n (pc := 75) hx hb dX0_agreedOf_75 rfl (lv_at hl 3 rfl) ?_
      refine Cgf_29_1 (pc := 76) X w kw11 dX0_agreedOf_76 ?_
      refine lv_iload_n (pc := 79) hx hb dX0_agreedOf_79 rfl (lv_at hl 4 rfl) ?_
      refine Cld_31 (pc := 80) X w h.1 dX0_agreedOf_80 ?_
      have h := h.2
      refine lv_imul (pc := 81) hx hb dX0_agreedOf_81 ?_
      refine lv_iload (pc := 82) hx hb dX0_agreedOf_82 (lv_at hl 1 rfl) ?_
      refine lv_aload_n (pc := 84) hx hb dX0_agreedOf_84 rfl (lv_at hl 3 rfl) ?_
      refine Cgf_29_1 (pc := 85) X w kw11 dX0_agreedOf_85 ?_
      refine lv_iconst (pc := 88) (v := (1 : Int32)) hx hb dX0_agreedOf_88 (by decide) ?_
      refine lv_iload_n (pc := 89) hx hb dX0_agreedOf_89 rfl (lv_at hl 4 rfl) ?_
      refine lv_isub (pc := 90) hx hb dX0_agreedOf_90 ?_
      refine Cld_31 (pc := 91) X w h.1 dX0_agreedOf_91 ?_
      have h := h.2
      refine lv_imul (pc := 92) hx hb dX0_agreedOf_92 ?_
      refine lv_iadd (pc := 93) hx hb dX0_agreedOf_93 ?_
      refine lv_topi (fun x7_8 e_ => ?_)
      have h := h x7_8 e_
      refine lv_istore (pc := 94) (lv' := [(7, .int x7_8), (6, .int x6_7), (5, .int x5_4), (4, .int x4_2), (0, .ref (ad 29)), (1, .int a1), (2, .int a2), (3, .int a3)]) hx hb dX0_agreedOf_94 hl (by decide) rfl (fun ls hl => ?_)
      refine lv_iload (pc := 96) hx hb dX0_agreedOf_96 (lv_at hl 1 rfl) ?_
      refine lv_if_le (pc := 98) (tgt := 116) hx hb dX0_agreedOf_98 (by decide) (fun c_ => ?_) (fun c_ => ?_)
      · have h := h.1 c_
        refine lv_iconst (pc := 116) (v := (0 : Int32)) hx hb dX0_agreedOf_116 (by decide) ?_
        exact Ciret (pc := 117) X w ⟨rfl, h⟩ dX0_agreedOf_117
      · have h := h.2 c_
        refine lv_iconst (pc := 101) (v := (2 : Int32)) hx hb dX0_agreedOf_101 (by decide) ?_
        refine lv_iload (pc := 102) hx hb dX0_agreedOf_102 (lv_at hl 0 rfl) ?_
        refine lv_imul (pc := 104) hx hb dX0_agreedOf_104 ?_
        refine lv_iload (pc := 105) hx hb dX0_agreedOf_105 (lv_at hl 1 rfl) ?_
        refine lv_iadd (pc := 107) hx hb dX0_agreedOf_107 ?_
        refine lv_iconst (pc := 108) (v := (2 : Int32)) hx hb dX0_agreedOf_108 (by decide) ?_
        refine lv_iload (pc := 109) hx hb dX0_agreedOf_109 (lv_at hl 1 rfl) ?_
        refine lv_imul (pc := 111) hx hb dX0_agreedOf_111 ?_
        refine lv_idiv (pc := 112) hx hb dX0_agreedOf_112 h.1 ?_
        have h := h.2
        refine lv_goto (pc := 113) (tgt := 117) hx hb dX0_agreedOf_113 (by decide) ?_
        exact Ciret (pc := 117) X w ⟨rfl, h⟩ dX0_agreedOf_117
    · have h := h.1 c_
      refine lv_iconst (pc := 44) (v := (0 : Int32)) hx hb dX0_agreedOf_44 (by decide) ?_
      refine lv_iload (pc := 45) hx hb dX0_agreedOf_45 (lv_at hl 1 rfl) ?_
      refine lv_iload (pc := 47) hx hb dX0_agreedOf_47 (lv_at hl 0 rfl) ?_
      refine Ccalli (rest := [.int (0 : Int32)]) (CrunS (pc := 49) X w (okJ9_max_7cf53 l hJ h) kw7 kmJ9_max_7cf53 ⟨rfl, rfl⟩ ⟨by decide, by decide⟩ rfl hl.1 rfl (Nat.le_of_ble_eq_true rfl) dX0_agreedOf_49) w (fun r9 u9_ H locs h w => ?_)
      obtain ⟨rfl, h⟩ := h
      refine Ccalli (rest := []) (CrunS (pc := 52) X w (okJ9_max_7cf53 l hJ h) kw7 kmJ9_max_7cf53 ⟨rfl, rfl⟩ ⟨by decide, by decide⟩ rfl hl.1 rfl (Nat.le_of_ble_eq_true rfl) dX0_agreedOf_52) w (fun r10 u9_ H locs h w => ?_)
      obtain ⟨rfl, h⟩ := h
      exact Ciret (pc := 55) X w ⟨rfl, h⟩ dX0_agreedOf_55
set_option maxHeartbeats 4000000 in
set_option maxRecDepth 100000 in
theorem okX1_append_i0 (l : Launch) {D : va_G} {g : Nat → ClassId} {ad : Nat → Nat} (hJ : CJ ad) {u : Mm} {a1 : Int32} {Q : Mm → Prop} (h : wX1_append 0 u a1 Q) : Met l yX1_append (Cond.code yX1_append cX1_append 2 none :: gt) ({ frames := 0, cells := 0, slots := 0, locals := 0 } : Room) (CPc D g ad u [.ref (ad 37), .int a1]) (va_Qv Q (CB D g ad) (CA ad)) 0 0 (CA ad) := by
  refine Met.ofW (cc := cX1_append) (maxL := 2) (ret := none) (by decide) rfl ?_
  intro p e s m args below meth c s₁ B hml hv
  refine Centry (own := RX1) B hml hv hJ rfl (Nat.le_of_ble_eq_true rfl) (fun ls H locs X w hl => ?_)
  obtain ⟨⟨hx, hb, hml, hown, hts⟩, hr, hlocks, hK, hJ, hAA⟩ := id X
  have hl : lv_has ls 2 [(0, .ref (ad 37)), (1, .int a1)] := hl
  unfold wX1_append at h
  refine lv_aload_n (pc := 0) hx hb dX1_append_0 rfl (lv_at hl 0 rfl) ?_
  refine Cgf_37_0 (pc := 1) X w kw12 dX1_append_1 ?_
  refine lv_aload_n (pc := 4) hx hb dX1_append_4 rfl (lv_at hl 0 rfl) ?_
  refine Cgf_37_1 (pc := 5) X w kw13 dX1_append_5 ?_
  refine lv_iload_n (pc := 8) hx hb dX1_append_8 rfl (lv_at hl 1 rfl) ?_
  refine Cst_38 (pc := 9) X w h.1 dX1_append_9 (fun H locs w => ?_)
  have h := h.2
  obtain ⟨u1, e_⟩ : ∃ y : Mm, y = s32 u 38 (u.1 693 0).toNatClampNeg a1 := ⟨_, rfl⟩
  rw [← e_] at w
  have h := h u1 e_
  refine lv_aload_n (pc := 10) hx hb dX1_append_10 rfl (lv_at hl 0 rfl) ?_
  refine lv_dup (pc := 11) hx hb dX1_append_11 rfl ?_
  refine Cgf_37_1 (pc := 12) X w kw13 dX1_append_12 ?_
  refine lv_iconst (pc := 15) (v := (1 : Int32)) hx hb dX1_append_15 (by decide) ?_
  refine lv_iadd (pc := 16) hx hb dX1_append_16 ?_
  refine Cpf_37_1 (pc := 17) X w kw13 dX1_append_17 (fun H locs w => ?_)
  obtain ⟨u2, e_⟩ : ∃ y : Mm, y = s32 u1 693 0 ((u1.1 693 0) + (1 : Int32)) := ⟨_, rfl⟩
  rw [← e_] at w
  have h := h u2 e_
  exact Cvret (pc := 20) X w h dX1_append_20
set_option maxHeartbeats 4000000 in
set_option maxRecDepth 100000 in
theorem okX1_append_i1 (l : Launch) {D : va_G} {g : Nat → ClassId} {ad : Nat → Nat} (hJ : CJ ad) {u : Mm} {a1 : Int32} {Q : Mm → Prop} (h : wX1_append 1 u a1 Q) : Met l yX1_append (Cond.code yX1_append cX1_append 2 none :: gt) ({ frames := 0, cells := 0, slots := 0, locals := 0 } : Room) (CPc D g ad u [.ref (ad 41), .int a1]) (va_Qv Q (CB D g ad) (CA ad)) 0 0 (CA ad) := by
  refine Met.ofW (cc := cX1_append) (maxL := 2) (ret := none) (by decide) rfl ?_
  intro p e s m args below meth c s₁ B hml hv
  refine Centry (own := RX1) B hml hv hJ rfl (Nat.le_of_ble_eq_true rfl) (fun ls H locs X w hl => ?_)
  obtain ⟨⟨hx, hb, hml, hown, hts⟩, hr, hlocks, hK, hJ, hAA⟩ := id X
  have hl : lv_has ls 2 [(0, .ref (ad 41)), (1, .int a1)] := hl
  unfold wX1_append at h
  refine lv_aload_n (pc := 0) hx hb dX1_append_0 rfl (lv_at hl 0 rfl) ?_
  refine Cgf_41_0 (pc := 1) X w kw12 dX1_append_1 ?_
  refine lv_aload_n (pc := 4) hx hb dX1_append_4 rfl (lv_at hl 0 rfl) ?_
  refine Cgf_41_1 (pc := 5) X w kw13 dX1_append_5 ?_
  refine lv_iload_n (pc := 8) hx hb dX1_append_8 rfl (lv_at hl 1 rfl) ?_
  refine Cst_42 (pc := 9) X w h.1 dX1_append_9 (fun H locs w => ?_)
  have h := h.2
  obtain ⟨u1, e_⟩ : ∃ y : Mm, y = s32 u 42 (u.1 757 0).toNatClampNeg a1 := ⟨_, rfl⟩
  rw [← e_] at w
  have h := h u1 e_
  refine lv_aload_n (pc := 10) hx hb dX1_append_10 rfl (lv_at hl 0 rfl) ?_
  refine lv_dup (pc := 11) hx hb dX1_append_11 rfl ?_
  refine Cgf_41_1 (pc := 12) X w kw13 dX1_append_12 ?_
  refine lv_iconst (pc := 15) (v := (1 : Int32)) hx hb dX1_append_15 (by decide) ?_
  refine lv_iadd (pc := 16) hx hb dX1_append_16 ?_
  refine Cpf_41_1 (pc := 17) X w kw13 dX1_append_17 (fun H locs w => ?_)
  obtain ⟨u2, e_⟩ : ∃ y : Mm, y = s32 u1 757 0 ((u1.1 757 0) + (1 : Int32)) := ⟨_, rfl⟩
  rw [← e_] at w
  have h := h u2 e_
  exact Cvret (pc := 20) X w h dX1_append_20
set_option maxHeartbeats 4000000 in
set_option maxRecDepth 100000 in
theorem okX1_append_i2 (l : Launch) {D : va_G} {g : Nat → ClassId} {ad : Nat → Nat} (hJ : CJ ad) {u : Mm} {a1 : Int32} {Q : Mm → Prop} (h : wX1_append 2 u a1 Q) : Met l yX1_append (Cond.code yX1_append cX1_append 2 none :: gt) ({ frames := 0, cells := 0, slots := 0, locals := 0 } : Room) (CPc D g ad u [.ref (ad 45), .int a1]) (va_Qv Q (CB D g ad) (CA ad)) 0 0 (CA ad) := by
  refine Met.ofW (cc := cX1_append) (maxL := 2) (ret := none) (by decide) rfl ?_
  intro p e s m args below meth c s₁ B hml hv
  refine Centry (own := RX1) B hml hv hJ rfl (Nat.le_of_ble_eq_true rfl) (fun ls H locs X w hl => ?_)
  obtain ⟨⟨hx, hb, hml, hown, hts⟩, hr, hlocks, hK, hJ, hAA⟩ := id X
  have hl : lv_has ls 2 [(0, .ref (ad 45)), (1, .int a1)] := hl
  unfold wX1_append at h
  refine lv_aload_n (pc := 0) hx hb dX1_append_0 rfl (lv_at hl 0 rfl) ?_
  refine Cgf_45_0 (pc := 1) X w kw12 dX1_append_1 ?_
  refine lv_aload_n (pc := 4) hx hb dX1_append_4 rfl (lv_at hl 0 rfl) ?_
  refine Cgf_45_1 (pc := 5) X w kw13 dX1_append_5 ?_
  refine lv_iload_n (pc := 8) hx hb dX1_append_8 rfl (lv_at hl 1 rfl) ?_
  refine Cst_46 (pc := 9) X w h.1 dX1_append_9 (fun H locs w => ?_)
  have h := h.2
  obtain ⟨u1, e_⟩ : ∃ y : Mm, y = s32 u 46 (u.1 821 0).toNatClampNeg a1 := ⟨_, rfl⟩
  rw [← e_] at w
  have h := h u1 e_
  refine lv_aload_n (pc := 10) hx hb dX1_append_10 rfl (lv_at hl 0 rfl) ?_
  refine lv_dup (pc := 11) hx hb dX1_append_11 rfl ?_
  refine Cgf_45_1 (pc := 12) X w kw13 dX1_append_12 ?_
  refine lv_iconst (pc := 15) (v := (1 : Int32)) hx hb dX1_append_15 (by decide) ?_
  refine lv_iadd (pc := 16) hx hb dX1_append_16 ?_
  refine Cpf_45_1 (pc := 17) X w kw13 dX1_append_17 (fun H locs w => ?_)
  obtain ⟨u2, e_⟩ : ∃ y : Mm, y = s32 u1 821 0 ((u1.1 821 0) + (1 : Int32)) := ⟨_, rfl⟩
  rw [← e_] at w
  have h := h u2 e_
  exact Cvret (pc := 20) X w h dX1_append_20
set_option maxHeartbeats 4000000 in
set_option maxRecDepth 100000 in
theorem okX1_append_i3 (l : Launch) {D : va_G} {g : Nat → ClassId} {ad : Nat → Nat} (hJ : CJ ad) {u : Mm} {a1 : Int32} {Q : Mm → Prop} (h : wX1_append 3 u a1 Q) : Met l yX1_append (Cond.code yX1_append cX1_append 2 none :: gt) ({ frames := 0, cells := 0, slots := 0, locals := 0 } : Room) (CPc D g ad u [.ref (ad 49), .int a1]) (va_Qv Q (CB D g ad) (CA ad)) 0 0 (CA ad) := by
  refine Met.ofW (cc := cX1_append) (maxL := 2) (ret := none) (by decide) rfl ?_
  intro p e s m args below meth c s₁ B hml hv
  refine Centry (own := RX1) B hml hv hJ rfl (Nat.le_of_ble_eq_true rfl) (fun ls H locs X w hl => ?_)
  obtain ⟨⟨hx, hb, hml, hown, hts⟩, hr, hlocks, hK, hJ, hAA⟩ := id X
  have hl : lv_has ls 2 [(0, .ref (ad 49)), (1, .int a1)] := hl
  unfold wX1_append at h
  refine lv_aload_n (pc := 0) hx hb dX1_append_0 rfl (lv_at hl 0 rfl) ?_
  refine Cgf_49_0 (pc := 1) X w kw12 dX1_append_1 ?_
  refine lv_aload_n (pc := 4) hx hb dX1_append_4 rfl (lv_at hl 0 rfl) ?_
  refine Cgf_49_1 (pc := 5) X w kw13 dX1_append_5 ?_
  refine lv_iload_n (pc := 8) hx hb dX1_append_8 rfl (lv_at hl 1 rfl) ?_
  refine Cst_50 (pc := 9) X w h.1 dX1_append_9 (fun H locs w => ?_)
  have h := h.2
  obtain ⟨u1, e_⟩ : ∃ y : Mm, y = s32 u 50 (u.1 885 0).toNatClampNeg a1 := ⟨_, rfl⟩
  rw [← e_] at w
  have h := h u1 e_
  refine lv_aload_n (pc := 10) hx hb dX1_append_10 rfl (lv_at hl 0 rfl) ?_
  refine lv_dup (pc := 11) hx hb dX1_append_11 rfl ?_
  refine Cgf_49_1 (pc := 12) X w kw13 dX1_append_12 ?_
  refine lv_iconst (pc := 15) (v := (1 : Int32)) hx hb dX1_append_15 (by decide) ?_
  refine lv_iadd (pc := 16) hx hb dX1_append_16 ?_
  refine Cpf_49_1 (pc := 17) X w kw13 dX1_append_17 (fun H locs w => ?_)
  obtain ⟨u2, e_⟩ : ∃ y : Mm, y = s32 u1 885 0 ((u1.1 885 0) + (1 : Int32)) := ⟨_, rfl⟩
  rw [← e_] at w
  have h := h u2 e_
  exact Cvret (pc := 20) X w h dX1_append_20
set_option maxHeartbeats 4000000 in
set_option maxRecDepth 100000 in
theorem okX8_within (l : Launch) {D : va_G} {g : Nat → ClassId} {ad : Nat → Nat} (hJ : CJ ad) {u : Mm} {a0 : Int32} {a1 : Int32} {a2 : Int32} {Q : Int32 → Prop} (h : wX8_within a0 a1 a2 Q) : Met l yX8_within (Cond.code yX8_within cX8_within 3 (some .boolean) :: gt) ({ frames := 0, cells := 0, slots := 0, locals := 0 } : Room) (CPc D g ad u [.int a0, .int a1, .int a2]) (va_Qi (fun r u1 => bz r ∧ (u = u1 ∧ Q r)) (CB D g ad) (CA ad)) 0 0 (CA ad) := by
  refine Met.ofW (cc := cX8_within) (maxL := 3) (ret := (some .boolean)) (by decide) rfl ?_
  intro p e s m args below meth c s₁ B hml hv
  refine Centry (own := RX8) B hml hv hJ rfl (Nat.le_of_ble_eq_true rfl) (fun ls H locs X w hl => ?_)
  obtain ⟨⟨hx, hb, hml, hown, hts⟩, hr, hlocks, hK, hJ, hAA⟩ := id X
  have hl : lv_has ls 3 [(0, .int a0), (1, .int a1), (2, .int a2)] := hl
  unfold wX8_within at h
  refine lv_iload_n (pc := 0) hx hb dX8_within_0 rfl (lv_at hl 1 rfl) ?_
  refine lv_iload_n (pc := 1) hx hb dX8_within_1 rfl (lv_at hl 0 rfl) ?_
  refine lv_icmp_gt (pc := 2) (tgt := 14) hx hb dX8_within_2 (by decide) (fun c_ => ?_) (fun c_ => ?_)
  · have h := h.1 c_
    refine lv_iconst (pc := 14) (v := (0 : Int32)) hx hb dX8_within_14 (by decide) ?_
    exact Czret (pc := 15) X w rfl ⟨rfl, h⟩ dX8_within_15
  · have h := h.2 c_
    refine lv_iload_n (pc := 5) hx hb dX8_within_5 rfl (lv_at hl 0 rfl) ?_
    refine lv_iload_n (pc := 6) hx hb dX8_within_6 rfl (lv_at hl 2 rfl) ?_
    refine lv_icmp_gt (pc := 7) (tgt := 14) hx hb dX8_within_7 (by decide) (fun c_ => ?_) (fun c_ => ?_)
    · have h := h.1 c_
      refine lv_iconst (pc := 14) (v := (0 : Int32)) hx hb dX8_within_14 (by decide) ?_
      exact Czret (pc := 15) X w rfl ⟨rfl, h⟩ dX8_within_15
    · have h := h.2 c_
      refine lv_iconst (pc := 10) (v := (1 : Int32)) hx hb dX8_within_10 (by decide) ?_
      refine lv_goto (pc := 11) (tgt := 15) hx hb dX8_within_11 (by decide) ?_
      exact Czret (pc := 15) X w rfl ⟨rfl, h⟩ dX8_within_15
set_option maxHeartbeats 4000000 in
set_option maxRecDepth 100000 in
theorem okX1_isFigureNext_i0 (l : Launch) {D : va_G} {g : Nat → ClassId} {ad : Nat → Nat} (hJ : CJ ad) {u : Mm} {Q : Int32 → Prop} (h : wX1_isFigureNext 0 u Q) : Met l yX1_isFigureNext (Cond.code yX1_isFigureNext cX1_isFigureNext 1 (some .boolean) :: gt) ({ frames := 1, cells := 0, slots := 0, locals := 22 } : Room) (CPc D g ad u [.ref (ad 37)]) (va_Qi (fun r u1 => bz r ∧ (u = u1 ∧ Q r)) (CB D g ad) (CA ad)) 0 0 (CA ad) := by
  refine Met.ofW (cc := cX1_isFigureNext) (maxL := 1) (ret := (some .boolean)) (by decide) rfl ?_
  intro p e s m args below meth c s₁ B hml hv
  refine Centry (own := RX1) B hml hv hJ rfl (Nat.le_of_ble_eq_true rfl) (fun ls H locs X w hl => ?_)
  obtain ⟨⟨hx, hb, hml, hown, hts⟩, hr, hlocks, hK, hJ, hAA⟩ := id X
  have hl : lv_has ls 1 [(0, .ref (ad 37))] := hl
  unfold wX1_isFigureNext at h
  refine lv_aload_n (pc := 0) hx hb dX1_isFigureNext_0 rfl (lv_at hl 0 rfl) ?_
  refine Cgf_37_5 (pc := 1) X w kw14 dX1_isFigureNext_1 ?_
  refine lv_aload_n (pc := 4) hx hb dX1_isFigureNext_4 rfl (lv_at hl 0 rfl) ?_
  refine Cgf_37_1 (pc := 5) X w kw13 dX1_isFigureNext_5 ?_
  refine lv_icmp_ge (pc := 8) (tgt := 34) hx hb dX1_isFigureNext_8 (by decide) (fun c_ => ?_) (fun c_ => ?_)
  · have h := h.1 c_
    refine lv_iconst (pc := 34) (v := (0 : Int32)) hx hb dX1_isFigureNext_34 (by decide) ?_
    exact Czret (pc := 35) X w rfl ⟨rfl, h⟩ dX1_isFigureNext_35
  · have h := h.2 c_
    refine lv_aload_n (pc := 11) hx hb dX1_isFigureNext_11 rfl (lv_at hl 0 rfl) ?_
    refine Cgf_37_0 (pc := 12) X w kw12 dX1_isFigureNext_12 ?_
    refine lv_aload_n (pc := 15) hx hb dX1_isFigureNext_15 rfl (lv_at hl 0 rfl) ?_
    refine Cgf_37_5 (pc := 16) X w kw14 dX1_isFigureNext_16 ?_
    refine Cld_38 (pc := 19) X w h.1 dX1_isFigureNext_19 ?_
    have h := h.2
    refine lv_bipush (pc := 20) (v := (48 : Int32)) hx hb dX1_isFigureNext_20 (by decide) ?_
    refine lv_bipush (pc := 22) (v := (57 : Int32)) hx hb dX1_isFigureNext_22 (by decide) ?_
    refine Ccalli (rest := []) (CrunSN (pc := 24) X w (okX8_within l hJ h) (List.mem_of_getElem? (i := 10) rfl) kmX8_within ⟨rfl, rfl⟩ ⟨by decide, by decide⟩ rfl hl.1 rfl (Nat.le_of_ble_eq_true rfl) dX1_isFigureNext_24) w (fun r1 u9_ H locs h w => ?_)
    obtain ⟨hz_r1, h⟩ := h
    obtain ⟨rfl, h⟩ := h
    refine lv_if_eq (pc := 27) (tgt := 34) hx hb dX1_isFigureNext_27 (by decide) (fun c_ => ?_) (fun c_ => ?_)
    · have h := h.1 c_
      refine lv_iconst (pc := 34) (v := (0 : Int32)) hx hb dX1_isFigureNext_34 (by decide) ?_
      exact Czret (pc := 35) X w rfl ⟨rfl, h⟩ dX1_isFigureNext_35
    · have h := h.2 c_
      refine lv_iconst (pc := 30) (v := (1 : Int32)) hx hb dX1_isFigureNext_30 (by decide) ?_
      refine lv_goto (pc := 31) (tgt := 35) hx hb dX1_isFigureNext_31 (by decide) ?_
      exact Czret (pc := 35) X w rfl ⟨rfl, h⟩ dX1_isFigureNext_35
set_option maxHeartbeats 4000000 in
set_option maxRecDepth 100000 in
theorem okX1_isFigureNext_i1 (l : Launch) {D : va_G} {g : Nat → ClassId} {ad : Nat → Nat} (hJ : CJ ad) {u : Mm} {Q : Int32 → Prop} (h : wX1_isFigureNext 1 u Q) : Met l yX1_isFigureNext (Cond.code yX1_isFigureNext cX1_isFigureNext 1 (some .boolean) :: gt) ({ frames := 1, cells := 0, slots := 0, locals := 22 } : Room) (CPc D g ad u [.ref (ad 41)]) (va_Qi (fun r u1 => bz r ∧ (u = u1 ∧ Q r)) (CB D g ad) (CA ad)) 0 0 (CA ad) := by
  refine Met.ofW (cc := cX1_isFigureNext) (maxL := 1) (ret := (some .boolean)) (by decide) rfl ?_
  intro p e s m args below meth c s₁ B hml hv
  refine Centry (own := RX1) B hml hv hJ rfl (Nat.le_of_ble_eq_true rfl) (fun ls H locs X w hl => ?_)
  obtain ⟨⟨hx, hb, hml, hown, hts⟩, hr, hlocks, hK, hJ, hAA⟩ := id X
  have hl : lv_has ls 1 [(0, .ref (ad 41))] := hl
  unfold wX1_isFigureNext at h
  refine lv_aload_n (pc := 0) hx hb dX1_isFigureNext_0 rfl (lv_at hl 0 rfl) ?_
  refine Cgf_41_5 (pc := 1) X w kw14 dX1_isFigureNext_1 ?_
  refine lv_aload_n (pc := 4) hx hb dX1_isFigureNext_4 rfl (lv_at hl 0 rfl) ?_
  refine Cgf_41_1 (pc := 5) X w kw13 dX1_isFigureNext_5 ?_
  refine lv_icmp_ge (pc := 8) (tgt := 34) hx hb dX1_isFigureNext_8 (by decide) (fun c_ => ?_) (fun c_ => ?_)
  · have h := h.1 c_
    refine lv_iconst (pc := 34) (v := (0 : Int32)) hx hb dX1_isFigureNext_34 (by decide) ?_
    exact Czret (pc := 35) X w rfl ⟨rfl, h⟩ dX1_isFigureNext_35
  · have h := h.2 c_
    refine lv_aload_n (pc := 11) hx hb dX1_isFigureNext_11 rfl (lv_at hl 0 rfl) ?_
    refine Cgf_41_0 (pc := 12) X w kw12 dX1_isFigureNext_12 ?_
    refine lv_aload_n (pc := 15) hx hb dX1_isFigureNext_15 rfl (lv_at hl 0 rfl) ?_
    refine Cgf_41_5 (pc := 16) X w kw14 dX1_isFigureNext_16 ?_
    refine Cld_42 (pc := 19) X w h.1 dX1_isFigureNext_19 ?_
    have h := h.2
    refine lv_bipush (pc := 20) (v := (48 : Int32)) hx hb dX1_isFigureNext_20 (by decide) ?_
    refine lv_bipush (pc := 22) (v := (57 : Int32)) hx hb dX1_isFigureNext_22 (by decide) ?_
    refine Ccalli (rest := []) (CrunSN (pc := 24) X w (okX8_within l hJ h) (List.mem_of_getElem? (i := 10) rfl) kmX8_within ⟨rfl, rfl⟩ ⟨by decide, by decide⟩ rfl hl.1 rfl (Nat.le_of_ble_eq_true rfl) dX1_isFigureNext_24) w (fun r1 u9_ H locs h w => ?_)
    obtain ⟨hz_r1, h⟩ := h
    obtain ⟨rfl, h⟩ := h
    refine lv_if_eq (pc := 27) (tgt := 34) hx hb dX1_isFigureNext_27 (by decide) (fun c_ => ?_) (fun c_ => ?_)
    · have h := h.1 c_
      refine lv_iconst (pc := 34) (v := (0 : Int32)) hx hb dX1_isFigureNext_34 (by decide) ?_
      exact Czret (pc := 35) X w rfl ⟨rfl, h⟩ dX1_isFigureNext_35
    · have h := h.2 c_
      refine lv_iconst (pc := 30) (v := (1 : Int32)) hx hb dX1_isFigureNext_30 (by decide) ?_
      refine lv_goto (pc := 31) (tgt := 35) hx hb dX1_isFigureNext_31 (by decide) ?_
      exact Czret (pc := 35) X w rfl ⟨rfl, h⟩ dX1_isFigureNext_35
set_option maxHeartbeats 4000000 in
set_option maxRecDepth 100000 in
theorem okX1_isFigureNext_i2 (l : Launch) {D : va_G} {g : Nat → ClassId} {ad : Nat → Nat} (hJ : CJ ad) {u : Mm} {Q : Int32 → Prop} (h : wX1_isFigureNext 2 u Q) : Met l yX1_isFigureNext (Cond.code yX1_isFigureNext cX1_isFigureNext 1 (some .boolean) :: gt) ({ frames := 1, cells := 0, slots := 0, locals := 22 } : Room) (CPc D g ad u [.ref (ad 45)]) (va_Qi (fun r u1 => bz r ∧ (u = u1 ∧ Q r)) (CB D g ad) (CA ad)) 0 0 (CA ad) := by
  refine Met.ofW (cc := cX1_isFigureNext) (maxL := 1) (ret := (some .boolean)) (by decide) rfl ?_
  intro p e s m args below meth c s₁ B hml hv
  refine Centry (own := RX1) B hml hv hJ rfl (Nat.le_of_ble_eq_true rfl) (fun ls H locs X w hl => ?_)
  obtain ⟨⟨hx, hb, hml, hown, hts⟩, hr, hlocks, hK, hJ, hAA⟩ := id X
  have hl : lv_has ls 1 [(0, .ref (ad 45))] := hl
  unfold wX1_isFigureNext at h
  refine lv_aload_n (pc := 0) hx hb dX1_isFigureNext_0 rfl (lv_at hl 0 rfl) ?_
  refine Cgf_45_5 (pc := 1) X w kw14 dX1_isFigureNext_1 ?_
  refine lv_aload_n (pc := 4) hx hb dX1_isFigureNext_4 rfl (lv_at hl 0 rfl) ?_
  refine Cgf_45_1 (pc := 5) X w kw13 dX1_isFigureNext_5 ?_
  refine lv_icmp_ge (pc := 8) (tgt := 34) hx hb dX1_isFigureNext_8 (by decide) (fun c_ => ?_) (fun c_ => ?_)
  · have h := h.1 c_
    refine lv_iconst (pc := 34) (v := (0 : Int32)) hx hb dX1_isFigureNext_34 (by decide) ?_
    exact Czret (pc := 35) X w rfl ⟨rfl, h⟩ dX1_isFigureNext_35
  · have h := h.2 c_
    refine lv_aload_n (pc := 11) hx hb dX1_isFigureNext_11 rfl (lv_at hl 0 rfl) ?_
    refine Cgf_45_0 (pc := 12) X w kw12 dX1_isFigureNext_12 ?_
    refine lv_aload_n (pc := 15) hx hb dX1_isFigureNext_15 rfl (lv_at hl 0 rfl) ?_
    refine Cgf_45_5 (pc := 16) X w kw14 dX1_isFigureNext_16 ?_
    refine Cld_46 (pc := 19) X w h.1 dX1_isFigureNext_19 ?_
    have h := h.2
    refine lv_bipush (pc := 20) (v := (48 : Int32)) hx hb dX1_isFigureNext_20 (by decide) ?_
    refine lv_bipush (pc := 22) (v := (57 : Int32)) hx hb dX1_isFigureNext_22 (by decide) ?_
    refine Ccalli (rest := []) (CrunSN (pc := 24) X w (okX8_within l hJ h) (List.mem_of_getElem? (i := 10) rfl) kmX8_within ⟨rfl, rfl⟩ ⟨by decide, by decide⟩ rfl hl.1 rfl (Nat.le_of_ble_eq_true rfl) dX1_isFigureNext_24) w (fun r1 u9_ H locs h w => ?_)
    obtain ⟨hz_r1, h⟩ := h
    obtain ⟨rfl, h⟩ := h
    refine lv_if_eq (pc := 27) (tgt := 34) hx hb dX1_isFigureNext_27 (by decide) (fun c_ => ?_) (fun c_ => ?_)
    · have h := h.1 c_
      refine lv_iconst (pc := 34) (v := (0 : Int32)) hx hb dX1_isFigureNext_34 (by decide) ?_
      exact Czret (pc := 35) X w rfl ⟨rfl, h⟩ dX1_isFigureNext_35
    · have h := h.2 c_
      refine lv_iconst (pc := 30) (v := (1 : Int32)) hx hb dX1_isFigureNext_30 (by decide) ?_
      refine lv_goto (pc := 31) (tgt := 35) hx hb dX1_isFigureNext_31 (by decide) ?_
      exact Czret (pc := 35) X w rfl ⟨rfl, h⟩ dX1_isFigureNext_35
set_option maxHeartbeats 4000000 in
set_option maxRecDepth 100000 in
theorem okX1_isFigureNext_i3 (l : Launch) {D : va_G} {g : Nat → ClassId} {ad : Nat → Nat} (hJ : CJ ad) {u : Mm} {Q : Int32 → Prop} (h : wX1_isFigureNext 3 u Q) : Met l yX1_isFigureNext (Cond.code yX1_isFigureNext cX1_isFigureNext 1 (some .boolean) :: gt) ({ frames := 1, cells := 0, slots := 0, locals := 22 } : Room) (CPc D g ad u [.ref (ad 49)]) (va_Qi (fun r u1 => bz r ∧ (u = u1 ∧ Q r)) (CB D g ad) (CA ad)) 0 0 (CA ad) := by
  refine Met.ofW (cc := cX1_isFigureNext) (maxL := 1) (ret := (some .boolean)) (by decide) rfl ?_
  intro p e s m args below meth c s₁ B hml hv
  refine Centry (own := RX1) B hml hv hJ rfl (Nat.le_of_ble_eq_true rfl) (fun ls H locs X w hl => ?_)
  obtain ⟨⟨hx, hb, hml, hown, hts⟩, hr, hlocks, hK, hJ, hAA⟩ := id X
  have hl : lv_has ls 1 [(0, .ref (ad 49))] := hl
  unfold wX1_isFigureNext at h
  refine lv_aload_n (pc := 0) hx hb dX1_isFigureNext_0 rfl (lv_at hl 0 rfl) ?_
  refine Cgf_49_5 (pc := 1) X w kw14 dX1_isFigureNext_1 ?_
  refine lv_aload_n (pc := 4) hx hb dX1_isFigureNext_4 rfl (lv_at hl 0 rfl) ?_
  refine Cgf_49_1 (pc := 5) X w kw13 dX1_isFigureNext_5 ?_
  refine lv_icmp_ge (pc := 8) (tgt := 34) hx hb dX1_isFigureNext_8 (by decide) (fun c_ => ?_) (fun c_ => ?_)
  · have h := h.1 c_
    refine lv_iconst (pc := 34) (v := (0 : Int32)) hx hb dX1_isFigureNext_34 (by decide) ?_
    exact Czret (pc := 35) X w rfl ⟨rfl, h⟩ dX1_isFigureNext_35
  · have h := h.2 c_
    refine lv_aload_n (pc := 11) hx hb dX1_isFigureNext_11 rfl (lv_at hl 0 rfl) ?_
    refine Cgf_49_0 (pc := 12) X w kw12 dX1_isFigureNext_12 ?_
    refine lv_aload_n (pc := 15) hx hb dX1_isFigureNext_15 rfl (lv_at hl 0 rfl) ?_
    refine Cgf_49_5 (pc := 16) X w kw14 dX1_isFigureNext_16 ?_
    refine Cld_50 (pc := 19) X w h.1 dX1_isFigureNext_19 ?_
    have h := h.2
    refine lv_bipush (pc := 20) (v := (48 : Int32)) hx hb dX1_isFigureNext_20 (by decide) ?_
    refine lv_bipush (pc := 22) (v := (57 : Int32)) hx hb dX1_isFigureNext_22 (by decide) ?_
    refine Ccalli (rest := []) (CrunSN (pc := 24) X w (okX8_within l hJ h) (List.mem_of_getElem? (i := 10) rfl) kmX8_within ⟨rfl, rfl⟩ ⟨by decide, by decide⟩ rfl hl.1 rfl (Nat.le_of_ble_eq_true rfl) dX1_isFigureNext_24) w (fun r1 u9_ H locs h w => ?_)
    obtain ⟨hz_r1, h⟩ := h
    obtain ⟨rfl, h⟩ := h
    refine lv_if_eq (pc := 27) (tgt := 34) hx hb dX1_isFigureNext_27 (by decide) (fun c_ => ?_) (fun c_ => ?_)
    · have h := h.1 c_
      refine lv_iconst (pc := 34) (v := (0 : Int32)) hx hb dX1_isFigureNext_34 (by decide) ?_
      exact Czret (pc := 35) X w rfl ⟨rfl, h⟩ dX1_isFigureNext_35
    · have h := h.2 c_
      refine lv_iconst (pc := 30) (v := (1 : Int32)) hx hb dX1_isFigureNext_30 (by decide) ?_
      refine lv_goto (pc := 31) (tgt := 35) hx hb dX1_isFigureNext_31 (by decide) ?_
      exact Czret (pc := 35) X w rfl ⟨rfl, h⟩ dX1_isFigureNext_35
set_option maxHeartbeats 4000000 in
set_option maxRecDepth 100000 in
theorem bX1_scanNumber_i0_4 {l : Launch} {p : Program} {e : Env} {s : State} {m : MethodId} {args : Array Value} {below : List Frame} {meth : Method} {c : Code} {D : va_G} {g : Nat → ClassId} {ad : Nat → Nat} {Q : Int32 → Mm → Prop} (X : CX p s m args meth c cX1_scanNumber RX1 3 (some .int) (Cond.code yX1_scanNumber cX1_scanNumber 3 (some .int)) D g ad (CA ad)) : ∀ (n : Nat) (u : Mm) (x1 : Int32) (x2 : Int32) (H : Heap) (locs : List Loc) (ls : Array Slot), wX1_scanNumber_b4 0 Q n u x1 x2 → CWd D g ad (CA ad) s u H locs → lv_has ls 3 [(0, .ref (ad 37)), (1, .int x1), (2, .int x2)] → W p l e ({ frames := 2, cells := 0, slots := 0, locals := 42 } : Room) s m args below meth c H locs 0 0 (MQ below (va_Qi Q (CB D g ad) (CA ad)) args s 0 0 (CA ad)) (F0 m 4 ls []) := by
  obtain ⟨⟨hx, hb, hml, hown, hts⟩, hr, hlocks, hK, hJ, hAA⟩ := id X
  intro n
  induction n with
  | zero =>
    intro u x1 x2 H locs ls h
    exact False.elim h
  | succ n ih =>
    intro u x1 x2 H locs ls h w hl
    unfold wX1_scanNumber_b4 at h
    refine lv_iload_n (pc := 4) hx hb dX1_scanNumber_4 rfl (lv_at hl 2 rfl) ?_
    refine lv_bipush (pc := 5) (v := (6 : Int32)) hx hb dX1_scanNumber_5 (by decide) ?_
    refine lv_icmp_ge (pc := 7) (tgt := 51) hx hb dX1_scanNumber_7 (by decide) (fun c_ => ?_) (fun c_ => ?_)
    · have h := h.1 c_
      refine lv_iload_n (pc := 51) hx hb dX1_scanNumber_51 rfl (lv_at hl 1 rfl) ?_
      exact Ciret (pc := 52) X w h dX1_scanNumber_52
    · have h := h.2 c_
      refine lv_aload_n (pc := 10) hx hb dX1_scanNumber_10 rfl (lv_at hl 0 rfl) ?_
      refine Ccalli (rest := []) (CrunV (pc := 11) X w (okX1_isFigureNext_i0 l hJ h) kw18 kmX1_isFigureNext ⟨rfl, rfl⟩ ⟨by decide, by decide⟩ (Crv_37 X w) rfl hl.1 rfl (Nat.le_of_ble_eq_true rfl) dX1_scanNumber_11) w (fun r1 u9_ H locs h w => ?_)
      obtain ⟨hz_r1, h⟩ := h
      obtain ⟨rfl, h⟩ := h
      refine lv_if_eq (pc := 14) (tgt := 51) hx hb dX1_scanNumber_14 (by decide) (fun c_ => ?_) (fun c_ => ?_)
      · have h := h.1 c_
        refine lv_iload_n (pc := 51) hx hb dX1_scanNumber_51 rfl (lv_at hl 1 rfl) ?_
        exact Ciret (pc := 52) X w h dX1_scanNumber_52
      · have h := h.2 c_
        refine lv_bipush (pc := 17) (v := (10 : Int32)) hx hb dX1_scanNumber_17 (by decide) ?_
        refine lv_iload_n (pc := 19) hx hb dX1_scanNumber_19 rfl (lv_at hl 1 rfl) ?_
        refine lv_imul (pc := 20) hx hb dX1_scanNumber_20 ?_
        refine lv_aload_n (pc := 21) hx hb dX1_scanNumber_21 rfl (lv_at hl 0 rfl) ?_
        refine Cgf_37_0 (pc := 22) X w kw12 dX1_scanNumber_22 ?_
        refine lv_aload_n (pc := 25) hx hb dX1_scanNumber_25 rfl (lv_at hl 0 rfl) ?_
        refine Cgf_37_5 (pc := 26) X w kw14 dX1_scanNumber_26 ?_
        refine Cld_38 (pc := 29) X w h.1 dX1_scanNumber_29 ?_
        have h := h.2
        refine lv_iadd (pc := 30) hx hb dX1_scanNumber_30 ?_
        refine lv_bipush (pc := 31) (v := (48 : Int32)) hx hb dX1_scanNumber_31 (by decide) ?_
        refine lv_isub (pc := 33) hx hb dX1_scanNumber_33 ?_
        refine lv_topi (fun x1_2 e_ => ?_)
        have h := h x1_2 e_
        refine lv_istore_n (pc := 34) (lv' := [(1, .int x1_2), (0, .ref (ad 37)), (2, .int x2)]) hx hb dX1_scanNumber_34 rfl hl (by decide) rfl (fun ls hl => ?_)
        refine lv_aload_n (pc := 35) hx hb dX1_scanNumber_35 rfl (lv_at hl 1 rfl) ?_
        refine lv_dup (pc := 36) hx hb dX1_scanNumber_36 rfl ?_
        refine Cgf_37_5 (pc := 37) X w kw14 dX1_scanNumber_37 ?_
        refine lv_iconst (pc := 40) (v := (1 : Int32)) hx hb dX1_scanNumber_40 (by decide) ?_
        refine lv_iadd (pc := 41) hx hb dX1_scanNumber_41 ?_
        refine Cpf_37_5 (pc := 42) X w kw14 dX1_scanNumber_42 (fun H locs w => ?_)
        obtain ⟨u3, e_⟩ : ∃ y : Mm, y = s32 u 697 0 ((u.1 697 0) + (1 : Int32)) := ⟨_, rfl⟩
        rw [← e_] at w
        have h := h u3 e_
        obtain ⟨x2_4, e_⟩ : ∃ y : Int32, y = x2 + (1 : Int32) := ⟨_, rfl⟩
        have h := h x2_4 e_
        refine lv_iinc (pc := 45) (v := x2_4) (lv' := [(2, .int x2_4), (1, .int x1_2), (0, .ref (ad 37))]) hx hb dX1_scanNumber_45 hl (k := 2) rfl (by rw [e_]; rfl) (by decide) rfl (fun ls hl => ?_)
        refine lv_goto (pc := 48) (tgt := 4) hx hb dX1_scanNumber_48 (by decide) ?_
        exact ih u3 x1_2 x2_4 H locs ls h w (lv_sub hl [2, 1, 0] rfl)
set_option maxHeartbeats 4000000 in
set_option maxRecDepth 100000 in
theorem okX1_scanNumber_i0 (l : Launch) {D : va_G} {g : Nat → ClassId} {ad : Nat → Nat} (hJ : CJ ad) {u : Mm} {Q : Int32 → Mm → Prop} (h : wX1_scanNumber 0 u Q) : Met l yX1_scanNumber (Cond.code yX1_scanNumber cX1_scanNumber 3 (some .int) :: gt) ({ frames := 2, cells := 0, slots := 0, locals := 42 } : Room) (CPc D g ad u [.ref (ad 37)]) (va_Qi Q (CB D g ad) (CA ad)) 0 0 (CA ad) := by
  refine Met.ofW (cc := cX1_scanNumber) (maxL := 3) (ret := (some .int)) (by decide) rfl ?_
  intro p e s m args below meth c s₁ B hml hv
  refine Centry (own := RX1) B hml hv hJ rfl (Nat.le_of_ble_eq_true rfl) (fun ls H locs X w hl => ?_)
  obtain ⟨⟨hx, hb, hml, hown, hts⟩, hr, hlocks, hK, hJ, hAA⟩ := id X
  have hl : lv_has ls 3 [(0, .ref (ad 37))] := hl
  unfold wX1_scanNumber at h
  refine lv_iconst (pc := 0) (v := (0 : Int32)) hx hb dX1_scanNumber_0 (by decide) ?_
  refine lv_istore_n (pc := 1) (lv' := [(1, .int (0 : Int32)), (0, .ref (ad 37))]) hx hb dX1_scanNumber_1 rfl hl (by decide) rfl (fun ls hl => ?_)
  refine lv_iconst (pc := 2) (v := (0 : Int32)) hx hb dX1_scanNumber_2 (by decide) ?_
  refine lv_istore_n (pc := 3) (lv' := [(2, .int (0 : Int32)), (1, .int (0 : Int32)), (0, .ref (ad 37))]) hx hb dX1_scanNumber_3 rfl hl (by decide) rfl (fun ls hl => ?_)
  obtain ⟨n9, h⟩ := h
  exact bX1_scanNumber_i0_4 X n9 u (0 : Int32) (0 : Int32) H locs ls h w (lv_sub hl [2, 1, 0] rfl)
set_option maxHeartbeats 4000000 in
set_option maxRecDepth 100000 in
theorem bX1_scanNumber_i1_4 {l : Launch} {p : Program} {e : Env} {s : State} {m : MethodId} {args : Array Value} {below : List Frame} {meth : Method} {c : Code} {D : va_G} {g : Nat → ClassId} {ad : Nat → Nat} {Q : Int32 → Mm → Prop} (X : CX p s m args meth c cX1_scanNumber RX1 3 (some .int) (Cond.code yX1_scanNumber cX1_scanNumber 3 (some .int)) D g ad (CA ad)) : ∀ (n : Nat) (u : Mm) (x1 : Int32) (x2 : Int32) (H : Heap) (locs : List Loc) (ls : Array Slot), wX1_scanNumber_b4 1 Q n u x1 x2 → CWd D g ad (CA ad) s u H locs → lv_has ls 3 [(0, .ref (ad 41)), (1, .int x1), (2, .int x2)] → W p l e ({ frames := 2, cells := 0, slots := 0, locals := 42 } : Room) s m args below meth c H locs 0 0 (MQ below (va_Qi Q (CB D g ad) (CA ad)) args s 0 0 (CA ad)) (F0 m 4 ls []) := by
  obtain ⟨⟨hx, hb, hml, hown, hts⟩, hr, hlocks, hK, hJ, hAA⟩ := id X
  intro n
  induction n with
  | zero =>
    intro u x1 x2 H locs ls h
    exact False.elim h
  | succ n ih =>
    intro u x1 x2 H locs ls h w hl
    unfold wX1_scanNumber_b4 at h
    refine lv_iload_n (pc := 4) hx hb dX1_scanNumber_4 rfl (lv_at hl 2 rfl) ?_
    refine lv_bipush (pc := 5) (v := (6 : Int32)) hx hb dX1_scanNumber_5 (by decide) ?_
    refine lv_icmp_ge (pc := 7) (tgt := 51) hx hb dX1_scanNumber_7 (by decide) (fun c_ => ?_) (fun c_ => ?_)
    · have h := h.1 c_
      refine lv_iload_n (pc := 51) hx hb dX1_scanNumber_51 rfl (lv_at hl 1 rfl) ?_
      exact Ciret (pc := 52) X w h dX1_scanNumber_52
    · have h := h.2 c_
      refine lv_aload_n (pc := 10) hx hb dX1_scanNumber_10 rfl (lv_at hl 0 rfl) ?_
      refine Ccalli (rest := []) (CrunV (pc := 11) X w (okX1_isFigureNext_i1 l hJ h) kw18 kmX1_isFigureNext ⟨rfl, rfl⟩ ⟨by decide, by decide⟩ (Crv_41 X w) rfl hl.1 rfl (Nat.le_of_ble_eq_true rfl) dX1_scanNumber_11) w (fun r1 u9_ H locs h w => ?_)
      obtain ⟨hz_r1, h⟩ := h
      obtain ⟨rfl, h⟩ := h
      refine lv_if_eq (pc := 14) (tgt := 51) hx hb dX1_scanNumber_14 (by decide) (fun c_ => ?_) (fun c_ => ?_)
      · have h := h.1 c_
        refine lv_iload_n (pc := 51) hx hb dX1_scanNumber_51 rfl (lv_at hl 1 rfl) ?_
        exact Ciret (pc := 52) X w h dX1_scanNumber_52
      · have h := h.2 c_
        refine lv_bipush (pc := 17) (v := (10 : Int32)) hx hb dX1_scanNumber_17 (by decide) ?_
        refine lv_iload_n (pc := 19) hx hb dX1_scanNumber_19 rfl (lv_at hl 1 rfl) ?_
        refine lv_imul (pc := 20) hx hb dX1_scanNumber_20 ?_
        refine lv_aload_n (pc := 21) hx hb dX1_scanNumber_21 rfl (lv_at hl 0 rfl) ?_
        refine Cgf_41_0 (pc := 22) X w kw12 dX1_scanNumber_22 ?_
        refine lv_aload_n (pc := 25) hx hb dX1_scanNumber_25 rfl (lv_at hl 0 rfl) ?_
        refine Cgf_41_5 (pc := 26) X w kw14 dX1_scanNumber_26 ?_
        refine Cld_42 (pc := 29) X w h.1 dX1_scanNumber_29 ?_
        have h := h.2
        refine lv_iadd (pc := 30) hx hb dX1_scanNumber_30 ?_
        refine lv_bipush (pc := 31) (v := (48 : Int32)) hx hb dX1_scanNumber_31 (by decide) ?_
        refine lv_isub (pc := 33) hx hb dX1_scanNumber_33 ?_
        refine lv_topi (fun x1_2 e_ => ?_)
        have h := h x1_2 e_
        refine lv_istore_n (pc := 34) (lv' := [(1, .int x1_2), (0, .ref (ad 41)), (2, .int x2)]) hx hb dX1_scanNumber_34 rfl hl (by decide) rfl (fun ls hl => ?_)
        refine lv_aload_n (pc := 35) hx hb dX1_scanNumber_35 rfl (lv_at hl 1 rfl) ?_
        refine lv_dup (pc := 36) hx hb dX1_scanNumber_36 rfl ?_
        refine Cgf_41_5 (pc := 37) X w kw14 dX1_scanNumber_37 ?_
        refine lv_iconst (pc := 40) (v := (1 : Int32)) hx hb dX1_scanNumber_40 (by decide) ?_
        refine lv_iadd (pc := 41) hx hb dX1_scanNumber_41 ?_
        refine Cpf_41_5 (pc := 42) X w kw14 dX1_scanNumber_42 (fun H locs w => ?_)
        obtain ⟨u3, e_⟩ : ∃ y : Mm, y = s32 u 761 0 ((u.1 761 0) + (1 : Int32)) := ⟨_, rfl⟩
        rw [← e_] at w
        have h := h u3 e_
        obtain ⟨x2_4, e_⟩ : ∃ y : Int32, y = x2 + (1 : Int32) := ⟨_, rfl⟩
        have h := h x2_4 e_
        refine lv_iinc (pc := 45) (v := x2_4) (lv' := [(2, .int x2_4), (1, .int x1_2), (0, .ref (ad 41))]) hx hb dX1_scanNumber_45 hl (k := 2) rfl (by rw [e_]; rfl) (by decide) rfl (fun ls hl => ?_)
        refine lv_goto (pc := 48) (tgt := 4) hx hb dX1_scanNumber_48 (by decide) ?_
        exact ih u3 x1_2 x2_4 H locs ls h w (lv_sub hl [2, 1, 0] rfl)
set_option maxHeartbeats 4000000 in
set_option maxRecDepth 100000 in
theorem okX1_scanNumber_i1 (l : Launch) {D : va_G} {g : Nat → ClassId} {ad : Nat → Nat} (hJ : CJ ad) {u : Mm} {Q : Int32 → Mm → Prop} (h : wX1_scanNumber 1 u Q) : Met l yX1_scanNumber (Cond.code yX1_scanNumber cX1_scanNumber 3 (some .int) :: gt) ({ frames := 2, cells := 0, slots := 0, locals := 42 } : Room) (CPc D g ad u [.ref (ad 41)]) (va_Qi Q (CB D g ad) (CA ad)) 0 0 (CA ad) := by
  refine Met.ofW (cc := cX1_scanNumber) (maxL := 3) (ret := (some .int)) (by decide) rfl ?_
  intro p e s m args below meth c s₁ B hml hv
  refine Centry (own := RX1) B hml hv hJ rfl (Nat.le_of_ble_eq_true rfl) (fun ls H locs X w hl => ?_)
  obtain ⟨⟨hx, hb, hml, hown, hts⟩, hr, hlocks, hK, hJ, hAA⟩ := id X
  have hl : lv_has ls 3 [(0, .ref (ad 41))] := hl
  unfold wX1_scanNumber at h
  refine lv_iconst (pc := 0) (v := (0 : Int32)) hx hb dX1_scanNumber_0 (by decide) ?_
  refine lv_istore_n (pc := 1) (lv' := [(1, .int (0 : Int32)), (0, .ref (ad 41))]) hx hb dX1_scanNumber_1 rfl hl (by decide) rfl (fun ls hl => ?_)
  refine lv_iconst (pc := 2) (v := (0 : Int32)) hx hb dX1_scanNumber_2 (by decide) ?_
  refine lv_istore_n (pc := 3) (lv' := [(2, .int (0 : Int32)), (1, .int (0 : Int32)), (0, .ref (ad 41))]) hx hb dX1_scanNumber_3 rfl hl (by decide) rfl (fun ls hl => ?_)
  obtain ⟨n9, h⟩ := h
  exact bX1_scanNumber_i1_4 X n9 u (0 : Int32) (0 : Int32) H locs ls h w (lv_sub hl [2, 1, 0] rfl)
set_option maxHeartbeats 4000000 in
set_option maxRecDepth 100000 in
theorem bX1_scanNumber_i2_4 {l : Launch} {p : Program} {e : Env} {s : State} {m : MethodId} {args : Array Value} {below : List Frame} {meth : Method} {c : Code} {D : va_G} {g : Nat → ClassId} {ad : Nat → Nat} {Q : Int32 → Mm → Prop} (X : CX p s m args meth c cX1_scanNumber RX1 3 (some .int) (Cond.code yX1_scanNumber cX1_scanNumber 3 (some .int)) D g ad (CA ad)) : ∀ (n : Nat) (u : Mm) (x1 : Int32) (x2 : Int32) (H : Heap) (locs : List Loc) (ls : Array Slot), wX1_scanNumber_b4 2 Q n u x1 x2 → CWd D g ad (CA ad) s u H locs → lv_has ls 3 [(0, .ref (ad 45)), (1, .int x1), (2, .int x2)] → W p l e ({ frames := 2, cells := 0, slots := 0, locals := 42 } : Room) s m args below meth c H locs 0 0 (MQ below (va_Qi Q (CB D g ad) (CA ad)) args s 0 0 (CA ad)) (F0 m 4 ls []) := by
  obtain ⟨⟨hx, hb, hml, hown, hts⟩, hr, hlocks, hK, hJ, hAA⟩ := id X
  intro n
  induction n with
  | zero =>
    intro u x1 x2 H locs ls h
    exact False.elim h
  | succ n ih =>
    intro u x1 x2 H locs ls h w hl
    unfold wX1_scanNumber_b4 at h
    refine lv_iload_n (pc := 4) hx hb dX1_scanNumber_4 rfl (lv_at hl 2 rfl) ?_
    refine lv_bipush (pc := 5) (v := (6 : Int32)) hx hb dX1_scanNumber_5 (by decide) ?_
    refine lv_icmp_ge (pc := 7) (tgt := 51) hx hb dX1_scanNumber_7 (by decide) (fun c_ => ?_) (fun c_ => ?_)
    · have h := h.1 c_
      refine lv_iload_n (pc := 51) hx hb dX1_scanNumber_51 rfl (lv_at hl 1 rfl) ?_
      exact Ciret (pc := 52) X w h dX1_scanNumber_52
    · have h := h.2 c_
      refine lv_aload_n (pc := 10) hx hb dX1_scanNumber_10 rfl (lv_at hl 0 rfl) ?_
      refine Ccalli (rest := []) (CrunV (pc := 11) X w (okX1_isFigureNext_i2 l hJ h) kw18 kmX1_isFigureNext ⟨rfl, rfl⟩ ⟨by decide, by decide⟩ (Crv_45 X w) rfl hl.1 rfl (Nat.le_of_ble_eq_true rfl) dX1_scanNumber_11) w (fun r1 u9_ H locs h w => ?_)
      obtain ⟨hz_r1, h⟩ := h
      obtain ⟨rfl, h⟩ := h
      refine lv_if_eq (pc := 14) (tgt := 51) hx hb dX1_scanNumber_14 (by decide) (fun c_ => ?_) (fun c_ => ?_)
      · have h := h.1 c_
        refine lv_iload_n (pc := 51) hx hb dX1_scanNumber_51 rfl (lv_at hl 1 rfl) ?_
        exact Ciret (pc := 52) X w h dX1_scanNumber_52
      · have h := h.2 c_
        refine lv_bipush (pc := 17) (v := (10 : Int32)) hx hb dX1_scanNumber_17 (by decide) ?_
        refine lv_iload_n (pc := 19) hx hb dX1_scanNumber_19 rfl (lv_at hl 1 rfl) ?_
        refine lv_imul (pc := 20) hx hb dX1_scanNumber_20 ?_
        refine lv_aload_n (pc := 21) hx hb dX1_scanNumber_21 rfl (lv_at hl 0 rfl) ?_
        refine Cgf_45_0 (pc := 22) X w kw12 dX1_scanNumber_22 ?_
        refine lv_aload_n (pc := 25) hx hb dX1_scanNumber_25 rfl (lv_at hl 0 rfl) ?_
        refine Cgf_45_5 (pc := 26) X w kw14 dX1_scanNumber_26 ?_
        refine Cld_46 (pc := 29) X w h.1 dX1_scanNumber_29 ?_
        have h := h.2
        refine lv_iadd (pc := 30) hx hb dX1_scanNumber_30 ?_
        refine lv_bipush (pc := 31) (v := (48 : Int32)) hx hb dX1_scanNumber_31 (by decide) ?_
        refine lv_isub (pc := 33) hx hb dX1_scanNumber_33 ?_
        refine lv_topi (fun x1_2 e_ => ?_)
        have h := h x1_2 e_
        refine lv_istore_n (pc := 34) (lv' := [(1, .int x1_2), (0, .ref (ad 45)), (2, .int x2)]) hx hb dX1_scanNumber_34 rfl hl (by decide) rfl (fun ls hl => ?_)
        refine lv_aload_n (pc := 35) hx hb dX1_scanNumber_35 rfl (lv_at hl 1 rfl) ?_
        refine lv_dup (pc := 36) hx hb dX1_scanNumber_36 rfl ?_
        refine Cgf_45_5 (pc := 37) X w kw14 dX1_scanNumber_37 ?_
        refine lv_iconst (pc := 40) (v := (1 : Int32)) hx hb dX1_scanNumber_40 (by decide) ?_
        refine lv_iadd (pc := 41) hx hb dX1_scanNumber_41 ?_
        refine Cpf_45_5 (pc := 42) X w kw14 dX1_scanNumber_42 (fun H locs w => ?_)
        obtain ⟨u3, e_⟩ : ∃ y : Mm, y = s32 u 825 0 ((u.1 825 0) + (1 : Int32)) := ⟨_, rfl⟩
        rw [← e_] at w
        have h := h u3 e_
        obtain ⟨x2_4, e_⟩ : ∃ y : Int32, y = x2 + (1 : Int32) := ⟨_, rfl⟩
        have h := h x2_4 e_
        refine lv_iinc (pc := 45) (v := x2_4) (lv' := [(2, .int x2_4), (1, .int x1_2), (0, .ref (ad 45))]) hx hb dX1_scanNumber_45 hl (k := 2) rfl (by rw [e_]; rfl) (by decide) rfl (fun ls hl => ?_)
        refine lv_goto (pc := 48) (tgt := 4) hx hb dX1_scanNumber_48 (by decide) ?_
        exact ih u3 x1_2 x2_4 H locs ls h w (lv_sub hl [2, 1, 0] rfl)
set_option maxHeartbeats 4000000 in
set_option maxRecDepth 100000 in
theorem okX1_scanNumber_i2 (l : Launch) {D : va_G} {g : Nat → ClassId} {ad : Nat → Nat} (hJ : CJ ad) {u : Mm} {Q : Int32 → Mm → Prop} (h : wX1_scanNumber 2 u Q) : Met l yX1_scanNumber (Cond.code yX1_scanNumber cX1_scanNumber 3 (some .int) :: gt) ({ frames := 2, cells := 0, slots := 0, locals := 42 } : Room) (CPc D g ad u [.ref (ad 45)]) (va_Qi Q (CB D g ad) (CA ad)) 0 0 (CA ad) := by
  refine Met.ofW (cc := cX1_scanNumber) (maxL := 3) (ret := (some .int)) (by decide) rfl ?_
  intro p e s m args below meth c s₁ B hml hv
  refine Centry (own := RX1) B hml hv hJ rfl (Nat.le_of_ble_eq_true rfl) (fun ls H locs X w hl => ?_)
  obtain ⟨⟨hx, hb, hml, hown, hts⟩, hr, hlocks, hK, hJ, hAA⟩ := id X
  have hl : lv_has ls 3 [(0, .ref (ad 45))] := hl
  unfold wX1_scanNumber at h
  refine lv_iconst (pc := 0) (v := (0 : Int32)) hx hb dX1_scanNumber_0 (by decide) ?_
  refine lv_istore_n (pc := 1) (lv' := [(1, .int (0 : Int32)), (0, .ref (ad 45))]) hx hb dX1_scanNumber_1 rfl hl (by decide) rfl (fun ls hl => ?_)
  refine lv_iconst (pc := 2) (v := (0 : Int32)) hx hb dX1_scanNumber_2 (by decide) ?_
  refine lv_istore_n (pc := 3) (lv' := [(2, .int (0 : Int32)), (1, .int (0 : Int32)), (0, .ref (ad 45))]) hx hb dX1_scanNumber_3 rfl hl (by decide) rfl (fun ls hl => ?_)
  obtain ⟨n9, h⟩ := h
  exact bX1_scanNumber_i2_4 X n9 u (0 : Int32) (0 : Int32) H locs ls h w (lv_sub hl [2, 1, 0] rfl)
set_option maxHeartbeats 4000000 in
set_option maxRecDepth 100000 in
theorem bX1_scanNumber_i3_4 {l : Launch} {p : Program} {e : Env} {s : State} {m : MethodId} {args : Array Value} {below : List Frame} {meth : Method} {c : Code} {D : va_G} {g : Nat → ClassId} {ad : Nat → Nat} {Q : Int32 → Mm → Prop} (X : CX p s m args meth c cX1_scanNumber RX1 3 (some .int) (Cond.code yX1_scanNumber cX1_scanNumber 3 (some .int)) D g ad (CA ad)) : ∀ (n : Nat) (u : Mm) (x1 : Int32) (x2 : Int32) (H : Heap) (locs : List Loc) (ls : Array Slot), wX1_scanNumber_b4 3 Q n u x1 x2 → CWd D g ad (CA ad) s u H locs → lv_has ls 3 [(0, .ref (ad 49)), (1, .int x1), (2, .int x2)] → W p l e ({ frames := 2, cells := 0, slots := 0, locals := 42 } : Room) s m args below meth c H locs 0 0 (MQ below (va_Qi Q (CB D g ad) (CA ad)) args s 0 0 (CA ad)) (F0 m 4 ls []) := by
  obtain ⟨⟨hx, hb, hml, hown, hts⟩, hr, hlocks, hK, hJ, hAA⟩ := id X
  intro n
  induction n with
  | zero =>
    intro u x1 x2 H locs ls h
    exact False.elim h
  | succ n ih =>
    intro u x1 x2 H locs ls h w hl
    unfold wX1_scanNumber_b4 at h
    refine lv_iload_n (pc := 4) hx hb dX1_scanNumber_4 rfl (lv_at hl 2 rfl) ?_
    refine lv_bipush (pc := 5) (v := (6 : Int32)) hx hb dX1_scanNumber_5 (by decide) ?_
    refine lv_icmp_ge (pc := 7) (tgt := 51) hx hb dX1_scanNumber_7 (by decide) (fun c_ => ?_) (fun c_ => ?_)
    · have h := h.1 c_
      refine lv_iload_n (pc := 51) hx hb dX1_scanNumber_51 rfl (lv_at hl 1 rfl) ?_
      exact Ciret (pc := 52) X w h dX1_scanNumber_52
    · have h := h.2 c_
      refine lv_aload_n (pc := 10) hx hb dX1_scanNumber_10 rfl (lv_at hl 0 rfl) ?_
      refine Ccalli (rest := []) (CrunV (pc := 11) X w (okX1_isFigureNext_i3 l hJ h) kw18 kmX1_isFigureNext ⟨rfl, rfl⟩ ⟨by decide, by decide⟩ (Crv_49 X w) rfl hl.1 rfl (Nat.le_of_ble_eq_true rfl) dX1_scanNumber_11) w (fun r1 u9_ H locs h w => ?_)
      obtain ⟨hz_r1, h⟩ := h
      obtain ⟨rfl, h⟩ := h
      refine lv_if_eq (pc := 14) (tgt := 51) hx hb dX1_scanNumber_14 (by decide) (fun c_ => ?_) (fun c_ => ?_)
      · have h := h.1 c_
        refine lv_iload_n (pc := 51) hx hb dX1_scanNumber_51 rfl (lv_at hl 1 rfl) ?_
        exact Ciret (pc := 52) X w h dX1_scanNumber_52
      · have h := h.2 c_
        refine lv_bipush (pc := 17) (v := (10 : Int32)) hx hb dX1_scanNumber_17 (by decide) ?_
        refine lv_iload_n (pc := 19) hx hb dX1_scanNumber_19 rfl (lv_at hl 1 rfl) ?_
        refine lv_imul (pc := 20) hx hb dX1_scanNumber_20 ?_
        refine lv_aload_n (pc := 21) hx hb dX1_scanNumber_21 rfl (lv_at hl 0 rfl) ?_
        refine Cgf_49_0 (pc := 22) X w kw12 dX1_scanNumber_22 ?_
        refine lv_aload_n (pc := 25) hx hb dX1_scanNumber_25 rfl (lv_at hl 0 rfl) ?_
        refine Cgf_49_5 (pc := 26) X w kw14 dX1_scanNumber_26 ?_
        refine Cld_50 (pc := 29) X w h.1 dX1_scanNumber_29 ?_
        have h := h.2
        refine lv_iadd (pc := 30) hx hb dX1_scanNumber_30 ?_
        refine lv_bipush (pc := 31) (v := (48 : Int32)) hx hb dX1_scanNumber_31 (by decide) ?_
        refine lv_isub (pc := 33) hx hb dX1_scanNumber_33 ?_
        refine lv_topi (fun x1_2 e_ => ?_)
        have h := h x1_2 e_
        refine lv_istore_n (pc := 34) (lv' := [(1, .int x1_2), (0, .ref (ad 49)), (2, .int x2)]) hx hb dX1_scanNumber_34 rfl hl (by decide) rfl (fun ls hl => ?_)
        refine lv_aload_n (pc := 35) hx hb dX1_scanNumber_35 rfl (lv_at hl 1 rfl) ?_
        refine lv_dup (pc := 36) hx hb dX1_scanNumber_36 rfl ?_
        refine Cgf_49_5 (pc := 37) X w kw14 dX1_scanNumber_37 ?_
        refine lv_iconst (pc := 40) (v := (1 : Int32)) hx hb dX1_scanNumber_40 (by decide) ?_
        refine lv_iadd (pc := 41) hx hb dX1_scanNumber_41 ?_
        refine Cpf_49_5 (pc := 42) X w kw14 dX1_scanNumber_42 (fun H locs w => ?_)
        obtain ⟨u3, e_⟩ : ∃ y : Mm, y = s32 u 889 0 ((u.1 889 0) + (1 : Int32)) := ⟨_, rfl⟩
        rw [← e_] at w
        have h := h u3 e_
        obtain ⟨x2_4, e_⟩ : ∃ y : Int32, y = x2 + (1 : Int32) := ⟨_, rfl⟩
        have h := h x2_4 e_
        refine lv_iinc (pc := 45) (v := x2_4) (lv' := [(2, .int x2_4), (1, .int x1_2), (0, .ref (ad 49))]) hx hb dX1_scanNumber_45 hl (k := 2) rfl (by rw [e_]; rfl) (by decide) rfl (fun ls hl => ?_)
        refine lv_goto (pc := 48) (tgt := 4) hx hb dX1_scanNumber_48 (by decide) ?_
        exact ih u3 x1_2 x2_4 H locs ls h w (lv_sub hl [2, 1, 0] rfl)
set_option maxHeartbeats 4000000 in
set_option maxRecDepth 100000 in
theorem okX1_scanNumber_i3 (l : Launch) {D : va_G} {g : Nat → ClassId} {ad : Nat → Nat} (hJ : CJ ad) {u : Mm} {Q : Int32 → Mm → Prop} (h : wX1_scanNumber 3 u Q) : Met l yX1_scanNumber (Cond.code yX1_scanNumber cX1_scanNumber 3 (some .int) :: gt) ({ frames := 2, cells := 0, slots := 0, locals := 42 } : Room) (CPc D g ad u [.ref (ad 49)]) (va_Qi Q (CB D g ad) (CA ad)) 0 0 (CA ad) := by
  refine Met.ofW (cc := cX1_scanNumber) (maxL := 3) (ret := (some .int)) (by decide) rfl ?_
  intro p e s m args below meth c s₁ B hml hv
  refine Centry (own := RX1) B hml hv hJ rfl (Nat.le_of_ble_eq_true rfl) (fun ls H locs X w hl => ?_)
  obtain ⟨⟨hx, hb, hml, hown, hts⟩, hr, hlocks, hK, hJ, hAA⟩ := id X
  have hl : lv_has ls 3 [(0, .ref (ad 49))] := hl
  unfold wX1_scanNumber at h
  refine lv_iconst (pc := 0) (v := (0 : Int32)) hx hb dX1_scanNumber_0 (by decide) ?_
  refine lv_istore_n (pc := 1) (lv' := [(1, .int (0 : Int32)), (0, .ref (ad 49))]) hx hb dX1_scanNumber_1 rfl hl (by decide) rfl (fun ls hl => ?_)
  refine lv_iconst (pc := 2) (v := (0 : Int32)) hx hb dX1_scanNumber_2 (by decide) ?_
  refine lv_istore_n (pc := 3) (lv' := [(2, .int (0 : Int32)), (1, .int (0 : Int32)), (0, .ref (ad 49))]) hx hb dX1_scanNumber_3 rfl hl (by decide) rfl (fun ls hl => ?_)
  obtain ⟨n9, h⟩ := h
  exact bX1_scanNumber_i3_4 X n9 u (0 : Int32) (0 : Int32) H locs ls h w (lv_sub hl [2, 1, 0] rfl)
set_option maxHeartbeats 4000000 in
set_option maxRecDepth 100000 in
theorem okX1_isNext_i0 (l : Launch) {D : va_G} {g : Nat → ClassId} {ad : Nat → Nat} (hJ : CJ ad) {u : Mm} {a1 : Int32} {Q : Int32 → Prop} (h : wX1_isNext 0 u a1 Q) : Met l yX1_isNext (Cond.code yX1_isNext cX1_isNext 2 (some .boolean) :: gt) ({ frames := 0, cells := 0, slots := 0, locals := 0 } : Room) (CPc D g ad u [.ref (ad 37), .int a1]) (va_Qi (fun r u1 => bz r ∧ (u = u1 ∧ Q r)) (CB D g ad) (CA ad)) 0 0 (CA ad) := by
  refine Met.ofW (cc := cX1_isNext) (maxL := 2) (ret := (some .boolean)) (by decide) rfl ?_
  intro p e s m args below meth c s₁ B hml hv
  refine Centry (own := RX1) B hml hv hJ rfl (Nat.le_of_ble_eq_true rfl) (fun ls H locs X w hl => ?_)
  obtain ⟨⟨hx, hb, hml, hown, hts⟩, hr, hlocks, hK, hJ, hAA⟩ := id X
  have hl : lv_has ls 2 [(0, .ref (ad 37)), (1, .int a1)] := hl
  unfold wX1_isNext at h
  refine lv_aload_n (pc := 0) hx hb dX1_isNext_0 rfl (lv_at hl 0 rfl) ?_
  refine Cgf_37_5 (pc := 1) X w kw14 dX1_isNext_1 ?_
  refine lv_aload_n (pc := 4) hx hb dX1_isNext_4 rfl (lv_at hl 0 rfl) ?_
  refine Cgf_37_1 (pc := 5) X w kw13 dX1_isNext_5 ?_
  refine lv_icmp_ge (pc := 8) (tgt := 28) hx hb dX1_isNext_8 (by decide) (fun c_ => ?_) (fun c_ => ?_)
  · have h := h.1 c_
    refine lv_iconst (pc := 28) (v := (0 : Int32)) hx hb dX1_isNext_28 (by decide) ?_
    exact Czret (pc := 29) X w rfl ⟨rfl, h⟩ dX1_isNext_29
  · have h := h.2 c_
    refine lv_aload_n (pc := 11) hx hb dX1_isNext_11 rfl (lv_at hl 0 rfl) ?_
    refine Cgf_37_0 (pc := 12) X w kw12 dX1_isNext_12 ?_
    refine lv_aload_n (pc := 15) hx hb dX1_isNext_15 rfl (lv_at hl 0 rfl) ?_
    refine Cgf_37_5 (pc := 16) X w kw14 dX1_isNext_16 ?_
    refine Cld_38 (pc := 19) X w h.1 dX1_isNext_19 ?_
    have h := h.2
    refine lv_iload_n (pc := 20) hx hb dX1_isNext_20 rfl (lv_at hl 1 rfl) ?_
    refine lv_icmp_ne (pc := 21) (tgt := 28) hx hb dX1_isNext_21 (by decide) (fun c_ => ?_) (fun c_ => ?_)
    · have h := h.2 c_
      refine lv_iconst (pc := 28) (v := (0 : Int32)) hx hb dX1_isNext_28 (by decide) ?_
      exact Czret (pc := 29) X w rfl ⟨rfl, h⟩ dX1_isNext_29
    · have h := h.1 c_
      refine lv_iconst (pc := 24) (v := (1 : Int32)) hx hb dX1_isNext_24 (by decide) ?_
      refine lv_goto (pc := 25) (tgt := 29) hx hb dX1_isNext_25 (by decide) ?_
      exact Czret (pc := 29) X w rfl ⟨rfl, h⟩ dX1_isNext_29
set_option maxHeartbeats 4000000 in
set_option maxRecDepth 100000 in
theorem okX1_isNext_i1 (l : Launch) {D : va_G} {g : Nat → ClassId} {ad : Nat → Nat} (hJ : CJ ad) {u : Mm} {a1 : Int32} {Q : Int32 → Prop} (h : wX1_isNext 1 u a1 Q) : Met l yX1_isNext (Cond.code yX1_isNext cX1_isNext 2 (some .boolean) :: gt) ({ frames := 0, cells := 0, slots := 0, locals := 0 } : Room) (CPc D g ad u [.ref (ad 41), .int a1]) (va_Qi (fun r u1 => bz r ∧ (u = u1 ∧ Q r)) (CB D g ad) (CA ad)) 0 0 (CA ad) := by
  refine Met.ofW (cc := cX1_isNext) (maxL := 2) (ret := (some .boolean)) (by decide) rfl ?_
  intro p e s m args below meth c s₁ B hml hv
  refine Centry (own := RX1) B hml hv hJ rfl (Nat.le_of_ble_eq_true rfl) (fun ls H locs X w hl => ?_)
  obtain ⟨⟨hx, hb, hml, hown, hts⟩, hr, hlocks, hK, hJ, hAA⟩ := id X
  have hl : lv_has ls 2 [(0, .ref (ad 41)), (1, .int a1)] := hl
  unfold wX1_isNext at h
  refine lv_aload_n (pc := 0) hx hb dX1_isNext_0 rfl (lv_at hl 0 rfl) ?_
  refine Cgf_41_5 (pc := 1) X w kw14 dX1_isNext_1 ?_
  refine lv_aload_n (pc := 4) hx hb dX1_isNext_4 rfl (lv_at hl 0 rfl) ?_
  refine Cgf_41_1 (pc := 5) X w kw13 dX1_isNext_5 ?_
  refine lv_icmp_ge (pc := 8) (tgt := 28) hx hb dX1_isNext_8 (by decide) (fun c_ => ?_) (fun c_ => ?_)
  · have h := h.1 c_
    refine lv_iconst (pc := 28) (v := (0 : Int32)) hx hb dX1_isNext_28 (by decide) ?_
    exact Czret (pc := 29) X w rfl ⟨rfl, h⟩ dX1_isNext_29
  · have h := h.2 c_
    refine lv_aload_n (pc := 11) hx hb dX1_isNext_11 rfl (lv_at hl 0 rfl) ?_
    refine Cgf_41_0 (pc := 12) X w kw12 dX1_isNext_12 ?_
    refine lv_aload_n (pc := 15) hx hb dX1_isNext_15 rfl (lv_at hl 0 rfl) ?_
    refine Cgf_41_5 (pc := 16) X w kw14 dX1_isNext_16 ?_
    refine Cld_42 (pc := 19) X w h.1 dX1_isNext_19 ?_
    have h := h.2
    refine lv_iload_n (pc := 20) hx hb dX1_isNext_20 rfl (lv_at hl 1 rfl) ?_
    refine lv_icmp_ne (pc := 21) (tgt := 28) hx hb dX1_isNext_21 (by decide) (fun c_ => ?_) (fun c_ => ?_)
    · have h := h.2 c_
      refine lv_iconst (pc := 28) (v := (0 : Int32)) hx hb dX1_isNext_28 (by decide) ?_
      exact Czret (pc := 29) X w rfl ⟨rfl, h⟩ dX1_isNext_29
    · have h := h.1 c_
      refine lv_iconst (pc := 24) (v := (1 : Int32)) hx hb dX1_isNext_24 (by decide) ?_
      refine lv_goto (pc := 25) (tgt := 29) hx hb dX1_isNext_25 (by decide) ?_
      exact Czret (pc := 29) X w rfl ⟨rfl, h⟩ dX1_isNext_29
set_option maxHeartbeats 4000000 in
set_option maxRecDepth 100000 in
theorem okX1_isNext_i2 (l : Launch) {D : va_G} {g : Nat → ClassId} {ad : Nat → Nat} (hJ : CJ ad) {u : Mm} {a1 : Int32} {Q : Int32 → Prop} (h : wX1_isNext 2 u a1 Q) : Met l yX1_isNext (Cond.code yX1_isNext cX1_isNext 2 (some .boolean) :: gt) ({ frames := 0, cells := 0, slots := 0, locals := 0 } : Room) (CPc D g ad u [.ref (ad 45), .int a1]) (va_Qi (fun r u1 => bz r ∧ (u = u1 ∧ Q r)) (CB D g ad) (CA ad)) 0 0 (CA ad) := by
  refine Met.ofW (cc := cX1_isNext) (maxL := 2) (ret := (some .boolean)) (by decide) rfl ?_
  intro p e s m args below meth c s₁ B hml hv
  refine Centry (own := RX1) B hml hv hJ rfl (Nat.le_of_ble_eq_true rfl) (fun ls H locs X w hl => ?_)
  obtain ⟨⟨hx, hb, hml, hown, hts⟩, hr, hlocks, hK, hJ, hAA⟩ := id X
  have hl : lv_has ls 2 [(0, .ref (ad 45)), (1, .int a1)] := hl
  unfold wX1_isNext at h
  refine lv_aload_n (pc := 0) hx hb dX1_isNext_0 rfl (lv_at hl 0 rfl) ?_
  refine Cgf_45_5 (pc := 1) X w kw14 dX1_isNext_1 ?_
  refine lv_aload_n (pc := 4) hx hb dX1_isNext_4 rfl (lv_at hl 0 rfl) ?_
  refine Cgf_45_1 (pc := 5) X w kw13 dX1_isNext_5 ?_
  refine lv_icmp_ge (pc := 8) (tgt := 28) hx hb dX1_isNext_8 (by decide) (fun c_ => ?_) (fun c_ => ?_)
  · have h := h.1 c_
    refine lv_iconst (pc := 28) (v := (0 : Int32)) hx hb dX1_isNext_28 (by decide) ?_
    exact Czret (pc := 29) X w rfl ⟨rfl, h⟩ dX1_isNext_29
  · have h := h.2 c_
    refine lv_aload_n (pc := 11) hx hb dX1_isNext_11 rfl (lv_at hl 0 rfl) ?_
    refine Cgf_45_0 (pc := 12) X w kw12 dX1_isNext_12 ?_
    refine lv_aload_n (pc := 15) hx hb dX1_isNext_15 rfl (lv_at hl 0 rfl) ?_
    refine Cgf_45_5 (pc := 16) X w kw14 dX1_isNext_16 ?_
    refine Cld_46 (pc := 19) X w h.1 dX1_isNext_19 ?_
    have h := h.2
    refine lv_iload_n (pc := 20) hx hb dX1_isNext_20 rfl (lv_at hl 1 rfl) ?_
    refine lv_icmp_ne (pc := 21) (tgt := 28) hx hb dX1_isNext_21 (by decide) (fun c_ => ?_) (fun c_ => ?_)
    · have h := h.2 c_
      refine lv_iconst (pc := 28) (v := (0 : Int32)) hx hb dX1_isNext_28 (by decide) ?_
      exact Czret (pc := 29) X w rfl ⟨rfl, h⟩ dX1_isNext_29
    · have h := h.1 c_
      refine lv_iconst (pc := 24) (v := (1 : Int32)) hx hb dX1_isNext_24 (by decide) ?_
      refine lv_goto (pc := 25) (tgt := 29) hx hb dX1_isNext_25 (by decide) ?_
      exact Czret (pc := 29) X w rfl ⟨rfl, h⟩ dX1_isNext_29
set_option maxHeartbeats 4000000 in
set_option maxRecDepth 100000 in
theorem okX1_isNext_i3 (l : Launch) {D : va_G} {g : Nat → ClassId} {ad : Nat → Nat} (hJ : CJ ad) {u : Mm} {a1 : Int32} {Q : Int32 → Prop} (h : wX1_isNext 3 u a1 Q) : Met l yX1_isNext (Cond.code yX1_isNext cX1_isNext 2 (some .boolean) :: gt) ({ frames := 0, cells := 0, slots := 0, locals := 0 } : Room) (CPc D g ad u [.ref (ad 49), .int a1]) (va_Qi (fun r u1 => bz r ∧ (u = u1 ∧ Q r)) (CB D g ad) (CA ad)) 0 0 (CA ad) := by
  refine Met.ofW (cc := cX1_isNext) (maxL := 2) (ret := (some .boolean)) (by decide) rfl ?_
  intro p e s m args below meth c s₁ B hml hv
  refine Centry (own := RX1) B hml hv hJ rfl (Nat.le_of_ble_eq_true rfl) (fun ls H locs X w hl => ?_)
  obtain ⟨⟨hx, hb, hml, hown, hts⟩, hr, hlocks, hK, hJ, hAA⟩ := id X
  have hl : lv_has ls 2 [(0, .ref (ad 49)), (1, .int a1)] := hl
  unfold wX1_isNext at h
  refine lv_aload_n (pc := 0) hx hb dX1_isNext_0 rfl (lv_at hl 0 rfl) ?_
  refine Cgf_49_5 (pc := 1) X w kw14 dX1_isNext_1 ?_
  refine lv_aload_n (pc := 4) hx hb dX1_isNext_4 rfl (lv_at hl 0 rfl) ?_
  refine Cgf_49_1 (pc := 5) X w kw13 dX1_isNext_5 ?_
  refine lv_icmp_ge (pc := 8) (tgt := 28) hx hb dX1_isNext_8 (by decide) (fun c_ => ?_) (fun c_ => ?_)
  · have h := h.1 c_
    refine lv_iconst (pc := 28) (v := (0 : Int32)) hx hb dX1_isNext_28 (by decide) ?_
    exact Czret (pc := 29) X w rfl ⟨rfl, h⟩ dX1_isNext_29
  · have h := h.2 c_
    refine lv_aload_n (pc := 11) hx hb dX1_isNext_11 rfl (lv_at hl 0 rfl) ?_
    refine Cgf_49_0 (pc := 12) X w kw12 dX1_isNext_12 ?_
    refine lv_aload_n (pc := 15) hx hb dX1_isNext_15 rfl (lv_at hl 0 rfl) ?_
    refine Cgf_49_5 (pc := 16) X w kw14 dX1_isNext_16 ?_
    refine Cld_50 (pc := 19) X w h.1 dX1_isNext_19 ?_
    have h := h.2
    refine lv_iload_n (pc := 20) hx hb dX1_isNext_20 rfl (lv_at hl 1 rfl) ?_
    refine lv_icmp_ne (pc := 21) (tgt := 28) hx hb dX1_isNext_21 (by decide) (fun c_ => ?_) (fun c_ => ?_)
    · have h := h.2 c_
      refine lv_iconst (pc := 28) (v := (0 : Int32)) hx hb dX1_isNext_28 (by decide) ?_
      exact Czret (pc := 29) X w rfl ⟨rfl, h⟩ dX1_isNext_29
    · have h := h.1 c_
      refine lv_iconst (pc := 24) (v := (1 : Int32)) hx hb dX1_isNext_24 (by decide) ?_
      refine lv_goto (pc := 25) (tgt := 29) hx hb dX1_isNext_25 (by decide) ?_
      exact Czret (pc := 29) X w rfl ⟨rfl, h⟩ dX1_isNext_29
set_option maxHeartbeats 4000000 in
set_option maxRecDepth 100000 in
theorem okX8_below (l : Launch) {D : va_G} {g : Nat → ClassId} {ad : Nat → Nat} (hJ : CJ ad) {u : Mm} {a0 : Int32} {a1 : Int32} {Q : Int32 → Prop} (h : wX8_below a0 a1 Q) : Met l yX8_below (Cond.code yX8_below cX8_below 2 (some .boolean) :: gt) ({ frames := 0, cells := 0, slots := 0, locals := 0 } : Room) (CPc D g ad u [.int a0, .int a1]) (va_Qi (fun r u1 => bz r ∧ (u = u1 ∧ Q r)) (CB D g ad) (CA ad)) 0 0 (CA ad) := by
  refine Met.ofW (cc := cX8_below) (maxL := 2) (ret := (some .boolean)) (by decide) rfl ?_
  intro p e s m args below meth c s₁ B hml hv
  refine Centry (own := RX8) B hml hv hJ rfl (Nat.le_of_ble_eq_true rfl) (fun ls H locs X w hl => ?_)
  obtain ⟨⟨hx, hb, hml, hown, hts⟩, hr, hlocks, hK, hJ, hAA⟩ := id X
  have hl : lv_has ls 2 [(0, .int a0), (1, .int a1)] := hl
  unfold wX8_below at h
  refine lv_iconst (pc := 0) (v := (0 : Int32)) hx hb dX8_below_0 (by decide) ?_
  refine lv_iload_n (pc := 1) hx hb dX8_below_1 rfl (lv_at hl 0 rfl) ?_
  refine lv_icmp_gt (pc := 2) (tgt := 14) hx hb dX8_below_2 (by decide) (fun c_ => ?_) (fun c_ => ?_)
  · have h := h.1 c_
    refine lv_iconst (pc := 14) (v := (0 : Int32)) hx hb dX8_below_14 (by decide) ?_
    exact Czret (pc := 15) X w rfl ⟨rfl, h⟩ dX8_below_15
  · have h := h.2 c_
    refine lv_iload_n (pc := 5) hx hb dX8_below_5 rfl (lv_at hl 0 rfl) ?_
    refine lv_iload_n (pc := 6) hx hb dX8_below_6 rfl (lv_at hl 1 rfl) ?_
    refine lv_icmp_ge (pc := 7) (tgt := 14) hx hb dX8_below_7 (by decide) (fun c_ => ?_) (fun c_ => ?_)
    · have h := h.1 c_
      refine lv_iconst (pc := 14) (v := (0 : Int32)) hx hb dX8_below_14 (by decide) ?_
      exact Czret (pc := 15) X w rfl ⟨rfl, h⟩ dX8_below_15
    · have h := h.2 c_
      refine lv_iconst (pc := 10) (v := (1 : Int32)) hx hb dX8_below_10 (by decide) ?_
      refine lv_goto (pc := 11) (tgt := 15) hx hb dX8_below_11 (by decide) ?_
      exact Czret (pc := 15) X w rfl ⟨rfl, h⟩ dX8_below_15
set_option maxHeartbeats 4000000 in
set_option maxRecDepth 100000 in
theorem okX8_isLine (l : Launch) {D : va_G} {g : Nat → ClassId} {ad : Nat → Nat} (hJ : CJ ad) {u : Mm} {a0 : Int32} {a1 : Int32} {a2 : Int32} {Q : Int32 → Prop} (h : wX8_isLine a0 a1 a2 Q) : Met l yX8_isLine (Cond.code yX8_isLine cX8_isLine 3 (some .boolean) :: gt) ({ frames := 1, cells := 0, slots := 0, locals := 21 } : Room) (CPc D g ad u [.int a0, .int a1, .int a2]) (va_Qi (fun r u1 => bz r ∧ (u = u1 ∧ Q r)) (CB D g ad) (CA ad)) 0 0 (CA ad) := by
  refine Met.ofW (cc := cX8_isLine) (maxL := 3) (ret := (some .boolean)) (by decide) rfl ?_
  intro p e s m args below meth c s₁ B hml hv
  refine Centry (own := RX8) B hml hv hJ rfl (Nat.le_of_ble_eq_true rfl) (fun ls H locs X w hl => ?_)
  obtain ⟨⟨hx, hb, hml, hown, hts⟩, hr, hlocks, hK, hJ, hAA⟩ := id X
  have hl : lv_has ls 3 [(0, .int a0), (1, .int a1), (2, .int a2)] := hl
  unfold wX8_isLine at h
  refine lv_iload_n (pc := 0) hx hb dX8_isLine_0 rfl (lv_at hl 0 rfl) ?_
  refine lv_iconst (pc := 1) (v := (2 : Int32)) hx hb dX8_isLine_1 (by decide) ?_
  refine Ccalli (rest := []) (CrunS (pc := 2) X w (okX8_below l hJ h) kw23 kmX8_below ⟨rfl, rfl⟩ ⟨by decide, by decide⟩ rfl hl.1 rfl (Nat.le_of_ble_eq_true rfl) dX8_isLine_2) w (fun r1 u9_ H locs h w => ?_)
  obtain ⟨hz_r1, h⟩ := h
  obtain ⟨rfl, h⟩ := h
  refine lv_if_eq (pc := 5) (tgt := 29) hx hb dX8_isLine_5 (by decide) (fun c_ => ?_) (fun c_ => ?_)
  · have h := h.1 c_
    refine lv_iconst (pc := 29) (v := (0 : Int32)) hx hb dX8_isLine_29 (by decide) ?_
    exact Czret (pc := 30) X w rfl ⟨rfl, h⟩ dX8_isLine_30
  · have h := h.2 c_
    refine lv_iload_n (pc := 8) hx hb dX8_isLine_8 rfl (lv_at hl 1 rfl) ?_
    refine lv_iconst (pc := 9) (v := (4 : Int32)) hx hb dX8_isLine_9 (by decide) ?_
    refine Ccalli (rest := []) (CrunS (pc := 10) X w (okX8_below l hJ h) kw23 kmX8_below ⟨rfl, rfl⟩ ⟨by decide, by decide⟩ rfl hl.1 rfl (Nat.le_of_ble_eq_true rfl) dX8_isLine_10) w (fun r2 u9_ H locs h w => ?_)
    obtain ⟨hz_r2, h⟩ := h
    obtain ⟨rfl, h⟩ := h
    refine lv_if_eq (pc := 13) (tgt := 29) hx hb dX8_isLine_13 (by decide) (fun c_ => ?_) (fun c_ => ?_)
    · have h := h.1 c_
      refine lv_iconst (pc := 29) (v := (0 : Int32)) hx hb dX8_isLine_29 (by decide) ?_
      exact Czret (pc := 30) X w rfl ⟨rfl, h⟩ dX8_isLine_30
    · have h := h.2 c_
      refine lv_iload_n (pc := 16) hx hb dX8_isLine_16 rfl (lv_at hl 2 rfl) ?_
      refine lv_bipush (pc := 17) (v := (6 : Int32)) hx hb dX8_isLine_17 (by decide) ?_
      refine Ccalli (rest := []) (CrunS (pc := 19) X w (okX8_below l hJ h) kw23 kmX8_below ⟨rfl, rfl⟩ ⟨by decide, by decide⟩ rfl hl.1 rfl (Nat.le_of_ble_eq_true rfl) dX8_isLine_19) w (fun r3 u9_ H locs h w => ?_)
      obtain ⟨hz_r3, h⟩ := h
      obtain ⟨rfl, h⟩ := h
      refine lv_if_eq (pc := 22) (tgt := 29) hx hb dX8_isLine_22 (by decide) (fun c_ => ?_) (fun c_ => ?_)
      · have h := h.1 c_
        refine lv_iconst (pc := 29) (v := (0 : Int32)) hx hb dX8_isLine_29 (by decide) ?_
        exact Czret (pc := 30) X w rfl ⟨rfl, h⟩ dX8_isLine_30
      · have h := h.2 c_
        refine lv_iconst (pc := 25) (v := (1 : Int32)) hx hb dX8_isLine_25 (by decide) ?_
        refine lv_goto (pc := 26) (tgt := 30) hx hb dX8_isLine_26 (by decide) ?_
        exact Czret (pc := 30) X w rfl ⟨rfl, h⟩ dX8_isLine_30
set_option maxHeartbeats 4000000 in
set_option maxRecDepth 100000 in
theorem okX8_cellCode (l : Launch) {D : va_G} {g : Nat → ClassId} {ad : Nat → Nat} (hJ : CJ ad) {u : Mm} {a0 : Int32} {a1 : Int32} {a2 : Int32} {a3 : Int32} {Q : Int32 → Prop} (h : wX8_cellCode a0 a1 a2 a3 Q) : Met l yX8_cellCode (Cond.code yX8_cellCode cX8_cellCode 4 (some .int) :: gt) ({ frames := 0, cells := 0, slots := 0, locals := 0 } : Room) (CPc D g ad u [.int a0, .int a1, .int a2, .int a3]) (va_Qi (fun r u1 => u = u1 ∧ Q r) (CB D g ad) (CA ad)) 0 0 (CA ad) := by
  refine Met.ofW (cc := cX8_cellCode) (maxL := 4) (ret := (some .int)) (by decide) rfl ?_
  intro p e s m args below meth c s₁ B hml hv
  refine Centry (own := RX8) B hml hv hJ rfl (Nat.le_of_ble_eq_true rfl) (fun ls H locs X w hl => ?_)
  obtain ⟨⟨hx, hb, hml, hown, hts⟩, hr, hlocks, hK, hJ, hAA⟩ := id X
  have hl : lv_has ls 4 [(0, .int a0), (1, .int a1), (2, .int a2), (3, .int a3)] := hl
  unfold wX8_cellCode at h
  refine lv_iload_n (pc := 0) hx hb dX8_cellCode_0 rfl (lv_at hl 0 rfl) ?_
  refine lv_iconst (pc := 1) (v := (4 : Int32)) hx hb dX8_cellCode_1 (by decide) ?_
  refine lv_imul (pc := 2) hx hb dX8_cellCode_2 ?_
  refine lv_iload_n (pc := 3) hx hb dX8_cellCode_3 rfl (lv_at hl 1 rfl) ?_
  refine lv_iadd (pc := 4) hx hb dX8_cellCode_4 ?_
  refine lv_bipush (pc := 5) (v := (6 : Int32)) hx hb dX8_cellCode_5 (by decide) ?_
  refine lv_imul (pc := 7) hx hb dX8_cellCode_7 ?_
  refine lv_iload_n (pc := 8) hx hb dX8_cellCode_8 rfl (lv_at hl 2 rfl) ?_
  refine lv_iadd (pc := 9) hx hb dX8_cellCode_9 ?_
  refine lv_bipush (pc := 10) (v := (12 : Int32)) hx hb dX8_cellCode_10 (by decide) ?_
  refine lv_imul (pc := 12) hx hb dX8_cellCode_12 ?_
  refine lv_iload_n (pc := 13) hx hb dX8_cellCode_13 rfl (lv_at hl 3 rfl) ?_
  refine lv_iadd (pc := 14) hx hb dX8_cellCode_14 ?_
  exact Ciret (pc := 15) X w ⟨rfl, h⟩ dX8_cellCode_15
set_option maxHeartbeats 4000000 in
set_option maxRecDepth 100000 in
theorem okX1_addTerm_i0 (l : Launch) {D : va_G} {g : Nat → ClassId} {ad : Nat → Nat} (hJ : CJ ad) {u : Mm} {a1 : Int32} {a2 : Int32} {Q : Int32 → Mm → Prop} (h : wX1_addTerm 0 u a1 a2 Q) : Met l yX1_addTerm (Cond.code yX1_addTerm cX1_addTerm 3 (some .int) :: gt) ({ frames := 0, cells := 0, slots := 0, locals := 0 } : Room) (CPc D g ad u [.ref (ad 37), .int a1, .int a2]) (va_Qi Q (CB D g ad) (CA ad)) 0 0 (CA ad) := by
  refine Met.ofW (cc := cX1_addTerm) (maxL := 3) (ret := (some .int)) (by decide) rfl ?_
  intro p e s m args below meth c s₁ B hml hv
  refine Centry (own := RX1) B hml hv hJ rfl (Nat.le_of_ble_eq_true rfl) (fun ls H locs X w hl => ?_)
  obtain ⟨⟨hx, hb, hml, hown, hts⟩, hr, hlocks, hK, hJ, hAA⟩ := id X
  have hl : lv_has ls 3 [(0, .ref (ad 37)), (1, .int a1), (2, .int a2)] := hl
  unfold wX1_addTerm at h
  refine lv_aload_n (pc := 0) hx hb dX1_addTerm_0 rfl (lv_at hl 0 rfl) ?_
  refine Cgf_37_4 (pc := 1) X w kw26 dX1_addTerm_1 ?_
  refine lv_bipush (pc := 4) (v := (60 : Int32)) hx hb dX1_addTerm_4 (by decide) ?_
  refine lv_icmp_ge (pc := 6) (tgt := 39) hx hb dX1_addTerm_6 (by decide) (fun c_ => ?_) (fun c_ => ?_)
  · have h := h.1 c_
    refine lv_iconst (pc := 39) (v := (-1 : Int32)) hx hb dX1_addTerm_39 (by decide) ?_
    exact Ciret (pc := 40) X w h dX1_addTerm_40
  · have h := h.2 c_
    refine lv_aload_n (pc := 9) hx hb dX1_addTerm_9 rfl (lv_at hl 0 rfl) ?_
    refine Cgf_37_2 (pc := 10) X w kw27 dX1_addTerm_10 ?_
    refine lv_aload_n (pc := 13) hx hb dX1_addTerm_13 rfl (lv_at hl 0 rfl) ?_
    refine Cgf_37_4 (pc := 14) X w kw26 dX1_addTerm_14 ?_
    refine lv_iload_n (pc := 17) hx hb dX1_addTerm_17 rfl (lv_at hl 1 rfl) ?_
    refine Cst_39 (pc := 18) X w h.1 dX1_addTerm_18 (fun H locs w => ?_)
    have h := h.2
    obtain ⟨u1, e_⟩ : ∃ y : Mm, y = s32 u 39 (u.1 696 0).toNatClampNeg a1 := ⟨_, rfl⟩
    rw [← e_] at w
    have h := h u1 e_
    refine lv_aload_n (pc := 19) hx hb dX1_addTerm_19 rfl (lv_at hl 0 rfl) ?_
    refine Cgf_37_3 (pc := 20) X w kw28 dX1_addTerm_20 ?_
    refine lv_aload_n (pc := 23) hx hb dX1_addTerm_23 rfl (lv_at hl 0 rfl) ?_
    refine Cgf_37_4 (pc := 24) X w kw26 dX1_addTerm_24 ?_
    refine lv_iload_n (pc := 27) hx hb dX1_addTerm_27 rfl (lv_at hl 2 rfl) ?_
    refine Cst_40 (pc := 28) X w h.1 dX1_addTerm_28 (fun H locs w => ?_)
    have h := h.2
    obtain ⟨u2, e_⟩ : ∃ y : Mm, y = s32 u1 40 (u1.1 696 0).toNatClampNeg a2 := ⟨_, rfl⟩
    rw [← e_] at w
    have h := h u2 e_
    refine lv_aload_n (pc := 29) hx hb dX1_addTerm_29 rfl (lv_at hl 0 rfl) ?_
    refine lv_dup (pc := 30) hx hb dX1_addTerm_30 rfl ?_
    refine Cgf_37_4 (pc := 31) X w kw26 dX1_addTerm_31 ?_
    refine lv_iconst (pc := 34) (v := (1 : Int32)) hx hb dX1_addTerm_34 (by decide) ?_
    refine lv_iadd (pc := 35) hx hb dX1_addTerm_35 ?_
    refine Cpf_37_4 (pc := 36) X w kw26 dX1_addTerm_36 (fun H locs w => ?_)
    obtain ⟨u3, e_⟩ : ∃ y : Mm, y = s32 u2 696 0 ((u2.1 696 0) + (1 : Int32)) := ⟨_, rfl⟩
    rw [← e_] at w
    have h := h u3 e_
    refine lv_iconst (pc := 39) (v := (-1 : Int32)) hx hb dX1_addTerm_39 (by decide) ?_
    exact Ciret (pc := 40) X w h dX1_addTerm_40
set_option maxHeartbeats 4000000 in
set_option maxRecDepth 100000 in
theorem okX1_addTerm_i1 (l : Launch) {D : va_G} {g : Nat → ClassId} {ad : Nat → Nat} (hJ : CJ ad) {u : Mm} {a1 : Int32} {a2 : Int32} {Q : Int32 → Mm → Prop} (h : wX1_addTerm 1 u a1 a2 Q) : Met l yX1_addTerm (Cond.code yX1_addTerm cX1_addTerm 3 (some .int) :: gt) ({ frames := 0, cells := 0, slots := 0, locals := 0 } : Room) (CPc D g ad u [.ref (ad 41), .int a1, .int a2]) (va_Qi Q (CB D g ad) (CA ad)) 0 0 (CA ad) := by
  refine Met.ofW (cc := cX1_addTerm) (maxL := 3) (ret := (some .int)) (by decide) rfl ?_
  intro p e s m args below meth c s₁ B hml hv
  refine Centry (own := RX1) B hml hv hJ rfl (Nat.le_of_ble_eq_true rfl) (fun ls H locs X w hl => ?_)
  obtain ⟨⟨hx, hb, hml, hown, hts⟩, hr, hlocks, hK, hJ, hAA⟩ := id X
  have hl : lv_has ls 3 [(0, .ref (ad 41)), (1, .int a1), (2, .int a2)] := hl
  unfold wX1_addTerm at h
  refine lv_aload_n (pc := 0) hx hb dX1_addTerm_0 rfl (lv_at hl 0 rfl) ?_
  refine Cgf_41_4 (pc := 1) X w kw26 dX1_addTerm_1 ?_
  refine lv_bipush (pc := 4) (v := (60 : Int32)) hx hb dX1_addTerm_4 (by decide) ?_
  refine lv_icmp_ge (pc := 6) (tgt := 39) hx hb dX1_addTerm_6 (by decide) (fun c_ => ?_) (fun c_ => ?_)
  · have h := h.1 c_
    refine lv_iconst (pc := 39) (v := (-1 : Int32)) hx hb dX1_addTerm_39 (by decide) ?_
    exact Ciret (pc := 40) X w h dX1_addTerm_40
  · have h := h.2 c_
    refine lv_aload_n (pc := 9) hx hb dX1_addTerm_9 rfl (lv_at hl 0 rfl) ?_
    refine Cgf_41_2 (pc := 10) X w kw27 dX1_addTerm_10 ?_
    refine lv_aload_n (pc := 13) hx hb dX1_addTerm_13 rfl (lv_at hl 0 rfl) ?_
    refine Cgf_41_4 (pc := 14) X w kw26 dX1_addTerm_14 ?_
    refine lv_iload_n (pc := 17) hx hb dX1_addTerm_17 rfl (lv_at hl 1 rfl) ?_
    refine Cst_43 (pc := 18) X w h.1 dX1_addTerm_18 (fun H locs w => ?_)
    have h := h.2
    obtain ⟨u1, e_⟩ : ∃ y : Mm, y = s32 u 43 (u.1 760 0).toNatClampNeg a1 := ⟨_, rfl⟩
    rw [← e_] at w
    have h := h u1 e_
    refine lv_aload_n (pc := 19) hx hb dX1_addTerm_19 rfl (lv_at hl 0 rfl) ?_
    refine Cgf_41_3 (pc := 20) X w kw28 dX1_addTerm_20 ?_
    refine lv_aload_n (pc := 23) hx hb dX1_addTerm_23 rfl (lv_at hl 0 rfl) ?_
    refine Cgf_41_4 (pc := 24) X w kw26 dX1_addTerm_24 ?_
    refine lv_iload_n (pc := 27) hx hb dX1_addTerm_27 rfl (lv_at hl 2 rfl) ?_
    refine Cst_44 (pc := 28) X w h.1 dX1_addTerm_28 (fun H locs w => ?_)
    have h := h.2
    obtain ⟨u2, e_⟩ : ∃ y : Mm, y = s32 u1 44 (u1.1 760 0).toNatClampNeg a2 := ⟨_, rfl⟩
    rw [← e_] at w
    have h := h u2 e_
    refine lv_aload_n (pc := 29) hx hb dX1_addTerm_29 rfl (lv_at hl 0 rfl) ?_
    refine lv_dup (pc := 30) hx hb dX1_addTerm_30 rfl ?_
    refine Cgf_41_4 (pc := 31) X w kw26 dX1_addTerm_31 ?_
    refine lv_iconst (pc := 34) (v := (1 : Int32)) hx hb dX1_addTerm_34 (by decide) ?_
    refine lv_iadd (pc := 35) hx hb dX1_addTerm_35 ?_
    refine Cpf_41_4 (pc := 36) X w kw26 dX1_addTerm_36 (fun H locs w => ?_)
    obtain ⟨u3, e_⟩ : ∃ y : Mm, y = s32 u2 760 0 ((u2.1 760 0) + (1 : Int32)) := ⟨_, rfl⟩
    rw [← e_] at w
    have h := h u3 e_
    refine lv_iconst (pc := 39) (v := (-1 : Int32)) hx hb dX1_addTerm_39 (by decide) ?_
    exact Ciret (pc := 40) X w h dX1_addTerm_40
set_option maxHeartbeats 4000000 in
set_option maxRecDepth 100000 in
theorem okX1_addTerm_i2 (l : Launch) {D : va_G} {g : Nat → ClassId} {ad : Nat → Nat} (hJ : CJ ad) {u : Mm} {a1 : Int32} {a2 : Int32} {Q : Int32 → Mm → Prop} (h : wX1_addTerm 2 u a1 a2 Q) : Met l yX1_addTerm (Cond.code yX1_addTerm cX1_addTerm 3 (some .int) :: gt) ({ frames := 0, cells := 0, slots := 0, locals := 0 } : Room) (CPc D g ad u [.ref (ad 45), .int a1, .int a2]) (va_Qi Q (CB D g ad) (CA ad)) 0 0 (CA ad) := by
  refine Met.ofW (cc := cX1_addTerm) (maxL := 3) (ret := (some .int)) (by decide) rfl ?_
  intro p e s m args below meth c s₁ B hml hv
  refine Centry (own := RX1) B hml hv hJ rfl (Nat.le_of_ble_eq_true rfl) (fun ls H locs X w hl => ?_)
  obtain ⟨⟨hx, hb, hml, hown, hts⟩, hr, hlocks, hK, hJ, hAA⟩ := id X
  have hl : lv_has ls 3 [(0, .ref (ad 45)), (1, .int a1), (2, .int a2)] := hl
  unfold wX1_addTerm at h
  refine lv_aload_n (pc := 0) hx hb dX1_addTerm_0 rfl (lv_at hl 0 rfl) ?_
  refine Cgf_45_4 (pc := 1) X w kw26 dX1_addTerm_1 ?_
  refine lv_bipush (pc := 4) (v := (60 : Int32)) hx hb dX1_addTerm_4 (by decide) ?_
  refine lv_icmp_ge (pc := 6) (tgt := 39) hx hb dX1_addTerm_6 (by decide) (fun c_ => ?_) (fun c_ => ?_)
  · have h := h.1 c_
    refine lv_iconst (pc := 39) (v := (-1 : Int32)) hx hb dX1_addTerm_39 (by decide) ?_
    exact Ciret (pc := 40) X w h dX1_addTerm_40
  · have h := h.2 c_
    refine lv_aload_n (pc := 9) hx hb dX1_addTerm_9 rfl (lv_at hl 0 rfl) ?_
    refine Cgf_45_2 (pc := 10) X w kw27 dX1_addTerm_10 ?_
    refine lv_aload_n (pc := 13) hx hb dX1_addTerm_13 rfl (lv_at hl 0 rfl) ?_
    refine Cgf_45_4 (pc := 14) X w kw26 dX1_addTerm_14 ?_
    refine lv_iload_n (pc := 17) hx hb dX1_addTerm_17 rfl (lv_at hl 1 rfl) ?_
    refine Cst_47 (pc := 18) X w h.1 dX1_addTerm_18 (fun H locs w => ?_)
    have h := h.2
    obtain ⟨u1, e_⟩ : ∃ y : Mm, y = s32 u 47 (u.1 824 0).toNatClampNeg a1 := ⟨_, rfl⟩
    rw [← e_] at w
    have h := h u1 e_
    refine lv_aload_n (pc := 19) hx hb dX1_addTerm_19 rfl (lv_at hl 0 rfl) ?_
    refine Cgf_45_3 (pc := 20) X w kw28 dX1_addTerm_20 ?_
    refine lv_aload_n (pc := 23) hx hb dX1_addTerm_23 rfl (lv_at hl 0 rfl) ?_
    refine Cgf_45_4 (pc := 24) X w kw26 dX1_addTerm_24 ?_
    refine lv_iload_n (pc := 27) hx hb dX1_addTerm_27 rfl (lv_at hl 2 rfl) ?_
    refine Cst_48 (pc := 28) X w h.1 dX1_addTerm_28 (fun H locs w => ?_)
    have h := h.2
    obtain ⟨u2, e_⟩ : ∃ y : Mm, y = s32 u1 48 (u1.1 824 0).toNatClampNeg a2 := ⟨_, rfl⟩
    rw [← e_] at w
    have h := h u2 e_
    refine lv_aload_n (pc := 29) hx hb dX1_addTerm_29 rfl (lv_at hl 0 rfl) ?_
    refine lv_dup (pc := 30) hx hb dX1_addTerm_30 rfl ?_
    refine Cgf_45_4 (pc := 31) X w kw26 dX1_addTerm_31 ?_
    refine lv_iconst (pc := 34) (v := (1 : Int32)) hx hb dX1_addTerm_34 (by decide) ?_
    refine lv_iadd (pc := 35) hx hb dX1_addTerm_35 ?_
    refine Cpf_45_4 (pc := 36) X w kw26 dX1_addTerm_36 (fun H locs w => ?_)
    obtain ⟨u3, e_⟩ : ∃ y : Mm, y = s32 u2 824 0 ((u2.1 824 0) + (1 : Int32)) := ⟨_, rfl⟩
    rw [← e_] at w
    have h := h u3 e_
    refine lv_iconst (pc := 39) (v := (-1 : Int32)) hx hb dX1_addTerm_39 (by decide) ?_
    exact Ciret (pc := 40) X w h dX1_addTerm_40
set_option maxHeartbeats 4000000 in
set_option maxRecDepth 100000 in
theorem okX1_addTerm_i3 (l : Launch) {D : va_G} {g : Nat → ClassId} {ad : Nat → Nat} (hJ : CJ ad) {u : Mm} {a1 : Int32} {a2 : Int32} {Q : Int32 → Mm → Prop} (h : wX1_addTerm 3 u a1 a2 Q) : Met l yX1_addTerm (Cond.code yX1_addTerm cX1_addTerm 3 (some .int) :: gt) ({ frames := 0, cells := 0, slots := 0, locals := 0 } : Room) (CPc D g ad u [.ref (ad 49), .int a1, .int a2]) (va_Qi Q (CB D g ad) (CA ad)) 0 0 (CA ad) := by
  refine Met.ofW (cc := cX1_addTerm) (maxL := 3) (ret := (some .int)) (by decide) rfl ?_
  intro p e s m args below meth c s₁ B hml hv
  refine Centry (own := RX1) B hml hv hJ rfl (Nat.le_of_ble_eq_true rfl) (fun ls H locs X w hl => ?_)
  obtain ⟨⟨hx, hb, hml, hown, hts⟩, hr, hlocks, hK, hJ, hAA⟩ := id X
  have hl : lv_has ls 3 [(0, .ref (ad 49)), (1, .int a1), (2, .int a2)] := hl
  unfold wX1_addTerm at h
  refine lv_aload_n (pc := 0) hx hb dX1_addTerm_0 rfl (lv_at hl 0 rfl) ?_
  refine Cgf_49_4 (pc := 1) X w kw26 dX1_addTerm_1 ?_
  refine lv_bipush (pc := 4) (v := (60 : Int32)) hx hb dX1_addTerm_4 (by decide) ?_
  refine lv_icmp_ge (pc := 6) (tgt := 39) hx hb dX1_addTerm_6 (by decide) (fun c_ => ?_) (fun c_ => ?_)
  · have h := h.1 c_
    refine lv_iconst (pc := 39) (v := (-1 : Int32)) hx hb dX1_addTerm_39 (by decide) ?_
    exact Ciret (pc := 40) X w h dX1_addTerm_40
  · have h := h.2 c_
    refine lv_aload_n (pc := 9) hx hb dX1_addTerm_9 rfl (lv_at hl 0 rfl) ?_
    refine Cgf_49_2 (pc := 10) X w kw27 dX1_addTerm_10 ?_
    refine lv_aload_n (pc := 13) hx hb dX1_addTerm_13 rfl (lv_at hl 0 rfl) ?_
    refine Cgf_49_4 (pc := 14) X w kw26 dX1_addTerm_14 ?_
    refine lv_iload_n (pc := 17) hx hb dX1_addTerm_17 rfl (lv_at hl 1 rfl) ?_
    refine Cst_51 (pc := 18) X w h.1 dX1_addTerm_18 (fun H locs w => ?_)
    have h := h.2
    obtain ⟨u1, e_⟩ : ∃ y : Mm, y = s32 u 51 (u.1 888 0).toNatClampNeg a1 := ⟨_, rfl⟩
    rw [← e_] at w
    have h := h u1 e_
    refine lv_aload_n (pc := 19) hx hb dX1_addTerm_19 rfl (lv_at hl 0 rfl) ?_
    refine Cgf_49_3 (pc := 20) X w kw28 dX1_addTerm_20 ?_
    refine lv_aload_n (pc := 23) hx hb dX1_addTerm_23 rfl (lv_at hl 0 rfl) ?_
    refine Cgf_49_4 (pc := 24) X w kw26 dX1_addTerm_24 ?_
    refine lv_iload_n (pc := 27) hx hb dX1_addTerm_27 rfl (lv_at hl 2 rfl) ?_
    refine Cst_52 (pc := 28) X w h.1 dX1_addTerm_28 (fun H locs w => ?_)
    have h := h.2
    obtain ⟨u2, e_⟩ : ∃ y : Mm, y = s32 u1 52 (u1.1 888 0).toNatClampNeg a2 := ⟨_, rfl⟩
    rw [← e_] at w
    have h := h u2 e_
    refine lv_aload_n (pc := 29) hx hb dX1_addTerm_29 rfl (lv_at hl 0 rfl) ?_
    refine lv_dup (pc := 30) hx hb dX1_addTerm_30 rfl ?_
    refine Cgf_49_4 (pc := 31) X w kw26 dX1_addTerm_31 ?_
    refine lv_iconst (pc := 34) (v := (1 : Int32)) hx hb dX1_addTerm_34 (by decide) ?_
    refine lv_iadd (pc := 35) hx hb dX1_addTerm_35 ?_
    refine Cpf_49_4 (pc := 36) X w kw26 dX1_addTerm_36 (fun H locs w => ?_)
    obtain ⟨u3, e_⟩ : ∃ y : Mm, y = s32 u2 888 0 ((u2.1 888 0) + (1 : Int32)) := ⟨_, rfl⟩
    rw [← e_] at w
    have h := h u3 e_
    refine lv_iconst (pc := 39) (v := (-1 : Int32)) hx hb dX1_addTerm_39 (by decide) ?_
    exact Ciret (pc := 40) X w h dX1_addTerm_40
set_option maxHeartbeats 4000000 in
set_option maxRecDepth 100000 in
theorem bX1_scanCell_i0_31 {l : Launch} {p : Program} {e : Env} {s : State} {m : MethodId} {args : Array Value} {below : List Frame} {meth : Method} {c : Code} {D : va_G} {g : Nat → ClassId} {ad : Nat → Nat} {Q : Int32 → Mm → Prop} (X : CX p s m args meth c cX1_scanCell RX1 6 (some .int) (Cond.code yX1_scanCell cX1_scanCell 6 (some .int)) D g ad (CA ad)) : ∀ (n : Nat) (u : Mm) (x1 : Int32) (x2 : Int32) (x3 : Int32) (H : Heap) (locs : List Loc) (ls : Array Slot), wX1_scanCell_b31 0 Q n u x1 x2 x3 → CWd D g ad (CA ad) s u H locs → lv_has ls 6 [(0, .ref (ad 37)), (1, .int x1), (2, .int x2), (3, .int x3)] → W p l e ({ frames := 2, cells := 0, slots := 0, locals := 43 } : Room) s m args below meth c H locs 0 0 (MQ below (va_Qi Q (CB D g ad) (CA ad)) args s 0 0 (CA ad)) (F0 m 31 ls []) := by
  obtain ⟨⟨hx, hb, hml, hown, hts⟩, hr, hlocks, hK, hJ, hAA⟩ := id X
  intro n
  induction n with
  | zero =>
    intro u x1 x2 x3 H locs ls h
    exact False.elim h
  | succ n ih =>
    intro u x1 x2 x3 H locs ls h w hl
    unfold wX1_scanCell_b31 at h
    refine lv_iload_n (pc := 31) hx hb dX1_scanCell_31 rfl (lv_at hl 3 rfl) ?_
    refine lv_iconst (pc := 32) (v := (3 : Int32)) hx hb dX1_scanCell_32 (by decide) ?_
    refine lv_icmp_ge (pc := 33) (tgt := 64) hx hb dX1_scanCell_33 (by decide) (fun c_ => ?_) (fun c_ => ?_)
    · have h := h.1 c_
      refine lv_aload_n (pc := 64) hx hb dX1_scanCell_64 rfl (lv_at hl 0 rfl) ?_
      refine Cgf_37_0 (pc := 65) X w kw12 dX1_scanCell_65 ?_
      refine lv_iload_n (pc := 68) hx hb dX1_scanCell_68 rfl (lv_at hl 2 rfl) ?_
      refine Cld_38 (pc := 69) X w h.1 dX1_scanCell_69 ?_
      have h := h.2
      refine lv_bipush (pc := 70) (v := (48 : Int32)) hx hb dX1_scanCell_70 (by decide) ?_
      refine lv_isub (pc := 72) hx hb dX1_scanCell_72 ?_
      refine lv_topi (fun x3_1 e_ => ?_)
      have h := h x3_1 e_
      refine lv_istore_n (pc := 73) (lv' := [(3, .int x3_1), (0, .ref (ad 37)), (1, .int x1), (2, .int x2)]) hx hb dX1_scanCell_73 rfl hl (by decide) rfl (fun ls hl => ?_)
      refine lv_aload_n (pc := 74) hx hb dX1_scanCell_74 rfl (lv_at hl 1 rfl) ?_
      refine Cgf_37_0 (pc := 75) X w kw12 dX1_scanCell_75 ?_
      refine lv_iload_n (pc := 78) hx hb dX1_scanCell_78 rfl (lv_at hl 3 rfl) ?_
      refine lv_iconst (pc := 79) (v := (1 : Int32)) hx hb dX1_scanCell_79 (by decide) ?_
      refine lv_iadd (pc := 80) hx hb dX1_scanCell_80 ?_
      refine Cld_38 (pc := 81) X w h.1 dX1_scanCell_81 ?_
      have h := h.2
      refine lv_bipush (pc := 82) (v := (48 : Int32)) hx hb dX1_scanCell_82 (by decide) ?_
      refine lv_isub (pc := 84) hx hb dX1_scanCell_84 ?_
      refine lv_topi (fun x4_2 e_ => ?_)
      have h := h x4_2 e_
      refine lv_istore (pc := 85) (lv' := [(4, .int x4_2), (3, .int x3_1), (0, .ref (ad 37)), (1, .int x1), (2, .int x2)]) hx hb dX1_scanCell_85 hl (by decide) rfl (fun ls hl => ?_)
      refine lv_aload_n (pc := 87) hx hb dX1_scanCell_87 rfl (lv_at hl 2 rfl) ?_
      refine Cgf_37_0 (pc := 88) X w kw12 dX1_scanCell_88 ?_
      refine lv_iload_n (pc := 91) hx hb dX1_scanCell_91 rfl (lv_at hl 4 rfl) ?_
      refine lv_iconst (pc := 92) (v := (2 : Int32)) hx hb dX1_scanCell_92 (by decide) ?_
      refine lv_iadd (pc := 93) hx hb dX1_scanCell_93 ?_
      refine Cld_38 (pc := 94) X w h.1 dX1_scanCell_94 ?_
      have h := h.2
      refine lv_bipush (pc := 95) (v := (48 : Int32)) hx hb dX1_scanCell_95 (by decide) ?_
      refine lv_isub (pc := 97) hx hb dX1_scanCell_97 ?_
      refine lv_topi (fun x5_3 e_ => ?_)
      have h := h x5_3 e_
      refine lv_istore (pc := 98) (lv' := [(5, .int x5_3), (4, .int x4_2), (3, .int x3_1), (0, .ref (ad 37)), (1, .int x1), (2, .int x2)]) hx hb dX1_scanCell_98 hl (by decide) rfl (fun ls hl => ?_)
      refine lv_iload_n (pc := 100) hx hb dX1_scanCell_100 rfl (lv_at hl 2 rfl) ?_
      refine lv_iload (pc := 101) hx hb dX1_scanCell_101 (lv_at hl 1 rfl) ?_
      refine lv_iload (pc := 103) hx hb dX1_scanCell_103 (lv_at hl 0 rfl) ?_
      refine Ccalli (rest := []) (CrunSN (pc := 105) X w (okX8_isLine l hJ h) (List.mem_of_getElem? (i := 11) rfl) kmX8_isLine ⟨rfl, rfl⟩ ⟨by decide, by decide⟩ rfl hl.1 rfl (Nat.le_of_ble_eq_true rfl) dX1_scanCell_105) w (fun r4 u9_ H locs h w => ?_)
      obtain ⟨hz_r4, h⟩ := h
      obtain ⟨rfl, h⟩ := h
      refine lv_if_eq (pc := 108) (tgt := 128) hx hb dX1_scanCell_108 (by decide) (fun c_ => ?_) (fun c_ => ?_)
      · have h := h.1 c_
        refine lv_iload_n (pc := 128) hx hb dX1_scanCell_128 rfl (lv_at hl 5 rfl) ?_
        exact Ciret (pc := 129) X w h dX1_scanCell_129
      · have h := h.2 c_
        refine lv_aload_n (pc := 111) hx hb dX1_scanCell_111 rfl (lv_at hl 3 rfl) ?_
        refine lv_iload_n (pc := 112) hx hb dX1_scanCell_112 rfl (lv_at hl 4 rfl) ?_
        refine lv_iload_n (pc := 113) hx hb dX1_scanCell_113 rfl (lv_at hl 2 rfl) ?_
        refine lv_iload (pc := 114) hx hb dX1_scanCell_114 (lv_at hl 1 rfl) ?_
        refine lv_iload (pc := 116) hx hb dX1_scanCell_116 (lv_at hl 0 rfl) ?_
        refine lv_iconst (pc := 118) (v := (0 : Int32)) hx hb dX1_scanCell_118 (by decide) ?_
        refine Ccalli (rest := [.int x1, .ref (ad 37)]) (CrunSN (pc := 119) X w (okX8_cellCode l hJ h) (List.mem_of_getElem? (i := 12) rfl) kmX8_cellCode ⟨rfl, rfl⟩ ⟨by decide, by decide⟩ rfl hl.1 rfl (Nat.le_of_ble_eq_true rfl) dX1_scanCell_119) w (fun r5 u9_ H locs h w => ?_)
        obtain ⟨rfl, h⟩ := h
        refine Ccalli (rest := []) (CrunV (pc := 122) X w (okX1_addTerm_i0 l hJ h) kw37 kmX1_addTerm ⟨rfl, rfl⟩ ⟨by decide, by decide⟩ (Crv_37 X w) rfl hl.1 rfl (Nat.le_of_ble_eq_true rfl) dX1_scanCell_122) w (fun r6 u7 H locs h w => ?_)
        refine lv_goto (pc := 125) (tgt := 129) hx hb dX1_scanCell_125 (by decide) ?_
        exact Ciret (pc := 129) X w h dX1_scanCell_129
    · have h := h.2 c_
      refine lv_aload_n (pc := 36) hx hb dX1_scanCell_36 rfl (lv_at hl 0 rfl) ?_
      refine Ccalli (rest := []) (CrunV (pc := 37) X w (okX1_isFigureNext_i0 l hJ h) kw18 kmX1_isFigureNext ⟨rfl, rfl⟩ ⟨by decide, by decide⟩ (Crv_37 X w) rfl hl.1 rfl (Nat.le_of_ble_eq_true rfl) dX1_scanCell_37) w (fun r8 u9_ H locs h w => ?_)
      obtain ⟨hz_r8, h⟩ := h
      obtain ⟨rfl, h⟩ := h
      refine lv_if_ne (pc := 40) (tgt := 48) hx hb dX1_scanCell_40 (by decide) (fun c_ => ?_) (fun c_ => ?_)
      · have h := h.2 c_
        refine lv_aload_n (pc := 48) hx hb dX1_scanCell_48 rfl (lv_at hl 0 rfl) ?_
        refine lv_dup (pc := 49) hx hb dX1_scanCell_49 rfl ?_
        refine Cgf_37_5 (pc := 50) X w kw14 dX1_scanCell_50 ?_
        refine lv_iconst (pc := 53) (v := (1 : Int32)) hx hb dX1_scanCell_53 (by decide) ?_
        refine lv_iadd (pc := 54) hx hb dX1_scanCell_54 ?_
        refine Cpf_37_5 (pc := 55) X w kw14 dX1_scanCell_55 (fun H locs w => ?_)
        obtain ⟨u9, e_⟩ : ∃ y : Mm, y = s32 u 697 0 ((u.1 697 0) + (1 : Int32)) := ⟨_, rfl⟩
        rw [← e_] at w
        have h := h u9 e_
        obtain ⟨x3_10, e_⟩ : ∃ y : Int32, y = x3 + (1 : Int32) := ⟨_, rfl⟩
        have h := h x3_10 e_
        refine lv_iinc (pc := 58) (v := x3_10) (lv' := [(3, .int x3_10), (0, .ref (ad 37)), (1, .int x1), (2, .int x2)]) hx hb dX1_scanCell_58 hl (k := 3) rfl (by rw [e_]; rfl) (by decide) rfl (fun ls hl => ?_)
        refine lv_goto (pc := 61) (tgt := 31) hx hb dX1_scanCell_61 (by decide) ?_
        exact ih u9 x1 x2 x3_10 H locs ls h w (lv_sub hl [1, 2, 3, 0] rfl)
      · have h := h.1 c_
        refine lv_aload_n (pc := 43) hx hb dX1_scanCell_43 rfl (lv_at hl 0 rfl) ?_
        refine Cgf_37_5 (pc := 44) X w kw14 dX1_scanCell_44 ?_
        exact Ciret (pc := 47) X w h dX1_scanCell_47
set_option maxHeartbeats 4000000 in
set_option maxRecDepth 100000 in
theorem okX1_scanCell_i0 (l : Launch) {D : va_G} {g : Nat → ClassId} {ad : Nat → Nat} (hJ : CJ ad) {u : Mm} {a1 : Int32} {Q : Int32 → Mm → Prop} (h : wX1_scanCell 0 u a1 Q) : Met l yX1_scanCell (Cond.code yX1_scanCell cX1_scanCell 6 (some .int) :: gt) ({ frames := 2, cells := 0, slots := 0, locals := 43 } : Room) (CPc D g ad u [.ref (ad 37), .int a1]) (va_Qi Q (CB D g ad) (CA ad)) 0 0 (CA ad) := by
  refine Met.ofW (cc := cX1_scanCell) (maxL := 6) (ret := (some .int)) (by decide) rfl ?_
  intro p e s m args below meth c s₁ B hml hv
  refine Centry (own := RX1) B hml hv hJ rfl (Nat.le_of_ble_eq_true rfl) (fun ls H locs X w hl => ?_)
  obtain ⟨⟨hx, hb, hml, hown, hts⟩, hr, hlocks, hK, hJ, hAA⟩ := id X
  have hl : lv_has ls 6 [(0, .ref (ad 37)), (1, .int a1)] := hl
  unfold wX1_scanCell at h
  refine lv_aload_n (pc := 0) hx hb dX1_scanCell_0 rfl (lv_at hl 0 rfl) ?_
  refine lv_bipush (pc := 1) (v := (99 : Int32)) hx hb dX1_scanCell_1 (by decide) ?_
  refine Ccalli (rest := []) (CrunV (pc := 3) X w (okX1_isNext_i0 l hJ h) kw29 kmX1_isNext ⟨rfl, rfl⟩ ⟨by decide, by decide⟩ (Crv_37 X w) rfl hl.1 rfl (Nat.le_of_ble_eq_true rfl) dX1_scanCell_3) w (fun r1 u9_ H locs h w => ?_)
  obtain ⟨hz_r1, h⟩ := h
  obtain ⟨rfl, h⟩ := h
  refine lv_if_ne (pc := 6) (tgt := 14) hx hb dX1_scanCell_6 (by decide) (fun c_ => ?_) (fun c_ => ?_)
  · have h := h.2 c_
    refine lv_aload_n (pc := 14) hx hb dX1_scanCell_14 rfl (lv_at hl 0 rfl) ?_
    refine lv_dup (pc := 15) hx hb dX1_scanCell_15 rfl ?_
    refine Cgf_37_5 (pc := 16) X w kw14 dX1_scanCell_16 ?_
    refine lv_iconst (pc := 19) (v := (1 : Int32)) hx hb dX1_scanCell_19 (by decide) ?_
    refine lv_iadd (pc := 20) hx hb dX1_scanCell_20 ?_
    refine Cpf_37_5 (pc := 21) X w kw14 dX1_scanCell_21 (fun H locs w => ?_)
    obtain ⟨u2, e_⟩ : ∃ y : Mm, y = s32 u 697 0 ((u.1 697 0) + (1 : Int32)) := ⟨_, rfl⟩
    rw [← e_] at w
    have h := h u2 e_
    refine lv_aload_n (pc := 24) hx hb dX1_scanCell_24 rfl (lv_at hl 0 rfl) ?_
    refine Cgf_37_5 (pc := 25) X w kw14 dX1_scanCell_25 ?_
    refine lv_topi (fun x2_3 e_ => ?_)
    have h := h x2_3 e_
    refine lv_istore_n (pc := 28) (lv' := [(2, .int x2_3), (0, .ref (ad 37)), (1, .int a1)]) hx hb dX1_scanCell_28 rfl hl (by decide) rfl (fun ls hl => ?_)
    refine lv_iconst (pc := 29) (v := (0 : Int32)) hx hb dX1_scanCell_29 (by decide) ?_
    refine lv_istore_n (pc := 30) (lv' := [(3, .int (0 : Int32)), (2, .int x2_3), (0, .ref (ad 37)), (1, .int a1)]) hx hb dX1_scanCell_30 rfl hl (by decide) rfl (fun ls hl => ?_)
    obtain ⟨n9, h⟩ := h
    exact bX1_scanCell_i0_31 X n9 u2 a1 x2_3 (0 : Int32) H locs ls h w (lv_sub hl [2, 3, 1, 0] rfl)
  · have h := h.1 c_
    refine lv_aload_n (pc := 9) hx hb dX1_scanCell_9 rfl (lv_at hl 0 rfl) ?_
    refine Cgf_37_5 (pc := 10) X w kw14 dX1_scanCell_10 ?_
    exact Ciret (pc := 13) X w h dX1_scanCell_13
set_option maxHeartbeats 4000000 in
set_option maxRecDepth 100000 in
theorem bX1_scanCell_i1_31 {l : Launch} {p : Program} {e : Env} {s : State} {m : MethodId} {args : Array Value} {below : List Frame} {meth : Method} {c : Code} {D : va_G} {g : Nat → ClassId} {ad : Nat → Nat} {Q : Int32 → Mm → Prop} (X : CX p s m args meth c cX1_scanCell RX1 6 (some .int) (Cond.code yX1_scanCell cX1_scanCell 6 (some .int)) D g ad (CA ad)) : ∀ (n : Nat) (u : Mm) (x1 : Int32) (x2 : Int32) (x3 : Int32) (H : Heap) (locs : List Loc) (ls : Array Slot), wX1_scanCell_b31 1 Q n u x1 x2 x3 → CWd D g ad (CA ad) s u H locs → lv_has ls 6 [(0, .ref (ad 41)), (1, .int x1), (2, .int x2), (3, .int x3)] → W p l e ({ frames := 2, cells := 0, slots := 0, locals := 43 } : Room) s m args below meth c H locs 0 0 (MQ below (va_Qi Q (CB D g ad) (CA ad)) args s 0 0 (CA ad)) (F0 m 31 ls []) := by
  obtain ⟨⟨hx, hb, hml, hown, hts⟩, hr, hlocks, hK, hJ, hAA⟩ := id X
  intro n
  induction n with
  | zero =>
    intro u x1 x2 x3 H locs ls h
    exact False.elim h
  | succ n ih =>
    intro u x1 x2 x3 H locs ls h w hl
    unfold wX1_scanCell_b31 at h
    refine lv_iload_n (pc := 31) hx hb dX1_scanCell_31 rfl (lv_at hl 3 rfl) ?_
    refine lv_iconst (pc := 32) (v := (3 : Int32)) hx hb dX1_scanCell_32 (by decide) ?_
    refine lv_icmp_ge (pc := 33) (tgt := 64) hx hb dX1_scanCell_33 (by decide) (fun c_ => ?_) (fun c_ => ?_)
    · have h := h.1 c_
      refine lv_aload_n (pc := 64) hx hb dX1_scanCell_64 rfl (lv_at hl 0 rfl) ?_
      refine Cgf_41_0 (pc := 65) X w kw12 dX1_scanCell_65 ?_
      refine lv_iload_n (pc := 68) hx hb dX1_scanCell_68 rfl (lv_at hl 2 rfl) ?_
      refine Cld_42 (pc := 69) X w h.1 dX1_scanCell_69 ?_
      have h := h.2
      refine lv_bipush (pc := 70) (v := (48 : Int32)) hx hb dX1_scanCell_70 (by decide) ?_
      refine lv_isub (pc := 72) hx hb dX1_scanCell_72 ?_
      refine lv_topi (fun x3_1 e_ => ?_)
      have h := h x3_1 e_
      refine lv_istore_n (pc := 73) (lv' := [(3, .int x3_1), (0, .ref (ad 41)), (1, .int x1), (2, .int x2)]) hx hb dX1_scanCell_73 rfl hl (by decide) rfl (fun ls hl => ?_)
      refine lv_aload_n (pc := 74) hx hb dX1_scanCell_74 rfl (lv_at hl 1 rfl) ?_
      refine Cgf_41_0 (pc := 75) X w kw12 dX1_scanCell_75 ?_
      refine lv_iload_n (pc := 78) hx hb dX1_scanCell_78 rfl (lv_at hl 3 rfl) ?_
      refine lv_iconst (pc := 79) (v := (1 : Int32)) hx hb dX1_scanCell_79 (by decide) ?_
      refine lv_iadd (pc := 80) hx hb dX1_scanCell_80 ?_
      refine Cld_42 (pc := 81) X w h.1 dX1_scanCell_81 ?_
      have h := h.2
      refine lv_bipush (pc := 82) (v := (48 : Int32)) hx hb dX1_scanCell_82 (by decide) ?_
      refine lv_isub (pc := 84) hx hb dX1_scanCell_84 ?_
      refine lv_topi (fun x4_2 e_ => ?_)
      have h := h x4_2 e_
      refine lv_istore (pc := 85) (lv' := [(4, .int x4_2), (3, .int x3_1), (0, .ref (ad 41)), (1, .int x1), (2, .int x2)]) hx hb dX1_scanCell_85 hl (by decide) rfl (fun ls hl => ?_)
      refine lv_aload_n (pc := 87) hx hb dX1_scanCell_87 rfl (lv_at hl 2 rfl) ?_
      refine Cgf_41_0 (pc := 88) X w kw12 dX1_scanCell_88 ?_
      refine lv_iload_n (pc := 91) hx hb dX1_scanCell_91 rfl (lv_at hl 4 rfl) ?_
      refine lv_iconst (pc := 92) (v := (2 : Int32)) hx hb dX1_scanCell_92 (by decide) ?_
      refine lv_iadd (pc := 93) hx hb dX1_scanCell_93 ?_
      refine Cld_42 (pc := 94) X w h.1 dX1_scanCell_94 ?_
      have h := h.2
      refine lv_bipush (pc := 95) (v := (48 : Int32)) hx hb dX1_scanCell_95 (by decide) ?_
      refine lv_isub (pc := 97) hx hb dX1_scanCell_97 ?_
      refine lv_topi (fun x5_3 e_ => ?_)
      have h := h x5_3 e_
      refine lv_istore (pc := 98) (lv' := [(5, .int x5_3), (4, .int x4_2), (3, .int x3_1), (0, .ref (ad 41)), (1, .int x1), (2, .int x2)]) hx hb dX1_scanCell_98 hl (by decide) rfl (fun ls hl => ?_)
      refine lv_iload_n (pc := 100) hx hb dX1_scanCell_100 rfl (lv_at hl 2 rfl) ?_
      refine lv_iload (pc := 101) hx hb dX1_scanCell_101 (lv_at hl 1 rfl) ?_
      refine lv_iload (pc := 103) hx hb dX1_scanCell_103 (lv_at hl 0 rfl) ?_
      refine Ccalli (rest := []) (CrunSN (pc := 105) X w (okX8_isLine l hJ h) (List.mem_of_getElem? (i := 11) rfl) kmX8_isLine ⟨rfl, rfl⟩ ⟨by decide, by decide⟩ rfl hl.1 rfl (Nat.le_of_ble_eq_true rfl) dX1_scanCell_105) w (fun r4 u9_ H locs h w => ?_)
      obtain ⟨hz_r4, h⟩ := h
      obtain ⟨rfl, h⟩ := h
      refine lv_if_eq (pc := 108) (tgt := 128) hx hb dX1_scanCell_108 (by decide) (fun c_ => ?_) (fun c_ => ?_)
      · have h := h.1 c_
        refine lv_iload_n (pc := 128) hx hb dX1_scanCell_128 rfl (lv_at hl 5 rfl) ?_
        exact Ciret (pc := 129) X w h dX1_scanCell_129
      · have h := h.2 c_
        refine lv_aload_n (pc := 111) hx hb dX1_scanCell_111 rfl (lv_at hl 3 rfl) ?_
        refine lv_iload_n (pc := 112) hx hb dX1_scanCell_112 rfl (lv_at hl 4 rfl) ?_
        refine lv_iload_n (pc := 113) hx hb dX1_scanCell_113 rfl (lv_at hl 2 rfl) ?_
        refine lv_iload (pc := 114) hx hb dX1_scanCell_114 (lv_at hl 1 rfl) ?_
        refine lv_iload (pc := 116) hx hb dX1_scanCell_116 (lv_at hl 0 rfl) ?_
        refine lv_iconst (pc := 118) (v := (0 : Int32)) hx hb dX1_scanCell_118 (by decide) ?_
        refine Ccalli (rest := [.int x1, .ref (ad 41)]) (CrunSN (pc := 119) X w (okX8_cellCode l hJ h) (List.mem_of_getElem? (i := 12) rfl) kmX8_cellCode ⟨rfl, rfl⟩ ⟨by decide, by decide⟩ rfl hl.1 rfl (Nat.le_of_ble_eq_true rfl) dX1_scanCell_119) w (fun r5 u9_ H locs h w => ?_)
        obtain ⟨rfl, h⟩ := h
        refine Ccalli (rest := []) (CrunV (pc := 122) X w (okX1_addTerm_i1 l hJ h) kw37 kmX1_addTerm ⟨rfl, rfl⟩ ⟨by decide, by decide⟩ (Crv_41 X w) rfl hl.1 rfl (Nat.le_of_ble_eq_true rfl) dX1_scanCell_122) w (fun r6 u7 H locs h w => ?_)
        refine lv_goto (pc := 125) (tgt := 129) hx hb dX1_scanCell_125 (by decide) ?_
        exact Ciret (pc := 129) X w h dX1_scanCell_129
    · have h := h.2 c_
      refine lv_aload_n (pc := 36) hx hb dX1_scanCell_36 rfl (lv_at hl 0 rfl) ?_
      refine Ccalli (rest := []) (CrunV (pc := 37) X w (okX1_isFigureNext_i1 l hJ h) kw18 kmX1_isFigureNext ⟨rfl, rfl⟩ ⟨by decide, by decide⟩ (Crv_41 X w) rfl hl.1 rfl (Nat.le_of_ble_eq_true rfl) dX1_scanCell_37) w (fun r8 u9_ H locs h w => ?_)
      obtain ⟨hz_r8, h⟩ := h
      obtain ⟨rfl, h⟩ := h
      refine lv_if_ne (pc := 40) (tgt := 48) hx hb dX1_scanCell_40 (by decide) (fun c_ => ?_) (fun c_ => ?_)
      · have h := h.2 c_
        refine lv_aload_n (pc := 48) hx hb dX1_scanCell_48 rfl (lv_at hl 0 rfl) ?_
        refine lv_dup (pc := 49) hx hb dX1_scanCell_49 rfl ?_
        refine Cgf_41_5 (pc := 50) X w kw14 dX1_scanCell_50 ?_
        refine lv_iconst (pc := 53) (v := (1 : Int32)) hx hb dX1_scanCell_53 (by decide) ?_
        refine lv_iadd (pc := 54) hx hb dX1_scanCell_54 ?_
        refine Cpf_41_5 (pc := 55) X w kw14 dX1_scanCell_55 (fun H locs w => ?_)
        obtain ⟨u9, e_⟩ : ∃ y : Mm, y = s32 u 761 0 ((u.1 761 0) + (1 : Int32)) := ⟨_, rfl⟩
        rw [← e_] at w
        have h := h u9 e_
        obtain ⟨x3_10, e_⟩ : ∃ y : Int32, y = x3 + (1 : Int32) := ⟨_, rfl⟩
        have h := h x3_10 e_
        refine lv_iinc (pc := 58) (v := x3_10) (lv' := [(3, .int x3_10), (0, .ref (ad 41)), (1, .int x1), (2, .int x2)]) hx hb dX1_scanCell_58 hl (k := 3) rfl (by rw [e_]; rfl) (by decide) rfl (fun ls hl => ?_)
        refine lv_goto (pc := 61) (tgt := 31) hx hb dX1_scanCell_61 (by decide) ?_
        exact ih u9 x1 x2 x3_10 H locs ls h w (lv_sub hl [1, 2, 3, 0] rfl)
      · have h := h.1 c_
        refine lv_aload_n (pc := 43) hx hb dX1_scanCell_43 rfl (lv_at hl 0 rfl) ?_
        refine Cgf_41_5 (pc := 44) X w kw14 dX1_scanCell_44 ?_
        exact Ciret (pc := 47) X w h dX1_scanCell_47
set_option maxHeartbeats 4000000 in
set_option maxRecDepth 100000 in
theorem okX1_scanCell_i1 (l : Launch) {D : va_G} {g : Nat → ClassId} {ad : Nat → Nat} (hJ : CJ ad) {u : Mm} {a1 : Int32} {Q : Int32 → Mm → Prop} (h : wX1_scanCell 1 u a1 Q) : Met l yX1_scanCell (Cond.code yX1_scanCell cX1_scanCell 6 (some .int) :: gt) ({ frames := 2, cells := 0, slots := 0, locals := 43 } : Room) (CPc D g ad u [.ref (ad 41), .int a1]) (va_Qi Q (CB D g ad) (CA ad)) 0 0 (CA ad) := by
  refine Met.ofW (cc := cX1_scanCell) (maxL := 6) (ret := (some .int)) (by decide) rfl ?_
  intro p e s m args below meth c s₁ B hml hv
  refine Centry (own := RX1) B hml hv hJ rfl (Nat.le_of_ble_eq_true rfl) (fun ls H locs X w hl => ?_)
  obtain ⟨⟨hx, hb, hml, hown, hts⟩, hr, hlocks, hK, hJ, hAA⟩ := id X
  have hl : lv_has ls 6 [(0, .ref (ad 41)), (1, .int a1)] := hl
  unfold wX1_scanCell at h
  refine lv_aload_n (pc := 0) hx hb dX1_scanCell_0 rfl (lv_at hl 0 rfl) ?_
  refine lv_bipush (pc := 1) (v := (99 : Int32)) hx hb dX1_scanCell_1 (by decide) ?_
  refine Ccalli (rest := []) (CrunV (pc := 3) X w (okX1_isNext_i1 l hJ h) kw29 kmX1_isNext ⟨rfl, rfl⟩ ⟨by decide, by decide⟩ (Crv_41 X w) rfl hl.1 rfl (Nat.le_of_ble_eq_true rfl) dX1_scanCell_3) w (fun r1 u9_ H locs h w => ?_)
  obtain ⟨hz_r1, h⟩ := h
  obtain ⟨rfl, h⟩ := h
  refine lv_if_ne (pc := 6) (tgt := 14) hx hb dX1_scanCell_6 (by decide) (fun c_ => ?_) (fun c_ => ?_)
  · have h := h.2 c_
    refine lv_aload_n (pc := 14) hx hb dX1_scanCell_14 rfl (lv_at hl 0 rfl) ?_
    refine lv_dup (pc := 15) hx hb dX1_scanCell_15 rfl ?_
    refine Cgf_41_5 (pc := 16) X w kw14 dX1_scanCell_16 ?_
    refine lv_iconst (pc := 19) (v := (1 : Int32)) hx hb dX1_scanCell_19 (by decide) ?_
    refine lv_iadd (pc := 20) hx hb dX1_scanCell_20 ?_
    refine Cpf_41_5 (pc := 21) X w kw14 dX1_scanCell_21 (fun H locs w => ?_)
    obtain ⟨u2, e_⟩ : ∃ y : Mm, y = s32 u 761 0 ((u.1 761 0) + (1 : Int32)) := ⟨_, rfl⟩
    rw [← e_] at w
    have h := h u2 e_
    refine lv_aload_n (pc := 24) hx hb dX1_scanCell_24 rfl (lv_at hl 0 rfl) ?_
    refine Cgf_41_5 (pc := 25) X w kw14 dX1_scanCell_25 ?_
    refine lv_topi (fun x2_3 e_ => ?_)
    have h := h x2_3 e_
    refine lv_istore_n (pc := 28) (lv' := [(2, .int x2_3), (0, .ref (ad 41)), (1, .int a1)]) hx hb dX1_scanCell_28 rfl hl (by decide) rfl (fun ls hl => ?_)
    refine lv_iconst (pc := 29) (v := (0 : Int32)) hx hb dX1_scanCell_29 (by decide) ?_
    refine lv_istore_n (pc := 30) (lv' := [(3, .int (0 : Int32)), (2, .int x2_3), (0, .ref (ad 41)), (1, .int a1)]) hx hb dX1_scanCell_30 rfl hl (by decide) rfl (fun ls hl => ?_)
    obtain ⟨n9, h⟩ := h
    exact bX1_scanCell_i1_31 X n9 u2 a1 x2_3 (0 : Int32) H locs ls h w (lv_sub hl [2, 3, 1, 0] rfl)
  · have h := h.1 c_
    refine lv_aload_n (pc := 9) hx hb dX1_scanCell_9 rfl (lv_at hl 0 rfl) ?_
    refine Cgf_41_5 (pc := 10) X w kw14 dX1_scanCell_10 ?_
    exact Ciret (pc := 13) X w h dX1_scanCell_13
set_option maxHeartbeats 4000000 in
set_option maxRecDepth 100000 in
theorem bX1_scanCell_i2_31 {l : Launch} {p : Program} {e : Env} {s : State} {m : MethodId} {args : Array Value} {below : List Frame} {meth : Method} {c : Code} {D : va_G} {g : Nat → ClassId} {ad : Nat → Nat} {Q : Int32 → Mm → Prop} (X : CX p s m args meth c cX1_scanCell RX1 6 (some .int) (Cond.code yX1_scanCell cX1_scanCell 6 (some .int)) D g ad (CA ad)) : ∀ (n : Nat) (u : Mm) (x1 : Int32) (x2 : Int32) (x3 : Int32) (H : Heap) (locs : List Loc) (ls : Array Slot), wX1_scanCell_b31 2 Q n u x1 x2 x3 → CWd D g ad (CA ad) s u H locs → lv_has ls 6 [(0, .ref (ad 45)), (1, .int x1), (2, .int x2), (3, .int x3)] → W p l e ({ frames := 2, cells := 0, slots := 0, locals := 43 } : Room) s m args below meth c H locs 0 0 (MQ below (va_Qi Q (CB D g ad) (CA ad)) args s 0 0 (CA ad)) (F0 m 31 ls []) := by
  obtain ⟨⟨hx, hb, hml, hown, hts⟩, hr, hlocks, hK, hJ, hAA⟩ := id X
  intro n
  induction n with
  | zero =>
    intro u x1 x2 x3 H locs ls h
    exact False.elim h
  | succ n ih =>
    intro u x1 x2 x3 H locs ls h w hl
    unfold wX1_scanCell_b31 at h
    refine lv_iload_n (pc := 31) hx hb dX1_scanCell_31 rfl (lv_at hl 3 rfl) ?_
    refine lv_iconst (pc := 32) (v := (3 : Int32)) hx hb dX1_scanCell_32 (by decide) ?_
    refine lv_icmp_ge (pc := 33) (tgt := 64) hx hb dX1_scanCell_33 (by decide) (fun c_ => ?_) (fun c_ => ?_)
    · have h := h.1 c_
      refine lv_aload_n (pc := 64) hx hb dX1_scanCell_64 rfl (lv_at hl 0 rfl) ?_
      refine Cgf_45_0 (pc := 65) X w kw12 dX1_scanCell_65 ?_
      refine lv_iload_n (pc := 68) hx hb dX1_scanCell_68 rfl (lv_at hl 2 rfl) ?_
      refine Cld_46 (pc := 69) X w h.1 dX1_scanCell_69 ?_
      have h := h.2
      refine lv_bipush (pc := 70) (v := (48 : Int32)) hx hb dX1_scanCell_70 (by decide) ?_
      refine lv_isub (pc := 72) hx hb dX1_scanCell_72 ?_
      refine lv_topi (fun x3_1 e_ => ?_)
      have h := h x3_1 e_
      refine lv_istore_n (pc := 73) (lv' := [(3, .int x3_1), (0, .ref (ad 45)), (1, .int x1), (2, .int x2)]) hx hb dX1_scanCell_73 rfl hl (by decide) rfl (fun ls hl => ?_)
      refine lv_aload_n (pc := 74) hx hb dX1_scanCell_74 rfl (lv_at hl 1 rfl) ?_
      refine Cgf_45_0 (pc := 75) X w kw12 dX1_scanCell_75 ?_
      refine lv_iload_n (pc := 78) hx hb dX1_scanCell_78 rfl (lv_at hl 3 rfl) ?_
      refine lv_iconst (pc := 79) (v := (1 : Int32)) hx hb dX1_scanCell_79 (by decide) ?_
      refine lv_iadd (pc := 80) hx hb dX1_scanCell_80 ?_
      refine Cld_46 (pc := 81) X w h.1 dX1_scanCell_81 ?_
      have h := h.2
      refine lv_bipush (pc := 82) (v := (48 : Int32)) hx hb dX1_scanCell_82 (by decide) ?_
      refine lv_isub (pc := 84) hx hb dX1_scanCell_84 ?_
      refine lv_topi (fun x4_2 e_ => ?_)
      have h := h x4_2 e_
      refine lv_istore (pc := 85) (lv' := [(4, .int x4_2), (3, .int x3_1), (0, .ref (ad 45)), (1, .int x1), (2, .int x2)]) hx hb dX1_scanCell_85 hl (by decide) rfl (fun ls hl => ?_)
      refine lv_aload_n (pc := 87) hx hb dX1_scanCell_87 rfl (lv_at hl 2 rfl) ?_
      refine Cgf_45_0 (pc := 88) X w kw12 dX1_scanCell_88 ?_
      refine lv_iload_n (pc := 91) hx hb dX1_scanCell_91 rfl (lv_at hl 4 rfl) ?_
      refine lv_iconst (pc := 92) (v := (2 : Int32)) hx hb dX1_scanCell_92 (by decide) ?_
      refine lv_iadd (pc := 93) hx hb dX1_scanCell_93 ?_
      refine Cld_46 (pc := 94) X w h.1 dX1_scanCell_94 ?_
      have h := h.2
      refine lv_bipush (pc := 95) (v := (48 : Int32)) hx hb dX1_scanCell_95 (by decide) ?_
      refine lv_isub (pc := 97) hx hb dX1_scanCell_97 ?_
      refine lv_topi (fun x5_3 e_ => ?_)
      have h := h x5_3 e_
      refine lv_istore (pc := 98) (lv' := [(5, .int x5_3), (4, .int x4_2), (3, .int x3_1), (0, .ref (ad 45)), (1, .int x1), (2, .int x2)]) hx hb dX1_scanCell_98 hl (by decide) rfl (fun ls hl => ?_)
      refine lv_iload_n (pc := 100) hx hb dX1_scanCell_100 rfl (lv_at hl 2 rfl) ?_
      refine lv_iload (pc := 101) hx hb dX1_scanCell_101 (lv_at hl 1 rfl) ?_
      refine lv_iload (pc := 103) hx hb dX1_scanCell_103 (lv_at hl 0 rfl) ?_
      refine Ccalli (rest := []) (CrunSN (pc := 105) X w (okX8_isLine l hJ h) (List.mem_of_getElem? (i := 11) rfl) kmX8_isLine ⟨rfl, rfl⟩ ⟨by decide, by decide⟩ rfl hl.1 rfl (Nat.le_of_ble_eq_true rfl) dX1_scanCell_105) w (fun r4 u9_ H locs h w => ?_)
      obtain ⟨hz_r4, h⟩ := h
      obtain ⟨rfl, h⟩ := h
      refine lv_if_eq (pc := 108) (tgt := 128) hx hb dX1_scanCell_108 (by decide) (fun c_ => ?_) (fun c_ => ?_)
      · have h := h.1 c_
        refine lv_iload_n (pc := 128) hx hb dX1_scanCell_128 rfl (lv_at hl 5 rfl) ?_
        exact Ciret (pc := 129) X w h dX1_scanCell_129
      · have h := h.2 c_
        refine lv_aload_n (pc := 111) hx hb dX1_scanCell_111 rfl (lv_at hl 3 rfl) ?_
        refine lv_iload_n (pc := 112) hx hb dX1_scanCell_112 rfl (lv_at hl 4 rfl) ?_
        refine lv_iload_n (pc := 113) hx hb dX1_scanCell_113 rfl (lv_at hl 2 rfl) ?_
        refine lv_iload (pc := 114) hx hb dX1_scanCell_114 (lv_at hl 1 rfl) ?_
        refine lv_iload (pc := 116) hx hb dX1_scanCell_116 (lv_at hl 0 rfl) ?_
        refine lv_iconst (pc := 118) (v := (0 : Int32)) hx hb dX1_scanCell_118 (by decide) ?_
        refine Ccalli (rest := [.int x1, .ref (ad 45)]) (CrunSN (pc := 119) X w (okX8_cellCode l hJ h) (List.mem_of_getElem? (i := 12) rfl) kmX8_cellCode ⟨rfl, rfl⟩ ⟨by decide, by decide⟩ rfl hl.1 rfl (Nat.le_of_ble_eq_true rfl) dX1_scanCell_119) w (fun r5 u9_ H locs h w => ?_)
        obtain ⟨rfl, h⟩ := h
        refine Ccalli (rest := []) (CrunV (pc := 122) X w (okX1_addTerm_i2 l hJ h) kw37 kmX1_addTerm ⟨rfl, rfl⟩ ⟨by decide, by decide⟩ (Crv_45 X w) rfl hl.1 rfl (Nat.le_of_ble_eq_true rfl) dX1_scanCell_122) w (fun r6 u7 H locs h w => ?_)
        refine lv_goto (pc := 125) (tgt := 129) hx hb dX1_scanCell_125 (by decide) ?_
        exact Ciret (pc := 129) X w h dX1_scanCell_129
    · have h := h.2 c_
      refine lv_aload_n (pc := 36) hx hb dX1_scanCell_36 rfl (lv_at hl 0 rfl) ?_
      refine Ccalli (rest := []) (CrunV (pc := 37) X w (okX1_isFigureNext_i2 l hJ h) kw18 kmX1_isFigureNext ⟨rfl, rfl⟩ ⟨by decide, by decide⟩ (Crv_45 X w) rfl hl.1 rfl (Nat.le_of_ble_eq_true rfl) dX1_scanCell_37) w (fun r8 u9_ H locs h w => ?_)
      obtain ⟨hz_r8, h⟩ := h
      obtain ⟨rfl, h⟩ := h
      refine lv_if_ne (pc := 40) (tgt := 48) hx hb dX1_scanCell_40 (by decide) (fun c_ => ?_) (fun c_ => ?_)
      · have h := h.2 c_
        refine lv_aload_n (pc := 48) hx hb dX1_scanCell_48 rfl (lv_at hl 0 rfl) ?_
        refine lv_dup (pc := 49) hx hb dX1_scanCell_49 rfl ?_
        refine Cgf_45_5 (pc := 50) X w kw14 dX1_scanCell_50 ?_
        refine lv_iconst (pc := 53) (v := (1 : Int32)) hx hb dX1_scanCell_53 (by decide) ?_
        refine lv_iadd (pc := 54) hx hb dX1_scanCell_54 ?_
        refine Cpf_45_5 (pc := 55) X w kw14 dX1_scanCell_55 (fun H locs w => ?_)
        obtain ⟨u9, e_⟩ : ∃ y : Mm, y = s32 u 825 0 ((u.1 825 0) + (1 : Int32)) := ⟨_, rfl⟩
        rw [← e_] at w
        have h := h u9 e_
        obtain ⟨x3_10, e_⟩ : ∃ y : Int32, y = x3 + (1 : Int32) := ⟨_, rfl⟩
        have h := h x3_10 e_
        refine lv_iinc (pc := 58) (v := x3_10) (lv' := [(3, .int x3_10), (0, .ref (ad 45)), (1, .int x1), (2, .int x2)]) hx hb dX1_scanCell_58 hl (k := 3) rfl (by rw [e_]; rfl) (by decide) rfl (fun ls hl => ?_)
        refine lv_goto (pc := 61) (tgt := 31) hx hb dX1_scanCell_61 (by decide) ?_
        exact ih u9 x1 x2 x3_10 H locs ls h w (lv_sub hl [1, 2, 3, 0] rfl)
      · have h := h.1 c_
        refine lv_aload_n (pc := 43) hx hb dX1_scanCell_43 rfl (lv_at hl 0 rfl) ?_
        refine Cgf_45_5 (pc := 44) X w kw14 dX1_scanCell_44 ?_
        exact Ciret (pc := 47) X w h dX1_scanCell_47
set_option maxHeartbeats 4000000 in
set_option maxRecDepth 100000 in
theorem okX1_scanCell_i2 (l : Launch) {D : va_G} {g : Nat → ClassId} {ad : Nat → Nat} (hJ : CJ ad) {u : Mm} {a1 : Int32} {Q : Int32 → Mm → Prop} (h : wX1_scanCell 2 u a1 Q) : Met l yX1_scanCell (Cond.code yX1_scanCell cX1_scanCell 6 (some .int) :: gt) ({ frames := 2, cells := 0, slots := 0, locals := 43 } : Room) (CPc D g ad u [.ref (ad 45), .int a1]) (va_Qi Q (CB D g ad) (CA ad)) 0 0 (CA ad) := by
  refine Met.ofW (cc := cX1_scanCell) (maxL := 6) (ret := (some .int)) (by decide) rfl ?_
  intro p e s m args below meth c s₁ B hml hv
  refine Centry (own := RX1) B hml hv hJ rfl (Nat.le_of_ble_eq_true rfl) (fun ls H locs X w hl => ?_)
  obtain ⟨⟨hx, hb, hml, hown, hts⟩, hr, hlocks, hK, hJ, hAA⟩ := id X
  have hl : lv_has ls 6 [(0, .ref (ad 45)), (1, .int a1)] := hl
  unfold wX1_scanCell at h
  refine lv_aload_n (pc := 0) hx hb dX1_scanCell_0 rfl (lv_at hl 0 rfl) ?_
  refine lv_bipush (pc := 1) (v := (99 : Int32)) hx hb dX1_scanCell_1 (by decide) ?_
  refine Ccalli (rest := []) (CrunV (pc := 3) X w (okX1_isNext_i2 l hJ h) kw29 kmX1_isNext ⟨rfl, rfl⟩ ⟨by decide, by decide⟩ (Crv_45 X w) rfl hl.1 rfl (Nat.le_of_ble_eq_true rfl) dX1_scanCell_3) w (fun r1 u9_ H locs h w => ?_)
  obtain ⟨hz_r1, h⟩ := h
  obtain ⟨rfl, h⟩ := h
  refine lv_if_ne (pc := 6) (tgt := 14) hx hb dX1_scanCell_6 (by decide) (fun c_ => ?_) (fun c_ => ?_)
  · have h := h.2 c_
    refine lv_aload_n (pc := 14) hx hb dX1_scanCell_14 rfl (lv_at hl 0 rfl) ?_
    refine lv_dup (pc := 15) hx hb dX1_scanCell_15 rfl ?_
    refine Cgf_45_5 (pc := 16) X w kw14 dX1_scanCell_16 ?_
    refine lv_iconst (pc := 19) (v := (1 : Int32)) hx hb dX1_scanCell_19 (by decide) ?_
    refine lv_iadd (pc := 20) hx hb dX1_scanCell_20 ?_
    refine Cpf_45_5 (pc := 21) X w kw14 dX1_scanCell_21 (fun H locs w => ?_)
    obtain ⟨u2, e_⟩ : ∃ y : Mm, y = s32 u 825 0 ((u.1 825 0) + (1 : Int32)) := ⟨_, rfl⟩
    rw [← e_] at w
    have h := h u2 e_
    refine lv_aload_n (pc := 24) hx hb dX1_scanCell_24 rfl (lv_at hl 0 rfl) ?_
    refine Cgf_45_5 (pc := 25) X w kw14 dX1_scanCell_25 ?_
    refine lv_topi (fun x2_3 e_ => ?_)
    have h := h x2_3 e_
    refine lv_istore_n (pc := 28) (lv' := [(2, .int x2_3), (0, .ref (ad 45)), (1, .int a1)]) hx hb dX1_scanCell_28 rfl hl (by decide) rfl (fun ls hl => ?_)
    refine lv_iconst (pc := 29) (v := (0 : Int32)) hx hb dX1_scanCell_29 (by decide) ?_
    refine lv_istore_n (pc := 30) (lv' := [(3, .int (0 : Int32)), (2, .int x2_3), (0, .ref (ad 45)), (1, .int a1)]) hx hb dX1_scanCell_30 rfl hl (by decide) rfl (fun ls hl => ?_)
    obtain ⟨n9, h⟩ := h
    exact bX1_scanCell_i2_31 X n9 u2 a1 x2_3 (0 : Int32) H locs ls h w (lv_sub hl [2, 3, 1, 0] rfl)
  · have h := h.1 c_
    refine lv_aload_n (pc := 9) hx hb dX1_scanCell_9 rfl (lv_at hl 0 rfl) ?_
    refine Cgf_45_5 (pc := 10) X w kw14 dX1_scanCell_10 ?_
    exact Ciret (pc := 13) X w h dX1_scanCell_13
set_option maxHeartbeats 4000000 in
set_option maxRecDepth 100000 in
theorem bX1_scanCell_i3_31 {l : Launch} {p : Program} {e : Env} {s : State} {m : MethodId} {args : Array Value} {below : List Frame} {meth : Method} {c : Code} {D : va_G} {g : Nat → ClassId} {ad : Nat → Nat} {Q : Int32 → Mm → Prop} (X : CX p s m args meth c cX1_scanCell RX1 6 (some .int) (Cond.code yX1_scanCell cX1_scanCell 6 (some .int)) D g ad (CA ad)) : ∀ (n : Nat) (u : Mm) (x1 : Int32) (x2 : Int32) (x3 : Int32) (H : Heap) (locs : List Loc) (ls : Array Slot), wX1_scanCell_b31 3 Q n u x1 x2 x3 → CWd D g ad (CA ad) s u H locs → lv_has ls 6 [(0, .ref (ad 49)), (1, .int x1), (2, .int x2), (3, .int x3)] → W p l e ({ frames := 2, cells := 0, slots := 0, locals := 43 } : Room) s m args below meth c H locs 0 0 (MQ below (va_Qi Q (CB D g ad) (CA ad)) args s 0 0 (CA ad)) (F0 m 31 ls []) := by
  obtain ⟨⟨hx, hb, hml, hown, hts⟩, hr, hlocks, hK, hJ, hAA⟩ := id X
  intro n
  induction n with
  | zero =>
    intro u x1 x2 x3 H locs ls h
    exact False.elim h
  | succ n ih =>
    intro u x1 x2 x3 H locs ls h w hl
    unfold wX1_scanCell_b31 at h
    refine lv_iload_n (pc := 31) hx hb dX1_scanCell_31 rfl (lv_at hl 3 rfl) ?_
    refine lv_iconst (pc := 32) (v := (3 : Int32)) hx hb dX1_scanCell_32 (by decide) ?_
    refine lv_icmp_ge (pc := 33) (tgt := 64) hx hb dX1_scanCell_33 (by decide) (fun c_ => ?_) (fun c_ => ?_)
    · have h := h.1 c_
      refine lv_aload_n (pc := 64) hx hb dX1_scanCell_64 rfl (lv_at hl 0 rfl) ?_
      refine Cgf_49_0 (pc := 65) X w kw12 dX1_scanCell_65 ?_
      refine lv_iload_n (pc := 68) hx hb dX1_scanCell_68 rfl (lv_at hl 2 rfl) ?_
      refine Cld_50 (pc := 69) X w h.1 dX1_scanCell_69 ?_
      have h := h.2
      refine lv_bipush (pc := 70) (v := (48 : Int32)) hx hb dX1_scanCell_70 (by decide) ?_
      refine lv_isub (pc := 72) hx hb dX1_scanCell_72 ?_
      refine lv_topi (fun x3_1 e_ => ?_)
      have h := h x3_1 e_
      refine lv_istore_n (pc := 73) (lv' := [(3, .int x3_1), (0, .ref (ad 49)), (1, .int x1), (2, .int x2)]) hx hb dX1_scanCell_73 rfl hl (by decide) rfl (fun ls hl => ?_)
      refine lv_aload_n (pc := 74) hx hb dX1_scanCell_74 rfl (lv_at hl 1 rfl) ?_
      refine Cgf_49_0 (pc := 75) X w kw12 dX1_scanCell_75 ?_
      refine lv_iload_n (pc := 78) hx hb dX1_scanCell_78 rfl (lv_at hl 3 rfl) ?_
      refine lv_iconst (pc := 79) (v := (1 : Int32)) hx hb dX1_scanCell_79 (by decide) ?_
      refine lv_iadd (pc := 80) hx hb dX1_scanCell_80 ?_
      refine Cld_50 (pc := 81) X w h.1 dX1_scanCell_81 ?_
      have h := h.2
      refine lv_bipush (pc := 82) (v := (48 : Int32)) hx hb dX1_scanCell_82 (by decide) ?_
      refine lv_isub (pc := 84) hx hb dX1_scanCell_84 ?_
      refine lv_topi (fun x4_2 e_ => ?_)
      have h := h x4_2 e_
      refine lv_istore (pc := 85) (lv' := [(4, .int x4_2), (3, .int x3_1), (0, .ref (ad 49)), (1, .int x1), (2, .int x2)]) hx hb dX1_scanCell_85 hl (by decide) rfl (fun ls hl => ?_)
      refine lv_aload_n (pc := 87) hx hb dX1_scanCell_87 rfl (lv_at hl 2 rfl) ?_
      refine Cgf_49_0 (pc := 88) X w kw12 dX1_scanCell_88 ?_
      refine lv_iload_n (pc := 91) hx hb dX1_scanCell_91 rfl (lv_at hl 4 rfl) ?_
      refine lv_iconst (pc := 92) (v := (2 : Int32)) hx hb dX1_scanCell_92 (by decide) ?_
      refine lv_iadd (pc := 93) hx hb dX1_scanCell_93 ?_
      refine Cld_50 (pc := 94) X w h.1 dX1_scanCell_94 ?_
      have h := h.2
      refine lv_bipush (pc := 95) (v := (48 : Int32)) hx hb dX1_scanCell_95 (by decide) ?_
      refine lv_isub (pc := 97) hx hb dX1_scanCell_97 ?_
      refine lv_topi (fun x5_3 e_ => ?_)
      have h := h x5_3 e_
      refine lv_istore (pc := 98) (lv' := [(5, .int x5_3), (4, .int x4_2), (3, .int x3_1), (0, .ref (ad 49)), (1, .int x1), (2, .int x2)]) hx hb dX1_scanCell_98 hl (by decide) rfl (fun ls hl => ?_)
      refine lv_iload_n (pc := 100) hx hb dX1_scanCell_100 rfl (lv_at hl 2 rfl) ?_
      refine lv_iload (pc := 101) hx hb dX1_scanCell_101 (lv_at hl 1 rfl) ?_
      refine lv_iload (pc := 103) hx hb dX1_scanCell_103 (lv_at hl 0 rfl) ?_
      refine Ccalli (rest := []) (CrunSN (pc := 105) X w (okX8_isLine l hJ h) (List.mem_of_getElem? (i := 11) rfl) kmX8_isLine ⟨rfl, rfl⟩ ⟨by decide, by decide⟩ rfl hl.1 rfl (Nat.le_of_ble_eq_true rfl) dX1_scanCell_105) w (fun r4 u9_ H locs h w => ?_)
      obtain ⟨hz_r4, h⟩ := h
      obtain ⟨rfl, h⟩ := h
      refine lv_if_eq (pc := 108) (tgt := 128) hx hb dX1_scanCell_108 (by decide) (fun c_ => ?_) (fun c_ => ?_)
      · have h := h.1 c_
        refine lv_iload_n (pc := 128) hx hb dX1_scanCell_128 rfl (lv_at hl 5 rfl) ?_
        exact Ciret (pc := 129) X w h dX1_scanCell_129
      · have h := h.2 c_
        refine lv_aload_n (pc := 111) hx hb dX1_scanCell_111 rfl (lv_at hl 3 rfl) ?_
        refine lv_iload_n (pc := 112) hx hb dX1_scanCell_112 rfl (lv_at hl 4 rfl) ?_
        refine lv_iload_n (pc := 113) hx hb dX1_scanCell_113 rfl (lv_at hl 2 rfl) ?_
        refine lv_iload (pc := 114) hx hb dX1_scanCell_114 (lv_at hl 1 rfl) ?_
        refine lv_iload (pc := 116) hx hb dX1_scanCell_116 (lv_at hl 0 rfl) ?_
        refine lv_iconst (pc := 118) (v := (0 : Int32)) hx hb dX1_scanCell_118 (by decide) ?_
        refine Ccalli (rest := [.int x1, .ref (ad 49)]) (CrunSN (pc := 119) X w (okX8_cellCode l hJ h) (List.mem_of_getElem? (i := 12) rfl) kmX8_cellCode ⟨rfl, rfl⟩ ⟨by decide, by decide⟩ rfl hl.1 rfl (Nat.le_of_ble_eq_true rfl) dX1_scanCell_119) w (fun r5 u9_ H locs h w => ?_)
        obtain ⟨rfl, h⟩ := h
        refine Ccalli (rest := []) (CrunV (pc := 122) X w (okX1_addTerm_i3 l hJ h) kw37 kmX1_addTerm ⟨rfl, rfl⟩ ⟨by decide, by decide⟩ (Crv_49 X w) rfl hl.1 rfl (Nat.le_of_ble_eq_true rfl) dX1_scanCell_122) w (fun r6 u7 H locs h w => ?_)
        refine lv_goto (pc := 125) (tgt := 129) hx hb dX1_scanCell_125 (by decide) ?_
        exact Ciret (pc := 129) X w h dX1_scanCell_129
    · have h := h.2 c_
      refine lv_aload_n (pc := 36) hx hb dX1_scanCell_36 rfl (lv_at hl 0 rfl) ?_
      refine Ccalli (rest := []) (CrunV (pc := 37) X w (okX1_isFigureNext_i3 l hJ h) kw18 kmX1_isFigureNext ⟨rfl, rfl⟩ ⟨by decide, by decide⟩ (Crv_49 X w) rfl hl.1 rfl (Nat.le_of_ble_eq_true rfl) dX1_scanCell_37) w (fun r8 u9_ H locs h w => ?_)
      obtain ⟨hz_r8, h⟩ := h
      obtain ⟨rfl, h⟩ := h
      refine lv_if_ne (pc := 40) (tgt := 48) hx hb dX1_scanCell_40 (by decide) (fun c_ => ?_) (fun c_ => ?_)
      · have h := h.2 c_
        refine lv_aload_n (pc := 48) hx hb dX1_scanCell_48 rfl (lv_at hl 0 rfl) ?_
        refine lv_dup (pc := 49) hx hb dX1_scanCell_49 rfl ?_
        refine Cgf_49_5 (pc := 50) X w kw14 dX1_scanCell_50 ?_
        refine lv_iconst (pc := 53) (v := (1 : Int32)) hx hb dX1_scanCell_53 (by decide) ?_
        refine lv_iadd (pc := 54) hx hb dX1_scanCell_54 ?_
        refine Cpf_49_5 (pc := 55) X w kw14 dX1_scanCell_55 (fun H locs w => ?_)
        obtain ⟨u9, e_⟩ : ∃ y : Mm, y = s32 u 889 0 ((u.1 889 0) + (1 : Int32)) := ⟨_, rfl⟩
        rw [← e_] at w
        have h := h u9 e_
        obtain ⟨x3_10, e_⟩ : ∃ y : Int32, y = x3 + (1 : Int32) := ⟨_, rfl⟩
        have h := h x3_10 e_
        refine lv_iinc (pc := 58) (v := x3_10) (lv' := [(3, .int x3_10), (0, .ref (ad 49)), (1, .int x1), (2, .int x2)]) hx hb dX1_scanCell_58 hl (k := 3) rfl (by rw [e_]; rfl) (by decide) rfl (fun ls hl => ?_)
        refine lv_goto (pc := 61) (tgt := 31) hx hb dX1_scanCell_61 (by decide) ?_
        exact ih u9 x1 x2 x3_10 H locs ls h w (lv_sub hl [1, 2, 3, 0] rfl)
      · have h := h.1 c_
        refine lv_aload_n (pc := 43) hx hb dX1_scanCell_43 rfl (lv_at hl 0 rfl) ?_
        refine Cgf_49_5 (pc := 44) X w kw14 dX1_scanCell_44 ?_
        exact Ciret (pc := 47) X w h dX1_scanCell_47
set_option maxHeartbeats 4000000 in
set_option maxRecDepth 100000 in
theorem okX1_scanCell_i3 (l : Launch) {D : va_G} {g : Nat → ClassId} {ad : Nat → Nat} (hJ : CJ ad) {u : Mm} {a1 : Int32} {Q : Int32 → Mm → Prop} (h : wX1_scanCell 3 u a1 Q) : Met l yX1_scanCell (Cond.code yX1_scanCell cX1_scanCell 6 (some .int) :: gt) ({ frames := 2, cells := 0, slots := 0, locals := 43 } : Room) (CPc D g ad u [.ref (ad 49), .int a1]) (va_Qi Q (CB D g ad) (CA ad)) 0 0 (CA ad) := by
  refine Met.ofW (cc := cX1_scanCell) (maxL := 6) (ret := (some .int)) (by decide) rfl ?_
  intro p e s m args below meth c s₁ B hml hv
  refine Centry (own := RX1) B hml hv hJ rfl (Nat.le_of_ble_eq_true rfl) (fun ls H locs X w hl => ?_)
  obtain ⟨⟨hx, hb, hml, hown, hts⟩, hr, hlocks, hK, hJ, hAA⟩ := id X
  have hl : lv_has ls 6 [(0, .ref (ad 49)), (1, .int a1)] := hl
  unfold wX1_scanCell at h
  refine lv_aload_n (pc := 0) hx hb dX1_scanCell_0 rfl (lv_at hl 0 rfl) ?_
  refine lv_bipush (pc := 1) (v := (99 : Int32)) hx hb dX1_scanCell_1 (by decide) ?_
  refine Ccalli (rest := []) (CrunV (pc := 3) X w (okX1_isNext_i3 l hJ h) kw29 kmX1_isNext ⟨rfl, rfl⟩ ⟨by decide, by decide⟩ (Crv_49 X w) rfl hl.1 rfl (Nat.le_of_ble_eq_true rfl) dX1_scanCell_3) w (fun r1 u9_ H locs h w => ?_)
  obtain ⟨hz_r1, h⟩ := h
  obtain ⟨rfl, h⟩ := h
  refine lv_if_ne (pc := 6) (tgt := 14) hx hb dX1_scanCell_6 (by decide) (fun c_ => ?_) (fun c_ => ?_)
  · have h := h.2 c_
    refine lv_aload_n (pc := 14) hx hb dX1_scanCell_14 rfl (lv_at hl 0 rfl) ?_
    refine lv_dup (pc := 15) hx hb dX1_scanCell_15 rfl ?_
    refine Cgf_49_5 (pc := 16) X w kw14 dX1_scanCell_16 ?_
    refine lv_iconst (pc := 19) (v := (1 : Int32)) hx hb dX1_scanCell_19 (by decide) ?_
    refine lv_iadd (pc := 20) hx hb dX1_scanCell_20 ?_
    refine Cpf_49_5 (pc := 21) X w kw14 dX1_scanCell_21 (fun H locs w => ?_)
    obtain ⟨u2, e_⟩ : ∃ y : Mm, y = s32 u 889 0 ((u.1 889 0) + (1 : Int32)) := ⟨_, rfl⟩
    rw [← e_] at w
    have h := h u2 e_
    refine lv_aload_n (pc := 24) hx hb dX1_scanCell_24 rfl (lv_at hl 0 rfl) ?_
    refine Cgf_49_5 (pc := 25) X w kw14 dX1_scanCell_25 ?_
    refine lv_topi (fun x2_3 e_ => ?_)
    have h := h x2_3 e_
    refine lv_istore_n (pc := 28) (lv' := [(2, .int x2_3), (0, .ref (ad 49)), (1, .int a1)]) hx hb dX1_scanCell_28 rfl hl (by decide) rfl (fun ls hl => ?_)
    refine lv_iconst (pc := 29) (v := (0 : Int32)) hx hb dX1_scanCell_29 (by decide) ?_
    refine lv_istore_n (pc := 30) (lv' := [(3, .int (0 : Int32)), (2, .int x2_3), (0, .ref (ad 49)), (1, .int a1)]) hx hb dX1_scanCell_30 rfl hl (by decide) rfl (fun ls hl => ?_)
    obtain ⟨n9, h⟩ := h
    exact bX1_scanCell_i3_31 X n9 u2 a1 x2_3 (0 : Int32) H locs ls h w (lv_sub hl [2, 3, 1, 0] rfl)
  · have h := h.1 c_
    refine lv_aload_n (pc := 9) hx hb dX1_scanCell_9 rfl (lv_at hl 0 rfl) ?_
    refine Cgf_49_5 (pc := 10) X w kw14 dX1_scanCell_10 ?_
    exact Ciret (pc := 13) X w h dX1_scanCell_13
set_option maxHeartbeats 4000000 in
set_option maxRecDepth 100000 in
theorem okX1_scanTerm_i0 (l : Launch) {D : va_G} {g : Nat → ClassId} {ad : Nat → Nat} (hJ : CJ ad) {u : Mm} {a1 : Int32} {Q : Int32 → Mm → Prop} (h : wX1_scanTerm 0 u a1 Q) : Met l yX1_scanTerm (Cond.code yX1_scanTerm cX1_scanTerm 4 (some .int) :: gt) ({ frames := 3, cells := 0, slots := 0, locals := 68 } : Room) (CPc D g ad u [.ref (ad 37), .int a1]) (va_Qi Q (CB D g ad) (CA ad)) 0 0 (CA ad) := by
  refine Met.ofW (cc := cX1_scanTerm) (maxL := 4) (ret := (some .int)) (by decide) rfl ?_
  intro p e s m args below meth c s₁ B hml hv
  refine Centry (own := RX1) B hml hv hJ rfl (Nat.le_of_ble_eq_true rfl) (fun ls H locs X w hl => ?_)
  obtain ⟨⟨hx, hb, hml, hown, hts⟩, hr, hlocks, hK, hJ, hAA⟩ := id X
  have hl : lv_has ls 4 [(0, .ref (ad 37)), (1, .int a1)] := hl
  unfold wX1_scanTerm at h
  refine lv_aload_n (pc := 0) hx hb dX1_scanTerm_0 rfl (lv_at hl 0 rfl) ?_
  refine Cgf_37_5 (pc := 1) X w kw14 dX1_scanTerm_1 ?_
  refine lv_topi (fun x2_1 e_ => ?_)
  have h := h x2_1 e_
  refine lv_istore_n (pc := 4) (lv' := [(2, .int x2_1), (0, .ref (ad 37)), (1, .int a1)]) hx hb dX1_scanTerm_4 rfl hl (by decide) rfl (fun ls hl => ?_)
  refine lv_aload_n (pc := 5) hx hb dX1_scanTerm_5 rfl (lv_at hl 1 rfl) ?_
  refine Ccalli (rest := []) (CrunV (pc := 6) X w (okX1_scanNumber_i0 l hJ h) kw41 kmX1_scanNumber ⟨rfl, rfl⟩ ⟨by decide, by decide⟩ (Crv_37 X w) rfl hl.1 rfl (Nat.le_of_ble_eq_true rfl) dX1_scanTerm_6) w (fun r2 u3 H locs h w => ?_)
  refine lv_istore_n (pc := 9) (lv' := [(3, .int r2), (2, .int x2_1), (0, .ref (ad 37)), (1, .int a1)]) hx hb dX1_scanTerm_9 rfl hl (by decide) rfl (fun ls hl => ?_)
  refine lv_aload_n (pc := 10) hx hb dX1_scanTerm_10 rfl (lv_at hl 2 rfl) ?_
  refine Cgf_37_5 (pc := 11) X w kw14 dX1_scanTerm_11 ?_
  refine lv_iload_n (pc := 14) hx hb dX1_scanTerm_14 rfl (lv_at hl 1 rfl) ?_
  refine lv_icmp_ne (pc := 15) (tgt := 24) hx hb dX1_scanTerm_15 (by decide) (fun c_ => ?_) (fun c_ => ?_)
  · have h := h.2 c_
    refine lv_aload_n (pc := 24) hx hb dX1_scanTerm_24 rfl (lv_at hl 2 rfl) ?_
    refine lv_bipush (pc := 25) (v := (42 : Int32)) hx hb dX1_scanTerm_25 (by decide) ?_
    refine Ccalli (rest := []) (CrunV (pc := 27) X w (okX1_isNext_i0 l hJ h) kw29 kmX1_isNext ⟨rfl, rfl⟩ ⟨by decide, by decide⟩ (Crv_37 X w) rfl hl.1 rfl (Nat.le_of_ble_eq_true rfl) dX1_scanTerm_27) w (fun r4 u9_ H locs h w => ?_)
    obtain ⟨hz_r4, h⟩ := h
    obtain ⟨rfl, h⟩ := h
    refine lv_if_eq (pc := 30) (tgt := 51) hx hb dX1_scanTerm_30 (by decide) (fun c_ => ?_) (fun c_ => ?_)
    · have h := h.1 c_
      refine lv_aload_n (pc := 51) hx hb dX1_scanTerm_51 rfl (lv_at hl 2 rfl) ?_
      refine lv_iload_n (pc := 52) hx hb dX1_scanTerm_52 rfl (lv_at hl 3 rfl) ?_
      refine lv_iload_n (pc := 53) hx hb dX1_scanTerm_53 rfl (lv_at hl 0 rfl) ?_
      refine lv_imul (pc := 54) hx hb dX1_scanTerm_54 ?_
      refine lv_iconst (pc := 55) (v := (-1 : Int32)) hx hb dX1_scanTerm_55 (by decide) ?_
      refine Ccalli (rest := []) (CrunV (pc := 56) X w (okX1_addTerm_i0 l hJ h) kw37 kmX1_addTerm ⟨rfl, rfl⟩ ⟨by decide, by decide⟩ (Crv_37 X w) rfl hl.1 rfl (Nat.le_of_ble_eq_true rfl) dX1_scanTerm_56) w (fun r5 u6 H locs h w => ?_)
      exact Ciret (pc := 59) X w h dX1_scanTerm_59
    · have h := h.2 c_
      refine lv_aload_n (pc := 33) hx hb dX1_scanTerm_33 rfl (lv_at hl 2 rfl) ?_
      refine lv_dup (pc := 34) hx hb dX1_scanTerm_34 rfl ?_
      refine Cgf_37_5 (pc := 35) X w kw14 dX1_scanTerm_35 ?_
      refine lv_iconst (pc := 38) (v := (1 : Int32)) hx hb dX1_scanTerm_38 (by decide) ?_
      refine lv_iadd (pc := 39) hx hb dX1_scanTerm_39 ?_
      refine Cpf_37_5 (pc := 40) X w kw14 dX1_scanTerm_40 (fun H locs w => ?_)
      obtain ⟨u7, e_⟩ : ∃ y : Mm, y = s32 u3 697 0 ((u3.1 697 0) + (1 : Int32)) := ⟨_, rfl⟩
      rw [← e_] at w
      have h := h u7 e_
      refine lv_aload_n (pc := 43) hx hb dX1_scanTerm_43 rfl (lv_at hl 2 rfl) ?_
      refine lv_iload_n (pc := 44) hx hb dX1_scanTerm_44 rfl (lv_at hl 3 rfl) ?_
      refine lv_iload_n (pc := 45) hx hb dX1_scanTerm_45 rfl (lv_at hl 0 rfl) ?_
      refine lv_imul (pc := 46) hx hb dX1_scanTerm_46 ?_
      refine Ccalli (rest := []) (CrunV (pc := 47) X w (okX1_scanCell_i0 l hJ h) kw45 kmX1_scanCell ⟨rfl, rfl⟩ ⟨by decide, by decide⟩ (Crv_37 X w) rfl hl.1 rfl (Nat.le_of_ble_eq_true rfl) dX1_scanTerm_47) w (fun r8 u9 H locs h w => ?_)
      exact Ciret (pc := 50) X w h dX1_scanTerm_50
  · have h := h.1 c_
    refine lv_aload_n (pc := 18) hx hb dX1_scanTerm_18 rfl (lv_at hl 2 rfl) ?_
    refine lv_iload_n (pc := 19) hx hb dX1_scanTerm_19 rfl (lv_at hl 3 rfl) ?_
    refine Ccalli (rest := []) (CrunV (pc := 20) X w (okX1_scanCell_i0 l hJ h) kw45 kmX1_scanCell ⟨rfl, rfl⟩ ⟨by decide, by decide⟩ (Crv_37 X w) rfl hl.1 rfl (Nat.le_of_ble_eq_true rfl) dX1_scanTerm_20) w (fun r10 u11 H locs h w => ?_)
    exact Ciret (pc := 23) X w h dX1_scanTerm_23
set_option maxHeartbeats 4000000 in
set_option maxRecDepth 100000 in
theorem okX1_scanTerm_i1 (l : Launch) {D : va_G} {g : Nat → ClassId} {ad : Nat → Nat} (hJ : CJ ad) {u : Mm} {a1 : Int32} {Q : Int32 → Mm → Prop} (h : wX1_scanTerm 1 u a1 Q) : Met l yX1_scanTerm (Cond.code yX1_scanTerm cX1_scanTerm 4 (some .int) :: gt) ({ frames := 3, cells := 0, slots := 0, locals := 68 } : Room) (CPc D g ad u [.ref (ad 41), .int a1]) (va_Qi Q (CB D g ad) (CA ad)) 0 0 (CA ad) := by
  refine Met.ofW (cc := cX1_scanTerm) (maxL := 4) (ret := (some .int)) (by decide) rfl ?_
  intro p e s m args below meth c s₁ B hml hv
  refine Centry (own := RX1) B hml hv hJ rfl (Nat.le_of_ble_eq_true rfl) (fun ls H locs X w hl => ?_)
  obtain ⟨⟨hx, hb, hml, hown, hts⟩, hr, hlocks, hK, hJ, hAA⟩ := id X
  have hl : lv_has ls 4 [(0, .ref (ad 41)), (1, .int a1)] := hl
  unfold wX1_scanTerm at h
  refine lv_aload_n (pc := 0) hx hb dX1_scanTerm_0 rfl (lv_at hl 0 rfl) ?_
  refine Cgf_41_5 (pc := 1) X w kw14 dX1_scanTerm_1 ?_
  refine lv_topi (fun x2_1 e_ => ?_)
  have h := h x2_1 e_
  refine lv_istore_n (pc := 4) (lv' := [(2, .int x2_1), (0, .ref (ad 41)), (1, .int a1)]) hx hb dX1_scanTerm_4 rfl hl (by decide) rfl (fun ls hl => ?_)
  refine lv_aload_n (pc := 5) hx hb dX1_scanTerm_5 rfl (lv_at hl 1 rfl) ?_
  refine Ccalli (rest := []) (CrunV (pc := 6) X w (okX1_scanNumber_i1 l hJ h) kw41 kmX1_scanNumber ⟨rfl, rfl⟩ ⟨by decide, by decide⟩ (Crv_41 X w) rfl hl.1 rfl (Nat.le_of_ble_eq_true rfl) dX1_scanTerm_6) w (fun r2 u3 H locs h w => ?_)
  refine lv_istore_n (pc := 9) (lv' := [(3, .int r2), (2, .int x2_1), (0, .ref (ad 41)), (1, .int a1)]) hx hb dX1_scanTerm_9 rfl hl (by decide) rfl (fun ls hl => ?_)
  refine lv_aload_n (pc := 10) hx hb dX1_scanTerm_10 rfl (lv_at hl 2 rfl) ?_
  refine Cgf_41_5 (pc := 11) X w kw14 dX1_scanTerm_11 ?_
  refine lv_iload_n (pc := 14) hx hb dX1_scanTerm_14 rfl (lv_at hl 1 rfl) ?_
  refine lv_icmp_ne (pc := 15) (tgt := 24) hx hb dX1_scanTerm_15 (by decide) (fun c_ => ?_) (fun c_ => ?_)
  · have h := h.2 c_
    refine lv_aload_n (pc := 24) hx hb dX1_scanTerm_24 rfl (lv_at hl 2 rfl) ?_
    refine lv_bipush (pc := 25) (v := (42 : Int32)) hx hb dX1_scanTerm_25 (by decide) ?_
    refine Ccalli (rest := []) (CrunV (pc := 27) X w (okX1_isNext_i1 l hJ h) kw29 kmX1_isNext ⟨rfl, rfl⟩ ⟨by decide, by decide⟩ (Crv_41 X w) rfl hl.1 rfl (Nat.le_of_ble_eq_true rfl) dX1_scanTerm_27) w (fun r4 u9_ H locs h w => ?_)
    obtain ⟨hz_r4, h⟩ := h
    obtain ⟨rfl, h⟩ := h
    refine lv_if_eq (pc := 30) (tgt := 51) hx hb dX1_scanTerm_30 (by decide) (fun c_ => ?_) (fun c_ => ?_)
    · have h := h.1 c_
      refine lv_aload_n (pc := 51) hx hb dX1_scanTerm_51 rfl (lv_at hl 2 rfl) ?_
      refine lv_iload_n (pc := 52) hx hb dX1_scanTerm_52 rfl (lv_at hl 3 rfl) ?_
      refine lv_iload_n (pc := 53) hx hb dX1_scanTerm_53 rfl (lv_at hl 0 rfl) ?_
      refine lv_imul (pc := 54) hx hb dX1_scanTerm_54 ?_
      refine lv_iconst (pc := 55) (v := (-1 : Int32)) hx hb dX1_scanTerm_55 (by decide) ?_
      refine Ccalli (rest := []) (CrunV (pc := 56) X w (okX1_addTerm_i1 l hJ h) kw37 kmX1_addTerm ⟨rfl, rfl⟩ ⟨by decide, by decide⟩ (Crv_41 X w) rfl hl.1 rfl (Nat.le_of_ble_eq_true rfl) dX1_scanTerm_56) w (fun r5 u6 H locs h w => ?_)
      exact Ciret (pc := 59) X w h dX1_scanTerm_59
    · have h := h.2 c_
      refine lv_aload_n (pc := 33) hx hb dX1_scanTerm_33 rfl (lv_at hl 2 rfl) ?_
      refine lv_dup (pc := 34) hx hb dX1_scanTerm_34 rfl ?_
      refine Cgf_41_5 (pc := 35) X w kw14 dX1_scanTerm_35 ?_
      refine lv_iconst (pc := 38) (v := (1 : Int32)) hx hb dX1_scanTerm_38 (by decide) ?_
      refine lv_iadd (pc := 39) hx hb dX1_scanTerm_39 ?_
      refine Cpf_41_5 (pc := 40) X w kw14 dX1_scanTerm_40 (fun H locs w => ?_)
      obtain ⟨u7, e_⟩ : ∃ y : Mm, y = s32 u3 761 0 ((u3.1 761 0) + (1 : Int32)) := ⟨_, rfl⟩
      rw [← e_] at w
      have h := h u7 e_
      refine lv_aload_n (pc := 43) hx hb dX1_scanTerm_43 rfl (lv_at hl 2 rfl) ?_
      refine lv_iload_n (pc := 44) hx hb dX1_scanTerm_44 rfl (lv_at hl 3 rfl) ?_
      refine lv_iload_n (pc := 45) hx hb dX1_scanTerm_45 rfl (lv_at hl 0 rfl) ?_
      refine lv_imul (pc := 46) hx hb dX1_scanTerm_46 ?_
      refine Ccalli (rest := []) (CrunV (pc := 47) X w (okX1_scanCell_i1 l hJ h) kw45 kmX1_scanCell ⟨rfl, rfl⟩ ⟨by decide, by decide⟩ (Crv_41 X w) rfl hl.1 rfl (Nat.le_of_ble_eq_true rfl) dX1_scanTerm_47) w (fun r8 u9 H locs h w => ?_)
      exact Ciret (pc := 50) X w h dX1_scanTerm_50
  · have h := h.1 c_
    refine lv_aload_n (pc := 18) hx hb dX1_scanTerm_18 rfl (lv_at hl 2 rfl) ?_
    refine lv_iload_n (pc := 19) hx hb dX1_scanTerm_19 rfl (lv_at hl 3 rfl) ?_
    refine Ccalli (rest := []) (CrunV (pc := 20) X w (okX1_scanCell_i1 l hJ h) kw45 kmX1_scanCell ⟨rfl, rfl⟩ ⟨by decide, by decide⟩ (Crv_41 X w) rfl hl.1 rfl (Nat.le_of_ble_eq_true rfl) dX1_scanTerm_20) w (fun r10 u11 H locs h w => ?_)
    exact Ciret (pc := 23) X w h dX1_scanTerm_23
set_option maxHeartbeats 4000000 in
set_option maxRecDepth 100000 in
theorem okX1_scanTerm_i2 (l : Launch) {D : va_G} {g : Nat → ClassId} {ad : Nat → Nat} (hJ : CJ ad) {u : Mm} {a1 : Int32} {Q : Int32 → Mm → Prop} (h : wX1_scanTerm 2 u a1 Q) : Met l yX1_scanTerm (Cond.code yX1_scanTerm cX1_scanTerm 4 (some .int) :: gt) ({ frames := 3, cells := 0, slots := 0, locals := 68 } : Room) (CPc D g ad u [.ref (ad 45), .int a1]) (va_Qi Q (CB D g ad) (CA ad)) 0 0 (CA ad) := by
  refine Met.ofW (cc := cX1_scanTerm) (maxL := 4) (ret := (some .int)) (by decide) rfl ?_
  intro p e s m args below meth c s₁ B hml hv
  refine Centry (own := RX1) B hml hv hJ rfl (Nat.le_of_ble_eq_true rfl) (fun ls H locs X w hl => ?_)
  obtain ⟨⟨hx, hb, hml, hown, hts⟩, hr, hlocks, hK, hJ, hAA⟩ := id X
  have hl : lv_has ls 4 [(0, .ref (ad 45)), (1, .int a1)] := hl
  unfold wX1_scanTerm at h
  refine lv_aload_n (pc := 0) hx hb dX1_scanTerm_0 rfl (lv_at hl 0 rfl) ?_
  refine Cgf_45_5 (pc := 1) X w kw14 dX1_scanTerm_1 ?_
  refine lv_topi (fun x2_1 e_ => ?_)
  have h := h x2_1 e_
  refine lv_istore_n (pc := 4) (lv' := [(2, .int x2_1), (0, .ref (ad 45)), (1, .int a1)]) hx hb dX1_scanTerm_4 rfl hl (by decide) rfl (fun ls hl => ?_)
  refine lv_aload_n (pc := 5) hx hb dX1_scanTerm_5 rfl (lv_at hl 1 rfl) ?_
  refine Ccalli (rest := []) (CrunV (pc := 6) X w (okX1_scanNumber_i2 l hJ h) kw41 kmX1_scanNumber ⟨rfl, rfl⟩ ⟨by decide, by decide⟩ (Crv_45 X w) rfl hl.1 rfl (Nat.le_of_ble_eq_true rfl) dX1_scanTerm_6) w (fun r2 u3 H locs h w => ?_)
  refine lv_istore_n (pc := 9) (lv' := [(3, .int r2), (2, .int x2_1), (0, .ref (ad 45)), (1, .int a1)]) hx hb dX1_scanTerm_9 rfl hl (by decide) rfl (fun ls hl => ?_)
  refine lv_aload_n (pc := 10) hx hb dX1_scanTerm_10 rfl (lv_at hl 2 rfl) ?_
  refine Cgf_45_5 (pc := 11) X w kw14 dX1_scanTerm_11 ?_
  refine lv_iload_n (pc := 14) hx hb dX1_scanTerm_14 rfl (lv_at hl 1 rfl) ?_
  refine lv_icmp_ne (pc := 15) (tgt := 24) hx hb dX1_scanTerm_15 (by decide) (fun c_ => ?_) (fun c_ => ?_)
  · have h := h.2 c_
    refine lv_aload_n (pc := 24) hx hb dX1_scanTerm_24 rfl (lv_at hl 2 rfl) ?_
    refine lv_bipush (pc := 25) (v := (42 : Int32)) hx hb dX1_scanTerm_25 (by decide) ?_
    refine Ccalli (rest := []) (CrunV (pc := 27) X w (okX1_isNext_i2 l hJ h) kw29 kmX1_isNext ⟨rfl, rfl⟩ ⟨by decide, by decide⟩ (Crv_45 X w) rfl hl.1 rfl (Nat.le_of_ble_eq_true rfl) dX1_scanTerm_27) w (fun r4 u9_ H locs h w => ?_)
    obtain ⟨hz_r4, h⟩ := h
    obtain ⟨rfl, h⟩ := h
    refine lv_if_eq (pc := 30) (tgt := 51) hx hb dX1_scanTerm_30 (by decide) (fun c_ => ?_) (fun c_ => ?_)
    · have h := h.1 c_
      refine lv_aload_n (pc := 51) hx hb dX1_scanTerm_51 rfl (lv_at hl 2 rfl) ?_
      refine lv_iload_n (pc := 52) hx hb dX1_scanTerm_52 rfl (lv_at hl 3 rfl) ?_
      refine lv_iload_n (pc := 53) hx hb dX1_scanTerm_53 rfl (lv_at hl 0 rfl) ?_
      refine lv_imul (pc := 54) hx hb dX1_scanTerm_54 ?_
      refine lv_iconst (pc := 55) (v := (-1 : Int32)) hx hb dX1_scanTerm_55 (by decide) ?_
      refine Ccalli (rest := []) (CrunV (pc := 56) X w (okX1_addTerm_i2 l hJ h) kw37 kmX1_addTerm ⟨rfl, rfl⟩ ⟨by decide, by decide⟩ (Crv_45 X w) rfl hl.1 rfl (Nat.le_of_ble_eq_true rfl) dX1_scanTerm_56) w (fun r5 u6 H locs h w => ?_)
      exact Ciret (pc := 59) X w h dX1_scanTerm_59
    · have h := h.2 c_
      refine lv_aload_n (pc := 33) hx hb dX1_scanTerm_33 rfl (lv_at hl 2 rfl) ?_
      refine lv_dup (pc := 34) hx hb dX1_scanTerm_34 rfl ?_
      refine Cgf_45_5 (pc := 35) X w kw14 dX1_scanTerm_35 ?_
      refine lv_iconst (pc := 38) (v := (1 : Int32)) hx hb dX1_scanTerm_38 (by decide) ?_
      refine lv_iadd (pc := 39) hx hb dX1_scanTerm_39 ?_
      refine Cpf_45_5 (pc := 40) X w kw14 dX1_scanTerm_40 (fun H locs w => ?_)
      obtain ⟨u7, e_⟩ : ∃ y : Mm, y = s32 u3 825 0 ((u3.1 825 0) + (1 : Int32)) := ⟨_, rfl⟩
      rw [← e_] at w
      have h := h u7 e_
      refine lv_aload_n (pc := 43) hx hb dX1_scanTerm_43 rfl (lv_at hl 2 rfl) ?_
      refine lv_iload_n (pc := 44) hx hb dX1_scanTerm_44 rfl (lv_at hl 3 rfl) ?_
      refine lv_iload_n (pc := 45) hx hb dX1_scanTerm_45 rfl (lv_at hl 0 rfl) ?_
      refine lv_imul (pc := 46) hx hb dX1_scanTerm_46 ?_
      refine Ccalli (rest := []) (CrunV (pc := 47) X w (okX1_scanCell_i2 l hJ h) kw45 kmX1_scanCell ⟨rfl, rfl⟩ ⟨by decide, by decide⟩ (Crv_45 X w) rfl hl.1 rfl (Nat.le_of_ble_eq_true rfl) dX1_scanTerm_47) w (fun r8 u9 H locs h w => ?_)
      exact Ciret (pc := 50) X w h dX1_scanTerm_50
  · have h := h.1 c_
    refine lv_aload_n (pc := 18) hx hb dX1_scanTerm_18 rfl (lv_at hl 2 rfl) ?_
    refine lv_iload_n (pc := 19) hx hb dX1_scanTerm_19 rfl (lv_at hl 3 rfl) ?_
    refine Ccalli (rest := []) (CrunV (pc := 20) X w (okX1_scanCell_i2 l hJ h) kw45 kmX1_scanCell ⟨rfl, rfl⟩ ⟨by decide, by decide⟩ (Crv_45 X w) rfl hl.1 rfl (Nat.le_of_ble_eq_true rfl) dX1_scanTerm_20) w (fun r10 u11 H locs h w => ?_)
    exact Ciret (pc := 23) X w h dX1_scanTerm_23
set_option maxHeartbeats 4000000 in
set_option maxRecDepth 100000 in
theorem okX1_scanTerm_i3 (l : Launch) {D : va_G} {g : Nat → ClassId} {ad : Nat → Nat} (hJ : CJ ad) {u : Mm} {a1 : Int32} {Q : Int32 → Mm → Prop} (h : wX1_scanTerm 3 u a1 Q) : Met l yX1_scanTerm (Cond.code yX1_scanTerm cX1_scanTerm 4 (some .int) :: gt) ({ frames := 3, cells := 0, slots := 0, locals := 68 } : Room) (CPc D g ad u [.ref (ad 49), .int a1]) (va_Qi Q (CB D g ad) (CA ad)) 0 0 (CA ad) := by
  refine Met.ofW (cc := cX1_scanTerm) (maxL := 4) (ret := (some .int)) (by decide) rfl ?_
  intro p e s m args below meth c s₁ B hml hv
  refine Centry (own := RX1) B hml hv hJ rfl (Nat.le_of_ble_eq_true rfl) (fun ls H locs X w hl => ?_)
  obtain ⟨⟨hx, hb, hml, hown, hts⟩, hr, hlocks, hK, hJ, hAA⟩ := id X
  have hl : lv_has ls 4 [(0, .ref (ad 49)), (1, .int a1)] := hl
  unfold wX1_scanTerm at h
  refine lv_aload_n (pc := 0) hx hb dX1_scanTerm_0 rfl (lv_at hl 0 rfl) ?_
  refine Cgf_49_5 (pc := 1) X w kw14 dX1_scanTerm_1 ?_
  refine lv_topi (fun x2_1 e_ => ?_)
  have h := h x2_1 e_
  refine lv_istore_n (pc := 4) (lv' := [(2, .int x2_1), (0, .ref (ad 49)), (1, .int a1)]) hx hb dX1_scanTerm_4 rfl hl (by decide) rfl (fun ls hl => ?_)
  refine lv_aload_n (pc := 5) hx hb dX1_scanTerm_5 rfl (lv_at hl 1 rfl) ?_
  refine Ccalli (rest := []) (CrunV (pc := 6) X w (okX1_scanNumber_i3 l hJ h) kw41 kmX1_scanNumber ⟨rfl, rfl⟩ ⟨by decide, by decide⟩ (Crv_49 X w) rfl hl.1 rfl (Nat.le_of_ble_eq_true rfl) dX1_scanTerm_6) w (fun r2 u3 H locs h w => ?_)
  refine lv_istore_n (pc := 9) (lv' := [(3, .int r2), (2, .int x2_1), (0, .ref (ad 49)), (1, .int a1)]) hx hb dX1_scanTerm_9 rfl hl (by decide) rfl (fun ls hl => ?_)
  refine lv_aload_n (pc := 10) hx hb dX1_scanTerm_10 rfl (lv_at hl 2 rfl) ?_
  refine Cgf_49_5 (pc := 11) X w kw14 dX1_scanTerm_11 ?_
  refine lv_iload_n (pc := 14) hx hb dX1_scanTerm_14 rfl (lv_at hl 1 rfl) ?_
  refine lv_icmp_ne (pc := 15) (tgt := 24) hx hb dX1_scanTerm_15 (by decide) (fun c_ => ?_) (fun c_ => ?_)
  · have h := h.2 c_
    refine lv_aload_n (pc := 24) hx hb dX1_scanTerm_24 rfl (lv_at hl 2 rfl) ?_
    refine lv_bipush (pc := 25) (v := (42 : Int32)) hx hb dX1_scanTerm_25 (by decide) ?_
    refine Ccalli (rest := []) (CrunV (pc := 27) X w (okX1_isNext_i3 l hJ h) kw29 kmX1_isNext ⟨rfl, rfl⟩ ⟨by decide, by decide⟩ (Crv_49 X w) rfl hl.1 rfl (Nat.le_of_ble_eq_true rfl) dX1_scanTerm_27) w (fun r4 u9_ H locs h w => ?_)
    obtain ⟨hz_r4, h⟩ := h
    obtain ⟨rfl, h⟩ := h
    refine lv_if_eq (pc := 30) (tgt := 51) hx hb dX1_scanTerm_30 (by decide) (fun c_ => ?_) (fun c_ => ?_)
    · have h := h.1 c_
      refine lv_aload_n (pc := 51) hx hb dX1_scanTerm_51 rfl (lv_at hl 2 rfl) ?_
      refine lv_iload_n (pc := 52) hx hb dX1_scanTerm_52 rfl (lv_at hl 3 rfl) ?_
      refine lv_iload_n (pc := 53) hx hb dX1_scanTerm_53 rfl (lv_at hl 0 rfl) ?_
      refine lv_imul (pc := 54) hx hb dX1_scanTerm_54 ?_
      refine lv_iconst (pc := 55) (v := (-1 : Int32)) hx hb dX1_scanTerm_55 (by decide) ?_
      refine Ccalli (rest := []) (CrunV (pc := 56) X w (okX1_addTerm_i3 l hJ h) kw37 kmX1_addTerm ⟨rfl, rfl⟩ ⟨by decide, by decide⟩ (Crv_49 X w) rfl hl.1 rfl (Nat.le_of_ble_eq_true rfl) dX1_scanTerm_56) w (fun r5 u6 H locs h w => ?_)
      exact Ciret (pc := 59) X w h dX1_scanTerm_59
    · have h := h.2 c_
      refine lv_aload_n (pc := 33) hx hb dX1_scanTerm_33 rfl (lv_at hl 2 rfl) ?_
      refine lv_dup (pc := 34) hx hb dX1_scanTerm_34 rfl ?_
      refine Cgf_49_5 (pc := 35) X w kw14 dX1_scanTerm_35 ?_
      refine lv_iconst (pc := 38) (v := (1 : Int32)) hx hb dX1_scanTerm_38 (by decide) ?_
      refine lv_iadd (pc := 39) hx hb dX1_scanTerm_39 ?_
      refine Cpf_49_5 (pc := 40) X w kw14 dX1_scanTerm_40 (fun H locs w => ?_)
      obtain ⟨u7, e_⟩ : ∃ y : Mm, y = s32 u3 889 0 ((u3.1 889 0) + (1 : Int32)) := ⟨_, rfl⟩
      rw [← e_] at w
      have h := h u7 e_
      refine lv_aload_n (pc := 43) hx hb dX1_scanTerm_43 rfl (lv_at hl 2 rfl) ?_
      refine lv_iload_n (pc := 44) hx hb dX1_scanTerm_44 rfl (lv_at hl 3 rfl) ?_
      refine lv_iload_n (pc := 45) hx hb dX1_scanTerm_45 rfl (lv_at hl 0 rfl) ?_
      refine lv_imul (pc := 46) hx hb dX1_scanTerm_46 ?_
      refine Ccalli (rest := []) (CrunV (pc := 47) X w (okX1_scanCell_i3 l hJ h) kw45 kmX1_scanCell ⟨rfl, rfl⟩ ⟨by decide, by decide⟩ (Crv_49 X w) rfl hl.1 rfl (Nat.le_of_ble_eq_true rfl) dX1_scanTerm_47) w (fun r8 u9 H locs h w => ?_)
      exact Ciret (pc := 50) X w h dX1_scanTerm_50
  · have h := h.1 c_
    refine lv_aload_n (pc := 18) hx hb dX1_scanTerm_18 rfl (lv_at hl 2 rfl) ?_
    refine lv_iload_n (pc := 19) hx hb dX1_scanTerm_19 rfl (lv_at hl 3 rfl) ?_
    refine Ccalli (rest := []) (CrunV (pc := 20) X w (okX1_scanCell_i3 l hJ h) kw45 kmX1_scanCell ⟨rfl, rfl⟩ ⟨by decide, by decide⟩ (Crv_49 X w) rfl hl.1 rfl (Nat.le_of_ble_eq_true rfl) dX1_scanTerm_20) w (fun r10 u11 H locs h w => ?_)
    exact Ciret (pc := 23) X w h dX1_scanTerm_23
set_option maxHeartbeats 4000000 in
set_option maxRecDepth 100000 in
theorem bX1_scan_i0_82 {l : Launch} {p : Program} {e : Env} {s : State} {m : MethodId} {args : Array Value} {below : List Frame} {meth : Method} {c : Code} {D : va_G} {g : Nat → ClassId} {ad : Nat → Nat} {Q : Int32 → Mm → Prop} {k116 : Mm → Int32 → Int32 → Int32 → Prop} (X : CX p s m args meth c cX1_scan RX1 5 (some .int) (Cond.code yX1_scan cX1_scan 5 (some .int)) D g ad (CA ad)) (hk116 : ∀ (u : Mm) (x1 : Int32) (x2 : Int32) (x3 : Int32) (H : Heap) (locs : List Loc) (ls : Array Slot), k116 u x1 x2 x3 → CWd D g ad (CA ad) s u H locs → lv_has ls 5 [(0, .ref (ad 37)), (1, .int x1), (2, .int x2), (3, .int x3)] → W p l e ({ frames := 4, cells := 0, slots := 0, locals := 91 } : Room) s m args below meth c H locs 0 0 (MQ below (va_Qi Q (CB D g ad) (CA ad)) args s 0 0 (CA ad)) (F0 m 116 ls [])) : ∀ (u : Mm) (x1 : Int32) (x3 : Int32) (H : Heap) (locs : List Loc) (ls : Array Slot), wX1_scan_b82 0 k116 Q u x1 x3 → CWd D g ad (CA ad) s u H locs → lv_has ls 5 [(0, .ref (ad 37)), (1, .int x1), (3, .int x3)] → W p l e ({ frames := 4, cells := 0, slots := 0, locals := 91 } : Room) s m args below meth c H locs 0 0 (MQ below (va_Qi Q (CB D g ad) (CA ad)) args s 0 0 (CA ad)) (F0 m 82 ls []) := by
  obtain ⟨⟨hx, hb, hml, hown, hts⟩, hr, hlocks, hK, hJ, hAA⟩ := id X
  intro u x1 x3 H locs ls h w hl
  unfold wX1_scan_b82 at h
  refine lv_aload_n (pc := 82) hx hb dX1_scan_82 rfl (lv_at hl 0 rfl) ?_
  refine lv_bipush (pc := 83) (v := (43 : Int32)) hx hb dX1_scan_83 (by decide) ?_
  refine Ccalli (rest := []) (CrunV (pc := 85) X w (okX1_isNext_i0 l hJ h) kw29 kmX1_isNext ⟨rfl, rfl⟩ ⟨by decide, by decide⟩ (Crv_37 X w) rfl hl.1 rfl (Nat.le_of_ble_eq_true rfl) dX1_scan_85) w (fun r1 u9_ H locs h w => ?_)
  obtain ⟨hz_r1, h⟩ := h
  obtain ⟨rfl, h⟩ := h
  refine lv_if_eq (pc := 88) (tgt := 96) hx hb dX1_scan_88 (by decide) (fun c_ => ?_) (fun c_ => ?_)
  · have h := h.1 c_
    refine lv_aload_n (pc := 96) hx hb dX1_scan_96 rfl (lv_at hl 0 rfl) ?_
    refine lv_bipush (pc := 97) (v := (45 : Int32)) hx hb dX1_scan_97 (by decide) ?_
    refine Ccalli (rest := []) (CrunV (pc := 99) X w (okX1_isNext_i0 l hJ h) kw29 kmX1_isNext ⟨rfl, rfl⟩ ⟨by decide, by decide⟩ (Crv_37 X w) rfl hl.1 rfl (Nat.le_of_ble_eq_true rfl) dX1_scan_99) w (fun r2 u9_ H locs h w => ?_)
    obtain ⟨hz_r2, h⟩ := h
    obtain ⟨rfl, h⟩ := h
    refine lv_if_eq (pc := 102) (tgt := 111) hx hb dX1_scan_102 (by decide) (fun c_ => ?_) (fun c_ => ?_)
    · have h := h.1 c_
      refine lv_aload_n (pc := 111) hx hb dX1_scan_111 rfl (lv_at hl 0 rfl) ?_
      refine Cgf_37_5 (pc := 112) X w kw14 dX1_scan_112 ?_
      exact Ciret (pc := 115) X w h dX1_scan_115
    · have h := h.2 c_
      refine lv_iload_n (pc := 105) hx hb dX1_scan_105 rfl (lv_at hl 1 rfl) ?_
      refine lv_ineg (pc := 106) hx hb dX1_scan_106 ?_
      refine lv_topi (fun x2_3 e_ => ?_)
      have h := h x2_3 e_
      refine lv_istore_n (pc := 107) (lv' := [(2, .int x2_3), (0, .ref (ad 37)), (1, .int x1), (3, .int x3)]) hx hb dX1_scan_107 rfl hl (by decide) rfl (fun ls hl => ?_)
      refine lv_goto (pc := 108) (tgt := 116) hx hb dX1_scan_108 (by decide) ?_
      exact hk116 u x1 x2_3 x3 H locs ls h w (lv_sub hl [1, 2, 0, 3] rfl)
  · have h := h.2 c_
    refine lv_iload_n (pc := 91) hx hb dX1_scan_91 rfl (lv_at hl 1 rfl) ?_
    refine lv_istore_n (pc := 92) (lv' := [(2, .int x1), (0, .ref (ad 37)), (1, .int x1), (3, .int x3)]) hx hb dX1_scan_92 rfl hl (by decide) rfl (fun ls hl => ?_)
    refine lv_goto (pc := 93) (tgt := 116) hx hb dX1_scan_93 (by decide) ?_
    exact hk116 u x1 x1 x3 H locs ls h w (lv_sub hl [1, 2, 0, 3] rfl)
set_option maxHeartbeats 4000000 in
set_option maxRecDepth 100000 in
theorem bX1_scan_i0_116 {l : Launch} {p : Program} {e : Env} {s : State} {m : MethodId} {args : Array Value} {below : List Frame} {meth : Method} {c : Code} {D : va_G} {g : Nat → ClassId} {ad : Nat → Nat} {Q : Int32 → Mm → Prop} {k16 : Mm → Int32 → Int32 → Int32 → Prop} (X : CX p s m args meth c cX1_scan RX1 5 (some .int) (Cond.code yX1_scan cX1_scan 5 (some .int)) D g ad (CA ad)) (hk16 : ∀ (u : Mm) (x1 : Int32) (x2 : Int32) (x3 : Int32) (H : Heap) (locs : List Loc) (ls : Array Slot), k16 u x1 x2 x3 → CWd D g ad (CA ad) s u H locs → lv_has ls 5 [(0, .ref (ad 37)), (1, .int x1), (2, .int x2), (3, .int x3)] → W p l e ({ frames := 4, cells := 0, slots := 0, locals := 91 } : Room) s m args below meth c H locs 0 0 (MQ below (va_Qi Q (CB D g ad) (CA ad)) args s 0 0 (CA ad)) (F0 m 16 ls [])) : ∀ (u : Mm) (x1 : Int32) (x2 : Int32) (x3 : Int32) (H : Heap) (locs : List Loc) (ls : Array Slot), wX1_scan_b116 0 k16 Q u x1 x2 x3 → CWd D g ad (CA ad) s u H locs → lv_has ls 5 [(0, .ref (ad 37)), (1, .int x1), (2, .int x2), (3, .int x3)] → W p l e ({ frames := 4, cells := 0, slots := 0, locals := 91 } : Room) s m args below meth c H locs 0 0 (MQ below (va_Qi Q (CB D g ad) (CA ad)) args s 0 0 (CA ad)) (F0 m 116 ls []) := by
  obtain ⟨⟨hx, hb, hml, hown, hts⟩, hr, hlocks, hK, hJ, hAA⟩ := id X
  intro u x1 x2 x3 H locs ls h w hl
  unfold wX1_scan_b116 at h
  refine lv_aload_n (pc := 116) hx hb dX1_scan_116 rfl (lv_at hl 0 rfl) ?_
  refine lv_dup (pc := 117) hx hb dX1_scan_117 rfl ?_
  refine Cgf_37_5 (pc := 118) X w kw14 dX1_scan_118 ?_
  refine lv_iconst (pc := 121) (v := (1 : Int32)) hx hb dX1_scan_121 (by decide) ?_
  refine lv_iadd (pc := 122) hx hb dX1_scan_122 ?_
  refine Cpf_37_5 (pc := 123) X w kw14 dX1_scan_123 (fun H locs w => ?_)
  obtain ⟨u1, e_⟩ : ∃ y : Mm, y = s32 u 697 0 ((u.1 697 0) + (1 : Int32)) := ⟨_, rfl⟩
  rw [← e_] at w
  have h := h u1 e_
  obtain ⟨x3_2, e_⟩ : ∃ y : Int32, y = x3 + (1 : Int32) := ⟨_, rfl⟩
  have h := h x3_2 e_
  refine lv_iinc (pc := 126) (v := x3_2) (lv' := [(3, .int x3_2), (0, .ref (ad 37)), (1, .int x1), (2, .int x2)]) hx hb dX1_scan_126 hl (k := 3) rfl (by rw [e_]; rfl) (by decide) rfl (fun ls hl => ?_)
  refine lv_goto (pc := 129) (tgt := 16) hx hb dX1_scan_129 (by decide) ?_
  exact hk16 u1 x1 x2 x3_2 H locs ls h w (lv_sub hl [1, 2, 3, 0] rfl)
set_option maxHeartbeats 4000000 in
set_option maxRecDepth 100000 in
theorem bX1_scan_i0_16 {l : Launch} {p : Program} {e : Env} {s : State} {m : MethodId} {args : Array Value} {below : List Frame} {meth : Method} {c : Code} {D : va_G} {g : Nat → ClassId} {ad : Nat → Nat} {Q : Int32 → Mm → Prop} (X : CX p s m args meth c cX1_scan RX1 5 (some .int) (Cond.code yX1_scan cX1_scan 5 (some .int)) D g ad (CA ad)) : ∀ (n : Nat) (u : Mm) (x1 : Int32) (x2 : Int32) (x3 : Int32) (H : Heap) (locs : List Loc) (ls : Array Slot), wX1_scan_b16 0 Q n u x1 x2 x3 → CWd D g ad (CA ad) s u H locs → lv_has ls 5 [(0, .ref (ad 37)), (1, .int x1), (2, .int x2), (3, .int x3)] → W p l e ({ frames := 4, cells := 0, slots := 0, locals := 91 } : Room) s m args below meth c H locs 0 0 (MQ below (va_Qi Q (CB D g ad) (CA ad)) args s 0 0 (CA ad)) (F0 m 16 ls []) := by
  obtain ⟨⟨hx, hb, hml, hown, hts⟩, hr, hlocks, hK, hJ, hAA⟩ := id X
  intro n
  induction n with
  | zero =>
    intro u x1 x2 x3 H locs ls h
    exact False.elim h
  | succ n ih =>
    intro u x1 x2 x3 H locs ls h w hl
    unfold wX1_scan_b16 at h
    refine lv_iload_n (pc := 16) hx hb dX1_scan_16 rfl (lv_at hl 3 rfl) ?_
    refine lv_bipush (pc := 17) (v := (60 : Int32)) hx hb dX1_scan_17 (by decide) ?_
    refine lv_icmp_ge (pc := 19) (tgt := 132) hx hb dX1_scan_19 (by decide) (fun c_ => ?_) (fun c_ => ?_)
    · have h := h.1 c_
      refine lv_aload_n (pc := 132) hx hb dX1_scan_132 rfl (lv_at hl 0 rfl) ?_
      refine Cgf_37_5 (pc := 133) X w kw14 dX1_scan_133 ?_
      exact Ciret (pc := 136) X w h dX1_scan_136
    · have h := h.2 c_
      refine lv_aload_n (pc := 22) hx hb dX1_scan_22 rfl (lv_at hl 0 rfl) ?_
      refine lv_iload_n (pc := 23) hx hb dX1_scan_23 rfl (lv_at hl 2 rfl) ?_
      refine Ccalli (rest := []) (CrunV (pc := 24) X w (okX1_scanTerm_i0 l hJ h) kw49 kmX1_scanTerm ⟨rfl, rfl⟩ ⟨by decide, by decide⟩ (Crv_37 X w) rfl hl.1 rfl (Nat.le_of_ble_eq_true rfl) dX1_scan_24) w (fun r1 u2 H locs h w => ?_)
      refine lv_istore (pc := 27) (lv' := [(4, .int r1), (0, .ref (ad 37)), (1, .int x1), (2, .int x2), (3, .int x3)]) hx hb dX1_scan_27 hl (by decide) rfl (fun ls hl => ?_)
      refine lv_iload (pc := 29) hx hb dX1_scan_29 (lv_at hl 0 rfl) ?_
      refine lv_iconst (pc := 31) (v := (-1 : Int32)) hx hb dX1_scan_31 (by decide) ?_
      refine lv_icmp_eq (pc := 32) (tgt := 38) hx hb dX1_scan_32 (by decide) (fun c_ => ?_) (fun c_ => ?_)
      · have h := h.1 c_
        refine lv_aload_n (pc := 38) hx hb dX1_scan_38 rfl (lv_at hl 1 rfl) ?_
        refine Cgf_37_5 (pc := 39) X w kw14 dX1_scan_39 ?_
        refine lv_aload_n (pc := 42) hx hb dX1_scan_42 rfl (lv_at hl 1 rfl) ?_
        refine Cgf_37_1 (pc := 43) X w kw13 dX1_scan_43 ?_
        refine lv_icmp_lt (pc := 46) (tgt := 62) hx hb dX1_scan_46 (by decide) (fun c_ => ?_) (fun c_ => ?_)
        · have h := h.1 c_
          refine lv_aload_n (pc := 62) hx hb dX1_scan_62 rfl (lv_at hl 1 rfl) ?_
          refine lv_bipush (pc := 63) (v := (61 : Int32)) hx hb dX1_scan_63 (by decide) ?_
          refine Ccalli (rest := []) (CrunV (pc := 65) X w (okX1_isNext_i0 l hJ h) kw29 kmX1_isNext ⟨rfl, rfl⟩ ⟨by decide, by decide⟩ (Crv_37 X w) rfl hl.1 rfl (Nat.le_of_ble_eq_true rfl) dX1_scan_65) w (fun r3 u9_ H locs h w => ?_)
          obtain ⟨hz_r3, h⟩ := h
          obtain ⟨rfl, h⟩ := h
          refine lv_if_eq (pc := 68) (tgt := 82) hx hb dX1_scan_68 (by decide) (fun c_ => ?_) (fun c_ => ?_)
          · have h := h.1 c_
            refine bX1_scan_i0_82 X ?_ u2 x1 x3 H locs ls h w (lv_sub hl [1, 2, 4] rfl)
            · intro u x1 x2 x3 H locs ls h w hl
              refine bX1_scan_i0_116 X ?_ u x1 x2 x3 H locs ls h w (lv_sub hl [0, 1, 2, 3] rfl)
              · intro u x1 x2 x3 H locs ls h w hl
                exact ih u x1 x2 x3 H locs ls h w (lv_sub hl [0, 1, 2, 3] rfl)
          · have h := h.2 c_
            refine lv_iload_n (pc := 71) hx hb dX1_scan_71 rfl (lv_at hl 2 rfl) ?_
            refine lv_if_le (pc := 72) (tgt := 82) hx hb dX1_scan_72 (by decide) (fun c_ => ?_) (fun c_ => ?_)
            · have h := h.1 c_
              refine bX1_scan_i0_82 X ?_ u2 x1 x3 H locs ls h w (lv_sub hl [1, 2, 4] rfl)
              · intro u x1 x2 x3 H locs ls h w hl
                refine bX1_scan_i0_116 X ?_ u x1 x2 x3 H locs ls h w (lv_sub hl [0, 1, 2, 3] rfl)
                · intro u x1 x2 x3 H locs ls h w hl
                  exact ih u x1 x2 x3 H locs ls h w (lv_sub hl [0, 1, 2, 3] rfl)
            · have h := h.2 c_
              refine lv_iconst (pc := 75) (v := (-1 : Int32)) hx hb dX1_scan_75 (by decide) ?_
              refine lv_istore_n (pc := 76) (lv' := [(1, .int (-1 : Int32)), (4, .int r1), (0, .ref (ad 37)), (2, .int x2), (3, .int x3)]) hx hb dX1_scan_76 rfl hl (by decide) rfl (fun ls hl => ?_)
              refine lv_iconst (pc := 77) (v := (-1 : Int32)) hx hb dX1_scan_77 (by decide) ?_
              refine lv_istore_n (pc := 78) (lv' := [(2, .int (-1 : Int32)), (1, .int (-1 : Int32)), (4, .int r1), (0, .ref (ad 37)), (3, .int x3)]) hx hb dX1_scan_78 rfl hl (by decide) rfl (fun ls hl => ?_)
              refine lv_goto (pc := 79) (tgt := 116) hx hb dX1_scan_79 (by decide) ?_
              refine bX1_scan_i0_116 X ?_ u2 (-1 : Int32) (-1 : Int32) x3 H locs ls h w (lv_sub hl [3, 1, 0, 4] rfl)
              · intro u x1 x2 x3 H locs ls h w hl
                exact ih u x1 x2 x3 H locs ls h w (lv_sub hl [0, 1, 2, 3] rfl)
        · have h := h.2 c_
          refine lv_iload_n (pc := 49) hx hb dX1_scan_49 rfl (lv_at hl 2 rfl) ?_
          refine lv_if_ge (pc := 50) (tgt := 57) hx hb dX1_scan_50 (by decide) (fun c_ => ?_) (fun c_ => ?_)
          · have h := h.1 c_
            refine lv_aload_n (pc := 57) hx hb dX1_scan_57 rfl (lv_at hl 1 rfl) ?_
            refine Cgf_37_5 (pc := 58) X w kw14 dX1_scan_58 ?_
            exact Ciret (pc := 61) X w h dX1_scan_61
          · have h := h.2 c_
            refine lv_iconst (pc := 53) (v := (-1 : Int32)) hx hb dX1_scan_53 (by decide) ?_
            refine lv_goto (pc := 54) (tgt := 61) hx hb dX1_scan_54 (by decide) ?_
            exact Ciret (pc := 61) X w h dX1_scan_61
      · have h := h.2 c_
        refine lv_iload (pc := 35) hx hb dX1_scan_35 (lv_at hl 0 rfl) ?_
        exact Ciret (pc := 37) X w h dX1_scan_37
set_option maxHeartbeats 4000000 in
set_option maxRecDepth 100000 in
theorem okX1_scan_i0 (l : Launch) {D : va_G} {g : Nat → ClassId} {ad : Nat → Nat} (hJ : CJ ad) {u : Mm} {Q : Int32 → Mm → Prop} (h : wX1_scan 0 u Q) : Met l yX1_scan (Cond.code yX1_scan cX1_scan 5 (some .int) :: gt) ({ frames := 4, cells := 0, slots := 0, locals := 91 } : Room) (CPc D g ad u [.ref (ad 37)]) (va_Qi Q (CB D g ad) (CA ad)) 0 0 (CA ad) := by
  refine Met.ofW (cc := cX1_scan) (maxL := 5) (ret := (some .int)) (by decide) rfl ?_
  intro p e s m args below meth c s₁ B hml hv
  refine Centry (own := RX1) B hml hv hJ rfl (Nat.le_of_ble_eq_true rfl) (fun ls H locs X w hl => ?_)
  obtain ⟨⟨hx, hb, hml, hown, hts⟩, hr, hlocks, hK, hJ, hAA⟩ := id X
  have hl : lv_has ls 5 [(0, .ref (ad 37))] := hl
  unfold wX1_scan at h
  refine lv_aload_n (pc := 0) hx hb dX1_scan_0 rfl (lv_at hl 0 rfl) ?_
  refine lv_iconst (pc := 1) (v := (0 : Int32)) hx hb dX1_scan_1 (by decide) ?_
  refine Cpf_37_5 (pc := 2) X w kw14 dX1_scan_2 (fun H locs w => ?_)
  obtain ⟨u1, e_⟩ : ∃ y : Mm, y = s32 u 697 0 (0 : Int32) := ⟨_, rfl⟩
  rw [← e_] at w
  have h := h u1 e_
  refine lv_aload_n (pc := 5) hx hb dX1_scan_5 rfl (lv_at hl 0 rfl) ?_
  refine lv_iconst (pc := 6) (v := (0 : Int32)) hx hb dX1_scan_6 (by decide) ?_
  refine Cpf_37_4 (pc := 7) X w kw26 dX1_scan_7 (fun H locs w => ?_)
  obtain ⟨u2, e_⟩ : ∃ y : Mm, y = s32 u1 696 0 (0 : Int32) := ⟨_, rfl⟩
  rw [← e_] at w
  have h := h u2 e_
  refine lv_iconst (pc := 10) (v := (1 : Int32)) hx hb dX1_scan_10 (by decide) ?_
  refine lv_istore_n (pc := 11) (lv' := [(1, .int (1 : Int32)), (0, .ref (ad 37))]) hx hb dX1_scan_11 rfl hl (by decide) rfl (fun ls hl => ?_)
  refine lv_iconst (pc := 12) (v := (1 : Int32)) hx hb dX1_scan_12 (by decide) ?_
  refine lv_istore_n (pc := 13) (lv' := [(2, .int (1 : Int32)), (1, .int (1 : Int32)), (0, .ref (ad 37))]) hx hb dX1_scan_13 rfl hl (by decide) rfl (fun ls hl => ?_)
  refine lv_iconst (pc := 14) (v := (0 : Int32)) hx hb dX1_scan_14 (by decide) ?_
  refine lv_istore_n (pc := 15) (lv' := [(3, .int (0 : Int32)), (2, .int (1 : Int32)), (1, .int (1 : Int32)), (0, .ref (ad 37))]) hx hb dX1_scan_15 rfl hl (by decide) rfl (fun ls hl => ?_)
  obtain ⟨n9, h⟩ := h
  exact bX1_scan_i0_16 X n9 u2 (1 : Int32) (1 : Int32) (0 : Int32) H locs ls h w (lv_sub hl [3, 2, 1, 0] rfl)
set_option maxHeartbeats 4000000 in
set_option maxRecDepth 100000 in
theorem bX1_scan_i1_82 {l : Launch} {p : Program} {e : Env} {s : State} {m : MethodId} {args : Array Value} {below : List Frame} {meth : Method} {c : Code} {D : va_G} {g : Nat → ClassId} {ad : Nat → Nat} {Q : Int32 → Mm → Prop} {k116 : Mm → Int32 → Int32 → Int32 → Prop} (X : CX p s m args meth c cX1_scan RX1 5 (some .int) (Cond.code yX1_scan cX1_scan 5 (some .int)) D g ad (CA ad)) (hk116 : ∀ (u : Mm) (x1 : Int32) (x2 : Int32) (x3 : Int32) (H : Heap) (locs : List Loc) (ls : Array Slot), k116 u x1 x2 x3 → CWd D g ad (CA ad) s u H locs → lv_has ls 5 [(0, .ref (ad 41)), (1, .int x1), (2, .int x2), (3, .int x3)] → W p l e ({ frames := 4, cells := 0, slots := 0, locals := 91 } : Room) s m args below meth c H locs 0 0 (MQ below (va_Qi Q (CB D g ad) (CA ad)) args s 0 0 (CA ad)) (F0 m 116 ls [])) : ∀ (u : Mm) (x1 : Int32) (x3 : Int32) (H : Heap) (locs : List Loc) (ls : Array Slot), wX1_scan_b82 1 k116 Q u x1 x3 → CWd D g ad (CA ad) s u H locs → lv_has ls 5 [(0, .ref (ad 41)), (1, .int x1), (3, .int x3)] → W p l e ({ frames := 4, cells := 0, slots := 0, locals := 91 } : Room) s m args below meth c H locs 0 0 (MQ below (va_Qi Q (CB D g ad) (CA ad)) args s 0 0 (CA ad)) (F0 m 82 ls []) := by
  obtain ⟨⟨hx, hb, hml, hown, hts⟩, hr, hlocks, hK, hJ, hAA⟩ := id X
  intro u x1 x3 H locs ls h w hl
  unfold wX1_scan_b82 at h
  refine lv_aload_n (pc := 82) hx hb dX1_scan_82 rfl (lv_at hl 0 rfl) ?_
  refine lv_bipush (pc := 83) (v := (43 : Int32)) hx hb dX1_scan_83 (by decide) ?_
  refine Ccalli (rest := []) (CrunV (pc := 85) X w (okX1_isNext_i1 l hJ h) kw29 kmX1_isNext ⟨rfl, rfl⟩ ⟨by decide, by decide⟩ (Crv_41 X w) rfl hl.1 rfl (Nat.le_of_ble_eq_true rfl) dX1_scan_85) w (fun r1 u9_ H locs h w => ?_)
  obtain ⟨hz_r1, h⟩ := h
  obtain ⟨rfl, h⟩ := h
  refine lv_if_eq (pc := 88) (tgt := 96) hx hb dX1_scan_88 (by decide) (fun c_ => ?_) (fun c_ => ?_)
  · have h := h.1 c_
    refine lv_aload_n (pc := 96) hx hb dX1_scan_96 rfl (lv_at hl 0 rfl) ?_
    refine lv_bipush (pc := 97) (v := (45 : Int32)) hx hb dX1_scan_97 (by decide) ?_
    refine Ccalli (rest := []) (CrunV (pc := 99) X w (okX1_isNext_i1 l hJ h) kw29 kmX1_isNext ⟨rfl, rfl⟩ ⟨by decide, by decide⟩ (Crv_41 X w) rfl hl.1 rfl (Nat.le_of_ble_eq_true rfl) dX1_scan_99) w (fun r2 u9_ H locs h w => ?_)
    obtain ⟨hz_r2, h⟩ := h
    obtain ⟨rfl, h⟩ := h
    refine lv_if_eq (pc := 102) (tgt := 111) hx hb dX1_scan_102 (by decide) (fun c_ => ?_) (fun c_ => ?_)
    · have h := h.1 c_
      refine lv_aload_n (pc := 111) hx hb dX1_scan_111 rfl (lv_at hl 0 rfl) ?_
      refine Cgf_41_5 (pc := 112) X w kw14 dX1_scan_112 ?_
      exact Ciret (pc := 115) X w h dX1_scan_115
    · have h := h.2 c_
      refine lv_iload_n (pc := 105) hx hb dX1_scan_105 rfl (lv_at hl 1 rfl) ?_
      refine lv_ineg (pc := 106) hx hb dX1_scan_106 ?_
      refine lv_topi (fun x2_3 e_ => ?_)
      have h := h x2_3 e_
      refine lv_istore_n (pc := 107) (lv' := [(2, .int x2_3), (0, .ref (ad 41)), (1, .int x1), (3, .int x3)]) hx hb dX1_scan_107 rfl hl (by decide) rfl (fun ls hl => ?_)
      refine lv_goto (pc := 108) (tgt := 116) hx hb dX1_scan_108 (by decide) ?_
      exact hk116 u x1 x2_3 x3 H locs ls h w (lv_sub hl [1, 2, 0, 3] rfl)
  · have h := h.2 c_
    refine lv_iload_n (pc := 91) hx hb dX1_scan_91 rfl (lv_at hl 1 rfl) ?_
    refine lv_istore_n (pc := 92) (lv' := [(2, .int x1), (0, .ref (ad 41)), (1, .int x1), (3, .int x3)]) hx hb dX1_scan_92 rfl hl (by decide) rfl (fun ls hl => ?_)
    refine lv_goto (pc := 93) (tgt := 116) hx hb dX1_scan_93 (by decide) ?_
    exact hk116 u x1 x1 x3 H locs ls h w (lv_sub hl [1, 2, 0, 3] rfl)
set_option maxHeartbeats 4000000 in
set_option maxRecDepth 100000 in
theorem bX1_scan_i1_116 {l : Launch} {p : Program} {e : Env} {s : State} {m : MethodId} {args : Array Value} {below : List Frame} {meth : Method} {c : Code} {D : va_G} {g : Nat → ClassId} {ad : Nat → Nat} {Q : Int32 → Mm → Prop} {k16 : Mm → Int32 → Int32 → Int32 → Prop} (X : CX p s m args meth c cX1_scan RX1 5 (some .int) (Cond.code yX1_scan cX1_scan 5 (some .int)) D g ad (CA ad)) (hk16 : ∀ (u : Mm) (x1 : Int32) (x2 : Int32) (x3 : Int32) (H : Heap) (locs : List Loc) (ls : Array Slot), k16 u x1 x2 x3 → CWd D g ad (CA ad) s u H locs → lv_has ls 5 [(0, .ref (ad 41)), (1, .int x1), (2, .int x2), (3, .int x3)] → W p l e ({ frames := 4, cells := 0, slots := 0, locals := 91 } : Room) s m args below meth c H locs 0 0 (MQ below (va_Qi Q (CB D g ad) (CA ad)) args s 0 0 (CA ad)) (F0 m 16 ls [])) : ∀ (u : Mm) (x1 : Int32) (x2 : Int32) (x3 : Int32) (H : Heap) (locs : List Loc) (ls : Array Slot), wX1_scan_b116 1 k16 Q u x1 x2 x3 → CWd D g ad (CA ad) s u H locs → lv_has ls 5 [(0, .ref (ad 41)), (1, .int x1), (2, .int x2), (3, .int x3)] → W p l e ({ frames := 4, cells := 0, slots := 0, locals := 91 } : Room) s m args below meth c H locs 0 0 (MQ below (va_Qi Q (CB D g ad) (CA ad)) args s 0 0 (CA ad)) (F0 m 116 ls []) := by
  obtain ⟨⟨hx, hb, hml, hown, hts⟩, hr, hlocks, hK, hJ, hAA⟩ := id X
  intro u x1 x2 x3 H locs ls h w hl
  unfold wX1_scan_b116 at h
  refine lv_aload_n (pc := 116) hx hb dX1_scan_116 rfl (lv_at hl 0 rfl) ?_
  refine lv_dup (pc := 117) hx hb dX1_scan_117 rfl ?_
  refine Cgf_41_5 (pc := 118) X w kw14 dX1_scan_118 ?_
  refine lv_iconst (pc := 121) (v := (1 : Int32)) hx hb dX1_scan_121 (by decide) ?_
  refine lv_iadd (pc := 122) hx hb dX1_scan_122 ?_
  refine Cpf_41_5 (pc := 123) X w kw14 dX1_scan_123 (fun H locs w => ?_)
  obtain ⟨u1, e_⟩ : ∃ y : Mm, y = s32 u 761 0 ((u.1 761 0) + (1 : Int32)) := ⟨_, rfl⟩
  rw [← e_] at w
  have h := h u1 e_
  obtain ⟨x3_2, e_⟩ : ∃ y : Int32, y = x3 + (1 : Int32) := ⟨_, rfl⟩
  have h := h x3_2 e_
  refine lv_iinc (pc := 126) (v := x3_2) (lv' := [(3, .int x3_2), (0, .ref (ad 41)), (1, .int x1), (2, .int x2)]) hx hb dX1_scan_126 hl (k := 3) rfl (by rw [e_]; rfl) (by decide) rfl (fun ls hl => ?_)
  refine lv_goto (pc := 129) (tgt := 16) hx hb dX1_scan_129 (by decide) ?_
  exact hk16 u1 x1 x2 x3_2 H locs ls h w (lv_sub hl [1, 2, 3, 0] rfl)
set_option maxHeartbeats 4000000 in
set_option maxRecDepth 100000 in
theorem bX1_scan_i1_16 {l : Launch} {p : Program} {e : Env} {s : State} {m : MethodId} {args : Array Value} {below : List Frame} {meth : Method} {c : Code} {D : va_G} {g : Nat → ClassId} {ad : Nat → Nat} {Q : Int32 → Mm → Prop} (X : CX p s m args meth c cX1_scan RX1 5 (some .int) (Cond.code yX1_scan cX1_scan 5 (some .int)) D g ad (CA ad)) : ∀ (n : Nat) (u : Mm) (x1 : Int32) (x2 : Int32) (x3 : Int32) (H : Heap) (locs : List Loc) (ls : Array Slot), wX1_scan_b16 1 Q n u x1 x2 x3 → CWd D g ad (CA ad) s u H locs → lv_has ls 5 [(0, .ref (ad 41)), (1, .int x1), (2, .int x2), (3, .int x3)] → W p l e ({ frames := 4, cells := 0, slots := 0, locals := 91 } : Room) s m args below meth c H locs 0 0 (MQ below (va_Qi Q (CB D g ad) (CA ad)) args s 0 0 (CA ad)) (F0 m 16 ls []) := by
  obtain ⟨⟨hx, hb, hml, hown, hts⟩, hr, hlocks, hK, hJ, hAA⟩ := id X
  intro n
  induction n with
  | zero =>
    intro u x1 x2 x3 H locs ls h
    exact False.elim h
  | succ n ih =>
    intro u x1 x2 x3 H locs ls h w hl
    unfold wX1_scan_b16 at h
    refine lv_iload_n (pc := 16) hx hb dX1_scan_16 rfl (lv_at hl 3 rfl) ?_
    refine lv_bipush (pc := 17) (v := (60 : Int32)) hx hb dX1_scan_17 (by decide) ?_
    refine lv_icmp_ge (pc := 19) (tgt := 132) hx hb dX1_scan_19 (by decide) (fun c_ => ?_) (fun c_ => ?_)
    · have h := h.1 c_
      refine lv_aload_n (pc := 132) hx hb dX1_scan_132 rfl (lv_at hl 0 rfl) ?_
      refine Cgf_41_5 (pc := 133) X w kw14 dX1_scan_133 ?_
      exact Ciret (pc := 136) X w h dX1_scan_136
    · have h := h.2 c_
      refine lv_aload_n (pc := 22) hx hb dX1_scan_22 rfl (lv_at hl 0 rfl) ?_
      refine lv_iload_n (pc := 23) hx hb dX1_scan_23 rfl (lv_at hl 2 rfl) ?_
      refine Ccalli (rest := []) (CrunV (pc := 24) X w (okX1_scanTerm_i1 l hJ h) kw49 kmX1_scanTerm ⟨rfl, rfl⟩ ⟨by decide, by decide⟩ (Crv_41 X w) rfl hl.1 rfl (Nat.le_of_ble_eq_true rfl) dX1_scan_24) w (fun r1 u2 H locs h w => ?_)
      refine lv_istore (pc := 27) (lv' := [(4, .int r1), (0, .ref (ad 41)), (1, .int x1), (2, .int x2), (3, .int x3)]) hx hb dX1_scan_27 hl (by decide) rfl (fun ls hl => ?_)
      refine lv_iload (pc := 29) hx hb dX1_scan_29 (lv_at hl 0 rfl) ?_
      refine lv_iconst (pc := 31) (v := (-1 : Int32)) hx hb dX1_scan_31 (by decide) ?_
      refine lv_icmp_eq (pc := 32) (tgt := 38) hx hb dX1_scan_32 (by decide) (fun c_ => ?_) (fun c_ => ?_)
      · have h := h.1 c_
        refine lv_aload_n (pc := 38) hx hb dX1_scan_38 rfl (lv_at hl 1 rfl) ?_
        refine Cgf_41_5 (pc := 39) X w kw14 dX1_scan_39 ?_
        refine lv_aload_n (pc := 42) hx hb dX1_scan_42 rfl (lv_at hl 1 rfl) ?_
        refine Cgf_41_1 (pc := 43) X w kw13 dX1_scan_43 ?_
        refine lv_icmp_lt (pc := 46) (tgt := 62) hx hb dX1_scan_46 (by decide) (fun c_ => ?_) (fun c_ => ?_)
        · have h := h.1 c_
          refine lv_aload_n (pc := 62) hx hb dX1_scan_62 rfl (lv_at hl 1 rfl) ?_
          refine lv_bipush (pc := 63) (v := (61 : Int32)) hx hb dX1_scan_63 (by decide) ?_
          refine Ccalli (rest := []) (CrunV (pc := 65) X w (okX1_isNext_i1 l hJ h) kw29 kmX1_isNext ⟨rfl, rfl⟩ ⟨by decide, by decide⟩ (Crv_41 X w) rfl hl.1 rfl (Nat.le_of_ble_eq_true rfl) dX1_scan_65) w (fun r3 u9_ H locs h w => ?_)
          obtain ⟨hz_r3, h⟩ := h
          obtain ⟨rfl, h⟩ := h
          refine lv_if_eq (pc := 68) (tgt := 82) hx hb dX1_scan_68 (by decide) (fun c_ => ?_) (fun c_ => ?_)
          · have h := h.1 c_
            refine bX1_scan_i1_82 X ?_ u2 x1 x3 H locs ls h w (lv_sub hl [1, 2, 4] rfl)
            · intro u x1 x2 x3 H locs ls h w hl
              refine bX1_scan_i1_116 X ?_ u x1 x2 x3 H locs ls h w (lv_sub hl [0, 1, 2, 3] rfl)
              · intro u x1 x2 x3 H locs ls h w hl
                exact ih u x1 x2 x3 H locs ls h w (lv_sub hl [0, 1, 2, 3] rfl)
          · have h := h.2 c_
            refine lv_iload_n (pc := 71) hx hb dX1_scan_71 rfl (lv_at hl 2 rfl) ?_
            refine lv_if_le (pc := 72) (tgt := 82) hx hb dX1_scan_72 (by decide) (fun c_ => ?_) (fun c_ => ?_)
            · have h := h.1 c_
              refine bX1_scan_i1_82 X ?_ u2 x1 x3 H locs ls h w (lv_sub hl [1, 2, 4] rfl)
              · intro u x1 x2 x3 H locs ls h w hl
                refine bX1_scan_i1_116 X ?_ u x1 x2 x3 H locs ls h w (lv_sub hl [0, 1, 2, 3] rfl)
                · intro u x1 x2 x3 H locs ls h w hl
                  exact ih u x1 x2 x3 H locs ls h w (lv_sub hl [0, 1, 2, 3] rfl)
            · have h := h.2 c_
              refine lv_iconst (pc := 75) (v := (-1 : Int32)) hx hb dX1_scan_75 (by decide) ?_
              refine lv_istore_n (pc := 76) (lv' := [(1, .int (-1 : Int32)), (4, .int r1), (0, .ref (ad 41)), (2, .int x2), (3, .int x3)]) hx hb dX1_scan_76 rfl hl (by decide) rfl (fun ls hl => ?_)
              refine lv_iconst (pc := 77) (v := (-1 : Int32)) hx hb dX1_scan_77 (by decide) ?_
              refine lv_istore_n (pc := 78) (lv' := [(2, .int (-1 : Int32)), (1, .int (-1 : Int32)), (4, .int r1), (0, .ref (ad 41)), (3, .int x3)]) hx hb dX1_scan_78 rfl hl (by decide) rfl (fun ls hl => ?_)
              refine lv_goto (pc := 79) (tgt := 116) hx hb dX1_scan_79 (by decide) ?_
              refine bX1_scan_i1_116 X ?_ u2 (-1 : Int32) (-1 : Int32) x3 H locs ls h w (lv_sub hl [3, 1, 0, 4] rfl)
              · intro u x1 x2 x3 H locs ls h w hl
                exact ih u x1 x2 x3 H locs ls h w (lv_sub hl [0, 1, 2, 3] rfl)
        · have h := h.2 c_
          refine lv_iload_n (pc := 49) hx hb dX1_scan_49 rfl (lv_at hl 2 rfl) ?_
          refine lv_if_ge (pc := 50) (tgt := 57) hx hb dX1_scan_50 (by decide) (fun c_ => ?_) (fun c_ => ?_)
          · have h := h.1 c_
            refine lv_aload_n (pc := 57) hx hb dX1_scan_57 rfl (lv_at hl 1 rfl) ?_
            refine Cgf_41_5 (pc := 58) X w kw14 dX1_scan_58 ?_
            exact Ciret (pc := 61) X w h dX1_scan_61
          · have h := h.2 c_
            refine lv_iconst (pc := 53) (v := (-1 : Int32)) hx hb dX1_scan_53 (by decide) ?_
            refine lv_goto (pc := 54) (tgt := 61) hx hb dX1_scan_54 (by decide) ?_
            exact Ciret (pc := 61) X w h dX1_scan_61
      · have h := h.2 c_
        refine lv_iload (pc := 35) hx hb dX1_scan_35 (lv_at hl 0 rfl) ?_
        exact Ciret (pc := 37) X w h dX1_scan_37
set_option maxHeartbeats 4000000 in
set_option maxRecDepth 100000 in
theorem okX1_scan_i1 (l : Launch) {D : va_G} {g : Nat → ClassId} {ad : Nat → Nat} (hJ : CJ ad) {u : Mm} {Q : Int32 → Mm → Prop} (h : wX1_scan 1 u Q) : Met l yX1_scan (Cond.code yX1_scan cX1_scan 5 (some .int) :: gt) ({ frames := 4, cells := 0, slots := 0, locals := 91 } : Room) (CPc D g ad u [.ref (ad 41)]) (va_Qi Q (CB D g ad) (CA ad)) 0 0 (CA ad) := by
  refine Met.ofW (cc := cX1_scan) (maxL := 5) (ret := (some .int)) (by decide) rfl ?_
  intro p e s m args below meth c s₁ B hml hv
  refine Centry (own := RX1) B hml hv hJ rfl (Nat.le_of_ble_eq_true rfl) (fun ls H locs X w hl => ?_)
  obtain ⟨⟨hx, hb, hml, hown, hts⟩, hr, hlocks, hK, hJ, hAA⟩ := id X
  have hl : lv_has ls 5 [(0, .ref (ad 41))] := hl
  unfold wX1_scan at h
  refine lv_aload_n (pc := 0) hx hb dX1_scan_0 rfl (lv_at hl 0 rfl) ?_
  refine lv_iconst (pc := 1) (v := (0 : Int32)) hx hb dX1_scan_1 (by decide) ?_
  refine Cpf_41_5 (pc := 2) X w kw14 dX1_scan_2 (fun H locs w => ?_)
  obtain ⟨u1, e_⟩ : ∃ y : Mm, y = s32 u 761 0 (0 : Int32) := ⟨_, rfl⟩
  rw [← e_] at w
  have h := h u1 e_
  refine lv_aload_n (pc := 5) hx hb dX1_scan_5 rfl (lv_at hl 0 rfl) ?_
  refine lv_iconst (pc := 6) (v := (0 : Int32)) hx hb dX1_scan_6 (by decide) ?_
  refine Cpf_41_4 (pc := 7) X w kw26 dX1_scan_7 (fun H locs w => ?_)
  obtain ⟨u2, e_⟩ : ∃ y : Mm, y = s32 u1 760 0 (0 : Int32) := ⟨_, rfl⟩
  rw [← e_] at w
  have h := h u2 e_
  refine lv_iconst (pc := 10) (v := (1 : Int32)) hx hb dX1_scan_10 (by decide) ?_
  refine lv_istore_n (pc := 11) (lv' := [(1, .int (1 : Int32)), (0, .ref (ad 41))]) hx hb dX1_scan_11 rfl hl (by decide) rfl (fun ls hl => ?_)
  refine lv_iconst (pc := 12) (v := (1 : Int32)) hx hb dX1_scan_12 (by decide) ?_
  refine lv_istore_n (pc := 13) (lv' := [(2, .int (1 : Int32)), (1, .int (1 : Int32)), (0, .ref (ad 41))]) hx hb dX1_scan_13 rfl hl (by decide) rfl (fun ls hl => ?_)
  refine lv_iconst (pc := 14) (v := (0 : Int32)) hx hb dX1_scan_14 (by decide) ?_
  refine lv_istore_n (pc := 15) (lv' := [(3, .int (0 : Int32)), (2, .int (1 : Int32)), (1, .int (1 : Int32)), (0, .ref (ad 41))]) hx hb dX1_scan_15 rfl hl (by decide) rfl (fun ls hl => ?_)
  obtain ⟨n9, h⟩ := h
  exact bX1_scan_i1_16 X n9 u2 (1 : Int32) (1 : Int32) (0 : Int32) H locs ls h w (lv_sub hl [3, 2, 1, 0] rfl)
set_option maxHeartbeats 4000000 in
set_option maxRecDepth 100000 in
theorem bX1_scan_i2_82 {l : Launch} {p : Program} {e : Env} {s : State} {m : MethodId} {args : Array Value} {below : List Frame} {meth : Method} {c : Code} {D : va_G} {g : Nat → ClassId} {ad : Nat → Nat} {Q : Int32 → Mm → Prop} {k116 : Mm → Int32 → Int32 → Int32 → Prop} (X : CX p s m args meth c cX1_scan RX1 5 (some .int) (Cond.code yX1_scan cX1_scan 5 (some .int)) D g ad (CA ad)) (hk116 : ∀ (u : Mm) (x1 : Int32) (x2 : Int32) (x3 : Int32) (H : Heap) (locs : List Loc) (ls : Array Slot), k116 u x1 x2 x3 → CWd D g ad (CA ad) s u H locs → lv_has ls 5 [(0, .ref (ad 45)), (1, .int x1), (2, .int x2), (3, .int x3)] → W p l e ({ frames := 4, cells := 0, slots := 0, locals := 91 } : Room) s m args below meth c H locs 0 0 (MQ below (va_Qi Q (CB D g ad) (CA ad)) args s 0 0 (CA ad)) (F0 m 116 ls [])) : ∀ (u : Mm) (x1 : Int32) (x3 : Int32) (H : Heap) (locs : List Loc) (ls : Array Slot), wX1_scan_b82 2 k116 Q u x1 x3 → CWd D g ad (CA ad) s u H locs → lv_has ls 5 [(0, .ref (ad 45)), (1, .int x1), (3, .int x3)] → W p l e ({ frames := 4, cells := 0, slots := 0, locals := 91 } : Room) s m args below meth c H locs 0 0 (MQ below (va_Qi Q (CB D g ad) (CA ad)) args s 0 0 (CA ad)) (F0 m 82 ls []) := by
  obtain ⟨⟨hx, hb, hml, hown, hts⟩, hr, hlocks, hK, hJ, hAA⟩ := id X
  intro u x1 x3 H locs ls h w hl
  unfold wX1_scan_b82 at h
  refine lv_aload_n (pc := 82) hx hb dX1_scan_82 rfl (lv_at hl 0 rfl) ?_
  refine lv_bipush (pc := 83) (v := (43 : Int32)) hx hb dX1_scan_83 (by decide) ?_
  refine Ccalli (rest := []) (CrunV (pc := 85) X w (okX1_isNext_i2 l hJ h) kw29 kmX1_isNext ⟨rfl, rfl⟩ ⟨by decide, by decide⟩ (Crv_45 X w) rfl hl.1 rfl (Nat.le_of_ble_eq_true rfl) dX1_scan_85) w (fun r1 u9_ H locs h w => ?_)
  obtain ⟨hz_r1, h⟩ := h
  obtain ⟨rfl, h⟩ := h
  refine lv_if_eq (pc := 88) (tgt := 96) hx hb dX1_scan_88 (by decide) (fun c_ => ?_) (fun c_ => ?_)
  · have h := h.1 c_
    refine lv_aload_n (pc := 96) hx hb dX1_scan_96 rfl (lv_at hl 0 rfl) ?_
    refine lv_bipush (pc := 97) (v := (45 : Int32)) hx hb dX1_scan_97 (by decide) ?_
    refine Ccalli (rest := []) (CrunV (pc := 99) X w (okX1_isNext_i2 l hJ h) kw29 kmX1_isNext ⟨rfl, rfl⟩ ⟨by decide, by decide⟩ (Crv_45 X w) rfl hl.1 rfl (Nat.le_of_ble_eq_true rfl) dX1_scan_99) w (fun r2 u9_ H locs h w => ?_)
    obtain ⟨hz_r2, h⟩ := h
    obtain ⟨rfl, h⟩ := h
    refine lv_if_eq (pc := 102) (tgt := 111) hx hb dX1_scan_102 (by decide) (fun c_ => ?_) (fun c_ => ?_)
    · have h := h.1 c_
      refine lv_aload_n (pc := 111) hx hb dX1_scan_111 rfl (lv_at hl 0 rfl) ?_
      refine Cgf_45_5 (pc := 112) X w kw14 dX1_scan_112 ?_
      exact Ciret (pc := 115) X w h dX1_scan_115
    · have h := h.2 c_
      refine lv_iload_n (pc := 105) hx hb dX1_scan_105 rfl (lv_at hl 1 rfl) ?_
      refine lv_ineg (pc := 106) hx hb dX1_scan_106 ?_
      refine lv_topi (fun x2_3 e_ => ?_)
      have h := h x2_3 e_
      refine lv_istore_n (pc := 107) (lv' := [(2, .int x2_3), (0, .ref (ad 45)), (1, .int x1), (3, .int x3)]) hx hb dX1_scan_107 rfl hl (by decide) rfl (fun ls hl => ?_)
      refine lv_goto (pc := 108) (tgt := 116) hx hb dX1_scan_108 (by decide) ?_
      exact hk116 u x1 x2_3 x3 H locs ls h w (lv_sub hl [1, 2, 0, 3] rfl)
  · have h := h.2 c_
    refine lv_iload_n (pc := 91) hx hb dX1_scan_91 rfl (lv_at hl 1 rfl) ?_
    refine lv_istore_n (pc := 92) (lv' := [(2, .int x1), (0, .ref (ad 45)), (1, .int x1), (3, .int x3)]) hx hb dX1_scan_92 rfl hl (by decide) rfl (fun ls hl => ?_)
    refine lv_goto (pc := 93) (tgt := 116) hx hb dX1_scan_93 (by decide) ?_
    exact hk116 u x1 x1 x3 H locs ls h w (lv_sub hl [1, 2, 0, 3] rfl)
set_option maxHeartbeats 4000000 in
set_option maxRecDepth 100000 in
theorem bX1_scan_i2_116 {l : Launch} {p : Program} {e : Env} {s : State} {m : MethodId} {args : Array Value} {below : List Frame} {meth : Method} {c : Code} {D : va_G} {g : Nat → ClassId} {ad : Nat → Nat} {Q : Int32 → Mm → Prop} {k16 : Mm → Int32 → Int32 → Int32 → Prop} (X : CX p s m args meth c cX1_scan RX1 5 (some .int) (Cond.code yX1_scan cX1_scan 5 (some .int)) D g ad (CA ad)) (hk16 : ∀ (u : Mm) (x1 : Int32) (x2 : Int32) (x3 : Int32) (H : Heap) (locs : List Loc) (ls : Array Slot), k16 u x1 x2 x3 → CWd D g ad (CA ad) s u H locs → lv_has ls 5 [(0, .ref (ad 45)), (1, .int x1), (2, .int x2), (3, .int x3)] → W p l e ({ frames := 4, cells := 0, slots := 0, locals := 91 } : Room) s m args below meth c H locs 0 0 (MQ below (va_Qi Q (CB D g ad) (CA ad)) args s 0 0 (CA ad)) (F0 m 16 ls [])) : ∀ (u : Mm) (x1 : Int32) (x2 : Int32) (x3 : Int32) (H : Heap) (locs : List Loc) (ls : Array Slot), wX1_scan_b116 2 k16 Q u x1 x2 x3 → CWd D g ad (CA ad) s u H locs → lv_has ls 5 [(0, .ref (ad 45)), (1, .int x1), (2, .int x2), (3, .int x3)] → W p l e ({ frames := 4, cells := 0, slots := 0, locals := 91 } : Room) s m args below meth c H locs 0 0 (MQ below (va_Qi Q (CB D g ad) (CA ad)) args s 0 0 (CA ad)) (F0 m 116 ls []) := by
  obtain ⟨⟨hx, hb, hml, hown, hts⟩, hr, hlocks, hK, hJ, hAA⟩ := id X
  intro u x1 x2 x3 H locs ls h w hl
  unfold wX1_scan_b116 at h
  refine lv_aload_n (pc := 116) hx hb dX1_scan_116 rfl (lv_at hl 0 rfl) ?_
  refine lv_dup (pc := 117) hx hb dX1_scan_117 rfl ?_
  refine Cgf_45_5 (pc := 118) X w kw14 dX1_scan_118 ?_
  refine lv_iconst (pc := 121) (v := (1 : Int32)) hx hb dX1_scan_121 (by decide) ?_
  refine lv_iadd (pc := 122) hx hb dX1_scan_122 ?_
  refine Cpf_45_5 (pc := 123) X w kw14 dX1_scan_123 (fun H locs w => ?_)
  obtain ⟨u1, e_⟩ : ∃ y : Mm, y = s32 u 825 0 ((u.1 825 0) + (1 : Int32)) := ⟨_, rfl⟩
  rw [← e_] at w
  have h := h u1 e_
  obtain ⟨x3_2, e_⟩ : ∃ y : Int32, y = x3 + (1 : Int32) := ⟨_, rfl⟩
  have h := h x3_2 e_
  refine lv_iinc (pc := 126) (v := x3_2) (lv' := [(3, .int x3_2), (0, .ref (ad 45)), (1, .int x1), (2, .int x2)]) hx hb dX1_scan_126 hl (k := 3) rfl (by rw [e_]; rfl) (by decide) rfl (fun ls hl => ?_)
  refine lv_goto (pc := 129) (tgt := 16) hx hb dX1_scan_129 (by decide) ?_
  exact hk16 u1 x1 x2 x3_2 H locs ls h w (lv_sub hl [1, 2, 3, 0] rfl)
set_option maxHeartbeats 4000000 in
set_option maxRecDepth 100000 in
theorem bX1_scan_i2_16 {l : Launch} {p : Program} {e : Env} {s : State} {m : MethodId} {args : Array Value} {below : List Frame} {meth : Method} {c : Code} {D : va_G} {g : Nat → ClassId} {ad : Nat → Nat} {Q : Int32 → Mm → Prop} (X : CX p s m args meth c cX1_scan RX1 5 (some .int) (Cond.code yX1_scan cX1_scan 5 (some .int)) D g ad (CA ad)) : ∀ (n : Nat) (u : Mm) (x1 : Int32) (x2 : Int32) (x3 : Int32) (H : Heap) (locs : List Loc) (ls : Array Slot), wX1_scan_b16 2 Q n u x1 x2 x3 → CWd D g ad (CA ad) s u H locs → lv_has ls 5 [(0, .ref (ad 45)), (1, .int x1), (2, .int x2), (3, .int x3)] → W p l e ({ frames := 4, cells := 0, slots := 0, locals := 91 } : Room) s m args below meth c H locs 0 0 (MQ below (va_Qi Q (CB D g ad) (CA ad)) args s 0 0 (CA ad)) (F0 m 16 ls []) := by
  obtain ⟨⟨hx, hb, hml, hown, hts⟩, hr, hlocks, hK, hJ, hAA⟩ := id X
  intro n
  induction n with
  | zero =>
    intro u x1 x2 x3 H locs ls h
    exact False.elim h
  | succ n ih =>
    intro u x1 x2 x3 H locs ls h w hl
    unfold wX1_scan_b16 at h
    refine lv_iload_n (pc := 16) hx hb dX1_scan_16 rfl (lv_at hl 3 rfl) ?_
    refine lv_bipush (pc := 17) (v := (60 : Int32)) hx hb dX1_scan_17 (by decide) ?_
    refine lv_icmp_ge (pc := 19) (tgt := 132) hx hb dX1_scan_19 (by decide) (fun c_ => ?_) (fun c_ => ?_)
    · have h := h.1 c_
      refine lv_aload_n (pc := 132) hx hb dX1_scan_132 rfl (lv_at hl 0 rfl) ?_
      refine Cgf_45_5 (pc := 133) X w kw14 dX1_scan_133 ?_
      exact Ciret (pc := 136) X w h dX1_scan_136
    · have h := h.2 c_
      refine lv_aload_n (pc := 22) hx hb dX1_scan_22 rfl (lv_at hl 0 rfl) ?_
      refine lv_iload_n (pc := 23) hx hb dX1_scan_23 rfl (lv_at hl 2 rfl) ?_
      refine Ccalli (rest := []) (CrunV (pc := 24) X w (okX1_scanTerm_i2 l hJ h) kw49 kmX1_scanTerm ⟨rfl, rfl⟩ ⟨by decide, by decide⟩ (Crv_45 X w) rfl hl.1 rfl (Nat.le_of_ble_eq_true rfl) dX1_scan_24) w (fun r1 u2 H locs h w => ?_)
      refine lv_istore (pc := 27) (lv' := [(4, .int r1), (0, .ref (ad 45)), (1, .int x1), (2, .int x2), (3, .int x3)]) hx hb dX1_scan_27 hl (by decide) rfl (fun ls hl => ?_)
      refine lv_iload (pc := 29) hx hb dX1_scan_29 (lv_at hl 0 rfl) ?_
      refine lv_iconst (pc := 31) (v := (-1 : Int32)) hx hb dX1_scan_31 (by decide) ?_
      refine lv_icmp_eq (pc := 32) (tgt := 38) hx hb dX1_scan_32 (by decide) (fun c_ => ?_) (fun c_ => ?_)
      · have h := h.1 c_
        refine lv_aload_n (pc := 38) hx hb dX1_scan_38 rfl (lv_at hl 1 rfl) ?_
        refine Cgf_45_5 (pc := 39) X w kw14 dX1_scan_39 ?_
        refine lv_aload_n (pc := 42) hx hb dX1_scan_42 rfl (lv_at hl 1 rfl) ?_
        refine Cgf_45_1 (pc := 43) X w kw13 dX1_scan_43 ?_
        refine lv_icmp_lt (pc := 46) (tgt := 62) hx hb dX1_scan_46 (by decide) (fun c_ => ?_) (fun c_ => ?_)
        · have h := h.1 c_
          refine lv_aload_n (pc := 62) hx hb dX1_scan_62 rfl (lv_at hl 1 rfl) ?_
          refine lv_bipush (pc := 63) (v := (61 : Int32)) hx hb dX1_scan_63 (by decide) ?_
          refine Ccalli (rest := []) (CrunV (pc := 65) X w (okX1_isNext_i2 l hJ h) kw29 kmX1_isNext ⟨rfl, rfl⟩ ⟨by decide, by decide⟩ (Crv_45 X w) rfl hl.1 rfl (Nat.le_of_ble_eq_true rfl) dX1_scan_65) w (fun r3 u9_ H locs h w => ?_)
          obtain ⟨hz_r3, h⟩ := h
          obtain ⟨rfl, h⟩ := h
          refine lv_if_eq (pc := 68) (tgt := 82) hx hb dX1_scan_68 (by decide) (fun c_ => ?_) (fun c_ => ?_)
          · have h := h.1 c_
            refine bX1_scan_i2_82 X ?_ u2 x1 x3 H locs ls h w (lv_sub hl [1, 2, 4] rfl)
            · intro u x1 x2 x3 H locs ls h w hl
              refine bX1_scan_i2_116 X ?_ u x1 x2 x3 H locs ls h w (lv_sub hl [0, 1, 2, 3] rfl)
              · intro u x1 x2 x3 H locs ls h w hl
                exact ih u x1 x2 x3 H locs ls h w (lv_sub hl [0, 1, 2, 3] rfl)
          · have h := h.2 c_
            refine lv_iload_n (pc := 71) hx hb dX1_scan_71 rfl (lv_at hl 2 rfl) ?_
            refine lv_if_le (pc := 72) (tgt := 82) hx hb dX1_scan_72 (by decide) (fun c_ => ?_) (fun c_ => ?_)
            · have h := h.1 c_
              refine bX1_scan_i2_82 X ?_ u2 x1 x3 H locs ls h w (lv_sub hl [1, 2, 4] rfl)
              · intro u x1 x2 x3 H locs ls h w hl
                refine bX1_scan_i2_116 X ?_ u x1 x2 x3 H locs ls h w (lv_sub hl [0, 1, 2, 3] rfl)
                · intro u x1 x2 x3 H locs ls h w hl
                  exact ih u x1 x2 x3 H locs ls h w (lv_sub hl [0, 1, 2, 3] rfl)
            · have h := h.2 c_
              refine lv_iconst (pc := 75) (v := (-1 : Int32)) hx hb dX1_scan_75 (by decide) ?_
              refine lv_istore_n (pc := 76) (lv' := [(1, .int (-1 : Int32)), (4, .int r1), (0, .ref (ad 45)), (2, .int x2), (3, .int x3)]) hx hb dX1_scan_76 rfl hl (by decide) rfl (fun ls hl => ?_)
              refine lv_iconst (pc := 77) (v := (-1 : Int32)) hx hb dX1_scan_77 (by decide) ?_
              refine lv_istore_n (pc := 78) (lv' := [(2, .int (-1 : Int32)), (1, .int (-1 : Int32)), (4, .int r1), (0, .ref (ad 45)), (3, .int x3)]) hx hb dX1_scan_78 rfl hl (by decide) rfl (fun ls hl => ?_)
              refine lv_goto (pc := 79) (tgt := 116) hx hb dX1_scan_79 (by decide) ?_
              refine bX1_scan_i2_116 X ?_ u2 (-1 : Int32) (-1 : Int32) x3 H locs ls h w (lv_sub hl [3, 1, 0, 4] rfl)
              · intro u x1 x2 x3 H locs ls h w hl
                exact ih u x1 x2 x3 H locs ls h w (lv_sub hl [0, 1, 2, 3] rfl)
        · have h := h.2 c_
          refine lv_iload_n (pc := 49) hx hb dX1_scan_49 rfl (lv_at hl 2 rfl) ?_
          refine lv_if_ge (pc := 50) (tgt := 57) hx hb dX1_scan_50 (by decide) (fun c_ => ?_) (fun c_ => ?_)
          · have h := h.1 c_
            refine lv_aload_n (pc := 57) hx hb dX1_scan_57 rfl (lv_at hl 1 rfl) ?_
            refine Cgf_45_5 (pc := 58) X w kw14 dX1_scan_58 ?_
            exact Ciret (pc := 61) X w h dX1_scan_61
          · have h := h.2 c_
            refine lv_iconst (pc := 53) (v := (-1 : Int32)) hx hb dX1_scan_53 (by decide) ?_
            refine lv_goto (pc := 54) (tgt := 61) hx hb dX1_scan_54 (by decide) ?_
            exact Ciret (pc := 61) X w h dX1_scan_61
      · have h := h.2 c_
        refine lv_iload (pc := 35) hx hb dX1_scan_35 (lv_at hl 0 rfl) ?_
        exact Ciret (pc := 37) X w h dX1_scan_37
set_option maxHeartbeats 4000000 in
set_option maxRecDepth 100000 in
theorem okX1_scan_i2 (l : Launch) {D : va_G} {g : Nat → ClassId} {ad : Nat → Nat} (hJ : CJ ad) {u : Mm} {Q : Int32 → Mm → Prop} (h : wX1_scan 2 u Q) : Met l yX1_scan (Cond.code yX1_scan cX1_scan 5 (some .int) :: gt) ({ frames := 4, cells := 0, slots := 0, locals := 91 } : Room) (CPc D g ad u [.ref (ad 45)]) (va_Qi Q (CB D g ad) (CA ad)) 0 0 (CA ad) := by
  refine Met.ofW (cc := cX1_scan) (maxL := 5) (ret := (some .int)) (by decide) rfl ?_
  intro p e s m args below meth c s₁ B hml hv
  refine Centry (own := RX1) B hml hv hJ rfl (Nat.le_of_ble_eq_true rfl) (fun ls H locs X w hl => ?_)
  obtain ⟨⟨hx, hb, hml, hown, hts⟩, hr, hlocks, hK, hJ, hAA⟩ := id X
  have hl : lv_has ls 5 [(0, .ref (ad 45))] := hl
  unfold wX1_scan at h
  refine lv_aload_n (pc := 0) hx hb dX1_scan_0 rfl (lv_at hl 0 rfl) ?_
  refine lv_iconst (pc := 1) (v := (0 : Int32)) hx hb dX1_scan_1 (by decide) ?_
  refine Cpf_45_5 (pc := 2) X w kw14 dX1_scan_2 (fun H locs w => ?_)
  obtain ⟨u1, e_⟩ : ∃ y : Mm, y = s32 u 825 0 (0 : Int32) := ⟨_, rfl⟩
  rw [← e_] at w
  have h := h u1 e_
  refine lv_aload_n (pc := 5) hx hb dX1_scan_5 rfl (lv_at hl 0 rfl) ?_
  refine lv_iconst (pc := 6) (v := (0 : Int32)) hx hb dX1_scan_6 (by decide) ?_
  refine Cpf_45_4 (pc := 7) X w kw26 dX1_scan_7 (fun H locs w => ?_)
  obtain ⟨u2, e_⟩ : ∃ y : Mm, y = s32 u1 824 0 (0 : Int32) := ⟨_, rfl⟩
  rw [← e_] at w
  have h := h u2 e_
  refine lv_iconst (pc := 10) (v := (1 : Int32)) hx hb dX1_scan_10 (by decide) ?_
  refine lv_istore_n (pc := 11) (lv' := [(1, .int (1 : Int32)), (0, .ref (ad 45))]) hx hb dX1_scan_11 rfl hl (by decide) rfl (fun ls hl => ?_)
  refine lv_iconst (pc := 12) (v := (1 : Int32)) hx hb dX1_scan_12 (by decide) ?_
  refine lv_istore_n (pc := 13) (lv' := [(2, .int (1 : Int32)), (1, .int (1 : Int32)), (0, .ref (ad 45))]) hx hb dX1_scan_13 rfl hl (by decide) rfl (fun ls hl => ?_)
  refine lv_iconst (pc := 14) (v := (0 : Int32)) hx hb dX1_scan_14 (by decide) ?_
  refine lv_istore_n (pc := 15) (lv' := [(3, .int (0 : Int32)), (2, .int (1 : Int32)), (1, .int (1 : Int32)), (0, .ref (ad 45))]) hx hb dX1_scan_15 rfl hl (by decide) rfl (fun ls hl => ?_)
  obtain ⟨n9, h⟩ := h
  exact bX1_scan_i2_16 X n9 u2 (1 : Int32) (1 : Int32) (0 : Int32) H locs ls h w (lv_sub hl [3, 2, 1, 0] rfl)
set_option maxHeartbeats 4000000 in
set_option maxRecDepth 100000 in
theorem bX1_scan_i3_82 {l : Launch} {p : Program} {e : Env} {s : State} {m : MethodId} {args : Array Value} {below : List Frame} {meth : Method} {c : Code} {D : va_G} {g : Nat → ClassId} {ad : Nat → Nat} {Q : Int32 → Mm → Prop} {k116 : Mm → Int32 → Int32 → Int32 → Prop} (X : CX p s m args meth c cX1_scan RX1 5 (some .int) (Cond.code yX1_scan cX1_scan 5 (some .int)) D g ad (CA ad)) (hk116 : ∀ (u : Mm) (x1 : Int32) (x2 : Int32) (x3 : Int32) (H : Heap) (locs : List Loc) (ls : Array Slot), k116 u x1 x2 x3 → CWd D g ad (CA ad) s u H locs → lv_has ls 5 [(0, .ref (ad 49)), (1, .int x1), (2, .int x2), (3, .int x3)] → W p l e ({ frames := 4, cells := 0, slots := 0, locals := 91 } : Room) s m args below meth c H locs 0 0 (MQ below (va_Qi Q (CB D g ad) (CA ad)) args s 0 0 (CA ad)) (F0 m 116 ls [])) : ∀ (u : Mm) (x1 : Int32) (x3 : Int32) (H : Heap) (locs : List Loc) (ls : Array Slot), wX1_scan_b82 3 k116 Q u x1 x3 → CWd D g ad (CA ad) s u H locs → lv_has ls 5 [(0, .ref (ad 49)), (1, .int x1), (3, .int x3)] → W p l e ({ frames := 4, cells := 0, slots := 0, locals := 91 } : Room) s m args below meth c H locs 0 0 (MQ below (va_Qi Q (CB D g ad) (CA ad)) args s 0 0 (CA ad)) (F0 m 82 ls []) := by
  obtain ⟨⟨hx, hb, hml, hown, hts⟩, hr, hlocks, hK, hJ, hAA⟩ := id X
  intro u x1 x3 H locs ls h w hl
  unfold wX1_scan_b82 at h
  refine lv_aload_n (pc := 82) hx hb dX1_scan_82 rfl (lv_at hl 0 rfl) ?_
  refine lv_bipush (pc := 83) (v := (43 : Int32)) hx hb dX1_scan_83 (by decide) ?_
  refine Ccalli (rest := []) (CrunV (pc := 85) X w (okX1_isNext_i3 l hJ h) kw29 kmX1_isNext ⟨rfl, rfl⟩ ⟨by decide, by decide⟩ (Crv_49 X w) rfl hl.1 rfl (Nat.le_of_ble_eq_true rfl) dX1_scan_85) w (fun r1 u9_ H locs h w => ?_)
  obtain ⟨hz_r1, h⟩ := h
  obtain ⟨rfl, h⟩ := h
  refine lv_if_eq (pc := 88) (tgt := 96) hx hb dX1_scan_88 (by decide) (fun c_ => ?_) (fun c_ => ?_)
  · have h := h.1 c_
    refine lv_aload_n (pc := 96) hx hb dX1_scan_96 rfl (lv_at hl 0 rfl) ?_
    refine lv_bipush (pc := 97) (v := (45 : Int32)) hx hb dX1_scan_97 (by decide) ?_
    refine Ccalli (rest := []) (CrunV (pc := 99) X w (okX1_isNext_i3 l hJ h) kw29 kmX1_isNext ⟨rfl, rfl⟩ ⟨by decide, by decide⟩ (Crv_49 X w) rfl hl.1 rfl (Nat.le_of_ble_eq_true rfl) dX1_scan_99) w (fun r2 u9_ H locs h w => ?_)
    obtain ⟨hz_r2, h⟩ := h
    obtain ⟨rfl, h⟩ := h
    refine lv_if_eq (pc := 102) (tgt := 111) hx hb dX1_scan_102 (by decide) (fun c_ => ?_) (fun c_ => ?_)
    · have h := h.1 c_
      refine lv_aload_n (pc := 111) hx hb dX1_scan_111 rfl (lv_at hl 0 rfl) ?_
      refine Cgf_49_5 (pc := 112) X w kw14 dX1_scan_112 ?_
      exact Ciret (pc := 115) X w h dX1_scan_115
    · have h := h.2 c_
      refine lv_iload_n (pc := 105) hx hb dX1_scan_105 rfl (lv_at hl 1 rfl) ?_
      refine lv_ineg (pc := 106) hx hb dX1_scan_106 ?_
      refine lv_topi (fun x2_3 e_ => ?_)
      have h := h x2_3 e_
      refine lv_istore_n (pc := 107) (lv' := [(2, .int x2_3), (0, .ref (ad 49)), (1, .int x1), (3, .int x3)]) hx hb dX1_scan_107 rfl hl (by decide) rfl (fun ls hl => ?_)
      refine lv_goto (pc := 108) (tgt := 116) hx hb dX1_scan_108 (by decide) ?_
      exact hk116 u x1 x2_3 x3 H locs ls h w (lv_sub hl [1, 2, 0, 3] rfl)
  · have h := h.2 c_
    refine lv_iload_n (pc := 91) hx hb dX1_scan_91 rfl (lv_at hl 1 rfl) ?_
    refine lv_istore_n (pc := 92) (lv' := [(2, .int x1), (0, .ref (ad 49)), (1, .int x1), (3, .int x3)]) hx hb dX1_scan_92 rfl hl (by decide) rfl (fun ls hl => ?_)
    refine lv_goto (pc := 93) (tgt := 116) hx hb dX1_scan_93 (by decide) ?_
    exact hk116 u x1 x1 x3 H locs ls h w (lv_sub hl [1, 2, 0, 3] rfl)
set_option maxHeartbeats 4000000 in
set_option maxRecDepth 100000 in
theorem bX1_scan_i3_116 {l : Launch} {p : Program} {e : Env} {s : State} {m : MethodId} {args : Array Value} {below : List Frame} {meth : Method} {c : Code} {D : va_G} {g : Nat → ClassId} {ad : Nat → Nat} {Q : Int32 → Mm → Prop} {k16 : Mm → Int32 → Int32 → Int32 → Prop} (X : CX p s m args meth c cX1_scan RX1 5 (some .int) (Cond.code yX1_scan cX1_scan 5 (some .int)) D g ad (CA ad)) (hk16 : ∀ (u : Mm) (x1 : Int32) (x2 : Int32) (x3 : Int32) (H : Heap) (locs : List Loc) (ls : Array Slot), k16 u x1 x2 x3 → CWd D g ad (CA ad) s u H locs → lv_has ls 5 [(0, .ref (ad 49)), (1, .int x1), (2, .int x2), (3, .int x3)] → W p l e ({ frames := 4, cells := 0, slots := 0, locals := 91 } : Room) s m args below meth c H locs 0 0 (MQ below (va_Qi Q (CB D g ad) (CA ad)) args s 0 0 (CA ad)) (F0 m 16 ls [])) : ∀ (u : Mm) (x1 : Int32) (x2 : Int32) (x3 : Int32) (H : Heap) (locs : List Loc) (ls : Array Slot), wX1_scan_b116 3 k16 Q u x1 x2 x3 → CWd D g ad (CA ad) s u H locs → lv_has ls 5 [(0, .ref (ad 49)), (1, .int x1), (2, .int x2), (3, .int x3)] → W p l e ({ frames := 4, cells := 0, slots := 0, locals := 91 } : Room) s m args below meth c H locs 0 0 (MQ below (va_Qi Q (CB D g ad) (CA ad)) args s 0 0 (CA ad)) (F0 m 116 ls []) := by
  obtain ⟨⟨hx, hb, hml, hown, hts⟩, hr, hlocks, hK, hJ, hAA⟩ := id X
  intro u x1 x2 x3 H locs ls h w hl
  unfold wX1_scan_b116 at h
  refine lv_aload_n (pc := 116) hx hb dX1_scan_116 rfl (lv_at hl 0 rfl) ?_
  refine lv_dup (pc := 117) hx hb dX1_scan_117 rfl ?_
  refine Cgf_49_5 (pc := 118) X w kw14 dX1_scan_118 ?_
  refine lv_iconst (pc := 121) (v := (1 : Int32)) hx hb dX1_scan_121 (by decide) ?_
  refine lv_iadd (pc := 122) hx hb dX1_scan_122 ?_
  refine Cpf_49_5 (pc := 123) X w kw14 dX1_scan_123 (fun H locs w => ?_)
  obtain ⟨u1, e_⟩ : ∃ y : Mm, y = s32 u 889 0 ((u.1 889 0) + (1 : Int32)) := ⟨_, rfl⟩
  rw [← e_] at w
  have h := h u1 e_
  obtain ⟨x3_2, e_⟩ : ∃ y : Int32, y = x3 + (1 : Int32) := ⟨_, rfl⟩
  have h := h x3_2 e_
  refine lv_iinc (pc := 126) (v := x3_2) (lv' := [(3, .int x3_2), (0, .ref (ad 49)), (1, .int x1), (2, .int x2)]) hx hb dX1_scan_126 hl (k := 3) rfl (by rw [e_]; rfl) (by decide) rfl (fun ls hl => ?_)
  refine lv_goto (pc := 129) (tgt := 16) hx hb dX1_scan_129 (by decide) ?_
  exact hk16 u1 x1 x2 x3_2 H locs ls h w (lv_sub hl [1, 2, 3, 0] rfl)
set_option maxHeartbeats 4000000 in
set_option maxRecDepth 100000 in
theorem bX1_scan_i3_16 {l : Launch} {p : Program} {e : Env} {s : State} {m : MethodId} {args : Array Value} {below : List Frame} {meth : Method} {c : Code} {D : va_G} {g : Nat → ClassId} {ad : Nat → Nat} {Q : Int32 → Mm → Prop} (X : CX p s m args meth c cX1_scan RX1 5 (some .int) (Cond.code yX1_scan cX1_scan 5 (some .int)) D g ad (CA ad)) : ∀ (n : Nat) (u : Mm) (x1 : Int32) (x2 : Int32) (x3 : Int32) (H : Heap) (locs : List Loc) (ls : Array Slot), wX1_scan_b16 3 Q n u x1 x2 x3 → CWd D g ad (CA ad) s u H locs → lv_has ls 5 [(0, .ref (ad 49)), (1, .int x1), (2, .int x2), (3, .int x3)] → W p l e ({ frames := 4, cells := 0, slots := 0, locals := 91 } : Room) s m args below meth c H locs 0 0 (MQ below (va_Qi Q (CB D g ad) (CA ad)) args s 0 0 (CA ad)) (F0 m 16 ls []) := by
  obtain ⟨⟨hx, hb, hml, hown, hts⟩, hr, hlocks, hK, hJ, hAA⟩ := id X
  intro n
  induction n with
  | zero =>
    intro u x1 x2 x3 H locs ls h
    exact False.elim h
  | succ n ih =>
    intro u x1 x2 x3 H locs ls h w hl
    unfold wX1_scan_b16 at h
    refine lv_iload_n (pc := 16) hx hb dX1_scan_16 rfl (lv_at hl 3 rfl) ?_
    refine lv_bipush (pc := 17) (v := (60 : Int32)) hx hb dX1_scan_17 (by decide) ?_
    refine lv_icmp_ge (pc := 19) (tgt := 132) hx hb dX1_scan_19 (by decide) (fun c_ => ?_) (fun c_ => ?_)
    · have h := h.1 c_
      refine lv_aload_n (pc := 132) hx hb dX1_scan_132 rfl (lv_at hl 0 rfl) ?_
      refine Cgf_49_5 (pc := 133) X w kw14 dX1_scan_133 ?_
      exact Ciret (pc := 136) X w h dX1_scan_136
    · have h := h.2 c_
      refine lv_aload_n (pc := 22) hx hb dX1_scan_22 rfl (lv_at hl 0 rfl) ?_
      refine lv_iload_n (pc := 23) hx hb dX1_scan_23 rfl (lv_at hl 2 rfl) ?_
      refine Ccalli (rest := []) (CrunV (pc := 24) X w (okX1_scanTerm_i3 l hJ h) kw49 kmX1_scanTerm ⟨rfl, rfl⟩ ⟨by decide, by decide⟩ (Crv_49 X w) rfl hl.1 rfl (Nat.le_of_ble_eq_true rfl) dX1_scan_24) w (fun r1 u2 H locs h w => ?_)
      refine lv_istore (pc := 27) (lv' := [(4, .int r1), (0, .ref (ad 49)), (1, .int x1), (2, .int x2), (3, .int x3)]) hx hb dX1_scan_27 hl (by decide) rfl (fun ls hl => ?_)
      refine lv_iload (pc := 29) hx hb dX1_scan_29 (lv_at hl 0 rfl) ?_
      refine lv_iconst (pc := 31) (v := (-1 : Int32)) hx hb dX1_scan_31 (by decide) ?_
      refine lv_icmp_eq (pc := 32) (tgt := 38) hx hb dX1_scan_32 (by decide) (fun c_ => ?_) (fun c_ => ?_)
      · have h := h.1 c_
        refine lv_aload_n (pc := 38) hx hb dX1_scan_38 rfl (lv_at hl 1 rfl) ?_
        refine Cgf_49_5 (pc := 39) X w kw14 dX1_scan_39 ?_
        refine lv_aload_n (pc := 42) hx hb dX1_scan_42 rfl (lv_at hl 1 rfl) ?_
        refine Cgf_49_1 (pc := 43) X w kw13 dX1_scan_43 ?_
        refine lv_icmp_lt (pc := 46) (tgt := 62) hx hb dX1_scan_46 (by decide) (fun c_ => ?_) (fun c_ => ?_)
        · have h := h.1 c_
          refine lv_aload_n (pc := 62) hx hb dX1_scan_62 rfl (lv_at hl 1 rfl) ?_
          refine lv_bipush (pc := 63) (v := (61 : Int32)) hx hb dX1_scan_63 (by decide) ?_
          refine Ccalli (rest := []) (CrunV (pc := 65) X w (okX1_isNext_i3 l hJ h) kw29 kmX1_isNext ⟨rfl, rfl⟩ ⟨by decide, by decide⟩ (Crv_49 X w) rfl hl.1 rfl (Nat.le_of_ble_eq_true rfl) dX1_scan_65) w (fun r3 u9_ H locs h w => ?_)
          obtain ⟨hz_r3, h⟩ := h
          obtain ⟨rfl, h⟩ := h
          refine lv_if_eq (pc := 68) (tgt := 82) hx hb dX1_scan_68 (by decide) (fun c_ => ?_) (fun c_ => ?_)
          · have h := h.1 c_
            refine bX1_scan_i3_82 X ?_ u2 x1 x3 H locs ls h w (lv_sub hl [1, 2, 4] rfl)
            · intro u x1 x2 x3 H locs ls h w hl
              refine bX1_scan_i3_116 X ?_ u x1 x2 x3 H locs ls h w (lv_sub hl [0, 1, 2, 3] rfl)
              · intro u x1 x2 x3 H locs ls h w hl
                exact ih u x1 x2 x3 H locs ls h w (lv_sub hl [0, 1, 2, 3] rfl)
          · have h := h.2 c_
            refine lv_iload_n (pc := 71) hx hb dX1_scan_71 rfl (lv_at hl 2 rfl) ?_
            refine lv_if_le (pc := 72) (tgt := 82) hx hb dX1_scan_72 (by decide) (fun c_ => ?_) (fun c_ => ?_)
            · have h := h.1 c_
              refine bX1_scan_i3_82 X ?_ u2 x1 x3 H locs ls h w (lv_sub hl [1, 2, 4] rfl)
              · intro u x1 x2 x3 H locs ls h w hl
                refine bX1_scan_i3_116 X ?_ u x1 x2 x3 H locs ls h w (lv_sub hl [0, 1, 2, 3] rfl)
                · intro u x1 x2 x3 H locs ls h w hl
                  exact ih u x1 x2 x3 H locs ls h w (lv_sub hl [0, 1, 2, 3] rfl)
            · have h := h.2 c_
              refine lv_iconst (pc := 75) (v := (-1 : Int32)) hx hb dX1_scan_75 (by decide) ?_
              refine lv_istore_n (pc := 76) (lv' := [(1, .int (-1 : Int32)), (4, .int r1), (0, .ref (ad 49)), (2, .int x2), (3, .int x3)]) hx hb dX1_scan_76 rfl hl (by decide) rfl (fun ls hl => ?_)
              refine lv_iconst (pc := 77) (v := (-1 : Int32)) hx hb dX1_scan_77 (by decide) ?_
              refine lv_istore_n (pc := 78) (lv' := [(2, .int (-1 : Int32)), (1, .int (-1 : Int32)), (4, .int r1), (0, .ref (ad 49)), (3, .int x3)]) hx hb dX1_scan_78 rfl hl (by decide) rfl (fun ls hl => ?_)
              refine lv_goto (pc := 79) (tgt := 116) hx hb dX1_scan_79 (by decide) ?_
              refine bX1_scan_i3_116 X ?_ u2 (-1 : Int32) (-1 : Int32) x3 H locs ls h w (lv_sub hl [3, 1, 0, 4] rfl)
              · intro u x1 x2 x3 H locs ls h w hl
                exact ih u x1 x2 x3 H locs ls h w (lv_sub hl [0, 1, 2, 3] rfl)
        · have h := h.2 c_
          refine lv_iload_n (pc := 49) hx hb dX1_scan_49 rfl (lv_at hl 2 rfl) ?_
          refine lv_if_ge (pc := 50) (tgt := 57) hx hb dX1_scan_50 (by decide) (fun c_ => ?_) (fun c_ => ?_)
          · have h := h.1 c_
            refine lv_aload_n (pc := 57) hx hb dX1_scan_57 rfl (lv_at hl 1 rfl) ?_
            refine Cgf_49_5 (pc := 58) X w kw14 dX1_scan_58 ?_
            exact Ciret (pc := 61) X w h dX1_scan_61
          · have h := h.2 c_
            refine lv_iconst (pc := 53) (v := (-1 : Int32)) hx hb dX1_scan_53 (by decide) ?_
            refine lv_goto (pc := 54) (tgt := 61) hx hb dX1_scan_54 (by decide) ?_
            exact Ciret (pc := 61) X w h dX1_scan_61
      · have h := h.2 c_
        refine lv_iload (pc := 35) hx hb dX1_scan_35 (lv_at hl 0 rfl) ?_
        exact Ciret (pc := 37) X w h dX1_scan_37
set_option maxHeartbeats 4000000 in
set_option maxRecDepth 100000 in
theorem okX1_scan_i3 (l : Launch) {D : va_G} {g : Nat → ClassId} {ad : Nat → Nat} (hJ : CJ ad) {u : Mm} {Q : Int32 → Mm → Prop} (h : wX1_scan 3 u Q) : Met l yX1_scan (Cond.code yX1_scan cX1_scan 5 (some .int) :: gt) ({ frames := 4, cells := 0, slots := 0, locals := 91 } : Room) (CPc D g ad u [.ref (ad 49)]) (va_Qi Q (CB D g ad) (CA ad)) 0 0 (CA ad) := by
  refine Met.ofW (cc := cX1_scan) (maxL := 5) (ret := (some .int)) (by decide) rfl ?_
  intro p e s m args below meth c s₁ B hml hv
  refine Centry (own := RX1) B hml hv hJ rfl (Nat.le_of_ble_eq_true rfl) (fun ls H locs X w hl => ?_)
  obtain ⟨⟨hx, hb, hml, hown, hts⟩, hr, hlocks, hK, hJ, hAA⟩ := id X
  have hl : lv_has ls 5 [(0, .ref (ad 49))] := hl
  unfold wX1_scan at h
  refine lv_aload_n (pc := 0) hx hb dX1_scan_0 rfl (lv_at hl 0 rfl) ?_
  refine lv_iconst (pc := 1) (v := (0 : Int32)) hx hb dX1_scan_1 (by decide) ?_
  refine Cpf_49_5 (pc := 2) X w kw14 dX1_scan_2 (fun H locs w => ?_)
  obtain ⟨u1, e_⟩ : ∃ y : Mm, y = s32 u 889 0 (0 : Int32) := ⟨_, rfl⟩
  rw [← e_] at w
  have h := h u1 e_
  refine lv_aload_n (pc := 5) hx hb dX1_scan_5 rfl (lv_at hl 0 rfl) ?_
  refine lv_iconst (pc := 6) (v := (0 : Int32)) hx hb dX1_scan_6 (by decide) ?_
  refine Cpf_49_4 (pc := 7) X w kw26 dX1_scan_7 (fun H locs w => ?_)
  obtain ⟨u2, e_⟩ : ∃ y : Mm, y = s32 u1 888 0 (0 : Int32) := ⟨_, rfl⟩
  rw [← e_] at w
  have h := h u2 e_
  refine lv_iconst (pc := 10) (v := (1 : Int32)) hx hb dX1_scan_10 (by decide) ?_
  refine lv_istore_n (pc := 11) (lv' := [(1, .int (1 : Int32)), (0, .ref (ad 49))]) hx hb dX1_scan_11 rfl hl (by decide) rfl (fun ls hl => ?_)
  refine lv_iconst (pc := 12) (v := (1 : Int32)) hx hb dX1_scan_12 (by decide) ?_
  refine lv_istore_n (pc := 13) (lv' := [(2, .int (1 : Int32)), (1, .int (1 : Int32)), (0, .ref (ad 49))]) hx hb dX1_scan_13 rfl hl (by decide) rfl (fun ls hl => ?_)
  refine lv_iconst (pc := 14) (v := (0 : Int32)) hx hb dX1_scan_14 (by decide) ?_
  refine lv_istore_n (pc := 15) (lv' := [(3, .int (0 : Int32)), (2, .int (1 : Int32)), (1, .int (1 : Int32)), (0, .ref (ad 49))]) hx hb dX1_scan_15 rfl hl (by decide) rfl (fun ls hl => ?_)
  obtain ⟨n9, h⟩ := h
  exact bX1_scan_i3_16 X n9 u2 (1 : Int32) (1 : Int32) (0 : Int32) H locs ls h w (lv_sub hl [3, 2, 1, 0] rfl)
