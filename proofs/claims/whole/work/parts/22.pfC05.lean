set_option maxHeartbeats 4000000 in
set_option maxRecDepth 100000 in
theorem okX8_put (l : Launch) {D : va_G} {g : Nat → ClassId} {ad : Nat → Nat} (hJ : CJ ad) {u : Mm} {a1 : Int32} {a2 : Int32} {a3 : Int32} {a4 : Int32} {Q : Int32 → Mm → Prop} (h : wX8_put u a1 a2 a3 a4 Q) : Met l yX8_put (Cond.code yX8_put cX8_put 6 (some .int) :: gt) ({ frames := 2, cells := 0, slots := 0, locals := 44 } : Room) (CPc D g ad u [.ref (ad 0), .int a1, .int a2, .int a3, .int a4]) (va_Qi Q (CB D g ad) (CA ad)) 0 0 (CA ad) := by
  refine Met.ofW (cc := cX8_put) (maxL := 6) (ret := (some .int)) (by decide) rfl ?_
  intro p e s m args below meth c s₁ B hml hv
  refine Centry (own := RX8) B hml hv hJ rfl (Nat.le_of_ble_eq_true rfl) (fun ls H locs X w hl => ?_)
  obtain ⟨⟨hx, hb, hml, hown, hts⟩, hr, hlocks, hK, hJ, hAA⟩ := id X
  have hl : lv_has ls 6 [(0, .ref (ad 0)), (1, .int a1), (2, .int a2), (3, .int a3), (4, .int a4)] := hl
  unfold wX8_put at h
  refine lv_aload_n (pc := 0) hx hb dX8_put_0 rfl (lv_at hl 0 rfl) ?_
  refine lv_iload_n (pc := 1) hx hb dX8_put_1 rfl (lv_at hl 1 rfl) ?_
  refine lv_iload_n (pc := 2) hx hb dX8_put_2 rfl (lv_at hl 2 rfl) ?_
  refine lv_iload_n (pc := 3) hx hb dX8_put_3 rfl (lv_at hl 3 rfl) ?_
  refine Ccalli (rest := []) (CrunV (pc := 4) X w (okX8_refusalOfItem l hJ h) kw448 kmX8_refusalOfItem ⟨rfl, rfl⟩ ⟨by decide, by decide⟩ (Crv_0 X w) rfl hl.1 rfl (Nat.le_of_ble_eq_true rfl) dX8_put_4) w (fun r1 u2 H locs h w => ?_)
  refine lv_istore (pc := 7) (lv' := [(5, .int r1), (0, .ref (ad 0)), (1, .int a1), (2, .int a2), (3, .int a3), (4, .int a4)]) hx hb dX8_put_7 hl (by decide) rfl (fun ls hl => ?_)
  refine lv_iload (pc := 9) hx hb dX8_put_9 (lv_at hl 0 rfl) ?_
  refine lv_if_eq (pc := 11) (tgt := 17) hx hb dX8_put_11 (by decide) (fun c_ => ?_) (fun c_ => ?_)
  · have h := h.1 c_
    refine lv_aload_n (pc := 17) hx hb dX8_put_17 rfl (lv_at hl 1 rfl) ?_
    refine Cgf_0_6 (pc := 18) X w kw435 dX8_put_18 ?_
    refine lv_iload_n (pc := 21) hx hb dX8_put_21 rfl (lv_at hl 2 rfl) ?_
    obtain ⟨j3, hj_, e_⟩ := vp_in_of h.1 (by decide)
    have h := h.2 j3 hj_ e_
    refine W.eq (g2 := F0 m 22 ls (.int (nI j3) :: .ref (ad 53) :: [])) (by rw [e_]) ?_
    clear e_
    rcases (show j3 = 0 ∨ j3 = 1 ∨ j3 = 2 ∨ j3 = 3 by omega) with rfl | rfl | rfl | rfl
    · refine Caq_53 0 (by decide) (pc := 22) X w dX8_put_22 ?_
      refine lv_iload_n (pc := 23) hx hb dX8_put_23 rfl (lv_at hl 4 rfl) ?_
      refine lv_iload (pc := 24) hx hb dX8_put_24 (lv_at hl 5 rfl) ?_
      refine Ccallv (rest := []) (CrunV (pc := 26) X w (okX5_store_i0 l hJ h) kw452 kmX5_store ⟨rfl, rfl⟩ ⟨by decide, by decide⟩ (Crv_54 X w) rfl hl.1 rfl (Nat.le_of_ble_eq_true rfl) dX8_put_26) w (fun u5 H locs h w => ?_)
      refine lv_iconst (pc := 29) (v := (1 : Int32)) hx hb dX8_put_29 (by decide) ?_
      exact Ciret (pc := 30) X w h dX8_put_30
    · refine Caq_53 1 (by decide) (pc := 22) X w dX8_put_22 ?_
      refine lv_iload_n (pc := 23) hx hb dX8_put_23 rfl (lv_at hl 4 rfl) ?_
      refine lv_iload (pc := 24) hx hb dX8_put_24 (lv_at hl 5 rfl) ?_
      refine Ccallv (rest := []) (CrunV (pc := 26) X w (okX5_store_i1 l hJ h) kw452 kmX5_store ⟨rfl, rfl⟩ ⟨by decide, by decide⟩ (Crv_56 X w) rfl hl.1 rfl (Nat.le_of_ble_eq_true rfl) dX8_put_26) w (fun u5 H locs h w => ?_)
      refine lv_iconst (pc := 29) (v := (1 : Int32)) hx hb dX8_put_29 (by decide) ?_
      exact Ciret (pc := 30) X w h dX8_put_30
    · refine Caq_53 2 (by decide) (pc := 22) X w dX8_put_22 ?_
      refine lv_iload_n (pc := 23) hx hb dX8_put_23 rfl (lv_at hl 4 rfl) ?_
      refine lv_iload (pc := 24) hx hb dX8_put_24 (lv_at hl 5 rfl) ?_
      refine Ccallv (rest := []) (CrunV (pc := 26) X w (okX5_store_i2 l hJ h) kw452 kmX5_store ⟨rfl, rfl⟩ ⟨by decide, by decide⟩ (Crv_58 X w) rfl hl.1 rfl (Nat.le_of_ble_eq_true rfl) dX8_put_26) w (fun u5 H locs h w => ?_)
      refine lv_iconst (pc := 29) (v := (1 : Int32)) hx hb dX8_put_29 (by decide) ?_
      exact Ciret (pc := 30) X w h dX8_put_30
    · refine Caq_53 3 (by decide) (pc := 22) X w dX8_put_22 ?_
      refine lv_iload_n (pc := 23) hx hb dX8_put_23 rfl (lv_at hl 4 rfl) ?_
      refine lv_iload (pc := 24) hx hb dX8_put_24 (lv_at hl 5 rfl) ?_
      refine Ccallv (rest := []) (CrunV (pc := 26) X w (okX5_store_i3 l hJ h) kw452 kmX5_store ⟨rfl, rfl⟩ ⟨by decide, by decide⟩ (Crv_60 X w) rfl hl.1 rfl (Nat.le_of_ble_eq_true rfl) dX8_put_26) w (fun u5 H locs h w => ?_)
      refine lv_iconst (pc := 29) (v := (1 : Int32)) hx hb dX8_put_29 (by decide) ?_
      exact Ciret (pc := 30) X w h dX8_put_30
  · have h := h.2 c_
    refine lv_iload (pc := 14) hx hb dX8_put_14 (lv_at hl 0 rfl) ?_
    exact Ciret (pc := 16) X w h dX8_put_16
set_option maxHeartbeats 4000000 in
set_option maxRecDepth 100000 in
theorem okX8_get (l : Launch) {D : va_G} {g : Nat → ClassId} {ad : Nat → Nat} (hJ : CJ ad) {u : Mm} {a1 : Int32} {a2 : Int32} {a3 : Int32} {Q : Int32 → Mm → Prop} (h : wX8_get u a1 a2 a3 Q) : Met l yX8_get (Cond.code yX8_get cX8_get 4 (some .int) :: gt) ({ frames := 2, cells := 0, slots := 0, locals := 44 } : Room) (CPc D g ad u [.ref (ad 0), .int a1, .int a2, .int a3]) (va_Qi Q (CB D g ad) (CA ad)) 0 0 (CA ad) := by
  refine Met.ofW (cc := cX8_get) (maxL := 4) (ret := (some .int)) (by decide) rfl ?_
  intro p e s m args below meth c s₁ B hml hv
  refine Centry (own := RX8) B hml hv hJ rfl (Nat.le_of_ble_eq_true rfl) (fun ls H locs X w hl => ?_)
  obtain ⟨⟨hx, hb, hml, hown, hts⟩, hr, hlocks, hK, hJ, hAA⟩ := id X
  have hl : lv_has ls 4 [(0, .ref (ad 0)), (1, .int a1), (2, .int a2), (3, .int a3)] := hl
  unfold wX8_get at h
  refine lv_aload_n (pc := 0) hx hb dX8_get_0 rfl (lv_at hl 0 rfl) ?_
  refine lv_iload_n (pc := 1) hx hb dX8_get_1 rfl (lv_at hl 1 rfl) ?_
  refine lv_iload_n (pc := 2) hx hb dX8_get_2 rfl (lv_at hl 2 rfl) ?_
  refine lv_iload_n (pc := 3) hx hb dX8_get_3 rfl (lv_at hl 3 rfl) ?_
  refine Ccalli (rest := []) (CrunV (pc := 4) X w (okX8_refusalOfItem l hJ h) kw448 kmX8_refusalOfItem ⟨rfl, rfl⟩ ⟨by decide, by decide⟩ (Crv_0 X w) rfl hl.1 rfl (Nat.le_of_ble_eq_true rfl) dX8_get_4) w (fun r1 u2 H locs h w => ?_)
  refine lv_if_eq (pc := 7) (tgt := 16) hx hb dX8_get_7 (by decide) (fun c_ => ?_) (fun c_ => ?_)
  · have h := h.1 c_
    refine lv_aload_n (pc := 16) hx hb dX8_get_16 rfl (lv_at hl 0 rfl) ?_
    refine Cgf_0_6 (pc := 17) X w kw435 dX8_get_17 ?_
    refine lv_iload_n (pc := 20) hx hb dX8_get_20 rfl (lv_at hl 1 rfl) ?_
    obtain ⟨j3, hj_, e_⟩ := vp_in_of h.1 (by decide)
    have h := h.2 j3 hj_ e_
    refine W.eq (g2 := F0 m 21 ls (.int (nI j3) :: .ref (ad 53) :: [])) (by rw [e_]) ?_
    clear e_
    rcases (show j3 = 0 ∨ j3 = 1 ∨ j3 = 2 ∨ j3 = 3 by omega) with rfl | rfl | rfl | rfl
    · refine Caq_53 0 (by decide) (pc := 21) X w dX8_get_21 ?_
      refine Cgf_54_0 (pc := 22) X w kw456 dX8_get_22 ?_
      refine lv_iload_n (pc := 25) hx hb dX8_get_25 rfl (lv_at hl 3 rfl) ?_
      refine Cld_55 (pc := 26) X w h.1 dX8_get_26 ?_
      have h := h.2
      exact Ciret (pc := 27) X w h dX8_get_27
    · refine Caq_53 1 (by decide) (pc := 21) X w dX8_get_21 ?_
      refine Cgf_56_0 (pc := 22) X w kw456 dX8_get_22 ?_
      refine lv_iload_n (pc := 25) hx hb dX8_get_25 rfl (lv_at hl 3 rfl) ?_
      refine Cld_57 (pc := 26) X w h.1 dX8_get_26 ?_
      have h := h.2
      exact Ciret (pc := 27) X w h dX8_get_27
    · refine Caq_53 2 (by decide) (pc := 21) X w dX8_get_21 ?_
      refine Cgf_58_0 (pc := 22) X w kw456 dX8_get_22 ?_
      refine lv_iload_n (pc := 25) hx hb dX8_get_25 rfl (lv_at hl 3 rfl) ?_
      refine Cld_59 (pc := 26) X w h.1 dX8_get_26 ?_
      have h := h.2
      exact Ciret (pc := 27) X w h dX8_get_27
    · refine Caq_53 3 (by decide) (pc := 21) X w dX8_get_21 ?_
      refine Cgf_60_0 (pc := 22) X w kw456 dX8_get_22 ?_
      refine lv_iload_n (pc := 25) hx hb dX8_get_25 rfl (lv_at hl 3 rfl) ?_
      refine Cld_61 (pc := 26) X w h.1 dX8_get_26 ?_
      have h := h.2
      exact Ciret (pc := 27) X w h dX8_get_27
  · have h := h.2 c_
    refine lv_ldcw (pc := 10) (v := (-2147483648 : Int32)) hx hb hown (hts _ (List.mem_cons_of_mem _ kw457)) dX8_get_10 ?_
    refine lv_goto (pc := 13) (tgt := 27) hx hb dX8_get_13 (by decide) ?_
    exact Ciret (pc := 27) X w h dX8_get_27
set_option maxHeartbeats 4000000 in
set_option maxRecDepth 100000 in
theorem okX8_copy (l : Launch) {D : va_G} {g : Nat → ClassId} {ad : Nat → Nat} (hJ : CJ ad) {u : Mm} {a1 : Int32} {a2 : Int32} {a3 : Int32} {a4 : Int32} {a5 : Int32} {Q : Int32 → Mm → Prop} (h : wX8_copy u a1 a2 a3 a4 a5 Q) : Met l yX8_copy (Cond.code yX8_copy cX8_copy 8 (some .int) :: gt) ({ frames := 1, cells := 0, slots := 0, locals := 40 } : Room) (CPc D g ad u [.ref (ad 0), .int a1, .int a2, .int a3, .int a4, .int a5]) (va_Qi Q (CB D g ad) (CA ad)) 0 0 (CA ad) := by
  refine Met.ofW (cc := cX8_copy) (maxL := 8) (ret := (some .int)) (by decide) rfl ?_
  intro p e s m args below meth c s₁ B hml hv
  refine Centry (own := RX8) B hml hv hJ rfl (Nat.le_of_ble_eq_true rfl) (fun ls H locs X w hl => ?_)
  obtain ⟨⟨hx, hb, hml, hown, hts⟩, hr, hlocks, hK, hJ, hAA⟩ := id X
  have hl : lv_has ls 8 [(0, .ref (ad 0)), (1, .int a1), (2, .int a2), (3, .int a3), (4, .int a4), (5, .int a5)] := hl
  unfold wX8_copy at h
  refine lv_iload_n (pc := 0) hx hb dX8_copy_0 rfl (lv_at hl 1 rfl) ?_
  refine lv_iconst (pc := 1) (v := (4 : Int32)) hx hb dX8_copy_1 (by decide) ?_
  refine Ccalli (rest := []) (CrunS (pc := 2) X w (okX8_below l hJ h) kw23 kmX8_below ⟨rfl, rfl⟩ ⟨by decide, by decide⟩ rfl hl.1 rfl (Nat.le_of_ble_eq_true rfl) dX8_copy_2) w (fun r1 u9_ H locs h w => ?_)
  obtain ⟨hz_r1, h⟩ := h
  obtain ⟨rfl, h⟩ := h
  refine lv_if_eq (pc := 5) (tgt := 16) hx hb dX8_copy_5 (by decide) (fun c_ => ?_) (fun c_ => ?_)
  · have h := h.1 c_
    refine lv_bipush (pc := 16) (v := (-2 : Int32)) hx hb dX8_copy_16 (by decide) ?_
    exact Ciret (pc := 18) X w h dX8_copy_18
  · have h := h.2 c_
    refine lv_iload_n (pc := 8) hx hb dX8_copy_8 rfl (lv_at hl 3 rfl) ?_
    refine lv_iconst (pc := 9) (v := (4 : Int32)) hx hb dX8_copy_9 (by decide) ?_
    refine Ccalli (rest := []) (CrunS (pc := 10) X w (okX8_below l hJ h) kw23 kmX8_below ⟨rfl, rfl⟩ ⟨by decide, by decide⟩ rfl hl.1 rfl (Nat.le_of_ble_eq_true rfl) dX8_copy_10) w (fun r2 u9_ H locs h w => ?_)
    obtain ⟨hz_r2, h⟩ := h
    obtain ⟨rfl, h⟩ := h
    refine lv_if_ne (pc := 13) (tgt := 19) hx hb dX8_copy_13 (by decide) (fun c_ => ?_) (fun c_ => ?_)
    · have h := h.2 c_
      refine lv_aload_n (pc := 19) hx hb dX8_copy_19 rfl (lv_at hl 0 rfl) ?_
      refine Cgf_0_6 (pc := 20) X w kw435 dX8_copy_20 ?_
      refine lv_iload_n (pc := 23) hx hb dX8_copy_23 rfl (lv_at hl 1 rfl) ?_
      obtain ⟨j3, hj_, e_⟩ := vp_in_of h.1 (by decide)
      have h := h.2 j3 hj_ e_
      refine W.eq (g2 := F0 m 24 ls (.int (nI j3) :: .ref (ad 53) :: [])) (by rw [e_]) ?_
      clear e_
      rcases (show j3 = 0 ∨ j3 = 1 ∨ j3 = 2 ∨ j3 = 3 by omega) with rfl | rfl | rfl | rfl
      · refine Caq_53 0 (by decide) (pc := 24) X w dX8_copy_24 ?_
        refine lv_astore (pc := 25) (lv' := [(6, .ref (ad 54)), (0, .ref (ad 0)), (1, .int a1), (2, .int a2), (3, .int a3), (4, .int a4), (5, .int a5)]) hx hb dX8_copy_25 hl (by decide) rfl (fun ls hl => ?_)
        refine lv_aload_n (pc := 27) hx hb dX8_copy_27 rfl (lv_at hl 1 rfl) ?_
        refine Cgf_0_6 (pc := 28) X w kw435 dX8_copy_28 ?_
        refine lv_iload_n (pc := 31) hx hb dX8_copy_31 rfl (lv_at hl 4 rfl) ?_
        obtain ⟨j4, hj_, e_⟩ := vp_in_of h.1 (by decide)
        have h := h.2 j4 hj_ e_
        refine W.eq (g2 := F0 m 32 ls (.int (nI j4) :: .ref (ad 53) :: [])) (by rw [e_]) ?_
        clear e_
        rcases (show j4 = 0 ∨ j4 = 1 ∨ j4 = 2 ∨ j4 = 3 by omega) with rfl | rfl | rfl | rfl
        · refine Caq_53 0 (by decide) (pc := 32) X w dX8_copy_32 ?_
          refine lv_astore (pc := 33) (lv' := [(7, .ref (ad 54)), (6, .ref (ad 54)), (0, .ref (ad 0)), (1, .int a1), (2, .int a2), (3, .int a3), (4, .int a4), (5, .int a5)]) hx hb dX8_copy_33 hl (by decide) rfl (fun ls hl => ?_)
          refine lv_aload (pc := 35) hx hb dX8_copy_35 (lv_at hl 1 rfl) ?_
          refine Cgf_54_3 (pc := 37) X w kw445 dX8_copy_37 ?_
          refine lv_if_ne (pc := 40) (tgt := 51) hx hb dX8_copy_40 (by decide) (fun c_ => ?_) (fun c_ => ?_)
          · have h := h.2 c_
            refine lv_aload_n (pc := 51) hx hb dX8_copy_51 rfl (lv_at hl 2 rfl) ?_
            refine lv_iconst (pc := 52) (v := (1 : Int32)) hx hb dX8_copy_52 (by decide) ?_
            refine Ccalli (rest := []) (CrunV (pc := 53) X w (okX8_found l hJ h) kw441 kmX8_found ⟨rfl, rfl⟩ ⟨by decide, by decide⟩ (Crv_0 X w) rfl hl.1 rfl (Nat.le_of_ble_eq_true rfl) dX8_copy_53) w (fun r5 u6 H locs h w => ?_)
            exact Ciret (pc := 56) X w h dX8_copy_56
          · have h := h.1 c_
            refine lv_aload (pc := 43) hx hb dX8_copy_43 (lv_at hl 0 rfl) ?_
            refine Cgf_54_3 (pc := 45) X w kw445 dX8_copy_45 ?_
            refine lv_if_eq (pc := 48) (tgt := 57) hx hb dX8_copy_48 (by decide) (fun c_ => ?_) (fun c_ => ?_)
            · have h := h.1 c_
              refine lv_aload (pc := 57) hx hb dX8_copy_57 (lv_at hl 1 rfl) ?_
              refine Cgf_54_1 (pc := 59) X w kw447 dX8_copy_59 ?_
              refine lv_aload (pc := 62) hx hb dX8_copy_62 (lv_at hl 0 rfl) ?_
              refine Cgf_54_1 (pc := 64) X w kw447 dX8_copy_64 ?_
              refine lv_icmp_eq (pc := 67) (tgt := 76) hx hb dX8_copy_67 (by decide) (fun c_ => ?_) (fun c_ => ?_)
              · have h := h.1 c_
                refine lv_aload (pc := 76) hx hb dX8_copy_76 (lv_at hl 1 rfl) ?_
                refine lv_iload_n (pc := 78) hx hb dX8_copy_78 rfl (lv_at hl 4 rfl) ?_
                refine lv_iload (pc := 79) hx hb dX8_copy_79 (lv_at hl 7 rfl) ?_
                refine Ccalli (rest := []) (CrunV (pc := 81) X w (okX5_holds_i0 l hJ h) kw458 kmX5_holds ⟨rfl, rfl⟩ ⟨by decide, by decide⟩ (Crv_54 X w) rfl hl.1 rfl (Nat.le_of_ble_eq_true rfl) dX8_copy_81) w (fun r7 u9_ H locs h w => ?_)
                obtain ⟨hz_r7, h⟩ := h
                obtain ⟨rfl, h⟩ := h
                refine lv_if_eq (pc := 84) (tgt := 99) hx hb dX8_copy_84 (by decide) (fun c_ => ?_) (fun c_ => ?_)
                · have h := h.1 c_
                  refine lv_aload_n (pc := 99) hx hb dX8_copy_99 rfl (lv_at hl 2 rfl) ?_
                  refine lv_iconst (pc := 100) (v := (2 : Int32)) hx hb dX8_copy_100 (by decide) ?_
                  refine Ccalli (rest := []) (CrunV (pc := 101) X w (okX8_found l hJ h) kw441 kmX8_found ⟨rfl, rfl⟩ ⟨by decide, by decide⟩ (Crv_0 X w) rfl hl.1 rfl (Nat.le_of_ble_eq_true rfl) dX8_copy_101) w (fun r8 u9 H locs h w => ?_)
                  exact Ciret (pc := 104) X w h dX8_copy_104
                · have h := h.2 c_
                  refine lv_aload (pc := 87) hx hb dX8_copy_87 (lv_at hl 0 rfl) ?_
                  refine lv_iload (pc := 89) hx hb dX8_copy_89 (lv_at hl 6 rfl) ?_
                  refine lv_iload (pc := 91) hx hb dX8_copy_91 (lv_at hl 7 rfl) ?_
                  refine Ccalli (rest := []) (CrunV (pc := 93) X w (okX5_holds_i0 l hJ h) kw458 kmX5_holds ⟨rfl, rfl⟩ ⟨by decide, by decide⟩ (Crv_54 X w) rfl hl.1 rfl (Nat.le_of_ble_eq_true rfl) dX8_copy_93) w (fun r10 u9_ H locs h w => ?_)
                  obtain ⟨hz_r10, h⟩ := h
                  obtain ⟨rfl, h⟩ := h
                  refine lv_if_ne (pc := 96) (tgt := 105) hx hb dX8_copy_96 (by decide) (fun c_ => ?_) (fun c_ => ?_)
                  · have h := h.2 c_
                    refine lv_aload (pc := 105) hx hb dX8_copy_105 (lv_at hl 1 rfl) ?_
                    refine Cgf_54_0 (pc := 107) X w kw456 dX8_copy_107 ?_
                    refine lv_iload_n (pc := 110) hx hb dX8_copy_110 rfl (lv_at hl 4 rfl) ?_
                    refine lv_aload (pc := 111) hx hb dX8_copy_111 (lv_at hl 0 rfl) ?_
                    refine Cgf_54_0 (pc := 113) X w kw456 dX8_copy_113 ?_
                    refine lv_iload (pc := 116) hx hb dX8_copy_116 (lv_at hl 6 rfl) ?_
                    refine lv_iload (pc := 118) hx hb dX8_copy_118 (lv_at hl 7 rfl) ?_
                    refine va_copyi (pc := 120) hx hb (hml.trans hl.1.symm) hown (hts _ (List.mem_cons_of_mem _ kw486)) (hts _ (List.mem_cons_of_mem _ kw487)) (hts _ (List.mem_cons_of_mem _ kw488)) (hts _ (List.mem_cons_of_mem _ kw489)) hK.1 w.1 (CD hJ hAA _) w.2 55 55 0 0 rfl rfl rfl rfl rfl h.1 h.2.1 h.2.2.1 h.2.2.2.1 h.2.2.2.2.1 (fun _ _ => rfl) (by decide) (by decide +kernel) dX8_copy_120 (fun H locs hP _ hS => ?_)
                    have h := h.2.2.2.2.2
                    obtain ⟨u11, e_⟩ : ∃ y : Mm, y = r32 u 55 (va_cpy (u.1 55) (u.1 55) a2.toNatClampNeg a4.toNatClampNeg a5.toNatClampNeg) := ⟨_, rfl⟩
                    have h := h u11 e_
                    have w : CWd D g ad (CA ad) s u11 H locs := by rw [e_]; exact ⟨hP, hS⟩
                    refine lv_iconst (pc := 123) (v := (1 : Int32)) hx hb dX8_copy_123 (by decide) ?_
                    exact Ciret (pc := 124) X w h dX8_copy_124
                  · have h := h.1 c_
                    refine lv_aload_n (pc := 99) hx hb dX8_copy_99 rfl (lv_at hl 2 rfl) ?_
                    refine lv_iconst (pc := 100) (v := (2 : Int32)) hx hb dX8_copy_100 (by decide) ?_
                    refine Ccalli (rest := []) (CrunV (pc := 101) X w (okX8_found l hJ h) kw441 kmX8_found ⟨rfl, rfl⟩ ⟨by decide, by decide⟩ (Crv_0 X w) rfl hl.1 rfl (Nat.le_of_ble_eq_true rfl) dX8_copy_101) w (fun r12 u13 H locs h w => ?_)
                    exact Ciret (pc := 104) X w h dX8_copy_104
              · have h := h.2 c_
                refine lv_aload_n (pc := 70) hx hb dX8_copy_70 rfl (lv_at hl 2 rfl) ?_
                refine lv_iconst (pc := 71) (v := (4 : Int32)) hx hb dX8_copy_71 (by decide) ?_
                refine Ccalli (rest := []) (CrunV (pc := 72) X w (okX8_found l hJ h) kw441 kmX8_found ⟨rfl, rfl⟩ ⟨by decide, by decide⟩ (Crv_0 X w) rfl hl.1 rfl (Nat.le_of_ble_eq_true rfl) dX8_copy_72) w (fun r14 u15 H locs h w => ?_)
                exact Ciret (pc := 75) X w h dX8_copy_75
            · have h := h.2 c_
              refine lv_aload_n (pc := 51) hx hb dX8_copy_51 rfl (lv_at hl 2 rfl) ?_
              refine lv_iconst (pc := 52) (v := (1 : Int32)) hx hb dX8_copy_52 (by decide) ?_
              refine Ccalli (rest := []) (CrunV (pc := 53) X w (okX8_found l hJ h) kw441 kmX8_found ⟨rfl, rfl⟩ ⟨by decide, by decide⟩ (Crv_0 X w) rfl hl.1 rfl (Nat.le_of_ble_eq_true rfl) dX8_copy_53) w (fun r16 u17 H locs h w => ?_)
              exact Ciret (pc := 56) X w h dX8_copy_56
        · refine Caq_53 1 (by decide) (pc := 32) X w dX8_copy_32 ?_
          refine lv_astore (pc := 33) (lv' := [(7, .ref (ad 56)), (6, .ref (ad 54)), (0, .ref (ad 0)), (1, .int a1), (2, .int a2), (3, .int a3), (4, .int a4), (5, .int a5)]) hx hb dX8_copy_33 hl (by decide) rfl (fun ls hl => ?_)
          refine lv_aload (pc := 35) hx hb dX8_copy_35 (lv_at hl 1 rfl) ?_
          refine Cgf_54_3 (pc := 37) X w kw445 dX8_copy_37 ?_
          refine lv_if_ne (pc := 40) (tgt := 51) hx hb dX8_copy_40 (by decide) (fun c_ => ?_) (fun c_ => ?_)
          · have h := h.2 c_
            refine lv_aload_n (pc := 51) hx hb dX8_copy_51 rfl (lv_at hl 2 rfl) ?_
            refine lv_iconst (pc := 52) (v := (1 : Int32)) hx hb dX8_copy_52 (by decide) ?_
            refine Ccalli (rest := []) (CrunV (pc := 53) X w (okX8_found l hJ h) kw441 kmX8_found ⟨rfl, rfl⟩ ⟨by decide, by decide⟩ (Crv_0 X w) rfl hl.1 rfl (Nat.le_of_ble_eq_true rfl) dX8_copy_53) w (fun r5 u6 H locs h w => ?_)
            exact Ciret (pc := 56) X w h dX8_copy_56
          · have h := h.1 c_
            refine lv_aload (pc := 43) hx hb dX8_copy_43 (lv_at hl 0 rfl) ?_
            refine Cgf_56_3 (pc := 45) X w kw445 dX8_copy_45 ?_
            refine lv_if_eq (pc := 48) (tgt := 57) hx hb dX8_copy_48 (by decide) (fun c_ => ?_) (fun c_ => ?_)
            · have h := h.1 c_
              refine lv_aload (pc := 57) hx hb dX8_copy_57 (lv_at hl 1 rfl) ?_
              refine Cgf_54_1 (pc := 59) X w kw447 dX8_copy_59 ?_
              refine lv_aload (pc := 62) hx hb dX8_copy_62 (lv_at hl 0 rfl) ?_
              refine Cgf_56_1 (pc := 64) X w kw447 dX8_copy_64 ?_
              refine lv_icmp_eq (pc := 67) (tgt := 76) hx hb dX8_copy_67 (by decide) (fun c_ => ?_) (fun c_ => ?_)
              · have h := h.1 c_
                refine lv_aload (pc := 76) hx hb dX8_copy_76 (lv_at hl 1 rfl) ?_
                refine lv_iload_n (pc := 78) hx hb dX8_copy_78 rfl (lv_at hl 4 rfl) ?_
                refine lv_iload (pc := 79) hx hb dX8_copy_79 (lv_at hl 7 rfl) ?_
                refine Ccalli (rest := []) (CrunV (pc := 81) X w (okX5_holds_i0 l hJ h) kw458 kmX5_holds ⟨rfl, rfl⟩ ⟨by decide, by decide⟩ (Crv_54 X w) rfl hl.1 rfl (Nat.le_of_ble_eq_true rfl) dX8_copy_81) w (fun r7 u9_ H locs h w => ?_)
                obtain ⟨hz_r7, h⟩ := h
                obtain ⟨rfl, h⟩ := h
                refine lv_if_eq (pc := 84) (tgt := 99) hx hb dX8_copy_84 (by decide) (fun c_ => ?_) (fun c_ => ?_)
                · have h := h.1 c_
                  refine lv_aload_n (pc := 99) hx hb dX8_copy_99 rfl (lv_at hl 2 rfl) ?_
                  refine lv_iconst (pc := 100) (v := (2 : Int32)) hx hb dX8_copy_100 (by decide) ?_
                  refine Ccalli (rest := []) (CrunV (pc := 101) X w (okX8_found l hJ h) kw441 kmX8_found ⟨rfl, rfl⟩ ⟨by decide, by decide⟩ (Crv_0 X w) rfl hl.1 rfl (Nat.le_of_ble_eq_true rfl) dX8_copy_101) w (fun r8 u9 H locs h w => ?_)
                  exact Ciret (pc := 104) X w h dX8_copy_104
                · have h := h.2 c_
                  refine lv_aload (pc := 87) hx hb dX8_copy_87 (lv_at hl 0 rfl) ?_
                  refine lv_iload (pc := 89) hx hb dX8_copy_89 (lv_at hl 6 rfl) ?_
                  refine lv_iload (pc := 91) hx hb dX8_copy_91 (lv_at hl 7 rfl) ?_
                  refine Ccalli (rest := []) (CrunV (pc := 93) X w (okX5_holds_i1 l hJ h) kw458 kmX5_holds ⟨rfl, rfl⟩ ⟨by decide, by decide⟩ (Crv_56 X w) rfl hl.1 rfl (Nat.le_of_ble_eq_true rfl) dX8_copy_93) w (fun r10 u9_ H locs h w => ?_)
                  obtain ⟨hz_r10, h⟩ := h
                  obtain ⟨rfl, h⟩ := h
                  refine lv_if_ne (pc := 96) (tgt := 105) hx hb dX8_copy_96 (by decide) (fun c_ => ?_) (fun c_ => ?_)
                  · have h := h.2 c_
                    refine lv_aload (pc := 105) hx hb dX8_copy_105 (lv_at hl 1 rfl) ?_
                    refine Cgf_54_0 (pc := 107) X w kw456 dX8_copy_107 ?_
                    refine lv_iload_n (pc := 110) hx hb dX8_copy_110 rfl (lv_at hl 4 rfl) ?_
                    refine lv_aload (pc := 111) hx hb dX8_copy_111 (lv_at hl 0 rfl) ?_
                    refine Cgf_56_0 (pc := 113) X w kw456 dX8_copy_113 ?_
                    refine lv_iload (pc := 116) hx hb dX8_copy_116 (lv_at hl 6 rfl) ?_
                    refine lv_iload (pc := 118) hx hb dX8_copy_118 (lv_at hl 7 rfl) ?_
                    refine va_copyi (pc := 120) hx hb (hml.trans hl.1.symm) hown (hts _ (List.mem_cons_of_mem _ kw486)) (hts _ (List.mem_cons_of_mem _ kw487)) (hts _ (List.mem_cons_of_mem _ kw488)) (hts _ (List.mem_cons_of_mem _ kw489)) hK.1 w.1 (CD hJ hAA _) w.2 55 57 0 0 rfl rfl rfl rfl rfl h.1 h.2.1 h.2.2.1 h.2.2.2.1 h.2.2.2.2.1 (fun _ _ => rfl) (by decide) (by decide +kernel) dX8_copy_120 (fun H locs hP _ hS => ?_)
                    have h := h.2.2.2.2.2
                    obtain ⟨u11, e_⟩ : ∃ y : Mm, y = r32 u 57 (va_cpy (u.1 55) (u.1 57) a2.toNatClampNeg a4.toNatClampNeg a5.toNatClampNeg) := ⟨_, rfl⟩
                    have h := h u11 e_
                    have w : CWd D g ad (CA ad) s u11 H locs := by rw [e_]; exact ⟨hP, hS⟩
                    refine lv_iconst (pc := 123) (v := (1 : Int32)) hx hb dX8_copy_123 (by decide) ?_
                    exact Ciret (pc := 124) X w h dX8_copy_124
                  · have h := h.1 c_
                    refine lv_aload_n (pc := 99) hx hb dX8_copy_99 rfl (lv_at hl 2 rfl) ?_
                    refine lv_iconst (pc := 100) (v := (2 : Int32)) hx hb dX8_copy_100 (by decide) ?_
                    refine Ccalli (rest := []) (CrunV (pc := 101) X w (okX8_found l hJ h) kw441 kmX8_found ⟨rfl, rfl⟩ ⟨by decide, by decide⟩ (Crv_0 X w) rfl hl.1 rfl (Nat.le_of_ble_eq_true rfl) dX8_copy_101) w (fun r12 u13 H locs h w => ?_)
                    exact Ciret (pc := 104) X w h dX8_copy_104
              · have h := h.2 c_
                refine lv_aload_n (pc := 70) hx hb dX8_copy_70 rfl (lv_at hl 2 rfl) ?_
                refine lv_iconst (pc := 71) (v := (4 : Int32)) hx hb dX8_copy_71 (by decide) ?_
                refine Ccalli (rest := []) (CrunV (pc := 72) X w (okX8_found l hJ h) kw441 kmX8_found ⟨rfl, rfl⟩ ⟨by decide, by decide⟩ (Crv_0 X w) rfl hl.1 rfl (Nat.le_of_ble_eq_true rfl) dX8_copy_72) w (fun r14 u15 H locs h w => ?_)
                exact Ciret (pc := 75) X w h dX8_copy_75
            · have h := h.2 c_
              refine lv_aload_n (pc := 51) hx hb dX8_copy_51 rfl (lv_at hl 2 rfl) ?_
              refine lv_iconst (pc := 52) (v := (1 : Int32)) hx hb dX8_copy_52 (by decide) ?_
              refine Ccalli (rest := []) (CrunV (pc := 53) X w (okX8_found l hJ h) kw441 kmX8_found ⟨rfl, rfl⟩ ⟨by decide, by decide⟩ (Crv_0 X w) rfl hl.1 rfl (Nat.le_of_ble_eq_true rfl) dX8_copy_53) w (fun r16 u17 H locs h w => ?_)
              exact Ciret (pc := 56) X w h dX8_copy_56
        · refine Caq_53 2 (by decide) (pc := 32) X w dX8_copy_32 ?_
          refine lv_astore (pc := 33) (lv' := [(7, .ref (ad 58)), (6, .ref (ad 54)), (0, .ref (ad 0)), (1, .int a1), (2, .int a2), (3, .int a3), (4, .int a4), (5, .int a5)]) hx hb dX8_copy_33 hl (by decide) rfl (fun ls hl => ?_)
          refine lv_aload (pc := 35) hx hb dX8_copy_35 (lv_at hl 1 rfl) ?_
          refine Cgf_54_3 (pc := 37) X w kw445 dX8_copy_37 ?_
          refine lv_if_ne (pc := 40) (tgt := 51) hx hb dX8_copy_40 (by decide) (fun c_ => ?_) (fun c_ => ?_)
          · have h := h.2 c_
            refine lv_aload_n (pc := 51) hx hb dX8_copy_51 rfl (lv_at hl 2 rfl) ?_
            refine lv_iconst (pc := 52) (v := (1 : Int32)) hx hb dX8_copy_52 (by decide) ?_
            refine Ccalli (rest := []) (CrunV (pc := 53) X w (okX8_found l hJ h) kw441 kmX8_found ⟨rfl, rfl⟩ ⟨by decide, by decide⟩ (Crv_0 X w) rfl hl.1 rfl (Nat.le_of_ble_eq_true rfl) dX8_copy_53) w (fun r5 u6 H locs h w => ?_)
            exact Ciret (pc := 56) X w h dX8_copy_56
          · have h := h.1 c_
            refine lv_aload (pc := 43) hx hb dX8_copy_43 (lv_at hl 0 rfl) ?_
            refine Cgf_58_3 (pc := 45) X w kw445 dX8_copy_45 ?_
            refine lv_if_eq (pc := 48) (tgt := 57) hx hb dX8_copy_48 (by decide) (fun c_ => ?_) (fun c_ => ?_)
            · have h := h.1 c_
              refine lv_aload (pc := 57) hx hb dX8_copy_57 (lv_at hl 1 rfl) ?_
              refine Cgf_54_1 (pc := 59) X w kw447 dX8_copy_59 ?_
              refine lv_aload (pc := 62) hx hb dX8_copy_62 (lv_at hl 0 rfl) ?_
              refine Cgf_58_1 (pc := 64) X w kw447 dX8_copy_64 ?_
              refine lv_icmp_eq (pc := 67) (tgt := 76) hx hb dX8_copy_67 (by decide) (fun c_ => ?_) (fun c_ => ?_)
              · have h := h.1 c_
                refine lv_aload (pc := 76) hx hb dX8_copy_76 (lv_at hl 1 rfl) ?_
                refine lv_iload_n (pc := 78) hx hb dX8_copy_78 rfl (lv_at hl 4 rfl) ?_
                refine lv_iload (pc := 79) hx hb dX8_copy_79 (lv_at hl 7 rfl) ?_
                refine Ccalli (rest := []) (CrunV (pc := 81) X w (okX5_holds_i0 l hJ h) kw458 kmX5_holds ⟨rfl, rfl⟩ ⟨by decide, by decide⟩ (Crv_54 X w) rfl hl.1 rfl (Nat.le_of_ble_eq_true rfl) dX8_copy_81) w (fun r7 u9_ H locs h w => ?_)
                obtain ⟨hz_r7, h⟩ := h
                obtain ⟨rfl, h⟩ := h
                refine lv_if_eq (pc := 84) (tgt := 99) hx hb dX8_copy_84 (by decide) (fun c_ => ?_) (fun c_ => ?_)
                · have h := h.1 c_
                  refine lv_aload_n (pc := 99) hx hb dX8_copy_99 rfl (lv_at hl 2 rfl) ?_
                  refine lv_iconst (pc := 100) (v := (2 : Int32)) hx hb dX8_copy_100 (by decide) ?_
                  refine Ccalli (rest := []) (CrunV (pc := 101) X w (okX8_found l hJ h) kw441 kmX8_found ⟨rfl, rfl⟩ ⟨by decide, by decide⟩ (Crv_0 X w) rfl hl.1 rfl (Nat.le_of_ble_eq_true rfl) dX8_copy_101) w (fun r8 u9 H locs h w => ?_)
                  exact Ciret (pc := 104) X w h dX8_copy_104
                · have h := h.2 c_
                  refine lv_aload (pc := 87) hx hb dX8_copy_87 (lv_at hl 0 rfl) ?_
                  refine lv_iload (pc := 89) hx hb dX8_copy_89 (lv_at hl 6 rfl) ?_
                  refine lv_iload (pc := 91) hx hb dX8_copy_91 (lv_at hl 7 rfl) ?_
                  refine Ccalli (rest := []) (CrunV (pc := 93) X w (okX5_holds_i2 l hJ h) kw458 kmX5_holds ⟨rfl, rfl⟩ ⟨by decide, by decide⟩ (Crv_58 X w) rfl hl.1 rfl (Nat.le_of_ble_eq_true rfl) dX8_copy_93) w (fun r10 u9_ H locs h w => ?_)
                  obtain ⟨hz_r10, h⟩ := h
                  obtain ⟨rfl, h⟩ := h
                  refine lv_if_ne (pc := 96) (tgt := 105) hx hb dX8_copy_96 (by decide) (fun c_ => ?_) (fun c_ => ?_)
                  · have h := h.2 c_
                    refine lv_aload (pc := 105) hx hb dX8_copy_105 (lv_at hl 1 rfl) ?_
                    refine Cgf_54_0 (pc := 107) X w kw456 dX8_copy_107 ?_
                    refine lv_iload_n (pc := 110) hx hb dX8_copy_110 rfl (lv_at hl 4 rfl) ?_
                    refine lv_aload (pc := 111) hx hb dX8_copy_111 (lv_at hl 0 rfl) ?_
                    refine Cgf_58_0 (pc := 113) X w kw456 dX8_copy_113 ?_
                    refine lv_iload (pc := 116) hx hb dX8_copy_116 (lv_at hl 6 rfl) ?_
                    refine lv_iload (pc := 118) hx hb dX8_copy_118 (lv_at hl 7 rfl) ?_
                    refine va_copyi (pc := 120) hx hb (hml.trans hl.1.symm) hown (hts _ (List.mem_cons_of_mem _ kw486)) (hts _ (List.mem_cons_of_mem _ kw487)) (hts _ (List.mem_cons_of_mem _ kw488)) (hts _ (List.mem_cons_of_mem _ kw489)) hK.1 w.1 (CD hJ hAA _) w.2 55 59 0 0 rfl rfl rfl rfl rfl h.1 h.2.1 h.2.2.1 h.2.2.2.1 h.2.2.2.2.1 (fun _ _ => rfl) (by decide) (by decide +kernel) dX8_copy_120 (fun H locs hP _ hS => ?_)
                    have h := h.2.2.2.2.2
                    obtain ⟨u11, e_⟩ : ∃ y : Mm, y = r32 u 59 (va_cpy (u.1 55) (u.1 59) a2.toNatClampNeg a4.toNatClampNeg a5.toNatClampNeg) := ⟨_, rfl⟩
                    have h := h u11 e_
                    have w : CWd D g ad (CA ad) s u11 H locs := by rw [e_]; exact ⟨hP, hS⟩
                    refine lv_iconst (pc := 123) (v := (1 : Int32)) hx hb dX8_copy_123 (by decide) ?_
                    exact Ciret (pc := 124) X w h dX8_copy_124
                  · have h := h.1 c_
                    refine lv_aload_n (pc := 99) hx hb dX8_copy_99 rfl (lv_at hl 2 rfl) ?_
                    refine lv_iconst (pc := 100) (v := (2 : Int32)) hx hb dX8_copy_100 (by decide) ?_
                    refine Ccalli (rest := []) (CrunV (pc := 101) X w (okX8_found l hJ h) kw441 kmX8_found ⟨rfl, rfl⟩ ⟨by decide, by decide⟩ (Crv_0 X w) rfl hl.1 rfl (Nat.le_of_ble_eq_true rfl) dX8_copy_101) w (fun r12 u13 H locs h w => ?_)
                    exact Ciret (pc := 104) X w h dX8_copy_104
              · have h := h.2 c_
                refine lv_aload_n (pc := 70) hx hb dX8_copy_70 rfl (lv_at hl 2 rfl) ?_
                refine lv_iconst (pc := 71) (v := (4 : Int32)) hx hb dX8_copy_71 (by decide) ?_
                refine Ccalli (rest := []) (CrunV (pc := 72) X w (okX8_found l hJ h) kw441 kmX8_found ⟨rfl, rfl⟩ ⟨by decide, by decide⟩ (Crv_0 X w) rfl hl.1 rfl (Nat.le_of_ble_eq_true rfl) dX8_copy_72) w (fun r14 u15 H locs h w => ?_)
                exact Ciret (pc := 75) X w h dX8_copy_75
            · have h := h.2 c_
              refine lv_aload_n (pc := 51) hx hb dX8_copy_51 rfl (lv_at hl 2 rfl) ?_
              refine lv_iconst (pc := 52) (v := (1 : Int32)) hx hb dX8_copy_52 (by decide) ?_
              refine Ccalli (rest := []) (CrunV (pc := 53) X w (okX8_found l hJ h) kw441 kmX8_found ⟨rfl, rfl⟩ ⟨by decide, by decide⟩ (Crv_0 X w) rfl hl.1 rfl (Nat.le_of_ble_eq_true rfl) dX8_copy_53) w (fun r16 u17 H locs h w => ?_)
              exact Ciret (pc := 56) X w h dX8_copy_56
        · refine Caq_53 3 (by decide) (pc := 32) X w dX8_copy_32 ?_
          refine lv_astore (pc := 33) (lv' := [(7, .ref (ad 60)), (6, .ref (ad 54)), (0, .ref (ad 0)), (1, .int a1), (2, .int a2), (3, .int a3), (4, .int a4), (5, .int a5)]) hx hb dX8_copy_33 hl (by decide) rfl (fun ls hl => ?_)
          refine lv_aload (pc := 35) hx hb dX8_copy_35 (lv_at hl 1 rfl) ?_
          refine Cgf_54_3 (pc := 37) X w kw445 dX8_copy_37 ?_
          refine lv_if_ne (pc := 40) (tgt := 51) hx hb dX8_copy_40 (by decide) (fun c_ => ?_) (fun c_ => ?_)
          · have h := h.2 c_
            refine lv_aload_n (pc := 51) hx hb dX8_copy_51 rfl (lv_at hl 2 rfl) ?_
            refine lv_iconst (pc := 52) (v := (1 : Int32)) hx hb dX8_copy_52 (by decide) ?_
            refine Ccalli (rest := []) (CrunV (pc := 53) X w (okX8_found l hJ h) kw441 kmX8_found ⟨rfl, rfl⟩ ⟨by decide, by decide⟩ (Crv_0 X w) rfl hl.1 rfl (Nat.le_of_ble_eq_true rfl) dX8_copy_53) w (fun r5 u6 H locs h w => ?_)
            exact Ciret (pc := 56) X w h dX8_copy_56
          · have h := h.1 c_
            refine lv_aload (pc := 43) hx hb dX8_copy_43 (lv_at hl 0 rfl) ?_
            refine Cgf_60_3 (pc := 45) X w kw445 dX8_copy_45 ?_
            refine lv_if_eq (pc := 48) (tgt := 57) hx hb dX8_copy_48 (by decide) (fun c_ => ?_) (fun c_ => ?_)
            · have h := h.1 c_
              refine lv_aload (pc := 57) hx hb dX8_copy_57 (lv_at hl 1 rfl) ?_
              refine Cgf_54_1 (pc := 59) X w kw447 dX8_copy_59 ?_
              refine lv_aload (pc := 62) hx hb dX8_copy_62 (lv_at hl 0 rfl) ?_
              refine Cgf_60_1 (pc := 64) X w kw447 dX8_copy_64 ?_
              refine lv_icmp_eq (pc := 67) (tgt := 76) hx hb dX8_copy_67 (by decide) (fun c_ => ?_) (fun c_ => ?_)
              · have h := h.1 c_
                refine lv_aload (pc := 76) hx hb dX8_copy_76 (lv_at hl 1 rfl) ?_
                refine lv_iload_n (pc := 78) hx hb dX8_copy_78 rfl (lv_at hl 4 rfl) ?_
                refine lv_iload (pc := 79) hx hb dX8_copy_79 (lv_at hl 7 rfl) ?_
                refine Ccalli (rest := []) (CrunV (pc := 81) X w (okX5_holds_i0 l hJ h) kw458 kmX5_holds ⟨rfl, rfl⟩ ⟨by decide, by decide⟩ (Crv_54 X w) rfl hl.1 rfl (Nat.le_of_ble_eq_true rfl) dX8_copy_81) w (fun r7 u9_ H locs h w => ?_)
                obtain ⟨hz_r7, h⟩ := h
                obtain ⟨rfl, h⟩ := h
                refine lv_if_eq (pc := 84) (tgt := 99) hx hb dX8_copy_84 (by decide) (fun c_ => ?_) (fun c_ => ?_)
                · have h := h.1 c_
                  refine lv_aload_n (pc := 99) hx hb dX8_copy_99 rfl (lv_at hl 2 rfl) ?_
                  refine lv_iconst (pc := 100) (v := (2 : Int32)) hx hb dX8_copy_100 (by decide) ?_
                  refine Ccalli (rest := []) (CrunV (pc := 101) X w (okX8_found l hJ h) kw441 kmX8_found ⟨rfl, rfl⟩ ⟨by decide, by decide⟩ (Crv_0 X w) rfl hl.1 rfl (Nat.le_of_ble_eq_true rfl) dX8_copy_101) w (fun r8 u9 H locs h w => ?_)
                  exact Ciret (pc := 104) X w h dX8_copy_104
                · have h := h.2 c_
                  refine lv_aload (pc := 87) hx hb dX8_copy_87 (lv_at hl 0 rfl) ?_
                  refine lv_iload (pc := 89) hx hb dX8_copy_89 (lv_at hl 6 rfl) ?_
                  refine lv_iload (pc := 91) hx hb dX8_copy_91 (lv_at hl 7 rfl) ?_
                  refine Ccalli (rest := []) (CrunV (pc := 93) X w (okX5_holds_i3 l hJ h) kw458 kmX5_holds ⟨rfl, rfl⟩ ⟨by decide, by decide⟩ (Crv_60 X w) rfl hl.1 rfl (Nat.le_of_ble_eq_true rfl) dX8_copy_93) w (fun r10 u9_ H locs h w => ?_)
                  obtain ⟨hz_r10, h⟩ := h
                  obtain ⟨rfl, h⟩ := h
                  refine lv_if_ne (pc := 96) (tgt := 105) hx hb dX8_copy_96 (by decide) (fun c_ => ?_) (fun c_ => ?_)
                  · have h := h.2 c_
                    refine lv_aload (pc := 105) hx hb dX8_copy_105 (lv_at hl 1 rfl) ?_
                    refine Cgf_54_0 (pc := 107) X w kw456 dX8_copy_107 ?_
                    refine lv_iload_n (pc := 110) hx hb dX8_copy_110 rfl (lv_at hl 4 rfl) ?_
                    refine lv_aload (pc := 111) hx hb dX8_copy_111 (lv_at hl 0 rfl) ?_
                    refine Cgf_60_0 (pc := 113) X w kw456 dX8_copy_113 ?_
                    refine lv_iload (pc := 116) hx hb dX8_copy_116 (lv_at hl 6 rfl) ?_
                    refine lv_iload (pc := 118) hx hb dX8_copy_118 (lv_at hl 7 rfl) ?_
                    refine va_copyi (pc := 120) hx hb (hml.trans hl.1.symm) hown (hts _ (List.mem_cons_of_mem _ kw486)) (hts _ (List.mem_cons_of_mem _ kw487)) (hts _ (List.mem_cons_of_mem _ kw488)) (hts _ (List.mem_cons_of_mem _ kw489)) hK.1 w.1 (CD hJ hAA _) w.2 55 61 0 0 rfl rfl rfl rfl rfl h.1 h.2.1 h.2.2.1 h.2.2.2.1 h.2.2.2.2.1 (fun _ _ => rfl) (by decide) (by decide +kernel) dX8_copy_120 (fun H locs hP _ hS => ?_)
                    have h := h.2.2.2.2.2
                    obtain ⟨u11, e_⟩ : ∃ y : Mm, y = r32 u 61 (va_cpy (u.1 55) (u.1 61) a2.toNatClampNeg a4.toNatClampNeg a5.toNatClampNeg) := ⟨_, rfl⟩
                    have h := h u11 e_
                    have w : CWd D g ad (CA ad) s u11 H locs := by rw [e_]; exact ⟨hP, hS⟩
                    refine lv_iconst (pc := 123) (v := (1 : Int32)) hx hb dX8_copy_123 (by decide) ?_
                    exact Ciret (pc := 124) X w h dX8_copy_124
                  · have h := h.1 c_
                    refine lv_aload_n (pc := 99) hx hb dX8_copy_99 rfl (lv_at hl 2 rfl) ?_
                    refine lv_iconst (pc := 100) (v := (2 : Int32)) hx hb dX8_copy_100 (by decide) ?_
                    refine Ccalli (rest := []) (CrunV (pc := 101) X w (okX8_found l hJ h) kw441 kmX8_found ⟨rfl, rfl⟩ ⟨by decide, by decide⟩ (Crv_0 X w) rfl hl.1 rfl (Nat.le_of_ble_eq_true rfl) dX8_copy_101) w (fun r12 u13 H locs h w => ?_)
                    exact Ciret (pc := 104) X w h dX8_copy_104
              · have h := h.2 c_
                refine lv_aload_n (pc := 70) hx hb dX8_copy_70 rfl (lv_at hl 2 rfl) ?_
                refine lv_iconst (pc := 71) (v := (4 : Int32)) hx hb dX8_copy_71 (by decide) ?_
                refine Ccalli (rest := []) (CrunV (pc := 72) X w (okX8_found l hJ h) kw441 kmX8_found ⟨rfl, rfl⟩ ⟨by decide, by decide⟩ (Crv_0 X w) rfl hl.1 rfl (Nat.le_of_ble_eq_true rfl) dX8_copy_72) w (fun r14 u15 H locs h w => ?_)
                exact Ciret (pc := 75) X w h dX8_copy_75
            · have h := h.2 c_
              refine lv_aload_n (pc := 51) hx hb dX8_copy_51 rfl (lv_at hl 2 rfl) ?_
              refine lv_iconst (pc := 52) (v := (1 : Int32)) hx hb dX8_copy_52 (by decide) ?_
              refine Ccalli (rest := []) (CrunV (pc := 53) X w (okX8_found l hJ h) kw441 kmX8_found ⟨rfl, rfl⟩ ⟨by decide, by decide⟩ (Crv_0 X w) rfl hl.1 rfl (Nat.le_of_ble_eq_true rfl) dX8_copy_53) w (fun r16 u17 H locs h w => ?_)
              exact Ciret (pc := 56) X w h dX8_copy_56
      · refine Caq_53 1 (by decide) (pc := 24) X w dX8_copy_24 ?_
        refine lv_astore (pc := 25) (lv' := [(6, .ref (ad 56)), (0, .ref (ad 0)), (1, .int a1), (2, .int a2), (3, .int a3), (4, .int a4), (5, .int a5)]) hx hb dX8_copy_25 hl (by decide) rfl (fun ls hl => ?_)
        refine lv_aload_n (pc := 27) hx hb dX8_copy_27 rfl (lv_at hl 1 rfl) ?_
        refine Cgf_0_6 (pc := 28) X w kw435 dX8_copy_28 ?_
        refine lv_iload_n (pc := 31) hx hb dX8_copy_31 rfl (lv_at hl 4 rfl) ?_
        obtain ⟨j4, hj_, e_⟩ := vp_in_of h.1 (by decide)
        have h := h.2 j4 hj_ e_
        refine W.eq (g2 := F0 m 32 ls (.int (nI j4) :: .ref (ad 53) :: [])) (by rw [e_]) ?_
        clear e_
        rcases (show j4 = 0 ∨ j4 = 1 ∨ j4 = 2 ∨ j4 = 3 by omega) with rfl | rfl | rfl | rfl
        · refine Caq_53 0 (by decide) (pc := 32) X w dX8_copy_32 ?_
          refine lv_astore (pc := 33) (lv' := [(7, .ref (ad 54)), (6, .ref (ad 56)), (0, .ref (ad 0)), (1, .int a1), (2, .int a2), (3, .int a3), (4, .int a4), (5, .int a5)]) hx hb dX8_copy_33 hl (by decide) rfl (fun ls hl => ?_)
          refine lv_aload (pc := 35) hx hb dX8_copy_35 (lv_at hl 1 rfl) ?_
          refine Cgf_56_3 (pc := 37) X w kw445 dX8_copy_37 ?_
          refine lv_if_ne (pc := 40) (tgt := 51) hx hb dX8_copy_40 (by decide) (fun c_ => ?_) (fun c_ => ?_)
          · have h := h.2 c_
            refine lv_aload_n (pc := 51) hx hb dX8_copy_51 rfl (lv_at hl 2 rfl) ?_
            refine lv_iconst (pc := 52) (v := (1 : Int32)) hx hb dX8_copy_52 (by decide) ?_
            refine Ccalli (rest := []) (CrunV (pc := 53) X w (okX8_found l hJ h) kw441 kmX8_found ⟨rfl, rfl⟩ ⟨by decide, by decide⟩ (Crv_0 X w) rfl hl.1 rfl (Nat.le_of_ble_eq_true rfl) dX8_copy_53) w (fun r5 u6 H locs h w => ?_)
            exact Ciret (pc := 56) X w h dX8_copy_56
          · have h := h.1 c_
            refine lv_aload (pc := 43) hx hb dX8_copy_43 (lv_at hl 0 rfl) ?_
            refine Cgf_54_3 (pc := 45) X w kw445 dX8_copy_45 ?_
            refine lv_if_eq (pc := 48) (tgt := 57) hx hb dX8_copy_48 (by decide) (fun c_ => ?_) (fun c_ => ?_)
            · have h := h.1 c_
              refine lv_aload (pc := 57) hx hb dX8_copy_57 (lv_at hl 1 rfl) ?_
              refine Cgf_56_1 (pc := 59) X w kw447 dX8_copy_59 ?_
              refine lv_aload (pc := 62) hx hb dX8_copy_62 (lv_at hl 0 rfl) ?_
              refine Cgf_54_1 (pc := 64) X w kw447 dX8_copy_64 ?_
              refine lv_icmp_eq (pc := 67) (tgt := 76) hx hb dX8_copy_67 (by decide) (fun c_ => ?_) (fun c_ => ?_)
              · have h := h.1 c_
                refine lv_aload (pc := 76) hx hb dX8_copy_76 (lv_at hl 1 rfl) ?_
                refine lv_iload_n (pc := 78) hx hb dX8_copy_78 rfl (lv_at hl 4 rfl) ?_
                refine lv_iload (pc := 79) hx hb dX8_copy_79 (lv_at hl 7 rfl) ?_
                refine Ccalli (rest := []) (CrunV (pc := 81) X w (okX5_holds_i1 l hJ h) kw458 kmX5_holds ⟨rfl, rfl⟩ ⟨by decide, by decide⟩ (Crv_56 X w) rfl hl.1 rfl (Nat.le_of_ble_eq_true rfl) dX8_copy_81) w (fun r7 u9_ H locs h w => ?_)
                obtain ⟨hz_r7, h⟩ := h
                obtain ⟨rfl, h⟩ := h
                refine lv_if_eq (pc := 84) (tgt := 99) hx hb dX8_copy_84 (by decide) (fun c_ => ?_) (fun c_ => ?_)
                · have h := h.1 c_
                  refine lv_aload_n (pc := 99) hx hb dX8_copy_99 rfl (lv_at hl 2 rfl) ?_
                  refine lv_iconst (pc := 100) (v := (2 : Int32)) hx hb dX8_copy_100 (by decide) ?_
                  refine Ccalli (rest := []) (CrunV (pc := 101) X w (okX8_found l hJ h) kw441 kmX8_found ⟨rfl, rfl⟩ ⟨by decide, by decide⟩ (Crv_0 X w) rfl hl.1 rfl (Nat.le_of_ble_eq_true rfl) dX8_copy_101) w (fun r8 u9 H locs h w => ?_)
                  exact Ciret (pc := 104) X w h dX8_copy_104
                · have h := h.2 c_
                  refine lv_aload (pc := 87) hx hb dX8_copy_87 (lv_at hl 0 rfl) ?_
                  refine lv_iload (pc := 89) hx hb dX8_copy_89 (lv_at hl 6 rfl) ?_
                  refine lv_iload (pc := 91) hx hb dX8_copy_91 (lv_at hl 7 rfl) ?_
                  refine Ccalli (rest := []) (CrunV (pc := 93) X w (okX5_holds_i0 l hJ h) kw458 kmX5_holds ⟨rfl, rfl⟩ ⟨by decide, by decide⟩ (Crv_54 X w) rfl hl.1 rfl (Nat.le_of_ble_eq_true rfl) dX8_copy_93) w (fun r10 u9_ H locs h w => ?_)
                  obtain ⟨hz_r10, h⟩ := h
                  obtain ⟨rfl, h⟩ := h
                  refine lv_if_ne (pc := 96) (tgt := 105) hx hb dX8_copy_96 (by decide) (fun c_ => ?_) (fun c_ => ?_)
                  · have h := h.2 c_
                    refine lv_aload (pc := 105) hx hb dX8_copy_105 (lv_at hl 1 rfl) ?_
                    refine Cgf_56_0 (pc := 107) X w kw456 dX8_copy_107 ?_
                    refine lv_iload_n (pc := 110) hx hb dX8_copy_110 rfl (lv_at hl 4 rfl) ?_
                    refine lv_aload (pc := 111) hx hb dX8_copy_111 (lv_at hl 0 rfl) ?_
                    refine Cgf_54_0 (pc := 113) X w kw456 dX8_copy_113 ?_
                    refine lv_iload (pc := 116) hx hb dX8_copy_116 (lv_at hl 6 rfl) ?_
                    refine lv_iload (pc := 118) hx hb dX8_copy_118 (lv_at hl 7 rfl) ?_
                    refine va_copyi (pc := 120) hx hb (hml.trans hl.1.symm) hown (hts _ (List.mem_cons_of_mem _ kw486)) (hts _ (List.mem_cons_of_mem _ kw487)) (hts _ (List.mem_cons_of_mem _ kw488)) (hts _ (List.mem_cons_of_mem _ kw489)) hK.1 w.1 (CD hJ hAA _) w.2 57 55 0 0 rfl rfl rfl rfl rfl h.1 h.2.1 h.2.2.1 h.2.2.2.1 h.2.2.2.2.1 (fun _ _ => rfl) (by decide) (by decide +kernel) dX8_copy_120 (fun H locs hP _ hS => ?_)
                    have h := h.2.2.2.2.2
                    obtain ⟨u11, e_⟩ : ∃ y : Mm, y = r32 u 55 (va_cpy (u.1 57) (u.1 55) a2.toNatClampNeg a4.toNatClampNeg a5.toNatClampNeg) := ⟨_, rfl⟩
                    have h := h u11 e_
                    have w : CWd D g ad (CA ad) s u11 H locs := by rw [e_]; exact ⟨hP, hS⟩
                    refine lv_iconst (pc := 123) (v := (1 : Int32)) hx hb dX8_copy_123 (by decide) ?_
                    exact Ciret (pc := 124) X w h dX8_copy_124
                  · have h := h.1 c_
                    refine lv_aload_n (pc := 99) hx hb dX8_copy_99 rfl (lv_at hl 2 rfl) ?_
                    refine lv_iconst (pc := 100) (v := (2 : Int32)) hx hb dX8_copy_100 (by decide) ?_
                    refine Ccalli (rest := []) (CrunV (pc := 101) X w (okX8_found l hJ h) kw441 kmX8_found ⟨rfl, rfl⟩ ⟨by decide, by decide⟩ (Crv_0 X w) rfl hl.1 rfl (Nat.le_of_ble_eq_true rfl) dX8_copy_101) w (fun r12 u13 H locs h w => ?_)
                    exact Ciret (pc := 104) X w h dX8_copy_104
              · have h := h.2 c_
                refine lv_aload_n (pc := 70) hx hb dX8_copy_70 rfl (lv_at hl 2 rfl) ?_
                refine lv_iconst (pc := 71) (v := (4 : Int32)) hx hb dX8_copy_71 (by decide) ?_
                refine Ccalli (rest := []) (CrunV (pc := 72) X w (okX8_found l hJ h) kw441 kmX8_found ⟨rfl, rfl⟩ ⟨by decide, by decide⟩ (Crv_0 X w) rfl hl.1 rfl (Nat.le_of_ble_eq_true rfl) dX8_copy_72) w (fun r14 u15 H locs h w => ?_)
                exact Ciret (pc := 75) X w h dX8_copy_75
            · have h := h.2 c_
              refine lv_aload_n (pc := 51) hx hb dX8_copy_51 rfl (lv_at hl 2 rfl) ?_
              refine lv_iconst (pc := 52) (v := (1 : Int32)) hx hb dX8_copy_52 (by decide) ?_
              refine Ccalli (rest := []) (CrunV (pc := 53) X w (okX8_found l hJ h) kw441 kmX8_found ⟨rfl, rfl⟩ ⟨by decide, by decide⟩ (Crv_0 X w) rfl hl.1 rfl (Nat.le_of_ble_eq_true rfl) dX8_copy_53) w (fun r16 u17 H locs h w => ?_)
              exact Ciret (pc := 56) X w h dX8_copy_56
        · refine Caq_53 1 (by decide) (pc := 32) X w dX8_copy_32 ?_
          refine lv_astore (pc := 33) (lv' := [(7, .ref (ad 56)), (6, .ref (ad 56)), (0, .ref (ad 0)), (1, .int a1), (2, .int a2), (3, .int a3), (4, .int a4), (5, .int a5)]) hx hb dX8_copy_33 hl (by decide) rfl (fun ls hl => ?_)
          refine lv_aload (pc := 35) hx hb dX8_copy_35 (lv_at hl 1 rfl) ?_
          refine Cgf_56_3 (pc := 37) X w kw445 dX8_copy_37 ?_
          refine lv_if_ne (pc := 40) (tgt := 51) hx hb dX8_copy_40 (by decide) (fun c_ => ?_) (fun c_ => ?_)
          · have h := h.2 c_
            refine lv_aload_n (pc := 51) hx hb dX8_copy_51 rfl (lv_at hl 2 rfl) ?_
            refine lv_iconst (pc := 52) (v := (1 : Int32)) hx hb dX8_copy_52 (by decide) ?_
            refine Ccalli (rest := []) (CrunV (pc := 53) X w (okX8_found l hJ h) kw441 kmX8_found ⟨rfl, rfl⟩ ⟨by decide, by decide⟩ (Crv_0 X w) rfl hl.1 rfl (Nat.le_of_ble_eq_true rfl) dX8_copy_53) w (fun r5 u6 H locs h w => ?_)
            exact Ciret (pc := 56) X w h dX8_copy_56
          · have h := h.1 c_
            refine lv_aload (pc := 43) hx hb dX8_copy_43 (lv_at hl 0 rfl) ?_
            refine Cgf_56_3 (pc := 45) X w kw445 dX8_copy_45 ?_
            refine lv_if_eq (pc := 48) (tgt := 57) hx hb dX8_copy_48 (by decide) (fun c_ => ?_) (fun c_ => ?_)
            · have h := h.1 c_
              refine lv_aload (pc := 57) hx hb dX8_copy_57 (lv_at hl 1 rfl) ?_
              refine Cgf_56_1 (pc := 59) X w kw447 dX8_copy_59 ?_
              refine lv_aload (pc := 62) hx hb dX8_copy_62 (lv_at hl 0 rfl) ?_
              refine Cgf_56_1 (pc := 64) X w kw447 dX8_copy_64 ?_
              refine lv_icmp_eq (pc := 67) (tgt := 76) hx hb dX8_copy_67 (by decide) (fun c_ => ?_) (fun c_ => ?_)
              · have h := h.1 c_
                refine lv_aload (pc := 76) hx hb dX8_copy_76 (lv_at hl 1 rfl) ?_
                refine lv_iload_n (pc := 78) hx hb dX8_copy_78 rfl (lv_at hl 4 rfl) ?_
                refine lv_iload (pc := 79) hx hb dX8_copy_79 (lv_at hl 7 rfl) ?_
                refine Ccalli (rest := []) (CrunV (pc := 81) X w (okX5_holds_i1 l hJ h) kw458 kmX5_holds ⟨rfl, rfl⟩ ⟨by decide, by decide⟩ (Crv_56 X w) rfl hl.1 rfl (Nat.le_of_ble_eq_true rfl) dX8_copy_81) w (fun r7 u9_ H locs h w => ?_)
                obtain ⟨hz_r7, h⟩ := h
                obtain ⟨rfl, h⟩ := h
                refine lv_if_eq (pc := 84) (tgt := 99) hx hb dX8_copy_84 (by decide) (fun c_ => ?_) (fun c_ => ?_)
                · have h := h.1 c_
                  refine lv_aload_n (pc := 99) hx hb dX8_copy_99 rfl (lv_at hl 2 rfl) ?_
                  refine lv_iconst (pc := 100) (v := (2 : Int32)) hx hb dX8_copy_100 (by decide) ?_
                  refine Ccalli (rest := []) (CrunV (pc := 101) X w (okX8_found l hJ h) kw441 kmX8_found ⟨rfl, rfl⟩ ⟨by decide, by decide⟩ (Crv_0 X w) rfl hl.1 rfl (Nat.le_of_ble_eq_true rfl) dX8_copy_101) w (fun r8 u9 H locs h w => ?_)
                  exact Ciret (pc := 104) X w h dX8_copy_104
                · have h := h.2 c_
                  refine lv_aload (pc := 87) hx hb dX8_copy_87 (lv_at hl 0 rfl) ?_
                  refine lv_iload (pc := 89) hx hb dX8_copy_89 (lv_at hl 6 rfl) ?_
                  refine lv_iload (pc := 91) hx hb dX8_copy_91 (lv_at hl 7 rfl) ?_
                  refine Ccalli (rest := []) (CrunV (pc := 93) X w (okX5_holds_i1 l hJ h) kw458 kmX5_holds ⟨rfl, rfl⟩ ⟨by decide, by decide⟩ (Crv_56 X w) rfl hl.1 rfl (Nat.le_of_ble_eq_true rfl) dX8_copy_93) w (fun r10 u9_ H locs h w => ?_)
                  obtain ⟨hz_r10, h⟩ := h
                  obtain ⟨rfl, h⟩ := h
                  refine lv_if_ne (pc := 96) (tgt := 105) hx hb dX8_copy_96 (by decide) (fun c_ => ?_) (fun c_ => ?_)
                  · have h := h.2 c_
                    refine lv_aload (pc := 105) hx hb dX8_copy_105 (lv_at hl 1 rfl) ?_
                    refine Cgf_56_0 (pc := 107) X w kw456 dX8_copy_107 ?_
                    refine lv_iload_n (pc := 110) hx hb dX8_copy_110 rfl (lv_at hl 4 rfl) ?_
                    refine lv_aload (pc := 111) hx hb dX8_copy_111 (lv_at hl 0 rfl) ?_
                    refine Cgf_56_0 (pc := 113) X w kw456 dX8_copy_113 ?_
                    refine lv_iload (pc := 116) hx hb dX8_copy_116 (lv_at hl 6 rfl) ?_
                    refine lv_iload (pc := 118) hx hb dX8_copy_118 (lv_at hl 7 rfl) ?_
                    refine va_copyi (pc := 120) hx hb (hml.trans hl.1.symm) hown (hts _ (List.mem_cons_of_mem _ kw486)) (hts _ (List.mem_cons_of_mem _ kw487)) (hts _ (List.mem_cons_of_mem _ kw488)) (hts _ (List.mem_cons_of_mem _ kw489)) hK.1 w.1 (CD hJ hAA _) w.2 57 57 0 0 rfl rfl rfl rfl rfl h.1 h.2.1 h.2.2.1 h.2.2.2.1 h.2.2.2.2.1 (fun _ _ => rfl) (by decide) (by decide +kernel) dX8_copy_120 (fun H locs hP _ hS => ?_)
                    have h := h.2.2.2.2.2
                    obtain ⟨u11, e_⟩ : ∃ y : Mm, y = r32 u 57 (va_cpy (u.1 57) (u.1 57) a2.toNatClampNeg a4.toNatClampNeg a5.toNatClampNeg) := ⟨_, rfl⟩
                    have h := h u11 e_
                    have w : CWd D g ad (CA ad) s u11 H locs := by rw [e_]; exact ⟨hP, hS⟩
                    refine lv_iconst (pc := 123) (v := (1 : Int32)) hx hb dX8_copy_123 (by decide) ?_
                    exact Ciret (pc := 124) X w h dX8_copy_124
                  · have h := h.1 c_
                    refine lv_aload_n (pc := 99) hx hb dX8_copy_99 rfl (lv_at hl 2 rfl) ?_
                    refine lv_iconst (pc := 100) (v := (2 : Int32)) hx hb dX8_copy_100 (by decide) ?_
                    refine Ccalli (rest := []) (CrunV (pc := 101) X w (okX8_found l hJ h) kw441 kmX8_found ⟨rfl, rfl⟩ ⟨by decide, by decide⟩ (Crv_0 X w) rfl hl.1 rfl (Nat.le_of_ble_eq_true rfl) dX8_copy_101) w (fun r12 u13 H locs h w => ?_)
                    exact Ciret (pc := 104) X w h dX8_copy_104
              · have h := h.2 c_
                refine lv_aload_n (pc := 70) hx hb dX8_copy_70 rfl (lv_at hl 2 rfl) ?_
                refine lv_iconst (pc := 71) (v := (4 : Int32)) hx hb dX8_copy_71 (by decide) ?_
                refine Ccalli (rest := []) (CrunV (pc := 72) X w (okX8_found l hJ h) kw441 kmX8_found ⟨rfl, rfl⟩ ⟨by decide, by decide⟩ (Crv_0 X w) rfl hl.1 rfl (Nat.le_of_ble_eq_true rfl) dX8_copy_72) w (fun r14 u15 H locs h w => ?_)
                exact Ciret (pc := 75) X w h dX8_copy_75
            · have h := h.2 c_
              refine lv_aload_n (pc := 51) hx hb dX8_copy_51 rfl (lv_at hl 2 rfl) ?_
              refine lv_iconst (pc := 52) (v := (1 : Int32)) hx hb dX8_copy_52 (by decide) ?_
              refine Ccalli (rest := []) (CrunV (pc := 53) X w (okX8_found l hJ h) kw441 kmX8_found ⟨rfl, rfl⟩ ⟨by decide, by decide⟩ (Crv_0 X w) rfl hl.1 rfl (Nat.le_of_ble_eq_true rfl) dX8_copy_53) w (fun r16 u17 H locs h w => ?_)
              exact Ciret (pc := 56) X w h dX8_copy_56
        · refine Caq_53 2 (by decide) (pc := 32) X w dX8_copy_32 ?_
          refine lv_astore (pc := 33) (lv' := [(7, .ref (ad 58)), (6, .ref (ad 56)), (0, .ref (ad 0)), (1, .int a1), (2, .int a2), (3, .int a3), (4, .int a4), (5, .int a5)]) hx hb dX8_copy_33 hl (by decide) rfl (fun ls hl => ?_)
          refine lv_aload (pc := 35) hx hb dX8_copy_35 (lv_at hl 1 rfl) ?_
          refine Cgf_56_3 (pc := 37) X w kw445 dX8_copy_37 ?_
          refine lv_if_ne (pc := 40) (tgt := 51) hx hb dX8_copy_40 (by decide) (fun c_ => ?_) (fun c_ => ?_)
          · have h := h.2 c_
            refine lv_aload_n (pc := 51) hx hb dX8_copy_51 rfl (lv_at hl 2 rfl) ?_
            refine lv_iconst (pc := 52) (v := (1 : Int32)) hx hb dX8_copy_52 (by decide) ?_
            refine Ccalli (rest := []) (CrunV (pc := 53) X w (okX8_found l hJ h) kw441 kmX8_found ⟨rfl, rfl⟩ ⟨by decide, by decide⟩ (Crv_0 X w) rfl hl.1 rfl (Nat.le_of_ble_eq_true rfl) dX8_copy_53) w (fun r5 u6 H locs h w => ?_)
            exact Ciret (pc := 56) X w h dX8_copy_56
          · have h := h.1 c_
            refine lv_aload (pc := 43) hx hb dX8_copy_43 (lv_at hl 0 rfl) ?_
            refine Cgf_58_3 (pc := 45) X w kw445 dX8_copy_45 ?_
            refine lv_if_eq (pc := 48) (tgt := 57) hx hb dX8_copy_48 (by decide) (fun c_ => ?_) (fun c_ => ?_)
            · have h := h.1 c_
              refine lv_aload (pc := 57) hx hb dX8_copy_57 (lv_at hl 1 rfl) ?_
              refine Cgf_56_1 (pc := 59) X w kw447 dX8_copy_59 ?_
              refine lv_aload (pc := 62) hx hb dX8_copy_62 (lv_at hl 0 rfl) ?_
              refine Cgf_58_1 (pc := 64) X w kw447 dX8_copy_64 ?_
              refine lv_icmp_eq (pc := 67) (tgt := 76) hx hb dX8_copy_67 (by decide) (fun c_ => ?_) (fun c_ => ?_)
              · have h := h.1 c_
                refine lv_aload (pc := 76) hx hb dX8_copy_76 (lv_at hl 1 rfl) ?_
                refine lv_iload_n (pc := 78) hx hb dX8_copy_78 rfl (lv_at hl 4 rfl) ?_
                refine lv_iload (pc := 79) hx hb dX8_copy_79 (lv_at hl 7 rfl) ?_
                refine Ccalli (rest := []) (CrunV (pc := 81) X w (okX5_holds_i1 l hJ h) kw458 kmX5_holds ⟨rfl, rfl⟩ ⟨by decide, by decide⟩ (Crv_56 X w) rfl hl.1 rfl (Nat.le_of_ble_eq_true rfl) dX8_copy_81) w (fun r7 u9_ H locs h w => ?_)
                obtain ⟨hz_r7, h⟩ := h
                obtain ⟨rfl, h⟩ := h
                refine lv_if_eq (pc := 84) (tgt := 99) hx hb dX8_copy_84 (by decide) (fun c_ => ?_) (fun c_ => ?_)
                · have h := h.1 c_
                  refine lv_aload_n (pc := 99) hx hb dX8_copy_99 rfl (lv_at hl 2 rfl) ?_
                  refine lv_iconst (pc := 100) (v := (2 : Int32)) hx hb dX8_copy_100 (by decide) ?_
                  refine Ccalli (rest := []) (CrunV (pc := 101) X w (okX8_found l hJ h) kw441 kmX8_found ⟨rfl, rfl⟩ ⟨by decide, by decide⟩ (Crv_0 X w) rfl hl.1 rfl (Nat.le_of_ble_eq_true rfl) dX8_copy_101) w (fun r8 u9 H locs h w => ?_)
                  exact Ciret (pc := 104) X w h dX8_copy_104
                · have h := h.2 c_
                  refine lv_aload (pc := 87) hx hb dX8_copy_87 (lv_at hl 0 rfl) ?_
                  refine lv_iload (pc := 89) hx hb dX8_copy_89 (lv_at hl 6 rfl) ?_
                  refine lv_iload (pc := 91) hx hb dX8_copy_91 (lv_at hl 7 rfl) ?_
                  refine Ccalli (rest := []) (CrunV (pc := 93) X w (okX5_holds_i2 l hJ h) kw458 kmX5_holds ⟨rfl, rfl⟩ ⟨by decide, by decide⟩ (Crv_58 X w) rfl hl.1 rfl (Nat.le_of_ble_eq_true rfl) dX8_copy_93) w (fun r10 u9_ H locs h w => ?_)
                  obtain ⟨hz_r10, h⟩ := h
                  obtain ⟨rfl, h⟩ := h
                  refine lv_if_ne (pc := 96) (tgt := 105) hx hb dX8_copy_96 (by decide) (fun c_ => ?_) (fun c_ => ?_)
                  · have h := h.2 c_
                    refine lv_aload (pc := 105) hx hb dX8_copy_105 (lv_at hl 1 rfl) ?_
                    refine Cgf_56_0 (pc := 107) X w kw456 dX8_copy_107 ?_
                    refine lv_iload_n (pc := 110) hx hb dX8_copy_110 rfl (lv_at hl 4 rfl) ?_
                    refine lv_aload (pc := 111) hx hb dX8_copy_111 (lv_at hl 0 rfl) ?_
                    refine Cgf_58_0 (pc := 113) X w kw456 dX8_copy_113 ?_
                    refine lv_iload (pc := 116) hx hb dX8_copy_116 (lv_at hl 6 rfl) ?_
                    refine lv_iload (pc := 118) hx hb dX8_copy_118 (lv_at hl 7 rfl) ?_
                    refine va_copyi (pc := 120) hx hb (hml.trans hl.1.symm) hown (hts _ (List.mem_cons_of_mem _ kw486)) (hts _ (List.mem_cons_of_mem _ kw487)) (hts _ (List.mem_cons_of_mem _ kw488)) (hts _ (List.mem_cons_of_mem _ kw489)) hK.1 w.1 (CD hJ hAA _) w.2 57 59 0 0 rfl rfl rfl rfl rfl h.1 h.2.1 h.2.2.1 h.2.2.2.1 h.2.2.2.2.1 (fun _ _ => rfl) (by decide) (by decide +kernel) dX8_copy_120 (fun H locs hP _ hS => ?_)
                    have h := h.2.2.2.2.2
                    obtain ⟨u11, e_⟩ : ∃ y : Mm, y = r32 u 59 (va_cpy (u.1 57) (u.1 59) a2.toNatClampNeg a4.toNatClampNeg a5.toNatClampNeg) := ⟨_, rfl⟩
                    have h := h u11 e_
                    have w : CWd D g ad (CA ad) s u11 H locs := by rw [e_]; exact ⟨hP, hS⟩
                    refine lv_iconst (pc := 123) (v := (1 : Int32)) hx hb dX8_copy_123 (by decide) ?_
                    exact Ciret (pc := 124) X w h dX8_copy_124
                  · have h := h.1 c_
                    refine lv_aload_n (pc := 99) hx hb dX8_copy_99 rfl (lv_at hl 2 rfl) ?_
                    refine lv_iconst (pc := 100) (v := (2 : Int32)) hx hb dX8_copy_100 (by decide) ?_
                    refine Ccalli (rest := []) (CrunV (pc := 101) X w (okX8_found l hJ h) kw441 kmX8_found ⟨rfl, rfl⟩ ⟨by decide, by decide⟩ (Crv_0 X w) rfl hl.1 rfl (Nat.le_of_ble_eq_true rfl) dX8_copy_101) w (fun r12 u13 H locs h w => ?_)
                    exact Ciret (pc := 104) X w h dX8_copy_104
              · have h := h.2 c_
                refine lv_aload_n (pc := 70) hx hb dX8_copy_70 rfl (lv_at hl 2 rfl) ?_
                refine lv_iconst (pc := 71) (v := (4 : Int32)) hx hb dX8_copy_71 (by decide) ?_
                refine Ccalli (rest := []) (CrunV (pc := 72) X w (okX8_found l hJ h) kw441 kmX8_found ⟨rfl, rfl⟩ ⟨by decide, by decide⟩ (Crv_0 X w) rfl hl.1 rfl (Nat.le_of_ble_eq_true rfl) dX8_copy_72) w (fun r14 u15 H locs h w => ?_)
                exact Ciret (pc := 75) X w h dX8_copy_75
            · have h := h.2 c_
              refine lv_aload_n (pc := 51) hx hb dX8_copy_51 rfl (lv_at hl 2 rfl) ?_
              refine lv_iconst (pc := 52) (v := (1 : Int32)) hx hb dX8_copy_52 (by decide) ?_
              refine Ccalli (rest := []) (CrunV (pc := 53) X w (okX8_found l hJ h) kw441 kmX8_found ⟨rfl, rfl⟩ ⟨by decide, by decide⟩ (Crv_0 X w) rfl hl.1 rfl (Nat.le_of_ble_eq_true rfl) dX8_copy_53) w (fun r16 u17 H locs h w => ?_)
              exact Ciret (pc := 56) X w h dX8_copy_56
        · refine Caq_53 3 (by decide) (pc := 32) X w dX8_copy_32 ?_
          refine lv_astore (pc := 33) (lv' := [(7, .ref (ad 60)), (6, .ref (ad 56)), (0, .ref (ad 0)), (1, .int a1), (2, .int a2), (3, .int a3), (4, .int a4), (5, .int a5)]) hx hb dX8_copy_33 hl (by decide) rfl (fun ls hl => ?_)
          refine lv_aload (pc := 35) hx hb dX8_copy_35 (lv_at hl 1 rfl) ?_
          refine Cgf_56_3 (pc := 37) X w kw445 dX8_copy_37 ?_
          refine lv_if_ne (pc := 40) (tgt := 51) hx hb dX8_copy_40 (by decide) (fun c_ => ?_) (fun c_ => ?_)
          · have h := h.2 c_
            refine lv_aload_n (pc := 51) hx hb dX8_copy_51 rfl (lv_at hl 2 rfl) ?_
            refine lv_iconst (pc := 52) (v := (1 : Int32)) hx hb dX8_copy_52 (by decide) ?_
            refine Ccalli (rest := []) (CrunV (pc := 53) X w (okX8_found l hJ h) kw441 kmX8_found ⟨rfl, rfl⟩ ⟨by decide, by decide⟩ (Crv_0 X w) rfl hl.1 rfl (Nat.le_of_ble_eq_true rfl) dX8_copy_53) w (fun r5 u6 H locs h w => ?_)
            exact Ciret (pc := 56) X w h dX8_copy_56
          · have h := h.1 c_
            refine lv_aload (pc := 43) hx hb dX8_copy_43 (lv_at hl 0 rfl) ?_
            refine Cgf_60_3 (pc := 45) X w kw445 dX8_copy_45 ?_
            refine lv_if_eq (pc := 48) (tgt := 57) hx hb dX8_copy_48 (by decide) (fun c_ => ?_) (fun c_ => ?_)
            · have h := h.1 c_
              refine lv_aload (pc := 57) hx hb dX8_copy_57 (lv_at hl 1 rfl) ?_
              refine Cgf_56_1 (pc := 59) X w kw447 dX8_copy_59 ?_
              refine lv_aload (pc := 62) hx hb dX8_copy_62 (lv_at hl 0 rfl) ?_
              refine Cgf_60_1 (pc := 64) X w kw447 dX8_copy_64 ?_
              refine lv_icmp_eq (pc := 67) (tgt := 76) hx hb dX8_copy_67 (by decide) (fun c_ => ?_) (fun c_ => ?_)
              · have h := h.1 c_
                refine lv_aload (pc := 76) hx hb dX8_copy_76 (lv_at hl 1 rfl) ?_
                refine lv_iload_n (pc := 78) hx hb dX8_copy_78 rfl (lv_at hl 4 rfl) ?_
                refine lv_iload (pc := 79) hx hb dX8_copy_79 (lv_at hl 7 rfl) ?_
                refine Ccalli (rest := []) (CrunV (pc := 81) X w (okX5_holds_i1 l hJ h) kw458 kmX5_holds ⟨rfl, rfl⟩ ⟨by decide, by decide⟩ (Crv_56 X w) rfl hl.1 rfl (Nat.le_of_ble_eq_true rfl) dX8_copy_81) w (fun r7 u9_ H locs h w => ?_)
                obtain ⟨hz_r7, h⟩ := h
                obtain ⟨rfl, h⟩ := h
                refine lv_if_eq (pc := 84) (tgt := 99) hx hb dX8_copy_84 (by decide) (fun c_ => ?_) (fun c_ => ?_)
                · have h := h.1 c_
                  refine lv_aload_n (pc := 99) hx hb dX8_copy_99 rfl (lv_at hl 2 rfl) ?_
                  refine lv_iconst (pc := 100) (v := (2 : Int32)) hx hb dX8_copy_100 (by decide) ?_
                  refine Ccalli (rest := []) (CrunV (pc := 101) X w (okX8_found l hJ h) kw441 kmX8_found ⟨rfl, rfl⟩ ⟨by decide, by decide⟩ (Crv_0 X w) rfl hl.1 rfl (Nat.le_of_ble_eq_true rfl) dX8_copy_101) w (fun r8 u9 H locs h w => ?_)
                  exact Ciret (pc := 104) X w h dX8_copy_104
                · have h := h.2 c_
                  refine lv_aload (pc := 87) hx hb dX8_copy_87 (lv_at hl 0 rfl) ?_
                  refine lv_iload (pc := 89) hx hb dX8_copy_89 (lv_at hl 6 rfl) ?_
                  refine lv_iload (pc := 91) hx hb dX8_copy_91 (lv_at hl 7 rfl) ?_
                  refine Ccalli (rest := []) (CrunV (pc := 93) X w (okX5_holds_i3 l hJ h) kw458 kmX5_holds ⟨rfl, rfl⟩ ⟨by decide, by decide⟩ (Crv_60 X w) rfl hl.1 rfl (Nat.le_of_ble_eq_true rfl) dX8_copy_93) w (fun r10 u9_ H locs h w => ?_)
                  obtain ⟨hz_r10, h⟩ := h
                  obtain ⟨rfl, h⟩ := h
                  refine lv_if_ne (pc := 96) (tgt := 105) hx hb dX8_copy_96 (by decide) (fun c_ => ?_) (fun c_ => ?_)
                  · have h := h.2 c_
                    refine lv_aload (pc := 105) hx hb dX8_copy_105 (lv_at hl 1 rfl) ?_
                    refine Cgf_56_0 (pc := 107) X w kw456 dX8_copy_107 ?_
                    refine lv_iload_n (pc := 110) hx hb dX8_copy_110 rfl (lv_at hl 4 rfl) ?_
                    refine lv_aload (pc := 111) hx hb dX8_copy_111 (lv_at hl 0 rfl) ?_
                    refine Cgf_60_0 (pc := 113) X w kw456 dX8_copy_113 ?_
                    refine lv_iload (pc := 116) hx hb dX8_copy_116 (lv_at hl 6 rfl) ?_
                    refine lv_iload (pc := 118) hx hb dX8_copy_118 (lv_at hl 7 rfl) ?_
                    refine va_copyi (pc := 120) hx hb (hml.trans hl.1.symm) hown (hts _ (List.mem_cons_of_mem _ kw486)) (hts _ (List.mem_cons_of_mem _ kw487)) (hts _ (List.mem_cons_of_mem _ kw488)) (hts _ (List.mem_cons_of_mem _ kw489)) hK.1 w.1 (CD hJ hAA _) w.2 57 61 0 0 rfl rfl rfl rfl rfl h.1 h.2.1 h.2.2.1 h.2.2.2.1 h.2.2.2.2.1 (fun _ _ => rfl) (by decide) (by decide +kernel) dX8_copy_120 (fun H locs hP _ hS => ?_)
                    have h := h.2.2.2.2.2
                    obtain ⟨u11, e_⟩ : ∃ y : Mm, y = r32 u 61 (va_cpy (u.1 57) (u.1 61) a2.toNatClampNeg a4.toNatClampNeg a5.toNatClampNeg) := ⟨_, rfl⟩
                    have h := h u11 e_
                    have w : CWd D g ad (CA ad) s u11 H locs := by rw [e_]; exact ⟨hP, hS⟩
                    refine lv_iconst (pc := 123) (v := (1 : Int32)) hx hb dX8_copy_123 (by decide) ?_
                    exact Ciret (pc := 124) X w h dX8_copy_124
                  · have h := h.1 c_
                    refine lv_aload_n (pc := 99) hx hb dX8_copy_99 rfl (lv_at hl 2 rfl) ?_
                    refine lv_iconst (pc := 100) (v := (2 : Int32)) hx hb dX8_copy_100 (by decide) ?_
                    refine Ccalli (rest := []) (CrunV (pc := 101) X w (okX8_found l hJ h) kw441 kmX8_found ⟨rfl, rfl⟩ ⟨by decide, by decide⟩ (Crv_0 X w) rfl hl.1 rfl (Nat.le_of_ble_eq_true rfl) dX8_copy_101) w (fun r12 u13 H locs h w => ?_)
                    exact Ciret (pc := 104) X w h dX8_copy_104
              · have h := h.2 c_
                refine lv_aload_n (pc := 70) hx hb dX8_copy_70 rfl (lv_at hl 2 rfl) ?_
                refine lv_iconst (pc := 71) (v := (4 : Int32)) hx hb dX8_copy_71 (by decide) ?_
                refine Ccalli (rest := []) (CrunV (pc := 72) X w (okX8_found l hJ h) kw441 kmX8_found ⟨rfl, rfl⟩ ⟨by decide, by decide⟩ (Crv_0 X w) rfl hl.1 rfl (Nat.le_of_ble_eq_true rfl) dX8_copy_72) w (fun r14 u15 H locs h w => ?_)
                exact Ciret (pc := 75) X w h dX8_copy_75
            · have h := h.2 c_
              refine lv_aload_n (pc := 51) hx hb dX8_copy_51 rfl (lv_at hl 2 rfl) ?_
              refine lv_iconst (pc := 52) (v := (1 : Int32)) hx hb dX8_copy_52 (by decide) ?_
              refine Ccalli (rest := []) (CrunV (pc := 53) X w (okX8_found l hJ h) kw441 kmX8_found ⟨rfl, rfl⟩ ⟨by decide, by decide⟩ (Crv_0 X w) rfl hl.1 rfl (Nat.le_of_ble_eq_true rfl) dX8_copy_53) w (fun r16 u17 H locs h w => ?_)
              exact Ciret (pc := 56) X w h dX8_copy_56
      · refine Caq_53 2 (by decide) (pc := 24) X w dX8_copy_24 ?_
        refine lv_astore (pc := 25) (lv' := [(6, .ref (ad 58)), (0, .ref (ad 0)), (1, .int a1), (2, .int a2), (3, .int a3), (4, .int a4), (5, .int a5)]) hx hb dX8_copy_25 hl (by decide) rfl (fun ls hl => ?_)
        refine lv_aload_n (pc := 27) hx hb dX8_copy_27 rfl (lv_at hl 1 rfl) ?_
        refine Cgf_0_6 (pc := 28) X w kw435 dX8_copy_28 ?_
        refine lv_iload_n (pc := 31) hx hb dX8_copy_31 rfl (lv_at hl 4 rfl) ?_
        obtain ⟨j4, hj_, e_⟩ := vp_in_of h.1 (by decide)
        have h := h.2 j4 hj_ e_
        refine W.eq (g2 := F0 m 32 ls (.int (nI j4) :: .ref (ad 53) :: [])) (by rw [e_]) ?_
        clear e_
        rcases (show j4 = 0 ∨ j4 = 1 ∨ j4 = 2 ∨ j4 = 3 by omega) with rfl | rfl | rfl | rfl
        · refine Caq_53 0 (by decide) (pc := 32) X w dX8_copy_32 ?_
          refine lv_astore (pc := 33) (lv' := [(7, .ref (ad 54)), (6, .ref (ad 58)), (0, .ref (ad 0)), (1, .int a1), (2, .int a2), (3, .int a3), (4, .int a4), (5, .int a5)]) hx hb dX8_copy_33 hl (by decide) rfl (fun ls hl => ?_)
          refine lv_aload (pc := 35) hx hb dX8_copy_35 (lv_at hl 1 rfl) ?_
          refine Cgf_58_3 (pc := 37) X w kw445 dX8_copy_37 ?_
          refine lv_if_ne (pc := 40) (tgt := 51) hx hb dX8_copy_40 (by decide) (fun c_ => ?_) (fun c_ => ?_)
          · have h := h.2 c_
            refine lv_aload_n (pc := 51) hx hb dX8_copy_51 rfl (lv_at hl 2 rfl) ?_
            refine lv_iconst (pc := 52) (v := (1 : Int32)) hx hb dX8_copy_52 (by decide) ?_
            refine Ccalli (rest := []) (CrunV (pc := 53) X w (okX8_found l hJ h) kw441 kmX8_found ⟨rfl, rfl⟩ ⟨by decide, by decide⟩ (Crv_0 X w) rfl hl.1 rfl (Nat.le_of_ble_eq_true rfl) dX8_copy_53) w (fun r5 u6 H locs h w => ?_)
            exact Ciret (pc := 56) X w h dX8_copy_56
          · have h := h.1 c_
            refine lv_aload (pc := 43) hx hb dX8_copy_43 (lv_at hl 0 rfl) ?_
            refine Cgf_54_3 (pc := 45) X w kw445 dX8_copy_45 ?_
            refine lv_if_eq (pc := 48) (tgt := 57) hx hb dX8_copy_48 (by decide) (fun c_ => ?_) (fun c_ => ?_)
            · have h := h.1 c_
              refine lv_aload (pc := 57) hx hb dX8_copy_57 (lv_at hl 1 rfl) ?_
              refine Cgf_58_1 (pc := 59) X w kw447 dX8_copy_59 ?_
              refine lv_aload (pc := 62) hx hb dX8_copy_62 (lv_at hl 0 rfl) ?_
              refine Cgf_54_1 (pc := 64) X w kw447 dX8_copy_64 ?_
              refine lv_icmp_eq (pc := 67) (tgt := 76) hx hb dX8_copy_67 (by decide) (fun c_ => ?_) (fun c_ => ?_)
              · have h := h.1 c_
                refine lv_aload (pc := 76) hx hb dX8_copy_76 (lv_at hl 1 rfl) ?_
                refine lv_iload_n (pc := 78) hx hb dX8_copy_78 rfl (lv_at hl 4 rfl) ?_
                refine lv_iload (pc := 79) hx hb dX8_copy_79 (lv_at hl 7 rfl) ?_
                refine Ccalli (rest := []) (CrunV (pc := 81) X w (okX5_holds_i2 l hJ h) kw458 kmX5_holds ⟨rfl, rfl⟩ ⟨by decide, by decide⟩ (Crv_58 X w) rfl hl.1 rfl (Nat.le_of_ble_eq_true rfl) dX8_copy_81) w (fun r7 u9_ H locs h w => ?_)
                obtain ⟨hz_r7, h⟩ := h
                obtain ⟨rfl, h⟩ := h
                refine lv_if_eq (pc := 84) (tgt := 99) hx hb dX8_copy_84 (by decide) (fun c_ => ?_) (fun c_ => ?_)
                · have h := h.1 c_
                  refine lv_aload_n (pc := 99) hx hb dX8_copy_99 rfl (lv_at hl 2 rfl) ?_
                  refine lv_iconst (pc := 100) (v := (2 : Int32)) hx hb dX8_copy_100 (by decide) ?_
                  refine Ccalli (rest := []) (CrunV (pc := 101) X w (okX8_found l hJ h) kw441 kmX8_found ⟨rfl, rfl⟩ ⟨by decide, by decide⟩ (Crv_0 X w) rfl hl.1 rfl (Nat.le_of_ble_eq_true rfl) dX8_copy_101) w (fun r8 u9 H locs h w => ?_)
                  exact Ciret (pc := 104) X w h dX8_copy_104
                · have h := h.2 c_
                  refine lv_aload (pc := 87) hx hb dX8_copy_87 (lv_at hl 0 rfl) ?_
                  refine lv_iload (pc := 89) hx hb dX8_copy_89 (lv_at hl 6 rfl) ?_
                  refine lv_iload (pc := 91) hx hb dX8_copy_91 (lv_at hl 7 rfl) ?_
                  refine Ccalli (rest := []) (CrunV (pc := 93) X w (okX5_holds_i0 l hJ h) kw458 kmX5_holds ⟨rfl, rfl⟩ ⟨by decide, by decide⟩ (Crv_54 X w) rfl hl.1 rfl (Nat.le_of_ble_eq_true rfl) dX8_copy_93) w (fun r10 u9_ H locs h w => ?_)
                  obtain ⟨hz_r10, h⟩ := h
                  obtain ⟨rfl, h⟩ := h
                  refine lv_if_ne (pc := 96) (tgt := 105) hx hb dX8_copy_96 (by decide) (fun c_ => ?_) (fun c_ => ?_)
                  · have h := h.2 c_
                    refine lv_aload (pc := 105) hx hb dX8_copy_105 (lv_at hl 1 rfl) ?_
                    refine Cgf_58_0 (pc := 107) X w kw456 dX8_copy_107 ?_
                    refine lv_iload_n (pc := 110) hx hb dX8_copy_110 rfl (lv_at hl 4 rfl) ?_
                    refine lv_aload (pc := 111) hx hb dX8_copy_111 (lv_at hl 0 rfl) ?_
                    refine Cgf_54_0 (pc := 113) X w kw456 dX8_copy_113 ?_
                    refine lv_iload (pc := 116) hx hb dX8_copy_116 (lv_at hl 6 rfl) ?_
                    refine lv_iload (pc := 118) hx hb dX8_copy_118 (lv_at hl 7 rfl) ?_
                    refine va_copyi (pc := 120) hx hb (hml.trans hl.1.symm) hown (hts _ (List.mem_cons_of_mem _ kw486)) (hts _ (List.mem_cons_of_mem _ kw487)) (hts _ (List.mem_cons_of_mem _ kw488)) (hts _ (List.mem_cons_of_mem _ kw489)) hK.1 w.1 (CD hJ hAA _) w.2 59 55 0 0 rfl rfl rfl rfl rfl h.1 h.2.1 h.2.2.1 h.2.2.2.1 h.2.2.2.2.1 (fun _ _ => rfl) (by decide) (by decide +kernel) dX8_copy_120 (fun H locs hP _ hS => ?_)
                    have h := h.2.2.2.2.2
                    obtain ⟨u11, e_⟩ : ∃ y : Mm, y = r32 u 55 (va_cpy (u.1 59) (u.1 55) a2.toNatClampNeg a4.toNatClampNeg a5.toNatClampNeg) := ⟨_, rfl⟩
                    have h := h u11 e_
                    have w : CWd D g ad (CA ad) s u11 H locs := by rw [e_]; exact ⟨hP, hS⟩
                    refine lv_iconst (pc := 123) (v := (1 : Int32)) hx hb dX8_copy_123 (by decide) ?_
                    exact Ciret (pc := 124) X w h dX8_copy_124
                  · have h := h.1 c_
                    refine lv_aload_n (pc := 99) hx hb dX8_copy_99 rfl (lv_at hl 2 rfl) ?_
                    refine lv_iconst (pc := 100) (v := (2 : Int32)) hx hb dX8_copy_100 (by decide) ?_
                    refine Ccalli (rest := []) (CrunV (pc := 101) X w (okX8_found l hJ h) kw441 kmX8_found ⟨rfl, rfl⟩ ⟨by decide, by decide⟩ (Crv_0 X w) rfl hl.1 rfl (Nat.le_of_ble_eq_true rfl) dX8_copy_101) w (fun r12 u13 H locs h w => ?_)
                    exact Ciret (pc := 104) X w h dX8_copy_104
              · have h := h.2 c_
                refine lv_aload_n (pc := 70) hx hb dX8_copy_70 rfl (lv_at hl 2 rfl) ?_
                refine lv_iconst (pc := 71) (v := (4 : Int32)) hx hb dX8_copy_71 (by decide) ?_
                refine Ccalli (rest := []) (CrunV (pc := 72) X w (okX8_found l hJ h) kw441 kmX8_found ⟨rfl, rfl⟩ ⟨by decide, by decide⟩ (Crv_0 X w) rfl hl.1 rfl (Nat.le_of_ble_eq_true rfl) dX8_copy_72) w (fun r14 u15 H locs h w => ?_)
                exact Ciret (pc := 75) X w h dX8_copy_75
            · have h := h.2 c_
              refine lv_aload_n (pc := 51) hx hb dX8_copy_51 rfl (lv_at hl 2 rfl) ?_
              refine lv_iconst (pc := 52) (v := (1 : Int32)) hx hb dX8_copy_52 (by decide) ?_
              refine Ccalli (rest := []) (CrunV (pc := 53) X w (okX8_found l hJ h) kw441 kmX8_found ⟨rfl, rfl⟩ ⟨by decide, by decide⟩ (Crv_0 X w) rfl hl.1 rfl (Nat.le_of_ble_eq_true rfl) dX8_copy_53) w (fun r16 u17 H locs h w => ?_)
              exact Ciret (pc := 56) X w h dX8_copy_56
        · refine Caq_53 1 (by decide) (pc := 32) X w dX8_copy_32 ?_
          refine lv_astore (pc := 33) (lv' := [(7, .ref (ad 56)), (6, .ref (ad 58)), (0, .ref (ad 0)), (1, .int a1), (2, .int a2), (3, .int a3), (4, .int a4), (5, .int a5)]) hx hb dX8_copy_33 hl (by decide) rfl (fun ls hl => ?_)
          refine lv_aload (pc := 35) hx hb dX8_copy_35 (lv_at hl 1 rfl) ?_
          refine Cgf_58_3 (pc := 37) X w kw445 dX8_copy_37 ?_
          refine lv_if_ne (pc := 40) (tgt := 51) hx hb dX8_copy_40 (by decide) (fun c_ => ?_) (fun c_ => ?_)
          · have h := h.2 c_
            refine lv_aload_n (pc := 51) hx hb dX8_copy_51 rfl (lv_at hl 2 rfl) ?_
            refine lv_iconst (pc := 52) (v := (1 : Int32)) hx hb dX8_copy_52 (by decide) ?_
            refine Ccalli (rest := []) (CrunV (pc := 53) X w (okX8_found l hJ h) kw441 kmX8_found ⟨rfl, rfl⟩ ⟨by decide, by decide⟩ (Crv_0 X w) rfl hl.1 rfl (Nat.le_of_ble_eq_true rfl) dX8_copy_53) w (fun r5 u6 H locs h w => ?_)
            exact Ciret (pc := 56) X w h dX8_copy_56
          · have h := h.1 c_
            refine lv_aload (pc := 43) hx hb dX8_copy_43 (lv_at hl 0 rfl) ?_
            refine Cgf_56_3 (pc := 45) X w kw445 dX8_copy_45 ?_
            refine lv_if_eq (pc := 48) (tgt := 57) hx hb dX8_copy_48 (by decide) (fun c_ => ?_) (fun c_ => ?_)
            · have h := h.1 c_
              refine lv_aload (pc := 57) hx hb dX8_copy_57 (lv_at hl 1 rfl) ?_
              refine Cgf_58_1 (pc := 59) X w kw447 dX8_copy_59 ?_
              refine lv_aload (pc := 62) hx hb dX8_copy_62 (lv_at hl 0 rfl) ?_
              refine Cgf_56_1 (pc := 64) X w kw447 dX8_copy_64 ?_
              refine lv_icmp_eq (pc := 67) (tgt := 76) hx hb dX8_copy_67 (by decide) (fun c_ => ?_) (fun c_ => ?_)
              · have h := h.1 c_
                refine lv_aload (pc := 76) hx hb dX8_copy_76 (lv_at hl 1 rfl) ?_
                refine lv_iload_n (pc := 78) hx hb dX8_copy_78 rfl (lv_at hl 4 rfl) ?_
                refine lv_iload (pc := 79) hx hb dX8_copy_79 (lv_at hl 7 rfl) ?_
                refine Ccalli (rest := []) (CrunV (pc := 81) X w (okX5_holds_i2 l hJ h) kw458 kmX5_holds ⟨rfl, rfl⟩ ⟨by decide, by decide⟩ (Crv_58 X w) rfl hl.1 rfl (Nat.le_of_ble_eq_true rfl) dX8_copy_81) w (fun r7 u9_ H locs h w => ?_)
                obtain ⟨hz_r7, h⟩ := h
                obtain ⟨rfl, h⟩ := h
                refine lv_if_eq (pc := 84) (tgt := 99) hx hb dX8_copy_84 (by decide) (fun c_ => ?_) (fun c_ => ?_)
                · have h := h.1 c_
                  refine lv_aload_n (pc := 99) hx hb dX8_copy_99 rfl (lv_at hl 2 rfl) ?_
                  refine lv_iconst (pc := 100) (v := (2 : Int32)) hx hb dX8_copy_100 (by decide) ?_
                  refine Ccalli (rest := []) (CrunV (pc := 101) X w (okX8_found l hJ h) kw441 kmX8_found ⟨rfl, rfl⟩ ⟨by decide, by decide⟩ (Crv_0 X w) rfl hl.1 rfl (Nat.le_of_ble_eq_true rfl) dX8_copy_101) w (fun r8 u9 H locs h w => ?_)
                  exact Ciret (pc := 104) X w h dX8_copy_104
                · have h := h.2 c_
                  refine lv_aload (pc := 87) hx hb dX8_copy_87 (lv_at hl 0 rfl) ?_
                  refine lv_iload (pc := 89) hx hb dX8_copy_89 (lv_at hl 6 rfl) ?_
                  refine lv_iload (pc := 91) hx hb dX8_copy_91 (lv_at hl 7 rfl) ?_
                  refine Ccalli (rest := []) (CrunV (pc := 93) X w (okX5_holds_i1 l hJ h) kw458 kmX5_holds ⟨rfl, rfl⟩ ⟨by decide, by decide⟩ (Crv_56 X w) rfl hl.1 rfl (Nat.le_of_ble_eq_true rfl) dX8_copy_93) w (fun r10 u9_ H locs h w => ?_)
                  obtain ⟨hz_r10, h⟩ := h
                  obtain ⟨rfl, h⟩ := h
                  refine lv_if_ne (pc := 96) (tgt := 105) hx hb dX8_copy_96 (by decide) (fun c_ => ?_) (fun c_ => ?_)
                  · have h := h.2 c_
                    refine lv_aload (pc := 105) hx hb dX8_copy_105 (lv_at hl 1 rfl) ?_
                    refine Cgf_58_0 (pc := 107) X w kw456 dX8_copy_107 ?_
                    refine lv_iload_n (pc := 110) hx hb dX8_copy_110 rfl (lv_at hl 4 rfl) ?_
                    refine lv_aload (pc := 111) hx hb dX8_copy_111 (lv_at hl 0 rfl) ?_
                    refine Cgf_56_0 (pc := 113) X w kw456 dX8_copy_113 ?_
                    refine lv_iload (pc := 116) hx hb dX8_copy_116 (lv_at hl 6 rfl) ?_
                    refine lv_iload (pc := 118) hx hb dX8_copy_118 (lv_at hl 7 rfl) ?_
                    refine va_copyi (pc := 120) hx hb (hml.trans hl.1.symm) hown (hts _ (List.mem_cons_of_mem _ kw486)) (hts _ (List.mem_cons_of_mem _ kw487)) (hts _ (List.mem_cons_of_mem _ kw488)) (hts _ (List.mem_cons_of_mem _ kw489)) hK.1 w.1 (CD hJ hAA _) w.2 59 57 0 0 rfl rfl rfl rfl rfl h.1 h.2.1 h.2.2.1 h.2.2.2.1 h.2.2.2.2.1 (fun _ _ => rfl) (by decide) (by decide +kernel) dX8_copy_120 (fun H locs hP _ hS => ?_)
                    have h := h.2.2.2.2.2
                    obtain ⟨u11, e_⟩ : ∃ y : Mm, y = r32 u 57 (va_cpy (u.1 59) (u.1 57) a2.toNatClampNeg a4.toNatClampNeg a5.toNatClampNeg) := ⟨_, rfl⟩
                    have h := h u11 e_
                    have w : CWd D g ad (CA ad) s u11 H locs := by rw [e_]; exact ⟨hP, hS⟩
                    refine lv_iconst (pc := 123) (v := (1 : Int32)) hx hb dX8_copy_123 (by decide) ?_
                    exact Ciret (pc := 124) X w h dX8_copy_124
                  · have h := h.1 c_
                    refine lv_aload_n (pc := 99) hx hb dX8_copy_99 rfl (lv_at hl 2 rfl) ?_
                    refine lv_iconst (pc := 100) (v := (2 : Int32)) hx hb dX8_copy_100 (by decide) ?_
                    refine Ccalli (rest := []) (CrunV (pc := 101) X w (okX8_found l hJ h) kw441 kmX8_found ⟨rfl, rfl⟩ ⟨by decide, by decide⟩ (Crv_0 X w) rfl hl.1 rfl (Nat.le_of_ble_eq_true rfl) dX8_copy_101) w (fun r12 u13 H locs h w => ?_)
                    exact Ciret (pc := 104) X w h dX8_copy_104
              · have h := h.2 c_
                refine lv_aload_n (pc := 70) hx hb dX8_copy_70 rfl (lv_at hl 2 rfl) ?_
                refine lv_iconst (pc := 71) (v := (4 : Int32)) hx hb dX8_copy_71 (by decide) ?_
                refine Ccalli (rest := []) (CrunV (pc := 72) X w (okX8_found l hJ h) kw441 kmX8_found ⟨rfl, rfl⟩ ⟨by decide, by decide⟩ (Crv_0 X w) rfl hl.1 rfl (Nat.le_of_ble_eq_true rfl) dX8_copy_72) w (fun r14 u15 H locs h w => ?_)
                exact Ciret (pc := 75) X w h dX8_copy_75
            · have h := h.2 c_
              refine lv_aload_n (pc := 51) hx hb dX8_copy_51 rfl (lv_at hl 2 rfl) ?_
              refine lv_iconst (pc := 52) (v := (1 : Int32)) hx hb dX8_copy_52 (by decide) ?_
              refine Ccalli (rest := []) (CrunV (pc := 53) X w (okX8_found l hJ h) kw441 kmX8_found ⟨rfl, rfl⟩ ⟨by decide, by decide⟩ (Crv_0 X w) rfl hl.1 rfl (Nat.le_of_ble_eq_true rfl) dX8_copy_53) w (fun r16 u17 H locs h w => ?_)
              exact Ciret (pc := 56) X w h dX8_copy_56
        · refine Caq_53 2 (by decide) (pc := 32) X w dX8_copy_32 ?_
          refine lv_astore (pc := 33) (lv' := [(7, .ref (ad 58)), (6, .ref (ad 58)), (0, .ref (ad 0)), (1, .int a1), (2, .int a2), (3, .int a3), (4, .int a4), (5, .int a5)]) hx hb dX8_copy_33 hl (by decide) rfl (fun ls hl => ?_)
          refine lv_aload (pc := 35) hx hb dX8_copy_35 (lv_at hl 1 rfl) ?_
          refine Cgf_58_3 (pc := 37) X w kw445 dX8_copy_37 ?_
          refine lv_if_ne (pc := 40) (tgt := 51) hx hb dX8_copy_40 (by decide) (fun c_ => ?_) (fun c_ => ?_)
          · have h := h.2 c_
            refine lv_aload_n (pc := 51) hx hb dX8_copy_51 rfl (lv_at hl 2 rfl) ?_
            refine lv_iconst (pc := 52) (v := (1 : Int32)) hx hb dX8_copy_52 (by decide) ?_
            refine Ccalli (rest := []) (CrunV (pc := 53) X w (okX8_found l hJ h) kw441 kmX8_found ⟨rfl, rfl⟩ ⟨by decide, by decide⟩ (Crv_0 X w) rfl hl.1 rfl (Nat.le_of_ble_eq_true rfl) dX8_copy_53) w (fun r5 u6 H locs h w => ?_)
            exact Ciret (pc := 56) X w h dX8_copy_56
          · have h := h.1 c_
            refine lv_aload (pc := 43) hx hb dX8_copy_43 (lv_at hl 0 rfl) ?_
            refine Cgf_58_3 (pc := 45) X w kw445 dX8_copy_45 ?_
            refine lv_if_eq (pc := 48) (tgt := 57) hx hb dX8_copy_48 (by decide) (fun c_ => ?_) (fun c_ => ?_)
            · have h := h.1 c_
              refine lv_aload (pc := 57) hx hb dX8_copy_57 (lv_at hl 1 rfl) ?_
              refine Cgf_58_1 (pc := 59) X w kw447 dX8_copy_59 ?_
              refine lv_aload (pc := 62) hx hb dX8_copy_62 (lv_at hl 0 rfl) ?_
              refine Cgf_58_1 (pc := 64) X w kw447 dX8_copy_64 ?_
              refine lv_icmp_eq (pc := 67) (tgt := 76) hx hb dX8_copy_67 (by decide) (fun c_ => ?_) (fun c_ => ?_)
              · have h := h.1 c_
                refine lv_aload (pc := 76) hx hb dX8_copy_76 (lv_at hl 1 rfl) ?_
                refine lv_iload_n (pc := 78) hx hb dX8_copy_78 rfl (lv_at hl 4 rfl) ?_
                refine lv_iload (pc := 79) hx hb dX8_copy_79 (lv_at hl 7 rfl) ?_
                refine Ccalli (rest := []) (CrunV (pc := 81) X w (okX5_holds_i2 l hJ h) kw458 kmX5_holds ⟨rfl, rfl⟩ ⟨by decide, by decide⟩ (Crv_58 X w) rfl hl.1 rfl (Nat.le_of_ble_eq_true rfl) dX8_copy_81) w (fun r7 u9_ H locs h w => ?_)
                obtain ⟨hz_r7, h⟩ := h
                obtain ⟨rfl, h⟩ := h
                refine lv_if_eq (pc := 84) (tgt := 99) hx hb dX8_copy_84 (by decide) (fun c_ => ?_) (fun c_ => ?_)
                · have h := h.1 c_
                  refine lv_aload_n (pc := 99) hx hb dX8_copy_99 rfl (lv_at hl 2 rfl) ?_
                  refine lv_iconst (pc := 100) (v := (2 : Int32)) hx hb dX8_copy_100 (by decide) ?_
                  refine Ccalli (rest := []) (CrunV (pc := 101) X w (okX8_found l hJ h) kw441 kmX8_found ⟨rfl, rfl⟩ ⟨by decide, by decide⟩ (Crv_0 X w) rfl hl.1 rfl (Nat.le_of_ble_eq_true rfl) dX8_copy_101) w (fun r8 u9 H locs h w => ?_)
                  exact Ciret (pc := 104) X w h dX8_copy_104
                · have h := h.2 c_
                  refine lv_aload (pc := 87) hx hb dX8_copy_87 (lv_at hl 0 rfl) ?_
                  refine lv_iload (pc := 89) hx hb dX8_copy_89 (lv_at hl 6 rfl) ?_
                  refine lv_iload (pc := 91) hx hb dX8_copy_91 (lv_at hl 7 rfl) ?_
                  refine Ccalli (rest := []) (CrunV (pc := 93) X w (okX5_holds_i2 l hJ h) kw458 kmX5_holds ⟨rfl, rfl⟩ ⟨by decide, by decide⟩ (Crv_58 X w) rfl hl.1 rfl (Nat.le_of_ble_eq_true rfl) dX8_copy_93) w (fun r10 u9_ H locs h w => ?_)
                  obtain ⟨hz_r10, h⟩ := h
                  obtain ⟨rfl, h⟩ := h
                  refine lv_if_ne (pc := 96) (tgt := 105) hx hb dX8_copy_96 (by decide) (fun c_ => ?_) (fun c_ => ?_)
                  · have h := h.2 c_
                    refine lv_aload (pc := 105) hx hb dX8_copy_105 (lv_at hl 1 rfl) ?_
                    refine Cgf_58_0 (pc := 107) X w kw456 dX8_copy_107 ?_
                    refine lv_iload_n (pc := 110) hx hb dX8_copy_110 rfl (lv_at hl 4 rfl) ?_
                    refine lv_aload (pc := 111) hx hb dX8_copy_111 (lv_at hl 0 rfl) ?_
                    refine Cgf_58_0 (pc := 113) X w kw456 dX8_copy_113 ?_
                    refine lv_iload (pc := 116) hx hb dX8_copy_116 (lv_at hl 6 rfl) ?_
                    refine lv_iload (pc := 118) hx hb dX8_copy_118 (lv_at hl 7 rfl) ?_
                    refine va_copyi (pc := 120) hx hb (hml.trans hl.1.symm) hown (hts _ (List.mem_cons_of_mem _ kw486)) (hts _ (List.mem_cons_of_mem _ kw487)) (hts _ (List.mem_cons_of_mem _ kw488)) (hts _ (List.mem_cons_of_mem _ kw489)) hK.1 w.1 (CD hJ hAA _) w.2 59 59 0 0 rfl rfl rfl rfl rfl h.1 h.2.1 h.2.2.1 h.2.2.2.1 h.2.2.2.2.1 (fun _ _ => rfl) (by decide) (by decide +kernel) dX8_copy_120 (fun H locs hP _ hS => ?_)
                    have h := h.2.2.2.2.2
                    obtain ⟨u11, e_⟩ : ∃ y : Mm, y = r32 u 59 (va_cpy (u.1 59) (u.1 59) a2.toNatClampNeg a4.toNatClampNeg a5.toNatClampNeg) := ⟨_, rfl⟩
                    have h := h u11 e_
                    have w : CWd D g ad (CA ad) s u11 H locs := by rw [e_]; exact ⟨hP, hS⟩
                    refine lv_iconst (pc := 123) (v := (1 : Int32)) hx hb dX8_copy_123 (by decide) ?_
                    exact Ciret (pc := 124) X w h dX8_copy_124
                  · have h := h.1 c_
                    refine lv_aload_n (pc := 99) hx hb dX8_copy_99 rfl (lv_at hl 2 rfl) ?_
                    refine lv_iconst (pc := 100) (v := (2 : Int32)) hx hb dX8_copy_100 (by decide) ?_
                    refine Ccalli (rest := []) (CrunV (pc := 101) X w (okX8_found l hJ h) kw441 kmX8_found ⟨rfl, rfl⟩ ⟨by decide, by decide⟩ (Crv_0 X w) rfl hl.1 rfl (Nat.le_of_ble_eq_true rfl) dX8_copy_101) w (fun r12 u13 H locs h w => ?_)
                    exact Ciret (pc := 104) X w h dX8_copy_104
              · have h := h.2 c_
                refine lv_aload_n (pc := 70) hx hb dX8_copy_70 rfl (lv_at hl 2 rfl) ?_
                refine lv_iconst (pc := 71) (v := (4 : Int32)) hx hb dX8_copy_71 (by decide) ?_
                refine Ccalli (rest := []) (CrunV (pc := 72) X w (okX8_found l hJ h) kw441 kmX8_found ⟨rfl, rfl⟩ ⟨by decide, by decide⟩ (Crv_0 X w) rfl hl.1 rfl (Nat.le_of_ble_eq_true rfl) dX8_copy_72) w (fun r14 u15 H locs h w => ?_)
                exact Ciret (pc := 75) X w h dX8_copy_75
            · have h := h.2 c_
              refine lv_aload_n (pc := 51) hx hb dX8_copy_51 rfl (lv_at hl 2 rfl) ?_
              refine lv_iconst (pc := 52) (v := (1 : Int32)) hx hb dX8_copy_52 (by decide) ?_
              refine Ccalli (rest := []) (CrunV (pc := 53) X w (okX8_found l hJ h) kw441 kmX8_found ⟨rfl, rfl⟩ ⟨by decide, by decide⟩ (Crv_0 X w) rfl hl.1 rfl (Nat.le_of_ble_eq_true rfl) dX8_copy_53) w (fun r16 u17 H locs h w => ?_)
              exact Ciret (pc := 56) X w h dX8_copy_56
        · refine Caq_53 3 (by decide) (pc := 32) X w dX8_copy_32 ?_
          refine lv_astore (pc := 33) (lv' := [(7, .ref (ad 60)), (6, .ref (ad 58)), (0, .ref (ad 0)), (1, .int a1), (2, .int a2), (3, .int a3), (4, .int a4), (5, .int a5)]) hx hb dX8_copy_33 hl (by decide) rfl (fun ls hl => ?_)
          refine lv_aload (pc := 35) hx hb dX8_copy_35 (lv_at hl 1 rfl) ?_
          refine Cgf_58_3 (pc := 37) X w kw445 dX8_copy_37 ?_
          refine lv_if_ne (pc := 40) (tgt := 51) hx hb dX8_copy_40 (by decide) (fun c_ => ?_) (fun c_ => ?_)
          · have h := h.2 c_
            refine lv_aload_n (pc := 51) hx hb dX8_copy_51 rfl (lv_at hl 2 rfl) ?_
            refine lv_iconst (pc := 52) (v := (1 : Int32)) hx hb dX8_copy_52 (by decide) ?_
            refine Ccalli (rest := []) (CrunV (pc := 53) X w (okX8_found l hJ h) kw441 kmX8_found ⟨rfl, rfl⟩ ⟨by decide, by decide⟩ (Crv_0 X w) rfl hl.1 rfl (Nat.le_of_ble_eq_true rfl) dX8_copy_53) w (fun r5 u6 H locs h w => ?_)
            exact Ciret (pc := 56) X w h dX8_copy_56
          · have h := h.1 c_
            refine lv_aload (pc := 43) hx hb dX8_copy_43 (lv_at hl 0 rfl) ?_
            refine Cgf_60_3 (pc := 45) X w kw445 dX8_copy_45 ?_
            refine lv_if_eq (pc := 48) (tgt := 57) hx hb dX8_copy_48 (by decide) (fun c_ => ?_) (fun c_ => ?_)
            · have h := h.1 c_
              refine lv_aload (pc := 57) hx hb dX8_copy_57 (lv_at hl 1 rfl) ?_
              refine Cgf_58_1 (pc := 59) X w kw447 dX8_copy_59 ?_
              refine lv_aload (pc := 62) hx hb dX8_copy_62 (lv_at hl 0 rfl) ?_
              refine Cgf_60_1 (pc := 64) X w kw447 dX8_copy_64 ?_
              refine lv_icmp_eq (pc := 67) (tgt := 76) hx hb dX8_copy_67 (by decide) (fun c_ => ?_) (fun c_ => ?_)
              · have h := h.1 c_
                refine lv_aload (pc := 76) hx hb dX8_copy_76 (lv_at hl 1 rfl) ?_
                refine lv_iload_n (pc := 78) hx hb dX8_copy_78 rfl (lv_at hl 4 rfl) ?_
                refine lv_iload (pc := 79) hx hb dX8_copy_79 (lv_at hl 7 rfl) ?_
                refine Ccalli (rest := []) (CrunV (pc := 81) X w (okX5_holds_i2 l hJ h) kw458 kmX5_holds ⟨rfl, rfl⟩ ⟨by decide, by decide⟩ (Crv_58 X w) rfl hl.1 rfl (Nat.le_of_ble_eq_true rfl) dX8_copy_81) w (fun r7 u9_ H locs h w => ?_)
                obtain ⟨hz_r7, h⟩ := h
                obtain ⟨rfl, h⟩ := h
                refine lv_if_eq (pc := 84) (tgt := 99) hx hb dX8_copy_84 (by decide) (fun c_ => ?_) (fun c_ => ?_)
                · have h := h.1 c_
                  refine lv_aload_n (pc := 99) hx hb dX8_copy_99 rfl (lv_at hl 2 rfl) ?_
                  refine lv_iconst (pc := 100) (v := (2 : Int32)) hx hb dX8_copy_100 (by decide) ?_
                  refine Ccalli (rest := []) (CrunV (pc := 101) X w (okX8_found l hJ h) kw441 kmX8_found ⟨rfl, rfl⟩ ⟨by decide, by decide⟩ (Crv_0 X w) rfl hl.1 rfl (Nat.le_of_ble_eq_true rfl) dX8_copy_101) w (fun r8 u9 H locs h w => ?_)
                  exact Ciret (pc := 104) X w h dX8_copy_104
                · have h := h.2 c_
                  refine lv_aload (pc := 87) hx hb dX8_copy_87 (lv_at hl 0 rfl) ?_
                  refine lv_iload (pc := 89) hx hb dX8_copy_89 (lv_at hl 6 rfl) ?_
                  refine lv_iload (pc := 91) hx hb dX8_copy_91 (lv_at hl 7 rfl) ?_
                  refine Ccalli (rest := []) (CrunV (pc := 93) X w (okX5_holds_i3 l hJ h) kw458 kmX5_holds ⟨rfl, rfl⟩ ⟨by decide, by decide⟩ (Crv_60 X w) rfl hl.1 rfl (Nat.le_of_ble_eq_true rfl) dX8_copy_93) w (fun r10 u9_ H locs h w => ?_)
                  obtain ⟨hz_r10, h⟩ := h
                  obtain ⟨rfl, h⟩ := h
                  refine lv_if_ne (pc := 96) (tgt := 105) hx hb dX8_copy_96 (by decide) (fun c_ => ?_) (fun c_ => ?_)
                  · have h := h.2 c_
                    refine lv_aload (pc := 105) hx hb dX8_copy_105 (lv_at hl 1 rfl) ?_
                    refine Cgf_58_0 (pc := 107) X w kw456 dX8_copy_107 ?_
                    refine lv_iload_n (pc := 110) hx hb dX8_copy_110 rfl (lv_at hl 4 rfl) ?_
                    refine lv_aload (pc := 111) hx hb dX8_copy_111 (lv_at hl 0 rfl) ?_
                    refine Cgf_60_0 (pc := 113) X w kw456 dX8_copy_113 ?_
                    refine lv_iload (pc := 116) hx hb dX8_copy_116 (lv_at hl 6 rfl) ?_
                    refine lv_iload (pc := 118) hx hb dX8_copy_118 (lv_at hl 7 rfl) ?_
                    refine va_copyi (pc := 120) hx hb (hml.trans hl.1.symm) hown (hts _ (List.mem_cons_of_mem _ kw486)) (hts _ (List.mem_cons_of_mem _ kw487)) (hts _ (List.mem_cons_of_mem _ kw488)) (hts _ (List.mem_cons_of_mem _ kw489)) hK.1 w.1 (CD hJ hAA _) w.2 59 61 0 0 rfl rfl rfl rfl rfl h.1 h.2.1 h.2.2.1 h.2.2.2.1 h.2.2.2.2.1 (fun _ _ => rfl) (by decide) (by decide +kernel) dX8_copy_120 (fun H locs hP _ hS => ?_)
                    have h := h.2.2.2.2.2
                    obtain ⟨u11, e_⟩ : ∃ y : Mm, y = r32 u 61 (va_cpy (u.1 59) (u.1 61) a2.toNatClampNeg a4.toNatClampNeg a5.toNatClampNeg) := ⟨_, rfl⟩
                    have h := h u11 e_
                    have w : CWd D g ad (CA ad) s u11 H locs := by rw [e_]; exact ⟨hP, hS⟩
                    refine lv_iconst (pc := 123) (v := (1 : Int32)) hx hb dX8_copy_123 (by decide) ?_
                    exact Ciret (pc := 124) X w h dX8_copy_124
                  · have h := h.1 c_
                    refine lv_aload_n (pc := 99) hx hb dX8_copy_99 rfl (lv_at hl 2 rfl) ?_
                    refine lv_iconst (pc := 100) (v := (2 : Int32)) hx hb dX8_copy_100 (by decide) ?_
                    refine Ccalli (rest := []) (CrunV (pc := 101) X w (okX8_found l hJ h) kw441 kmX8_found ⟨rfl, rfl⟩ ⟨by decide, by decide⟩ (Crv_0 X w) rfl hl.1 rfl (Nat.le_of_ble_eq_true rfl) dX8_copy_101) w (fun r12 u13 H locs h w => ?_)
                    exact Ciret (pc := 104) X w h dX8_copy_104
              · have h := h.2 c_
                refine lv_aload_n (pc := 70) hx hb dX8_copy_70 rfl (lv_at hl 2 rfl) ?_
                refine lv_iconst (pc := 71) (v := (4 : Int32)) hx hb dX8_copy_71 (by decide) ?_
                refine Ccalli (rest := []) (CrunV (pc := 72) X w (okX8_found l hJ h) kw441 kmX8_found ⟨rfl, rfl⟩ ⟨by decide, by decide⟩ (Crv_0 X w) rfl hl.1 rfl (Nat.le_of_ble_eq_true rfl) dX8_copy_72) w (fun r14 u15 H locs h w => ?_)
                exact Ciret (pc := 75) X w h dX8_copy_75
            · have h := h.2 c_
              refine lv_aload_n (pc := 51) hx hb dX8_copy_51 rfl (lv_at hl 2 rfl) ?_
              refine lv_iconst (pc := 52) (v := (1 : Int32)) hx hb dX8_copy_52 (by decide) ?_
              refine Ccalli (rest := []) (CrunV (pc := 53) X w (okX8_found l hJ h) kw441 kmX8_found ⟨rfl, rfl⟩ ⟨by decide, by decide⟩ (Crv_0 X w) rfl hl.1 rfl (Nat.le_of_ble_eq_true rfl) dX8_copy_53) w (fun r16 u17 H locs h w => ?_)
              exact Ciret (pc := 56) X w h dX8_copy_56
      · refine Caq_53 3 (by decide) (pc := 24) X w dX8_copy_24 ?_
        refine lv_astore (pc := 25) (lv' := [(6, .ref (ad 60)), (0, .ref (ad 0)), (1, .int a1), (2, .int a2), (3, .int a3), (4, .int a4), (5, .int a5)]) hx hb dX8_copy_25 hl (by decide) rfl (fun ls hl => ?_)
        refine lv_aload_n (pc := 27) hx hb dX8_copy_27 rfl (lv_at hl 1 rfl) ?_
        refine Cgf_0_6 (pc := 28) X w kw435 dX8_copy_28 ?_
        refine lv_iload_n (pc := 31) hx hb dX8_copy_31 rfl (lv_at hl 4 rfl) ?_
        obtain ⟨j4, hj_, e_⟩ := vp_in_of h.1 (by decide)
        have h := h.2 j4 hj_ e_
        refine W.eq (g2 := F0 m 32 ls (.int (nI j4) :: .ref (ad 53) :: [])) (by rw [e_]) ?_
        clear e_
        rcases (show j4 = 0 ∨ j4 = 1 ∨ j4 = 2 ∨ j4 = 3 by omega) with rfl | rfl | rfl | rfl
        · refine Caq_53 0 (by decide) (pc := 32) X w dX8_copy_32 ?_
          refine lv_astore (pc := 33) (lv' := [(7, .ref (ad 54)), (6, .ref (ad 60)), (0, .ref (ad 0)), (1, .int a1), (2, .int a2), (3, .int a3), (4, .int a4), (5, .int a5)]) hx hb dX8_copy_33 hl (by decide) rfl (fun ls hl => ?_)
          refine lv_aload (pc := 35) hx hb dX8_copy_35 (lv_at hl 1 rfl) ?_
          refine Cgf_60_3 (pc := 37) X w kw445 dX8_copy_37 ?_
          refine lv_if_ne (pc := 40) (tgt := 51) hx hb dX8_copy_40 (by decide) (fun c_ => ?_) (fun c_ => ?_)
          · have h := h.2 c_
            refine lv_aload_n (pc := 51) hx hb dX8_copy_51 rfl (lv_at hl 2 rfl) ?_
            refine lv_iconst (pc := 52) (v := (1 : Int32)) hx hb dX8_copy_52 (by decide) ?_
            refine Ccalli (rest := []) (CrunV (pc := 53) X w (okX8_found l hJ h) kw441 kmX8_found ⟨rfl, rfl⟩ ⟨by decide, by decide⟩ (Crv_0 X w) rfl hl.1 rfl (Nat.le_of_ble_eq_true rfl) dX8_copy_53) w (fun r5 u6 H locs h w => ?_)
            exact Ciret (pc := 56) X w h dX8_copy_56
          · have h := h.1 c_
            refine lv_aload (pc := 43) hx hb dX8_copy_43 (lv_at hl 0 rfl) ?_
            refine Cgf_54_3 (pc := 45) X w kw445 dX8_copy_45 ?_
            refine lv_if_eq (pc := 48) (tgt := 57) hx hb dX8_copy_48 (by decide) (fun c_ => ?_) (fun c_ => ?_)
            · have h := h.1 c_
              refine lv_aload (pc := 57) hx hb dX8_copy_57 (lv_at hl 1 rfl) ?_
              refine Cgf_60_1 (pc := 59) X w kw447 dX8_copy_59 ?_
              refine lv_aload (pc := 62) hx hb dX8_copy_62 (lv_at hl 0 rfl) ?_
              refine Cgf_54_1 (pc := 64) X w kw447 dX8_copy_64 ?_
              refine lv_icmp_eq (pc := 67) (tgt := 76) hx hb dX8_copy_67 (by decide) (fun c_ => ?_) (fun c_ => ?_)
              · have h := h.1 c_
                refine lv_aload (pc := 76) hx hb dX8_copy_76 (lv_at hl 1 rfl) ?_
                refine lv_iload_n (pc := 78) hx hb dX8_copy_78 rfl (lv_at hl 4 rfl) ?_
                refine lv_iload (pc := 79) hx hb dX8_copy_79 (lv_at hl 7 rfl) ?_
                refine Ccalli (rest := []) (CrunV (pc := 81) X w (okX5_holds_i3 l hJ h) kw458 kmX5_holds ⟨rfl, rfl⟩ ⟨by decide, by decide⟩ (Crv_60 X w) rfl hl.1 rfl (Nat.le_of_ble_eq_true rfl) dX8_copy_81) w (fun r7 u9_ H locs h w => ?_)
                obtain ⟨hz_r7, h⟩ := h
                obtain ⟨rfl, h⟩ := h
                refine lv_if_eq (pc := 84) (tgt := 99) hx hb dX8_copy_84 (by decide) (fun c_ => ?_) (fun c_ => ?_)
                · have h := h.1 c_
                  refine lv_aload_n (pc := 99) hx hb dX8_copy_99 rfl (lv_at hl 2 rfl) ?_
                  refine lv_iconst (pc := 100) (v := (2 : Int32)) hx hb dX8_copy_100 (by decide) ?_
                  refine Ccalli (rest := []) (CrunV (pc := 101) X w (okX8_found l hJ h) kw441 kmX8_found ⟨rfl, rfl⟩ ⟨by decide, by decide⟩ (Crv_0 X w) rfl hl.1 rfl (Nat.le_of_ble_eq_true rfl) dX8_copy_101) w (fun r8 u9 H locs h w => ?_)
                  exact Ciret (pc := 104) X w h dX8_copy_104
                · have h := h.2 c_
                  refine lv_aload (pc := 87) hx hb dX8_copy_87 (lv_at hl 0 rfl) ?_
                  refine lv_iload (pc := 89) hx hb dX8_copy_89 (lv_at hl 6 rfl) ?_
                  refine lv_iload (pc := 91) hx hb dX8_copy_91 (lv_at hl 7 rfl) ?_
                  refine Ccalli (rest := []) (CrunV (pc := 93) X w (okX5_holds_i0 l hJ h) kw458 kmX5_holds ⟨rfl, rfl⟩ ⟨by decide, by decide⟩ (Crv_54 X w) rfl hl.1 rfl (Nat.le_of_ble_eq_true rfl) dX8_copy_93) w (fun r10 u9_ H locs h w => ?_)
                  obtain ⟨hz_r10, h⟩ := h
                  obtain ⟨rfl, h⟩ := h
                  refine lv_if_ne (pc := 96) (tgt := 105) hx hb dX8_copy_96 (by decide) (fun c_ => ?_) (fun c_ => ?_)
                  · have h := h.2 c_
                    refine lv_aload (pc := 105) hx hb dX8_copy_105 (lv_at hl 1 rfl) ?_
                    refine Cgf_60_0 (pc := 107) X w kw456 dX8_copy_107 ?_
                    refine lv_iload_n (pc := 110) hx hb dX8_copy_110 rfl (lv_at hl 4 rfl) ?_
                    refine lv_aload (pc := 111) hx hb dX8_copy_111 (lv_at hl 0 rfl) ?_
                    refine Cgf_54_0 (pc := 113) X w kw456 dX8_copy_113 ?_
                    refine lv_iload (pc := 116) hx hb dX8_copy_116 (lv_at hl 6 rfl) ?_
                    refine lv_iload (pc := 118) hx hb dX8_copy_118 (lv_at hl 7 rfl) ?_
                    refine va_copyi (pc := 120) hx hb (hml.trans hl.1.symm) hown (hts _ (List.mem_cons_of_mem _ kw486)) (hts _ (List.mem_cons_of_mem _ kw487)) (hts _ (List.mem_cons_of_mem _ kw488)) (hts _ (List.mem_cons_of_mem _ kw489)) hK.1 w.1 (CD hJ hAA _) w.2 61 55 0 0 rfl rfl rfl rfl rfl h.1 h.2.1 h.2.2.1 h.2.2.2.1 h.2.2.2.2.1 (fun _ _ => rfl) (by decide) (by decide +kernel) dX8_copy_120 (fun H locs hP _ hS => ?_)
                    have h := h.2.2.2.2.2
                    obtain ⟨u11, e_⟩ : ∃ y : Mm, y = r32 u 55 (va_cpy (u.1 61) (u.1 55) a2.toNatClampNeg a4.toNatClampNeg a5.toNatClampNeg) := ⟨_, rfl⟩
                    have h := h u11 e_
                    have w : CWd D g ad (CA ad) s u11 H locs := by rw [e_]; exact ⟨hP, hS⟩
                    refine lv_iconst (pc := 123) (v := (1 : Int32)) hx hb dX8_copy_123 (by decide) ?_
                    exact Ciret (pc := 124) X w h dX8_copy_124
                  · have h := h.1 c_
                    refine lv_aload_n (pc := 99) hx hb dX8_copy_99 rfl (lv_at hl 2 rfl) ?_
                    refine lv_iconst (pc := 100) (v := (2 : Int32)) hx hb dX8_copy_100 (by decide) ?_
                    refine Ccalli (rest := []) (CrunV (pc := 101) X w (okX8_found l hJ h) kw441 kmX8_found ⟨rfl, rfl⟩ ⟨by decide, by decide⟩ (Crv_0 X w) rfl hl.1 rfl (Nat.le_of_ble_eq_true rfl) dX8_copy_101) w (fun r12 u13 H locs h w => ?_)
                    exact Ciret (pc := 104) X w h dX8_copy_104
              · have h := h.2 c_
                refine lv_aload_n (pc := 70) hx hb dX8_copy_70 rfl (lv_at hl 2 rfl) ?_
                refine lv_iconst (pc := 71) (v := (4 : Int32)) hx hb dX8_copy_71 (by decide) ?_
                refine Ccalli (rest := []) (CrunV (pc := 72) X w (okX8_found l hJ h) kw441 kmX8_found ⟨rfl, rfl⟩ ⟨by decide, by decide⟩ (Crv_0 X w) rfl hl.1 rfl (Nat.le_of_ble_eq_true rfl) dX8_copy_72) w (fun r14 u15 H locs h w => ?_)
                exact Ciret (pc := 75) X w h dX8_copy_75
            · have h := h.2 c_
              refine lv_aload_n (pc := 51) hx hb dX8_copy_51 rfl (lv_at hl 2 rfl) ?_
              refine lv_iconst (pc := 52) (v := (1 : Int32)) hx hb dX8_copy_52 (by decide) ?_
              refine Ccalli (rest := []) (CrunV (pc := 53) X w (okX8_found l hJ h) kw441 kmX8_found ⟨rfl, rfl⟩ ⟨by decide, by decide⟩ (Crv_0 X w) rfl hl.1 rfl (Nat.le_of_ble_eq_true rfl) dX8_copy_53) w (fun r16 u17 H locs h w => ?_)
              exact Ciret (pc := 56) X w h dX8_copy_56
        · refine Caq_53 1 (by decide) (pc := 32) X w dX8_copy_32 ?_
          refine lv_astore (pc := 33) (lv' := [(7, .ref (ad 56)), (6, .ref (ad 60)), (0, .ref (ad 0)), (1, .int a1), (2, .int a2), (3, .int a3), (4, .int a4), (5, .int a5)]) hx hb dX8_copy_33 hl (by decide) rfl (fun ls hl => ?_)
          refine lv_aload (pc := 35) hx hb dX8_copy_35 (lv_at hl 1 rfl) ?_
          refine Cgf_60_3 (pc := 37) X w kw445 dX8_copy_37 ?_
          refine lv_if_ne (pc := 40) (tgt := 51) hx hb dX8_copy_40 (by decide) (fun c_ => ?_) (fun c_ => ?_)
          · have h := h.2 c_
            refine lv_aload_n (pc := 51) hx hb dX8_copy_51 rfl (lv_at hl 2 rfl) ?_
            refine lv_iconst (pc := 52) (v := (1 : Int32)) hx hb dX8_copy_52 (by decide) ?_
            refine Ccalli (rest := []) (CrunV (pc := 53) X w (okX8_found l hJ h) kw441 kmX8_found ⟨rfl, rfl⟩ ⟨by decide, by decide⟩ (Crv_0 X w) rfl hl.1 rfl (Nat.le_of_ble_eq_true rfl) dX8_copy_53) w (fun r5 u6 H locs h w => ?_)
            exact Ciret (pc := 56) X w h dX8_copy_56
          · have h := h.1 c_
            refine lv_aload (pc := 43) hx hb dX8_copy_43 (lv_at hl 0 rfl) ?_
            refine Cgf_56_3 (pc := 45) X w kw445 dX8_copy_45 ?_
            refine lv_if_eq (pc := 48) (tgt := 57) hx hb dX8_copy_48 (by decide) (fun c_ => ?_) (fun c_ => ?_)
            · have h := h.1 c_
              refine lv_aload (pc := 57) hx hb dX8_copy_57 (lv_at hl 1 rfl) ?_
              refine Cgf_60_1 (pc := 59) X w kw447 dX8_copy_59 ?_
              refine lv_aload (pc := 62) hx hb dX8_copy_62 (lv_at hl 0 rfl) ?_
              refine Cgf_56_1 (pc := 64) X w kw447 dX8_copy_64 ?_
              refine lv_icmp_eq (pc := 67) (tgt := 76) hx hb dX8_copy_67 (by decide) (fun c_ => ?_) (fun c_ => ?_)
              · have h := h.1 c_
                refine lv_aload (pc := 76) hx hb dX8_copy_76 (lv_at hl 1 rfl) ?_
                refine lv_iload_n (pc := 78) hx hb dX8_copy_78 rfl (lv_at hl 4 rfl) ?_
                refine lv_iload (pc := 79) hx hb dX8_copy_79 (lv_at hl 7 rfl) ?_
                refine Ccalli (rest := []) (CrunV (pc := 81) X w (okX5_holds_i3 l hJ h) kw458 kmX5_holds ⟨rfl, rfl⟩ ⟨by decide, by decide⟩ (Crv_60 X w) rfl hl.1 rfl (Nat.le_of_ble_eq_true rfl) dX8_copy_81) w (fun r7 u9_ H locs h w => ?_)
                obtain ⟨hz_r7, h⟩ := h
                obtain ⟨rfl, h⟩ := h
                refine lv_if_eq (pc := 84) (tgt := 99) hx hb dX8_copy_84 (by decide) (fun c_ => ?_) (fun c_ => ?_)
                · have h := h.1 c_
                  refine lv_aload_n (pc := 99) hx hb dX8_copy_99 rfl (lv_at hl 2 rfl) ?_
                  refine lv_iconst (pc := 100) (v := (2 : Int32)) hx hb dX8_copy_100 (by decide) ?_
                  refine Ccalli (rest := []) (CrunV (pc := 101) X w (okX8_found l hJ h) kw441 kmX8_found ⟨rfl, rfl⟩ ⟨by decide, by decide⟩ (Crv_0 X w) rfl hl.1 rfl (Nat.le_of_ble_eq_true rfl) dX8_copy_101) w (fun r8 u9 H locs h w => ?_)
                  exact Ciret (pc := 104) X w h dX8_copy_104
                · have h := h.2 c_
                  refine lv_aload (pc := 87) hx hb dX8_copy_87 (lv_at hl 0 rfl) ?_
                  refine lv_iload (pc := 89) hx hb dX8_copy_89 (lv_at hl 6 rfl) ?_
                  refine lv_iload (pc := 91) hx hb dX8_copy_91 (lv_at hl 7 rfl) ?_
                  refine Ccalli (rest := []) (CrunV (pc := 93) X w (okX5_holds_i1 l hJ h) kw458 kmX5_holds ⟨rfl, rfl⟩ ⟨by decide, by decide⟩ (Crv_56 X w) rfl hl.1 rfl (Nat.le_of_ble_eq_true rfl) dX8_copy_93) w (fun r10 u9_ H locs h w => ?_)
                  obtain ⟨hz_r10, h⟩ := h
                  obtain ⟨rfl, h⟩ := h
                  refine lv_if_ne (pc := 96) (tgt := 105) hx hb dX8_copy_96 (by decide) (fun c_ => ?_) (fun c_ => ?_)
                  · have h := h.2 c_
                    refine lv_aload (pc := 105) hx hb dX8_copy_105 (lv_at hl 1 rfl) ?_
                    refine Cgf_60_0 (pc := 107) X w kw456 dX8_copy_107 ?_
                    refine lv_iload_n (pc := 110) hx hb dX8_copy_110 rfl (lv_at hl 4 rfl) ?_
                    refine lv_aload (pc := 111) hx hb dX8_copy_111 (lv_at hl 0 rfl) ?_
                    refine Cgf_56_0 (pc := 113) X w kw456 dX8_copy_113 ?_
                    refine lv_iload (pc := 116) hx hb dX8_copy_116 (lv_at hl 6 rfl) ?_
                    refine lv_iload (pc := 118) hx hb dX8_copy_118 (lv_at hl 7 rfl) ?_
                    refine va_copyi (pc := 120) hx hb (hml.trans hl.1.symm) hown (hts _ (List.mem_cons_of_mem _ kw486)) (hts _ (List.mem_cons_of_mem _ kw487)) (hts _ (List.mem_cons_of_mem _ kw488)) (hts _ (List.mem_cons_of_mem _ kw489)) hK.1 w.1 (CD hJ hAA _) w.2 61 57 0 0 rfl rfl rfl rfl rfl h.1 h.2.1 h.2.2.1 h.2.2.2.1 h.2.2.2.2.1 (fun _ _ => rfl) (by decide) (by decide +kernel) dX8_copy_120 (fun H locs hP _ hS => ?_)
                    have h := h.2.2.2.2.2
                    obtain ⟨u11, e_⟩ : ∃ y : Mm, y = r32 u 57 (va_cpy (u.1 61) (u.1 57) a2.toNatClampNeg a4.toNatClampNeg a5.toNatClampNeg) := ⟨_, rfl⟩
                    have h := h u11 e_
                    have w : CWd D g ad (CA ad) s u11 H locs := by rw [e_]; exact ⟨hP, hS⟩
                    refine lv_iconst (pc := 123) (v := (1 : Int32)) hx hb dX8_copy_123 (by decide) ?_
                    exact Ciret (pc := 124) X w h dX8_copy_124
                  · have h := h.1 c_
                    refine lv_aload_n (pc := 99) hx hb dX8_copy_99 rfl (lv_at hl 2 rfl) ?_
                    refine lv_iconst (pc := 100) (v := (2 : Int32)) hx hb dX8_copy_100 (by decide) ?_
                    refine Ccalli (rest := []) (CrunV (pc := 101) X w (okX8_found l hJ h) kw441 kmX8_found ⟨rfl, rfl⟩ ⟨by decide, by decide⟩ (Crv_0 X w) rfl hl.1 rfl (Nat.le_of_ble_eq_true rfl) dX8_copy_101) w (fun r12 u13 H locs h w => ?_)
                    exact Ciret (pc := 104) X w h dX8_copy_104
              · have h := h.2 c_
                refine lv_aload_n (pc := 70) hx hb dX8_copy_70 rfl (lv_at hl 2 rfl) ?_
                refine lv_iconst (pc := 71) (v := (4 : Int32)) hx hb dX8_copy_71 (by decide) ?_
                refine Ccalli (rest := []) (CrunV (pc := 72) X w (okX8_found l hJ h) kw441 kmX8_found ⟨rfl, rfl⟩ ⟨by decide, by decide⟩ (Crv_0 X w) rfl hl.1 rfl (Nat.le_of_ble_eq_true rfl) dX8_copy_72) w (fun r14 u15 H locs h w => ?_)
                exact Ciret (pc := 75) X w h dX8_copy_75
            · have h := h.2 c_
              refine lv_aload_n (pc := 51) hx hb dX8_copy_51 rfl (lv_at hl 2 rfl) ?_
              refine lv_iconst (pc := 52) (v := (1 : Int32)) hx hb dX8_copy_52 (by decide) ?_
              refine Ccalli (rest := []) (CrunV (pc := 53) X w (okX8_found l hJ h) kw441 kmX8_found ⟨rfl, rfl⟩ ⟨by decide, by decide⟩ (Crv_0 X w) rfl hl.1 rfl (Nat.le_of_ble_eq_true rfl) dX8_copy_53) w (fun r16 u17 H locs h w => ?_)
              exact Ciret (pc := 56) X w h dX8_copy_56
        · refine Caq_53 2 (by decide) (pc := 32) X w dX8_copy_32 ?_
          refine lv_astore (pc := 33) (lv' := [(7, .ref (ad 58)), (6, .ref (ad 60)), (0, .ref (ad 0)), (1, .int a1), (2, .int a2), (3, .int a3), (4, .int a4), (5, .int a5)]) hx hb dX8_copy_33 hl (by decide) rfl (fun ls hl => ?_)
          refine lv_aload (pc := 35) hx hb dX8_copy_35 (lv_at hl 1 rfl) ?_
          refine Cgf_60_3 (pc := 37) X w kw445 dX8_copy_37 ?_
          refine lv_if_ne (pc := 40) (tgt := 51) hx hb dX8_copy_40 (by decide) (fun c_ => ?_) (fun c_ => ?_)
          · have h := h.2 c_
            refine lv_aload_n (pc := 51) hx hb dX8_copy_51 rfl (lv_at hl 2 rfl) ?_
            refine lv_iconst (pc := 52) (v := (1 : Int32)) hx hb dX8_copy_52 (by decide) ?_
            refine Ccalli (rest := []) (CrunV (pc := 53) X w (okX8_found l hJ h) kw441 kmX8_found ⟨rfl, rfl⟩ ⟨by decide, by decide⟩ (Crv_0 X w) rfl hl.1 rfl (Nat.le_of_ble_eq_true rfl) dX8_copy_53) w (fun r5 u6 H locs h w => ?_)
            exact Ciret (pc := 56) X w h dX8_copy_56
          · have h := h.1 c_
            refine lv_aload (pc := 43) hx hb dX8_copy_43 (lv_at hl 0 rfl) ?_
            refine Cgf_58_3 (pc := 45) X w kw445 dX8_copy_45 ?_
            refine lv_if_eq (pc := 48) (tgt := 57) hx hb dX8_copy_48 (by decide) (fun c_ => ?_) (fun c_ => ?_)
            · have h := h.1 c_
              refine lv_aload (pc := 57) hx hb dX8_copy_57 (lv_at hl 1 rfl) ?_
              refine Cgf_60_1 (pc := 59) X w kw447 dX8_copy_59 ?_
              refine lv_aload (pc := 62) hx hb dX8_copy_62 (lv_at hl 0 rfl) ?_
              refine Cgf_58_1 (pc := 64) X w kw447 dX8_copy_64 ?_
              refine lv_icmp_eq (pc := 67) (tgt := 76) hx hb dX8_copy_67 (by decide) (fun c_ => ?_) (fun c_ => ?_)
              · have h := h.1 c_
                refine lv_aload (pc := 76) hx hb dX8_copy_76 (lv_at hl 1 rfl) ?_
                refine lv_iload_n (pc := 78) hx hb dX8_copy_78 rfl (lv_at hl 4 rfl) ?_
                refine lv_iload (pc := 79) hx hb dX8_copy_79 (lv_at hl 7 rfl) ?_
                refine Ccalli (rest := []) (CrunV (pc := 81) X w (okX5_holds_i3 l hJ h) kw458 kmX5_holds ⟨rfl, rfl⟩ ⟨by decide, by decide⟩ (Crv_60 X w) rfl hl.1 rfl (Nat.le_of_ble_eq_true rfl) dX8_copy_81) w (fun r7 u9_ H locs h w => ?_)
                obtain ⟨hz_r7, h⟩ := h
                obtain ⟨rfl, h⟩ := h
                refine lv_if_eq (pc := 84) (tgt := 99) hx hb dX8_copy_84 (by decide) (fun c_ => ?_) (fun c_ => ?_)
                · have h := h.1 c_
                  refine lv_aload_n (pc := 99) hx hb dX8_copy_99 rfl (lv_at hl 2 rfl) ?_
                  refine lv_iconst (pc := 100) (v := (2 : Int32)) hx hb dX8_copy_100 (by decide) ?_
                  refine Ccalli (rest := []) (CrunV (pc := 101) X w (okX8_found l hJ h) kw441 kmX8_found ⟨rfl, rfl⟩ ⟨by decide, by decide⟩ (Crv_0 X w) rfl hl.1 rfl (Nat.le_of_ble_eq_true rfl) dX8_copy_101) w (fun r8 u9 H locs h w => ?_)
                  exact Ciret (pc := 104) X w h dX8_copy_104
                · have h := h.2 c_
                  refine lv_aload (pc := 87) hx hb dX8_copy_87 (lv_at hl 0 rfl) ?_
                  refine lv_iload (pc := 89) hx hb dX8_copy_89 (lv_at hl 6 rfl) ?_
                  refine lv_iload (pc := 91) hx hb dX8_copy_91 (lv_at hl 7 rfl) ?_
                  refine Ccalli (rest := []) (CrunV (pc := 93) X w (okX5_holds_i2 l hJ h) kw458 kmX5_holds ⟨rfl, rfl⟩ ⟨by decide, by decide⟩ (Crv_58 X w) rfl hl.1 rfl (Nat.le_of_ble_eq_true rfl) dX8_copy_93) w (fun r10 u9_ H locs h w => ?_)
                  obtain ⟨hz_r10, h⟩ := h
                  obtain ⟨rfl, h⟩ := h
                  refine lv_if_ne (pc := 96) (tgt := 105) hx hb dX8_copy_96 (by decide) (fun c_ => ?_) (fun c_ => ?_)
                  · have h := h.2 c_
                    refine lv_aload (pc := 105) hx hb dX8_copy_105 (lv_at hl 1 rfl) ?_
                    refine Cgf_60_0 (pc := 107) X w kw456 dX8_copy_107 ?_
                    refine lv_iload_n (pc := 110) hx hb dX8_copy_110 rfl (lv_at hl 4 rfl) ?_
                    refine lv_aload (pc := 111) hx hb dX8_copy_111 (lv_at hl 0 rfl) ?_
                    refine Cgf_58_0 (pc := 113) X w kw456 dX8_copy_113 ?_
                    refine lv_iload (pc := 116) hx hb dX8_copy_116 (lv_at hl 6 rfl) ?_
                    refine lv_iload (pc := 118) hx hb dX8_copy_118 (lv_at hl 7 rfl) ?_
                    refine va_copyi (pc := 120) hx hb (hml.trans hl.1.symm) hown (hts _ (List.mem_cons_of_mem _ kw486)) (hts _ (List.mem_cons_of_mem _ kw487)) (hts _ (List.mem_cons_of_mem _ kw488)) (hts _ (List.mem_cons_of_mem _ kw489)) hK.1 w.1 (CD hJ hAA _) w.2 61 59 0 0 rfl rfl rfl rfl rfl h.1 h.2.1 h.2.2.1 h.2.2.2.1 h.2.2.2.2.1 (fun _ _ => rfl) (by decide) (by decide +kernel) dX8_copy_120 (fun H locs hP _ hS => ?_)
                    have h := h.2.2.2.2.2
                    obtain ⟨u11, e_⟩ : ∃ y : Mm, y = r32 u 59 (va_cpy (u.1 61) (u.1 59) a2.toNatClampNeg a4.toNatClampNeg a5.toNatClampNeg) := ⟨_, rfl⟩
                    have h := h u11 e_
                    have w : CWd D g ad (CA ad) s u11 H locs := by rw [e_]; exact ⟨hP, hS⟩
                    refine lv_iconst (pc := 123) (v := (1 : Int32)) hx hb dX8_copy_123 (by decide) ?_
                    exact Ciret (pc := 124) X w h dX8_copy_124
                  · have h := h.1 c_
                    refine lv_aload_n (pc := 99) hx hb dX8_copy_99 rfl (lv_at hl 2 rfl) ?_
                    refine lv_iconst (pc := 100) (v := (2 : Int32)) hx hb dX8_copy_100 (by decide) ?_
                    refine Ccalli (rest := []) (CrunV (pc := 101) X w (okX8_found l hJ h) kw441 kmX8_found ⟨rfl, rfl⟩ ⟨by decide, by decide⟩ (Crv_0 X w) rfl hl.1 rfl (Nat.le_of_ble_eq_true rfl) dX8_copy_101) w (fun r12 u13 H locs h w => ?_)
                    exact Ciret (pc := 104) X w h dX8_copy_104
              · have h := h.2 c_
                refine lv_aload_n (pc := 70) hx hb dX8_copy_70 rfl (lv_at hl 2 rfl) ?_
                refine lv_iconst (pc := 71) (v := (4 : Int32)) hx hb dX8_copy_71 (by decide) ?_
                refine Ccalli (rest := []) (CrunV (pc := 72) X w (okX8_found l hJ h) kw441 kmX8_found ⟨rfl, rfl⟩ ⟨by decide, by decide⟩ (Crv_0 X w) rfl hl.1 rfl (Nat.le_of_ble_eq_true rfl) dX8_copy_72) w (fun r14 u15 H locs h w => ?_)
                exact Ciret (pc := 75) X w h dX8_copy_75
            · have h := h.2 c_
              refine lv_aload_n (pc := 51) hx hb dX8_copy_51 rfl (lv_at hl 2 rfl) ?_
              refine lv_iconst (pc := 52) (v := (1 : Int32)) hx hb dX8_copy_52 (by decide) ?_
              refine Ccalli (rest := []) (CrunV (pc := 53) X w (okX8_found l hJ h) kw441 kmX8_found ⟨rfl, rfl⟩ ⟨by decide, by decide⟩ (Crv_0 X w) rfl hl.1 rfl (Nat.le_of_ble_eq_true rfl) dX8_copy_53) w (fun r16 u17 H locs h w => ?_)
              exact Ciret (pc := 56) X w h dX8_copy_56
        · refine Caq_53 3 (by decide) (pc := 32) X w dX8_copy_32 ?_
          refine lv_astore (pc := 33) (lv' := [(7, .ref (ad 60)), (6, .ref (ad 60)), (0, .ref (ad 0)), (1, .int a1), (2, .int a2), (3, .int a3), (4, .int a4), (5, .int a5)]) hx hb dX8_copy_33 hl (by decide) rfl (fun ls hl => ?_)
          refine lv_aload (pc := 35) hx hb dX8_copy_35 (lv_at hl 1 rfl) ?_
          refine Cgf_60_3 (pc := 37) X w kw445 dX8_copy_37 ?_
          refine lv_if_ne (pc := 40) (tgt := 51) hx hb dX8_copy_40 (by decide) (fun c_ => ?_) (fun c_ => ?_)
          · have h := h.2 c_
            refine lv_aload_n (pc := 51) hx hb dX8_copy_51 rfl (lv_at hl 2 rfl) ?_
            refine lv_iconst (pc := 52) (v := (1 : Int32)) hx hb dX8_copy_52 (by decide) ?_
            refine Ccalli (rest := []) (CrunV (pc := 53) X w (okX8_found l hJ h) kw441 kmX8_found ⟨rfl, rfl⟩ ⟨by decide, by decide⟩ (Crv_0 X w) rfl hl.1 rfl (Nat.le_of_ble_eq_true rfl) dX8_copy_53) w (fun r5 u6 H locs h w => ?_)
            exact Ciret (pc := 56) X w h dX8_copy_56
          · have h := h.1 c_
            refine lv_aload (pc := 43) hx hb dX8_copy_43 (lv_at hl 0 rfl) ?_
            refine Cgf_60_3 (pc := 45) X w kw445 dX8_copy_45 ?_
            refine lv_if_eq (pc := 48) (tgt := 57) hx hb dX8_copy_48 (by decide) (fun c_ => ?_) (fun c_ => ?_)
            · have h := h.1 c_
              refine lv_aload (pc := 57) hx hb dX8_copy_57 (lv_at hl 1 rfl) ?_
              refine Cgf_60_1 (pc := 59) X w kw447 dX8_copy_59 ?_
              refine lv_aload (pc := 62) hx hb dX8_copy_62 (lv_at hl 0 rfl) ?_
              refine Cgf_60_1 (pc := 64) X w kw447 dX8_copy_64 ?_
              refine lv_icmp_eq (pc := 67) (tgt := 76) hx hb dX8_copy_67 (by decide) (fun c_ => ?_) (fun c_ => ?_)
              · have h := h.1 c_
                refine lv_aload (pc := 76) hx hb dX8_copy_76 (lv_at hl 1 rfl) ?_
                refine lv_iload_n (pc := 78) hx hb dX8_copy_78 rfl (lv_at hl 4 rfl) ?_
                refine lv_iload (pc := 79) hx hb dX8_copy_79 (lv_at hl 7 rfl) ?_
                refine Ccalli (rest := []) (CrunV (pc := 81) X w (okX5_holds_i3 l hJ h) kw458 kmX5_holds ⟨rfl, rfl⟩ ⟨by decide, by decide⟩ (Crv_60 X w) rfl hl.1 rfl (Nat.le_of_ble_eq_true rfl) dX8_copy_81) w (fun r7 u9_ H locs h w => ?_)
                obtain ⟨hz_r7, h⟩ := h
                obtain ⟨rfl, h⟩ := h
                refine lv_if_eq (pc := 84) (tgt := 99) hx hb dX8_copy_84 (by decide) (fun c_ => ?_) (fun c_ => ?_)
                · have h := h.1 c_
                  refine lv_aload_n (pc := 99) hx hb dX8_copy_99 rfl (lv_at hl 2 rfl) ?_
                  refine lv_iconst (pc := 100) (v := (2 : Int32)) hx hb dX8_copy_100 (by decide) ?_
                  refine Ccalli (rest := []) (CrunV (pc := 101) X w (okX8_found l hJ h) kw441 kmX8_found ⟨rfl, rfl⟩ ⟨by decide, by decide⟩ (Crv_0 X w) rfl hl.1 rfl (Nat.le_of_ble_eq_true rfl) dX8_copy_101) w (fun r8 u9 H locs h w => ?_)
                  exact Ciret (pc := 104) X w h dX8_copy_104
                · have h := h.2 c_
                  refine lv_aload (pc := 87) hx hb dX8_copy_87 (lv_at hl 0 rfl) ?_
                  refine lv_iload (pc := 89) hx hb dX8_copy_89 (lv_at hl 6 rfl) ?_
                  refine lv_iload (pc := 91) hx hb dX8_copy_91 (lv_at hl 7 rfl) ?_
                  refine Ccalli (rest := []) (CrunV (pc := 93) X w (okX5_holds_i3 l hJ h) kw458 kmX5_holds ⟨rfl, rfl⟩ ⟨by decide, by decide⟩ (Crv_60 X w) rfl hl.1 rfl (Nat.le_of_ble_eq_true rfl) dX8_copy_93) w (fun r10 u9_ H locs h w => ?_)
                  obtain ⟨hz_r10, h⟩ := h
                  obtain ⟨rfl, h⟩ := h
                  refine lv_if_ne (pc := 96) (tgt := 105) hx hb dX8_copy_96 (by decide) (fun c_ => ?_) (fun c_ => ?_)
                  · have h := h.2 c_
                    refine lv_aload (pc := 105) hx hb dX8_copy_105 (lv_at hl 1 rfl) ?_
                    refine Cgf_60_0 (pc := 107) X w kw456 dX8_copy_107 ?_
                    refine lv_iload_n (pc := 110) hx hb dX8_copy_110 rfl (lv_at hl 4 rfl) ?_
                    refine lv_aload (pc := 111) hx hb dX8_copy_111 (lv_at hl 0 rfl) ?_
                    refine Cgf_60_0 (pc := 113) X w kw456 dX8_copy_113 ?_
                    refine lv_iload (pc := 116) hx hb dX8_copy_116 (lv_at hl 6 rfl) ?_
                    refine lv_iload (pc := 118) hx hb dX8_copy_118 (lv_at hl 7 rfl) ?_
                    refine va_copyi (pc := 120) hx hb (hml.trans hl.1.symm) hown (hts _ (List.mem_cons_of_mem _ kw486)) (hts _ (List.mem_cons_of_mem _ kw487)) (hts _ (List.mem_cons_of_mem _ kw488)) (hts _ (List.mem_cons_of_mem _ kw489)) hK.1 w.1 (CD hJ hAA _) w.2 61 61 0 0 rfl rfl rfl rfl rfl h.1 h.2.1 h.2.2.1 h.2.2.2.1 h.2.2.2.2.1 (fun _ _ => rfl) (by decide) (by decide +kernel) dX8_copy_120 (fun H locs hP _ hS => ?_)
                    have h := h.2.2.2.2.2
                    obtain ⟨u11, e_⟩ : ∃ y : Mm, y = r32 u 61 (va_cpy (u.1 61) (u.1 61) a2.toNatClampNeg a4.toNatClampNeg a5.toNatClampNeg) := ⟨_, rfl⟩
                    have h := h u11 e_
                    have w : CWd D g ad (CA ad) s u11 H locs := by rw [e_]; exact ⟨hP, hS⟩
                    refine lv_iconst (pc := 123) (v := (1 : Int32)) hx hb dX8_copy_123 (by decide) ?_
                    exact Ciret (pc := 124) X w h dX8_copy_124
                  · have h := h.1 c_
                    refine lv_aload_n (pc := 99) hx hb dX8_copy_99 rfl (lv_at hl 2 rfl) ?_
                    refine lv_iconst (pc := 100) (v := (2 : Int32)) hx hb dX8_copy_100 (by decide) ?_
                    refine Ccalli (rest := []) (CrunV (pc := 101) X w (okX8_found l hJ h) kw441 kmX8_found ⟨rfl, rfl⟩ ⟨by decide, by decide⟩ (Crv_0 X w) rfl hl.1 rfl (Nat.le_of_ble_eq_true rfl) dX8_copy_101) w (fun r12 u13 H locs h w => ?_)
                    exact Ciret (pc := 104) X w h dX8_copy_104
              · have h := h.2 c_
                refine lv_aload_n (pc := 70) hx hb dX8_copy_70 rfl (lv_at hl 2 rfl) ?_
                refine lv_iconst (pc := 71) (v := (4 : Int32)) hx hb dX8_copy_71 (by decide) ?_
                refine Ccalli (rest := []) (CrunV (pc := 72) X w (okX8_found l hJ h) kw441 kmX8_found ⟨rfl, rfl⟩ ⟨by decide, by decide⟩ (Crv_0 X w) rfl hl.1 rfl (Nat.le_of_ble_eq_true rfl) dX8_copy_72) w (fun r14 u15 H locs h w => ?_)
                exact Ciret (pc := 75) X w h dX8_copy_75
            · have h := h.2 c_
              refine lv_aload_n (pc := 51) hx hb dX8_copy_51 rfl (lv_at hl 2 rfl) ?_
              refine lv_iconst (pc := 52) (v := (1 : Int32)) hx hb dX8_copy_52 (by decide) ?_
              refine Ccalli (rest := []) (CrunV (pc := 53) X w (okX8_found l hJ h) kw441 kmX8_found ⟨rfl, rfl⟩ ⟨by decide, by decide⟩ (Crv_0 X w) rfl hl.1 rfl (Nat.le_of_ble_eq_true rfl) dX8_copy_53) w (fun r16 u17 H locs h w => ?_)
              exact Ciret (pc := 56) X w h dX8_copy_56
    · have h := h.1 c_
      refine lv_bipush (pc := 16) (v := (-2 : Int32)) hx hb dX8_copy_16 (by decide) ?_
      exact Ciret (pc := 18) X w h dX8_copy_18
set_option maxHeartbeats 4000000 in
set_option maxRecDepth 100000 in
theorem bX8_read_44_0 {l : Launch} {p : Program} {e : Env} {s : State} {m : MethodId} {args : Array Value} {below : List Frame} {meth : Method} {c : Code} {D : va_G} {g : Nat → ClassId} {ad : Nat → Nat} {Q : Int32 → Mm → Prop} (X : CX p s m args meth c cX8_read RX8 5 (some .int) (Cond.code yX8_read cX8_read 5 (some .int)) D g ad (CA ad)) : ∀ (n : Nat) (u : Mm) (x1 : Int32) (x3 : Int32) (x4 : Int32) (H : Heap) (locs : List Loc) (ls : Array Slot), wX8_read_b44 Q n u x1 0 x3 x4 → CWd D g ad (CA ad) s u H locs → lv_has ls 5 [(0, .ref (ad 0)), (1, .int x1), (2, .ref (ad 55)), (3, .int x3), (4, .int x4)] → W p l e ({ frames := 4, cells := 0, slots := 0, locals := 84 } : Room) s m args below meth c H locs 0 0 (MQ below (va_Qi Q (CB D g ad) (CA ad)) args s 0 0 (CA ad)) (F0 m 44 ls []) := by
  obtain ⟨⟨hx, hb, hml, hown, hts⟩, hr, hlocks, hK, hJ, hAA⟩ := id X
  intro n
  induction n with
  | zero =>
    intro u x1 x3 x4 H locs ls h
    exact False.elim h
  | succ n ih =>
    intro u x1 x3 x4 H locs ls h w hl
    unfold wX8_read_b44 at h
    refine lv_iload (pc := 44) hx hb dX8_read_44 (lv_at hl 4 rfl) ?_
    refine lv_iconst (pc := 46) (v := (4 : Int32)) hx hb dX8_read_46 (by decide) ?_
    refine lv_iadd (pc := 47) hx hb dX8_read_47 ?_
    refine lv_aload_n (pc := 48) hx hb dX8_read_48 rfl (lv_at hl 0 rfl) ?_
    refine Cgf_0_6 (pc := 49) X w kw435 dX8_read_49 ?_
    refine lv_iload_n (pc := 52) hx hb dX8_read_52 rfl (lv_at hl 1 rfl) ?_
    obtain ⟨j1, hj_, e_⟩ := vp_in_of h.1 (by decide)
    have h := h.2 j1 hj_ e_
    refine W.eq (g2 := F0 m 53 ls (.int (nI j1) :: .ref (ad 53) :: .int (x4 + (4 : Int32)) :: [])) (by rw [e_]) ?_
    clear e_
    rcases (show j1 = 0 ∨ j1 = 1 ∨ j1 = 2 ∨ j1 = 3 by omega) with rfl | rfl | rfl | rfl
    · refine Caq_53 0 (by decide) (pc := 53) X w dX8_read_53 ?_
      refine Cgf_54_2 (pc := 54) X w kw446 dX8_read_54 ?_
      refine lv_icmp_gt (pc := 57) (tgt := 100) hx hb dX8_read_57 (by decide) (fun c_ => ?_) (fun c_ => ?_)
      · have h := h.1 c_
        refine lv_iload_n (pc := 100) hx hb dX8_read_100 rfl (lv_at hl 3 rfl) ?_
        exact Ciret (pc := 101) X w h dX8_read_101
      · have h := h.2 c_
        refine lv_aload_n (pc := 60) hx hb dX8_read_60 rfl (lv_at hl 0 rfl) ?_
        refine lv_aload_n (pc := 61) hx hb dX8_read_61 rfl (lv_at hl 2 rfl) ?_
        refine lv_iload (pc := 62) hx hb dX8_read_62 (lv_at hl 4 rfl) ?_
        refine Cld_55 (pc := 64) X w h.1 dX8_read_64 ?_
        have h := h.2
        refine lv_aload_n (pc := 65) hx hb dX8_read_65 rfl (lv_at hl 2 rfl) ?_
        refine lv_iload (pc := 66) hx hb dX8_read_66 (lv_at hl 4 rfl) ?_
        refine lv_iconst (pc := 68) (v := (1 : Int32)) hx hb dX8_read_68 (by decide) ?_
        refine lv_iadd (pc := 69) hx hb dX8_read_69 ?_
        refine Cld_55 (pc := 70) X w h.1 dX8_read_70 ?_
        have h := h.2
        refine lv_aload_n (pc := 71) hx hb dX8_read_71 rfl (lv_at hl 2 rfl) ?_
        refine lv_iload (pc := 72) hx hb dX8_read_72 (lv_at hl 4 rfl) ?_
        refine lv_iconst (pc := 74) (v := (2 : Int32)) hx hb dX8_read_74 (by decide) ?_
        refine lv_iadd (pc := 75) hx hb dX8_read_75 ?_
        refine Cld_55 (pc := 76) X w h.1 dX8_read_76 ?_
        have h := h.2
        refine lv_aload_n (pc := 77) hx hb dX8_read_77 rfl (lv_at hl 2 rfl) ?_
        refine lv_iload (pc := 78) hx hb dX8_read_78 (lv_at hl 4 rfl) ?_
        refine lv_iconst (pc := 80) (v := (3 : Int32)) hx hb dX8_read_80 (by decide) ?_
        refine lv_iadd (pc := 81) hx hb dX8_read_81 ?_
        refine Cld_55 (pc := 82) X w h.1 dX8_read_82 ?_
        have h := h.2
        refine Ccalli (rest := []) (CrunV (pc := 83) X w (okX8_row l hJ h) kw462 kmX8_row ⟨rfl, rfl⟩ ⟨by decide, by decide⟩ (Crv_0 X w) rfl hl.1 rfl (Nat.le_of_ble_eq_true rfl) dX8_read_83) w (fun r2 u3 H locs h w => ?_)
        refine lv_if_ge (pc := 86) (tgt := 91) hx hb dX8_read_86 (by decide) (fun c_ => ?_) (fun c_ => ?_)
        · have h := h.1 c_
          obtain ⟨x3_4, e_⟩ : ∃ y : Int32, y = x3 + (1 : Int32) := ⟨_, rfl⟩
          have h := h x3_4 e_
          refine lv_iinc (pc := 91) (v := x3_4) (lv' := [(3, .int x3_4), (0, .ref (ad 0)), (1, .int x1), (2, .ref (ad 55)), (4, .int x4)]) hx hb dX8_read_91 hl (k := 3) rfl (by rw [e_]; rfl) (by decide) rfl (fun ls hl => ?_)
          obtain ⟨x4_5, e_⟩ : ∃ y : Int32, y = x4 + (4 : Int32) := ⟨_, rfl⟩
          have h := h x4_5 e_
          refine lv_iinc (pc := 94) (v := x4_5) (lv' := [(4, .int x4_5), (3, .int x3_4), (0, .ref (ad 0)), (1, .int x1), (2, .ref (ad 55))]) hx hb dX8_read_94 hl (k := 4) rfl (by rw [e_]; rfl) (by decide) rfl (fun ls hl => ?_)
          refine lv_goto (pc := 97) (tgt := 44) hx hb dX8_read_97 (by decide) ?_
          exact ih u3 x1 x3_4 x4_5 H locs ls h w (lv_sub hl [2, 3, 4, 1, 0] rfl)
        · have h := h.2 c_
          refine lv_iload_n (pc := 89) hx hb dX8_read_89 rfl (lv_at hl 3 rfl) ?_
          exact Ciret (pc := 90) X w h dX8_read_90
    · refine Caq_53 1 (by decide) (pc := 53) X w dX8_read_53 ?_
      refine Cgf_56_2 (pc := 54) X w kw446 dX8_read_54 ?_
      refine lv_icmp_gt (pc := 57) (tgt := 100) hx hb dX8_read_57 (by decide) (fun c_ => ?_) (fun c_ => ?_)
      · have h := h.1 c_
        refine lv_iload_n (pc := 100) hx hb dX8_read_100 rfl (lv_at hl 3 rfl) ?_
        exact Ciret (pc := 101) X w h dX8_read_101
      · have h := h.2 c_
        refine lv_aload_n (pc := 60) hx hb dX8_read_60 rfl (lv_at hl 0 rfl) ?_
        refine lv_aload_n (pc := 61) hx hb dX8_read_61 rfl (lv_at hl 2 rfl) ?_
        refine lv_iload (pc := 62) hx hb dX8_read_62 (lv_at hl 4 rfl) ?_
        refine Cld_55 (pc := 64) X w h.1 dX8_read_64 ?_
        have h := h.2
        refine lv_aload_n (pc := 65) hx hb dX8_read_65 rfl (lv_at hl 2 rfl) ?_
        refine lv_iload (pc := 66) hx hb dX8_read_66 (lv_at hl 4 rfl) ?_
        refine lv_iconst (pc := 68) (v := (1 : Int32)) hx hb dX8_read_68 (by decide) ?_
        refine lv_iadd (pc := 69) hx hb dX8_read_69 ?_
        refine Cld_55 (pc := 70) X w h.1 dX8_read_70 ?_
        have h := h.2
        refine lv_aload_n (pc := 71) hx hb dX8_read_71 rfl (lv_at hl 2 rfl) ?_
        refine lv_iload (pc := 72) hx hb dX8_read_72 (lv_at hl 4 rfl) ?_
        refine lv_iconst (pc := 74) (v := (2 : Int32)) hx hb dX8_read_74 (by decide) ?_
        refine lv_iadd (pc := 75) hx hb dX8_read_75 ?_
        refine Cld_55 (pc := 76) X w h.1 dX8_read_76 ?_
        have h := h.2
        refine lv_aload_n (pc := 77) hx hb dX8_read_77 rfl (lv_at hl 2 rfl) ?_
        refine lv_iload (pc := 78) hx hb dX8_read_78 (lv_at hl 4 rfl) ?_
        refine lv_iconst (pc := 80) (v := (3 : Int32)) hx hb dX8_read_80 (by decide) ?_
        refine lv_iadd (pc := 81) hx hb dX8_read_81 ?_
        refine Cld_55 (pc := 82) X w h.1 dX8_read_82 ?_
        have h := h.2
        refine Ccalli (rest := []) (CrunV (pc := 83) X w (okX8_row l hJ h) kw462 kmX8_row ⟨rfl, rfl⟩ ⟨by decide, by decide⟩ (Crv_0 X w) rfl hl.1 rfl (Nat.le_of_ble_eq_true rfl) dX8_read_83) w (fun r2 u3 H locs h w => ?_)
        refine lv_if_ge (pc := 86) (tgt := 91) hx hb dX8_read_86 (by decide) (fun c_ => ?_) (fun c_ => ?_)
        · have h := h.1 c_
          obtain ⟨x3_4, e_⟩ : ∃ y : Int32, y = x3 + (1 : Int32) := ⟨_, rfl⟩
          have h := h x3_4 e_
          refine lv_iinc (pc := 91) (v := x3_4) (lv' := [(3, .int x3_4), (0, .ref (ad 0)), (1, .int x1), (2, .ref (ad 55)), (4, .int x4)]) hx hb dX8_read_91 hl (k := 3) rfl (by rw [e_]; rfl) (by decide) rfl (fun ls hl => ?_)
          obtain ⟨x4_5, e_⟩ : ∃ y : Int32, y = x4 + (4 : Int32) := ⟨_, rfl⟩
          have h := h x4_5 e_
          refine lv_iinc (pc := 94) (v := x4_5) (lv' := [(4, .int x4_5), (3, .int x3_4), (0, .ref (ad 0)), (1, .int x1), (2, .ref (ad 55))]) hx hb dX8_read_94 hl (k := 4) rfl (by rw [e_]; rfl) (by decide) rfl (fun ls hl => ?_)
          refine lv_goto (pc := 97) (tgt := 44) hx hb dX8_read_97 (by decide) ?_
          exact ih u3 x1 x3_4 x4_5 H locs ls h w (lv_sub hl [2, 3, 4, 1, 0] rfl)
        · have h := h.2 c_
          refine lv_iload_n (pc := 89) hx hb dX8_read_89 rfl (lv_at hl 3 rfl) ?_
          exact Ciret (pc := 90) X w h dX8_read_90
    · refine Caq_53 2 (by decide) (pc := 53) X w dX8_read_53 ?_
      refine Cgf_58_2 (pc := 54) X w kw446 dX8_read_54 ?_
      refine lv_icmp_gt (pc := 57) (tgt := 100) hx hb dX8_read_57 (by decide) (fun c_ => ?_) (fun c_ => ?_)
      · have h := h.1 c_
        refine lv_iload_n (pc := 100) hx hb dX8_read_100 rfl (lv_at hl 3 rfl) ?_
        exact Ciret (pc := 101) X w h dX8_read_101
      · have h := h.2 c_
        refine lv_aload_n (pc := 60) hx hb dX8_read_60 rfl (lv_at hl 0 rfl) ?_
        refine lv_aload_n (pc := 61) hx hb dX8_read_61 rfl (lv_at hl 2 rfl) ?_
        refine lv_iload (pc := 62) hx hb dX8_read_62 (lv_at hl 4 rfl) ?_
        refine Cld_55 (pc := 64) X w h.1 dX8_read_64 ?_
        have h := h.2
        refine lv_aload_n (pc := 65) hx hb dX8_read_65 rfl (lv_at hl 2 rfl) ?_
        refine lv_iload (pc := 66) hx hb dX8_read_66 (lv_at hl 4 rfl) ?_
        refine lv_iconst (pc := 68) (v := (1 : Int32)) hx hb dX8_read_68 (by decide) ?_
        refine lv_iadd (pc := 69) hx hb dX8_read_69 ?_
        refine Cld_55 (pc := 70) X w h.1 dX8_read_70 ?_
        have h := h.2
        refine lv_aload_n (pc := 71) hx hb dX8_read_71 rfl (lv_at hl 2 rfl) ?_
        refine lv_iload (pc := 72) hx hb dX8_read_72 (lv_at hl 4 rfl) ?_
        refine lv_iconst (pc := 74) (v := (2 : Int32)) hx hb dX8_read_74 (by decide) ?_
        refine lv_iadd (pc := 75) hx hb dX8_read_75 ?_
        refine Cld_55 (pc := 76) X w h.1 dX8_read_76 ?_
        have h := h.2
        refine lv_aload_n (pc := 77) hx hb dX8_read_77 rfl (lv_at hl 2 rfl) ?_
        refine lv_iload (pc := 78) hx hb dX8_read_78 (lv_at hl 4 rfl) ?_
        refine lv_iconst (pc := 80) (v := (3 : Int32)) hx hb dX8_read_80 (by decide) ?_
        refine lv_iadd (pc := 81) hx hb dX8_read_81 ?_
        refine Cld_55 (pc := 82) X w h.1 dX8_read_82 ?_
        have h := h.2
        refine Ccalli (rest := []) (CrunV (pc := 83) X w (okX8_row l hJ h) kw462 kmX8_row ⟨rfl, rfl⟩ ⟨by decide, by decide⟩ (Crv_0 X w) rfl hl.1 rfl (Nat.le_of_ble_eq_true rfl) dX8_read_83) w (fun r2 u3 H locs h w => ?_)
        refine lv_if_ge (pc := 86) (tgt := 91) hx hb dX8_read_86 (by decide) (fun c_ => ?_) (fun c_ => ?_)
        · have h := h.1 c_
          obtain ⟨x3_4, e_⟩ : ∃ y : Int32, y = x3 + (1 : Int32) := ⟨_, rfl⟩
          have h := h x3_4 e_
          refine lv_iinc (pc := 91) (v := x3_4) (lv' := [(3, .int x3_4), (0, .ref (ad 0)), (1, .int x1), (2, .ref (ad 55)), (4, .int x4)]) hx hb dX8_read_91 hl (k := 3) rfl (by rw [e_]; rfl) (by decide) rfl (fun ls hl => ?_)
          obtain ⟨x4_5, e_⟩ : ∃ y : Int32, y = x4 + (4 : Int32) := ⟨_, rfl⟩
          have h := h x4_5 e_
          refine lv_iinc (pc := 94) (v := x4_5) (lv' := [(4, .int x4_5), (3, .int x3_4), (0, .ref (ad 0)), (1, .int x1), (2, .ref (ad 55))]) hx hb dX8_read_94 hl (k := 4) rfl (by rw [e_]; rfl) (by decide) rfl (fun ls hl => ?_)
          refine lv_goto (pc := 97) (tgt := 44) hx hb dX8_read_97 (by decide) ?_
          exact ih u3 x1 x3_4 x4_5 H locs ls h w (lv_sub hl [2, 3, 4, 1, 0] rfl)
        · have h := h.2 c_
          refine lv_iload_n (pc := 89) hx hb dX8_read_89 rfl (lv_at hl 3 rfl) ?_
          exact Ciret (pc := 90) X w h dX8_read_90
    · refine Caq_53 3 (by decide) (pc := 53) X w dX8_read_53 ?_
      refine Cgf_60_2 (pc := 54) X w kw446 dX8_read_54 ?_
      refine lv_icmp_gt (pc := 57) (tgt := 100) hx hb dX8_read_57 (by decide) (fun c_ => ?_) (fun c_ => ?_)
      · have h := h.1 c_
        refine lv_iload_n (pc := 100) hx hb dX8_read_100 rfl (lv_at hl 3 rfl) ?_
        exact Ciret (pc := 101) X w h dX8_read_101
      · have h := h.2 c_
        refine lv_aload_n (pc := 60) hx hb dX8_read_60 rfl (lv_at hl 0 rfl) ?_
        refine lv_aload_n (pc := 61) hx hb dX8_read_61 rfl (lv_at hl 2 rfl) ?_
        refine lv_iload (pc := 62) hx hb dX8_read_62 (lv_at hl 4 rfl) ?_
        refine Cld_55 (pc := 64) X w h.1 dX8_read_64 ?_
        have h := h.2
        refine lv_aload_n (pc := 65) hx hb dX8_read_65 rfl (lv_at hl 2 rfl) ?_
        refine lv_iload (pc := 66) hx hb dX8_read_66 (lv_at hl 4 rfl) ?_
        refine lv_iconst (pc := 68) (v := (1 : Int32)) hx hb dX8_read_68 (by decide) ?_
        refine lv_iadd (pc := 69) hx hb dX8_read_69 ?_
        refine Cld_55 (pc := 70) X w h.1 dX8_read_70 ?_
        have h := h.2
        refine lv_aload_n (pc := 71) hx hb dX8_read_71 rfl (lv_at hl 2 rfl) ?_
        refine lv_iload (pc := 72) hx hb dX8_read_72 (lv_at hl 4 rfl) ?_
        refine lv_iconst (pc := 74) (v := (2 : Int32)) hx hb dX8_read_74 (by decide) ?_
        refine lv_iadd (pc := 75) hx hb dX8_read_75 ?_
        refine Cld_55 (pc := 76) X w h.1 dX8_read_76 ?_
        have h := h.2
        refine lv_aload_n (pc := 77) hx hb dX8_read_77 rfl (lv_at hl 2 rfl) ?_
        refine lv_iload (pc := 78) hx hb dX8_read_78 (lv_at hl 4 rfl) ?_
        refine lv_iconst (pc := 80) (v := (3 : Int32)) hx hb dX8_read_80 (by decide) ?_
        refine lv_iadd (pc := 81) hx hb dX8_read_81 ?_
        refine Cld_55 (pc := 82) X w h.1 dX8_read_82 ?_
        have h := h.2
        refine Ccalli (rest := []) (CrunV (pc := 83) X w (okX8_row l hJ h) kw462 kmX8_row ⟨rfl, rfl⟩ ⟨by decide, by decide⟩ (Crv_0 X w) rfl hl.1 rfl (Nat.le_of_ble_eq_true rfl) dX8_read_83) w (fun r2 u3 H locs h w => ?_)
        refine lv_if_ge (pc := 86) (tgt := 91) hx hb dX8_read_86 (by decide) (fun c_ => ?_) (fun c_ => ?_)
        · have h := h.1 c_
          obtain ⟨x3_4, e_⟩ : ∃ y : Int32, y = x3 + (1 : Int32) := ⟨_, rfl⟩
          have h := h x3_4 e_
          refine lv_iinc (pc := 91) (v := x3_4) (lv' := [(3, .int x3_4), (0, .ref (ad 0)), (1, .int x1), (2, .ref (ad 55)), (4, .int x4)]) hx hb dX8_read_91 hl (k := 3) rfl (by rw [e_]; rfl) (by decide) rfl (fun ls hl => ?_)
          obtain ⟨x4_5, e_⟩ : ∃ y : Int32, y = x4 + (4 : Int32) := ⟨_, rfl⟩
          have h := h x4_5 e_
          refine lv_iinc (pc := 94) (v := x4_5) (lv' := [(4, .int x4_5), (3, .int x3_4), (0, .ref (ad 0)), (1, .int x1), (2, .ref (ad 55))]) hx hb dX8_read_94 hl (k := 4) rfl (by rw [e_]; rfl) (by decide) rfl (fun ls hl => ?_)
          refine lv_goto (pc := 97) (tgt := 44) hx hb dX8_read_97 (by decide) ?_
          exact ih u3 x1 x3_4 x4_5 H locs ls h w (lv_sub hl [2, 3, 4, 1, 0] rfl)
        · have h := h.2 c_
          refine lv_iload_n (pc := 89) hx hb dX8_read_89 rfl (lv_at hl 3 rfl) ?_
          exact Ciret (pc := 90) X w h dX8_read_90
set_option maxHeartbeats 4000000 in
set_option maxRecDepth 100000 in
theorem bX8_read_44_1 {l : Launch} {p : Program} {e : Env} {s : State} {m : MethodId} {args : Array Value} {below : List Frame} {meth : Method} {c : Code} {D : va_G} {g : Nat → ClassId} {ad : Nat → Nat} {Q : Int32 → Mm → Prop} (X : CX p s m args meth c cX8_read RX8 5 (some .int) (Cond.code yX8_read cX8_read 5 (some .int)) D g ad (CA ad)) : ∀ (n : Nat) (u : Mm) (x1 : Int32) (x3 : Int32) (x4 : Int32) (H : Heap) (locs : List Loc) (ls : Array Slot), wX8_read_b44 Q n u x1 1 x3 x4 → CWd D g ad (CA ad) s u H locs → lv_has ls 5 [(0, .ref (ad 0)), (1, .int x1), (2, .ref (ad 57)), (3, .int x3), (4, .int x4)] → W p l e ({ frames := 4, cells := 0, slots := 0, locals := 84 } : Room) s m args below meth c H locs 0 0 (MQ below (va_Qi Q (CB D g ad) (CA ad)) args s 0 0 (CA ad)) (F0 m 44 ls []) := by
  obtain ⟨⟨hx, hb, hml, hown, hts⟩, hr, hlocks, hK, hJ, hAA⟩ := id X
  intro n
  induction n with
  | zero =>
    intro u x1 x3 x4 H locs ls h
    exact False.elim h
  | succ n ih =>
    intro u x1 x3 x4 H locs ls h w hl
    unfold wX8_read_b44 at h
    refine lv_iload (pc := 44) hx hb dX8_read_44 (lv_at hl 4 rfl) ?_
    refine lv_iconst (pc := 46) (v := (4 : Int32)) hx hb dX8_read_46 (by decide) ?_
    refine lv_iadd (pc := 47) hx hb dX8_read_47 ?_
    refine lv_aload_n (pc := 48) hx hb dX8_read_48 rfl (lv_at hl 0 rfl) ?_
    refine Cgf_0_6 (pc := 49) X w kw435 dX8_read_49 ?_
    refine lv_iload_n (pc := 52) hx hb dX8_read_52 rfl (lv_at hl 1 rfl) ?_
    obtain ⟨j1, hj_, e_⟩ := vp_in_of h.1 (by decide)
    have h := h.2 j1 hj_ e_
    refine W.eq (g2 := F0 m 53 ls (.int (nI j1) :: .ref (ad 53) :: .int (x4 + (4 : Int32)) :: [])) (by rw [e_]) ?_
    clear e_
    rcases (show j1 = 0 ∨ j1 = 1 ∨ j1 = 2 ∨ j1 = 3 by omega) with rfl | rfl | rfl | rfl
    · refine Caq_53 0 (by decide) (pc := 53) X w dX8_read_53 ?_
      refine Cgf_54_2 (pc := 54) X w kw446 dX8_read_54 ?_
      refine lv_icmp_gt (pc := 57) (tgt := 100) hx hb dX8_read_57 (by decide) (fun c_ => ?_) (fun c_ => ?_)
      · have h := h.1 c_
        refine lv_iload_n (pc := 100) hx hb dX8_read_100 rfl (lv_at hl 3 rfl) ?_
        exact Ciret (pc := 101) X w h dX8_read_101
      · have h := h.2 c_
        refine lv_aload_n (pc := 60) hx hb dX8_read_60 rfl (lv_at hl 0 rfl) ?_
        refine lv_aload_n (pc := 61) hx hb dX8_read_61 rfl (lv_at hl 2 rfl) ?_
        refine lv_iload (pc := 62) hx hb dX8_read_62 (lv_at hl 4 rfl) ?_
        refine Cld_57 (pc := 64) X w h.1 dX8_read_64 ?_
        have h := h.2
        refine lv_aload_n (pc := 65) hx hb dX8_read_65 rfl (lv_at hl 2 rfl) ?_
        refine lv_iload (pc := 66) hx hb dX8_read_66 (lv_at hl 4 rfl) ?_
        refine lv_iconst (pc := 68) (v := (1 : Int32)) hx hb dX8_read_68 (by decide) ?_
        refine lv_iadd (pc := 69) hx hb dX8_read_69 ?_
        refine Cld_57 (pc := 70) X w h.1 dX8_read_70 ?_
        have h := h.2
        refine lv_aload_n (pc := 71) hx hb dX8_read_71 rfl (lv_at hl 2 rfl) ?_
        refine lv_iload (pc := 72) hx hb dX8_read_72 (lv_at hl 4 rfl) ?_
        refine lv_iconst (pc := 74) (v := (2 : Int32)) hx hb dX8_read_74 (by decide) ?_
        refine lv_iadd (pc := 75) hx hb dX8_read_75 ?_
        refine Cld_57 (pc := 76) X w h.1 dX8_read_76 ?_
        have h := h.2
        refine lv_aload_n (pc := 77) hx hb dX8_read_77 rfl (lv_at hl 2 rfl) ?_
        refine lv_iload (pc := 78) hx hb dX8_read_78 (lv_at hl 4 rfl) ?_
        refine lv_iconst (pc := 80) (v := (3 : Int32)) hx hb dX8_read_80 (by decide) ?_
        refine lv_iadd (pc := 81) hx hb dX8_read_81 ?_
        refine Cld_57 (pc := 82) X w h.1 dX8_read_82 ?_
        have h := h.2
        refine Ccalli (rest := []) (CrunV (pc := 83) X w (okX8_row l hJ h) kw462 kmX8_row ⟨rfl, rfl⟩ ⟨by decide, by decide⟩ (Crv_0 X w) rfl hl.1 rfl (Nat.le_of_ble_eq_true rfl) dX8_read_83) w (fun r2 u3 H locs h w => ?_)
        refine lv_if_ge (pc := 86) (tgt := 91) hx hb dX8_read_86 (by decide) (fun c_ => ?_) (fun c_ => ?_)
        · have h := h.1 c_
          obtain ⟨x3_4, e_⟩ : ∃ y : Int32, y = x3 + (1 : Int32) := ⟨_, rfl⟩
          have h := h x3_4 e_
          refine lv_iinc (pc := 91) (v := x3_4) (lv' := [(3, .int x3_4), (0, .ref (ad 0)), (1, .int x1), (2, .ref (ad 57)), (4, .int x4)]) hx hb dX8_read_91 hl (k := 3) rfl (by rw [e_]; rfl) (by decide) rfl (fun ls hl => ?_)
          obtain ⟨x4_5, e_⟩ : ∃ y : Int32, y = x4 + (4 : Int32) := ⟨_, rfl⟩
          have h := h x4_5 e_
          refine lv_iinc (pc := 94) (v := x4_5) (lv' := [(4, .int x4_5), (3, .int x3_4), (0, .ref (ad 0)), (1, .int x1), (2, .ref (ad 57))]) hx hb dX8_read_94 hl (k := 4) rfl (by rw [e_]; rfl) (by decide) rfl (fun ls hl => ?_)
          refine lv_goto (pc := 97) (tgt := 44) hx hb dX8_read_97 (by decide) ?_
          exact ih u3 x1 x3_4 x4_5 H locs ls h w (lv_sub hl [2, 3, 4, 1, 0] rfl)
        · have h := h.2 c_
          refine lv_iload_n (pc := 89) hx hb dX8_read_89 rfl (lv_at hl 3 rfl) ?_
          exact Ciret (pc := 90) X w h dX8_read_90
    · refine Caq_53 1 (by decide) (pc := 53) X w dX8_read_53 ?_
      refine Cgf_56_2 (pc := 54) X w kw446 dX8_read_54 ?_
      refine lv_icmp_gt (pc := 57) (tgt := 100) hx hb dX8_read_57 (by decide) (fun c_ => ?_) (fun c_ => ?_)
      · have h := h.1 c_
        refine lv_iload_n (pc := 100) hx hb dX8_read_100 rfl (lv_at hl 3 rfl) ?_
        exact Ciret (pc := 101) X w h dX8_read_101
      · have h := h.2 c_
        refine lv_aload_n (pc := 60) hx hb dX8_read_60 rfl (lv_at hl 0 rfl) ?_
        refine lv_aload_n (pc := 61) hx hb dX8_read_61 rfl (lv_at hl 2 rfl) ?_
        refine lv_iload (pc := 62) hx hb dX8_read_62 (lv_at hl 4 rfl) ?_
        refine Cld_57 (pc := 64) X w h.1 dX8_read_64 ?_
        have h := h.2
        refine lv_aload_n (pc := 65) hx hb dX8_read_65 rfl (lv_at hl 2 rfl) ?_
        refine lv_iload (pc := 66) hx hb dX8_read_66 (lv_at hl 4 rfl) ?_
        refine lv_iconst (pc := 68) (v := (1 : Int32)) hx hb dX8_read_68 (by decide) ?_
        refine lv_iadd (pc := 69) hx hb dX8_read_69 ?_
        refine Cld_57 (pc := 70) X w h.1 dX8_read_70 ?_
        have h := h.2
        refine lv_aload_n (pc := 71) hx hb dX8_read_71 rfl (lv_at hl 2 rfl) ?_
        refine lv_iload (pc := 72) hx hb dX8_read_72 (lv_at hl 4 rfl) ?_
        refine lv_iconst (pc := 74) (v := (2 : Int32)) hx hb dX8_read_74 (by decide) ?_
        refine lv_iadd (pc := 75) hx hb dX8_read_75 ?_
        refine Cld_57 (pc := 76) X w h.1 dX8_read_76 ?_
        have h := h.2
        refine lv_aload_n (pc := 77) hx hb dX8_read_77 rfl (lv_at hl 2 rfl) ?_
        refine lv_iload (pc := 78) hx hb dX8_read_78 (lv_at hl 4 rfl) ?_
        refine lv_iconst (pc := 80) (v := (3 : Int32)) hx hb dX8_read_80 (by decide) ?_
        refine lv_iadd (pc := 81) hx hb dX8_read_81 ?_
        refine Cld_57 (pc := 82) X w h.1 dX8_read_82 ?_
        have h := h.2
        refine Ccalli (rest := []) (CrunV (pc := 83) X w (okX8_row l hJ h) kw462 kmX8_row ⟨rfl, rfl⟩ ⟨by decide, by decide⟩ (Crv_0 X w) rfl hl.1 rfl (Nat.le_of_ble_eq_true rfl) dX8_read_83) w (fun r2 u3 H locs h w => ?_)
        refine lv_if_ge (pc := 86) (tgt := 91) hx hb dX8_read_86 (by decide) (fun c_ => ?_) (fun c_ => ?_)
        · have h := h.1 c_
          obtain ⟨x3_4, e_⟩ : ∃ y : Int32, y = x3 + (1 : Int32) := ⟨_, rfl⟩
          have h := h x3_4 e_
          refine lv_iinc (pc := 91) (v := x3_4) (lv' := [(3, .int x3_4), (0, .ref (ad 0)), (1, .int x1), (2, .ref (ad 57)), (4, .int x4)]) hx hb dX8_read_91 hl (k := 3) rfl (by rw [e_]; rfl) (by decide) rfl (fun ls hl => ?_)
          obtain ⟨x4_5, e_⟩ : ∃ y : Int32, y = x4 + (4 : Int32) := ⟨_, rfl⟩
          have h := h x4_5 e_
          refine lv_iinc (pc := 94) (v := x4_5) (lv' := [(4, .int x4_5), (3, .int x3_4), (0, .ref (ad 0)), (1, .int x1), (2, .ref (ad 57))]) hx hb dX8_read_94 hl (k := 4) rfl (by rw [e_]; rfl) (by decide) rfl (fun ls hl => ?_)
          refine lv_goto (pc := 97) (tgt := 44) hx hb dX8_read_97 (by decide) ?_
          exact ih u3 x1 x3_4 x4_5 H locs ls h w (lv_sub hl [2, 3, 4, 1, 0] rfl)
        · have h := h.2 c_
          refine lv_iload_n (pc := 89) hx hb dX8_read_89 rfl (lv_at hl 3 rfl) ?_
          exact Ciret (pc := 90) X w h dX8_read_90
    · refine Caq_53 2 (by decide) (pc := 53) X w dX8_read_53 ?_
      refine Cgf_58_2 (pc := 54) X w kw446 dX8_read_54 ?_
      refine lv_icmp_gt (pc := 57) (tgt := 100) hx hb dX8_read_57 (by decide) (fun c_ => ?_) (fun c_ => ?_)
      · have h := h.1 c_
        refine lv_iload_n (pc := 100) hx hb dX8_read_100 rfl (lv_at hl 3 rfl) ?_
        exact Ciret (pc := 101) X w h dX8_read_101
      · have h := h.2 c_
        refine lv_aload_n (pc := 60) hx hb dX8_read_60 rfl (lv_at hl 0 rfl) ?_
        refine lv_aload_n (pc := 61) hx hb dX8_read_61 rfl (lv_at hl 2 rfl) ?_
        refine lv_iload (pc := 62) hx hb dX8_read_62 (lv_at hl 4 rfl) ?_
        refine Cld_57 (pc := 64) X w h.1 dX8_read_64 ?_
        have h := h.2
        refine lv_aload_n (pc := 65) hx hb dX8_read_65 rfl (lv_at hl 2 rfl) ?_
        refine lv_iload (pc := 66) hx hb dX8_read_66 (lv_at hl 4 rfl) ?_
        refine lv_iconst (pc := 68) (v := (1 : Int32)) hx hb dX8_read_68 (by decide) ?_
        refine lv_iadd (pc := 69) hx hb dX8_read_69 ?_
        refine Cld_57 (pc := 70) X w h.1 dX8_read_70 ?_
        have h := h.2
        refine lv_aload_n (pc := 71) hx hb dX8_read_71 rfl (lv_at hl 2 rfl) ?_
        refine lv_iload (pc := 72) hx hb dX8_read_72 (lv_at hl 4 rfl) ?_
        refine lv_iconst (pc := 74) (v := (2 : Int32)) hx hb dX8_read_74 (by decide) ?_
        refine lv_iadd (pc := 75) hx hb dX8_read_75 ?_
        refine Cld_57 (pc := 76) X w h.1 dX8_read_76 ?_
        have h := h.2
        refine lv_aload_n (pc := 77) hx hb dX8_read_77 rfl (lv_at hl 2 rfl) ?_
        refine lv_iload (pc := 78) hx hb dX8_read_78 (lv_at hl 4 rfl) ?_
        refine lv_iconst (pc := 80) (v := (3 : Int32)) hx hb dX8_read_80 (by decide) ?_
        refine lv_iadd (pc := 81) hx hb dX8_read_81 ?_
        refine Cld_57 (pc := 82) X w h.1 dX8_read_82 ?_
        have h := h.2
        refine Ccalli (rest := []) (CrunV (pc := 83) X w (okX8_row l hJ h) kw462 kmX8_row ⟨rfl, rfl⟩ ⟨by decide, by decide⟩ (Crv_0 X w) rfl hl.1 rfl (Nat.le_of_ble_eq_true rfl) dX8_read_83) w (fun r2 u3 H locs h w => ?_)
        refine lv_if_ge (pc := 86) (tgt := 91) hx hb dX8_read_86 (by decide) (fun c_ => ?_) (fun c_ => ?_)
        · have h := h.1 c_
          obtain ⟨x3_4, e_⟩ : ∃ y : Int32, y = x3 + (1 : Int32) := ⟨_, rfl⟩
          have h := h x3_4 e_
          refine lv_iinc (pc := 91) (v := x3_4) (lv' := [(3, .int x3_4), (0, .ref (ad 0)), (1, .int x1), (2, .ref (ad 57)), (4, .int x4)]) hx hb dX8_read_91 hl (k := 3) rfl (by rw [e_]; rfl) (by decide) rfl (fun ls hl => ?_)
          obtain ⟨x4_5, e_⟩ : ∃ y : Int32, y = x4 + (4 : Int32) := ⟨_, rfl⟩
          have h := h x4_5 e_
          refine lv_iinc (pc := 94) (v := x4_5) (lv' := [(4, .int x4_5), (3, .int x3_4), (0, .ref (ad 0)), (1, .int x1), (2, .ref (ad 57))]) hx hb dX8_read_94 hl (k := 4) rfl (by rw [e_]; rfl) (by decide) rfl (fun ls hl => ?_)
          refine lv_goto (pc := 97) (tgt := 44) hx hb dX8_read_97 (by decide) ?_
          exact ih u3 x1 x3_4 x4_5 H locs ls h w (lv_sub hl [2, 3, 4, 1, 0] rfl)
        · have h := h.2 c_
          refine lv_iload_n (pc := 89) hx hb dX8_read_89 rfl (lv_at hl 3 rfl) ?_
          exact Ciret (pc := 90) X w h dX8_read_90
    · refine Caq_53 3 (by decide) (pc := 53) X w dX8_read_53 ?_
      refine Cgf_60_2 (pc := 54) X w kw446 dX8_read_54 ?_
      refine lv_icmp_gt (pc := 57) (tgt := 100) hx hb dX8_read_57 (by decide) (fun c_ => ?_) (fun c_ => ?_)
      · have h := h.1 c_
        refine lv_iload_n (pc := 100) hx hb dX8_read_100 rfl (lv_at hl 3 rfl) ?_
        exact Ciret (pc := 101) X w h dX8_read_101
      · have h := h.2 c_
        refine lv_aload_n (pc := 60) hx hb dX8_read_60 rfl (lv_at hl 0 rfl) ?_
        refine lv_aload_n (pc := 61) hx hb dX8_read_61 rfl (lv_at hl 2 rfl) ?_
        refine lv_iload (pc := 62) hx hb dX8_read_62 (lv_at hl 4 rfl) ?_
        refine Cld_57 (pc := 64) X w h.1 dX8_read_64 ?_
        have h := h.2
        refine lv_aload_n (pc := 65) hx hb dX8_read_65 rfl (lv_at hl 2 rfl) ?_
        refine lv_iload (pc := 66) hx hb dX8_read_66 (lv_at hl 4 rfl) ?_
        refine lv_iconst (pc := 68) (v := (1 : Int32)) hx hb dX8_read_68 (by decide) ?_
        refine lv_iadd (pc := 69) hx hb dX8_read_69 ?_
        refine Cld_57 (pc := 70) X w h.1 dX8_read_70 ?_
        have h := h.2
        refine lv_aload_n (pc := 71) hx hb dX8_read_71 rfl (lv_at hl 2 rfl) ?_
        refine lv_iload (pc := 72) hx hb dX8_read_72 (lv_at hl 4 rfl) ?_
        refine lv_iconst (pc := 74) (v := (2 : Int32)) hx hb dX8_read_74 (by decide) ?_
        refine lv_iadd (pc := 75) hx hb dX8_read_75 ?_
        refine Cld_57 (pc := 76) X w h.1 dX8_read_76 ?_
        have h := h.2
        refine lv_aload_n (pc := 77) hx hb dX8_read_77 rfl (lv_at hl 2 rfl) ?_
        refine lv_iload (pc := 78) hx hb dX8_read_78 (lv_at hl 4 rfl) ?_
        refine lv_iconst (pc := 80) (v := (3 : Int32)) hx hb dX8_read_80 (by decide) ?_
        refine lv_iadd (pc := 81) hx hb dX8_read_81 ?_
        refine Cld_57 (pc := 82) X w h.1 dX8_read_82 ?_
        have h := h.2
        refine Ccalli (rest := []) (CrunV (pc := 83) X w (okX8_row l hJ h) kw462 kmX8_row ⟨rfl, rfl⟩ ⟨by decide, by decide⟩ (Crv_0 X w) rfl hl.1 rfl (Nat.le_of_ble_eq_true rfl) dX8_read_83) w (fun r2 u3 H locs h w => ?_)
        refine lv_if_ge (pc := 86) (tgt := 91) hx hb dX8_read_86 (by decide) (fun c_ => ?_) (fun c_ => ?_)
        · have h := h.1 c_
          obtain ⟨x3_4, e_⟩ : ∃ y : Int32, y = x3 + (1 : Int32) := ⟨_, rfl⟩
          have h := h x3_4 e_
          refine lv_iinc (pc := 91) (v := x3_4) (lv' := [(3, .int x3_4), (0, .ref (ad 0)), (1, .int x1), (2, .ref (ad 57)), (4, .int x4)]) hx hb dX8_read_91 hl (k := 3) rfl (by rw [e_]; rfl) (by decide) rfl (fun ls hl => ?_)
          obtain ⟨x4_5, e_⟩ : ∃ y : Int32, y = x4 + (4 : Int32) := ⟨_, rfl⟩
          have h := h x4_5 e_
          refine lv_iinc (pc := 94) (v := x4_5) (lv' := [(4, .int x4_5), (3, .int x3_4), (0, .ref (ad 0)), (1, .int x1), (2, .ref (ad 57))]) hx hb dX8_read_94 hl (k := 4) rfl (by rw [e_]; rfl) (by decide) rfl (fun ls hl => ?_)
          refine lv_goto (pc := 97) (tgt := 44) hx hb dX8_read_97 (by decide) ?_
          exact ih u3 x1 x3_4 x4_5 H locs ls h w (lv_sub hl [2, 3, 4, 1, 0] rfl)
        · have h := h.2 c_
          refine lv_iload_n (pc := 89) hx hb dX8_read_89 rfl (lv_at hl 3 rfl) ?_
          exact Ciret (pc := 90) X w h dX8_read_90
set_option maxHeartbeats 4000000 in
set_option maxRecDepth 100000 in
theorem bX8_read_44_2 {l : Launch} {p : Program} {e : Env} {s : State} {m : MethodId} {args : Array Value} {below : List Frame} {meth : Method} {c : Code} {D : va_G} {g : Nat → ClassId} {ad : Nat → Nat} {Q : Int32 → Mm → Prop} (X : CX p s m args meth c cX8_read RX8 5 (some .int) (Cond.code yX8_read cX8_read 5 (some .int)) D g ad (CA ad)) : ∀ (n : Nat) (u : Mm) (x1 : Int32) (x3 : Int32) (x4 : Int32) (H : Heap) (locs : List Loc) (ls : Array Slot), wX8_read_b44 Q n u x1 2 x3 x4 → CWd D g ad (CA ad) s u H locs → lv_has ls 5 [(0, .ref (ad 0)), (1, .int x1), (2, .ref (ad 59)), (3, .int x3), (4, .int x4)] → W p l e ({ frames := 4, cells := 0, slots := 0, locals := 84 } : Room) s m args below meth c H locs 0 0 (MQ below (va_Qi Q (CB D g ad) (CA ad)) args s 0 0 (CA ad)) (F0 m 44 ls []) := by
  obtain ⟨⟨hx, hb, hml, hown, hts⟩, hr, hlocks, hK, hJ, hAA⟩ := id X
  intro n
  induction n with
  | zero =>
    intro u x1 x3 x4 H locs ls h
    exact False.elim h
  | succ n ih =>
    intro u x1 x3 x4 H locs ls h w hl
    unfold wX8_read_b44 at h
    refine lv_iload (pc := 44) hx hb dX8_read_44 (lv_at hl 4 rfl) ?_
    refine lv_iconst (pc := 46) (v := (4 : Int32)) hx hb dX8_read_46 (by decide) ?_
    refine lv_iadd (pc := 47) hx hb dX8_read_47 ?_
    refine lv_aload_n (pc := 48) hx hb dX8_read_48 rfl (lv_at hl 0 rfl) ?_
    refine Cgf_0_6 (pc := 49) X w kw435 dX8_read_49 ?_
    refine lv_iload_n (pc := 52) hx hb dX8_read_52 rfl (lv_at hl 1 rfl) ?_
    obtain ⟨j1, hj_, e_⟩ := vp_in_of h.1 (by decide)
    have h := h.2 j1 hj_ e_
    refine W.eq (g2 := F0 m 53 ls (.int (nI j1) :: .ref (ad 53) :: .int (x4 + (4 : Int32)) :: [])) (by rw [e_]) ?_
    clear e_
    rcases (show j1 = 0 ∨ j1 = 1 ∨ j1 = 2 ∨ j1 = 3 by omega) with rfl | rfl | rfl | rfl
    · refine Caq_53 0 (by decide) (pc := 53) X w dX8_read_53 ?_
      refine Cgf_54_2 (pc := 54) X w kw446 dX8_read_54 ?_
      refine lv_icmp_gt (pc := 57) (tgt := 100) hx hb dX8_read_57 (by decide) (fun c_ => ?_) (fun c_ => ?_)
      · have h := h.1 c_
        refine lv_iload_n (pc := 100) hx hb dX8_read_100 rfl (lv_at hl 3 rfl) ?_
        exact Ciret (pc := 101) X w h dX8_read_101
      · have h := h.2 c_
        refine lv_aload_n (pc := 60) hx hb dX8_read_60 rfl (lv_at hl 0 rfl) ?_
        refine lv_aload_n (pc := 61) hx hb dX8_read_61 rfl (lv_at hl 2 rfl) ?_
        refine lv_iload (pc := 62) hx hb dX8_read_62 (lv_at hl 4 rfl) ?_
        refine Cld_59 (pc := 64) X w h.1 dX8_read_64 ?_
        have h := h.2
        refine lv_aload_n (pc := 65) hx hb dX8_read_65 rfl (lv_at hl 2 rfl) ?_
        refine lv_iload (pc := 66) hx hb dX8_read_66 (lv_at hl 4 rfl) ?_
        refine lv_iconst (pc := 68) (v := (1 : Int32)) hx hb dX8_read_68 (by decide) ?_
        refine lv_iadd (pc := 69) hx hb dX8_read_69 ?_
        refine Cld_59 (pc := 70) X w h.1 dX8_read_70 ?_
        have h := h.2
        refine lv_aload_n (pc := 71) hx hb dX8_read_71 rfl (lv_at hl 2 rfl) ?_
        refine lv_iload (pc := 72) hx hb dX8_read_72 (lv_at hl 4 rfl) ?_
        refine lv_iconst (pc := 74) (v := (2 : Int32)) hx hb dX8_read_74 (by decide) ?_
        refine lv_iadd (pc := 75) hx hb dX8_read_75 ?_
        refine Cld_59 (pc := 76) X w h.1 dX8_read_76 ?_
        have h := h.2
        refine lv_aload_n (pc := 77) hx hb dX8_read_77 rfl (lv_at hl 2 rfl) ?_
        refine lv_iload (pc := 78) hx hb dX8_read_78 (lv_at hl 4 rfl) ?_
        refine lv_iconst (pc := 80) (v := (3 : Int32)) hx hb dX8_read_80 (by decide) ?_
        refine lv_iadd (pc := 81) hx hb dX8_read_81 ?_
        refine Cld_59 (pc := 82) X w h.1 dX8_read_82 ?_
        have h := h.2
        refine Ccalli (rest := []) (CrunV (pc := 83) X w (okX8_row l hJ h) kw462 kmX8_row ⟨rfl, rfl⟩ ⟨by decide, by decide⟩ (Crv_0 X w) rfl hl.1 rfl (Nat.le_of_ble_eq_true rfl) dX8_read_83) w (fun r2 u3 H locs h w => ?_)
        refine lv_if_ge (pc := 86) (tgt := 91) hx hb dX8_read_86 (by decide) (fun c_ => ?_) (fun c_ => ?_)
        · have h := h.1 c_
          obtain ⟨x3_4, e_⟩ : ∃ y : Int32, y = x3 + (1 : Int32) := ⟨_, rfl⟩
          have h := h x3_4 e_
          refine lv_iinc (pc := 91) (v := x3_4) (lv' := [(3, .int x3_4), (0, .ref (ad 0)), (1, .int x1), (2, .ref (ad 59)), (4, .int x4)]) hx hb dX8_read_91 hl (k := 3) rfl (by rw [e_]; rfl) (by decide) rfl (fun ls hl => ?_)
          obtain ⟨x4_5, e_⟩ : ∃ y : Int32, y = x4 + (4 : Int32) := ⟨_, rfl⟩
          have h := h x4_5 e_
          refine lv_iinc (pc := 94) (v := x4_5) (lv' := [(4, .int x4_5), (3, .int x3_4), (0, .ref (ad 0)), (1, .int x1), (2, .ref (ad 59))]) hx hb dX8_read_94 hl (k := 4) rfl (by rw [e_]; rfl) (by decide) rfl (fun ls hl => ?_)
          refine lv_goto (pc := 97) (tgt := 44) hx hb dX8_read_97 (by decide) ?_
          exact ih u3 x1 x3_4 x4_5 H locs ls h w (lv_sub hl [2, 3, 4, 1, 0] rfl)
        · have h := h.2 c_
          refine lv_iload_n (pc := 89) hx hb dX8_read_89 rfl (lv_at hl 3 rfl) ?_
          exact Ciret (pc := 90) X w h dX8_read_90
    · refine Caq_53 1 (by decide) (pc := 53) X w dX8_read_53 ?_
      refine Cgf_56_2 (pc := 54) X w kw446 dX8_read_54 ?_
      refine lv_icmp_gt (pc := 57) (tgt := 100) hx hb dX8_read_57 (by decide) (fun c_ => ?_) (fun c_ => ?_)
      · have h := h.1 c_
        refine lv_iload_n (pc := 100) hx hb dX8_read_100 rfl (lv_at hl 3 rfl) ?_
        exact Ciret (pc := 101) X w h dX8_read_101
      · have h := h.2 c_
        refine lv_aload_n (pc := 60) hx hb dX8_read_60 rfl (lv_at hl 0 rfl) ?_
        refine lv_aload_n (pc := 61) hx hb dX8_read_61 rfl (lv_at hl 2 rfl) ?_
        refine lv_iload (pc := 62) hx hb dX8_read_62 (lv_at hl 4 rfl) ?_
        refine Cld_59 (pc := 64) X w h.1 dX8_read_64 ?_
        have h := h.2
        refine lv_aload_n (pc := 65) hx hb dX8_read_65 rfl (lv_at hl 2 rfl) ?_
        refine lv_iload (pc := 66) hx hb dX8_read_66 (lv_at hl 4 rfl) ?_
        refine lv_iconst (pc := 68) (v := (1 : Int32)) hx hb dX8_read_68 (by decide) ?_
        refine lv_iadd (pc := 69) hx hb dX8_read_69 ?_
        refine Cld_59 (pc := 70) X w h.1 dX8_read_70 ?_
        have h := h.2
        refine lv_aload_n (pc := 71) hx hb dX8_read_71 rfl (lv_at hl 2 rfl) ?_
        refine lv_iload (pc := 72) hx hb dX8_read_72 (lv_at hl 4 rfl) ?_
        refine lv_iconst (pc := 74) (v := (2 : Int32)) hx hb dX8_read_74 (by decide) ?_
        refine lv_iadd (pc := 75) hx hb dX8_read_75 ?_
        refine Cld_59 (pc := 76) X w h.1 dX8_read_76 ?_
        have h := h.2
        refine lv_aload_n (pc := 77) hx hb dX8_read_77 rfl (lv_at hl 2 rfl) ?_
        refine lv_iload (pc := 78) hx hb dX8_read_78 (lv_at hl 4 rfl) ?_
        refine lv_iconst (pc := 80) (v := (3 : Int32)) hx hb dX8_read_80 (by decide) ?_
        refine lv_iadd (pc := 81) hx hb dX8_read_81 ?_
        refine Cld_59 (pc := 82) X w h.1 dX8_read_82 ?_
        have h := h.2
        refine Ccalli (rest := []) (CrunV (pc := 83) X w (okX8_row l hJ h) kw462 kmX8_row ⟨rfl, rfl⟩ ⟨by decide, by decide⟩ (Crv_0 X w) rfl hl.1 rfl (Nat.le_of_ble_eq_true rfl) dX8_read_83) w (fun r2 u3 H locs h w => ?_)
        refine lv_if_ge (pc := 86) (tgt := 91) hx hb dX8_read_86 (by decide) (fun c_ => ?_) (fun c_ => ?_)
        · have h := h.1 c_
          obtain ⟨x3_4, e_⟩ : ∃ y : Int32, y = x3 + (1 : Int32) := ⟨_, rfl⟩
          have h := h x3_4 e_
          refine lv_iinc (pc := 91) (v := x3_4) (lv' := [(3, .int x3_4), (0, .ref (ad 0)), (1, .int x1), (2, .ref (ad 59)), (4, .int x4)]) hx hb dX8_read_91 hl (k := 3) rfl (by rw [e_]; rfl) (by decide) rfl (fun ls hl => ?_)
          obtain ⟨x4_5, e_⟩ : ∃ y : Int32, y = x4 + (4 : Int32) := ⟨_, rfl⟩
          have h := h x4_5 e_
          refine lv_iinc (pc := 94) (v := x4_5) (lv' := [(4, .int x4_5), (3, .int x3_4), (0, .ref (ad 0)), (1, .int x1), (2, .ref (ad 59))]) hx hb dX8_read_94 hl (k := 4) rfl (by rw [e_]; rfl) (by decide) rfl (fun ls hl => ?_)
          refine lv_goto (pc := 97) (tgt := 44) hx hb dX8_read_97 (by decide) ?_
          exact ih u3 x1 x3_4 x4_5 H locs ls h w (lv_sub hl [2, 3, 4, 1, 0] rfl)
        · have h := h.2 c_
          refine lv_iload_n (pc := 89) hx hb dX8_read_89 rfl (lv_at hl 3 rfl) ?_
          exact Ciret (pc := 90) X w h dX8_read_90
    · refine Caq_53 2 (by decide) (pc := 53) X w dX8_read_53 ?_
      refine Cgf_58_2 (pc := 54) X w kw446 dX8_read_54 ?_
      refine lv_icmp_gt (pc := 57) (tgt := 100) hx hb dX8_read_57 (by decide) (fun c_ => ?_) (fun c_ => ?_)
      · have h := h.1 c_
        refine lv_iload_n (pc := 100) hx hb dX8_read_100 rfl (lv_at hl 3 rfl) ?_
        exact Ciret (pc := 101) X w h dX8_read_101
      · have h := h.2 c_
        refine lv_aload_n (pc := 60) hx hb dX8_read_60 rfl (lv_at hl 0 rfl) ?_
        refine lv_aload_n (pc := 61) hx hb dX8_read_61 rfl (lv_at hl 2 rfl) ?_
        refine lv_iload (pc := 62) hx hb dX8_read_62 (lv_at hl 4 rfl) ?_
        refine Cld_59 (pc := 64) X w h.1 dX8_read_64 ?_
        have h := h.2
        refine lv_aload_n (pc := 65) hx hb dX8_read_65 rfl (lv_at hl 2 rfl) ?_
        refine lv_iload (pc := 66) hx hb dX8_read_66 (lv_at hl 4 rfl) ?_
        refine lv_iconst (pc := 68) (v := (1 : Int32)) hx hb dX8_read_68 (by decide) ?_
        refine lv_iadd (pc := 69) hx hb dX8_read_69 ?_
        refine Cld_59 (pc := 70) X w h.1 dX8_read_70 ?_
        have h := h.2
        refine lv_aload_n (pc := 71) hx hb dX8_read_71 rfl (lv_at hl 2 rfl) ?_
        refine lv_iload (pc := 72) hx hb dX8_read_72 (lv_at hl 4 rfl) ?_
        refine lv_iconst (pc := 74) (v := (2 : Int32)) hx hb dX8_read_74 (by decide) ?_
        refine lv_iadd (pc := 75) hx hb dX8_read_75 ?_
        refine Cld_59 (pc := 76) X w h.1 dX8_read_76 ?_
        have h := h.2
        refine lv_aload_n (pc := 77) hx hb dX8_read_77 rfl (lv_at hl 2 rfl) ?_
        refine lv_iload (pc := 78) hx hb dX8_read_78 (lv_at hl 4 rfl) ?_
        refine lv_iconst (pc := 80) (v := (3 : Int32)) hx hb dX8_read_80 (by decide) ?_
        refine lv_iadd (pc := 81) hx hb dX8_read_81 ?_
        refine Cld_59 (pc := 82) X w h.1 dX8_read_82 ?_
        have h := h.2
        refine Ccalli (rest := []) (CrunV (pc := 83) X w (okX8_row l hJ h) kw462 kmX8_row ⟨rfl, rfl⟩ ⟨by decide, by decide⟩ (Crv_0 X w) rfl hl.1 rfl (Nat.le_of_ble_eq_true rfl) dX8_read_83) w (fun r2 u3 H locs h w => ?_)
        refine lv_if_ge (pc := 86) (tgt := 91) hx hb dX8_read_86 (by decide) (fun c_ => ?_) (fun c_ => ?_)
        · have h := h.1 c_
          obtain ⟨x3_4, e_⟩ : ∃ y : Int32, y = x3 + (1 : Int32) := ⟨_, rfl⟩
          have h := h x3_4 e_
          refine lv_iinc (pc := 91) (v := x3_4) (lv' := [(3, .int x3_4), (0, .ref (ad 0)), (1, .int x1), (2, .ref (ad 59)), (4, .int x4)]) hx hb dX8_read_91 hl (k := 3) rfl (by rw [e_]; rfl) (by decide) rfl (fun ls hl => ?_)
          obtain ⟨x4_5, e_⟩ : ∃ y : Int32, y = x4 + (4 : Int32) := ⟨_, rfl⟩
          have h := h x4_5 e_
          refine lv_iinc (pc := 94) (v := x4_5) (lv' := [(4, .int x4_5), (3, .int x3_4), (0, .ref (ad 0)), (1, .int x1), (2, .ref (ad 59))]) hx hb dX8_read_94 hl (k := 4) rfl (by rw [e_]; rfl) (by decide) rfl (fun ls hl => ?_)
          refine lv_goto (pc := 97) (tgt := 44) hx hb dX8_read_97 (by decide) ?_
          exact ih u3 x1 x3_4 x4_5 H locs ls h w (lv_sub hl [2, 3, 4, 1, 0] rfl)
        · have h := h.2 c_
          refine lv_iload_n (pc := 89) hx hb dX8_read_89 rfl (lv_at hl 3 rfl) ?_
          exact Ciret (pc := 90) X w h dX8_read_90
    · refine Caq_53 3 (by decide) (pc := 53) X w dX8_read_53 ?_
      refine Cgf_60_2 (pc := 54) X w kw446 dX8_read_54 ?_
      refine lv_icmp_gt (pc := 57) (tgt := 100) hx hb dX8_read_57 (by decide) (fun c_ => ?_) (fun c_ => ?_)
      · have h := h.1 c_
        refine lv_iload_n (pc := 100) hx hb dX8_read_100 rfl (lv_at hl 3 rfl) ?_
        exact Ciret (pc := 101) X w h dX8_read_101
      · have h := h.2 c_
        refine lv_aload_n (pc := 60) hx hb dX8_read_60 rfl (lv_at hl 0 rfl) ?_
        refine lv_aload_n (pc := 61) hx hb dX8_read_61 rfl (lv_at hl 2 rfl) ?_
        refine lv_iload (pc := 62) hx hb dX8_read_62 (lv_at hl 4 rfl) ?_
        refine Cld_59 (pc := 64) X w h.1 dX8_read_64 ?_
        have h := h.2
        refine lv_aload_n (pc := 65) hx hb dX8_read_65 rfl (lv_at hl 2 rfl) ?_
        refine lv_iload (pc := 66) hx hb dX8_read_66 (lv_at hl 4 rfl) ?_
        refine lv_iconst (pc := 68) (v := (1 : Int32)) hx hb dX8_read_68 (by decide) ?_
        refine lv_iadd (pc := 69) hx hb dX8_read_69 ?_
        refine Cld_59 (pc := 70) X w h.1 dX8_read_70 ?_
        have h := h.2
        refine lv_aload_n (pc := 71) hx hb dX8_read_71 rfl (lv_at hl 2 rfl) ?_
        refine lv_iload (pc := 72) hx hb dX8_read_72 (lv_at hl 4 rfl) ?_
        refine lv_iconst (pc := 74) (v := (2 : Int32)) hx hb dX8_read_74 (by decide) ?_
        refine lv_iadd (pc := 75) hx hb dX8_read_75 ?_
        refine Cld_59 (pc := 76) X w h.1 dX8_read_76 ?_
        have h := h.2
        refine lv_aload_n (pc := 77) hx hb dX8_read_77 rfl (lv_at hl 2 rfl) ?_
        refine lv_iload (pc := 78) hx hb dX8_read_78 (lv_at hl 4 rfl) ?_
        refine lv_iconst (pc := 80) (v := (3 : Int32)) hx hb dX8_read_80 (by decide) ?_
        refine lv_iadd (pc := 81) hx hb dX8_read_81 ?_
        refine Cld_59 (pc := 82) X w h.1 dX8_read_82 ?_
        have h := h.2
        refine Ccalli (rest := []) (CrunV (pc := 83) X w (okX8_row l hJ h) kw462 kmX8_row ⟨rfl, rfl⟩ ⟨by decide, by decide⟩ (Crv_0 X w) rfl hl.1 rfl (Nat.le_of_ble_eq_true rfl) dX8_read_83) w (fun r2 u3 H locs h w => ?_)
        refine lv_if_ge (pc := 86) (tgt := 91) hx hb dX8_read_86 (by decide) (fun c_ => ?_) (fun c_ => ?_)
        · have h := h.1 c_
          obtain ⟨x3_4, e_⟩ : ∃ y : Int32, y = x3 + (1 : Int32) := ⟨_, rfl⟩
          have h := h x3_4 e_
          refine lv_iinc (pc := 91) (v := x3_4) (lv' := [(3, .int x3_4), (0, .ref (ad 0)), (1, .int x1), (2, .ref (ad 59)), (4, .int x4)]) hx hb dX8_read_91 hl (k := 3) rfl (by rw [e_]; rfl) (by decide) rfl (fun ls hl => ?_)
          obtain ⟨x4_5, e_⟩ : ∃ y : Int32, y = x4 + (4 : Int32) := ⟨_, rfl⟩
          have h := h x4_5 e_
          refine lv_iinc (pc := 94) (v := x4_5) (lv' := [(4, .int x4_5), (3, .int x3_4), (0, .ref (ad 0)), (1, .int x1), (2, .ref (ad 59))]) hx hb dX8_read_94 hl (k := 4) rfl (by rw [e_]; rfl) (by decide) rfl (fun ls hl => ?_)
          refine lv_goto (pc := 97) (tgt := 44) hx hb dX8_read_97 (by decide) ?_
          exact ih u3 x1 x3_4 x4_5 H locs ls h w (lv_sub hl [2, 3, 4, 1, 0] rfl)
        · have h := h.2 c_
          refine lv_iload_n (pc := 89) hx hb dX8_read_89 rfl (lv_at hl 3 rfl) ?_
          exact Ciret (pc := 90) X w h dX8_read_90
set_option maxHeartbeats 4000000 in
set_option maxRecDepth 100000 in
theorem bX8_read_44_3 {l : Launch} {p : Program} {e : Env} {s : State} {m : MethodId} {args : Array Value} {below : List Frame} {meth : Method} {c : Code} {D : va_G} {g : Nat → ClassId} {ad : Nat → Nat} {Q : Int32 → Mm → Prop} (X : CX p s m args meth c cX8_read RX8 5 (some .int) (Cond.code yX8_read cX8_read 5 (some .int)) D g ad (CA ad)) : ∀ (n : Nat) (u : Mm) (x1 : Int32) (x3 : Int32) (x4 : Int32) (H : Heap) (locs : List Loc) (ls : Array Slot), wX8_read_b44 Q n u x1 3 x3 x4 → CWd D g ad (CA ad) s u H locs → lv_has ls 5 [(0, .ref (ad 0)), (1, .int x1), (2, .ref (ad 61)), (3, .int x3), (4, .int x4)] → W p l e ({ frames := 4, cells := 0, slots := 0, locals := 84 } : Room) s m args below meth c H locs 0 0 (MQ below (va_Qi Q (CB D g ad) (CA ad)) args s 0 0 (CA ad)) (F0 m 44 ls []) := by
  obtain ⟨⟨hx, hb, hml, hown, hts⟩, hr, hlocks, hK, hJ, hAA⟩ := id X
  intro n
  induction n with
  | zero =>
    intro u x1 x3 x4 H locs ls h
    exact False.elim h
  | succ n ih =>
    intro u x1 x3 x4 H locs ls h w hl
    unfold wX8_read_b44 at h
    refine lv_iload (pc := 44) hx hb dX8_read_44 (lv_at hl 4 rfl) ?_
    refine lv_iconst (pc := 46) (v := (4 : Int32)) hx hb dX8_read_46 (by decide) ?_
    refine lv_iadd (pc := 47) hx hb dX8_read_47 ?_
    refine lv_aload_n (pc := 48) hx hb dX8_read_48 rfl (lv_at hl 0 rfl) ?_
    refine Cgf_0_6 (pc := 49) X w kw435 dX8_read_49 ?_
    refine lv_iload_n (pc := 52) hx hb dX8_read_52 rfl (lv_at hl 1 rfl) ?_
    obtain ⟨j1, hj_, e_⟩ := vp_in_of h.1 (by decide)
    have h := h.2 j1 hj_ e_
    refine W.eq (g2 := F0 m 53 ls (.int (nI j1) :: .ref (ad 53) :: .int (x4 + (4 : Int32)) :: [])) (by rw [e_]) ?_
    clear e_
    rcases (show j1 = 0 ∨ j1 = 1 ∨ j1 = 2 ∨ j1 = 3 by omega) with rfl | rfl | rfl | rfl
    · refine Caq_53 0 (by decide) (pc := 53) X w dX8_read_53 ?_
      refine Cgf_54_2 (pc := 54) X w kw446 dX8_read_54 ?_
      refine lv_icmp_gt (pc := 57) (tgt := 100) hx hb dX8_read_57 (by decide) (fun c_ => ?_) (fun c_ => ?_)
      · have h := h.1 c_
        refine lv_iload_n (pc := 100) hx hb dX8_read_100 rfl (lv_at hl 3 rfl) ?_
        exact Ciret (pc := 101) X w h dX8_read_101
      · have h := h.2 c_
        refine lv_aload_n (pc := 60) hx hb dX8_read_60 rfl (lv_at hl 0 rfl) ?_
        refine lv_aload_n (pc := 61) hx hb dX8_read_61 rfl (lv_at hl 2 rfl) ?_
        refine lv_iload (pc := 62) hx hb dX8_read_62 (lv_at hl 4 rfl) ?_
        refine Cld_61 (pc := 64) X w h.1 dX8_read_64 ?_
        have h := h.2
        refine lv_aload_n (pc := 65) hx hb dX8_read_65 rfl (lv_at hl 2 rfl) ?_
        refine lv_iload (pc := 66) hx hb dX8_read_66 (lv_at hl 4 rfl) ?_
        refine lv_iconst (pc := 68) (v := (1 : Int32)) hx hb dX8_read_68 (by decide) ?_
        refine lv_iadd (pc := 69) hx hb dX8_read_69 ?_
        refine Cld_61 (pc := 70) X w h.1 dX8_read_70 ?_
        have h := h.2
        refine lv_aload_n (pc := 71) hx hb dX8_read_71 rfl (lv_at hl 2 rfl) ?_
        refine lv_iload (pc := 72) hx hb dX8_read_72 (lv_at hl 4 rfl) ?_
        refine lv_iconst (pc := 74) (v := (2 : Int32)) hx hb dX8_read_74 (by decide) ?_
        refine lv_iadd (pc := 75) hx hb dX8_read_75 ?_
        refine Cld_61 (pc := 76) X w h.1 dX8_read_76 ?_
        have h := h.2
        refine lv_aload_n (pc := 77) hx hb dX8_read_77 rfl (lv_at hl 2 rfl) ?_
        refine lv_iload (pc := 78) hx hb dX8_read_78 (lv_at hl 4 rfl) ?_
        refine lv_iconst (pc := 80) (v := (3 : Int32)) hx hb dX8_read_80 (by decide) ?_
        refine lv_iadd (pc := 81) hx hb dX8_read_81 ?_
        refine Cld_61 (pc := 82) X w h.1 dX8_read_82 ?_
        have h := h.2
        refine Ccalli (rest := []) (CrunV (pc := 83) X w (okX8_row l hJ h) kw462 kmX8_row ⟨rfl, rfl⟩ ⟨by decide, by decide⟩ (Crv_0 X w) rfl hl.1 rfl (Nat.le_of_ble_eq_true rfl) dX8_read_83) w (fun r2 u3 H locs h w => ?_)
        refine lv_if_ge (pc := 86) (tgt := 91) hx hb dX8_read_86 (by decide) (fun c_ => ?_) (fun c_ => ?_)
        · have h := h.1 c_
          obtain ⟨x3_4, e_⟩ : ∃ y : Int32, y = x3 + (1 : Int32) := ⟨_, rfl⟩
          have h := h x3_4 e_
          refine lv_iinc (pc := 91) (v := x3_4) (lv' := [(3, .int x3_4), (0, .ref (ad 0)), (1, .int x1), (2, .ref (ad 61)), (4, .int x4)]) hx hb dX8_read_91 hl (k := 3) rfl (by rw [e_]; rfl) (by decide) rfl (fun ls hl => ?_)
          obtain ⟨x4_5, e_⟩ : ∃ y : Int32, y = x4 + (4 : Int32) := ⟨_, rfl⟩
          have h := h x4_5 e_
          refine lv_iinc (pc := 94) (v := x4_5) (lv' := [(4, .int x4_5), (3, .int x3_4), (0, .ref (ad 0)), (1, .int x1), (2, .ref (ad 61))]) hx hb dX8_read_94 hl (k := 4) rfl (by rw [e_]; rfl) (by decide) rfl (fun ls hl => ?_)
          refine lv_goto (pc := 97) (tgt := 44) hx hb dX8_read_97 (by decide) ?_
          exact ih u3 x1 x3_4 x4_5 H locs ls h w (lv_sub hl [2, 3, 4, 1, 0] rfl)
        · have h := h.2 c_
          refine lv_iload_n (pc := 89) hx hb dX8_read_89 rfl (lv_at hl 3 rfl) ?_
          exact Ciret (pc := 90) X w h dX8_read_90
    · refine Caq_53 1 (by decide) (pc := 53) X w dX8_read_53 ?_
      refine Cgf_56_2 (pc := 54) X w kw446 dX8_read_54 ?_
      refine lv_icmp_gt (pc := 57) (tgt := 100) hx hb dX8_read_57 (by decide) (fun c_ => ?_) (fun c_ => ?_)
      · have h := h.1 c_
        refine lv_iload_n (pc := 100) hx hb dX8_read_100 rfl (lv_at hl 3 rfl) ?_
        exact Ciret (pc := 101) X w h dX8_read_101
      · have h := h.2 c_
        refine lv_aload_n (pc := 60) hx hb dX8_read_60 rfl (lv_at hl 0 rfl) ?_
        refine lv_aload_n (pc := 61) hx hb dX8_read_61 rfl (lv_at hl 2 rfl) ?_
        refine lv_iload (pc := 62) hx hb dX8_read_62 (lv_at hl 4 rfl) ?_
        refine Cld_61 (pc := 64) X w h.1 dX8_read_64 ?_
        have h := h.2
        refine lv_aload_n (pc := 65) hx hb dX8_read_65 rfl (lv_at hl 2 rfl) ?_
        refine lv_iload (pc := 66) hx hb dX8_read_66 (lv_at hl 4 rfl) ?_
        refine lv_iconst (pc := 68) (v := (1 : Int32)) hx hb dX8_read_68 (by decide) ?_
        refine lv_iadd (pc := 69) hx hb dX8_read_69 ?_
        refine Cld_61 (pc := 70) X w h.1 dX8_read_70 ?_
        have h := h.2
        refine lv_aload_n (pc := 71) hx hb dX8_read_71 rfl (lv_at hl 2 rfl) ?_
        refine lv_iload (pc := 72) hx hb dX8_read_72 (lv_at hl 4 rfl) ?_
        refine lv_iconst (pc := 74) (v := (2 : Int32)) hx hb dX8_read_74 (by decide) ?_
        refine lv_iadd (pc := 75) hx hb dX8_read_75 ?_
        refine Cld_61 (pc := 76) X w h.1 dX8_read_76 ?_
        have h := h.2
        refine lv_aload_n (pc := 77) hx hb dX8_read_77 rfl (lv_at hl 2 rfl) ?_
        refine lv_iload (pc := 78) hx hb dX8_read_78 (lv_at hl 4 rfl) ?_
        refine lv_iconst (pc := 80) (v := (3 : Int32)) hx hb dX8_read_80 (by decide) ?_
        refine lv_iadd (pc := 81) hx hb dX8_read_81 ?_
        refine Cld_61 (pc := 82) X w h.1 dX8_read_82 ?_
        have h := h.2
        refine Ccalli (rest := []) (CrunV (pc := 83) X w (okX8_row l hJ h) kw462 kmX8_row ⟨rfl, rfl⟩ ⟨by decide, by decide⟩ (Crv_0 X w) rfl hl.1 rfl (Nat.le_of_ble_eq_true rfl) dX8_read_83) w (fun r2 u3 H locs h w => ?_)
        refine lv_if_ge (pc := 86) (tgt := 91) hx hb dX8_read_86 (by decide) (fun c_ => ?_) (fun c_ => ?_)
        · have h := h.1 c_
          obtain ⟨x3_4, e_⟩ : ∃ y : Int32, y = x3 + (1 : Int32) := ⟨_, rfl⟩
          have h := h x3_4 e_
          refine lv_iinc (pc := 91) (v := x3_4) (lv' := [(3, .int x3_4), (0, .ref (ad 0)), (1, .int x1), (2, .ref (ad 61)), (4, .int x4)]) hx hb dX8_read_91 hl (k := 3) rfl (by rw [e_]; rfl) (by decide) rfl (fun ls hl => ?_)
          obtain ⟨x4_5, e_⟩ : ∃ y : Int32, y = x4 + (4 : Int32) := ⟨_, rfl⟩
          have h := h x4_5 e_
          refine lv_iinc (pc := 94) (v := x4_5) (lv' := [(4, .int x4_5), (3, .int x3_4), (0, .ref (ad 0)), (1, .int x1), (2, .ref (ad 61))]) hx hb dX8_read_94 hl (k := 4) rfl (by rw [e_]; rfl) (by decide) rfl (fun ls hl => ?_)
          refine lv_goto (pc := 97) (tgt := 44) hx hb dX8_read_97 (by decide) ?_
          exact ih u3 x1 x3_4 x4_5 H locs ls h w (lv_sub hl [2, 3, 4, 1, 0] rfl)
        · have h := h.2 c_
          refine lv_iload_n (pc := 89) hx hb dX8_read_89 rfl (lv_at hl 3 rfl) ?_
          exact Ciret (pc := 90) X w h dX8_read_90
    · refine Caq_53 2 (by decide) (pc := 53) X w dX8_read_53 ?_
      refine Cgf_58_2 (pc := 54) X w kw446 dX8_read_54 ?_
      refine lv_icmp_gt (pc := 57) (tgt := 100) hx hb dX8_read_57 (by decide) (fun c_ => ?_) (fun c_ => ?_)
      · have h := h.1 c_
        refine lv_iload_n (pc := 100) hx hb dX8_read_100 rfl (lv_at hl 3 rfl) ?_
        exact Ciret (pc := 101) X w h dX8_read_101
      · have h := h.2 c_
        refine lv_aload_n (pc := 60) hx hb dX8_read_60 rfl (lv_at hl 0 rfl) ?_
        refine lv_aload_n (pc := 61) hx hb dX8_read_61 rfl (lv_at hl 2 rfl) ?_
        refine lv_iload (pc := 62) hx hb dX8_read_62 (lv_at hl 4 rfl) ?_
        refine Cld_61 (pc := 64) X w h.1 dX8_read_64 ?_
        have h := h.2
        refine lv_aload_n (pc := 65) hx hb dX8_read_65 rfl (lv_at hl 2 rfl) ?_
        refine lv_iload (pc := 66) hx hb dX8_read_66 (lv_at hl 4 rfl) ?_
        refine lv_iconst (pc := 68) (v := (1 : Int32)) hx hb dX8_read_68 (by decide) ?_
        refine lv_iadd (pc := 69) hx hb dX8_read_69 ?_
        refine Cld_61 (pc := 70) X w h.1 dX8_read_70 ?_
        have h := h.2
        refine lv_aload_n (pc := 71) hx hb dX8_read_71 rfl (lv_at hl 2 rfl) ?_
        refine lv_iload (pc := 72) hx hb dX8_read_72 (lv_at hl 4 rfl) ?_
        refine lv_iconst (pc := 74) (v := (2 : Int32)) hx hb dX8_read_74 (by decide) ?_
        refine lv_iadd (pc := 75) hx hb dX8_read_75 ?_
        refine Cld_61 (pc := 76) X w h.1 dX8_read_76 ?_
        have h := h.2
        refine lv_aload_n (pc := 77) hx hb dX8_read_77 rfl (lv_at hl 2 rfl) ?_
        refine lv_iload (pc := 78) hx hb dX8_read_78 (lv_at hl 4 rfl) ?_
        refine lv_iconst (pc := 80) (v := (3 : Int32)) hx hb dX8_read_80 (by decide) ?_
        refine lv_iadd (pc := 81) hx hb dX8_read_81 ?_
        refine Cld_61 (pc := 82) X w h.1 dX8_read_82 ?_
        have h := h.2
        refine Ccalli (rest := []) (CrunV (pc := 83) X w (okX8_row l hJ h) kw462 kmX8_row ⟨rfl, rfl⟩ ⟨by decide, by decide⟩ (Crv_0 X w) rfl hl.1 rfl (Nat.le_of_ble_eq_true rfl) dX8_read_83) w (fun r2 u3 H locs h w => ?_)
        refine lv_if_ge (pc := 86) (tgt := 91) hx hb dX8_read_86 (by decide) (fun c_ => ?_) (fun c_ => ?_)
        · have h := h.1 c_
          obtain ⟨x3_4, e_⟩ : ∃ y : Int32, y = x3 + (1 : Int32) := ⟨_, rfl⟩
          have h := h x3_4 e_
          refine lv_iinc (pc := 91) (v := x3_4) (lv' := [(3, .int x3_4), (0, .ref (ad 0)), (1, .int x1), (2, .ref (ad 61)), (4, .int x4)]) hx hb dX8_read_91 hl (k := 3) rfl (by rw [e_]; rfl) (by decide) rfl (fun ls hl => ?_)
          obtain ⟨x4_5, e_⟩ : ∃ y : Int32, y = x4 + (4 : Int32) := ⟨_, rfl⟩
          have h := h x4_5 e_
          refine lv_iinc (pc := 94) (v := x4_5) (lv' := [(4, .int x4_5), (3, .int x3_4), (0, .ref (ad 0)), (1, .int x1), (2, .ref (ad 61))]) hx hb dX8_read_94 hl (k := 4) rfl (by rw [e_]; rfl) (by decide) rfl (fun ls hl => ?_)
          refine lv_goto (pc := 97) (tgt := 44) hx hb dX8_read_97 (by decide) ?_
          exact ih u3 x1 x3_4 x4_5 H locs ls h w (lv_sub hl [2, 3, 4, 1, 0] rfl)
        · have h := h.2 c_
          refine lv_iload_n (pc := 89) hx hb dX8_read_89 rfl (lv_at hl 3 rfl) ?_
          exact Ciret (pc := 90) X w h dX8_read_90
    · refine Caq_53 3 (by decide) (pc := 53) X w dX8_read_53 ?_
      refine Cgf_60_2 (pc := 54) X w kw446 dX8_read_54 ?_
      refine lv_icmp_gt (pc := 57) (tgt := 100) hx hb dX8_read_57 (by decide) (fun c_ => ?_) (fun c_ => ?_)
      · have h := h.1 c_
        refine lv_iload_n (pc := 100) hx hb dX8_read_100 rfl (lv_at hl 3 rfl) ?_
        exact Ciret (pc := 101) X w h dX8_read_101
      · have h := h.2 c_
        refine lv_aload_n (pc := 60) hx hb dX8_read_60 rfl (lv_at hl 0 rfl) ?_
        refine lv_aload_n (pc := 61) hx hb dX8_read_61 rfl (lv_at hl 2 rfl) ?_
        refine lv_iload (pc := 62) hx hb dX8_read_62 (lv_at hl 4 rfl) ?_
        refine Cld_61 (pc := 64) X w h.1 dX8_read_64 ?_
        have h := h.2
        refine lv_aload_n (pc := 65) hx hb dX8_read_65 rfl (lv_at hl 2 rfl) ?_
        refine lv_iload (pc := 66) hx hb dX8_read_66 (lv_at hl 4 rfl) ?_
        refine lv_iconst (pc := 68) (v := (1 : Int32)) hx hb dX8_read_68 (by decide) ?_
        refine lv_iadd (pc := 69) hx hb dX8_read_69 ?_
        refine Cld_61 (pc := 70) X w h.1 dX8_read_70 ?_
        have h := h.2
        refine lv_aload_n (pc := 71) hx hb dX8_read_71 rfl (lv_at hl 2 rfl) ?_
        refine lv_iload (pc := 72) hx hb dX8_read_72 (lv_at hl 4 rfl) ?_
        refine lv_iconst (pc := 74) (v := (2 : Int32)) hx hb dX8_read_74 (by decide) ?_
        refine lv_iadd (pc := 75) hx hb dX8_read_75 ?_
        refine Cld_61 (pc := 76) X w h.1 dX8_read_76 ?_
        have h := h.2
        refine lv_aload_n (pc := 77) hx hb dX8_read_77 rfl (lv_at hl 2 rfl) ?_
        refine lv_iload (pc := 78) hx hb dX8_read_78 (lv_at hl 4 rfl) ?_
        refine lv_iconst (pc := 80) (v := (3 : Int32)) hx hb dX8_read_80 (by decide) ?_
        refine lv_iadd (pc := 81) hx hb dX8_read_81 ?_
        refine Cld_61 (pc := 82) X w h.1 dX8_read_82 ?_
        have h := h.2
        refine Ccalli (rest := []) (CrunV (pc := 83) X w (okX8_row l hJ h) kw462 kmX8_row ⟨rfl, rfl⟩ ⟨by decide, by decide⟩ (Crv_0 X w) rfl hl.1 rfl (Nat.le_of_ble_eq_true rfl) dX8_read_83) w (fun r2 u3 H locs h w => ?_)
        refine lv_if_ge (pc := 86) (tgt := 91) hx hb dX8_read_86 (by decide) (fun c_ => ?_) (fun c_ => ?_)
        · have h := h.1 c_
          obtain ⟨x3_4, e_⟩ : ∃ y : Int32, y = x3 + (1 : Int32) := ⟨_, rfl⟩
          have h := h x3_4 e_
          refine lv_iinc (pc := 91) (v := x3_4) (lv' := [(3, .int x3_4), (0, .ref (ad 0)), (1, .int x1), (2, .ref (ad 61)), (4, .int x4)]) hx hb dX8_read_91 hl (k := 3) rfl (by rw [e_]; rfl) (by decide) rfl (fun ls hl => ?_)
          obtain ⟨x4_5, e_⟩ : ∃ y : Int32, y = x4 + (4 : Int32) := ⟨_, rfl⟩
          have h := h x4_5 e_
          refine lv_iinc (pc := 94) (v := x4_5) (lv' := [(4, .int x4_5), (3, .int x3_4), (0, .ref (ad 0)), (1, .int x1), (2, .ref (ad 61))]) hx hb dX8_read_94 hl (k := 4) rfl (by rw [e_]; rfl) (by decide) rfl (fun ls hl => ?_)
          refine lv_goto (pc := 97) (tgt := 44) hx hb dX8_read_97 (by decide) ?_
          exact ih u3 x1 x3_4 x4_5 H locs ls h w (lv_sub hl [2, 3, 4, 1, 0] rfl)
        · have h := h.2 c_
          refine lv_iload_n (pc := 89) hx hb dX8_read_89 rfl (lv_at hl 3 rfl) ?_
          exact Ciret (pc := 90) X w h dX8_read_90
set_option maxHeartbeats 4000000 in
set_option maxRecDepth 100000 in
theorem okX8_read (l : Launch) {D : va_G} {g : Nat → ClassId} {ad : Nat → Nat} (hJ : CJ ad) {u : Mm} {a1 : Int32} {Q : Int32 → Mm → Prop} (h : wX8_read u a1 Q) : Met l yX8_read (Cond.code yX8_read cX8_read 5 (some .int) :: gt) ({ frames := 4, cells := 0, slots := 0, locals := 84 } : Room) (CPc D g ad u [.ref (ad 0), .int a1]) (va_Qi Q (CB D g ad) (CA ad)) 0 0 (CA ad) := by
  refine Met.ofW (cc := cX8_read) (maxL := 5) (ret := (some .int)) (by decide) rfl ?_
  intro p e s m args below meth c s₁ B hml hv
  refine Centry (own := RX8) B hml hv hJ rfl (Nat.le_of_ble_eq_true rfl) (fun ls H locs X w hl => ?_)
  obtain ⟨⟨hx, hb, hml, hown, hts⟩, hr, hlocks, hK, hJ, hAA⟩ := id X
  have hl : lv_has ls 5 [(0, .ref (ad 0)), (1, .int a1)] := hl
  unfold wX8_read at h
  refine lv_iload_n (pc := 0) hx hb dX8_read_0 rfl (lv_at hl 1 rfl) ?_
  refine lv_iconst (pc := 1) (v := (4 : Int32)) hx hb dX8_read_1 (by decide) ?_
  refine Ccalli (rest := []) (CrunS (pc := 2) X w (okX8_below l hJ h) kw23 kmX8_below ⟨rfl, rfl⟩ ⟨by decide, by decide⟩ rfl hl.1 rfl (Nat.le_of_ble_eq_true rfl) dX8_read_2) w (fun r1 u9_ H locs h w => ?_)
  obtain ⟨hz_r1, h⟩ := h
  obtain ⟨rfl, h⟩ := h
  refine lv_if_ne (pc := 5) (tgt := 11) hx hb dX8_read_5 (by decide) (fun c_ => ?_) (fun c_ => ?_)
  · have h := h.2 c_
    refine lv_aload_n (pc := 11) hx hb dX8_read_11 rfl (lv_at hl 0 rfl) ?_
    refine Cgf_0_6 (pc := 12) X w kw435 dX8_read_12 ?_
    refine lv_iload_n (pc := 15) hx hb dX8_read_15 rfl (lv_at hl 1 rfl) ?_
    obtain ⟨j2, hj_, e_⟩ := vp_in_of h.1 (by decide)
    have h := h.2 j2 hj_ e_
    refine W.eq (g2 := F0 m 16 ls (.int (nI j2) :: .ref (ad 53) :: [])) (by rw [e_]) ?_
    clear e_
    rcases (show j2 = 0 ∨ j2 = 1 ∨ j2 = 2 ∨ j2 = 3 by omega) with rfl | rfl | rfl | rfl
    · refine Caq_53 0 (by decide) (pc := 16) X w dX8_read_16 ?_
      refine Cgf_54_3 (pc := 17) X w kw445 dX8_read_17 ?_
      refine lv_if_eq (pc := 20) (tgt := 29) hx hb dX8_read_20 (by decide) (fun c_ => ?_) (fun c_ => ?_)
      · have h := h.1 c_
        refine lv_aload_n (pc := 29) hx hb dX8_read_29 rfl (lv_at hl 0 rfl) ?_
        refine Cgf_0_6 (pc := 30) X w kw435 dX8_read_30 ?_
        refine lv_iload_n (pc := 33) hx hb dX8_read_33 rfl (lv_at hl 1 rfl) ?_
        obtain ⟨j3, hj_, e_⟩ := vp_in_of h.1 (by decide)
        have h := h.2 j3 hj_ e_
        refine W.eq (g2 := F0 m 34 ls (.int (nI j3) :: .ref (ad 53) :: [])) (by rw [e_]) ?_
        clear e_
        rcases (show j3 = 0 ∨ j3 = 1 ∨ j3 = 2 ∨ j3 = 3 by omega) with rfl | rfl | rfl | rfl
        · refine Caq_53 0 (by decide) (pc := 34) X w dX8_read_34 ?_
          refine Cgf_54_0 (pc := 35) X w kw456 dX8_read_35 ?_
          refine lv_astore_n (pc := 38) (lv' := [(2, .ref (ad 55)), (0, .ref (ad 0)), (1, .int a1)]) hx hb dX8_read_38 rfl hl (by decide) rfl (fun ls hl => ?_)
          refine lv_iconst (pc := 39) (v := (0 : Int32)) hx hb dX8_read_39 (by decide) ?_
          refine lv_istore_n (pc := 40) (lv' := [(3, .int (0 : Int32)), (2, .ref (ad 55)), (0, .ref (ad 0)), (1, .int a1)]) hx hb dX8_read_40 rfl hl (by decide) rfl (fun ls hl => ?_)
          refine lv_iconst (pc := 41) (v := (0 : Int32)) hx hb dX8_read_41 (by decide) ?_
          refine lv_istore (pc := 42) (lv' := [(4, .int (0 : Int32)), (3, .int (0 : Int32)), (2, .ref (ad 55)), (0, .ref (ad 0)), (1, .int a1)]) hx hb dX8_read_42 hl (by decide) rfl (fun ls hl => ?_)
          obtain ⟨n9, h⟩ := h
          exact bX8_read_44_0 X n9 u a1 (0 : Int32) (0 : Int32) H locs ls h w (lv_sub hl [3, 4, 2, 1, 0] rfl)
        · refine Caq_53 1 (by decide) (pc := 34) X w dX8_read_34 ?_
          refine Cgf_56_0 (pc := 35) X w kw456 dX8_read_35 ?_
          refine lv_astore_n (pc := 38) (lv' := [(2, .ref (ad 57)), (0, .ref (ad 0)), (1, .int a1)]) hx hb dX8_read_38 rfl hl (by decide) rfl (fun ls hl => ?_)
          refine lv_iconst (pc := 39) (v := (0 : Int32)) hx hb dX8_read_39 (by decide) ?_
          refine lv_istore_n (pc := 40) (lv' := [(3, .int (0 : Int32)), (2, .ref (ad 57)), (0, .ref (ad 0)), (1, .int a1)]) hx hb dX8_read_40 rfl hl (by decide) rfl (fun ls hl => ?_)
          refine lv_iconst (pc := 41) (v := (0 : Int32)) hx hb dX8_read_41 (by decide) ?_
          refine lv_istore (pc := 42) (lv' := [(4, .int (0 : Int32)), (3, .int (0 : Int32)), (2, .ref (ad 57)), (0, .ref (ad 0)), (1, .int a1)]) hx hb dX8_read_42 hl (by decide) rfl (fun ls hl => ?_)
          obtain ⟨n9, h⟩ := h
          exact bX8_read_44_1 X n9 u a1 (0 : Int32) (0 : Int32) H locs ls h w (lv_sub hl [3, 4, 2, 1, 0] rfl)
        · refine Caq_53 2 (by decide) (pc := 34) X w dX8_read_34 ?_
          refine Cgf_58_0 (pc := 35) X w kw456 dX8_read_35 ?_
          refine lv_astore_n (pc := 38) (lv' := [(2, .ref (ad 59)), (0, .ref (ad 0)), (1, .int a1)]) hx hb dX8_read_38 rfl hl (by decide) rfl (fun ls hl => ?_)
          refine lv_iconst (pc := 39) (v := (0 : Int32)) hx hb dX8_read_39 (by decide) ?_
          refine lv_istore_n (pc := 40) (lv' := [(3, .int (0 : Int32)), (2, .ref (ad 59)), (0, .ref (ad 0)), (1, .int a1)]) hx hb dX8_read_40 rfl hl (by decide) rfl (fun ls hl => ?_)
          refine lv_iconst (pc := 41) (v := (0 : Int32)) hx hb dX8_read_41 (by decide) ?_
          refine lv_istore (pc := 42) (lv' := [(4, .int (0 : Int32)), (3, .int (0 : Int32)), (2, .ref (ad 59)), (0, .ref (ad 0)), (1, .int a1)]) hx hb dX8_read_42 hl (by decide) rfl (fun ls hl => ?_)
          obtain ⟨n9, h⟩ := h
          exact bX8_read_44_2 X n9 u a1 (0 : Int32) (0 : Int32) H locs ls h w (lv_sub hl [3, 4, 2, 1, 0] rfl)
        · refine Caq_53 3 (by decide) (pc := 34) X w dX8_read_34 ?_
          refine Cgf_60_0 (pc := 35) X w kw456 dX8_read_35 ?_
          refine lv_astore_n (pc := 38) (lv' := [(2, .ref (ad 61)), (0, .ref (ad 0)), (1, .int a1)]) hx hb dX8_read_38 rfl hl (by decide) rfl (fun ls hl => ?_)
          refine lv_iconst (pc := 39) (v := (0 : Int32)) hx hb dX8_read_39 (by decide) ?_
          refine lv_istore_n (pc := 40) (lv' := [(3, .int (0 : Int32)), (2, .ref (ad 61)), (0, .ref (ad 0)), (1, .int a1)]) hx hb dX8_read_40 rfl hl (by decide) rfl (fun ls hl => ?_)
          refine lv_iconst (pc := 41) (v := (0 : Int32)) hx hb dX8_read_41 (by decide) ?_
          refine lv_istore (pc := 42) (lv' := [(4, .int (0 : Int32)), (3, .int (0 : Int32)), (2, .ref (ad 61)), (0, .ref (ad 0)), (1, .int a1)]) hx hb dX8_read_42 hl (by decide) rfl (fun ls hl => ?_)
          obtain ⟨n9, h⟩ := h
          exact bX8_read_44_3 X n9 u a1 (0 : Int32) (0 : Int32) H locs ls h w (lv_sub hl [3, 4, 2, 1, 0] rfl)
      · have h := h.2 c_
        refine lv_aload_n (pc := 23) hx hb dX8_read_23 rfl (lv_at hl 0 rfl) ?_
        refine lv_iconst (pc := 24) (v := (1 : Int32)) hx hb dX8_read_24 (by decide) ?_
        refine Ccalli (rest := []) (CrunV (pc := 25) X w (okX8_found l hJ h) kw441 kmX8_found ⟨rfl, rfl⟩ ⟨by decide, by decide⟩ (Crv_0 X w) rfl hl.1 rfl (Nat.le_of_ble_eq_true rfl) dX8_read_25) w (fun r504 u505 H locs h w => ?_)
        exact Ciret (pc := 28) X w h dX8_read_28
    · refine Caq_53 1 (by decide) (pc := 16) X w dX8_read_16 ?_
      refine Cgf_56_3 (pc := 17) X w kw445 dX8_read_17 ?_
      refine lv_if_eq (pc := 20) (tgt := 29) hx hb dX8_read_20 (by decide) (fun c_ => ?_) (fun c_ => ?_)
      · have h := h.1 c_
        refine lv_aload_n (pc := 29) hx hb dX8_read_29 rfl (lv_at hl 0 rfl) ?_
        refine Cgf_0_6 (pc := 30) X w kw435 dX8_read_30 ?_
        refine lv_iload_n (pc := 33) hx hb dX8_read_33 rfl (lv_at hl 1 rfl) ?_
        obtain ⟨j3, hj_, e_⟩ := vp_in_of h.1 (by decide)
        have h := h.2 j3 hj_ e_
        refine W.eq (g2 := F0 m 34 ls (.int (nI j3) :: .ref (ad 53) :: [])) (by rw [e_]) ?_
        clear e_
        rcases (show j3 = 0 ∨ j3 = 1 ∨ j3 = 2 ∨ j3 = 3 by omega) with rfl | rfl | rfl | rfl
        · refine Caq_53 0 (by decide) (pc := 34) X w dX8_read_34 ?_
          refine Cgf_54_0 (pc := 35) X w kw456 dX8_read_35 ?_
          refine lv_astore_n (pc := 38) (lv' := [(2, .ref (ad 55)), (0, .ref (ad 0)), (1, .int a1)]) hx hb dX8_read_38 rfl hl (by decide) rfl (fun ls hl => ?_)
          refine lv_iconst (pc := 39) (v := (0 : Int32)) hx hb dX8_read_39 (by decide) ?_
          refine lv_istore_n (pc := 40) (lv' := [(3, .int (0 : Int32)), (2, .ref (ad 55)), (0, .ref (ad 0)), (1, .int a1)]) hx hb dX8_read_40 rfl hl (by decide) rfl (fun ls hl => ?_)
          refine lv_iconst (pc := 41) (v := (0 : Int32)) hx hb dX8_read_41 (by decide) ?_
          refine lv_istore (pc := 42) (lv' := [(4, .int (0 : Int32)), (3, .int (0 : Int32)), (2, .ref (ad 55)), (0, .ref (ad 0)), (1, .int a1)]) hx hb dX8_read_42 hl (by decide) rfl (fun ls hl => ?_)
          obtain ⟨n9, h⟩ := h
          exact bX8_read_44_0 X n9 u a1 (0 : Int32) (0 : Int32) H locs ls h w (lv_sub hl [3, 4, 2, 1, 0] rfl)
        · refine Caq_53 1 (by decide) (pc := 34) X w dX8_read_34 ?_
          refine Cgf_56_0 (pc := 35) X w kw456 dX8_read_35 ?_
          refine lv_astore_n (pc := 38) (lv' := [(2, .ref (ad 57)), (0, .ref (ad 0)), (1, .int a1)]) hx hb dX8_read_38 rfl hl (by decide) rfl (fun ls hl => ?_)
          refine lv_iconst (pc := 39) (v := (0 : Int32)) hx hb dX8_read_39 (by decide) ?_
          refine lv_istore_n (pc := 40) (lv' := [(3, .int (0 : Int32)), (2, .ref (ad 57)), (0, .ref (ad 0)), (1, .int a1)]) hx hb dX8_read_40 rfl hl (by decide) rfl (fun ls hl => ?_)
          refine lv_iconst (pc := 41) (v := (0 : Int32)) hx hb dX8_read_41 (by decide) ?_
          refine lv_istore (pc := 42) (lv' := [(4, .int (0 : Int32)), (3, .int (0 : Int32)), (2, .ref (ad 57)), (0, .ref (ad 0)), (1, .int a1)]) hx hb dX8_read_42 hl (by decide) rfl (fun ls hl => ?_)
          obtain ⟨n9, h⟩ := h
          exact bX8_read_44_1 X n9 u a1 (0 : Int32) (0 : Int32) H locs ls h w (lv_sub hl [3, 4, 2, 1, 0] rfl)
        · refine Caq_53 2 (by decide) (pc := 34) X w dX8_read_34 ?_
          refine Cgf_58_0 (pc := 35) X w kw456 dX8_read_35 ?_
          refine lv_astore_n (pc := 38) (lv' := [(2, .ref (ad 59)), (0, .ref (ad 0)), (1, .int a1)]) hx hb dX8_read_38 rfl hl (by decide) rfl (fun ls hl => ?_)
          refine lv_iconst (pc := 39) (v := (0 : Int32)) hx hb dX8_read_39 (by decide) ?_
          refine lv_istore_n (pc := 40) (lv' := [(3, .int (0 : Int32)), (2, .ref (ad 59)), (0, .ref (ad 0)), (1, .int a1)]) hx hb dX8_read_40 rfl hl (by decide) rfl (fun ls hl => ?_)
          refine lv_iconst (pc := 41) (v := (0 : Int32)) hx hb dX8_read_41 (by decide) ?_
          refine lv_istore (pc := 42) (lv' := [(4, .int (0 : Int32)), (3, .int (0 : Int32)), (2, .ref (ad 59)), (0, .ref (ad 0)), (1, .int a1)]) hx hb dX8_read_42 hl (by decide) rfl (fun ls hl => ?_)
          obtain ⟨n9, h⟩ := h
          exact bX8_read_44_2 X n9 u a1 (0 : Int32) (0 : Int32) H locs ls h w (lv_sub hl [3, 4, 2, 1, 0] rfl)
        · refine Caq_53 3 (by decide) (pc := 34) X w dX8_read_34 ?_
          refine Cgf_60_0 (pc := 35) X w kw456 dX8_read_35 ?_
          refine lv_astore_n (pc := 38) (lv' := [(2, .ref (ad 61)), (0, .ref (ad 0)), (1, .int a1)]) hx hb dX8_read_38 rfl hl (by decide) rfl (fun ls hl => ?_)
          refine lv_iconst (pc := 39) (v := (0 : Int32)) hx hb dX8_read_39 (by decide) ?_
          refine lv_istore_n (pc := 40) (lv' := [(3, .int (0 : Int32)), (2, .ref (ad 61)), (0, .ref (ad 0)), (1, .int a1)]) hx hb dX8_read_40 rfl hl (by decide) rfl (fun ls hl => ?_)
          refine lv_iconst (pc := 41) (v := (0 : Int32)) hx hb dX8_read_41 (by decide) ?_
          refine lv_istore (pc := 42) (lv' := [(4, .int (0 : Int32)), (3, .int (0 : Int32)), (2, .ref (ad 61)), (0, .ref (ad 0)), (1, .int a1)]) hx hb dX8_read_42 hl (by decide) rfl (fun ls hl => ?_)
          obtain ⟨n9, h⟩ := h
          exact bX8_read_44_3 X n9 u a1 (0 : Int32) (0 : Int32) H locs ls h w (lv_sub hl [3, 4, 2, 1, 0] rfl)
      · have h := h.2 c_
        refine lv_aload_n (pc := 23) hx hb dX8_read_23 rfl (lv_at hl 0 rfl) ?_
        refine lv_iconst (pc := 24) (v := (1 : Int32)) hx hb dX8_read_24 (by decide) ?_
        refine Ccalli (rest := []) (CrunV (pc := 25) X w (okX8_found l hJ h) kw441 kmX8_found ⟨rfl, rfl⟩ ⟨by decide, by decide⟩ (Crv_0 X w) rfl hl.1 rfl (Nat.le_of_ble_eq_true rfl) dX8_read_25) w (fun r504 u505 H locs h w => ?_)
        exact Ciret (pc := 28) X w h dX8_read_28
    · refine Caq_53 2 (by decide) (pc := 16) X w dX8_read_16 ?_
      refine Cgf_58_3 (pc := 17) X w kw445 dX8_read_17 ?_
      refine lv_if_eq (pc := 20) (tgt := 29) hx hb dX8_read_20 (by decide) (fun c_ => ?_) (fun c_ => ?_)
      · have h := h.1 c_
        refine lv_aload_n (pc := 29) hx hb dX8_read_29 rfl (lv_at hl 0 rfl) ?_
        refine Cgf_0_6 (pc := 30) X w kw435 dX8_read_30 ?_
        refine lv_iload_n (pc := 33) hx hb dX8_read_33 rfl (lv_at hl 1 rfl) ?_
        obtain ⟨j3, hj_, e_⟩ := vp_in_of h.1 (by decide)
        have h := h.2 j3 hj_ e_
        refine W.eq (g2 := F0 m 34 ls (.int (nI j3) :: .ref (ad 53) :: [])) (by rw [e_]) ?_
        clear e_
        rcases (show j3 = 0 ∨ j3 = 1 ∨ j3 = 2 ∨ j3 = 3 by omega) with rfl | rfl | rfl | rfl
        · refine Caq_53 0 (by decide) (pc := 34) X w dX8_read_34 ?_
          refine Cgf_54_0 (pc := 35) X w kw456 dX8_read_35 ?_
          refine lv_astore_n (pc := 38) (lv' := [(2, .ref (ad 55)), (0, .ref (ad 0)), (1, .int a1)]) hx hb dX8_read_38 rfl hl (by decide) rfl (fun ls hl => ?_)
          refine lv_iconst (pc := 39) (v := (0 : Int32)) hx hb dX8_read_39 (by decide) ?_
          refine lv_istore_n (pc := 40) (lv' := [(3, .int (0 : Int32)), (2, .ref (ad 55)), (0, .ref (ad 0)), (1, .int a1)]) hx hb dX8_read_40 rfl hl (by decide) rfl (fun ls hl => ?_)
          refine lv_iconst (pc := 41) (v := (0 : Int32)) hx hb dX8_read_41 (by decide) ?_
          refine lv_istore (pc := 42) (lv' := [(4, .int (0 : Int32)), (3, .int (0 : Int32)), (2, .ref (ad 55)), (0, .ref (ad 0)), (1, .int a1)]) hx hb dX8_read_42 hl (by decide) rfl (fun ls hl => ?_)
          obtain ⟨n9, h⟩ := h
          exact bX8_read_44_0 X n9 u a1 (0 : Int32) (0 : Int32) H locs ls h w (lv_sub hl [3, 4, 2, 1, 0] rfl)
        · refine Caq_53 1 (by decide) (pc := 34) X w dX8_read_34 ?_
          refine Cgf_56_0 (pc := 35) X w kw456 dX8_read_35 ?_
          refine lv_astore_n (pc := 38) (lv' := [(2, .ref (ad 57)), (0, .ref (ad 0)), (1, .int a1)]) hx hb dX8_read_38 rfl hl (by decide) rfl (fun ls hl => ?_)
          refine lv_iconst (pc := 39) (v := (0 : Int32)) hx hb dX8_read_39 (by decide) ?_
          refine lv_istore_n (pc := 40) (lv' := [(3, .int (0 : Int32)), (2, .ref (ad 57)), (0, .ref (ad 0)), (1, .int a1)]) hx hb dX8_read_40 rfl hl (by decide) rfl (fun ls hl => ?_)
          refine lv_iconst (pc := 41) (v := (0 : Int32)) hx hb dX8_read_41 (by decide) ?_
          refine lv_istore (pc := 42) (lv' := [(4, .int (0 : Int32)), (3, .int (0 : Int32)), (2, .ref (ad 57)), (0, .ref (ad 0)), (1, .int a1)]) hx hb dX8_read_42 hl (by decide) rfl (fun ls hl => ?_)
          obtain ⟨n9, h⟩ := h
          exact bX8_read_44_1 X n9 u a1 (0 : Int32) (0 : Int32) H locs ls h w (lv_sub hl [3, 4, 2, 1, 0] rfl)
        · refine Caq_53 2 (by decide) (pc := 34) X w dX8_read_34 ?_
          refine Cgf_58_0 (pc := 35) X w kw456 dX8_read_35 ?_
          refine lv_astore_n (pc := 38) (lv' := [(2, .ref (ad 59)), (0, .ref (ad 0)), (1, .int a1)]) hx hb dX8_read_38 rfl hl (by decide) rfl (fun ls hl => ?_)
          refine lv_iconst (pc := 39) (v := (0 : Int32)) hx hb dX8_read_39 (by decide) ?_
          refine lv_istore_n (pc := 40) (lv' := [(3, .int (0 : Int32)), (2, .ref (ad 59)), (0, .ref (ad 0)), (1, .int a1)]) hx hb dX8_read_40 rfl hl (by decide) rfl (fun ls hl => ?_)
          refine lv_iconst (pc := 41) (v := (0 : Int32)) hx hb dX8_read_41 (by decide) ?_
          refine lv_istore (pc := 42) (lv' := [(4, .int (0 : Int32)), (3, .int (0 : Int32)), (2, .ref (ad 59)), (0, .ref (ad 0)), (1, .int a1)]) hx hb dX8_read_42 hl (by decide) rfl (fun ls hl => ?_)
          obtain ⟨n9, h⟩ := h
          exact bX8_read_44_2 X n9 u a1 (0 : Int32) (0 : Int32) H locs ls h w (lv_sub hl [3, 4, 2, 1, 0] rfl)
        · refine Caq_53 3 (by decide) (pc := 34) X w dX8_read_34 ?_
          refine Cgf_60_0 (pc := 35) X w kw456 dX8_read_35 ?_
          refine lv_astore_n (pc := 38) (lv' := [(2, .ref (ad 61)), (0, .ref (ad 0)), (1, .int a1)]) hx hb dX8_read_38 rfl hl (by decide) rfl (fun ls hl => ?_)
          refine lv_iconst (pc := 39) (v := (0 : Int32)) hx hb dX8_read_39 (by decide) ?_
          refine lv_istore_n (pc := 40) (lv' := [(3, .int (0 : Int32)), (2, .ref (ad 61)), (0, .ref (ad 0)), (1, .int a1)]) hx hb dX8_read_40 rfl hl (by decide) rfl (fun ls hl => ?_)
          refine lv_iconst (pc := 41) (v := (0 : Int32)) hx hb dX8_read_41 (by decide) ?_
          refine lv_istore (pc := 42) (lv' := [(4, .int (0 : Int32)), (3, .int (0 : Int32)), (2, .ref (ad 61)), (0, .ref (ad 0)), (1, .int a1)]) hx hb dX8_read_42 hl (by decide) rfl (fun ls hl => ?_)
          obtain ⟨n9, h⟩ := h
          exact bX8_read_44_3 X n9 u a1 (0 : Int32) (0 : Int32) H locs ls h w (lv_sub hl [3, 4, 2, 1, 0] rfl)
      · have h := h.2 c_
        refine lv_aload_n (pc := 23) hx hb dX8_read_23 rfl (lv_at hl 0 rfl) ?_
        refine lv_iconst (pc := 24) (v := (1 : Int32)) hx hb dX8_read_24 (by decide) ?_
        refine Ccalli (rest := []) (CrunV (pc := 25) X w (okX8_found l hJ h) kw441 kmX8_found ⟨rfl, rfl⟩ ⟨by decide, by decide⟩ (Crv_0 X w) rfl hl.1 rfl (Nat.le_of_ble_eq_true rfl) dX8_read_25) w (fun r504 u505 H locs h w => ?_)
        exact Ciret (pc := 28) X w h dX8_read_28
    · refine Caq_53 3 (by decide) (pc := 16) X w dX8_read_16 ?_
      refine Cgf_60_3 (pc := 17) X w kw445 dX8_read_17 ?_
      refine lv_if_eq (pc := 20) (tgt := 29) hx hb dX8_read_20 (by decide) (fun c_ => ?_) (fun c_ => ?_)
      · have h := h.1 c_
        refine lv_aload_n (pc := 29) hx hb dX8_read_29 rfl (lv_at hl 0 rfl) ?_
        refine Cgf_0_6 (pc := 30) X w kw435 dX8_read_30 ?_
        refine lv_iload_n (pc := 33) hx hb dX8_read_33 rfl (lv_at hl 1 rfl) ?_
        obtain ⟨j3, hj_, e_⟩ := vp_in_of h.1 (by decide)
        have h := h.2 j3 hj_ e_
        refine W.eq (g2 := F0 m 34 ls (.int (nI j3) :: .ref (ad 53) :: [])) (by rw [e_]) ?_
        clear e_
        rcases (show j3 = 0 ∨ j3 = 1 ∨ j3 = 2 ∨ j3 = 3 by omega) with rfl | rfl | rfl | rfl
        · refine Caq_53 0 (by decide) (pc := 34) X w dX8_read_34 ?_
          refine Cgf_54_0 (pc := 35) X w kw456 dX8_read_35 ?_
          refine lv_astore_n (pc := 38) (lv' := [(2, .ref (ad 55)), (0, .ref (ad 0)), (1, .int a1)]) hx hb dX8_read_38 rfl hl (by decide) rfl (fun ls hl => ?_)
          refine lv_iconst (pc := 39) (v := (0 : Int32)) hx hb dX8_read_39 (by decide) ?_
          refine lv_istore_n (pc := 40) (lv' := [(3, .int (0 : Int32)), (2, .ref (ad 55)), (0, .ref (ad 0)), (1, .int a1)]) hx hb dX8_read_40 rfl hl (by decide) rfl (fun ls hl => ?_)
          refine lv_iconst (pc := 41) (v := (0 : Int32)) hx hb dX8_read_41 (by decide) ?_
          refine lv_istore (pc := 42) (lv' := [(4, .int (0 : Int32)), (3, .int (0 : Int32)), (2, .ref (ad 55)), (0, .ref (ad 0)), (1, .int a1)]) hx hb dX8_read_42 hl (by decide) rfl (fun ls hl => ?_)
          obtain ⟨n9, h⟩ := h
          exact bX8_read_44_0 X n9 u a1 (0 : Int32) (0 : Int32) H locs ls h w (lv_sub hl [3, 4, 2, 1, 0] rfl)
        · refine Caq_53 1 (by decide) (pc := 34) X w dX8_read_34 ?_
          refine Cgf_56_0 (pc := 35) X w kw456 dX8_read_35 ?_
          refine lv_astore_n (pc := 38) (lv' := [(2, .ref (ad 57)), (0, .ref (ad 0)), (1, .int a1)]) hx hb dX8_read_38 rfl hl (by decide) rfl (fun ls hl => ?_)
          refine lv_iconst (pc := 39) (v := (0 : Int32)) hx hb dX8_read_39 (by decide) ?_
          refine lv_istore_n (pc := 40) (lv' := [(3, .int (0 : Int32)), (2, .ref (ad 57)), (0, .ref (ad 0)), (1, .int a1)]) hx hb dX8_read_40 rfl hl (by decide) rfl (fun ls hl => ?_)
          refine lv_iconst (pc := 41) (v := (0 : Int32)) hx hb dX8_read_41 (by decide) ?_
          refine lv_istore (pc := 42) (lv' := [(4, .int (0 : Int32)), (3, .int (0 : Int32)), (2, .ref (ad 57)), (0, .ref (ad 0)), (1, .int a1)]) hx hb dX8_read_42 hl (by decide) rfl (fun ls hl => ?_)
          obtain ⟨n9, h⟩ := h
          exact bX8_read_44_1 X n9 u a1 (0 : Int32) (0 : Int32) H locs ls h w (lv_sub hl [3, 4, 2, 1, 0] rfl)
        · refine Caq_53 2 (by decide) (pc := 34) X w dX8_read_34 ?_
          refine Cgf_58_0 (pc := 35) X w kw456 dX8_read_35 ?_
          refine lv_astore_n (pc := 38) (lv' := [(2, .ref (ad 59)), (0, .ref (ad 0)), (1, .int a1)]) hx hb dX8_read_38 rfl hl (by decide) rfl (fun ls hl => ?_)
          refine lv_iconst (pc := 39) (v := (0 : Int32)) hx hb dX8_read_39 (by decide) ?_
          refine lv_istore_n (pc := 40) (lv' := [(3, .int (0 : Int32)), (2, .ref (ad 59)), (0, .ref (ad 0)), (1, .int a1)]) hx hb dX8_read_40 rfl hl (by decide) rfl (fun ls hl => ?_)
          refine lv_iconst (pc := 41) (v := (0 : Int32)) hx hb dX8_read_41 (by decide) ?_
          refine lv_istore (pc := 42) (lv' := [(4, .int (0 : Int32)), (3, .int (0 : Int32)), (2, .ref (ad 59)), (0, .ref (ad 0)), (1, .int a1)]) hx hb dX8_read_42 hl (by decide) rfl (fun ls hl => ?_)
          obtain ⟨n9, h⟩ := h
          exact bX8_read_44_2 X n9 u a1 (0 : Int32) (0 : Int32) H locs ls h w (lv_sub hl [3, 4, 2, 1, 0] rfl)
        · refine Caq_53 3 (by decide) (pc := 34) X w dX8_read_34 ?_
          refine Cgf_60_0 (pc := 35) X w kw456 dX8_read_35 ?_
          refine lv_astore_n (pc := 38) (lv' := [(2, .ref (ad 61)), (0, .ref (ad 0)), (1, .int a1)]) hx hb dX8_read_38 rfl hl (by decide) rfl (fun ls hl => ?_)
          refine lv_iconst (pc := 39) (v := (0 : Int32)) hx hb dX8_read_39 (by decide) ?_
          refine lv_istore_n (pc := 40) (lv' := [(3, .int (0 : Int32)), (2, .ref (ad 61)), (0, .ref (ad 0)), (1, .int a1)]) hx hb dX8_read_40 rfl hl (by decide) rfl (fun ls hl => ?_)
          refine lv_iconst (pc := 41) (v := (0 : Int32)) hx hb dX8_read_41 (by decide) ?_
          refine lv_istore (pc := 42) (lv' := [(4, .int (0 : Int32)), (3, .int (0 : Int32)), (2, .ref (ad 61)), (0, .ref (ad 0)), (1, .int a1)]) hx hb dX8_read_42 hl (by decide) rfl (fun ls hl => ?_)
          obtain ⟨n9, h⟩ := h
          exact bX8_read_44_3 X n9 u a1 (0 : Int32) (0 : Int32) H locs ls h w (lv_sub hl [3, 4, 2, 1, 0] rfl)
      · have h := h.2 c_
        refine lv_aload_n (pc := 23) hx hb dX8_read_23 rfl (lv_at hl 0 rfl) ?_
        refine lv_iconst (pc := 24) (v := (1 : Int32)) hx hb dX8_read_24 (by decide) ?_
        refine Ccalli (rest := []) (CrunV (pc := 25) X w (okX8_found l hJ h) kw441 kmX8_found ⟨rfl, rfl⟩ ⟨by decide, by decide⟩ (Crv_0 X w) rfl hl.1 rfl (Nat.le_of_ble_eq_true rfl) dX8_read_25) w (fun r504 u505 H locs h w => ?_)
        exact Ciret (pc := 28) X w h dX8_read_28
  · have h := h.1 c_
    refine lv_bipush (pc := 8) (v := (-2 : Int32)) hx hb dX8_read_8 (by decide) ?_
    exact Ciret (pc := 10) X w h dX8_read_10
set_option maxHeartbeats 4000000 in
set_option maxRecDepth 100000 in
theorem okJ9_min_7cf53 (l : Launch) {D : va_G} {g : Nat → ClassId} {ad : Nat → Nat} (hJ : CJ ad) {u : Mm} {a0 : Int32} {a1 : Int32} {Q : Int32 → Prop} (h : wJ9_min_7cf53 a0 a1 Q) : Met l yJ9_min_7cf53 (Cond.code yJ9_min_7cf53 cJ9_min_7cf53 2 (some .int) :: gt) ({ frames := 0, cells := 0, slots := 0, locals := 0 } : Room) (CPc D g ad u [.int a0, .int a1]) (va_Qi (fun r u1 => u = u1 ∧ Q r) (CB D g ad) (CA ad)) 0 0 (CA ad) := by
  refine va_MetF (cc := cJ9_min_7cf53) (maxL := 2) (ret := (some .int)) (by decide +kernel) rfl ?_
  intro p e s m args below meth c s₁ B hml hv
  refine Centry (own := RJ9) B hml hv hJ rfl (Nat.le_of_ble_eq_true rfl) (fun ls H locs X w hl => ?_)
  obtain ⟨⟨hx, hb, hml, hown, hts⟩, hr, hlocks, hK, hJ, hAA⟩ := id X
  have hl : lv_has ls 2 [(0, .int a0), (1, .int a1)] := hl
  unfold wJ9_min_7cf53 at h
  refine lv_iload_n (pc := 0) hx hb dJ9_min_7cf53_0 rfl (lv_at hl 0 rfl) ?_
  refine lv_iload_n (pc := 1) hx hb dJ9_min_7cf53_1 rfl (lv_at hl 1 rfl) ?_
  refine lv_icmp_gt (pc := 2) (tgt := 9) hx hb dJ9_min_7cf53_2 (by decide) (fun c_ => ?_) (fun c_ => ?_)
  · have h := h.1 c_
    refine lv_iload_n (pc := 9) hx hb dJ9_min_7cf53_9 rfl (lv_at hl 1 rfl) ?_
    exact Ciret (pc := 10) X w ⟨rfl, h⟩ dJ9_min_7cf53_10
  · have h := h.2 c_
    refine lv_iload_n (pc := 5) hx hb dJ9_min_7cf53_5 rfl (lv_at hl 0 rfl) ?_
    refine lv_goto (pc := 6) (tgt := 10) hx hb dJ9_min_7cf53_6 (by decide) ?_
    exact Ciret (pc := 10) X w ⟨rfl, h⟩ dJ9_min_7cf53_10
set_option maxHeartbeats 4000000 in
set_option maxRecDepth 100000 in
theorem bX8_write_75 {l : Launch} {p : Program} {e : Env} {s : State} {m : MethodId} {args : Array Value} {below : List Frame} {meth : Method} {c : Code} {D : va_G} {g : Nat → ClassId} {ad : Nat → Nat} {Q : Int32 → Mm → Prop} (X : CX p s m args meth c cX8_write RX8 8 (some .int) (Cond.code yX8_write cX8_write 8 (some .int)) D g ad (CA ad)) : ∀ (n : Nat) (u : Mm) (x1 : Int32) (x5 : Int32) (x6 : Int32) (x7 : Int32) (H : Heap) (locs : List Loc) (ls : Array Slot), wX8_write_b75 Q n u x1 x5 x6 x7 → CWd D g ad (CA ad) s u H locs → lv_has ls 8 [(0, .ref (ad 0)), (1, .int x1), (5, .int x5), (6, .int x6), (7, .int x7)] → W p l e ({ frames := 6, cells := 0, slots := 0, locals := 156 } : Room) s m args below meth c H locs 0 0 (MQ below (va_Qi Q (CB D g ad) (CA ad)) args s 0 0 (CA ad)) (F0 m 75 ls []) := by
  obtain ⟨⟨hx, hb, hml, hown, hts⟩, hr, hlocks, hK, hJ, hAA⟩ := id X
  intro n
  induction n with
  | zero =>
    intro u x1 x5 x6 x7 H locs ls h
    exact False.elim h
  | succ n ih =>
    intro u x1 x5 x6 x7 H locs ls h w hl
    unfold wX8_write_b75 at h
    refine lv_iload (pc := 75) hx hb dX8_write_75 (lv_at hl 4 rfl) ?_
    refine lv_iload (pc := 77) hx hb dX8_write_77 (lv_at hl 3 rfl) ?_
    refine lv_icmp_ge (pc := 79) (tgt := 113) hx hb dX8_write_79 (by decide) (fun c_ => ?_) (fun c_ => ?_)
    · have h := h.1 c_
      refine lv_iload (pc := 113) hx hb dX8_write_113 (lv_at hl 3 rfl) ?_
      exact Ciret (pc := 115) X w h dX8_write_115
    · have h := h.2 c_
      refine lv_aload_n (pc := 82) hx hb dX8_write_82 rfl (lv_at hl 0 rfl) ?_
      refine Cgf_0_6 (pc := 83) X w kw435 dX8_write_83 ?_
      refine lv_iload_n (pc := 86) hx hb dX8_write_86 rfl (lv_at hl 1 rfl) ?_
      obtain ⟨j1, hj_, e_⟩ := vp_in_of h.1 (by decide)
      have h := h.2 j1 hj_ e_
      refine W.eq (g2 := F0 m 87 ls (.int (nI j1) :: .ref (ad 53) :: [])) (by rw [e_]) ?_
      clear e_
      rcases (show j1 = 0 ∨ j1 = 1 ∨ j1 = 2 ∨ j1 = 3 by omega) with rfl | rfl | rfl | rfl
      · refine Caq_53 0 (by decide) (pc := 87) X w dX8_write_87 ?_
        refine lv_iload (pc := 88) hx hb dX8_write_88 (lv_at hl 4 rfl) ?_
        refine lv_aload_n (pc := 90) hx hb dX8_write_90 rfl (lv_at hl 0 rfl) ?_
        refine Cgf_0_1 (pc := 91) X w kw264 dX8_write_91 ?_
        refine Cgf_10_9 (pc := 94) X w kw325 dX8_write_94 ?_
        refine lv_iload (pc := 97) hx hb dX8_write_97 (lv_at hl 2 rfl) ?_
        refine lv_iload (pc := 99) hx hb dX8_write_99 (lv_at hl 4 rfl) ?_
        refine lv_iadd (pc := 101) hx hb dX8_write_101 ?_
        refine Cld_22 (pc := 102) X w h.1 dX8_write_102 ?_
        have h := h.2
        refine lv_l2i (pc := 103) hx hb dX8_write_103 rfl ?_
        refine Ccallv (rest := []) (CrunV (pc := 104) X w (okX5_store_i0 l hJ h) kw452 kmX5_store ⟨rfl, rfl⟩ ⟨by decide, by decide⟩ (Crv_54 X w) rfl hl.1 rfl (Nat.le_of_ble_eq_true rfl) dX8_write_104) w (fun u3 H locs h w => ?_)
        obtain ⟨x7_4, e_⟩ : ∃ y : Int32, y = x7 + (1 : Int32) := ⟨_, rfl⟩
        have h := h x7_4 e_
        refine lv_iinc (pc := 107) (v := x7_4) (lv' := [(7, .int x7_4), (0, .ref (ad 0)), (1, .int x1), (5, .int x5), (6, .int x6)]) hx hb dX8_write_107 hl (k := 4) rfl (by rw [e_]; rfl) (by decide) rfl (fun ls hl => ?_)
        refine lv_goto (pc := 110) (tgt := 75) hx hb dX8_write_110 (by decide) ?_
        exact ih u3 x1 x5 x6 x7_4 H locs ls h w (lv_sub hl [1, 2, 3, 4, 0] rfl)
      · refine Caq_53 1 (by decide) (pc := 87) X w dX8_write_87 ?_
        refine lv_iload (pc := 88) hx hb dX8_write_88 (lv_at hl 4 rfl) ?_
        refine lv_aload_n (pc := 90) hx hb dX8_write_90 rfl (lv_at hl 0 rfl) ?_
        refine Cgf_0_1 (pc := 91) X w kw264 dX8_write_91 ?_
        refine Cgf_10_9 (pc := 94) X w kw325 dX8_write_94 ?_
        refine lv_iload (pc := 97) hx hb dX8_write_97 (lv_at hl 2 rfl) ?_
        refine lv_iload (pc := 99) hx hb dX8_write_99 (lv_at hl 4 rfl) ?_
        refine lv_iadd (pc := 101) hx hb dX8_write_101 ?_
        refine Cld_22 (pc := 102) X w h.1 dX8_write_102 ?_
        have h := h.2
        refine lv_l2i (pc := 103) hx hb dX8_write_103 rfl ?_
        refine Ccallv (rest := []) (CrunV (pc := 104) X w (okX5_store_i1 l hJ h) kw452 kmX5_store ⟨rfl, rfl⟩ ⟨by decide, by decide⟩ (Crv_56 X w) rfl hl.1 rfl (Nat.le_of_ble_eq_true rfl) dX8_write_104) w (fun u3 H locs h w => ?_)
        obtain ⟨x7_4, e_⟩ : ∃ y : Int32, y = x7 + (1 : Int32) := ⟨_, rfl⟩
        have h := h x7_4 e_
        refine lv_iinc (pc := 107) (v := x7_4) (lv' := [(7, .int x7_4), (0, .ref (ad 0)), (1, .int x1), (5, .int x5), (6, .int x6)]) hx hb dX8_write_107 hl (k := 4) rfl (by rw [e_]; rfl) (by decide) rfl (fun ls hl => ?_)
        refine lv_goto (pc := 110) (tgt := 75) hx hb dX8_write_110 (by decide) ?_
        exact ih u3 x1 x5 x6 x7_4 H locs ls h w (lv_sub hl [1, 2, 3, 4, 0] rfl)
      · refine Caq_53 2 (by decide) (pc := 87) X w dX8_write_87 ?_
        refine lv_iload (pc := 88) hx hb dX8_write_88 (lv_at hl 4 rfl) ?_
        refine lv_aload_n (pc := 90) hx hb dX8_write_90 rfl (lv_at hl 0 rfl) ?_
        refine Cgf_0_1 (pc := 91) X w kw264 dX8_write_91 ?_
        refine Cgf_10_9 (pc := 94) X w kw325 dX8_write_94 ?_
        refine lv_iload (pc := 97) hx hb dX8_write_97 (lv_at hl 2 rfl) ?_
        refine lv_iload (pc := 99) hx hb dX8_write_99 (lv_at hl 4 rfl) ?_
        refine lv_iadd (pc := 101) hx hb dX8_write_101 ?_
        refine Cld_22 (pc := 102) X w h.1 dX8_write_102 ?_
        have h := h.2
        refine lv_l2i (pc := 103) hx hb dX8_write_103 rfl ?_
        refine Ccallv (rest := []) (CrunV (pc := 104) X w (okX5_store_i2 l hJ h) kw452 kmX5_store ⟨rfl, rfl⟩ ⟨by decide, by decide⟩ (Crv_58 X w) rfl hl.1 rfl (Nat.le_of_ble_eq_true rfl) dX8_write_104) w (fun u3 H locs h w => ?_)
        obtain ⟨x7_4, e_⟩ : ∃ y : Int32, y = x7 + (1 : Int32) := ⟨_, rfl⟩
        have h := h x7_4 e_
        refine lv_iinc (pc := 107) (v := x7_4) (lv' := [(7, .int x7_4), (0, .ref (ad 0)), (1, .int x1), (5, .int x5), (6, .int x6)]) hx hb dX8_write_107 hl (k := 4) rfl (by rw [e_]; rfl) (by decide) rfl (fun ls hl => ?_)
        refine lv_goto (pc := 110) (tgt := 75) hx hb dX8_write_110 (by decide) ?_
        exact ih u3 x1 x5 x6 x7_4 H locs ls h w (lv_sub hl [1, 2, 3, 4, 0] rfl)
      · refine Caq_53 3 (by decide) (pc := 87) X w dX8_write_87 ?_
        refine lv_iload (pc := 88) hx hb dX8_write_88 (lv_at hl 4 rfl) ?_
        refine lv_aload_n (pc := 90) hx hb dX8_write_90 rfl (lv_at hl 0 rfl) ?_
        refine Cgf_0_1 (pc := 91) X w kw264 dX8_write_91 ?_
        refine Cgf_10_9 (pc := 94) X w kw325 dX8_write_94 ?_
        refine lv_iload (pc := 97) hx hb dX8_write_97 (lv_at hl 2 rfl) ?_
        refine lv_iload (pc := 99) hx hb dX8_write_99 (lv_at hl 4 rfl) ?_
        refine lv_iadd (pc := 101) hx hb dX8_write_101 ?_
        refine Cld_22 (pc := 102) X w h.1 dX8_write_102 ?_
        have h := h.2
        refine lv_l2i (pc := 103) hx hb dX8_write_103 rfl ?_
        refine Ccallv (rest := []) (CrunV (pc := 104) X w (okX5_store_i3 l hJ h) kw452 kmX5_store ⟨rfl, rfl⟩ ⟨by decide, by decide⟩ (Crv_60 X w) rfl hl.1 rfl (Nat.le_of_ble_eq_true rfl) dX8_write_104) w (fun u3 H locs h w => ?_)
        obtain ⟨x7_4, e_⟩ : ∃ y : Int32, y = x7 + (1 : Int32) := ⟨_, rfl⟩
        have h := h x7_4 e_
        refine lv_iinc (pc := 107) (v := x7_4) (lv' := [(7, .int x7_4), (0, .ref (ad 0)), (1, .int x1), (5, .int x5), (6, .int x6)]) hx hb dX8_write_107 hl (k := 4) rfl (by rw [e_]; rfl) (by decide) rfl (fun ls hl => ?_)
        refine lv_goto (pc := 110) (tgt := 75) hx hb dX8_write_110 (by decide) ?_
        exact ih u3 x1 x5 x6 x7_4 H locs ls h w (lv_sub hl [1, 2, 3, 4, 0] rfl)
set_option maxHeartbeats 4000000 in
set_option maxRecDepth 100000 in
theorem okX8_write (l : Launch) {D : va_G} {g : Nat → ClassId} {ad : Nat → Nat} (hJ : CJ ad) {u : Mm} {a1 : Int32} {a2 : Int32} {a3 : Int32} {a4 : Int32} {Q : Int32 → Mm → Prop} (h : wX8_write u a1 a2 a3 a4 Q) : Met l yX8_write (Cond.code yX8_write cX8_write 8 (some .int) :: gt) ({ frames := 6, cells := 0, slots := 0, locals := 156 } : Room) (CPc D g ad u [.ref (ad 0), .int a1, .int a2, .int a3, .int a4]) (va_Qi Q (CB D g ad) (CA ad)) 0 0 (CA ad) := by
  refine Met.ofW (cc := cX8_write) (maxL := 8) (ret := (some .int)) (by decide) rfl ?_
  intro p e s m args below meth c s₁ B hml hv
  refine Centry (own := RX8) B hml hv hJ rfl (Nat.le_of_ble_eq_true rfl) (fun ls H locs X w hl => ?_)
  obtain ⟨⟨hx, hb, hml, hown, hts⟩, hr, hlocks, hK, hJ, hAA⟩ := id X
  have hl : lv_has ls 8 [(0, .ref (ad 0)), (1, .int a1), (2, .int a2), (3, .int a3), (4, .int a4)] := hl
  unfold wX8_write at h
  refine lv_iload_n (pc := 0) hx hb dX8_write_0 rfl (lv_at hl 1 rfl) ?_
  refine lv_iconst (pc := 1) (v := (4 : Int32)) hx hb dX8_write_1 (by decide) ?_
  refine Ccalli (rest := []) (CrunS (pc := 2) X w (okX8_below l hJ h) kw23 kmX8_below ⟨rfl, rfl⟩ ⟨by decide, by decide⟩ rfl hl.1 rfl (Nat.le_of_ble_eq_true rfl) dX8_write_2) w (fun r1 u9_ H locs h w => ?_)
  obtain ⟨hz_r1, h⟩ := h
  obtain ⟨rfl, h⟩ := h
  refine lv_if_eq (pc := 5) (tgt := 18) hx hb dX8_write_5 (by decide) (fun c_ => ?_) (fun c_ => ?_)
  · have h := h.1 c_
    refine lv_bipush (pc := 18) (v := (-2 : Int32)) hx hb dX8_write_18 (by decide) ?_
    exact Ciret (pc := 20) X w h dX8_write_20
  · have h := h.2 c_
    refine lv_iload_n (pc := 8) hx hb dX8_write_8 rfl (lv_at hl 2 rfl) ?_
    refine lv_iload_n (pc := 9) hx hb dX8_write_9 rfl (lv_at hl 3 rfl) ?_
    refine lv_iload (pc := 10) hx hb dX8_write_10 (lv_at hl 4 rfl) ?_
    refine Ccalli (rest := []) (CrunS (pc := 12) X w (okX8_isLine l hJ h) kw269 kmX8_isLine ⟨rfl, rfl⟩ ⟨by decide, by decide⟩ rfl hl.1 rfl (Nat.le_of_ble_eq_true rfl) dX8_write_12) w (fun r2 u9_ H locs h w => ?_)
    obtain ⟨hz_r2, h⟩ := h
    obtain ⟨rfl, h⟩ := h
    refine lv_if_ne (pc := 15) (tgt := 21) hx hb dX8_write_15 (by decide) (fun c_ => ?_) (fun c_ => ?_)
    · have h := h.2 c_
      refine lv_aload_n (pc := 21) hx hb dX8_write_21 rfl (lv_at hl 0 rfl) ?_
      refine Cgf_0_6 (pc := 22) X w kw435 dX8_write_22 ?_
      refine lv_iload_n (pc := 25) hx hb dX8_write_25 rfl (lv_at hl 1 rfl) ?_
      obtain ⟨j3, hj_, e_⟩ := vp_in_of h.1 (by decide)
      have h := h.2 j3 hj_ e_
      refine W.eq (g2 := F0 m 26 ls (.int (nI j3) :: .ref (ad 53) :: [])) (by rw [e_]) ?_
      clear e_
      rcases (show j3 = 0 ∨ j3 = 1 ∨ j3 = 2 ∨ j3 = 3 by omega) with rfl | rfl | rfl | rfl
      · refine Caq_53 0 (by decide) (pc := 26) X w dX8_write_26 ?_
        refine Cgf_54_3 (pc := 27) X w kw445 dX8_write_27 ?_
        refine lv_if_eq (pc := 30) (tgt := 39) hx hb dX8_write_30 (by decide) (fun c_ => ?_) (fun c_ => ?_)
        · have h := h.1 c_
          refine lv_aload_n (pc := 39) hx hb dX8_write_39 rfl (lv_at hl 0 rfl) ?_
          refine Cgf_0_1 (pc := 40) X w kw264 dX8_write_40 ?_
          refine Ccallv (rest := []) (CrunV (pc := 43) X w (okX6_settleAll l hJ h) kw331 kmX6_settleAll ⟨rfl, rfl⟩ ⟨by decide, by decide⟩ (Crv_10 X w) rfl hl.1 rfl (Nat.le_of_ble_eq_true rfl) dX8_write_43) w (fun u5 H locs h w => ?_)
          refine lv_iload_n (pc := 46) hx hb dX8_write_46 rfl (lv_at hl 2 rfl) ?_
          refine lv_iload_n (pc := 47) hx hb dX8_write_47 rfl (lv_at hl 3 rfl) ?_
          refine lv_iload (pc := 48) hx hb dX8_write_48 (lv_at hl 4 rfl) ?_
          refine lv_iconst (pc := 50) (v := (0 : Int32)) hx hb dX8_write_50 (by decide) ?_
          refine Ccalli (rest := []) (CrunS (pc := 51) X w (okX8_cellCode l hJ h) kw270 kmX8_cellCode ⟨rfl, rfl⟩ ⟨by decide, by decide⟩ rfl hl.1 rfl (Nat.le_of_ble_eq_true rfl) dX8_write_51) w (fun r6 u9_ H locs h w => ?_)
          obtain ⟨rfl, h⟩ := h
          refine lv_istore (pc := 54) (lv' := [(5, .int r6), (0, .ref (ad 0)), (1, .int a1), (2, .int a2), (3, .int a3), (4, .int a4)]) hx hb dX8_write_54 hl (by decide) rfl (fun ls hl => ?_)
          refine lv_aload_n (pc := 56) hx hb dX8_write_56 rfl (lv_at hl 1 rfl) ?_
          refine Cgf_0_6 (pc := 57) X w kw435 dX8_write_57 ?_
          refine lv_iload_n (pc := 60) hx hb dX8_write_60 rfl (lv_at hl 2 rfl) ?_
          obtain ⟨j7, hj_, e_⟩ := vp_in_of h.1 (by decide)
          have h := h.2 j7 hj_ e_
          refine W.eq (g2 := F0 m 61 ls (.int (nI j7) :: .ref (ad 53) :: [])) (by rw [e_]) ?_
          clear e_
          rcases (show j7 = 0 ∨ j7 = 1 ∨ j7 = 2 ∨ j7 = 3 by omega) with rfl | rfl | rfl | rfl
          · refine Caq_53 0 (by decide) (pc := 61) X w dX8_write_61 ?_
            refine Cgf_54_2 (pc := 62) X w kw446 dX8_write_62 ?_
            refine lv_bipush (pc := 65) (v := (12 : Int32)) hx hb dX8_write_65 (by decide) ?_
            refine Ccalli (rest := []) (CrunS (pc := 67) X w (okJ9_min_7cf53 l hJ h) kw466 kmJ9_min_7cf53 ⟨rfl, rfl⟩ ⟨by decide, by decide⟩ rfl hl.1 rfl (Nat.le_of_ble_eq_true rfl) dX8_write_67) w (fun r8 u9_ H locs h w => ?_)
            obtain ⟨rfl, h⟩ := h
            refine lv_istore (pc := 70) (lv' := [(6, .int r8), (5, .int r6), (0, .ref (ad 0)), (1, .int a1), (2, .int a2), (3, .int a3), (4, .int a4)]) hx hb dX8_write_70 hl (by decide) rfl (fun ls hl => ?_)
            refine lv_iconst (pc := 72) (v := (0 : Int32)) hx hb dX8_write_72 (by decide) ?_
            refine lv_istore (pc := 73) (lv' := [(7, .int (0 : Int32)), (6, .int r8), (5, .int r6), (0, .ref (ad 0)), (1, .int a1), (2, .int a2), (3, .int a3), (4, .int a4)]) hx hb dX8_write_73 hl (by decide) rfl (fun ls hl => ?_)
            obtain ⟨n9, h⟩ := h
            exact bX8_write_75 X n9 u5 a1 r6 r8 (0 : Int32) H locs ls h w (lv_sub hl [3, 4, 2, 1, 0] rfl)
          · refine Caq_53 1 (by decide) (pc := 61) X w dX8_write_61 ?_
            refine Cgf_56_2 (pc := 62) X w kw446 dX8_write_62 ?_
            refine lv_bipush (pc := 65) (v := (12 : Int32)) hx hb dX8_write_65 (by decide) ?_
            refine Ccalli (rest := []) (CrunS (pc := 67) X w (okJ9_min_7cf53 l hJ h) kw466 kmJ9_min_7cf53 ⟨rfl, rfl⟩ ⟨by decide, by decide⟩ rfl hl.1 rfl (Nat.le_of_ble_eq_true rfl) dX8_write_67) w (fun r8 u9_ H locs h w => ?_)
            obtain ⟨rfl, h⟩ := h
            refine lv_istore (pc := 70) (lv' := [(6, .int r8), (5, .int r6), (0, .ref (ad 0)), (1, .int a1), (2, .int a2), (3, .int a3), (4, .int a4)]) hx hb dX8_write_70 hl (by decide) rfl (fun ls hl => ?_)
            refine lv_iconst (pc := 72) (v := (0 : Int32)) hx hb dX8_write_72 (by decide) ?_
            refine lv_istore (pc := 73) (lv' := [(7, .int (0 : Int32)), (6, .int r8), (5, .int r6), (0, .ref (ad 0)), (1, .int a1), (2, .int a2), (3, .int a3), (4, .int a4)]) hx hb dX8_write_73 hl (by decide) rfl (fun ls hl => ?_)
            obtain ⟨n9, h⟩ := h
            exact bX8_write_75 X n9 u5 a1 r6 r8 (0 : Int32) H locs ls h w (lv_sub hl [3, 4, 2, 1, 0] rfl)
          · refine Caq_53 2 (by decide) (pc := 61) X w dX8_write_61 ?_
            refine Cgf_58_2 (pc := 62) X w kw446 dX8_write_62 ?_
            refine lv_bipush (pc := 65) (v := (12 : Int32)) hx hb dX8_write_65 (by decide) ?_
            refine Ccalli (rest := []) (CrunS (pc := 67) X w (okJ9_min_7cf53 l hJ h) kw466 kmJ9_min_7cf53 ⟨rfl, rfl⟩ ⟨by decide, by decide⟩ rfl hl.1 rfl (Nat.le_of_ble_eq_true rfl) dX8_write_67) w (fun r8 u9_ H locs h w => ?_)
            obtain ⟨rfl, h⟩ := h
            refine lv_istore (pc := 70) (lv' := [(6, .int r8), (5, .int r6), (0, .ref (ad 0)), (1, .int a1), (2, .int a2), (3, .int a3), (4, .int a4)]) hx hb dX8_write_70 hl (by decide) rfl (fun ls hl => ?_)
            refine lv_iconst (pc := 72) (v := (0 : Int32)) hx hb dX8_write_72 (by decide) ?_
            refine lv_istore (pc := 73) (lv' := [(7, .int (0 : Int32)), (6, .int r8), (5, .int r6), (0, .ref (ad 0)), (1, .int a1), (2, .int a2), (3, .int a3), (4, .int a4)]) hx hb dX8_write_73 hl (by decide) rfl (fun ls hl => ?_)
            obtain ⟨n9, h⟩ := h
            exact bX8_write_75 X n9 u5 a1 r6 r8 (0 : Int32) H locs ls h w (lv_sub hl [3, 4, 2, 1, 0] rfl)
          · refine Caq_53 3 (by decide) (pc := 61) X w dX8_write_61 ?_
            refine Cgf_60_2 (pc := 62) X w kw446 dX8_write_62 ?_
            refine lv_bipush (pc := 65) (v := (12 : Int32)) hx hb dX8_write_65 (by decide) ?_
            refine Ccalli (rest := []) (CrunS (pc := 67) X w (okJ9_min_7cf53 l hJ h) kw466 kmJ9_min_7cf53 ⟨rfl, rfl⟩ ⟨by decide, by decide⟩ rfl hl.1 rfl (Nat.le_of_ble_eq_true rfl) dX8_write_67) w (fun r8 u9_ H locs h w => ?_)
            obtain ⟨rfl, h⟩ := h
            refine lv_istore (pc := 70) (lv' := [(6, .int r8), (5, .int r6), (0, .ref (ad 0)), (1, .int a1), (2, .int a2), (3, .int a3), (4, .int a4)]) hx hb dX8_write_70 hl (by decide) rfl (fun ls hl => ?_)
            refine lv_iconst (pc := 72) (v := (0 : Int32)) hx hb dX8_write_72 (by decide) ?_
            refine lv_istore (pc := 73) (lv' := [(7, .int (0 : Int32)), (6, .int r8), (5, .int r6), (0, .ref (ad 0)), (1, .int a1), (2, .int a2), (3, .int a3), (4, .int a4)]) hx hb dX8_write_73 hl (by decide) rfl (fun ls hl => ?_)
            obtain ⟨n9, h⟩ := h
            exact bX8_write_75 X n9 u5 a1 r6 r8 (0 : Int32) H locs ls h w (lv_sub hl [3, 4, 2, 1, 0] rfl)
        · have h := h.2 c_
          refine lv_aload_n (pc := 33) hx hb dX8_write_33 rfl (lv_at hl 0 rfl) ?_
          refine lv_iconst (pc := 34) (v := (1 : Int32)) hx hb dX8_write_34 (by decide) ?_
          refine Ccalli (rest := []) (CrunV (pc := 35) X w (okX8_found l hJ h) kw441 kmX8_found ⟨rfl, rfl⟩ ⟨by decide, by decide⟩ (Crv_0 X w) rfl hl.1 rfl (Nat.le_of_ble_eq_true rfl) dX8_write_35) w (fun r508 u509 H locs h w => ?_)
          exact Ciret (pc := 38) X w h dX8_write_38
      · refine Caq_53 1 (by decide) (pc := 26) X w dX8_write_26 ?_
        refine Cgf_56_3 (pc := 27) X w kw445 dX8_write_27 ?_
        refine lv_if_eq (pc := 30) (tgt := 39) hx hb dX8_write_30 (by decide) (fun c_ => ?_) (fun c_ => ?_)
        · have h := h.1 c_
          refine lv_aload_n (pc := 39) hx hb dX8_write_39 rfl (lv_at hl 0 rfl) ?_
          refine Cgf_0_1 (pc := 40) X w kw264 dX8_write_40 ?_
          refine Ccallv (rest := []) (CrunV (pc := 43) X w (okX6_settleAll l hJ h) kw331 kmX6_settleAll ⟨rfl, rfl⟩ ⟨by decide, by decide⟩ (Crv_10 X w) rfl hl.1 rfl (Nat.le_of_ble_eq_true rfl) dX8_write_43) w (fun u5 H locs h w => ?_)
          refine lv_iload_n (pc := 46) hx hb dX8_write_46 rfl (lv_at hl 2 rfl) ?_
          refine lv_iload_n (pc := 47) hx hb dX8_write_47 rfl (lv_at hl 3 rfl) ?_
          refine lv_iload (pc := 48) hx hb dX8_write_48 (lv_at hl 4 rfl) ?_
          refine lv_iconst (pc := 50) (v := (0 : Int32)) hx hb dX8_write_50 (by decide) ?_
          refine Ccalli (rest := []) (CrunS (pc := 51) X w (okX8_cellCode l hJ h) kw270 kmX8_cellCode ⟨rfl, rfl⟩ ⟨by decide, by decide⟩ rfl hl.1 rfl (Nat.le_of_ble_eq_true rfl) dX8_write_51) w (fun r6 u9_ H locs h w => ?_)
          obtain ⟨rfl, h⟩ := h
          refine lv_istore (pc := 54) (lv' := [(5, .int r6), (0, .ref (ad 0)), (1, .int a1), (2, .int a2), (3, .int a3), (4, .int a4)]) hx hb dX8_write_54 hl (by decide) rfl (fun ls hl => ?_)
          refine lv_aload_n (pc := 56) hx hb dX8_write_56 rfl (lv_at hl 1 rfl) ?_
          refine Cgf_0_6 (pc := 57) X w kw435 dX8_write_57 ?_
          refine lv_iload_n (pc := 60) hx hb dX8_write_60 rfl (lv_at hl 2 rfl) ?_
          obtain ⟨j7, hj_, e_⟩ := vp_in_of h.1 (by decide)
          have h := h.2 j7 hj_ e_
          refine W.eq (g2 := F0 m 61 ls (.int (nI j7) :: .ref (ad 53) :: [])) (by rw [e_]) ?_
          clear e_
          rcases (show j7 = 0 ∨ j7 = 1 ∨ j7 = 2 ∨ j7 = 3 by omega) with rfl | rfl | rfl | rfl
          · refine Caq_53 0 (by decide) (pc := 61) X w dX8_write_61 ?_
            refine Cgf_54_2 (pc := 62) X w kw446 dX8_write_62 ?_
            refine lv_bipush (pc := 65) (v := (12 : Int32)) hx hb dX8_write_65 (by decide) ?_
            refine Ccalli (rest := []) (CrunS (pc := 67) X w (okJ9_min_7cf53 l hJ h) kw466 kmJ9_min_7cf53 ⟨rfl, rfl⟩ ⟨by decide, by decide⟩ rfl hl.1 rfl (Nat.le_of_ble_eq_true rfl) dX8_write_67) w (fun r8 u9_ H locs h w => ?_)
            obtain ⟨rfl, h⟩ := h
            refine lv_istore (pc := 70) (lv' := [(6, .int r8), (5, .int r6), (0, .ref (ad 0)), (1, .int a1), (2, .int a2), (3, .int a3), (4, .int a4)]) hx hb dX8_write_70 hl (by decide) rfl (fun ls hl => ?_)
            refine lv_iconst (pc := 72) (v := (0 : Int32)) hx hb dX8_write_72 (by decide) ?_
            refine lv_istore (pc := 73) (lv' := [(7, .int (0 : Int32)), (6, .int r8), (5, .int r6), (0, .ref (ad 0)), (1, .int a1), (2, .int a2), (3, .int a3), (4, .int a4)]) hx hb dX8_write_73 hl (by decide) rfl (fun ls hl => ?_)
            obtain ⟨n9, h⟩ := h
            exact bX8_write_75 X n9 u5 a1 r6 r8 (0 : Int32) H locs ls h w (lv_sub hl [3, 4, 2, 1, 0] rfl)
          · refine Caq_53 1 (by decide) (pc := 61) X w dX8_write_61 ?_
            refine Cgf_56_2 (pc := 62) X w kw446 dX8_write_62 ?_
            refine lv_bipush (pc := 65) (v := (12 : Int32)) hx hb dX8_write_65 (by decide) ?_
            refine Ccalli (rest := []) (CrunS (pc := 67) X w (okJ9_min_7cf53 l hJ h) kw466 kmJ9_min_7cf53 ⟨rfl, rfl⟩ ⟨by decide, by decide⟩ rfl hl.1 rfl (Nat.le_of_ble_eq_true rfl) dX8_write_67) w (fun r8 u9_ H locs h w => ?_)
            obtain ⟨rfl, h⟩ := h
            refine lv_istore (pc := 70) (lv' := [(6, .int r8), (5, .int r6), (0, .ref (ad 0)), (1, .int a1), (2, .int a2), (3, .int a3), (4, .int a4)]) hx hb dX8_write_70 hl (by decide) rfl (fun ls hl => ?_)
            refine lv_iconst (pc := 72) (v := (0 : Int32)) hx hb dX8_write_72 (by decide) ?_
            refine lv_istore (pc := 73) (lv' := [(7, .int (0 : Int32)), (6, .int r8), (5, .int r6), (0, .ref (ad 0)), (1, .int a1), (2, .int a2), (3, .int a3), (4, .int a4)]) hx hb dX8_write_73 hl (by decide) rfl (fun ls hl => ?_)
            obtain ⟨n9, h⟩ := h
            exact bX8_write_75 X n9 u5 a1 r6 r8 (0 : Int32) H locs ls h w (lv_sub hl [3, 4, 2, 1, 0] rfl)
          · refine Caq_53 2 (by decide) (pc := 61) X w dX8_write_61 ?_
            refine Cgf_58_2 (pc := 62) X w kw446 dX8_write_62 ?_
            refine lv_bipush (pc := 65) (v := (12 : Int32)) hx hb dX8_write_65 (by decide) ?_
            refine Ccalli (rest := []) (CrunS (pc := 67) X w (okJ9_min_7cf53 l hJ h) kw466 kmJ9_min_7cf53 ⟨rfl, rfl⟩ ⟨by decide, by decide⟩ rfl hl.1 rfl (Nat.le_of_ble_eq_true rfl) dX8_write_67) w (fun r8 u9_ H locs h w => ?_)
            obtain ⟨rfl, h⟩ := h
            refine lv_istore (pc := 70) (lv' := [(6, .int r8), (5, .int r6), (0, .ref (ad 0)), (1, .int a1), (2, .int a2), (3, .int a3), (4, .int a4)]) hx hb dX8_write_70 hl (by decide) rfl (fun ls hl => ?_)
            refine lv_iconst (pc := 72) (v := (0 : Int32)) hx hb dX8_write_72 (by decide) ?_
            refine lv_istore (pc := 73) (lv' := [(7, .int (0 : Int32)), (6, .int r8), (5, .int r6), (0, .ref (ad 0)), (1, .int a1), (2, .int a2), (3, .int a3), (4, .int a4)]) hx hb dX8_write_73 hl (by decide) rfl (fun ls hl => ?_)
            obtain ⟨n9, h⟩ := h
            exact bX8_write_75 X n9 u5 a1 r6 r8 (0 : Int32) H locs ls h w (lv_sub hl [3, 4, 2, 1, 0] rfl)
          · refine Caq_53 3 (by decide) (pc := 61) X w dX8_write_61 ?_
            refine Cgf_60_2 (pc := 62) X w kw446 dX8_write_62 ?_
            refine lv_bipush (pc := 65) (v := (12 : Int32)) hx hb dX8_write_65 (by decide) ?_
            refine Ccalli (rest := []) (CrunS (pc := 67) X w (okJ9_min_7cf53 l hJ h) kw466 kmJ9_min_7cf53 ⟨rfl, rfl⟩ ⟨by decide, by decide⟩ rfl hl.1 rfl (Nat.le_of_ble_eq_true rfl) dX8_write_67) w (fun r8 u9_ H locs h w => ?_)
            obtain ⟨rfl, h⟩ := h
            refine lv_istore (pc := 70) (lv' := [(6, .int r8), (5, .int r6), (0, .ref (ad 0)), (1, .int a1), (2, .int a2), (3, .int a3), (4, .int a4)]) hx hb dX8_write_70 hl (by decide) rfl (fun ls hl => ?_)
            refine lv_iconst (pc := 72) (v := (0 : Int32)) hx hb dX8_write_72 (by decide) ?_
            refine lv_istore (pc := 73) (lv' := [(7, .int (0 : Int32)), (6, .int r8), (5, .int r6), (0, .ref (ad 0)), (1, .int a1), (2, .int a2), (3, .int a3), (4, .int a4)]) hx hb dX8_write_73 hl (by decide) rfl (fun ls hl => ?_)
            obtain ⟨n9, h⟩ := h
            exact bX8_write_75 X n9 u5 a1 r6 r8 (0 : Int32) H locs ls h w (lv_sub hl [3, 4, 2, 1, 0] rfl)
        · have h := h.2 c_
          refine lv_aload_n (pc := 33) hx hb dX8_write_33 rfl (lv_at hl 0 rfl) ?_
          refine lv_iconst (pc := 34) (v := (1 : Int32)) hx hb dX8_write_34 (by decide) ?_
          refine Ccalli (rest := []) (CrunV (pc := 35) X w (okX8_found l hJ h) kw441 kmX8_found ⟨rfl, rfl⟩ ⟨by decide, by decide⟩ (Crv_0 X w) rfl hl.1 rfl (Nat.le_of_ble_eq_true rfl) dX8_write_35) w (fun r508 u509 H locs h w => ?_)
          exact Ciret (pc := 38) X w h dX8_write_38
      · refine Caq_53 2 (by decide) (pc := 26) X w dX8_write_26 ?_
        refine Cgf_58_3 (pc := 27) X w kw445 dX8_write_27 ?_
        refine lv_if_eq (pc := 30) (tgt := 39) hx hb dX8_write_30 (by decide) (fun c_ => ?_) (fun c_ => ?_)
        · have h := h.1 c_
          refine lv_aload_n (pc := 39) hx hb dX8_write_39 rfl (lv_at hl 0 rfl) ?_
          refine Cgf_0_1 (pc := 40) X w kw264 dX8_write_40 ?_
          refine Ccallv (rest := []) (CrunV (pc := 43) X w (okX6_settleAll l hJ h) kw331 kmX6_settleAll ⟨rfl, rfl⟩ ⟨by decide, by decide⟩ (Crv_10 X w) rfl hl.1 rfl (Nat.le_of_ble_eq_true rfl) dX8_write_43) w (fun u5 H locs h w => ?_)
          refine lv_iload_n (pc := 46) hx hb dX8_write_46 rfl (lv_at hl 2 rfl) ?_
          refine lv_iload_n (pc := 47) hx hb dX8_write_47 rfl (lv_at hl 3 rfl) ?_
          refine lv_iload (pc := 48) hx hb dX8_write_48 (lv_at hl 4 rfl) ?_
          refine lv_iconst (pc := 50) (v := (0 : Int32)) hx hb dX8_write_50 (by decide) ?_
          refine Ccalli (rest := []) (CrunS (pc := 51) X w (okX8_cellCode l hJ h) kw270 kmX8_cellCode ⟨rfl, rfl⟩ ⟨by decide, by decide⟩ rfl hl.1 rfl (Nat.le_of_ble_eq_true rfl) dX8_write_51) w (fun r6 u9_ H locs h w => ?_)
          obtain ⟨rfl, h⟩ := h
          refine lv_istore (pc := 54) (lv' := [(5, .int r6), (0, .ref (ad 0)), (1, .int a1), (2, .int a2), (3, .int a3), (4, .int a4)]) hx hb dX8_write_54 hl (by decide) rfl (fun ls hl => ?_)
          refine lv_aload_n (pc := 56) hx hb dX8_write_56 rfl (lv_at hl 1 rfl) ?_
          refine Cgf_0_6 (pc := 57) X w kw435 dX8_write_57 ?_
          refine lv_iload_n (pc := 60) hx hb dX8_write_60 rfl (lv_at hl 2 rfl) ?_
          obtain ⟨j7, hj_, e_⟩ := vp_in_of h.1 (by decide)
          have h := h.2 j7 hj_ e_
          refine W.eq (g2 := F0 m 61 ls (.int (nI j7) :: .ref (ad 53) :: [])) (by rw [e_]) ?_
          clear e_
          rcases (show j7 = 0 ∨ j7 = 1 ∨ j7 = 2 ∨ j7 = 3 by omega) with rfl | rfl | rfl | rfl
          · refine Caq_53 0 (by decide) (pc := 61) X w dX8_write_61 ?_
            refine Cgf_54_2 (pc := 62) X w kw446 dX8_write_62 ?_
            refine lv_bipush (pc := 65) (v := (12 : Int32)) hx hb dX8_write_65 (by decide) ?_
            refine Ccalli (rest := []) (CrunS (pc := 67) X w (okJ9_min_7cf53 l hJ h) kw466 kmJ9_min_7cf53 ⟨rfl, rfl⟩ ⟨by decide, by decide⟩ rfl hl.1 rfl (Nat.le_of_ble_eq_true rfl) dX8_write_67) w (fun r8 u9_ H locs h w => ?_)
            obtain ⟨rfl, h⟩ := h
            refine lv_istore (pc := 70) (lv' := [(6, .int r8), (5, .int r6), (0, .ref (ad 0)), (1, .int a1), (2, .int a2), (3, .int a3), (4, .int a4)]) hx hb dX8_write_70 hl (by decide) rfl (fun ls hl => ?_)
            refine lv_iconst (pc := 72) (v := (0 : Int32)) hx hb dX8_write_72 (by decide) ?_
            refine lv_istore (pc := 73) (lv' := [(7, .int (0 : Int32)), (6, .int r8), (5, .int r6), (0, .ref (ad 0)), (1, .int a1), (2, .int a2), (3, .int a3), (4, .int a4)]) hx hb dX8_write_73 hl (by decide) rfl (fun ls hl => ?_)
            obtain ⟨n9, h⟩ := h
            exact bX8_write_75 X n9 u5 a1 r6 r8 (0 : Int32) H locs ls h w (lv_sub hl [3, 4, 2, 1, 0] rfl)
          · refine Caq_53 1 (by decide) (pc := 61) X w dX8_write_61 ?_
            refine Cgf_56_2 (pc := 62) X w kw446 dX8_write_62 ?_
            refine lv_bipush (pc := 65) (v := (12 : Int32)) hx hb dX8_write_65 (by decide) ?_
            refine Ccalli (rest := []) (CrunS (pc := 67) X w (okJ9_min_7cf53 l hJ h) kw466 kmJ9_min_7cf53 ⟨rfl, rfl⟩ ⟨by decide, by decide⟩ rfl hl.1 rfl (Nat.le_of_ble_eq_true rfl) dX8_write_67) w (fun r8 u9_ H locs h w => ?_)
            obtain ⟨rfl, h⟩ := h
            refine lv_istore (pc := 70) (lv' := [(6, .int r8), (5, .int r6), (0, .ref (ad 0)), (1, .int a1), (2, .int a2), (3, .int a3), (4, .int a4)]) hx hb dX8_write_70 hl (by decide) rfl (fun ls hl => ?_)
            refine lv_iconst (pc := 72) (v := (0 : Int32)) hx hb dX8_write_72 (by decide) ?_
            refine lv_istore (pc := 73) (lv' := [(7, .int (0 : Int32)), (6, .int r8), (5, .int r6), (0, .ref (ad 0)), (1, .int a1), (2, .int a2), (3, .int a3), (4, .int a4)]) hx hb dX8_write_73 hl (by decide) rfl (fun ls hl => ?_)
            obtain ⟨n9, h⟩ := h
            exact bX8_write_75 X n9 u5 a1 r6 r8 (0 : Int32) H locs ls h w (lv_sub hl [3, 4, 2, 1, 0] rfl)
          · refine Caq_53 2 (by decide) (pc := 61) X w dX8_write_61 ?_
            refine Cgf_58_2 (pc := 62) X w kw446 dX8_write_62 ?_
            refine lv_bipush (pc := 65) (v := (12 : Int32)) hx hb dX8_write_65 (by decide) ?_
            refine Ccalli (rest := []) (CrunS (pc := 67) X w (okJ9_min_7cf53 l hJ h) kw466 kmJ9_min_7cf53 ⟨rfl, rfl⟩ ⟨by decide, by decide⟩ rfl hl.1 rfl (Nat.le_of_ble_eq_true rfl) dX8_write_67) w (fun r8 u9_ H locs h w => ?_)
            obtain ⟨rfl, h⟩ := h
            refine lv_istore (pc := 70) (lv' := [(6, .int r8), (5, .int r6), (0, .ref (ad 0)), (1, .int a1), (2, .int a2), (3, .int a3), (4, .int a4)]) hx hb dX8_write_70 hl (by decide) rfl (fun ls hl => ?_)
            refine lv_iconst (pc := 72) (v := (0 : Int32)) hx hb dX8_write_72 (by decide) ?_
            refine lv_istore (pc := 73) (lv' := [(7, .int (0 : Int32)), (6, .int r8), (5, .int r6), (0, .ref (ad 0)), (1, .int a1), (2, .int a2), (3, .int a3), (4, .int a4)]) hx hb dX8_write_73 hl (by decide) rfl (fun ls hl => ?_)
            obtain ⟨n9, h⟩ := h
            exact bX8_write_75 X n9 u5 a1 r6 r8 (0 : Int32) H locs ls h w (lv_sub hl [3, 4, 2, 1, 0] rfl)
          · refine Caq_53 3 (by decide) (pc := 61) X w dX8_write_61 ?_
            refine Cgf_60_2 (pc := 62) X w kw446 dX8_write_62 ?_
            refine lv_bipush (pc := 65) (v := (12 : Int32)) hx hb dX8_write_65 (by decide) ?_
            refine Ccalli (rest := []) (CrunS (pc := 67) X w (okJ9_min_7cf53 l hJ h) kw466 kmJ9_min_7cf53 ⟨rfl, rfl⟩ ⟨by decide, by decide⟩ rfl hl.1 rfl (Nat.le_of_ble_eq_true rfl) dX8_write_67) w (fun r8 u9_ H locs h w => ?_)
            obtain ⟨rfl, h⟩ := h
            refine lv_istore (pc := 70) (lv' := [(6, .int r8), (5, .int r6), (0, .ref (ad 0)), (1, .int a1), (2, .int a2), (3, .int a3), (4, .int a4)]) hx hb dX8_write_70 hl (by decide) rfl (fun ls hl => ?_)
            refine lv_iconst (pc := 72) (v := (0 : Int32)) hx hb dX8_write_72 (by decide) ?_
            refine lv_istore (pc := 73) (lv' := [(7, .int (0 : Int32)), (6, .int r8), (5, .int r6), (0, .ref (ad 0)), (1, .int a1), (2, .int a2), (3, .int a3), (4, .int a4)]) hx hb dX8_write_73 hl (by decide) rfl (fun ls hl => ?_)
            obtain ⟨n9, h⟩ := h
            exact bX8_write_75 X n9 u5 a1 r6 r8 (0 : Int32) H locs ls h w (lv_sub hl [3, 4, 2, 1, 0] rfl)
        · have h := h.2 c_
          refine lv_aload_n (pc := 33) hx hb dX8_write_33 rfl (lv_at hl 0 rfl) ?_
          refine lv_iconst (pc := 34) (v := (1 : Int32)) hx hb dX8_write_34 (by decide) ?_
          refine Ccalli (rest := []) (CrunV (pc := 35) X w (okX8_found l hJ h) kw441 kmX8_found ⟨rfl, rfl⟩ ⟨by decide, by decide⟩ (Crv_0 X w) rfl hl.1 rfl (Nat.le_of_ble_eq_true rfl) dX8_write_35) w (fun r508 u509 H locs h w => ?_)
          exact Ciret (pc := 38) X w h dX8_write_38
      · refine Caq_53 3 (by decide) (pc := 26) X w dX8_write_26 ?_
        refine Cgf_60_3 (pc := 27) X w kw445 dX8_write_27 ?_
        refine lv_if_eq (pc := 30) (tgt := 39) hx hb dX8_write_30 (by decide) (fun c_ => ?_) (fun c_ => ?_)
        · have h := h.1 c_
          refine lv_aload_n (pc := 39) hx hb dX8_write_39 rfl (lv_at hl 0 rfl) ?_
          refine Cgf_0_1 (pc := 40) X w kw264 dX8_write_40 ?_
          refine Ccallv (rest := []) (CrunV (pc := 43) X w (okX6_settleAll l hJ h) kw331 kmX6_settleAll ⟨rfl, rfl⟩ ⟨by decide, by decide⟩ (Crv_10 X w) rfl hl.1 rfl (Nat.le_of_ble_eq_true rfl) dX8_write_43) w (fun u5 H locs h w => ?_)
          refine lv_iload_n (pc := 46) hx hb dX8_write_46 rfl (lv_at hl 2 rfl) ?_
          refine lv_iload_n (pc := 47) hx hb dX8_write_47 rfl (lv_at hl 3 rfl) ?_
          refine lv_iload (pc := 48) hx hb dX8_write_48 (lv_at hl 4 rfl) ?_
          refine lv_iconst (pc := 50) (v := (0 : Int32)) hx hb dX8_write_50 (by decide) ?_
          refine Ccalli (rest := []) (CrunS (pc := 51) X w (okX8_cellCode l hJ h) kw270 kmX8_cellCode ⟨rfl, rfl⟩ ⟨by decide, by decide⟩ rfl hl.1 rfl (Nat.le_of_ble_eq_true rfl) dX8_write_51) w (fun r6 u9_ H locs h w => ?_)
          obtain ⟨rfl, h⟩ := h
          refine lv_istore (pc := 54) (lv' := [(5, .int r6), (0, .ref (ad 0)), (1, .int a1), (2, .int a2), (3, .int a3), (4, .int a4)]) hx hb dX8_write_54 hl (by decide) rfl (fun ls hl => ?_)
          refine lv_aload_n (pc := 56) hx hb dX8_write_56 rfl (lv_at hl 1 rfl) ?_
          refine Cgf_0_6 (pc := 57) X w kw435 dX8_write_57 ?_
          refine lv_iload_n (pc := 60) hx hb dX8_write_60 rfl (lv_at hl 2 rfl) ?_
          obtain ⟨j7, hj_, e_⟩ := vp_in_of h.1 (by decide)
          have h := h.2 j7 hj_ e_
          refine W.eq (g2 := F0 m 61 ls (.int (nI j7) :: .ref (ad 53) :: [])) (by rw [e_]) ?_
          clear e_
          rcases (show j7 = 0 ∨ j7 = 1 ∨ j7 = 2 ∨ j7 = 3 by omega) with rfl | rfl | rfl | rfl
          · refine Caq_53 0 (by decide) (pc := 61) X w dX8_write_61 ?_
            refine Cgf_54_2 (pc := 62) X w kw446 dX8_write_62 ?_
            refine lv_bipush (pc := 65) (v := (12 : Int32)) hx hb dX8_write_65 (by decide) ?_
            refine Ccalli (rest := []) (CrunS (pc := 67) X w (okJ9_min_7cf53 l hJ h) kw466 kmJ9_min_7cf53 ⟨rfl, rfl⟩ ⟨by decide, by decide⟩ rfl hl.1 rfl (Nat.le_of_ble_eq_true rfl) dX8_write_67) w (fun r8 u9_ H locs h w => ?_)
            obtain ⟨rfl, h⟩ := h
            refine lv_istore (pc := 70) (lv' := [(6, .int r8), (5, .int r6), (0, .ref (ad 0)), (1, .int a1), (2, .int a2), (3, .int a3), (4, .int a4)]) hx hb dX8_write_70 hl (by decide) rfl (fun ls hl => ?_)
            refine lv_iconst (pc := 72) (v := (0 : Int32)) hx hb dX8_write_72 (by decide) ?_
            refine lv_istore (pc := 73) (lv' := [(7, .int (0 : Int32)), (6, .int r8), (5, .int r6), (0, .ref (ad 0)), (1, .int a1), (2, .int a2), (3, .int a3), (4, .int a4)]) hx hb dX8_write_73 hl (by decide) rfl (fun ls hl => ?_)
            obtain ⟨n9, h⟩ := h
            exact bX8_write_75 X n9 u5 a1 r6 r8 (0 : Int32) H locs ls h w (lv_sub hl [3, 4, 2, 1, 0] rfl)
          · refine Caq_53 1 (by decide) (pc := 61) X w dX8_write_61 ?_
            refine Cgf_56_2 (pc := 62) X w kw446 dX8_write_62 ?_
            refine lv_bipush (pc := 65) (v := (12 : Int32)) hx hb dX8_write_65 (by decide) ?_
            refine Ccalli (rest := []) (CrunS (pc := 67) X w (okJ9_min_7cf53 l hJ h) kw466 kmJ9_min_7cf53 ⟨rfl, rfl⟩ ⟨by decide, by decide⟩ rfl hl.1 rfl (Nat.le_of_ble_eq_true rfl) dX8_write_67) w (fun r8 u9_ H locs h w => ?_)
            obtain ⟨rfl, h⟩ := h
            refine lv_istore (pc := 70) (lv' := [(6, .int r8), (5, .int r6), (0, .ref (ad 0)), (1, .int a1), (2, .int a2), (3, .int a3), (4, .int a4)]) hx hb dX8_write_70 hl (by decide) rfl (fun ls hl => ?_)
            refine lv_iconst (pc := 72) (v := (0 : Int32)) hx hb dX8_write_72 (by decide) ?_
            refine lv_istore (pc := 73) (lv' := [(7, .int (0 : Int32)), (6, .int r8), (5, .int r6), (0, .ref (ad 0)), (1, .int a1), (2, .int a2), (3, .int a3), (4, .int a4)]) hx hb dX8_write_73 hl (by decide) rfl (fun ls hl => ?_)
            obtain ⟨n9, h⟩ := h
            exact bX8_write_75 X n9 u5 a1 r6 r8 (0 : Int32) H locs ls h w (lv_sub hl [3, 4, 2, 1, 0] rfl)
          · refine Caq_53 2 (by decide) (pc := 61) X w dX8_write_61 ?_
            refine Cgf_58_2 (pc := 62) X w kw446 dX8_write_62 ?_
            refine lv_bipush (pc := 65) (v := (12 : Int32)) hx hb dX8_write_65 (by decide) ?_
            refine Ccalli (rest := []) (CrunS (pc := 67) X w (okJ9_min_7cf53 l hJ h) kw466 kmJ9_min_7cf53 ⟨rfl, rfl⟩ ⟨by decide, by decide⟩ rfl hl.1 rfl (Nat.le_of_ble_eq_true rfl) dX8_write_67) w (fun r8 u9_ H locs h w => ?_)
            obtain ⟨rfl, h⟩ := h
            refine lv_istore (pc := 70) (lv' := [(6, .int r8), (5, .int r6), (0, .ref (ad 0)), (1, .int a1), (2, .int a2), (3, .int a3), (4, .int a4)]) hx hb dX8_write_70 hl (by decide) rfl (fun ls hl => ?_)
            refine lv_iconst (pc := 72) (v := (0 : Int32)) hx hb dX8_write_72 (by decide) ?_
            refine lv_istore (pc := 73) (lv' := [(7, .int (0 : Int32)), (6, .int r8), (5, .int r6), (0, .ref (ad 0)), (1, .int a1), (2, .int a2), (3, .int a3), (4, .int a4)]) hx hb dX8_write_73 hl (by decide) rfl (fun ls hl => ?_)
            obtain ⟨n9, h⟩ := h
            exact bX8_write_75 X n9 u5 a1 r6 r8 (0 : Int32) H locs ls h w (lv_sub hl [3, 4, 2, 1, 0] rfl)
          · refine Caq_53 3 (by decide) (pc := 61) X w dX8_write_61 ?_
            refine Cgf_60_2 (pc := 62) X w kw446 dX8_write_62 ?_
            refine lv_bipush (pc := 65) (v := (12 : Int32)) hx hb dX8_write_65 (by decide) ?_
            refine Ccalli (rest := []) (CrunS (pc := 67) X w (okJ9_min_7cf53 l hJ h) kw466 kmJ9_min_7cf53 ⟨rfl, rfl⟩ ⟨by decide, by decide⟩ rfl hl.1 rfl (Nat.le_of_ble_eq_true rfl) dX8_write_67) w (fun r8 u9_ H locs h w => ?_)
            obtain ⟨rfl, h⟩ := h
            refine lv_istore (pc := 70) (lv' := [(6, .int r8), (5, .int r6), (0, .ref (ad 0)), (1, .int a1), (2, .int a2), (3, .int a3), (4, .int a4)]) hx hb dX8_write_70 hl (by decide) rfl (fun ls hl => ?_)
            refine lv_iconst (pc := 72) (v := (0 : Int32)) hx hb dX8_write_72 (by decide) ?_
            refine lv_istore (pc := 73) (lv' := [(7, .int (0 : Int32)), (6, .int r8), (5, .int r6), (0, .ref (ad 0)), (1, .int a1), (2, .int a2), (3, .int a3), (4, .int a4)]) hx hb dX8_write_73 hl (by decide) rfl (fun ls hl => ?_)
            obtain ⟨n9, h⟩ := h
            exact bX8_write_75 X n9 u5 a1 r6 r8 (0 : Int32) H locs ls h w (lv_sub hl [3, 4, 2, 1, 0] rfl)
        · have h := h.2 c_
          refine lv_aload_n (pc := 33) hx hb dX8_write_33 rfl (lv_at hl 0 rfl) ?_
          refine lv_iconst (pc := 34) (v := (1 : Int32)) hx hb dX8_write_34 (by decide) ?_
          refine Ccalli (rest := []) (CrunV (pc := 35) X w (okX8_found l hJ h) kw441 kmX8_found ⟨rfl, rfl⟩ ⟨by decide, by decide⟩ (Crv_0 X w) rfl hl.1 rfl (Nat.le_of_ble_eq_true rfl) dX8_write_35) w (fun r508 u509 H locs h w => ?_)
          exact Ciret (pc := 38) X w h dX8_write_38
    · have h := h.1 c_
      refine lv_bipush (pc := 18) (v := (-2 : Int32)) hx hb dX8_write_18 (by decide) ?_
      exact Ciret (pc := 20) X w h dX8_write_20
