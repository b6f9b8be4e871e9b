set_option maxHeartbeats 4000000 in
set_option maxRecDepth 100000 in
theorem okX9_weight (l : Launch) {D : va_G} {g : Nat → ClassId} {ad : Nat → Nat} (hJ : RJ ad) {u : Mm} {a1 : Int32} {Q : Int32 → Mm → Prop} (h : wX9_weight u a1 Q) : Met l yX9_weight (Cond.code yX9_weight cX9_weight 2 (some .int) :: gt) ({ frames := 4, cells := 0, slots := 0, locals := 107 } : Room) (RPc D g ad u [.ref (ad 0), .int a1]) (va_Qi Q (RB D g ad) (RA ad)) 0 0 (RA ad) := by
  refine Met.ofW (cc := cX9_weight) (maxL := 2) (ret := (some .int)) (by decide) rfl ?_
  intro p e s m args below meth c s₁ B hml hv
  refine Rentry (own := RX9) B hml hv hJ rfl (Nat.le_of_ble_eq_true rfl) (fun ls H locs X w hl => ?_)
  obtain ⟨⟨hx, hb, hml, hown, hts⟩, hr, hlocks, hK, hJ, hAA⟩ := id X
  have hl : lv_has ls 2 [(0, .ref (ad 0)), (1, .int a1)] := hl
  unfold wX9_weight at h
  refine lv_iload_n (pc := 0) hx hb dX9_weight_0 rfl (lv_at hl 1 rfl) ?_
  refine Rcalli (rest := []) (RrunS (pc := 1) X w (okX9_isCode l hJ h) kw509 kmX9_isCode ⟨rfl, rfl⟩ ⟨by decide, by decide⟩ rfl hl.1 rfl (Nat.le_of_ble_eq_true rfl) dX9_weight_1) w (fun r1 u9_ H locs h w => ?_)
  obtain ⟨hz_r1, h⟩ := h
  obtain ⟨rfl, h⟩ := h
  refine lv_if_ne (pc := 4) (tgt := 10) hx hb dX9_weight_4 (by decide) (fun c_ => ?_) (fun c_ => ?_)
  · have h := h.2 c_
    refine lv_aload_n (pc := 10) hx hb dX9_weight_10 rfl (lv_at hl 0 rfl) ?_
    refine Rcallv (rest := []) (RrunV (pc := 11) X w (okX9_looks l hJ h) kw595 kmX9_looks ⟨rfl, rfl⟩ ⟨by decide, by decide⟩ (Rrv_0 X w) rfl hl.1 rfl (Nat.le_of_ble_eq_true rfl) dX9_weight_11) w (fun u3 H locs h w => ?_)
    refine lv_aload_n (pc := 14) hx hb dX9_weight_14 rfl (lv_at hl 0 rfl) ?_
    refine Rgf_0_10 (pc := 15) X w kw556 dX9_weight_15 ?_
    refine lv_iload_n (pc := 18) hx hb dX9_weight_18 rfl (lv_at hl 1 rfl) ?_
    refine Rld_8 (pc := 19) X w h.1 dX9_weight_19 ?_
    have h := h.2
    exact Riret (pc := 20) X w h dX9_weight_20
  · have h := h.1 c_
    refine lv_bipush (pc := 7) (v := (-2 : Int32)) hx hb dX9_weight_7 (by decide) ?_
    exact Riret (pc := 9) X w h dX9_weight_9
set_option maxHeartbeats 4000000 in
set_option maxRecDepth 100000 in
theorem okX9_bent (l : Launch) {D : va_G} {g : Nat → ClassId} {ad : Nat → Nat} (hJ : RJ ad) {u : Mm} {a1 : Int32} {Q : Int64 → Mm → Prop} (h : wX9_bent u a1 Q) : Met l yX9_bent (Cond.code yX9_bent cX9_bent 2 (some .long) :: gt) ({ frames := 4, cells := 0, slots := 0, locals := 107 } : Room) (RPc D g ad u [.ref (ad 0), .int a1]) (va_Ql Q (RB D g ad) (RA ad)) 0 0 (RA ad) := by
  refine Met.ofW (cc := cX9_bent) (maxL := 2) (ret := (some .long)) (by decide) rfl ?_
  intro p e s m args below meth c s₁ B hml hv
  refine Rentry (own := RX9) B hml hv hJ rfl (Nat.le_of_ble_eq_true rfl) (fun ls H locs X w hl => ?_)
  obtain ⟨⟨hx, hb, hml, hown, hts⟩, hr, hlocks, hK, hJ, hAA⟩ := id X
  have hl : lv_has ls 2 [(0, .ref (ad 0)), (1, .int a1)] := hl
  unfold wX9_bent at h
  refine lv_iload_n (pc := 0) hx hb dX9_bent_0 rfl (lv_at hl 1 rfl) ?_
  refine Rcalli (rest := []) (RrunS (pc := 1) X w (okX9_isCell l hJ h) kw524 kmX9_isCell ⟨rfl, rfl⟩ ⟨by decide, by decide⟩ rfl hl.1 rfl (Nat.le_of_ble_eq_true rfl) dX9_bent_1) w (fun r1 u9_ H locs h w => ?_)
  obtain ⟨hz_r1, h⟩ := h
  obtain ⟨rfl, h⟩ := h
  refine lv_if_ne (pc := 4) (tgt := 11) hx hb dX9_bent_4 (by decide) (fun c_ => ?_) (fun c_ => ?_)
  · have h := h.2 c_
    refine lv_aload_n (pc := 11) hx hb dX9_bent_11 rfl (lv_at hl 0 rfl) ?_
    refine Rcallv (rest := []) (RrunV (pc := 12) X w (okX9_looks l hJ h) kw595 kmX9_looks ⟨rfl, rfl⟩ ⟨by decide, by decide⟩ (Rrv_0 X w) rfl hl.1 rfl (Nat.le_of_ble_eq_true rfl) dX9_bent_12) w (fun u3 H locs h w => ?_)
    refine lv_aload_n (pc := 15) hx hb dX9_bent_15 rfl (lv_at hl 0 rfl) ?_
    refine Rgf_0_16 (pc := 16) X w kw557 dX9_bent_16 ?_
    refine lv_iload_n (pc := 19) hx hb dX9_bent_19 rfl (lv_at hl 1 rfl) ?_
    refine Rld_13 (pc := 20) X w h.1 dX9_bent_20 ?_
    have h := h.2
    exact Rlret (pc := 21) X w h dX9_bent_21
  · have h := h.1 c_
    refine lv_ldc2 (pc := 7) (v := (-9223372036854775806 : Int64)) hx hb hown (hts _ (List.mem_cons_of_mem _ kw601)) dX9_bent_7 ?_
    exact Rlret (pc := 10) X w h dX9_bent_10
set_option maxHeartbeats 4000000 in
set_option maxRecDepth 100000 in
theorem bX9_shape_49 {l : Launch} {p : Program} {e : Env} {s : State} {m : MethodId} {args : Array Value} {below : List Frame} {meth : Method} {c : Code} {D : va_G} {g : Nat → ClassId} {ad : Nat → Nat} {Q : Int64 → Mm → Prop} (X : RX p s m args meth c cX9_shape RX9 6 (some .long) (Cond.code yX9_shape cX9_shape 6 (some .long)) D g ad (RA ad)) : ∀ (n : Nat) (u : Mm) (x1 : Int32) (x2 : Int32) (x3 : Int64) (x5 : Int32) (H : Heap) (locs : List Loc) (ls : Array Slot), wX9_shape_b49 Q n u x1 x2 x3 x5 → RWd D g ad (RA ad) s u H locs → lv_has ls 6 [(0, .ref (ad 0)), (1, .int x1), (2, .int x2), (3, .long x3), (5, .int x5)] → W p l e ({ frames := 4, cells := 0, slots := 0, locals := 107 } : Room) s m args below meth c H locs 0 0 (MQ below (va_Ql Q (RB D g ad) (RA ad)) args s 0 0 (RA ad)) (F0 m 49 ls []) := by
  obtain ⟨⟨hx, hb, hml, hown, hts⟩, hr, hlocks, hK, hJ, hAA⟩ := id X
  intro n
  induction n with
  | zero =>
    intro u x1 x2 x3 x5 H locs ls h
    exact False.elim h
  | succ n ih =>
    intro u x1 x2 x3 x5 H locs ls h w hl
    unfold wX9_shape_b49 at h
    refine lv_iload (pc := 49) hx hb dX9_shape_49 (lv_at hl 4 rfl) ?_
    refine lv_iload_n (pc := 51) hx hb dX9_shape_51 rfl (lv_at hl 2 rfl) ?_
    refine lv_iconst (pc := 52) (v := (4 : Int32)) hx hb dX9_shape_52 (by decide) ?_
    refine lv_iadd (pc := 53) hx hb dX9_shape_53 ?_
    refine lv_icmp_ge (pc := 54) (tgt := 107) hx hb dX9_shape_54 (by decide) (fun c_ => ?_) (fun c_ => ?_)
    · have h := h.1 c_
      refine lv_lload_n (pc := 107) hx hb dX9_shape_107 rfl (lv_at hl 3 rfl) ?_
      exact Rlret (pc := 108) X w h dX9_shape_108
    · have h := h.2 c_
      refine lv_aload_n (pc := 57) hx hb dX9_shape_57 rfl (lv_at hl 0 rfl) ?_
      refine Rgf_0_10 (pc := 58) X w kw556 dX9_shape_58 ?_
      refine lv_iload (pc := 61) hx hb dX9_shape_61 (lv_at hl 4 rfl) ?_
      refine Rld_8 (pc := 63) X w h.1 dX9_shape_63 ?_
      have h := h.2
      refine lv_if_eq (pc := 64) (tgt := 76) hx hb dX9_shape_64 (by decide) (fun c_ => ?_) (fun c_ => ?_)
      · have h := h.1 c_
        refine lv_ldc2 (pc := 76) (v := (-9223372036854775805 : Int64)) hx hb hown (hts _ (List.mem_cons_of_mem _ kw600)) dX9_shape_76 ?_
        exact Rlret (pc := 79) X w h dX9_shape_79
      · have h := h.2 c_
        refine lv_aload_n (pc := 67) hx hb dX9_shape_67 rfl (lv_at hl 0 rfl) ?_
        refine Rgf_0_10 (pc := 68) X w kw556 dX9_shape_68 ?_
        refine lv_iload_n (pc := 71) hx hb dX9_shape_71 rfl (lv_at hl 1 rfl) ?_
        refine Rld_8 (pc := 72) X w h.1 dX9_shape_72 ?_
        have h := h.2
        refine lv_if_ne (pc := 73) (tgt := 80) hx hb dX9_shape_73 (by decide) (fun c_ => ?_) (fun c_ => ?_)
        · have h := h.2 c_
          refine lv_lload_n (pc := 80) hx hb dX9_shape_80 rfl (lv_at hl 3 rfl) ?_
          refine lv_aload_n (pc := 81) hx hb dX9_shape_81 rfl (lv_at hl 0 rfl) ?_
          refine Rgf_0_16 (pc := 82) X w kw557 dX9_shape_82 ?_
          refine lv_iload (pc := 85) hx hb dX9_shape_85 (lv_at hl 4 rfl) ?_
          refine Rld_13 (pc := 87) X w h.1 dX9_shape_87 ?_
          have h := h.2
          refine lv_aload_n (pc := 88) hx hb dX9_shape_88 rfl (lv_at hl 0 rfl) ?_
          refine Rgf_0_9 (pc := 89) X w kw558 dX9_shape_89 ?_
          refine lv_iload (pc := 92) hx hb dX9_shape_92 (lv_at hl 4 rfl) ?_
          refine Rld_7 (pc := 94) X w h.1 dX9_shape_94 ?_
          have h := h.2
          refine lv_lsub (pc := 95) hx hb dX9_shape_95 ?_
          refine Rcalll (rest := [.long x3]) (RrunS (pc := 96) X w (okX9_amount l hJ h) kw578 kmX9_amount ⟨rfl, rfl⟩ ⟨by decide, by decide⟩ rfl hl.1 rfl (Nat.le_of_ble_eq_true rfl) dX9_shape_96) w (fun r1 u9_ H locs h w => ?_)
          obtain ⟨rfl, h⟩ := h
          refine lv_ladd (pc := 99) hx hb dX9_shape_99 ?_
          refine lv_topl (fun x3_2 e_ => ?_)
          have h := h x3_2 e_
          refine lv_lstore_n (pc := 100) (lv' := [(3, .long x3_2), (0, .ref (ad 0)), (1, .int x1), (2, .int x2), (5, .int x5)]) hx hb dX9_shape_100 rfl hl (by decide) rfl (fun ls hl => ?_)
          obtain ⟨x5_3, e_⟩ : ∃ y : Int32, y = x5 + (1 : Int32) := ⟨_, rfl⟩
          have h := h x5_3 e_
          refine lv_iinc (pc := 101) (v := x5_3) (lv' := [(5, .int x5_3), (3, .long x3_2), (0, .ref (ad 0)), (1, .int x1), (2, .int x2)]) hx hb dX9_shape_101 hl (k := 4) rfl (by rw [e_]; rfl) (by decide) rfl (fun ls hl => ?_)
          refine lv_goto (pc := 104) (tgt := 49) hx hb dX9_shape_104 (by decide) ?_
          exact ih u x1 x2 x3_2 x5_3 H locs ls h w (lv_sub hl [2, 3, 4, 1, 0] rfl)
        · have h := h.1 c_
          refine lv_ldc2 (pc := 76) (v := (-9223372036854775805 : Int64)) hx hb hown (hts _ (List.mem_cons_of_mem _ kw600)) dX9_shape_76 ?_
          exact Rlret (pc := 79) X w h dX9_shape_79
set_option maxHeartbeats 4000000 in
set_option maxRecDepth 100000 in
theorem okX9_shape (l : Launch) {D : va_G} {g : Nat → ClassId} {ad : Nat → Nat} (hJ : RJ ad) {u : Mm} {a1 : Int32} {Q : Int64 → Mm → Prop} (h : wX9_shape u a1 Q) : Met l yX9_shape (Cond.code yX9_shape cX9_shape 6 (some .long) :: gt) ({ frames := 4, cells := 0, slots := 0, locals := 107 } : Room) (RPc D g ad u [.ref (ad 0), .int a1]) (va_Ql Q (RB D g ad) (RA ad)) 0 0 (RA ad) := by
  refine Met.ofW (cc := cX9_shape) (maxL := 6) (ret := (some .long)) (by decide) rfl ?_
  intro p e s m args below meth c s₁ B hml hv
  refine Rentry (own := RX9) B hml hv hJ rfl (Nat.le_of_ble_eq_true rfl) (fun ls H locs X w hl => ?_)
  obtain ⟨⟨hx, hb, hml, hown, hts⟩, hr, hlocks, hK, hJ, hAA⟩ := id X
  have hl : lv_has ls 6 [(0, .ref (ad 0)), (1, .int a1)] := hl
  unfold wX9_shape at h
  refine lv_iload_n (pc := 0) hx hb dX9_shape_0 rfl (lv_at hl 1 rfl) ?_
  refine Rcalli (rest := []) (RrunS (pc := 1) X w (okX9_isCode l hJ h) kw509 kmX9_isCode ⟨rfl, rfl⟩ ⟨by decide, by decide⟩ rfl hl.1 rfl (Nat.le_of_ble_eq_true rfl) dX9_shape_1) w (fun r1 u9_ H locs h w => ?_)
  obtain ⟨hz_r1, h⟩ := h
  obtain ⟨rfl, h⟩ := h
  refine lv_if_eq (pc := 4) (tgt := 14) hx hb dX9_shape_4 (by decide) (fun c_ => ?_) (fun c_ => ?_)
  · have h := h.1 c_
    refine lv_ldc2 (pc := 14) (v := (-9223372036854775806 : Int64)) hx hb hown (hts _ (List.mem_cons_of_mem _ kw601)) dX9_shape_14 ?_
    exact Rlret (pc := 17) X w h dX9_shape_17
  · have h := h.2 c_
    refine lv_iload_n (pc := 7) hx hb dX9_shape_7 rfl (lv_at hl 1 rfl) ?_
    refine Rcalli (rest := []) (RrunS (pc := 8) X w (okX9_isCell l hJ h) kw524 kmX9_isCell ⟨rfl, rfl⟩ ⟨by decide, by decide⟩ rfl hl.1 rfl (Nat.le_of_ble_eq_true rfl) dX9_shape_8) w (fun r2 u9_ H locs h w => ?_)
    obtain ⟨hz_r2, h⟩ := h
    obtain ⟨rfl, h⟩ := h
    refine lv_if_eq (pc := 11) (tgt := 18) hx hb dX9_shape_11 (by decide) (fun c_ => ?_) (fun c_ => ?_)
    · have h := h.1 c_
      refine lv_aload_n (pc := 18) hx hb dX9_shape_18 rfl (lv_at hl 0 rfl) ?_
      refine Rcallv (rest := []) (RrunV (pc := 19) X w (okX9_looks l hJ h) kw595 kmX9_looks ⟨rfl, rfl⟩ ⟨by decide, by decide⟩ (Rrv_0 X w) rfl hl.1 rfl (Nat.le_of_ble_eq_true rfl) dX9_shape_19) w (fun u4 H locs h w => ?_)
      refine lv_iload_n (pc := 22) hx hb dX9_shape_22 rfl (lv_at hl 1 rfl) ?_
      refine Rcalli (rest := []) (RrunS (pc := 23) X w (okX9_landOf l hJ h) kw512 kmX9_landOf ⟨rfl, rfl⟩ ⟨by decide, by decide⟩ rfl hl.1 rfl (Nat.le_of_ble_eq_true rfl) dX9_shape_23) w (fun r5 u9_ H locs h w => ?_)
      obtain ⟨rfl, h⟩ := h
      refine lv_iload_n (pc := 26) hx hb dX9_shape_26 rfl (lv_at hl 1 rfl) ?_
      refine Rcalli (rest := [.int r5]) (RrunS (pc := 27) X w (okX9_productOf l hJ h) kw515 kmX9_productOf ⟨rfl, rfl⟩ ⟨by decide, by decide⟩ rfl hl.1 rfl (Nat.le_of_ble_eq_true rfl) dX9_shape_27) w (fun r6 u9_ H locs h w => ?_)
      obtain ⟨rfl, h⟩ := h
      refine lv_iload_n (pc := 30) hx hb dX9_shape_30 rfl (lv_at hl 1 rfl) ?_
      refine Rcalli (rest := [.int r6, .int r5]) (RrunS (pc := 31) X w (okX9_columnOf l hJ h) kw518 kmX9_columnOf ⟨rfl, rfl⟩ ⟨by decide, by decide⟩ rfl hl.1 rfl (Nat.le_of_ble_eq_true rfl) dX9_shape_31) w (fun r7 u9_ H locs h w => ?_)
      obtain ⟨rfl, h⟩ := h
      refine lv_iconst (pc := 34) (v := (4 : Int32)) hx hb dX9_shape_34 (by decide) ?_
      refine lv_iload_n (pc := 35) hx hb dX9_shape_35 rfl (lv_at hl 1 rfl) ?_
      refine Rcalli (rest := [.int (4 : Int32), .int r7, .int r6, .int r5]) (RrunS (pc := 36) X w (okX9_timeOf l hJ h) kw521 kmX9_timeOf ⟨rfl, rfl⟩ ⟨by decide, by decide⟩ rfl hl.1 rfl (Nat.le_of_ble_eq_true rfl) dX9_shape_36) w (fun r8 u9_ H locs h w => ?_)
      obtain ⟨rfl, h⟩ := h
      refine lv_imul (pc := 39) hx hb dX9_shape_39 ?_
      refine Rcalli (rest := []) (RrunS (pc := 40) X w (okX9_cellOf l hJ h) kw502 kmX9_cellOf ⟨rfl, rfl⟩ ⟨by decide, by decide⟩ rfl hl.1 rfl (Nat.le_of_ble_eq_true rfl) dX9_shape_40) w (fun r9 u9_ H locs h w => ?_)
      obtain ⟨rfl, h⟩ := h
      refine lv_istore_n (pc := 43) (lv' := [(2, .int r9), (0, .ref (ad 0)), (1, .int a1)]) hx hb dX9_shape_43 rfl hl (by decide) rfl (fun ls hl => ?_)
      refine lv_lconst (pc := 44) (v := (0 : Int64)) hx hb dX9_shape_44 (by decide) ?_
      refine lv_lstore_n (pc := 45) (lv' := [(3, .long (0 : Int64)), (2, .int r9), (0, .ref (ad 0)), (1, .int a1)]) hx hb dX9_shape_45 rfl hl (by decide) rfl (fun ls hl => ?_)
      refine lv_iload_n (pc := 46) hx hb dX9_shape_46 rfl (lv_at hl 1 rfl) ?_
      refine lv_istore (pc := 47) (lv' := [(5, .int r9), (3, .long (0 : Int64)), (2, .int r9), (0, .ref (ad 0)), (1, .int a1)]) hx hb dX9_shape_47 hl (by decide) rfl (fun ls hl => ?_)
      obtain ⟨n9, h⟩ := h
      exact bX9_shape_49 X n9 u4 a1 r9 (0 : Int64) r9 H locs ls h w (lv_sub hl [3, 4, 2, 1, 0] rfl)
    · have h := h.2 c_
      refine lv_ldc2 (pc := 14) (v := (-9223372036854775806 : Int64)) hx hb hown (hts _ (List.mem_cons_of_mem _ kw601)) dX9_shape_14 ?_
      exact Rlret (pc := 17) X w h dX9_shape_17
set_option maxHeartbeats 4000000 in
set_option maxRecDepth 100000 in
theorem bX9_fix_42 {l : Launch} {p : Program} {e : Env} {s : State} {m : MethodId} {args : Array Value} {below : List Frame} {meth : Method} {c : Code} {D : va_G} {g : Nat → ClassId} {ad : Nat → Nat} {Q : Int32 → Mm → Prop} (X : RX p s m args meth c cX9_fix RX9 7 (some .int) (Cond.code yX9_fix cX9_fix 7 (some .int)) D g ad (RA ad)) : ∀ (u : Mm) (x4 : Int32) (x5 : Int32) (y0 : Int32) (H : Heap) (locs : List Loc) (ls : Array Slot), wX9_fix_b42 Q u x4 x5 y0 → RWd D g ad (RA ad) s u H locs → lv_has ls 7 [(0, .ref (ad 0)), (4, .int x4), (5, .int x5)] → W p l e ({ frames := 2, cells := 0, slots := 0, locals := 47 } : Room) s m args below meth c H locs 0 0 (MQ below (va_Qi Q (RB D g ad) (RA ad)) args s 0 0 (RA ad)) (F0 m 42 ls [.int y0]) := by
  obtain ⟨⟨hx, hb, hml, hown, hts⟩, hr, hlocks, hK, hJ, hAA⟩ := id X
  intro u x4 x5 y0 H locs ls h w hl
  unfold wX9_fix_b42 at h
  refine lv_istore (pc := 42) (lv' := [(6, .int y0), (0, .ref (ad 0)), (4, .int x4), (5, .int x5)]) hx hb dX9_fix_42 hl (by decide) rfl (fun ls hl => ?_)
  refine lv_aload_n (pc := 44) hx hb dX9_fix_44 rfl (lv_at hl 1 rfl) ?_
  refine Rgf_0_17 (pc := 45) X w kw569 dX9_fix_45 ?_
  refine lv_iload (pc := 48) hx hb dX9_fix_48 (lv_at hl 3 rfl) ?_
  refine lv_iload (pc := 50) hx hb dX9_fix_50 (lv_at hl 2 rfl) ?_
  refine Rst_14 (pc := 52) X w h.1 dX9_fix_52 (fun H locs w => ?_)
  have h := h.2
  obtain ⟨u1, e_⟩ : ∃ y : Mm, y = s32 u 14 x5.toNatClampNeg (vp_nar .boolean x4) := ⟨_, rfl⟩
  rw [← e_] at w
  have h := h u1 e_
  refine lv_aload_n (pc := 53) hx hb dX9_fix_53 rfl (lv_at hl 1 rfl) ?_
  refine lv_iconst (pc := 54) (v := (0 : Int32)) hx hb dX9_fix_54 (by decide) ?_
  refine Rpf_0_7 (pc := 55) X w kw529 rfl rfl dX9_fix_55 (fun H locs w => ?_)
  obtain ⟨u2, e_⟩ : ∃ y : Mm, y = s32 u1 107 0 (0 : Int32) := ⟨_, rfl⟩
  rw [← e_] at w
  have h := h u2 e_
  refine lv_iload (pc := 58) hx hb dX9_fix_58 (lv_at hl 0 rfl) ?_
  refine lv_if_eq (pc := 60) (tgt := 67) hx hb dX9_fix_60 (by decide) (fun c_ => ?_) (fun c_ => ?_)
  · have h := h.1 c_
    refine lv_iconst (pc := 67) (v := (1 : Int32)) hx hb dX9_fix_67 (by decide) ?_
    exact Riret (pc := 68) X w h dX9_fix_68
  · have h := h.2 c_
    refine lv_iconst (pc := 63) (v := (0 : Int32)) hx hb dX9_fix_63 (by decide) ?_
    refine lv_goto (pc := 64) (tgt := 68) hx hb dX9_fix_64 (by decide) ?_
    exact Riret (pc := 68) X w h dX9_fix_68
set_option maxHeartbeats 4000000 in
set_option maxRecDepth 100000 in
theorem okX9_fix (l : Launch) {D : va_G} {g : Nat → ClassId} {ad : Nat → Nat} (hJ : RJ ad) {u : Mm} {a1 : Int32} {a2 : Int32} {a3 : Int32} {a4 : Int32} {Q : Int32 → Mm → Prop} (h : wX9_fix u a1 a2 a3 a4 Q) : Met l yX9_fix (Cond.code yX9_fix cX9_fix 7 (some .int) :: gt) ({ frames := 2, cells := 0, slots := 0, locals := 47 } : Room) (RPc D g ad u [.ref (ad 0), .int a1, .int a2, .int a3, .int a4]) (va_Qi Q (RB D g ad) (RA ad)) 0 0 (RA ad) := by
  refine Met.ofW (cc := cX9_fix) (maxL := 7) (ret := (some .int)) (by decide) rfl ?_
  intro p e s m args below meth c s₁ B hml hv
  refine Rentry (own := RX9) B hml hv hJ rfl (Nat.le_of_ble_eq_true rfl) (fun ls H locs X w hl => ?_)
  obtain ⟨⟨hx, hb, hml, hown, hts⟩, hr, hlocks, hK, hJ, hAA⟩ := id X
  have hl : lv_has ls 7 [(0, .ref (ad 0)), (1, .int a1), (2, .int a2), (3, .int a3), (4, .int a4)] := hl
  unfold wX9_fix at h
  refine lv_iload_n (pc := 0) hx hb dX9_fix_0 rfl (lv_at hl 1 rfl) ?_
  refine lv_iload_n (pc := 1) hx hb dX9_fix_1 rfl (lv_at hl 2 rfl) ?_
  refine lv_iload_n (pc := 2) hx hb dX9_fix_2 rfl (lv_at hl 3 rfl) ?_
  refine Rcalli (rest := []) (RrunS (pc := 3) X w (okX9_areThere l hJ h) kw498 kmX9_areThere ⟨rfl, rfl⟩ ⟨by decide, by decide⟩ rfl hl.1 rfl (Nat.le_of_ble_eq_true rfl) dX9_fix_3) w (fun r1 u9_ H locs h w => ?_)
  obtain ⟨hz_r1, h⟩ := h
  obtain ⟨rfl, h⟩ := h
  refine lv_if_ne (pc := 6) (tgt := 12) hx hb dX9_fix_6 (by decide) (fun c_ => ?_) (fun c_ => ?_)
  · have h := h.2 c_
    refine lv_bipush (pc := 12) (v := (24 : Int32)) hx hb dX9_fix_12 (by decide) ?_
    refine lv_iload_n (pc := 14) hx hb dX9_fix_14 rfl (lv_at hl 1 rfl) ?_
    refine lv_imul (pc := 15) hx hb dX9_fix_15 ?_
    refine lv_bipush (pc := 16) (v := (6 : Int32)) hx hb dX9_fix_16 (by decide) ?_
    refine lv_iload_n (pc := 18) hx hb dX9_fix_18 rfl (lv_at hl 2 rfl) ?_
    refine lv_imul (pc := 19) hx hb dX9_fix_19 ?_
    refine lv_iadd (pc := 20) hx hb dX9_fix_20 ?_
    refine lv_iload_n (pc := 21) hx hb dX9_fix_21 rfl (lv_at hl 3 rfl) ?_
    refine lv_iadd (pc := 22) hx hb dX9_fix_22 ?_
    refine lv_topi (fun x5_2 e_ => ?_)
    have h := h x5_2 e_
    refine lv_istore (pc := 23) (lv' := [(5, .int x5_2), (0, .ref (ad 0)), (1, .int a1), (2, .int a2), (3, .int a3), (4, .int a4)]) hx hb dX9_fix_23 hl (by decide) rfl (fun ls hl => ?_)
    refine lv_aload_n (pc := 25) hx hb dX9_fix_25 rfl (lv_at hl 1 rfl) ?_
    refine Rgf_0_17 (pc := 26) X w kw569 dX9_fix_26 ?_
    refine lv_iload (pc := 29) hx hb dX9_fix_29 (lv_at hl 0 rfl) ?_
    refine Rld_14 (pc := 31) X w h.1 dX9_fix_31 ?_
    have h := h.2
    refine lv_iload (pc := 32) hx hb dX9_fix_32 (lv_at hl 5 rfl) ?_
    refine lv_icmp_ne (pc := 34) (tgt := 41) hx hb dX9_fix_34 (by decide) (fun c_ => ?_) (fun c_ => ?_)
    · have h := h.2 c_
      refine lv_iconst (pc := 41) (v := (0 : Int32)) hx hb dX9_fix_41 (by decide) ?_
      exact bX9_fix_42 X u a4 x5_2 (0 : Int32) H locs ls h w (lv_sub hl [1, 5, 0] rfl)
    · have h := h.1 c_
      refine lv_iconst (pc := 37) (v := (1 : Int32)) hx hb dX9_fix_37 (by decide) ?_
      refine lv_goto (pc := 38) (tgt := 42) hx hb dX9_fix_38 (by decide) ?_
      exact bX9_fix_42 X u a4 x5_2 (1 : Int32) H locs ls h w (lv_sub hl [1, 5, 0] rfl)
  · have h := h.1 c_
    refine lv_bipush (pc := 9) (v := (-2 : Int32)) hx hb dX9_fix_9 (by decide) ?_
    exact Riret (pc := 11) X w h dX9_fix_11
set_option maxHeartbeats 4000000 in
set_option maxRecDepth 100000 in
theorem okX9_rule (l : Launch) {D : va_G} {g : Nat → ClassId} {ad : Nat → Nat} (hJ : RJ ad) {u : Mm} {a1 : Int32} {Q : Int32 → Mm → Prop} (h : wX9_rule u a1 Q) : Met l yX9_rule (Cond.code yX9_rule cX9_rule 3 (some .int) :: gt) ({ frames := 1, cells := 0, slots := 0, locals := 25 } : Room) (RPc D g ad u [.ref (ad 0), .int a1]) (va_Qi Q (RB D g ad) (RA ad)) 0 0 (RA ad) := by
  refine Met.ofW (cc := cX9_rule) (maxL := 3) (ret := (some .int)) (by decide) rfl ?_
  intro p e s m args below meth c s₁ B hml hv
  refine Rentry (own := RX9) B hml hv hJ rfl (Nat.le_of_ble_eq_true rfl) (fun ls H locs X w hl => ?_)
  obtain ⟨⟨hx, hb, hml, hown, hts⟩, hr, hlocks, hK, hJ, hAA⟩ := id X
  have hl : lv_has ls 3 [(0, .ref (ad 0)), (1, .int a1)] := hl
  unfold wX9_rule at h
  refine lv_iload_n (pc := 0) hx hb dX9_rule_0 rfl (lv_at hl 1 rfl) ?_
  refine lv_i2l (pc := 1) hx hb dX9_rule_1 rfl ?_
  refine lv_lconst (pc := 2) (v := (0 : Int64)) hx hb dX9_rule_2 (by decide) ?_
  refine lv_lconst (pc := 3) (v := (1 : Int64)) hx hb dX9_rule_3 (by decide) ?_
  refine Rcalli (rest := []) (RrunS (pc := 4) X w (okX9_in l hJ h) kw490 kmX9_in ⟨rfl, rfl⟩ ⟨by decide, by decide⟩ rfl hl.1 rfl (Nat.le_of_ble_eq_true rfl) dX9_rule_4) w (fun r1 u9_ H locs h w => ?_)
  obtain ⟨hz_r1, h⟩ := h
  obtain ⟨rfl, h⟩ := h
  refine lv_if_ne (pc := 7) (tgt := 13) hx hb dX9_rule_7 (by decide) (fun c_ => ?_) (fun c_ => ?_)
  · have h := h.2 c_
    refine lv_aload_n (pc := 13) hx hb dX9_rule_13 rfl (lv_at hl 0 rfl) ?_
    refine Rgf_0_18 (pc := 14) X w kw575 dX9_rule_14 ?_
    refine lv_topi (fun x2_2 e_ => ?_)
    have h := h x2_2 e_
    refine lv_istore_n (pc := 17) (lv' := [(2, .int x2_2), (0, .ref (ad 0)), (1, .int a1)]) hx hb dX9_rule_17 rfl hl (by decide) rfl (fun ls hl => ?_)
    refine lv_aload_n (pc := 18) hx hb dX9_rule_18 rfl (lv_at hl 1 rfl) ?_
    refine lv_iload_n (pc := 19) hx hb dX9_rule_19 rfl (lv_at hl 2 rfl) ?_
    refine Rpf_0_18 (pc := 20) X w kw575 dX9_rule_20 (fun H locs w => ?_)
    obtain ⟨u3, e_⟩ : ∃ y : Mm, y = s32 u 118 0 a1 := ⟨_, rfl⟩
    rw [← e_] at w
    have h := h u3 e_
    refine lv_aload_n (pc := 23) hx hb dX9_rule_23 rfl (lv_at hl 1 rfl) ?_
    refine lv_iconst (pc := 24) (v := (0 : Int32)) hx hb dX9_rule_24 (by decide) ?_
    refine Rpf_0_7 (pc := 25) X w kw529 rfl rfl dX9_rule_25 (fun H locs w => ?_)
    obtain ⟨u4, e_⟩ : ∃ y : Mm, y = s32 u3 107 0 (0 : Int32) := ⟨_, rfl⟩
    rw [← e_] at w
    have h := h u4 e_
    refine lv_iload_n (pc := 28) hx hb dX9_rule_28 rfl (lv_at hl 0 rfl) ?_
    exact Riret (pc := 29) X w h dX9_rule_29
  · have h := h.1 c_
    refine lv_bipush (pc := 10) (v := (-2 : Int32)) hx hb dX9_rule_10 (by decide) ?_
    exact Riret (pc := 12) X w h dX9_rule_12
set_option maxHeartbeats 4000000 in
set_option maxRecDepth 100000 in
theorem okX9_isPlace (l : Launch) {D : va_G} {g : Nat → ClassId} {ad : Nat → Nat} (hJ : RJ ad) {u : Mm} {a0 : Int32} {a1 : Int32} {a2 : Int32} {Q : Int32 → Prop} (h : wX9_isPlace a0 a1 a2 Q) : Met l yX9_isPlace (Cond.code yX9_isPlace cX9_isPlace 3 (some .boolean) :: gt) ({ frames := 1, cells := 0, slots := 0, locals := 25 } : Room) (RPc D g ad u [.int a0, .int a1, .int a2]) (va_Qi (fun r u1 => bz r ∧ (u = u1 ∧ Q r)) (RB D g ad) (RA ad)) 0 0 (RA ad) := by
  refine Met.ofW (cc := cX9_isPlace) (maxL := 3) (ret := (some .boolean)) (by decide) rfl ?_
  intro p e s m args below meth c s₁ B hml hv
  refine Rentry (own := RX9) B hml hv hJ rfl (Nat.le_of_ble_eq_true rfl) (fun ls H locs X w hl => ?_)
  obtain ⟨⟨hx, hb, hml, hown, hts⟩, hr, hlocks, hK, hJ, hAA⟩ := id X
  have hl : lv_has ls 3 [(0, .int a0), (1, .int a1), (2, .int a2)] := hl
  unfold wX9_isPlace at h
  refine lv_iload_n (pc := 0) hx hb dX9_isPlace_0 rfl (lv_at hl 0 rfl) ?_
  refine lv_i2l (pc := 1) hx hb dX9_isPlace_1 rfl ?_
  refine lv_lconst (pc := 2) (v := (0 : Int64)) hx hb dX9_isPlace_2 (by decide) ?_
  refine lv_lconst (pc := 3) (v := (1 : Int64)) hx hb dX9_isPlace_3 (by decide) ?_
  refine Rcalli (rest := []) (RrunS (pc := 4) X w (okX9_in l hJ h) kw490 kmX9_in ⟨rfl, rfl⟩ ⟨by decide, by decide⟩ rfl hl.1 rfl (Nat.le_of_ble_eq_true rfl) dX9_isPlace_4) w (fun r1 u9_ H locs h w => ?_)
  obtain ⟨hz_r1, h⟩ := h
  obtain ⟨rfl, h⟩ := h
  refine lv_if_eq (pc := 7) (tgt := 38) hx hb dX9_isPlace_7 (by decide) (fun c_ => ?_) (fun c_ => ?_)
  · have h := h.1 c_
    refine lv_iconst (pc := 38) (v := (0 : Int32)) hx hb dX9_isPlace_38 (by decide) ?_
    exact Rzret (pc := 39) X w rfl ⟨rfl, h⟩ dX9_isPlace_39
  · have h := h.2 c_
    refine lv_iload_n (pc := 10) hx hb dX9_isPlace_10 rfl (lv_at hl 1 rfl) ?_
    refine lv_i2l (pc := 11) hx hb dX9_isPlace_11 rfl ?_
    refine lv_lconst (pc := 12) (v := (0 : Int64)) hx hb dX9_isPlace_12 (by decide) ?_
    refine lv_ldc2 (pc := 13) (v := (3 : Int64)) hx hb hown (hts _ (List.mem_cons_of_mem _ kw494)) dX9_isPlace_13 ?_
    refine Rcalli (rest := []) (RrunS (pc := 16) X w (okX9_in l hJ h) kw490 kmX9_in ⟨rfl, rfl⟩ ⟨by decide, by decide⟩ rfl hl.1 rfl (Nat.le_of_ble_eq_true rfl) dX9_isPlace_16) w (fun r2 u9_ H locs h w => ?_)
    obtain ⟨hz_r2, h⟩ := h
    obtain ⟨rfl, h⟩ := h
    refine lv_if_eq (pc := 19) (tgt := 38) hx hb dX9_isPlace_19 (by decide) (fun c_ => ?_) (fun c_ => ?_)
    · have h := h.1 c_
      refine lv_iconst (pc := 38) (v := (0 : Int32)) hx hb dX9_isPlace_38 (by decide) ?_
      exact Rzret (pc := 39) X w rfl ⟨rfl, h⟩ dX9_isPlace_39
    · have h := h.2 c_
      refine lv_iload_n (pc := 22) hx hb dX9_isPlace_22 rfl (lv_at hl 2 rfl) ?_
      refine lv_i2l (pc := 23) hx hb dX9_isPlace_23 rfl ?_
      refine lv_lconst (pc := 24) (v := (0 : Int64)) hx hb dX9_isPlace_24 (by decide) ?_
      refine lv_ldc2 (pc := 25) (v := (11 : Int64)) hx hb hown (hts _ (List.mem_cons_of_mem _ kw501)) dX9_isPlace_25 ?_
      refine Rcalli (rest := []) (RrunS (pc := 28) X w (okX9_in l hJ h) kw490 kmX9_in ⟨rfl, rfl⟩ ⟨by decide, by decide⟩ rfl hl.1 rfl (Nat.le_of_ble_eq_true rfl) dX9_isPlace_28) w (fun r3 u9_ H locs h w => ?_)
      obtain ⟨hz_r3, h⟩ := h
      obtain ⟨rfl, h⟩ := h
      refine lv_if_eq (pc := 31) (tgt := 38) hx hb dX9_isPlace_31 (by decide) (fun c_ => ?_) (fun c_ => ?_)
      · have h := h.1 c_
        refine lv_iconst (pc := 38) (v := (0 : Int32)) hx hb dX9_isPlace_38 (by decide) ?_
        exact Rzret (pc := 39) X w rfl ⟨rfl, h⟩ dX9_isPlace_39
      · have h := h.2 c_
        refine lv_iconst (pc := 34) (v := (1 : Int32)) hx hb dX9_isPlace_34 (by decide) ?_
        refine lv_goto (pc := 35) (tgt := 39) hx hb dX9_isPlace_35 (by decide) ?_
        exact Rzret (pc := 39) X w rfl ⟨rfl, h⟩ dX9_isPlace_39
set_option maxHeartbeats 4000000 in
set_option maxRecDepth 100000 in
theorem okX9_gap (l : Launch) {D : va_G} {g : Nat → ClassId} {ad : Nat → Nat} (hJ : RJ ad) {u : Mm} {a1 : Int32} {a2 : Int32} {a3 : Int32} {Q : Int64 → Mm → Prop} (h : wX9_gap u a1 a2 a3 Q) : Met l yX9_gap (Cond.code yX9_gap cX9_gap 4 (some .long) :: gt) ({ frames := 4, cells := 0, slots := 0, locals := 107 } : Room) (RPc D g ad u [.ref (ad 0), .int a1, .int a2, .int a3]) (va_Ql Q (RB D g ad) (RA ad)) 0 0 (RA ad) := by
  refine Met.ofW (cc := cX9_gap) (maxL := 4) (ret := (some .long)) (by decide) rfl ?_
  intro p e s m args below meth c s₁ B hml hv
  refine Rentry (own := RX9) B hml hv hJ rfl (Nat.le_of_ble_eq_true rfl) (fun ls H locs X w hl => ?_)
  obtain ⟨⟨hx, hb, hml, hown, hts⟩, hr, hlocks, hK, hJ, hAA⟩ := id X
  have hl : lv_has ls 4 [(0, .ref (ad 0)), (1, .int a1), (2, .int a2), (3, .int a3)] := hl
  unfold wX9_gap at h
  refine lv_iload_n (pc := 0) hx hb dX9_gap_0 rfl (lv_at hl 1 rfl) ?_
  refine lv_iload_n (pc := 1) hx hb dX9_gap_1 rfl (lv_at hl 2 rfl) ?_
  refine lv_iload_n (pc := 2) hx hb dX9_gap_2 rfl (lv_at hl 3 rfl) ?_
  refine Rcalli (rest := []) (RrunS (pc := 3) X w (okX9_isPlace l hJ h) kw602 kmX9_isPlace ⟨rfl, rfl⟩ ⟨by decide, by decide⟩ rfl hl.1 rfl (Nat.le_of_ble_eq_true rfl) dX9_gap_3) w (fun r1 u9_ H locs h w => ?_)
  obtain ⟨hz_r1, h⟩ := h
  obtain ⟨rfl, h⟩ := h
  refine lv_if_ne (pc := 6) (tgt := 13) hx hb dX9_gap_6 (by decide) (fun c_ => ?_) (fun c_ => ?_)
  · have h := h.2 c_
    refine lv_aload_n (pc := 13) hx hb dX9_gap_13 rfl (lv_at hl 0 rfl) ?_
    refine Rcallv (rest := []) (RrunV (pc := 14) X w (okX9_looks l hJ h) kw595 kmX9_looks ⟨rfl, rfl⟩ ⟨by decide, by decide⟩ (Rrv_0 X w) rfl hl.1 rfl (Nat.le_of_ble_eq_true rfl) dX9_gap_14) w (fun u3 H locs h w => ?_)
    refine lv_aload_n (pc := 17) hx hb dX9_gap_17 rfl (lv_at hl 0 rfl) ?_
    refine lv_iload_n (pc := 18) hx hb dX9_gap_18 rfl (lv_at hl 1 rfl) ?_
    refine lv_iload_n (pc := 19) hx hb dX9_gap_19 rfl (lv_at hl 2 rfl) ?_
    refine lv_iload_n (pc := 20) hx hb dX9_gap_20 rfl (lv_at hl 3 rfl) ?_
    refine Rcalll (rest := []) (RrunV (pc := 21) X w (okX9_gapOf l hJ h) kw564 kmX9_gapOf ⟨rfl, rfl⟩ ⟨by decide, by decide⟩ (Rrv_0 X w) rfl hl.1 rfl (Nat.le_of_ble_eq_true rfl) dX9_gap_21) w (fun r4 u9_ H locs h w => ?_)
    obtain ⟨rfl, h⟩ := h
    exact Rlret (pc := 24) X w h dX9_gap_24
  · have h := h.1 c_
    refine lv_ldc2 (pc := 9) (v := (-9223372036854775806 : Int64)) hx hb hown (hts _ (List.mem_cons_of_mem _ kw601)) dX9_gap_9 ?_
    exact Rlret (pc := 12) X w h dX9_gap_12
set_option maxHeartbeats 4000000 in
set_option maxRecDepth 100000 in
theorem okX9_closed (l : Launch) {D : va_G} {g : Nat → ClassId} {ad : Nat → Nat} (hJ : RJ ad) {u : Mm} {a1 : Int32} {Q : Int64 → Mm → Prop} (h : wX9_closed u a1 Q) : Met l yX9_closed (Cond.code yX9_closed cX9_closed 2 (some .long) :: gt) ({ frames := 4, cells := 0, slots := 0, locals := 107 } : Room) (RPc D g ad u [.ref (ad 0), .int a1]) (va_Ql Q (RB D g ad) (RA ad)) 0 0 (RA ad) := by
  refine Met.ofW (cc := cX9_closed) (maxL := 2) (ret := (some .long)) (by decide) rfl ?_
  intro p e s m args below meth c s₁ B hml hv
  refine Rentry (own := RX9) B hml hv hJ rfl (Nat.le_of_ble_eq_true rfl) (fun ls H locs X w hl => ?_)
  obtain ⟨⟨hx, hb, hml, hown, hts⟩, hr, hlocks, hK, hJ, hAA⟩ := id X
  have hl : lv_has ls 2 [(0, .ref (ad 0)), (1, .int a1)] := hl
  unfold wX9_closed at h
  refine lv_iload_n (pc := 0) hx hb dX9_closed_0 rfl (lv_at hl 1 rfl) ?_
  refine Rcalli (rest := []) (RrunS (pc := 1) X w (okX9_isCell l hJ h) kw524 kmX9_isCell ⟨rfl, rfl⟩ ⟨by decide, by decide⟩ rfl hl.1 rfl (Nat.le_of_ble_eq_true rfl) dX9_closed_1) w (fun r1 u9_ H locs h w => ?_)
  obtain ⟨hz_r1, h⟩ := h
  obtain ⟨rfl, h⟩ := h
  refine lv_if_ne (pc := 4) (tgt := 11) hx hb dX9_closed_4 (by decide) (fun c_ => ?_) (fun c_ => ?_)
  · have h := h.2 c_
    refine lv_aload_n (pc := 11) hx hb dX9_closed_11 rfl (lv_at hl 0 rfl) ?_
    refine Rcallv (rest := []) (RrunV (pc := 12) X w (okX9_looks l hJ h) kw595 kmX9_looks ⟨rfl, rfl⟩ ⟨by decide, by decide⟩ (Rrv_0 X w) rfl hl.1 rfl (Nat.le_of_ble_eq_true rfl) dX9_closed_12) w (fun u3 H locs h w => ?_)
    refine lv_aload_n (pc := 15) hx hb dX9_closed_15 rfl (lv_at hl 0 rfl) ?_
    refine Rgf_0_19 (pc := 16) X w kw576 dX9_closed_16 ?_
    refine lv_iload_n (pc := 19) hx hb dX9_closed_19 rfl (lv_at hl 1 rfl) ?_
    refine Rld_15 (pc := 20) X w h.1 dX9_closed_20 ?_
    have h := h.2
    exact Rlret (pc := 21) X w h dX9_closed_21
  · have h := h.1 c_
    refine lv_ldc2 (pc := 7) (v := (-9223372036854775806 : Int64)) hx hb hown (hts _ (List.mem_cons_of_mem _ kw601)) dX9_closed_7 ?_
    exact Rlret (pc := 10) X w h dX9_closed_10
set_option maxHeartbeats 4000000 in
set_option maxRecDepth 100000 in
theorem okX9_moved (l : Launch) {D : va_G} {g : Nat → ClassId} {ad : Nat → Nat} (hJ : RJ ad) {u : Mm} {a1 : Int32} {a2 : Int32} {a3 : Int32} {Q : Int64 → Mm → Prop} (h : wX9_moved u a1 a2 a3 Q) : Met l yX9_moved (Cond.code yX9_moved cX9_moved 5 (some .long) :: gt) ({ frames := 4, cells := 0, slots := 0, locals := 107 } : Room) (RPc D g ad u [.ref (ad 0), .int a1, .int a2, .int a3]) (va_Ql Q (RB D g ad) (RA ad)) 0 0 (RA ad) := by
  refine Met.ofW (cc := cX9_moved) (maxL := 5) (ret := (some .long)) (by decide) rfl ?_
  intro p e s m args below meth c s₁ B hml hv
  refine Rentry (own := RX9) B hml hv hJ rfl (Nat.le_of_ble_eq_true rfl) (fun ls H locs X w hl => ?_)
  obtain ⟨⟨hx, hb, hml, hown, hts⟩, hr, hlocks, hK, hJ, hAA⟩ := id X
  have hl : lv_has ls 5 [(0, .ref (ad 0)), (1, .int a1), (2, .int a2), (3, .int a3)] := hl
  unfold wX9_moved at h
  refine lv_iload_n (pc := 0) hx hb dX9_moved_0 rfl (lv_at hl 1 rfl) ?_
  refine lv_iload_n (pc := 1) hx hb dX9_moved_1 rfl (lv_at hl 2 rfl) ?_
  refine lv_iload_n (pc := 2) hx hb dX9_moved_2 rfl (lv_at hl 3 rfl) ?_
  refine Rcalli (rest := []) (RrunS (pc := 3) X w (okX9_isPlace l hJ h) kw602 kmX9_isPlace ⟨rfl, rfl⟩ ⟨by decide, by decide⟩ rfl hl.1 rfl (Nat.le_of_ble_eq_true rfl) dX9_moved_3) w (fun r1 u9_ H locs h w => ?_)
  obtain ⟨hz_r1, h⟩ := h
  obtain ⟨rfl, h⟩ := h
  refine lv_if_ne (pc := 6) (tgt := 13) hx hb dX9_moved_6 (by decide) (fun c_ => ?_) (fun c_ => ?_)
  · have h := h.2 c_
    refine lv_aload_n (pc := 13) hx hb dX9_moved_13 rfl (lv_at hl 0 rfl) ?_
    refine Rcallv (rest := []) (RrunV (pc := 14) X w (okX9_looks l hJ h) kw595 kmX9_looks ⟨rfl, rfl⟩ ⟨by decide, by decide⟩ (Rrv_0 X w) rfl hl.1 rfl (Nat.le_of_ble_eq_true rfl) dX9_moved_14) w (fun u3 H locs h w => ?_)
    refine lv_bipush (pc := 17) (v := (48 : Int32)) hx hb dX9_moved_17 (by decide) ?_
    refine lv_iload_n (pc := 19) hx hb dX9_moved_19 rfl (lv_at hl 1 rfl) ?_
    refine lv_imul (pc := 20) hx hb dX9_moved_20 ?_
    refine lv_bipush (pc := 21) (v := (12 : Int32)) hx hb dX9_moved_21 (by decide) ?_
    refine lv_iload_n (pc := 23) hx hb dX9_moved_23 rfl (lv_at hl 2 rfl) ?_
    refine lv_imul (pc := 24) hx hb dX9_moved_24 ?_
    refine lv_iadd (pc := 25) hx hb dX9_moved_25 ?_
    refine lv_iload_n (pc := 26) hx hb dX9_moved_26 rfl (lv_at hl 3 rfl) ?_
    refine lv_iadd (pc := 27) hx hb dX9_moved_27 ?_
    refine lv_topi (fun x4_4 e_ => ?_)
    have h := h x4_4 e_
    refine lv_istore (pc := 28) (lv' := [(4, .int x4_4), (0, .ref (ad 0)), (1, .int a1), (2, .int a2), (3, .int a3)]) hx hb dX9_moved_28 hl (by decide) rfl (fun ls hl => ?_)
    refine lv_aload_n (pc := 30) hx hb dX9_moved_30 rfl (lv_at hl 1 rfl) ?_
    refine Rgf_0_21 (pc := 31) X w kw568 dX9_moved_31 ?_
    refine lv_iload (pc := 34) hx hb dX9_moved_34 (lv_at hl 0 rfl) ?_
    refine Rld_17 (pc := 36) X w h.1 dX9_moved_36 ?_
    have h := h.2
    refine lv_if_eq (pc := 37) (tgt := 46) hx hb dX9_moved_37 (by decide) (fun c_ => ?_) (fun c_ => ?_)
    · have h := h.1 c_
      refine lv_aload_n (pc := 46) hx hb dX9_moved_46 rfl (lv_at hl 1 rfl) ?_
      refine Rgf_0_20 (pc := 47) X w kw570 dX9_moved_47 ?_
      refine lv_iload (pc := 50) hx hb dX9_moved_50 (lv_at hl 0 rfl) ?_
      refine Rld_16 (pc := 52) X w h.1 dX9_moved_52 ?_
      have h := h.2
      exact Rlret (pc := 53) X w h dX9_moved_53
    · have h := h.2 c_
      refine lv_ldc2 (pc := 40) (v := (-9223372036854775805 : Int64)) hx hb hown (hts _ (List.mem_cons_of_mem _ kw600)) dX9_moved_40 ?_
      refine lv_goto (pc := 43) (tgt := 53) hx hb dX9_moved_43 (by decide) ?_
      exact Rlret (pc := 53) X w h dX9_moved_53
  · have h := h.1 c_
    refine lv_ldc2 (pc := 9) (v := (-9223372036854775806 : Int64)) hx hb hown (hts _ (List.mem_cons_of_mem _ kw601)) dX9_moved_9 ?_
    exact Rlret (pc := 12) X w h dX9_moved_12
set_option maxHeartbeats 4000000 in
set_option maxRecDepth 100000 in
theorem bX9_totalOf_26 {l : Launch} {p : Program} {e : Env} {s : State} {m : MethodId} {args : Array Value} {below : List Frame} {meth : Method} {c : Code} {D : va_G} {g : Nat → ClassId} {ad : Nat → Nat} {u : Mm} {Q : Int64 → Prop} {k44 : Int32 → Int32 → Int32 → Int32 → Int64 → Int32 → Int32 → Prop} (X : RX p s m args meth c cX9_totalOf RX9 9 (some .long) (Cond.code yX9_totalOf cX9_totalOf 9 (some .long)) D g ad (RA ad)) (hk44 : ∀ (x1 : Int32) (x2 : Int32) (x3 : Int32) (x4 : Int32) (x5 : Int64) (x7 : Int32) (y0 : Int32) (H : Heap) (locs : List Loc) (ls : Array Slot), k44 x1 x2 x3 x4 x5 x7 y0 → RWd D g ad (RA ad) s u H locs → lv_has ls 9 [(0, .ref (ad 0)), (1, .int x1), (2, .int x2), (3, .int x3), (4, .int x4), (5, .long x5), (7, .int x7)] → W p l e ({ frames := 1, cells := 0, slots := 0, locals := 23 } : Room) s m args below meth c H locs 0 0 (MQ below (va_Ql (fun r u1 => u = u1 ∧ Q r) (RB D g ad) (RA ad)) args s 0 0 (RA ad)) (F0 m 44 ls [.int y0])) : ∀ (x1 : Int32) (x2 : Int32) (x3 : Int32) (x4 : Int32) (x5 : Int64) (x7 : Int32) (H : Heap) (locs : List Loc) (ls : Array Slot), wX9_totalOf_b26 u k44 Q x1 x2 x3 x4 x5 x7 → RWd D g ad (RA ad) s u H locs → lv_has ls 9 [(0, .ref (ad 0)), (1, .int x1), (2, .int x2), (3, .int x3), (4, .int x4), (5, .long x5), (7, .int x7)] → W p l e ({ frames := 1, cells := 0, slots := 0, locals := 23 } : Room) s m args below meth c H locs 0 0 (MQ below (va_Ql (fun r u1 => u = u1 ∧ Q r) (RB D g ad) (RA ad)) args s 0 0 (RA ad)) (F0 m 26 ls []) := by
  obtain ⟨⟨hx, hb, hml, hown, hts⟩, hr, hlocks, hK, hJ, hAA⟩ := id X
  intro x1 x2 x3 x4 x5 x7 H locs ls h w hl
  unfold wX9_totalOf_b26 at h
  refine lv_iload_n (pc := 26) hx hb dX9_totalOf_26 rfl (lv_at hl 2 rfl) ?_
  refine lv_iconst (pc := 27) (v := (-1 : Int32)) hx hb dX9_totalOf_27 (by decide) ?_
  refine lv_icmp_eq (pc := 28) (tgt := 39) hx hb dX9_totalOf_28 (by decide) (fun c_ => ?_) (fun c_ => ?_)
  · have h := h.1 c_
    refine lv_iconst (pc := 39) (v := (1 : Int32)) hx hb dX9_totalOf_39 (by decide) ?_
    refine lv_goto (pc := 40) (tgt := 44) hx hb dX9_totalOf_40 (by decide) ?_
    exact hk44 x1 x2 x3 x4 x5 x7 (1 : Int32) H locs ls h w (lv_sub hl [0, 1, 2, 3, 4, 5, 6] rfl)
  · have h := h.2 c_
    refine lv_iload_n (pc := 31) hx hb dX9_totalOf_31 rfl (lv_at hl 2 rfl) ?_
    refine lv_iload (pc := 32) hx hb dX9_totalOf_32 (lv_at hl 6 rfl) ?_
    refine lv_iconst (pc := 34) (v := (4 : Int32)) hx hb dX9_totalOf_34 (by decide) ?_
    refine lv_irem (pc := 35) hx hb dX9_totalOf_35 (by decide) ?_
    refine lv_icmp_ne (pc := 36) (tgt := 43) hx hb dX9_totalOf_36 (by decide) (fun c_ => ?_) (fun c_ => ?_)
    · have h := h.2 c_
      refine lv_iconst (pc := 43) (v := (0 : Int32)) hx hb dX9_totalOf_43 (by decide) ?_
      exact hk44 x1 x2 x3 x4 x5 x7 (0 : Int32) H locs ls h w (lv_sub hl [0, 1, 2, 3, 4, 5, 6] rfl)
    · have h := h.1 c_
      refine lv_iconst (pc := 39) (v := (1 : Int32)) hx hb dX9_totalOf_39 (by decide) ?_
      refine lv_goto (pc := 40) (tgt := 44) hx hb dX9_totalOf_40 (by decide) ?_
      exact hk44 x1 x2 x3 x4 x5 x7 (1 : Int32) H locs ls h w (lv_sub hl [0, 1, 2, 3, 4, 5, 6] rfl)
set_option maxHeartbeats 4000000 in
set_option maxRecDepth 100000 in
theorem bX9_totalOf_44 {l : Launch} {p : Program} {e : Env} {s : State} {m : MethodId} {args : Array Value} {below : List Frame} {meth : Method} {c : Code} {D : va_G} {g : Nat → ClassId} {ad : Nat → Nat} {u : Mm} {Q : Int64 → Prop} {k6 : Int32 → Int32 → Int32 → Int32 → Int64 → Int32 → Prop} (X : RX p s m args meth c cX9_totalOf RX9 9 (some .long) (Cond.code yX9_totalOf cX9_totalOf 9 (some .long)) D g ad (RA ad)) (hk6 : ∀ (x1 : Int32) (x2 : Int32) (x3 : Int32) (x4 : Int32) (x5 : Int64) (x7 : Int32) (H : Heap) (locs : List Loc) (ls : Array Slot), k6 x1 x2 x3 x4 x5 x7 → RWd D g ad (RA ad) s u H locs → lv_has ls 9 [(0, .ref (ad 0)), (1, .int x1), (2, .int x2), (3, .int x3), (4, .int x4), (5, .long x5), (7, .int x7)] → W p l e ({ frames := 1, cells := 0, slots := 0, locals := 23 } : Room) s m args below meth c H locs 0 0 (MQ below (va_Ql (fun r u1 => u = u1 ∧ Q r) (RB D g ad) (RA ad)) args s 0 0 (RA ad)) (F0 m 6 ls [])) : ∀ (x1 : Int32) (x2 : Int32) (x3 : Int32) (x4 : Int32) (x5 : Int64) (x7 : Int32) (y0 : Int32) (H : Heap) (locs : List Loc) (ls : Array Slot), wX9_totalOf_b44 u k6 Q x1 x2 x3 x4 x5 x7 y0 → RWd D g ad (RA ad) s u H locs → lv_has ls 9 [(0, .ref (ad 0)), (1, .int x1), (2, .int x2), (3, .int x3), (4, .int x4), (5, .long x5), (7, .int x7)] → W p l e ({ frames := 1, cells := 0, slots := 0, locals := 23 } : Room) s m args below meth c H locs 0 0 (MQ below (va_Ql (fun r u1 => u = u1 ∧ Q r) (RB D g ad) (RA ad)) args s 0 0 (RA ad)) (F0 m 44 ls [.int y0]) := by
  obtain ⟨⟨hx, hb, hml, hown, hts⟩, hr, hlocks, hK, hJ, hAA⟩ := id X
  intro x1 x2 x3 x4 x5 x7 y0 H locs ls h w hl
  unfold wX9_totalOf_b44 at h
  refine lv_istore (pc := 44) (lv' := [(8, .int y0), (0, .ref (ad 0)), (1, .int x1), (2, .int x2), (3, .int x3), (4, .int x4), (5, .long x5), (7, .int x7)]) hx hb dX9_totalOf_44 hl (by decide) rfl (fun ls hl => ?_)
  refine lv_lload (pc := 46) hx hb dX9_totalOf_46 (lv_at hl 6 rfl) ?_
  refine lv_iload (pc := 48) hx hb dX9_totalOf_48 (lv_at hl 0 rfl) ?_
  refine lv_if_eq (pc := 50) (tgt := 75) hx hb dX9_totalOf_50 (by decide) (fun c_ => ?_) (fun c_ => ?_)
  · have h := h.1 c_
    refine lv_lconst (pc := 75) (v := (0 : Int64)) hx hb dX9_totalOf_75 (by decide) ?_
    refine lv_ladd (pc := 76) hx hb dX9_totalOf_76 ?_
    refine lv_topl (fun x5_1 e_ => ?_)
    have h := h x5_1 e_
    refine lv_lstore (pc := 77) (lv' := [(5, .long x5_1), (8, .int y0), (0, .ref (ad 0)), (1, .int x1), (2, .int x2), (3, .int x3), (4, .int x4), (7, .int x7)]) hx hb dX9_totalOf_77 hl (by decide) rfl (fun ls hl => ?_)
    obtain ⟨x7_2, e_⟩ : ∃ y : Int32, y = x7 + (1 : Int32) := ⟨_, rfl⟩
    have h := h x7_2 e_
    refine lv_iinc (pc := 79) (v := x7_2) (lv' := [(7, .int x7_2), (5, .long x5_1), (8, .int y0), (0, .ref (ad 0)), (1, .int x1), (2, .int x2), (3, .int x3), (4, .int x4)]) hx hb dX9_totalOf_79 hl (k := 7) rfl (by rw [e_]; rfl) (by decide) rfl (fun ls hl => ?_)
    refine lv_goto (pc := 82) (tgt := 6) hx hb dX9_totalOf_82 (by decide) ?_
    exact hk6 x1 x2 x3 x4 x5_1 x7_2 H locs ls h w (lv_sub hl [3, 4, 5, 6, 7, 1, 0] rfl)
  · have h := h.2 c_
    refine lv_aload_n (pc := 53) hx hb dX9_totalOf_53 rfl (lv_at hl 1 rfl) ?_
    refine Rgf_0_19 (pc := 54) X w kw576 dX9_totalOf_54 ?_
    refine lv_iload (pc := 57) hx hb dX9_totalOf_57 (lv_at hl 7 rfl) ?_
    refine lv_iconst (pc := 59) (v := (4 : Int32)) hx hb dX9_totalOf_59 (by decide) ?_
    refine lv_idiv (pc := 60) hx hb dX9_totalOf_60 (by decide) ?_
    refine lv_iload (pc := 61) hx hb dX9_totalOf_61 (lv_at hl 7 rfl) ?_
    refine lv_iconst (pc := 63) (v := (4 : Int32)) hx hb dX9_totalOf_63 (by decide) ?_
    refine lv_irem (pc := 64) hx hb dX9_totalOf_64 (by decide) ?_
    refine lv_iload_n (pc := 65) hx hb dX9_totalOf_65 rfl (lv_at hl 4 rfl) ?_
    refine lv_iload (pc := 66) hx hb dX9_totalOf_66 (lv_at hl 5 rfl) ?_
    refine Rcalli (rest := [.ref (ad 15), .long x5]) (RrunS (pc := 68) X w (okX9_cellOf l hJ h) kw502 kmX9_cellOf ⟨rfl, rfl⟩ ⟨by decide, by decide⟩ rfl hl.1 rfl (Nat.le_of_ble_eq_true rfl) dX9_totalOf_68) w (fun r3 u9_ H locs h w => ?_)
    obtain ⟨rfl, h⟩ := h
    refine Rld_15 (pc := 71) X w h.1 dX9_totalOf_71 ?_
    have h := h.2
    refine lv_goto (pc := 72) (tgt := 76) hx hb dX9_totalOf_72 (by decide) ?_
    refine lv_ladd (pc := 76) hx hb dX9_totalOf_76 ?_
    refine lv_topl (fun x5_4 e_ => ?_)
    have h := h x5_4 e_
    refine lv_lstore (pc := 77) (lv' := [(5, .long x5_4), (8, .int y0), (0, .ref (ad 0)), (1, .int x1), (2, .int x2), (3, .int x3), (4, .int x4), (7, .int x7)]) hx hb dX9_totalOf_77 hl (by decide) rfl (fun ls hl => ?_)
    obtain ⟨x7_5, e_⟩ : ∃ y : Int32, y = x7 + (1 : Int32) := ⟨_, rfl⟩
    have h := h x7_5 e_
    refine lv_iinc (pc := 79) (v := x7_5) (lv' := [(7, .int x7_5), (5, .long x5_4), (8, .int y0), (0, .ref (ad 0)), (1, .int x1), (2, .int x2), (3, .int x3), (4, .int x4)]) hx hb dX9_totalOf_79 hl (k := 7) rfl (by rw [e_]; rfl) (by decide) rfl (fun ls hl => ?_)
    refine lv_goto (pc := 82) (tgt := 6) hx hb dX9_totalOf_82 (by decide) ?_
    exact hk6 x1 x2 x3 x4 x5_4 x7_5 H locs ls h w (lv_sub hl [3, 4, 5, 6, 7, 1, 0] rfl)
set_option maxHeartbeats 4000000 in
set_option maxRecDepth 100000 in
theorem bX9_totalOf_6 {l : Launch} {p : Program} {e : Env} {s : State} {m : MethodId} {args : Array Value} {below : List Frame} {meth : Method} {c : Code} {D : va_G} {g : Nat → ClassId} {ad : Nat → Nat} {u : Mm} {Q : Int64 → Prop} (X : RX p s m args meth c cX9_totalOf RX9 9 (some .long) (Cond.code yX9_totalOf cX9_totalOf 9 (some .long)) D g ad (RA ad)) : ∀ (n : Nat) (x1 : Int32) (x2 : Int32) (x3 : Int32) (x4 : Int32) (x5 : Int64) (x7 : Int32) (H : Heap) (locs : List Loc) (ls : Array Slot), wX9_totalOf_b6 u Q n x1 x2 x3 x4 x5 x7 → RWd D g ad (RA ad) s u H locs → lv_has ls 9 [(0, .ref (ad 0)), (1, .int x1), (2, .int x2), (3, .int x3), (4, .int x4), (5, .long x5), (7, .int x7)] → W p l e ({ frames := 1, cells := 0, slots := 0, locals := 23 } : Room) s m args below meth c H locs 0 0 (MQ below (va_Ql (fun r u1 => u = u1 ∧ Q r) (RB D g ad) (RA ad)) args s 0 0 (RA ad)) (F0 m 6 ls []) := by
  obtain ⟨⟨hx, hb, hml, hown, hts⟩, hr, hlocks, hK, hJ, hAA⟩ := id X
  intro n
  induction n with
  | zero =>
    intro x1 x2 x3 x4 x5 x7 H locs ls h
    exact False.elim h
  | succ n ih =>
    intro x1 x2 x3 x4 x5 x7 H locs ls h w hl
    unfold wX9_totalOf_b6 at h
    refine lv_iload (pc := 6) hx hb dX9_totalOf_6 (lv_at hl 6 rfl) ?_
    refine lv_bipush (pc := 8) (v := (8 : Int32)) hx hb dX9_totalOf_8 (by decide) ?_
    refine lv_icmp_ge (pc := 10) (tgt := 85) hx hb dX9_totalOf_10 (by decide) (fun c_ => ?_) (fun c_ => ?_)
    · have h := h.1 c_
      refine lv_lload (pc := 85) hx hb dX9_totalOf_85 (lv_at hl 5 rfl) ?_
      exact Rlret (pc := 87) X w ⟨rfl, h⟩ dX9_totalOf_87
    · have h := h.2 c_
      refine lv_iload_n (pc := 13) hx hb dX9_totalOf_13 rfl (lv_at hl 1 rfl) ?_
      refine lv_iconst (pc := 14) (v := (-1 : Int32)) hx hb dX9_totalOf_14 (by decide) ?_
      refine lv_icmp_eq (pc := 15) (tgt := 26) hx hb dX9_totalOf_15 (by decide) (fun c_ => ?_) (fun c_ => ?_)
      · have h := h.1 c_
        refine bX9_totalOf_26 X ?_ x1 x2 x3 x4 x5 x7 H locs ls h w (lv_sub hl [0, 1, 2, 3, 4, 5, 6] rfl)
        · intro x1 x2 x3 x4 x5 x7 y0 H locs ls h w hl
          refine bX9_totalOf_44 X ?_ x1 x2 x3 x4 x5 x7 y0 H locs ls h w (lv_sub hl [0, 1, 2, 3, 4, 5, 6] rfl)
          · intro x1 x2 x3 x4 x5 x7 H locs ls h w hl
            exact ih x1 x2 x3 x4 x5 x7 H locs ls h w (lv_sub hl [0, 1, 2, 3, 4, 5, 6] rfl)
      · have h := h.2 c_
        refine lv_iload_n (pc := 18) hx hb dX9_totalOf_18 rfl (lv_at hl 1 rfl) ?_
        refine lv_iload (pc := 19) hx hb dX9_totalOf_19 (lv_at hl 6 rfl) ?_
        refine lv_iconst (pc := 21) (v := (4 : Int32)) hx hb dX9_totalOf_21 (by decide) ?_
        refine lv_idiv (pc := 22) hx hb dX9_totalOf_22 (by decide) ?_
        refine lv_icmp_ne (pc := 23) (tgt := 43) hx hb dX9_totalOf_23 (by decide) (fun c_ => ?_) (fun c_ => ?_)
        · have h := h.2 c_
          refine lv_iconst (pc := 43) (v := (0 : Int32)) hx hb dX9_totalOf_43 (by decide) ?_
          refine bX9_totalOf_44 X ?_ x1 x2 x3 x4 x5 x7 (0 : Int32) H locs ls h w (lv_sub hl [0, 1, 2, 3, 4, 5, 6] rfl)
          · intro x1 x2 x3 x4 x5 x7 H locs ls h w hl
            exact ih x1 x2 x3 x4 x5 x7 H locs ls h w (lv_sub hl [0, 1, 2, 3, 4, 5, 6] rfl)
        · have h := h.1 c_
          refine bX9_totalOf_26 X ?_ x1 x2 x3 x4 x5 x7 H locs ls h w (lv_sub hl [0, 1, 2, 3, 4, 5, 6] rfl)
          · intro x1 x2 x3 x4 x5 x7 y0 H locs ls h w hl
            refine bX9_totalOf_44 X ?_ x1 x2 x3 x4 x5 x7 y0 H locs ls h w (lv_sub hl [0, 1, 2, 3, 4, 5, 6] rfl)
            · intro x1 x2 x3 x4 x5 x7 H locs ls h w hl
              exact ih x1 x2 x3 x4 x5 x7 H locs ls h w (lv_sub hl [0, 1, 2, 3, 4, 5, 6] rfl)
set_option maxHeartbeats 4000000 in
set_option maxRecDepth 100000 in
theorem okX9_totalOf (l : Launch) {D : va_G} {g : Nat → ClassId} {ad : Nat → Nat} (hJ : RJ ad) {u : Mm} {a1 : Int32} {a2 : Int32} {a3 : Int32} {a4 : Int32} {Q : Int64 → Prop} (h : wX9_totalOf u a1 a2 a3 a4 Q) : Met l yX9_totalOf (Cond.code yX9_totalOf cX9_totalOf 9 (some .long) :: gt) ({ frames := 1, cells := 0, slots := 0, locals := 23 } : Room) (RPc D g ad u [.ref (ad 0), .int a1, .int a2, .int a3, .int a4]) (va_Ql (fun r u1 => u = u1 ∧ Q r) (RB D g ad) (RA ad)) 0 0 (RA ad) := by
  refine Met.ofW (cc := cX9_totalOf) (maxL := 9) (ret := (some .long)) (by decide) rfl ?_
  intro p e s m args below meth c s₁ B hml hv
  refine Rentry (own := RX9) B hml hv hJ rfl (Nat.le_of_ble_eq_true rfl) (fun ls H locs X w hl => ?_)
  obtain ⟨⟨hx, hb, hml, hown, hts⟩, hr, hlocks, hK, hJ, hAA⟩ := id X
  have hl : lv_has ls 9 [(0, .ref (ad 0)), (1, .int a1), (2, .int a2), (3, .int a3), (4, .int a4)] := hl
  unfold wX9_totalOf at h
  refine lv_lconst (pc := 0) (v := (0 : Int64)) hx hb dX9_totalOf_0 (by decide) ?_
  refine lv_lstore (pc := 1) (lv' := [(5, .long (0 : Int64)), (0, .ref (ad 0)), (1, .int a1), (2, .int a2), (3, .int a3), (4, .int a4)]) hx hb dX9_totalOf_1 hl (by decide) rfl (fun ls hl => ?_)
  refine lv_iconst (pc := 3) (v := (0 : Int32)) hx hb dX9_totalOf_3 (by decide) ?_
  refine lv_istore (pc := 4) (lv' := [(7, .int (0 : Int32)), (5, .long (0 : Int64)), (0, .ref (ad 0)), (1, .int a1), (2, .int a2), (3, .int a3), (4, .int a4)]) hx hb dX9_totalOf_4 hl (by decide) rfl (fun ls hl => ?_)
  obtain ⟨n9, h⟩ := h
  exact bX9_totalOf_6 X n9 a1 a2 a3 a4 (0 : Int64) (0 : Int32) H locs ls h w (lv_sub hl [2, 3, 4, 5, 6, 1, 0] rfl)
set_option maxHeartbeats 4000000 in
set_option maxRecDepth 100000 in
theorem okX9_total (l : Launch) {D : va_G} {g : Nat → ClassId} {ad : Nat → Nat} (hJ : RJ ad) {u : Mm} {a1 : Int32} {a2 : Int32} {a3 : Int32} {a4 : Int32} {Q : Int64 → Mm → Prop} (h : wX9_total u a1 a2 a3 a4 Q) : Met l yX9_total (Cond.code yX9_total cX9_total 5 (some .long) :: gt) ({ frames := 4, cells := 0, slots := 0, locals := 107 } : Room) (RPc D g ad u [.ref (ad 0), .int a1, .int a2, .int a3, .int a4]) (va_Ql Q (RB D g ad) (RA ad)) 0 0 (RA ad) := by
  refine Met.ofW (cc := cX9_total) (maxL := 5) (ret := (some .long)) (by decide) rfl ?_
  intro p e s m args below meth c s₁ B hml hv
  refine Rentry (own := RX9) B hml hv hJ rfl (Nat.le_of_ble_eq_true rfl) (fun ls H locs X w hl => ?_)
  obtain ⟨⟨hx, hb, hml, hown, hts⟩, hr, hlocks, hK, hJ, hAA⟩ := id X
  have hl : lv_has ls 5 [(0, .ref (ad 0)), (1, .int a1), (2, .int a2), (3, .int a3), (4, .int a4)] := hl
  unfold wX9_total at h
  refine lv_iload_n (pc := 0) hx hb dX9_total_0 rfl (lv_at hl 1 rfl) ?_
  refine lv_i2l (pc := 1) hx hb dX9_total_1 rfl ?_
  refine lv_ldc2 (pc := 2) (v := (-1 : Int64)) hx hb hown (hts _ (List.mem_cons_of_mem _ kw547)) dX9_total_2 ?_
  refine lv_lconst (pc := 5) (v := (1 : Int64)) hx hb dX9_total_5 (by decide) ?_
  refine Rcalli (rest := []) (RrunS (pc := 6) X w (okX9_in l hJ h) kw490 kmX9_in ⟨rfl, rfl⟩ ⟨by decide, by decide⟩ rfl hl.1 rfl (Nat.le_of_ble_eq_true rfl) dX9_total_6) w (fun r1 u9_ H locs h w => ?_)
  obtain ⟨hz_r1, h⟩ := h
  obtain ⟨rfl, h⟩ := h
  refine lv_if_eq (pc := 9) (tgt := 51) hx hb dX9_total_9 (by decide) (fun c_ => ?_) (fun c_ => ?_)
  · have h := h.1 c_
    refine lv_ldc2 (pc := 51) (v := (-9223372036854775806 : Int64)) hx hb hown (hts _ (List.mem_cons_of_mem _ kw601)) dX9_total_51 ?_
    exact Rlret (pc := 54) X w h dX9_total_54
  · have h := h.2 c_
    refine lv_iload_n (pc := 12) hx hb dX9_total_12 rfl (lv_at hl 2 rfl) ?_
    refine lv_i2l (pc := 13) hx hb dX9_total_13 rfl ?_
    refine lv_ldc2 (pc := 14) (v := (-1 : Int64)) hx hb hown (hts _ (List.mem_cons_of_mem _ kw547)) dX9_total_14 ?_
    refine lv_ldc2 (pc := 17) (v := (3 : Int64)) hx hb hown (hts _ (List.mem_cons_of_mem _ kw494)) dX9_total_17 ?_
    refine Rcalli (rest := []) (RrunS (pc := 20) X w (okX9_in l hJ h) kw490 kmX9_in ⟨rfl, rfl⟩ ⟨by decide, by decide⟩ rfl hl.1 rfl (Nat.le_of_ble_eq_true rfl) dX9_total_20) w (fun r2 u9_ H locs h w => ?_)
    obtain ⟨hz_r2, h⟩ := h
    obtain ⟨rfl, h⟩ := h
    refine lv_if_eq (pc := 23) (tgt := 51) hx hb dX9_total_23 (by decide) (fun c_ => ?_) (fun c_ => ?_)
    · have h := h.1 c_
      refine lv_ldc2 (pc := 51) (v := (-9223372036854775806 : Int64)) hx hb hown (hts _ (List.mem_cons_of_mem _ kw601)) dX9_total_51 ?_
      exact Rlret (pc := 54) X w h dX9_total_54
    · have h := h.2 c_
      refine lv_iload_n (pc := 26) hx hb dX9_total_26 rfl (lv_at hl 3 rfl) ?_
      refine lv_i2l (pc := 27) hx hb dX9_total_27 rfl ?_
      refine lv_lconst (pc := 28) (v := (0 : Int64)) hx hb dX9_total_28 (by decide) ?_
      refine lv_ldc2 (pc := 29) (v := (5 : Int64)) hx hb hown (hts _ (List.mem_cons_of_mem _ kw495)) dX9_total_29 ?_
      refine Rcalli (rest := []) (RrunS (pc := 32) X w (okX9_in l hJ h) kw490 kmX9_in ⟨rfl, rfl⟩ ⟨by decide, by decide⟩ rfl hl.1 rfl (Nat.le_of_ble_eq_true rfl) dX9_total_32) w (fun r3 u9_ H locs h w => ?_)
      obtain ⟨hz_r3, h⟩ := h
      obtain ⟨rfl, h⟩ := h
      refine lv_if_eq (pc := 35) (tgt := 51) hx hb dX9_total_35 (by decide) (fun c_ => ?_) (fun c_ => ?_)
      · have h := h.1 c_
        refine lv_ldc2 (pc := 51) (v := (-9223372036854775806 : Int64)) hx hb hown (hts _ (List.mem_cons_of_mem _ kw601)) dX9_total_51 ?_
        exact Rlret (pc := 54) X w h dX9_total_54
      · have h := h.2 c_
        refine lv_iload (pc := 38) hx hb dX9_total_38 (lv_at hl 4 rfl) ?_
        refine lv_i2l (pc := 40) hx hb dX9_total_40 rfl ?_
        refine lv_lconst (pc := 41) (v := (0 : Int64)) hx hb dX9_total_41 (by decide) ?_
        refine lv_ldc2 (pc := 42) (v := (11 : Int64)) hx hb hown (hts _ (List.mem_cons_of_mem _ kw501)) dX9_total_42 ?_
        refine Rcalli (rest := []) (RrunS (pc := 45) X w (okX9_in l hJ h) kw490 kmX9_in ⟨rfl, rfl⟩ ⟨by decide, by decide⟩ rfl hl.1 rfl (Nat.le_of_ble_eq_true rfl) dX9_total_45) w (fun r4 u9_ H locs h w => ?_)
        obtain ⟨hz_r4, h⟩ := h
        obtain ⟨rfl, h⟩ := h
        refine lv_if_ne (pc := 48) (tgt := 55) hx hb dX9_total_48 (by decide) (fun c_ => ?_) (fun c_ => ?_)
        · have h := h.2 c_
          refine lv_aload_n (pc := 55) hx hb dX9_total_55 rfl (lv_at hl 0 rfl) ?_
          refine Rcallv (rest := []) (RrunV (pc := 56) X w (okX9_looks l hJ h) kw595 kmX9_looks ⟨rfl, rfl⟩ ⟨by decide, by decide⟩ (Rrv_0 X w) rfl hl.1 rfl (Nat.le_of_ble_eq_true rfl) dX9_total_56) w (fun u6 H locs h w => ?_)
          refine lv_aload_n (pc := 59) hx hb dX9_total_59 rfl (lv_at hl 0 rfl) ?_
          refine lv_iload_n (pc := 60) hx hb dX9_total_60 rfl (lv_at hl 1 rfl) ?_
          refine lv_iload_n (pc := 61) hx hb dX9_total_61 rfl (lv_at hl 2 rfl) ?_
          refine lv_iload_n (pc := 62) hx hb dX9_total_62 rfl (lv_at hl 3 rfl) ?_
          refine lv_iload (pc := 63) hx hb dX9_total_63 (lv_at hl 4 rfl) ?_
          refine Rcalll (rest := []) (RrunV (pc := 65) X w (okX9_totalOf l hJ h) kw605 kmX9_totalOf ⟨rfl, rfl⟩ ⟨by decide, by decide⟩ (Rrv_0 X w) rfl hl.1 rfl (Nat.le_of_ble_eq_true rfl) dX9_total_65) w (fun r7 u9_ H locs h w => ?_)
          obtain ⟨rfl, h⟩ := h
          exact Rlret (pc := 68) X w h dX9_total_68
        · have h := h.1 c_
          refine lv_ldc2 (pc := 51) (v := (-9223372036854775806 : Int64)) hx hb hown (hts _ (List.mem_cons_of_mem _ kw601)) dX9_total_51 ?_
          exact Rlret (pc := 54) X w h dX9_total_54
set_option maxHeartbeats 4000000 in
set_option maxRecDepth 100000 in
theorem bX9_openMany_8 {l : Launch} {p : Program} {e : Env} {s : State} {m : MethodId} {args : Array Value} {below : List Frame} {meth : Method} {c : Code} {D : va_G} {g : Nat → ClassId} {ad : Nat → Nat} {Q : Int32 → Mm → Prop} (X : RX p s m args meth c cX9_openMany RX9 3 (some .int) (Cond.code yX9_openMany cX9_openMany 3 (some .int)) D g ad (RA ad)) : ∀ (n : Nat) (u : Mm) (x1 : Int32) (x2 : Int32) (H : Heap) (locs : List Loc) (ls : Array Slot), wX9_openMany_b8 Q n u x1 x2 → RWd D g ad (RA ad) s u H locs → lv_has ls 3 [(0, .ref (ad 0)), (1, .int x1), (2, .int x2)] → W p l e ({ frames := 4, cells := 0, slots := 0, locals := 107 } : Room) s m args below meth c H locs 0 0 (MQ below (va_Qi Q (RB D g ad) (RA ad)) args s 0 0 (RA ad)) (F0 m 8 ls []) := by
  obtain ⟨⟨hx, hb, hml, hown, hts⟩, hr, hlocks, hK, hJ, hAA⟩ := id X
  intro n
  induction n with
  | zero =>
    intro u x1 x2 H locs ls h
    exact False.elim h
  | succ n ih =>
    intro u x1 x2 H locs ls h w hl
    unfold wX9_openMany_b8 at h
    refine lv_iload_n (pc := 8) hx hb dX9_openMany_8 rfl (lv_at hl 2 rfl) ?_
    refine lv_bipush (pc := 9) (v := (96 : Int32)) hx hb dX9_openMany_9 (by decide) ?_
    refine lv_icmp_ge (pc := 11) (tgt := 37) hx hb dX9_openMany_11 (by decide) (fun c_ => ?_) (fun c_ => ?_)
    · have h := h.1 c_
      refine lv_iload_n (pc := 37) hx hb dX9_openMany_37 rfl (lv_at hl 1 rfl) ?_
      exact Riret (pc := 38) X w h dX9_openMany_38
    · have h := h.2 c_
      refine lv_iload_n (pc := 14) hx hb dX9_openMany_14 rfl (lv_at hl 1 rfl) ?_
      refine lv_aload_n (pc := 15) hx hb dX9_openMany_15 rfl (lv_at hl 0 rfl) ?_
      refine Rgf_0_21 (pc := 16) X w kw568 dX9_openMany_16 ?_
      refine lv_iload_n (pc := 19) hx hb dX9_openMany_19 rfl (lv_at hl 2 rfl) ?_
      refine Rld_17 (pc := 20) X w h.1 dX9_openMany_20 ?_
      have h := h.2
      refine lv_if_eq (pc := 21) (tgt := 28) hx hb dX9_openMany_21 (by decide) (fun c_ => ?_) (fun c_ => ?_)
      · have h := h.1 c_
        refine lv_iconst (pc := 28) (v := (0 : Int32)) hx hb dX9_openMany_28 (by decide) ?_
        refine lv_iadd (pc := 29) hx hb dX9_openMany_29 ?_
        refine lv_topi (fun x1_1 e_ => ?_)
        have h := h x1_1 e_
        refine lv_istore_n (pc := 30) (lv' := [(1, .int x1_1), (0, .ref (ad 0)), (2, .int x2)]) hx hb dX9_openMany_30 rfl hl (by decide) rfl (fun ls hl => ?_)
        obtain ⟨x2_2, e_⟩ : ∃ y : Int32, y = x2 + (1 : Int32) := ⟨_, rfl⟩
        have h := h x2_2 e_
        refine lv_iinc (pc := 31) (v := x2_2) (lv' := [(2, .int x2_2), (1, .int x1_1), (0, .ref (ad 0))]) hx hb dX9_openMany_31 hl (k := 2) rfl (by rw [e_]; rfl) (by decide) rfl (fun ls hl => ?_)
        refine lv_goto (pc := 34) (tgt := 8) hx hb dX9_openMany_34 (by decide) ?_
        exact ih u x1_1 x2_2 H locs ls h w (lv_sub hl [2, 1, 0] rfl)
      · have h := h.2 c_
        refine lv_iconst (pc := 24) (v := (1 : Int32)) hx hb dX9_openMany_24 (by decide) ?_
        refine lv_goto (pc := 25) (tgt := 29) hx hb dX9_openMany_25 (by decide) ?_
        refine lv_iadd (pc := 29) hx hb dX9_openMany_29 ?_
        refine lv_topi (fun x1_3 e_ => ?_)
        have h := h x1_3 e_
        refine lv_istore_n (pc := 30) (lv' := [(1, .int x1_3), (0, .ref (ad 0)), (2, .int x2)]) hx hb dX9_openMany_30 rfl hl (by decide) rfl (fun ls hl => ?_)
        obtain ⟨x2_4, e_⟩ : ∃ y : Int32, y = x2 + (1 : Int32) := ⟨_, rfl⟩
        have h := h x2_4 e_
        refine lv_iinc (pc := 31) (v := x2_4) (lv' := [(2, .int x2_4), (1, .int x1_3), (0, .ref (ad 0))]) hx hb dX9_openMany_31 hl (k := 2) rfl (by rw [e_]; rfl) (by decide) rfl (fun ls hl => ?_)
        refine lv_goto (pc := 34) (tgt := 8) hx hb dX9_openMany_34 (by decide) ?_
        exact ih u x1_3 x2_4 H locs ls h w (lv_sub hl [2, 1, 0] rfl)
set_option maxHeartbeats 4000000 in
set_option maxRecDepth 100000 in
theorem okX9_openMany (l : Launch) {D : va_G} {g : Nat → ClassId} {ad : Nat → Nat} (hJ : RJ ad) {u : Mm} {Q : Int32 → Mm → Prop} (h : wX9_openMany u Q) : Met l yX9_openMany (Cond.code yX9_openMany cX9_openMany 3 (some .int) :: gt) ({ frames := 4, cells := 0, slots := 0, locals := 107 } : Room) (RPc D g ad u [.ref (ad 0)]) (va_Qi Q (RB D g ad) (RA ad)) 0 0 (RA ad) := by
  refine Met.ofW (cc := cX9_openMany) (maxL := 3) (ret := (some .int)) (by decide) rfl ?_
  intro p e s m args below meth c s₁ B hml hv
  refine Rentry (own := RX9) B hml hv hJ rfl (Nat.le_of_ble_eq_true rfl) (fun ls H locs X w hl => ?_)
  obtain ⟨⟨hx, hb, hml, hown, hts⟩, hr, hlocks, hK, hJ, hAA⟩ := id X
  have hl : lv_has ls 3 [(0, .ref (ad 0))] := hl
  unfold wX9_openMany at h
  refine lv_aload_n (pc := 0) hx hb dX9_openMany_0 rfl (lv_at hl 0 rfl) ?_
  refine Rcallv (rest := []) (RrunV (pc := 1) X w (okX9_looks l hJ h) kw595 kmX9_looks ⟨rfl, rfl⟩ ⟨by decide, by decide⟩ (Rrv_0 X w) rfl hl.1 rfl (Nat.le_of_ble_eq_true rfl) dX9_openMany_1) w (fun u2 H locs h w => ?_)
  refine lv_iconst (pc := 4) (v := (0 : Int32)) hx hb dX9_openMany_4 (by decide) ?_
  refine lv_istore_n (pc := 5) (lv' := [(1, .int (0 : Int32)), (0, .ref (ad 0))]) hx hb dX9_openMany_5 rfl hl (by decide) rfl (fun ls hl => ?_)
  refine lv_iconst (pc := 6) (v := (0 : Int32)) hx hb dX9_openMany_6 (by decide) ?_
  refine lv_istore_n (pc := 7) (lv' := [(2, .int (0 : Int32)), (1, .int (0 : Int32)), (0, .ref (ad 0))]) hx hb dX9_openMany_7 rfl hl (by decide) rfl (fun ls hl => ?_)
  obtain ⟨n9, h⟩ := h
  exact bX9_openMany_8 X n9 u2 (0 : Int32) (0 : Int32) H locs ls h w (lv_sub hl [2, 1, 0] rfl)
set_option maxHeartbeats 4000000 in
set_option maxRecDepth 100000 in
theorem okX9_open (l : Launch) {D : va_G} {g : Nat → ClassId} {ad : Nat → Nat} (hJ : RJ ad) {u : Mm} {Q : Int32 → Mm → Prop} (h : wX9_open u Q) : Met l yX9_open (Cond.code yX9_open cX9_open 1 (some .int) :: gt) ({ frames := 5, cells := 0, slots := 0, locals := 129 } : Room) (RPc D g ad u [.ref (ad 0)]) (va_Qi Q (RB D g ad) (RA ad)) 0 0 (RA ad) := by
  refine Met.ofW (cc := cX9_open) (maxL := 1) (ret := (some .int)) (by decide) rfl ?_
  intro p e s m args below meth c s₁ B hml hv
  refine Rentry (own := RX9) B hml hv hJ rfl (Nat.le_of_ble_eq_true rfl) (fun ls H locs X w hl => ?_)
  obtain ⟨⟨hx, hb, hml, hown, hts⟩, hr, hlocks, hK, hJ, hAA⟩ := id X
  have hl : lv_has ls 1 [(0, .ref (ad 0))] := hl
  unfold wX9_open at h
  refine lv_aload_n (pc := 0) hx hb dX9_open_0 rfl (lv_at hl 0 rfl) ?_
  refine Rcalli (rest := []) (RrunV (pc := 1) X w (okX9_openMany l hJ h) kw609 kmX9_openMany ⟨rfl, rfl⟩ ⟨by decide, by decide⟩ (Rrv_0 X w) rfl hl.1 rfl (Nat.le_of_ble_eq_true rfl) dX9_open_1) w (fun r1 u2 H locs h w => ?_)
  exact Riret (pc := 4) X w h dX9_open_4
set_option maxHeartbeats 4000000 in
set_option maxRecDepth 100000 in
theorem bX9_brokenOf_13 {l : Launch} {p : Program} {e : Env} {s : State} {m : MethodId} {args : Array Value} {below : List Frame} {meth : Method} {c : Code} {D : va_G} {g : Nat → ClassId} {ad : Nat → Nat} {Q : Int32 → Mm → Prop} (X : RX p s m args meth c cX9_brokenOf RX9 6 (some .int) (Cond.code yX9_brokenOf cX9_brokenOf 6 (some .int)) D g ad (RA ad)) : ∀ (n : Nat) (u : Mm) (x1 : Int32) (x2 : Int32) (H : Heap) (locs : List Loc) (ls : Array Slot), wX9_brokenOf_b13 Q n u x1 x2 → RWd D g ad (RA ad) s u H locs → lv_has ls 6 [(0, .ref (ad 0)), (1, .int x1), (2, .int x2)] → W p l e ({ frames := 4, cells := 0, slots := 0, locals := 107 } : Room) s m args below meth c H locs 0 0 (MQ below (va_Qi Q (RB D g ad) (RA ad)) args s 0 0 (RA ad)) (F0 m 13 ls []) := by
  obtain ⟨⟨hx, hb, hml, hown, hts⟩, hr, hlocks, hK, hJ, hAA⟩ := id X
  intro n
  induction n with
  | zero =>
    intro u x1 x2 H locs ls h
    exact False.elim h
  | succ n ih =>
    intro u x1 x2 H locs ls h w hl
    unfold wX9_brokenOf_b13 at h
    refine lv_iload_n (pc := 13) hx hb dX9_brokenOf_13 rfl (lv_at hl 2 rfl) ?_
    refine lv_sipush (pc := 14) (v := (720 : Int32)) hx hb dX9_brokenOf_14 (by decide) ?_
    refine lv_icmp_ge (pc := 17) (tgt := 124) hx hb dX9_brokenOf_17 (by decide) (fun c_ => ?_) (fun c_ => ?_)
    · have h := h.1 c_
      refine lv_iconst (pc := 124) (v := (-1 : Int32)) hx hb dX9_brokenOf_124 (by decide) ?_
      exact Riret (pc := 125) X w h dX9_brokenOf_125
    · have h := h.2 c_
      refine lv_iload_n (pc := 20) hx hb dX9_brokenOf_20 rfl (lv_at hl 2 rfl) ?_
      refine Rcalli (rest := []) (RrunS (pc := 21) X w (okX9_landOf l hJ h) kw512 kmX9_landOf ⟨rfl, rfl⟩ ⟨by decide, by decide⟩ rfl hl.1 rfl (Nat.le_of_ble_eq_true rfl) dX9_brokenOf_21) w (fun r1 u9_ H locs h w => ?_)
      obtain ⟨rfl, h⟩ := h
      refine lv_iload_n (pc := 24) hx hb dX9_brokenOf_24 rfl (lv_at hl 2 rfl) ?_
      refine Rcalli (rest := [.int r1]) (RrunS (pc := 25) X w (okX9_productOf l hJ h) kw515 kmX9_productOf ⟨rfl, rfl⟩ ⟨by decide, by decide⟩ rfl hl.1 rfl (Nat.le_of_ble_eq_true rfl) dX9_brokenOf_25) w (fun r2 u9_ H locs h w => ?_)
      obtain ⟨rfl, h⟩ := h
      refine lv_iload_n (pc := 28) hx hb dX9_brokenOf_28 rfl (lv_at hl 2 rfl) ?_
      refine Rcalli (rest := [.int r2, .int r1]) (RrunS (pc := 29) X w (okX9_columnOf l hJ h) kw518 kmX9_columnOf ⟨rfl, rfl⟩ ⟨by decide, by decide⟩ rfl hl.1 rfl (Nat.le_of_ble_eq_true rfl) dX9_brokenOf_29) w (fun r3 u9_ H locs h w => ?_)
      obtain ⟨rfl, h⟩ := h
      refine lv_iconst (pc := 32) (v := (4 : Int32)) hx hb dX9_brokenOf_32 (by decide) ?_
      refine lv_iload_n (pc := 33) hx hb dX9_brokenOf_33 rfl (lv_at hl 2 rfl) ?_
      refine Rcalli (rest := [.int (4 : Int32), .int r3, .int r2, .int r1]) (RrunS (pc := 34) X w (okX9_timeOf l hJ h) kw521 kmX9_timeOf ⟨rfl, rfl⟩ ⟨by decide, by decide⟩ rfl hl.1 rfl (Nat.le_of_ble_eq_true rfl) dX9_brokenOf_34) w (fun r4 u9_ H locs h w => ?_)
      obtain ⟨rfl, h⟩ := h
      refine lv_imul (pc := 37) hx hb dX9_brokenOf_37 ?_
      refine Rcalli (rest := []) (RrunS (pc := 38) X w (okX9_cellOf l hJ h) kw502 kmX9_cellOf ⟨rfl, rfl⟩ ⟨by decide, by decide⟩ rfl hl.1 rfl (Nat.le_of_ble_eq_true rfl) dX9_brokenOf_38) w (fun r5 u9_ H locs h w => ?_)
      obtain ⟨rfl, h⟩ := h
      refine lv_istore_n (pc := 41) (lv' := [(3, .int r5), (0, .ref (ad 0)), (1, .int x1), (2, .int x2)]) hx hb dX9_brokenOf_41 rfl hl (by decide) rfl (fun ls hl => ?_)
      refine lv_aload_n (pc := 42) hx hb dX9_brokenOf_42 rfl (lv_at hl 1 rfl) ?_
      refine Rgf_0_19 (pc := 43) X w kw576 dX9_brokenOf_43 ?_
      refine lv_iload_n (pc := 46) hx hb dX9_brokenOf_46 rfl (lv_at hl 0 rfl) ?_
      refine Rld_15 (pc := 47) X w h.1 dX9_brokenOf_47 ?_
      have h := h.2
      refine lv_aload_n (pc := 48) hx hb dX9_brokenOf_48 rfl (lv_at hl 1 rfl) ?_
      refine Rgf_0_19 (pc := 49) X w kw576 dX9_brokenOf_49 ?_
      refine lv_iload_n (pc := 52) hx hb dX9_brokenOf_52 rfl (lv_at hl 0 rfl) ?_
      refine lv_iconst (pc := 53) (v := (1 : Int32)) hx hb dX9_brokenOf_53 (by decide) ?_
      refine lv_iadd (pc := 54) hx hb dX9_brokenOf_54 ?_
      refine Rld_15 (pc := 55) X w h.1 dX9_brokenOf_55 ?_
      have h := h.2
      refine lv_ladd (pc := 56) hx hb dX9_brokenOf_56 ?_
      refine lv_aload_n (pc := 57) hx hb dX9_brokenOf_57 rfl (lv_at hl 1 rfl) ?_
      refine Rgf_0_19 (pc := 58) X w kw576 dX9_brokenOf_58 ?_
      refine lv_iload_n (pc := 61) hx hb dX9_brokenOf_61 rfl (lv_at hl 0 rfl) ?_
      refine lv_iconst (pc := 62) (v := (2 : Int32)) hx hb dX9_brokenOf_62 (by decide) ?_
      refine lv_iadd (pc := 63) hx hb dX9_brokenOf_63 ?_
      refine Rld_15 (pc := 64) X w h.1 dX9_brokenOf_64 ?_
      have h := h.2
      refine lv_ladd (pc := 65) hx hb dX9_brokenOf_65 ?_
      refine lv_aload_n (pc := 66) hx hb dX9_brokenOf_66 rfl (lv_at hl 1 rfl) ?_
      refine Rgf_0_19 (pc := 67) X w kw576 dX9_brokenOf_67 ?_
      refine lv_iload_n (pc := 70) hx hb dX9_brokenOf_70 rfl (lv_at hl 0 rfl) ?_
      refine lv_iconst (pc := 71) (v := (3 : Int32)) hx hb dX9_brokenOf_71 (by decide) ?_
      refine lv_iadd (pc := 72) hx hb dX9_brokenOf_72 ?_
      refine Rld_15 (pc := 73) X w h.1 dX9_brokenOf_73 ?_
      have h := h.2
      refine lv_ladd (pc := 74) hx hb dX9_brokenOf_74 ?_
      refine lv_topl (fun x4_6 e_ => ?_)
      have h := h x4_6 e_
      refine lv_lstore (pc := 75) (lv' := [(4, .long x4_6), (3, .int r5), (0, .ref (ad 0)), (1, .int x1), (2, .int x2)]) hx hb dX9_brokenOf_75 hl (by decide) rfl (fun ls hl => ?_)
      refine lv_aload_n (pc := 77) hx hb dX9_brokenOf_77 rfl (lv_at hl 2 rfl) ?_
      refine Rgf_0_10 (pc := 78) X w kw556 dX9_brokenOf_78 ?_
      refine lv_iload_n (pc := 81) hx hb dX9_brokenOf_81 rfl (lv_at hl 4 rfl) ?_
      refine Rld_8 (pc := 82) X w h.1 dX9_brokenOf_82 ?_
      have h := h.2
      refine lv_if_le (pc := 83) (tgt := 118) hx hb dX9_brokenOf_83 (by decide) (fun c_ => ?_) (fun c_ => ?_)
      · have h := h.1 c_
        obtain ⟨x2_7, e_⟩ : ∃ y : Int32, y = x2 + (1 : Int32) := ⟨_, rfl⟩
        have h := h x2_7 e_
        refine lv_iinc (pc := 118) (v := x2_7) (lv' := [(2, .int x2_7), (4, .long x4_6), (3, .int r5), (0, .ref (ad 0)), (1, .int x1)]) hx hb dX9_brokenOf_118 hl (k := 4) rfl (by rw [e_]; rfl) (by decide) rfl (fun ls hl => ?_)
        refine lv_goto (pc := 121) (tgt := 13) hx hb dX9_brokenOf_121 (by decide) ?_
        exact ih u x1 x2_7 H locs ls h w (lv_sub hl [3, 4, 0] rfl)
      · have h := h.2 c_
        refine lv_lload (pc := 86) hx hb dX9_brokenOf_86 (lv_at hl 0 rfl) ?_
        refine lv_aload_n (pc := 88) hx hb dX9_brokenOf_88 rfl (lv_at hl 2 rfl) ?_
        refine Rgf_0_9 (pc := 89) X w kw558 dX9_brokenOf_89 ?_
        refine lv_iload_n (pc := 92) hx hb dX9_brokenOf_92 rfl (lv_at hl 4 rfl) ?_
        refine Rld_7 (pc := 93) X w h.1 dX9_brokenOf_93 ?_
        have h := h.2
        refine lq_eq (pc := 94) (tgt := 118) hx hb dX9_brokenOf_94 dX9_brokenOf_95 (by decide) (fun c_ => ?_) (fun c_ => ?_)
        · have h := h.1 c_
          obtain ⟨x2_8, e_⟩ : ∃ y : Int32, y = x2 + (1 : Int32) := ⟨_, rfl⟩
          have h := h x2_8 e_
          refine lv_iinc (pc := 118) (v := x2_8) (lv' := [(2, .int x2_8), (4, .long x4_6), (3, .int r5), (0, .ref (ad 0)), (1, .int x1)]) hx hb dX9_brokenOf_118 hl (k := 4) rfl (by rw [e_]; rfl) (by decide) rfl (fun ls hl => ?_)
          refine lv_goto (pc := 121) (tgt := 13) hx hb dX9_brokenOf_121 (by decide) ?_
          exact ih u x1 x2_8 H locs ls h w (lv_sub hl [3, 4, 0] rfl)
        · have h := h.2 c_
          refine lv_aload_n (pc := 98) hx hb dX9_brokenOf_98 rfl (lv_at hl 2 rfl) ?_
          refine Rgf_0_22 (pc := 99) X w kw613 dX9_brokenOf_99 ?_
          refine lv_iload_n (pc := 102) hx hb dX9_brokenOf_102 rfl (lv_at hl 3 rfl) ?_
          refine lv_icmp_ne (pc := 103) (tgt := 108) hx hb dX9_brokenOf_103 (by decide) (fun c_ => ?_) (fun c_ => ?_)
          · have h := h.2 c_
            refine lv_aload_n (pc := 108) hx hb dX9_brokenOf_108 rfl (lv_at hl 2 rfl) ?_
            refine lv_dup (pc := 109) hx hb dX9_brokenOf_109 rfl ?_
            refine Rgf_0_22 (pc := 110) X w kw613 dX9_brokenOf_110 ?_
            refine lv_iconst (pc := 113) (v := (1 : Int32)) hx hb dX9_brokenOf_113 (by decide) ?_
            refine lv_iadd (pc := 114) hx hb dX9_brokenOf_114 ?_
            refine Rpf_0_22 (pc := 115) X w kw613 dX9_brokenOf_115 (fun H locs w => ?_)
            obtain ⟨u9, e_⟩ : ∃ y : Mm, y = s32 u 122 0 ((u.1 122 0) + (1 : Int32)) := ⟨_, rfl⟩
            rw [← e_] at w
            have h := h u9 e_
            obtain ⟨x2_10, e_⟩ : ∃ y : Int32, y = x2 + (1 : Int32) := ⟨_, rfl⟩
            have h := h x2_10 e_
            refine lv_iinc (pc := 118) (v := x2_10) (lv' := [(2, .int x2_10), (4, .long x4_6), (3, .int r5), (0, .ref (ad 0)), (1, .int x1)]) hx hb dX9_brokenOf_118 hl (k := 4) rfl (by rw [e_]; rfl) (by decide) rfl (fun ls hl => ?_)
            refine lv_goto (pc := 121) (tgt := 13) hx hb dX9_brokenOf_121 (by decide) ?_
            exact ih u9 x1 x2_10 H locs ls h w (lv_sub hl [3, 4, 0] rfl)
          · have h := h.1 c_
            refine lv_iload_n (pc := 106) hx hb dX9_brokenOf_106 rfl (lv_at hl 4 rfl) ?_
            exact Riret (pc := 107) X w h dX9_brokenOf_107
set_option maxHeartbeats 4000000 in
set_option maxRecDepth 100000 in
theorem okX9_brokenOf (l : Launch) {D : va_G} {g : Nat → ClassId} {ad : Nat → Nat} (hJ : RJ ad) {u : Mm} {a1 : Int32} {Q : Int32 → Mm → Prop} (h : wX9_brokenOf u a1 Q) : Met l yX9_brokenOf (Cond.code yX9_brokenOf cX9_brokenOf 6 (some .int) :: gt) ({ frames := 4, cells := 0, slots := 0, locals := 107 } : Room) (RPc D g ad u [.ref (ad 0), .int a1]) (va_Qi Q (RB D g ad) (RA ad)) 0 0 (RA ad) := by
  refine Met.ofW (cc := cX9_brokenOf) (maxL := 6) (ret := (some .int)) (by decide) rfl ?_
  intro p e s m args below meth c s₁ B hml hv
  refine Rentry (own := RX9) B hml hv hJ rfl (Nat.le_of_ble_eq_true rfl) (fun ls H locs X w hl => ?_)
  obtain ⟨⟨hx, hb, hml, hown, hts⟩, hr, hlocks, hK, hJ, hAA⟩ := id X
  have hl : lv_has ls 6 [(0, .ref (ad 0)), (1, .int a1)] := hl
  unfold wX9_brokenOf at h
  refine lv_aload_n (pc := 0) hx hb dX9_brokenOf_0 rfl (lv_at hl 0 rfl) ?_
  refine Rcallv (rest := []) (RrunV (pc := 1) X w (okX9_looks l hJ h) kw595 kmX9_looks ⟨rfl, rfl⟩ ⟨by decide, by decide⟩ (Rrv_0 X w) rfl hl.1 rfl (Nat.le_of_ble_eq_true rfl) dX9_brokenOf_1) w (fun u2 H locs h w => ?_)
  refine lv_aload_n (pc := 4) hx hb dX9_brokenOf_4 rfl (lv_at hl 0 rfl) ?_
  refine lv_iconst (pc := 5) (v := (0 : Int32)) hx hb dX9_brokenOf_5 (by decide) ?_
  refine Rpf_0_22 (pc := 6) X w kw613 dX9_brokenOf_6 (fun H locs w => ?_)
  obtain ⟨u3, e_⟩ : ∃ y : Mm, y = s32 u2 122 0 (0 : Int32) := ⟨_, rfl⟩
  rw [← e_] at w
  have h := h u3 e_
  refine lv_sipush (pc := 9) (v := (576 : Int32)) hx hb dX9_brokenOf_9 (by decide) ?_
  refine lv_istore_n (pc := 12) (lv' := [(2, .int (576 : Int32)), (0, .ref (ad 0)), (1, .int a1)]) hx hb dX9_brokenOf_12 rfl hl (by decide) rfl (fun ls hl => ?_)
  obtain ⟨n9, h⟩ := h
  exact bX9_brokenOf_13 X n9 u3 a1 (576 : Int32) H locs ls h w (lv_sub hl [1, 2, 0] rfl)
set_option maxHeartbeats 4000000 in
set_option maxRecDepth 100000 in
theorem okX9_broken (l : Launch) {D : va_G} {g : Nat → ClassId} {ad : Nat → Nat} (hJ : RJ ad) {u : Mm} {Q : Int32 → Mm → Prop} (h : wX9_broken u Q) : Met l yX9_broken (Cond.code yX9_broken cX9_broken 2 (some .int) :: gt) ({ frames := 5, cells := 0, slots := 0, locals := 132 } : Room) (RPc D g ad u [.ref (ad 0)]) (va_Qi Q (RB D g ad) (RA ad)) 0 0 (RA ad) := by
  refine Met.ofW (cc := cX9_broken) (maxL := 2) (ret := (some .int)) (by decide) rfl ?_
  intro p e s m args below meth c s₁ B hml hv
  refine Rentry (own := RX9) B hml hv hJ rfl (Nat.le_of_ble_eq_true rfl) (fun ls H locs X w hl => ?_)
  obtain ⟨⟨hx, hb, hml, hown, hts⟩, hr, hlocks, hK, hJ, hAA⟩ := id X
  have hl : lv_has ls 2 [(0, .ref (ad 0))] := hl
  unfold wX9_broken at h
  refine lv_aload_n (pc := 0) hx hb dX9_broken_0 rfl (lv_at hl 0 rfl) ?_
  refine lv_iconst (pc := 1) (v := (-1 : Int32)) hx hb dX9_broken_1 (by decide) ?_
  refine Rcalli (rest := []) (RrunV (pc := 2) X w (okX9_brokenOf l hJ h) kw614 kmX9_brokenOf ⟨rfl, rfl⟩ ⟨by decide, by decide⟩ (Rrv_0 X w) rfl hl.1 rfl (Nat.le_of_ble_eq_true rfl) dX9_broken_2) w (fun r1 u2 H locs h w => ?_)
  refine lv_istore_n (pc := 5) (lv' := [(1, .int r1), (0, .ref (ad 0))]) hx hb dX9_broken_5 rfl hl (by decide) rfl (fun ls hl => ?_)
  refine lv_aload_n (pc := 6) hx hb dX9_broken_6 rfl (lv_at hl 1 rfl) ?_
  refine Rgf_0_22 (pc := 7) X w kw613 dX9_broken_7 ?_
  exact Riret (pc := 10) X w h dX9_broken_10
set_option maxHeartbeats 4000000 in
set_option maxRecDepth 100000 in
theorem okX9_breaks (l : Launch) {D : va_G} {g : Nat → ClassId} {ad : Nat → Nat} (hJ : RJ ad) {u : Mm} {a1 : Int32} {Q : Int32 → Mm → Prop} (h : wX9_breaks u a1 Q) : Met l yX9_breaks (Cond.code yX9_breaks cX9_breaks 2 (some .int) :: gt) ({ frames := 5, cells := 0, slots := 0, locals := 132 } : Room) (RPc D g ad u [.ref (ad 0), .int a1]) (va_Qi Q (RB D g ad) (RA ad)) 0 0 (RA ad) := by
  refine Met.ofW (cc := cX9_breaks) (maxL := 2) (ret := (some .int)) (by decide) rfl ?_
  intro p e s m args below meth c s₁ B hml hv
  refine Rentry (own := RX9) B hml hv hJ rfl (Nat.le_of_ble_eq_true rfl) (fun ls H locs X w hl => ?_)
  obtain ⟨⟨hx, hb, hml, hown, hts⟩, hr, hlocks, hK, hJ, hAA⟩ := id X
  have hl : lv_has ls 2 [(0, .ref (ad 0)), (1, .int a1)] := hl
  unfold wX9_breaks at h
  refine lv_iload_n (pc := 0) hx hb dX9_breaks_0 rfl (lv_at hl 1 rfl) ?_
  refine lv_if_ge (pc := 1) (tgt := 9) hx hb dX9_breaks_1 (by decide) (fun c_ => ?_) (fun c_ => ?_)
  · have h := h.1 c_
    refine lv_aload_n (pc := 9) hx hb dX9_breaks_9 rfl (lv_at hl 0 rfl) ?_
    refine lv_iload_n (pc := 10) hx hb dX9_breaks_10 rfl (lv_at hl 1 rfl) ?_
    refine Rcalli (rest := []) (RrunV (pc := 11) X w (okX9_brokenOf l hJ h) kw614 kmX9_brokenOf ⟨rfl, rfl⟩ ⟨by decide, by decide⟩ (Rrv_0 X w) rfl hl.1 rfl (Nat.le_of_ble_eq_true rfl) dX9_breaks_11) w (fun r1 u2 H locs h w => ?_)
    exact Riret (pc := 14) X w h dX9_breaks_14
  · have h := h.2 c_
    refine lv_bipush (pc := 4) (v := (-2 : Int32)) hx hb dX9_breaks_4 (by decide) ?_
    refine lv_goto (pc := 6) (tgt := 14) hx hb dX9_breaks_6 (by decide) ?_
    exact Riret (pc := 14) X w h dX9_breaks_14
set_option maxHeartbeats 4000000 in
set_option maxRecDepth 100000 in
theorem okX9_price (l : Launch) {D : va_G} {g : Nat → ClassId} {ad : Nat → Nat} (hJ : RJ ad) {u : Mm} {a1 : Int32} {a2 : Int32} {a3 : Int32} {Q : Int32 → Mm → Prop} (h : wX9_price u a1 a2 a3 Q) : Met l yX9_price (Cond.code yX9_price cX9_price 5 (some .int) :: gt) ({ frames := 1, cells := 0, slots := 0, locals := 25 } : Room) (RPc D g ad u [.ref (ad 0), .int a1, .int a2, .int a3]) (va_Qi Q (RB D g ad) (RA ad)) 0 0 (RA ad) := by
  refine Met.ofW (cc := cX9_price) (maxL := 5) (ret := (some .int)) (by decide) rfl ?_
  intro p e s m args below meth c s₁ B hml hv
  refine Rentry (own := RX9) B hml hv hJ rfl (Nat.le_of_ble_eq_true rfl) (fun ls H locs X w hl => ?_)
  obtain ⟨⟨hx, hb, hml, hown, hts⟩, hr, hlocks, hK, hJ, hAA⟩ := id X
  have hl : lv_has ls 5 [(0, .ref (ad 0)), (1, .int a1), (2, .int a2), (3, .int a3)] := hl
  unfold wX9_price at h
  refine lv_iload_n (pc := 0) hx hb dX9_price_0 rfl (lv_at hl 1 rfl) ?_
  refine lv_i2l (pc := 1) hx hb dX9_price_1 rfl ?_
  refine lv_lconst (pc := 2) (v := (0 : Int64)) hx hb dX9_price_2 (by decide) ?_
  refine lv_ldc2 (pc := 3) (v := (3 : Int64)) hx hb hown (hts _ (List.mem_cons_of_mem _ kw494)) dX9_price_3 ?_
  refine Rcalli (rest := []) (RrunS (pc := 6) X w (okX9_in l hJ h) kw490 kmX9_in ⟨rfl, rfl⟩ ⟨by decide, by decide⟩ rfl hl.1 rfl (Nat.le_of_ble_eq_true rfl) dX9_price_6) w (fun r1 u9_ H locs h w => ?_)
  obtain ⟨hz_r1, h⟩ := h
  obtain ⟨rfl, h⟩ := h
  refine lv_if_eq (pc := 9) (tgt := 38) hx hb dX9_price_9 (by decide) (fun c_ => ?_) (fun c_ => ?_)
  · have h := h.1 c_
    refine lv_bipush (pc := 38) (v := (-2 : Int32)) hx hb dX9_price_38 (by decide) ?_
    exact Riret (pc := 40) X w h dX9_price_40
  · have h := h.2 c_
    refine lv_iload_n (pc := 12) hx hb dX9_price_12 rfl (lv_at hl 2 rfl) ?_
    refine lv_i2l (pc := 13) hx hb dX9_price_13 rfl ?_
    refine lv_lconst (pc := 14) (v := (0 : Int64)) hx hb dX9_price_14 (by decide) ?_
    refine lv_ldc2 (pc := 15) (v := (11 : Int64)) hx hb hown (hts _ (List.mem_cons_of_mem _ kw501)) dX9_price_15 ?_
    refine Rcalli (rest := []) (RrunS (pc := 18) X w (okX9_in l hJ h) kw490 kmX9_in ⟨rfl, rfl⟩ ⟨by decide, by decide⟩ rfl hl.1 rfl (Nat.le_of_ble_eq_true rfl) dX9_price_18) w (fun r2 u9_ H locs h w => ?_)
    obtain ⟨hz_r2, h⟩ := h
    obtain ⟨rfl, h⟩ := h
    refine lv_if_eq (pc := 21) (tgt := 38) hx hb dX9_price_21 (by decide) (fun c_ => ?_) (fun c_ => ?_)
    · have h := h.1 c_
      refine lv_bipush (pc := 38) (v := (-2 : Int32)) hx hb dX9_price_38 (by decide) ?_
      exact Riret (pc := 40) X w h dX9_price_40
    · have h := h.2 c_
      refine lv_iload_n (pc := 24) hx hb dX9_price_24 rfl (lv_at hl 3 rfl) ?_
      refine lv_i2l (pc := 25) hx hb dX9_price_25 rfl ?_
      refine lv_ldc2 (pc := 26) (v := (10 : Int64)) hx hb hown (hts _ (List.mem_cons_of_mem _ kw618)) dX9_price_26 ?_
      refine lv_ldc2 (pc := 29) (v := (1000 : Int64)) hx hb hown (hts _ (List.mem_cons_of_mem _ kw619)) dX9_price_29 ?_
      refine Rcalli (rest := []) (RrunS (pc := 32) X w (okX9_in l hJ h) kw490 kmX9_in ⟨rfl, rfl⟩ ⟨by decide, by decide⟩ rfl hl.1 rfl (Nat.le_of_ble_eq_true rfl) dX9_price_32) w (fun r3 u9_ H locs h w => ?_)
      obtain ⟨hz_r3, h⟩ := h
      obtain ⟨rfl, h⟩ := h
      refine lv_if_ne (pc := 35) (tgt := 41) hx hb dX9_price_35 (by decide) (fun c_ => ?_) (fun c_ => ?_)
      · have h := h.2 c_
        refine lv_aload_n (pc := 41) hx hb dX9_price_41 rfl (lv_at hl 0 rfl) ?_
        refine Rgf_0_23 (pc := 42) X w kw620 dX9_price_42 ?_
        refine lv_bipush (pc := 45) (v := (12 : Int32)) hx hb dX9_price_45 (by decide) ?_
        refine lv_iload_n (pc := 47) hx hb dX9_price_47 rfl (lv_at hl 1 rfl) ?_
        refine lv_imul (pc := 48) hx hb dX9_price_48 ?_
        refine lv_iload_n (pc := 49) hx hb dX9_price_49 rfl (lv_at hl 2 rfl) ?_
        refine lv_iadd (pc := 50) hx hb dX9_price_50 ?_
        refine Rld_18 (pc := 51) X w h.1 dX9_price_51 ?_
        have h := h.2
        refine lv_topi (fun x4_4 e_ => ?_)
        have h := h x4_4 e_
        refine lv_istore (pc := 52) (lv' := [(4, .int x4_4), (0, .ref (ad 0)), (1, .int a1), (2, .int a2), (3, .int a3)]) hx hb dX9_price_52 hl (by decide) rfl (fun ls hl => ?_)
        refine lv_aload_n (pc := 54) hx hb dX9_price_54 rfl (lv_at hl 1 rfl) ?_
        refine Rgf_0_23 (pc := 55) X w kw620 dX9_price_55 ?_
        refine lv_bipush (pc := 58) (v := (12 : Int32)) hx hb dX9_price_58 (by decide) ?_
        refine lv_iload_n (pc := 60) hx hb dX9_price_60 rfl (lv_at hl 2 rfl) ?_
        refine lv_imul (pc := 61) hx hb dX9_price_61 ?_
        refine lv_iload_n (pc := 62) hx hb dX9_price_62 rfl (lv_at hl 3 rfl) ?_
        refine lv_iadd (pc := 63) hx hb dX9_price_63 ?_
        refine lv_iload_n (pc := 64) hx hb dX9_price_64 rfl (lv_at hl 4 rfl) ?_
        refine Rst_18 (pc := 65) X w h.1 dX9_price_65 (fun H locs w => ?_)
        have h := h.2
        obtain ⟨u5, e_⟩ : ∃ y : Mm, y = s32 u 18 (((12 : Int32) * a1) + a2).toNatClampNeg a3 := ⟨_, rfl⟩
        rw [← e_] at w
        have h := h u5 e_
        refine lv_iload (pc := 66) hx hb dX9_price_66 (lv_at hl 0 rfl) ?_
        exact Riret (pc := 68) X w h dX9_price_68
      · have h := h.1 c_
        refine lv_bipush (pc := 38) (v := (-2 : Int32)) hx hb dX9_price_38 (by decide) ?_
        exact Riret (pc := 40) X w h dX9_price_40
set_option maxHeartbeats 4000000 in
set_option maxRecDepth 100000 in
theorem okX9_volumeOf (l : Launch) {D : va_G} {g : Nat → ClassId} {ad : Nat → Nat} (hJ : RJ ad) {u : Mm} {a1 : Int32} {a2 : Int32} {a3 : Int32} {Q : Int64 → Prop} (h : wX9_volumeOf u a1 a2 a3 Q) : Met l yX9_volumeOf (Cond.code yX9_volumeOf cX9_volumeOf 4 (some .long) :: gt) ({ frames := 2, cells := 0, slots := 0, locals := 51 } : Room) (RPc D g ad u [.ref (ad 0), .int a1, .int a2, .int a3]) (va_Ql (fun r u1 => u = u1 ∧ Q r) (RB D g ad) (RA ad)) 0 0 (RA ad) := by
  refine Met.ofW (cc := cX9_volumeOf) (maxL := 4) (ret := (some .long)) (by decide) rfl ?_
  intro p e s m args below meth c s₁ B hml hv
  refine Rentry (own := RX9) B hml hv hJ rfl (Nat.le_of_ble_eq_true rfl) (fun ls H locs X w hl => ?_)
  obtain ⟨⟨hx, hb, hml, hown, hts⟩, hr, hlocks, hK, hJ, hAA⟩ := id X
  have hl : lv_has ls 4 [(0, .ref (ad 0)), (1, .int a1), (2, .int a2), (3, .int a3)] := hl
  unfold wX9_volumeOf at h
  refine lv_ldc2 (pc := 0) (v := (100 : Int64)) hx hb hown (hts _ (List.mem_cons_of_mem _ kw621)) dX9_volumeOf_0 ?_
  refine lv_aload_n (pc := 3) hx hb dX9_volumeOf_3 rfl (lv_at hl 0 rfl) ?_
  refine lv_iconst (pc := 4) (v := (-1 : Int32)) hx hb dX9_volumeOf_4 (by decide) ?_
  refine lv_iload_n (pc := 5) hx hb dX9_volumeOf_5 rfl (lv_at hl 1 rfl) ?_
  refine lv_iload_n (pc := 6) hx hb dX9_volumeOf_6 rfl (lv_at hl 2 rfl) ?_
  refine lv_iload_n (pc := 7) hx hb dX9_volumeOf_7 rfl (lv_at hl 3 rfl) ?_
  refine Rcalll (rest := [.long (100 : Int64)]) (RrunV (pc := 8) X w (okX9_totalOf l hJ h) kw605 kmX9_totalOf ⟨rfl, rfl⟩ ⟨by decide, by decide⟩ (Rrv_0 X w) rfl hl.1 rfl (Nat.le_of_ble_eq_true rfl) dX9_volumeOf_8) w (fun r1 u9_ H locs h w => ?_)
  obtain ⟨rfl, h⟩ := h
  refine lv_lmul (pc := 11) hx hb dX9_volumeOf_11 ?_
  refine lv_aload_n (pc := 12) hx hb dX9_volumeOf_12 rfl (lv_at hl 0 rfl) ?_
  refine Rgf_0_23 (pc := 13) X w kw620 dX9_volumeOf_13 ?_
  refine lv_bipush (pc := 16) (v := (12 : Int32)) hx hb dX9_volumeOf_16 (by decide) ?_
  refine lv_iload_n (pc := 18) hx hb dX9_volumeOf_18 rfl (lv_at hl 1 rfl) ?_
  refine lv_imul (pc := 19) hx hb dX9_volumeOf_19 ?_
  refine lv_iload_n (pc := 20) hx hb dX9_volumeOf_20 rfl (lv_at hl 3 rfl) ?_
  refine lv_iadd (pc := 21) hx hb dX9_volumeOf_21 ?_
  refine Rld_18 (pc := 22) X w h.1 dX9_volumeOf_22 ?_
  have h := h.2
  refine lv_i2l (pc := 23) hx hb dX9_volumeOf_23 rfl ?_
  refine Rcalll (rest := []) (RrunS (pc := 24) X w (okX9_floor l hJ h) kw553 kmX9_floor ⟨rfl, rfl⟩ ⟨by decide, by decide⟩ rfl hl.1 rfl (Nat.le_of_ble_eq_true rfl) dX9_volumeOf_24) w (fun r2 u9_ H locs h w => ?_)
  obtain ⟨rfl, h⟩ := h
  exact Rlret (pc := 27) X w ⟨rfl, h⟩ dX9_volumeOf_27
set_option maxHeartbeats 4000000 in
set_option maxRecDepth 100000 in
theorem okX9_volume (l : Launch) {D : va_G} {g : Nat → ClassId} {ad : Nat → Nat} (hJ : RJ ad) {u : Mm} {a1 : Int32} {a2 : Int32} {a3 : Int32} {Q : Int64 → Mm → Prop} (h : wX9_volume u a1 a2 a3 Q) : Met l yX9_volume (Cond.code yX9_volume cX9_volume 4 (some .long) :: gt) ({ frames := 4, cells := 0, slots := 0, locals := 107 } : Room) (RPc D g ad u [.ref (ad 0), .int a1, .int a2, .int a3]) (va_Ql Q (RB D g ad) (RA ad)) 0 0 (RA ad) := by
  refine Met.ofW (cc := cX9_volume) (maxL := 4) (ret := (some .long)) (by decide) rfl ?_
  intro p e s m args below meth c s₁ B hml hv
  refine Rentry (own := RX9) B hml hv hJ rfl (Nat.le_of_ble_eq_true rfl) (fun ls H locs X w hl => ?_)
  obtain ⟨⟨hx, hb, hml, hown, hts⟩, hr, hlocks, hK, hJ, hAA⟩ := id X
  have hl : lv_has ls 4 [(0, .ref (ad 0)), (1, .int a1), (2, .int a2), (3, .int a3)] := hl
  unfold wX9_volume at h
  refine lv_iload_n (pc := 0) hx hb dX9_volume_0 rfl (lv_at hl 1 rfl) ?_
  refine lv_i2l (pc := 1) hx hb dX9_volume_1 rfl ?_
  refine lv_lconst (pc := 2) (v := (0 : Int64)) hx hb dX9_volume_2 (by decide) ?_
  refine lv_ldc2 (pc := 3) (v := (3 : Int64)) hx hb hown (hts _ (List.mem_cons_of_mem _ kw494)) dX9_volume_3 ?_
  refine Rcalli (rest := []) (RrunS (pc := 6) X w (okX9_in l hJ h) kw490 kmX9_in ⟨rfl, rfl⟩ ⟨by decide, by decide⟩ rfl hl.1 rfl (Nat.le_of_ble_eq_true rfl) dX9_volume_6) w (fun r1 u9_ H locs h w => ?_)
  obtain ⟨hz_r1, h⟩ := h
  obtain ⟨rfl, h⟩ := h
  refine lv_if_eq (pc := 9) (tgt := 36) hx hb dX9_volume_9 (by decide) (fun c_ => ?_) (fun c_ => ?_)
  · have h := h.1 c_
    refine lv_ldc2 (pc := 36) (v := (-9223372036854775806 : Int64)) hx hb hown (hts _ (List.mem_cons_of_mem _ kw601)) dX9_volume_36 ?_
    exact Rlret (pc := 39) X w h dX9_volume_39
  · have h := h.2 c_
    refine lv_iload_n (pc := 12) hx hb dX9_volume_12 rfl (lv_at hl 2 rfl) ?_
    refine lv_i2l (pc := 13) hx hb dX9_volume_13 rfl ?_
    refine lv_lconst (pc := 14) (v := (0 : Int64)) hx hb dX9_volume_14 (by decide) ?_
    refine lv_ldc2 (pc := 15) (v := (5 : Int64)) hx hb hown (hts _ (List.mem_cons_of_mem _ kw495)) dX9_volume_15 ?_
    refine Rcalli (rest := []) (RrunS (pc := 18) X w (okX9_in l hJ h) kw490 kmX9_in ⟨rfl, rfl⟩ ⟨by decide, by decide⟩ rfl hl.1 rfl (Nat.le_of_ble_eq_true rfl) dX9_volume_18) w (fun r2 u9_ H locs h w => ?_)
    obtain ⟨hz_r2, h⟩ := h
    obtain ⟨rfl, h⟩ := h
    refine lv_if_eq (pc := 21) (tgt := 36) hx hb dX9_volume_21 (by decide) (fun c_ => ?_) (fun c_ => ?_)
    · have h := h.1 c_
      refine lv_ldc2 (pc := 36) (v := (-9223372036854775806 : Int64)) hx hb hown (hts _ (List.mem_cons_of_mem _ kw601)) dX9_volume_36 ?_
      exact Rlret (pc := 39) X w h dX9_volume_39
    · have h := h.2 c_
      refine lv_iload_n (pc := 24) hx hb dX9_volume_24 rfl (lv_at hl 3 rfl) ?_
      refine lv_i2l (pc := 25) hx hb dX9_volume_25 rfl ?_
      refine lv_lconst (pc := 26) (v := (0 : Int64)) hx hb dX9_volume_26 (by decide) ?_
      refine lv_ldc2 (pc := 27) (v := (11 : Int64)) hx hb hown (hts _ (List.mem_cons_of_mem _ kw501)) dX9_volume_27 ?_
      refine Rcalli (rest := []) (RrunS (pc := 30) X w (okX9_in l hJ h) kw490 kmX9_in ⟨rfl, rfl⟩ ⟨by decide, by decide⟩ rfl hl.1 rfl (Nat.le_of_ble_eq_true rfl) dX9_volume_30) w (fun r3 u9_ H locs h w => ?_)
      obtain ⟨hz_r3, h⟩ := h
      obtain ⟨rfl, h⟩ := h
      refine lv_if_ne (pc := 33) (tgt := 40) hx hb dX9_volume_33 (by decide) (fun c_ => ?_) (fun c_ => ?_)
      · have h := h.2 c_
        refine lv_aload_n (pc := 40) hx hb dX9_volume_40 rfl (lv_at hl 0 rfl) ?_
        refine Rcallv (rest := []) (RrunV (pc := 41) X w (okX9_looks l hJ h) kw595 kmX9_looks ⟨rfl, rfl⟩ ⟨by decide, by decide⟩ (Rrv_0 X w) rfl hl.1 rfl (Nat.le_of_ble_eq_true rfl) dX9_volume_41) w (fun u5 H locs h w => ?_)
        refine lv_aload_n (pc := 44) hx hb dX9_volume_44 rfl (lv_at hl 0 rfl) ?_
        refine lv_iload_n (pc := 45) hx hb dX9_volume_45 rfl (lv_at hl 1 rfl) ?_
        refine lv_iload_n (pc := 46) hx hb dX9_volume_46 rfl (lv_at hl 2 rfl) ?_
        refine lv_iload_n (pc := 47) hx hb dX9_volume_47 rfl (lv_at hl 3 rfl) ?_
        refine Rcalll (rest := []) (RrunV (pc := 48) X w (okX9_volumeOf l hJ h) kw622 kmX9_volumeOf ⟨rfl, rfl⟩ ⟨by decide, by decide⟩ (Rrv_0 X w) rfl hl.1 rfl (Nat.le_of_ble_eq_true rfl) dX9_volume_48) w (fun r6 u9_ H locs h w => ?_)
        obtain ⟨rfl, h⟩ := h
        exact Rlret (pc := 51) X w h dX9_volume_51
      · have h := h.1 c_
        refine lv_ldc2 (pc := 36) (v := (-9223372036854775806 : Int64)) hx hb hown (hts _ (List.mem_cons_of_mem _ kw601)) dX9_volume_36 ?_
        exact Rlret (pc := 39) X w h dX9_volume_39
set_option maxHeartbeats 4000000 in
set_option maxRecDepth 100000 in
theorem bX9_atPricesOf_77 {l : Launch} {p : Program} {e : Env} {s : State} {m : MethodId} {args : Array Value} {below : List Frame} {meth : Method} {c : Code} {D : va_G} {g : Nat → ClassId} {ad : Nat → Nat} {u : Mm} {Q : Int64 → Prop} {k6 : Int32 → Int32 → Int32 → Int32 → Int64 → Int32 → Prop} (X : RX p s m args meth c cX9_atPricesOf RX9 11 (some .long) (Cond.code yX9_atPricesOf cX9_atPricesOf 11 (some .long)) D g ad (RA ad)) (hk6 : ∀ (x1 : Int32) (x2 : Int32) (x3 : Int32) (x4 : Int32) (x5 : Int64) (x7 : Int32) (H : Heap) (locs : List Loc) (ls : Array Slot), k6 x1 x2 x3 x4 x5 x7 → RWd D g ad (RA ad) s u H locs → lv_has ls 11 [(0, .ref (ad 0)), (1, .int x1), (2, .int x2), (3, .int x3), (4, .int x4), (5, .long x5), (7, .int x7)] → W p l e ({ frames := 3, cells := 0, slots := 0, locals := 74 } : Room) s m args below meth c H locs 0 0 (MQ below (va_Ql (fun r u1 => u = u1 ∧ Q r) (RB D g ad) (RA ad)) args s 0 0 (RA ad)) (F0 m 6 ls [])) : ∀ (x1 : Int32) (x2 : Int32) (x3 : Int32) (x4 : Int32) (x7 : Int32) (x9 : Int64) (y0 : Int64) (H : Heap) (locs : List Loc) (ls : Array Slot), wX9_atPricesOf_b77 u k6 Q x1 x2 x3 x4 x7 x9 y0 → RWd D g ad (RA ad) s u H locs → lv_has ls 11 [(0, .ref (ad 0)), (1, .int x1), (2, .int x2), (3, .int x3), (4, .int x4), (7, .int x7), (9, .long x9)] → W p l e ({ frames := 3, cells := 0, slots := 0, locals := 74 } : Room) s m args below meth c H locs 0 0 (MQ below (va_Ql (fun r u1 => u = u1 ∧ Q r) (RB D g ad) (RA ad)) args s 0 0 (RA ad)) (F0 m 77 ls [.long y0]) := by
  obtain ⟨⟨hx, hb, hml, hown, hts⟩, hr, hlocks, hK, hJ, hAA⟩ := id X
  intro x1 x2 x3 x4 x7 x9 y0 H locs ls h w hl
  unfold wX9_atPricesOf_b77 at h
  refine lv_aload_n (pc := 77) hx hb dX9_atPricesOf_77 rfl (lv_at hl 0 rfl) ?_
  refine lv_iload (pc := 78) hx hb dX9_atPricesOf_78 (lv_at hl 5 rfl) ?_
  refine lv_iload_n (pc := 80) hx hb dX9_atPricesOf_80 rfl (lv_at hl 2 rfl) ?_
  refine lv_iload_n (pc := 81) hx hb dX9_atPricesOf_81 rfl (lv_at hl 3 rfl) ?_
  refine Rcalll (rest := [.long y0]) (RrunV (pc := 82) X w (okX9_volumeOf l hJ h) kw622 kmX9_volumeOf ⟨rfl, rfl⟩ ⟨by decide, by decide⟩ (Rrv_0 X w) rfl hl.1 rfl (Nat.le_of_ble_eq_true rfl) dX9_atPricesOf_82) w (fun r1 u9_ H locs h w => ?_)
  obtain ⟨rfl, h⟩ := h
  refine lv_lload (pc := 85) hx hb dX9_atPricesOf_85 (lv_at hl 6 rfl) ?_
  refine lv_lmul (pc := 87) hx hb dX9_atPricesOf_87 ?_
  refine lv_goto (pc := 88) (tgt := 92) hx hb dX9_atPricesOf_88 (by decide) ?_
  refine lv_ladd (pc := 92) hx hb dX9_atPricesOf_92 ?_
  refine lv_topl (fun x5_2 e_ => ?_)
  have h := h x5_2 e_
  refine lv_lstore (pc := 93) (lv' := [(5, .long x5_2), (0, .ref (ad 0)), (1, .int x1), (2, .int x2), (3, .int x3), (4, .int x4), (7, .int x7), (9, .long x9)]) hx hb dX9_atPricesOf_93 hl (by decide) rfl (fun ls hl => ?_)
  obtain ⟨x7_3, e_⟩ : ∃ y : Int32, y = x7 + (1 : Int32) := ⟨_, rfl⟩
  have h := h x7_3 e_
  refine lv_iinc (pc := 95) (v := x7_3) (lv' := [(7, .int x7_3), (5, .long x5_2), (0, .ref (ad 0)), (1, .int x1), (2, .int x2), (3, .int x3), (4, .int x4), (9, .long x9)]) hx hb dX9_atPricesOf_95 hl (k := 6) rfl (by rw [e_]; rfl) (by decide) rfl (fun ls hl => ?_)
  refine lv_goto (pc := 98) (tgt := 6) hx hb dX9_atPricesOf_98 (by decide) ?_
  exact hk6 x1 x2 x3 x4 x5_2 x7_3 H locs ls h w (lv_sub hl [2, 3, 4, 5, 6, 1, 0] rfl)
set_option maxHeartbeats 4000000 in
set_option maxRecDepth 100000 in
theorem bX9_atPricesOf_6 {l : Launch} {p : Program} {e : Env} {s : State} {m : MethodId} {args : Array Value} {below : List Frame} {meth : Method} {c : Code} {D : va_G} {g : Nat → ClassId} {ad : Nat → Nat} {u : Mm} {Q : Int64 → Prop} (X : RX p s m args meth c cX9_atPricesOf RX9 11 (some .long) (Cond.code yX9_atPricesOf cX9_atPricesOf 11 (some .long)) D g ad (RA ad)) : ∀ (n : Nat) (x1 : Int32) (x2 : Int32) (x3 : Int32) (x4 : Int32) (x5 : Int64) (x7 : Int32) (H : Heap) (locs : List Loc) (ls : Array Slot), wX9_atPricesOf_b6 u Q n x1 x2 x3 x4 x5 x7 → RWd D g ad (RA ad) s u H locs → lv_has ls 11 [(0, .ref (ad 0)), (1, .int x1), (2, .int x2), (3, .int x3), (4, .int x4), (5, .long x5), (7, .int x7)] → W p l e ({ frames := 3, cells := 0, slots := 0, locals := 74 } : Room) s m args below meth c H locs 0 0 (MQ below (va_Ql (fun r u1 => u = u1 ∧ Q r) (RB D g ad) (RA ad)) args s 0 0 (RA ad)) (F0 m 6 ls []) := by
  obtain ⟨⟨hx, hb, hml, hown, hts⟩, hr, hlocks, hK, hJ, hAA⟩ := id X
  intro n
  induction n with
  | zero =>
    intro x1 x2 x3 x4 x5 x7 H locs ls h
    exact False.elim h
  | succ n ih =>
    intro x1 x2 x3 x4 x5 x7 H locs ls h w hl
    unfold wX9_atPricesOf_b6 at h
    refine lv_iload (pc := 6) hx hb dX9_atPricesOf_6 (lv_at hl 6 rfl) ?_
    refine lv_iconst (pc := 8) (v := (4 : Int32)) hx hb dX9_atPricesOf_8 (by decide) ?_
    refine lv_icmp_ge (pc := 9) (tgt := 101) hx hb dX9_atPricesOf_9 (by decide) (fun c_ => ?_) (fun c_ => ?_)
    · have h := h.1 c_
      refine lv_lload (pc := 101) hx hb dX9_atPricesOf_101 (lv_at hl 5 rfl) ?_
      exact Rlret (pc := 103) X w ⟨rfl, h⟩ dX9_atPricesOf_103
    · have h := h.2 c_
      refine lv_bipush (pc := 12) (v := (12 : Int32)) hx hb dX9_atPricesOf_12 (by decide) ?_
      refine lv_iload (pc := 14) hx hb dX9_atPricesOf_14 (lv_at hl 6 rfl) ?_
      refine lv_imul (pc := 16) hx hb dX9_atPricesOf_16 ?_
      refine lv_iconst (pc := 17) (v := (4 : Int32)) hx hb dX9_atPricesOf_17 (by decide) ?_
      refine lv_iload (pc := 18) hx hb dX9_atPricesOf_18 (lv_at hl 4 rfl) ?_
      refine lv_imul (pc := 20) hx hb dX9_atPricesOf_20 ?_
      refine lv_iadd (pc := 21) hx hb dX9_atPricesOf_21 ?_
      refine lv_topi (fun x8_1 e_ => ?_)
      have h := h x8_1 e_
      refine lv_istore (pc := 22) (lv' := [(8, .int x8_1), (0, .ref (ad 0)), (1, .int x1), (2, .int x2), (3, .int x3), (4, .int x4), (5, .long x5), (7, .int x7)]) hx hb dX9_atPricesOf_22 hl (by decide) rfl (fun ls hl => ?_)
      refine lv_aload_n (pc := 24) hx hb dX9_atPricesOf_24 rfl (lv_at hl 1 rfl) ?_
      refine Rgf_0_23 (pc := 25) X w kw620 dX9_atPricesOf_25 ?_
      refine lv_iload (pc := 28) hx hb dX9_atPricesOf_28 (lv_at hl 0 rfl) ?_
      refine Rld_18 (pc := 30) X w h.1 dX9_atPricesOf_30 ?_
      have h := h.2
      refine lv_aload_n (pc := 31) hx hb dX9_atPricesOf_31 rfl (lv_at hl 1 rfl) ?_
      refine Rgf_0_23 (pc := 32) X w kw620 dX9_atPricesOf_32 ?_
      refine lv_iload (pc := 35) hx hb dX9_atPricesOf_35 (lv_at hl 0 rfl) ?_
      refine lv_iconst (pc := 37) (v := (1 : Int32)) hx hb dX9_atPricesOf_37 (by decide) ?_
      refine lv_iadd (pc := 38) hx hb dX9_atPricesOf_38 ?_
      refine Rld_18 (pc := 39) X w h.1 dX9_atPricesOf_39 ?_
      have h := h.2
      refine lv_iadd (pc := 40) hx hb dX9_atPricesOf_40 ?_
      refine lv_aload_n (pc := 41) hx hb dX9_atPricesOf_41 rfl (lv_at hl 1 rfl) ?_
      refine Rgf_0_23 (pc := 42) X w kw620 dX9_atPricesOf_42 ?_
      refine lv_iload (pc := 45) hx hb dX9_atPricesOf_45 (lv_at hl 0 rfl) ?_
      refine lv_iconst (pc := 47) (v := (2 : Int32)) hx hb dX9_atPricesOf_47 (by decide) ?_
      refine lv_iadd (pc := 48) hx hb dX9_atPricesOf_48 ?_
      refine Rld_18 (pc := 49) X w h.1 dX9_atPricesOf_49 ?_
      have h := h.2
      refine lv_iadd (pc := 50) hx hb dX9_atPricesOf_50 ?_
      refine lv_aload_n (pc := 51) hx hb dX9_atPricesOf_51 rfl (lv_at hl 1 rfl) ?_
      refine Rgf_0_23 (pc := 52) X w kw620 dX9_atPricesOf_52 ?_
      refine lv_iload (pc := 55) hx hb dX9_atPricesOf_55 (lv_at hl 0 rfl) ?_
      refine lv_iconst (pc := 57) (v := (3 : Int32)) hx hb dX9_atPricesOf_57 (by decide) ?_
      refine lv_iadd (pc := 58) hx hb dX9_atPricesOf_58 ?_
      refine Rld_18 (pc := 59) X w h.1 dX9_atPricesOf_59 ?_
      have h := h.2
      refine lv_iadd (pc := 60) hx hb dX9_atPricesOf_60 ?_
      refine lv_i2l (pc := 61) hx hb dX9_atPricesOf_61 rfl ?_
      refine lv_topl (fun x9_2 e_ => ?_)
      have h := h x9_2 e_
      refine lv_lstore (pc := 62) (lv' := [(9, .long x9_2), (8, .int x8_1), (0, .ref (ad 0)), (1, .int x1), (2, .int x2), (3, .int x3), (4, .int x4), (5, .long x5), (7, .int x7)]) hx hb dX9_atPricesOf_62 hl (by decide) rfl (fun ls hl => ?_)
      refine lv_lload (pc := 64) hx hb dX9_atPricesOf_64 (lv_at hl 7 rfl) ?_
      refine lv_iload_n (pc := 66) hx hb dX9_atPricesOf_66 rfl (lv_at hl 3 rfl) ?_
      refine lv_iconst (pc := 67) (v := (-1 : Int32)) hx hb dX9_atPricesOf_67 (by decide) ?_
      refine lv_icmp_eq (pc := 68) (tgt := 77) hx hb dX9_atPricesOf_68 (by decide) (fun c_ => ?_) (fun c_ => ?_)
      · have h := h.1 c_
        refine bX9_atPricesOf_77 X ?_ x1 x2 x3 x4 x7 x9_2 x5 H locs ls h w (lv_sub hl [2, 3, 4, 5, 6, 8, 0] rfl)
        · intro x1 x2 x3 x4 x5 x7 H locs ls h w hl
          exact ih x1 x2 x3 x4 x5 x7 H locs ls h w (lv_sub hl [0, 1, 2, 3, 4, 5, 6] rfl)
      · have h := h.2 c_
        refine lv_iload_n (pc := 71) hx hb dX9_atPricesOf_71 rfl (lv_at hl 3 rfl) ?_
        refine lv_iload (pc := 72) hx hb dX9_atPricesOf_72 (lv_at hl 8 rfl) ?_
        refine lv_icmp_ne (pc := 74) (tgt := 91) hx hb dX9_atPricesOf_74 (by decide) (fun c_ => ?_) (fun c_ => ?_)
        · have h := h.2 c_
          refine lv_lconst (pc := 91) (v := (0 : Int64)) hx hb dX9_atPricesOf_91 (by decide) ?_
          refine lv_ladd (pc := 92) hx hb dX9_atPricesOf_92 ?_
          refine lv_topl (fun x5_3 e_ => ?_)
          have h := h x5_3 e_
          refine lv_lstore (pc := 93) (lv' := [(5, .long x5_3), (9, .long x9_2), (8, .int x8_1), (0, .ref (ad 0)), (1, .int x1), (2, .int x2), (3, .int x3), (4, .int x4), (7, .int x7)]) hx hb dX9_atPricesOf_93 hl (by decide) rfl (fun ls hl => ?_)
          obtain ⟨x7_4, e_⟩ : ∃ y : Int32, y = x7 + (1 : Int32) := ⟨_, rfl⟩
          have h := h x7_4 e_
          refine lv_iinc (pc := 95) (v := x7_4) (lv' := [(7, .int x7_4), (5, .long x5_3), (9, .long x9_2), (8, .int x8_1), (0, .ref (ad 0)), (1, .int x1), (2, .int x2), (3, .int x3), (4, .int x4)]) hx hb dX9_atPricesOf_95 hl (k := 8) rfl (by rw [e_]; rfl) (by decide) rfl (fun ls hl => ?_)
          refine lv_goto (pc := 98) (tgt := 6) hx hb dX9_atPricesOf_98 (by decide) ?_
          exact ih x1 x2 x3 x4 x5_3 x7_4 H locs ls h w (lv_sub hl [4, 5, 6, 7, 8, 1, 0] rfl)
        · have h := h.1 c_
          refine bX9_atPricesOf_77 X ?_ x1 x2 x3 x4 x7 x9_2 x5 H locs ls h w (lv_sub hl [2, 3, 4, 5, 6, 8, 0] rfl)
          · intro x1 x2 x3 x4 x5 x7 H locs ls h w hl
            exact ih x1 x2 x3 x4 x5 x7 H locs ls h w (lv_sub hl [0, 1, 2, 3, 4, 5, 6] rfl)
set_option maxHeartbeats 4000000 in
set_option maxRecDepth 100000 in
theorem okX9_atPricesOf (l : Launch) {D : va_G} {g : Nat → ClassId} {ad : Nat → Nat} (hJ : RJ ad) {u : Mm} {a1 : Int32} {a2 : Int32} {a3 : Int32} {a4 : Int32} {Q : Int64 → Prop} (h : wX9_atPricesOf u a1 a2 a3 a4 Q) : Met l yX9_atPricesOf (Cond.code yX9_atPricesOf cX9_atPricesOf 11 (some .long) :: gt) ({ frames := 3, cells := 0, slots := 0, locals := 74 } : Room) (RPc D g ad u [.ref (ad 0), .int a1, .int a2, .int a3, .int a4]) (va_Ql (fun r u1 => u = u1 ∧ Q r) (RB D g ad) (RA ad)) 0 0 (RA ad) := by
  refine Met.ofW (cc := cX9_atPricesOf) (maxL := 11) (ret := (some .long)) (by decide) rfl ?_
  intro p e s m args below meth c s₁ B hml hv
  refine Rentry (own := RX9) B hml hv hJ rfl (Nat.le_of_ble_eq_true rfl) (fun ls H locs X w hl => ?_)
  obtain ⟨⟨hx, hb, hml, hown, hts⟩, hr, hlocks, hK, hJ, hAA⟩ := id X
  have hl : lv_has ls 11 [(0, .ref (ad 0)), (1, .int a1), (2, .int a2), (3, .int a3), (4, .int a4)] := hl
  unfold wX9_atPricesOf at h
  refine lv_lconst (pc := 0) (v := (0 : Int64)) hx hb dX9_atPricesOf_0 (by decide) ?_
  refine lv_lstore (pc := 1) (lv' := [(5, .long (0 : Int64)), (0, .ref (ad 0)), (1, .int a1), (2, .int a2), (3, .int a3), (4, .int a4)]) hx hb dX9_atPricesOf_1 hl (by decide) rfl (fun ls hl => ?_)
  refine lv_iconst (pc := 3) (v := (0 : Int32)) hx hb dX9_atPricesOf_3 (by decide) ?_
  refine lv_istore (pc := 4) (lv' := [(7, .int (0 : Int32)), (5, .long (0 : Int64)), (0, .ref (ad 0)), (1, .int a1), (2, .int a2), (3, .int a3), (4, .int a4)]) hx hb dX9_atPricesOf_4 hl (by decide) rfl (fun ls hl => ?_)
  obtain ⟨n9, h⟩ := h
  exact bX9_atPricesOf_6 X n9 a1 a2 a3 a4 (0 : Int64) (0 : Int32) H locs ls h w (lv_sub hl [2, 3, 4, 5, 6, 1, 0] rfl)
set_option maxHeartbeats 4000000 in
set_option maxRecDepth 100000 in
theorem okX9_atPrices (l : Launch) {D : va_G} {g : Nat → ClassId} {ad : Nat → Nat} (hJ : RJ ad) {u : Mm} {a1 : Int32} {a2 : Int32} {a3 : Int32} {a4 : Int32} {Q : Int64 → Mm → Prop} (h : wX9_atPrices u a1 a2 a3 a4 Q) : Met l yX9_atPrices (Cond.code yX9_atPrices cX9_atPrices 5 (some .long) :: gt) ({ frames := 4, cells := 0, slots := 0, locals := 107 } : Room) (RPc D g ad u [.ref (ad 0), .int a1, .int a2, .int a3, .int a4]) (va_Ql Q (RB D g ad) (RA ad)) 0 0 (RA ad) := by
  refine Met.ofW (cc := cX9_atPrices) (maxL := 5) (ret := (some .long)) (by decide) rfl ?_
  intro p e s m args below meth c s₁ B hml hv
  refine Rentry (own := RX9) B hml hv hJ rfl (Nat.le_of_ble_eq_true rfl) (fun ls H locs X w hl => ?_)
  obtain ⟨⟨hx, hb, hml, hown, hts⟩, hr, hlocks, hK, hJ, hAA⟩ := id X
  have hl : lv_has ls 5 [(0, .ref (ad 0)), (1, .int a1), (2, .int a2), (3, .int a3), (4, .int a4)] := hl
  unfold wX9_atPrices at h
  refine lv_iload_n (pc := 0) hx hb dX9_atPrices_0 rfl (lv_at hl 1 rfl) ?_
  refine lv_i2l (pc := 1) hx hb dX9_atPrices_1 rfl ?_
  refine lv_ldc2 (pc := 2) (v := (-1 : Int64)) hx hb hown (hts _ (List.mem_cons_of_mem _ kw547)) dX9_atPrices_2 ?_
  refine lv_ldc2 (pc := 5) (v := (3 : Int64)) hx hb hown (hts _ (List.mem_cons_of_mem _ kw494)) dX9_atPrices_5 ?_
  refine Rcalli (rest := []) (RrunS (pc := 8) X w (okX9_in l hJ h) kw490 kmX9_in ⟨rfl, rfl⟩ ⟨by decide, by decide⟩ rfl hl.1 rfl (Nat.le_of_ble_eq_true rfl) dX9_atPrices_8) w (fun r1 u9_ H locs h w => ?_)
  obtain ⟨hz_r1, h⟩ := h
  obtain ⟨rfl, h⟩ := h
  refine lv_if_eq (pc := 11) (tgt := 51) hx hb dX9_atPrices_11 (by decide) (fun c_ => ?_) (fun c_ => ?_)
  · have h := h.1 c_
    refine lv_ldc2 (pc := 51) (v := (-9223372036854775806 : Int64)) hx hb hown (hts _ (List.mem_cons_of_mem _ kw601)) dX9_atPrices_51 ?_
    exact Rlret (pc := 54) X w h dX9_atPrices_54
  · have h := h.2 c_
    refine lv_iload_n (pc := 14) hx hb dX9_atPrices_14 rfl (lv_at hl 2 rfl) ?_
    refine lv_i2l (pc := 15) hx hb dX9_atPrices_15 rfl ?_
    refine lv_lconst (pc := 16) (v := (0 : Int64)) hx hb dX9_atPrices_16 (by decide) ?_
    refine lv_ldc2 (pc := 17) (v := (5 : Int64)) hx hb hown (hts _ (List.mem_cons_of_mem _ kw495)) dX9_atPrices_17 ?_
    refine Rcalli (rest := []) (RrunS (pc := 20) X w (okX9_in l hJ h) kw490 kmX9_in ⟨rfl, rfl⟩ ⟨by decide, by decide⟩ rfl hl.1 rfl (Nat.le_of_ble_eq_true rfl) dX9_atPrices_20) w (fun r2 u9_ H locs h w => ?_)
    obtain ⟨hz_r2, h⟩ := h
    obtain ⟨rfl, h⟩ := h
    refine lv_if_eq (pc := 23) (tgt := 51) hx hb dX9_atPrices_23 (by decide) (fun c_ => ?_) (fun c_ => ?_)
    · have h := h.1 c_
      refine lv_ldc2 (pc := 51) (v := (-9223372036854775806 : Int64)) hx hb hown (hts _ (List.mem_cons_of_mem _ kw601)) dX9_atPrices_51 ?_
      exact Rlret (pc := 54) X w h dX9_atPrices_54
    · have h := h.2 c_
      refine lv_iload_n (pc := 26) hx hb dX9_atPrices_26 rfl (lv_at hl 3 rfl) ?_
      refine lv_i2l (pc := 27) hx hb dX9_atPrices_27 rfl ?_
      refine lv_lconst (pc := 28) (v := (0 : Int64)) hx hb dX9_atPrices_28 (by decide) ?_
      refine lv_ldc2 (pc := 29) (v := (11 : Int64)) hx hb hown (hts _ (List.mem_cons_of_mem _ kw501)) dX9_atPrices_29 ?_
      refine Rcalli (rest := []) (RrunS (pc := 32) X w (okX9_in l hJ h) kw490 kmX9_in ⟨rfl, rfl⟩ ⟨by decide, by decide⟩ rfl hl.1 rfl (Nat.le_of_ble_eq_true rfl) dX9_atPrices_32) w (fun r3 u9_ H locs h w => ?_)
      obtain ⟨hz_r3, h⟩ := h
      obtain ⟨rfl, h⟩ := h
      refine lv_if_eq (pc := 35) (tgt := 51) hx hb dX9_atPrices_35 (by decide) (fun c_ => ?_) (fun c_ => ?_)
      · have h := h.1 c_
        refine lv_ldc2 (pc := 51) (v := (-9223372036854775806 : Int64)) hx hb hown (hts _ (List.mem_cons_of_mem _ kw601)) dX9_atPrices_51 ?_
        exact Rlret (pc := 54) X w h dX9_atPrices_54
      · have h := h.2 c_
        refine lv_iload (pc := 38) hx hb dX9_atPrices_38 (lv_at hl 4 rfl) ?_
        refine lv_i2l (pc := 40) hx hb dX9_atPrices_40 rfl ?_
        refine lv_lconst (pc := 41) (v := (0 : Int64)) hx hb dX9_atPrices_41 (by decide) ?_
        refine lv_ldc2 (pc := 42) (v := (2 : Int64)) hx hb hown (hts _ (List.mem_cons_of_mem _ kw505)) dX9_atPrices_42 ?_
        refine Rcalli (rest := []) (RrunS (pc := 45) X w (okX9_in l hJ h) kw490 kmX9_in ⟨rfl, rfl⟩ ⟨by decide, by decide⟩ rfl hl.1 rfl (Nat.le_of_ble_eq_true rfl) dX9_atPrices_45) w (fun r4 u9_ H locs h w => ?_)
        obtain ⟨hz_r4, h⟩ := h
        obtain ⟨rfl, h⟩ := h
        refine lv_if_ne (pc := 48) (tgt := 55) hx hb dX9_atPrices_48 (by decide) (fun c_ => ?_) (fun c_ => ?_)
        · have h := h.2 c_
          refine lv_aload_n (pc := 55) hx hb dX9_atPrices_55 rfl (lv_at hl 0 rfl) ?_
          refine Rcallv (rest := []) (RrunV (pc := 56) X w (okX9_looks l hJ h) kw595 kmX9_looks ⟨rfl, rfl⟩ ⟨by decide, by decide⟩ (Rrv_0 X w) rfl hl.1 rfl (Nat.le_of_ble_eq_true rfl) dX9_atPrices_56) w (fun u6 H locs h w => ?_)
          refine lv_aload_n (pc := 59) hx hb dX9_atPrices_59 rfl (lv_at hl 0 rfl) ?_
          refine lv_iload_n (pc := 60) hx hb dX9_atPrices_60 rfl (lv_at hl 1 rfl) ?_
          refine lv_iload_n (pc := 61) hx hb dX9_atPrices_61 rfl (lv_at hl 2 rfl) ?_
          refine lv_iload_n (pc := 62) hx hb dX9_atPrices_62 rfl (lv_at hl 3 rfl) ?_
          refine lv_iload (pc := 63) hx hb dX9_atPrices_63 (lv_at hl 4 rfl) ?_
          refine Rcalll (rest := []) (RrunV (pc := 65) X w (okX9_atPricesOf l hJ h) kw626 kmX9_atPricesOf ⟨rfl, rfl⟩ ⟨by decide, by decide⟩ (Rrv_0 X w) rfl hl.1 rfl (Nat.le_of_ble_eq_true rfl) dX9_atPrices_65) w (fun r7 u9_ H locs h w => ?_)
          obtain ⟨rfl, h⟩ := h
          exact Rlret (pc := 68) X w h dX9_atPrices_68
        · have h := h.1 c_
          refine lv_ldc2 (pc := 51) (v := (-9223372036854775806 : Int64)) hx hb hown (hts _ (List.mem_cons_of_mem _ kw601)) dX9_atPrices_51 ?_
          exact Rlret (pc := 54) X w h dX9_atPrices_54
set_option maxHeartbeats 4000000 in
set_option maxRecDepth 100000 in
theorem okX9_yearFor (l : Launch) {D : va_G} {g : Nat → ClassId} {ad : Nat → Nat} (hJ : RJ ad) {u : Mm} {a0 : Int32} {Q : Int32 → Prop} (h : wX9_yearFor a0 Q) : Met l yX9_yearFor (Cond.code yX9_yearFor cX9_yearFor 1 (some .int) :: gt) ({ frames := 0, cells := 0, slots := 0, locals := 0 } : Room) (RPc D g ad u [.int a0]) (va_Qi (fun r u1 => u = u1 ∧ Q r) (RB D g ad) (RA ad)) 0 0 (RA ad) := by
  refine Met.ofW (cc := cX9_yearFor) (maxL := 1) (ret := (some .int)) (by decide) rfl ?_
  intro p e s m args below meth c s₁ B hml hv
  refine Rentry (own := RX9) B hml hv hJ rfl (Nat.le_of_ble_eq_true rfl) (fun ls H locs X w hl => ?_)
  obtain ⟨⟨hx, hb, hml, hown, hts⟩, hr, hlocks, hK, hJ, hAA⟩ := id X
  have hl : lv_has ls 1 [(0, .int a0)] := hl
  unfold wX9_yearFor at h
  refine lv_iload_n (pc := 0) hx hb dX9_yearFor_0 rfl (lv_at hl 0 rfl) ?_
  refine lv_iconst (pc := 1) (v := (4 : Int32)) hx hb dX9_yearFor_1 (by decide) ?_
  refine lv_icmp_ge (pc := 2) (tgt := 9) hx hb dX9_yearFor_2 (by decide) (fun c_ => ?_) (fun c_ => ?_)
  · have h := h.1 c_
    refine lv_iload_n (pc := 9) hx hb dX9_yearFor_9 rfl (lv_at hl 0 rfl) ?_
    refine lv_iconst (pc := 10) (v := (4 : Int32)) hx hb dX9_yearFor_10 (by decide) ?_
    refine lv_idiv (pc := 11) hx hb dX9_yearFor_11 (by decide) ?_
    refine lv_iconst (pc := 12) (v := (1 : Int32)) hx hb dX9_yearFor_12 (by decide) ?_
    refine lv_isub (pc := 13) hx hb dX9_yearFor_13 ?_
    exact Riret (pc := 14) X w ⟨rfl, h⟩ dX9_yearFor_14
  · have h := h.2 c_
    refine lv_iconst (pc := 5) (v := (0 : Int32)) hx hb dX9_yearFor_5 (by decide) ?_
    refine lv_goto (pc := 6) (tgt := 14) hx hb dX9_yearFor_6 (by decide) ?_
    exact Riret (pc := 14) X w ⟨rfl, h⟩ dX9_yearFor_14
set_option maxHeartbeats 4000000 in
set_option maxRecDepth 100000 in
theorem okX9_lowerOf (l : Launch) {D : va_G} {g : Nat → ClassId} {ad : Nat → Nat} (hJ : RJ ad) {u : Mm} {a1 : Int32} {a2 : Int32} {a3 : Int32} {Q : Int64 → Prop} (h : wX9_lowerOf u a1 a2 a3 Q) : Met l yX9_lowerOf (Cond.code yX9_lowerOf cX9_lowerOf 4 (some .long) :: gt) ({ frames := 4, cells := 0, slots := 0, locals := 104 } : Room) (RPc D g ad u [.ref (ad 0), .int a1, .int a2, .int a3]) (va_Ql (fun r u1 => u = u1 ∧ Q r) (RB D g ad) (RA ad)) 0 0 (RA ad) := by
  refine Met.ofW (cc := cX9_lowerOf) (maxL := 4) (ret := (some .long)) (by decide) rfl ?_
  intro p e s m args below meth c s₁ B hml hv
  refine Rentry (own := RX9) B hml hv hJ rfl (Nat.le_of_ble_eq_true rfl) (fun ls H locs X w hl => ?_)
  obtain ⟨⟨hx, hb, hml, hown, hts⟩, hr, hlocks, hK, hJ, hAA⟩ := id X
  have hl : lv_has ls 4 [(0, .ref (ad 0)), (1, .int a1), (2, .int a2), (3, .int a3)] := hl
  unfold wX9_lowerOf at h
  refine lv_aload_n (pc := 0) hx hb dX9_lowerOf_0 rfl (lv_at hl 0 rfl) ?_
  refine lv_iload_n (pc := 1) hx hb dX9_lowerOf_1 rfl (lv_at hl 1 rfl) ?_
  refine lv_iload_n (pc := 2) hx hb dX9_lowerOf_2 rfl (lv_at hl 2 rfl) ?_
  refine lv_iload_n (pc := 3) hx hb dX9_lowerOf_3 rfl (lv_at hl 3 rfl) ?_
  refine lv_iconst (pc := 4) (v := (1 : Int32)) hx hb dX9_lowerOf_4 (by decide) ?_
  refine lv_isub (pc := 5) hx hb dX9_lowerOf_5 ?_
  refine lv_iload_n (pc := 6) hx hb dX9_lowerOf_6 rfl (lv_at hl 3 rfl) ?_
  refine Rcalli (rest := [.int (a3 - (1 : Int32)), .int a2, .int a1, .ref (ad 0)]) (RrunS (pc := 7) X w (okX9_yearFor l hJ h) kw630 kmX9_yearFor ⟨rfl, rfl⟩ ⟨by decide, by decide⟩ rfl hl.1 rfl (Nat.le_of_ble_eq_true rfl) dX9_lowerOf_7) w (fun r1 u9_ H locs h w => ?_)
  obtain ⟨rfl, h⟩ := h
  refine Rcalll (rest := []) (RrunV (pc := 10) X w (okX9_atPricesOf l hJ h) kw626 kmX9_atPricesOf ⟨rfl, rfl⟩ ⟨by decide, by decide⟩ (Rrv_0 X w) rfl hl.1 rfl (Nat.le_of_ble_eq_true rfl) dX9_lowerOf_10) w (fun r2 u9_ H locs h w => ?_)
  obtain ⟨rfl, h⟩ := h
  exact Rlret (pc := 13) X w ⟨rfl, h⟩ dX9_lowerOf_13
set_option maxHeartbeats 4000000 in
set_option maxRecDepth 100000 in
theorem okX9_growthOf (l : Launch) {D : va_G} {g : Nat → ClassId} {ad : Nat → Nat} (hJ : RJ ad) {u : Mm} {a1 : Int32} {a2 : Int32} {a3 : Int32} {Q : Int64 → Prop} (h : wX9_growthOf u a1 a2 a3 Q) : Met l yX9_growthOf (Cond.code yX9_growthOf cX9_growthOf 6 (some .long) :: gt) ({ frames := 5, cells := 0, slots := 0, locals := 127 } : Room) (RPc D g ad u [.ref (ad 0), .int a1, .int a2, .int a3]) (va_Ql (fun r u1 => u = u1 ∧ Q r) (RB D g ad) (RA ad)) 0 0 (RA ad) := by
  refine Met.ofW (cc := cX9_growthOf) (maxL := 6) (ret := (some .long)) (by decide) rfl ?_
  intro p e s m args below meth c s₁ B hml hv
  refine Rentry (own := RX9) B hml hv hJ rfl (Nat.le_of_ble_eq_true rfl) (fun ls H locs X w hl => ?_)
  obtain ⟨⟨hx, hb, hml, hown, hts⟩, hr, hlocks, hK, hJ, hAA⟩ := id X
  have hl : lv_has ls 6 [(0, .ref (ad 0)), (1, .int a1), (2, .int a2), (3, .int a3)] := hl
  unfold wX9_growthOf at h
  refine lv_aload_n (pc := 0) hx hb dX9_growthOf_0 rfl (lv_at hl 0 rfl) ?_
  refine lv_iload_n (pc := 1) hx hb dX9_growthOf_1 rfl (lv_at hl 1 rfl) ?_
  refine lv_iload_n (pc := 2) hx hb dX9_growthOf_2 rfl (lv_at hl 2 rfl) ?_
  refine lv_iload_n (pc := 3) hx hb dX9_growthOf_3 rfl (lv_at hl 3 rfl) ?_
  refine Rcalll (rest := []) (RrunV (pc := 4) X w (okX9_lowerOf l hJ h) kw633 kmX9_lowerOf ⟨rfl, rfl⟩ ⟨by decide, by decide⟩ (Rrv_0 X w) rfl hl.1 rfl (Nat.le_of_ble_eq_true rfl) dX9_growthOf_4) w (fun r1 u9_ H locs h w => ?_)
  obtain ⟨rfl, h⟩ := h
  refine lv_lstore (pc := 7) (lv' := [(4, .long r1), (0, .ref (ad 0)), (1, .int a1), (2, .int a2), (3, .int a3)]) hx hb dX9_growthOf_7 hl (by decide) rfl (fun ls hl => ?_)
  refine lv_lload (pc := 9) hx hb dX9_growthOf_9 (lv_at hl 0 rfl) ?_
  refine lv_lconst (pc := 11) (v := (0 : Int64)) hx hb dX9_growthOf_11 (by decide) ?_
  refine lq_le (pc := 12) (tgt := 39) hx hb dX9_growthOf_12 dX9_growthOf_13 (by decide) (fun c_ => ?_) (fun c_ => ?_)
  · have h := h.1 c_
    refine lv_ldc2 (pc := 39) (v := (-1 : Int64)) hx hb hown (hts _ (List.mem_cons_of_mem _ kw547)) dX9_growthOf_39 ?_
    exact Rlret (pc := 42) X w ⟨rfl, h⟩ dX9_growthOf_42
  · have h := h.2 c_
    refine lv_ldc2 (pc := 16) (v := (1000000 : Int64)) hx hb hown (hts _ (List.mem_cons_of_mem _ kw637)) dX9_growthOf_16 ?_
    refine lv_aload_n (pc := 19) hx hb dX9_growthOf_19 rfl (lv_at hl 1 rfl) ?_
    refine lv_iload_n (pc := 20) hx hb dX9_growthOf_20 rfl (lv_at hl 2 rfl) ?_
    refine lv_iload_n (pc := 21) hx hb dX9_growthOf_21 rfl (lv_at hl 3 rfl) ?_
    refine lv_iload_n (pc := 22) hx hb dX9_growthOf_22 rfl (lv_at hl 4 rfl) ?_
    refine lv_iload_n (pc := 23) hx hb dX9_growthOf_23 rfl (lv_at hl 4 rfl) ?_
    refine Rcalli (rest := [.int a3, .int a2, .int a1, .ref (ad 0), .long (1000000 : Int64)]) (RrunS (pc := 24) X w (okX9_yearFor l hJ h) kw630 kmX9_yearFor ⟨rfl, rfl⟩ ⟨by decide, by decide⟩ rfl hl.1 rfl (Nat.le_of_ble_eq_true rfl) dX9_growthOf_24) w (fun r2 u9_ H locs h w => ?_)
    obtain ⟨rfl, h⟩ := h
    refine Rcalll (rest := [.long (1000000 : Int64)]) (RrunV (pc := 27) X w (okX9_atPricesOf l hJ h) kw626 kmX9_atPricesOf ⟨rfl, rfl⟩ ⟨by decide, by decide⟩ (Rrv_0 X w) rfl hl.1 rfl (Nat.le_of_ble_eq_true rfl) dX9_growthOf_27) w (fun r3 u9_ H locs h w => ?_)
    obtain ⟨rfl, h⟩ := h
    refine lv_lmul (pc := 30) hx hb dX9_growthOf_30 ?_
    refine lv_lload (pc := 31) hx hb dX9_growthOf_31 (lv_at hl 0 rfl) ?_
    refine Rcalll (rest := []) (RrunS (pc := 33) X w (okX9_floor l hJ h) kw553 kmX9_floor ⟨rfl, rfl⟩ ⟨by decide, by decide⟩ rfl hl.1 rfl (Nat.le_of_ble_eq_true rfl) dX9_growthOf_33) w (fun r4 u9_ H locs h w => ?_)
    obtain ⟨rfl, h⟩ := h
    refine lv_goto (pc := 36) (tgt := 42) hx hb dX9_growthOf_36 (by decide) ?_
    exact Rlret (pc := 42) X w ⟨rfl, h⟩ dX9_growthOf_42
set_option maxHeartbeats 4000000 in
set_option maxRecDepth 100000 in
theorem okX9_growth (l : Launch) {D : va_G} {g : Nat → ClassId} {ad : Nat → Nat} (hJ : RJ ad) {u : Mm} {a1 : Int32} {a2 : Int32} {a3 : Int32} {Q : Int64 → Mm → Prop} (h : wX9_growth u a1 a2 a3 Q) : Met l yX9_growth (Cond.code yX9_growth cX9_growth 4 (some .long) :: gt) ({ frames := 6, cells := 0, slots := 0, locals := 152 } : Room) (RPc D g ad u [.ref (ad 0), .int a1, .int a2, .int a3]) (va_Ql Q (RB D g ad) (RA ad)) 0 0 (RA ad) := by
  refine Met.ofW (cc := cX9_growth) (maxL := 4) (ret := (some .long)) (by decide) rfl ?_
  intro p e s m args below meth c s₁ B hml hv
  refine Rentry (own := RX9) B hml hv hJ rfl (Nat.le_of_ble_eq_true rfl) (fun ls H locs X w hl => ?_)
  obtain ⟨⟨hx, hb, hml, hown, hts⟩, hr, hlocks, hK, hJ, hAA⟩ := id X
  have hl : lv_has ls 4 [(0, .ref (ad 0)), (1, .int a1), (2, .int a2), (3, .int a3)] := hl
  unfold wX9_growth at h
  refine lv_iload_n (pc := 0) hx hb dX9_growth_0 rfl (lv_at hl 1 rfl) ?_
  refine lv_i2l (pc := 1) hx hb dX9_growth_1 rfl ?_
  refine lv_ldc2 (pc := 2) (v := (-1 : Int64)) hx hb hown (hts _ (List.mem_cons_of_mem _ kw547)) dX9_growth_2 ?_
  refine lv_ldc2 (pc := 5) (v := (3 : Int64)) hx hb hown (hts _ (List.mem_cons_of_mem _ kw494)) dX9_growth_5 ?_
  refine Rcalli (rest := []) (RrunS (pc := 8) X w (okX9_in l hJ h) kw490 kmX9_in ⟨rfl, rfl⟩ ⟨by decide, by decide⟩ rfl hl.1 rfl (Nat.le_of_ble_eq_true rfl) dX9_growth_8) w (fun r1 u9_ H locs h w => ?_)
  obtain ⟨hz_r1, h⟩ := h
  obtain ⟨rfl, h⟩ := h
  refine lv_if_eq (pc := 11) (tgt := 38) hx hb dX9_growth_11 (by decide) (fun c_ => ?_) (fun c_ => ?_)
  · have h := h.1 c_
    refine lv_ldc2 (pc := 38) (v := (-9223372036854775806 : Int64)) hx hb hown (hts _ (List.mem_cons_of_mem _ kw601)) dX9_growth_38 ?_
    exact Rlret (pc := 41) X w h dX9_growth_41
  · have h := h.2 c_
    refine lv_iload_n (pc := 14) hx hb dX9_growth_14 rfl (lv_at hl 2 rfl) ?_
    refine lv_i2l (pc := 15) hx hb dX9_growth_15 rfl ?_
    refine lv_lconst (pc := 16) (v := (0 : Int64)) hx hb dX9_growth_16 (by decide) ?_
    refine lv_ldc2 (pc := 17) (v := (5 : Int64)) hx hb hown (hts _ (List.mem_cons_of_mem _ kw495)) dX9_growth_17 ?_
    refine Rcalli (rest := []) (RrunS (pc := 20) X w (okX9_in l hJ h) kw490 kmX9_in ⟨rfl, rfl⟩ ⟨by decide, by decide⟩ rfl hl.1 rfl (Nat.le_of_ble_eq_true rfl) dX9_growth_20) w (fun r2 u9_ H locs h w => ?_)
    obtain ⟨hz_r2, h⟩ := h
    obtain ⟨rfl, h⟩ := h
    refine lv_if_eq (pc := 23) (tgt := 38) hx hb dX9_growth_23 (by decide) (fun c_ => ?_) (fun c_ => ?_)
    · have h := h.1 c_
      refine lv_ldc2 (pc := 38) (v := (-9223372036854775806 : Int64)) hx hb hown (hts _ (List.mem_cons_of_mem _ kw601)) dX9_growth_38 ?_
      exact Rlret (pc := 41) X w h dX9_growth_41
    · have h := h.2 c_
      refine lv_iload_n (pc := 26) hx hb dX9_growth_26 rfl (lv_at hl 3 rfl) ?_
      refine lv_i2l (pc := 27) hx hb dX9_growth_27 rfl ?_
      refine lv_lconst (pc := 28) (v := (1 : Int64)) hx hb dX9_growth_28 (by decide) ?_
      refine lv_ldc2 (pc := 29) (v := (11 : Int64)) hx hb hown (hts _ (List.mem_cons_of_mem _ kw501)) dX9_growth_29 ?_
      refine Rcalli (rest := []) (RrunS (pc := 32) X w (okX9_in l hJ h) kw490 kmX9_in ⟨rfl, rfl⟩ ⟨by decide, by decide⟩ rfl hl.1 rfl (Nat.le_of_ble_eq_true rfl) dX9_growth_32) w (fun r3 u9_ H locs h w => ?_)
      obtain ⟨hz_r3, h⟩ := h
      obtain ⟨rfl, h⟩ := h
      refine lv_if_ne (pc := 35) (tgt := 42) hx hb dX9_growth_35 (by decide) (fun c_ => ?_) (fun c_ => ?_)
      · have h := h.2 c_
        refine lv_aload_n (pc := 42) hx hb dX9_growth_42 rfl (lv_at hl 0 rfl) ?_
        refine Rcallv (rest := []) (RrunV (pc := 43) X w (okX9_looks l hJ h) kw595 kmX9_looks ⟨rfl, rfl⟩ ⟨by decide, by decide⟩ (Rrv_0 X w) rfl hl.1 rfl (Nat.le_of_ble_eq_true rfl) dX9_growth_43) w (fun u5 H locs h w => ?_)
        refine lv_aload_n (pc := 46) hx hb dX9_growth_46 rfl (lv_at hl 0 rfl) ?_
        refine lv_iload_n (pc := 47) hx hb dX9_growth_47 rfl (lv_at hl 1 rfl) ?_
        refine lv_iload_n (pc := 48) hx hb dX9_growth_48 rfl (lv_at hl 2 rfl) ?_
        refine lv_iload_n (pc := 49) hx hb dX9_growth_49 rfl (lv_at hl 3 rfl) ?_
        refine Rcalll (rest := []) (RrunV (pc := 50) X w (okX9_growthOf l hJ h) kw638 kmX9_growthOf ⟨rfl, rfl⟩ ⟨by decide, by decide⟩ (Rrv_0 X w) rfl hl.1 rfl (Nat.le_of_ble_eq_true rfl) dX9_growth_50) w (fun r6 u9_ H locs h w => ?_)
        obtain ⟨rfl, h⟩ := h
        exact Rlret (pc := 53) X w h dX9_growth_53
      · have h := h.1 c_
        refine lv_ldc2 (pc := 38) (v := (-9223372036854775806 : Int64)) hx hb hown (hts _ (List.mem_cons_of_mem _ kw601)) dX9_growth_38 ?_
        exact Rlret (pc := 41) X w h dX9_growth_41
set_option maxHeartbeats 4000000 in
set_option maxRecDepth 100000 in
theorem okX9_cut (l : Launch) {D : va_G} {g : Nat → ClassId} {ad : Nat → Nat} (hJ : RJ ad) {u : Mm} {a0 : Int64} {a2 : Int64} {Q : Int64 → Prop} (h : wX9_cut a0 a2 Q) : Met l yX9_cut (Cond.code yX9_cut cX9_cut 4 (some .long) :: gt) ({ frames := 0, cells := 0, slots := 0, locals := 0 } : Room) (RPc D g ad u [.long a0, .long a2]) (va_Ql (fun r u1 => u = u1 ∧ Q r) (RB D g ad) (RA ad)) 0 0 (RA ad) := by
  refine Met.ofW (cc := cX9_cut) (maxL := 4) (ret := (some .long)) (by decide) rfl ?_
  intro p e s m args below meth c s₁ B hml hv
  refine Rentry (own := RX9) B hml hv hJ rfl (Nat.le_of_ble_eq_true rfl) (fun ls H locs X w hl => ?_)
  obtain ⟨⟨hx, hb, hml, hown, hts⟩, hr, hlocks, hK, hJ, hAA⟩ := id X
  have hl : lv_has ls 4 [(0, .long a0), (2, .long a2)] := hl
  unfold wX9_cut at h
  refine lv_lload_n (pc := 0) hx hb dX9_cut_0 rfl (lv_at hl 0 rfl) ?_
  refine lv_lload_n (pc := 1) hx hb dX9_cut_1 rfl (lv_at hl 1 rfl) ?_
  refine lq_le (pc := 2) (tgt := 10) hx hb dX9_cut_2 dX9_cut_3 (by decide) (fun c_ => ?_) (fun c_ => ?_)
  · have h := h.1 c_
    refine lv_lload_n (pc := 10) hx hb dX9_cut_10 rfl (lv_at hl 0 rfl) ?_
    refine lv_lload_n (pc := 11) hx hb dX9_cut_11 rfl (lv_at hl 1 rfl) ?_
    refine lv_lneg (pc := 12) hx hb dX9_cut_12 ?_
    refine lq_ge (pc := 13) (tgt := 22) hx hb dX9_cut_13 dX9_cut_14 (by decide) (fun c_ => ?_) (fun c_ => ?_)
    · have h := h.1 c_
      refine lv_lload_n (pc := 22) hx hb dX9_cut_22 rfl (lv_at hl 0 rfl) ?_
      exact Rlret (pc := 23) X w ⟨rfl, h⟩ dX9_cut_23
    · have h := h.2 c_
      refine lv_lload_n (pc := 17) hx hb dX9_cut_17 rfl (lv_at hl 1 rfl) ?_
      refine lv_lneg (pc := 18) hx hb dX9_cut_18 ?_
      refine lv_goto (pc := 19) (tgt := 23) hx hb dX9_cut_19 (by decide) ?_
      exact Rlret (pc := 23) X w ⟨rfl, h⟩ dX9_cut_23
  · have h := h.2 c_
    refine lv_lload_n (pc := 6) hx hb dX9_cut_6 rfl (lv_at hl 1 rfl) ?_
    refine lv_goto (pc := 7) (tgt := 23) hx hb dX9_cut_7 (by decide) ?_
    exact Rlret (pc := 23) X w ⟨rfl, h⟩ dX9_cut_23
set_option maxHeartbeats 4000000 in
set_option maxRecDepth 100000 in
theorem bX9_chainOf_8 {l : Launch} {p : Program} {e : Env} {s : State} {m : MethodId} {args : Array Value} {below : List Frame} {meth : Method} {c : Code} {D : va_G} {g : Nat → ClassId} {ad : Nat → Nat} {u : Mm} {Q : Int64 → Prop} (X : RX p s m args meth c cX9_chainOf RX9 7 (some .long) (Cond.code yX9_chainOf cX9_chainOf 7 (some .long)) D g ad (RA ad)) : ∀ (n : Nat) (x1 : Int32) (x2 : Int32) (x3 : Int32) (x4 : Int64) (x6 : Int32) (H : Heap) (locs : List Loc) (ls : Array Slot), wX9_chainOf_b8 u Q n x1 x2 x3 x4 x6 → RWd D g ad (RA ad) s u H locs → lv_has ls 7 [(0, .ref (ad 0)), (1, .int x1), (2, .int x2), (3, .int x3), (4, .long x4), (6, .int x6)] → W p l e ({ frames := 6, cells := 0, slots := 0, locals := 152 } : Room) s m args below meth c H locs 0 0 (MQ below (va_Ql (fun r u1 => u = u1 ∧ Q r) (RB D g ad) (RA ad)) args s 0 0 (RA ad)) (F0 m 8 ls []) := by
  obtain ⟨⟨hx, hb, hml, hown, hts⟩, hr, hlocks, hK, hJ, hAA⟩ := id X
  intro n
  induction n with
  | zero =>
    intro x1 x2 x3 x4 x6 H locs ls h
    exact False.elim h
  | succ n ih =>
    intro x1 x2 x3 x4 x6 H locs ls h w hl
    unfold wX9_chainOf_b8 at h
    refine lv_iload (pc := 8) hx hb dX9_chainOf_8 (lv_at hl 5 rfl) ?_
    refine lv_iload_n (pc := 10) hx hb dX9_chainOf_10 rfl (lv_at hl 3 rfl) ?_
    refine lv_icmp_gt (pc := 11) (tgt := 64) hx hb dX9_chainOf_11 (by decide) (fun c_ => ?_) (fun c_ => ?_)
    · have h := h.1 c_
      refine lv_lload (pc := 64) hx hb dX9_chainOf_64 (lv_at hl 4 rfl) ?_
      exact Rlret (pc := 66) X w ⟨rfl, h⟩ dX9_chainOf_66
    · have h := h.2 c_
      refine lv_aload_n (pc := 14) hx hb dX9_chainOf_14 rfl (lv_at hl 0 rfl) ?_
      refine lv_iload_n (pc := 15) hx hb dX9_chainOf_15 rfl (lv_at hl 1 rfl) ?_
      refine lv_iload_n (pc := 16) hx hb dX9_chainOf_16 rfl (lv_at hl 2 rfl) ?_
      refine lv_iload (pc := 17) hx hb dX9_chainOf_17 (lv_at hl 5 rfl) ?_
      refine Rcalll (rest := []) (RrunV (pc := 19) X w (okX9_lowerOf l hJ h) kw633 kmX9_lowerOf ⟨rfl, rfl⟩ ⟨by decide, by decide⟩ (Rrv_0 X w) rfl hl.1 rfl (Nat.le_of_ble_eq_true rfl) dX9_chainOf_19) w (fun r1 u9_ H locs h w => ?_)
      obtain ⟨rfl, h⟩ := h
      refine lv_lconst (pc := 22) (v := (0 : Int64)) hx hb dX9_chainOf_22 (by decide) ?_
      refine lq_le (pc := 23) (tgt := 58) hx hb dX9_chainOf_23 dX9_chainOf_24 (by decide) (fun c_ => ?_) (fun c_ => ?_)
      · have h := h.1 c_
        obtain ⟨x6_2, e_⟩ : ∃ y : Int32, y = x6 + (1 : Int32) := ⟨_, rfl⟩
        have h := h x6_2 e_
        refine lv_iinc (pc := 58) (v := x6_2) (lv' := [(6, .int x6_2), (0, .ref (ad 0)), (1, .int x1), (2, .int x2), (3, .int x3), (4, .long x4)]) hx hb dX9_chainOf_58 hl (k := 5) rfl (by rw [e_]; rfl) (by decide) rfl (fun ls hl => ?_)
        refine lv_goto (pc := 61) (tgt := 8) hx hb dX9_chainOf_61 (by decide) ?_
        exact ih x1 x2 x3 x4 x6_2 H locs ls h w (lv_sub hl [1, 2, 3, 4, 5, 0] rfl)
      · have h := h.2 c_
        refine lv_lload (pc := 27) hx hb dX9_chainOf_27 (lv_at hl 4 rfl) ?_
        refine lv_aload_n (pc := 29) hx hb dX9_chainOf_29 rfl (lv_at hl 0 rfl) ?_
        refine lv_iload_n (pc := 30) hx hb dX9_chainOf_30 rfl (lv_at hl 1 rfl) ?_
        refine lv_iload_n (pc := 31) hx hb dX9_chainOf_31 rfl (lv_at hl 2 rfl) ?_
        refine lv_iload (pc := 32) hx hb dX9_chainOf_32 (lv_at hl 5 rfl) ?_
        refine Rcalll (rest := [.long x4]) (RrunV (pc := 34) X w (okX9_growthOf l hJ h) kw638 kmX9_growthOf ⟨rfl, rfl⟩ ⟨by decide, by decide⟩ (Rrv_0 X w) rfl hl.1 rfl (Nat.le_of_ble_eq_true rfl) dX9_chainOf_34) w (fun r3 u9_ H locs h w => ?_)
        obtain ⟨rfl, h⟩ := h
        refine lv_ldc2 (pc := 37) (v := (1000000000 : Int64)) hx hb hown (hts _ (List.mem_cons_of_mem _ kw642)) dX9_chainOf_37 ?_
        refine Rcalll (rest := [.long x4]) (RrunS (pc := 40) X w (okX9_cut l hJ h) kw643 kmX9_cut ⟨rfl, rfl⟩ ⟨by decide, by decide⟩ rfl hl.1 rfl (Nat.le_of_ble_eq_true rfl) dX9_chainOf_40) w (fun r4 u9_ H locs h w => ?_)
        obtain ⟨rfl, h⟩ := h
        refine lv_lmul (pc := 43) hx hb dX9_chainOf_43 ?_
        refine lv_ldc2 (pc := 44) (v := (1000000 : Int64)) hx hb hown (hts _ (List.mem_cons_of_mem _ kw637)) dX9_chainOf_44 ?_
        refine Rcalll (rest := []) (RrunS (pc := 47) X w (okX9_floor l hJ h) kw553 kmX9_floor ⟨rfl, rfl⟩ ⟨by decide, by decide⟩ rfl hl.1 rfl (Nat.le_of_ble_eq_true rfl) dX9_chainOf_47) w (fun r5 u9_ H locs h w => ?_)
        obtain ⟨rfl, h⟩ := h
        refine lv_ldc2 (pc := 50) (v := (10000000 : Int64)) hx hb hown (hts _ (List.mem_cons_of_mem _ kw646)) dX9_chainOf_50 ?_
        refine Rcalll (rest := []) (RrunS (pc := 53) X w (okX9_cut l hJ h) kw643 kmX9_cut ⟨rfl, rfl⟩ ⟨by decide, by decide⟩ rfl hl.1 rfl (Nat.le_of_ble_eq_true rfl) dX9_chainOf_53) w (fun r6 u9_ H locs h w => ?_)
        obtain ⟨rfl, h⟩ := h
        refine lv_lstore (pc := 56) (lv' := [(4, .long r6), (0, .ref (ad 0)), (1, .int x1), (2, .int x2), (3, .int x3), (6, .int x6)]) hx hb dX9_chainOf_56 hl (by decide) rfl (fun ls hl => ?_)
        obtain ⟨x6_7, e_⟩ : ∃ y : Int32, y = x6 + (1 : Int32) := ⟨_, rfl⟩
        have h := h x6_7 e_
        refine lv_iinc (pc := 58) (v := x6_7) (lv' := [(6, .int x6_7), (4, .long r6), (0, .ref (ad 0)), (1, .int x1), (2, .int x2), (3, .int x3)]) hx hb dX9_chainOf_58 hl (k := 5) rfl (by rw [e_]; rfl) (by decide) rfl (fun ls hl => ?_)
        refine lv_goto (pc := 61) (tgt := 8) hx hb dX9_chainOf_61 (by decide) ?_
        exact ih x1 x2 x3 r6 x6_7 H locs ls h w (lv_sub hl [2, 3, 4, 5, 1, 0] rfl)
set_option maxHeartbeats 4000000 in
set_option maxRecDepth 100000 in
theorem okX9_chainOf (l : Launch) {D : va_G} {g : Nat → ClassId} {ad : Nat → Nat} (hJ : RJ ad) {u : Mm} {a1 : Int32} {a2 : Int32} {a3 : Int32} {Q : Int64 → Prop} (h : wX9_chainOf u a1 a2 a3 Q) : Met l yX9_chainOf (Cond.code yX9_chainOf cX9_chainOf 7 (some .long) :: gt) ({ frames := 6, cells := 0, slots := 0, locals := 152 } : Room) (RPc D g ad u [.ref (ad 0), .int a1, .int a2, .int a3]) (va_Ql (fun r u1 => u = u1 ∧ Q r) (RB D g ad) (RA ad)) 0 0 (RA ad) := by
  refine Met.ofW (cc := cX9_chainOf) (maxL := 7) (ret := (some .long)) (by decide) rfl ?_
  intro p e s m args below meth c s₁ B hml hv
  refine Rentry (own := RX9) B hml hv hJ rfl (Nat.le_of_ble_eq_true rfl) (fun ls H locs X w hl => ?_)
  obtain ⟨⟨hx, hb, hml, hown, hts⟩, hr, hlocks, hK, hJ, hAA⟩ := id X
  have hl : lv_has ls 7 [(0, .ref (ad 0)), (1, .int a1), (2, .int a2), (3, .int a3)] := hl
  unfold wX9_chainOf at h
  refine lv_ldc2 (pc := 0) (v := (1000000 : Int64)) hx hb hown (hts _ (List.mem_cons_of_mem _ kw637)) dX9_chainOf_0 ?_
  refine lv_lstore (pc := 3) (lv' := [(4, .long (1000000 : Int64)), (0, .ref (ad 0)), (1, .int a1), (2, .int a2), (3, .int a3)]) hx hb dX9_chainOf_3 hl (by decide) rfl (fun ls hl => ?_)
  refine lv_iconst (pc := 5) (v := (1 : Int32)) hx hb dX9_chainOf_5 (by decide) ?_
  refine lv_istore (pc := 6) (lv' := [(6, .int (1 : Int32)), (4, .long (1000000 : Int64)), (0, .ref (ad 0)), (1, .int a1), (2, .int a2), (3, .int a3)]) hx hb dX9_chainOf_6 hl (by decide) rfl (fun ls hl => ?_)
  obtain ⟨n9, h⟩ := h
  exact bX9_chainOf_8 X n9 a1 a2 a3 (1000000 : Int64) (1 : Int32) H locs ls h w (lv_sub hl [2, 3, 4, 5, 1, 0] rfl)
set_option maxHeartbeats 4000000 in
set_option maxRecDepth 100000 in
theorem okX9_chain (l : Launch) {D : va_G} {g : Nat → ClassId} {ad : Nat → Nat} (hJ : RJ ad) {u : Mm} {a1 : Int32} {a2 : Int32} {a3 : Int32} {Q : Int64 → Mm → Prop} (h : wX9_chain u a1 a2 a3 Q) : Met l yX9_chain (Cond.code yX9_chain cX9_chain 4 (some .long) :: gt) ({ frames := 7, cells := 0, slots := 0, locals := 178 } : Room) (RPc D g ad u [.ref (ad 0), .int a1, .int a2, .int a3]) (va_Ql Q (RB D g ad) (RA ad)) 0 0 (RA ad) := by
  refine Met.ofW (cc := cX9_chain) (maxL := 4) (ret := (some .long)) (by decide) rfl ?_
  intro p e s m args below meth c s₁ B hml hv
  refine Rentry (own := RX9) B hml hv hJ rfl (Nat.le_of_ble_eq_true rfl) (fun ls H locs X w hl => ?_)
  obtain ⟨⟨hx, hb, hml, hown, hts⟩, hr, hlocks, hK, hJ, hAA⟩ := id X
  have hl : lv_has ls 4 [(0, .ref (ad 0)), (1, .int a1), (2, .int a2), (3, .int a3)] := hl
  unfold wX9_chain at h
  refine lv_iload_n (pc := 0) hx hb dX9_chain_0 rfl (lv_at hl 1 rfl) ?_
  refine lv_i2l (pc := 1) hx hb dX9_chain_1 rfl ?_
  refine lv_ldc2 (pc := 2) (v := (-1 : Int64)) hx hb hown (hts _ (List.mem_cons_of_mem _ kw547)) dX9_chain_2 ?_
  refine lv_ldc2 (pc := 5) (v := (3 : Int64)) hx hb hown (hts _ (List.mem_cons_of_mem _ kw494)) dX9_chain_5 ?_
  refine Rcalli (rest := []) (RrunS (pc := 8) X w (okX9_in l hJ h) kw490 kmX9_in ⟨rfl, rfl⟩ ⟨by decide, by decide⟩ rfl hl.1 rfl (Nat.le_of_ble_eq_true rfl) dX9_chain_8) w (fun r1 u9_ H locs h w => ?_)
  obtain ⟨hz_r1, h⟩ := h
  obtain ⟨rfl, h⟩ := h
  refine lv_if_eq (pc := 11) (tgt := 38) hx hb dX9_chain_11 (by decide) (fun c_ => ?_) (fun c_ => ?_)
  · have h := h.1 c_
    refine lv_ldc2 (pc := 38) (v := (-9223372036854775806 : Int64)) hx hb hown (hts _ (List.mem_cons_of_mem _ kw601)) dX9_chain_38 ?_
    exact Rlret (pc := 41) X w h dX9_chain_41
  · have h := h.2 c_
    refine lv_iload_n (pc := 14) hx hb dX9_chain_14 rfl (lv_at hl 2 rfl) ?_
    refine lv_i2l (pc := 15) hx hb dX9_chain_15 rfl ?_
    refine lv_lconst (pc := 16) (v := (0 : Int64)) hx hb dX9_chain_16 (by decide) ?_
    refine lv_ldc2 (pc := 17) (v := (5 : Int64)) hx hb hown (hts _ (List.mem_cons_of_mem _ kw495)) dX9_chain_17 ?_
    refine Rcalli (rest := []) (RrunS (pc := 20) X w (okX9_in l hJ h) kw490 kmX9_in ⟨rfl, rfl⟩ ⟨by decide, by decide⟩ rfl hl.1 rfl (Nat.le_of_ble_eq_true rfl) dX9_chain_20) w (fun r2 u9_ H locs h w => ?_)
    obtain ⟨hz_r2, h⟩ := h
    obtain ⟨rfl, h⟩ := h
    refine lv_if_eq (pc := 23) (tgt := 38) hx hb dX9_chain_23 (by decide) (fun c_ => ?_) (fun c_ => ?_)
    · have h := h.1 c_
      refine lv_ldc2 (pc := 38) (v := (-9223372036854775806 : Int64)) hx hb hown (hts _ (List.mem_cons_of_mem _ kw601)) dX9_chain_38 ?_
      exact Rlret (pc := 41) X w h dX9_chain_41
    · have h := h.2 c_
      refine lv_iload_n (pc := 26) hx hb dX9_chain_26 rfl (lv_at hl 3 rfl) ?_
      refine lv_i2l (pc := 27) hx hb dX9_chain_27 rfl ?_
      refine lv_lconst (pc := 28) (v := (0 : Int64)) hx hb dX9_chain_28 (by decide) ?_
      refine lv_ldc2 (pc := 29) (v := (11 : Int64)) hx hb hown (hts _ (List.mem_cons_of_mem _ kw501)) dX9_chain_29 ?_
      refine Rcalli (rest := []) (RrunS (pc := 32) X w (okX9_in l hJ h) kw490 kmX9_in ⟨rfl, rfl⟩ ⟨by decide, by decide⟩ rfl hl.1 rfl (Nat.le_of_ble_eq_true rfl) dX9_chain_32) w (fun r3 u9_ H locs h w => ?_)
      obtain ⟨hz_r3, h⟩ := h
      obtain ⟨rfl, h⟩ := h
      refine lv_if_ne (pc := 35) (tgt := 42) hx hb dX9_chain_35 (by decide) (fun c_ => ?_) (fun c_ => ?_)
      · have h := h.2 c_
        refine lv_aload_n (pc := 42) hx hb dX9_chain_42 rfl (lv_at hl 0 rfl) ?_
        refine Rcallv (rest := []) (RrunV (pc := 43) X w (okX9_looks l hJ h) kw595 kmX9_looks ⟨rfl, rfl⟩ ⟨by decide, by decide⟩ (Rrv_0 X w) rfl hl.1 rfl (Nat.le_of_ble_eq_true rfl) dX9_chain_43) w (fun u5 H locs h w => ?_)
        refine lv_aload_n (pc := 46) hx hb dX9_chain_46 rfl (lv_at hl 0 rfl) ?_
        refine lv_iload_n (pc := 47) hx hb dX9_chain_47 rfl (lv_at hl 1 rfl) ?_
        refine lv_iload_n (pc := 48) hx hb dX9_chain_48 rfl (lv_at hl 2 rfl) ?_
        refine lv_iload_n (pc := 49) hx hb dX9_chain_49 rfl (lv_at hl 3 rfl) ?_
        refine Rcalll (rest := []) (RrunV (pc := 50) X w (okX9_chainOf l hJ h) kw647 kmX9_chainOf ⟨rfl, rfl⟩ ⟨by decide, by decide⟩ (Rrv_0 X w) rfl hl.1 rfl (Nat.le_of_ble_eq_true rfl) dX9_chain_50) w (fun r6 u9_ H locs h w => ?_)
        obtain ⟨rfl, h⟩ := h
        exact Rlret (pc := 53) X w h dX9_chain_53
      · have h := h.1 c_
        refine lv_ldc2 (pc := 38) (v := (-9223372036854775806 : Int64)) hx hb hown (hts _ (List.mem_cons_of_mem _ kw601)) dX9_chain_38 ?_
        exact Rlret (pc := 41) X w h dX9_chain_41
set_option maxHeartbeats 4000000 in
set_option maxRecDepth 100000 in
theorem bX9_part_86 {l : Launch} {p : Program} {e : Env} {s : State} {m : MethodId} {args : Array Value} {below : List Frame} {meth : Method} {c : Code} {D : va_G} {g : Nat → ClassId} {ad : Nat → Nat} {Q : Int64 → Mm → Prop} (X : RX p s m args meth c cX9_part RX9 12 (some .long) (Cond.code yX9_part cX9_part 12 (some .long)) D g ad (RA ad)) : ∀ (n : Nat) (u : Mm) (x1 : Int32) (x2 : Int32) (x3 : Int32) (x4 : Int64) (x6 : Int32) (x7 : Int64) (x9 : Int32) (H : Heap) (locs : List Loc) (ls : Array Slot), wX9_part_b86 Q n u x1 x2 x3 x4 x6 x7 x9 → RWd D g ad (RA ad) s u H locs → lv_has ls 12 [(0, .ref (ad 0)), (1, .int x1), (2, .int x2), (3, .int x3), (4, .long x4), (6, .int x6), (7, .long x7), (9, .int x9)] → W p l e ({ frames := 6, cells := 0, slots := 0, locals := 152 } : Room) s m args below meth c H locs 0 0 (MQ below (va_Ql Q (RB D g ad) (RA ad)) args s 0 0 (RA ad)) (F0 m 86 ls []) := by
  obtain ⟨⟨hx, hb, hml, hown, hts⟩, hr, hlocks, hK, hJ, hAA⟩ := id X
  intro n
  induction n with
  | zero =>
    intro u x1 x2 x3 x4 x6 x7 x9 H locs ls h
    exact False.elim h
  | succ n ih =>
    intro u x1 x2 x3 x4 x6 x7 x9 H locs ls h w hl
    unfold wX9_part_b86 at h
    refine lv_iload (pc := 86) hx hb dX9_part_86 (lv_at hl 7 rfl) ?_
    refine lv_iconst (pc := 88) (v := (4 : Int32)) hx hb dX9_part_88 (by decide) ?_
    refine lv_icmp_ge (pc := 89) (tgt := 173) hx hb dX9_part_89 (by decide) (fun c_ => ?_) (fun c_ => ?_)
    · have h := h.1 c_
      refine lv_aload_n (pc := 173) hx hb dX9_part_173 rfl (lv_at hl 0 rfl) ?_
      refine lv_lload (pc := 174) hx hb dX9_part_174 (lv_at hl 6 rfl) ?_
      refine lv_iconst (pc := 176) (v := (4 : Int32)) hx hb dX9_part_176 (by decide) ?_
      refine Rcallv (rest := []) (RrunV (pc := 177) X w (okX9_givesRest l hJ h) kw549 kmX9_givesRest ⟨rfl, rfl⟩ ⟨by decide, by decide⟩ (Rrv_0 X w) rfl hl.1 rfl (Nat.le_of_ble_eq_true rfl) dX9_part_177) w (fun u2 H locs h w => ?_)
      refine lv_aload_n (pc := 180) hx hb dX9_part_180 rfl (lv_at hl 0 rfl) ?_
      refine Rgf_0_14 (pc := 181) X w kw545 dX9_part_181 ?_
      refine lv_iload_n (pc := 184) hx hb dX9_part_184 rfl (lv_at hl 1 rfl) ?_
      refine Rld_11 (pc := 185) X w h.1 dX9_part_185 ?_
      have h := h.2
      exact Rlret (pc := 186) X w h dX9_part_186
    · have h := h.2 c_
      refine lv_ldc2 (pc := 92) (v := (1000000 : Int64)) hx hb hown (hts _ (List.mem_cons_of_mem _ kw637)) dX9_part_92 ?_
      refine lv_aload_n (pc := 95) hx hb dX9_part_95 rfl (lv_at hl 0 rfl) ?_
      refine lv_iload (pc := 96) hx hb dX9_part_96 (lv_at hl 7 rfl) ?_
      refine lv_iload_n (pc := 98) hx hb dX9_part_98 rfl (lv_at hl 2 rfl) ?_
      refine lv_iload_n (pc := 99) hx hb dX9_part_99 rfl (lv_at hl 3 rfl) ?_
      refine lv_iload (pc := 100) hx hb dX9_part_100 (lv_at hl 5 rfl) ?_
      refine Rcalll (rest := [.long (1000000 : Int64)]) (RrunV (pc := 102) X w (okX9_atPricesOf l hJ h) kw626 kmX9_atPricesOf ⟨rfl, rfl⟩ ⟨by decide, by decide⟩ (Rrv_0 X w) rfl hl.1 rfl (Nat.le_of_ble_eq_true rfl) dX9_part_102) w (fun r3 u9_ H locs h w => ?_)
      obtain ⟨rfl, h⟩ := h
      refine lv_aload_n (pc := 105) hx hb dX9_part_105 rfl (lv_at hl 0 rfl) ?_
      refine lv_iload (pc := 106) hx hb dX9_part_106 (lv_at hl 7 rfl) ?_
      refine lv_iload_n (pc := 108) hx hb dX9_part_108 rfl (lv_at hl 2 rfl) ?_
      refine lv_iload_n (pc := 109) hx hb dX9_part_109 rfl (lv_at hl 3 rfl) ?_
      refine lv_iconst (pc := 110) (v := (1 : Int32)) hx hb dX9_part_110 (by decide) ?_
      refine lv_isub (pc := 111) hx hb dX9_part_111 ?_
      refine lv_iload (pc := 112) hx hb dX9_part_112 (lv_at hl 5 rfl) ?_
      refine Rcalll (rest := [.long r3, .long (1000000 : Int64)]) (RrunV (pc := 114) X w (okX9_atPricesOf l hJ h) kw626 kmX9_atPricesOf ⟨rfl, rfl⟩ ⟨by decide, by decide⟩ (Rrv_0 X w) rfl hl.1 rfl (Nat.le_of_ble_eq_true rfl) dX9_part_114) w (fun r4 u9_ H locs h w => ?_)
      obtain ⟨rfl, h⟩ := h
      refine lv_lsub (pc := 117) hx hb dX9_part_117 ?_
      refine lv_lmul (pc := 118) hx hb dX9_part_118 ?_
      refine lv_topl (fun x10_5 e_ => ?_)
      have h := h x10_5 e_
      refine lv_lstore (pc := 119) (lv' := [(10, .long x10_5), (0, .ref (ad 0)), (1, .int x1), (2, .int x2), (3, .int x3), (4, .long x4), (6, .int x6), (7, .long x7), (9, .int x9)]) hx hb dX9_part_119 hl (by decide) rfl (fun ls hl => ?_)
      refine lv_aload_n (pc := 121) hx hb dX9_part_121 rfl (lv_at hl 1 rfl) ?_
      refine Rgf_0_14 (pc := 122) X w kw545 dX9_part_122 ?_
      refine lv_iload (pc := 125) hx hb dX9_part_125 (lv_at hl 8 rfl) ?_
      refine lv_lload (pc := 127) hx hb dX9_part_127 (lv_at hl 0 rfl) ?_
      refine lv_lload (pc := 129) hx hb dX9_part_129 (lv_at hl 5 rfl) ?_
      refine Rcalll (rest := [.int x9, .ref (ad 11)]) (RrunS (pc := 131) X w (okX9_floor l hJ h) kw553 kmX9_floor ⟨rfl, rfl⟩ ⟨by decide, by decide⟩ rfl hl.1 rfl (Nat.le_of_ble_eq_true rfl) dX9_part_131) w (fun r6 u9_ H locs h w => ?_)
      obtain ⟨rfl, h⟩ := h
      refine Rst_11 (pc := 134) X w h.1 dX9_part_134 (fun H locs w => ?_)
      have h := h.2
      obtain ⟨u7, e_⟩ : ∃ y : Mm, y = s64 u 11 x9.toNatClampNeg r6 := ⟨_, rfl⟩
      rw [← e_] at w
      have h := h u7 e_
      refine lv_aload_n (pc := 135) hx hb dX9_part_135 rfl (lv_at hl 1 rfl) ?_
      refine Rgf_0_15 (pc := 136) X w kw546 dX9_part_136 ?_
      refine lv_iload (pc := 139) hx hb dX9_part_139 (lv_at hl 8 rfl) ?_
      refine lv_lload (pc := 141) hx hb dX9_part_141 (lv_at hl 0 rfl) ?_
      refine lv_aload_n (pc := 143) hx hb dX9_part_143 rfl (lv_at hl 1 rfl) ?_
      refine Rgf_0_14 (pc := 144) X w kw545 dX9_part_144 ?_
      refine lv_iload (pc := 147) hx hb dX9_part_147 (lv_at hl 8 rfl) ?_
      refine Rld_11 (pc := 149) X w h.1 dX9_part_149 ?_
      have h := h.2
      refine lv_lload (pc := 150) hx hb dX9_part_150 (lv_at hl 5 rfl) ?_
      refine lv_lmul (pc := 152) hx hb dX9_part_152 ?_
      refine lv_lsub (pc := 153) hx hb dX9_part_153 ?_
      refine Rst_12 (pc := 154) X w h.1 dX9_part_154 (fun H locs w => ?_)
      have h := h.2
      obtain ⟨u8, e_⟩ : ∃ y : Mm, y = s64 u7 12 x9.toNatClampNeg (x10_5 - ((u7.2 11 x9.toNatClampNeg) * x4)) := ⟨_, rfl⟩
      rw [← e_] at w
      have h := h u8 e_
      refine lv_lload (pc := 155) hx hb dX9_part_155 (lv_at hl 7 rfl) ?_
      refine lv_aload_n (pc := 157) hx hb dX9_part_157 rfl (lv_at hl 1 rfl) ?_
      refine Rgf_0_14 (pc := 158) X w kw545 dX9_part_158 ?_
      refine lv_iload (pc := 161) hx hb dX9_part_161 (lv_at hl 8 rfl) ?_
      refine Rld_11 (pc := 163) X w h.1 dX9_part_163 ?_
      have h := h.2
      refine lv_lsub (pc := 164) hx hb dX9_part_164 ?_
      refine lv_topl (fun x7_9 e_ => ?_)
      have h := h x7_9 e_
      refine lv_lstore (pc := 165) (lv' := [(7, .long x7_9), (10, .long x10_5), (0, .ref (ad 0)), (1, .int x1), (2, .int x2), (3, .int x3), (4, .long x4), (6, .int x6), (9, .int x9)]) hx hb dX9_part_165 hl (by decide) rfl (fun ls hl => ?_)
      obtain ⟨x9_10, e_⟩ : ∃ y : Int32, y = x9 + (1 : Int32) := ⟨_, rfl⟩
      have h := h x9_10 e_
      refine lv_iinc (pc := 167) (v := x9_10) (lv' := [(9, .int x9_10), (7, .long x7_9), (10, .long x10_5), (0, .ref (ad 0)), (1, .int x1), (2, .int x2), (3, .int x3), (4, .long x4), (6, .int x6)]) hx hb dX9_part_167 hl (k := 8) rfl (by rw [e_]; rfl) (by decide) rfl (fun ls hl => ?_)
      refine lv_goto (pc := 170) (tgt := 86) hx hb dX9_part_170 (by decide) ?_
      exact ih u8 x1 x2 x3 x4 x6 x7_9 x9_10 H locs ls h w (lv_sub hl [3, 4, 5, 6, 7, 8, 1, 0] rfl)
set_option maxHeartbeats 4000000 in
set_option maxRecDepth 100000 in
theorem okX9_part (l : Launch) {D : va_G} {g : Nat → ClassId} {ad : Nat → Nat} (hJ : RJ ad) {u : Mm} {a1 : Int32} {a2 : Int32} {a3 : Int32} {Q : Int64 → Mm → Prop} (h : wX9_part u a1 a2 a3 Q) : Met l yX9_part (Cond.code yX9_part cX9_part 12 (some .long) :: gt) ({ frames := 6, cells := 0, slots := 0, locals := 152 } : Room) (RPc D g ad u [.ref (ad 0), .int a1, .int a2, .int a3]) (va_Ql Q (RB D g ad) (RA ad)) 0 0 (RA ad) := by
  refine Met.ofW (cc := cX9_part) (maxL := 12) (ret := (some .long)) (by decide) rfl ?_
  intro p e s m args below meth c s₁ B hml hv
  refine Rentry (own := RX9) B hml hv hJ rfl (Nat.le_of_ble_eq_true rfl) (fun ls H locs X w hl => ?_)
  obtain ⟨⟨hx, hb, hml, hown, hts⟩, hr, hlocks, hK, hJ, hAA⟩ := id X
  have hl : lv_has ls 12 [(0, .ref (ad 0)), (1, .int a1), (2, .int a2), (3, .int a3)] := hl
  unfold wX9_part at h
  refine lv_iload_n (pc := 0) hx hb dX9_part_0 rfl (lv_at hl 1 rfl) ?_
  refine lv_i2l (pc := 1) hx hb dX9_part_1 rfl ?_
  refine lv_lconst (pc := 2) (v := (0 : Int64)) hx hb dX9_part_2 (by decide) ?_
  refine lv_ldc2 (pc := 3) (v := (3 : Int64)) hx hb hown (hts _ (List.mem_cons_of_mem _ kw494)) dX9_part_3 ?_
  refine Rcalli (rest := []) (RrunS (pc := 6) X w (okX9_in l hJ h) kw490 kmX9_in ⟨rfl, rfl⟩ ⟨by decide, by decide⟩ rfl hl.1 rfl (Nat.le_of_ble_eq_true rfl) dX9_part_6) w (fun r1 u9_ H locs h w => ?_)
  obtain ⟨hz_r1, h⟩ := h
  obtain ⟨rfl, h⟩ := h
  refine lv_if_eq (pc := 9) (tgt := 36) hx hb dX9_part_9 (by decide) (fun c_ => ?_) (fun c_ => ?_)
  · have h := h.1 c_
    refine lv_ldc2 (pc := 36) (v := (-9223372036854775806 : Int64)) hx hb hown (hts _ (List.mem_cons_of_mem _ kw601)) dX9_part_36 ?_
    exact Rlret (pc := 39) X w h dX9_part_39
  · have h := h.2 c_
    refine lv_iload_n (pc := 12) hx hb dX9_part_12 rfl (lv_at hl 2 rfl) ?_
    refine lv_i2l (pc := 13) hx hb dX9_part_13 rfl ?_
    refine lv_lconst (pc := 14) (v := (0 : Int64)) hx hb dX9_part_14 (by decide) ?_
    refine lv_ldc2 (pc := 15) (v := (5 : Int64)) hx hb hown (hts _ (List.mem_cons_of_mem _ kw495)) dX9_part_15 ?_
    refine Rcalli (rest := []) (RrunS (pc := 18) X w (okX9_in l hJ h) kw490 kmX9_in ⟨rfl, rfl⟩ ⟨by decide, by decide⟩ rfl hl.1 rfl (Nat.le_of_ble_eq_true rfl) dX9_part_18) w (fun r2 u9_ H locs h w => ?_)
    obtain ⟨hz_r2, h⟩ := h
    obtain ⟨rfl, h⟩ := h
    refine lv_if_eq (pc := 21) (tgt := 36) hx hb dX9_part_21 (by decide) (fun c_ => ?_) (fun c_ => ?_)
    · have h := h.1 c_
      refine lv_ldc2 (pc := 36) (v := (-9223372036854775806 : Int64)) hx hb hown (hts _ (List.mem_cons_of_mem _ kw601)) dX9_part_36 ?_
      exact Rlret (pc := 39) X w h dX9_part_39
    · have h := h.2 c_
      refine lv_iload_n (pc := 24) hx hb dX9_part_24 rfl (lv_at hl 3 rfl) ?_
      refine lv_i2l (pc := 25) hx hb dX9_part_25 rfl ?_
      refine lv_lconst (pc := 26) (v := (1 : Int64)) hx hb dX9_part_26 (by decide) ?_
      refine lv_ldc2 (pc := 27) (v := (11 : Int64)) hx hb hown (hts _ (List.mem_cons_of_mem _ kw501)) dX9_part_27 ?_
      refine Rcalli (rest := []) (RrunS (pc := 30) X w (okX9_in l hJ h) kw490 kmX9_in ⟨rfl, rfl⟩ ⟨by decide, by decide⟩ rfl hl.1 rfl (Nat.le_of_ble_eq_true rfl) dX9_part_30) w (fun r3 u9_ H locs h w => ?_)
      obtain ⟨hz_r3, h⟩ := h
      obtain ⟨rfl, h⟩ := h
      refine lv_if_ne (pc := 33) (tgt := 40) hx hb dX9_part_33 (by decide) (fun c_ => ?_) (fun c_ => ?_)
      · have h := h.2 c_
        refine lv_aload_n (pc := 40) hx hb dX9_part_40 rfl (lv_at hl 0 rfl) ?_
        refine Rcallv (rest := []) (RrunV (pc := 41) X w (okX9_looks l hJ h) kw595 kmX9_looks ⟨rfl, rfl⟩ ⟨by decide, by decide⟩ (Rrv_0 X w) rfl hl.1 rfl (Nat.le_of_ble_eq_true rfl) dX9_part_41) w (fun u5 H locs h w => ?_)
        refine lv_aload_n (pc := 44) hx hb dX9_part_44 rfl (lv_at hl 0 rfl) ?_
        refine lv_iconst (pc := 45) (v := (-1 : Int32)) hx hb dX9_part_45 (by decide) ?_
        refine lv_iload_n (pc := 46) hx hb dX9_part_46 rfl (lv_at hl 2 rfl) ?_
        refine lv_iload_n (pc := 47) hx hb dX9_part_47 rfl (lv_at hl 3 rfl) ?_
        refine Rcalll (rest := []) (RrunV (pc := 48) X w (okX9_lowerOf l hJ h) kw633 kmX9_lowerOf ⟨rfl, rfl⟩ ⟨by decide, by decide⟩ (Rrv_0 X w) rfl hl.1 rfl (Nat.le_of_ble_eq_true rfl) dX9_part_48) w (fun r6 u9_ H locs h w => ?_)
        obtain ⟨rfl, h⟩ := h
        refine lv_lstore (pc := 51) (lv' := [(4, .long r6), (0, .ref (ad 0)), (1, .int a1), (2, .int a2), (3, .int a3)]) hx hb dX9_part_51 hl (by decide) rfl (fun ls hl => ?_)
        refine lv_lload (pc := 53) hx hb dX9_part_53 (lv_at hl 0 rfl) ?_
        refine lv_lconst (pc := 55) (v := (0 : Int64)) hx hb dX9_part_55 (by decide) ?_
        refine lq_gt (pc := 56) (tgt := 64) hx hb dX9_part_56 dX9_part_57 (by decide) (fun c_ => ?_) (fun c_ => ?_)
        · have h := h.1 c_
          refine lv_iload_n (pc := 64) hx hb dX9_part_64 rfl (lv_at hl 4 rfl) ?_
          refine Rcalli (rest := []) (RrunS (pc := 65) X w (okX9_yearFor l hJ h) kw630 kmX9_yearFor ⟨rfl, rfl⟩ ⟨by decide, by decide⟩ rfl hl.1 rfl (Nat.le_of_ble_eq_true rfl) dX9_part_65) w (fun r7 u9_ H locs h w => ?_)
          obtain ⟨rfl, h⟩ := h
          refine lv_istore (pc := 68) (lv' := [(6, .int r7), (4, .long r6), (0, .ref (ad 0)), (1, .int a1), (2, .int a2), (3, .int a3)]) hx hb dX9_part_68 hl (by decide) rfl (fun ls hl => ?_)
          refine lv_aload_n (pc := 70) hx hb dX9_part_70 rfl (lv_at hl 2 rfl) ?_
          refine lv_iconst (pc := 71) (v := (-1 : Int32)) hx hb dX9_part_71 (by decide) ?_
          refine lv_iload_n (pc := 72) hx hb dX9_part_72 rfl (lv_at hl 4 rfl) ?_
          refine lv_iload_n (pc := 73) hx hb dX9_part_73 rfl (lv_at hl 5 rfl) ?_
          refine Rcalll (rest := []) (RrunV (pc := 74) X w (okX9_growthOf l hJ h) kw638 kmX9_growthOf ⟨rfl, rfl⟩ ⟨by decide, by decide⟩ (Rrv_0 X w) rfl hl.1 rfl (Nat.le_of_ble_eq_true rfl) dX9_part_74) w (fun r8 u9_ H locs h w => ?_)
          obtain ⟨rfl, h⟩ := h
          refine lv_ldc2 (pc := 77) (v := (1000000 : Int64)) hx hb hown (hts _ (List.mem_cons_of_mem _ kw637)) dX9_part_77 ?_
          refine lv_lsub (pc := 80) hx hb dX9_part_80 ?_
          refine lv_topl (fun x7_9 e_ => ?_)
          have h := h x7_9 e_
          refine lv_lstore (pc := 81) (lv' := [(7, .long x7_9), (6, .int r7), (4, .long r6), (0, .ref (ad 0)), (1, .int a1), (2, .int a2), (3, .int a3)]) hx hb dX9_part_81 hl (by decide) rfl (fun ls hl => ?_)
          refine lv_iconst (pc := 83) (v := (0 : Int32)) hx hb dX9_part_83 (by decide) ?_
          refine lv_istore (pc := 84) (lv' := [(9, .int (0 : Int32)), (7, .long x7_9), (6, .int r7), (4, .long r6), (0, .ref (ad 0)), (1, .int a1), (2, .int a2), (3, .int a3)]) hx hb dX9_part_84 hl (by decide) rfl (fun ls hl => ?_)
          obtain ⟨n9, h⟩ := h
          exact bX9_part_86 X n9 u5 a1 a2 a3 r6 r7 x7_9 (0 : Int32) H locs ls h w (lv_sub hl [4, 5, 6, 7, 3, 2, 1, 0] rfl)
        · have h := h.2 c_
          refine lv_ldc2 (pc := 60) (v := (-9223372036854775805 : Int64)) hx hb hown (hts _ (List.mem_cons_of_mem _ kw600)) dX9_part_60 ?_
          exact Rlret (pc := 63) X w h dX9_part_63
      · have h := h.1 c_
        refine lv_ldc2 (pc := 36) (v := (-9223372036854775806 : Int64)) hx hb hown (hts _ (List.mem_cons_of_mem _ kw601)) dX9_part_36 ?_
        exact Rlret (pc := 39) X w h dX9_part_39
set_option maxHeartbeats 4000000 in
set_option maxRecDepth 100000 in
theorem bX9_apart_37 {l : Launch} {p : Program} {e : Env} {s : State} {m : MethodId} {args : Array Value} {below : List Frame} {meth : Method} {c : Code} {D : va_G} {g : Nat → ClassId} {ad : Nat → Nat} {Q : Int64 → Mm → Prop} (X : RX p s m args meth c cX9_apart RX9 6 (some .long) (Cond.code yX9_apart cX9_apart 6 (some .long)) D g ad (RA ad)) : ∀ (n : Nat) (u : Mm) (x1 : Int32) (x2 : Int32) (x3 : Int64) (x5 : Int32) (H : Heap) (locs : List Loc) (ls : Array Slot), wX9_apart_b37 Q n u x1 x2 x3 x5 → RWd D g ad (RA ad) s u H locs → lv_has ls 6 [(0, .ref (ad 0)), (1, .int x1), (2, .int x2), (3, .long x3), (5, .int x5)] → W p l e ({ frames := 7, cells := 0, slots := 0, locals := 178 } : Room) s m args below meth c H locs 0 0 (MQ below (va_Ql Q (RB D g ad) (RA ad)) args s 0 0 (RA ad)) (F0 m 37 ls []) := by
  obtain ⟨⟨hx, hb, hml, hown, hts⟩, hr, hlocks, hK, hJ, hAA⟩ := id X
  intro n
  induction n with
  | zero =>
    intro u x1 x2 x3 x5 H locs ls h
    exact False.elim h
  | succ n ih =>
    intro u x1 x2 x3 x5 H locs ls h w hl
    unfold wX9_apart_b37 at h
    refine lv_iload (pc := 37) hx hb dX9_apart_37 (lv_at hl 4 rfl) ?_
    refine lv_iconst (pc := 39) (v := (4 : Int32)) hx hb dX9_apart_39 (by decide) ?_
    refine lv_icmp_ge (pc := 40) (tgt := 76) hx hb dX9_apart_40 (by decide) (fun c_ => ?_) (fun c_ => ?_)
    · have h := h.1 c_
      refine lv_lload_n (pc := 76) hx hb dX9_apart_76 rfl (lv_at hl 3 rfl) ?_
      refine lv_aload_n (pc := 77) hx hb dX9_apart_77 rfl (lv_at hl 0 rfl) ?_
      refine lv_iconst (pc := 78) (v := (-1 : Int32)) hx hb dX9_apart_78 (by decide) ?_
      refine lv_iload_n (pc := 79) hx hb dX9_apart_79 rfl (lv_at hl 1 rfl) ?_
      refine lv_iconst (pc := 80) (v := (0 : Int32)) hx hb dX9_apart_80 (by decide) ?_
      refine lv_iconst (pc := 81) (v := (0 : Int32)) hx hb dX9_apart_81 (by decide) ?_
      refine Rcalll (rest := [.long x3]) (RrunV (pc := 82) X w (okX9_atPricesOf l hJ h) kw626 kmX9_atPricesOf ⟨rfl, rfl⟩ ⟨by decide, by decide⟩ (Rrv_0 X w) rfl hl.1 rfl (Nat.le_of_ble_eq_true rfl) dX9_apart_82) w (fun r1 u9_ H locs h w => ?_)
      obtain ⟨rfl, h⟩ := h
      refine lv_aload_n (pc := 85) hx hb dX9_apart_85 rfl (lv_at hl 0 rfl) ?_
      refine lv_iconst (pc := 86) (v := (-1 : Int32)) hx hb dX9_apart_86 (by decide) ?_
      refine lv_iload_n (pc := 87) hx hb dX9_apart_87 rfl (lv_at hl 1 rfl) ?_
      refine lv_iload_n (pc := 88) hx hb dX9_apart_88 rfl (lv_at hl 2 rfl) ?_
      refine Rcalll (rest := [.long r1, .long x3]) (RrunV (pc := 89) X w (okX9_chainOf l hJ h) kw647 kmX9_chainOf ⟨rfl, rfl⟩ ⟨by decide, by decide⟩ (Rrv_0 X w) rfl hl.1 rfl (Nat.le_of_ble_eq_true rfl) dX9_apart_89) w (fun r2 u9_ H locs h w => ?_)
      obtain ⟨rfl, h⟩ := h
      refine lv_lmul (pc := 92) hx hb dX9_apart_92 ?_
      refine lv_ldc2 (pc := 93) (v := (1000000 : Int64)) hx hb hown (hts _ (List.mem_cons_of_mem _ kw637)) dX9_apart_93 ?_
      refine Rcalll (rest := [.long x3]) (RrunS (pc := 96) X w (okX9_floor l hJ h) kw553 kmX9_floor ⟨rfl, rfl⟩ ⟨by decide, by decide⟩ rfl hl.1 rfl (Nat.le_of_ble_eq_true rfl) dX9_apart_96) w (fun r3 u9_ H locs h w => ?_)
      obtain ⟨rfl, h⟩ := h
      refine lv_lsub (pc := 99) hx hb dX9_apart_99 ?_
      exact Rlret (pc := 100) X w h dX9_apart_100
    · have h := h.2 c_
      refine lv_lload_n (pc := 43) hx hb dX9_apart_43 rfl (lv_at hl 3 rfl) ?_
      refine lv_aload_n (pc := 44) hx hb dX9_apart_44 rfl (lv_at hl 0 rfl) ?_
      refine lv_iload (pc := 45) hx hb dX9_apart_45 (lv_at hl 4 rfl) ?_
      refine lv_iload_n (pc := 47) hx hb dX9_apart_47 rfl (lv_at hl 1 rfl) ?_
      refine lv_iconst (pc := 48) (v := (0 : Int32)) hx hb dX9_apart_48 (by decide) ?_
      refine lv_iconst (pc := 49) (v := (0 : Int32)) hx hb dX9_apart_49 (by decide) ?_
      refine Rcalll (rest := [.long x3]) (RrunV (pc := 50) X w (okX9_atPricesOf l hJ h) kw626 kmX9_atPricesOf ⟨rfl, rfl⟩ ⟨by decide, by decide⟩ (Rrv_0 X w) rfl hl.1 rfl (Nat.le_of_ble_eq_true rfl) dX9_apart_50) w (fun r4 u9_ H locs h w => ?_)
      obtain ⟨rfl, h⟩ := h
      refine lv_aload_n (pc := 53) hx hb dX9_apart_53 rfl (lv_at hl 0 rfl) ?_
      refine lv_iload (pc := 54) hx hb dX9_apart_54 (lv_at hl 4 rfl) ?_
      refine lv_iload_n (pc := 56) hx hb dX9_apart_56 rfl (lv_at hl 1 rfl) ?_
      refine lv_iload_n (pc := 57) hx hb dX9_apart_57 rfl (lv_at hl 2 rfl) ?_
      refine Rcalll (rest := [.long r4, .long x3]) (RrunV (pc := 58) X w (okX9_chainOf l hJ h) kw647 kmX9_chainOf ⟨rfl, rfl⟩ ⟨by decide, by decide⟩ (Rrv_0 X w) rfl hl.1 rfl (Nat.le_of_ble_eq_true rfl) dX9_apart_58) w (fun r5 u9_ H locs h w => ?_)
      obtain ⟨rfl, h⟩ := h
      refine lv_lmul (pc := 61) hx hb dX9_apart_61 ?_
      refine lv_ldc2 (pc := 62) (v := (1000000 : Int64)) hx hb hown (hts _ (List.mem_cons_of_mem _ kw637)) dX9_apart_62 ?_
      refine Rcalll (rest := [.long x3]) (RrunS (pc := 65) X w (okX9_floor l hJ h) kw553 kmX9_floor ⟨rfl, rfl⟩ ⟨by decide, by decide⟩ rfl hl.1 rfl (Nat.le_of_ble_eq_true rfl) dX9_apart_65) w (fun r6 u9_ H locs h w => ?_)
      obtain ⟨rfl, h⟩ := h
      refine lv_ladd (pc := 68) hx hb dX9_apart_68 ?_
      refine lv_topl (fun x3_7 e_ => ?_)
      have h := h x3_7 e_
      refine lv_lstore_n (pc := 69) (lv' := [(3, .long x3_7), (0, .ref (ad 0)), (1, .int x1), (2, .int x2), (5, .int x5)]) hx hb dX9_apart_69 rfl hl (by decide) rfl (fun ls hl => ?_)
      obtain ⟨x5_8, e_⟩ : ∃ y : Int32, y = x5 + (1 : Int32) := ⟨_, rfl⟩
      have h := h x5_8 e_
      refine lv_iinc (pc := 70) (v := x5_8) (lv' := [(5, .int x5_8), (3, .long x3_7), (0, .ref (ad 0)), (1, .int x1), (2, .int x2)]) hx hb dX9_apart_70 hl (k := 4) rfl (by rw [e_]; rfl) (by decide) rfl (fun ls hl => ?_)
      refine lv_goto (pc := 73) (tgt := 37) hx hb dX9_apart_73 (by decide) ?_
      exact ih u x1 x2 x3_7 x5_8 H locs ls h w (lv_sub hl [2, 3, 4, 1, 0] rfl)
set_option maxHeartbeats 4000000 in
set_option maxRecDepth 100000 in
theorem okX9_apart (l : Launch) {D : va_G} {g : Nat → ClassId} {ad : Nat → Nat} (hJ : RJ ad) {u : Mm} {a1 : Int32} {a2 : Int32} {Q : Int64 → Mm → Prop} (h : wX9_apart u a1 a2 Q) : Met l yX9_apart (Cond.code yX9_apart cX9_apart 6 (some .long) :: gt) ({ frames := 7, cells := 0, slots := 0, locals := 178 } : Room) (RPc D g ad u [.ref (ad 0), .int a1, .int a2]) (va_Ql Q (RB D g ad) (RA ad)) 0 0 (RA ad) := by
  refine Met.ofW (cc := cX9_apart) (maxL := 6) (ret := (some .long)) (by decide) rfl ?_
  intro p e s m args below meth c s₁ B hml hv
  refine Rentry (own := RX9) B hml hv hJ rfl (Nat.le_of_ble_eq_true rfl) (fun ls H locs X w hl => ?_)
  obtain ⟨⟨hx, hb, hml, hown, hts⟩, hr, hlocks, hK, hJ, hAA⟩ := id X
  have hl : lv_has ls 6 [(0, .ref (ad 0)), (1, .int a1), (2, .int a2)] := hl
  unfold wX9_apart at h
  refine lv_iload_n (pc := 0) hx hb dX9_apart_0 rfl (lv_at hl 1 rfl) ?_
  refine lv_i2l (pc := 1) hx hb dX9_apart_1 rfl ?_
  refine lv_lconst (pc := 2) (v := (0 : Int64)) hx hb dX9_apart_2 (by decide) ?_
  refine lv_ldc2 (pc := 3) (v := (5 : Int64)) hx hb hown (hts _ (List.mem_cons_of_mem _ kw495)) dX9_apart_3 ?_
  refine Rcalli (rest := []) (RrunS (pc := 6) X w (okX9_in l hJ h) kw490 kmX9_in ⟨rfl, rfl⟩ ⟨by decide, by decide⟩ rfl hl.1 rfl (Nat.le_of_ble_eq_true rfl) dX9_apart_6) w (fun r1 u9_ H locs h w => ?_)
  obtain ⟨hz_r1, h⟩ := h
  obtain ⟨rfl, h⟩ := h
  refine lv_if_eq (pc := 9) (tgt := 24) hx hb dX9_apart_9 (by decide) (fun c_ => ?_) (fun c_ => ?_)
  · have h := h.1 c_
    refine lv_ldc2 (pc := 24) (v := (-9223372036854775806 : Int64)) hx hb hown (hts _ (List.mem_cons_of_mem _ kw601)) dX9_apart_24 ?_
    exact Rlret (pc := 27) X w h dX9_apart_27
  · have h := h.2 c_
    refine lv_iload_n (pc := 12) hx hb dX9_apart_12 rfl (lv_at hl 2 rfl) ?_
    refine lv_i2l (pc := 13) hx hb dX9_apart_13 rfl ?_
    refine lv_lconst (pc := 14) (v := (0 : Int64)) hx hb dX9_apart_14 (by decide) ?_
    refine lv_ldc2 (pc := 15) (v := (11 : Int64)) hx hb hown (hts _ (List.mem_cons_of_mem _ kw501)) dX9_apart_15 ?_
    refine Rcalli (rest := []) (RrunS (pc := 18) X w (okX9_in l hJ h) kw490 kmX9_in ⟨rfl, rfl⟩ ⟨by decide, by decide⟩ rfl hl.1 rfl (Nat.le_of_ble_eq_true rfl) dX9_apart_18) w (fun r2 u9_ H locs h w => ?_)
    obtain ⟨hz_r2, h⟩ := h
    obtain ⟨rfl, h⟩ := h
    refine lv_if_ne (pc := 21) (tgt := 28) hx hb dX9_apart_21 (by decide) (fun c_ => ?_) (fun c_ => ?_)
    · have h := h.2 c_
      refine lv_aload_n (pc := 28) hx hb dX9_apart_28 rfl (lv_at hl 0 rfl) ?_
      refine Rcallv (rest := []) (RrunV (pc := 29) X w (okX9_looks l hJ h) kw595 kmX9_looks ⟨rfl, rfl⟩ ⟨by decide, by decide⟩ (Rrv_0 X w) rfl hl.1 rfl (Nat.le_of_ble_eq_true rfl) dX9_apart_29) w (fun u4 H locs h w => ?_)
      refine lv_lconst (pc := 32) (v := (0 : Int64)) hx hb dX9_apart_32 (by decide) ?_
      refine lv_lstore_n (pc := 33) (lv' := [(3, .long (0 : Int64)), (0, .ref (ad 0)), (1, .int a1), (2, .int a2)]) hx hb dX9_apart_33 rfl hl (by decide) rfl (fun ls hl => ?_)
      refine lv_iconst (pc := 34) (v := (0 : Int32)) hx hb dX9_apart_34 (by decide) ?_
      refine lv_istore (pc := 35) (lv' := [(5, .int (0 : Int32)), (3, .long (0 : Int64)), (0, .ref (ad 0)), (1, .int a1), (2, .int a2)]) hx hb dX9_apart_35 hl (by decide) rfl (fun ls hl => ?_)
      obtain ⟨n9, h⟩ := h
      exact bX9_apart_37 X n9 u4 a1 a2 (0 : Int64) (0 : Int32) H locs ls h w (lv_sub hl [2, 3, 4, 1, 0] rfl)
    · have h := h.1 c_
      refine lv_ldc2 (pc := 24) (v := (-9223372036854775806 : Int64)) hx hb hown (hts _ (List.mem_cons_of_mem _ kw601)) dX9_apart_24 ?_
      exact Rlret (pc := 27) X w h dX9_apart_27
set_option maxHeartbeats 4000000 in
set_option maxRecDepth 100000 in
theorem okX9_trade (l : Launch) {D : va_G} {g : Nat → ClassId} {ad : Nat → Nat} (hJ : RJ ad) {u : Mm} {a1 : Int32} {a2 : Int32} {a3 : Int32} {a4 : Int32} {a5 : Int32} {Q : Int32 → Mm → Prop} (h : wX9_trade u a1 a2 a3 a4 a5 Q) : Met l yX9_trade (Cond.code yX9_trade cX9_trade 8 (some .int) :: gt) ({ frames := 2, cells := 0, slots := 0, locals := 47 } : Room) (RPc D g ad u [.ref (ad 0), .int a1, .int a2, .int a3, .int a4, .int a5]) (va_Qi Q (RB D g ad) (RA ad)) 0 0 (RA ad) := by
  refine Met.ofW (cc := cX9_trade) (maxL := 8) (ret := (some .int)) (by decide) rfl ?_
  intro p e s m args below meth c s₁ B hml hv
  refine Rentry (own := RX9) B hml hv hJ rfl (Nat.le_of_ble_eq_true rfl) (fun ls H locs X w hl => ?_)
  obtain ⟨⟨hx, hb, hml, hown, hts⟩, hr, hlocks, hK, hJ, hAA⟩ := id X
  have hl : lv_has ls 8 [(0, .ref (ad 0)), (1, .int a1), (2, .int a2), (3, .int a3), (4, .int a4), (5, .int a5)] := hl
  unfold wX9_trade at h
  refine lv_iload_n (pc := 0) hx hb dX9_trade_0 rfl (lv_at hl 1 rfl) ?_
  refine lv_iload_n (pc := 1) hx hb dX9_trade_1 rfl (lv_at hl 2 rfl) ?_
  refine lv_iload_n (pc := 2) hx hb dX9_trade_2 rfl (lv_at hl 3 rfl) ?_
  refine Rcalli (rest := []) (RrunS (pc := 3) X w (okX9_isPlace l hJ h) kw602 kmX9_isPlace ⟨rfl, rfl⟩ ⟨by decide, by decide⟩ rfl hl.1 rfl (Nat.le_of_ble_eq_true rfl) dX9_trade_3) w (fun r1 u9_ H locs h w => ?_)
  obtain ⟨hz_r1, h⟩ := h
  obtain ⟨rfl, h⟩ := h
  refine lv_if_eq (pc := 6) (tgt := 35) hx hb dX9_trade_6 (by decide) (fun c_ => ?_) (fun c_ => ?_)
  · have h := h.1 c_
    refine lv_bipush (pc := 35) (v := (-2 : Int32)) hx hb dX9_trade_35 (by decide) ?_
    exact Riret (pc := 37) X w h dX9_trade_37
  · have h := h.2 c_
    refine lv_iload (pc := 9) hx hb dX9_trade_9 (lv_at hl 4 rfl) ?_
    refine lv_i2l (pc := 11) hx hb dX9_trade_11 rfl ?_
    refine lv_lconst (pc := 12) (v := (0 : Int64)) hx hb dX9_trade_12 (by decide) ?_
    refine lv_lconst (pc := 13) (v := (1 : Int64)) hx hb dX9_trade_13 (by decide) ?_
    refine Rcalli (rest := []) (RrunS (pc := 14) X w (okX9_in l hJ h) kw490 kmX9_in ⟨rfl, rfl⟩ ⟨by decide, by decide⟩ rfl hl.1 rfl (Nat.le_of_ble_eq_true rfl) dX9_trade_14) w (fun r2 u9_ H locs h w => ?_)
    obtain ⟨hz_r2, h⟩ := h
    obtain ⟨rfl, h⟩ := h
    refine lv_if_eq (pc := 17) (tgt := 35) hx hb dX9_trade_17 (by decide) (fun c_ => ?_) (fun c_ => ?_)
    · have h := h.1 c_
      refine lv_bipush (pc := 35) (v := (-2 : Int32)) hx hb dX9_trade_35 (by decide) ?_
      exact Riret (pc := 37) X w h dX9_trade_37
    · have h := h.2 c_
      refine lv_iload (pc := 20) hx hb dX9_trade_20 (lv_at hl 5 rfl) ?_
      refine lv_i2l (pc := 22) hx hb dX9_trade_22 rfl ?_
      refine lv_ldc2 (pc := 23) (v := (-1 : Int64)) hx hb hown (hts _ (List.mem_cons_of_mem _ kw547)) dX9_trade_23 ?_
      refine lv_ldc2 (pc := 26) (v := (100000 : Int64)) hx hb hown (hts _ (List.mem_cons_of_mem _ kw530)) dX9_trade_26 ?_
      refine Rcalli (rest := []) (RrunS (pc := 29) X w (okX9_in l hJ h) kw490 kmX9_in ⟨rfl, rfl⟩ ⟨by decide, by decide⟩ rfl hl.1 rfl (Nat.le_of_ble_eq_true rfl) dX9_trade_29) w (fun r3 u9_ H locs h w => ?_)
      obtain ⟨hz_r3, h⟩ := h
      obtain ⟨rfl, h⟩ := h
      refine lv_if_ne (pc := 32) (tgt := 38) hx hb dX9_trade_32 (by decide) (fun c_ => ?_) (fun c_ => ?_)
      · have h := h.2 c_
        refine lv_bipush (pc := 38) (v := (96 : Int32)) hx hb dX9_trade_38 (by decide) ?_
        refine lv_iload_n (pc := 40) hx hb dX9_trade_40 rfl (lv_at hl 1 rfl) ?_
        refine lv_imul (pc := 41) hx hb dX9_trade_41 ?_
        refine lv_bipush (pc := 42) (v := (24 : Int32)) hx hb dX9_trade_42 (by decide) ?_
        refine lv_iload_n (pc := 44) hx hb dX9_trade_44 rfl (lv_at hl 2 rfl) ?_
        refine lv_imul (pc := 45) hx hb dX9_trade_45 ?_
        refine lv_iadd (pc := 46) hx hb dX9_trade_46 ?_
        refine lv_iconst (pc := 47) (v := (2 : Int32)) hx hb dX9_trade_47 (by decide) ?_
        refine lv_iload_n (pc := 48) hx hb dX9_trade_48 rfl (lv_at hl 3 rfl) ?_
        refine lv_imul (pc := 49) hx hb dX9_trade_49 ?_
        refine lv_iadd (pc := 50) hx hb dX9_trade_50 ?_
        refine lv_iload (pc := 51) hx hb dX9_trade_51 (lv_at hl 4 rfl) ?_
        refine lv_iadd (pc := 53) hx hb dX9_trade_53 ?_
        refine lv_topi (fun x6_4 e_ => ?_)
        have h := h x6_4 e_
        refine lv_istore (pc := 54) (lv' := [(6, .int x6_4), (0, .ref (ad 0)), (1, .int a1), (2, .int a2), (3, .int a3), (4, .int a4), (5, .int a5)]) hx hb dX9_trade_54 hl (by decide) rfl (fun ls hl => ?_)
        refine lv_aload_n (pc := 56) hx hb dX9_trade_56 rfl (lv_at hl 1 rfl) ?_
        refine Rgf_0_24 (pc := 57) X w kw651 dX9_trade_57 ?_
        refine lv_iload (pc := 60) hx hb dX9_trade_60 (lv_at hl 0 rfl) ?_
        refine Rld_19 (pc := 62) X w h.1 dX9_trade_62 ?_
        have h := h.2
        refine lv_topi (fun x7_5 e_ => ?_)
        have h := h x7_5 e_
        refine lv_istore (pc := 63) (lv' := [(7, .int x7_5), (6, .int x6_4), (0, .ref (ad 0)), (1, .int a1), (2, .int a2), (3, .int a3), (4, .int a4), (5, .int a5)]) hx hb dX9_trade_63 hl (by decide) rfl (fun ls hl => ?_)
        refine lv_aload_n (pc := 65) hx hb dX9_trade_65 rfl (lv_at hl 2 rfl) ?_
        refine Rgf_0_24 (pc := 66) X w kw651 dX9_trade_66 ?_
        refine lv_iload (pc := 69) hx hb dX9_trade_69 (lv_at hl 1 rfl) ?_
        refine lv_iload (pc := 71) hx hb dX9_trade_71 (lv_at hl 7 rfl) ?_
        refine Rst_19 (pc := 73) X w h.1 dX9_trade_73 (fun H locs w => ?_)
        have h := h.2
        obtain ⟨u6, e_⟩ : ∃ y : Mm, y = s32 u 19 x6_4.toNatClampNeg a5 := ⟨_, rfl⟩
        rw [← e_] at w
        have h := h u6 e_
        refine lv_iload (pc := 74) hx hb dX9_trade_74 (lv_at hl 0 rfl) ?_
        exact Riret (pc := 76) X w h dX9_trade_76
      · have h := h.1 c_
        refine lv_bipush (pc := 35) (v := (-2 : Int32)) hx hb dX9_trade_35 (by decide) ?_
        exact Riret (pc := 37) X w h dX9_trade_37
set_option maxHeartbeats 4000000 in
set_option maxRecDepth 100000 in
theorem okX9_precise (l : Launch) {D : va_G} {g : Nat → ClassId} {ad : Nat → Nat} (hJ : RJ ad) {u : Mm} {a1 : Int32} {a2 : Int32} {Q : Int32 → Mm → Prop} (h : wX9_precise u a1 a2 Q) : Met l yX9_precise (Cond.code yX9_precise cX9_precise 4 (some .int) :: gt) ({ frames := 1, cells := 0, slots := 0, locals := 25 } : Room) (RPc D g ad u [.ref (ad 0), .int a1, .int a2]) (va_Qi Q (RB D g ad) (RA ad)) 0 0 (RA ad) := by
  refine Met.ofW (cc := cX9_precise) (maxL := 4) (ret := (some .int)) (by decide) rfl ?_
  intro p e s m args below meth c s₁ B hml hv
  refine Rentry (own := RX9) B hml hv hJ rfl (Nat.le_of_ble_eq_true rfl) (fun ls H locs X w hl => ?_)
  obtain ⟨⟨hx, hb, hml, hown, hts⟩, hr, hlocks, hK, hJ, hAA⟩ := id X
  have hl : lv_has ls 4 [(0, .ref (ad 0)), (1, .int a1), (2, .int a2)] := hl
  unfold wX9_precise at h
  refine lv_iload_n (pc := 0) hx hb dX9_precise_0 rfl (lv_at hl 1 rfl) ?_
  refine lv_i2l (pc := 1) hx hb dX9_precise_1 rfl ?_
  refine lv_lconst (pc := 2) (v := (0 : Int64)) hx hb dX9_precise_2 (by decide) ?_
  refine lv_lconst (pc := 3) (v := (1 : Int64)) hx hb dX9_precise_3 (by decide) ?_
  refine Rcalli (rest := []) (RrunS (pc := 4) X w (okX9_in l hJ h) kw490 kmX9_in ⟨rfl, rfl⟩ ⟨by decide, by decide⟩ rfl hl.1 rfl (Nat.le_of_ble_eq_true rfl) dX9_precise_4) w (fun r1 u9_ H locs h w => ?_)
  obtain ⟨hz_r1, h⟩ := h
  obtain ⟨rfl, h⟩ := h
  refine lv_if_eq (pc := 7) (tgt := 22) hx hb dX9_precise_7 (by decide) (fun c_ => ?_) (fun c_ => ?_)
  · have h := h.1 c_
    refine lv_bipush (pc := 22) (v := (-2 : Int32)) hx hb dX9_precise_22 (by decide) ?_
    exact Riret (pc := 24) X w h dX9_precise_24
  · have h := h.2 c_
    refine lv_iload_n (pc := 10) hx hb dX9_precise_10 rfl (lv_at hl 2 rfl) ?_
    refine lv_i2l (pc := 11) hx hb dX9_precise_11 rfl ?_
    refine lv_lconst (pc := 12) (v := (1 : Int64)) hx hb dX9_precise_12 (by decide) ?_
    refine lv_ldc2 (pc := 13) (v := (9 : Int64)) hx hb hown (hts _ (List.mem_cons_of_mem _ kw527)) dX9_precise_13 ?_
    refine Rcalli (rest := []) (RrunS (pc := 16) X w (okX9_in l hJ h) kw490 kmX9_in ⟨rfl, rfl⟩ ⟨by decide, by decide⟩ rfl hl.1 rfl (Nat.le_of_ble_eq_true rfl) dX9_precise_16) w (fun r2 u9_ H locs h w => ?_)
    obtain ⟨hz_r2, h⟩ := h
    obtain ⟨rfl, h⟩ := h
    refine lv_if_ne (pc := 19) (tgt := 25) hx hb dX9_precise_19 (by decide) (fun c_ => ?_) (fun c_ => ?_)
    · have h := h.2 c_
      refine lv_aload_n (pc := 25) hx hb dX9_precise_25 rfl (lv_at hl 0 rfl) ?_
      refine Rgf_0_25 (pc := 26) X w kw652 dX9_precise_26 ?_
      refine lv_iload_n (pc := 29) hx hb dX9_precise_29 rfl (lv_at hl 1 rfl) ?_
      refine Rld_20 (pc := 30) X w h.1 dX9_precise_30 ?_
      have h := h.2
      refine lv_topi (fun x3_3 e_ => ?_)
      have h := h x3_3 e_
      refine lv_istore_n (pc := 31) (lv' := [(3, .int x3_3), (0, .ref (ad 0)), (1, .int a1), (2, .int a2)]) hx hb dX9_precise_31 rfl hl (by decide) rfl (fun ls hl => ?_)
      refine lv_aload_n (pc := 32) hx hb dX9_precise_32 rfl (lv_at hl 1 rfl) ?_
      refine Rgf_0_25 (pc := 33) X w kw652 dX9_precise_33 ?_
      refine lv_iload_n (pc := 36) hx hb dX9_precise_36 rfl (lv_at hl 2 rfl) ?_
      refine lv_iload_n (pc := 37) hx hb dX9_precise_37 rfl (lv_at hl 3 rfl) ?_
      refine Rst_20 (pc := 38) X w h.1 dX9_precise_38 (fun H locs w => ?_)
      have h := h.2
      obtain ⟨u4, e_⟩ : ∃ y : Mm, y = s32 u 20 a1.toNatClampNeg a2 := ⟨_, rfl⟩
      rw [← e_] at w
      have h := h u4 e_
      refine lv_iload_n (pc := 39) hx hb dX9_precise_39 rfl (lv_at hl 0 rfl) ?_
      exact Riret (pc := 40) X w h dX9_precise_40
    · have h := h.1 c_
      refine lv_bipush (pc := 22) (v := (-2 : Int32)) hx hb dX9_precise_22 (by decide) ?_
      exact Riret (pc := 24) X w h dX9_precise_24
set_option maxHeartbeats 4000000 in
set_option maxRecDepth 100000 in
theorem okX9_soldBy (l : Launch) {D : va_G} {g : Nat → ClassId} {ad : Nat → Nat} (hJ : RJ ad) {u : Mm} {a1 : Int32} {a2 : Int32} {a3 : Int32} {Q : Int32 → Prop} (h : wX9_soldBy u a1 a2 a3 Q) : Met l yX9_soldBy (Cond.code yX9_soldBy cX9_soldBy 4 (some .int) :: gt) ({ frames := 0, cells := 0, slots := 0, locals := 0 } : Room) (RPc D g ad u [.ref (ad 0), .int a1, .int a2, .int a3]) (va_Qi (fun r u1 => u = u1 ∧ Q r) (RB D g ad) (RA ad)) 0 0 (RA ad) := by
  refine Met.ofW (cc := cX9_soldBy) (maxL := 4) (ret := (some .int)) (by decide) rfl ?_
  intro p e s m args below meth c s₁ B hml hv
  refine Rentry (own := RX9) B hml hv hJ rfl (Nat.le_of_ble_eq_true rfl) (fun ls H locs X w hl => ?_)
  obtain ⟨⟨hx, hb, hml, hown, hts⟩, hr, hlocks, hK, hJ, hAA⟩ := id X
  have hl : lv_has ls 4 [(0, .ref (ad 0)), (1, .int a1), (2, .int a2), (3, .int a3)] := hl
  unfold wX9_soldBy at h
  refine lv_aload_n (pc := 0) hx hb dX9_soldBy_0 rfl (lv_at hl 0 rfl) ?_
  refine Rgf_0_24 (pc := 1) X w kw651 dX9_soldBy_1 ?_
  refine lv_bipush (pc := 4) (v := (96 : Int32)) hx hb dX9_soldBy_4 (by decide) ?_
  refine lv_iload_n (pc := 6) hx hb dX9_soldBy_6 rfl (lv_at hl 1 rfl) ?_
  refine lv_imul (pc := 7) hx hb dX9_soldBy_7 ?_
  refine lv_bipush (pc := 8) (v := (24 : Int32)) hx hb dX9_soldBy_8 (by decide) ?_
  refine lv_iload_n (pc := 10) hx hb dX9_soldBy_10 rfl (lv_at hl 2 rfl) ?_
  refine lv_imul (pc := 11) hx hb dX9_soldBy_11 ?_
  refine lv_iadd (pc := 12) hx hb dX9_soldBy_12 ?_
  refine lv_iconst (pc := 13) (v := (2 : Int32)) hx hb dX9_soldBy_13 (by decide) ?_
  refine lv_iload_n (pc := 14) hx hb dX9_soldBy_14 rfl (lv_at hl 3 rfl) ?_
  refine lv_imul (pc := 15) hx hb dX9_soldBy_15 ?_
  refine lv_iadd (pc := 16) hx hb dX9_soldBy_16 ?_
  refine Rld_19 (pc := 17) X w h.1 dX9_soldBy_17 ?_
  have h := h.2
  exact Riret (pc := 18) X w ⟨rfl, h⟩ dX9_soldBy_18
set_option maxHeartbeats 4000000 in
set_option maxRecDepth 100000 in
theorem okX9_boughtFrom (l : Launch) {D : va_G} {g : Nat → ClassId} {ad : Nat → Nat} (hJ : RJ ad) {u : Mm} {a1 : Int32} {a2 : Int32} {a3 : Int32} {Q : Int32 → Prop} (h : wX9_boughtFrom u a1 a2 a3 Q) : Met l yX9_boughtFrom (Cond.code yX9_boughtFrom cX9_boughtFrom 4 (some .int) :: gt) ({ frames := 0, cells := 0, slots := 0, locals := 0 } : Room) (RPc D g ad u [.ref (ad 0), .int a1, .int a2, .int a3]) (va_Qi (fun r u1 => u = u1 ∧ Q r) (RB D g ad) (RA ad)) 0 0 (RA ad) := by
  refine Met.ofW (cc := cX9_boughtFrom) (maxL := 4) (ret := (some .int)) (by decide) rfl ?_
  intro p e s m args below meth c s₁ B hml hv
  refine Rentry (own := RX9) B hml hv hJ rfl (Nat.le_of_ble_eq_true rfl) (fun ls H locs X w hl => ?_)
  obtain ⟨⟨hx, hb, hml, hown, hts⟩, hr, hlocks, hK, hJ, hAA⟩ := id X
  have hl : lv_has ls 4 [(0, .ref (ad 0)), (1, .int a1), (2, .int a2), (3, .int a3)] := hl
  unfold wX9_boughtFrom at h
  refine lv_aload_n (pc := 0) hx hb dX9_boughtFrom_0 rfl (lv_at hl 0 rfl) ?_
  refine Rgf_0_24 (pc := 1) X w kw651 dX9_boughtFrom_1 ?_
  refine lv_bipush (pc := 4) (v := (96 : Int32)) hx hb dX9_boughtFrom_4 (by decide) ?_
  refine lv_iconst (pc := 6) (v := (1 : Int32)) hx hb dX9_boughtFrom_6 (by decide) ?_
  refine lv_iload_n (pc := 7) hx hb dX9_boughtFrom_7 rfl (lv_at hl 1 rfl) ?_
  refine lv_isub (pc := 8) hx hb dX9_boughtFrom_8 ?_
  refine lv_imul (pc := 9) hx hb dX9_boughtFrom_9 ?_
  refine lv_bipush (pc := 10) (v := (24 : Int32)) hx hb dX9_boughtFrom_10 (by decide) ?_
  refine lv_iload_n (pc := 12) hx hb dX9_boughtFrom_12 rfl (lv_at hl 2 rfl) ?_
  refine lv_imul (pc := 13) hx hb dX9_boughtFrom_13 ?_
  refine lv_iadd (pc := 14) hx hb dX9_boughtFrom_14 ?_
  refine lv_iconst (pc := 15) (v := (2 : Int32)) hx hb dX9_boughtFrom_15 (by decide) ?_
  refine lv_iload_n (pc := 16) hx hb dX9_boughtFrom_16 rfl (lv_at hl 3 rfl) ?_
  refine lv_imul (pc := 17) hx hb dX9_boughtFrom_17 ?_
  refine lv_iadd (pc := 18) hx hb dX9_boughtFrom_18 ?_
  refine lv_iconst (pc := 19) (v := (1 : Int32)) hx hb dX9_boughtFrom_19 (by decide) ?_
  refine lv_iadd (pc := 20) hx hb dX9_boughtFrom_20 ?_
  refine Rld_19 (pc := 21) X w h.1 dX9_boughtFrom_21 ?_
  have h := h.2
  exact Riret (pc := 22) X w ⟨rfl, h⟩ dX9_boughtFrom_22
set_option maxHeartbeats 4000000 in
set_option maxRecDepth 100000 in
theorem okX9_hidden (l : Launch) {D : va_G} {g : Nat → ClassId} {ad : Nat → Nat} (hJ : RJ ad) {u : Mm} {a1 : Int32} {a2 : Int32} {a3 : Int32} {Q : Int32 → Prop} (h : wX9_hidden u a1 a2 a3 Q) : Met l yX9_hidden (Cond.code yX9_hidden cX9_hidden 6 (some .int) :: gt) ({ frames := 2, cells := 0, slots := 0, locals := 47 } : Room) (RPc D g ad u [.ref (ad 0), .int a1, .int a2, .int a3]) (va_Qi (fun r u1 => u = u1 ∧ Q r) (RB D g ad) (RA ad)) 0 0 (RA ad) := by
  refine Met.ofW (cc := cX9_hidden) (maxL := 6) (ret := (some .int)) (by decide) rfl ?_
  intro p e s m args below meth c s₁ B hml hv
  refine Rentry (own := RX9) B hml hv hJ rfl (Nat.le_of_ble_eq_true rfl) (fun ls H locs X w hl => ?_)
  obtain ⟨⟨hx, hb, hml, hown, hts⟩, hr, hlocks, hK, hJ, hAA⟩ := id X
  have hl : lv_has ls 6 [(0, .ref (ad 0)), (1, .int a1), (2, .int a2), (3, .int a3)] := hl
  unfold wX9_hidden at h
  refine lv_iload_n (pc := 0) hx hb dX9_hidden_0 rfl (lv_at hl 1 rfl) ?_
  refine lv_iload_n (pc := 1) hx hb dX9_hidden_1 rfl (lv_at hl 2 rfl) ?_
  refine lv_iload_n (pc := 2) hx hb dX9_hidden_2 rfl (lv_at hl 3 rfl) ?_
  refine Rcalli (rest := []) (RrunS (pc := 3) X w (okX9_isPlace l hJ h) kw602 kmX9_isPlace ⟨rfl, rfl⟩ ⟨by decide, by decide⟩ rfl hl.1 rfl (Nat.le_of_ble_eq_true rfl) dX9_hidden_3) w (fun r1 u9_ H locs h w => ?_)
  obtain ⟨hz_r1, h⟩ := h
  obtain ⟨rfl, h⟩ := h
  refine lv_if_ne (pc := 6) (tgt := 13) hx hb dX9_hidden_6 (by decide) (fun c_ => ?_) (fun c_ => ?_)
  · have h := h.2 c_
    refine lv_aload_n (pc := 13) hx hb dX9_hidden_13 rfl (lv_at hl 0 rfl) ?_
    refine lv_iload_n (pc := 14) hx hb dX9_hidden_14 rfl (lv_at hl 1 rfl) ?_
    refine lv_iload_n (pc := 15) hx hb dX9_hidden_15 rfl (lv_at hl 2 rfl) ?_
    refine lv_iload_n (pc := 16) hx hb dX9_hidden_16 rfl (lv_at hl 3 rfl) ?_
    refine Rcalli (rest := []) (RrunV (pc := 17) X w (okX9_soldBy l hJ h) kw653 kmX9_soldBy ⟨rfl, rfl⟩ ⟨by decide, by decide⟩ (Rrv_0 X w) rfl hl.1 rfl (Nat.le_of_ble_eq_true rfl) dX9_hidden_17) w (fun r2 u9_ H locs h w => ?_)
    obtain ⟨rfl, h⟩ := h
    refine lv_istore (pc := 20) (lv' := [(4, .int r2), (0, .ref (ad 0)), (1, .int a1), (2, .int a2), (3, .int a3)]) hx hb dX9_hidden_20 hl (by decide) rfl (fun ls hl => ?_)
    refine lv_aload_n (pc := 22) hx hb dX9_hidden_22 rfl (lv_at hl 1 rfl) ?_
    refine lv_iload_n (pc := 23) hx hb dX9_hidden_23 rfl (lv_at hl 2 rfl) ?_
    refine lv_iload_n (pc := 24) hx hb dX9_hidden_24 rfl (lv_at hl 3 rfl) ?_
    refine lv_iload_n (pc := 25) hx hb dX9_hidden_25 rfl (lv_at hl 4 rfl) ?_
    refine Rcalli (rest := []) (RrunV (pc := 26) X w (okX9_boughtFrom l hJ h) kw657 kmX9_boughtFrom ⟨rfl, rfl⟩ ⟨by decide, by decide⟩ (Rrv_0 X w) rfl hl.1 rfl (Nat.le_of_ble_eq_true rfl) dX9_hidden_26) w (fun r3 u9_ H locs h w => ?_)
    obtain ⟨rfl, h⟩ := h
    refine lv_istore (pc := 29) (lv' := [(5, .int r3), (4, .int r2), (0, .ref (ad 0)), (1, .int a1), (2, .int a2), (3, .int a3)]) hx hb dX9_hidden_29 hl (by decide) rfl (fun ls hl => ?_)
    refine lv_iload (pc := 31) hx hb dX9_hidden_31 (lv_at hl 1 rfl) ?_
    refine lv_iconst (pc := 33) (v := (-1 : Int32)) hx hb dX9_hidden_33 (by decide) ?_
    refine lv_icmp_eq (pc := 34) (tgt := 43) hx hb dX9_hidden_34 (by decide) (fun c_ => ?_) (fun c_ => ?_)
    · have h := h.1 c_
      refine lv_ldc (pc := 43) (v := (-1000000 : Int32)) hx hb hown (hts _ (List.mem_cons_of_mem _ kw599)) dX9_hidden_43 ?_
      refine lv_goto (pc := 45) (tgt := 53) hx hb dX9_hidden_45 (by decide) ?_
      exact Riret (pc := 53) X w ⟨rfl, h⟩ dX9_hidden_53
    · have h := h.2 c_
      refine lv_iload (pc := 37) hx hb dX9_hidden_37 (lv_at hl 0 rfl) ?_
      refine lv_iconst (pc := 39) (v := (-1 : Int32)) hx hb dX9_hidden_39 (by decide) ?_
      refine lv_icmp_ne (pc := 40) (tgt := 48) hx hb dX9_hidden_40 (by decide) (fun c_ => ?_) (fun c_ => ?_)
      · have h := h.2 c_
        refine lv_iload (pc := 48) hx hb dX9_hidden_48 (lv_at hl 0 rfl) ?_
        refine lv_iload (pc := 50) hx hb dX9_hidden_50 (lv_at hl 1 rfl) ?_
        refine lv_isub (pc := 52) hx hb dX9_hidden_52 ?_
        exact Riret (pc := 53) X w ⟨rfl, h⟩ dX9_hidden_53
      · have h := h.1 c_
        refine lv_ldc (pc := 43) (v := (-1000000 : Int32)) hx hb hown (hts _ (List.mem_cons_of_mem _ kw599)) dX9_hidden_43 ?_
        refine lv_goto (pc := 45) (tgt := 53) hx hb dX9_hidden_45 (by decide) ?_
        exact Riret (pc := 53) X w ⟨rfl, h⟩ dX9_hidden_53
  · have h := h.1 c_
    refine lv_ldcw (pc := 9) (v := (-2000000 : Int32)) hx hb hown (hts _ (List.mem_cons_of_mem _ kw661)) dX9_hidden_9 ?_
    exact Riret (pc := 12) X w ⟨rfl, h⟩ dX9_hidden_12
set_option maxHeartbeats 4000000 in
set_option maxRecDepth 100000 in
theorem bX9_agreed_58 {l : Launch} {p : Program} {e : Env} {s : State} {m : MethodId} {args : Array Value} {below : List Frame} {meth : Method} {c : Code} {D : va_G} {g : Nat → ClassId} {ad : Nat → Nat} {u : Mm} {Q : Int32 → Prop} (X : RX p s m args meth c cX9_agreed RX9 7 (some .int) (Cond.code yX9_agreed cX9_agreed 7 (some .int)) D g ad (RA ad)) : ∀ (x4 : Int32) (x5 : Int32) (H : Heap) (locs : List Loc) (ls : Array Slot), wX9_agreed_b58 u Q x4 x5 → RWd D g ad (RA ad) s u H locs → lv_has ls 7 [(4, .int x4), (5, .int x5)] → W p l e ({ frames := 2, cells := 0, slots := 0, locals := 47 } : Room) s m args below meth c H locs 0 0 (MQ below (va_Qi (fun r u1 => u = u1 ∧ Q r) (RB D g ad) (RA ad)) args s 0 0 (RA ad)) (F0 m 58 ls []) := by
  obtain ⟨⟨hx, hb, hml, hown, hts⟩, hr, hlocks, hK, hJ, hAA⟩ := id X
  intro x4 x5 H locs ls h w hl
  unfold wX9_agreed_b58 at h
  refine lv_iload (pc := 58) hx hb dX9_agreed_58 (lv_at hl 0 rfl) ?_
  refine lv_iconst (pc := 60) (v := (-1 : Int32)) hx hb dX9_agreed_60 (by decide) ?_
  refine lv_icmp_ne (pc := 61) (tgt := 69) hx hb dX9_agreed_61 (by decide) (fun c_ => ?_) (fun c_ => ?_)
  · have h := h.2 c_
    refine lv_iload (pc := 69) hx hb dX9_agreed_69 (lv_at hl 0 rfl) ?_
    exact Riret (pc := 71) X w ⟨rfl, h⟩ dX9_agreed_71
  · have h := h.1 c_
    refine lv_iload (pc := 64) hx hb dX9_agreed_64 (lv_at hl 1 rfl) ?_
    refine lv_goto (pc := 66) (tgt := 71) hx hb dX9_agreed_66 (by decide) ?_
    exact Riret (pc := 71) X w ⟨rfl, h⟩ dX9_agreed_71
set_option maxHeartbeats 4000000 in
set_option maxRecDepth 100000 in
theorem bX9_agreed_42 {l : Launch} {p : Program} {e : Env} {s : State} {m : MethodId} {args : Array Value} {below : List Frame} {meth : Method} {c : Code} {D : va_G} {g : Nat → ClassId} {ad : Nat → Nat} {u : Mm} {Q : Int32 → Prop} (X : RX p s m args meth c cX9_agreed RX9 7 (some .int) (Cond.code yX9_agreed cX9_agreed 7 (some .int)) D g ad (RA ad)) : ∀ (x4 : Int32) (x5 : Int32) (H : Heap) (locs : List Loc) (ls : Array Slot), wX9_agreed_b42 u Q x4 x5 → RWd D g ad (RA ad) s u H locs → lv_has ls 7 [(4, .int x4), (5, .int x5)] → W p l e ({ frames := 2, cells := 0, slots := 0, locals := 47 } : Room) s m args below meth c H locs 0 0 (MQ below (va_Qi (fun r u1 => u = u1 ∧ Q r) (RB D g ad) (RA ad)) args s 0 0 (RA ad)) (F0 m 42 ls []) := by
  obtain ⟨⟨hx, hb, hml, hown, hts⟩, hr, hlocks, hK, hJ, hAA⟩ := id X
  intro x4 x5 H locs ls h w hl
  unfold wX9_agreed_b42 at h
  refine lv_iload (pc := 42) hx hb dX9_agreed_42 (lv_at hl 0 rfl) ?_
  refine lv_iconst (pc := 44) (v := (-1 : Int32)) hx hb dX9_agreed_44 (by decide) ?_
  refine lv_icmp_ne (pc := 45) (tgt := 58) hx hb dX9_agreed_45 (by decide) (fun c_ => ?_) (fun c_ => ?_)
  · have h := h.2 c_
    exact bX9_agreed_58 X x4 x5 H locs ls h w (lv_sub hl [0, 1] rfl)
  · have h := h.1 c_
    refine lv_iload (pc := 48) hx hb dX9_agreed_48 (lv_at hl 1 rfl) ?_
    refine lv_iconst (pc := 50) (v := (-1 : Int32)) hx hb dX9_agreed_50 (by decide) ?_
    refine lv_icmp_ne (pc := 51) (tgt := 58) hx hb dX9_agreed_51 (by decide) (fun c_ => ?_) (fun c_ => ?_)
    · have h := h.2 c_
      exact bX9_agreed_58 X x4 x5 H locs ls h w (lv_sub hl [0, 1] rfl)
    · have h := h.1 c_
      refine lv_iconst (pc := 54) (v := (0 : Int32)) hx hb dX9_agreed_54 (by decide) ?_
      refine lv_goto (pc := 55) (tgt := 71) hx hb dX9_agreed_55 (by decide) ?_
      exact Riret (pc := 71) X w ⟨rfl, h⟩ dX9_agreed_71
set_option maxHeartbeats 4000000 in
set_option maxRecDepth 100000 in
theorem okX9_agreed (l : Launch) {D : va_G} {g : Nat → ClassId} {ad : Nat → Nat} (hJ : RJ ad) {u : Mm} {a1 : Int32} {a2 : Int32} {a3 : Int32} {Q : Int32 → Prop} (h : wX9_agreed u a1 a2 a3 Q) : Met l yX9_agreed (Cond.code yX9_agreed cX9_agreed 7 (some .int) :: gt) ({ frames := 2, cells := 0, slots := 0, locals := 47 } : Room) (RPc D g ad u [.ref (ad 0), .int a1, .int a2, .int a3]) (va_Qi (fun r u1 => u = u1 ∧ Q r) (RB D g ad) (RA ad)) 0 0 (RA ad) := by
  refine Met.ofW (cc := cX9_agreed) (maxL := 7) (ret := (some .int)) (by decide) rfl ?_
  intro p e s m args below meth c s₁ B hml hv
  refine Rentry (own := RX9) B hml hv hJ rfl (Nat.le_of_ble_eq_true rfl) (fun ls H locs X w hl => ?_)
  obtain ⟨⟨hx, hb, hml, hown, hts⟩, hr, hlocks, hK, hJ, hAA⟩ := id X
  have hl : lv_has ls 7 [(0, .ref (ad 0)), (1, .int a1), (2, .int a2), (3, .int a3)] := hl
  unfold wX9_agreed at h
  refine lv_iload_n (pc := 0) hx hb dX9_agreed_0 rfl (lv_at hl 1 rfl) ?_
  refine lv_iload_n (pc := 1) hx hb dX9_agreed_1 rfl (lv_at hl 2 rfl) ?_
  refine lv_iload_n (pc := 2) hx hb dX9_agreed_2 rfl (lv_at hl 3 rfl) ?_
  refine Rcalli (rest := []) (RrunS (pc := 3) X w (okX9_isPlace l hJ h) kw602 kmX9_isPlace ⟨rfl, rfl⟩ ⟨by decide, by decide⟩ rfl hl.1 rfl (Nat.le_of_ble_eq_true rfl) dX9_agreed_3) w (fun r1 u9_ H locs h w => ?_)
  obtain ⟨hz_r1, h⟩ := h
  obtain ⟨rfl, h⟩ := h
  refine lv_if_ne (pc := 6) (tgt := 12) hx hb dX9_agreed_6 (by decide) (fun c_ => ?_) (fun c_ => ?_)
  · have h := h.2 c_
    refine lv_aload_n (pc := 12) hx hb dX9_agreed_12 rfl (lv_at hl 0 rfl) ?_
    refine lv_iload_n (pc := 13) hx hb dX9_agreed_13 rfl (lv_at hl 1 rfl) ?_
    refine lv_iload_n (pc := 14) hx hb dX9_agreed_14 rfl (lv_at hl 2 rfl) ?_
    refine lv_iload_n (pc := 15) hx hb dX9_agreed_15 rfl (lv_at hl 3 rfl) ?_
    refine Rcalli (rest := []) (RrunV (pc := 16) X w (okX9_soldBy l hJ h) kw653 kmX9_soldBy ⟨rfl, rfl⟩ ⟨by decide, by decide⟩ (Rrv_0 X w) rfl hl.1 rfl (Nat.le_of_ble_eq_true rfl) dX9_agreed_16) w (fun r2 u9_ H locs h w => ?_)
    obtain ⟨rfl, h⟩ := h
    refine lv_istore (pc := 19) (lv' := [(4, .int r2), (0, .ref (ad 0)), (1, .int a1), (2, .int a2), (3, .int a3)]) hx hb dX9_agreed_19 hl (by decide) rfl (fun ls hl => ?_)
    refine lv_aload_n (pc := 21) hx hb dX9_agreed_21 rfl (lv_at hl 1 rfl) ?_
    refine lv_iload_n (pc := 22) hx hb dX9_agreed_22 rfl (lv_at hl 2 rfl) ?_
    refine lv_iload_n (pc := 23) hx hb dX9_agreed_23 rfl (lv_at hl 3 rfl) ?_
    refine lv_iload_n (pc := 24) hx hb dX9_agreed_24 rfl (lv_at hl 4 rfl) ?_
    refine Rcalli (rest := []) (RrunV (pc := 25) X w (okX9_boughtFrom l hJ h) kw657 kmX9_boughtFrom ⟨rfl, rfl⟩ ⟨by decide, by decide⟩ (Rrv_0 X w) rfl hl.1 rfl (Nat.le_of_ble_eq_true rfl) dX9_agreed_25) w (fun r3 u9_ H locs h w => ?_)
    obtain ⟨rfl, h⟩ := h
    refine lv_istore (pc := 28) (lv' := [(5, .int r3), (4, .int r2), (0, .ref (ad 0)), (1, .int a1), (2, .int a2), (3, .int a3)]) hx hb dX9_agreed_28 hl (by decide) rfl (fun ls hl => ?_)
    refine lv_iload (pc := 30) hx hb dX9_agreed_30 (lv_at hl 1 rfl) ?_
    refine lv_iconst (pc := 32) (v := (-1 : Int32)) hx hb dX9_agreed_32 (by decide) ?_
    refine lv_icmp_eq (pc := 33) (tgt := 42) hx hb dX9_agreed_33 (by decide) (fun c_ => ?_) (fun c_ => ?_)
    · have h := h.1 c_
      exact bX9_agreed_42 X r2 r3 H locs ls h w (lv_sub hl [1, 0] rfl)
    · have h := h.2 c_
      refine lv_iload (pc := 36) hx hb dX9_agreed_36 (lv_at hl 0 rfl) ?_
      refine lv_iconst (pc := 38) (v := (-1 : Int32)) hx hb dX9_agreed_38 (by decide) ?_
      refine lv_icmp_ne (pc := 39) (tgt := 72) hx hb dX9_agreed_39 (by decide) (fun c_ => ?_) (fun c_ => ?_)
      · have h := h.2 c_
        refine lv_aload_n (pc := 72) hx hb dX9_agreed_72 rfl (lv_at hl 2 rfl) ?_
        refine Rgf_0_25 (pc := 73) X w kw652 dX9_agreed_73 ?_
        refine lv_iconst (pc := 76) (v := (0 : Int32)) hx hb dX9_agreed_76 (by decide) ?_
        refine Rld_20 (pc := 77) X w h.1 dX9_agreed_77 ?_
        have h := h.2
        refine lv_aload_n (pc := 78) hx hb dX9_agreed_78 rfl (lv_at hl 2 rfl) ?_
        refine Rgf_0_25 (pc := 79) X w kw652 dX9_agreed_79 ?_
        refine lv_iconst (pc := 82) (v := (1 : Int32)) hx hb dX9_agreed_82 (by decide) ?_
        refine Rld_20 (pc := 83) X w h.1 dX9_agreed_83 ?_
        have h := h.2
        refine lv_iadd (pc := 84) hx hb dX9_agreed_84 ?_
        refine lv_topi (fun x6_4 e_ => ?_)
        have h := h x6_4 e_
        refine lv_istore (pc := 85) (lv' := [(6, .int x6_4), (5, .int r3), (4, .int r2), (0, .ref (ad 0)), (1, .int a1), (2, .int a2), (3, .int a3)]) hx hb dX9_agreed_85 hl (by decide) rfl (fun ls hl => ?_)
        refine lv_iconst (pc := 87) (v := (2 : Int32)) hx hb dX9_agreed_87 (by decide) ?_
        refine lv_aload_n (pc := 88) hx hb dX9_agreed_88 rfl (lv_at hl 3 rfl) ?_
        refine Rgf_0_25 (pc := 89) X w kw652 dX9_agreed_89 ?_
        refine lv_iload_n (pc := 92) hx hb dX9_agreed_92 rfl (lv_at hl 4 rfl) ?_
        refine Rld_20 (pc := 93) X w h.1 dX9_agreed_93 ?_
        have h := h.2
        refine lv_iload (pc := 94) hx hb dX9_agreed_94 (lv_at hl 2 rfl) ?_
        refine lv_imul (pc := 96) hx hb dX9_agreed_96 ?_
        refine lv_aload_n (pc := 97) hx hb dX9_agreed_97 rfl (lv_at hl 3 rfl) ?_
        refine Rgf_0_25 (pc := 98) X w kw652 dX9_agreed_98 ?_
        refine lv_iconst (pc := 101) (v := (1 : Int32)) hx hb dX9_agreed_101 (by decide) ?_
        refine lv_iload_n (pc := 102) hx hb dX9_agreed_102 rfl (lv_at hl 4 rfl) ?_
        refine lv_isub (pc := 103) hx hb dX9_agreed_103 ?_
        refine Rld_20 (pc := 104) X w h.1 dX9_agreed_104 ?_
        have h := h.2
        refine lv_iload (pc := 105) hx hb dX9_agreed_105 (lv_at hl 1 rfl) ?_
        refine lv_imul (pc := 107) hx hb dX9_agreed_107 ?_
        refine lv_iadd (pc := 108) hx hb dX9_agreed_108 ?_
        refine lv_imul (pc := 109) hx hb dX9_agreed_109 ?_
        refine lv_iload (pc := 110) hx hb dX9_agreed_110 (lv_at hl 0 rfl) ?_
        refine lv_iadd (pc := 112) hx hb dX9_agreed_112 ?_
        refine lv_iconst (pc := 113) (v := (2 : Int32)) hx hb dX9_agreed_113 (by decide) ?_
        refine lv_iload (pc := 114) hx hb dX9_agreed_114 (lv_at hl 0 rfl) ?_
        refine lv_imul (pc := 116) hx hb dX9_agreed_116 ?_
        refine lv_idiv (pc := 117) hx hb dX9_agreed_117 h.1 ?_
        have h := h.2
        exact Riret (pc := 118) X w ⟨rfl, h⟩ dX9_agreed_118
      · have h := h.1 c_
        exact bX9_agreed_42 X r2 r3 H locs ls h w (lv_sub hl [1, 0] rfl)
  · have h := h.1 c_
    refine lv_bipush (pc := 9) (v := (-2 : Int32)) hx hb dX9_agreed_9 (by decide) ?_
    exact Riret (pc := 11) X w ⟨rfl, h⟩ dX9_agreed_11
set_option maxHeartbeats 4000000 in
set_option maxRecDepth 100000 in
theorem okX9_isSector (l : Launch) {D : va_G} {g : Nat → ClassId} {ad : Nat → Nat} (hJ : RJ ad) {u : Mm} {a0 : Int32} {Q : Int32 → Prop} (h : wX9_isSector a0 Q) : Met l yX9_isSector (Cond.code yX9_isSector cX9_isSector 1 (some .boolean) :: gt) ({ frames := 1, cells := 0, slots := 0, locals := 25 } : Room) (RPc D g ad u [.int a0]) (va_Qi (fun r u1 => bz r ∧ (u = u1 ∧ Q r)) (RB D g ad) (RA ad)) 0 0 (RA ad) := by
  refine Met.ofW (cc := cX9_isSector) (maxL := 1) (ret := (some .boolean)) (by decide) rfl ?_
  intro p e s m args below meth c s₁ B hml hv
  refine Rentry (own := RX9) B hml hv hJ rfl (Nat.le_of_ble_eq_true rfl) (fun ls H locs X w hl => ?_)
  obtain ⟨⟨hx, hb, hml, hown, hts⟩, hr, hlocks, hK, hJ, hAA⟩ := id X
  have hl : lv_has ls 1 [(0, .int a0)] := hl
  unfold wX9_isSector at h
  refine lv_iload_n (pc := 0) hx hb dX9_isSector_0 rfl (lv_at hl 0 rfl) ?_
  refine lv_i2l (pc := 1) hx hb dX9_isSector_1 rfl ?_
  refine lv_lconst (pc := 2) (v := (0 : Int64)) hx hb dX9_isSector_2 (by decide) ?_
  refine lv_ldc2 (pc := 3) (v := (5 : Int64)) hx hb hown (hts _ (List.mem_cons_of_mem _ kw495)) dX9_isSector_3 ?_
  refine Rcalli (rest := []) (RrunS (pc := 6) X w (okX9_in l hJ h) kw490 kmX9_in ⟨rfl, rfl⟩ ⟨by decide, by decide⟩ rfl hl.1 rfl (Nat.le_of_ble_eq_true rfl) dX9_isSector_6) w (fun r1 u9_ H locs h w => ?_)
  obtain ⟨hz_r1, h⟩ := h
  obtain ⟨rfl, h⟩ := h
  exact Rzret (pc := 9) X w hz_r1 ⟨rfl, h⟩ dX9_isSector_9
set_option maxHeartbeats 4000000 in
set_option maxRecDepth 100000 in
theorem okX9_isQuarter (l : Launch) {D : va_G} {g : Nat → ClassId} {ad : Nat → Nat} (hJ : RJ ad) {u : Mm} {a0 : Int32} {Q : Int32 → Prop} (h : wX9_isQuarter a0 Q) : Met l yX9_isQuarter (Cond.code yX9_isQuarter cX9_isQuarter 1 (some .boolean) :: gt) ({ frames := 1, cells := 0, slots := 0, locals := 25 } : Room) (RPc D g ad u [.int a0]) (va_Qi (fun r u1 => bz r ∧ (u = u1 ∧ Q r)) (RB D g ad) (RA ad)) 0 0 (RA ad) := by
  refine Met.ofW (cc := cX9_isQuarter) (maxL := 1) (ret := (some .boolean)) (by decide) rfl ?_
  intro p e s m args below meth c s₁ B hml hv
  refine Rentry (own := RX9) B hml hv hJ rfl (Nat.le_of_ble_eq_true rfl) (fun ls H locs X w hl => ?_)
  obtain ⟨⟨hx, hb, hml, hown, hts⟩, hr, hlocks, hK, hJ, hAA⟩ := id X
  have hl : lv_has ls 1 [(0, .int a0)] := hl
  unfold wX9_isQuarter at h
  refine lv_iload_n (pc := 0) hx hb dX9_isQuarter_0 rfl (lv_at hl 0 rfl) ?_
  refine lv_i2l (pc := 1) hx hb dX9_isQuarter_1 rfl ?_
  refine lv_lconst (pc := 2) (v := (0 : Int64)) hx hb dX9_isQuarter_2 (by decide) ?_
  refine lv_ldc2 (pc := 3) (v := (11 : Int64)) hx hb hown (hts _ (List.mem_cons_of_mem _ kw501)) dX9_isQuarter_3 ?_
  refine Rcalli (rest := []) (RrunS (pc := 6) X w (okX9_in l hJ h) kw490 kmX9_in ⟨rfl, rfl⟩ ⟨by decide, by decide⟩ rfl hl.1 rfl (Nat.le_of_ble_eq_true rfl) dX9_isQuarter_6) w (fun r1 u9_ H locs h w => ?_)
  obtain ⟨hz_r1, h⟩ := h
  obtain ⟨rfl, h⟩ := h
  exact Rzret (pc := 9) X w hz_r1 ⟨rfl, h⟩ dX9_isQuarter_9
set_option maxHeartbeats 4000000 in
set_option maxRecDepth 100000 in
theorem okX9_flow (l : Launch) {D : va_G} {g : Nat → ClassId} {ad : Nat → Nat} (hJ : RJ ad) {u : Mm} {a1 : Int32} {a2 : Int32} {a3 : Int32} {a4 : Int32} {Q : Int64 → Mm → Prop} (h : wX9_flow u a1 a2 a3 a4 Q) : Met l yX9_flow (Cond.code yX9_flow cX9_flow 6 (some .long) :: gt) ({ frames := 2, cells := 0, slots := 0, locals := 45 } : Room) (RPc D g ad u [.ref (ad 0), .int a1, .int a2, .int a3, .int a4]) (va_Ql Q (RB D g ad) (RA ad)) 0 0 (RA ad) := by
  refine Met.ofW (cc := cX9_flow) (maxL := 6) (ret := (some .long)) (by decide) rfl ?_
  intro p e s m args below meth c s₁ B hml hv
  refine Rentry (own := RX9) B hml hv hJ rfl (Nat.le_of_ble_eq_true rfl) (fun ls H locs X w hl => ?_)
  obtain ⟨⟨hx, hb, hml, hown, hts⟩, hr, hlocks, hK, hJ, hAA⟩ := id X
  have hl : lv_has ls 6 [(0, .ref (ad 0)), (1, .int a1), (2, .int a2), (3, .int a3), (4, .int a4)] := hl
  unfold wX9_flow at h
  refine lv_iload_n (pc := 0) hx hb dX9_flow_0 rfl (lv_at hl 1 rfl) ?_
  refine Rcalli (rest := []) (RrunS (pc := 1) X w (okX9_isSector l hJ h) kw662 kmX9_isSector ⟨rfl, rfl⟩ ⟨by decide, by decide⟩ rfl hl.1 rfl (Nat.le_of_ble_eq_true rfl) dX9_flow_1) w (fun r1 u9_ H locs h w => ?_)
  obtain ⟨hz_r1, h⟩ := h
  obtain ⟨rfl, h⟩ := h
  refine lv_if_eq (pc := 4) (tgt := 41) hx hb dX9_flow_4 (by decide) (fun c_ => ?_) (fun c_ => ?_)
  · have h := h.1 c_
    refine lv_ldc2 (pc := 41) (v := (-9223372036854775806 : Int64)) hx hb hown (hts _ (List.mem_cons_of_mem _ kw601)) dX9_flow_41 ?_
    exact Rlret (pc := 44) X w h dX9_flow_44
  · have h := h.2 c_
    refine lv_iload_n (pc := 7) hx hb dX9_flow_7 rfl (lv_at hl 2 rfl) ?_
    refine Rcalli (rest := []) (RrunS (pc := 8) X w (okX9_isSector l hJ h) kw662 kmX9_isSector ⟨rfl, rfl⟩ ⟨by decide, by decide⟩ rfl hl.1 rfl (Nat.le_of_ble_eq_true rfl) dX9_flow_8) w (fun r2 u9_ H locs h w => ?_)
    obtain ⟨hz_r2, h⟩ := h
    obtain ⟨rfl, h⟩ := h
    refine lv_if_eq (pc := 11) (tgt := 41) hx hb dX9_flow_11 (by decide) (fun c_ => ?_) (fun c_ => ?_)
    · have h := h.1 c_
      refine lv_ldc2 (pc := 41) (v := (-9223372036854775806 : Int64)) hx hb hown (hts _ (List.mem_cons_of_mem _ kw601)) dX9_flow_41 ?_
      exact Rlret (pc := 44) X w h dX9_flow_44
    · have h := h.2 c_
      refine lv_iload_n (pc := 14) hx hb dX9_flow_14 rfl (lv_at hl 1 rfl) ?_
      refine lv_iload_n (pc := 15) hx hb dX9_flow_15 rfl (lv_at hl 2 rfl) ?_
      refine lv_icmp_eq (pc := 16) (tgt := 41) hx hb dX9_flow_16 (by decide) (fun c_ => ?_) (fun c_ => ?_)
      · have h := h.1 c_
        refine lv_ldc2 (pc := 41) (v := (-9223372036854775806 : Int64)) hx hb hown (hts _ (List.mem_cons_of_mem _ kw601)) dX9_flow_41 ?_
        exact Rlret (pc := 44) X w h dX9_flow_44
      · have h := h.2 c_
        refine lv_iload_n (pc := 19) hx hb dX9_flow_19 rfl (lv_at hl 3 rfl) ?_
        refine Rcalli (rest := []) (RrunS (pc := 20) X w (okX9_isQuarter l hJ h) kw665 kmX9_isQuarter ⟨rfl, rfl⟩ ⟨by decide, by decide⟩ rfl hl.1 rfl (Nat.le_of_ble_eq_true rfl) dX9_flow_20) w (fun r3 u9_ H locs h w => ?_)
        obtain ⟨hz_r3, h⟩ := h
        obtain ⟨rfl, h⟩ := h
        refine lv_if_eq (pc := 23) (tgt := 41) hx hb dX9_flow_23 (by decide) (fun c_ => ?_) (fun c_ => ?_)
        · have h := h.1 c_
          refine lv_ldc2 (pc := 41) (v := (-9223372036854775806 : Int64)) hx hb hown (hts _ (List.mem_cons_of_mem _ kw601)) dX9_flow_41 ?_
          exact Rlret (pc := 44) X w h dX9_flow_44
        · have h := h.2 c_
          refine lv_iload (pc := 26) hx hb dX9_flow_26 (lv_at hl 4 rfl) ?_
          refine lv_i2l (pc := 28) hx hb dX9_flow_28 rfl ?_
          refine lv_ldc2 (pc := 29) (v := (-100000 : Int64)) hx hb hown (hts _ (List.mem_cons_of_mem _ kw668)) dX9_flow_29 ?_
          refine lv_ldc2 (pc := 32) (v := (100000 : Int64)) hx hb hown (hts _ (List.mem_cons_of_mem _ kw530)) dX9_flow_32 ?_
          refine Rcalli (rest := []) (RrunS (pc := 35) X w (okX9_in l hJ h) kw490 kmX9_in ⟨rfl, rfl⟩ ⟨by decide, by decide⟩ rfl hl.1 rfl (Nat.le_of_ble_eq_true rfl) dX9_flow_35) w (fun r4 u9_ H locs h w => ?_)
          obtain ⟨hz_r4, h⟩ := h
          obtain ⟨rfl, h⟩ := h
          refine lv_if_ne (pc := 38) (tgt := 45) hx hb dX9_flow_38 (by decide) (fun c_ => ?_) (fun c_ => ?_)
          · have h := h.2 c_
            refine lv_bipush (pc := 45) (v := (72 : Int32)) hx hb dX9_flow_45 (by decide) ?_
            refine lv_iload_n (pc := 47) hx hb dX9_flow_47 rfl (lv_at hl 1 rfl) ?_
            refine lv_imul (pc := 48) hx hb dX9_flow_48 ?_
            refine lv_bipush (pc := 49) (v := (12 : Int32)) hx hb dX9_flow_49 (by decide) ?_
            refine lv_iload_n (pc := 51) hx hb dX9_flow_51 rfl (lv_at hl 2 rfl) ?_
            refine lv_imul (pc := 52) hx hb dX9_flow_52 ?_
            refine lv_iadd (pc := 53) hx hb dX9_flow_53 ?_
            refine lv_iload_n (pc := 54) hx hb dX9_flow_54 rfl (lv_at hl 3 rfl) ?_
            refine lv_iadd (pc := 55) hx hb dX9_flow_55 ?_
            refine lv_topi (fun x5_5 e_ => ?_)
            have h := h x5_5 e_
            refine lv_istore (pc := 56) (lv' := [(5, .int x5_5), (0, .ref (ad 0)), (1, .int a1), (2, .int a2), (3, .int a3), (4, .int a4)]) hx hb dX9_flow_56 hl (by decide) rfl (fun ls hl => ?_)
            refine lv_aload_n (pc := 58) hx hb dX9_flow_58 rfl (lv_at hl 1 rfl) ?_
            refine Rgf_0_26 (pc := 59) X w kw669 dX9_flow_59 ?_
            refine lv_iload (pc := 62) hx hb dX9_flow_62 (lv_at hl 0 rfl) ?_
            refine lv_dup2_11 (pc := 64) hx hb dX9_flow_64 rfl rfl ?_
            refine Rld_21 (pc := 65) X w h.1 dX9_flow_65 ?_
            have h := h.2
            refine lv_iload (pc := 66) hx hb dX9_flow_66 (lv_at hl 5 rfl) ?_
            refine lv_i2l (pc := 68) hx hb dX9_flow_68 rfl ?_
            refine lv_ladd (pc := 69) hx hb dX9_flow_69 ?_
            refine Rst_21 (pc := 70) X w h.1 dX9_flow_70 (fun H locs w => ?_)
            have h := h.2
            obtain ⟨u6, e_⟩ : ∃ y : Mm, y = s64 u 21 x5_5.toNatClampNeg ((u.2 21 x5_5.toNatClampNeg) + a4.toInt64) := ⟨_, rfl⟩
            rw [← e_] at w
            have h := h u6 e_
            refine lv_aload_n (pc := 71) hx hb dX9_flow_71 rfl (lv_at hl 1 rfl) ?_
            refine Rgf_0_26 (pc := 72) X w kw669 dX9_flow_72 ?_
            refine lv_iload (pc := 75) hx hb dX9_flow_75 (lv_at hl 0 rfl) ?_
            refine Rld_21 (pc := 77) X w h.1 dX9_flow_77 ?_
            have h := h.2
            exact Rlret (pc := 78) X w h dX9_flow_78
          · have h := h.1 c_
            refine lv_ldc2 (pc := 41) (v := (-9223372036854775806 : Int64)) hx hb hown (hts _ (List.mem_cons_of_mem _ kw601)) dX9_flow_41 ?_
            exact Rlret (pc := 44) X w h dX9_flow_44
set_option maxHeartbeats 4000000 in
set_option maxRecDepth 100000 in
theorem bX9_netOf_5 {l : Launch} {p : Program} {e : Env} {s : State} {m : MethodId} {args : Array Value} {below : List Frame} {meth : Method} {c : Code} {D : va_G} {g : Nat → ClassId} {ad : Nat → Nat} {u : Mm} {Q : Int64 → Prop} (X : RX p s m args meth c cX9_netOf RX9 6 (some .long) (Cond.code yX9_netOf cX9_netOf 6 (some .long)) D g ad (RA ad)) : ∀ (n : Nat) (x1 : Int32) (x2 : Int32) (x3 : Int64) (x5 : Int32) (H : Heap) (locs : List Loc) (ls : Array Slot), wX9_netOf_b5 u Q n x1 x2 x3 x5 → RWd D g ad (RA ad) s u H locs → lv_has ls 6 [(0, .ref (ad 0)), (1, .int x1), (2, .int x2), (3, .long x3), (5, .int x5)] → W p l e ({ frames := 0, cells := 0, slots := 0, locals := 0 } : Room) s m args below meth c H locs 0 0 (MQ below (va_Ql (fun r u1 => u = u1 ∧ Q r) (RB D g ad) (RA ad)) args s 0 0 (RA ad)) (F0 m 5 ls []) := by
  obtain ⟨⟨hx, hb, hml, hown, hts⟩, hr, hlocks, hK, hJ, hAA⟩ := id X
  intro n
  induction n with
  | zero =>
    intro x1 x2 x3 x5 H locs ls h
    exact False.elim h
  | succ n ih =>
    intro x1 x2 x3 x5 H locs ls h w hl
    unfold wX9_netOf_b5 at h
    refine lv_iload (pc := 5) hx hb dX9_netOf_5 (lv_at hl 4 rfl) ?_
    refine lv_bipush (pc := 7) (v := (6 : Int32)) hx hb dX9_netOf_7 (by decide) ?_
    refine lv_icmp_ge (pc := 9) (tgt := 56) hx hb dX9_netOf_9 (by decide) (fun c_ => ?_) (fun c_ => ?_)
    · have h := h.1 c_
      refine lv_lload_n (pc := 56) hx hb dX9_netOf_56 rfl (lv_at hl 3 rfl) ?_
      exact Rlret (pc := 57) X w ⟨rfl, h⟩ dX9_netOf_57
    · have h := h.2 c_
      refine lv_lload_n (pc := 12) hx hb dX9_netOf_12 rfl (lv_at hl 3 rfl) ?_
      refine lv_aload_n (pc := 13) hx hb dX9_netOf_13 rfl (lv_at hl 0 rfl) ?_
      refine Rgf_0_26 (pc := 14) X w kw669 dX9_netOf_14 ?_
      refine lv_bipush (pc := 17) (v := (72 : Int32)) hx hb dX9_netOf_17 (by decide) ?_
      refine lv_iload (pc := 19) hx hb dX9_netOf_19 (lv_at hl 4 rfl) ?_
      refine lv_imul (pc := 21) hx hb dX9_netOf_21 ?_
      refine lv_bipush (pc := 22) (v := (12 : Int32)) hx hb dX9_netOf_22 (by decide) ?_
      refine lv_iload_n (pc := 24) hx hb dX9_netOf_24 rfl (lv_at hl 1 rfl) ?_
      refine lv_imul (pc := 25) hx hb dX9_netOf_25 ?_
      refine lv_iadd (pc := 26) hx hb dX9_netOf_26 ?_
      refine lv_iload_n (pc := 27) hx hb dX9_netOf_27 rfl (lv_at hl 2 rfl) ?_
      refine lv_iadd (pc := 28) hx hb dX9_netOf_28 ?_
      refine Rld_21 (pc := 29) X w h.1 dX9_netOf_29 ?_
      have h := h.2
      refine lv_aload_n (pc := 30) hx hb dX9_netOf_30 rfl (lv_at hl 0 rfl) ?_
      refine Rgf_0_26 (pc := 31) X w kw669 dX9_netOf_31 ?_
      refine lv_bipush (pc := 34) (v := (72 : Int32)) hx hb dX9_netOf_34 (by decide) ?_
      refine lv_iload_n (pc := 36) hx hb dX9_netOf_36 rfl (lv_at hl 1 rfl) ?_
      refine lv_imul (pc := 37) hx hb dX9_netOf_37 ?_
      refine lv_bipush (pc := 38) (v := (12 : Int32)) hx hb dX9_netOf_38 (by decide) ?_
      refine lv_iload (pc := 40) hx hb dX9_netOf_40 (lv_at hl 4 rfl) ?_
      refine lv_imul (pc := 42) hx hb dX9_netOf_42 ?_
      refine lv_iadd (pc := 43) hx hb dX9_netOf_43 ?_
      refine lv_iload_n (pc := 44) hx hb dX9_netOf_44 rfl (lv_at hl 2 rfl) ?_
      refine lv_iadd (pc := 45) hx hb dX9_netOf_45 ?_
      refine Rld_21 (pc := 46) X w h.1 dX9_netOf_46 ?_
      have h := h.2
      refine lv_lsub (pc := 47) hx hb dX9_netOf_47 ?_
      refine lv_ladd (pc := 48) hx hb dX9_netOf_48 ?_
      refine lv_topl (fun x3_1 e_ => ?_)
      have h := h x3_1 e_
      refine lv_lstore_n (pc := 49) (lv' := [(3, .long x3_1), (0, .ref (ad 0)), (1, .int x1), (2, .int x2), (5, .int x5)]) hx hb dX9_netOf_49 rfl hl (by decide) rfl (fun ls hl => ?_)
      obtain ⟨x5_2, e_⟩ : ∃ y : Int32, y = x5 + (1 : Int32) := ⟨_, rfl⟩
      have h := h x5_2 e_
      refine lv_iinc (pc := 50) (v := x5_2) (lv' := [(5, .int x5_2), (3, .long x3_1), (0, .ref (ad 0)), (1, .int x1), (2, .int x2)]) hx hb dX9_netOf_50 hl (k := 4) rfl (by rw [e_]; rfl) (by decide) rfl (fun ls hl => ?_)
      refine lv_goto (pc := 53) (tgt := 5) hx hb dX9_netOf_53 (by decide) ?_
      exact ih x1 x2 x3_1 x5_2 H locs ls h w (lv_sub hl [2, 3, 4, 1, 0] rfl)
set_option maxHeartbeats 4000000 in
set_option maxRecDepth 100000 in
theorem okX9_netOf (l : Launch) {D : va_G} {g : Nat → ClassId} {ad : Nat → Nat} (hJ : RJ ad) {u : Mm} {a1 : Int32} {a2 : Int32} {Q : Int64 → Prop} (h : wX9_netOf u a1 a2 Q) : Met l yX9_netOf (Cond.code yX9_netOf cX9_netOf 6 (some .long) :: gt) ({ frames := 0, cells := 0, slots := 0, locals := 0 } : Room) (RPc D g ad u [.ref (ad 0), .int a1, .int a2]) (va_Ql (fun r u1 => u = u1 ∧ Q r) (RB D g ad) (RA ad)) 0 0 (RA ad) := by
  refine Met.ofW (cc := cX9_netOf) (maxL := 6) (ret := (some .long)) (by decide) rfl ?_
  intro p e s m args below meth c s₁ B hml hv
  refine Rentry (own := RX9) B hml hv hJ rfl (Nat.le_of_ble_eq_true rfl) (fun ls H locs X w hl => ?_)
  obtain ⟨⟨hx, hb, hml, hown, hts⟩, hr, hlocks, hK, hJ, hAA⟩ := id X
  have hl : lv_has ls 6 [(0, .ref (ad 0)), (1, .int a1), (2, .int a2)] := hl
  unfold wX9_netOf at h
  refine lv_lconst (pc := 0) (v := (0 : Int64)) hx hb dX9_netOf_0 (by decide) ?_
  refine lv_lstore_n (pc := 1) (lv' := [(3, .long (0 : Int64)), (0, .ref (ad 0)), (1, .int a1), (2, .int a2)]) hx hb dX9_netOf_1 rfl hl (by decide) rfl (fun ls hl => ?_)
  refine lv_iconst (pc := 2) (v := (0 : Int32)) hx hb dX9_netOf_2 (by decide) ?_
  refine lv_istore (pc := 3) (lv' := [(5, .int (0 : Int32)), (3, .long (0 : Int64)), (0, .ref (ad 0)), (1, .int a1), (2, .int a2)]) hx hb dX9_netOf_3 hl (by decide) rfl (fun ls hl => ?_)
  obtain ⟨n9, h⟩ := h
  exact bX9_netOf_5 X n9 a1 a2 (0 : Int64) (0 : Int32) H locs ls h w (lv_sub hl [2, 3, 4, 1, 0] rfl)
set_option maxHeartbeats 4000000 in
set_option maxRecDepth 100000 in
theorem okX9_net (l : Launch) {D : va_G} {g : Nat → ClassId} {ad : Nat → Nat} (hJ : RJ ad) {u : Mm} {a1 : Int32} {a2 : Int32} {Q : Int64 → Prop} (h : wX9_net u a1 a2 Q) : Met l yX9_net (Cond.code yX9_net cX9_net 3 (some .long) :: gt) ({ frames := 2, cells := 0, slots := 0, locals := 45 } : Room) (RPc D g ad u [.ref (ad 0), .int a1, .int a2]) (va_Ql (fun r u1 => u = u1 ∧ Q r) (RB D g ad) (RA ad)) 0 0 (RA ad) := by
  refine Met.ofW (cc := cX9_net) (maxL := 3) (ret := (some .long)) (by decide) rfl ?_
  intro p e s m args below meth c s₁ B hml hv
  refine Rentry (own := RX9) B hml hv hJ rfl (Nat.le_of_ble_eq_true rfl) (fun ls H locs X w hl => ?_)
  obtain ⟨⟨hx, hb, hml, hown, hts⟩, hr, hlocks, hK, hJ, hAA⟩ := id X
  have hl : lv_has ls 3 [(0, .ref (ad 0)), (1, .int a1), (2, .int a2)] := hl
  unfold wX9_net at h
  refine lv_iload_n (pc := 0) hx hb dX9_net_0 rfl (lv_at hl 1 rfl) ?_
  refine Rcalli (rest := []) (RrunS (pc := 1) X w (okX9_isSector l hJ h) kw662 kmX9_isSector ⟨rfl, rfl⟩ ⟨by decide, by decide⟩ rfl hl.1 rfl (Nat.le_of_ble_eq_true rfl) dX9_net_1) w (fun r1 u9_ H locs h w => ?_)
  obtain ⟨hz_r1, h⟩ := h
  obtain ⟨rfl, h⟩ := h
  refine lv_if_eq (pc := 4) (tgt := 23) hx hb dX9_net_4 (by decide) (fun c_ => ?_) (fun c_ => ?_)
  · have h := h.1 c_
    refine lv_ldc2 (pc := 23) (v := (-9223372036854775806 : Int64)) hx hb hown (hts _ (List.mem_cons_of_mem _ kw601)) dX9_net_23 ?_
    exact Rlret (pc := 26) X w ⟨rfl, h⟩ dX9_net_26
  · have h := h.2 c_
    refine lv_iload_n (pc := 7) hx hb dX9_net_7 rfl (lv_at hl 2 rfl) ?_
    refine Rcalli (rest := []) (RrunS (pc := 8) X w (okX9_isQuarter l hJ h) kw665 kmX9_isQuarter ⟨rfl, rfl⟩ ⟨by decide, by decide⟩ rfl hl.1 rfl (Nat.le_of_ble_eq_true rfl) dX9_net_8) w (fun r2 u9_ H locs h w => ?_)
    obtain ⟨hz_r2, h⟩ := h
    obtain ⟨rfl, h⟩ := h
    refine lv_if_eq (pc := 11) (tgt := 23) hx hb dX9_net_11 (by decide) (fun c_ => ?_) (fun c_ => ?_)
    · have h := h.1 c_
      refine lv_ldc2 (pc := 23) (v := (-9223372036854775806 : Int64)) hx hb hown (hts _ (List.mem_cons_of_mem _ kw601)) dX9_net_23 ?_
      exact Rlret (pc := 26) X w ⟨rfl, h⟩ dX9_net_26
    · have h := h.2 c_
      refine lv_aload_n (pc := 14) hx hb dX9_net_14 rfl (lv_at hl 0 rfl) ?_
      refine lv_iload_n (pc := 15) hx hb dX9_net_15 rfl (lv_at hl 1 rfl) ?_
      refine lv_iload_n (pc := 16) hx hb dX9_net_16 rfl (lv_at hl 2 rfl) ?_
      refine Rcalll (rest := []) (RrunV (pc := 17) X w (okX9_netOf l hJ h) kw670 kmX9_netOf ⟨rfl, rfl⟩ ⟨by decide, by decide⟩ (Rrv_0 X w) rfl hl.1 rfl (Nat.le_of_ble_eq_true rfl) dX9_net_17) w (fun r3 u9_ H locs h w => ?_)
      obtain ⟨rfl, h⟩ := h
      refine lv_goto (pc := 20) (tgt := 26) hx hb dX9_net_20 (by decide) ?_
      exact Rlret (pc := 26) X w ⟨rfl, h⟩ dX9_net_26
set_option maxHeartbeats 4000000 in
set_option maxRecDepth 100000 in
theorem okX9_stock (l : Launch) {D : va_G} {g : Nat → ClassId} {ad : Nat → Nat} (hJ : RJ ad) {u : Mm} {a1 : Int32} {a2 : Int32} {a3 : Int32} {Q : Int32 → Mm → Prop} (h : wX9_stock u a1 a2 a3 Q) : Met l yX9_stock (Cond.code yX9_stock cX9_stock 4 (some .int) :: gt) ({ frames := 2, cells := 0, slots := 0, locals := 45 } : Room) (RPc D g ad u [.ref (ad 0), .int a1, .int a2, .int a3]) (va_Qi Q (RB D g ad) (RA ad)) 0 0 (RA ad) := by
  refine Met.ofW (cc := cX9_stock) (maxL := 4) (ret := (some .int)) (by decide) rfl ?_
  intro p e s m args below meth c s₁ B hml hv
  refine Rentry (own := RX9) B hml hv hJ rfl (Nat.le_of_ble_eq_true rfl) (fun ls H locs X w hl => ?_)
  obtain ⟨⟨hx, hb, hml, hown, hts⟩, hr, hlocks, hK, hJ, hAA⟩ := id X
  have hl : lv_has ls 4 [(0, .ref (ad 0)), (1, .int a1), (2, .int a2), (3, .int a3)] := hl
  unfold wX9_stock at h
  refine lv_iload_n (pc := 0) hx hb dX9_stock_0 rfl (lv_at hl 1 rfl) ?_
  refine Rcalli (rest := []) (RrunS (pc := 1) X w (okX9_isSector l hJ h) kw662 kmX9_isSector ⟨rfl, rfl⟩ ⟨by decide, by decide⟩ rfl hl.1 rfl (Nat.le_of_ble_eq_true rfl) dX9_stock_1) w (fun r1 u9_ H locs h w => ?_)
  obtain ⟨hz_r1, h⟩ := h
  obtain ⟨rfl, h⟩ := h
  refine lv_if_eq (pc := 4) (tgt := 28) hx hb dX9_stock_4 (by decide) (fun c_ => ?_) (fun c_ => ?_)
  · have h := h.1 c_
    refine lv_bipush (pc := 28) (v := (-2 : Int32)) hx hb dX9_stock_28 (by decide) ?_
    exact Riret (pc := 30) X w h dX9_stock_30
  · have h := h.2 c_
    refine lv_iload_n (pc := 7) hx hb dX9_stock_7 rfl (lv_at hl 2 rfl) ?_
    refine Rcalli (rest := []) (RrunS (pc := 8) X w (okX9_isQuarter l hJ h) kw665 kmX9_isQuarter ⟨rfl, rfl⟩ ⟨by decide, by decide⟩ rfl hl.1 rfl (Nat.le_of_ble_eq_true rfl) dX9_stock_8) w (fun r2 u9_ H locs h w => ?_)
    obtain ⟨hz_r2, h⟩ := h
    obtain ⟨rfl, h⟩ := h
    refine lv_if_eq (pc := 11) (tgt := 28) hx hb dX9_stock_11 (by decide) (fun c_ => ?_) (fun c_ => ?_)
    · have h := h.1 c_
      refine lv_bipush (pc := 28) (v := (-2 : Int32)) hx hb dX9_stock_28 (by decide) ?_
      exact Riret (pc := 30) X w h dX9_stock_30
    · have h := h.2 c_
      refine lv_iload_n (pc := 14) hx hb dX9_stock_14 rfl (lv_at hl 3 rfl) ?_
      refine lv_i2l (pc := 15) hx hb dX9_stock_15 rfl ?_
      refine lv_ldc2 (pc := 16) (v := (-1000000 : Int64)) hx hb hown (hts _ (List.mem_cons_of_mem _ kw674)) dX9_stock_16 ?_
      refine lv_ldc2 (pc := 19) (v := (1000000 : Int64)) hx hb hown (hts _ (List.mem_cons_of_mem _ kw637)) dX9_stock_19 ?_
      refine Rcalli (rest := []) (RrunS (pc := 22) X w (okX9_in l hJ h) kw490 kmX9_in ⟨rfl, rfl⟩ ⟨by decide, by decide⟩ rfl hl.1 rfl (Nat.le_of_ble_eq_true rfl) dX9_stock_22) w (fun r3 u9_ H locs h w => ?_)
      obtain ⟨hz_r3, h⟩ := h
      obtain ⟨rfl, h⟩ := h
      refine lv_if_ne (pc := 25) (tgt := 31) hx hb dX9_stock_25 (by decide) (fun c_ => ?_) (fun c_ => ?_)
      · have h := h.2 c_
        refine lv_aload_n (pc := 31) hx hb dX9_stock_31 rfl (lv_at hl 0 rfl) ?_
        refine Rgf_0_28 (pc := 32) X w kw675 dX9_stock_32 ?_
        refine lv_bipush (pc := 35) (v := (12 : Int32)) hx hb dX9_stock_35 (by decide) ?_
        refine lv_iload_n (pc := 37) hx hb dX9_stock_37 rfl (lv_at hl 1 rfl) ?_
        refine lv_imul (pc := 38) hx hb dX9_stock_38 ?_
        refine lv_iload_n (pc := 39) hx hb dX9_stock_39 rfl (lv_at hl 2 rfl) ?_
        refine lv_iadd (pc := 40) hx hb dX9_stock_40 ?_
        refine lv_iload_n (pc := 41) hx hb dX9_stock_41 rfl (lv_at hl 3 rfl) ?_
        refine Rst_23 (pc := 42) X w h.1 dX9_stock_42 (fun H locs w => ?_)
        have h := h.2
        obtain ⟨u4, e_⟩ : ∃ y : Mm, y = s32 u 23 (((12 : Int32) * a1) + a2).toNatClampNeg a3 := ⟨_, rfl⟩
        rw [← e_] at w
        have h := h u4 e_
        refine lv_aload_n (pc := 43) hx hb dX9_stock_43 rfl (lv_at hl 0 rfl) ?_
        refine Rgf_0_27 (pc := 44) X w kw676 dX9_stock_44 ?_
        refine lv_bipush (pc := 47) (v := (12 : Int32)) hx hb dX9_stock_47 (by decide) ?_
        refine lv_iload_n (pc := 49) hx hb dX9_stock_49 rfl (lv_at hl 1 rfl) ?_
        refine lv_imul (pc := 50) hx hb dX9_stock_50 ?_
        refine lv_iload_n (pc := 51) hx hb dX9_stock_51 rfl (lv_at hl 2 rfl) ?_
        refine lv_iadd (pc := 52) hx hb dX9_stock_52 ?_
        refine lv_iconst (pc := 53) (v := (1 : Int32)) hx hb dX9_stock_53 (by decide) ?_
        refine Rst_22 (pc := 54) X w h.1 dX9_stock_54 (fun H locs w => ?_)
        have h := h.2
        obtain ⟨u5, e_⟩ : ∃ y : Mm, y = s32 u4 22 (((12 : Int32) * a1) + a2).toNatClampNeg (vp_nar .boolean (1 : Int32)) := ⟨_, rfl⟩
        rw [← e_] at w
        have h := h u5 e_
        refine lv_iconst (pc := 55) (v := (1 : Int32)) hx hb dX9_stock_55 (by decide) ?_
        exact Riret (pc := 56) X w h dX9_stock_56
      · have h := h.1 c_
        refine lv_bipush (pc := 28) (v := (-2 : Int32)) hx hb dX9_stock_28 (by decide) ?_
        exact Riret (pc := 30) X w h dX9_stock_30
set_option maxHeartbeats 4000000 in
set_option maxRecDepth 100000 in
theorem bX9_unstock_36 {l : Launch} {p : Program} {e : Env} {s : State} {m : MethodId} {args : Array Value} {below : List Frame} {meth : Method} {c : Code} {D : va_G} {g : Nat → ClassId} {ad : Nat → Nat} {Q : Int32 → Mm → Prop} (X : RX p s m args meth c cX9_unstock RX9 4 (some .int) (Cond.code yX9_unstock cX9_unstock 4 (some .int)) D g ad (RA ad)) : ∀ (u : Mm) (x1 : Int32) (x2 : Int32) (y0 : Int32) (H : Heap) (locs : List Loc) (ls : Array Slot), wX9_unstock_b36 Q u x1 x2 y0 → RWd D g ad (RA ad) s u H locs → lv_has ls 4 [(0, .ref (ad 0)), (1, .int x1), (2, .int x2)] → W p l e ({ frames := 2, cells := 0, slots := 0, locals := 45 } : Room) s m args below meth c H locs 0 0 (MQ below (va_Qi Q (RB D g ad) (RA ad)) args s 0 0 (RA ad)) (F0 m 36 ls [.int y0]) := by
  obtain ⟨⟨hx, hb, hml, hown, hts⟩, hr, hlocks, hK, hJ, hAA⟩ := id X
  intro u x1 x2 y0 H locs ls h w hl
  unfold wX9_unstock_b36 at h
  refine lv_istore_n (pc := 36) (lv' := [(3, .int y0), (0, .ref (ad 0)), (1, .int x1), (2, .int x2)]) hx hb dX9_unstock_36 rfl hl (by decide) rfl (fun ls hl => ?_)
  refine lv_aload_n (pc := 37) hx hb dX9_unstock_37 rfl (lv_at hl 1 rfl) ?_
  refine Rgf_0_27 (pc := 38) X w kw676 dX9_unstock_38 ?_
  refine lv_bipush (pc := 41) (v := (12 : Int32)) hx hb dX9_unstock_41 (by decide) ?_
  refine lv_iload_n (pc := 43) hx hb dX9_unstock_43 rfl (lv_at hl 2 rfl) ?_
  refine lv_imul (pc := 44) hx hb dX9_unstock_44 ?_
  refine lv_iload_n (pc := 45) hx hb dX9_unstock_45 rfl (lv_at hl 3 rfl) ?_
  refine lv_iadd (pc := 46) hx hb dX9_unstock_46 ?_
  refine lv_iconst (pc := 47) (v := (0 : Int32)) hx hb dX9_unstock_47 (by decide) ?_
  refine Rst_22 (pc := 48) X w h.1 dX9_unstock_48 (fun H locs w => ?_)
  have h := h.2
  obtain ⟨u1, e_⟩ : ∃ y : Mm, y = s32 u 22 (((12 : Int32) * x1) + x2).toNatClampNeg (vp_nar .boolean (0 : Int32)) := ⟨_, rfl⟩
  rw [← e_] at w
  have h := h u1 e_
  refine lv_iload_n (pc := 49) hx hb dX9_unstock_49 rfl (lv_at hl 0 rfl) ?_
  exact Riret (pc := 50) X w h dX9_unstock_50
set_option maxHeartbeats 4000000 in
set_option maxRecDepth 100000 in
theorem okX9_unstock (l : Launch) {D : va_G} {g : Nat → ClassId} {ad : Nat → Nat} (hJ : RJ ad) {u : Mm} {a1 : Int32} {a2 : Int32} {Q : Int32 → Mm → Prop} (h : wX9_unstock u a1 a2 Q) : Met l yX9_unstock (Cond.code yX9_unstock cX9_unstock 4 (some .int) :: gt) ({ frames := 2, cells := 0, slots := 0, locals := 45 } : Room) (RPc D g ad u [.ref (ad 0), .int a1, .int a2]) (va_Qi Q (RB D g ad) (RA ad)) 0 0 (RA ad) := by
  refine Met.ofW (cc := cX9_unstock) (maxL := 4) (ret := (some .int)) (by decide) rfl ?_
  intro p e s m args below meth c s₁ B hml hv
  refine Rentry (own := RX9) B hml hv hJ rfl (Nat.le_of_ble_eq_true rfl) (fun ls H locs X w hl => ?_)
  obtain ⟨⟨hx, hb, hml, hown, hts⟩, hr, hlocks, hK, hJ, hAA⟩ := id X
  have hl : lv_has ls 4 [(0, .ref (ad 0)), (1, .int a1), (2, .int a2)] := hl
  unfold wX9_unstock at h
  refine lv_iload_n (pc := 0) hx hb dX9_unstock_0 rfl (lv_at hl 1 rfl) ?_
  refine Rcalli (rest := []) (RrunS (pc := 1) X w (okX9_isSector l hJ h) kw662 kmX9_isSector ⟨rfl, rfl⟩ ⟨by decide, by decide⟩ rfl hl.1 rfl (Nat.le_of_ble_eq_true rfl) dX9_unstock_1) w (fun r1 u9_ H locs h w => ?_)
  obtain ⟨hz_r1, h⟩ := h
  obtain ⟨rfl, h⟩ := h
  refine lv_if_eq (pc := 4) (tgt := 14) hx hb dX9_unstock_4 (by decide) (fun c_ => ?_) (fun c_ => ?_)
  · have h := h.1 c_
    refine lv_bipush (pc := 14) (v := (-2 : Int32)) hx hb dX9_unstock_14 (by decide) ?_
    exact Riret (pc := 16) X w h dX9_unstock_16
  · have h := h.2 c_
    refine lv_iload_n (pc := 7) hx hb dX9_unstock_7 rfl (lv_at hl 2 rfl) ?_
    refine Rcalli (rest := []) (RrunS (pc := 8) X w (okX9_isQuarter l hJ h) kw665 kmX9_isQuarter ⟨rfl, rfl⟩ ⟨by decide, by decide⟩ rfl hl.1 rfl (Nat.le_of_ble_eq_true rfl) dX9_unstock_8) w (fun r2 u9_ H locs h w => ?_)
    obtain ⟨hz_r2, h⟩ := h
    obtain ⟨rfl, h⟩ := h
    refine lv_if_ne (pc := 11) (tgt := 17) hx hb dX9_unstock_11 (by decide) (fun c_ => ?_) (fun c_ => ?_)
    · have h := h.2 c_
      refine lv_aload_n (pc := 17) hx hb dX9_unstock_17 rfl (lv_at hl 0 rfl) ?_
      refine Rgf_0_27 (pc := 18) X w kw676 dX9_unstock_18 ?_
      refine lv_bipush (pc := 21) (v := (12 : Int32)) hx hb dX9_unstock_21 (by decide) ?_
      refine lv_iload_n (pc := 23) hx hb dX9_unstock_23 rfl (lv_at hl 1 rfl) ?_
      refine lv_imul (pc := 24) hx hb dX9_unstock_24 ?_
      refine lv_iload_n (pc := 25) hx hb dX9_unstock_25 rfl (lv_at hl 2 rfl) ?_
      refine lv_iadd (pc := 26) hx hb dX9_unstock_26 ?_
      refine Rld_22 (pc := 27) X w h.1 dX9_unstock_27 ?_
      have h := h.2
      refine lv_if_eq (pc := 28) (tgt := 35) hx hb dX9_unstock_28 (by decide) (fun c_ => ?_) (fun c_ => ?_)
      · have h := h.1 c_
        refine lv_iconst (pc := 35) (v := (0 : Int32)) hx hb dX9_unstock_35 (by decide) ?_
        exact bX9_unstock_36 X u a1 a2 (0 : Int32) H locs ls h w (lv_sub hl [0, 1, 2] rfl)
      · have h := h.2 c_
        refine lv_iconst (pc := 31) (v := (1 : Int32)) hx hb dX9_unstock_31 (by decide) ?_
        refine lv_goto (pc := 32) (tgt := 36) hx hb dX9_unstock_32 (by decide) ?_
        exact bX9_unstock_36 X u a1 a2 (1 : Int32) H locs ls h w (lv_sub hl [0, 1, 2] rfl)
    · have h := h.1 c_
      refine lv_bipush (pc := 14) (v := (-2 : Int32)) hx hb dX9_unstock_14 (by decide) ?_
      exact Riret (pc := 16) X w h dX9_unstock_16
set_option maxHeartbeats 4000000 in
set_option maxRecDepth 100000 in
theorem bX9_dueOf_47 {l : Launch} {p : Program} {e : Env} {s : State} {m : MethodId} {args : Array Value} {below : List Frame} {meth : Method} {c : Code} {D : va_G} {g : Nat → ClassId} {ad : Nat → Nat} {u : Mm} {Q : Int64 → Prop} (X : RX p s m args meth c cX9_dueOf RX9 6 (some .long) (Cond.code yX9_dueOf cX9_dueOf 6 (some .long)) D g ad (RA ad)) : ∀ (x1 : Int32) (x3 : Int32) (x4 : Int64) (H : Heap) (locs : List Loc) (ls : Array Slot), wX9_dueOf_b47 u Q x1 x3 x4 → RWd D g ad (RA ad) s u H locs → lv_has ls 6 [(0, .ref (ad 0)), (1, .int x1), (3, .int x3), (4, .long x4)] → W p l e ({ frames := 1, cells := 0, slots := 0, locals := 25 } : Room) s m args below meth c H locs 0 0 (MQ below (va_Ql (fun r u1 => u = u1 ∧ Q r) (RB D g ad) (RA ad)) args s 0 0 (RA ad)) (F0 m 47 ls []) := by
  obtain ⟨⟨hx, hb, hml, hown, hts⟩, hr, hlocks, hK, hJ, hAA⟩ := id X
  intro x1 x3 x4 H locs ls h w hl
  unfold wX9_dueOf_b47 at h
  refine lv_iload_n (pc := 47) hx hb dX9_dueOf_47 rfl (lv_at hl 2 rfl) ?_
  refine lv_if_ge (pc := 48) (tgt := 56) hx hb dX9_dueOf_48 (by decide) (fun c_ => ?_) (fun c_ => ?_)
  · have h := h.1 c_
    refine lv_lload (pc := 56) hx hb dX9_dueOf_56 (lv_at hl 3 rfl) ?_
    refine lv_aload_n (pc := 58) hx hb dX9_dueOf_58 rfl (lv_at hl 0 rfl) ?_
    refine Rgf_0_28 (pc := 59) X w kw675 dX9_dueOf_59 ?_
    refine lv_bipush (pc := 62) (v := (12 : Int32)) hx hb dX9_dueOf_62 (by decide) ?_
    refine lv_iload_n (pc := 64) hx hb dX9_dueOf_64 rfl (lv_at hl 1 rfl) ?_
    refine lv_imul (pc := 65) hx hb dX9_dueOf_65 ?_
    refine lv_iload_n (pc := 66) hx hb dX9_dueOf_66 rfl (lv_at hl 2 rfl) ?_
    refine lv_iadd (pc := 67) hx hb dX9_dueOf_67 ?_
    refine Rld_23 (pc := 68) X w h.1 dX9_dueOf_68 ?_
    have h := h.2
    refine lv_i2l (pc := 69) hx hb dX9_dueOf_69 rfl ?_
    refine lv_ladd (pc := 70) hx hb dX9_dueOf_70 ?_
    exact Rlret (pc := 71) X w ⟨rfl, h⟩ dX9_dueOf_71
  · have h := h.2 c_
    refine lv_lload (pc := 51) hx hb dX9_dueOf_51 (lv_at hl 3 rfl) ?_
    refine lv_goto (pc := 53) (tgt := 71) hx hb dX9_dueOf_53 (by decide) ?_
    exact Rlret (pc := 71) X w ⟨rfl, h⟩ dX9_dueOf_71
set_option maxHeartbeats 4000000 in
set_option maxRecDepth 100000 in
theorem bX9_dueOf_12 {l : Launch} {p : Program} {e : Env} {s : State} {m : MethodId} {args : Array Value} {below : List Frame} {meth : Method} {c : Code} {D : va_G} {g : Nat → ClassId} {ad : Nat → Nat} {u : Mm} {Q : Int64 → Prop} (X : RX p s m args meth c cX9_dueOf RX9 6 (some .long) (Cond.code yX9_dueOf cX9_dueOf 6 (some .long)) D g ad (RA ad)) : ∀ (n : Nat) (x1 : Int32) (x3 : Int32) (x4 : Int64) (H : Heap) (locs : List Loc) (ls : Array Slot), wX9_dueOf_b12 u Q n x1 x3 x4 → RWd D g ad (RA ad) s u H locs → lv_has ls 6 [(0, .ref (ad 0)), (1, .int x1), (3, .int x3), (4, .long x4)] → W p l e ({ frames := 1, cells := 0, slots := 0, locals := 25 } : Room) s m args below meth c H locs 0 0 (MQ below (va_Ql (fun r u1 => u = u1 ∧ Q r) (RB D g ad) (RA ad)) args s 0 0 (RA ad)) (F0 m 12 ls []) := by
  obtain ⟨⟨hx, hb, hml, hown, hts⟩, hr, hlocks, hK, hJ, hAA⟩ := id X
  intro n
  induction n with
  | zero =>
    intro x1 x3 x4 H locs ls h
    exact False.elim h
  | succ n ih =>
    intro x1 x3 x4 H locs ls h w hl
    unfold wX9_dueOf_b12 at h
    refine lv_iload_n (pc := 12) hx hb dX9_dueOf_12 rfl (lv_at hl 2 rfl) ?_
    refine lv_if_lt (pc := 13) (tgt := 47) hx hb dX9_dueOf_13 (by decide) (fun c_ => ?_) (fun c_ => ?_)
    · have h := h.1 c_
      exact bX9_dueOf_47 X x1 x3 x4 H locs ls h w (lv_sub hl [0, 1, 2, 3] rfl)
    · have h := h.2 c_
      refine lv_aload_n (pc := 16) hx hb dX9_dueOf_16 rfl (lv_at hl 0 rfl) ?_
      refine Rgf_0_27 (pc := 17) X w kw676 dX9_dueOf_17 ?_
      refine lv_bipush (pc := 20) (v := (12 : Int32)) hx hb dX9_dueOf_20 (by decide) ?_
      refine lv_iload_n (pc := 22) hx hb dX9_dueOf_22 rfl (lv_at hl 1 rfl) ?_
      refine lv_imul (pc := 23) hx hb dX9_dueOf_23 ?_
      refine lv_iload_n (pc := 24) hx hb dX9_dueOf_24 rfl (lv_at hl 2 rfl) ?_
      refine lv_iadd (pc := 25) hx hb dX9_dueOf_25 ?_
      refine Rld_22 (pc := 26) X w h.1 dX9_dueOf_26 ?_
      have h := h.2
      refine lv_if_ne (pc := 27) (tgt := 47) hx hb dX9_dueOf_27 (by decide) (fun c_ => ?_) (fun c_ => ?_)
      · have h := h.2 c_
        exact bX9_dueOf_47 X x1 x3 x4 H locs ls h w (lv_sub hl [0, 1, 2, 3] rfl)
      · have h := h.1 c_
        refine lv_lload (pc := 30) hx hb dX9_dueOf_30 (lv_at hl 3 rfl) ?_
        refine lv_aload_n (pc := 32) hx hb dX9_dueOf_32 rfl (lv_at hl 0 rfl) ?_
        refine lv_iload_n (pc := 33) hx hb dX9_dueOf_33 rfl (lv_at hl 1 rfl) ?_
        refine lv_iload_n (pc := 34) hx hb dX9_dueOf_34 rfl (lv_at hl 2 rfl) ?_
        refine Rcalll (rest := [.long x4]) (RrunV (pc := 35) X w (okX9_netOf l hJ h) kw670 kmX9_netOf ⟨rfl, rfl⟩ ⟨by decide, by decide⟩ (Rrv_0 X w) rfl hl.1 rfl (Nat.le_of_ble_eq_true rfl) dX9_dueOf_35) w (fun r1 u9_ H locs h w => ?_)
        obtain ⟨rfl, h⟩ := h
        refine lv_ladd (pc := 38) hx hb dX9_dueOf_38 ?_
        refine lv_topl (fun x4_2 e_ => ?_)
        have h := h x4_2 e_
        refine lv_lstore (pc := 39) (lv' := [(4, .long x4_2), (0, .ref (ad 0)), (1, .int x1), (3, .int x3)]) hx hb dX9_dueOf_39 hl (by decide) rfl (fun ls hl => ?_)
        obtain ⟨x3_3, e_⟩ : ∃ y : Int32, y = x3 + (-1 : Int32) := ⟨_, rfl⟩
        have h := h x3_3 e_
        refine lv_iinc (pc := 41) (v := x3_3) (lv' := [(3, .int x3_3), (4, .long x4_2), (0, .ref (ad 0)), (1, .int x1)]) hx hb dX9_dueOf_41 hl (k := 3) rfl (by rw [e_]; rfl) (by decide) rfl (fun ls hl => ?_)
        refine lv_goto (pc := 44) (tgt := 12) hx hb dX9_dueOf_44 (by decide) ?_
        exact ih x1 x3_3 x4_2 H locs ls h w (lv_sub hl [2, 3, 0, 1] rfl)
set_option maxHeartbeats 4000000 in
set_option maxRecDepth 100000 in
theorem okX9_dueOf (l : Launch) {D : va_G} {g : Nat → ClassId} {ad : Nat → Nat} (hJ : RJ ad) {u : Mm} {a1 : Int32} {a2 : Int32} {Q : Int64 → Prop} (h : wX9_dueOf u a1 a2 Q) : Met l yX9_dueOf (Cond.code yX9_dueOf cX9_dueOf 6 (some .long) :: gt) ({ frames := 1, cells := 0, slots := 0, locals := 25 } : Room) (RPc D g ad u [.ref (ad 0), .int a1, .int a2]) (va_Ql (fun r u1 => u = u1 ∧ Q r) (RB D g ad) (RA ad)) 0 0 (RA ad) := by
  refine Met.ofW (cc := cX9_dueOf) (maxL := 6) (ret := (some .long)) (by decide) rfl ?_
  intro p e s m args below meth c s₁ B hml hv
  refine Rentry (own := RX9) B hml hv hJ rfl (Nat.le_of_ble_eq_true rfl) (fun ls H locs X w hl => ?_)
  obtain ⟨⟨hx, hb, hml, hown, hts⟩, hr, hlocks, hK, hJ, hAA⟩ := id X
  have hl : lv_has ls 6 [(0, .ref (ad 0)), (1, .int a1), (2, .int a2)] := hl
  unfold wX9_dueOf at h
  refine lv_iload_n (pc := 0) hx hb dX9_dueOf_0 rfl (lv_at hl 2 rfl) ?_
  refine lv_iconst (pc := 1) (v := (1 : Int32)) hx hb dX9_dueOf_1 (by decide) ?_
  refine lv_isub (pc := 2) hx hb dX9_dueOf_2 ?_
  refine lv_topi (fun x3_1 e_ => ?_)
  have h := h x3_1 e_
  refine lv_istore_n (pc := 3) (lv' := [(3, .int x3_1), (0, .ref (ad 0)), (1, .int a1), (2, .int a2)]) hx hb dX9_dueOf_3 rfl hl (by decide) rfl (fun ls hl => ?_)
  refine lv_aload_n (pc := 4) hx hb dX9_dueOf_4 rfl (lv_at hl 1 rfl) ?_
  refine lv_iload_n (pc := 5) hx hb dX9_dueOf_5 rfl (lv_at hl 2 rfl) ?_
  refine lv_iload_n (pc := 6) hx hb dX9_dueOf_6 rfl (lv_at hl 3 rfl) ?_
  refine Rcalll (rest := []) (RrunV (pc := 7) X w (okX9_netOf l hJ h) kw670 kmX9_netOf ⟨rfl, rfl⟩ ⟨by decide, by decide⟩ (Rrv_0 X w) rfl hl.1 rfl (Nat.le_of_ble_eq_true rfl) dX9_dueOf_7) w (fun r2 u9_ H locs h w => ?_)
  obtain ⟨rfl, h⟩ := h
  refine lv_lstore (pc := 10) (lv' := [(4, .long r2), (3, .int x3_1), (0, .ref (ad 0)), (1, .int a1), (2, .int a2)]) hx hb dX9_dueOf_10 hl (by decide) rfl (fun ls hl => ?_)
  obtain ⟨n9, h⟩ := h
  exact bX9_dueOf_12 X n9 a1 x3_1 r2 H locs ls h w (lv_sub hl [2, 3, 1, 0] rfl)
