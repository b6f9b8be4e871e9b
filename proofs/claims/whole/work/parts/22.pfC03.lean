set_option maxHeartbeats 4000000 in
set_option maxRecDepth 100000 in
theorem bX7_apartOf_5 {l : Launch} {p : Program} {e : Env} {s : State} {m : MethodId} {args : Array Value} {below : List Frame} {meth : Method} {c : Code} {D : va_G} {g : Nat → ClassId} {ad : Nat → Nat} {u : Mm} {Q : Int64 → Prop} (X : CX p s m args meth c cX7_apartOf RX7 6 (some .long) (Cond.code yX7_apartOf cX7_apartOf 6 (some .long)) D g ad (CA ad)) : ∀ (n : Nat) (x1 : Int32) (x2 : Int32) (x3 : Int64) (x5 : Int32) (H : Heap) (locs : List Loc) (ls : Array Slot), wX7_apartOf_b5 u Q n x1 x2 x3 x5 → CWd D g ad (CA ad) s u H locs → lv_has ls 6 [(0, .ref (ad 23)), (1, .int x1), (2, .int x2), (3, .long x3), (5, .int x5)] → W p l e ({ frames := 5, cells := 0, slots := 0, locals := 135 } : Room) s m args below meth c H locs 0 0 (MQ below (va_Ql (fun r u1 => u = u1 ∧ Q r) (CB D g ad) (CA ad)) args s 0 0 (CA ad)) (F0 m 5 ls []) := by
  obtain ⟨⟨hx, hb, hml, hown, hts⟩, hr, hlocks, hK, hJ, hAA⟩ := id X
  intro n
  induction n with
  | zero =>
    intro x1 x2 x3 x5 H locs ls h
    exact False.elim h
  | succ n ih =>
    intro x1 x2 x3 x5 H locs ls h w hl
    unfold wX7_apartOf_b5 at h
    refine lv_iload (pc := 5) hx hb dX7_apartOf_5 (lv_at hl 4 rfl) ?_
    refine lv_iconst (pc := 7) (v := (4 : Int32)) hx hb dX7_apartOf_7 (by decide) ?_
    refine lv_icmp_ge (pc := 8) (tgt := 40) hx hb dX7_apartOf_8 (by decide) (fun c_ => ?_) (fun c_ => ?_)
    · have h := h.1 c_
      refine lv_lload_n (pc := 40) hx hb dX7_apartOf_40 rfl (lv_at hl 3 rfl) ?_
      refine lv_aload_n (pc := 41) hx hb dX7_apartOf_41 rfl (lv_at hl 0 rfl) ?_
      refine lv_iconst (pc := 42) (v := (-1 : Int32)) hx hb dX7_apartOf_42 (by decide) ?_
      refine lv_iload_n (pc := 43) hx hb dX7_apartOf_43 rfl (lv_at hl 1 rfl) ?_
      refine lv_iconst (pc := 44) (v := (0 : Int32)) hx hb dX7_apartOf_44 (by decide) ?_
      refine lv_iconst (pc := 45) (v := (0 : Int32)) hx hb dX7_apartOf_45 (by decide) ?_
      refine Ccalll (rest := [.long x3]) (CrunV (pc := 46) X w (okX7_valueOf l hJ h) kw229 kmX7_valueOf ⟨rfl, rfl⟩ ⟨by decide, by decide⟩ (Crv_23 X w) rfl hl.1 rfl (Nat.le_of_ble_eq_true rfl) dX7_apartOf_46) w (fun r1 u9_ H locs h w => ?_)
      obtain ⟨rfl, h⟩ := h
      refine lv_aload_n (pc := 49) hx hb dX7_apartOf_49 rfl (lv_at hl 0 rfl) ?_
      refine lv_iconst (pc := 50) (v := (-1 : Int32)) hx hb dX7_apartOf_50 (by decide) ?_
      refine lv_iload_n (pc := 51) hx hb dX7_apartOf_51 rfl (lv_at hl 1 rfl) ?_
      refine lv_iload_n (pc := 52) hx hb dX7_apartOf_52 rfl (lv_at hl 2 rfl) ?_
      refine Ccalll (rest := [.long r1, .long x3]) (CrunV (pc := 53) X w (okX7_chainOf l hJ h) kw254 kmX7_chainOf ⟨rfl, rfl⟩ ⟨by decide, by decide⟩ (Crv_23 X w) rfl hl.1 rfl (Nat.le_of_ble_eq_true rfl) dX7_apartOf_53) w (fun r2 u9_ H locs h w => ?_)
      obtain ⟨rfl, h⟩ := h
      refine Ccalll (rest := [.long x3]) (CrunS (pc := 56) X w (okX7_chained l hJ h) kw246 kmX7_chained ⟨rfl, rfl⟩ ⟨by decide, by decide⟩ rfl hl.1 rfl (Nat.le_of_ble_eq_true rfl) dX7_apartOf_56) w (fun r3 u9_ H locs h w => ?_)
      obtain ⟨rfl, h⟩ := h
      refine lv_lsub (pc := 59) hx hb dX7_apartOf_59 ?_
      exact Clret (pc := 60) X w ⟨rfl, h⟩ dX7_apartOf_60
    · have h := h.2 c_
      refine lv_lload_n (pc := 11) hx hb dX7_apartOf_11 rfl (lv_at hl 3 rfl) ?_
      refine lv_aload_n (pc := 12) hx hb dX7_apartOf_12 rfl (lv_at hl 0 rfl) ?_
      refine lv_iload (pc := 13) hx hb dX7_apartOf_13 (lv_at hl 4 rfl) ?_
      refine lv_iload_n (pc := 15) hx hb dX7_apartOf_15 rfl (lv_at hl 1 rfl) ?_
      refine lv_iconst (pc := 16) (v := (0 : Int32)) hx hb dX7_apartOf_16 (by decide) ?_
      refine lv_iconst (pc := 17) (v := (0 : Int32)) hx hb dX7_apartOf_17 (by decide) ?_
      refine Ccalll (rest := [.long x3]) (CrunV (pc := 18) X w (okX7_valueOf l hJ h) kw229 kmX7_valueOf ⟨rfl, rfl⟩ ⟨by decide, by decide⟩ (Crv_23 X w) rfl hl.1 rfl (Nat.le_of_ble_eq_true rfl) dX7_apartOf_18) w (fun r4 u9_ H locs h w => ?_)
      obtain ⟨rfl, h⟩ := h
      refine lv_aload_n (pc := 21) hx hb dX7_apartOf_21 rfl (lv_at hl 0 rfl) ?_
      refine lv_iload (pc := 22) hx hb dX7_apartOf_22 (lv_at hl 4 rfl) ?_
      refine lv_iload_n (pc := 24) hx hb dX7_apartOf_24 rfl (lv_at hl 1 rfl) ?_
      refine lv_iload_n (pc := 25) hx hb dX7_apartOf_25 rfl (lv_at hl 2 rfl) ?_
      refine Ccalll (rest := [.long r4, .long x3]) (CrunV (pc := 26) X w (okX7_chainOf l hJ h) kw254 kmX7_chainOf ⟨rfl, rfl⟩ ⟨by decide, by decide⟩ (Crv_23 X w) rfl hl.1 rfl (Nat.le_of_ble_eq_true rfl) dX7_apartOf_26) w (fun r5 u9_ H locs h w => ?_)
      obtain ⟨rfl, h⟩ := h
      refine Ccalll (rest := [.long x3]) (CrunS (pc := 29) X w (okX7_chained l hJ h) kw246 kmX7_chained ⟨rfl, rfl⟩ ⟨by decide, by decide⟩ rfl hl.1 rfl (Nat.le_of_ble_eq_true rfl) dX7_apartOf_29) w (fun r6 u9_ H locs h w => ?_)
      obtain ⟨rfl, h⟩ := h
      refine lv_ladd (pc := 32) hx hb dX7_apartOf_32 ?_
      refine lv_topl (fun x3_7 e_ => ?_)
      have h := h x3_7 e_
      refine lv_lstore_n (pc := 33) (lv' := [(3, .long x3_7), (0, .ref (ad 23)), (1, .int x1), (2, .int x2), (5, .int x5)]) hx hb dX7_apartOf_33 rfl hl (by decide) rfl (fun ls hl => ?_)
      obtain ⟨x5_8, e_⟩ : ∃ y : Int32, y = x5 + (1 : Int32) := ⟨_, rfl⟩
      have h := h x5_8 e_
      refine lv_iinc (pc := 34) (v := x5_8) (lv' := [(5, .int x5_8), (3, .long x3_7), (0, .ref (ad 23)), (1, .int x1), (2, .int x2)]) hx hb dX7_apartOf_34 hl (k := 4) rfl (by rw [e_]; rfl) (by decide) rfl (fun ls hl => ?_)
      refine lv_goto (pc := 37) (tgt := 5) hx hb dX7_apartOf_37 (by decide) ?_
      exact ih x1 x2 x3_7 x5_8 H locs ls h w (lv_sub hl [2, 3, 4, 1, 0] rfl)
set_option maxHeartbeats 4000000 in
set_option maxRecDepth 100000 in
theorem okX7_apartOf (l : Launch) {D : va_G} {g : Nat → ClassId} {ad : Nat → Nat} (hJ : CJ ad) {u : Mm} {a1 : Int32} {a2 : Int32} {Q : Int64 → Prop} (h : wX7_apartOf u a1 a2 Q) : Met l yX7_apartOf (Cond.code yX7_apartOf cX7_apartOf 6 (some .long) :: gt) ({ frames := 5, cells := 0, slots := 0, locals := 135 } : Room) (CPc D g ad u [.ref (ad 23), .int a1, .int a2]) (va_Ql (fun r u1 => u = u1 ∧ Q r) (CB D g ad) (CA ad)) 0 0 (CA ad) := by
  refine Met.ofW (cc := cX7_apartOf) (maxL := 6) (ret := (some .long)) (by decide) rfl ?_
  intro p e s m args below meth c s₁ B hml hv
  refine Centry (own := RX7) B hml hv hJ rfl (Nat.le_of_ble_eq_true rfl) (fun ls H locs X w hl => ?_)
  obtain ⟨⟨hx, hb, hml, hown, hts⟩, hr, hlocks, hK, hJ, hAA⟩ := id X
  have hl : lv_has ls 6 [(0, .ref (ad 23)), (1, .int a1), (2, .int a2)] := hl
  unfold wX7_apartOf at h
  refine lv_lconst (pc := 0) (v := (0 : Int64)) hx hb dX7_apartOf_0 (by decide) ?_
  refine lv_lstore_n (pc := 1) (lv' := [(3, .long (0 : Int64)), (0, .ref (ad 23)), (1, .int a1), (2, .int a2)]) hx hb dX7_apartOf_1 rfl hl (by decide) rfl (fun ls hl => ?_)
  refine lv_iconst (pc := 2) (v := (0 : Int32)) hx hb dX7_apartOf_2 (by decide) ?_
  refine lv_istore (pc := 3) (lv' := [(5, .int (0 : Int32)), (3, .long (0 : Int64)), (0, .ref (ad 23)), (1, .int a1), (2, .int a2)]) hx hb dX7_apartOf_3 hl (by decide) rfl (fun ls hl => ?_)
  obtain ⟨n9, h⟩ := h
  exact bX7_apartOf_5 X n9 a1 a2 (0 : Int64) (0 : Int32) H locs ls h w (lv_sub hl [2, 3, 4, 1, 0] rfl)
set_option maxHeartbeats 4000000 in
set_option maxRecDepth 100000 in
theorem okX8_isGrade (l : Launch) {D : va_G} {g : Nat → ClassId} {ad : Nat → Nat} (hJ : CJ ad) {u : Mm} {a0 : Int32} {Q : Int32 → Prop} (h : wX8_isGrade a0 Q) : Met l yX8_isGrade (Cond.code yX8_isGrade cX8_isGrade 1 (some .boolean) :: gt) ({ frames := 1, cells := 0, slots := 0, locals := 22 } : Room) (CPc D g ad u [.int a0]) (va_Qi (fun r u1 => bz r ∧ (u = u1 ∧ Q r)) (CB D g ad) (CA ad)) 0 0 (CA ad) := by
  refine Met.ofW (cc := cX8_isGrade) (maxL := 1) (ret := (some .boolean)) (by decide) rfl ?_
  intro p e s m args below meth c s₁ B hml hv
  refine Centry (own := RX8) B hml hv hJ rfl (Nat.le_of_ble_eq_true rfl) (fun ls H locs X w hl => ?_)
  obtain ⟨⟨hx, hb, hml, hown, hts⟩, hr, hlocks, hK, hJ, hAA⟩ := id X
  have hl : lv_has ls 1 [(0, .int a0)] := hl
  unfold wX8_isGrade at h
  refine lv_iload_n (pc := 0) hx hb dX8_isGrade_0 rfl (lv_at hl 0 rfl) ?_
  refine lv_iconst (pc := 1) (v := (1 : Int32)) hx hb dX8_isGrade_1 (by decide) ?_
  refine lv_bipush (pc := 2) (v := (9 : Int32)) hx hb dX8_isGrade_2 (by decide) ?_
  refine Ccalli (rest := []) (CrunS (pc := 4) X w (okX8_within l hJ h) kw258 kmX8_within ⟨rfl, rfl⟩ ⟨by decide, by decide⟩ rfl hl.1 rfl (Nat.le_of_ble_eq_true rfl) dX8_isGrade_4) w (fun r1 u9_ H locs h w => ?_)
  obtain ⟨hz_r1, h⟩ := h
  obtain ⟨rfl, h⟩ := h
  exact Czret (pc := 7) X w hz_r1 ⟨rfl, h⟩ dX8_isGrade_7
set_option maxHeartbeats 4000000 in
set_option maxRecDepth 100000 in
theorem okX8_trust (l : Launch) {D : va_G} {g : Nat → ClassId} {ad : Nat → Nat} (hJ : CJ ad) {u : Mm} {a1 : Int32} {a2 : Int32} {Q : Int32 → Mm → Prop} (h : wX8_trust u a1 a2 Q) : Met l yX8_trust (Cond.code yX8_trust cX8_trust 4 (some .int) :: gt) ({ frames := 2, cells := 0, slots := 0, locals := 42 } : Room) (CPc D g ad u [.ref (ad 0), .int a1, .int a2]) (va_Qi Q (CB D g ad) (CA ad)) 0 0 (CA ad) := by
  refine Met.ofW (cc := cX8_trust) (maxL := 4) (ret := (some .int)) (by decide) rfl ?_
  intro p e s m args below meth c s₁ B hml hv
  refine Centry (own := RX8) B hml hv hJ rfl (Nat.le_of_ble_eq_true rfl) (fun ls H locs X w hl => ?_)
  obtain ⟨⟨hx, hb, hml, hown, hts⟩, hr, hlocks, hK, hJ, hAA⟩ := id X
  have hl : lv_has ls 4 [(0, .ref (ad 0)), (1, .int a1), (2, .int a2)] := hl
  unfold wX8_trust at h
  refine lv_iload_n (pc := 0) hx hb dX8_trust_0 rfl (lv_at hl 1 rfl) ?_
  refine lv_bipush (pc := 1) (v := (10 : Int32)) hx hb dX8_trust_1 (by decide) ?_
  refine Ccalli (rest := []) (CrunS (pc := 3) X w (okX8_below l hJ h) kw23 kmX8_below ⟨rfl, rfl⟩ ⟨by decide, by decide⟩ rfl hl.1 rfl (Nat.le_of_ble_eq_true rfl) dX8_trust_3) w (fun r1 u9_ H locs h w => ?_)
  obtain ⟨hz_r1, h⟩ := h
  obtain ⟨rfl, h⟩ := h
  refine lv_if_eq (pc := 6) (tgt := 16) hx hb dX8_trust_6 (by decide) (fun c_ => ?_) (fun c_ => ?_)
  · have h := h.1 c_
    refine lv_bipush (pc := 16) (v := (-2 : Int32)) hx hb dX8_trust_16 (by decide) ?_
    exact Ciret (pc := 18) X w h dX8_trust_18
  · have h := h.2 c_
    refine lv_iload_n (pc := 9) hx hb dX8_trust_9 rfl (lv_at hl 2 rfl) ?_
    refine Ccalli (rest := []) (CrunS (pc := 10) X w (okX8_isGrade l hJ h) kw259 kmX8_isGrade ⟨rfl, rfl⟩ ⟨by decide, by decide⟩ rfl hl.1 rfl (Nat.le_of_ble_eq_true rfl) dX8_trust_10) w (fun r2 u9_ H locs h w => ?_)
    obtain ⟨hz_r2, h⟩ := h
    obtain ⟨rfl, h⟩ := h
    refine lv_if_ne (pc := 13) (tgt := 19) hx hb dX8_trust_13 (by decide) (fun c_ => ?_) (fun c_ => ?_)
    · have h := h.2 c_
      refine lv_aload_n (pc := 19) hx hb dX8_trust_19 rfl (lv_at hl 0 rfl) ?_
      refine Cgf_0_0 (pc := 20) X w kw262 dX8_trust_20 ?_
      refine Cgf_1_0 (pc := 23) X w kw263 dX8_trust_23 ?_
      refine lv_iload_n (pc := 26) hx hb dX8_trust_26 rfl (lv_at hl 1 rfl) ?_
      refine Cld_2 (pc := 27) X w h.1 dX8_trust_27 ?_
      have h := h.2
      refine lv_topi (fun x3_3 e_ => ?_)
      have h := h x3_3 e_
      refine lv_istore_n (pc := 28) (lv' := [(3, .int x3_3), (0, .ref (ad 0)), (1, .int a1), (2, .int a2)]) hx hb dX8_trust_28 rfl hl (by decide) rfl (fun ls hl => ?_)
      refine lv_aload_n (pc := 29) hx hb dX8_trust_29 rfl (lv_at hl 1 rfl) ?_
      refine Cgf_0_0 (pc := 30) X w kw262 dX8_trust_30 ?_
      refine Cgf_1_0 (pc := 33) X w kw263 dX8_trust_33 ?_
      refine lv_iload_n (pc := 36) hx hb dX8_trust_36 rfl (lv_at hl 2 rfl) ?_
      refine lv_iload_n (pc := 37) hx hb dX8_trust_37 rfl (lv_at hl 3 rfl) ?_
      refine Cst_2 (pc := 38) X w h.1 dX8_trust_38 (fun H locs w => ?_)
      have h := h.2
      obtain ⟨u4, e_⟩ : ∃ y : Mm, y = s32 u 2 a1.toNatClampNeg a2 := ⟨_, rfl⟩
      rw [← e_] at w
      have h := h u4 e_
      refine lv_aload_n (pc := 39) hx hb dX8_trust_39 rfl (lv_at hl 1 rfl) ?_
      refine Cgf_0_1 (pc := 40) X w kw264 dX8_trust_40 ?_
      refine Ccallv (rest := []) (CrunV (pc := 43) X w (okX6_forgetAll l hJ h) kw265 kmX6_forgetAll ⟨rfl, rfl⟩ ⟨by decide, by decide⟩ (Crv_10 X w) rfl hl.1 rfl (Nat.le_of_ble_eq_true rfl) dX8_trust_43) w (fun u6 H locs h w => ?_)
      refine lv_iload_n (pc := 46) hx hb dX8_trust_46 rfl (lv_at hl 0 rfl) ?_
      exact Ciret (pc := 47) X w h dX8_trust_47
    · have h := h.1 c_
      refine lv_bipush (pc := 16) (v := (-2 : Int32)) hx hb dX8_trust_16 (by decide) ?_
      exact Ciret (pc := 18) X w h dX8_trust_18
set_option maxHeartbeats 4000000 in
set_option maxRecDepth 100000 in
theorem okX8_code (l : Launch) {D : va_G} {g : Nat → ClassId} {ad : Nat → Nat} (hJ : CJ ad) {u : Mm} {a1 : Int32} {a2 : Int32} {a3 : Int32} {a4 : Int32} {Q : Int32 → Prop} (h : wX8_code a1 a2 a3 a4 Q) : Met l yX8_code (Cond.code yX8_code cX8_code 5 (some .int) :: gt) ({ frames := 2, cells := 0, slots := 0, locals := 43 } : Room) (CPc D g ad u [.ref (ad 0), .int a1, .int a2, .int a3, .int a4]) (va_Qi (fun r u1 => u = u1 ∧ Q r) (CB D g ad) (CA ad)) 0 0 (CA ad) := by
  refine Met.ofW (cc := cX8_code) (maxL := 5) (ret := (some .int)) (by decide) rfl ?_
  intro p e s m args below meth c s₁ B hml hv
  refine Centry (own := RX8) B hml hv hJ rfl (Nat.le_of_ble_eq_true rfl) (fun ls H locs X w hl => ?_)
  obtain ⟨⟨hx, hb, hml, hown, hts⟩, hr, hlocks, hK, hJ, hAA⟩ := id X
  have hl : lv_has ls 5 [(0, .ref (ad 0)), (1, .int a1), (2, .int a2), (3, .int a3), (4, .int a4)] := hl
  unfold wX8_code at h
  refine lv_iload_n (pc := 0) hx hb dX8_code_0 rfl (lv_at hl 1 rfl) ?_
  refine lv_iload_n (pc := 1) hx hb dX8_code_1 rfl (lv_at hl 2 rfl) ?_
  refine lv_iload_n (pc := 2) hx hb dX8_code_2 rfl (lv_at hl 3 rfl) ?_
  refine Ccalli (rest := []) (CrunS (pc := 3) X w (okX8_isLine l hJ h) kw269 kmX8_isLine ⟨rfl, rfl⟩ ⟨by decide, by decide⟩ rfl hl.1 rfl (Nat.le_of_ble_eq_true rfl) dX8_code_3) w (fun r1 u9_ H locs h w => ?_)
  obtain ⟨hz_r1, h⟩ := h
  obtain ⟨rfl, h⟩ := h
  refine lv_if_eq (pc := 6) (tgt := 19) hx hb dX8_code_6 (by decide) (fun c_ => ?_) (fun c_ => ?_)
  · have h := h.1 c_
    refine lv_bipush (pc := 19) (v := (-2 : Int32)) hx hb dX8_code_19 (by decide) ?_
    exact Ciret (pc := 21) X w ⟨rfl, h⟩ dX8_code_21
  · have h := h.2 c_
    refine lv_iload (pc := 9) hx hb dX8_code_9 (lv_at hl 4 rfl) ?_
    refine lv_bipush (pc := 11) (v := (12 : Int32)) hx hb dX8_code_11 (by decide) ?_
    refine Ccalli (rest := []) (CrunS (pc := 13) X w (okX8_below l hJ h) kw23 kmX8_below ⟨rfl, rfl⟩ ⟨by decide, by decide⟩ rfl hl.1 rfl (Nat.le_of_ble_eq_true rfl) dX8_code_13) w (fun r2 u9_ H locs h w => ?_)
    obtain ⟨hz_r2, h⟩ := h
    obtain ⟨rfl, h⟩ := h
    refine lv_if_ne (pc := 16) (tgt := 22) hx hb dX8_code_16 (by decide) (fun c_ => ?_) (fun c_ => ?_)
    · have h := h.2 c_
      refine lv_iload_n (pc := 22) hx hb dX8_code_22 rfl (lv_at hl 1 rfl) ?_
      refine lv_iload_n (pc := 23) hx hb dX8_code_23 rfl (lv_at hl 2 rfl) ?_
      refine lv_iload_n (pc := 24) hx hb dX8_code_24 rfl (lv_at hl 3 rfl) ?_
      refine lv_iload (pc := 25) hx hb dX8_code_25 (lv_at hl 4 rfl) ?_
      refine Ccalli (rest := []) (CrunS (pc := 27) X w (okX8_cellCode l hJ h) kw270 kmX8_cellCode ⟨rfl, rfl⟩ ⟨by decide, by decide⟩ rfl hl.1 rfl (Nat.le_of_ble_eq_true rfl) dX8_code_27) w (fun r3 u9_ H locs h w => ?_)
      obtain ⟨rfl, h⟩ := h
      exact Ciret (pc := 30) X w ⟨rfl, h⟩ dX8_code_30
    · have h := h.1 c_
      refine lv_bipush (pc := 19) (v := (-2 : Int32)) hx hb dX8_code_19 (by decide) ?_
      exact Ciret (pc := 21) X w ⟨rfl, h⟩ dX8_code_21
set_option maxHeartbeats 4000000 in
set_option maxRecDepth 100000 in
theorem okX8_annual (l : Launch) {D : va_G} {g : Nat → ClassId} {ad : Nat → Nat} (hJ : CJ ad) {u : Mm} {a1 : Int32} {a2 : Int32} {a3 : Int32} {a4 : Int32} {Q : Int32 → Prop} (h : wX8_annual a1 a2 a3 a4 Q) : Met l yX8_annual (Cond.code yX8_annual cX8_annual 5 (some .int) :: gt) ({ frames := 2, cells := 0, slots := 0, locals := 43 } : Room) (CPc D g ad u [.ref (ad 0), .int a1, .int a2, .int a3, .int a4]) (va_Qi (fun r u1 => u = u1 ∧ Q r) (CB D g ad) (CA ad)) 0 0 (CA ad) := by
  refine Met.ofW (cc := cX8_annual) (maxL := 5) (ret := (some .int)) (by decide) rfl ?_
  intro p e s m args below meth c s₁ B hml hv
  refine Centry (own := RX8) B hml hv hJ rfl (Nat.le_of_ble_eq_true rfl) (fun ls H locs X w hl => ?_)
  obtain ⟨⟨hx, hb, hml, hown, hts⟩, hr, hlocks, hK, hJ, hAA⟩ := id X
  have hl : lv_has ls 5 [(0, .ref (ad 0)), (1, .int a1), (2, .int a2), (3, .int a3), (4, .int a4)] := hl
  unfold wX8_annual at h
  refine lv_iload_n (pc := 0) hx hb dX8_annual_0 rfl (lv_at hl 1 rfl) ?_
  refine lv_iload_n (pc := 1) hx hb dX8_annual_1 rfl (lv_at hl 2 rfl) ?_
  refine lv_iload_n (pc := 2) hx hb dX8_annual_2 rfl (lv_at hl 3 rfl) ?_
  refine Ccalli (rest := []) (CrunS (pc := 3) X w (okX8_isLine l hJ h) kw269 kmX8_isLine ⟨rfl, rfl⟩ ⟨by decide, by decide⟩ rfl hl.1 rfl (Nat.le_of_ble_eq_true rfl) dX8_annual_3) w (fun r1 u9_ H locs h w => ?_)
  obtain ⟨hz_r1, h⟩ := h
  obtain ⟨rfl, h⟩ := h
  refine lv_if_eq (pc := 6) (tgt := 18) hx hb dX8_annual_6 (by decide) (fun c_ => ?_) (fun c_ => ?_)
  · have h := h.1 c_
    refine lv_bipush (pc := 18) (v := (-2 : Int32)) hx hb dX8_annual_18 (by decide) ?_
    exact Ciret (pc := 20) X w ⟨rfl, h⟩ dX8_annual_20
  · have h := h.2 c_
    refine lv_iload (pc := 9) hx hb dX8_annual_9 (lv_at hl 4 rfl) ?_
    refine lv_iconst (pc := 11) (v := (3 : Int32)) hx hb dX8_annual_11 (by decide) ?_
    refine Ccalli (rest := []) (CrunS (pc := 12) X w (okX8_below l hJ h) kw23 kmX8_below ⟨rfl, rfl⟩ ⟨by decide, by decide⟩ rfl hl.1 rfl (Nat.le_of_ble_eq_true rfl) dX8_annual_12) w (fun r2 u9_ H locs h w => ?_)
    obtain ⟨hz_r2, h⟩ := h
    obtain ⟨rfl, h⟩ := h
    refine lv_if_ne (pc := 15) (tgt := 21) hx hb dX8_annual_15 (by decide) (fun c_ => ?_) (fun c_ => ?_)
    · have h := h.2 c_
      refine lv_iload_n (pc := 21) hx hb dX8_annual_21 rfl (lv_at hl 1 rfl) ?_
      refine lv_iload_n (pc := 22) hx hb dX8_annual_22 rfl (lv_at hl 2 rfl) ?_
      refine lv_iload_n (pc := 23) hx hb dX8_annual_23 rfl (lv_at hl 3 rfl) ?_
      refine lv_iload (pc := 24) hx hb dX8_annual_24 (lv_at hl 4 rfl) ?_
      refine Ccalli (rest := []) (CrunS (pc := 26) X w (okX8_annualCode l hJ h) kw271 kmX8_annualCode ⟨rfl, rfl⟩ ⟨by decide, by decide⟩ rfl hl.1 rfl (Nat.le_of_ble_eq_true rfl) dX8_annual_26) w (fun r3 u9_ H locs h w => ?_)
      obtain ⟨rfl, h⟩ := h
      exact Ciret (pc := 29) X w ⟨rfl, h⟩ dX8_annual_29
    · have h := h.1 c_
      refine lv_bipush (pc := 18) (v := (-2 : Int32)) hx hb dX8_annual_18 (by decide) ?_
      exact Ciret (pc := 20) X w ⟨rfl, h⟩ dX8_annual_20
set_option maxHeartbeats 4000000 in
set_option maxRecDepth 100000 in
theorem okX8_landOf (l : Launch) {D : va_G} {g : Nat → ClassId} {ad : Nat → Nat} (hJ : CJ ad) {u : Mm} {a0 : Int32} {Q : Int32 → Prop} (h : wX8_landOf a0 Q) : Met l yX8_landOf (Cond.code yX8_landOf cX8_landOf 1 (some .int) :: gt) ({ frames := 2, cells := 0, slots := 0, locals := 40 } : Room) (CPc D g ad u [.int a0]) (va_Qi (fun r u1 => u = u1 ∧ Q r) (CB D g ad) (CA ad)) 0 0 (CA ad) := by
  refine Met.ofW (cc := cX8_landOf) (maxL := 1) (ret := (some .int)) (by decide) rfl ?_
  intro p e s m args below meth c s₁ B hml hv
  refine Centry (own := RX8) B hml hv hJ rfl (Nat.le_of_ble_eq_true rfl) (fun ls H locs X w hl => ?_)
  obtain ⟨⟨hx, hb, hml, hown, hts⟩, hr, hlocks, hK, hJ, hAA⟩ := id X
  have hl : lv_has ls 1 [(0, .int a0)] := hl
  unfold wX8_landOf at h
  refine lv_iload_n (pc := 0) hx hb dX8_landOf_0 rfl (lv_at hl 0 rfl) ?_
  refine Ccalli (rest := []) (CrunS (pc := 1) X w (okX8_lineOfCode l hJ h) kw272 kmX8_lineOfCode ⟨rfl, rfl⟩ ⟨by decide, by decide⟩ rfl hl.1 rfl (Nat.le_of_ble_eq_true rfl) dX8_landOf_1) w (fun r1 u9_ H locs h w => ?_)
  obtain ⟨rfl, h⟩ := h
  refine lv_bipush (pc := 4) (v := (24 : Int32)) hx hb dX8_landOf_4 (by decide) ?_
  refine lv_idiv (pc := 6) hx hb dX8_landOf_6 (by decide) ?_
  exact Ciret (pc := 7) X w ⟨rfl, h⟩ dX8_landOf_7
set_option maxHeartbeats 4000000 in
set_option maxRecDepth 100000 in
theorem okX8_productOf (l : Launch) {D : va_G} {g : Nat → ClassId} {ad : Nat → Nat} (hJ : CJ ad) {u : Mm} {a0 : Int32} {Q : Int32 → Prop} (h : wX8_productOf a0 Q) : Met l yX8_productOf (Cond.code yX8_productOf cX8_productOf 1 (some .int) :: gt) ({ frames := 2, cells := 0, slots := 0, locals := 40 } : Room) (CPc D g ad u [.int a0]) (va_Qi (fun r u1 => u = u1 ∧ Q r) (CB D g ad) (CA ad)) 0 0 (CA ad) := by
  refine Met.ofW (cc := cX8_productOf) (maxL := 1) (ret := (some .int)) (by decide) rfl ?_
  intro p e s m args below meth c s₁ B hml hv
  refine Centry (own := RX8) B hml hv hJ rfl (Nat.le_of_ble_eq_true rfl) (fun ls H locs X w hl => ?_)
  obtain ⟨⟨hx, hb, hml, hown, hts⟩, hr, hlocks, hK, hJ, hAA⟩ := id X
  have hl : lv_has ls 1 [(0, .int a0)] := hl
  unfold wX8_productOf at h
  refine lv_iload_n (pc := 0) hx hb dX8_productOf_0 rfl (lv_at hl 0 rfl) ?_
  refine Ccalli (rest := []) (CrunS (pc := 1) X w (okX8_lineOfCode l hJ h) kw272 kmX8_lineOfCode ⟨rfl, rfl⟩ ⟨by decide, by decide⟩ rfl hl.1 rfl (Nat.le_of_ble_eq_true rfl) dX8_productOf_1) w (fun r1 u9_ H locs h w => ?_)
  obtain ⟨rfl, h⟩ := h
  refine lv_bipush (pc := 4) (v := (6 : Int32)) hx hb dX8_productOf_4 (by decide) ?_
  refine lv_idiv (pc := 6) hx hb dX8_productOf_6 (by decide) ?_
  refine lv_iconst (pc := 7) (v := (4 : Int32)) hx hb dX8_productOf_7 (by decide) ?_
  refine lv_irem (pc := 8) hx hb dX8_productOf_8 (by decide) ?_
  exact Ciret (pc := 9) X w ⟨rfl, h⟩ dX8_productOf_9
set_option maxHeartbeats 4000000 in
set_option maxRecDepth 100000 in
theorem okX8_columnOf (l : Launch) {D : va_G} {g : Nat → ClassId} {ad : Nat → Nat} (hJ : CJ ad) {u : Mm} {a0 : Int32} {Q : Int32 → Prop} (h : wX8_columnOf a0 Q) : Met l yX8_columnOf (Cond.code yX8_columnOf cX8_columnOf 1 (some .int) :: gt) ({ frames := 2, cells := 0, slots := 0, locals := 40 } : Room) (CPc D g ad u [.int a0]) (va_Qi (fun r u1 => u = u1 ∧ Q r) (CB D g ad) (CA ad)) 0 0 (CA ad) := by
  refine Met.ofW (cc := cX8_columnOf) (maxL := 1) (ret := (some .int)) (by decide) rfl ?_
  intro p e s m args below meth c s₁ B hml hv
  refine Centry (own := RX8) B hml hv hJ rfl (Nat.le_of_ble_eq_true rfl) (fun ls H locs X w hl => ?_)
  obtain ⟨⟨hx, hb, hml, hown, hts⟩, hr, hlocks, hK, hJ, hAA⟩ := id X
  have hl : lv_has ls 1 [(0, .int a0)] := hl
  unfold wX8_columnOf at h
  refine lv_iload_n (pc := 0) hx hb dX8_columnOf_0 rfl (lv_at hl 0 rfl) ?_
  refine Ccalli (rest := []) (CrunS (pc := 1) X w (okX8_lineOfCode l hJ h) kw272 kmX8_lineOfCode ⟨rfl, rfl⟩ ⟨by decide, by decide⟩ rfl hl.1 rfl (Nat.le_of_ble_eq_true rfl) dX8_columnOf_1) w (fun r1 u9_ H locs h w => ?_)
  obtain ⟨rfl, h⟩ := h
  refine lv_bipush (pc := 4) (v := (6 : Int32)) hx hb dX8_columnOf_4 (by decide) ?_
  refine lv_irem (pc := 6) hx hb dX8_columnOf_6 (by decide) ?_
  exact Ciret (pc := 7) X w ⟨rfl, h⟩ dX8_columnOf_7
set_option maxHeartbeats 4000000 in
set_option maxRecDepth 100000 in
theorem okX8_decode (l : Launch) {D : va_G} {g : Nat → ClassId} {ad : Nat → Nat} (hJ : CJ ad) {u : Mm} {a1 : Int32} {a2 : Int32} {Q : Int32 → Prop} (h : wX8_decode a1 a2 Q) : Met l yX8_decode (Cond.code yX8_decode cX8_decode 3 (some .int) :: gt) ({ frames := 3, cells := 0, slots := 0, locals := 60 } : Room) (CPc D g ad u [.ref (ad 0), .int a1, .int a2]) (va_Qi (fun r u1 => u = u1 ∧ Q r) (CB D g ad) (CA ad)) 0 0 (CA ad) := by
  refine Met.ofW (cc := cX8_decode) (maxL := 3) (ret := (some .int)) (by decide) rfl ?_
  intro p e s m args below meth c s₁ B hml hv
  refine Centry (own := RX8) B hml hv hJ rfl (Nat.le_of_ble_eq_true rfl) (fun ls H locs X w hl => ?_)
  obtain ⟨⟨hx, hb, hml, hown, hts⟩, hr, hlocks, hK, hJ, hAA⟩ := id X
  have hl : lv_has ls 3 [(0, .ref (ad 0)), (1, .int a1), (2, .int a2)] := hl
  unfold wX8_decode at h
  refine lv_iload_n (pc := 0) hx hb dX8_decode_0 rfl (lv_at hl 1 rfl) ?_
  refine lv_sipush (pc := 1) (v := (720 : Int32)) hx hb dX8_decode_1 (by decide) ?_
  refine Ccalli (rest := []) (CrunS (pc := 4) X w (okX8_below l hJ h) kw23 kmX8_below ⟨rfl, rfl⟩ ⟨by decide, by decide⟩ rfl hl.1 rfl (Nat.le_of_ble_eq_true rfl) dX8_decode_4) w (fun r1 u9_ H locs h w => ?_)
  obtain ⟨hz_r1, h⟩ := h
  obtain ⟨rfl, h⟩ := h
  refine lv_if_ne (pc := 7) (tgt := 13) hx hb dX8_decode_7 (by decide) (fun c_ => ?_) (fun c_ => ?_)
  · have h := h.2 c_
    refine lv_iload_n (pc := 13) hx hb dX8_decode_13 rfl (lv_at hl 2 rfl) ?_
    rcases sw_in a2 4 (by decide) with hs | ⟨js, hjs, hs⟩
    · have h := h.2.2.2.2.2 hs
      refine lv_tableOut (pc := 14) (tgt := 81) hx hb dX8_decode_14 hs (by decide) ?_
      refine lv_bipush (pc := 81) (v := (-2 : Int32)) hx hb dX8_decode_81 (by decide) ?_
      exact Ciret (pc := 83) X w ⟨rfl, h⟩ dX8_decode_83
    · rcases (show js = 0 ∨ js = 1 ∨ js = 2 ∨ js = 3 ∨ js = 4 by omega) with rfl | rfl | rfl | rfl | rfl
      · have h := h.1 hs
        refine lv_topi (fun z_ ez_ => ?_)
        rw [hs] at ez_
        subst ez_
        refine lv_tableIn (pc := 14) (tgt := 48) (off := 34) hx hb dX8_decode_14 (by decide) (by decide) (by decide +kernel) (by decide) ?_
        refine lv_iload_n (pc := 48) hx hb dX8_decode_48 rfl (lv_at hl 1 rfl) ?_
        refine Ccalli (rest := []) (CrunS (pc := 49) X w (okX8_landOf l hJ h) kw273 kmX8_landOf ⟨rfl, rfl⟩ ⟨by decide, by decide⟩ rfl hl.1 rfl (Nat.le_of_ble_eq_true rfl) dX8_decode_49) w (fun r2 u9_ H locs h w => ?_)
        obtain ⟨rfl, h⟩ := h
        exact Ciret (pc := 52) X w ⟨rfl, h⟩ dX8_decode_52
      · have h := h.2.1 hs
        refine lv_topi (fun z_ ez_ => ?_)
        rw [hs] at ez_
        subst ez_
        refine lv_tableIn (pc := 14) (tgt := 53) (off := 39) hx hb dX8_decode_14 (by decide) (by decide) (by decide +kernel) (by decide) ?_
        refine lv_iload_n (pc := 53) hx hb dX8_decode_53 rfl (lv_at hl 1 rfl) ?_
        refine Ccalli (rest := []) (CrunS (pc := 54) X w (okX8_productOf l hJ h) kw276 kmX8_productOf ⟨rfl, rfl⟩ ⟨by decide, by decide⟩ rfl hl.1 rfl (Nat.le_of_ble_eq_true rfl) dX8_decode_54) w (fun r3 u9_ H locs h w => ?_)
        obtain ⟨rfl, h⟩ := h
        exact Ciret (pc := 57) X w ⟨rfl, h⟩ dX8_decode_57
      · have h := h.2.2.1 hs
        refine lv_topi (fun z_ ez_ => ?_)
        rw [hs] at ez_
        subst ez_
        refine lv_tableIn (pc := 14) (tgt := 58) (off := 44) hx hb dX8_decode_14 (by decide) (by decide) (by decide +kernel) (by decide) ?_
        refine lv_iload_n (pc := 58) hx hb dX8_decode_58 rfl (lv_at hl 1 rfl) ?_
        refine Ccalli (rest := []) (CrunS (pc := 59) X w (okX8_columnOf l hJ h) kw279 kmX8_columnOf ⟨rfl, rfl⟩ ⟨by decide, by decide⟩ rfl hl.1 rfl (Nat.le_of_ble_eq_true rfl) dX8_decode_59) w (fun r4 u9_ H locs h w => ?_)
        obtain ⟨rfl, h⟩ := h
        exact Ciret (pc := 62) X w ⟨rfl, h⟩ dX8_decode_62
      · have h := h.2.2.2.1 hs
        refine lv_topi (fun z_ ez_ => ?_)
        rw [hs] at ez_
        subst ez_
        refine lv_tableIn (pc := 14) (tgt := 63) (off := 49) hx hb dX8_decode_14 (by decide) (by decide) (by decide +kernel) (by decide) ?_
        refine lv_iload_n (pc := 63) hx hb dX8_decode_63 rfl (lv_at hl 1 rfl) ?_
        refine Ccalli (rest := []) (CrunS (pc := 64) X w (okX8_periodOf l hJ h) kw188 kmX8_periodOf ⟨rfl, rfl⟩ ⟨by decide, by decide⟩ rfl hl.1 rfl (Nat.le_of_ble_eq_true rfl) dX8_decode_64) w (fun r5 u9_ H locs h w => ?_)
        obtain ⟨rfl, h⟩ := h
        exact Ciret (pc := 67) X w ⟨rfl, h⟩ dX8_decode_67
      · have h := h.2.2.2.2.1 hs
        refine lv_topi (fun z_ ez_ => ?_)
        rw [hs] at ez_
        subst ez_
        refine lv_tableIn (pc := 14) (tgt := 68) (off := 54) hx hb dX8_decode_14 (by decide) (by decide) (by decide +kernel) (by decide) ?_
        refine lv_iload_n (pc := 68) hx hb dX8_decode_68 rfl (lv_at hl 1 rfl) ?_
        refine Ccalli (rest := []) (CrunS (pc := 69) X w (okX8_isAnnual l hJ h) kw185 kmX8_isAnnual ⟨rfl, rfl⟩ ⟨by decide, by decide⟩ rfl hl.1 rfl (Nat.le_of_ble_eq_true rfl) dX8_decode_69) w (fun r6 u9_ H locs h w => ?_)
        obtain ⟨hz_r6, h⟩ := h
        obtain ⟨rfl, h⟩ := h
        refine lv_if_eq (pc := 72) (tgt := 79) hx hb dX8_decode_72 (by decide) (fun c_ => ?_) (fun c_ => ?_)
        · have h := h.1 c_
          refine lv_iconst (pc := 79) (v := (0 : Int32)) hx hb dX8_decode_79 (by decide) ?_
          exact Ciret (pc := 80) X w ⟨rfl, h⟩ dX8_decode_80
        · have h := h.2 c_
          refine lv_iconst (pc := 75) (v := (1 : Int32)) hx hb dX8_decode_75 (by decide) ?_
          refine lv_goto (pc := 76) (tgt := 80) hx hb dX8_decode_76 (by decide) ?_
          exact Ciret (pc := 80) X w ⟨rfl, h⟩ dX8_decode_80
  · have h := h.1 c_
    refine lv_bipush (pc := 10) (v := (-2 : Int32)) hx hb dX8_decode_10 (by decide) ?_
    exact Ciret (pc := 12) X w ⟨rfl, h⟩ dX8_decode_12
set_option maxHeartbeats 4000000 in
set_option maxRecDepth 100000 in
theorem okX8_row (l : Launch) {D : va_G} {g : Nat → ClassId} {ad : Nat → Nat} (hJ : CJ ad) {u : Mm} {a1 : Int32} {a2 : Int32} {a3 : Int32} {a4 : Int32} {Q : Int32 → Mm → Prop} (h : wX8_row u a1 a2 a3 a4 Q) : Met l yX8_row (Cond.code yX8_row cX8_row 5 (some .int) :: gt) ({ frames := 3, cells := 0, slots := 0, locals := 60 } : Room) (CPc D g ad u [.ref (ad 0), .int a1, .int a2, .int a3, .int a4]) (va_Qi Q (CB D g ad) (CA ad)) 0 0 (CA ad) := by
  refine Met.ofW (cc := cX8_row) (maxL := 5) (ret := (some .int)) (by decide) rfl ?_
  intro p e s m args below meth c s₁ B hml hv
  refine Centry (own := RX8) B hml hv hJ rfl (Nat.le_of_ble_eq_true rfl) (fun ls H locs X w hl => ?_)
  obtain ⟨⟨hx, hb, hml, hown, hts⟩, hr, hlocks, hK, hJ, hAA⟩ := id X
  have hl : lv_has ls 5 [(0, .ref (ad 0)), (1, .int a1), (2, .int a2), (3, .int a3), (4, .int a4)] := hl
  unfold wX8_row at h
  refine lv_iload_n (pc := 0) hx hb dX8_row_0 rfl (lv_at hl 1 rfl) ?_
  refine lv_bipush (pc := 1) (v := (10 : Int32)) hx hb dX8_row_1 (by decide) ?_
  refine Ccalli (rest := []) (CrunS (pc := 3) X w (okX8_below l hJ h) kw23 kmX8_below ⟨rfl, rfl⟩ ⟨by decide, by decide⟩ rfl hl.1 rfl (Nat.le_of_ble_eq_true rfl) dX8_row_3) w (fun r1 u9_ H locs h w => ?_)
  obtain ⟨hz_r1, h⟩ := h
  obtain ⟨rfl, h⟩ := h
  refine lv_if_eq (pc := 6) (tgt := 39) hx hb dX8_row_6 (by decide) (fun c_ => ?_) (fun c_ => ?_)
  · have h := h.1 c_
    refine lv_bipush (pc := 39) (v := (-2 : Int32)) hx hb dX8_row_39 (by decide) ?_
    exact Ciret (pc := 41) X w h dX8_row_41
  · have h := h.2 c_
    refine lv_iload_n (pc := 9) hx hb dX8_row_9 rfl (lv_at hl 2 rfl) ?_
    refine lv_sipush (pc := 10) (v := (720 : Int32)) hx hb dX8_row_10 (by decide) ?_
    refine Ccalli (rest := []) (CrunS (pc := 13) X w (okX8_below l hJ h) kw23 kmX8_below ⟨rfl, rfl⟩ ⟨by decide, by decide⟩ rfl hl.1 rfl (Nat.le_of_ble_eq_true rfl) dX8_row_13) w (fun r2 u9_ H locs h w => ?_)
    obtain ⟨hz_r2, h⟩ := h
    obtain ⟨rfl, h⟩ := h
    refine lv_if_eq (pc := 16) (tgt := 39) hx hb dX8_row_16 (by decide) (fun c_ => ?_) (fun c_ => ?_)
    · have h := h.1 c_
      refine lv_bipush (pc := 39) (v := (-2 : Int32)) hx hb dX8_row_39 (by decide) ?_
      exact Ciret (pc := 41) X w h dX8_row_41
    · have h := h.2 c_
      refine lv_iload_n (pc := 19) hx hb dX8_row_19 rfl (lv_at hl 3 rfl) ?_
      refine lv_iconst (pc := 20) (v := (0 : Int32)) hx hb dX8_row_20 (by decide) ?_
      refine lv_ldc (pc := 21) (v := (100000 : Int32)) hx hb hown (hts _ (List.mem_cons_of_mem _ kw282)) dX8_row_21 ?_
      refine Ccalli (rest := []) (CrunS (pc := 23) X w (okX8_within l hJ h) kw258 kmX8_within ⟨rfl, rfl⟩ ⟨by decide, by decide⟩ rfl hl.1 rfl (Nat.le_of_ble_eq_true rfl) dX8_row_23) w (fun r3 u9_ H locs h w => ?_)
      obtain ⟨hz_r3, h⟩ := h
      obtain ⟨rfl, h⟩ := h
      refine lv_if_eq (pc := 26) (tgt := 39) hx hb dX8_row_26 (by decide) (fun c_ => ?_) (fun c_ => ?_)
      · have h := h.1 c_
        refine lv_bipush (pc := 39) (v := (-2 : Int32)) hx hb dX8_row_39 (by decide) ?_
        exact Ciret (pc := 41) X w h dX8_row_41
      · have h := h.2 c_
        refine lv_iload (pc := 29) hx hb dX8_row_29 (lv_at hl 4 rfl) ?_
        refine lv_bipush (pc := 31) (v := (10 : Int32)) hx hb dX8_row_31 (by decide) ?_
        refine Ccalli (rest := []) (CrunS (pc := 33) X w (okX8_below l hJ h) kw23 kmX8_below ⟨rfl, rfl⟩ ⟨by decide, by decide⟩ rfl hl.1 rfl (Nat.le_of_ble_eq_true rfl) dX8_row_33) w (fun r4 u9_ H locs h w => ?_)
        obtain ⟨hz_r4, h⟩ := h
        obtain ⟨rfl, h⟩ := h
        refine lv_if_ne (pc := 36) (tgt := 42) hx hb dX8_row_36 (by decide) (fun c_ => ?_) (fun c_ => ?_)
        · have h := h.2 c_
          refine lv_aload_n (pc := 42) hx hb dX8_row_42 rfl (lv_at hl 0 rfl) ?_
          refine Cgf_0_0 (pc := 43) X w kw262 dX8_row_43 ?_
          refine Cgf_1_8 (pc := 46) X w kw283 dX8_row_46 ?_
          refine lv_bipush (pc := 49) (v := (80 : Int32)) hx hb dX8_row_49 (by decide) ?_
          refine lv_icmp_lt (pc := 51) (tgt := 57) hx hb dX8_row_51 (by decide) (fun c_ => ?_) (fun c_ => ?_)
          · have h := h.1 c_
            refine lv_aload_n (pc := 57) hx hb dX8_row_57 rfl (lv_at hl 0 rfl) ?_
            refine Cgf_0_1 (pc := 58) X w kw264 dX8_row_58 ?_
            refine lv_iload_n (pc := 61) hx hb dX8_row_61 rfl (lv_at hl 2 rfl) ?_
            refine Ccalli (rest := [.ref (ad 10)]) (CrunS (pc := 62) X w (okX8_landOf l hJ h) kw273 kmX8_landOf ⟨rfl, rfl⟩ ⟨by decide, by decide⟩ rfl hl.1 rfl (Nat.le_of_ble_eq_true rfl) dX8_row_62) w (fun r5 u9_ H locs h w => ?_)
            obtain ⟨rfl, h⟩ := h
            refine lv_iload_n (pc := 65) hx hb dX8_row_65 rfl (lv_at hl 2 rfl) ?_
            refine Ccalli (rest := [.int r5, .ref (ad 10)]) (CrunS (pc := 66) X w (okX8_productOf l hJ h) kw276 kmX8_productOf ⟨rfl, rfl⟩ ⟨by decide, by decide⟩ rfl hl.1 rfl (Nat.le_of_ble_eq_true rfl) dX8_row_66) w (fun r6 u9_ H locs h w => ?_)
            obtain ⟨rfl, h⟩ := h
            refine lv_iload_n (pc := 69) hx hb dX8_row_69 rfl (lv_at hl 2 rfl) ?_
            refine Ccalli (rest := [.int r6, .int r5, .ref (ad 10)]) (CrunS (pc := 70) X w (okX8_yearOf l hJ h) kw284 kmX8_yearOf ⟨rfl, rfl⟩ ⟨by decide, by decide⟩ rfl hl.1 rfl (Nat.le_of_ble_eq_true rfl) dX8_row_70) w (fun r7 u9_ H locs h w => ?_)
            obtain ⟨rfl, h⟩ := h
            refine Ccallv (rest := []) (CrunV (pc := 73) X w (okX6_forget l hJ h) kw285 kmX6_forget ⟨rfl, rfl⟩ ⟨by decide, by decide⟩ (Crv_10 X w) rfl hl.1 rfl (Nat.le_of_ble_eq_true rfl) dX8_row_73) w (fun u9 H locs h w => ?_)
            refine lv_aload_n (pc := 76) hx hb dX8_row_76 rfl (lv_at hl 0 rfl) ?_
            refine Cgf_0_0 (pc := 77) X w kw262 dX8_row_77 ?_
            refine lv_iload_n (pc := 80) hx hb dX8_row_80 rfl (lv_at hl 1 rfl) ?_
            refine lv_iload_n (pc := 81) hx hb dX8_row_81 rfl (lv_at hl 2 rfl) ?_
            refine lv_iload_n (pc := 82) hx hb dX8_row_82 rfl (lv_at hl 3 rfl) ?_
            refine lv_iload (pc := 83) hx hb dX8_row_83 (lv_at hl 4 rfl) ?_
            refine Ccalli (rest := []) (CrunV (pc := 85) X w (okX3_append l hJ h) kw289 kmX3_append ⟨rfl, rfl⟩ ⟨by decide, by decide⟩ (Crv_1 X w) rfl hl.1 rfl (Nat.le_of_ble_eq_true rfl) dX8_row_85) w (fun r10 u11 H locs h w => ?_)
            exact Ciret (pc := 88) X w h dX8_row_88
          · have h := h.2 c_
            refine lv_bipush (pc := 54) (v := (-4 : Int32)) hx hb dX8_row_54 (by decide) ?_
            exact Ciret (pc := 56) X w h dX8_row_56
        · have h := h.1 c_
          refine lv_bipush (pc := 39) (v := (-2 : Int32)) hx hb dX8_row_39 (by decide) ?_
          exact Ciret (pc := 41) X w h dX8_row_41
set_option maxHeartbeats 4000000 in
set_option maxRecDepth 100000 in
theorem okX8_rowIs (l : Launch) {D : va_G} {g : Nat → ClassId} {ad : Nat → Nat} (hJ : CJ ad) {u : Mm} {a1 : Int32} {a2 : Int32} {Q : Int32 → Mm → Prop} (h : wX8_rowIs u a1 a2 Q) : Met l yX8_rowIs (Cond.code yX8_rowIs cX8_rowIs 3 (some .int) :: gt) ({ frames := 3, cells := 0, slots := 0, locals := 72 } : Room) (CPc D g ad u [.ref (ad 0), .int a1, .int a2]) (va_Qi Q (CB D g ad) (CA ad)) 0 0 (CA ad) := by
  refine Met.ofW (cc := cX8_rowIs) (maxL := 3) (ret := (some .int)) (by decide) rfl ?_
  intro p e s m args below meth c s₁ B hml hv
  refine Centry (own := RX8) B hml hv hJ rfl (Nat.le_of_ble_eq_true rfl) (fun ls H locs X w hl => ?_)
  obtain ⟨⟨hx, hb, hml, hown, hts⟩, hr, hlocks, hK, hJ, hAA⟩ := id X
  have hl : lv_has ls 3 [(0, .ref (ad 0)), (1, .int a1), (2, .int a2)] := hl
  unfold wX8_rowIs at h
  refine lv_iload_n (pc := 0) hx hb dX8_rowIs_0 rfl (lv_at hl 1 rfl) ?_
  refine lv_aload_n (pc := 1) hx hb dX8_rowIs_1 rfl (lv_at hl 0 rfl) ?_
  refine Cgf_0_0 (pc := 2) X w kw262 dX8_rowIs_2 ?_
  refine Cgf_1_8 (pc := 5) X w kw283 dX8_rowIs_5 ?_
  refine Ccalli (rest := []) (CrunS (pc := 8) X w (okX8_below l hJ h) kw23 kmX8_below ⟨rfl, rfl⟩ ⟨by decide, by decide⟩ rfl hl.1 rfl (Nat.le_of_ble_eq_true rfl) dX8_rowIs_8) w (fun r1 u9_ H locs h w => ?_)
  obtain ⟨hz_r1, h⟩ := h
  obtain ⟨rfl, h⟩ := h
  refine lv_if_ne (pc := 11) (tgt := 17) hx hb dX8_rowIs_11 (by decide) (fun c_ => ?_) (fun c_ => ?_)
  · have h := h.2 c_
    refine lv_iload_n (pc := 17) hx hb dX8_rowIs_17 rfl (lv_at hl 2 rfl) ?_
    rcases sw_in a2 4 (by decide) with hs | ⟨js, hjs, hs⟩
    · have h := h.2.2.2.2.2 hs
      refine lv_tableOut (pc := 18) (tgt := 109) hx hb dX8_rowIs_18 hs (by decide) ?_
      refine lv_ldc (pc := 109) (v := (-1000000 : Int32)) hx hb hown (hts _ (List.mem_cons_of_mem _ kw293)) dX8_rowIs_109 ?_
      exact Ciret (pc := 111) X w h dX8_rowIs_111
    · rcases (show js = 0 ∨ js = 1 ∨ js = 2 ∨ js = 3 ∨ js = 4 by omega) with rfl | rfl | rfl | rfl | rfl
      · have h := h.1 hs
        refine lv_topi (fun z_ ez_ => ?_)
        rw [hs] at ez_
        subst ez_
        refine lv_tableIn (pc := 18) (tgt := 52) (off := 34) hx hb dX8_rowIs_18 (by decide) (by decide) (by decide +kernel) (by decide) ?_
        refine lv_aload_n (pc := 52) hx hb dX8_rowIs_52 rfl (lv_at hl 0 rfl) ?_
        refine Cgf_0_0 (pc := 53) X w kw262 dX8_rowIs_53 ?_
        refine Cgf_1_1 (pc := 56) X w kw294 dX8_rowIs_56 ?_
        refine lv_iload_n (pc := 59) hx hb dX8_rowIs_59 rfl (lv_at hl 1 rfl) ?_
        refine Cld_3 (pc := 60) X w h.1 dX8_rowIs_60 ?_
        have h := h.2
        exact Ciret (pc := 61) X w h dX8_rowIs_61
      · have h := h.2.1 hs
        refine lv_topi (fun z_ ez_ => ?_)
        rw [hs] at ez_
        subst ez_
        refine lv_tableIn (pc := 18) (tgt := 62) (off := 44) hx hb dX8_rowIs_18 (by decide) (by decide) (by decide +kernel) (by decide) ?_
        refine lv_aload_n (pc := 62) hx hb dX8_rowIs_62 rfl (lv_at hl 0 rfl) ?_
        refine Cgf_0_0 (pc := 63) X w kw262 dX8_rowIs_63 ?_
        refine Cgf_1_2 (pc := 66) X w kw295 dX8_rowIs_66 ?_
        refine lv_iload_n (pc := 69) hx hb dX8_rowIs_69 rfl (lv_at hl 1 rfl) ?_
        refine Cld_4 (pc := 70) X w h.1 dX8_rowIs_70 ?_
        have h := h.2
        exact Ciret (pc := 71) X w h dX8_rowIs_71
      · have h := h.2.2.1 hs
        refine lv_topi (fun z_ ez_ => ?_)
        rw [hs] at ez_
        subst ez_
        refine lv_tableIn (pc := 18) (tgt := 72) (off := 54) hx hb dX8_rowIs_18 (by decide) (by decide) (by decide +kernel) (by decide) ?_
        refine lv_aload_n (pc := 72) hx hb dX8_rowIs_72 rfl (lv_at hl 0 rfl) ?_
        refine Cgf_0_0 (pc := 73) X w kw262 dX8_rowIs_73 ?_
        refine Cgf_1_3 (pc := 76) X w kw296 dX8_rowIs_76 ?_
        refine lv_iload_n (pc := 79) hx hb dX8_rowIs_79 rfl (lv_at hl 1 rfl) ?_
        refine Cld_5 (pc := 80) X w h.1 dX8_rowIs_80 ?_
        have h := h.2
        exact Ciret (pc := 81) X w h dX8_rowIs_81
      · have h := h.2.2.2.1 hs
        refine lv_topi (fun z_ ez_ => ?_)
        rw [hs] at ez_
        subst ez_
        refine lv_tableIn (pc := 18) (tgt := 82) (off := 64) hx hb dX8_rowIs_18 (by decide) (by decide) (by decide +kernel) (by decide) ?_
        refine lv_aload_n (pc := 82) hx hb dX8_rowIs_82 rfl (lv_at hl 0 rfl) ?_
        refine Cgf_0_0 (pc := 83) X w kw262 dX8_rowIs_83 ?_
        refine Cgf_1_4 (pc := 86) X w kw297 dX8_rowIs_86 ?_
        refine lv_iload_n (pc := 89) hx hb dX8_rowIs_89 rfl (lv_at hl 1 rfl) ?_
        refine Cld_6 (pc := 90) X w h.1 dX8_rowIs_90 ?_
        have h := h.2
        exact Ciret (pc := 91) X w h dX8_rowIs_91
      · have h := h.2.2.2.2.1 hs
        refine lv_topi (fun z_ ez_ => ?_)
        rw [hs] at ez_
        subst ez_
        refine lv_tableIn (pc := 18) (tgt := 92) (off := 74) hx hb dX8_rowIs_18 (by decide) (by decide) (by decide +kernel) (by decide) ?_
        refine lv_aload_n (pc := 92) hx hb dX8_rowIs_92 rfl (lv_at hl 0 rfl) ?_
        refine Cgf_0_0 (pc := 93) X w kw262 dX8_rowIs_93 ?_
        refine lv_iload_n (pc := 96) hx hb dX8_rowIs_96 rfl (lv_at hl 1 rfl) ?_
        refine Ccalli (rest := []) (CrunV (pc := 97) X w (okX3_isCounted l hJ h) kw298 kmX3_isCounted ⟨rfl, rfl⟩ ⟨by decide, by decide⟩ (Crv_1 X w) rfl hl.1 rfl (Nat.le_of_ble_eq_true rfl) dX8_rowIs_97) w (fun r2 u3 H locs h w => ?_)
        obtain ⟨hz_r2, h⟩ := h
        refine lv_if_eq (pc := 100) (tgt := 107) hx hb dX8_rowIs_100 (by decide) (fun c_ => ?_) (fun c_ => ?_)
        · have h := h.1 c_
          refine lv_iconst (pc := 107) (v := (0 : Int32)) hx hb dX8_rowIs_107 (by decide) ?_
          exact Ciret (pc := 108) X w h dX8_rowIs_108
        · have h := h.2 c_
          refine lv_iconst (pc := 103) (v := (1 : Int32)) hx hb dX8_rowIs_103 (by decide) ?_
          refine lv_goto (pc := 104) (tgt := 108) hx hb dX8_rowIs_104 (by decide) ?_
          exact Ciret (pc := 108) X w h dX8_rowIs_108
  · have h := h.1 c_
    refine lv_ldc (pc := 14) (v := (-1000000 : Int32)) hx hb hown (hts _ (List.mem_cons_of_mem _ kw293)) dX8_rowIs_14 ?_
    exact Ciret (pc := 16) X w h dX8_rowIs_16
set_option maxHeartbeats 4000000 in
set_option maxRecDepth 100000 in
theorem okX8_asOf (l : Launch) {D : va_G} {g : Nat → ClassId} {ad : Nat → Nat} (hJ : CJ ad) {u : Mm} {a1 : Int32} {Q : Int32 → Mm → Prop} (h : wX8_asOf u a1 Q) : Met l yX8_asOf (Cond.code yX8_asOf cX8_asOf 3 (some .int) :: gt) ({ frames := 1, cells := 0, slots := 0, locals := 21 } : Room) (CPc D g ad u [.ref (ad 0), .int a1]) (va_Qi Q (CB D g ad) (CA ad)) 0 0 (CA ad) := by
  refine Met.ofW (cc := cX8_asOf) (maxL := 3) (ret := (some .int)) (by decide) rfl ?_
  intro p e s m args below meth c s₁ B hml hv
  refine Centry (own := RX8) B hml hv hJ rfl (Nat.le_of_ble_eq_true rfl) (fun ls H locs X w hl => ?_)
  obtain ⟨⟨hx, hb, hml, hown, hts⟩, hr, hlocks, hK, hJ, hAA⟩ := id X
  have hl : lv_has ls 3 [(0, .ref (ad 0)), (1, .int a1)] := hl
  unfold wX8_asOf at h
  refine lv_iload_n (pc := 0) hx hb dX8_asOf_0 rfl (lv_at hl 1 rfl) ?_
  refine lv_bipush (pc := 1) (v := (10 : Int32)) hx hb dX8_asOf_1 (by decide) ?_
  refine Ccalli (rest := []) (CrunS (pc := 3) X w (okX8_below l hJ h) kw23 kmX8_below ⟨rfl, rfl⟩ ⟨by decide, by decide⟩ rfl hl.1 rfl (Nat.le_of_ble_eq_true rfl) dX8_asOf_3) w (fun r1 u9_ H locs h w => ?_)
  obtain ⟨hz_r1, h⟩ := h
  obtain ⟨rfl, h⟩ := h
  refine lv_if_ne (pc := 6) (tgt := 12) hx hb dX8_asOf_6 (by decide) (fun c_ => ?_) (fun c_ => ?_)
  · have h := h.2 c_
    refine lv_aload_n (pc := 12) hx hb dX8_asOf_12 rfl (lv_at hl 0 rfl) ?_
    refine Cgf_0_0 (pc := 13) X w kw262 dX8_asOf_13 ?_
    refine Cgf_1_9 (pc := 16) X w kw299 dX8_asOf_16 ?_
    refine lv_topi (fun x2_2 e_ => ?_)
    have h := h x2_2 e_
    refine lv_istore_n (pc := 19) (lv' := [(2, .int x2_2), (0, .ref (ad 0)), (1, .int a1)]) hx hb dX8_asOf_19 rfl hl (by decide) rfl (fun ls hl => ?_)
    refine lv_aload_n (pc := 20) hx hb dX8_asOf_20 rfl (lv_at hl 1 rfl) ?_
    refine Cgf_0_0 (pc := 21) X w kw262 dX8_asOf_21 ?_
    refine lv_iload_n (pc := 24) hx hb dX8_asOf_24 rfl (lv_at hl 2 rfl) ?_
    refine Cpf_1_9 (pc := 25) X w kw299 dX8_asOf_25 (fun H locs w => ?_)
    obtain ⟨u3, e_⟩ : ∃ y : Mm, y = s32 u 125 0 a1 := ⟨_, rfl⟩
    rw [← e_] at w
    have h := h u3 e_
    refine lv_aload_n (pc := 28) hx hb dX8_asOf_28 rfl (lv_at hl 1 rfl) ?_
    refine Cgf_0_1 (pc := 29) X w kw264 dX8_asOf_29 ?_
    refine Ccallv (rest := []) (CrunV (pc := 32) X w (okX6_forgetAll l hJ h) kw265 kmX6_forgetAll ⟨rfl, rfl⟩ ⟨by decide, by decide⟩ (Crv_10 X w) rfl hl.1 rfl (Nat.le_of_ble_eq_true rfl) dX8_asOf_32) w (fun u5 H locs h w => ?_)
    refine lv_iload_n (pc := 35) hx hb dX8_asOf_35 rfl (lv_at hl 0 rfl) ?_
    exact Ciret (pc := 36) X w h dX8_asOf_36
  · have h := h.1 c_
    refine lv_bipush (pc := 9) (v := (-2 : Int32)) hx hb dX8_asOf_9 (by decide) ?_
    exact Ciret (pc := 11) X w h dX8_asOf_11
set_option maxHeartbeats 4000000 in
set_option maxRecDepth 100000 in
theorem bX8_column_38 {l : Launch} {p : Program} {e : Env} {s : State} {m : MethodId} {args : Array Value} {below : List Frame} {meth : Method} {c : Code} {D : va_G} {g : Nat → ClassId} {ad : Nat → Nat} {Q : Int32 → Mm → Prop} (X : CX p s m args meth c cX8_column RX8 4 (some .int) (Cond.code yX8_column cX8_column 4 (some .int)) D g ad (CA ad)) : ∀ (u : Mm) (x1 : Int32) (x2 : Int32) (y0 : Int32) (H : Heap) (locs : List Loc) (ls : Array Slot), wX8_column_b38 Q u x1 x2 y0 → CWd D g ad (CA ad) s u H locs → lv_has ls 4 [(0, .ref (ad 0)), (1, .int x1), (2, .int x2)] → W p l e ({ frames := 1, cells := 0, slots := 0, locals := 22 } : Room) s m args below meth c H locs 0 0 (MQ below (va_Qi Q (CB D g ad) (CA ad)) args s 0 0 (CA ad)) (F0 m 38 ls [.int y0]) := by
  obtain ⟨⟨hx, hb, hml, hown, hts⟩, hr, hlocks, hK, hJ, hAA⟩ := id X
  intro u x1 x2 y0 H locs ls h w hl
  unfold wX8_column_b38 at h
  refine lv_istore_n (pc := 38) (lv' := [(3, .int y0), (0, .ref (ad 0)), (1, .int x1), (2, .int x2)]) hx hb dX8_column_38 rfl hl (by decide) rfl (fun ls hl => ?_)
  refine lv_aload_n (pc := 39) hx hb dX8_column_39 rfl (lv_at hl 1 rfl) ?_
  refine Cgf_0_1 (pc := 40) X w kw264 dX8_column_40 ?_
  refine Cgf_10_2 (pc := 43) X w kw300 dX8_column_43 ?_
  refine lv_iload_n (pc := 46) hx hb dX8_column_46 rfl (lv_at hl 2 rfl) ?_
  refine lv_iload_n (pc := 47) hx hb dX8_column_47 rfl (lv_at hl 3 rfl) ?_
  refine lv_iconst (pc := 48) (v := (1 : Int32)) hx hb dX8_column_48 (by decide) ?_
  refine lv_icmp_ne (pc := 49) (tgt := 56) hx hb dX8_column_49 (by decide) (fun c_ => ?_) (fun c_ => ?_)
  · have h := h.2 c_
    refine lv_iconst (pc := 56) (v := (0 : Int32)) hx hb dX8_column_56 (by decide) ?_
    refine Cst_15 (pc := 57) X w h.1 dX8_column_57 (fun H locs w => ?_)
    have h := h.2
    obtain ⟨u1, e_⟩ : ∃ y : Mm, y = s32 u 15 x1.toNatClampNeg (vp_nar .boolean (0 : Int32)) := ⟨_, rfl⟩
    rw [← e_] at w
    have h := h u1 e_
    refine lv_aload_n (pc := 58) hx hb dX8_column_58 rfl (lv_at hl 1 rfl) ?_
    refine Cgf_0_1 (pc := 59) X w kw264 dX8_column_59 ?_
    refine Ccallv (rest := []) (CrunV (pc := 62) X w (okX6_forgetAll l hJ h) kw265 kmX6_forgetAll ⟨rfl, rfl⟩ ⟨by decide, by decide⟩ (Crv_10 X w) rfl hl.1 rfl (Nat.le_of_ble_eq_true rfl) dX8_column_62) w (fun u3 H locs h w => ?_)
    refine lv_iload_n (pc := 65) hx hb dX8_column_65 rfl (lv_at hl 0 rfl) ?_
    exact Ciret (pc := 66) X w h dX8_column_66
  · have h := h.1 c_
    refine lv_iconst (pc := 52) (v := (1 : Int32)) hx hb dX8_column_52 (by decide) ?_
    refine lv_goto (pc := 53) (tgt := 57) hx hb dX8_column_53 (by decide) ?_
    refine Cst_15 (pc := 57) X w h.1 dX8_column_57 (fun H locs w => ?_)
    have h := h.2
    obtain ⟨u4, e_⟩ : ∃ y : Mm, y = s32 u 15 x1.toNatClampNeg (vp_nar .boolean (1 : Int32)) := ⟨_, rfl⟩
    rw [← e_] at w
    have h := h u4 e_
    refine lv_aload_n (pc := 58) hx hb dX8_column_58 rfl (lv_at hl 1 rfl) ?_
    refine Cgf_0_1 (pc := 59) X w kw264 dX8_column_59 ?_
    refine Ccallv (rest := []) (CrunV (pc := 62) X w (okX6_forgetAll l hJ h) kw265 kmX6_forgetAll ⟨rfl, rfl⟩ ⟨by decide, by decide⟩ (Crv_10 X w) rfl hl.1 rfl (Nat.le_of_ble_eq_true rfl) dX8_column_62) w (fun u6 H locs h w => ?_)
    refine lv_iload_n (pc := 65) hx hb dX8_column_65 rfl (lv_at hl 0 rfl) ?_
    exact Ciret (pc := 66) X w h dX8_column_66
set_option maxHeartbeats 4000000 in
set_option maxRecDepth 100000 in
theorem okX8_column (l : Launch) {D : va_G} {g : Nat → ClassId} {ad : Nat → Nat} (hJ : CJ ad) {u : Mm} {a1 : Int32} {a2 : Int32} {Q : Int32 → Mm → Prop} (h : wX8_column u a1 a2 Q) : Met l yX8_column (Cond.code yX8_column cX8_column 4 (some .int) :: gt) ({ frames := 1, cells := 0, slots := 0, locals := 22 } : Room) (CPc D g ad u [.ref (ad 0), .int a1, .int a2]) (va_Qi Q (CB D g ad) (CA ad)) 0 0 (CA ad) := by
  refine Met.ofW (cc := cX8_column) (maxL := 4) (ret := (some .int)) (by decide) rfl ?_
  intro p e s m args below meth c s₁ B hml hv
  refine Centry (own := RX8) B hml hv hJ rfl (Nat.le_of_ble_eq_true rfl) (fun ls H locs X w hl => ?_)
  obtain ⟨⟨hx, hb, hml, hown, hts⟩, hr, hlocks, hK, hJ, hAA⟩ := id X
  have hl : lv_has ls 4 [(0, .ref (ad 0)), (1, .int a1), (2, .int a2)] := hl
  unfold wX8_column at h
  refine lv_iload_n (pc := 0) hx hb dX8_column_0 rfl (lv_at hl 1 rfl) ?_
  refine lv_bipush (pc := 1) (v := (6 : Int32)) hx hb dX8_column_1 (by decide) ?_
  refine Ccalli (rest := []) (CrunS (pc := 3) X w (okX8_below l hJ h) kw23 kmX8_below ⟨rfl, rfl⟩ ⟨by decide, by decide⟩ rfl hl.1 rfl (Nat.le_of_ble_eq_true rfl) dX8_column_3) w (fun r1 u9_ H locs h w => ?_)
  obtain ⟨hz_r1, h⟩ := h
  obtain ⟨rfl, h⟩ := h
  refine lv_if_eq (pc := 6) (tgt := 18) hx hb dX8_column_6 (by decide) (fun c_ => ?_) (fun c_ => ?_)
  · have h := h.1 c_
    refine lv_bipush (pc := 18) (v := (-2 : Int32)) hx hb dX8_column_18 (by decide) ?_
    exact Ciret (pc := 20) X w h dX8_column_20
  · have h := h.2 c_
    refine lv_iload_n (pc := 9) hx hb dX8_column_9 rfl (lv_at hl 2 rfl) ?_
    refine lv_iconst (pc := 10) (v := (0 : Int32)) hx hb dX8_column_10 (by decide) ?_
    refine lv_iconst (pc := 11) (v := (1 : Int32)) hx hb dX8_column_11 (by decide) ?_
    refine Ccalli (rest := []) (CrunS (pc := 12) X w (okX8_within l hJ h) kw258 kmX8_within ⟨rfl, rfl⟩ ⟨by decide, by decide⟩ rfl hl.1 rfl (Nat.le_of_ble_eq_true rfl) dX8_column_12) w (fun r2 u9_ H locs h w => ?_)
    obtain ⟨hz_r2, h⟩ := h
    obtain ⟨rfl, h⟩ := h
    refine lv_if_ne (pc := 15) (tgt := 21) hx hb dX8_column_15 (by decide) (fun c_ => ?_) (fun c_ => ?_)
    · have h := h.2 c_
      refine lv_aload_n (pc := 21) hx hb dX8_column_21 rfl (lv_at hl 0 rfl) ?_
      refine Cgf_0_1 (pc := 22) X w kw264 dX8_column_22 ?_
      refine Cgf_10_2 (pc := 25) X w kw300 dX8_column_25 ?_
      refine lv_iload_n (pc := 28) hx hb dX8_column_28 rfl (lv_at hl 1 rfl) ?_
      refine Cld_15 (pc := 29) X w h.1 dX8_column_29 ?_
      have h := h.2
      refine lv_if_eq (pc := 30) (tgt := 37) hx hb dX8_column_30 (by decide) (fun c_ => ?_) (fun c_ => ?_)
      · have h := h.1 c_
        refine lv_iconst (pc := 37) (v := (0 : Int32)) hx hb dX8_column_37 (by decide) ?_
        exact bX8_column_38 X u a1 a2 (0 : Int32) H locs ls h w (lv_sub hl [0, 1, 2] rfl)
      · have h := h.2 c_
        refine lv_iconst (pc := 33) (v := (1 : Int32)) hx hb dX8_column_33 (by decide) ?_
        refine lv_goto (pc := 34) (tgt := 38) hx hb dX8_column_34 (by decide) ?_
        exact bX8_column_38 X u a1 a2 (1 : Int32) H locs ls h w (lv_sub hl [0, 1, 2] rfl)
    · have h := h.1 c_
      refine lv_bipush (pc := 18) (v := (-2 : Int32)) hx hb dX8_column_18 (by decide) ?_
      exact Ciret (pc := 20) X w h dX8_column_20
set_option maxHeartbeats 4000000 in
set_option maxRecDepth 100000 in
theorem okX8_refused (l : Launch) {D : va_G} {g : Nat → ClassId} {ad : Nat → Nat} (hJ : CJ ad) {u : Mm} {a0 : Int32} {Q : Int64 → Prop} (h : wX8_refused a0 Q) : Met l yX8_refused (Cond.code yX8_refused cX8_refused 1 (some .long) :: gt) ({ frames := 0, cells := 0, slots := 0, locals := 0 } : Room) (CPc D g ad u [.int a0]) (va_Ql (fun r u1 => u = u1 ∧ Q r) (CB D g ad) (CA ad)) 0 0 (CA ad) := by
  refine Met.ofW (cc := cX8_refused) (maxL := 1) (ret := (some .long)) (by decide) rfl ?_
  intro p e s m args below meth c s₁ B hml hv
  refine Centry (own := RX8) B hml hv hJ rfl (Nat.le_of_ble_eq_true rfl) (fun ls H locs X w hl => ?_)
  obtain ⟨⟨hx, hb, hml, hown, hts⟩, hr, hlocks, hK, hJ, hAA⟩ := id X
  have hl : lv_has ls 1 [(0, .int a0)] := hl
  unfold wX8_refused at h
  refine lv_ldc2 (pc := 0) (v := (-9223372036854775808 : Int64)) hx hb hown (hts _ (List.mem_cons_of_mem _ kw301)) dX8_refused_0 ?_
  refine lv_iload_n (pc := 3) hx hb dX8_refused_3 rfl (lv_at hl 0 rfl) ?_
  refine lv_i2l (pc := 4) hx hb dX8_refused_4 rfl ?_
  refine lv_lsub (pc := 5) hx hb dX8_refused_5 ?_
  exact Clret (pc := 6) X w ⟨rfl, h⟩ dX8_refused_6
set_option maxHeartbeats 4000000 in
set_option maxRecDepth 100000 in
theorem okX8_said (l : Launch) {D : va_G} {g : Nat → ClassId} {ad : Nat → Nat} (hJ : CJ ad) {u : Mm} {a1 : Int32} {Q : Int64 → Mm → Prop} (h : wX8_said u a1 Q) : Met l yX8_said (Cond.code yX8_said cX8_said 2 (some .long) :: gt) ({ frames := 3, cells := 0, slots := 0, locals := 76 } : Room) (CPc D g ad u [.ref (ad 0), .int a1]) (va_Ql Q (CB D g ad) (CA ad)) 0 0 (CA ad) := by
  refine Met.ofW (cc := cX8_said) (maxL := 2) (ret := (some .long)) (by decide) rfl ?_
  intro p e s m args below meth c s₁ B hml hv
  refine Centry (own := RX8) B hml hv hJ rfl (Nat.le_of_ble_eq_true rfl) (fun ls H locs X w hl => ?_)
  obtain ⟨⟨hx, hb, hml, hown, hts⟩, hr, hlocks, hK, hJ, hAA⟩ := id X
  have hl : lv_has ls 2 [(0, .ref (ad 0)), (1, .int a1)] := hl
  unfold wX8_said at h
  refine lv_iload_n (pc := 0) hx hb dX8_said_0 rfl (lv_at hl 1 rfl) ?_
  refine lv_sipush (pc := 1) (v := (720 : Int32)) hx hb dX8_said_1 (by decide) ?_
  refine Ccalli (rest := []) (CrunS (pc := 4) X w (okX8_below l hJ h) kw23 kmX8_below ⟨rfl, rfl⟩ ⟨by decide, by decide⟩ rfl hl.1 rfl (Nat.le_of_ble_eq_true rfl) dX8_said_4) w (fun r1 u9_ H locs h w => ?_)
  obtain ⟨hz_r1, h⟩ := h
  obtain ⟨rfl, h⟩ := h
  refine lv_if_ne (pc := 7) (tgt := 16) hx hb dX8_said_7 (by decide) (fun c_ => ?_) (fun c_ => ?_)
  · have h := h.2 c_
    refine lv_aload_n (pc := 16) hx hb dX8_said_16 rfl (lv_at hl 0 rfl) ?_
    refine Cgf_0_0 (pc := 17) X w kw262 dX8_said_17 ?_
    refine lv_iload_n (pc := 20) hx hb dX8_said_20 rfl (lv_at hl 1 rfl) ?_
    refine lv_aload_n (pc := 21) hx hb dX8_said_21 rfl (lv_at hl 0 rfl) ?_
    refine Cgf_0_0 (pc := 22) X w kw262 dX8_said_22 ?_
    refine Cgf_1_9 (pc := 25) X w kw299 dX8_said_25 ?_
    refine lv_bipush (pc := 28) (v := (9 : Int32)) hx hb dX8_said_28 (by decide) ?_
    refine Ccallv (rest := []) (CrunV (pc := 30) X w (okX3_tally l hJ h) kw302 kmX3_tally ⟨rfl, rfl⟩ ⟨by decide, by decide⟩ (Crv_1 X w) rfl hl.1 rfl (Nat.le_of_ble_eq_true rfl) dX8_said_30) w (fun u3 H locs h w => ?_)
    refine lv_aload_n (pc := 33) hx hb dX8_said_33 rfl (lv_at hl 0 rfl) ?_
    refine Cgf_0_0 (pc := 34) X w kw262 dX8_said_34 ?_
    refine Cgf_1_10 (pc := 37) X w kw303 dX8_said_37 ?_
    refine lv_if_ne (pc := 40) (tgt := 51) hx hb dX8_said_40 (by decide) (fun c_ => ?_) (fun c_ => ?_)
    · have h := h.2 c_
      refine lv_aload_n (pc := 51) hx hb dX8_said_51 rfl (lv_at hl 0 rfl) ?_
      refine Cgf_0_0 (pc := 52) X w kw262 dX8_said_52 ?_
      refine Cgf_1_11 (pc := 55) X w kw304 dX8_said_55 ?_
      refine lv_i2l (pc := 58) hx hb dX8_said_58 rfl ?_
      exact Clret (pc := 59) X w h dX8_said_59
    · have h := h.1 c_
      refine lv_bipush (pc := 43) (v := (-3 : Int32)) hx hb dX8_said_43 (by decide) ?_
      refine Ccalll (rest := []) (CrunS (pc := 45) X w (okX8_refused l hJ h) kw305 kmX8_refused ⟨rfl, rfl⟩ ⟨by decide, by decide⟩ rfl hl.1 rfl (Nat.le_of_ble_eq_true rfl) dX8_said_45) w (fun r4 u9_ H locs h w => ?_)
      obtain ⟨rfl, h⟩ := h
      refine lv_goto (pc := 48) (tgt := 59) hx hb dX8_said_48 (by decide) ?_
      exact Clret (pc := 59) X w h dX8_said_59
  · have h := h.1 c_
    refine lv_bipush (pc := 10) (v := (-2 : Int32)) hx hb dX8_said_10 (by decide) ?_
    refine Ccalll (rest := []) (CrunS (pc := 12) X w (okX8_refused l hJ h) kw305 kmX8_refused ⟨rfl, rfl⟩ ⟨by decide, by decide⟩ rfl hl.1 rfl (Nat.le_of_ble_eq_true rfl) dX8_said_12) w (fun r5 u9_ H locs h w => ?_)
    obtain ⟨rfl, h⟩ := h
    exact Clret (pc := 15) X w h dX8_said_15
set_option maxHeartbeats 4000000 in
set_option maxRecDepth 100000 in
theorem okX8_weight (l : Launch) {D : va_G} {g : Nat → ClassId} {ad : Nat → Nat} (hJ : CJ ad) {u : Mm} {a1 : Int32} {Q : Int32 → Mm → Prop} (h : wX8_weight u a1 Q) : Met l yX8_weight (Cond.code yX8_weight cX8_weight 2 (some .int) :: gt) ({ frames := 3, cells := 0, slots := 0, locals := 76 } : Room) (CPc D g ad u [.ref (ad 0), .int a1]) (va_Qi Q (CB D g ad) (CA ad)) 0 0 (CA ad) := by
  refine Met.ofW (cc := cX8_weight) (maxL := 2) (ret := (some .int)) (by decide) rfl ?_
  intro p e s m args below meth c s₁ B hml hv
  refine Centry (own := RX8) B hml hv hJ rfl (Nat.le_of_ble_eq_true rfl) (fun ls H locs X w hl => ?_)
  obtain ⟨⟨hx, hb, hml, hown, hts⟩, hr, hlocks, hK, hJ, hAA⟩ := id X
  have hl : lv_has ls 2 [(0, .ref (ad 0)), (1, .int a1)] := hl
  unfold wX8_weight at h
  refine lv_iload_n (pc := 0) hx hb dX8_weight_0 rfl (lv_at hl 1 rfl) ?_
  refine lv_sipush (pc := 1) (v := (720 : Int32)) hx hb dX8_weight_1 (by decide) ?_
  refine Ccalli (rest := []) (CrunS (pc := 4) X w (okX8_below l hJ h) kw23 kmX8_below ⟨rfl, rfl⟩ ⟨by decide, by decide⟩ rfl hl.1 rfl (Nat.le_of_ble_eq_true rfl) dX8_weight_4) w (fun r1 u9_ H locs h w => ?_)
  obtain ⟨hz_r1, h⟩ := h
  obtain ⟨rfl, h⟩ := h
  refine lv_if_ne (pc := 7) (tgt := 13) hx hb dX8_weight_7 (by decide) (fun c_ => ?_) (fun c_ => ?_)
  · have h := h.2 c_
    refine lv_aload_n (pc := 13) hx hb dX8_weight_13 rfl (lv_at hl 0 rfl) ?_
    refine Cgf_0_0 (pc := 14) X w kw262 dX8_weight_14 ?_
    refine lv_iload_n (pc := 17) hx hb dX8_weight_17 rfl (lv_at hl 1 rfl) ?_
    refine lv_aload_n (pc := 18) hx hb dX8_weight_18 rfl (lv_at hl 0 rfl) ?_
    refine Cgf_0_0 (pc := 19) X w kw262 dX8_weight_19 ?_
    refine Cgf_1_9 (pc := 22) X w kw299 dX8_weight_22 ?_
    refine lv_bipush (pc := 25) (v := (9 : Int32)) hx hb dX8_weight_25 (by decide) ?_
    refine Ccallv (rest := []) (CrunV (pc := 27) X w (okX3_tally l hJ h) kw302 kmX3_tally ⟨rfl, rfl⟩ ⟨by decide, by decide⟩ (Crv_1 X w) rfl hl.1 rfl (Nat.le_of_ble_eq_true rfl) dX8_weight_27) w (fun u3 H locs h w => ?_)
    refine lv_aload_n (pc := 30) hx hb dX8_weight_30 rfl (lv_at hl 0 rfl) ?_
    refine Cgf_0_0 (pc := 31) X w kw262 dX8_weight_31 ?_
    refine Cgf_1_10 (pc := 34) X w kw303 dX8_weight_34 ?_
    exact Ciret (pc := 37) X w h dX8_weight_37
  · have h := h.1 c_
    refine lv_bipush (pc := 10) (v := (-2 : Int32)) hx hb dX8_weight_10 (by decide) ?_
    exact Ciret (pc := 12) X w h dX8_weight_12
set_option maxHeartbeats 4000000 in
set_option maxRecDepth 100000 in
theorem okX8_bent (l : Launch) {D : va_G} {g : Nat → ClassId} {ad : Nat → Nat} (hJ : CJ ad) {u : Mm} {a1 : Int32} {Q : Int64 → Mm → Prop} (h : wX8_bent u a1 Q) : Met l yX8_bent (Cond.code yX8_bent cX8_bent 2 (some .long) :: gt) ({ frames := 5, cells := 0, slots := 0, locals := 134 } : Room) (CPc D g ad u [.ref (ad 0), .int a1]) (va_Ql Q (CB D g ad) (CA ad)) 0 0 (CA ad) := by
  refine Met.ofW (cc := cX8_bent) (maxL := 2) (ret := (some .long)) (by decide) rfl ?_
  intro p e s m args below meth c s₁ B hml hv
  refine Centry (own := RX8) B hml hv hJ rfl (Nat.le_of_ble_eq_true rfl) (fun ls H locs X w hl => ?_)
  obtain ⟨⟨hx, hb, hml, hown, hts⟩, hr, hlocks, hK, hJ, hAA⟩ := id X
  have hl : lv_has ls 2 [(0, .ref (ad 0)), (1, .int a1)] := hl
  unfold wX8_bent at h
  refine lv_iload_n (pc := 0) hx hb dX8_bent_0 rfl (lv_at hl 1 rfl) ?_
  refine lv_sipush (pc := 1) (v := (576 : Int32)) hx hb dX8_bent_1 (by decide) ?_
  refine Ccalli (rest := []) (CrunS (pc := 4) X w (okX8_below l hJ h) kw23 kmX8_below ⟨rfl, rfl⟩ ⟨by decide, by decide⟩ rfl hl.1 rfl (Nat.le_of_ble_eq_true rfl) dX8_bent_4) w (fun r1 u9_ H locs h w => ?_)
  obtain ⟨hz_r1, h⟩ := h
  obtain ⟨rfl, h⟩ := h
  refine lv_if_ne (pc := 7) (tgt := 16) hx hb dX8_bent_7 (by decide) (fun c_ => ?_) (fun c_ => ?_)
  · have h := h.2 c_
    refine lv_aload_n (pc := 16) hx hb dX8_bent_16 rfl (lv_at hl 0 rfl) ?_
    refine Cgf_0_1 (pc := 17) X w kw264 dX8_bent_17 ?_
    refine lv_iload_n (pc := 20) hx hb dX8_bent_20 rfl (lv_at hl 1 rfl) ?_
    refine Ccalli (rest := [.ref (ad 10)]) (CrunS (pc := 21) X w (okX8_landOf l hJ h) kw273 kmX8_landOf ⟨rfl, rfl⟩ ⟨by decide, by decide⟩ rfl hl.1 rfl (Nat.le_of_ble_eq_true rfl) dX8_bent_21) w (fun r2 u9_ H locs h w => ?_)
    obtain ⟨rfl, h⟩ := h
    refine lv_iload_n (pc := 24) hx hb dX8_bent_24 rfl (lv_at hl 1 rfl) ?_
    refine Ccalli (rest := [.int r2, .ref (ad 10)]) (CrunS (pc := 25) X w (okX8_productOf l hJ h) kw276 kmX8_productOf ⟨rfl, rfl⟩ ⟨by decide, by decide⟩ rfl hl.1 rfl (Nat.le_of_ble_eq_true rfl) dX8_bent_25) w (fun r3 u9_ H locs h w => ?_)
    obtain ⟨rfl, h⟩ := h
    refine lv_iload_n (pc := 28) hx hb dX8_bent_28 rfl (lv_at hl 1 rfl) ?_
    refine Ccalli (rest := [.int r3, .int r2, .ref (ad 10)]) (CrunS (pc := 29) X w (okX8_yearOf l hJ h) kw284 kmX8_yearOf ⟨rfl, rfl⟩ ⟨by decide, by decide⟩ rfl hl.1 rfl (Nat.le_of_ble_eq_true rfl) dX8_bent_29) w (fun r4 u9_ H locs h w => ?_)
    obtain ⟨rfl, h⟩ := h
    refine Ccallv (rest := []) (CrunV (pc := 32) X w (okX6_settle l hJ h) kw308 kmX6_settle ⟨rfl, rfl⟩ ⟨by decide, by decide⟩ (Crv_10 X w) rfl hl.1 rfl (Nat.le_of_ble_eq_true rfl) dX8_bent_32) w (fun u6 H locs h w => ?_)
    refine lv_aload_n (pc := 35) hx hb dX8_bent_35 rfl (lv_at hl 0 rfl) ?_
    refine Cgf_0_1 (pc := 36) X w kw264 dX8_bent_36 ?_
    refine Cgf_10_8 (pc := 39) X w kw309 dX8_bent_39 ?_
    refine lv_iload_n (pc := 42) hx hb dX8_bent_42 rfl (lv_at hl 1 rfl) ?_
    refine Cld_21 (pc := 43) X w h.1 dX8_bent_43 ?_
    have h := h.2
    exact Clret (pc := 44) X w h dX8_bent_44
  · have h := h.1 c_
    refine lv_bipush (pc := 10) (v := (-2 : Int32)) hx hb dX8_bent_10 (by decide) ?_
    refine Ccalll (rest := []) (CrunS (pc := 12) X w (okX8_refused l hJ h) kw305 kmX8_refused ⟨rfl, rfl⟩ ⟨by decide, by decide⟩ rfl hl.1 rfl (Nat.le_of_ble_eq_true rfl) dX8_bent_12) w (fun r7 u9_ H locs h w => ?_)
    obtain ⟨rfl, h⟩ := h
    exact Clret (pc := 15) X w h dX8_bent_15
set_option maxHeartbeats 4000000 in
set_option maxRecDepth 100000 in
theorem okX8_shape (l : Launch) {D : va_G} {g : Nat → ClassId} {ad : Nat → Nat} (hJ : CJ ad) {u : Mm} {a1 : Int32} {Q : Int64 → Mm → Prop} (h : wX8_shape u a1 Q) : Met l yX8_shape (Cond.code yX8_shape cX8_shape 2 (some .long) :: gt) ({ frames := 5, cells := 0, slots := 0, locals := 134 } : Room) (CPc D g ad u [.ref (ad 0), .int a1]) (va_Ql Q (CB D g ad) (CA ad)) 0 0 (CA ad) := by
  refine Met.ofW (cc := cX8_shape) (maxL := 2) (ret := (some .long)) (by decide) rfl ?_
  intro p e s m args below meth c s₁ B hml hv
  refine Centry (own := RX8) B hml hv hJ rfl (Nat.le_of_ble_eq_true rfl) (fun ls H locs X w hl => ?_)
  obtain ⟨⟨hx, hb, hml, hown, hts⟩, hr, hlocks, hK, hJ, hAA⟩ := id X
  have hl : lv_has ls 2 [(0, .ref (ad 0)), (1, .int a1)] := hl
  unfold wX8_shape at h
  refine lv_iload_n (pc := 0) hx hb dX8_shape_0 rfl (lv_at hl 1 rfl) ?_
  refine lv_sipush (pc := 1) (v := (720 : Int32)) hx hb dX8_shape_1 (by decide) ?_
  refine Ccalli (rest := []) (CrunS (pc := 4) X w (okX8_below l hJ h) kw23 kmX8_below ⟨rfl, rfl⟩ ⟨by decide, by decide⟩ rfl hl.1 rfl (Nat.le_of_ble_eq_true rfl) dX8_shape_4) w (fun r1 u9_ H locs h w => ?_)
  obtain ⟨hz_r1, h⟩ := h
  obtain ⟨rfl, h⟩ := h
  refine lv_if_eq (pc := 7) (tgt := 17) hx hb dX8_shape_7 (by decide) (fun c_ => ?_) (fun c_ => ?_)
  · have h := h.1 c_
    refine lv_bipush (pc := 17) (v := (-2 : Int32)) hx hb dX8_shape_17 (by decide) ?_
    refine Ccalll (rest := []) (CrunS (pc := 19) X w (okX8_refused l hJ h) kw305 kmX8_refused ⟨rfl, rfl⟩ ⟨by decide, by decide⟩ rfl hl.1 rfl (Nat.le_of_ble_eq_true rfl) dX8_shape_19) w (fun r2 u9_ H locs h w => ?_)
    obtain ⟨rfl, h⟩ := h
    exact Clret (pc := 22) X w h dX8_shape_22
  · have h := h.2 c_
    refine lv_iload_n (pc := 10) hx hb dX8_shape_10 rfl (lv_at hl 1 rfl) ?_
    refine Ccalli (rest := []) (CrunS (pc := 11) X w (okX8_isAnnual l hJ h) kw185 kmX8_isAnnual ⟨rfl, rfl⟩ ⟨by decide, by decide⟩ rfl hl.1 rfl (Nat.le_of_ble_eq_true rfl) dX8_shape_11) w (fun r3 u9_ H locs h w => ?_)
    obtain ⟨hz_r3, h⟩ := h
    obtain ⟨rfl, h⟩ := h
    refine lv_if_ne (pc := 14) (tgt := 23) hx hb dX8_shape_14 (by decide) (fun c_ => ?_) (fun c_ => ?_)
    · have h := h.2 c_
      refine lv_aload_n (pc := 23) hx hb dX8_shape_23 rfl (lv_at hl 0 rfl) ?_
      refine Cgf_0_1 (pc := 24) X w kw264 dX8_shape_24 ?_
      refine lv_iload_n (pc := 27) hx hb dX8_shape_27 rfl (lv_at hl 1 rfl) ?_
      refine Ccalli (rest := [.ref (ad 10)]) (CrunS (pc := 28) X w (okX8_landOf l hJ h) kw273 kmX8_landOf ⟨rfl, rfl⟩ ⟨by decide, by decide⟩ rfl hl.1 rfl (Nat.le_of_ble_eq_true rfl) dX8_shape_28) w (fun r4 u9_ H locs h w => ?_)
      obtain ⟨rfl, h⟩ := h
      refine lv_iload_n (pc := 31) hx hb dX8_shape_31 rfl (lv_at hl 1 rfl) ?_
      refine Ccalli (rest := [.int r4, .ref (ad 10)]) (CrunS (pc := 32) X w (okX8_productOf l hJ h) kw276 kmX8_productOf ⟨rfl, rfl⟩ ⟨by decide, by decide⟩ rfl hl.1 rfl (Nat.le_of_ble_eq_true rfl) dX8_shape_32) w (fun r5 u9_ H locs h w => ?_)
      obtain ⟨rfl, h⟩ := h
      refine lv_iload_n (pc := 35) hx hb dX8_shape_35 rfl (lv_at hl 1 rfl) ?_
      refine Ccalli (rest := [.int r5, .int r4, .ref (ad 10)]) (CrunS (pc := 36) X w (okX8_yearOf l hJ h) kw284 kmX8_yearOf ⟨rfl, rfl⟩ ⟨by decide, by decide⟩ rfl hl.1 rfl (Nat.le_of_ble_eq_true rfl) dX8_shape_36) w (fun r6 u9_ H locs h w => ?_)
      obtain ⟨rfl, h⟩ := h
      refine Ccallv (rest := []) (CrunV (pc := 39) X w (okX6_settle l hJ h) kw308 kmX6_settle ⟨rfl, rfl⟩ ⟨by decide, by decide⟩ (Crv_10 X w) rfl hl.1 rfl (Nat.le_of_ble_eq_true rfl) dX8_shape_39) w (fun u8 H locs h w => ?_)
      refine lv_aload_n (pc := 42) hx hb dX8_shape_42 rfl (lv_at hl 0 rfl) ?_
      refine Cgf_0_1 (pc := 43) X w kw264 dX8_shape_43 ?_
      refine lv_iload_n (pc := 46) hx hb dX8_shape_46 rfl (lv_at hl 1 rfl) ?_
      refine Ccalli (rest := []) (CrunV (pc := 47) X w (okX6_isAllSaid l hJ h) kw310 kmX6_isAllSaid ⟨rfl, rfl⟩ ⟨by decide, by decide⟩ (Crv_10 X w) rfl hl.1 rfl (Nat.le_of_ble_eq_true rfl) dX8_shape_47) w (fun r9 u9_ H locs h w => ?_)
      obtain ⟨hz_r9, h⟩ := h
      obtain ⟨rfl, h⟩ := h
      refine lv_if_eq (pc := 50) (tgt := 64) hx hb dX8_shape_50 (by decide) (fun c_ => ?_) (fun c_ => ?_)
      · have h := h.1 c_
        refine lv_bipush (pc := 64) (v := (-3 : Int32)) hx hb dX8_shape_64 (by decide) ?_
        refine Ccalll (rest := []) (CrunS (pc := 66) X w (okX8_refused l hJ h) kw305 kmX8_refused ⟨rfl, rfl⟩ ⟨by decide, by decide⟩ rfl hl.1 rfl (Nat.le_of_ble_eq_true rfl) dX8_shape_66) w (fun r10 u9_ H locs h w => ?_)
        obtain ⟨rfl, h⟩ := h
        exact Clret (pc := 69) X w h dX8_shape_69
      · have h := h.2 c_
        refine lv_aload_n (pc := 53) hx hb dX8_shape_53 rfl (lv_at hl 0 rfl) ?_
        refine Cgf_0_1 (pc := 54) X w kw264 dX8_shape_54 ?_
        refine lv_iload_n (pc := 57) hx hb dX8_shape_57 rfl (lv_at hl 1 rfl) ?_
        refine Ccalll (rest := []) (CrunV (pc := 58) X w (okX6_shapeOf l hJ h) kw314 kmX6_shapeOf ⟨rfl, rfl⟩ ⟨by decide, by decide⟩ (Crv_10 X w) rfl hl.1 rfl (Nat.le_of_ble_eq_true rfl) dX8_shape_58) w (fun r11 u9_ H locs h w => ?_)
        obtain ⟨rfl, h⟩ := h
        refine lv_goto (pc := 61) (tgt := 69) hx hb dX8_shape_61 (by decide) ?_
        exact Clret (pc := 69) X w h dX8_shape_69
    · have h := h.1 c_
      refine lv_bipush (pc := 17) (v := (-2 : Int32)) hx hb dX8_shape_17 (by decide) ?_
      refine Ccalll (rest := []) (CrunS (pc := 19) X w (okX8_refused l hJ h) kw305 kmX8_refused ⟨rfl, rfl⟩ ⟨by decide, by decide⟩ rfl hl.1 rfl (Nat.le_of_ble_eq_true rfl) dX8_shape_19) w (fun r12 u9_ H locs h w => ?_)
      obtain ⟨rfl, h⟩ := h
      exact Clret (pc := 22) X w h dX8_shape_22
set_option maxHeartbeats 4000000 in
set_option maxRecDepth 100000 in
theorem bX8_fix_52 {l : Launch} {p : Program} {e : Env} {s : State} {m : MethodId} {args : Array Value} {below : List Frame} {meth : Method} {c : Code} {D : va_G} {g : Nat → ClassId} {ad : Nat → Nat} {Q : Int32 → Mm → Prop} (X : CX p s m args meth c cX8_fix RX8 7 (some .int) (Cond.code yX8_fix cX8_fix 7 (some .int)) D g ad (CA ad)) : ∀ (n : Nat) (u : Mm) (x1 : Int32) (x2 : Int32) (x6 : Int32) (H : Heap) (locs : List Loc) (ls : Array Slot), wX8_fix_b52 Q n u x1 x2 x6 → CWd D g ad (CA ad) s u H locs → lv_has ls 7 [(0, .ref (ad 0)), (1, .int x1), (2, .int x2), (6, .int x6)] → W p l e ({ frames := 2, cells := 0, slots := 0, locals := 45 } : Room) s m args below meth c H locs 0 0 (MQ below (va_Qi Q (CB D g ad) (CA ad)) args s 0 0 (CA ad)) (F0 m 52 ls []) := by
  obtain ⟨⟨hx, hb, hml, hown, hts⟩, hr, hlocks, hK, hJ, hAA⟩ := id X
  intro n
  induction n with
  | zero =>
    intro u x1 x2 x6 H locs ls h
    exact False.elim h
  | succ n ih =>
    intro u x1 x2 x6 H locs ls h w hl
    unfold wX8_fix_b52 at h
    refine lv_iload (pc := 52) hx hb dX8_fix_52 (lv_at hl 3 rfl) ?_
    refine lv_iconst (pc := 54) (v := (3 : Int32)) hx hb dX8_fix_54 (by decide) ?_
    refine lv_icmp_ge (pc := 55) (tgt := 75) hx hb dX8_fix_55 (by decide) (fun c_ => ?_) (fun c_ => ?_)
    · have h := h.1 c_
      refine lv_iconst (pc := 75) (v := (1 : Int32)) hx hb dX8_fix_75 (by decide) ?_
      exact Ciret (pc := 76) X w h dX8_fix_76
    · have h := h.2 c_
      refine lv_aload_n (pc := 58) hx hb dX8_fix_58 rfl (lv_at hl 0 rfl) ?_
      refine Cgf_0_1 (pc := 59) X w kw264 dX8_fix_59 ?_
      refine lv_iload_n (pc := 62) hx hb dX8_fix_62 rfl (lv_at hl 1 rfl) ?_
      refine lv_iload_n (pc := 63) hx hb dX8_fix_63 rfl (lv_at hl 2 rfl) ?_
      refine lv_iload (pc := 64) hx hb dX8_fix_64 (lv_at hl 3 rfl) ?_
      refine Ccallv (rest := []) (CrunV (pc := 66) X w (okX6_forget l hJ h) kw285 kmX6_forget ⟨rfl, rfl⟩ ⟨by decide, by decide⟩ (Crv_10 X w) rfl hl.1 rfl (Nat.le_of_ble_eq_true rfl) dX8_fix_66) w (fun u2 H locs h w => ?_)
      obtain ⟨x6_3, e_⟩ : ∃ y : Int32, y = x6 + (1 : Int32) := ⟨_, rfl⟩
      have h := h x6_3 e_
      refine lv_iinc (pc := 69) (v := x6_3) (lv' := [(6, .int x6_3), (0, .ref (ad 0)), (1, .int x1), (2, .int x2)]) hx hb dX8_fix_69 hl (k := 3) rfl (by rw [e_]; rfl) (by decide) rfl (fun ls hl => ?_)
      refine lv_goto (pc := 72) (tgt := 52) hx hb dX8_fix_72 (by decide) ?_
      exact ih u2 x1 x2 x6_3 H locs ls h w (lv_sub hl [1, 2, 3, 0] rfl)
set_option maxHeartbeats 4000000 in
set_option maxRecDepth 100000 in
theorem okX8_fix (l : Launch) {D : va_G} {g : Nat → ClassId} {ad : Nat → Nat} (hJ : CJ ad) {u : Mm} {a1 : Int32} {a2 : Int32} {a3 : Int32} {a4 : Int32} {Q : Int32 → Mm → Prop} (h : wX8_fix u a1 a2 a3 a4 Q) : Met l yX8_fix (Cond.code yX8_fix cX8_fix 7 (some .int) :: gt) ({ frames := 2, cells := 0, slots := 0, locals := 45 } : Room) (CPc D g ad u [.ref (ad 0), .int a1, .int a2, .int a3, .int a4]) (va_Qi Q (CB D g ad) (CA ad)) 0 0 (CA ad) := by
  refine Met.ofW (cc := cX8_fix) (maxL := 7) (ret := (some .int)) (by decide) rfl ?_
  intro p e s m args below meth c s₁ B hml hv
  refine Centry (own := RX8) B hml hv hJ rfl (Nat.le_of_ble_eq_true rfl) (fun ls H locs X w hl => ?_)
  obtain ⟨⟨hx, hb, hml, hown, hts⟩, hr, hlocks, hK, hJ, hAA⟩ := id X
  have hl : lv_has ls 7 [(0, .ref (ad 0)), (1, .int a1), (2, .int a2), (3, .int a3), (4, .int a4)] := hl
  unfold wX8_fix at h
  refine lv_iload_n (pc := 0) hx hb dX8_fix_0 rfl (lv_at hl 1 rfl) ?_
  refine lv_iload_n (pc := 1) hx hb dX8_fix_1 rfl (lv_at hl 2 rfl) ?_
  refine lv_iload_n (pc := 2) hx hb dX8_fix_2 rfl (lv_at hl 3 rfl) ?_
  refine Ccalli (rest := []) (CrunS (pc := 3) X w (okX8_isLine l hJ h) kw269 kmX8_isLine ⟨rfl, rfl⟩ ⟨by decide, by decide⟩ rfl hl.1 rfl (Nat.le_of_ble_eq_true rfl) dX8_fix_3) w (fun r1 u9_ H locs h w => ?_)
  obtain ⟨hz_r1, h⟩ := h
  obtain ⟨rfl, h⟩ := h
  refine lv_if_ne (pc := 6) (tgt := 12) hx hb dX8_fix_6 (by decide) (fun c_ => ?_) (fun c_ => ?_)
  · have h := h.2 c_
    refine lv_iload_n (pc := 12) hx hb dX8_fix_12 rfl (lv_at hl 1 rfl) ?_
    refine lv_iload_n (pc := 13) hx hb dX8_fix_13 rfl (lv_at hl 2 rfl) ?_
    refine lv_iload_n (pc := 14) hx hb dX8_fix_14 rfl (lv_at hl 3 rfl) ?_
    refine Ccalli (rest := []) (CrunS (pc := 15) X w (okX8_lineOf l hJ h) kw318 kmX8_lineOf ⟨rfl, rfl⟩ ⟨by decide, by decide⟩ rfl hl.1 rfl (Nat.le_of_ble_eq_true rfl) dX8_fix_15) w (fun r2 u9_ H locs h w => ?_)
    obtain ⟨rfl, h⟩ := h
    refine lv_istore (pc := 18) (lv' := [(5, .int r2), (0, .ref (ad 0)), (1, .int a1), (2, .int a2), (3, .int a3), (4, .int a4)]) hx hb dX8_fix_18 hl (by decide) rfl (fun ls hl => ?_)
    refine lv_aload_n (pc := 20) hx hb dX8_fix_20 rfl (lv_at hl 1 rfl) ?_
    refine Cgf_0_1 (pc := 21) X w kw264 dX8_fix_21 ?_
    refine Cgf_10_3 (pc := 24) X w kw319 dX8_fix_24 ?_
    refine lv_iload (pc := 27) hx hb dX8_fix_27 (lv_at hl 0 rfl) ?_
    refine Cld_16 (pc := 29) X w h.1 dX8_fix_29 ?_
    have h := h.2
    refine lv_iload (pc := 30) hx hb dX8_fix_30 (lv_at hl 5 rfl) ?_
    refine lv_icmp_ne (pc := 32) (tgt := 37) hx hb dX8_fix_32 (by decide) (fun c_ => ?_) (fun c_ => ?_)
    · have h := h.2 c_
      refine lv_aload_n (pc := 37) hx hb dX8_fix_37 rfl (lv_at hl 1 rfl) ?_
      refine Cgf_0_1 (pc := 38) X w kw264 dX8_fix_38 ?_
      refine Cgf_10_3 (pc := 41) X w kw319 dX8_fix_41 ?_
      refine lv_iload (pc := 44) hx hb dX8_fix_44 (lv_at hl 0 rfl) ?_
      refine lv_iload (pc := 46) hx hb dX8_fix_46 (lv_at hl 5 rfl) ?_
      refine Cst_16 (pc := 48) X w h.1 dX8_fix_48 (fun H locs w => ?_)
      have h := h.2
      obtain ⟨u3, e_⟩ : ∃ y : Mm, y = s32 u 16 r2.toNatClampNeg (vp_nar .boolean a4) := ⟨_, rfl⟩
      rw [← e_] at w
      have h := h u3 e_
      refine lv_iconst (pc := 49) (v := (0 : Int32)) hx hb dX8_fix_49 (by decide) ?_
      refine lv_istore (pc := 50) (lv' := [(6, .int (0 : Int32)), (5, .int r2), (0, .ref (ad 0)), (1, .int a1), (2, .int a2), (3, .int a3), (4, .int a4)]) hx hb dX8_fix_50 hl (by decide) rfl (fun ls hl => ?_)
      obtain ⟨n9, h⟩ := h
      exact bX8_fix_52 X n9 u3 a1 a2 (0 : Int32) H locs ls h w (lv_sub hl [2, 3, 4, 0] rfl)
    · have h := h.1 c_
      refine lv_iconst (pc := 35) (v := (0 : Int32)) hx hb dX8_fix_35 (by decide) ?_
      exact Ciret (pc := 36) X w h dX8_fix_36
  · have h := h.1 c_
    refine lv_bipush (pc := 9) (v := (-2 : Int32)) hx hb dX8_fix_9 (by decide) ?_
    exact Ciret (pc := 11) X w h dX8_fix_11
set_option maxHeartbeats 4000000 in
set_option maxRecDepth 100000 in
theorem okX8_rule (l : Launch) {D : va_G} {g : Nat → ClassId} {ad : Nat → Nat} (hJ : CJ ad) {u : Mm} {a1 : Int32} {Q : Int32 → Mm → Prop} (h : wX8_rule u a1 Q) : Met l yX8_rule (Cond.code yX8_rule cX8_rule 3 (some .int) :: gt) ({ frames := 1, cells := 0, slots := 0, locals := 22 } : Room) (CPc D g ad u [.ref (ad 0), .int a1]) (va_Qi Q (CB D g ad) (CA ad)) 0 0 (CA ad) := by
  refine Met.ofW (cc := cX8_rule) (maxL := 3) (ret := (some .int)) (by decide) rfl ?_
  intro p e s m args below meth c s₁ B hml hv
  refine Centry (own := RX8) B hml hv hJ rfl (Nat.le_of_ble_eq_true rfl) (fun ls H locs X w hl => ?_)
  obtain ⟨⟨hx, hb, hml, hown, hts⟩, hr, hlocks, hK, hJ, hAA⟩ := id X
  have hl : lv_has ls 3 [(0, .ref (ad 0)), (1, .int a1)] := hl
  unfold wX8_rule at h
  refine lv_iload_n (pc := 0) hx hb dX8_rule_0 rfl (lv_at hl 1 rfl) ?_
  refine lv_iconst (pc := 1) (v := (0 : Int32)) hx hb dX8_rule_1 (by decide) ?_
  refine lv_iconst (pc := 2) (v := (1 : Int32)) hx hb dX8_rule_2 (by decide) ?_
  refine Ccalli (rest := []) (CrunS (pc := 3) X w (okX8_within l hJ h) kw258 kmX8_within ⟨rfl, rfl⟩ ⟨by decide, by decide⟩ rfl hl.1 rfl (Nat.le_of_ble_eq_true rfl) dX8_rule_3) w (fun r1 u9_ H locs h w => ?_)
  obtain ⟨hz_r1, h⟩ := h
  obtain ⟨rfl, h⟩ := h
  refine lv_if_ne (pc := 6) (tgt := 12) hx hb dX8_rule_6 (by decide) (fun c_ => ?_) (fun c_ => ?_)
  · have h := h.2 c_
    refine lv_aload_n (pc := 12) hx hb dX8_rule_12 rfl (lv_at hl 0 rfl) ?_
    refine Cgf_0_1 (pc := 13) X w kw264 dX8_rule_13 ?_
    refine Cgf_10_10 (pc := 16) X w kw320 dX8_rule_16 ?_
    refine lv_topi (fun x2_2 e_ => ?_)
    have h := h x2_2 e_
    refine lv_istore_n (pc := 19) (lv' := [(2, .int x2_2), (0, .ref (ad 0)), (1, .int a1)]) hx hb dX8_rule_19 rfl hl (by decide) rfl (fun ls hl => ?_)
    refine lv_aload_n (pc := 20) hx hb dX8_rule_20 rfl (lv_at hl 1 rfl) ?_
    refine Cgf_0_1 (pc := 21) X w kw264 dX8_rule_21 ?_
    refine lv_iload_n (pc := 24) hx hb dX8_rule_24 rfl (lv_at hl 2 rfl) ?_
    refine Cpf_10_10 (pc := 25) X w kw320 dX8_rule_25 (fun H locs w => ?_)
    obtain ⟨u3, e_⟩ : ∃ y : Mm, y = s32 u 270 0 a1 := ⟨_, rfl⟩
    rw [← e_] at w
    have h := h u3 e_
    refine lv_aload_n (pc := 28) hx hb dX8_rule_28 rfl (lv_at hl 1 rfl) ?_
    refine Cgf_0_1 (pc := 29) X w kw264 dX8_rule_29 ?_
    refine Ccallv (rest := []) (CrunV (pc := 32) X w (okX6_forgetAll l hJ h) kw265 kmX6_forgetAll ⟨rfl, rfl⟩ ⟨by decide, by decide⟩ (Crv_10 X w) rfl hl.1 rfl (Nat.le_of_ble_eq_true rfl) dX8_rule_32) w (fun u5 H locs h w => ?_)
    refine lv_iload_n (pc := 35) hx hb dX8_rule_35 rfl (lv_at hl 0 rfl) ?_
    exact Ciret (pc := 36) X w h dX8_rule_36
  · have h := h.1 c_
    refine lv_bipush (pc := 9) (v := (-2 : Int32)) hx hb dX8_rule_9 (by decide) ?_
    exact Ciret (pc := 11) X w h dX8_rule_11
set_option maxHeartbeats 4000000 in
set_option maxRecDepth 100000 in
theorem okX8_isBalance (l : Launch) {D : va_G} {g : Nat → ClassId} {ad : Nat → Nat} (hJ : CJ ad) {u : Mm} {a0 : Int32} {a1 : Int32} {a2 : Int32} {Q : Int32 → Prop} (h : wX8_isBalance a0 a1 a2 Q) : Met l yX8_isBalance (Cond.code yX8_isBalance cX8_isBalance 3 (some .boolean) :: gt) ({ frames := 1, cells := 0, slots := 0, locals := 21 } : Room) (CPc D g ad u [.int a0, .int a1, .int a2]) (va_Qi (fun r u1 => bz r ∧ (u = u1 ∧ Q r)) (CB D g ad) (CA ad)) 0 0 (CA ad) := by
  refine Met.ofW (cc := cX8_isBalance) (maxL := 3) (ret := (some .boolean)) (by decide) rfl ?_
  intro p e s m args below meth c s₁ B hml hv
  refine Centry (own := RX8) B hml hv hJ rfl (Nat.le_of_ble_eq_true rfl) (fun ls H locs X w hl => ?_)
  obtain ⟨⟨hx, hb, hml, hown, hts⟩, hr, hlocks, hK, hJ, hAA⟩ := id X
  have hl : lv_has ls 3 [(0, .int a0), (1, .int a1), (2, .int a2)] := hl
  unfold wX8_isBalance at h
  refine lv_iload_n (pc := 0) hx hb dX8_isBalance_0 rfl (lv_at hl 0 rfl) ?_
  refine lv_iconst (pc := 1) (v := (2 : Int32)) hx hb dX8_isBalance_1 (by decide) ?_
  refine Ccalli (rest := []) (CrunS (pc := 2) X w (okX8_below l hJ h) kw23 kmX8_below ⟨rfl, rfl⟩ ⟨by decide, by decide⟩ rfl hl.1 rfl (Nat.le_of_ble_eq_true rfl) dX8_isBalance_2) w (fun r1 u9_ H locs h w => ?_)
  obtain ⟨hz_r1, h⟩ := h
  obtain ⟨rfl, h⟩ := h
  refine lv_if_eq (pc := 5) (tgt := 29) hx hb dX8_isBalance_5 (by decide) (fun c_ => ?_) (fun c_ => ?_)
  · have h := h.1 c_
    refine lv_iconst (pc := 29) (v := (0 : Int32)) hx hb dX8_isBalance_29 (by decide) ?_
    exact Czret (pc := 30) X w rfl ⟨rfl, h⟩ dX8_isBalance_30
  · have h := h.2 c_
    refine lv_iload_n (pc := 8) hx hb dX8_isBalance_8 rfl (lv_at hl 1 rfl) ?_
    refine lv_iconst (pc := 9) (v := (4 : Int32)) hx hb dX8_isBalance_9 (by decide) ?_
    refine Ccalli (rest := []) (CrunS (pc := 10) X w (okX8_below l hJ h) kw23 kmX8_below ⟨rfl, rfl⟩ ⟨by decide, by decide⟩ rfl hl.1 rfl (Nat.le_of_ble_eq_true rfl) dX8_isBalance_10) w (fun r2 u9_ H locs h w => ?_)
    obtain ⟨hz_r2, h⟩ := h
    obtain ⟨rfl, h⟩ := h
    refine lv_if_eq (pc := 13) (tgt := 29) hx hb dX8_isBalance_13 (by decide) (fun c_ => ?_) (fun c_ => ?_)
    · have h := h.1 c_
      refine lv_iconst (pc := 29) (v := (0 : Int32)) hx hb dX8_isBalance_29 (by decide) ?_
      exact Czret (pc := 30) X w rfl ⟨rfl, h⟩ dX8_isBalance_30
    · have h := h.2 c_
      refine lv_iload_n (pc := 16) hx hb dX8_isBalance_16 rfl (lv_at hl 2 rfl) ?_
      refine lv_bipush (pc := 17) (v := (12 : Int32)) hx hb dX8_isBalance_17 (by decide) ?_
      refine Ccalli (rest := []) (CrunS (pc := 19) X w (okX8_below l hJ h) kw23 kmX8_below ⟨rfl, rfl⟩ ⟨by decide, by decide⟩ rfl hl.1 rfl (Nat.le_of_ble_eq_true rfl) dX8_isBalance_19) w (fun r3 u9_ H locs h w => ?_)
      obtain ⟨hz_r3, h⟩ := h
      obtain ⟨rfl, h⟩ := h
      refine lv_if_eq (pc := 22) (tgt := 29) hx hb dX8_isBalance_22 (by decide) (fun c_ => ?_) (fun c_ => ?_)
      · have h := h.1 c_
        refine lv_iconst (pc := 29) (v := (0 : Int32)) hx hb dX8_isBalance_29 (by decide) ?_
        exact Czret (pc := 30) X w rfl ⟨rfl, h⟩ dX8_isBalance_30
      · have h := h.2 c_
        refine lv_iconst (pc := 25) (v := (1 : Int32)) hx hb dX8_isBalance_25 (by decide) ?_
        refine lv_goto (pc := 26) (tgt := 30) hx hb dX8_isBalance_26 (by decide) ?_
        exact Czret (pc := 30) X w rfl ⟨rfl, h⟩ dX8_isBalance_30
set_option maxHeartbeats 4000000 in
set_option maxRecDepth 100000 in
theorem okX8_gap (l : Launch) {D : va_G} {g : Nat → ClassId} {ad : Nat → Nat} (hJ : CJ ad) {u : Mm} {a1 : Int32} {a2 : Int32} {a3 : Int32} {Q : Int64 → Mm → Prop} (h : wX8_gap u a1 a2 a3 Q) : Met l yX8_gap (Cond.code yX8_gap cX8_gap 4 (some .long) :: gt) ({ frames := 5, cells := 0, slots := 0, locals := 134 } : Room) (CPc D g ad u [.ref (ad 0), .int a1, .int a2, .int a3]) (va_Ql Q (CB D g ad) (CA ad)) 0 0 (CA ad) := by
  refine Met.ofW (cc := cX8_gap) (maxL := 4) (ret := (some .long)) (by decide) rfl ?_
  intro p e s m args below meth c s₁ B hml hv
  refine Centry (own := RX8) B hml hv hJ rfl (Nat.le_of_ble_eq_true rfl) (fun ls H locs X w hl => ?_)
  obtain ⟨⟨hx, hb, hml, hown, hts⟩, hr, hlocks, hK, hJ, hAA⟩ := id X
  have hl : lv_has ls 4 [(0, .ref (ad 0)), (1, .int a1), (2, .int a2), (3, .int a3)] := hl
  unfold wX8_gap at h
  refine lv_iload_n (pc := 0) hx hb dX8_gap_0 rfl (lv_at hl 1 rfl) ?_
  refine lv_iload_n (pc := 1) hx hb dX8_gap_1 rfl (lv_at hl 2 rfl) ?_
  refine lv_iload_n (pc := 2) hx hb dX8_gap_2 rfl (lv_at hl 3 rfl) ?_
  refine Ccalli (rest := []) (CrunS (pc := 3) X w (okX8_isBalance l hJ h) kw321 kmX8_isBalance ⟨rfl, rfl⟩ ⟨by decide, by decide⟩ rfl hl.1 rfl (Nat.le_of_ble_eq_true rfl) dX8_gap_3) w (fun r1 u9_ H locs h w => ?_)
  obtain ⟨hz_r1, h⟩ := h
  obtain ⟨rfl, h⟩ := h
  refine lv_if_ne (pc := 6) (tgt := 15) hx hb dX8_gap_6 (by decide) (fun c_ => ?_) (fun c_ => ?_)
  · have h := h.2 c_
    refine lv_aload_n (pc := 15) hx hb dX8_gap_15 rfl (lv_at hl 0 rfl) ?_
    refine Cgf_0_1 (pc := 16) X w kw264 dX8_gap_16 ?_
    refine lv_iload_n (pc := 19) hx hb dX8_gap_19 rfl (lv_at hl 1 rfl) ?_
    refine lv_iload_n (pc := 20) hx hb dX8_gap_20 rfl (lv_at hl 2 rfl) ?_
    refine lv_iload_n (pc := 21) hx hb dX8_gap_21 rfl (lv_at hl 3 rfl) ?_
    refine lv_iconst (pc := 22) (v := (4 : Int32)) hx hb dX8_gap_22 (by decide) ?_
    refine lv_idiv (pc := 23) hx hb dX8_gap_23 (by decide) ?_
    refine Ccallv (rest := []) (CrunV (pc := 24) X w (okX6_settle l hJ h) kw308 kmX6_settle ⟨rfl, rfl⟩ ⟨by decide, by decide⟩ (Crv_10 X w) rfl hl.1 rfl (Nat.le_of_ble_eq_true rfl) dX8_gap_24) w (fun u3 H locs h w => ?_)
    refine lv_aload_n (pc := 27) hx hb dX8_gap_27 rfl (lv_at hl 0 rfl) ?_
    refine Cgf_0_1 (pc := 28) X w kw264 dX8_gap_28 ?_
    refine lv_iload_n (pc := 31) hx hb dX8_gap_31 rfl (lv_at hl 1 rfl) ?_
    refine lv_iload_n (pc := 32) hx hb dX8_gap_32 rfl (lv_at hl 2 rfl) ?_
    refine lv_iload_n (pc := 33) hx hb dX8_gap_33 rfl (lv_at hl 3 rfl) ?_
    refine Ccalll (rest := []) (CrunV (pc := 34) X w (okX6_gapOf l hJ h) kw324 kmX6_gapOf ⟨rfl, rfl⟩ ⟨by decide, by decide⟩ (Crv_10 X w) rfl hl.1 rfl (Nat.le_of_ble_eq_true rfl) dX8_gap_34) w (fun r4 u9_ H locs h w => ?_)
    obtain ⟨rfl, h⟩ := h
    exact Clret (pc := 37) X w h dX8_gap_37
  · have h := h.1 c_
    refine lv_bipush (pc := 9) (v := (-2 : Int32)) hx hb dX8_gap_9 (by decide) ?_
    refine Ccalll (rest := []) (CrunS (pc := 11) X w (okX8_refused l hJ h) kw305 kmX8_refused ⟨rfl, rfl⟩ ⟨by decide, by decide⟩ rfl hl.1 rfl (Nat.le_of_ble_eq_true rfl) dX8_gap_11) w (fun r5 u9_ H locs h w => ?_)
    obtain ⟨rfl, h⟩ := h
    exact Clret (pc := 14) X w h dX8_gap_14
set_option maxHeartbeats 4000000 in
set_option maxRecDepth 100000 in
theorem okX8_closed (l : Launch) {D : va_G} {g : Nat → ClassId} {ad : Nat → Nat} (hJ : CJ ad) {u : Mm} {a1 : Int32} {Q : Int64 → Mm → Prop} (h : wX8_closed u a1 Q) : Met l yX8_closed (Cond.code yX8_closed cX8_closed 2 (some .long) :: gt) ({ frames := 5, cells := 0, slots := 0, locals := 134 } : Room) (CPc D g ad u [.ref (ad 0), .int a1]) (va_Ql Q (CB D g ad) (CA ad)) 0 0 (CA ad) := by
  refine Met.ofW (cc := cX8_closed) (maxL := 2) (ret := (some .long)) (by decide) rfl ?_
  intro p e s m args below meth c s₁ B hml hv
  refine Centry (own := RX8) B hml hv hJ rfl (Nat.le_of_ble_eq_true rfl) (fun ls H locs X w hl => ?_)
  obtain ⟨⟨hx, hb, hml, hown, hts⟩, hr, hlocks, hK, hJ, hAA⟩ := id X
  have hl : lv_has ls 2 [(0, .ref (ad 0)), (1, .int a1)] := hl
  unfold wX8_closed at h
  refine lv_iload_n (pc := 0) hx hb dX8_closed_0 rfl (lv_at hl 1 rfl) ?_
  refine lv_sipush (pc := 1) (v := (576 : Int32)) hx hb dX8_closed_1 (by decide) ?_
  refine Ccalli (rest := []) (CrunS (pc := 4) X w (okX8_below l hJ h) kw23 kmX8_below ⟨rfl, rfl⟩ ⟨by decide, by decide⟩ rfl hl.1 rfl (Nat.le_of_ble_eq_true rfl) dX8_closed_4) w (fun r1 u9_ H locs h w => ?_)
  obtain ⟨hz_r1, h⟩ := h
  obtain ⟨rfl, h⟩ := h
  refine lv_if_ne (pc := 7) (tgt := 16) hx hb dX8_closed_7 (by decide) (fun c_ => ?_) (fun c_ => ?_)
  · have h := h.2 c_
    refine lv_aload_n (pc := 16) hx hb dX8_closed_16 rfl (lv_at hl 0 rfl) ?_
    refine Cgf_0_1 (pc := 17) X w kw264 dX8_closed_17 ?_
    refine lv_iload_n (pc := 20) hx hb dX8_closed_20 rfl (lv_at hl 1 rfl) ?_
    refine Ccalli (rest := [.ref (ad 10)]) (CrunS (pc := 21) X w (okX8_landOf l hJ h) kw273 kmX8_landOf ⟨rfl, rfl⟩ ⟨by decide, by decide⟩ rfl hl.1 rfl (Nat.le_of_ble_eq_true rfl) dX8_closed_21) w (fun r2 u9_ H locs h w => ?_)
    obtain ⟨rfl, h⟩ := h
    refine lv_iload_n (pc := 24) hx hb dX8_closed_24 rfl (lv_at hl 1 rfl) ?_
    refine Ccalli (rest := [.int r2, .ref (ad 10)]) (CrunS (pc := 25) X w (okX8_productOf l hJ h) kw276 kmX8_productOf ⟨rfl, rfl⟩ ⟨by decide, by decide⟩ rfl hl.1 rfl (Nat.le_of_ble_eq_true rfl) dX8_closed_25) w (fun r3 u9_ H locs h w => ?_)
    obtain ⟨rfl, h⟩ := h
    refine lv_iload_n (pc := 28) hx hb dX8_closed_28 rfl (lv_at hl 1 rfl) ?_
    refine Ccalli (rest := [.int r3, .int r2, .ref (ad 10)]) (CrunS (pc := 29) X w (okX8_yearOf l hJ h) kw284 kmX8_yearOf ⟨rfl, rfl⟩ ⟨by decide, by decide⟩ rfl hl.1 rfl (Nat.le_of_ble_eq_true rfl) dX8_closed_29) w (fun r4 u9_ H locs h w => ?_)
    obtain ⟨rfl, h⟩ := h
    refine Ccallv (rest := []) (CrunV (pc := 32) X w (okX6_settle l hJ h) kw308 kmX6_settle ⟨rfl, rfl⟩ ⟨by decide, by decide⟩ (Crv_10 X w) rfl hl.1 rfl (Nat.le_of_ble_eq_true rfl) dX8_closed_32) w (fun u6 H locs h w => ?_)
    refine lv_aload_n (pc := 35) hx hb dX8_closed_35 rfl (lv_at hl 0 rfl) ?_
    refine Cgf_0_1 (pc := 36) X w kw264 dX8_closed_36 ?_
    refine Cgf_10_9 (pc := 39) X w kw325 dX8_closed_39 ?_
    refine lv_iload_n (pc := 42) hx hb dX8_closed_42 rfl (lv_at hl 1 rfl) ?_
    refine Cld_22 (pc := 43) X w h.1 dX8_closed_43 ?_
    have h := h.2
    exact Clret (pc := 44) X w h dX8_closed_44
  · have h := h.1 c_
    refine lv_bipush (pc := 10) (v := (-2 : Int32)) hx hb dX8_closed_10 (by decide) ?_
    refine Ccalll (rest := []) (CrunS (pc := 12) X w (okX8_refused l hJ h) kw305 kmX8_refused ⟨rfl, rfl⟩ ⟨by decide, by decide⟩ rfl hl.1 rfl (Nat.le_of_ble_eq_true rfl) dX8_closed_12) w (fun r7 u9_ H locs h w => ?_)
    obtain ⟨rfl, h⟩ := h
    exact Clret (pc := 15) X w h dX8_closed_15
set_option maxHeartbeats 4000000 in
set_option maxRecDepth 100000 in
theorem okX8_moved (l : Launch) {D : va_G} {g : Nat → ClassId} {ad : Nat → Nat} (hJ : CJ ad) {u : Mm} {a1 : Int32} {a2 : Int32} {a3 : Int32} {Q : Int64 → Mm → Prop} (h : wX8_moved u a1 a2 a3 Q) : Met l yX8_moved (Cond.code yX8_moved cX8_moved 4 (some .long) :: gt) ({ frames := 5, cells := 0, slots := 0, locals := 134 } : Room) (CPc D g ad u [.ref (ad 0), .int a1, .int a2, .int a3]) (va_Ql Q (CB D g ad) (CA ad)) 0 0 (CA ad) := by
  refine Met.ofW (cc := cX8_moved) (maxL := 4) (ret := (some .long)) (by decide) rfl ?_
  intro p e s m args below meth c s₁ B hml hv
  refine Centry (own := RX8) B hml hv hJ rfl (Nat.le_of_ble_eq_true rfl) (fun ls H locs X w hl => ?_)
  obtain ⟨⟨hx, hb, hml, hown, hts⟩, hr, hlocks, hK, hJ, hAA⟩ := id X
  have hl : lv_has ls 4 [(0, .ref (ad 0)), (1, .int a1), (2, .int a2), (3, .int a3)] := hl
  unfold wX8_moved at h
  refine lv_iload_n (pc := 0) hx hb dX8_moved_0 rfl (lv_at hl 1 rfl) ?_
  refine lv_iload_n (pc := 1) hx hb dX8_moved_1 rfl (lv_at hl 2 rfl) ?_
  refine lv_iload_n (pc := 2) hx hb dX8_moved_2 rfl (lv_at hl 3 rfl) ?_
  refine Ccalli (rest := []) (CrunS (pc := 3) X w (okX8_isBalance l hJ h) kw321 kmX8_isBalance ⟨rfl, rfl⟩ ⟨by decide, by decide⟩ rfl hl.1 rfl (Nat.le_of_ble_eq_true rfl) dX8_moved_3) w (fun r1 u9_ H locs h w => ?_)
  obtain ⟨hz_r1, h⟩ := h
  obtain ⟨rfl, h⟩ := h
  refine lv_if_ne (pc := 6) (tgt := 15) hx hb dX8_moved_6 (by decide) (fun c_ => ?_) (fun c_ => ?_)
  · have h := h.2 c_
    refine lv_aload_n (pc := 15) hx hb dX8_moved_15 rfl (lv_at hl 0 rfl) ?_
    refine Cgf_0_1 (pc := 16) X w kw264 dX8_moved_16 ?_
    refine lv_iload_n (pc := 19) hx hb dX8_moved_19 rfl (lv_at hl 1 rfl) ?_
    refine lv_iload_n (pc := 20) hx hb dX8_moved_20 rfl (lv_at hl 2 rfl) ?_
    refine lv_iload_n (pc := 21) hx hb dX8_moved_21 rfl (lv_at hl 3 rfl) ?_
    refine lv_iconst (pc := 22) (v := (4 : Int32)) hx hb dX8_moved_22 (by decide) ?_
    refine lv_idiv (pc := 23) hx hb dX8_moved_23 (by decide) ?_
    refine Ccallv (rest := []) (CrunV (pc := 24) X w (okX6_settle l hJ h) kw308 kmX6_settle ⟨rfl, rfl⟩ ⟨by decide, by decide⟩ (Crv_10 X w) rfl hl.1 rfl (Nat.le_of_ble_eq_true rfl) dX8_moved_24) w (fun u3 H locs h w => ?_)
    refine lv_aload_n (pc := 27) hx hb dX8_moved_27 rfl (lv_at hl 0 rfl) ?_
    refine Cgf_0_1 (pc := 28) X w kw264 dX8_moved_28 ?_
    refine lv_iload_n (pc := 31) hx hb dX8_moved_31 rfl (lv_at hl 1 rfl) ?_
    refine lv_iload_n (pc := 32) hx hb dX8_moved_32 rfl (lv_at hl 2 rfl) ?_
    refine lv_iload_n (pc := 33) hx hb dX8_moved_33 rfl (lv_at hl 3 rfl) ?_
    refine Ccalli (rest := []) (CrunV (pc := 34) X w (okX6_isOpen l hJ h) kw326 kmX6_isOpen ⟨rfl, rfl⟩ ⟨by decide, by decide⟩ (Crv_10 X w) rfl hl.1 rfl (Nat.le_of_ble_eq_true rfl) dX8_moved_34) w (fun r4 u9_ H locs h w => ?_)
    obtain ⟨hz_r4, h⟩ := h
    obtain ⟨rfl, h⟩ := h
    refine lv_if_eq (pc := 37) (tgt := 46) hx hb dX8_moved_37 (by decide) (fun c_ => ?_) (fun c_ => ?_)
    · have h := h.1 c_
      refine lv_aload_n (pc := 46) hx hb dX8_moved_46 rfl (lv_at hl 0 rfl) ?_
      refine Cgf_0_1 (pc := 47) X w kw264 dX8_moved_47 ?_
      refine lv_iload_n (pc := 50) hx hb dX8_moved_50 rfl (lv_at hl 1 rfl) ?_
      refine lv_iload_n (pc := 51) hx hb dX8_moved_51 rfl (lv_at hl 2 rfl) ?_
      refine lv_iload_n (pc := 52) hx hb dX8_moved_52 rfl (lv_at hl 3 rfl) ?_
      refine Ccalll (rest := []) (CrunV (pc := 53) X w (okX6_movesOf l hJ h) kw327 kmX6_movesOf ⟨rfl, rfl⟩ ⟨by decide, by decide⟩ (Crv_10 X w) rfl hl.1 rfl (Nat.le_of_ble_eq_true rfl) dX8_moved_53) w (fun r5 u9_ H locs h w => ?_)
      obtain ⟨rfl, h⟩ := h
      exact Clret (pc := 56) X w h dX8_moved_56
    · have h := h.2 c_
      refine lv_bipush (pc := 40) (v := (-3 : Int32)) hx hb dX8_moved_40 (by decide) ?_
      refine Ccalll (rest := []) (CrunS (pc := 42) X w (okX8_refused l hJ h) kw305 kmX8_refused ⟨rfl, rfl⟩ ⟨by decide, by decide⟩ rfl hl.1 rfl (Nat.le_of_ble_eq_true rfl) dX8_moved_42) w (fun r6 u9_ H locs h w => ?_)
      obtain ⟨rfl, h⟩ := h
      exact Clret (pc := 45) X w h dX8_moved_45
  · have h := h.1 c_
    refine lv_bipush (pc := 9) (v := (-2 : Int32)) hx hb dX8_moved_9 (by decide) ?_
    refine Ccalll (rest := []) (CrunS (pc := 11) X w (okX8_refused l hJ h) kw305 kmX8_refused ⟨rfl, rfl⟩ ⟨by decide, by decide⟩ rfl hl.1 rfl (Nat.le_of_ble_eq_true rfl) dX8_moved_11) w (fun r7 u9_ H locs h w => ?_)
    obtain ⟨rfl, h⟩ := h
    exact Clret (pc := 14) X w h dX8_moved_14
set_option maxHeartbeats 4000000 in
set_option maxRecDepth 100000 in
theorem okX8_total (l : Launch) {D : va_G} {g : Nat → ClassId} {ad : Nat → Nat} (hJ : CJ ad) {u : Mm} {a1 : Int32} {a2 : Int32} {a3 : Int32} {a4 : Int32} {Q : Int64 → Mm → Prop} (h : wX8_total u a1 a2 a3 a4 Q) : Met l yX8_total (Cond.code yX8_total cX8_total 5 (some .long) :: gt) ({ frames := 6, cells := 0, slots := 0, locals := 156 } : Room) (CPc D g ad u [.ref (ad 0), .int a1, .int a2, .int a3, .int a4]) (va_Ql Q (CB D g ad) (CA ad)) 0 0 (CA ad) := by
  refine Met.ofW (cc := cX8_total) (maxL := 5) (ret := (some .long)) (by decide) rfl ?_
  intro p e s m args below meth c s₁ B hml hv
  refine Centry (own := RX8) B hml hv hJ rfl (Nat.le_of_ble_eq_true rfl) (fun ls H locs X w hl => ?_)
  obtain ⟨⟨hx, hb, hml, hown, hts⟩, hr, hlocks, hK, hJ, hAA⟩ := id X
  have hl : lv_has ls 5 [(0, .ref (ad 0)), (1, .int a1), (2, .int a2), (3, .int a3), (4, .int a4)] := hl
  unfold wX8_total at h
  refine lv_iload_n (pc := 0) hx hb dX8_total_0 rfl (lv_at hl 1 rfl) ?_
  refine lv_iconst (pc := 1) (v := (-1 : Int32)) hx hb dX8_total_1 (by decide) ?_
  refine lv_iconst (pc := 2) (v := (1 : Int32)) hx hb dX8_total_2 (by decide) ?_
  refine Ccalli (rest := []) (CrunS (pc := 3) X w (okX8_within l hJ h) kw258 kmX8_within ⟨rfl, rfl⟩ ⟨by decide, by decide⟩ rfl hl.1 rfl (Nat.le_of_ble_eq_true rfl) dX8_total_3) w (fun r1 u9_ H locs h w => ?_)
  obtain ⟨hz_r1, h⟩ := h
  obtain ⟨rfl, h⟩ := h
  refine lv_if_eq (pc := 6) (tgt := 37) hx hb dX8_total_6 (by decide) (fun c_ => ?_) (fun c_ => ?_)
  · have h := h.1 c_
    refine lv_bipush (pc := 37) (v := (-2 : Int32)) hx hb dX8_total_37 (by decide) ?_
    refine Ccalll (rest := []) (CrunS (pc := 39) X w (okX8_refused l hJ h) kw305 kmX8_refused ⟨rfl, rfl⟩ ⟨by decide, by decide⟩ rfl hl.1 rfl (Nat.le_of_ble_eq_true rfl) dX8_total_39) w (fun r2 u9_ H locs h w => ?_)
    obtain ⟨rfl, h⟩ := h
    exact Clret (pc := 42) X w h dX8_total_42
  · have h := h.2 c_
    refine lv_iload_n (pc := 9) hx hb dX8_total_9 rfl (lv_at hl 2 rfl) ?_
    refine lv_iconst (pc := 10) (v := (-1 : Int32)) hx hb dX8_total_10 (by decide) ?_
    refine lv_iconst (pc := 11) (v := (3 : Int32)) hx hb dX8_total_11 (by decide) ?_
    refine Ccalli (rest := []) (CrunS (pc := 12) X w (okX8_within l hJ h) kw258 kmX8_within ⟨rfl, rfl⟩ ⟨by decide, by decide⟩ rfl hl.1 rfl (Nat.le_of_ble_eq_true rfl) dX8_total_12) w (fun r3 u9_ H locs h w => ?_)
    obtain ⟨hz_r3, h⟩ := h
    obtain ⟨rfl, h⟩ := h
    refine lv_if_eq (pc := 15) (tgt := 37) hx hb dX8_total_15 (by decide) (fun c_ => ?_) (fun c_ => ?_)
    · have h := h.1 c_
      refine lv_bipush (pc := 37) (v := (-2 : Int32)) hx hb dX8_total_37 (by decide) ?_
      refine Ccalll (rest := []) (CrunS (pc := 39) X w (okX8_refused l hJ h) kw305 kmX8_refused ⟨rfl, rfl⟩ ⟨by decide, by decide⟩ rfl hl.1 rfl (Nat.le_of_ble_eq_true rfl) dX8_total_39) w (fun r4 u9_ H locs h w => ?_)
      obtain ⟨rfl, h⟩ := h
      exact Clret (pc := 42) X w h dX8_total_42
    · have h := h.2 c_
      refine lv_iload_n (pc := 18) hx hb dX8_total_18 rfl (lv_at hl 3 rfl) ?_
      refine lv_bipush (pc := 19) (v := (6 : Int32)) hx hb dX8_total_19 (by decide) ?_
      refine Ccalli (rest := []) (CrunS (pc := 21) X w (okX8_below l hJ h) kw23 kmX8_below ⟨rfl, rfl⟩ ⟨by decide, by decide⟩ rfl hl.1 rfl (Nat.le_of_ble_eq_true rfl) dX8_total_21) w (fun r5 u9_ H locs h w => ?_)
      obtain ⟨hz_r5, h⟩ := h
      obtain ⟨rfl, h⟩ := h
      refine lv_if_eq (pc := 24) (tgt := 37) hx hb dX8_total_24 (by decide) (fun c_ => ?_) (fun c_ => ?_)
      · have h := h.1 c_
        refine lv_bipush (pc := 37) (v := (-2 : Int32)) hx hb dX8_total_37 (by decide) ?_
        refine Ccalll (rest := []) (CrunS (pc := 39) X w (okX8_refused l hJ h) kw305 kmX8_refused ⟨rfl, rfl⟩ ⟨by decide, by decide⟩ rfl hl.1 rfl (Nat.le_of_ble_eq_true rfl) dX8_total_39) w (fun r6 u9_ H locs h w => ?_)
        obtain ⟨rfl, h⟩ := h
        exact Clret (pc := 42) X w h dX8_total_42
      · have h := h.2 c_
        refine lv_iload (pc := 27) hx hb dX8_total_27 (lv_at hl 4 rfl) ?_
        refine lv_bipush (pc := 29) (v := (12 : Int32)) hx hb dX8_total_29 (by decide) ?_
        refine Ccalli (rest := []) (CrunS (pc := 31) X w (okX8_below l hJ h) kw23 kmX8_below ⟨rfl, rfl⟩ ⟨by decide, by decide⟩ rfl hl.1 rfl (Nat.le_of_ble_eq_true rfl) dX8_total_31) w (fun r7 u9_ H locs h w => ?_)
        obtain ⟨hz_r7, h⟩ := h
        obtain ⟨rfl, h⟩ := h
        refine lv_if_ne (pc := 34) (tgt := 43) hx hb dX8_total_34 (by decide) (fun c_ => ?_) (fun c_ => ?_)
        · have h := h.2 c_
          refine lv_aload_n (pc := 43) hx hb dX8_total_43 rfl (lv_at hl 0 rfl) ?_
          refine Cgf_0_1 (pc := 44) X w kw264 dX8_total_44 ?_
          refine Ccallv (rest := []) (CrunV (pc := 47) X w (okX6_settleAll l hJ h) kw331 kmX6_settleAll ⟨rfl, rfl⟩ ⟨by decide, by decide⟩ (Crv_10 X w) rfl hl.1 rfl (Nat.le_of_ble_eq_true rfl) dX8_total_47) w (fun u9 H locs h w => ?_)
          refine lv_aload_n (pc := 50) hx hb dX8_total_50 rfl (lv_at hl 0 rfl) ?_
          refine Cgf_0_1 (pc := 51) X w kw264 dX8_total_51 ?_
          refine lv_iload_n (pc := 54) hx hb dX8_total_54 rfl (lv_at hl 1 rfl) ?_
          refine lv_iload_n (pc := 55) hx hb dX8_total_55 rfl (lv_at hl 2 rfl) ?_
          refine lv_iload_n (pc := 56) hx hb dX8_total_56 rfl (lv_at hl 3 rfl) ?_
          refine lv_iload (pc := 57) hx hb dX8_total_57 (lv_at hl 4 rfl) ?_
          refine Ccalll (rest := []) (CrunV (pc := 59) X w (okX6_sumOf l hJ h) kw335 kmX6_sumOf ⟨rfl, rfl⟩ ⟨by decide, by decide⟩ (Crv_10 X w) rfl hl.1 rfl (Nat.le_of_ble_eq_true rfl) dX8_total_59) w (fun r10 u9_ H locs h w => ?_)
          obtain ⟨rfl, h⟩ := h
          exact Clret (pc := 62) X w h dX8_total_62
        · have h := h.1 c_
          refine lv_bipush (pc := 37) (v := (-2 : Int32)) hx hb dX8_total_37 (by decide) ?_
          refine Ccalll (rest := []) (CrunS (pc := 39) X w (okX8_refused l hJ h) kw305 kmX8_refused ⟨rfl, rfl⟩ ⟨by decide, by decide⟩ rfl hl.1 rfl (Nat.le_of_ble_eq_true rfl) dX8_total_39) w (fun r11 u9_ H locs h w => ?_)
          obtain ⟨rfl, h⟩ := h
          exact Clret (pc := 42) X w h dX8_total_42
set_option maxHeartbeats 4000000 in
set_option maxRecDepth 100000 in
theorem okX8_open (l : Launch) {D : va_G} {g : Nat → ClassId} {ad : Nat → Nat} (hJ : CJ ad) {u : Mm} {Q : Int32 → Mm → Prop} (h : wX8_open u Q) : Met l yX8_open (Cond.code yX8_open cX8_open 1 (some .int) :: gt) ({ frames := 6, cells := 0, slots := 0, locals := 156 } : Room) (CPc D g ad u [.ref (ad 0)]) (va_Qi Q (CB D g ad) (CA ad)) 0 0 (CA ad) := by
  refine Met.ofW (cc := cX8_open) (maxL := 1) (ret := (some .int)) (by decide) rfl ?_
  intro p e s m args below meth c s₁ B hml hv
  refine Centry (own := RX8) B hml hv hJ rfl (Nat.le_of_ble_eq_true rfl) (fun ls H locs X w hl => ?_)
  obtain ⟨⟨hx, hb, hml, hown, hts⟩, hr, hlocks, hK, hJ, hAA⟩ := id X
  have hl : lv_has ls 1 [(0, .ref (ad 0))] := hl
  unfold wX8_open at h
  refine lv_aload_n (pc := 0) hx hb dX8_open_0 rfl (lv_at hl 0 rfl) ?_
  refine Cgf_0_1 (pc := 1) X w kw264 dX8_open_1 ?_
  refine Ccallv (rest := []) (CrunV (pc := 4) X w (okX6_settleAll l hJ h) kw331 kmX6_settleAll ⟨rfl, rfl⟩ ⟨by decide, by decide⟩ (Crv_10 X w) rfl hl.1 rfl (Nat.le_of_ble_eq_true rfl) dX8_open_4) w (fun u2 H locs h w => ?_)
  refine lv_aload_n (pc := 7) hx hb dX8_open_7 rfl (lv_at hl 0 rfl) ?_
  refine Cgf_0_1 (pc := 8) X w kw264 dX8_open_8 ?_
  refine Ccalli (rest := []) (CrunV (pc := 11) X w (okX6_howManyOpen l hJ h) kw336 kmX6_howManyOpen ⟨rfl, rfl⟩ ⟨by decide, by decide⟩ (Crv_10 X w) rfl hl.1 rfl (Nat.le_of_ble_eq_true rfl) dX8_open_11) w (fun r3 u9_ H locs h w => ?_)
  obtain ⟨rfl, h⟩ := h
  exact Ciret (pc := 14) X w h dX8_open_14
set_option maxHeartbeats 4000000 in
set_option maxRecDepth 100000 in
theorem okX8_broken (l : Launch) {D : va_G} {g : Nat → ClassId} {ad : Nat → Nat} (hJ : CJ ad) {u : Mm} {Q : Int32 → Mm → Prop} (h : wX8_broken u Q) : Met l yX8_broken (Cond.code yX8_broken cX8_broken 1 (some .int) :: gt) ({ frames := 6, cells := 0, slots := 0, locals := 156 } : Room) (CPc D g ad u [.ref (ad 0)]) (va_Qi Q (CB D g ad) (CA ad)) 0 0 (CA ad) := by
  refine Met.ofW (cc := cX8_broken) (maxL := 1) (ret := (some .int)) (by decide) rfl ?_
  intro p e s m args below meth c s₁ B hml hv
  refine Centry (own := RX8) B hml hv hJ rfl (Nat.le_of_ble_eq_true rfl) (fun ls H locs X w hl => ?_)
  obtain ⟨⟨hx, hb, hml, hown, hts⟩, hr, hlocks, hK, hJ, hAA⟩ := id X
  have hl : lv_has ls 1 [(0, .ref (ad 0))] := hl
  unfold wX8_broken at h
  refine lv_aload_n (pc := 0) hx hb dX8_broken_0 rfl (lv_at hl 0 rfl) ?_
  refine Cgf_0_1 (pc := 1) X w kw264 dX8_broken_1 ?_
  refine Ccallv (rest := []) (CrunV (pc := 4) X w (okX6_settleAll l hJ h) kw331 kmX6_settleAll ⟨rfl, rfl⟩ ⟨by decide, by decide⟩ (Crv_10 X w) rfl hl.1 rfl (Nat.le_of_ble_eq_true rfl) dX8_broken_4) w (fun u2 H locs h w => ?_)
  refine lv_aload_n (pc := 7) hx hb dX8_broken_7 rfl (lv_at hl 0 rfl) ?_
  refine Cgf_0_1 (pc := 8) X w kw264 dX8_broken_8 ?_
  refine Ccalli (rest := []) (CrunV (pc := 11) X w (okX6_howManyBroken l hJ h) kw340 kmX6_howManyBroken ⟨rfl, rfl⟩ ⟨by decide, by decide⟩ (Crv_10 X w) rfl hl.1 rfl (Nat.le_of_ble_eq_true rfl) dX8_broken_11) w (fun r3 u9_ H locs h w => ?_)
  obtain ⟨rfl, h⟩ := h
  exact Ciret (pc := 14) X w h dX8_broken_14
set_option maxHeartbeats 4000000 in
set_option maxRecDepth 100000 in
theorem okX8_breaks (l : Launch) {D : va_G} {g : Nat → ClassId} {ad : Nat → Nat} (hJ : CJ ad) {u : Mm} {a1 : Int32} {Q : Int32 → Mm → Prop} (h : wX8_breaks u a1 Q) : Met l yX8_breaks (Cond.code yX8_breaks cX8_breaks 2 (some .int) :: gt) ({ frames := 6, cells := 0, slots := 0, locals := 156 } : Room) (CPc D g ad u [.ref (ad 0), .int a1]) (va_Qi Q (CB D g ad) (CA ad)) 0 0 (CA ad) := by
  refine Met.ofW (cc := cX8_breaks) (maxL := 2) (ret := (some .int)) (by decide) rfl ?_
  intro p e s m args below meth c s₁ B hml hv
  refine Centry (own := RX8) B hml hv hJ rfl (Nat.le_of_ble_eq_true rfl) (fun ls H locs X w hl => ?_)
  obtain ⟨⟨hx, hb, hml, hown, hts⟩, hr, hlocks, hK, hJ, hAA⟩ := id X
  have hl : lv_has ls 2 [(0, .ref (ad 0)), (1, .int a1)] := hl
  unfold wX8_breaks at h
  refine lv_iload_n (pc := 0) hx hb dX8_breaks_0 rfl (lv_at hl 1 rfl) ?_
  refine lv_if_ge (pc := 1) (tgt := 7) hx hb dX8_breaks_1 (by decide) (fun c_ => ?_) (fun c_ => ?_)
  · have h := h.1 c_
    refine lv_aload_n (pc := 7) hx hb dX8_breaks_7 rfl (lv_at hl 0 rfl) ?_
    refine Cgf_0_1 (pc := 8) X w kw264 dX8_breaks_8 ?_
    refine Ccallv (rest := []) (CrunV (pc := 11) X w (okX6_settleAll l hJ h) kw331 kmX6_settleAll ⟨rfl, rfl⟩ ⟨by decide, by decide⟩ (Crv_10 X w) rfl hl.1 rfl (Nat.le_of_ble_eq_true rfl) dX8_breaks_11) w (fun u2 H locs h w => ?_)
    refine lv_aload_n (pc := 14) hx hb dX8_breaks_14 rfl (lv_at hl 0 rfl) ?_
    refine Cgf_0_1 (pc := 15) X w kw264 dX8_breaks_15 ?_
    refine lv_iload_n (pc := 18) hx hb dX8_breaks_18 rfl (lv_at hl 1 rfl) ?_
    refine Ccalli (rest := []) (CrunV (pc := 19) X w (okX6_findBroken l hJ h) kw344 kmX6_findBroken ⟨rfl, rfl⟩ ⟨by decide, by decide⟩ (Crv_10 X w) rfl hl.1 rfl (Nat.le_of_ble_eq_true rfl) dX8_breaks_19) w (fun r3 u9_ H locs h w => ?_)
    obtain ⟨rfl, h⟩ := h
    exact Ciret (pc := 22) X w h dX8_breaks_22
  · have h := h.2 c_
    refine lv_bipush (pc := 4) (v := (-2 : Int32)) hx hb dX8_breaks_4 (by decide) ?_
    exact Ciret (pc := 6) X w h dX8_breaks_6
set_option maxHeartbeats 4000000 in
set_option maxRecDepth 100000 in
theorem okX8_price (l : Launch) {D : va_G} {g : Nat → ClassId} {ad : Nat → Nat} (hJ : CJ ad) {u : Mm} {a1 : Int32} {a2 : Int32} {a3 : Int32} {Q : Int32 → Mm → Prop} (h : wX8_price u a1 a2 a3 Q) : Met l yX8_price (Cond.code yX8_price cX8_price 6 (some .int) :: gt) ({ frames := 1, cells := 0, slots := 0, locals := 22 } : Room) (CPc D g ad u [.ref (ad 0), .int a1, .int a2, .int a3]) (va_Qi Q (CB D g ad) (CA ad)) 0 0 (CA ad) := by
  refine Met.ofW (cc := cX8_price) (maxL := 6) (ret := (some .int)) (by decide) rfl ?_
  intro p e s m args below meth c s₁ B hml hv
  refine Centry (own := RX8) B hml hv hJ rfl (Nat.le_of_ble_eq_true rfl) (fun ls H locs X w hl => ?_)
  obtain ⟨⟨hx, hb, hml, hown, hts⟩, hr, hlocks, hK, hJ, hAA⟩ := id X
  have hl : lv_has ls 6 [(0, .ref (ad 0)), (1, .int a1), (2, .int a2), (3, .int a3)] := hl
  unfold wX8_price at h
  refine lv_iload_n (pc := 0) hx hb dX8_price_0 rfl (lv_at hl 1 rfl) ?_
  refine lv_iconst (pc := 1) (v := (4 : Int32)) hx hb dX8_price_1 (by decide) ?_
  refine Ccalli (rest := []) (CrunS (pc := 2) X w (okX8_below l hJ h) kw23 kmX8_below ⟨rfl, rfl⟩ ⟨by decide, by decide⟩ rfl hl.1 rfl (Nat.le_of_ble_eq_true rfl) dX8_price_2) w (fun r1 u9_ H locs h w => ?_)
  obtain ⟨hz_r1, h⟩ := h
  obtain ⟨rfl, h⟩ := h
  refine lv_if_eq (pc := 5) (tgt := 29) hx hb dX8_price_5 (by decide) (fun c_ => ?_) (fun c_ => ?_)
  · have h := h.1 c_
    refine lv_bipush (pc := 29) (v := (-2 : Int32)) hx hb dX8_price_29 (by decide) ?_
    exact Ciret (pc := 31) X w h dX8_price_31
  · have h := h.2 c_
    refine lv_iload_n (pc := 8) hx hb dX8_price_8 rfl (lv_at hl 2 rfl) ?_
    refine lv_bipush (pc := 9) (v := (12 : Int32)) hx hb dX8_price_9 (by decide) ?_
    refine Ccalli (rest := []) (CrunS (pc := 11) X w (okX8_below l hJ h) kw23 kmX8_below ⟨rfl, rfl⟩ ⟨by decide, by decide⟩ rfl hl.1 rfl (Nat.le_of_ble_eq_true rfl) dX8_price_11) w (fun r2 u9_ H locs h w => ?_)
    obtain ⟨hz_r2, h⟩ := h
    obtain ⟨rfl, h⟩ := h
    refine lv_if_eq (pc := 14) (tgt := 29) hx hb dX8_price_14 (by decide) (fun c_ => ?_) (fun c_ => ?_)
    · have h := h.1 c_
      refine lv_bipush (pc := 29) (v := (-2 : Int32)) hx hb dX8_price_29 (by decide) ?_
      exact Ciret (pc := 31) X w h dX8_price_31
    · have h := h.2 c_
      refine lv_iload_n (pc := 17) hx hb dX8_price_17 rfl (lv_at hl 3 rfl) ?_
      refine lv_bipush (pc := 18) (v := (10 : Int32)) hx hb dX8_price_18 (by decide) ?_
      refine lv_sipush (pc := 20) (v := (1000 : Int32)) hx hb dX8_price_20 (by decide) ?_
      refine Ccalli (rest := []) (CrunS (pc := 23) X w (okX8_within l hJ h) kw258 kmX8_within ⟨rfl, rfl⟩ ⟨by decide, by decide⟩ rfl hl.1 rfl (Nat.le_of_ble_eq_true rfl) dX8_price_23) w (fun r3 u9_ H locs h w => ?_)
      obtain ⟨hz_r3, h⟩ := h
      obtain ⟨rfl, h⟩ := h
      refine lv_if_ne (pc := 26) (tgt := 32) hx hb dX8_price_26 (by decide) (fun c_ => ?_) (fun c_ => ?_)
      · have h := h.2 c_
        refine lv_iload_n (pc := 32) hx hb dX8_price_32 rfl (lv_at hl 1 rfl) ?_
        refine lv_bipush (pc := 33) (v := (12 : Int32)) hx hb dX8_price_33 (by decide) ?_
        refine lv_imul (pc := 35) hx hb dX8_price_35 ?_
        refine lv_iload_n (pc := 36) hx hb dX8_price_36 rfl (lv_at hl 2 rfl) ?_
        refine lv_iadd (pc := 37) hx hb dX8_price_37 ?_
        refine lv_topi (fun x4_4 e_ => ?_)
        have h := h x4_4 e_
        refine lv_istore (pc := 38) (lv' := [(4, .int x4_4), (0, .ref (ad 0)), (1, .int a1), (2, .int a2), (3, .int a3)]) hx hb dX8_price_38 hl (by decide) rfl (fun ls hl => ?_)
        refine lv_aload_n (pc := 40) hx hb dX8_price_40 rfl (lv_at hl 1 rfl) ?_
        refine Cgf_0_2 (pc := 41) X w kw348 dX8_price_41 ?_
        refine Cgf_23_1 (pc := 44) X w kw349 dX8_price_44 ?_
        refine lv_iload (pc := 47) hx hb dX8_price_47 (lv_at hl 0 rfl) ?_
        refine Cld_24 (pc := 49) X w h.1 dX8_price_49 ?_
        have h := h.2
        refine lv_topi (fun x5_5 e_ => ?_)
        have h := h x5_5 e_
        refine lv_istore (pc := 50) (lv' := [(5, .int x5_5), (4, .int x4_4), (0, .ref (ad 0)), (1, .int a1), (2, .int a2), (3, .int a3)]) hx hb dX8_price_50 hl (by decide) rfl (fun ls hl => ?_)
        refine lv_aload_n (pc := 52) hx hb dX8_price_52 rfl (lv_at hl 2 rfl) ?_
        refine Cgf_0_2 (pc := 53) X w kw348 dX8_price_53 ?_
        refine Cgf_23_1 (pc := 56) X w kw349 dX8_price_56 ?_
        refine lv_iload (pc := 59) hx hb dX8_price_59 (lv_at hl 1 rfl) ?_
        refine lv_iload_n (pc := 61) hx hb dX8_price_61 rfl (lv_at hl 5 rfl) ?_
        refine Cst_24 (pc := 62) X w h.1 dX8_price_62 (fun H locs w => ?_)
        have h := h.2
        obtain ⟨u6, e_⟩ : ∃ y : Mm, y = s32 u 24 x4_4.toNatClampNeg a3 := ⟨_, rfl⟩
        rw [← e_] at w
        have h := h u6 e_
        refine lv_iload (pc := 63) hx hb dX8_price_63 (lv_at hl 0 rfl) ?_
        exact Ciret (pc := 65) X w h dX8_price_65
      · have h := h.1 c_
        refine lv_bipush (pc := 29) (v := (-2 : Int32)) hx hb dX8_price_29 (by decide) ?_
        exact Ciret (pc := 31) X w h dX8_price_31
set_option maxHeartbeats 4000000 in
set_option maxRecDepth 100000 in
theorem okX8_volume (l : Launch) {D : va_G} {g : Nat → ClassId} {ad : Nat → Nat} (hJ : CJ ad) {u : Mm} {a1 : Int32} {a2 : Int32} {a3 : Int32} {Q : Int64 → Mm → Prop} (h : wX8_volume u a1 a2 a3 Q) : Met l yX8_volume (Cond.code yX8_volume cX8_volume 4 (some .long) :: gt) ({ frames := 6, cells := 0, slots := 0, locals := 156 } : Room) (CPc D g ad u [.ref (ad 0), .int a1, .int a2, .int a3]) (va_Ql Q (CB D g ad) (CA ad)) 0 0 (CA ad) := by
  refine Met.ofW (cc := cX8_volume) (maxL := 4) (ret := (some .long)) (by decide) rfl ?_
  intro p e s m args below meth c s₁ B hml hv
  refine Centry (own := RX8) B hml hv hJ rfl (Nat.le_of_ble_eq_true rfl) (fun ls H locs X w hl => ?_)
  obtain ⟨⟨hx, hb, hml, hown, hts⟩, hr, hlocks, hK, hJ, hAA⟩ := id X
  have hl : lv_has ls 4 [(0, .ref (ad 0)), (1, .int a1), (2, .int a2), (3, .int a3)] := hl
  unfold wX8_volume at h
  refine lv_iload_n (pc := 0) hx hb dX8_volume_0 rfl (lv_at hl 1 rfl) ?_
  refine lv_iconst (pc := 1) (v := (4 : Int32)) hx hb dX8_volume_1 (by decide) ?_
  refine Ccalli (rest := []) (CrunS (pc := 2) X w (okX8_below l hJ h) kw23 kmX8_below ⟨rfl, rfl⟩ ⟨by decide, by decide⟩ rfl hl.1 rfl (Nat.le_of_ble_eq_true rfl) dX8_volume_2) w (fun r1 u9_ H locs h w => ?_)
  obtain ⟨hz_r1, h⟩ := h
  obtain ⟨rfl, h⟩ := h
  refine lv_if_eq (pc := 5) (tgt := 26) hx hb dX8_volume_5 (by decide) (fun c_ => ?_) (fun c_ => ?_)
  · have h := h.1 c_
    refine lv_bipush (pc := 26) (v := (-2 : Int32)) hx hb dX8_volume_26 (by decide) ?_
    refine Ccalll (rest := []) (CrunS (pc := 28) X w (okX8_refused l hJ h) kw305 kmX8_refused ⟨rfl, rfl⟩ ⟨by decide, by decide⟩ rfl hl.1 rfl (Nat.le_of_ble_eq_true rfl) dX8_volume_28) w (fun r2 u9_ H locs h w => ?_)
    obtain ⟨rfl, h⟩ := h
    exact Clret (pc := 31) X w h dX8_volume_31
  · have h := h.2 c_
    refine lv_iload_n (pc := 8) hx hb dX8_volume_8 rfl (lv_at hl 2 rfl) ?_
    refine lv_bipush (pc := 9) (v := (6 : Int32)) hx hb dX8_volume_9 (by decide) ?_
    refine Ccalli (rest := []) (CrunS (pc := 11) X w (okX8_below l hJ h) kw23 kmX8_below ⟨rfl, rfl⟩ ⟨by decide, by decide⟩ rfl hl.1 rfl (Nat.le_of_ble_eq_true rfl) dX8_volume_11) w (fun r3 u9_ H locs h w => ?_)
    obtain ⟨hz_r3, h⟩ := h
    obtain ⟨rfl, h⟩ := h
    refine lv_if_eq (pc := 14) (tgt := 26) hx hb dX8_volume_14 (by decide) (fun c_ => ?_) (fun c_ => ?_)
    · have h := h.1 c_
      refine lv_bipush (pc := 26) (v := (-2 : Int32)) hx hb dX8_volume_26 (by decide) ?_
      refine Ccalll (rest := []) (CrunS (pc := 28) X w (okX8_refused l hJ h) kw305 kmX8_refused ⟨rfl, rfl⟩ ⟨by decide, by decide⟩ rfl hl.1 rfl (Nat.le_of_ble_eq_true rfl) dX8_volume_28) w (fun r4 u9_ H locs h w => ?_)
      obtain ⟨rfl, h⟩ := h
      exact Clret (pc := 31) X w h dX8_volume_31
    · have h := h.2 c_
      refine lv_iload_n (pc := 17) hx hb dX8_volume_17 rfl (lv_at hl 3 rfl) ?_
      refine lv_bipush (pc := 18) (v := (12 : Int32)) hx hb dX8_volume_18 (by decide) ?_
      refine Ccalli (rest := []) (CrunS (pc := 20) X w (okX8_below l hJ h) kw23 kmX8_below ⟨rfl, rfl⟩ ⟨by decide, by decide⟩ rfl hl.1 rfl (Nat.le_of_ble_eq_true rfl) dX8_volume_20) w (fun r5 u9_ H locs h w => ?_)
      obtain ⟨hz_r5, h⟩ := h
      obtain ⟨rfl, h⟩ := h
      refine lv_if_ne (pc := 23) (tgt := 32) hx hb dX8_volume_23 (by decide) (fun c_ => ?_) (fun c_ => ?_)
      · have h := h.2 c_
        refine lv_aload_n (pc := 32) hx hb dX8_volume_32 rfl (lv_at hl 0 rfl) ?_
        refine Cgf_0_1 (pc := 33) X w kw264 dX8_volume_33 ?_
        refine Ccallv (rest := []) (CrunV (pc := 36) X w (okX6_settleAll l hJ h) kw331 kmX6_settleAll ⟨rfl, rfl⟩ ⟨by decide, by decide⟩ (Crv_10 X w) rfl hl.1 rfl (Nat.le_of_ble_eq_true rfl) dX8_volume_36) w (fun u7 H locs h w => ?_)
        refine lv_aload_n (pc := 39) hx hb dX8_volume_39 rfl (lv_at hl 0 rfl) ?_
        refine Cgf_0_2 (pc := 40) X w kw348 dX8_volume_40 ?_
        refine lv_iload_n (pc := 43) hx hb dX8_volume_43 rfl (lv_at hl 1 rfl) ?_
        refine lv_iload_n (pc := 44) hx hb dX8_volume_44 rfl (lv_at hl 2 rfl) ?_
        refine lv_iload_n (pc := 45) hx hb dX8_volume_45 rfl (lv_at hl 3 rfl) ?_
        refine Ccalll (rest := []) (CrunV (pc := 46) X w (okX7_volumeOf l hJ h) kw350 kmX7_volumeOf ⟨rfl, rfl⟩ ⟨by decide, by decide⟩ (Crv_23 X w) rfl hl.1 rfl (Nat.le_of_ble_eq_true rfl) dX8_volume_46) w (fun r8 u9_ H locs h w => ?_)
        obtain ⟨rfl, h⟩ := h
        exact Clret (pc := 49) X w h dX8_volume_49
      · have h := h.1 c_
        refine lv_bipush (pc := 26) (v := (-2 : Int32)) hx hb dX8_volume_26 (by decide) ?_
        refine Ccalll (rest := []) (CrunS (pc := 28) X w (okX8_refused l hJ h) kw305 kmX8_refused ⟨rfl, rfl⟩ ⟨by decide, by decide⟩ rfl hl.1 rfl (Nat.le_of_ble_eq_true rfl) dX8_volume_28) w (fun r9 u9_ H locs h w => ?_)
        obtain ⟨rfl, h⟩ := h
        exact Clret (pc := 31) X w h dX8_volume_31
set_option maxHeartbeats 4000000 in
set_option maxRecDepth 100000 in
theorem okX8_isSeries (l : Launch) {D : va_G} {g : Nat → ClassId} {ad : Nat → Nat} (hJ : CJ ad) {u : Mm} {a0 : Int32} {a1 : Int32} {Q : Int32 → Prop} (h : wX8_isSeries a0 a1 Q) : Met l yX8_isSeries (Cond.code yX8_isSeries cX8_isSeries 2 (some .boolean) :: gt) ({ frames := 1, cells := 0, slots := 0, locals := 22 } : Room) (CPc D g ad u [.int a0, .int a1]) (va_Qi (fun r u1 => bz r ∧ (u = u1 ∧ Q r)) (CB D g ad) (CA ad)) 0 0 (CA ad) := by
  refine Met.ofW (cc := cX8_isSeries) (maxL := 2) (ret := (some .boolean)) (by decide) rfl ?_
  intro p e s m args below meth c s₁ B hml hv
  refine Centry (own := RX8) B hml hv hJ rfl (Nat.le_of_ble_eq_true rfl) (fun ls H locs X w hl => ?_)
  obtain ⟨⟨hx, hb, hml, hown, hts⟩, hr, hlocks, hK, hJ, hAA⟩ := id X
  have hl : lv_has ls 2 [(0, .int a0), (1, .int a1)] := hl
  unfold wX8_isSeries at h
  refine lv_iload_n (pc := 0) hx hb dX8_isSeries_0 rfl (lv_at hl 0 rfl) ?_
  refine lv_iconst (pc := 1) (v := (-1 : Int32)) hx hb dX8_isSeries_1 (by decide) ?_
  refine lv_iconst (pc := 2) (v := (3 : Int32)) hx hb dX8_isSeries_2 (by decide) ?_
  refine Ccalli (rest := []) (CrunS (pc := 3) X w (okX8_within l hJ h) kw258 kmX8_within ⟨rfl, rfl⟩ ⟨by decide, by decide⟩ rfl hl.1 rfl (Nat.le_of_ble_eq_true rfl) dX8_isSeries_3) w (fun r1 u9_ H locs h w => ?_)
  obtain ⟨hz_r1, h⟩ := h
  obtain ⟨rfl, h⟩ := h
  refine lv_if_eq (pc := 6) (tgt := 22) hx hb dX8_isSeries_6 (by decide) (fun c_ => ?_) (fun c_ => ?_)
  · have h := h.1 c_
    refine lv_iconst (pc := 22) (v := (0 : Int32)) hx hb dX8_isSeries_22 (by decide) ?_
    exact Czret (pc := 23) X w rfl ⟨rfl, h⟩ dX8_isSeries_23
  · have h := h.2 c_
    refine lv_iload_n (pc := 9) hx hb dX8_isSeries_9 rfl (lv_at hl 1 rfl) ?_
    refine lv_bipush (pc := 10) (v := (6 : Int32)) hx hb dX8_isSeries_10 (by decide) ?_
    refine Ccalli (rest := []) (CrunS (pc := 12) X w (okX8_below l hJ h) kw23 kmX8_below ⟨rfl, rfl⟩ ⟨by decide, by decide⟩ rfl hl.1 rfl (Nat.le_of_ble_eq_true rfl) dX8_isSeries_12) w (fun r2 u9_ H locs h w => ?_)
    obtain ⟨hz_r2, h⟩ := h
    obtain ⟨rfl, h⟩ := h
    refine lv_if_eq (pc := 15) (tgt := 22) hx hb dX8_isSeries_15 (by decide) (fun c_ => ?_) (fun c_ => ?_)
    · have h := h.1 c_
      refine lv_iconst (pc := 22) (v := (0 : Int32)) hx hb dX8_isSeries_22 (by decide) ?_
      exact Czret (pc := 23) X w rfl ⟨rfl, h⟩ dX8_isSeries_23
    · have h := h.2 c_
      refine lv_iconst (pc := 18) (v := (1 : Int32)) hx hb dX8_isSeries_18 (by decide) ?_
      refine lv_goto (pc := 19) (tgt := 23) hx hb dX8_isSeries_19 (by decide) ?_
      exact Czret (pc := 23) X w rfl ⟨rfl, h⟩ dX8_isSeries_23
set_option maxHeartbeats 4000000 in
set_option maxRecDepth 100000 in
theorem okX8_atPrices (l : Launch) {D : va_G} {g : Nat → ClassId} {ad : Nat → Nat} (hJ : CJ ad) {u : Mm} {a1 : Int32} {a2 : Int32} {a3 : Int32} {a4 : Int32} {Q : Int64 → Mm → Prop} (h : wX8_atPrices u a1 a2 a3 a4 Q) : Met l yX8_atPrices (Cond.code yX8_atPrices cX8_atPrices 5 (some .long) :: gt) ({ frames := 6, cells := 0, slots := 0, locals := 156 } : Room) (CPc D g ad u [.ref (ad 0), .int a1, .int a2, .int a3, .int a4]) (va_Ql Q (CB D g ad) (CA ad)) 0 0 (CA ad) := by
  refine Met.ofW (cc := cX8_atPrices) (maxL := 5) (ret := (some .long)) (by decide) rfl ?_
  intro p e s m args below meth c s₁ B hml hv
  refine Centry (own := RX8) B hml hv hJ rfl (Nat.le_of_ble_eq_true rfl) (fun ls H locs X w hl => ?_)
  obtain ⟨⟨hx, hb, hml, hown, hts⟩, hr, hlocks, hK, hJ, hAA⟩ := id X
  have hl : lv_has ls 5 [(0, .ref (ad 0)), (1, .int a1), (2, .int a2), (3, .int a3), (4, .int a4)] := hl
  unfold wX8_atPrices at h
  refine lv_iload_n (pc := 0) hx hb dX8_atPrices_0 rfl (lv_at hl 1 rfl) ?_
  refine lv_iload_n (pc := 1) hx hb dX8_atPrices_1 rfl (lv_at hl 2 rfl) ?_
  refine Ccalli (rest := []) (CrunS (pc := 2) X w (okX8_isSeries l hJ h) kw351 kmX8_isSeries ⟨rfl, rfl⟩ ⟨by decide, by decide⟩ rfl hl.1 rfl (Nat.le_of_ble_eq_true rfl) dX8_atPrices_2) w (fun r1 u9_ H locs h w => ?_)
  obtain ⟨hz_r1, h⟩ := h
  obtain ⟨rfl, h⟩ := h
  refine lv_if_eq (pc := 5) (tgt := 26) hx hb dX8_atPrices_5 (by decide) (fun c_ => ?_) (fun c_ => ?_)
  · have h := h.1 c_
    refine lv_bipush (pc := 26) (v := (-2 : Int32)) hx hb dX8_atPrices_26 (by decide) ?_
    refine Ccalll (rest := []) (CrunS (pc := 28) X w (okX8_refused l hJ h) kw305 kmX8_refused ⟨rfl, rfl⟩ ⟨by decide, by decide⟩ rfl hl.1 rfl (Nat.le_of_ble_eq_true rfl) dX8_atPrices_28) w (fun r2 u9_ H locs h w => ?_)
    obtain ⟨rfl, h⟩ := h
    exact Clret (pc := 31) X w h dX8_atPrices_31
  · have h := h.2 c_
    refine lv_iload_n (pc := 8) hx hb dX8_atPrices_8 rfl (lv_at hl 3 rfl) ?_
    refine lv_bipush (pc := 9) (v := (12 : Int32)) hx hb dX8_atPrices_9 (by decide) ?_
    refine Ccalli (rest := []) (CrunS (pc := 11) X w (okX8_below l hJ h) kw23 kmX8_below ⟨rfl, rfl⟩ ⟨by decide, by decide⟩ rfl hl.1 rfl (Nat.le_of_ble_eq_true rfl) dX8_atPrices_11) w (fun r3 u9_ H locs h w => ?_)
    obtain ⟨hz_r3, h⟩ := h
    obtain ⟨rfl, h⟩ := h
    refine lv_if_eq (pc := 14) (tgt := 26) hx hb dX8_atPrices_14 (by decide) (fun c_ => ?_) (fun c_ => ?_)
    · have h := h.1 c_
      refine lv_bipush (pc := 26) (v := (-2 : Int32)) hx hb dX8_atPrices_26 (by decide) ?_
      refine Ccalll (rest := []) (CrunS (pc := 28) X w (okX8_refused l hJ h) kw305 kmX8_refused ⟨rfl, rfl⟩ ⟨by decide, by decide⟩ rfl hl.1 rfl (Nat.le_of_ble_eq_true rfl) dX8_atPrices_28) w (fun r4 u9_ H locs h w => ?_)
      obtain ⟨rfl, h⟩ := h
      exact Clret (pc := 31) X w h dX8_atPrices_31
    · have h := h.2 c_
      refine lv_iload (pc := 17) hx hb dX8_atPrices_17 (lv_at hl 4 rfl) ?_
      refine lv_iconst (pc := 19) (v := (3 : Int32)) hx hb dX8_atPrices_19 (by decide) ?_
      refine Ccalli (rest := []) (CrunS (pc := 20) X w (okX8_below l hJ h) kw23 kmX8_below ⟨rfl, rfl⟩ ⟨by decide, by decide⟩ rfl hl.1 rfl (Nat.le_of_ble_eq_true rfl) dX8_atPrices_20) w (fun r5 u9_ H locs h w => ?_)
      obtain ⟨hz_r5, h⟩ := h
      obtain ⟨rfl, h⟩ := h
      refine lv_if_ne (pc := 23) (tgt := 32) hx hb dX8_atPrices_23 (by decide) (fun c_ => ?_) (fun c_ => ?_)
      · have h := h.2 c_
        refine lv_aload_n (pc := 32) hx hb dX8_atPrices_32 rfl (lv_at hl 0 rfl) ?_
        refine Cgf_0_1 (pc := 33) X w kw264 dX8_atPrices_33 ?_
        refine Ccallv (rest := []) (CrunV (pc := 36) X w (okX6_settleAll l hJ h) kw331 kmX6_settleAll ⟨rfl, rfl⟩ ⟨by decide, by decide⟩ (Crv_10 X w) rfl hl.1 rfl (Nat.le_of_ble_eq_true rfl) dX8_atPrices_36) w (fun u7 H locs h w => ?_)
        refine lv_aload_n (pc := 39) hx hb dX8_atPrices_39 rfl (lv_at hl 0 rfl) ?_
        refine Cgf_0_2 (pc := 40) X w kw348 dX8_atPrices_40 ?_
        refine lv_iload_n (pc := 43) hx hb dX8_atPrices_43 rfl (lv_at hl 1 rfl) ?_
        refine lv_iload_n (pc := 44) hx hb dX8_atPrices_44 rfl (lv_at hl 2 rfl) ?_
        refine lv_iload_n (pc := 45) hx hb dX8_atPrices_45 rfl (lv_at hl 3 rfl) ?_
        refine lv_iload (pc := 46) hx hb dX8_atPrices_46 (lv_at hl 4 rfl) ?_
        refine Ccalll (rest := []) (CrunV (pc := 48) X w (okX7_valueOf l hJ h) kw354 kmX7_valueOf ⟨rfl, rfl⟩ ⟨by decide, by decide⟩ (Crv_23 X w) rfl hl.1 rfl (Nat.le_of_ble_eq_true rfl) dX8_atPrices_48) w (fun r8 u9_ H locs h w => ?_)
        obtain ⟨rfl, h⟩ := h
        exact Clret (pc := 51) X w h dX8_atPrices_51
      · have h := h.1 c_
        refine lv_bipush (pc := 26) (v := (-2 : Int32)) hx hb dX8_atPrices_26 (by decide) ?_
        refine Ccalll (rest := []) (CrunS (pc := 28) X w (okX8_refused l hJ h) kw305 kmX8_refused ⟨rfl, rfl⟩ ⟨by decide, by decide⟩ rfl hl.1 rfl (Nat.le_of_ble_eq_true rfl) dX8_atPrices_28) w (fun r9 u9_ H locs h w => ?_)
        obtain ⟨rfl, h⟩ := h
        exact Clret (pc := 31) X w h dX8_atPrices_31
set_option maxHeartbeats 4000000 in
set_option maxRecDepth 100000 in
theorem okX8_growth (l : Launch) {D : va_G} {g : Nat → ClassId} {ad : Nat → Nat} (hJ : CJ ad) {u : Mm} {a1 : Int32} {a2 : Int32} {a3 : Int32} {Q : Int64 → Mm → Prop} (h : wX8_growth u a1 a2 a3 Q) : Met l yX8_growth (Cond.code yX8_growth cX8_growth 4 (some .long) :: gt) ({ frames := 6, cells := 0, slots := 0, locals := 156 } : Room) (CPc D g ad u [.ref (ad 0), .int a1, .int a2, .int a3]) (va_Ql Q (CB D g ad) (CA ad)) 0 0 (CA ad) := by
  refine Met.ofW (cc := cX8_growth) (maxL := 4) (ret := (some .long)) (by decide) rfl ?_
  intro p e s m args below meth c s₁ B hml hv
  refine Centry (own := RX8) B hml hv hJ rfl (Nat.le_of_ble_eq_true rfl) (fun ls H locs X w hl => ?_)
  obtain ⟨⟨hx, hb, hml, hown, hts⟩, hr, hlocks, hK, hJ, hAA⟩ := id X
  have hl : lv_has ls 4 [(0, .ref (ad 0)), (1, .int a1), (2, .int a2), (3, .int a3)] := hl
  unfold wX8_growth at h
  refine lv_iload_n (pc := 0) hx hb dX8_growth_0 rfl (lv_at hl 1 rfl) ?_
  refine lv_iload_n (pc := 1) hx hb dX8_growth_1 rfl (lv_at hl 2 rfl) ?_
  refine Ccalli (rest := []) (CrunS (pc := 2) X w (okX8_isSeries l hJ h) kw351 kmX8_isSeries ⟨rfl, rfl⟩ ⟨by decide, by decide⟩ rfl hl.1 rfl (Nat.le_of_ble_eq_true rfl) dX8_growth_2) w (fun r1 u9_ H locs h w => ?_)
  obtain ⟨hz_r1, h⟩ := h
  obtain ⟨rfl, h⟩ := h
  refine lv_if_eq (pc := 5) (tgt := 18) hx hb dX8_growth_5 (by decide) (fun c_ => ?_) (fun c_ => ?_)
  · have h := h.1 c_
    refine lv_bipush (pc := 18) (v := (-2 : Int32)) hx hb dX8_growth_18 (by decide) ?_
    refine Ccalll (rest := []) (CrunS (pc := 20) X w (okX8_refused l hJ h) kw305 kmX8_refused ⟨rfl, rfl⟩ ⟨by decide, by decide⟩ rfl hl.1 rfl (Nat.le_of_ble_eq_true rfl) dX8_growth_20) w (fun r2 u9_ H locs h w => ?_)
    obtain ⟨rfl, h⟩ := h
    exact Clret (pc := 23) X w h dX8_growth_23
  · have h := h.2 c_
    refine lv_iload_n (pc := 8) hx hb dX8_growth_8 rfl (lv_at hl 3 rfl) ?_
    refine lv_iconst (pc := 9) (v := (1 : Int32)) hx hb dX8_growth_9 (by decide) ?_
    refine lv_bipush (pc := 10) (v := (11 : Int32)) hx hb dX8_growth_10 (by decide) ?_
    refine Ccalli (rest := []) (CrunS (pc := 12) X w (okX8_within l hJ h) kw258 kmX8_within ⟨rfl, rfl⟩ ⟨by decide, by decide⟩ rfl hl.1 rfl (Nat.le_of_ble_eq_true rfl) dX8_growth_12) w (fun r3 u9_ H locs h w => ?_)
    obtain ⟨hz_r3, h⟩ := h
    obtain ⟨rfl, h⟩ := h
    refine lv_if_ne (pc := 15) (tgt := 24) hx hb dX8_growth_15 (by decide) (fun c_ => ?_) (fun c_ => ?_)
    · have h := h.2 c_
      refine lv_aload_n (pc := 24) hx hb dX8_growth_24 rfl (lv_at hl 0 rfl) ?_
      refine Cgf_0_1 (pc := 25) X w kw264 dX8_growth_25 ?_
      refine Ccallv (rest := []) (CrunV (pc := 28) X w (okX6_settleAll l hJ h) kw331 kmX6_settleAll ⟨rfl, rfl⟩ ⟨by decide, by decide⟩ (Crv_10 X w) rfl hl.1 rfl (Nat.le_of_ble_eq_true rfl) dX8_growth_28) w (fun u5 H locs h w => ?_)
      refine lv_aload_n (pc := 31) hx hb dX8_growth_31 rfl (lv_at hl 0 rfl) ?_
      refine Cgf_0_2 (pc := 32) X w kw348 dX8_growth_32 ?_
      refine lv_iload_n (pc := 35) hx hb dX8_growth_35 rfl (lv_at hl 1 rfl) ?_
      refine lv_iload_n (pc := 36) hx hb dX8_growth_36 rfl (lv_at hl 2 rfl) ?_
      refine lv_iload_n (pc := 37) hx hb dX8_growth_37 rfl (lv_at hl 3 rfl) ?_
      refine Ccalll (rest := []) (CrunV (pc := 38) X w (okX7_growthOf l hJ h) kw355 kmX7_growthOf ⟨rfl, rfl⟩ ⟨by decide, by decide⟩ (Crv_23 X w) rfl hl.1 rfl (Nat.le_of_ble_eq_true rfl) dX8_growth_38) w (fun r6 u9_ H locs h w => ?_)
      obtain ⟨rfl, h⟩ := h
      exact Clret (pc := 41) X w h dX8_growth_41
    · have h := h.1 c_
      refine lv_bipush (pc := 18) (v := (-2 : Int32)) hx hb dX8_growth_18 (by decide) ?_
      refine Ccalll (rest := []) (CrunS (pc := 20) X w (okX8_refused l hJ h) kw305 kmX8_refused ⟨rfl, rfl⟩ ⟨by decide, by decide⟩ rfl hl.1 rfl (Nat.le_of_ble_eq_true rfl) dX8_growth_20) w (fun r7 u9_ H locs h w => ?_)
      obtain ⟨rfl, h⟩ := h
      exact Clret (pc := 23) X w h dX8_growth_23
set_option maxHeartbeats 4000000 in
set_option maxRecDepth 100000 in
theorem okX8_chain (l : Launch) {D : va_G} {g : Nat → ClassId} {ad : Nat → Nat} (hJ : CJ ad) {u : Mm} {a1 : Int32} {a2 : Int32} {a3 : Int32} {Q : Int64 → Mm → Prop} (h : wX8_chain u a1 a2 a3 Q) : Met l yX8_chain (Cond.code yX8_chain cX8_chain 4 (some .long) :: gt) ({ frames := 6, cells := 0, slots := 0, locals := 156 } : Room) (CPc D g ad u [.ref (ad 0), .int a1, .int a2, .int a3]) (va_Ql Q (CB D g ad) (CA ad)) 0 0 (CA ad) := by
  refine Met.ofW (cc := cX8_chain) (maxL := 4) (ret := (some .long)) (by decide) rfl ?_
  intro p e s m args below meth c s₁ B hml hv
  refine Centry (own := RX8) B hml hv hJ rfl (Nat.le_of_ble_eq_true rfl) (fun ls H locs X w hl => ?_)
  obtain ⟨⟨hx, hb, hml, hown, hts⟩, hr, hlocks, hK, hJ, hAA⟩ := id X
  have hl : lv_has ls 4 [(0, .ref (ad 0)), (1, .int a1), (2, .int a2), (3, .int a3)] := hl
  unfold wX8_chain at h
  refine lv_iload_n (pc := 0) hx hb dX8_chain_0 rfl (lv_at hl 1 rfl) ?_
  refine lv_iload_n (pc := 1) hx hb dX8_chain_1 rfl (lv_at hl 2 rfl) ?_
  refine Ccalli (rest := []) (CrunS (pc := 2) X w (okX8_isSeries l hJ h) kw351 kmX8_isSeries ⟨rfl, rfl⟩ ⟨by decide, by decide⟩ rfl hl.1 rfl (Nat.le_of_ble_eq_true rfl) dX8_chain_2) w (fun r1 u9_ H locs h w => ?_)
  obtain ⟨hz_r1, h⟩ := h
  obtain ⟨rfl, h⟩ := h
  refine lv_if_eq (pc := 5) (tgt := 17) hx hb dX8_chain_5 (by decide) (fun c_ => ?_) (fun c_ => ?_)
  · have h := h.1 c_
    refine lv_bipush (pc := 17) (v := (-2 : Int32)) hx hb dX8_chain_17 (by decide) ?_
    refine Ccalll (rest := []) (CrunS (pc := 19) X w (okX8_refused l hJ h) kw305 kmX8_refused ⟨rfl, rfl⟩ ⟨by decide, by decide⟩ rfl hl.1 rfl (Nat.le_of_ble_eq_true rfl) dX8_chain_19) w (fun r2 u9_ H locs h w => ?_)
    obtain ⟨rfl, h⟩ := h
    exact Clret (pc := 22) X w h dX8_chain_22
  · have h := h.2 c_
    refine lv_iload_n (pc := 8) hx hb dX8_chain_8 rfl (lv_at hl 3 rfl) ?_
    refine lv_bipush (pc := 9) (v := (12 : Int32)) hx hb dX8_chain_9 (by decide) ?_
    refine Ccalli (rest := []) (CrunS (pc := 11) X w (okX8_below l hJ h) kw23 kmX8_below ⟨rfl, rfl⟩ ⟨by decide, by decide⟩ rfl hl.1 rfl (Nat.le_of_ble_eq_true rfl) dX8_chain_11) w (fun r3 u9_ H locs h w => ?_)
    obtain ⟨hz_r3, h⟩ := h
    obtain ⟨rfl, h⟩ := h
    refine lv_if_ne (pc := 14) (tgt := 23) hx hb dX8_chain_14 (by decide) (fun c_ => ?_) (fun c_ => ?_)
    · have h := h.2 c_
      refine lv_aload_n (pc := 23) hx hb dX8_chain_23 rfl (lv_at hl 0 rfl) ?_
      refine Cgf_0_1 (pc := 24) X w kw264 dX8_chain_24 ?_
      refine Ccallv (rest := []) (CrunV (pc := 27) X w (okX6_settleAll l hJ h) kw331 kmX6_settleAll ⟨rfl, rfl⟩ ⟨by decide, by decide⟩ (Crv_10 X w) rfl hl.1 rfl (Nat.le_of_ble_eq_true rfl) dX8_chain_27) w (fun u5 H locs h w => ?_)
      refine lv_aload_n (pc := 30) hx hb dX8_chain_30 rfl (lv_at hl 0 rfl) ?_
      refine Cgf_0_2 (pc := 31) X w kw348 dX8_chain_31 ?_
      refine lv_iload_n (pc := 34) hx hb dX8_chain_34 rfl (lv_at hl 1 rfl) ?_
      refine lv_iload_n (pc := 35) hx hb dX8_chain_35 rfl (lv_at hl 2 rfl) ?_
      refine lv_iload_n (pc := 36) hx hb dX8_chain_36 rfl (lv_at hl 3 rfl) ?_
      refine Ccalll (rest := []) (CrunV (pc := 37) X w (okX7_chainOf l hJ h) kw359 kmX7_chainOf ⟨rfl, rfl⟩ ⟨by decide, by decide⟩ (Crv_23 X w) rfl hl.1 rfl (Nat.le_of_ble_eq_true rfl) dX8_chain_37) w (fun r6 u9_ H locs h w => ?_)
      obtain ⟨rfl, h⟩ := h
      exact Clret (pc := 40) X w h dX8_chain_40
    · have h := h.1 c_
      refine lv_bipush (pc := 17) (v := (-2 : Int32)) hx hb dX8_chain_17 (by decide) ?_
      refine Ccalll (rest := []) (CrunS (pc := 19) X w (okX8_refused l hJ h) kw305 kmX8_refused ⟨rfl, rfl⟩ ⟨by decide, by decide⟩ rfl hl.1 rfl (Nat.le_of_ble_eq_true rfl) dX8_chain_19) w (fun r7 u9_ H locs h w => ?_)
      obtain ⟨rfl, h⟩ := h
      exact Clret (pc := 22) X w h dX8_chain_22
set_option maxHeartbeats 4000000 in
set_option maxRecDepth 100000 in
theorem okX8_part (l : Launch) {D : va_G} {g : Nat → ClassId} {ad : Nat → Nat} (hJ : CJ ad) {u : Mm} {a1 : Int32} {a2 : Int32} {a3 : Int32} {Q : Int64 → Mm → Prop} (h : wX8_part u a1 a2 a3 Q) : Met l yX8_part (Cond.code yX8_part cX8_part 4 (some .long) :: gt) ({ frames := 6, cells := 0, slots := 0, locals := 156 } : Room) (CPc D g ad u [.ref (ad 0), .int a1, .int a2, .int a3]) (va_Ql Q (CB D g ad) (CA ad)) 0 0 (CA ad) := by
  refine Met.ofW (cc := cX8_part) (maxL := 4) (ret := (some .long)) (by decide) rfl ?_
  intro p e s m args below meth c s₁ B hml hv
  refine Centry (own := RX8) B hml hv hJ rfl (Nat.le_of_ble_eq_true rfl) (fun ls H locs X w hl => ?_)
  obtain ⟨⟨hx, hb, hml, hown, hts⟩, hr, hlocks, hK, hJ, hAA⟩ := id X
  have hl : lv_has ls 4 [(0, .ref (ad 0)), (1, .int a1), (2, .int a2), (3, .int a3)] := hl
  unfold wX8_part at h
  refine lv_iload_n (pc := 0) hx hb dX8_part_0 rfl (lv_at hl 1 rfl) ?_
  refine lv_iconst (pc := 1) (v := (4 : Int32)) hx hb dX8_part_1 (by decide) ?_
  refine Ccalli (rest := []) (CrunS (pc := 2) X w (okX8_below l hJ h) kw23 kmX8_below ⟨rfl, rfl⟩ ⟨by decide, by decide⟩ rfl hl.1 rfl (Nat.le_of_ble_eq_true rfl) dX8_part_2) w (fun r1 u9_ H locs h w => ?_)
  obtain ⟨hz_r1, h⟩ := h
  obtain ⟨rfl, h⟩ := h
  refine lv_if_eq (pc := 5) (tgt := 27) hx hb dX8_part_5 (by decide) (fun c_ => ?_) (fun c_ => ?_)
  · have h := h.1 c_
    refine lv_bipush (pc := 27) (v := (-2 : Int32)) hx hb dX8_part_27 (by decide) ?_
    refine Ccalll (rest := []) (CrunS (pc := 29) X w (okX8_refused l hJ h) kw305 kmX8_refused ⟨rfl, rfl⟩ ⟨by decide, by decide⟩ rfl hl.1 rfl (Nat.le_of_ble_eq_true rfl) dX8_part_29) w (fun r2 u9_ H locs h w => ?_)
    obtain ⟨rfl, h⟩ := h
    exact Clret (pc := 32) X w h dX8_part_32
  · have h := h.2 c_
    refine lv_iload_n (pc := 8) hx hb dX8_part_8 rfl (lv_at hl 2 rfl) ?_
    refine lv_bipush (pc := 9) (v := (6 : Int32)) hx hb dX8_part_9 (by decide) ?_
    refine Ccalli (rest := []) (CrunS (pc := 11) X w (okX8_below l hJ h) kw23 kmX8_below ⟨rfl, rfl⟩ ⟨by decide, by decide⟩ rfl hl.1 rfl (Nat.le_of_ble_eq_true rfl) dX8_part_11) w (fun r3 u9_ H locs h w => ?_)
    obtain ⟨hz_r3, h⟩ := h
    obtain ⟨rfl, h⟩ := h
    refine lv_if_eq (pc := 14) (tgt := 27) hx hb dX8_part_14 (by decide) (fun c_ => ?_) (fun c_ => ?_)
    · have h := h.1 c_
      refine lv_bipush (pc := 27) (v := (-2 : Int32)) hx hb dX8_part_27 (by decide) ?_
      refine Ccalll (rest := []) (CrunS (pc := 29) X w (okX8_refused l hJ h) kw305 kmX8_refused ⟨rfl, rfl⟩ ⟨by decide, by decide⟩ rfl hl.1 rfl (Nat.le_of_ble_eq_true rfl) dX8_part_29) w (fun r4 u9_ H locs h w => ?_)
      obtain ⟨rfl, h⟩ := h
      exact Clret (pc := 32) X w h dX8_part_32
    · have h := h.2 c_
      refine lv_iload_n (pc := 17) hx hb dX8_part_17 rfl (lv_at hl 3 rfl) ?_
      refine lv_iconst (pc := 18) (v := (1 : Int32)) hx hb dX8_part_18 (by decide) ?_
      refine lv_bipush (pc := 19) (v := (11 : Int32)) hx hb dX8_part_19 (by decide) ?_
      refine Ccalli (rest := []) (CrunS (pc := 21) X w (okX8_within l hJ h) kw258 kmX8_within ⟨rfl, rfl⟩ ⟨by decide, by decide⟩ rfl hl.1 rfl (Nat.le_of_ble_eq_true rfl) dX8_part_21) w (fun r5 u9_ H locs h w => ?_)
      obtain ⟨hz_r5, h⟩ := h
      obtain ⟨rfl, h⟩ := h
      refine lv_if_ne (pc := 24) (tgt := 33) hx hb dX8_part_24 (by decide) (fun c_ => ?_) (fun c_ => ?_)
      · have h := h.2 c_
        refine lv_aload_n (pc := 33) hx hb dX8_part_33 rfl (lv_at hl 0 rfl) ?_
        refine Cgf_0_1 (pc := 34) X w kw264 dX8_part_34 ?_
        refine Ccallv (rest := []) (CrunV (pc := 37) X w (okX6_settleAll l hJ h) kw331 kmX6_settleAll ⟨rfl, rfl⟩ ⟨by decide, by decide⟩ (Crv_10 X w) rfl hl.1 rfl (Nat.le_of_ble_eq_true rfl) dX8_part_37) w (fun u7 H locs h w => ?_)
        refine lv_aload_n (pc := 40) hx hb dX8_part_40 rfl (lv_at hl 0 rfl) ?_
        refine Cgf_0_2 (pc := 41) X w kw348 dX8_part_41 ?_
        refine lv_iload_n (pc := 44) hx hb dX8_part_44 rfl (lv_at hl 2 rfl) ?_
        refine lv_iload_n (pc := 45) hx hb dX8_part_45 rfl (lv_at hl 3 rfl) ?_
        refine Ccalli (rest := []) (CrunV (pc := 46) X w (okX7_hasGrowth l hJ h) kw360 kmX7_hasGrowth ⟨rfl, rfl⟩ ⟨by decide, by decide⟩ (Crv_23 X w) rfl hl.1 rfl (Nat.le_of_ble_eq_true rfl) dX8_part_46) w (fun r8 u9_ H locs h w => ?_)
        obtain ⟨hz_r8, h⟩ := h
        obtain ⟨rfl, h⟩ := h
        refine lv_if_eq (pc := 49) (tgt := 65) hx hb dX8_part_49 (by decide) (fun c_ => ?_) (fun c_ => ?_)
        · have h := h.1 c_
          refine lv_bipush (pc := 65) (v := (-3 : Int32)) hx hb dX8_part_65 (by decide) ?_
          refine Ccalll (rest := []) (CrunS (pc := 67) X w (okX8_refused l hJ h) kw305 kmX8_refused ⟨rfl, rfl⟩ ⟨by decide, by decide⟩ rfl hl.1 rfl (Nat.le_of_ble_eq_true rfl) dX8_part_67) w (fun r9 u9_ H locs h w => ?_)
          obtain ⟨rfl, h⟩ := h
          exact Clret (pc := 70) X w h dX8_part_70
        · have h := h.2 c_
          refine lv_aload_n (pc := 52) hx hb dX8_part_52 rfl (lv_at hl 0 rfl) ?_
          refine Cgf_0_2 (pc := 53) X w kw348 dX8_part_53 ?_
          refine lv_iload_n (pc := 56) hx hb dX8_part_56 rfl (lv_at hl 1 rfl) ?_
          refine lv_iload_n (pc := 57) hx hb dX8_part_57 rfl (lv_at hl 2 rfl) ?_
          refine lv_iload_n (pc := 58) hx hb dX8_part_58 rfl (lv_at hl 3 rfl) ?_
          refine Ccalll (rest := []) (CrunV (pc := 59) X w (okX7_partOf l hJ h) kw364 kmX7_partOf ⟨rfl, rfl⟩ ⟨by decide, by decide⟩ (Crv_23 X w) rfl hl.1 rfl (Nat.le_of_ble_eq_true rfl) dX8_part_59) w (fun r10 u11 H locs h w => ?_)
          refine lv_goto (pc := 62) (tgt := 70) hx hb dX8_part_62 (by decide) ?_
          exact Clret (pc := 70) X w h dX8_part_70
      · have h := h.1 c_
        refine lv_bipush (pc := 27) (v := (-2 : Int32)) hx hb dX8_part_27 (by decide) ?_
        refine Ccalll (rest := []) (CrunS (pc := 29) X w (okX8_refused l hJ h) kw305 kmX8_refused ⟨rfl, rfl⟩ ⟨by decide, by decide⟩ rfl hl.1 rfl (Nat.le_of_ble_eq_true rfl) dX8_part_29) w (fun r12 u9_ H locs h w => ?_)
        obtain ⟨rfl, h⟩ := h
        exact Clret (pc := 32) X w h dX8_part_32
set_option maxHeartbeats 4000000 in
set_option maxRecDepth 100000 in
theorem okX8_apart (l : Launch) {D : va_G} {g : Nat → ClassId} {ad : Nat → Nat} (hJ : CJ ad) {u : Mm} {a1 : Int32} {a2 : Int32} {Q : Int64 → Mm → Prop} (h : wX8_apart u a1 a2 Q) : Met l yX8_apart (Cond.code yX8_apart cX8_apart 3 (some .long) :: gt) ({ frames := 6, cells := 0, slots := 0, locals := 160 } : Room) (CPc D g ad u [.ref (ad 0), .int a1, .int a2]) (va_Ql Q (CB D g ad) (CA ad)) 0 0 (CA ad) := by
  refine Met.ofW (cc := cX8_apart) (maxL := 3) (ret := (some .long)) (by decide) rfl ?_
  intro p e s m args below meth c s₁ B hml hv
  refine Centry (own := RX8) B hml hv hJ rfl (Nat.le_of_ble_eq_true rfl) (fun ls H locs X w hl => ?_)
  obtain ⟨⟨hx, hb, hml, hown, hts⟩, hr, hlocks, hK, hJ, hAA⟩ := id X
  have hl : lv_has ls 3 [(0, .ref (ad 0)), (1, .int a1), (2, .int a2)] := hl
  unfold wX8_apart at h
  refine lv_iload_n (pc := 0) hx hb dX8_apart_0 rfl (lv_at hl 1 rfl) ?_
  refine lv_bipush (pc := 1) (v := (6 : Int32)) hx hb dX8_apart_1 (by decide) ?_
  refine Ccalli (rest := []) (CrunS (pc := 3) X w (okX8_below l hJ h) kw23 kmX8_below ⟨rfl, rfl⟩ ⟨by decide, by decide⟩ rfl hl.1 rfl (Nat.le_of_ble_eq_true rfl) dX8_apart_3) w (fun r1 u9_ H locs h w => ?_)
  obtain ⟨hz_r1, h⟩ := h
  obtain ⟨rfl, h⟩ := h
  refine lv_if_eq (pc := 6) (tgt := 18) hx hb dX8_apart_6 (by decide) (fun c_ => ?_) (fun c_ => ?_)
  · have h := h.1 c_
    refine lv_bipush (pc := 18) (v := (-2 : Int32)) hx hb dX8_apart_18 (by decide) ?_
    refine Ccalll (rest := []) (CrunS (pc := 20) X w (okX8_refused l hJ h) kw305 kmX8_refused ⟨rfl, rfl⟩ ⟨by decide, by decide⟩ rfl hl.1 rfl (Nat.le_of_ble_eq_true rfl) dX8_apart_20) w (fun r2 u9_ H locs h w => ?_)
    obtain ⟨rfl, h⟩ := h
    exact Clret (pc := 23) X w h dX8_apart_23
  · have h := h.2 c_
    refine lv_iload_n (pc := 9) hx hb dX8_apart_9 rfl (lv_at hl 2 rfl) ?_
    refine lv_bipush (pc := 10) (v := (12 : Int32)) hx hb dX8_apart_10 (by decide) ?_
    refine Ccalli (rest := []) (CrunS (pc := 12) X w (okX8_below l hJ h) kw23 kmX8_below ⟨rfl, rfl⟩ ⟨by decide, by decide⟩ rfl hl.1 rfl (Nat.le_of_ble_eq_true rfl) dX8_apart_12) w (fun r3 u9_ H locs h w => ?_)
    obtain ⟨hz_r3, h⟩ := h
    obtain ⟨rfl, h⟩ := h
    refine lv_if_ne (pc := 15) (tgt := 24) hx hb dX8_apart_15 (by decide) (fun c_ => ?_) (fun c_ => ?_)
    · have h := h.2 c_
      refine lv_aload_n (pc := 24) hx hb dX8_apart_24 rfl (lv_at hl 0 rfl) ?_
      refine Cgf_0_1 (pc := 25) X w kw264 dX8_apart_25 ?_
      refine Ccallv (rest := []) (CrunV (pc := 28) X w (okX6_settleAll l hJ h) kw331 kmX6_settleAll ⟨rfl, rfl⟩ ⟨by decide, by decide⟩ (Crv_10 X w) rfl hl.1 rfl (Nat.le_of_ble_eq_true rfl) dX8_apart_28) w (fun u5 H locs h w => ?_)
      refine lv_aload_n (pc := 31) hx hb dX8_apart_31 rfl (lv_at hl 0 rfl) ?_
      refine Cgf_0_2 (pc := 32) X w kw348 dX8_apart_32 ?_
      refine lv_iload_n (pc := 35) hx hb dX8_apart_35 rfl (lv_at hl 1 rfl) ?_
      refine lv_iload_n (pc := 36) hx hb dX8_apart_36 rfl (lv_at hl 2 rfl) ?_
      refine Ccalll (rest := []) (CrunV (pc := 37) X w (okX7_apartOf l hJ h) kw368 kmX7_apartOf ⟨rfl, rfl⟩ ⟨by decide, by decide⟩ (Crv_23 X w) rfl hl.1 rfl (Nat.le_of_ble_eq_true rfl) dX8_apart_37) w (fun r6 u9_ H locs h w => ?_)
      obtain ⟨rfl, h⟩ := h
      exact Clret (pc := 40) X w h dX8_apart_40
    · have h := h.1 c_
      refine lv_bipush (pc := 18) (v := (-2 : Int32)) hx hb dX8_apart_18 (by decide) ?_
      refine Ccalll (rest := []) (CrunS (pc := 20) X w (okX8_refused l hJ h) kw305 kmX8_refused ⟨rfl, rfl⟩ ⟨by decide, by decide⟩ rfl hl.1 rfl (Nat.le_of_ble_eq_true rfl) dX8_apart_20) w (fun r7 u9_ H locs h w => ?_)
      obtain ⟨rfl, h⟩ := h
      exact Clret (pc := 23) X w h dX8_apart_23
set_option maxHeartbeats 4000000 in
set_option maxRecDepth 100000 in
theorem okX8_trade (l : Launch) {D : va_G} {g : Nat → ClassId} {ad : Nat → Nat} (hJ : CJ ad) {u : Mm} {a1 : Int32} {a2 : Int32} {a3 : Int32} {a4 : Int32} {a5 : Int32} {Q : Int32 → Mm → Prop} (h : wX8_trade u a1 a2 a3 a4 a5 Q) : Met l yX8_trade (Cond.code yX8_trade cX8_trade 8 (some .int) :: gt) ({ frames := 2, cells := 0, slots := 0, locals := 43 } : Room) (CPc D g ad u [.ref (ad 0), .int a1, .int a2, .int a3, .int a4, .int a5]) (va_Qi Q (CB D g ad) (CA ad)) 0 0 (CA ad) := by
  refine Met.ofW (cc := cX8_trade) (maxL := 8) (ret := (some .int)) (by decide) rfl ?_
  intro p e s m args below meth c s₁ B hml hv
  refine Centry (own := RX8) B hml hv hJ rfl (Nat.le_of_ble_eq_true rfl) (fun ls H locs X w hl => ?_)
  obtain ⟨⟨hx, hb, hml, hown, hts⟩, hr, hlocks, hK, hJ, hAA⟩ := id X
  have hl : lv_has ls 8 [(0, .ref (ad 0)), (1, .int a1), (2, .int a2), (3, .int a3), (4, .int a4), (5, .int a5)] := hl
  unfold wX8_trade at h
  refine lv_iload_n (pc := 0) hx hb dX8_trade_0 rfl (lv_at hl 1 rfl) ?_
  refine lv_iload_n (pc := 1) hx hb dX8_trade_1 rfl (lv_at hl 2 rfl) ?_
  refine lv_iload_n (pc := 2) hx hb dX8_trade_2 rfl (lv_at hl 3 rfl) ?_
  refine Ccalli (rest := []) (CrunS (pc := 3) X w (okX8_isBalance l hJ h) kw321 kmX8_isBalance ⟨rfl, rfl⟩ ⟨by decide, by decide⟩ rfl hl.1 rfl (Nat.le_of_ble_eq_true rfl) dX8_trade_3) w (fun r1 u9_ H locs h w => ?_)
  obtain ⟨hz_r1, h⟩ := h
  obtain ⟨rfl, h⟩ := h
  refine lv_if_eq (pc := 6) (tgt := 30) hx hb dX8_trade_6 (by decide) (fun c_ => ?_) (fun c_ => ?_)
  · have h := h.1 c_
    refine lv_bipush (pc := 30) (v := (-2 : Int32)) hx hb dX8_trade_30 (by decide) ?_
    exact Ciret (pc := 32) X w h dX8_trade_32
  · have h := h.2 c_
    refine lv_iload (pc := 9) hx hb dX8_trade_9 (lv_at hl 4 rfl) ?_
    refine lv_iconst (pc := 11) (v := (0 : Int32)) hx hb dX8_trade_11 (by decide) ?_
    refine lv_iconst (pc := 12) (v := (1 : Int32)) hx hb dX8_trade_12 (by decide) ?_
    refine Ccalli (rest := []) (CrunS (pc := 13) X w (okX8_within l hJ h) kw258 kmX8_within ⟨rfl, rfl⟩ ⟨by decide, by decide⟩ rfl hl.1 rfl (Nat.le_of_ble_eq_true rfl) dX8_trade_13) w (fun r2 u9_ H locs h w => ?_)
    obtain ⟨hz_r2, h⟩ := h
    obtain ⟨rfl, h⟩ := h
    refine lv_if_eq (pc := 16) (tgt := 30) hx hb dX8_trade_16 (by decide) (fun c_ => ?_) (fun c_ => ?_)
    · have h := h.1 c_
      refine lv_bipush (pc := 30) (v := (-2 : Int32)) hx hb dX8_trade_30 (by decide) ?_
      exact Ciret (pc := 32) X w h dX8_trade_32
    · have h := h.2 c_
      refine lv_iload (pc := 19) hx hb dX8_trade_19 (lv_at hl 5 rfl) ?_
      refine lv_iconst (pc := 21) (v := (-1 : Int32)) hx hb dX8_trade_21 (by decide) ?_
      refine lv_ldc (pc := 22) (v := (100000 : Int32)) hx hb hown (hts _ (List.mem_cons_of_mem _ kw282)) dX8_trade_22 ?_
      refine Ccalli (rest := []) (CrunS (pc := 24) X w (okX8_within l hJ h) kw258 kmX8_within ⟨rfl, rfl⟩ ⟨by decide, by decide⟩ rfl hl.1 rfl (Nat.le_of_ble_eq_true rfl) dX8_trade_24) w (fun r3 u9_ H locs h w => ?_)
      obtain ⟨hz_r3, h⟩ := h
      obtain ⟨rfl, h⟩ := h
      refine lv_if_ne (pc := 27) (tgt := 33) hx hb dX8_trade_27 (by decide) (fun c_ => ?_) (fun c_ => ?_)
      · have h := h.2 c_
        refine lv_aload_n (pc := 33) hx hb dX8_trade_33 rfl (lv_at hl 0 rfl) ?_
        refine Cgf_0_3 (pc := 34) X w kw372 dX8_trade_34 ?_
        refine lv_iload_n (pc := 37) hx hb dX8_trade_37 rfl (lv_at hl 1 rfl) ?_
        refine lv_iload_n (pc := 38) hx hb dX8_trade_38 rfl (lv_at hl 2 rfl) ?_
        refine lv_iload_n (pc := 39) hx hb dX8_trade_39 rfl (lv_at hl 3 rfl) ?_
        refine lv_iload (pc := 40) hx hb dX8_trade_40 (lv_at hl 4 rfl) ?_
        refine Ccalli (rest := []) (CrunV (pc := 42) X w (okX0_placeOf l hJ h) kw373 kmX0_placeOf ⟨rfl, rfl⟩ ⟨by decide, by decide⟩ (Crv_29 X w) rfl hl.1 rfl (Nat.le_of_ble_eq_true rfl) dX8_trade_42) w (fun r4 u9_ H locs h w => ?_)
        obtain ⟨rfl, h⟩ := h
        refine lv_istore (pc := 45) (lv' := [(6, .int r4), (0, .ref (ad 0)), (1, .int a1), (2, .int a2), (3, .int a3), (4, .int a4), (5, .int a5)]) hx hb dX8_trade_45 hl (by decide) rfl (fun ls hl => ?_)
        refine lv_aload_n (pc := 47) hx hb dX8_trade_47 rfl (lv_at hl 1 rfl) ?_
        refine Cgf_0_3 (pc := 48) X w kw372 dX8_trade_48 ?_
        refine Cgf_29_0 (pc := 51) X w kw374 dX8_trade_51 ?_
        refine lv_iload (pc := 54) hx hb dX8_trade_54 (lv_at hl 0 rfl) ?_
        refine Cld_30 (pc := 56) X w h.1 dX8_trade_56 ?_
        have h := h.2
        refine lv_topi (fun x7_5 e_ => ?_)
        have h := h x7_5 e_
        refine lv_istore (pc := 57) (lv' := [(7, .int x7_5), (6, .int r4), (0, .ref (ad 0)), (1, .int a1), (2, .int a2), (3, .int a3), (4, .int a4), (5, .int a5)]) hx hb dX8_trade_57 hl (by decide) rfl (fun ls hl => ?_)
        refine lv_aload_n (pc := 59) hx hb dX8_trade_59 rfl (lv_at hl 2 rfl) ?_
        refine Cgf_0_3 (pc := 60) X w kw372 dX8_trade_60 ?_
        refine Cgf_29_0 (pc := 63) X w kw374 dX8_trade_63 ?_
        refine lv_iload (pc := 66) hx hb dX8_trade_66 (lv_at hl 1 rfl) ?_
        refine lv_iload (pc := 68) hx hb dX8_trade_68 (lv_at hl 7 rfl) ?_
        refine Cst_30 (pc := 70) X w h.1 dX8_trade_70 (fun H locs w => ?_)
        have h := h.2
        obtain ⟨u6, e_⟩ : ∃ y : Mm, y = s32 u 30 r4.toNatClampNeg a5 := ⟨_, rfl⟩
        rw [← e_] at w
        have h := h u6 e_
        refine lv_iload (pc := 71) hx hb dX8_trade_71 (lv_at hl 0 rfl) ?_
        exact Ciret (pc := 73) X w h dX8_trade_73
      · have h := h.1 c_
        refine lv_bipush (pc := 30) (v := (-2 : Int32)) hx hb dX8_trade_30 (by decide) ?_
        exact Ciret (pc := 32) X w h dX8_trade_32
set_option maxHeartbeats 4000000 in
set_option maxRecDepth 100000 in
theorem okX8_precise (l : Launch) {D : va_G} {g : Nat → ClassId} {ad : Nat → Nat} (hJ : CJ ad) {u : Mm} {a1 : Int32} {a2 : Int32} {Q : Int32 → Mm → Prop} (h : wX8_precise u a1 a2 Q) : Met l yX8_precise (Cond.code yX8_precise cX8_precise 4 (some .int) :: gt) ({ frames := 2, cells := 0, slots := 0, locals := 42 } : Room) (CPc D g ad u [.ref (ad 0), .int a1, .int a2]) (va_Qi Q (CB D g ad) (CA ad)) 0 0 (CA ad) := by
  refine Met.ofW (cc := cX8_precise) (maxL := 4) (ret := (some .int)) (by decide) rfl ?_
  intro p e s m args below meth c s₁ B hml hv
  refine Centry (own := RX8) B hml hv hJ rfl (Nat.le_of_ble_eq_true rfl) (fun ls H locs X w hl => ?_)
  obtain ⟨⟨hx, hb, hml, hown, hts⟩, hr, hlocks, hK, hJ, hAA⟩ := id X
  have hl : lv_has ls 4 [(0, .ref (ad 0)), (1, .int a1), (2, .int a2)] := hl
  unfold wX8_precise at h
  refine lv_iload_n (pc := 0) hx hb dX8_precise_0 rfl (lv_at hl 1 rfl) ?_
  refine lv_iconst (pc := 1) (v := (2 : Int32)) hx hb dX8_precise_1 (by decide) ?_
  refine Ccalli (rest := []) (CrunS (pc := 2) X w (okX8_below l hJ h) kw23 kmX8_below ⟨rfl, rfl⟩ ⟨by decide, by decide⟩ rfl hl.1 rfl (Nat.le_of_ble_eq_true rfl) dX8_precise_2) w (fun r1 u9_ H locs h w => ?_)
  obtain ⟨hz_r1, h⟩ := h
  obtain ⟨rfl, h⟩ := h
  refine lv_if_eq (pc := 5) (tgt := 15) hx hb dX8_precise_5 (by decide) (fun c_ => ?_) (fun c_ => ?_)
  · have h := h.1 c_
    refine lv_bipush (pc := 15) (v := (-2 : Int32)) hx hb dX8_precise_15 (by decide) ?_
    exact Ciret (pc := 17) X w h dX8_precise_17
  · have h := h.2 c_
    refine lv_iload_n (pc := 8) hx hb dX8_precise_8 rfl (lv_at hl 2 rfl) ?_
    refine Ccalli (rest := []) (CrunS (pc := 9) X w (okX8_isGrade l hJ h) kw259 kmX8_isGrade ⟨rfl, rfl⟩ ⟨by decide, by decide⟩ rfl hl.1 rfl (Nat.le_of_ble_eq_true rfl) dX8_precise_9) w (fun r2 u9_ H locs h w => ?_)
    obtain ⟨hz_r2, h⟩ := h
    obtain ⟨rfl, h⟩ := h
    refine lv_if_ne (pc := 12) (tgt := 18) hx hb dX8_precise_12 (by decide) (fun c_ => ?_) (fun c_ => ?_)
    · have h := h.2 c_
      refine lv_aload_n (pc := 18) hx hb dX8_precise_18 rfl (lv_at hl 0 rfl) ?_
      refine Cgf_0_3 (pc := 19) X w kw372 dX8_precise_19 ?_
      refine Cgf_29_1 (pc := 22) X w kw375 dX8_precise_22 ?_
      refine lv_iload_n (pc := 25) hx hb dX8_precise_25 rfl (lv_at hl 1 rfl) ?_
      refine Cld_31 (pc := 26) X w h.1 dX8_precise_26 ?_
      have h := h.2
      refine lv_topi (fun x3_3 e_ => ?_)
      have h := h x3_3 e_
      refine lv_istore_n (pc := 27) (lv' := [(3, .int x3_3), (0, .ref (ad 0)), (1, .int a1), (2, .int a2)]) hx hb dX8_precise_27 rfl hl (by decide) rfl (fun ls hl => ?_)
      refine lv_aload_n (pc := 28) hx hb dX8_precise_28 rfl (lv_at hl 1 rfl) ?_
      refine Cgf_0_3 (pc := 29) X w kw372 dX8_precise_29 ?_
      refine Cgf_29_1 (pc := 32) X w kw375 dX8_precise_32 ?_
      refine lv_iload_n (pc := 35) hx hb dX8_precise_35 rfl (lv_at hl 2 rfl) ?_
      refine lv_iload_n (pc := 36) hx hb dX8_precise_36 rfl (lv_at hl 3 rfl) ?_
      refine Cst_31 (pc := 37) X w h.1 dX8_precise_37 (fun H locs w => ?_)
      have h := h.2
      obtain ⟨u4, e_⟩ : ∃ y : Mm, y = s32 u 31 a1.toNatClampNeg a2 := ⟨_, rfl⟩
      rw [← e_] at w
      have h := h u4 e_
      refine lv_iload_n (pc := 38) hx hb dX8_precise_38 rfl (lv_at hl 0 rfl) ?_
      exact Ciret (pc := 39) X w h dX8_precise_39
    · have h := h.1 c_
      refine lv_bipush (pc := 15) (v := (-2 : Int32)) hx hb dX8_precise_15 (by decide) ?_
      exact Ciret (pc := 17) X w h dX8_precise_17
set_option maxHeartbeats 4000000 in
set_option maxRecDepth 100000 in
theorem okX8_hidden (l : Launch) {D : va_G} {g : Nat → ClassId} {ad : Nat → Nat} (hJ : CJ ad) {u : Mm} {a1 : Int32} {a2 : Int32} {a3 : Int32} {Q : Int32 → Prop} (h : wX8_hidden u a1 a2 a3 Q) : Met l yX8_hidden (Cond.code yX8_hidden cX8_hidden 4 (some .int) :: gt) ({ frames := 2, cells := 0, slots := 0, locals := 49 } : Room) (CPc D g ad u [.ref (ad 0), .int a1, .int a2, .int a3]) (va_Qi (fun r u1 => u = u1 ∧ Q r) (CB D g ad) (CA ad)) 0 0 (CA ad) := by
  refine Met.ofW (cc := cX8_hidden) (maxL := 4) (ret := (some .int)) (by decide) rfl ?_
  intro p e s m args below meth c s₁ B hml hv
  refine Centry (own := RX8) B hml hv hJ rfl (Nat.le_of_ble_eq_true rfl) (fun ls H locs X w hl => ?_)
  obtain ⟨⟨hx, hb, hml, hown, hts⟩, hr, hlocks, hK, hJ, hAA⟩ := id X
  have hl : lv_has ls 4 [(0, .ref (ad 0)), (1, .int a1), (2, .int a2), (3, .int a3)] := hl
  unfold wX8_hidden at h
  refine lv_iload_n (pc := 0) hx hb dX8_hidden_0 rfl (lv_at hl 1 rfl) ?_
  refine lv_iload_n (pc := 1) hx hb dX8_hidden_1 rfl (lv_at hl 2 rfl) ?_
  refine lv_iload_n (pc := 2) hx hb dX8_hidden_2 rfl (lv_at hl 3 rfl) ?_
  refine Ccalli (rest := []) (CrunS (pc := 3) X w (okX8_isBalance l hJ h) kw321 kmX8_isBalance ⟨rfl, rfl⟩ ⟨by decide, by decide⟩ rfl hl.1 rfl (Nat.le_of_ble_eq_true rfl) dX8_hidden_3) w (fun r1 u9_ H locs h w => ?_)
  obtain ⟨hz_r1, h⟩ := h
  obtain ⟨rfl, h⟩ := h
  refine lv_if_ne (pc := 6) (tgt := 12) hx hb dX8_hidden_6 (by decide) (fun c_ => ?_) (fun c_ => ?_)
  · have h := h.2 c_
    refine lv_aload_n (pc := 12) hx hb dX8_hidden_12 rfl (lv_at hl 0 rfl) ?_
    refine Cgf_0_3 (pc := 13) X w kw372 dX8_hidden_13 ?_
    refine lv_iload_n (pc := 16) hx hb dX8_hidden_16 rfl (lv_at hl 1 rfl) ?_
    refine lv_iload_n (pc := 17) hx hb dX8_hidden_17 rfl (lv_at hl 2 rfl) ?_
    refine lv_iload_n (pc := 18) hx hb dX8_hidden_18 rfl (lv_at hl 3 rfl) ?_
    refine Ccalli (rest := []) (CrunV (pc := 19) X w (okX0_hiddenOf l hJ h) kw376 kmX0_hiddenOf ⟨rfl, rfl⟩ ⟨by decide, by decide⟩ (Crv_29 X w) rfl hl.1 rfl (Nat.le_of_ble_eq_true rfl) dX8_hidden_19) w (fun r2 u9_ H locs h w => ?_)
    obtain ⟨rfl, h⟩ := h
    exact Ciret (pc := 22) X w ⟨rfl, h⟩ dX8_hidden_22
  · have h := h.1 c_
    refine lv_ldc (pc := 9) (v := (-2000000 : Int32)) hx hb hown (hts _ (List.mem_cons_of_mem _ kw380)) dX8_hidden_9 ?_
    exact Ciret (pc := 11) X w ⟨rfl, h⟩ dX8_hidden_11
set_option maxHeartbeats 4000000 in
set_option maxRecDepth 100000 in
theorem okX8_agreed (l : Launch) {D : va_G} {g : Nat → ClassId} {ad : Nat → Nat} (hJ : CJ ad) {u : Mm} {a1 : Int32} {a2 : Int32} {a3 : Int32} {Q : Int32 → Prop} (h : wX8_agreed u a1 a2 a3 Q) : Met l yX8_agreed (Cond.code yX8_agreed cX8_agreed 4 (some .int) :: gt) ({ frames := 2, cells := 0, slots := 0, locals := 51 } : Room) (CPc D g ad u [.ref (ad 0), .int a1, .int a2, .int a3]) (va_Qi (fun r u1 => u = u1 ∧ Q r) (CB D g ad) (CA ad)) 0 0 (CA ad) := by
  refine Met.ofW (cc := cX8_agreed) (maxL := 4) (ret := (some .int)) (by decide) rfl ?_
  intro p e s m args below meth c s₁ B hml hv
  refine Centry (own := RX8) B hml hv hJ rfl (Nat.le_of_ble_eq_true rfl) (fun ls H locs X w hl => ?_)
  obtain ⟨⟨hx, hb, hml, hown, hts⟩, hr, hlocks, hK, hJ, hAA⟩ := id X
  have hl : lv_has ls 4 [(0, .ref (ad 0)), (1, .int a1), (2, .int a2), (3, .int a3)] := hl
  unfold wX8_agreed at h
  refine lv_iload_n (pc := 0) hx hb dX8_agreed_0 rfl (lv_at hl 1 rfl) ?_
  refine lv_iload_n (pc := 1) hx hb dX8_agreed_1 rfl (lv_at hl 2 rfl) ?_
  refine lv_iload_n (pc := 2) hx hb dX8_agreed_2 rfl (lv_at hl 3 rfl) ?_
  refine Ccalli (rest := []) (CrunS (pc := 3) X w (okX8_isBalance l hJ h) kw321 kmX8_isBalance ⟨rfl, rfl⟩ ⟨by decide, by decide⟩ rfl hl.1 rfl (Nat.le_of_ble_eq_true rfl) dX8_agreed_3) w (fun r1 u9_ H locs h w => ?_)
  obtain ⟨hz_r1, h⟩ := h
  obtain ⟨rfl, h⟩ := h
  refine lv_if_ne (pc := 6) (tgt := 12) hx hb dX8_agreed_6 (by decide) (fun c_ => ?_) (fun c_ => ?_)
  · have h := h.2 c_
    refine lv_aload_n (pc := 12) hx hb dX8_agreed_12 rfl (lv_at hl 0 rfl) ?_
    refine Cgf_0_3 (pc := 13) X w kw372 dX8_agreed_13 ?_
    refine lv_iload_n (pc := 16) hx hb dX8_agreed_16 rfl (lv_at hl 1 rfl) ?_
    refine lv_iload_n (pc := 17) hx hb dX8_agreed_17 rfl (lv_at hl 2 rfl) ?_
    refine lv_iload_n (pc := 18) hx hb dX8_agreed_18 rfl (lv_at hl 3 rfl) ?_
    refine Ccalli (rest := []) (CrunV (pc := 19) X w (okX0_agreedOf l hJ h) kw381 kmX0_agreedOf ⟨rfl, rfl⟩ ⟨by decide, by decide⟩ (Crv_29 X w) rfl hl.1 rfl (Nat.le_of_ble_eq_true rfl) dX8_agreed_19) w (fun r2 u9_ H locs h w => ?_)
    obtain ⟨rfl, h⟩ := h
    exact Ciret (pc := 22) X w ⟨rfl, h⟩ dX8_agreed_22
  · have h := h.1 c_
    refine lv_bipush (pc := 9) (v := (-2 : Int32)) hx hb dX8_agreed_9 (by decide) ?_
    exact Ciret (pc := 11) X w ⟨rfl, h⟩ dX8_agreed_11
set_option maxHeartbeats 4000000 in
set_option maxRecDepth 100000 in
theorem okX8_flow (l : Launch) {D : va_G} {g : Nat → ClassId} {ad : Nat → Nat} (hJ : CJ ad) {u : Mm} {a1 : Int32} {a2 : Int32} {a3 : Int32} {a4 : Int32} {Q : Int64 → Mm → Prop} (h : wX8_flow u a1 a2 a3 a4 Q) : Met l yX8_flow (Cond.code yX8_flow cX8_flow 5 (some .long) :: gt) ({ frames := 2, cells := 0, slots := 0, locals := 47 } : Room) (CPc D g ad u [.ref (ad 0), .int a1, .int a2, .int a3, .int a4]) (va_Ql Q (CB D g ad) (CA ad)) 0 0 (CA ad) := by
  refine Met.ofW (cc := cX8_flow) (maxL := 5) (ret := (some .long)) (by decide) rfl ?_
  intro p e s m args below meth c s₁ B hml hv
  refine Centry (own := RX8) B hml hv hJ rfl (Nat.le_of_ble_eq_true rfl) (fun ls H locs X w hl => ?_)
  obtain ⟨⟨hx, hb, hml, hown, hts⟩, hr, hlocks, hK, hJ, hAA⟩ := id X
  have hl : lv_has ls 5 [(0, .ref (ad 0)), (1, .int a1), (2, .int a2), (3, .int a3), (4, .int a4)] := hl
  unfold wX8_flow at h
  refine lv_iload_n (pc := 0) hx hb dX8_flow_0 rfl (lv_at hl 1 rfl) ?_
  refine lv_bipush (pc := 1) (v := (6 : Int32)) hx hb dX8_flow_1 (by decide) ?_
  refine Ccalli (rest := []) (CrunS (pc := 3) X w (okX8_below l hJ h) kw23 kmX8_below ⟨rfl, rfl⟩ ⟨by decide, by decide⟩ rfl hl.1 rfl (Nat.le_of_ble_eq_true rfl) dX8_flow_3) w (fun r1 u9_ H locs h w => ?_)
  obtain ⟨hz_r1, h⟩ := h
  obtain ⟨rfl, h⟩ := h
  refine lv_if_eq (pc := 6) (tgt := 45) hx hb dX8_flow_6 (by decide) (fun c_ => ?_) (fun c_ => ?_)
  · have h := h.1 c_
    refine lv_bipush (pc := 45) (v := (-2 : Int32)) hx hb dX8_flow_45 (by decide) ?_
    refine Ccalll (rest := []) (CrunS (pc := 47) X w (okX8_refused l hJ h) kw305 kmX8_refused ⟨rfl, rfl⟩ ⟨by decide, by decide⟩ rfl hl.1 rfl (Nat.le_of_ble_eq_true rfl) dX8_flow_47) w (fun r2 u9_ H locs h w => ?_)
    obtain ⟨rfl, h⟩ := h
    exact Clret (pc := 50) X w h dX8_flow_50
  · have h := h.2 c_
    refine lv_iload_n (pc := 9) hx hb dX8_flow_9 rfl (lv_at hl 2 rfl) ?_
    refine lv_bipush (pc := 10) (v := (6 : Int32)) hx hb dX8_flow_10 (by decide) ?_
    refine Ccalli (rest := []) (CrunS (pc := 12) X w (okX8_below l hJ h) kw23 kmX8_below ⟨rfl, rfl⟩ ⟨by decide, by decide⟩ rfl hl.1 rfl (Nat.le_of_ble_eq_true rfl) dX8_flow_12) w (fun r3 u9_ H locs h w => ?_)
    obtain ⟨hz_r3, h⟩ := h
    obtain ⟨rfl, h⟩ := h
    refine lv_if_eq (pc := 15) (tgt := 45) hx hb dX8_flow_15 (by decide) (fun c_ => ?_) (fun c_ => ?_)
    · have h := h.1 c_
      refine lv_bipush (pc := 45) (v := (-2 : Int32)) hx hb dX8_flow_45 (by decide) ?_
      refine Ccalll (rest := []) (CrunS (pc := 47) X w (okX8_refused l hJ h) kw305 kmX8_refused ⟨rfl, rfl⟩ ⟨by decide, by decide⟩ rfl hl.1 rfl (Nat.le_of_ble_eq_true rfl) dX8_flow_47) w (fun r4 u9_ H locs h w => ?_)
      obtain ⟨rfl, h⟩ := h
      exact Clret (pc := 50) X w h dX8_flow_50
    · have h := h.2 c_
      refine lv_iload_n (pc := 18) hx hb dX8_flow_18 rfl (lv_at hl 1 rfl) ?_
      refine lv_iload_n (pc := 19) hx hb dX8_flow_19 rfl (lv_at hl 2 rfl) ?_
      refine lv_icmp_eq (pc := 20) (tgt := 45) hx hb dX8_flow_20 (by decide) (fun c_ => ?_) (fun c_ => ?_)
      · have h := h.1 c_
        refine lv_bipush (pc := 45) (v := (-2 : Int32)) hx hb dX8_flow_45 (by decide) ?_
        refine Ccalll (rest := []) (CrunS (pc := 47) X w (okX8_refused l hJ h) kw305 kmX8_refused ⟨rfl, rfl⟩ ⟨by decide, by decide⟩ rfl hl.1 rfl (Nat.le_of_ble_eq_true rfl) dX8_flow_47) w (fun r5 u9_ H locs h w => ?_)
        obtain ⟨rfl, h⟩ := h
        exact Clret (pc := 50) X w h dX8_flow_50
      · have h := h.2 c_
        refine lv_iload_n (pc := 23) hx hb dX8_flow_23 rfl (lv_at hl 3 rfl) ?_
        refine lv_bipush (pc := 24) (v := (12 : Int32)) hx hb dX8_flow_24 (by decide) ?_
        refine Ccalli (rest := []) (CrunS (pc := 26) X w (okX8_below l hJ h) kw23 kmX8_below ⟨rfl, rfl⟩ ⟨by decide, by decide⟩ rfl hl.1 rfl (Nat.le_of_ble_eq_true rfl) dX8_flow_26) w (fun r6 u9_ H locs h w => ?_)
        obtain ⟨hz_r6, h⟩ := h
        obtain ⟨rfl, h⟩ := h
        refine lv_if_eq (pc := 29) (tgt := 45) hx hb dX8_flow_29 (by decide) (fun c_ => ?_) (fun c_ => ?_)
        · have h := h.1 c_
          refine lv_bipush (pc := 45) (v := (-2 : Int32)) hx hb dX8_flow_45 (by decide) ?_
          refine Ccalll (rest := []) (CrunS (pc := 47) X w (okX8_refused l hJ h) kw305 kmX8_refused ⟨rfl, rfl⟩ ⟨by decide, by decide⟩ rfl hl.1 rfl (Nat.le_of_ble_eq_true rfl) dX8_flow_47) w (fun r7 u9_ H locs h w => ?_)
          obtain ⟨rfl, h⟩ := h
          exact Clret (pc := 50) X w h dX8_flow_50
        · have h := h.2 c_
          refine lv_iload (pc := 32) hx hb dX8_flow_32 (lv_at hl 4 rfl) ?_
          refine lv_ldcw (pc := 34) (v := (-100000 : Int32)) hx hb hown (hts _ (List.mem_cons_of_mem _ kw385)) dX8_flow_34 ?_
          refine lv_ldc (pc := 37) (v := (100000 : Int32)) hx hb hown (hts _ (List.mem_cons_of_mem _ kw282)) dX8_flow_37 ?_
          refine Ccalli (rest := []) (CrunS (pc := 39) X w (okX8_within l hJ h) kw258 kmX8_within ⟨rfl, rfl⟩ ⟨by decide, by decide⟩ rfl hl.1 rfl (Nat.le_of_ble_eq_true rfl) dX8_flow_39) w (fun r8 u9_ H locs h w => ?_)
          obtain ⟨hz_r8, h⟩ := h
          obtain ⟨rfl, h⟩ := h
          refine lv_if_ne (pc := 42) (tgt := 51) hx hb dX8_flow_42 (by decide) (fun c_ => ?_) (fun c_ => ?_)
          · have h := h.2 c_
            refine lv_aload_n (pc := 51) hx hb dX8_flow_51 rfl (lv_at hl 0 rfl) ?_
            refine Cgf_0_4 (pc := 52) X w kw386 dX8_flow_52 ?_
            refine lv_iload_n (pc := 55) hx hb dX8_flow_55 rfl (lv_at hl 1 rfl) ?_
            refine lv_iload_n (pc := 56) hx hb dX8_flow_56 rfl (lv_at hl 2 rfl) ?_
            refine lv_iload_n (pc := 57) hx hb dX8_flow_57 rfl (lv_at hl 3 rfl) ?_
            refine lv_iload (pc := 58) hx hb dX8_flow_58 (lv_at hl 4 rfl) ?_
            refine Ccalll (rest := []) (CrunV (pc := 60) X w (okX4_addFlow l hJ h) kw387 kmX4_addFlow ⟨rfl, rfl⟩ ⟨by decide, by decide⟩ (Crv_32 X w) rfl hl.1 rfl (Nat.le_of_ble_eq_true rfl) dX8_flow_60) w (fun r9 u10 H locs h w => ?_)
            exact Clret (pc := 63) X w h dX8_flow_63
          · have h := h.1 c_
            refine lv_bipush (pc := 45) (v := (-2 : Int32)) hx hb dX8_flow_45 (by decide) ?_
            refine Ccalll (rest := []) (CrunS (pc := 47) X w (okX8_refused l hJ h) kw305 kmX8_refused ⟨rfl, rfl⟩ ⟨by decide, by decide⟩ rfl hl.1 rfl (Nat.le_of_ble_eq_true rfl) dX8_flow_47) w (fun r11 u9_ H locs h w => ?_)
            obtain ⟨rfl, h⟩ := h
            exact Clret (pc := 50) X w h dX8_flow_50
set_option maxHeartbeats 4000000 in
set_option maxRecDepth 100000 in
theorem okX8_isAccount (l : Launch) {D : va_G} {g : Nat → ClassId} {ad : Nat → Nat} (hJ : CJ ad) {u : Mm} {a0 : Int32} {a1 : Int32} {Q : Int32 → Prop} (h : wX8_isAccount a0 a1 Q) : Met l yX8_isAccount (Cond.code yX8_isAccount cX8_isAccount 2 (some .boolean) :: gt) ({ frames := 1, cells := 0, slots := 0, locals := 21 } : Room) (CPc D g ad u [.int a0, .int a1]) (va_Qi (fun r u1 => bz r ∧ (u = u1 ∧ Q r)) (CB D g ad) (CA ad)) 0 0 (CA ad) := by
  refine Met.ofW (cc := cX8_isAccount) (maxL := 2) (ret := (some .boolean)) (by decide) rfl ?_
  intro p e s m args below meth c s₁ B hml hv
  refine Centry (own := RX8) B hml hv hJ rfl (Nat.le_of_ble_eq_true rfl) (fun ls H locs X w hl => ?_)
  obtain ⟨⟨hx, hb, hml, hown, hts⟩, hr, hlocks, hK, hJ, hAA⟩ := id X
  have hl : lv_has ls 2 [(0, .int a0), (1, .int a1)] := hl
  unfold wX8_isAccount at h
  refine lv_iload_n (pc := 0) hx hb dX8_isAccount_0 rfl (lv_at hl 0 rfl) ?_
  refine lv_bipush (pc := 1) (v := (6 : Int32)) hx hb dX8_isAccount_1 (by decide) ?_
  refine Ccalli (rest := []) (CrunS (pc := 3) X w (okX8_below l hJ h) kw23 kmX8_below ⟨rfl, rfl⟩ ⟨by decide, by decide⟩ rfl hl.1 rfl (Nat.le_of_ble_eq_true rfl) dX8_isAccount_3) w (fun r1 u9_ H locs h w => ?_)
  obtain ⟨hz_r1, h⟩ := h
  obtain ⟨rfl, h⟩ := h
  refine lv_if_eq (pc := 6) (tgt := 22) hx hb dX8_isAccount_6 (by decide) (fun c_ => ?_) (fun c_ => ?_)
  · have h := h.1 c_
    refine lv_iconst (pc := 22) (v := (0 : Int32)) hx hb dX8_isAccount_22 (by decide) ?_
    exact Czret (pc := 23) X w rfl ⟨rfl, h⟩ dX8_isAccount_23
  · have h := h.2 c_
    refine lv_iload_n (pc := 9) hx hb dX8_isAccount_9 rfl (lv_at hl 1 rfl) ?_
    refine lv_bipush (pc := 10) (v := (12 : Int32)) hx hb dX8_isAccount_10 (by decide) ?_
    refine Ccalli (rest := []) (CrunS (pc := 12) X w (okX8_below l hJ h) kw23 kmX8_below ⟨rfl, rfl⟩ ⟨by decide, by decide⟩ rfl hl.1 rfl (Nat.le_of_ble_eq_true rfl) dX8_isAccount_12) w (fun r2 u9_ H locs h w => ?_)
    obtain ⟨hz_r2, h⟩ := h
    obtain ⟨rfl, h⟩ := h
    refine lv_if_eq (pc := 15) (tgt := 22) hx hb dX8_isAccount_15 (by decide) (fun c_ => ?_) (fun c_ => ?_)
    · have h := h.1 c_
      refine lv_iconst (pc := 22) (v := (0 : Int32)) hx hb dX8_isAccount_22 (by decide) ?_
      exact Czret (pc := 23) X w rfl ⟨rfl, h⟩ dX8_isAccount_23
    · have h := h.2 c_
      refine lv_iconst (pc := 18) (v := (1 : Int32)) hx hb dX8_isAccount_18 (by decide) ?_
      refine lv_goto (pc := 19) (tgt := 23) hx hb dX8_isAccount_19 (by decide) ?_
      exact Czret (pc := 23) X w rfl ⟨rfl, h⟩ dX8_isAccount_23
set_option maxHeartbeats 4000000 in
set_option maxRecDepth 100000 in
theorem okX8_net (l : Launch) {D : va_G} {g : Nat → ClassId} {ad : Nat → Nat} (hJ : CJ ad) {u : Mm} {a1 : Int32} {a2 : Int32} {Q : Int64 → Prop} (h : wX8_net u a1 a2 Q) : Met l yX8_net (Cond.code yX8_net cX8_net 3 (some .long) :: gt) ({ frames := 2, cells := 0, slots := 0, locals := 47 } : Room) (CPc D g ad u [.ref (ad 0), .int a1, .int a2]) (va_Ql (fun r u1 => u = u1 ∧ Q r) (CB D g ad) (CA ad)) 0 0 (CA ad) := by
  refine Met.ofW (cc := cX8_net) (maxL := 3) (ret := (some .long)) (by decide) rfl ?_
  intro p e s m args below meth c s₁ B hml hv
  refine Centry (own := RX8) B hml hv hJ rfl (Nat.le_of_ble_eq_true rfl) (fun ls H locs X w hl => ?_)
  obtain ⟨⟨hx, hb, hml, hown, hts⟩, hr, hlocks, hK, hJ, hAA⟩ := id X
  have hl : lv_has ls 3 [(0, .ref (ad 0)), (1, .int a1), (2, .int a2)] := hl
  unfold wX8_net at h
  refine lv_iload_n (pc := 0) hx hb dX8_net_0 rfl (lv_at hl 1 rfl) ?_
  refine lv_iload_n (pc := 1) hx hb dX8_net_1 rfl (lv_at hl 2 rfl) ?_
  refine Ccalli (rest := []) (CrunS (pc := 2) X w (okX8_isAccount l hJ h) kw391 kmX8_isAccount ⟨rfl, rfl⟩ ⟨by decide, by decide⟩ rfl hl.1 rfl (Nat.le_of_ble_eq_true rfl) dX8_net_2) w (fun r1 u9_ H locs h w => ?_)
  obtain ⟨hz_r1, h⟩ := h
  obtain ⟨rfl, h⟩ := h
  refine lv_if_ne (pc := 5) (tgt := 14) hx hb dX8_net_5 (by decide) (fun c_ => ?_) (fun c_ => ?_)
  · have h := h.2 c_
    refine lv_aload_n (pc := 14) hx hb dX8_net_14 rfl (lv_at hl 0 rfl) ?_
    refine Cgf_0_4 (pc := 15) X w kw386 dX8_net_15 ?_
    refine lv_iload_n (pc := 18) hx hb dX8_net_18 rfl (lv_at hl 1 rfl) ?_
    refine lv_iload_n (pc := 19) hx hb dX8_net_19 rfl (lv_at hl 2 rfl) ?_
    refine Ccalll (rest := []) (CrunV (pc := 20) X w (okX4_netOf l hJ h) kw394 kmX4_netOf ⟨rfl, rfl⟩ ⟨by decide, by decide⟩ (Crv_32 X w) rfl hl.1 rfl (Nat.le_of_ble_eq_true rfl) dX8_net_20) w (fun r2 u9_ H locs h w => ?_)
    obtain ⟨rfl, h⟩ := h
    exact Clret (pc := 23) X w ⟨rfl, h⟩ dX8_net_23
  · have h := h.1 c_
    refine lv_bipush (pc := 8) (v := (-2 : Int32)) hx hb dX8_net_8 (by decide) ?_
    refine Ccalll (rest := []) (CrunS (pc := 10) X w (okX8_refused l hJ h) kw305 kmX8_refused ⟨rfl, rfl⟩ ⟨by decide, by decide⟩ rfl hl.1 rfl (Nat.le_of_ble_eq_true rfl) dX8_net_10) w (fun r3 u9_ H locs h w => ?_)
    obtain ⟨rfl, h⟩ := h
    exact Clret (pc := 13) X w ⟨rfl, h⟩ dX8_net_13
set_option maxHeartbeats 4000000 in
set_option maxRecDepth 100000 in
theorem okX8_stock (l : Launch) {D : va_G} {g : Nat → ClassId} {ad : Nat → Nat} (hJ : CJ ad) {u : Mm} {a1 : Int32} {a2 : Int32} {a3 : Int32} {Q : Int32 → Mm → Prop} (h : wX8_stock u a1 a2 a3 Q) : Met l yX8_stock (Cond.code yX8_stock cX8_stock 5 (some .int) :: gt) ({ frames := 2, cells := 0, slots := 0, locals := 42 } : Room) (CPc D g ad u [.ref (ad 0), .int a1, .int a2, .int a3]) (va_Qi Q (CB D g ad) (CA ad)) 0 0 (CA ad) := by
  refine Met.ofW (cc := cX8_stock) (maxL := 5) (ret := (some .int)) (by decide) rfl ?_
  intro p e s m args below meth c s₁ B hml hv
  refine Centry (own := RX8) B hml hv hJ rfl (Nat.le_of_ble_eq_true rfl) (fun ls H locs X w hl => ?_)
  obtain ⟨⟨hx, hb, hml, hown, hts⟩, hr, hlocks, hK, hJ, hAA⟩ := id X
  have hl : lv_has ls 5 [(0, .ref (ad 0)), (1, .int a1), (2, .int a2), (3, .int a3)] := hl
  unfold wX8_stock at h
  refine lv_iload_n (pc := 0) hx hb dX8_stock_0 rfl (lv_at hl 1 rfl) ?_
  refine lv_iload_n (pc := 1) hx hb dX8_stock_1 rfl (lv_at hl 2 rfl) ?_
  refine Ccalli (rest := []) (CrunS (pc := 2) X w (okX8_isAccount l hJ h) kw391 kmX8_isAccount ⟨rfl, rfl⟩ ⟨by decide, by decide⟩ rfl hl.1 rfl (Nat.le_of_ble_eq_true rfl) dX8_stock_2) w (fun r1 u9_ H locs h w => ?_)
  obtain ⟨hz_r1, h⟩ := h
  obtain ⟨rfl, h⟩ := h
  refine lv_if_eq (pc := 5) (tgt := 20) hx hb dX8_stock_5 (by decide) (fun c_ => ?_) (fun c_ => ?_)
  · have h := h.1 c_
    refine lv_bipush (pc := 20) (v := (-2 : Int32)) hx hb dX8_stock_20 (by decide) ?_
    exact Ciret (pc := 22) X w h dX8_stock_22
  · have h := h.2 c_
    refine lv_iload_n (pc := 8) hx hb dX8_stock_8 rfl (lv_at hl 3 rfl) ?_
    refine lv_ldc (pc := 9) (v := (-1000000 : Int32)) hx hb hown (hts _ (List.mem_cons_of_mem _ kw293)) dX8_stock_9 ?_
    refine lv_ldcw (pc := 11) (v := (1000000 : Int32)) hx hb hown (hts _ (List.mem_cons_of_mem _ kw395)) dX8_stock_11 ?_
    refine Ccalli (rest := []) (CrunS (pc := 14) X w (okX8_within l hJ h) kw258 kmX8_within ⟨rfl, rfl⟩ ⟨by decide, by decide⟩ rfl hl.1 rfl (Nat.le_of_ble_eq_true rfl) dX8_stock_14) w (fun r2 u9_ H locs h w => ?_)
    obtain ⟨hz_r2, h⟩ := h
    obtain ⟨rfl, h⟩ := h
    refine lv_if_ne (pc := 17) (tgt := 23) hx hb dX8_stock_17 (by decide) (fun c_ => ?_) (fun c_ => ?_)
    · have h := h.2 c_
      refine lv_iload_n (pc := 23) hx hb dX8_stock_23 rfl (lv_at hl 1 rfl) ?_
      refine lv_bipush (pc := 24) (v := (12 : Int32)) hx hb dX8_stock_24 (by decide) ?_
      refine lv_imul (pc := 26) hx hb dX8_stock_26 ?_
      refine lv_iload_n (pc := 27) hx hb dX8_stock_27 rfl (lv_at hl 2 rfl) ?_
      refine lv_iadd (pc := 28) hx hb dX8_stock_28 ?_
      refine lv_topi (fun x4_3 e_ => ?_)
      have h := h x4_3 e_
      refine lv_istore (pc := 29) (lv' := [(4, .int x4_3), (0, .ref (ad 0)), (1, .int a1), (2, .int a2), (3, .int a3)]) hx hb dX8_stock_29 hl (by decide) rfl (fun ls hl => ?_)
      refine lv_aload_n (pc := 31) hx hb dX8_stock_31 rfl (lv_at hl 1 rfl) ?_
      refine Cgf_0_4 (pc := 32) X w kw386 dX8_stock_32 ?_
      refine Cgf_32_1 (pc := 35) X w kw396 dX8_stock_35 ?_
      refine lv_iload (pc := 38) hx hb dX8_stock_38 (lv_at hl 0 rfl) ?_
      refine lv_iload_n (pc := 40) hx hb dX8_stock_40 rfl (lv_at hl 4 rfl) ?_
      refine Cst_34 (pc := 41) X w h.1 dX8_stock_41 (fun H locs w => ?_)
      have h := h.2
      obtain ⟨u4, e_⟩ : ∃ y : Mm, y = s32 u 34 x4_3.toNatClampNeg a3 := ⟨_, rfl⟩
      rw [← e_] at w
      have h := h u4 e_
      refine lv_aload_n (pc := 42) hx hb dX8_stock_42 rfl (lv_at hl 1 rfl) ?_
      refine Cgf_0_4 (pc := 43) X w kw386 dX8_stock_43 ?_
      refine Cgf_32_2 (pc := 46) X w kw397 dX8_stock_46 ?_
      refine lv_iload (pc := 49) hx hb dX8_stock_49 (lv_at hl 0 rfl) ?_
      refine lv_iconst (pc := 51) (v := (1 : Int32)) hx hb dX8_stock_51 (by decide) ?_
      refine Cst_35 (pc := 52) X w h.1 dX8_stock_52 (fun H locs w => ?_)
      have h := h.2
      obtain ⟨u5, e_⟩ : ∃ y : Mm, y = s32 u4 35 x4_3.toNatClampNeg (vp_nar .boolean (1 : Int32)) := ⟨_, rfl⟩
      rw [← e_] at w
      have h := h u5 e_
      refine lv_iconst (pc := 53) (v := (1 : Int32)) hx hb dX8_stock_53 (by decide) ?_
      exact Ciret (pc := 54) X w h dX8_stock_54
    · have h := h.1 c_
      refine lv_bipush (pc := 20) (v := (-2 : Int32)) hx hb dX8_stock_20 (by decide) ?_
      exact Ciret (pc := 22) X w h dX8_stock_22
set_option maxHeartbeats 4000000 in
set_option maxRecDepth 100000 in
theorem bX8_unstock_35 {l : Launch} {p : Program} {e : Env} {s : State} {m : MethodId} {args : Array Value} {below : List Frame} {meth : Method} {c : Code} {D : va_G} {g : Nat → ClassId} {ad : Nat → Nat} {Q : Int32 → Mm → Prop} (X : CX p s m args meth c cX8_unstock RX8 5 (some .int) (Cond.code yX8_unstock cX8_unstock 5 (some .int)) D g ad (CA ad)) : ∀ (u : Mm) (x3 : Int32) (y0 : Int32) (H : Heap) (locs : List Loc) (ls : Array Slot), wX8_unstock_b35 Q u x3 y0 → CWd D g ad (CA ad) s u H locs → lv_has ls 5 [(0, .ref (ad 0)), (3, .int x3)] → W p l e ({ frames := 2, cells := 0, slots := 0, locals := 42 } : Room) s m args below meth c H locs 0 0 (MQ below (va_Qi Q (CB D g ad) (CA ad)) args s 0 0 (CA ad)) (F0 m 35 ls [.int y0]) := by
  obtain ⟨⟨hx, hb, hml, hown, hts⟩, hr, hlocks, hK, hJ, hAA⟩ := id X
  intro u x3 y0 H locs ls h w hl
  unfold wX8_unstock_b35 at h
  refine lv_istore (pc := 35) (lv' := [(4, .int y0), (0, .ref (ad 0)), (3, .int x3)]) hx hb dX8_unstock_35 hl (by decide) rfl (fun ls hl => ?_)
  refine lv_aload_n (pc := 37) hx hb dX8_unstock_37 rfl (lv_at hl 1 rfl) ?_
  refine Cgf_0_4 (pc := 38) X w kw386 dX8_unstock_38 ?_
  refine Cgf_32_2 (pc := 41) X w kw397 dX8_unstock_41 ?_
  refine lv_iload_n (pc := 44) hx hb dX8_unstock_44 rfl (lv_at hl 2 rfl) ?_
  refine lv_iconst (pc := 45) (v := (0 : Int32)) hx hb dX8_unstock_45 (by decide) ?_
  refine Cst_35 (pc := 46) X w h.1 dX8_unstock_46 (fun H locs w => ?_)
  have h := h.2
  obtain ⟨u1, e_⟩ : ∃ y : Mm, y = s32 u 35 x3.toNatClampNeg (vp_nar .boolean (0 : Int32)) := ⟨_, rfl⟩
  rw [← e_] at w
  have h := h u1 e_
  refine lv_iload (pc := 47) hx hb dX8_unstock_47 (lv_at hl 0 rfl) ?_
  exact Ciret (pc := 49) X w h dX8_unstock_49
set_option maxHeartbeats 4000000 in
set_option maxRecDepth 100000 in
theorem okX8_unstock (l : Launch) {D : va_G} {g : Nat → ClassId} {ad : Nat → Nat} (hJ : CJ ad) {u : Mm} {a1 : Int32} {a2 : Int32} {Q : Int32 → Mm → Prop} (h : wX8_unstock u a1 a2 Q) : Met l yX8_unstock (Cond.code yX8_unstock cX8_unstock 5 (some .int) :: gt) ({ frames := 2, cells := 0, slots := 0, locals := 42 } : Room) (CPc D g ad u [.ref (ad 0), .int a1, .int a2]) (va_Qi Q (CB D g ad) (CA ad)) 0 0 (CA ad) := by
  refine Met.ofW (cc := cX8_unstock) (maxL := 5) (ret := (some .int)) (by decide) rfl ?_
  intro p e s m args below meth c s₁ B hml hv
  refine Centry (own := RX8) B hml hv hJ rfl (Nat.le_of_ble_eq_true rfl) (fun ls H locs X w hl => ?_)
  obtain ⟨⟨hx, hb, hml, hown, hts⟩, hr, hlocks, hK, hJ, hAA⟩ := id X
  have hl : lv_has ls 5 [(0, .ref (ad 0)), (1, .int a1), (2, .int a2)] := hl
  unfold wX8_unstock at h
  refine lv_iload_n (pc := 0) hx hb dX8_unstock_0 rfl (lv_at hl 1 rfl) ?_
  refine lv_iload_n (pc := 1) hx hb dX8_unstock_1 rfl (lv_at hl 2 rfl) ?_
  refine Ccalli (rest := []) (CrunS (pc := 2) X w (okX8_isAccount l hJ h) kw391 kmX8_isAccount ⟨rfl, rfl⟩ ⟨by decide, by decide⟩ rfl hl.1 rfl (Nat.le_of_ble_eq_true rfl) dX8_unstock_2) w (fun r1 u9_ H locs h w => ?_)
  obtain ⟨hz_r1, h⟩ := h
  obtain ⟨rfl, h⟩ := h
  refine lv_if_ne (pc := 5) (tgt := 11) hx hb dX8_unstock_5 (by decide) (fun c_ => ?_) (fun c_ => ?_)
  · have h := h.2 c_
    refine lv_iload_n (pc := 11) hx hb dX8_unstock_11 rfl (lv_at hl 1 rfl) ?_
    refine lv_bipush (pc := 12) (v := (12 : Int32)) hx hb dX8_unstock_12 (by decide) ?_
    refine lv_imul (pc := 14) hx hb dX8_unstock_14 ?_
    refine lv_iload_n (pc := 15) hx hb dX8_unstock_15 rfl (lv_at hl 2 rfl) ?_
    refine lv_iadd (pc := 16) hx hb dX8_unstock_16 ?_
    refine lv_topi (fun x3_2 e_ => ?_)
    have h := h x3_2 e_
    refine lv_istore_n (pc := 17) (lv' := [(3, .int x3_2), (0, .ref (ad 0)), (1, .int a1), (2, .int a2)]) hx hb dX8_unstock_17 rfl hl (by decide) rfl (fun ls hl => ?_)
    refine lv_aload_n (pc := 18) hx hb dX8_unstock_18 rfl (lv_at hl 1 rfl) ?_
    refine Cgf_0_4 (pc := 19) X w kw386 dX8_unstock_19 ?_
    refine Cgf_32_2 (pc := 22) X w kw397 dX8_unstock_22 ?_
    refine lv_iload_n (pc := 25) hx hb dX8_unstock_25 rfl (lv_at hl 0 rfl) ?_
    refine Cld_35 (pc := 26) X w h.1 dX8_unstock_26 ?_
    have h := h.2
    refine lv_if_eq (pc := 27) (tgt := 34) hx hb dX8_unstock_27 (by decide) (fun c_ => ?_) (fun c_ => ?_)
    · have h := h.1 c_
      refine lv_iconst (pc := 34) (v := (0 : Int32)) hx hb dX8_unstock_34 (by decide) ?_
      exact bX8_unstock_35 X u x3_2 (0 : Int32) H locs ls h w (lv_sub hl [1, 0] rfl)
    · have h := h.2 c_
      refine lv_iconst (pc := 30) (v := (1 : Int32)) hx hb dX8_unstock_30 (by decide) ?_
      refine lv_goto (pc := 31) (tgt := 35) hx hb dX8_unstock_31 (by decide) ?_
      exact bX8_unstock_35 X u x3_2 (1 : Int32) H locs ls h w (lv_sub hl [1, 0] rfl)
  · have h := h.1 c_
    refine lv_bipush (pc := 8) (v := (-2 : Int32)) hx hb dX8_unstock_8 (by decide) ?_
    exact Ciret (pc := 10) X w h dX8_unstock_10
set_option maxHeartbeats 4000000 in
set_option maxRecDepth 100000 in
theorem okX8_due (l : Launch) {D : va_G} {g : Nat → ClassId} {ad : Nat → Nat} (hJ : CJ ad) {u : Mm} {a1 : Int32} {a2 : Int32} {Q : Int64 → Prop} (h : wX8_due u a1 a2 Q) : Met l yX8_due (Cond.code yX8_due cX8_due 3 (some .long) :: gt) ({ frames := 3, cells := 0, slots := 0, locals := 73 } : Room) (CPc D g ad u [.ref (ad 0), .int a1, .int a2]) (va_Ql (fun r u1 => u = u1 ∧ Q r) (CB D g ad) (CA ad)) 0 0 (CA ad) := by
  refine Met.ofW (cc := cX8_due) (maxL := 3) (ret := (some .long)) (by decide) rfl ?_
  intro p e s m args below meth c s₁ B hml hv
  refine Centry (own := RX8) B hml hv hJ rfl (Nat.le_of_ble_eq_true rfl) (fun ls H locs X w hl => ?_)
  obtain ⟨⟨hx, hb, hml, hown, hts⟩, hr, hlocks, hK, hJ, hAA⟩ := id X
  have hl : lv_has ls 3 [(0, .ref (ad 0)), (1, .int a1), (2, .int a2)] := hl
  unfold wX8_due at h
  refine lv_iload_n (pc := 0) hx hb dX8_due_0 rfl (lv_at hl 1 rfl) ?_
  refine lv_iload_n (pc := 1) hx hb dX8_due_1 rfl (lv_at hl 2 rfl) ?_
  refine Ccalli (rest := []) (CrunS (pc := 2) X w (okX8_isAccount l hJ h) kw391 kmX8_isAccount ⟨rfl, rfl⟩ ⟨by decide, by decide⟩ rfl hl.1 rfl (Nat.le_of_ble_eq_true rfl) dX8_due_2) w (fun r1 u9_ H locs h w => ?_)
  obtain ⟨hz_r1, h⟩ := h
  obtain ⟨rfl, h⟩ := h
  refine lv_if_ne (pc := 5) (tgt := 14) hx hb dX8_due_5 (by decide) (fun c_ => ?_) (fun c_ => ?_)
  · have h := h.2 c_
    refine lv_aload_n (pc := 14) hx hb dX8_due_14 rfl (lv_at hl 0 rfl) ?_
    refine Cgf_0_4 (pc := 15) X w kw386 dX8_due_15 ?_
    refine lv_iload_n (pc := 18) hx hb dX8_due_18 rfl (lv_at hl 1 rfl) ?_
    refine lv_iload_n (pc := 19) hx hb dX8_due_19 rfl (lv_at hl 2 rfl) ?_
    refine Ccalll (rest := []) (CrunV (pc := 20) X w (okX4_dueOf l hJ h) kw398 kmX4_dueOf ⟨rfl, rfl⟩ ⟨by decide, by decide⟩ (Crv_32 X w) rfl hl.1 rfl (Nat.le_of_ble_eq_true rfl) dX8_due_20) w (fun r2 u9_ H locs h w => ?_)
    obtain ⟨rfl, h⟩ := h
    exact Clret (pc := 23) X w ⟨rfl, h⟩ dX8_due_23
  · have h := h.1 c_
    refine lv_bipush (pc := 8) (v := (-2 : Int32)) hx hb dX8_due_8 (by decide) ?_
    refine Ccalll (rest := []) (CrunS (pc := 10) X w (okX8_refused l hJ h) kw305 kmX8_refused ⟨rfl, rfl⟩ ⟨by decide, by decide⟩ rfl hl.1 rfl (Nat.le_of_ble_eq_true rfl) dX8_due_10) w (fun r3 u9_ H locs h w => ?_)
    obtain ⟨rfl, h⟩ := h
    exact Clret (pc := 13) X w ⟨rfl, h⟩ dX8_due_13
set_option maxHeartbeats 4000000 in
set_option maxRecDepth 100000 in
theorem okX8_off (l : Launch) {D : va_G} {g : Nat → ClassId} {ad : Nat → Nat} (hJ : CJ ad) {u : Mm} {a1 : Int32} {a2 : Int32} {Q : Int64 → Prop} (h : wX8_off u a1 a2 Q) : Met l yX8_off (Cond.code yX8_off cX8_off 4 (some .long) :: gt) ({ frames := 3, cells := 0, slots := 0, locals := 73 } : Room) (CPc D g ad u [.ref (ad 0), .int a1, .int a2]) (va_Ql (fun r u1 => u = u1 ∧ Q r) (CB D g ad) (CA ad)) 0 0 (CA ad) := by
  refine Met.ofW (cc := cX8_off) (maxL := 4) (ret := (some .long)) (by decide) rfl ?_
  intro p e s m args below meth c s₁ B hml hv
  refine Centry (own := RX8) B hml hv hJ rfl (Nat.le_of_ble_eq_true rfl) (fun ls H locs X w hl => ?_)
  obtain ⟨⟨hx, hb, hml, hown, hts⟩, hr, hlocks, hK, hJ, hAA⟩ := id X
  have hl : lv_has ls 4 [(0, .ref (ad 0)), (1, .int a1), (2, .int a2)] := hl
  unfold wX8_off at h
  refine lv_iload_n (pc := 0) hx hb dX8_off_0 rfl (lv_at hl 1 rfl) ?_
  refine lv_iload_n (pc := 1) hx hb dX8_off_1 rfl (lv_at hl 2 rfl) ?_
  refine Ccalli (rest := []) (CrunS (pc := 2) X w (okX8_isAccount l hJ h) kw391 kmX8_isAccount ⟨rfl, rfl⟩ ⟨by decide, by decide⟩ rfl hl.1 rfl (Nat.le_of_ble_eq_true rfl) dX8_off_2) w (fun r1 u9_ H locs h w => ?_)
  obtain ⟨hz_r1, h⟩ := h
  obtain ⟨rfl, h⟩ := h
  refine lv_if_ne (pc := 5) (tgt := 14) hx hb dX8_off_5 (by decide) (fun c_ => ?_) (fun c_ => ?_)
  · have h := h.2 c_
    refine lv_iload_n (pc := 14) hx hb dX8_off_14 rfl (lv_at hl 1 rfl) ?_
    refine lv_bipush (pc := 15) (v := (12 : Int32)) hx hb dX8_off_15 (by decide) ?_
    refine lv_imul (pc := 17) hx hb dX8_off_17 ?_
    refine lv_iload_n (pc := 18) hx hb dX8_off_18 rfl (lv_at hl 2 rfl) ?_
    refine lv_iadd (pc := 19) hx hb dX8_off_19 ?_
    refine lv_topi (fun x3_2 e_ => ?_)
    have h := h x3_2 e_
    refine lv_istore_n (pc := 20) (lv' := [(3, .int x3_2), (0, .ref (ad 0)), (1, .int a1), (2, .int a2)]) hx hb dX8_off_20 rfl hl (by decide) rfl (fun ls hl => ?_)
    refine lv_aload_n (pc := 21) hx hb dX8_off_21 rfl (lv_at hl 1 rfl) ?_
    refine Cgf_0_4 (pc := 22) X w kw386 dX8_off_22 ?_
    refine Cgf_32_2 (pc := 25) X w kw397 dX8_off_25 ?_
    refine lv_iload_n (pc := 28) hx hb dX8_off_28 rfl (lv_at hl 0 rfl) ?_
    refine Cld_35 (pc := 29) X w h.1 dX8_off_29 ?_
    have h := h.2
    refine lv_if_ne (pc := 30) (tgt := 39) hx hb dX8_off_30 (by decide) (fun c_ => ?_) (fun c_ => ?_)
    · have h := h.2 c_
      refine lv_aload_n (pc := 39) hx hb dX8_off_39 rfl (lv_at hl 1 rfl) ?_
      refine Cgf_0_4 (pc := 40) X w kw386 dX8_off_40 ?_
      refine Cgf_32_1 (pc := 43) X w kw396 dX8_off_43 ?_
      refine lv_iload_n (pc := 46) hx hb dX8_off_46 rfl (lv_at hl 0 rfl) ?_
      refine Cld_34 (pc := 47) X w h.1 dX8_off_47 ?_
      have h := h.2
      refine lv_i2l (pc := 48) hx hb dX8_off_48 rfl ?_
      refine lv_aload_n (pc := 49) hx hb dX8_off_49 rfl (lv_at hl 1 rfl) ?_
      refine Cgf_0_4 (pc := 50) X w kw386 dX8_off_50 ?_
      refine lv_iload_n (pc := 53) hx hb dX8_off_53 rfl (lv_at hl 2 rfl) ?_
      refine lv_iload_n (pc := 54) hx hb dX8_off_54 rfl (lv_at hl 3 rfl) ?_
      refine Ccalll (rest := [.long (u.1 34 x3_2.toNatClampNeg).toInt64]) (CrunV (pc := 55) X w (okX4_dueOf l hJ h) kw398 kmX4_dueOf ⟨rfl, rfl⟩ ⟨by decide, by decide⟩ (Crv_32 X w) rfl hl.1 rfl (Nat.le_of_ble_eq_true rfl) dX8_off_55) w (fun r3 u9_ H locs h w => ?_)
      obtain ⟨rfl, h⟩ := h
      refine lv_lsub (pc := 58) hx hb dX8_off_58 ?_
      exact Clret (pc := 59) X w ⟨rfl, h⟩ dX8_off_59
    · have h := h.1 c_
      refine lv_bipush (pc := 33) (v := (-3 : Int32)) hx hb dX8_off_33 (by decide) ?_
      refine Ccalll (rest := []) (CrunS (pc := 35) X w (okX8_refused l hJ h) kw305 kmX8_refused ⟨rfl, rfl⟩ ⟨by decide, by decide⟩ rfl hl.1 rfl (Nat.le_of_ble_eq_true rfl) dX8_off_35) w (fun r4 u9_ H locs h w => ?_)
      obtain ⟨rfl, h⟩ := h
      exact Clret (pc := 38) X w ⟨rfl, h⟩ dX8_off_38
  · have h := h.1 c_
    refine lv_bipush (pc := 8) (v := (-2 : Int32)) hx hb dX8_off_8 (by decide) ?_
    refine Ccalll (rest := []) (CrunS (pc := 10) X w (okX8_refused l hJ h) kw305 kmX8_refused ⟨rfl, rfl⟩ ⟨by decide, by decide⟩ rfl hl.1 rfl (Nat.le_of_ble_eq_true rfl) dX8_off_10) w (fun r5 u9_ H locs h w => ?_)
    obtain ⟨rfl, h⟩ := h
    exact Clret (pc := 13) X w ⟨rfl, h⟩ dX8_off_13
set_option maxHeartbeats 4000000 in
set_option maxRecDepth 100000 in
theorem okX8_type (l : Launch) {D : va_G} {g : Nat → ClassId} {ad : Nat → Nat} (hJ : CJ ad) {u : Mm} {a1 : Int32} {a2 : Int32} {Q : Int32 → Mm → Prop} (h : wX8_type u a1 a2 Q) : Met l yX8_type (Cond.code yX8_type cX8_type 3 (some .int) :: gt) ({ frames := 1, cells := 0, slots := 0, locals := 22 } : Room) (CPc D g ad u [.ref (ad 0), .int a1, .int a2]) (va_Qi Q (CB D g ad) (CA ad)) 0 0 (CA ad) := by
  refine Met.ofW (cc := cX8_type) (maxL := 3) (ret := (some .int)) (by decide) rfl ?_
  intro p e s m args below meth c s₁ B hml hv
  refine Centry (own := RX8) B hml hv hJ rfl (Nat.le_of_ble_eq_true rfl) (fun ls H locs X w hl => ?_)
  obtain ⟨⟨hx, hb, hml, hown, hts⟩, hr, hlocks, hK, hJ, hAA⟩ := id X
  have hl : lv_has ls 3 [(0, .ref (ad 0)), (1, .int a1), (2, .int a2)] := hl
  unfold wX8_type at h
  refine lv_iload_n (pc := 0) hx hb dX8_type_0 rfl (lv_at hl 1 rfl) ?_
  refine lv_iconst (pc := 1) (v := (4 : Int32)) hx hb dX8_type_1 (by decide) ?_
  refine Ccalli (rest := []) (CrunS (pc := 2) X w (okX8_below l hJ h) kw23 kmX8_below ⟨rfl, rfl⟩ ⟨by decide, by decide⟩ rfl hl.1 rfl (Nat.le_of_ble_eq_true rfl) dX8_type_2) w (fun r1 u9_ H locs h w => ?_)
  obtain ⟨hz_r1, h⟩ := h
  obtain ⟨rfl, h⟩ := h
  refine lv_if_eq (pc := 5) (tgt := 19) hx hb dX8_type_5 (by decide) (fun c_ => ?_) (fun c_ => ?_)
  · have h := h.1 c_
    refine lv_bipush (pc := 19) (v := (-2 : Int32)) hx hb dX8_type_19 (by decide) ?_
    exact Ciret (pc := 21) X w h dX8_type_21
  · have h := h.2 c_
    refine lv_iload_n (pc := 8) hx hb dX8_type_8 rfl (lv_at hl 2 rfl) ?_
    refine lv_iconst (pc := 9) (v := (0 : Int32)) hx hb dX8_type_9 (by decide) ?_
    refine lv_sipush (pc := 10) (v := (255 : Int32)) hx hb dX8_type_10 (by decide) ?_
    refine Ccalli (rest := []) (CrunS (pc := 13) X w (okX8_within l hJ h) kw258 kmX8_within ⟨rfl, rfl⟩ ⟨by decide, by decide⟩ rfl hl.1 rfl (Nat.le_of_ble_eq_true rfl) dX8_type_13) w (fun r2 u9_ H locs h w => ?_)
    obtain ⟨hz_r2, h⟩ := h
    obtain ⟨rfl, h⟩ := h
    refine lv_if_ne (pc := 16) (tgt := 22) hx hb dX8_type_16 (by decide) (fun c_ => ?_) (fun c_ => ?_)
    · have h := h.2 c_
      refine lv_aload_n (pc := 22) hx hb dX8_type_22 rfl (lv_at hl 0 rfl) ?_
      refine Cgf_0_5 (pc := 23) X w kw402 dX8_type_23 ?_
      refine lv_iload_n (pc := 26) hx hb dX8_type_26 rfl (lv_at hl 1 rfl) ?_
      obtain ⟨j3, hj_, e_⟩ := vp_in_of h.1 (by decide)
      have h := h.2 j3 hj_ e_
      refine W.eq (g2 := F0 m 27 ls (.int (nI j3) :: .ref (ad 36) :: [])) (by rw [e_]) ?_
      clear e_
      rcases (show j3 = 0 ∨ j3 = 1 ∨ j3 = 2 ∨ j3 = 3 by omega) with rfl | rfl | rfl | rfl
      · refine Caq_36 0 (by decide) (pc := 27) X w dX8_type_27 ?_
        refine Cgf_37_1 (pc := 28) X w kw403 dX8_type_28 ?_
        refine lv_bipush (pc := 31) (v := (60 : Int32)) hx hb dX8_type_31 (by decide) ?_
        refine lv_icmp_lt (pc := 33) (tgt := 39) hx hb dX8_type_33 (by decide) (fun c_ => ?_) (fun c_ => ?_)
        · have h := h.1 c_
          refine lv_aload_n (pc := 39) hx hb dX8_type_39 rfl (lv_at hl 0 rfl) ?_
          refine Cgf_0_5 (pc := 40) X w kw402 dX8_type_40 ?_
          refine lv_iload_n (pc := 43) hx hb dX8_type_43 rfl (lv_at hl 1 rfl) ?_
          obtain ⟨j4, hj_, e_⟩ := vp_in_of h.1 (by decide)
          have h := h.2 j4 hj_ e_
          refine W.eq (g2 := F0 m 44 ls (.int (nI j4) :: .ref (ad 36) :: [])) (by rw [e_]) ?_
          clear e_
          rcases (show j4 = 0 ∨ j4 = 1 ∨ j4 = 2 ∨ j4 = 3 by omega) with rfl | rfl | rfl | rfl
          · refine Caq_36 0 (by decide) (pc := 44) X w dX8_type_44 ?_
            refine lv_iload_n (pc := 45) hx hb dX8_type_45 rfl (lv_at hl 2 rfl) ?_
            refine Ccallv (rest := []) (CrunV (pc := 46) X w (okX1_append_i0 l hJ h) kw404 kmX1_append ⟨rfl, rfl⟩ ⟨by decide, by decide⟩ (Crv_37 X w) rfl hl.1 rfl (Nat.le_of_ble_eq_true rfl) dX8_type_46) w (fun u6 H locs h w => ?_)
            refine lv_aload_n (pc := 49) hx hb dX8_type_49 rfl (lv_at hl 0 rfl) ?_
            refine Cgf_0_5 (pc := 50) X w kw402 dX8_type_50 ?_
            refine lv_iload_n (pc := 53) hx hb dX8_type_53 rfl (lv_at hl 1 rfl) ?_
            obtain ⟨j7, hj_, e_⟩ := vp_in_of h.1 (by decide)
            have h := h.2 j7 hj_ e_
            refine W.eq (g2 := F0 m 54 ls (.int (nI j7) :: .ref (ad 36) :: [])) (by rw [e_]) ?_
            clear e_
            rcases (show j7 = 0 ∨ j7 = 1 ∨ j7 = 2 ∨ j7 = 3 by omega) with rfl | rfl | rfl | rfl
            · refine Caq_36 0 (by decide) (pc := 54) X w dX8_type_54 ?_
              refine Cgf_37_1 (pc := 55) X w kw403 dX8_type_55 ?_
              exact Ciret (pc := 58) X w h dX8_type_58
            · refine Caq_36 1 (by decide) (pc := 54) X w dX8_type_54 ?_
              refine Cgf_41_1 (pc := 55) X w kw403 dX8_type_55 ?_
              exact Ciret (pc := 58) X w h dX8_type_58
            · refine Caq_36 2 (by decide) (pc := 54) X w dX8_type_54 ?_
              refine Cgf_45_1 (pc := 55) X w kw403 dX8_type_55 ?_
              exact Ciret (pc := 58) X w h dX8_type_58
            · refine Caq_36 3 (by decide) (pc := 54) X w dX8_type_54 ?_
              refine Cgf_49_1 (pc := 55) X w kw403 dX8_type_55 ?_
              exact Ciret (pc := 58) X w h dX8_type_58
          · refine Caq_36 1 (by decide) (pc := 44) X w dX8_type_44 ?_
            refine lv_iload_n (pc := 45) hx hb dX8_type_45 rfl (lv_at hl 2 rfl) ?_
            refine Ccallv (rest := []) (CrunV (pc := 46) X w (okX1_append_i1 l hJ h) kw404 kmX1_append ⟨rfl, rfl⟩ ⟨by decide, by decide⟩ (Crv_41 X w) rfl hl.1 rfl (Nat.le_of_ble_eq_true rfl) dX8_type_46) w (fun u6 H locs h w => ?_)
            refine lv_aload_n (pc := 49) hx hb dX8_type_49 rfl (lv_at hl 0 rfl) ?_
            refine Cgf_0_5 (pc := 50) X w kw402 dX8_type_50 ?_
            refine lv_iload_n (pc := 53) hx hb dX8_type_53 rfl (lv_at hl 1 rfl) ?_
            obtain ⟨j7, hj_, e_⟩ := vp_in_of h.1 (by decide)
            have h := h.2 j7 hj_ e_
            refine W.eq (g2 := F0 m 54 ls (.int (nI j7) :: .ref (ad 36) :: [])) (by rw [e_]) ?_
            clear e_
            rcases (show j7 = 0 ∨ j7 = 1 ∨ j7 = 2 ∨ j7 = 3 by omega) with rfl | rfl | rfl | rfl
            · refine Caq_36 0 (by decide) (pc := 54) X w dX8_type_54 ?_
              refine Cgf_37_1 (pc := 55) X w kw403 dX8_type_55 ?_
              exact Ciret (pc := 58) X w h dX8_type_58
            · refine Caq_36 1 (by decide) (pc := 54) X w dX8_type_54 ?_
              refine Cgf_41_1 (pc := 55) X w kw403 dX8_type_55 ?_
              exact Ciret (pc := 58) X w h dX8_type_58
            · refine Caq_36 2 (by decide) (pc := 54) X w dX8_type_54 ?_
              refine Cgf_45_1 (pc := 55) X w kw403 dX8_type_55 ?_
              exact Ciret (pc := 58) X w h dX8_type_58
            · refine Caq_36 3 (by decide) (pc := 54) X w dX8_type_54 ?_
              refine Cgf_49_1 (pc := 55) X w kw403 dX8_type_55 ?_
              exact Ciret (pc := 58) X w h dX8_type_58
          · refine Caq_36 2 (by decide) (pc := 44) X w dX8_type_44 ?_
            refine lv_iload_n (pc := 45) hx hb dX8_type_45 rfl (lv_at hl 2 rfl) ?_
            refine Ccallv (rest := []) (CrunV (pc := 46) X w (okX1_append_i2 l hJ h) kw404 kmX1_append ⟨rfl, rfl⟩ ⟨by decide, by decide⟩ (Crv_45 X w) rfl hl.1 rfl (Nat.le_of_ble_eq_true rfl) dX8_type_46) w (fun u6 H locs h w => ?_)
            refine lv_aload_n (pc := 49) hx hb dX8_type_49 rfl (lv_at hl 0 rfl) ?_
            refine Cgf_0_5 (pc := 50) X w kw402 dX8_type_50 ?_
            refine lv_iload_n (pc := 53) hx hb dX8_type_53 rfl (lv_at hl 1 rfl) ?_
            obtain ⟨j7, hj_, e_⟩ := vp_in_of h.1 (by decide)
            have h := h.2 j7 hj_ e_
            refine W.eq (g2 := F0 m 54 ls (.int (nI j7) :: .ref (ad 36) :: [])) (by rw [e_]) ?_
            clear e_
            rcases (show j7 = 0 ∨ j7 = 1 ∨ j7 = 2 ∨ j7 = 3 by omega) with rfl | rfl | rfl | rfl
            · refine Caq_36 0 (by decide) (pc := 54) X w dX8_type_54 ?_
              refine Cgf_37_1 (pc := 55) X w kw403 dX8_type_55 ?_
              exact Ciret (pc := 58) X w h dX8_type_58
            · refine Caq_36 1 (by decide) (pc := 54) X w dX8_type_54 ?_
              refine Cgf_41_1 (pc := 55) X w kw403 dX8_type_55 ?_
              exact Ciret (pc := 58) X w h dX8_type_58
            · refine Caq_36 2 (by decide) (pc := 54) X w dX8_type_54 ?_
              refine Cgf_45_1 (pc := 55) X w kw403 dX8_type_55 ?_
              exact Ciret (pc := 58) X w h dX8_type_58
            · refine Caq_36 3 (by decide) (pc := 54) X w dX8_type_54 ?_
              refine Cgf_49_1 (pc := 55) X w kw403 dX8_type_55 ?_
              exact Ciret (pc := 58) X w h dX8_type_58
          · refine Caq_36 3 (by decide) (pc := 44) X w dX8_type_44 ?_
            refine lv_iload_n (pc := 45) hx hb dX8_type_45 rfl (lv_at hl 2 rfl) ?_
            refine Ccallv (rest := []) (CrunV (pc := 46) X w (okX1_append_i3 l hJ h) kw404 kmX1_append ⟨rfl, rfl⟩ ⟨by decide, by decide⟩ (Crv_49 X w) rfl hl.1 rfl (Nat.le_of_ble_eq_true rfl) dX8_type_46) w (fun u6 H locs h w => ?_)
            refine lv_aload_n (pc := 49) hx hb dX8_type_49 rfl (lv_at hl 0 rfl) ?_
            refine Cgf_0_5 (pc := 50) X w kw402 dX8_type_50 ?_
            refine lv_iload_n (pc := 53) hx hb dX8_type_53 rfl (lv_at hl 1 rfl) ?_
            obtain ⟨j7, hj_, e_⟩ := vp_in_of h.1 (by decide)
            have h := h.2 j7 hj_ e_
            refine W.eq (g2 := F0 m 54 ls (.int (nI j7) :: .ref (ad 36) :: [])) (by rw [e_]) ?_
            clear e_
            rcases (show j7 = 0 ∨ j7 = 1 ∨ j7 = 2 ∨ j7 = 3 by omega) with rfl | rfl | rfl | rfl
            · refine Caq_36 0 (by decide) (pc := 54) X w dX8_type_54 ?_
              refine Cgf_37_1 (pc := 55) X w kw403 dX8_type_55 ?_
              exact Ciret (pc := 58) X w h dX8_type_58
            · refine Caq_36 1 (by decide) (pc := 54) X w dX8_type_54 ?_
              refine Cgf_41_1 (pc := 55) X w kw403 dX8_type_55 ?_
              exact Ciret (pc := 58) X w h dX8_type_58
            · refine Caq_36 2 (by decide) (pc := 54) X w dX8_type_54 ?_
              refine Cgf_45_1 (pc := 55) X w kw403 dX8_type_55 ?_
              exact Ciret (pc := 58) X w h dX8_type_58
            · refine Caq_36 3 (by decide) (pc := 54) X w dX8_type_54 ?_
              refine Cgf_49_1 (pc := 55) X w kw403 dX8_type_55 ?_
              exact Ciret (pc := 58) X w h dX8_type_58
        · have h := h.2 c_
          refine lv_bipush (pc := 36) (v := (-4 : Int32)) hx hb dX8_type_36 (by decide) ?_
          exact Ciret (pc := 38) X w h dX8_type_38
      · refine Caq_36 1 (by decide) (pc := 27) X w dX8_type_27 ?_
        refine Cgf_41_1 (pc := 28) X w kw403 dX8_type_28 ?_
        refine lv_bipush (pc := 31) (v := (60 : Int32)) hx hb dX8_type_31 (by decide) ?_
        refine lv_icmp_lt (pc := 33) (tgt := 39) hx hb dX8_type_33 (by decide) (fun c_ => ?_) (fun c_ => ?_)
        · have h := h.1 c_
          refine lv_aload_n (pc := 39) hx hb dX8_type_39 rfl (lv_at hl 0 rfl) ?_
          refine Cgf_0_5 (pc := 40) X w kw402 dX8_type_40 ?_
          refine lv_iload_n (pc := 43) hx hb dX8_type_43 rfl (lv_at hl 1 rfl) ?_
          obtain ⟨j4, hj_, e_⟩ := vp_in_of h.1 (by decide)
          have h := h.2 j4 hj_ e_
          refine W.eq (g2 := F0 m 44 ls (.int (nI j4) :: .ref (ad 36) :: [])) (by rw [e_]) ?_
          clear e_
          rcases (show j4 = 0 ∨ j4 = 1 ∨ j4 = 2 ∨ j4 = 3 by omega) with rfl | rfl | rfl | rfl
          · refine Caq_36 0 (by decide) (pc := 44) X w dX8_type_44 ?_
            refine lv_iload_n (pc := 45) hx hb dX8_type_45 rfl (lv_at hl 2 rfl) ?_
            refine Ccallv (rest := []) (CrunV (pc := 46) X w (okX1_append_i0 l hJ h) kw404 kmX1_append ⟨rfl, rfl⟩ ⟨by decide, by decide⟩ (Crv_37 X w) rfl hl.1 rfl (Nat.le_of_ble_eq_true rfl) dX8_type_46) w (fun u6 H locs h w => ?_)
            refine lv_aload_n (pc := 49) hx hb dX8_type_49 rfl (lv_at hl 0 rfl) ?_
            refine Cgf_0_5 (pc := 50) X w kw402 dX8_type_50 ?_
            refine lv_iload_n (pc := 53) hx hb dX8_type_53 rfl (lv_at hl 1 rfl) ?_
            obtain ⟨j7, hj_, e_⟩ := vp_in_of h.1 (by decide)
            have h := h.2 j7 hj_ e_
            refine W.eq (g2 := F0 m 54 ls (.int (nI j7) :: .ref (ad 36) :: [])) (by rw [e_]) ?_
            clear e_
            rcases (show j7 = 0 ∨ j7 = 1 ∨ j7 = 2 ∨ j7 = 3 by omega) with rfl | rfl | rfl | rfl
            · refine Caq_36 0 (by decide) (pc := 54) X w dX8_type_54 ?_
              refine Cgf_37_1 (pc := 55) X w kw403 dX8_type_55 ?_
              exact Ciret (pc := 58) X w h dX8_type_58
            · refine Caq_36 1 (by decide) (pc := 54) X w dX8_type_54 ?_
              refine Cgf_41_1 (pc := 55) X w kw403 dX8_type_55 ?_
              exact Ciret (pc := 58) X w h dX8_type_58
            · refine Caq_36 2 (by decide) (pc := 54) X w dX8_type_54 ?_
              refine Cgf_45_1 (pc := 55) X w kw403 dX8_type_55 ?_
              exact Ciret (pc := 58) X w h dX8_type_58
            · refine Caq_36 3 (by decide) (pc := 54) X w dX8_type_54 ?_
              refine Cgf_49_1 (pc := 55) X w kw403 dX8_type_55 ?_
              exact Ciret (pc := 58) X w h dX8_type_58
          · refine Caq_36 1 (by decide) (pc := 44) X w dX8_type_44 ?_
            refine lv_iload_n (pc := 45) hx hb dX8_type_45 rfl (lv_at hl 2 rfl) ?_
            refine Ccallv (rest := []) (CrunV (pc := 46) X w (okX1_append_i1 l hJ h) kw404 kmX1_append ⟨rfl, rfl⟩ ⟨by decide, by decide⟩ (Crv_41 X w) rfl hl.1 rfl (Nat.le_of_ble_eq_true rfl) dX8_type_46) w (fun u6 H locs h w => ?_)
            refine lv_aload_n (pc := 49) hx hb dX8_type_49 rfl (lv_at hl 0 rfl) ?_
            refine Cgf_0_5 (pc := 50) X w kw402 dX8_type_50 ?_
            refine lv_iload_n (pc := 53) hx hb dX8_type_53 rfl (lv_at hl 1 rfl) ?_
            obtain ⟨j7, hj_, e_⟩ := vp_in_of h.1 (by decide)
            have h := h.2 j7 hj_ e_
            refine W.eq (g2 := F0 m 54 ls (.int (nI j7) :: .ref (ad 36) :: [])) (by rw [e_]) ?_
            clear e_
            rcases (show j7 = 0 ∨ j7 = 1 ∨ j7 = 2 ∨ j7 = 3 by omega) with rfl | rfl | rfl | rfl
            · refine Caq_36 0 (by decide) (pc := 54) X w dX8_type_54 ?_
              refine Cgf_37_1 (pc := 55) X w kw403 dX8_type_55 ?_
              exact Ciret (pc := 58) X w h dX8_type_58
            · refine Caq_36 1 (by decide) (pc := 54) X w dX8_type_54 ?_
              refine Cgf_41_1 (pc := 55) X w kw403 dX8_type_55 ?_
              exact Ciret (pc := 58) X w h dX8_type_58
            · refine Caq_36 2 (by decide) (pc := 54) X w dX8_type_54 ?_
              refine Cgf_45_1 (pc := 55) X w kw403 dX8_type_55 ?_
              exact Ciret (pc := 58) X w h dX8_type_58
            · refine Caq_36 3 (by decide) (pc := 54) X w dX8_type_54 ?_
              refine Cgf_49_1 (pc := 55) X w kw403 dX8_type_55 ?_
              exact Ciret (pc := 58) X w h dX8_type_58
          · refine Caq_36 2 (by decide) (pc := 44) X w dX8_type_44 ?_
            refine lv_iload_n (pc := 45) hx hb dX8_type_45 rfl (lv_at hl 2 rfl) ?_
            refine Ccallv (rest := []) (CrunV (pc := 46) X w (okX1_append_i2 l hJ h) kw404 kmX1_append ⟨rfl, rfl⟩ ⟨by decide, by decide⟩ (Crv_45 X w) rfl hl.1 rfl (Nat.le_of_ble_eq_true rfl) dX8_type_46) w (fun u6 H locs h w => ?_)
            refine lv_aload_n (pc := 49) hx hb dX8_type_49 rfl (lv_at hl 0 rfl) ?_
            refine Cgf_0_5 (pc := 50) X w kw402 dX8_type_50 ?_
            refine lv_iload_n (pc := 53) hx hb dX8_type_53 rfl (lv_at hl 1 rfl) ?_
            obtain ⟨j7, hj_, e_⟩ := vp_in_of h.1 (by decide)
            have h := h.2 j7 hj_ e_
            refine W.eq (g2 := F0 m 54 ls (.int (nI j7) :: .ref (ad 36) :: [])) (by rw [e_]) ?_
            clear e_
            rcases (show j7 = 0 ∨ j7 = 1 ∨ j7 = 2 ∨ j7 = 3 by omega) with rfl | rfl | rfl | rfl
            · refine Caq_36 0 (by decide) (pc := 54) X w dX8_type_54 ?_
              refine Cgf_37_1 (pc := 55) X w kw403 dX8_type_55 ?_
              exact Ciret (pc := 58) X w h dX8_type_58
            · refine Caq_36 1 (by decide) (pc := 54) X w dX8_type_54 ?_
              refine Cgf_41_1 (pc := 55) X w kw403 dX8_type_55 ?_
              exact Ciret (pc := 58) X w h dX8_type_58
            · refine Caq_36 2 (by decide) (pc := 54) X w dX8_type_54 ?_
              refine Cgf_45_1 (pc := 55) X w kw403 dX8_type_55 ?_
              exact Ciret (pc := 58) X w h dX8_type_58
            · refine Caq_36 3 (by decide) (pc := 54) X w dX8_type_54 ?_
              refine Cgf_49_1 (pc := 55) X w kw403 dX8_type_55 ?_
              exact Ciret (pc := 58) X w h dX8_type_58
          · refine Caq_36 3 (by decide) (pc := 44) X w dX8_type_44 ?_
            refine lv_iload_n (pc := 45) hx hb dX8_type_45 rfl (lv_at hl 2 rfl) ?_
            refine Ccallv (rest := []) (CrunV (pc := 46) X w (okX1_append_i3 l hJ h) kw404 kmX1_append ⟨rfl, rfl⟩ ⟨by decide, by decide⟩ (Crv_49 X w) rfl hl.1 rfl (Nat.le_of_ble_eq_true rfl) dX8_type_46) w (fun u6 H locs h w => ?_)
            refine lv_aload_n (pc := 49) hx hb dX8_type_49 rfl (lv_at hl 0 rfl) ?_
            refine Cgf_0_5 (pc := 50) X w kw402 dX8_type_50 ?_
            refine lv_iload_n (pc := 53) hx hb dX8_type_53 rfl (lv_at hl 1 rfl) ?_
            obtain ⟨j7, hj_, e_⟩ := vp_in_of h.1 (by decide)
            have h := h.2 j7 hj_ e_
            refine W.eq (g2 := F0 m 54 ls (.int (nI j7) :: .ref (ad 36) :: [])) (by rw [e_]) ?_
            clear e_
            rcases (show j7 = 0 ∨ j7 = 1 ∨ j7 = 2 ∨ j7 = 3 by omega) with rfl | rfl | rfl | rfl
            · refine Caq_36 0 (by decide) (pc := 54) X w dX8_type_54 ?_
              refine Cgf_37_1 (pc := 55) X w kw403 dX8_type_55 ?_
              exact Ciret (pc := 58) X w h dX8_type_58
            · refine Caq_36 1 (by decide) (pc := 54) X w dX8_type_54 ?_
              refine Cgf_41_1 (pc := 55) X w kw403 dX8_type_55 ?_
              exact Ciret (pc := 58) X w h dX8_type_58
            · refine Caq_36 2 (by decide) (pc := 54) X w dX8_type_54 ?_
              refine Cgf_45_1 (pc := 55) X w kw403 dX8_type_55 ?_
              exact Ciret (pc := 58) X w h dX8_type_58
            · refine Caq_36 3 (by decide) (pc := 54) X w dX8_type_54 ?_
              refine Cgf_49_1 (pc := 55) X w kw403 dX8_type_55 ?_
              exact Ciret (pc := 58) X w h dX8_type_58
        · have h := h.2 c_
          refine lv_bipush (pc := 36) (v := (-4 : Int32)) hx hb dX8_type_36 (by decide) ?_
          exact Ciret (pc := 38) X w h dX8_type_38
      · refine Caq_36 2 (by decide) (pc := 27) X w dX8_type_27 ?_
        refine Cgf_45_1 (pc := 28) X w kw403 dX8_type_28 ?_
        refine lv_bipush (pc := 31) (v := (60 : Int32)) hx hb dX8_type_31 (by decide) ?_
        refine lv_icmp_lt (pc := 33) (tgt := 39) hx hb dX8_type_33 (by decide) (fun c_ => ?_) (fun c_ => ?_)
        · have h := h.1 c_
          refine lv_aload_n (pc := 39) hx hb dX8_type_39 rfl (lv_at hl 0 rfl) ?_
          refine Cgf_0_5 (pc := 40) X w kw402 dX8_type_40 ?_
          refine lv_iload_n (pc := 43) hx hb dX8_type_43 rfl (lv_at hl 1 rfl) ?_
          obtain ⟨j4, hj_, e_⟩ := vp_in_of h.1 (by decide)
          have h := h.2 j4 hj_ e_
          refine W.eq (g2 := F0 m 44 ls (.int (nI j4) :: .ref (ad 36) :: [])) (by rw [e_]) ?_
          clear e_
          rcases (show j4 = 0 ∨ j4 = 1 ∨ j4 = 2 ∨ j4 = 3 by omega) with rfl | rfl | rfl | rfl
          · refine Caq_36 0 (by decide) (pc := 44) X w dX8_type_44 ?_
            refine lv_iload_n (pc := 45) hx hb dX8_type_45 rfl (lv_at hl 2 rfl) ?_
            refine Ccallv (rest := []) (CrunV (pc := 46) X w (okX1_append_i0 l hJ h) kw404 kmX1_append ⟨rfl, rfl⟩ ⟨by decide, by decide⟩ (Crv_37 X w) rfl hl.1 rfl (Nat.le_of_ble_eq_true rfl) dX8_type_46) w (fun u6 H locs h w => ?_)
            refine lv_aload_n (pc := 49) hx hb dX8_type_49 rfl (lv_at hl 0 rfl) ?_
            refine Cgf_0_5 (pc := 50) X w kw402 dX8_type_50 ?_
            refine lv_iload_n (pc := 53) hx hb dX8_type_53 rfl (lv_at hl 1 rfl) ?_
            obtain ⟨j7, hj_, e_⟩ := vp_in_of h.1 (by decide)
            have h := h.2 j7 hj_ e_
            refine W.eq (g2 := F0 m 54 ls (.int (nI j7) :: .ref (ad 36) :: [])) (by rw [e_]) ?_
            clear e_
            rcases (show j7 = 0 ∨ j7 = 1 ∨ j7 = 2 ∨ j7 = 3 by omega) with rfl | rfl | rfl | rfl
            · refine Caq_36 0 (by decide) (pc := 54) X w dX8_type_54 ?_
              refine Cgf_37_1 (pc := 55) X w kw403 dX8_type_55 ?_
              exact Ciret (pc := 58) X w h dX8_type_58
            · refine Caq_36 1 (by decide) (pc := 54) X w dX8_type_54 ?_
              refine Cgf_41_1 (pc := 55) X w kw403 dX8_type_55 ?_
              exact Ciret (pc := 58) X w h dX8_type_58
            · refine Caq_36 2 (by decide) (pc := 54) X w dX8_type_54 ?_
              refine Cgf_45_1 (pc := 55) X w kw403 dX8_type_55 ?_
              exact Ciret (pc := 58) X w h dX8_type_58
            · refine Caq_36 3 (by decide) (pc := 54) X w dX8_type_54 ?_
              refine Cgf_49_1 (pc := 55) X w kw403 dX8_type_55 ?_
              exact Ciret (pc := 58) X w h dX8_type_58
          · refine Caq_36 1 (by decide) (pc := 44) X w dX8_type_44 ?_
            refine lv_iload_n (pc := 45) hx hb dX8_type_45 rfl (lv_at hl 2 rfl) ?_
            refine Ccallv (rest := []) (CrunV (pc := 46) X w (okX1_append_i1 l hJ h) kw404 kmX1_append ⟨rfl, rfl⟩ ⟨by decide, by decide⟩ (Crv_41 X w) rfl hl.1 rfl (Nat.le_of_ble_eq_true rfl) dX8_type_46) w (fun u6 H locs h w => ?_)
            refine lv_aload_n (pc := 49) hx hb dX8_type_49 rfl (lv_at hl 0 rfl) ?_
            refine Cgf_0_5 (pc := 50) X w kw402 dX8_type_50 ?_
            refine lv_iload_n (pc := 53) hx hb dX8_type_53 rfl (lv_at hl 1 rfl) ?_
            obtain ⟨j7, hj_, e_⟩ := vp_in_of h.1 (by decide)
            have h := h.2 j7 hj_ e_
            refine W.eq (g2 := F0 m 54 ls (.int (nI j7) :: .ref (ad 36) :: [])) (by rw [e_]) ?_
            clear e_
            rcases (show j7 = 0 ∨ j7 = 1 ∨ j7 = 2 ∨ j7 = 3 by omega) with rfl | rfl | rfl | rfl
            · refine Caq_36 0 (by decide) (pc := 54) X w dX8_type_54 ?_
              refine Cgf_37_1 (pc := 55) X w kw403 dX8_type_55 ?_
              exact Ciret (pc := 58) X w h dX8_type_58
            · refine Caq_36 1 (by decide) (pc := 54) X w dX8_type_54 ?_
              refine Cgf_41_1 (pc := 55) X w kw403 dX8_type_55 ?_
              exact Ciret (pc := 58) X w h dX8_type_58
            · refine Caq_36 2 (by decide) (pc := 54) X w dX8_type_54 ?_
              refine Cgf_45_1 (pc := 55) X w kw403 dX8_type_55 ?_
              exact Ciret (pc := 58) X w h dX8_type_58
            · refine Caq_36 3 (by decide) (pc := 54) X w dX8_type_54 ?_
              refine Cgf_49_1 (pc := 55) X w kw403 dX8_type_55 ?_
              exact Ciret (pc := 58) X w h dX8_type_58
          · refine Caq_36 2 (by decide) (pc := 44) X w dX8_type_44 ?_
            refine lv_iload_n (pc := 45) hx hb dX8_type_45 rfl (lv_at hl 2 rfl) ?_
            refine Ccallv (rest := []) (CrunV (pc := 46) X w (okX1_append_i2 l hJ h) kw404 kmX1_append ⟨rfl, rfl⟩ ⟨by decide, by decide⟩ (Crv_45 X w) rfl hl.1 rfl (Nat.le_of_ble_eq_true rfl) dX8_type_46) w (fun u6 H locs h w => ?_)
            refine lv_aload_n (pc := 49) hx hb dX8_type_49 rfl (lv_at hl 0 rfl) ?_
            refine Cgf_0_5 (pc := 50) X w kw402 dX8_type_50 ?_
            refine lv_iload_n (pc := 53) hx hb dX8_type_53 rfl (lv_at hl 1 rfl) ?_
            obtain ⟨j7, hj_, e_⟩ := vp_in_of h.1 (by decide)
            have h := h.2 j7 hj_ e_
            refine W.eq (g2 := F0 m 54 ls (.int (nI j7) :: .ref (ad 36) :: [])) (by rw [e_]) ?_
            clear e_
            rcases (show j7 = 0 ∨ j7 = 1 ∨ j7 = 2 ∨ j7 = 3 by omega) with rfl | rfl | rfl | rfl
            · refine Caq_36 0 (by decide) (pc := 54) X w dX8_type_54 ?_
              refine Cgf_37_1 (pc := 55) X w kw403 dX8_type_55 ?_
              exact Ciret (pc := 58) X w h dX8_type_58
            · refine Caq_36 1 (by decide) (pc := 54) X w dX8_type_54 ?_
              refine Cgf_41_1 (pc := 55) X w kw403 dX8_type_55 ?_
              exact Ciret (pc := 58) X w h dX8_type_58
            · refine Caq_36 2 (by decide) (pc := 54) X w dX8_type_54 ?_
              refine Cgf_45_1 (pc := 55) X w kw403 dX8_type_55 ?_
              exact Ciret (pc := 58) X w h dX8_type_58
            · refine Caq_36 3 (by decide) (pc := 54) X w dX8_type_54 ?_
              refine Cgf_49_1 (pc := 55) X w kw403 dX8_type_55 ?_
              exact Ciret (pc := 58) X w h dX8_type_58
          · refine Caq_36 3 (by decide) (pc := 44) X w dX8_type_44 ?_
            refine lv_iload_n (pc := 45) hx hb dX8_type_45 rfl (lv_at hl 2 rfl) ?_
            refine Ccallv (rest := []) (CrunV (pc := 46) X w (okX1_append_i3 l hJ h) kw404 kmX1_append ⟨rfl, rfl⟩ ⟨by decide, by decide⟩ (Crv_49 X w) rfl hl.1 rfl (Nat.le_of_ble_eq_true rfl) dX8_type_46) w (fun u6 H locs h w => ?_)
            refine lv_aload_n (pc := 49) hx hb dX8_type_49 rfl (lv_at hl 0 rfl) ?_
            refine Cgf_0_5 (pc := 50) X w kw402 dX8_type_50 ?_
            refine lv_iload_n (pc := 53) hx hb dX8_type_53 rfl (lv_at hl 1 rfl) ?_
            obtain ⟨j7, hj_, e_⟩ := vp_in_of h.1 (by decide)
            have h := h.2 j7 hj_ e_
            refine W.eq (g2 := F0 m 54 ls (.int (nI j7) :: .ref (ad 36) :: [])) (by rw [e_]) ?_
            clear e_
            rcases (show j7 = 0 ∨ j7 = 1 ∨ j7 = 2 ∨ j7 = 3 by omega) with rfl | rfl | rfl | rfl
            · refine Caq_36 0 (by decide) (pc := 54) X w dX8_type_54 ?_
              refine Cgf_37_1 (pc := 55) X w kw403 dX8_type_55 ?_
              exact Ciret (pc := 58) X w h dX8_type_58
            · refine Caq_36 1 (by decide) (pc := 54) X w dX8_type_54 ?_
              refine Cgf_41_1 (pc := 55) X w kw403 dX8_type_55 ?_
              exact Ciret (pc := 58) X w h dX8_type_58
            · refine Caq_36 2 (by decide) (pc := 54) X w dX8_type_54 ?_
              refine Cgf_45_1 (pc := 55) X w kw403 dX8_type_55 ?_
              exact Ciret (pc := 58) X w h dX8_type_58
            · refine Caq_36 3 (by decide) (pc := 54) X w dX8_type_54 ?_
              refine Cgf_49_1 (pc := 55) X w kw403 dX8_type_55 ?_
              exact Ciret (pc := 58) X w h dX8_type_58
        · have h := h.2 c_
          refine lv_bipush (pc := 36) (v := (-4 : Int32)) hx hb dX8_type_36 (by decide) ?_
          exact Ciret (pc := 38) X w h dX8_type_38
      · refine Caq_36 3 (by decide) (pc := 27) X w dX8_type_27 ?_
        refine Cgf_49_1 (pc := 28) X w kw403 dX8_type_28 ?_
        refine lv_bipush (pc := 31) (v := (60 : Int32)) hx hb dX8_type_31 (by decide) ?_
        refine lv_icmp_lt (pc := 33) (tgt := 39) hx hb dX8_type_33 (by decide) (fun c_ => ?_) (fun c_ => ?_)
        · have h := h.1 c_
          refine lv_aload_n (pc := 39) hx hb dX8_type_39 rfl (lv_at hl 0 rfl) ?_
          refine Cgf_0_5 (pc := 40) X w kw402 dX8_type_40 ?_
          refine lv_iload_n (pc := 43) hx hb dX8_type_43 rfl (lv_at hl 1 rfl) ?_
          obtain ⟨j4, hj_, e_⟩ := vp_in_of h.1 (by decide)
          have h := h.2 j4 hj_ e_
          refine W.eq (g2 := F0 m 44 ls (.int (nI j4) :: .ref (ad 36) :: [])) (by rw [e_]) ?_
          clear e_
          rcases (show j4 = 0 ∨ j4 = 1 ∨ j4 = 2 ∨ j4 = 3 by omega) with rfl | rfl | rfl | rfl
          · refine Caq_36 0 (by decide) (pc := 44) X w dX8_type_44 ?_
            refine lv_iload_n (pc := 45) hx hb dX8_type_45 rfl (lv_at hl 2 rfl) ?_
            refine Ccallv (rest := []) (CrunV (pc := 46) X w (okX1_append_i0 l hJ h) kw404 kmX1_append ⟨rfl, rfl⟩ ⟨by decide, by decide⟩ (Crv_37 X w) rfl hl.1 rfl (Nat.le_of_ble_eq_true rfl) dX8_type_46) w (fun u6 H locs h w => ?_)
            refine lv_aload_n (pc := 49) hx hb dX8_type_49 rfl (lv_at hl 0 rfl) ?_
            refine Cgf_0_5 (pc := 50) X w kw402 dX8_type_50 ?_
            refine lv_iload_n (pc := 53) hx hb dX8_type_53 rfl (lv_at hl 1 rfl) ?_
            obtain ⟨j7, hj_, e_⟩ := vp_in_of h.1 (by decide)
            have h := h.2 j7 hj_ e_
            refine W.eq (g2 := F0 m 54 ls (.int (nI j7) :: .ref (ad 36) :: [])) (by rw [e_]) ?_
            clear e_
            rcases (show j7 = 0 ∨ j7 = 1 ∨ j7 = 2 ∨ j7 = 3 by omega) with rfl | rfl | rfl | rfl
            · refine Caq_36 0 (by decide) (pc := 54) X w dX8_type_54 ?_
              refine Cgf_37_1 (pc := 55) X w kw403 dX8_type_55 ?_
              exact Ciret (pc := 58) X w h dX8_type_58
            · refine Caq_36 1 (by decide) (pc := 54) X w dX8_type_54 ?_
              refine Cgf_41_1 (pc := 55) X w kw403 dX8_type_55 ?_
              exact Ciret (pc := 58) X w h dX8_type_58
            · refine Caq_36 2 (by decide) (pc := 54) X w dX8_type_54 ?_
              refine Cgf_45_1 (pc := 55) X w kw403 dX8_type_55 ?_
              exact Ciret (pc := 58) X w h dX8_type_58
            · refine Caq_36 3 (by decide) (pc := 54) X w dX8_type_54 ?_
              refine Cgf_49_1 (pc := 55) X w kw403 dX8_type_55 ?_
              exact Ciret (pc := 58) X w h dX8_type_58
          · refine Caq_36 1 (by decide) (pc := 44) X w dX8_type_44 ?_
            refine lv_iload_n (pc := 45) hx hb dX8_type_45 rfl (lv_at hl 2 rfl) ?_
            refine Ccallv (rest := []) (CrunV (pc := 46) X w (okX1_append_i1 l hJ h) kw404 kmX1_append ⟨rfl, rfl⟩ ⟨by decide, by decide⟩ (Crv_41 X w) rfl hl.1 rfl (Nat.le_of_ble_eq_true rfl) dX8_type_46) w (fun u6 H locs h w => ?_)
            refine lv_aload_n (pc := 49) hx hb dX8_type_49 rfl (lv_at hl 0 rfl) ?_
            refine Cgf_0_5 (pc := 50) X w kw402 dX8_type_50 ?_
            refine lv_iload_n (pc := 53) hx hb dX8_type_53 rfl (lv_at hl 1 rfl) ?_
            obtain ⟨j7, hj_, e_⟩ := vp_in_of h.1 (by decide)
            have h := h.2 j7 hj_ e_
            refine W.eq (g2 := F0 m 54 ls (.int (nI j7) :: .ref (ad 36) :: [])) (by rw [e_]) ?_
            clear e_
            rcases (show j7 = 0 ∨ j7 = 1 ∨ j7 = 2 ∨ j7 = 3 by omega) with rfl | rfl | rfl | rfl
            · refine Caq_36 0 (by decide) (pc := 54) X w dX8_type_54 ?_
              refine Cgf_37_1 (pc := 55) X w kw403 dX8_type_55 ?_
              exact Ciret (pc := 58) X w h dX8_type_58
            · refine Caq_36 1 (by decide) (pc := 54) X w dX8_type_54 ?_
              refine Cgf_41_1 (pc := 55) X w kw403 dX8_type_55 ?_
              exact Ciret (pc := 58) X w h dX8_type_58
            · refine Caq_36 2 (by decide) (pc := 54) X w dX8_type_54 ?_
              refine Cgf_45_1 (pc := 55) X w kw403 dX8_type_55 ?_
              exact Ciret (pc := 58) X w h dX8_type_58
            · refine Caq_36 3 (by decide) (pc := 54) X w dX8_type_54 ?_
              refine Cgf_49_1 (pc := 55) X w kw403 dX8_type_55 ?_
              exact Ciret (pc := 58) X w h dX8_type_58
          · refine Caq_36 2 (by decide) (pc := 44) X w dX8_type_44 ?_
            refine lv_iload_n (pc := 45) hx hb dX8_type_45 rfl (lv_at hl 2 rfl) ?_
            refine Ccallv (rest := []) (CrunV (pc := 46) X w (okX1_append_i2 l hJ h) kw404 kmX1_append ⟨rfl, rfl⟩ ⟨by decide, by decide⟩ (Crv_45 X w) rfl hl.1 rfl (Nat.le_of_ble_eq_true rfl) dX8_type_46) w (fun u6 H locs h w => ?_)
            refine lv_aload_n (pc := 49) hx hb dX8_type_49 rfl (lv_at hl 0 rfl) ?_
            refine Cgf_0_5 (pc := 50) X w kw402 dX8_type_50 ?_
            refine lv_iload_n (pc := 53) hx hb dX8_type_53 rfl (lv_at hl 1 rfl) ?_
            obtain ⟨j7, hj_, e_⟩ := vp_in_of h.1 (by decide)
            have h := h.2 j7 hj_ e_
            refine W.eq (g2 := F0 m 54 ls (.int (nI j7) :: .ref (ad 36) :: [])) (by rw [e_]) ?_
            clear e_
            rcases (show j7 = 0 ∨ j7 = 1 ∨ j7 = 2 ∨ j7 = 3 by omega) with rfl | rfl | rfl | rfl
            · refine Caq_36 0 (by decide) (pc := 54) X w dX8_type_54 ?_
              refine Cgf_37_1 (pc := 55) X w kw403 dX8_type_55 ?_
              exact Ciret (pc := 58) X w h dX8_type_58
            · refine Caq_36 1 (by decide) (pc := 54) X w dX8_type_54 ?_
              refine Cgf_41_1 (pc := 55) X w kw403 dX8_type_55 ?_
              exact Ciret (pc := 58) X w h dX8_type_58
            · refine Caq_36 2 (by decide) (pc := 54) X w dX8_type_54 ?_
              refine Cgf_45_1 (pc := 55) X w kw403 dX8_type_55 ?_
              exact Ciret (pc := 58) X w h dX8_type_58
            · refine Caq_36 3 (by decide) (pc := 54) X w dX8_type_54 ?_
              refine Cgf_49_1 (pc := 55) X w kw403 dX8_type_55 ?_
              exact Ciret (pc := 58) X w h dX8_type_58
          · refine Caq_36 3 (by decide) (pc := 44) X w dX8_type_44 ?_
            refine lv_iload_n (pc := 45) hx hb dX8_type_45 rfl (lv_at hl 2 rfl) ?_
            refine Ccallv (rest := []) (CrunV (pc := 46) X w (okX1_append_i3 l hJ h) kw404 kmX1_append ⟨rfl, rfl⟩ ⟨by decide, by decide⟩ (Crv_49 X w) rfl hl.1 rfl (Nat.le_of_ble_eq_true rfl) dX8_type_46) w (fun u6 H locs h w => ?_)
            refine lv_aload_n (pc := 49) hx hb dX8_type_49 rfl (lv_at hl 0 rfl) ?_
            refine Cgf_0_5 (pc := 50) X w kw402 dX8_type_50 ?_
            refine lv_iload_n (pc := 53) hx hb dX8_type_53 rfl (lv_at hl 1 rfl) ?_
            obtain ⟨j7, hj_, e_⟩ := vp_in_of h.1 (by decide)
            have h := h.2 j7 hj_ e_
            refine W.eq (g2 := F0 m 54 ls (.int (nI j7) :: .ref (ad 36) :: [])) (by rw [e_]) ?_
            clear e_
            rcases (show j7 = 0 ∨ j7 = 1 ∨ j7 = 2 ∨ j7 = 3 by omega) with rfl | rfl | rfl | rfl
            · refine Caq_36 0 (by decide) (pc := 54) X w dX8_type_54 ?_
              refine Cgf_37_1 (pc := 55) X w kw403 dX8_type_55 ?_
              exact Ciret (pc := 58) X w h dX8_type_58
            · refine Caq_36 1 (by decide) (pc := 54) X w dX8_type_54 ?_
              refine Cgf_41_1 (pc := 55) X w kw403 dX8_type_55 ?_
              exact Ciret (pc := 58) X w h dX8_type_58
            · refine Caq_36 2 (by decide) (pc := 54) X w dX8_type_54 ?_
              refine Cgf_45_1 (pc := 55) X w kw403 dX8_type_55 ?_
              exact Ciret (pc := 58) X w h dX8_type_58
            · refine Caq_36 3 (by decide) (pc := 54) X w dX8_type_54 ?_
              refine Cgf_49_1 (pc := 55) X w kw403 dX8_type_55 ?_
              exact Ciret (pc := 58) X w h dX8_type_58
        · have h := h.2 c_
          refine lv_bipush (pc := 36) (v := (-4 : Int32)) hx hb dX8_type_36 (by decide) ?_
          exact Ciret (pc := 38) X w h dX8_type_38
    · have h := h.1 c_
      refine lv_bipush (pc := 19) (v := (-2 : Int32)) hx hb dX8_type_19 (by decide) ?_
      exact Ciret (pc := 21) X w h dX8_type_21
