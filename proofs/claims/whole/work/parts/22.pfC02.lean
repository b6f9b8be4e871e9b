set_option maxHeartbeats 4000000 in
set_option maxRecDepth 100000 in
theorem okX6_blockOf (l : Launch) {D : va_G} {g : Nat → ClassId} {ad : Nat → Nat} (hJ : CJ ad) {u : Mm} {a0 : Int32} {a1 : Int32} {a2 : Int32} {Q : Int32 → Prop} (h : wX6_blockOf a0 a1 a2 Q) : Met l yX6_blockOf (Cond.code yX6_blockOf cX6_blockOf 3 (some .int) :: gt) ({ frames := 0, cells := 0, slots := 0, locals := 0 } : Room) (CPc D g ad u [.int a0, .int a1, .int a2]) (va_Qi (fun r u1 => u = u1 ∧ Q r) (CB D g ad) (CA ad)) 0 0 (CA ad) := by
  refine Met.ofW (cc := cX6_blockOf) (maxL := 3) (ret := (some .int)) (by decide) rfl ?_
  intro p e s m args below meth c s₁ B hml hv
  refine Centry (own := RX6) B hml hv hJ rfl (Nat.le_of_ble_eq_true rfl) (fun ls H locs X w hl => ?_)
  obtain ⟨⟨hx, hb, hml, hown, hts⟩, hr, hlocks, hK, hJ, hAA⟩ := id X
  have hl : lv_has ls 3 [(0, .int a0), (1, .int a1), (2, .int a2)] := hl
  unfold wX6_blockOf at h
  refine lv_iload_n (pc := 0) hx hb dX6_blockOf_0 rfl (lv_at hl 0 rfl) ?_
  refine lv_iconst (pc := 1) (v := (4 : Int32)) hx hb dX6_blockOf_1 (by decide) ?_
  refine lv_imul (pc := 2) hx hb dX6_blockOf_2 ?_
  refine lv_iload_n (pc := 3) hx hb dX6_blockOf_3 rfl (lv_at hl 1 rfl) ?_
  refine lv_iadd (pc := 4) hx hb dX6_blockOf_4 ?_
  refine lv_iconst (pc := 5) (v := (3 : Int32)) hx hb dX6_blockOf_5 (by decide) ?_
  refine lv_imul (pc := 6) hx hb dX6_blockOf_6 ?_
  refine lv_iload_n (pc := 7) hx hb dX6_blockOf_7 rfl (lv_at hl 2 rfl) ?_
  refine lv_iadd (pc := 8) hx hb dX6_blockOf_8 ?_
  exact Ciret (pc := 9) X w ⟨rfl, h⟩ dX6_blockOf_9
set_option maxHeartbeats 4000000 in
set_option maxRecDepth 100000 in
theorem okX6_forget (l : Launch) {D : va_G} {g : Nat → ClassId} {ad : Nat → Nat} (hJ : CJ ad) {u : Mm} {a1 : Int32} {a2 : Int32} {a3 : Int32} {Q : Mm → Prop} (h : wX6_forget u a1 a2 a3 Q) : Met l yX6_forget (Cond.code yX6_forget cX6_forget 4 none :: gt) ({ frames := 1, cells := 0, slots := 0, locals := 22 } : Room) (CPc D g ad u [.ref (ad 10), .int a1, .int a2, .int a3]) (va_Qv Q (CB D g ad) (CA ad)) 0 0 (CA ad) := by
  refine Met.ofW (cc := cX6_forget) (maxL := 4) (ret := none) (by decide) rfl ?_
  intro p e s m args below meth c s₁ B hml hv
  refine Centry (own := RX6) B hml hv hJ rfl (Nat.le_of_ble_eq_true rfl) (fun ls H locs X w hl => ?_)
  obtain ⟨⟨hx, hb, hml, hown, hts⟩, hr, hlocks, hK, hJ, hAA⟩ := id X
  have hl : lv_has ls 4 [(0, .ref (ad 10)), (1, .int a1), (2, .int a2), (3, .int a3)] := hl
  unfold wX6_forget at h
  refine lv_aload_n (pc := 0) hx hb dX6_forget_0 rfl (lv_at hl 0 rfl) ?_
  refine Cgf_10_4 (pc := 1) X w kw121 dX6_forget_1 ?_
  refine lv_iload_n (pc := 4) hx hb dX6_forget_4 rfl (lv_at hl 1 rfl) ?_
  refine lv_iload_n (pc := 5) hx hb dX6_forget_5 rfl (lv_at hl 2 rfl) ?_
  refine lv_iload_n (pc := 6) hx hb dX6_forget_6 rfl (lv_at hl 3 rfl) ?_
  refine Ccalli (rest := [.ref (ad 17)]) (CrunS (pc := 7) X w (okX6_blockOf l hJ h) kw122 kmX6_blockOf ⟨rfl, rfl⟩ ⟨by decide, by decide⟩ rfl hl.1 rfl (Nat.le_of_ble_eq_true rfl) dX6_forget_7) w (fun r1 u9_ H locs h w => ?_)
  obtain ⟨rfl, h⟩ := h
  refine lv_iconst (pc := 10) (v := (0 : Int32)) hx hb dX6_forget_10 (by decide) ?_
  refine Cst_17 (pc := 11) X w h.1 dX6_forget_11 (fun H locs w => ?_)
  have h := h.2
  obtain ⟨u2, e_⟩ : ∃ y : Mm, y = s32 u 17 r1.toNatClampNeg (vp_nar .boolean (0 : Int32)) := ⟨_, rfl⟩
  rw [← e_] at w
  have h := h u2 e_
  exact Cvret (pc := 12) X w h dX6_forget_12
set_option maxHeartbeats 4000000 in
set_option maxRecDepth 100000 in
theorem bX6_forgetAll_2 {l : Launch} {p : Program} {e : Env} {s : State} {m : MethodId} {args : Array Value} {below : List Frame} {meth : Method} {c : Code} {D : va_G} {g : Nat → ClassId} {ad : Nat → Nat} {Q : Mm → Prop} (X : CX p s m args meth c cX6_forgetAll RX6 2 none (Cond.code yX6_forgetAll cX6_forgetAll 2 none) D g ad (CA ad)) : ∀ (n : Nat) (u : Mm) (x1 : Int32) (H : Heap) (locs : List Loc) (ls : Array Slot), wX6_forgetAll_b2 Q n u x1 → CWd D g ad (CA ad) s u H locs → lv_has ls 2 [(0, .ref (ad 10)), (1, .int x1)] → W p l e ({ frames := 0, cells := 0, slots := 0, locals := 0 } : Room) s m args below meth c H locs 0 0 (MQ below (va_Qv Q (CB D g ad) (CA ad)) args s 0 0 (CA ad)) (F0 m 2 ls []) := by
  obtain ⟨⟨hx, hb, hml, hown, hts⟩, hr, hlocks, hK, hJ, hAA⟩ := id X
  intro n
  induction n with
  | zero =>
    intro u x1 H locs ls h
    exact False.elim h
  | succ n ih =>
    intro u x1 H locs ls h w hl
    unfold wX6_forgetAll_b2 at h
    refine lv_iload_n (pc := 2) hx hb dX6_forgetAll_2 rfl (lv_at hl 1 rfl) ?_
    refine lv_aload_n (pc := 3) hx hb dX6_forgetAll_3 rfl (lv_at hl 0 rfl) ?_
    refine Cgf_10_4 (pc := 4) X w kw121 dX6_forgetAll_4 ?_
    refine Cal_17 (pc := 7) X w dX6_forgetAll_7 ?_
    refine lv_icmp_ge (pc := 8) (tgt := 24) hx hb dX6_forgetAll_8 (by decide) (fun c_ => ?_) (fun c_ => ?_)
    · have h := h.1 c_
      exact Cvret (pc := 24) X w h dX6_forgetAll_24
    · have h := h.2 c_
      refine lv_aload_n (pc := 11) hx hb dX6_forgetAll_11 rfl (lv_at hl 0 rfl) ?_
      refine Cgf_10_4 (pc := 12) X w kw121 dX6_forgetAll_12 ?_
      refine lv_iload_n (pc := 15) hx hb dX6_forgetAll_15 rfl (lv_at hl 1 rfl) ?_
      refine lv_iconst (pc := 16) (v := (0 : Int32)) hx hb dX6_forgetAll_16 (by decide) ?_
      refine Cst_17 (pc := 17) X w h.1 dX6_forgetAll_17 (fun H locs w => ?_)
      have h := h.2
      obtain ⟨u1, e_⟩ : ∃ y : Mm, y = s32 u 17 x1.toNatClampNeg (vp_nar .boolean (0 : Int32)) := ⟨_, rfl⟩
      rw [← e_] at w
      have h := h u1 e_
      obtain ⟨x1_2, e_⟩ : ∃ y : Int32, y = x1 + (1 : Int32) := ⟨_, rfl⟩
      have h := h x1_2 e_
      refine lv_iinc (pc := 18) (v := x1_2) (lv' := [(1, .int x1_2), (0, .ref (ad 10))]) hx hb dX6_forgetAll_18 hl (k := 1) rfl (by rw [e_]; rfl) (by decide) rfl (fun ls hl => ?_)
      refine lv_goto (pc := 21) (tgt := 2) hx hb dX6_forgetAll_21 (by decide) ?_
      exact ih u1 x1_2 H locs ls h w (lv_sub hl [1, 0] rfl)
set_option maxHeartbeats 4000000 in
set_option maxRecDepth 100000 in
theorem okX6_forgetAll (l : Launch) {D : va_G} {g : Nat → ClassId} {ad : Nat → Nat} (hJ : CJ ad) {u : Mm} {Q : Mm → Prop} (h : wX6_forgetAll u Q) : Met l yX6_forgetAll (Cond.code yX6_forgetAll cX6_forgetAll 2 none :: gt) ({ frames := 0, cells := 0, slots := 0, locals := 0 } : Room) (CPc D g ad u [.ref (ad 10)]) (va_Qv Q (CB D g ad) (CA ad)) 0 0 (CA ad) := by
  refine Met.ofW (cc := cX6_forgetAll) (maxL := 2) (ret := none) (by decide) rfl ?_
  intro p e s m args below meth c s₁ B hml hv
  refine Centry (own := RX6) B hml hv hJ rfl (Nat.le_of_ble_eq_true rfl) (fun ls H locs X w hl => ?_)
  obtain ⟨⟨hx, hb, hml, hown, hts⟩, hr, hlocks, hK, hJ, hAA⟩ := id X
  have hl : lv_has ls 2 [(0, .ref (ad 10))] := hl
  unfold wX6_forgetAll at h
  refine lv_iconst (pc := 0) (v := (0 : Int32)) hx hb dX6_forgetAll_0 (by decide) ?_
  refine lv_istore_n (pc := 1) (lv' := [(1, .int (0 : Int32)), (0, .ref (ad 10))]) hx hb dX6_forgetAll_1 rfl hl (by decide) rfl (fun ls hl => ?_)
  obtain ⟨n9, h⟩ := h
  exact bX6_forgetAll_2 X n9 u (0 : Int32) H locs ls h w (lv_sub hl [1, 0] rfl)
set_option maxHeartbeats 4000000 in
set_option maxRecDepth 100000 in
theorem okX8_annualCode (l : Launch) {D : va_G} {g : Nat → ClassId} {ad : Nat → Nat} (hJ : CJ ad) {u : Mm} {a0 : Int32} {a1 : Int32} {a2 : Int32} {a3 : Int32} {Q : Int32 → Prop} (h : wX8_annualCode a0 a1 a2 a3 Q) : Met l yX8_annualCode (Cond.code yX8_annualCode cX8_annualCode 4 (some .int) :: gt) ({ frames := 0, cells := 0, slots := 0, locals := 0 } : Room) (CPc D g ad u [.int a0, .int a1, .int a2, .int a3]) (va_Qi (fun r u1 => u = u1 ∧ Q r) (CB D g ad) (CA ad)) 0 0 (CA ad) := by
  refine Met.ofW (cc := cX8_annualCode) (maxL := 4) (ret := (some .int)) (by decide) rfl ?_
  intro p e s m args below meth c s₁ B hml hv
  refine Centry (own := RX8) B hml hv hJ rfl (Nat.le_of_ble_eq_true rfl) (fun ls H locs X w hl => ?_)
  obtain ⟨⟨hx, hb, hml, hown, hts⟩, hr, hlocks, hK, hJ, hAA⟩ := id X
  have hl : lv_has ls 4 [(0, .int a0), (1, .int a1), (2, .int a2), (3, .int a3)] := hl
  unfold wX8_annualCode at h
  refine lv_sipush (pc := 0) (v := (576 : Int32)) hx hb dX8_annualCode_0 (by decide) ?_
  refine lv_iload_n (pc := 3) hx hb dX8_annualCode_3 rfl (lv_at hl 0 rfl) ?_
  refine lv_iconst (pc := 4) (v := (4 : Int32)) hx hb dX8_annualCode_4 (by decide) ?_
  refine lv_imul (pc := 5) hx hb dX8_annualCode_5 ?_
  refine lv_iload_n (pc := 6) hx hb dX8_annualCode_6 rfl (lv_at hl 1 rfl) ?_
  refine lv_iadd (pc := 7) hx hb dX8_annualCode_7 ?_
  refine lv_bipush (pc := 8) (v := (6 : Int32)) hx hb dX8_annualCode_8 (by decide) ?_
  refine lv_imul (pc := 10) hx hb dX8_annualCode_10 ?_
  refine lv_iload_n (pc := 11) hx hb dX8_annualCode_11 rfl (lv_at hl 2 rfl) ?_
  refine lv_iadd (pc := 12) hx hb dX8_annualCode_12 ?_
  refine lv_iconst (pc := 13) (v := (3 : Int32)) hx hb dX8_annualCode_13 (by decide) ?_
  refine lv_imul (pc := 14) hx hb dX8_annualCode_14 ?_
  refine lv_iadd (pc := 15) hx hb dX8_annualCode_15 ?_
  refine lv_iload_n (pc := 16) hx hb dX8_annualCode_16 rfl (lv_at hl 3 rfl) ?_
  refine lv_iadd (pc := 17) hx hb dX8_annualCode_17 ?_
  exact Ciret (pc := 18) X w ⟨rfl, h⟩ dX8_annualCode_18
set_option maxHeartbeats 4000000 in
set_option maxRecDepth 100000 in
theorem okX6_hear (l : Launch) {D : va_G} {g : Nat → ClassId} {ad : Nat → Nat} (hJ : CJ ad) {u : Mm} {a1 : Int32} {Q : Mm → Prop} (h : wX6_hear u a1 Q) : Met l yX6_hear (Cond.code yX6_hear cX6_hear 2 none :: gt) ({ frames := 3, cells := 0, slots := 0, locals := 76 } : Room) (CPc D g ad u [.ref (ad 10), .int a1]) (va_Qv Q (CB D g ad) (CA ad)) 0 0 (CA ad) := by
  refine Met.ofW (cc := cX6_hear) (maxL := 2) (ret := none) (by decide) rfl ?_
  intro p e s m args below meth c s₁ B hml hv
  refine Centry (own := RX6) B hml hv hJ rfl (Nat.le_of_ble_eq_true rfl) (fun ls H locs X w hl => ?_)
  obtain ⟨⟨hx, hb, hml, hown, hts⟩, hr, hlocks, hK, hJ, hAA⟩ := id X
  have hl : lv_has ls 2 [(0, .ref (ad 10)), (1, .int a1)] := hl
  unfold wX6_hear at h
  refine lv_aload_n (pc := 0) hx hb dX6_hear_0 rfl (lv_at hl 0 rfl) ?_
  refine Cgf_10_0 (pc := 1) X w kw126 dX6_hear_1 ?_
  refine lv_iload_n (pc := 4) hx hb dX6_hear_4 rfl (lv_at hl 1 rfl) ?_
  refine lv_aload_n (pc := 5) hx hb dX6_hear_5 rfl (lv_at hl 0 rfl) ?_
  refine Cgf_10_0 (pc := 6) X w kw126 dX6_hear_6 ?_
  refine Cgf_1_9 (pc := 9) X w kw127 dX6_hear_9 ?_
  refine lv_bipush (pc := 12) (v := (9 : Int32)) hx hb dX6_hear_12 (by decide) ?_
  refine Ccallv (rest := []) (CrunV (pc := 14) X w (okX3_tally l hJ h) kw128 kmX3_tally ⟨rfl, rfl⟩ ⟨by decide, by decide⟩ (Crv_1 X w) rfl hl.1 rfl (Nat.le_of_ble_eq_true rfl) dX6_hear_14) w (fun u2 H locs h w => ?_)
  refine lv_aload_n (pc := 17) hx hb dX6_hear_17 rfl (lv_at hl 0 rfl) ?_
  refine Cgf_10_5 (pc := 18) X w kw129 dX6_hear_18 ?_
  refine lv_iload_n (pc := 21) hx hb dX6_hear_21 rfl (lv_at hl 1 rfl) ?_
  refine lv_aload_n (pc := 22) hx hb dX6_hear_22 rfl (lv_at hl 0 rfl) ?_
  refine Cgf_10_0 (pc := 23) X w kw126 dX6_hear_23 ?_
  refine Cgf_1_11 (pc := 26) X w kw130 dX6_hear_26 ?_
  refine Cst_18 (pc := 29) X w h.1 dX6_hear_29 (fun H locs w => ?_)
  have h := h.2
  obtain ⟨u3, e_⟩ : ∃ y : Mm, y = s32 u2 18 a1.toNatClampNeg (u2.1 127 0) := ⟨_, rfl⟩
  rw [← e_] at w
  have h := h u3 e_
  refine lv_aload_n (pc := 30) hx hb dX6_hear_30 rfl (lv_at hl 0 rfl) ?_
  refine Cgf_10_6 (pc := 31) X w kw131 dX6_hear_31 ?_
  refine lv_iload_n (pc := 34) hx hb dX6_hear_34 rfl (lv_at hl 1 rfl) ?_
  refine lv_aload_n (pc := 35) hx hb dX6_hear_35 rfl (lv_at hl 0 rfl) ?_
  refine Cgf_10_0 (pc := 36) X w kw126 dX6_hear_36 ?_
  refine Cgf_1_10 (pc := 39) X w kw132 dX6_hear_39 ?_
  refine Cst_19 (pc := 42) X w h.1 dX6_hear_42 (fun H locs w => ?_)
  have h := h.2
  obtain ⟨u4, e_⟩ : ∃ y : Mm, y = s32 u3 19 a1.toNatClampNeg (u3.1 126 0) := ⟨_, rfl⟩
  rw [← e_] at w
  have h := h u4 e_
  exact Cvret (pc := 43) X w h dX6_hear_43
set_option maxHeartbeats 4000000 in
set_option maxRecDepth 100000 in
theorem bX6_bend_234 {l : Launch} {p : Program} {e : Env} {s : State} {m : MethodId} {args : Array Value} {below : List Frame} {meth : Method} {c : Code} {D : va_G} {g : Nat → ClassId} {ad : Nat → Nat} {Q : Mm → Prop} {k211 : Mm → Int32 → Int32 → Int32 → Prop} (X : CX p s m args meth c cX6_bend RX6 8 none (Cond.code yX6_bend cX6_bend 8 none) D g ad (CA ad)) (hk211 : ∀ (u : Mm) (x1 : Int32) (x6 : Int32) (x7 : Int32) (H : Heap) (locs : List Loc) (ls : Array Slot), k211 u x1 x6 x7 → CWd D g ad (CA ad) s u H locs → lv_has ls 8 [(0, .ref (ad 10)), (1, .int x1), (6, .int x6), (7, .int x7)] → W p l e ({ frames := 3, cells := 0, slots := 0, locals := 78 } : Room) s m args below meth c H locs 0 0 (MQ below (va_Qv Q (CB D g ad) (CA ad)) args s 0 0 (CA ad)) (F0 m 211 ls [])) : ∀ (u : Mm) (x1 : Int32) (x6 : Int32) (x7 : Int32) (H : Heap) (locs : List Loc) (ls : Array Slot), wX6_bend_b234 k211 Q u x1 x6 x7 → CWd D g ad (CA ad) s u H locs → lv_has ls 8 [(0, .ref (ad 10)), (1, .int x1), (6, .int x6), (7, .int x7)] → W p l e ({ frames := 3, cells := 0, slots := 0, locals := 78 } : Room) s m args below meth c H locs 0 0 (MQ below (va_Qv Q (CB D g ad) (CA ad)) args s 0 0 (CA ad)) (F0 m 234 ls []) := by
  obtain ⟨⟨hx, hb, hml, hown, hts⟩, hr, hlocks, hK, hJ, hAA⟩ := id X
  intro u x1 x6 x7 H locs ls h w hl
  unfold wX6_bend_b234 at h
  refine lv_aload_n (pc := 234) hx hb dX6_bend_234 rfl (lv_at hl 0 rfl) ?_
  refine Cgf_10_8 (pc := 235) X w kw133 dX6_bend_235 ?_
  refine lv_iload_n (pc := 238) hx hb dX6_bend_238 rfl (lv_at hl 1 rfl) ?_
  refine lv_iload (pc := 239) hx hb dX6_bend_239 (lv_at hl 3 rfl) ?_
  refine lv_iadd (pc := 241) hx hb dX6_bend_241 ?_
  refine lv_aload_n (pc := 242) hx hb dX6_bend_242 rfl (lv_at hl 0 rfl) ?_
  refine Cgf_10_1 (pc := 243) X w kw134 dX6_bend_243 ?_
  refine Cgf_11_1 (pc := 246) X w kw140 dX6_bend_246 ?_
  refine lv_iload (pc := 249) hx hb dX6_bend_249 (lv_at hl 3 rfl) ?_
  refine Cld_13 (pc := 251) X w h.1 dX6_bend_251 ?_
  have h := h.2
  refine Cst_21 (pc := 252) X w h.1 dX6_bend_252 (fun H locs w => ?_)
  have h := h.2
  obtain ⟨u1, e_⟩ : ∃ y : Mm, y = s64 u 21 (x1 + x7).toNatClampNeg (u.2 13 x7.toNatClampNeg) := ⟨_, rfl⟩
  rw [← e_] at w
  have h := h u1 e_
  obtain ⟨x7_2, e_⟩ : ∃ y : Int32, y = x7 + (1 : Int32) := ⟨_, rfl⟩
  have h := h x7_2 e_
  refine lv_iinc (pc := 253) (v := x7_2) (lv' := [(7, .int x7_2), (0, .ref (ad 10)), (1, .int x1), (6, .int x6)]) hx hb dX6_bend_253 hl (k := 3) rfl (by rw [e_]; rfl) (by decide) rfl (fun ls hl => ?_)
  refine lv_goto (pc := 256) (tgt := 211) hx hb dX6_bend_256 (by decide) ?_
  exact hk211 u1 x1 x6 x7_2 H locs ls h w (lv_sub hl [1, 2, 3, 0] rfl)
set_option maxHeartbeats 4000000 in
set_option maxRecDepth 100000 in
theorem bX6_bend_211 {l : Launch} {p : Program} {e : Env} {s : State} {m : MethodId} {args : Array Value} {below : List Frame} {meth : Method} {c : Code} {D : va_G} {g : Nat → ClassId} {ad : Nat → Nat} {Q : Mm → Prop} (X : CX p s m args meth c cX6_bend RX6 8 none (Cond.code yX6_bend cX6_bend 8 none) D g ad (CA ad)) : ∀ (n : Nat) (u : Mm) (x1 : Int32) (x6 : Int32) (x7 : Int32) (H : Heap) (locs : List Loc) (ls : Array Slot), wX6_bend_b211 Q n u x1 x6 x7 → CWd D g ad (CA ad) s u H locs → lv_has ls 8 [(0, .ref (ad 10)), (1, .int x1), (6, .int x6), (7, .int x7)] → W p l e ({ frames := 3, cells := 0, slots := 0, locals := 78 } : Room) s m args below meth c H locs 0 0 (MQ below (va_Qv Q (CB D g ad) (CA ad)) args s 0 0 (CA ad)) (F0 m 211 ls []) := by
  obtain ⟨⟨hx, hb, hml, hown, hts⟩, hr, hlocks, hK, hJ, hAA⟩ := id X
  intro n
  induction n with
  | zero =>
    intro u x1 x6 x7 H locs ls h
    exact False.elim h
  | succ n ih =>
    intro u x1 x6 x7 H locs ls h w hl
    unfold wX6_bend_b211 at h
    refine lv_iload (pc := 211) hx hb dX6_bend_211 (lv_at hl 3 rfl) ?_
    refine lv_iconst (pc := 213) (v := (4 : Int32)) hx hb dX6_bend_213 (by decide) ?_
    refine lv_icmp_ge (pc := 214) (tgt := 259) hx hb dX6_bend_214 (by decide) (fun c_ => ?_) (fun c_ => ?_)
    · have h := h.1 c_
      exact Cvret (pc := 259) X w h dX6_bend_259
    · have h := h.2 c_
      refine lv_iload (pc := 217) hx hb dX6_bend_217 (lv_at hl 2 rfl) ?_
      refine lv_if_eq (pc := 219) (tgt := 234) hx hb dX6_bend_219 (by decide) (fun c_ => ?_) (fun c_ => ?_)
      · have h := h.1 c_
        refine bX6_bend_234 X ?_ u x1 x6 x7 H locs ls h w (lv_sub hl [0, 1, 2, 3] rfl)
        · intro u x1 x6 x7 H locs ls h w hl
          exact ih u x1 x6 x7 H locs ls h w (lv_sub hl [0, 1, 2, 3] rfl)
      · have h := h.2 c_
        refine lv_aload_n (pc := 222) hx hb dX6_bend_222 rfl (lv_at hl 0 rfl) ?_
        refine Cgf_10_6 (pc := 223) X w kw131 dX6_bend_223 ?_
        refine lv_iload_n (pc := 226) hx hb dX6_bend_226 rfl (lv_at hl 1 rfl) ?_
        refine lv_iload (pc := 227) hx hb dX6_bend_227 (lv_at hl 3 rfl) ?_
        refine lv_iadd (pc := 229) hx hb dX6_bend_229 ?_
        refine Cld_19 (pc := 230) X w h.1 dX6_bend_230 ?_
        have h := h.2
        refine lv_if_ne (pc := 231) (tgt := 253) hx hb dX6_bend_231 (by decide) (fun c_ => ?_) (fun c_ => ?_)
        · have h := h.2 c_
          obtain ⟨x7_1, e_⟩ : ∃ y : Int32, y = x7 + (1 : Int32) := ⟨_, rfl⟩
          have h := h x7_1 e_
          refine lv_iinc (pc := 253) (v := x7_1) (lv' := [(7, .int x7_1), (0, .ref (ad 10)), (1, .int x1), (6, .int x6)]) hx hb dX6_bend_253 hl (k := 3) rfl (by rw [e_]; rfl) (by decide) rfl (fun ls hl => ?_)
          refine lv_goto (pc := 256) (tgt := 211) hx hb dX6_bend_256 (by decide) ?_
          exact ih u x1 x6 x7_1 H locs ls h w (lv_sub hl [1, 2, 3, 0] rfl)
        · have h := h.1 c_
          refine bX6_bend_234 X ?_ u x1 x6 x7 H locs ls h w (lv_sub hl [0, 1, 2, 3] rfl)
          · intro u x1 x6 x7 H locs ls h w hl
            exact ih u x1 x6 x7 H locs ls h w (lv_sub hl [0, 1, 2, 3] rfl)
set_option maxHeartbeats 4000000 in
set_option maxRecDepth 100000 in
theorem bX6_bend_99 {l : Launch} {p : Program} {e : Env} {s : State} {m : MethodId} {args : Array Value} {below : List Frame} {meth : Method} {c : Code} {D : va_G} {g : Nat → ClassId} {ad : Nat → Nat} {Q : Mm → Prop} (X : CX p s m args meth c cX6_bend RX6 8 none (Cond.code yX6_bend cX6_bend 8 none) D g ad (CA ad)) : ∀ (n : Nat) (u : Mm) (x1 : Int32) (x2 : Int32) (x3 : Int64) (x6 : Int32) (x7 : Int32) (H : Heap) (locs : List Loc) (ls : Array Slot), wX6_bend_b99 Q n u x1 x2 x3 x6 x7 → CWd D g ad (CA ad) s u H locs → lv_has ls 8 [(0, .ref (ad 10)), (1, .int x1), (2, .int x2), (3, .long x3), (6, .int x6), (7, .int x7)] → W p l e ({ frames := 3, cells := 0, slots := 0, locals := 78 } : Room) s m args below meth c H locs 0 0 (MQ below (va_Qv Q (CB D g ad) (CA ad)) args s 0 0 (CA ad)) (F0 m 99 ls []) := by
  obtain ⟨⟨hx, hb, hml, hown, hts⟩, hr, hlocks, hK, hJ, hAA⟩ := id X
  intro n
  induction n with
  | zero =>
    intro u x1 x2 x3 x6 x7 H locs ls h
    exact False.elim h
  | succ n ih =>
    intro u x1 x2 x3 x6 x7 H locs ls h w hl
    unfold wX6_bend_b99 at h
    refine lv_iload (pc := 99) hx hb dX6_bend_99 (lv_at hl 5 rfl) ?_
    refine lv_iconst (pc := 101) (v := (4 : Int32)) hx hb dX6_bend_101 (by decide) ?_
    refine lv_icmp_ge (pc := 102) (tgt := 176) hx hb dX6_bend_102 (by decide) (fun c_ => ?_) (fun c_ => ?_)
    · have h := h.1 c_
      refine lv_aload_n (pc := 176) hx hb dX6_bend_176 rfl (lv_at hl 0 rfl) ?_
      refine Cgf_10_1 (pc := 177) X w kw134 dX6_bend_177 ?_
      refine lv_iload (pc := 180) hx hb dX6_bend_180 (lv_at hl 4 rfl) ?_
      refine lv_if_eq (pc := 182) (tgt := 197) hx hb dX6_bend_182 (by decide) (fun c_ => ?_) (fun c_ => ?_)
      · have h := h.1 c_
        refine lv_aload_n (pc := 197) hx hb dX6_bend_197 rfl (lv_at hl 0 rfl) ?_
        refine Cgf_10_5 (pc := 198) X w kw129 dX6_bend_198 ?_
        refine lv_iload_n (pc := 201) hx hb dX6_bend_201 rfl (lv_at hl 2 rfl) ?_
        refine Cld_18 (pc := 202) X w h.1 dX6_bend_202 ?_
        have h := h.2
        refine lv_i2l (pc := 203) hx hb dX6_bend_203 rfl ?_
        refine lv_iconst (pc := 204) (v := (4 : Int32)) hx hb dX6_bend_204 (by decide) ?_
        refine Ccallv (rest := []) (CrunV (pc := 205) X w (okX2_deal_i0 l hJ h) kw135 kmX2_deal ⟨rfl, rfl⟩ ⟨by decide, by decide⟩ (Crv_11 X w) rfl hl.1 rfl (Nat.le_of_ble_eq_true rfl) dX6_bend_205) w (fun u2 H locs h w => ?_)
        refine lv_iconst (pc := 208) (v := (0 : Int32)) hx hb dX6_bend_208 (by decide) ?_
        refine lv_istore (pc := 209) (lv' := [(7, .int (0 : Int32)), (0, .ref (ad 10)), (1, .int x1), (2, .int x2), (3, .long x3), (6, .int x6)]) hx hb dX6_bend_209 hl (by decide) rfl (fun ls hl => ?_)
        obtain ⟨n9, h⟩ := h
        exact bX6_bend_211 X n9 u2 x1 x6 (0 : Int32) H locs ls h w (lv_sub hl [1, 2, 5, 0] rfl)
      · have h := h.2 c_
        refine lv_aload_n (pc := 185) hx hb dX6_bend_185 rfl (lv_at hl 0 rfl) ?_
        refine Cgf_10_5 (pc := 186) X w kw129 dX6_bend_186 ?_
        refine lv_iload_n (pc := 189) hx hb dX6_bend_189 rfl (lv_at hl 2 rfl) ?_
        refine Cld_18 (pc := 190) X w h.1 dX6_bend_190 ?_
        have h := h.2
        refine lv_i2l (pc := 191) hx hb dX6_bend_191 rfl ?_
        refine lv_lload_n (pc := 192) hx hb dX6_bend_192 rfl (lv_at hl 3 rfl) ?_
        refine lv_lsub (pc := 193) hx hb dX6_bend_193 ?_
        refine lv_goto (pc := 194) (tgt := 204) hx hb dX6_bend_194 (by decide) ?_
        refine lv_iconst (pc := 204) (v := (4 : Int32)) hx hb dX6_bend_204 (by decide) ?_
        refine Ccallv (rest := []) (CrunV (pc := 205) X w (okX2_deal_i0 l hJ h) kw135 kmX2_deal ⟨rfl, rfl⟩ ⟨by decide, by decide⟩ (Crv_11 X w) rfl hl.1 rfl (Nat.le_of_ble_eq_true rfl) dX6_bend_205) w (fun u4 H locs h w => ?_)
        refine lv_iconst (pc := 208) (v := (0 : Int32)) hx hb dX6_bend_208 (by decide) ?_
        refine lv_istore (pc := 209) (lv' := [(7, .int (0 : Int32)), (0, .ref (ad 10)), (1, .int x1), (2, .int x2), (3, .long x3), (6, .int x6)]) hx hb dX6_bend_209 hl (by decide) rfl (fun ls hl => ?_)
        obtain ⟨n9, h⟩ := h
        exact bX6_bend_211 X n9 u4 x1 x6 (0 : Int32) H locs ls h w (lv_sub hl [1, 2, 5, 0] rfl)
    · have h := h.2 c_
      refine lv_iload (pc := 105) hx hb dX6_bend_105 (lv_at hl 4 rfl) ?_
      refine lv_if_eq (pc := 107) (tgt := 140) hx hb dX6_bend_107 (by decide) (fun c_ => ?_) (fun c_ => ?_)
      · have h := h.1 c_
        refine lv_aload_n (pc := 140) hx hb dX6_bend_140 rfl (lv_at hl 0 rfl) ?_
        refine Cgf_10_1 (pc := 141) X w kw134 dX6_bend_141 ?_
        refine Cgf_11_0 (pc := 144) X w kw139 dX6_bend_144 ?_
        refine lv_iload (pc := 147) hx hb dX6_bend_147 (lv_at hl 5 rfl) ?_
        refine lv_lload_n (pc := 149) hx hb dX6_bend_149 rfl (lv_at hl 3 rfl) ?_
        refine lv_lconst (pc := 150) (v := (0 : Int64)) hx hb dX6_bend_150 (by decide) ?_
        refine lq_ne (pc := 151) (tgt := 159) hx hb dX6_bend_151 dX6_bend_152 (by decide) (fun c_ => ?_) (fun c_ => ?_)
        · have h := h.2 c_
          refine lv_aload_n (pc := 159) hx hb dX6_bend_159 rfl (lv_at hl 0 rfl) ?_
          refine Cgf_10_5 (pc := 160) X w kw129 dX6_bend_160 ?_
          refine lv_iload_n (pc := 163) hx hb dX6_bend_163 rfl (lv_at hl 1 rfl) ?_
          refine lv_iload (pc := 164) hx hb dX6_bend_164 (lv_at hl 5 rfl) ?_
          refine lv_iadd (pc := 166) hx hb dX6_bend_166 ?_
          refine Cld_18 (pc := 167) X w h.1 dX6_bend_167 ?_
          have h := h.2
          refine lv_i2l (pc := 168) hx hb dX6_bend_168 rfl ?_
          refine Cst_12 (pc := 169) X w h.1 dX6_bend_169 (fun H locs w => ?_)
          have h := h.2
          obtain ⟨u5, e_⟩ : ∃ y : Mm, y = s64 u 12 x7.toNatClampNeg (u.1 18 (x1 + x7).toNatClampNeg).toInt64 := ⟨_, rfl⟩
          rw [← e_] at w
          have h := h u5 e_
          obtain ⟨x7_6, e_⟩ : ∃ y : Int32, y = x7 + (1 : Int32) := ⟨_, rfl⟩
          have h := h x7_6 e_
          refine lv_iinc (pc := 170) (v := x7_6) (lv' := [(7, .int x7_6), (0, .ref (ad 10)), (1, .int x1), (2, .int x2), (3, .long x3), (6, .int x6)]) hx hb dX6_bend_170 hl (k := 5) rfl (by rw [e_]; rfl) (by decide) rfl (fun ls hl => ?_)
          refine lv_goto (pc := 173) (tgt := 99) hx hb dX6_bend_173 (by decide) ?_
          exact ih u5 x1 x2 x3 x6 x7_6 H locs ls h w (lv_sub hl [1, 2, 3, 4, 5, 0] rfl)
        · have h := h.1 c_
          refine lv_lconst (pc := 155) (v := (1 : Int64)) hx hb dX6_bend_155 (by decide) ?_
          refine lv_goto (pc := 156) (tgt := 169) hx hb dX6_bend_156 (by decide) ?_
          refine Cst_12 (pc := 169) X w h.1 dX6_bend_169 (fun H locs w => ?_)
          have h := h.2
          obtain ⟨u7, e_⟩ : ∃ y : Mm, y = s64 u 12 x7.toNatClampNeg (1 : Int64) := ⟨_, rfl⟩
          rw [← e_] at w
          have h := h u7 e_
          obtain ⟨x7_8, e_⟩ : ∃ y : Int32, y = x7 + (1 : Int32) := ⟨_, rfl⟩
          have h := h x7_8 e_
          refine lv_iinc (pc := 170) (v := x7_8) (lv' := [(7, .int x7_8), (0, .ref (ad 10)), (1, .int x1), (2, .int x2), (3, .long x3), (6, .int x6)]) hx hb dX6_bend_170 hl (k := 5) rfl (by rw [e_]; rfl) (by decide) rfl (fun ls hl => ?_)
          refine lv_goto (pc := 173) (tgt := 99) hx hb dX6_bend_173 (by decide) ?_
          exact ih u7 x1 x2 x3 x6 x7_8 H locs ls h w (lv_sub hl [1, 2, 3, 4, 5, 0] rfl)
      · have h := h.2 c_
        refine lv_aload_n (pc := 110) hx hb dX6_bend_110 rfl (lv_at hl 0 rfl) ?_
        refine Cgf_10_1 (pc := 111) X w kw134 dX6_bend_111 ?_
        refine Cgf_11_0 (pc := 114) X w kw139 dX6_bend_114 ?_
        refine lv_iload (pc := 117) hx hb dX6_bend_117 (lv_at hl 5 rfl) ?_
        refine lv_aload_n (pc := 119) hx hb dX6_bend_119 rfl (lv_at hl 0 rfl) ?_
        refine Cgf_10_6 (pc := 120) X w kw131 dX6_bend_120 ?_
        refine lv_iload_n (pc := 123) hx hb dX6_bend_123 rfl (lv_at hl 1 rfl) ?_
        refine lv_iload (pc := 124) hx hb dX6_bend_124 (lv_at hl 5 rfl) ?_
        refine lv_iadd (pc := 126) hx hb dX6_bend_126 ?_
        refine Cld_19 (pc := 127) X w h.1 dX6_bend_127 ?_
        have h := h.2
        refine lv_if_ne (pc := 128) (tgt := 135) hx hb dX6_bend_128 (by decide) (fun c_ => ?_) (fun c_ => ?_)
        · have h := h.2 c_
          refine lv_lconst (pc := 135) (v := (0 : Int64)) hx hb dX6_bend_135 (by decide) ?_
          refine Cst_12 (pc := 136) X w h.1 dX6_bend_136 (fun H locs w => ?_)
          have h := h.2
          obtain ⟨u9, e_⟩ : ∃ y : Mm, y = s64 u 12 x7.toNatClampNeg (0 : Int64) := ⟨_, rfl⟩
          rw [← e_] at w
          have h := h u9 e_
          refine lv_goto (pc := 137) (tgt := 170) hx hb dX6_bend_137 (by decide) ?_
          obtain ⟨x7_10, e_⟩ : ∃ y : Int32, y = x7 + (1 : Int32) := ⟨_, rfl⟩
          have h := h x7_10 e_
          refine lv_iinc (pc := 170) (v := x7_10) (lv' := [(7, .int x7_10), (0, .ref (ad 10)), (1, .int x1), (2, .int x2), (3, .long x3), (6, .int x6)]) hx hb dX6_bend_170 hl (k := 5) rfl (by rw [e_]; rfl) (by decide) rfl (fun ls hl => ?_)
          refine lv_goto (pc := 173) (tgt := 99) hx hb dX6_bend_173 (by decide) ?_
          exact ih u9 x1 x2 x3 x6 x7_10 H locs ls h w (lv_sub hl [1, 2, 3, 4, 5, 0] rfl)
        · have h := h.1 c_
          refine lv_lconst (pc := 131) (v := (1 : Int64)) hx hb dX6_bend_131 (by decide) ?_
          refine lv_goto (pc := 132) (tgt := 136) hx hb dX6_bend_132 (by decide) ?_
          refine Cst_12 (pc := 136) X w h.1 dX6_bend_136 (fun H locs w => ?_)
          have h := h.2
          obtain ⟨u11, e_⟩ : ∃ y : Mm, y = s64 u 12 x7.toNatClampNeg (1 : Int64) := ⟨_, rfl⟩
          rw [← e_] at w
          have h := h u11 e_
          refine lv_goto (pc := 137) (tgt := 170) hx hb dX6_bend_137 (by decide) ?_
          obtain ⟨x7_12, e_⟩ : ∃ y : Int32, y = x7 + (1 : Int32) := ⟨_, rfl⟩
          have h := h x7_12 e_
          refine lv_iinc (pc := 170) (v := x7_12) (lv' := [(7, .int x7_12), (0, .ref (ad 10)), (1, .int x1), (2, .int x2), (3, .long x3), (6, .int x6)]) hx hb dX6_bend_170 hl (k := 5) rfl (by rw [e_]; rfl) (by decide) rfl (fun ls hl => ?_)
          refine lv_goto (pc := 173) (tgt := 99) hx hb dX6_bend_173 (by decide) ?_
          exact ih u11 x1 x2 x3 x6 x7_12 H locs ls h w (lv_sub hl [1, 2, 3, 4, 5, 0] rfl)
set_option maxHeartbeats 4000000 in
set_option maxRecDepth 100000 in
theorem bX6_bend_8 {l : Launch} {p : Program} {e : Env} {s : State} {m : MethodId} {args : Array Value} {below : List Frame} {meth : Method} {c : Code} {D : va_G} {g : Nat → ClassId} {ad : Nat → Nat} {Q : Mm → Prop} (X : CX p s m args meth c cX6_bend RX6 8 none (Cond.code yX6_bend cX6_bend 8 none) D g ad (CA ad)) : ∀ (n : Nat) (u : Mm) (x1 : Int32) (x2 : Int32) (x3 : Int64) (x5 : Int32) (x6 : Int32) (H : Heap) (locs : List Loc) (ls : Array Slot), wX6_bend_b8 Q n u x1 x2 x3 x5 x6 → CWd D g ad (CA ad) s u H locs → lv_has ls 8 [(0, .ref (ad 10)), (1, .int x1), (2, .int x2), (3, .long x3), (5, .int x5), (6, .int x6)] → W p l e ({ frames := 3, cells := 0, slots := 0, locals := 78 } : Room) s m args below meth c H locs 0 0 (MQ below (va_Qv Q (CB D g ad) (CA ad)) args s 0 0 (CA ad)) (F0 m 8 ls []) := by
  obtain ⟨⟨hx, hb, hml, hown, hts⟩, hr, hlocks, hK, hJ, hAA⟩ := id X
  intro n
  induction n with
  | zero =>
    intro u x1 x2 x3 x5 x6 H locs ls h
    exact False.elim h
  | succ n ih =>
    intro u x1 x2 x3 x5 x6 H locs ls h w hl
    unfold wX6_bend_b8 at h
    refine lv_iload (pc := 8) hx hb dX6_bend_8 (lv_at hl 5 rfl) ?_
    refine lv_iconst (pc := 10) (v := (4 : Int32)) hx hb dX6_bend_10 (by decide) ?_
    refine lv_icmp_ge (pc := 11) (tgt := 74) hx hb dX6_bend_11 (by decide) (fun c_ => ?_) (fun c_ => ?_)
    · have h := h.1 c_
      refine lv_aload_n (pc := 74) hx hb dX6_bend_74 rfl (lv_at hl 0 rfl) ?_
      refine Cgf_10_6 (pc := 75) X w kw131 dX6_bend_75 ?_
      refine lv_iload_n (pc := 78) hx hb dX6_bend_78 rfl (lv_at hl 2 rfl) ?_
      refine Cld_19 (pc := 79) X w h.1 dX6_bend_79 ?_
      have h := h.2
      refine lv_if_ne (pc := 80) (tgt := 84) hx hb dX6_bend_80 (by decide) (fun c_ => ?_) (fun c_ => ?_)
      · have h := h.2 c_
        refine lv_iload (pc := 84) hx hb dX6_bend_84 (lv_at hl 4 rfl) ?_
        refine lv_if_le (pc := 86) (tgt := 93) hx hb dX6_bend_86 (by decide) (fun c_ => ?_) (fun c_ => ?_)
        · have h := h.1 c_
          refine lv_iconst (pc := 93) (v := (0 : Int32)) hx hb dX6_bend_93 (by decide) ?_
          refine lv_istore (pc := 94) (lv' := [(6, .int (0 : Int32)), (0, .ref (ad 10)), (1, .int x1), (2, .int x2), (3, .long x3), (5, .int x5)]) hx hb dX6_bend_94 hl (by decide) rfl (fun ls hl => ?_)
          refine lv_iconst (pc := 96) (v := (0 : Int32)) hx hb dX6_bend_96 (by decide) ?_
          refine lv_istore (pc := 97) (lv' := [(7, .int (0 : Int32)), (6, .int (0 : Int32)), (0, .ref (ad 10)), (1, .int x1), (2, .int x2), (3, .long x3), (5, .int x5)]) hx hb dX6_bend_97 hl (by decide) rfl (fun ls hl => ?_)
          obtain ⟨n9, h⟩ := h
          exact bX6_bend_99 X n9 u x1 x2 x3 (0 : Int32) (0 : Int32) H locs ls h w (lv_sub hl [2, 3, 4, 5, 1, 0] rfl)
        · have h := h.2 c_
          refine lv_iconst (pc := 89) (v := (1 : Int32)) hx hb dX6_bend_89 (by decide) ?_
          refine lv_goto (pc := 90) (tgt := 94) hx hb dX6_bend_90 (by decide) ?_
          refine lv_istore (pc := 94) (lv' := [(6, .int (1 : Int32)), (0, .ref (ad 10)), (1, .int x1), (2, .int x2), (3, .long x3), (5, .int x5)]) hx hb dX6_bend_94 hl (by decide) rfl (fun ls hl => ?_)
          refine lv_iconst (pc := 96) (v := (0 : Int32)) hx hb dX6_bend_96 (by decide) ?_
          refine lv_istore (pc := 97) (lv' := [(7, .int (0 : Int32)), (6, .int (1 : Int32)), (0, .ref (ad 10)), (1, .int x1), (2, .int x2), (3, .long x3), (5, .int x5)]) hx hb dX6_bend_97 hl (by decide) rfl (fun ls hl => ?_)
          obtain ⟨n9, h⟩ := h
          exact bX6_bend_99 X n9 u x1 x2 x3 (1 : Int32) (0 : Int32) H locs ls h w (lv_sub hl [2, 3, 4, 5, 1, 0] rfl)
      · have h := h.1 c_
        exact Cvret (pc := 83) X w h dX6_bend_83
    · have h := h.2 c_
      refine lv_aload_n (pc := 14) hx hb dX6_bend_14 rfl (lv_at hl 0 rfl) ?_
      refine Cgf_10_8 (pc := 15) X w kw133 dX6_bend_15 ?_
      refine lv_iload_n (pc := 18) hx hb dX6_bend_18 rfl (lv_at hl 1 rfl) ?_
      refine lv_iload (pc := 19) hx hb dX6_bend_19 (lv_at hl 5 rfl) ?_
      refine lv_iadd (pc := 21) hx hb dX6_bend_21 ?_
      refine lv_aload_n (pc := 22) hx hb dX6_bend_22 rfl (lv_at hl 0 rfl) ?_
      refine Cgf_10_5 (pc := 23) X w kw129 dX6_bend_23 ?_
      refine lv_iload_n (pc := 26) hx hb dX6_bend_26 rfl (lv_at hl 1 rfl) ?_
      refine lv_iload (pc := 27) hx hb dX6_bend_27 (lv_at hl 5 rfl) ?_
      refine lv_iadd (pc := 29) hx hb dX6_bend_29 ?_
      refine Cld_18 (pc := 30) X w h.1 dX6_bend_30 ?_
      have h := h.2
      refine lv_i2l (pc := 31) hx hb dX6_bend_31 rfl ?_
      refine Cst_21 (pc := 32) X w h.1 dX6_bend_32 (fun H locs w => ?_)
      have h := h.2
      obtain ⟨u1, e_⟩ : ∃ y : Mm, y = s64 u 21 (x1 + x6).toNatClampNeg (u.1 18 (x1 + x6).toNatClampNeg).toInt64 := ⟨_, rfl⟩
      rw [← e_] at w
      have h := h u1 e_
      refine lv_lload_n (pc := 33) hx hb dX6_bend_33 rfl (lv_at hl 3 rfl) ?_
      refine lv_aload_n (pc := 34) hx hb dX6_bend_34 rfl (lv_at hl 0 rfl) ?_
      refine Cgf_10_5 (pc := 35) X w kw129 dX6_bend_35 ?_
      refine lv_iload_n (pc := 38) hx hb dX6_bend_38 rfl (lv_at hl 1 rfl) ?_
      refine lv_iload (pc := 39) hx hb dX6_bend_39 (lv_at hl 5 rfl) ?_
      refine lv_iadd (pc := 41) hx hb dX6_bend_41 ?_
      refine Cld_18 (pc := 42) X w h.1 dX6_bend_42 ?_
      have h := h.2
      refine lv_i2l (pc := 43) hx hb dX6_bend_43 rfl ?_
      refine lv_ladd (pc := 44) hx hb dX6_bend_44 ?_
      refine lv_topl (fun x3_2 e_ => ?_)
      have h := h x3_2 e_
      refine lv_lstore_n (pc := 45) (lv' := [(3, .long x3_2), (0, .ref (ad 10)), (1, .int x1), (2, .int x2), (5, .int x5), (6, .int x6)]) hx hb dX6_bend_45 rfl hl (by decide) rfl (fun ls hl => ?_)
      refine lv_iload (pc := 46) hx hb dX6_bend_46 (lv_at hl 4 rfl) ?_
      refine lv_aload_n (pc := 48) hx hb dX6_bend_48 rfl (lv_at hl 1 rfl) ?_
      refine Cgf_10_6 (pc := 49) X w kw131 dX6_bend_49 ?_
      refine lv_iload_n (pc := 52) hx hb dX6_bend_52 rfl (lv_at hl 2 rfl) ?_
      refine lv_iload (pc := 53) hx hb dX6_bend_53 (lv_at hl 5 rfl) ?_
      refine lv_iadd (pc := 55) hx hb dX6_bend_55 ?_
      refine Cld_19 (pc := 56) X w h.1 dX6_bend_56 ?_
      have h := h.2
      refine lv_if_ne (pc := 57) (tgt := 64) hx hb dX6_bend_57 (by decide) (fun c_ => ?_) (fun c_ => ?_)
      · have h := h.2 c_
        refine lv_iconst (pc := 64) (v := (0 : Int32)) hx hb dX6_bend_64 (by decide) ?_
        refine lv_iadd (pc := 65) hx hb dX6_bend_65 ?_
        refine lv_topi (fun x5_3 e_ => ?_)
        have h := h x5_3 e_
        refine lv_istore (pc := 66) (lv' := [(5, .int x5_3), (3, .long x3_2), (0, .ref (ad 10)), (1, .int x1), (2, .int x2), (6, .int x6)]) hx hb dX6_bend_66 hl (by decide) rfl (fun ls hl => ?_)
        obtain ⟨x6_4, e_⟩ : ∃ y : Int32, y = x6 + (1 : Int32) := ⟨_, rfl⟩
        have h := h x6_4 e_
        refine lv_iinc (pc := 68) (v := x6_4) (lv' := [(6, .int x6_4), (5, .int x5_3), (3, .long x3_2), (0, .ref (ad 10)), (1, .int x1), (2, .int x2)]) hx hb dX6_bend_68 hl (k := 5) rfl (by rw [e_]; rfl) (by decide) rfl (fun ls hl => ?_)
        refine lv_goto (pc := 71) (tgt := 8) hx hb dX6_bend_71 (by decide) ?_
        exact ih u1 x1 x2 x3_2 x5_3 x6_4 H locs ls h w (lv_sub hl [3, 4, 5, 2, 1, 0] rfl)
      · have h := h.1 c_
        refine lv_iconst (pc := 60) (v := (1 : Int32)) hx hb dX6_bend_60 (by decide) ?_
        refine lv_goto (pc := 61) (tgt := 65) hx hb dX6_bend_61 (by decide) ?_
        refine lv_iadd (pc := 65) hx hb dX6_bend_65 ?_
        refine lv_topi (fun x5_5 e_ => ?_)
        have h := h x5_5 e_
        refine lv_istore (pc := 66) (lv' := [(5, .int x5_5), (3, .long x3_2), (0, .ref (ad 10)), (1, .int x1), (2, .int x2), (6, .int x6)]) hx hb dX6_bend_66 hl (by decide) rfl (fun ls hl => ?_)
        obtain ⟨x6_6, e_⟩ : ∃ y : Int32, y = x6 + (1 : Int32) := ⟨_, rfl⟩
        have h := h x6_6 e_
        refine lv_iinc (pc := 68) (v := x6_6) (lv' := [(6, .int x6_6), (5, .int x5_5), (3, .long x3_2), (0, .ref (ad 10)), (1, .int x1), (2, .int x2)]) hx hb dX6_bend_68 hl (k := 5) rfl (by rw [e_]; rfl) (by decide) rfl (fun ls hl => ?_)
        refine lv_goto (pc := 71) (tgt := 8) hx hb dX6_bend_71 (by decide) ?_
        exact ih u1 x1 x2 x3_2 x5_5 x6_6 H locs ls h w (lv_sub hl [3, 4, 5, 2, 1, 0] rfl)
set_option maxHeartbeats 4000000 in
set_option maxRecDepth 100000 in
theorem okX6_bend (l : Launch) {D : va_G} {g : Nat → ClassId} {ad : Nat → Nat} (hJ : CJ ad) {u : Mm} {a1 : Int32} {a2 : Int32} {Q : Mm → Prop} (h : wX6_bend u a1 a2 Q) : Met l yX6_bend (Cond.code yX6_bend cX6_bend 8 none :: gt) ({ frames := 3, cells := 0, slots := 0, locals := 78 } : Room) (CPc D g ad u [.ref (ad 10), .int a1, .int a2]) (va_Qv Q (CB D g ad) (CA ad)) 0 0 (CA ad) := by
  refine Met.ofW (cc := cX6_bend) (maxL := 8) (ret := none) (by decide) rfl ?_
  intro p e s m args below meth c s₁ B hml hv
  refine Centry (own := RX6) B hml hv hJ rfl (Nat.le_of_ble_eq_true rfl) (fun ls H locs X w hl => ?_)
  obtain ⟨⟨hx, hb, hml, hown, hts⟩, hr, hlocks, hK, hJ, hAA⟩ := id X
  have hl : lv_has ls 8 [(0, .ref (ad 10)), (1, .int a1), (2, .int a2)] := hl
  unfold wX6_bend at h
  refine lv_lconst (pc := 0) (v := (0 : Int64)) hx hb dX6_bend_0 (by decide) ?_
  refine lv_lstore_n (pc := 1) (lv' := [(3, .long (0 : Int64)), (0, .ref (ad 10)), (1, .int a1), (2, .int a2)]) hx hb dX6_bend_1 rfl hl (by decide) rfl (fun ls hl => ?_)
  refine lv_iconst (pc := 2) (v := (0 : Int32)) hx hb dX6_bend_2 (by decide) ?_
  refine lv_istore (pc := 3) (lv' := [(5, .int (0 : Int32)), (3, .long (0 : Int64)), (0, .ref (ad 10)), (1, .int a1), (2, .int a2)]) hx hb dX6_bend_3 hl (by decide) rfl (fun ls hl => ?_)
  refine lv_iconst (pc := 5) (v := (0 : Int32)) hx hb dX6_bend_5 (by decide) ?_
  refine lv_istore (pc := 6) (lv' := [(6, .int (0 : Int32)), (5, .int (0 : Int32)), (3, .long (0 : Int64)), (0, .ref (ad 10)), (1, .int a1), (2, .int a2)]) hx hb dX6_bend_6 hl (by decide) rfl (fun ls hl => ?_)
  obtain ⟨n9, h⟩ := h
  exact bX6_bend_8 X n9 u a1 a2 (0 : Int64) (0 : Int32) (0 : Int32) H locs ls h w (lv_sub hl [3, 4, 5, 2, 1, 0] rfl)
set_option maxHeartbeats 4000000 in
set_option maxRecDepth 100000 in
theorem okX8_lineOf (l : Launch) {D : va_G} {g : Nat → ClassId} {ad : Nat → Nat} (hJ : CJ ad) {u : Mm} {a0 : Int32} {a1 : Int32} {a2 : Int32} {Q : Int32 → Prop} (h : wX8_lineOf a0 a1 a2 Q) : Met l yX8_lineOf (Cond.code yX8_lineOf cX8_lineOf 3 (some .int) :: gt) ({ frames := 0, cells := 0, slots := 0, locals := 0 } : Room) (CPc D g ad u [.int a0, .int a1, .int a2]) (va_Qi (fun r u1 => u = u1 ∧ Q r) (CB D g ad) (CA ad)) 0 0 (CA ad) := by
  refine Met.ofW (cc := cX8_lineOf) (maxL := 3) (ret := (some .int)) (by decide) rfl ?_
  intro p e s m args below meth c s₁ B hml hv
  refine Centry (own := RX8) B hml hv hJ rfl (Nat.le_of_ble_eq_true rfl) (fun ls H locs X w hl => ?_)
  obtain ⟨⟨hx, hb, hml, hown, hts⟩, hr, hlocks, hK, hJ, hAA⟩ := id X
  have hl : lv_has ls 3 [(0, .int a0), (1, .int a1), (2, .int a2)] := hl
  unfold wX8_lineOf at h
  refine lv_iload_n (pc := 0) hx hb dX8_lineOf_0 rfl (lv_at hl 0 rfl) ?_
  refine lv_iconst (pc := 1) (v := (4 : Int32)) hx hb dX8_lineOf_1 (by decide) ?_
  refine lv_imul (pc := 2) hx hb dX8_lineOf_2 ?_
  refine lv_iload_n (pc := 3) hx hb dX8_lineOf_3 rfl (lv_at hl 1 rfl) ?_
  refine lv_iadd (pc := 4) hx hb dX8_lineOf_4 ?_
  refine lv_bipush (pc := 5) (v := (6 : Int32)) hx hb dX8_lineOf_5 (by decide) ?_
  refine lv_imul (pc := 7) hx hb dX8_lineOf_7 ?_
  refine lv_iload_n (pc := 8) hx hb dX8_lineOf_8 rfl (lv_at hl 2 rfl) ?_
  refine lv_iadd (pc := 9) hx hb dX8_lineOf_9 ?_
  exact Ciret (pc := 10) X w ⟨rfl, h⟩ dX8_lineOf_10
set_option maxHeartbeats 4000000 in
set_option maxRecDepth 100000 in
theorem bX6_reckonCosts_8 {l : Launch} {p : Program} {e : Env} {s : State} {m : MethodId} {args : Array Value} {below : List Frame} {meth : Method} {c : Code} {D : va_G} {g : Nat → ClassId} {ad : Nat → Nat} {Q : Mm → Prop} (X : CX p s m args meth c cX6_reckonCosts RX6 9 none (Cond.code yX6_reckonCosts cX6_reckonCosts 9 none) D g ad (CA ad)) : ∀ (n : Nat) (u : Mm) (x1 : Int32) (x2 : Int32) (x3 : Int32) (x4 : Int32) (x5 : Int32) (H : Heap) (locs : List Loc) (ls : Array Slot), wX6_reckonCosts_b8 Q n u x1 x2 x3 x4 x5 → CWd D g ad (CA ad) s u H locs → lv_has ls 9 [(0, .ref (ad 10)), (1, .int x1), (2, .int x2), (3, .int x3), (4, .int x4), (5, .int x5)] → W p l e ({ frames := 1, cells := 0, slots := 0, locals := 23 } : Room) s m args below meth c H locs 0 0 (MQ below (va_Qv Q (CB D g ad) (CA ad)) args s 0 0 (CA ad)) (F0 m 8 ls []) := by
  obtain ⟨⟨hx, hb, hml, hown, hts⟩, hr, hlocks, hK, hJ, hAA⟩ := id X
  intro n
  induction n with
  | zero =>
    intro u x1 x2 x3 x4 x5 H locs ls h
    exact False.elim h
  | succ n ih =>
    intro u x1 x2 x3 x4 x5 H locs ls h w hl
    unfold wX6_reckonCosts_b8 at h
    refine lv_iload (pc := 8) hx hb dX6_reckonCosts_8 (lv_at hl 5 rfl) ?_
    refine lv_bipush (pc := 10) (v := (6 : Int32)) hx hb dX6_reckonCosts_10 (by decide) ?_
    refine lv_icmp_ge (pc := 12) (tgt := 89) hx hb dX6_reckonCosts_12 (by decide) (fun c_ => ?_) (fun c_ => ?_)
    · have h := h.1 c_
      exact Cvret (pc := 89) X w h dX6_reckonCosts_89
    · have h := h.2 c_
      refine lv_iload_n (pc := 15) hx hb dX6_reckonCosts_15 rfl (lv_at hl 1 rfl) ?_
      refine lv_iload_n (pc := 16) hx hb dX6_reckonCosts_16 rfl (lv_at hl 2 rfl) ?_
      refine lv_iload (pc := 17) hx hb dX6_reckonCosts_17 (lv_at hl 5 rfl) ?_
      refine lv_iload_n (pc := 19) hx hb dX6_reckonCosts_19 rfl (lv_at hl 3 rfl) ?_
      refine Ccalli (rest := []) (CrunSN (pc := 20) X w (okX8_cellCode l hJ h) (List.mem_of_getElem? (i := 6) rfl) kmX8_cellCode ⟨rfl, rfl⟩ ⟨by decide, by decide⟩ rfl hl.1 rfl (Nat.le_of_ble_eq_true rfl) dX6_reckonCosts_20) w (fun r1 u9_ H locs h w => ?_)
      obtain ⟨rfl, h⟩ := h
      refine lv_istore (pc := 23) (lv' := [(6, .int r1), (0, .ref (ad 10)), (1, .int x1), (2, .int x2), (3, .int x3), (4, .int x4), (5, .int x5)]) hx hb dX6_reckonCosts_23 hl (by decide) rfl (fun ls hl => ?_)
      refine lv_iload_n (pc := 25) hx hb dX6_reckonCosts_25 rfl (lv_at hl 2 rfl) ?_
      refine lv_iload_n (pc := 26) hx hb dX6_reckonCosts_26 rfl (lv_at hl 3 rfl) ?_
      refine lv_iload (pc := 27) hx hb dX6_reckonCosts_27 (lv_at hl 6 rfl) ?_
      refine lv_iload (pc := 29) hx hb dX6_reckonCosts_29 (lv_at hl 5 rfl) ?_
      refine Ccalli (rest := []) (CrunSN (pc := 31) X w (okX8_annualCode l hJ h) (List.mem_of_getElem? (i := 5) rfl) kmX8_annualCode ⟨rfl, rfl⟩ ⟨by decide, by decide⟩ rfl hl.1 rfl (Nat.le_of_ble_eq_true rfl) dX6_reckonCosts_31) w (fun r2 u9_ H locs h w => ?_)
      obtain ⟨rfl, h⟩ := h
      refine lv_istore (pc := 34) (lv' := [(7, .int r2), (6, .int r1), (0, .ref (ad 10)), (1, .int x1), (2, .int x2), (3, .int x3), (4, .int x4), (5, .int x5)]) hx hb dX6_reckonCosts_34 hl (by decide) rfl (fun ls hl => ?_)
      refine lv_aload_n (pc := 36) hx hb dX6_reckonCosts_36 rfl (lv_at hl 2 rfl) ?_
      refine Cgf_10_3 (pc := 37) X w kw143 dX6_reckonCosts_37 ?_
      refine lv_iload_n (pc := 40) hx hb dX6_reckonCosts_40 rfl (lv_at hl 3 rfl) ?_
      refine lv_iload_n (pc := 41) hx hb dX6_reckonCosts_41 rfl (lv_at hl 4 rfl) ?_
      refine lv_iload (pc := 42) hx hb dX6_reckonCosts_42 (lv_at hl 7 rfl) ?_
      refine Ccalli (rest := [.ref (ad 16)]) (CrunSN (pc := 44) X w (okX8_lineOf l hJ h) (List.mem_of_getElem? (i := 7) rfl) kmX8_lineOf ⟨rfl, rfl⟩ ⟨by decide, by decide⟩ rfl hl.1 rfl (Nat.le_of_ble_eq_true rfl) dX6_reckonCosts_44) w (fun r3 u9_ H locs h w => ?_)
      obtain ⟨rfl, h⟩ := h
      refine Cld_16 (pc := 47) X w h.1 dX6_reckonCosts_47 ?_
      have h := h.2
      refine lv_topi (fun x8_4 e_ => ?_)
      have h := h x8_4 e_
      refine lv_istore (pc := 48) (lv' := [(8, .int x8_4), (7, .int r2), (6, .int r1), (0, .ref (ad 10)), (1, .int x1), (2, .int x2), (3, .int x3), (4, .int x4), (5, .int x5)]) hx hb dX6_reckonCosts_48 hl (by decide) rfl (fun ls hl => ?_)
      refine lv_aload_n (pc := 50) hx hb dX6_reckonCosts_50 rfl (lv_at hl 3 rfl) ?_
      refine Cgf_10_7 (pc := 51) X w kw146 dX6_reckonCosts_51 ?_
      refine lv_iload (pc := 54) hx hb dX6_reckonCosts_54 (lv_at hl 8 rfl) ?_
      refine lv_iload (pc := 56) hx hb dX6_reckonCosts_56 (lv_at hl 0 rfl) ?_
      refine lv_if_eq (pc := 58) (tgt := 65) hx hb dX6_reckonCosts_58 (by decide) (fun c_ => ?_) (fun c_ => ?_)
      · have h := h.1 c_
        refine lv_aload_n (pc := 65) hx hb dX6_reckonCosts_65 rfl (lv_at hl 3 rfl) ?_
        refine Cgf_10_6 (pc := 66) X w kw131 dX6_reckonCosts_66 ?_
        refine lv_iload (pc := 69) hx hb dX6_reckonCosts_69 (lv_at hl 2 rfl) ?_
        refine Cld_19 (pc := 71) X w h.1 dX6_reckonCosts_71 ?_
        have h := h.2
        refine lv_aload_n (pc := 72) hx hb dX6_reckonCosts_72 rfl (lv_at hl 3 rfl) ?_
        refine Cgf_10_6 (pc := 73) X w kw131 dX6_reckonCosts_73 ?_
        refine lv_iload (pc := 76) hx hb dX6_reckonCosts_76 (lv_at hl 1 rfl) ?_
        refine Cld_19 (pc := 78) X w h.1 dX6_reckonCosts_78 ?_
        have h := h.2
        refine lv_iadd (pc := 79) hx hb dX6_reckonCosts_79 ?_
        refine lv_iconst (pc := 80) (v := (1 : Int32)) hx hb dX6_reckonCosts_80 (by decide) ?_
        refine lv_iadd (pc := 81) hx hb dX6_reckonCosts_81 ?_
        refine Cst_20 (pc := 82) X w h.1 dX6_reckonCosts_82 (fun H locs w => ?_)
        have h := h.2
        obtain ⟨u5, e_⟩ : ∃ y : Mm, y = s32 u 20 x5.toNatClampNeg (((u.1 19 r1.toNatClampNeg) + (u.1 19 r2.toNatClampNeg)) + (1 : Int32)) := ⟨_, rfl⟩
        rw [← e_] at w
        have h := h u5 e_
        obtain ⟨x5_6, e_⟩ : ∃ y : Int32, y = x5 + (1 : Int32) := ⟨_, rfl⟩
        have h := h x5_6 e_
        refine lv_iinc (pc := 83) (v := x5_6) (lv' := [(5, .int x5_6), (8, .int x8_4), (7, .int r2), (6, .int r1), (0, .ref (ad 10)), (1, .int x1), (2, .int x2), (3, .int x3), (4, .int x4)]) hx hb dX6_reckonCosts_83 hl (k := 8) rfl (by rw [e_]; rfl) (by decide) rfl (fun ls hl => ?_)
        refine lv_goto (pc := 86) (tgt := 8) hx hb dX6_reckonCosts_86 (by decide) ?_
        exact ih u5 x1 x2 x3 x4 x5_6 H locs ls h w (lv_sub hl [4, 5, 6, 7, 8, 0] rfl)
      · have h := h.2 c_
        refine lv_iconst (pc := 61) (v := (0 : Int32)) hx hb dX6_reckonCosts_61 (by decide) ?_
        refine lv_goto (pc := 62) (tgt := 82) hx hb dX6_reckonCosts_62 (by decide) ?_
        refine Cst_20 (pc := 82) X w h.1 dX6_reckonCosts_82 (fun H locs w => ?_)
        have h := h.2
        obtain ⟨u7, e_⟩ : ∃ y : Mm, y = s32 u 20 x5.toNatClampNeg (0 : Int32) := ⟨_, rfl⟩
        rw [← e_] at w
        have h := h u7 e_
        obtain ⟨x5_8, e_⟩ : ∃ y : Int32, y = x5 + (1 : Int32) := ⟨_, rfl⟩
        have h := h x5_8 e_
        refine lv_iinc (pc := 83) (v := x5_8) (lv' := [(5, .int x5_8), (8, .int x8_4), (7, .int r2), (6, .int r1), (0, .ref (ad 10)), (1, .int x1), (2, .int x2), (3, .int x3), (4, .int x4)]) hx hb dX6_reckonCosts_83 hl (k := 8) rfl (by rw [e_]; rfl) (by decide) rfl (fun ls hl => ?_)
        refine lv_goto (pc := 86) (tgt := 8) hx hb dX6_reckonCosts_86 (by decide) ?_
        exact ih u7 x1 x2 x3 x4 x5_8 H locs ls h w (lv_sub hl [4, 5, 6, 7, 8, 0] rfl)
set_option maxHeartbeats 4000000 in
set_option maxRecDepth 100000 in
theorem okX6_reckonCosts (l : Launch) {D : va_G} {g : Nat → ClassId} {ad : Nat → Nat} (hJ : CJ ad) {u : Mm} {a1 : Int32} {a2 : Int32} {a3 : Int32} {Q : Mm → Prop} (h : wX6_reckonCosts u a1 a2 a3 Q) : Met l yX6_reckonCosts (Cond.code yX6_reckonCosts cX6_reckonCosts 9 none :: gt) ({ frames := 1, cells := 0, slots := 0, locals := 23 } : Room) (CPc D g ad u [.ref (ad 10), .int a1, .int a2, .int a3]) (va_Qv Q (CB D g ad) (CA ad)) 0 0 (CA ad) := by
  refine Met.ofW (cc := cX6_reckonCosts) (maxL := 9) (ret := none) (by decide) rfl ?_
  intro p e s m args below meth c s₁ B hml hv
  refine Centry (own := RX6) B hml hv hJ rfl (Nat.le_of_ble_eq_true rfl) (fun ls H locs X w hl => ?_)
  obtain ⟨⟨hx, hb, hml, hown, hts⟩, hr, hlocks, hK, hJ, hAA⟩ := id X
  have hl : lv_has ls 9 [(0, .ref (ad 10)), (1, .int a1), (2, .int a2), (3, .int a3)] := hl
  unfold wX6_reckonCosts at h
  refine lv_iload_n (pc := 0) hx hb dX6_reckonCosts_0 rfl (lv_at hl 3 rfl) ?_
  refine lv_iconst (pc := 1) (v := (4 : Int32)) hx hb dX6_reckonCosts_1 (by decide) ?_
  refine lv_idiv (pc := 2) hx hb dX6_reckonCosts_2 (by decide) ?_
  refine lv_topi (fun x4_1 e_ => ?_)
  have h := h x4_1 e_
  refine lv_istore (pc := 3) (lv' := [(4, .int x4_1), (0, .ref (ad 10)), (1, .int a1), (2, .int a2), (3, .int a3)]) hx hb dX6_reckonCosts_3 hl (by decide) rfl (fun ls hl => ?_)
  refine lv_iconst (pc := 5) (v := (0 : Int32)) hx hb dX6_reckonCosts_5 (by decide) ?_
  refine lv_istore (pc := 6) (lv' := [(5, .int (0 : Int32)), (4, .int x4_1), (0, .ref (ad 10)), (1, .int a1), (2, .int a2), (3, .int a3)]) hx hb dX6_reckonCosts_6 hl (by decide) rfl (fun ls hl => ?_)
  obtain ⟨n9, h⟩ := h
  exact bX6_reckonCosts_8 X n9 u a1 a2 a3 x4_1 (0 : Int32) H locs ls h w (lv_sub hl [2, 3, 4, 5, 1, 0] rfl)
set_option maxHeartbeats 4000000 in
set_option maxRecDepth 100000 in
theorem bX6_shareToCheapest_4 {l : Launch} {p : Program} {e : Env} {s : State} {m : MethodId} {args : Array Value} {below : List Frame} {meth : Method} {c : Code} {D : va_G} {g : Nat → ClassId} {ad : Nat → Nat} {Q : Mm → Prop} (X : CX p s m args meth c cX6_shareToCheapest RX6 3 none (Cond.code yX6_shareToCheapest cX6_shareToCheapest 3 none) D g ad (CA ad)) : ∀ (n : Nat) (u : Mm) (x1 : Int32) (x2 : Int32) (H : Heap) (locs : List Loc) (ls : Array Slot), wX6_shareToCheapest_b4 Q n u x1 x2 → CWd D g ad (CA ad) s u H locs → lv_has ls 3 [(0, .ref (ad 10)), (1, .int x1), (2, .int x2)] → W p l e ({ frames := 0, cells := 0, slots := 0, locals := 0 } : Room) s m args below meth c H locs 0 0 (MQ below (va_Qv Q (CB D g ad) (CA ad)) args s 0 0 (CA ad)) (F0 m 4 ls []) := by
  obtain ⟨⟨hx, hb, hml, hown, hts⟩, hr, hlocks, hK, hJ, hAA⟩ := id X
  intro n
  induction n with
  | zero =>
    intro u x1 x2 H locs ls h
    exact False.elim h
  | succ n ih =>
    intro u x1 x2 H locs ls h w hl
    unfold wX6_shareToCheapest_b4 at h
    refine lv_iload_n (pc := 4) hx hb dX6_shareToCheapest_4 rfl (lv_at hl 2 rfl) ?_
    refine lv_bipush (pc := 5) (v := (6 : Int32)) hx hb dX6_shareToCheapest_5 (by decide) ?_
    refine lv_icmp_ge (pc := 7) (tgt := 57) hx hb dX6_shareToCheapest_7 (by decide) (fun c_ => ?_) (fun c_ => ?_)
    · have h := h.1 c_
      refine lv_iload_n (pc := 57) hx hb dX6_shareToCheapest_57 rfl (lv_at hl 1 rfl) ?_
      refine lv_iconst (pc := 58) (v := (-1 : Int32)) hx hb dX6_shareToCheapest_58 (by decide) ?_
      refine lv_icmp_eq (pc := 59) (tgt := 72) hx hb dX6_shareToCheapest_59 (by decide) (fun c_ => ?_) (fun c_ => ?_)
      · have h := h.1 c_
        exact Cvret (pc := 72) X w h dX6_shareToCheapest_72
      · have h := h.2 c_
        refine lv_aload_n (pc := 62) hx hb dX6_shareToCheapest_62 rfl (lv_at hl 0 rfl) ?_
        refine Cgf_10_1 (pc := 63) X w kw134 dX6_shareToCheapest_63 ?_
        refine Cgf_11_0 (pc := 66) X w kw139 dX6_shareToCheapest_66 ?_
        refine lv_iload_n (pc := 69) hx hb dX6_shareToCheapest_69 rfl (lv_at hl 1 rfl) ?_
        refine lv_lconst (pc := 70) (v := (1 : Int64)) hx hb dX6_shareToCheapest_70 (by decide) ?_
        refine Cst_12 (pc := 71) X w h.1 dX6_shareToCheapest_71 (fun H locs w => ?_)
        have h := h.2
        obtain ⟨u1, e_⟩ : ∃ y : Mm, y = s64 u 12 x1.toNatClampNeg (1 : Int64) := ⟨_, rfl⟩
        rw [← e_] at w
        have h := h u1 e_
        exact Cvret (pc := 72) X w h dX6_shareToCheapest_72
    · have h := h.2 c_
      refine lv_aload_n (pc := 10) hx hb dX6_shareToCheapest_10 rfl (lv_at hl 0 rfl) ?_
      refine Cgf_10_1 (pc := 11) X w kw134 dX6_shareToCheapest_11 ?_
      refine Cgf_11_0 (pc := 14) X w kw139 dX6_shareToCheapest_14 ?_
      refine lv_iload_n (pc := 17) hx hb dX6_shareToCheapest_17 rfl (lv_at hl 2 rfl) ?_
      refine lv_lconst (pc := 18) (v := (0 : Int64)) hx hb dX6_shareToCheapest_18 (by decide) ?_
      refine Cst_12 (pc := 19) X w h.1 dX6_shareToCheapest_19 (fun H locs w => ?_)
      have h := h.2
      obtain ⟨u2, e_⟩ : ∃ y : Mm, y = s64 u 12 x2.toNatClampNeg (0 : Int64) := ⟨_, rfl⟩
      rw [← e_] at w
      have h := h u2 e_
      refine lv_aload_n (pc := 20) hx hb dX6_shareToCheapest_20 rfl (lv_at hl 0 rfl) ?_
      refine Cgf_10_7 (pc := 21) X w kw146 dX6_shareToCheapest_21 ?_
      refine lv_iload_n (pc := 24) hx hb dX6_shareToCheapest_24 rfl (lv_at hl 2 rfl) ?_
      refine Cld_20 (pc := 25) X w h.1 dX6_shareToCheapest_25 ?_
      have h := h.2
      refine lv_if_le (pc := 26) (tgt := 51) hx hb dX6_shareToCheapest_26 (by decide) (fun c_ => ?_) (fun c_ => ?_)
      · have h := h.1 c_
        obtain ⟨x2_3, e_⟩ : ∃ y : Int32, y = x2 + (1 : Int32) := ⟨_, rfl⟩
        have h := h x2_3 e_
        refine lv_iinc (pc := 51) (v := x2_3) (lv' := [(2, .int x2_3), (0, .ref (ad 10)), (1, .int x1)]) hx hb dX6_shareToCheapest_51 hl (k := 2) rfl (by rw [e_]; rfl) (by decide) rfl (fun ls hl => ?_)
        refine lv_goto (pc := 54) (tgt := 4) hx hb dX6_shareToCheapest_54 (by decide) ?_
        exact ih u2 x1 x2_3 H locs ls h w (lv_sub hl [1, 2, 0] rfl)
      · have h := h.2 c_
        refine lv_iload_n (pc := 29) hx hb dX6_shareToCheapest_29 rfl (lv_at hl 1 rfl) ?_
        refine lv_iconst (pc := 30) (v := (-1 : Int32)) hx hb dX6_shareToCheapest_30 (by decide) ?_
        refine lv_icmp_eq (pc := 31) (tgt := 49) hx hb dX6_shareToCheapest_31 (by decide) (fun c_ => ?_) (fun c_ => ?_)
        · have h := h.1 c_
          refine lv_iload_n (pc := 49) hx hb dX6_shareToCheapest_49 rfl (lv_at hl 2 rfl) ?_
          refine lv_istore_n (pc := 50) (lv' := [(1, .int x2), (0, .ref (ad 10)), (2, .int x2)]) hx hb dX6_shareToCheapest_50 rfl hl (by decide) rfl (fun ls hl => ?_)
          obtain ⟨x2_4, e_⟩ : ∃ y : Int32, y = x2 + (1 : Int32) := ⟨_, rfl⟩
          have h := h x2_4 e_
          refine lv_iinc (pc := 51) (v := x2_4) (lv' := [(2, .int x2_4), (1, .int x2), (0, .ref (ad 10))]) hx hb dX6_shareToCheapest_51 hl (k := 2) rfl (by rw [e_]; rfl) (by decide) rfl (fun ls hl => ?_)
          refine lv_goto (pc := 54) (tgt := 4) hx hb dX6_shareToCheapest_54 (by decide) ?_
          exact ih u2 x2 x2_4 H locs ls h w (lv_sub hl [2, 1, 0] rfl)
        · have h := h.2 c_
          refine lv_aload_n (pc := 34) hx hb dX6_shareToCheapest_34 rfl (lv_at hl 0 rfl) ?_
          refine Cgf_10_7 (pc := 35) X w kw146 dX6_shareToCheapest_35 ?_
          refine lv_iload_n (pc := 38) hx hb dX6_shareToCheapest_38 rfl (lv_at hl 2 rfl) ?_
          refine Cld_20 (pc := 39) X w h.1 dX6_shareToCheapest_39 ?_
          have h := h.2
          refine lv_aload_n (pc := 40) hx hb dX6_shareToCheapest_40 rfl (lv_at hl 0 rfl) ?_
          refine Cgf_10_7 (pc := 41) X w kw146 dX6_shareToCheapest_41 ?_
          refine lv_iload_n (pc := 44) hx hb dX6_shareToCheapest_44 rfl (lv_at hl 1 rfl) ?_
          refine Cld_20 (pc := 45) X w h.1 dX6_shareToCheapest_45 ?_
          have h := h.2
          refine lv_icmp_ge (pc := 46) (tgt := 51) hx hb dX6_shareToCheapest_46 (by decide) (fun c_ => ?_) (fun c_ => ?_)
          · have h := h.1 c_
            obtain ⟨x2_5, e_⟩ : ∃ y : Int32, y = x2 + (1 : Int32) := ⟨_, rfl⟩
            have h := h x2_5 e_
            refine lv_iinc (pc := 51) (v := x2_5) (lv' := [(2, .int x2_5), (0, .ref (ad 10)), (1, .int x1)]) hx hb dX6_shareToCheapest_51 hl (k := 2) rfl (by rw [e_]; rfl) (by decide) rfl (fun ls hl => ?_)
            refine lv_goto (pc := 54) (tgt := 4) hx hb dX6_shareToCheapest_54 (by decide) ?_
            exact ih u2 x1 x2_5 H locs ls h w (lv_sub hl [1, 2, 0] rfl)
          · have h := h.2 c_
            refine lv_iload_n (pc := 49) hx hb dX6_shareToCheapest_49 rfl (lv_at hl 2 rfl) ?_
            refine lv_istore_n (pc := 50) (lv' := [(1, .int x2), (0, .ref (ad 10)), (2, .int x2)]) hx hb dX6_shareToCheapest_50 rfl hl (by decide) rfl (fun ls hl => ?_)
            obtain ⟨x2_6, e_⟩ : ∃ y : Int32, y = x2 + (1 : Int32) := ⟨_, rfl⟩
            have h := h x2_6 e_
            refine lv_iinc (pc := 51) (v := x2_6) (lv' := [(2, .int x2_6), (1, .int x2), (0, .ref (ad 10))]) hx hb dX6_shareToCheapest_51 hl (k := 2) rfl (by rw [e_]; rfl) (by decide) rfl (fun ls hl => ?_)
            refine lv_goto (pc := 54) (tgt := 4) hx hb dX6_shareToCheapest_54 (by decide) ?_
            exact ih u2 x2 x2_6 H locs ls h w (lv_sub hl [2, 1, 0] rfl)
set_option maxHeartbeats 4000000 in
set_option maxRecDepth 100000 in
theorem okX6_shareToCheapest (l : Launch) {D : va_G} {g : Nat → ClassId} {ad : Nat → Nat} (hJ : CJ ad) {u : Mm} {Q : Mm → Prop} (h : wX6_shareToCheapest u Q) : Met l yX6_shareToCheapest (Cond.code yX6_shareToCheapest cX6_shareToCheapest 3 none :: gt) ({ frames := 0, cells := 0, slots := 0, locals := 0 } : Room) (CPc D g ad u [.ref (ad 10)]) (va_Qv Q (CB D g ad) (CA ad)) 0 0 (CA ad) := by
  refine Met.ofW (cc := cX6_shareToCheapest) (maxL := 3) (ret := none) (by decide) rfl ?_
  intro p e s m args below meth c s₁ B hml hv
  refine Centry (own := RX6) B hml hv hJ rfl (Nat.le_of_ble_eq_true rfl) (fun ls H locs X w hl => ?_)
  obtain ⟨⟨hx, hb, hml, hown, hts⟩, hr, hlocks, hK, hJ, hAA⟩ := id X
  have hl : lv_has ls 3 [(0, .ref (ad 10))] := hl
  unfold wX6_shareToCheapest at h
  refine lv_iconst (pc := 0) (v := (-1 : Int32)) hx hb dX6_shareToCheapest_0 (by decide) ?_
  refine lv_istore_n (pc := 1) (lv' := [(1, .int (-1 : Int32)), (0, .ref (ad 10))]) hx hb dX6_shareToCheapest_1 rfl hl (by decide) rfl (fun ls hl => ?_)
  refine lv_iconst (pc := 2) (v := (0 : Int32)) hx hb dX6_shareToCheapest_2 (by decide) ?_
  refine lv_istore_n (pc := 3) (lv' := [(2, .int (0 : Int32)), (1, .int (-1 : Int32)), (0, .ref (ad 10))]) hx hb dX6_shareToCheapest_3 rfl hl (by decide) rfl (fun ls hl => ?_)
  obtain ⟨n9, h⟩ := h
  exact bX6_shareToCheapest_4 X n9 u (-1 : Int32) (0 : Int32) H locs ls h w (lv_sub hl [2, 1, 0] rfl)
set_option maxHeartbeats 4000000 in
set_option maxRecDepth 100000 in
theorem bX6_shareByCost_2 {l : Launch} {p : Program} {e : Env} {s : State} {m : MethodId} {args : Array Value} {below : List Frame} {meth : Method} {c : Code} {D : va_G} {g : Nat → ClassId} {ad : Nat → Nat} {Q : Mm → Prop} (X : CX p s m args meth c cX6_shareByCost RX6 2 none (Cond.code yX6_shareByCost cX6_shareByCost 2 none) D g ad (CA ad)) : ∀ (n : Nat) (u : Mm) (x1 : Int32) (H : Heap) (locs : List Loc) (ls : Array Slot), wX6_shareByCost_b2 Q n u x1 → CWd D g ad (CA ad) s u H locs → lv_has ls 2 [(0, .ref (ad 10)), (1, .int x1)] → W p l e ({ frames := 0, cells := 0, slots := 0, locals := 0 } : Room) s m args below meth c H locs 0 0 (MQ below (va_Qv Q (CB D g ad) (CA ad)) args s 0 0 (CA ad)) (F0 m 2 ls []) := by
  obtain ⟨⟨hx, hb, hml, hown, hts⟩, hr, hlocks, hK, hJ, hAA⟩ := id X
  intro n
  induction n with
  | zero =>
    intro u x1 H locs ls h
    exact False.elim h
  | succ n ih =>
    intro u x1 H locs ls h w hl
    unfold wX6_shareByCost_b2 at h
    refine lv_iload_n (pc := 2) hx hb dX6_shareByCost_2 rfl (lv_at hl 1 rfl) ?_
    refine lv_bipush (pc := 3) (v := (6 : Int32)) hx hb dX6_shareByCost_3 (by decide) ?_
    refine lv_icmp_ge (pc := 5) (tgt := 47) hx hb dX6_shareByCost_5 (by decide) (fun c_ => ?_) (fun c_ => ?_)
    · have h := h.1 c_
      exact Cvret (pc := 47) X w h dX6_shareByCost_47
    · have h := h.2 c_
      refine lv_aload_n (pc := 8) hx hb dX6_shareByCost_8 rfl (lv_at hl 0 rfl) ?_
      refine Cgf_10_1 (pc := 9) X w kw134 dX6_shareByCost_9 ?_
      refine Cgf_11_0 (pc := 12) X w kw139 dX6_shareByCost_12 ?_
      refine lv_iload_n (pc := 15) hx hb dX6_shareByCost_15 rfl (lv_at hl 1 rfl) ?_
      refine lv_aload_n (pc := 16) hx hb dX6_shareByCost_16 rfl (lv_at hl 0 rfl) ?_
      refine Cgf_10_7 (pc := 17) X w kw146 dX6_shareByCost_17 ?_
      refine lv_iload_n (pc := 20) hx hb dX6_shareByCost_20 rfl (lv_at hl 1 rfl) ?_
      refine Cld_20 (pc := 21) X w h.1 dX6_shareByCost_21 ?_
      have h := h.2
      refine lv_if_le (pc := 22) (tgt := 39) hx hb dX6_shareByCost_22 (by decide) (fun c_ => ?_) (fun c_ => ?_)
      · have h := h.1 c_
        refine lv_lconst (pc := 39) (v := (0 : Int64)) hx hb dX6_shareByCost_39 (by decide) ?_
        refine Cst_12 (pc := 40) X w h.1 dX6_shareByCost_40 (fun H locs w => ?_)
        have h := h.2
        obtain ⟨u1, e_⟩ : ∃ y : Mm, y = s64 u 12 x1.toNatClampNeg (0 : Int64) := ⟨_, rfl⟩
        rw [← e_] at w
        have h := h u1 e_
        obtain ⟨x1_2, e_⟩ : ∃ y : Int32, y = x1 + (1 : Int32) := ⟨_, rfl⟩
        have h := h x1_2 e_
        refine lv_iinc (pc := 41) (v := x1_2) (lv' := [(1, .int x1_2), (0, .ref (ad 10))]) hx hb dX6_shareByCost_41 hl (k := 1) rfl (by rw [e_]; rfl) (by decide) rfl (fun ls hl => ?_)
        refine lv_goto (pc := 44) (tgt := 2) hx hb dX6_shareByCost_44 (by decide) ?_
        exact ih u1 x1_2 H locs ls h w (lv_sub hl [1, 0] rfl)
      · have h := h.2 c_
        refine lv_sipush (pc := 25) (v := (2520 : Int32)) hx hb dX6_shareByCost_25 (by decide) ?_
        refine lv_aload_n (pc := 28) hx hb dX6_shareByCost_28 rfl (lv_at hl 0 rfl) ?_
        refine Cgf_10_7 (pc := 29) X w kw146 dX6_shareByCost_29 ?_
        refine lv_iload_n (pc := 32) hx hb dX6_shareByCost_32 rfl (lv_at hl 1 rfl) ?_
        refine Cld_20 (pc := 33) X w h.1 dX6_shareByCost_33 ?_
        have h := h.2
        refine lv_idiv (pc := 34) hx hb dX6_shareByCost_34 h.1 ?_
        have h := h.2
        refine lv_i2l (pc := 35) hx hb dX6_shareByCost_35 rfl ?_
        refine lv_goto (pc := 36) (tgt := 40) hx hb dX6_shareByCost_36 (by decide) ?_
        refine Cst_12 (pc := 40) X w h.1 dX6_shareByCost_40 (fun H locs w => ?_)
        have h := h.2
        obtain ⟨u3, e_⟩ : ∃ y : Mm, y = s64 u 12 x1.toNatClampNeg ((2520 : Int32) / (u.1 20 x1.toNatClampNeg)).toInt64 := ⟨_, rfl⟩
        rw [← e_] at w
        have h := h u3 e_
        obtain ⟨x1_4, e_⟩ : ∃ y : Int32, y = x1 + (1 : Int32) := ⟨_, rfl⟩
        have h := h x1_4 e_
        refine lv_iinc (pc := 41) (v := x1_4) (lv' := [(1, .int x1_4), (0, .ref (ad 10))]) hx hb dX6_shareByCost_41 hl (k := 1) rfl (by rw [e_]; rfl) (by decide) rfl (fun ls hl => ?_)
        refine lv_goto (pc := 44) (tgt := 2) hx hb dX6_shareByCost_44 (by decide) ?_
        exact ih u3 x1_4 H locs ls h w (lv_sub hl [1, 0] rfl)
set_option maxHeartbeats 4000000 in
set_option maxRecDepth 100000 in
theorem okX6_shareByCost (l : Launch) {D : va_G} {g : Nat → ClassId} {ad : Nat → Nat} (hJ : CJ ad) {u : Mm} {Q : Mm → Prop} (h : wX6_shareByCost u Q) : Met l yX6_shareByCost (Cond.code yX6_shareByCost cX6_shareByCost 2 none :: gt) ({ frames := 0, cells := 0, slots := 0, locals := 0 } : Room) (CPc D g ad u [.ref (ad 10)]) (va_Qv Q (CB D g ad) (CA ad)) 0 0 (CA ad) := by
  refine Met.ofW (cc := cX6_shareByCost) (maxL := 2) (ret := none) (by decide) rfl ?_
  intro p e s m args below meth c s₁ B hml hv
  refine Centry (own := RX6) B hml hv hJ rfl (Nat.le_of_ble_eq_true rfl) (fun ls H locs X w hl => ?_)
  obtain ⟨⟨hx, hb, hml, hown, hts⟩, hr, hlocks, hK, hJ, hAA⟩ := id X
  have hl : lv_has ls 2 [(0, .ref (ad 10))] := hl
  unfold wX6_shareByCost at h
  refine lv_iconst (pc := 0) (v := (0 : Int32)) hx hb dX6_shareByCost_0 (by decide) ?_
  refine lv_istore_n (pc := 1) (lv' := [(1, .int (0 : Int32)), (0, .ref (ad 10))]) hx hb dX6_shareByCost_1 rfl hl (by decide) rfl (fun ls hl => ?_)
  obtain ⟨n9, h⟩ := h
  exact bX6_shareByCost_2 X n9 u (0 : Int32) H locs ls h w (lv_sub hl [1, 0] rfl)
set_option maxHeartbeats 4000000 in
set_option maxRecDepth 100000 in
theorem bX6_gapOf_6 {l : Launch} {p : Program} {e : Env} {s : State} {m : MethodId} {args : Array Value} {below : List Frame} {meth : Method} {c : Code} {D : va_G} {g : Nat → ClassId} {ad : Nat → Nat} {u : Mm} {Q : Int64 → Prop} (X : CX p s m args meth c cX6_gapOf RX6 9 (some .long) (Cond.code yX6_gapOf cX6_gapOf 9 (some .long)) D g ad (CA ad)) : ∀ (n : Nat) (x1 : Int32) (x2 : Int32) (x3 : Int32) (x4 : Int64) (x6 : Int32) (H : Heap) (locs : List Loc) (ls : Array Slot), wX6_gapOf_b6 u Q n x1 x2 x3 x4 x6 → CWd D g ad (CA ad) s u H locs → lv_has ls 9 [(0, .ref (ad 10)), (1, .int x1), (2, .int x2), (3, .int x3), (4, .long x4), (6, .int x6)] → W p l e ({ frames := 1, cells := 0, slots := 0, locals := 23 } : Room) s m args below meth c H locs 0 0 (MQ below (va_Ql (fun r u1 => u = u1 ∧ Q r) (CB D g ad) (CA ad)) args s 0 0 (CA ad)) (F0 m 6 ls []) := by
  obtain ⟨⟨hx, hb, hml, hown, hts⟩, hr, hlocks, hK, hJ, hAA⟩ := id X
  intro n
  induction n with
  | zero =>
    intro x1 x2 x3 x4 x6 H locs ls h
    exact False.elim h
  | succ n ih =>
    intro x1 x2 x3 x4 x6 H locs ls h w hl
    unfold wX6_gapOf_b6 at h
    refine lv_iload (pc := 6) hx hb dX6_gapOf_6 (lv_at hl 5 rfl) ?_
    refine lv_bipush (pc := 8) (v := (6 : Int32)) hx hb dX6_gapOf_8 (by decide) ?_
    refine lv_icmp_ge (pc := 10) (tgt := 57) hx hb dX6_gapOf_10 (by decide) (fun c_ => ?_) (fun c_ => ?_)
    · have h := h.1 c_
      refine lv_lload (pc := 57) hx hb dX6_gapOf_57 (lv_at hl 4 rfl) ?_
      exact Clret (pc := 59) X w ⟨rfl, h⟩ dX6_gapOf_59
    · have h := h.2 c_
      refine lv_aload_n (pc := 13) hx hb dX6_gapOf_13 rfl (lv_at hl 0 rfl) ?_
      refine Cgf_10_8 (pc := 14) X w kw133 dX6_gapOf_14 ?_
      refine lv_iload_n (pc := 17) hx hb dX6_gapOf_17 rfl (lv_at hl 1 rfl) ?_
      refine lv_iload_n (pc := 18) hx hb dX6_gapOf_18 rfl (lv_at hl 2 rfl) ?_
      refine lv_iload (pc := 19) hx hb dX6_gapOf_19 (lv_at hl 5 rfl) ?_
      refine lv_iload_n (pc := 21) hx hb dX6_gapOf_21 rfl (lv_at hl 3 rfl) ?_
      refine Ccalli (rest := [.ref (ad 21)]) (CrunSN (pc := 22) X w (okX8_cellCode l hJ h) (List.mem_of_getElem? (i := 6) rfl) kmX8_cellCode ⟨rfl, rfl⟩ ⟨by decide, by decide⟩ rfl hl.1 rfl (Nat.le_of_ble_eq_true rfl) dX6_gapOf_22) w (fun r1 u9_ H locs h w => ?_)
      obtain ⟨rfl, h⟩ := h
      refine Cld_21 (pc := 25) X w h.1 dX6_gapOf_25 ?_
      have h := h.2
      refine lv_topl (fun x7_2 e_ => ?_)
      have h := h x7_2 e_
      refine lv_lstore (pc := 26) (lv' := [(7, .long x7_2), (0, .ref (ad 10)), (1, .int x1), (2, .int x2), (3, .int x3), (4, .long x4), (6, .int x6)]) hx hb dX6_gapOf_26 hl (by decide) rfl (fun ls hl => ?_)
      refine lv_lload (pc := 28) hx hb dX6_gapOf_28 (lv_at hl 5 rfl) ?_
      refine lv_aload_n (pc := 30) hx hb dX6_gapOf_30 rfl (lv_at hl 1 rfl) ?_
      refine Cgf_10_2 (pc := 31) X w kw147 dX6_gapOf_31 ?_
      refine lv_iload (pc := 34) hx hb dX6_gapOf_34 (lv_at hl 6 rfl) ?_
      refine Cld_15 (pc := 36) X w h.1 dX6_gapOf_36 ?_
      have h := h.2
      refine lv_if_eq (pc := 37) (tgt := 45) hx hb dX6_gapOf_37 (by decide) (fun c_ => ?_) (fun c_ => ?_)
      · have h := h.1 c_
        refine lv_lload (pc := 45) hx hb dX6_gapOf_45 (lv_at hl 0 rfl) ?_
        refine lv_lneg (pc := 47) hx hb dX6_gapOf_47 ?_
        refine lv_ladd (pc := 48) hx hb dX6_gapOf_48 ?_
        refine lv_topl (fun x4_3 e_ => ?_)
        have h := h x4_3 e_
        refine lv_lstore (pc := 49) (lv' := [(4, .long x4_3), (7, .long x7_2), (0, .ref (ad 10)), (1, .int x1), (2, .int x2), (3, .int x3), (6, .int x6)]) hx hb dX6_gapOf_49 hl (by decide) rfl (fun ls hl => ?_)
        obtain ⟨x6_4, e_⟩ : ∃ y : Int32, y = x6 + (1 : Int32) := ⟨_, rfl⟩
        have h := h x6_4 e_
        refine lv_iinc (pc := 51) (v := x6_4) (lv' := [(6, .int x6_4), (4, .long x4_3), (7, .long x7_2), (0, .ref (ad 10)), (1, .int x1), (2, .int x2), (3, .int x3)]) hx hb dX6_gapOf_51 hl (k := 6) rfl (by rw [e_]; rfl) (by decide) rfl (fun ls hl => ?_)
        refine lv_goto (pc := 54) (tgt := 6) hx hb dX6_gapOf_54 (by decide) ?_
        exact ih x1 x2 x3 x4_3 x6_4 H locs ls h w (lv_sub hl [3, 4, 5, 6, 1, 0] rfl)
      · have h := h.2 c_
        refine lv_lload (pc := 40) hx hb dX6_gapOf_40 (lv_at hl 0 rfl) ?_
        refine lv_goto (pc := 42) (tgt := 48) hx hb dX6_gapOf_42 (by decide) ?_
        refine lv_ladd (pc := 48) hx hb dX6_gapOf_48 ?_
        refine lv_topl (fun x4_5 e_ => ?_)
        have h := h x4_5 e_
        refine lv_lstore (pc := 49) (lv' := [(4, .long x4_5), (7, .long x7_2), (0, .ref (ad 10)), (1, .int x1), (2, .int x2), (3, .int x3), (6, .int x6)]) hx hb dX6_gapOf_49 hl (by decide) rfl (fun ls hl => ?_)
        obtain ⟨x6_6, e_⟩ : ∃ y : Int32, y = x6 + (1 : Int32) := ⟨_, rfl⟩
        have h := h x6_6 e_
        refine lv_iinc (pc := 51) (v := x6_6) (lv' := [(6, .int x6_6), (4, .long x4_5), (7, .long x7_2), (0, .ref (ad 10)), (1, .int x1), (2, .int x2), (3, .int x3)]) hx hb dX6_gapOf_51 hl (k := 6) rfl (by rw [e_]; rfl) (by decide) rfl (fun ls hl => ?_)
        refine lv_goto (pc := 54) (tgt := 6) hx hb dX6_gapOf_54 (by decide) ?_
        exact ih x1 x2 x3 x4_5 x6_6 H locs ls h w (lv_sub hl [3, 4, 5, 6, 1, 0] rfl)
set_option maxHeartbeats 4000000 in
set_option maxRecDepth 100000 in
theorem okX6_gapOf (l : Launch) {D : va_G} {g : Nat → ClassId} {ad : Nat → Nat} (hJ : CJ ad) {u : Mm} {a1 : Int32} {a2 : Int32} {a3 : Int32} {Q : Int64 → Prop} (h : wX6_gapOf u a1 a2 a3 Q) : Met l yX6_gapOf (Cond.code yX6_gapOf cX6_gapOf 9 (some .long) :: gt) ({ frames := 1, cells := 0, slots := 0, locals := 23 } : Room) (CPc D g ad u [.ref (ad 10), .int a1, .int a2, .int a3]) (va_Ql (fun r u1 => u = u1 ∧ Q r) (CB D g ad) (CA ad)) 0 0 (CA ad) := by
  refine Met.ofW (cc := cX6_gapOf) (maxL := 9) (ret := (some .long)) (by decide) rfl ?_
  intro p e s m args below meth c s₁ B hml hv
  refine Centry (own := RX6) B hml hv hJ rfl (Nat.le_of_ble_eq_true rfl) (fun ls H locs X w hl => ?_)
  obtain ⟨⟨hx, hb, hml, hown, hts⟩, hr, hlocks, hK, hJ, hAA⟩ := id X
  have hl : lv_has ls 9 [(0, .ref (ad 10)), (1, .int a1), (2, .int a2), (3, .int a3)] := hl
  unfold wX6_gapOf at h
  refine lv_lconst (pc := 0) (v := (0 : Int64)) hx hb dX6_gapOf_0 (by decide) ?_
  refine lv_lstore (pc := 1) (lv' := [(4, .long (0 : Int64)), (0, .ref (ad 10)), (1, .int a1), (2, .int a2), (3, .int a3)]) hx hb dX6_gapOf_1 hl (by decide) rfl (fun ls hl => ?_)
  refine lv_iconst (pc := 3) (v := (0 : Int32)) hx hb dX6_gapOf_3 (by decide) ?_
  refine lv_istore (pc := 4) (lv' := [(6, .int (0 : Int32)), (4, .long (0 : Int64)), (0, .ref (ad 10)), (1, .int a1), (2, .int a2), (3, .int a3)]) hx hb dX6_gapOf_4 hl (by decide) rfl (fun ls hl => ?_)
  obtain ⟨n9, h⟩ := h
  exact bX6_gapOf_6 X n9 a1 a2 a3 (0 : Int64) (0 : Int32) H locs ls h w (lv_sub hl [2, 3, 4, 5, 1, 0] rfl)
set_option maxHeartbeats 4000000 in
set_option maxRecDepth 100000 in
theorem bX6_close_95 {l : Launch} {p : Program} {e : Env} {s : State} {m : MethodId} {args : Array Value} {below : List Frame} {meth : Method} {c : Code} {D : va_G} {g : Nat → ClassId} {ad : Nat → Nat} {Q : Mm → Prop} {k44 : Mm → Int32 → Int32 → Int32 → Int32 → Prop} (X : CX p s m args meth c cX6_close RX6 8 none (Cond.code yX6_close cX6_close 8 none) D g ad (CA ad)) (hk44 : ∀ (u : Mm) (x1 : Int32) (x2 : Int32) (x3 : Int32) (x4 : Int32) (H : Heap) (locs : List Loc) (ls : Array Slot), k44 u x1 x2 x3 x4 → CWd D g ad (CA ad) s u H locs → lv_has ls 8 [(0, .ref (ad 10)), (1, .int x1), (2, .int x2), (3, .int x3), (4, .int x4)] → W p l e ({ frames := 3, cells := 0, slots := 0, locals := 78 } : Room) s m args below meth c H locs 0 0 (MQ below (va_Qv Q (CB D g ad) (CA ad)) args s 0 0 (CA ad)) (F0 m 44 ls [])) : ∀ (u : Mm) (x1 : Int32) (x2 : Int32) (x3 : Int32) (x4 : Int32) (x5 : Int32) (y0 : Int64) (H : Heap) (locs : List Loc) (ls : Array Slot), wX6_close_b95 k44 Q u x1 x2 x3 x4 x5 y0 → CWd D g ad (CA ad) s u H locs → lv_has ls 8 [(0, .ref (ad 10)), (1, .int x1), (2, .int x2), (3, .int x3), (4, .int x4), (5, .int x5)] → W p l e ({ frames := 3, cells := 0, slots := 0, locals := 78 } : Room) s m args below meth c H locs 0 0 (MQ below (va_Qv Q (CB D g ad) (CA ad)) args s 0 0 (CA ad)) (F0 m 95 ls [.long y0]) := by
  obtain ⟨⟨hx, hb, hml, hown, hts⟩, hr, hlocks, hK, hJ, hAA⟩ := id X
  intro u x1 x2 x3 x4 x5 y0 H locs ls h w hl
  unfold wX6_close_b95 at h
  refine lv_lstore (pc := 95) (lv' := [(6, .long y0), (0, .ref (ad 10)), (1, .int x1), (2, .int x2), (3, .int x3), (4, .int x4), (5, .int x5)]) hx hb dX6_close_95 hl (by decide) rfl (fun ls hl => ?_)
  refine lv_aload_n (pc := 97) hx hb dX6_close_97 rfl (lv_at hl 1 rfl) ?_
  refine Cgf_10_9 (pc := 98) X w kw165 dX6_close_98 ?_
  refine lv_iload (pc := 101) hx hb dX6_close_101 (lv_at hl 6 rfl) ?_
  refine lv_aload_n (pc := 103) hx hb dX6_close_103 rfl (lv_at hl 1 rfl) ?_
  refine Cgf_10_8 (pc := 104) X w kw133 dX6_close_104 ?_
  refine lv_iload (pc := 107) hx hb dX6_close_107 (lv_at hl 6 rfl) ?_
  refine Cld_21 (pc := 109) X w h.1 dX6_close_109 ?_
  have h := h.2
  refine lv_lload (pc := 110) hx hb dX6_close_110 (lv_at hl 0 rfl) ?_
  refine lv_ladd (pc := 112) hx hb dX6_close_112 ?_
  refine Cst_22 (pc := 113) X w h.1 dX6_close_113 (fun H locs w => ?_)
  have h := h.2
  obtain ⟨u1, e_⟩ : ∃ y : Mm, y = s64 u 22 x5.toNatClampNeg ((u.2 21 x5.toNatClampNeg) + y0) := ⟨_, rfl⟩
  rw [← e_] at w
  have h := h u1 e_
  obtain ⟨x4_2, e_⟩ : ∃ y : Int32, y = x4 + (1 : Int32) := ⟨_, rfl⟩
  have h := h x4_2 e_
  refine lv_iinc (pc := 114) (v := x4_2) (lv' := [(4, .int x4_2), (6, .long y0), (0, .ref (ad 10)), (1, .int x1), (2, .int x2), (3, .int x3), (5, .int x5)]) hx hb dX6_close_114 hl (k := 5) rfl (by rw [e_]; rfl) (by decide) rfl (fun ls hl => ?_)
  refine lv_goto (pc := 117) (tgt := 44) hx hb dX6_close_117 (by decide) ?_
  exact hk44 u1 x1 x2 x3 x4_2 H locs ls h w (lv_sub hl [2, 3, 4, 5, 0] rfl)
set_option maxHeartbeats 4000000 in
set_option maxRecDepth 100000 in
theorem bX6_close_44 {l : Launch} {p : Program} {e : Env} {s : State} {m : MethodId} {args : Array Value} {below : List Frame} {meth : Method} {c : Code} {D : va_G} {g : Nat → ClassId} {ad : Nat → Nat} {Q : Mm → Prop} (X : CX p s m args meth c cX6_close RX6 8 none (Cond.code yX6_close cX6_close 8 none) D g ad (CA ad)) : ∀ (n : Nat) (u : Mm) (x1 : Int32) (x2 : Int32) (x3 : Int32) (x4 : Int32) (H : Heap) (locs : List Loc) (ls : Array Slot), wX6_close_b44 Q n u x1 x2 x3 x4 → CWd D g ad (CA ad) s u H locs → lv_has ls 8 [(0, .ref (ad 10)), (1, .int x1), (2, .int x2), (3, .int x3), (4, .int x4)] → W p l e ({ frames := 3, cells := 0, slots := 0, locals := 78 } : Room) s m args below meth c H locs 0 0 (MQ below (va_Qv Q (CB D g ad) (CA ad)) args s 0 0 (CA ad)) (F0 m 44 ls []) := by
  obtain ⟨⟨hx, hb, hml, hown, hts⟩, hr, hlocks, hK, hJ, hAA⟩ := id X
  intro n
  induction n with
  | zero =>
    intro u x1 x2 x3 x4 H locs ls h
    exact False.elim h
  | succ n ih =>
    intro u x1 x2 x3 x4 H locs ls h w hl
    unfold wX6_close_b44 at h
    refine lv_iload (pc := 44) hx hb dX6_close_44 (lv_at hl 4 rfl) ?_
    refine lv_bipush (pc := 46) (v := (6 : Int32)) hx hb dX6_close_46 (by decide) ?_
    refine lv_icmp_ge (pc := 48) (tgt := 120) hx hb dX6_close_48 (by decide) (fun c_ => ?_) (fun c_ => ?_)
    · have h := h.1 c_
      exact Cvret (pc := 120) X w h dX6_close_120
    · have h := h.2 c_
      refine lv_iload_n (pc := 51) hx hb dX6_close_51 rfl (lv_at hl 1 rfl) ?_
      refine lv_iload_n (pc := 52) hx hb dX6_close_52 rfl (lv_at hl 2 rfl) ?_
      refine lv_iload (pc := 53) hx hb dX6_close_53 (lv_at hl 4 rfl) ?_
      refine lv_iload_n (pc := 55) hx hb dX6_close_55 rfl (lv_at hl 3 rfl) ?_
      refine Ccalli (rest := []) (CrunSN (pc := 56) X w (okX8_cellCode l hJ h) (List.mem_of_getElem? (i := 6) rfl) kmX8_cellCode ⟨rfl, rfl⟩ ⟨by decide, by decide⟩ rfl hl.1 rfl (Nat.le_of_ble_eq_true rfl) dX6_close_56) w (fun r1 u9_ H locs h w => ?_)
      obtain ⟨rfl, h⟩ := h
      refine lv_istore (pc := 59) (lv' := [(5, .int r1), (0, .ref (ad 10)), (1, .int x1), (2, .int x2), (3, .int x3), (4, .int x4)]) hx hb dX6_close_59 hl (by decide) rfl (fun ls hl => ?_)
      refine lv_aload_n (pc := 61) hx hb dX6_close_61 rfl (lv_at hl 1 rfl) ?_
      refine Cgf_10_2 (pc := 62) X w kw147 dX6_close_62 ?_
      refine lv_iload (pc := 65) hx hb dX6_close_65 (lv_at hl 5 rfl) ?_
      refine Cld_15 (pc := 67) X w h.1 dX6_close_67 ?_
      have h := h.2
      refine lv_if_eq (pc := 68) (tgt := 85) hx hb dX6_close_68 (by decide) (fun c_ => ?_) (fun c_ => ?_)
      · have h := h.1 c_
        refine lv_aload_n (pc := 85) hx hb dX6_close_85 rfl (lv_at hl 1 rfl) ?_
        refine Cgf_10_1 (pc := 86) X w kw134 dX6_close_86 ?_
        refine Cgf_11_1 (pc := 89) X w kw140 dX6_close_89 ?_
        refine lv_iload (pc := 92) hx hb dX6_close_92 (lv_at hl 5 rfl) ?_
        refine Cld_13 (pc := 94) X w h.1 dX6_close_94 ?_
        have h := h.2
        refine bX6_close_95 X ?_ u x1 x2 x3 x4 r1 (u.2 13 x4.toNatClampNeg) H locs ls h w (lv_sub hl [1, 2, 3, 4, 5, 0] rfl)
        · intro u x1 x2 x3 x4 H locs ls h w hl
          exact ih u x1 x2 x3 x4 H locs ls h w (lv_sub hl [0, 1, 2, 3, 4] rfl)
      · have h := h.2 c_
        refine lv_aload_n (pc := 71) hx hb dX6_close_71 rfl (lv_at hl 1 rfl) ?_
        refine Cgf_10_1 (pc := 72) X w kw134 dX6_close_72 ?_
        refine Cgf_11_1 (pc := 75) X w kw140 dX6_close_75 ?_
        refine lv_iload (pc := 78) hx hb dX6_close_78 (lv_at hl 5 rfl) ?_
        refine Cld_13 (pc := 80) X w h.1 dX6_close_80 ?_
        have h := h.2
        refine lv_lneg (pc := 81) hx hb dX6_close_81 ?_
        refine lv_goto (pc := 82) (tgt := 95) hx hb dX6_close_82 (by decide) ?_
        refine bX6_close_95 X ?_ u x1 x2 x3 x4 r1 (-(u.2 13 x4.toNatClampNeg)) H locs ls h w (lv_sub hl [1, 2, 3, 4, 5, 0] rfl)
        · intro u x1 x2 x3 x4 H locs ls h w hl
          exact ih u x1 x2 x3 x4 H locs ls h w (lv_sub hl [0, 1, 2, 3, 4] rfl)
set_option maxHeartbeats 4000000 in
set_option maxRecDepth 100000 in
theorem bX6_close_25 {l : Launch} {p : Program} {e : Env} {s : State} {m : MethodId} {args : Array Value} {below : List Frame} {meth : Method} {c : Code} {D : va_G} {g : Nat → ClassId} {ad : Nat → Nat} {Q : Mm → Prop} (X : CX p s m args meth c cX6_close RX6 8 none (Cond.code yX6_close cX6_close 8 none) D g ad (CA ad)) : ∀ (u : Mm) (x1 : Int32) (x2 : Int32) (x3 : Int32) (H : Heap) (locs : List Loc) (ls : Array Slot), wX6_close_b25 Q u x1 x2 x3 → CWd D g ad (CA ad) s u H locs → lv_has ls 8 [(0, .ref (ad 10)), (1, .int x1), (2, .int x2), (3, .int x3)] → W p l e ({ frames := 3, cells := 0, slots := 0, locals := 78 } : Room) s m args below meth c H locs 0 0 (MQ below (va_Qv Q (CB D g ad) (CA ad)) args s 0 0 (CA ad)) (F0 m 25 ls []) := by
  obtain ⟨⟨hx, hb, hml, hown, hts⟩, hr, hlocks, hK, hJ, hAA⟩ := id X
  intro u x1 x2 x3 H locs ls h w hl
  unfold wX6_close_b25 at h
  refine lv_aload_n (pc := 25) hx hb dX6_close_25 rfl (lv_at hl 0 rfl) ?_
  refine Cgf_10_1 (pc := 26) X w kw134 dX6_close_26 ?_
  refine lv_aload_n (pc := 29) hx hb dX6_close_29 rfl (lv_at hl 0 rfl) ?_
  refine lv_iload_n (pc := 30) hx hb dX6_close_30 rfl (lv_at hl 1 rfl) ?_
  refine lv_iload_n (pc := 31) hx hb dX6_close_31 rfl (lv_at hl 2 rfl) ?_
  refine lv_iload_n (pc := 32) hx hb dX6_close_32 rfl (lv_at hl 3 rfl) ?_
  refine Ccalll (rest := [.ref (ad 11)]) (CrunV (pc := 33) X w (okX6_gapOf l hJ h) kw161 kmX6_gapOf ⟨rfl, rfl⟩ ⟨by decide, by decide⟩ (Crv_10 X w) rfl hl.1 rfl (Nat.le_of_ble_eq_true rfl) dX6_close_33) w (fun r1 u9_ H locs h w => ?_)
  obtain ⟨rfl, h⟩ := h
  refine lv_bipush (pc := 36) (v := (6 : Int32)) hx hb dX6_close_36 (by decide) ?_
  refine Ccallv (rest := []) (CrunV (pc := 38) X w (okX2_deal_i0 l hJ h) kw135 kmX2_deal ⟨rfl, rfl⟩ ⟨by decide, by decide⟩ (Crv_11 X w) rfl hl.1 rfl (Nat.le_of_ble_eq_true rfl) dX6_close_38) w (fun u3 H locs h w => ?_)
  refine lv_iconst (pc := 41) (v := (0 : Int32)) hx hb dX6_close_41 (by decide) ?_
  refine lv_istore (pc := 42) (lv' := [(4, .int (0 : Int32)), (0, .ref (ad 10)), (1, .int x1), (2, .int x2), (3, .int x3)]) hx hb dX6_close_42 hl (by decide) rfl (fun ls hl => ?_)
  obtain ⟨n9, h⟩ := h
  exact bX6_close_44 X n9 u3 x1 x2 x3 (0 : Int32) H locs ls h w (lv_sub hl [1, 2, 3, 4, 0] rfl)
set_option maxHeartbeats 4000000 in
set_option maxRecDepth 100000 in
theorem okX6_close (l : Launch) {D : va_G} {g : Nat → ClassId} {ad : Nat → Nat} (hJ : CJ ad) {u : Mm} {a1 : Int32} {a2 : Int32} {a3 : Int32} {Q : Mm → Prop} (h : wX6_close u a1 a2 a3 Q) : Met l yX6_close (Cond.code yX6_close cX6_close 8 none :: gt) ({ frames := 3, cells := 0, slots := 0, locals := 78 } : Room) (CPc D g ad u [.ref (ad 10), .int a1, .int a2, .int a3]) (va_Qv Q (CB D g ad) (CA ad)) 0 0 (CA ad) := by
  refine Met.ofW (cc := cX6_close) (maxL := 8) (ret := none) (by decide) rfl ?_
  intro p e s m args below meth c s₁ B hml hv
  refine Centry (own := RX6) B hml hv hJ rfl (Nat.le_of_ble_eq_true rfl) (fun ls H locs X w hl => ?_)
  obtain ⟨⟨hx, hb, hml, hown, hts⟩, hr, hlocks, hK, hJ, hAA⟩ := id X
  have hl : lv_has ls 8 [(0, .ref (ad 10)), (1, .int a1), (2, .int a2), (3, .int a3)] := hl
  unfold wX6_close at h
  refine lv_aload_n (pc := 0) hx hb dX6_close_0 rfl (lv_at hl 0 rfl) ?_
  refine lv_iload_n (pc := 1) hx hb dX6_close_1 rfl (lv_at hl 1 rfl) ?_
  refine lv_iload_n (pc := 2) hx hb dX6_close_2 rfl (lv_at hl 2 rfl) ?_
  refine lv_iload_n (pc := 3) hx hb dX6_close_3 rfl (lv_at hl 3 rfl) ?_
  refine Ccallv (rest := []) (CrunV (pc := 4) X w (okX6_reckonCosts l hJ h) kw148 kmX6_reckonCosts ⟨rfl, rfl⟩ ⟨by decide, by decide⟩ (Crv_10 X w) rfl hl.1 rfl (Nat.le_of_ble_eq_true rfl) dX6_close_4) w (fun u2 H locs h w => ?_)
  refine lv_aload_n (pc := 7) hx hb dX6_close_7 rfl (lv_at hl 0 rfl) ?_
  refine Cgf_10_10 (pc := 8) X w kw152 dX6_close_8 ?_
  refine lv_if_ne (pc := 11) (tgt := 21) hx hb dX6_close_11 (by decide) (fun c_ => ?_) (fun c_ => ?_)
  · have h := h.2 c_
    refine lv_aload_n (pc := 21) hx hb dX6_close_21 rfl (lv_at hl 0 rfl) ?_
    refine Ccallv (rest := []) (CrunV (pc := 22) X w (okX6_shareByCost l hJ h) kw153 kmX6_shareByCost ⟨rfl, rfl⟩ ⟨by decide, by decide⟩ (Crv_10 X w) rfl hl.1 rfl (Nat.le_of_ble_eq_true rfl) dX6_close_22) w (fun u4 H locs h w => ?_)
    exact bX6_close_25 X u4 a1 a2 a3 H locs ls h w (lv_sub hl [0, 1, 2, 3] rfl)
  · have h := h.1 c_
    refine lv_aload_n (pc := 14) hx hb dX6_close_14 rfl (lv_at hl 0 rfl) ?_
    refine Ccallv (rest := []) (CrunV (pc := 15) X w (okX6_shareToCheapest l hJ h) kw157 kmX6_shareToCheapest ⟨rfl, rfl⟩ ⟨by decide, by decide⟩ (Crv_10 X w) rfl hl.1 rfl (Nat.le_of_ble_eq_true rfl) dX6_close_15) w (fun u6 H locs h w => ?_)
    refine lv_goto (pc := 18) (tgt := 25) hx hb dX6_close_18 (by decide) ?_
    exact bX6_close_25 X u6 a1 a2 a3 H locs ls h w (lv_sub hl [0, 1, 2, 3] rfl)
set_option maxHeartbeats 4000000 in
set_option maxRecDepth 100000 in
theorem bX6_settle_72 {l : Launch} {p : Program} {e : Env} {s : State} {m : MethodId} {args : Array Value} {below : List Frame} {meth : Method} {c : Code} {D : va_G} {g : Nat → ClassId} {ad : Nat → Nat} {Q : Mm → Prop} {k35 : Mm → Int32 → Int32 → Int32 → Int32 → Int32 → Prop} (X : CX p s m args meth c cX6_settle RX6 10 none (Cond.code yX6_settle cX6_settle 10 none) D g ad (CA ad)) (hk35 : ∀ (u : Mm) (x1 : Int32) (x2 : Int32) (x3 : Int32) (x5 : Int32) (x6 : Int32) (H : Heap) (locs : List Loc) (ls : Array Slot), k35 u x1 x2 x3 x5 x6 → CWd D g ad (CA ad) s u H locs → lv_has ls 10 [(0, .ref (ad 10)), (1, .int x1), (2, .int x2), (3, .int x3), (5, .int x5), (6, .int x6)] → W p l e ({ frames := 4, cells := 0, slots := 0, locals := 105 } : Room) s m args below meth c H locs 0 0 (MQ below (va_Qv Q (CB D g ad) (CA ad)) args s 0 0 (CA ad)) (F0 m 35 ls [])) : ∀ (n : Nat) (u : Mm) (x1 : Int32) (x2 : Int32) (x3 : Int32) (x5 : Int32) (x6 : Int32) (x7 : Int32) (x8 : Int32) (x9 : Int32) (H : Heap) (locs : List Loc) (ls : Array Slot), wX6_settle_b72 k35 Q n u x1 x2 x3 x5 x6 x7 x8 x9 → CWd D g ad (CA ad) s u H locs → lv_has ls 10 [(0, .ref (ad 10)), (1, .int x1), (2, .int x2), (3, .int x3), (5, .int x5), (6, .int x6), (7, .int x7), (8, .int x8), (9, .int x9)] → W p l e ({ frames := 4, cells := 0, slots := 0, locals := 105 } : Room) s m args below meth c H locs 0 0 (MQ below (va_Qv Q (CB D g ad) (CA ad)) args s 0 0 (CA ad)) (F0 m 72 ls []) := by
  obtain ⟨⟨hx, hb, hml, hown, hts⟩, hr, hlocks, hK, hJ, hAA⟩ := id X
  intro n
  induction n with
  | zero =>
    intro u x1 x2 x3 x5 x6 x7 x8 x9 H locs ls h
    exact False.elim h
  | succ n ih =>
    intro u x1 x2 x3 x5 x6 x7 x8 x9 H locs ls h w hl
    unfold wX6_settle_b72 at h
    refine lv_iload (pc := 72) hx hb dX6_settle_72 (lv_at hl 8 rfl) ?_
    refine lv_iconst (pc := 74) (v := (4 : Int32)) hx hb dX6_settle_74 (by decide) ?_
    refine lv_icmp_ge (pc := 75) (tgt := 93) hx hb dX6_settle_75 (by decide) (fun c_ => ?_) (fun c_ => ?_)
    · have h := h.1 c_
      refine lv_aload_n (pc := 93) hx hb dX6_settle_93 rfl (lv_at hl 0 rfl) ?_
      refine lv_iload (pc := 94) hx hb dX6_settle_94 (lv_at hl 7 rfl) ?_
      refine lv_iload (pc := 96) hx hb dX6_settle_96 (lv_at hl 6 rfl) ?_
      refine Ccallv (rest := []) (CrunV (pc := 98) X w (okX6_bend l hJ h) kw174 kmX6_bend ⟨rfl, rfl⟩ ⟨by decide, by decide⟩ (Crv_10 X w) rfl hl.1 rfl (Nat.le_of_ble_eq_true rfl) dX6_settle_98) w (fun u2 H locs h w => ?_)
      obtain ⟨x6_3, e_⟩ : ∃ y : Int32, y = x6 + (1 : Int32) := ⟨_, rfl⟩
      have h := h x6_3 e_
      refine lv_iinc (pc := 101) (v := x6_3) (lv' := [(6, .int x6_3), (0, .ref (ad 10)), (1, .int x1), (2, .int x2), (3, .int x3), (5, .int x5), (7, .int x7), (8, .int x8), (9, .int x9)]) hx hb dX6_settle_101 hl (k := 5) rfl (by rw [e_]; rfl) (by decide) rfl (fun ls hl => ?_)
      refine lv_goto (pc := 104) (tgt := 35) hx hb dX6_settle_104 (by decide) ?_
      exact hk35 u2 x1 x2 x3 x5 x6_3 H locs ls h w (lv_sub hl [1, 2, 3, 4, 5, 0] rfl)
    · have h := h.2 c_
      refine lv_aload_n (pc := 78) hx hb dX6_settle_78 rfl (lv_at hl 0 rfl) ?_
      refine lv_iload (pc := 79) hx hb dX6_settle_79 (lv_at hl 7 rfl) ?_
      refine lv_iload (pc := 81) hx hb dX6_settle_81 (lv_at hl 8 rfl) ?_
      refine lv_iadd (pc := 83) hx hb dX6_settle_83 ?_
      refine Ccallv (rest := []) (CrunV (pc := 84) X w (okX6_hear l hJ h) kw166 kmX6_hear ⟨rfl, rfl⟩ ⟨by decide, by decide⟩ (Crv_10 X w) rfl hl.1 rfl (Nat.le_of_ble_eq_true rfl) dX6_settle_84) w (fun u5 H locs h w => ?_)
      obtain ⟨x9_6, e_⟩ : ∃ y : Int32, y = x9 + (1 : Int32) := ⟨_, rfl⟩
      have h := h x9_6 e_
      refine lv_iinc (pc := 87) (v := x9_6) (lv' := [(9, .int x9_6), (0, .ref (ad 10)), (1, .int x1), (2, .int x2), (3, .int x3), (5, .int x5), (6, .int x6), (7, .int x7), (8, .int x8)]) hx hb dX6_settle_87 hl (k := 8) rfl (by rw [e_]; rfl) (by decide) rfl (fun ls hl => ?_)
      refine lv_goto (pc := 90) (tgt := 72) hx hb dX6_settle_90 (by decide) ?_
      exact ih u5 x1 x2 x3 x5 x6 x7 x8 x9_6 H locs ls h w (lv_sub hl [1, 2, 3, 4, 5, 6, 7, 8, 0] rfl)
set_option maxHeartbeats 4000000 in
set_option maxRecDepth 100000 in
theorem bX6_settle_110 {l : Launch} {p : Program} {e : Env} {s : State} {m : MethodId} {args : Array Value} {below : List Frame} {meth : Method} {c : Code} {D : va_G} {g : Nat → ClassId} {ad : Nat → Nat} {Q : Mm → Prop} (X : CX p s m args meth c cX6_settle RX6 10 none (Cond.code yX6_settle cX6_settle 10 none) D g ad (CA ad)) : ∀ (n : Nat) (u : Mm) (x1 : Int32) (x2 : Int32) (x5 : Int32) (x6 : Int32) (H : Heap) (locs : List Loc) (ls : Array Slot), wX6_settle_b110 Q n u x1 x2 x5 x6 → CWd D g ad (CA ad) s u H locs → lv_has ls 10 [(0, .ref (ad 10)), (1, .int x1), (2, .int x2), (5, .int x5), (6, .int x6)] → W p l e ({ frames := 4, cells := 0, slots := 0, locals := 105 } : Room) s m args below meth c H locs 0 0 (MQ below (va_Qv Q (CB D g ad) (CA ad)) args s 0 0 (CA ad)) (F0 m 110 ls []) := by
  obtain ⟨⟨hx, hb, hml, hown, hts⟩, hr, hlocks, hK, hJ, hAA⟩ := id X
  intro n
  induction n with
  | zero =>
    intro u x1 x2 x5 x6 H locs ls h
    exact False.elim h
  | succ n ih =>
    intro u x1 x2 x5 x6 H locs ls h w hl
    unfold wX6_settle_b110 at h
    refine lv_iload (pc := 110) hx hb dX6_settle_110 (lv_at hl 4 rfl) ?_
    refine lv_iconst (pc := 112) (v := (4 : Int32)) hx hb dX6_settle_112 (by decide) ?_
    refine lv_icmp_ge (pc := 113) (tgt := 133) hx hb dX6_settle_113 (by decide) (fun c_ => ?_) (fun c_ => ?_)
    · have h := h.1 c_
      exact Cvret (pc := 133) X w h dX6_settle_133
    · have h := h.2 c_
      refine lv_aload_n (pc := 116) hx hb dX6_settle_116 rfl (lv_at hl 0 rfl) ?_
      refine lv_iload_n (pc := 117) hx hb dX6_settle_117 rfl (lv_at hl 1 rfl) ?_
      refine lv_iload_n (pc := 118) hx hb dX6_settle_118 rfl (lv_at hl 2 rfl) ?_
      refine lv_iload (pc := 119) hx hb dX6_settle_119 (lv_at hl 3 rfl) ?_
      refine lv_iload (pc := 121) hx hb dX6_settle_121 (lv_at hl 4 rfl) ?_
      refine lv_iadd (pc := 123) hx hb dX6_settle_123 ?_
      refine Ccallv (rest := []) (CrunV (pc := 124) X w (okX6_close l hJ h) kw170 kmX6_close ⟨rfl, rfl⟩ ⟨by decide, by decide⟩ (Crv_10 X w) rfl hl.1 rfl (Nat.le_of_ble_eq_true rfl) dX6_settle_124) w (fun u2 H locs h w => ?_)
      obtain ⟨x6_3, e_⟩ : ∃ y : Int32, y = x6 + (1 : Int32) := ⟨_, rfl⟩
      have h := h x6_3 e_
      refine lv_iinc (pc := 127) (v := x6_3) (lv' := [(6, .int x6_3), (0, .ref (ad 10)), (1, .int x1), (2, .int x2), (5, .int x5)]) hx hb dX6_settle_127 hl (k := 4) rfl (by rw [e_]; rfl) (by decide) rfl (fun ls hl => ?_)
      refine lv_goto (pc := 130) (tgt := 110) hx hb dX6_settle_130 (by decide) ?_
      exact ih u2 x1 x2 x5 x6_3 H locs ls h w (lv_sub hl [1, 2, 3, 4, 0] rfl)
set_option maxHeartbeats 4000000 in
set_option maxRecDepth 100000 in
theorem bX6_settle_35 {l : Launch} {p : Program} {e : Env} {s : State} {m : MethodId} {args : Array Value} {below : List Frame} {meth : Method} {c : Code} {D : va_G} {g : Nat → ClassId} {ad : Nat → Nat} {Q : Mm → Prop} (X : CX p s m args meth c cX6_settle RX6 10 none (Cond.code yX6_settle cX6_settle 10 none) D g ad (CA ad)) : ∀ (n : Nat) (u : Mm) (x1 : Int32) (x2 : Int32) (x3 : Int32) (x5 : Int32) (x6 : Int32) (H : Heap) (locs : List Loc) (ls : Array Slot), wX6_settle_b35 Q n u x1 x2 x3 x5 x6 → CWd D g ad (CA ad) s u H locs → lv_has ls 10 [(0, .ref (ad 10)), (1, .int x1), (2, .int x2), (3, .int x3), (5, .int x5), (6, .int x6)] → W p l e ({ frames := 4, cells := 0, slots := 0, locals := 105 } : Room) s m args below meth c H locs 0 0 (MQ below (va_Qv Q (CB D g ad) (CA ad)) args s 0 0 (CA ad)) (F0 m 35 ls []) := by
  obtain ⟨⟨hx, hb, hml, hown, hts⟩, hr, hlocks, hK, hJ, hAA⟩ := id X
  intro n
  induction n with
  | zero =>
    intro u x1 x2 x3 x5 x6 H locs ls h
    exact False.elim h
  | succ n ih =>
    intro u x1 x2 x3 x5 x6 H locs ls h w hl
    unfold wX6_settle_b35 at h
    refine lv_iload (pc := 35) hx hb dX6_settle_35 (lv_at hl 5 rfl) ?_
    refine lv_bipush (pc := 37) (v := (6 : Int32)) hx hb dX6_settle_37 (by decide) ?_
    refine lv_icmp_ge (pc := 39) (tgt := 107) hx hb dX6_settle_39 (by decide) (fun c_ => ?_) (fun c_ => ?_)
    · have h := h.1 c_
      refine lv_iconst (pc := 107) (v := (0 : Int32)) hx hb dX6_settle_107 (by decide) ?_
      refine lv_istore (pc := 108) (lv' := [(6, .int (0 : Int32)), (0, .ref (ad 10)), (1, .int x1), (2, .int x2), (3, .int x3), (5, .int x5)]) hx hb dX6_settle_108 hl (by decide) rfl (fun ls hl => ?_)
      obtain ⟨n9, h⟩ := h
      exact bX6_settle_110 X n9 u x1 x2 x5 (0 : Int32) H locs ls h w (lv_sub hl [1, 2, 3, 5, 0] rfl)
    · have h := h.2 c_
      refine lv_iload_n (pc := 42) hx hb dX6_settle_42 rfl (lv_at hl 1 rfl) ?_
      refine lv_iload_n (pc := 43) hx hb dX6_settle_43 rfl (lv_at hl 2 rfl) ?_
      refine lv_iload (pc := 44) hx hb dX6_settle_44 (lv_at hl 5 rfl) ?_
      refine lv_iload_n (pc := 46) hx hb dX6_settle_46 rfl (lv_at hl 3 rfl) ?_
      refine Ccalli (rest := []) (CrunSN (pc := 47) X w (okX8_annualCode l hJ h) (List.mem_of_getElem? (i := 5) rfl) kmX8_annualCode ⟨rfl, rfl⟩ ⟨by decide, by decide⟩ rfl hl.1 rfl (Nat.le_of_ble_eq_true rfl) dX6_settle_47) w (fun r1 u9_ H locs h w => ?_)
      obtain ⟨rfl, h⟩ := h
      refine lv_istore (pc := 50) (lv' := [(7, .int r1), (0, .ref (ad 10)), (1, .int x1), (2, .int x2), (3, .int x3), (5, .int x5), (6, .int x6)]) hx hb dX6_settle_50 hl (by decide) rfl (fun ls hl => ?_)
      refine lv_iload_n (pc := 52) hx hb dX6_settle_52 rfl (lv_at hl 2 rfl) ?_
      refine lv_iload_n (pc := 53) hx hb dX6_settle_53 rfl (lv_at hl 3 rfl) ?_
      refine lv_iload (pc := 54) hx hb dX6_settle_54 (lv_at hl 6 rfl) ?_
      refine lv_iload (pc := 56) hx hb dX6_settle_56 (lv_at hl 5 rfl) ?_
      refine Ccalli (rest := []) (CrunSN (pc := 58) X w (okX8_cellCode l hJ h) (List.mem_of_getElem? (i := 6) rfl) kmX8_cellCode ⟨rfl, rfl⟩ ⟨by decide, by decide⟩ rfl hl.1 rfl (Nat.le_of_ble_eq_true rfl) dX6_settle_58) w (fun r2 u9_ H locs h w => ?_)
      obtain ⟨rfl, h⟩ := h
      refine lv_istore (pc := 61) (lv' := [(8, .int r2), (7, .int r1), (0, .ref (ad 10)), (1, .int x1), (2, .int x2), (3, .int x3), (5, .int x5), (6, .int x6)]) hx hb dX6_settle_61 hl (by decide) rfl (fun ls hl => ?_)
      refine lv_aload_n (pc := 63) hx hb dX6_settle_63 rfl (lv_at hl 2 rfl) ?_
      refine lv_iload (pc := 64) hx hb dX6_settle_64 (lv_at hl 1 rfl) ?_
      refine Ccallv (rest := []) (CrunV (pc := 66) X w (okX6_hear l hJ h) kw166 kmX6_hear ⟨rfl, rfl⟩ ⟨by decide, by decide⟩ (Crv_10 X w) rfl hl.1 rfl (Nat.le_of_ble_eq_true rfl) dX6_settle_66) w (fun u4 H locs h w => ?_)
      refine lv_iconst (pc := 69) (v := (0 : Int32)) hx hb dX6_settle_69 (by decide) ?_
      refine lv_istore (pc := 70) (lv' := [(9, .int (0 : Int32)), (8, .int r2), (7, .int r1), (0, .ref (ad 10)), (1, .int x1), (2, .int x2), (3, .int x3), (5, .int x5), (6, .int x6)]) hx hb dX6_settle_70 hl (by decide) rfl (fun ls hl => ?_)
      obtain ⟨n9, h⟩ := h
      refine bX6_settle_72 X ?_ n9 u4 x1 x2 x3 x5 x6 r1 r2 (0 : Int32) H locs ls h w (lv_sub hl [3, 4, 5, 6, 7, 8, 2, 1, 0] rfl)
      · intro u x1 x2 x3 x5 x6 H locs ls h w hl
        exact ih u x1 x2 x3 x5 x6 H locs ls h w (lv_sub hl [0, 1, 2, 3, 4, 5] rfl)
set_option maxHeartbeats 4000000 in
set_option maxRecDepth 100000 in
theorem okX6_settle (l : Launch) {D : va_G} {g : Nat → ClassId} {ad : Nat → Nat} (hJ : CJ ad) {u : Mm} {a1 : Int32} {a2 : Int32} {a3 : Int32} {Q : Mm → Prop} (h : wX6_settle u a1 a2 a3 Q) : Met l yX6_settle (Cond.code yX6_settle cX6_settle 10 none :: gt) ({ frames := 4, cells := 0, slots := 0, locals := 105 } : Room) (CPc D g ad u [.ref (ad 10), .int a1, .int a2, .int a3]) (va_Qv Q (CB D g ad) (CA ad)) 0 0 (CA ad) := by
  refine Met.ofW (cc := cX6_settle) (maxL := 10) (ret := none) (by decide) rfl ?_
  intro p e s m args below meth c s₁ B hml hv
  refine Centry (own := RX6) B hml hv hJ rfl (Nat.le_of_ble_eq_true rfl) (fun ls H locs X w hl => ?_)
  obtain ⟨⟨hx, hb, hml, hown, hts⟩, hr, hlocks, hK, hJ, hAA⟩ := id X
  have hl : lv_has ls 10 [(0, .ref (ad 10)), (1, .int a1), (2, .int a2), (3, .int a3)] := hl
  unfold wX6_settle at h
  refine lv_iload_n (pc := 0) hx hb dX6_settle_0 rfl (lv_at hl 1 rfl) ?_
  refine lv_iload_n (pc := 1) hx hb dX6_settle_1 rfl (lv_at hl 2 rfl) ?_
  refine lv_iload_n (pc := 2) hx hb dX6_settle_2 rfl (lv_at hl 3 rfl) ?_
  refine Ccalli (rest := []) (CrunS (pc := 3) X w (okX6_blockOf l hJ h) kw122 kmX6_blockOf ⟨rfl, rfl⟩ ⟨by decide, by decide⟩ rfl hl.1 rfl (Nat.le_of_ble_eq_true rfl) dX6_settle_3) w (fun r1 u9_ H locs h w => ?_)
  obtain ⟨rfl, h⟩ := h
  refine lv_istore (pc := 6) (lv' := [(4, .int r1), (0, .ref (ad 10)), (1, .int a1), (2, .int a2), (3, .int a3)]) hx hb dX6_settle_6 hl (by decide) rfl (fun ls hl => ?_)
  refine lv_aload_n (pc := 8) hx hb dX6_settle_8 rfl (lv_at hl 1 rfl) ?_
  refine Cgf_10_4 (pc := 9) X w kw121 dX6_settle_9 ?_
  refine lv_iload (pc := 12) hx hb dX6_settle_12 (lv_at hl 0 rfl) ?_
  refine Cld_17 (pc := 14) X w h.1 dX6_settle_14 ?_
  have h := h.2
  refine lv_if_eq (pc := 15) (tgt := 19) hx hb dX6_settle_15 (by decide) (fun c_ => ?_) (fun c_ => ?_)
  · have h := h.1 c_
    refine lv_aload_n (pc := 19) hx hb dX6_settle_19 rfl (lv_at hl 1 rfl) ?_
    refine Cgf_10_4 (pc := 20) X w kw121 dX6_settle_20 ?_
    refine lv_iload (pc := 23) hx hb dX6_settle_23 (lv_at hl 0 rfl) ?_
    refine lv_iconst (pc := 25) (v := (1 : Int32)) hx hb dX6_settle_25 (by decide) ?_
    refine Cst_17 (pc := 26) X w h.1 dX6_settle_26 (fun H locs w => ?_)
    have h := h.2
    obtain ⟨u2, e_⟩ : ∃ y : Mm, y = s32 u 17 r1.toNatClampNeg (vp_nar .boolean (1 : Int32)) := ⟨_, rfl⟩
    rw [← e_] at w
    have h := h u2 e_
    refine lv_iload_n (pc := 27) hx hb dX6_settle_27 rfl (lv_at hl 4 rfl) ?_
    refine lv_iconst (pc := 28) (v := (4 : Int32)) hx hb dX6_settle_28 (by decide) ?_
    refine lv_imul (pc := 29) hx hb dX6_settle_29 ?_
    refine lv_topi (fun x5_3 e_ => ?_)
    have h := h x5_3 e_
    refine lv_istore (pc := 30) (lv' := [(5, .int x5_3), (4, .int r1), (0, .ref (ad 10)), (1, .int a1), (2, .int a2), (3, .int a3)]) hx hb dX6_settle_30 hl (by decide) rfl (fun ls hl => ?_)
    refine lv_iconst (pc := 32) (v := (0 : Int32)) hx hb dX6_settle_32 (by decide) ?_
    refine lv_istore (pc := 33) (lv' := [(6, .int (0 : Int32)), (5, .int x5_3), (4, .int r1), (0, .ref (ad 10)), (1, .int a1), (2, .int a2), (3, .int a3)]) hx hb dX6_settle_33 hl (by decide) rfl (fun ls hl => ?_)
    obtain ⟨n9, h⟩ := h
    exact bX6_settle_35 X n9 u2 a1 a2 a3 x5_3 (0 : Int32) H locs ls h w (lv_sub hl [3, 4, 5, 6, 1, 0] rfl)
  · have h := h.2 c_
    exact Cvret (pc := 18) X w h dX6_settle_18
set_option maxHeartbeats 4000000 in
set_option maxRecDepth 100000 in
theorem bX6_settleAll_2 {l : Launch} {p : Program} {e : Env} {s : State} {m : MethodId} {args : Array Value} {below : List Frame} {meth : Method} {c : Code} {D : va_G} {g : Nat → ClassId} {ad : Nat → Nat} {Q : Mm → Prop} (X : CX p s m args meth c cX6_settleAll RX6 3 none (Cond.code yX6_settleAll cX6_settleAll 3 none) D g ad (CA ad)) : ∀ (n : Nat) (u : Mm) (x1 : Int32) (H : Heap) (locs : List Loc) (ls : Array Slot), wX6_settleAll_b2 Q n u x1 → CWd D g ad (CA ad) s u H locs → lv_has ls 3 [(0, .ref (ad 10)), (1, .int x1)] → W p l e ({ frames := 5, cells := 0, slots := 0, locals := 134 } : Room) s m args below meth c H locs 0 0 (MQ below (va_Qv Q (CB D g ad) (CA ad)) args s 0 0 (CA ad)) (F0 m 2 ls []) := by
  obtain ⟨⟨hx, hb, hml, hown, hts⟩, hr, hlocks, hK, hJ, hAA⟩ := id X
  intro n
  induction n with
  | zero =>
    intro u x1 H locs ls h
    exact False.elim h
  | succ n ih =>
    intro u x1 H locs ls h w hl
    unfold wX6_settleAll_b2 at h
    refine lv_iload_n (pc := 2) hx hb dX6_settleAll_2 rfl (lv_at hl 1 rfl) ?_
    refine lv_aload_n (pc := 3) hx hb dX6_settleAll_3 rfl (lv_at hl 0 rfl) ?_
    refine Cgf_10_4 (pc := 4) X w kw121 dX6_settleAll_4 ?_
    refine Cal_17 (pc := 7) X w dX6_settleAll_7 ?_
    refine lv_icmp_ge (pc := 8) (tgt := 34) hx hb dX6_settleAll_8 (by decide) (fun c_ => ?_) (fun c_ => ?_)
    · have h := h.1 c_
      exact Cvret (pc := 34) X w h dX6_settleAll_34
    · have h := h.2 c_
      refine lv_iload_n (pc := 11) hx hb dX6_settleAll_11 rfl (lv_at hl 1 rfl) ?_
      refine lv_iconst (pc := 12) (v := (3 : Int32)) hx hb dX6_settleAll_12 (by decide) ?_
      refine lv_idiv (pc := 13) hx hb dX6_settleAll_13 (by decide) ?_
      refine lv_topi (fun x2_1 e_ => ?_)
      have h := h x2_1 e_
      refine lv_istore_n (pc := 14) (lv' := [(2, .int x2_1), (0, .ref (ad 10)), (1, .int x1)]) hx hb dX6_settleAll_14 rfl hl (by decide) rfl (fun ls hl => ?_)
      refine lv_aload_n (pc := 15) hx hb dX6_settleAll_15 rfl (lv_at hl 1 rfl) ?_
      refine lv_iload_n (pc := 16) hx hb dX6_settleAll_16 rfl (lv_at hl 0 rfl) ?_
      refine lv_iconst (pc := 17) (v := (4 : Int32)) hx hb dX6_settleAll_17 (by decide) ?_
      refine lv_idiv (pc := 18) hx hb dX6_settleAll_18 (by decide) ?_
      refine lv_iload_n (pc := 19) hx hb dX6_settleAll_19 rfl (lv_at hl 0 rfl) ?_
      refine lv_iconst (pc := 20) (v := (4 : Int32)) hx hb dX6_settleAll_20 (by decide) ?_
      refine lv_irem (pc := 21) hx hb dX6_settleAll_21 (by decide) ?_
      refine lv_iload_n (pc := 22) hx hb dX6_settleAll_22 rfl (lv_at hl 2 rfl) ?_
      refine lv_iconst (pc := 23) (v := (3 : Int32)) hx hb dX6_settleAll_23 (by decide) ?_
      refine lv_irem (pc := 24) hx hb dX6_settleAll_24 (by decide) ?_
      refine Ccallv (rest := []) (CrunV (pc := 25) X w (okX6_settle l hJ h) kw178 kmX6_settle ⟨rfl, rfl⟩ ⟨by decide, by decide⟩ (Crv_10 X w) rfl hl.1 rfl (Nat.le_of_ble_eq_true rfl) dX6_settleAll_25) w (fun u3 H locs h w => ?_)
      obtain ⟨x1_4, e_⟩ : ∃ y : Int32, y = x1 + (1 : Int32) := ⟨_, rfl⟩
      have h := h x1_4 e_
      refine lv_iinc (pc := 28) (v := x1_4) (lv' := [(1, .int x1_4), (2, .int x2_1), (0, .ref (ad 10))]) hx hb dX6_settleAll_28 hl (k := 2) rfl (by rw [e_]; rfl) (by decide) rfl (fun ls hl => ?_)
      refine lv_goto (pc := 31) (tgt := 2) hx hb dX6_settleAll_31 (by decide) ?_
      exact ih u3 x1_4 H locs ls h w (lv_sub hl [2, 0] rfl)
set_option maxHeartbeats 4000000 in
set_option maxRecDepth 100000 in
theorem okX6_settleAll (l : Launch) {D : va_G} {g : Nat → ClassId} {ad : Nat → Nat} (hJ : CJ ad) {u : Mm} {Q : Mm → Prop} (h : wX6_settleAll u Q) : Met l yX6_settleAll (Cond.code yX6_settleAll cX6_settleAll 3 none :: gt) ({ frames := 5, cells := 0, slots := 0, locals := 134 } : Room) (CPc D g ad u [.ref (ad 10)]) (va_Qv Q (CB D g ad) (CA ad)) 0 0 (CA ad) := by
  refine Met.ofW (cc := cX6_settleAll) (maxL := 3) (ret := none) (by decide) rfl ?_
  intro p e s m args below meth c s₁ B hml hv
  refine Centry (own := RX6) B hml hv hJ rfl (Nat.le_of_ble_eq_true rfl) (fun ls H locs X w hl => ?_)
  obtain ⟨⟨hx, hb, hml, hown, hts⟩, hr, hlocks, hK, hJ, hAA⟩ := id X
  have hl : lv_has ls 3 [(0, .ref (ad 10))] := hl
  unfold wX6_settleAll at h
  refine lv_iconst (pc := 0) (v := (0 : Int32)) hx hb dX6_settleAll_0 (by decide) ?_
  refine lv_istore_n (pc := 1) (lv' := [(1, .int (0 : Int32)), (0, .ref (ad 10))]) hx hb dX6_settleAll_1 rfl hl (by decide) rfl (fun ls hl => ?_)
  obtain ⟨n9, h⟩ := h
  exact bX6_settleAll_2 X n9 u (0 : Int32) H locs ls h w (lv_sub hl [1, 0] rfl)
set_option maxHeartbeats 4000000 in
set_option maxRecDepth 100000 in
theorem bX6_isOpen_3 {l : Launch} {p : Program} {e : Env} {s : State} {m : MethodId} {args : Array Value} {below : List Frame} {meth : Method} {c : Code} {D : va_G} {g : Nat → ClassId} {ad : Nat → Nat} {u : Mm} {Q : Int32 → Prop} (X : CX p s m args meth c cX6_isOpen RX6 5 (some .boolean) (Cond.code yX6_isOpen cX6_isOpen 5 (some .boolean)) D g ad (CA ad)) : ∀ (n : Nat) (x1 : Int32) (x2 : Int32) (x3 : Int32) (x4 : Int32) (H : Heap) (locs : List Loc) (ls : Array Slot), wX6_isOpen_b3 u Q n x1 x2 x3 x4 → CWd D g ad (CA ad) s u H locs → lv_has ls 5 [(0, .ref (ad 10)), (1, .int x1), (2, .int x2), (3, .int x3), (4, .int x4)] → W p l e ({ frames := 2, cells := 0, slots := 0, locals := 51 } : Room) s m args below meth c H locs 0 0 (MQ below (va_Qi (fun r u1 => bz r ∧ (u = u1 ∧ Q r)) (CB D g ad) (CA ad)) args s 0 0 (CA ad)) (F0 m 3 ls []) := by
  obtain ⟨⟨hx, hb, hml, hown, hts⟩, hr, hlocks, hK, hJ, hAA⟩ := id X
  intro n
  induction n with
  | zero =>
    intro x1 x2 x3 x4 H locs ls h
    exact False.elim h
  | succ n ih =>
    intro x1 x2 x3 x4 H locs ls h w hl
    unfold wX6_isOpen_b3 at h
    refine lv_iload (pc := 3) hx hb dX6_isOpen_3 (lv_at hl 4 rfl) ?_
    refine lv_bipush (pc := 5) (v := (6 : Int32)) hx hb dX6_isOpen_5 (by decide) ?_
    refine lv_icmp_ge (pc := 7) (tgt := 33) hx hb dX6_isOpen_7 (by decide) (fun c_ => ?_) (fun c_ => ?_)
    · have h := h.1 c_
      refine lv_aload_n (pc := 33) hx hb dX6_isOpen_33 rfl (lv_at hl 0 rfl) ?_
      refine lv_iload_n (pc := 34) hx hb dX6_isOpen_34 rfl (lv_at hl 1 rfl) ?_
      refine lv_iload_n (pc := 35) hx hb dX6_isOpen_35 rfl (lv_at hl 2 rfl) ?_
      refine lv_iload_n (pc := 36) hx hb dX6_isOpen_36 rfl (lv_at hl 3 rfl) ?_
      refine Ccalll (rest := []) (CrunV (pc := 37) X w (okX6_gapOf l hJ h) kw161 kmX6_gapOf ⟨rfl, rfl⟩ ⟨by decide, by decide⟩ (Crv_10 X w) rfl hl.1 rfl (Nat.le_of_ble_eq_true rfl) dX6_isOpen_37) w (fun r1 u9_ H locs h w => ?_)
      obtain ⟨rfl, h⟩ := h
      refine lv_lconst (pc := 40) (v := (0 : Int64)) hx hb dX6_isOpen_40 (by decide) ?_
      refine lq_eq (pc := 41) (tgt := 49) hx hb dX6_isOpen_41 dX6_isOpen_42 (by decide) (fun c_ => ?_) (fun c_ => ?_)
      · have h := h.1 c_
        refine lv_iconst (pc := 49) (v := (0 : Int32)) hx hb dX6_isOpen_49 (by decide) ?_
        exact Czret (pc := 50) X w rfl ⟨rfl, h⟩ dX6_isOpen_50
      · have h := h.2 c_
        refine lv_iconst (pc := 45) (v := (1 : Int32)) hx hb dX6_isOpen_45 (by decide) ?_
        refine lv_goto (pc := 46) (tgt := 50) hx hb dX6_isOpen_46 (by decide) ?_
        exact Czret (pc := 50) X w rfl ⟨rfl, h⟩ dX6_isOpen_50
    · have h := h.2 c_
      refine lv_aload_n (pc := 10) hx hb dX6_isOpen_10 rfl (lv_at hl 0 rfl) ?_
      refine Cgf_10_3 (pc := 11) X w kw143 dX6_isOpen_11 ?_
      refine lv_iload_n (pc := 14) hx hb dX6_isOpen_14 rfl (lv_at hl 1 rfl) ?_
      refine lv_iload_n (pc := 15) hx hb dX6_isOpen_15 rfl (lv_at hl 2 rfl) ?_
      refine lv_iload (pc := 16) hx hb dX6_isOpen_16 (lv_at hl 4 rfl) ?_
      refine Ccalli (rest := [.ref (ad 16)]) (CrunSN (pc := 18) X w (okX8_lineOf l hJ h) (List.mem_of_getElem? (i := 7) rfl) kmX8_lineOf ⟨rfl, rfl⟩ ⟨by decide, by decide⟩ rfl hl.1 rfl (Nat.le_of_ble_eq_true rfl) dX6_isOpen_18) w (fun r2 u9_ H locs h w => ?_)
      obtain ⟨rfl, h⟩ := h
      refine Cld_16 (pc := 21) X w h.1 dX6_isOpen_21 ?_
      have h := h.2
      refine lv_if_ne (pc := 22) (tgt := 27) hx hb dX6_isOpen_22 (by decide) (fun c_ => ?_) (fun c_ => ?_)
      · have h := h.2 c_
        obtain ⟨x4_3, e_⟩ : ∃ y : Int32, y = x4 + (1 : Int32) := ⟨_, rfl⟩
        have h := h x4_3 e_
        refine lv_iinc (pc := 27) (v := x4_3) (lv' := [(4, .int x4_3), (0, .ref (ad 10)), (1, .int x1), (2, .int x2), (3, .int x3)]) hx hb dX6_isOpen_27 hl (k := 4) rfl (by rw [e_]; rfl) (by decide) rfl (fun ls hl => ?_)
        refine lv_goto (pc := 30) (tgt := 3) hx hb dX6_isOpen_30 (by decide) ?_
        exact ih x1 x2 x3 x4_3 H locs ls h w (lv_sub hl [1, 2, 3, 4, 0] rfl)
      · have h := h.1 c_
        refine lv_iconst (pc := 25) (v := (0 : Int32)) hx hb dX6_isOpen_25 (by decide) ?_
        exact Czret (pc := 26) X w rfl ⟨rfl, h⟩ dX6_isOpen_26
set_option maxHeartbeats 4000000 in
set_option maxRecDepth 100000 in
theorem okX6_isOpen (l : Launch) {D : va_G} {g : Nat → ClassId} {ad : Nat → Nat} (hJ : CJ ad) {u : Mm} {a1 : Int32} {a2 : Int32} {a3 : Int32} {Q : Int32 → Prop} (h : wX6_isOpen u a1 a2 a3 Q) : Met l yX6_isOpen (Cond.code yX6_isOpen cX6_isOpen 5 (some .boolean) :: gt) ({ frames := 2, cells := 0, slots := 0, locals := 51 } : Room) (CPc D g ad u [.ref (ad 10), .int a1, .int a2, .int a3]) (va_Qi (fun r u1 => bz r ∧ (u = u1 ∧ Q r)) (CB D g ad) (CA ad)) 0 0 (CA ad) := by
  refine Met.ofW (cc := cX6_isOpen) (maxL := 5) (ret := (some .boolean)) (by decide) rfl ?_
  intro p e s m args below meth c s₁ B hml hv
  refine Centry (own := RX6) B hml hv hJ rfl (Nat.le_of_ble_eq_true rfl) (fun ls H locs X w hl => ?_)
  obtain ⟨⟨hx, hb, hml, hown, hts⟩, hr, hlocks, hK, hJ, hAA⟩ := id X
  have hl : lv_has ls 5 [(0, .ref (ad 10)), (1, .int a1), (2, .int a2), (3, .int a3)] := hl
  unfold wX6_isOpen at h
  refine lv_iconst (pc := 0) (v := (0 : Int32)) hx hb dX6_isOpen_0 (by decide) ?_
  refine lv_istore (pc := 1) (lv' := [(4, .int (0 : Int32)), (0, .ref (ad 10)), (1, .int a1), (2, .int a2), (3, .int a3)]) hx hb dX6_isOpen_1 hl (by decide) rfl (fun ls hl => ?_)
  obtain ⟨n9, h⟩ := h
  exact bX6_isOpen_3 X n9 a1 a2 a3 (0 : Int32) H locs ls h w (lv_sub hl [1, 2, 3, 4, 0] rfl)
set_option maxHeartbeats 4000000 in
set_option maxRecDepth 100000 in
theorem okJ9_abs_067f4 (l : Launch) {D : va_G} {g : Nat → ClassId} {ad : Nat → Nat} (hJ : CJ ad) {u : Mm} {a0 : Int64} {Q : Int64 → Prop} (h : wJ9_abs_067f4 a0 Q) : Met l yJ9_abs_067f4 (Cond.code yJ9_abs_067f4 cJ9_abs_067f4 2 (some .long) :: gt) ({ frames := 0, cells := 0, slots := 0, locals := 0 } : Room) (CPc D g ad u [.long a0]) (va_Ql (fun r u1 => u = u1 ∧ Q r) (CB D g ad) (CA ad)) 0 0 (CA ad) := by
  refine va_MetF (cc := cJ9_abs_067f4) (maxL := 2) (ret := (some .long)) (by decide +kernel) rfl ?_
  intro p e s m args below meth c s₁ B hml hv
  refine Centry (own := RJ9) B hml hv hJ rfl (Nat.le_of_ble_eq_true rfl) (fun ls H locs X w hl => ?_)
  obtain ⟨⟨hx, hb, hml, hown, hts⟩, hr, hlocks, hK, hJ, hAA⟩ := id X
  have hl : lv_has ls 2 [(0, .long a0)] := hl
  unfold wJ9_abs_067f4 at h
  refine lv_lload_n (pc := 0) hx hb dJ9_abs_067f4_0 rfl (lv_at hl 0 rfl) ?_
  refine lv_lconst (pc := 1) (v := (0 : Int64)) hx hb dJ9_abs_067f4_1 (by decide) ?_
  refine lq_ge (pc := 2) (tgt := 11) hx hb dJ9_abs_067f4_2 dJ9_abs_067f4_3 (by decide) (fun c_ => ?_) (fun c_ => ?_)
  · have h := h.1 c_
    refine lv_lload_n (pc := 11) hx hb dJ9_abs_067f4_11 rfl (lv_at hl 0 rfl) ?_
    exact Clret (pc := 12) X w ⟨rfl, h⟩ dJ9_abs_067f4_12
  · have h := h.2 c_
    refine lv_lload_n (pc := 6) hx hb dJ9_abs_067f4_6 rfl (lv_at hl 0 rfl) ?_
    refine lv_lneg (pc := 7) hx hb dJ9_abs_067f4_7 ?_
    refine lv_goto (pc := 8) (tgt := 12) hx hb dJ9_abs_067f4_8 (by decide) ?_
    exact Clret (pc := 12) X w ⟨rfl, h⟩ dJ9_abs_067f4_12
set_option maxHeartbeats 4000000 in
set_option maxRecDepth 100000 in
theorem bX6_movesOf_6 {l : Launch} {p : Program} {e : Env} {s : State} {m : MethodId} {args : Array Value} {below : List Frame} {meth : Method} {c : Code} {D : va_G} {g : Nat → ClassId} {ad : Nat → Nat} {u : Mm} {Q : Int64 → Prop} (X : CX p s m args meth c cX6_movesOf RX6 8 (some .long) (Cond.code yX6_movesOf cX6_movesOf 8 (some .long)) D g ad (CA ad)) : ∀ (n : Nat) (x1 : Int32) (x2 : Int32) (x3 : Int32) (x4 : Int64) (x6 : Int32) (H : Heap) (locs : List Loc) (ls : Array Slot), wX6_movesOf_b6 u Q n x1 x2 x3 x4 x6 → CWd D g ad (CA ad) s u H locs → lv_has ls 8 [(0, .ref (ad 10)), (1, .int x1), (2, .int x2), (3, .int x3), (4, .long x4), (6, .int x6)] → W p l e ({ frames := 1, cells := 0, slots := 0, locals := 23 } : Room) s m args below meth c H locs 0 0 (MQ below (va_Ql (fun r u1 => u = u1 ∧ Q r) (CB D g ad) (CA ad)) args s 0 0 (CA ad)) (F0 m 6 ls []) := by
  obtain ⟨⟨hx, hb, hml, hown, hts⟩, hr, hlocks, hK, hJ, hAA⟩ := id X
  intro n
  induction n with
  | zero =>
    intro x1 x2 x3 x4 x6 H locs ls h
    exact False.elim h
  | succ n ih =>
    intro x1 x2 x3 x4 x6 H locs ls h w hl
    unfold wX6_movesOf_b6 at h
    refine lv_iload (pc := 6) hx hb dX6_movesOf_6 (lv_at hl 5 rfl) ?_
    refine lv_bipush (pc := 8) (v := (6 : Int32)) hx hb dX6_movesOf_8 (by decide) ?_
    refine lv_icmp_ge (pc := 10) (tgt := 52) hx hb dX6_movesOf_10 (by decide) (fun c_ => ?_) (fun c_ => ?_)
    · have h := h.1 c_
      refine lv_lload (pc := 52) hx hb dX6_movesOf_52 (lv_at hl 4 rfl) ?_
      exact Clret (pc := 54) X w ⟨rfl, h⟩ dX6_movesOf_54
    · have h := h.2 c_
      refine lv_iload_n (pc := 13) hx hb dX6_movesOf_13 rfl (lv_at hl 1 rfl) ?_
      refine lv_iload_n (pc := 14) hx hb dX6_movesOf_14 rfl (lv_at hl 2 rfl) ?_
      refine lv_iload (pc := 15) hx hb dX6_movesOf_15 (lv_at hl 5 rfl) ?_
      refine lv_iload_n (pc := 17) hx hb dX6_movesOf_17 rfl (lv_at hl 3 rfl) ?_
      refine Ccalli (rest := []) (CrunSN (pc := 18) X w (okX8_cellCode l hJ h) (List.mem_of_getElem? (i := 6) rfl) kmX8_cellCode ⟨rfl, rfl⟩ ⟨by decide, by decide⟩ rfl hl.1 rfl (Nat.le_of_ble_eq_true rfl) dX6_movesOf_18) w (fun r1 u9_ H locs h w => ?_)
      obtain ⟨rfl, h⟩ := h
      refine lv_istore (pc := 21) (lv' := [(7, .int r1), (0, .ref (ad 10)), (1, .int x1), (2, .int x2), (3, .int x3), (4, .long x4), (6, .int x6)]) hx hb dX6_movesOf_21 hl (by decide) rfl (fun ls hl => ?_)
      refine lv_lload (pc := 23) hx hb dX6_movesOf_23 (lv_at hl 5 rfl) ?_
      refine lv_aload_n (pc := 25) hx hb dX6_movesOf_25 rfl (lv_at hl 1 rfl) ?_
      refine Cgf_10_9 (pc := 26) X w kw165 dX6_movesOf_26 ?_
      refine lv_iload (pc := 29) hx hb dX6_movesOf_29 (lv_at hl 0 rfl) ?_
      refine Cld_22 (pc := 31) X w h.1 dX6_movesOf_31 ?_
      have h := h.2
      refine lv_aload_n (pc := 32) hx hb dX6_movesOf_32 rfl (lv_at hl 1 rfl) ?_
      refine Cgf_10_8 (pc := 33) X w kw133 dX6_movesOf_33 ?_
      refine lv_iload (pc := 36) hx hb dX6_movesOf_36 (lv_at hl 0 rfl) ?_
      refine Cld_21 (pc := 38) X w h.1 dX6_movesOf_38 ?_
      have h := h.2
      refine lv_lsub (pc := 39) hx hb dX6_movesOf_39 ?_
      refine Ccalll (rest := [.long x4]) (CrunS (pc := 40) X w (okJ9_abs_067f4 l hJ h) kw182 kmJ9_abs_067f4 ⟨rfl, rfl⟩ ⟨by decide, by decide⟩ rfl hl.1 rfl (Nat.le_of_ble_eq_true rfl) dX6_movesOf_40) w (fun r2 u9_ H locs h w => ?_)
      obtain ⟨rfl, h⟩ := h
      refine lv_ladd (pc := 43) hx hb dX6_movesOf_43 ?_
      refine lv_topl (fun x4_3 e_ => ?_)
      have h := h x4_3 e_
      refine lv_lstore (pc := 44) (lv' := [(4, .long x4_3), (7, .int r1), (0, .ref (ad 10)), (1, .int x1), (2, .int x2), (3, .int x3), (6, .int x6)]) hx hb dX6_movesOf_44 hl (by decide) rfl (fun ls hl => ?_)
      obtain ⟨x6_4, e_⟩ : ∃ y : Int32, y = x6 + (1 : Int32) := ⟨_, rfl⟩
      have h := h x6_4 e_
      refine lv_iinc (pc := 46) (v := x6_4) (lv' := [(6, .int x6_4), (4, .long x4_3), (7, .int r1), (0, .ref (ad 10)), (1, .int x1), (2, .int x2), (3, .int x3)]) hx hb dX6_movesOf_46 hl (k := 6) rfl (by rw [e_]; rfl) (by decide) rfl (fun ls hl => ?_)
      refine lv_goto (pc := 49) (tgt := 6) hx hb dX6_movesOf_49 (by decide) ?_
      exact ih x1 x2 x3 x4_3 x6_4 H locs ls h w (lv_sub hl [3, 4, 5, 6, 1, 0] rfl)
set_option maxHeartbeats 4000000 in
set_option maxRecDepth 100000 in
theorem okX6_movesOf (l : Launch) {D : va_G} {g : Nat → ClassId} {ad : Nat → Nat} (hJ : CJ ad) {u : Mm} {a1 : Int32} {a2 : Int32} {a3 : Int32} {Q : Int64 → Prop} (h : wX6_movesOf u a1 a2 a3 Q) : Met l yX6_movesOf (Cond.code yX6_movesOf cX6_movesOf 8 (some .long) :: gt) ({ frames := 1, cells := 0, slots := 0, locals := 23 } : Room) (CPc D g ad u [.ref (ad 10), .int a1, .int a2, .int a3]) (va_Ql (fun r u1 => u = u1 ∧ Q r) (CB D g ad) (CA ad)) 0 0 (CA ad) := by
  refine Met.ofW (cc := cX6_movesOf) (maxL := 8) (ret := (some .long)) (by decide) rfl ?_
  intro p e s m args below meth c s₁ B hml hv
  refine Centry (own := RX6) B hml hv hJ rfl (Nat.le_of_ble_eq_true rfl) (fun ls H locs X w hl => ?_)
  obtain ⟨⟨hx, hb, hml, hown, hts⟩, hr, hlocks, hK, hJ, hAA⟩ := id X
  have hl : lv_has ls 8 [(0, .ref (ad 10)), (1, .int a1), (2, .int a2), (3, .int a3)] := hl
  unfold wX6_movesOf at h
  refine lv_lconst (pc := 0) (v := (0 : Int64)) hx hb dX6_movesOf_0 (by decide) ?_
  refine lv_lstore (pc := 1) (lv' := [(4, .long (0 : Int64)), (0, .ref (ad 10)), (1, .int a1), (2, .int a2), (3, .int a3)]) hx hb dX6_movesOf_1 hl (by decide) rfl (fun ls hl => ?_)
  refine lv_iconst (pc := 3) (v := (0 : Int32)) hx hb dX6_movesOf_3 (by decide) ?_
  refine lv_istore (pc := 4) (lv' := [(6, .int (0 : Int32)), (4, .long (0 : Int64)), (0, .ref (ad 10)), (1, .int a1), (2, .int a2), (3, .int a3)]) hx hb dX6_movesOf_4 hl (by decide) rfl (fun ls hl => ?_)
  obtain ⟨n9, h⟩ := h
  exact bX6_movesOf_6 X n9 a1 a2 a3 (0 : Int64) (0 : Int32) H locs ls h w (lv_sub hl [2, 3, 4, 5, 1, 0] rfl)
set_option maxHeartbeats 4000000 in
set_option maxRecDepth 100000 in
theorem bX6_sumOf_43 {l : Launch} {p : Program} {e : Env} {s : State} {m : MethodId} {args : Array Value} {below : List Frame} {meth : Method} {c : Code} {D : va_G} {g : Nat → ClassId} {ad : Nat → Nat} {u : Mm} {Q : Int64 → Prop} {k15 : Int32 → Int32 → Int32 → Int32 → Int64 → Int32 → Int32 → Prop} (X : CX p s m args meth c cX6_sumOf RX6 9 (some .long) (Cond.code yX6_sumOf cX6_sumOf 9 (some .long)) D g ad (CA ad)) (hk15 : ∀ (x1 : Int32) (x2 : Int32) (x3 : Int32) (x4 : Int32) (x5 : Int64) (x7 : Int32) (x8 : Int32) (H : Heap) (locs : List Loc) (ls : Array Slot), k15 x1 x2 x3 x4 x5 x7 x8 → CWd D g ad (CA ad) s u H locs → lv_has ls 9 [(0, .ref (ad 10)), (1, .int x1), (2, .int x2), (3, .int x3), (4, .int x4), (5, .long x5), (7, .int x7), (8, .int x8)] → W p l e ({ frames := 1, cells := 0, slots := 0, locals := 23 } : Room) s m args below meth c H locs 0 0 (MQ below (va_Ql (fun r u1 => u = u1 ∧ Q r) (CB D g ad) (CA ad)) args s 0 0 (CA ad)) (F0 m 15 ls [])) : ∀ (x1 : Int32) (x2 : Int32) (x3 : Int32) (x4 : Int32) (x5 : Int64) (x7 : Int32) (x8 : Int32) (H : Heap) (locs : List Loc) (ls : Array Slot), wX6_sumOf_b43 u k15 Q x1 x2 x3 x4 x5 x7 x8 → CWd D g ad (CA ad) s u H locs → lv_has ls 9 [(0, .ref (ad 10)), (1, .int x1), (2, .int x2), (3, .int x3), (4, .int x4), (5, .long x5), (7, .int x7), (8, .int x8)] → W p l e ({ frames := 1, cells := 0, slots := 0, locals := 23 } : Room) s m args below meth c H locs 0 0 (MQ below (va_Ql (fun r u1 => u = u1 ∧ Q r) (CB D g ad) (CA ad)) args s 0 0 (CA ad)) (F0 m 43 ls []) := by
  obtain ⟨⟨hx, hb, hml, hown, hts⟩, hr, hlocks, hK, hJ, hAA⟩ := id X
  intro x1 x2 x3 x4 x5 x7 x8 H locs ls h w hl
  unfold wX6_sumOf_b43 at h
  refine lv_lload (pc := 43) hx hb dX6_sumOf_43 (lv_at hl 5 rfl) ?_
  refine lv_aload_n (pc := 45) hx hb dX6_sumOf_45 rfl (lv_at hl 0 rfl) ?_
  refine Cgf_10_9 (pc := 46) X w kw165 dX6_sumOf_46 ?_
  refine lv_iload (pc := 49) hx hb dX6_sumOf_49 (lv_at hl 6 rfl) ?_
  refine lv_iload (pc := 51) hx hb dX6_sumOf_51 (lv_at hl 7 rfl) ?_
  refine lv_iload_n (pc := 53) hx hb dX6_sumOf_53 rfl (lv_at hl 3 rfl) ?_
  refine lv_iload (pc := 54) hx hb dX6_sumOf_54 (lv_at hl 4 rfl) ?_
  refine Ccalli (rest := [.ref (ad 22), .long x5]) (CrunSN (pc := 56) X w (okX8_cellCode l hJ h) (List.mem_of_getElem? (i := 6) rfl) kmX8_cellCode ⟨rfl, rfl⟩ ⟨by decide, by decide⟩ rfl hl.1 rfl (Nat.le_of_ble_eq_true rfl) dX6_sumOf_56) w (fun r1 u9_ H locs h w => ?_)
  obtain ⟨rfl, h⟩ := h
  refine Cld_22 (pc := 59) X w h.1 dX6_sumOf_59 ?_
  have h := h.2
  refine lv_ladd (pc := 60) hx hb dX6_sumOf_60 ?_
  refine lv_topl (fun x5_2 e_ => ?_)
  have h := h x5_2 e_
  refine lv_lstore (pc := 61) (lv' := [(5, .long x5_2), (0, .ref (ad 10)), (1, .int x1), (2, .int x2), (3, .int x3), (4, .int x4), (7, .int x7), (8, .int x8)]) hx hb dX6_sumOf_61 hl (by decide) rfl (fun ls hl => ?_)
  obtain ⟨x8_3, e_⟩ : ∃ y : Int32, y = x8 + (1 : Int32) := ⟨_, rfl⟩
  have h := h x8_3 e_
  refine lv_iinc (pc := 63) (v := x8_3) (lv' := [(8, .int x8_3), (5, .long x5_2), (0, .ref (ad 10)), (1, .int x1), (2, .int x2), (3, .int x3), (4, .int x4), (7, .int x7)]) hx hb dX6_sumOf_63 hl (k := 7) rfl (by rw [e_]; rfl) (by decide) rfl (fun ls hl => ?_)
  refine lv_goto (pc := 66) (tgt := 15) hx hb dX6_sumOf_66 (by decide) ?_
  exact hk15 x1 x2 x3 x4 x5_2 x7 x8_3 H locs ls h w (lv_sub hl [2, 3, 4, 5, 6, 1, 7, 0] rfl)
set_option maxHeartbeats 4000000 in
set_option maxRecDepth 100000 in
theorem bX6_sumOf_32 {l : Launch} {p : Program} {e : Env} {s : State} {m : MethodId} {args : Array Value} {below : List Frame} {meth : Method} {c : Code} {D : va_G} {g : Nat → ClassId} {ad : Nat → Nat} {u : Mm} {Q : Int64 → Prop} {k15 : Int32 → Int32 → Int32 → Int32 → Int64 → Int32 → Int32 → Prop} (X : CX p s m args meth c cX6_sumOf RX6 9 (some .long) (Cond.code yX6_sumOf cX6_sumOf 9 (some .long)) D g ad (CA ad)) (hk15 : ∀ (x1 : Int32) (x2 : Int32) (x3 : Int32) (x4 : Int32) (x5 : Int64) (x7 : Int32) (x8 : Int32) (H : Heap) (locs : List Loc) (ls : Array Slot), k15 x1 x2 x3 x4 x5 x7 x8 → CWd D g ad (CA ad) s u H locs → lv_has ls 9 [(0, .ref (ad 10)), (1, .int x1), (2, .int x2), (3, .int x3), (4, .int x4), (5, .long x5), (7, .int x7), (8, .int x8)] → W p l e ({ frames := 1, cells := 0, slots := 0, locals := 23 } : Room) s m args below meth c H locs 0 0 (MQ below (va_Ql (fun r u1 => u = u1 ∧ Q r) (CB D g ad) (CA ad)) args s 0 0 (CA ad)) (F0 m 15 ls [])) : ∀ (x1 : Int32) (x2 : Int32) (x3 : Int32) (x4 : Int32) (x5 : Int64) (x7 : Int32) (x8 : Int32) (H : Heap) (locs : List Loc) (ls : Array Slot), wX6_sumOf_b32 u k15 Q x1 x2 x3 x4 x5 x7 x8 → CWd D g ad (CA ad) s u H locs → lv_has ls 9 [(0, .ref (ad 10)), (1, .int x1), (2, .int x2), (3, .int x3), (4, .int x4), (5, .long x5), (7, .int x7), (8, .int x8)] → W p l e ({ frames := 1, cells := 0, slots := 0, locals := 23 } : Room) s m args below meth c H locs 0 0 (MQ below (va_Ql (fun r u1 => u = u1 ∧ Q r) (CB D g ad) (CA ad)) args s 0 0 (CA ad)) (F0 m 32 ls []) := by
  obtain ⟨⟨hx, hb, hml, hown, hts⟩, hr, hlocks, hK, hJ, hAA⟩ := id X
  intro x1 x2 x3 x4 x5 x7 x8 H locs ls h w hl
  unfold wX6_sumOf_b32 at h
  refine lv_iload_n (pc := 32) hx hb dX6_sumOf_32 rfl (lv_at hl 2 rfl) ?_
  refine lv_iconst (pc := 33) (v := (-1 : Int32)) hx hb dX6_sumOf_33 (by decide) ?_
  refine lv_icmp_eq (pc := 34) (tgt := 43) hx hb dX6_sumOf_34 (by decide) (fun c_ => ?_) (fun c_ => ?_)
  · have h := h.1 c_
    refine bX6_sumOf_43 X ?_ x1 x2 x3 x4 x5 x7 x8 H locs ls h w (lv_sub hl [0, 1, 2, 3, 4, 5, 6, 7] rfl)
    · intro x1 x2 x3 x4 x5 x7 x8 H locs ls h w hl
      exact hk15 x1 x2 x3 x4 x5 x7 x8 H locs ls h w (lv_sub hl [0, 1, 2, 3, 4, 5, 6, 7] rfl)
  · have h := h.2 c_
    refine lv_iload_n (pc := 37) hx hb dX6_sumOf_37 rfl (lv_at hl 2 rfl) ?_
    refine lv_iload (pc := 38) hx hb dX6_sumOf_38 (lv_at hl 7 rfl) ?_
    refine lv_icmp_ne (pc := 40) (tgt := 63) hx hb dX6_sumOf_40 (by decide) (fun c_ => ?_) (fun c_ => ?_)
    · have h := h.2 c_
      obtain ⟨x8_1, e_⟩ : ∃ y : Int32, y = x8 + (1 : Int32) := ⟨_, rfl⟩
      have h := h x8_1 e_
      refine lv_iinc (pc := 63) (v := x8_1) (lv' := [(8, .int x8_1), (0, .ref (ad 10)), (1, .int x1), (2, .int x2), (3, .int x3), (4, .int x4), (5, .long x5), (7, .int x7)]) hx hb dX6_sumOf_63 hl (k := 7) rfl (by rw [e_]; rfl) (by decide) rfl (fun ls hl => ?_)
      refine lv_goto (pc := 66) (tgt := 15) hx hb dX6_sumOf_66 (by decide) ?_
      exact hk15 x1 x2 x3 x4 x5 x7 x8_1 H locs ls h w (lv_sub hl [1, 2, 3, 4, 5, 6, 7, 0] rfl)
    · have h := h.1 c_
      refine bX6_sumOf_43 X ?_ x1 x2 x3 x4 x5 x7 x8 H locs ls h w (lv_sub hl [0, 1, 2, 3, 4, 5, 6, 7] rfl)
      · intro x1 x2 x3 x4 x5 x7 x8 H locs ls h w hl
        exact hk15 x1 x2 x3 x4 x5 x7 x8 H locs ls h w (lv_sub hl [0, 1, 2, 3, 4, 5, 6, 7] rfl)
set_option maxHeartbeats 4000000 in
set_option maxRecDepth 100000 in
theorem bX6_sumOf_15 {l : Launch} {p : Program} {e : Env} {s : State} {m : MethodId} {args : Array Value} {below : List Frame} {meth : Method} {c : Code} {D : va_G} {g : Nat → ClassId} {ad : Nat → Nat} {u : Mm} {Q : Int64 → Prop} {k6 : Int32 → Int32 → Int32 → Int32 → Int64 → Int32 → Prop} (X : CX p s m args meth c cX6_sumOf RX6 9 (some .long) (Cond.code yX6_sumOf cX6_sumOf 9 (some .long)) D g ad (CA ad)) (hk6 : ∀ (x1 : Int32) (x2 : Int32) (x3 : Int32) (x4 : Int32) (x5 : Int64) (x7 : Int32) (H : Heap) (locs : List Loc) (ls : Array Slot), k6 x1 x2 x3 x4 x5 x7 → CWd D g ad (CA ad) s u H locs → lv_has ls 9 [(0, .ref (ad 10)), (1, .int x1), (2, .int x2), (3, .int x3), (4, .int x4), (5, .long x5), (7, .int x7)] → W p l e ({ frames := 1, cells := 0, slots := 0, locals := 23 } : Room) s m args below meth c H locs 0 0 (MQ below (va_Ql (fun r u1 => u = u1 ∧ Q r) (CB D g ad) (CA ad)) args s 0 0 (CA ad)) (F0 m 6 ls [])) : ∀ (n : Nat) (x1 : Int32) (x2 : Int32) (x3 : Int32) (x4 : Int32) (x5 : Int64) (x7 : Int32) (x8 : Int32) (H : Heap) (locs : List Loc) (ls : Array Slot), wX6_sumOf_b15 u k6 Q n x1 x2 x3 x4 x5 x7 x8 → CWd D g ad (CA ad) s u H locs → lv_has ls 9 [(0, .ref (ad 10)), (1, .int x1), (2, .int x2), (3, .int x3), (4, .int x4), (5, .long x5), (7, .int x7), (8, .int x8)] → W p l e ({ frames := 1, cells := 0, slots := 0, locals := 23 } : Room) s m args below meth c H locs 0 0 (MQ below (va_Ql (fun r u1 => u = u1 ∧ Q r) (CB D g ad) (CA ad)) args s 0 0 (CA ad)) (F0 m 15 ls []) := by
  obtain ⟨⟨hx, hb, hml, hown, hts⟩, hr, hlocks, hK, hJ, hAA⟩ := id X
  intro n
  induction n with
  | zero =>
    intro x1 x2 x3 x4 x5 x7 x8 H locs ls h
    exact False.elim h
  | succ n ih =>
    intro x1 x2 x3 x4 x5 x7 x8 H locs ls h w hl
    unfold wX6_sumOf_b15 at h
    refine lv_iload (pc := 15) hx hb dX6_sumOf_15 (lv_at hl 7 rfl) ?_
    refine lv_iconst (pc := 17) (v := (4 : Int32)) hx hb dX6_sumOf_17 (by decide) ?_
    refine lv_icmp_ge (pc := 18) (tgt := 69) hx hb dX6_sumOf_18 (by decide) (fun c_ => ?_) (fun c_ => ?_)
    · have h := h.1 c_
      obtain ⟨x7_1, e_⟩ : ∃ y : Int32, y = x7 + (1 : Int32) := ⟨_, rfl⟩
      have h := h x7_1 e_
      refine lv_iinc (pc := 69) (v := x7_1) (lv' := [(7, .int x7_1), (0, .ref (ad 10)), (1, .int x1), (2, .int x2), (3, .int x3), (4, .int x4), (5, .long x5), (8, .int x8)]) hx hb dX6_sumOf_69 hl (k := 6) rfl (by rw [e_]; rfl) (by decide) rfl (fun ls hl => ?_)
      refine lv_goto (pc := 72) (tgt := 6) hx hb dX6_sumOf_72 (by decide) ?_
      exact hk6 x1 x2 x3 x4 x5 x7_1 H locs ls h w (lv_sub hl [1, 2, 3, 4, 5, 6, 0] rfl)
    · have h := h.2 c_
      refine lv_iload_n (pc := 21) hx hb dX6_sumOf_21 rfl (lv_at hl 1 rfl) ?_
      refine lv_iconst (pc := 22) (v := (-1 : Int32)) hx hb dX6_sumOf_22 (by decide) ?_
      refine lv_icmp_eq (pc := 23) (tgt := 32) hx hb dX6_sumOf_23 (by decide) (fun c_ => ?_) (fun c_ => ?_)
      · have h := h.1 c_
        refine bX6_sumOf_32 X ?_ x1 x2 x3 x4 x5 x7 x8 H locs ls h w (lv_sub hl [0, 1, 2, 3, 4, 5, 6, 7] rfl)
        · intro x1 x2 x3 x4 x5 x7 x8 H locs ls h w hl
          exact ih x1 x2 x3 x4 x5 x7 x8 H locs ls h w (lv_sub hl [0, 1, 2, 3, 4, 5, 6, 7] rfl)
      · have h := h.2 c_
        refine lv_iload_n (pc := 26) hx hb dX6_sumOf_26 rfl (lv_at hl 1 rfl) ?_
        refine lv_iload (pc := 27) hx hb dX6_sumOf_27 (lv_at hl 6 rfl) ?_
        refine lv_icmp_ne (pc := 29) (tgt := 63) hx hb dX6_sumOf_29 (by decide) (fun c_ => ?_) (fun c_ => ?_)
        · have h := h.2 c_
          obtain ⟨x8_2, e_⟩ : ∃ y : Int32, y = x8 + (1 : Int32) := ⟨_, rfl⟩
          have h := h x8_2 e_
          refine lv_iinc (pc := 63) (v := x8_2) (lv' := [(8, .int x8_2), (0, .ref (ad 10)), (1, .int x1), (2, .int x2), (3, .int x3), (4, .int x4), (5, .long x5), (7, .int x7)]) hx hb dX6_sumOf_63 hl (k := 7) rfl (by rw [e_]; rfl) (by decide) rfl (fun ls hl => ?_)
          refine lv_goto (pc := 66) (tgt := 15) hx hb dX6_sumOf_66 (by decide) ?_
          exact ih x1 x2 x3 x4 x5 x7 x8_2 H locs ls h w (lv_sub hl [1, 2, 3, 4, 5, 6, 7, 0] rfl)
        · have h := h.1 c_
          refine bX6_sumOf_32 X ?_ x1 x2 x3 x4 x5 x7 x8 H locs ls h w (lv_sub hl [0, 1, 2, 3, 4, 5, 6, 7] rfl)
          · intro x1 x2 x3 x4 x5 x7 x8 H locs ls h w hl
            exact ih x1 x2 x3 x4 x5 x7 x8 H locs ls h w (lv_sub hl [0, 1, 2, 3, 4, 5, 6, 7] rfl)
set_option maxHeartbeats 4000000 in
set_option maxRecDepth 100000 in
theorem bX6_sumOf_6 {l : Launch} {p : Program} {e : Env} {s : State} {m : MethodId} {args : Array Value} {below : List Frame} {meth : Method} {c : Code} {D : va_G} {g : Nat → ClassId} {ad : Nat → Nat} {u : Mm} {Q : Int64 → Prop} (X : CX p s m args meth c cX6_sumOf RX6 9 (some .long) (Cond.code yX6_sumOf cX6_sumOf 9 (some .long)) D g ad (CA ad)) : ∀ (n : Nat) (x1 : Int32) (x2 : Int32) (x3 : Int32) (x4 : Int32) (x5 : Int64) (x7 : Int32) (H : Heap) (locs : List Loc) (ls : Array Slot), wX6_sumOf_b6 u Q n x1 x2 x3 x4 x5 x7 → CWd D g ad (CA ad) s u H locs → lv_has ls 9 [(0, .ref (ad 10)), (1, .int x1), (2, .int x2), (3, .int x3), (4, .int x4), (5, .long x5), (7, .int x7)] → W p l e ({ frames := 1, cells := 0, slots := 0, locals := 23 } : Room) s m args below meth c H locs 0 0 (MQ below (va_Ql (fun r u1 => u = u1 ∧ Q r) (CB D g ad) (CA ad)) args s 0 0 (CA ad)) (F0 m 6 ls []) := by
  obtain ⟨⟨hx, hb, hml, hown, hts⟩, hr, hlocks, hK, hJ, hAA⟩ := id X
  intro n
  induction n with
  | zero =>
    intro x1 x2 x3 x4 x5 x7 H locs ls h
    exact False.elim h
  | succ n ih =>
    intro x1 x2 x3 x4 x5 x7 H locs ls h w hl
    unfold wX6_sumOf_b6 at h
    refine lv_iload (pc := 6) hx hb dX6_sumOf_6 (lv_at hl 6 rfl) ?_
    refine lv_iconst (pc := 8) (v := (2 : Int32)) hx hb dX6_sumOf_8 (by decide) ?_
    refine lv_icmp_ge (pc := 9) (tgt := 75) hx hb dX6_sumOf_9 (by decide) (fun c_ => ?_) (fun c_ => ?_)
    · have h := h.1 c_
      refine lv_lload (pc := 75) hx hb dX6_sumOf_75 (lv_at hl 5 rfl) ?_
      exact Clret (pc := 77) X w ⟨rfl, h⟩ dX6_sumOf_77
    · have h := h.2 c_
      refine lv_iconst (pc := 12) (v := (0 : Int32)) hx hb dX6_sumOf_12 (by decide) ?_
      refine lv_istore (pc := 13) (lv' := [(8, .int (0 : Int32)), (0, .ref (ad 10)), (1, .int x1), (2, .int x2), (3, .int x3), (4, .int x4), (5, .long x5), (7, .int x7)]) hx hb dX6_sumOf_13 hl (by decide) rfl (fun ls hl => ?_)
      obtain ⟨n9, h⟩ := h
      refine bX6_sumOf_15 X ?_ n9 x1 x2 x3 x4 x5 x7 (0 : Int32) H locs ls h w (lv_sub hl [1, 2, 3, 4, 5, 6, 7, 0] rfl)
      · intro x1 x2 x3 x4 x5 x7 H locs ls h w hl
        exact ih x1 x2 x3 x4 x5 x7 H locs ls h w (lv_sub hl [0, 1, 2, 3, 4, 5, 6] rfl)
set_option maxHeartbeats 4000000 in
set_option maxRecDepth 100000 in
theorem okX6_sumOf (l : Launch) {D : va_G} {g : Nat → ClassId} {ad : Nat → Nat} (hJ : CJ ad) {u : Mm} {a1 : Int32} {a2 : Int32} {a3 : Int32} {a4 : Int32} {Q : Int64 → Prop} (h : wX6_sumOf u a1 a2 a3 a4 Q) : Met l yX6_sumOf (Cond.code yX6_sumOf cX6_sumOf 9 (some .long) :: gt) ({ frames := 1, cells := 0, slots := 0, locals := 23 } : Room) (CPc D g ad u [.ref (ad 10), .int a1, .int a2, .int a3, .int a4]) (va_Ql (fun r u1 => u = u1 ∧ Q r) (CB D g ad) (CA ad)) 0 0 (CA ad) := by
  refine Met.ofW (cc := cX6_sumOf) (maxL := 9) (ret := (some .long)) (by decide) rfl ?_
  intro p e s m args below meth c s₁ B hml hv
  refine Centry (own := RX6) B hml hv hJ rfl (Nat.le_of_ble_eq_true rfl) (fun ls H locs X w hl => ?_)
  obtain ⟨⟨hx, hb, hml, hown, hts⟩, hr, hlocks, hK, hJ, hAA⟩ := id X
  have hl : lv_has ls 9 [(0, .ref (ad 10)), (1, .int a1), (2, .int a2), (3, .int a3), (4, .int a4)] := hl
  unfold wX6_sumOf at h
  refine lv_lconst (pc := 0) (v := (0 : Int64)) hx hb dX6_sumOf_0 (by decide) ?_
  refine lv_lstore (pc := 1) (lv' := [(5, .long (0 : Int64)), (0, .ref (ad 10)), (1, .int a1), (2, .int a2), (3, .int a3), (4, .int a4)]) hx hb dX6_sumOf_1 hl (by decide) rfl (fun ls hl => ?_)
  refine lv_iconst (pc := 3) (v := (0 : Int32)) hx hb dX6_sumOf_3 (by decide) ?_
  refine lv_istore (pc := 4) (lv' := [(7, .int (0 : Int32)), (5, .long (0 : Int64)), (0, .ref (ad 10)), (1, .int a1), (2, .int a2), (3, .int a3), (4, .int a4)]) hx hb dX6_sumOf_4 hl (by decide) rfl (fun ls hl => ?_)
  obtain ⟨n9, h⟩ := h
  exact bX6_sumOf_6 X n9 a1 a2 a3 a4 (0 : Int64) (0 : Int32) H locs ls h w (lv_sub hl [2, 3, 4, 5, 6, 1, 0] rfl)
set_option maxHeartbeats 4000000 in
set_option maxRecDepth 100000 in
theorem okX8_isAnnual (l : Launch) {D : va_G} {g : Nat → ClassId} {ad : Nat → Nat} (hJ : CJ ad) {u : Mm} {a0 : Int32} {Q : Int32 → Prop} (h : wX8_isAnnual a0 Q) : Met l yX8_isAnnual (Cond.code yX8_isAnnual cX8_isAnnual 1 (some .boolean) :: gt) ({ frames := 0, cells := 0, slots := 0, locals := 0 } : Room) (CPc D g ad u [.int a0]) (va_Qi (fun r u1 => bz r ∧ (u = u1 ∧ Q r)) (CB D g ad) (CA ad)) 0 0 (CA ad) := by
  refine Met.ofW (cc := cX8_isAnnual) (maxL := 1) (ret := (some .boolean)) (by decide) rfl ?_
  intro p e s m args below meth c s₁ B hml hv
  refine Centry (own := RX8) B hml hv hJ rfl (Nat.le_of_ble_eq_true rfl) (fun ls H locs X w hl => ?_)
  obtain ⟨⟨hx, hb, hml, hown, hts⟩, hr, hlocks, hK, hJ, hAA⟩ := id X
  have hl : lv_has ls 1 [(0, .int a0)] := hl
  unfold wX8_isAnnual at h
  refine lv_iload_n (pc := 0) hx hb dX8_isAnnual_0 rfl (lv_at hl 0 rfl) ?_
  refine lv_sipush (pc := 1) (v := (576 : Int32)) hx hb dX8_isAnnual_1 (by decide) ?_
  refine lv_icmp_lt (pc := 4) (tgt := 11) hx hb dX8_isAnnual_4 (by decide) (fun c_ => ?_) (fun c_ => ?_)
  · have h := h.1 c_
    refine lv_iconst (pc := 11) (v := (0 : Int32)) hx hb dX8_isAnnual_11 (by decide) ?_
    exact Czret (pc := 12) X w rfl ⟨rfl, h⟩ dX8_isAnnual_12
  · have h := h.2 c_
    refine lv_iconst (pc := 7) (v := (1 : Int32)) hx hb dX8_isAnnual_7 (by decide) ?_
    refine lv_goto (pc := 8) (tgt := 12) hx hb dX8_isAnnual_8 (by decide) ?_
    exact Czret (pc := 12) X w rfl ⟨rfl, h⟩ dX8_isAnnual_12
set_option maxHeartbeats 4000000 in
set_option maxRecDepth 100000 in
theorem okX8_lineOfCode (l : Launch) {D : va_G} {g : Nat → ClassId} {ad : Nat → Nat} (hJ : CJ ad) {u : Mm} {a0 : Int32} {Q : Int32 → Prop} (h : wX8_lineOfCode a0 Q) : Met l yX8_lineOfCode (Cond.code yX8_lineOfCode cX8_lineOfCode 1 (some .int) :: gt) ({ frames := 1, cells := 0, slots := 0, locals := 20 } : Room) (CPc D g ad u [.int a0]) (va_Qi (fun r u1 => u = u1 ∧ Q r) (CB D g ad) (CA ad)) 0 0 (CA ad) := by
  refine Met.ofW (cc := cX8_lineOfCode) (maxL := 1) (ret := (some .int)) (by decide) rfl ?_
  intro p e s m args below meth c s₁ B hml hv
  refine Centry (own := RX8) B hml hv hJ rfl (Nat.le_of_ble_eq_true rfl) (fun ls H locs X w hl => ?_)
  obtain ⟨⟨hx, hb, hml, hown, hts⟩, hr, hlocks, hK, hJ, hAA⟩ := id X
  have hl : lv_has ls 1 [(0, .int a0)] := hl
  unfold wX8_lineOfCode at h
  refine lv_iload_n (pc := 0) hx hb dX8_lineOfCode_0 rfl (lv_at hl 0 rfl) ?_
  refine Ccalli (rest := []) (CrunS (pc := 1) X w (okX8_isAnnual l hJ h) kw185 kmX8_isAnnual ⟨rfl, rfl⟩ ⟨by decide, by decide⟩ rfl hl.1 rfl (Nat.le_of_ble_eq_true rfl) dX8_lineOfCode_1) w (fun r1 u9_ H locs h w => ?_)
  obtain ⟨hz_r1, h⟩ := h
  obtain ⟨rfl, h⟩ := h
  refine lv_if_eq (pc := 4) (tgt := 17) hx hb dX8_lineOfCode_4 (by decide) (fun c_ => ?_) (fun c_ => ?_)
  · have h := h.1 c_
    refine lv_iload_n (pc := 17) hx hb dX8_lineOfCode_17 rfl (lv_at hl 0 rfl) ?_
    refine lv_bipush (pc := 18) (v := (12 : Int32)) hx hb dX8_lineOfCode_18 (by decide) ?_
    refine lv_idiv (pc := 20) hx hb dX8_lineOfCode_20 (by decide) ?_
    exact Ciret (pc := 21) X w ⟨rfl, h⟩ dX8_lineOfCode_21
  · have h := h.2 c_
    refine lv_iload_n (pc := 7) hx hb dX8_lineOfCode_7 rfl (lv_at hl 0 rfl) ?_
    refine lv_sipush (pc := 8) (v := (576 : Int32)) hx hb dX8_lineOfCode_8 (by decide) ?_
    refine lv_isub (pc := 11) hx hb dX8_lineOfCode_11 ?_
    refine lv_iconst (pc := 12) (v := (3 : Int32)) hx hb dX8_lineOfCode_12 (by decide) ?_
    refine lv_idiv (pc := 13) hx hb dX8_lineOfCode_13 (by decide) ?_
    refine lv_goto (pc := 14) (tgt := 21) hx hb dX8_lineOfCode_14 (by decide) ?_
    exact Ciret (pc := 21) X w ⟨rfl, h⟩ dX8_lineOfCode_21
set_option maxHeartbeats 4000000 in
set_option maxRecDepth 100000 in
theorem okX8_periodOf (l : Launch) {D : va_G} {g : Nat → ClassId} {ad : Nat → Nat} (hJ : CJ ad) {u : Mm} {a0 : Int32} {Q : Int32 → Prop} (h : wX8_periodOf a0 Q) : Met l yX8_periodOf (Cond.code yX8_periodOf cX8_periodOf 1 (some .int) :: gt) ({ frames := 1, cells := 0, slots := 0, locals := 20 } : Room) (CPc D g ad u [.int a0]) (va_Qi (fun r u1 => u = u1 ∧ Q r) (CB D g ad) (CA ad)) 0 0 (CA ad) := by
  refine Met.ofW (cc := cX8_periodOf) (maxL := 1) (ret := (some .int)) (by decide) rfl ?_
  intro p e s m args below meth c s₁ B hml hv
  refine Centry (own := RX8) B hml hv hJ rfl (Nat.le_of_ble_eq_true rfl) (fun ls H locs X w hl => ?_)
  obtain ⟨⟨hx, hb, hml, hown, hts⟩, hr, hlocks, hK, hJ, hAA⟩ := id X
  have hl : lv_has ls 1 [(0, .int a0)] := hl
  unfold wX8_periodOf at h
  refine lv_iload_n (pc := 0) hx hb dX8_periodOf_0 rfl (lv_at hl 0 rfl) ?_
  refine Ccalli (rest := []) (CrunS (pc := 1) X w (okX8_isAnnual l hJ h) kw185 kmX8_isAnnual ⟨rfl, rfl⟩ ⟨by decide, by decide⟩ rfl hl.1 rfl (Nat.le_of_ble_eq_true rfl) dX8_periodOf_1) w (fun r1 u9_ H locs h w => ?_)
  obtain ⟨hz_r1, h⟩ := h
  obtain ⟨rfl, h⟩ := h
  refine lv_if_eq (pc := 4) (tgt := 17) hx hb dX8_periodOf_4 (by decide) (fun c_ => ?_) (fun c_ => ?_)
  · have h := h.1 c_
    refine lv_iload_n (pc := 17) hx hb dX8_periodOf_17 rfl (lv_at hl 0 rfl) ?_
    refine lv_bipush (pc := 18) (v := (12 : Int32)) hx hb dX8_periodOf_18 (by decide) ?_
    refine lv_irem (pc := 20) hx hb dX8_periodOf_20 (by decide) ?_
    exact Ciret (pc := 21) X w ⟨rfl, h⟩ dX8_periodOf_21
  · have h := h.2 c_
    refine lv_iload_n (pc := 7) hx hb dX8_periodOf_7 rfl (lv_at hl 0 rfl) ?_
    refine lv_sipush (pc := 8) (v := (576 : Int32)) hx hb dX8_periodOf_8 (by decide) ?_
    refine lv_isub (pc := 11) hx hb dX8_periodOf_11 ?_
    refine lv_iconst (pc := 12) (v := (3 : Int32)) hx hb dX8_periodOf_12 (by decide) ?_
    refine lv_irem (pc := 13) hx hb dX8_periodOf_13 (by decide) ?_
    refine lv_goto (pc := 14) (tgt := 21) hx hb dX8_periodOf_14 (by decide) ?_
    exact Ciret (pc := 21) X w ⟨rfl, h⟩ dX8_periodOf_21
set_option maxHeartbeats 4000000 in
set_option maxRecDepth 100000 in
theorem okX8_yearOf (l : Launch) {D : va_G} {g : Nat → ClassId} {ad : Nat → Nat} (hJ : CJ ad) {u : Mm} {a0 : Int32} {Q : Int32 → Prop} (h : wX8_yearOf a0 Q) : Met l yX8_yearOf (Cond.code yX8_yearOf cX8_yearOf 1 (some .int) :: gt) ({ frames := 2, cells := 0, slots := 0, locals := 40 } : Room) (CPc D g ad u [.int a0]) (va_Qi (fun r u1 => u = u1 ∧ Q r) (CB D g ad) (CA ad)) 0 0 (CA ad) := by
  refine Met.ofW (cc := cX8_yearOf) (maxL := 1) (ret := (some .int)) (by decide) rfl ?_
  intro p e s m args below meth c s₁ B hml hv
  refine Centry (own := RX8) B hml hv hJ rfl (Nat.le_of_ble_eq_true rfl) (fun ls H locs X w hl => ?_)
  obtain ⟨⟨hx, hb, hml, hown, hts⟩, hr, hlocks, hK, hJ, hAA⟩ := id X
  have hl : lv_has ls 1 [(0, .int a0)] := hl
  unfold wX8_yearOf at h
  refine lv_iload_n (pc := 0) hx hb dX8_yearOf_0 rfl (lv_at hl 0 rfl) ?_
  refine Ccalli (rest := []) (CrunS (pc := 1) X w (okX8_isAnnual l hJ h) kw185 kmX8_isAnnual ⟨rfl, rfl⟩ ⟨by decide, by decide⟩ rfl hl.1 rfl (Nat.le_of_ble_eq_true rfl) dX8_yearOf_1) w (fun r1 u9_ H locs h w => ?_)
  obtain ⟨hz_r1, h⟩ := h
  obtain ⟨rfl, h⟩ := h
  refine lv_if_eq (pc := 4) (tgt := 14) hx hb dX8_yearOf_4 (by decide) (fun c_ => ?_) (fun c_ => ?_)
  · have h := h.1 c_
    refine lv_iload_n (pc := 14) hx hb dX8_yearOf_14 rfl (lv_at hl 0 rfl) ?_
    refine Ccalli (rest := []) (CrunS (pc := 15) X w (okX8_periodOf l hJ h) kw188 kmX8_periodOf ⟨rfl, rfl⟩ ⟨by decide, by decide⟩ rfl hl.1 rfl (Nat.le_of_ble_eq_true rfl) dX8_yearOf_15) w (fun r2 u9_ H locs h w => ?_)
    obtain ⟨rfl, h⟩ := h
    refine lv_iconst (pc := 18) (v := (4 : Int32)) hx hb dX8_yearOf_18 (by decide) ?_
    refine lv_idiv (pc := 19) hx hb dX8_yearOf_19 (by decide) ?_
    exact Ciret (pc := 20) X w ⟨rfl, h⟩ dX8_yearOf_20
  · have h := h.2 c_
    refine lv_iload_n (pc := 7) hx hb dX8_yearOf_7 rfl (lv_at hl 0 rfl) ?_
    refine Ccalli (rest := []) (CrunS (pc := 8) X w (okX8_periodOf l hJ h) kw188 kmX8_periodOf ⟨rfl, rfl⟩ ⟨by decide, by decide⟩ rfl hl.1 rfl (Nat.le_of_ble_eq_true rfl) dX8_yearOf_8) w (fun r3 u9_ H locs h w => ?_)
    obtain ⟨rfl, h⟩ := h
    refine lv_goto (pc := 11) (tgt := 20) hx hb dX8_yearOf_11 (by decide) ?_
    exact Ciret (pc := 20) X w ⟨rfl, h⟩ dX8_yearOf_20
set_option maxHeartbeats 4000000 in
set_option maxRecDepth 100000 in
theorem okX6_firstCellOf (l : Launch) {D : va_G} {g : Nat → ClassId} {ad : Nat → Nat} (hJ : CJ ad) {u : Mm} {a0 : Int32} {Q : Int32 → Prop} (h : wX6_firstCellOf a0 Q) : Met l yX6_firstCellOf (Cond.code yX6_firstCellOf cX6_firstCellOf 1 (some .int) :: gt) ({ frames := 3, cells := 0, slots := 0, locals := 60 } : Room) (CPc D g ad u [.int a0]) (va_Qi (fun r u1 => u = u1 ∧ Q r) (CB D g ad) (CA ad)) 0 0 (CA ad) := by
  refine Met.ofW (cc := cX6_firstCellOf) (maxL := 1) (ret := (some .int)) (by decide) rfl ?_
  intro p e s m args below meth c s₁ B hml hv
  refine Centry (own := RX6) B hml hv hJ rfl (Nat.le_of_ble_eq_true rfl) (fun ls H locs X w hl => ?_)
  obtain ⟨⟨hx, hb, hml, hown, hts⟩, hr, hlocks, hK, hJ, hAA⟩ := id X
  have hl : lv_has ls 1 [(0, .int a0)] := hl
  unfold wX6_firstCellOf at h
  refine lv_iload_n (pc := 0) hx hb dX6_firstCellOf_0 rfl (lv_at hl 0 rfl) ?_
  refine Ccalli (rest := []) (CrunSN (pc := 1) X w (okX8_lineOfCode l hJ h) (List.mem_of_getElem? (i := 8) rfl) kmX8_lineOfCode ⟨rfl, rfl⟩ ⟨by decide, by decide⟩ rfl hl.1 rfl (Nat.le_of_ble_eq_true rfl) dX6_firstCellOf_1) w (fun r1 u9_ H locs h w => ?_)
  obtain ⟨rfl, h⟩ := h
  refine lv_bipush (pc := 4) (v := (12 : Int32)) hx hb dX6_firstCellOf_4 (by decide) ?_
  refine lv_imul (pc := 6) hx hb dX6_firstCellOf_6 ?_
  refine lv_iload_n (pc := 7) hx hb dX6_firstCellOf_7 rfl (lv_at hl 0 rfl) ?_
  refine Ccalli (rest := [.int (r1 * (12 : Int32))]) (CrunSN (pc := 8) X w (okX8_yearOf l hJ h) (List.mem_of_getElem? (i := 9) rfl) kmX8_yearOf ⟨rfl, rfl⟩ ⟨by decide, by decide⟩ rfl hl.1 rfl (Nat.le_of_ble_eq_true rfl) dX6_firstCellOf_8) w (fun r2 u9_ H locs h w => ?_)
  obtain ⟨rfl, h⟩ := h
  refine lv_iconst (pc := 11) (v := (4 : Int32)) hx hb dX6_firstCellOf_11 (by decide) ?_
  refine lv_imul (pc := 12) hx hb dX6_firstCellOf_12 ?_
  refine lv_iadd (pc := 13) hx hb dX6_firstCellOf_13 ?_
  exact Ciret (pc := 14) X w ⟨rfl, h⟩ dX6_firstCellOf_14
set_option maxHeartbeats 4000000 in
set_option maxRecDepth 100000 in
theorem bX6_isAllSaid_7 {l : Launch} {p : Program} {e : Env} {s : State} {m : MethodId} {args : Array Value} {below : List Frame} {meth : Method} {c : Code} {D : va_G} {g : Nat → ClassId} {ad : Nat → Nat} {u : Mm} {Q : Int32 → Prop} (X : CX p s m args meth c cX6_isAllSaid RX6 4 (some .boolean) (Cond.code yX6_isAllSaid cX6_isAllSaid 4 (some .boolean)) D g ad (CA ad)) : ∀ (n : Nat) (x1 : Int32) (x2 : Int32) (x3 : Int32) (H : Heap) (locs : List Loc) (ls : Array Slot), wX6_isAllSaid_b7 u Q n x1 x2 x3 → CWd D g ad (CA ad) s u H locs → lv_has ls 4 [(0, .ref (ad 10)), (1, .int x1), (2, .int x2), (3, .int x3)] → W p l e ({ frames := 4, cells := 0, slots := 0, locals := 80 } : Room) s m args below meth c H locs 0 0 (MQ below (va_Qi (fun r u1 => bz r ∧ (u = u1 ∧ Q r)) (CB D g ad) (CA ad)) args s 0 0 (CA ad)) (F0 m 7 ls []) := by
  obtain ⟨⟨hx, hb, hml, hown, hts⟩, hr, hlocks, hK, hJ, hAA⟩ := id X
  intro n
  induction n with
  | zero =>
    intro x1 x2 x3 H locs ls h
    exact False.elim h
  | succ n ih =>
    intro x1 x2 x3 H locs ls h w hl
    unfold wX6_isAllSaid_b7 at h
    refine lv_iload_n (pc := 7) hx hb dX6_isAllSaid_7 rfl (lv_at hl 3 rfl) ?_
    refine lv_iconst (pc := 8) (v := (4 : Int32)) hx hb dX6_isAllSaid_8 (by decide) ?_
    refine lv_icmp_ge (pc := 9) (tgt := 31) hx hb dX6_isAllSaid_9 (by decide) (fun c_ => ?_) (fun c_ => ?_)
    · have h := h.1 c_
      refine lv_aload_n (pc := 31) hx hb dX6_isAllSaid_31 rfl (lv_at hl 0 rfl) ?_
      refine Cgf_10_6 (pc := 32) X w kw131 dX6_isAllSaid_32 ?_
      refine lv_iload_n (pc := 35) hx hb dX6_isAllSaid_35 rfl (lv_at hl 1 rfl) ?_
      refine Cld_19 (pc := 36) X w h.1 dX6_isAllSaid_36 ?_
      have h := h.2
      refine lv_if_le (pc := 37) (tgt := 44) hx hb dX6_isAllSaid_37 (by decide) (fun c_ => ?_) (fun c_ => ?_)
      · have h := h.1 c_
        refine lv_iconst (pc := 44) (v := (0 : Int32)) hx hb dX6_isAllSaid_44 (by decide) ?_
        exact Czret (pc := 45) X w rfl ⟨rfl, h⟩ dX6_isAllSaid_45
      · have h := h.2 c_
        refine lv_iconst (pc := 40) (v := (1 : Int32)) hx hb dX6_isAllSaid_40 (by decide) ?_
        refine lv_goto (pc := 41) (tgt := 45) hx hb dX6_isAllSaid_41 (by decide) ?_
        exact Czret (pc := 45) X w rfl ⟨rfl, h⟩ dX6_isAllSaid_45
    · have h := h.2 c_
      refine lv_aload_n (pc := 12) hx hb dX6_isAllSaid_12 rfl (lv_at hl 0 rfl) ?_
      refine Cgf_10_6 (pc := 13) X w kw131 dX6_isAllSaid_13 ?_
      refine lv_iload_n (pc := 16) hx hb dX6_isAllSaid_16 rfl (lv_at hl 2 rfl) ?_
      refine lv_iload_n (pc := 17) hx hb dX6_isAllSaid_17 rfl (lv_at hl 3 rfl) ?_
      refine lv_iadd (pc := 18) hx hb dX6_isAllSaid_18 ?_
      refine Cld_19 (pc := 19) X w h.1 dX6_isAllSaid_19 ?_
      have h := h.2
      refine lv_if_ne (pc := 20) (tgt := 25) hx hb dX6_isAllSaid_20 (by decide) (fun c_ => ?_) (fun c_ => ?_)
      · have h := h.2 c_
        obtain ⟨x3_1, e_⟩ : ∃ y : Int32, y = x3 + (1 : Int32) := ⟨_, rfl⟩
        have h := h x3_1 e_
        refine lv_iinc (pc := 25) (v := x3_1) (lv' := [(3, .int x3_1), (0, .ref (ad 10)), (1, .int x1), (2, .int x2)]) hx hb dX6_isAllSaid_25 hl (k := 3) rfl (by rw [e_]; rfl) (by decide) rfl (fun ls hl => ?_)
        refine lv_goto (pc := 28) (tgt := 7) hx hb dX6_isAllSaid_28 (by decide) ?_
        exact ih x1 x2 x3_1 H locs ls h w (lv_sub hl [1, 2, 3, 0] rfl)
      · have h := h.1 c_
        refine lv_iconst (pc := 23) (v := (0 : Int32)) hx hb dX6_isAllSaid_23 (by decide) ?_
        exact Czret (pc := 24) X w rfl ⟨rfl, h⟩ dX6_isAllSaid_24
set_option maxHeartbeats 4000000 in
set_option maxRecDepth 100000 in
theorem okX6_isAllSaid (l : Launch) {D : va_G} {g : Nat → ClassId} {ad : Nat → Nat} (hJ : CJ ad) {u : Mm} {a1 : Int32} {Q : Int32 → Prop} (h : wX6_isAllSaid u a1 Q) : Met l yX6_isAllSaid (Cond.code yX6_isAllSaid cX6_isAllSaid 4 (some .boolean) :: gt) ({ frames := 4, cells := 0, slots := 0, locals := 80 } : Room) (CPc D g ad u [.ref (ad 10), .int a1]) (va_Qi (fun r u1 => bz r ∧ (u = u1 ∧ Q r)) (CB D g ad) (CA ad)) 0 0 (CA ad) := by
  refine Met.ofW (cc := cX6_isAllSaid) (maxL := 4) (ret := (some .boolean)) (by decide) rfl ?_
  intro p e s m args below meth c s₁ B hml hv
  refine Centry (own := RX6) B hml hv hJ rfl (Nat.le_of_ble_eq_true rfl) (fun ls H locs X w hl => ?_)
  obtain ⟨⟨hx, hb, hml, hown, hts⟩, hr, hlocks, hK, hJ, hAA⟩ := id X
  have hl : lv_has ls 4 [(0, .ref (ad 10)), (1, .int a1)] := hl
  unfold wX6_isAllSaid at h
  refine lv_iload_n (pc := 0) hx hb dX6_isAllSaid_0 rfl (lv_at hl 1 rfl) ?_
  refine Ccalli (rest := []) (CrunS (pc := 1) X w (okX6_firstCellOf l hJ h) kw195 kmX6_firstCellOf ⟨rfl, rfl⟩ ⟨by decide, by decide⟩ rfl hl.1 rfl (Nat.le_of_ble_eq_true rfl) dX6_isAllSaid_1) w (fun r1 u9_ H locs h w => ?_)
  obtain ⟨rfl, h⟩ := h
  refine lv_istore_n (pc := 4) (lv' := [(2, .int r1), (0, .ref (ad 10)), (1, .int a1)]) hx hb dX6_isAllSaid_4 rfl hl (by decide) rfl (fun ls hl => ?_)
  refine lv_iconst (pc := 5) (v := (0 : Int32)) hx hb dX6_isAllSaid_5 (by decide) ?_
  refine lv_istore_n (pc := 6) (lv' := [(3, .int (0 : Int32)), (2, .int r1), (0, .ref (ad 10)), (1, .int a1)]) hx hb dX6_isAllSaid_6 rfl hl (by decide) rfl (fun ls hl => ?_)
  obtain ⟨n9, h⟩ := h
  exact bX6_isAllSaid_7 X n9 a1 r1 (0 : Int32) H locs ls h w (lv_sub hl [2, 3, 1, 0] rfl)
set_option maxHeartbeats 4000000 in
set_option maxRecDepth 100000 in
theorem bX6_shapeOf_10 {l : Launch} {p : Program} {e : Env} {s : State} {m : MethodId} {args : Array Value} {below : List Frame} {meth : Method} {c : Code} {D : va_G} {g : Nat → ClassId} {ad : Nat → Nat} {u : Mm} {Q : Int64 → Prop} (X : CX p s m args meth c cX6_shapeOf RX6 6 (some .long) (Cond.code yX6_shapeOf cX6_shapeOf 6 (some .long)) D g ad (CA ad)) : ∀ (n : Nat) (x2 : Int32) (x3 : Int64) (x5 : Int32) (H : Heap) (locs : List Loc) (ls : Array Slot), wX6_shapeOf_b10 u Q n x2 x3 x5 → CWd D g ad (CA ad) s u H locs → lv_has ls 6 [(0, .ref (ad 10)), (2, .int x2), (3, .long x3), (5, .int x5)] → W p l e ({ frames := 4, cells := 0, slots := 0, locals := 80 } : Room) s m args below meth c H locs 0 0 (MQ below (va_Ql (fun r u1 => u = u1 ∧ Q r) (CB D g ad) (CA ad)) args s 0 0 (CA ad)) (F0 m 10 ls []) := by
  obtain ⟨⟨hx, hb, hml, hown, hts⟩, hr, hlocks, hK, hJ, hAA⟩ := id X
  intro n
  induction n with
  | zero =>
    intro x2 x3 x5 H locs ls h
    exact False.elim h
  | succ n ih =>
    intro x2 x3 x5 H locs ls h w hl
    unfold wX6_shapeOf_b10 at h
    refine lv_iload (pc := 10) hx hb dX6_shapeOf_10 (lv_at hl 3 rfl) ?_
    refine lv_iconst (pc := 12) (v := (4 : Int32)) hx hb dX6_shapeOf_12 (by decide) ?_
    refine lv_icmp_ge (pc := 13) (tgt := 48) hx hb dX6_shapeOf_13 (by decide) (fun c_ => ?_) (fun c_ => ?_)
    · have h := h.1 c_
      refine lv_lload_n (pc := 48) hx hb dX6_shapeOf_48 rfl (lv_at hl 2 rfl) ?_
      exact Clret (pc := 49) X w ⟨rfl, h⟩ dX6_shapeOf_49
    · have h := h.2 c_
      refine lv_lload_n (pc := 16) hx hb dX6_shapeOf_16 rfl (lv_at hl 2 rfl) ?_
      refine lv_aload_n (pc := 17) hx hb dX6_shapeOf_17 rfl (lv_at hl 0 rfl) ?_
      refine Cgf_10_8 (pc := 18) X w kw133 dX6_shapeOf_18 ?_
      refine lv_iload_n (pc := 21) hx hb dX6_shapeOf_21 rfl (lv_at hl 1 rfl) ?_
      refine lv_iload (pc := 22) hx hb dX6_shapeOf_22 (lv_at hl 3 rfl) ?_
      refine lv_iadd (pc := 24) hx hb dX6_shapeOf_24 ?_
      refine Cld_21 (pc := 25) X w h.1 dX6_shapeOf_25 ?_
      have h := h.2
      refine lv_aload_n (pc := 26) hx hb dX6_shapeOf_26 rfl (lv_at hl 0 rfl) ?_
      refine Cgf_10_5 (pc := 27) X w kw129 dX6_shapeOf_27 ?_
      refine lv_iload_n (pc := 30) hx hb dX6_shapeOf_30 rfl (lv_at hl 1 rfl) ?_
      refine lv_iload (pc := 31) hx hb dX6_shapeOf_31 (lv_at hl 3 rfl) ?_
      refine lv_iadd (pc := 33) hx hb dX6_shapeOf_33 ?_
      refine Cld_18 (pc := 34) X w h.1 dX6_shapeOf_34 ?_
      have h := h.2
      refine lv_i2l (pc := 35) hx hb dX6_shapeOf_35 rfl ?_
      refine lv_lsub (pc := 36) hx hb dX6_shapeOf_36 ?_
      refine Ccalll (rest := [.long x3]) (CrunS (pc := 37) X w (okJ9_abs_067f4 l hJ h) kw182 kmJ9_abs_067f4 ⟨rfl, rfl⟩ ⟨by decide, by decide⟩ rfl hl.1 rfl (Nat.le_of_ble_eq_true rfl) dX6_shapeOf_37) w (fun r1 u9_ H locs h w => ?_)
      obtain ⟨rfl, h⟩ := h
      refine lv_ladd (pc := 40) hx hb dX6_shapeOf_40 ?_
      refine lv_topl (fun x3_2 e_ => ?_)
      have h := h x3_2 e_
      refine lv_lstore_n (pc := 41) (lv' := [(3, .long x3_2), (0, .ref (ad 10)), (2, .int x2), (5, .int x5)]) hx hb dX6_shapeOf_41 rfl hl (by decide) rfl (fun ls hl => ?_)
      obtain ⟨x5_3, e_⟩ : ∃ y : Int32, y = x5 + (1 : Int32) := ⟨_, rfl⟩
      have h := h x5_3 e_
      refine lv_iinc (pc := 42) (v := x5_3) (lv' := [(5, .int x5_3), (3, .long x3_2), (0, .ref (ad 10)), (2, .int x2)]) hx hb dX6_shapeOf_42 hl (k := 3) rfl (by rw [e_]; rfl) (by decide) rfl (fun ls hl => ?_)
      refine lv_goto (pc := 45) (tgt := 10) hx hb dX6_shapeOf_45 (by decide) ?_
      exact ih x2 x3_2 x5_3 H locs ls h w (lv_sub hl [2, 3, 1, 0] rfl)
set_option maxHeartbeats 4000000 in
set_option maxRecDepth 100000 in
theorem okX6_shapeOf (l : Launch) {D : va_G} {g : Nat → ClassId} {ad : Nat → Nat} (hJ : CJ ad) {u : Mm} {a1 : Int32} {Q : Int64 → Prop} (h : wX6_shapeOf u a1 Q) : Met l yX6_shapeOf (Cond.code yX6_shapeOf cX6_shapeOf 6 (some .long) :: gt) ({ frames := 4, cells := 0, slots := 0, locals := 80 } : Room) (CPc D g ad u [.ref (ad 10), .int a1]) (va_Ql (fun r u1 => u = u1 ∧ Q r) (CB D g ad) (CA ad)) 0 0 (CA ad) := by
  refine Met.ofW (cc := cX6_shapeOf) (maxL := 6) (ret := (some .long)) (by decide) rfl ?_
  intro p e s m args below meth c s₁ B hml hv
  refine Centry (own := RX6) B hml hv hJ rfl (Nat.le_of_ble_eq_true rfl) (fun ls H locs X w hl => ?_)
  obtain ⟨⟨hx, hb, hml, hown, hts⟩, hr, hlocks, hK, hJ, hAA⟩ := id X
  have hl : lv_has ls 6 [(0, .ref (ad 10)), (1, .int a1)] := hl
  unfold wX6_shapeOf at h
  refine lv_iload_n (pc := 0) hx hb dX6_shapeOf_0 rfl (lv_at hl 1 rfl) ?_
  refine Ccalli (rest := []) (CrunS (pc := 1) X w (okX6_firstCellOf l hJ h) kw195 kmX6_firstCellOf ⟨rfl, rfl⟩ ⟨by decide, by decide⟩ rfl hl.1 rfl (Nat.le_of_ble_eq_true rfl) dX6_shapeOf_1) w (fun r1 u9_ H locs h w => ?_)
  obtain ⟨rfl, h⟩ := h
  refine lv_istore_n (pc := 4) (lv' := [(2, .int r1), (0, .ref (ad 10)), (1, .int a1)]) hx hb dX6_shapeOf_4 rfl hl (by decide) rfl (fun ls hl => ?_)
  refine lv_lconst (pc := 5) (v := (0 : Int64)) hx hb dX6_shapeOf_5 (by decide) ?_
  refine lv_lstore_n (pc := 6) (lv' := [(3, .long (0 : Int64)), (2, .int r1), (0, .ref (ad 10)), (1, .int a1)]) hx hb dX6_shapeOf_6 rfl hl (by decide) rfl (fun ls hl => ?_)
  refine lv_iconst (pc := 7) (v := (0 : Int32)) hx hb dX6_shapeOf_7 (by decide) ?_
  refine lv_istore (pc := 8) (lv' := [(5, .int (0 : Int32)), (3, .long (0 : Int64)), (2, .int r1), (0, .ref (ad 10)), (1, .int a1)]) hx hb dX6_shapeOf_8 hl (by decide) rfl (fun ls hl => ?_)
  obtain ⟨n9, h⟩ := h
  exact bX6_shapeOf_10 X n9 r1 (0 : Int64) (0 : Int32) H locs ls h w (lv_sub hl [3, 2, 1, 0] rfl)
set_option maxHeartbeats 4000000 in
set_option maxRecDepth 100000 in
theorem bX6_isBroken_10 {l : Launch} {p : Program} {e : Env} {s : State} {m : MethodId} {args : Array Value} {below : List Frame} {meth : Method} {c : Code} {D : va_G} {g : Nat → ClassId} {ad : Nat → Nat} {u : Mm} {Q : Int32 → Prop} (X : CX p s m args meth c cX6_isBroken RX6 6 (some .boolean) (Cond.code yX6_isBroken cX6_isBroken 6 (some .boolean)) D g ad (CA ad)) : ∀ (n : Nat) (x1 : Int32) (x2 : Int32) (x3 : Int64) (x5 : Int32) (H : Heap) (locs : List Loc) (ls : Array Slot), wX6_isBroken_b10 u Q n x1 x2 x3 x5 → CWd D g ad (CA ad) s u H locs → lv_has ls 6 [(0, .ref (ad 10)), (1, .int x1), (2, .int x2), (3, .long x3), (5, .int x5)] → W p l e ({ frames := 4, cells := 0, slots := 0, locals := 80 } : Room) s m args below meth c H locs 0 0 (MQ below (va_Qi (fun r u1 => bz r ∧ (u = u1 ∧ Q r)) (CB D g ad) (CA ad)) args s 0 0 (CA ad)) (F0 m 10 ls []) := by
  obtain ⟨⟨hx, hb, hml, hown, hts⟩, hr, hlocks, hK, hJ, hAA⟩ := id X
  intro n
  induction n with
  | zero =>
    intro x1 x2 x3 x5 H locs ls h
    exact False.elim h
  | succ n ih =>
    intro x1 x2 x3 x5 H locs ls h w hl
    unfold wX6_isBroken_b10 at h
    refine lv_iload (pc := 10) hx hb dX6_isBroken_10 (lv_at hl 4 rfl) ?_
    refine lv_iconst (pc := 12) (v := (4 : Int32)) hx hb dX6_isBroken_12 (by decide) ?_
    refine lv_icmp_ge (pc := 13) (tgt := 34) hx hb dX6_isBroken_13 (by decide) (fun c_ => ?_) (fun c_ => ?_)
    · have h := h.1 c_
      refine lv_aload_n (pc := 34) hx hb dX6_isBroken_34 rfl (lv_at hl 0 rfl) ?_
      refine Cgf_10_6 (pc := 35) X w kw131 dX6_isBroken_35 ?_
      refine lv_iload_n (pc := 38) hx hb dX6_isBroken_38 rfl (lv_at hl 1 rfl) ?_
      refine Cld_19 (pc := 39) X w h.1 dX6_isBroken_39 ?_
      have h := h.2
      refine lv_if_le (pc := 40) (tgt := 59) hx hb dX6_isBroken_40 (by decide) (fun c_ => ?_) (fun c_ => ?_)
      · have h := h.1 c_
        refine lv_iconst (pc := 59) (v := (0 : Int32)) hx hb dX6_isBroken_59 (by decide) ?_
        exact Czret (pc := 60) X w rfl ⟨rfl, h⟩ dX6_isBroken_60
      · have h := h.2 c_
        refine lv_lload_n (pc := 43) hx hb dX6_isBroken_43 rfl (lv_at hl 3 rfl) ?_
        refine lv_aload_n (pc := 44) hx hb dX6_isBroken_44 rfl (lv_at hl 0 rfl) ?_
        refine Cgf_10_5 (pc := 45) X w kw129 dX6_isBroken_45 ?_
        refine lv_iload_n (pc := 48) hx hb dX6_isBroken_48 rfl (lv_at hl 1 rfl) ?_
        refine Cld_18 (pc := 49) X w h.1 dX6_isBroken_49 ?_
        have h := h.2
        refine lv_i2l (pc := 50) hx hb dX6_isBroken_50 rfl ?_
        refine lq_eq (pc := 51) (tgt := 59) hx hb dX6_isBroken_51 dX6_isBroken_52 (by decide) (fun c_ => ?_) (fun c_ => ?_)
        · have h := h.1 c_
          refine lv_iconst (pc := 59) (v := (0 : Int32)) hx hb dX6_isBroken_59 (by decide) ?_
          exact Czret (pc := 60) X w rfl ⟨rfl, h⟩ dX6_isBroken_60
        · have h := h.2 c_
          refine lv_iconst (pc := 55) (v := (1 : Int32)) hx hb dX6_isBroken_55 (by decide) ?_
          refine lv_goto (pc := 56) (tgt := 60) hx hb dX6_isBroken_56 (by decide) ?_
          exact Czret (pc := 60) X w rfl ⟨rfl, h⟩ dX6_isBroken_60
    · have h := h.2 c_
      refine lv_lload_n (pc := 16) hx hb dX6_isBroken_16 rfl (lv_at hl 3 rfl) ?_
      refine lv_aload_n (pc := 17) hx hb dX6_isBroken_17 rfl (lv_at hl 0 rfl) ?_
      refine Cgf_10_9 (pc := 18) X w kw165 dX6_isBroken_18 ?_
      refine lv_iload_n (pc := 21) hx hb dX6_isBroken_21 rfl (lv_at hl 2 rfl) ?_
      refine lv_iload (pc := 22) hx hb dX6_isBroken_22 (lv_at hl 4 rfl) ?_
      refine lv_iadd (pc := 24) hx hb dX6_isBroken_24 ?_
      refine Cld_22 (pc := 25) X w h.1 dX6_isBroken_25 ?_
      have h := h.2
      refine lv_ladd (pc := 26) hx hb dX6_isBroken_26 ?_
      refine lv_topl (fun x3_1 e_ => ?_)
      have h := h x3_1 e_
      refine lv_lstore_n (pc := 27) (lv' := [(3, .long x3_1), (0, .ref (ad 10)), (1, .int x1), (2, .int x2), (5, .int x5)]) hx hb dX6_isBroken_27 rfl hl (by decide) rfl (fun ls hl => ?_)
      obtain ⟨x5_2, e_⟩ : ∃ y : Int32, y = x5 + (1 : Int32) := ⟨_, rfl⟩
      have h := h x5_2 e_
      refine lv_iinc (pc := 28) (v := x5_2) (lv' := [(5, .int x5_2), (3, .long x3_1), (0, .ref (ad 10)), (1, .int x1), (2, .int x2)]) hx hb dX6_isBroken_28 hl (k := 4) rfl (by rw [e_]; rfl) (by decide) rfl (fun ls hl => ?_)
      refine lv_goto (pc := 31) (tgt := 10) hx hb dX6_isBroken_31 (by decide) ?_
      exact ih x1 x2 x3_1 x5_2 H locs ls h w (lv_sub hl [2, 3, 4, 1, 0] rfl)
set_option maxHeartbeats 4000000 in
set_option maxRecDepth 100000 in
theorem okX6_isBroken (l : Launch) {D : va_G} {g : Nat → ClassId} {ad : Nat → Nat} (hJ : CJ ad) {u : Mm} {a1 : Int32} {Q : Int32 → Prop} (h : wX6_isBroken u a1 Q) : Met l yX6_isBroken (Cond.code yX6_isBroken cX6_isBroken 6 (some .boolean) :: gt) ({ frames := 4, cells := 0, slots := 0, locals := 80 } : Room) (CPc D g ad u [.ref (ad 10), .int a1]) (va_Qi (fun r u1 => bz r ∧ (u = u1 ∧ Q r)) (CB D g ad) (CA ad)) 0 0 (CA ad) := by
  refine Met.ofW (cc := cX6_isBroken) (maxL := 6) (ret := (some .boolean)) (by decide) rfl ?_
  intro p e s m args below meth c s₁ B hml hv
  refine Centry (own := RX6) B hml hv hJ rfl (Nat.le_of_ble_eq_true rfl) (fun ls H locs X w hl => ?_)
  obtain ⟨⟨hx, hb, hml, hown, hts⟩, hr, hlocks, hK, hJ, hAA⟩ := id X
  have hl : lv_has ls 6 [(0, .ref (ad 10)), (1, .int a1)] := hl
  unfold wX6_isBroken at h
  refine lv_iload_n (pc := 0) hx hb dX6_isBroken_0 rfl (lv_at hl 1 rfl) ?_
  refine Ccalli (rest := []) (CrunS (pc := 1) X w (okX6_firstCellOf l hJ h) kw195 kmX6_firstCellOf ⟨rfl, rfl⟩ ⟨by decide, by decide⟩ rfl hl.1 rfl (Nat.le_of_ble_eq_true rfl) dX6_isBroken_1) w (fun r1 u9_ H locs h w => ?_)
  obtain ⟨rfl, h⟩ := h
  refine lv_istore_n (pc := 4) (lv' := [(2, .int r1), (0, .ref (ad 10)), (1, .int a1)]) hx hb dX6_isBroken_4 rfl hl (by decide) rfl (fun ls hl => ?_)
  refine lv_lconst (pc := 5) (v := (0 : Int64)) hx hb dX6_isBroken_5 (by decide) ?_
  refine lv_lstore_n (pc := 6) (lv' := [(3, .long (0 : Int64)), (2, .int r1), (0, .ref (ad 10)), (1, .int a1)]) hx hb dX6_isBroken_6 rfl hl (by decide) rfl (fun ls hl => ?_)
  refine lv_iconst (pc := 7) (v := (0 : Int32)) hx hb dX6_isBroken_7 (by decide) ?_
  refine lv_istore (pc := 8) (lv' := [(5, .int (0 : Int32)), (3, .long (0 : Int64)), (2, .int r1), (0, .ref (ad 10)), (1, .int a1)]) hx hb dX6_isBroken_8 hl (by decide) rfl (fun ls hl => ?_)
  obtain ⟨n9, h⟩ := h
  exact bX6_isBroken_10 X n9 a1 r1 (0 : Int64) (0 : Int32) H locs ls h w (lv_sub hl [3, 4, 2, 1, 0] rfl)
set_option maxHeartbeats 4000000 in
set_option maxRecDepth 100000 in
theorem bX6_howManyOpen_19 {l : Launch} {p : Program} {e : Env} {s : State} {m : MethodId} {args : Array Value} {below : List Frame} {meth : Method} {c : Code} {D : va_G} {g : Nat → ClassId} {ad : Nat → Nat} {u : Mm} {Q : Int32 → Prop} {k11 : Int32 → Int32 → Int32 → Prop} (X : CX p s m args meth c cX6_howManyOpen RX6 5 (some .int) (Cond.code yX6_howManyOpen cX6_howManyOpen 5 (some .int)) D g ad (CA ad)) (hk11 : ∀ (x1 : Int32) (x2 : Int32) (x3 : Int32) (H : Heap) (locs : List Loc) (ls : Array Slot), k11 x1 x2 x3 → CWd D g ad (CA ad) s u H locs → lv_has ls 5 [(0, .ref (ad 10)), (1, .int x1), (2, .int x2), (3, .int x3)] → W p l e ({ frames := 3, cells := 0, slots := 0, locals := 75 } : Room) s m args below meth c H locs 0 0 (MQ below (va_Qi (fun r u1 => u = u1 ∧ Q r) (CB D g ad) (CA ad)) args s 0 0 (CA ad)) (F0 m 11 ls [])) : ∀ (n : Nat) (x1 : Int32) (x2 : Int32) (x3 : Int32) (x4 : Int32) (H : Heap) (locs : List Loc) (ls : Array Slot), wX6_howManyOpen_b19 u k11 Q n x1 x2 x3 x4 → CWd D g ad (CA ad) s u H locs → lv_has ls 5 [(0, .ref (ad 10)), (1, .int x1), (2, .int x2), (3, .int x3), (4, .int x4)] → W p l e ({ frames := 3, cells := 0, slots := 0, locals := 75 } : Room) s m args below meth c H locs 0 0 (MQ below (va_Qi (fun r u1 => u = u1 ∧ Q r) (CB D g ad) (CA ad)) args s 0 0 (CA ad)) (F0 m 19 ls []) := by
  obtain ⟨⟨hx, hb, hml, hown, hts⟩, hr, hlocks, hK, hJ, hAA⟩ := id X
  intro n
  induction n with
  | zero =>
    intro x1 x2 x3 x4 H locs ls h
    exact False.elim h
  | succ n ih =>
    intro x1 x2 x3 x4 H locs ls h w hl
    unfold wX6_howManyOpen_b19 at h
    refine lv_iload (pc := 19) hx hb dX6_howManyOpen_19 (lv_at hl 4 rfl) ?_
    refine lv_bipush (pc := 21) (v := (12 : Int32)) hx hb dX6_howManyOpen_21 (by decide) ?_
    refine lv_icmp_ge (pc := 23) (tgt := 51) hx hb dX6_howManyOpen_23 (by decide) (fun c_ => ?_) (fun c_ => ?_)
    · have h := h.1 c_
      obtain ⟨x3_1, e_⟩ : ∃ y : Int32, y = x3 + (1 : Int32) := ⟨_, rfl⟩
      have h := h x3_1 e_
      refine lv_iinc (pc := 51) (v := x3_1) (lv' := [(3, .int x3_1), (0, .ref (ad 10)), (1, .int x1), (2, .int x2), (4, .int x4)]) hx hb dX6_howManyOpen_51 hl (k := 3) rfl (by rw [e_]; rfl) (by decide) rfl (fun ls hl => ?_)
      refine lv_goto (pc := 54) (tgt := 11) hx hb dX6_howManyOpen_54 (by decide) ?_
      exact hk11 x1 x2 x3_1 H locs ls h w (lv_sub hl [1, 2, 3, 0] rfl)
    · have h := h.2 c_
      refine lv_iload_n (pc := 26) hx hb dX6_howManyOpen_26 rfl (lv_at hl 1 rfl) ?_
      refine lv_aload_n (pc := 27) hx hb dX6_howManyOpen_27 rfl (lv_at hl 0 rfl) ?_
      refine lv_iload_n (pc := 28) hx hb dX6_howManyOpen_28 rfl (lv_at hl 2 rfl) ?_
      refine lv_iload_n (pc := 29) hx hb dX6_howManyOpen_29 rfl (lv_at hl 3 rfl) ?_
      refine lv_iload (pc := 30) hx hb dX6_howManyOpen_30 (lv_at hl 4 rfl) ?_
      refine Ccalli (rest := [.int x1]) (CrunV (pc := 32) X w (okX6_isOpen l hJ h) kw198 kmX6_isOpen ⟨rfl, rfl⟩ ⟨by decide, by decide⟩ (Crv_10 X w) rfl hl.1 rfl (Nat.le_of_ble_eq_true rfl) dX6_howManyOpen_32) w (fun r2 u9_ H locs h w => ?_)
      obtain ⟨hz_r2, h⟩ := h
      obtain ⟨rfl, h⟩ := h
      refine lv_if_eq (pc := 35) (tgt := 42) hx hb dX6_howManyOpen_35 (by decide) (fun c_ => ?_) (fun c_ => ?_)
      · have h := h.1 c_
        refine lv_iconst (pc := 42) (v := (0 : Int32)) hx hb dX6_howManyOpen_42 (by decide) ?_
        refine lv_iadd (pc := 43) hx hb dX6_howManyOpen_43 ?_
        refine lv_topi (fun x1_3 e_ => ?_)
        have h := h x1_3 e_
        refine lv_istore_n (pc := 44) (lv' := [(1, .int x1_3), (0, .ref (ad 10)), (2, .int x2), (3, .int x3), (4, .int x4)]) hx hb dX6_howManyOpen_44 rfl hl (by decide) rfl (fun ls hl => ?_)
        obtain ⟨x4_4, e_⟩ : ∃ y : Int32, y = x4 + (1 : Int32) := ⟨_, rfl⟩
        have h := h x4_4 e_
        refine lv_iinc (pc := 45) (v := x4_4) (lv' := [(4, .int x4_4), (1, .int x1_3), (0, .ref (ad 10)), (2, .int x2), (3, .int x3)]) hx hb dX6_howManyOpen_45 hl (k := 4) rfl (by rw [e_]; rfl) (by decide) rfl (fun ls hl => ?_)
        refine lv_goto (pc := 48) (tgt := 19) hx hb dX6_howManyOpen_48 (by decide) ?_
        exact ih x1_3 x2 x3 x4_4 H locs ls h w (lv_sub hl [2, 1, 3, 4, 0] rfl)
      · have h := h.2 c_
        refine lv_iconst (pc := 38) (v := (1 : Int32)) hx hb dX6_howManyOpen_38 (by decide) ?_
        refine lv_goto (pc := 39) (tgt := 43) hx hb dX6_howManyOpen_39 (by decide) ?_
        refine lv_iadd (pc := 43) hx hb dX6_howManyOpen_43 ?_
        refine lv_topi (fun x1_5 e_ => ?_)
        have h := h x1_5 e_
        refine lv_istore_n (pc := 44) (lv' := [(1, .int x1_5), (0, .ref (ad 10)), (2, .int x2), (3, .int x3), (4, .int x4)]) hx hb dX6_howManyOpen_44 rfl hl (by decide) rfl (fun ls hl => ?_)
        obtain ⟨x4_6, e_⟩ : ∃ y : Int32, y = x4 + (1 : Int32) := ⟨_, rfl⟩
        have h := h x4_6 e_
        refine lv_iinc (pc := 45) (v := x4_6) (lv' := [(4, .int x4_6), (1, .int x1_5), (0, .ref (ad 10)), (2, .int x2), (3, .int x3)]) hx hb dX6_howManyOpen_45 hl (k := 4) rfl (by rw [e_]; rfl) (by decide) rfl (fun ls hl => ?_)
        refine lv_goto (pc := 48) (tgt := 19) hx hb dX6_howManyOpen_48 (by decide) ?_
        exact ih x1_5 x2 x3 x4_6 H locs ls h w (lv_sub hl [2, 1, 3, 4, 0] rfl)
set_option maxHeartbeats 4000000 in
set_option maxRecDepth 100000 in
theorem bX6_howManyOpen_11 {l : Launch} {p : Program} {e : Env} {s : State} {m : MethodId} {args : Array Value} {below : List Frame} {meth : Method} {c : Code} {D : va_G} {g : Nat → ClassId} {ad : Nat → Nat} {u : Mm} {Q : Int32 → Prop} {k4 : Int32 → Int32 → Prop} (X : CX p s m args meth c cX6_howManyOpen RX6 5 (some .int) (Cond.code yX6_howManyOpen cX6_howManyOpen 5 (some .int)) D g ad (CA ad)) (hk4 : ∀ (x1 : Int32) (x2 : Int32) (H : Heap) (locs : List Loc) (ls : Array Slot), k4 x1 x2 → CWd D g ad (CA ad) s u H locs → lv_has ls 5 [(0, .ref (ad 10)), (1, .int x1), (2, .int x2)] → W p l e ({ frames := 3, cells := 0, slots := 0, locals := 75 } : Room) s m args below meth c H locs 0 0 (MQ below (va_Qi (fun r u1 => u = u1 ∧ Q r) (CB D g ad) (CA ad)) args s 0 0 (CA ad)) (F0 m 4 ls [])) : ∀ (n : Nat) (x1 : Int32) (x2 : Int32) (x3 : Int32) (H : Heap) (locs : List Loc) (ls : Array Slot), wX6_howManyOpen_b11 u k4 Q n x1 x2 x3 → CWd D g ad (CA ad) s u H locs → lv_has ls 5 [(0, .ref (ad 10)), (1, .int x1), (2, .int x2), (3, .int x3)] → W p l e ({ frames := 3, cells := 0, slots := 0, locals := 75 } : Room) s m args below meth c H locs 0 0 (MQ below (va_Qi (fun r u1 => u = u1 ∧ Q r) (CB D g ad) (CA ad)) args s 0 0 (CA ad)) (F0 m 11 ls []) := by
  obtain ⟨⟨hx, hb, hml, hown, hts⟩, hr, hlocks, hK, hJ, hAA⟩ := id X
  intro n
  induction n with
  | zero =>
    intro x1 x2 x3 H locs ls h
    exact False.elim h
  | succ n ih =>
    intro x1 x2 x3 H locs ls h w hl
    unfold wX6_howManyOpen_b11 at h
    refine lv_iload_n (pc := 11) hx hb dX6_howManyOpen_11 rfl (lv_at hl 3 rfl) ?_
    refine lv_iconst (pc := 12) (v := (4 : Int32)) hx hb dX6_howManyOpen_12 (by decide) ?_
    refine lv_icmp_ge (pc := 13) (tgt := 57) hx hb dX6_howManyOpen_13 (by decide) (fun c_ => ?_) (fun c_ => ?_)
    · have h := h.1 c_
      obtain ⟨x2_1, e_⟩ : ∃ y : Int32, y = x2 + (1 : Int32) := ⟨_, rfl⟩
      have h := h x2_1 e_
      refine lv_iinc (pc := 57) (v := x2_1) (lv' := [(2, .int x2_1), (0, .ref (ad 10)), (1, .int x1), (3, .int x3)]) hx hb dX6_howManyOpen_57 hl (k := 2) rfl (by rw [e_]; rfl) (by decide) rfl (fun ls hl => ?_)
      refine lv_goto (pc := 60) (tgt := 4) hx hb dX6_howManyOpen_60 (by decide) ?_
      exact hk4 x1 x2_1 H locs ls h w (lv_sub hl [1, 2, 0] rfl)
    · have h := h.2 c_
      refine lv_iconst (pc := 16) (v := (0 : Int32)) hx hb dX6_howManyOpen_16 (by decide) ?_
      refine lv_istore (pc := 17) (lv' := [(4, .int (0 : Int32)), (0, .ref (ad 10)), (1, .int x1), (2, .int x2), (3, .int x3)]) hx hb dX6_howManyOpen_17 hl (by decide) rfl (fun ls hl => ?_)
      obtain ⟨n9, h⟩ := h
      refine bX6_howManyOpen_19 X ?_ n9 x1 x2 x3 (0 : Int32) H locs ls h w (lv_sub hl [1, 2, 3, 4, 0] rfl)
      · intro x1 x2 x3 H locs ls h w hl
        exact ih x1 x2 x3 H locs ls h w (lv_sub hl [0, 1, 2, 3] rfl)
set_option maxHeartbeats 4000000 in
set_option maxRecDepth 100000 in
theorem bX6_howManyOpen_4 {l : Launch} {p : Program} {e : Env} {s : State} {m : MethodId} {args : Array Value} {below : List Frame} {meth : Method} {c : Code} {D : va_G} {g : Nat → ClassId} {ad : Nat → Nat} {u : Mm} {Q : Int32 → Prop} (X : CX p s m args meth c cX6_howManyOpen RX6 5 (some .int) (Cond.code yX6_howManyOpen cX6_howManyOpen 5 (some .int)) D g ad (CA ad)) : ∀ (n : Nat) (x1 : Int32) (x2 : Int32) (H : Heap) (locs : List Loc) (ls : Array Slot), wX6_howManyOpen_b4 u Q n x1 x2 → CWd D g ad (CA ad) s u H locs → lv_has ls 5 [(0, .ref (ad 10)), (1, .int x1), (2, .int x2)] → W p l e ({ frames := 3, cells := 0, slots := 0, locals := 75 } : Room) s m args below meth c H locs 0 0 (MQ below (va_Qi (fun r u1 => u = u1 ∧ Q r) (CB D g ad) (CA ad)) args s 0 0 (CA ad)) (F0 m 4 ls []) := by
  obtain ⟨⟨hx, hb, hml, hown, hts⟩, hr, hlocks, hK, hJ, hAA⟩ := id X
  intro n
  induction n with
  | zero =>
    intro x1 x2 H locs ls h
    exact False.elim h
  | succ n ih =>
    intro x1 x2 H locs ls h w hl
    unfold wX6_howManyOpen_b4 at h
    refine lv_iload_n (pc := 4) hx hb dX6_howManyOpen_4 rfl (lv_at hl 2 rfl) ?_
    refine lv_iconst (pc := 5) (v := (2 : Int32)) hx hb dX6_howManyOpen_5 (by decide) ?_
    refine lv_icmp_ge (pc := 6) (tgt := 63) hx hb dX6_howManyOpen_6 (by decide) (fun c_ => ?_) (fun c_ => ?_)
    · have h := h.1 c_
      refine lv_iload_n (pc := 63) hx hb dX6_howManyOpen_63 rfl (lv_at hl 1 rfl) ?_
      exact Ciret (pc := 64) X w ⟨rfl, h⟩ dX6_howManyOpen_64
    · have h := h.2 c_
      refine lv_iconst (pc := 9) (v := (0 : Int32)) hx hb dX6_howManyOpen_9 (by decide) ?_
      refine lv_istore_n (pc := 10) (lv' := [(3, .int (0 : Int32)), (0, .ref (ad 10)), (1, .int x1), (2, .int x2)]) hx hb dX6_howManyOpen_10 rfl hl (by decide) rfl (fun ls hl => ?_)
      obtain ⟨n9, h⟩ := h
      refine bX6_howManyOpen_11 X ?_ n9 x1 x2 (0 : Int32) H locs ls h w (lv_sub hl [1, 2, 3, 0] rfl)
      · intro x1 x2 H locs ls h w hl
        exact ih x1 x2 H locs ls h w (lv_sub hl [0, 1, 2] rfl)
set_option maxHeartbeats 4000000 in
set_option maxRecDepth 100000 in
theorem okX6_howManyOpen (l : Launch) {D : va_G} {g : Nat → ClassId} {ad : Nat → Nat} (hJ : CJ ad) {u : Mm} {Q : Int32 → Prop} (h : wX6_howManyOpen u Q) : Met l yX6_howManyOpen (Cond.code yX6_howManyOpen cX6_howManyOpen 5 (some .int) :: gt) ({ frames := 3, cells := 0, slots := 0, locals := 75 } : Room) (CPc D g ad u [.ref (ad 10)]) (va_Qi (fun r u1 => u = u1 ∧ Q r) (CB D g ad) (CA ad)) 0 0 (CA ad) := by
  refine Met.ofW (cc := cX6_howManyOpen) (maxL := 5) (ret := (some .int)) (by decide) rfl ?_
  intro p e s m args below meth c s₁ B hml hv
  refine Centry (own := RX6) B hml hv hJ rfl (Nat.le_of_ble_eq_true rfl) (fun ls H locs X w hl => ?_)
  obtain ⟨⟨hx, hb, hml, hown, hts⟩, hr, hlocks, hK, hJ, hAA⟩ := id X
  have hl : lv_has ls 5 [(0, .ref (ad 10))] := hl
  unfold wX6_howManyOpen at h
  refine lv_iconst (pc := 0) (v := (0 : Int32)) hx hb dX6_howManyOpen_0 (by decide) ?_
  refine lv_istore_n (pc := 1) (lv' := [(1, .int (0 : Int32)), (0, .ref (ad 10))]) hx hb dX6_howManyOpen_1 rfl hl (by decide) rfl (fun ls hl => ?_)
  refine lv_iconst (pc := 2) (v := (0 : Int32)) hx hb dX6_howManyOpen_2 (by decide) ?_
  refine lv_istore_n (pc := 3) (lv' := [(2, .int (0 : Int32)), (1, .int (0 : Int32)), (0, .ref (ad 10))]) hx hb dX6_howManyOpen_3 rfl hl (by decide) rfl (fun ls hl => ?_)
  obtain ⟨n9, h⟩ := h
  exact bX6_howManyOpen_4 X n9 (0 : Int32) (0 : Int32) H locs ls h w (lv_sub hl [2, 1, 0] rfl)
set_option maxHeartbeats 4000000 in
set_option maxRecDepth 100000 in
theorem bX6_howManyBroken_6 {l : Launch} {p : Program} {e : Env} {s : State} {m : MethodId} {args : Array Value} {below : List Frame} {meth : Method} {c : Code} {D : va_G} {g : Nat → ClassId} {ad : Nat → Nat} {u : Mm} {Q : Int32 → Prop} (X : CX p s m args meth c cX6_howManyBroken RX6 3 (some .int) (Cond.code yX6_howManyBroken cX6_howManyBroken 3 (some .int)) D g ad (CA ad)) : ∀ (n : Nat) (x1 : Int32) (x2 : Int32) (H : Heap) (locs : List Loc) (ls : Array Slot), wX6_howManyBroken_b6 u Q n x1 x2 → CWd D g ad (CA ad) s u H locs → lv_has ls 3 [(0, .ref (ad 10)), (1, .int x1), (2, .int x2)] → W p l e ({ frames := 5, cells := 0, slots := 0, locals := 105 } : Room) s m args below meth c H locs 0 0 (MQ below (va_Qi (fun r u1 => u = u1 ∧ Q r) (CB D g ad) (CA ad)) args s 0 0 (CA ad)) (F0 m 6 ls []) := by
  obtain ⟨⟨hx, hb, hml, hown, hts⟩, hr, hlocks, hK, hJ, hAA⟩ := id X
  intro n
  induction n with
  | zero =>
    intro x1 x2 H locs ls h
    exact False.elim h
  | succ n ih =>
    intro x1 x2 H locs ls h w hl
    unfold wX6_howManyBroken_b6 at h
    refine lv_iload_n (pc := 6) hx hb dX6_howManyBroken_6 rfl (lv_at hl 2 rfl) ?_
    refine lv_sipush (pc := 7) (v := (720 : Int32)) hx hb dX6_howManyBroken_7 (by decide) ?_
    refine lv_icmp_ge (pc := 10) (tgt := 35) hx hb dX6_howManyBroken_10 (by decide) (fun c_ => ?_) (fun c_ => ?_)
    · have h := h.1 c_
      refine lv_iload_n (pc := 35) hx hb dX6_howManyBroken_35 rfl (lv_at hl 1 rfl) ?_
      exact Ciret (pc := 36) X w ⟨rfl, h⟩ dX6_howManyBroken_36
    · have h := h.2 c_
      refine lv_iload_n (pc := 13) hx hb dX6_howManyBroken_13 rfl (lv_at hl 1 rfl) ?_
      refine lv_aload_n (pc := 14) hx hb dX6_howManyBroken_14 rfl (lv_at hl 0 rfl) ?_
      refine lv_iload_n (pc := 15) hx hb dX6_howManyBroken_15 rfl (lv_at hl 2 rfl) ?_
      refine Ccalli (rest := [.int x1]) (CrunV (pc := 16) X w (okX6_isBroken l hJ h) kw202 kmX6_isBroken ⟨rfl, rfl⟩ ⟨by decide, by decide⟩ (Crv_10 X w) rfl hl.1 rfl (Nat.le_of_ble_eq_true rfl) dX6_howManyBroken_16) w (fun r1 u9_ H locs h w => ?_)
      obtain ⟨hz_r1, h⟩ := h
      obtain ⟨rfl, h⟩ := h
      refine lv_if_eq (pc := 19) (tgt := 26) hx hb dX6_howManyBroken_19 (by decide) (fun c_ => ?_) (fun c_ => ?_)
      · have h := h.1 c_
        refine lv_iconst (pc := 26) (v := (0 : Int32)) hx hb dX6_howManyBroken_26 (by decide) ?_
        refine lv_iadd (pc := 27) hx hb dX6_howManyBroken_27 ?_
        refine lv_topi (fun x1_2 e_ => ?_)
        have h := h x1_2 e_
        refine lv_istore_n (pc := 28) (lv' := [(1, .int x1_2), (0, .ref (ad 10)), (2, .int x2)]) hx hb dX6_howManyBroken_28 rfl hl (by decide) rfl (fun ls hl => ?_)
        obtain ⟨x2_3, e_⟩ : ∃ y : Int32, y = x2 + (1 : Int32) := ⟨_, rfl⟩
        have h := h x2_3 e_
        refine lv_iinc (pc := 29) (v := x2_3) (lv' := [(2, .int x2_3), (1, .int x1_2), (0, .ref (ad 10))]) hx hb dX6_howManyBroken_29 hl (k := 2) rfl (by rw [e_]; rfl) (by decide) rfl (fun ls hl => ?_)
        refine lv_goto (pc := 32) (tgt := 6) hx hb dX6_howManyBroken_32 (by decide) ?_
        exact ih x1_2 x2_3 H locs ls h w (lv_sub hl [2, 1, 0] rfl)
      · have h := h.2 c_
        refine lv_iconst (pc := 22) (v := (1 : Int32)) hx hb dX6_howManyBroken_22 (by decide) ?_
        refine lv_goto (pc := 23) (tgt := 27) hx hb dX6_howManyBroken_23 (by decide) ?_
        refine lv_iadd (pc := 27) hx hb dX6_howManyBroken_27 ?_
        refine lv_topi (fun x1_4 e_ => ?_)
        have h := h x1_4 e_
        refine lv_istore_n (pc := 28) (lv' := [(1, .int x1_4), (0, .ref (ad 10)), (2, .int x2)]) hx hb dX6_howManyBroken_28 rfl hl (by decide) rfl (fun ls hl => ?_)
        obtain ⟨x2_5, e_⟩ : ∃ y : Int32, y = x2 + (1 : Int32) := ⟨_, rfl⟩
        have h := h x2_5 e_
        refine lv_iinc (pc := 29) (v := x2_5) (lv' := [(2, .int x2_5), (1, .int x1_4), (0, .ref (ad 10))]) hx hb dX6_howManyBroken_29 hl (k := 2) rfl (by rw [e_]; rfl) (by decide) rfl (fun ls hl => ?_)
        refine lv_goto (pc := 32) (tgt := 6) hx hb dX6_howManyBroken_32 (by decide) ?_
        exact ih x1_4 x2_5 H locs ls h w (lv_sub hl [2, 1, 0] rfl)
set_option maxHeartbeats 4000000 in
set_option maxRecDepth 100000 in
theorem okX6_howManyBroken (l : Launch) {D : va_G} {g : Nat → ClassId} {ad : Nat → Nat} (hJ : CJ ad) {u : Mm} {Q : Int32 → Prop} (h : wX6_howManyBroken u Q) : Met l yX6_howManyBroken (Cond.code yX6_howManyBroken cX6_howManyBroken 3 (some .int) :: gt) ({ frames := 5, cells := 0, slots := 0, locals := 105 } : Room) (CPc D g ad u [.ref (ad 10)]) (va_Qi (fun r u1 => u = u1 ∧ Q r) (CB D g ad) (CA ad)) 0 0 (CA ad) := by
  refine Met.ofW (cc := cX6_howManyBroken) (maxL := 3) (ret := (some .int)) (by decide) rfl ?_
  intro p e s m args below meth c s₁ B hml hv
  refine Centry (own := RX6) B hml hv hJ rfl (Nat.le_of_ble_eq_true rfl) (fun ls H locs X w hl => ?_)
  obtain ⟨⟨hx, hb, hml, hown, hts⟩, hr, hlocks, hK, hJ, hAA⟩ := id X
  have hl : lv_has ls 3 [(0, .ref (ad 10))] := hl
  unfold wX6_howManyBroken at h
  refine lv_iconst (pc := 0) (v := (0 : Int32)) hx hb dX6_howManyBroken_0 (by decide) ?_
  refine lv_istore_n (pc := 1) (lv' := [(1, .int (0 : Int32)), (0, .ref (ad 10))]) hx hb dX6_howManyBroken_1 rfl hl (by decide) rfl (fun ls hl => ?_)
  refine lv_sipush (pc := 2) (v := (576 : Int32)) hx hb dX6_howManyBroken_2 (by decide) ?_
  refine lv_istore_n (pc := 5) (lv' := [(2, .int (576 : Int32)), (1, .int (0 : Int32)), (0, .ref (ad 10))]) hx hb dX6_howManyBroken_5 rfl hl (by decide) rfl (fun ls hl => ?_)
  obtain ⟨n9, h⟩ := h
  exact bX6_howManyBroken_6 X n9 (0 : Int32) (576 : Int32) H locs ls h w (lv_sub hl [2, 1, 0] rfl)
set_option maxHeartbeats 4000000 in
set_option maxRecDepth 100000 in
theorem bX6_findBroken_6 {l : Launch} {p : Program} {e : Env} {s : State} {m : MethodId} {args : Array Value} {below : List Frame} {meth : Method} {c : Code} {D : va_G} {g : Nat → ClassId} {ad : Nat → Nat} {u : Mm} {Q : Int32 → Prop} (X : CX p s m args meth c cX6_findBroken RX6 4 (some .int) (Cond.code yX6_findBroken cX6_findBroken 4 (some .int)) D g ad (CA ad)) : ∀ (n : Nat) (x2 : Int32) (x3 : Int32) (H : Heap) (locs : List Loc) (ls : Array Slot), wX6_findBroken_b6 u Q n x2 x3 → CWd D g ad (CA ad) s u H locs → lv_has ls 4 [(0, .ref (ad 10)), (2, .int x2), (3, .int x3)] → W p l e ({ frames := 5, cells := 0, slots := 0, locals := 105 } : Room) s m args below meth c H locs 0 0 (MQ below (va_Qi (fun r u1 => u = u1 ∧ Q r) (CB D g ad) (CA ad)) args s 0 0 (CA ad)) (F0 m 6 ls []) := by
  obtain ⟨⟨hx, hb, hml, hown, hts⟩, hr, hlocks, hK, hJ, hAA⟩ := id X
  intro n
  induction n with
  | zero =>
    intro x2 x3 H locs ls h
    exact False.elim h
  | succ n ih =>
    intro x2 x3 H locs ls h w hl
    unfold wX6_findBroken_b6 at h
    refine lv_iload_n (pc := 6) hx hb dX6_findBroken_6 rfl (lv_at hl 2 rfl) ?_
    refine lv_sipush (pc := 7) (v := (720 : Int32)) hx hb dX6_findBroken_7 (by decide) ?_
    refine lv_icmp_ge (pc := 10) (tgt := 36) hx hb dX6_findBroken_10 (by decide) (fun c_ => ?_) (fun c_ => ?_)
    · have h := h.1 c_
      refine lv_iconst (pc := 36) (v := (-1 : Int32)) hx hb dX6_findBroken_36 (by decide) ?_
      exact Ciret (pc := 37) X w ⟨rfl, h⟩ dX6_findBroken_37
    · have h := h.2 c_
      refine lv_aload_n (pc := 13) hx hb dX6_findBroken_13 rfl (lv_at hl 0 rfl) ?_
      refine lv_iload_n (pc := 14) hx hb dX6_findBroken_14 rfl (lv_at hl 2 rfl) ?_
      refine Ccalli (rest := []) (CrunV (pc := 15) X w (okX6_isBroken l hJ h) kw202 kmX6_isBroken ⟨rfl, rfl⟩ ⟨by decide, by decide⟩ (Crv_10 X w) rfl hl.1 rfl (Nat.le_of_ble_eq_true rfl) dX6_findBroken_15) w (fun r1 u9_ H locs h w => ?_)
      obtain ⟨hz_r1, h⟩ := h
      obtain ⟨rfl, h⟩ := h
      refine lv_if_eq (pc := 18) (tgt := 30) hx hb dX6_findBroken_18 (by decide) (fun c_ => ?_) (fun c_ => ?_)
      · have h := h.1 c_
        obtain ⟨x3_2, e_⟩ : ∃ y : Int32, y = x3 + (1 : Int32) := ⟨_, rfl⟩
        have h := h x3_2 e_
        refine lv_iinc (pc := 30) (v := x3_2) (lv' := [(3, .int x3_2), (0, .ref (ad 10)), (2, .int x2)]) hx hb dX6_findBroken_30 hl (k := 2) rfl (by rw [e_]; rfl) (by decide) rfl (fun ls hl => ?_)
        refine lv_goto (pc := 33) (tgt := 6) hx hb dX6_findBroken_33 (by decide) ?_
        exact ih x2 x3_2 H locs ls h w (lv_sub hl [1, 2, 0] rfl)
      · have h := h.2 c_
        refine lv_iload_n (pc := 21) hx hb dX6_findBroken_21 rfl (lv_at hl 1 rfl) ?_
        refine lv_if_ne (pc := 22) (tgt := 27) hx hb dX6_findBroken_22 (by decide) (fun c_ => ?_) (fun c_ => ?_)
        · have h := h.2 c_
          obtain ⟨x2_3, e_⟩ : ∃ y : Int32, y = x2 + (-1 : Int32) := ⟨_, rfl⟩
          have h := h x2_3 e_
          refine lv_iinc (pc := 27) (v := x2_3) (lv' := [(2, .int x2_3), (0, .ref (ad 10)), (3, .int x3)]) hx hb dX6_findBroken_27 hl (k := 1) rfl (by rw [e_]; rfl) (by decide) rfl (fun ls hl => ?_)
          obtain ⟨x3_4, e_⟩ : ∃ y : Int32, y = x3 + (1 : Int32) := ⟨_, rfl⟩
          have h := h x3_4 e_
          refine lv_iinc (pc := 30) (v := x3_4) (lv' := [(3, .int x3_4), (2, .int x2_3), (0, .ref (ad 10))]) hx hb dX6_findBroken_30 hl (k := 2) rfl (by rw [e_]; rfl) (by decide) rfl (fun ls hl => ?_)
          refine lv_goto (pc := 33) (tgt := 6) hx hb dX6_findBroken_33 (by decide) ?_
          exact ih x2_3 x3_4 H locs ls h w (lv_sub hl [2, 1, 0] rfl)
        · have h := h.1 c_
          refine lv_iload_n (pc := 25) hx hb dX6_findBroken_25 rfl (lv_at hl 2 rfl) ?_
          exact Ciret (pc := 26) X w ⟨rfl, h⟩ dX6_findBroken_26
set_option maxHeartbeats 4000000 in
set_option maxRecDepth 100000 in
theorem okX6_findBroken (l : Launch) {D : va_G} {g : Nat → ClassId} {ad : Nat → Nat} (hJ : CJ ad) {u : Mm} {a1 : Int32} {Q : Int32 → Prop} (h : wX6_findBroken u a1 Q) : Met l yX6_findBroken (Cond.code yX6_findBroken cX6_findBroken 4 (some .int) :: gt) ({ frames := 5, cells := 0, slots := 0, locals := 105 } : Room) (CPc D g ad u [.ref (ad 10), .int a1]) (va_Qi (fun r u1 => u = u1 ∧ Q r) (CB D g ad) (CA ad)) 0 0 (CA ad) := by
  refine Met.ofW (cc := cX6_findBroken) (maxL := 4) (ret := (some .int)) (by decide) rfl ?_
  intro p e s m args below meth c s₁ B hml hv
  refine Centry (own := RX6) B hml hv hJ rfl (Nat.le_of_ble_eq_true rfl) (fun ls H locs X w hl => ?_)
  obtain ⟨⟨hx, hb, hml, hown, hts⟩, hr, hlocks, hK, hJ, hAA⟩ := id X
  have hl : lv_has ls 4 [(0, .ref (ad 10)), (1, .int a1)] := hl
  unfold wX6_findBroken at h
  refine lv_iload_n (pc := 0) hx hb dX6_findBroken_0 rfl (lv_at hl 1 rfl) ?_
  refine lv_istore_n (pc := 1) (lv' := [(2, .int a1), (0, .ref (ad 10)), (1, .int a1)]) hx hb dX6_findBroken_1 rfl hl (by decide) rfl (fun ls hl => ?_)
  refine lv_sipush (pc := 2) (v := (576 : Int32)) hx hb dX6_findBroken_2 (by decide) ?_
  refine lv_istore_n (pc := 5) (lv' := [(3, .int (576 : Int32)), (2, .int a1), (0, .ref (ad 10)), (1, .int a1)]) hx hb dX6_findBroken_5 rfl hl (by decide) rfl (fun ls hl => ?_)
  obtain ⟨n9, h⟩ := h
  exact bX6_findBroken_6 X n9 a1 (576 : Int32) H locs ls h w (lv_sub hl [2, 1, 0] rfl)
set_option maxHeartbeats 4000000 in
set_option maxRecDepth 100000 in
theorem okX7_volumeOf (l : Launch) {D : va_G} {g : Nat → ClassId} {ad : Nat → Nat} (hJ : CJ ad) {u : Mm} {a1 : Int32} {a2 : Int32} {a3 : Int32} {Q : Int64 → Prop} (h : wX7_volumeOf u a1 a2 a3 Q) : Met l yX7_volumeOf (Cond.code yX7_volumeOf cX7_volumeOf 7 (some .long) :: gt) ({ frames := 2, cells := 0, slots := 0, locals := 51 } : Room) (CPc D g ad u [.ref (ad 23), .int a1, .int a2, .int a3]) (va_Ql (fun r u1 => u = u1 ∧ Q r) (CB D g ad) (CA ad)) 0 0 (CA ad) := by
  refine Met.ofW (cc := cX7_volumeOf) (maxL := 7) (ret := (some .long)) (by decide) rfl ?_
  intro p e s m args below meth c s₁ B hml hv
  refine Centry (own := RX7) B hml hv hJ rfl (Nat.le_of_ble_eq_true rfl) (fun ls H locs X w hl => ?_)
  obtain ⟨⟨hx, hb, hml, hown, hts⟩, hr, hlocks, hK, hJ, hAA⟩ := id X
  have hl : lv_has ls 7 [(0, .ref (ad 23)), (1, .int a1), (2, .int a2), (3, .int a3)] := hl
  unfold wX7_volumeOf at h
  refine lv_aload_n (pc := 0) hx hb dX7_volumeOf_0 rfl (lv_at hl 0 rfl) ?_
  refine Cgf_23_1 (pc := 1) X w kw206 dX7_volumeOf_1 ?_
  refine lv_iload_n (pc := 4) hx hb dX7_volumeOf_4 rfl (lv_at hl 1 rfl) ?_
  refine lv_bipush (pc := 5) (v := (12 : Int32)) hx hb dX7_volumeOf_5 (by decide) ?_
  refine lv_imul (pc := 7) hx hb dX7_volumeOf_7 ?_
  refine lv_iload_n (pc := 8) hx hb dX7_volumeOf_8 rfl (lv_at hl 3 rfl) ?_
  refine lv_iadd (pc := 9) hx hb dX7_volumeOf_9 ?_
  refine Cld_24 (pc := 10) X w h.1 dX7_volumeOf_10 ?_
  have h := h.2
  refine lv_topi (fun x4_1 e_ => ?_)
  have h := h x4_1 e_
  refine lv_istore (pc := 11) (lv' := [(4, .int x4_1), (0, .ref (ad 23)), (1, .int a1), (2, .int a2), (3, .int a3)]) hx hb dX7_volumeOf_11 hl (by decide) rfl (fun ls hl => ?_)
  refine lv_ldc2 (pc := 13) (v := (100 : Int64)) hx hb hown (hts _ (List.mem_cons_of_mem _ kw207)) dX7_volumeOf_13 ?_
  refine lv_aload_n (pc := 16) hx hb dX7_volumeOf_16 rfl (lv_at hl 1 rfl) ?_
  refine Cgf_23_0 (pc := 17) X w kw208 dX7_volumeOf_17 ?_
  refine lv_iconst (pc := 20) (v := (-1 : Int32)) hx hb dX7_volumeOf_20 (by decide) ?_
  refine lv_iload_n (pc := 21) hx hb dX7_volumeOf_21 rfl (lv_at hl 2 rfl) ?_
  refine lv_iload_n (pc := 22) hx hb dX7_volumeOf_22 rfl (lv_at hl 3 rfl) ?_
  refine lv_iload_n (pc := 23) hx hb dX7_volumeOf_23 rfl (lv_at hl 4 rfl) ?_
  refine Ccalll (rest := [.long (100 : Int64)]) (CrunV (pc := 24) X w (okX6_sumOf l hJ h) kw209 kmX6_sumOf ⟨rfl, rfl⟩ ⟨by decide, by decide⟩ (Crv_10 X w) rfl hl.1 rfl (Nat.le_of_ble_eq_true rfl) dX7_volumeOf_24) w (fun r2 u9_ H locs h w => ?_)
  obtain ⟨rfl, h⟩ := h
  refine lv_lmul (pc := 27) hx hb dX7_volumeOf_27 ?_
  refine lv_topl (fun x5_3 e_ => ?_)
  have h := h x5_3 e_
  refine lv_lstore (pc := 28) (lv' := [(5, .long x5_3), (4, .int x4_1), (0, .ref (ad 23)), (1, .int a1), (2, .int a2), (3, .int a3)]) hx hb dX7_volumeOf_28 hl (by decide) rfl (fun ls hl => ?_)
  refine lv_iload (pc := 30) hx hb dX7_volumeOf_30 (lv_at hl 1 rfl) ?_
  refine lv_if_le (pc := 32) (tgt := 46) hx hb dX7_volumeOf_32 (by decide) (fun c_ => ?_) (fun c_ => ?_)
  · have h := h.1 c_
    refine lv_lconst (pc := 46) (v := (0 : Int64)) hx hb dX7_volumeOf_46 (by decide) ?_
    exact Clret (pc := 47) X w ⟨rfl, h⟩ dX7_volumeOf_47
  · have h := h.2 c_
    refine lv_lload (pc := 35) hx hb dX7_volumeOf_35 (lv_at hl 0 rfl) ?_
    refine lv_iload (pc := 37) hx hb dX7_volumeOf_37 (lv_at hl 1 rfl) ?_
    refine lv_i2l (pc := 39) hx hb dX7_volumeOf_39 rfl ?_
    refine Ccalll (rest := []) (CrunS (pc := 40) X w (okJ9_floorDiv_f86c9 l hJ h) kw213 kmJ9_floorDiv_f86c9 ⟨rfl, rfl⟩ ⟨by decide, by decide⟩ rfl hl.1 rfl (Nat.le_of_ble_eq_true rfl) dX7_volumeOf_40) w (fun r4 u9_ H locs h w => ?_)
    obtain ⟨rfl, h⟩ := h
    refine lv_goto (pc := 43) (tgt := 47) hx hb dX7_volumeOf_43 (by decide) ?_
    exact Clret (pc := 47) X w ⟨rfl, h⟩ dX7_volumeOf_47
set_option maxHeartbeats 4000000 in
set_option maxRecDepth 100000 in
theorem bX7_meanPriceOf_15 {l : Launch} {p : Program} {e : Env} {s : State} {m : MethodId} {args : Array Value} {below : List Frame} {meth : Method} {c : Code} {D : va_G} {g : Nat → ClassId} {ad : Nat → Nat} {u : Mm} {Q : Int64 → Prop} (X : CX p s m args meth c cX7_meanPriceOf RX7 7 (some .long) (Cond.code yX7_meanPriceOf cX7_meanPriceOf 7 (some .long)) D g ad (CA ad)) : ∀ (n : Nat) (x3 : Int32) (x4 : Int64) (x6 : Int32) (H : Heap) (locs : List Loc) (ls : Array Slot), wX7_meanPriceOf_b15 u Q n x3 x4 x6 → CWd D g ad (CA ad) s u H locs → lv_has ls 7 [(0, .ref (ad 23)), (3, .int x3), (4, .long x4), (6, .int x6)] → W p l e ({ frames := 0, cells := 0, slots := 0, locals := 0 } : Room) s m args below meth c H locs 0 0 (MQ below (va_Ql (fun r u1 => u = u1 ∧ Q r) (CB D g ad) (CA ad)) args s 0 0 (CA ad)) (F0 m 15 ls []) := by
  obtain ⟨⟨hx, hb, hml, hown, hts⟩, hr, hlocks, hK, hJ, hAA⟩ := id X
  intro n
  induction n with
  | zero =>
    intro x3 x4 x6 H locs ls h
    exact False.elim h
  | succ n ih =>
    intro x3 x4 x6 H locs ls h w hl
    unfold wX7_meanPriceOf_b15 at h
    refine lv_iload (pc := 15) hx hb dX7_meanPriceOf_15 (lv_at hl 3 rfl) ?_
    refine lv_iconst (pc := 17) (v := (4 : Int32)) hx hb dX7_meanPriceOf_17 (by decide) ?_
    refine lv_icmp_ge (pc := 18) (tgt := 42) hx hb dX7_meanPriceOf_18 (by decide) (fun c_ => ?_) (fun c_ => ?_)
    · have h := h.1 c_
      refine lv_lload (pc := 42) hx hb dX7_meanPriceOf_42 (lv_at hl 2 rfl) ?_
      exact Clret (pc := 44) X w ⟨rfl, h⟩ dX7_meanPriceOf_44
    · have h := h.2 c_
      refine lv_lload (pc := 21) hx hb dX7_meanPriceOf_21 (lv_at hl 2 rfl) ?_
      refine lv_aload_n (pc := 23) hx hb dX7_meanPriceOf_23 rfl (lv_at hl 0 rfl) ?_
      refine Cgf_23_1 (pc := 24) X w kw206 dX7_meanPriceOf_24 ?_
      refine lv_iload_n (pc := 27) hx hb dX7_meanPriceOf_27 rfl (lv_at hl 1 rfl) ?_
      refine lv_iload (pc := 28) hx hb dX7_meanPriceOf_28 (lv_at hl 3 rfl) ?_
      refine lv_iadd (pc := 30) hx hb dX7_meanPriceOf_30 ?_
      refine Cld_24 (pc := 31) X w h.1 dX7_meanPriceOf_31 ?_
      have h := h.2
      refine lv_i2l (pc := 32) hx hb dX7_meanPriceOf_32 rfl ?_
      refine lv_ladd (pc := 33) hx hb dX7_meanPriceOf_33 ?_
      refine lv_topl (fun x4_1 e_ => ?_)
      have h := h x4_1 e_
      refine lv_lstore (pc := 34) (lv' := [(4, .long x4_1), (0, .ref (ad 23)), (3, .int x3), (6, .int x6)]) hx hb dX7_meanPriceOf_34 hl (by decide) rfl (fun ls hl => ?_)
      obtain ⟨x6_2, e_⟩ : ∃ y : Int32, y = x6 + (1 : Int32) := ⟨_, rfl⟩
      have h := h x6_2 e_
      refine lv_iinc (pc := 36) (v := x6_2) (lv' := [(6, .int x6_2), (4, .long x4_1), (0, .ref (ad 23)), (3, .int x3)]) hx hb dX7_meanPriceOf_36 hl (k := 3) rfl (by rw [e_]; rfl) (by decide) rfl (fun ls hl => ?_)
      refine lv_goto (pc := 39) (tgt := 15) hx hb dX7_meanPriceOf_39 (by decide) ?_
      exact ih x3 x4_1 x6_2 H locs ls h w (lv_sub hl [2, 3, 1, 0] rfl)
set_option maxHeartbeats 4000000 in
set_option maxRecDepth 100000 in
theorem okX7_meanPriceOf (l : Launch) {D : va_G} {g : Nat → ClassId} {ad : Nat → Nat} (hJ : CJ ad) {u : Mm} {a1 : Int32} {a2 : Int32} {Q : Int64 → Prop} (h : wX7_meanPriceOf u a1 a2 Q) : Met l yX7_meanPriceOf (Cond.code yX7_meanPriceOf cX7_meanPriceOf 7 (some .long) :: gt) ({ frames := 0, cells := 0, slots := 0, locals := 0 } : Room) (CPc D g ad u [.ref (ad 23), .int a1, .int a2]) (va_Ql (fun r u1 => u = u1 ∧ Q r) (CB D g ad) (CA ad)) 0 0 (CA ad) := by
  refine Met.ofW (cc := cX7_meanPriceOf) (maxL := 7) (ret := (some .long)) (by decide) rfl ?_
  intro p e s m args below meth c s₁ B hml hv
  refine Centry (own := RX7) B hml hv hJ rfl (Nat.le_of_ble_eq_true rfl) (fun ls H locs X w hl => ?_)
  obtain ⟨⟨hx, hb, hml, hown, hts⟩, hr, hlocks, hK, hJ, hAA⟩ := id X
  have hl : lv_has ls 7 [(0, .ref (ad 23)), (1, .int a1), (2, .int a2)] := hl
  unfold wX7_meanPriceOf at h
  refine lv_iload_n (pc := 0) hx hb dX7_meanPriceOf_0 rfl (lv_at hl 1 rfl) ?_
  refine lv_bipush (pc := 1) (v := (12 : Int32)) hx hb dX7_meanPriceOf_1 (by decide) ?_
  refine lv_imul (pc := 3) hx hb dX7_meanPriceOf_3 ?_
  refine lv_iload_n (pc := 4) hx hb dX7_meanPriceOf_4 rfl (lv_at hl 2 rfl) ?_
  refine lv_iconst (pc := 5) (v := (4 : Int32)) hx hb dX7_meanPriceOf_5 (by decide) ?_
  refine lv_imul (pc := 6) hx hb dX7_meanPriceOf_6 ?_
  refine lv_iadd (pc := 7) hx hb dX7_meanPriceOf_7 ?_
  refine lv_topi (fun x3_1 e_ => ?_)
  have h := h x3_1 e_
  refine lv_istore_n (pc := 8) (lv' := [(3, .int x3_1), (0, .ref (ad 23)), (1, .int a1), (2, .int a2)]) hx hb dX7_meanPriceOf_8 rfl hl (by decide) rfl (fun ls hl => ?_)
  refine lv_lconst (pc := 9) (v := (0 : Int64)) hx hb dX7_meanPriceOf_9 (by decide) ?_
  refine lv_lstore (pc := 10) (lv' := [(4, .long (0 : Int64)), (3, .int x3_1), (0, .ref (ad 23)), (1, .int a1), (2, .int a2)]) hx hb dX7_meanPriceOf_10 hl (by decide) rfl (fun ls hl => ?_)
  refine lv_iconst (pc := 12) (v := (0 : Int32)) hx hb dX7_meanPriceOf_12 (by decide) ?_
  refine lv_istore (pc := 13) (lv' := [(6, .int (0 : Int32)), (4, .long (0 : Int64)), (3, .int x3_1), (0, .ref (ad 23)), (1, .int a1), (2, .int a2)]) hx hb dX7_meanPriceOf_13 hl (by decide) rfl (fun ls hl => ?_)
  obtain ⟨n9, h⟩ := h
  exact bX7_meanPriceOf_15 X n9 x3_1 (0 : Int64) (0 : Int32) H locs ls h w (lv_sub hl [3, 2, 1, 0] rfl)
set_option maxHeartbeats 4000000 in
set_option maxRecDepth 100000 in
theorem bX7_valueOf_23 {l : Launch} {p : Program} {e : Env} {s : State} {m : MethodId} {args : Array Value} {below : List Frame} {meth : Method} {c : Code} {D : va_G} {g : Nat → ClassId} {ad : Nat → Nat} {u : Mm} {Q : Int64 → Prop} {k6 : Int32 → Int32 → Int32 → Int32 → Int64 → Int32 → Prop} (X : CX p s m args meth c cX7_valueOf RX7 8 (some .long) (Cond.code yX7_valueOf cX7_valueOf 8 (some .long)) D g ad (CA ad)) (hk6 : ∀ (x1 : Int32) (x2 : Int32) (x3 : Int32) (x4 : Int32) (x5 : Int64) (x7 : Int32) (H : Heap) (locs : List Loc) (ls : Array Slot), k6 x1 x2 x3 x4 x5 x7 → CWd D g ad (CA ad) s u H locs → lv_has ls 8 [(0, .ref (ad 23)), (1, .int x1), (2, .int x2), (3, .int x3), (4, .int x4), (5, .long x5), (7, .int x7)] → W p l e ({ frames := 3, cells := 0, slots := 0, locals := 77 } : Room) s m args below meth c H locs 0 0 (MQ below (va_Ql (fun r u1 => u = u1 ∧ Q r) (CB D g ad) (CA ad)) args s 0 0 (CA ad)) (F0 m 6 ls [])) : ∀ (x1 : Int32) (x2 : Int32) (x3 : Int32) (x4 : Int32) (x5 : Int64) (x7 : Int32) (H : Heap) (locs : List Loc) (ls : Array Slot), wX7_valueOf_b23 u k6 Q x1 x2 x3 x4 x5 x7 → CWd D g ad (CA ad) s u H locs → lv_has ls 8 [(0, .ref (ad 23)), (1, .int x1), (2, .int x2), (3, .int x3), (4, .int x4), (5, .long x5), (7, .int x7)] → W p l e ({ frames := 3, cells := 0, slots := 0, locals := 77 } : Room) s m args below meth c H locs 0 0 (MQ below (va_Ql (fun r u1 => u = u1 ∧ Q r) (CB D g ad) (CA ad)) args s 0 0 (CA ad)) (F0 m 23 ls []) := by
  obtain ⟨⟨hx, hb, hml, hown, hts⟩, hr, hlocks, hK, hJ, hAA⟩ := id X
  intro x1 x2 x3 x4 x5 x7 H locs ls h w hl
  unfold wX7_valueOf_b23 at h
  refine lv_lload (pc := 23) hx hb dX7_valueOf_23 (lv_at hl 5 rfl) ?_
  refine lv_aload_n (pc := 25) hx hb dX7_valueOf_25 rfl (lv_at hl 0 rfl) ?_
  refine lv_iload (pc := 26) hx hb dX7_valueOf_26 (lv_at hl 6 rfl) ?_
  refine lv_iload_n (pc := 28) hx hb dX7_valueOf_28 rfl (lv_at hl 2 rfl) ?_
  refine lv_iload_n (pc := 29) hx hb dX7_valueOf_29 rfl (lv_at hl 3 rfl) ?_
  refine Ccalll (rest := [.long x5]) (CrunV (pc := 30) X w (okX7_volumeOf l hJ h) kw214 kmX7_volumeOf ⟨rfl, rfl⟩ ⟨by decide, by decide⟩ (Crv_23 X w) rfl hl.1 rfl (Nat.le_of_ble_eq_true rfl) dX7_valueOf_30) w (fun r1 u9_ H locs h w => ?_)
  obtain ⟨rfl, h⟩ := h
  refine lv_aload_n (pc := 33) hx hb dX7_valueOf_33 rfl (lv_at hl 0 rfl) ?_
  refine lv_iload (pc := 34) hx hb dX7_valueOf_34 (lv_at hl 6 rfl) ?_
  refine lv_iload (pc := 36) hx hb dX7_valueOf_36 (lv_at hl 4 rfl) ?_
  refine Ccalll (rest := [.long r1, .long x5]) (CrunV (pc := 38) X w (okX7_meanPriceOf l hJ h) kw219 kmX7_meanPriceOf ⟨rfl, rfl⟩ ⟨by decide, by decide⟩ (Crv_23 X w) rfl hl.1 rfl (Nat.le_of_ble_eq_true rfl) dX7_valueOf_38) w (fun r2 u9_ H locs h w => ?_)
  obtain ⟨rfl, h⟩ := h
  refine lv_lmul (pc := 41) hx hb dX7_valueOf_41 ?_
  refine lv_ladd (pc := 42) hx hb dX7_valueOf_42 ?_
  refine lv_topl (fun x5_3 e_ => ?_)
  have h := h x5_3 e_
  refine lv_lstore (pc := 43) (lv' := [(5, .long x5_3), (0, .ref (ad 23)), (1, .int x1), (2, .int x2), (3, .int x3), (4, .int x4), (7, .int x7)]) hx hb dX7_valueOf_43 hl (by decide) rfl (fun ls hl => ?_)
  obtain ⟨x7_4, e_⟩ : ∃ y : Int32, y = x7 + (1 : Int32) := ⟨_, rfl⟩
  have h := h x7_4 e_
  refine lv_iinc (pc := 45) (v := x7_4) (lv' := [(7, .int x7_4), (5, .long x5_3), (0, .ref (ad 23)), (1, .int x1), (2, .int x2), (3, .int x3), (4, .int x4)]) hx hb dX7_valueOf_45 hl (k := 6) rfl (by rw [e_]; rfl) (by decide) rfl (fun ls hl => ?_)
  refine lv_goto (pc := 48) (tgt := 6) hx hb dX7_valueOf_48 (by decide) ?_
  exact hk6 x1 x2 x3 x4 x5_3 x7_4 H locs ls h w (lv_sub hl [2, 3, 4, 5, 6, 1, 0] rfl)
set_option maxHeartbeats 4000000 in
set_option maxRecDepth 100000 in
theorem bX7_valueOf_6 {l : Launch} {p : Program} {e : Env} {s : State} {m : MethodId} {args : Array Value} {below : List Frame} {meth : Method} {c : Code} {D : va_G} {g : Nat → ClassId} {ad : Nat → Nat} {u : Mm} {Q : Int64 → Prop} (X : CX p s m args meth c cX7_valueOf RX7 8 (some .long) (Cond.code yX7_valueOf cX7_valueOf 8 (some .long)) D g ad (CA ad)) : ∀ (n : Nat) (x1 : Int32) (x2 : Int32) (x3 : Int32) (x4 : Int32) (x5 : Int64) (x7 : Int32) (H : Heap) (locs : List Loc) (ls : Array Slot), wX7_valueOf_b6 u Q n x1 x2 x3 x4 x5 x7 → CWd D g ad (CA ad) s u H locs → lv_has ls 8 [(0, .ref (ad 23)), (1, .int x1), (2, .int x2), (3, .int x3), (4, .int x4), (5, .long x5), (7, .int x7)] → W p l e ({ frames := 3, cells := 0, slots := 0, locals := 77 } : Room) s m args below meth c H locs 0 0 (MQ below (va_Ql (fun r u1 => u = u1 ∧ Q r) (CB D g ad) (CA ad)) args s 0 0 (CA ad)) (F0 m 6 ls []) := by
  obtain ⟨⟨hx, hb, hml, hown, hts⟩, hr, hlocks, hK, hJ, hAA⟩ := id X
  intro n
  induction n with
  | zero =>
    intro x1 x2 x3 x4 x5 x7 H locs ls h
    exact False.elim h
  | succ n ih =>
    intro x1 x2 x3 x4 x5 x7 H locs ls h w hl
    unfold wX7_valueOf_b6 at h
    refine lv_iload (pc := 6) hx hb dX7_valueOf_6 (lv_at hl 6 rfl) ?_
    refine lv_iconst (pc := 8) (v := (4 : Int32)) hx hb dX7_valueOf_8 (by decide) ?_
    refine lv_icmp_ge (pc := 9) (tgt := 51) hx hb dX7_valueOf_9 (by decide) (fun c_ => ?_) (fun c_ => ?_)
    · have h := h.1 c_
      refine lv_lload (pc := 51) hx hb dX7_valueOf_51 (lv_at hl 5 rfl) ?_
      exact Clret (pc := 53) X w ⟨rfl, h⟩ dX7_valueOf_53
    · have h := h.2 c_
      refine lv_iload_n (pc := 12) hx hb dX7_valueOf_12 rfl (lv_at hl 1 rfl) ?_
      refine lv_iconst (pc := 13) (v := (-1 : Int32)) hx hb dX7_valueOf_13 (by decide) ?_
      refine lv_icmp_eq (pc := 14) (tgt := 23) hx hb dX7_valueOf_14 (by decide) (fun c_ => ?_) (fun c_ => ?_)
      · have h := h.1 c_
        refine bX7_valueOf_23 X ?_ x1 x2 x3 x4 x5 x7 H locs ls h w (lv_sub hl [0, 1, 2, 3, 4, 5, 6] rfl)
        · intro x1 x2 x3 x4 x5 x7 H locs ls h w hl
          exact ih x1 x2 x3 x4 x5 x7 H locs ls h w (lv_sub hl [0, 1, 2, 3, 4, 5, 6] rfl)
      · have h := h.2 c_
        refine lv_iload_n (pc := 17) hx hb dX7_valueOf_17 rfl (lv_at hl 1 rfl) ?_
        refine lv_iload (pc := 18) hx hb dX7_valueOf_18 (lv_at hl 6 rfl) ?_
        refine lv_icmp_ne (pc := 20) (tgt := 45) hx hb dX7_valueOf_20 (by decide) (fun c_ => ?_) (fun c_ => ?_)
        · have h := h.2 c_
          obtain ⟨x7_1, e_⟩ : ∃ y : Int32, y = x7 + (1 : Int32) := ⟨_, rfl⟩
          have h := h x7_1 e_
          refine lv_iinc (pc := 45) (v := x7_1) (lv' := [(7, .int x7_1), (0, .ref (ad 23)), (1, .int x1), (2, .int x2), (3, .int x3), (4, .int x4), (5, .long x5)]) hx hb dX7_valueOf_45 hl (k := 6) rfl (by rw [e_]; rfl) (by decide) rfl (fun ls hl => ?_)
          refine lv_goto (pc := 48) (tgt := 6) hx hb dX7_valueOf_48 (by decide) ?_
          exact ih x1 x2 x3 x4 x5 x7_1 H locs ls h w (lv_sub hl [1, 2, 3, 4, 5, 6, 0] rfl)
        · have h := h.1 c_
          refine bX7_valueOf_23 X ?_ x1 x2 x3 x4 x5 x7 H locs ls h w (lv_sub hl [0, 1, 2, 3, 4, 5, 6] rfl)
          · intro x1 x2 x3 x4 x5 x7 H locs ls h w hl
            exact ih x1 x2 x3 x4 x5 x7 H locs ls h w (lv_sub hl [0, 1, 2, 3, 4, 5, 6] rfl)
set_option maxHeartbeats 4000000 in
set_option maxRecDepth 100000 in
theorem okX7_valueOf (l : Launch) {D : va_G} {g : Nat → ClassId} {ad : Nat → Nat} (hJ : CJ ad) {u : Mm} {a1 : Int32} {a2 : Int32} {a3 : Int32} {a4 : Int32} {Q : Int64 → Prop} (h : wX7_valueOf u a1 a2 a3 a4 Q) : Met l yX7_valueOf (Cond.code yX7_valueOf cX7_valueOf 8 (some .long) :: gt) ({ frames := 3, cells := 0, slots := 0, locals := 77 } : Room) (CPc D g ad u [.ref (ad 23), .int a1, .int a2, .int a3, .int a4]) (va_Ql (fun r u1 => u = u1 ∧ Q r) (CB D g ad) (CA ad)) 0 0 (CA ad) := by
  refine Met.ofW (cc := cX7_valueOf) (maxL := 8) (ret := (some .long)) (by decide) rfl ?_
  intro p e s m args below meth c s₁ B hml hv
  refine Centry (own := RX7) B hml hv hJ rfl (Nat.le_of_ble_eq_true rfl) (fun ls H locs X w hl => ?_)
  obtain ⟨⟨hx, hb, hml, hown, hts⟩, hr, hlocks, hK, hJ, hAA⟩ := id X
  have hl : lv_has ls 8 [(0, .ref (ad 23)), (1, .int a1), (2, .int a2), (3, .int a3), (4, .int a4)] := hl
  unfold wX7_valueOf at h
  refine lv_lconst (pc := 0) (v := (0 : Int64)) hx hb dX7_valueOf_0 (by decide) ?_
  refine lv_lstore (pc := 1) (lv' := [(5, .long (0 : Int64)), (0, .ref (ad 23)), (1, .int a1), (2, .int a2), (3, .int a3), (4, .int a4)]) hx hb dX7_valueOf_1 hl (by decide) rfl (fun ls hl => ?_)
  refine lv_iconst (pc := 3) (v := (0 : Int32)) hx hb dX7_valueOf_3 (by decide) ?_
  refine lv_istore (pc := 4) (lv' := [(7, .int (0 : Int32)), (5, .long (0 : Int64)), (0, .ref (ad 23)), (1, .int a1), (2, .int a2), (3, .int a3), (4, .int a4)]) hx hb dX7_valueOf_4 hl (by decide) rfl (fun ls hl => ?_)
  obtain ⟨n9, h⟩ := h
  exact bX7_valueOf_6 X n9 a1 a2 a3 a4 (0 : Int64) (0 : Int32) H locs ls h w (lv_sub hl [2, 3, 4, 5, 6, 1, 0] rfl)
set_option maxHeartbeats 4000000 in
set_option maxRecDepth 100000 in
theorem okX7_priceYearOf (l : Launch) {D : va_G} {g : Nat → ClassId} {ad : Nat → Nat} (hJ : CJ ad) {u : Mm} {a0 : Int32} {Q : Int32 → Prop} (h : wX7_priceYearOf a0 Q) : Met l yX7_priceYearOf (Cond.code yX7_priceYearOf cX7_priceYearOf 1 (some .int) :: gt) ({ frames := 1, cells := 0, slots := 0, locals := 21 } : Room) (CPc D g ad u [.int a0]) (va_Qi (fun r u1 => u = u1 ∧ Q r) (CB D g ad) (CA ad)) 0 0 (CA ad) := by
  refine Met.ofW (cc := cX7_priceYearOf) (maxL := 1) (ret := (some .int)) (by decide) rfl ?_
  intro p e s m args below meth c s₁ B hml hv
  refine Centry (own := RX7) B hml hv hJ rfl (Nat.le_of_ble_eq_true rfl) (fun ls H locs X w hl => ?_)
  obtain ⟨⟨hx, hb, hml, hown, hts⟩, hr, hlocks, hK, hJ, hAA⟩ := id X
  have hl : lv_has ls 1 [(0, .int a0)] := hl
  unfold wX7_priceYearOf at h
  refine lv_iload_n (pc := 0) hx hb dX7_priceYearOf_0 rfl (lv_at hl 0 rfl) ?_
  refine lv_iconst (pc := 1) (v := (4 : Int32)) hx hb dX7_priceYearOf_1 (by decide) ?_
  refine lv_idiv (pc := 2) hx hb dX7_priceYearOf_2 (by decide) ?_
  refine lv_iconst (pc := 3) (v := (1 : Int32)) hx hb dX7_priceYearOf_3 (by decide) ?_
  refine lv_isub (pc := 4) hx hb dX7_priceYearOf_4 ?_
  refine lv_iconst (pc := 5) (v := (0 : Int32)) hx hb dX7_priceYearOf_5 (by decide) ?_
  refine Ccalli (rest := []) (CrunS (pc := 6) X w (okJ9_max_7cf53 l hJ h) kw223 kmJ9_max_7cf53 ⟨rfl, rfl⟩ ⟨by decide, by decide⟩ rfl hl.1 rfl (Nat.le_of_ble_eq_true rfl) dX7_priceYearOf_6) w (fun r1 u9_ H locs h w => ?_)
  obtain ⟨rfl, h⟩ := h
  exact Ciret (pc := 9) X w ⟨rfl, h⟩ dX7_priceYearOf_9
set_option maxHeartbeats 4000000 in
set_option maxRecDepth 100000 in
theorem okX7_ratio (l : Launch) {D : va_G} {g : Nat → ClassId} {ad : Nat → Nat} (hJ : CJ ad) {u : Mm} {a0 : Int64} {a2 : Int64} {Q : Int64 → Prop} (h : wX7_ratio a0 a2 Q) : Met l yX7_ratio (Cond.code yX7_ratio cX7_ratio 4 (some .long) :: gt) ({ frames := 1, cells := 0, slots := 0, locals := 25 } : Room) (CPc D g ad u [.long a0, .long a2]) (va_Ql (fun r u1 => u = u1 ∧ Q r) (CB D g ad) (CA ad)) 0 0 (CA ad) := by
  refine Met.ofW (cc := cX7_ratio) (maxL := 4) (ret := (some .long)) (by decide) rfl ?_
  intro p e s m args below meth c s₁ B hml hv
  refine Centry (own := RX7) B hml hv hJ rfl (Nat.le_of_ble_eq_true rfl) (fun ls H locs X w hl => ?_)
  obtain ⟨⟨hx, hb, hml, hown, hts⟩, hr, hlocks, hK, hJ, hAA⟩ := id X
  have hl : lv_has ls 4 [(0, .long a0), (2, .long a2)] := hl
  unfold wX7_ratio at h
  refine lv_lload_n (pc := 0) hx hb dX7_ratio_0 rfl (lv_at hl 1 rfl) ?_
  refine lv_lconst (pc := 1) (v := (0 : Int64)) hx hb dX7_ratio_1 (by decide) ?_
  refine lq_le (pc := 2) (tgt := 18) hx hb dX7_ratio_2 dX7_ratio_3 (by decide) (fun c_ => ?_) (fun c_ => ?_)
  · have h := h.1 c_
    refine lv_ldc2 (pc := 18) (v := (-1 : Int64)) hx hb hown (hts _ (List.mem_cons_of_mem _ kw224)) dX7_ratio_18 ?_
    exact Clret (pc := 21) X w ⟨rfl, h⟩ dX7_ratio_21
  · have h := h.2 c_
    refine lv_lload_n (pc := 6) hx hb dX7_ratio_6 rfl (lv_at hl 0 rfl) ?_
    refine lv_ldc2 (pc := 7) (v := (1000000 : Int64)) hx hb hown (hts _ (List.mem_cons_of_mem _ kw225)) dX7_ratio_7 ?_
    refine lv_lmul (pc := 10) hx hb dX7_ratio_10 ?_
    refine lv_lload_n (pc := 11) hx hb dX7_ratio_11 rfl (lv_at hl 1 rfl) ?_
    refine Ccalll (rest := []) (CrunS (pc := 12) X w (okJ9_floorDiv_f86c9 l hJ h) kw213 kmJ9_floorDiv_f86c9 ⟨rfl, rfl⟩ ⟨by decide, by decide⟩ rfl hl.1 rfl (Nat.le_of_ble_eq_true rfl) dX7_ratio_12) w (fun r1 u9_ H locs h w => ?_)
    obtain ⟨rfl, h⟩ := h
    refine lv_goto (pc := 15) (tgt := 21) hx hb dX7_ratio_15 (by decide) ?_
    exact Clret (pc := 21) X w ⟨rfl, h⟩ dX7_ratio_21
set_option maxHeartbeats 4000000 in
set_option maxRecDepth 100000 in
theorem okX7_growthOf (l : Launch) {D : va_G} {g : Nat → ClassId} {ad : Nat → Nat} (hJ : CJ ad) {u : Mm} {a1 : Int32} {a2 : Int32} {a3 : Int32} {Q : Int64 → Prop} (h : wX7_growthOf u a1 a2 a3 Q) : Met l yX7_growthOf (Cond.code yX7_growthOf cX7_growthOf 5 (some .long) :: gt) ({ frames := 4, cells := 0, slots := 0, locals := 104 } : Room) (CPc D g ad u [.ref (ad 23), .int a1, .int a2, .int a3]) (va_Ql (fun r u1 => u = u1 ∧ Q r) (CB D g ad) (CA ad)) 0 0 (CA ad) := by
  refine Met.ofW (cc := cX7_growthOf) (maxL := 5) (ret := (some .long)) (by decide) rfl ?_
  intro p e s m args below meth c s₁ B hml hv
  refine Centry (own := RX7) B hml hv hJ rfl (Nat.le_of_ble_eq_true rfl) (fun ls H locs X w hl => ?_)
  obtain ⟨⟨hx, hb, hml, hown, hts⟩, hr, hlocks, hK, hJ, hAA⟩ := id X
  have hl : lv_has ls 5 [(0, .ref (ad 23)), (1, .int a1), (2, .int a2), (3, .int a3)] := hl
  unfold wX7_growthOf at h
  refine lv_iload_n (pc := 0) hx hb dX7_growthOf_0 rfl (lv_at hl 3 rfl) ?_
  refine Ccalli (rest := []) (CrunS (pc := 1) X w (okX7_priceYearOf l hJ h) kw226 kmX7_priceYearOf ⟨rfl, rfl⟩ ⟨by decide, by decide⟩ rfl hl.1 rfl (Nat.le_of_ble_eq_true rfl) dX7_growthOf_1) w (fun r1 u9_ H locs h w => ?_)
  obtain ⟨rfl, h⟩ := h
  refine lv_istore (pc := 4) (lv' := [(4, .int r1), (0, .ref (ad 23)), (1, .int a1), (2, .int a2), (3, .int a3)]) hx hb dX7_growthOf_4 hl (by decide) rfl (fun ls hl => ?_)
  refine lv_aload_n (pc := 6) hx hb dX7_growthOf_6 rfl (lv_at hl 1 rfl) ?_
  refine lv_iload_n (pc := 7) hx hb dX7_growthOf_7 rfl (lv_at hl 2 rfl) ?_
  refine lv_iload_n (pc := 8) hx hb dX7_growthOf_8 rfl (lv_at hl 3 rfl) ?_
  refine lv_iload_n (pc := 9) hx hb dX7_growthOf_9 rfl (lv_at hl 4 rfl) ?_
  refine lv_iload (pc := 10) hx hb dX7_growthOf_10 (lv_at hl 0 rfl) ?_
  refine Ccalll (rest := []) (CrunV (pc := 12) X w (okX7_valueOf l hJ h) kw229 kmX7_valueOf ⟨rfl, rfl⟩ ⟨by decide, by decide⟩ (Crv_23 X w) rfl hl.1 rfl (Nat.le_of_ble_eq_true rfl) dX7_growthOf_12) w (fun r2 u9_ H locs h w => ?_)
  obtain ⟨rfl, h⟩ := h
  refine lv_aload_n (pc := 15) hx hb dX7_growthOf_15 rfl (lv_at hl 1 rfl) ?_
  refine lv_iload_n (pc := 16) hx hb dX7_growthOf_16 rfl (lv_at hl 2 rfl) ?_
  refine lv_iload_n (pc := 17) hx hb dX7_growthOf_17 rfl (lv_at hl 3 rfl) ?_
  refine lv_iload_n (pc := 18) hx hb dX7_growthOf_18 rfl (lv_at hl 4 rfl) ?_
  refine lv_iconst (pc := 19) (v := (1 : Int32)) hx hb dX7_growthOf_19 (by decide) ?_
  refine lv_isub (pc := 20) hx hb dX7_growthOf_20 ?_
  refine lv_iload (pc := 21) hx hb dX7_growthOf_21 (lv_at hl 0 rfl) ?_
  refine Ccalll (rest := [.long r2]) (CrunV (pc := 23) X w (okX7_valueOf l hJ h) kw229 kmX7_valueOf ⟨rfl, rfl⟩ ⟨by decide, by decide⟩ (Crv_23 X w) rfl hl.1 rfl (Nat.le_of_ble_eq_true rfl) dX7_growthOf_23) w (fun r3 u9_ H locs h w => ?_)
  obtain ⟨rfl, h⟩ := h
  refine Ccalll (rest := []) (CrunS (pc := 26) X w (okX7_ratio l hJ h) kw233 kmX7_ratio ⟨rfl, rfl⟩ ⟨by decide, by decide⟩ rfl hl.1 rfl (Nat.le_of_ble_eq_true rfl) dX7_growthOf_26) w (fun r4 u9_ H locs h w => ?_)
  obtain ⟨rfl, h⟩ := h
  exact Clret (pc := 29) X w ⟨rfl, h⟩ dX7_growthOf_29
set_option maxHeartbeats 4000000 in
set_option maxRecDepth 100000 in
theorem okX7_hasGrowth (l : Launch) {D : va_G} {g : Nat → ClassId} {ad : Nat → Nat} (hJ : CJ ad) {u : Mm} {a1 : Int32} {a2 : Int32} {Q : Int32 → Prop} (h : wX7_hasGrowth u a1 a2 Q) : Met l yX7_hasGrowth (Cond.code yX7_hasGrowth cX7_hasGrowth 3 (some .boolean) :: gt) ({ frames := 4, cells := 0, slots := 0, locals := 104 } : Room) (CPc D g ad u [.ref (ad 23), .int a1, .int a2]) (va_Qi (fun r u1 => bz r ∧ (u = u1 ∧ Q r)) (CB D g ad) (CA ad)) 0 0 (CA ad) := by
  refine Met.ofW (cc := cX7_hasGrowth) (maxL := 3) (ret := (some .boolean)) (by decide) rfl ?_
  intro p e s m args below meth c s₁ B hml hv
  refine Centry (own := RX7) B hml hv hJ rfl (Nat.le_of_ble_eq_true rfl) (fun ls H locs X w hl => ?_)
  obtain ⟨⟨hx, hb, hml, hown, hts⟩, hr, hlocks, hK, hJ, hAA⟩ := id X
  have hl : lv_has ls 3 [(0, .ref (ad 23)), (1, .int a1), (2, .int a2)] := hl
  unfold wX7_hasGrowth at h
  refine lv_aload_n (pc := 0) hx hb dX7_hasGrowth_0 rfl (lv_at hl 0 rfl) ?_
  refine lv_iconst (pc := 1) (v := (-1 : Int32)) hx hb dX7_hasGrowth_1 (by decide) ?_
  refine lv_iload_n (pc := 2) hx hb dX7_hasGrowth_2 rfl (lv_at hl 1 rfl) ?_
  refine lv_iload_n (pc := 3) hx hb dX7_hasGrowth_3 rfl (lv_at hl 2 rfl) ?_
  refine lv_iconst (pc := 4) (v := (1 : Int32)) hx hb dX7_hasGrowth_4 (by decide) ?_
  refine lv_isub (pc := 5) hx hb dX7_hasGrowth_5 ?_
  refine lv_iload_n (pc := 6) hx hb dX7_hasGrowth_6 rfl (lv_at hl 2 rfl) ?_
  refine Ccalli (rest := [.int (a2 - (1 : Int32)), .int a1, .int (-1 : Int32), .ref (ad 23)]) (CrunS (pc := 7) X w (okX7_priceYearOf l hJ h) kw226 kmX7_priceYearOf ⟨rfl, rfl⟩ ⟨by decide, by decide⟩ rfl hl.1 rfl (Nat.le_of_ble_eq_true rfl) dX7_hasGrowth_7) w (fun r1 u9_ H locs h w => ?_)
  obtain ⟨rfl, h⟩ := h
  refine Ccalll (rest := []) (CrunV (pc := 10) X w (okX7_valueOf l hJ h) kw229 kmX7_valueOf ⟨rfl, rfl⟩ ⟨by decide, by decide⟩ (Crv_23 X w) rfl hl.1 rfl (Nat.le_of_ble_eq_true rfl) dX7_hasGrowth_10) w (fun r2 u9_ H locs h w => ?_)
  obtain ⟨rfl, h⟩ := h
  refine lv_lconst (pc := 13) (v := (0 : Int64)) hx hb dX7_hasGrowth_13 (by decide) ?_
  refine lq_le (pc := 14) (tgt := 22) hx hb dX7_hasGrowth_14 dX7_hasGrowth_15 (by decide) (fun c_ => ?_) (fun c_ => ?_)
  · have h := h.1 c_
    refine lv_iconst (pc := 22) (v := (0 : Int32)) hx hb dX7_hasGrowth_22 (by decide) ?_
    exact Czret (pc := 23) X w rfl ⟨rfl, h⟩ dX7_hasGrowth_23
  · have h := h.2 c_
    refine lv_iconst (pc := 18) (v := (1 : Int32)) hx hb dX7_hasGrowth_18 (by decide) ?_
    refine lv_goto (pc := 19) (tgt := 23) hx hb dX7_hasGrowth_19 (by decide) ?_
    exact Czret (pc := 23) X w rfl ⟨rfl, h⟩ dX7_hasGrowth_23
set_option maxHeartbeats 4000000 in
set_option maxRecDepth 100000 in
theorem okJ9_min_f86c9 (l : Launch) {D : va_G} {g : Nat → ClassId} {ad : Nat → Nat} (hJ : CJ ad) {u : Mm} {a0 : Int64} {a2 : Int64} {Q : Int64 → Prop} (h : wJ9_min_f86c9 a0 a2 Q) : Met l yJ9_min_f86c9 (Cond.code yJ9_min_f86c9 cJ9_min_f86c9 4 (some .long) :: gt) ({ frames := 0, cells := 0, slots := 0, locals := 0 } : Room) (CPc D g ad u [.long a0, .long a2]) (va_Ql (fun r u1 => u = u1 ∧ Q r) (CB D g ad) (CA ad)) 0 0 (CA ad) := by
  refine va_MetF (cc := cJ9_min_f86c9) (maxL := 4) (ret := (some .long)) (by decide +kernel) rfl ?_
  intro p e s m args below meth c s₁ B hml hv
  refine Centry (own := RJ9) B hml hv hJ rfl (Nat.le_of_ble_eq_true rfl) (fun ls H locs X w hl => ?_)
  obtain ⟨⟨hx, hb, hml, hown, hts⟩, hr, hlocks, hK, hJ, hAA⟩ := id X
  have hl : lv_has ls 4 [(0, .long a0), (2, .long a2)] := hl
  unfold wJ9_min_f86c9 at h
  refine lv_lload_n (pc := 0) hx hb dJ9_min_f86c9_0 rfl (lv_at hl 0 rfl) ?_
  refine lv_lload_n (pc := 1) hx hb dJ9_min_f86c9_1 rfl (lv_at hl 1 rfl) ?_
  refine lq_gt (pc := 2) (tgt := 10) hx hb dJ9_min_f86c9_2 dJ9_min_f86c9_3 (by decide) (fun c_ => ?_) (fun c_ => ?_)
  · have h := h.1 c_
    refine lv_lload_n (pc := 10) hx hb dJ9_min_f86c9_10 rfl (lv_at hl 1 rfl) ?_
    exact Clret (pc := 11) X w ⟨rfl, h⟩ dJ9_min_f86c9_11
  · have h := h.2 c_
    refine lv_lload_n (pc := 6) hx hb dJ9_min_f86c9_6 rfl (lv_at hl 0 rfl) ?_
    refine lv_goto (pc := 7) (tgt := 11) hx hb dJ9_min_f86c9_7 (by decide) ?_
    exact Clret (pc := 11) X w ⟨rfl, h⟩ dJ9_min_f86c9_11
set_option maxHeartbeats 4000000 in
set_option maxRecDepth 100000 in
theorem okJ9_max_f86c9 (l : Launch) {D : va_G} {g : Nat → ClassId} {ad : Nat → Nat} (hJ : CJ ad) {u : Mm} {a0 : Int64} {a2 : Int64} {Q : Int64 → Prop} (h : wJ9_max_f86c9 a0 a2 Q) : Met l yJ9_max_f86c9 (Cond.code yJ9_max_f86c9 cJ9_max_f86c9 4 (some .long) :: gt) ({ frames := 0, cells := 0, slots := 0, locals := 0 } : Room) (CPc D g ad u [.long a0, .long a2]) (va_Ql (fun r u1 => u = u1 ∧ Q r) (CB D g ad) (CA ad)) 0 0 (CA ad) := by
  refine va_MetF (cc := cJ9_max_f86c9) (maxL := 4) (ret := (some .long)) (by decide +kernel) rfl ?_
  intro p e s m args below meth c s₁ B hml hv
  refine Centry (own := RJ9) B hml hv hJ rfl (Nat.le_of_ble_eq_true rfl) (fun ls H locs X w hl => ?_)
  obtain ⟨⟨hx, hb, hml, hown, hts⟩, hr, hlocks, hK, hJ, hAA⟩ := id X
  have hl : lv_has ls 4 [(0, .long a0), (2, .long a2)] := hl
  unfold wJ9_max_f86c9 at h
  refine lv_lload_n (pc := 0) hx hb dJ9_max_f86c9_0 rfl (lv_at hl 0 rfl) ?_
  refine lv_lload_n (pc := 1) hx hb dJ9_max_f86c9_1 rfl (lv_at hl 1 rfl) ?_
  refine lq_lt (pc := 2) (tgt := 10) hx hb dJ9_max_f86c9_2 dJ9_max_f86c9_3 (by decide) (fun c_ => ?_) (fun c_ => ?_)
  · have h := h.1 c_
    refine lv_lload_n (pc := 10) hx hb dJ9_max_f86c9_10 rfl (lv_at hl 1 rfl) ?_
    exact Clret (pc := 11) X w ⟨rfl, h⟩ dJ9_max_f86c9_11
  · have h := h.2 c_
    refine lv_lload_n (pc := 6) hx hb dJ9_max_f86c9_6 rfl (lv_at hl 0 rfl) ?_
    refine lv_goto (pc := 7) (tgt := 11) hx hb dJ9_max_f86c9_7 (by decide) ?_
    exact Clret (pc := 11) X w ⟨rfl, h⟩ dJ9_max_f86c9_11
set_option maxHeartbeats 4000000 in
set_option maxRecDepth 100000 in
theorem okX7_cut (l : Launch) {D : va_G} {g : Nat → ClassId} {ad : Nat → Nat} (hJ : CJ ad) {u : Mm} {a0 : Int64} {a2 : Int64} {Q : Int64 → Prop} (h : wX7_cut a0 a2 Q) : Met l yX7_cut (Cond.code yX7_cut cX7_cut 4 (some .long) :: gt) ({ frames := 1, cells := 0, slots := 0, locals := 23 } : Room) (CPc D g ad u [.long a0, .long a2]) (va_Ql (fun r u1 => u = u1 ∧ Q r) (CB D g ad) (CA ad)) 0 0 (CA ad) := by
  refine Met.ofW (cc := cX7_cut) (maxL := 4) (ret := (some .long)) (by decide) rfl ?_
  intro p e s m args below meth c s₁ B hml hv
  refine Centry (own := RX7) B hml hv hJ rfl (Nat.le_of_ble_eq_true rfl) (fun ls H locs X w hl => ?_)
  obtain ⟨⟨hx, hb, hml, hown, hts⟩, hr, hlocks, hK, hJ, hAA⟩ := id X
  have hl : lv_has ls 4 [(0, .long a0), (2, .long a2)] := hl
  unfold wX7_cut at h
  refine lv_lload_n (pc := 0) hx hb dX7_cut_0 rfl (lv_at hl 1 rfl) ?_
  refine lv_lneg (pc := 1) hx hb dX7_cut_1 ?_
  refine lv_lload_n (pc := 2) hx hb dX7_cut_2 rfl (lv_at hl 0 rfl) ?_
  refine lv_lload_n (pc := 3) hx hb dX7_cut_3 rfl (lv_at hl 1 rfl) ?_
  refine Ccalll (rest := [.long (-a2)]) (CrunS (pc := 4) X w (okJ9_min_f86c9 l hJ h) kw236 kmJ9_min_f86c9 ⟨rfl, rfl⟩ ⟨by decide, by decide⟩ rfl hl.1 rfl (Nat.le_of_ble_eq_true rfl) dX7_cut_4) w (fun r1 u9_ H locs h w => ?_)
  obtain ⟨rfl, h⟩ := h
  refine Ccalll (rest := []) (CrunS (pc := 7) X w (okJ9_max_f86c9 l hJ h) kw239 kmJ9_max_f86c9 ⟨rfl, rfl⟩ ⟨by decide, by decide⟩ rfl hl.1 rfl (Nat.le_of_ble_eq_true rfl) dX7_cut_7) w (fun r2 u9_ H locs h w => ?_)
  obtain ⟨rfl, h⟩ := h
  exact Clret (pc := 10) X w ⟨rfl, h⟩ dX7_cut_10
set_option maxHeartbeats 4000000 in
set_option maxRecDepth 100000 in
theorem okX7_chained (l : Launch) {D : va_G} {g : Nat → ClassId} {ad : Nat → Nat} (hJ : CJ ad) {u : Mm} {a0 : Int64} {a2 : Int64} {Q : Int64 → Prop} (h : wX7_chained a0 a2 Q) : Met l yX7_chained (Cond.code yX7_chained cX7_chained 4 (some .long) :: gt) ({ frames := 1, cells := 0, slots := 0, locals := 25 } : Room) (CPc D g ad u [.long a0, .long a2]) (va_Ql (fun r u1 => u = u1 ∧ Q r) (CB D g ad) (CA ad)) 0 0 (CA ad) := by
  refine Met.ofW (cc := cX7_chained) (maxL := 4) (ret := (some .long)) (by decide) rfl ?_
  intro p e s m args below meth c s₁ B hml hv
  refine Centry (own := RX7) B hml hv hJ rfl (Nat.le_of_ble_eq_true rfl) (fun ls H locs X w hl => ?_)
  obtain ⟨⟨hx, hb, hml, hown, hts⟩, hr, hlocks, hK, hJ, hAA⟩ := id X
  have hl : lv_has ls 4 [(0, .long a0), (2, .long a2)] := hl
  unfold wX7_chained at h
  refine lv_lload_n (pc := 0) hx hb dX7_chained_0 rfl (lv_at hl 0 rfl) ?_
  refine lv_lload_n (pc := 1) hx hb dX7_chained_1 rfl (lv_at hl 1 rfl) ?_
  refine lv_lmul (pc := 2) hx hb dX7_chained_2 ?_
  refine lv_ldc2 (pc := 3) (v := (1000000 : Int64)) hx hb hown (hts _ (List.mem_cons_of_mem _ kw225)) dX7_chained_3 ?_
  refine Ccalll (rest := []) (CrunS (pc := 6) X w (okJ9_floorDiv_f86c9 l hJ h) kw213 kmJ9_floorDiv_f86c9 ⟨rfl, rfl⟩ ⟨by decide, by decide⟩ rfl hl.1 rfl (Nat.le_of_ble_eq_true rfl) dX7_chained_6) w (fun r1 u9_ H locs h w => ?_)
  obtain ⟨rfl, h⟩ := h
  exact Clret (pc := 9) X w ⟨rfl, h⟩ dX7_chained_9
set_option maxHeartbeats 4000000 in
set_option maxRecDepth 100000 in
theorem bX7_chainOf_8 {l : Launch} {p : Program} {e : Env} {s : State} {m : MethodId} {args : Array Value} {below : List Frame} {meth : Method} {c : Code} {D : va_G} {g : Nat → ClassId} {ad : Nat → Nat} {u : Mm} {Q : Int64 → Prop} (X : CX p s m args meth c cX7_chainOf RX7 12 (some .long) (Cond.code yX7_chainOf cX7_chainOf 12 (some .long)) D g ad (CA ad)) : ∀ (n : Nat) (x1 : Int32) (x2 : Int32) (x3 : Int32) (x4 : Int64) (x6 : Int32) (H : Heap) (locs : List Loc) (ls : Array Slot), wX7_chainOf_b8 u Q n x1 x2 x3 x4 x6 → CWd D g ad (CA ad) s u H locs → lv_has ls 12 [(0, .ref (ad 23)), (1, .int x1), (2, .int x2), (3, .int x3), (4, .long x4), (6, .int x6)] → W p l e ({ frames := 4, cells := 0, slots := 0, locals := 104 } : Room) s m args below meth c H locs 0 0 (MQ below (va_Ql (fun r u1 => u = u1 ∧ Q r) (CB D g ad) (CA ad)) args s 0 0 (CA ad)) (F0 m 8 ls []) := by
  obtain ⟨⟨hx, hb, hml, hown, hts⟩, hr, hlocks, hK, hJ, hAA⟩ := id X
  intro n
  induction n with
  | zero =>
    intro x1 x2 x3 x4 x6 H locs ls h
    exact False.elim h
  | succ n ih =>
    intro x1 x2 x3 x4 x6 H locs ls h w hl
    unfold wX7_chainOf_b8 at h
    refine lv_iload (pc := 8) hx hb dX7_chainOf_8 (lv_at hl 5 rfl) ?_
    refine lv_iload_n (pc := 10) hx hb dX7_chainOf_10 rfl (lv_at hl 3 rfl) ?_
    refine lv_icmp_gt (pc := 11) (tgt := 86) hx hb dX7_chainOf_11 (by decide) (fun c_ => ?_) (fun c_ => ?_)
    · have h := h.1 c_
      refine lv_lload (pc := 86) hx hb dX7_chainOf_86 (lv_at hl 4 rfl) ?_
      exact Clret (pc := 88) X w ⟨rfl, h⟩ dX7_chainOf_88
    · have h := h.2 c_
      refine lv_iload (pc := 14) hx hb dX7_chainOf_14 (lv_at hl 5 rfl) ?_
      refine Ccalli (rest := []) (CrunS (pc := 16) X w (okX7_priceYearOf l hJ h) kw226 kmX7_priceYearOf ⟨rfl, rfl⟩ ⟨by decide, by decide⟩ rfl hl.1 rfl (Nat.le_of_ble_eq_true rfl) dX7_chainOf_16) w (fun r1 u9_ H locs h w => ?_)
      obtain ⟨rfl, h⟩ := h
      refine lv_istore (pc := 19) (lv' := [(7, .int r1), (0, .ref (ad 23)), (1, .int x1), (2, .int x2), (3, .int x3), (4, .long x4), (6, .int x6)]) hx hb dX7_chainOf_19 hl (by decide) rfl (fun ls hl => ?_)
      refine lv_aload_n (pc := 21) hx hb dX7_chainOf_21 rfl (lv_at hl 1 rfl) ?_
      refine lv_iload_n (pc := 22) hx hb dX7_chainOf_22 rfl (lv_at hl 2 rfl) ?_
      refine lv_iload_n (pc := 23) hx hb dX7_chainOf_23 rfl (lv_at hl 3 rfl) ?_
      refine lv_iload (pc := 24) hx hb dX7_chainOf_24 (lv_at hl 6 rfl) ?_
      refine lv_iconst (pc := 26) (v := (1 : Int32)) hx hb dX7_chainOf_26 (by decide) ?_
      refine lv_isub (pc := 27) hx hb dX7_chainOf_27 ?_
      refine lv_iload (pc := 28) hx hb dX7_chainOf_28 (lv_at hl 0 rfl) ?_
      refine Ccalll (rest := []) (CrunV (pc := 30) X w (okX7_valueOf l hJ h) kw229 kmX7_valueOf ⟨rfl, rfl⟩ ⟨by decide, by decide⟩ (Crv_23 X w) rfl hl.1 rfl (Nat.le_of_ble_eq_true rfl) dX7_chainOf_30) w (fun r2 u9_ H locs h w => ?_)
      obtain ⟨rfl, h⟩ := h
      refine lv_lstore (pc := 33) (lv' := [(8, .long r2), (7, .int r1), (0, .ref (ad 23)), (1, .int x1), (2, .int x2), (3, .int x3), (4, .long x4), (6, .int x6)]) hx hb dX7_chainOf_33 hl (by decide) rfl (fun ls hl => ?_)
      refine lv_lload (pc := 35) hx hb dX7_chainOf_35 (lv_at hl 0 rfl) ?_
      refine lv_lconst (pc := 37) (v := (0 : Int64)) hx hb dX7_chainOf_37 (by decide) ?_
      refine lq_le (pc := 38) (tgt := 80) hx hb dX7_chainOf_38 dX7_chainOf_39 (by decide) (fun c_ => ?_) (fun c_ => ?_)
      · have h := h.1 c_
        obtain ⟨x6_3, e_⟩ : ∃ y : Int32, y = x6 + (1 : Int32) := ⟨_, rfl⟩
        have h := h x6_3 e_
        refine lv_iinc (pc := 80) (v := x6_3) (lv' := [(6, .int x6_3), (8, .long r2), (7, .int r1), (0, .ref (ad 23)), (1, .int x1), (2, .int x2), (3, .int x3), (4, .long x4)]) hx hb dX7_chainOf_80 hl (k := 7) rfl (by rw [e_]; rfl) (by decide) rfl (fun ls hl => ?_)
        refine lv_goto (pc := 83) (tgt := 8) hx hb dX7_chainOf_83 (by decide) ?_
        exact ih x1 x2 x3 x4 x6_3 H locs ls h w (lv_sub hl [3, 4, 5, 6, 7, 0] rfl)
      · have h := h.2 c_
        refine lv_aload_n (pc := 42) hx hb dX7_chainOf_42 rfl (lv_at hl 2 rfl) ?_
        refine lv_iload_n (pc := 43) hx hb dX7_chainOf_43 rfl (lv_at hl 3 rfl) ?_
        refine lv_iload_n (pc := 44) hx hb dX7_chainOf_44 rfl (lv_at hl 4 rfl) ?_
        refine lv_iload (pc := 45) hx hb dX7_chainOf_45 (lv_at hl 7 rfl) ?_
        refine lv_iload (pc := 47) hx hb dX7_chainOf_47 (lv_at hl 1 rfl) ?_
        refine Ccalll (rest := []) (CrunV (pc := 49) X w (okX7_valueOf l hJ h) kw229 kmX7_valueOf ⟨rfl, rfl⟩ ⟨by decide, by decide⟩ (Crv_23 X w) rfl hl.1 rfl (Nat.le_of_ble_eq_true rfl) dX7_chainOf_49) w (fun r4 u9_ H locs h w => ?_)
        obtain ⟨rfl, h⟩ := h
        refine lv_lload (pc := 52) hx hb dX7_chainOf_52 (lv_at hl 0 rfl) ?_
        refine Ccalll (rest := []) (CrunS (pc := 54) X w (okX7_ratio l hJ h) kw233 kmX7_ratio ⟨rfl, rfl⟩ ⟨by decide, by decide⟩ rfl hl.1 rfl (Nat.le_of_ble_eq_true rfl) dX7_chainOf_54) w (fun r5 u9_ H locs h w => ?_)
        obtain ⟨rfl, h⟩ := h
        refine lv_ldc2 (pc := 57) (v := (1000000000 : Int64)) hx hb hown (hts _ (List.mem_cons_of_mem _ kw242)) dX7_chainOf_57 ?_
        refine Ccalll (rest := []) (CrunS (pc := 60) X w (okX7_cut l hJ h) kw243 kmX7_cut ⟨rfl, rfl⟩ ⟨by decide, by decide⟩ rfl hl.1 rfl (Nat.le_of_ble_eq_true rfl) dX7_chainOf_60) w (fun r6 u9_ H locs h w => ?_)
        obtain ⟨rfl, h⟩ := h
        refine lv_lstore (pc := 63) (lv' := [(10, .long r6), (8, .long r2), (7, .int r1), (0, .ref (ad 23)), (1, .int x1), (2, .int x2), (3, .int x3), (4, .long x4), (6, .int x6)]) hx hb dX7_chainOf_63 hl (by decide) rfl (fun ls hl => ?_)
        refine lv_lload (pc := 65) hx hb dX7_chainOf_65 (lv_at hl 0 rfl) ?_
        refine lv_lload (pc := 67) hx hb dX7_chainOf_67 (lv_at hl 7 rfl) ?_
        refine Ccalll (rest := []) (CrunS (pc := 69) X w (okX7_chained l hJ h) kw246 kmX7_chained ⟨rfl, rfl⟩ ⟨by decide, by decide⟩ rfl hl.1 rfl (Nat.le_of_ble_eq_true rfl) dX7_chainOf_69) w (fun r7 u9_ H locs h w => ?_)
        obtain ⟨rfl, h⟩ := h
        refine lv_ldc2 (pc := 72) (v := (10000000 : Int64)) hx hb hown (hts _ (List.mem_cons_of_mem _ kw249)) dX7_chainOf_72 ?_
        refine Ccalll (rest := []) (CrunS (pc := 75) X w (okX7_cut l hJ h) kw243 kmX7_cut ⟨rfl, rfl⟩ ⟨by decide, by decide⟩ rfl hl.1 rfl (Nat.le_of_ble_eq_true rfl) dX7_chainOf_75) w (fun r8 u9_ H locs h w => ?_)
        obtain ⟨rfl, h⟩ := h
        refine lv_lstore (pc := 78) (lv' := [(4, .long r8), (10, .long r6), (8, .long r2), (7, .int r1), (0, .ref (ad 23)), (1, .int x1), (2, .int x2), (3, .int x3), (6, .int x6)]) hx hb dX7_chainOf_78 hl (by decide) rfl (fun ls hl => ?_)
        obtain ⟨x6_9, e_⟩ : ∃ y : Int32, y = x6 + (1 : Int32) := ⟨_, rfl⟩
        have h := h x6_9 e_
        refine lv_iinc (pc := 80) (v := x6_9) (lv' := [(6, .int x6_9), (4, .long r8), (10, .long r6), (8, .long r2), (7, .int r1), (0, .ref (ad 23)), (1, .int x1), (2, .int x2), (3, .int x3)]) hx hb dX7_chainOf_80 hl (k := 8) rfl (by rw [e_]; rfl) (by decide) rfl (fun ls hl => ?_)
        refine lv_goto (pc := 83) (tgt := 8) hx hb dX7_chainOf_83 (by decide) ?_
        exact ih x1 x2 x3 r8 x6_9 H locs ls h w (lv_sub hl [5, 6, 7, 8, 1, 0] rfl)
set_option maxHeartbeats 4000000 in
set_option maxRecDepth 100000 in
theorem okX7_chainOf (l : Launch) {D : va_G} {g : Nat → ClassId} {ad : Nat → Nat} (hJ : CJ ad) {u : Mm} {a1 : Int32} {a2 : Int32} {a3 : Int32} {Q : Int64 → Prop} (h : wX7_chainOf u a1 a2 a3 Q) : Met l yX7_chainOf (Cond.code yX7_chainOf cX7_chainOf 12 (some .long) :: gt) ({ frames := 4, cells := 0, slots := 0, locals := 104 } : Room) (CPc D g ad u [.ref (ad 23), .int a1, .int a2, .int a3]) (va_Ql (fun r u1 => u = u1 ∧ Q r) (CB D g ad) (CA ad)) 0 0 (CA ad) := by
  refine Met.ofW (cc := cX7_chainOf) (maxL := 12) (ret := (some .long)) (by decide) rfl ?_
  intro p e s m args below meth c s₁ B hml hv
  refine Centry (own := RX7) B hml hv hJ rfl (Nat.le_of_ble_eq_true rfl) (fun ls H locs X w hl => ?_)
  obtain ⟨⟨hx, hb, hml, hown, hts⟩, hr, hlocks, hK, hJ, hAA⟩ := id X
  have hl : lv_has ls 12 [(0, .ref (ad 23)), (1, .int a1), (2, .int a2), (3, .int a3)] := hl
  unfold wX7_chainOf at h
  refine lv_ldc2 (pc := 0) (v := (1000000 : Int64)) hx hb hown (hts _ (List.mem_cons_of_mem _ kw225)) dX7_chainOf_0 ?_
  refine lv_lstore (pc := 3) (lv' := [(4, .long (1000000 : Int64)), (0, .ref (ad 23)), (1, .int a1), (2, .int a2), (3, .int a3)]) hx hb dX7_chainOf_3 hl (by decide) rfl (fun ls hl => ?_)
  refine lv_iconst (pc := 5) (v := (1 : Int32)) hx hb dX7_chainOf_5 (by decide) ?_
  refine lv_istore (pc := 6) (lv' := [(6, .int (1 : Int32)), (4, .long (1000000 : Int64)), (0, .ref (ad 23)), (1, .int a1), (2, .int a2), (3, .int a3)]) hx hb dX7_chainOf_6 hl (by decide) rfl (fun ls hl => ?_)
  obtain ⟨n9, h⟩ := h
  exact bX7_chainOf_8 X n9 a1 a2 a3 (1000000 : Int64) (1 : Int32) H locs ls h w (lv_sub hl [2, 3, 4, 5, 1, 0] rfl)
set_option maxHeartbeats 4000000 in
set_option maxRecDepth 100000 in
theorem bX7_partOf_42 {l : Launch} {p : Program} {e : Env} {s : State} {m : MethodId} {args : Array Value} {below : List Frame} {meth : Method} {c : Code} {D : va_G} {g : Nat → ClassId} {ad : Nat → Nat} {Q : Int64 → Mm → Prop} (X : CX p s m args meth c cX7_partOf RX7 12 (some .long) (Cond.code yX7_partOf cX7_partOf 12 (some .long)) D g ad (CA ad)) : ∀ (n : Nat) (u : Mm) (x1 : Int32) (x2 : Int32) (x3 : Int32) (x4 : Int32) (x5 : Int64) (x7 : Int64) (x9 : Int32) (H : Heap) (locs : List Loc) (ls : Array Slot), wX7_partOf_b42 Q n u x1 x2 x3 x4 x5 x7 x9 → CWd D g ad (CA ad) s u H locs → lv_has ls 12 [(0, .ref (ad 23)), (1, .int x1), (2, .int x2), (3, .int x3), (4, .int x4), (5, .long x5), (7, .long x7), (9, .int x9)] → W p l e ({ frames := 4, cells := 0, slots := 0, locals := 104 } : Room) s m args below meth c H locs 0 0 (MQ below (va_Ql Q (CB D g ad) (CA ad)) args s 0 0 (CA ad)) (F0 m 42 ls []) := by
  obtain ⟨⟨hx, hb, hml, hown, hts⟩, hr, hlocks, hK, hJ, hAA⟩ := id X
  intro n
  induction n with
  | zero =>
    intro u x1 x2 x3 x4 x5 x7 x9 H locs ls h
    exact False.elim h
  | succ n ih =>
    intro u x1 x2 x3 x4 x5 x7 x9 H locs ls h w hl
    unfold wX7_partOf_b42 at h
    refine lv_iload (pc := 42) hx hb dX7_partOf_42 (lv_at hl 7 rfl) ?_
    refine lv_iconst (pc := 44) (v := (4 : Int32)) hx hb dX7_partOf_44 (by decide) ?_
    refine lv_icmp_ge (pc := 45) (tgt := 101) hx hb dX7_partOf_45 (by decide) (fun c_ => ?_) (fun c_ => ?_)
    · have h := h.1 c_
      refine lv_aload_n (pc := 101) hx hb dX7_partOf_101 rfl (lv_at hl 0 rfl) ?_
      refine Cgf_23_2 (pc := 102) X w kw250 dX7_partOf_102 ?_
      refine lv_lload (pc := 105) hx hb dX7_partOf_105 (lv_at hl 6 rfl) ?_
      refine lv_iconst (pc := 107) (v := (4 : Int32)) hx hb dX7_partOf_107 (by decide) ?_
      refine Ccallv (rest := []) (CrunV (pc := 108) X w (okX2_handOut_i1 l hJ h) kw251 kmX2_handOut ⟨rfl, rfl⟩ ⟨by decide, by decide⟩ (Crv_25 X w) rfl hl.1 rfl (Nat.le_of_ble_eq_true rfl) dX7_partOf_108) w (fun u2 H locs h w => ?_)
      refine lv_aload_n (pc := 111) hx hb dX7_partOf_111 rfl (lv_at hl 0 rfl) ?_
      refine Cgf_23_2 (pc := 112) X w kw250 dX7_partOf_112 ?_
      refine Cgf_25_1 (pc := 115) X w kw252 dX7_partOf_115 ?_
      refine lv_iload_n (pc := 118) hx hb dX7_partOf_118 rfl (lv_at hl 1 rfl) ?_
      refine Cld_27 (pc := 119) X w h.1 dX7_partOf_119 ?_
      have h := h.2
      exact Clret (pc := 120) X w h dX7_partOf_120
    · have h := h.2 c_
      refine lv_aload_n (pc := 48) hx hb dX7_partOf_48 rfl (lv_at hl 0 rfl) ?_
      refine lv_iload (pc := 49) hx hb dX7_partOf_49 (lv_at hl 7 rfl) ?_
      refine lv_iload_n (pc := 51) hx hb dX7_partOf_51 rfl (lv_at hl 2 rfl) ?_
      refine lv_iload_n (pc := 52) hx hb dX7_partOf_52 rfl (lv_at hl 3 rfl) ?_
      refine lv_iload (pc := 53) hx hb dX7_partOf_53 (lv_at hl 4 rfl) ?_
      refine Ccalll (rest := []) (CrunV (pc := 55) X w (okX7_valueOf l hJ h) kw229 kmX7_valueOf ⟨rfl, rfl⟩ ⟨by decide, by decide⟩ (Crv_23 X w) rfl hl.1 rfl (Nat.le_of_ble_eq_true rfl) dX7_partOf_55) w (fun r3 u9_ H locs h w => ?_)
      obtain ⟨rfl, h⟩ := h
      refine lv_aload_n (pc := 58) hx hb dX7_partOf_58 rfl (lv_at hl 0 rfl) ?_
      refine lv_iload (pc := 59) hx hb dX7_partOf_59 (lv_at hl 7 rfl) ?_
      refine lv_iload_n (pc := 61) hx hb dX7_partOf_61 rfl (lv_at hl 2 rfl) ?_
      refine lv_iload_n (pc := 62) hx hb dX7_partOf_62 rfl (lv_at hl 3 rfl) ?_
      refine lv_iconst (pc := 63) (v := (1 : Int32)) hx hb dX7_partOf_63 (by decide) ?_
      refine lv_isub (pc := 64) hx hb dX7_partOf_64 ?_
      refine lv_iload (pc := 65) hx hb dX7_partOf_65 (lv_at hl 4 rfl) ?_
      refine Ccalll (rest := [.long r3]) (CrunV (pc := 67) X w (okX7_valueOf l hJ h) kw229 kmX7_valueOf ⟨rfl, rfl⟩ ⟨by decide, by decide⟩ (Crv_23 X w) rfl hl.1 rfl (Nat.le_of_ble_eq_true rfl) dX7_partOf_67) w (fun r4 u9_ H locs h w => ?_)
      obtain ⟨rfl, h⟩ := h
      refine lv_lsub (pc := 70) hx hb dX7_partOf_70 ?_
      refine lv_topl (fun x10_5 e_ => ?_)
      have h := h x10_5 e_
      refine lv_lstore (pc := 71) (lv' := [(10, .long x10_5), (0, .ref (ad 23)), (1, .int x1), (2, .int x2), (3, .int x3), (4, .int x4), (5, .long x5), (7, .long x7), (9, .int x9)]) hx hb dX7_partOf_71 hl (by decide) rfl (fun ls hl => ?_)
      refine lv_lload (pc := 73) hx hb dX7_partOf_73 (lv_at hl 7 rfl) ?_
      refine lv_aload_n (pc := 75) hx hb dX7_partOf_75 rfl (lv_at hl 1 rfl) ?_
      refine Cgf_23_2 (pc := 76) X w kw250 dX7_partOf_76 ?_
      refine lv_iload (pc := 79) hx hb dX7_partOf_79 (lv_at hl 8 rfl) ?_
      refine lv_lload (pc := 81) hx hb dX7_partOf_81 (lv_at hl 0 rfl) ?_
      refine lv_ldc2 (pc := 83) (v := (1000000 : Int64)) hx hb hown (hts _ (List.mem_cons_of_mem _ kw225)) dX7_partOf_83 ?_
      refine lv_lmul (pc := 86) hx hb dX7_partOf_86 ?_
      refine lv_lload (pc := 87) hx hb dX7_partOf_87 (lv_at hl 6 rfl) ?_
      refine Ccalll (rest := [.long x7]) (CrunV (pc := 89) X w (okX2_divide_i1 l hJ h) kw253 kmX2_divide ⟨rfl, rfl⟩ ⟨by decide, by decide⟩ (Crv_25 X w) rfl hl.1 rfl (Nat.le_of_ble_eq_true rfl) dX7_partOf_89) w (fun r6 u7 H locs h w => ?_)
      refine lv_lsub (pc := 92) hx hb dX7_partOf_92 ?_
      refine lv_topl (fun x7_8 e_ => ?_)
      have h := h x7_8 e_
      refine lv_lstore (pc := 93) (lv' := [(7, .long x7_8), (10, .long x10_5), (0, .ref (ad 23)), (1, .int x1), (2, .int x2), (3, .int x3), (4, .int x4), (5, .long x5), (9, .int x9)]) hx hb dX7_partOf_93 hl (by decide) rfl (fun ls hl => ?_)
      obtain ⟨x9_9, e_⟩ : ∃ y : Int32, y = x9 + (1 : Int32) := ⟨_, rfl⟩
      have h := h x9_9 e_
      refine lv_iinc (pc := 95) (v := x9_9) (lv' := [(9, .int x9_9), (7, .long x7_8), (10, .long x10_5), (0, .ref (ad 23)), (1, .int x1), (2, .int x2), (3, .int x3), (4, .int x4), (5, .long x5)]) hx hb dX7_partOf_95 hl (k := 8) rfl (by rw [e_]; rfl) (by decide) rfl (fun ls hl => ?_)
      refine lv_goto (pc := 98) (tgt := 42) hx hb dX7_partOf_98 (by decide) ?_
      exact ih u7 x1 x2 x3 x4 x5 x7_8 x9_9 H locs ls h w (lv_sub hl [3, 4, 5, 6, 7, 8, 1, 0] rfl)
set_option maxHeartbeats 4000000 in
set_option maxRecDepth 100000 in
theorem okX7_partOf (l : Launch) {D : va_G} {g : Nat → ClassId} {ad : Nat → Nat} (hJ : CJ ad) {u : Mm} {a1 : Int32} {a2 : Int32} {a3 : Int32} {Q : Int64 → Mm → Prop} (h : wX7_partOf u a1 a2 a3 Q) : Met l yX7_partOf (Cond.code yX7_partOf cX7_partOf 12 (some .long) :: gt) ({ frames := 4, cells := 0, slots := 0, locals := 104 } : Room) (CPc D g ad u [.ref (ad 23), .int a1, .int a2, .int a3]) (va_Ql Q (CB D g ad) (CA ad)) 0 0 (CA ad) := by
  refine Met.ofW (cc := cX7_partOf) (maxL := 12) (ret := (some .long)) (by decide) rfl ?_
  intro p e s m args below meth c s₁ B hml hv
  refine Centry (own := RX7) B hml hv hJ rfl (Nat.le_of_ble_eq_true rfl) (fun ls H locs X w hl => ?_)
  obtain ⟨⟨hx, hb, hml, hown, hts⟩, hr, hlocks, hK, hJ, hAA⟩ := id X
  have hl : lv_has ls 12 [(0, .ref (ad 23)), (1, .int a1), (2, .int a2), (3, .int a3)] := hl
  unfold wX7_partOf at h
  refine lv_iload_n (pc := 0) hx hb dX7_partOf_0 rfl (lv_at hl 3 rfl) ?_
  refine Ccalli (rest := []) (CrunS (pc := 1) X w (okX7_priceYearOf l hJ h) kw226 kmX7_priceYearOf ⟨rfl, rfl⟩ ⟨by decide, by decide⟩ rfl hl.1 rfl (Nat.le_of_ble_eq_true rfl) dX7_partOf_1) w (fun r1 u9_ H locs h w => ?_)
  obtain ⟨rfl, h⟩ := h
  refine lv_istore (pc := 4) (lv' := [(4, .int r1), (0, .ref (ad 23)), (1, .int a1), (2, .int a2), (3, .int a3)]) hx hb dX7_partOf_4 hl (by decide) rfl (fun ls hl => ?_)
  refine lv_aload_n (pc := 6) hx hb dX7_partOf_6 rfl (lv_at hl 1 rfl) ?_
  refine lv_iconst (pc := 7) (v := (-1 : Int32)) hx hb dX7_partOf_7 (by decide) ?_
  refine lv_iload_n (pc := 8) hx hb dX7_partOf_8 rfl (lv_at hl 3 rfl) ?_
  refine lv_iload_n (pc := 9) hx hb dX7_partOf_9 rfl (lv_at hl 4 rfl) ?_
  refine lv_iconst (pc := 10) (v := (1 : Int32)) hx hb dX7_partOf_10 (by decide) ?_
  refine lv_isub (pc := 11) hx hb dX7_partOf_11 ?_
  refine lv_iload (pc := 12) hx hb dX7_partOf_12 (lv_at hl 0 rfl) ?_
  refine Ccalll (rest := []) (CrunV (pc := 14) X w (okX7_valueOf l hJ h) kw229 kmX7_valueOf ⟨rfl, rfl⟩ ⟨by decide, by decide⟩ (Crv_23 X w) rfl hl.1 rfl (Nat.le_of_ble_eq_true rfl) dX7_partOf_14) w (fun r2 u9_ H locs h w => ?_)
  obtain ⟨rfl, h⟩ := h
  refine lv_lstore (pc := 17) (lv' := [(5, .long r2), (4, .int r1), (0, .ref (ad 23)), (1, .int a1), (2, .int a2), (3, .int a3)]) hx hb dX7_partOf_17 hl (by decide) rfl (fun ls hl => ?_)
  refine lv_aload_n (pc := 19) hx hb dX7_partOf_19 rfl (lv_at hl 2 rfl) ?_
  refine lv_iconst (pc := 20) (v := (-1 : Int32)) hx hb dX7_partOf_20 (by decide) ?_
  refine lv_iload_n (pc := 21) hx hb dX7_partOf_21 rfl (lv_at hl 4 rfl) ?_
  refine lv_iload_n (pc := 22) hx hb dX7_partOf_22 rfl (lv_at hl 5 rfl) ?_
  refine lv_iload (pc := 23) hx hb dX7_partOf_23 (lv_at hl 1 rfl) ?_
  refine Ccalll (rest := []) (CrunV (pc := 25) X w (okX7_valueOf l hJ h) kw229 kmX7_valueOf ⟨rfl, rfl⟩ ⟨by decide, by decide⟩ (Crv_23 X w) rfl hl.1 rfl (Nat.le_of_ble_eq_true rfl) dX7_partOf_25) w (fun r3 u9_ H locs h w => ?_)
  obtain ⟨rfl, h⟩ := h
  refine lv_lload (pc := 28) hx hb dX7_partOf_28 (lv_at hl 0 rfl) ?_
  refine Ccalll (rest := []) (CrunS (pc := 30) X w (okX7_ratio l hJ h) kw233 kmX7_ratio ⟨rfl, rfl⟩ ⟨by decide, by decide⟩ rfl hl.1 rfl (Nat.le_of_ble_eq_true rfl) dX7_partOf_30) w (fun r4 u9_ H locs h w => ?_)
  obtain ⟨rfl, h⟩ := h
  refine lv_ldc2 (pc := 33) (v := (1000000 : Int64)) hx hb hown (hts _ (List.mem_cons_of_mem _ kw225)) dX7_partOf_33 ?_
  refine lv_lsub (pc := 36) hx hb dX7_partOf_36 ?_
  refine lv_topl (fun x7_5 e_ => ?_)
  have h := h x7_5 e_
  refine lv_lstore (pc := 37) (lv' := [(7, .long x7_5), (5, .long r2), (4, .int r1), (0, .ref (ad 23)), (1, .int a1), (2, .int a2), (3, .int a3)]) hx hb dX7_partOf_37 hl (by decide) rfl (fun ls hl => ?_)
  refine lv_iconst (pc := 39) (v := (0 : Int32)) hx hb dX7_partOf_39 (by decide) ?_
  refine lv_istore (pc := 40) (lv' := [(9, .int (0 : Int32)), (7, .long x7_5), (5, .long r2), (4, .int r1), (0, .ref (ad 23)), (1, .int a1), (2, .int a2), (3, .int a3)]) hx hb dX7_partOf_40 hl (by decide) rfl (fun ls hl => ?_)
  obtain ⟨n9, h⟩ := h
  exact bX7_partOf_42 X n9 u a1 a2 a3 r1 r2 x7_5 (0 : Int32) H locs ls h w (lv_sub hl [4, 5, 6, 7, 3, 2, 1, 0] rfl)
