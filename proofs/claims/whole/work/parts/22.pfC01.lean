set_option maxHeartbeats 4000000 in
set_option maxRecDepth 100000 in
theorem bX1_leftOver_i0_5 {l : Launch} {p : Program} {e : Env} {s : State} {m : MethodId} {args : Array Value} {below : List Frame} {meth : Method} {c : Code} {D : va_G} {g : Nat → ClassId} {ad : Nat → Nat} {u : Mm} {Q : Int64 → Prop} (X : CX p s m args meth c cX1_leftOver RX1 6 (some .long) (Cond.code yX1_leftOver cX1_leftOver 6 (some .long)) D g ad (CA ad)) : ∀ (n : Nat) (x2 : Int32) (x3 : Int64) (x5 : Int32) (H : Heap) (locs : List Loc) (ls : Array Slot), wX1_leftOver_b5 0 u Q n x2 x3 x5 → CWd D g ad (CA ad) s u H locs → lv_has ls 6 [(0, .ref (ad 37)), (1, .ref (ad 22)), (2, .int x2), (3, .long x3), (5, .int x5)] → W p l e ({ frames := 0, cells := 0, slots := 0, locals := 0 } : Room) s m args below meth c H locs 0 0 (MQ below (va_Ql (fun r u1 => u = u1 ∧ Q r) (CB D g ad) (CA ad)) args s 0 0 (CA ad)) (F0 m 5 ls []) := by
  obtain ⟨⟨hx, hb, hml, hown, hts⟩, hr, hlocks, hK, hJ, hAA⟩ := id X
  intro n
  induction n with
  | zero =>
    intro x2 x3 x5 H locs ls h
    exact False.elim h
  | succ n ih =>
    intro x2 x3 x5 H locs ls h w hl
    unfold wX1_leftOver_b5 at h
    refine lv_iload (pc := 5) hx hb dX1_leftOver_5 (lv_at hl 4 rfl) ?_
    refine lv_aload_n (pc := 7) hx hb dX1_leftOver_7 rfl (lv_at hl 0 rfl) ?_
    refine Cgf_37_4 (pc := 8) X w kw26 dX1_leftOver_8 ?_
    refine lv_icmp_ge (pc := 11) (tgt := 65) hx hb dX1_leftOver_11 (by decide) (fun c_ => ?_) (fun c_ => ?_)
    · have h := h.1 c_
      refine lv_lload_n (pc := 65) hx hb dX1_leftOver_65 rfl (lv_at hl 3 rfl) ?_
      exact Clret (pc := 66) X w ⟨rfl, h⟩ dX1_leftOver_66
    · have h := h.2 c_
      refine lv_lload_n (pc := 14) hx hb dX1_leftOver_14 rfl (lv_at hl 3 rfl) ?_
      refine lv_aload_n (pc := 15) hx hb dX1_leftOver_15 rfl (lv_at hl 0 rfl) ?_
      refine Cgf_37_3 (pc := 16) X w kw28 dX1_leftOver_16 ?_
      refine lv_iload (pc := 19) hx hb dX1_leftOver_19 (lv_at hl 4 rfl) ?_
      refine Cld_40 (pc := 21) X w h.1 dX1_leftOver_21 ?_
      have h := h.2
      refine lv_iconst (pc := 22) (v := (-1 : Int32)) hx hb dX1_leftOver_22 (by decide) ?_
      refine lv_icmp_ne (pc := 23) (tgt := 37) hx hb dX1_leftOver_23 (by decide) (fun c_ => ?_) (fun c_ => ?_)
      · have h := h.2 c_
        refine lv_aload_n (pc := 37) hx hb dX1_leftOver_37 rfl (lv_at hl 0 rfl) ?_
        refine Cgf_37_2 (pc := 38) X w kw27 dX1_leftOver_38 ?_
        refine lv_iload (pc := 41) hx hb dX1_leftOver_41 (lv_at hl 4 rfl) ?_
        refine Cld_39 (pc := 43) X w h.1 dX1_leftOver_43 ?_
        have h := h.2
        refine lv_i2l (pc := 44) hx hb dX1_leftOver_44 rfl ?_
        refine lv_aload_n (pc := 45) hx hb dX1_leftOver_45 rfl (lv_at hl 1 rfl) ?_
        refine lv_aload_n (pc := 46) hx hb dX1_leftOver_46 rfl (lv_at hl 0 rfl) ?_
        refine Cgf_37_3 (pc := 47) X w kw28 dX1_leftOver_47 ?_
        refine lv_iload (pc := 50) hx hb dX1_leftOver_50 (lv_at hl 4 rfl) ?_
        refine Cld_40 (pc := 52) X w h.1 dX1_leftOver_52 ?_
        have h := h.2
        refine lv_iload_n (pc := 53) hx hb dX1_leftOver_53 rfl (lv_at hl 2 rfl) ?_
        refine lv_iadd (pc := 54) hx hb dX1_leftOver_54 ?_
        refine Cld_22 (pc := 55) X w h.1 dX1_leftOver_55 ?_
        have h := h.2
        refine lv_lmul (pc := 56) hx hb dX1_leftOver_56 ?_
        refine lv_ladd (pc := 57) hx hb dX1_leftOver_57 ?_
        refine lv_topl (fun x3_1 e_ => ?_)
        have h := h x3_1 e_
        refine lv_lstore_n (pc := 58) (lv' := [(3, .long x3_1), (0, .ref (ad 37)), (1, .ref (ad 22)), (2, .int x2), (5, .int x5)]) hx hb dX1_leftOver_58 rfl hl (by decide) rfl (fun ls hl => ?_)
        obtain ⟨x5_2, e_⟩ : ∃ y : Int32, y = x5 + (1 : Int32) := ⟨_, rfl⟩
        have h := h x5_2 e_
        refine lv_iinc (pc := 59) (v := x5_2) (lv' := [(5, .int x5_2), (3, .long x3_1), (0, .ref (ad 37)), (1, .ref (ad 22)), (2, .int x2)]) hx hb dX1_leftOver_59 hl (k := 4) rfl (by rw [e_]; rfl) (by decide) rfl (fun ls hl => ?_)
        refine lv_goto (pc := 62) (tgt := 5) hx hb dX1_leftOver_62 (by decide) ?_
        exact ih x2 x3_1 x5_2 H locs ls h w (lv_sub hl [2, 3, 4, 1, 0] rfl)
      · have h := h.1 c_
        refine lv_aload_n (pc := 26) hx hb dX1_leftOver_26 rfl (lv_at hl 0 rfl) ?_
        refine Cgf_37_2 (pc := 27) X w kw27 dX1_leftOver_27 ?_
        refine lv_iload (pc := 30) hx hb dX1_leftOver_30 (lv_at hl 4 rfl) ?_
        refine Cld_39 (pc := 32) X w h.1 dX1_leftOver_32 ?_
        have h := h.2
        refine lv_i2l (pc := 33) hx hb dX1_leftOver_33 rfl ?_
        refine lv_goto (pc := 34) (tgt := 57) hx hb dX1_leftOver_34 (by decide) ?_
        refine lv_ladd (pc := 57) hx hb dX1_leftOver_57 ?_
        refine lv_topl (fun x3_3 e_ => ?_)
        have h := h x3_3 e_
        refine lv_lstore_n (pc := 58) (lv' := [(3, .long x3_3), (0, .ref (ad 37)), (1, .ref (ad 22)), (2, .int x2), (5, .int x5)]) hx hb dX1_leftOver_58 rfl hl (by decide) rfl (fun ls hl => ?_)
        obtain ⟨x5_4, e_⟩ : ∃ y : Int32, y = x5 + (1 : Int32) := ⟨_, rfl⟩
        have h := h x5_4 e_
        refine lv_iinc (pc := 59) (v := x5_4) (lv' := [(5, .int x5_4), (3, .long x3_3), (0, .ref (ad 37)), (1, .ref (ad 22)), (2, .int x2)]) hx hb dX1_leftOver_59 hl (k := 4) rfl (by rw [e_]; rfl) (by decide) rfl (fun ls hl => ?_)
        refine lv_goto (pc := 62) (tgt := 5) hx hb dX1_leftOver_62 (by decide) ?_
        exact ih x2 x3_3 x5_4 H locs ls h w (lv_sub hl [2, 3, 4, 1, 0] rfl)
set_option maxHeartbeats 4000000 in
set_option maxRecDepth 100000 in
theorem okX1_leftOver_i0 (l : Launch) {D : va_G} {g : Nat → ClassId} {ad : Nat → Nat} (hJ : CJ ad) {u : Mm} {a2 : Int32} {Q : Int64 → Prop} (h : wX1_leftOver 0 u a2 Q) : Met l yX1_leftOver (Cond.code yX1_leftOver cX1_leftOver 6 (some .long) :: gt) ({ frames := 0, cells := 0, slots := 0, locals := 0 } : Room) (CPc D g ad u [.ref (ad 37), .ref (ad 22), .int a2]) (va_Ql (fun r u1 => u = u1 ∧ Q r) (CB D g ad) (CA ad)) 0 0 (CA ad) := by
  refine Met.ofW (cc := cX1_leftOver) (maxL := 6) (ret := (some .long)) (by decide) rfl ?_
  intro p e s m args below meth c s₁ B hml hv
  refine Centry (own := RX1) B hml hv hJ rfl (Nat.le_of_ble_eq_true rfl) (fun ls H locs X w hl => ?_)
  obtain ⟨⟨hx, hb, hml, hown, hts⟩, hr, hlocks, hK, hJ, hAA⟩ := id X
  have hl : lv_has ls 6 [(0, .ref (ad 37)), (1, .ref (ad 22)), (2, .int a2)] := hl
  unfold wX1_leftOver at h
  refine lv_lconst (pc := 0) (v := (0 : Int64)) hx hb dX1_leftOver_0 (by decide) ?_
  refine lv_lstore_n (pc := 1) (lv' := [(3, .long (0 : Int64)), (0, .ref (ad 37)), (1, .ref (ad 22)), (2, .int a2)]) hx hb dX1_leftOver_1 rfl hl (by decide) rfl (fun ls hl => ?_)
  refine lv_iconst (pc := 2) (v := (0 : Int32)) hx hb dX1_leftOver_2 (by decide) ?_
  refine lv_istore (pc := 3) (lv' := [(5, .int (0 : Int32)), (3, .long (0 : Int64)), (0, .ref (ad 37)), (1, .ref (ad 22)), (2, .int a2)]) hx hb dX1_leftOver_3 hl (by decide) rfl (fun ls hl => ?_)
  obtain ⟨n9, h⟩ := h
  exact bX1_leftOver_i0_5 X n9 a2 (0 : Int64) (0 : Int32) H locs ls h w (lv_sub hl [2, 3, 4, 1, 0] rfl)
set_option maxHeartbeats 4000000 in
set_option maxRecDepth 100000 in
theorem bX1_leftOver_i1_5 {l : Launch} {p : Program} {e : Env} {s : State} {m : MethodId} {args : Array Value} {below : List Frame} {meth : Method} {c : Code} {D : va_G} {g : Nat → ClassId} {ad : Nat → Nat} {u : Mm} {Q : Int64 → Prop} (X : CX p s m args meth c cX1_leftOver RX1 6 (some .long) (Cond.code yX1_leftOver cX1_leftOver 6 (some .long)) D g ad (CA ad)) : ∀ (n : Nat) (x2 : Int32) (x3 : Int64) (x5 : Int32) (H : Heap) (locs : List Loc) (ls : Array Slot), wX1_leftOver_b5 1 u Q n x2 x3 x5 → CWd D g ad (CA ad) s u H locs → lv_has ls 6 [(0, .ref (ad 41)), (1, .ref (ad 22)), (2, .int x2), (3, .long x3), (5, .int x5)] → W p l e ({ frames := 0, cells := 0, slots := 0, locals := 0 } : Room) s m args below meth c H locs 0 0 (MQ below (va_Ql (fun r u1 => u = u1 ∧ Q r) (CB D g ad) (CA ad)) args s 0 0 (CA ad)) (F0 m 5 ls []) := by
  obtain ⟨⟨hx, hb, hml, hown, hts⟩, hr, hlocks, hK, hJ, hAA⟩ := id X
  intro n
  induction n with
  | zero =>
    intro x2 x3 x5 H locs ls h
    exact False.elim h
  | succ n ih =>
    intro x2 x3 x5 H locs ls h w hl
    unfold wX1_leftOver_b5 at h
    refine lv_iload (pc := 5) hx hb dX1_leftOver_5 (lv_at hl 4 rfl) ?_
    refine lv_aload_n (pc := 7) hx hb dX1_leftOver_7 rfl (lv_at hl 0 rfl) ?_
    refine Cgf_41_4 (pc := 8) X w kw26 dX1_leftOver_8 ?_
    refine lv_icmp_ge (pc := 11) (tgt := 65) hx hb dX1_leftOver_11 (by decide) (fun c_ => ?_) (fun c_ => ?_)
    · have h := h.1 c_
      refine lv_lload_n (pc := 65) hx hb dX1_leftOver_65 rfl (lv_at hl 3 rfl) ?_
      exact Clret (pc := 66) X w ⟨rfl, h⟩ dX1_leftOver_66
    · have h := h.2 c_
      refine lv_lload_n (pc := 14) hx hb dX1_leftOver_14 rfl (lv_at hl 3 rfl) ?_
      refine lv_aload_n (pc := 15) hx hb dX1_leftOver_15 rfl (lv_at hl 0 rfl) ?_
      refine Cgf_41_3 (pc := 16) X w kw28 dX1_leftOver_16 ?_
      refine lv_iload (pc := 19) hx hb dX1_leftOver_19 (lv_at hl 4 rfl) ?_
      refine Cld_44 (pc := 21) X w h.1 dX1_leftOver_21 ?_
      have h := h.2
      refine lv_iconst (pc := 22) (v := (-1 : Int32)) hx hb dX1_leftOver_22 (by decide) ?_
      refine lv_icmp_ne (pc := 23) (tgt := 37) hx hb dX1_leftOver_23 (by decide) (fun c_ => ?_) (fun c_ => ?_)
      · have h := h.2 c_
        refine lv_aload_n (pc := 37) hx hb dX1_leftOver_37 rfl (lv_at hl 0 rfl) ?_
        refine Cgf_41_2 (pc := 38) X w kw27 dX1_leftOver_38 ?_
        refine lv_iload (pc := 41) hx hb dX1_leftOver_41 (lv_at hl 4 rfl) ?_
        refine Cld_43 (pc := 43) X w h.1 dX1_leftOver_43 ?_
        have h := h.2
        refine lv_i2l (pc := 44) hx hb dX1_leftOver_44 rfl ?_
        refine lv_aload_n (pc := 45) hx hb dX1_leftOver_45 rfl (lv_at hl 1 rfl) ?_
        refine lv_aload_n (pc := 46) hx hb dX1_leftOver_46 rfl (lv_at hl 0 rfl) ?_
        refine Cgf_41_3 (pc := 47) X w kw28 dX1_leftOver_47 ?_
        refine lv_iload (pc := 50) hx hb dX1_leftOver_50 (lv_at hl 4 rfl) ?_
        refine Cld_44 (pc := 52) X w h.1 dX1_leftOver_52 ?_
        have h := h.2
        refine lv_iload_n (pc := 53) hx hb dX1_leftOver_53 rfl (lv_at hl 2 rfl) ?_
        refine lv_iadd (pc := 54) hx hb dX1_leftOver_54 ?_
        refine Cld_22 (pc := 55) X w h.1 dX1_leftOver_55 ?_
        have h := h.2
        refine lv_lmul (pc := 56) hx hb dX1_leftOver_56 ?_
        refine lv_ladd (pc := 57) hx hb dX1_leftOver_57 ?_
        refine lv_topl (fun x3_1 e_ => ?_)
        have h := h x3_1 e_
        refine lv_lstore_n (pc := 58) (lv' := [(3, .long x3_1), (0, .ref (ad 41)), (1, .ref (ad 22)), (2, .int x2), (5, .int x5)]) hx hb dX1_leftOver_58 rfl hl (by decide) rfl (fun ls hl => ?_)
        obtain ⟨x5_2, e_⟩ : ∃ y : Int32, y = x5 + (1 : Int32) := ⟨_, rfl⟩
        have h := h x5_2 e_
        refine lv_iinc (pc := 59) (v := x5_2) (lv' := [(5, .int x5_2), (3, .long x3_1), (0, .ref (ad 41)), (1, .ref (ad 22)), (2, .int x2)]) hx hb dX1_leftOver_59 hl (k := 4) rfl (by rw [e_]; rfl) (by decide) rfl (fun ls hl => ?_)
        refine lv_goto (pc := 62) (tgt := 5) hx hb dX1_leftOver_62 (by decide) ?_
        exact ih x2 x3_1 x5_2 H locs ls h w (lv_sub hl [2, 3, 4, 1, 0] rfl)
      · have h := h.1 c_
        refine lv_aload_n (pc := 26) hx hb dX1_leftOver_26 rfl (lv_at hl 0 rfl) ?_
        refine Cgf_41_2 (pc := 27) X w kw27 dX1_leftOver_27 ?_
        refine lv_iload (pc := 30) hx hb dX1_leftOver_30 (lv_at hl 4 rfl) ?_
        refine Cld_43 (pc := 32) X w h.1 dX1_leftOver_32 ?_
        have h := h.2
        refine lv_i2l (pc := 33) hx hb dX1_leftOver_33 rfl ?_
        refine lv_goto (pc := 34) (tgt := 57) hx hb dX1_leftOver_34 (by decide) ?_
        refine lv_ladd (pc := 57) hx hb dX1_leftOver_57 ?_
        refine lv_topl (fun x3_3 e_ => ?_)
        have h := h x3_3 e_
        refine lv_lstore_n (pc := 58) (lv' := [(3, .long x3_3), (0, .ref (ad 41)), (1, .ref (ad 22)), (2, .int x2), (5, .int x5)]) hx hb dX1_leftOver_58 rfl hl (by decide) rfl (fun ls hl => ?_)
        obtain ⟨x5_4, e_⟩ : ∃ y : Int32, y = x5 + (1 : Int32) := ⟨_, rfl⟩
        have h := h x5_4 e_
        refine lv_iinc (pc := 59) (v := x5_4) (lv' := [(5, .int x5_4), (3, .long x3_3), (0, .ref (ad 41)), (1, .ref (ad 22)), (2, .int x2)]) hx hb dX1_leftOver_59 hl (k := 4) rfl (by rw [e_]; rfl) (by decide) rfl (fun ls hl => ?_)
        refine lv_goto (pc := 62) (tgt := 5) hx hb dX1_leftOver_62 (by decide) ?_
        exact ih x2 x3_3 x5_4 H locs ls h w (lv_sub hl [2, 3, 4, 1, 0] rfl)
set_option maxHeartbeats 4000000 in
set_option maxRecDepth 100000 in
theorem okX1_leftOver_i1 (l : Launch) {D : va_G} {g : Nat → ClassId} {ad : Nat → Nat} (hJ : CJ ad) {u : Mm} {a2 : Int32} {Q : Int64 → Prop} (h : wX1_leftOver 1 u a2 Q) : Met l yX1_leftOver (Cond.code yX1_leftOver cX1_leftOver 6 (some .long) :: gt) ({ frames := 0, cells := 0, slots := 0, locals := 0 } : Room) (CPc D g ad u [.ref (ad 41), .ref (ad 22), .int a2]) (va_Ql (fun r u1 => u = u1 ∧ Q r) (CB D g ad) (CA ad)) 0 0 (CA ad) := by
  refine Met.ofW (cc := cX1_leftOver) (maxL := 6) (ret := (some .long)) (by decide) rfl ?_
  intro p e s m args below meth c s₁ B hml hv
  refine Centry (own := RX1) B hml hv hJ rfl (Nat.le_of_ble_eq_true rfl) (fun ls H locs X w hl => ?_)
  obtain ⟨⟨hx, hb, hml, hown, hts⟩, hr, hlocks, hK, hJ, hAA⟩ := id X
  have hl : lv_has ls 6 [(0, .ref (ad 41)), (1, .ref (ad 22)), (2, .int a2)] := hl
  unfold wX1_leftOver at h
  refine lv_lconst (pc := 0) (v := (0 : Int64)) hx hb dX1_leftOver_0 (by decide) ?_
  refine lv_lstore_n (pc := 1) (lv' := [(3, .long (0 : Int64)), (0, .ref (ad 41)), (1, .ref (ad 22)), (2, .int a2)]) hx hb dX1_leftOver_1 rfl hl (by decide) rfl (fun ls hl => ?_)
  refine lv_iconst (pc := 2) (v := (0 : Int32)) hx hb dX1_leftOver_2 (by decide) ?_
  refine lv_istore (pc := 3) (lv' := [(5, .int (0 : Int32)), (3, .long (0 : Int64)), (0, .ref (ad 41)), (1, .ref (ad 22)), (2, .int a2)]) hx hb dX1_leftOver_3 hl (by decide) rfl (fun ls hl => ?_)
  obtain ⟨n9, h⟩ := h
  exact bX1_leftOver_i1_5 X n9 a2 (0 : Int64) (0 : Int32) H locs ls h w (lv_sub hl [2, 3, 4, 1, 0] rfl)
set_option maxHeartbeats 4000000 in
set_option maxRecDepth 100000 in
theorem bX1_leftOver_i2_5 {l : Launch} {p : Program} {e : Env} {s : State} {m : MethodId} {args : Array Value} {below : List Frame} {meth : Method} {c : Code} {D : va_G} {g : Nat → ClassId} {ad : Nat → Nat} {u : Mm} {Q : Int64 → Prop} (X : CX p s m args meth c cX1_leftOver RX1 6 (some .long) (Cond.code yX1_leftOver cX1_leftOver 6 (some .long)) D g ad (CA ad)) : ∀ (n : Nat) (x2 : Int32) (x3 : Int64) (x5 : Int32) (H : Heap) (locs : List Loc) (ls : Array Slot), wX1_leftOver_b5 2 u Q n x2 x3 x5 → CWd D g ad (CA ad) s u H locs → lv_has ls 6 [(0, .ref (ad 45)), (1, .ref (ad 22)), (2, .int x2), (3, .long x3), (5, .int x5)] → W p l e ({ frames := 0, cells := 0, slots := 0, locals := 0 } : Room) s m args below meth c H locs 0 0 (MQ below (va_Ql (fun r u1 => u = u1 ∧ Q r) (CB D g ad) (CA ad)) args s 0 0 (CA ad)) (F0 m 5 ls []) := by
  obtain ⟨⟨hx, hb, hml, hown, hts⟩, hr, hlocks, hK, hJ, hAA⟩ := id X
  intro n
  induction n with
  | zero =>
    intro x2 x3 x5 H locs ls h
    exact False.elim h
  | succ n ih =>
    intro x2 x3 x5 H locs ls h w hl
    unfold wX1_leftOver_b5 at h
    refine lv_iload (pc := 5) hx hb dX1_leftOver_5 (lv_at hl 4 rfl) ?_
    refine lv_aload_n (pc := 7) hx hb dX1_leftOver_7 rfl (lv_at hl 0 rfl) ?_
    refine Cgf_45_4 (pc := 8) X w kw26 dX1_leftOver_8 ?_
    refine lv_icmp_ge (pc := 11) (tgt := 65) hx hb dX1_leftOver_11 (by decide) (fun c_ => ?_) (fun c_ => ?_)
    · have h := h.1 c_
      refine lv_lload_n (pc := 65) hx hb dX1_leftOver_65 rfl (lv_at hl 3 rfl) ?_
      exact Clret (pc := 66) X w ⟨rfl, h⟩ dX1_leftOver_66
    · have h := h.2 c_
      refine lv_lload_n (pc := 14) hx hb dX1_leftOver_14 rfl (lv_at hl 3 rfl) ?_
      refine lv_aload_n (pc := 15) hx hb dX1_leftOver_15 rfl (lv_at hl 0 rfl) ?_
      refine Cgf_45_3 (pc := 16) X w kw28 dX1_leftOver_16 ?_
      refine lv_iload (pc := 19) hx hb dX1_leftOver_19 (lv_at hl 4 rfl) ?_
      refine Cld_48 (pc := 21) X w h.1 dX1_leftOver_21 ?_
      have h := h.2
      refine lv_iconst (pc := 22) (v := (-1 : Int32)) hx hb dX1_leftOver_22 (by decide) ?_
      refine lv_icmp_ne (pc := 23) (tgt := 37) hx hb dX1_leftOver_23 (by decide) (fun c_ => ?_) (fun c_ => ?_)
      · have h := h.2 c_
        refine lv_aload_n (pc := 37) hx hb dX1_leftOver_37 rfl (lv_at hl 0 rfl) ?_
        refine Cgf_45_2 (pc := 38) X w kw27 dX1_leftOver_38 ?_
        refine lv_iload (pc := 41) hx hb dX1_leftOver_41 (lv_at hl 4 rfl) ?_
        refine Cld_47 (pc := 43) X w h.1 dX1_leftOver_43 ?_
        have h := h.2
        refine lv_i2l (pc := 44) hx hb dX1_leftOver_44 rfl ?_
        refine lv_aload_n (pc := 45) hx hb dX1_leftOver_45 rfl (lv_at hl 1 rfl) ?_
        refine lv_aload_n (pc := 46) hx hb dX1_leftOver_46 rfl (lv_at hl 0 rfl) ?_
        refine Cgf_45_3 (pc := 47) X w kw28 dX1_leftOver_47 ?_
        refine lv_iload (pc := 50) hx hb dX1_leftOver_50 (lv_at hl 4 rfl) ?_
        refine Cld_48 (pc := 52) X w h.1 dX1_leftOver_52 ?_
        have h := h.2
        refine lv_iload_n (pc := 53) hx hb dX1_leftOver_53 rfl (lv_at hl 2 rfl) ?_
        refine lv_iadd (pc := 54) hx hb dX1_leftOver_54 ?_
        refine Cld_22 (pc := 55) X w h.1 dX1_leftOver_55 ?_
        have h := h.2
        refine lv_lmul (pc := 56) hx hb dX1_leftOver_56 ?_
        refine lv_ladd (pc := 57) hx hb dX1_leftOver_57 ?_
        refine lv_topl (fun x3_1 e_ => ?_)
        have h := h x3_1 e_
        refine lv_lstore_n (pc := 58) (lv' := [(3, .long x3_1), (0, .ref (ad 45)), (1, .ref (ad 22)), (2, .int x2), (5, .int x5)]) hx hb dX1_leftOver_58 rfl hl (by decide) rfl (fun ls hl => ?_)
        obtain ⟨x5_2, e_⟩ : ∃ y : Int32, y = x5 + (1 : Int32) := ⟨_, rfl⟩
        have h := h x5_2 e_
        refine lv_iinc (pc := 59) (v := x5_2) (lv' := [(5, .int x5_2), (3, .long x3_1), (0, .ref (ad 45)), (1, .ref (ad 22)), (2, .int x2)]) hx hb dX1_leftOver_59 hl (k := 4) rfl (by rw [e_]; rfl) (by decide) rfl (fun ls hl => ?_)
        refine lv_goto (pc := 62) (tgt := 5) hx hb dX1_leftOver_62 (by decide) ?_
        exact ih x2 x3_1 x5_2 H locs ls h w (lv_sub hl [2, 3, 4, 1, 0] rfl)
      · have h := h.1 c_
        refine lv_aload_n (pc := 26) hx hb dX1_leftOver_26 rfl (lv_at hl 0 rfl) ?_
        refine Cgf_45_2 (pc := 27) X w kw27 dX1_leftOver_27 ?_
        refine lv_iload (pc := 30) hx hb dX1_leftOver_30 (lv_at hl 4 rfl) ?_
        refine Cld_47 (pc := 32) X w h.1 dX1_leftOver_32 ?_
        have h := h.2
        refine lv_i2l (pc := 33) hx hb dX1_leftOver_33 rfl ?_
        refine lv_goto (pc := 34) (tgt := 57) hx hb dX1_leftOver_34 (by decide) ?_
        refine lv_ladd (pc := 57) hx hb dX1_leftOver_57 ?_
        refine lv_topl (fun x3_3 e_ => ?_)
        have h := h x3_3 e_
        refine lv_lstore_n (pc := 58) (lv' := [(3, .long x3_3), (0, .ref (ad 45)), (1, .ref (ad 22)), (2, .int x2), (5, .int x5)]) hx hb dX1_leftOver_58 rfl hl (by decide) rfl (fun ls hl => ?_)
        obtain ⟨x5_4, e_⟩ : ∃ y : Int32, y = x5 + (1 : Int32) := ⟨_, rfl⟩
        have h := h x5_4 e_
        refine lv_iinc (pc := 59) (v := x5_4) (lv' := [(5, .int x5_4), (3, .long x3_3), (0, .ref (ad 45)), (1, .ref (ad 22)), (2, .int x2)]) hx hb dX1_leftOver_59 hl (k := 4) rfl (by rw [e_]; rfl) (by decide) rfl (fun ls hl => ?_)
        refine lv_goto (pc := 62) (tgt := 5) hx hb dX1_leftOver_62 (by decide) ?_
        exact ih x2 x3_3 x5_4 H locs ls h w (lv_sub hl [2, 3, 4, 1, 0] rfl)
set_option maxHeartbeats 4000000 in
set_option maxRecDepth 100000 in
theorem okX1_leftOver_i2 (l : Launch) {D : va_G} {g : Nat → ClassId} {ad : Nat → Nat} (hJ : CJ ad) {u : Mm} {a2 : Int32} {Q : Int64 → Prop} (h : wX1_leftOver 2 u a2 Q) : Met l yX1_leftOver (Cond.code yX1_leftOver cX1_leftOver 6 (some .long) :: gt) ({ frames := 0, cells := 0, slots := 0, locals := 0 } : Room) (CPc D g ad u [.ref (ad 45), .ref (ad 22), .int a2]) (va_Ql (fun r u1 => u = u1 ∧ Q r) (CB D g ad) (CA ad)) 0 0 (CA ad) := by
  refine Met.ofW (cc := cX1_leftOver) (maxL := 6) (ret := (some .long)) (by decide) rfl ?_
  intro p e s m args below meth c s₁ B hml hv
  refine Centry (own := RX1) B hml hv hJ rfl (Nat.le_of_ble_eq_true rfl) (fun ls H locs X w hl => ?_)
  obtain ⟨⟨hx, hb, hml, hown, hts⟩, hr, hlocks, hK, hJ, hAA⟩ := id X
  have hl : lv_has ls 6 [(0, .ref (ad 45)), (1, .ref (ad 22)), (2, .int a2)] := hl
  unfold wX1_leftOver at h
  refine lv_lconst (pc := 0) (v := (0 : Int64)) hx hb dX1_leftOver_0 (by decide) ?_
  refine lv_lstore_n (pc := 1) (lv' := [(3, .long (0 : Int64)), (0, .ref (ad 45)), (1, .ref (ad 22)), (2, .int a2)]) hx hb dX1_leftOver_1 rfl hl (by decide) rfl (fun ls hl => ?_)
  refine lv_iconst (pc := 2) (v := (0 : Int32)) hx hb dX1_leftOver_2 (by decide) ?_
  refine lv_istore (pc := 3) (lv' := [(5, .int (0 : Int32)), (3, .long (0 : Int64)), (0, .ref (ad 45)), (1, .ref (ad 22)), (2, .int a2)]) hx hb dX1_leftOver_3 hl (by decide) rfl (fun ls hl => ?_)
  obtain ⟨n9, h⟩ := h
  exact bX1_leftOver_i2_5 X n9 a2 (0 : Int64) (0 : Int32) H locs ls h w (lv_sub hl [2, 3, 4, 1, 0] rfl)
set_option maxHeartbeats 4000000 in
set_option maxRecDepth 100000 in
theorem bX1_leftOver_i3_5 {l : Launch} {p : Program} {e : Env} {s : State} {m : MethodId} {args : Array Value} {below : List Frame} {meth : Method} {c : Code} {D : va_G} {g : Nat → ClassId} {ad : Nat → Nat} {u : Mm} {Q : Int64 → Prop} (X : CX p s m args meth c cX1_leftOver RX1 6 (some .long) (Cond.code yX1_leftOver cX1_leftOver 6 (some .long)) D g ad (CA ad)) : ∀ (n : Nat) (x2 : Int32) (x3 : Int64) (x5 : Int32) (H : Heap) (locs : List Loc) (ls : Array Slot), wX1_leftOver_b5 3 u Q n x2 x3 x5 → CWd D g ad (CA ad) s u H locs → lv_has ls 6 [(0, .ref (ad 49)), (1, .ref (ad 22)), (2, .int x2), (3, .long x3), (5, .int x5)] → W p l e ({ frames := 0, cells := 0, slots := 0, locals := 0 } : Room) s m args below meth c H locs 0 0 (MQ below (va_Ql (fun r u1 => u = u1 ∧ Q r) (CB D g ad) (CA ad)) args s 0 0 (CA ad)) (F0 m 5 ls []) := by
  obtain ⟨⟨hx, hb, hml, hown, hts⟩, hr, hlocks, hK, hJ, hAA⟩ := id X
  intro n
  induction n with
  | zero =>
    intro x2 x3 x5 H locs ls h
    exact False.elim h
  | succ n ih =>
    intro x2 x3 x5 H locs ls h w hl
    unfold wX1_leftOver_b5 at h
    refine lv_iload (pc := 5) hx hb dX1_leftOver_5 (lv_at hl 4 rfl) ?_
    refine lv_aload_n (pc := 7) hx hb dX1_leftOver_7 rfl (lv_at hl 0 rfl) ?_
    refine Cgf_49_4 (pc := 8) X w kw26 dX1_leftOver_8 ?_
    refine lv_icmp_ge (pc := 11) (tgt := 65) hx hb dX1_leftOver_11 (by decide) (fun c_ => ?_) (fun c_ => ?_)
    · have h := h.1 c_
      refine lv_lload_n (pc := 65) hx hb dX1_leftOver_65 rfl (lv_at hl 3 rfl) ?_
      exact Clret (pc := 66) X w ⟨rfl, h⟩ dX1_leftOver_66
    · have h := h.2 c_
      refine lv_lload_n (pc := 14) hx hb dX1_leftOver_14 rfl (lv_at hl 3 rfl) ?_
      refine lv_aload_n (pc := 15) hx hb dX1_leftOver_15 rfl (lv_at hl 0 rfl) ?_
      refine Cgf_49_3 (pc := 16) X w kw28 dX1_leftOver_16 ?_
      refine lv_iload (pc := 19) hx hb dX1_leftOver_19 (lv_at hl 4 rfl) ?_
      refine Cld_52 (pc := 21) X w h.1 dX1_leftOver_21 ?_
      have h := h.2
      refine lv_iconst (pc := 22) (v := (-1 : Int32)) hx hb dX1_leftOver_22 (by decide) ?_
      refine lv_icmp_ne (pc := 23) (tgt := 37) hx hb dX1_leftOver_23 (by decide) (fun c_ => ?_) (fun c_ => ?_)
      · have h := h.2 c_
        refine lv_aload_n (pc := 37) hx hb dX1_leftOver_37 rfl (lv_at hl 0 rfl) ?_
        refine Cgf_49_2 (pc := 38) X w kw27 dX1_leftOver_38 ?_
        refine lv_iload (pc := 41) hx hb dX1_leftOver_41 (lv_at hl 4 rfl) ?_
        refine Cld_51 (pc := 43) X w h.1 dX1_leftOver_43 ?_
        have h := h.2
        refine lv_i2l (pc := 44) hx hb dX1_leftOver_44 rfl ?_
        refine lv_aload_n (pc := 45) hx hb dX1_leftOver_45 rfl (lv_at hl 1 rfl) ?_
        refine lv_aload_n (pc := 46) hx hb dX1_leftOver_46 rfl (lv_at hl 0 rfl) ?_
        refine Cgf_49_3 (pc := 47) X w kw28 dX1_leftOver_47 ?_
        refine lv_iload (pc := 50) hx hb dX1_leftOver_50 (lv_at hl 4 rfl) ?_
        refine Cld_52 (pc := 52) X w h.1 dX1_leftOver_52 ?_
        have h := h.2
        refine lv_iload_n (pc := 53) hx hb dX1_leftOver_53 rfl (lv_at hl 2 rfl) ?_
        refine lv_iadd (pc := 54) hx hb dX1_leftOver_54 ?_
        refine Cld_22 (pc := 55) X w h.1 dX1_leftOver_55 ?_
        have h := h.2
        refine lv_lmul (pc := 56) hx hb dX1_leftOver_56 ?_
        refine lv_ladd (pc := 57) hx hb dX1_leftOver_57 ?_
        refine lv_topl (fun x3_1 e_ => ?_)
        have h := h x3_1 e_
        refine lv_lstore_n (pc := 58) (lv' := [(3, .long x3_1), (0, .ref (ad 49)), (1, .ref (ad 22)), (2, .int x2), (5, .int x5)]) hx hb dX1_leftOver_58 rfl hl (by decide) rfl (fun ls hl => ?_)
        obtain ⟨x5_2, e_⟩ : ∃ y : Int32, y = x5 + (1 : Int32) := ⟨_, rfl⟩
        have h := h x5_2 e_
        refine lv_iinc (pc := 59) (v := x5_2) (lv' := [(5, .int x5_2), (3, .long x3_1), (0, .ref (ad 49)), (1, .ref (ad 22)), (2, .int x2)]) hx hb dX1_leftOver_59 hl (k := 4) rfl (by rw [e_]; rfl) (by decide) rfl (fun ls hl => ?_)
        refine lv_goto (pc := 62) (tgt := 5) hx hb dX1_leftOver_62 (by decide) ?_
        exact ih x2 x3_1 x5_2 H locs ls h w (lv_sub hl [2, 3, 4, 1, 0] rfl)
      · have h := h.1 c_
        refine lv_aload_n (pc := 26) hx hb dX1_leftOver_26 rfl (lv_at hl 0 rfl) ?_
        refine Cgf_49_2 (pc := 27) X w kw27 dX1_leftOver_27 ?_
        refine lv_iload (pc := 30) hx hb dX1_leftOver_30 (lv_at hl 4 rfl) ?_
        refine Cld_51 (pc := 32) X w h.1 dX1_leftOver_32 ?_
        have h := h.2
        refine lv_i2l (pc := 33) hx hb dX1_leftOver_33 rfl ?_
        refine lv_goto (pc := 34) (tgt := 57) hx hb dX1_leftOver_34 (by decide) ?_
        refine lv_ladd (pc := 57) hx hb dX1_leftOver_57 ?_
        refine lv_topl (fun x3_3 e_ => ?_)
        have h := h x3_3 e_
        refine lv_lstore_n (pc := 58) (lv' := [(3, .long x3_3), (0, .ref (ad 49)), (1, .ref (ad 22)), (2, .int x2), (5, .int x5)]) hx hb dX1_leftOver_58 rfl hl (by decide) rfl (fun ls hl => ?_)
        obtain ⟨x5_4, e_⟩ : ∃ y : Int32, y = x5 + (1 : Int32) := ⟨_, rfl⟩
        have h := h x5_4 e_
        refine lv_iinc (pc := 59) (v := x5_4) (lv' := [(5, .int x5_4), (3, .long x3_3), (0, .ref (ad 49)), (1, .ref (ad 22)), (2, .int x2)]) hx hb dX1_leftOver_59 hl (k := 4) rfl (by rw [e_]; rfl) (by decide) rfl (fun ls hl => ?_)
        refine lv_goto (pc := 62) (tgt := 5) hx hb dX1_leftOver_62 (by decide) ?_
        exact ih x2 x3_3 x5_4 H locs ls h w (lv_sub hl [2, 3, 4, 1, 0] rfl)
set_option maxHeartbeats 4000000 in
set_option maxRecDepth 100000 in
theorem okX1_leftOver_i3 (l : Launch) {D : va_G} {g : Nat → ClassId} {ad : Nat → Nat} (hJ : CJ ad) {u : Mm} {a2 : Int32} {Q : Int64 → Prop} (h : wX1_leftOver 3 u a2 Q) : Met l yX1_leftOver (Cond.code yX1_leftOver cX1_leftOver 6 (some .long) :: gt) ({ frames := 0, cells := 0, slots := 0, locals := 0 } : Room) (CPc D g ad u [.ref (ad 49), .ref (ad 22), .int a2]) (va_Ql (fun r u1 => u = u1 ∧ Q r) (CB D g ad) (CA ad)) 0 0 (CA ad) := by
  refine Met.ofW (cc := cX1_leftOver) (maxL := 6) (ret := (some .long)) (by decide) rfl ?_
  intro p e s m args below meth c s₁ B hml hv
  refine Centry (own := RX1) B hml hv hJ rfl (Nat.le_of_ble_eq_true rfl) (fun ls H locs X w hl => ?_)
  obtain ⟨⟨hx, hb, hml, hown, hts⟩, hr, hlocks, hK, hJ, hAA⟩ := id X
  have hl : lv_has ls 6 [(0, .ref (ad 49)), (1, .ref (ad 22)), (2, .int a2)] := hl
  unfold wX1_leftOver at h
  refine lv_lconst (pc := 0) (v := (0 : Int64)) hx hb dX1_leftOver_0 (by decide) ?_
  refine lv_lstore_n (pc := 1) (lv' := [(3, .long (0 : Int64)), (0, .ref (ad 49)), (1, .ref (ad 22)), (2, .int a2)]) hx hb dX1_leftOver_1 rfl hl (by decide) rfl (fun ls hl => ?_)
  refine lv_iconst (pc := 2) (v := (0 : Int32)) hx hb dX1_leftOver_2 (by decide) ?_
  refine lv_istore (pc := 3) (lv' := [(5, .int (0 : Int32)), (3, .long (0 : Int64)), (0, .ref (ad 49)), (1, .ref (ad 22)), (2, .int a2)]) hx hb dX1_leftOver_3 hl (by decide) rfl (fun ls hl => ?_)
  obtain ⟨n9, h⟩ := h
  exact bX1_leftOver_i3_5 X n9 a2 (0 : Int64) (0 : Int32) H locs ls h w (lv_sub hl [2, 3, 4, 1, 0] rfl)
set_option maxHeartbeats 4000000 in
set_option maxRecDepth 100000 in
theorem okJ9_floorDiv_f86c9 (l : Launch) {D : va_G} {g : Nat → ClassId} {ad : Nat → Nat} (hJ : CJ ad) {u : Mm} {a0 : Int64} {a2 : Int64} {Q : Int64 → Prop} (h : wJ9_floorDiv_f86c9 a0 a2 Q) : Met l yJ9_floorDiv_f86c9 (Cond.code yJ9_floorDiv_f86c9 cJ9_floorDiv_f86c9 6 (some .long) :: gt) ({ frames := 0, cells := 0, slots := 0, locals := 0 } : Room) (CPc D g ad u [.long a0, .long a2]) (va_Ql (fun r u1 => u = u1 ∧ Q r) (CB D g ad) (CA ad)) 0 0 (CA ad) := by
  refine va_MetF (cc := cJ9_floorDiv_f86c9) (maxL := 6) (ret := (some .long)) (by decide +kernel) rfl ?_
  intro p e s m args below meth c s₁ B hml hv
  refine Centry (own := RJ9) B hml hv hJ rfl (Nat.le_of_ble_eq_true rfl) (fun ls H locs X w hl => ?_)
  obtain ⟨⟨hx, hb, hml, hown, hts⟩, hr, hlocks, hK, hJ, hAA⟩ := id X
  have hl : lv_has ls 6 [(0, .long a0), (2, .long a2)] := hl
  unfold wJ9_floorDiv_f86c9 at h
  refine lv_lload_n (pc := 0) hx hb dJ9_floorDiv_f86c9_0 rfl (lv_at hl 0 rfl) ?_
  refine lv_lload_n (pc := 1) hx hb dJ9_floorDiv_f86c9_1 rfl (lv_at hl 1 rfl) ?_
  refine lv_ldiv (pc := 2) hx hb dJ9_floorDiv_f86c9_2 h.1 ?_
  have h := h.2
  refine lv_topl (fun x4_1 e_ => ?_)
  have h := h x4_1 e_
  refine lv_lstore (pc := 3) (lv' := [(4, .long x4_1), (0, .long a0), (2, .long a2)]) hx hb dJ9_floorDiv_f86c9_3 hl (by decide) rfl (fun ls hl => ?_)
  refine lv_lload_n (pc := 5) hx hb dJ9_floorDiv_f86c9_5 rfl (lv_at hl 1 rfl) ?_
  refine lv_lload_n (pc := 6) hx hb dJ9_floorDiv_f86c9_6 rfl (lv_at hl 2 rfl) ?_
  refine lv_lxor (pc := 7) hx hb dJ9_floorDiv_f86c9_7 ?_
  refine lv_lconst (pc := 8) (v := (0 : Int64)) hx hb dJ9_floorDiv_f86c9_8 (by decide) ?_
  refine lq_ge (pc := 9) (tgt := 27) hx hb dJ9_floorDiv_f86c9_9 dJ9_floorDiv_f86c9_10 (by decide) (fun c_ => ?_) (fun c_ => ?_)
  · have h := h.1 c_
    refine lv_lload (pc := 27) hx hb dJ9_floorDiv_f86c9_27 (lv_at hl 0 rfl) ?_
    exact Clret (pc := 29) X w ⟨rfl, h⟩ dJ9_floorDiv_f86c9_29
  · have h := h.2 c_
    refine lv_lload (pc := 13) hx hb dJ9_floorDiv_f86c9_13 (lv_at hl 0 rfl) ?_
    refine lv_lload_n (pc := 15) hx hb dJ9_floorDiv_f86c9_15 rfl (lv_at hl 2 rfl) ?_
    refine lv_lmul (pc := 16) hx hb dJ9_floorDiv_f86c9_16 ?_
    refine lv_lload_n (pc := 17) hx hb dJ9_floorDiv_f86c9_17 rfl (lv_at hl 1 rfl) ?_
    refine lq_eq (pc := 18) (tgt := 27) hx hb dJ9_floorDiv_f86c9_18 dJ9_floorDiv_f86c9_19 (by decide) (fun c_ => ?_) (fun c_ => ?_)
    · have h := h.1 c_
      refine lv_lload (pc := 27) hx hb dJ9_floorDiv_f86c9_27 (lv_at hl 0 rfl) ?_
      exact Clret (pc := 29) X w ⟨rfl, h⟩ dJ9_floorDiv_f86c9_29
    · have h := h.2 c_
      refine lv_lload (pc := 22) hx hb dJ9_floorDiv_f86c9_22 (lv_at hl 0 rfl) ?_
      refine lv_lconst (pc := 24) (v := (1 : Int64)) hx hb dJ9_floorDiv_f86c9_24 (by decide) ?_
      refine lv_lsub (pc := 25) hx hb dJ9_floorDiv_f86c9_25 ?_
      exact Clret (pc := 26) X w ⟨rfl, h⟩ dJ9_floorDiv_f86c9_26
set_option maxHeartbeats 4000000 in
set_option maxRecDepth 100000 in
theorem okJ9_floorMod_f86c9 (l : Launch) {D : va_G} {g : Nat → ClassId} {ad : Nat → Nat} (hJ : CJ ad) {u : Mm} {a0 : Int64} {a2 : Int64} {Q : Int64 → Prop} (h : wJ9_floorMod_f86c9 a0 a2 Q) : Met l yJ9_floorMod_f86c9 (Cond.code yJ9_floorMod_f86c9 cJ9_floorMod_f86c9 6 (some .long) :: gt) ({ frames := 0, cells := 0, slots := 0, locals := 0 } : Room) (CPc D g ad u [.long a0, .long a2]) (va_Ql (fun r u1 => u = u1 ∧ Q r) (CB D g ad) (CA ad)) 0 0 (CA ad) := by
  refine va_MetF (cc := cJ9_floorMod_f86c9) (maxL := 6) (ret := (some .long)) (by decide +kernel) rfl ?_
  intro p e s m args below meth c s₁ B hml hv
  refine Centry (own := RJ9) B hml hv hJ rfl (Nat.le_of_ble_eq_true rfl) (fun ls H locs X w hl => ?_)
  obtain ⟨⟨hx, hb, hml, hown, hts⟩, hr, hlocks, hK, hJ, hAA⟩ := id X
  have hl : lv_has ls 6 [(0, .long a0), (2, .long a2)] := hl
  unfold wJ9_floorMod_f86c9 at h
  refine lv_lload_n (pc := 0) hx hb dJ9_floorMod_f86c9_0 rfl (lv_at hl 0 rfl) ?_
  refine lv_lload_n (pc := 1) hx hb dJ9_floorMod_f86c9_1 rfl (lv_at hl 1 rfl) ?_
  refine lv_lrem (pc := 2) hx hb dJ9_floorMod_f86c9_2 h.1 ?_
  have h := h.2
  refine lv_topl (fun x4_1 e_ => ?_)
  have h := h x4_1 e_
  refine lv_lstore (pc := 3) (lv' := [(4, .long x4_1), (0, .long a0), (2, .long a2)]) hx hb dJ9_floorMod_f86c9_3 hl (by decide) rfl (fun ls hl => ?_)
  refine lv_lload_n (pc := 5) hx hb dJ9_floorMod_f86c9_5 rfl (lv_at hl 1 rfl) ?_
  refine lv_lload_n (pc := 6) hx hb dJ9_floorMod_f86c9_6 rfl (lv_at hl 2 rfl) ?_
  refine lv_lxor (pc := 7) hx hb dJ9_floorMod_f86c9_7 ?_
  refine lv_lconst (pc := 8) (v := (0 : Int64)) hx hb dJ9_floorMod_f86c9_8 (by decide) ?_
  refine lq_ge (pc := 9) (tgt := 25) hx hb dJ9_floorMod_f86c9_9 dJ9_floorMod_f86c9_10 (by decide) (fun c_ => ?_) (fun c_ => ?_)
  · have h := h.1 c_
    refine lv_lload (pc := 25) hx hb dJ9_floorMod_f86c9_25 (lv_at hl 0 rfl) ?_
    exact Clret (pc := 27) X w ⟨rfl, h⟩ dJ9_floorMod_f86c9_27
  · have h := h.2 c_
    refine lv_lload (pc := 13) hx hb dJ9_floorMod_f86c9_13 (lv_at hl 0 rfl) ?_
    refine lv_lconst (pc := 15) (v := (0 : Int64)) hx hb dJ9_floorMod_f86c9_15 (by decide) ?_
    refine lq_eq (pc := 16) (tgt := 25) hx hb dJ9_floorMod_f86c9_16 dJ9_floorMod_f86c9_17 (by decide) (fun c_ => ?_) (fun c_ => ?_)
    · have h := h.1 c_
      refine lv_lload (pc := 25) hx hb dJ9_floorMod_f86c9_25 (lv_at hl 0 rfl) ?_
      exact Clret (pc := 27) X w ⟨rfl, h⟩ dJ9_floorMod_f86c9_27
    · have h := h.2 c_
      refine lv_lload (pc := 20) hx hb dJ9_floorMod_f86c9_20 (lv_at hl 0 rfl) ?_
      refine lv_lload_n (pc := 22) hx hb dJ9_floorMod_f86c9_22 rfl (lv_at hl 2 rfl) ?_
      refine lv_ladd (pc := 23) hx hb dJ9_floorMod_f86c9_23 ?_
      exact Clret (pc := 24) X w ⟨rfl, h⟩ dJ9_floorMod_f86c9_24
set_option maxHeartbeats 4000000 in
set_option maxRecDepth 100000 in
theorem bX2_divide_i0_22 {l : Launch} {p : Program} {e : Env} {s : State} {m : MethodId} {args : Array Value} {below : List Frame} {meth : Method} {c : Code} {D : va_G} {g : Nat → ClassId} {ad : Nat → Nat} {Q : Int64 → Mm → Prop} (X : CX p s m args meth c cX2_divide RX2 6 (some .long) (Cond.code yX2_divide cX2_divide 6 (some .long)) D g ad (CA ad)) : ∀ (u : Mm) (x1 : Int32) (x2 : Int64) (x4 : Int64) (y0 : Int64) (y1 : Int32) (H : Heap) (locs : List Loc) (ls : Array Slot), wX2_divide_b22 0 Q u x1 x2 x4 y0 y1 → CWd D g ad (CA ad) s u H locs → lv_has ls 6 [(0, .ref (ad 11)), (1, .int x1), (2, .long x2), (4, .long x4)] → W p l e ({ frames := 1, cells := 0, slots := 0, locals := 25 } : Room) s m args below meth c H locs 0 0 (MQ below (va_Ql Q (CB D g ad) (CA ad)) args s 0 0 (CA ad)) (F0 m 22 ls [.long y0, .int y1, .ref (ad 13)]) := by
  obtain ⟨⟨hx, hb, hml, hown, hts⟩, hr, hlocks, hK, hJ, hAA⟩ := id X
  intro u x1 x2 x4 y0 y1 H locs ls h w hl
  unfold wX2_divide_b22 at h
  refine Cst_13 (pc := 22) X w h.1 dX2_divide_22 (fun H locs w => ?_)
  have h := h.2
  obtain ⟨u1, e_⟩ : ∃ y : Mm, y = s64 u 13 y1.toNatClampNeg y0 := ⟨_, rfl⟩
  rw [← e_] at w
  have h := h u1 e_
  refine lv_aload_n (pc := 23) hx hb dX2_divide_23 rfl (lv_at hl 0 rfl) ?_
  refine Cgf_11_2 (pc := 24) X w kw57 dX2_divide_24 ?_
  refine lv_iload_n (pc := 27) hx hb dX2_divide_27 rfl (lv_at hl 1 rfl) ?_
  refine lv_lload (pc := 28) hx hb dX2_divide_28 (lv_at hl 3 rfl) ?_
  refine lv_lconst (pc := 30) (v := (0 : Int64)) hx hb dX2_divide_30 (by decide) ?_
  refine lq_le (pc := 31) (tgt := 44) hx hb dX2_divide_31 dX2_divide_32 (by decide) (fun c_ => ?_) (fun c_ => ?_)
  · have h := h.1 c_
    refine lv_lconst (pc := 44) (v := (0 : Int64)) hx hb dX2_divide_44 (by decide) ?_
    refine Cst_14 (pc := 45) X w h.1 dX2_divide_45 (fun H locs w => ?_)
    have h := h.2
    obtain ⟨u2, e_⟩ : ∃ y : Mm, y = s64 u1 14 x1.toNatClampNeg (0 : Int64) := ⟨_, rfl⟩
    rw [← e_] at w
    have h := h u2 e_
    refine lv_aload_n (pc := 46) hx hb dX2_divide_46 rfl (lv_at hl 0 rfl) ?_
    refine Cgf_11_1 (pc := 47) X w kw53 dX2_divide_47 ?_
    refine lv_iload_n (pc := 50) hx hb dX2_divide_50 rfl (lv_at hl 1 rfl) ?_
    refine Cld_13 (pc := 51) X w h.1 dX2_divide_51 ?_
    have h := h.2
    exact Clret (pc := 52) X w h dX2_divide_52
  · have h := h.2 c_
    refine lv_lload_n (pc := 35) hx hb dX2_divide_35 rfl (lv_at hl 2 rfl) ?_
    refine lv_lload (pc := 36) hx hb dX2_divide_36 (lv_at hl 3 rfl) ?_
    refine Ccalll (rest := [.int x1, .ref (ad 14)]) (CrunS (pc := 38) X w (okJ9_floorMod_f86c9 l hJ h) kw58 kmJ9_floorMod_f86c9 ⟨rfl, rfl⟩ ⟨by decide, by decide⟩ rfl hl.1 rfl (Nat.le_of_ble_eq_true rfl) dX2_divide_38) w (fun r3 u9_ H locs h w => ?_)
    obtain ⟨rfl, h⟩ := h
    refine lv_goto (pc := 41) (tgt := 45) hx hb dX2_divide_41 (by decide) ?_
    refine Cst_14 (pc := 45) X w h.1 dX2_divide_45 (fun H locs w => ?_)
    have h := h.2
    obtain ⟨u4, e_⟩ : ∃ y : Mm, y = s64 u1 14 x1.toNatClampNeg r3 := ⟨_, rfl⟩
    rw [← e_] at w
    have h := h u4 e_
    refine lv_aload_n (pc := 46) hx hb dX2_divide_46 rfl (lv_at hl 0 rfl) ?_
    refine Cgf_11_1 (pc := 47) X w kw53 dX2_divide_47 ?_
    refine lv_iload_n (pc := 50) hx hb dX2_divide_50 rfl (lv_at hl 1 rfl) ?_
    refine Cld_13 (pc := 51) X w h.1 dX2_divide_51 ?_
    have h := h.2
    exact Clret (pc := 52) X w h dX2_divide_52
set_option maxHeartbeats 4000000 in
set_option maxRecDepth 100000 in
theorem okX2_divide_i0 (l : Launch) {D : va_G} {g : Nat → ClassId} {ad : Nat → Nat} (hJ : CJ ad) {u : Mm} {a1 : Int32} {a2 : Int64} {a4 : Int64} {Q : Int64 → Mm → Prop} (h : wX2_divide 0 u a1 a2 a4 Q) : Met l yX2_divide (Cond.code yX2_divide cX2_divide 6 (some .long) :: gt) ({ frames := 1, cells := 0, slots := 0, locals := 25 } : Room) (CPc D g ad u [.ref (ad 11), .int a1, .long a2, .long a4]) (va_Ql Q (CB D g ad) (CA ad)) 0 0 (CA ad) := by
  refine Met.ofW (cc := cX2_divide) (maxL := 6) (ret := (some .long)) (by decide) rfl ?_
  intro p e s m args below meth c s₁ B hml hv
  refine Centry (own := RX2) B hml hv hJ rfl (Nat.le_of_ble_eq_true rfl) (fun ls H locs X w hl => ?_)
  obtain ⟨⟨hx, hb, hml, hown, hts⟩, hr, hlocks, hK, hJ, hAA⟩ := id X
  have hl : lv_has ls 6 [(0, .ref (ad 11)), (1, .int a1), (2, .long a2), (4, .long a4)] := hl
  unfold wX2_divide at h
  refine lv_aload_n (pc := 0) hx hb dX2_divide_0 rfl (lv_at hl 0 rfl) ?_
  refine Cgf_11_1 (pc := 1) X w kw53 dX2_divide_1 ?_
  refine lv_iload_n (pc := 4) hx hb dX2_divide_4 rfl (lv_at hl 1 rfl) ?_
  refine lv_lload (pc := 5) hx hb dX2_divide_5 (lv_at hl 3 rfl) ?_
  refine lv_lconst (pc := 7) (v := (0 : Int64)) hx hb dX2_divide_7 (by decide) ?_
  refine lq_le (pc := 8) (tgt := 21) hx hb dX2_divide_8 dX2_divide_9 (by decide) (fun c_ => ?_) (fun c_ => ?_)
  · have h := h.1 c_
    refine lv_lconst (pc := 21) (v := (0 : Int64)) hx hb dX2_divide_21 (by decide) ?_
    exact bX2_divide_i0_22 X u a1 a2 a4 (0 : Int64) a1 H locs ls h w (lv_sub hl [0, 1, 2, 3] rfl)
  · have h := h.2 c_
    refine lv_lload_n (pc := 12) hx hb dX2_divide_12 rfl (lv_at hl 2 rfl) ?_
    refine lv_lload (pc := 13) hx hb dX2_divide_13 (lv_at hl 3 rfl) ?_
    refine Ccalll (rest := [.int a1, .ref (ad 13)]) (CrunS (pc := 15) X w (okJ9_floorDiv_f86c9 l hJ h) kw54 kmJ9_floorDiv_f86c9 ⟨rfl, rfl⟩ ⟨by decide, by decide⟩ rfl hl.1 rfl (Nat.le_of_ble_eq_true rfl) dX2_divide_15) w (fun r1 u9_ H locs h w => ?_)
    obtain ⟨rfl, h⟩ := h
    refine lv_goto (pc := 18) (tgt := 22) hx hb dX2_divide_18 (by decide) ?_
    exact bX2_divide_i0_22 X u a1 a2 a4 r1 a1 H locs ls h w (lv_sub hl [0, 1, 2, 3] rfl)
set_option maxHeartbeats 4000000 in
set_option maxRecDepth 100000 in
theorem bX2_divide_i1_22 {l : Launch} {p : Program} {e : Env} {s : State} {m : MethodId} {args : Array Value} {below : List Frame} {meth : Method} {c : Code} {D : va_G} {g : Nat → ClassId} {ad : Nat → Nat} {Q : Int64 → Mm → Prop} (X : CX p s m args meth c cX2_divide RX2 6 (some .long) (Cond.code yX2_divide cX2_divide 6 (some .long)) D g ad (CA ad)) : ∀ (u : Mm) (x1 : Int32) (x2 : Int64) (x4 : Int64) (y0 : Int64) (y1 : Int32) (H : Heap) (locs : List Loc) (ls : Array Slot), wX2_divide_b22 1 Q u x1 x2 x4 y0 y1 → CWd D g ad (CA ad) s u H locs → lv_has ls 6 [(0, .ref (ad 25)), (1, .int x1), (2, .long x2), (4, .long x4)] → W p l e ({ frames := 1, cells := 0, slots := 0, locals := 25 } : Room) s m args below meth c H locs 0 0 (MQ below (va_Ql Q (CB D g ad) (CA ad)) args s 0 0 (CA ad)) (F0 m 22 ls [.long y0, .int y1, .ref (ad 27)]) := by
  obtain ⟨⟨hx, hb, hml, hown, hts⟩, hr, hlocks, hK, hJ, hAA⟩ := id X
  intro u x1 x2 x4 y0 y1 H locs ls h w hl
  unfold wX2_divide_b22 at h
  refine Cst_27 (pc := 22) X w h.1 dX2_divide_22 (fun H locs w => ?_)
  have h := h.2
  obtain ⟨u1, e_⟩ : ∃ y : Mm, y = s64 u 27 y1.toNatClampNeg y0 := ⟨_, rfl⟩
  rw [← e_] at w
  have h := h u1 e_
  refine lv_aload_n (pc := 23) hx hb dX2_divide_23 rfl (lv_at hl 0 rfl) ?_
  refine Cgf_25_2 (pc := 24) X w kw57 dX2_divide_24 ?_
  refine lv_iload_n (pc := 27) hx hb dX2_divide_27 rfl (lv_at hl 1 rfl) ?_
  refine lv_lload (pc := 28) hx hb dX2_divide_28 (lv_at hl 3 rfl) ?_
  refine lv_lconst (pc := 30) (v := (0 : Int64)) hx hb dX2_divide_30 (by decide) ?_
  refine lq_le (pc := 31) (tgt := 44) hx hb dX2_divide_31 dX2_divide_32 (by decide) (fun c_ => ?_) (fun c_ => ?_)
  · have h := h.1 c_
    refine lv_lconst (pc := 44) (v := (0 : Int64)) hx hb dX2_divide_44 (by decide) ?_
    refine Cst_28 (pc := 45) X w h.1 dX2_divide_45 (fun H locs w => ?_)
    have h := h.2
    obtain ⟨u2, e_⟩ : ∃ y : Mm, y = s64 u1 28 x1.toNatClampNeg (0 : Int64) := ⟨_, rfl⟩
    rw [← e_] at w
    have h := h u2 e_
    refine lv_aload_n (pc := 46) hx hb dX2_divide_46 rfl (lv_at hl 0 rfl) ?_
    refine Cgf_25_1 (pc := 47) X w kw53 dX2_divide_47 ?_
    refine lv_iload_n (pc := 50) hx hb dX2_divide_50 rfl (lv_at hl 1 rfl) ?_
    refine Cld_27 (pc := 51) X w h.1 dX2_divide_51 ?_
    have h := h.2
    exact Clret (pc := 52) X w h dX2_divide_52
  · have h := h.2 c_
    refine lv_lload_n (pc := 35) hx hb dX2_divide_35 rfl (lv_at hl 2 rfl) ?_
    refine lv_lload (pc := 36) hx hb dX2_divide_36 (lv_at hl 3 rfl) ?_
    refine Ccalll (rest := [.int x1, .ref (ad 28)]) (CrunS (pc := 38) X w (okJ9_floorMod_f86c9 l hJ h) kw58 kmJ9_floorMod_f86c9 ⟨rfl, rfl⟩ ⟨by decide, by decide⟩ rfl hl.1 rfl (Nat.le_of_ble_eq_true rfl) dX2_divide_38) w (fun r3 u9_ H locs h w => ?_)
    obtain ⟨rfl, h⟩ := h
    refine lv_goto (pc := 41) (tgt := 45) hx hb dX2_divide_41 (by decide) ?_
    refine Cst_28 (pc := 45) X w h.1 dX2_divide_45 (fun H locs w => ?_)
    have h := h.2
    obtain ⟨u4, e_⟩ : ∃ y : Mm, y = s64 u1 28 x1.toNatClampNeg r3 := ⟨_, rfl⟩
    rw [← e_] at w
    have h := h u4 e_
    refine lv_aload_n (pc := 46) hx hb dX2_divide_46 rfl (lv_at hl 0 rfl) ?_
    refine Cgf_25_1 (pc := 47) X w kw53 dX2_divide_47 ?_
    refine lv_iload_n (pc := 50) hx hb dX2_divide_50 rfl (lv_at hl 1 rfl) ?_
    refine Cld_27 (pc := 51) X w h.1 dX2_divide_51 ?_
    have h := h.2
    exact Clret (pc := 52) X w h dX2_divide_52
set_option maxHeartbeats 4000000 in
set_option maxRecDepth 100000 in
theorem okX2_divide_i1 (l : Launch) {D : va_G} {g : Nat → ClassId} {ad : Nat → Nat} (hJ : CJ ad) {u : Mm} {a1 : Int32} {a2 : Int64} {a4 : Int64} {Q : Int64 → Mm → Prop} (h : wX2_divide 1 u a1 a2 a4 Q) : Met l yX2_divide (Cond.code yX2_divide cX2_divide 6 (some .long) :: gt) ({ frames := 1, cells := 0, slots := 0, locals := 25 } : Room) (CPc D g ad u [.ref (ad 25), .int a1, .long a2, .long a4]) (va_Ql Q (CB D g ad) (CA ad)) 0 0 (CA ad) := by
  refine Met.ofW (cc := cX2_divide) (maxL := 6) (ret := (some .long)) (by decide) rfl ?_
  intro p e s m args below meth c s₁ B hml hv
  refine Centry (own := RX2) B hml hv hJ rfl (Nat.le_of_ble_eq_true rfl) (fun ls H locs X w hl => ?_)
  obtain ⟨⟨hx, hb, hml, hown, hts⟩, hr, hlocks, hK, hJ, hAA⟩ := id X
  have hl : lv_has ls 6 [(0, .ref (ad 25)), (1, .int a1), (2, .long a2), (4, .long a4)] := hl
  unfold wX2_divide at h
  refine lv_aload_n (pc := 0) hx hb dX2_divide_0 rfl (lv_at hl 0 rfl) ?_
  refine Cgf_25_1 (pc := 1) X w kw53 dX2_divide_1 ?_
  refine lv_iload_n (pc := 4) hx hb dX2_divide_4 rfl (lv_at hl 1 rfl) ?_
  refine lv_lload (pc := 5) hx hb dX2_divide_5 (lv_at hl 3 rfl) ?_
  refine lv_lconst (pc := 7) (v := (0 : Int64)) hx hb dX2_divide_7 (by decide) ?_
  refine lq_le (pc := 8) (tgt := 21) hx hb dX2_divide_8 dX2_divide_9 (by decide) (fun c_ => ?_) (fun c_ => ?_)
  · have h := h.1 c_
    refine lv_lconst (pc := 21) (v := (0 : Int64)) hx hb dX2_divide_21 (by decide) ?_
    exact bX2_divide_i1_22 X u a1 a2 a4 (0 : Int64) a1 H locs ls h w (lv_sub hl [0, 1, 2, 3] rfl)
  · have h := h.2 c_
    refine lv_lload_n (pc := 12) hx hb dX2_divide_12 rfl (lv_at hl 2 rfl) ?_
    refine lv_lload (pc := 13) hx hb dX2_divide_13 (lv_at hl 3 rfl) ?_
    refine Ccalll (rest := [.int a1, .ref (ad 27)]) (CrunS (pc := 15) X w (okJ9_floorDiv_f86c9 l hJ h) kw54 kmJ9_floorDiv_f86c9 ⟨rfl, rfl⟩ ⟨by decide, by decide⟩ rfl hl.1 rfl (Nat.le_of_ble_eq_true rfl) dX2_divide_15) w (fun r1 u9_ H locs h w => ?_)
    obtain ⟨rfl, h⟩ := h
    refine lv_goto (pc := 18) (tgt := 22) hx hb dX2_divide_18 (by decide) ?_
    exact bX2_divide_i1_22 X u a1 a2 a4 r1 a1 H locs ls h w (lv_sub hl [0, 1, 2, 3] rfl)
set_option maxHeartbeats 4000000 in
set_option maxRecDepth 100000 in
theorem bX2_handOut_i0_23 {l : Launch} {p : Program} {e : Env} {s : State} {m : MethodId} {args : Array Value} {below : List Frame} {meth : Method} {c : Code} {D : va_G} {g : Nat → ClassId} {ad : Nat → Nat} {Q : Mm → Prop} {k3 : Mm → Int64 → Int32 → Int32 → Prop} (X : CX p s m args meth c cX2_handOut RX2 7 none (Cond.code yX2_handOut cX2_handOut 7 none) D g ad (CA ad)) (hk3 : ∀ (u : Mm) (x1 : Int64) (x3 : Int32) (x4 : Int32) (H : Heap) (locs : List Loc) (ls : Array Slot), k3 u x1 x3 x4 → CWd D g ad (CA ad) s u H locs → lv_has ls 7 [(0, .ref (ad 11)), (1, .long x1), (3, .int x3), (4, .int x4)] → W p l e ({ frames := 0, cells := 0, slots := 0, locals := 0 } : Room) s m args below meth c H locs 0 0 (MQ below (va_Qv Q (CB D g ad) (CA ad)) args s 0 0 (CA ad)) (F0 m 3 ls [])) : ∀ (n : Nat) (u : Mm) (x1 : Int64) (x3 : Int32) (x4 : Int32) (x5 : Int32) (x6 : Int32) (H : Heap) (locs : List Loc) (ls : Array Slot), wX2_handOut_b23 0 k3 Q n u x1 x3 x4 x5 x6 → CWd D g ad (CA ad) s u H locs → lv_has ls 7 [(0, .ref (ad 11)), (1, .long x1), (3, .int x3), (4, .int x4), (5, .int x5), (6, .int x6)] → W p l e ({ frames := 0, cells := 0, slots := 0, locals := 0 } : Room) s m args below meth c H locs 0 0 (MQ below (va_Qv Q (CB D g ad) (CA ad)) args s 0 0 (CA ad)) (F0 m 23 ls []) := by
  obtain ⟨⟨hx, hb, hml, hown, hts⟩, hr, hlocks, hK, hJ, hAA⟩ := id X
  intro n
  induction n with
  | zero =>
    intro u x1 x3 x4 x5 x6 H locs ls h
    exact False.elim h
  | succ n ih =>
    intro u x1 x3 x4 x5 x6 H locs ls h w hl
    unfold wX2_handOut_b23 at h
    refine lv_iload (pc := 23) hx hb dX2_handOut_23 (lv_at hl 5 rfl) ?_
    refine lv_iload_n (pc := 25) hx hb dX2_handOut_25 rfl (lv_at hl 2 rfl) ?_
    refine lv_icmp_ge (pc := 26) (tgt := 57) hx hb dX2_handOut_26 (by decide) (fun c_ => ?_) (fun c_ => ?_)
    · have h := h.1 c_
      refine lv_aload_n (pc := 57) hx hb dX2_handOut_57 rfl (lv_at hl 0 rfl) ?_
      refine Cgf_11_1 (pc := 58) X w kw53 dX2_handOut_58 ?_
      refine lv_iload (pc := 61) hx hb dX2_handOut_61 (lv_at hl 4 rfl) ?_
      refine lv_dup2_11 (pc := 63) hx hb dX2_handOut_63 rfl rfl ?_
      refine Cld_13 (pc := 64) X w h.1 dX2_handOut_64 ?_
      have h := h.2
      refine lv_lconst (pc := 65) (v := (1 : Int64)) hx hb dX2_handOut_65 (by decide) ?_
      refine lv_ladd (pc := 66) hx hb dX2_handOut_66 ?_
      refine Cst_13 (pc := 67) X w h.1 dX2_handOut_67 (fun H locs w => ?_)
      have h := h.2
      obtain ⟨u1, e_⟩ : ∃ y : Mm, y = s64 u 13 x5.toNatClampNeg ((u.2 13 x5.toNatClampNeg) + (1 : Int64)) := ⟨_, rfl⟩
      rw [← e_] at w
      have h := h u1 e_
      refine lv_aload_n (pc := 68) hx hb dX2_handOut_68 rfl (lv_at hl 0 rfl) ?_
      refine Cgf_11_2 (pc := 69) X w kw57 dX2_handOut_69 ?_
      refine lv_iload (pc := 72) hx hb dX2_handOut_72 (lv_at hl 4 rfl) ?_
      refine lv_ldc2 (pc := 74) (v := (-1 : Int64)) hx hb hown (hts _ (List.mem_cons_of_mem _ kw61)) dX2_handOut_74 ?_
      refine Cst_14 (pc := 77) X w h.1 dX2_handOut_77 (fun H locs w => ?_)
      have h := h.2
      obtain ⟨u2, e_⟩ : ∃ y : Mm, y = s64 u1 14 x5.toNatClampNeg (-1 : Int64) := ⟨_, rfl⟩
      rw [← e_] at w
      have h := h u2 e_
      obtain ⟨x4_3, e_⟩ : ∃ y : Int32, y = x4 + (1 : Int32) := ⟨_, rfl⟩
      have h := h x4_3 e_
      refine lv_iinc (pc := 78) (v := x4_3) (lv' := [(4, .int x4_3), (0, .ref (ad 11)), (1, .long x1), (3, .int x3), (5, .int x5), (6, .int x6)]) hx hb dX2_handOut_78 hl (k := 3) rfl (by rw [e_]; rfl) (by decide) rfl (fun ls hl => ?_)
      refine lv_goto (pc := 81) (tgt := 3) hx hb dX2_handOut_81 (by decide) ?_
      exact hk3 u2 x1 x3 x4_3 H locs ls h w (lv_sub hl [1, 2, 3, 0] rfl)
    · have h := h.2 c_
      refine lv_aload_n (pc := 29) hx hb dX2_handOut_29 rfl (lv_at hl 0 rfl) ?_
      refine Cgf_11_2 (pc := 30) X w kw57 dX2_handOut_30 ?_
      refine lv_iload (pc := 33) hx hb dX2_handOut_33 (lv_at hl 5 rfl) ?_
      refine Cld_14 (pc := 35) X w h.1 dX2_handOut_35 ?_
      have h := h.2
      refine lv_aload_n (pc := 36) hx hb dX2_handOut_36 rfl (lv_at hl 0 rfl) ?_
      refine Cgf_11_2 (pc := 37) X w kw57 dX2_handOut_37 ?_
      refine lv_iload (pc := 40) hx hb dX2_handOut_40 (lv_at hl 4 rfl) ?_
      refine Cld_14 (pc := 42) X w h.1 dX2_handOut_42 ?_
      have h := h.2
      refine lq_le (pc := 43) (tgt := 51) hx hb dX2_handOut_43 dX2_handOut_44 (by decide) (fun c_ => ?_) (fun c_ => ?_)
      · have h := h.1 c_
        obtain ⟨x6_4, e_⟩ : ∃ y : Int32, y = x6 + (1 : Int32) := ⟨_, rfl⟩
        have h := h x6_4 e_
        refine lv_iinc (pc := 51) (v := x6_4) (lv' := [(6, .int x6_4), (0, .ref (ad 11)), (1, .long x1), (3, .int x3), (4, .int x4), (5, .int x5)]) hx hb dX2_handOut_51 hl (k := 5) rfl (by rw [e_]; rfl) (by decide) rfl (fun ls hl => ?_)
        refine lv_goto (pc := 54) (tgt := 23) hx hb dX2_handOut_54 (by decide) ?_
        exact ih u x1 x3 x4 x5 x6_4 H locs ls h w (lv_sub hl [1, 2, 3, 4, 5, 0] rfl)
      · have h := h.2 c_
        refine lv_iload (pc := 47) hx hb dX2_handOut_47 (lv_at hl 5 rfl) ?_
        refine lv_istore (pc := 49) (lv' := [(5, .int x6), (0, .ref (ad 11)), (1, .long x1), (3, .int x3), (4, .int x4), (6, .int x6)]) hx hb dX2_handOut_49 hl (by decide) rfl (fun ls hl => ?_)
        obtain ⟨x6_5, e_⟩ : ∃ y : Int32, y = x6 + (1 : Int32) := ⟨_, rfl⟩
        have h := h x6_5 e_
        refine lv_iinc (pc := 51) (v := x6_5) (lv' := [(6, .int x6_5), (5, .int x6), (0, .ref (ad 11)), (1, .long x1), (3, .int x3), (4, .int x4)]) hx hb dX2_handOut_51 hl (k := 5) rfl (by rw [e_]; rfl) (by decide) rfl (fun ls hl => ?_)
        refine lv_goto (pc := 54) (tgt := 23) hx hb dX2_handOut_54 (by decide) ?_
        exact ih u x1 x3 x4 x6 x6_5 H locs ls h w (lv_sub hl [2, 3, 4, 5, 1, 0] rfl)
set_option maxHeartbeats 4000000 in
set_option maxRecDepth 100000 in
theorem bX2_handOut_i0_3 {l : Launch} {p : Program} {e : Env} {s : State} {m : MethodId} {args : Array Value} {below : List Frame} {meth : Method} {c : Code} {D : va_G} {g : Nat → ClassId} {ad : Nat → Nat} {Q : Mm → Prop} (X : CX p s m args meth c cX2_handOut RX2 7 none (Cond.code yX2_handOut cX2_handOut 7 none) D g ad (CA ad)) : ∀ (n : Nat) (u : Mm) (x1 : Int64) (x3 : Int32) (x4 : Int32) (H : Heap) (locs : List Loc) (ls : Array Slot), wX2_handOut_b3 0 Q n u x1 x3 x4 → CWd D g ad (CA ad) s u H locs → lv_has ls 7 [(0, .ref (ad 11)), (1, .long x1), (3, .int x3), (4, .int x4)] → W p l e ({ frames := 0, cells := 0, slots := 0, locals := 0 } : Room) s m args below meth c H locs 0 0 (MQ below (va_Qv Q (CB D g ad) (CA ad)) args s 0 0 (CA ad)) (F0 m 3 ls []) := by
  obtain ⟨⟨hx, hb, hml, hown, hts⟩, hr, hlocks, hK, hJ, hAA⟩ := id X
  intro n
  induction n with
  | zero =>
    intro u x1 x3 x4 H locs ls h
    exact False.elim h
  | succ n ih =>
    intro u x1 x3 x4 H locs ls h w hl
    unfold wX2_handOut_b3 at h
    refine lv_iload (pc := 3) hx hb dX2_handOut_3 (lv_at hl 3 rfl) ?_
    refine lv_i2l (pc := 5) hx hb dX2_handOut_5 rfl ?_
    refine lv_lload_n (pc := 6) hx hb dX2_handOut_6 rfl (lv_at hl 1 rfl) ?_
    refine lq_ge (pc := 7) (tgt := 84) hx hb dX2_handOut_7 dX2_handOut_8 (by decide) (fun c_ => ?_) (fun c_ => ?_)
    · have h := h.1 c_
      exact Cvret (pc := 84) X w h dX2_handOut_84
    · have h := h.2 c_
      refine lv_iload (pc := 11) hx hb dX2_handOut_11 (lv_at hl 3 rfl) ?_
      refine lv_iload_n (pc := 13) hx hb dX2_handOut_13 rfl (lv_at hl 2 rfl) ?_
      refine lv_icmp_ge (pc := 14) (tgt := 84) hx hb dX2_handOut_14 (by decide) (fun c_ => ?_) (fun c_ => ?_)
      · have h := h.1 c_
        exact Cvret (pc := 84) X w h dX2_handOut_84
      · have h := h.2 c_
        refine lv_iconst (pc := 17) (v := (0 : Int32)) hx hb dX2_handOut_17 (by decide) ?_
        refine lv_istore (pc := 18) (lv' := [(5, .int (0 : Int32)), (0, .ref (ad 11)), (1, .long x1), (3, .int x3), (4, .int x4)]) hx hb dX2_handOut_18 hl (by decide) rfl (fun ls hl => ?_)
        refine lv_iconst (pc := 20) (v := (1 : Int32)) hx hb dX2_handOut_20 (by decide) ?_
        refine lv_istore (pc := 21) (lv' := [(6, .int (1 : Int32)), (5, .int (0 : Int32)), (0, .ref (ad 11)), (1, .long x1), (3, .int x3), (4, .int x4)]) hx hb dX2_handOut_21 hl (by decide) rfl (fun ls hl => ?_)
        obtain ⟨n9, h⟩ := h
        refine bX2_handOut_i0_23 X ?_ n9 u x1 x3 x4 (0 : Int32) (1 : Int32) H locs ls h w (lv_sub hl [2, 3, 4, 5, 1, 0] rfl)
        · intro u x1 x3 x4 H locs ls h w hl
          exact ih u x1 x3 x4 H locs ls h w (lv_sub hl [0, 1, 2, 3] rfl)
set_option maxHeartbeats 4000000 in
set_option maxRecDepth 100000 in
theorem okX2_handOut_i0 (l : Launch) {D : va_G} {g : Nat → ClassId} {ad : Nat → Nat} (hJ : CJ ad) {u : Mm} {a1 : Int64} {a3 : Int32} {Q : Mm → Prop} (h : wX2_handOut 0 u a1 a3 Q) : Met l yX2_handOut (Cond.code yX2_handOut cX2_handOut 7 none :: gt) ({ frames := 0, cells := 0, slots := 0, locals := 0 } : Room) (CPc D g ad u [.ref (ad 11), .long a1, .int a3]) (va_Qv Q (CB D g ad) (CA ad)) 0 0 (CA ad) := by
  refine Met.ofW (cc := cX2_handOut) (maxL := 7) (ret := none) (by decide) rfl ?_
  intro p e s m args below meth c s₁ B hml hv
  refine Centry (own := RX2) B hml hv hJ rfl (Nat.le_of_ble_eq_true rfl) (fun ls H locs X w hl => ?_)
  obtain ⟨⟨hx, hb, hml, hown, hts⟩, hr, hlocks, hK, hJ, hAA⟩ := id X
  have hl : lv_has ls 7 [(0, .ref (ad 11)), (1, .long a1), (3, .int a3)] := hl
  unfold wX2_handOut at h
  refine lv_iconst (pc := 0) (v := (0 : Int32)) hx hb dX2_handOut_0 (by decide) ?_
  refine lv_istore (pc := 1) (lv' := [(4, .int (0 : Int32)), (0, .ref (ad 11)), (1, .long a1), (3, .int a3)]) hx hb dX2_handOut_1 hl (by decide) rfl (fun ls hl => ?_)
  obtain ⟨n9, h⟩ := h
  exact bX2_handOut_i0_3 X n9 u a1 a3 (0 : Int32) H locs ls h w (lv_sub hl [1, 2, 3, 0] rfl)
set_option maxHeartbeats 4000000 in
set_option maxRecDepth 100000 in
theorem bX2_handOut_i1_23 {l : Launch} {p : Program} {e : Env} {s : State} {m : MethodId} {args : Array Value} {below : List Frame} {meth : Method} {c : Code} {D : va_G} {g : Nat → ClassId} {ad : Nat → Nat} {Q : Mm → Prop} {k3 : Mm → Int64 → Int32 → Int32 → Prop} (X : CX p s m args meth c cX2_handOut RX2 7 none (Cond.code yX2_handOut cX2_handOut 7 none) D g ad (CA ad)) (hk3 : ∀ (u : Mm) (x1 : Int64) (x3 : Int32) (x4 : Int32) (H : Heap) (locs : List Loc) (ls : Array Slot), k3 u x1 x3 x4 → CWd D g ad (CA ad) s u H locs → lv_has ls 7 [(0, .ref (ad 25)), (1, .long x1), (3, .int x3), (4, .int x4)] → W p l e ({ frames := 0, cells := 0, slots := 0, locals := 0 } : Room) s m args below meth c H locs 0 0 (MQ below (va_Qv Q (CB D g ad) (CA ad)) args s 0 0 (CA ad)) (F0 m 3 ls [])) : ∀ (n : Nat) (u : Mm) (x1 : Int64) (x3 : Int32) (x4 : Int32) (x5 : Int32) (x6 : Int32) (H : Heap) (locs : List Loc) (ls : Array Slot), wX2_handOut_b23 1 k3 Q n u x1 x3 x4 x5 x6 → CWd D g ad (CA ad) s u H locs → lv_has ls 7 [(0, .ref (ad 25)), (1, .long x1), (3, .int x3), (4, .int x4), (5, .int x5), (6, .int x6)] → W p l e ({ frames := 0, cells := 0, slots := 0, locals := 0 } : Room) s m args below meth c H locs 0 0 (MQ below (va_Qv Q (CB D g ad) (CA ad)) args s 0 0 (CA ad)) (F0 m 23 ls []) := by
  obtain ⟨⟨hx, hb, hml, hown, hts⟩, hr, hlocks, hK, hJ, hAA⟩ := id X
  intro n
  induction n with
  | zero =>
    intro u x1 x3 x4 x5 x6 H locs ls h
    exact False.elim h
  | succ n ih =>
    intro u x1 x3 x4 x5 x6 H locs ls h w hl
    unfold wX2_handOut_b23 at h
    refine lv_iload (pc := 23) hx hb dX2_handOut_23 (lv_at hl 5 rfl) ?_
    refine lv_iload_n (pc := 25) hx hb dX2_handOut_25 rfl (lv_at hl 2 rfl) ?_
    refine lv_icmp_ge (pc := 26) (tgt := 57) hx hb dX2_handOut_26 (by decide) (fun c_ => ?_) (fun c_ => ?_)
    · have h := h.1 c_
      refine lv_aload_n (pc := 57) hx hb dX2_handOut_57 rfl (lv_at hl 0 rfl) ?_
      refine Cgf_25_1 (pc := 58) X w kw53 dX2_handOut_58 ?_
      refine lv_iload (pc := 61) hx hb dX2_handOut_61 (lv_at hl 4 rfl) ?_
      refine lv_dup2_11 (pc := 63) hx hb dX2_handOut_63 rfl rfl ?_
      refine Cld_27 (pc := 64) X w h.1 dX2_handOut_64 ?_
      have h := h.2
      refine lv_lconst (pc := 65) (v := (1 : Int64)) hx hb dX2_handOut_65 (by decide) ?_
      refine lv_ladd (pc := 66) hx hb dX2_handOut_66 ?_
      refine Cst_27 (pc := 67) X w h.1 dX2_handOut_67 (fun H locs w => ?_)
      have h := h.2
      obtain ⟨u1, e_⟩ : ∃ y : Mm, y = s64 u 27 x5.toNatClampNeg ((u.2 27 x5.toNatClampNeg) + (1 : Int64)) := ⟨_, rfl⟩
      rw [← e_] at w
      have h := h u1 e_
      refine lv_aload_n (pc := 68) hx hb dX2_handOut_68 rfl (lv_at hl 0 rfl) ?_
      refine Cgf_25_2 (pc := 69) X w kw57 dX2_handOut_69 ?_
      refine lv_iload (pc := 72) hx hb dX2_handOut_72 (lv_at hl 4 rfl) ?_
      refine lv_ldc2 (pc := 74) (v := (-1 : Int64)) hx hb hown (hts _ (List.mem_cons_of_mem _ kw61)) dX2_handOut_74 ?_
      refine Cst_28 (pc := 77) X w h.1 dX2_handOut_77 (fun H locs w => ?_)
      have h := h.2
      obtain ⟨u2, e_⟩ : ∃ y : Mm, y = s64 u1 28 x5.toNatClampNeg (-1 : Int64) := ⟨_, rfl⟩
      rw [← e_] at w
      have h := h u2 e_
      obtain ⟨x4_3, e_⟩ : ∃ y : Int32, y = x4 + (1 : Int32) := ⟨_, rfl⟩
      have h := h x4_3 e_
      refine lv_iinc (pc := 78) (v := x4_3) (lv' := [(4, .int x4_3), (0, .ref (ad 25)), (1, .long x1), (3, .int x3), (5, .int x5), (6, .int x6)]) hx hb dX2_handOut_78 hl (k := 3) rfl (by rw [e_]; rfl) (by decide) rfl (fun ls hl => ?_)
      refine lv_goto (pc := 81) (tgt := 3) hx hb dX2_handOut_81 (by decide) ?_
      exact hk3 u2 x1 x3 x4_3 H locs ls h w (lv_sub hl [1, 2, 3, 0] rfl)
    · have h := h.2 c_
      refine lv_aload_n (pc := 29) hx hb dX2_handOut_29 rfl (lv_at hl 0 rfl) ?_
      refine Cgf_25_2 (pc := 30) X w kw57 dX2_handOut_30 ?_
      refine lv_iload (pc := 33) hx hb dX2_handOut_33 (lv_at hl 5 rfl) ?_
      refine Cld_28 (pc := 35) X w h.1 dX2_handOut_35 ?_
      have h := h.2
      refine lv_aload_n (pc := 36) hx hb dX2_handOut_36 rfl (lv_at hl 0 rfl) ?_
      refine Cgf_25_2 (pc := 37) X w kw57 dX2_handOut_37 ?_
      refine lv_iload (pc := 40) hx hb dX2_handOut_40 (lv_at hl 4 rfl) ?_
      refine Cld_28 (pc := 42) X w h.1 dX2_handOut_42 ?_
      have h := h.2
      refine lq_le (pc := 43) (tgt := 51) hx hb dX2_handOut_43 dX2_handOut_44 (by decide) (fun c_ => ?_) (fun c_ => ?_)
      · have h := h.1 c_
        obtain ⟨x6_4, e_⟩ : ∃ y : Int32, y = x6 + (1 : Int32) := ⟨_, rfl⟩
        have h := h x6_4 e_
        refine lv_iinc (pc := 51) (v := x6_4) (lv' := [(6, .int x6_4), (0, .ref (ad 25)), (1, .long x1), (3, .int x3), (4, .int x4), (5, .int x5)]) hx hb dX2_handOut_51 hl (k := 5) rfl (by rw [e_]; rfl) (by decide) rfl (fun ls hl => ?_)
        refine lv_goto (pc := 54) (tgt := 23) hx hb dX2_handOut_54 (by decide) ?_
        exact ih u x1 x3 x4 x5 x6_4 H locs ls h w (lv_sub hl [1, 2, 3, 4, 5, 0] rfl)
      · have h := h.2 c_
        refine lv_iload (pc := 47) hx hb dX2_handOut_47 (lv_at hl 5 rfl) ?_
        refine lv_istore (pc := 49) (lv' := [(5, .int x6), (0, .ref (ad 25)), (1, .long x1), (3, .int x3), (4, .int x4), (6, .int x6)]) hx hb dX2_handOut_49 hl (by decide) rfl (fun ls hl => ?_)
        obtain ⟨x6_5, e_⟩ : ∃ y : Int32, y = x6 + (1 : Int32) := ⟨_, rfl⟩
        have h := h x6_5 e_
        refine lv_iinc (pc := 51) (v := x6_5) (lv' := [(6, .int x6_5), (5, .int x6), (0, .ref (ad 25)), (1, .long x1), (3, .int x3), (4, .int x4)]) hx hb dX2_handOut_51 hl (k := 5) rfl (by rw [e_]; rfl) (by decide) rfl (fun ls hl => ?_)
        refine lv_goto (pc := 54) (tgt := 23) hx hb dX2_handOut_54 (by decide) ?_
        exact ih u x1 x3 x4 x6 x6_5 H locs ls h w (lv_sub hl [2, 3, 4, 5, 1, 0] rfl)
set_option maxHeartbeats 4000000 in
set_option maxRecDepth 100000 in
theorem bX2_handOut_i1_3 {l : Launch} {p : Program} {e : Env} {s : State} {m : MethodId} {args : Array Value} {below : List Frame} {meth : Method} {c : Code} {D : va_G} {g : Nat → ClassId} {ad : Nat → Nat} {Q : Mm → Prop} (X : CX p s m args meth c cX2_handOut RX2 7 none (Cond.code yX2_handOut cX2_handOut 7 none) D g ad (CA ad)) : ∀ (n : Nat) (u : Mm) (x1 : Int64) (x3 : Int32) (x4 : Int32) (H : Heap) (locs : List Loc) (ls : Array Slot), wX2_handOut_b3 1 Q n u x1 x3 x4 → CWd D g ad (CA ad) s u H locs → lv_has ls 7 [(0, .ref (ad 25)), (1, .long x1), (3, .int x3), (4, .int x4)] → W p l e ({ frames := 0, cells := 0, slots := 0, locals := 0 } : Room) s m args below meth c H locs 0 0 (MQ below (va_Qv Q (CB D g ad) (CA ad)) args s 0 0 (CA ad)) (F0 m 3 ls []) := by
  obtain ⟨⟨hx, hb, hml, hown, hts⟩, hr, hlocks, hK, hJ, hAA⟩ := id X
  intro n
  induction n with
  | zero =>
    intro u x1 x3 x4 H locs ls h
    exact False.elim h
  | succ n ih =>
    intro u x1 x3 x4 H locs ls h w hl
    unfold wX2_handOut_b3 at h
    refine lv_iload (pc := 3) hx hb dX2_handOut_3 (lv_at hl 3 rfl) ?_
    refine lv_i2l (pc := 5) hx hb dX2_handOut_5 rfl ?_
    refine lv_lload_n (pc := 6) hx hb dX2_handOut_6 rfl (lv_at hl 1 rfl) ?_
    refine lq_ge (pc := 7) (tgt := 84) hx hb dX2_handOut_7 dX2_handOut_8 (by decide) (fun c_ => ?_) (fun c_ => ?_)
    · have h := h.1 c_
      exact Cvret (pc := 84) X w h dX2_handOut_84
    · have h := h.2 c_
      refine lv_iload (pc := 11) hx hb dX2_handOut_11 (lv_at hl 3 rfl) ?_
      refine lv_iload_n (pc := 13) hx hb dX2_handOut_13 rfl (lv_at hl 2 rfl) ?_
      refine lv_icmp_ge (pc := 14) (tgt := 84) hx hb dX2_handOut_14 (by decide) (fun c_ => ?_) (fun c_ => ?_)
      · have h := h.1 c_
        exact Cvret (pc := 84) X w h dX2_handOut_84
      · have h := h.2 c_
        refine lv_iconst (pc := 17) (v := (0 : Int32)) hx hb dX2_handOut_17 (by decide) ?_
        refine lv_istore (pc := 18) (lv' := [(5, .int (0 : Int32)), (0, .ref (ad 25)), (1, .long x1), (3, .int x3), (4, .int x4)]) hx hb dX2_handOut_18 hl (by decide) rfl (fun ls hl => ?_)
        refine lv_iconst (pc := 20) (v := (1 : Int32)) hx hb dX2_handOut_20 (by decide) ?_
        refine lv_istore (pc := 21) (lv' := [(6, .int (1 : Int32)), (5, .int (0 : Int32)), (0, .ref (ad 25)), (1, .long x1), (3, .int x3), (4, .int x4)]) hx hb dX2_handOut_21 hl (by decide) rfl (fun ls hl => ?_)
        obtain ⟨n9, h⟩ := h
        refine bX2_handOut_i1_23 X ?_ n9 u x1 x3 x4 (0 : Int32) (1 : Int32) H locs ls h w (lv_sub hl [2, 3, 4, 5, 1, 0] rfl)
        · intro u x1 x3 x4 H locs ls h w hl
          exact ih u x1 x3 x4 H locs ls h w (lv_sub hl [0, 1, 2, 3] rfl)
set_option maxHeartbeats 4000000 in
set_option maxRecDepth 100000 in
theorem okX2_handOut_i1 (l : Launch) {D : va_G} {g : Nat → ClassId} {ad : Nat → Nat} (hJ : CJ ad) {u : Mm} {a1 : Int64} {a3 : Int32} {Q : Mm → Prop} (h : wX2_handOut 1 u a1 a3 Q) : Met l yX2_handOut (Cond.code yX2_handOut cX2_handOut 7 none :: gt) ({ frames := 0, cells := 0, slots := 0, locals := 0 } : Room) (CPc D g ad u [.ref (ad 25), .long a1, .int a3]) (va_Qv Q (CB D g ad) (CA ad)) 0 0 (CA ad) := by
  refine Met.ofW (cc := cX2_handOut) (maxL := 7) (ret := none) (by decide) rfl ?_
  intro p e s m args below meth c s₁ B hml hv
  refine Centry (own := RX2) B hml hv hJ rfl (Nat.le_of_ble_eq_true rfl) (fun ls H locs X w hl => ?_)
  obtain ⟨⟨hx, hb, hml, hown, hts⟩, hr, hlocks, hK, hJ, hAA⟩ := id X
  have hl : lv_has ls 7 [(0, .ref (ad 25)), (1, .long a1), (3, .int a3)] := hl
  unfold wX2_handOut at h
  refine lv_iconst (pc := 0) (v := (0 : Int32)) hx hb dX2_handOut_0 (by decide) ?_
  refine lv_istore (pc := 1) (lv' := [(4, .int (0 : Int32)), (0, .ref (ad 25)), (1, .long a1), (3, .int a3)]) hx hb dX2_handOut_1 hl (by decide) rfl (fun ls hl => ?_)
  obtain ⟨n9, h⟩ := h
  exact bX2_handOut_i1_3 X n9 u a1 a3 (0 : Int32) H locs ls h w (lv_sub hl [1, 2, 3, 0] rfl)
set_option maxHeartbeats 4000000 in
set_option maxRecDepth 100000 in
theorem bX2_deal_i0_36 {l : Launch} {p : Program} {e : Env} {s : State} {m : MethodId} {args : Array Value} {below : List Frame} {meth : Method} {c : Code} {D : va_G} {g : Nat → ClassId} {ad : Nat → Nat} {Q : Mm → Prop} (X : CX p s m args meth c cX2_deal RX2 9 none (Cond.code yX2_deal cX2_deal 9 none) D g ad (CA ad)) : ∀ (n : Nat) (u : Mm) (x1 : Int64) (x3 : Int32) (x4 : Int64) (x6 : Int64) (x8 : Int32) (H : Heap) (locs : List Loc) (ls : Array Slot), wX2_deal_b36 0 Q n u x1 x3 x4 x6 x8 → CWd D g ad (CA ad) s u H locs → lv_has ls 9 [(0, .ref (ad 11)), (1, .long x1), (3, .int x3), (4, .long x4), (6, .long x6), (8, .int x8)] → W p l e ({ frames := 2, cells := 0, slots := 0, locals := 50 } : Room) s m args below meth c H locs 0 0 (MQ below (va_Qv Q (CB D g ad) (CA ad)) args s 0 0 (CA ad)) (F0 m 36 ls []) := by
  obtain ⟨⟨hx, hb, hml, hown, hts⟩, hr, hlocks, hK, hJ, hAA⟩ := id X
  intro n
  induction n with
  | zero =>
    intro u x1 x3 x4 x6 x8 H locs ls h
    exact False.elim h
  | succ n ih =>
    intro u x1 x3 x4 x6 x8 H locs ls h w hl
    unfold wX2_deal_b36 at h
    refine lv_iload (pc := 36) hx hb dX2_deal_36 (lv_at hl 5 rfl) ?_
    refine lv_iload_n (pc := 38) hx hb dX2_deal_38 rfl (lv_at hl 2 rfl) ?_
    refine lv_icmp_ge (pc := 39) (tgt := 70) hx hb dX2_deal_39 (by decide) (fun c_ => ?_) (fun c_ => ?_)
    · have h := h.1 c_
      refine lv_lload (pc := 70) hx hb dX2_deal_70 (lv_at hl 3 rfl) ?_
      refine lv_lconst (pc := 72) (v := (0 : Int64)) hx hb dX2_deal_72 (by decide) ?_
      refine lq_le (pc := 73) (tgt := 84) hx hb dX2_deal_73 dX2_deal_74 (by decide) (fun c_ => ?_) (fun c_ => ?_)
      · have h := h.1 c_
        exact Cvret (pc := 84) X w h dX2_deal_84
      · have h := h.2 c_
        refine lv_aload_n (pc := 77) hx hb dX2_deal_77 rfl (lv_at hl 0 rfl) ?_
        refine lv_lload (pc := 78) hx hb dX2_deal_78 (lv_at hl 4 rfl) ?_
        refine lv_iload_n (pc := 80) hx hb dX2_deal_80 rfl (lv_at hl 2 rfl) ?_
        refine Ccallv (rest := []) (CrunV (pc := 81) X w (okX2_handOut_i0 l hJ h) kw63 kmX2_handOut ⟨rfl, rfl⟩ ⟨by decide, by decide⟩ (Crv_11 X w) rfl hl.1 rfl (Nat.le_of_ble_eq_true rfl) dX2_deal_81) w (fun u2 H locs h w => ?_)
        exact Cvret (pc := 84) X w h dX2_deal_84
    · have h := h.2 c_
      refine lv_lload (pc := 42) hx hb dX2_deal_42 (lv_at hl 4 rfl) ?_
      refine lv_aload_n (pc := 44) hx hb dX2_deal_44 rfl (lv_at hl 0 rfl) ?_
      refine lv_iload (pc := 45) hx hb dX2_deal_45 (lv_at hl 5 rfl) ?_
      refine lv_lload_n (pc := 47) hx hb dX2_deal_47 rfl (lv_at hl 1 rfl) ?_
      refine lv_aload_n (pc := 48) hx hb dX2_deal_48 rfl (lv_at hl 0 rfl) ?_
      refine Cgf_11_0 (pc := 49) X w kw62 dX2_deal_49 ?_
      refine lv_iload (pc := 52) hx hb dX2_deal_52 (lv_at hl 5 rfl) ?_
      refine Cld_12 (pc := 54) X w h.1 dX2_deal_54 ?_
      have h := h.2
      refine lv_lmul (pc := 55) hx hb dX2_deal_55 ?_
      refine lv_lload (pc := 56) hx hb dX2_deal_56 (lv_at hl 3 rfl) ?_
      refine Ccalll (rest := [.long x6]) (CrunV (pc := 58) X w (okX2_divide_i0 l hJ h) kw68 kmX2_divide ⟨rfl, rfl⟩ ⟨by decide, by decide⟩ (Crv_11 X w) rfl hl.1 rfl (Nat.le_of_ble_eq_true rfl) dX2_deal_58) w (fun r3 u4 H locs h w => ?_)
      refine lv_lsub (pc := 61) hx hb dX2_deal_61 ?_
      refine lv_topl (fun x6_5 e_ => ?_)
      have h := h x6_5 e_
      refine lv_lstore (pc := 62) (lv' := [(6, .long x6_5), (0, .ref (ad 11)), (1, .long x1), (3, .int x3), (4, .long x4), (8, .int x8)]) hx hb dX2_deal_62 hl (by decide) rfl (fun ls hl => ?_)
      obtain ⟨x8_6, e_⟩ : ∃ y : Int32, y = x8 + (1 : Int32) := ⟨_, rfl⟩
      have h := h x8_6 e_
      refine lv_iinc (pc := 64) (v := x8_6) (lv' := [(8, .int x8_6), (6, .long x6_5), (0, .ref (ad 11)), (1, .long x1), (3, .int x3), (4, .long x4)]) hx hb dX2_deal_64 hl (k := 5) rfl (by rw [e_]; rfl) (by decide) rfl (fun ls hl => ?_)
      refine lv_goto (pc := 67) (tgt := 36) hx hb dX2_deal_67 (by decide) ?_
      exact ih u4 x1 x3 x4 x6_5 x8_6 H locs ls h w (lv_sub hl [2, 3, 4, 5, 1, 0] rfl)
set_option maxHeartbeats 4000000 in
set_option maxRecDepth 100000 in
theorem bX2_deal_i0_6 {l : Launch} {p : Program} {e : Env} {s : State} {m : MethodId} {args : Array Value} {below : List Frame} {meth : Method} {c : Code} {D : va_G} {g : Nat → ClassId} {ad : Nat → Nat} {Q : Mm → Prop} (X : CX p s m args meth c cX2_deal RX2 9 none (Cond.code yX2_deal cX2_deal 9 none) D g ad (CA ad)) : ∀ (n : Nat) (u : Mm) (x1 : Int64) (x3 : Int32) (x4 : Int64) (x6 : Int32) (H : Heap) (locs : List Loc) (ls : Array Slot), wX2_deal_b6 0 Q n u x1 x3 x4 x6 → CWd D g ad (CA ad) s u H locs → lv_has ls 9 [(0, .ref (ad 11)), (1, .long x1), (3, .int x3), (4, .long x4), (6, .int x6)] → W p l e ({ frames := 2, cells := 0, slots := 0, locals := 50 } : Room) s m args below meth c H locs 0 0 (MQ below (va_Qv Q (CB D g ad) (CA ad)) args s 0 0 (CA ad)) (F0 m 6 ls []) := by
  obtain ⟨⟨hx, hb, hml, hown, hts⟩, hr, hlocks, hK, hJ, hAA⟩ := id X
  intro n
  induction n with
  | zero =>
    intro u x1 x3 x4 x6 H locs ls h
    exact False.elim h
  | succ n ih =>
    intro u x1 x3 x4 x6 H locs ls h w hl
    unfold wX2_deal_b6 at h
    refine lv_iload (pc := 6) hx hb dX2_deal_6 (lv_at hl 4 rfl) ?_
    refine lv_iload_n (pc := 8) hx hb dX2_deal_8 rfl (lv_at hl 2 rfl) ?_
    refine lv_icmp_ge (pc := 9) (tgt := 30) hx hb dX2_deal_9 (by decide) (fun c_ => ?_) (fun c_ => ?_)
    · have h := h.1 c_
      refine lv_lload_n (pc := 30) hx hb dX2_deal_30 rfl (lv_at hl 1 rfl) ?_
      refine lv_lstore (pc := 31) (lv' := [(6, .long x1), (0, .ref (ad 11)), (1, .long x1), (3, .int x3), (4, .long x4)]) hx hb dX2_deal_31 hl (by decide) rfl (fun ls hl => ?_)
      refine lv_iconst (pc := 33) (v := (0 : Int32)) hx hb dX2_deal_33 (by decide) ?_
      refine lv_istore (pc := 34) (lv' := [(8, .int (0 : Int32)), (6, .long x1), (0, .ref (ad 11)), (1, .long x1), (3, .int x3), (4, .long x4)]) hx hb dX2_deal_34 hl (by decide) rfl (fun ls hl => ?_)
      obtain ⟨n9, h⟩ := h
      exact bX2_deal_i0_36 X n9 u x1 x3 x4 x1 (0 : Int32) H locs ls h w (lv_sub hl [2, 3, 4, 5, 1, 0] rfl)
    · have h := h.2 c_
      refine lv_lload (pc := 12) hx hb dX2_deal_12 (lv_at hl 3 rfl) ?_
      refine lv_aload_n (pc := 14) hx hb dX2_deal_14 rfl (lv_at hl 0 rfl) ?_
      refine Cgf_11_0 (pc := 15) X w kw62 dX2_deal_15 ?_
      refine lv_iload (pc := 18) hx hb dX2_deal_18 (lv_at hl 4 rfl) ?_
      refine Cld_12 (pc := 20) X w h.1 dX2_deal_20 ?_
      have h := h.2
      refine lv_ladd (pc := 21) hx hb dX2_deal_21 ?_
      refine lv_topl (fun x4_1 e_ => ?_)
      have h := h x4_1 e_
      refine lv_lstore (pc := 22) (lv' := [(4, .long x4_1), (0, .ref (ad 11)), (1, .long x1), (3, .int x3), (6, .int x6)]) hx hb dX2_deal_22 hl (by decide) rfl (fun ls hl => ?_)
      obtain ⟨x6_2, e_⟩ : ∃ y : Int32, y = x6 + (1 : Int32) := ⟨_, rfl⟩
      have h := h x6_2 e_
      refine lv_iinc (pc := 24) (v := x6_2) (lv' := [(6, .int x6_2), (4, .long x4_1), (0, .ref (ad 11)), (1, .long x1), (3, .int x3)]) hx hb dX2_deal_24 hl (k := 4) rfl (by rw [e_]; rfl) (by decide) rfl (fun ls hl => ?_)
      refine lv_goto (pc := 27) (tgt := 6) hx hb dX2_deal_27 (by decide) ?_
      exact ih u x1 x3 x4_1 x6_2 H locs ls h w (lv_sub hl [2, 3, 4, 1, 0] rfl)
set_option maxHeartbeats 4000000 in
set_option maxRecDepth 100000 in
theorem okX2_deal_i0 (l : Launch) {D : va_G} {g : Nat → ClassId} {ad : Nat → Nat} (hJ : CJ ad) {u : Mm} {a1 : Int64} {a3 : Int32} {Q : Mm → Prop} (h : wX2_deal 0 u a1 a3 Q) : Met l yX2_deal (Cond.code yX2_deal cX2_deal 9 none :: gt) ({ frames := 2, cells := 0, slots := 0, locals := 50 } : Room) (CPc D g ad u [.ref (ad 11), .long a1, .int a3]) (va_Qv Q (CB D g ad) (CA ad)) 0 0 (CA ad) := by
  refine Met.ofW (cc := cX2_deal) (maxL := 9) (ret := none) (by decide) rfl ?_
  intro p e s m args below meth c s₁ B hml hv
  refine Centry (own := RX2) B hml hv hJ rfl (Nat.le_of_ble_eq_true rfl) (fun ls H locs X w hl => ?_)
  obtain ⟨⟨hx, hb, hml, hown, hts⟩, hr, hlocks, hK, hJ, hAA⟩ := id X
  have hl : lv_has ls 9 [(0, .ref (ad 11)), (1, .long a1), (3, .int a3)] := hl
  unfold wX2_deal at h
  refine lv_lconst (pc := 0) (v := (0 : Int64)) hx hb dX2_deal_0 (by decide) ?_
  refine lv_lstore (pc := 1) (lv' := [(4, .long (0 : Int64)), (0, .ref (ad 11)), (1, .long a1), (3, .int a3)]) hx hb dX2_deal_1 hl (by decide) rfl (fun ls hl => ?_)
  refine lv_iconst (pc := 3) (v := (0 : Int32)) hx hb dX2_deal_3 (by decide) ?_
  refine lv_istore (pc := 4) (lv' := [(6, .int (0 : Int32)), (4, .long (0 : Int64)), (0, .ref (ad 11)), (1, .long a1), (3, .int a3)]) hx hb dX2_deal_4 hl (by decide) rfl (fun ls hl => ?_)
  obtain ⟨n9, h⟩ := h
  exact bX2_deal_i0_6 X n9 u a1 a3 (0 : Int64) (0 : Int32) H locs ls h w (lv_sub hl [2, 3, 4, 1, 0] rfl)
set_option maxHeartbeats 4000000 in
set_option maxRecDepth 100000 in
theorem bX2_deal_i1_36 {l : Launch} {p : Program} {e : Env} {s : State} {m : MethodId} {args : Array Value} {below : List Frame} {meth : Method} {c : Code} {D : va_G} {g : Nat → ClassId} {ad : Nat → Nat} {Q : Mm → Prop} (X : CX p s m args meth c cX2_deal RX2 9 none (Cond.code yX2_deal cX2_deal 9 none) D g ad (CA ad)) : ∀ (n : Nat) (u : Mm) (x1 : Int64) (x3 : Int32) (x4 : Int64) (x6 : Int64) (x8 : Int32) (H : Heap) (locs : List Loc) (ls : Array Slot), wX2_deal_b36 1 Q n u x1 x3 x4 x6 x8 → CWd D g ad (CA ad) s u H locs → lv_has ls 9 [(0, .ref (ad 25)), (1, .long x1), (3, .int x3), (4, .long x4), (6, .long x6), (8, .int x8)] → W p l e ({ frames := 2, cells := 0, slots := 0, locals := 50 } : Room) s m args below meth c H locs 0 0 (MQ below (va_Qv Q (CB D g ad) (CA ad)) args s 0 0 (CA ad)) (F0 m 36 ls []) := by
  obtain ⟨⟨hx, hb, hml, hown, hts⟩, hr, hlocks, hK, hJ, hAA⟩ := id X
  intro n
  induction n with
  | zero =>
    intro u x1 x3 x4 x6 x8 H locs ls h
    exact False.elim h
  | succ n ih =>
    intro u x1 x3 x4 x6 x8 H locs ls h w hl
    unfold wX2_deal_b36 at h
    refine lv_iload (pc := 36) hx hb dX2_deal_36 (lv_at hl 5 rfl) ?_
    refine lv_iload_n (pc := 38) hx hb dX2_deal_38 rfl (lv_at hl 2 rfl) ?_
    refine lv_icmp_ge (pc := 39) (tgt := 70) hx hb dX2_deal_39 (by decide) (fun c_ => ?_) (fun c_ => ?_)
    · have h := h.1 c_
      refine lv_lload (pc := 70) hx hb dX2_deal_70 (lv_at hl 3 rfl) ?_
      refine lv_lconst (pc := 72) (v := (0 : Int64)) hx hb dX2_deal_72 (by decide) ?_
      refine lq_le (pc := 73) (tgt := 84) hx hb dX2_deal_73 dX2_deal_74 (by decide) (fun c_ => ?_) (fun c_ => ?_)
      · have h := h.1 c_
        exact Cvret (pc := 84) X w h dX2_deal_84
      · have h := h.2 c_
        refine lv_aload_n (pc := 77) hx hb dX2_deal_77 rfl (lv_at hl 0 rfl) ?_
        refine lv_lload (pc := 78) hx hb dX2_deal_78 (lv_at hl 4 rfl) ?_
        refine lv_iload_n (pc := 80) hx hb dX2_deal_80 rfl (lv_at hl 2 rfl) ?_
        refine Ccallv (rest := []) (CrunV (pc := 81) X w (okX2_handOut_i1 l hJ h) kw63 kmX2_handOut ⟨rfl, rfl⟩ ⟨by decide, by decide⟩ (Crv_25 X w) rfl hl.1 rfl (Nat.le_of_ble_eq_true rfl) dX2_deal_81) w (fun u2 H locs h w => ?_)
        exact Cvret (pc := 84) X w h dX2_deal_84
    · have h := h.2 c_
      refine lv_lload (pc := 42) hx hb dX2_deal_42 (lv_at hl 4 rfl) ?_
      refine lv_aload_n (pc := 44) hx hb dX2_deal_44 rfl (lv_at hl 0 rfl) ?_
      refine lv_iload (pc := 45) hx hb dX2_deal_45 (lv_at hl 5 rfl) ?_
      refine lv_lload_n (pc := 47) hx hb dX2_deal_47 rfl (lv_at hl 1 rfl) ?_
      refine lv_aload_n (pc := 48) hx hb dX2_deal_48 rfl (lv_at hl 0 rfl) ?_
      refine Cgf_25_0 (pc := 49) X w kw62 dX2_deal_49 ?_
      refine lv_iload (pc := 52) hx hb dX2_deal_52 (lv_at hl 5 rfl) ?_
      refine Cld_26 (pc := 54) X w h.1 dX2_deal_54 ?_
      have h := h.2
      refine lv_lmul (pc := 55) hx hb dX2_deal_55 ?_
      refine lv_lload (pc := 56) hx hb dX2_deal_56 (lv_at hl 3 rfl) ?_
      refine Ccalll (rest := [.long x6]) (CrunV (pc := 58) X w (okX2_divide_i1 l hJ h) kw68 kmX2_divide ⟨rfl, rfl⟩ ⟨by decide, by decide⟩ (Crv_25 X w) rfl hl.1 rfl (Nat.le_of_ble_eq_true rfl) dX2_deal_58) w (fun r3 u4 H locs h w => ?_)
      refine lv_lsub (pc := 61) hx hb dX2_deal_61 ?_
      refine lv_topl (fun x6_5 e_ => ?_)
      have h := h x6_5 e_
      refine lv_lstore (pc := 62) (lv' := [(6, .long x6_5), (0, .ref (ad 25)), (1, .long x1), (3, .int x3), (4, .long x4), (8, .int x8)]) hx hb dX2_deal_62 hl (by decide) rfl (fun ls hl => ?_)
      obtain ⟨x8_6, e_⟩ : ∃ y : Int32, y = x8 + (1 : Int32) := ⟨_, rfl⟩
      have h := h x8_6 e_
      refine lv_iinc (pc := 64) (v := x8_6) (lv' := [(8, .int x8_6), (6, .long x6_5), (0, .ref (ad 25)), (1, .long x1), (3, .int x3), (4, .long x4)]) hx hb dX2_deal_64 hl (k := 5) rfl (by rw [e_]; rfl) (by decide) rfl (fun ls hl => ?_)
      refine lv_goto (pc := 67) (tgt := 36) hx hb dX2_deal_67 (by decide) ?_
      exact ih u4 x1 x3 x4 x6_5 x8_6 H locs ls h w (lv_sub hl [2, 3, 4, 5, 1, 0] rfl)
set_option maxHeartbeats 4000000 in
set_option maxRecDepth 100000 in
theorem bX2_deal_i1_6 {l : Launch} {p : Program} {e : Env} {s : State} {m : MethodId} {args : Array Value} {below : List Frame} {meth : Method} {c : Code} {D : va_G} {g : Nat → ClassId} {ad : Nat → Nat} {Q : Mm → Prop} (X : CX p s m args meth c cX2_deal RX2 9 none (Cond.code yX2_deal cX2_deal 9 none) D g ad (CA ad)) : ∀ (n : Nat) (u : Mm) (x1 : Int64) (x3 : Int32) (x4 : Int64) (x6 : Int32) (H : Heap) (locs : List Loc) (ls : Array Slot), wX2_deal_b6 1 Q n u x1 x3 x4 x6 → CWd D g ad (CA ad) s u H locs → lv_has ls 9 [(0, .ref (ad 25)), (1, .long x1), (3, .int x3), (4, .long x4), (6, .int x6)] → W p l e ({ frames := 2, cells := 0, slots := 0, locals := 50 } : Room) s m args below meth c H locs 0 0 (MQ below (va_Qv Q (CB D g ad) (CA ad)) args s 0 0 (CA ad)) (F0 m 6 ls []) := by
  obtain ⟨⟨hx, hb, hml, hown, hts⟩, hr, hlocks, hK, hJ, hAA⟩ := id X
  intro n
  induction n with
  | zero =>
    intro u x1 x3 x4 x6 H locs ls h
    exact False.elim h
  | succ n ih =>
    intro u x1 x3 x4 x6 H locs ls h w hl
    unfold wX2_deal_b6 at h
    refine lv_iload (pc := 6) hx hb dX2_deal_6 (lv_at hl 4 rfl) ?_
    refine lv_iload_n (pc := 8) hx hb dX2_deal_8 rfl (lv_at hl 2 rfl) ?_
    refine lv_icmp_ge (pc := 9) (tgt := 30) hx hb dX2_deal_9 (by decide) (fun c_ => ?_) (fun c_ => ?_)
    · have h := h.1 c_
      refine lv_lload_n (pc := 30) hx hb dX2_deal_30 rfl (lv_at hl 1 rfl) ?_
      refine lv_lstore (pc := 31) (lv' := [(6, .long x1), (0, .ref (ad 25)), (1, .long x1), (3, .int x3), (4, .long x4)]) hx hb dX2_deal_31 hl (by decide) rfl (fun ls hl => ?_)
      refine lv_iconst (pc := 33) (v := (0 : Int32)) hx hb dX2_deal_33 (by decide) ?_
      refine lv_istore (pc := 34) (lv' := [(8, .int (0 : Int32)), (6, .long x1), (0, .ref (ad 25)), (1, .long x1), (3, .int x3), (4, .long x4)]) hx hb dX2_deal_34 hl (by decide) rfl (fun ls hl => ?_)
      obtain ⟨n9, h⟩ := h
      exact bX2_deal_i1_36 X n9 u x1 x3 x4 x1 (0 : Int32) H locs ls h w (lv_sub hl [2, 3, 4, 5, 1, 0] rfl)
    · have h := h.2 c_
      refine lv_lload (pc := 12) hx hb dX2_deal_12 (lv_at hl 3 rfl) ?_
      refine lv_aload_n (pc := 14) hx hb dX2_deal_14 rfl (lv_at hl 0 rfl) ?_
      refine Cgf_25_0 (pc := 15) X w kw62 dX2_deal_15 ?_
      refine lv_iload (pc := 18) hx hb dX2_deal_18 (lv_at hl 4 rfl) ?_
      refine Cld_26 (pc := 20) X w h.1 dX2_deal_20 ?_
      have h := h.2
      refine lv_ladd (pc := 21) hx hb dX2_deal_21 ?_
      refine lv_topl (fun x4_1 e_ => ?_)
      have h := h x4_1 e_
      refine lv_lstore (pc := 22) (lv' := [(4, .long x4_1), (0, .ref (ad 25)), (1, .long x1), (3, .int x3), (6, .int x6)]) hx hb dX2_deal_22 hl (by decide) rfl (fun ls hl => ?_)
      obtain ⟨x6_2, e_⟩ : ∃ y : Int32, y = x6 + (1 : Int32) := ⟨_, rfl⟩
      have h := h x6_2 e_
      refine lv_iinc (pc := 24) (v := x6_2) (lv' := [(6, .int x6_2), (4, .long x4_1), (0, .ref (ad 25)), (1, .long x1), (3, .int x3)]) hx hb dX2_deal_24 hl (k := 4) rfl (by rw [e_]; rfl) (by decide) rfl (fun ls hl => ?_)
      refine lv_goto (pc := 27) (tgt := 6) hx hb dX2_deal_27 (by decide) ?_
      exact ih u x1 x3 x4_1 x6_2 H locs ls h w (lv_sub hl [2, 3, 4, 1, 0] rfl)
set_option maxHeartbeats 4000000 in
set_option maxRecDepth 100000 in
theorem okX2_deal_i1 (l : Launch) {D : va_G} {g : Nat → ClassId} {ad : Nat → Nat} (hJ : CJ ad) {u : Mm} {a1 : Int64} {a3 : Int32} {Q : Mm → Prop} (h : wX2_deal 1 u a1 a3 Q) : Met l yX2_deal (Cond.code yX2_deal cX2_deal 9 none :: gt) ({ frames := 2, cells := 0, slots := 0, locals := 50 } : Room) (CPc D g ad u [.ref (ad 25), .long a1, .int a3]) (va_Qv Q (CB D g ad) (CA ad)) 0 0 (CA ad) := by
  refine Met.ofW (cc := cX2_deal) (maxL := 9) (ret := none) (by decide) rfl ?_
  intro p e s m args below meth c s₁ B hml hv
  refine Centry (own := RX2) B hml hv hJ rfl (Nat.le_of_ble_eq_true rfl) (fun ls H locs X w hl => ?_)
  obtain ⟨⟨hx, hb, hml, hown, hts⟩, hr, hlocks, hK, hJ, hAA⟩ := id X
  have hl : lv_has ls 9 [(0, .ref (ad 25)), (1, .long a1), (3, .int a3)] := hl
  unfold wX2_deal at h
  refine lv_lconst (pc := 0) (v := (0 : Int64)) hx hb dX2_deal_0 (by decide) ?_
  refine lv_lstore (pc := 1) (lv' := [(4, .long (0 : Int64)), (0, .ref (ad 25)), (1, .long a1), (3, .int a3)]) hx hb dX2_deal_1 hl (by decide) rfl (fun ls hl => ?_)
  refine lv_iconst (pc := 3) (v := (0 : Int32)) hx hb dX2_deal_3 (by decide) ?_
  refine lv_istore (pc := 4) (lv' := [(6, .int (0 : Int32)), (4, .long (0 : Int64)), (0, .ref (ad 25)), (1, .long a1), (3, .int a3)]) hx hb dX2_deal_4 hl (by decide) rfl (fun ls hl => ?_)
  obtain ⟨n9, h⟩ := h
  exact bX2_deal_i1_6 X n9 u a1 a3 (0 : Int64) (0 : Int32) H locs ls h w (lv_sub hl [2, 3, 4, 1, 0] rfl)
set_option maxHeartbeats 4000000 in
set_option maxRecDepth 100000 in
theorem okX3_append (l : Launch) {D : va_G} {g : Nat → ClassId} {ad : Nat → Nat} (hJ : CJ ad) {u : Mm} {a1 : Int32} {a2 : Int32} {a3 : Int32} {a4 : Int32} {Q : Int32 → Mm → Prop} (h : wX3_append u a1 a2 a3 a4 Q) : Met l yX3_append (Cond.code yX3_append cX3_append 6 (some .int) :: gt) ({ frames := 0, cells := 0, slots := 0, locals := 0 } : Room) (CPc D g ad u [.ref (ad 1), .int a1, .int a2, .int a3, .int a4]) (va_Qi Q (CB D g ad) (CA ad)) 0 0 (CA ad) := by
  refine Met.ofW (cc := cX3_append) (maxL := 6) (ret := (some .int)) (by decide) rfl ?_
  intro p e s m args below meth c s₁ B hml hv
  refine Centry (own := RX3) B hml hv hJ rfl (Nat.le_of_ble_eq_true rfl) (fun ls H locs X w hl => ?_)
  obtain ⟨⟨hx, hb, hml, hown, hts⟩, hr, hlocks, hK, hJ, hAA⟩ := id X
  have hl : lv_has ls 6 [(0, .ref (ad 1)), (1, .int a1), (2, .int a2), (3, .int a3), (4, .int a4)] := hl
  unfold wX3_append at h
  refine lv_aload_n (pc := 0) hx hb dX3_append_0 rfl (lv_at hl 0 rfl) ?_
  refine Cgf_1_8 (pc := 1) X w kw72 dX3_append_1 ?_
  refine lv_topi (fun x5_1 e_ => ?_)
  have h := h x5_1 e_
  refine lv_istore (pc := 4) (lv' := [(5, .int x5_1), (0, .ref (ad 1)), (1, .int a1), (2, .int a2), (3, .int a3), (4, .int a4)]) hx hb dX3_append_4 hl (by decide) rfl (fun ls hl => ?_)
  refine lv_aload_n (pc := 6) hx hb dX3_append_6 rfl (lv_at hl 1 rfl) ?_
  refine Cgf_1_1 (pc := 7) X w kw73 dX3_append_7 ?_
  refine lv_iload (pc := 10) hx hb dX3_append_10 (lv_at hl 0 rfl) ?_
  refine lv_iload_n (pc := 12) hx hb dX3_append_12 rfl (lv_at hl 2 rfl) ?_
  refine Cst_3 (pc := 13) X w h.1 dX3_append_13 (fun H locs w => ?_)
  have h := h.2
  obtain ⟨u2, e_⟩ : ∃ y : Mm, y = s32 u 3 x5_1.toNatClampNeg a1 := ⟨_, rfl⟩
  rw [← e_] at w
  have h := h u2 e_
  refine lv_aload_n (pc := 14) hx hb dX3_append_14 rfl (lv_at hl 1 rfl) ?_
  refine Cgf_1_2 (pc := 15) X w kw74 dX3_append_15 ?_
  refine lv_iload (pc := 18) hx hb dX3_append_18 (lv_at hl 0 rfl) ?_
  refine lv_iload_n (pc := 20) hx hb dX3_append_20 rfl (lv_at hl 3 rfl) ?_
  refine Cst_4 (pc := 21) X w h.1 dX3_append_21 (fun H locs w => ?_)
  have h := h.2
  obtain ⟨u3, e_⟩ : ∃ y : Mm, y = s32 u2 4 x5_1.toNatClampNeg a2 := ⟨_, rfl⟩
  rw [← e_] at w
  have h := h u3 e_
  refine lv_aload_n (pc := 22) hx hb dX3_append_22 rfl (lv_at hl 1 rfl) ?_
  refine Cgf_1_3 (pc := 23) X w kw75 dX3_append_23 ?_
  refine lv_iload (pc := 26) hx hb dX3_append_26 (lv_at hl 0 rfl) ?_
  refine lv_iload_n (pc := 28) hx hb dX3_append_28 rfl (lv_at hl 4 rfl) ?_
  refine Cst_5 (pc := 29) X w h.1 dX3_append_29 (fun H locs w => ?_)
  have h := h.2
  obtain ⟨u4, e_⟩ : ∃ y : Mm, y = s32 u3 5 x5_1.toNatClampNeg a3 := ⟨_, rfl⟩
  rw [← e_] at w
  have h := h u4 e_
  refine lv_aload_n (pc := 30) hx hb dX3_append_30 rfl (lv_at hl 1 rfl) ?_
  refine Cgf_1_4 (pc := 31) X w kw76 dX3_append_31 ?_
  refine lv_iload (pc := 34) hx hb dX3_append_34 (lv_at hl 0 rfl) ?_
  refine lv_iload (pc := 36) hx hb dX3_append_36 (lv_at hl 5 rfl) ?_
  refine Cst_6 (pc := 38) X w h.1 dX3_append_38 (fun H locs w => ?_)
  have h := h.2
  obtain ⟨u5, e_⟩ : ∃ y : Mm, y = s32 u4 6 x5_1.toNatClampNeg a4 := ⟨_, rfl⟩
  rw [← e_] at w
  have h := h u5 e_
  refine lv_aload_n (pc := 39) hx hb dX3_append_39 rfl (lv_at hl 1 rfl) ?_
  refine Cgf_1_6 (pc := 40) X w kw77 dX3_append_40 ?_
  refine lv_iload (pc := 43) hx hb dX3_append_43 (lv_at hl 0 rfl) ?_
  refine lv_aload_n (pc := 45) hx hb dX3_append_45 rfl (lv_at hl 1 rfl) ?_
  refine Cgf_1_5 (pc := 46) X w kw78 dX3_append_46 ?_
  refine lv_iload_n (pc := 49) hx hb dX3_append_49 rfl (lv_at hl 3 rfl) ?_
  refine Cld_7 (pc := 50) X w h.1 dX3_append_50 ?_
  have h := h.2
  refine Cst_8 (pc := 51) X w h.1 dX3_append_51 (fun H locs w => ?_)
  have h := h.2
  obtain ⟨u6, e_⟩ : ∃ y : Mm, y = s32 u5 8 x5_1.toNatClampNeg (u5.1 7 a2.toNatClampNeg) := ⟨_, rfl⟩
  rw [← e_] at w
  have h := h u6 e_
  refine lv_aload_n (pc := 52) hx hb dX3_append_52 rfl (lv_at hl 1 rfl) ?_
  refine Cgf_1_5 (pc := 53) X w kw78 dX3_append_53 ?_
  refine lv_iload_n (pc := 56) hx hb dX3_append_56 rfl (lv_at hl 3 rfl) ?_
  refine lv_iload (pc := 57) hx hb dX3_append_57 (lv_at hl 0 rfl) ?_
  refine Cst_7 (pc := 59) X w h.1 dX3_append_59 (fun H locs w => ?_)
  have h := h.2
  obtain ⟨u7, e_⟩ : ∃ y : Mm, y = s32 u6 7 a2.toNatClampNeg x5_1 := ⟨_, rfl⟩
  rw [← e_] at w
  have h := h u7 e_
  refine lv_aload_n (pc := 60) hx hb dX3_append_60 rfl (lv_at hl 1 rfl) ?_
  refine lv_dup (pc := 61) hx hb dX3_append_61 rfl ?_
  refine Cgf_1_8 (pc := 62) X w kw72 dX3_append_62 ?_
  refine lv_iconst (pc := 65) (v := (1 : Int32)) hx hb dX3_append_65 (by decide) ?_
  refine lv_iadd (pc := 66) hx hb dX3_append_66 ?_
  refine Cpf_1_8 (pc := 67) X w kw72 dX3_append_67 (fun H locs w => ?_)
  obtain ⟨u8, e_⟩ : ∃ y : Mm, y = s32 u7 124 0 ((u7.1 124 0) + (1 : Int32)) := ⟨_, rfl⟩
  rw [← e_] at w
  have h := h u8 e_
  refine lv_iload (pc := 70) hx hb dX3_append_70 (lv_at hl 0 rfl) ?_
  exact Ciret (pc := 72) X w h dX3_append_72
set_option maxHeartbeats 4000000 in
set_option maxRecDepth 100000 in
theorem bJ7_fill_53178_i9_5 {l : Launch} {p : Program} {e : Env} {s : State} {m : MethodId} {args : Array Value} {below : List Frame} {meth : Method} {c : Code} {D : va_G} {g : Nat → ClassId} {ad : Nat → Nat} {Q : Mm → Prop} (X : CX p s m args meth c cJ7_fill_53178 RJ7 4 none (Cond.code yJ7_fill_53178 cJ7_fill_53178 4 none) D g ad (CA ad)) : ∀ (n : Nat) (u : Mm) (x1 : Int32) (x2 : Int32) (x3 : Int32) (H : Heap) (locs : List Loc) (ls : Array Slot), wJ7_fill_53178_b5 9 10 Q n u x1 x2 x3 → CWd D g ad (CA ad) s u H locs → lv_has ls 4 [(0, .ref (ad 9)), (1, .int x1), (2, .int x2), (3, .int x3)] → W p l e ({ frames := 0, cells := 0, slots := 0, locals := 0 } : Room) s m args below meth c H locs 0 0 (MQ below (va_Qv Q (CB D g ad) (CA ad)) args s 0 0 (CA ad)) (F0 m 5 ls []) := by
  obtain ⟨⟨hx, hb, hml, hown, hts⟩, hr, hlocks, hK, hJ, hAA⟩ := id X
  intro n
  induction n with
  | zero =>
    intro u x1 x2 x3 H locs ls h
    exact False.elim h
  | succ n ih =>
    intro u x1 x2 x3 H locs ls h w hl
    unfold wJ7_fill_53178_b5 at h
    refine lv_iload_n (pc := 5) hx hb dJ7_fill_53178_5 rfl (lv_at hl 2 rfl) ?_
    refine lv_iload_n (pc := 6) hx hb dJ7_fill_53178_6 rfl (lv_at hl 3 rfl) ?_
    refine lv_icmp_ge (pc := 7) (tgt := 20) hx hb dJ7_fill_53178_7 (by decide) (fun c_ => ?_) (fun c_ => ?_)
    · have h := h.1 c_
      exact Cvret (pc := 20) X w h dJ7_fill_53178_20
    · have h := h.2 c_
      refine lv_aload_n (pc := 10) hx hb dJ7_fill_53178_10 rfl (lv_at hl 0 rfl) ?_
      refine lv_iload_n (pc := 11) hx hb dJ7_fill_53178_11 rfl (lv_at hl 2 rfl) ?_
      refine lv_iload_n (pc := 12) hx hb dJ7_fill_53178_12 rfl (lv_at hl 1 rfl) ?_
      refine Cst_9 (pc := 13) X w h.1 dJ7_fill_53178_13 (fun H locs w => ?_)
      have h := h.2
      obtain ⟨u1, e_⟩ : ∃ y : Mm, y = s32 u 9 x2.toNatClampNeg x1 := ⟨_, rfl⟩
      rw [← e_] at w
      have h := h u1 e_
      obtain ⟨x2_2, e_⟩ : ∃ y : Int32, y = x2 + (1 : Int32) := ⟨_, rfl⟩
      have h := h x2_2 e_
      refine lv_iinc (pc := 14) (v := x2_2) (lv' := [(2, .int x2_2), (0, .ref (ad 9)), (1, .int x1), (3, .int x3)]) hx hb dJ7_fill_53178_14 hl (k := 2) rfl (by rw [e_]; rfl) (by decide) rfl (fun ls hl => ?_)
      refine lv_goto (pc := 17) (tgt := 5) hx hb dJ7_fill_53178_17 (by decide) ?_
      exact ih u1 x1 x2_2 x3 H locs ls h w (lv_sub hl [1, 2, 0, 3] rfl)
set_option maxHeartbeats 4000000 in
set_option maxRecDepth 100000 in
theorem okJ7_fill_53178_i9 (l : Launch) {D : va_G} {g : Nat → ClassId} {ad : Nat → Nat} (hJ : CJ ad) {u : Mm} {a1 : Int32} {Q : Mm → Prop} (h : wJ7_fill_53178 9 10 u a1 Q) : Met l yJ7_fill_53178 (Cond.code yJ7_fill_53178 cJ7_fill_53178 4 none :: gt) ({ frames := 0, cells := 0, slots := 0, locals := 0 } : Room) (CPc D g ad u [.ref (ad 9), .int a1]) (va_Qv Q (CB D g ad) (CA ad)) 0 0 (CA ad) := by
  refine Met.ofW (cc := cJ7_fill_53178) (maxL := 4) (ret := none) (by decide) rfl ?_
  intro p e s m args below meth c s₁ B hml hv
  refine Centry (own := RJ7) B hml hv hJ rfl (Nat.le_of_ble_eq_true rfl) (fun ls H locs X w hl => ?_)
  obtain ⟨⟨hx, hb, hml, hown, hts⟩, hr, hlocks, hK, hJ, hAA⟩ := id X
  have hl : lv_has ls 4 [(0, .ref (ad 9)), (1, .int a1)] := hl
  unfold wJ7_fill_53178 at h
  refine lv_iconst (pc := 0) (v := (0 : Int32)) hx hb dJ7_fill_53178_0 (by decide) ?_
  refine lv_istore_n (pc := 1) (lv' := [(2, .int (0 : Int32)), (0, .ref (ad 9)), (1, .int a1)]) hx hb dJ7_fill_53178_1 rfl hl (by decide) rfl (fun ls hl => ?_)
  refine lv_aload_n (pc := 2) hx hb dJ7_fill_53178_2 rfl (lv_at hl 1 rfl) ?_
  refine Cal_9 (pc := 3) X w dJ7_fill_53178_3 ?_
  refine lv_istore_n (pc := 4) (lv' := [(3, .int (nI 10)), (2, .int (0 : Int32)), (0, .ref (ad 9)), (1, .int a1)]) hx hb dJ7_fill_53178_4 rfl hl (by decide) rfl (fun ls hl => ?_)
  obtain ⟨n9, h⟩ := h
  exact bJ7_fill_53178_i9_5 X n9 u a1 (0 : Int32) (nI 10) H locs ls h w (lv_sub hl [2, 3, 1, 0] rfl)
set_option maxHeartbeats 4000000 in
set_option maxRecDepth 100000 in
theorem bJ7_fill_53178_i55_5 {l : Launch} {p : Program} {e : Env} {s : State} {m : MethodId} {args : Array Value} {below : List Frame} {meth : Method} {c : Code} {D : va_G} {g : Nat → ClassId} {ad : Nat → Nat} {Q : Mm → Prop} (X : CX p s m args meth c cJ7_fill_53178 RJ7 4 none (Cond.code yJ7_fill_53178 cJ7_fill_53178 4 none) D g ad (CA ad)) : ∀ (n : Nat) (u : Mm) (x1 : Int32) (x2 : Int32) (x3 : Int32) (H : Heap) (locs : List Loc) (ls : Array Slot), wJ7_fill_53178_b5 55 60 Q n u x1 x2 x3 → CWd D g ad (CA ad) s u H locs → lv_has ls 4 [(0, .ref (ad 55)), (1, .int x1), (2, .int x2), (3, .int x3)] → W p l e ({ frames := 0, cells := 0, slots := 0, locals := 0 } : Room) s m args below meth c H locs 0 0 (MQ below (va_Qv Q (CB D g ad) (CA ad)) args s 0 0 (CA ad)) (F0 m 5 ls []) := by
  obtain ⟨⟨hx, hb, hml, hown, hts⟩, hr, hlocks, hK, hJ, hAA⟩ := id X
  intro n
  induction n with
  | zero =>
    intro u x1 x2 x3 H locs ls h
    exact False.elim h
  | succ n ih =>
    intro u x1 x2 x3 H locs ls h w hl
    unfold wJ7_fill_53178_b5 at h
    refine lv_iload_n (pc := 5) hx hb dJ7_fill_53178_5 rfl (lv_at hl 2 rfl) ?_
    refine lv_iload_n (pc := 6) hx hb dJ7_fill_53178_6 rfl (lv_at hl 3 rfl) ?_
    refine lv_icmp_ge (pc := 7) (tgt := 20) hx hb dJ7_fill_53178_7 (by decide) (fun c_ => ?_) (fun c_ => ?_)
    · have h := h.1 c_
      exact Cvret (pc := 20) X w h dJ7_fill_53178_20
    · have h := h.2 c_
      refine lv_aload_n (pc := 10) hx hb dJ7_fill_53178_10 rfl (lv_at hl 0 rfl) ?_
      refine lv_iload_n (pc := 11) hx hb dJ7_fill_53178_11 rfl (lv_at hl 2 rfl) ?_
      refine lv_iload_n (pc := 12) hx hb dJ7_fill_53178_12 rfl (lv_at hl 1 rfl) ?_
      refine Cst_55 (pc := 13) X w h.1 dJ7_fill_53178_13 (fun H locs w => ?_)
      have h := h.2
      obtain ⟨u1, e_⟩ : ∃ y : Mm, y = s32 u 55 x2.toNatClampNeg x1 := ⟨_, rfl⟩
      rw [← e_] at w
      have h := h u1 e_
      obtain ⟨x2_2, e_⟩ : ∃ y : Int32, y = x2 + (1 : Int32) := ⟨_, rfl⟩
      have h := h x2_2 e_
      refine lv_iinc (pc := 14) (v := x2_2) (lv' := [(2, .int x2_2), (0, .ref (ad 55)), (1, .int x1), (3, .int x3)]) hx hb dJ7_fill_53178_14 hl (k := 2) rfl (by rw [e_]; rfl) (by decide) rfl (fun ls hl => ?_)
      refine lv_goto (pc := 17) (tgt := 5) hx hb dJ7_fill_53178_17 (by decide) ?_
      exact ih u1 x1 x2_2 x3 H locs ls h w (lv_sub hl [1, 2, 0, 3] rfl)
set_option maxHeartbeats 4000000 in
set_option maxRecDepth 100000 in
theorem okJ7_fill_53178_i55 (l : Launch) {D : va_G} {g : Nat → ClassId} {ad : Nat → Nat} (hJ : CJ ad) {u : Mm} {a1 : Int32} {Q : Mm → Prop} (h : wJ7_fill_53178 55 60 u a1 Q) : Met l yJ7_fill_53178 (Cond.code yJ7_fill_53178 cJ7_fill_53178 4 none :: gt) ({ frames := 0, cells := 0, slots := 0, locals := 0 } : Room) (CPc D g ad u [.ref (ad 55), .int a1]) (va_Qv Q (CB D g ad) (CA ad)) 0 0 (CA ad) := by
  refine Met.ofW (cc := cJ7_fill_53178) (maxL := 4) (ret := none) (by decide) rfl ?_
  intro p e s m args below meth c s₁ B hml hv
  refine Centry (own := RJ7) B hml hv hJ rfl (Nat.le_of_ble_eq_true rfl) (fun ls H locs X w hl => ?_)
  obtain ⟨⟨hx, hb, hml, hown, hts⟩, hr, hlocks, hK, hJ, hAA⟩ := id X
  have hl : lv_has ls 4 [(0, .ref (ad 55)), (1, .int a1)] := hl
  unfold wJ7_fill_53178 at h
  refine lv_iconst (pc := 0) (v := (0 : Int32)) hx hb dJ7_fill_53178_0 (by decide) ?_
  refine lv_istore_n (pc := 1) (lv' := [(2, .int (0 : Int32)), (0, .ref (ad 55)), (1, .int a1)]) hx hb dJ7_fill_53178_1 rfl hl (by decide) rfl (fun ls hl => ?_)
  refine lv_aload_n (pc := 2) hx hb dJ7_fill_53178_2 rfl (lv_at hl 1 rfl) ?_
  refine Cal_55 (pc := 3) X w dJ7_fill_53178_3 ?_
  refine lv_istore_n (pc := 4) (lv' := [(3, .int (nI 60)), (2, .int (0 : Int32)), (0, .ref (ad 55)), (1, .int a1)]) hx hb dJ7_fill_53178_4 rfl hl (by decide) rfl (fun ls hl => ?_)
  obtain ⟨n9, h⟩ := h
  exact bJ7_fill_53178_i55_5 X n9 u a1 (0 : Int32) (nI 60) H locs ls h w (lv_sub hl [2, 3, 1, 0] rfl)
set_option maxHeartbeats 4000000 in
set_option maxRecDepth 100000 in
theorem bJ7_fill_53178_i57_5 {l : Launch} {p : Program} {e : Env} {s : State} {m : MethodId} {args : Array Value} {below : List Frame} {meth : Method} {c : Code} {D : va_G} {g : Nat → ClassId} {ad : Nat → Nat} {Q : Mm → Prop} (X : CX p s m args meth c cJ7_fill_53178 RJ7 4 none (Cond.code yJ7_fill_53178 cJ7_fill_53178 4 none) D g ad (CA ad)) : ∀ (n : Nat) (u : Mm) (x1 : Int32) (x2 : Int32) (x3 : Int32) (H : Heap) (locs : List Loc) (ls : Array Slot), wJ7_fill_53178_b5 57 60 Q n u x1 x2 x3 → CWd D g ad (CA ad) s u H locs → lv_has ls 4 [(0, .ref (ad 57)), (1, .int x1), (2, .int x2), (3, .int x3)] → W p l e ({ frames := 0, cells := 0, slots := 0, locals := 0 } : Room) s m args below meth c H locs 0 0 (MQ below (va_Qv Q (CB D g ad) (CA ad)) args s 0 0 (CA ad)) (F0 m 5 ls []) := by
  obtain ⟨⟨hx, hb, hml, hown, hts⟩, hr, hlocks, hK, hJ, hAA⟩ := id X
  intro n
  induction n with
  | zero =>
    intro u x1 x2 x3 H locs ls h
    exact False.elim h
  | succ n ih =>
    intro u x1 x2 x3 H locs ls h w hl
    unfold wJ7_fill_53178_b5 at h
    refine lv_iload_n (pc := 5) hx hb dJ7_fill_53178_5 rfl (lv_at hl 2 rfl) ?_
    refine lv_iload_n (pc := 6) hx hb dJ7_fill_53178_6 rfl (lv_at hl 3 rfl) ?_
    refine lv_icmp_ge (pc := 7) (tgt := 20) hx hb dJ7_fill_53178_7 (by decide) (fun c_ => ?_) (fun c_ => ?_)
    · have h := h.1 c_
      exact Cvret (pc := 20) X w h dJ7_fill_53178_20
    · have h := h.2 c_
      refine lv_aload_n (pc := 10) hx hb dJ7_fill_53178_10 rfl (lv_at hl 0 rfl) ?_
      refine lv_iload_n (pc := 11) hx hb dJ7_fill_53178_11 rfl (lv_at hl 2 rfl) ?_
      refine lv_iload_n (pc := 12) hx hb dJ7_fill_53178_12 rfl (lv_at hl 1 rfl) ?_
      refine Cst_57 (pc := 13) X w h.1 dJ7_fill_53178_13 (fun H locs w => ?_)
      have h := h.2
      obtain ⟨u1, e_⟩ : ∃ y : Mm, y = s32 u 57 x2.toNatClampNeg x1 := ⟨_, rfl⟩
      rw [← e_] at w
      have h := h u1 e_
      obtain ⟨x2_2, e_⟩ : ∃ y : Int32, y = x2 + (1 : Int32) := ⟨_, rfl⟩
      have h := h x2_2 e_
      refine lv_iinc (pc := 14) (v := x2_2) (lv' := [(2, .int x2_2), (0, .ref (ad 57)), (1, .int x1), (3, .int x3)]) hx hb dJ7_fill_53178_14 hl (k := 2) rfl (by rw [e_]; rfl) (by decide) rfl (fun ls hl => ?_)
      refine lv_goto (pc := 17) (tgt := 5) hx hb dJ7_fill_53178_17 (by decide) ?_
      exact ih u1 x1 x2_2 x3 H locs ls h w (lv_sub hl [1, 2, 0, 3] rfl)
set_option maxHeartbeats 4000000 in
set_option maxRecDepth 100000 in
theorem okJ7_fill_53178_i57 (l : Launch) {D : va_G} {g : Nat → ClassId} {ad : Nat → Nat} (hJ : CJ ad) {u : Mm} {a1 : Int32} {Q : Mm → Prop} (h : wJ7_fill_53178 57 60 u a1 Q) : Met l yJ7_fill_53178 (Cond.code yJ7_fill_53178 cJ7_fill_53178 4 none :: gt) ({ frames := 0, cells := 0, slots := 0, locals := 0 } : Room) (CPc D g ad u [.ref (ad 57), .int a1]) (va_Qv Q (CB D g ad) (CA ad)) 0 0 (CA ad) := by
  refine Met.ofW (cc := cJ7_fill_53178) (maxL := 4) (ret := none) (by decide) rfl ?_
  intro p e s m args below meth c s₁ B hml hv
  refine Centry (own := RJ7) B hml hv hJ rfl (Nat.le_of_ble_eq_true rfl) (fun ls H locs X w hl => ?_)
  obtain ⟨⟨hx, hb, hml, hown, hts⟩, hr, hlocks, hK, hJ, hAA⟩ := id X
  have hl : lv_has ls 4 [(0, .ref (ad 57)), (1, .int a1)] := hl
  unfold wJ7_fill_53178 at h
  refine lv_iconst (pc := 0) (v := (0 : Int32)) hx hb dJ7_fill_53178_0 (by decide) ?_
  refine lv_istore_n (pc := 1) (lv' := [(2, .int (0 : Int32)), (0, .ref (ad 57)), (1, .int a1)]) hx hb dJ7_fill_53178_1 rfl hl (by decide) rfl (fun ls hl => ?_)
  refine lv_aload_n (pc := 2) hx hb dJ7_fill_53178_2 rfl (lv_at hl 1 rfl) ?_
  refine Cal_57 (pc := 3) X w dJ7_fill_53178_3 ?_
  refine lv_istore_n (pc := 4) (lv' := [(3, .int (nI 60)), (2, .int (0 : Int32)), (0, .ref (ad 57)), (1, .int a1)]) hx hb dJ7_fill_53178_4 rfl hl (by decide) rfl (fun ls hl => ?_)
  obtain ⟨n9, h⟩ := h
  exact bJ7_fill_53178_i57_5 X n9 u a1 (0 : Int32) (nI 60) H locs ls h w (lv_sub hl [2, 3, 1, 0] rfl)
set_option maxHeartbeats 4000000 in
set_option maxRecDepth 100000 in
theorem bJ7_fill_53178_i59_5 {l : Launch} {p : Program} {e : Env} {s : State} {m : MethodId} {args : Array Value} {below : List Frame} {meth : Method} {c : Code} {D : va_G} {g : Nat → ClassId} {ad : Nat → Nat} {Q : Mm → Prop} (X : CX p s m args meth c cJ7_fill_53178 RJ7 4 none (Cond.code yJ7_fill_53178 cJ7_fill_53178 4 none) D g ad (CA ad)) : ∀ (n : Nat) (u : Mm) (x1 : Int32) (x2 : Int32) (x3 : Int32) (H : Heap) (locs : List Loc) (ls : Array Slot), wJ7_fill_53178_b5 59 60 Q n u x1 x2 x3 → CWd D g ad (CA ad) s u H locs → lv_has ls 4 [(0, .ref (ad 59)), (1, .int x1), (2, .int x2), (3, .int x3)] → W p l e ({ frames := 0, cells := 0, slots := 0, locals := 0 } : Room) s m args below meth c H locs 0 0 (MQ below (va_Qv Q (CB D g ad) (CA ad)) args s 0 0 (CA ad)) (F0 m 5 ls []) := by
  obtain ⟨⟨hx, hb, hml, hown, hts⟩, hr, hlocks, hK, hJ, hAA⟩ := id X
  intro n
  induction n with
  | zero =>
    intro u x1 x2 x3 H locs ls h
    exact False.elim h
  | succ n ih =>
    intro u x1 x2 x3 H locs ls h w hl
    unfold wJ7_fill_53178_b5 at h
    refine lv_iload_n (pc := 5) hx hb dJ7_fill_53178_5 rfl (lv_at hl 2 rfl) ?_
    refine lv_iload_n (pc := 6) hx hb dJ7_fill_53178_6 rfl (lv_at hl 3 rfl) ?_
    refine lv_icmp_ge (pc := 7) (tgt := 20) hx hb dJ7_fill_53178_7 (by decide) (fun c_ => ?_) (fun c_ => ?_)
    · have h := h.1 c_
      exact Cvret (pc := 20) X w h dJ7_fill_53178_20
    · have h := h.2 c_
      refine lv_aload_n (pc := 10) hx hb dJ7_fill_53178_10 rfl (lv_at hl 0 rfl) ?_
      refine lv_iload_n (pc := 11) hx hb dJ7_fill_53178_11 rfl (lv_at hl 2 rfl) ?_
      refine lv_iload_n (pc := 12) hx hb dJ7_fill_53178_12 rfl (lv_at hl 1 rfl) ?_
      refine Cst_59 (pc := 13) X w h.1 dJ7_fill_53178_13 (fun H locs w => ?_)
      have h := h.2
      obtain ⟨u1, e_⟩ : ∃ y : Mm, y = s32 u 59 x2.toNatClampNeg x1 := ⟨_, rfl⟩
      rw [← e_] at w
      have h := h u1 e_
      obtain ⟨x2_2, e_⟩ : ∃ y : Int32, y = x2 + (1 : Int32) := ⟨_, rfl⟩
      have h := h x2_2 e_
      refine lv_iinc (pc := 14) (v := x2_2) (lv' := [(2, .int x2_2), (0, .ref (ad 59)), (1, .int x1), (3, .int x3)]) hx hb dJ7_fill_53178_14 hl (k := 2) rfl (by rw [e_]; rfl) (by decide) rfl (fun ls hl => ?_)
      refine lv_goto (pc := 17) (tgt := 5) hx hb dJ7_fill_53178_17 (by decide) ?_
      exact ih u1 x1 x2_2 x3 H locs ls h w (lv_sub hl [1, 2, 0, 3] rfl)
set_option maxHeartbeats 4000000 in
set_option maxRecDepth 100000 in
theorem okJ7_fill_53178_i59 (l : Launch) {D : va_G} {g : Nat → ClassId} {ad : Nat → Nat} (hJ : CJ ad) {u : Mm} {a1 : Int32} {Q : Mm → Prop} (h : wJ7_fill_53178 59 60 u a1 Q) : Met l yJ7_fill_53178 (Cond.code yJ7_fill_53178 cJ7_fill_53178 4 none :: gt) ({ frames := 0, cells := 0, slots := 0, locals := 0 } : Room) (CPc D g ad u [.ref (ad 59), .int a1]) (va_Qv Q (CB D g ad) (CA ad)) 0 0 (CA ad) := by
  refine Met.ofW (cc := cJ7_fill_53178) (maxL := 4) (ret := none) (by decide) rfl ?_
  intro p e s m args below meth c s₁ B hml hv
  refine Centry (own := RJ7) B hml hv hJ rfl (Nat.le_of_ble_eq_true rfl) (fun ls H locs X w hl => ?_)
  obtain ⟨⟨hx, hb, hml, hown, hts⟩, hr, hlocks, hK, hJ, hAA⟩ := id X
  have hl : lv_has ls 4 [(0, .ref (ad 59)), (1, .int a1)] := hl
  unfold wJ7_fill_53178 at h
  refine lv_iconst (pc := 0) (v := (0 : Int32)) hx hb dJ7_fill_53178_0 (by decide) ?_
  refine lv_istore_n (pc := 1) (lv' := [(2, .int (0 : Int32)), (0, .ref (ad 59)), (1, .int a1)]) hx hb dJ7_fill_53178_1 rfl hl (by decide) rfl (fun ls hl => ?_)
  refine lv_aload_n (pc := 2) hx hb dJ7_fill_53178_2 rfl (lv_at hl 1 rfl) ?_
  refine Cal_59 (pc := 3) X w dJ7_fill_53178_3 ?_
  refine lv_istore_n (pc := 4) (lv' := [(3, .int (nI 60)), (2, .int (0 : Int32)), (0, .ref (ad 59)), (1, .int a1)]) hx hb dJ7_fill_53178_4 rfl hl (by decide) rfl (fun ls hl => ?_)
  obtain ⟨n9, h⟩ := h
  exact bJ7_fill_53178_i59_5 X n9 u a1 (0 : Int32) (nI 60) H locs ls h w (lv_sub hl [2, 3, 1, 0] rfl)
set_option maxHeartbeats 4000000 in
set_option maxRecDepth 100000 in
theorem bJ7_fill_53178_i61_5 {l : Launch} {p : Program} {e : Env} {s : State} {m : MethodId} {args : Array Value} {below : List Frame} {meth : Method} {c : Code} {D : va_G} {g : Nat → ClassId} {ad : Nat → Nat} {Q : Mm → Prop} (X : CX p s m args meth c cJ7_fill_53178 RJ7 4 none (Cond.code yJ7_fill_53178 cJ7_fill_53178 4 none) D g ad (CA ad)) : ∀ (n : Nat) (u : Mm) (x1 : Int32) (x2 : Int32) (x3 : Int32) (H : Heap) (locs : List Loc) (ls : Array Slot), wJ7_fill_53178_b5 61 60 Q n u x1 x2 x3 → CWd D g ad (CA ad) s u H locs → lv_has ls 4 [(0, .ref (ad 61)), (1, .int x1), (2, .int x2), (3, .int x3)] → W p l e ({ frames := 0, cells := 0, slots := 0, locals := 0 } : Room) s m args below meth c H locs 0 0 (MQ below (va_Qv Q (CB D g ad) (CA ad)) args s 0 0 (CA ad)) (F0 m 5 ls []) := by
  obtain ⟨⟨hx, hb, hml, hown, hts⟩, hr, hlocks, hK, hJ, hAA⟩ := id X
  intro n
  induction n with
  | zero =>
    intro u x1 x2 x3 H locs ls h
    exact False.elim h
  | succ n ih =>
    intro u x1 x2 x3 H locs ls h w hl
    unfold wJ7_fill_53178_b5 at h
    refine lv_iload_n (pc := 5) hx hb dJ7_fill_53178_5 rfl (lv_at hl 2 rfl) ?_
    refine lv_iload_n (pc := 6) hx hb dJ7_fill_53178_6 rfl (lv_at hl 3 rfl) ?_
    refine lv_icmp_ge (pc := 7) (tgt := 20) hx hb dJ7_fill_53178_7 (by decide) (fun c_ => ?_) (fun c_ => ?_)
    · have h := h.1 c_
      exact Cvret (pc := 20) X w h dJ7_fill_53178_20
    · have h := h.2 c_
      refine lv_aload_n (pc := 10) hx hb dJ7_fill_53178_10 rfl (lv_at hl 0 rfl) ?_
      refine lv_iload_n (pc := 11) hx hb dJ7_fill_53178_11 rfl (lv_at hl 2 rfl) ?_
      refine lv_iload_n (pc := 12) hx hb dJ7_fill_53178_12 rfl (lv_at hl 1 rfl) ?_
      refine Cst_61 (pc := 13) X w h.1 dJ7_fill_53178_13 (fun H locs w => ?_)
      have h := h.2
      obtain ⟨u1, e_⟩ : ∃ y : Mm, y = s32 u 61 x2.toNatClampNeg x1 := ⟨_, rfl⟩
      rw [← e_] at w
      have h := h u1 e_
      obtain ⟨x2_2, e_⟩ : ∃ y : Int32, y = x2 + (1 : Int32) := ⟨_, rfl⟩
      have h := h x2_2 e_
      refine lv_iinc (pc := 14) (v := x2_2) (lv' := [(2, .int x2_2), (0, .ref (ad 61)), (1, .int x1), (3, .int x3)]) hx hb dJ7_fill_53178_14 hl (k := 2) rfl (by rw [e_]; rfl) (by decide) rfl (fun ls hl => ?_)
      refine lv_goto (pc := 17) (tgt := 5) hx hb dJ7_fill_53178_17 (by decide) ?_
      exact ih u1 x1 x2_2 x3 H locs ls h w (lv_sub hl [1, 2, 0, 3] rfl)
set_option maxHeartbeats 4000000 in
set_option maxRecDepth 100000 in
theorem okJ7_fill_53178_i61 (l : Launch) {D : va_G} {g : Nat → ClassId} {ad : Nat → Nat} (hJ : CJ ad) {u : Mm} {a1 : Int32} {Q : Mm → Prop} (h : wJ7_fill_53178 61 60 u a1 Q) : Met l yJ7_fill_53178 (Cond.code yJ7_fill_53178 cJ7_fill_53178 4 none :: gt) ({ frames := 0, cells := 0, slots := 0, locals := 0 } : Room) (CPc D g ad u [.ref (ad 61), .int a1]) (va_Qv Q (CB D g ad) (CA ad)) 0 0 (CA ad) := by
  refine Met.ofW (cc := cJ7_fill_53178) (maxL := 4) (ret := none) (by decide) rfl ?_
  intro p e s m args below meth c s₁ B hml hv
  refine Centry (own := RJ7) B hml hv hJ rfl (Nat.le_of_ble_eq_true rfl) (fun ls H locs X w hl => ?_)
  obtain ⟨⟨hx, hb, hml, hown, hts⟩, hr, hlocks, hK, hJ, hAA⟩ := id X
  have hl : lv_has ls 4 [(0, .ref (ad 61)), (1, .int a1)] := hl
  unfold wJ7_fill_53178 at h
  refine lv_iconst (pc := 0) (v := (0 : Int32)) hx hb dJ7_fill_53178_0 (by decide) ?_
  refine lv_istore_n (pc := 1) (lv' := [(2, .int (0 : Int32)), (0, .ref (ad 61)), (1, .int a1)]) hx hb dJ7_fill_53178_1 rfl hl (by decide) rfl (fun ls hl => ?_)
  refine lv_aload_n (pc := 2) hx hb dJ7_fill_53178_2 rfl (lv_at hl 1 rfl) ?_
  refine Cal_61 (pc := 3) X w dJ7_fill_53178_3 ?_
  refine lv_istore_n (pc := 4) (lv' := [(3, .int (nI 60)), (2, .int (0 : Int32)), (0, .ref (ad 61)), (1, .int a1)]) hx hb dJ7_fill_53178_4 rfl hl (by decide) rfl (fun ls hl => ?_)
  obtain ⟨n9, h⟩ := h
  exact bJ7_fill_53178_i61_5 X n9 u a1 (0 : Int32) (nI 60) H locs ls h w (lv_sub hl [2, 3, 1, 0] rfl)
set_option maxHeartbeats 4000000 in
set_option maxRecDepth 100000 in
theorem bX3_pick_108 {l : Launch} {p : Program} {e : Env} {s : State} {m : MethodId} {args : Array Value} {below : List Frame} {meth : Method} {c : Code} {D : va_G} {g : Nat → ClassId} {ad : Nat → Nat} {Q : Mm → Prop} {k117 : Mm → Int32 → Int32 → Int32 → Int32 → Prop} (X : CX p s m args meth c cX3_pick RX3 9 none (Cond.code yX3_pick cX3_pick 9 none) D g ad (CA ad)) (hk117 : ∀ (u : Mm) (x2 : Int32) (x3 : Int32) (x4 : Int32) (x5 : Int32) (H : Heap) (locs : List Loc) (ls : Array Slot), k117 u x2 x3 x4 x5 → CWd D g ad (CA ad) s u H locs → lv_has ls 9 [(0, .ref (ad 1)), (2, .int x2), (3, .int x3), (4, .int x4), (5, .int x5)] → W p l e ({ frames := 1, cells := 0, slots := 0, locals := 23 } : Room) s m args below meth c H locs 0 0 (MQ below (va_Qv Q (CB D g ad) (CA ad)) args s 0 0 (CA ad)) (F0 m 117 ls [])) : ∀ (u : Mm) (x2 : Int32) (x3 : Int32) (x4 : Int32) (x5 : Int32) (x6 : Int32) (H : Heap) (locs : List Loc) (ls : Array Slot), wX3_pick_b108 k117 Q u x2 x3 x4 x5 x6 → CWd D g ad (CA ad) s u H locs → lv_has ls 9 [(0, .ref (ad 1)), (2, .int x2), (3, .int x3), (4, .int x4), (5, .int x5), (6, .int x6)] → W p l e ({ frames := 1, cells := 0, slots := 0, locals := 23 } : Room) s m args below meth c H locs 0 0 (MQ below (va_Qv Q (CB D g ad) (CA ad)) args s 0 0 (CA ad)) (F0 m 108 ls []) := by
  obtain ⟨⟨hx, hb, hml, hown, hts⟩, hr, hlocks, hK, hJ, hAA⟩ := id X
  intro u x2 x3 x4 x5 x6 H locs ls h w hl
  unfold wX3_pick_b108 at h
  refine lv_aload_n (pc := 108) hx hb dX3_pick_108 rfl (lv_at hl 0 rfl) ?_
  refine Cgf_1_7 (pc := 109) X w kw79 dX3_pick_109 ?_
  refine lv_iload (pc := 112) hx hb dX3_pick_112 (lv_at hl 5 rfl) ?_
  refine lv_iload (pc := 114) hx hb dX3_pick_114 (lv_at hl 3 rfl) ?_
  refine Cst_9 (pc := 116) X w h.1 dX3_pick_116 (fun H locs w => ?_)
  have h := h.2
  obtain ⟨u1, e_⟩ : ∃ y : Mm, y = s32 u 9 x6.toNatClampNeg x4 := ⟨_, rfl⟩
  rw [← e_] at w
  have h := h u1 e_
  exact hk117 u1 x2 x3 x4 x5 H locs ls h w (lv_sub hl [0, 1, 2, 3, 4] rfl)
set_option maxHeartbeats 4000000 in
set_option maxRecDepth 100000 in
theorem bX3_pick_117 {l : Launch} {p : Program} {e : Env} {s : State} {m : MethodId} {args : Array Value} {below : List Frame} {meth : Method} {c : Code} {D : va_G} {g : Nat → ClassId} {ad : Nat → Nat} {Q : Mm → Prop} {k19 : Mm → Int32 → Int32 → Int32 → Int32 → Prop} (X : CX p s m args meth c cX3_pick RX3 9 none (Cond.code yX3_pick cX3_pick 9 none) D g ad (CA ad)) (hk19 : ∀ (u : Mm) (x2 : Int32) (x3 : Int32) (x4 : Int32) (x5 : Int32) (H : Heap) (locs : List Loc) (ls : Array Slot), k19 u x2 x3 x4 x5 → CWd D g ad (CA ad) s u H locs → lv_has ls 9 [(0, .ref (ad 1)), (2, .int x2), (3, .int x3), (4, .int x4), (5, .int x5)] → W p l e ({ frames := 1, cells := 0, slots := 0, locals := 23 } : Room) s m args below meth c H locs 0 0 (MQ below (va_Qv Q (CB D g ad) (CA ad)) args s 0 0 (CA ad)) (F0 m 19 ls [])) : ∀ (u : Mm) (x2 : Int32) (x3 : Int32) (x4 : Int32) (x5 : Int32) (H : Heap) (locs : List Loc) (ls : Array Slot), wX3_pick_b117 k19 Q u x2 x3 x4 x5 → CWd D g ad (CA ad) s u H locs → lv_has ls 9 [(0, .ref (ad 1)), (2, .int x2), (3, .int x3), (4, .int x4), (5, .int x5)] → W p l e ({ frames := 1, cells := 0, slots := 0, locals := 23 } : Room) s m args below meth c H locs 0 0 (MQ below (va_Qv Q (CB D g ad) (CA ad)) args s 0 0 (CA ad)) (F0 m 117 ls []) := by
  obtain ⟨⟨hx, hb, hml, hown, hts⟩, hr, hlocks, hK, hJ, hAA⟩ := id X
  intro u x2 x3 x4 x5 H locs ls h w hl
  unfold wX3_pick_b117 at h
  refine lv_aload_n (pc := 117) hx hb dX3_pick_117 rfl (lv_at hl 0 rfl) ?_
  refine Cgf_1_6 (pc := 118) X w kw77 dX3_pick_118 ?_
  refine lv_iload (pc := 121) hx hb dX3_pick_121 (lv_at hl 3 rfl) ?_
  refine Cld_8 (pc := 123) X w h.1 dX3_pick_123 ?_
  have h := h.2
  refine lv_topi (fun x4_1 e_ => ?_)
  have h := h x4_1 e_
  refine lv_istore (pc := 124) (lv' := [(4, .int x4_1), (0, .ref (ad 1)), (2, .int x2), (3, .int x3), (5, .int x5)]) hx hb dX3_pick_124 hl (by decide) rfl (fun ls hl => ?_)
  obtain ⟨x5_2, e_⟩ : ∃ y : Int32, y = x5 + (1 : Int32) := ⟨_, rfl⟩
  have h := h x5_2 e_
  refine lv_iinc (pc := 126) (v := x5_2) (lv' := [(5, .int x5_2), (4, .int x4_1), (0, .ref (ad 1)), (2, .int x2), (3, .int x3)]) hx hb dX3_pick_126 hl (k := 4) rfl (by rw [e_]; rfl) (by decide) rfl (fun ls hl => ?_)
  refine lv_goto (pc := 129) (tgt := 19) hx hb dX3_pick_129 (by decide) ?_
  exact hk19 u x2 x3 x4_1 x5_2 H locs ls h w (lv_sub hl [2, 3, 4, 1, 0] rfl)
set_option maxHeartbeats 4000000 in
set_option maxRecDepth 100000 in
theorem bX3_pick_73 {l : Launch} {p : Program} {e : Env} {s : State} {m : MethodId} {args : Array Value} {below : List Frame} {meth : Method} {c : Code} {D : va_G} {g : Nat → ClassId} {ad : Nat → Nat} {Q : Mm → Prop} {k19 : Mm → Int32 → Int32 → Int32 → Int32 → Prop} (X : CX p s m args meth c cX3_pick RX3 9 none (Cond.code yX3_pick cX3_pick 9 none) D g ad (CA ad)) (hk19 : ∀ (u : Mm) (x2 : Int32) (x3 : Int32) (x4 : Int32) (x5 : Int32) (H : Heap) (locs : List Loc) (ls : Array Slot), k19 u x2 x3 x4 x5 → CWd D g ad (CA ad) s u H locs → lv_has ls 9 [(0, .ref (ad 1)), (2, .int x2), (3, .int x3), (4, .int x4), (5, .int x5)] → W p l e ({ frames := 1, cells := 0, slots := 0, locals := 23 } : Room) s m args below meth c H locs 0 0 (MQ below (va_Qv Q (CB D g ad) (CA ad)) args s 0 0 (CA ad)) (F0 m 19 ls [])) : ∀ (u : Mm) (x2 : Int32) (x3 : Int32) (x4 : Int32) (x5 : Int32) (x6 : Int32) (x7 : Int32) (y0 : Int32) (H : Heap) (locs : List Loc) (ls : Array Slot), wX3_pick_b73 k19 Q u x2 x3 x4 x5 x6 x7 y0 → CWd D g ad (CA ad) s u H locs → lv_has ls 9 [(0, .ref (ad 1)), (2, .int x2), (3, .int x3), (4, .int x4), (5, .int x5), (6, .int x6), (7, .int x7)] → W p l e ({ frames := 1, cells := 0, slots := 0, locals := 23 } : Room) s m args below meth c H locs 0 0 (MQ below (va_Qv Q (CB D g ad) (CA ad)) args s 0 0 (CA ad)) (F0 m 73 ls [.int y0]) := by
  obtain ⟨⟨hx, hb, hml, hown, hts⟩, hr, hlocks, hK, hJ, hAA⟩ := id X
  intro u x2 x3 x4 x5 x6 x7 y0 H locs ls h w hl
  unfold wX3_pick_b73 at h
  refine lv_istore (pc := 73) (lv' := [(8, .int y0), (0, .ref (ad 1)), (2, .int x2), (3, .int x3), (4, .int x4), (5, .int x5), (6, .int x6), (7, .int x7)]) hx hb dX3_pick_73 hl (by decide) rfl (fun ls hl => ?_)
  refine lv_iload (pc := 75) hx hb dX3_pick_75 (lv_at hl 0 rfl) ?_
  refine lv_if_eq (pc := 77) (tgt := 117) hx hb dX3_pick_77 (by decide) (fun c_ => ?_) (fun c_ => ?_)
  · have h := h.1 c_
    refine bX3_pick_117 X ?_ u x2 x3 x4 x5 H locs ls h w (lv_sub hl [1, 2, 3, 4, 5] rfl)
    · intro u x2 x3 x4 x5 H locs ls h w hl
      exact hk19 u x2 x3 x4 x5 H locs ls h w (lv_sub hl [0, 1, 2, 3, 4] rfl)
  · have h := h.2 c_
    refine lv_aload_n (pc := 80) hx hb dX3_pick_80 rfl (lv_at hl 1 rfl) ?_
    refine Cgf_1_7 (pc := 81) X w kw79 dX3_pick_81 ?_
    refine lv_iload (pc := 84) hx hb dX3_pick_84 (lv_at hl 6 rfl) ?_
    refine Cld_9 (pc := 86) X w h.1 dX3_pick_86 ?_
    have h := h.2
    refine lv_iconst (pc := 87) (v := (-1 : Int32)) hx hb dX3_pick_87 (by decide) ?_
    refine lv_icmp_eq (pc := 88) (tgt := 108) hx hb dX3_pick_88 (by decide) (fun c_ => ?_) (fun c_ => ?_)
    · have h := h.1 c_
      refine bX3_pick_108 X ?_ u x2 x3 x4 x5 x6 H locs ls h w (lv_sub hl [1, 2, 3, 4, 5, 6] rfl)
      · intro u x2 x3 x4 x5 H locs ls h w hl
        refine bX3_pick_117 X ?_ u x2 x3 x4 x5 H locs ls h w (lv_sub hl [0, 1, 2, 3, 4] rfl)
        · intro u x2 x3 x4 x5 H locs ls h w hl
          exact hk19 u x2 x3 x4 x5 H locs ls h w (lv_sub hl [0, 1, 2, 3, 4] rfl)
    · have h := h.2 c_
      refine lv_iload (pc := 91) hx hb dX3_pick_91 (lv_at hl 7 rfl) ?_
      refine lv_aload_n (pc := 93) hx hb dX3_pick_93 rfl (lv_at hl 1 rfl) ?_
      refine Cgf_1_4 (pc := 94) X w kw76 dX3_pick_94 ?_
      refine lv_aload_n (pc := 97) hx hb dX3_pick_97 rfl (lv_at hl 1 rfl) ?_
      refine Cgf_1_7 (pc := 98) X w kw79 dX3_pick_98 ?_
      refine lv_iload (pc := 101) hx hb dX3_pick_101 (lv_at hl 6 rfl) ?_
      refine Cld_9 (pc := 103) X w h.1 dX3_pick_103 ?_
      have h := h.2
      refine Cld_6 (pc := 104) X w h.1 dX3_pick_104 ?_
      have h := h.2
      refine lv_icmp_le (pc := 105) (tgt := 117) hx hb dX3_pick_105 (by decide) (fun c_ => ?_) (fun c_ => ?_)
      · have h := h.1 c_
        refine bX3_pick_117 X ?_ u x2 x3 x4 x5 H locs ls h w (lv_sub hl [1, 2, 3, 4, 5] rfl)
        · intro u x2 x3 x4 x5 H locs ls h w hl
          exact hk19 u x2 x3 x4 x5 H locs ls h w (lv_sub hl [0, 1, 2, 3, 4] rfl)
      · have h := h.2 c_
        refine bX3_pick_108 X ?_ u x2 x3 x4 x5 x6 H locs ls h w (lv_sub hl [1, 2, 3, 4, 5, 6] rfl)
        · intro u x2 x3 x4 x5 H locs ls h w hl
          refine bX3_pick_117 X ?_ u x2 x3 x4 x5 H locs ls h w (lv_sub hl [0, 1, 2, 3, 4] rfl)
          · intro u x2 x3 x4 x5 H locs ls h w hl
            exact hk19 u x2 x3 x4 x5 H locs ls h w (lv_sub hl [0, 1, 2, 3, 4] rfl)
set_option maxHeartbeats 4000000 in
set_option maxRecDepth 100000 in
theorem bX3_pick_19 {l : Launch} {p : Program} {e : Env} {s : State} {m : MethodId} {args : Array Value} {below : List Frame} {meth : Method} {c : Code} {D : va_G} {g : Nat → ClassId} {ad : Nat → Nat} {Q : Mm → Prop} (X : CX p s m args meth c cX3_pick RX3 9 none (Cond.code yX3_pick cX3_pick 9 none) D g ad (CA ad)) : ∀ (n : Nat) (u : Mm) (x2 : Int32) (x3 : Int32) (x4 : Int32) (x5 : Int32) (H : Heap) (locs : List Loc) (ls : Array Slot), wX3_pick_b19 Q n u x2 x3 x4 x5 → CWd D g ad (CA ad) s u H locs → lv_has ls 9 [(0, .ref (ad 1)), (2, .int x2), (3, .int x3), (4, .int x4), (5, .int x5)] → W p l e ({ frames := 1, cells := 0, slots := 0, locals := 23 } : Room) s m args below meth c H locs 0 0 (MQ below (va_Qv Q (CB D g ad) (CA ad)) args s 0 0 (CA ad)) (F0 m 19 ls []) := by
  obtain ⟨⟨hx, hb, hml, hown, hts⟩, hr, hlocks, hK, hJ, hAA⟩ := id X
  intro n
  induction n with
  | zero =>
    intro u x2 x3 x4 x5 H locs ls h
    exact False.elim h
  | succ n ih =>
    intro u x2 x3 x4 x5 H locs ls h w hl
    unfold wX3_pick_b19 at h
    refine lv_iload (pc := 19) hx hb dX3_pick_19 (lv_at hl 4 rfl) ?_
    refine lv_bipush (pc := 21) (v := (80 : Int32)) hx hb dX3_pick_21 (by decide) ?_
    refine lv_icmp_ge (pc := 23) (tgt := 132) hx hb dX3_pick_23 (by decide) (fun c_ => ?_) (fun c_ => ?_)
    · have h := h.1 c_
      exact Cvret (pc := 132) X w h dX3_pick_132
    · have h := h.2 c_
      refine lv_iload (pc := 26) hx hb dX3_pick_26 (lv_at hl 3 rfl) ?_
      refine lv_iconst (pc := 28) (v := (-1 : Int32)) hx hb dX3_pick_28 (by decide) ?_
      refine lv_icmp_eq (pc := 29) (tgt := 132) hx hb dX3_pick_29 (by decide) (fun c_ => ?_) (fun c_ => ?_)
      · have h := h.1 c_
        exact Cvret (pc := 132) X w h dX3_pick_132
      · have h := h.2 c_
        refine lv_aload_n (pc := 32) hx hb dX3_pick_32 rfl (lv_at hl 0 rfl) ?_
        refine Cgf_1_1 (pc := 33) X w kw73 dX3_pick_33 ?_
        refine lv_iload (pc := 36) hx hb dX3_pick_36 (lv_at hl 3 rfl) ?_
        refine Cld_3 (pc := 38) X w h.1 dX3_pick_38 ?_
        have h := h.2
        refine lv_topi (fun x6_1 e_ => ?_)
        have h := h x6_1 e_
        refine lv_istore (pc := 39) (lv' := [(6, .int x6_1), (0, .ref (ad 1)), (2, .int x2), (3, .int x3), (4, .int x4), (5, .int x5)]) hx hb dX3_pick_39 hl (by decide) rfl (fun ls hl => ?_)
        refine lv_aload_n (pc := 41) hx hb dX3_pick_41 rfl (lv_at hl 1 rfl) ?_
        refine Cgf_1_4 (pc := 42) X w kw76 dX3_pick_42 ?_
        refine lv_iload (pc := 45) hx hb dX3_pick_45 (lv_at hl 4 rfl) ?_
        refine Cld_6 (pc := 47) X w h.1 dX3_pick_47 ?_
        have h := h.2
        refine lv_topi (fun x7_2 e_ => ?_)
        have h := h x7_2 e_
        refine lv_istore (pc := 48) (lv' := [(7, .int x7_2), (6, .int x6_1), (0, .ref (ad 1)), (2, .int x2), (3, .int x3), (4, .int x4), (5, .int x5)]) hx hb dX3_pick_48 hl (by decide) rfl (fun ls hl => ?_)
        refine lv_iload (pc := 50) hx hb dX3_pick_50 (lv_at hl 0 rfl) ?_
        refine lv_iload_n (pc := 52) hx hb dX3_pick_52 rfl (lv_at hl 3 rfl) ?_
        refine lv_icmp_lt (pc := 53) (tgt := 68) hx hb dX3_pick_53 (by decide) (fun c_ => ?_) (fun c_ => ?_)
        · have h := h.1 c_
          refine lv_iconst (pc := 68) (v := (1 : Int32)) hx hb dX3_pick_68 (by decide) ?_
          refine lv_goto (pc := 69) (tgt := 73) hx hb dX3_pick_69 (by decide) ?_
          refine bX3_pick_73 X ?_ u x2 x3 x4 x5 x6_1 x7_2 (1 : Int32) H locs ls h w (lv_sub hl [2, 3, 4, 5, 6, 1, 0] rfl)
          · intro u x2 x3 x4 x5 H locs ls h w hl
            exact ih u x2 x3 x4 x5 H locs ls h w (lv_sub hl [0, 1, 2, 3, 4] rfl)
        · have h := h.2 c_
          refine lv_iload (pc := 56) hx hb dX3_pick_56 (lv_at hl 0 rfl) ?_
          refine lv_iload_n (pc := 58) hx hb dX3_pick_58 rfl (lv_at hl 3 rfl) ?_
          refine lv_icmp_ne (pc := 59) (tgt := 72) hx hb dX3_pick_59 (by decide) (fun c_ => ?_) (fun c_ => ?_)
          · have h := h.2 c_
            refine lv_iconst (pc := 72) (v := (0 : Int32)) hx hb dX3_pick_72 (by decide) ?_
            refine bX3_pick_73 X ?_ u x2 x3 x4 x5 x6_1 x7_2 (0 : Int32) H locs ls h w (lv_sub hl [2, 3, 4, 5, 6, 1, 0] rfl)
            · intro u x2 x3 x4 x5 H locs ls h w hl
              exact ih u x2 x3 x4 x5 H locs ls h w (lv_sub hl [0, 1, 2, 3, 4] rfl)
          · have h := h.1 c_
            refine lv_iload (pc := 62) hx hb dX3_pick_62 (lv_at hl 1 rfl) ?_
            refine lv_iload_n (pc := 64) hx hb dX3_pick_64 rfl (lv_at hl 4 rfl) ?_
            refine lv_icmp_gt (pc := 65) (tgt := 72) hx hb dX3_pick_65 (by decide) (fun c_ => ?_) (fun c_ => ?_)
            · have h := h.1 c_
              refine lv_iconst (pc := 72) (v := (0 : Int32)) hx hb dX3_pick_72 (by decide) ?_
              refine bX3_pick_73 X ?_ u x2 x3 x4 x5 x6_1 x7_2 (0 : Int32) H locs ls h w (lv_sub hl [2, 3, 4, 5, 6, 1, 0] rfl)
              · intro u x2 x3 x4 x5 H locs ls h w hl
                exact ih u x2 x3 x4 x5 H locs ls h w (lv_sub hl [0, 1, 2, 3, 4] rfl)
            · have h := h.2 c_
              refine lv_iconst (pc := 68) (v := (1 : Int32)) hx hb dX3_pick_68 (by decide) ?_
              refine lv_goto (pc := 69) (tgt := 73) hx hb dX3_pick_69 (by decide) ?_
              refine bX3_pick_73 X ?_ u x2 x3 x4 x5 x6_1 x7_2 (1 : Int32) H locs ls h w (lv_sub hl [2, 3, 4, 5, 6, 1, 0] rfl)
              · intro u x2 x3 x4 x5 H locs ls h w hl
                exact ih u x2 x3 x4 x5 H locs ls h w (lv_sub hl [0, 1, 2, 3, 4] rfl)
set_option maxHeartbeats 4000000 in
set_option maxRecDepth 100000 in
theorem okX3_pick (l : Launch) {D : va_G} {g : Nat → ClassId} {ad : Nat → Nat} (hJ : CJ ad) {u : Mm} {a1 : Int32} {a2 : Int32} {a3 : Int32} {Q : Mm → Prop} (h : wX3_pick u a1 a2 a3 Q) : Met l yX3_pick (Cond.code yX3_pick cX3_pick 9 none :: gt) ({ frames := 1, cells := 0, slots := 0, locals := 23 } : Room) (CPc D g ad u [.ref (ad 1), .int a1, .int a2, .int a3]) (va_Qv Q (CB D g ad) (CA ad)) 0 0 (CA ad) := by
  refine Met.ofW (cc := cX3_pick) (maxL := 9) (ret := none) (by decide) rfl ?_
  intro p e s m args below meth c s₁ B hml hv
  refine Centry (own := RX3) B hml hv hJ rfl (Nat.le_of_ble_eq_true rfl) (fun ls H locs X w hl => ?_)
  obtain ⟨⟨hx, hb, hml, hown, hts⟩, hr, hlocks, hK, hJ, hAA⟩ := id X
  have hl : lv_has ls 9 [(0, .ref (ad 1)), (1, .int a1), (2, .int a2), (3, .int a3)] := hl
  unfold wX3_pick at h
  refine lv_aload_n (pc := 0) hx hb dX3_pick_0 rfl (lv_at hl 0 rfl) ?_
  refine Cgf_1_7 (pc := 1) X w kw79 dX3_pick_1 ?_
  refine lv_iconst (pc := 4) (v := (-1 : Int32)) hx hb dX3_pick_4 (by decide) ?_
  refine Ccallv (rest := []) (CrunS (pc := 5) X w (okJ7_fill_53178_i9 l hJ h) kw80 kmJ7_fill_53178 ⟨rfl, rfl⟩ ⟨by decide, by decide⟩ rfl hl.1 rfl (Nat.le_of_ble_eq_true rfl) dX3_pick_5) w (fun u2 H locs h w => ?_)
  refine lv_aload_n (pc := 8) hx hb dX3_pick_8 rfl (lv_at hl 0 rfl) ?_
  refine Cgf_1_5 (pc := 9) X w kw78 dX3_pick_9 ?_
  refine lv_iload_n (pc := 12) hx hb dX3_pick_12 rfl (lv_at hl 1 rfl) ?_
  refine Cld_7 (pc := 13) X w h.1 dX3_pick_13 ?_
  have h := h.2
  refine lv_topi (fun x4_3 e_ => ?_)
  have h := h x4_3 e_
  refine lv_istore (pc := 14) (lv' := [(4, .int x4_3), (0, .ref (ad 1)), (1, .int a1), (2, .int a2), (3, .int a3)]) hx hb dX3_pick_14 hl (by decide) rfl (fun ls hl => ?_)
  refine lv_iconst (pc := 16) (v := (0 : Int32)) hx hb dX3_pick_16 (by decide) ?_
  refine lv_istore (pc := 17) (lv' := [(5, .int (0 : Int32)), (4, .int x4_3), (0, .ref (ad 1)), (1, .int a1), (2, .int a2), (3, .int a3)]) hx hb dX3_pick_17 hl (by decide) rfl (fun ls hl => ?_)
  obtain ⟨n9, h⟩ := h
  exact bX3_pick_19 X n9 u2 a2 a3 x4_3 (0 : Int32) H locs ls h w (lv_sub hl [2, 4, 5, 1, 0] rfl)
set_option maxHeartbeats 4000000 in
set_option maxRecDepth 100000 in
theorem bX3_tally_34 {l : Launch} {p : Program} {e : Env} {s : State} {m : MethodId} {args : Array Value} {below : List Frame} {meth : Method} {c : Code} {D : va_G} {g : Nat → ClassId} {ad : Nat → Nat} {Q : Mm → Prop} (X : CX p s m args meth c cX3_tally RX3 6 none (Cond.code yX3_tally cX3_tally 6 none) D g ad (CA ad)) : ∀ (n : Nat) (u : Mm) (x4 : Int32) (x5 : Int32) (H : Heap) (locs : List Loc) (ls : Array Slot), wX3_tally_b34 Q n u x4 x5 → CWd D g ad (CA ad) s u H locs → lv_has ls 6 [(0, .ref (ad 1)), (4, .int x4), (5, .int x5)] → W p l e ({ frames := 2, cells := 0, slots := 0, locals := 51 } : Room) s m args below meth c H locs 0 0 (MQ below (va_Qv Q (CB D g ad) (CA ad)) args s 0 0 (CA ad)) (F0 m 34 ls []) := by
  obtain ⟨⟨hx, hb, hml, hown, hts⟩, hr, hlocks, hK, hJ, hAA⟩ := id X
  intro n
  induction n with
  | zero =>
    intro u x4 x5 H locs ls h
    exact False.elim h
  | succ n ih =>
    intro u x4 x5 H locs ls h w hl
    unfold wX3_tally_b34 at h
    refine lv_iload (pc := 34) hx hb dX3_tally_34 (lv_at hl 2 rfl) ?_
    refine lv_bipush (pc := 36) (v := (10 : Int32)) hx hb dX3_tally_36 (by decide) ?_
    refine lv_icmp_ge (pc := 38) (tgt := 99) hx hb dX3_tally_38 (by decide) (fun c_ => ?_) (fun c_ => ?_)
    · have h := h.1 c_
      refine lv_aload_n (pc := 99) hx hb dX3_tally_99 rfl (lv_at hl 0 rfl) ?_
      refine Cgf_1_10 (pc := 100) X w kw84 dX3_tally_100 ?_
      refine lv_if_le (pc := 103) (tgt := 126) hx hb dX3_tally_103 (by decide) (fun c_ => ?_) (fun c_ => ?_)
      · have h := h.1 c_
        exact Cvret (pc := 126) X w h dX3_tally_126
      · have h := h.2 c_
        refine lv_aload_n (pc := 106) hx hb dX3_tally_106 rfl (lv_at hl 0 rfl) ?_
        refine lv_iconst (pc := 107) (v := (2 : Int32)) hx hb dX3_tally_107 (by decide) ?_
        refine lv_iload (pc := 108) hx hb dX3_tally_108 (lv_at hl 1 rfl) ?_
        refine lv_imul (pc := 110) hx hb dX3_tally_110 ?_
        refine lv_aload_n (pc := 111) hx hb dX3_tally_111 rfl (lv_at hl 0 rfl) ?_
        refine Cgf_1_10 (pc := 112) X w kw84 dX3_tally_112 ?_
        refine lv_iadd (pc := 115) hx hb dX3_tally_115 ?_
        refine lv_iconst (pc := 116) (v := (2 : Int32)) hx hb dX3_tally_116 (by decide) ?_
        refine lv_aload_n (pc := 117) hx hb dX3_tally_117 rfl (lv_at hl 0 rfl) ?_
        refine Cgf_1_10 (pc := 118) X w kw84 dX3_tally_118 ?_
        refine lv_imul (pc := 121) hx hb dX3_tally_121 ?_
        refine lv_idiv (pc := 122) hx hb dX3_tally_122 h.1 ?_
        have h := h.2
        refine Cpf_1_11 (pc := 123) X w kw85 dX3_tally_123 (fun H locs w => ?_)
        obtain ⟨u1, e_⟩ : ∃ y : Mm, y = s32 u 127 0 ((((2 : Int32) * x4) + (u.1 126 0)) / ((2 : Int32) * (u.1 126 0))) := ⟨_, rfl⟩
        rw [← e_] at w
        have h := h u1 e_
        exact Cvret (pc := 126) X w h dX3_tally_126
    · have h := h.2 c_
      refine lv_aload_n (pc := 41) hx hb dX3_tally_41 rfl (lv_at hl 0 rfl) ?_
      refine Cgf_1_7 (pc := 42) X w kw79 dX3_tally_42 ?_
      refine lv_iload (pc := 45) hx hb dX3_tally_45 (lv_at hl 2 rfl) ?_
      refine Cld_9 (pc := 47) X w h.1 dX3_tally_47 ?_
      have h := h.2
      refine lv_iconst (pc := 48) (v := (-1 : Int32)) hx hb dX3_tally_48 (by decide) ?_
      refine lv_icmp_eq (pc := 49) (tgt := 93) hx hb dX3_tally_49 (by decide) (fun c_ => ?_) (fun c_ => ?_)
      · have h := h.1 c_
        obtain ⟨x5_2, e_⟩ : ∃ y : Int32, y = x5 + (1 : Int32) := ⟨_, rfl⟩
        have h := h x5_2 e_
        refine lv_iinc (pc := 93) (v := x5_2) (lv' := [(5, .int x5_2), (0, .ref (ad 1)), (4, .int x4)]) hx hb dX3_tally_93 hl (k := 2) rfl (by rw [e_]; rfl) (by decide) rfl (fun ls hl => ?_)
        refine lv_goto (pc := 96) (tgt := 34) hx hb dX3_tally_96 (by decide) ?_
        exact ih u x4 x5_2 H locs ls h w (lv_sub hl [1, 2, 0] rfl)
      · have h := h.2 c_
        refine lv_aload_n (pc := 52) hx hb dX3_tally_52 rfl (lv_at hl 0 rfl) ?_
        refine lv_dup (pc := 53) hx hb dX3_tally_53 rfl ?_
        refine Cgf_1_10 (pc := 54) X w kw84 dX3_tally_54 ?_
        refine lv_aload_n (pc := 57) hx hb dX3_tally_57 rfl (lv_at hl 0 rfl) ?_
        refine Cgf_1_0 (pc := 58) X w kw91 dX3_tally_58 ?_
        refine lv_iload (pc := 61) hx hb dX3_tally_61 (lv_at hl 2 rfl) ?_
        refine Cld_2 (pc := 63) X w h.1 dX3_tally_63 ?_
        have h := h.2
        refine lv_iadd (pc := 64) hx hb dX3_tally_64 ?_
        refine Cpf_1_10 (pc := 65) X w kw84 dX3_tally_65 (fun H locs w => ?_)
        obtain ⟨u3, e_⟩ : ∃ y : Mm, y = s32 u 126 0 ((u.1 126 0) + (u.1 2 x5.toNatClampNeg)) := ⟨_, rfl⟩
        rw [← e_] at w
        have h := h u3 e_
        refine lv_iload (pc := 68) hx hb dX3_tally_68 (lv_at hl 1 rfl) ?_
        refine lv_aload_n (pc := 70) hx hb dX3_tally_70 rfl (lv_at hl 0 rfl) ?_
        refine Cgf_1_0 (pc := 71) X w kw91 dX3_tally_71 ?_
        refine lv_iload (pc := 74) hx hb dX3_tally_74 (lv_at hl 2 rfl) ?_
        refine Cld_2 (pc := 76) X w h.1 dX3_tally_76 ?_
        have h := h.2
        refine lv_aload_n (pc := 77) hx hb dX3_tally_77 rfl (lv_at hl 0 rfl) ?_
        refine Cgf_1_3 (pc := 78) X w kw75 dX3_tally_78 ?_
        refine lv_aload_n (pc := 81) hx hb dX3_tally_81 rfl (lv_at hl 0 rfl) ?_
        refine Cgf_1_7 (pc := 82) X w kw79 dX3_tally_82 ?_
        refine lv_iload (pc := 85) hx hb dX3_tally_85 (lv_at hl 2 rfl) ?_
        refine Cld_9 (pc := 87) X w h.1 dX3_tally_87 ?_
        have h := h.2
        refine Cld_5 (pc := 88) X w h.1 dX3_tally_88 ?_
        have h := h.2
        refine lv_imul (pc := 89) hx hb dX3_tally_89 ?_
        refine lv_iadd (pc := 90) hx hb dX3_tally_90 ?_
        refine lv_topi (fun x4_4 e_ => ?_)
        have h := h x4_4 e_
        refine lv_istore (pc := 91) (lv' := [(4, .int x4_4), (0, .ref (ad 1)), (5, .int x5)]) hx hb dX3_tally_91 hl (by decide) rfl (fun ls hl => ?_)
        obtain ⟨x5_5, e_⟩ : ∃ y : Int32, y = x5 + (1 : Int32) := ⟨_, rfl⟩
        have h := h x5_5 e_
        refine lv_iinc (pc := 93) (v := x5_5) (lv' := [(5, .int x5_5), (4, .int x4_4), (0, .ref (ad 1))]) hx hb dX3_tally_93 hl (k := 2) rfl (by rw [e_]; rfl) (by decide) rfl (fun ls hl => ?_)
        refine lv_goto (pc := 96) (tgt := 34) hx hb dX3_tally_96 (by decide) ?_
        exact ih u3 x4_4 x5_5 H locs ls h w (lv_sub hl [2, 1, 0] rfl)
set_option maxHeartbeats 4000000 in
set_option maxRecDepth 100000 in
theorem okX3_tally (l : Launch) {D : va_G} {g : Nat → ClassId} {ad : Nat → Nat} (hJ : CJ ad) {u : Mm} {a1 : Int32} {a2 : Int32} {a3 : Int32} {Q : Mm → Prop} (h : wX3_tally u a1 a2 a3 Q) : Met l yX3_tally (Cond.code yX3_tally cX3_tally 6 none :: gt) ({ frames := 2, cells := 0, slots := 0, locals := 51 } : Room) (CPc D g ad u [.ref (ad 1), .int a1, .int a2, .int a3]) (va_Qv Q (CB D g ad) (CA ad)) 0 0 (CA ad) := by
  refine Met.ofW (cc := cX3_tally) (maxL := 6) (ret := none) (by decide) rfl ?_
  intro p e s m args below meth c s₁ B hml hv
  refine Centry (own := RX3) B hml hv hJ rfl (Nat.le_of_ble_eq_true rfl) (fun ls H locs X w hl => ?_)
  obtain ⟨⟨hx, hb, hml, hown, hts⟩, hr, hlocks, hK, hJ, hAA⟩ := id X
  have hl : lv_has ls 6 [(0, .ref (ad 1)), (1, .int a1), (2, .int a2), (3, .int a3)] := hl
  unfold wX3_tally at h
  refine lv_aload_n (pc := 0) hx hb dX3_tally_0 rfl (lv_at hl 0 rfl) ?_
  refine lv_iconst (pc := 1) (v := (0 : Int32)) hx hb dX3_tally_1 (by decide) ?_
  refine Cpf_1_10 (pc := 2) X w kw84 dX3_tally_2 (fun H locs w => ?_)
  obtain ⟨u1, e_⟩ : ∃ y : Mm, y = s32 u 126 0 (0 : Int32) := ⟨_, rfl⟩
  rw [← e_] at w
  have h := h u1 e_
  refine lv_aload_n (pc := 5) hx hb dX3_tally_5 rfl (lv_at hl 0 rfl) ?_
  refine lv_iconst (pc := 6) (v := (0 : Int32)) hx hb dX3_tally_6 (by decide) ?_
  refine Cpf_1_11 (pc := 7) X w kw85 dX3_tally_7 (fun H locs w => ?_)
  obtain ⟨u2, e_⟩ : ∃ y : Mm, y = s32 u1 127 0 (0 : Int32) := ⟨_, rfl⟩
  rw [← e_] at w
  have h := h u2 e_
  refine lv_aload_n (pc := 10) hx hb dX3_tally_10 rfl (lv_at hl 0 rfl) ?_
  refine Cgf_1_5 (pc := 11) X w kw78 dX3_tally_11 ?_
  refine lv_iload_n (pc := 14) hx hb dX3_tally_14 rfl (lv_at hl 1 rfl) ?_
  refine Cld_7 (pc := 15) X w h.1 dX3_tally_15 ?_
  have h := h.2
  refine lv_iconst (pc := 16) (v := (-1 : Int32)) hx hb dX3_tally_16 (by decide) ?_
  refine lv_icmp_ne (pc := 17) (tgt := 21) hx hb dX3_tally_17 (by decide) (fun c_ => ?_) (fun c_ => ?_)
  · have h := h.2 c_
    refine lv_aload_n (pc := 21) hx hb dX3_tally_21 rfl (lv_at hl 0 rfl) ?_
    refine lv_iload_n (pc := 22) hx hb dX3_tally_22 rfl (lv_at hl 1 rfl) ?_
    refine lv_iload_n (pc := 23) hx hb dX3_tally_23 rfl (lv_at hl 2 rfl) ?_
    refine lv_iload_n (pc := 24) hx hb dX3_tally_24 rfl (lv_at hl 3 rfl) ?_
    refine Ccallv (rest := []) (CrunV (pc := 25) X w (okX3_pick l hJ h) kw86 kmX3_pick ⟨rfl, rfl⟩ ⟨by decide, by decide⟩ (Crv_1 X w) rfl hl.1 rfl (Nat.le_of_ble_eq_true rfl) dX3_tally_25) w (fun u4 H locs h w => ?_)
    refine lv_iconst (pc := 28) (v := (0 : Int32)) hx hb dX3_tally_28 (by decide) ?_
    refine lv_istore (pc := 29) (lv' := [(4, .int (0 : Int32)), (0, .ref (ad 1)), (1, .int a1), (2, .int a2), (3, .int a3)]) hx hb dX3_tally_29 hl (by decide) rfl (fun ls hl => ?_)
    refine lv_iconst (pc := 31) (v := (0 : Int32)) hx hb dX3_tally_31 (by decide) ?_
    refine lv_istore (pc := 32) (lv' := [(5, .int (0 : Int32)), (4, .int (0 : Int32)), (0, .ref (ad 1)), (1, .int a1), (2, .int a2), (3, .int a3)]) hx hb dX3_tally_32 hl (by decide) rfl (fun ls hl => ?_)
    obtain ⟨n9, h⟩ := h
    exact bX3_tally_34 X n9 u4 (0 : Int32) (0 : Int32) H locs ls h w (lv_sub hl [2, 1, 0] rfl)
  · have h := h.1 c_
    exact Cvret (pc := 20) X w h dX3_tally_20
set_option maxHeartbeats 4000000 in
set_option maxRecDepth 100000 in
theorem okX3_meanWith (l : Launch) {D : va_G} {g : Nat → ClassId} {ad : Nat → Nat} (hJ : CJ ad) {u : Mm} {a1 : Int32} {a2 : Int32} {a3 : Int32} {Q : Int64 → Mm → Prop} (h : wX3_meanWith u a1 a2 a3 Q) : Met l yX3_meanWith (Cond.code yX3_meanWith cX3_meanWith 4 (some .long) :: gt) ({ frames := 3, cells := 0, slots := 0, locals := 76 } : Room) (CPc D g ad u [.ref (ad 1), .int a1, .int a2, .int a3]) (va_Ql Q (CB D g ad) (CA ad)) 0 0 (CA ad) := by
  refine Met.ofW (cc := cX3_meanWith) (maxL := 4) (ret := (some .long)) (by decide) rfl ?_
  intro p e s m args below meth c s₁ B hml hv
  refine Centry (own := RX3) B hml hv hJ rfl (Nat.le_of_ble_eq_true rfl) (fun ls H locs X w hl => ?_)
  obtain ⟨⟨hx, hb, hml, hown, hts⟩, hr, hlocks, hK, hJ, hAA⟩ := id X
  have hl : lv_has ls 4 [(0, .ref (ad 1)), (1, .int a1), (2, .int a2), (3, .int a3)] := hl
  unfold wX3_meanWith at h
  refine lv_aload_n (pc := 0) hx hb dX3_meanWith_0 rfl (lv_at hl 0 rfl) ?_
  refine lv_iload_n (pc := 1) hx hb dX3_meanWith_1 rfl (lv_at hl 1 rfl) ?_
  refine lv_iload_n (pc := 2) hx hb dX3_meanWith_2 rfl (lv_at hl 2 rfl) ?_
  refine lv_iload_n (pc := 3) hx hb dX3_meanWith_3 rfl (lv_at hl 3 rfl) ?_
  refine Ccallv (rest := []) (CrunV (pc := 4) X w (okX3_tally l hJ h) kw92 kmX3_tally ⟨rfl, rfl⟩ ⟨by decide, by decide⟩ (Crv_1 X w) rfl hl.1 rfl (Nat.le_of_ble_eq_true rfl) dX3_meanWith_4) w (fun u2 H locs h w => ?_)
  refine lv_aload_n (pc := 7) hx hb dX3_meanWith_7 rfl (lv_at hl 0 rfl) ?_
  refine Cgf_1_11 (pc := 8) X w kw85 dX3_meanWith_8 ?_
  refine lv_i2l (pc := 11) hx hb dX3_meanWith_11 rfl ?_
  exact Clret (pc := 12) X w h dX3_meanWith_12
set_option maxHeartbeats 4000000 in
set_option maxRecDepth 100000 in
theorem okX3_isCounted (l : Launch) {D : va_G} {g : Nat → ClassId} {ad : Nat → Nat} (hJ : CJ ad) {u : Mm} {a1 : Int32} {Q : Int32 → Mm → Prop} (h : wX3_isCounted u a1 Q) : Met l yX3_isCounted (Cond.code yX3_isCounted cX3_isCounted 2 (some .boolean) :: gt) ({ frames := 2, cells := 0, slots := 0, locals := 51 } : Room) (CPc D g ad u [.ref (ad 1), .int a1]) (va_Qi (fun r u1 => bz r ∧ Q r u1) (CB D g ad) (CA ad)) 0 0 (CA ad) := by
  refine Met.ofW (cc := cX3_isCounted) (maxL := 2) (ret := (some .boolean)) (by decide) rfl ?_
  intro p e s m args below meth c s₁ B hml hv
  refine Centry (own := RX3) B hml hv hJ rfl (Nat.le_of_ble_eq_true rfl) (fun ls H locs X w hl => ?_)
  obtain ⟨⟨hx, hb, hml, hown, hts⟩, hr, hlocks, hK, hJ, hAA⟩ := id X
  have hl : lv_has ls 2 [(0, .ref (ad 1)), (1, .int a1)] := hl
  unfold wX3_isCounted at h
  refine lv_aload_n (pc := 0) hx hb dX3_isCounted_0 rfl (lv_at hl 0 rfl) ?_
  refine lv_aload_n (pc := 1) hx hb dX3_isCounted_1 rfl (lv_at hl 0 rfl) ?_
  refine Cgf_1_2 (pc := 2) X w kw74 dX3_isCounted_2 ?_
  refine lv_iload_n (pc := 5) hx hb dX3_isCounted_5 rfl (lv_at hl 1 rfl) ?_
  refine Cld_4 (pc := 6) X w h.1 dX3_isCounted_6 ?_
  have h := h.2
  refine lv_aload_n (pc := 7) hx hb dX3_isCounted_7 rfl (lv_at hl 0 rfl) ?_
  refine Cgf_1_9 (pc := 8) X w kw96 dX3_isCounted_8 ?_
  refine lv_bipush (pc := 11) (v := (9 : Int32)) hx hb dX3_isCounted_11 (by decide) ?_
  refine Ccallv (rest := []) (CrunV (pc := 13) X w (okX3_pick l hJ h) kw86 kmX3_pick ⟨rfl, rfl⟩ ⟨by decide, by decide⟩ (Crv_1 X w) rfl hl.1 rfl (Nat.le_of_ble_eq_true rfl) dX3_isCounted_13) w (fun u2 H locs h w => ?_)
  refine lv_aload_n (pc := 16) hx hb dX3_isCounted_16 rfl (lv_at hl 0 rfl) ?_
  refine Cgf_1_7 (pc := 17) X w kw79 dX3_isCounted_17 ?_
  refine lv_aload_n (pc := 20) hx hb dX3_isCounted_20 rfl (lv_at hl 0 rfl) ?_
  refine Cgf_1_1 (pc := 21) X w kw73 dX3_isCounted_21 ?_
  refine lv_iload_n (pc := 24) hx hb dX3_isCounted_24 rfl (lv_at hl 1 rfl) ?_
  refine Cld_3 (pc := 25) X w h.1 dX3_isCounted_25 ?_
  have h := h.2
  refine Cld_9 (pc := 26) X w h.1 dX3_isCounted_26 ?_
  have h := h.2
  refine lv_iload_n (pc := 27) hx hb dX3_isCounted_27 rfl (lv_at hl 1 rfl) ?_
  refine lv_icmp_ne (pc := 28) (tgt := 35) hx hb dX3_isCounted_28 (by decide) (fun c_ => ?_) (fun c_ => ?_)
  · have h := h.2 c_
    refine lv_iconst (pc := 35) (v := (0 : Int32)) hx hb dX3_isCounted_35 (by decide) ?_
    exact Czret (pc := 36) X w rfl h dX3_isCounted_36
  · have h := h.1 c_
    refine lv_iconst (pc := 31) (v := (1 : Int32)) hx hb dX3_isCounted_31 (by decide) ?_
    refine lv_goto (pc := 32) (tgt := 36) hx hb dX3_isCounted_32 (by decide) ?_
    exact Czret (pc := 36) X w rfl h dX3_isCounted_36
set_option maxHeartbeats 4000000 in
set_option maxRecDepth 100000 in
theorem bX3_countedRows_4 {l : Launch} {p : Program} {e : Env} {s : State} {m : MethodId} {args : Array Value} {below : List Frame} {meth : Method} {c : Code} {D : va_G} {g : Nat → ClassId} {ad : Nat → Nat} {Q : Int32 → Mm → Prop} (X : CX p s m args meth c cX3_countedRows RX3 3 (some .int) (Cond.code yX3_countedRows cX3_countedRows 3 (some .int)) D g ad (CA ad)) : ∀ (n : Nat) (u : Mm) (x1 : Int32) (x2 : Int32) (H : Heap) (locs : List Loc) (ls : Array Slot), wX3_countedRows_b4 Q n u x1 x2 → CWd D g ad (CA ad) s u H locs → lv_has ls 3 [(0, .ref (ad 1)), (1, .int x1), (2, .int x2)] → W p l e ({ frames := 3, cells := 0, slots := 0, locals := 72 } : Room) s m args below meth c H locs 0 0 (MQ below (va_Qi Q (CB D g ad) (CA ad)) args s 0 0 (CA ad)) (F0 m 4 ls []) := by
  obtain ⟨⟨hx, hb, hml, hown, hts⟩, hr, hlocks, hK, hJ, hAA⟩ := id X
  intro n
  induction n with
  | zero =>
    intro u x1 x2 H locs ls h
    exact False.elim h
  | succ n ih =>
    intro u x1 x2 H locs ls h w hl
    unfold wX3_countedRows_b4 at h
    refine lv_iload_n (pc := 4) hx hb dX3_countedRows_4 rfl (lv_at hl 2 rfl) ?_
    refine lv_aload_n (pc := 5) hx hb dX3_countedRows_5 rfl (lv_at hl 0 rfl) ?_
    refine Cgf_1_8 (pc := 6) X w kw72 dX3_countedRows_6 ?_
    refine lv_icmp_ge (pc := 9) (tgt := 29) hx hb dX3_countedRows_9 (by decide) (fun c_ => ?_) (fun c_ => ?_)
    · have h := h.1 c_
      refine lv_iload_n (pc := 29) hx hb dX3_countedRows_29 rfl (lv_at hl 1 rfl) ?_
      exact Ciret (pc := 30) X w h dX3_countedRows_30
    · have h := h.2 c_
      refine lv_aload_n (pc := 12) hx hb dX3_countedRows_12 rfl (lv_at hl 0 rfl) ?_
      refine lv_iload_n (pc := 13) hx hb dX3_countedRows_13 rfl (lv_at hl 2 rfl) ?_
      refine Ccalli (rest := []) (CrunV (pc := 14) X w (okX3_isCounted l hJ h) kw97 kmX3_isCounted ⟨rfl, rfl⟩ ⟨by decide, by decide⟩ (Crv_1 X w) rfl hl.1 rfl (Nat.le_of_ble_eq_true rfl) dX3_countedRows_14) w (fun r1 u2 H locs h w => ?_)
      obtain ⟨hz_r1, h⟩ := h
      refine lv_if_eq (pc := 17) (tgt := 23) hx hb dX3_countedRows_17 (by decide) (fun c_ => ?_) (fun c_ => ?_)
      · have h := h.1 c_
        obtain ⟨x2_3, e_⟩ : ∃ y : Int32, y = x2 + (1 : Int32) := ⟨_, rfl⟩
        have h := h x2_3 e_
        refine lv_iinc (pc := 23) (v := x2_3) (lv' := [(2, .int x2_3), (0, .ref (ad 1)), (1, .int x1)]) hx hb dX3_countedRows_23 hl (k := 2) rfl (by rw [e_]; rfl) (by decide) rfl (fun ls hl => ?_)
        refine lv_goto (pc := 26) (tgt := 4) hx hb dX3_countedRows_26 (by decide) ?_
        exact ih u2 x1 x2_3 H locs ls h w (lv_sub hl [1, 2, 0] rfl)
      · have h := h.2 c_
        obtain ⟨x1_4, e_⟩ : ∃ y : Int32, y = x1 + (1 : Int32) := ⟨_, rfl⟩
        have h := h x1_4 e_
        refine lv_iinc (pc := 20) (v := x1_4) (lv' := [(1, .int x1_4), (0, .ref (ad 1)), (2, .int x2)]) hx hb dX3_countedRows_20 hl (k := 1) rfl (by rw [e_]; rfl) (by decide) rfl (fun ls hl => ?_)
        obtain ⟨x2_5, e_⟩ : ∃ y : Int32, y = x2 + (1 : Int32) := ⟨_, rfl⟩
        have h := h x2_5 e_
        refine lv_iinc (pc := 23) (v := x2_5) (lv' := [(2, .int x2_5), (1, .int x1_4), (0, .ref (ad 1))]) hx hb dX3_countedRows_23 hl (k := 2) rfl (by rw [e_]; rfl) (by decide) rfl (fun ls hl => ?_)
        refine lv_goto (pc := 26) (tgt := 4) hx hb dX3_countedRows_26 (by decide) ?_
        exact ih u2 x1_4 x2_5 H locs ls h w (lv_sub hl [2, 1, 0] rfl)
set_option maxHeartbeats 4000000 in
set_option maxRecDepth 100000 in
theorem okX3_countedRows (l : Launch) {D : va_G} {g : Nat → ClassId} {ad : Nat → Nat} (hJ : CJ ad) {u : Mm} {Q : Int32 → Mm → Prop} (h : wX3_countedRows u Q) : Met l yX3_countedRows (Cond.code yX3_countedRows cX3_countedRows 3 (some .int) :: gt) ({ frames := 3, cells := 0, slots := 0, locals := 72 } : Room) (CPc D g ad u [.ref (ad 1)]) (va_Qi Q (CB D g ad) (CA ad)) 0 0 (CA ad) := by
  refine Met.ofW (cc := cX3_countedRows) (maxL := 3) (ret := (some .int)) (by decide) rfl ?_
  intro p e s m args below meth c s₁ B hml hv
  refine Centry (own := RX3) B hml hv hJ rfl (Nat.le_of_ble_eq_true rfl) (fun ls H locs X w hl => ?_)
  obtain ⟨⟨hx, hb, hml, hown, hts⟩, hr, hlocks, hK, hJ, hAA⟩ := id X
  have hl : lv_has ls 3 [(0, .ref (ad 1))] := hl
  unfold wX3_countedRows at h
  refine lv_iconst (pc := 0) (v := (0 : Int32)) hx hb dX3_countedRows_0 (by decide) ?_
  refine lv_istore_n (pc := 1) (lv' := [(1, .int (0 : Int32)), (0, .ref (ad 1))]) hx hb dX3_countedRows_1 rfl hl (by decide) rfl (fun ls hl => ?_)
  refine lv_iconst (pc := 2) (v := (0 : Int32)) hx hb dX3_countedRows_2 (by decide) ?_
  refine lv_istore_n (pc := 3) (lv' := [(2, .int (0 : Int32)), (1, .int (0 : Int32)), (0, .ref (ad 1))]) hx hb dX3_countedRows_3 rfl hl (by decide) rfl (fun ls hl => ?_)
  obtain ⟨n9, h⟩ := h
  exact bX3_countedRows_4 X n9 u (0 : Int32) (0 : Int32) H locs ls h w (lv_sub hl [2, 1, 0] rfl)
set_option maxHeartbeats 4000000 in
set_option maxRecDepth 100000 in
theorem bX3_hasRow_48 {l : Launch} {p : Program} {e : Env} {s : State} {m : MethodId} {args : Array Value} {below : List Frame} {meth : Method} {c : Code} {D : va_G} {g : Nat → ClassId} {ad : Nat → Nat} {u : Mm} {Q : Int32 → Prop} {k11 : Int32 → Int32 → Int32 → Int32 → Prop} (X : CX p s m args meth c cX3_hasRow RX3 6 (some .boolean) (Cond.code yX3_hasRow cX3_hasRow 6 (some .boolean)) D g ad (CA ad)) (hk11 : ∀ (x2 : Int32) (x3 : Int32) (x4 : Int32) (x5 : Int32) (H : Heap) (locs : List Loc) (ls : Array Slot), k11 x2 x3 x4 x5 → CWd D g ad (CA ad) s u H locs → lv_has ls 6 [(0, .ref (ad 1)), (2, .int x2), (3, .int x3), (4, .int x4), (5, .int x5)] → W p l e ({ frames := 0, cells := 0, slots := 0, locals := 0 } : Room) s m args below meth c H locs 0 0 (MQ below (va_Qi (fun r u1 => bz r ∧ (u = u1 ∧ Q r)) (CB D g ad) (CA ad)) args s 0 0 (CA ad)) (F0 m 11 ls [])) : ∀ (x2 : Int32) (x3 : Int32) (x4 : Int32) (x5 : Int32) (H : Heap) (locs : List Loc) (ls : Array Slot), wX3_hasRow_b48 u k11 Q x2 x3 x4 x5 → CWd D g ad (CA ad) s u H locs → lv_has ls 6 [(0, .ref (ad 1)), (2, .int x2), (3, .int x3), (4, .int x4), (5, .int x5)] → W p l e ({ frames := 0, cells := 0, slots := 0, locals := 0 } : Room) s m args below meth c H locs 0 0 (MQ below (va_Qi (fun r u1 => bz r ∧ (u = u1 ∧ Q r)) (CB D g ad) (CA ad)) args s 0 0 (CA ad)) (F0 m 48 ls []) := by
  obtain ⟨⟨hx, hb, hml, hown, hts⟩, hr, hlocks, hK, hJ, hAA⟩ := id X
  intro x2 x3 x4 x5 H locs ls h w hl
  unfold wX3_hasRow_b48 at h
  refine lv_aload_n (pc := 48) hx hb dX3_hasRow_48 rfl (lv_at hl 0 rfl) ?_
  refine Cgf_1_6 (pc := 49) X w kw77 dX3_hasRow_49 ?_
  refine lv_iload (pc := 52) hx hb dX3_hasRow_52 (lv_at hl 3 rfl) ?_
  refine Cld_8 (pc := 54) X w h.1 dX3_hasRow_54 ?_
  have h := h.2
  refine lv_topi (fun x4_1 e_ => ?_)
  have h := h x4_1 e_
  refine lv_istore (pc := 55) (lv' := [(4, .int x4_1), (0, .ref (ad 1)), (2, .int x2), (3, .int x3), (5, .int x5)]) hx hb dX3_hasRow_55 hl (by decide) rfl (fun ls hl => ?_)
  obtain ⟨x5_2, e_⟩ : ∃ y : Int32, y = x5 + (1 : Int32) := ⟨_, rfl⟩
  have h := h x5_2 e_
  refine lv_iinc (pc := 57) (v := x5_2) (lv' := [(5, .int x5_2), (4, .int x4_1), (0, .ref (ad 1)), (2, .int x2), (3, .int x3)]) hx hb dX3_hasRow_57 hl (k := 4) rfl (by rw [e_]; rfl) (by decide) rfl (fun ls hl => ?_)
  refine lv_goto (pc := 60) (tgt := 11) hx hb dX3_hasRow_60 (by decide) ?_
  exact hk11 x2 x3 x4_1 x5_2 H locs ls h w (lv_sub hl [2, 3, 4, 1, 0] rfl)
set_option maxHeartbeats 4000000 in
set_option maxRecDepth 100000 in
theorem bX3_hasRow_11 {l : Launch} {p : Program} {e : Env} {s : State} {m : MethodId} {args : Array Value} {below : List Frame} {meth : Method} {c : Code} {D : va_G} {g : Nat → ClassId} {ad : Nat → Nat} {u : Mm} {Q : Int32 → Prop} (X : CX p s m args meth c cX3_hasRow RX3 6 (some .boolean) (Cond.code yX3_hasRow cX3_hasRow 6 (some .boolean)) D g ad (CA ad)) : ∀ (n : Nat) (x2 : Int32) (x3 : Int32) (x4 : Int32) (x5 : Int32) (H : Heap) (locs : List Loc) (ls : Array Slot), wX3_hasRow_b11 u Q n x2 x3 x4 x5 → CWd D g ad (CA ad) s u H locs → lv_has ls 6 [(0, .ref (ad 1)), (2, .int x2), (3, .int x3), (4, .int x4), (5, .int x5)] → W p l e ({ frames := 0, cells := 0, slots := 0, locals := 0 } : Room) s m args below meth c H locs 0 0 (MQ below (va_Qi (fun r u1 => bz r ∧ (u = u1 ∧ Q r)) (CB D g ad) (CA ad)) args s 0 0 (CA ad)) (F0 m 11 ls []) := by
  obtain ⟨⟨hx, hb, hml, hown, hts⟩, hr, hlocks, hK, hJ, hAA⟩ := id X
  intro n
  induction n with
  | zero =>
    intro x2 x3 x4 x5 H locs ls h
    exact False.elim h
  | succ n ih =>
    intro x2 x3 x4 x5 H locs ls h w hl
    unfold wX3_hasRow_b11 at h
    refine lv_iload (pc := 11) hx hb dX3_hasRow_11 (lv_at hl 4 rfl) ?_
    refine lv_bipush (pc := 13) (v := (80 : Int32)) hx hb dX3_hasRow_13 (by decide) ?_
    refine lv_icmp_ge (pc := 15) (tgt := 63) hx hb dX3_hasRow_15 (by decide) (fun c_ => ?_) (fun c_ => ?_)
    · have h := h.1 c_
      refine lv_iconst (pc := 63) (v := (0 : Int32)) hx hb dX3_hasRow_63 (by decide) ?_
      exact Czret (pc := 64) X w rfl ⟨rfl, h⟩ dX3_hasRow_64
    · have h := h.2 c_
      refine lv_iload (pc := 18) hx hb dX3_hasRow_18 (lv_at hl 3 rfl) ?_
      refine lv_iconst (pc := 20) (v := (-1 : Int32)) hx hb dX3_hasRow_20 (by decide) ?_
      refine lv_icmp_eq (pc := 21) (tgt := 63) hx hb dX3_hasRow_21 (by decide) (fun c_ => ?_) (fun c_ => ?_)
      · have h := h.1 c_
        refine lv_iconst (pc := 63) (v := (0 : Int32)) hx hb dX3_hasRow_63 (by decide) ?_
        exact Czret (pc := 64) X w rfl ⟨rfl, h⟩ dX3_hasRow_64
      · have h := h.2 c_
        refine lv_aload_n (pc := 24) hx hb dX3_hasRow_24 rfl (lv_at hl 0 rfl) ?_
        refine Cgf_1_1 (pc := 25) X w kw73 dX3_hasRow_25 ?_
        refine lv_iload (pc := 28) hx hb dX3_hasRow_28 (lv_at hl 3 rfl) ?_
        refine Cld_3 (pc := 30) X w h.1 dX3_hasRow_30 ?_
        have h := h.2
        refine lv_iload_n (pc := 31) hx hb dX3_hasRow_31 rfl (lv_at hl 1 rfl) ?_
        refine lv_icmp_ne (pc := 32) (tgt := 48) hx hb dX3_hasRow_32 (by decide) (fun c_ => ?_) (fun c_ => ?_)
        · have h := h.2 c_
          refine bX3_hasRow_48 X ?_ x2 x3 x4 x5 H locs ls h w (lv_sub hl [0, 1, 2, 3, 4] rfl)
          · intro x2 x3 x4 x5 H locs ls h w hl
            exact ih x2 x3 x4 x5 H locs ls h w (lv_sub hl [0, 1, 2, 3, 4] rfl)
        · have h := h.1 c_
          refine lv_aload_n (pc := 35) hx hb dX3_hasRow_35 rfl (lv_at hl 0 rfl) ?_
          refine Cgf_1_4 (pc := 36) X w kw76 dX3_hasRow_36 ?_
          refine lv_iload (pc := 39) hx hb dX3_hasRow_39 (lv_at hl 3 rfl) ?_
          refine Cld_6 (pc := 41) X w h.1 dX3_hasRow_41 ?_
          have h := h.2
          refine lv_iload_n (pc := 42) hx hb dX3_hasRow_42 rfl (lv_at hl 2 rfl) ?_
          refine lv_icmp_ne (pc := 43) (tgt := 48) hx hb dX3_hasRow_43 (by decide) (fun c_ => ?_) (fun c_ => ?_)
          · have h := h.2 c_
            refine bX3_hasRow_48 X ?_ x2 x3 x4 x5 H locs ls h w (lv_sub hl [0, 1, 2, 3, 4] rfl)
            · intro x2 x3 x4 x5 H locs ls h w hl
              exact ih x2 x3 x4 x5 H locs ls h w (lv_sub hl [0, 1, 2, 3, 4] rfl)
          · have h := h.1 c_
            refine lv_iconst (pc := 46) (v := (1 : Int32)) hx hb dX3_hasRow_46 (by decide) ?_
            exact Czret (pc := 47) X w rfl ⟨rfl, h⟩ dX3_hasRow_47
set_option maxHeartbeats 4000000 in
set_option maxRecDepth 100000 in
theorem okX3_hasRow (l : Launch) {D : va_G} {g : Nat → ClassId} {ad : Nat → Nat} (hJ : CJ ad) {u : Mm} {a1 : Int32} {a2 : Int32} {a3 : Int32} {Q : Int32 → Prop} (h : wX3_hasRow u a1 a2 a3 Q) : Met l yX3_hasRow (Cond.code yX3_hasRow cX3_hasRow 6 (some .boolean) :: gt) ({ frames := 0, cells := 0, slots := 0, locals := 0 } : Room) (CPc D g ad u [.ref (ad 1), .int a1, .int a2, .int a3]) (va_Qi (fun r u1 => bz r ∧ (u = u1 ∧ Q r)) (CB D g ad) (CA ad)) 0 0 (CA ad) := by
  refine Met.ofW (cc := cX3_hasRow) (maxL := 6) (ret := (some .boolean)) (by decide) rfl ?_
  intro p e s m args below meth c s₁ B hml hv
  refine Centry (own := RX3) B hml hv hJ rfl (Nat.le_of_ble_eq_true rfl) (fun ls H locs X w hl => ?_)
  obtain ⟨⟨hx, hb, hml, hown, hts⟩, hr, hlocks, hK, hJ, hAA⟩ := id X
  have hl : lv_has ls 6 [(0, .ref (ad 1)), (1, .int a1), (2, .int a2), (3, .int a3)] := hl
  unfold wX3_hasRow at h
  refine lv_aload_n (pc := 0) hx hb dX3_hasRow_0 rfl (lv_at hl 0 rfl) ?_
  refine Cgf_1_5 (pc := 1) X w kw78 dX3_hasRow_1 ?_
  refine lv_iload_n (pc := 4) hx hb dX3_hasRow_4 rfl (lv_at hl 1 rfl) ?_
  refine Cld_7 (pc := 5) X w h.1 dX3_hasRow_5 ?_
  have h := h.2
  refine lv_topi (fun x4_1 e_ => ?_)
  have h := h x4_1 e_
  refine lv_istore (pc := 6) (lv' := [(4, .int x4_1), (0, .ref (ad 1)), (1, .int a1), (2, .int a2), (3, .int a3)]) hx hb dX3_hasRow_6 hl (by decide) rfl (fun ls hl => ?_)
  refine lv_iconst (pc := 8) (v := (0 : Int32)) hx hb dX3_hasRow_8 (by decide) ?_
  refine lv_istore (pc := 9) (lv' := [(5, .int (0 : Int32)), (4, .int x4_1), (0, .ref (ad 1)), (1, .int a1), (2, .int a2), (3, .int a3)]) hx hb dX3_hasRow_9 hl (by decide) rfl (fun ls hl => ?_)
  obtain ⟨n9, h⟩ := h
  exact bX3_hasRow_11 X n9 a2 a3 x4_1 (0 : Int32) H locs ls h w (lv_sub hl [2, 4, 5, 1, 0] rfl)
set_option maxHeartbeats 4000000 in
set_option maxRecDepth 100000 in
theorem bX3_findStep_7 {l : Launch} {p : Program} {e : Env} {s : State} {m : MethodId} {args : Array Value} {below : List Frame} {meth : Method} {c : Code} {D : va_G} {g : Nat → ClassId} {ad : Nat → Nat} {u : Mm} {Q : Int32 → Prop} (X : CX p s m args meth c cX3_findStep RX3 7 (some .int) (Cond.code yX3_findStep cX3_findStep 7 (some .int)) D g ad (CA ad)) : ∀ (n : Nat) (x1 : Int32) (x3 : Int32) (x5 : Int32) (x6 : Int32) (H : Heap) (locs : List Loc) (ls : Array Slot), wX3_findStep_b7 u Q n x1 x3 x5 x6 → CWd D g ad (CA ad) s u H locs → lv_has ls 7 [(0, .ref (ad 1)), (1, .int x1), (3, .int x3), (5, .int x5), (6, .int x6)] → W p l e ({ frames := 1, cells := 0, slots := 0, locals := 25 } : Room) s m args below meth c H locs 0 0 (MQ below (va_Qi (fun r u1 => u = u1 ∧ Q r) (CB D g ad) (CA ad)) args s 0 0 (CA ad)) (F0 m 7 ls []) := by
  obtain ⟨⟨hx, hb, hml, hown, hts⟩, hr, hlocks, hK, hJ, hAA⟩ := id X
  intro n
  induction n with
  | zero =>
    intro x1 x3 x5 x6 H locs ls h
    exact False.elim h
  | succ n ih =>
    intro x1 x3 x5 x6 H locs ls h w hl
    unfold wX3_findStep_b7 at h
    refine lv_iload (pc := 7) hx hb dX3_findStep_7 (lv_at hl 4 rfl) ?_
    refine lv_iload_n (pc := 9) hx hb dX3_findStep_9 rfl (lv_at hl 2 rfl) ?_
    refine lv_icmp_ge (pc := 10) (tgt := 48) hx hb dX3_findStep_10 (by decide) (fun c_ => ?_) (fun c_ => ?_)
    · have h := h.1 c_
      refine lv_iconst (pc := 48) (v := (-1 : Int32)) hx hb dX3_findStep_48 (by decide) ?_
      exact Ciret (pc := 49) X w ⟨rfl, h⟩ dX3_findStep_49
    · have h := h.2 c_
      refine lv_aload_n (pc := 13) hx hb dX3_findStep_13 rfl (lv_at hl 0 rfl) ?_
      refine lv_iload_n (pc := 14) hx hb dX3_findStep_14 rfl (lv_at hl 1 rfl) ?_
      refine lv_iload (pc := 15) hx hb dX3_findStep_15 (lv_at hl 4 rfl) ?_
      refine lv_bipush (pc := 17) (v := (10 : Int32)) hx hb dX3_findStep_17 (by decide) ?_
      refine lv_irem (pc := 19) hx hb dX3_findStep_19 (by decide) ?_
      refine lv_iload (pc := 20) hx hb dX3_findStep_20 (lv_at hl 4 rfl) ?_
      refine lv_bipush (pc := 22) (v := (10 : Int32)) hx hb dX3_findStep_22 (by decide) ?_
      refine lv_idiv (pc := 24) hx hb dX3_findStep_24 (by decide) ?_
      refine Ccalli (rest := []) (CrunV (pc := 25) X w (okX3_hasRow l hJ h) kw101 kmX3_hasRow ⟨rfl, rfl⟩ ⟨by decide, by decide⟩ (Crv_1 X w) rfl hl.1 rfl (Nat.le_of_ble_eq_true rfl) dX3_findStep_25) w (fun r1 u9_ H locs h w => ?_)
      obtain ⟨hz_r1, h⟩ := h
      obtain ⟨rfl, h⟩ := h
      refine lv_if_eq (pc := 28) (tgt := 42) hx hb dX3_findStep_28 (by decide) (fun c_ => ?_) (fun c_ => ?_)
      · have h := h.1 c_
        obtain ⟨x6_2, e_⟩ : ∃ y : Int32, y = x6 + (1 : Int32) := ⟨_, rfl⟩
        have h := h x6_2 e_
        refine lv_iinc (pc := 42) (v := x6_2) (lv' := [(6, .int x6_2), (0, .ref (ad 1)), (1, .int x1), (3, .int x3), (5, .int x5)]) hx hb dX3_findStep_42 hl (k := 4) rfl (by rw [e_]; rfl) (by decide) rfl (fun ls hl => ?_)
        refine lv_goto (pc := 45) (tgt := 7) hx hb dX3_findStep_45 (by decide) ?_
        exact ih x1 x3 x5 x6_2 H locs ls h w (lv_sub hl [1, 2, 3, 4, 0] rfl)
      · have h := h.2 c_
        refine lv_iload (pc := 31) hx hb dX3_findStep_31 (lv_at hl 3 rfl) ?_
        refine lv_if_ne (pc := 33) (tgt := 39) hx hb dX3_findStep_33 (by decide) (fun c_ => ?_) (fun c_ => ?_)
        · have h := h.2 c_
          obtain ⟨x5_3, e_⟩ : ∃ y : Int32, y = x5 + (-1 : Int32) := ⟨_, rfl⟩
          have h := h x5_3 e_
          refine lv_iinc (pc := 39) (v := x5_3) (lv' := [(5, .int x5_3), (0, .ref (ad 1)), (1, .int x1), (3, .int x3), (6, .int x6)]) hx hb dX3_findStep_39 hl (k := 3) rfl (by rw [e_]; rfl) (by decide) rfl (fun ls hl => ?_)
          obtain ⟨x6_4, e_⟩ : ∃ y : Int32, y = x6 + (1 : Int32) := ⟨_, rfl⟩
          have h := h x6_4 e_
          refine lv_iinc (pc := 42) (v := x6_4) (lv' := [(6, .int x6_4), (5, .int x5_3), (0, .ref (ad 1)), (1, .int x1), (3, .int x3)]) hx hb dX3_findStep_42 hl (k := 4) rfl (by rw [e_]; rfl) (by decide) rfl (fun ls hl => ?_)
          refine lv_goto (pc := 45) (tgt := 7) hx hb dX3_findStep_45 (by decide) ?_
          exact ih x1 x3 x5_3 x6_4 H locs ls h w (lv_sub hl [2, 3, 4, 1, 0] rfl)
        · have h := h.1 c_
          refine lv_iload (pc := 36) hx hb dX3_findStep_36 (lv_at hl 4 rfl) ?_
          exact Ciret (pc := 38) X w ⟨rfl, h⟩ dX3_findStep_38
set_option maxHeartbeats 4000000 in
set_option maxRecDepth 100000 in
theorem okX3_findStep (l : Launch) {D : va_G} {g : Nat → ClassId} {ad : Nat → Nat} (hJ : CJ ad) {u : Mm} {a1 : Int32} {a2 : Int32} {a3 : Int32} {a4 : Int32} {Q : Int32 → Prop} (h : wX3_findStep u a1 a2 a3 a4 Q) : Met l yX3_findStep (Cond.code yX3_findStep cX3_findStep 7 (some .int) :: gt) ({ frames := 1, cells := 0, slots := 0, locals := 25 } : Room) (CPc D g ad u [.ref (ad 1), .int a1, .int a2, .int a3, .int a4]) (va_Qi (fun r u1 => u = u1 ∧ Q r) (CB D g ad) (CA ad)) 0 0 (CA ad) := by
  refine Met.ofW (cc := cX3_findStep) (maxL := 7) (ret := (some .int)) (by decide) rfl ?_
  intro p e s m args below meth c s₁ B hml hv
  refine Centry (own := RX3) B hml hv hJ rfl (Nat.le_of_ble_eq_true rfl) (fun ls H locs X w hl => ?_)
  obtain ⟨⟨hx, hb, hml, hown, hts⟩, hr, hlocks, hK, hJ, hAA⟩ := id X
  have hl : lv_has ls 7 [(0, .ref (ad 1)), (1, .int a1), (2, .int a2), (3, .int a3), (4, .int a4)] := hl
  unfold wX3_findStep at h
  refine lv_iload (pc := 0) hx hb dX3_findStep_0 (lv_at hl 4 rfl) ?_
  refine lv_istore (pc := 2) (lv' := [(5, .int a4), (0, .ref (ad 1)), (1, .int a1), (2, .int a2), (3, .int a3), (4, .int a4)]) hx hb dX3_findStep_2 hl (by decide) rfl (fun ls hl => ?_)
  refine lv_iload_n (pc := 4) hx hb dX3_findStep_4 rfl (lv_at hl 3 rfl) ?_
  refine lv_istore (pc := 5) (lv' := [(6, .int a2), (5, .int a4), (0, .ref (ad 1)), (1, .int a1), (2, .int a2), (3, .int a3), (4, .int a4)]) hx hb dX3_findStep_5 hl (by decide) rfl (fun ls hl => ?_)
  obtain ⟨n9, h⟩ := h
  exact bX3_findStep_7 X n9 a1 a3 a4 a2 H locs ls h w (lv_sub hl [2, 3, 5, 1, 0] rfl)
set_option maxHeartbeats 4000000 in
set_option maxRecDepth 100000 in
theorem okX4_placeOf (l : Launch) {D : va_G} {g : Nat → ClassId} {ad : Nat → Nat} (hJ : CJ ad) {u : Mm} {a0 : Int32} {a1 : Int32} {a2 : Int32} {Q : Int32 → Prop} (h : wX4_placeOf a0 a1 a2 Q) : Met l yX4_placeOf (Cond.code yX4_placeOf cX4_placeOf 3 (some .int) :: gt) ({ frames := 0, cells := 0, slots := 0, locals := 0 } : Room) (CPc D g ad u [.int a0, .int a1, .int a2]) (va_Qi (fun r u1 => u = u1 ∧ Q r) (CB D g ad) (CA ad)) 0 0 (CA ad) := by
  refine Met.ofW (cc := cX4_placeOf) (maxL := 3) (ret := (some .int)) (by decide) rfl ?_
  intro p e s m args below meth c s₁ B hml hv
  refine Centry (own := RX4) B hml hv hJ rfl (Nat.le_of_ble_eq_true rfl) (fun ls H locs X w hl => ?_)
  obtain ⟨⟨hx, hb, hml, hown, hts⟩, hr, hlocks, hK, hJ, hAA⟩ := id X
  have hl : lv_has ls 3 [(0, .int a0), (1, .int a1), (2, .int a2)] := hl
  unfold wX4_placeOf at h
  refine lv_iload_n (pc := 0) hx hb dX4_placeOf_0 rfl (lv_at hl 0 rfl) ?_
  refine lv_bipush (pc := 1) (v := (6 : Int32)) hx hb dX4_placeOf_1 (by decide) ?_
  refine lv_imul (pc := 3) hx hb dX4_placeOf_3 ?_
  refine lv_iload_n (pc := 4) hx hb dX4_placeOf_4 rfl (lv_at hl 1 rfl) ?_
  refine lv_iadd (pc := 5) hx hb dX4_placeOf_5 ?_
  refine lv_bipush (pc := 6) (v := (12 : Int32)) hx hb dX4_placeOf_6 (by decide) ?_
  refine lv_imul (pc := 8) hx hb dX4_placeOf_8 ?_
  refine lv_iload_n (pc := 9) hx hb dX4_placeOf_9 rfl (lv_at hl 2 rfl) ?_
  refine lv_iadd (pc := 10) hx hb dX4_placeOf_10 ?_
  exact Ciret (pc := 11) X w ⟨rfl, h⟩ dX4_placeOf_11
set_option maxHeartbeats 4000000 in
set_option maxRecDepth 100000 in
theorem okX4_addFlow (l : Launch) {D : va_G} {g : Nat → ClassId} {ad : Nat → Nat} (hJ : CJ ad) {u : Mm} {a1 : Int32} {a2 : Int32} {a3 : Int32} {a4 : Int32} {Q : Int64 → Mm → Prop} (h : wX4_addFlow u a1 a2 a3 a4 Q) : Met l yX4_addFlow (Cond.code yX4_addFlow cX4_addFlow 6 (some .long) :: gt) ({ frames := 1, cells := 0, slots := 0, locals := 22 } : Room) (CPc D g ad u [.ref (ad 32), .int a1, .int a2, .int a3, .int a4]) (va_Ql Q (CB D g ad) (CA ad)) 0 0 (CA ad) := by
  refine Met.ofW (cc := cX4_addFlow) (maxL := 6) (ret := (some .long)) (by decide) rfl ?_
  intro p e s m args below meth c s₁ B hml hv
  refine Centry (own := RX4) B hml hv hJ rfl (Nat.le_of_ble_eq_true rfl) (fun ls H locs X w hl => ?_)
  obtain ⟨⟨hx, hb, hml, hown, hts⟩, hr, hlocks, hK, hJ, hAA⟩ := id X
  have hl : lv_has ls 6 [(0, .ref (ad 32)), (1, .int a1), (2, .int a2), (3, .int a3), (4, .int a4)] := hl
  unfold wX4_addFlow at h
  refine lv_iload_n (pc := 0) hx hb dX4_addFlow_0 rfl (lv_at hl 1 rfl) ?_
  refine lv_iload_n (pc := 1) hx hb dX4_addFlow_1 rfl (lv_at hl 2 rfl) ?_
  refine lv_iload_n (pc := 2) hx hb dX4_addFlow_2 rfl (lv_at hl 3 rfl) ?_
  refine Ccalli (rest := []) (CrunS (pc := 3) X w (okX4_placeOf l hJ h) kw105 kmX4_placeOf ⟨rfl, rfl⟩ ⟨by decide, by decide⟩ rfl hl.1 rfl (Nat.le_of_ble_eq_true rfl) dX4_addFlow_3) w (fun r1 u9_ H locs h w => ?_)
  obtain ⟨rfl, h⟩ := h
  refine lv_istore (pc := 6) (lv' := [(5, .int r1), (0, .ref (ad 32)), (1, .int a1), (2, .int a2), (3, .int a3), (4, .int a4)]) hx hb dX4_addFlow_6 hl (by decide) rfl (fun ls hl => ?_)
  refine lv_aload_n (pc := 8) hx hb dX4_addFlow_8 rfl (lv_at hl 1 rfl) ?_
  refine Cgf_32_0 (pc := 9) X w kw109 dX4_addFlow_9 ?_
  refine lv_iload (pc := 12) hx hb dX4_addFlow_12 (lv_at hl 0 rfl) ?_
  refine lv_dup2_11 (pc := 14) hx hb dX4_addFlow_14 rfl rfl ?_
  refine Cld_33 (pc := 15) X w h.1 dX4_addFlow_15 ?_
  have h := h.2
  refine lv_iload (pc := 16) hx hb dX4_addFlow_16 (lv_at hl 5 rfl) ?_
  refine lv_i2l (pc := 18) hx hb dX4_addFlow_18 rfl ?_
  refine lv_ladd (pc := 19) hx hb dX4_addFlow_19 ?_
  refine Cst_33 (pc := 20) X w h.1 dX4_addFlow_20 (fun H locs w => ?_)
  have h := h.2
  obtain ⟨u2, e_⟩ : ∃ y : Mm, y = s64 u 33 r1.toNatClampNeg ((u.2 33 r1.toNatClampNeg) + a4.toInt64) := ⟨_, rfl⟩
  rw [← e_] at w
  have h := h u2 e_
  refine lv_aload_n (pc := 21) hx hb dX4_addFlow_21 rfl (lv_at hl 1 rfl) ?_
  refine Cgf_32_0 (pc := 22) X w kw109 dX4_addFlow_22 ?_
  refine lv_iload (pc := 25) hx hb dX4_addFlow_25 (lv_at hl 0 rfl) ?_
  refine Cld_33 (pc := 27) X w h.1 dX4_addFlow_27 ?_
  have h := h.2
  exact Clret (pc := 28) X w h dX4_addFlow_28
set_option maxHeartbeats 4000000 in
set_option maxRecDepth 100000 in
theorem bX4_netOf_5 {l : Launch} {p : Program} {e : Env} {s : State} {m : MethodId} {args : Array Value} {below : List Frame} {meth : Method} {c : Code} {D : va_G} {g : Nat → ClassId} {ad : Nat → Nat} {u : Mm} {Q : Int64 → Prop} (X : CX p s m args meth c cX4_netOf RX4 6 (some .long) (Cond.code yX4_netOf cX4_netOf 6 (some .long)) D g ad (CA ad)) : ∀ (n : Nat) (x1 : Int32) (x2 : Int32) (x3 : Int64) (x5 : Int32) (H : Heap) (locs : List Loc) (ls : Array Slot), wX4_netOf_b5 u Q n x1 x2 x3 x5 → CWd D g ad (CA ad) s u H locs → lv_has ls 6 [(0, .ref (ad 32)), (1, .int x1), (2, .int x2), (3, .long x3), (5, .int x5)] → W p l e ({ frames := 1, cells := 0, slots := 0, locals := 22 } : Room) s m args below meth c H locs 0 0 (MQ below (va_Ql (fun r u1 => u = u1 ∧ Q r) (CB D g ad) (CA ad)) args s 0 0 (CA ad)) (F0 m 5 ls []) := by
  obtain ⟨⟨hx, hb, hml, hown, hts⟩, hr, hlocks, hK, hJ, hAA⟩ := id X
  intro n
  induction n with
  | zero =>
    intro x1 x2 x3 x5 H locs ls h
    exact False.elim h
  | succ n ih =>
    intro x1 x2 x3 x5 H locs ls h w hl
    unfold wX4_netOf_b5 at h
    refine lv_iload (pc := 5) hx hb dX4_netOf_5 (lv_at hl 4 rfl) ?_
    refine lv_bipush (pc := 7) (v := (6 : Int32)) hx hb dX4_netOf_7 (by decide) ?_
    refine lv_icmp_ge (pc := 9) (tgt := 46) hx hb dX4_netOf_9 (by decide) (fun c_ => ?_) (fun c_ => ?_)
    · have h := h.1 c_
      refine lv_lload_n (pc := 46) hx hb dX4_netOf_46 rfl (lv_at hl 3 rfl) ?_
      exact Clret (pc := 47) X w ⟨rfl, h⟩ dX4_netOf_47
    · have h := h.2 c_
      refine lv_lload_n (pc := 12) hx hb dX4_netOf_12 rfl (lv_at hl 3 rfl) ?_
      refine lv_aload_n (pc := 13) hx hb dX4_netOf_13 rfl (lv_at hl 0 rfl) ?_
      refine Cgf_32_0 (pc := 14) X w kw109 dX4_netOf_14 ?_
      refine lv_iload (pc := 17) hx hb dX4_netOf_17 (lv_at hl 4 rfl) ?_
      refine lv_iload_n (pc := 19) hx hb dX4_netOf_19 rfl (lv_at hl 1 rfl) ?_
      refine lv_iload_n (pc := 20) hx hb dX4_netOf_20 rfl (lv_at hl 2 rfl) ?_
      refine Ccalli (rest := [.ref (ad 33), .long x3]) (CrunS (pc := 21) X w (okX4_placeOf l hJ h) kw105 kmX4_placeOf ⟨rfl, rfl⟩ ⟨by decide, by decide⟩ rfl hl.1 rfl (Nat.le_of_ble_eq_true rfl) dX4_netOf_21) w (fun r1 u9_ H locs h w => ?_)
      obtain ⟨rfl, h⟩ := h
      refine Cld_33 (pc := 24) X w h.1 dX4_netOf_24 ?_
      have h := h.2
      refine lv_aload_n (pc := 25) hx hb dX4_netOf_25 rfl (lv_at hl 0 rfl) ?_
      refine Cgf_32_0 (pc := 26) X w kw109 dX4_netOf_26 ?_
      refine lv_iload_n (pc := 29) hx hb dX4_netOf_29 rfl (lv_at hl 1 rfl) ?_
      refine lv_iload (pc := 30) hx hb dX4_netOf_30 (lv_at hl 4 rfl) ?_
      refine lv_iload_n (pc := 32) hx hb dX4_netOf_32 rfl (lv_at hl 2 rfl) ?_
      refine Ccalli (rest := [.ref (ad 33), .long (u.2 33 r1.toNatClampNeg), .long x3]) (CrunS (pc := 33) X w (okX4_placeOf l hJ h) kw105 kmX4_placeOf ⟨rfl, rfl⟩ ⟨by decide, by decide⟩ rfl hl.1 rfl (Nat.le_of_ble_eq_true rfl) dX4_netOf_33) w (fun r2 u9_ H locs h w => ?_)
      obtain ⟨rfl, h⟩ := h
      refine Cld_33 (pc := 36) X w h.1 dX4_netOf_36 ?_
      have h := h.2
      refine lv_lsub (pc := 37) hx hb dX4_netOf_37 ?_
      refine lv_ladd (pc := 38) hx hb dX4_netOf_38 ?_
      refine lv_topl (fun x3_3 e_ => ?_)
      have h := h x3_3 e_
      refine lv_lstore_n (pc := 39) (lv' := [(3, .long x3_3), (0, .ref (ad 32)), (1, .int x1), (2, .int x2), (5, .int x5)]) hx hb dX4_netOf_39 rfl hl (by decide) rfl (fun ls hl => ?_)
      obtain ⟨x5_4, e_⟩ : ∃ y : Int32, y = x5 + (1 : Int32) := ⟨_, rfl⟩
      have h := h x5_4 e_
      refine lv_iinc (pc := 40) (v := x5_4) (lv' := [(5, .int x5_4), (3, .long x3_3), (0, .ref (ad 32)), (1, .int x1), (2, .int x2)]) hx hb dX4_netOf_40 hl (k := 4) rfl (by rw [e_]; rfl) (by decide) rfl (fun ls hl => ?_)
      refine lv_goto (pc := 43) (tgt := 5) hx hb dX4_netOf_43 (by decide) ?_
      exact ih x1 x2 x3_3 x5_4 H locs ls h w (lv_sub hl [2, 3, 4, 1, 0] rfl)
set_option maxHeartbeats 4000000 in
set_option maxRecDepth 100000 in
theorem okX4_netOf (l : Launch) {D : va_G} {g : Nat → ClassId} {ad : Nat → Nat} (hJ : CJ ad) {u : Mm} {a1 : Int32} {a2 : Int32} {Q : Int64 → Prop} (h : wX4_netOf u a1 a2 Q) : Met l yX4_netOf (Cond.code yX4_netOf cX4_netOf 6 (some .long) :: gt) ({ frames := 1, cells := 0, slots := 0, locals := 22 } : Room) (CPc D g ad u [.ref (ad 32), .int a1, .int a2]) (va_Ql (fun r u1 => u = u1 ∧ Q r) (CB D g ad) (CA ad)) 0 0 (CA ad) := by
  refine Met.ofW (cc := cX4_netOf) (maxL := 6) (ret := (some .long)) (by decide) rfl ?_
  intro p e s m args below meth c s₁ B hml hv
  refine Centry (own := RX4) B hml hv hJ rfl (Nat.le_of_ble_eq_true rfl) (fun ls H locs X w hl => ?_)
  obtain ⟨⟨hx, hb, hml, hown, hts⟩, hr, hlocks, hK, hJ, hAA⟩ := id X
  have hl : lv_has ls 6 [(0, .ref (ad 32)), (1, .int a1), (2, .int a2)] := hl
  unfold wX4_netOf at h
  refine lv_lconst (pc := 0) (v := (0 : Int64)) hx hb dX4_netOf_0 (by decide) ?_
  refine lv_lstore_n (pc := 1) (lv' := [(3, .long (0 : Int64)), (0, .ref (ad 32)), (1, .int a1), (2, .int a2)]) hx hb dX4_netOf_1 rfl hl (by decide) rfl (fun ls hl => ?_)
  refine lv_iconst (pc := 2) (v := (0 : Int32)) hx hb dX4_netOf_2 (by decide) ?_
  refine lv_istore (pc := 3) (lv' := [(5, .int (0 : Int32)), (3, .long (0 : Int64)), (0, .ref (ad 32)), (1, .int a1), (2, .int a2)]) hx hb dX4_netOf_3 hl (by decide) rfl (fun ls hl => ?_)
  obtain ⟨n9, h⟩ := h
  exact bX4_netOf_5 X n9 a1 a2 (0 : Int64) (0 : Int32) H locs ls h w (lv_sub hl [2, 3, 4, 1, 0] rfl)
set_option maxHeartbeats 4000000 in
set_option maxRecDepth 100000 in
theorem bX4_dueOf_5 {l : Launch} {p : Program} {e : Env} {s : State} {m : MethodId} {args : Array Value} {below : List Frame} {meth : Method} {c : Code} {D : va_G} {g : Nat → ClassId} {ad : Nat → Nat} {u : Mm} {Q : Int64 → Prop} (X : CX p s m args meth c cX4_dueOf RX4 7 (some .long) (Cond.code yX4_dueOf cX4_dueOf 7 (some .long)) D g ad (CA ad)) : ∀ (n : Nat) (x1 : Int32) (x2 : Int32) (x3 : Int64) (x5 : Int32) (H : Heap) (locs : List Loc) (ls : Array Slot), wX4_dueOf_b5 u Q n x1 x2 x3 x5 → CWd D g ad (CA ad) s u H locs → lv_has ls 7 [(0, .ref (ad 32)), (1, .int x1), (2, .int x2), (3, .long x3), (5, .int x5)] → W p l e ({ frames := 2, cells := 0, slots := 0, locals := 47 } : Room) s m args below meth c H locs 0 0 (MQ below (va_Ql (fun r u1 => u = u1 ∧ Q r) (CB D g ad) (CA ad)) args s 0 0 (CA ad)) (F0 m 5 ls []) := by
  obtain ⟨⟨hx, hb, hml, hown, hts⟩, hr, hlocks, hK, hJ, hAA⟩ := id X
  intro n
  induction n with
  | zero =>
    intro x1 x2 x3 x5 H locs ls h
    exact False.elim h
  | succ n ih =>
    intro x1 x2 x3 x5 H locs ls h w hl
    unfold wX4_dueOf_b5 at h
    refine lv_iload (pc := 5) hx hb dX4_dueOf_5 (lv_at hl 4 rfl) ?_
    refine lv_iload_n (pc := 7) hx hb dX4_dueOf_7 rfl (lv_at hl 2 rfl) ?_
    refine lv_icmp_ge (pc := 8) (tgt := 57) hx hb dX4_dueOf_8 (by decide) (fun c_ => ?_) (fun c_ => ?_)
    · have h := h.1 c_
      refine lv_lload_n (pc := 57) hx hb dX4_dueOf_57 rfl (lv_at hl 3 rfl) ?_
      refine lv_aload_n (pc := 58) hx hb dX4_dueOf_58 rfl (lv_at hl 0 rfl) ?_
      refine lv_iload_n (pc := 59) hx hb dX4_dueOf_59 rfl (lv_at hl 1 rfl) ?_
      refine lv_iload_n (pc := 60) hx hb dX4_dueOf_60 rfl (lv_at hl 2 rfl) ?_
      refine Ccalll (rest := [.long x3]) (CrunV (pc := 61) X w (okX4_netOf l hJ h) kw110 kmX4_netOf ⟨rfl, rfl⟩ ⟨by decide, by decide⟩ (Crv_32 X w) rfl hl.1 rfl (Nat.le_of_ble_eq_true rfl) dX4_dueOf_61) w (fun r1 u9_ H locs h w => ?_)
      obtain ⟨rfl, h⟩ := h
      refine lv_ladd (pc := 64) hx hb dX4_dueOf_64 ?_
      exact Clret (pc := 65) X w ⟨rfl, h⟩ dX4_dueOf_65
    · have h := h.2 c_
      refine lv_iload_n (pc := 11) hx hb dX4_dueOf_11 rfl (lv_at hl 1 rfl) ?_
      refine lv_bipush (pc := 12) (v := (12 : Int32)) hx hb dX4_dueOf_12 (by decide) ?_
      refine lv_imul (pc := 14) hx hb dX4_dueOf_14 ?_
      refine lv_iload (pc := 15) hx hb dX4_dueOf_15 (lv_at hl 4 rfl) ?_
      refine lv_iadd (pc := 17) hx hb dX4_dueOf_17 ?_
      refine lv_topi (fun x6_2 e_ => ?_)
      have h := h x6_2 e_
      refine lv_istore (pc := 18) (lv' := [(6, .int x6_2), (0, .ref (ad 32)), (1, .int x1), (2, .int x2), (3, .long x3), (5, .int x5)]) hx hb dX4_dueOf_18 hl (by decide) rfl (fun ls hl => ?_)
      refine lv_aload_n (pc := 20) hx hb dX4_dueOf_20 rfl (lv_at hl 1 rfl) ?_
      refine Cgf_32_2 (pc := 21) X w kw114 dX4_dueOf_21 ?_
      refine lv_iload (pc := 24) hx hb dX4_dueOf_24 (lv_at hl 0 rfl) ?_
      refine Cld_35 (pc := 26) X w h.1 dX4_dueOf_26 ?_
      have h := h.2
      refine lv_if_eq (pc := 27) (tgt := 41) hx hb dX4_dueOf_27 (by decide) (fun c_ => ?_) (fun c_ => ?_)
      · have h := h.1 c_
        refine lv_lload_n (pc := 41) hx hb dX4_dueOf_41 rfl (lv_at hl 4 rfl) ?_
        refine lv_aload_n (pc := 42) hx hb dX4_dueOf_42 rfl (lv_at hl 1 rfl) ?_
        refine lv_iload_n (pc := 43) hx hb dX4_dueOf_43 rfl (lv_at hl 2 rfl) ?_
        refine lv_iload (pc := 44) hx hb dX4_dueOf_44 (lv_at hl 5 rfl) ?_
        refine Ccalll (rest := [.long x3]) (CrunV (pc := 46) X w (okX4_netOf l hJ h) kw110 kmX4_netOf ⟨rfl, rfl⟩ ⟨by decide, by decide⟩ (Crv_32 X w) rfl hl.1 rfl (Nat.le_of_ble_eq_true rfl) dX4_dueOf_46) w (fun r3 u9_ H locs h w => ?_)
        obtain ⟨rfl, h⟩ := h
        refine lv_ladd (pc := 49) hx hb dX4_dueOf_49 ?_
        refine lv_topl (fun x3_4 e_ => ?_)
        have h := h x3_4 e_
        refine lv_lstore_n (pc := 50) (lv' := [(3, .long x3_4), (6, .int x6_2), (0, .ref (ad 32)), (1, .int x1), (2, .int x2), (5, .int x5)]) hx hb dX4_dueOf_50 rfl hl (by decide) rfl (fun ls hl => ?_)
        obtain ⟨x5_5, e_⟩ : ∃ y : Int32, y = x5 + (1 : Int32) := ⟨_, rfl⟩
        have h := h x5_5 e_
        refine lv_iinc (pc := 51) (v := x5_5) (lv' := [(5, .int x5_5), (3, .long x3_4), (6, .int x6_2), (0, .ref (ad 32)), (1, .int x1), (2, .int x2)]) hx hb dX4_dueOf_51 hl (k := 5) rfl (by rw [e_]; rfl) (by decide) rfl (fun ls hl => ?_)
        refine lv_goto (pc := 54) (tgt := 5) hx hb dX4_dueOf_54 (by decide) ?_
        exact ih x1 x2 x3_4 x5_5 H locs ls h w (lv_sub hl [3, 4, 5, 1, 0] rfl)
      · have h := h.2 c_
        refine lv_aload_n (pc := 30) hx hb dX4_dueOf_30 rfl (lv_at hl 1 rfl) ?_
        refine Cgf_32_1 (pc := 31) X w kw115 dX4_dueOf_31 ?_
        refine lv_iload (pc := 34) hx hb dX4_dueOf_34 (lv_at hl 0 rfl) ?_
        refine Cld_34 (pc := 36) X w h.1 dX4_dueOf_36 ?_
        have h := h.2
        refine lv_i2l (pc := 37) hx hb dX4_dueOf_37 rfl ?_
        refine lv_goto (pc := 38) (tgt := 50) hx hb dX4_dueOf_38 (by decide) ?_
        refine lv_topl (fun x3_6 e_ => ?_)
        have h := h x3_6 e_
        refine lv_lstore_n (pc := 50) (lv' := [(3, .long x3_6), (6, .int x6_2), (0, .ref (ad 32)), (1, .int x1), (2, .int x2), (5, .int x5)]) hx hb dX4_dueOf_50 rfl hl (by decide) rfl (fun ls hl => ?_)
        obtain ⟨x5_7, e_⟩ : ∃ y : Int32, y = x5 + (1 : Int32) := ⟨_, rfl⟩
        have h := h x5_7 e_
        refine lv_iinc (pc := 51) (v := x5_7) (lv' := [(5, .int x5_7), (3, .long x3_6), (6, .int x6_2), (0, .ref (ad 32)), (1, .int x1), (2, .int x2)]) hx hb dX4_dueOf_51 hl (k := 5) rfl (by rw [e_]; rfl) (by decide) rfl (fun ls hl => ?_)
        refine lv_goto (pc := 54) (tgt := 5) hx hb dX4_dueOf_54 (by decide) ?_
        exact ih x1 x2 x3_6 x5_7 H locs ls h w (lv_sub hl [3, 4, 5, 1, 0] rfl)
set_option maxHeartbeats 4000000 in
set_option maxRecDepth 100000 in
theorem okX4_dueOf (l : Launch) {D : va_G} {g : Nat → ClassId} {ad : Nat → Nat} (hJ : CJ ad) {u : Mm} {a1 : Int32} {a2 : Int32} {Q : Int64 → Prop} (h : wX4_dueOf u a1 a2 Q) : Met l yX4_dueOf (Cond.code yX4_dueOf cX4_dueOf 7 (some .long) :: gt) ({ frames := 2, cells := 0, slots := 0, locals := 47 } : Room) (CPc D g ad u [.ref (ad 32), .int a1, .int a2]) (va_Ql (fun r u1 => u = u1 ∧ Q r) (CB D g ad) (CA ad)) 0 0 (CA ad) := by
  refine Met.ofW (cc := cX4_dueOf) (maxL := 7) (ret := (some .long)) (by decide) rfl ?_
  intro p e s m args below meth c s₁ B hml hv
  refine Centry (own := RX4) B hml hv hJ rfl (Nat.le_of_ble_eq_true rfl) (fun ls H locs X w hl => ?_)
  obtain ⟨⟨hx, hb, hml, hown, hts⟩, hr, hlocks, hK, hJ, hAA⟩ := id X
  have hl : lv_has ls 7 [(0, .ref (ad 32)), (1, .int a1), (2, .int a2)] := hl
  unfold wX4_dueOf at h
  refine lv_lconst (pc := 0) (v := (0 : Int64)) hx hb dX4_dueOf_0 (by decide) ?_
  refine lv_lstore_n (pc := 1) (lv' := [(3, .long (0 : Int64)), (0, .ref (ad 32)), (1, .int a1), (2, .int a2)]) hx hb dX4_dueOf_1 rfl hl (by decide) rfl (fun ls hl => ?_)
  refine lv_iconst (pc := 2) (v := (0 : Int32)) hx hb dX4_dueOf_2 (by decide) ?_
  refine lv_istore (pc := 3) (lv' := [(5, .int (0 : Int32)), (3, .long (0 : Int64)), (0, .ref (ad 32)), (1, .int a1), (2, .int a2)]) hx hb dX4_dueOf_3 hl (by decide) rfl (fun ls hl => ?_)
  obtain ⟨n9, h⟩ := h
  exact bX4_dueOf_5 X n9 a1 a2 (0 : Int64) (0 : Int32) H locs ls h w (lv_sub hl [2, 3, 4, 1, 0] rfl)
set_option maxHeartbeats 4000000 in
set_option maxRecDepth 100000 in
theorem okX5_renew_i0 (l : Launch) {D : va_G} {g : Nat → ClassId} {ad : Nat → Nat} (hJ : CJ ad) {u : Mm} {a1 : Int32} {a2 : Int32} {Q : Mm → Prop} (h : wX5_renew 0 u a1 a2 Q) : Met l yX5_renew (Cond.code yX5_renew cX5_renew 3 none :: gt) ({ frames := 1, cells := 0, slots := 0, locals := 23 } : Room) (CPc D g ad u [.ref (ad 54), .int a1, .int a2]) (va_Qv Q (CB D g ad) (CA ad)) 0 0 (CA ad) := by
  refine Met.ofW (cc := cX5_renew) (maxL := 3) (ret := none) (by decide) rfl ?_
  intro p e s m args below meth c s₁ B hml hv
  refine Centry (own := RX5) B hml hv hJ rfl (Nat.le_of_ble_eq_true rfl) (fun ls H locs X w hl => ?_)
  obtain ⟨⟨hx, hb, hml, hown, hts⟩, hr, hlocks, hK, hJ, hAA⟩ := id X
  have hl : lv_has ls 3 [(0, .ref (ad 54)), (1, .int a1), (2, .int a2)] := hl
  unfold wX5_renew at h
  refine lv_aload_n (pc := 0) hx hb dX5_renew_0 rfl (lv_at hl 0 rfl) ?_
  refine Cgf_54_0 (pc := 1) X w kw116 dX5_renew_1 ?_
  refine lv_iconst (pc := 4) (v := (0 : Int32)) hx hb dX5_renew_4 (by decide) ?_
  refine Ccallv (rest := []) (CrunS (pc := 5) X w (okJ7_fill_53178_i55 l hJ h) kw117 kmJ7_fill_53178 ⟨rfl, rfl⟩ ⟨by decide, by decide⟩ rfl hl.1 rfl (Nat.le_of_ble_eq_true rfl) dX5_renew_5) w (fun u2 H locs h w => ?_)
  refine lv_aload_n (pc := 8) hx hb dX5_renew_8 rfl (lv_at hl 0 rfl) ?_
  refine lv_iload_n (pc := 9) hx hb dX5_renew_9 rfl (lv_at hl 1 rfl) ?_
  refine Cpf_54_1 (pc := 10) X w kw118 dX5_renew_10 (fun H locs w => ?_)
  obtain ⟨u3, e_⟩ : ∃ y : Mm, y = s32 u2 965 0 a1 := ⟨_, rfl⟩
  rw [← e_] at w
  have h := h u3 e_
  refine lv_aload_n (pc := 13) hx hb dX5_renew_13 rfl (lv_at hl 0 rfl) ?_
  refine lv_iload_n (pc := 14) hx hb dX5_renew_14 rfl (lv_at hl 2 rfl) ?_
  refine Cpf_54_2 (pc := 15) X w kw119 dX5_renew_15 (fun H locs w => ?_)
  obtain ⟨u4, e_⟩ : ∃ y : Mm, y = s32 u3 966 0 a2 := ⟨_, rfl⟩
  rw [← e_] at w
  have h := h u4 e_
  refine lv_aload_n (pc := 18) hx hb dX5_renew_18 rfl (lv_at hl 0 rfl) ?_
  refine lv_iconst (pc := 19) (v := (0 : Int32)) hx hb dX5_renew_19 (by decide) ?_
  refine Cpf_54_3 (pc := 20) X w kw120 rfl rfl dX5_renew_20 (fun H locs w => ?_)
  obtain ⟨u5, e_⟩ : ∃ y : Mm, y = s32 u4 967 0 (0 : Int32) := ⟨_, rfl⟩
  rw [← e_] at w
  have h := h u5 e_
  exact Cvret (pc := 23) X w h dX5_renew_23
set_option maxHeartbeats 4000000 in
set_option maxRecDepth 100000 in
theorem okX5_renew_i1 (l : Launch) {D : va_G} {g : Nat → ClassId} {ad : Nat → Nat} (hJ : CJ ad) {u : Mm} {a1 : Int32} {a2 : Int32} {Q : Mm → Prop} (h : wX5_renew 1 u a1 a2 Q) : Met l yX5_renew (Cond.code yX5_renew cX5_renew 3 none :: gt) ({ frames := 1, cells := 0, slots := 0, locals := 23 } : Room) (CPc D g ad u [.ref (ad 56), .int a1, .int a2]) (va_Qv Q (CB D g ad) (CA ad)) 0 0 (CA ad) := by
  refine Met.ofW (cc := cX5_renew) (maxL := 3) (ret := none) (by decide) rfl ?_
  intro p e s m args below meth c s₁ B hml hv
  refine Centry (own := RX5) B hml hv hJ rfl (Nat.le_of_ble_eq_true rfl) (fun ls H locs X w hl => ?_)
  obtain ⟨⟨hx, hb, hml, hown, hts⟩, hr, hlocks, hK, hJ, hAA⟩ := id X
  have hl : lv_has ls 3 [(0, .ref (ad 56)), (1, .int a1), (2, .int a2)] := hl
  unfold wX5_renew at h
  refine lv_aload_n (pc := 0) hx hb dX5_renew_0 rfl (lv_at hl 0 rfl) ?_
  refine Cgf_56_0 (pc := 1) X w kw116 dX5_renew_1 ?_
  refine lv_iconst (pc := 4) (v := (0 : Int32)) hx hb dX5_renew_4 (by decide) ?_
  refine Ccallv (rest := []) (CrunS (pc := 5) X w (okJ7_fill_53178_i57 l hJ h) kw117 kmJ7_fill_53178 ⟨rfl, rfl⟩ ⟨by decide, by decide⟩ rfl hl.1 rfl (Nat.le_of_ble_eq_true rfl) dX5_renew_5) w (fun u2 H locs h w => ?_)
  refine lv_aload_n (pc := 8) hx hb dX5_renew_8 rfl (lv_at hl 0 rfl) ?_
  refine lv_iload_n (pc := 9) hx hb dX5_renew_9 rfl (lv_at hl 1 rfl) ?_
  refine Cpf_56_1 (pc := 10) X w kw118 dX5_renew_10 (fun H locs w => ?_)
  obtain ⟨u3, e_⟩ : ∃ y : Mm, y = s32 u2 997 0 a1 := ⟨_, rfl⟩
  rw [← e_] at w
  have h := h u3 e_
  refine lv_aload_n (pc := 13) hx hb dX5_renew_13 rfl (lv_at hl 0 rfl) ?_
  refine lv_iload_n (pc := 14) hx hb dX5_renew_14 rfl (lv_at hl 2 rfl) ?_
  refine Cpf_56_2 (pc := 15) X w kw119 dX5_renew_15 (fun H locs w => ?_)
  obtain ⟨u4, e_⟩ : ∃ y : Mm, y = s32 u3 998 0 a2 := ⟨_, rfl⟩
  rw [← e_] at w
  have h := h u4 e_
  refine lv_aload_n (pc := 18) hx hb dX5_renew_18 rfl (lv_at hl 0 rfl) ?_
  refine lv_iconst (pc := 19) (v := (0 : Int32)) hx hb dX5_renew_19 (by decide) ?_
  refine Cpf_56_3 (pc := 20) X w kw120 rfl rfl dX5_renew_20 (fun H locs w => ?_)
  obtain ⟨u5, e_⟩ : ∃ y : Mm, y = s32 u4 999 0 (0 : Int32) := ⟨_, rfl⟩
  rw [← e_] at w
  have h := h u5 e_
  exact Cvret (pc := 23) X w h dX5_renew_23
set_option maxHeartbeats 4000000 in
set_option maxRecDepth 100000 in
theorem okX5_renew_i2 (l : Launch) {D : va_G} {g : Nat → ClassId} {ad : Nat → Nat} (hJ : CJ ad) {u : Mm} {a1 : Int32} {a2 : Int32} {Q : Mm → Prop} (h : wX5_renew 2 u a1 a2 Q) : Met l yX5_renew (Cond.code yX5_renew cX5_renew 3 none :: gt) ({ frames := 1, cells := 0, slots := 0, locals := 23 } : Room) (CPc D g ad u [.ref (ad 58), .int a1, .int a2]) (va_Qv Q (CB D g ad) (CA ad)) 0 0 (CA ad) := by
  refine Met.ofW (cc := cX5_renew) (maxL := 3) (ret := none) (by decide) rfl ?_
  intro p e s m args below meth c s₁ B hml hv
  refine Centry (own := RX5) B hml hv hJ rfl (Nat.le_of_ble_eq_true rfl) (fun ls H locs X w hl => ?_)
  obtain ⟨⟨hx, hb, hml, hown, hts⟩, hr, hlocks, hK, hJ, hAA⟩ := id X
  have hl : lv_has ls 3 [(0, .ref (ad 58)), (1, .int a1), (2, .int a2)] := hl
  unfold wX5_renew at h
  refine lv_aload_n (pc := 0) hx hb dX5_renew_0 rfl (lv_at hl 0 rfl) ?_
  refine Cgf_58_0 (pc := 1) X w kw116 dX5_renew_1 ?_
  refine lv_iconst (pc := 4) (v := (0 : Int32)) hx hb dX5_renew_4 (by decide) ?_
  refine Ccallv (rest := []) (CrunS (pc := 5) X w (okJ7_fill_53178_i59 l hJ h) kw117 kmJ7_fill_53178 ⟨rfl, rfl⟩ ⟨by decide, by decide⟩ rfl hl.1 rfl (Nat.le_of_ble_eq_true rfl) dX5_renew_5) w (fun u2 H locs h w => ?_)
  refine lv_aload_n (pc := 8) hx hb dX5_renew_8 rfl (lv_at hl 0 rfl) ?_
  refine lv_iload_n (pc := 9) hx hb dX5_renew_9 rfl (lv_at hl 1 rfl) ?_
  refine Cpf_58_1 (pc := 10) X w kw118 dX5_renew_10 (fun H locs w => ?_)
  obtain ⟨u3, e_⟩ : ∃ y : Mm, y = s32 u2 1029 0 a1 := ⟨_, rfl⟩
  rw [← e_] at w
  have h := h u3 e_
  refine lv_aload_n (pc := 13) hx hb dX5_renew_13 rfl (lv_at hl 0 rfl) ?_
  refine lv_iload_n (pc := 14) hx hb dX5_renew_14 rfl (lv_at hl 2 rfl) ?_
  refine Cpf_58_2 (pc := 15) X w kw119 dX5_renew_15 (fun H locs w => ?_)
  obtain ⟨u4, e_⟩ : ∃ y : Mm, y = s32 u3 1030 0 a2 := ⟨_, rfl⟩
  rw [← e_] at w
  have h := h u4 e_
  refine lv_aload_n (pc := 18) hx hb dX5_renew_18 rfl (lv_at hl 0 rfl) ?_
  refine lv_iconst (pc := 19) (v := (0 : Int32)) hx hb dX5_renew_19 (by decide) ?_
  refine Cpf_58_3 (pc := 20) X w kw120 rfl rfl dX5_renew_20 (fun H locs w => ?_)
  obtain ⟨u5, e_⟩ : ∃ y : Mm, y = s32 u4 1031 0 (0 : Int32) := ⟨_, rfl⟩
  rw [← e_] at w
  have h := h u5 e_
  exact Cvret (pc := 23) X w h dX5_renew_23
set_option maxHeartbeats 4000000 in
set_option maxRecDepth 100000 in
theorem okX5_renew_i3 (l : Launch) {D : va_G} {g : Nat → ClassId} {ad : Nat → Nat} (hJ : CJ ad) {u : Mm} {a1 : Int32} {a2 : Int32} {Q : Mm → Prop} (h : wX5_renew 3 u a1 a2 Q) : Met l yX5_renew (Cond.code yX5_renew cX5_renew 3 none :: gt) ({ frames := 1, cells := 0, slots := 0, locals := 23 } : Room) (CPc D g ad u [.ref (ad 60), .int a1, .int a2]) (va_Qv Q (CB D g ad) (CA ad)) 0 0 (CA ad) := by
  refine Met.ofW (cc := cX5_renew) (maxL := 3) (ret := none) (by decide) rfl ?_
  intro p e s m args below meth c s₁ B hml hv
  refine Centry (own := RX5) B hml hv hJ rfl (Nat.le_of_ble_eq_true rfl) (fun ls H locs X w hl => ?_)
  obtain ⟨⟨hx, hb, hml, hown, hts⟩, hr, hlocks, hK, hJ, hAA⟩ := id X
  have hl : lv_has ls 3 [(0, .ref (ad 60)), (1, .int a1), (2, .int a2)] := hl
  unfold wX5_renew at h
  refine lv_aload_n (pc := 0) hx hb dX5_renew_0 rfl (lv_at hl 0 rfl) ?_
  refine Cgf_60_0 (pc := 1) X w kw116 dX5_renew_1 ?_
  refine lv_iconst (pc := 4) (v := (0 : Int32)) hx hb dX5_renew_4 (by decide) ?_
  refine Ccallv (rest := []) (CrunS (pc := 5) X w (okJ7_fill_53178_i61 l hJ h) kw117 kmJ7_fill_53178 ⟨rfl, rfl⟩ ⟨by decide, by decide⟩ rfl hl.1 rfl (Nat.le_of_ble_eq_true rfl) dX5_renew_5) w (fun u2 H locs h w => ?_)
  refine lv_aload_n (pc := 8) hx hb dX5_renew_8 rfl (lv_at hl 0 rfl) ?_
  refine lv_iload_n (pc := 9) hx hb dX5_renew_9 rfl (lv_at hl 1 rfl) ?_
  refine Cpf_60_1 (pc := 10) X w kw118 dX5_renew_10 (fun H locs w => ?_)
  obtain ⟨u3, e_⟩ : ∃ y : Mm, y = s32 u2 1061 0 a1 := ⟨_, rfl⟩
  rw [← e_] at w
  have h := h u3 e_
  refine lv_aload_n (pc := 13) hx hb dX5_renew_13 rfl (lv_at hl 0 rfl) ?_
  refine lv_iload_n (pc := 14) hx hb dX5_renew_14 rfl (lv_at hl 2 rfl) ?_
  refine Cpf_60_2 (pc := 15) X w kw119 dX5_renew_15 (fun H locs w => ?_)
  obtain ⟨u4, e_⟩ : ∃ y : Mm, y = s32 u3 1062 0 a2 := ⟨_, rfl⟩
  rw [← e_] at w
  have h := h u4 e_
  refine lv_aload_n (pc := 18) hx hb dX5_renew_18 rfl (lv_at hl 0 rfl) ?_
  refine lv_iconst (pc := 19) (v := (0 : Int32)) hx hb dX5_renew_19 (by decide) ?_
  refine Cpf_60_3 (pc := 20) X w kw120 rfl rfl dX5_renew_20 (fun H locs w => ?_)
  obtain ⟨u5, e_⟩ : ∃ y : Mm, y = s32 u4 1063 0 (0 : Int32) := ⟨_, rfl⟩
  rw [← e_] at w
  have h := h u5 e_
  exact Cvret (pc := 23) X w h dX5_renew_23
set_option maxHeartbeats 4000000 in
set_option maxRecDepth 100000 in
theorem okX5_store_i0 (l : Launch) {D : va_G} {g : Nat → ClassId} {ad : Nat → Nat} (hJ : CJ ad) {u : Mm} {a1 : Int32} {a2 : Int32} {Q : Mm → Prop} (h : wX5_store 0 u a1 a2 Q) : Met l yX5_store (Cond.code yX5_store cX5_store 3 none :: gt) ({ frames := 0, cells := 0, slots := 0, locals := 0 } : Room) (CPc D g ad u [.ref (ad 54), .int a1, .int a2]) (va_Qv Q (CB D g ad) (CA ad)) 0 0 (CA ad) := by
  refine Met.ofW (cc := cX5_store) (maxL := 3) (ret := none) (by decide) rfl ?_
  intro p e s m args below meth c s₁ B hml hv
  refine Centry (own := RX5) B hml hv hJ rfl (Nat.le_of_ble_eq_true rfl) (fun ls H locs X w hl => ?_)
  obtain ⟨⟨hx, hb, hml, hown, hts⟩, hr, hlocks, hK, hJ, hAA⟩ := id X
  have hl : lv_has ls 3 [(0, .ref (ad 54)), (1, .int a1), (2, .int a2)] := hl
  unfold wX5_store at h
  refine lv_aload_n (pc := 0) hx hb dX5_store_0 rfl (lv_at hl 0 rfl) ?_
  refine Cgf_54_0 (pc := 1) X w kw116 dX5_store_1 ?_
  refine lv_iload_n (pc := 4) hx hb dX5_store_4 rfl (lv_at hl 1 rfl) ?_
  refine lv_aload_n (pc := 5) hx hb dX5_store_5 rfl (lv_at hl 0 rfl) ?_
  refine Cgf_54_1 (pc := 6) X w kw118 dX5_store_6 ?_
  refine lv_if_ne (pc := 9) (tgt := 17) hx hb dX5_store_9 (by decide) (fun c_ => ?_) (fun c_ => ?_)
  · have h := h.2 c_
    refine lv_aload_n (pc := 17) hx hb dX5_store_17 rfl (lv_at hl 0 rfl) ?_
    refine Cgf_54_1 (pc := 18) X w kw118 dX5_store_18 ?_
    refine lv_iconst (pc := 21) (v := (1 : Int32)) hx hb dX5_store_21 (by decide) ?_
    refine lv_icmp_ne (pc := 22) (tgt := 30) hx hb dX5_store_22 (by decide) (fun c_ => ?_) (fun c_ => ?_)
    · have h := h.2 c_
      refine lv_iload_n (pc := 30) hx hb dX5_store_30 rfl (lv_at hl 2 rfl) ?_
      refine Cst_55 (pc := 31) X w h.1 dX5_store_31 (fun H locs w => ?_)
      have h := h.2
      obtain ⟨u1, e_⟩ : ∃ y : Mm, y = s32 u 55 a1.toNatClampNeg a2 := ⟨_, rfl⟩
      rw [← e_] at w
      have h := h u1 e_
      exact Cvret (pc := 32) X w h dX5_store_32
    · have h := h.1 c_
      refine lv_iload_n (pc := 25) hx hb dX5_store_25 rfl (lv_at hl 2 rfl) ?_
      refine lv_i2s (pc := 26) hx hb dX5_store_26 rfl ?_
      refine lv_goto (pc := 27) (tgt := 31) hx hb dX5_store_27 (by decide) ?_
      refine Cst_55 (pc := 31) X w h.1 dX5_store_31 (fun H locs w => ?_)
      have h := h.2
      obtain ⟨u2, e_⟩ : ∃ y : Mm, y = s32 u 55 a1.toNatClampNeg a2.toInt16.toInt32 := ⟨_, rfl⟩
      rw [← e_] at w
      have h := h u2 e_
      exact Cvret (pc := 32) X w h dX5_store_32
  · have h := h.1 c_
    refine lv_iload_n (pc := 12) hx hb dX5_store_12 rfl (lv_at hl 2 rfl) ?_
    refine lv_i2b (pc := 13) hx hb dX5_store_13 rfl ?_
    refine lv_goto (pc := 14) (tgt := 31) hx hb dX5_store_14 (by decide) ?_
    refine Cst_55 (pc := 31) X w h.1 dX5_store_31 (fun H locs w => ?_)
    have h := h.2
    obtain ⟨u3, e_⟩ : ∃ y : Mm, y = s32 u 55 a1.toNatClampNeg a2.toInt8.toInt32 := ⟨_, rfl⟩
    rw [← e_] at w
    have h := h u3 e_
    exact Cvret (pc := 32) X w h dX5_store_32
set_option maxHeartbeats 4000000 in
set_option maxRecDepth 100000 in
theorem okX5_store_i1 (l : Launch) {D : va_G} {g : Nat → ClassId} {ad : Nat → Nat} (hJ : CJ ad) {u : Mm} {a1 : Int32} {a2 : Int32} {Q : Mm → Prop} (h : wX5_store 1 u a1 a2 Q) : Met l yX5_store (Cond.code yX5_store cX5_store 3 none :: gt) ({ frames := 0, cells := 0, slots := 0, locals := 0 } : Room) (CPc D g ad u [.ref (ad 56), .int a1, .int a2]) (va_Qv Q (CB D g ad) (CA ad)) 0 0 (CA ad) := by
  refine Met.ofW (cc := cX5_store) (maxL := 3) (ret := none) (by decide) rfl ?_
  intro p e s m args below meth c s₁ B hml hv
  refine Centry (own := RX5) B hml hv hJ rfl (Nat.le_of_ble_eq_true rfl) (fun ls H locs X w hl => ?_)
  obtain ⟨⟨hx, hb, hml, hown, hts⟩, hr, hlocks, hK, hJ, hAA⟩ := id X
  have hl : lv_has ls 3 [(0, .ref (ad 56)), (1, .int a1), (2, .int a2)] := hl
  unfold wX5_store at h
  refine lv_aload_n (pc := 0) hx hb dX5_store_0 rfl (lv_at hl 0 rfl) ?_
  refine Cgf_56_0 (pc := 1) X w kw116 dX5_store_1 ?_
  refine lv_iload_n (pc := 4) hx hb dX5_store_4 rfl (lv_at hl 1 rfl) ?_
  refine lv_aload_n (pc := 5) hx hb dX5_store_5 rfl (lv_at hl 0 rfl) ?_
  refine Cgf_56_1 (pc := 6) X w kw118 dX5_store_6 ?_
  refine lv_if_ne (pc := 9) (tgt := 17) hx hb dX5_store_9 (by decide) (fun c_ => ?_) (fun c_ => ?_)
  · have h := h.2 c_
    refine lv_aload_n (pc := 17) hx hb dX5_store_17 rfl (lv_at hl 0 rfl) ?_
    refine Cgf_56_1 (pc := 18) X w kw118 dX5_store_18 ?_
    refine lv_iconst (pc := 21) (v := (1 : Int32)) hx hb dX5_store_21 (by decide) ?_
    refine lv_icmp_ne (pc := 22) (tgt := 30) hx hb dX5_store_22 (by decide) (fun c_ => ?_) (fun c_ => ?_)
    · have h := h.2 c_
      refine lv_iload_n (pc := 30) hx hb dX5_store_30 rfl (lv_at hl 2 rfl) ?_
      refine Cst_57 (pc := 31) X w h.1 dX5_store_31 (fun H locs w => ?_)
      have h := h.2
      obtain ⟨u1, e_⟩ : ∃ y : Mm, y = s32 u 57 a1.toNatClampNeg a2 := ⟨_, rfl⟩
      rw [← e_] at w
      have h := h u1 e_
      exact Cvret (pc := 32) X w h dX5_store_32
    · have h := h.1 c_
      refine lv_iload_n (pc := 25) hx hb dX5_store_25 rfl (lv_at hl 2 rfl) ?_
      refine lv_i2s (pc := 26) hx hb dX5_store_26 rfl ?_
      refine lv_goto (pc := 27) (tgt := 31) hx hb dX5_store_27 (by decide) ?_
      refine Cst_57 (pc := 31) X w h.1 dX5_store_31 (fun H locs w => ?_)
      have h := h.2
      obtain ⟨u2, e_⟩ : ∃ y : Mm, y = s32 u 57 a1.toNatClampNeg a2.toInt16.toInt32 := ⟨_, rfl⟩
      rw [← e_] at w
      have h := h u2 e_
      exact Cvret (pc := 32) X w h dX5_store_32
  · have h := h.1 c_
    refine lv_iload_n (pc := 12) hx hb dX5_store_12 rfl (lv_at hl 2 rfl) ?_
    refine lv_i2b (pc := 13) hx hb dX5_store_13 rfl ?_
    refine lv_goto (pc := 14) (tgt := 31) hx hb dX5_store_14 (by decide) ?_
    refine Cst_57 (pc := 31) X w h.1 dX5_store_31 (fun H locs w => ?_)
    have h := h.2
    obtain ⟨u3, e_⟩ : ∃ y : Mm, y = s32 u 57 a1.toNatClampNeg a2.toInt8.toInt32 := ⟨_, rfl⟩
    rw [← e_] at w
    have h := h u3 e_
    exact Cvret (pc := 32) X w h dX5_store_32
set_option maxHeartbeats 4000000 in
set_option maxRecDepth 100000 in
theorem okX5_store_i2 (l : Launch) {D : va_G} {g : Nat → ClassId} {ad : Nat → Nat} (hJ : CJ ad) {u : Mm} {a1 : Int32} {a2 : Int32} {Q : Mm → Prop} (h : wX5_store 2 u a1 a2 Q) : Met l yX5_store (Cond.code yX5_store cX5_store 3 none :: gt) ({ frames := 0, cells := 0, slots := 0, locals := 0 } : Room) (CPc D g ad u [.ref (ad 58), .int a1, .int a2]) (va_Qv Q (CB D g ad) (CA ad)) 0 0 (CA ad) := by
  refine Met.ofW (cc := cX5_store) (maxL := 3) (ret := none) (by decide) rfl ?_
  intro p e s m args below meth c s₁ B hml hv
  refine Centry (own := RX5) B hml hv hJ rfl (Nat.le_of_ble_eq_true rfl) (fun ls H locs X w hl => ?_)
  obtain ⟨⟨hx, hb, hml, hown, hts⟩, hr, hlocks, hK, hJ, hAA⟩ := id X
  have hl : lv_has ls 3 [(0, .ref (ad 58)), (1, .int a1), (2, .int a2)] := hl
  unfold wX5_store at h
  refine lv_aload_n (pc := 0) hx hb dX5_store_0 rfl (lv_at hl 0 rfl) ?_
  refine Cgf_58_0 (pc := 1) X w kw116 dX5_store_1 ?_
  refine lv_iload_n (pc := 4) hx hb dX5_store_4 rfl (lv_at hl 1 rfl) ?_
  refine lv_aload_n (pc := 5) hx hb dX5_store_5 rfl (lv_at hl 0 rfl) ?_
  refine Cgf_58_1 (pc := 6) X w kw118 dX5_store_6 ?_
  refine lv_if_ne (pc := 9) (tgt := 17) hx hb dX5_store_9 (by decide) (fun c_ => ?_) (fun c_ => ?_)
  · have h := h.2 c_
    refine lv_aload_n (pc := 17) hx hb dX5_store_17 rfl (lv_at hl 0 rfl) ?_
    refine Cgf_58_1 (pc := 18) X w kw118 dX5_store_18 ?_
    refine lv_iconst (pc := 21) (v := (1 : Int32)) hx hb dX5_store_21 (by decide) ?_
    refine lv_icmp_ne (pc := 22) (tgt := 30) hx hb dX5_store_22 (by decide) (fun c_ => ?_) (fun c_ => ?_)
    · have h := h.2 c_
      refine lv_iload_n (pc := 30) hx hb dX5_store_30 rfl (lv_at hl 2 rfl) ?_
      refine Cst_59 (pc := 31) X w h.1 dX5_store_31 (fun H locs w => ?_)
      have h := h.2
      obtain ⟨u1, e_⟩ : ∃ y : Mm, y = s32 u 59 a1.toNatClampNeg a2 := ⟨_, rfl⟩
      rw [← e_] at w
      have h := h u1 e_
      exact Cvret (pc := 32) X w h dX5_store_32
    · have h := h.1 c_
      refine lv_iload_n (pc := 25) hx hb dX5_store_25 rfl (lv_at hl 2 rfl) ?_
      refine lv_i2s (pc := 26) hx hb dX5_store_26 rfl ?_
      refine lv_goto (pc := 27) (tgt := 31) hx hb dX5_store_27 (by decide) ?_
      refine Cst_59 (pc := 31) X w h.1 dX5_store_31 (fun H locs w => ?_)
      have h := h.2
      obtain ⟨u2, e_⟩ : ∃ y : Mm, y = s32 u 59 a1.toNatClampNeg a2.toInt16.toInt32 := ⟨_, rfl⟩
      rw [← e_] at w
      have h := h u2 e_
      exact Cvret (pc := 32) X w h dX5_store_32
  · have h := h.1 c_
    refine lv_iload_n (pc := 12) hx hb dX5_store_12 rfl (lv_at hl 2 rfl) ?_
    refine lv_i2b (pc := 13) hx hb dX5_store_13 rfl ?_
    refine lv_goto (pc := 14) (tgt := 31) hx hb dX5_store_14 (by decide) ?_
    refine Cst_59 (pc := 31) X w h.1 dX5_store_31 (fun H locs w => ?_)
    have h := h.2
    obtain ⟨u3, e_⟩ : ∃ y : Mm, y = s32 u 59 a1.toNatClampNeg a2.toInt8.toInt32 := ⟨_, rfl⟩
    rw [← e_] at w
    have h := h u3 e_
    exact Cvret (pc := 32) X w h dX5_store_32
set_option maxHeartbeats 4000000 in
set_option maxRecDepth 100000 in
theorem okX5_store_i3 (l : Launch) {D : va_G} {g : Nat → ClassId} {ad : Nat → Nat} (hJ : CJ ad) {u : Mm} {a1 : Int32} {a2 : Int32} {Q : Mm → Prop} (h : wX5_store 3 u a1 a2 Q) : Met l yX5_store (Cond.code yX5_store cX5_store 3 none :: gt) ({ frames := 0, cells := 0, slots := 0, locals := 0 } : Room) (CPc D g ad u [.ref (ad 60), .int a1, .int a2]) (va_Qv Q (CB D g ad) (CA ad)) 0 0 (CA ad) := by
  refine Met.ofW (cc := cX5_store) (maxL := 3) (ret := none) (by decide) rfl ?_
  intro p e s m args below meth c s₁ B hml hv
  refine Centry (own := RX5) B hml hv hJ rfl (Nat.le_of_ble_eq_true rfl) (fun ls H locs X w hl => ?_)
  obtain ⟨⟨hx, hb, hml, hown, hts⟩, hr, hlocks, hK, hJ, hAA⟩ := id X
  have hl : lv_has ls 3 [(0, .ref (ad 60)), (1, .int a1), (2, .int a2)] := hl
  unfold wX5_store at h
  refine lv_aload_n (pc := 0) hx hb dX5_store_0 rfl (lv_at hl 0 rfl) ?_
  refine Cgf_60_0 (pc := 1) X w kw116 dX5_store_1 ?_
  refine lv_iload_n (pc := 4) hx hb dX5_store_4 rfl (lv_at hl 1 rfl) ?_
  refine lv_aload_n (pc := 5) hx hb dX5_store_5 rfl (lv_at hl 0 rfl) ?_
  refine Cgf_60_1 (pc := 6) X w kw118 dX5_store_6 ?_
  refine lv_if_ne (pc := 9) (tgt := 17) hx hb dX5_store_9 (by decide) (fun c_ => ?_) (fun c_ => ?_)
  · have h := h.2 c_
    refine lv_aload_n (pc := 17) hx hb dX5_store_17 rfl (lv_at hl 0 rfl) ?_
    refine Cgf_60_1 (pc := 18) X w kw118 dX5_store_18 ?_
    refine lv_iconst (pc := 21) (v := (1 : Int32)) hx hb dX5_store_21 (by decide) ?_
    refine lv_icmp_ne (pc := 22) (tgt := 30) hx hb dX5_store_22 (by decide) (fun c_ => ?_) (fun c_ => ?_)
    · have h := h.2 c_
      refine lv_iload_n (pc := 30) hx hb dX5_store_30 rfl (lv_at hl 2 rfl) ?_
      refine Cst_61 (pc := 31) X w h.1 dX5_store_31 (fun H locs w => ?_)
      have h := h.2
      obtain ⟨u1, e_⟩ : ∃ y : Mm, y = s32 u 61 a1.toNatClampNeg a2 := ⟨_, rfl⟩
      rw [← e_] at w
      have h := h u1 e_
      exact Cvret (pc := 32) X w h dX5_store_32
    · have h := h.1 c_
      refine lv_iload_n (pc := 25) hx hb dX5_store_25 rfl (lv_at hl 2 rfl) ?_
      refine lv_i2s (pc := 26) hx hb dX5_store_26 rfl ?_
      refine lv_goto (pc := 27) (tgt := 31) hx hb dX5_store_27 (by decide) ?_
      refine Cst_61 (pc := 31) X w h.1 dX5_store_31 (fun H locs w => ?_)
      have h := h.2
      obtain ⟨u2, e_⟩ : ∃ y : Mm, y = s32 u 61 a1.toNatClampNeg a2.toInt16.toInt32 := ⟨_, rfl⟩
      rw [← e_] at w
      have h := h u2 e_
      exact Cvret (pc := 32) X w h dX5_store_32
  · have h := h.1 c_
    refine lv_iload_n (pc := 12) hx hb dX5_store_12 rfl (lv_at hl 2 rfl) ?_
    refine lv_i2b (pc := 13) hx hb dX5_store_13 rfl ?_
    refine lv_goto (pc := 14) (tgt := 31) hx hb dX5_store_14 (by decide) ?_
    refine Cst_61 (pc := 31) X w h.1 dX5_store_31 (fun H locs w => ?_)
    have h := h.2
    obtain ⟨u3, e_⟩ : ∃ y : Mm, y = s32 u 61 a1.toNatClampNeg a2.toInt8.toInt32 := ⟨_, rfl⟩
    rw [← e_] at w
    have h := h u3 e_
    exact Cvret (pc := 32) X w h dX5_store_32
set_option maxHeartbeats 4000000 in
set_option maxRecDepth 100000 in
theorem okX5_holds_i0 (l : Launch) {D : va_G} {g : Nat → ClassId} {ad : Nat → Nat} (hJ : CJ ad) {u : Mm} {a1 : Int32} {a2 : Int32} {Q : Int32 → Prop} (h : wX5_holds 0 u a1 a2 Q) : Met l yX5_holds (Cond.code yX5_holds cX5_holds 3 (some .boolean) :: gt) ({ frames := 0, cells := 0, slots := 0, locals := 0 } : Room) (CPc D g ad u [.ref (ad 54), .int a1, .int a2]) (va_Qi (fun r u1 => bz r ∧ (u = u1 ∧ Q r)) (CB D g ad) (CA ad)) 0 0 (CA ad) := by
  refine Met.ofW (cc := cX5_holds) (maxL := 3) (ret := (some .boolean)) (by decide) rfl ?_
  intro p e s m args below meth c s₁ B hml hv
  refine Centry (own := RX5) B hml hv hJ rfl (Nat.le_of_ble_eq_true rfl) (fun ls H locs X w hl => ?_)
  obtain ⟨⟨hx, hb, hml, hown, hts⟩, hr, hlocks, hK, hJ, hAA⟩ := id X
  have hl : lv_has ls 3 [(0, .ref (ad 54)), (1, .int a1), (2, .int a2)] := hl
  unfold wX5_holds at h
  refine lv_iload_n (pc := 0) hx hb dX5_holds_0 rfl (lv_at hl 1 rfl) ?_
  refine lv_if_lt (pc := 1) (tgt := 30) hx hb dX5_holds_1 (by decide) (fun c_ => ?_) (fun c_ => ?_)
  · have h := h.1 c_
    refine lv_iconst (pc := 30) (v := (0 : Int32)) hx hb dX5_holds_30 (by decide) ?_
    exact Czret (pc := 31) X w rfl ⟨rfl, h⟩ dX5_holds_31
  · have h := h.2 c_
    refine lv_iload_n (pc := 4) hx hb dX5_holds_4 rfl (lv_at hl 2 rfl) ?_
    refine lv_if_lt (pc := 5) (tgt := 30) hx hb dX5_holds_5 (by decide) (fun c_ => ?_) (fun c_ => ?_)
    · have h := h.1 c_
      refine lv_iconst (pc := 30) (v := (0 : Int32)) hx hb dX5_holds_30 (by decide) ?_
      exact Czret (pc := 31) X w rfl ⟨rfl, h⟩ dX5_holds_31
    · have h := h.2 c_
      refine lv_iload_n (pc := 8) hx hb dX5_holds_8 rfl (lv_at hl 1 rfl) ?_
      refine lv_aload_n (pc := 9) hx hb dX5_holds_9 rfl (lv_at hl 0 rfl) ?_
      refine Cgf_54_2 (pc := 10) X w kw119 dX5_holds_10 ?_
      refine lv_icmp_gt (pc := 13) (tgt := 30) hx hb dX5_holds_13 (by decide) (fun c_ => ?_) (fun c_ => ?_)
      · have h := h.1 c_
        refine lv_iconst (pc := 30) (v := (0 : Int32)) hx hb dX5_holds_30 (by decide) ?_
        exact Czret (pc := 31) X w rfl ⟨rfl, h⟩ dX5_holds_31
      · have h := h.2 c_
        refine lv_iload_n (pc := 16) hx hb dX5_holds_16 rfl (lv_at hl 2 rfl) ?_
        refine lv_aload_n (pc := 17) hx hb dX5_holds_17 rfl (lv_at hl 0 rfl) ?_
        refine Cgf_54_2 (pc := 18) X w kw119 dX5_holds_18 ?_
        refine lv_iload_n (pc := 21) hx hb dX5_holds_21 rfl (lv_at hl 1 rfl) ?_
        refine lv_isub (pc := 22) hx hb dX5_holds_22 ?_
        refine lv_icmp_gt (pc := 23) (tgt := 30) hx hb dX5_holds_23 (by decide) (fun c_ => ?_) (fun c_ => ?_)
        · have h := h.1 c_
          refine lv_iconst (pc := 30) (v := (0 : Int32)) hx hb dX5_holds_30 (by decide) ?_
          exact Czret (pc := 31) X w rfl ⟨rfl, h⟩ dX5_holds_31
        · have h := h.2 c_
          refine lv_iconst (pc := 26) (v := (1 : Int32)) hx hb dX5_holds_26 (by decide) ?_
          refine lv_goto (pc := 27) (tgt := 31) hx hb dX5_holds_27 (by decide) ?_
          exact Czret (pc := 31) X w rfl ⟨rfl, h⟩ dX5_holds_31
set_option maxHeartbeats 4000000 in
set_option maxRecDepth 100000 in
theorem okX5_holds_i1 (l : Launch) {D : va_G} {g : Nat → ClassId} {ad : Nat → Nat} (hJ : CJ ad) {u : Mm} {a1 : Int32} {a2 : Int32} {Q : Int32 → Prop} (h : wX5_holds 1 u a1 a2 Q) : Met l yX5_holds (Cond.code yX5_holds cX5_holds 3 (some .boolean) :: gt) ({ frames := 0, cells := 0, slots := 0, locals := 0 } : Room) (CPc D g ad u [.ref (ad 56), .int a1, .int a2]) (va_Qi (fun r u1 => bz r ∧ (u = u1 ∧ Q r)) (CB D g ad) (CA ad)) 0 0 (CA ad) := by
  refine Met.ofW (cc := cX5_holds) (maxL := 3) (ret := (some .boolean)) (by decide) rfl ?_
  intro p e s m args below meth c s₁ B hml hv
  refine Centry (own := RX5) B hml hv hJ rfl (Nat.le_of_ble_eq_true rfl) (fun ls H locs X w hl => ?_)
  obtain ⟨⟨hx, hb, hml, hown, hts⟩, hr, hlocks, hK, hJ, hAA⟩ := id X
  have hl : lv_has ls 3 [(0, .ref (ad 56)), (1, .int a1), (2, .int a2)] := hl
  unfold wX5_holds at h
  refine lv_iload_n (pc := 0) hx hb dX5_holds_0 rfl (lv_at hl 1 rfl) ?_
  refine lv_if_lt (pc := 1) (tgt := 30) hx hb dX5_holds_1 (by decide) (fun c_ => ?_) (fun c_ => ?_)
  · have h := h.1 c_
    refine lv_iconst (pc := 30) (v := (0 : Int32)) hx hb dX5_holds_30 (by decide) ?_
    exact Czret (pc := 31) X w rfl ⟨rfl, h⟩ dX5_holds_31
  · have h := h.2 c_
    refine lv_iload_n (pc := 4) hx hb dX5_holds_4 rfl (lv_at hl 2 rfl) ?_
    refine lv_if_lt (pc := 5) (tgt := 30) hx hb dX5_holds_5 (by decide) (fun c_ => ?_) (fun c_ => ?_)
    · have h := h.1 c_
      refine lv_iconst (pc := 30) (v := (0 : Int32)) hx hb dX5_holds_30 (by decide) ?_
      exact Czret (pc := 31) X w rfl ⟨rfl, h⟩ dX5_holds_31
    · have h := h.2 c_
      refine lv_iload_n (pc := 8) hx hb dX5_holds_8 rfl (lv_at hl 1 rfl) ?_
      refine lv_aload_n (pc := 9) hx hb dX5_holds_9 rfl (lv_at hl 0 rfl) ?_
      refine Cgf_56_2 (pc := 10) X w kw119 dX5_holds_10 ?_
      refine lv_icmp_gt (pc := 13) (tgt := 30) hx hb dX5_holds_13 (by decide) (fun c_ => ?_) (fun c_ => ?_)
      · have h := h.1 c_
        refine lv_iconst (pc := 30) (v := (0 : Int32)) hx hb dX5_holds_30 (by decide) ?_
        exact Czret (pc := 31) X w rfl ⟨rfl, h⟩ dX5_holds_31
      · have h := h.2 c_
        refine lv_iload_n (pc := 16) hx hb dX5_holds_16 rfl (lv_at hl 2 rfl) ?_
        refine lv_aload_n (pc := 17) hx hb dX5_holds_17 rfl (lv_at hl 0 rfl) ?_
        refine Cgf_56_2 (pc := 18) X w kw119 dX5_holds_18 ?_
        refine lv_iload_n (pc := 21) hx hb dX5_holds_21 rfl (lv_at hl 1 rfl) ?_
        refine lv_isub (pc := 22) hx hb dX5_holds_22 ?_
        refine lv_icmp_gt (pc := 23) (tgt := 30) hx hb dX5_holds_23 (by decide) (fun c_ => ?_) (fun c_ => ?_)
        · have h := h.1 c_
          refine lv_iconst (pc := 30) (v := (0 : Int32)) hx hb dX5_holds_30 (by decide) ?_
          exact Czret (pc := 31) X w rfl ⟨rfl, h⟩ dX5_holds_31
        · have h := h.2 c_
          refine lv_iconst (pc := 26) (v := (1 : Int32)) hx hb dX5_holds_26 (by decide) ?_
          refine lv_goto (pc := 27) (tgt := 31) hx hb dX5_holds_27 (by decide) ?_
          exact Czret (pc := 31) X w rfl ⟨rfl, h⟩ dX5_holds_31
set_option maxHeartbeats 4000000 in
set_option maxRecDepth 100000 in
theorem okX5_holds_i2 (l : Launch) {D : va_G} {g : Nat → ClassId} {ad : Nat → Nat} (hJ : CJ ad) {u : Mm} {a1 : Int32} {a2 : Int32} {Q : Int32 → Prop} (h : wX5_holds 2 u a1 a2 Q) : Met l yX5_holds (Cond.code yX5_holds cX5_holds 3 (some .boolean) :: gt) ({ frames := 0, cells := 0, slots := 0, locals := 0 } : Room) (CPc D g ad u [.ref (ad 58), .int a1, .int a2]) (va_Qi (fun r u1 => bz r ∧ (u = u1 ∧ Q r)) (CB D g ad) (CA ad)) 0 0 (CA ad) := by
  refine Met.ofW (cc := cX5_holds) (maxL := 3) (ret := (some .boolean)) (by decide) rfl ?_
  intro p e s m args below meth c s₁ B hml hv
  refine Centry (own := RX5) B hml hv hJ rfl (Nat.le_of_ble_eq_true rfl) (fun ls H locs X w hl => ?_)
  obtain ⟨⟨hx, hb, hml, hown, hts⟩, hr, hlocks, hK, hJ, hAA⟩ := id X
  have hl : lv_has ls 3 [(0, .ref (ad 58)), (1, .int a1), (2, .int a2)] := hl
  unfold wX5_holds at h
  refine lv_iload_n (pc := 0) hx hb dX5_holds_0 rfl (lv_at hl 1 rfl) ?_
  refine lv_if_lt (pc := 1) (tgt := 30) hx hb dX5_holds_1 (by decide) (fun c_ => ?_) (fun c_ => ?_)
  · have h := h.1 c_
    refine lv_iconst (pc := 30) (v := (0 : Int32)) hx hb dX5_holds_30 (by decide) ?_
    exact Czret (pc := 31) X w rfl ⟨rfl, h⟩ dX5_holds_31
  · have h := h.2 c_
    refine lv_iload_n (pc := 4) hx hb dX5_holds_4 rfl (lv_at hl 2 rfl) ?_
    refine lv_if_lt (pc := 5) (tgt := 30) hx hb dX5_holds_5 (by decide) (fun c_ => ?_) (fun c_ => ?_)
    · have h := h.1 c_
      refine lv_iconst (pc := 30) (v := (0 : Int32)) hx hb dX5_holds_30 (by decide) ?_
      exact Czret (pc := 31) X w rfl ⟨rfl, h⟩ dX5_holds_31
    · have h := h.2 c_
      refine lv_iload_n (pc := 8) hx hb dX5_holds_8 rfl (lv_at hl 1 rfl) ?_
      refine lv_aload_n (pc := 9) hx hb dX5_holds_9 rfl (lv_at hl 0 rfl) ?_
      refine Cgf_58_2 (pc := 10) X w kw119 dX5_holds_10 ?_
      refine lv_icmp_gt (pc := 13) (tgt := 30) hx hb dX5_holds_13 (by decide) (fun c_ => ?_) (fun c_ => ?_)
      · have h := h.1 c_
        refine lv_iconst (pc := 30) (v := (0 : Int32)) hx hb dX5_holds_30 (by decide) ?_
        exact Czret (pc := 31) X w rfl ⟨rfl, h⟩ dX5_holds_31
      · have h := h.2 c_
        refine lv_iload_n (pc := 16) hx hb dX5_holds_16 rfl (lv_at hl 2 rfl) ?_
        refine lv_aload_n (pc := 17) hx hb dX5_holds_17 rfl (lv_at hl 0 rfl) ?_
        refine Cgf_58_2 (pc := 18) X w kw119 dX5_holds_18 ?_
        refine lv_iload_n (pc := 21) hx hb dX5_holds_21 rfl (lv_at hl 1 rfl) ?_
        refine lv_isub (pc := 22) hx hb dX5_holds_22 ?_
        refine lv_icmp_gt (pc := 23) (tgt := 30) hx hb dX5_holds_23 (by decide) (fun c_ => ?_) (fun c_ => ?_)
        · have h := h.1 c_
          refine lv_iconst (pc := 30) (v := (0 : Int32)) hx hb dX5_holds_30 (by decide) ?_
          exact Czret (pc := 31) X w rfl ⟨rfl, h⟩ dX5_holds_31
        · have h := h.2 c_
          refine lv_iconst (pc := 26) (v := (1 : Int32)) hx hb dX5_holds_26 (by decide) ?_
          refine lv_goto (pc := 27) (tgt := 31) hx hb dX5_holds_27 (by decide) ?_
          exact Czret (pc := 31) X w rfl ⟨rfl, h⟩ dX5_holds_31
set_option maxHeartbeats 4000000 in
set_option maxRecDepth 100000 in
theorem okX5_holds_i3 (l : Launch) {D : va_G} {g : Nat → ClassId} {ad : Nat → Nat} (hJ : CJ ad) {u : Mm} {a1 : Int32} {a2 : Int32} {Q : Int32 → Prop} (h : wX5_holds 3 u a1 a2 Q) : Met l yX5_holds (Cond.code yX5_holds cX5_holds 3 (some .boolean) :: gt) ({ frames := 0, cells := 0, slots := 0, locals := 0 } : Room) (CPc D g ad u [.ref (ad 60), .int a1, .int a2]) (va_Qi (fun r u1 => bz r ∧ (u = u1 ∧ Q r)) (CB D g ad) (CA ad)) 0 0 (CA ad) := by
  refine Met.ofW (cc := cX5_holds) (maxL := 3) (ret := (some .boolean)) (by decide) rfl ?_
  intro p e s m args below meth c s₁ B hml hv
  refine Centry (own := RX5) B hml hv hJ rfl (Nat.le_of_ble_eq_true rfl) (fun ls H locs X w hl => ?_)
  obtain ⟨⟨hx, hb, hml, hown, hts⟩, hr, hlocks, hK, hJ, hAA⟩ := id X
  have hl : lv_has ls 3 [(0, .ref (ad 60)), (1, .int a1), (2, .int a2)] := hl
  unfold wX5_holds at h
  refine lv_iload_n (pc := 0) hx hb dX5_holds_0 rfl (lv_at hl 1 rfl) ?_
  refine lv_if_lt (pc := 1) (tgt := 30) hx hb dX5_holds_1 (by decide) (fun c_ => ?_) (fun c_ => ?_)
  · have h := h.1 c_
    refine lv_iconst (pc := 30) (v := (0 : Int32)) hx hb dX5_holds_30 (by decide) ?_
    exact Czret (pc := 31) X w rfl ⟨rfl, h⟩ dX5_holds_31
  · have h := h.2 c_
    refine lv_iload_n (pc := 4) hx hb dX5_holds_4 rfl (lv_at hl 2 rfl) ?_
    refine lv_if_lt (pc := 5) (tgt := 30) hx hb dX5_holds_5 (by decide) (fun c_ => ?_) (fun c_ => ?_)
    · have h := h.1 c_
      refine lv_iconst (pc := 30) (v := (0 : Int32)) hx hb dX5_holds_30 (by decide) ?_
      exact Czret (pc := 31) X w rfl ⟨rfl, h⟩ dX5_holds_31
    · have h := h.2 c_
      refine lv_iload_n (pc := 8) hx hb dX5_holds_8 rfl (lv_at hl 1 rfl) ?_
      refine lv_aload_n (pc := 9) hx hb dX5_holds_9 rfl (lv_at hl 0 rfl) ?_
      refine Cgf_60_2 (pc := 10) X w kw119 dX5_holds_10 ?_
      refine lv_icmp_gt (pc := 13) (tgt := 30) hx hb dX5_holds_13 (by decide) (fun c_ => ?_) (fun c_ => ?_)
      · have h := h.1 c_
        refine lv_iconst (pc := 30) (v := (0 : Int32)) hx hb dX5_holds_30 (by decide) ?_
        exact Czret (pc := 31) X w rfl ⟨rfl, h⟩ dX5_holds_31
      · have h := h.2 c_
        refine lv_iload_n (pc := 16) hx hb dX5_holds_16 rfl (lv_at hl 2 rfl) ?_
        refine lv_aload_n (pc := 17) hx hb dX5_holds_17 rfl (lv_at hl 0 rfl) ?_
        refine Cgf_60_2 (pc := 18) X w kw119 dX5_holds_18 ?_
        refine lv_iload_n (pc := 21) hx hb dX5_holds_21 rfl (lv_at hl 1 rfl) ?_
        refine lv_isub (pc := 22) hx hb dX5_holds_22 ?_
        refine lv_icmp_gt (pc := 23) (tgt := 30) hx hb dX5_holds_23 (by decide) (fun c_ => ?_) (fun c_ => ?_)
        · have h := h.1 c_
          refine lv_iconst (pc := 30) (v := (0 : Int32)) hx hb dX5_holds_30 (by decide) ?_
          exact Czret (pc := 31) X w rfl ⟨rfl, h⟩ dX5_holds_31
        · have h := h.2 c_
          refine lv_iconst (pc := 26) (v := (1 : Int32)) hx hb dX5_holds_26 (by decide) ?_
          refine lv_goto (pc := 27) (tgt := 31) hx hb dX5_holds_27 (by decide) ?_
          exact Czret (pc := 31) X w rfl ⟨rfl, h⟩ dX5_holds_31
