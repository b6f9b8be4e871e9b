set_option maxHeartbeats 4000000 in
set_option maxRecDepth 100000 in
theorem okX9_in (l : Launch) {D : va_G} {g : Nat → ClassId} {ad : Nat → Nat} (hJ : RJ ad) {u : Mm} {a0 : Int64} {a2 : Int64} {a4 : Int64} {Q : Int32 → Prop} (h : wX9_in a0 a2 a4 Q) : Met l yX9_in (Cond.code yX9_in cX9_in 6 (some .boolean) :: gt) ({ frames := 0, cells := 0, slots := 0, locals := 0 } : Room) (RPc D g ad u [.long a0, .long a2, .long a4]) (va_Qi (fun r u1 => bz r ∧ (u = u1 ∧ Q r)) (RB D g ad) (RA ad)) 0 0 (RA ad) := by
  refine Met.ofW (cc := cX9_in) (maxL := 6) (ret := (some .boolean)) (by decide) rfl ?_
  intro p e s m args below meth c s₁ B hml hv
  refine Rentry (own := RX9) B hml hv hJ rfl (Nat.le_of_ble_eq_true rfl) (fun ls H locs X w hl => ?_)
  obtain ⟨⟨hx, hb, hml, hown, hts⟩, hr, hlocks, hK, hJ, hAA⟩ := id X
  have hl : lv_has ls 6 [(0, .long a0), (2, .long a2), (4, .long a4)] := hl
  unfold wX9_in at h
  refine lv_lload_n (pc := 0) hx hb dX9_in_0 rfl (lv_at hl 0 rfl) ?_
  refine lv_lload_n (pc := 1) hx hb dX9_in_1 rfl (lv_at hl 1 rfl) ?_
  refine lq_lt (pc := 2) (tgt := 17) hx hb dX9_in_2 dX9_in_3 (by decide) (fun c_ => ?_) (fun c_ => ?_)
  · have h := h.1 c_
    refine lv_iconst (pc := 17) (v := (0 : Int32)) hx hb dX9_in_17 (by decide) ?_
    exact Rzret (pc := 18) X w rfl ⟨rfl, h⟩ dX9_in_18
  · have h := h.2 c_
    refine lv_lload_n (pc := 6) hx hb dX9_in_6 rfl (lv_at hl 0 rfl) ?_
    refine lv_lload (pc := 7) hx hb dX9_in_7 (lv_at hl 2 rfl) ?_
    refine lq_gt (pc := 9) (tgt := 17) hx hb dX9_in_9 dX9_in_10 (by decide) (fun c_ => ?_) (fun c_ => ?_)
    · have h := h.1 c_
      refine lv_iconst (pc := 17) (v := (0 : Int32)) hx hb dX9_in_17 (by decide) ?_
      exact Rzret (pc := 18) X w rfl ⟨rfl, h⟩ dX9_in_18
    · have h := h.2 c_
      refine lv_iconst (pc := 13) (v := (1 : Int32)) hx hb dX9_in_13 (by decide) ?_
      refine lv_goto (pc := 14) (tgt := 18) hx hb dX9_in_14 (by decide) ?_
      exact Rzret (pc := 18) X w rfl ⟨rfl, h⟩ dX9_in_18
set_option maxHeartbeats 4000000 in
set_option maxRecDepth 100000 in
theorem okX9_floor (l : Launch) {D : va_G} {g : Nat → ClassId} {ad : Nat → Nat} (hJ : RJ ad) {u : Mm} {a0 : Int64} {a2 : Int64} {Q : Int64 → Prop} (h : wX9_floor a0 a2 Q) : Met l yX9_floor (Cond.code yX9_floor cX9_floor 6 (some .long) :: gt) ({ frames := 0, cells := 0, slots := 0, locals := 0 } : Room) (RPc D g ad u [.long a0, .long a2]) (va_Ql (fun r u1 => u = u1 ∧ Q r) (RB D g ad) (RA ad)) 0 0 (RA ad) := by
  refine Met.ofW (cc := cX9_floor) (maxL := 6) (ret := (some .long)) (by decide) rfl ?_
  intro p e s m args below meth c s₁ B hml hv
  refine Rentry (own := RX9) B hml hv hJ rfl (Nat.le_of_ble_eq_true rfl) (fun ls H locs X w hl => ?_)
  obtain ⟨⟨hx, hb, hml, hown, hts⟩, hr, hlocks, hK, hJ, hAA⟩ := id X
  have hl : lv_has ls 6 [(0, .long a0), (2, .long a2)] := hl
  unfold wX9_floor at h
  refine lv_lload_n (pc := 0) hx hb dX9_floor_0 rfl (lv_at hl 0 rfl) ?_
  refine lv_lload_n (pc := 1) hx hb dX9_floor_1 rfl (lv_at hl 1 rfl) ?_
  refine lv_ldiv (pc := 2) hx hb dX9_floor_2 h.1 ?_
  have h := h.2
  refine lv_topl (fun x4_1 e_ => ?_)
  have h := h x4_1 e_
  refine lv_lstore (pc := 3) (lv' := [(4, .long x4_1), (0, .long a0), (2, .long a2)]) hx hb dX9_floor_3 hl (by decide) rfl (fun ls hl => ?_)
  refine lv_lload_n (pc := 5) hx hb dX9_floor_5 rfl (lv_at hl 1 rfl) ?_
  refine lv_lload_n (pc := 6) hx hb dX9_floor_6 rfl (lv_at hl 2 rfl) ?_
  refine lv_lrem (pc := 7) hx hb dX9_floor_7 h.1 ?_
  have h := h.2
  refine lv_lconst (pc := 8) (v := (0 : Int64)) hx hb dX9_floor_8 (by decide) ?_
  refine lq_ge (pc := 9) (tgt := 20) hx hb dX9_floor_9 dX9_floor_10 (by decide) (fun c_ => ?_) (fun c_ => ?_)
  · have h := h.1 c_
    refine lv_lload (pc := 20) hx hb dX9_floor_20 (lv_at hl 0 rfl) ?_
    exact Rlret (pc := 22) X w ⟨rfl, h⟩ dX9_floor_22
  · have h := h.2 c_
    refine lv_lload (pc := 13) hx hb dX9_floor_13 (lv_at hl 0 rfl) ?_
    refine lv_lconst (pc := 15) (v := (1 : Int64)) hx hb dX9_floor_15 (by decide) ?_
    refine lv_lsub (pc := 16) hx hb dX9_floor_16 ?_
    refine lv_goto (pc := 17) (tgt := 22) hx hb dX9_floor_17 (by decide) ?_
    exact Rlret (pc := 22) X w ⟨rfl, h⟩ dX9_floor_22
set_option maxHeartbeats 4000000 in
set_option maxRecDepth 100000 in
theorem okX9_areThere (l : Launch) {D : va_G} {g : Nat → ClassId} {ad : Nat → Nat} (hJ : RJ ad) {u : Mm} {a0 : Int32} {a1 : Int32} {a2 : Int32} {Q : Int32 → Prop} (h : wX9_areThere a0 a1 a2 Q) : Met l yX9_areThere (Cond.code yX9_areThere cX9_areThere 3 (some .boolean) :: gt) ({ frames := 1, cells := 0, slots := 0, locals := 25 } : Room) (RPc D g ad u [.int a0, .int a1, .int a2]) (va_Qi (fun r u1 => bz r ∧ (u = u1 ∧ Q r)) (RB D g ad) (RA ad)) 0 0 (RA ad) := by
  refine Met.ofW (cc := cX9_areThere) (maxL := 3) (ret := (some .boolean)) (by decide) rfl ?_
  intro p e s m args below meth c s₁ B hml hv
  refine Rentry (own := RX9) B hml hv hJ rfl (Nat.le_of_ble_eq_true rfl) (fun ls H locs X w hl => ?_)
  obtain ⟨⟨hx, hb, hml, hown, hts⟩, hr, hlocks, hK, hJ, hAA⟩ := id X
  have hl : lv_has ls 3 [(0, .int a0), (1, .int a1), (2, .int a2)] := hl
  unfold wX9_areThere at h
  refine lv_iload_n (pc := 0) hx hb dX9_areThere_0 rfl (lv_at hl 0 rfl) ?_
  refine lv_i2l (pc := 1) hx hb dX9_areThere_1 rfl ?_
  refine lv_lconst (pc := 2) (v := (0 : Int64)) hx hb dX9_areThere_2 (by decide) ?_
  refine lv_lconst (pc := 3) (v := (1 : Int64)) hx hb dX9_areThere_3 (by decide) ?_
  refine Rcalli (rest := []) (RrunS (pc := 4) X w (okX9_in l hJ h) kw490 kmX9_in ⟨rfl, rfl⟩ ⟨by decide, by decide⟩ rfl hl.1 rfl (Nat.le_of_ble_eq_true rfl) dX9_areThere_4) w (fun r1 u9_ H locs h w => ?_)
  obtain ⟨hz_r1, h⟩ := h
  obtain ⟨rfl, h⟩ := h
  refine lv_if_eq (pc := 7) (tgt := 38) hx hb dX9_areThere_7 (by decide) (fun c_ => ?_) (fun c_ => ?_)
  · have h := h.1 c_
    refine lv_iconst (pc := 38) (v := (0 : Int32)) hx hb dX9_areThere_38 (by decide) ?_
    exact Rzret (pc := 39) X w rfl ⟨rfl, h⟩ dX9_areThere_39
  · have h := h.2 c_
    refine lv_iload_n (pc := 10) hx hb dX9_areThere_10 rfl (lv_at hl 1 rfl) ?_
    refine lv_i2l (pc := 11) hx hb dX9_areThere_11 rfl ?_
    refine lv_lconst (pc := 12) (v := (0 : Int64)) hx hb dX9_areThere_12 (by decide) ?_
    refine lv_ldc2 (pc := 13) (v := (3 : Int64)) hx hb hown (hts _ (List.mem_cons_of_mem _ kw494)) dX9_areThere_13 ?_
    refine Rcalli (rest := []) (RrunS (pc := 16) X w (okX9_in l hJ h) kw490 kmX9_in ⟨rfl, rfl⟩ ⟨by decide, by decide⟩ rfl hl.1 rfl (Nat.le_of_ble_eq_true rfl) dX9_areThere_16) w (fun r2 u9_ H locs h w => ?_)
    obtain ⟨hz_r2, h⟩ := h
    obtain ⟨rfl, h⟩ := h
    refine lv_if_eq (pc := 19) (tgt := 38) hx hb dX9_areThere_19 (by decide) (fun c_ => ?_) (fun c_ => ?_)
    · have h := h.1 c_
      refine lv_iconst (pc := 38) (v := (0 : Int32)) hx hb dX9_areThere_38 (by decide) ?_
      exact Rzret (pc := 39) X w rfl ⟨rfl, h⟩ dX9_areThere_39
    · have h := h.2 c_
      refine lv_iload_n (pc := 22) hx hb dX9_areThere_22 rfl (lv_at hl 2 rfl) ?_
      refine lv_i2l (pc := 23) hx hb dX9_areThere_23 rfl ?_
      refine lv_lconst (pc := 24) (v := (0 : Int64)) hx hb dX9_areThere_24 (by decide) ?_
      refine lv_ldc2 (pc := 25) (v := (5 : Int64)) hx hb hown (hts _ (List.mem_cons_of_mem _ kw495)) dX9_areThere_25 ?_
      refine Rcalli (rest := []) (RrunS (pc := 28) X w (okX9_in l hJ h) kw490 kmX9_in ⟨rfl, rfl⟩ ⟨by decide, by decide⟩ rfl hl.1 rfl (Nat.le_of_ble_eq_true rfl) dX9_areThere_28) w (fun r3 u9_ H locs h w => ?_)
      obtain ⟨hz_r3, h⟩ := h
      obtain ⟨rfl, h⟩ := h
      refine lv_if_eq (pc := 31) (tgt := 38) hx hb dX9_areThere_31 (by decide) (fun c_ => ?_) (fun c_ => ?_)
      · have h := h.1 c_
        refine lv_iconst (pc := 38) (v := (0 : Int32)) hx hb dX9_areThere_38 (by decide) ?_
        exact Rzret (pc := 39) X w rfl ⟨rfl, h⟩ dX9_areThere_39
      · have h := h.2 c_
        refine lv_iconst (pc := 34) (v := (1 : Int32)) hx hb dX9_areThere_34 (by decide) ?_
        refine lv_goto (pc := 35) (tgt := 39) hx hb dX9_areThere_35 (by decide) ?_
        exact Rzret (pc := 39) X w rfl ⟨rfl, h⟩ dX9_areThere_39
set_option maxHeartbeats 4000000 in
set_option maxRecDepth 100000 in
theorem okX9_cellOf (l : Launch) {D : va_G} {g : Nat → ClassId} {ad : Nat → Nat} (hJ : RJ ad) {u : Mm} {a0 : Int32} {a1 : Int32} {a2 : Int32} {a3 : Int32} {Q : Int32 → Prop} (h : wX9_cellOf a0 a1 a2 a3 Q) : Met l yX9_cellOf (Cond.code yX9_cellOf cX9_cellOf 4 (some .int) :: gt) ({ frames := 0, cells := 0, slots := 0, locals := 0 } : Room) (RPc D g ad u [.int a0, .int a1, .int a2, .int a3]) (va_Qi (fun r u1 => u = u1 ∧ Q r) (RB D g ad) (RA ad)) 0 0 (RA ad) := by
  refine Met.ofW (cc := cX9_cellOf) (maxL := 4) (ret := (some .int)) (by decide) rfl ?_
  intro p e s m args below meth c s₁ B hml hv
  refine Rentry (own := RX9) B hml hv hJ rfl (Nat.le_of_ble_eq_true rfl) (fun ls H locs X w hl => ?_)
  obtain ⟨⟨hx, hb, hml, hown, hts⟩, hr, hlocks, hK, hJ, hAA⟩ := id X
  have hl : lv_has ls 4 [(0, .int a0), (1, .int a1), (2, .int a2), (3, .int a3)] := hl
  unfold wX9_cellOf at h
  refine lv_sipush (pc := 0) (v := (288 : Int32)) hx hb dX9_cellOf_0 (by decide) ?_
  refine lv_iload_n (pc := 3) hx hb dX9_cellOf_3 rfl (lv_at hl 0 rfl) ?_
  refine lv_imul (pc := 4) hx hb dX9_cellOf_4 ?_
  refine lv_bipush (pc := 5) (v := (72 : Int32)) hx hb dX9_cellOf_5 (by decide) ?_
  refine lv_iload_n (pc := 7) hx hb dX9_cellOf_7 rfl (lv_at hl 1 rfl) ?_
  refine lv_imul (pc := 8) hx hb dX9_cellOf_8 ?_
  refine lv_iadd (pc := 9) hx hb dX9_cellOf_9 ?_
  refine lv_bipush (pc := 10) (v := (12 : Int32)) hx hb dX9_cellOf_10 (by decide) ?_
  refine lv_iload_n (pc := 12) hx hb dX9_cellOf_12 rfl (lv_at hl 2 rfl) ?_
  refine lv_imul (pc := 13) hx hb dX9_cellOf_13 ?_
  refine lv_iadd (pc := 14) hx hb dX9_cellOf_14 ?_
  refine lv_iload_n (pc := 15) hx hb dX9_cellOf_15 rfl (lv_at hl 3 rfl) ?_
  refine lv_iadd (pc := 16) hx hb dX9_cellOf_16 ?_
  exact Riret (pc := 17) X w ⟨rfl, h⟩ dX9_cellOf_17
set_option maxHeartbeats 4000000 in
set_option maxRecDepth 100000 in
theorem okX9_annualOf (l : Launch) {D : va_G} {g : Nat → ClassId} {ad : Nat → Nat} (hJ : RJ ad) {u : Mm} {a0 : Int32} {a1 : Int32} {a2 : Int32} {a3 : Int32} {Q : Int32 → Prop} (h : wX9_annualOf a0 a1 a2 a3 Q) : Met l yX9_annualOf (Cond.code yX9_annualOf cX9_annualOf 4 (some .int) :: gt) ({ frames := 0, cells := 0, slots := 0, locals := 0 } : Room) (RPc D g ad u [.int a0, .int a1, .int a2, .int a3]) (va_Qi (fun r u1 => u = u1 ∧ Q r) (RB D g ad) (RA ad)) 0 0 (RA ad) := by
  refine Met.ofW (cc := cX9_annualOf) (maxL := 4) (ret := (some .int)) (by decide) rfl ?_
  intro p e s m args below meth c s₁ B hml hv
  refine Rentry (own := RX9) B hml hv hJ rfl (Nat.le_of_ble_eq_true rfl) (fun ls H locs X w hl => ?_)
  obtain ⟨⟨hx, hb, hml, hown, hts⟩, hr, hlocks, hK, hJ, hAA⟩ := id X
  have hl : lv_has ls 4 [(0, .int a0), (1, .int a1), (2, .int a2), (3, .int a3)] := hl
  unfold wX9_annualOf at h
  refine lv_sipush (pc := 0) (v := (576 : Int32)) hx hb dX9_annualOf_0 (by decide) ?_
  refine lv_bipush (pc := 3) (v := (72 : Int32)) hx hb dX9_annualOf_3 (by decide) ?_
  refine lv_iload_n (pc := 5) hx hb dX9_annualOf_5 rfl (lv_at hl 0 rfl) ?_
  refine lv_imul (pc := 6) hx hb dX9_annualOf_6 ?_
  refine lv_iadd (pc := 7) hx hb dX9_annualOf_7 ?_
  refine lv_bipush (pc := 8) (v := (18 : Int32)) hx hb dX9_annualOf_8 (by decide) ?_
  refine lv_iload_n (pc := 10) hx hb dX9_annualOf_10 rfl (lv_at hl 1 rfl) ?_
  refine lv_imul (pc := 11) hx hb dX9_annualOf_11 ?_
  refine lv_iadd (pc := 12) hx hb dX9_annualOf_12 ?_
  refine lv_iconst (pc := 13) (v := (3 : Int32)) hx hb dX9_annualOf_13 (by decide) ?_
  refine lv_iload_n (pc := 14) hx hb dX9_annualOf_14 rfl (lv_at hl 2 rfl) ?_
  refine lv_imul (pc := 15) hx hb dX9_annualOf_15 ?_
  refine lv_iadd (pc := 16) hx hb dX9_annualOf_16 ?_
  refine lv_iload_n (pc := 17) hx hb dX9_annualOf_17 rfl (lv_at hl 3 rfl) ?_
  refine lv_iadd (pc := 18) hx hb dX9_annualOf_18 ?_
  exact Riret (pc := 19) X w ⟨rfl, h⟩ dX9_annualOf_19
set_option maxHeartbeats 4000000 in
set_option maxRecDepth 100000 in
theorem okX9_isCell (l : Launch) {D : va_G} {g : Nat → ClassId} {ad : Nat → Nat} (hJ : RJ ad) {u : Mm} {a0 : Int32} {Q : Int32 → Prop} (h : wX9_isCell a0 Q) : Met l yX9_isCell (Cond.code yX9_isCell cX9_isCell 1 (some .boolean) :: gt) ({ frames := 1, cells := 0, slots := 0, locals := 25 } : Room) (RPc D g ad u [.int a0]) (va_Qi (fun r u1 => bz r ∧ (u = u1 ∧ Q r)) (RB D g ad) (RA ad)) 0 0 (RA ad) := by
  refine Met.ofW (cc := cX9_isCell) (maxL := 1) (ret := (some .boolean)) (by decide) rfl ?_
  intro p e s m args below meth c s₁ B hml hv
  refine Rentry (own := RX9) B hml hv hJ rfl (Nat.le_of_ble_eq_true rfl) (fun ls H locs X w hl => ?_)
  obtain ⟨⟨hx, hb, hml, hown, hts⟩, hr, hlocks, hK, hJ, hAA⟩ := id X
  have hl : lv_has ls 1 [(0, .int a0)] := hl
  unfold wX9_isCell at h
  refine lv_iload_n (pc := 0) hx hb dX9_isCell_0 rfl (lv_at hl 0 rfl) ?_
  refine lv_i2l (pc := 1) hx hb dX9_isCell_1 rfl ?_
  refine lv_lconst (pc := 2) (v := (0 : Int64)) hx hb dX9_isCell_2 (by decide) ?_
  refine lv_ldc2 (pc := 3) (v := (575 : Int64)) hx hb hown (hts _ (List.mem_cons_of_mem _ kw496)) dX9_isCell_3 ?_
  refine Rcalli (rest := []) (RrunS (pc := 6) X w (okX9_in l hJ h) kw490 kmX9_in ⟨rfl, rfl⟩ ⟨by decide, by decide⟩ rfl hl.1 rfl (Nat.le_of_ble_eq_true rfl) dX9_isCell_6) w (fun r1 u9_ H locs h w => ?_)
  obtain ⟨hz_r1, h⟩ := h
  obtain ⟨rfl, h⟩ := h
  exact Rzret (pc := 9) X w hz_r1 ⟨rfl, h⟩ dX9_isCell_9
set_option maxHeartbeats 4000000 in
set_option maxRecDepth 100000 in
theorem okX9_isCode (l : Launch) {D : va_G} {g : Nat → ClassId} {ad : Nat → Nat} (hJ : RJ ad) {u : Mm} {a0 : Int32} {Q : Int32 → Prop} (h : wX9_isCode a0 Q) : Met l yX9_isCode (Cond.code yX9_isCode cX9_isCode 1 (some .boolean) :: gt) ({ frames := 1, cells := 0, slots := 0, locals := 25 } : Room) (RPc D g ad u [.int a0]) (va_Qi (fun r u1 => bz r ∧ (u = u1 ∧ Q r)) (RB D g ad) (RA ad)) 0 0 (RA ad) := by
  refine Met.ofW (cc := cX9_isCode) (maxL := 1) (ret := (some .boolean)) (by decide) rfl ?_
  intro p e s m args below meth c s₁ B hml hv
  refine Rentry (own := RX9) B hml hv hJ rfl (Nat.le_of_ble_eq_true rfl) (fun ls H locs X w hl => ?_)
  obtain ⟨⟨hx, hb, hml, hown, hts⟩, hr, hlocks, hK, hJ, hAA⟩ := id X
  have hl : lv_has ls 1 [(0, .int a0)] := hl
  unfold wX9_isCode at h
  refine lv_iload_n (pc := 0) hx hb dX9_isCode_0 rfl (lv_at hl 0 rfl) ?_
  refine lv_i2l (pc := 1) hx hb dX9_isCode_1 rfl ?_
  refine lv_lconst (pc := 2) (v := (0 : Int64)) hx hb dX9_isCode_2 (by decide) ?_
  refine lv_ldc2 (pc := 3) (v := (719 : Int64)) hx hb hown (hts _ (List.mem_cons_of_mem _ kw497)) dX9_isCode_3 ?_
  refine Rcalli (rest := []) (RrunS (pc := 6) X w (okX9_in l hJ h) kw490 kmX9_in ⟨rfl, rfl⟩ ⟨by decide, by decide⟩ rfl hl.1 rfl (Nat.le_of_ble_eq_true rfl) dX9_isCode_6) w (fun r1 u9_ H locs h w => ?_)
  obtain ⟨hz_r1, h⟩ := h
  obtain ⟨rfl, h⟩ := h
  exact Rzret (pc := 9) X w hz_r1 ⟨rfl, h⟩ dX9_isCode_9
set_option maxHeartbeats 4000000 in
set_option maxRecDepth 100000 in
theorem okX9_landOf (l : Launch) {D : va_G} {g : Nat → ClassId} {ad : Nat → Nat} (hJ : RJ ad) {u : Mm} {a0 : Int32} {Q : Int32 → Prop} (h : wX9_landOf a0 Q) : Met l yX9_landOf (Cond.code yX9_landOf cX9_landOf 1 (some .int) :: gt) ({ frames := 0, cells := 0, slots := 0, locals := 0 } : Room) (RPc D g ad u [.int a0]) (va_Qi (fun r u1 => u = u1 ∧ Q r) (RB D g ad) (RA ad)) 0 0 (RA ad) := by
  refine Met.ofW (cc := cX9_landOf) (maxL := 1) (ret := (some .int)) (by decide) rfl ?_
  intro p e s m args below meth c s₁ B hml hv
  refine Rentry (own := RX9) B hml hv hJ rfl (Nat.le_of_ble_eq_true rfl) (fun ls H locs X w hl => ?_)
  obtain ⟨⟨hx, hb, hml, hown, hts⟩, hr, hlocks, hK, hJ, hAA⟩ := id X
  have hl : lv_has ls 1 [(0, .int a0)] := hl
  unfold wX9_landOf at h
  refine lv_iload_n (pc := 0) hx hb dX9_landOf_0 rfl (lv_at hl 0 rfl) ?_
  refine lv_sipush (pc := 1) (v := (576 : Int32)) hx hb dX9_landOf_1 (by decide) ?_
  refine lv_icmp_ge (pc := 4) (tgt := 15) hx hb dX9_landOf_4 (by decide) (fun c_ => ?_) (fun c_ => ?_)
  · have h := h.1 c_
    refine lv_iload_n (pc := 15) hx hb dX9_landOf_15 rfl (lv_at hl 0 rfl) ?_
    refine lv_sipush (pc := 16) (v := (576 : Int32)) hx hb dX9_landOf_16 (by decide) ?_
    refine lv_isub (pc := 19) hx hb dX9_landOf_19 ?_
    refine lv_bipush (pc := 20) (v := (72 : Int32)) hx hb dX9_landOf_20 (by decide) ?_
    refine lv_idiv (pc := 22) hx hb dX9_landOf_22 (by decide) ?_
    exact Riret (pc := 23) X w ⟨rfl, h⟩ dX9_landOf_23
  · have h := h.2 c_
    refine lv_iload_n (pc := 7) hx hb dX9_landOf_7 rfl (lv_at hl 0 rfl) ?_
    refine lv_sipush (pc := 8) (v := (288 : Int32)) hx hb dX9_landOf_8 (by decide) ?_
    refine lv_idiv (pc := 11) hx hb dX9_landOf_11 (by decide) ?_
    refine lv_goto (pc := 12) (tgt := 23) hx hb dX9_landOf_12 (by decide) ?_
    exact Riret (pc := 23) X w ⟨rfl, h⟩ dX9_landOf_23
set_option maxHeartbeats 4000000 in
set_option maxRecDepth 100000 in
theorem okX9_productOf (l : Launch) {D : va_G} {g : Nat → ClassId} {ad : Nat → Nat} (hJ : RJ ad) {u : Mm} {a0 : Int32} {Q : Int32 → Prop} (h : wX9_productOf a0 Q) : Met l yX9_productOf (Cond.code yX9_productOf cX9_productOf 1 (some .int) :: gt) ({ frames := 0, cells := 0, slots := 0, locals := 0 } : Room) (RPc D g ad u [.int a0]) (va_Qi (fun r u1 => u = u1 ∧ Q r) (RB D g ad) (RA ad)) 0 0 (RA ad) := by
  refine Met.ofW (cc := cX9_productOf) (maxL := 1) (ret := (some .int)) (by decide) rfl ?_
  intro p e s m args below meth c s₁ B hml hv
  refine Rentry (own := RX9) B hml hv hJ rfl (Nat.le_of_ble_eq_true rfl) (fun ls H locs X w hl => ?_)
  obtain ⟨⟨hx, hb, hml, hown, hts⟩, hr, hlocks, hK, hJ, hAA⟩ := id X
  have hl : lv_has ls 1 [(0, .int a0)] := hl
  unfold wX9_productOf at h
  refine lv_iload_n (pc := 0) hx hb dX9_productOf_0 rfl (lv_at hl 0 rfl) ?_
  refine lv_sipush (pc := 1) (v := (576 : Int32)) hx hb dX9_productOf_1 (by decide) ?_
  refine lv_icmp_ge (pc := 4) (tgt := 16) hx hb dX9_productOf_4 (by decide) (fun c_ => ?_) (fun c_ => ?_)
  · have h := h.1 c_
    refine lv_iload_n (pc := 16) hx hb dX9_productOf_16 rfl (lv_at hl 0 rfl) ?_
    refine lv_sipush (pc := 17) (v := (576 : Int32)) hx hb dX9_productOf_17 (by decide) ?_
    refine lv_isub (pc := 20) hx hb dX9_productOf_20 ?_
    refine lv_bipush (pc := 21) (v := (18 : Int32)) hx hb dX9_productOf_21 (by decide) ?_
    refine lv_idiv (pc := 23) hx hb dX9_productOf_23 (by decide) ?_
    refine lv_iconst (pc := 24) (v := (4 : Int32)) hx hb dX9_productOf_24 (by decide) ?_
    refine lv_irem (pc := 25) hx hb dX9_productOf_25 (by decide) ?_
    exact Riret (pc := 26) X w ⟨rfl, h⟩ dX9_productOf_26
  · have h := h.2 c_
    refine lv_iload_n (pc := 7) hx hb dX9_productOf_7 rfl (lv_at hl 0 rfl) ?_
    refine lv_bipush (pc := 8) (v := (72 : Int32)) hx hb dX9_productOf_8 (by decide) ?_
    refine lv_idiv (pc := 10) hx hb dX9_productOf_10 (by decide) ?_
    refine lv_iconst (pc := 11) (v := (4 : Int32)) hx hb dX9_productOf_11 (by decide) ?_
    refine lv_irem (pc := 12) hx hb dX9_productOf_12 (by decide) ?_
    refine lv_goto (pc := 13) (tgt := 26) hx hb dX9_productOf_13 (by decide) ?_
    exact Riret (pc := 26) X w ⟨rfl, h⟩ dX9_productOf_26
set_option maxHeartbeats 4000000 in
set_option maxRecDepth 100000 in
theorem okX9_columnOf (l : Launch) {D : va_G} {g : Nat → ClassId} {ad : Nat → Nat} (hJ : RJ ad) {u : Mm} {a0 : Int32} {Q : Int32 → Prop} (h : wX9_columnOf a0 Q) : Met l yX9_columnOf (Cond.code yX9_columnOf cX9_columnOf 1 (some .int) :: gt) ({ frames := 0, cells := 0, slots := 0, locals := 0 } : Room) (RPc D g ad u [.int a0]) (va_Qi (fun r u1 => u = u1 ∧ Q r) (RB D g ad) (RA ad)) 0 0 (RA ad) := by
  refine Met.ofW (cc := cX9_columnOf) (maxL := 1) (ret := (some .int)) (by decide) rfl ?_
  intro p e s m args below meth c s₁ B hml hv
  refine Rentry (own := RX9) B hml hv hJ rfl (Nat.le_of_ble_eq_true rfl) (fun ls H locs X w hl => ?_)
  obtain ⟨⟨hx, hb, hml, hown, hts⟩, hr, hlocks, hK, hJ, hAA⟩ := id X
  have hl : lv_has ls 1 [(0, .int a0)] := hl
  unfold wX9_columnOf at h
  refine lv_iload_n (pc := 0) hx hb dX9_columnOf_0 rfl (lv_at hl 0 rfl) ?_
  refine lv_sipush (pc := 1) (v := (576 : Int32)) hx hb dX9_columnOf_1 (by decide) ?_
  refine lv_icmp_ge (pc := 4) (tgt := 17) hx hb dX9_columnOf_4 (by decide) (fun c_ => ?_) (fun c_ => ?_)
  · have h := h.1 c_
    refine lv_iload_n (pc := 17) hx hb dX9_columnOf_17 rfl (lv_at hl 0 rfl) ?_
    refine lv_sipush (pc := 18) (v := (576 : Int32)) hx hb dX9_columnOf_18 (by decide) ?_
    refine lv_isub (pc := 21) hx hb dX9_columnOf_21 ?_
    refine lv_iconst (pc := 22) (v := (3 : Int32)) hx hb dX9_columnOf_22 (by decide) ?_
    refine lv_idiv (pc := 23) hx hb dX9_columnOf_23 (by decide) ?_
    refine lv_bipush (pc := 24) (v := (6 : Int32)) hx hb dX9_columnOf_24 (by decide) ?_
    refine lv_irem (pc := 26) hx hb dX9_columnOf_26 (by decide) ?_
    exact Riret (pc := 27) X w ⟨rfl, h⟩ dX9_columnOf_27
  · have h := h.2 c_
    refine lv_iload_n (pc := 7) hx hb dX9_columnOf_7 rfl (lv_at hl 0 rfl) ?_
    refine lv_bipush (pc := 8) (v := (12 : Int32)) hx hb dX9_columnOf_8 (by decide) ?_
    refine lv_idiv (pc := 10) hx hb dX9_columnOf_10 (by decide) ?_
    refine lv_bipush (pc := 11) (v := (6 : Int32)) hx hb dX9_columnOf_11 (by decide) ?_
    refine lv_irem (pc := 13) hx hb dX9_columnOf_13 (by decide) ?_
    refine lv_goto (pc := 14) (tgt := 27) hx hb dX9_columnOf_14 (by decide) ?_
    exact Riret (pc := 27) X w ⟨rfl, h⟩ dX9_columnOf_27
set_option maxHeartbeats 4000000 in
set_option maxRecDepth 100000 in
theorem okX9_timeOf (l : Launch) {D : va_G} {g : Nat → ClassId} {ad : Nat → Nat} (hJ : RJ ad) {u : Mm} {a0 : Int32} {Q : Int32 → Prop} (h : wX9_timeOf a0 Q) : Met l yX9_timeOf (Cond.code yX9_timeOf cX9_timeOf 1 (some .int) :: gt) ({ frames := 0, cells := 0, slots := 0, locals := 0 } : Room) (RPc D g ad u [.int a0]) (va_Qi (fun r u1 => u = u1 ∧ Q r) (RB D g ad) (RA ad)) 0 0 (RA ad) := by
  refine Met.ofW (cc := cX9_timeOf) (maxL := 1) (ret := (some .int)) (by decide) rfl ?_
  intro p e s m args below meth c s₁ B hml hv
  refine Rentry (own := RX9) B hml hv hJ rfl (Nat.le_of_ble_eq_true rfl) (fun ls H locs X w hl => ?_)
  obtain ⟨⟨hx, hb, hml, hown, hts⟩, hr, hlocks, hK, hJ, hAA⟩ := id X
  have hl : lv_has ls 1 [(0, .int a0)] := hl
  unfold wX9_timeOf at h
  refine lv_iload_n (pc := 0) hx hb dX9_timeOf_0 rfl (lv_at hl 0 rfl) ?_
  refine lv_sipush (pc := 1) (v := (576 : Int32)) hx hb dX9_timeOf_1 (by decide) ?_
  refine lv_icmp_ge (pc := 4) (tgt := 14) hx hb dX9_timeOf_4 (by decide) (fun c_ => ?_) (fun c_ => ?_)
  · have h := h.1 c_
    refine lv_iload_n (pc := 14) hx hb dX9_timeOf_14 rfl (lv_at hl 0 rfl) ?_
    refine lv_sipush (pc := 15) (v := (576 : Int32)) hx hb dX9_timeOf_15 (by decide) ?_
    refine lv_isub (pc := 18) hx hb dX9_timeOf_18 ?_
    refine lv_iconst (pc := 19) (v := (3 : Int32)) hx hb dX9_timeOf_19 (by decide) ?_
    refine lv_irem (pc := 20) hx hb dX9_timeOf_20 (by decide) ?_
    exact Riret (pc := 21) X w ⟨rfl, h⟩ dX9_timeOf_21
  · have h := h.2 c_
    refine lv_iload_n (pc := 7) hx hb dX9_timeOf_7 rfl (lv_at hl 0 rfl) ?_
    refine lv_bipush (pc := 8) (v := (12 : Int32)) hx hb dX9_timeOf_8 (by decide) ?_
    refine lv_irem (pc := 10) hx hb dX9_timeOf_10 (by decide) ?_
    refine lv_goto (pc := 11) (tgt := 21) hx hb dX9_timeOf_11 (by decide) ?_
    exact Riret (pc := 21) X w ⟨rfl, h⟩ dX9_timeOf_21
set_option maxHeartbeats 4000000 in
set_option maxRecDepth 100000 in
theorem okX9_code (l : Launch) {D : va_G} {g : Nat → ClassId} {ad : Nat → Nat} (hJ : RJ ad) {u : Mm} {a1 : Int32} {a2 : Int32} {a3 : Int32} {a4 : Int32} {Q : Int32 → Prop} (h : wX9_code a1 a2 a3 a4 Q) : Met l yX9_code (Cond.code yX9_code cX9_code 5 (some .int) :: gt) ({ frames := 2, cells := 0, slots := 0, locals := 47 } : Room) (RPc D g ad u [.ref (ad 0), .int a1, .int a2, .int a3, .int a4]) (va_Qi (fun r u1 => u = u1 ∧ Q r) (RB D g ad) (RA ad)) 0 0 (RA ad) := by
  refine Met.ofW (cc := cX9_code) (maxL := 5) (ret := (some .int)) (by decide) rfl ?_
  intro p e s m args below meth c s₁ B hml hv
  refine Rentry (own := RX9) B hml hv hJ rfl (Nat.le_of_ble_eq_true rfl) (fun ls H locs X w hl => ?_)
  obtain ⟨⟨hx, hb, hml, hown, hts⟩, hr, hlocks, hK, hJ, hAA⟩ := id X
  have hl : lv_has ls 5 [(0, .ref (ad 0)), (1, .int a1), (2, .int a2), (3, .int a3), (4, .int a4)] := hl
  unfold wX9_code at h
  refine lv_iload_n (pc := 0) hx hb dX9_code_0 rfl (lv_at hl 1 rfl) ?_
  refine lv_iload_n (pc := 1) hx hb dX9_code_1 rfl (lv_at hl 2 rfl) ?_
  refine lv_iload_n (pc := 2) hx hb dX9_code_2 rfl (lv_at hl 3 rfl) ?_
  refine Rcalli (rest := []) (RrunS (pc := 3) X w (okX9_areThere l hJ h) kw498 kmX9_areThere ⟨rfl, rfl⟩ ⟨by decide, by decide⟩ rfl hl.1 rfl (Nat.le_of_ble_eq_true rfl) dX9_code_3) w (fun r1 u9_ H locs h w => ?_)
  obtain ⟨hz_r1, h⟩ := h
  obtain ⟨rfl, h⟩ := h
  refine lv_if_eq (pc := 6) (tgt := 33) hx hb dX9_code_6 (by decide) (fun c_ => ?_) (fun c_ => ?_)
  · have h := h.1 c_
    refine lv_bipush (pc := 33) (v := (-2 : Int32)) hx hb dX9_code_33 (by decide) ?_
    exact Riret (pc := 35) X w ⟨rfl, h⟩ dX9_code_35
  · have h := h.2 c_
    refine lv_iload (pc := 9) hx hb dX9_code_9 (lv_at hl 4 rfl) ?_
    refine lv_i2l (pc := 11) hx hb dX9_code_11 rfl ?_
    refine lv_lconst (pc := 12) (v := (0 : Int64)) hx hb dX9_code_12 (by decide) ?_
    refine lv_ldc2 (pc := 13) (v := (11 : Int64)) hx hb hown (hts _ (List.mem_cons_of_mem _ kw501)) dX9_code_13 ?_
    refine Rcalli (rest := []) (RrunS (pc := 16) X w (okX9_in l hJ h) kw490 kmX9_in ⟨rfl, rfl⟩ ⟨by decide, by decide⟩ rfl hl.1 rfl (Nat.le_of_ble_eq_true rfl) dX9_code_16) w (fun r2 u9_ H locs h w => ?_)
    obtain ⟨hz_r2, h⟩ := h
    obtain ⟨rfl, h⟩ := h
    refine lv_if_eq (pc := 19) (tgt := 33) hx hb dX9_code_19 (by decide) (fun c_ => ?_) (fun c_ => ?_)
    · have h := h.1 c_
      refine lv_bipush (pc := 33) (v := (-2 : Int32)) hx hb dX9_code_33 (by decide) ?_
      exact Riret (pc := 35) X w ⟨rfl, h⟩ dX9_code_35
    · have h := h.2 c_
      refine lv_iload_n (pc := 22) hx hb dX9_code_22 rfl (lv_at hl 1 rfl) ?_
      refine lv_iload_n (pc := 23) hx hb dX9_code_23 rfl (lv_at hl 2 rfl) ?_
      refine lv_iload_n (pc := 24) hx hb dX9_code_24 rfl (lv_at hl 3 rfl) ?_
      refine lv_iload (pc := 25) hx hb dX9_code_25 (lv_at hl 4 rfl) ?_
      refine Rcalli (rest := []) (RrunS (pc := 27) X w (okX9_cellOf l hJ h) kw502 kmX9_cellOf ⟨rfl, rfl⟩ ⟨by decide, by decide⟩ rfl hl.1 rfl (Nat.le_of_ble_eq_true rfl) dX9_code_27) w (fun r3 u9_ H locs h w => ?_)
      obtain ⟨rfl, h⟩ := h
      refine lv_goto (pc := 30) (tgt := 35) hx hb dX9_code_30 (by decide) ?_
      exact Riret (pc := 35) X w ⟨rfl, h⟩ dX9_code_35
set_option maxHeartbeats 4000000 in
set_option maxRecDepth 100000 in
theorem okX9_annual (l : Launch) {D : va_G} {g : Nat → ClassId} {ad : Nat → Nat} (hJ : RJ ad) {u : Mm} {a1 : Int32} {a2 : Int32} {a3 : Int32} {a4 : Int32} {Q : Int32 → Prop} (h : wX9_annual a1 a2 a3 a4 Q) : Met l yX9_annual (Cond.code yX9_annual cX9_annual 5 (some .int) :: gt) ({ frames := 2, cells := 0, slots := 0, locals := 47 } : Room) (RPc D g ad u [.ref (ad 0), .int a1, .int a2, .int a3, .int a4]) (va_Qi (fun r u1 => u = u1 ∧ Q r) (RB D g ad) (RA ad)) 0 0 (RA ad) := by
  refine Met.ofW (cc := cX9_annual) (maxL := 5) (ret := (some .int)) (by decide) rfl ?_
  intro p e s m args below meth c s₁ B hml hv
  refine Rentry (own := RX9) B hml hv hJ rfl (Nat.le_of_ble_eq_true rfl) (fun ls H locs X w hl => ?_)
  obtain ⟨⟨hx, hb, hml, hown, hts⟩, hr, hlocks, hK, hJ, hAA⟩ := id X
  have hl : lv_has ls 5 [(0, .ref (ad 0)), (1, .int a1), (2, .int a2), (3, .int a3), (4, .int a4)] := hl
  unfold wX9_annual at h
  refine lv_iload_n (pc := 0) hx hb dX9_annual_0 rfl (lv_at hl 1 rfl) ?_
  refine lv_iload_n (pc := 1) hx hb dX9_annual_1 rfl (lv_at hl 2 rfl) ?_
  refine lv_iload_n (pc := 2) hx hb dX9_annual_2 rfl (lv_at hl 3 rfl) ?_
  refine Rcalli (rest := []) (RrunS (pc := 3) X w (okX9_areThere l hJ h) kw498 kmX9_areThere ⟨rfl, rfl⟩ ⟨by decide, by decide⟩ rfl hl.1 rfl (Nat.le_of_ble_eq_true rfl) dX9_annual_3) w (fun r1 u9_ H locs h w => ?_)
  obtain ⟨hz_r1, h⟩ := h
  obtain ⟨rfl, h⟩ := h
  refine lv_if_eq (pc := 6) (tgt := 33) hx hb dX9_annual_6 (by decide) (fun c_ => ?_) (fun c_ => ?_)
  · have h := h.1 c_
    refine lv_bipush (pc := 33) (v := (-2 : Int32)) hx hb dX9_annual_33 (by decide) ?_
    exact Riret (pc := 35) X w ⟨rfl, h⟩ dX9_annual_35
  · have h := h.2 c_
    refine lv_iload (pc := 9) hx hb dX9_annual_9 (lv_at hl 4 rfl) ?_
    refine lv_i2l (pc := 11) hx hb dX9_annual_11 rfl ?_
    refine lv_lconst (pc := 12) (v := (0 : Int64)) hx hb dX9_annual_12 (by decide) ?_
    refine lv_ldc2 (pc := 13) (v := (2 : Int64)) hx hb hown (hts _ (List.mem_cons_of_mem _ kw505)) dX9_annual_13 ?_
    refine Rcalli (rest := []) (RrunS (pc := 16) X w (okX9_in l hJ h) kw490 kmX9_in ⟨rfl, rfl⟩ ⟨by decide, by decide⟩ rfl hl.1 rfl (Nat.le_of_ble_eq_true rfl) dX9_annual_16) w (fun r2 u9_ H locs h w => ?_)
    obtain ⟨hz_r2, h⟩ := h
    obtain ⟨rfl, h⟩ := h
    refine lv_if_eq (pc := 19) (tgt := 33) hx hb dX9_annual_19 (by decide) (fun c_ => ?_) (fun c_ => ?_)
    · have h := h.1 c_
      refine lv_bipush (pc := 33) (v := (-2 : Int32)) hx hb dX9_annual_33 (by decide) ?_
      exact Riret (pc := 35) X w ⟨rfl, h⟩ dX9_annual_35
    · have h := h.2 c_
      refine lv_iload_n (pc := 22) hx hb dX9_annual_22 rfl (lv_at hl 1 rfl) ?_
      refine lv_iload_n (pc := 23) hx hb dX9_annual_23 rfl (lv_at hl 2 rfl) ?_
      refine lv_iload_n (pc := 24) hx hb dX9_annual_24 rfl (lv_at hl 3 rfl) ?_
      refine lv_iload (pc := 25) hx hb dX9_annual_25 (lv_at hl 4 rfl) ?_
      refine Rcalli (rest := []) (RrunS (pc := 27) X w (okX9_annualOf l hJ h) kw506 kmX9_annualOf ⟨rfl, rfl⟩ ⟨by decide, by decide⟩ rfl hl.1 rfl (Nat.le_of_ble_eq_true rfl) dX9_annual_27) w (fun r3 u9_ H locs h w => ?_)
      obtain ⟨rfl, h⟩ := h
      refine lv_goto (pc := 30) (tgt := 35) hx hb dX9_annual_30 (by decide) ?_
      exact Riret (pc := 35) X w ⟨rfl, h⟩ dX9_annual_35
set_option maxHeartbeats 4000000 in
set_option maxRecDepth 100000 in
theorem okX9_decode (l : Launch) {D : va_G} {g : Nat → ClassId} {ad : Nat → Nat} (hJ : RJ ad) {u : Mm} {a1 : Int32} {a2 : Int32} {Q : Int32 → Prop} (h : wX9_decode a1 a2 Q) : Met l yX9_decode (Cond.code yX9_decode cX9_decode 3 (some .int) :: gt) ({ frames := 2, cells := 0, slots := 0, locals := 45 } : Room) (RPc D g ad u [.ref (ad 0), .int a1, .int a2]) (va_Qi (fun r u1 => u = u1 ∧ Q r) (RB D g ad) (RA ad)) 0 0 (RA ad) := by
  refine Met.ofW (cc := cX9_decode) (maxL := 3) (ret := (some .int)) (by decide) rfl ?_
  intro p e s m args below meth c s₁ B hml hv
  refine Rentry (own := RX9) B hml hv hJ rfl (Nat.le_of_ble_eq_true rfl) (fun ls H locs X w hl => ?_)
  obtain ⟨⟨hx, hb, hml, hown, hts⟩, hr, hlocks, hK, hJ, hAA⟩ := id X
  have hl : lv_has ls 3 [(0, .ref (ad 0)), (1, .int a1), (2, .int a2)] := hl
  unfold wX9_decode at h
  refine lv_iload_n (pc := 0) hx hb dX9_decode_0 rfl (lv_at hl 1 rfl) ?_
  refine Rcalli (rest := []) (RrunS (pc := 1) X w (okX9_isCode l hJ h) kw509 kmX9_isCode ⟨rfl, rfl⟩ ⟨by decide, by decide⟩ rfl hl.1 rfl (Nat.le_of_ble_eq_true rfl) dX9_decode_1) w (fun r1 u9_ H locs h w => ?_)
  obtain ⟨hz_r1, h⟩ := h
  obtain ⟨rfl, h⟩ := h
  refine lv_if_ne (pc := 4) (tgt := 10) hx hb dX9_decode_4 (by decide) (fun c_ => ?_) (fun c_ => ?_)
  · have h := h.2 c_
    refine lv_iload_n (pc := 10) hx hb dX9_decode_10 rfl (lv_at hl 2 rfl) ?_
    rcases sw_in a2 4 (by decide) with hs | ⟨js, hjs, hs⟩
    · have h := h.2.2.2.2.2 hs
      refine lv_tableOut (pc := 11) (tgt := 77) hx hb dX9_decode_11 hs (by decide) ?_
      refine lv_bipush (pc := 77) (v := (-2 : Int32)) hx hb dX9_decode_77 (by decide) ?_
      exact Riret (pc := 79) X w ⟨rfl, h⟩ dX9_decode_79
    · rcases (show js = 0 ∨ js = 1 ∨ js = 2 ∨ js = 3 ∨ js = 4 by omega) with rfl | rfl | rfl | rfl | rfl
      · have h := h.1 hs
        refine lv_topi (fun z_ ez_ => ?_)
        rw [hs] at ez_
        subst ez_
        refine lv_tableIn (pc := 11) (tgt := 44) (off := 33) hx hb dX9_decode_11 (by decide) (by decide) (by decide +kernel) (by decide) ?_
        refine lv_iload_n (pc := 44) hx hb dX9_decode_44 rfl (lv_at hl 1 rfl) ?_
        refine Rcalli (rest := []) (RrunS (pc := 45) X w (okX9_landOf l hJ h) kw512 kmX9_landOf ⟨rfl, rfl⟩ ⟨by decide, by decide⟩ rfl hl.1 rfl (Nat.le_of_ble_eq_true rfl) dX9_decode_45) w (fun r2 u9_ H locs h w => ?_)
        obtain ⟨rfl, h⟩ := h
        exact Riret (pc := 48) X w ⟨rfl, h⟩ dX9_decode_48
      · have h := h.2.1 hs
        refine lv_topi (fun z_ ez_ => ?_)
        rw [hs] at ez_
        subst ez_
        refine lv_tableIn (pc := 11) (tgt := 49) (off := 38) hx hb dX9_decode_11 (by decide) (by decide) (by decide +kernel) (by decide) ?_
        refine lv_iload_n (pc := 49) hx hb dX9_decode_49 rfl (lv_at hl 1 rfl) ?_
        refine Rcalli (rest := []) (RrunS (pc := 50) X w (okX9_productOf l hJ h) kw515 kmX9_productOf ⟨rfl, rfl⟩ ⟨by decide, by decide⟩ rfl hl.1 rfl (Nat.le_of_ble_eq_true rfl) dX9_decode_50) w (fun r3 u9_ H locs h w => ?_)
        obtain ⟨rfl, h⟩ := h
        exact Riret (pc := 53) X w ⟨rfl, h⟩ dX9_decode_53
      · have h := h.2.2.1 hs
        refine lv_topi (fun z_ ez_ => ?_)
        rw [hs] at ez_
        subst ez_
        refine lv_tableIn (pc := 11) (tgt := 54) (off := 43) hx hb dX9_decode_11 (by decide) (by decide) (by decide +kernel) (by decide) ?_
        refine lv_iload_n (pc := 54) hx hb dX9_decode_54 rfl (lv_at hl 1 rfl) ?_
        refine Rcalli (rest := []) (RrunS (pc := 55) X w (okX9_columnOf l hJ h) kw518 kmX9_columnOf ⟨rfl, rfl⟩ ⟨by decide, by decide⟩ rfl hl.1 rfl (Nat.le_of_ble_eq_true rfl) dX9_decode_55) w (fun r4 u9_ H locs h w => ?_)
        obtain ⟨rfl, h⟩ := h
        exact Riret (pc := 58) X w ⟨rfl, h⟩ dX9_decode_58
      · have h := h.2.2.2.1 hs
        refine lv_topi (fun z_ ez_ => ?_)
        rw [hs] at ez_
        subst ez_
        refine lv_tableIn (pc := 11) (tgt := 59) (off := 48) hx hb dX9_decode_11 (by decide) (by decide) (by decide +kernel) (by decide) ?_
        refine lv_iload_n (pc := 59) hx hb dX9_decode_59 rfl (lv_at hl 1 rfl) ?_
        refine Rcalli (rest := []) (RrunS (pc := 60) X w (okX9_timeOf l hJ h) kw521 kmX9_timeOf ⟨rfl, rfl⟩ ⟨by decide, by decide⟩ rfl hl.1 rfl (Nat.le_of_ble_eq_true rfl) dX9_decode_60) w (fun r5 u9_ H locs h w => ?_)
        obtain ⟨rfl, h⟩ := h
        exact Riret (pc := 63) X w ⟨rfl, h⟩ dX9_decode_63
      · have h := h.2.2.2.2.1 hs
        refine lv_topi (fun z_ ez_ => ?_)
        rw [hs] at ez_
        subst ez_
        refine lv_tableIn (pc := 11) (tgt := 64) (off := 53) hx hb dX9_decode_11 (by decide) (by decide) (by decide +kernel) (by decide) ?_
        refine lv_iload_n (pc := 64) hx hb dX9_decode_64 rfl (lv_at hl 1 rfl) ?_
        refine Rcalli (rest := []) (RrunS (pc := 65) X w (okX9_isCell l hJ h) kw524 kmX9_isCell ⟨rfl, rfl⟩ ⟨by decide, by decide⟩ rfl hl.1 rfl (Nat.le_of_ble_eq_true rfl) dX9_decode_65) w (fun r6 u9_ H locs h w => ?_)
        obtain ⟨hz_r6, h⟩ := h
        obtain ⟨rfl, h⟩ := h
        refine lv_if_eq (pc := 68) (tgt := 75) hx hb dX9_decode_68 (by decide) (fun c_ => ?_) (fun c_ => ?_)
        · have h := h.1 c_
          refine lv_iconst (pc := 75) (v := (1 : Int32)) hx hb dX9_decode_75 (by decide) ?_
          exact Riret (pc := 76) X w ⟨rfl, h⟩ dX9_decode_76
        · have h := h.2 c_
          refine lv_iconst (pc := 71) (v := (0 : Int32)) hx hb dX9_decode_71 (by decide) ?_
          refine lv_goto (pc := 72) (tgt := 76) hx hb dX9_decode_72 (by decide) ?_
          exact Riret (pc := 76) X w ⟨rfl, h⟩ dX9_decode_76
  · have h := h.1 c_
    refine lv_bipush (pc := 7) (v := (-2 : Int32)) hx hb dX9_decode_7 (by decide) ?_
    exact Riret (pc := 9) X w ⟨rfl, h⟩ dX9_decode_9
set_option maxHeartbeats 4000000 in
set_option maxRecDepth 100000 in
theorem okX9_trust (l : Launch) {D : va_G} {g : Nat → ClassId} {ad : Nat → Nat} (hJ : RJ ad) {u : Mm} {a1 : Int32} {a2 : Int32} {Q : Int32 → Mm → Prop} (h : wX9_trust u a1 a2 Q) : Met l yX9_trust (Cond.code yX9_trust cX9_trust 4 (some .int) :: gt) ({ frames := 1, cells := 0, slots := 0, locals := 25 } : Room) (RPc D g ad u [.ref (ad 0), .int a1, .int a2]) (va_Qi Q (RB D g ad) (RA ad)) 0 0 (RA ad) := by
  refine Met.ofW (cc := cX9_trust) (maxL := 4) (ret := (some .int)) (by decide) rfl ?_
  intro p e s m args below meth c s₁ B hml hv
  refine Rentry (own := RX9) B hml hv hJ rfl (Nat.le_of_ble_eq_true rfl) (fun ls H locs X w hl => ?_)
  obtain ⟨⟨hx, hb, hml, hown, hts⟩, hr, hlocks, hK, hJ, hAA⟩ := id X
  have hl : lv_has ls 4 [(0, .ref (ad 0)), (1, .int a1), (2, .int a2)] := hl
  unfold wX9_trust at h
  refine lv_iload_n (pc := 0) hx hb dX9_trust_0 rfl (lv_at hl 1 rfl) ?_
  refine lv_i2l (pc := 1) hx hb dX9_trust_1 rfl ?_
  refine lv_lconst (pc := 2) (v := (0 : Int64)) hx hb dX9_trust_2 (by decide) ?_
  refine lv_ldc2 (pc := 3) (v := (9 : Int64)) hx hb hown (hts _ (List.mem_cons_of_mem _ kw527)) dX9_trust_3 ?_
  refine Rcalli (rest := []) (RrunS (pc := 6) X w (okX9_in l hJ h) kw490 kmX9_in ⟨rfl, rfl⟩ ⟨by decide, by decide⟩ rfl hl.1 rfl (Nat.le_of_ble_eq_true rfl) dX9_trust_6) w (fun r1 u9_ H locs h w => ?_)
  obtain ⟨hz_r1, h⟩ := h
  obtain ⟨rfl, h⟩ := h
  refine lv_if_eq (pc := 9) (tgt := 24) hx hb dX9_trust_9 (by decide) (fun c_ => ?_) (fun c_ => ?_)
  · have h := h.1 c_
    refine lv_bipush (pc := 24) (v := (-2 : Int32)) hx hb dX9_trust_24 (by decide) ?_
    exact Riret (pc := 26) X w h dX9_trust_26
  · have h := h.2 c_
    refine lv_iload_n (pc := 12) hx hb dX9_trust_12 rfl (lv_at hl 2 rfl) ?_
    refine lv_i2l (pc := 13) hx hb dX9_trust_13 rfl ?_
    refine lv_lconst (pc := 14) (v := (1 : Int64)) hx hb dX9_trust_14 (by decide) ?_
    refine lv_ldc2 (pc := 15) (v := (9 : Int64)) hx hb hown (hts _ (List.mem_cons_of_mem _ kw527)) dX9_trust_15 ?_
    refine Rcalli (rest := []) (RrunS (pc := 18) X w (okX9_in l hJ h) kw490 kmX9_in ⟨rfl, rfl⟩ ⟨by decide, by decide⟩ rfl hl.1 rfl (Nat.le_of_ble_eq_true rfl) dX9_trust_18) w (fun r2 u9_ H locs h w => ?_)
    obtain ⟨hz_r2, h⟩ := h
    obtain ⟨rfl, h⟩ := h
    refine lv_if_ne (pc := 21) (tgt := 27) hx hb dX9_trust_21 (by decide) (fun c_ => ?_) (fun c_ => ?_)
    · have h := h.2 c_
      refine lv_aload_n (pc := 27) hx hb dX9_trust_27 rfl (lv_at hl 0 rfl) ?_
      refine Rgf_0_0 (pc := 28) X w kw528 dX9_trust_28 ?_
      refine lv_iload_n (pc := 31) hx hb dX9_trust_31 rfl (lv_at hl 1 rfl) ?_
      refine Rld_1 (pc := 32) X w h.1 dX9_trust_32 ?_
      have h := h.2
      refine lv_topi (fun x3_3 e_ => ?_)
      have h := h x3_3 e_
      refine lv_istore_n (pc := 33) (lv' := [(3, .int x3_3), (0, .ref (ad 0)), (1, .int a1), (2, .int a2)]) hx hb dX9_trust_33 rfl hl (by decide) rfl (fun ls hl => ?_)
      refine lv_aload_n (pc := 34) hx hb dX9_trust_34 rfl (lv_at hl 1 rfl) ?_
      refine Rgf_0_0 (pc := 35) X w kw528 dX9_trust_35 ?_
      refine lv_iload_n (pc := 38) hx hb dX9_trust_38 rfl (lv_at hl 2 rfl) ?_
      refine lv_iload_n (pc := 39) hx hb dX9_trust_39 rfl (lv_at hl 3 rfl) ?_
      refine Rst_1 (pc := 40) X w h.1 dX9_trust_40 (fun H locs w => ?_)
      have h := h.2
      obtain ⟨u4, e_⟩ : ∃ y : Mm, y = s32 u 1 a1.toNatClampNeg a2 := ⟨_, rfl⟩
      rw [← e_] at w
      have h := h u4 e_
      refine lv_aload_n (pc := 41) hx hb dX9_trust_41 rfl (lv_at hl 1 rfl) ?_
      refine lv_iconst (pc := 42) (v := (0 : Int32)) hx hb dX9_trust_42 (by decide) ?_
      refine Rpf_0_7 (pc := 43) X w kw529 rfl rfl dX9_trust_43 (fun H locs w => ?_)
      obtain ⟨u5, e_⟩ : ∃ y : Mm, y = s32 u4 107 0 (0 : Int32) := ⟨_, rfl⟩
      rw [← e_] at w
      have h := h u5 e_
      refine lv_iload_n (pc := 46) hx hb dX9_trust_46 rfl (lv_at hl 0 rfl) ?_
      exact Riret (pc := 47) X w h dX9_trust_47
    · have h := h.1 c_
      refine lv_bipush (pc := 24) (v := (-2 : Int32)) hx hb dX9_trust_24 (by decide) ?_
      exact Riret (pc := 26) X w h dX9_trust_26
set_option maxHeartbeats 4000000 in
set_option maxRecDepth 100000 in
theorem okX9_rowMore (l : Launch) {D : va_G} {g : Nat → ClassId} {ad : Nat → Nat} (hJ : RJ ad) {u : Mm} {a1 : Int32} {a2 : Int32} {a3 : Int32} {a4 : Int32} {Q : Int32 → Mm → Prop} (h : wX9_rowMore u a1 a2 a3 a4 Q) : Met l yX9_rowMore (Cond.code yX9_rowMore cX9_rowMore 5 (some .int) :: gt) ({ frames := 2, cells := 0, slots := 0, locals := 45 } : Room) (RPc D g ad u [.ref (ad 0), .int a1, .int a2, .int a3, .int a4]) (va_Qi Q (RB D g ad) (RA ad)) 0 0 (RA ad) := by
  refine Met.ofW (cc := cX9_rowMore) (maxL := 5) (ret := (some .int)) (by decide) rfl ?_
  intro p e s m args below meth c s₁ B hml hv
  refine Rentry (own := RX9) B hml hv hJ rfl (Nat.le_of_ble_eq_true rfl) (fun ls H locs X w hl => ?_)
  obtain ⟨⟨hx, hb, hml, hown, hts⟩, hr, hlocks, hK, hJ, hAA⟩ := id X
  have hl : lv_has ls 5 [(0, .ref (ad 0)), (1, .int a1), (2, .int a2), (3, .int a3), (4, .int a4)] := hl
  unfold wX9_rowMore at h
  refine lv_iload_n (pc := 0) hx hb dX9_rowMore_0 rfl (lv_at hl 1 rfl) ?_
  refine lv_i2l (pc := 1) hx hb dX9_rowMore_1 rfl ?_
  refine lv_lconst (pc := 2) (v := (0 : Int64)) hx hb dX9_rowMore_2 (by decide) ?_
  refine lv_ldc2 (pc := 3) (v := (9 : Int64)) hx hb hown (hts _ (List.mem_cons_of_mem _ kw527)) dX9_rowMore_3 ?_
  refine Rcalli (rest := []) (RrunS (pc := 6) X w (okX9_in l hJ h) kw490 kmX9_in ⟨rfl, rfl⟩ ⟨by decide, by decide⟩ rfl hl.1 rfl (Nat.le_of_ble_eq_true rfl) dX9_rowMore_6) w (fun r1 u9_ H locs h w => ?_)
  obtain ⟨hz_r1, h⟩ := h
  obtain ⟨rfl, h⟩ := h
  refine lv_if_eq (pc := 9) (tgt := 44) hx hb dX9_rowMore_9 (by decide) (fun c_ => ?_) (fun c_ => ?_)
  · have h := h.1 c_
    refine lv_bipush (pc := 44) (v := (-2 : Int32)) hx hb dX9_rowMore_44 (by decide) ?_
    exact Riret (pc := 46) X w h dX9_rowMore_46
  · have h := h.2 c_
    refine lv_iload_n (pc := 12) hx hb dX9_rowMore_12 rfl (lv_at hl 2 rfl) ?_
    refine Rcalli (rest := []) (RrunS (pc := 13) X w (okX9_isCode l hJ h) kw509 kmX9_isCode ⟨rfl, rfl⟩ ⟨by decide, by decide⟩ rfl hl.1 rfl (Nat.le_of_ble_eq_true rfl) dX9_rowMore_13) w (fun r2 u9_ H locs h w => ?_)
    obtain ⟨hz_r2, h⟩ := h
    obtain ⟨rfl, h⟩ := h
    refine lv_if_eq (pc := 16) (tgt := 44) hx hb dX9_rowMore_16 (by decide) (fun c_ => ?_) (fun c_ => ?_)
    · have h := h.1 c_
      refine lv_bipush (pc := 44) (v := (-2 : Int32)) hx hb dX9_rowMore_44 (by decide) ?_
      exact Riret (pc := 46) X w h dX9_rowMore_46
    · have h := h.2 c_
      refine lv_iload_n (pc := 19) hx hb dX9_rowMore_19 rfl (lv_at hl 3 rfl) ?_
      refine lv_i2l (pc := 20) hx hb dX9_rowMore_20 rfl ?_
      refine lv_lconst (pc := 21) (v := (0 : Int64)) hx hb dX9_rowMore_21 (by decide) ?_
      refine lv_ldc2 (pc := 22) (v := (100000 : Int64)) hx hb hown (hts _ (List.mem_cons_of_mem _ kw530)) dX9_rowMore_22 ?_
      refine Rcalli (rest := []) (RrunS (pc := 25) X w (okX9_in l hJ h) kw490 kmX9_in ⟨rfl, rfl⟩ ⟨by decide, by decide⟩ rfl hl.1 rfl (Nat.le_of_ble_eq_true rfl) dX9_rowMore_25) w (fun r3 u9_ H locs h w => ?_)
      obtain ⟨hz_r3, h⟩ := h
      obtain ⟨rfl, h⟩ := h
      refine lv_if_eq (pc := 28) (tgt := 44) hx hb dX9_rowMore_28 (by decide) (fun c_ => ?_) (fun c_ => ?_)
      · have h := h.1 c_
        refine lv_bipush (pc := 44) (v := (-2 : Int32)) hx hb dX9_rowMore_44 (by decide) ?_
        exact Riret (pc := 46) X w h dX9_rowMore_46
      · have h := h.2 c_
        refine lv_iload (pc := 31) hx hb dX9_rowMore_31 (lv_at hl 4 rfl) ?_
        refine lv_i2l (pc := 33) hx hb dX9_rowMore_33 rfl ?_
        refine lv_lconst (pc := 34) (v := (0 : Int64)) hx hb dX9_rowMore_34 (by decide) ?_
        refine lv_ldc2 (pc := 35) (v := (9 : Int64)) hx hb hown (hts _ (List.mem_cons_of_mem _ kw527)) dX9_rowMore_35 ?_
        refine Rcalli (rest := []) (RrunS (pc := 38) X w (okX9_in l hJ h) kw490 kmX9_in ⟨rfl, rfl⟩ ⟨by decide, by decide⟩ rfl hl.1 rfl (Nat.le_of_ble_eq_true rfl) dX9_rowMore_38) w (fun r4 u9_ H locs h w => ?_)
        obtain ⟨hz_r4, h⟩ := h
        obtain ⟨rfl, h⟩ := h
        refine lv_if_ne (pc := 41) (tgt := 47) hx hb dX9_rowMore_41 (by decide) (fun c_ => ?_) (fun c_ => ?_)
        · have h := h.2 c_
          refine lv_aload_n (pc := 47) hx hb dX9_rowMore_47 rfl (lv_at hl 0 rfl) ?_
          refine Rgf_0_1 (pc := 48) X w kw531 dX9_rowMore_48 ?_
          refine lv_bipush (pc := 51) (v := (80 : Int32)) hx hb dX9_rowMore_51 (by decide) ?_
          refine lv_icmp_ne (pc := 53) (tgt := 59) hx hb dX9_rowMore_53 (by decide) (fun c_ => ?_) (fun c_ => ?_)
          · have h := h.2 c_
            refine lv_aload_n (pc := 59) hx hb dX9_rowMore_59 rfl (lv_at hl 0 rfl) ?_
            refine Rgf_0_2 (pc := 60) X w kw532 dX9_rowMore_60 ?_
            refine lv_aload_n (pc := 63) hx hb dX9_rowMore_63 rfl (lv_at hl 0 rfl) ?_
            refine Rgf_0_1 (pc := 64) X w kw531 dX9_rowMore_64 ?_
            refine lv_iload_n (pc := 67) hx hb dX9_rowMore_67 rfl (lv_at hl 1 rfl) ?_
            refine Rst_2 (pc := 68) X w h.1 dX9_rowMore_68 (fun H locs w => ?_)
            have h := h.2
            obtain ⟨u5, e_⟩ : ∃ y : Mm, y = s32 u 2 (u.1 101 0).toNatClampNeg a1 := ⟨_, rfl⟩
            rw [← e_] at w
            have h := h u5 e_
            refine lv_aload_n (pc := 69) hx hb dX9_rowMore_69 rfl (lv_at hl 0 rfl) ?_
            refine Rgf_0_3 (pc := 70) X w kw533 dX9_rowMore_70 ?_
            refine lv_aload_n (pc := 73) hx hb dX9_rowMore_73 rfl (lv_at hl 0 rfl) ?_
            refine Rgf_0_1 (pc := 74) X w kw531 dX9_rowMore_74 ?_
            refine lv_iload_n (pc := 77) hx hb dX9_rowMore_77 rfl (lv_at hl 2 rfl) ?_
            refine Rst_3 (pc := 78) X w h.1 dX9_rowMore_78 (fun H locs w => ?_)
            have h := h.2
            obtain ⟨u6, e_⟩ : ∃ y : Mm, y = s32 u5 3 (u5.1 101 0).toNatClampNeg a2 := ⟨_, rfl⟩
            rw [← e_] at w
            have h := h u6 e_
            refine lv_aload_n (pc := 79) hx hb dX9_rowMore_79 rfl (lv_at hl 0 rfl) ?_
            refine Rgf_0_4 (pc := 80) X w kw534 dX9_rowMore_80 ?_
            refine lv_aload_n (pc := 83) hx hb dX9_rowMore_83 rfl (lv_at hl 0 rfl) ?_
            refine Rgf_0_1 (pc := 84) X w kw531 dX9_rowMore_84 ?_
            refine lv_iload_n (pc := 87) hx hb dX9_rowMore_87 rfl (lv_at hl 3 rfl) ?_
            refine Rst_4 (pc := 88) X w h.1 dX9_rowMore_88 (fun H locs w => ?_)
            have h := h.2
            obtain ⟨u7, e_⟩ : ∃ y : Mm, y = s32 u6 4 (u6.1 101 0).toNatClampNeg a3 := ⟨_, rfl⟩
            rw [← e_] at w
            have h := h u7 e_
            refine lv_aload_n (pc := 89) hx hb dX9_rowMore_89 rfl (lv_at hl 0 rfl) ?_
            refine Rgf_0_5 (pc := 90) X w kw535 dX9_rowMore_90 ?_
            refine lv_aload_n (pc := 93) hx hb dX9_rowMore_93 rfl (lv_at hl 0 rfl) ?_
            refine Rgf_0_1 (pc := 94) X w kw531 dX9_rowMore_94 ?_
            refine lv_iload (pc := 97) hx hb dX9_rowMore_97 (lv_at hl 4 rfl) ?_
            refine Rst_5 (pc := 99) X w h.1 dX9_rowMore_99 (fun H locs w => ?_)
            have h := h.2
            obtain ⟨u8, e_⟩ : ∃ y : Mm, y = s32 u7 5 (u7.1 101 0).toNatClampNeg a4 := ⟨_, rfl⟩
            rw [← e_] at w
            have h := h u8 e_
            refine lv_aload_n (pc := 100) hx hb dX9_rowMore_100 rfl (lv_at hl 0 rfl) ?_
            refine lv_dup (pc := 101) hx hb dX9_rowMore_101 rfl ?_
            refine Rgf_0_1 (pc := 102) X w kw531 dX9_rowMore_102 ?_
            refine lv_iconst (pc := 105) (v := (1 : Int32)) hx hb dX9_rowMore_105 (by decide) ?_
            refine lv_iadd (pc := 106) hx hb dX9_rowMore_106 ?_
            refine Rpf_0_1 (pc := 107) X w kw531 dX9_rowMore_107 (fun H locs w => ?_)
            obtain ⟨u9, e_⟩ : ∃ y : Mm, y = s32 u8 101 0 ((u8.1 101 0) + (1 : Int32)) := ⟨_, rfl⟩
            rw [← e_] at w
            have h := h u9 e_
            refine lv_aload_n (pc := 110) hx hb dX9_rowMore_110 rfl (lv_at hl 0 rfl) ?_
            refine lv_iconst (pc := 111) (v := (0 : Int32)) hx hb dX9_rowMore_111 (by decide) ?_
            refine Rpf_0_7 (pc := 112) X w kw529 rfl rfl dX9_rowMore_112 (fun H locs w => ?_)
            obtain ⟨u10, e_⟩ : ∃ y : Mm, y = s32 u9 107 0 (0 : Int32) := ⟨_, rfl⟩
            rw [← e_] at w
            have h := h u10 e_
            refine lv_aload_n (pc := 115) hx hb dX9_rowMore_115 rfl (lv_at hl 0 rfl) ?_
            refine Rgf_0_1 (pc := 116) X w kw531 dX9_rowMore_116 ?_
            refine lv_iconst (pc := 119) (v := (1 : Int32)) hx hb dX9_rowMore_119 (by decide) ?_
            refine lv_isub (pc := 120) hx hb dX9_rowMore_120 ?_
            exact Riret (pc := 121) X w h dX9_rowMore_121
          · have h := h.1 c_
            refine lv_bipush (pc := 56) (v := (-4 : Int32)) hx hb dX9_rowMore_56 (by decide) ?_
            exact Riret (pc := 58) X w h dX9_rowMore_58
        · have h := h.1 c_
          refine lv_bipush (pc := 44) (v := (-2 : Int32)) hx hb dX9_rowMore_44 (by decide) ?_
          exact Riret (pc := 46) X w h dX9_rowMore_46
set_option maxHeartbeats 4000000 in
set_option maxRecDepth 100000 in
theorem okX9_row (l : Launch) {D : va_G} {g : Nat → ClassId} {ad : Nat → Nat} (hJ : RJ ad) {u : Mm} {a1 : Int32} {a2 : Int32} {a3 : Int32} {a4 : Int32} {Q : Int32 → Mm → Prop} (h : wX9_row u a1 a2 a3 a4 Q) : Met l yX9_row (Cond.code yX9_row cX9_row 5 (some .int) :: gt) ({ frames := 3, cells := 0, slots := 0, locals := 69 } : Room) (RPc D g ad u [.ref (ad 0), .int a1, .int a2, .int a3, .int a4]) (va_Qi Q (RB D g ad) (RA ad)) 0 0 (RA ad) := by
  refine Met.ofW (cc := cX9_row) (maxL := 5) (ret := (some .int)) (by decide) rfl ?_
  intro p e s m args below meth c s₁ B hml hv
  refine Rentry (own := RX9) B hml hv hJ rfl (Nat.le_of_ble_eq_true rfl) (fun ls H locs X w hl => ?_)
  obtain ⟨⟨hx, hb, hml, hown, hts⟩, hr, hlocks, hK, hJ, hAA⟩ := id X
  have hl : lv_has ls 5 [(0, .ref (ad 0)), (1, .int a1), (2, .int a2), (3, .int a3), (4, .int a4)] := hl
  unfold wX9_row at h
  refine lv_aload_n (pc := 0) hx hb dX9_row_0 rfl (lv_at hl 0 rfl) ?_
  refine lv_iload_n (pc := 1) hx hb dX9_row_1 rfl (lv_at hl 1 rfl) ?_
  refine lv_iload_n (pc := 2) hx hb dX9_row_2 rfl (lv_at hl 2 rfl) ?_
  refine lv_iload_n (pc := 3) hx hb dX9_row_3 rfl (lv_at hl 3 rfl) ?_
  refine lv_iload (pc := 4) hx hb dX9_row_4 (lv_at hl 4 rfl) ?_
  refine Rcalli (rest := []) (RrunV (pc := 6) X w (okX9_rowMore l hJ h) kw536 kmX9_rowMore ⟨rfl, rfl⟩ ⟨by decide, by decide⟩ (Rrv_0 X w) rfl hl.1 rfl (Nat.le_of_ble_eq_true rfl) dX9_row_6) w (fun r1 u2 H locs h w => ?_)
  exact Riret (pc := 9) X w h dX9_row_9
set_option maxHeartbeats 4000000 in
set_option maxRecDepth 100000 in
theorem bX9_countingRow_70 {l : Launch} {p : Program} {e : Env} {s : State} {m : MethodId} {args : Array Value} {below : List Frame} {meth : Method} {c : Code} {D : va_G} {g : Nat → ClassId} {ad : Nat → Nat} {u : Mm} {Q : Int32 → Prop} {k6 : Int32 → Int32 → Int32 → Int32 → Int32 → Int32 → Prop} (X : RX p s m args meth c cX9_countingRow RX9 8 (some .int) (Cond.code yX9_countingRow cX9_countingRow 8 (some .int)) D g ad (RA ad)) (hk6 : ∀ (x1 : Int32) (x2 : Int32) (x3 : Int32) (x4 : Int32) (x5 : Int32) (x6 : Int32) (H : Heap) (locs : List Loc) (ls : Array Slot), k6 x1 x2 x3 x4 x5 x6 → RWd D g ad (RA ad) s u H locs → lv_has ls 8 [(0, .ref (ad 0)), (1, .int x1), (2, .int x2), (3, .int x3), (4, .int x4), (5, .int x5), (6, .int x6)] → W p l e ({ frames := 0, cells := 0, slots := 0, locals := 0 } : Room) s m args below meth c H locs 0 0 (MQ below (va_Qi (fun r u1 => u = u1 ∧ Q r) (RB D g ad) (RA ad)) args s 0 0 (RA ad)) (F0 m 6 ls [])) : ∀ (x1 : Int32) (x2 : Int32) (x3 : Int32) (x4 : Int32) (x5 : Int32) (x6 : Int32) (y0 : Int32) (H : Heap) (locs : List Loc) (ls : Array Slot), wX9_countingRow_b70 u k6 Q x1 x2 x3 x4 x5 x6 y0 → RWd D g ad (RA ad) s u H locs → lv_has ls 8 [(0, .ref (ad 0)), (1, .int x1), (2, .int x2), (3, .int x3), (4, .int x4), (5, .int x5), (6, .int x6)] → W p l e ({ frames := 0, cells := 0, slots := 0, locals := 0 } : Room) s m args below meth c H locs 0 0 (MQ below (va_Qi (fun r u1 => u = u1 ∧ Q r) (RB D g ad) (RA ad)) args s 0 0 (RA ad)) (F0 m 70 ls [.int y0]) := by
  obtain ⟨⟨hx, hb, hml, hown, hts⟩, hr, hlocks, hK, hJ, hAA⟩ := id X
  intro x1 x2 x3 x4 x5 x6 y0 H locs ls h w hl
  unfold wX9_countingRow_b70 at h
  refine lv_istore (pc := 70) (lv' := [(7, .int y0), (0, .ref (ad 0)), (1, .int x1), (2, .int x2), (3, .int x3), (4, .int x4), (5, .int x5), (6, .int x6)]) hx hb dX9_countingRow_70 hl (by decide) rfl (fun ls hl => ?_)
  refine lv_iload (pc := 72) hx hb dX9_countingRow_72 (lv_at hl 0 rfl) ?_
  refine lv_if_eq (pc := 74) (tgt := 105) hx hb dX9_countingRow_74 (by decide) (fun c_ => ?_) (fun c_ => ?_)
  · have h := h.1 c_
    refine lv_iload (pc := 105) hx hb dX9_countingRow_105 (lv_at hl 6 rfl) ?_
    refine lv_istore (pc := 107) (lv' := [(5, .int x5), (7, .int y0), (0, .ref (ad 0)), (1, .int x1), (2, .int x2), (3, .int x3), (4, .int x4), (6, .int x6)]) hx hb dX9_countingRow_107 hl (by decide) rfl (fun ls hl => ?_)
    obtain ⟨x6_1, e_⟩ : ∃ y : Int32, y = x6 + (1 : Int32) := ⟨_, rfl⟩
    have h := h x6_1 e_
    refine lv_iinc (pc := 109) (v := x6_1) (lv' := [(6, .int x6_1), (5, .int x5), (7, .int y0), (0, .ref (ad 0)), (1, .int x1), (2, .int x2), (3, .int x3), (4, .int x4)]) hx hb dX9_countingRow_109 hl (k := 7) rfl (by rw [e_]; rfl) (by decide) rfl (fun ls hl => ?_)
    refine lv_goto (pc := 112) (tgt := 6) hx hb dX9_countingRow_112 (by decide) ?_
    exact hk6 x1 x2 x3 x4 x5 x6_1 H locs ls h w (lv_sub hl [3, 4, 5, 6, 7, 1, 0] rfl)
  · have h := h.2 c_
    refine lv_iload (pc := 77) hx hb dX9_countingRow_77 (lv_at hl 6 rfl) ?_
    refine lv_iconst (pc := 79) (v := (-1 : Int32)) hx hb dX9_countingRow_79 (by decide) ?_
    refine lv_icmp_eq (pc := 80) (tgt := 100) hx hb dX9_countingRow_80 (by decide) (fun c_ => ?_) (fun c_ => ?_)
    · have h := h.1 c_
      refine lv_iload (pc := 100) hx hb dX9_countingRow_100 (lv_at hl 7 rfl) ?_
      refine lv_goto (pc := 102) (tgt := 107) hx hb dX9_countingRow_102 (by decide) ?_
      refine lv_istore (pc := 107) (lv' := [(5, .int x6), (7, .int y0), (0, .ref (ad 0)), (1, .int x1), (2, .int x2), (3, .int x3), (4, .int x4), (6, .int x6)]) hx hb dX9_countingRow_107 hl (by decide) rfl (fun ls hl => ?_)
      obtain ⟨x6_2, e_⟩ : ∃ y : Int32, y = x6 + (1 : Int32) := ⟨_, rfl⟩
      have h := h x6_2 e_
      refine lv_iinc (pc := 109) (v := x6_2) (lv' := [(6, .int x6_2), (5, .int x6), (7, .int y0), (0, .ref (ad 0)), (1, .int x1), (2, .int x2), (3, .int x3), (4, .int x4)]) hx hb dX9_countingRow_109 hl (k := 7) rfl (by rw [e_]; rfl) (by decide) rfl (fun ls hl => ?_)
      refine lv_goto (pc := 112) (tgt := 6) hx hb dX9_countingRow_112 (by decide) ?_
      exact hk6 x1 x2 x3 x4 x6 x6_2 H locs ls h w (lv_sub hl [3, 4, 5, 6, 7, 1, 0] rfl)
    · have h := h.2 c_
      refine lv_aload_n (pc := 83) hx hb dX9_countingRow_83 rfl (lv_at hl 1 rfl) ?_
      refine Rgf_0_5 (pc := 84) X w kw535 dX9_countingRow_84 ?_
      refine lv_iload (pc := 87) hx hb dX9_countingRow_87 (lv_at hl 7 rfl) ?_
      refine Rld_5 (pc := 89) X w h.1 dX9_countingRow_89 ?_
      have h := h.2
      refine lv_aload_n (pc := 90) hx hb dX9_countingRow_90 rfl (lv_at hl 1 rfl) ?_
      refine Rgf_0_5 (pc := 91) X w kw535 dX9_countingRow_91 ?_
      refine lv_iload (pc := 94) hx hb dX9_countingRow_94 (lv_at hl 6 rfl) ?_
      refine Rld_5 (pc := 96) X w h.1 dX9_countingRow_96 ?_
      have h := h.2
      refine lv_icmp_lt (pc := 97) (tgt := 105) hx hb dX9_countingRow_97 (by decide) (fun c_ => ?_) (fun c_ => ?_)
      · have h := h.1 c_
        refine lv_iload (pc := 105) hx hb dX9_countingRow_105 (lv_at hl 6 rfl) ?_
        refine lv_istore (pc := 107) (lv' := [(5, .int x5), (7, .int y0), (0, .ref (ad 0)), (1, .int x1), (2, .int x2), (3, .int x3), (4, .int x4), (6, .int x6)]) hx hb dX9_countingRow_107 hl (by decide) rfl (fun ls hl => ?_)
        obtain ⟨x6_3, e_⟩ : ∃ y : Int32, y = x6 + (1 : Int32) := ⟨_, rfl⟩
        have h := h x6_3 e_
        refine lv_iinc (pc := 109) (v := x6_3) (lv' := [(6, .int x6_3), (5, .int x5), (7, .int y0), (0, .ref (ad 0)), (1, .int x1), (2, .int x2), (3, .int x3), (4, .int x4)]) hx hb dX9_countingRow_109 hl (k := 7) rfl (by rw [e_]; rfl) (by decide) rfl (fun ls hl => ?_)
        refine lv_goto (pc := 112) (tgt := 6) hx hb dX9_countingRow_112 (by decide) ?_
        exact hk6 x1 x2 x3 x4 x5 x6_3 H locs ls h w (lv_sub hl [3, 4, 5, 6, 7, 1, 0] rfl)
      · have h := h.2 c_
        refine lv_iload (pc := 100) hx hb dX9_countingRow_100 (lv_at hl 7 rfl) ?_
        refine lv_goto (pc := 102) (tgt := 107) hx hb dX9_countingRow_102 (by decide) ?_
        refine lv_istore (pc := 107) (lv' := [(5, .int x6), (7, .int y0), (0, .ref (ad 0)), (1, .int x1), (2, .int x2), (3, .int x3), (4, .int x4), (6, .int x6)]) hx hb dX9_countingRow_107 hl (by decide) rfl (fun ls hl => ?_)
        obtain ⟨x6_4, e_⟩ : ∃ y : Int32, y = x6 + (1 : Int32) := ⟨_, rfl⟩
        have h := h x6_4 e_
        refine lv_iinc (pc := 109) (v := x6_4) (lv' := [(6, .int x6_4), (5, .int x6), (7, .int y0), (0, .ref (ad 0)), (1, .int x1), (2, .int x2), (3, .int x3), (4, .int x4)]) hx hb dX9_countingRow_109 hl (k := 7) rfl (by rw [e_]; rfl) (by decide) rfl (fun ls hl => ?_)
        refine lv_goto (pc := 112) (tgt := 6) hx hb dX9_countingRow_112 (by decide) ?_
        exact hk6 x1 x2 x3 x4 x6 x6_4 H locs ls h w (lv_sub hl [3, 4, 5, 6, 7, 1, 0] rfl)
set_option maxHeartbeats 4000000 in
set_option maxRecDepth 100000 in
theorem bX9_countingRow_6 {l : Launch} {p : Program} {e : Env} {s : State} {m : MethodId} {args : Array Value} {below : List Frame} {meth : Method} {c : Code} {D : va_G} {g : Nat → ClassId} {ad : Nat → Nat} {u : Mm} {Q : Int32 → Prop} (X : RX p s m args meth c cX9_countingRow RX9 8 (some .int) (Cond.code yX9_countingRow cX9_countingRow 8 (some .int)) D g ad (RA ad)) : ∀ (n : Nat) (x1 : Int32) (x2 : Int32) (x3 : Int32) (x4 : Int32) (x5 : Int32) (x6 : Int32) (H : Heap) (locs : List Loc) (ls : Array Slot), wX9_countingRow_b6 u Q n x1 x2 x3 x4 x5 x6 → RWd D g ad (RA ad) s u H locs → lv_has ls 8 [(0, .ref (ad 0)), (1, .int x1), (2, .int x2), (3, .int x3), (4, .int x4), (5, .int x5), (6, .int x6)] → W p l e ({ frames := 0, cells := 0, slots := 0, locals := 0 } : Room) s m args below meth c H locs 0 0 (MQ below (va_Qi (fun r u1 => u = u1 ∧ Q r) (RB D g ad) (RA ad)) args s 0 0 (RA ad)) (F0 m 6 ls []) := by
  obtain ⟨⟨hx, hb, hml, hown, hts⟩, hr, hlocks, hK, hJ, hAA⟩ := id X
  intro n
  induction n with
  | zero =>
    intro x1 x2 x3 x4 x5 x6 H locs ls h
    exact False.elim h
  | succ n ih =>
    intro x1 x2 x3 x4 x5 x6 H locs ls h w hl
    unfold wX9_countingRow_b6 at h
    refine lv_iload (pc := 6) hx hb dX9_countingRow_6 (lv_at hl 6 rfl) ?_
    refine lv_aload_n (pc := 8) hx hb dX9_countingRow_8 rfl (lv_at hl 0 rfl) ?_
    refine Rgf_0_1 (pc := 9) X w kw531 dX9_countingRow_9 ?_
    refine lv_icmp_ge (pc := 12) (tgt := 115) hx hb dX9_countingRow_12 (by decide) (fun c_ => ?_) (fun c_ => ?_)
    · have h := h.1 c_
      refine lv_iload (pc := 115) hx hb dX9_countingRow_115 (lv_at hl 5 rfl) ?_
      exact Riret (pc := 117) X w ⟨rfl, h⟩ dX9_countingRow_117
    · have h := h.2 c_
      refine lv_aload_n (pc := 15) hx hb dX9_countingRow_15 rfl (lv_at hl 0 rfl) ?_
      refine Rgf_0_3 (pc := 16) X w kw533 dX9_countingRow_16 ?_
      refine lv_iload (pc := 19) hx hb dX9_countingRow_19 (lv_at hl 6 rfl) ?_
      refine Rld_3 (pc := 21) X w h.1 dX9_countingRow_21 ?_
      have h := h.2
      refine lv_iload_n (pc := 22) hx hb dX9_countingRow_22 rfl (lv_at hl 1 rfl) ?_
      refine lv_icmp_ne (pc := 23) (tgt := 69) hx hb dX9_countingRow_23 (by decide) (fun c_ => ?_) (fun c_ => ?_)
      · have h := h.2 c_
        refine lv_iconst (pc := 69) (v := (0 : Int32)) hx hb dX9_countingRow_69 (by decide) ?_
        refine bX9_countingRow_70 X ?_ x1 x2 x3 x4 x5 x6 (0 : Int32) H locs ls h w (lv_sub hl [0, 1, 2, 3, 4, 5, 6] rfl)
        · intro x1 x2 x3 x4 x5 x6 H locs ls h w hl
          exact ih x1 x2 x3 x4 x5 x6 H locs ls h w (lv_sub hl [0, 1, 2, 3, 4, 5, 6] rfl)
      · have h := h.1 c_
        refine lv_aload_n (pc := 26) hx hb dX9_countingRow_26 rfl (lv_at hl 0 rfl) ?_
        refine Rgf_0_2 (pc := 27) X w kw532 dX9_countingRow_27 ?_
        refine lv_iload (pc := 30) hx hb dX9_countingRow_30 (lv_at hl 6 rfl) ?_
        refine Rld_2 (pc := 32) X w h.1 dX9_countingRow_32 ?_
        have h := h.2
        refine lv_iload_n (pc := 33) hx hb dX9_countingRow_33 rfl (lv_at hl 2 rfl) ?_
        refine lv_icmp_ne (pc := 34) (tgt := 69) hx hb dX9_countingRow_34 (by decide) (fun c_ => ?_) (fun c_ => ?_)
        · have h := h.2 c_
          refine lv_iconst (pc := 69) (v := (0 : Int32)) hx hb dX9_countingRow_69 (by decide) ?_
          refine bX9_countingRow_70 X ?_ x1 x2 x3 x4 x5 x6 (0 : Int32) H locs ls h w (lv_sub hl [0, 1, 2, 3, 4, 5, 6] rfl)
          · intro x1 x2 x3 x4 x5 x6 H locs ls h w hl
            exact ih x1 x2 x3 x4 x5 x6 H locs ls h w (lv_sub hl [0, 1, 2, 3, 4, 5, 6] rfl)
        · have h := h.1 c_
          refine lv_aload_n (pc := 37) hx hb dX9_countingRow_37 rfl (lv_at hl 0 rfl) ?_
          refine Rgf_0_5 (pc := 38) X w kw535 dX9_countingRow_38 ?_
          refine lv_iload (pc := 41) hx hb dX9_countingRow_41 (lv_at hl 6 rfl) ?_
          refine Rld_5 (pc := 43) X w h.1 dX9_countingRow_43 ?_
          have h := h.2
          refine lv_iload_n (pc := 44) hx hb dX9_countingRow_44 rfl (lv_at hl 3 rfl) ?_
          refine lv_icmp_lt (pc := 45) (tgt := 65) hx hb dX9_countingRow_45 (by decide) (fun c_ => ?_) (fun c_ => ?_)
          · have h := h.1 c_
            refine lv_iconst (pc := 65) (v := (1 : Int32)) hx hb dX9_countingRow_65 (by decide) ?_
            refine lv_goto (pc := 66) (tgt := 70) hx hb dX9_countingRow_66 (by decide) ?_
            refine bX9_countingRow_70 X ?_ x1 x2 x3 x4 x5 x6 (1 : Int32) H locs ls h w (lv_sub hl [0, 1, 2, 3, 4, 5, 6] rfl)
            · intro x1 x2 x3 x4 x5 x6 H locs ls h w hl
              exact ih x1 x2 x3 x4 x5 x6 H locs ls h w (lv_sub hl [0, 1, 2, 3, 4, 5, 6] rfl)
          · have h := h.2 c_
            refine lv_aload_n (pc := 48) hx hb dX9_countingRow_48 rfl (lv_at hl 0 rfl) ?_
            refine Rgf_0_5 (pc := 49) X w kw535 dX9_countingRow_49 ?_
            refine lv_iload (pc := 52) hx hb dX9_countingRow_52 (lv_at hl 6 rfl) ?_
            refine Rld_5 (pc := 54) X w h.1 dX9_countingRow_54 ?_
            have h := h.2
            refine lv_iload_n (pc := 55) hx hb dX9_countingRow_55 rfl (lv_at hl 3 rfl) ?_
            refine lv_icmp_ne (pc := 56) (tgt := 69) hx hb dX9_countingRow_56 (by decide) (fun c_ => ?_) (fun c_ => ?_)
            · have h := h.2 c_
              refine lv_iconst (pc := 69) (v := (0 : Int32)) hx hb dX9_countingRow_69 (by decide) ?_
              refine bX9_countingRow_70 X ?_ x1 x2 x3 x4 x5 x6 (0 : Int32) H locs ls h w (lv_sub hl [0, 1, 2, 3, 4, 5, 6] rfl)
              · intro x1 x2 x3 x4 x5 x6 H locs ls h w hl
                exact ih x1 x2 x3 x4 x5 x6 H locs ls h w (lv_sub hl [0, 1, 2, 3, 4, 5, 6] rfl)
            · have h := h.1 c_
              refine lv_iload_n (pc := 59) hx hb dX9_countingRow_59 rfl (lv_at hl 2 rfl) ?_
              refine lv_iload (pc := 60) hx hb dX9_countingRow_60 (lv_at hl 4 rfl) ?_
              refine lv_icmp_gt (pc := 62) (tgt := 69) hx hb dX9_countingRow_62 (by decide) (fun c_ => ?_) (fun c_ => ?_)
              · have h := h.1 c_
                refine lv_iconst (pc := 69) (v := (0 : Int32)) hx hb dX9_countingRow_69 (by decide) ?_
                refine bX9_countingRow_70 X ?_ x1 x2 x3 x4 x5 x6 (0 : Int32) H locs ls h w (lv_sub hl [0, 1, 2, 3, 4, 5, 6] rfl)
                · intro x1 x2 x3 x4 x5 x6 H locs ls h w hl
                  exact ih x1 x2 x3 x4 x5 x6 H locs ls h w (lv_sub hl [0, 1, 2, 3, 4, 5, 6] rfl)
              · have h := h.2 c_
                refine lv_iconst (pc := 65) (v := (1 : Int32)) hx hb dX9_countingRow_65 (by decide) ?_
                refine lv_goto (pc := 66) (tgt := 70) hx hb dX9_countingRow_66 (by decide) ?_
                refine bX9_countingRow_70 X ?_ x1 x2 x3 x4 x5 x6 (1 : Int32) H locs ls h w (lv_sub hl [0, 1, 2, 3, 4, 5, 6] rfl)
                · intro x1 x2 x3 x4 x5 x6 H locs ls h w hl
                  exact ih x1 x2 x3 x4 x5 x6 H locs ls h w (lv_sub hl [0, 1, 2, 3, 4, 5, 6] rfl)
set_option maxHeartbeats 4000000 in
set_option maxRecDepth 100000 in
theorem okX9_countingRow (l : Launch) {D : va_G} {g : Nat → ClassId} {ad : Nat → Nat} (hJ : RJ ad) {u : Mm} {a1 : Int32} {a2 : Int32} {a3 : Int32} {a4 : Int32} {Q : Int32 → Prop} (h : wX9_countingRow u a1 a2 a3 a4 Q) : Met l yX9_countingRow (Cond.code yX9_countingRow cX9_countingRow 8 (some .int) :: gt) ({ frames := 0, cells := 0, slots := 0, locals := 0 } : Room) (RPc D g ad u [.ref (ad 0), .int a1, .int a2, .int a3, .int a4]) (va_Qi (fun r u1 => u = u1 ∧ Q r) (RB D g ad) (RA ad)) 0 0 (RA ad) := by
  refine Met.ofW (cc := cX9_countingRow) (maxL := 8) (ret := (some .int)) (by decide) rfl ?_
  intro p e s m args below meth c s₁ B hml hv
  refine Rentry (own := RX9) B hml hv hJ rfl (Nat.le_of_ble_eq_true rfl) (fun ls H locs X w hl => ?_)
  obtain ⟨⟨hx, hb, hml, hown, hts⟩, hr, hlocks, hK, hJ, hAA⟩ := id X
  have hl : lv_has ls 8 [(0, .ref (ad 0)), (1, .int a1), (2, .int a2), (3, .int a3), (4, .int a4)] := hl
  unfold wX9_countingRow at h
  refine lv_iconst (pc := 0) (v := (-1 : Int32)) hx hb dX9_countingRow_0 (by decide) ?_
  refine lv_istore (pc := 1) (lv' := [(5, .int (-1 : Int32)), (0, .ref (ad 0)), (1, .int a1), (2, .int a2), (3, .int a3), (4, .int a4)]) hx hb dX9_countingRow_1 hl (by decide) rfl (fun ls hl => ?_)
  refine lv_iconst (pc := 3) (v := (0 : Int32)) hx hb dX9_countingRow_3 (by decide) ?_
  refine lv_istore (pc := 4) (lv' := [(6, .int (0 : Int32)), (5, .int (-1 : Int32)), (0, .ref (ad 0)), (1, .int a1), (2, .int a2), (3, .int a3), (4, .int a4)]) hx hb dX9_countingRow_4 hl (by decide) rfl (fun ls hl => ?_)
  obtain ⟨n9, h⟩ := h
  exact bX9_countingRow_6 X n9 a1 a2 a3 a4 (-1 : Int32) (0 : Int32) H locs ls h w (lv_sub hl [2, 3, 4, 5, 6, 1, 0] rfl)
set_option maxHeartbeats 4000000 in
set_option maxRecDepth 100000 in
theorem bX9_saidBy_11 {l : Launch} {p : Program} {e : Env} {s : State} {m : MethodId} {args : Array Value} {below : List Frame} {meth : Method} {c : Code} {D : va_G} {g : Nat → ClassId} {ad : Nat → Nat} {Q : Int64 → Mm → Prop} (X : RX p s m args meth c cX9_saidBy RX9 8 (some .long) (Cond.code yX9_saidBy cX9_saidBy 8 (some .long)) D g ad (RA ad)) : ∀ (n : Nat) (u : Mm) (x1 : Int32) (x2 : Int32) (x3 : Int32) (x4 : Int64) (x6 : Int32) (H : Heap) (locs : List Loc) (ls : Array Slot), wX9_saidBy_b11 Q n u x1 x2 x3 x4 x6 → RWd D g ad (RA ad) s u H locs → lv_has ls 8 [(0, .ref (ad 0)), (1, .int x1), (2, .int x2), (3, .int x3), (4, .long x4), (6, .int x6)] → W p l e ({ frames := 1, cells := 0, slots := 0, locals := 27 } : Room) s m args below meth c H locs 0 0 (MQ below (va_Ql Q (RB D g ad) (RA ad)) args s 0 0 (RA ad)) (F0 m 11 ls []) := by
  obtain ⟨⟨hx, hb, hml, hown, hts⟩, hr, hlocks, hK, hJ, hAA⟩ := id X
  intro n
  induction n with
  | zero =>
    intro u x1 x2 x3 x4 x6 H locs ls h
    exact False.elim h
  | succ n ih =>
    intro u x1 x2 x3 x4 x6 H locs ls h w hl
    unfold wX9_saidBy_b11 at h
    refine lv_iload (pc := 11) hx hb dX9_saidBy_11 (lv_at hl 5 rfl) ?_
    refine lv_bipush (pc := 13) (v := (10 : Int32)) hx hb dX9_saidBy_13 (by decide) ?_
    refine lv_icmp_ge (pc := 15) (tgt := 79) hx hb dX9_saidBy_15 (by decide) (fun c_ => ?_) (fun c_ => ?_)
    · have h := h.1 c_
      refine lv_aload_n (pc := 79) hx hb dX9_saidBy_79 rfl (lv_at hl 0 rfl) ?_
      refine Rgf_0_11 (pc := 80) X w kw540 dX9_saidBy_80 ?_
      refine lv_if_ne (pc := 83) (tgt := 90) hx hb dX9_saidBy_83 (by decide) (fun c_ => ?_) (fun c_ => ?_)
      · have h := h.2 c_
        refine lv_ldc2 (pc := 90) (v := (2 : Int64)) hx hb hown (hts _ (List.mem_cons_of_mem _ kw505)) dX9_saidBy_90 ?_
        refine lv_lload (pc := 93) hx hb dX9_saidBy_93 (lv_at hl 4 rfl) ?_
        refine lv_lmul (pc := 95) hx hb dX9_saidBy_95 ?_
        refine lv_aload_n (pc := 96) hx hb dX9_saidBy_96 rfl (lv_at hl 0 rfl) ?_
        refine Rgf_0_11 (pc := 97) X w kw540 dX9_saidBy_97 ?_
        refine lv_i2l (pc := 100) hx hb dX9_saidBy_100 rfl ?_
        refine lv_ladd (pc := 101) hx hb dX9_saidBy_101 ?_
        refine lv_ldc2 (pc := 102) (v := (2 : Int64)) hx hb hown (hts _ (List.mem_cons_of_mem _ kw505)) dX9_saidBy_102 ?_
        refine lv_aload_n (pc := 105) hx hb dX9_saidBy_105 rfl (lv_at hl 0 rfl) ?_
        refine Rgf_0_11 (pc := 106) X w kw540 dX9_saidBy_106 ?_
        refine lv_i2l (pc := 109) hx hb dX9_saidBy_109 rfl ?_
        refine lv_lmul (pc := 110) hx hb dX9_saidBy_110 ?_
        refine lv_ldiv (pc := 111) hx hb dX9_saidBy_111 h.1 ?_
        have h := h.2
        exact Rlret (pc := 112) X w h dX9_saidBy_112
      · have h := h.1 c_
        refine lv_lconst (pc := 86) (v := (0 : Int64)) hx hb dX9_saidBy_86 (by decide) ?_
        refine lv_goto (pc := 87) (tgt := 112) hx hb dX9_saidBy_87 (by decide) ?_
        exact Rlret (pc := 112) X w h dX9_saidBy_112
    · have h := h.2 c_
      refine lv_aload_n (pc := 18) hx hb dX9_saidBy_18 rfl (lv_at hl 0 rfl) ?_
      refine lv_iload_n (pc := 19) hx hb dX9_saidBy_19 rfl (lv_at hl 1 rfl) ?_
      refine lv_iload (pc := 20) hx hb dX9_saidBy_20 (lv_at hl 5 rfl) ?_
      refine lv_iload_n (pc := 22) hx hb dX9_saidBy_22 rfl (lv_at hl 2 rfl) ?_
      refine lv_iload_n (pc := 23) hx hb dX9_saidBy_23 rfl (lv_at hl 3 rfl) ?_
      refine Rcalli (rest := []) (RrunV (pc := 24) X w (okX9_countingRow l hJ h) kw541 kmX9_countingRow ⟨rfl, rfl⟩ ⟨by decide, by decide⟩ (Rrv_0 X w) rfl hl.1 rfl (Nat.le_of_ble_eq_true rfl) dX9_saidBy_24) w (fun r1 u9_ H locs h w => ?_)
      obtain ⟨rfl, h⟩ := h
      refine lv_istore (pc := 27) (lv' := [(7, .int r1), (0, .ref (ad 0)), (1, .int x1), (2, .int x2), (3, .int x3), (4, .long x4), (6, .int x6)]) hx hb dX9_saidBy_27 hl (by decide) rfl (fun ls hl => ?_)
      refine lv_iload (pc := 29) hx hb dX9_saidBy_29 (lv_at hl 0 rfl) ?_
      refine lv_iconst (pc := 31) (v := (-1 : Int32)) hx hb dX9_saidBy_31 (by decide) ?_
      refine lv_icmp_eq (pc := 32) (tgt := 73) hx hb dX9_saidBy_32 (by decide) (fun c_ => ?_) (fun c_ => ?_)
      · have h := h.1 c_
        obtain ⟨x6_2, e_⟩ : ∃ y : Int32, y = x6 + (1 : Int32) := ⟨_, rfl⟩
        have h := h x6_2 e_
        refine lv_iinc (pc := 73) (v := x6_2) (lv' := [(6, .int x6_2), (7, .int r1), (0, .ref (ad 0)), (1, .int x1), (2, .int x2), (3, .int x3), (4, .long x4)]) hx hb dX9_saidBy_73 hl (k := 6) rfl (by rw [e_]; rfl) (by decide) rfl (fun ls hl => ?_)
        refine lv_goto (pc := 76) (tgt := 11) hx hb dX9_saidBy_76 (by decide) ?_
        exact ih u x1 x2 x3 x4 x6_2 H locs ls h w (lv_sub hl [2, 3, 4, 5, 6, 0] rfl)
      · have h := h.2 c_
        refine lv_lload (pc := 35) hx hb dX9_saidBy_35 (lv_at hl 5 rfl) ?_
        refine lv_aload_n (pc := 37) hx hb dX9_saidBy_37 rfl (lv_at hl 1 rfl) ?_
        refine Rgf_0_0 (pc := 38) X w kw528 dX9_saidBy_38 ?_
        refine lv_iload (pc := 41) hx hb dX9_saidBy_41 (lv_at hl 6 rfl) ?_
        refine Rld_1 (pc := 43) X w h.1 dX9_saidBy_43 ?_
        have h := h.2
        refine lv_i2l (pc := 44) hx hb dX9_saidBy_44 rfl ?_
        refine lv_aload_n (pc := 45) hx hb dX9_saidBy_45 rfl (lv_at hl 1 rfl) ?_
        refine Rgf_0_4 (pc := 46) X w kw534 dX9_saidBy_46 ?_
        refine lv_iload (pc := 49) hx hb dX9_saidBy_49 (lv_at hl 0 rfl) ?_
        refine Rld_4 (pc := 51) X w h.1 dX9_saidBy_51 ?_
        have h := h.2
        refine lv_i2l (pc := 52) hx hb dX9_saidBy_52 rfl ?_
        refine lv_lmul (pc := 53) hx hb dX9_saidBy_53 ?_
        refine lv_ladd (pc := 54) hx hb dX9_saidBy_54 ?_
        refine lv_topl (fun x4_3 e_ => ?_)
        have h := h x4_3 e_
        refine lv_lstore (pc := 55) (lv' := [(4, .long x4_3), (7, .int r1), (0, .ref (ad 0)), (1, .int x1), (2, .int x2), (3, .int x3), (6, .int x6)]) hx hb dX9_saidBy_55 hl (by decide) rfl (fun ls hl => ?_)
        refine lv_aload_n (pc := 57) hx hb dX9_saidBy_57 rfl (lv_at hl 2 rfl) ?_
        refine lv_dup (pc := 58) hx hb dX9_saidBy_58 rfl ?_
        refine Rgf_0_11 (pc := 59) X w kw540 dX9_saidBy_59 ?_
        refine lv_aload_n (pc := 62) hx hb dX9_saidBy_62 rfl (lv_at hl 2 rfl) ?_
        refine Rgf_0_0 (pc := 63) X w kw528 dX9_saidBy_63 ?_
        refine lv_iload (pc := 66) hx hb dX9_saidBy_66 (lv_at hl 6 rfl) ?_
        refine Rld_1 (pc := 68) X w h.1 dX9_saidBy_68 ?_
        have h := h.2
        refine lv_iadd (pc := 69) hx hb dX9_saidBy_69 ?_
        refine Rpf_0_11 (pc := 70) X w kw540 dX9_saidBy_70 (fun H locs w => ?_)
        obtain ⟨u4, e_⟩ : ∃ y : Mm, y = s32 u 111 0 ((u.1 111 0) + (u.1 1 x6.toNatClampNeg)) := ⟨_, rfl⟩
        rw [← e_] at w
        have h := h u4 e_
        obtain ⟨x6_5, e_⟩ : ∃ y : Int32, y = x6 + (1 : Int32) := ⟨_, rfl⟩
        have h := h x6_5 e_
        refine lv_iinc (pc := 73) (v := x6_5) (lv' := [(6, .int x6_5), (4, .long x4_3), (7, .int r1), (0, .ref (ad 0)), (1, .int x1), (2, .int x2), (3, .int x3)]) hx hb dX9_saidBy_73 hl (k := 6) rfl (by rw [e_]; rfl) (by decide) rfl (fun ls hl => ?_)
        refine lv_goto (pc := 76) (tgt := 11) hx hb dX9_saidBy_76 (by decide) ?_
        exact ih u4 x1 x2 x3 x4_3 x6_5 H locs ls h w (lv_sub hl [3, 4, 5, 6, 1, 0] rfl)
set_option maxHeartbeats 4000000 in
set_option maxRecDepth 100000 in
theorem okX9_saidBy (l : Launch) {D : va_G} {g : Nat → ClassId} {ad : Nat → Nat} (hJ : RJ ad) {u : Mm} {a1 : Int32} {a2 : Int32} {a3 : Int32} {Q : Int64 → Mm → Prop} (h : wX9_saidBy u a1 a2 a3 Q) : Met l yX9_saidBy (Cond.code yX9_saidBy cX9_saidBy 8 (some .long) :: gt) ({ frames := 1, cells := 0, slots := 0, locals := 27 } : Room) (RPc D g ad u [.ref (ad 0), .int a1, .int a2, .int a3]) (va_Ql Q (RB D g ad) (RA ad)) 0 0 (RA ad) := by
  refine Met.ofW (cc := cX9_saidBy) (maxL := 8) (ret := (some .long)) (by decide) rfl ?_
  intro p e s m args below meth c s₁ B hml hv
  refine Rentry (own := RX9) B hml hv hJ rfl (Nat.le_of_ble_eq_true rfl) (fun ls H locs X w hl => ?_)
  obtain ⟨⟨hx, hb, hml, hown, hts⟩, hr, hlocks, hK, hJ, hAA⟩ := id X
  have hl : lv_has ls 8 [(0, .ref (ad 0)), (1, .int a1), (2, .int a2), (3, .int a3)] := hl
  unfold wX9_saidBy at h
  refine lv_lconst (pc := 0) (v := (0 : Int64)) hx hb dX9_saidBy_0 (by decide) ?_
  refine lv_lstore (pc := 1) (lv' := [(4, .long (0 : Int64)), (0, .ref (ad 0)), (1, .int a1), (2, .int a2), (3, .int a3)]) hx hb dX9_saidBy_1 hl (by decide) rfl (fun ls hl => ?_)
  refine lv_aload_n (pc := 3) hx hb dX9_saidBy_3 rfl (lv_at hl 1 rfl) ?_
  refine lv_iconst (pc := 4) (v := (0 : Int32)) hx hb dX9_saidBy_4 (by decide) ?_
  refine Rpf_0_11 (pc := 5) X w kw540 dX9_saidBy_5 (fun H locs w => ?_)
  obtain ⟨u1, e_⟩ : ∃ y : Mm, y = s32 u 111 0 (0 : Int32) := ⟨_, rfl⟩
  rw [← e_] at w
  have h := h u1 e_
  refine lv_iconst (pc := 8) (v := (0 : Int32)) hx hb dX9_saidBy_8 (by decide) ?_
  refine lv_istore (pc := 9) (lv' := [(6, .int (0 : Int32)), (4, .long (0 : Int64)), (0, .ref (ad 0)), (1, .int a1), (2, .int a2), (3, .int a3)]) hx hb dX9_saidBy_9 hl (by decide) rfl (fun ls hl => ?_)
  obtain ⟨n9, h⟩ := h
  exact bX9_saidBy_11 X n9 u1 a1 a2 a3 (0 : Int64) (0 : Int32) H locs ls h w (lv_sub hl [2, 3, 4, 5, 1, 0] rfl)
set_option maxHeartbeats 4000000 in
set_option maxRecDepth 100000 in
theorem bX9_givesRest_16 {l : Launch} {p : Program} {e : Env} {s : State} {m : MethodId} {args : Array Value} {below : List Frame} {meth : Method} {c : Code} {D : va_G} {g : Nat → ClassId} {ad : Nat → Nat} {Q : Mm → Prop} {k3 : Mm → Int32 → Int64 → Prop} (X : RX p s m args meth c cX9_givesRest RX9 8 none (Cond.code yX9_givesRest cX9_givesRest 8 none) D g ad (RA ad)) (hk3 : ∀ (u : Mm) (x3 : Int32) (x4 : Int64) (H : Heap) (locs : List Loc) (ls : Array Slot), k3 u x3 x4 → RWd D g ad (RA ad) s u H locs → lv_has ls 8 [(0, .ref (ad 0)), (3, .int x3), (4, .long x4)] → W p l e ({ frames := 0, cells := 0, slots := 0, locals := 0 } : Room) s m args below meth c H locs 0 0 (MQ below (va_Qv Q (RB D g ad) (RA ad)) args s 0 0 (RA ad)) (F0 m 3 ls [])) : ∀ (n : Nat) (u : Mm) (x3 : Int32) (x4 : Int64) (x6 : Int32) (x7 : Int32) (H : Heap) (locs : List Loc) (ls : Array Slot), wX9_givesRest_b16 k3 Q n u x3 x4 x6 x7 → RWd D g ad (RA ad) s u H locs → lv_has ls 8 [(0, .ref (ad 0)), (3, .int x3), (4, .long x4), (6, .int x6), (7, .int x7)] → W p l e ({ frames := 0, cells := 0, slots := 0, locals := 0 } : Room) s m args below meth c H locs 0 0 (MQ below (va_Qv Q (RB D g ad) (RA ad)) args s 0 0 (RA ad)) (F0 m 16 ls []) := by
  obtain ⟨⟨hx, hb, hml, hown, hts⟩, hr, hlocks, hK, hJ, hAA⟩ := id X
  intro n
  induction n with
  | zero =>
    intro u x3 x4 x6 x7 H locs ls h
    exact False.elim h
  | succ n ih =>
    intro u x3 x4 x6 x7 H locs ls h w hl
    unfold wX9_givesRest_b16 at h
    refine lv_iload (pc := 16) hx hb dX9_givesRest_16 (lv_at hl 4 rfl) ?_
    refine lv_iload_n (pc := 18) hx hb dX9_givesRest_18 rfl (lv_at hl 1 rfl) ?_
    refine lv_icmp_ge (pc := 19) (tgt := 55) hx hb dX9_givesRest_19 (by decide) (fun c_ => ?_) (fun c_ => ?_)
    · have h := h.1 c_
      refine lv_aload_n (pc := 55) hx hb dX9_givesRest_55 rfl (lv_at hl 0 rfl) ?_
      refine Rgf_0_14 (pc := 56) X w kw545 dX9_givesRest_56 ?_
      refine lv_iload (pc := 59) hx hb dX9_givesRest_59 (lv_at hl 3 rfl) ?_
      refine lv_dup2_11 (pc := 61) hx hb dX9_givesRest_61 rfl rfl ?_
      refine Rld_11 (pc := 62) X w h.1 dX9_givesRest_62 ?_
      have h := h.2
      refine lv_lconst (pc := 63) (v := (1 : Int64)) hx hb dX9_givesRest_63 (by decide) ?_
      refine lv_ladd (pc := 64) hx hb dX9_givesRest_64 ?_
      refine Rst_11 (pc := 65) X w h.1 dX9_givesRest_65 (fun H locs w => ?_)
      have h := h.2
      obtain ⟨u1, e_⟩ : ∃ y : Mm, y = s64 u 11 x6.toNatClampNeg ((u.2 11 x6.toNatClampNeg) + (1 : Int64)) := ⟨_, rfl⟩
      rw [← e_] at w
      have h := h u1 e_
      refine lv_aload_n (pc := 66) hx hb dX9_givesRest_66 rfl (lv_at hl 0 rfl) ?_
      refine Rgf_0_15 (pc := 67) X w kw546 dX9_givesRest_67 ?_
      refine lv_iload (pc := 70) hx hb dX9_givesRest_70 (lv_at hl 3 rfl) ?_
      refine lv_ldc2 (pc := 72) (v := (-1 : Int64)) hx hb hown (hts _ (List.mem_cons_of_mem _ kw547)) dX9_givesRest_72 ?_
      refine Rst_12 (pc := 75) X w h.1 dX9_givesRest_75 (fun H locs w => ?_)
      have h := h.2
      obtain ⟨u2, e_⟩ : ∃ y : Mm, y = s64 u1 12 x6.toNatClampNeg (-1 : Int64) := ⟨_, rfl⟩
      rw [← e_] at w
      have h := h u2 e_
      refine lv_lload (pc := 76) hx hb dX9_givesRest_76 (lv_at hl 2 rfl) ?_
      refine lv_lconst (pc := 78) (v := (1 : Int64)) hx hb dX9_givesRest_78 (by decide) ?_
      refine lv_lsub (pc := 79) hx hb dX9_givesRest_79 ?_
      refine lv_topl (fun x4_3 e_ => ?_)
      have h := h x4_3 e_
      refine lv_lstore (pc := 80) (lv' := [(4, .long x4_3), (0, .ref (ad 0)), (3, .int x3), (6, .int x6), (7, .int x7)]) hx hb dX9_givesRest_80 hl (by decide) rfl (fun ls hl => ?_)
      refine lv_goto (pc := 82) (tgt := 3) hx hb dX9_givesRest_82 (by decide) ?_
      exact hk3 u2 x3 x4_3 H locs ls h w (lv_sub hl [1, 2, 0] rfl)
    · have h := h.2 c_
      refine lv_aload_n (pc := 22) hx hb dX9_givesRest_22 rfl (lv_at hl 0 rfl) ?_
      refine Rgf_0_15 (pc := 23) X w kw546 dX9_givesRest_23 ?_
      refine lv_iload (pc := 26) hx hb dX9_givesRest_26 (lv_at hl 4 rfl) ?_
      refine Rld_12 (pc := 28) X w h.1 dX9_givesRest_28 ?_
      have h := h.2
      refine lv_aload_n (pc := 29) hx hb dX9_givesRest_29 rfl (lv_at hl 0 rfl) ?_
      refine Rgf_0_15 (pc := 30) X w kw546 dX9_givesRest_30 ?_
      refine lv_iload (pc := 33) hx hb dX9_givesRest_33 (lv_at hl 3 rfl) ?_
      refine Rld_12 (pc := 35) X w h.1 dX9_givesRest_35 ?_
      have h := h.2
      refine lq_le (pc := 36) (tgt := 45) hx hb dX9_givesRest_36 dX9_givesRest_37 (by decide) (fun c_ => ?_) (fun c_ => ?_)
      · have h := h.1 c_
        refine lv_iload (pc := 45) hx hb dX9_givesRest_45 (lv_at hl 3 rfl) ?_
        refine lv_istore (pc := 47) (lv' := [(6, .int x6), (0, .ref (ad 0)), (3, .int x3), (4, .long x4), (7, .int x7)]) hx hb dX9_givesRest_47 hl (by decide) rfl (fun ls hl => ?_)
        obtain ⟨x7_4, e_⟩ : ∃ y : Int32, y = x7 + (1 : Int32) := ⟨_, rfl⟩
        have h := h x7_4 e_
        refine lv_iinc (pc := 49) (v := x7_4) (lv' := [(7, .int x7_4), (6, .int x6), (0, .ref (ad 0)), (3, .int x3), (4, .long x4)]) hx hb dX9_givesRest_49 hl (k := 4) rfl (by rw [e_]; rfl) (by decide) rfl (fun ls hl => ?_)
        refine lv_goto (pc := 52) (tgt := 16) hx hb dX9_givesRest_52 (by decide) ?_
        exact ih u x3 x4 x6 x7_4 H locs ls h w (lv_sub hl [2, 3, 4, 1, 0] rfl)
      · have h := h.2 c_
        refine lv_iload (pc := 40) hx hb dX9_givesRest_40 (lv_at hl 4 rfl) ?_
        refine lv_goto (pc := 42) (tgt := 47) hx hb dX9_givesRest_42 (by decide) ?_
        refine lv_istore (pc := 47) (lv' := [(6, .int x7), (0, .ref (ad 0)), (3, .int x3), (4, .long x4), (7, .int x7)]) hx hb dX9_givesRest_47 hl (by decide) rfl (fun ls hl => ?_)
        obtain ⟨x7_5, e_⟩ : ∃ y : Int32, y = x7 + (1 : Int32) := ⟨_, rfl⟩
        have h := h x7_5 e_
        refine lv_iinc (pc := 49) (v := x7_5) (lv' := [(7, .int x7_5), (6, .int x7), (0, .ref (ad 0)), (3, .int x3), (4, .long x4)]) hx hb dX9_givesRest_49 hl (k := 4) rfl (by rw [e_]; rfl) (by decide) rfl (fun ls hl => ?_)
        refine lv_goto (pc := 52) (tgt := 16) hx hb dX9_givesRest_52 (by decide) ?_
        exact ih u x3 x4 x7 x7_5 H locs ls h w (lv_sub hl [2, 3, 4, 1, 0] rfl)
set_option maxHeartbeats 4000000 in
set_option maxRecDepth 100000 in
theorem bX9_givesRest_3 {l : Launch} {p : Program} {e : Env} {s : State} {m : MethodId} {args : Array Value} {below : List Frame} {meth : Method} {c : Code} {D : va_G} {g : Nat → ClassId} {ad : Nat → Nat} {Q : Mm → Prop} (X : RX p s m args meth c cX9_givesRest RX9 8 none (Cond.code yX9_givesRest cX9_givesRest 8 none) D g ad (RA ad)) : ∀ (n : Nat) (u : Mm) (x3 : Int32) (x4 : Int64) (H : Heap) (locs : List Loc) (ls : Array Slot), wX9_givesRest_b3 Q n u x3 x4 → RWd D g ad (RA ad) s u H locs → lv_has ls 8 [(0, .ref (ad 0)), (3, .int x3), (4, .long x4)] → W p l e ({ frames := 0, cells := 0, slots := 0, locals := 0 } : Room) s m args below meth c H locs 0 0 (MQ below (va_Qv Q (RB D g ad) (RA ad)) args s 0 0 (RA ad)) (F0 m 3 ls []) := by
  obtain ⟨⟨hx, hb, hml, hown, hts⟩, hr, hlocks, hK, hJ, hAA⟩ := id X
  intro n
  induction n with
  | zero =>
    intro u x3 x4 H locs ls h
    exact False.elim h
  | succ n ih =>
    intro u x3 x4 H locs ls h w hl
    unfold wX9_givesRest_b3 at h
    refine lv_lload (pc := 3) hx hb dX9_givesRest_3 (lv_at hl 2 rfl) ?_
    refine lv_lconst (pc := 5) (v := (0 : Int64)) hx hb dX9_givesRest_5 (by decide) ?_
    refine lq_le (pc := 6) (tgt := 85) hx hb dX9_givesRest_6 dX9_givesRest_7 (by decide) (fun c_ => ?_) (fun c_ => ?_)
    · have h := h.1 c_
      exact Rvret (pc := 85) X w h dX9_givesRest_85
    · have h := h.2 c_
      refine lv_iconst (pc := 10) (v := (0 : Int32)) hx hb dX9_givesRest_10 (by decide) ?_
      refine lv_istore (pc := 11) (lv' := [(6, .int (0 : Int32)), (0, .ref (ad 0)), (3, .int x3), (4, .long x4)]) hx hb dX9_givesRest_11 hl (by decide) rfl (fun ls hl => ?_)
      refine lv_iconst (pc := 13) (v := (1 : Int32)) hx hb dX9_givesRest_13 (by decide) ?_
      refine lv_istore (pc := 14) (lv' := [(7, .int (1 : Int32)), (6, .int (0 : Int32)), (0, .ref (ad 0)), (3, .int x3), (4, .long x4)]) hx hb dX9_givesRest_14 hl (by decide) rfl (fun ls hl => ?_)
      obtain ⟨n9, h⟩ := h
      refine bX9_givesRest_16 X ?_ n9 u x3 x4 (0 : Int32) (1 : Int32) H locs ls h w (lv_sub hl [2, 3, 4, 1, 0] rfl)
      · intro u x3 x4 H locs ls h w hl
        exact ih u x3 x4 H locs ls h w (lv_sub hl [0, 1, 2] rfl)
set_option maxHeartbeats 4000000 in
set_option maxRecDepth 100000 in
theorem okX9_givesRest (l : Launch) {D : va_G} {g : Nat → ClassId} {ad : Nat → Nat} (hJ : RJ ad) {u : Mm} {a1 : Int64} {a3 : Int32} {Q : Mm → Prop} (h : wX9_givesRest u a1 a3 Q) : Met l yX9_givesRest (Cond.code yX9_givesRest cX9_givesRest 8 none :: gt) ({ frames := 0, cells := 0, slots := 0, locals := 0 } : Room) (RPc D g ad u [.ref (ad 0), .long a1, .int a3]) (va_Qv Q (RB D g ad) (RA ad)) 0 0 (RA ad) := by
  refine Met.ofW (cc := cX9_givesRest) (maxL := 8) (ret := none) (by decide) rfl ?_
  intro p e s m args below meth c s₁ B hml hv
  refine Rentry (own := RX9) B hml hv hJ rfl (Nat.le_of_ble_eq_true rfl) (fun ls H locs X w hl => ?_)
  obtain ⟨⟨hx, hb, hml, hown, hts⟩, hr, hlocks, hK, hJ, hAA⟩ := id X
  have hl : lv_has ls 8 [(0, .ref (ad 0)), (1, .long a1), (3, .int a3)] := hl
  unfold wX9_givesRest at h
  refine lv_lload_n (pc := 0) hx hb dX9_givesRest_0 rfl (lv_at hl 1 rfl) ?_
  refine lv_lstore (pc := 1) (lv' := [(4, .long a1), (0, .ref (ad 0)), (1, .long a1), (3, .int a3)]) hx hb dX9_givesRest_1 hl (by decide) rfl (fun ls hl => ?_)
  obtain ⟨n9, h⟩ := h
  exact bX9_givesRest_3 X n9 u a3 a1 H locs ls h w (lv_sub hl [1, 3, 0] rfl)
set_option maxHeartbeats 4000000 in
set_option maxRecDepth 100000 in
theorem bX9_parts_36 {l : Launch} {p : Program} {e : Env} {s : State} {m : MethodId} {args : Array Value} {below : List Frame} {meth : Method} {c : Code} {D : va_G} {g : Nat → ClassId} {ad : Nat → Nat} {Q : Mm → Prop} (X : RX p s m args meth c cX9_parts RX9 9 none (Cond.code yX9_parts cX9_parts 9 none) D g ad (RA ad)) : ∀ (n : Nat) (u : Mm) (x1 : Int64) (x3 : Int32) (x4 : Int64) (x6 : Int64) (x8 : Int32) (H : Heap) (locs : List Loc) (ls : Array Slot), wX9_parts_b36 Q n u x1 x3 x4 x6 x8 → RWd D g ad (RA ad) s u H locs → lv_has ls 9 [(0, .ref (ad 0)), (1, .long x1), (3, .int x3), (4, .long x4), (6, .long x6), (8, .int x8)] → W p l e ({ frames := 1, cells := 0, slots := 0, locals := 27 } : Room) s m args below meth c H locs 0 0 (MQ below (va_Qv Q (RB D g ad) (RA ad)) args s 0 0 (RA ad)) (F0 m 36 ls []) := by
  obtain ⟨⟨hx, hb, hml, hown, hts⟩, hr, hlocks, hK, hJ, hAA⟩ := id X
  intro n
  induction n with
  | zero =>
    intro u x1 x3 x4 x6 x8 H locs ls h
    exact False.elim h
  | succ n ih =>
    intro u x1 x3 x4 x6 x8 H locs ls h w hl
    unfold wX9_parts_b36 at h
    refine lv_iload (pc := 36) hx hb dX9_parts_36 (lv_at hl 5 rfl) ?_
    refine lv_iload_n (pc := 38) hx hb dX9_parts_38 rfl (lv_at hl 2 rfl) ?_
    refine lv_icmp_ge (pc := 39) (tgt := 108) hx hb dX9_parts_39 (by decide) (fun c_ => ?_) (fun c_ => ?_)
    · have h := h.1 c_
      refine lv_aload_n (pc := 108) hx hb dX9_parts_108 rfl (lv_at hl 0 rfl) ?_
      refine lv_lload (pc := 109) hx hb dX9_parts_109 (lv_at hl 4 rfl) ?_
      refine lv_iload_n (pc := 111) hx hb dX9_parts_111 rfl (lv_at hl 2 rfl) ?_
      refine Rcallv (rest := []) (RrunV (pc := 112) X w (okX9_givesRest l hJ h) kw549 kmX9_givesRest ⟨rfl, rfl⟩ ⟨by decide, by decide⟩ (Rrv_0 X w) rfl hl.1 rfl (Nat.le_of_ble_eq_true rfl) dX9_parts_112) w (fun u2 H locs h w => ?_)
      exact Rvret (pc := 115) X w h dX9_parts_115
    · have h := h.2 c_
      refine lv_aload_n (pc := 42) hx hb dX9_parts_42 rfl (lv_at hl 0 rfl) ?_
      refine Rgf_0_14 (pc := 43) X w kw545 dX9_parts_43 ?_
      refine lv_iload (pc := 46) hx hb dX9_parts_46 (lv_at hl 5 rfl) ?_
      refine lv_lload_n (pc := 48) hx hb dX9_parts_48 rfl (lv_at hl 1 rfl) ?_
      refine lv_aload_n (pc := 49) hx hb dX9_parts_49 rfl (lv_at hl 0 rfl) ?_
      refine Rgf_0_13 (pc := 50) X w kw548 dX9_parts_50 ?_
      refine lv_iload (pc := 53) hx hb dX9_parts_53 (lv_at hl 5 rfl) ?_
      refine Rld_10 (pc := 55) X w h.1 dX9_parts_55 ?_
      have h := h.2
      refine lv_lmul (pc := 56) hx hb dX9_parts_56 ?_
      refine lv_lload (pc := 57) hx hb dX9_parts_57 (lv_at hl 3 rfl) ?_
      refine Rcalll (rest := [.int x8, .ref (ad 11)]) (RrunS (pc := 59) X w (okX9_floor l hJ h) kw553 kmX9_floor ⟨rfl, rfl⟩ ⟨by decide, by decide⟩ rfl hl.1 rfl (Nat.le_of_ble_eq_true rfl) dX9_parts_59) w (fun r3 u9_ H locs h w => ?_)
      obtain ⟨rfl, h⟩ := h
      refine Rst_11 (pc := 62) X w h.1 dX9_parts_62 (fun H locs w => ?_)
      have h := h.2
      obtain ⟨u4, e_⟩ : ∃ y : Mm, y = s64 u 11 x8.toNatClampNeg r3 := ⟨_, rfl⟩
      rw [← e_] at w
      have h := h u4 e_
      refine lv_aload_n (pc := 63) hx hb dX9_parts_63 rfl (lv_at hl 0 rfl) ?_
      refine Rgf_0_15 (pc := 64) X w kw546 dX9_parts_64 ?_
      refine lv_iload (pc := 67) hx hb dX9_parts_67 (lv_at hl 5 rfl) ?_
      refine lv_lload_n (pc := 69) hx hb dX9_parts_69 rfl (lv_at hl 1 rfl) ?_
      refine lv_aload_n (pc := 70) hx hb dX9_parts_70 rfl (lv_at hl 0 rfl) ?_
      refine Rgf_0_13 (pc := 71) X w kw548 dX9_parts_71 ?_
      refine lv_iload (pc := 74) hx hb dX9_parts_74 (lv_at hl 5 rfl) ?_
      refine Rld_10 (pc := 76) X w h.1 dX9_parts_76 ?_
      have h := h.2
      refine lv_lmul (pc := 77) hx hb dX9_parts_77 ?_
      refine lv_aload_n (pc := 78) hx hb dX9_parts_78 rfl (lv_at hl 0 rfl) ?_
      refine Rgf_0_14 (pc := 79) X w kw545 dX9_parts_79 ?_
      refine lv_iload (pc := 82) hx hb dX9_parts_82 (lv_at hl 5 rfl) ?_
      refine Rld_11 (pc := 84) X w h.1 dX9_parts_84 ?_
      have h := h.2
      refine lv_lload (pc := 85) hx hb dX9_parts_85 (lv_at hl 3 rfl) ?_
      refine lv_lmul (pc := 87) hx hb dX9_parts_87 ?_
      refine lv_lsub (pc := 88) hx hb dX9_parts_88 ?_
      refine Rst_12 (pc := 89) X w h.1 dX9_parts_89 (fun H locs w => ?_)
      have h := h.2
      obtain ⟨u5, e_⟩ : ∃ y : Mm, y = s64 u4 12 x8.toNatClampNeg ((x1 * (u4.2 10 x8.toNatClampNeg)) - ((u4.2 11 x8.toNatClampNeg) * x4)) := ⟨_, rfl⟩
      rw [← e_] at w
      have h := h u5 e_
      refine lv_lload (pc := 90) hx hb dX9_parts_90 (lv_at hl 4 rfl) ?_
      refine lv_aload_n (pc := 92) hx hb dX9_parts_92 rfl (lv_at hl 0 rfl) ?_
      refine Rgf_0_14 (pc := 93) X w kw545 dX9_parts_93 ?_
      refine lv_iload (pc := 96) hx hb dX9_parts_96 (lv_at hl 5 rfl) ?_
      refine Rld_11 (pc := 98) X w h.1 dX9_parts_98 ?_
      have h := h.2
      refine lv_lsub (pc := 99) hx hb dX9_parts_99 ?_
      refine lv_topl (fun x6_6 e_ => ?_)
      have h := h x6_6 e_
      refine lv_lstore (pc := 100) (lv' := [(6, .long x6_6), (0, .ref (ad 0)), (1, .long x1), (3, .int x3), (4, .long x4), (8, .int x8)]) hx hb dX9_parts_100 hl (by decide) rfl (fun ls hl => ?_)
      obtain ⟨x8_7, e_⟩ : ∃ y : Int32, y = x8 + (1 : Int32) := ⟨_, rfl⟩
      have h := h x8_7 e_
      refine lv_iinc (pc := 102) (v := x8_7) (lv' := [(8, .int x8_7), (6, .long x6_6), (0, .ref (ad 0)), (1, .long x1), (3, .int x3), (4, .long x4)]) hx hb dX9_parts_102 hl (k := 5) rfl (by rw [e_]; rfl) (by decide) rfl (fun ls hl => ?_)
      refine lv_goto (pc := 105) (tgt := 36) hx hb dX9_parts_105 (by decide) ?_
      exact ih u5 x1 x3 x4 x6_6 x8_7 H locs ls h w (lv_sub hl [2, 3, 4, 5, 1, 0] rfl)
set_option maxHeartbeats 4000000 in
set_option maxRecDepth 100000 in
theorem bX9_parts_6 {l : Launch} {p : Program} {e : Env} {s : State} {m : MethodId} {args : Array Value} {below : List Frame} {meth : Method} {c : Code} {D : va_G} {g : Nat → ClassId} {ad : Nat → Nat} {Q : Mm → Prop} (X : RX p s m args meth c cX9_parts RX9 9 none (Cond.code yX9_parts cX9_parts 9 none) D g ad (RA ad)) : ∀ (n : Nat) (u : Mm) (x1 : Int64) (x3 : Int32) (x4 : Int64) (x6 : Int32) (H : Heap) (locs : List Loc) (ls : Array Slot), wX9_parts_b6 Q n u x1 x3 x4 x6 → RWd D g ad (RA ad) s u H locs → lv_has ls 9 [(0, .ref (ad 0)), (1, .long x1), (3, .int x3), (4, .long x4), (6, .int x6)] → W p l e ({ frames := 1, cells := 0, slots := 0, locals := 27 } : Room) s m args below meth c H locs 0 0 (MQ below (va_Qv Q (RB D g ad) (RA ad)) args s 0 0 (RA ad)) (F0 m 6 ls []) := by
  obtain ⟨⟨hx, hb, hml, hown, hts⟩, hr, hlocks, hK, hJ, hAA⟩ := id X
  intro n
  induction n with
  | zero =>
    intro u x1 x3 x4 x6 H locs ls h
    exact False.elim h
  | succ n ih =>
    intro u x1 x3 x4 x6 H locs ls h w hl
    unfold wX9_parts_b6 at h
    refine lv_iload (pc := 6) hx hb dX9_parts_6 (lv_at hl 4 rfl) ?_
    refine lv_iload_n (pc := 8) hx hb dX9_parts_8 rfl (lv_at hl 2 rfl) ?_
    refine lv_icmp_ge (pc := 9) (tgt := 30) hx hb dX9_parts_9 (by decide) (fun c_ => ?_) (fun c_ => ?_)
    · have h := h.1 c_
      refine lv_lload_n (pc := 30) hx hb dX9_parts_30 rfl (lv_at hl 1 rfl) ?_
      refine lv_lstore (pc := 31) (lv' := [(6, .long x1), (0, .ref (ad 0)), (1, .long x1), (3, .int x3), (4, .long x4)]) hx hb dX9_parts_31 hl (by decide) rfl (fun ls hl => ?_)
      refine lv_iconst (pc := 33) (v := (0 : Int32)) hx hb dX9_parts_33 (by decide) ?_
      refine lv_istore (pc := 34) (lv' := [(8, .int (0 : Int32)), (6, .long x1), (0, .ref (ad 0)), (1, .long x1), (3, .int x3), (4, .long x4)]) hx hb dX9_parts_34 hl (by decide) rfl (fun ls hl => ?_)
      obtain ⟨n9, h⟩ := h
      exact bX9_parts_36 X n9 u x1 x3 x4 x1 (0 : Int32) H locs ls h w (lv_sub hl [2, 3, 4, 5, 1, 0] rfl)
    · have h := h.2 c_
      refine lv_lload (pc := 12) hx hb dX9_parts_12 (lv_at hl 3 rfl) ?_
      refine lv_aload_n (pc := 14) hx hb dX9_parts_14 rfl (lv_at hl 0 rfl) ?_
      refine Rgf_0_13 (pc := 15) X w kw548 dX9_parts_15 ?_
      refine lv_iload (pc := 18) hx hb dX9_parts_18 (lv_at hl 4 rfl) ?_
      refine Rld_10 (pc := 20) X w h.1 dX9_parts_20 ?_
      have h := h.2
      refine lv_ladd (pc := 21) hx hb dX9_parts_21 ?_
      refine lv_topl (fun x4_1 e_ => ?_)
      have h := h x4_1 e_
      refine lv_lstore (pc := 22) (lv' := [(4, .long x4_1), (0, .ref (ad 0)), (1, .long x1), (3, .int x3), (6, .int x6)]) hx hb dX9_parts_22 hl (by decide) rfl (fun ls hl => ?_)
      obtain ⟨x6_2, e_⟩ : ∃ y : Int32, y = x6 + (1 : Int32) := ⟨_, rfl⟩
      have h := h x6_2 e_
      refine lv_iinc (pc := 24) (v := x6_2) (lv' := [(6, .int x6_2), (4, .long x4_1), (0, .ref (ad 0)), (1, .long x1), (3, .int x3)]) hx hb dX9_parts_24 hl (k := 4) rfl (by rw [e_]; rfl) (by decide) rfl (fun ls hl => ?_)
      refine lv_goto (pc := 27) (tgt := 6) hx hb dX9_parts_27 (by decide) ?_
      exact ih u x1 x3 x4_1 x6_2 H locs ls h w (lv_sub hl [2, 3, 4, 1, 0] rfl)
set_option maxHeartbeats 4000000 in
set_option maxRecDepth 100000 in
theorem okX9_parts (l : Launch) {D : va_G} {g : Nat → ClassId} {ad : Nat → Nat} (hJ : RJ ad) {u : Mm} {a1 : Int64} {a3 : Int32} {Q : Mm → Prop} (h : wX9_parts u a1 a3 Q) : Met l yX9_parts (Cond.code yX9_parts cX9_parts 9 none :: gt) ({ frames := 1, cells := 0, slots := 0, locals := 27 } : Room) (RPc D g ad u [.ref (ad 0), .long a1, .int a3]) (va_Qv Q (RB D g ad) (RA ad)) 0 0 (RA ad) := by
  refine Met.ofW (cc := cX9_parts) (maxL := 9) (ret := none) (by decide) rfl ?_
  intro p e s m args below meth c s₁ B hml hv
  refine Rentry (own := RX9) B hml hv hJ rfl (Nat.le_of_ble_eq_true rfl) (fun ls H locs X w hl => ?_)
  obtain ⟨⟨hx, hb, hml, hown, hts⟩, hr, hlocks, hK, hJ, hAA⟩ := id X
  have hl : lv_has ls 9 [(0, .ref (ad 0)), (1, .long a1), (3, .int a3)] := hl
  unfold wX9_parts at h
  refine lv_lconst (pc := 0) (v := (0 : Int64)) hx hb dX9_parts_0 (by decide) ?_
  refine lv_lstore (pc := 1) (lv' := [(4, .long (0 : Int64)), (0, .ref (ad 0)), (1, .long a1), (3, .int a3)]) hx hb dX9_parts_1 hl (by decide) rfl (fun ls hl => ?_)
  refine lv_iconst (pc := 3) (v := (0 : Int32)) hx hb dX9_parts_3 (by decide) ?_
  refine lv_istore (pc := 4) (lv' := [(6, .int (0 : Int32)), (4, .long (0 : Int64)), (0, .ref (ad 0)), (1, .long a1), (3, .int a3)]) hx hb dX9_parts_4 hl (by decide) rfl (fun ls hl => ?_)
  obtain ⟨n9, h⟩ := h
  exact bX9_parts_6 X n9 u a1 a3 (0 : Int64) (0 : Int32) H locs ls h w (lv_sub hl [2, 3, 4, 1, 0] rfl)
set_option maxHeartbeats 4000000 in
set_option maxRecDepth 100000 in
theorem bX9_bends_72 {l : Launch} {p : Program} {e : Env} {s : State} {m : MethodId} {args : Array Value} {below : List Frame} {meth : Method} {c : Code} {D : va_G} {g : Nat → ClassId} {ad : Nat → Nat} {Q : Mm → Prop} {k32 : Mm → Int32 → Int32 → Int32 → Int64 → Int32 → Prop} (X : RX p s m args meth c cX9_bends RX9 12 none (Cond.code yX9_bends cX9_bends 12 none) D g ad (RA ad)) (hk32 : ∀ (u : Mm) (x5 : Int32) (x6 : Int32) (x7 : Int32) (x8 : Int64) (x10 : Int32) (H : Heap) (locs : List Loc) (ls : Array Slot), k32 u x5 x6 x7 x8 x10 → RWd D g ad (RA ad) s u H locs → lv_has ls 12 [(0, .ref (ad 0)), (5, .int x5), (6, .int x6), (7, .int x7), (8, .long x8), (10, .int x10)] → W p l e ({ frames := 2, cells := 0, slots := 0, locals := 55 } : Room) s m args below meth c H locs 0 0 (MQ below (va_Qv Q (RB D g ad) (RA ad)) args s 0 0 (RA ad)) (F0 m 32 ls [])) : ∀ (u : Mm) (x5 : Int32) (x6 : Int32) (x8 : Int64) (x10 : Int32) (y0 : Int32) (y1 : Int32) (H : Heap) (locs : List Loc) (ls : Array Slot), wX9_bends_b72 k32 Q u x5 x6 x8 x10 y0 y1 → RWd D g ad (RA ad) s u H locs → lv_has ls 12 [(0, .ref (ad 0)), (5, .int x5), (6, .int x6), (8, .long x8), (10, .int x10)] → W p l e ({ frames := 2, cells := 0, slots := 0, locals := 55 } : Room) s m args below meth c H locs 0 0 (MQ below (va_Qv Q (RB D g ad) (RA ad)) args s 0 0 (RA ad)) (F0 m 72 ls [.int y0, .int y1]) := by
  obtain ⟨⟨hx, hb, hml, hown, hts⟩, hr, hlocks, hK, hJ, hAA⟩ := id X
  intro u x5 x6 x8 x10 y0 y1 H locs ls h w hl
  unfold wX9_bends_b72 at h
  refine lv_iadd (pc := 72) hx hb dX9_bends_72 ?_
  refine lv_topi (fun x7_1 e_ => ?_)
  have h := h x7_1 e_
  refine lv_istore (pc := 73) (lv' := [(7, .int x7_1), (0, .ref (ad 0)), (5, .int x5), (6, .int x6), (8, .long x8), (10, .int x10)]) hx hb dX9_bends_73 hl (by decide) rfl (fun ls hl => ?_)
  refine lv_lload (pc := 75) hx hb dX9_bends_75 (lv_at hl 4 rfl) ?_
  refine lv_aload_n (pc := 77) hx hb dX9_bends_77 rfl (lv_at hl 1 rfl) ?_
  refine Rgf_0_9 (pc := 78) X w kw558 dX9_bends_78 ?_
  refine lv_iload (pc := 81) hx hb dX9_bends_81 (lv_at hl 5 rfl) ?_
  refine Rld_7 (pc := 83) X w h.1 dX9_bends_83 ?_
  have h := h.2
  refine lv_ladd (pc := 84) hx hb dX9_bends_84 ?_
  refine lv_topl (fun x8_2 e_ => ?_)
  have h := h x8_2 e_
  refine lv_lstore (pc := 85) (lv' := [(8, .long x8_2), (7, .int x7_1), (0, .ref (ad 0)), (5, .int x5), (6, .int x6), (10, .int x10)]) hx hb dX9_bends_85 hl (by decide) rfl (fun ls hl => ?_)
  obtain ⟨x10_3, e_⟩ : ∃ y : Int32, y = x10 + (1 : Int32) := ⟨_, rfl⟩
  have h := h x10_3 e_
  refine lv_iinc (pc := 87) (v := x10_3) (lv' := [(10, .int x10_3), (8, .long x8_2), (7, .int x7_1), (0, .ref (ad 0)), (5, .int x5), (6, .int x6)]) hx hb dX9_bends_87 hl (k := 5) rfl (by rw [e_]; rfl) (by decide) rfl (fun ls hl => ?_)
  refine lv_goto (pc := 90) (tgt := 32) hx hb dX9_bends_90 (by decide) ?_
  exact hk32 u x5 x6 x7_1 x8_2 x10_3 H locs ls h w (lv_sub hl [3, 4, 5, 2, 1, 0] rfl)
set_option maxHeartbeats 4000000 in
set_option maxRecDepth 100000 in
theorem bX9_bends_168 {l : Launch} {p : Program} {e : Env} {s : State} {m : MethodId} {args : Array Value} {below : List Frame} {meth : Method} {c : Code} {D : va_G} {g : Nat → ClassId} {ad : Nat → Nat} {Q : Mm → Prop} (X : RX p s m args meth c cX9_bends RX9 12 none (Cond.code yX9_bends cX9_bends 12 none) D g ad (RA ad)) : ∀ (n : Nat) (u : Mm) (x5 : Int32) (x10 : Int32) (H : Heap) (locs : List Loc) (ls : Array Slot), wX9_bends_b168 Q n u x5 x10 → RWd D g ad (RA ad) s u H locs → lv_has ls 12 [(0, .ref (ad 0)), (5, .int x5), (10, .int x10)] → W p l e ({ frames := 2, cells := 0, slots := 0, locals := 55 } : Room) s m args below meth c H locs 0 0 (MQ below (va_Qv Q (RB D g ad) (RA ad)) args s 0 0 (RA ad)) (F0 m 168 ls []) := by
  obtain ⟨⟨hx, hb, hml, hown, hts⟩, hr, hlocks, hK, hJ, hAA⟩ := id X
  intro n
  induction n with
  | zero =>
    intro u x5 x10 H locs ls h
    exact False.elim h
  | succ n ih =>
    intro u x5 x10 H locs ls h w hl
    unfold wX9_bends_b168 at h
    refine lv_iload (pc := 168) hx hb dX9_bends_168 (lv_at hl 2 rfl) ?_
    refine lv_iconst (pc := 170) (v := (4 : Int32)) hx hb dX9_bends_170 (by decide) ?_
    refine lv_icmp_ge (pc := 171) (tgt := 197) hx hb dX9_bends_171 (by decide) (fun c_ => ?_) (fun c_ => ?_)
    · have h := h.1 c_
      exact Rvret (pc := 197) X w h dX9_bends_197
    · have h := h.2 c_
      refine lv_aload_n (pc := 174) hx hb dX9_bends_174 rfl (lv_at hl 0 rfl) ?_
      refine Rgf_0_16 (pc := 175) X w kw557 dX9_bends_175 ?_
      refine lv_iload (pc := 178) hx hb dX9_bends_178 (lv_at hl 1 rfl) ?_
      refine lv_iload (pc := 180) hx hb dX9_bends_180 (lv_at hl 2 rfl) ?_
      refine lv_iadd (pc := 182) hx hb dX9_bends_182 ?_
      refine lv_aload_n (pc := 183) hx hb dX9_bends_183 rfl (lv_at hl 0 rfl) ?_
      refine Rgf_0_14 (pc := 184) X w kw545 dX9_bends_184 ?_
      refine lv_iload (pc := 187) hx hb dX9_bends_187 (lv_at hl 2 rfl) ?_
      refine Rld_11 (pc := 189) X w h.1 dX9_bends_189 ?_
      have h := h.2
      refine Rst_13 (pc := 190) X w h.1 dX9_bends_190 (fun H locs w => ?_)
      have h := h.2
      obtain ⟨u1, e_⟩ : ∃ y : Mm, y = s64 u 13 (x5 + x10).toNatClampNeg (u.2 11 x10.toNatClampNeg) := ⟨_, rfl⟩
      rw [← e_] at w
      have h := h u1 e_
      obtain ⟨x10_2, e_⟩ : ∃ y : Int32, y = x10 + (1 : Int32) := ⟨_, rfl⟩
      have h := h x10_2 e_
      refine lv_iinc (pc := 191) (v := x10_2) (lv' := [(10, .int x10_2), (0, .ref (ad 0)), (5, .int x5)]) hx hb dX9_bends_191 hl (k := 2) rfl (by rw [e_]; rfl) (by decide) rfl (fun ls hl => ?_)
      refine lv_goto (pc := 194) (tgt := 168) hx hb dX9_bends_194 (by decide) ?_
      exact ih u1 x5 x10_2 H locs ls h w (lv_sub hl [1, 2, 0] rfl)
set_option maxHeartbeats 4000000 in
set_option maxRecDepth 100000 in
theorem bX9_bends_113 {l : Launch} {p : Program} {e : Env} {s : State} {m : MethodId} {args : Array Value} {below : List Frame} {meth : Method} {c : Code} {D : va_G} {g : Nat → ClassId} {ad : Nat → Nat} {Q : Mm → Prop} (X : RX p s m args meth c cX9_bends RX9 12 none (Cond.code yX9_bends cX9_bends 12 none) D g ad (RA ad)) : ∀ (n : Nat) (u : Mm) (x5 : Int32) (x6 : Int32) (x8 : Int64) (x10 : Int32) (H : Heap) (locs : List Loc) (ls : Array Slot), wX9_bends_b113 Q n u x5 x6 x8 x10 → RWd D g ad (RA ad) s u H locs → lv_has ls 12 [(0, .ref (ad 0)), (5, .int x5), (6, .int x6), (8, .long x8), (10, .int x10)] → W p l e ({ frames := 2, cells := 0, slots := 0, locals := 55 } : Room) s m args below meth c H locs 0 0 (MQ below (va_Qv Q (RB D g ad) (RA ad)) args s 0 0 (RA ad)) (F0 m 113 ls []) := by
  obtain ⟨⟨hx, hb, hml, hown, hts⟩, hr, hlocks, hK, hJ, hAA⟩ := id X
  intro n
  induction n with
  | zero =>
    intro u x5 x6 x8 x10 H locs ls h
    exact False.elim h
  | succ n ih =>
    intro u x5 x6 x8 x10 H locs ls h w hl
    unfold wX9_bends_b113 at h
    refine lv_iload (pc := 113) hx hb dX9_bends_113 (lv_at hl 4 rfl) ?_
    refine lv_iconst (pc := 115) (v := (4 : Int32)) hx hb dX9_bends_115 (by decide) ?_
    refine lv_icmp_ge (pc := 116) (tgt := 153) hx hb dX9_bends_116 (by decide) (fun c_ => ?_) (fun c_ => ?_)
    · have h := h.1 c_
      refine lv_aload_n (pc := 153) hx hb dX9_bends_153 rfl (lv_at hl 0 rfl) ?_
      refine lv_aload_n (pc := 154) hx hb dX9_bends_154 rfl (lv_at hl 0 rfl) ?_
      refine Rgf_0_9 (pc := 155) X w kw558 dX9_bends_155 ?_
      refine lv_iload (pc := 158) hx hb dX9_bends_158 (lv_at hl 2 rfl) ?_
      refine Rld_7 (pc := 160) X w h.1 dX9_bends_160 ?_
      have h := h.2
      refine lv_iconst (pc := 161) (v := (4 : Int32)) hx hb dX9_bends_161 (by decide) ?_
      refine Rcallv (rest := []) (RrunV (pc := 162) X w (okX9_parts l hJ h) kw559 kmX9_parts ⟨rfl, rfl⟩ ⟨by decide, by decide⟩ (Rrv_0 X w) rfl hl.1 rfl (Nat.le_of_ble_eq_true rfl) dX9_bends_162) w (fun u2 H locs h w => ?_)
      refine lv_iconst (pc := 165) (v := (0 : Int32)) hx hb dX9_bends_165 (by decide) ?_
      refine lv_istore (pc := 166) (lv' := [(10, .int (0 : Int32)), (0, .ref (ad 0)), (5, .int x5), (6, .int x6), (8, .long x8)]) hx hb dX9_bends_166 hl (by decide) rfl (fun ls hl => ?_)
      obtain ⟨n9, h⟩ := h
      exact bX9_bends_168 X n9 u2 x5 (0 : Int32) H locs ls h w (lv_sub hl [1, 2, 0] rfl)
    · have h := h.2 c_
      refine lv_aload_n (pc := 119) hx hb dX9_bends_119 rfl (lv_at hl 0 rfl) ?_
      refine Rgf_0_13 (pc := 120) X w kw548 dX9_bends_120 ?_
      refine lv_iload (pc := 123) hx hb dX9_bends_123 (lv_at hl 4 rfl) ?_
      refine lv_lload (pc := 125) hx hb dX9_bends_125 (lv_at hl 3 rfl) ?_
      refine lv_lconst (pc := 127) (v := (0 : Int64)) hx hb dX9_bends_127 (by decide) ?_
      refine lq_ne (pc := 128) (tgt := 136) hx hb dX9_bends_128 dX9_bends_129 (by decide) (fun c_ => ?_) (fun c_ => ?_)
      · have h := h.2 c_
        refine lv_aload_n (pc := 136) hx hb dX9_bends_136 rfl (lv_at hl 0 rfl) ?_
        refine Rgf_0_9 (pc := 137) X w kw558 dX9_bends_137 ?_
        refine lv_iload (pc := 140) hx hb dX9_bends_140 (lv_at hl 1 rfl) ?_
        refine lv_iload (pc := 142) hx hb dX9_bends_142 (lv_at hl 4 rfl) ?_
        refine lv_iadd (pc := 144) hx hb dX9_bends_144 ?_
        refine Rld_7 (pc := 145) X w h.1 dX9_bends_145 ?_
        have h := h.2
        refine Rst_10 (pc := 146) X w h.1 dX9_bends_146 (fun H locs w => ?_)
        have h := h.2
        obtain ⟨u3, e_⟩ : ∃ y : Mm, y = s64 u 10 x10.toNatClampNeg (u.2 7 (x5 + x10).toNatClampNeg) := ⟨_, rfl⟩
        rw [← e_] at w
        have h := h u3 e_
        obtain ⟨x10_4, e_⟩ : ∃ y : Int32, y = x10 + (1 : Int32) := ⟨_, rfl⟩
        have h := h x10_4 e_
        refine lv_iinc (pc := 147) (v := x10_4) (lv' := [(10, .int x10_4), (0, .ref (ad 0)), (5, .int x5), (6, .int x6), (8, .long x8)]) hx hb dX9_bends_147 hl (k := 4) rfl (by rw [e_]; rfl) (by decide) rfl (fun ls hl => ?_)
        refine lv_goto (pc := 150) (tgt := 113) hx hb dX9_bends_150 (by decide) ?_
        exact ih u3 x5 x6 x8 x10_4 H locs ls h w (lv_sub hl [1, 2, 3, 4, 0] rfl)
      · have h := h.1 c_
        refine lv_lconst (pc := 132) (v := (1 : Int64)) hx hb dX9_bends_132 (by decide) ?_
        refine lv_goto (pc := 133) (tgt := 146) hx hb dX9_bends_133 (by decide) ?_
        refine Rst_10 (pc := 146) X w h.1 dX9_bends_146 (fun H locs w => ?_)
        have h := h.2
        obtain ⟨u5, e_⟩ : ∃ y : Mm, y = s64 u 10 x10.toNatClampNeg (1 : Int64) := ⟨_, rfl⟩
        rw [← e_] at w
        have h := h u5 e_
        obtain ⟨x10_6, e_⟩ : ∃ y : Int32, y = x10 + (1 : Int32) := ⟨_, rfl⟩
        have h := h x10_6 e_
        refine lv_iinc (pc := 147) (v := x10_6) (lv' := [(10, .int x10_6), (0, .ref (ad 0)), (5, .int x5), (6, .int x6), (8, .long x8)]) hx hb dX9_bends_147 hl (k := 4) rfl (by rw [e_]; rfl) (by decide) rfl (fun ls hl => ?_)
        refine lv_goto (pc := 150) (tgt := 113) hx hb dX9_bends_150 (by decide) ?_
        exact ih u5 x5 x6 x8 x10_6 H locs ls h w (lv_sub hl [1, 2, 3, 4, 0] rfl)
set_option maxHeartbeats 4000000 in
set_option maxRecDepth 100000 in
theorem bX9_bends_249 {l : Launch} {p : Program} {e : Env} {s : State} {m : MethodId} {args : Array Value} {below : List Frame} {meth : Method} {c : Code} {D : va_G} {g : Nat → ClassId} {ad : Nat → Nat} {Q : Mm → Prop} (X : RX p s m args meth c cX9_bends RX9 12 none (Cond.code yX9_bends cX9_bends 12 none) D g ad (RA ad)) : ∀ (n : Nat) (u : Mm) (x5 : Int32) (x10 : Int32) (x11 : Int32) (H : Heap) (locs : List Loc) (ls : Array Slot), wX9_bends_b249 Q n u x5 x10 x11 → RWd D g ad (RA ad) s u H locs → lv_has ls 12 [(0, .ref (ad 0)), (5, .int x5), (10, .int x10), (11, .int x11)] → W p l e ({ frames := 2, cells := 0, slots := 0, locals := 55 } : Room) s m args below meth c H locs 0 0 (MQ below (va_Qv Q (RB D g ad) (RA ad)) args s 0 0 (RA ad)) (F0 m 249 ls []) := by
  obtain ⟨⟨hx, hb, hml, hown, hts⟩, hr, hlocks, hK, hJ, hAA⟩ := id X
  intro n
  induction n with
  | zero =>
    intro u x5 x10 x11 H locs ls h
    exact False.elim h
  | succ n ih =>
    intro u x5 x10 x11 H locs ls h w hl
    unfold wX9_bends_b249 at h
    refine lv_iload (pc := 249) hx hb dX9_bends_249 (lv_at hl 3 rfl) ?_
    refine lv_iload (pc := 251) hx hb dX9_bends_251 (lv_at hl 1 rfl) ?_
    refine lv_iconst (pc := 253) (v := (4 : Int32)) hx hb dX9_bends_253 (by decide) ?_
    refine lv_iadd (pc := 254) hx hb dX9_bends_254 ?_
    refine lv_icmp_ge (pc := 255) (tgt := 291) hx hb dX9_bends_255 (by decide) (fun c_ => ?_) (fun c_ => ?_)
    · have h := h.1 c_
      exact Rvret (pc := 291) X w h dX9_bends_291
    · have h := h.2 c_
      refine lv_aload_n (pc := 258) hx hb dX9_bends_258 rfl (lv_at hl 0 rfl) ?_
      refine Rgf_0_10 (pc := 259) X w kw556 dX9_bends_259 ?_
      refine lv_iload (pc := 262) hx hb dX9_bends_262 (lv_at hl 3 rfl) ?_
      refine Rld_8 (pc := 264) X w h.1 dX9_bends_264 ?_
      have h := h.2
      refine lv_if_ne (pc := 265) (tgt := 285) hx hb dX9_bends_265 (by decide) (fun c_ => ?_) (fun c_ => ?_)
      · have h := h.2 c_
        obtain ⟨x11_1, e_⟩ : ∃ y : Int32, y = x11 + (1 : Int32) := ⟨_, rfl⟩
        have h := h x11_1 e_
        refine lv_iinc (pc := 285) (v := x11_1) (lv' := [(11, .int x11_1), (0, .ref (ad 0)), (5, .int x5), (10, .int x10)]) hx hb dX9_bends_285 hl (k := 3) rfl (by rw [e_]; rfl) (by decide) rfl (fun ls hl => ?_)
        refine lv_goto (pc := 288) (tgt := 249) hx hb dX9_bends_288 (by decide) ?_
        exact ih u x5 x10 x11_1 H locs ls h w (lv_sub hl [1, 2, 3, 0] rfl)
      · have h := h.1 c_
        refine lv_aload_n (pc := 268) hx hb dX9_bends_268 rfl (lv_at hl 0 rfl) ?_
        refine Rgf_0_16 (pc := 269) X w kw557 dX9_bends_269 ?_
        refine lv_iload (pc := 272) hx hb dX9_bends_272 (lv_at hl 3 rfl) ?_
        refine lv_aload_n (pc := 274) hx hb dX9_bends_274 rfl (lv_at hl 0 rfl) ?_
        refine Rgf_0_14 (pc := 275) X w kw545 dX9_bends_275 ?_
        refine lv_iload (pc := 278) hx hb dX9_bends_278 (lv_at hl 2 rfl) ?_
        refine Rld_11 (pc := 280) X w h.1 dX9_bends_280 ?_
        have h := h.2
        refine Rst_13 (pc := 281) X w h.1 dX9_bends_281 (fun H locs w => ?_)
        have h := h.2
        obtain ⟨u2, e_⟩ : ∃ y : Mm, y = s64 u 13 x11.toNatClampNeg (u.2 11 x10.toNatClampNeg) := ⟨_, rfl⟩
        rw [← e_] at w
        have h := h u2 e_
        obtain ⟨x10_3, e_⟩ : ∃ y : Int32, y = x10 + (1 : Int32) := ⟨_, rfl⟩
        have h := h x10_3 e_
        refine lv_iinc (pc := 282) (v := x10_3) (lv' := [(10, .int x10_3), (0, .ref (ad 0)), (5, .int x5), (11, .int x11)]) hx hb dX9_bends_282 hl (k := 2) rfl (by rw [e_]; rfl) (by decide) rfl (fun ls hl => ?_)
        obtain ⟨x11_4, e_⟩ : ∃ y : Int32, y = x11 + (1 : Int32) := ⟨_, rfl⟩
        have h := h x11_4 e_
        refine lv_iinc (pc := 285) (v := x11_4) (lv' := [(11, .int x11_4), (10, .int x10_3), (0, .ref (ad 0)), (5, .int x5)]) hx hb dX9_bends_285 hl (k := 3) rfl (by rw [e_]; rfl) (by decide) rfl (fun ls hl => ?_)
        refine lv_goto (pc := 288) (tgt := 249) hx hb dX9_bends_288 (by decide) ?_
        exact ih u2 x5 x10_3 x11_4 H locs ls h w (lv_sub hl [2, 3, 1, 0] rfl)
set_option maxHeartbeats 4000000 in
set_option maxRecDepth 100000 in
theorem bX9_bends_201 {l : Launch} {p : Program} {e : Env} {s : State} {m : MethodId} {args : Array Value} {below : List Frame} {meth : Method} {c : Code} {D : va_G} {g : Nat → ClassId} {ad : Nat → Nat} {Q : Mm → Prop} (X : RX p s m args meth c cX9_bends RX9 12 none (Cond.code yX9_bends cX9_bends 12 none) D g ad (RA ad)) : ∀ (n : Nat) (u : Mm) (x5 : Int32) (x6 : Int32) (x7 : Int32) (x8 : Int64) (x10 : Int32) (H : Heap) (locs : List Loc) (ls : Array Slot), wX9_bends_b201 Q n u x5 x6 x7 x8 x10 → RWd D g ad (RA ad) s u H locs → lv_has ls 12 [(0, .ref (ad 0)), (5, .int x5), (6, .int x6), (7, .int x7), (8, .long x8), (10, .int x10)] → W p l e ({ frames := 2, cells := 0, slots := 0, locals := 55 } : Room) s m args below meth c H locs 0 0 (MQ below (va_Qv Q (RB D g ad) (RA ad)) args s 0 0 (RA ad)) (F0 m 201 ls []) := by
  obtain ⟨⟨hx, hb, hml, hown, hts⟩, hr, hlocks, hK, hJ, hAA⟩ := id X
  intro n
  induction n with
  | zero =>
    intro u x5 x6 x7 x8 x10 H locs ls h
    exact False.elim h
  | succ n ih =>
    intro u x5 x6 x7 x8 x10 H locs ls h w hl
    unfold wX9_bends_b201 at h
    refine lv_iload (pc := 201) hx hb dX9_bends_201 (lv_at hl 5 rfl) ?_
    refine lv_iconst (pc := 203) (v := (4 : Int32)) hx hb dX9_bends_203 (by decide) ?_
    refine lv_iload (pc := 204) hx hb dX9_bends_204 (lv_at hl 3 rfl) ?_
    refine lv_isub (pc := 206) hx hb dX9_bends_206 ?_
    refine lv_icmp_ge (pc := 207) (tgt := 224) hx hb dX9_bends_207 (by decide) (fun c_ => ?_) (fun c_ => ?_)
    · have h := h.1 c_
      refine lv_aload_n (pc := 224) hx hb dX9_bends_224 rfl (lv_at hl 0 rfl) ?_
      refine lv_aload_n (pc := 225) hx hb dX9_bends_225 rfl (lv_at hl 0 rfl) ?_
      refine Rgf_0_9 (pc := 226) X w kw558 dX9_bends_226 ?_
      refine lv_iload (pc := 229) hx hb dX9_bends_229 (lv_at hl 2 rfl) ?_
      refine Rld_7 (pc := 231) X w h.1 dX9_bends_231 ?_
      have h := h.2
      refine lv_lload (pc := 232) hx hb dX9_bends_232 (lv_at hl 4 rfl) ?_
      refine lv_lsub (pc := 234) hx hb dX9_bends_234 ?_
      refine lv_iconst (pc := 235) (v := (4 : Int32)) hx hb dX9_bends_235 (by decide) ?_
      refine lv_iload (pc := 236) hx hb dX9_bends_236 (lv_at hl 3 rfl) ?_
      refine lv_isub (pc := 238) hx hb dX9_bends_238 ?_
      refine Rcallv (rest := []) (RrunV (pc := 239) X w (okX9_parts l hJ h) kw559 kmX9_parts ⟨rfl, rfl⟩ ⟨by decide, by decide⟩ (Rrv_0 X w) rfl hl.1 rfl (Nat.le_of_ble_eq_true rfl) dX9_bends_239) w (fun u2 H locs h w => ?_)
      refine lv_iconst (pc := 242) (v := (0 : Int32)) hx hb dX9_bends_242 (by decide) ?_
      refine lv_istore (pc := 243) (lv' := [(10, .int (0 : Int32)), (0, .ref (ad 0)), (5, .int x5), (6, .int x6), (7, .int x7), (8, .long x8)]) hx hb dX9_bends_243 hl (by decide) rfl (fun ls hl => ?_)
      refine lv_iload (pc := 245) hx hb dX9_bends_245 (lv_at hl 2 rfl) ?_
      refine lv_istore (pc := 247) (lv' := [(11, .int x5), (10, .int (0 : Int32)), (0, .ref (ad 0)), (5, .int x5), (6, .int x6), (7, .int x7), (8, .long x8)]) hx hb dX9_bends_247 hl (by decide) rfl (fun ls hl => ?_)
      obtain ⟨n9, h⟩ := h
      exact bX9_bends_249 X n9 u2 x5 (0 : Int32) x5 H locs ls h w (lv_sub hl [2, 3, 1, 0] rfl)
    · have h := h.2 c_
      refine lv_aload_n (pc := 210) hx hb dX9_bends_210 rfl (lv_at hl 0 rfl) ?_
      refine Rgf_0_13 (pc := 211) X w kw548 dX9_bends_211 ?_
      refine lv_iload (pc := 214) hx hb dX9_bends_214 (lv_at hl 5 rfl) ?_
      refine lv_lconst (pc := 216) (v := (1 : Int64)) hx hb dX9_bends_216 (by decide) ?_
      refine Rst_10 (pc := 217) X w h.1 dX9_bends_217 (fun H locs w => ?_)
      have h := h.2
      obtain ⟨u3, e_⟩ : ∃ y : Mm, y = s64 u 10 x10.toNatClampNeg (1 : Int64) := ⟨_, rfl⟩
      rw [← e_] at w
      have h := h u3 e_
      obtain ⟨x10_4, e_⟩ : ∃ y : Int32, y = x10 + (1 : Int32) := ⟨_, rfl⟩
      have h := h x10_4 e_
      refine lv_iinc (pc := 218) (v := x10_4) (lv' := [(10, .int x10_4), (0, .ref (ad 0)), (5, .int x5), (6, .int x6), (7, .int x7), (8, .long x8)]) hx hb dX9_bends_218 hl (k := 5) rfl (by rw [e_]; rfl) (by decide) rfl (fun ls hl => ?_)
      refine lv_goto (pc := 221) (tgt := 201) hx hb dX9_bends_221 (by decide) ?_
      exact ih u3 x5 x6 x7 x8 x10_4 H locs ls h w (lv_sub hl [1, 2, 3, 4, 5, 0] rfl)
set_option maxHeartbeats 4000000 in
set_option maxRecDepth 100000 in
theorem bX9_bends_32 {l : Launch} {p : Program} {e : Env} {s : State} {m : MethodId} {args : Array Value} {below : List Frame} {meth : Method} {c : Code} {D : va_G} {g : Nat → ClassId} {ad : Nat → Nat} {Q : Mm → Prop} (X : RX p s m args meth c cX9_bends RX9 12 none (Cond.code yX9_bends cX9_bends 12 none) D g ad (RA ad)) : ∀ (n : Nat) (u : Mm) (x5 : Int32) (x6 : Int32) (x7 : Int32) (x8 : Int64) (x10 : Int32) (H : Heap) (locs : List Loc) (ls : Array Slot), wX9_bends_b32 Q n u x5 x6 x7 x8 x10 → RWd D g ad (RA ad) s u H locs → lv_has ls 12 [(0, .ref (ad 0)), (5, .int x5), (6, .int x6), (7, .int x7), (8, .long x8), (10, .int x10)] → W p l e ({ frames := 2, cells := 0, slots := 0, locals := 55 } : Room) s m args below meth c H locs 0 0 (MQ below (va_Qv Q (RB D g ad) (RA ad)) args s 0 0 (RA ad)) (F0 m 32 ls []) := by
  obtain ⟨⟨hx, hb, hml, hown, hts⟩, hr, hlocks, hK, hJ, hAA⟩ := id X
  intro n
  induction n with
  | zero =>
    intro u x5 x6 x7 x8 x10 H locs ls h
    exact False.elim h
  | succ n ih =>
    intro u x5 x6 x7 x8 x10 H locs ls h w hl
    unfold wX9_bends_b32 at h
    refine lv_iload (pc := 32) hx hb dX9_bends_32 (lv_at hl 5 rfl) ?_
    refine lv_iload (pc := 34) hx hb dX9_bends_34 (lv_at hl 1 rfl) ?_
    refine lv_iconst (pc := 36) (v := (4 : Int32)) hx hb dX9_bends_36 (by decide) ?_
    refine lv_iadd (pc := 37) hx hb dX9_bends_37 ?_
    refine lv_icmp_ge (pc := 38) (tgt := 93) hx hb dX9_bends_38 (by decide) (fun c_ => ?_) (fun c_ => ?_)
    · have h := h.1 c_
      refine lv_aload_n (pc := 93) hx hb dX9_bends_93 rfl (lv_at hl 0 rfl) ?_
      refine Rgf_0_10 (pc := 94) X w kw556 dX9_bends_94 ?_
      refine lv_iload (pc := 97) hx hb dX9_bends_97 (lv_at hl 2 rfl) ?_
      refine Rld_8 (pc := 99) X w h.1 dX9_bends_99 ?_
      have h := h.2
      refine lv_if_ne (pc := 100) (tgt := 104) hx hb dX9_bends_100 (by decide) (fun c_ => ?_) (fun c_ => ?_)
      · have h := h.2 c_
        refine lv_iload (pc := 104) hx hb dX9_bends_104 (lv_at hl 3 rfl) ?_
        refine lv_iconst (pc := 106) (v := (4 : Int32)) hx hb dX9_bends_106 (by decide) ?_
        refine lv_icmp_ne (pc := 107) (tgt := 198) hx hb dX9_bends_107 (by decide) (fun c_ => ?_) (fun c_ => ?_)
        · have h := h.2 c_
          refine lv_iconst (pc := 198) (v := (0 : Int32)) hx hb dX9_bends_198 (by decide) ?_
          refine lv_istore (pc := 199) (lv' := [(10, .int (0 : Int32)), (0, .ref (ad 0)), (5, .int x5), (6, .int x6), (7, .int x7), (8, .long x8)]) hx hb dX9_bends_199 hl (by decide) rfl (fun ls hl => ?_)
          obtain ⟨n9, h⟩ := h
          exact bX9_bends_201 X n9 u x5 x6 x7 x8 (0 : Int32) H locs ls h w (lv_sub hl [1, 2, 3, 4, 5, 0] rfl)
        · have h := h.1 c_
          refine lv_iconst (pc := 110) (v := (0 : Int32)) hx hb dX9_bends_110 (by decide) ?_
          refine lv_istore (pc := 111) (lv' := [(10, .int (0 : Int32)), (0, .ref (ad 0)), (5, .int x5), (6, .int x6), (7, .int x7), (8, .long x8)]) hx hb dX9_bends_111 hl (by decide) rfl (fun ls hl => ?_)
          obtain ⟨n9, h⟩ := h
          exact bX9_bends_113 X n9 u x5 x6 x8 (0 : Int32) H locs ls h w (lv_sub hl [1, 2, 3, 5, 0] rfl)
      · have h := h.1 c_
        exact Rvret (pc := 103) X w h dX9_bends_103
    · have h := h.2 c_
      refine lv_aload_n (pc := 41) hx hb dX9_bends_41 rfl (lv_at hl 0 rfl) ?_
      refine Rgf_0_16 (pc := 42) X w kw557 dX9_bends_42 ?_
      refine lv_iload (pc := 45) hx hb dX9_bends_45 (lv_at hl 5 rfl) ?_
      refine lv_aload_n (pc := 47) hx hb dX9_bends_47 rfl (lv_at hl 0 rfl) ?_
      refine Rgf_0_9 (pc := 48) X w kw558 dX9_bends_48 ?_
      refine lv_iload (pc := 51) hx hb dX9_bends_51 (lv_at hl 5 rfl) ?_
      refine Rld_7 (pc := 53) X w h.1 dX9_bends_53 ?_
      have h := h.2
      refine Rst_13 (pc := 54) X w h.1 dX9_bends_54 (fun H locs w => ?_)
      have h := h.2
      obtain ⟨u1, e_⟩ : ∃ y : Mm, y = s64 u 13 x10.toNatClampNeg (u.2 7 x10.toNatClampNeg) := ⟨_, rfl⟩
      rw [← e_] at w
      have h := h u1 e_
      refine lv_iload (pc := 55) hx hb dX9_bends_55 (lv_at hl 3 rfl) ?_
      refine lv_aload_n (pc := 57) hx hb dX9_bends_57 rfl (lv_at hl 0 rfl) ?_
      refine Rgf_0_10 (pc := 58) X w kw556 dX9_bends_58 ?_
      refine lv_iload (pc := 61) hx hb dX9_bends_61 (lv_at hl 5 rfl) ?_
      refine Rld_8 (pc := 63) X w h.1 dX9_bends_63 ?_
      have h := h.2
      refine lv_if_le (pc := 64) (tgt := 71) hx hb dX9_bends_64 (by decide) (fun c_ => ?_) (fun c_ => ?_)
      · have h := h.1 c_
        refine lv_iconst (pc := 71) (v := (0 : Int32)) hx hb dX9_bends_71 (by decide) ?_
        refine bX9_bends_72 X ?_ u1 x5 x6 x8 x10 (0 : Int32) x7 H locs ls h w (lv_sub hl [0, 1, 2, 4, 5] rfl)
        · intro u x5 x6 x7 x8 x10 H locs ls h w hl
          exact ih u x5 x6 x7 x8 x10 H locs ls h w (lv_sub hl [0, 1, 2, 3, 4, 5] rfl)
      · have h := h.2 c_
        refine lv_iconst (pc := 67) (v := (1 : Int32)) hx hb dX9_bends_67 (by decide) ?_
        refine lv_goto (pc := 68) (tgt := 72) hx hb dX9_bends_68 (by decide) ?_
        refine bX9_bends_72 X ?_ u1 x5 x6 x8 x10 (1 : Int32) x7 H locs ls h w (lv_sub hl [0, 1, 2, 4, 5] rfl)
        · intro u x5 x6 x7 x8 x10 H locs ls h w hl
          exact ih u x5 x6 x7 x8 x10 H locs ls h w (lv_sub hl [0, 1, 2, 3, 4, 5] rfl)
set_option maxHeartbeats 4000000 in
set_option maxRecDepth 100000 in
theorem okX9_bends (l : Launch) {D : va_G} {g : Nat → ClassId} {ad : Nat → Nat} (hJ : RJ ad) {u : Mm} {a1 : Int32} {a2 : Int32} {a3 : Int32} {a4 : Int32} {Q : Mm → Prop} (h : wX9_bends u a1 a2 a3 a4 Q) : Met l yX9_bends (Cond.code yX9_bends cX9_bends 12 none :: gt) ({ frames := 2, cells := 0, slots := 0, locals := 55 } : Room) (RPc D g ad u [.ref (ad 0), .int a1, .int a2, .int a3, .int a4]) (va_Qv Q (RB D g ad) (RA ad)) 0 0 (RA ad) := by
  refine Met.ofW (cc := cX9_bends) (maxL := 12) (ret := none) (by decide) rfl ?_
  intro p e s m args below meth c s₁ B hml hv
  refine Rentry (own := RX9) B hml hv hJ rfl (Nat.le_of_ble_eq_true rfl) (fun ls H locs X w hl => ?_)
  obtain ⟨⟨hx, hb, hml, hown, hts⟩, hr, hlocks, hK, hJ, hAA⟩ := id X
  have hl : lv_has ls 12 [(0, .ref (ad 0)), (1, .int a1), (2, .int a2), (3, .int a3), (4, .int a4)] := hl
  unfold wX9_bends at h
  refine lv_iload_n (pc := 0) hx hb dX9_bends_0 rfl (lv_at hl 1 rfl) ?_
  refine lv_iload_n (pc := 1) hx hb dX9_bends_1 rfl (lv_at hl 2 rfl) ?_
  refine lv_iload_n (pc := 2) hx hb dX9_bends_2 rfl (lv_at hl 3 rfl) ?_
  refine lv_iconst (pc := 3) (v := (4 : Int32)) hx hb dX9_bends_3 (by decide) ?_
  refine lv_iload (pc := 4) hx hb dX9_bends_4 (lv_at hl 4 rfl) ?_
  refine lv_imul (pc := 6) hx hb dX9_bends_6 ?_
  refine Rcalli (rest := []) (RrunS (pc := 7) X w (okX9_cellOf l hJ h) kw502 kmX9_cellOf ⟨rfl, rfl⟩ ⟨by decide, by decide⟩ rfl hl.1 rfl (Nat.le_of_ble_eq_true rfl) dX9_bends_7) w (fun r1 u9_ H locs h w => ?_)
  obtain ⟨rfl, h⟩ := h
  refine lv_istore (pc := 10) (lv' := [(5, .int r1), (0, .ref (ad 0)), (1, .int a1), (2, .int a2), (3, .int a3), (4, .int a4)]) hx hb dX9_bends_10 hl (by decide) rfl (fun ls hl => ?_)
  refine lv_iload_n (pc := 12) hx hb dX9_bends_12 rfl (lv_at hl 2 rfl) ?_
  refine lv_iload_n (pc := 13) hx hb dX9_bends_13 rfl (lv_at hl 3 rfl) ?_
  refine lv_iload_n (pc := 14) hx hb dX9_bends_14 rfl (lv_at hl 4 rfl) ?_
  refine lv_iload (pc := 15) hx hb dX9_bends_15 (lv_at hl 5 rfl) ?_
  refine Rcalli (rest := []) (RrunS (pc := 17) X w (okX9_annualOf l hJ h) kw506 kmX9_annualOf ⟨rfl, rfl⟩ ⟨by decide, by decide⟩ rfl hl.1 rfl (Nat.le_of_ble_eq_true rfl) dX9_bends_17) w (fun r2 u9_ H locs h w => ?_)
  obtain ⟨rfl, h⟩ := h
  refine lv_istore (pc := 20) (lv' := [(6, .int r2), (5, .int r1), (0, .ref (ad 0)), (1, .int a1), (2, .int a2), (3, .int a3), (4, .int a4)]) hx hb dX9_bends_20 hl (by decide) rfl (fun ls hl => ?_)
  refine lv_iconst (pc := 22) (v := (0 : Int32)) hx hb dX9_bends_22 (by decide) ?_
  refine lv_istore (pc := 23) (lv' := [(7, .int (0 : Int32)), (6, .int r2), (5, .int r1), (0, .ref (ad 0)), (1, .int a1), (2, .int a2), (3, .int a3), (4, .int a4)]) hx hb dX9_bends_23 hl (by decide) rfl (fun ls hl => ?_)
  refine lv_lconst (pc := 25) (v := (0 : Int64)) hx hb dX9_bends_25 (by decide) ?_
  refine lv_lstore (pc := 26) (lv' := [(8, .long (0 : Int64)), (7, .int (0 : Int32)), (6, .int r2), (5, .int r1), (0, .ref (ad 0)), (1, .int a1), (2, .int a2), (3, .int a3), (4, .int a4)]) hx hb dX9_bends_26 hl (by decide) rfl (fun ls hl => ?_)
  refine lv_iload (pc := 28) hx hb dX9_bends_28 (lv_at hl 3 rfl) ?_
  refine lv_istore (pc := 30) (lv' := [(10, .int r1), (8, .long (0 : Int64)), (7, .int (0 : Int32)), (6, .int r2), (5, .int r1), (0, .ref (ad 0)), (1, .int a1), (2, .int a2), (3, .int a3), (4, .int a4)]) hx hb dX9_bends_30 hl (by decide) rfl (fun ls hl => ?_)
  obtain ⟨n9, h⟩ := h
  exact bX9_bends_32 X n9 u r1 r2 (0 : Int32) (0 : Int64) r1 H locs ls h w (lv_sub hl [5, 4, 3, 2, 1, 0] rfl)
set_option maxHeartbeats 4000000 in
set_option maxRecDepth 100000 in
theorem bX9_gapOf_6 {l : Launch} {p : Program} {e : Env} {s : State} {m : MethodId} {args : Array Value} {below : List Frame} {meth : Method} {c : Code} {D : va_G} {g : Nat → ClassId} {ad : Nat → Nat} {u : Mm} {Q : Int64 → Prop} (X : RX p s m args meth c cX9_gapOf RX9 9 (some .long) (Cond.code yX9_gapOf cX9_gapOf 9 (some .long)) D g ad (RA ad)) : ∀ (n : Nat) (x1 : Int32) (x2 : Int32) (x3 : Int32) (x4 : Int64) (x6 : Int32) (H : Heap) (locs : List Loc) (ls : Array Slot), wX9_gapOf_b6 u Q n x1 x2 x3 x4 x6 → RWd D g ad (RA ad) s u H locs → lv_has ls 9 [(0, .ref (ad 0)), (1, .int x1), (2, .int x2), (3, .int x3), (4, .long x4), (6, .int x6)] → W p l e ({ frames := 1, cells := 0, slots := 0, locals := 23 } : Room) s m args below meth c H locs 0 0 (MQ below (va_Ql (fun r u1 => u = u1 ∧ Q r) (RB D g ad) (RA ad)) args s 0 0 (RA ad)) (F0 m 6 ls []) := by
  obtain ⟨⟨hx, hb, hml, hown, hts⟩, hr, hlocks, hK, hJ, hAA⟩ := id X
  intro n
  induction n with
  | zero =>
    intro x1 x2 x3 x4 x6 H locs ls h
    exact False.elim h
  | succ n ih =>
    intro x1 x2 x3 x4 x6 H locs ls h w hl
    unfold wX9_gapOf_b6 at h
    refine lv_iload (pc := 6) hx hb dX9_gapOf_6 (lv_at hl 5 rfl) ?_
    refine lv_bipush (pc := 8) (v := (6 : Int32)) hx hb dX9_gapOf_8 (by decide) ?_
    refine lv_icmp_ge (pc := 10) (tgt := 58) hx hb dX9_gapOf_10 (by decide) (fun c_ => ?_) (fun c_ => ?_)
    · have h := h.1 c_
      refine lv_lload (pc := 58) hx hb dX9_gapOf_58 (lv_at hl 4 rfl) ?_
      exact Rlret (pc := 60) X w ⟨rfl, h⟩ dX9_gapOf_60
    · have h := h.2 c_
      refine lv_aload_n (pc := 13) hx hb dX9_gapOf_13 rfl (lv_at hl 0 rfl) ?_
      refine Rgf_0_16 (pc := 14) X w kw557 dX9_gapOf_14 ?_
      refine lv_iload_n (pc := 17) hx hb dX9_gapOf_17 rfl (lv_at hl 1 rfl) ?_
      refine lv_iload_n (pc := 18) hx hb dX9_gapOf_18 rfl (lv_at hl 2 rfl) ?_
      refine lv_iload (pc := 19) hx hb dX9_gapOf_19 (lv_at hl 5 rfl) ?_
      refine lv_iload_n (pc := 21) hx hb dX9_gapOf_21 rfl (lv_at hl 3 rfl) ?_
      refine Rcalli (rest := [.ref (ad 13)]) (RrunS (pc := 22) X w (okX9_cellOf l hJ h) kw502 kmX9_cellOf ⟨rfl, rfl⟩ ⟨by decide, by decide⟩ rfl hl.1 rfl (Nat.le_of_ble_eq_true rfl) dX9_gapOf_22) w (fun r1 u9_ H locs h w => ?_)
      obtain ⟨rfl, h⟩ := h
      refine Rld_13 (pc := 25) X w h.1 dX9_gapOf_25 ?_
      have h := h.2
      refine lv_topl (fun x7_2 e_ => ?_)
      have h := h x7_2 e_
      refine lv_lstore (pc := 26) (lv' := [(7, .long x7_2), (0, .ref (ad 0)), (1, .int x1), (2, .int x2), (3, .int x3), (4, .long x4), (6, .int x6)]) hx hb dX9_gapOf_26 hl (by decide) rfl (fun ls hl => ?_)
      refine lv_lload (pc := 28) hx hb dX9_gapOf_28 (lv_at hl 5 rfl) ?_
      refine lv_aload_n (pc := 30) hx hb dX9_gapOf_30 rfl (lv_at hl 1 rfl) ?_
      refine Rgf_0_12 (pc := 31) X w kw563 dX9_gapOf_31 ?_
      refine lv_iload (pc := 34) hx hb dX9_gapOf_34 (lv_at hl 6 rfl) ?_
      refine Rld_9 (pc := 36) X w h.1 dX9_gapOf_36 ?_
      have h := h.2
      refine lv_iconst (pc := 37) (v := (1 : Int32)) hx hb dX9_gapOf_37 (by decide) ?_
      refine lv_icmp_ne (pc := 38) (tgt := 46) hx hb dX9_gapOf_38 (by decide) (fun c_ => ?_) (fun c_ => ?_)
      · have h := h.2 c_
        refine lv_lload (pc := 46) hx hb dX9_gapOf_46 (lv_at hl 0 rfl) ?_
        refine lv_lneg (pc := 48) hx hb dX9_gapOf_48 ?_
        refine lv_ladd (pc := 49) hx hb dX9_gapOf_49 ?_
        refine lv_topl (fun x4_3 e_ => ?_)
        have h := h x4_3 e_
        refine lv_lstore (pc := 50) (lv' := [(4, .long x4_3), (7, .long x7_2), (0, .ref (ad 0)), (1, .int x1), (2, .int x2), (3, .int x3), (6, .int x6)]) hx hb dX9_gapOf_50 hl (by decide) rfl (fun ls hl => ?_)
        obtain ⟨x6_4, e_⟩ : ∃ y : Int32, y = x6 + (1 : Int32) := ⟨_, rfl⟩
        have h := h x6_4 e_
        refine lv_iinc (pc := 52) (v := x6_4) (lv' := [(6, .int x6_4), (4, .long x4_3), (7, .long x7_2), (0, .ref (ad 0)), (1, .int x1), (2, .int x2), (3, .int x3)]) hx hb dX9_gapOf_52 hl (k := 6) rfl (by rw [e_]; rfl) (by decide) rfl (fun ls hl => ?_)
        refine lv_goto (pc := 55) (tgt := 6) hx hb dX9_gapOf_55 (by decide) ?_
        exact ih x1 x2 x3 x4_3 x6_4 H locs ls h w (lv_sub hl [3, 4, 5, 6, 1, 0] rfl)
      · have h := h.1 c_
        refine lv_lload (pc := 41) hx hb dX9_gapOf_41 (lv_at hl 0 rfl) ?_
        refine lv_goto (pc := 43) (tgt := 49) hx hb dX9_gapOf_43 (by decide) ?_
        refine lv_ladd (pc := 49) hx hb dX9_gapOf_49 ?_
        refine lv_topl (fun x4_5 e_ => ?_)
        have h := h x4_5 e_
        refine lv_lstore (pc := 50) (lv' := [(4, .long x4_5), (7, .long x7_2), (0, .ref (ad 0)), (1, .int x1), (2, .int x2), (3, .int x3), (6, .int x6)]) hx hb dX9_gapOf_50 hl (by decide) rfl (fun ls hl => ?_)
        obtain ⟨x6_6, e_⟩ : ∃ y : Int32, y = x6 + (1 : Int32) := ⟨_, rfl⟩
        have h := h x6_6 e_
        refine lv_iinc (pc := 52) (v := x6_6) (lv' := [(6, .int x6_6), (4, .long x4_5), (7, .long x7_2), (0, .ref (ad 0)), (1, .int x1), (2, .int x2), (3, .int x3)]) hx hb dX9_gapOf_52 hl (k := 6) rfl (by rw [e_]; rfl) (by decide) rfl (fun ls hl => ?_)
        refine lv_goto (pc := 55) (tgt := 6) hx hb dX9_gapOf_55 (by decide) ?_
        exact ih x1 x2 x3 x4_5 x6_6 H locs ls h w (lv_sub hl [3, 4, 5, 6, 1, 0] rfl)
set_option maxHeartbeats 4000000 in
set_option maxRecDepth 100000 in
theorem okX9_gapOf (l : Launch) {D : va_G} {g : Nat → ClassId} {ad : Nat → Nat} (hJ : RJ ad) {u : Mm} {a1 : Int32} {a2 : Int32} {a3 : Int32} {Q : Int64 → Prop} (h : wX9_gapOf u a1 a2 a3 Q) : Met l yX9_gapOf (Cond.code yX9_gapOf cX9_gapOf 9 (some .long) :: gt) ({ frames := 1, cells := 0, slots := 0, locals := 23 } : Room) (RPc D g ad u [.ref (ad 0), .int a1, .int a2, .int a3]) (va_Ql (fun r u1 => u = u1 ∧ Q r) (RB D g ad) (RA ad)) 0 0 (RA ad) := by
  refine Met.ofW (cc := cX9_gapOf) (maxL := 9) (ret := (some .long)) (by decide) rfl ?_
  intro p e s m args below meth c s₁ B hml hv
  refine Rentry (own := RX9) B hml hv hJ rfl (Nat.le_of_ble_eq_true rfl) (fun ls H locs X w hl => ?_)
  obtain ⟨⟨hx, hb, hml, hown, hts⟩, hr, hlocks, hK, hJ, hAA⟩ := id X
  have hl : lv_has ls 9 [(0, .ref (ad 0)), (1, .int a1), (2, .int a2), (3, .int a3)] := hl
  unfold wX9_gapOf at h
  refine lv_lconst (pc := 0) (v := (0 : Int64)) hx hb dX9_gapOf_0 (by decide) ?_
  refine lv_lstore (pc := 1) (lv' := [(4, .long (0 : Int64)), (0, .ref (ad 0)), (1, .int a1), (2, .int a2), (3, .int a3)]) hx hb dX9_gapOf_1 hl (by decide) rfl (fun ls hl => ?_)
  refine lv_iconst (pc := 3) (v := (0 : Int32)) hx hb dX9_gapOf_3 (by decide) ?_
  refine lv_istore (pc := 4) (lv' := [(6, .int (0 : Int32)), (4, .long (0 : Int64)), (0, .ref (ad 0)), (1, .int a1), (2, .int a2), (3, .int a3)]) hx hb dX9_gapOf_4 hl (by decide) rfl (fun ls hl => ?_)
  obtain ⟨n9, h⟩ := h
  exact bX9_gapOf_6 X n9 a1 a2 a3 (0 : Int64) (0 : Int32) H locs ls h w (lv_sub hl [2, 3, 4, 5, 1, 0] rfl)
set_option maxHeartbeats 4000000 in
set_option maxRecDepth 100000 in
theorem okX9_costOf (l : Launch) {D : va_G} {g : Nat → ClassId} {ad : Nat → Nat} (hJ : RJ ad) {u : Mm} {a1 : Int32} {a2 : Int32} {a3 : Int32} {a4 : Int32} {Q : Int32 → Prop} (h : wX9_costOf u a1 a2 a3 a4 Q) : Met l yX9_costOf (Cond.code yX9_costOf cX9_costOf 5 (some .int) :: gt) ({ frames := 1, cells := 0, slots := 0, locals := 23 } : Room) (RPc D g ad u [.ref (ad 0), .int a1, .int a2, .int a3, .int a4]) (va_Qi (fun r u1 => u = u1 ∧ Q r) (RB D g ad) (RA ad)) 0 0 (RA ad) := by
  refine Met.ofW (cc := cX9_costOf) (maxL := 5) (ret := (some .int)) (by decide) rfl ?_
  intro p e s m args below meth c s₁ B hml hv
  refine Rentry (own := RX9) B hml hv hJ rfl (Nat.le_of_ble_eq_true rfl) (fun ls H locs X w hl => ?_)
  obtain ⟨⟨hx, hb, hml, hown, hts⟩, hr, hlocks, hK, hJ, hAA⟩ := id X
  have hl : lv_has ls 5 [(0, .ref (ad 0)), (1, .int a1), (2, .int a2), (3, .int a3), (4, .int a4)] := hl
  unfold wX9_costOf at h
  refine lv_iconst (pc := 0) (v := (1 : Int32)) hx hb dX9_costOf_0 (by decide) ?_
  refine lv_aload_n (pc := 1) hx hb dX9_costOf_1 rfl (lv_at hl 0 rfl) ?_
  refine Rgf_0_10 (pc := 2) X w kw556 dX9_costOf_2 ?_
  refine lv_iload_n (pc := 5) hx hb dX9_costOf_5 rfl (lv_at hl 1 rfl) ?_
  refine lv_iload_n (pc := 6) hx hb dX9_costOf_6 rfl (lv_at hl 2 rfl) ?_
  refine lv_iload_n (pc := 7) hx hb dX9_costOf_7 rfl (lv_at hl 3 rfl) ?_
  refine lv_iload (pc := 8) hx hb dX9_costOf_8 (lv_at hl 4 rfl) ?_
  refine Rcalli (rest := [.ref (ad 8), .int (1 : Int32)]) (RrunS (pc := 10) X w (okX9_cellOf l hJ h) kw502 kmX9_cellOf ⟨rfl, rfl⟩ ⟨by decide, by decide⟩ rfl hl.1 rfl (Nat.le_of_ble_eq_true rfl) dX9_costOf_10) w (fun r1 u9_ H locs h w => ?_)
  obtain ⟨rfl, h⟩ := h
  refine Rld_8 (pc := 13) X w h.1 dX9_costOf_13 ?_
  have h := h.2
  refine lv_iadd (pc := 14) hx hb dX9_costOf_14 ?_
  refine lv_aload_n (pc := 15) hx hb dX9_costOf_15 rfl (lv_at hl 0 rfl) ?_
  refine Rgf_0_10 (pc := 16) X w kw556 dX9_costOf_16 ?_
  refine lv_iload_n (pc := 19) hx hb dX9_costOf_19 rfl (lv_at hl 1 rfl) ?_
  refine lv_iload_n (pc := 20) hx hb dX9_costOf_20 rfl (lv_at hl 2 rfl) ?_
  refine lv_iload_n (pc := 21) hx hb dX9_costOf_21 rfl (lv_at hl 3 rfl) ?_
  refine lv_iload (pc := 22) hx hb dX9_costOf_22 (lv_at hl 4 rfl) ?_
  refine lv_iconst (pc := 24) (v := (4 : Int32)) hx hb dX9_costOf_24 (by decide) ?_
  refine lv_idiv (pc := 25) hx hb dX9_costOf_25 (by decide) ?_
  refine Rcalli (rest := [.ref (ad 8), .int ((1 : Int32) + (u.1 8 r1.toNatClampNeg))]) (RrunS (pc := 26) X w (okX9_annualOf l hJ h) kw506 kmX9_annualOf ⟨rfl, rfl⟩ ⟨by decide, by decide⟩ rfl hl.1 rfl (Nat.le_of_ble_eq_true rfl) dX9_costOf_26) w (fun r2 u9_ H locs h w => ?_)
  obtain ⟨rfl, h⟩ := h
  refine Rld_8 (pc := 29) X w h.1 dX9_costOf_29 ?_
  have h := h.2
  refine lv_iadd (pc := 30) hx hb dX9_costOf_30 ?_
  exact Riret (pc := 31) X w ⟨rfl, h⟩ dX9_costOf_31
set_option maxHeartbeats 4000000 in
set_option maxRecDepth 100000 in
theorem okX9_amount (l : Launch) {D : va_G} {g : Nat → ClassId} {ad : Nat → Nat} (hJ : RJ ad) {u : Mm} {a0 : Int64} {Q : Int64 → Prop} (h : wX9_amount a0 Q) : Met l yX9_amount (Cond.code yX9_amount cX9_amount 2 (some .long) :: gt) ({ frames := 0, cells := 0, slots := 0, locals := 0 } : Room) (RPc D g ad u [.long a0]) (va_Ql (fun r u1 => u = u1 ∧ Q r) (RB D g ad) (RA ad)) 0 0 (RA ad) := by
  refine Met.ofW (cc := cX9_amount) (maxL := 2) (ret := (some .long)) (by decide) rfl ?_
  intro p e s m args below meth c s₁ B hml hv
  refine Rentry (own := RX9) B hml hv hJ rfl (Nat.le_of_ble_eq_true rfl) (fun ls H locs X w hl => ?_)
  obtain ⟨⟨hx, hb, hml, hown, hts⟩, hr, hlocks, hK, hJ, hAA⟩ := id X
  have hl : lv_has ls 2 [(0, .long a0)] := hl
  unfold wX9_amount at h
  refine lv_lload_n (pc := 0) hx hb dX9_amount_0 rfl (lv_at hl 0 rfl) ?_
  refine lv_lconst (pc := 1) (v := (0 : Int64)) hx hb dX9_amount_1 (by decide) ?_
  refine lq_ge (pc := 2) (tgt := 11) hx hb dX9_amount_2 dX9_amount_3 (by decide) (fun c_ => ?_) (fun c_ => ?_)
  · have h := h.1 c_
    refine lv_lload_n (pc := 11) hx hb dX9_amount_11 rfl (lv_at hl 0 rfl) ?_
    exact Rlret (pc := 12) X w ⟨rfl, h⟩ dX9_amount_12
  · have h := h.2 c_
    refine lv_lload_n (pc := 6) hx hb dX9_amount_6 rfl (lv_at hl 0 rfl) ?_
    refine lv_lneg (pc := 7) hx hb dX9_amount_7 ?_
    refine lv_goto (pc := 8) (tgt := 12) hx hb dX9_amount_8 (by decide) ?_
    exact Rlret (pc := 12) X w ⟨rfl, h⟩ dX9_amount_12
set_option maxHeartbeats 4000000 in
set_option maxRecDepth 100000 in
theorem bX9_closes_113 {l : Launch} {p : Program} {e : Env} {s : State} {m : MethodId} {args : Array Value} {below : List Frame} {meth : Method} {c : Code} {D : va_G} {g : Nat → ClassId} {ad : Nat → Nat} {Q : Mm → Prop} {k28 : Mm → Int32 → Int32 → Int32 → Int32 → Int64 → Int32 → Int32 → Prop} (X : RX p s m args meth c cX9_closes RX9 12 none (Cond.code yX9_closes cX9_closes 12 none) D g ad (RA ad)) (hk28 : ∀ (u : Mm) (x1 : Int32) (x2 : Int32) (x3 : Int32) (x4 : Int32) (x5 : Int64) (x7 : Int32) (x8 : Int32) (H : Heap) (locs : List Loc) (ls : Array Slot), k28 u x1 x2 x3 x4 x5 x7 x8 → RWd D g ad (RA ad) s u H locs → lv_has ls 12 [(0, .ref (ad 0)), (1, .int x1), (2, .int x2), (3, .int x3), (4, .int x4), (5, .long x5), (7, .int x7), (8, .int x8)] → W p l e ({ frames := 2, cells := 0, slots := 0, locals := 55 } : Room) s m args below meth c H locs 0 0 (MQ below (va_Qv Q (RB D g ad) (RA ad)) args s 0 0 (RA ad)) (F0 m 28 ls [])) : ∀ (u : Mm) (x1 : Int32) (x2 : Int32) (x3 : Int32) (x4 : Int32) (x5 : Int64) (x8 : Int32) (x9 : Int32) (y0 : Int32) (H : Heap) (locs : List Loc) (ls : Array Slot), wX9_closes_b113 k28 Q u x1 x2 x3 x4 x5 x8 x9 y0 → RWd D g ad (RA ad) s u H locs → lv_has ls 12 [(0, .ref (ad 0)), (1, .int x1), (2, .int x2), (3, .int x3), (4, .int x4), (5, .long x5), (8, .int x8), (9, .int x9)] → W p l e ({ frames := 2, cells := 0, slots := 0, locals := 55 } : Room) s m args below meth c H locs 0 0 (MQ below (va_Qv Q (RB D g ad) (RA ad)) args s 0 0 (RA ad)) (F0 m 113 ls [.int y0]) := by
  obtain ⟨⟨hx, hb, hml, hown, hts⟩, hr, hlocks, hK, hJ, hAA⟩ := id X
  intro u x1 x2 x3 x4 x5 x8 x9 y0 H locs ls h w hl
  unfold wX9_closes_b113 at h
  refine lv_istore (pc := 113) (lv' := [(7, .int y0), (0, .ref (ad 0)), (1, .int x1), (2, .int x2), (3, .int x3), (4, .int x4), (5, .long x5), (8, .int x8), (9, .int x9)]) hx hb dX9_closes_113 hl (by decide) rfl (fun ls hl => ?_)
  refine lv_aload_n (pc := 115) hx hb dX9_closes_115 rfl (lv_at hl 1 rfl) ?_
  refine Rgf_0_13 (pc := 116) X w kw548 dX9_closes_116 ?_
  refine lv_iload (pc := 119) hx hb dX9_closes_119 (lv_at hl 7 rfl) ?_
  refine lv_iload (pc := 121) hx hb dX9_closes_121 (lv_at hl 8 rfl) ?_
  refine lv_if_eq (pc := 123) (tgt := 143) hx hb dX9_closes_123 (by decide) (fun c_ => ?_) (fun c_ => ?_)
  · have h := h.1 c_
    refine lv_lconst (pc := 143) (v := (0 : Int64)) hx hb dX9_closes_143 (by decide) ?_
    refine Rst_10 (pc := 144) X w h.1 dX9_closes_144 (fun H locs w => ?_)
    have h := h.2
    obtain ⟨u1, e_⟩ : ∃ y : Mm, y = s64 u 10 x8.toNatClampNeg (0 : Int64) := ⟨_, rfl⟩
    rw [← e_] at w
    have h := h u1 e_
    obtain ⟨x8_2, e_⟩ : ∃ y : Int32, y = x8 + (1 : Int32) := ⟨_, rfl⟩
    have h := h x8_2 e_
    refine lv_iinc (pc := 145) (v := x8_2) (lv' := [(8, .int x8_2), (7, .int y0), (0, .ref (ad 0)), (1, .int x1), (2, .int x2), (3, .int x3), (4, .int x4), (5, .long x5), (9, .int x9)]) hx hb dX9_closes_145 hl (k := 7) rfl (by rw [e_]; rfl) (by decide) rfl (fun ls hl => ?_)
    refine lv_goto (pc := 148) (tgt := 28) hx hb dX9_closes_148 (by decide) ?_
    exact hk28 u1 x1 x2 x3 x4 x5 y0 x8_2 H locs ls h w (lv_sub hl [2, 3, 4, 5, 6, 7, 1, 0] rfl)
  · have h := h.2 c_
    refine lv_ldc2 (pc := 126) (v := (2520 : Int64)) hx hb hown (hts _ (List.mem_cons_of_mem _ kw577)) dX9_closes_126 ?_
    refine lv_aload_n (pc := 129) hx hb dX9_closes_129 rfl (lv_at hl 1 rfl) ?_
    refine lv_iload_n (pc := 130) hx hb dX9_closes_130 rfl (lv_at hl 2 rfl) ?_
    refine lv_iload_n (pc := 131) hx hb dX9_closes_131 rfl (lv_at hl 3 rfl) ?_
    refine lv_iload (pc := 132) hx hb dX9_closes_132 (lv_at hl 7 rfl) ?_
    refine lv_iload_n (pc := 134) hx hb dX9_closes_134 rfl (lv_at hl 4 rfl) ?_
    refine Rcalli (rest := [.long (2520 : Int64), .int x8, .ref (ad 10)]) (RrunV (pc := 135) X w (okX9_costOf l hJ h) kw571 kmX9_costOf ⟨rfl, rfl⟩ ⟨by decide, by decide⟩ (Rrv_0 X w) rfl hl.1 rfl (Nat.le_of_ble_eq_true rfl) dX9_closes_135) w (fun r3 u9_ H locs h w => ?_)
    obtain ⟨rfl, h⟩ := h
    refine lv_i2l (pc := 138) hx hb dX9_closes_138 rfl ?_
    refine lv_ldiv (pc := 139) hx hb dX9_closes_139 h.1 ?_
    have h := h.2
    refine lv_goto (pc := 140) (tgt := 144) hx hb dX9_closes_140 (by decide) ?_
    refine Rst_10 (pc := 144) X w h.1 dX9_closes_144 (fun H locs w => ?_)
    have h := h.2
    obtain ⟨u4, e_⟩ : ∃ y : Mm, y = s64 u 10 x8.toNatClampNeg ((2520 : Int64) / r3.toInt64) := ⟨_, rfl⟩
    rw [← e_] at w
    have h := h u4 e_
    obtain ⟨x8_5, e_⟩ : ∃ y : Int32, y = x8 + (1 : Int32) := ⟨_, rfl⟩
    have h := h x8_5 e_
    refine lv_iinc (pc := 145) (v := x8_5) (lv' := [(8, .int x8_5), (7, .int y0), (0, .ref (ad 0)), (1, .int x1), (2, .int x2), (3, .int x3), (4, .int x4), (5, .long x5), (9, .int x9)]) hx hb dX9_closes_145 hl (k := 7) rfl (by rw [e_]; rfl) (by decide) rfl (fun ls hl => ?_)
    refine lv_goto (pc := 148) (tgt := 28) hx hb dX9_closes_148 (by decide) ?_
    exact hk28 u4 x1 x2 x3 x4 x5 y0 x8_5 H locs ls h w (lv_sub hl [2, 3, 4, 5, 6, 7, 1, 0] rfl)
set_option maxHeartbeats 4000000 in
set_option maxRecDepth 100000 in
theorem bX9_closes_99 {l : Launch} {p : Program} {e : Env} {s : State} {m : MethodId} {args : Array Value} {below : List Frame} {meth : Method} {c : Code} {D : va_G} {g : Nat → ClassId} {ad : Nat → Nat} {Q : Mm → Prop} {k28 : Mm → Int32 → Int32 → Int32 → Int32 → Int64 → Int32 → Int32 → Prop} (X : RX p s m args meth c cX9_closes RX9 12 none (Cond.code yX9_closes cX9_closes 12 none) D g ad (RA ad)) (hk28 : ∀ (u : Mm) (x1 : Int32) (x2 : Int32) (x3 : Int32) (x4 : Int32) (x5 : Int64) (x7 : Int32) (x8 : Int32) (H : Heap) (locs : List Loc) (ls : Array Slot), k28 u x1 x2 x3 x4 x5 x7 x8 → RWd D g ad (RA ad) s u H locs → lv_has ls 12 [(0, .ref (ad 0)), (1, .int x1), (2, .int x2), (3, .int x3), (4, .int x4), (5, .long x5), (7, .int x7), (8, .int x8)] → W p l e ({ frames := 2, cells := 0, slots := 0, locals := 55 } : Room) s m args below meth c H locs 0 0 (MQ below (va_Qv Q (RB D g ad) (RA ad)) args s 0 0 (RA ad)) (F0 m 28 ls [])) : ∀ (u : Mm) (x1 : Int32) (x2 : Int32) (x3 : Int32) (x4 : Int32) (x5 : Int64) (x7 : Int32) (x8 : Int32) (x9 : Int32) (y0 : Int32) (H : Heap) (locs : List Loc) (ls : Array Slot), wX9_closes_b99 k28 Q u x1 x2 x3 x4 x5 x7 x8 x9 y0 → RWd D g ad (RA ad) s u H locs → lv_has ls 12 [(0, .ref (ad 0)), (1, .int x1), (2, .int x2), (3, .int x3), (4, .int x4), (5, .long x5), (7, .int x7), (8, .int x8), (9, .int x9)] → W p l e ({ frames := 2, cells := 0, slots := 0, locals := 55 } : Room) s m args below meth c H locs 0 0 (MQ below (va_Qv Q (RB D g ad) (RA ad)) args s 0 0 (RA ad)) (F0 m 99 ls [.int y0]) := by
  obtain ⟨⟨hx, hb, hml, hown, hts⟩, hr, hlocks, hK, hJ, hAA⟩ := id X
  intro u x1 x2 x3 x4 x5 x7 x8 x9 y0 H locs ls h w hl
  unfold wX9_closes_b99 at h
  refine lv_istore (pc := 99) (lv' := [(10, .int y0), (0, .ref (ad 0)), (1, .int x1), (2, .int x2), (3, .int x3), (4, .int x4), (5, .long x5), (7, .int x7), (8, .int x8), (9, .int x9)]) hx hb dX9_closes_99 hl (by decide) rfl (fun ls hl => ?_)
  refine lv_iload (pc := 101) hx hb dX9_closes_101 (lv_at hl 0 rfl) ?_
  refine lv_if_eq (pc := 103) (tgt := 111) hx hb dX9_closes_103 (by decide) (fun c_ => ?_) (fun c_ => ?_)
  · have h := h.1 c_
    refine lv_iload (pc := 111) hx hb dX9_closes_111 (lv_at hl 7 rfl) ?_
    refine bX9_closes_113 X ?_ u x1 x2 x3 x4 x5 x8 x9 x7 H locs ls h w (lv_sub hl [1, 2, 3, 4, 5, 6, 8, 9] rfl)
    · intro u x1 x2 x3 x4 x5 x7 x8 H locs ls h w hl
      exact hk28 u x1 x2 x3 x4 x5 x7 x8 H locs ls h w (lv_sub hl [0, 1, 2, 3, 4, 5, 6, 7] rfl)
  · have h := h.2 c_
    refine lv_iload (pc := 106) hx hb dX9_closes_106 (lv_at hl 8 rfl) ?_
    refine lv_goto (pc := 108) (tgt := 113) hx hb dX9_closes_108 (by decide) ?_
    refine bX9_closes_113 X ?_ u x1 x2 x3 x4 x5 x8 x9 x8 H locs ls h w (lv_sub hl [1, 2, 3, 4, 5, 6, 8, 9] rfl)
    · intro u x1 x2 x3 x4 x5 x7 x8 H locs ls h w hl
      exact hk28 u x1 x2 x3 x4 x5 x7 x8 H locs ls h w (lv_sub hl [0, 1, 2, 3, 4, 5, 6, 7] rfl)
set_option maxHeartbeats 4000000 in
set_option maxRecDepth 100000 in
theorem bX9_closes_60 {l : Launch} {p : Program} {e : Env} {s : State} {m : MethodId} {args : Array Value} {below : List Frame} {meth : Method} {c : Code} {D : va_G} {g : Nat → ClassId} {ad : Nat → Nat} {Q : Mm → Prop} {k28 : Mm → Int32 → Int32 → Int32 → Int32 → Int64 → Int32 → Int32 → Prop} (X : RX p s m args meth c cX9_closes RX9 12 none (Cond.code yX9_closes cX9_closes 12 none) D g ad (RA ad)) (hk28 : ∀ (u : Mm) (x1 : Int32) (x2 : Int32) (x3 : Int32) (x4 : Int32) (x5 : Int64) (x7 : Int32) (x8 : Int32) (H : Heap) (locs : List Loc) (ls : Array Slot), k28 u x1 x2 x3 x4 x5 x7 x8 → RWd D g ad (RA ad) s u H locs → lv_has ls 12 [(0, .ref (ad 0)), (1, .int x1), (2, .int x2), (3, .int x3), (4, .int x4), (5, .long x5), (7, .int x7), (8, .int x8)] → W p l e ({ frames := 2, cells := 0, slots := 0, locals := 55 } : Room) s m args below meth c H locs 0 0 (MQ below (va_Qv Q (RB D g ad) (RA ad)) args s 0 0 (RA ad)) (F0 m 28 ls [])) : ∀ (u : Mm) (x1 : Int32) (x2 : Int32) (x3 : Int32) (x4 : Int32) (x5 : Int64) (x7 : Int32) (x8 : Int32) (y0 : Int32) (H : Heap) (locs : List Loc) (ls : Array Slot), wX9_closes_b60 k28 Q u x1 x2 x3 x4 x5 x7 x8 y0 → RWd D g ad (RA ad) s u H locs → lv_has ls 12 [(0, .ref (ad 0)), (1, .int x1), (2, .int x2), (3, .int x3), (4, .int x4), (5, .long x5), (7, .int x7), (8, .int x8)] → W p l e ({ frames := 2, cells := 0, slots := 0, locals := 55 } : Room) s m args below meth c H locs 0 0 (MQ below (va_Qv Q (RB D g ad) (RA ad)) args s 0 0 (RA ad)) (F0 m 60 ls [.int y0]) := by
  obtain ⟨⟨hx, hb, hml, hown, hts⟩, hr, hlocks, hK, hJ, hAA⟩ := id X
  intro u x1 x2 x3 x4 x5 x7 x8 y0 H locs ls h w hl
  unfold wX9_closes_b60 at h
  refine lv_istore (pc := 60) (lv' := [(9, .int y0), (0, .ref (ad 0)), (1, .int x1), (2, .int x2), (3, .int x3), (4, .int x4), (5, .long x5), (7, .int x7), (8, .int x8)]) hx hb dX9_closes_60 hl (by decide) rfl (fun ls hl => ?_)
  refine lv_iload (pc := 62) hx hb dX9_closes_62 (lv_at hl 0 rfl) ?_
  refine lv_if_eq (pc := 64) (tgt := 98) hx hb dX9_closes_64 (by decide) (fun c_ => ?_) (fun c_ => ?_)
  · have h := h.1 c_
    refine lv_iconst (pc := 98) (v := (0 : Int32)) hx hb dX9_closes_98 (by decide) ?_
    refine bX9_closes_99 X ?_ u x1 x2 x3 x4 x5 x7 x8 y0 (0 : Int32) H locs ls h w (lv_sub hl [1, 2, 3, 4, 5, 6, 7, 8, 0] rfl)
    · intro u x1 x2 x3 x4 x5 x7 x8 H locs ls h w hl
      exact hk28 u x1 x2 x3 x4 x5 x7 x8 H locs ls h w (lv_sub hl [0, 1, 2, 3, 4, 5, 6, 7] rfl)
  · have h := h.2 c_
    refine lv_iload (pc := 67) hx hb dX9_closes_67 (lv_at hl 7 rfl) ?_
    refine lv_iconst (pc := 69) (v := (-1 : Int32)) hx hb dX9_closes_69 (by decide) ?_
    refine lv_icmp_eq (pc := 70) (tgt := 94) hx hb dX9_closes_70 (by decide) (fun c_ => ?_) (fun c_ => ?_)
    · have h := h.1 c_
      refine lv_iconst (pc := 94) (v := (1 : Int32)) hx hb dX9_closes_94 (by decide) ?_
      refine lv_goto (pc := 95) (tgt := 99) hx hb dX9_closes_95 (by decide) ?_
      refine bX9_closes_99 X ?_ u x1 x2 x3 x4 x5 x7 x8 y0 (1 : Int32) H locs ls h w (lv_sub hl [1, 2, 3, 4, 5, 6, 7, 8, 0] rfl)
      · intro u x1 x2 x3 x4 x5 x7 x8 H locs ls h w hl
        exact hk28 u x1 x2 x3 x4 x5 x7 x8 H locs ls h w (lv_sub hl [0, 1, 2, 3, 4, 5, 6, 7] rfl)
    · have h := h.2 c_
      refine lv_aload_n (pc := 73) hx hb dX9_closes_73 rfl (lv_at hl 1 rfl) ?_
      refine lv_iload_n (pc := 74) hx hb dX9_closes_74 rfl (lv_at hl 2 rfl) ?_
      refine lv_iload_n (pc := 75) hx hb dX9_closes_75 rfl (lv_at hl 3 rfl) ?_
      refine lv_iload (pc := 76) hx hb dX9_closes_76 (lv_at hl 8 rfl) ?_
      refine lv_iload_n (pc := 78) hx hb dX9_closes_78 rfl (lv_at hl 4 rfl) ?_
      refine Rcalli (rest := []) (RrunV (pc := 79) X w (okX9_costOf l hJ h) kw571 kmX9_costOf ⟨rfl, rfl⟩ ⟨by decide, by decide⟩ (Rrv_0 X w) rfl hl.1 rfl (Nat.le_of_ble_eq_true rfl) dX9_closes_79) w (fun r1 u9_ H locs h w => ?_)
      obtain ⟨rfl, h⟩ := h
      refine lv_aload_n (pc := 82) hx hb dX9_closes_82 rfl (lv_at hl 1 rfl) ?_
      refine lv_iload_n (pc := 83) hx hb dX9_closes_83 rfl (lv_at hl 2 rfl) ?_
      refine lv_iload_n (pc := 84) hx hb dX9_closes_84 rfl (lv_at hl 3 rfl) ?_
      refine lv_iload (pc := 85) hx hb dX9_closes_85 (lv_at hl 7 rfl) ?_
      refine lv_iload_n (pc := 87) hx hb dX9_closes_87 rfl (lv_at hl 4 rfl) ?_
      refine Rcalli (rest := [.int r1]) (RrunV (pc := 88) X w (okX9_costOf l hJ h) kw571 kmX9_costOf ⟨rfl, rfl⟩ ⟨by decide, by decide⟩ (Rrv_0 X w) rfl hl.1 rfl (Nat.le_of_ble_eq_true rfl) dX9_closes_88) w (fun r2 u9_ H locs h w => ?_)
      obtain ⟨rfl, h⟩ := h
      refine lv_icmp_ge (pc := 91) (tgt := 98) hx hb dX9_closes_91 (by decide) (fun c_ => ?_) (fun c_ => ?_)
      · have h := h.1 c_
        refine lv_iconst (pc := 98) (v := (0 : Int32)) hx hb dX9_closes_98 (by decide) ?_
        refine bX9_closes_99 X ?_ u x1 x2 x3 x4 x5 x7 x8 y0 (0 : Int32) H locs ls h w (lv_sub hl [1, 2, 3, 4, 5, 6, 7, 8, 0] rfl)
        · intro u x1 x2 x3 x4 x5 x7 x8 H locs ls h w hl
          exact hk28 u x1 x2 x3 x4 x5 x7 x8 H locs ls h w (lv_sub hl [0, 1, 2, 3, 4, 5, 6, 7] rfl)
      · have h := h.2 c_
        refine lv_iconst (pc := 94) (v := (1 : Int32)) hx hb dX9_closes_94 (by decide) ?_
        refine lv_goto (pc := 95) (tgt := 99) hx hb dX9_closes_95 (by decide) ?_
        refine bX9_closes_99 X ?_ u x1 x2 x3 x4 x5 x7 x8 y0 (1 : Int32) H locs ls h w (lv_sub hl [1, 2, 3, 4, 5, 6, 7, 8, 0] rfl)
        · intro u x1 x2 x3 x4 x5 x7 x8 H locs ls h w hl
          exact hk28 u x1 x2 x3 x4 x5 x7 x8 H locs ls h w (lv_sub hl [0, 1, 2, 3, 4, 5, 6, 7] rfl)
set_option maxHeartbeats 4000000 in
set_option maxRecDepth 100000 in
theorem bX9_closes_301 {l : Launch} {p : Program} {e : Env} {s : State} {m : MethodId} {args : Array Value} {below : List Frame} {meth : Method} {c : Code} {D : va_G} {g : Nat → ClassId} {ad : Nat → Nat} {Q : Mm → Prop} {k201 : Mm → Int32 → Int32 → Int32 → Int32 → Int64 → Int32 → Int32 → Prop} (X : RX p s m args meth c cX9_closes RX9 12 none (Cond.code yX9_closes cX9_closes 12 none) D g ad (RA ad)) (hk201 : ∀ (u : Mm) (x1 : Int32) (x2 : Int32) (x3 : Int32) (x4 : Int32) (x5 : Int64) (x7 : Int32) (x8 : Int32) (H : Heap) (locs : List Loc) (ls : Array Slot), k201 u x1 x2 x3 x4 x5 x7 x8 → RWd D g ad (RA ad) s u H locs → lv_has ls 12 [(0, .ref (ad 0)), (1, .int x1), (2, .int x2), (3, .int x3), (4, .int x4), (5, .long x5), (7, .int x7), (8, .int x8)] → W p l e ({ frames := 2, cells := 0, slots := 0, locals := 55 } : Room) s m args below meth c H locs 0 0 (MQ below (va_Qv Q (RB D g ad) (RA ad)) args s 0 0 (RA ad)) (F0 m 201 ls [])) : ∀ (u : Mm) (x1 : Int32) (x2 : Int32) (x3 : Int32) (x4 : Int32) (x5 : Int64) (x7 : Int32) (x8 : Int32) (x9 : Int64) (y0 : Int64) (y1 : Int32) (H : Heap) (locs : List Loc) (ls : Array Slot), wX9_closes_b301 k201 Q u x1 x2 x3 x4 x5 x7 x8 x9 y0 y1 → RWd D g ad (RA ad) s u H locs → lv_has ls 12 [(0, .ref (ad 0)), (1, .int x1), (2, .int x2), (3, .int x3), (4, .int x4), (5, .long x5), (7, .int x7), (8, .int x8), (9, .long x9)] → W p l e ({ frames := 2, cells := 0, slots := 0, locals := 55 } : Room) s m args below meth c H locs 0 0 (MQ below (va_Qv Q (RB D g ad) (RA ad)) args s 0 0 (RA ad)) (F0 m 301 ls [.long y0, .int y1, .ref (ad 15)]) := by
  obtain ⟨⟨hx, hb, hml, hown, hts⟩, hr, hlocks, hK, hJ, hAA⟩ := id X
  intro u x1 x2 x3 x4 x5 x7 x8 x9 y0 y1 H locs ls h w hl
  unfold wX9_closes_b301 at h
  refine Rst_15 (pc := 301) X w h.1 dX9_closes_301 (fun H locs w => ?_)
  have h := h.2
  obtain ⟨u1, e_⟩ : ∃ y : Mm, y = s64 u 15 y1.toNatClampNeg y0 := ⟨_, rfl⟩
  rw [← e_] at w
  have h := h u1 e_
  refine lv_aload_n (pc := 302) hx hb dX9_closes_302 rfl (lv_at hl 0 rfl) ?_
  refine Rgf_0_20 (pc := 303) X w kw570 dX9_closes_303 ?_
  refine lv_iload (pc := 306) hx hb dX9_closes_306 (lv_at hl 4 rfl) ?_
  refine lv_dup2_11 (pc := 308) hx hb dX9_closes_308 rfl rfl ?_
  refine Rld_16 (pc := 309) X w h.1 dX9_closes_309 ?_
  have h := h.2
  refine lv_lload (pc := 310) hx hb dX9_closes_310 (lv_at hl 8 rfl) ?_
  refine Rcalll (rest := [.long (u1.2 16 x4.toNatClampNeg), .int x4, .ref (ad 16)]) (RrunS (pc := 312) X w (okX9_amount l hJ h) kw578 kmX9_amount ⟨rfl, rfl⟩ ⟨by decide, by decide⟩ rfl hl.1 rfl (Nat.le_of_ble_eq_true rfl) dX9_closes_312) w (fun r2 u9_ H locs h w => ?_)
  obtain ⟨rfl, h⟩ := h
  refine lv_ladd (pc := 315) hx hb dX9_closes_315 ?_
  refine Rst_16 (pc := 316) X w h.1 dX9_closes_316 (fun H locs w => ?_)
  have h := h.2
  obtain ⟨u3, e_⟩ : ∃ y : Mm, y = s64 u1 16 x4.toNatClampNeg ((u1.2 16 x4.toNatClampNeg) + r2) := ⟨_, rfl⟩
  rw [← e_] at w
  have h := h u3 e_
  obtain ⟨x8_4, e_⟩ : ∃ y : Int32, y = x8 + (1 : Int32) := ⟨_, rfl⟩
  have h := h x8_4 e_
  refine lv_iinc (pc := 317) (v := x8_4) (lv' := [(8, .int x8_4), (0, .ref (ad 0)), (1, .int x1), (2, .int x2), (3, .int x3), (4, .int x4), (5, .long x5), (7, .int x7), (9, .long x9)]) hx hb dX9_closes_317 hl (k := 7) rfl (by rw [e_]; rfl) (by decide) rfl (fun ls hl => ?_)
  refine lv_goto (pc := 320) (tgt := 201) hx hb dX9_closes_320 (by decide) ?_
  exact hk201 u3 x1 x2 x3 x4 x5 x7 x8_4 H locs ls h w (lv_sub hl [1, 2, 3, 4, 5, 6, 7, 0] rfl)
set_option maxHeartbeats 4000000 in
set_option maxRecDepth 100000 in
theorem bX9_closes_249 {l : Launch} {p : Program} {e : Env} {s : State} {m : MethodId} {args : Array Value} {below : List Frame} {meth : Method} {c : Code} {D : va_G} {g : Nat → ClassId} {ad : Nat → Nat} {Q : Mm → Prop} {k201 : Mm → Int32 → Int32 → Int32 → Int32 → Int64 → Int32 → Int32 → Prop} (X : RX p s m args meth c cX9_closes RX9 12 none (Cond.code yX9_closes cX9_closes 12 none) D g ad (RA ad)) (hk201 : ∀ (u : Mm) (x1 : Int32) (x2 : Int32) (x3 : Int32) (x4 : Int32) (x5 : Int64) (x7 : Int32) (x8 : Int32) (H : Heap) (locs : List Loc) (ls : Array Slot), k201 u x1 x2 x3 x4 x5 x7 x8 → RWd D g ad (RA ad) s u H locs → lv_has ls 12 [(0, .ref (ad 0)), (1, .int x1), (2, .int x2), (3, .int x3), (4, .int x4), (5, .long x5), (7, .int x7), (8, .int x8)] → W p l e ({ frames := 2, cells := 0, slots := 0, locals := 55 } : Room) s m args below meth c H locs 0 0 (MQ below (va_Qv Q (RB D g ad) (RA ad)) args s 0 0 (RA ad)) (F0 m 201 ls [])) : ∀ (u : Mm) (x1 : Int32) (x2 : Int32) (x3 : Int32) (x4 : Int32) (x5 : Int64) (x7 : Int32) (x8 : Int32) (y0 : Int64) (H : Heap) (locs : List Loc) (ls : Array Slot), wX9_closes_b249 k201 Q u x1 x2 x3 x4 x5 x7 x8 y0 → RWd D g ad (RA ad) s u H locs → lv_has ls 12 [(0, .ref (ad 0)), (1, .int x1), (2, .int x2), (3, .int x3), (4, .int x4), (5, .long x5), (7, .int x7), (8, .int x8)] → W p l e ({ frames := 2, cells := 0, slots := 0, locals := 55 } : Room) s m args below meth c H locs 0 0 (MQ below (va_Qv Q (RB D g ad) (RA ad)) args s 0 0 (RA ad)) (F0 m 249 ls [.long y0]) := by
  obtain ⟨⟨hx, hb, hml, hown, hts⟩, hr, hlocks, hK, hJ, hAA⟩ := id X
  intro u x1 x2 x3 x4 x5 x7 x8 y0 H locs ls h w hl
  unfold wX9_closes_b249 at h
  refine lv_lstore (pc := 249) (lv' := [(9, .long y0), (0, .ref (ad 0)), (1, .int x1), (2, .int x2), (3, .int x3), (4, .int x4), (5, .long x5), (7, .int x7), (8, .int x8)]) hx hb dX9_closes_249 hl (by decide) rfl (fun ls hl => ?_)
  refine lv_iload_n (pc := 251) hx hb dX9_closes_251 rfl (lv_at hl 2 rfl) ?_
  refine lv_iload_n (pc := 252) hx hb dX9_closes_252 rfl (lv_at hl 3 rfl) ?_
  refine lv_iload (pc := 253) hx hb dX9_closes_253 (lv_at hl 8 rfl) ?_
  refine lv_iload_n (pc := 255) hx hb dX9_closes_255 rfl (lv_at hl 4 rfl) ?_
  refine Rcalli (rest := []) (RrunS (pc := 256) X w (okX9_cellOf l hJ h) kw502 kmX9_cellOf ⟨rfl, rfl⟩ ⟨by decide, by decide⟩ rfl hl.1 rfl (Nat.le_of_ble_eq_true rfl) dX9_closes_256) w (fun r1 u9_ H locs h w => ?_)
  obtain ⟨rfl, h⟩ := h
  refine lv_istore (pc := 259) (lv' := [(11, .int r1), (9, .long y0), (0, .ref (ad 0)), (1, .int x1), (2, .int x2), (3, .int x3), (4, .int x4), (5, .long x5), (7, .int x7), (8, .int x8)]) hx hb dX9_closes_259 hl (by decide) rfl (fun ls hl => ?_)
  refine lv_aload_n (pc := 261) hx hb dX9_closes_261 rfl (lv_at hl 2 rfl) ?_
  refine Rgf_0_19 (pc := 262) X w kw576 dX9_closes_262 ?_
  refine lv_iload (pc := 265) hx hb dX9_closes_265 (lv_at hl 0 rfl) ?_
  refine lv_aload_n (pc := 267) hx hb dX9_closes_267 rfl (lv_at hl 2 rfl) ?_
  refine Rgf_0_12 (pc := 268) X w kw563 dX9_closes_268 ?_
  refine lv_iload (pc := 271) hx hb dX9_closes_271 (lv_at hl 9 rfl) ?_
  refine Rld_9 (pc := 273) X w h.1 dX9_closes_273 ?_
  have h := h.2
  refine lv_iconst (pc := 274) (v := (1 : Int32)) hx hb dX9_closes_274 (by decide) ?_
  refine lv_icmp_ne (pc := 275) (tgt := 291) hx hb dX9_closes_275 (by decide) (fun c_ => ?_) (fun c_ => ?_)
  · have h := h.2 c_
    refine lv_aload_n (pc := 291) hx hb dX9_closes_291 rfl (lv_at hl 2 rfl) ?_
    refine Rgf_0_16 (pc := 292) X w kw557 dX9_closes_292 ?_
    refine lv_iload (pc := 295) hx hb dX9_closes_295 (lv_at hl 0 rfl) ?_
    refine Rld_13 (pc := 297) X w h.1 dX9_closes_297 ?_
    have h := h.2
    refine lv_lload (pc := 298) hx hb dX9_closes_298 (lv_at hl 1 rfl) ?_
    refine lv_ladd (pc := 300) hx hb dX9_closes_300 ?_
    refine bX9_closes_301 X ?_ u x1 x2 x3 x4 x5 x7 x8 y0 ((u.2 13 r1.toNatClampNeg) + y0) r1 H locs ls h w (lv_sub hl [2, 3, 4, 5, 6, 7, 8, 9, 1] rfl)
    · intro u x1 x2 x3 x4 x5 x7 x8 H locs ls h w hl
      exact hk201 u x1 x2 x3 x4 x5 x7 x8 H locs ls h w (lv_sub hl [0, 1, 2, 3, 4, 5, 6, 7] rfl)
  · have h := h.1 c_
    refine lv_aload_n (pc := 278) hx hb dX9_closes_278 rfl (lv_at hl 2 rfl) ?_
    refine Rgf_0_16 (pc := 279) X w kw557 dX9_closes_279 ?_
    refine lv_iload (pc := 282) hx hb dX9_closes_282 (lv_at hl 0 rfl) ?_
    refine Rld_13 (pc := 284) X w h.1 dX9_closes_284 ?_
    have h := h.2
    refine lv_lload (pc := 285) hx hb dX9_closes_285 (lv_at hl 1 rfl) ?_
    refine lv_lsub (pc := 287) hx hb dX9_closes_287 ?_
    refine lv_goto (pc := 288) (tgt := 301) hx hb dX9_closes_288 (by decide) ?_
    refine bX9_closes_301 X ?_ u x1 x2 x3 x4 x5 x7 x8 y0 ((u.2 13 r1.toNatClampNeg) - y0) r1 H locs ls h w (lv_sub hl [2, 3, 4, 5, 6, 7, 8, 9, 1] rfl)
    · intro u x1 x2 x3 x4 x5 x7 x8 H locs ls h w hl
      exact hk201 u x1 x2 x3 x4 x5 x7 x8 H locs ls h w (lv_sub hl [0, 1, 2, 3, 4, 5, 6, 7] rfl)
set_option maxHeartbeats 4000000 in
set_option maxRecDepth 100000 in
theorem bX9_closes_201 {l : Launch} {p : Program} {e : Env} {s : State} {m : MethodId} {args : Array Value} {below : List Frame} {meth : Method} {c : Code} {D : va_G} {g : Nat → ClassId} {ad : Nat → Nat} {Q : Mm → Prop} (X : RX p s m args meth c cX9_closes RX9 12 none (Cond.code yX9_closes cX9_closes 12 none) D g ad (RA ad)) : ∀ (n : Nat) (u : Mm) (x1 : Int32) (x2 : Int32) (x3 : Int32) (x4 : Int32) (x5 : Int64) (x7 : Int32) (x8 : Int32) (H : Heap) (locs : List Loc) (ls : Array Slot), wX9_closes_b201 Q n u x1 x2 x3 x4 x5 x7 x8 → RWd D g ad (RA ad) s u H locs → lv_has ls 12 [(0, .ref (ad 0)), (1, .int x1), (2, .int x2), (3, .int x3), (4, .int x4), (5, .long x5), (7, .int x7), (8, .int x8)] → W p l e ({ frames := 2, cells := 0, slots := 0, locals := 55 } : Room) s m args below meth c H locs 0 0 (MQ below (va_Qv Q (RB D g ad) (RA ad)) args s 0 0 (RA ad)) (F0 m 201 ls []) := by
  obtain ⟨⟨hx, hb, hml, hown, hts⟩, hr, hlocks, hK, hJ, hAA⟩ := id X
  intro n
  induction n with
  | zero =>
    intro u x1 x2 x3 x4 x5 x7 x8 H locs ls h
    exact False.elim h
  | succ n ih =>
    intro u x1 x2 x3 x4 x5 x7 x8 H locs ls h w hl
    unfold wX9_closes_b201 at h
    refine lv_iload (pc := 201) hx hb dX9_closes_201 (lv_at hl 7 rfl) ?_
    refine lv_bipush (pc := 203) (v := (6 : Int32)) hx hb dX9_closes_203 (by decide) ?_
    refine lv_icmp_ge (pc := 205) (tgt := 323) hx hb dX9_closes_205 (by decide) (fun c_ => ?_) (fun c_ => ?_)
    · have h := h.1 c_
      exact Rvret (pc := 323) X w h dX9_closes_323
    · have h := h.2 c_
      refine lv_iload (pc := 208) hx hb dX9_closes_208 (lv_at hl 6 rfl) ?_
      refine lv_iconst (pc := 210) (v := (-1 : Int32)) hx hb dX9_closes_210 (by decide) ?_
      refine lv_icmp_ne (pc := 211) (tgt := 218) hx hb dX9_closes_211 (by decide) (fun c_ => ?_) (fun c_ => ?_)
      · have h := h.2 c_
        refine lv_aload_n (pc := 218) hx hb dX9_closes_218 rfl (lv_at hl 0 rfl) ?_
        refine Rgf_0_18 (pc := 219) X w kw575 dX9_closes_219 ?_
        refine lv_iconst (pc := 222) (v := (1 : Int32)) hx hb dX9_closes_222 (by decide) ?_
        refine lv_icmp_ne (pc := 223) (tgt := 236) hx hb dX9_closes_223 (by decide) (fun c_ => ?_) (fun c_ => ?_)
        · have h := h.2 c_
          refine lv_iload (pc := 236) hx hb dX9_closes_236 (lv_at hl 7 rfl) ?_
          refine lv_iload (pc := 238) hx hb dX9_closes_238 (lv_at hl 6 rfl) ?_
          refine lv_icmp_ne (pc := 240) (tgt := 248) hx hb dX9_closes_240 (by decide) (fun c_ => ?_) (fun c_ => ?_)
          · have h := h.2 c_
            refine lv_lconst (pc := 248) (v := (0 : Int64)) hx hb dX9_closes_248 (by decide) ?_
            refine bX9_closes_249 X ?_ u x1 x2 x3 x4 x5 x7 x8 (0 : Int64) H locs ls h w (lv_sub hl [0, 1, 2, 3, 4, 5, 6, 7] rfl)
            · intro u x1 x2 x3 x4 x5 x7 x8 H locs ls h w hl
              exact ih u x1 x2 x3 x4 x5 x7 x8 H locs ls h w (lv_sub hl [0, 1, 2, 3, 4, 5, 6, 7] rfl)
          · have h := h.1 c_
            refine lv_lload (pc := 243) hx hb dX9_closes_243 (lv_at hl 5 rfl) ?_
            refine lv_goto (pc := 245) (tgt := 249) hx hb dX9_closes_245 (by decide) ?_
            refine bX9_closes_249 X ?_ u x1 x2 x3 x4 x5 x7 x8 x5 H locs ls h w (lv_sub hl [0, 1, 2, 3, 4, 5, 6, 7] rfl)
            · intro u x1 x2 x3 x4 x5 x7 x8 H locs ls h w hl
              exact ih u x1 x2 x3 x4 x5 x7 x8 H locs ls h w (lv_sub hl [0, 1, 2, 3, 4, 5, 6, 7] rfl)
        · have h := h.1 c_
          refine lv_aload_n (pc := 226) hx hb dX9_closes_226 rfl (lv_at hl 0 rfl) ?_
          refine Rgf_0_14 (pc := 227) X w kw545 dX9_closes_227 ?_
          refine lv_iload (pc := 230) hx hb dX9_closes_230 (lv_at hl 7 rfl) ?_
          refine Rld_11 (pc := 232) X w h.1 dX9_closes_232 ?_
          have h := h.2
          refine lv_goto (pc := 233) (tgt := 249) hx hb dX9_closes_233 (by decide) ?_
          refine bX9_closes_249 X ?_ u x1 x2 x3 x4 x5 x7 x8 (u.2 11 x8.toNatClampNeg) H locs ls h w (lv_sub hl [0, 1, 2, 3, 4, 5, 6, 7] rfl)
          · intro u x1 x2 x3 x4 x5 x7 x8 H locs ls h w hl
            exact ih u x1 x2 x3 x4 x5 x7 x8 H locs ls h w (lv_sub hl [0, 1, 2, 3, 4, 5, 6, 7] rfl)
      · have h := h.1 c_
        refine lv_lconst (pc := 214) (v := (0 : Int64)) hx hb dX9_closes_214 (by decide) ?_
        refine lv_goto (pc := 215) (tgt := 249) hx hb dX9_closes_215 (by decide) ?_
        refine bX9_closes_249 X ?_ u x1 x2 x3 x4 x5 x7 x8 (0 : Int64) H locs ls h w (lv_sub hl [0, 1, 2, 3, 4, 5, 6, 7] rfl)
        · intro u x1 x2 x3 x4 x5 x7 x8 H locs ls h w hl
          exact ih u x1 x2 x3 x4 x5 x7 x8 H locs ls h w (lv_sub hl [0, 1, 2, 3, 4, 5, 6, 7] rfl)
set_option maxHeartbeats 4000000 in
set_option maxRecDepth 100000 in
theorem bX9_closes_175 {l : Launch} {p : Program} {e : Env} {s : State} {m : MethodId} {args : Array Value} {below : List Frame} {meth : Method} {c : Code} {D : va_G} {g : Nat → ClassId} {ad : Nat → Nat} {Q : Mm → Prop} (X : RX p s m args meth c cX9_closes RX9 12 none (Cond.code yX9_closes cX9_closes 12 none) D g ad (RA ad)) : ∀ (u : Mm) (x1 : Int32) (x2 : Int32) (x3 : Int32) (x4 : Int32) (x5 : Int64) (x7 : Int32) (y0 : Int32) (y1 : Int32) (H : Heap) (locs : List Loc) (ls : Array Slot), wX9_closes_b175 Q u x1 x2 x3 x4 x5 x7 y0 y1 → RWd D g ad (RA ad) s u H locs → lv_has ls 12 [(0, .ref (ad 0)), (1, .int x1), (2, .int x2), (3, .int x3), (4, .int x4), (5, .long x5), (7, .int x7)] → W p l e ({ frames := 2, cells := 0, slots := 0, locals := 55 } : Room) s m args below meth c H locs 0 0 (MQ below (va_Qv Q (RB D g ad) (RA ad)) args s 0 0 (RA ad)) (F0 m 175 ls [.int y0, .int y1, .ref (ad 17)]) := by
  obtain ⟨⟨hx, hb, hml, hown, hts⟩, hr, hlocks, hK, hJ, hAA⟩ := id X
  intro u x1 x2 x3 x4 x5 x7 y0 y1 H locs ls h w hl
  unfold wX9_closes_b175 at h
  refine Rst_17 (pc := 175) X w h.1 dX9_closes_175 (fun H locs w => ?_)
  have h := h.2
  obtain ⟨u1, e_⟩ : ∃ y : Mm, y = s32 u 17 y1.toNatClampNeg (vp_nar .boolean y0) := ⟨_, rfl⟩
  rw [← e_] at w
  have h := h u1 e_
  refine lv_aload_n (pc := 176) hx hb dX9_closes_176 rfl (lv_at hl 0 rfl) ?_
  refine Rgf_0_20 (pc := 177) X w kw570 dX9_closes_177 ?_
  refine lv_iload (pc := 180) hx hb dX9_closes_180 (lv_at hl 4 rfl) ?_
  refine lv_lconst (pc := 182) (v := (0 : Int64)) hx hb dX9_closes_182 (by decide) ?_
  refine Rst_16 (pc := 183) X w h.1 dX9_closes_183 (fun H locs w => ?_)
  have h := h.2
  obtain ⟨u2, e_⟩ : ∃ y : Mm, y = s64 u1 16 x4.toNatClampNeg (0 : Int64) := ⟨_, rfl⟩
  rw [← e_] at w
  have h := h u2 e_
  refine lv_iload (pc := 184) hx hb dX9_closes_184 (lv_at hl 6 rfl) ?_
  refine lv_iconst (pc := 186) (v := (-1 : Int32)) hx hb dX9_closes_186 (by decide) ?_
  refine lv_icmp_eq (pc := 187) (tgt := 198) hx hb dX9_closes_187 (by decide) (fun c_ => ?_) (fun c_ => ?_)
  · have h := h.1 c_
    refine lv_iconst (pc := 198) (v := (0 : Int32)) hx hb dX9_closes_198 (by decide) ?_
    refine lv_istore (pc := 199) (lv' := [(8, .int (0 : Int32)), (0, .ref (ad 0)), (1, .int x1), (2, .int x2), (3, .int x3), (4, .int x4), (5, .long x5), (7, .int x7)]) hx hb dX9_closes_199 hl (by decide) rfl (fun ls hl => ?_)
    obtain ⟨n9, h⟩ := h
    exact bX9_closes_201 X n9 u2 x1 x2 x3 x4 x5 x7 (0 : Int32) H locs ls h w (lv_sub hl [1, 2, 3, 4, 5, 6, 7, 0] rfl)
  · have h := h.2 c_
    refine lv_aload_n (pc := 190) hx hb dX9_closes_190 rfl (lv_at hl 0 rfl) ?_
    refine lv_lload (pc := 191) hx hb dX9_closes_191 (lv_at hl 5 rfl) ?_
    refine lv_bipush (pc := 193) (v := (6 : Int32)) hx hb dX9_closes_193 (by decide) ?_
    refine Rcallv (rest := []) (RrunV (pc := 195) X w (okX9_parts l hJ h) kw559 kmX9_parts ⟨rfl, rfl⟩ ⟨by decide, by decide⟩ (Rrv_0 X w) rfl hl.1 rfl (Nat.le_of_ble_eq_true rfl) dX9_closes_195) w (fun u4 H locs h w => ?_)
    refine lv_iconst (pc := 198) (v := (0 : Int32)) hx hb dX9_closes_198 (by decide) ?_
    refine lv_istore (pc := 199) (lv' := [(8, .int (0 : Int32)), (0, .ref (ad 0)), (1, .int x1), (2, .int x2), (3, .int x3), (4, .int x4), (5, .long x5), (7, .int x7)]) hx hb dX9_closes_199 hl (by decide) rfl (fun ls hl => ?_)
    obtain ⟨n9, h⟩ := h
    exact bX9_closes_201 X n9 u4 x1 x2 x3 x4 x5 x7 (0 : Int32) H locs ls h w (lv_sub hl [1, 2, 3, 4, 5, 6, 7, 0] rfl)
set_option maxHeartbeats 4000000 in
set_option maxRecDepth 100000 in
theorem bX9_closes_28 {l : Launch} {p : Program} {e : Env} {s : State} {m : MethodId} {args : Array Value} {below : List Frame} {meth : Method} {c : Code} {D : va_G} {g : Nat → ClassId} {ad : Nat → Nat} {Q : Mm → Prop} (X : RX p s m args meth c cX9_closes RX9 12 none (Cond.code yX9_closes cX9_closes 12 none) D g ad (RA ad)) : ∀ (n : Nat) (u : Mm) (x1 : Int32) (x2 : Int32) (x3 : Int32) (x4 : Int32) (x5 : Int64) (x7 : Int32) (x8 : Int32) (H : Heap) (locs : List Loc) (ls : Array Slot), wX9_closes_b28 Q n u x1 x2 x3 x4 x5 x7 x8 → RWd D g ad (RA ad) s u H locs → lv_has ls 12 [(0, .ref (ad 0)), (1, .int x1), (2, .int x2), (3, .int x3), (4, .int x4), (5, .long x5), (7, .int x7), (8, .int x8)] → W p l e ({ frames := 2, cells := 0, slots := 0, locals := 55 } : Room) s m args below meth c H locs 0 0 (MQ below (va_Qv Q (RB D g ad) (RA ad)) args s 0 0 (RA ad)) (F0 m 28 ls []) := by
  obtain ⟨⟨hx, hb, hml, hown, hts⟩, hr, hlocks, hK, hJ, hAA⟩ := id X
  intro n
  induction n with
  | zero =>
    intro u x1 x2 x3 x4 x5 x7 x8 H locs ls h
    exact False.elim h
  | succ n ih =>
    intro u x1 x2 x3 x4 x5 x7 x8 H locs ls h w hl
    unfold wX9_closes_b28 at h
    refine lv_iload (pc := 28) hx hb dX9_closes_28 (lv_at hl 7 rfl) ?_
    refine lv_bipush (pc := 30) (v := (6 : Int32)) hx hb dX9_closes_30 (by decide) ?_
    refine lv_icmp_ge (pc := 32) (tgt := 151) hx hb dX9_closes_32 (by decide) (fun c_ => ?_) (fun c_ => ?_)
    · have h := h.1 c_
      refine lv_aload_n (pc := 151) hx hb dX9_closes_151 rfl (lv_at hl 0 rfl) ?_
      refine Rgf_0_21 (pc := 152) X w kw568 dX9_closes_152 ?_
      refine lv_iload (pc := 155) hx hb dX9_closes_155 (lv_at hl 4 rfl) ?_
      refine lv_iload (pc := 157) hx hb dX9_closes_157 (lv_at hl 6 rfl) ?_
      refine lv_iconst (pc := 159) (v := (-1 : Int32)) hx hb dX9_closes_159 (by decide) ?_
      refine lv_icmp_ne (pc := 160) (tgt := 174) hx hb dX9_closes_160 (by decide) (fun c_ => ?_) (fun c_ => ?_)
      · have h := h.2 c_
        refine lv_iconst (pc := 174) (v := (0 : Int32)) hx hb dX9_closes_174 (by decide) ?_
        exact bX9_closes_175 X u x1 x2 x3 x4 x5 x7 (0 : Int32) x4 H locs ls h w (lv_sub hl [0, 1, 2, 3, 4, 5, 6] rfl)
      · have h := h.1 c_
        refine lv_lload (pc := 163) hx hb dX9_closes_163 (lv_at hl 5 rfl) ?_
        refine lv_lconst (pc := 165) (v := (0 : Int64)) hx hb dX9_closes_165 (by decide) ?_
        refine lq_eq (pc := 166) (tgt := 174) hx hb dX9_closes_166 dX9_closes_167 (by decide) (fun c_ => ?_) (fun c_ => ?_)
        · have h := h.1 c_
          refine lv_iconst (pc := 174) (v := (0 : Int32)) hx hb dX9_closes_174 (by decide) ?_
          exact bX9_closes_175 X u x1 x2 x3 x4 x5 x7 (0 : Int32) x4 H locs ls h w (lv_sub hl [0, 1, 2, 3, 4, 5, 6] rfl)
        · have h := h.2 c_
          refine lv_iconst (pc := 170) (v := (1 : Int32)) hx hb dX9_closes_170 (by decide) ?_
          refine lv_goto (pc := 171) (tgt := 175) hx hb dX9_closes_171 (by decide) ?_
          exact bX9_closes_175 X u x1 x2 x3 x4 x5 x7 (1 : Int32) x4 H locs ls h w (lv_sub hl [0, 1, 2, 3, 4, 5, 6] rfl)
    · have h := h.2 c_
      refine lv_aload_n (pc := 35) hx hb dX9_closes_35 rfl (lv_at hl 0 rfl) ?_
      refine Rgf_0_17 (pc := 36) X w kw569 dX9_closes_36 ?_
      refine lv_bipush (pc := 39) (v := (24 : Int32)) hx hb dX9_closes_39 (by decide) ?_
      refine lv_iload_n (pc := 41) hx hb dX9_closes_41 rfl (lv_at hl 1 rfl) ?_
      refine lv_imul (pc := 42) hx hb dX9_closes_42 ?_
      refine lv_bipush (pc := 43) (v := (6 : Int32)) hx hb dX9_closes_43 (by decide) ?_
      refine lv_iload_n (pc := 45) hx hb dX9_closes_45 rfl (lv_at hl 2 rfl) ?_
      refine lv_imul (pc := 46) hx hb dX9_closes_46 ?_
      refine lv_iadd (pc := 47) hx hb dX9_closes_47 ?_
      refine lv_iload (pc := 48) hx hb dX9_closes_48 (lv_at hl 7 rfl) ?_
      refine lv_iadd (pc := 50) hx hb dX9_closes_50 ?_
      refine Rld_14 (pc := 51) X w h.1 dX9_closes_51 ?_
      have h := h.2
      refine lv_if_ne (pc := 52) (tgt := 59) hx hb dX9_closes_52 (by decide) (fun c_ => ?_) (fun c_ => ?_)
      · have h := h.2 c_
        refine lv_iconst (pc := 59) (v := (0 : Int32)) hx hb dX9_closes_59 (by decide) ?_
        refine bX9_closes_60 X ?_ u x1 x2 x3 x4 x5 x7 x8 (0 : Int32) H locs ls h w (lv_sub hl [0, 1, 2, 3, 4, 5, 6, 7] rfl)
        · intro u x1 x2 x3 x4 x5 x7 x8 H locs ls h w hl
          exact ih u x1 x2 x3 x4 x5 x7 x8 H locs ls h w (lv_sub hl [0, 1, 2, 3, 4, 5, 6, 7] rfl)
      · have h := h.1 c_
        refine lv_iconst (pc := 55) (v := (1 : Int32)) hx hb dX9_closes_55 (by decide) ?_
        refine lv_goto (pc := 56) (tgt := 60) hx hb dX9_closes_56 (by decide) ?_
        refine bX9_closes_60 X ?_ u x1 x2 x3 x4 x5 x7 x8 (1 : Int32) H locs ls h w (lv_sub hl [0, 1, 2, 3, 4, 5, 6, 7] rfl)
        · intro u x1 x2 x3 x4 x5 x7 x8 H locs ls h w hl
          exact ih u x1 x2 x3 x4 x5 x7 x8 H locs ls h w (lv_sub hl [0, 1, 2, 3, 4, 5, 6, 7] rfl)
set_option maxHeartbeats 4000000 in
set_option maxRecDepth 100000 in
theorem okX9_closes (l : Launch) {D : va_G} {g : Nat → ClassId} {ad : Nat → Nat} (hJ : RJ ad) {u : Mm} {a1 : Int32} {a2 : Int32} {a3 : Int32} {Q : Mm → Prop} (h : wX9_closes u a1 a2 a3 Q) : Met l yX9_closes (Cond.code yX9_closes cX9_closes 12 none :: gt) ({ frames := 2, cells := 0, slots := 0, locals := 55 } : Room) (RPc D g ad u [.ref (ad 0), .int a1, .int a2, .int a3]) (va_Qv Q (RB D g ad) (RA ad)) 0 0 (RA ad) := by
  refine Met.ofW (cc := cX9_closes) (maxL := 12) (ret := none) (by decide) rfl ?_
  intro p e s m args below meth c s₁ B hml hv
  refine Rentry (own := RX9) B hml hv hJ rfl (Nat.le_of_ble_eq_true rfl) (fun ls H locs X w hl => ?_)
  obtain ⟨⟨hx, hb, hml, hown, hts⟩, hr, hlocks, hK, hJ, hAA⟩ := id X
  have hl : lv_has ls 12 [(0, .ref (ad 0)), (1, .int a1), (2, .int a2), (3, .int a3)] := hl
  unfold wX9_closes at h
  refine lv_bipush (pc := 0) (v := (48 : Int32)) hx hb dX9_closes_0 (by decide) ?_
  refine lv_iload_n (pc := 2) hx hb dX9_closes_2 rfl (lv_at hl 1 rfl) ?_
  refine lv_imul (pc := 3) hx hb dX9_closes_3 ?_
  refine lv_bipush (pc := 4) (v := (12 : Int32)) hx hb dX9_closes_4 (by decide) ?_
  refine lv_iload_n (pc := 6) hx hb dX9_closes_6 rfl (lv_at hl 2 rfl) ?_
  refine lv_imul (pc := 7) hx hb dX9_closes_7 ?_
  refine lv_iadd (pc := 8) hx hb dX9_closes_8 ?_
  refine lv_iload_n (pc := 9) hx hb dX9_closes_9 rfl (lv_at hl 3 rfl) ?_
  refine lv_iadd (pc := 10) hx hb dX9_closes_10 ?_
  refine lv_topi (fun x4_1 e_ => ?_)
  have h := h x4_1 e_
  refine lv_istore (pc := 11) (lv' := [(4, .int x4_1), (0, .ref (ad 0)), (1, .int a1), (2, .int a2), (3, .int a3)]) hx hb dX9_closes_11 hl (by decide) rfl (fun ls hl => ?_)
  refine lv_aload_n (pc := 13) hx hb dX9_closes_13 rfl (lv_at hl 1 rfl) ?_
  refine lv_iload_n (pc := 14) hx hb dX9_closes_14 rfl (lv_at hl 2 rfl) ?_
  refine lv_iload_n (pc := 15) hx hb dX9_closes_15 rfl (lv_at hl 3 rfl) ?_
  refine lv_iload_n (pc := 16) hx hb dX9_closes_16 rfl (lv_at hl 4 rfl) ?_
  refine Rcalll (rest := []) (RrunV (pc := 17) X w (okX9_gapOf l hJ h) kw564 kmX9_gapOf ⟨rfl, rfl⟩ ⟨by decide, by decide⟩ (Rrv_0 X w) rfl hl.1 rfl (Nat.le_of_ble_eq_true rfl) dX9_closes_17) w (fun r2 u9_ H locs h w => ?_)
  obtain ⟨rfl, h⟩ := h
  refine lv_lstore (pc := 20) (lv' := [(5, .long r2), (4, .int x4_1), (0, .ref (ad 0)), (1, .int a1), (2, .int a2), (3, .int a3)]) hx hb dX9_closes_20 hl (by decide) rfl (fun ls hl => ?_)
  refine lv_iconst (pc := 22) (v := (-1 : Int32)) hx hb dX9_closes_22 (by decide) ?_
  refine lv_istore (pc := 23) (lv' := [(7, .int (-1 : Int32)), (5, .long r2), (4, .int x4_1), (0, .ref (ad 0)), (1, .int a1), (2, .int a2), (3, .int a3)]) hx hb dX9_closes_23 hl (by decide) rfl (fun ls hl => ?_)
  refine lv_iconst (pc := 25) (v := (0 : Int32)) hx hb dX9_closes_25 (by decide) ?_
  refine lv_istore (pc := 26) (lv' := [(8, .int (0 : Int32)), (7, .int (-1 : Int32)), (5, .long r2), (4, .int x4_1), (0, .ref (ad 0)), (1, .int a1), (2, .int a2), (3, .int a3)]) hx hb dX9_closes_26 hl (by decide) rfl (fun ls hl => ?_)
  obtain ⟨n9, h⟩ := h
  exact bX9_closes_28 X n9 u a1 a2 a3 x4_1 r2 (-1 : Int32) (0 : Int32) H locs ls h w (lv_sub hl [4, 5, 6, 7, 3, 2, 1, 0] rfl)
set_option maxHeartbeats 4000000 in
set_option maxRecDepth 100000 in
theorem bX9_looks_104 {l : Launch} {p : Program} {e : Env} {s : State} {m : MethodId} {args : Array Value} {below : List Frame} {meth : Method} {c : Code} {D : va_G} {g : Nat → ClassId} {ad : Nat → Nat} {Q : Mm → Prop} {k60 : Mm → Int32 → Prop} (X : RX p s m args meth c cX9_looks RX9 2 none (Cond.code yX9_looks cX9_looks 2 none) D g ad (RA ad)) (hk60 : ∀ (u : Mm) (x1 : Int32) (H : Heap) (locs : List Loc) (ls : Array Slot), k60 u x1 → RWd D g ad (RA ad) s u H locs → lv_has ls 2 [(0, .ref (ad 0)), (1, .int x1)] → W p l e ({ frames := 3, cells := 0, slots := 0, locals := 86 } : Room) s m args below meth c H locs 0 0 (MQ below (va_Qv Q (RB D g ad) (RA ad)) args s 0 0 (RA ad)) (F0 m 60 ls [])) : ∀ (u : Mm) (x1 : Int32) (y0 : Int32) (y1 : Int32) (H : Heap) (locs : List Loc) (ls : Array Slot), wX9_looks_b104 k60 Q u x1 y0 y1 → RWd D g ad (RA ad) s u H locs → lv_has ls 2 [(0, .ref (ad 0)), (1, .int x1)] → W p l e ({ frames := 3, cells := 0, slots := 0, locals := 86 } : Room) s m args below meth c H locs 0 0 (MQ below (va_Qv Q (RB D g ad) (RA ad)) args s 0 0 (RA ad)) (F0 m 104 ls [.int y0, .int y1, .ref (ad 6)]) := by
  obtain ⟨⟨hx, hb, hml, hown, hts⟩, hr, hlocks, hK, hJ, hAA⟩ := id X
  intro u x1 y0 y1 H locs ls h w hl
  unfold wX9_looks_b104 at h
  refine Rst_6 (pc := 104) X w h.1 dX9_looks_104 (fun H locs w => ?_)
  have h := h.2
  obtain ⟨u1, e_⟩ : ∃ y : Mm, y = s32 u 6 y1.toNatClampNeg (vp_nar .boolean y0) := ⟨_, rfl⟩
  rw [← e_] at w
  have h := h u1 e_
  refine lv_aload_n (pc := 105) hx hb dX9_looks_105 rfl (lv_at hl 0 rfl) ?_
  refine Rgf_0_10 (pc := 106) X w kw556 dX9_looks_106 ?_
  refine lv_aload_n (pc := 109) hx hb dX9_looks_109 rfl (lv_at hl 0 rfl) ?_
  refine Rgf_0_3 (pc := 110) X w kw533 dX9_looks_110 ?_
  refine lv_iload_n (pc := 113) hx hb dX9_looks_113 rfl (lv_at hl 1 rfl) ?_
  refine Rld_3 (pc := 114) X w h.1 dX9_looks_114 ?_
  have h := h.2
  refine Rld_8 (pc := 115) X w h.1 dX9_looks_115 ?_
  have h := h.2
  refine lv_if_ne (pc := 116) (tgt := 161) hx hb dX9_looks_116 (by decide) (fun c_ => ?_) (fun c_ => ?_)
  · have h := h.2 c_
    obtain ⟨x1_2, e_⟩ : ∃ y : Int32, y = x1 + (1 : Int32) := ⟨_, rfl⟩
    have h := h x1_2 e_
    refine lv_iinc (pc := 161) (v := x1_2) (lv' := [(1, .int x1_2), (0, .ref (ad 0))]) hx hb dX9_looks_161 hl (k := 1) rfl (by rw [e_]; rfl) (by decide) rfl (fun ls hl => ?_)
    refine lv_goto (pc := 164) (tgt := 60) hx hb dX9_looks_164 (by decide) ?_
    exact hk60 u1 x1_2 H locs ls h w (lv_sub hl [1, 0] rfl)
  · have h := h.1 c_
    refine lv_aload_n (pc := 119) hx hb dX9_looks_119 rfl (lv_at hl 0 rfl) ?_
    refine Rgf_0_9 (pc := 120) X w kw558 dX9_looks_120 ?_
    refine lv_aload_n (pc := 123) hx hb dX9_looks_123 rfl (lv_at hl 0 rfl) ?_
    refine Rgf_0_3 (pc := 124) X w kw533 dX9_looks_124 ?_
    refine lv_iload_n (pc := 127) hx hb dX9_looks_127 rfl (lv_at hl 1 rfl) ?_
    refine Rld_3 (pc := 128) X w h.1 dX9_looks_128 ?_
    have h := h.2
    refine lv_aload_n (pc := 129) hx hb dX9_looks_129 rfl (lv_at hl 0 rfl) ?_
    refine lv_aload_n (pc := 130) hx hb dX9_looks_130 rfl (lv_at hl 0 rfl) ?_
    refine Rgf_0_3 (pc := 131) X w kw533 dX9_looks_131 ?_
    refine lv_iload_n (pc := 134) hx hb dX9_looks_134 rfl (lv_at hl 1 rfl) ?_
    refine Rld_3 (pc := 135) X w h.1 dX9_looks_135 ?_
    have h := h.2
    refine lv_aload_n (pc := 136) hx hb dX9_looks_136 rfl (lv_at hl 0 rfl) ?_
    refine Rgf_0_6 (pc := 137) X w kw582 dX9_looks_137 ?_
    refine lv_bipush (pc := 140) (v := (9 : Int32)) hx hb dX9_looks_140 (by decide) ?_
    refine Rcalll (rest := [.int (u1.1 3 x1.toNatClampNeg), .ref (ad 7)]) (RrunV (pc := 142) X w (okX9_saidBy l hJ h) kw587 kmX9_saidBy ⟨rfl, rfl⟩ ⟨by decide, by decide⟩ (Rrv_0 X w) rfl hl.1 rfl (Nat.le_of_ble_eq_true rfl) dX9_looks_142) w (fun r3 u4 H locs h w => ?_)
    refine Rst_7 (pc := 145) X w h.1 dX9_looks_145 (fun H locs w => ?_)
    have h := h.2
    obtain ⟨u5, e_⟩ : ∃ y : Mm, y = s64 u4 7 (u1.1 3 x1.toNatClampNeg).toNatClampNeg r3 := ⟨_, rfl⟩
    rw [← e_] at w
    have h := h u5 e_
    refine lv_aload_n (pc := 146) hx hb dX9_looks_146 rfl (lv_at hl 0 rfl) ?_
    refine Rgf_0_10 (pc := 147) X w kw556 dX9_looks_147 ?_
    refine lv_aload_n (pc := 150) hx hb dX9_looks_150 rfl (lv_at hl 0 rfl) ?_
    refine Rgf_0_3 (pc := 151) X w kw533 dX9_looks_151 ?_
    refine lv_iload_n (pc := 154) hx hb dX9_looks_154 rfl (lv_at hl 1 rfl) ?_
    refine Rld_3 (pc := 155) X w h.1 dX9_looks_155 ?_
    have h := h.2
    refine lv_aload_n (pc := 156) hx hb dX9_looks_156 rfl (lv_at hl 0 rfl) ?_
    refine Rgf_0_11 (pc := 157) X w kw540 dX9_looks_157 ?_
    refine Rst_8 (pc := 160) X w h.1 dX9_looks_160 (fun H locs w => ?_)
    have h := h.2
    obtain ⟨u6, e_⟩ : ∃ y : Mm, y = s32 u5 8 (u5.1 3 x1.toNatClampNeg).toNatClampNeg (u5.1 111 0) := ⟨_, rfl⟩
    rw [← e_] at w
    have h := h u6 e_
    obtain ⟨x1_7, e_⟩ : ∃ y : Int32, y = x1 + (1 : Int32) := ⟨_, rfl⟩
    have h := h x1_7 e_
    refine lv_iinc (pc := 161) (v := x1_7) (lv' := [(1, .int x1_7), (0, .ref (ad 0))]) hx hb dX9_looks_161 hl (k := 1) rfl (by rw [e_]; rfl) (by decide) rfl (fun ls hl => ?_)
    refine lv_goto (pc := 164) (tgt := 60) hx hb dX9_looks_164 (by decide) ?_
    exact hk60 u6 x1_7 H locs ls h w (lv_sub hl [1, 0] rfl)
set_option maxHeartbeats 4000000 in
set_option maxRecDepth 100000 in
theorem bX9_looks_207 {l : Launch} {p : Program} {e : Env} {s : State} {m : MethodId} {args : Array Value} {below : List Frame} {meth : Method} {c : Code} {D : va_G} {g : Nat → ClassId} {ad : Nat → Nat} {Q : Mm → Prop} (X : RX p s m args meth c cX9_looks RX9 2 none (Cond.code yX9_looks cX9_looks 2 none) D g ad (RA ad)) : ∀ (n : Nat) (u : Mm) (x1 : Int32) (H : Heap) (locs : List Loc) (ls : Array Slot), wX9_looks_b207 Q n u x1 → RWd D g ad (RA ad) s u H locs → lv_has ls 2 [(0, .ref (ad 0)), (1, .int x1)] → W p l e ({ frames := 3, cells := 0, slots := 0, locals := 86 } : Room) s m args below meth c H locs 0 0 (MQ below (va_Qv Q (RB D g ad) (RA ad)) args s 0 0 (RA ad)) (F0 m 207 ls []) := by
  obtain ⟨⟨hx, hb, hml, hown, hts⟩, hr, hlocks, hK, hJ, hAA⟩ := id X
  intro n
  induction n with
  | zero =>
    intro u x1 H locs ls h
    exact False.elim h
  | succ n ih =>
    intro u x1 H locs ls h w hl
    unfold wX9_looks_b207 at h
    refine lv_iload_n (pc := 207) hx hb dX9_looks_207 rfl (lv_at hl 1 rfl) ?_
    refine lv_bipush (pc := 208) (v := (96 : Int32)) hx hb dX9_looks_208 (by decide) ?_
    refine lv_icmp_ge (pc := 210) (tgt := 237) hx hb dX9_looks_210 (by decide) (fun c_ => ?_) (fun c_ => ?_)
    · have h := h.1 c_
      refine lv_aload_n (pc := 237) hx hb dX9_looks_237 rfl (lv_at hl 0 rfl) ?_
      refine lv_iconst (pc := 238) (v := (1 : Int32)) hx hb dX9_looks_238 (by decide) ?_
      refine Rpf_0_7 (pc := 239) X w kw529 rfl rfl dX9_looks_239 (fun H locs w => ?_)
      obtain ⟨u1, e_⟩ : ∃ y : Mm, y = s32 u 107 0 (1 : Int32) := ⟨_, rfl⟩
      rw [← e_] at w
      have h := h u1 e_
      exact Rvret (pc := 242) X w h dX9_looks_242
    · have h := h.2 c_
      refine lv_aload_n (pc := 213) hx hb dX9_looks_213 rfl (lv_at hl 0 rfl) ?_
      refine lv_iload_n (pc := 214) hx hb dX9_looks_214 rfl (lv_at hl 1 rfl) ?_
      refine lv_bipush (pc := 215) (v := (48 : Int32)) hx hb dX9_looks_215 (by decide) ?_
      refine lv_idiv (pc := 217) hx hb dX9_looks_217 (by decide) ?_
      refine lv_iload_n (pc := 218) hx hb dX9_looks_218 rfl (lv_at hl 1 rfl) ?_
      refine lv_bipush (pc := 219) (v := (12 : Int32)) hx hb dX9_looks_219 (by decide) ?_
      refine lv_idiv (pc := 221) hx hb dX9_looks_221 (by decide) ?_
      refine lv_iconst (pc := 222) (v := (4 : Int32)) hx hb dX9_looks_222 (by decide) ?_
      refine lv_irem (pc := 223) hx hb dX9_looks_223 (by decide) ?_
      refine lv_iload_n (pc := 224) hx hb dX9_looks_224 rfl (lv_at hl 1 rfl) ?_
      refine lv_bipush (pc := 225) (v := (12 : Int32)) hx hb dX9_looks_225 (by decide) ?_
      refine lv_irem (pc := 227) hx hb dX9_looks_227 (by decide) ?_
      refine Rcallv (rest := []) (RrunV (pc := 228) X w (okX9_closes l hJ h) kw591 kmX9_closes ⟨rfl, rfl⟩ ⟨by decide, by decide⟩ (Rrv_0 X w) rfl hl.1 rfl (Nat.le_of_ble_eq_true rfl) dX9_looks_228) w (fun u3 H locs h w => ?_)
      obtain ⟨x1_4, e_⟩ : ∃ y : Int32, y = x1 + (1 : Int32) := ⟨_, rfl⟩
      have h := h x1_4 e_
      refine lv_iinc (pc := 231) (v := x1_4) (lv' := [(1, .int x1_4), (0, .ref (ad 0))]) hx hb dX9_looks_231 hl (k := 1) rfl (by rw [e_]; rfl) (by decide) rfl (fun ls hl => ?_)
      refine lv_goto (pc := 234) (tgt := 207) hx hb dX9_looks_234 (by decide) ?_
      exact ih u3 x1_4 H locs ls h w (lv_sub hl [1, 0] rfl)
set_option maxHeartbeats 4000000 in
set_option maxRecDepth 100000 in
theorem bX9_looks_169 {l : Launch} {p : Program} {e : Env} {s : State} {m : MethodId} {args : Array Value} {below : List Frame} {meth : Method} {c : Code} {D : va_G} {g : Nat → ClassId} {ad : Nat → Nat} {Q : Mm → Prop} (X : RX p s m args meth c cX9_looks RX9 2 none (Cond.code yX9_looks cX9_looks 2 none) D g ad (RA ad)) : ∀ (n : Nat) (u : Mm) (x1 : Int32) (H : Heap) (locs : List Loc) (ls : Array Slot), wX9_looks_b169 Q n u x1 → RWd D g ad (RA ad) s u H locs → lv_has ls 2 [(0, .ref (ad 0)), (1, .int x1)] → W p l e ({ frames := 3, cells := 0, slots := 0, locals := 86 } : Room) s m args below meth c H locs 0 0 (MQ below (va_Qv Q (RB D g ad) (RA ad)) args s 0 0 (RA ad)) (F0 m 169 ls []) := by
  obtain ⟨⟨hx, hb, hml, hown, hts⟩, hr, hlocks, hK, hJ, hAA⟩ := id X
  intro n
  induction n with
  | zero =>
    intro u x1 H locs ls h
    exact False.elim h
  | succ n ih =>
    intro u x1 H locs ls h w hl
    unfold wX9_looks_b169 at h
    refine lv_iload_n (pc := 169) hx hb dX9_looks_169 rfl (lv_at hl 1 rfl) ?_
    refine lv_sipush (pc := 170) (v := (144 : Int32)) hx hb dX9_looks_170 (by decide) ?_
    refine lv_icmp_ge (pc := 173) (tgt := 205) hx hb dX9_looks_173 (by decide) (fun c_ => ?_) (fun c_ => ?_)
    · have h := h.1 c_
      refine lv_iconst (pc := 205) (v := (0 : Int32)) hx hb dX9_looks_205 (by decide) ?_
      refine lv_istore_n (pc := 206) (lv' := [(1, .int (0 : Int32)), (0, .ref (ad 0))]) hx hb dX9_looks_206 rfl hl (by decide) rfl (fun ls hl => ?_)
      obtain ⟨n9, h⟩ := h
      exact bX9_looks_207 X n9 u (0 : Int32) H locs ls h w (lv_sub hl [1, 0] rfl)
    · have h := h.2 c_
      refine lv_aload_n (pc := 176) hx hb dX9_looks_176 rfl (lv_at hl 0 rfl) ?_
      refine lv_iload_n (pc := 177) hx hb dX9_looks_177 rfl (lv_at hl 1 rfl) ?_
      refine lv_bipush (pc := 178) (v := (72 : Int32)) hx hb dX9_looks_178 (by decide) ?_
      refine lv_idiv (pc := 180) hx hb dX9_looks_180 (by decide) ?_
      refine lv_iload_n (pc := 181) hx hb dX9_looks_181 rfl (lv_at hl 1 rfl) ?_
      refine lv_bipush (pc := 182) (v := (18 : Int32)) hx hb dX9_looks_182 (by decide) ?_
      refine lv_idiv (pc := 184) hx hb dX9_looks_184 (by decide) ?_
      refine lv_iconst (pc := 185) (v := (4 : Int32)) hx hb dX9_looks_185 (by decide) ?_
      refine lv_irem (pc := 186) hx hb dX9_looks_186 (by decide) ?_
      refine lv_iload_n (pc := 187) hx hb dX9_looks_187 rfl (lv_at hl 1 rfl) ?_
      refine lv_iconst (pc := 188) (v := (3 : Int32)) hx hb dX9_looks_188 (by decide) ?_
      refine lv_idiv (pc := 189) hx hb dX9_looks_189 (by decide) ?_
      refine lv_bipush (pc := 190) (v := (6 : Int32)) hx hb dX9_looks_190 (by decide) ?_
      refine lv_irem (pc := 192) hx hb dX9_looks_192 (by decide) ?_
      refine lv_iload_n (pc := 193) hx hb dX9_looks_193 rfl (lv_at hl 1 rfl) ?_
      refine lv_iconst (pc := 194) (v := (3 : Int32)) hx hb dX9_looks_194 (by decide) ?_
      refine lv_irem (pc := 195) hx hb dX9_looks_195 (by decide) ?_
      refine Rcallv (rest := []) (RrunV (pc := 196) X w (okX9_bends l hJ h) kw583 kmX9_bends ⟨rfl, rfl⟩ ⟨by decide, by decide⟩ (Rrv_0 X w) rfl hl.1 rfl (Nat.le_of_ble_eq_true rfl) dX9_looks_196) w (fun u2 H locs h w => ?_)
      obtain ⟨x1_3, e_⟩ : ∃ y : Int32, y = x1 + (1 : Int32) := ⟨_, rfl⟩
      have h := h x1_3 e_
      refine lv_iinc (pc := 199) (v := x1_3) (lv' := [(1, .int x1_3), (0, .ref (ad 0))]) hx hb dX9_looks_199 hl (k := 1) rfl (by rw [e_]; rfl) (by decide) rfl (fun ls hl => ?_)
      refine lv_goto (pc := 202) (tgt := 169) hx hb dX9_looks_202 (by decide) ?_
      exact ih u2 x1_3 H locs ls h w (lv_sub hl [1, 0] rfl)
set_option maxHeartbeats 4000000 in
set_option maxRecDepth 100000 in
theorem bX9_looks_60 {l : Launch} {p : Program} {e : Env} {s : State} {m : MethodId} {args : Array Value} {below : List Frame} {meth : Method} {c : Code} {D : va_G} {g : Nat → ClassId} {ad : Nat → Nat} {Q : Mm → Prop} (X : RX p s m args meth c cX9_looks RX9 2 none (Cond.code yX9_looks cX9_looks 2 none) D g ad (RA ad)) : ∀ (n : Nat) (u : Mm) (x1 : Int32) (H : Heap) (locs : List Loc) (ls : Array Slot), wX9_looks_b60 Q n u x1 → RWd D g ad (RA ad) s u H locs → lv_has ls 2 [(0, .ref (ad 0)), (1, .int x1)] → W p l e ({ frames := 3, cells := 0, slots := 0, locals := 86 } : Room) s m args below meth c H locs 0 0 (MQ below (va_Qv Q (RB D g ad) (RA ad)) args s 0 0 (RA ad)) (F0 m 60 ls []) := by
  obtain ⟨⟨hx, hb, hml, hown, hts⟩, hr, hlocks, hK, hJ, hAA⟩ := id X
  intro n
  induction n with
  | zero =>
    intro u x1 H locs ls h
    exact False.elim h
  | succ n ih =>
    intro u x1 H locs ls h w hl
    unfold wX9_looks_b60 at h
    refine lv_iload_n (pc := 60) hx hb dX9_looks_60 rfl (lv_at hl 1 rfl) ?_
    refine lv_aload_n (pc := 61) hx hb dX9_looks_61 rfl (lv_at hl 0 rfl) ?_
    refine Rgf_0_1 (pc := 62) X w kw531 dX9_looks_62 ?_
    refine lv_icmp_ge (pc := 65) (tgt := 167) hx hb dX9_looks_65 (by decide) (fun c_ => ?_) (fun c_ => ?_)
    · have h := h.1 c_
      refine lv_iconst (pc := 167) (v := (0 : Int32)) hx hb dX9_looks_167 (by decide) ?_
      refine lv_istore_n (pc := 168) (lv' := [(1, .int (0 : Int32)), (0, .ref (ad 0))]) hx hb dX9_looks_168 rfl hl (by decide) rfl (fun ls hl => ?_)
      obtain ⟨n9, h⟩ := h
      exact bX9_looks_169 X n9 u (0 : Int32) H locs ls h w (lv_sub hl [1, 0] rfl)
    · have h := h.2 c_
      refine lv_aload_n (pc := 68) hx hb dX9_looks_68 rfl (lv_at hl 0 rfl) ?_
      refine Rgf_0_8 (pc := 69) X w kw581 dX9_looks_69 ?_
      refine lv_iload_n (pc := 72) hx hb dX9_looks_72 rfl (lv_at hl 1 rfl) ?_
      refine lv_aload_n (pc := 73) hx hb dX9_looks_73 rfl (lv_at hl 0 rfl) ?_
      refine lv_aload_n (pc := 74) hx hb dX9_looks_74 rfl (lv_at hl 0 rfl) ?_
      refine Rgf_0_3 (pc := 75) X w kw533 dX9_looks_75 ?_
      refine lv_iload_n (pc := 78) hx hb dX9_looks_78 rfl (lv_at hl 1 rfl) ?_
      refine Rld_3 (pc := 79) X w h.1 dX9_looks_79 ?_
      have h := h.2
      refine lv_aload_n (pc := 80) hx hb dX9_looks_80 rfl (lv_at hl 0 rfl) ?_
      refine Rgf_0_2 (pc := 81) X w kw532 dX9_looks_81 ?_
      refine lv_iload_n (pc := 84) hx hb dX9_looks_84 rfl (lv_at hl 1 rfl) ?_
      refine Rld_2 (pc := 85) X w h.1 dX9_looks_85 ?_
      have h := h.2
      refine lv_aload_n (pc := 86) hx hb dX9_looks_86 rfl (lv_at hl 0 rfl) ?_
      refine Rgf_0_6 (pc := 87) X w kw582 dX9_looks_87 ?_
      refine lv_bipush (pc := 90) (v := (9 : Int32)) hx hb dX9_looks_90 (by decide) ?_
      refine Rcalli (rest := [.int x1, .ref (ad 6)]) (RrunV (pc := 92) X w (okX9_countingRow l hJ h) kw541 kmX9_countingRow ⟨rfl, rfl⟩ ⟨by decide, by decide⟩ (Rrv_0 X w) rfl hl.1 rfl (Nat.le_of_ble_eq_true rfl) dX9_looks_92) w (fun r1 u9_ H locs h w => ?_)
      obtain ⟨rfl, h⟩ := h
      refine lv_iload_n (pc := 95) hx hb dX9_looks_95 rfl (lv_at hl 1 rfl) ?_
      refine lv_icmp_ne (pc := 96) (tgt := 103) hx hb dX9_looks_96 (by decide) (fun c_ => ?_) (fun c_ => ?_)
      · have h := h.2 c_
        refine lv_iconst (pc := 103) (v := (0 : Int32)) hx hb dX9_looks_103 (by decide) ?_
        refine bX9_looks_104 X ?_ u x1 (0 : Int32) x1 H locs ls h w (lv_sub hl [0, 1] rfl)
        · intro u x1 H locs ls h w hl
          exact ih u x1 H locs ls h w (lv_sub hl [0, 1] rfl)
      · have h := h.1 c_
        refine lv_iconst (pc := 99) (v := (1 : Int32)) hx hb dX9_looks_99 (by decide) ?_
        refine lv_goto (pc := 100) (tgt := 104) hx hb dX9_looks_100 (by decide) ?_
        refine bX9_looks_104 X ?_ u x1 (1 : Int32) x1 H locs ls h w (lv_sub hl [0, 1] rfl)
        · intro u x1 H locs ls h w hl
          exact ih u x1 H locs ls h w (lv_sub hl [0, 1] rfl)
set_option maxHeartbeats 4000000 in
set_option maxRecDepth 100000 in
theorem bX9_looks_31 {l : Launch} {p : Program} {e : Env} {s : State} {m : MethodId} {args : Array Value} {below : List Frame} {meth : Method} {c : Code} {D : va_G} {g : Nat → ClassId} {ad : Nat → Nat} {Q : Mm → Prop} (X : RX p s m args meth c cX9_looks RX9 2 none (Cond.code yX9_looks cX9_looks 2 none) D g ad (RA ad)) : ∀ (n : Nat) (u : Mm) (x1 : Int32) (H : Heap) (locs : List Loc) (ls : Array Slot), wX9_looks_b31 Q n u x1 → RWd D g ad (RA ad) s u H locs → lv_has ls 2 [(0, .ref (ad 0)), (1, .int x1)] → W p l e ({ frames := 3, cells := 0, slots := 0, locals := 86 } : Room) s m args below meth c H locs 0 0 (MQ below (va_Qv Q (RB D g ad) (RA ad)) args s 0 0 (RA ad)) (F0 m 31 ls []) := by
  obtain ⟨⟨hx, hb, hml, hown, hts⟩, hr, hlocks, hK, hJ, hAA⟩ := id X
  intro n
  induction n with
  | zero =>
    intro u x1 H locs ls h
    exact False.elim h
  | succ n ih =>
    intro u x1 H locs ls h w hl
    unfold wX9_looks_b31 at h
    refine lv_iload_n (pc := 31) hx hb dX9_looks_31 rfl (lv_at hl 1 rfl) ?_
    refine lv_sipush (pc := 32) (v := (720 : Int32)) hx hb dX9_looks_32 (by decide) ?_
    refine lv_icmp_ge (pc := 35) (tgt := 58) hx hb dX9_looks_35 (by decide) (fun c_ => ?_) (fun c_ => ?_)
    · have h := h.1 c_
      refine lv_iconst (pc := 58) (v := (0 : Int32)) hx hb dX9_looks_58 (by decide) ?_
      refine lv_istore_n (pc := 59) (lv' := [(1, .int (0 : Int32)), (0, .ref (ad 0))]) hx hb dX9_looks_59 rfl hl (by decide) rfl (fun ls hl => ?_)
      obtain ⟨n9, h⟩ := h
      exact bX9_looks_60 X n9 u (0 : Int32) H locs ls h w (lv_sub hl [1, 0] rfl)
    · have h := h.2 c_
      refine lv_aload_n (pc := 38) hx hb dX9_looks_38 rfl (lv_at hl 0 rfl) ?_
      refine Rgf_0_9 (pc := 39) X w kw558 dX9_looks_39 ?_
      refine lv_iload_n (pc := 42) hx hb dX9_looks_42 rfl (lv_at hl 1 rfl) ?_
      refine lv_lconst (pc := 43) (v := (0 : Int64)) hx hb dX9_looks_43 (by decide) ?_
      refine Rst_7 (pc := 44) X w h.1 dX9_looks_44 (fun H locs w => ?_)
      have h := h.2
      obtain ⟨u1, e_⟩ : ∃ y : Mm, y = s64 u 7 x1.toNatClampNeg (0 : Int64) := ⟨_, rfl⟩
      rw [← e_] at w
      have h := h u1 e_
      refine lv_aload_n (pc := 45) hx hb dX9_looks_45 rfl (lv_at hl 0 rfl) ?_
      refine Rgf_0_10 (pc := 46) X w kw556 dX9_looks_46 ?_
      refine lv_iload_n (pc := 49) hx hb dX9_looks_49 rfl (lv_at hl 1 rfl) ?_
      refine lv_iconst (pc := 50) (v := (0 : Int32)) hx hb dX9_looks_50 (by decide) ?_
      refine Rst_8 (pc := 51) X w h.1 dX9_looks_51 (fun H locs w => ?_)
      have h := h.2
      obtain ⟨u2, e_⟩ : ∃ y : Mm, y = s32 u1 8 x1.toNatClampNeg (0 : Int32) := ⟨_, rfl⟩
      rw [← e_] at w
      have h := h u2 e_
      obtain ⟨x1_3, e_⟩ : ∃ y : Int32, y = x1 + (1 : Int32) := ⟨_, rfl⟩
      have h := h x1_3 e_
      refine lv_iinc (pc := 52) (v := x1_3) (lv' := [(1, .int x1_3), (0, .ref (ad 0))]) hx hb dX9_looks_52 hl (k := 1) rfl (by rw [e_]; rfl) (by decide) rfl (fun ls hl => ?_)
      refine lv_goto (pc := 55) (tgt := 31) hx hb dX9_looks_55 (by decide) ?_
      exact ih u2 x1_3 H locs ls h w (lv_sub hl [1, 0] rfl)
set_option maxHeartbeats 4000000 in
set_option maxRecDepth 100000 in
theorem bX9_looks_10 {l : Launch} {p : Program} {e : Env} {s : State} {m : MethodId} {args : Array Value} {below : List Frame} {meth : Method} {c : Code} {D : va_G} {g : Nat → ClassId} {ad : Nat → Nat} {Q : Mm → Prop} (X : RX p s m args meth c cX9_looks RX9 2 none (Cond.code yX9_looks cX9_looks 2 none) D g ad (RA ad)) : ∀ (n : Nat) (u : Mm) (x1 : Int32) (H : Heap) (locs : List Loc) (ls : Array Slot), wX9_looks_b10 Q n u x1 → RWd D g ad (RA ad) s u H locs → lv_has ls 2 [(0, .ref (ad 0)), (1, .int x1)] → W p l e ({ frames := 3, cells := 0, slots := 0, locals := 86 } : Room) s m args below meth c H locs 0 0 (MQ below (va_Qv Q (RB D g ad) (RA ad)) args s 0 0 (RA ad)) (F0 m 10 ls []) := by
  obtain ⟨⟨hx, hb, hml, hown, hts⟩, hr, hlocks, hK, hJ, hAA⟩ := id X
  intro n
  induction n with
  | zero =>
    intro u x1 H locs ls h
    exact False.elim h
  | succ n ih =>
    intro u x1 H locs ls h w hl
    unfold wX9_looks_b10 at h
    refine lv_iload_n (pc := 10) hx hb dX9_looks_10 rfl (lv_at hl 1 rfl) ?_
    refine lv_bipush (pc := 11) (v := (80 : Int32)) hx hb dX9_looks_11 (by decide) ?_
    refine lv_icmp_ge (pc := 13) (tgt := 29) hx hb dX9_looks_13 (by decide) (fun c_ => ?_) (fun c_ => ?_)
    · have h := h.1 c_
      refine lv_iconst (pc := 29) (v := (0 : Int32)) hx hb dX9_looks_29 (by decide) ?_
      refine lv_istore_n (pc := 30) (lv' := [(1, .int (0 : Int32)), (0, .ref (ad 0))]) hx hb dX9_looks_30 rfl hl (by decide) rfl (fun ls hl => ?_)
      obtain ⟨n9, h⟩ := h
      exact bX9_looks_31 X n9 u (0 : Int32) H locs ls h w (lv_sub hl [1, 0] rfl)
    · have h := h.2 c_
      refine lv_aload_n (pc := 16) hx hb dX9_looks_16 rfl (lv_at hl 0 rfl) ?_
      refine Rgf_0_8 (pc := 17) X w kw581 dX9_looks_17 ?_
      refine lv_iload_n (pc := 20) hx hb dX9_looks_20 rfl (lv_at hl 1 rfl) ?_
      refine lv_iconst (pc := 21) (v := (0 : Int32)) hx hb dX9_looks_21 (by decide) ?_
      refine Rst_6 (pc := 22) X w h.1 dX9_looks_22 (fun H locs w => ?_)
      have h := h.2
      obtain ⟨u1, e_⟩ : ∃ y : Mm, y = s32 u 6 x1.toNatClampNeg (vp_nar .boolean (0 : Int32)) := ⟨_, rfl⟩
      rw [← e_] at w
      have h := h u1 e_
      obtain ⟨x1_2, e_⟩ : ∃ y : Int32, y = x1 + (1 : Int32) := ⟨_, rfl⟩
      have h := h x1_2 e_
      refine lv_iinc (pc := 23) (v := x1_2) (lv' := [(1, .int x1_2), (0, .ref (ad 0))]) hx hb dX9_looks_23 hl (k := 1) rfl (by rw [e_]; rfl) (by decide) rfl (fun ls hl => ?_)
      refine lv_goto (pc := 26) (tgt := 10) hx hb dX9_looks_26 (by decide) ?_
      exact ih u1 x1_2 H locs ls h w (lv_sub hl [1, 0] rfl)
set_option maxHeartbeats 4000000 in
set_option maxRecDepth 100000 in
theorem okX9_looks (l : Launch) {D : va_G} {g : Nat → ClassId} {ad : Nat → Nat} (hJ : RJ ad) {u : Mm} {Q : Mm → Prop} (h : wX9_looks u Q) : Met l yX9_looks (Cond.code yX9_looks cX9_looks 2 none :: gt) ({ frames := 3, cells := 0, slots := 0, locals := 86 } : Room) (RPc D g ad u [.ref (ad 0)]) (va_Qv Q (RB D g ad) (RA ad)) 0 0 (RA ad) := by
  refine Met.ofW (cc := cX9_looks) (maxL := 2) (ret := none) (by decide) rfl ?_
  intro p e s m args below meth c s₁ B hml hv
  refine Rentry (own := RX9) B hml hv hJ rfl (Nat.le_of_ble_eq_true rfl) (fun ls H locs X w hl => ?_)
  obtain ⟨⟨hx, hb, hml, hown, hts⟩, hr, hlocks, hK, hJ, hAA⟩ := id X
  have hl : lv_has ls 2 [(0, .ref (ad 0))] := hl
  unfold wX9_looks at h
  refine lv_aload_n (pc := 0) hx hb dX9_looks_0 rfl (lv_at hl 0 rfl) ?_
  refine Rgf_0_7 (pc := 1) X w kw529 dX9_looks_1 ?_
  refine lv_if_eq (pc := 4) (tgt := 8) hx hb dX9_looks_4 (by decide) (fun c_ => ?_) (fun c_ => ?_)
  · have h := h.1 c_
    refine lv_iconst (pc := 8) (v := (0 : Int32)) hx hb dX9_looks_8 (by decide) ?_
    refine lv_istore_n (pc := 9) (lv' := [(1, .int (0 : Int32)), (0, .ref (ad 0))]) hx hb dX9_looks_9 rfl hl (by decide) rfl (fun ls hl => ?_)
    obtain ⟨n9, h⟩ := h
    exact bX9_looks_10 X n9 u (0 : Int32) H locs ls h w (lv_sub hl [1, 0] rfl)
  · have h := h.2 c_
    exact Rvret (pc := 7) X w h dX9_looks_7
set_option maxHeartbeats 4000000 in
set_option maxRecDepth 100000 in
theorem okX9_rowIs (l : Launch) {D : va_G} {g : Nat → ClassId} {ad : Nat → Nat} (hJ : RJ ad) {u : Mm} {a1 : Int32} {a2 : Int32} {Q : Int32 → Mm → Prop} (h : wX9_rowIs u a1 a2 Q) : Met l yX9_rowIs (Cond.code yX9_rowIs cX9_rowIs 3 (some .int) :: gt) ({ frames := 4, cells := 0, slots := 0, locals := 107 } : Room) (RPc D g ad u [.ref (ad 0), .int a1, .int a2]) (va_Qi Q (RB D g ad) (RA ad)) 0 0 (RA ad) := by
  refine Met.ofW (cc := cX9_rowIs) (maxL := 3) (ret := (some .int)) (by decide) rfl ?_
  intro p e s m args below meth c s₁ B hml hv
  refine Rentry (own := RX9) B hml hv hJ rfl (Nat.le_of_ble_eq_true rfl) (fun ls H locs X w hl => ?_)
  obtain ⟨⟨hx, hb, hml, hown, hts⟩, hr, hlocks, hK, hJ, hAA⟩ := id X
  have hl : lv_has ls 3 [(0, .ref (ad 0)), (1, .int a1), (2, .int a2)] := hl
  unfold wX9_rowIs at h
  refine lv_iload_n (pc := 0) hx hb dX9_rowIs_0 rfl (lv_at hl 1 rfl) ?_
  refine lv_i2l (pc := 1) hx hb dX9_rowIs_1 rfl ?_
  refine lv_lconst (pc := 2) (v := (0 : Int64)) hx hb dX9_rowIs_2 (by decide) ?_
  refine lv_aload_n (pc := 3) hx hb dX9_rowIs_3 rfl (lv_at hl 0 rfl) ?_
  refine Rgf_0_1 (pc := 4) X w kw531 dX9_rowIs_4 ?_
  refine lv_iconst (pc := 7) (v := (1 : Int32)) hx hb dX9_rowIs_7 (by decide) ?_
  refine lv_isub (pc := 8) hx hb dX9_rowIs_8 ?_
  refine lv_i2l (pc := 9) hx hb dX9_rowIs_9 rfl ?_
  refine Rcalli (rest := []) (RrunS (pc := 10) X w (okX9_in l hJ h) kw490 kmX9_in ⟨rfl, rfl⟩ ⟨by decide, by decide⟩ rfl hl.1 rfl (Nat.le_of_ble_eq_true rfl) dX9_rowIs_10) w (fun r1 u9_ H locs h w => ?_)
  obtain ⟨hz_r1, h⟩ := h
  obtain ⟨rfl, h⟩ := h
  refine lv_if_ne (pc := 13) (tgt := 19) hx hb dX9_rowIs_13 (by decide) (fun c_ => ?_) (fun c_ => ?_)
  · have h := h.2 c_
    refine lv_aload_n (pc := 19) hx hb dX9_rowIs_19 rfl (lv_at hl 0 rfl) ?_
    refine Rcallv (rest := []) (RrunV (pc := 20) X w (okX9_looks l hJ h) kw595 kmX9_looks ⟨rfl, rfl⟩ ⟨by decide, by decide⟩ (Rrv_0 X w) rfl hl.1 rfl (Nat.le_of_ble_eq_true rfl) dX9_rowIs_20) w (fun u3 H locs h w => ?_)
    refine lv_iload_n (pc := 23) hx hb dX9_rowIs_23 rfl (lv_at hl 2 rfl) ?_
    rcases sw_in a2 4 (by decide) with hs | ⟨js, hjs, hs⟩
    · have h := h.2.2.2.2.2 hs
      refine lv_tableOut (pc := 24) (tgt := 103) hx hb dX9_rowIs_24 hs (by decide) ?_
      refine lv_ldc (pc := 103) (v := (-1000000 : Int32)) hx hb hown (hts _ (List.mem_cons_of_mem _ kw599)) dX9_rowIs_103 ?_
      exact Riret (pc := 105) X w h dX9_rowIs_105
    · rcases (show js = 0 ∨ js = 1 ∨ js = 2 ∨ js = 3 ∨ js = 4 by omega) with rfl | rfl | rfl | rfl | rfl
      · have h := h.1 hs
        refine lv_topi (fun z_ ez_ => ?_)
        rw [hs] at ez_
        subst ez_
        refine lv_tableIn (pc := 24) (tgt := 60) (off := 36) hx hb dX9_rowIs_24 (by decide) (by decide) (by decide +kernel) (by decide) ?_
        refine lv_aload_n (pc := 60) hx hb dX9_rowIs_60 rfl (lv_at hl 0 rfl) ?_
        refine Rgf_0_2 (pc := 61) X w kw532 dX9_rowIs_61 ?_
        refine lv_iload_n (pc := 64) hx hb dX9_rowIs_64 rfl (lv_at hl 1 rfl) ?_
        refine Rld_2 (pc := 65) X w h.1 dX9_rowIs_65 ?_
        have h := h.2
        exact Riret (pc := 66) X w h dX9_rowIs_66
      · have h := h.2.1 hs
        refine lv_topi (fun z_ ez_ => ?_)
        rw [hs] at ez_
        subst ez_
        refine lv_tableIn (pc := 24) (tgt := 67) (off := 43) hx hb dX9_rowIs_24 (by decide) (by decide) (by decide +kernel) (by decide) ?_
        refine lv_aload_n (pc := 67) hx hb dX9_rowIs_67 rfl (lv_at hl 0 rfl) ?_
        refine Rgf_0_3 (pc := 68) X w kw533 dX9_rowIs_68 ?_
        refine lv_iload_n (pc := 71) hx hb dX9_rowIs_71 rfl (lv_at hl 1 rfl) ?_
        refine Rld_3 (pc := 72) X w h.1 dX9_rowIs_72 ?_
        have h := h.2
        exact Riret (pc := 73) X w h dX9_rowIs_73
      · have h := h.2.2.1 hs
        refine lv_topi (fun z_ ez_ => ?_)
        rw [hs] at ez_
        subst ez_
        refine lv_tableIn (pc := 24) (tgt := 74) (off := 50) hx hb dX9_rowIs_24 (by decide) (by decide) (by decide +kernel) (by decide) ?_
        refine lv_aload_n (pc := 74) hx hb dX9_rowIs_74 rfl (lv_at hl 0 rfl) ?_
        refine Rgf_0_4 (pc := 75) X w kw534 dX9_rowIs_75 ?_
        refine lv_iload_n (pc := 78) hx hb dX9_rowIs_78 rfl (lv_at hl 1 rfl) ?_
        refine Rld_4 (pc := 79) X w h.1 dX9_rowIs_79 ?_
        have h := h.2
        exact Riret (pc := 80) X w h dX9_rowIs_80
      · have h := h.2.2.2.1 hs
        refine lv_topi (fun z_ ez_ => ?_)
        rw [hs] at ez_
        subst ez_
        refine lv_tableIn (pc := 24) (tgt := 81) (off := 57) hx hb dX9_rowIs_24 (by decide) (by decide) (by decide +kernel) (by decide) ?_
        refine lv_aload_n (pc := 81) hx hb dX9_rowIs_81 rfl (lv_at hl 0 rfl) ?_
        refine Rgf_0_5 (pc := 82) X w kw535 dX9_rowIs_82 ?_
        refine lv_iload_n (pc := 85) hx hb dX9_rowIs_85 rfl (lv_at hl 1 rfl) ?_
        refine Rld_5 (pc := 86) X w h.1 dX9_rowIs_86 ?_
        have h := h.2
        exact Riret (pc := 87) X w h dX9_rowIs_87
      · have h := h.2.2.2.2.1 hs
        refine lv_topi (fun z_ ez_ => ?_)
        rw [hs] at ez_
        subst ez_
        refine lv_tableIn (pc := 24) (tgt := 88) (off := 64) hx hb dX9_rowIs_24 (by decide) (by decide) (by decide +kernel) (by decide) ?_
        refine lv_aload_n (pc := 88) hx hb dX9_rowIs_88 rfl (lv_at hl 0 rfl) ?_
        refine Rgf_0_8 (pc := 89) X w kw581 dX9_rowIs_89 ?_
        refine lv_iload_n (pc := 92) hx hb dX9_rowIs_92 rfl (lv_at hl 1 rfl) ?_
        refine Rld_6 (pc := 93) X w h.1 dX9_rowIs_93 ?_
        have h := h.2
        refine lv_if_eq (pc := 94) (tgt := 101) hx hb dX9_rowIs_94 (by decide) (fun c_ => ?_) (fun c_ => ?_)
        · have h := h.1 c_
          refine lv_iconst (pc := 101) (v := (0 : Int32)) hx hb dX9_rowIs_101 (by decide) ?_
          exact Riret (pc := 102) X w h dX9_rowIs_102
        · have h := h.2 c_
          refine lv_iconst (pc := 97) (v := (1 : Int32)) hx hb dX9_rowIs_97 (by decide) ?_
          refine lv_goto (pc := 98) (tgt := 102) hx hb dX9_rowIs_98 (by decide) ?_
          exact Riret (pc := 102) X w h dX9_rowIs_102
  · have h := h.1 c_
    refine lv_ldc (pc := 16) (v := (-1000000 : Int32)) hx hb hown (hts _ (List.mem_cons_of_mem _ kw599)) dX9_rowIs_16 ?_
    exact Riret (pc := 18) X w h dX9_rowIs_18
set_option maxHeartbeats 4000000 in
set_option maxRecDepth 100000 in
theorem okX9_asOf (l : Launch) {D : va_G} {g : Nat → ClassId} {ad : Nat → Nat} (hJ : RJ ad) {u : Mm} {a1 : Int32} {Q : Int32 → Mm → Prop} (h : wX9_asOf u a1 Q) : Met l yX9_asOf (Cond.code yX9_asOf cX9_asOf 3 (some .int) :: gt) ({ frames := 1, cells := 0, slots := 0, locals := 25 } : Room) (RPc D g ad u [.ref (ad 0), .int a1]) (va_Qi Q (RB D g ad) (RA ad)) 0 0 (RA ad) := by
  refine Met.ofW (cc := cX9_asOf) (maxL := 3) (ret := (some .int)) (by decide) rfl ?_
  intro p e s m args below meth c s₁ B hml hv
  refine Rentry (own := RX9) B hml hv hJ rfl (Nat.le_of_ble_eq_true rfl) (fun ls H locs X w hl => ?_)
  obtain ⟨⟨hx, hb, hml, hown, hts⟩, hr, hlocks, hK, hJ, hAA⟩ := id X
  have hl : lv_has ls 3 [(0, .ref (ad 0)), (1, .int a1)] := hl
  unfold wX9_asOf at h
  refine lv_iload_n (pc := 0) hx hb dX9_asOf_0 rfl (lv_at hl 1 rfl) ?_
  refine lv_i2l (pc := 1) hx hb dX9_asOf_1 rfl ?_
  refine lv_lconst (pc := 2) (v := (0 : Int64)) hx hb dX9_asOf_2 (by decide) ?_
  refine lv_ldc2 (pc := 3) (v := (9 : Int64)) hx hb hown (hts _ (List.mem_cons_of_mem _ kw527)) dX9_asOf_3 ?_
  refine Rcalli (rest := []) (RrunS (pc := 6) X w (okX9_in l hJ h) kw490 kmX9_in ⟨rfl, rfl⟩ ⟨by decide, by decide⟩ rfl hl.1 rfl (Nat.le_of_ble_eq_true rfl) dX9_asOf_6) w (fun r1 u9_ H locs h w => ?_)
  obtain ⟨hz_r1, h⟩ := h
  obtain ⟨rfl, h⟩ := h
  refine lv_if_ne (pc := 9) (tgt := 15) hx hb dX9_asOf_9 (by decide) (fun c_ => ?_) (fun c_ => ?_)
  · have h := h.2 c_
    refine lv_aload_n (pc := 15) hx hb dX9_asOf_15 rfl (lv_at hl 0 rfl) ?_
    refine Rgf_0_6 (pc := 16) X w kw582 dX9_asOf_16 ?_
    refine lv_topi (fun x2_2 e_ => ?_)
    have h := h x2_2 e_
    refine lv_istore_n (pc := 19) (lv' := [(2, .int x2_2), (0, .ref (ad 0)), (1, .int a1)]) hx hb dX9_asOf_19 rfl hl (by decide) rfl (fun ls hl => ?_)
    refine lv_aload_n (pc := 20) hx hb dX9_asOf_20 rfl (lv_at hl 1 rfl) ?_
    refine lv_iload_n (pc := 21) hx hb dX9_asOf_21 rfl (lv_at hl 2 rfl) ?_
    refine Rpf_0_6 (pc := 22) X w kw582 dX9_asOf_22 (fun H locs w => ?_)
    obtain ⟨u3, e_⟩ : ∃ y : Mm, y = s32 u 106 0 a1 := ⟨_, rfl⟩
    rw [← e_] at w
    have h := h u3 e_
    refine lv_aload_n (pc := 25) hx hb dX9_asOf_25 rfl (lv_at hl 1 rfl) ?_
    refine lv_iconst (pc := 26) (v := (0 : Int32)) hx hb dX9_asOf_26 (by decide) ?_
    refine Rpf_0_7 (pc := 27) X w kw529 rfl rfl dX9_asOf_27 (fun H locs w => ?_)
    obtain ⟨u4, e_⟩ : ∃ y : Mm, y = s32 u3 107 0 (0 : Int32) := ⟨_, rfl⟩
    rw [← e_] at w
    have h := h u4 e_
    refine lv_iload_n (pc := 30) hx hb dX9_asOf_30 rfl (lv_at hl 0 rfl) ?_
    exact Riret (pc := 31) X w h dX9_asOf_31
  · have h := h.1 c_
    refine lv_bipush (pc := 12) (v := (-2 : Int32)) hx hb dX9_asOf_12 (by decide) ?_
    exact Riret (pc := 14) X w h dX9_asOf_14
set_option maxHeartbeats 4000000 in
set_option maxRecDepth 100000 in
theorem okX9_column (l : Launch) {D : va_G} {g : Nat → ClassId} {ad : Nat → Nat} (hJ : RJ ad) {u : Mm} {a1 : Int32} {a2 : Int32} {Q : Int32 → Mm → Prop} (h : wX9_column u a1 a2 Q) : Met l yX9_column (Cond.code yX9_column cX9_column 4 (some .int) :: gt) ({ frames := 1, cells := 0, slots := 0, locals := 25 } : Room) (RPc D g ad u [.ref (ad 0), .int a1, .int a2]) (va_Qi Q (RB D g ad) (RA ad)) 0 0 (RA ad) := by
  refine Met.ofW (cc := cX9_column) (maxL := 4) (ret := (some .int)) (by decide) rfl ?_
  intro p e s m args below meth c s₁ B hml hv
  refine Rentry (own := RX9) B hml hv hJ rfl (Nat.le_of_ble_eq_true rfl) (fun ls H locs X w hl => ?_)
  obtain ⟨⟨hx, hb, hml, hown, hts⟩, hr, hlocks, hK, hJ, hAA⟩ := id X
  have hl : lv_has ls 4 [(0, .ref (ad 0)), (1, .int a1), (2, .int a2)] := hl
  unfold wX9_column at h
  refine lv_iload_n (pc := 0) hx hb dX9_column_0 rfl (lv_at hl 1 rfl) ?_
  refine lv_i2l (pc := 1) hx hb dX9_column_1 rfl ?_
  refine lv_lconst (pc := 2) (v := (0 : Int64)) hx hb dX9_column_2 (by decide) ?_
  refine lv_ldc2 (pc := 3) (v := (5 : Int64)) hx hb hown (hts _ (List.mem_cons_of_mem _ kw495)) dX9_column_3 ?_
  refine Rcalli (rest := []) (RrunS (pc := 6) X w (okX9_in l hJ h) kw490 kmX9_in ⟨rfl, rfl⟩ ⟨by decide, by decide⟩ rfl hl.1 rfl (Nat.le_of_ble_eq_true rfl) dX9_column_6) w (fun r1 u9_ H locs h w => ?_)
  obtain ⟨hz_r1, h⟩ := h
  obtain ⟨rfl, h⟩ := h
  refine lv_if_eq (pc := 9) (tgt := 22) hx hb dX9_column_9 (by decide) (fun c_ => ?_) (fun c_ => ?_)
  · have h := h.1 c_
    refine lv_bipush (pc := 22) (v := (-2 : Int32)) hx hb dX9_column_22 (by decide) ?_
    exact Riret (pc := 24) X w h dX9_column_24
  · have h := h.2 c_
    refine lv_iload_n (pc := 12) hx hb dX9_column_12 rfl (lv_at hl 2 rfl) ?_
    refine lv_i2l (pc := 13) hx hb dX9_column_13 rfl ?_
    refine lv_lconst (pc := 14) (v := (0 : Int64)) hx hb dX9_column_14 (by decide) ?_
    refine lv_lconst (pc := 15) (v := (1 : Int64)) hx hb dX9_column_15 (by decide) ?_
    refine Rcalli (rest := []) (RrunS (pc := 16) X w (okX9_in l hJ h) kw490 kmX9_in ⟨rfl, rfl⟩ ⟨by decide, by decide⟩ rfl hl.1 rfl (Nat.le_of_ble_eq_true rfl) dX9_column_16) w (fun r2 u9_ H locs h w => ?_)
    obtain ⟨hz_r2, h⟩ := h
    obtain ⟨rfl, h⟩ := h
    refine lv_if_ne (pc := 19) (tgt := 25) hx hb dX9_column_19 (by decide) (fun c_ => ?_) (fun c_ => ?_)
    · have h := h.2 c_
      refine lv_aload_n (pc := 25) hx hb dX9_column_25 rfl (lv_at hl 0 rfl) ?_
      refine Rgf_0_12 (pc := 26) X w kw563 dX9_column_26 ?_
      refine lv_iload_n (pc := 29) hx hb dX9_column_29 rfl (lv_at hl 1 rfl) ?_
      refine Rld_9 (pc := 30) X w h.1 dX9_column_30 ?_
      have h := h.2
      refine lv_topi (fun x3_3 e_ => ?_)
      have h := h x3_3 e_
      refine lv_istore_n (pc := 31) (lv' := [(3, .int x3_3), (0, .ref (ad 0)), (1, .int a1), (2, .int a2)]) hx hb dX9_column_31 rfl hl (by decide) rfl (fun ls hl => ?_)
      refine lv_aload_n (pc := 32) hx hb dX9_column_32 rfl (lv_at hl 1 rfl) ?_
      refine Rgf_0_12 (pc := 33) X w kw563 dX9_column_33 ?_
      refine lv_iload_n (pc := 36) hx hb dX9_column_36 rfl (lv_at hl 2 rfl) ?_
      refine lv_iload_n (pc := 37) hx hb dX9_column_37 rfl (lv_at hl 3 rfl) ?_
      refine Rst_9 (pc := 38) X w h.1 dX9_column_38 (fun H locs w => ?_)
      have h := h.2
      obtain ⟨u4, e_⟩ : ∃ y : Mm, y = s32 u 9 a1.toNatClampNeg a2 := ⟨_, rfl⟩
      rw [← e_] at w
      have h := h u4 e_
      refine lv_aload_n (pc := 39) hx hb dX9_column_39 rfl (lv_at hl 1 rfl) ?_
      refine lv_iconst (pc := 40) (v := (0 : Int32)) hx hb dX9_column_40 (by decide) ?_
      refine Rpf_0_7 (pc := 41) X w kw529 rfl rfl dX9_column_41 (fun H locs w => ?_)
      obtain ⟨u5, e_⟩ : ∃ y : Mm, y = s32 u4 107 0 (0 : Int32) := ⟨_, rfl⟩
      rw [← e_] at w
      have h := h u5 e_
      refine lv_iload_n (pc := 44) hx hb dX9_column_44 rfl (lv_at hl 0 rfl) ?_
      exact Riret (pc := 45) X w h dX9_column_45
    · have h := h.1 c_
      refine lv_bipush (pc := 22) (v := (-2 : Int32)) hx hb dX9_column_22 (by decide) ?_
      exact Riret (pc := 24) X w h dX9_column_24
set_option maxHeartbeats 4000000 in
set_option maxRecDepth 100000 in
theorem okX9_said (l : Launch) {D : va_G} {g : Nat → ClassId} {ad : Nat → Nat} (hJ : RJ ad) {u : Mm} {a1 : Int32} {Q : Int64 → Mm → Prop} (h : wX9_said u a1 Q) : Met l yX9_said (Cond.code yX9_said cX9_said 2 (some .long) :: gt) ({ frames := 4, cells := 0, slots := 0, locals := 107 } : Room) (RPc D g ad u [.ref (ad 0), .int a1]) (va_Ql Q (RB D g ad) (RA ad)) 0 0 (RA ad) := by
  refine Met.ofW (cc := cX9_said) (maxL := 2) (ret := (some .long)) (by decide) rfl ?_
  intro p e s m args below meth c s₁ B hml hv
  refine Rentry (own := RX9) B hml hv hJ rfl (Nat.le_of_ble_eq_true rfl) (fun ls H locs X w hl => ?_)
  obtain ⟨⟨hx, hb, hml, hown, hts⟩, hr, hlocks, hK, hJ, hAA⟩ := id X
  have hl : lv_has ls 2 [(0, .ref (ad 0)), (1, .int a1)] := hl
  unfold wX9_said at h
  refine lv_iload_n (pc := 0) hx hb dX9_said_0 rfl (lv_at hl 1 rfl) ?_
  refine Rcalli (rest := []) (RrunS (pc := 1) X w (okX9_isCode l hJ h) kw509 kmX9_isCode ⟨rfl, rfl⟩ ⟨by decide, by decide⟩ rfl hl.1 rfl (Nat.le_of_ble_eq_true rfl) dX9_said_1) w (fun r1 u9_ H locs h w => ?_)
  obtain ⟨hz_r1, h⟩ := h
  obtain ⟨rfl, h⟩ := h
  refine lv_if_ne (pc := 4) (tgt := 11) hx hb dX9_said_4 (by decide) (fun c_ => ?_) (fun c_ => ?_)
  · have h := h.2 c_
    refine lv_aload_n (pc := 11) hx hb dX9_said_11 rfl (lv_at hl 0 rfl) ?_
    refine Rcallv (rest := []) (RrunV (pc := 12) X w (okX9_looks l hJ h) kw595 kmX9_looks ⟨rfl, rfl⟩ ⟨by decide, by decide⟩ (Rrv_0 X w) rfl hl.1 rfl (Nat.le_of_ble_eq_true rfl) dX9_said_12) w (fun u3 H locs h w => ?_)
    refine lv_aload_n (pc := 15) hx hb dX9_said_15 rfl (lv_at hl 0 rfl) ?_
    refine Rgf_0_10 (pc := 16) X w kw556 dX9_said_16 ?_
    refine lv_iload_n (pc := 19) hx hb dX9_said_19 rfl (lv_at hl 1 rfl) ?_
    refine Rld_8 (pc := 20) X w h.1 dX9_said_20 ?_
    have h := h.2
    refine lv_if_ne (pc := 21) (tgt := 30) hx hb dX9_said_21 (by decide) (fun c_ => ?_) (fun c_ => ?_)
    · have h := h.2 c_
      refine lv_aload_n (pc := 30) hx hb dX9_said_30 rfl (lv_at hl 0 rfl) ?_
      refine Rgf_0_9 (pc := 31) X w kw558 dX9_said_31 ?_
      refine lv_iload_n (pc := 34) hx hb dX9_said_34 rfl (lv_at hl 1 rfl) ?_
      refine Rld_7 (pc := 35) X w h.1 dX9_said_35 ?_
      have h := h.2
      exact Rlret (pc := 36) X w h dX9_said_36
    · have h := h.1 c_
      refine lv_ldc2 (pc := 24) (v := (-9223372036854775805 : Int64)) hx hb hown (hts _ (List.mem_cons_of_mem _ kw600)) dX9_said_24 ?_
      refine lv_goto (pc := 27) (tgt := 36) hx hb dX9_said_27 (by decide) ?_
      exact Rlret (pc := 36) X w h dX9_said_36
  · have h := h.1 c_
    refine lv_ldc2 (pc := 7) (v := (-9223372036854775806 : Int64)) hx hb hown (hts _ (List.mem_cons_of_mem _ kw601)) dX9_said_7 ?_
    exact Rlret (pc := 10) X w h dX9_said_10
