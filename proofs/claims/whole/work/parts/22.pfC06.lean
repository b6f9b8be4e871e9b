set_option maxHeartbeats 4000000 in
set_option maxRecDepth 100000 in
theorem bX8_howManyTrue_i15_10 {l : Launch} {p : Program} {e : Env} {s : State} {m : MethodId} {args : Array Value} {below : List Frame} {meth : Method} {c : Code} {D : va_G} {g : Nat → ClassId} {ad : Nat → Nat} {u : Mm} {Q : Int32 → Prop} (X : CX p s m args meth c cX8_howManyTrue RX8 6 (some .int) (Cond.code yX8_howManyTrue cX8_howManyTrue 6 (some .int)) D g ad (CA ad)) : ∀ (n : Nat) (x1 : Int32) (x3 : Int32) (x4 : Int32) (H : Heap) (locs : List Loc) (ls : Array Slot), wX8_howManyTrue_b10 15 6 u Q n x1 x3 x4 → CWd D g ad (CA ad) s u H locs → lv_has ls 6 [(1, .int x1), (2, .ref (ad 15)), (3, .int x3), (4, .int x4)] → W p l e ({ frames := 0, cells := 0, slots := 0, locals := 0 } : Room) s m args below meth c H locs 0 0 (MQ below (va_Qi (fun r u1 => u = u1 ∧ Q r) (CB D g ad) (CA ad)) args s 0 0 (CA ad)) (F0 m 10 ls []) := by
  obtain ⟨⟨hx, hb, hml, hown, hts⟩, hr, hlocks, hK, hJ, hAA⟩ := id X
  intro n
  induction n with
  | zero =>
    intro x1 x3 x4 H locs ls h
    exact False.elim h
  | succ n ih =>
    intro x1 x3 x4 H locs ls h w hl
    unfold wX8_howManyTrue_b10 at h
    refine lv_iload (pc := 10) hx hb dX8_howManyTrue_10 (lv_at hl 3 rfl) ?_
    refine lv_iload_n (pc := 12) hx hb dX8_howManyTrue_12 rfl (lv_at hl 2 rfl) ?_
    refine lv_icmp_ge (pc := 13) (tgt := 36) hx hb dX8_howManyTrue_13 (by decide) (fun c_ => ?_) (fun c_ => ?_)
    · have h := h.1 c_
      refine lv_iload_n (pc := 36) hx hb dX8_howManyTrue_36 rfl (lv_at hl 0 rfl) ?_
      exact Ciret (pc := 37) X w ⟨rfl, h⟩ dX8_howManyTrue_37
    · have h := h.2 c_
      refine lv_aload_n (pc := 16) hx hb dX8_howManyTrue_16 rfl (lv_at hl 1 rfl) ?_
      refine lv_iload (pc := 17) hx hb dX8_howManyTrue_17 (lv_at hl 3 rfl) ?_
      refine Cld_15 (pc := 19) X w h.1 dX8_howManyTrue_19 ?_
      have h := h.2
      refine lv_topi (fun x5_1 e_ => ?_)
      have h := h x5_1 e_
      refine lv_istore (pc := 20) (lv' := [(5, .int x5_1), (1, .int x1), (2, .ref (ad 15)), (3, .int x3), (4, .int x4)]) hx hb dX8_howManyTrue_20 hl (by decide) rfl (fun ls hl => ?_)
      refine lv_iload (pc := 22) hx hb dX8_howManyTrue_22 (lv_at hl 0 rfl) ?_
      refine lv_if_eq (pc := 24) (tgt := 30) hx hb dX8_howManyTrue_24 (by decide) (fun c_ => ?_) (fun c_ => ?_)
      · have h := h.1 c_
        obtain ⟨x4_2, e_⟩ : ∃ y : Int32, y = x4 + (1 : Int32) := ⟨_, rfl⟩
        have h := h x4_2 e_
        refine lv_iinc (pc := 30) (v := x4_2) (lv' := [(4, .int x4_2), (5, .int x5_1), (1, .int x1), (2, .ref (ad 15)), (3, .int x3)]) hx hb dX8_howManyTrue_30 hl (k := 4) rfl (by rw [e_]; rfl) (by decide) rfl (fun ls hl => ?_)
        refine lv_goto (pc := 33) (tgt := 10) hx hb dX8_howManyTrue_33 (by decide) ?_
        exact ih x1 x3 x4_2 H locs ls h w (lv_sub hl [2, 3, 4, 0] rfl)
      · have h := h.2 c_
        obtain ⟨x1_3, e_⟩ : ∃ y : Int32, y = x1 + (1 : Int32) := ⟨_, rfl⟩
        have h := h x1_3 e_
        refine lv_iinc (pc := 27) (v := x1_3) (lv' := [(1, .int x1_3), (5, .int x5_1), (2, .ref (ad 15)), (3, .int x3), (4, .int x4)]) hx hb dX8_howManyTrue_27 hl (k := 1) rfl (by rw [e_]; rfl) (by decide) rfl (fun ls hl => ?_)
        obtain ⟨x4_4, e_⟩ : ∃ y : Int32, y = x4 + (1 : Int32) := ⟨_, rfl⟩
        have h := h x4_4 e_
        refine lv_iinc (pc := 30) (v := x4_4) (lv' := [(4, .int x4_4), (1, .int x1_3), (5, .int x5_1), (2, .ref (ad 15)), (3, .int x3)]) hx hb dX8_howManyTrue_30 hl (k := 4) rfl (by rw [e_]; rfl) (by decide) rfl (fun ls hl => ?_)
        refine lv_goto (pc := 33) (tgt := 10) hx hb dX8_howManyTrue_33 (by decide) ?_
        exact ih x1_3 x3 x4_4 H locs ls h w (lv_sub hl [1, 3, 4, 0] rfl)
set_option maxHeartbeats 4000000 in
set_option maxRecDepth 100000 in
theorem okX8_howManyTrue_i15 (l : Launch) {D : va_G} {g : Nat → ClassId} {ad : Nat → Nat} (hJ : CJ ad) {u : Mm} {Q : Int32 → Prop} (h : wX8_howManyTrue 15 6 u Q) : Met l yX8_howManyTrue (Cond.code yX8_howManyTrue cX8_howManyTrue 6 (some .int) :: gt) ({ frames := 0, cells := 0, slots := 0, locals := 0 } : Room) (CPc D g ad u [.ref (ad 15)]) (va_Qi (fun r u1 => u = u1 ∧ Q r) (CB D g ad) (CA ad)) 0 0 (CA ad) := by
  refine Met.ofW (cc := cX8_howManyTrue) (maxL := 6) (ret := (some .int)) (by decide) rfl ?_
  intro p e s m args below meth c s₁ B hml hv
  refine Centry (own := RX8) B hml hv hJ rfl (Nat.le_of_ble_eq_true rfl) (fun ls H locs X w hl => ?_)
  obtain ⟨⟨hx, hb, hml, hown, hts⟩, hr, hlocks, hK, hJ, hAA⟩ := id X
  have hl : lv_has ls 6 [(0, .ref (ad 15))] := hl
  unfold wX8_howManyTrue at h
  refine lv_iconst (pc := 0) (v := (0 : Int32)) hx hb dX8_howManyTrue_0 (by decide) ?_
  refine lv_istore_n (pc := 1) (lv' := [(1, .int (0 : Int32)), (0, .ref (ad 15))]) hx hb dX8_howManyTrue_1 rfl hl (by decide) rfl (fun ls hl => ?_)
  refine lv_aload_n (pc := 2) hx hb dX8_howManyTrue_2 rfl (lv_at hl 1 rfl) ?_
  refine lv_astore_n (pc := 3) (lv' := [(2, .ref (ad 15)), (1, .int (0 : Int32)), (0, .ref (ad 15))]) hx hb dX8_howManyTrue_3 rfl hl (by decide) rfl (fun ls hl => ?_)
  refine lv_aload_n (pc := 4) hx hb dX8_howManyTrue_4 rfl (lv_at hl 0 rfl) ?_
  refine Cal_15 (pc := 5) X w dX8_howManyTrue_5 ?_
  refine lv_istore_n (pc := 6) (lv' := [(3, .int (nI 6)), (2, .ref (ad 15)), (1, .int (0 : Int32)), (0, .ref (ad 15))]) hx hb dX8_howManyTrue_6 rfl hl (by decide) rfl (fun ls hl => ?_)
  refine lv_iconst (pc := 7) (v := (0 : Int32)) hx hb dX8_howManyTrue_7 (by decide) ?_
  refine lv_istore (pc := 8) (lv' := [(4, .int (0 : Int32)), (3, .int (nI 6)), (2, .ref (ad 15)), (1, .int (0 : Int32)), (0, .ref (ad 15))]) hx hb dX8_howManyTrue_8 hl (by decide) rfl (fun ls hl => ?_)
  obtain ⟨n9, h⟩ := h
  exact bX8_howManyTrue_i15_10 X n9 (0 : Int32) (nI 6) (0 : Int32) H locs ls h w (lv_sub hl [3, 2, 1, 0] rfl)
set_option maxHeartbeats 4000000 in
set_option maxRecDepth 100000 in
theorem bX8_howManyTrue_i16_10 {l : Launch} {p : Program} {e : Env} {s : State} {m : MethodId} {args : Array Value} {below : List Frame} {meth : Method} {c : Code} {D : va_G} {g : Nat → ClassId} {ad : Nat → Nat} {u : Mm} {Q : Int32 → Prop} (X : CX p s m args meth c cX8_howManyTrue RX8 6 (some .int) (Cond.code yX8_howManyTrue cX8_howManyTrue 6 (some .int)) D g ad (CA ad)) : ∀ (n : Nat) (x1 : Int32) (x3 : Int32) (x4 : Int32) (H : Heap) (locs : List Loc) (ls : Array Slot), wX8_howManyTrue_b10 16 48 u Q n x1 x3 x4 → CWd D g ad (CA ad) s u H locs → lv_has ls 6 [(1, .int x1), (2, .ref (ad 16)), (3, .int x3), (4, .int x4)] → W p l e ({ frames := 0, cells := 0, slots := 0, locals := 0 } : Room) s m args below meth c H locs 0 0 (MQ below (va_Qi (fun r u1 => u = u1 ∧ Q r) (CB D g ad) (CA ad)) args s 0 0 (CA ad)) (F0 m 10 ls []) := by
  obtain ⟨⟨hx, hb, hml, hown, hts⟩, hr, hlocks, hK, hJ, hAA⟩ := id X
  intro n
  induction n with
  | zero =>
    intro x1 x3 x4 H locs ls h
    exact False.elim h
  | succ n ih =>
    intro x1 x3 x4 H locs ls h w hl
    unfold wX8_howManyTrue_b10 at h
    refine lv_iload (pc := 10) hx hb dX8_howManyTrue_10 (lv_at hl 3 rfl) ?_
    refine lv_iload_n (pc := 12) hx hb dX8_howManyTrue_12 rfl (lv_at hl 2 rfl) ?_
    refine lv_icmp_ge (pc := 13) (tgt := 36) hx hb dX8_howManyTrue_13 (by decide) (fun c_ => ?_) (fun c_ => ?_)
    · have h := h.1 c_
      refine lv_iload_n (pc := 36) hx hb dX8_howManyTrue_36 rfl (lv_at hl 0 rfl) ?_
      exact Ciret (pc := 37) X w ⟨rfl, h⟩ dX8_howManyTrue_37
    · have h := h.2 c_
      refine lv_aload_n (pc := 16) hx hb dX8_howManyTrue_16 rfl (lv_at hl 1 rfl) ?_
      refine lv_iload (pc := 17) hx hb dX8_howManyTrue_17 (lv_at hl 3 rfl) ?_
      refine Cld_16 (pc := 19) X w h.1 dX8_howManyTrue_19 ?_
      have h := h.2
      refine lv_topi (fun x5_1 e_ => ?_)
      have h := h x5_1 e_
      refine lv_istore (pc := 20) (lv' := [(5, .int x5_1), (1, .int x1), (2, .ref (ad 16)), (3, .int x3), (4, .int x4)]) hx hb dX8_howManyTrue_20 hl (by decide) rfl (fun ls hl => ?_)
      refine lv_iload (pc := 22) hx hb dX8_howManyTrue_22 (lv_at hl 0 rfl) ?_
      refine lv_if_eq (pc := 24) (tgt := 30) hx hb dX8_howManyTrue_24 (by decide) (fun c_ => ?_) (fun c_ => ?_)
      · have h := h.1 c_
        obtain ⟨x4_2, e_⟩ : ∃ y : Int32, y = x4 + (1 : Int32) := ⟨_, rfl⟩
        have h := h x4_2 e_
        refine lv_iinc (pc := 30) (v := x4_2) (lv' := [(4, .int x4_2), (5, .int x5_1), (1, .int x1), (2, .ref (ad 16)), (3, .int x3)]) hx hb dX8_howManyTrue_30 hl (k := 4) rfl (by rw [e_]; rfl) (by decide) rfl (fun ls hl => ?_)
        refine lv_goto (pc := 33) (tgt := 10) hx hb dX8_howManyTrue_33 (by decide) ?_
        exact ih x1 x3 x4_2 H locs ls h w (lv_sub hl [2, 3, 4, 0] rfl)
      · have h := h.2 c_
        obtain ⟨x1_3, e_⟩ : ∃ y : Int32, y = x1 + (1 : Int32) := ⟨_, rfl⟩
        have h := h x1_3 e_
        refine lv_iinc (pc := 27) (v := x1_3) (lv' := [(1, .int x1_3), (5, .int x5_1), (2, .ref (ad 16)), (3, .int x3), (4, .int x4)]) hx hb dX8_howManyTrue_27 hl (k := 1) rfl (by rw [e_]; rfl) (by decide) rfl (fun ls hl => ?_)
        obtain ⟨x4_4, e_⟩ : ∃ y : Int32, y = x4 + (1 : Int32) := ⟨_, rfl⟩
        have h := h x4_4 e_
        refine lv_iinc (pc := 30) (v := x4_4) (lv' := [(4, .int x4_4), (1, .int x1_3), (5, .int x5_1), (2, .ref (ad 16)), (3, .int x3)]) hx hb dX8_howManyTrue_30 hl (k := 4) rfl (by rw [e_]; rfl) (by decide) rfl (fun ls hl => ?_)
        refine lv_goto (pc := 33) (tgt := 10) hx hb dX8_howManyTrue_33 (by decide) ?_
        exact ih x1_3 x3 x4_4 H locs ls h w (lv_sub hl [1, 3, 4, 0] rfl)
set_option maxHeartbeats 4000000 in
set_option maxRecDepth 100000 in
theorem okX8_howManyTrue_i16 (l : Launch) {D : va_G} {g : Nat → ClassId} {ad : Nat → Nat} (hJ : CJ ad) {u : Mm} {Q : Int32 → Prop} (h : wX8_howManyTrue 16 48 u Q) : Met l yX8_howManyTrue (Cond.code yX8_howManyTrue cX8_howManyTrue 6 (some .int) :: gt) ({ frames := 0, cells := 0, slots := 0, locals := 0 } : Room) (CPc D g ad u [.ref (ad 16)]) (va_Qi (fun r u1 => u = u1 ∧ Q r) (CB D g ad) (CA ad)) 0 0 (CA ad) := by
  refine Met.ofW (cc := cX8_howManyTrue) (maxL := 6) (ret := (some .int)) (by decide) rfl ?_
  intro p e s m args below meth c s₁ B hml hv
  refine Centry (own := RX8) B hml hv hJ rfl (Nat.le_of_ble_eq_true rfl) (fun ls H locs X w hl => ?_)
  obtain ⟨⟨hx, hb, hml, hown, hts⟩, hr, hlocks, hK, hJ, hAA⟩ := id X
  have hl : lv_has ls 6 [(0, .ref (ad 16))] := hl
  unfold wX8_howManyTrue at h
  refine lv_iconst (pc := 0) (v := (0 : Int32)) hx hb dX8_howManyTrue_0 (by decide) ?_
  refine lv_istore_n (pc := 1) (lv' := [(1, .int (0 : Int32)), (0, .ref (ad 16))]) hx hb dX8_howManyTrue_1 rfl hl (by decide) rfl (fun ls hl => ?_)
  refine lv_aload_n (pc := 2) hx hb dX8_howManyTrue_2 rfl (lv_at hl 1 rfl) ?_
  refine lv_astore_n (pc := 3) (lv' := [(2, .ref (ad 16)), (1, .int (0 : Int32)), (0, .ref (ad 16))]) hx hb dX8_howManyTrue_3 rfl hl (by decide) rfl (fun ls hl => ?_)
  refine lv_aload_n (pc := 4) hx hb dX8_howManyTrue_4 rfl (lv_at hl 0 rfl) ?_
  refine Cal_16 (pc := 5) X w dX8_howManyTrue_5 ?_
  refine lv_istore_n (pc := 6) (lv' := [(3, .int (nI 48)), (2, .ref (ad 16)), (1, .int (0 : Int32)), (0, .ref (ad 16))]) hx hb dX8_howManyTrue_6 rfl hl (by decide) rfl (fun ls hl => ?_)
  refine lv_iconst (pc := 7) (v := (0 : Int32)) hx hb dX8_howManyTrue_7 (by decide) ?_
  refine lv_istore (pc := 8) (lv' := [(4, .int (0 : Int32)), (3, .int (nI 48)), (2, .ref (ad 16)), (1, .int (0 : Int32)), (0, .ref (ad 16))]) hx hb dX8_howManyTrue_8 hl (by decide) rfl (fun ls hl => ?_)
  obtain ⟨n9, h⟩ := h
  exact bX8_howManyTrue_i16_10 X n9 (0 : Int32) (nI 48) (0 : Int32) H locs ls h w (lv_sub hl [3, 2, 1, 0] rfl)
set_option maxHeartbeats 4000000 in
set_option maxRecDepth 100000 in
theorem bX8_howManyTrue_i35_10 {l : Launch} {p : Program} {e : Env} {s : State} {m : MethodId} {args : Array Value} {below : List Frame} {meth : Method} {c : Code} {D : va_G} {g : Nat → ClassId} {ad : Nat → Nat} {u : Mm} {Q : Int32 → Prop} (X : CX p s m args meth c cX8_howManyTrue RX8 6 (some .int) (Cond.code yX8_howManyTrue cX8_howManyTrue 6 (some .int)) D g ad (CA ad)) : ∀ (n : Nat) (x1 : Int32) (x3 : Int32) (x4 : Int32) (H : Heap) (locs : List Loc) (ls : Array Slot), wX8_howManyTrue_b10 35 72 u Q n x1 x3 x4 → CWd D g ad (CA ad) s u H locs → lv_has ls 6 [(1, .int x1), (2, .ref (ad 35)), (3, .int x3), (4, .int x4)] → W p l e ({ frames := 0, cells := 0, slots := 0, locals := 0 } : Room) s m args below meth c H locs 0 0 (MQ below (va_Qi (fun r u1 => u = u1 ∧ Q r) (CB D g ad) (CA ad)) args s 0 0 (CA ad)) (F0 m 10 ls []) := by
  obtain ⟨⟨hx, hb, hml, hown, hts⟩, hr, hlocks, hK, hJ, hAA⟩ := id X
  intro n
  induction n with
  | zero =>
    intro x1 x3 x4 H locs ls h
    exact False.elim h
  | succ n ih =>
    intro x1 x3 x4 H locs ls h w hl
    unfold wX8_howManyTrue_b10 at h
    refine lv_iload (pc := 10) hx hb dX8_howManyTrue_10 (lv_at hl 3 rfl) ?_
    refine lv_iload_n (pc := 12) hx hb dX8_howManyTrue_12 rfl (lv_at hl 2 rfl) ?_
    refine lv_icmp_ge (pc := 13) (tgt := 36) hx hb dX8_howManyTrue_13 (by decide) (fun c_ => ?_) (fun c_ => ?_)
    · have h := h.1 c_
      refine lv_iload_n (pc := 36) hx hb dX8_howManyTrue_36 rfl (lv_at hl 0 rfl) ?_
      exact Ciret (pc := 37) X w ⟨rfl, h⟩ dX8_howManyTrue_37
    · have h := h.2 c_
      refine lv_aload_n (pc := 16) hx hb dX8_howManyTrue_16 rfl (lv_at hl 1 rfl) ?_
      refine lv_iload (pc := 17) hx hb dX8_howManyTrue_17 (lv_at hl 3 rfl) ?_
      refine Cld_35 (pc := 19) X w h.1 dX8_howManyTrue_19 ?_
      have h := h.2
      refine lv_topi (fun x5_1 e_ => ?_)
      have h := h x5_1 e_
      refine lv_istore (pc := 20) (lv' := [(5, .int x5_1), (1, .int x1), (2, .ref (ad 35)), (3, .int x3), (4, .int x4)]) hx hb dX8_howManyTrue_20 hl (by decide) rfl (fun ls hl => ?_)
      refine lv_iload (pc := 22) hx hb dX8_howManyTrue_22 (lv_at hl 0 rfl) ?_
      refine lv_if_eq (pc := 24) (tgt := 30) hx hb dX8_howManyTrue_24 (by decide) (fun c_ => ?_) (fun c_ => ?_)
      · have h := h.1 c_
        obtain ⟨x4_2, e_⟩ : ∃ y : Int32, y = x4 + (1 : Int32) := ⟨_, rfl⟩
        have h := h x4_2 e_
        refine lv_iinc (pc := 30) (v := x4_2) (lv' := [(4, .int x4_2), (5, .int x5_1), (1, .int x1), (2, .ref (ad 35)), (3, .int x3)]) hx hb dX8_howManyTrue_30 hl (k := 4) rfl (by rw [e_]; rfl) (by decide) rfl (fun ls hl => ?_)
        refine lv_goto (pc := 33) (tgt := 10) hx hb dX8_howManyTrue_33 (by decide) ?_
        exact ih x1 x3 x4_2 H locs ls h w (lv_sub hl [2, 3, 4, 0] rfl)
      · have h := h.2 c_
        obtain ⟨x1_3, e_⟩ : ∃ y : Int32, y = x1 + (1 : Int32) := ⟨_, rfl⟩
        have h := h x1_3 e_
        refine lv_iinc (pc := 27) (v := x1_3) (lv' := [(1, .int x1_3), (5, .int x5_1), (2, .ref (ad 35)), (3, .int x3), (4, .int x4)]) hx hb dX8_howManyTrue_27 hl (k := 1) rfl (by rw [e_]; rfl) (by decide) rfl (fun ls hl => ?_)
        obtain ⟨x4_4, e_⟩ : ∃ y : Int32, y = x4 + (1 : Int32) := ⟨_, rfl⟩
        have h := h x4_4 e_
        refine lv_iinc (pc := 30) (v := x4_4) (lv' := [(4, .int x4_4), (1, .int x1_3), (5, .int x5_1), (2, .ref (ad 35)), (3, .int x3)]) hx hb dX8_howManyTrue_30 hl (k := 4) rfl (by rw [e_]; rfl) (by decide) rfl (fun ls hl => ?_)
        refine lv_goto (pc := 33) (tgt := 10) hx hb dX8_howManyTrue_33 (by decide) ?_
        exact ih x1_3 x3 x4_4 H locs ls h w (lv_sub hl [1, 3, 4, 0] rfl)
set_option maxHeartbeats 4000000 in
set_option maxRecDepth 100000 in
theorem okX8_howManyTrue_i35 (l : Launch) {D : va_G} {g : Nat → ClassId} {ad : Nat → Nat} (hJ : CJ ad) {u : Mm} {Q : Int32 → Prop} (h : wX8_howManyTrue 35 72 u Q) : Met l yX8_howManyTrue (Cond.code yX8_howManyTrue cX8_howManyTrue 6 (some .int) :: gt) ({ frames := 0, cells := 0, slots := 0, locals := 0 } : Room) (CPc D g ad u [.ref (ad 35)]) (va_Qi (fun r u1 => u = u1 ∧ Q r) (CB D g ad) (CA ad)) 0 0 (CA ad) := by
  refine Met.ofW (cc := cX8_howManyTrue) (maxL := 6) (ret := (some .int)) (by decide) rfl ?_
  intro p e s m args below meth c s₁ B hml hv
  refine Centry (own := RX8) B hml hv hJ rfl (Nat.le_of_ble_eq_true rfl) (fun ls H locs X w hl => ?_)
  obtain ⟨⟨hx, hb, hml, hown, hts⟩, hr, hlocks, hK, hJ, hAA⟩ := id X
  have hl : lv_has ls 6 [(0, .ref (ad 35))] := hl
  unfold wX8_howManyTrue at h
  refine lv_iconst (pc := 0) (v := (0 : Int32)) hx hb dX8_howManyTrue_0 (by decide) ?_
  refine lv_istore_n (pc := 1) (lv' := [(1, .int (0 : Int32)), (0, .ref (ad 35))]) hx hb dX8_howManyTrue_1 rfl hl (by decide) rfl (fun ls hl => ?_)
  refine lv_aload_n (pc := 2) hx hb dX8_howManyTrue_2 rfl (lv_at hl 1 rfl) ?_
  refine lv_astore_n (pc := 3) (lv' := [(2, .ref (ad 35)), (1, .int (0 : Int32)), (0, .ref (ad 35))]) hx hb dX8_howManyTrue_3 rfl hl (by decide) rfl (fun ls hl => ?_)
  refine lv_aload_n (pc := 4) hx hb dX8_howManyTrue_4 rfl (lv_at hl 0 rfl) ?_
  refine Cal_35 (pc := 5) X w dX8_howManyTrue_5 ?_
  refine lv_istore_n (pc := 6) (lv' := [(3, .int (nI 72)), (2, .ref (ad 35)), (1, .int (0 : Int32)), (0, .ref (ad 35))]) hx hb dX8_howManyTrue_6 rfl hl (by decide) rfl (fun ls hl => ?_)
  refine lv_iconst (pc := 7) (v := (0 : Int32)) hx hb dX8_howManyTrue_7 (by decide) ?_
  refine lv_istore (pc := 8) (lv' := [(4, .int (0 : Int32)), (3, .int (nI 72)), (2, .ref (ad 35)), (1, .int (0 : Int32)), (0, .ref (ad 35))]) hx hb dX8_howManyTrue_8 hl (by decide) rfl (fun ls hl => ?_)
  obtain ⟨n9, h⟩ := h
  exact bX8_howManyTrue_i35_10 X n9 (0 : Int32) (nI 72) (0 : Int32) H locs ls h w (lv_sub hl [3, 2, 1, 0] rfl)
set_option maxHeartbeats 4000000 in
set_option maxRecDepth 100000 in
theorem bX8_bytesOfLaws_4 {l : Launch} {p : Program} {e : Env} {s : State} {m : MethodId} {args : Array Value} {below : List Frame} {meth : Method} {c : Code} {D : va_G} {g : Nat → ClassId} {ad : Nat → Nat} {u : Mm} {Q : Int32 → Prop} (X : CX p s m args meth c cX8_bytesOfLaws RX8 3 (some .int) (Cond.code yX8_bytesOfLaws cX8_bytesOfLaws 3 (some .int)) D g ad (CA ad)) : ∀ (n : Nat) (x1 : Int32) (x2 : Int32) (H : Heap) (locs : List Loc) (ls : Array Slot), wX8_bytesOfLaws_b4 u Q n x1 x2 → CWd D g ad (CA ad) s u H locs → lv_has ls 3 [(0, .ref (ad 0)), (1, .int x1), (2, .int x2)] → W p l e ({ frames := 0, cells := 0, slots := 0, locals := 0 } : Room) s m args below meth c H locs 0 0 (MQ below (va_Qi (fun r u1 => u = u1 ∧ Q r) (CB D g ad) (CA ad)) args s 0 0 (CA ad)) (F0 m 4 ls []) := by
  obtain ⟨⟨hx, hb, hml, hown, hts⟩, hr, hlocks, hK, hJ, hAA⟩ := id X
  intro n
  induction n with
  | zero =>
    intro x1 x2 H locs ls h
    exact False.elim h
  | succ n ih =>
    intro x1 x2 H locs ls h w hl
    unfold wX8_bytesOfLaws_b4 at h
    refine lv_iload_n (pc := 4) hx hb dX8_bytesOfLaws_4 rfl (lv_at hl 2 rfl) ?_
    refine lv_iconst (pc := 5) (v := (4 : Int32)) hx hb dX8_bytesOfLaws_5 (by decide) ?_
    refine lv_icmp_ge (pc := 6) (tgt := 27) hx hb dX8_bytesOfLaws_6 (by decide) (fun c_ => ?_) (fun c_ => ?_)
    · have h := h.1 c_
      refine lv_iload_n (pc := 27) hx hb dX8_bytesOfLaws_27 rfl (lv_at hl 1 rfl) ?_
      exact Ciret (pc := 28) X w ⟨rfl, h⟩ dX8_bytesOfLaws_28
    · have h := h.2 c_
      refine lv_iload_n (pc := 9) hx hb dX8_bytesOfLaws_9 rfl (lv_at hl 1 rfl) ?_
      refine lv_aload_n (pc := 10) hx hb dX8_bytesOfLaws_10 rfl (lv_at hl 0 rfl) ?_
      refine Cgf_0_5 (pc := 11) X w kw402 dX8_bytesOfLaws_11 ?_
      refine lv_iload_n (pc := 14) hx hb dX8_bytesOfLaws_14 rfl (lv_at hl 2 rfl) ?_
      obtain ⟨j1, hj_, e_⟩ := vp_in_of h.1 (by decide)
      have h := h.2 j1 hj_ e_
      refine W.eq (g2 := F0 m 15 ls (.int (nI j1) :: .ref (ad 36) :: .int x1 :: [])) (by rw [e_]) ?_
      clear e_
      rcases (show j1 = 0 ∨ j1 = 1 ∨ j1 = 2 ∨ j1 = 3 by omega) with rfl | rfl | rfl | rfl
      · refine Caq_36 0 (by decide) (pc := 15) X w dX8_bytesOfLaws_15 ?_
        refine Cgf_37_1 (pc := 16) X w kw403 dX8_bytesOfLaws_16 ?_
        refine lv_iadd (pc := 19) hx hb dX8_bytesOfLaws_19 ?_
        refine lv_topi (fun x1_2 e_ => ?_)
        have h := h x1_2 e_
        refine lv_istore_n (pc := 20) (lv' := [(1, .int x1_2), (0, .ref (ad 0)), (2, .int x2)]) hx hb dX8_bytesOfLaws_20 rfl hl (by decide) rfl (fun ls hl => ?_)
        obtain ⟨x2_3, e_⟩ : ∃ y : Int32, y = x2 + (1 : Int32) := ⟨_, rfl⟩
        have h := h x2_3 e_
        refine lv_iinc (pc := 21) (v := x2_3) (lv' := [(2, .int x2_3), (1, .int x1_2), (0, .ref (ad 0))]) hx hb dX8_bytesOfLaws_21 hl (k := 2) rfl (by rw [e_]; rfl) (by decide) rfl (fun ls hl => ?_)
        refine lv_goto (pc := 24) (tgt := 4) hx hb dX8_bytesOfLaws_24 (by decide) ?_
        exact ih x1_2 x2_3 H locs ls h w (lv_sub hl [2, 1, 0] rfl)
      · refine Caq_36 1 (by decide) (pc := 15) X w dX8_bytesOfLaws_15 ?_
        refine Cgf_41_1 (pc := 16) X w kw403 dX8_bytesOfLaws_16 ?_
        refine lv_iadd (pc := 19) hx hb dX8_bytesOfLaws_19 ?_
        refine lv_topi (fun x1_2 e_ => ?_)
        have h := h x1_2 e_
        refine lv_istore_n (pc := 20) (lv' := [(1, .int x1_2), (0, .ref (ad 0)), (2, .int x2)]) hx hb dX8_bytesOfLaws_20 rfl hl (by decide) rfl (fun ls hl => ?_)
        obtain ⟨x2_3, e_⟩ : ∃ y : Int32, y = x2 + (1 : Int32) := ⟨_, rfl⟩
        have h := h x2_3 e_
        refine lv_iinc (pc := 21) (v := x2_3) (lv' := [(2, .int x2_3), (1, .int x1_2), (0, .ref (ad 0))]) hx hb dX8_bytesOfLaws_21 hl (k := 2) rfl (by rw [e_]; rfl) (by decide) rfl (fun ls hl => ?_)
        refine lv_goto (pc := 24) (tgt := 4) hx hb dX8_bytesOfLaws_24 (by decide) ?_
        exact ih x1_2 x2_3 H locs ls h w (lv_sub hl [2, 1, 0] rfl)
      · refine Caq_36 2 (by decide) (pc := 15) X w dX8_bytesOfLaws_15 ?_
        refine Cgf_45_1 (pc := 16) X w kw403 dX8_bytesOfLaws_16 ?_
        refine lv_iadd (pc := 19) hx hb dX8_bytesOfLaws_19 ?_
        refine lv_topi (fun x1_2 e_ => ?_)
        have h := h x1_2 e_
        refine lv_istore_n (pc := 20) (lv' := [(1, .int x1_2), (0, .ref (ad 0)), (2, .int x2)]) hx hb dX8_bytesOfLaws_20 rfl hl (by decide) rfl (fun ls hl => ?_)
        obtain ⟨x2_3, e_⟩ : ∃ y : Int32, y = x2 + (1 : Int32) := ⟨_, rfl⟩
        have h := h x2_3 e_
        refine lv_iinc (pc := 21) (v := x2_3) (lv' := [(2, .int x2_3), (1, .int x1_2), (0, .ref (ad 0))]) hx hb dX8_bytesOfLaws_21 hl (k := 2) rfl (by rw [e_]; rfl) (by decide) rfl (fun ls hl => ?_)
        refine lv_goto (pc := 24) (tgt := 4) hx hb dX8_bytesOfLaws_24 (by decide) ?_
        exact ih x1_2 x2_3 H locs ls h w (lv_sub hl [2, 1, 0] rfl)
      · refine Caq_36 3 (by decide) (pc := 15) X w dX8_bytesOfLaws_15 ?_
        refine Cgf_49_1 (pc := 16) X w kw403 dX8_bytesOfLaws_16 ?_
        refine lv_iadd (pc := 19) hx hb dX8_bytesOfLaws_19 ?_
        refine lv_topi (fun x1_2 e_ => ?_)
        have h := h x1_2 e_
        refine lv_istore_n (pc := 20) (lv' := [(1, .int x1_2), (0, .ref (ad 0)), (2, .int x2)]) hx hb dX8_bytesOfLaws_20 rfl hl (by decide) rfl (fun ls hl => ?_)
        obtain ⟨x2_3, e_⟩ : ∃ y : Int32, y = x2 + (1 : Int32) := ⟨_, rfl⟩
        have h := h x2_3 e_
        refine lv_iinc (pc := 21) (v := x2_3) (lv' := [(2, .int x2_3), (1, .int x1_2), (0, .ref (ad 0))]) hx hb dX8_bytesOfLaws_21 hl (k := 2) rfl (by rw [e_]; rfl) (by decide) rfl (fun ls hl => ?_)
        refine lv_goto (pc := 24) (tgt := 4) hx hb dX8_bytesOfLaws_24 (by decide) ?_
        exact ih x1_2 x2_3 H locs ls h w (lv_sub hl [2, 1, 0] rfl)
set_option maxHeartbeats 4000000 in
set_option maxRecDepth 100000 in
theorem okX8_bytesOfLaws (l : Launch) {D : va_G} {g : Nat → ClassId} {ad : Nat → Nat} (hJ : CJ ad) {u : Mm} {Q : Int32 → Prop} (h : wX8_bytesOfLaws u Q) : Met l yX8_bytesOfLaws (Cond.code yX8_bytesOfLaws cX8_bytesOfLaws 3 (some .int) :: gt) ({ frames := 0, cells := 0, slots := 0, locals := 0 } : Room) (CPc D g ad u [.ref (ad 0)]) (va_Qi (fun r u1 => u = u1 ∧ Q r) (CB D g ad) (CA ad)) 0 0 (CA ad) := by
  refine Met.ofW (cc := cX8_bytesOfLaws) (maxL := 3) (ret := (some .int)) (by decide) rfl ?_
  intro p e s m args below meth c s₁ B hml hv
  refine Centry (own := RX8) B hml hv hJ rfl (Nat.le_of_ble_eq_true rfl) (fun ls H locs X w hl => ?_)
  obtain ⟨⟨hx, hb, hml, hown, hts⟩, hr, hlocks, hK, hJ, hAA⟩ := id X
  have hl : lv_has ls 3 [(0, .ref (ad 0))] := hl
  unfold wX8_bytesOfLaws at h
  refine lv_iconst (pc := 0) (v := (0 : Int32)) hx hb dX8_bytesOfLaws_0 (by decide) ?_
  refine lv_istore_n (pc := 1) (lv' := [(1, .int (0 : Int32)), (0, .ref (ad 0))]) hx hb dX8_bytesOfLaws_1 rfl hl (by decide) rfl (fun ls hl => ?_)
  refine lv_iconst (pc := 2) (v := (0 : Int32)) hx hb dX8_bytesOfLaws_2 (by decide) ?_
  refine lv_istore_n (pc := 3) (lv' := [(2, .int (0 : Int32)), (1, .int (0 : Int32)), (0, .ref (ad 0))]) hx hb dX8_bytesOfLaws_3 rfl hl (by decide) rfl (fun ls hl => ?_)
  obtain ⟨n9, h⟩ := h
  exact bX8_bytesOfLaws_4 X n9 (0 : Int32) (0 : Int32) H locs ls h w (lv_sub hl [2, 1, 0] rfl)
set_option maxHeartbeats 4000000 in
set_option maxRecDepth 100000 in
theorem okX8_count (l : Launch) {D : va_G} {g : Nat → ClassId} {ad : Nat → Nat} (hJ : CJ ad) {u : Mm} {a1 : Int32} {Q : Int32 → Mm → Prop} (h : wX8_count u a1 Q) : Met l yX8_count (Cond.code yX8_count cX8_count 2 (some .int) :: gt) ({ frames := 4, cells := 0, slots := 0, locals := 94 } : Room) (CPc D g ad u [.ref (ad 0), .int a1]) (va_Qi Q (CB D g ad) (CA ad)) 0 0 (CA ad) := by
  refine Met.ofW (cc := cX8_count) (maxL := 2) (ret := (some .int)) (by decide) rfl ?_
  intro p e s m args below meth c s₁ B hml hv
  refine Centry (own := RX8) B hml hv hJ rfl (Nat.le_of_ble_eq_true rfl) (fun ls H locs X w hl => ?_)
  obtain ⟨⟨hx, hb, hml, hown, hts⟩, hr, hlocks, hK, hJ, hAA⟩ := id X
  have hl : lv_has ls 2 [(0, .ref (ad 0)), (1, .int a1)] := hl
  unfold wX8_count at h
  refine lv_iload_n (pc := 0) hx hb dX8_count_0 rfl (lv_at hl 1 rfl) ?_
  rcases sw_in a1 8 (by decide) with hs | ⟨js, hjs, hs⟩
  · have h := h.2.2.2.2.2.2.2.2.2 hs
    refine lv_tableOut (pc := 1) (tgt := 127) hx hb dX8_count_1 hs (by decide) ?_
    refine lv_bipush (pc := 127) (v := (-2 : Int32)) hx hb dX8_count_127 (by decide) ?_
    exact Ciret (pc := 129) X w h dX8_count_129
  · rcases (show js = 0 ∨ js = 1 ∨ js = 2 ∨ js = 3 ∨ js = 4 ∨ js = 5 ∨ js = 6 ∨ js = 7 ∨ js = 8 by omega) with rfl | rfl | rfl | rfl | rfl | rfl | rfl | rfl | rfl
    · have h := h.1 hs
      refine lv_topi (fun z_ ez_ => ?_)
      rw [hs] at ez_
      subst ez_
      refine lv_tableIn (pc := 1) (tgt := 52) (off := 51) hx hb dX8_count_1 (by decide) (by decide) (by decide +kernel) (by decide) ?_
      refine lv_aload_n (pc := 52) hx hb dX8_count_52 rfl (lv_at hl 0 rfl) ?_
      refine Cgf_0_0 (pc := 53) X w kw262 dX8_count_53 ?_
      refine Cgf_1_8 (pc := 56) X w kw283 dX8_count_56 ?_
      exact Ciret (pc := 59) X w h dX8_count_59
    · have h := h.2.1 hs
      refine lv_topi (fun z_ ez_ => ?_)
      rw [hs] at ez_
      subst ez_
      refine lv_tableIn (pc := 1) (tgt := 60) (off := 59) hx hb dX8_count_1 (by decide) (by decide) (by decide +kernel) (by decide) ?_
      refine lv_aload_n (pc := 60) hx hb dX8_count_60 rfl (lv_at hl 0 rfl) ?_
      refine Cgf_0_0 (pc := 61) X w kw262 dX8_count_61 ?_
      refine Ccalli (rest := []) (CrunV (pc := 64) X w (okX3_countedRows l hJ h) kw469 kmX3_countedRows ⟨rfl, rfl⟩ ⟨by decide, by decide⟩ (Crv_1 X w) rfl hl.1 rfl (Nat.le_of_ble_eq_true rfl) dX8_count_64) w (fun r1 u2 H locs h w => ?_)
      exact Ciret (pc := 67) X w h dX8_count_67
    · have h := h.2.2.1 hs
      refine lv_topi (fun z_ ez_ => ?_)
      rw [hs] at ez_
      subst ez_
      refine lv_tableIn (pc := 1) (tgt := 68) (off := 67) hx hb dX8_count_1 (by decide) (by decide) (by decide +kernel) (by decide) ?_
      refine lv_aload_n (pc := 68) hx hb dX8_count_68 rfl (lv_at hl 0 rfl) ?_
      refine Cgf_0_0 (pc := 69) X w kw262 dX8_count_69 ?_
      refine Cgf_1_9 (pc := 72) X w kw299 dX8_count_72 ?_
      exact Ciret (pc := 75) X w h dX8_count_75
    · have h := h.2.2.2.1 hs
      refine lv_topi (fun z_ ez_ => ?_)
      rw [hs] at ez_
      subst ez_
      refine lv_tableIn (pc := 1) (tgt := 76) (off := 75) hx hb dX8_count_1 (by decide) (by decide) (by decide +kernel) (by decide) ?_
      refine lv_aload_n (pc := 76) hx hb dX8_count_76 rfl (lv_at hl 0 rfl) ?_
      refine Cgf_0_1 (pc := 77) X w kw264 dX8_count_77 ?_
      refine Cgf_10_10 (pc := 80) X w kw320 dX8_count_80 ?_
      exact Ciret (pc := 83) X w h dX8_count_83
    · have h := h.2.2.2.2.1 hs
      refine lv_topi (fun z_ ez_ => ?_)
      rw [hs] at ez_
      subst ez_
      refine lv_tableIn (pc := 1) (tgt := 84) (off := 83) hx hb dX8_count_1 (by decide) (by decide) (by decide +kernel) (by decide) ?_
      refine lv_aload_n (pc := 84) hx hb dX8_count_84 rfl (lv_at hl 0 rfl) ?_
      refine Cgf_0_1 (pc := 85) X w kw264 dX8_count_85 ?_
      refine Cgf_10_2 (pc := 88) X w kw300 dX8_count_88 ?_
      refine Ccalli (rest := []) (CrunS (pc := 91) X w (okX8_howManyTrue_i15 l hJ h) kw473 kmX8_howManyTrue ⟨rfl, rfl⟩ ⟨by decide, by decide⟩ rfl hl.1 rfl (Nat.le_of_ble_eq_true rfl) dX8_count_91) w (fun r3 u9_ H locs h w => ?_)
      obtain ⟨rfl, h⟩ := h
      exact Ciret (pc := 94) X w h dX8_count_94
    · have h := h.2.2.2.2.2.1 hs
      refine lv_topi (fun z_ ez_ => ?_)
      rw [hs] at ez_
      subst ez_
      refine lv_tableIn (pc := 1) (tgt := 95) (off := 94) hx hb dX8_count_1 (by decide) (by decide) (by decide +kernel) (by decide) ?_
      refine lv_aload_n (pc := 95) hx hb dX8_count_95 rfl (lv_at hl 0 rfl) ?_
      refine Cgf_0_1 (pc := 96) X w kw264 dX8_count_96 ?_
      refine Cgf_10_3 (pc := 99) X w kw319 dX8_count_99 ?_
      refine Ccalli (rest := []) (CrunS (pc := 102) X w (okX8_howManyTrue_i16 l hJ h) kw473 kmX8_howManyTrue ⟨rfl, rfl⟩ ⟨by decide, by decide⟩ rfl hl.1 rfl (Nat.le_of_ble_eq_true rfl) dX8_count_102) w (fun r4 u9_ H locs h w => ?_)
      obtain ⟨rfl, h⟩ := h
      exact Ciret (pc := 105) X w h dX8_count_105
    · have h := h.2.2.2.2.2.2.1 hs
      refine lv_topi (fun z_ ez_ => ?_)
      rw [hs] at ez_
      subst ez_
      refine lv_tableIn (pc := 1) (tgt := 106) (off := 105) hx hb dX8_count_1 (by decide) (by decide) (by decide +kernel) (by decide) ?_
      refine lv_aload_n (pc := 106) hx hb dX8_count_106 rfl (lv_at hl 0 rfl) ?_
      refine Cgf_0_4 (pc := 107) X w kw386 dX8_count_107 ?_
      refine Cgf_32_2 (pc := 110) X w kw397 dX8_count_110 ?_
      refine Ccalli (rest := []) (CrunS (pc := 113) X w (okX8_howManyTrue_i35 l hJ h) kw473 kmX8_howManyTrue ⟨rfl, rfl⟩ ⟨by decide, by decide⟩ rfl hl.1 rfl (Nat.le_of_ble_eq_true rfl) dX8_count_113) w (fun r5 u9_ H locs h w => ?_)
      obtain ⟨rfl, h⟩ := h
      exact Ciret (pc := 116) X w h dX8_count_116
    · have h := h.2.2.2.2.2.2.2.1 hs
      refine lv_topi (fun z_ ez_ => ?_)
      rw [hs] at ez_
      subst ez_
      refine lv_tableIn (pc := 1) (tgt := 117) (off := 116) hx hb dX8_count_1 (by decide) (by decide) (by decide +kernel) (by decide) ?_
      refine lv_aload_n (pc := 117) hx hb dX8_count_117 rfl (lv_at hl 0 rfl) ?_
      refine Ccalli (rest := []) (CrunV (pc := 118) X w (okX8_bytesOfLaws l hJ h) kw476 kmX8_bytesOfLaws ⟨rfl, rfl⟩ ⟨by decide, by decide⟩ (Crv_0 X w) rfl hl.1 rfl (Nat.le_of_ble_eq_true rfl) dX8_count_118) w (fun r6 u9_ H locs h w => ?_)
      obtain ⟨rfl, h⟩ := h
      exact Ciret (pc := 121) X w h dX8_count_121
    · have h := h.2.2.2.2.2.2.2.2.1 hs
      refine lv_topi (fun z_ ez_ => ?_)
      rw [hs] at ez_
      subst ez_
      refine lv_tableIn (pc := 1) (tgt := 122) (off := 121) hx hb dX8_count_1 (by decide) (by decide) (by decide +kernel) (by decide) ?_
      refine lv_aload_n (pc := 122) hx hb dX8_count_122 rfl (lv_at hl 0 rfl) ?_
      refine Cgf_0_7 (pc := 123) X w kw434 dX8_count_123 ?_
      exact Ciret (pc := 126) X w h dX8_count_126
set_option maxHeartbeats 4000000 in
set_option maxRecDepth 100000 in
theorem bX8_digest_79 {l : Launch} {p : Program} {e : Env} {s : State} {m : MethodId} {args : Array Value} {below : List Frame} {meth : Method} {c : Code} {D : va_G} {g : Nat → ClassId} {ad : Nat → Nat} {Q : Int64 → Mm → Prop} {k70 : Mm → Int64 → Int32 → Prop} (X : CX p s m args meth c cX8_digest RX8 5 (some .long) (Cond.code yX8_digest cX8_digest 5 (some .long)) D g ad (CA ad)) (hk70 : ∀ (u : Mm) (x1 : Int64) (x3 : Int32) (H : Heap) (locs : List Loc) (ls : Array Slot), k70 u x1 x3 → CWd D g ad (CA ad) s u H locs → lv_has ls 5 [(0, .ref (ad 0)), (1, .long x1), (3, .int x3)] → W p l e ({ frames := 6, cells := 0, slots := 0, locals := 156 } : Room) s m args below meth c H locs 0 0 (MQ below (va_Ql Q (CB D g ad) (CA ad)) args s 0 0 (CA ad)) (F0 m 70 ls [])) : ∀ (n : Nat) (u : Mm) (x1 : Int64) (x3 : Int32) (x4 : Int32) (H : Heap) (locs : List Loc) (ls : Array Slot), wX8_digest_b79 k70 Q n u x1 x3 x4 → CWd D g ad (CA ad) s u H locs → lv_has ls 5 [(0, .ref (ad 0)), (1, .long x1), (3, .int x3), (4, .int x4)] → W p l e ({ frames := 6, cells := 0, slots := 0, locals := 156 } : Room) s m args below meth c H locs 0 0 (MQ below (va_Ql Q (CB D g ad) (CA ad)) args s 0 0 (CA ad)) (F0 m 79 ls []) := by
  obtain ⟨⟨hx, hb, hml, hown, hts⟩, hr, hlocks, hK, hJ, hAA⟩ := id X
  intro n
  induction n with
  | zero =>
    intro u x1 x3 x4 H locs ls h
    exact False.elim h
  | succ n ih =>
    intro u x1 x3 x4 H locs ls h w hl
    unfold wX8_digest_b79 at h
    refine lv_iload (pc := 79) hx hb dX8_digest_79 (lv_at hl 3 rfl) ?_
    refine lv_bipush (pc := 81) (v := (12 : Int32)) hx hb dX8_digest_81 (by decide) ?_
    refine lv_icmp_ge (pc := 83) (tgt := 111) hx hb dX8_digest_83 (by decide) (fun c_ => ?_) (fun c_ => ?_)
    · have h := h.1 c_
      obtain ⟨x3_1, e_⟩ : ∃ y : Int32, y = x3 + (1 : Int32) := ⟨_, rfl⟩
      have h := h x3_1 e_
      refine lv_iinc (pc := 111) (v := x3_1) (lv' := [(3, .int x3_1), (0, .ref (ad 0)), (1, .long x1), (4, .int x4)]) hx hb dX8_digest_111 hl (k := 2) rfl (by rw [e_]; rfl) (by decide) rfl (fun ls hl => ?_)
      refine lv_goto (pc := 114) (tgt := 70) hx hb dX8_digest_114 (by decide) ?_
      exact hk70 u x1 x3_1 H locs ls h w (lv_sub hl [1, 2, 0] rfl)
    · have h := h.2 c_
      refine lv_ldc2 (pc := 86) (v := (31 : Int64)) hx hb hown (hts _ (List.mem_cons_of_mem _ kw481)) dX8_digest_86 ?_
      refine lv_lload_n (pc := 89) hx hb dX8_digest_89 rfl (lv_at hl 1 rfl) ?_
      refine lv_lmul (pc := 90) hx hb dX8_digest_90 ?_
      refine lv_aload_n (pc := 91) hx hb dX8_digest_91 rfl (lv_at hl 0 rfl) ?_
      refine Cgf_0_1 (pc := 92) X w kw264 dX8_digest_92 ?_
      refine lv_iconst (pc := 95) (v := (-1 : Int32)) hx hb dX8_digest_95 (by decide) ?_
      refine lv_iconst (pc := 96) (v := (-1 : Int32)) hx hb dX8_digest_96 (by decide) ?_
      refine lv_iload_n (pc := 97) hx hb dX8_digest_97 rfl (lv_at hl 2 rfl) ?_
      refine lv_iload (pc := 98) hx hb dX8_digest_98 (lv_at hl 3 rfl) ?_
      refine Ccalll (rest := [.long ((31 : Int64) * x1)]) (CrunV (pc := 100) X w (okX6_sumOf l hJ h) kw335 kmX6_sumOf ⟨rfl, rfl⟩ ⟨by decide, by decide⟩ (Crv_10 X w) rfl hl.1 rfl (Nat.le_of_ble_eq_true rfl) dX8_digest_100) w (fun r2 u9_ H locs h w => ?_)
      obtain ⟨rfl, h⟩ := h
      refine lv_ladd (pc := 103) hx hb dX8_digest_103 ?_
      refine lv_topl (fun x1_3 e_ => ?_)
      have h := h x1_3 e_
      refine lv_lstore_n (pc := 104) (lv' := [(1, .long x1_3), (0, .ref (ad 0)), (3, .int x3), (4, .int x4)]) hx hb dX8_digest_104 rfl hl (by decide) rfl (fun ls hl => ?_)
      obtain ⟨x4_4, e_⟩ : ∃ y : Int32, y = x4 + (1 : Int32) := ⟨_, rfl⟩
      have h := h x4_4 e_
      refine lv_iinc (pc := 105) (v := x4_4) (lv' := [(4, .int x4_4), (1, .long x1_3), (0, .ref (ad 0)), (3, .int x3)]) hx hb dX8_digest_105 hl (k := 3) rfl (by rw [e_]; rfl) (by decide) rfl (fun ls hl => ?_)
      refine lv_goto (pc := 108) (tgt := 79) hx hb dX8_digest_108 (by decide) ?_
      exact ih u x1_3 x3 x4_4 H locs ls h w (lv_sub hl [2, 1, 3, 0] rfl)
set_option maxHeartbeats 4000000 in
set_option maxRecDepth 100000 in
theorem bX8_digest_181 {l : Launch} {p : Program} {e : Env} {s : State} {m : MethodId} {args : Array Value} {below : List Frame} {meth : Method} {c : Code} {D : va_G} {g : Nat → ClassId} {ad : Nat → Nat} {Q : Int64 → Mm → Prop} (X : CX p s m args meth c cX8_digest RX8 5 (some .long) (Cond.code yX8_digest cX8_digest 5 (some .long)) D g ad (CA ad)) : ∀ (n : Nat) (u : Mm) (x1 : Int64) (x3 : Int32) (H : Heap) (locs : List Loc) (ls : Array Slot), wX8_digest_b181 Q n u x1 x3 → CWd D g ad (CA ad) s u H locs → lv_has ls 5 [(0, .ref (ad 0)), (1, .long x1), (3, .int x3)] → W p l e ({ frames := 6, cells := 0, slots := 0, locals := 156 } : Room) s m args below meth c H locs 0 0 (MQ below (va_Ql Q (CB D g ad) (CA ad)) args s 0 0 (CA ad)) (F0 m 181 ls []) := by
  obtain ⟨⟨hx, hb, hml, hown, hts⟩, hr, hlocks, hK, hJ, hAA⟩ := id X
  intro n
  induction n with
  | zero =>
    intro u x1 x3 H locs ls h
    exact False.elim h
  | succ n ih =>
    intro u x1 x3 H locs ls h w hl
    unfold wX8_digest_b181 at h
    refine lv_iload_n (pc := 181) hx hb dX8_digest_181 rfl (lv_at hl 2 rfl) ?_
    refine lv_iconst (pc := 182) (v := (4 : Int32)) hx hb dX8_digest_182 (by decide) ?_
    refine lv_icmp_ge (pc := 183) (tgt := 209) hx hb dX8_digest_183 (by decide) (fun c_ => ?_) (fun c_ => ?_)
    · have h := h.1 c_
      refine lv_lload_n (pc := 209) hx hb dX8_digest_209 rfl (lv_at hl 1 rfl) ?_
      exact Clret (pc := 210) X w h dX8_digest_210
    · have h := h.2 c_
      refine lv_ldc2 (pc := 186) (v := (31 : Int64)) hx hb hown (hts _ (List.mem_cons_of_mem _ kw481)) dX8_digest_186 ?_
      refine lv_lload_n (pc := 189) hx hb dX8_digest_189 rfl (lv_at hl 1 rfl) ?_
      refine lv_lmul (pc := 190) hx hb dX8_digest_190 ?_
      refine lv_aload_n (pc := 191) hx hb dX8_digest_191 rfl (lv_at hl 0 rfl) ?_
      refine Cgf_0_5 (pc := 192) X w kw402 dX8_digest_192 ?_
      refine lv_iload_n (pc := 195) hx hb dX8_digest_195 rfl (lv_at hl 2 rfl) ?_
      obtain ⟨j1, hj_, e_⟩ := vp_in_of h.1 (by decide)
      have h := h.2 j1 hj_ e_
      refine W.eq (g2 := F0 m 196 ls (.int (nI j1) :: .ref (ad 36) :: .long ((31 : Int64) * x1) :: [])) (by rw [e_]) ?_
      clear e_
      rcases (show j1 = 0 ∨ j1 = 1 ∨ j1 = 2 ∨ j1 = 3 by omega) with rfl | rfl | rfl | rfl
      · refine Caq_36 0 (by decide) (pc := 196) X w dX8_digest_196 ?_
        refine Ccalli (rest := [.long ((31 : Int64) * x1)]) (CrunV (pc := 197) X w (okX1_scan_i0 l hJ h) kw408 kmX1_scan ⟨rfl, rfl⟩ ⟨by decide, by decide⟩ (Crv_37 X w) rfl hl.1 rfl (Nat.le_of_ble_eq_true rfl) dX8_digest_197) w (fun r2 u3 H locs h w => ?_)
        refine lv_i2l (pc := 200) hx hb dX8_digest_200 rfl ?_
        refine lv_ladd (pc := 201) hx hb dX8_digest_201 ?_
        refine lv_topl (fun x1_4 e_ => ?_)
        have h := h x1_4 e_
        refine lv_lstore_n (pc := 202) (lv' := [(1, .long x1_4), (0, .ref (ad 0)), (3, .int x3)]) hx hb dX8_digest_202 rfl hl (by decide) rfl (fun ls hl => ?_)
        obtain ⟨x3_5, e_⟩ : ∃ y : Int32, y = x3 + (1 : Int32) := ⟨_, rfl⟩
        have h := h x3_5 e_
        refine lv_iinc (pc := 203) (v := x3_5) (lv' := [(3, .int x3_5), (1, .long x1_4), (0, .ref (ad 0))]) hx hb dX8_digest_203 hl (k := 2) rfl (by rw [e_]; rfl) (by decide) rfl (fun ls hl => ?_)
        refine lv_goto (pc := 206) (tgt := 181) hx hb dX8_digest_206 (by decide) ?_
        exact ih u3 x1_4 x3_5 H locs ls h w (lv_sub hl [2, 1, 0] rfl)
      · refine Caq_36 1 (by decide) (pc := 196) X w dX8_digest_196 ?_
        refine Ccalli (rest := [.long ((31 : Int64) * x1)]) (CrunV (pc := 197) X w (okX1_scan_i1 l hJ h) kw408 kmX1_scan ⟨rfl, rfl⟩ ⟨by decide, by decide⟩ (Crv_41 X w) rfl hl.1 rfl (Nat.le_of_ble_eq_true rfl) dX8_digest_197) w (fun r2 u3 H locs h w => ?_)
        refine lv_i2l (pc := 200) hx hb dX8_digest_200 rfl ?_
        refine lv_ladd (pc := 201) hx hb dX8_digest_201 ?_
        refine lv_topl (fun x1_4 e_ => ?_)
        have h := h x1_4 e_
        refine lv_lstore_n (pc := 202) (lv' := [(1, .long x1_4), (0, .ref (ad 0)), (3, .int x3)]) hx hb dX8_digest_202 rfl hl (by decide) rfl (fun ls hl => ?_)
        obtain ⟨x3_5, e_⟩ : ∃ y : Int32, y = x3 + (1 : Int32) := ⟨_, rfl⟩
        have h := h x3_5 e_
        refine lv_iinc (pc := 203) (v := x3_5) (lv' := [(3, .int x3_5), (1, .long x1_4), (0, .ref (ad 0))]) hx hb dX8_digest_203 hl (k := 2) rfl (by rw [e_]; rfl) (by decide) rfl (fun ls hl => ?_)
        refine lv_goto (pc := 206) (tgt := 181) hx hb dX8_digest_206 (by decide) ?_
        exact ih u3 x1_4 x3_5 H locs ls h w (lv_sub hl [2, 1, 0] rfl)
      · refine Caq_36 2 (by decide) (pc := 196) X w dX8_digest_196 ?_
        refine Ccalli (rest := [.long ((31 : Int64) * x1)]) (CrunV (pc := 197) X w (okX1_scan_i2 l hJ h) kw408 kmX1_scan ⟨rfl, rfl⟩ ⟨by decide, by decide⟩ (Crv_45 X w) rfl hl.1 rfl (Nat.le_of_ble_eq_true rfl) dX8_digest_197) w (fun r2 u3 H locs h w => ?_)
        refine lv_i2l (pc := 200) hx hb dX8_digest_200 rfl ?_
        refine lv_ladd (pc := 201) hx hb dX8_digest_201 ?_
        refine lv_topl (fun x1_4 e_ => ?_)
        have h := h x1_4 e_
        refine lv_lstore_n (pc := 202) (lv' := [(1, .long x1_4), (0, .ref (ad 0)), (3, .int x3)]) hx hb dX8_digest_202 rfl hl (by decide) rfl (fun ls hl => ?_)
        obtain ⟨x3_5, e_⟩ : ∃ y : Int32, y = x3 + (1 : Int32) := ⟨_, rfl⟩
        have h := h x3_5 e_
        refine lv_iinc (pc := 203) (v := x3_5) (lv' := [(3, .int x3_5), (1, .long x1_4), (0, .ref (ad 0))]) hx hb dX8_digest_203 hl (k := 2) rfl (by rw [e_]; rfl) (by decide) rfl (fun ls hl => ?_)
        refine lv_goto (pc := 206) (tgt := 181) hx hb dX8_digest_206 (by decide) ?_
        exact ih u3 x1_4 x3_5 H locs ls h w (lv_sub hl [2, 1, 0] rfl)
      · refine Caq_36 3 (by decide) (pc := 196) X w dX8_digest_196 ?_
        refine Ccalli (rest := [.long ((31 : Int64) * x1)]) (CrunV (pc := 197) X w (okX1_scan_i3 l hJ h) kw408 kmX1_scan ⟨rfl, rfl⟩ ⟨by decide, by decide⟩ (Crv_49 X w) rfl hl.1 rfl (Nat.le_of_ble_eq_true rfl) dX8_digest_197) w (fun r2 u3 H locs h w => ?_)
        refine lv_i2l (pc := 200) hx hb dX8_digest_200 rfl ?_
        refine lv_ladd (pc := 201) hx hb dX8_digest_201 ?_
        refine lv_topl (fun x1_4 e_ => ?_)
        have h := h x1_4 e_
        refine lv_lstore_n (pc := 202) (lv' := [(1, .long x1_4), (0, .ref (ad 0)), (3, .int x3)]) hx hb dX8_digest_202 rfl hl (by decide) rfl (fun ls hl => ?_)
        obtain ⟨x3_5, e_⟩ : ∃ y : Int32, y = x3 + (1 : Int32) := ⟨_, rfl⟩
        have h := h x3_5 e_
        refine lv_iinc (pc := 203) (v := x3_5) (lv' := [(3, .int x3_5), (1, .long x1_4), (0, .ref (ad 0))]) hx hb dX8_digest_203 hl (k := 2) rfl (by rw [e_]; rfl) (by decide) rfl (fun ls hl => ?_)
        refine lv_goto (pc := 206) (tgt := 181) hx hb dX8_digest_206 (by decide) ?_
        exact ih u3 x1_4 x3_5 H locs ls h w (lv_sub hl [2, 1, 0] rfl)
set_option maxHeartbeats 4000000 in
set_option maxRecDepth 100000 in
theorem bX8_digest_151 {l : Launch} {p : Program} {e : Env} {s : State} {m : MethodId} {args : Array Value} {below : List Frame} {meth : Method} {c : Code} {D : va_G} {g : Nat → ClassId} {ad : Nat → Nat} {Q : Int64 → Mm → Prop} (X : CX p s m args meth c cX8_digest RX8 5 (some .long) (Cond.code yX8_digest cX8_digest 5 (some .long)) D g ad (CA ad)) : ∀ (n : Nat) (u : Mm) (x1 : Int64) (x3 : Int32) (H : Heap) (locs : List Loc) (ls : Array Slot), wX8_digest_b151 Q n u x1 x3 → CWd D g ad (CA ad) s u H locs → lv_has ls 5 [(0, .ref (ad 0)), (1, .long x1), (3, .int x3)] → W p l e ({ frames := 6, cells := 0, slots := 0, locals := 156 } : Room) s m args below meth c H locs 0 0 (MQ below (va_Ql Q (CB D g ad) (CA ad)) args s 0 0 (CA ad)) (F0 m 151 ls []) := by
  obtain ⟨⟨hx, hb, hml, hown, hts⟩, hr, hlocks, hK, hJ, hAA⟩ := id X
  intro n
  induction n with
  | zero =>
    intro u x1 x3 H locs ls h
    exact False.elim h
  | succ n ih =>
    intro u x1 x3 H locs ls h w hl
    unfold wX8_digest_b151 at h
    refine lv_iload_n (pc := 151) hx hb dX8_digest_151 rfl (lv_at hl 2 rfl) ?_
    refine lv_bipush (pc := 152) (v := (6 : Int32)) hx hb dX8_digest_152 (by decide) ?_
    refine lv_icmp_ge (pc := 154) (tgt := 179) hx hb dX8_digest_154 (by decide) (fun c_ => ?_) (fun c_ => ?_)
    · have h := h.1 c_
      refine lv_iconst (pc := 179) (v := (0 : Int32)) hx hb dX8_digest_179 (by decide) ?_
      refine lv_istore_n (pc := 180) (lv' := [(3, .int (0 : Int32)), (0, .ref (ad 0)), (1, .long x1)]) hx hb dX8_digest_180 rfl hl (by decide) rfl (fun ls hl => ?_)
      obtain ⟨n9, h⟩ := h
      exact bX8_digest_181 X n9 u x1 (0 : Int32) H locs ls h w (lv_sub hl [1, 2, 0] rfl)
    · have h := h.2 c_
      refine lv_ldc2 (pc := 157) (v := (31 : Int64)) hx hb hown (hts _ (List.mem_cons_of_mem _ kw481)) dX8_digest_157 ?_
      refine lv_lload_n (pc := 160) hx hb dX8_digest_160 rfl (lv_at hl 1 rfl) ?_
      refine lv_lmul (pc := 161) hx hb dX8_digest_161 ?_
      refine lv_aload_n (pc := 162) hx hb dX8_digest_162 rfl (lv_at hl 0 rfl) ?_
      refine Cgf_0_4 (pc := 163) X w kw386 dX8_digest_163 ?_
      refine lv_iload_n (pc := 166) hx hb dX8_digest_166 rfl (lv_at hl 2 rfl) ?_
      refine lv_iconst (pc := 167) (v := (0 : Int32)) hx hb dX8_digest_167 (by decide) ?_
      refine Ccalll (rest := [.long ((31 : Int64) * x1)]) (CrunV (pc := 168) X w (okX4_netOf l hJ h) kw394 kmX4_netOf ⟨rfl, rfl⟩ ⟨by decide, by decide⟩ (Crv_32 X w) rfl hl.1 rfl (Nat.le_of_ble_eq_true rfl) dX8_digest_168) w (fun r1 u9_ H locs h w => ?_)
      obtain ⟨rfl, h⟩ := h
      refine lv_ladd (pc := 171) hx hb dX8_digest_171 ?_
      refine lv_topl (fun x1_2 e_ => ?_)
      have h := h x1_2 e_
      refine lv_lstore_n (pc := 172) (lv' := [(1, .long x1_2), (0, .ref (ad 0)), (3, .int x3)]) hx hb dX8_digest_172 rfl hl (by decide) rfl (fun ls hl => ?_)
      obtain ⟨x3_3, e_⟩ : ∃ y : Int32, y = x3 + (1 : Int32) := ⟨_, rfl⟩
      have h := h x3_3 e_
      refine lv_iinc (pc := 173) (v := x3_3) (lv' := [(3, .int x3_3), (1, .long x1_2), (0, .ref (ad 0))]) hx hb dX8_digest_173 hl (k := 2) rfl (by rw [e_]; rfl) (by decide) rfl (fun ls hl => ?_)
      refine lv_goto (pc := 176) (tgt := 151) hx hb dX8_digest_176 (by decide) ?_
      exact ih u x1_2 x3_3 H locs ls h w (lv_sub hl [2, 1, 0] rfl)
set_option maxHeartbeats 4000000 in
set_option maxRecDepth 100000 in
theorem bX8_digest_119 {l : Launch} {p : Program} {e : Env} {s : State} {m : MethodId} {args : Array Value} {below : List Frame} {meth : Method} {c : Code} {D : va_G} {g : Nat → ClassId} {ad : Nat → Nat} {Q : Int64 → Mm → Prop} (X : CX p s m args meth c cX8_digest RX8 5 (some .long) (Cond.code yX8_digest cX8_digest 5 (some .long)) D g ad (CA ad)) : ∀ (n : Nat) (u : Mm) (x1 : Int64) (x3 : Int32) (H : Heap) (locs : List Loc) (ls : Array Slot), wX8_digest_b119 Q n u x1 x3 → CWd D g ad (CA ad) s u H locs → lv_has ls 5 [(0, .ref (ad 0)), (1, .long x1), (3, .int x3)] → W p l e ({ frames := 6, cells := 0, slots := 0, locals := 156 } : Room) s m args below meth c H locs 0 0 (MQ below (va_Ql Q (CB D g ad) (CA ad)) args s 0 0 (CA ad)) (F0 m 119 ls []) := by
  obtain ⟨⟨hx, hb, hml, hown, hts⟩, hr, hlocks, hK, hJ, hAA⟩ := id X
  intro n
  induction n with
  | zero =>
    intro u x1 x3 H locs ls h
    exact False.elim h
  | succ n ih =>
    intro u x1 x3 H locs ls h w hl
    unfold wX8_digest_b119 at h
    refine lv_iload_n (pc := 119) hx hb dX8_digest_119 rfl (lv_at hl 2 rfl) ?_
    refine lv_bipush (pc := 120) (v := (6 : Int32)) hx hb dX8_digest_120 (by decide) ?_
    refine lv_icmp_ge (pc := 122) (tgt := 149) hx hb dX8_digest_122 (by decide) (fun c_ => ?_) (fun c_ => ?_)
    · have h := h.1 c_
      refine lv_iconst (pc := 149) (v := (0 : Int32)) hx hb dX8_digest_149 (by decide) ?_
      refine lv_istore_n (pc := 150) (lv' := [(3, .int (0 : Int32)), (0, .ref (ad 0)), (1, .long x1)]) hx hb dX8_digest_150 rfl hl (by decide) rfl (fun ls hl => ?_)
      obtain ⟨n9, h⟩ := h
      exact bX8_digest_151 X n9 u x1 (0 : Int32) H locs ls h w (lv_sub hl [1, 2, 0] rfl)
    · have h := h.2 c_
      refine lv_ldc2 (pc := 125) (v := (31 : Int64)) hx hb hown (hts _ (List.mem_cons_of_mem _ kw481)) dX8_digest_125 ?_
      refine lv_lload_n (pc := 128) hx hb dX8_digest_128 rfl (lv_at hl 1 rfl) ?_
      refine lv_lmul (pc := 129) hx hb dX8_digest_129 ?_
      refine lv_aload_n (pc := 130) hx hb dX8_digest_130 rfl (lv_at hl 0 rfl) ?_
      refine Cgf_0_2 (pc := 131) X w kw348 dX8_digest_131 ?_
      refine lv_iconst (pc := 134) (v := (-1 : Int32)) hx hb dX8_digest_134 (by decide) ?_
      refine lv_iload_n (pc := 135) hx hb dX8_digest_135 rfl (lv_at hl 2 rfl) ?_
      refine lv_bipush (pc := 136) (v := (11 : Int32)) hx hb dX8_digest_136 (by decide) ?_
      refine Ccalll (rest := [.long ((31 : Int64) * x1)]) (CrunV (pc := 138) X w (okX7_chainOf l hJ h) kw359 kmX7_chainOf ⟨rfl, rfl⟩ ⟨by decide, by decide⟩ (Crv_23 X w) rfl hl.1 rfl (Nat.le_of_ble_eq_true rfl) dX8_digest_138) w (fun r1 u9_ H locs h w => ?_)
      obtain ⟨rfl, h⟩ := h
      refine lv_ladd (pc := 141) hx hb dX8_digest_141 ?_
      refine lv_topl (fun x1_2 e_ => ?_)
      have h := h x1_2 e_
      refine lv_lstore_n (pc := 142) (lv' := [(1, .long x1_2), (0, .ref (ad 0)), (3, .int x3)]) hx hb dX8_digest_142 rfl hl (by decide) rfl (fun ls hl => ?_)
      obtain ⟨x3_3, e_⟩ : ∃ y : Int32, y = x3 + (1 : Int32) := ⟨_, rfl⟩
      have h := h x3_3 e_
      refine lv_iinc (pc := 143) (v := x3_3) (lv' := [(3, .int x3_3), (1, .long x1_2), (0, .ref (ad 0))]) hx hb dX8_digest_143 hl (k := 2) rfl (by rw [e_]; rfl) (by decide) rfl (fun ls hl => ?_)
      refine lv_goto (pc := 146) (tgt := 119) hx hb dX8_digest_146 (by decide) ?_
      exact ih u x1_2 x3_3 H locs ls h w (lv_sub hl [2, 1, 0] rfl)
set_option maxHeartbeats 4000000 in
set_option maxRecDepth 100000 in
theorem bX8_digest_70 {l : Launch} {p : Program} {e : Env} {s : State} {m : MethodId} {args : Array Value} {below : List Frame} {meth : Method} {c : Code} {D : va_G} {g : Nat → ClassId} {ad : Nat → Nat} {Q : Int64 → Mm → Prop} (X : CX p s m args meth c cX8_digest RX8 5 (some .long) (Cond.code yX8_digest cX8_digest 5 (some .long)) D g ad (CA ad)) : ∀ (n : Nat) (u : Mm) (x1 : Int64) (x3 : Int32) (H : Heap) (locs : List Loc) (ls : Array Slot), wX8_digest_b70 Q n u x1 x3 → CWd D g ad (CA ad) s u H locs → lv_has ls 5 [(0, .ref (ad 0)), (1, .long x1), (3, .int x3)] → W p l e ({ frames := 6, cells := 0, slots := 0, locals := 156 } : Room) s m args below meth c H locs 0 0 (MQ below (va_Ql Q (CB D g ad) (CA ad)) args s 0 0 (CA ad)) (F0 m 70 ls []) := by
  obtain ⟨⟨hx, hb, hml, hown, hts⟩, hr, hlocks, hK, hJ, hAA⟩ := id X
  intro n
  induction n with
  | zero =>
    intro u x1 x3 H locs ls h
    exact False.elim h
  | succ n ih =>
    intro u x1 x3 H locs ls h w hl
    unfold wX8_digest_b70 at h
    refine lv_iload_n (pc := 70) hx hb dX8_digest_70 rfl (lv_at hl 2 rfl) ?_
    refine lv_bipush (pc := 71) (v := (6 : Int32)) hx hb dX8_digest_71 (by decide) ?_
    refine lv_icmp_ge (pc := 73) (tgt := 117) hx hb dX8_digest_73 (by decide) (fun c_ => ?_) (fun c_ => ?_)
    · have h := h.1 c_
      refine lv_iconst (pc := 117) (v := (0 : Int32)) hx hb dX8_digest_117 (by decide) ?_
      refine lv_istore_n (pc := 118) (lv' := [(3, .int (0 : Int32)), (0, .ref (ad 0)), (1, .long x1)]) hx hb dX8_digest_118 rfl hl (by decide) rfl (fun ls hl => ?_)
      obtain ⟨n9, h⟩ := h
      exact bX8_digest_119 X n9 u x1 (0 : Int32) H locs ls h w (lv_sub hl [1, 2, 0] rfl)
    · have h := h.2 c_
      refine lv_iconst (pc := 76) (v := (0 : Int32)) hx hb dX8_digest_76 (by decide) ?_
      refine lv_istore (pc := 77) (lv' := [(4, .int (0 : Int32)), (0, .ref (ad 0)), (1, .long x1), (3, .int x3)]) hx hb dX8_digest_77 hl (by decide) rfl (fun ls hl => ?_)
      obtain ⟨n9, h⟩ := h
      refine bX8_digest_79 X ?_ n9 u x1 x3 (0 : Int32) H locs ls h w (lv_sub hl [1, 2, 3, 0] rfl)
      · intro u x1 x3 H locs ls h w hl
        exact ih u x1 x3 H locs ls h w (lv_sub hl [0, 1, 2] rfl)
set_option maxHeartbeats 4000000 in
set_option maxRecDepth 100000 in
theorem bX8_digest_13 {l : Launch} {p : Program} {e : Env} {s : State} {m : MethodId} {args : Array Value} {below : List Frame} {meth : Method} {c : Code} {D : va_G} {g : Nat → ClassId} {ad : Nat → Nat} {Q : Int64 → Mm → Prop} (X : CX p s m args meth c cX8_digest RX8 5 (some .long) (Cond.code yX8_digest cX8_digest 5 (some .long)) D g ad (CA ad)) : ∀ (n : Nat) (u : Mm) (x1 : Int64) (x3 : Int32) (H : Heap) (locs : List Loc) (ls : Array Slot), wX8_digest_b13 Q n u x1 x3 → CWd D g ad (CA ad) s u H locs → lv_has ls 5 [(0, .ref (ad 0)), (1, .long x1), (3, .int x3)] → W p l e ({ frames := 6, cells := 0, slots := 0, locals := 156 } : Room) s m args below meth c H locs 0 0 (MQ below (va_Ql Q (CB D g ad) (CA ad)) args s 0 0 (CA ad)) (F0 m 13 ls []) := by
  obtain ⟨⟨hx, hb, hml, hown, hts⟩, hr, hlocks, hK, hJ, hAA⟩ := id X
  intro n
  induction n with
  | zero =>
    intro u x1 x3 H locs ls h
    exact False.elim h
  | succ n ih =>
    intro u x1 x3 H locs ls h w hl
    unfold wX8_digest_b13 at h
    refine lv_iload_n (pc := 13) hx hb dX8_digest_13 rfl (lv_at hl 2 rfl) ?_
    refine lv_bipush (pc := 14) (v := (8 : Int32)) hx hb dX8_digest_14 (by decide) ?_
    refine lv_icmp_ge (pc := 16) (tgt := 38) hx hb dX8_digest_16 (by decide) (fun c_ => ?_) (fun c_ => ?_)
    · have h := h.1 c_
      refine lv_ldc2 (pc := 38) (v := (31 : Int64)) hx hb hown (hts _ (List.mem_cons_of_mem _ kw481)) dX8_digest_38 ?_
      refine lv_lload_n (pc := 41) hx hb dX8_digest_41 rfl (lv_at hl 1 rfl) ?_
      refine lv_lmul (pc := 42) hx hb dX8_digest_42 ?_
      refine lv_aload_n (pc := 43) hx hb dX8_digest_43 rfl (lv_at hl 0 rfl) ?_
      refine Cgf_0_1 (pc := 44) X w kw264 dX8_digest_44 ?_
      refine Ccalli (rest := [.long ((31 : Int64) * x1)]) (CrunV (pc := 47) X w (okX6_howManyOpen l hJ h) kw336 kmX6_howManyOpen ⟨rfl, rfl⟩ ⟨by decide, by decide⟩ (Crv_10 X w) rfl hl.1 rfl (Nat.le_of_ble_eq_true rfl) dX8_digest_47) w (fun r1 u9_ H locs h w => ?_)
      obtain ⟨rfl, h⟩ := h
      refine lv_i2l (pc := 50) hx hb dX8_digest_50 rfl ?_
      refine lv_ladd (pc := 51) hx hb dX8_digest_51 ?_
      refine lv_topl (fun x1_2 e_ => ?_)
      have h := h x1_2 e_
      refine lv_lstore_n (pc := 52) (lv' := [(1, .long x1_2), (0, .ref (ad 0)), (3, .int x3)]) hx hb dX8_digest_52 rfl hl (by decide) rfl (fun ls hl => ?_)
      refine lv_ldc2 (pc := 53) (v := (31 : Int64)) hx hb hown (hts _ (List.mem_cons_of_mem _ kw481)) dX8_digest_53 ?_
      refine lv_lload_n (pc := 56) hx hb dX8_digest_56 rfl (lv_at hl 0 rfl) ?_
      refine lv_lmul (pc := 57) hx hb dX8_digest_57 ?_
      refine lv_aload_n (pc := 58) hx hb dX8_digest_58 rfl (lv_at hl 1 rfl) ?_
      refine Cgf_0_1 (pc := 59) X w kw264 dX8_digest_59 ?_
      refine Ccalli (rest := [.long ((31 : Int64) * x1_2)]) (CrunV (pc := 62) X w (okX6_howManyBroken l hJ h) kw340 kmX6_howManyBroken ⟨rfl, rfl⟩ ⟨by decide, by decide⟩ (Crv_10 X w) rfl hl.1 rfl (Nat.le_of_ble_eq_true rfl) dX8_digest_62) w (fun r3 u9_ H locs h w => ?_)
      obtain ⟨rfl, h⟩ := h
      refine lv_i2l (pc := 65) hx hb dX8_digest_65 rfl ?_
      refine lv_ladd (pc := 66) hx hb dX8_digest_66 ?_
      refine lv_topl (fun x1_4 e_ => ?_)
      have h := h x1_4 e_
      refine lv_lstore_n (pc := 67) (lv' := [(1, .long x1_4), (0, .ref (ad 0)), (3, .int x3)]) hx hb dX8_digest_67 rfl hl (by decide) rfl (fun ls hl => ?_)
      refine lv_iconst (pc := 68) (v := (0 : Int32)) hx hb dX8_digest_68 (by decide) ?_
      refine lv_istore_n (pc := 69) (lv' := [(3, .int (0 : Int32)), (1, .long x1_4), (0, .ref (ad 0))]) hx hb dX8_digest_69 rfl hl (by decide) rfl (fun ls hl => ?_)
      obtain ⟨n9, h⟩ := h
      exact bX8_digest_70 X n9 u x1_4 (0 : Int32) H locs ls h w (lv_sub hl [2, 1, 0] rfl)
    · have h := h.2 c_
      refine lv_ldc2 (pc := 19) (v := (31 : Int64)) hx hb hown (hts _ (List.mem_cons_of_mem _ kw481)) dX8_digest_19 ?_
      refine lv_lload_n (pc := 22) hx hb dX8_digest_22 rfl (lv_at hl 1 rfl) ?_
      refine lv_lmul (pc := 23) hx hb dX8_digest_23 ?_
      refine lv_aload_n (pc := 24) hx hb dX8_digest_24 rfl (lv_at hl 0 rfl) ?_
      refine lv_iload_n (pc := 25) hx hb dX8_digest_25 rfl (lv_at hl 2 rfl) ?_
      refine Ccalli (rest := [.long ((31 : Int64) * x1)]) (CrunV (pc := 26) X w (okX8_count l hJ h) kw482 kmX8_count ⟨rfl, rfl⟩ ⟨by decide, by decide⟩ (Crv_0 X w) rfl hl.1 rfl (Nat.le_of_ble_eq_true rfl) dX8_digest_26) w (fun r5 u6 H locs h w => ?_)
      refine lv_i2l (pc := 29) hx hb dX8_digest_29 rfl ?_
      refine lv_ladd (pc := 30) hx hb dX8_digest_30 ?_
      refine lv_topl (fun x1_7 e_ => ?_)
      have h := h x1_7 e_
      refine lv_lstore_n (pc := 31) (lv' := [(1, .long x1_7), (0, .ref (ad 0)), (3, .int x3)]) hx hb dX8_digest_31 rfl hl (by decide) rfl (fun ls hl => ?_)
      obtain ⟨x3_8, e_⟩ : ∃ y : Int32, y = x3 + (1 : Int32) := ⟨_, rfl⟩
      have h := h x3_8 e_
      refine lv_iinc (pc := 32) (v := x3_8) (lv' := [(3, .int x3_8), (1, .long x1_7), (0, .ref (ad 0))]) hx hb dX8_digest_32 hl (k := 2) rfl (by rw [e_]; rfl) (by decide) rfl (fun ls hl => ?_)
      refine lv_goto (pc := 35) (tgt := 13) hx hb dX8_digest_35 (by decide) ?_
      exact ih u6 x1_7 x3_8 H locs ls h w (lv_sub hl [2, 1, 0] rfl)
set_option maxHeartbeats 4000000 in
set_option maxRecDepth 100000 in
theorem okX8_digest (l : Launch) {D : va_G} {g : Nat → ClassId} {ad : Nat → Nat} (hJ : CJ ad) {u : Mm} {Q : Int64 → Mm → Prop} (h : wX8_digest u Q) : Met l yX8_digest (Cond.code yX8_digest cX8_digest 5 (some .long) :: gt) ({ frames := 6, cells := 0, slots := 0, locals := 156 } : Room) (CPc D g ad u [.ref (ad 0)]) (va_Ql Q (CB D g ad) (CA ad)) 0 0 (CA ad) := by
  refine Met.ofW (cc := cX8_digest) (maxL := 5) (ret := (some .long)) (by decide) rfl ?_
  intro p e s m args below meth c s₁ B hml hv
  refine Centry (own := RX8) B hml hv hJ rfl (Nat.le_of_ble_eq_true rfl) (fun ls H locs X w hl => ?_)
  obtain ⟨⟨hx, hb, hml, hown, hts⟩, hr, hlocks, hK, hJ, hAA⟩ := id X
  have hl : lv_has ls 5 [(0, .ref (ad 0))] := hl
  unfold wX8_digest at h
  refine lv_aload_n (pc := 0) hx hb dX8_digest_0 rfl (lv_at hl 0 rfl) ?_
  refine Cgf_0_1 (pc := 1) X w kw264 dX8_digest_1 ?_
  refine Ccallv (rest := []) (CrunV (pc := 4) X w (okX6_settleAll l hJ h) kw331 kmX6_settleAll ⟨rfl, rfl⟩ ⟨by decide, by decide⟩ (Crv_10 X w) rfl hl.1 rfl (Nat.le_of_ble_eq_true rfl) dX8_digest_4) w (fun u2 H locs h w => ?_)
  refine lv_ldc2 (pc := 7) (v := (17 : Int64)) hx hb hown (hts _ (List.mem_cons_of_mem _ kw480)) dX8_digest_7 ?_
  refine lv_lstore_n (pc := 10) (lv' := [(1, .long (17 : Int64)), (0, .ref (ad 0))]) hx hb dX8_digest_10 rfl hl (by decide) rfl (fun ls hl => ?_)
  refine lv_iconst (pc := 11) (v := (0 : Int32)) hx hb dX8_digest_11 (by decide) ?_
  refine lv_istore_n (pc := 12) (lv' := [(3, .int (0 : Int32)), (1, .long (17 : Int64)), (0, .ref (ad 0))]) hx hb dX8_digest_12 rfl hl (by decide) rfl (fun ls hl => ?_)
  obtain ⟨n9, h⟩ := h
  exact bX8_digest_13 X n9 u2 (17 : Int64) (0 : Int32) H locs ls h w (lv_sub hl [2, 1, 0] rfl)
