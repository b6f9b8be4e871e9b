set_option maxHeartbeats 4000000 in
set_option maxRecDepth 100000 in
theorem bX9_digest_74 {l : Launch} {p : Program} {e : Env} {s : State} {m : MethodId} {args : Array Value} {below : List Frame} {meth : Method} {c : Code} {D : va_G} {g : Nat → ClassId} {ad : Nat → Nat} {Q : Int64 → Mm → Prop} {k64 : Mm → Int64 → Int32 → Prop} (X : RX p s m args meth c cX9_digest RX9 7 (some .long) (Cond.code yX9_digest cX9_digest 7 (some .long)) D g ad (RA ad)) (hk64 : ∀ (u : Mm) (x1 : Int64) (x4 : Int32) (H : Heap) (locs : List Loc) (ls : Array Slot), k64 u x1 x4 → RWd D g ad (RA ad) s u H locs → lv_has ls 7 [(0, .ref (ad 0)), (1, .long x1), (4, .int x4)] → W p l e ({ frames := 7, cells := 0, slots := 0, locals := 178 } : Room) s m args below meth c H locs 0 0 (MQ below (va_Ql Q (RB D g ad) (RA ad)) args s 0 0 (RA ad)) (F0 m 64 ls [])) : ∀ (n : Nat) (u : Mm) (x1 : Int64) (x4 : Int32) (x5 : Int32) (H : Heap) (locs : List Loc) (ls : Array Slot), wX9_digest_b74 k64 Q n u x1 x4 x5 → RWd D g ad (RA ad) s u H locs → lv_has ls 7 [(0, .ref (ad 0)), (1, .long x1), (4, .int x4), (5, .int x5)] → W p l e ({ frames := 7, cells := 0, slots := 0, locals := 178 } : Room) s m args below meth c H locs 0 0 (MQ below (va_Ql Q (RB D g ad) (RA ad)) args s 0 0 (RA ad)) (F0 m 74 ls []) := by
  obtain ⟨⟨hx, hb, hml, hown, hts⟩, hr, hlocks, hK, hJ, hAA⟩ := id X
  intro n
  induction n with
  | zero =>
    intro u x1 x4 x5 H locs ls h
    exact False.elim h
  | succ n ih =>
    intro u x1 x4 x5 H locs ls h w hl
    unfold wX9_digest_b74 at h
    refine lv_iload (pc := 74) hx hb dX9_digest_74 (lv_at hl 3 rfl) ?_
    refine lv_bipush (pc := 76) (v := (12 : Int32)) hx hb dX9_digest_76 (by decide) ?_
    refine lv_icmp_ge (pc := 78) (tgt := 104) hx hb dX9_digest_78 (by decide) (fun c_ => ?_) (fun c_ => ?_)
    · have h := h.1 c_
      obtain ⟨x4_1, e_⟩ : ∃ y : Int32, y = x4 + (1 : Int32) := ⟨_, rfl⟩
      have h := h x4_1 e_
      refine lv_iinc (pc := 104) (v := x4_1) (lv' := [(4, .int x4_1), (0, .ref (ad 0)), (1, .long x1), (5, .int x5)]) hx hb dX9_digest_104 hl (k := 2) rfl (by rw [e_]; rfl) (by decide) rfl (fun ls hl => ?_)
      refine lv_goto (pc := 107) (tgt := 64) hx hb dX9_digest_107 (by decide) ?_
      exact hk64 u x1 x4_1 H locs ls h w (lv_sub hl [1, 2, 0] rfl)
    · have h := h.2 c_
      refine lv_ldc2 (pc := 81) (v := (31 : Int64)) hx hb hown (hts _ (List.mem_cons_of_mem _ kw756)) dX9_digest_81 ?_
      refine lv_lload_n (pc := 84) hx hb dX9_digest_84 rfl (lv_at hl 1 rfl) ?_
      refine lv_lmul (pc := 85) hx hb dX9_digest_85 ?_
      refine lv_aload_n (pc := 86) hx hb dX9_digest_86 rfl (lv_at hl 0 rfl) ?_
      refine lv_iconst (pc := 87) (v := (-1 : Int32)) hx hb dX9_digest_87 (by decide) ?_
      refine lv_iconst (pc := 88) (v := (-1 : Int32)) hx hb dX9_digest_88 (by decide) ?_
      refine lv_iload (pc := 89) hx hb dX9_digest_89 (lv_at hl 2 rfl) ?_
      refine lv_iload (pc := 91) hx hb dX9_digest_91 (lv_at hl 3 rfl) ?_
      refine Rcalll (rest := [.long ((31 : Int64) * x1)]) (RrunV (pc := 93) X w (okX9_totalOf l hJ h) kw605 kmX9_totalOf ⟨rfl, rfl⟩ ⟨by decide, by decide⟩ (Rrv_0 X w) rfl hl.1 rfl (Nat.le_of_ble_eq_true rfl) dX9_digest_93) w (fun r2 u9_ H locs h w => ?_)
      obtain ⟨rfl, h⟩ := h
      refine lv_ladd (pc := 96) hx hb dX9_digest_96 ?_
      refine lv_topl (fun x1_3 e_ => ?_)
      have h := h x1_3 e_
      refine lv_lstore_n (pc := 97) (lv' := [(1, .long x1_3), (0, .ref (ad 0)), (4, .int x4), (5, .int x5)]) hx hb dX9_digest_97 rfl hl (by decide) rfl (fun ls hl => ?_)
      obtain ⟨x5_4, e_⟩ : ∃ y : Int32, y = x5 + (1 : Int32) := ⟨_, rfl⟩
      have h := h x5_4 e_
      refine lv_iinc (pc := 98) (v := x5_4) (lv' := [(5, .int x5_4), (1, .long x1_3), (0, .ref (ad 0)), (4, .int x4)]) hx hb dX9_digest_98 hl (k := 3) rfl (by rw [e_]; rfl) (by decide) rfl (fun ls hl => ?_)
      refine lv_goto (pc := 101) (tgt := 74) hx hb dX9_digest_101 (by decide) ?_
      exact ih u x1_3 x4 x5_4 H locs ls h w (lv_sub hl [2, 1, 3, 0] rfl)
set_option maxHeartbeats 4000000 in
set_option maxRecDepth 100000 in
theorem bX9_digest_175 {l : Launch} {p : Program} {e : Env} {s : State} {m : MethodId} {args : Array Value} {below : List Frame} {meth : Method} {c : Code} {D : va_G} {g : Nat → ClassId} {ad : Nat → Nat} {Q : Int64 → Mm → Prop} (X : RX p s m args meth c cX9_digest RX9 7 (some .long) (Cond.code yX9_digest cX9_digest 7 (some .long)) D g ad (RA ad)) : ∀ (n : Nat) (u : Mm) (x1 : Int64) (x4 : Int32) (H : Heap) (locs : List Loc) (ls : Array Slot), wX9_digest_b175 Q n u x1 x4 → RWd D g ad (RA ad) s u H locs → lv_has ls 7 [(0, .ref (ad 0)), (1, .long x1), (4, .int x4)] → W p l e ({ frames := 7, cells := 0, slots := 0, locals := 178 } : Room) s m args below meth c H locs 0 0 (MQ below (va_Ql Q (RB D g ad) (RA ad)) args s 0 0 (RA ad)) (F0 m 175 ls []) := by
  obtain ⟨⟨hx, hb, hml, hown, hts⟩, hr, hlocks, hK, hJ, hAA⟩ := id X
  intro n
  induction n with
  | zero =>
    intro u x1 x4 H locs ls h
    exact False.elim h
  | succ n ih =>
    intro u x1 x4 H locs ls h w hl
    unfold wX9_digest_b175 at h
    refine lv_iload (pc := 175) hx hb dX9_digest_175 (lv_at hl 2 rfl) ?_
    refine lv_iconst (pc := 177) (v := (4 : Int32)) hx hb dX9_digest_177 (by decide) ?_
    refine lv_icmp_ge (pc := 178) (tgt := 208) hx hb dX9_digest_178 (by decide) (fun c_ => ?_) (fun c_ => ?_)
    · have h := h.1 c_
      refine lv_lload_n (pc := 208) hx hb dX9_digest_208 rfl (lv_at hl 1 rfl) ?_
      exact Rlret (pc := 209) X w h dX9_digest_209
    · have h := h.2 c_
      refine lv_aload_n (pc := 181) hx hb dX9_digest_181 rfl (lv_at hl 0 rfl) ?_
      refine lv_iload (pc := 182) hx hb dX9_digest_182 (lv_at hl 2 rfl) ?_
      refine lv_iconst (pc := 184) (v := (0 : Int32)) hx hb dX9_digest_184 (by decide) ?_
      refine Rcalll (rest := []) (RrunV (pc := 185) X w (okX9_reads l hJ h) kw712 kmX9_reads ⟨rfl, rfl⟩ ⟨by decide, by decide⟩ (Rrv_0 X w) rfl hl.1 rfl (Nat.le_of_ble_eq_true rfl) dX9_digest_185) w (fun r1 u2 H locs h w => ?_)
      refine lv_lstore (pc := 188) (lv' := [(5, .long r1), (0, .ref (ad 0)), (1, .long x1), (4, .int x4)]) hx hb dX9_digest_188 hl (by decide) rfl (fun ls hl => ?_)
      refine lv_ldc2 (pc := 190) (v := (31 : Int64)) hx hb hown (hts _ (List.mem_cons_of_mem _ kw756)) dX9_digest_190 ?_
      refine lv_lload_n (pc := 193) hx hb dX9_digest_193 rfl (lv_at hl 2 rfl) ?_
      refine lv_lmul (pc := 194) hx hb dX9_digest_194 ?_
      refine lv_aload_n (pc := 195) hx hb dX9_digest_195 rfl (lv_at hl 1 rfl) ?_
      refine Rgf_0_33 (pc := 196) X w kw694 dX9_digest_196 ?_
      refine lv_i2l (pc := 199) hx hb dX9_digest_199 rfl ?_
      refine lv_ladd (pc := 200) hx hb dX9_digest_200 ?_
      refine lv_topl (fun x1_3 e_ => ?_)
      have h := h x1_3 e_
      refine lv_lstore_n (pc := 201) (lv' := [(1, .long x1_3), (5, .long r1), (0, .ref (ad 0)), (4, .int x4)]) hx hb dX9_digest_201 rfl hl (by decide) rfl (fun ls hl => ?_)
      obtain ⟨x4_4, e_⟩ : ∃ y : Int32, y = x4 + (1 : Int32) := ⟨_, rfl⟩
      have h := h x4_4 e_
      refine lv_iinc (pc := 202) (v := x4_4) (lv' := [(4, .int x4_4), (1, .long x1_3), (5, .long r1), (0, .ref (ad 0))]) hx hb dX9_digest_202 hl (k := 3) rfl (by rw [e_]; rfl) (by decide) rfl (fun ls hl => ?_)
      refine lv_goto (pc := 205) (tgt := 175) hx hb dX9_digest_205 (by decide) ?_
      exact ih u2 x1_3 x4_4 H locs ls h w (lv_sub hl [3, 1, 0] rfl)
set_option maxHeartbeats 4000000 in
set_option maxRecDepth 100000 in
theorem bX9_digest_145 {l : Launch} {p : Program} {e : Env} {s : State} {m : MethodId} {args : Array Value} {below : List Frame} {meth : Method} {c : Code} {D : va_G} {g : Nat → ClassId} {ad : Nat → Nat} {Q : Int64 → Mm → Prop} (X : RX p s m args meth c cX9_digest RX9 7 (some .long) (Cond.code yX9_digest cX9_digest 7 (some .long)) D g ad (RA ad)) : ∀ (n : Nat) (u : Mm) (x1 : Int64) (x4 : Int32) (H : Heap) (locs : List Loc) (ls : Array Slot), wX9_digest_b145 Q n u x1 x4 → RWd D g ad (RA ad) s u H locs → lv_has ls 7 [(0, .ref (ad 0)), (1, .long x1), (4, .int x4)] → W p l e ({ frames := 7, cells := 0, slots := 0, locals := 178 } : Room) s m args below meth c H locs 0 0 (MQ below (va_Ql Q (RB D g ad) (RA ad)) args s 0 0 (RA ad)) (F0 m 145 ls []) := by
  obtain ⟨⟨hx, hb, hml, hown, hts⟩, hr, hlocks, hK, hJ, hAA⟩ := id X
  intro n
  induction n with
  | zero =>
    intro u x1 x4 H locs ls h
    exact False.elim h
  | succ n ih =>
    intro u x1 x4 H locs ls h w hl
    unfold wX9_digest_b145 at h
    refine lv_iload (pc := 145) hx hb dX9_digest_145 (lv_at hl 2 rfl) ?_
    refine lv_bipush (pc := 147) (v := (6 : Int32)) hx hb dX9_digest_147 (by decide) ?_
    refine lv_icmp_ge (pc := 149) (tgt := 172) hx hb dX9_digest_149 (by decide) (fun c_ => ?_) (fun c_ => ?_)
    · have h := h.1 c_
      refine lv_iconst (pc := 172) (v := (0 : Int32)) hx hb dX9_digest_172 (by decide) ?_
      refine lv_istore (pc := 173) (lv' := [(4, .int (0 : Int32)), (0, .ref (ad 0)), (1, .long x1)]) hx hb dX9_digest_173 hl (by decide) rfl (fun ls hl => ?_)
      obtain ⟨n9, h⟩ := h
      exact bX9_digest_175 X n9 u x1 (0 : Int32) H locs ls h w (lv_sub hl [1, 2, 0] rfl)
    · have h := h.2 c_
      refine lv_ldc2 (pc := 152) (v := (31 : Int64)) hx hb hown (hts _ (List.mem_cons_of_mem _ kw756)) dX9_digest_152 ?_
      refine lv_lload_n (pc := 155) hx hb dX9_digest_155 rfl (lv_at hl 1 rfl) ?_
      refine lv_lmul (pc := 156) hx hb dX9_digest_156 ?_
      refine lv_aload_n (pc := 157) hx hb dX9_digest_157 rfl (lv_at hl 0 rfl) ?_
      refine lv_iload (pc := 158) hx hb dX9_digest_158 (lv_at hl 2 rfl) ?_
      refine lv_iconst (pc := 160) (v := (0 : Int32)) hx hb dX9_digest_160 (by decide) ?_
      refine Rcalll (rest := [.long ((31 : Int64) * x1)]) (RrunV (pc := 161) X w (okX9_netOf l hJ h) kw670 kmX9_netOf ⟨rfl, rfl⟩ ⟨by decide, by decide⟩ (Rrv_0 X w) rfl hl.1 rfl (Nat.le_of_ble_eq_true rfl) dX9_digest_161) w (fun r1 u9_ H locs h w => ?_)
      obtain ⟨rfl, h⟩ := h
      refine lv_ladd (pc := 164) hx hb dX9_digest_164 ?_
      refine lv_topl (fun x1_2 e_ => ?_)
      have h := h x1_2 e_
      refine lv_lstore_n (pc := 165) (lv' := [(1, .long x1_2), (0, .ref (ad 0)), (4, .int x4)]) hx hb dX9_digest_165 rfl hl (by decide) rfl (fun ls hl => ?_)
      obtain ⟨x4_3, e_⟩ : ∃ y : Int32, y = x4 + (1 : Int32) := ⟨_, rfl⟩
      have h := h x4_3 e_
      refine lv_iinc (pc := 166) (v := x4_3) (lv' := [(4, .int x4_3), (1, .long x1_2), (0, .ref (ad 0))]) hx hb dX9_digest_166 hl (k := 2) rfl (by rw [e_]; rfl) (by decide) rfl (fun ls hl => ?_)
      refine lv_goto (pc := 169) (tgt := 145) hx hb dX9_digest_169 (by decide) ?_
      exact ih u x1_2 x4_3 H locs ls h w (lv_sub hl [2, 1, 0] rfl)
set_option maxHeartbeats 4000000 in
set_option maxRecDepth 100000 in
theorem bX9_digest_113 {l : Launch} {p : Program} {e : Env} {s : State} {m : MethodId} {args : Array Value} {below : List Frame} {meth : Method} {c : Code} {D : va_G} {g : Nat → ClassId} {ad : Nat → Nat} {Q : Int64 → Mm → Prop} (X : RX p s m args meth c cX9_digest RX9 7 (some .long) (Cond.code yX9_digest cX9_digest 7 (some .long)) D g ad (RA ad)) : ∀ (n : Nat) (u : Mm) (x1 : Int64) (x4 : Int32) (H : Heap) (locs : List Loc) (ls : Array Slot), wX9_digest_b113 Q n u x1 x4 → RWd D g ad (RA ad) s u H locs → lv_has ls 7 [(0, .ref (ad 0)), (1, .long x1), (4, .int x4)] → W p l e ({ frames := 7, cells := 0, slots := 0, locals := 178 } : Room) s m args below meth c H locs 0 0 (MQ below (va_Ql Q (RB D g ad) (RA ad)) args s 0 0 (RA ad)) (F0 m 113 ls []) := by
  obtain ⟨⟨hx, hb, hml, hown, hts⟩, hr, hlocks, hK, hJ, hAA⟩ := id X
  intro n
  induction n with
  | zero =>
    intro u x1 x4 H locs ls h
    exact False.elim h
  | succ n ih =>
    intro u x1 x4 H locs ls h w hl
    unfold wX9_digest_b113 at h
    refine lv_iload (pc := 113) hx hb dX9_digest_113 (lv_at hl 2 rfl) ?_
    refine lv_bipush (pc := 115) (v := (6 : Int32)) hx hb dX9_digest_115 (by decide) ?_
    refine lv_icmp_ge (pc := 117) (tgt := 142) hx hb dX9_digest_117 (by decide) (fun c_ => ?_) (fun c_ => ?_)
    · have h := h.1 c_
      refine lv_iconst (pc := 142) (v := (0 : Int32)) hx hb dX9_digest_142 (by decide) ?_
      refine lv_istore (pc := 143) (lv' := [(4, .int (0 : Int32)), (0, .ref (ad 0)), (1, .long x1)]) hx hb dX9_digest_143 hl (by decide) rfl (fun ls hl => ?_)
      obtain ⟨n9, h⟩ := h
      exact bX9_digest_145 X n9 u x1 (0 : Int32) H locs ls h w (lv_sub hl [1, 2, 0] rfl)
    · have h := h.2 c_
      refine lv_ldc2 (pc := 120) (v := (31 : Int64)) hx hb hown (hts _ (List.mem_cons_of_mem _ kw756)) dX9_digest_120 ?_
      refine lv_lload_n (pc := 123) hx hb dX9_digest_123 rfl (lv_at hl 1 rfl) ?_
      refine lv_lmul (pc := 124) hx hb dX9_digest_124 ?_
      refine lv_aload_n (pc := 125) hx hb dX9_digest_125 rfl (lv_at hl 0 rfl) ?_
      refine lv_iconst (pc := 126) (v := (-1 : Int32)) hx hb dX9_digest_126 (by decide) ?_
      refine lv_iload (pc := 127) hx hb dX9_digest_127 (lv_at hl 2 rfl) ?_
      refine lv_bipush (pc := 129) (v := (11 : Int32)) hx hb dX9_digest_129 (by decide) ?_
      refine Rcalll (rest := [.long ((31 : Int64) * x1)]) (RrunV (pc := 131) X w (okX9_chainOf l hJ h) kw647 kmX9_chainOf ⟨rfl, rfl⟩ ⟨by decide, by decide⟩ (Rrv_0 X w) rfl hl.1 rfl (Nat.le_of_ble_eq_true rfl) dX9_digest_131) w (fun r1 u9_ H locs h w => ?_)
      obtain ⟨rfl, h⟩ := h
      refine lv_ladd (pc := 134) hx hb dX9_digest_134 ?_
      refine lv_topl (fun x1_2 e_ => ?_)
      have h := h x1_2 e_
      refine lv_lstore_n (pc := 135) (lv' := [(1, .long x1_2), (0, .ref (ad 0)), (4, .int x4)]) hx hb dX9_digest_135 rfl hl (by decide) rfl (fun ls hl => ?_)
      obtain ⟨x4_3, e_⟩ : ∃ y : Int32, y = x4 + (1 : Int32) := ⟨_, rfl⟩
      have h := h x4_3 e_
      refine lv_iinc (pc := 136) (v := x4_3) (lv' := [(4, .int x4_3), (1, .long x1_2), (0, .ref (ad 0))]) hx hb dX9_digest_136 hl (k := 2) rfl (by rw [e_]; rfl) (by decide) rfl (fun ls hl => ?_)
      refine lv_goto (pc := 139) (tgt := 113) hx hb dX9_digest_139 (by decide) ?_
      exact ih u x1_2 x4_3 H locs ls h w (lv_sub hl [2, 1, 0] rfl)
set_option maxHeartbeats 4000000 in
set_option maxRecDepth 100000 in
theorem bX9_digest_64 {l : Launch} {p : Program} {e : Env} {s : State} {m : MethodId} {args : Array Value} {below : List Frame} {meth : Method} {c : Code} {D : va_G} {g : Nat → ClassId} {ad : Nat → Nat} {Q : Int64 → Mm → Prop} (X : RX p s m args meth c cX9_digest RX9 7 (some .long) (Cond.code yX9_digest cX9_digest 7 (some .long)) D g ad (RA ad)) : ∀ (n : Nat) (u : Mm) (x1 : Int64) (x4 : Int32) (H : Heap) (locs : List Loc) (ls : Array Slot), wX9_digest_b64 Q n u x1 x4 → RWd D g ad (RA ad) s u H locs → lv_has ls 7 [(0, .ref (ad 0)), (1, .long x1), (4, .int x4)] → W p l e ({ frames := 7, cells := 0, slots := 0, locals := 178 } : Room) s m args below meth c H locs 0 0 (MQ below (va_Ql Q (RB D g ad) (RA ad)) args s 0 0 (RA ad)) (F0 m 64 ls []) := by
  obtain ⟨⟨hx, hb, hml, hown, hts⟩, hr, hlocks, hK, hJ, hAA⟩ := id X
  intro n
  induction n with
  | zero =>
    intro u x1 x4 H locs ls h
    exact False.elim h
  | succ n ih =>
    intro u x1 x4 H locs ls h w hl
    unfold wX9_digest_b64 at h
    refine lv_iload (pc := 64) hx hb dX9_digest_64 (lv_at hl 2 rfl) ?_
    refine lv_bipush (pc := 66) (v := (6 : Int32)) hx hb dX9_digest_66 (by decide) ?_
    refine lv_icmp_ge (pc := 68) (tgt := 110) hx hb dX9_digest_68 (by decide) (fun c_ => ?_) (fun c_ => ?_)
    · have h := h.1 c_
      refine lv_iconst (pc := 110) (v := (0 : Int32)) hx hb dX9_digest_110 (by decide) ?_
      refine lv_istore (pc := 111) (lv' := [(4, .int (0 : Int32)), (0, .ref (ad 0)), (1, .long x1)]) hx hb dX9_digest_111 hl (by decide) rfl (fun ls hl => ?_)
      obtain ⟨n9, h⟩ := h
      exact bX9_digest_113 X n9 u x1 (0 : Int32) H locs ls h w (lv_sub hl [1, 2, 0] rfl)
    · have h := h.2 c_
      refine lv_iconst (pc := 71) (v := (0 : Int32)) hx hb dX9_digest_71 (by decide) ?_
      refine lv_istore (pc := 72) (lv' := [(5, .int (0 : Int32)), (0, .ref (ad 0)), (1, .long x1), (4, .int x4)]) hx hb dX9_digest_72 hl (by decide) rfl (fun ls hl => ?_)
      obtain ⟨n9, h⟩ := h
      refine bX9_digest_74 X ?_ n9 u x1 x4 (0 : Int32) H locs ls h w (lv_sub hl [1, 2, 3, 0] rfl)
      · intro u x1 x4 H locs ls h w hl
        exact ih u x1 x4 H locs ls h w (lv_sub hl [0, 1, 2] rfl)
set_option maxHeartbeats 4000000 in
set_option maxRecDepth 100000 in
theorem bX9_digest_6 {l : Launch} {p : Program} {e : Env} {s : State} {m : MethodId} {args : Array Value} {below : List Frame} {meth : Method} {c : Code} {D : va_G} {g : Nat → ClassId} {ad : Nat → Nat} {Q : Int64 → Mm → Prop} (X : RX p s m args meth c cX9_digest RX9 7 (some .long) (Cond.code yX9_digest cX9_digest 7 (some .long)) D g ad (RA ad)) : ∀ (n : Nat) (u : Mm) (x1 : Int64) (x3 : Int32) (H : Heap) (locs : List Loc) (ls : Array Slot), wX9_digest_b6 Q n u x1 x3 → RWd D g ad (RA ad) s u H locs → lv_has ls 7 [(0, .ref (ad 0)), (1, .long x1), (3, .int x3)] → W p l e ({ frames := 7, cells := 0, slots := 0, locals := 178 } : Room) s m args below meth c H locs 0 0 (MQ below (va_Ql Q (RB D g ad) (RA ad)) args s 0 0 (RA ad)) (F0 m 6 ls []) := by
  obtain ⟨⟨hx, hb, hml, hown, hts⟩, hr, hlocks, hK, hJ, hAA⟩ := id X
  intro n
  induction n with
  | zero =>
    intro u x1 x3 H locs ls h
    exact False.elim h
  | succ n ih =>
    intro u x1 x3 H locs ls h w hl
    unfold wX9_digest_b6 at h
    refine lv_iload_n (pc := 6) hx hb dX9_digest_6 rfl (lv_at hl 2 rfl) ?_
    refine lv_bipush (pc := 7) (v := (8 : Int32)) hx hb dX9_digest_7 (by decide) ?_
    refine lv_icmp_ge (pc := 9) (tgt := 31) hx hb dX9_digest_9 (by decide) (fun c_ => ?_) (fun c_ => ?_)
    · have h := h.1 c_
      refine lv_aload_n (pc := 31) hx hb dX9_digest_31 rfl (lv_at hl 0 rfl) ?_
      refine lv_iconst (pc := 32) (v := (-1 : Int32)) hx hb dX9_digest_32 (by decide) ?_
      refine Rcalli (rest := []) (RrunV (pc := 33) X w (okX9_brokenOf l hJ h) kw614 kmX9_brokenOf ⟨rfl, rfl⟩ ⟨by decide, by decide⟩ (Rrv_0 X w) rfl hl.1 rfl (Nat.le_of_ble_eq_true rfl) dX9_digest_33) w (fun r1 u2 H locs h w => ?_)
      refine lv_istore_n (pc := 36) (lv' := [(3, .int r1), (0, .ref (ad 0)), (1, .long x1)]) hx hb dX9_digest_36 rfl hl (by decide) rfl (fun ls hl => ?_)
      refine lv_ldc2 (pc := 37) (v := (31 : Int64)) hx hb hown (hts _ (List.mem_cons_of_mem _ kw756)) dX9_digest_37 ?_
      refine lv_lload_n (pc := 40) hx hb dX9_digest_40 rfl (lv_at hl 2 rfl) ?_
      refine lv_lmul (pc := 41) hx hb dX9_digest_41 ?_
      refine lv_aload_n (pc := 42) hx hb dX9_digest_42 rfl (lv_at hl 1 rfl) ?_
      refine Rcalli (rest := [.long ((31 : Int64) * x1)]) (RrunV (pc := 43) X w (okX9_openMany l hJ h) kw609 kmX9_openMany ⟨rfl, rfl⟩ ⟨by decide, by decide⟩ (Rrv_0 X w) rfl hl.1 rfl (Nat.le_of_ble_eq_true rfl) dX9_digest_43) w (fun r3 u4 H locs h w => ?_)
      refine lv_i2l (pc := 46) hx hb dX9_digest_46 rfl ?_
      refine lv_ladd (pc := 47) hx hb dX9_digest_47 ?_
      refine lv_topl (fun x1_5 e_ => ?_)
      have h := h x1_5 e_
      refine lv_lstore_n (pc := 48) (lv' := [(1, .long x1_5), (3, .int r1), (0, .ref (ad 0))]) hx hb dX9_digest_48 rfl hl (by decide) rfl (fun ls hl => ?_)
      refine lv_ldc2 (pc := 49) (v := (31 : Int64)) hx hb hown (hts _ (List.mem_cons_of_mem _ kw756)) dX9_digest_49 ?_
      refine lv_lload_n (pc := 52) hx hb dX9_digest_52 rfl (lv_at hl 0 rfl) ?_
      refine lv_lmul (pc := 53) hx hb dX9_digest_53 ?_
      refine lv_aload_n (pc := 54) hx hb dX9_digest_54 rfl (lv_at hl 2 rfl) ?_
      refine Rgf_0_22 (pc := 55) X w kw613 dX9_digest_55 ?_
      refine lv_i2l (pc := 58) hx hb dX9_digest_58 rfl ?_
      refine lv_ladd (pc := 59) hx hb dX9_digest_59 ?_
      refine lv_topl (fun x1_6 e_ => ?_)
      have h := h x1_6 e_
      refine lv_lstore_n (pc := 60) (lv' := [(1, .long x1_6), (3, .int r1), (0, .ref (ad 0))]) hx hb dX9_digest_60 rfl hl (by decide) rfl (fun ls hl => ?_)
      refine lv_iconst (pc := 61) (v := (0 : Int32)) hx hb dX9_digest_61 (by decide) ?_
      refine lv_istore (pc := 62) (lv' := [(4, .int (0 : Int32)), (1, .long x1_6), (3, .int r1), (0, .ref (ad 0))]) hx hb dX9_digest_62 hl (by decide) rfl (fun ls hl => ?_)
      obtain ⟨n9, h⟩ := h
      exact bX9_digest_64 X n9 u4 x1_6 (0 : Int32) H locs ls h w (lv_sub hl [3, 1, 0] rfl)
    · have h := h.2 c_
      refine lv_ldc2 (pc := 12) (v := (31 : Int64)) hx hb hown (hts _ (List.mem_cons_of_mem _ kw756)) dX9_digest_12 ?_
      refine lv_lload_n (pc := 15) hx hb dX9_digest_15 rfl (lv_at hl 1 rfl) ?_
      refine lv_lmul (pc := 16) hx hb dX9_digest_16 ?_
      refine lv_aload_n (pc := 17) hx hb dX9_digest_17 rfl (lv_at hl 0 rfl) ?_
      refine lv_iload_n (pc := 18) hx hb dX9_digest_18 rfl (lv_at hl 2 rfl) ?_
      refine Rcalli (rest := [.long ((31 : Int64) * x1)]) (RrunV (pc := 19) X w (okX9_count l hJ h) kw757 kmX9_count ⟨rfl, rfl⟩ ⟨by decide, by decide⟩ (Rrv_0 X w) rfl hl.1 rfl (Nat.le_of_ble_eq_true rfl) dX9_digest_19) w (fun r7 u8 H locs h w => ?_)
      refine lv_i2l (pc := 22) hx hb dX9_digest_22 rfl ?_
      refine lv_ladd (pc := 23) hx hb dX9_digest_23 ?_
      refine lv_topl (fun x1_9 e_ => ?_)
      have h := h x1_9 e_
      refine lv_lstore_n (pc := 24) (lv' := [(1, .long x1_9), (0, .ref (ad 0)), (3, .int x3)]) hx hb dX9_digest_24 rfl hl (by decide) rfl (fun ls hl => ?_)
      obtain ⟨x3_10, e_⟩ : ∃ y : Int32, y = x3 + (1 : Int32) := ⟨_, rfl⟩
      have h := h x3_10 e_
      refine lv_iinc (pc := 25) (v := x3_10) (lv' := [(3, .int x3_10), (1, .long x1_9), (0, .ref (ad 0))]) hx hb dX9_digest_25 hl (k := 2) rfl (by rw [e_]; rfl) (by decide) rfl (fun ls hl => ?_)
      refine lv_goto (pc := 28) (tgt := 6) hx hb dX9_digest_28 (by decide) ?_
      exact ih u8 x1_9 x3_10 H locs ls h w (lv_sub hl [2, 1, 0] rfl)
set_option maxHeartbeats 4000000 in
set_option maxRecDepth 100000 in
theorem okX9_digest (l : Launch) {D : va_G} {g : Nat → ClassId} {ad : Nat → Nat} (hJ : RJ ad) {u : Mm} {Q : Int64 → Mm → Prop} (h : wX9_digest u Q) : Met l yX9_digest (Cond.code yX9_digest cX9_digest 7 (some .long) :: gt) ({ frames := 7, cells := 0, slots := 0, locals := 178 } : Room) (RPc D g ad u [.ref (ad 0)]) (va_Ql Q (RB D g ad) (RA ad)) 0 0 (RA ad) := by
  refine Met.ofW (cc := cX9_digest) (maxL := 7) (ret := (some .long)) (by decide) rfl ?_
  intro p e s m args below meth c s₁ B hml hv
  refine Rentry (own := RX9) B hml hv hJ rfl (Nat.le_of_ble_eq_true rfl) (fun ls H locs X w hl => ?_)
  obtain ⟨⟨hx, hb, hml, hown, hts⟩, hr, hlocks, hK, hJ, hAA⟩ := id X
  have hl : lv_has ls 7 [(0, .ref (ad 0))] := hl
  unfold wX9_digest at h
  refine lv_ldc2 (pc := 0) (v := (17 : Int64)) hx hb hown (hts _ (List.mem_cons_of_mem _ kw755)) dX9_digest_0 ?_
  refine lv_lstore_n (pc := 3) (lv' := [(1, .long (17 : Int64)), (0, .ref (ad 0))]) hx hb dX9_digest_3 rfl hl (by decide) rfl (fun ls hl => ?_)
  refine lv_iconst (pc := 4) (v := (0 : Int32)) hx hb dX9_digest_4 (by decide) ?_
  refine lv_istore_n (pc := 5) (lv' := [(3, .int (0 : Int32)), (1, .long (17 : Int64)), (0, .ref (ad 0))]) hx hb dX9_digest_5 rfl hl (by decide) rfl (fun ls hl => ?_)
  obtain ⟨n9, h⟩ := h
  exact bX9_digest_6 X n9 u (17 : Int64) (0 : Int32) H locs ls h w (lv_sub hl [2, 1, 0] rfl)
