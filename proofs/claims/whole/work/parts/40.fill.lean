/-! ===== side F: its world and the rows over it ===== -/
def Ftys (g : Nat → ClassId) : List (ClassId × FieldType) := [(g 0, .int)]
def Fnest : List Cond := []
def FK (D : va_G) (g : Nat → ClassId) (U : State) : Prop := va_K D vwCl (Ftys g) U ∧ ∀ w ∈ Fnest, va_Nw w U
theorem Fnest_is : ∀ w ∈ Fnest, ∃ (a : String) (i : Nat) (x : MethodName) (h : String), w = .methodLinkNest a i x h := by
  intro w hw
  cases hw
theorem FK_warm {D : va_G} {g : Nat → ClassId} {s U : State} (hW : s.WarmedH U.vm) (h : FK D g s) : FK D g U := by
  refine ⟨va_K.moved hW.alike h.1, fun w hw => ?_⟩
  obtain ⟨a, i, x, z, rfl⟩ := Fnest_is w hw
  exact va_Nw.warmM hW (h.2 _ hw)
theorem FK_call {D : va_G} {g : Nat → ClassId} {U : State} {f : JFrame} {mk : MethodId} {a : Array Value} (h : FK D g U) : FK D g (U.calling f mk a) := by
  refine ⟨va_K.moved (u := U) (U := U.calling f mk a) (Vm.Alike.refl U.vm) h.1, fun w hw => ?_⟩
  have h2 := h.2 w hw
  obtain ⟨a, i, x, z, rfl⟩ := Fnest_is w hw
  exact va_Nw.same rfl rfl h2
def FW (g : Nat → ClassId) (ad : Nat → Nat) (u : Mm) : va_W := [(ad 0, .inl (g 0, (ad 1), .inl (u.1 0)))]
def FA (ad : Nat → Nat) : Nat → Prop := fun q => ∃ k, k < 1 ∧ q = ad k
def FJ (ad : Nat → Nat) : Prop := ∀ i j, i < 1 → j < 1 → ad i = ad j → i = j
def FB (D : va_G) (g : Nat → ClassId) (ad : Nat → Nat) (u : Mm) (t : State) : Prop := va_P D vwCl (FW g ad u) t.heap
def FWd (D : va_G) (g : Nat → ClassId) (ad : Nat → Nat) (A : Nat → Prop) (s : State) (u : Mm) (H : Heap) (locs : List Loc) : Prop := va_P D vwCl (FW g ad u) H ∧ va_S A s.heap H locs
theorem FW_fst (g : Nat → ClassId) (ad : Nat → Nat) (u : Mm) : (FW g ad u).map Prod.fst = (List.range 1).map ad := rfl
theorem FW_at {g : Nat → ClassId} {ad : Nat → Nat} {u : Mm} {i : Nat} {p : Nat × va_E} (h : (FW g ad u)[i]? = some p) : i < 1 ∧ p.1 = ad i := by
  have h1 : ((FW g ad u).map Prod.fst)[i]? = some p.1 := by rw [List.getElem?_map, h]; rfl
  rw [FW_fst, List.getElem?_map] at h1
  rcases hq : (List.range 1)[i]? with _ | q
  · rw [hq] at h1; cases h1
  · rw [hq] at h1
    obtain ⟨h2, h3⟩ := List.getElem?_eq_some_iff.mp hq
    rw [List.length_range] at h2
    rw [List.getElem_range] at h3
    subst h3
    exact ⟨h2, (Option.some.inj h1).symm⟩
theorem FD {g : Nat → ClassId} {ad : Nat → Nat} {A : Nat → Prop} (hJ : FJ ad) (hA : ∀ k, k < 1 → A (ad k)) (u : Mm) : va_D A (FW g ad u) := by
  refine ⟨fun i j p q h1 h2 h3 => ?_, fun k q h => ?_⟩
  · obtain ⟨a1, a2⟩ := FW_at h1
    obtain ⟨b1, b2⟩ := FW_at h2
    exact hJ i j a1 b1 (by rw [← a2, ← b2, h3])
  · obtain ⟨a1, a2⟩ := FW_at h
    rw [a2]; exact hA k a1
def FPc (D : va_G) (g : Nat → ClassId) (ad : Nat → Nat) (u : Mm) (av : List Value) : Array Value → State → Prop := va_Pc av (fun U => va_P D vwCl (FW g ad u) U.heap ∧ FK D g U)
theorem Fblind (D : va_G) (g : Nat → ClassId) (ad : Nat → Nat) (u : Mm) (av : List Value) : FrameBlind (FPc D g ad u av) := fun _ _ _ _ q => ⟨q.1, q.2.1, FK_call q.2.2⟩
def FX (p : Program) (s : State) (m : MethodId) (args : Array Value) (meth : Method) (c : Code) (cc : ByteArray) (own : String) (nL : Nat) (ret : Option FieldType) (w0 : Cond) (D : va_G) (g : Nat → ClassId) (ad : Nat → Nat) (A : Nat → Prop) : Prop :=
  CallFix p m c cc nL s args (w0 :: gt) own ∧ meth.sig.returnType = ret ∧ meth.locks = false ∧ FK D g s ∧ FJ ad ∧ ∀ k, k < 1 → A (ad k)
section Frows
variable {p : Program} {l : Launch} {e : Env} {R : Room} {s : State} {m : MethodId} {args : Array Value} {below : List Frame} {meth : Method} {c : Code} {H : Heap} {locs : List Loc} {Q : State → Prop} {cc : ByteArray} {own : String} {nL : Nat} {ret : Option FieldType} {w0 : Cond} {D : va_G} {g : Nat → ClassId} {ad : Nat → Nat} {u : Mm} {pc : Nat} {ls : Array Slot} {rest st : List Value} {A : Nat → Prop} {cells slots : Nat}
theorem Fentry {y : MethodName} {rm : Room} {s₁ : State} {av : List Value} (B : BodyLoose p l y (headSpec (Cond.code y cc nL ret :: gt) rm) cc nL ret e s m args below meth c s₁) (hml : c.maxLocals = nL) (hv : FPc D g ad u av args s) (hJ : FJ ad) (ho : y.cls = own) (hlen : (lg_sl av).length ≤ nL)
    (kk : ∀ ls H locs, FX p s m args meth c cc own nL ret (Cond.code y cc nL ret) D g ad (FA ad) → FWd D g ad (FA ad) s u H locs → lv_has ls nL (lv_args 0 av) → W p l e R s m args below meth c H locs 0 0 Q (F0 m 0 ls [])) : W p l e R s m args below meth c s.heap [] 0 0 Q (entryFrame m args nL) := by
  obtain ⟨rfl, hP, hK⟩ := hv
  rw [lg_entry_eq]
  have hl := lv_entry av (n := nL) hlen
  refine kk _ s.heap [] ⟨⟨B.exec, B.bytes, hml, ?_, atoms_spec (ws := Cond.code y cc nL ret :: gt) B.pre⟩, B.returns, B.notSynchronized, hK, hJ, fun k hk => ⟨k, hk, rfl⟩⟩ ⟨hP, va_S.rf⟩ hl
  rw [← ho]
  exact findClass_of_methodNamed B.named
theorem FrunV (X : FX p s m args meth c cc own nL ret w0 D g ad (FA ad)) (w : FWd D g ad (FA ad) s u H locs) {y : MethodName} {C : String} {bytes : ByteArray} {maxL n index : Nat} {ret' : Option FieldType} {rm : Room} {Qc : Array Value → State → Outcome → State → Prop} {b : Addr} {As : List Value}
    (hM : Met l y (Cond.code y bytes maxL ret' :: gt) rm (FPc D g ad u (.ref b :: As)) Qc 0 0 (FA ad)) (hm : Cond.methodLink own index y ∈ gt) (hk : kV C y bytes maxL ret' n) (hrc : rm.cells = 0 ∧ rm.slots = 0) (hR : rm.frames + 1 ≤ R.frames ∧ 8 + (maxL + 11) + rm.locals ≤ R.locals)
    (hv : ∃ cell : Cell, H[b]? = some cell ∧ cell.vm.isStatics = false ∧ s.vm.findClass C = some cell.cls) (hn : As.length = n) (hsz : ls.size = nL) (hst : st = As.reverse ++ .ref b :: rest) (hW : (rest.map fun v => v.category).sum ≤ 8) (hdg : decode cc pc = .ok (.invokevirtual index, 3)) :
    va_Run p l e R s m args below meth c H locs 0 0 0 0 (F0 m pc ls st) rest (Qc (Value.ref b :: As).toArray) (FA ad) := by
  obtain ⟨k1, k2, k3, k4, k5⟩ := hk
  refine va_runV X.1 hM (cwV n X.1.2.2.2.2 ?_ rfl hrc.1 hrc.2 k5 hR) ⟨Fblind D g ad u _, hv, fun U hU hW => ⟨rfl, by rw [hU]; exact w.1, FK_warm hW X.2.2.2.1⟩⟩ rfl hn hsz hst (lv_room hW) hdg ⟨Nat.zero_le _, Nat.zero_le _⟩
  intro w hw
  rcases List.mem_append.mp hw with h | h
  · simp only [List.mem_cons, List.mem_nil_iff, or_false] at h
    rcases h with rfl | rfl | rfl | rfl
    · exact ⟨List.mem_cons_of_mem _ hm, gt_good hm⟩
    · exact ⟨List.mem_cons_of_mem _ k1, gt_good k1⟩
    · exact ⟨List.mem_cons_of_mem _ k2, gt_good k2⟩
    · exact ⟨List.mem_cons_of_mem _ k3, gt_good k3⟩
  · exact gt_in k4 w h
theorem FrunS (X : FX p s m args meth c cc own nL ret w0 D g ad (FA ad)) (w : FWd D g ad (FA ad) s u H locs) {y : MethodName} {bytes : ByteArray} {maxL n index : Nat} {ret' : Option FieldType} {rm : Room} {Qc : Array Value → State → Outcome → State → Prop} {As : List Value}
    (hM : Met l y (Cond.code y bytes maxL ret' :: gt) rm (FPc D g ad u As) Qc 0 0 (FA ad)) (hm : Cond.methodLink own index y ∈ gt) (hk : kS y bytes maxL ret' n) (hrc : rm.cells = 0 ∧ rm.slots = 0) (hR : rm.frames + 1 ≤ R.frames ∧ 8 + (maxL + 11) + rm.locals ≤ R.locals)
    (hn : As.length = n) (hsz : ls.size = nL) (hst : st = As.reverse ++ rest) (hW : (rest.map fun v => v.category).sum ≤ 8) (hdg : decode cc pc = .ok (.invokestatic index, 3)) :
    va_Run p l e R s m args below meth c H locs 0 0 0 0 (F0 m pc ls st) rest (Qc As.toArray) (FA ad) := by
  obtain ⟨k1, k2, k3, k4⟩ := hk
  exact va_runS X.1 hM ⟨callB_of n X.1.2.2.2.2 (gt_in k3) rfl hrc.1 hrc.2 (X.1.2.2.2.2 _ (List.mem_cons_of_mem _ k2)) (X.1.2.2.2.2 _ (List.mem_cons_of_mem _ hm)) k4 hR, X.1.2.2.2.2 _ (List.mem_cons_of_mem _ k1)⟩ ⟨Fblind D g ad u _, fun U hU hW => ⟨rfl, by rw [hU]; exact w.1, FK_warm hW X.2.2.2.1⟩⟩ rfl hn hsz hst (lv_room hW) hdg ⟨Nat.zero_le _, Nat.zero_le _⟩
theorem FrunSN (X : FX p s m args meth c cc own nL ret w0 D g ad (FA ad)) (w : FWd D g ad (FA ad) s u H locs) {y : MethodName} {bytes : ByteArray} {maxL n index : Nat} {ret' : Option FieldType} {rm : Room} {Qc : Array Value → State → Outcome → State → Prop} {As : List Value} {host : String}
    (hM : Met l y (Cond.code y bytes maxL ret' :: gt) rm (FPc D g ad u As) Qc 0 0 (FA ad)) (hm : Cond.methodLinkNest own index y host ∈ Fnest) (hk : kS y bytes maxL ret' n) (hrc : rm.cells = 0 ∧ rm.slots = 0) (hR : rm.frames + 1 ≤ R.frames ∧ 8 + (maxL + 11) + rm.locals ≤ R.locals)
    (hn : As.length = n) (hsz : ls.size = nL) (hst : st = As.reverse ++ rest) (hW : (rest.map fun v => v.category).sum ≤ 8) (hdg : decode cc pc = .ok (.invokestatic index, 3)) :
    va_Run p l e R s m args below meth c H locs 0 0 0 0 (F0 m pc ls st) rest (Qc As.toArray) (FA ad) := by
  obtain ⟨k1, k2, k3, k4⟩ := hk
  exact va_runSN X.1 hM ⟨va_cnB n X.1.2.2.2.2 (gt_in k3) rfl hrc.1 hrc.2 (X.2.2.2.1.2 _ hm) (X.1.2.2.2.2 _ (List.mem_cons_of_mem _ k2)) k4 hR, X.1.2.2.2.2 _ (List.mem_cons_of_mem _ k1), trivial⟩ ⟨Fblind D g ad u _, fun U hU hW => ⟨rfl, by rw [hU]; exact w.1, FK_warm hW X.2.2.2.1⟩⟩ rfl hn hsz hst (lv_room hW) hdg ⟨Nat.zero_le _, Nat.zero_le _⟩
theorem Fcalli {post : Int32 → Mm → Prop} {a : Array Value} (hr : va_Run p l e R s m args below meth c H locs 0 0 0 0 (F0 m pc ls st) rest (va_Qi post (FB D g ad) (FA ad) a) (FA ad)) (w : FWd D g ad (FA ad) s u H locs)
    (kk : ∀ (r : Int32) (u1 : Mm) (H1 : Heap) (locs1 : List Loc), post r u1 → FWd D g ad (FA ad) s u1 H1 locs1 → W p l e R s m args below meth c H1 locs1 0 0 Q (F0 m (pc + 3) ls (.int r :: rest))) : W p l e R s m args below meth c H locs 0 0 Q (F0 m pc ls st) :=
  va_calli hr w.2 (fun _ _ h => h) (fun _ h => h) (fun r u1 t H1 locs1 ht _ hp hB _ _ hS => kk r u1 H1 locs1 hp ⟨by rw [← ht]; exact hB, hS⟩)
theorem Fcalll {post : Int64 → Mm → Prop} {a : Array Value} (hr : va_Run p l e R s m args below meth c H locs 0 0 0 0 (F0 m pc ls st) rest (va_Ql post (FB D g ad) (FA ad) a) (FA ad)) (w : FWd D g ad (FA ad) s u H locs)
    (kk : ∀ (r : Int64) (u1 : Mm) (H1 : Heap) (locs1 : List Loc), post r u1 → FWd D g ad (FA ad) s u1 H1 locs1 → W p l e R s m args below meth c H1 locs1 0 0 Q (F0 m (pc + 3) ls (.long r :: rest))) : W p l e R s m args below meth c H locs 0 0 Q (F0 m pc ls st) :=
  va_calll hr w.2 (fun _ _ h => h) (fun _ h => h) (fun r u1 t H1 locs1 ht _ hp hB _ _ hS => kk r u1 H1 locs1 hp ⟨by rw [← ht]; exact hB, hS⟩)
theorem Fcallv {post : Mm → Prop} {a : Array Value} (hr : va_Run p l e R s m args below meth c H locs 0 0 0 0 (F0 m pc ls st) rest (va_Qv post (FB D g ad) (FA ad) a) (FA ad)) (w : FWd D g ad (FA ad) s u H locs)
    (kk : ∀ (u1 : Mm) (H1 : Heap) (locs1 : List Loc), post u1 → FWd D g ad (FA ad) s u1 H1 locs1 → W p l e R s m args below meth c H1 locs1 0 0 Q (F0 m (pc + 3) ls rest)) : W p l e R s m args below meth c H locs 0 0 Q (F0 m pc ls st) :=
  va_callv hr w.2 (fun _ _ h => h) (fun _ h => h) (fun u1 t H1 locs1 ht _ hp hB _ _ hS => kk u1 H1 locs1 hp ⟨by rw [← ht]; exact hB, hS⟩)
theorem Firet {post : Int32 → Mm → Prop} {v : Int32} (X : FX p s m args meth c cc own nL (some .int) w0 D g ad (FA ad)) (w : FWd D g ad (FA ad) s u H locs) (h : post v u) (hdg : decode cc pc = .ok (.ireturn, 1)) : W p l e R s m args below meth c H locs 0 0 (MQ below (va_Qi post (FB D g ad) (FA ad)) args s 0 0 (FA ad)) (F0 m pc ls [.int v]) :=
  W.iret X.1.1 X.1.2.1 X.2.1 (fun t ht _ => ⟨⟨v, u, rfl, h, by show va_P _ _ _ t.heap; rw [ht]; exact w.1⟩, w.2.F ht⟩) w.2.2.2 hdg X.2.2.1
theorem Fzret {post : Int32 → Mm → Prop} {v : Int32} (X : FX p s m args meth c cc own nL (some .boolean) w0 D g ad (FA ad)) (w : FWd D g ad (FA ad) s u H locs) (hz : bz v) (h : post v u) (hdg : decode cc pc = .ok (.ireturn, 1)) : W p l e R s m args below meth c H locs 0 0 (MQ below (va_Qi (fun r u1 => bz r ∧ post r u1) (FB D g ad) (FA ad)) args s 0 0 (FA ad)) (F0 m pc ls [.int v]) :=
  W.zret X.1.1 X.1.2.1 X.2.1 hz (fun t ht _ => ⟨⟨v, u, rfl, ⟨hz, h⟩, by show va_P _ _ _ t.heap; rw [ht]; exact w.1⟩, w.2.F ht⟩) w.2.2.2 hdg X.2.2.1
theorem Flret {post : Int64 → Mm → Prop} {v : Int64} (X : FX p s m args meth c cc own nL (some .long) w0 D g ad (FA ad)) (w : FWd D g ad (FA ad) s u H locs) (h : post v u) (hdg : decode cc pc = .ok (.lreturn, 1)) : W p l e R s m args below meth c H locs 0 0 (MQ below (va_Ql post (FB D g ad) (FA ad)) args s 0 0 (FA ad)) (F0 m pc ls [.long v]) :=
  W.lret X.1.1 X.1.2.1 X.2.1 (fun t ht _ => ⟨⟨v, u, rfl, h, by show va_P _ _ _ t.heap; rw [ht]; exact w.1⟩, w.2.F ht⟩) w.2.2.2 hdg X.2.2.1
theorem Fvret {post : Mm → Prop} (X : FX p s m args meth c cc own nL none w0 D g ad (FA ad)) (w : FWd D g ad (FA ad) s u H locs) (h : post u) (hdg : decode cc pc = .ok (.return_, 1)) : W p l e R s m args below meth c H locs 0 0 (MQ below (va_Qv post (FB D g ad) (FA ad)) args s 0 0 (FA ad)) (F0 m pc ls []) :=
  W.vret X.1.1 X.1.2.1 X.2.1 (fun t ht _ => ⟨⟨u, rfl, h, by show va_P _ _ _ t.heap; rw [ht]; exact w.1⟩, w.2.F ht⟩) w.2.2.2 hdg X.2.2.1
theorem Fld_0 {i : Int32} (X : FX p s m args meth c cc own nL ret w0 D g ad A) (w : FWd D g ad A s u H locs) (hi : vp_in i (ad 1)) (hdg : decode cc pc = .ok (.iaload, 1)) (kk : W p l e R s m args below meth c H locs cells slots Q (F0 m (pc + 1) ls (.int (u.1 0 i.toNatClampNeg) :: rest))) : W p l e R s m args below meth c H locs cells slots Q (F0 m pc ls (.int i :: .ref (ad 0) :: rest)) := va_iald X.1.1 X.1.2.1 X.2.2.2.1.1 w.1 0 0 rfl rfl hi hdg kk
theorem Fst_0 {i : Int32} {x : Int32} (X : FX p s m args meth c cc own nL ret w0 D g ad A) (w : FWd D g ad A s u H locs) (hi : vp_in i (ad 1)) (hdg : decode cc pc = .ok (.iastore, 1)) (kk : ∀ (H1 : Heap) (locs1 : List Loc), FWd D g ad A s (s32 u 0 i.toNatClampNeg x) H1 locs1 → W p l e R s m args below meth c H1 locs1 cells slots Q (F0 m (pc + 1) ls (rest))) : W p l e R s m args below meth c H locs cells slots Q (F0 m pc ls (.int x :: .int i :: .ref (ad 0) :: rest)) := va_iast X.1.1 X.1.2.1 X.2.2.2.1.1 w.1 (FD X.2.2.2.2.1 X.2.2.2.2.2 u) w.2 0 0 rfl rfl hi hdg (fun H1 locs1 hP _ hS => kk H1 locs1 ⟨hP, hS⟩)
theorem Fal_0 (X : FX p s m args meth c cc own nL ret w0 D g ad A) (w : FWd D g ad A s u H locs) (hdg : decode cc pc = .ok (.arraylength, 1)) (kk : W p l e R s m args below meth c H locs cells slots Q (F0 m (pc + 1) ls (.int (nI (ad 1)) :: rest))) : W p l e R s m args below meth c H locs cells slots Q (F0 m pc ls (.ref (ad 0) :: rest)) := va_alen X.1.1 X.1.2.1 X.2.2.2.1.1 w.1 0 0 rfl rfl rfl hdg kk
end Frows

set_option maxHeartbeats 4000000 in
set_option maxRecDepth 100000 in
theorem bJ7_fill_53178_i0_5 {l : Launch} {p : Program} {e : Env} {s : State} {m : MethodId} {args : Array Value} {below : List Frame} {meth : Method} {c : Code} {D : va_G} {g : Nat → ClassId} {ad : Nat → Nat} {Q : Mm → Prop} (X : FX p s m args meth c cJ7_fill_53178 RJ7 4 none (Cond.code yJ7_fill_53178 cJ7_fill_53178 4 none) D g ad (FA ad)) : ∀ (n : Nat) (u : Mm) (x1 : Int32) (x2 : Int32) (x3 : Int32) (H : Heap) (locs : List Loc) (ls : Array Slot), wJ7_fill_53178_b5 0 (ad 1) Q n u x1 x2 x3 → FWd D g ad (FA ad) s u H locs → lv_has ls 4 [(0, .ref (ad 0)), (1, .int x1), (2, .int x2), (3, .int x3)] → W p l e ({ frames := 0, cells := 0, slots := 0, locals := 0 } : Room) s m args below meth c H locs 0 0 (MQ below (va_Qv Q (FB D g ad) (FA ad)) args s 0 0 (FA ad)) (F0 m 5 ls []) := by
  obtain ⟨⟨hx, hb, hml, hown, hts⟩, hr, hlocks, hK, hJ, hAA⟩ := id X
  intro n
  induction n with
  | zero =>
    intro u x1 x2 x3 H locs ls h
    exact False.elim h
  | succ n ih =>
    intro u x1 x2 x3 H locs ls h w hl
    unfold wJ7_fill_53178_b5 at h
    refine lv_iload_n (pc := 5) hx hb dJ7_fill_53178_5 rfl (lv_at hl 2 rfl) ?_
    refine lv_iload_n (pc := 6) hx hb dJ7_fill_53178_6 rfl (lv_at hl 3 rfl) ?_
    refine lv_icmp_ge (pc := 7) (tgt := 20) hx hb dJ7_fill_53178_7 (by decide) (fun c_ => ?_) (fun c_ => ?_)
    · have h := h.1 c_
      exact Fvret (pc := 20) X w h dJ7_fill_53178_20
    · have h := h.2 c_
      refine lv_aload_n (pc := 10) hx hb dJ7_fill_53178_10 rfl (lv_at hl 0 rfl) ?_
      refine lv_iload_n (pc := 11) hx hb dJ7_fill_53178_11 rfl (lv_at hl 2 rfl) ?_
      refine lv_iload_n (pc := 12) hx hb dJ7_fill_53178_12 rfl (lv_at hl 1 rfl) ?_
      refine Fst_0 (pc := 13) X w h.1 dJ7_fill_53178_13 (fun H locs w => ?_)
      have h := h.2
      obtain ⟨u1, e_⟩ : ∃ y : Mm, y = s32 u 0 x2.toNatClampNeg x1 := ⟨_, rfl⟩
      rw [← e_] at w
      have h := h u1 e_
      obtain ⟨x2_2, e_⟩ : ∃ y : Int32, y = x2 + (1 : Int32) := ⟨_, rfl⟩
      have h := h x2_2 e_
      refine lv_iinc (pc := 14) (v := x2_2) (lv' := [(2, .int x2_2), (0, .ref (ad 0)), (1, .int x1), (3, .int x3)]) hx hb dJ7_fill_53178_14 hl (k := 2) rfl (by rw [e_]; rfl) (by decide) rfl (fun ls hl => ?_)
      refine lv_goto (pc := 17) (tgt := 5) hx hb dJ7_fill_53178_17 (by decide) ?_
      exact ih u1 x1 x2_2 x3 H locs ls h w (lv_sub hl [1, 2, 0, 3] rfl)
set_option maxHeartbeats 4000000 in
set_option maxRecDepth 100000 in
theorem okJ7_fill_53178_i0 (l : Launch) {D : va_G} {g : Nat → ClassId} {ad : Nat → Nat} (hJ : FJ ad) {u : Mm} {a1 : Int32} {Q : Mm → Prop} (h : wJ7_fill_53178 0 (ad 1) u a1 Q) : Met l yJ7_fill_53178 (Cond.code yJ7_fill_53178 cJ7_fill_53178 4 none :: gt) ({ frames := 0, cells := 0, slots := 0, locals := 0 } : Room) (FPc D g ad u [.ref (ad 0), .int a1]) (va_Qv Q (FB D g ad) (FA ad)) 0 0 (FA ad) := by
  refine Met.ofW (cc := cJ7_fill_53178) (maxL := 4) (ret := none) (by decide) rfl ?_
  intro p e s m args below meth c s₁ B hml hv
  refine Fentry (own := RJ7) B hml hv hJ rfl (Nat.le_of_ble_eq_true rfl) (fun ls H locs X w hl => ?_)
  obtain ⟨⟨hx, hb, hml, hown, hts⟩, hr, hlocks, hK, hJ, hAA⟩ := id X
  have hl : lv_has ls 4 [(0, .ref (ad 0)), (1, .int a1)] := hl
  unfold wJ7_fill_53178 at h
  refine lv_iconst (pc := 0) (v := (0 : Int32)) hx hb dJ7_fill_53178_0 (by decide) ?_
  refine lv_istore_n (pc := 1) (lv' := [(2, .int (0 : Int32)), (0, .ref (ad 0)), (1, .int a1)]) hx hb dJ7_fill_53178_1 rfl hl (by decide) rfl (fun ls hl => ?_)
  refine lv_aload_n (pc := 2) hx hb dJ7_fill_53178_2 rfl (lv_at hl 1 rfl) ?_
  refine Fal_0 (pc := 3) X w dJ7_fill_53178_3 ?_
  refine lv_istore_n (pc := 4) (lv' := [(3, .int (nI (ad 1))), (2, .int (0 : Int32)), (0, .ref (ad 0)), (1, .int a1)]) hx hb dJ7_fill_53178_4 rfl hl (by decide) rfl (fun ls hl => ?_)
  obtain ⟨n9, h⟩ := h
  exact bJ7_fill_53178_i0_5 X n9 u a1 (0 : Int32) (nI (ad 1)) H locs ls h w (lv_sub hl [2, 3, 1, 0] rfl)

/-! rows for making arrays of known classes -/
section Nw
variable {p : Program} {l : Launch} {e : Env} {R : Room} {s : State} {m : MethodId} {args : Array Value} {below : List Frame} {meth : Method} {c : Code} {H H0 : Heap} {locs : List Loc} {cells slots : Nat} {Q : State → Prop} {cc : ByteArray} {pc : Nat} {ls : Array Slot} {rest : List Value} {D : va_G} {cl : List vw_C} {tys : List (ClassId × FieldType)} {ws : va_W} {A : Nat → Prop} {n : Int32} {N : Nat} {cA0 : ClassId}
theorem nw_I (hx : p.tables.exec = Jvm.exec) (hb : c.code = cc) (harr : (Cond.arrayClass .int).before args s = true) (hg : va_RA s cA0 .int) (hK : va_K D cl tys s) (hP : va_P D cl ws H) (hD : va_D A ws) (hS : va_S A H0 H locs) (hA : ∀ q, H0.size ≤ q → A q) (hn : ¬ n < 0) (hN : n.toNatClampNeg = N) (hby : N * componentBytes .int ≤ 536870912) (hc : cells + 1 ≤ R.cells) (hs : slots + N ≤ R.slots) (hdg : decode cc pc = .ok (.newarray .int, 2))
    (kk : ∀ (q : Nat) (H1 : Heap), va_P D cl (ws ++ [(q, .inl (cA0, N, .inl (fun _ => 0)))]) H1 → va_D A (ws ++ [(q, .inl (cA0, N, .inl (fun _ => 0)))]) → va_S A H0 H1 locs → W p l e R s m args below meth c H1 locs (cells + 1) (slots + N) Q (F0 m (pc + 2) ls (.ref q :: rest))) : W p l e R s m args below meth c H locs cells slots Q (F0 m pc ls (.int n :: rest)) := by
  refine va_newa (atype := .int) (ty := .int) (a0 := (N, .inl (fun _ => 0))) hx hb harr rfl hK hP hD hS hA (fun _ => rfl) hn hN hby hc hs hdg (fun q cA H1 hK1 hP hD hS => ?_)
  have h1 := (hK1.2 tys.length (cA, .int) (by simp)).2
  obtain rfl : cA = cA0 := Option.some.inj (h1.symm.trans hg)
  exact kk q H1 hP hD hS
theorem nw_Z (hx : p.tables.exec = Jvm.exec) (hb : c.code = cc) (harr : (Cond.arrayClass .boolean).before args s = true) (hg : va_RA s cA0 .boolean) (hK : va_K D cl tys s) (hP : va_P D cl ws H) (hD : va_D A ws) (hS : va_S A H0 H locs) (hA : ∀ q, H0.size ≤ q → A q) (hn : ¬ n < 0) (hN : n.toNatClampNeg = N) (hby : N * componentBytes .boolean ≤ 536870912) (hc : cells + 1 ≤ R.cells) (hs : slots + N ≤ R.slots) (hdg : decode cc pc = .ok (.newarray .boolean, 2))
    (kk : ∀ (q : Nat) (H1 : Heap), va_P D cl (ws ++ [(q, .inl (cA0, N, .inl (fun _ => 0)))]) H1 → va_D A (ws ++ [(q, .inl (cA0, N, .inl (fun _ => 0)))]) → va_S A H0 H1 locs → W p l e R s m args below meth c H1 locs (cells + 1) (slots + N) Q (F0 m (pc + 2) ls (.ref q :: rest))) : W p l e R s m args below meth c H locs cells slots Q (F0 m pc ls (.int n :: rest)) := by
  refine va_newa (atype := .boolean) (ty := .boolean) (a0 := (N, .inl (fun _ => 0))) hx hb harr rfl hK hP hD hS hA (fun _ => rfl) hn hN hby hc hs hdg (fun q cA H1 hK1 hP hD hS => ?_)
  have h1 := (hK1.2 tys.length (cA, .boolean) (by simp)).2
  obtain rfl : cA = cA0 := Option.some.inj (h1.symm.trans hg)
  exact kk q H1 hP hD hS
theorem nw_J (hx : p.tables.exec = Jvm.exec) (hb : c.code = cc) (harr : (Cond.arrayClass .long).before args s = true) (hg : va_RA s cA0 .long) (hK : va_K D cl tys s) (hP : va_P D cl ws H) (hD : va_D A ws) (hS : va_S A H0 H locs) (hA : ∀ q, H0.size ≤ q → A q) (hn : ¬ n < 0) (hN : n.toNatClampNeg = N) (hby : N * componentBytes .long ≤ 536870912) (hc : cells + 1 ≤ R.cells) (hs : slots + N ≤ R.slots) (hdg : decode cc pc = .ok (.newarray .long, 2))
    (kk : ∀ (q : Nat) (H1 : Heap), va_P D cl (ws ++ [(q, .inl (cA0, N, .inr (.inl (fun _ => 0))))]) H1 → va_D A (ws ++ [(q, .inl (cA0, N, .inr (.inl (fun _ => 0))))]) → va_S A H0 H1 locs → W p l e R s m args below meth c H1 locs (cells + 1) (slots + N) Q (F0 m (pc + 2) ls (.ref q :: rest))) : W p l e R s m args below meth c H locs cells slots Q (F0 m pc ls (.int n :: rest)) := by
  refine va_newa (atype := .long) (ty := .long) (a0 := (N, .inr (.inl (fun _ => 0)))) hx hb harr rfl hK hP hD hS hA (fun _ => rfl) hn hN hby hc hs hdg (fun q cA H1 hK1 hP hD hS => ?_)
  have h1 := (hK1.2 tys.length (cA, .long) (by simp)).2
  obtain rfl : cA = cA0 := Option.some.inj (h1.symm.trans hg)
  exact kk q H1 hP hD hS
theorem nw_Q {own C : String} {index : Nat} (hx : p.tables.exec = Jvm.exec) (hb : c.code = cc) (hown : s.vm.findClass own = some m.cls) (hcl : (Cond.classLink own index C).before args s = true) (hov : va_AO C s) (hg : va_RA s cA0 (.object C)) (hK : va_K D cl tys s) (hP : va_P D cl ws H) (hD : va_D A ws) (hS : va_S A H0 H locs) (hA : ∀ q, H0.size ≤ q → A q) (hn : ¬ n < 0) (hN : n.toNatClampNeg = N) (hby : N * 4 ≤ 536870912) (hc : cells + 1 ≤ R.cells) (hs : slots + N ≤ R.slots) (hdg : decode cc pc = .ok (.anewarray index, 3))
    (kk : ∀ (q : Nat) (H1 : Heap), va_P D cl (ws ++ [(q, .inl (cA0, N, .inr (.inr (.inr (.inr (fun _ => none))))))]) H1 → va_D A (ws ++ [(q, .inl (cA0, N, .inr (.inr (.inr (.inr (fun _ => none))))))]) → va_S A H0 H1 locs → W p l e R s m args below meth c H1 locs (cells + 1) (slots + N) Q (F0 m (pc + 3) ls (.ref q :: rest))) : W p l e R s m args below meth c H locs cells slots Q (F0 m pc ls (.int n :: rest)) := by
  refine va_newq hx hb hown hcl hov hK hP hD hS hA hn hN hby hc hs hdg (fun q cA H1 hK1 hP hD hS => ?_)
  obtain ⟨k1, c1, -, -, -, f1⟩ := (hK1.2 tys.length (cA, .object C) (by simp)).2
  obtain ⟨k2, c2, -, -, -, f2⟩ := hg
  obtain rfl : cA = cA0 := Option.some.inj (f1.symm.trans f2)
  exact kk q H1 hP hD hS
end Nw
def fillc (n : Nat) (v : Int32) : Nat → Int32 := fun j => if j < n then v else 0
/-- Arrays.fill, pure: every place becomes v -/
theorem fill_wp {k n : Nat} (hn : n < 2 ^ 31) (u : Mm) (v : Int32) {Q : Mm → Prop} (h : Q (r32 u k (fun j => if j < n then v else u.1 k j))) : wJ7_fill_53178 k n u v Q := by
  unfold wJ7_fill_53178
  have key : ∀ (d i : Nat) (u1 : Mm), i + d = n → (u1 = r32 u k (fun j => if j < i then v else u.1 k j)) → wJ7_fill_53178_b5 k n Q (d + 1) u1 v (nI i) (nI n) := by
    intro d
    induction d with
    | zero =>
      intro i u1 hi hu
      obtain rfl : i = n := by omega
      unfold wJ7_fill_53178_b5
      refine ⟨fun _ => by rw [hu]; exact h, fun c => absurd ((nI_leI hn hn).mpr (Nat.le_refl _)) c⟩
    | succ d ih =>
      intro i u1 hi hu
      unfold wJ7_fill_53178_b5
      refine ⟨fun c => absurd ((nI_leI hn (by omega)).mp c) (by omega), fun _ => ⟨vp_in_nI (by omega) hn, fun u2 e2 x ex => ?_⟩⟩
      rw [ex, nI_1]
      refine ih (i + 1) u2 (by omega) ?_
      rw [e2, hu, nI_clamp (by omega)]
      unfold s32 r32
      refine Prod.ext ?_ rfl
      funext q
      by_cases hq : q = k
      · subst hq
        simp only [if_true]
        funext j
        unfold upd
        by_cases hj : j = i
        · subst hj; simp
        · rw [if_neg hj]
          show (if j < i then v else u.1 q j) = if j < i + 1 then v else u.1 q j
          by_cases h2 : j < i
          · rw [if_pos h2, if_pos (by omega)]
          · rw [if_neg h2, if_neg (by omega)]
      · simp only [if_neg hq]
  refine ⟨n + 1, key n 0 u (by omega) ?_⟩
  unfold r32
  refine Prod.ext ?_ rfl
  funext q
  by_cases hq : q = k
  · subst hq; simp
  · simp only [if_neg hq]

theorem fill_join {A0 : Nat → Prop} {D : va_G} {cl : List vw_C} {ws : va_W} {H H1 : Heap} {a : Nat} {e0 e1 : va_E} (hP : va_P D cl ws H) (hD : va_D A0 ws) (k : Nat) (hk : ws[k]? = some (a, e0)) (hB : va_P D cl [(a, e1)] H1) (hs : ∀ q : Nat, q < H.size → ¬ q = a → H1[q]? = H[q]?) : va_P D cl (ws.set k (a, e1)) H1 ∧ va_D A0 (ws.set k (a, e1)) := by
  refine ⟨?_, hD.set hk⟩
  intro i q hq
  by_cases hik : i = k
  · subst hik
    have hlt : i < ws.length := (List.getElem?_eq_some_iff.mp hk).1
    rw [List.getElem?_set_self hlt] at hq
    cases hq
    exact hB 0 _ rfl
  · rw [List.getElem?_set_ne (fun h => hik h.symm)] at hq
    have h1 := hP i q hq
    refine h1.kept (hs q.1 h1.lt (fun he => hik ?_))
    exact hD.1 i k q (a, e0) hq hk he
theorem fill_ok (l : Launch) (D : va_G) (g : Nat → ClassId) (a n : Nat) (hn : n < 2 ^ 31) (v : Int32) : Met l yJ7_fill_53178 (Cond.code yJ7_fill_53178 cJ7_fill_53178 4 none :: gt) ({ frames := 0, cells := 0, slots := 0, locals := 0 } : Room) (va_Pc [.ref a, .int v] (fun U => va_P D vwCl [(a, .inl (g 0, n, .inl (fun _ => 0)))] U.heap ∧ va_K D vwCl [(g 0, .int)] U)) (va_Qv (fun _ : Unit => True) (fun _ t => va_P D vwCl [(a, .inl (g 0, n, .inl (fillc n v)))] t.heap) (fun q => q = a)) 0 0 (fun q => q = a) := by
  have h := okJ7_fill_53178_i0 l (D := D) (g := g) (ad := fun k => if k = 0 then a else n) (fun i j hi hj _ => by omega) (u := (fun _ _ => 0, fun _ _ => 0)) (a1 := v) (Q := fun u1 => u1.1 0 = fillc n v) (fill_wp hn _ _ rfl)
  intro p e ha hc hk s m args below hf happ hP hK
  obtain ⟨k, o, h1, h2, h3, h4, L, h5, h6⟩ := h p e ha hc hk s m args below hf happ ⟨hP.1, hP.2.1, hP.2.2, fun w hw => by cases hw⟩ trivial
  refine ⟨k, o, h1, h2, h3, ?_, L, h5, fun q hq => ?_⟩
  · obtain ⟨⟨u, e1, e2, e3⟩, f1, f2⟩ := h4
    refine ⟨⟨(), e1, trivial, ?_⟩, f1, fun q hq hqa => f2 q hq ?_⟩
    · have e3 : va_P D vwCl [(a, .inl (g 0, n, .inl (u.1 0)))] _ := e3
      rw [e2] at e3
      exact e3
    · rintro ⟨z, hz, rfl⟩
      obtain rfl : z = 0 := by omega
      exact hqa rfl
  · obtain ⟨z, hz, e9⟩ := h6 q hq
    obtain rfl : z = 0 := by omega
    exact e9
theorem kw761 : Cond.methodLink RX3 3 objectInit ∈ gt := gt_t (List.mem_of_getElem? (i := 27) (by decide +kernel)) (by decide +kernel)
theorem kw762 : Cond.instanceMethod objectInit ∈ gt := gt_t (List.mem_of_getElem? (i := 20) (by decide +kernel)) (by decide +kernel)
theorem kw763 : Cond.code objectInit ⟨#[0xb1]⟩ 1 none ∈ gt := gt_t (List.mem_of_getElem? (i := 21) (by decide +kernel)) (by decide +kernel)
theorem kw764 : Cond.arrayClass .int ∈ gt := gt_t (List.mem_of_getElem? (i := 80) (by decide +kernel)) (by decide +kernel)
theorem kw765 : Cond.methodLink RX2 3 objectInit ∈ gt := gt_t (List.mem_of_getElem? (i := 92) (by decide +kernel)) (by decide +kernel)
theorem kw766 : Cond.arrayClass .long ∈ gt := gt_t (List.mem_of_getElem? (i := 106) (by decide +kernel)) (by decide +kernel)
theorem kw767 : Cond.methodLink RX6 3 objectInit ∈ gt := gt_t (List.mem_of_getElem? (i := 86) (by decide +kernel)) (by decide +kernel)
theorem kw768 : Cond.classLink RX6 9 RX2 ∈ gt := gt_t (List.mem_of_getElem? (i := 87) (by decide +kernel)) (by decide +kernel)
theorem kw769 : Cond.instantiable RX2 3 ∈ gt := gt_t (List.mem_of_getElem? (i := 88) (by decide +kernel)) (by decide +kernel)
theorem kw770 : Cond.code yX2_init cX2_init 1 none ∈ gt := gt_t (List.mem_of_getElem? (i := 91) (by decide +kernel)) (by decide +kernel)
theorem kw771 : Cond.instanceMethod yX2_init ∈ gt := gt_t (List.mem_of_getElem? (i := 90) (by decide +kernel)) (by decide +kernel)
theorem kw772 : Cond.arrayClass .boolean ∈ gt := gt_t (List.mem_of_getElem? (i := 146) (by decide +kernel)) (by decide +kernel)
theorem kw773 : Cond.methodLink RX7 3 objectInit ∈ gt := gt_t (List.mem_of_getElem? (i := 152) (by decide +kernel)) (by decide +kernel)
theorem kw774 : Cond.classLink RX7 15 RX2 ∈ gt := gt_t (List.mem_of_getElem? (i := 153) (by decide +kernel)) (by decide +kernel)
theorem kw775 : Cond.methodLink RX7 26 yJ7_fill_53178 ∈ gt := gt_t (List.mem_of_getElem? (i := 155) (by decide +kernel)) (by decide +kernel)
theorem kw776 : Cond.methodLink RX0 3 objectInit ∈ gt := gt_t (List.mem_of_getElem? (i := 172) (by decide +kernel)) (by decide +kernel)
theorem kw777 : Cond.methodLink RX0 18 yJ7_fill_53178 ∈ gt := gt_t (List.mem_of_getElem? (i := 173) (by decide +kernel)) (by decide +kernel)
theorem kw778 : Cond.methodLink RX4 3 objectInit ∈ gt := gt_t (List.mem_of_getElem? (i := 188) (by decide +kernel)) (by decide +kernel)
theorem kw779 : Cond.methodLink RX1 3 objectInit ∈ gt := gt_t (List.mem_of_getElem? (i := 209) (by decide +kernel)) (by decide +kernel)
theorem kw780 : Cond.methodLink RX5 3 objectInit ∈ gt := gt_t (List.mem_of_getElem? (i := 234) (by decide +kernel)) (by decide +kernel)
theorem kw781 : Cond.methodLink RX8 3 objectInit ∈ gt := gt_t (List.mem_of_getElem? (i := 19) (by decide +kernel)) (by decide +kernel)
theorem kw782 : Cond.classLink RX8 9 RX3 ∈ gt := gt_t (List.mem_of_getElem? (i := 22) (by decide +kernel)) (by decide +kernel)
theorem kw783 : Cond.instantiable RX3 12 ∈ gt := gt_t (List.mem_of_getElem? (i := 23) (by decide +kernel)) (by decide +kernel)
theorem kw784 : Cond.code yX3_init cX3_init 1 none ∈ gt := gt_t (List.mem_of_getElem? (i := 26) (by decide +kernel)) (by decide +kernel)
theorem kw785 : Cond.instanceMethod yX3_init ∈ gt := gt_t (List.mem_of_getElem? (i := 25) (by decide +kernel)) (by decide +kernel)
theorem kw786 : Cond.methodLink RX8 11 yX3_init ∈ gt := gt_t (List.mem_of_getElem? (i := 24) (by decide +kernel)) (by decide +kernel)
theorem kw787 : Cond.classLink RX8 16 RX6 ∈ gt := gt_t (List.mem_of_getElem? (i := 81) (by decide +kernel)) (by decide +kernel)
theorem kw788 : Cond.instantiable RX6 11 ∈ gt := gt_t (List.mem_of_getElem? (i := 82) (by decide +kernel)) (by decide +kernel)
theorem kw789 : Cond.code yX6_init cX6_init 3 none ∈ gt := gt_t (List.mem_of_getElem? (i := 85) (by decide +kernel)) (by decide +kernel)
theorem kw790 : Cond.instanceMethod yX6_init ∈ gt := gt_t (List.mem_of_getElem? (i := 84) (by decide +kernel)) (by decide +kernel)
theorem kw791 : Cond.methodLink RX8 18 yX6_init ∈ gt := gt_t (List.mem_of_getElem? (i := 83) (by decide +kernel)) (by decide +kernel)
theorem kw792 : Cond.classLink RX8 25 RX7 ∈ gt := gt_t (List.mem_of_getElem? (i := 147) (by decide +kernel)) (by decide +kernel)
theorem kw793 : Cond.instantiable RX7 3 ∈ gt := gt_t (List.mem_of_getElem? (i := 148) (by decide +kernel)) (by decide +kernel)
theorem kw794 : Cond.code yX7_init cX7_init 2 none ∈ gt := gt_t (List.mem_of_getElem? (i := 151) (by decide +kernel)) (by decide +kernel)
theorem kw795 : Cond.instanceMethod yX7_init ∈ gt := gt_t (List.mem_of_getElem? (i := 150) (by decide +kernel)) (by decide +kernel)
theorem kw796 : Cond.methodLink RX8 27 yX7_init ∈ gt := gt_t (List.mem_of_getElem? (i := 149) (by decide +kernel)) (by decide +kernel)
theorem kw797 : Cond.classLink RX8 34 RX0 ∈ gt := gt_t (List.mem_of_getElem? (i := 167) (by decide +kernel)) (by decide +kernel)
theorem kw798 : Cond.instantiable RX0 2 ∈ gt := gt_t (List.mem_of_getElem? (i := 168) (by decide +kernel)) (by decide +kernel)
theorem kw799 : Cond.code yX0_init cX0_init 1 none ∈ gt := gt_t (List.mem_of_getElem? (i := 171) (by decide +kernel)) (by decide +kernel)
theorem kw800 : Cond.instanceMethod yX0_init ∈ gt := gt_t (List.mem_of_getElem? (i := 170) (by decide +kernel)) (by decide +kernel)
theorem kw801 : Cond.methodLink RX8 36 yX0_init ∈ gt := gt_t (List.mem_of_getElem? (i := 169) (by decide +kernel)) (by decide +kernel)
theorem kw802 : Cond.classLink RX8 41 RX4 ∈ gt := gt_t (List.mem_of_getElem? (i := 183) (by decide +kernel)) (by decide +kernel)
theorem kw803 : Cond.instantiable RX4 3 ∈ gt := gt_t (List.mem_of_getElem? (i := 184) (by decide +kernel)) (by decide +kernel)
theorem kw804 : Cond.code yX4_init cX4_init 1 none ∈ gt := gt_t (List.mem_of_getElem? (i := 187) (by decide +kernel)) (by decide +kernel)
theorem kw805 : Cond.instanceMethod yX4_init ∈ gt := gt_t (List.mem_of_getElem? (i := 186) (by decide +kernel)) (by decide +kernel)
theorem kw806 : Cond.classLink RX8 48 RX1 ∈ gt := gt_t (List.mem_of_getElem? (i := 201) (by decide +kernel)) (by decide +kernel)
theorem kw807 : Cond.classLink RX8 54 RX5 ∈ gt := gt_t (List.mem_of_getElem? (i := 203) (by decide +kernel)) (by decide +kernel)
theorem kw808 : Cond.instantiable RX1 6 ∈ gt := gt_t (List.mem_of_getElem? (i := 205) (by decide +kernel)) (by decide +kernel)
theorem kw809 : Cond.code yX1_init cX1_init 1 none ∈ gt := gt_t (List.mem_of_getElem? (i := 208) (by decide +kernel)) (by decide +kernel)
theorem kw810 : Cond.instanceMethod yX1_init ∈ gt := gt_t (List.mem_of_getElem? (i := 207) (by decide +kernel)) (by decide +kernel)
theorem kw811 : Cond.instantiable RX5 4 ∈ gt := gt_t (List.mem_of_getElem? (i := 230) (by decide +kernel)) (by decide +kernel)
theorem kw812 : Cond.code yX5_init cX5_init 1 none ∈ gt := gt_t (List.mem_of_getElem? (i := 233) (by decide +kernel)) (by decide +kernel)
theorem kw813 : Cond.instanceMethod yX5_init ∈ gt := gt_t (List.mem_of_getElem? (i := 232) (by decide +kernel)) (by decide +kernel)
theorem kw814 : Cond.methodLink RX9 3 objectInit ∈ gt := gt_t (List.mem_of_getElem? (i := 901) (by decide +kernel)) (by decide +kernel)
