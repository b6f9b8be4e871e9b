theorem nest_in : ∀ w ∈ Cnest, w ∈ tables_1 := by decide +kernel

theorem L_arr {ty : FieldType} {args : Array Value} {s : State} (h : (Cond.arrayClass ty).before args s = true) (hp : ty = .int ∨ ty = .long ∨ ty = .boolean) : ∃ cA : ClassId, ArrOfT s cA ty ∧ va_RA s cA ty := by
  obtain ⟨c, k, comp, h1, h2, h3⟩ := Cond.arrayClass_spec h
  refine ⟨c, fun n z => ⟨fun k h => (by cases h), k, h2, comp, h3⟩, ?_⟩
  rcases hp with rfl | rfl | rfl <;> exact h1
theorem L_arrO {C : String} {s : State} (h : va_AO C s) : ∃ cA : ClassId, ArrOfT s cA (.object C) ∧ va_RA s cA (.object C) := by
  obtain ⟨comp, c, k, h1, h2, h3, h4, h5⟩ := Cond.arrayOver_spec h
  exact ⟨c, fun n z => ⟨fun k h => (by cases h), k, h3, comp, h4⟩, k, comp, h3, h4, h1, h5⟩
theorem L_last {A0 : Nat → Prop} {D : va_G} {cl : List vw_C} {ws : va_W} {x : Nat × va_E} {H H0 : Heap} {locs : List Loc} (hP : va_P D cl (ws ++ [x]) H) (hD : va_D A0 (ws ++ [x])) (hS : va_S A0 H0 H locs) (hA : ∀ q, H0.size ≤ q → A0 q) : va_P D cl [x] H ∧ va_D (fun _ => True) [x] ∧ ∀ q, va_A [x] H.size q → A0 q := by
  have hx : (ws ++ [x])[ws.length]? = some x := by simp
  refine ⟨fun k q hq => ?_, ⟨fun i j p q hi hj _ => ?_, fun _ _ _ => trivial⟩, fun q hq => ?_⟩
  · have hk : k < 1 := (List.getElem?_eq_some_iff.mp hq).1
    obtain rfl : k = 0 := by omega
    cases hq
    exact hP _ _ hx
  · have h1 : i < 1 := (List.getElem?_eq_some_iff.mp hi).1
    have h2 : j < 1 := (List.getElem?_eq_some_iff.mp hj).1
    omega
  · rcases hq with ⟨k, e, hk⟩ | hq
    · have h1 : k < 1 := (List.getElem?_eq_some_iff.mp hk).1
      obtain rfl : k = 0 := by omega
      cases hk
      exact hD.2 _ _ hx
    · exact hA q (Nat.le_trans hS.1 hq)
theorem L_join {A0 : Nat → Prop} {D : va_G} {cl : List vw_C} {ws w1 : va_W} {x : Nat × va_E} {H H1 : Heap} (hP : va_P D cl (ws ++ [x]) H) (hD : va_D A0 (ws ++ [x])) (hk : ∀ q : Nat, q < H.size → ¬ va_A [x] H.size q → H1[q]? = H[q]?) (hF : ∀ q, va_A [x] H.size q → A0 q) (hP1 : va_P D cl w1 H1) (hD1 : va_D (va_A [x] H.size) w1) : va_P D cl (ws ++ w1) H1 ∧ va_D A0 (ws ++ w1) := by
  have hx : (ws ++ [x])[ws.length]? = some x := by simp
  have hl : ∀ (k : Nat) (q : Nat × va_E), ws[k]? = some q → (ws ++ [x])[k]? = some q := fun k q h => by
    rw [List.getElem?_append_left (List.getElem?_eq_some_iff.mp h).1]; exact h
  have hno : ∀ (k : Nat) (q : Nat × va_E), ws[k]? = some q → ¬ va_A [x] H.size q.1 := by
    intro k q h hq
    have hlt : k < ws.length := (List.getElem?_eq_some_iff.mp h).1
    rcases hq with ⟨j, e, hj⟩ | hq
    · have h1 : j < 1 := (List.getElem?_eq_some_iff.mp hj).1
      obtain rfl : j = 0 := by omega
      have hj2 : x = (q.1, e) := Option.some.inj hj
      have := hD.1 k ws.length q x (hl k q h) hx (by rw [hj2])
      omega
    · exact absurd (hP k q (hl k q h)).lt (Nat.not_lt.mpr hq)
  refine ⟨va_P.app (fun k q h => (hP k q (hl k q h)).kept (hk q.1 (hP k q (hl k q h)).lt (hno k q h))) hP1, ?_⟩
  refine va_D.app ⟨fun i j p q h1 h2 h3 => hD.1 i j p q (hl i p h1) (hl j q h2) h3, fun k q h => hD.2 k q (hl k q h)⟩ (hD1.weaken (fun k q _ h => hF _ h)) (fun i j p q h1 h2 e9 => ?_)
  exact hno i p h1 (by rw [e9]; exact hD1.2 j q h2)
theorem L_split {D : va_G} {g : Nat → ClassId} {aC aR : Nat → Nat} {u v : Mm} {H : Heap} {A0 : Nat → Prop} (hPj : va_P D vwCl (CW g aC u ++ RW g aR v) H) (hDj : va_D A0 (CW g aC u ++ RW g aR v)) : CJ aC ∧ RJ aR ∧ (∀ i j, i < 62 → j < 31 → aC i ≠ aR j) ∧ (∀ i, i < 62 → A0 (aC i)) ∧ (∀ j, j < 31 → A0 (aR j)) ∧ va_P D vwCl (CW g aC u) H ∧ va_P D vwCl (RW g aR v) H := by
  have lC : (CW g aC u).length = 62 := by have h := congrArg List.length (CW_fst g aC u); rw [List.length_map, List.length_map, List.length_range] at h; exact h
  have lR : (RW g aR v).length = 31 := by have h := congrArg List.length (RW_fst g aR v); rw [List.length_map, List.length_map, List.length_range] at h; exact h
  have atC : ∀ i, i < 62 → ∃ q : Nat × va_E, (CW g aC u ++ RW g aR v)[i]? = some q ∧ q.1 = aC i := fun i hi => by
    have h2 : i < (CW g aC u).length := by rw [lC]; exact hi
    exact ⟨_, (List.getElem?_append_left h2).trans (List.getElem?_eq_getElem h2), (CW_at (List.getElem?_eq_getElem h2)).2⟩
  have atR : ∀ j, j < 31 → ∃ q : Nat × va_E, (CW g aC u ++ RW g aR v)[62 + j]? = some q ∧ q.1 = aR j := fun j hj => by
    have h2 : j < (RW g aR v).length := by rw [lR]; exact hj
    refine ⟨_, ?_, (RW_at (List.getElem?_eq_getElem h2)).2⟩
    rw [List.getElem?_append_right (by rw [lC]; omega), lC, show 62 + j - 62 = j by omega]
    exact List.getElem?_eq_getElem h2
  refine ⟨fun i j hi hj e9 => ?_, fun i j hi hj e9 => ?_, fun i j hi hj e9 => ?_, fun i hi => ?_, fun j hj => ?_, fun k q hq => ?_, fun k q hq => ?_⟩
  · obtain ⟨p, a1, a2⟩ := atC i hi
    obtain ⟨q, b1, b2⟩ := atC j hj
    exact hDj.1 i j p q a1 b1 (by rw [a2, b2, e9])
  · obtain ⟨p, a1, a2⟩ := atR i hi
    obtain ⟨q, b1, b2⟩ := atR j hj
    have := hDj.1 (62 + i) (62 + j) p q a1 b1 (by rw [a2, b2, e9])
    omega
  · obtain ⟨p, a1, a2⟩ := atC i hi
    obtain ⟨q, b1, b2⟩ := atR j hj
    have := hDj.1 i (62 + j) p q a1 b1 (by rw [a2, b2, e9])
    omega
  · obtain ⟨p, a1, a2⟩ := atC i hi
    rw [← a2]; exact hDj.2 i p a1
  · obtain ⟨p, a1, a2⟩ := atR j hj
    rw [← a2]; exact hDj.2 (62 + j) p a1
  · exact hPj k q (by rw [List.getElem?_append_left (List.getElem?_eq_some_iff.mp hq).1]; exact hq)
  · refine hPj (62 + k) q ?_
    rw [List.getElem?_append_right (by rw [lC]; omega), lC, show 62 + k - 62 = k by omega]
    exact hq
set_option maxHeartbeats 4000000 in
set_option maxRecDepth 100000 in
/-- THE LAW, from its entry -/
theorem whole_start {p : Program} {e : Env} {s : State} {m : MethodId} {below : List Frame} {meth : Method} {c : Code} (l : Launch) {b L : Nat} {xs : Nat → Int32} (hL : L ≤ 3072) (C0 : lw_At p s m meth c b L xs) : W p l e room_1 s m #[Value.ref b] below meth c s.heap [] 0 0 (lw_Z below #[Value.ref b] s) (entryFrame m ([Value.ref b] : List Value).toArray 4) := by
  obtain ⟨hx, hb, hr, hml, hown, hts, hX, hbl, hlocks, hgv⟩ := id C0
  have hA : ∀ q : Nat, s.heap.size ≤ q → (fun q : Nat => s.heap.size ≤ q) q := fun _ h => h
  have hT : ∀ w ∈ tables_1, w.before #[Value.ref b] s = true := fun w h => hts w (List.mem_append_right _ h)
  obtain ⟨c0, iS0, hKn0⟩ := u_known (C := RX0) (T := TX0) (N := 2) (n := 2) hts (fun w h => gt_sub (ginX0 w h)) (hT (.instantiable RX0 2) (List.mem_of_getElem? (i := 168) (by decide +kernel)))
  obtain ⟨c1, iS1, hKn1⟩ := u_known (C := RX1) (T := TX1) (N := 6) (n := 6) hts (fun w h => gt_sub (ginX1 w h)) (hT (.instantiable RX1 6) (List.mem_of_getElem? (i := 205) (by decide +kernel)))
  obtain ⟨c2, iS2, hKn2⟩ := u_known (C := RX2) (T := TX2) (N := 3) (n := 3) hts (fun w h => gt_sub (ginX2 w h)) (hT (.instantiable RX2 3) (List.mem_of_getElem? (i := 88) (by decide +kernel)))
  obtain ⟨c3, iS3, hKn3⟩ := u_known (C := RX3) (T := TX3) (N := 12) (n := 12) hts (fun w h => gt_sub (ginX3 w h)) (hT (.instantiable RX3 12) (List.mem_of_getElem? (i := 23) (by decide +kernel)))
  obtain ⟨c4, iS4, hKn4⟩ := u_known (C := RX4) (T := TX4) (N := 3) (n := 3) hts (fun w h => gt_sub (ginX4 w h)) (hT (.instantiable RX4 3) (List.mem_of_getElem? (i := 184) (by decide +kernel)))
  obtain ⟨c5, iS5, hKn5⟩ := u_known (C := RX5) (T := TX5) (N := 4) (n := 4) hts (fun w h => gt_sub (ginX5 w h)) (hT (.instantiable RX5 4) (List.mem_of_getElem? (i := 230) (by decide +kernel)))
  obtain ⟨c6, iS6, hKn6⟩ := u_known (C := RX6) (T := TX6) (N := 11) (n := 11) hts (fun w h => gt_sub (ginX6 w h)) (hT (.instantiable RX6 11) (List.mem_of_getElem? (i := 82) (by decide +kernel)))
  obtain ⟨c7, iS7, hKn7⟩ := u_known (C := RX7) (T := TX7) (N := 3) (n := 3) hts (fun w h => gt_sub (ginX7 w h)) (hT (.instantiable RX7 3) (List.mem_of_getElem? (i := 148) (by decide +kernel)))
  obtain ⟨c8, iS8, hKn8⟩ := u_known (C := RX8) (T := TX8) (N := 8) (n := 8) hts (fun w h => gt_sub (ginX8 w h)) (hT (.instantiable RX8 8) (List.mem_of_getElem? (i := 15) (by decide +kernel)))
  obtain ⟨c9, iS9, hKn9⟩ := u_known (C := RX9) (T := TX9) (N := 43) (n := 43) hts (fun w h => gt_sub (ginX9 w h)) (hT (.instantiable RX9 43) (List.mem_of_getElem? (i := 897) (by decide +kernel)))
  obtain ⟨dC, dI, hKc⟩ : ∃ (dC : Nat → ClassId) (dI : Nat → Nat → Nat), ∀ (k : Nat) (q : vw_C), vwCl[k]? = some q → u_Kn s q.1 q.2.1 q.2.2 (dC k) (dI k) := by
    refine ⟨fun k => if k = 0 then c0 else if k = 1 then c1 else if k = 2 then c2 else if k = 3 then c3 else if k = 4 then c4 else if k = 5 then c5 else if k = 6 then c6 else if k = 7 then c7 else if k = 8 then c8 else c9, fun k => if k = 0 then iS0 else if k = 1 then iS1 else if k = 2 then iS2 else if k = 3 then iS3 else if k = 4 then iS4 else if k = 5 then iS5 else if k = 6 then iS6 else if k = 7 then iS7 else if k = 8 then iS8 else iS9, ?_⟩
    intro k q hq
    match k, hq with
    | 0, hq => cases hq; exact hKn0
    | 1, hq => cases hq; exact hKn1
    | 2, hq => cases hq; exact hKn2
    | 3, hq => cases hq; exact hKn3
    | 4, hq => cases hq; exact hKn4
    | 5, hq => cases hq; exact hKn5
    | 6, hq => cases hq; exact hKn6
    | 7, hq => cases hq; exact hKn7
    | 8, hq => cases hq; exact hKn8
    | 9, hq => cases hq; exact hKn9
    | k + 10, hq => simp [vwCl] at hq
  have hao_X1 : va_AO RX1 s := va_AO.of (hT (.arrayOver (.object RX1)) (List.mem_of_getElem? (i := 202) (by decide +kernel)))
  have hao_X5 : va_AO RX5 s := va_AO.of (hT (.arrayOver (.object RX5)) (List.mem_of_getElem? (i := 204) (by decide +kernel)))
  obtain ⟨g0, ga0, gb0⟩ := L_arr (hT (.arrayClass .int) (List.mem_of_getElem? (i := 80) (by decide +kernel))) (Or.inl rfl)
  obtain ⟨g1, ga1, gb1⟩ := L_arr (hT (.arrayClass .long) (List.mem_of_getElem? (i := 106) (by decide +kernel))) (Or.inr (Or.inl rfl))
  obtain ⟨g2, ga2, gb2⟩ := L_arr (hT (.arrayClass .boolean) (List.mem_of_getElem? (i := 146) (by decide +kernel))) (Or.inr (Or.inr rfl))
  obtain ⟨g3, ga3, gb3⟩ := L_arrO hao_X1
  obtain ⟨g4, ga4, gb4⟩ := L_arrO hao_X5
  obtain ⟨g, hg0, hg1, hg2, hg3, hg4⟩ : ∃ g : Nat → ClassId, g 0 = g0 ∧ g 1 = g1 ∧ g 2 = g2 ∧ g 3 = g3 ∧ g 4 = g4 := ⟨fun k => if k = 0 then g0 else if k = 1 then g1 else if k = 2 then g2 else if k = 3 then g3 else g4, rfl, rfl, rfl, rfl, rfl⟩
  subst hg0 hg1 hg2 hg3 hg4
  have hKC : CK (dC, dI) g s := by
    refine ⟨⟨hKc, fun k q hq => ?_⟩, fun w hw => ?_⟩
    · match k, hq with
      | 0, hq => cases hq; exact ⟨ga0, gb0⟩
      | 1, hq => cases hq; exact ⟨ga1, gb1⟩
      | 2, hq => cases hq; exact ⟨ga2, gb2⟩
      | 3, hq => cases hq; exact ⟨ga3, gb3⟩
      | 4, hq => cases hq; exact ⟨ga4, gb4⟩
      | k + 5, hq => simp [Ctys] at hq
    · have hin : w ∈ tables_1 := nest_in w hw
      obtain ⟨a, i, x, z, rfl⟩ := Cnest_is w hw
      exact va_Nw.of rfl (hT _ hin)
  have hKR : RK (dC, dI) g s := ⟨hKC.1.sub (tys' := Rtys g) [0, 1, 2] rfl, fun w hw => by cases hw⟩
  have hS : va_S (fun q : Nat => s.heap.size ≤ q) s.heap s.heap [] := va_S.rf
  have hP : va_P (dC, dI) vwCl [] s.heap := fun k q h => by simp at h
  have hD : va_D (fun q : Nat => s.heap.size ≤ q) [] := ⟨fun i j p q h => by simp at h, fun k q h => by simp at h⟩
  have hl := lv_entry ([.ref b]) (n := 4) (Nat.le_of_ble_eq_true rfl)
  rw [lg_entry_eq]
  generalize (lg_sl ([.ref b]) ++ List.replicate (4 - (lg_sl ([.ref b])).length) Slot.unset).toArray = ls at hl ⊢
  have hl : lv_has ls 4 [(0, .ref b)] := hl
  refine va_new (pc := 0) (ci := 8) (fs := [.null, .null, .null, .null, .null, .null, .null, .int 0]) (C := RX8) (T := TX8) (N := 8) hx hb hts (fun w h => gt_sub (ginX8 w h)) tyX8 tyX8_ok hown (hts _ (gt_sub kw1254)) (hts _ (gt_sub kw1256)) (hts _ (gt_sub kw16)) hKC.1 hP hD hS hA rfl (fun j hj => by rcases (show j = 0 ∨ j = 1 ∨ j = 2 ∨ j = 3 ∨ j = 4 ∨ j = 5 ∨ j = 6 ∨ j = 7 by omega) with rfl | rfl | rfl | rfl | rfl | rfl | rfl | rfl <;> rfl) (Nat.le_of_ble_eq_true rfl) (Nat.le_of_ble_eq_true rfl) dL_law_0 (fun q8 H hP hD hS => ?_)
  have hP : va_P (dC, dI) vwCl [(q8, .inr (8, [.null, .null, .null, .null, .null, .null, .null, .int 0]))] H := hP
  have hD : va_D (fun q : Nat => s.heap.size ≤ q) [(q8, .inr (8, [.null, .null, .null, .null, .null, .null, .null, .int 0]))] := hD
  refine lv_dup (pc := 3) hx hb dL_law_3 rfl ?_
  have hFc := va_free (wc := [(q8, .inr (8, [.null, .null, .null, .null, .null, .null, .null, .int 0]))]) hD hS hA [0] rfl
  refine va_callv (va_runI (As := []) (rest := [.ref q8]) ⟨hx, hb, hml, hown, hts⟩ (in_X8 l (dC, dI) g q8 H.size) (cwI 0 hts (fun w hw => by rcases List.mem_cons.mp hw with rfl | h; exact ⟨gt_sub kw1258, gt_good kw1258⟩; exact ⟨gt_sub h, gt_good h⟩) rfl rfl rfl (hts _ (gt_sub kw16)) (hts _ (gt_sub kw1262)) (hts _ (gt_sub kw1260)) rfl (by decide +kernel) ⟨Nat.le_of_ble_eq_true rfl, Nat.le_of_ble_eq_true rfl⟩) ⟨fun a U g mk q => by obtain ⟨q0, q1, qP, ⟨qK, qa, qb⟩, qD⟩ := q; exact ⟨q0, q1, qP, ⟨CK_call qK, va_AO.moved (Vm.Alike.refl U.vm) qa, va_AO.moved (Vm.Alike.refl U.vm) qb⟩, qD⟩, fun U hU hW => ⟨rfl, by rw [hU], by rw [hU]; exact hP, ⟨CK_warm hW hKC, va_AO.moved hW.alike hao_X1, va_AO.moved hW.alike hao_X5⟩, hD.weaken (fun _ _ _ _ => trivial)⟩⟩ rfl rfl hl.1 rfl (lv_room (Nat.le_of_ble_eq_true rfl)) dL_law_4 ⟨Nat.le_of_ble_eq_true rfl, Nat.le_of_ble_eq_true rfl⟩) hS (fun q _ h => hFc q h) hFc (fun aC t H1 locs ht hvm hw_ hB hz1 hk1 hS => ?_)
  obtain ⟨hP1, hD1⟩ := hB
  rw [ht] at hP1
  have hDn : va_D (fun q : Nat => s.heap.size ≤ q) (CW g aC cu0) := hD1.weaken (fun k q hq h => hFc _ h)
  have hC0 : aC 0 = q8 := hw_
  subst hC0
  have hP : va_P (dC, dI) vwCl (CW g aC cu0) H1 := hP1
  have hD : va_D (fun q : Nat => s.heap.size ≤ q) (CW g aC cu0) := hDn
  refine lv_astore_n (pc := 7) (lv' := [(1, .ref (aC 0)), (0, .ref b)]) hx hb dL_law_7 rfl hl (by decide) rfl (fun ls hl => ?_)
  refine va_new (pc := 8) (ci := 9) (fs := [.null, .int 0, .null, .null, .null, .null, .int 0, .int 0, .null, .null, .null, .int 0, .null, .null, .null, .null, .null, .null, .int 0, .null, .null, .null, .int 0, .null, .null, .null, .null, .null, .null, .null, .null, .int 0, .int 0, .int 0, .int 0, .int 0, .int 0, .null, .null, .null, .null, .null, .int 0]) (C := RX9) (T := TX9) (N := 43) hx hb hts (fun w h => gt_sub (ginX9 w h)) tyX9 tyX9_ok hown (hts _ (gt_sub kw1255)) (hts _ (gt_sub kw1257)) (hts _ (gt_sub kw492)) hKC.1 hP hD hS hA rfl (fun j hj => by rcases (show j = 0 ∨ j = 1 ∨ j = 2 ∨ j = 3 ∨ j = 4 ∨ j = 5 ∨ j = 6 ∨ j = 7 ∨ j = 8 ∨ j = 9 ∨ j = 10 ∨ j = 11 ∨ j = 12 ∨ j = 13 ∨ j = 14 ∨ j = 15 ∨ j = 16 ∨ j = 17 ∨ j = 18 ∨ j = 19 ∨ j = 20 ∨ j = 21 ∨ j = 22 ∨ j = 23 ∨ j = 24 ∨ j = 25 ∨ j = 26 ∨ j = 27 ∨ j = 28 ∨ j = 29 ∨ j = 30 ∨ j = 31 ∨ j = 32 ∨ j = 33 ∨ j = 34 ∨ j = 35 ∨ j = 36 ∨ j = 37 ∨ j = 38 ∨ j = 39 ∨ j = 40 ∨ j = 41 ∨ j = 42 by omega) with rfl | rfl | rfl | rfl | rfl | rfl | rfl | rfl | rfl | rfl | rfl | rfl | rfl | rfl | rfl | rfl | rfl | rfl | rfl | rfl | rfl | rfl | rfl | rfl | rfl | rfl | rfl | rfl | rfl | rfl | rfl | rfl | rfl | rfl | rfl | rfl | rfl | rfl | rfl | rfl | rfl | rfl | rfl <;> rfl) (Nat.le_of_ble_eq_true rfl) (Nat.le_of_ble_eq_true rfl) dL_law_8 (fun q9 H hP hD hS => ?_)
  have hP : va_P (dC, dI) vwCl (CW g aC cu0 ++ [(q9, .inr (9, [.null, .int 0, .null, .null, .null, .null, .int 0, .int 0, .null, .null, .null, .int 0, .null, .null, .null, .null, .null, .null, .int 0, .null, .null, .null, .int 0, .null, .null, .null, .null, .null, .null, .null, .null, .int 0, .int 0, .int 0, .int 0, .int 0, .int 0, .null, .null, .null, .null, .null, .int 0]))]) H := hP
  have hD : va_D (fun q : Nat => s.heap.size ≤ q) (CW g aC cu0 ++ [(q9, .inr (9, [.null, .int 0, .null, .null, .null, .null, .int 0, .int 0, .null, .null, .null, .int 0, .null, .null, .null, .null, .null, .null, .int 0, .null, .null, .null, .int 0, .null, .null, .null, .null, .null, .null, .null, .null, .int 0, .int 0, .int 0, .int 0, .int 0, .int 0, .null, .null, .null, .null, .null, .int 0]))]) := hD
  refine lv_dup (pc := 11) hx hb dL_law_11 rfl ?_
  obtain ⟨hPc, hDc, hFc⟩ := L_last hP hD hS hA
  refine va_callv (va_runI (As := []) (rest := [.ref q9]) ⟨hx, hb, hml, hown, hts⟩ (in_X9 l (dC, dI) g q9 H.size (fun v => Rel cu0 v) rel_init) (cwI 0 hts (fun w hw => by rcases List.mem_cons.mp hw with rfl | h; exact ⟨gt_sub kw1259, gt_good kw1259⟩; exact ⟨gt_sub h, gt_good h⟩) rfl rfl rfl (hts _ (gt_sub kw492)) (hts _ (gt_sub kw1263)) (hts _ (gt_sub kw1261)) rfl (by decide +kernel) ⟨Nat.le_of_ble_eq_true rfl, Nat.le_of_ble_eq_true rfl⟩) ⟨fun a U g mk q => by obtain ⟨q0, q1, qP, qK, qD⟩ := q; exact ⟨q0, q1, qP, RK_call qK, qD⟩, fun U hU hW => ⟨rfl, by rw [hU], by rw [hU]; exact hPc, RK_warm hW hKR, hDc.weaken (fun _ _ _ _ => trivial)⟩⟩ rfl rfl hl.1 rfl (lv_room (Nat.le_of_ble_eq_true rfl)) dL_law_12 ⟨Nat.le_of_ble_eq_true rfl, Nat.le_of_ble_eq_true rfl⟩) hS (fun q _ h => hFc q h) hFc (fun qu t H1 locs ht hvm hw_ hB hz1 hk1 hS => ?_)
  obtain ⟨aR, v0⟩ := qu
  obtain ⟨hP1, hD1⟩ := hB
  rw [ht] at hP1
  obtain ⟨hR0, hrel⟩ := hw_
  have hR0 : aR 0 = q9 := hR0
  obtain ⟨hPj, hDj⟩ := L_join hP hD hk1 hFc hP1 hD1
  subst hR0
  obtain ⟨hjC, hjR, hdis, hnC, hnR, hPC, hPR⟩ := L_split hPj hDj
  have X : LX p s m meth c b L xs (dC, dI) g aC aR := ⟨C0, hKC, hKR, hjC, hjR, hdis, hnC, hnR⟩
  have w : LW (dC, dI) g aC aR s cu0 v0 H1 locs := ⟨hPC, hPR, hS⟩
  refine W.widen (k := 600000) (n := 7302250) (Nat.le_of_ble_eq_true rfl) (Nat.le_of_ble_eq_true rfl) ?_
  refine lv_astore_n (pc := 15) (lv' := [(2, .ref (aR 0)), (1, .ref (aC 0)), (0, .ref b)]) hx hb dL_law_15 rfl hl (by decide) rfl (fun ls hl => ?_)
  refine lv_iconst (pc := 16) (v := (0 : Int32)) hx hb dL_law_16 (by decide) ?_
  refine lv_istore_n (pc := 17) (lv' := [(3, .int 0), (2, .ref (aR 0)), (1, .ref (aC 0)), (0, .ref b)]) hx hb dL_law_17 rfl hl (by decide) rfl (fun ls hl => ?_)
  exact law_loop hL X (L + 1) 0 cu0 v0 H1 locs ls (Nat.zero_le L) (by omega) hrel w hl

