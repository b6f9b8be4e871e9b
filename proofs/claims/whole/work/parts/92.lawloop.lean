set_option maxHeartbeats 4000000 in
set_option maxRecDepth 100000 in
theorem law_loop {p : Program} {l : Launch} {e : Env} {s : State} {m : MethodId} {below : List Frame} {meth : Method} {c : Code} {b L : Nat} {xs : Nat → Int32} {D : va_G} {g : Nat → ClassId} {aC aR : Nat → Nat} (hL : L ≤ 3072) (X : LX p s m meth c b L xs D g aC aR) :
    ∀ (n i : Nat) (u v : Mm) (H : Heap) (locs : List Loc) (ls : Array Slot), i ≤ L → L + 1 ≤ i + n → Rel u v → LW D g aC aR s u v H locs → lv_has ls 4 [(3, .int (nI i)), (2, .ref (aR 0)), (1, .ref (aC 0)), (0, .ref b)] → W p l e room_1 s m #[Value.ref b] below meth c H locs 600000 7302250 (lw_Z below #[Value.ref b] s) (F0 m 18 ls []) := by
  obtain ⟨hx, hb, hr, hml, hown, hts, hX, hbl, hlocks, hgv⟩ := X.1
  have hbA : ¬ (fun q : Nat => s.heap.size ≤ q) b := Nat.not_le.mpr hbl
  intro n
  induction n with
  | zero => intro i u v H locs ls h1 h2; exact absurd h2 (by omega)
  | succ n ih =>
    intro i u v H locs ls hi hin hR w hl
    have hLT : (nI L - (6 : Int32)).toInt = (L : Int) - 6 := by
      have h6 : (6 : Int32) = nI 6 := rfl
      rw [h6, pk_sub_toInt (by omega) (by omega)]
      rfl
    have hiT : (nI i).toInt = (i : Int) := nI_toInt (by omega)
    refine lv_iload_n (pc := 18) hx hb dL_law_18 rfl (lv_at hl 0 rfl) ?_
    refine lv_aload_n (pc := 19) hx hb dL_law_19 rfl (lv_at hl 3 rfl) ?_
    refine va_slen (pc := 20) hx hb hX hbl hbA w.2.2 dL_law_20 ?_
    refine lv_bipush (pc := 21) (v := (6 : Int32)) hx hb dL_law_21 (by decide) ?_
    refine lv_isub (pc := 23) hx hb dL_law_23 ?_
    refine lv_icmp_gt (pc := 24) (tgt := 2390) hx hb dL_law_24 (by decide) (fun c_ => ?_) (fun c_ => ?_)
    · refine lv_iconst (pc := 2390) (v := (1 : Int32)) hx hb dL_law_2390 (by decide) ?_
      refine va_forget (fun q hq => w.2.2.2.2 q hq) ?_
      exact lw_ret hx hb hr hlocks dL_law_2391
    · have hle : i + 6 ≤ L := by
        have c2 : ¬ ((nI L - (6 : Int32)).toInt < (nI i).toInt) := fun z => c_ (Int32.lt_iff_toInt_lt.mpr z)
        rw [hLT, hiT] at c2
        omega
      have hv : ∀ k : Nat, k < 6 → vp_in (nI i + nI k) L := fun k hk => by rw [nI_add]; exact vp_in_nI (by omega) (by omega)
      have h0 : vp_in (nI i) L := vp_in_nI (by omega) (by omega)
      have h1 : vp_in (nI i + (1 : Int32)) L := hv 1 (by omega)
      have h2 : vp_in (nI i + (2 : Int32)) L := hv 2 (by omega)
      have h3 : vp_in (nI i + (3 : Int32)) L := hv 3 (by omega)
      have h4 : vp_in (nI i + (4 : Int32)) L := hv 4 (by omega)
      have h5 : vp_in (nI i + (5 : Int32)) L := hv 5 (by omega)
      have hk : ∀ (u v : Mm) (H : Heap) (locs : List Loc) (ls : Array Slot), Rel u v → LW D g aC aR s u v H locs → lv_has ls 4 [(3, .int (nI i)), (2, .ref (aR 0)), (1, .ref (aC 0)), (0, .ref b)] → W p l e room_1 s m #[Value.ref b] below meth c H locs 600000 7302250 (lw_Z below #[Value.ref b] s) (F0 m 2384 ls []) := by
        intro u v H locs ls hR w hl
        obtain ⟨x3, ex3⟩ : ∃ y : Int32, y = nI i + (6 : Int32) := ⟨_, rfl⟩
        refine lv_iinc (pc := 2384) (v := x3) (lv' := [(3, .int x3), (2, .ref (aR 0)), (1, .ref (aC 0)), (0, .ref b)]) hx hb dL_law_2384 hl (k := 0) rfl (by rw [ex3]; rfl) (by decide) rfl (fun ls hl => ?_)
        have e6 : x3 = nI (i + 6) := by rw [ex3, show (6 : Int32) = nI 6 from rfl, nI_add]
        subst e6
        refine lv_goto (pc := 2387) (tgt := 18) hx hb dL_law_2387 (by decide) ?_
        exact ih (i + 6) u v H locs ls hle (by omega) hR w hl
      refine lv_aload_n (pc := 27) hx hb dL_law_27 rfl (lv_at hl 3 rfl) ?_
      refine lv_iload_n (pc := 28) hx hb dL_law_28 rfl (lv_at hl 0 rfl) ?_
      refine va_sld (pc := 29) hx hb hX hbl hbA w.2.2 h0 dL_law_29 ?_
      refine lv_bipush (pc := 30) (v := (63 : Int32)) hx hb dL_law_30 (by decide) ?_
      refine lv_iand (pc := 32) hx hb dL_law_32 ?_
      refine lv_topi (fun z_ ez_ => ?_)
      rcases sw_in z_ 55 (by decide) with hs | ⟨js, hjs, hs⟩
      · refine lv_tableOut (pc := 33) (tgt := 2384) hx hb dL_law_33 hs (by decide) ?_
        exact hk u v H locs ls hR w hl
      · rcases (show js = 0 ∨ js = 1 ∨ js = 2 ∨ js = 3 ∨ js = 4 ∨ js = 5 ∨ js = 6 ∨ js = 7 ∨ js = 8 ∨ js = 9 ∨ js = 10 ∨ js = 11 ∨ js = 12 ∨ js = 13 ∨ js = 14 ∨ js = 15 ∨ js = 16 ∨ js = 17 ∨ js = 18 ∨ js = 19 ∨ js = 20 ∨ js = 21 ∨ js = 22 ∨ js = 23 ∨ js = 24 ∨ js = 25 ∨ js = 26 ∨ js = 27 ∨ js = 28 ∨ js = 29 ∨ js = 30 ∨ js = 31 ∨ js = 32 ∨ js = 33 ∨ js = 34 ∨ js = 35 ∨ js = 36 ∨ js = 37 ∨ js = 38 ∨ js = 39 ∨ js = 40 ∨ js = 41 ∨ js = 42 ∨ js = 43 ∨ js = 44 ∨ js = 45 ∨ js = 46 ∨ js = 47 ∨ js = 48 ∨ js = 49 ∨ js = 50 ∨ js = 51 ∨ js = 52 ∨ js = 53 ∨ js = 54 ∨ js = 55 by omega) with rfl | rfl | rfl | rfl | rfl | rfl | rfl | rfl | rfl | rfl | rfl | rfl | rfl | rfl | rfl | rfl | rfl | rfl | rfl | rfl | rfl | rfl | rfl | rfl | rfl | rfl | rfl | rfl | rfl | rfl | rfl | rfl | rfl | rfl | rfl | rfl | rfl | rfl | rfl | rfl | rfl | rfl | rfl | rfl | rfl | rfl | rfl | rfl | rfl | rfl | rfl | rfl | rfl | rfl | rfl | rfl
        · subst hs
          refine lv_tableIn (pc := 33) (tgt := 272) (off := 239) hx hb dL_law_33 (by decide) (by decide) (by decide +kernel) (by decide) ?_
          exact lc_trust X w hR hl h1 h2 h3 h4 h5 hk
        · subst hs
          refine lv_tableIn (pc := 33) (tgt := 305) (off := 272) hx hb dL_law_33 (by decide) (by decide) (by decide +kernel) (by decide) ?_
          exact lc_code X w hR hl h1 h2 h3 h4 h5 hk
        · subst hs
          refine lv_tableIn (pc := 33) (tgt := 358) (off := 325) hx hb dL_law_33 (by decide) (by decide) (by decide +kernel) (by decide) ?_
          exact lc_annual X w hR hl h1 h2 h3 h4 h5 hk
        · subst hs
          refine lv_tableIn (pc := 33) (tgt := 411) (off := 378) hx hb dL_law_33 (by decide) (by decide) (by decide +kernel) (by decide) ?_
          exact lc_decode X w hR hl h1 h2 h3 h4 h5 hk
        · subst hs
          refine lv_tableIn (pc := 33) (tgt := 444) (off := 411) hx hb dL_law_33 (by decide) (by decide) (by decide +kernel) (by decide) ?_
          exact lc_row X w hR hl h1 h2 h3 h4 h5 hk
        · subst hs
          refine lv_tableIn (pc := 33) (tgt := 497) (off := 464) hx hb dL_law_33 (by decide) (by decide) (by decide +kernel) (by decide) ?_
          exact lc_rowIs X w hR hl h1 h2 h3 h4 h5 hk
        · subst hs
          refine lv_tableIn (pc := 33) (tgt := 530) (off := 497) hx hb dL_law_33 (by decide) (by decide) (by decide +kernel) (by decide) ?_
          exact lc_asOf X w hR hl h1 h2 h3 h4 h5 hk
        · subst hs
          refine lv_tableIn (pc := 33) (tgt := 553) (off := 520) hx hb dL_law_33 (by decide) (by decide) (by decide +kernel) (by decide) ?_
          exact lc_column X w hR hl h1 h2 h3 h4 h5 hk
        · subst hs
          refine lv_tableIn (pc := 33) (tgt := 586) (off := 553) hx hb dL_law_33 (by decide) (by decide) (by decide +kernel) (by decide) ?_
          exact lc_said X w hR hl h1 h2 h3 h4 h5 hk
        · subst hs
          refine lv_tableIn (pc := 33) (tgt := 610) (off := 577) hx hb dL_law_33 (by decide) (by decide) (by decide +kernel) (by decide) ?_
          exact lc_weight X w hR hl h1 h2 h3 h4 h5 hk
        · subst hs
          refine lv_tableIn (pc := 33) (tgt := 633) (off := 600) hx hb dL_law_33 (by decide) (by decide) (by decide +kernel) (by decide) ?_
          exact lc_bent X w hR hl h1 h2 h3 h4 h5 hk
        · subst hs
          refine lv_tableIn (pc := 33) (tgt := 657) (off := 624) hx hb dL_law_33 (by decide) (by decide) (by decide +kernel) (by decide) ?_
          exact lc_shape X w hR hl h1 h2 h3 h4 h5 hk
        · subst hs
          refine lv_tableIn (pc := 33) (tgt := 681) (off := 648) hx hb dL_law_33 (by decide) (by decide) (by decide +kernel) (by decide) ?_
          exact lc_fix X w hR hl h1 h2 h3 h4 h5 hk
        · subst hs
          refine lv_tableIn (pc := 33) (tgt := 750) (off := 717) hx hb dL_law_33 (by decide) (by decide) (by decide +kernel) (by decide) ?_
          exact lc_rule X w hR hl h1 h2 h3 h4 h5 hk
        · subst hs
          refine lv_tableIn (pc := 33) (tgt := 773) (off := 740) hx hb dL_law_33 (by decide) (by decide) (by decide +kernel) (by decide) ?_
          exact lc_gap X w hR hl h1 h2 h3 h4 h5 hk
        · subst hs
          refine lv_tableIn (pc := 33) (tgt := 817) (off := 784) hx hb dL_law_33 (by decide) (by decide) (by decide +kernel) (by decide) ?_
          exact lc_closed X w hR hl h1 h2 h3 h4 h5 hk
        · subst hs
          refine lv_tableIn (pc := 33) (tgt := 841) (off := 808) hx hb dL_law_33 (by decide) (by decide) (by decide +kernel) (by decide) ?_
          exact lc_moved X w hR hl h1 h2 h3 h4 h5 hk
        · subst hs
          refine lv_tableIn (pc := 33) (tgt := 885) (off := 852) hx hb dL_law_33 (by decide) (by decide) (by decide +kernel) (by decide) ?_
          exact lc_total X w hR hl h1 h2 h3 h4 h5 hk
        · subst hs
          refine lv_tableIn (pc := 33) (tgt := 939) (off := 906) hx hb dL_law_33 (by decide) (by decide) (by decide +kernel) (by decide) ?_
          exact lc_open X w hR hl h1 h2 h3 h4 h5 hk
        · subst hs
          refine lv_tableIn (pc := 33) (tgt := 952) (off := 919) hx hb dL_law_33 (by decide) (by decide) (by decide +kernel) (by decide) ?_
          exact lc_broken X w hR hl h1 h2 h3 h4 h5 hk
        · subst hs
          refine lv_tableIn (pc := 33) (tgt := 965) (off := 932) hx hb dL_law_33 (by decide) (by decide) (by decide +kernel) (by decide) ?_
          exact lc_breaks X w hR hl h1 h2 h3 h4 h5 hk
        · subst hs
          refine lv_tableIn (pc := 33) (tgt := 988) (off := 955) hx hb dL_law_33 (by decide) (by decide) (by decide +kernel) (by decide) ?_
          exact lc_price X w hR hl h1 h2 h3 h4 h5 hk
        · subst hs
          refine lv_tableIn (pc := 33) (tgt := 1031) (off := 998) hx hb dL_law_33 (by decide) (by decide) (by decide +kernel) (by decide) ?_
          exact lc_volume X w hR hl h1 h2 h3 h4 h5 hk
        · subst hs
          refine lv_tableIn (pc := 33) (tgt := 1075) (off := 1042) hx hb dL_law_33 (by decide) (by decide) (by decide +kernel) (by decide) ?_
          exact lc_atPrices X w hR hl h1 h2 h3 h4 h5 hk
        · subst hs
          refine lv_tableIn (pc := 33) (tgt := 1129) (off := 1096) hx hb dL_law_33 (by decide) (by decide) (by decide +kernel) (by decide) ?_
          exact lc_growth X w hR hl h1 h2 h3 h4 h5 hk
        · subst hs
          refine lv_tableIn (pc := 33) (tgt := 1173) (off := 1140) hx hb dL_law_33 (by decide) (by decide) (by decide +kernel) (by decide) ?_
          exact lc_chain X w hR hl h1 h2 h3 h4 h5 hk
        · subst hs
          refine lv_tableIn (pc := 33) (tgt := 1217) (off := 1184) hx hb dL_law_33 (by decide) (by decide) (by decide +kernel) (by decide) ?_
          exact lc_part X w hR hl h1 h2 h3 h4 h5 hk
        · subst hs
          refine lv_tableIn (pc := 33) (tgt := 1261) (off := 1228) hx hb dL_law_33 (by decide) (by decide) (by decide +kernel) (by decide) ?_
          exact lc_apart X w hR hl h1 h2 h3 h4 h5 hk
        · subst hs
          refine lv_tableIn (pc := 33) (tgt := 1295) (off := 1262) hx hb dL_law_33 (by decide) (by decide) (by decide +kernel) (by decide) ?_
          exact lc_trade X w hR hl h1 h2 h3 h4 h5 hk
        · subst hs
          refine lv_tableIn (pc := 33) (tgt := 1358) (off := 1325) hx hb dL_law_33 (by decide) (by decide) (by decide +kernel) (by decide) ?_
          exact lc_precise X w hR hl h1 h2 h3 h4 h5 hk
        · subst hs
          refine lv_tableIn (pc := 33) (tgt := 1391) (off := 1358) hx hb dL_law_33 (by decide) (by decide) (by decide +kernel) (by decide) ?_
          exact lc_hidden X w hR hl h1 h2 h3 h4 h5 hk
        · subst hs
          refine lv_tableIn (pc := 33) (tgt := 1434) (off := 1401) hx hb dL_law_33 (by decide) (by decide) (by decide +kernel) (by decide) ?_
          exact lc_agreed X w hR hl h1 h2 h3 h4 h5 hk
        · subst hs
          refine lv_tableIn (pc := 33) (tgt := 1477) (off := 1444) hx hb dL_law_33 (by decide) (by decide) (by decide +kernel) (by decide) ?_
          exact lc_flow X w hR hl h1 h2 h3 h4 h5 hk
        · subst hs
          refine lv_tableIn (pc := 33) (tgt := 1531) (off := 1498) hx hb dL_law_33 (by decide) (by decide) (by decide +kernel) (by decide) ?_
          exact lc_net X w hR hl h1 h2 h3 h4 h5 hk
        · subst hs
          refine lv_tableIn (pc := 33) (tgt := 1565) (off := 1532) hx hb dL_law_33 (by decide) (by decide) (by decide +kernel) (by decide) ?_
          exact lc_stock X w hR hl h1 h2 h3 h4 h5 hk
        · subst hs
          refine lv_tableIn (pc := 33) (tgt := 1608) (off := 1575) hx hb dL_law_33 (by decide) (by decide) (by decide +kernel) (by decide) ?_
          exact lc_unstock X w hR hl h1 h2 h3 h4 h5 hk
        · subst hs
          refine lv_tableIn (pc := 33) (tgt := 1641) (off := 1608) hx hb dL_law_33 (by decide) (by decide) (by decide +kernel) (by decide) ?_
          exact lc_due X w hR hl h1 h2 h3 h4 h5 hk
        · subst hs
          refine lv_tableIn (pc := 33) (tgt := 1675) (off := 1642) hx hb dL_law_33 (by decide) (by decide) (by decide +kernel) (by decide) ?_
          exact lc_off X w hR hl h1 h2 h3 h4 h5 hk
        · subst hs
          refine lv_tableIn (pc := 33) (tgt := 1709) (off := 1676) hx hb dL_law_33 (by decide) (by decide) (by decide +kernel) (by decide) ?_
          exact lc_type X w hR hl h1 h2 h3 h4 h5 hk
        · subst hs
          refine lv_tableIn (pc := 33) (tgt := 1742) (off := 1709) hx hb dL_law_33 (by decide) (by decide) (by decide +kernel) (by decide) ?_
          exact lc_repeal X w hR hl h1 h2 h3 h4 h5 hk
        · subst hs
          refine lv_tableIn (pc := 33) (tgt := 1765) (off := 1732) hx hb dL_law_33 (by decide) (by decide) (by decide +kernel) (by decide) ?_
          exact lc_fault X w hR hl h1 h2 h3 h4 h5 hk
        · subst hs
          refine lv_tableIn (pc := 33) (tgt := 1788) (off := 1755) hx hb dL_law_33 (by decide) (by decide) (by decide +kernel) (by decide) ?_
          exact lc_left X w hR hl h1 h2 h3 h4 h5 hk
        · subst hs
          refine lv_tableIn (pc := 33) (tgt := 1822) (off := 1789) hx hb dL_law_33 (by decide) (by decide) (by decide +kernel) (by decide) ?_
          exact lc_unkept X w hR hl h1 h2 h3 h4 h5 hk
        · subst hs
          refine lv_tableIn (pc := 33) (tgt := 1845) (off := 1812) hx hb dL_law_33 (by decide) (by decide) (by decide +kernel) (by decide) ?_
          exact lc_revision X w hR hl h1 h2 h3 h4 h5 hk
        · subst hs
          refine lv_tableIn (pc := 33) (tgt := 1889) (off := 1856) hx hb dL_law_33 (by decide) (by decide) (by decide +kernel) (by decide) ?_
          exact lc_steps X w hR hl h1 h2 h3 h4 h5 hk
        · subst hs
          refine lv_tableIn (pc := 33) (tgt := 1932) (off := 1899) hx hb dL_law_33 (by decide) (by decide) (by decide +kernel) (by decide) ?_
          exact lc_step X w hR hl h1 h2 h3 h4 h5 hk
        · subst hs
          refine lv_tableIn (pc := 33) (tgt := 1996) (off := 1963) hx hb dL_law_33 (by decide) (by decide) (by decide +kernel) (by decide) ?_
          exact lc_led X w hR hl h1 h2 h3 h4 h5 hk
        · subst hs
          refine lv_tableIn (pc := 33) (tgt := 2046) (off := 2013) hx hb dL_law_33 (by decide) (by decide) (by decide +kernel) (by decide) ?_
          exact lc_sheet X w hR hl h1 h2 h3 h4 h5 hk
        · subst hs
          refine lv_tableIn (pc := 33) (tgt := 2089) (off := 2056) hx hb dL_law_33 (by decide) (by decide) (by decide +kernel) (by decide) ?_
          exact lc_lose X w hR hl h1 h2 h3 h4 h5 hk
        · subst hs
          refine lv_tableIn (pc := 33) (tgt := 2112) (off := 2079) hx hb dL_law_33 (by decide) (by decide) (by decide +kernel) (by decide) ?_
          exact lc_put X w hR hl h1 h2 h3 h4 h5 hk
        · subst hs
          refine lv_tableIn (pc := 33) (tgt := 2165) (off := 2132) hx hb dL_law_33 (by decide) (by decide) (by decide +kernel) (by decide) ?_
          exact lc_get X w hR hl h1 h2 h3 h4 h5 hk
        · subst hs
          refine lv_tableIn (pc := 33) (tgt := 2208) (off := 2175) hx hb dL_law_33 (by decide) (by decide) (by decide +kernel) (by decide) ?_
          exact lc_copy X w hR hl h1 h2 h3 h4 h5 hk
        · subst hs
          refine lv_tableIn (pc := 33) (tgt := 2271) (off := 2238) hx hb dL_law_33 (by decide) (by decide) (by decide +kernel) (by decide) ?_
          exact lc_read X w hR hl h1 h2 h3 h4 h5 hk
        · subst hs
          refine lv_tableIn (pc := 33) (tgt := 2294) (off := 2261) hx hb dL_law_33 (by decide) (by decide) (by decide +kernel) (by decide) ?_
          exact lc_write X w hR hl h1 h2 h3 h4 h5 hk
        · subst hs
          refine lv_tableIn (pc := 33) (tgt := 2347) (off := 2314) hx hb dL_law_33 (by decide) (by decide) (by decide +kernel) (by decide) ?_
          exact lc_count X w hR hl h1 h2 h3 h4 h5 hk
        · subst hs
          refine lv_tableIn (pc := 33) (tgt := 2370) (off := 2337) hx hb dL_law_33 (by decide) (by decide) (by decide +kernel) (by decide) ?_
          exact lc_digest X w hR hl h1 h2 h3 h4 h5 hk

