/-! THE CLAIM OUT OF ONE WALK OF THE LAW'S BODY. Your part is whole_start (and what it stands on); all else here is the same for every law, but numbers. -/
def R_law : String := "NationBooksLaw"
def lw_P (b : Addr) (xs : List Int32) (args : Array Value) (s : State) : Prop := args = #[.ref b] ∧ s.IntsAt b xs ∧ xs.length ≤ 3072 ∧ (Jvm.Cond.and given_1 narrow_1).before args s = true
def lw_Q (_ : Array Value) (s : State) (o : Outcome) (t : State) : Prop := o = .returned (some (.int 1)) ∧ Framed s o t [] 600000 7302250
def lw_Z (below : List Frame) (a : Array Value) (s : State) : State → Prop := fun t => ∃ o, t.status = .running ∧ Ended t below o ∧ lw_Q a s o t
/-- the law's own end, with 1 on the stack, nothing written that was there before, its room as the claim has it -/
theorem lw_ret {p : Program} {l : Launch} {e : Env} {s : State} {m : MethodId} {below : List Frame} {meth : Method} {c : Code} {b : Nat} (hx : p.tables.exec = Jvm.exec) (hb : c.code = code) (hr : meth.sig.returnType = ret) (hlocks : meth.locks = false) {pc : Nat} {H : Heap} {ls : Array Slot} (hdg : decode code pc = .ok (.ireturn, 1)) : W p l e room_1 s m #[Value.ref b] below meth c H [] 600000 7302250 (lw_Z below #[Value.ref b] s) (F0 m pc ls [.int 1]) := by
  intro T hT X
  obtain ⟨fs, hret, hrun, hended, hW, hframe⟩ := X.leave (v := some (.int 1)) (hlocks := hlocks) (fun h => by rw [hr] at h; cases h)
  have hmeth' : T.vm.method? m = some meth := X.method'
  refine ⟨T.setFrames fs, ?_, .returned (some (.int 1)), hrun, hended, rfl, ⟨_, rfl⟩, hW, hframe⟩
  jvm_step X.here [X.here.top, hx, hb, hdg, hmeth', hr, ret, narrow_b1]
  (try refine ⟨rfl, ?_⟩); (try refine ⟨rfl, ?_⟩)
  first | (intro acts; rw [hret _ acts rfl rfl rfl]) | rw [hret _ _ rfl rfl rfl]
  exact Steps.refl _
/-- what holds at the law's entry: the machine, the code, the tables' words (any of lw_tbl by 'hts w (by decide +kernel)'), the script of L ints xs at the cell b, what the Statement gives of the start (any of its parts by flat_of_before) -/
def lw_At (p : Program) (s : State) (m : MethodId) (meth : Method) (c : Code) (b L : Nat) (xs : Nat → Int32) : Prop :=
  p.tables.exec = Jvm.exec ∧ c.code = code ∧ meth.sig.returnType = ret ∧ c.maxLocals = 4 ∧ s.vm.findClass R_law = some m.cls ∧ (∀ w ∈ lw_tbl, w.before #[Value.ref b] s = true) ∧ va_X b L xs s s.heap ∧ b < s.heap.size ∧ meth.locks = false ∧ (Jvm.Cond.and given_1 narrow_1).before #[Value.ref b] s = true
theorem kw815 : Cond.methodLink RL 13 yX8_trust ∈ gt := gt_t (List.mem_of_getElem? (i := 277) (by decide +kernel)) (by decide +kernel)
theorem kw816 : Cond.code yX8_trust cX8_trust 4 (some .int) ∈ gt := gt_t (List.mem_of_getElem? (i := 280) (by decide +kernel)) (by decide +kernel)
theorem kw817 : Cond.instanceMethod yX8_trust ∈ gt := gt_t (List.mem_of_getElem? (i := 278) (by decide +kernel)) (by decide +kernel)
theorem kw818 : Cond.selects RX8 yX8_trust yX8_trust ∈ gt := gt_t (List.mem_of_getElem? (i := 279) (by decide +kernel)) (by decide +kernel)
theorem kw819 : Cond.methodLink RL 17 yX9_trust ∈ gt := gt_t (List.mem_of_getElem? (i := 1080) (by decide +kernel)) (by decide +kernel)
theorem kw820 : Cond.code yX9_trust cX9_trust 4 (some .int) ∈ gt := gt_t (List.mem_of_getElem? (i := 1083) (by decide +kernel)) (by decide +kernel)
theorem kw821 : Cond.instanceMethod yX9_trust ∈ gt := gt_t (List.mem_of_getElem? (i := 1081) (by decide +kernel)) (by decide +kernel)
theorem kw822 : Cond.selects RX9 yX9_trust yX9_trust ∈ gt := gt_t (List.mem_of_getElem? (i := 1082) (by decide +kernel)) (by decide +kernel)
theorem kw823 : Cond.methodLink RL 18 yX8_code ∈ gt := gt_t (List.mem_of_getElem? (i := 294) (by decide +kernel)) (by decide +kernel)
theorem kw824 : Cond.code yX8_code cX8_code 5 (some .int) ∈ gt := gt_t (List.mem_of_getElem? (i := 297) (by decide +kernel)) (by decide +kernel)
theorem kw825 : Cond.instanceMethod yX8_code ∈ gt := gt_t (List.mem_of_getElem? (i := 295) (by decide +kernel)) (by decide +kernel)
theorem kw826 : Cond.selects RX8 yX8_code yX8_code ∈ gt := gt_t (List.mem_of_getElem? (i := 296) (by decide +kernel)) (by decide +kernel)
theorem kw827 : Cond.methodLink RL 22 yX9_code ∈ gt := gt_t (List.mem_of_getElem? (i := 1032) (by decide +kernel)) (by decide +kernel)
theorem kw828 : Cond.code yX9_code cX9_code 5 (some .int) ∈ gt := gt_t (List.mem_of_getElem? (i := 1035) (by decide +kernel)) (by decide +kernel)
theorem kw829 : Cond.instanceMethod yX9_code ∈ gt := gt_t (List.mem_of_getElem? (i := 1033) (by decide +kernel)) (by decide +kernel)
theorem kw830 : Cond.selects RX9 yX9_code yX9_code ∈ gt := gt_t (List.mem_of_getElem? (i := 1034) (by decide +kernel)) (by decide +kernel)
theorem kw831 : Cond.methodLink RL 23 yX8_annual ∈ gt := gt_t (List.mem_of_getElem? (i := 304) (by decide +kernel)) (by decide +kernel)
theorem kw832 : Cond.code yX8_annual cX8_annual 5 (some .int) ∈ gt := gt_t (List.mem_of_getElem? (i := 307) (by decide +kernel)) (by decide +kernel)
theorem kw833 : Cond.instanceMethod yX8_annual ∈ gt := gt_t (List.mem_of_getElem? (i := 305) (by decide +kernel)) (by decide +kernel)
theorem kw834 : Cond.selects RX8 yX8_annual yX8_annual ∈ gt := gt_t (List.mem_of_getElem? (i := 306) (by decide +kernel)) (by decide +kernel)
theorem kw835 : Cond.methodLink RL 26 yX9_annual ∈ gt := gt_t (List.mem_of_getElem? (i := 1048) (by decide +kernel)) (by decide +kernel)
theorem kw836 : Cond.code yX9_annual cX9_annual 5 (some .int) ∈ gt := gt_t (List.mem_of_getElem? (i := 1051) (by decide +kernel)) (by decide +kernel)
theorem kw837 : Cond.instanceMethod yX9_annual ∈ gt := gt_t (List.mem_of_getElem? (i := 1049) (by decide +kernel)) (by decide +kernel)
theorem kw838 : Cond.selects RX9 yX9_annual yX9_annual ∈ gt := gt_t (List.mem_of_getElem? (i := 1050) (by decide +kernel)) (by decide +kernel)
theorem kw839 : Cond.methodLink RL 27 yX8_decode ∈ gt := gt_t (List.mem_of_getElem? (i := 311) (by decide +kernel)) (by decide +kernel)
theorem kw840 : Cond.code yX8_decode cX8_decode 3 (some .int) ∈ gt := gt_t (List.mem_of_getElem? (i := 314) (by decide +kernel)) (by decide +kernel)
theorem kw841 : Cond.instanceMethod yX8_decode ∈ gt := gt_t (List.mem_of_getElem? (i := 312) (by decide +kernel)) (by decide +kernel)
theorem kw842 : Cond.selects RX8 yX8_decode yX8_decode ∈ gt := gt_t (List.mem_of_getElem? (i := 313) (by decide +kernel)) (by decide +kernel)
theorem kw843 : Cond.methodLink RL 30 yX9_decode ∈ gt := gt_t (List.mem_of_getElem? (i := 1056) (by decide +kernel)) (by decide +kernel)
theorem kw844 : Cond.code yX9_decode cX9_decode 3 (some .int) ∈ gt := gt_t (List.mem_of_getElem? (i := 1059) (by decide +kernel)) (by decide +kernel)
theorem kw845 : Cond.instanceMethod yX9_decode ∈ gt := gt_t (List.mem_of_getElem? (i := 1057) (by decide +kernel)) (by decide +kernel)
theorem kw846 : Cond.selects RX9 yX9_decode yX9_decode ∈ gt := gt_t (List.mem_of_getElem? (i := 1058) (by decide +kernel)) (by decide +kernel)
theorem kw847 : Cond.methodLink RL 31 yX8_row ∈ gt := gt_t (List.mem_of_getElem? (i := 333) (by decide +kernel)) (by decide +kernel)
theorem kw848 : Cond.methodLink RL 34 yX9_row ∈ gt := gt_t (List.mem_of_getElem? (i := 1085) (by decide +kernel)) (by decide +kernel)
theorem kw849 : Cond.code yX9_row cX9_row 5 (some .int) ∈ gt := gt_t (List.mem_of_getElem? (i := 1088) (by decide +kernel)) (by decide +kernel)
theorem kw850 : Cond.instanceMethod yX9_row ∈ gt := gt_t (List.mem_of_getElem? (i := 1086) (by decide +kernel)) (by decide +kernel)
theorem kw851 : Cond.selects RX9 yX9_row yX9_row ∈ gt := gt_t (List.mem_of_getElem? (i := 1087) (by decide +kernel)) (by decide +kernel)
theorem kw852 : Cond.methodLink RL 35 yX8_rowIs ∈ gt := gt_t (List.mem_of_getElem? (i := 352) (by decide +kernel)) (by decide +kernel)
theorem kw853 : Cond.code yX8_rowIs cX8_rowIs 3 (some .int) ∈ gt := gt_t (List.mem_of_getElem? (i := 355) (by decide +kernel)) (by decide +kernel)
theorem kw854 : Cond.instanceMethod yX8_rowIs ∈ gt := gt_t (List.mem_of_getElem? (i := 353) (by decide +kernel)) (by decide +kernel)
theorem kw855 : Cond.selects RX8 yX8_rowIs yX8_rowIs ∈ gt := gt_t (List.mem_of_getElem? (i := 354) (by decide +kernel)) (by decide +kernel)
theorem kw856 : Cond.methodLink RL 38 yX9_rowIs ∈ gt := gt_t (List.mem_of_getElem? (i := 1094) (by decide +kernel)) (by decide +kernel)
theorem kw857 : Cond.code yX9_rowIs cX9_rowIs 3 (some .int) ∈ gt := gt_t (List.mem_of_getElem? (i := 1097) (by decide +kernel)) (by decide +kernel)
theorem kw858 : Cond.instanceMethod yX9_rowIs ∈ gt := gt_t (List.mem_of_getElem? (i := 1095) (by decide +kernel)) (by decide +kernel)
theorem kw859 : Cond.selects RX9 yX9_rowIs yX9_rowIs ∈ gt := gt_t (List.mem_of_getElem? (i := 1096) (by decide +kernel)) (by decide +kernel)
theorem kw860 : Cond.methodLink RL 39 yX8_asOf ∈ gt := gt_t (List.mem_of_getElem? (i := 365) (by decide +kernel)) (by decide +kernel)
theorem kw861 : Cond.code yX8_asOf cX8_asOf 3 (some .int) ∈ gt := gt_t (List.mem_of_getElem? (i := 368) (by decide +kernel)) (by decide +kernel)
theorem kw862 : Cond.instanceMethod yX8_asOf ∈ gt := gt_t (List.mem_of_getElem? (i := 366) (by decide +kernel)) (by decide +kernel)
theorem kw863 : Cond.selects RX8 yX8_asOf yX8_asOf ∈ gt := gt_t (List.mem_of_getElem? (i := 367) (by decide +kernel)) (by decide +kernel)
theorem kw864 : Cond.methodLink RL 43 yX9_asOf ∈ gt := gt_t (List.mem_of_getElem? (i := 1143) (by decide +kernel)) (by decide +kernel)
theorem kw865 : Cond.code yX9_asOf cX9_asOf 3 (some .int) ∈ gt := gt_t (List.mem_of_getElem? (i := 1146) (by decide +kernel)) (by decide +kernel)
theorem kw866 : Cond.instanceMethod yX9_asOf ∈ gt := gt_t (List.mem_of_getElem? (i := 1144) (by decide +kernel)) (by decide +kernel)
theorem kw867 : Cond.selects RX9 yX9_asOf yX9_asOf ∈ gt := gt_t (List.mem_of_getElem? (i := 1145) (by decide +kernel)) (by decide +kernel)
theorem kw868 : Cond.methodLink RL 44 yX8_column ∈ gt := gt_t (List.mem_of_getElem? (i := 369) (by decide +kernel)) (by decide +kernel)
theorem kw869 : Cond.code yX8_column cX8_column 4 (some .int) ∈ gt := gt_t (List.mem_of_getElem? (i := 372) (by decide +kernel)) (by decide +kernel)
theorem kw870 : Cond.instanceMethod yX8_column ∈ gt := gt_t (List.mem_of_getElem? (i := 370) (by decide +kernel)) (by decide +kernel)
theorem kw871 : Cond.selects RX8 yX8_column yX8_column ∈ gt := gt_t (List.mem_of_getElem? (i := 371) (by decide +kernel)) (by decide +kernel)
theorem kw872 : Cond.methodLink RL 47 yX9_column ∈ gt := gt_t (List.mem_of_getElem? (i := 1147) (by decide +kernel)) (by decide +kernel)
theorem kw873 : Cond.code yX9_column cX9_column 4 (some .int) ∈ gt := gt_t (List.mem_of_getElem? (i := 1150) (by decide +kernel)) (by decide +kernel)
theorem kw874 : Cond.instanceMethod yX9_column ∈ gt := gt_t (List.mem_of_getElem? (i := 1148) (by decide +kernel)) (by decide +kernel)
theorem kw875 : Cond.selects RX9 yX9_column yX9_column ∈ gt := gt_t (List.mem_of_getElem? (i := 1149) (by decide +kernel)) (by decide +kernel)
theorem kw876 : Cond.methodLink RL 48 yX8_said ∈ gt := gt_t (List.mem_of_getElem? (i := 373) (by decide +kernel)) (by decide +kernel)
theorem kw877 : Cond.code yX8_said cX8_said 2 (some .long) ∈ gt := gt_t (List.mem_of_getElem? (i := 376) (by decide +kernel)) (by decide +kernel)
theorem kw878 : Cond.instanceMethod yX8_said ∈ gt := gt_t (List.mem_of_getElem? (i := 374) (by decide +kernel)) (by decide +kernel)
theorem kw879 : Cond.selects RX8 yX8_said yX8_said ∈ gt := gt_t (List.mem_of_getElem? (i := 375) (by decide +kernel)) (by decide +kernel)
theorem kw880 : Cond.methodLink RL 52 yX9_said ∈ gt := gt_t (List.mem_of_getElem? (i := 1151) (by decide +kernel)) (by decide +kernel)
theorem kw881 : Cond.code yX9_said cX9_said 2 (some .long) ∈ gt := gt_t (List.mem_of_getElem? (i := 1154) (by decide +kernel)) (by decide +kernel)
theorem kw882 : Cond.instanceMethod yX9_said ∈ gt := gt_t (List.mem_of_getElem? (i := 1152) (by decide +kernel)) (by decide +kernel)
theorem kw883 : Cond.selects RX9 yX9_said yX9_said ∈ gt := gt_t (List.mem_of_getElem? (i := 1153) (by decide +kernel)) (by decide +kernel)
theorem kw884 : Cond.methodLink RL 53 yX8_weight ∈ gt := gt_t (List.mem_of_getElem? (i := 385) (by decide +kernel)) (by decide +kernel)
theorem kw885 : Cond.code yX8_weight cX8_weight 2 (some .int) ∈ gt := gt_t (List.mem_of_getElem? (i := 388) (by decide +kernel)) (by decide +kernel)
theorem kw886 : Cond.instanceMethod yX8_weight ∈ gt := gt_t (List.mem_of_getElem? (i := 386) (by decide +kernel)) (by decide +kernel)
theorem kw887 : Cond.selects RX8 yX8_weight yX8_weight ∈ gt := gt_t (List.mem_of_getElem? (i := 387) (by decide +kernel)) (by decide +kernel)
theorem kw888 : Cond.methodLink RL 56 yX9_weight ∈ gt := gt_t (List.mem_of_getElem? (i := 1157) (by decide +kernel)) (by decide +kernel)
theorem kw889 : Cond.code yX9_weight cX9_weight 2 (some .int) ∈ gt := gt_t (List.mem_of_getElem? (i := 1160) (by decide +kernel)) (by decide +kernel)
theorem kw890 : Cond.instanceMethod yX9_weight ∈ gt := gt_t (List.mem_of_getElem? (i := 1158) (by decide +kernel)) (by decide +kernel)
theorem kw891 : Cond.selects RX9 yX9_weight yX9_weight ∈ gt := gt_t (List.mem_of_getElem? (i := 1159) (by decide +kernel)) (by decide +kernel)
theorem kw892 : Cond.methodLink RL 57 yX8_bent ∈ gt := gt_t (List.mem_of_getElem? (i := 389) (by decide +kernel)) (by decide +kernel)
theorem kw893 : Cond.code yX8_bent cX8_bent 2 (some .long) ∈ gt := gt_t (List.mem_of_getElem? (i := 392) (by decide +kernel)) (by decide +kernel)
theorem kw894 : Cond.instanceMethod yX8_bent ∈ gt := gt_t (List.mem_of_getElem? (i := 390) (by decide +kernel)) (by decide +kernel)
theorem kw895 : Cond.selects RX8 yX8_bent yX8_bent ∈ gt := gt_t (List.mem_of_getElem? (i := 391) (by decide +kernel)) (by decide +kernel)
theorem kw896 : Cond.methodLink RL 60 yX9_bent ∈ gt := gt_t (List.mem_of_getElem? (i := 1161) (by decide +kernel)) (by decide +kernel)
theorem kw897 : Cond.code yX9_bent cX9_bent 2 (some .long) ∈ gt := gt_t (List.mem_of_getElem? (i := 1164) (by decide +kernel)) (by decide +kernel)
theorem kw898 : Cond.instanceMethod yX9_bent ∈ gt := gt_t (List.mem_of_getElem? (i := 1162) (by decide +kernel)) (by decide +kernel)
theorem kw899 : Cond.selects RX9 yX9_bent yX9_bent ∈ gt := gt_t (List.mem_of_getElem? (i := 1163) (by decide +kernel)) (by decide +kernel)
theorem kw900 : Cond.methodLink RL 61 yX8_shape ∈ gt := gt_t (List.mem_of_getElem? (i := 450) (by decide +kernel)) (by decide +kernel)
theorem kw901 : Cond.code yX8_shape cX8_shape 2 (some .long) ∈ gt := gt_t (List.mem_of_getElem? (i := 453) (by decide +kernel)) (by decide +kernel)
theorem kw902 : Cond.instanceMethod yX8_shape ∈ gt := gt_t (List.mem_of_getElem? (i := 451) (by decide +kernel)) (by decide +kernel)
theorem kw903 : Cond.selects RX8 yX8_shape yX8_shape ∈ gt := gt_t (List.mem_of_getElem? (i := 452) (by decide +kernel)) (by decide +kernel)
theorem kw904 : Cond.methodLink RL 64 yX9_shape ∈ gt := gt_t (List.mem_of_getElem? (i := 1165) (by decide +kernel)) (by decide +kernel)
theorem kw905 : Cond.code yX9_shape cX9_shape 6 (some .long) ∈ gt := gt_t (List.mem_of_getElem? (i := 1168) (by decide +kernel)) (by decide +kernel)
theorem kw906 : Cond.instanceMethod yX9_shape ∈ gt := gt_t (List.mem_of_getElem? (i := 1166) (by decide +kernel)) (by decide +kernel)
theorem kw907 : Cond.selects RX9 yX9_shape yX9_shape ∈ gt := gt_t (List.mem_of_getElem? (i := 1167) (by decide +kernel)) (by decide +kernel)
theorem kw908 : Cond.methodLink RL 65 yX8_fix ∈ gt := gt_t (List.mem_of_getElem? (i := 470) (by decide +kernel)) (by decide +kernel)
theorem kw909 : Cond.code yX8_fix cX8_fix 7 (some .int) ∈ gt := gt_t (List.mem_of_getElem? (i := 473) (by decide +kernel)) (by decide +kernel)
theorem kw910 : Cond.instanceMethod yX8_fix ∈ gt := gt_t (List.mem_of_getElem? (i := 471) (by decide +kernel)) (by decide +kernel)
theorem kw911 : Cond.selects RX8 yX8_fix yX8_fix ∈ gt := gt_t (List.mem_of_getElem? (i := 472) (by decide +kernel)) (by decide +kernel)
theorem kw912 : Cond.methodLink RL 69 yX9_fix ∈ gt := gt_t (List.mem_of_getElem? (i := 1169) (by decide +kernel)) (by decide +kernel)
theorem kw913 : Cond.code yX9_fix cX9_fix 7 (some .int) ∈ gt := gt_t (List.mem_of_getElem? (i := 1172) (by decide +kernel)) (by decide +kernel)
theorem kw914 : Cond.instanceMethod yX9_fix ∈ gt := gt_t (List.mem_of_getElem? (i := 1170) (by decide +kernel)) (by decide +kernel)
theorem kw915 : Cond.selects RX9 yX9_fix yX9_fix ∈ gt := gt_t (List.mem_of_getElem? (i := 1171) (by decide +kernel)) (by decide +kernel)
theorem kw916 : Cond.methodLink RL 70 yX8_rule ∈ gt := gt_t (List.mem_of_getElem? (i := 475) (by decide +kernel)) (by decide +kernel)
theorem kw917 : Cond.code yX8_rule cX8_rule 3 (some .int) ∈ gt := gt_t (List.mem_of_getElem? (i := 478) (by decide +kernel)) (by decide +kernel)
theorem kw918 : Cond.instanceMethod yX8_rule ∈ gt := gt_t (List.mem_of_getElem? (i := 476) (by decide +kernel)) (by decide +kernel)
theorem kw919 : Cond.selects RX8 yX8_rule yX8_rule ∈ gt := gt_t (List.mem_of_getElem? (i := 477) (by decide +kernel)) (by decide +kernel)
theorem kw920 : Cond.methodLink RL 73 yX9_rule ∈ gt := gt_t (List.mem_of_getElem? (i := 1173) (by decide +kernel)) (by decide +kernel)
theorem kw921 : Cond.code yX9_rule cX9_rule 3 (some .int) ∈ gt := gt_t (List.mem_of_getElem? (i := 1176) (by decide +kernel)) (by decide +kernel)
theorem kw922 : Cond.instanceMethod yX9_rule ∈ gt := gt_t (List.mem_of_getElem? (i := 1174) (by decide +kernel)) (by decide +kernel)
theorem kw923 : Cond.selects RX9 yX9_rule yX9_rule ∈ gt := gt_t (List.mem_of_getElem? (i := 1175) (by decide +kernel)) (by decide +kernel)
theorem kw924 : Cond.methodLink RL 74 yX8_gap ∈ gt := gt_t (List.mem_of_getElem? (i := 479) (by decide +kernel)) (by decide +kernel)
theorem kw925 : Cond.code yX8_gap cX8_gap 4 (some .long) ∈ gt := gt_t (List.mem_of_getElem? (i := 482) (by decide +kernel)) (by decide +kernel)
theorem kw926 : Cond.instanceMethod yX8_gap ∈ gt := gt_t (List.mem_of_getElem? (i := 480) (by decide +kernel)) (by decide +kernel)
theorem kw927 : Cond.selects RX8 yX8_gap yX8_gap ∈ gt := gt_t (List.mem_of_getElem? (i := 481) (by decide +kernel)) (by decide +kernel)
theorem kw928 : Cond.methodLink RL 78 yX9_gap ∈ gt := gt_t (List.mem_of_getElem? (i := 1177) (by decide +kernel)) (by decide +kernel)
theorem kw929 : Cond.code yX9_gap cX9_gap 4 (some .long) ∈ gt := gt_t (List.mem_of_getElem? (i := 1180) (by decide +kernel)) (by decide +kernel)
theorem kw930 : Cond.instanceMethod yX9_gap ∈ gt := gt_t (List.mem_of_getElem? (i := 1178) (by decide +kernel)) (by decide +kernel)
theorem kw931 : Cond.selects RX9 yX9_gap yX9_gap ∈ gt := gt_t (List.mem_of_getElem? (i := 1179) (by decide +kernel)) (by decide +kernel)
theorem kw932 : Cond.methodLink RL 79 yX8_closed ∈ gt := gt_t (List.mem_of_getElem? (i := 487) (by decide +kernel)) (by decide +kernel)
theorem kw933 : Cond.code yX8_closed cX8_closed 2 (some .long) ∈ gt := gt_t (List.mem_of_getElem? (i := 490) (by decide +kernel)) (by decide +kernel)
theorem kw934 : Cond.instanceMethod yX8_closed ∈ gt := gt_t (List.mem_of_getElem? (i := 488) (by decide +kernel)) (by decide +kernel)
theorem kw935 : Cond.selects RX8 yX8_closed yX8_closed ∈ gt := gt_t (List.mem_of_getElem? (i := 489) (by decide +kernel)) (by decide +kernel)
theorem kw936 : Cond.methodLink RL 82 yX9_closed ∈ gt := gt_t (List.mem_of_getElem? (i := 1184) (by decide +kernel)) (by decide +kernel)
theorem kw937 : Cond.code yX9_closed cX9_closed 2 (some .long) ∈ gt := gt_t (List.mem_of_getElem? (i := 1187) (by decide +kernel)) (by decide +kernel)
theorem kw938 : Cond.instanceMethod yX9_closed ∈ gt := gt_t (List.mem_of_getElem? (i := 1185) (by decide +kernel)) (by decide +kernel)
theorem kw939 : Cond.selects RX9 yX9_closed yX9_closed ∈ gt := gt_t (List.mem_of_getElem? (i := 1186) (by decide +kernel)) (by decide +kernel)
theorem kw940 : Cond.methodLink RL 83 yX8_moved ∈ gt := gt_t (List.mem_of_getElem? (i := 491) (by decide +kernel)) (by decide +kernel)
theorem kw941 : Cond.code yX8_moved cX8_moved 4 (some .long) ∈ gt := gt_t (List.mem_of_getElem? (i := 494) (by decide +kernel)) (by decide +kernel)
theorem kw942 : Cond.instanceMethod yX8_moved ∈ gt := gt_t (List.mem_of_getElem? (i := 492) (by decide +kernel)) (by decide +kernel)
theorem kw943 : Cond.selects RX8 yX8_moved yX8_moved ∈ gt := gt_t (List.mem_of_getElem? (i := 493) (by decide +kernel)) (by decide +kernel)
theorem kw944 : Cond.methodLink RL 86 yX9_moved ∈ gt := gt_t (List.mem_of_getElem? (i := 1188) (by decide +kernel)) (by decide +kernel)
theorem kw945 : Cond.code yX9_moved cX9_moved 5 (some .long) ∈ gt := gt_t (List.mem_of_getElem? (i := 1191) (by decide +kernel)) (by decide +kernel)
theorem kw946 : Cond.instanceMethod yX9_moved ∈ gt := gt_t (List.mem_of_getElem? (i := 1189) (by decide +kernel)) (by decide +kernel)
theorem kw947 : Cond.selects RX9 yX9_moved yX9_moved ∈ gt := gt_t (List.mem_of_getElem? (i := 1190) (by decide +kernel)) (by decide +kernel)
theorem kw948 : Cond.methodLink RL 87 yX8_total ∈ gt := gt_t (List.mem_of_getElem? (i := 503) (by decide +kernel)) (by decide +kernel)
theorem kw949 : Cond.code yX8_total cX8_total 5 (some .long) ∈ gt := gt_t (List.mem_of_getElem? (i := 506) (by decide +kernel)) (by decide +kernel)
theorem kw950 : Cond.instanceMethod yX8_total ∈ gt := gt_t (List.mem_of_getElem? (i := 504) (by decide +kernel)) (by decide +kernel)
theorem kw951 : Cond.selects RX8 yX8_total yX8_total ∈ gt := gt_t (List.mem_of_getElem? (i := 505) (by decide +kernel)) (by decide +kernel)
theorem kw952 : Cond.methodLink RL 91 yX9_total ∈ gt := gt_t (List.mem_of_getElem? (i := 1192) (by decide +kernel)) (by decide +kernel)
theorem kw953 : Cond.code yX9_total cX9_total 5 (some .long) ∈ gt := gt_t (List.mem_of_getElem? (i := 1195) (by decide +kernel)) (by decide +kernel)
theorem kw954 : Cond.instanceMethod yX9_total ∈ gt := gt_t (List.mem_of_getElem? (i := 1193) (by decide +kernel)) (by decide +kernel)
theorem kw955 : Cond.selects RX9 yX9_total yX9_total ∈ gt := gt_t (List.mem_of_getElem? (i := 1194) (by decide +kernel)) (by decide +kernel)
theorem kw956 : Cond.methodLink RL 92 yX8_open ∈ gt := gt_t (List.mem_of_getElem? (i := 516) (by decide +kernel)) (by decide +kernel)
theorem kw957 : Cond.code yX8_open cX8_open 1 (some .int) ∈ gt := gt_t (List.mem_of_getElem? (i := 519) (by decide +kernel)) (by decide +kernel)
theorem kw958 : Cond.instanceMethod yX8_open ∈ gt := gt_t (List.mem_of_getElem? (i := 517) (by decide +kernel)) (by decide +kernel)
theorem kw959 : Cond.selects RX8 yX8_open yX8_open ∈ gt := gt_t (List.mem_of_getElem? (i := 518) (by decide +kernel)) (by decide +kernel)
theorem kw960 : Cond.methodLink RL 96 yX9_open ∈ gt := gt_t (List.mem_of_getElem? (i := 1200) (by decide +kernel)) (by decide +kernel)
theorem kw961 : Cond.code yX9_open cX9_open 1 (some .int) ∈ gt := gt_t (List.mem_of_getElem? (i := 1203) (by decide +kernel)) (by decide +kernel)
theorem kw962 : Cond.instanceMethod yX9_open ∈ gt := gt_t (List.mem_of_getElem? (i := 1201) (by decide +kernel)) (by decide +kernel)
theorem kw963 : Cond.selects RX9 yX9_open yX9_open ∈ gt := gt_t (List.mem_of_getElem? (i := 1202) (by decide +kernel)) (by decide +kernel)
theorem kw964 : Cond.methodLink RL 97 yX8_broken ∈ gt := gt_t (List.mem_of_getElem? (i := 525) (by decide +kernel)) (by decide +kernel)
theorem kw965 : Cond.code yX8_broken cX8_broken 1 (some .int) ∈ gt := gt_t (List.mem_of_getElem? (i := 528) (by decide +kernel)) (by decide +kernel)
theorem kw966 : Cond.instanceMethod yX8_broken ∈ gt := gt_t (List.mem_of_getElem? (i := 526) (by decide +kernel)) (by decide +kernel)
theorem kw967 : Cond.selects RX8 yX8_broken yX8_broken ∈ gt := gt_t (List.mem_of_getElem? (i := 527) (by decide +kernel)) (by decide +kernel)
theorem kw968 : Cond.methodLink RL 100 yX9_broken ∈ gt := gt_t (List.mem_of_getElem? (i := 1208) (by decide +kernel)) (by decide +kernel)
theorem kw969 : Cond.code yX9_broken cX9_broken 2 (some .int) ∈ gt := gt_t (List.mem_of_getElem? (i := 1211) (by decide +kernel)) (by decide +kernel)
theorem kw970 : Cond.instanceMethod yX9_broken ∈ gt := gt_t (List.mem_of_getElem? (i := 1209) (by decide +kernel)) (by decide +kernel)
theorem kw971 : Cond.selects RX9 yX9_broken yX9_broken ∈ gt := gt_t (List.mem_of_getElem? (i := 1210) (by decide +kernel)) (by decide +kernel)
theorem kw972 : Cond.methodLink RL 101 yX8_breaks ∈ gt := gt_t (List.mem_of_getElem? (i := 537) (by decide +kernel)) (by decide +kernel)
theorem kw973 : Cond.code yX8_breaks cX8_breaks 2 (some .int) ∈ gt := gt_t (List.mem_of_getElem? (i := 540) (by decide +kernel)) (by decide +kernel)
theorem kw974 : Cond.instanceMethod yX8_breaks ∈ gt := gt_t (List.mem_of_getElem? (i := 538) (by decide +kernel)) (by decide +kernel)
theorem kw975 : Cond.selects RX8 yX8_breaks yX8_breaks ∈ gt := gt_t (List.mem_of_getElem? (i := 539) (by decide +kernel)) (by decide +kernel)
theorem kw976 : Cond.methodLink RL 104 yX9_breaks ∈ gt := gt_t (List.mem_of_getElem? (i := 1216) (by decide +kernel)) (by decide +kernel)
theorem kw977 : Cond.code yX9_breaks cX9_breaks 2 (some .int) ∈ gt := gt_t (List.mem_of_getElem? (i := 1219) (by decide +kernel)) (by decide +kernel)
theorem kw978 : Cond.instanceMethod yX9_breaks ∈ gt := gt_t (List.mem_of_getElem? (i := 1217) (by decide +kernel)) (by decide +kernel)
theorem kw979 : Cond.selects RX9 yX9_breaks yX9_breaks ∈ gt := gt_t (List.mem_of_getElem? (i := 1218) (by decide +kernel)) (by decide +kernel)
theorem kw980 : Cond.methodLink RL 105 yX8_price ∈ gt := gt_t (List.mem_of_getElem? (i := 545) (by decide +kernel)) (by decide +kernel)
theorem kw981 : Cond.code yX8_price cX8_price 6 (some .int) ∈ gt := gt_t (List.mem_of_getElem? (i := 548) (by decide +kernel)) (by decide +kernel)
theorem kw982 : Cond.instanceMethod yX8_price ∈ gt := gt_t (List.mem_of_getElem? (i := 546) (by decide +kernel)) (by decide +kernel)
theorem kw983 : Cond.selects RX8 yX8_price yX8_price ∈ gt := gt_t (List.mem_of_getElem? (i := 547) (by decide +kernel)) (by decide +kernel)
theorem kw984 : Cond.methodLink RL 109 yX9_price ∈ gt := gt_t (List.mem_of_getElem? (i := 1220) (by decide +kernel)) (by decide +kernel)
theorem kw985 : Cond.code yX9_price cX9_price 5 (some .int) ∈ gt := gt_t (List.mem_of_getElem? (i := 1223) (by decide +kernel)) (by decide +kernel)
theorem kw986 : Cond.instanceMethod yX9_price ∈ gt := gt_t (List.mem_of_getElem? (i := 1221) (by decide +kernel)) (by decide +kernel)
theorem kw987 : Cond.selects RX9 yX9_price yX9_price ∈ gt := gt_t (List.mem_of_getElem? (i := 1222) (by decide +kernel)) (by decide +kernel)
theorem kw988 : Cond.methodLink RL 110 yX8_volume ∈ gt := gt_t (List.mem_of_getElem? (i := 549) (by decide +kernel)) (by decide +kernel)
theorem kw989 : Cond.code yX8_volume cX8_volume 4 (some .long) ∈ gt := gt_t (List.mem_of_getElem? (i := 552) (by decide +kernel)) (by decide +kernel)
theorem kw990 : Cond.instanceMethod yX8_volume ∈ gt := gt_t (List.mem_of_getElem? (i := 550) (by decide +kernel)) (by decide +kernel)
theorem kw991 : Cond.selects RX8 yX8_volume yX8_volume ∈ gt := gt_t (List.mem_of_getElem? (i := 551) (by decide +kernel)) (by decide +kernel)
theorem kw992 : Cond.methodLink RL 113 yX9_volume ∈ gt := gt_t (List.mem_of_getElem? (i := 1226) (by decide +kernel)) (by decide +kernel)
theorem kw993 : Cond.code yX9_volume cX9_volume 4 (some .long) ∈ gt := gt_t (List.mem_of_getElem? (i := 1229) (by decide +kernel)) (by decide +kernel)
theorem kw994 : Cond.instanceMethod yX9_volume ∈ gt := gt_t (List.mem_of_getElem? (i := 1227) (by decide +kernel)) (by decide +kernel)
theorem kw995 : Cond.selects RX9 yX9_volume yX9_volume ∈ gt := gt_t (List.mem_of_getElem? (i := 1228) (by decide +kernel)) (by decide +kernel)
theorem kw996 : Cond.methodLink RL 114 yX8_atPrices ∈ gt := gt_t (List.mem_of_getElem? (i := 560) (by decide +kernel)) (by decide +kernel)
theorem kw997 : Cond.code yX8_atPrices cX8_atPrices 5 (some .long) ∈ gt := gt_t (List.mem_of_getElem? (i := 563) (by decide +kernel)) (by decide +kernel)
theorem kw998 : Cond.instanceMethod yX8_atPrices ∈ gt := gt_t (List.mem_of_getElem? (i := 561) (by decide +kernel)) (by decide +kernel)
theorem kw999 : Cond.selects RX8 yX8_atPrices yX8_atPrices ∈ gt := gt_t (List.mem_of_getElem? (i := 562) (by decide +kernel)) (by decide +kernel)
theorem kw1000 : Cond.methodLink RL 117 yX9_atPrices ∈ gt := gt_t (List.mem_of_getElem? (i := 1235) (by decide +kernel)) (by decide +kernel)
theorem kw1001 : Cond.code yX9_atPrices cX9_atPrices 5 (some .long) ∈ gt := gt_t (List.mem_of_getElem? (i := 1238) (by decide +kernel)) (by decide +kernel)
theorem kw1002 : Cond.instanceMethod yX9_atPrices ∈ gt := gt_t (List.mem_of_getElem? (i := 1236) (by decide +kernel)) (by decide +kernel)
theorem kw1003 : Cond.selects RX9 yX9_atPrices yX9_atPrices ∈ gt := gt_t (List.mem_of_getElem? (i := 1237) (by decide +kernel)) (by decide +kernel)
theorem kw1004 : Cond.methodLink RL 118 yX8_growth ∈ gt := gt_t (List.mem_of_getElem? (i := 576) (by decide +kernel)) (by decide +kernel)
theorem kw1005 : Cond.code yX8_growth cX8_growth 4 (some .long) ∈ gt := gt_t (List.mem_of_getElem? (i := 579) (by decide +kernel)) (by decide +kernel)
theorem kw1006 : Cond.instanceMethod yX8_growth ∈ gt := gt_t (List.mem_of_getElem? (i := 577) (by decide +kernel)) (by decide +kernel)
theorem kw1007 : Cond.selects RX8 yX8_growth yX8_growth ∈ gt := gt_t (List.mem_of_getElem? (i := 578) (by decide +kernel)) (by decide +kernel)
theorem kw1008 : Cond.methodLink RL 121 yX9_growth ∈ gt := gt_t (List.mem_of_getElem? (i := 1243) (by decide +kernel)) (by decide +kernel)
theorem kw1009 : Cond.code yX9_growth cX9_growth 4 (some .long) ∈ gt := gt_t (List.mem_of_getElem? (i := 1246) (by decide +kernel)) (by decide +kernel)
theorem kw1010 : Cond.instanceMethod yX9_growth ∈ gt := gt_t (List.mem_of_getElem? (i := 1244) (by decide +kernel)) (by decide +kernel)
theorem kw1011 : Cond.selects RX9 yX9_growth yX9_growth ∈ gt := gt_t (List.mem_of_getElem? (i := 1245) (by decide +kernel)) (by decide +kernel)
theorem kw1012 : Cond.methodLink RL 122 yX8_chain ∈ gt := gt_t (List.mem_of_getElem? (i := 596) (by decide +kernel)) (by decide +kernel)
theorem kw1013 : Cond.code yX8_chain cX8_chain 4 (some .long) ∈ gt := gt_t (List.mem_of_getElem? (i := 599) (by decide +kernel)) (by decide +kernel)
theorem kw1014 : Cond.instanceMethod yX8_chain ∈ gt := gt_t (List.mem_of_getElem? (i := 597) (by decide +kernel)) (by decide +kernel)
theorem kw1015 : Cond.selects RX8 yX8_chain yX8_chain ∈ gt := gt_t (List.mem_of_getElem? (i := 598) (by decide +kernel)) (by decide +kernel)
theorem kw1016 : Cond.methodLink RL 125 yX9_chain ∈ gt := gt_t (List.mem_of_getElem? (i := 1259) (by decide +kernel)) (by decide +kernel)
theorem kw1017 : Cond.code yX9_chain cX9_chain 4 (some .long) ∈ gt := gt_t (List.mem_of_getElem? (i := 1262) (by decide +kernel)) (by decide +kernel)
theorem kw1018 : Cond.instanceMethod yX9_chain ∈ gt := gt_t (List.mem_of_getElem? (i := 1260) (by decide +kernel)) (by decide +kernel)
theorem kw1019 : Cond.selects RX9 yX9_chain yX9_chain ∈ gt := gt_t (List.mem_of_getElem? (i := 1261) (by decide +kernel)) (by decide +kernel)
theorem kw1020 : Cond.methodLink RL 126 yX8_part ∈ gt := gt_t (List.mem_of_getElem? (i := 618) (by decide +kernel)) (by decide +kernel)
theorem kw1021 : Cond.code yX8_part cX8_part 4 (some .long) ∈ gt := gt_t (List.mem_of_getElem? (i := 621) (by decide +kernel)) (by decide +kernel)
theorem kw1022 : Cond.instanceMethod yX8_part ∈ gt := gt_t (List.mem_of_getElem? (i := 619) (by decide +kernel)) (by decide +kernel)
theorem kw1023 : Cond.selects RX8 yX8_part yX8_part ∈ gt := gt_t (List.mem_of_getElem? (i := 620) (by decide +kernel)) (by decide +kernel)
theorem kw1024 : Cond.methodLink RL 129 yX9_part ∈ gt := gt_t (List.mem_of_getElem? (i := 1272) (by decide +kernel)) (by decide +kernel)
theorem kw1025 : Cond.code yX9_part cX9_part 12 (some .long) ∈ gt := gt_t (List.mem_of_getElem? (i := 1275) (by decide +kernel)) (by decide +kernel)
theorem kw1026 : Cond.instanceMethod yX9_part ∈ gt := gt_t (List.mem_of_getElem? (i := 1273) (by decide +kernel)) (by decide +kernel)
theorem kw1027 : Cond.selects RX9 yX9_part yX9_part ∈ gt := gt_t (List.mem_of_getElem? (i := 1274) (by decide +kernel)) (by decide +kernel)
theorem kw1028 : Cond.methodLink RL 130 yX8_apart ∈ gt := gt_t (List.mem_of_getElem? (i := 632) (by decide +kernel)) (by decide +kernel)
theorem kw1029 : Cond.code yX8_apart cX8_apart 3 (some .long) ∈ gt := gt_t (List.mem_of_getElem? (i := 635) (by decide +kernel)) (by decide +kernel)
theorem kw1030 : Cond.instanceMethod yX8_apart ∈ gt := gt_t (List.mem_of_getElem? (i := 633) (by decide +kernel)) (by decide +kernel)
theorem kw1031 : Cond.selects RX8 yX8_apart yX8_apart ∈ gt := gt_t (List.mem_of_getElem? (i := 634) (by decide +kernel)) (by decide +kernel)
theorem kw1032 : Cond.methodLink RL 134 yX9_apart ∈ gt := gt_t (List.mem_of_getElem? (i := 1276) (by decide +kernel)) (by decide +kernel)
theorem kw1033 : Cond.code yX9_apart cX9_apart 6 (some .long) ∈ gt := gt_t (List.mem_of_getElem? (i := 1279) (by decide +kernel)) (by decide +kernel)
theorem kw1034 : Cond.instanceMethod yX9_apart ∈ gt := gt_t (List.mem_of_getElem? (i := 1277) (by decide +kernel)) (by decide +kernel)
theorem kw1035 : Cond.selects RX9 yX9_apart yX9_apart ∈ gt := gt_t (List.mem_of_getElem? (i := 1278) (by decide +kernel)) (by decide +kernel)
theorem kw1036 : Cond.methodLink RL 135 yX8_trade ∈ gt := gt_t (List.mem_of_getElem? (i := 641) (by decide +kernel)) (by decide +kernel)
theorem kw1037 : Cond.code yX8_trade cX8_trade 8 (some .int) ∈ gt := gt_t (List.mem_of_getElem? (i := 644) (by decide +kernel)) (by decide +kernel)
theorem kw1038 : Cond.instanceMethod yX8_trade ∈ gt := gt_t (List.mem_of_getElem? (i := 642) (by decide +kernel)) (by decide +kernel)
theorem kw1039 : Cond.selects RX8 yX8_trade yX8_trade ∈ gt := gt_t (List.mem_of_getElem? (i := 643) (by decide +kernel)) (by decide +kernel)
theorem kw1040 : Cond.methodLink RL 139 yX9_trade ∈ gt := gt_t (List.mem_of_getElem? (i := 1280) (by decide +kernel)) (by decide +kernel)
theorem kw1041 : Cond.code yX9_trade cX9_trade 8 (some .int) ∈ gt := gt_t (List.mem_of_getElem? (i := 1283) (by decide +kernel)) (by decide +kernel)
theorem kw1042 : Cond.instanceMethod yX9_trade ∈ gt := gt_t (List.mem_of_getElem? (i := 1281) (by decide +kernel)) (by decide +kernel)
theorem kw1043 : Cond.selects RX9 yX9_trade yX9_trade ∈ gt := gt_t (List.mem_of_getElem? (i := 1282) (by decide +kernel)) (by decide +kernel)
theorem kw1044 : Cond.methodLink RL 140 yX8_precise ∈ gt := gt_t (List.mem_of_getElem? (i := 649) (by decide +kernel)) (by decide +kernel)
theorem kw1045 : Cond.code yX8_precise cX8_precise 4 (some .int) ∈ gt := gt_t (List.mem_of_getElem? (i := 652) (by decide +kernel)) (by decide +kernel)
theorem kw1046 : Cond.instanceMethod yX8_precise ∈ gt := gt_t (List.mem_of_getElem? (i := 650) (by decide +kernel)) (by decide +kernel)
theorem kw1047 : Cond.selects RX8 yX8_precise yX8_precise ∈ gt := gt_t (List.mem_of_getElem? (i := 651) (by decide +kernel)) (by decide +kernel)
theorem kw1048 : Cond.methodLink RL 143 yX9_precise ∈ gt := gt_t (List.mem_of_getElem? (i := 1284) (by decide +kernel)) (by decide +kernel)
theorem kw1049 : Cond.code yX9_precise cX9_precise 4 (some .int) ∈ gt := gt_t (List.mem_of_getElem? (i := 1287) (by decide +kernel)) (by decide +kernel)
theorem kw1050 : Cond.instanceMethod yX9_precise ∈ gt := gt_t (List.mem_of_getElem? (i := 1285) (by decide +kernel)) (by decide +kernel)
theorem kw1051 : Cond.selects RX9 yX9_precise yX9_precise ∈ gt := gt_t (List.mem_of_getElem? (i := 1286) (by decide +kernel)) (by decide +kernel)
theorem kw1052 : Cond.methodLink RL 144 yX8_hidden ∈ gt := gt_t (List.mem_of_getElem? (i := 653) (by decide +kernel)) (by decide +kernel)
theorem kw1053 : Cond.code yX8_hidden cX8_hidden 4 (some .int) ∈ gt := gt_t (List.mem_of_getElem? (i := 656) (by decide +kernel)) (by decide +kernel)
theorem kw1054 : Cond.instanceMethod yX8_hidden ∈ gt := gt_t (List.mem_of_getElem? (i := 654) (by decide +kernel)) (by decide +kernel)
theorem kw1055 : Cond.selects RX8 yX8_hidden yX8_hidden ∈ gt := gt_t (List.mem_of_getElem? (i := 655) (by decide +kernel)) (by decide +kernel)
theorem kw1056 : Cond.methodLink RL 147 yX9_hidden ∈ gt := gt_t (List.mem_of_getElem? (i := 1288) (by decide +kernel)) (by decide +kernel)
theorem kw1057 : Cond.code yX9_hidden cX9_hidden 6 (some .int) ∈ gt := gt_t (List.mem_of_getElem? (i := 1291) (by decide +kernel)) (by decide +kernel)
theorem kw1058 : Cond.instanceMethod yX9_hidden ∈ gt := gt_t (List.mem_of_getElem? (i := 1289) (by decide +kernel)) (by decide +kernel)
theorem kw1059 : Cond.selects RX9 yX9_hidden yX9_hidden ∈ gt := gt_t (List.mem_of_getElem? (i := 1290) (by decide +kernel)) (by decide +kernel)
theorem kw1060 : Cond.methodLink RL 148 yX8_agreed ∈ gt := gt_t (List.mem_of_getElem? (i := 664) (by decide +kernel)) (by decide +kernel)
theorem kw1061 : Cond.code yX8_agreed cX8_agreed 4 (some .int) ∈ gt := gt_t (List.mem_of_getElem? (i := 667) (by decide +kernel)) (by decide +kernel)
theorem kw1062 : Cond.instanceMethod yX8_agreed ∈ gt := gt_t (List.mem_of_getElem? (i := 665) (by decide +kernel)) (by decide +kernel)
theorem kw1063 : Cond.selects RX8 yX8_agreed yX8_agreed ∈ gt := gt_t (List.mem_of_getElem? (i := 666) (by decide +kernel)) (by decide +kernel)
theorem kw1064 : Cond.methodLink RL 151 yX9_agreed ∈ gt := gt_t (List.mem_of_getElem? (i := 1301) (by decide +kernel)) (by decide +kernel)
theorem kw1065 : Cond.code yX9_agreed cX9_agreed 7 (some .int) ∈ gt := gt_t (List.mem_of_getElem? (i := 1304) (by decide +kernel)) (by decide +kernel)
theorem kw1066 : Cond.instanceMethod yX9_agreed ∈ gt := gt_t (List.mem_of_getElem? (i := 1302) (by decide +kernel)) (by decide +kernel)
theorem kw1067 : Cond.selects RX9 yX9_agreed yX9_agreed ∈ gt := gt_t (List.mem_of_getElem? (i := 1303) (by decide +kernel)) (by decide +kernel)
theorem kw1068 : Cond.methodLink RL 152 yX8_flow ∈ gt := gt_t (List.mem_of_getElem? (i := 673) (by decide +kernel)) (by decide +kernel)
theorem kw1069 : Cond.code yX8_flow cX8_flow 5 (some .long) ∈ gt := gt_t (List.mem_of_getElem? (i := 676) (by decide +kernel)) (by decide +kernel)
theorem kw1070 : Cond.instanceMethod yX8_flow ∈ gt := gt_t (List.mem_of_getElem? (i := 674) (by decide +kernel)) (by decide +kernel)
theorem kw1071 : Cond.selects RX8 yX8_flow yX8_flow ∈ gt := gt_t (List.mem_of_getElem? (i := 675) (by decide +kernel)) (by decide +kernel)
theorem kw1072 : Cond.methodLink RL 155 yX9_flow ∈ gt := gt_t (List.mem_of_getElem? (i := 1305) (by decide +kernel)) (by decide +kernel)
theorem kw1073 : Cond.code yX9_flow cX9_flow 6 (some .long) ∈ gt := gt_t (List.mem_of_getElem? (i := 1308) (by decide +kernel)) (by decide +kernel)
theorem kw1074 : Cond.instanceMethod yX9_flow ∈ gt := gt_t (List.mem_of_getElem? (i := 1306) (by decide +kernel)) (by decide +kernel)
theorem kw1075 : Cond.selects RX9 yX9_flow yX9_flow ∈ gt := gt_t (List.mem_of_getElem? (i := 1307) (by decide +kernel)) (by decide +kernel)
theorem kw1076 : Cond.methodLink RL 156 yX8_net ∈ gt := gt_t (List.mem_of_getElem? (i := 685) (by decide +kernel)) (by decide +kernel)
theorem kw1077 : Cond.code yX8_net cX8_net 3 (some .long) ∈ gt := gt_t (List.mem_of_getElem? (i := 688) (by decide +kernel)) (by decide +kernel)
theorem kw1078 : Cond.instanceMethod yX8_net ∈ gt := gt_t (List.mem_of_getElem? (i := 686) (by decide +kernel)) (by decide +kernel)
theorem kw1079 : Cond.selects RX8 yX8_net yX8_net ∈ gt := gt_t (List.mem_of_getElem? (i := 687) (by decide +kernel)) (by decide +kernel)
theorem kw1080 : Cond.methodLink RL 159 yX9_net ∈ gt := gt_t (List.mem_of_getElem? (i := 1316) (by decide +kernel)) (by decide +kernel)
theorem kw1081 : Cond.code yX9_net cX9_net 3 (some .long) ∈ gt := gt_t (List.mem_of_getElem? (i := 1319) (by decide +kernel)) (by decide +kernel)
theorem kw1082 : Cond.instanceMethod yX9_net ∈ gt := gt_t (List.mem_of_getElem? (i := 1317) (by decide +kernel)) (by decide +kernel)
theorem kw1083 : Cond.selects RX9 yX9_net yX9_net ∈ gt := gt_t (List.mem_of_getElem? (i := 1318) (by decide +kernel)) (by decide +kernel)
theorem kw1084 : Cond.methodLink RL 160 yX8_stock ∈ gt := gt_t (List.mem_of_getElem? (i := 696) (by decide +kernel)) (by decide +kernel)
theorem kw1085 : Cond.code yX8_stock cX8_stock 5 (some .int) ∈ gt := gt_t (List.mem_of_getElem? (i := 699) (by decide +kernel)) (by decide +kernel)
theorem kw1086 : Cond.instanceMethod yX8_stock ∈ gt := gt_t (List.mem_of_getElem? (i := 697) (by decide +kernel)) (by decide +kernel)
theorem kw1087 : Cond.selects RX8 yX8_stock yX8_stock ∈ gt := gt_t (List.mem_of_getElem? (i := 698) (by decide +kernel)) (by decide +kernel)
theorem kw1088 : Cond.methodLink RL 163 yX9_stock ∈ gt := gt_t (List.mem_of_getElem? (i := 1324) (by decide +kernel)) (by decide +kernel)
theorem kw1089 : Cond.code yX9_stock cX9_stock 4 (some .int) ∈ gt := gt_t (List.mem_of_getElem? (i := 1327) (by decide +kernel)) (by decide +kernel)
theorem kw1090 : Cond.instanceMethod yX9_stock ∈ gt := gt_t (List.mem_of_getElem? (i := 1325) (by decide +kernel)) (by decide +kernel)
theorem kw1091 : Cond.selects RX9 yX9_stock yX9_stock ∈ gt := gt_t (List.mem_of_getElem? (i := 1326) (by decide +kernel)) (by decide +kernel)
theorem kw1092 : Cond.methodLink RL 164 yX8_unstock ∈ gt := gt_t (List.mem_of_getElem? (i := 701) (by decide +kernel)) (by decide +kernel)
theorem kw1093 : Cond.code yX8_unstock cX8_unstock 5 (some .int) ∈ gt := gt_t (List.mem_of_getElem? (i := 704) (by decide +kernel)) (by decide +kernel)
theorem kw1094 : Cond.instanceMethod yX8_unstock ∈ gt := gt_t (List.mem_of_getElem? (i := 702) (by decide +kernel)) (by decide +kernel)
theorem kw1095 : Cond.selects RX8 yX8_unstock yX8_unstock ∈ gt := gt_t (List.mem_of_getElem? (i := 703) (by decide +kernel)) (by decide +kernel)
theorem kw1096 : Cond.methodLink RL 167 yX9_unstock ∈ gt := gt_t (List.mem_of_getElem? (i := 1329) (by decide +kernel)) (by decide +kernel)
theorem kw1097 : Cond.code yX9_unstock cX9_unstock 4 (some .int) ∈ gt := gt_t (List.mem_of_getElem? (i := 1332) (by decide +kernel)) (by decide +kernel)
theorem kw1098 : Cond.instanceMethod yX9_unstock ∈ gt := gt_t (List.mem_of_getElem? (i := 1330) (by decide +kernel)) (by decide +kernel)
theorem kw1099 : Cond.selects RX9 yX9_unstock yX9_unstock ∈ gt := gt_t (List.mem_of_getElem? (i := 1331) (by decide +kernel)) (by decide +kernel)
theorem kw1100 : Cond.methodLink RL 168 yX8_due ∈ gt := gt_t (List.mem_of_getElem? (i := 705) (by decide +kernel)) (by decide +kernel)
theorem kw1101 : Cond.code yX8_due cX8_due 3 (some .long) ∈ gt := gt_t (List.mem_of_getElem? (i := 708) (by decide +kernel)) (by decide +kernel)
theorem kw1102 : Cond.instanceMethod yX8_due ∈ gt := gt_t (List.mem_of_getElem? (i := 706) (by decide +kernel)) (by decide +kernel)
theorem kw1103 : Cond.selects RX8 yX8_due yX8_due ∈ gt := gt_t (List.mem_of_getElem? (i := 707) (by decide +kernel)) (by decide +kernel)
theorem kw1104 : Cond.methodLink RL 171 yX9_due ∈ gt := gt_t (List.mem_of_getElem? (i := 1333) (by decide +kernel)) (by decide +kernel)
theorem kw1105 : Cond.code yX9_due cX9_due 3 (some .long) ∈ gt := gt_t (List.mem_of_getElem? (i := 1336) (by decide +kernel)) (by decide +kernel)
theorem kw1106 : Cond.instanceMethod yX9_due ∈ gt := gt_t (List.mem_of_getElem? (i := 1334) (by decide +kernel)) (by decide +kernel)
theorem kw1107 : Cond.selects RX9 yX9_due yX9_due ∈ gt := gt_t (List.mem_of_getElem? (i := 1335) (by decide +kernel)) (by decide +kernel)
theorem kw1108 : Cond.methodLink RL 172 yX8_off ∈ gt := gt_t (List.mem_of_getElem? (i := 714) (by decide +kernel)) (by decide +kernel)
theorem kw1109 : Cond.code yX8_off cX8_off 4 (some .long) ∈ gt := gt_t (List.mem_of_getElem? (i := 717) (by decide +kernel)) (by decide +kernel)
theorem kw1110 : Cond.instanceMethod yX8_off ∈ gt := gt_t (List.mem_of_getElem? (i := 715) (by decide +kernel)) (by decide +kernel)
theorem kw1111 : Cond.selects RX8 yX8_off yX8_off ∈ gt := gt_t (List.mem_of_getElem? (i := 716) (by decide +kernel)) (by decide +kernel)
theorem kw1112 : Cond.methodLink RL 175 yX9_off ∈ gt := gt_t (List.mem_of_getElem? (i := 1341) (by decide +kernel)) (by decide +kernel)
theorem kw1113 : Cond.code yX9_off cX9_off 4 (some .long) ∈ gt := gt_t (List.mem_of_getElem? (i := 1344) (by decide +kernel)) (by decide +kernel)
theorem kw1114 : Cond.instanceMethod yX9_off ∈ gt := gt_t (List.mem_of_getElem? (i := 1342) (by decide +kernel)) (by decide +kernel)
theorem kw1115 : Cond.selects RX9 yX9_off yX9_off ∈ gt := gt_t (List.mem_of_getElem? (i := 1343) (by decide +kernel)) (by decide +kernel)
theorem kw1116 : Cond.methodLink RL 176 yX8_type ∈ gt := gt_t (List.mem_of_getElem? (i := 718) (by decide +kernel)) (by decide +kernel)
theorem kw1117 : Cond.code yX8_type cX8_type 3 (some .int) ∈ gt := gt_t (List.mem_of_getElem? (i := 721) (by decide +kernel)) (by decide +kernel)
theorem kw1118 : Cond.instanceMethod yX8_type ∈ gt := gt_t (List.mem_of_getElem? (i := 719) (by decide +kernel)) (by decide +kernel)
theorem kw1119 : Cond.selects RX8 yX8_type yX8_type ∈ gt := gt_t (List.mem_of_getElem? (i := 720) (by decide +kernel)) (by decide +kernel)
theorem kw1120 : Cond.methodLink RL 179 yX9_type ∈ gt := gt_t (List.mem_of_getElem? (i := 1345) (by decide +kernel)) (by decide +kernel)
theorem kw1121 : Cond.code yX9_type cX9_type 3 (some .int) ∈ gt := gt_t (List.mem_of_getElem? (i := 1348) (by decide +kernel)) (by decide +kernel)
theorem kw1122 : Cond.instanceMethod yX9_type ∈ gt := gt_t (List.mem_of_getElem? (i := 1346) (by decide +kernel)) (by decide +kernel)
theorem kw1123 : Cond.selects RX9 yX9_type yX9_type ∈ gt := gt_t (List.mem_of_getElem? (i := 1347) (by decide +kernel)) (by decide +kernel)
theorem kw1124 : Cond.methodLink RL 180 yX8_repeal ∈ gt := gt_t (List.mem_of_getElem? (i := 726) (by decide +kernel)) (by decide +kernel)
theorem kw1125 : Cond.code yX8_repeal cX8_repeal 3 (some .int) ∈ gt := gt_t (List.mem_of_getElem? (i := 729) (by decide +kernel)) (by decide +kernel)
theorem kw1126 : Cond.instanceMethod yX8_repeal ∈ gt := gt_t (List.mem_of_getElem? (i := 727) (by decide +kernel)) (by decide +kernel)
theorem kw1127 : Cond.selects RX8 yX8_repeal yX8_repeal ∈ gt := gt_t (List.mem_of_getElem? (i := 728) (by decide +kernel)) (by decide +kernel)
theorem kw1128 : Cond.methodLink RL 183 yX9_repeal ∈ gt := gt_t (List.mem_of_getElem? (i := 1353) (by decide +kernel)) (by decide +kernel)
theorem kw1129 : Cond.code yX9_repeal cX9_repeal 3 (some .int) ∈ gt := gt_t (List.mem_of_getElem? (i := 1356) (by decide +kernel)) (by decide +kernel)
theorem kw1130 : Cond.instanceMethod yX9_repeal ∈ gt := gt_t (List.mem_of_getElem? (i := 1354) (by decide +kernel)) (by decide +kernel)
theorem kw1131 : Cond.selects RX9 yX9_repeal yX9_repeal ∈ gt := gt_t (List.mem_of_getElem? (i := 1355) (by decide +kernel)) (by decide +kernel)
theorem kw1132 : Cond.methodLink RL 184 yX8_fault ∈ gt := gt_t (List.mem_of_getElem? (i := 730) (by decide +kernel)) (by decide +kernel)
theorem kw1133 : Cond.code yX8_fault cX8_fault 2 (some .int) ∈ gt := gt_t (List.mem_of_getElem? (i := 733) (by decide +kernel)) (by decide +kernel)
theorem kw1134 : Cond.instanceMethod yX8_fault ∈ gt := gt_t (List.mem_of_getElem? (i := 731) (by decide +kernel)) (by decide +kernel)
theorem kw1135 : Cond.selects RX8 yX8_fault yX8_fault ∈ gt := gt_t (List.mem_of_getElem? (i := 732) (by decide +kernel)) (by decide +kernel)
theorem kw1136 : Cond.methodLink RL 187 yX9_fault ∈ gt := gt_t (List.mem_of_getElem? (i := 1357) (by decide +kernel)) (by decide +kernel)
theorem kw1137 : Cond.code yX9_fault cX9_fault 4 (some .int) ∈ gt := gt_t (List.mem_of_getElem? (i := 1360) (by decide +kernel)) (by decide +kernel)
theorem kw1138 : Cond.instanceMethod yX9_fault ∈ gt := gt_t (List.mem_of_getElem? (i := 1358) (by decide +kernel)) (by decide +kernel)
theorem kw1139 : Cond.selects RX9 yX9_fault yX9_fault ∈ gt := gt_t (List.mem_of_getElem? (i := 1359) (by decide +kernel)) (by decide +kernel)
theorem kw1140 : Cond.methodLink RL 188 yX8_left ∈ gt := gt_t (List.mem_of_getElem? (i := 765) (by decide +kernel)) (by decide +kernel)
theorem kw1141 : Cond.code yX8_left cX8_left 3 (some .long) ∈ gt := gt_t (List.mem_of_getElem? (i := 768) (by decide +kernel)) (by decide +kernel)
theorem kw1142 : Cond.instanceMethod yX8_left ∈ gt := gt_t (List.mem_of_getElem? (i := 766) (by decide +kernel)) (by decide +kernel)
theorem kw1143 : Cond.selects RX8 yX8_left yX8_left ∈ gt := gt_t (List.mem_of_getElem? (i := 767) (by decide +kernel)) (by decide +kernel)
theorem kw1144 : Cond.methodLink RL 191 yX9_left ∈ gt := gt_t (List.mem_of_getElem? (i := 1386) (by decide +kernel)) (by decide +kernel)
theorem kw1145 : Cond.code yX9_left cX9_left 5 (some .long) ∈ gt := gt_t (List.mem_of_getElem? (i := 1389) (by decide +kernel)) (by decide +kernel)
theorem kw1146 : Cond.instanceMethod yX9_left ∈ gt := gt_t (List.mem_of_getElem? (i := 1387) (by decide +kernel)) (by decide +kernel)
theorem kw1147 : Cond.selects RX9 yX9_left yX9_left ∈ gt := gt_t (List.mem_of_getElem? (i := 1388) (by decide +kernel)) (by decide +kernel)
theorem kw1148 : Cond.methodLink RL 192 yX8_unkept ∈ gt := gt_t (List.mem_of_getElem? (i := 773) (by decide +kernel)) (by decide +kernel)
theorem kw1149 : Cond.code yX8_unkept cX8_unkept 4 (some .int) ∈ gt := gt_t (List.mem_of_getElem? (i := 776) (by decide +kernel)) (by decide +kernel)
theorem kw1150 : Cond.instanceMethod yX8_unkept ∈ gt := gt_t (List.mem_of_getElem? (i := 774) (by decide +kernel)) (by decide +kernel)
theorem kw1151 : Cond.selects RX8 yX8_unkept yX8_unkept ∈ gt := gt_t (List.mem_of_getElem? (i := 775) (by decide +kernel)) (by decide +kernel)
theorem kw1152 : Cond.methodLink RL 195 yX9_unkept ∈ gt := gt_t (List.mem_of_getElem? (i := 1390) (by decide +kernel)) (by decide +kernel)
theorem kw1153 : Cond.code yX9_unkept cX9_unkept 6 (some .int) ∈ gt := gt_t (List.mem_of_getElem? (i := 1393) (by decide +kernel)) (by decide +kernel)
theorem kw1154 : Cond.instanceMethod yX9_unkept ∈ gt := gt_t (List.mem_of_getElem? (i := 1391) (by decide +kernel)) (by decide +kernel)
theorem kw1155 : Cond.selects RX9 yX9_unkept yX9_unkept ∈ gt := gt_t (List.mem_of_getElem? (i := 1392) (by decide +kernel)) (by decide +kernel)
theorem kw1156 : Cond.methodLink RL 196 yX8_revision ∈ gt := gt_t (List.mem_of_getElem? (i := 777) (by decide +kernel)) (by decide +kernel)
theorem kw1157 : Cond.code yX8_revision cX8_revision 4 (some .long) ∈ gt := gt_t (List.mem_of_getElem? (i := 780) (by decide +kernel)) (by decide +kernel)
theorem kw1158 : Cond.instanceMethod yX8_revision ∈ gt := gt_t (List.mem_of_getElem? (i := 778) (by decide +kernel)) (by decide +kernel)
theorem kw1159 : Cond.selects RX8 yX8_revision yX8_revision ∈ gt := gt_t (List.mem_of_getElem? (i := 779) (by decide +kernel)) (by decide +kernel)
theorem kw1160 : Cond.methodLink RL 199 yX9_revision ∈ gt := gt_t (List.mem_of_getElem? (i := 1394) (by decide +kernel)) (by decide +kernel)
theorem kw1161 : Cond.code yX9_revision cX9_revision 4 (some .long) ∈ gt := gt_t (List.mem_of_getElem? (i := 1397) (by decide +kernel)) (by decide +kernel)
theorem kw1162 : Cond.instanceMethod yX9_revision ∈ gt := gt_t (List.mem_of_getElem? (i := 1395) (by decide +kernel)) (by decide +kernel)
theorem kw1163 : Cond.selects RX9 yX9_revision yX9_revision ∈ gt := gt_t (List.mem_of_getElem? (i := 1396) (by decide +kernel)) (by decide +kernel)
theorem kw1164 : Cond.methodLink RL 200 yX8_steps ∈ gt := gt_t (List.mem_of_getElem? (i := 789) (by decide +kernel)) (by decide +kernel)
theorem kw1165 : Cond.code yX8_steps cX8_steps 6 (some .int) ∈ gt := gt_t (List.mem_of_getElem? (i := 792) (by decide +kernel)) (by decide +kernel)
theorem kw1166 : Cond.instanceMethod yX8_steps ∈ gt := gt_t (List.mem_of_getElem? (i := 790) (by decide +kernel)) (by decide +kernel)
theorem kw1167 : Cond.selects RX8 yX8_steps yX8_steps ∈ gt := gt_t (List.mem_of_getElem? (i := 791) (by decide +kernel)) (by decide +kernel)
theorem kw1168 : Cond.methodLink RL 203 yX9_steps ∈ gt := gt_t (List.mem_of_getElem? (i := 1401) (by decide +kernel)) (by decide +kernel)
theorem kw1169 : Cond.code yX9_steps cX9_steps 4 (some .int) ∈ gt := gt_t (List.mem_of_getElem? (i := 1404) (by decide +kernel)) (by decide +kernel)
theorem kw1170 : Cond.instanceMethod yX9_steps ∈ gt := gt_t (List.mem_of_getElem? (i := 1402) (by decide +kernel)) (by decide +kernel)
theorem kw1171 : Cond.selects RX9 yX9_steps yX9_steps ∈ gt := gt_t (List.mem_of_getElem? (i := 1403) (by decide +kernel)) (by decide +kernel)
theorem kw1172 : Cond.methodLink RL 204 yX8_step ∈ gt := gt_t (List.mem_of_getElem? (i := 800) (by decide +kernel)) (by decide +kernel)
theorem kw1173 : Cond.code yX8_step cX8_step 9 (some .long) ∈ gt := gt_t (List.mem_of_getElem? (i := 803) (by decide +kernel)) (by decide +kernel)
theorem kw1174 : Cond.instanceMethod yX8_step ∈ gt := gt_t (List.mem_of_getElem? (i := 801) (by decide +kernel)) (by decide +kernel)
theorem kw1175 : Cond.selects RX8 yX8_step yX8_step ∈ gt := gt_t (List.mem_of_getElem? (i := 802) (by decide +kernel)) (by decide +kernel)
theorem kw1176 : Cond.methodLink RL 208 yX9_step ∈ gt := gt_t (List.mem_of_getElem? (i := 1413) (by decide +kernel)) (by decide +kernel)
theorem kw1177 : Cond.code yX9_step cX9_step 7 (some .long) ∈ gt := gt_t (List.mem_of_getElem? (i := 1416) (by decide +kernel)) (by decide +kernel)
theorem kw1178 : Cond.instanceMethod yX9_step ∈ gt := gt_t (List.mem_of_getElem? (i := 1414) (by decide +kernel)) (by decide +kernel)
theorem kw1179 : Cond.selects RX9 yX9_step yX9_step ∈ gt := gt_t (List.mem_of_getElem? (i := 1415) (by decide +kernel)) (by decide +kernel)
theorem kw1180 : Cond.methodLink RL 209 yX8_led ∈ gt := gt_t (List.mem_of_getElem? (i := 809) (by decide +kernel)) (by decide +kernel)
theorem kw1181 : Cond.code yX8_led cX8_led 7 (some .long) ∈ gt := gt_t (List.mem_of_getElem? (i := 812) (by decide +kernel)) (by decide +kernel)
theorem kw1182 : Cond.instanceMethod yX8_led ∈ gt := gt_t (List.mem_of_getElem? (i := 810) (by decide +kernel)) (by decide +kernel)
theorem kw1183 : Cond.selects RX8 yX8_led yX8_led ∈ gt := gt_t (List.mem_of_getElem? (i := 811) (by decide +kernel)) (by decide +kernel)
theorem kw1184 : Cond.methodLink RL 213 yX9_led ∈ gt := gt_t (List.mem_of_getElem? (i := 1417) (by decide +kernel)) (by decide +kernel)
theorem kw1185 : Cond.code yX9_led cX9_led 8 (some .long) ∈ gt := gt_t (List.mem_of_getElem? (i := 1420) (by decide +kernel)) (by decide +kernel)
theorem kw1186 : Cond.instanceMethod yX9_led ∈ gt := gt_t (List.mem_of_getElem? (i := 1418) (by decide +kernel)) (by decide +kernel)
theorem kw1187 : Cond.selects RX9 yX9_led yX9_led ∈ gt := gt_t (List.mem_of_getElem? (i := 1419) (by decide +kernel)) (by decide +kernel)
theorem kw1188 : Cond.methodLink RL 214 yX8_sheet ∈ gt := gt_t (List.mem_of_getElem? (i := 816) (by decide +kernel)) (by decide +kernel)
theorem kw1189 : Cond.code yX8_sheet cX8_sheet 4 (some .int) ∈ gt := gt_t (List.mem_of_getElem? (i := 819) (by decide +kernel)) (by decide +kernel)
theorem kw1190 : Cond.instanceMethod yX8_sheet ∈ gt := gt_t (List.mem_of_getElem? (i := 817) (by decide +kernel)) (by decide +kernel)
theorem kw1191 : Cond.selects RX8 yX8_sheet yX8_sheet ∈ gt := gt_t (List.mem_of_getElem? (i := 818) (by decide +kernel)) (by decide +kernel)
theorem kw1192 : Cond.methodLink RL 217 yX9_sheet ∈ gt := gt_t (List.mem_of_getElem? (i := 1425) (by decide +kernel)) (by decide +kernel)
theorem kw1193 : Cond.code yX9_sheet cX9_sheet 5 (some .int) ∈ gt := gt_t (List.mem_of_getElem? (i := 1428) (by decide +kernel)) (by decide +kernel)
theorem kw1194 : Cond.instanceMethod yX9_sheet ∈ gt := gt_t (List.mem_of_getElem? (i := 1426) (by decide +kernel)) (by decide +kernel)
theorem kw1195 : Cond.selects RX9 yX9_sheet yX9_sheet ∈ gt := gt_t (List.mem_of_getElem? (i := 1427) (by decide +kernel)) (by decide +kernel)
theorem kw1196 : Cond.methodLink RL 218 yX8_lose ∈ gt := gt_t (List.mem_of_getElem? (i := 829) (by decide +kernel)) (by decide +kernel)
theorem kw1197 : Cond.code yX8_lose cX8_lose 2 (some .int) ∈ gt := gt_t (List.mem_of_getElem? (i := 832) (by decide +kernel)) (by decide +kernel)
theorem kw1198 : Cond.instanceMethod yX8_lose ∈ gt := gt_t (List.mem_of_getElem? (i := 830) (by decide +kernel)) (by decide +kernel)
theorem kw1199 : Cond.selects RX8 yX8_lose yX8_lose ∈ gt := gt_t (List.mem_of_getElem? (i := 831) (by decide +kernel)) (by decide +kernel)
theorem kw1200 : Cond.methodLink RL 221 yX9_lose ∈ gt := gt_t (List.mem_of_getElem? (i := 1436) (by decide +kernel)) (by decide +kernel)
theorem kw1201 : Cond.code yX9_lose cX9_lose 2 (some .int) ∈ gt := gt_t (List.mem_of_getElem? (i := 1439) (by decide +kernel)) (by decide +kernel)
theorem kw1202 : Cond.instanceMethod yX9_lose ∈ gt := gt_t (List.mem_of_getElem? (i := 1437) (by decide +kernel)) (by decide +kernel)
theorem kw1203 : Cond.selects RX9 yX9_lose yX9_lose ∈ gt := gt_t (List.mem_of_getElem? (i := 1438) (by decide +kernel)) (by decide +kernel)
theorem kw1204 : Cond.methodLink RL 222 yX8_put ∈ gt := gt_t (List.mem_of_getElem? (i := 833) (by decide +kernel)) (by decide +kernel)
theorem kw1205 : Cond.code yX8_put cX8_put 6 (some .int) ∈ gt := gt_t (List.mem_of_getElem? (i := 836) (by decide +kernel)) (by decide +kernel)
theorem kw1206 : Cond.instanceMethod yX8_put ∈ gt := gt_t (List.mem_of_getElem? (i := 834) (by decide +kernel)) (by decide +kernel)
theorem kw1207 : Cond.selects RX8 yX8_put yX8_put ∈ gt := gt_t (List.mem_of_getElem? (i := 835) (by decide +kernel)) (by decide +kernel)
theorem kw1208 : Cond.methodLink RL 225 yX9_put ∈ gt := gt_t (List.mem_of_getElem? (i := 1440) (by decide +kernel)) (by decide +kernel)
theorem kw1209 : Cond.code yX9_put cX9_put 6 (some .int) ∈ gt := gt_t (List.mem_of_getElem? (i := 1443) (by decide +kernel)) (by decide +kernel)
theorem kw1210 : Cond.instanceMethod yX9_put ∈ gt := gt_t (List.mem_of_getElem? (i := 1441) (by decide +kernel)) (by decide +kernel)
theorem kw1211 : Cond.selects RX9 yX9_put yX9_put ∈ gt := gt_t (List.mem_of_getElem? (i := 1442) (by decide +kernel)) (by decide +kernel)
theorem kw1212 : Cond.methodLink RL 226 yX8_get ∈ gt := gt_t (List.mem_of_getElem? (i := 845) (by decide +kernel)) (by decide +kernel)
theorem kw1213 : Cond.code yX8_get cX8_get 4 (some .int) ∈ gt := gt_t (List.mem_of_getElem? (i := 848) (by decide +kernel)) (by decide +kernel)
theorem kw1214 : Cond.instanceMethod yX8_get ∈ gt := gt_t (List.mem_of_getElem? (i := 846) (by decide +kernel)) (by decide +kernel)
theorem kw1215 : Cond.selects RX8 yX8_get yX8_get ∈ gt := gt_t (List.mem_of_getElem? (i := 847) (by decide +kernel)) (by decide +kernel)
theorem kw1216 : Cond.methodLink RL 229 yX9_get ∈ gt := gt_t (List.mem_of_getElem? (i := 1452) (by decide +kernel)) (by decide +kernel)
theorem kw1217 : Cond.code yX9_get cX9_get 5 (some .int) ∈ gt := gt_t (List.mem_of_getElem? (i := 1455) (by decide +kernel)) (by decide +kernel)
theorem kw1218 : Cond.instanceMethod yX9_get ∈ gt := gt_t (List.mem_of_getElem? (i := 1453) (by decide +kernel)) (by decide +kernel)
theorem kw1219 : Cond.selects RX9 yX9_get yX9_get ∈ gt := gt_t (List.mem_of_getElem? (i := 1454) (by decide +kernel)) (by decide +kernel)
theorem kw1220 : Cond.methodLink RL 230 yX8_copy ∈ gt := gt_t (List.mem_of_getElem? (i := 850) (by decide +kernel)) (by decide +kernel)
theorem kw1221 : Cond.code yX8_copy cX8_copy 8 (some .int) ∈ gt := gt_t (List.mem_of_getElem? (i := 853) (by decide +kernel)) (by decide +kernel)
theorem kw1222 : Cond.instanceMethod yX8_copy ∈ gt := gt_t (List.mem_of_getElem? (i := 851) (by decide +kernel)) (by decide +kernel)
theorem kw1223 : Cond.selects RX8 yX8_copy yX8_copy ∈ gt := gt_t (List.mem_of_getElem? (i := 852) (by decide +kernel)) (by decide +kernel)
theorem kw1224 : Cond.methodLink RL 233 yX9_copy ∈ gt := gt_t (List.mem_of_getElem? (i := 1457) (by decide +kernel)) (by decide +kernel)
theorem kw1225 : Cond.code yX9_copy cX9_copy 7 (some .int) ∈ gt := gt_t (List.mem_of_getElem? (i := 1460) (by decide +kernel)) (by decide +kernel)
theorem kw1226 : Cond.instanceMethod yX9_copy ∈ gt := gt_t (List.mem_of_getElem? (i := 1458) (by decide +kernel)) (by decide +kernel)
theorem kw1227 : Cond.selects RX9 yX9_copy yX9_copy ∈ gt := gt_t (List.mem_of_getElem? (i := 1459) (by decide +kernel)) (by decide +kernel)
theorem kw1228 : Cond.methodLink RL 234 yX8_read ∈ gt := gt_t (List.mem_of_getElem? (i := 861) (by decide +kernel)) (by decide +kernel)
theorem kw1229 : Cond.code yX8_read cX8_read 5 (some .int) ∈ gt := gt_t (List.mem_of_getElem? (i := 864) (by decide +kernel)) (by decide +kernel)
theorem kw1230 : Cond.instanceMethod yX8_read ∈ gt := gt_t (List.mem_of_getElem? (i := 862) (by decide +kernel)) (by decide +kernel)
theorem kw1231 : Cond.selects RX8 yX8_read yX8_read ∈ gt := gt_t (List.mem_of_getElem? (i := 863) (by decide +kernel)) (by decide +kernel)
theorem kw1232 : Cond.methodLink RL 237 yX9_read ∈ gt := gt_t (List.mem_of_getElem? (i := 1461) (by decide +kernel)) (by decide +kernel)
theorem kw1233 : Cond.code yX9_read cX9_read 4 (some .int) ∈ gt := gt_t (List.mem_of_getElem? (i := 1464) (by decide +kernel)) (by decide +kernel)
theorem kw1234 : Cond.instanceMethod yX9_read ∈ gt := gt_t (List.mem_of_getElem? (i := 1462) (by decide +kernel)) (by decide +kernel)
theorem kw1235 : Cond.selects RX9 yX9_read yX9_read ∈ gt := gt_t (List.mem_of_getElem? (i := 1463) (by decide +kernel)) (by decide +kernel)
theorem kw1236 : Cond.methodLink RL 238 yX8_write ∈ gt := gt_t (List.mem_of_getElem? (i := 866) (by decide +kernel)) (by decide +kernel)
theorem kw1237 : Cond.code yX8_write cX8_write 8 (some .int) ∈ gt := gt_t (List.mem_of_getElem? (i := 869) (by decide +kernel)) (by decide +kernel)
theorem kw1238 : Cond.instanceMethod yX8_write ∈ gt := gt_t (List.mem_of_getElem? (i := 867) (by decide +kernel)) (by decide +kernel)
theorem kw1239 : Cond.selects RX8 yX8_write yX8_write ∈ gt := gt_t (List.mem_of_getElem? (i := 868) (by decide +kernel)) (by decide +kernel)
theorem kw1240 : Cond.methodLink RL 241 yX9_write ∈ gt := gt_t (List.mem_of_getElem? (i := 1465) (by decide +kernel)) (by decide +kernel)
theorem kw1241 : Cond.code yX9_write cX9_write 6 (some .int) ∈ gt := gt_t (List.mem_of_getElem? (i := 1468) (by decide +kernel)) (by decide +kernel)
theorem kw1242 : Cond.instanceMethod yX9_write ∈ gt := gt_t (List.mem_of_getElem? (i := 1466) (by decide +kernel)) (by decide +kernel)
theorem kw1243 : Cond.selects RX9 yX9_write yX9_write ∈ gt := gt_t (List.mem_of_getElem? (i := 1467) (by decide +kernel)) (by decide +kernel)
theorem kw1244 : Cond.methodLink RL 242 yX8_count ∈ gt := gt_t (List.mem_of_getElem? (i := 873) (by decide +kernel)) (by decide +kernel)
theorem kw1245 : Cond.methodLink RL 245 yX9_count ∈ gt := gt_t (List.mem_of_getElem? (i := 1469) (by decide +kernel)) (by decide +kernel)
theorem kw1246 : Cond.methodLink RL 246 yX8_digest ∈ gt := gt_t (List.mem_of_getElem? (i := 889) (by decide +kernel)) (by decide +kernel)
theorem kw1247 : Cond.code yX8_digest cX8_digest 5 (some .long) ∈ gt := gt_t (List.mem_of_getElem? (i := 892) (by decide +kernel)) (by decide +kernel)
theorem kw1248 : Cond.instanceMethod yX8_digest ∈ gt := gt_t (List.mem_of_getElem? (i := 890) (by decide +kernel)) (by decide +kernel)
theorem kw1249 : Cond.selects RX8 yX8_digest yX8_digest ∈ gt := gt_t (List.mem_of_getElem? (i := 891) (by decide +kernel)) (by decide +kernel)
theorem kw1250 : Cond.methodLink RL 250 yX9_digest ∈ gt := gt_t (List.mem_of_getElem? (i := 1473) (by decide +kernel)) (by decide +kernel)
theorem kw1251 : Cond.code yX9_digest cX9_digest 7 (some .long) ∈ gt := gt_t (List.mem_of_getElem? (i := 1476) (by decide +kernel)) (by decide +kernel)
theorem kw1252 : Cond.instanceMethod yX9_digest ∈ gt := gt_t (List.mem_of_getElem? (i := 1474) (by decide +kernel)) (by decide +kernel)
theorem kw1253 : Cond.selects RX9 yX9_digest yX9_digest ∈ gt := gt_t (List.mem_of_getElem? (i := 1475) (by decide +kernel)) (by decide +kernel)
theorem kw1254 : Cond.classLink RL 7 RX8 ∈ gt := gt_t (List.mem_of_getElem? (i := 14) (by decide +kernel)) (by decide +kernel)
theorem kw1255 : Cond.classLink RL 10 RX9 ∈ gt := gt_t (List.mem_of_getElem? (i := 896) (by decide +kernel)) (by decide +kernel)
theorem kw1256 : Cond.instantiable RX8 8 ∈ gt := gt_t (List.mem_of_getElem? (i := 15) (by decide +kernel)) (by decide +kernel)
theorem kw1257 : Cond.instantiable RX9 43 ∈ gt := gt_t (List.mem_of_getElem? (i := 897) (by decide +kernel)) (by decide +kernel)
theorem kw1258 : Cond.code yX8_init cX8_init 2 none ∈ gt := gt_t (List.mem_of_getElem? (i := 18) (by decide +kernel)) (by decide +kernel)
theorem kw1259 : Cond.code yX9_init cX9_init 2 none ∈ gt := gt_t (List.mem_of_getElem? (i := 900) (by decide +kernel)) (by decide +kernel)
theorem kw1260 : Cond.instanceMethod yX8_init ∈ gt := gt_t (List.mem_of_getElem? (i := 17) (by decide +kernel)) (by decide +kernel)
theorem kw1261 : Cond.instanceMethod yX9_init ∈ gt := gt_t (List.mem_of_getElem? (i := 899) (by decide +kernel)) (by decide +kernel)
theorem kw1262 : Cond.methodLink RL 9 yX8_init ∈ gt := gt_t (List.mem_of_getElem? (i := 16) (by decide +kernel)) (by decide +kernel)
theorem kw1263 : Cond.methodLink RL 12 yX9_init ∈ gt := gt_t (List.mem_of_getElem? (i := 898) (by decide +kernel)) (by decide +kernel)
theorem kmX8_trust : kV RX8 yX8_trust cX8_trust 4 (some .int) 2 := ⟨kw817, kw818, kw16, kw816, rfl, by decide +kernel, by decide +kernel, by decide +kernel⟩
theorem kmX9_trust : kV RX9 yX9_trust cX9_trust 4 (some .int) 2 := ⟨kw821, kw822, kw492, kw820, rfl, by decide +kernel, by decide +kernel, by decide +kernel⟩
theorem kmX8_code : kV RX8 yX8_code cX8_code 5 (some .int) 4 := ⟨kw825, kw826, kw16, kw824, rfl, by decide +kernel, by decide +kernel, by decide +kernel⟩
theorem kmX9_code : kV RX9 yX9_code cX9_code 5 (some .int) 4 := ⟨kw829, kw830, kw492, kw828, rfl, by decide +kernel, by decide +kernel, by decide +kernel⟩
theorem kmX8_annual : kV RX8 yX8_annual cX8_annual 5 (some .int) 4 := ⟨kw833, kw834, kw16, kw832, rfl, by decide +kernel, by decide +kernel, by decide +kernel⟩
theorem kmX9_annual : kV RX9 yX9_annual cX9_annual 5 (some .int) 4 := ⟨kw837, kw838, kw492, kw836, rfl, by decide +kernel, by decide +kernel, by decide +kernel⟩
theorem kmX8_decode : kV RX8 yX8_decode cX8_decode 3 (some .int) 2 := ⟨kw841, kw842, kw16, kw840, rfl, by decide +kernel, by decide +kernel, by decide +kernel⟩
theorem kmX9_decode : kV RX9 yX9_decode cX9_decode 3 (some .int) 2 := ⟨kw845, kw846, kw492, kw844, rfl, by decide +kernel, by decide +kernel, by decide +kernel⟩
theorem kmX9_row : kV RX9 yX9_row cX9_row 5 (some .int) 4 := ⟨kw850, kw851, kw492, kw849, rfl, by decide +kernel, by decide +kernel, by decide +kernel⟩
theorem kmX8_rowIs : kV RX8 yX8_rowIs cX8_rowIs 3 (some .int) 2 := ⟨kw854, kw855, kw16, kw853, rfl, by decide +kernel, by decide +kernel, by decide +kernel⟩
theorem kmX9_rowIs : kV RX9 yX9_rowIs cX9_rowIs 3 (some .int) 2 := ⟨kw858, kw859, kw492, kw857, rfl, by decide +kernel, by decide +kernel, by decide +kernel⟩
theorem kmX8_asOf : kV RX8 yX8_asOf cX8_asOf 3 (some .int) 1 := ⟨kw862, kw863, kw16, kw861, rfl, by decide +kernel, by decide +kernel, by decide +kernel⟩
theorem kmX9_asOf : kV RX9 yX9_asOf cX9_asOf 3 (some .int) 1 := ⟨kw866, kw867, kw492, kw865, rfl, by decide +kernel, by decide +kernel, by decide +kernel⟩
theorem kmX8_column : kV RX8 yX8_column cX8_column 4 (some .int) 2 := ⟨kw870, kw871, kw16, kw869, rfl, by decide +kernel, by decide +kernel, by decide +kernel⟩
theorem kmX9_column : kV RX9 yX9_column cX9_column 4 (some .int) 2 := ⟨kw874, kw875, kw492, kw873, rfl, by decide +kernel, by decide +kernel, by decide +kernel⟩
theorem kmX8_said : kV RX8 yX8_said cX8_said 2 (some .long) 1 := ⟨kw878, kw879, kw16, kw877, rfl, by decide +kernel, by decide +kernel, by decide +kernel⟩
theorem kmX9_said : kV RX9 yX9_said cX9_said 2 (some .long) 1 := ⟨kw882, kw883, kw492, kw881, rfl, by decide +kernel, by decide +kernel, by decide +kernel⟩
theorem kmX8_weight : kV RX8 yX8_weight cX8_weight 2 (some .int) 1 := ⟨kw886, kw887, kw16, kw885, rfl, by decide +kernel, by decide +kernel, by decide +kernel⟩
theorem kmX9_weight : kV RX9 yX9_weight cX9_weight 2 (some .int) 1 := ⟨kw890, kw891, kw492, kw889, rfl, by decide +kernel, by decide +kernel, by decide +kernel⟩
theorem kmX8_bent : kV RX8 yX8_bent cX8_bent 2 (some .long) 1 := ⟨kw894, kw895, kw16, kw893, rfl, by decide +kernel, by decide +kernel, by decide +kernel⟩
theorem kmX9_bent : kV RX9 yX9_bent cX9_bent 2 (some .long) 1 := ⟨kw898, kw899, kw492, kw897, rfl, by decide +kernel, by decide +kernel, by decide +kernel⟩
theorem kmX8_shape : kV RX8 yX8_shape cX8_shape 2 (some .long) 1 := ⟨kw902, kw903, kw16, kw901, rfl, by decide +kernel, by decide +kernel, by decide +kernel⟩
theorem kmX9_shape : kV RX9 yX9_shape cX9_shape 6 (some .long) 1 := ⟨kw906, kw907, kw492, kw905, rfl, by decide +kernel, by decide +kernel, by decide +kernel⟩
theorem kmX8_fix : kV RX8 yX8_fix cX8_fix 7 (some .int) 4 := ⟨kw910, kw911, kw16, kw909, rfl, by decide +kernel, by decide +kernel, by decide +kernel⟩
theorem kmX9_fix : kV RX9 yX9_fix cX9_fix 7 (some .int) 4 := ⟨kw914, kw915, kw492, kw913, rfl, by decide +kernel, by decide +kernel, by decide +kernel⟩
theorem kmX8_rule : kV RX8 yX8_rule cX8_rule 3 (some .int) 1 := ⟨kw918, kw919, kw16, kw917, rfl, by decide +kernel, by decide +kernel, by decide +kernel⟩
theorem kmX9_rule : kV RX9 yX9_rule cX9_rule 3 (some .int) 1 := ⟨kw922, kw923, kw492, kw921, rfl, by decide +kernel, by decide +kernel, by decide +kernel⟩
theorem kmX8_gap : kV RX8 yX8_gap cX8_gap 4 (some .long) 3 := ⟨kw926, kw927, kw16, kw925, rfl, by decide +kernel, by decide +kernel, by decide +kernel⟩
theorem kmX9_gap : kV RX9 yX9_gap cX9_gap 4 (some .long) 3 := ⟨kw930, kw931, kw492, kw929, rfl, by decide +kernel, by decide +kernel, by decide +kernel⟩
theorem kmX8_closed : kV RX8 yX8_closed cX8_closed 2 (some .long) 1 := ⟨kw934, kw935, kw16, kw933, rfl, by decide +kernel, by decide +kernel, by decide +kernel⟩
theorem kmX9_closed : kV RX9 yX9_closed cX9_closed 2 (some .long) 1 := ⟨kw938, kw939, kw492, kw937, rfl, by decide +kernel, by decide +kernel, by decide +kernel⟩
theorem kmX8_moved : kV RX8 yX8_moved cX8_moved 4 (some .long) 3 := ⟨kw942, kw943, kw16, kw941, rfl, by decide +kernel, by decide +kernel, by decide +kernel⟩
theorem kmX9_moved : kV RX9 yX9_moved cX9_moved 5 (some .long) 3 := ⟨kw946, kw947, kw492, kw945, rfl, by decide +kernel, by decide +kernel, by decide +kernel⟩
theorem kmX8_total : kV RX8 yX8_total cX8_total 5 (some .long) 4 := ⟨kw950, kw951, kw16, kw949, rfl, by decide +kernel, by decide +kernel, by decide +kernel⟩
theorem kmX9_total : kV RX9 yX9_total cX9_total 5 (some .long) 4 := ⟨kw954, kw955, kw492, kw953, rfl, by decide +kernel, by decide +kernel, by decide +kernel⟩
theorem kmX8_open : kV RX8 yX8_open cX8_open 1 (some .int) 0 := ⟨kw958, kw959, kw16, kw957, rfl, by decide +kernel, by decide +kernel, by decide +kernel⟩
theorem kmX9_open : kV RX9 yX9_open cX9_open 1 (some .int) 0 := ⟨kw962, kw963, kw492, kw961, rfl, by decide +kernel, by decide +kernel, by decide +kernel⟩
theorem kmX8_broken : kV RX8 yX8_broken cX8_broken 1 (some .int) 0 := ⟨kw966, kw967, kw16, kw965, rfl, by decide +kernel, by decide +kernel, by decide +kernel⟩
theorem kmX9_broken : kV RX9 yX9_broken cX9_broken 2 (some .int) 0 := ⟨kw970, kw971, kw492, kw969, rfl, by decide +kernel, by decide +kernel, by decide +kernel⟩
theorem kmX8_breaks : kV RX8 yX8_breaks cX8_breaks 2 (some .int) 1 := ⟨kw974, kw975, kw16, kw973, rfl, by decide +kernel, by decide +kernel, by decide +kernel⟩
theorem kmX9_breaks : kV RX9 yX9_breaks cX9_breaks 2 (some .int) 1 := ⟨kw978, kw979, kw492, kw977, rfl, by decide +kernel, by decide +kernel, by decide +kernel⟩
theorem kmX8_price : kV RX8 yX8_price cX8_price 6 (some .int) 3 := ⟨kw982, kw983, kw16, kw981, rfl, by decide +kernel, by decide +kernel, by decide +kernel⟩
theorem kmX9_price : kV RX9 yX9_price cX9_price 5 (some .int) 3 := ⟨kw986, kw987, kw492, kw985, rfl, by decide +kernel, by decide +kernel, by decide +kernel⟩
theorem kmX8_volume : kV RX8 yX8_volume cX8_volume 4 (some .long) 3 := ⟨kw990, kw991, kw16, kw989, rfl, by decide +kernel, by decide +kernel, by decide +kernel⟩
theorem kmX9_volume : kV RX9 yX9_volume cX9_volume 4 (some .long) 3 := ⟨kw994, kw995, kw492, kw993, rfl, by decide +kernel, by decide +kernel, by decide +kernel⟩
theorem kmX8_atPrices : kV RX8 yX8_atPrices cX8_atPrices 5 (some .long) 4 := ⟨kw998, kw999, kw16, kw997, rfl, by decide +kernel, by decide +kernel, by decide +kernel⟩
theorem kmX9_atPrices : kV RX9 yX9_atPrices cX9_atPrices 5 (some .long) 4 := ⟨kw1002, kw1003, kw492, kw1001, rfl, by decide +kernel, by decide +kernel, by decide +kernel⟩
theorem kmX8_growth : kV RX8 yX8_growth cX8_growth 4 (some .long) 3 := ⟨kw1006, kw1007, kw16, kw1005, rfl, by decide +kernel, by decide +kernel, by decide +kernel⟩
theorem kmX9_growth : kV RX9 yX9_growth cX9_growth 4 (some .long) 3 := ⟨kw1010, kw1011, kw492, kw1009, rfl, by decide +kernel, by decide +kernel, by decide +kernel⟩
theorem kmX8_chain : kV RX8 yX8_chain cX8_chain 4 (some .long) 3 := ⟨kw1014, kw1015, kw16, kw1013, rfl, by decide +kernel, by decide +kernel, by decide +kernel⟩
theorem kmX9_chain : kV RX9 yX9_chain cX9_chain 4 (some .long) 3 := ⟨kw1018, kw1019, kw492, kw1017, rfl, by decide +kernel, by decide +kernel, by decide +kernel⟩
theorem kmX8_part : kV RX8 yX8_part cX8_part 4 (some .long) 3 := ⟨kw1022, kw1023, kw16, kw1021, rfl, by decide +kernel, by decide +kernel, by decide +kernel⟩
theorem kmX9_part : kV RX9 yX9_part cX9_part 12 (some .long) 3 := ⟨kw1026, kw1027, kw492, kw1025, rfl, by decide +kernel, by decide +kernel, by decide +kernel⟩
theorem kmX8_apart : kV RX8 yX8_apart cX8_apart 3 (some .long) 2 := ⟨kw1030, kw1031, kw16, kw1029, rfl, by decide +kernel, by decide +kernel, by decide +kernel⟩
theorem kmX9_apart : kV RX9 yX9_apart cX9_apart 6 (some .long) 2 := ⟨kw1034, kw1035, kw492, kw1033, rfl, by decide +kernel, by decide +kernel, by decide +kernel⟩
theorem kmX8_trade : kV RX8 yX8_trade cX8_trade 8 (some .int) 5 := ⟨kw1038, kw1039, kw16, kw1037, rfl, by decide +kernel, by decide +kernel, by decide +kernel⟩
theorem kmX9_trade : kV RX9 yX9_trade cX9_trade 8 (some .int) 5 := ⟨kw1042, kw1043, kw492, kw1041, rfl, by decide +kernel, by decide +kernel, by decide +kernel⟩
theorem kmX8_precise : kV RX8 yX8_precise cX8_precise 4 (some .int) 2 := ⟨kw1046, kw1047, kw16, kw1045, rfl, by decide +kernel, by decide +kernel, by decide +kernel⟩
theorem kmX9_precise : kV RX9 yX9_precise cX9_precise 4 (some .int) 2 := ⟨kw1050, kw1051, kw492, kw1049, rfl, by decide +kernel, by decide +kernel, by decide +kernel⟩
theorem kmX8_hidden : kV RX8 yX8_hidden cX8_hidden 4 (some .int) 3 := ⟨kw1054, kw1055, kw16, kw1053, rfl, by decide +kernel, by decide +kernel, by decide +kernel⟩
theorem kmX9_hidden : kV RX9 yX9_hidden cX9_hidden 6 (some .int) 3 := ⟨kw1058, kw1059, kw492, kw1057, rfl, by decide +kernel, by decide +kernel, by decide +kernel⟩
theorem kmX8_agreed : kV RX8 yX8_agreed cX8_agreed 4 (some .int) 3 := ⟨kw1062, kw1063, kw16, kw1061, rfl, by decide +kernel, by decide +kernel, by decide +kernel⟩
theorem kmX9_agreed : kV RX9 yX9_agreed cX9_agreed 7 (some .int) 3 := ⟨kw1066, kw1067, kw492, kw1065, rfl, by decide +kernel, by decide +kernel, by decide +kernel⟩
theorem kmX8_flow : kV RX8 yX8_flow cX8_flow 5 (some .long) 4 := ⟨kw1070, kw1071, kw16, kw1069, rfl, by decide +kernel, by decide +kernel, by decide +kernel⟩
theorem kmX9_flow : kV RX9 yX9_flow cX9_flow 6 (some .long) 4 := ⟨kw1074, kw1075, kw492, kw1073, rfl, by decide +kernel, by decide +kernel, by decide +kernel⟩
theorem kmX8_net : kV RX8 yX8_net cX8_net 3 (some .long) 2 := ⟨kw1078, kw1079, kw16, kw1077, rfl, by decide +kernel, by decide +kernel, by decide +kernel⟩
theorem kmX9_net : kV RX9 yX9_net cX9_net 3 (some .long) 2 := ⟨kw1082, kw1083, kw492, kw1081, rfl, by decide +kernel, by decide +kernel, by decide +kernel⟩
theorem kmX8_stock : kV RX8 yX8_stock cX8_stock 5 (some .int) 3 := ⟨kw1086, kw1087, kw16, kw1085, rfl, by decide +kernel, by decide +kernel, by decide +kernel⟩
theorem kmX9_stock : kV RX9 yX9_stock cX9_stock 4 (some .int) 3 := ⟨kw1090, kw1091, kw492, kw1089, rfl, by decide +kernel, by decide +kernel, by decide +kernel⟩
theorem kmX8_unstock : kV RX8 yX8_unstock cX8_unstock 5 (some .int) 2 := ⟨kw1094, kw1095, kw16, kw1093, rfl, by decide +kernel, by decide +kernel, by decide +kernel⟩
theorem kmX9_unstock : kV RX9 yX9_unstock cX9_unstock 4 (some .int) 2 := ⟨kw1098, kw1099, kw492, kw1097, rfl, by decide +kernel, by decide +kernel, by decide +kernel⟩
theorem kmX8_due : kV RX8 yX8_due cX8_due 3 (some .long) 2 := ⟨kw1102, kw1103, kw16, kw1101, rfl, by decide +kernel, by decide +kernel, by decide +kernel⟩
theorem kmX9_due : kV RX9 yX9_due cX9_due 3 (some .long) 2 := ⟨kw1106, kw1107, kw492, kw1105, rfl, by decide +kernel, by decide +kernel, by decide +kernel⟩
theorem kmX8_off : kV RX8 yX8_off cX8_off 4 (some .long) 2 := ⟨kw1110, kw1111, kw16, kw1109, rfl, by decide +kernel, by decide +kernel, by decide +kernel⟩
theorem kmX9_off : kV RX9 yX9_off cX9_off 4 (some .long) 2 := ⟨kw1114, kw1115, kw492, kw1113, rfl, by decide +kernel, by decide +kernel, by decide +kernel⟩
theorem kmX8_type : kV RX8 yX8_type cX8_type 3 (some .int) 2 := ⟨kw1118, kw1119, kw16, kw1117, rfl, by decide +kernel, by decide +kernel, by decide +kernel⟩
theorem kmX9_type : kV RX9 yX9_type cX9_type 3 (some .int) 2 := ⟨kw1122, kw1123, kw492, kw1121, rfl, by decide +kernel, by decide +kernel, by decide +kernel⟩
theorem kmX8_repeal : kV RX8 yX8_repeal cX8_repeal 3 (some .int) 1 := ⟨kw1126, kw1127, kw16, kw1125, rfl, by decide +kernel, by decide +kernel, by decide +kernel⟩
theorem kmX9_repeal : kV RX9 yX9_repeal cX9_repeal 3 (some .int) 1 := ⟨kw1130, kw1131, kw492, kw1129, rfl, by decide +kernel, by decide +kernel, by decide +kernel⟩
theorem kmX8_fault : kV RX8 yX8_fault cX8_fault 2 (some .int) 1 := ⟨kw1134, kw1135, kw16, kw1133, rfl, by decide +kernel, by decide +kernel, by decide +kernel⟩
theorem kmX9_fault : kV RX9 yX9_fault cX9_fault 4 (some .int) 1 := ⟨kw1138, kw1139, kw492, kw1137, rfl, by decide +kernel, by decide +kernel, by decide +kernel⟩
theorem kmX8_left : kV RX8 yX8_left cX8_left 3 (some .long) 2 := ⟨kw1142, kw1143, kw16, kw1141, rfl, by decide +kernel, by decide +kernel, by decide +kernel⟩
theorem kmX9_left : kV RX9 yX9_left cX9_left 5 (some .long) 2 := ⟨kw1146, kw1147, kw492, kw1145, rfl, by decide +kernel, by decide +kernel, by decide +kernel⟩
theorem kmX8_unkept : kV RX8 yX8_unkept cX8_unkept 4 (some .int) 1 := ⟨kw1150, kw1151, kw16, kw1149, rfl, by decide +kernel, by decide +kernel, by decide +kernel⟩
theorem kmX9_unkept : kV RX9 yX9_unkept cX9_unkept 6 (some .int) 1 := ⟨kw1154, kw1155, kw492, kw1153, rfl, by decide +kernel, by decide +kernel, by decide +kernel⟩
theorem kmX8_revision : kV RX8 yX8_revision cX8_revision 4 (some .long) 3 := ⟨kw1158, kw1159, kw16, kw1157, rfl, by decide +kernel, by decide +kernel, by decide +kernel⟩
theorem kmX9_revision : kV RX9 yX9_revision cX9_revision 4 (some .long) 3 := ⟨kw1162, kw1163, kw492, kw1161, rfl, by decide +kernel, by decide +kernel, by decide +kernel⟩
theorem kmX8_steps : kV RX8 yX8_steps cX8_steps 6 (some .int) 3 := ⟨kw1166, kw1167, kw16, kw1165, rfl, by decide +kernel, by decide +kernel, by decide +kernel⟩
theorem kmX9_steps : kV RX9 yX9_steps cX9_steps 4 (some .int) 3 := ⟨kw1170, kw1171, kw492, kw1169, rfl, by decide +kernel, by decide +kernel, by decide +kernel⟩
theorem kmX8_step : kV RX8 yX8_step cX8_step 9 (some .long) 5 := ⟨kw1174, kw1175, kw16, kw1173, rfl, by decide +kernel, by decide +kernel, by decide +kernel⟩
theorem kmX9_step : kV RX9 yX9_step cX9_step 7 (some .long) 5 := ⟨kw1178, kw1179, kw492, kw1177, rfl, by decide +kernel, by decide +kernel, by decide +kernel⟩
theorem kmX8_led : kV RX8 yX8_led cX8_led 7 (some .long) 2 := ⟨kw1182, kw1183, kw16, kw1181, rfl, by decide +kernel, by decide +kernel, by decide +kernel⟩
theorem kmX9_led : kV RX9 yX9_led cX9_led 8 (some .long) 2 := ⟨kw1186, kw1187, kw492, kw1185, rfl, by decide +kernel, by decide +kernel, by decide +kernel⟩
theorem kmX8_sheet : kV RX8 yX8_sheet cX8_sheet 4 (some .int) 3 := ⟨kw1190, kw1191, kw16, kw1189, rfl, by decide +kernel, by decide +kernel, by decide +kernel⟩
theorem kmX9_sheet : kV RX9 yX9_sheet cX9_sheet 5 (some .int) 3 := ⟨kw1194, kw1195, kw492, kw1193, rfl, by decide +kernel, by decide +kernel, by decide +kernel⟩
theorem kmX8_lose : kV RX8 yX8_lose cX8_lose 2 (some .int) 1 := ⟨kw1198, kw1199, kw16, kw1197, rfl, by decide +kernel, by decide +kernel, by decide +kernel⟩
theorem kmX9_lose : kV RX9 yX9_lose cX9_lose 2 (some .int) 1 := ⟨kw1202, kw1203, kw492, kw1201, rfl, by decide +kernel, by decide +kernel, by decide +kernel⟩
theorem kmX8_put : kV RX8 yX8_put cX8_put 6 (some .int) 4 := ⟨kw1206, kw1207, kw16, kw1205, rfl, by decide +kernel, by decide +kernel, by decide +kernel⟩
theorem kmX9_put : kV RX9 yX9_put cX9_put 6 (some .int) 4 := ⟨kw1210, kw1211, kw492, kw1209, rfl, by decide +kernel, by decide +kernel, by decide +kernel⟩
theorem kmX8_get : kV RX8 yX8_get cX8_get 4 (some .int) 3 := ⟨kw1214, kw1215, kw16, kw1213, rfl, by decide +kernel, by decide +kernel, by decide +kernel⟩
theorem kmX9_get : kV RX9 yX9_get cX9_get 5 (some .int) 3 := ⟨kw1218, kw1219, kw492, kw1217, rfl, by decide +kernel, by decide +kernel, by decide +kernel⟩
theorem kmX8_copy : kV RX8 yX8_copy cX8_copy 8 (some .int) 5 := ⟨kw1222, kw1223, kw16, kw1221, rfl, by decide +kernel, by decide +kernel, by decide +kernel⟩
theorem kmX9_copy : kV RX9 yX9_copy cX9_copy 7 (some .int) 5 := ⟨kw1226, kw1227, kw492, kw1225, rfl, by decide +kernel, by decide +kernel, by decide +kernel⟩
theorem kmX8_read : kV RX8 yX8_read cX8_read 5 (some .int) 1 := ⟨kw1230, kw1231, kw16, kw1229, rfl, by decide +kernel, by decide +kernel, by decide +kernel⟩
theorem kmX9_read : kV RX9 yX9_read cX9_read 4 (some .int) 1 := ⟨kw1234, kw1235, kw492, kw1233, rfl, by decide +kernel, by decide +kernel, by decide +kernel⟩
theorem kmX8_write : kV RX8 yX8_write cX8_write 8 (some .int) 4 := ⟨kw1238, kw1239, kw16, kw1237, rfl, by decide +kernel, by decide +kernel, by decide +kernel⟩
theorem kmX9_write : kV RX9 yX9_write cX9_write 6 (some .int) 4 := ⟨kw1242, kw1243, kw492, kw1241, rfl, by decide +kernel, by decide +kernel, by decide +kernel⟩
theorem kmX8_digest : kV RX8 yX8_digest cX8_digest 5 (some .long) 0 := ⟨kw1248, kw1249, kw16, kw1247, rfl, by decide +kernel, by decide +kernel, by decide +kernel⟩
theorem kmX9_digest : kV RX9 yX9_digest cX9_digest 7 (some .long) 0 := ⟨kw1252, kw1253, kw492, kw1251, rfl, by decide +kernel, by decide +kernel, by decide +kernel⟩

/-! ===== the law: both objects in one world ===== -/
def LX (p : Program) (s : State) (m : MethodId) (meth : Method) (c : Code) (b L : Nat) (xs : Nat → Int32) (D : va_G) (g : Nat → ClassId) (aC aR : Nat → Nat) : Prop :=
  lw_At p s m meth c b L xs ∧ CK D g s ∧ RK D g s ∧ CJ aC ∧ RJ aR ∧ (∀ i j, i < 62 → j < 31 → aC i ≠ aR j) ∧ (∀ i, i < 62 → s.heap.size ≤ aC i) ∧ (∀ j, j < 31 → s.heap.size ≤ aR j)
def LW (D : va_G) (g : Nat → ClassId) (aC aR : Nat → Nat) (s : State) (u v : Mm) (H : Heap) (locs : List Loc) : Prop :=
  va_P D vwCl (CW g aC u) H ∧ va_P D vwCl (RW g aR v) H ∧ va_S (fun q => s.heap.size ≤ q) s.heap H locs
theorem gt_sub {w : Cond} (h : w ∈ gt) : w ∈ lw_tbl := (List.mem_filter.mp h).1
theorem L_good {own : String} {index : Nat} {y : MethodName} {C : String} {bytes : ByteArray} {maxL n : Nat} {ret' : Option FieldType} (hm : Cond.methodLink own index y ∈ gt) (hk : kV C y bytes maxL ret' n) : GoodIn lw_tbl (wsV own index C y (Cond.code y bytes maxL ret' :: gt)) := by
  obtain ⟨k1, k2, k3, k4, k5⟩ := hk
  intro w hw
  rcases List.mem_append.mp hw with h | h
  · simp only [List.mem_cons, List.mem_nil_iff, or_false] at h
    rcases h with rfl | rfl | rfl | rfl
    · exact ⟨gt_sub hm, gt_good hm⟩
    · exact ⟨gt_sub k1, gt_good k1⟩
    · exact ⟨gt_sub k2, gt_good k2⟩
    · exact ⟨gt_sub k3, gt_good k3⟩
  · rcases List.mem_cons.mp h with rfl | h
    · exact ⟨gt_sub k4, gt_good k4⟩
    · exact ⟨gt_sub h, gt_good h⟩
section Lrows
variable {p : Program} {l : Launch} {e : Env} {s : State} {m : MethodId} {below : List Frame} {meth : Method} {c : Code} {H : Heap} {locs : List Loc} {Q : State → Prop} {b L : Nat} {xs : Nat → Int32} {D : va_G} {g : Nat → ClassId} {aC aR : Nat → Nat} {u v : Mm} {pc : Nat} {ls : Array Slot} {rest st : List Value}

theorem LrunC (X : LX p s m meth c b L xs D g aC aR) (w : LW D g aC aR s u v H locs) {y : MethodName} {bytes : ByteArray} {maxL n index : Nat} {ret' : Option FieldType} {rm : Room} {Qc : Array Value → State → Outcome → State → Prop} {As : List Value}
    (hM : Met l y (Cond.code y bytes maxL ret' :: gt) rm (CPc D g aC u (.ref (aC 0) :: As)) Qc 0 0 (CA aC)) (hm : Cond.methodLink RL index y ∈ gt) (hk : kV RX8 y bytes maxL ret' n) (hrc : rm.cells = 0 ∧ rm.slots = 0) (hR : rm.frames + 1 ≤ room_1.frames ∧ 8 + (maxL + 11) + rm.locals ≤ room_1.locals)
    (hn : As.length = n) (hsz : ls.size = 4) (hst : st = As.reverse ++ .ref (aC 0) :: rest) (hW : (rest.map fun v => v.category).sum ≤ 8) (hdg : decode code pc = .ok (.invokevirtual index, 3)) :
    va_Run p l e room_1 s m #[Value.ref b] below meth c H locs 600000 7302250 0 0 (F0 m pc ls st) rest (Qc (Value.ref (aC 0) :: As).toArray) (CA aC) := by
  obtain ⟨⟨hx, hb, hr, hml, hown, hts, hX, hbl, hlocks, hgv⟩, hKC, hKR, hJC, hJR, hdis, hnC, hnR⟩ := X
  have hk5 := hk.2.2.2.2
  exact va_runV ⟨hx, hb, hml, hown, hts⟩ hM (cwV n hts (L_good hm hk) rfl hrc.1 hrc.2 hk5 hR) ⟨Cblind D g aC u _, va_recv hKC.1 w.1 (ci := 8) (q0 := 0) rfl rfl, fun U hU hW => ⟨rfl, by rw [hU]; exact w.1, CK_warm hW hKC⟩⟩ rfl hn hsz hst (lv_room hW) hdg ⟨Nat.le_refl _, Nat.le_refl _⟩

theorem LrunR (X : LX p s m meth c b L xs D g aC aR) (w : LW D g aC aR s u v H locs) {y : MethodName} {bytes : ByteArray} {maxL n index : Nat} {ret' : Option FieldType} {rm : Room} {Qc : Array Value → State → Outcome → State → Prop} {As : List Value}
    (hM : Met l y (Cond.code y bytes maxL ret' :: gt) rm (RPc D g aR v (.ref (aR 0) :: As)) Qc 0 0 (RA aR)) (hm : Cond.methodLink RL index y ∈ gt) (hk : kV RX9 y bytes maxL ret' n) (hrc : rm.cells = 0 ∧ rm.slots = 0) (hR : rm.frames + 1 ≤ room_1.frames ∧ 8 + (maxL + 11) + rm.locals ≤ room_1.locals)
    (hn : As.length = n) (hsz : ls.size = 4) (hst : st = As.reverse ++ .ref (aR 0) :: rest) (hW : (rest.map fun v => v.category).sum ≤ 8) (hdg : decode code pc = .ok (.invokevirtual index, 3)) :
    va_Run p l e room_1 s m #[Value.ref b] below meth c H locs 600000 7302250 0 0 (F0 m pc ls st) rest (Qc (Value.ref (aR 0) :: As).toArray) (RA aR) := by
  obtain ⟨⟨hx, hb, hr, hml, hown, hts, hX, hbl, hlocks, hgv⟩, hKC, hKR, hJC, hJR, hdis, hnC, hnR⟩ := X
  have hk5 := hk.2.2.2.2
  exact va_runV ⟨hx, hb, hml, hown, hts⟩ hM (cwV n hts (L_good hm hk) rfl hrc.1 hrc.2 hk5 hR) ⟨Rblind D g aR v _, va_recv hKR.1 w.2.1 (ci := 9) (q0 := 0) rfl rfl, fun U hU hW => ⟨rfl, by rw [hU]; exact w.2.1, RK_warm hW hKR⟩⟩ rfl hn hsz hst (lv_room hW) hdg ⟨Nat.le_refl _, Nat.le_refl _⟩

theorem LcallCi {post : Int32 → Mm → Prop} {a : Array Value} (X : LX p s m meth c b L xs D g aC aR) (w : LW D g aC aR s u v H locs) (hr : va_Run p l e room_1 s m #[Value.ref b] below meth c H locs 600000 7302250 0 0 (F0 m pc ls st) rest (va_Qi post (CB D g aC) (CA aC) a) (CA aC))
    (kk : ∀ (r : Int32) (n1 : Mm) (H1 : Heap) (locs1 : List Loc), post r n1 → LW D g aC aR s n1 v H1 locs1 → W p l e room_1 s m #[Value.ref b] below meth c H1 locs1 600000 7302250 Q (F0 m (pc + 3) ls (.int r :: rest))) : W p l e room_1 s m #[Value.ref b] below meth c H locs 600000 7302250 Q (F0 m pc ls st) := by
  obtain ⟨-, -, -, -, -, hdis, hnC, hnR⟩ := X
  have hA0 : ∀ q, CA aC q → s.heap.size ≤ q := by rintro q ⟨k, hk, rfl⟩; exact hnC k hk
  refine va_calli hr w.2.2 (fun q _ h => hA0 q h) hA0 (fun r n1 t H1 locs1 ht _ hp hB _ hk hS => ?_)
  have hB1 : va_P D vwCl (CW g aC n1) H1 := by rw [← ht]; exact hB
  have hkept := (show va_P D vwCl (RW g aR v) H1 from by
    refine va_P.kept w.2.1 (fun k q hq => ?_)
    obtain ⟨z1, z2⟩ := RW_at hq
    exact hk q.1 (w.2.1 k q hq).lt (by rintro ⟨j, hj, e9⟩; exact hdis j k hj z1 (by rw [← e9, z2])))
  exact kk r n1 H1 locs1 hp ⟨hB1, hkept, hS⟩

theorem LcallCl {post : Int64 → Mm → Prop} {a : Array Value} (X : LX p s m meth c b L xs D g aC aR) (w : LW D g aC aR s u v H locs) (hr : va_Run p l e room_1 s m #[Value.ref b] below meth c H locs 600000 7302250 0 0 (F0 m pc ls st) rest (va_Ql post (CB D g aC) (CA aC) a) (CA aC))
    (kk : ∀ (r : Int64) (n1 : Mm) (H1 : Heap) (locs1 : List Loc), post r n1 → LW D g aC aR s n1 v H1 locs1 → W p l e room_1 s m #[Value.ref b] below meth c H1 locs1 600000 7302250 Q (F0 m (pc + 3) ls (.long r :: rest))) : W p l e room_1 s m #[Value.ref b] below meth c H locs 600000 7302250 Q (F0 m pc ls st) := by
  obtain ⟨-, -, -, -, -, hdis, hnC, hnR⟩ := X
  have hA0 : ∀ q, CA aC q → s.heap.size ≤ q := by rintro q ⟨k, hk, rfl⟩; exact hnC k hk
  refine va_calll hr w.2.2 (fun q _ h => hA0 q h) hA0 (fun r n1 t H1 locs1 ht _ hp hB _ hk hS => ?_)
  have hB1 : va_P D vwCl (CW g aC n1) H1 := by rw [← ht]; exact hB
  have hkept := (show va_P D vwCl (RW g aR v) H1 from by
    refine va_P.kept w.2.1 (fun k q hq => ?_)
    obtain ⟨z1, z2⟩ := RW_at hq
    exact hk q.1 (w.2.1 k q hq).lt (by rintro ⟨j, hj, e9⟩; exact hdis j k hj z1 (by rw [← e9, z2])))
  exact kk r n1 H1 locs1 hp ⟨hB1, hkept, hS⟩

theorem LcallRi {post : Int32 → Mm → Prop} {a : Array Value} (X : LX p s m meth c b L xs D g aC aR) (w : LW D g aC aR s u v H locs) (hr : va_Run p l e room_1 s m #[Value.ref b] below meth c H locs 600000 7302250 0 0 (F0 m pc ls st) rest (va_Qi post (RB D g aR) (RA aR) a) (RA aR))
    (kk : ∀ (r : Int32) (n1 : Mm) (H1 : Heap) (locs1 : List Loc), post r n1 → LW D g aC aR s u n1 H1 locs1 → W p l e room_1 s m #[Value.ref b] below meth c H1 locs1 600000 7302250 Q (F0 m (pc + 3) ls (.int r :: rest))) : W p l e room_1 s m #[Value.ref b] below meth c H locs 600000 7302250 Q (F0 m pc ls st) := by
  obtain ⟨-, -, -, -, -, hdis, hnC, hnR⟩ := X
  have hA0 : ∀ q, RA aR q → s.heap.size ≤ q := by rintro q ⟨k, hk, rfl⟩; exact hnR k hk
  refine va_calli hr w.2.2 (fun q _ h => hA0 q h) hA0 (fun r n1 t H1 locs1 ht _ hp hB _ hk hS => ?_)
  have hB1 : va_P D vwCl (RW g aR n1) H1 := by rw [← ht]; exact hB
  have hkept := (show va_P D vwCl (CW g aC u) H1 from by
    refine va_P.kept w.1 (fun k q hq => ?_)
    obtain ⟨z1, z2⟩ := CW_at hq
    exact hk q.1 (w.1 k q hq).lt (by rintro ⟨j, hj, e9⟩; exact hdis k j z1 hj (by rw [← z2, e9])))
  exact kk r n1 H1 locs1 hp ⟨hkept, hB1, hS⟩

theorem LcallRl {post : Int64 → Mm → Prop} {a : Array Value} (X : LX p s m meth c b L xs D g aC aR) (w : LW D g aC aR s u v H locs) (hr : va_Run p l e room_1 s m #[Value.ref b] below meth c H locs 600000 7302250 0 0 (F0 m pc ls st) rest (va_Ql post (RB D g aR) (RA aR) a) (RA aR))
    (kk : ∀ (r : Int64) (n1 : Mm) (H1 : Heap) (locs1 : List Loc), post r n1 → LW D g aC aR s u n1 H1 locs1 → W p l e room_1 s m #[Value.ref b] below meth c H1 locs1 600000 7302250 Q (F0 m (pc + 3) ls (.long r :: rest))) : W p l e room_1 s m #[Value.ref b] below meth c H locs 600000 7302250 Q (F0 m pc ls st) := by
  obtain ⟨-, -, -, -, -, hdis, hnC, hnR⟩ := X
  have hA0 : ∀ q, RA aR q → s.heap.size ≤ q := by rintro q ⟨k, hk, rfl⟩; exact hnR k hk
  refine va_calll hr w.2.2 (fun q _ h => hA0 q h) hA0 (fun r n1 t H1 locs1 ht _ hp hB _ hk hS => ?_)
  have hB1 : va_P D vwCl (RW g aR n1) H1 := by rw [← ht]; exact hB
  have hkept := (show va_P D vwCl (CW g aC u) H1 from by
    refine va_P.kept w.1 (fun k q hq => ?_)
    obtain ⟨z1, z2⟩ := CW_at hq
    exact hk q.1 (w.1 k q hq).lt (by rintro ⟨j, hj, e9⟩; exact hdis k j z1 hj (by rw [← z2, e9])))
  exact kk r n1 H1 locs1 hp ⟨hkept, hB1, hS⟩
end Lrows
