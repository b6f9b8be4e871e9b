/-! ===== numbers and checks ===== -/
theorem ix_of {a : Int32} (N : Nat) (h : 0 ≤ a.toInt ∧ a.toInt < (N : Int)) (hN : N ≤ 2147483648 := by decide) : ∃ j : Nat, j < N ∧ a = nI j := by
  refine ⟨a.toInt.toNat, by omega, ?_⟩
  rw [← Int32.toInt_inj, nI_toInt (by omega)]
  omega
theorem ix_in {j N : Nat} (h : j < N) (hN : N ≤ 2147483648 := by decide) : 0 ≤ (nI j).toInt ∧ (nI j).toInt < (N : Int) := by
  rw [nI_toInt (by omega)]; omega
theorem i64_T (a : Int32) : a.toInt64.toInt = a.toInt := Int32.toInt_toInt64 a
theorem within_w {v a b : Int32} {Q : Int32 → Prop} (h0 : ¬ (a.toInt ≤ v.toInt ∧ v.toInt ≤ b.toInt) → Q 0) (h1 : (a.toInt ≤ v.toInt ∧ v.toInt ≤ b.toInt) → Q 1) : wX8_within v a b Q := by
  unfold wX8_within
  simp only [Int32.lt_iff_toInt_lt]
  refine ⟨fun c => h0 (by omega), fun c => ⟨fun d => h0 (by omega), fun d => h1 (by omega)⟩⟩
theorem below_w {v b : Int32} {Q : Int32 → Prop} (h0 : ¬ (0 ≤ v.toInt ∧ v.toInt < b.toInt) → Q 0) (h1 : (0 ≤ v.toInt ∧ v.toInt < b.toInt) → Q 1) : wX8_below v b Q := by
  unfold wX8_below
  have z : (0 : Int32).toInt = 0 := rfl
  simp only [Int32.lt_iff_toInt_lt, Int32.le_iff_toInt_le, z]
  refine ⟨fun c => h0 (by omega), fun c => ⟨fun d => h0 (by omega), fun d => h1 (by omega)⟩⟩
theorem in_w {v : Int32} {a b : Int64} {Q : Int32 → Prop} (h0 : ¬ (a.toInt ≤ v.toInt ∧ v.toInt ≤ b.toInt) → Q 0) (h1 : (a.toInt ≤ v.toInt ∧ v.toInt ≤ b.toInt) → Q 1) : wX9_in v.toInt64 a b Q := by
  unfold wX9_in
  simp only [Int64.lt_iff_toInt_lt, i64_T]
  refine ⟨fun c => h0 (by omega), fun c => ⟨fun d => h0 (by omega), fun d => h1 (by omega)⟩⟩
/-- a check's answer, tested -/
theorem br0 {A B : Prop} (h : A) : ((0 : Int32) = 0 → A) ∧ (¬ (0 : Int32) = 0 → B) := ⟨fun _ => h, fun c => absurd rfl c⟩
theorem br1 {A B : Prop} (h : B) : ((1 : Int32) = 0 → A) ∧ (¬ (1 : Int32) = 0 → B) := ⟨fun c => absurd c (by decide), fun _ => h⟩
theorem below_b (N : Int) {v b : Int32} {A B : Prop} (h0 : ¬ (0 ≤ v.toInt ∧ v.toInt < N) → A) (h1 : (0 ≤ v.toInt ∧ v.toInt < N) → B) (hb : b.toInt = N := by decide) : wX8_below v b (fun r => (r = 0 → A) ∧ (¬ r = 0 → B)) := by
  subst hb; exact below_w (fun c => br0 (h0 c)) (fun c => br1 (h1 c))
theorem within_b (M N : Int) {v a b : Int32} {A B : Prop} (h0 : ¬ (M ≤ v.toInt ∧ v.toInt ≤ N) → A) (h1 : (M ≤ v.toInt ∧ v.toInt ≤ N) → B) (ha : a.toInt = M := by decide) (hb : b.toInt = N := by decide) : wX8_within v a b (fun r => (r = 0 → A) ∧ (¬ r = 0 → B)) := by
  subst ha hb; exact within_w (fun c => br0 (h0 c)) (fun c => br1 (h1 c))
theorem in_b (M N : Int) {v : Int32} {a b : Int64} {A B : Prop} (h0 : ¬ (M ≤ v.toInt ∧ v.toInt ≤ N) → A) (h1 : (M ≤ v.toInt ∧ v.toInt ≤ N) → B) (ha : a.toInt = M := by decide) (hb : b.toInt = N := by decide) : wX9_in v.toInt64 a b (fun r => (r = 0 → A) ∧ (¬ r = 0 → B)) := by
  subst ha hb; exact in_w (fun c => br0 (h0 c)) (fun c => br1 (h1 c))
theorem isGrade_b {v : Int32} {A B : Prop} (h0 : ¬ (1 ≤ v.toInt ∧ v.toInt ≤ 9) → A) (h1 : (1 ≤ v.toInt ∧ v.toInt ≤ 9) → B) : wX8_isGrade v (fun r => (r = 0 → A) ∧ (¬ r = 0 → B)) := by
  unfold wX8_isGrade; exact within_b 1 9 h0 h1
abbrev okL (a b c : Int32) : Prop := (0 ≤ a.toInt ∧ a.toInt < 2) ∧ (0 ≤ b.toInt ∧ b.toInt < 4) ∧ (0 ≤ c.toInt ∧ c.toInt < 6)
theorem isLine_b {a b c : Int32} {A B : Prop} (h0 : ¬ okL a b c → A) (h1 : okL a b c → B) : wX8_isLine a b c (fun r => (r = 0 → A) ∧ (¬ r = 0 → B)) := by
  unfold wX8_isLine
  refine below_b 2 (fun n => br0 (h0 (fun z => n z.1))) (fun p => below_b 4 (fun n => br0 (h0 (fun z => n z.2.1))) (fun q => below_b 6 (fun n => br0 (h0 (fun z => n z.2.2))) (fun r => br1 (h1 ⟨p, q, r⟩))))
abbrev okP (a b c : Int32) : Prop := (0 ≤ a.toInt ∧ a.toInt < 2) ∧ (0 ≤ b.toInt ∧ b.toInt < 4) ∧ (0 ≤ c.toInt ∧ c.toInt < 12)
theorem isBalance_b {a b c : Int32} {A B : Prop} (h0 : ¬ okP a b c → A) (h1 : okP a b c → B) : wX8_isBalance a b c (fun r => (r = 0 → A) ∧ (¬ r = 0 → B)) := by
  unfold wX8_isBalance
  refine below_b 2 (fun n => br0 (h0 (fun z => n z.1))) (fun p => below_b 4 (fun n => br0 (h0 (fun z => n z.2.1))) (fun q => below_b 12 (fun n => br0 (h0 (fun z => n z.2.2))) (fun r => br1 (h1 ⟨p, q, r⟩))))
theorem areThere_b {a b c : Int32} {A B : Prop} (h0 : ¬ okL a b c → A) (h1 : okL a b c → B) : wX9_areThere a b c (fun r => (r = 0 → A) ∧ (¬ r = 0 → B)) := by
  unfold wX9_areThere
  refine in_b 0 1 (fun n => br0 (h0 (fun z => n (by omega)))) (fun p => in_b 0 3 (fun n => br0 (h0 (fun z => n (by omega)))) (fun q => in_b 0 5 (fun n => br0 (h0 (fun z => n (by omega)))) (fun r => br1 (h1 (by omega)))))
theorem isPlace_b {a b c : Int32} {A B : Prop} (h0 : ¬ okP a b c → A) (h1 : okP a b c → B) : wX9_isPlace a b c (fun r => (r = 0 → A) ∧ (¬ r = 0 → B)) := by
  unfold wX9_isPlace
  refine in_b 0 1 (fun n => br0 (h0 (fun z => n (by omega)))) (fun p => in_b 0 3 (fun n => br0 (h0 (fun z => n (by omega)))) (fun q => in_b 0 11 (fun n => br0 (h0 (fun z => n (by omega)))) (fun r => br1 (h1 (by omega)))))
abbrev okS (a b : Int32) : Prop := (-1 ≤ a.toInt ∧ a.toInt ≤ 3) ∧ (0 ≤ b.toInt ∧ b.toInt < 6)
theorem isSeries_b {a b : Int32} {A B : Prop} (h0 : ¬ okS a b → A) (h1 : okS a b → B) : wX8_isSeries a b (fun r => (r = 0 → A) ∧ (¬ r = 0 → B)) := by
  unfold wX8_isSeries
  refine within_b (-1) 3 (fun n => br0 (h0 (fun z => n z.1))) (fun p => below_b 6 (fun n => br0 (h0 (fun z => n z.2))) (fun q => br1 (h1 ⟨p, q⟩)))
abbrev okA (a b : Int32) : Prop := (0 ≤ a.toInt ∧ a.toInt < 6) ∧ (0 ≤ b.toInt ∧ b.toInt < 12)
theorem isAccount_b {a b : Int32} {A B : Prop} (h0 : ¬ okA a b → A) (h1 : okA a b → B) : wX8_isAccount a b (fun r => (r = 0 → A) ∧ (¬ r = 0 → B)) := by
  unfold wX8_isAccount
  refine below_b 6 (fun n => br0 (h0 (fun z => n z.1))) (fun p => below_b 12 (fun n => br0 (h0 (fun z => n z.2))) (fun q => br1 (h1 ⟨p, q⟩)))
theorem isCode_b {a : Int32} {A B : Prop} (h0 : ¬ (0 ≤ a.toInt ∧ a.toInt < 720) → A) (h1 : (0 ≤ a.toInt ∧ a.toInt < 720) → B) : wX9_isCode a (fun r => (r = 0 → A) ∧ (¬ r = 0 → B)) := by
  unfold wX9_isCode; exact in_b 0 719 (fun n => h0 (by omega)) (fun p => h1 (by omega))
theorem isCell_b {a : Int32} {A B : Prop} (h0 : ¬ (0 ≤ a.toInt ∧ a.toInt < 576) → A) (h1 : (0 ≤ a.toInt ∧ a.toInt < 576) → B) : wX9_isCell a (fun r => (r = 0 → A) ∧ (¬ r = 0 → B)) := by
  unfold wX9_isCell; exact in_b 0 575 (fun n => h0 (by omega)) (fun p => h1 (by omega))
theorem isSector_b {a : Int32} {A B : Prop} (h0 : ¬ (0 ≤ a.toInt ∧ a.toInt < 6) → A) (h1 : (0 ≤ a.toInt ∧ a.toInt < 6) → B) : wX9_isSector a (fun r => (r = 0 → A) ∧ (¬ r = 0 → B)) := by
  unfold wX9_isSector; exact in_b 0 5 (fun n => h0 (by omega)) (fun p => h1 (by omega))
theorem isQuarter_b {a : Int32} {A B : Prop} (h0 : ¬ (0 ≤ a.toInt ∧ a.toInt < 12) → A) (h1 : (0 ≤ a.toInt ∧ a.toInt < 12) → B) : wX9_isQuarter a (fun r => (r = 0 → A) ∧ (¬ r = 0 → B)) := by
  unfold wX9_isQuarter; exact in_b 0 11 (fun n => h0 (by omega)) (fun p => h1 (by omega))
theorem isLaw_b {a : Int32} {A B : Prop} (h0 : ¬ (0 ≤ a.toInt ∧ a.toInt < 4) → A) (h1 : (0 ≤ a.toInt ∧ a.toInt < 4) → B) : wX9_isLaw a (fun r => (r = 0 → A) ∧ (¬ r = 0 → B)) := by
  unfold wX9_isLaw; exact in_b 0 3 (fun n => h0 (by omega)) (fun p => h1 (by omega))
theorem isSheet_b {a : Int32} {A B : Prop} (h0 : ¬ (0 ≤ a.toInt ∧ a.toInt < 4) → A) (h1 : (0 ≤ a.toInt ∧ a.toInt < 4) → B) : wX9_isSheet a (fun r => (r = 0 → A) ∧ (¬ r = 0 → B)) := by
  unfold wX9_isSheet; exact in_b 0 3 (fun n => h0 (by omega)) (fun p => h1 (by omega))
/-! memory -/
theorem s32_k (u : Mm) (k i : Nat) (x : Int32) : (s32 u k i x).1 k = upd (u.1 k) i x := by unfold s32; simp
theorem s32_n (u : Mm) {k q : Nat} (i : Nat) (x : Int32) (h : q ≠ k) : (s32 u k i x).1 q = u.1 q := by unfold s32; simp [h]
theorem s32_2 (u : Mm) (k i : Nat) (x : Int32) : (s32 u k i x).2 = u.2 := rfl
theorem s64_k (u : Mm) (k i : Nat) (x : Int64) : (s64 u k i x).2 k = vp_updL (u.2 k) i x := by unfold s64; simp
theorem s64_n (u : Mm) {k q : Nat} (i : Nat) (x : Int64) (h : q ≠ k) : (s64 u k i x).2 q = u.2 q := by unfold s64; simp [h]
theorem s64_1 (u : Mm) (k i : Nat) (x : Int64) : (s64 u k i x).1 = u.1 := rfl
theorem upd_s (f : Nat → Int32) (k : Nat) (x : Int32) : upd f k x k = x := by unfold upd; simp
theorem upd_n (f : Nat → Int32) {k j : Nat} (x : Int32) (h : j ≠ k) : upd f k x j = f j := by unfold upd; simp [h]
theorem updL_s (f : Nat → Int64) (k : Nat) (x : Int64) : vp_updL f k x k = x := by unfold vp_updL; simp
theorem updL_n (f : Nat → Int64) {k j : Nat} (x : Int64) (h : j ≠ k) : vp_updL f k x j = f j := by unfold vp_updL; simp [h]
/-- a counted loop: at i of N with fuel n -/
theorem loopF (Wl : Nat → Nat → Prop) (N : Nat) (he : ∀ n, Wl (n + 1) N) (hs : ∀ n i, i < N → Wl n (i + 1) → Wl (n + 1) i) (i : Nat) (hi : i ≤ N) : ∃ n, Wl n i := by
  have key : ∀ d i, i + d = N → Wl (d + 1) i := by
    intro d
    induction d with
    | zero => intro i h; obtain rfl : i = N := by omega
              exact he 0
    | succ d ih => intro i h; exact hs _ i (by omega) (ih (i + 1) (by omega))
  exact ⟨N - i + 1, key (N - i) i (by omega)⟩
/-- the same with a state that is not known beforehand -/
theorem loopS {S : Type} (Wl : Nat → Nat → S → Prop) (I : Nat → S → Prop) (N : Nat) (he : ∀ n s, I N s → Wl (n + 1) N s) (hs : ∀ n i s, i < N → I i s → (∀ s', I (i + 1) s' → Wl n (i + 1) s') → Wl (n + 1) i s) (i : Nat) (s : S) (hi : i ≤ N) (h0 : I i s) : ∃ n, Wl n i s := by
  have key : ∀ d i s, i + d = N → I i s → Wl (d + 1) i s := by
    intro d
    induction d with
    | zero => intro i s h h2; obtain rfl : i = N := by omega
              exact he 0 s h2
    | succ d ih => intro i s h h2; exact hs _ i s (by omega) h2 (fun s' h3 => ih (i + 1) s' (by omega) h3)
  exact ⟨N - i + 1, key (N - i) i s (by omega) h0⟩
