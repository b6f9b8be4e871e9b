/-! ===== the pure side: what both sides answer, over the reference's told numbers ===== -/
abbrev isRow (RS RC RL : Nat → Int32) (code src last upTo : Int32) (k : Nat) : Prop := RC k = code ∧ RS k = src ∧ (RL k < last ∨ (RL k = last ∧ src ≤ upTo))
/-- the row of a source that counts for a code, among the first k rows; -1: none -/
def bestR (RS RC RL : Nat → Int32) (code src last upTo : Int32) : Nat → Int32
  | 0 => -1
  | k + 1 => if isRow RS RC RL code src last upTo k ∧ (bestR RS RC RL code src last upTo k = -1 ∨ RL (bestR RS RC RL code src last upTo k).toNatClampNeg ≤ RL k) then nI k else bestR RS RC RL code src last upTo k
def wgtR (T RS RC RL : Nat → Int32) (n : Nat) (code last upTo : Int32) : Nat → Int32
  | 0 => 0
  | s + 1 => if bestR RS RC RL code (nI s) last upTo n = -1 then wgtR T RS RC RL n code last upTo s else wgtR T RS RC RL n code last upTo s + T s
def sumR (T RS RC RV RL : Nat → Int32) (n : Nat) (code last upTo : Int32) : Nat → Int64
  | 0 => 0
  | s + 1 => if bestR RS RC RL code (nI s) last upTo n = -1 then sumR T RS RC RV RL n code last upTo s else sumR T RS RC RV RL n code last upTo s + (T s).toInt64 * (RV (bestR RS RC RL code (nI s) last upTo n).toNatClampNeg).toInt64
def saidR (T RS RC RV RL : Nat → Int32) (n : Nat) (code last upTo : Int32) : Int64 :=
  if wgtR T RS RC RL n code last upTo 10 = 0 then 0 else (2 * sumR T RS RC RV RL n code last upTo 10 + (wgtR T RS RC RL n code last upTo 10).toInt64) / (2 * (wgtR T RS RC RL n code last upTo 10).toInt64)
def nrow (v : Mm) : Nat := (v.1 101 0).toNatClampNeg
def saidS (v : Mm) (c : Nat) : Int64 := saidR (v.1 1) (v.1 2) (v.1 3) (v.1 4) (v.1 5) (v.1 101 0).toNatClampNeg (nI c) (v.1 106 0) 9
def wgtS (v : Mm) (c : Nat) : Int32 := wgtR (v.1 1) (v.1 2) (v.1 3) (v.1 5) (v.1 101 0).toNatClampNeg (nI c) (v.1 106 0) 9 10
def cntS (v : Mm) (k : Nat) : Int32 := if bestR (v.1 2) (v.1 3) (v.1 5) (v.1 3 k) (v.1 2 k) (v.1 106 0) 9 (v.1 101 0).toNatClampNeg = nI k then 1 else 0
def sumL (f : Nat → Int64) : Nat → Int64
  | 0 => 0
  | k + 1 => sumL f k + f k
/-- v by y, rounded down -/
def flo (x y : Int64) : Int64 := if 0 ≤ jreml x y then x / y else x / y - 1
/-- the first place with the greatest number, up to k -/
def amax (r : Nat → Int64) : Nat → Nat
  | 0 => 0
  | k + 1 => if r (amax r k) < r (k + 1) then k + 1 else amax r k
def give (n : Nat) : Nat → (Nat → Int64) → (Nat → Int64) → Nat → Int64
  | 0, p, _ => p
  | t + 1, p, r => give n t (vp_updL p (amax r (n - 1)) (p (amax r (n - 1)) + 1)) (vp_updL r (amax r (n - 1)) (-1))
def part0 (whole : Int64) (sh : Nat → Int64) (n : Nat) : Nat → Int64 := fun k => flo (whole * sh k) (sumL sh n)
def rest0 (whole : Int64) (sh : Nat → Int64) (n : Nat) : Nat → Int64 := fun k => whole * sh k - part0 whole sh n k * sumL sh n
/-- parts of a whole by shares: rounded down, what is left by 1 to the greatest rests -/
def partsF (whole : Int64) (sh : Nat → Int64) (n : Nat) : Nat → Int64 := give n (whole - sumL (part0 whole sh n) n).toNatClampNeg (part0 whole sh n) (rest0 whole sh n)
/-- how many of the quarters ahead of q are not said -/
def unsB (w : Nat → Int32) : Nat → Nat
  | 0 => 0
  | q + 1 => if w q = 0 then unsB w q + 1 else unsB w q
/-- bent: four weights, four said values, the annual's weight and value -/
def bentF (w : Nat → Int32) (sd : Nat → Int64) (wa : Int32) (a : Int64) (q : Nat) : Int64 :=
  if wa = 0 then sd q
  else if unsB w 4 = 0 then partsF a (fun k => if sumL sd 4 = 0 then 1 else sd k) 4 q
  else if w q = 0 then partsF (a - sumL sd 4) (fun _ => 1) (unsB w 4) (unsB w q)
  else sd q
/-- bent value of a cell: ln its line (land, product, column), y the year, q the quarter in it -/
def bentS (v : Mm) (ln y q : Nat) : Int64 := bentF (fun k => if k < 4 then wgtS v (ln * 12 + 4 * y + k) else 0) (fun k => if k < 4 then saidS v (ln * 12 + 4 * y + k) else 0) (wgtS v (576 + ln * 3 + y)) (saidS v (576 + ln * 3 + y)) q
/-- the cheapest column that is not fixed; -1: none -/
def cheapF (fx : Nat → Int32) (co : Nat → Int32) : Nat → Int32
  | 0 => -1
  | k + 1 => if fx k = 0 ∧ (cheapF fx co k = -1 ∨ co k < co (cheapF fx co k).toNatClampNeg) then nI k else cheapF fx co k
def gapF (sp : Nat → Int32) (b : Nat → Int64) : Int64 := sumL (fun c => if sp c = 1 then b c else -b c) 6
def byF (ru : Int32) (fx co : Nat → Int32) (gap : Int64) (c : Nat) : Int64 :=
  if cheapF fx co 6 = -1 then 0
  else if ru = 1 then partsF gap (fun k => if fx k = 0 then 2520 / (co k).toInt64 else 0) 6 c
  else if nI c = cheapF fx co 6 then gap else 0
def amt (x : Int64) : Int64 := if 0 ≤ x then x else -x
def bentC (v : Mm) (lp y q : Nat) : Nat → Int64 := fun c => if c < 6 then bentS v (lp * 6 + c) y q else 0
def costC (v : Mm) (lp y q : Nat) : Nat → Int32 := fun c => if c < 6 then 1 + wgtS v ((lp * 6 + c) * 12 + 4 * y + q) + wgtS v (576 + (lp * 6 + c) * 3 + y) else 0
def fxC (v : Mm) (lp : Nat) : Nat → Int32 := fun k => if k < 6 then v.1 14 (lp * 6 + k) else 0
def gapS (v : Mm) (lp y q : Nat) : Int64 := gapF (v.1 9) (bentC v lp y q)
def byS (v : Mm) (lp y q c : Nat) : Int64 := byF (v.1 118 0) (fxC v lp) (costC v lp y q) (gapS v lp y q) c
def closS (v : Mm) (lp y q c : Nat) : Int64 := if v.1 9 c = 1 then bentC v lp y q c - byS v lp y q c else bentC v lp y q c + byS v lp y q c
def openS (v : Mm) (lp y q : Nat) : Int32 := if cheapF (fxC v lp) (costC v lp y q) 6 = -1 ∧ gapS v lp y q ≠ 0 then 1 else 0
def movdS (v : Mm) (lp y q : Nat) : Int64 := sumL (fun c => amt (byS v lp y q c)) 6
/-- the last row of a code among the first k -/
def lastR (RC : Nat → Int32) (c : Int32) : Nat → Int32
  | 0 => -1
  | k + 1 => if RC k = c then nI k else lastR RC c k
/-! ===== how the class's memory u and the reference's v stand to each other ===== -/
def rA (u v : Mm) : Prop := ∀ i, i < 10 → u.1 2 i = v.1 1 i ∧ 1 ≤ (v.1 1 i).toInt ∧ (v.1 1 i).toInt ≤ 9
def rB (u v : Mm) : Prop := u.1 124 0 = v.1 101 0 ∧ (v.1 101 0).toNatClampNeg ≤ 80 ∧ v.1 101 0 = nI (v.1 101 0).toNatClampNeg
def rC (u v : Mm) : Prop := ∀ k, k < (v.1 101 0).toNatClampNeg → u.1 3 k = v.1 2 k ∧ u.1 4 k = v.1 3 k ∧ u.1 5 k = v.1 4 k ∧ u.1 6 k = v.1 5 k ∧ (∃ s, s < 10 ∧ v.1 2 k = nI s) ∧ (∃ c, c < 720 ∧ v.1 3 k = nI c) ∧ (∃ x, x ≤ 100000 ∧ v.1 4 k = nI x) ∧ (∃ r, r < 10 ∧ v.1 5 k = nI r)
def rD (u v : Mm) : Prop := (∀ c, c < 720 → u.1 7 c = lastR (v.1 3) (nI c) (v.1 101 0).toNatClampNeg) ∧ ∀ k, k < (v.1 101 0).toNatClampNeg → u.1 8 k = lastR (v.1 3) (v.1 3 k) k
def rE (u v : Mm) : Prop := u.1 125 0 = v.1 106 0 ∧ ∃ r, r < 10 ∧ v.1 106 0 = nI r
def rF (u v : Mm) : Prop := ∀ c, c < 6 → u.1 15 c = v.1 9 c ∧ (v.1 9 c = 0 ∨ v.1 9 c = 1)
def rG (u v : Mm) : Prop := ∀ k, k < 48 → u.1 16 k = v.1 14 k ∧ (v.1 14 k = 0 ∨ v.1 14 k = 1)
def rH (u v : Mm) : Prop := u.1 270 0 = v.1 118 0 ∧ (v.1 118 0 = 0 ∨ v.1 118 0 = 1)
def rI (u v : Mm) : Prop := ∀ k, k < 48 → u.1 24 k = v.1 18 k ∧ 10 ≤ (v.1 18 k).toInt ∧ (v.1 18 k).toInt ≤ 1000
def rJ (u v : Mm) : Prop := ∀ k, k < 192 → u.1 30 k = v.1 19 k ∧ -1 ≤ (v.1 19 k).toInt ∧ (v.1 19 k).toInt ≤ 100000
def rK (u v : Mm) : Prop := ∀ k, k < 2 → u.1 31 k = v.1 20 k ∧ 1 ≤ (v.1 20 k).toInt ∧ (v.1 20 k).toInt ≤ 9
def rL (u v : Mm) : Prop := ∀ k, k < 432 → u.2 33 k = v.2 21 k
def rM (u v : Mm) : Prop := ∀ k, k < 72 → u.1 34 k = v.1 23 k ∧ u.1 35 k = v.1 22 k ∧ (v.1 22 k = 0 ∨ v.1 22 k = 1)
def lawOK (len : Int32) (tx : Nat → Int32) (n2 : Int32) (tt : Nat → Int32) (o : Nat) : Prop := len = n2 ∧ n2.toNatClampNeg ≤ 60 ∧ n2 = nI n2.toNatClampNeg ∧ ∀ i, i < n2.toNatClampNeg → tx i = tt (o + i) ∧ 0 ≤ (tt (o + i)).toInt ∧ (tt (o + i)).toInt ≤ 255
def rN (u v : Mm) : Prop := lawOK (u.1 693 0) (u.1 38) (v.1 24 0) (v.1 25) 0 ∧ lawOK (u.1 757 0) (u.1 42) (v.1 24 1) (v.1 25) 60 ∧ lawOK (u.1 821 0) (u.1 46) (v.1 24 2) (v.1 25) 120 ∧ lawOK (u.1 885 0) (u.1 50) (v.1 24 3) (v.1 25) 180
theorem rN_at {u v : Mm} (h : rN u v) {j : Nat} (hj : j < 4) : lawOK (u.1 (693 + 64 * j) 0) (u.1 (38 + 4 * j)) (v.1 24 j) (v.1 25) (60 * j) := by
  rcases (show j = 0 ∨ j = 1 ∨ j = 2 ∨ j = 3 by omega) with rfl | rfl | rfl | rfl
  · exact h.1
  · exact h.2.1
  · exact h.2.2.1
  · exact h.2.2.2
def shOK (lost form size : Int32) (it : Nat → Int32) (th fo si : Int32) (tt : Nat → Int32) (o : Nat) : Prop := ((lost = 0 ∧ th = 1) ∨ (lost = 1 ∧ th = 0)) ∧ form = fo ∧ (fo = 0 ∨ fo = 1 ∨ fo = 2) ∧ size = si ∧ si.toNatClampNeg ≤ 60 ∧ si = nI si.toNatClampNeg ∧ ∀ i, i < 60 → it i = tt (o + i)
def rO (u v : Mm) : Prop := shOK (u.1 967 0) (u.1 965 0) (u.1 966 0) (u.1 55) (v.1 26 0) (v.1 27 0) (v.1 28 0) (v.1 29) 0 ∧ shOK (u.1 999 0) (u.1 997 0) (u.1 998 0) (u.1 57) (v.1 26 1) (v.1 27 1) (v.1 28 1) (v.1 29) 60 ∧ shOK (u.1 1031 0) (u.1 1029 0) (u.1 1030 0) (u.1 59) (v.1 26 2) (v.1 27 2) (v.1 28 2) (v.1 29) 120 ∧ shOK (u.1 1063 0) (u.1 1061 0) (u.1 1062 0) (u.1 61) (v.1 26 3) (v.1 27 3) (v.1 28 3) (v.1 29) 180
theorem rO_at {u v : Mm} (h : rO u v) {j : Nat} (hj : j < 4) : shOK (u.1 (967 + 32 * j) 0) (u.1 (965 + 32 * j) 0) (u.1 (966 + 32 * j) 0) (u.1 (55 + 2 * j)) (v.1 26 j) (v.1 27 j) (v.1 28 j) (v.1 29) (60 * j) := by
  rcases (show j = 0 ∨ j = 1 ∨ j = 2 ∨ j = 3 by omega) with rfl | rfl | rfl | rfl
  · exact h.1
  · exact h.2.1
  · exact h.2.2.1
  · exact h.2.2.2
def rP (u v : Mm) : Prop := u.1 107 0 = v.1 142 0
def blkOK (u v : Mm) (lp y : Nat) : Prop := ∀ c, c < 6 → ((u.1 18 (576 + (lp * 6 + c) * 3 + y)).toInt64 = saidS v (576 + (lp * 6 + c) * 3 + y) ∧ u.1 19 (576 + (lp * 6 + c) * 3 + y) = wgtS v (576 + (lp * 6 + c) * 3 + y)) ∧ ∀ q, q < 4 → (u.1 18 ((lp * 6 + c) * 12 + 4 * y + q)).toInt64 = saidS v ((lp * 6 + c) * 12 + 4 * y + q) ∧ u.1 19 ((lp * 6 + c) * 12 + 4 * y + q) = wgtS v ((lp * 6 + c) * 12 + 4 * y + q) ∧ u.2 21 ((lp * 6 + c) * 12 + 4 * y + q) = bentS v (lp * 6 + c) y q ∧ u.2 22 ((lp * 6 + c) * 12 + 4 * y + q) = closS v lp y q c
def rQ (u v : Mm) : Prop := ∀ lp y, lp < 8 → y < 3 → ¬ u.1 17 (lp * 3 + y) = 0 → blkOK u v lp y
def rR1 (v : Mm) : Prop := (∀ c, c < 720 → v.2 7 c = saidS v c ∧ v.1 8 c = wgtS v c) ∧ (∀ k, k < (v.1 101 0).toNatClampNeg → v.1 6 k = cntS v k) ∧ (∀ lp c y q, lp < 8 → c < 6 → y < 3 → q < 4 → v.2 13 ((lp * 6 + c) * 12 + 4 * y + q) = bentS v (lp * 6 + c) y q ∧ v.2 15 ((lp * 6 + c) * 12 + 4 * y + q) = closS v lp y q c) ∧ ∀ lp y q, lp < 8 → y < 3 → q < 4 → v.2 16 (lp * 12 + 4 * y + q) = movdS v lp y q ∧ v.1 17 (lp * 12 + 4 * y + q) = openS v lp y q
def rR (v : Mm) : Prop := ¬ v.1 107 0 = 0 → rR1 v
def Rel (u v : Mm) : Prop := rA u v ∧ rB u v ∧ rC u v ∧ rD u v ∧ rE u v ∧ rF u v ∧ rG u v ∧ rH u v ∧ rI u v ∧ rJ u v ∧ rK u v ∧ rL u v ∧ rM u v ∧ rN u v ∧ rO u v ∧ rP u v ∧ rQ u v ∧ rR v
