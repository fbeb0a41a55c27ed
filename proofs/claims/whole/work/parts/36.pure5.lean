/-! PURE: which call throws, on both sides -/
theorem c_price (a b : Int32) : mPriceOk a b = jPriceOk a b := by
  simp only [mPriceOk, mIn, jPriceOk, Bool.and_assoc]
  by_cases h : b ≤ 20
  · simp [h, Int32.not_lt.mpr h]
  · simp [h, Int32.not_le.mp h]
theorem c_le (y c d : Int32) : mIn y c d = (!(decide (y < c)) && decide (y ≤ d)) := by
  simp only [mIn]
  by_cases h : y ≤ d
  · simp [h, Int32.not_lt.mpr h]
  · simp [h, Int32.not_le.mp h]
theorem c_stake (y : Int32) : mIn y 1 9999 = jStakeOk y := c_le y 1 9999
theorem c_two (y : Int32) : mIn y 0 1 = jTwoOk y := c_le y 0 1
theorem c_code (y : Int32) : mIn y 33 126 = jCodeOk y := c_le y 33 126
theorem c_prop (y : Int32) {n : Nat} (hn : n + 1 < 2 ^ 31) : mIn y 0 (nI n) = jPropOk y (nI (n + 1)) := by
  rw [c_le, jPropOk]
  have h : (y ≤ nI n) ↔ (y < nI (n + 1)) := by
    rw [Int32.le_iff_toInt_le, Int32.lt_iff_toInt_lt, nI_toInt hn, nI_toInt (by omega)]
    omega
  simp only [h]
theorem c_cnt {x : Int32} {n : Nat} (hx : x = nI n) (hn : n ≤ 30) (h : Int32) : mIn h 0 (x - 1) = tHas (nI n) h := by
  subst hx
  rcases pk_ix h (n := n) (by omega) with q | q | ⟨j, hj, rfl⟩
  · simp [mIn, tHas, q]
  · have e2 : mIn h 0 (nI n - 1) = false := by
      cases z : mIn h 0 (nI n - 1) with
      | false => rfl
      | true =>
        obtain ⟨e, l⟩ := vN_cnt rfl hn z
        rw [e] at q
        exact absurd q (nI_ge l (by omega))
    rw [e2]; simp [tHas, q]
  · have h1 : ¬ nI j < 0 := nI_pos (by omega)
    have h2 : ¬ nI n ≤ nI j := nI_ge hj (by omega)
    have h3 : ¬ nI n - 1 < nI j := by
      rw [show (1 : Int32) = nI 1 from rfl, pk_sub (by omega)]; exact nI_nlt (by omega) (by omega)
    simp [mIn, tHas, h1, h2, h3]
theorem c_full (C len n : Nat) (hC : n * C + C < 2 ^ 31) (hl : len < 2 ^ 31) : tFull len (nI C) (nI n) = decide (len < (n + 1) * C) := by
  have hs : (n + 1) * C = n * C + C := Nat.succ_mul n C
  rw [tFull, nI_1, pk_mul]
  by_cases q : (n + 1) * C ≤ len
  · rw [decide_eq_true (nI_le q hl), decide_eq_false (by omega)]; rfl
  · rw [decide_eq_false (nI_ge (by omega) (by omega)), decide_eq_true (by omega)]; rfl
theorem c_ge {x : Int32} {n k : Nat} (hx : x = nI n) (hn : n < 2 ^ 31) (hk : k < 2 ^ 31) : decide (nI k ≤ x) = decide (k ≤ n) := by
  subst hx
  by_cases q : k ≤ n
  · rw [decide_eq_true (nI_le q hn), decide_eq_true q]
  · rw [decide_eq_false (nI_ge (by omega) hk), decide_eq_false q]
section CODE
variable {f : Nat → Int32} {v : BV}
theorem c_open (R : Rel f v) : mOpen f = !(bvS v) := by
  rw [mOpen, R.se]; cases bvS v <;> decide
theorem c_isH (O : Ok v) (R : Rel f v) (h : Int32) : mIsH f h = tHas (nI (bnH v)) h := c_cnt R.n0 (by have := O.nH; omega) h
theorem c_fH (O : Ok v) (R : Rel f v) : decide ((10 : Int32) ≤ f 0) = tFull 90 9 (nI (bnH v)) := by
  have := O.nH
  rw [show (10 : Int32) = nI 10 from rfl, c_ge R.n0 (by omega) (by decide), show (9 : Int32) = nI 9 from rfl, c_full 9 90 _ (by omega) (by decide)]
  apply decide_eq_decide.mpr; omega
theorem c_fB (O : Ok v) (R : Rel f v) : decide ((24 : Int32) ≤ f 1) = tFull 192 8 (nI (bnB v)) := by
  have := O.nB
  rw [show (24 : Int32) = nI 24 from rfl, c_ge R.n1 (by omega) (by decide), show (8 : Int32) = nI 8 from rfl, c_full 8 192 _ (by omega) (by decide)]
  apply decide_eq_decide.mpr; omega
theorem c_fL (O : Ok v) (R : Rel f v) : decide ((6 : Int32) ≤ f 2) = tFull 30 5 (nI (bnL v)) := by
  have := O.nL
  rw [show (6 : Int32) = nI 6 from rfl, c_ge R.n2 (by omega) (by decide), show (5 : Int32) = nI 5 from rfl, c_full 5 30 _ (by omega) (by decide)]
  apply decide_eq_decide.mpr; omega
theorem x_horse (O : Ok v) (R : Rel f v) (a b : Int32) : mTh (mPriceOk a b) (!(decide ((10 : Int32) ≤ f 0)) && mOpen f) true = nI (xHorse v a b) := by
  rw [c_price, c_fH O R, c_open R, xHorse]
  generalize jPriceOk a b = b1; generalize bvS v = b2; generalize tFull 90 9 (nI (bnH v)) = b3
  revert b1 b2 b3; decide
theorem x_price (O : Ok v) (R : Rel f v) (h a b : Int32) : mTh (mIsH f h) (mPriceOk a b) (mRuns f h && mOpen f) = nI (xPrice v h a b) := by
  rw [c_price, c_isH O R, c_open R, ← r_runs O R, xPrice]
  generalize jPriceOk a b = b1; generalize bvS v = b2; generalize tHas (nI (bnH v)) h = b3; generalize jRuns v h = b4
  revert b1 b2 b3 b4; decide
theorem x_take (O : Ok v) (R : Rel f v) (h y : Int32) : mTh (mIsH f h) (mIn y 1 9999) (mRuns f h && (!(decide ((24 : Int32) ≤ f 1)) && mOpen f)) = nI (xTake v h y) := by
  rw [c_stake, c_isH O R, c_fB O R, c_open R, ← r_runs O R, xTake]
  generalize jStakeOk y = b1; generalize bvS v = b2; generalize tHas (nI (bnH v)) h = b3; generalize jRuns v h = b4; generalize tFull 192 8 (nI (bnB v)) = b5
  revert b1 b2 b3 b4 b5; decide
theorem x_lay (O : Ok v) (R : Rel f v) (h y a b : Int32) : mTh (mIsH f h) (mIn y 1 9999 && mPriceOk a b) (mRuns f h && (!(decide ((6 : Int32) ≤ f 2)) && mOpen f)) = nI (xLay v h y a b) := by
  rw [c_stake, c_price, c_isH O R, c_fL O R, c_open R, ← r_runs O R, xLay]
  generalize jStakeOk y = b1; generalize bvS v = b2; generalize tHas (nI (bnH v)) h = b3; generalize jRuns v h = b4; generalize tFull 30 5 (nI (bnL v)) = b5; generalize jPriceOk a b = b6
  revert b1 b2 b3 b4 b5 b6; decide
theorem x_with (O : Ok v) (R : Rel f v) (h : Int32) : mTh (mIsH f h) (mRuns f h && mOpen f) true = nI (xWith v h) := by
  rw [c_isH O R, c_open R, ← r_runs O R, xWith]
  generalize bvS v = b2; generalize tHas (nI (bnH v)) h = b3; generalize jRuns v h = b4
  revert b2 b3 b4; decide
theorem x_settle (O : Ok v) (R : Rel f v) {x : TV} {tx : Nat → Int32} {ty : Nat} (T : TR x tx ty) : mTh (mArr f tx ty) (mOpen f) true = nI (xSettle v x) := by
  rw [c_open R, ← r_arr O R T, xSettle]
  generalize bvS v = b2; generalize jArr v x = b3
  revert b2 b3; decide
theorem x_set (R : Rel f v) (k0 y : Int32) : mTh (mIn k0 0 1) (jFits k0 y) (mOpen f) = nI (xSet v k0 y) := by
  rw [c_two, c_open R, xSet]
  generalize bvS v = b2; generalize jTwoOk k0 = b3; generalize jFits k0 y = b4
  revert b2 b3 b4; decide
theorem x_append {x : TV} {tx : Nat → Int32} {ty : Nat} (T : TR x tx ty) (y : Int32) : mTh (mIn y 33 126) (!(decide ((30 : Int32) ≤ nI ty))) true = nI (xAppend x y) := by
  have ht := T.le
  rw [c_code, show (30 : Int32) = nI 30 from rfl, c_ge rfl (by omega) (by decide), xAppend, T.n]
  generalize jCodeOk y = b1
  by_cases q : 30 ≤ ty
  · simp only [q, decide_true, if_true]; revert b1; decide
  · simp only [q, decide_false, if_false]; revert b1; decide
theorem x_keep (k0 : Int32) : mTh (mIn k0 0 1) true true = nI (xKeep k0) := by
  rw [c_two, xKeep]
  generalize jTwoOk k0 = b3
  revert b3; decide
theorem x_back {kp : Nat → Int32} {z0 z1 : ZV} (k0 : Int32) (h0 : kp 0 = bI z0.2) (h1 : kp 1 = bI z1.2) : mTh (mIn k0 0 1) (mIn k0 0 1 && !(decide (kp (vN k0) = 0))) true = nI (xBack k0 z0 z1) := by
  rw [c_two, xBack]
  cases q : jTwoOk k0 with
  | false => simp only [if_true]; generalize decide (kp (vN k0) = 0) = b; revert b; decide
  | true =>
    rcases jTwo_or q with rfl | rfl
    · rw [show vN 0 = 0 from rfl, h0, if_pos (show (0 : Int32) = 0 from rfl)]
      generalize z0.2 = b; revert b; decide
    · rw [show vN 1 = 1 from rfl, h1, if_neg (show ¬ (1 : Int32) = 0 by decide)]
      generalize z1.2 = b; revert b; decide
theorem x_undo {hi : HV} {st : Nat} (h : hvZ hi = st) : mTh (decide (0 < st)) true true = nI (xUndo hi) := by
  rw [xUndo, h]
  by_cases q : st = 0
  · subst q; decide
  · rw [if_neg q, decide_eq_true (by omega)]; decide
theorem x_horseOf (O : Ok v) (R : Rel f v) (h y : Int32) : mTh (mIsH f h) (mIn y 0 8) true = nI (xHorseOf v h y) := by
  rw [c_isH O R, show mIn y 0 8 = jPropOk y 9 from c_prop y (n := 8) (by decide), xHorseOf]
  generalize tHas (nI (bnH v)) h = b2; generalize jPropOk y 9 = b3
  revert b2 b3; decide
theorem x_bet (O : Ok v) (R : Rel f v) (h y : Int32) : mTh (mIn h 0 (f 1 - 1)) (mIn y 0 7) true = nI (xBet v h y) := by
  rw [c_cnt R.n1 (by have := O.nB; omega), show mIn y 0 7 = jPropOk y 8 from c_prop y (n := 7) (by decide), xBet]
  generalize tHas (nI (bnB v)) h = b2; generalize jPropOk y 8 = b3
  revert b2 b3; decide
theorem x_laid (O : Ok v) (R : Rel f v) (h y : Int32) : mTh (mIn h 0 (f 2 - 1)) (mIn y 0 4) true = nI (xLaid v h y) := by
  rw [c_cnt R.n2 (by have := O.nL; omega), show mIn y 0 4 = jPropOk y 5 from c_prop y (n := 4) (by decide), xLaid]
  generalize tHas (nI (bnL v)) h = b2; generalize jPropOk y 5 = b3
  revert b2 b3; decide
theorem x_count (y : Int32) : mTh (mIn y 0 13) true true = nI (xCount y) := by
  rw [show mIn y 0 13 = jPropOk y 14 from c_prop y (n := 13) (by decide), xCount]
  generalize jPropOk y 14 = b3
  revert b3; decide
theorem x_setting (k0 : Int32) : mTh (mIn k0 0 1) true true = nI (xSetting k0) := by
  rw [c_two, xSetting]
  generalize jTwoOk k0 = b3
  revert b3; decide
theorem x_one (O : Ok v) (R : Rel f v) (h : Int32) : mTh (mIsH f h) true true = nI (xOne v h) := by
  rw [c_isH O R, xOne]
  generalize tHas (nI (bnH v)) h = b2
  revert b2; decide
end CODE
