/-! WHAT THE READING CALLS ANSWER: the class's answer and the model's are one -/
section YR
variable {f : Nat → Int32} {v : BV}
theorem vN_nI {n : Nat} (h : n < 2 ^ 31) : vN (nI n) = n := nI_clamp h
theorem bq_t {q : Bool} (h : ¬ q = false) : q = true := by cases q; exact absurd rfl h; rfl
theorem xif2 {a b : Bool} {n m : Nat} (hn : n ≠ 0) (hm : m ≠ 0) (h : (if a = false then n else if b = false then m else 0) = 0) : a = true ∧ b = true := by
  cases a with
  | false => rw [if_pos rfl] at h; exact absurd h hn
  | true =>
    rw [if_neg (by decide)] at h
    cases b with
    | false => rw [if_pos rfl] at h; exact absurd h hm
    | true => exact ⟨rfl, rfl⟩
theorem xif1 {a : Bool} {n : Nat} (hn : n ≠ 0) (h : (if a = false then n else 0) = 0) : a = true := by
  cases a with
  | false => rw [if_pos rfl] at h; exact absurd h hn
  | true => rfl
theorem y_horseOf (O : Ok v) (R : Rel f v) {h k0 : Int32} (q : xHorseOf v h k0 = 0) : hC v h k0 = mHorse f (bnB v) (vN h) (vN k0) := by
  obtain ⟨q1, q2⟩ := xif2 (by decide) (by decide) q
  have hn := O.nH
  obtain ⟨j, hj, rfl⟩ := tHas_nI (by omega) q1
  obtain ⟨k, hk, rfl⟩ := prop_nI (n := 9) (by decide) q2
  rw [vN_nI (by omega), vN_nI (by omega)]
  exact (r_horse O R hj k hk).symm
theorem y_bet (O : Ok v) (R : Rel f v) {h k0 : Int32} (q : xBet v h k0 = 0) : bC v h k0 = mB f (vN h) (vN k0) := by
  obtain ⟨q1, q2⟩ := xif2 (by decide) (by decide) q
  have hn := O.nB
  obtain ⟨j, hj, rfl⟩ := tHas_nI (by omega) q1
  obtain ⟨k, hk, rfl⟩ := prop_nI (n := 8) (by decide) q2
  rw [vN_nI (by omega), vN_nI (by omega)]
  exact (r_mB R (by omega) hk).symm
theorem y_laid (O : Ok v) (R : Rel f v) {h k0 : Int32} (q : xLaid v h k0 = 0) : lC v h k0 = mO f (vN h) (vN k0) := by
  obtain ⟨q1, q2⟩ := xif2 (by decide) (by decide) q
  have hn := O.nL
  obtain ⟨j, hj, rfl⟩ := tHas_nI (by omega) q1
  obtain ⟨k, hk, rfl⟩ := prop_nI (n := 5) (by decide) q2
  rw [vN_nI (by omega), vN_nI (by omega)]
  exact (r_mO R (by omega) hk).symm
theorem y_count (O : Ok v) (R : Rel f v) {st : Nat} {hi : HV} (hst : hvZ hi = st) {k0 : Int32} (q : xCount k0 = 0) : jCount v hi k0.toNatClampNeg = mCount f st (bnH v) (bnB v) (bnL v) (vN k0) := by
  obtain ⟨k, hk, rfl⟩ := prop_nI (n := 14) (by decide) (xif1 (by decide) q)
  rw [vN_nI (by omega), nI_clamp (by omega)]
  exact (r_count O R hst k hk).symm
theorem y_setting (R : Rel f v) {k0 : Int32} (q : xSetting k0 = 0) : jSetting v k0 = f (4 + vN k0) := by
  rcases jTwo_or (xif1 (by decide) q) with rfl | rfl
  · exact R.pp.symm
  · exact R.oo.symm
theorem y_won (O : Ok v) (R : Rel f v) {h : Int32} (q : xOne v h = 0) : jWW v h = mIfF f (bnH v) (bnB v) (bnL v) (vN h) := by
  have hn := O.nH
  obtain ⟨j, hj, rfl⟩ := tHas_nI (by omega) (xif1 (by decide) q)
  rw [vN_nI (by omega)]
  exact r_ww O R hj
theorem y_cover (O : Ok v) (R : Rel f v) {h : Int32} (q : xOne v h = 0) : jCover v h (jWW v h) = mCov f (bnH v) (bnB v) (bnL v) (vN h) := by
  have hn := O.nH
  obtain ⟨j, hj, rfl⟩ := tHas_nI (by omega) (xif1 (by decide) q)
  rw [vN_nI (by omega)]
  exact r_cov O R hj
end YR
