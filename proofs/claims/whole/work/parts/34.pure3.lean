/-! PURE: bounds of what the book wins; the worst horse, covers, the share, the digest -/
def sm (x : Int32) (B : Int) : Prop := ∃ z : Int, -B ≤ z ∧ z ≤ B ∧ x = Int32.ofInt z
theorem sm_add {x y : Int32} {B C : Int} (h : sm x B) (k : sm y C) : sm (x + y) (B + C) := by
  obtain ⟨a, a1, a2, rfl⟩ := h
  obtain ⟨b, b1, b2, rfl⟩ := k
  exact ⟨a + b, by omega, by omega, (Int32.ofInt_add a b).symm⟩
theorem sm_sub {x y : Int32} {B C : Int} (h : sm x B) (k : sm y C) : sm (x - y) (B + C) := by
  obtain ⟨a, a1, a2, rfl⟩ := h
  obtain ⟨b, b1, b2, rfl⟩ := k
  exact ⟨a - b, by omega, by omega, (Int32.ofInt_sub a b).symm⟩
theorem sm_mono {x : Int32} {B C : Int} (h : sm x B) (k : B ≤ C) : sm x C := by
  obtain ⟨a, a1, a2, rfl⟩ := h
  exact ⟨a, by omega, by omega, rfl⟩
theorem sm_nI {n : Nat} {B : Int} (h : (n : Int) ≤ B) : sm (nI n) B := ⟨n, by omega, h, rfl⟩
theorem sm_0 {B : Int} (h : 0 ≤ B) : sm 0 B := ⟨0, by omega, h, rfl⟩
theorem won_nI {c a b q : Nat} (hc : c ≤ 9999) (ha : a ≤ 100) (hb : 0 < b) (hb2 : b < 2 ^ 20) (hq : q ≤ 90) : ∃ r, r ≤ 1100000 ∧ mWon (nI c) (nI a) (nI b) (nI q) = nI r := by
  have h1 : c * a ≤ 9999 * 100 := Nat.mul_le_mul hc ha
  have h2 : c * a / b ≤ c * a := Nat.div_le_self _ _
  have h3 : c * a / b * (100 - q) ≤ (9999 * 100) * 100 := Nat.mul_le_mul (by omega) (by omega)
  refine ⟨c + c * a / b * (100 - q) / 100, by omega, ?_⟩
  rw [mWon, pk_mul, pk_div (by omega) hb (by omega), show (100 : Int32) = nI 100 from rfl, pk_sub (by omega), pk_mul, pk_div (by omega) (by omega) (by omega), nI_add]
section BD
variable {f : Nat → Int32} {v : BV} {w : AV} {fi gr : Nat → Int32}
theorem b_staked (O : Ok v) (R : Rel f v) {k : Nat} (hk : k < bnB v) : sm (mStaked f k) 20000 := by
  have hb := O.nB
  obtain ⟨s, s1, s2, es⟩ := (O.B k hk).s
  obtain ⟨x, x1, x2, ex⟩ := (O.B k hk).w
  rw [mStaked, r_mB R (by omega) (by decide), r_mB R (by omega) (by decide), es, ex, show (1 : Int32) = nI 1 from rfl, nI_add, pk_mul]
  have : s * (1 + x) ≤ 9999 * 2 := Nat.mul_le_mul s2 (by omega)
  exact sm_nI (by omega)
theorem b_ret (O : Ok v) (R : Rel f v) (A : AE v w fi gr) {k : Nat} (hk : k < bnB v) : sm (mRet f fi gr (bnH v) k) 2200000 := by
  have hb := O.nB
  have h0 := O.nH
  obtain ⟨e0, hh, e1⟩ := r_mBh O R hk
  have hh10 : mBh f k < 10 := by omega
  obtain ⟨s, s1, s2, es⟩ := (O.B k hk).s
  obtain ⟨a3, a31, a32, ea⟩ := (O.B k hk).a
  obtain ⟨b4, b41, b42, eb⟩ := (O.B k hk).b
  obtain ⟨q5, q51, q52, eq⟩ := (O.B k hk).q
  have m1 : mB f k 1 = nI s := (r_mB R (by omega) (by decide)).trans es
  have m3 : mB f k 3 = nI a3 := (r_mB R (by omega) (by decide)).trans ea
  have m4 : mB f k 4 = nI b4 := (r_mB R (by omega) (by decide)).trans eb
  have m5 : mB f k 5 = nI q5 := (r_mB R (by omega) (by decide)).trans eq
  obtain ⟨p, hp, ep⟩ := jPl v
  have hpl : mPlaces f (bnH v) = nI p := (r_places O R).trans ep
  rw [mRet]
  split
  · exact sm_mono (b_staked O R hk) (by decide)
  · have hwin : sm (mWinOf f fi gr k) 1100000 := by
      rw [mWinOf, mForWin, m1, m3, m4, m5]
      split
      · rename_i q
        rcases A.ok _ hh10 with ⟨h1, h2⟩ | ⟨x, y, x1, x2, y1, y2, h1, h2⟩
        · rw [h1] at q; exact absurd q (by decide)
        · rw [h2, pk_div (by omega) y1 (by omega)]
          obtain ⟨r, r1, r2⟩ := won_nI (c := s / y) (a := a3) (b := b4) (q := q5) (by have := Nat.div_le_self s y; omega) a32 b41 (by omega) q52
          rw [r2]; exact sm_nI (by omega)
      · exact sm_0 (by decide)
    have hpla : sm (mPlaceOf f fi gr (bnH v) k) 1100000 := by
      rw [mPlaceOf]
      split
      · rw [mForPlace, hpl, m1, m3, m4, m5]
        split
        · exact sm_nI (by omega)
        · split
          · exact sm_0 (by decide)
          · rename_i q2
            split
            · rename_i q
              rcases A.ok _ hh10 with ⟨h1, h2⟩ | ⟨x, y, x1, x2, y1, y2, h1, h2⟩
              · rw [h1] at q2; exact absurd (show (-1 : Int32) < 0 by decide) q2
              · rw [h1] at q
                have hxp : x ≤ p := (nI_leI (by omega) (by omega)).mp q
                have hm : ∃ m, m ≤ y ∧ mC f fi gr (bnH v) (mBh f k) = nI m := by
                  rw [mC, mWithin, hpl, h1, h2, pk_sub hxp, nI_1]
                  split
                  · exact ⟨y, Nat.le_refl _, rfl⟩
                  · rename_i q3
                    exact ⟨p - x + 1, by
                      rcases Nat.lt_or_ge (p - x + 1) y with z | z
                      · omega
                      · exact absurd (nI_le z (by omega)) q3, rfl⟩
                obtain ⟨m, my, em⟩ := hm
                have hsm : s * m ≤ s * y := Nat.mul_le_mul_left s my
                have hsy : s * y ≤ 9999 * 31 := Nat.mul_le_mul s2 y2
                have hd : s * m / y ≤ s := Nat.div_le_of_le_mul (by rw [Nat.mul_comm y s]; exact hsm)
                rw [em, h2, pk_mul, pk_div (by omega) y1 (by omega), R.pp]
                rcases O.P with z | z <;> rw [z]
                · rw [show (4 : Int32) = nI 4 from rfl, pk_mul]
                  obtain ⟨r, r1, r2⟩ := won_nI (c := s * m / y) (a := a3) (b := b4 * 4) (q := q5) (by omega) a32 (by omega) (by omega) q52
                  rw [r2]; exact sm_nI (by omega)
                · rw [show (5 : Int32) = nI 5 from rfl, pk_mul]
                  obtain ⟨r, r1, r2⟩ := won_nI (c := s * m / y) (a := a3) (b := b4 * 5) (q := q5) (by omega) a32 (by omega) (by omega) q52
                  rw [r2]; exact sm_nI (by omega)
            · exact sm_0 (by decide)
      · exact sm_0 (by decide)
    exact sm_mono (sm_add hwin hpla) (by decide)
theorem b_off (O : Ok v) (R : Rel f v) (A : AE v w fi gr) {k : Nat} (hk : k < bnL v) : sm (mOffRet f fi gr k) 1100000 := by
  have hl := O.nL
  have h0 := O.nH
  obtain ⟨e0, hh, e1⟩ := r_mOh O R hk
  have hh10 : mOh f k < 10 := by omega
  obtain ⟨s, s1, s2, es⟩ := (O.L k hk).s
  obtain ⟨a3, a31, a32, ea⟩ := (O.L k hk).a
  obtain ⟨b4, b41, b42, eb⟩ := (O.L k hk).b
  have m1 : mO f k 1 = nI s := (r_mO R (by omega) (by decide)).trans es
  have m2 : mO f k 2 = nI a3 := (r_mO R (by omega) (by decide)).trans ea
  have m3 : mO f k 3 = nI b4 := (r_mO R (by omega) (by decide)).trans eb
  rw [mOffRet, m1, m2, m3]
  split
  · exact sm_nI (by omega)
  · rw [mForWin]
    split
    · rename_i q
      rcases A.ok _ hh10 with ⟨h1, h2⟩ | ⟨x, y, x1, x2, y1, y2, h1, h2⟩
      · rw [h1] at q; exact absurd q (by decide)
      · rw [h2, pk_div (by omega) y1 (by omega)]
        obtain ⟨r, r1, r2⟩ := won_nI (c := s / y) (a := a3) (b := b4) (q := 0) (by have := Nat.div_le_self s y; omega) a32 b41 (by omega) (by decide)
        have e : mWon (nI (s / y)) (nI a3) (nI b4) 0 = nI r := r2
        rw [e]; exact sm_nI (by omega)
    · exact sm_0 (by decide)
theorem b_W1 (O : Ok v) (R : Rel f v) (A : AE v w fi gr) : ∀ i, i ≤ bnB v → sm (mW1 f fi gr (bnH v) i) (i * 3000000)
  | 0, _ => sm_0 (by decide)
  | i + 1, h => by
    rw [mW1]
    exact sm_mono (sm_add (b_W1 O R A i (by omega)) (sm_sub (b_staked O R (by omega)) (b_ret O R A (by omega)))) (by omega)
theorem b_W2 (O : Ok v) (R : Rel f v) (A : AE v w fi gr) : ∀ i, i ≤ bnL v → sm (mW2 f fi gr (bnH v) (bnB v) i) (72000000 + i * 3000000)
  | 0, _ => by rw [mW2]; exact sm_mono (b_W1 O R A _ (Nat.le_refl _)) (by have := O.nB; omega)
  | i + 1, h => by
    have hl := O.nL
    obtain ⟨s, s1, s2, es⟩ := (O.L i (by omega)).s
    have m1 : mO f i 1 = nI s := (r_mO R (by omega) (by decide)).trans es
    rw [mW2, m1]
    exact sm_mono (sm_add (b_W2 O R A i (by omega)) (sm_sub (b_off O R A (by omega)) (sm_nI (B := 10000) (by omega)))) (by omega)
theorem b_wins (O : Ok v) (R : Rel f v) (A : AE v w fi gr) : sm (mWins f fi gr (bnH v) (bnB v) (bnL v)) 100000000 := sm_mono (b_W2 O R A _ (Nat.le_refl _)) (by have := O.nL; omega)
theorem b_WW (O : Ok v) (R : Rel f v) {h : Nat} (hh : h < bnH v) : sm (mWW f (bnH v) (bnB v) (bnL v) h) 100000000 := b_wins O R (r_wwE O R hh)
end BD
theorem lt_ofI {a b : Int} (ha : -1000000000 ≤ a) (ha2 : a ≤ 1000000000) (hb : -1000000000 ≤ b) (hb2 : b ≤ 1000000000) : Int32.ofInt a < Int32.ofInt b ↔ a < b := by
  rw [Int32.lt_iff_toInt_lt, Int32.toInt_ofInt_of_le (by omega) (by omega), Int32.toInt_ofInt_of_le (by omega) (by omega)]
theorem lt_shift {x y : Int32} (h : sm x 100000000) (k : sm y 100000000) : x + 10000000 < y + 10000000 ↔ x < y := by
  obtain ⟨a, a1, a2, rfl⟩ := h
  obtain ⟨b, b1, b2, rfl⟩ := k
  rw [show (10000000 : Int32) = Int32.ofInt 10000000 from rfl, ← Int32.ofInt_add, ← Int32.ofInt_add, lt_ofI (by omega) (by omega) (by omega) (by omega), lt_ofI (by omega) (by omega) (by omega) (by omega)]
  omega
section WO
variable {f : Nat → Int32} {v : BV}
theorem r_wst0 (O : Ok v) (R : Rel f v) : ∀ i, i ≤ bnH v → (jWst v i).1 = (mWst f (bnH v) (bnB v) (bnL v) i).1 ∧ ((mWst f (bnH v) (bnB v) (bnL v) i).1 = -1 ∨ ((∃ j, j < 10 ∧ (mWst f (bnH v) (bnB v) (bnL v) i).1 = nI j) ∧ (jWst v i).2 = (mWst f (bnH v) (bnB v) (bnL v) i).2 + 10000000 ∧ sm (mWst f (bnH v) (bnB v) (bnL v) i).2 100000000))
  | 0, _ => ⟨rfl, Or.inl rfl⟩
  | i + 1, h => by
    have h0 := O.nH
    obtain ⟨k1, k2⟩ := r_wst0 O R i (by omega)
    have hb := b_WW O R (show i < bnH v by omega)
    rw [jWst, mWst, r_runsN O R (by omega), r_ww O R (by omega), mIfF]
    by_cases q : f (26 + i) = 1
    · simp only [q, decide_true, if_true]
      have hc : ((jWst v i).1 = -1 ∨ mWW f (bnH v) (bnB v) (bnL v) i + 10000000 < (jWst v i).2) ↔ ((mWst f (bnH v) (bnB v) (bnL v) i).1 < 0 ∨ mWW f (bnH v) (bnB v) (bnL v) i < (mWst f (bnH v) (bnB v) (bnL v) i).2) := by
        rw [k1]
        rcases k2 with e | ⟨⟨j, hj, e⟩, e2, e3⟩
        · rw [e]; exact ⟨fun _ => Or.inl (by decide), fun _ => Or.inl rfl⟩
        · rw [e, e2, lt_shift hb e3]
          exact ⟨fun z => z.elim (fun z => absurd z.symm (neg_lt j (by omega))) Or.inr, fun z => z.elim (fun z => absurd z (nI_pos (by omega))) Or.inr⟩
      by_cases c : (mWst f (bnH v) (bnB v) (bnL v) i).1 < 0 ∨ mWW f (bnH v) (bnB v) (bnL v) i < (mWst f (bnH v) (bnB v) (bnL v) i).2
      · rw [if_pos c, if_pos (hc.mpr c)]
        exact ⟨rfl, Or.inr ⟨⟨i, by omega, rfl⟩, rfl, hb⟩⟩
      · rw [if_neg c, if_neg (fun z => c (hc.mp z))]
        exact ⟨k1, k2⟩
    · simp only [q, decide_false, if_false, Bool.false_eq_true]
      exact ⟨k1, k2⟩
theorem r_wst (O : Ok v) (R : Rel f v) : (jWst v (bnH v)).1 = (mWst f (bnH v) (bnB v) (bnL v) (bnH v)).1 := (r_wst0 O R _ (Nat.le_refl _)).1
theorem r_Rn (O : Ok v) (R : Rel f v) : ∀ i, i ≤ bnH v → jRunN v i = mRn f i
  | 0, _ => rfl
  | i + 1, h => by rw [jRunN, mRn, r_Rn O R i (by omega), r_runsN O R (by omega)]; simp only [decide_eq_true_eq]
theorem r_Sf (O : Ok v) (R : Rel f v) : ∀ i, i ≤ bnH v → jSafe v i = mSf f (bnH v) (bnB v) (bnL v) i
  | 0, _ => rfl
  | i + 1, h => by
    rw [jSafe, mSf, r_Sf O R i (by omega), r_runsN O R (by omega), r_ww O R (by omega), mIfF, R.oo]
    by_cases q : f (26 + i) = 1
    · simp only [q, decide_true, true_and, if_true]
      obtain ⟨z, z1, z2, ez⟩ := b_WW O R (show i < bnH v by omega)
      obtain ⟨o, o1, o2, eo⟩ := O.O
      have hc : (mWW f (bnH v) (bnB v) (bnL v) i + 10000000 < 10000000 - bvO v) ↔ (mWW f (bnH v) (bnB v) (bnL v) i < -(bvO v)) := by
        rw [ez, eo, show nI o = Int32.ofInt (o : Int) from rfl, show (10000000 : Int32) = Int32.ofInt 10000000 from rfl, ← Int32.ofInt_add, ← Int32.ofInt_sub, ← Int32.ofInt_neg, lt_ofI (by omega) (by omega) (by omega) (by omega), lt_ofI (by omega) (by omega) (by omega) (by omega)]
        omega
      by_cases c : mWW f (bnH v) (bnB v) (bnL v) i < -(bvO v)
      · rw [if_pos c, if_neg (fun z => z (hc.mpr c))]
      · rw [if_neg c, if_pos (fun z => c (hc.mp z))]
    · simp only [q, decide_false, false_and, if_false, Bool.false_eq_true]
theorem r_share (O : Ok v) (R : Rel f v) : jShare v = mShare f (bnH v) (bnB v) (bnL v) := by
  rw [jShare, mShare, r_Rn O R _ (Nat.le_refl _), r_Sf O R _ (Nat.le_refl _)]
theorem okRuns_of (O : Ok v) : okRuns v := fun i hi => by
  obtain ⟨x, x1, x2, ex⟩ := (O.H i hi).r
  have ex' : hC v (nI i) 2 = nI x := ex
  rcases (show x = 0 ∨ x = 1 by omega) with rfl | rfl
  · exact Or.inl ex'
  · exact Or.inr ex'
end WO
theorem mCv_min {own a b q : Int32} {N0 : Nat} (hc : ∀ s, s < 10000 → (own + nI s * a / b < -q ↔ s < N0)) : ∀ k s, s ≤ N0 → s + k ≤ 10000 → mCv own a b q k s = min (s + k) N0
  | 0, s, h, _ => by rw [mCv]; omega
  | k + 1, s, h, h2 => by
    rw [mCv]
    by_cases z : s < N0
    · rw [if_pos ((hc s (by omega)).mpr z), mCv_min hc k (s + 1) (by omega) (by omega)]; congr 1; omega
    · rw [if_neg (fun y => z ((hc s (by omega)).mp y))]; omega
theorem ceil_lt {s a b L : Nat} (ha : 0 < a) (hb : 0 < b) (hL : 0 < L) : s * a / b < L ↔ s < (L * b + a - 1) / a := by
  rw [Nat.div_lt_iff_lt_mul hb]
  have h1 : s < (L * b + a - 1) / a ↔ s + 1 ≤ (L * b + a - 1) / a := Iff.rfl
  rw [h1, Nat.le_div_iff_mul_le ha, Nat.succ_mul]
  have : 0 < L * b := Nat.mul_pos hL hb
  omega
theorem i64 {n : Int} (h : -4000000000 ≤ n) (h2 : n ≤ 4000000000) : (Int64.ofInt n).toInt = n := Int64.toInt_ofInt_of_le (by omega) (by omega)
theorem cmp_pos {a b : Int} (ha : -4000000000 ≤ a) (ha2 : a ≤ 4000000000) (hb : -4000000000 ≤ b) (hb2 : b ≤ 4000000000) : 0 < lg_cmp (Int64.ofInt a) (Int64.ofInt b) ↔ b < a := by
  have h1 : (Int64.ofInt a > Int64.ofInt b) ↔ b < a := by rw [gt_iff_lt, Int64.lt_iff_toInt_lt, i64 ha ha2, i64 hb hb2]
  rw [lg_cmp]
  by_cases z : b < a
  · rw [if_pos (h1.mpr z)]; exact ⟨fun _ => z, fun _ => by decide⟩
  · rw [if_neg (fun y => z (h1.mp y))]
    refine ⟨fun y => ?_, fun y => absurd y z⟩
    split at y <;> exact absurd y (by decide)
theorem to64 {z : Int} (h : -1000000000 ≤ z) (h2 : z ≤ 1000000000) : (Int32.ofInt z).toInt64 = Int64.ofInt z := by
  have m1 : Int32.minValue.toInt = -2147483648 := by decide
  have m2 : Int32.maxValue.toInt = 2147483647 := by decide
  exact Int32.toInt64_ofInt (by omega) (by omega)
section CO
variable {f : Nat → Int32} {v : BV}
theorem r_cov (O : Ok v) (R : Rel f v) {h : Nat} (hh : h < bnH v) : jCover v (nI h) (jWW v (nI h)) = mCov f (bnH v) (bnB v) (bnL v) h := by
  have h0 := O.nH
  obtain ⟨a, a1, a2, ea⟩ := (O.H h hh).a
  obtain ⟨b, b1, b2, eb⟩ := (O.H h hh).b
  have fa : f (6 + h) = nI a := (R.a h (by omega)).trans ea
  have fb : f (16 + h) = nI b := (R.b h (by omega)).trans eb
  have ea' : hC v (nI h) 0 = nI a := ea
  have eb' : hC v (nI h) 1 = nI b := eb
  obtain ⟨z, z1, z2, ez⟩ := b_WW O R hh
  obtain ⟨o, o1, o2, eo⟩ := O.O
  rw [jCover, r_runsN O R hh, r_ww O R hh, mIfF, mCov, ea', if_pos (show 0 < nI a from nI_lt (a := 0) a1 (by omega)), fa, fb, R.oo, eo]
  rcases r_h2 O R hh with q | q
  · simp only [q, if_true]; rw [if_neg (by decide)]
  · simp only [q, if_true, decide_true]
    rw [if_neg (show ¬ (1 : Int32) = 0 by decide), ez]
    have hlack : jLack v (Int32.ofInt z + 10000000) = Int64.ofInt (-(o : Int) - z) := by
      rw [jLack, eo, show nI o = Int32.ofInt (o : Int) from rfl, show (10000000 : Int32) = Int32.ofInt 10000000 from rfl, ← Int32.ofInt_add, to64 (by omega) (by omega), to64 (by omega) (by omega), show (10000000 : Int64) = Int64.ofInt 10000000 from rfl, ← Int64.ofInt_sub, ← Int64.ofInt_sub]
      congr 1; omega
    have hcnd : ∀ s, s < 10000 → (Int32.ofInt z + nI s * nI a / nI b < -(nI o) ↔ ((s * a / b : Nat) : Int) < -(o : Int) - z) := fun s hs => by
      have hsa : s * a ≤ 10000 * 100 := Nat.mul_le_mul (by omega) a2
      have hd : s * a / b ≤ s * a := Nat.div_le_self _ _
      rw [pk_mul, pk_div (by omega) b1 (by omega)]
      generalize s * a / b = t at hd ⊢
      rw [show nI t = Int32.ofInt (t : Int) from rfl, show nI o = Int32.ofInt (o : Int) from rfl, ← Int32.ofInt_add, ← Int32.ofInt_neg, lt_ofI (by omega) (by omega) (by omega) (by omega)]
      omega
    rw [hlack, show (0 : Int64) = Int64.ofInt 0 from rfl]
    by_cases hL : 0 < -(o : Int) - z
    · rw [if_pos ((cmp_pos (by omega) (by omega) (by decide) (by decide)).mpr hL)]
      obtain ⟨L, eL⟩ : ∃ L : Nat, -(o : Int) - z = (L : Int) := ⟨(-(o : Int) - z).toNat, by omega⟩
      rw [eL] at hL hcnd hlack
      have hL1 : 0 < L := by omega
      have hL2 : L ≤ 100000000 := by omega
      have hLb : L * b ≤ 100000000 * 20 := Nat.mul_le_mul hL2 b2
      obtain ⟨N0, hN0⟩ : ∃ n, (L * b + a - 1) / a = n := ⟨_, rfl⟩
      have hd : (L * b + a - 1) / a ≤ L * b + a - 1 := Nat.div_le_self _ _
      rw [hN0] at hd
      have hneed : jNeed v (nI h) (Int32.ofInt z + 10000000) = Int64.ofInt (N0 : Int) := by
        apply Int64.toInt_inj.mp
        rw [i64 (by omega) (by omega), jNeed, hlack, ea', eb', show nI a = Int32.ofInt (a : Int) from rfl, show nI b = Int32.ofInt (b : Int) from rfl, to64 (by omega) (by omega), to64 (by omega) (by omega), ← Int64.ofInt_mul, ← Int64.ofInt_add, show (1 : Int64) = Int64.ofInt 1 from rfl, ← Int64.ofInt_sub, Int64.toInt_div]
        have e1 : ((L : Int) * (b : Int) + (a : Int) - 1) = ((L * b + a - 1 : Nat) : Int) := by
          have : (((L * b : Nat)) : Int) = (L : Int) * (b : Int) := Int.natCast_mul L b
          omega
        rw [e1, i64 (by omega) (by omega), i64 (by omega) (by omega), ← Int.ofNat_tdiv, hN0]
        rw [Int.bmod_eq_of_le (by omega) (by omega)]
      rw [hneed, show (9999 : Int64) = Int64.ofInt 9999 from rfl]
      have hmin := mCv_min (own := Int32.ofInt z) (a := nI a) (b := nI b) (q := nI o) (N0 := N0) (fun s hs => (hcnd s hs).trans (by rw [Int.ofNat_lt, ← hN0]; exact ceil_lt a1 b1 hL1)) 10000 0 (Nat.zero_le _) (by decide)
      rw [hmin, Nat.zero_add]
      by_cases c : 9999 < N0
      · rw [if_pos ((cmp_pos (by omega) (by omega) (by decide) (by decide)).mpr (by omega)), Nat.min_eq_left (by omega), if_neg (Nat.lt_irrefl _)]
      · rw [if_neg (fun y => by have := (cmp_pos (by omega) (by omega) (by decide) (by decide)).mp y; omega), Nat.min_eq_right (by omega), if_pos (by omega)]
        apply Int32.toInt_inj.mp
        rw [nI_toInt (by omega), Int64.toInt_toInt32, i64 (by omega) (by omega)]
        rw [Int.bmod_eq_of_le (by omega) (by omega)]
    · rw [if_neg (fun y => hL ((cmp_pos (by omega) (by omega) (by decide) (by decide)).mp y))]
      have hmin := mCv_min (own := Int32.ofInt z) (a := nI a) (b := nI b) (q := nI o) (N0 := 0) (fun s hs => (hcnd s hs).trans (by generalize s * a / b = t; omega)) 10000 0 (Nat.zero_le _) (by decide)
      rw [hmin, show min (0 + 10000) 0 = 0 from rfl, if_pos (by decide)]; rfl
end CO
def kOf (a b : Nat) : Nat := if b ≤ a then 0 else if b ≤ 2 * a then 1 else if b ≤ 4 * a then 2 else if b ≤ 8 * a then 3 else 4
theorem kOf_le (a b : Nat) : kOf a b < 60 := by
  rw [kOf]
  repeat' split
  all_goals decide
def bitsOk (x : UInt64) (K : Nat) : Bool := (!(dPos x) || dOk x K) && decide (dBits x K = x.toInt64)
theorem bits_tab : ∀ b, b < 11 → ∀ a, a < 11 → 0 < b → a ≤ b → bitsOk (dQ a b) (kOf a b) = true := by decide +kernel
theorem bits_1 : bitsOk FP.dconst1 0 = true := by decide +kernel
theorem share_K (f : Nat → Int32) {nh : Nat} (nb nl : Nat) (hn : nh ≤ 10) : ∃ K, K < 60 ∧ (dPos (mShare f nh nb nl) = true → dOk (mShare f nh nb nl) K = true) ∧ dBits (mShare f nh nb nl) K = (mShare f nh nb nl).toInt64 := by
  have h1 := mRn_le f nh
  have h2 := mSf_le f nh nb nl nh
  have h3 : ∃ K, K < 60 ∧ bitsOk (mShare f nh nb nl) K = true := by
    rw [mShare]
    split
    · exact ⟨0, by decide, bits_1⟩
    · exact ⟨kOf (mSf f nh nb nl nh) (mRn f nh), kOf_le _ _, bits_tab _ (by omega) _ (by omega) (by omega) (by omega)⟩
  obtain ⟨K, hK, h4⟩ := h3
  simp only [bitsOk, Bool.and_eq_true, Bool.or_eq_true, Bool.not_eq_true', decide_eq_true_eq] at h4
  exact ⟨K, hK, fun h5 => h4.1.elim (fun h6 => by rw [h5] at h6; exact absurd h6 (by decide)) id, h4.2⟩
