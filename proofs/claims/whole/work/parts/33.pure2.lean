/-! PURE: what bets return, by an arrival -/
def AE (v : BV) (w : AV) (fi gr : Nat → Int32) : Prop :=
  (avP w = jPlaces v) ∧
  (∀ h, h < 10 → avF w h = fi h) ∧
  (∀ h, h < 10 → avG w h = gr h) ∧
  (∀ h, h < 10 → (fi h = -1 ∧ gr h = -1) ∨ ∃ a b, 1 ≤ a ∧ a ≤ 31 ∧ 1 ≤ b ∧ b ≤ 31 ∧ fi h = nI a ∧ gr h = nI b)
theorem AE.P {v : BV} {w : AV} {fi gr : Nat → Int32} (h9 : AE v w fi gr) : avP w = jPlaces v := h9.1
theorem AE.F {v : BV} {w : AV} {fi gr : Nat → Int32} (h9 : AE v w fi gr) : ∀ h, h < 10 → avF w h = fi h := h9.2.1
theorem AE.G {v : BV} {w : AV} {fi gr : Nat → Int32} (h9 : AE v w fi gr) : ∀ h, h < 10 → avG w h = gr h := h9.2.2.1
theorem AE.ok {v : BV} {w : AV} {fi gr : Nat → Int32} (h9 : AE v w fi gr) : ∀ h, h < 10 → (fi h = -1 ∧ gr h = -1) ∨ ∃ a b, 1 ≤ a ∧ a ≤ 31 ∧ 1 ≤ b ∧ b ≤ 31 ∧ fi h = nI a ∧ gr h = nI b := h9.2.2.2
theorem jPl (v : BV) : ∃ p, p ≤ 3 ∧ jPlaces v = nI p := by
  rw [jPlaces]
  split
  · split
    · exact ⟨3, by decide, rfl⟩
    · exact ⟨2, by decide, rfl⟩
  · exact ⟨0, by decide, rfl⟩
theorem nI_inj {a b : Nat} (ha : a < 2 ^ 31) (hb : b < 2 ^ 31) (h : nI a = nI b) : a = b := (nI_eq ha hb).mp h
theorem neg_lt (n : Nat) (h : n < 2 ^ 31) : ¬ (-1 : Int32) = nI n := fun q => absurd (show nI n < 0 by rw [← q]; decide) (nI_pos h)
section RT
variable {f : Nat → Int32} {v : BV} {w : AV} {fi gr : Nat → Int32}
theorem r_paid {c a b q : Int32} (hb : 0 < b) : jPaid c a b q = mWon c a b q := by rw [jPaid, if_pos hb]; rfl
theorem r_b4 (O : Ok v) {k : Nat} (hk : k < bnB v) : 0 < bA v k 4 := by
  obtain ⟨b, b1, b2, e⟩ := (O.B k hk).b
  rw [e]; exact nI_lt (a := 0) b1 (by omega)
theorem r_b4p (O : Ok v) {k : Nat} (hk : k < bnB v) : 0 < bA v k 4 * bvP v := by
  obtain ⟨b, b1, b2, e⟩ := (O.B k hk).b
  rw [e]
  rcases O.P with q | q <;> rw [q]
  · rw [show (4 : Int32) = nI 4 from rfl, pk_mul]; exact nI_lt (a := 0) (by omega) (by omega)
  · rw [show (5 : Int32) = nI 5 from rfl, pk_mul]; exact nI_lt (a := 0) (by omega) (by omega)
theorem r_win (O : Ok v) (R : Rel f v) (A : AE v w fi gr) {k : Nat} (hk : k < bnB v) : jWin v w (nI k) = mWinOf f fi gr k := by
  have hb := O.nB
  have h0 := O.nH
  obtain ⟨e0, hh, e1⟩ := r_mBh O R hk
  have hh10 : mBh f k < 10 := by omega
  have e1' : bC v (nI k) 0 = nI (mBh f k) := e1
  rw [jWin, e1', aOf_nI _ hh10, aOf_nI _ hh10, A.F _ hh10, A.G _ hh10, mWinOf, mForWin, r_mB R (by omega) (by decide), r_mB R (by omega) (by decide), r_mB R (by omega) (by decide), r_mB R (by omega) (by decide)]
  by_cases q : fi (mBh f k) = 1
  · rw [if_pos q, if_pos q]
    rcases A.ok _ hh10 with ⟨h1, h2⟩ | ⟨a, b, a1, a2, b1, b2, h1, h2⟩
    · rw [h1] at q; exact absurd q (by decide)
    · rw [if_pos (by rw [h2]; exact nI_lt (a := 0) b1 (by omega))]
      exact r_paid (r_b4 O hk)
  · rw [if_neg q, if_neg q]
theorem r_place (O : Ok v) (R : Rel f v) (A : AE v w fi gr) {k : Nat} (hk : k < bnB v) : jPlace v w (nI k) = mPlaceOf f fi gr (bnH v) k := by
  have hb := O.nB
  have h0 := O.nH
  obtain ⟨e0, hh, e1⟩ := r_mBh O R hk
  have hh10 : mBh f k < 10 := by omega
  have e1' : bC v (nI k) 0 = nI (mBh f k) := e1
  obtain ⟨p, hp, ep⟩ := jPl v
  have hpl : mPlaces f (bnH v) = nI p := (r_places O R).trans ep
  rw [mPlaceOf, mForPlace, r_mB R (by omega) (by decide), r_mB R (by omega) (by decide), r_mB R (by omega) (by decide), r_mB R (by omega) (by decide), r_mB R (by omega) (by decide), R.pp, hpl, mC, mWithin, hpl]
  rw [jPlace, jIn, e1', aOf_nI _ hh10, aOf_nI _ hh10, A.F _ hh10, A.G _ hh10, A.P, ep]
  show (if bA v k 2 = 0 then 0 else if nI p = 0 then bA v k 1 else if gr (mBh f k) ≤ 0 then 0 else if 0 < jMin (gr (mBh f k)) (nI p - fi (mBh f k) + 1) then jPaid (bA v k 1 * jMin (gr (mBh f k)) (nI p - fi (mBh f k) + 1) / gr (mBh f k)) (bA v k 3) (bA v k 4 * bvP v) (bA v k 5) else 0) = _
  obtain ⟨x, x1, x2, ex⟩ := (O.B k hk).w
  rcases (show x = 0 ∨ x = 1 by omega) with rfl | rfl
  · rw [ex, if_pos (show nI 0 = 0 from rfl), if_neg (show ¬ nI 0 = 1 by decide)]
  · rw [ex, if_neg (show ¬ nI 1 = 0 by decide), if_pos (show nI 1 = 1 from rfl)]
    by_cases hp0 : nI p = 0
    · rw [if_pos hp0, if_pos hp0]
    · rw [if_neg hp0, if_neg hp0]
      rcases A.ok _ hh10 with ⟨h1, h2⟩ | ⟨a, b, a1, a2, b1, b2, h1, h2⟩
      · rw [h1, h2, if_pos (show (-1 : Int32) ≤ 0 by decide), if_pos (show (-1 : Int32) < 0 by decide)]
      · rw [h1, h2, if_neg (nI_nle b1 (by omega)), if_neg (nI_pos (by omega))]
        rcases Nat.lt_or_ge p a with hap | hap
        · have hw : nI p - nI a + 1 ≤ 0 := by
            rw [show nI p - nI a + 1 = nI (p + 1) - nI a by rw [← nI_1]; grind]
            rcases Nat.eq_or_lt_of_le (show p + 1 ≤ a from hap) with q | q
            · rw [q, Int32.sub_self]; decide
            · exact Int32.le_of_lt (pk_sneg (by omega) q)
          rw [if_neg (fun q => absurd (nI_inj (by omega) (by omega) (Int32.le_antisymm q (nI_le (by omega) (by omega)))) (by omega) : ¬ nI a ≤ nI p)]
          rw [jMin, if_pos (show nI p - nI a + 1 < nI b from Int32.lt_of_le_of_lt hw (nI_lt (a := 0) b1 (by omega)))]
          rw [if_neg (Int32.not_lt.mpr hw)]
        · rw [if_pos (nI_le hap (by omega)), pk_sub hap, nI_1]
          have hm : jMin (nI b) (nI (p - a + 1)) = if nI b ≤ nI (p - a + 1) then nI b else nI (p - a + 1) := by
            rw [jMin]
            by_cases q : nI (p - a + 1) < nI b
            · rw [if_pos q, if_neg (Int32.not_le.mpr q)]
            · rw [if_neg q, if_pos (Int32.not_lt.mp q)]
          have hm0 : 0 < jMin (nI b) (nI (p - a + 1)) := by
            rw [jMin]; split
            · exact nI_lt (a := 0) (by omega) (by omega)
            · exact nI_lt (a := 0) b1 (by omega)
          rw [if_pos hm0, hm]
          exact r_paid (r_b4p O hk)
theorem r_h2 (O : Ok v) (R : Rel f v) {h : Nat} (hh : h < bnH v) : f (26 + h) = 0 ∨ f (26 + h) = 1 := by
  obtain ⟨x, x1, x2, ex⟩ := (O.H h hh).r
  rw [R.r h (by have := O.nH; omega), ex]
  rcases (show x = 0 ∨ x = 1 by omega) with rfl | rfl
  · exact Or.inl rfl
  · exact Or.inr rfl
theorem r_ret (O : Ok v) (R : Rel f v) (A : AE v w fi gr) {k : Nat} (hk : k < bnB v) : jReturn v w (nI k) = mRet f fi gr (bnH v) k := by
  obtain ⟨e0, hh, e1⟩ := r_mBh O R hk
  have e1' : bC v (nI k) 0 = nI (mBh f k) := e1
  rw [jReturn, e1', r_runsN O R hh, mRet, r_win O R A hk, r_place O R A hk, ← r_staked O R hk]
  rcases r_h2 O R hh with q | q <;> rw [q] <;> simp
theorem r_rea (O : Ok v) (R : Rel f v) (A : AE v w fi gr) {k : Nat} (hk : k < bnB v) : jReason v w (nI k) = mRea f fi gr (bnH v) k := by
  obtain ⟨e0, hh, e1⟩ := r_mBh O R hk
  have e1' : bC v (nI k) 0 = nI (mBh f k) := e1
  rw [jReason, e1', r_runsN O R hh, mRea, r_win O R A hk, r_place O R A hk, A.P, r_places O R]
  rcases r_h2 O R hh with q | q <;> rw [q] <;> simp
theorem r_off (O : Ok v) (R : Rel f v) (A : AE v w fi gr) {k : Nat} (hk : k < bnL v) : jOff v w (nI k) = mOffRet f fi gr k := by
  have hl := O.nL
  have h0 := O.nH
  obtain ⟨e0, hh, e1⟩ := r_mOh O R hk
  have hh10 : mOh f k < 10 := by omega
  have e1' : lC v (nI k) 0 = nI (mOh f k) := e1
  rw [jOff, e1', r_runsN O R hh, aOf_nI _ hh10, aOf_nI _ hh10, A.F _ hh10, A.G _ hh10, mOffRet, mForWin, r_mO R (by omega) (by decide), r_mO R (by omega) (by decide), r_mO R (by omega) (by decide)]
  show (if decide (f (26 + mOh f k) = 1) = true then (if fi (mOh f k) = 1 then (if 0 < gr (mOh f k) then jPaid (lA v k 1 / gr (mOh f k)) (lA v k 2) (lA v k 3) 0 else 0) else 0) else lA v k 1) = _
  rcases r_h2 O R hh with q | q <;> rw [q]
  · simp
  · simp only [decide_true, if_true]
    rw [if_neg (show ¬ (1 : Int32) = 0 by decide)]
    by_cases q : fi (mOh f k) = 1
    · rw [if_pos q, if_pos q]
      rcases A.ok _ hh10 with ⟨h1, h2⟩ | ⟨a, b, a1, a2, b1, b2, h1, h2⟩
      · rw [h1] at q; exact absurd q (by decide)
      · rw [if_pos (by rw [h2]; exact nI_lt (a := 0) b1 (by omega))]
        obtain ⟨b, b1, b2, e⟩ := (O.L k hk).b
        exact r_paid (by rw [e]; exact nI_lt (a := 0) b1 (by omega))
    · rw [if_neg q, if_neg q]
def sR (f fi gr : Nat → Int32) (nh : Nat) : Nat → Int32
  | 0 => 0
  | i + 1 => sR f fi gr nh i + mRet f fi gr nh i
def sO (f fi gr : Nat → Int32) : Nat → Int32
  | 0 => 0
  | i + 1 => sO f fi gr i + mOffRet f fi gr i
theorem r_jW1 (O : Ok v) (R : Rel f v) (A : AE v w fi gr) : ∀ i, i ≤ bnB v → jW1 v w i = 10000000 + jStakes v (bnB v) - tS (bvl v) 30 5 (nI (bnL v)) 1 (bnL v) - sR f fi gr (bnH v) i
  | 0, _ => by rw [jW1, sR]; grind
  | i + 1, h => by rw [jW1, sR, r_jW1 O R A i (by omega), r_ret O R A (by omega)]; grind
theorem r_mW1 (O : Ok v) (R : Rel f v) : ∀ i, i ≤ bnB v → mW1 f fi gr (bnH v) i = jStakes v i - sR f fi gr (bnH v) i
  | 0, _ => by rw [mW1, sR, jStakes]; rfl
  | i + 1, h => by rw [mW1, sR, jStakes, r_mW1 O R i (by omega), r_staked O R (by omega)]; grind
theorem r_jW2 (O : Ok v) (R : Rel f v) (A : AE v w fi gr) : ∀ i, i ≤ bnL v → jW2 v w i = 10000000 + jStakes v (bnB v) - tS (bvl v) 30 5 (nI (bnL v)) 1 (bnL v) - sR f fi gr (bnH v) (bnB v) + sO f fi gr i
  | 0, _ => by rw [jW2, sO, r_jW1 O R A _ (Nat.le_refl _)]; grind
  | i + 1, h => by rw [jW2, sO, r_jW2 O R A i (by omega), r_off O R A (by omega)]; grind
theorem r_mW2 (O : Ok v) (R : Rel f v) : ∀ i, i ≤ bnL v → mW2 f fi gr (bnH v) (bnB v) i = jStakes v (bnB v) - sR f fi gr (bnH v) (bnB v) + sO f fi gr i - tS (bvl v) 30 5 (nI (bnL v)) 1 i
  | 0, _ => by rw [mW2, sO, tS, r_mW1 O R _ (Nat.le_refl _)]; grind
  | i + 1, h => by
    rw [mW2, sO, tS, r_mW2 O R i (by omega), r_mO R (by have := O.nL; omega) (by decide)]
    show _ + (_ - lA v i 1) = _ - (_ + lA v i 1)
    grind
theorem r_would (O : Ok v) (R : Rel f v) (A : AE v w fi gr) : jWould v w = mWins f fi gr (bnH v) (bnB v) (bnL v) + 10000000 := by
  rw [jWould, mWins, r_jW2 O R A _ (Nat.le_refl _), r_mW2 O R _ (Nat.le_refl _)]
  grind
end RT
/-! the arrival of a horse ahead of all others -/
def WI (w : AV) (p : Int32) (fi gr : Nat → Int32) (n : Nat) : Prop :=
  (avP w = p) ∧
  (avA w = nI n) ∧
  (∀ j, j < 10 → avF w j = fi j) ∧
  (∀ j, j < 10 → avG w j = gr j) ∧
  (∀ j, j < 10 → (fi j = -1 ∧ gr j = -1) ∨ ∃ a, 1 ≤ a ∧ a ≤ n ∧ fi j = nI a ∧ gr j = 1)
theorem WI.P {w : AV} {p : Int32} {fi gr : Nat → Int32} {n : Nat} (h9 : WI w p fi gr n) : avP w = p := h9.1
theorem WI.A {w : AV} {p : Int32} {fi gr : Nat → Int32} {n : Nat} (h9 : WI w p fi gr n) : avA w = nI n := h9.2.1
theorem WI.F {w : AV} {p : Int32} {fi gr : Nat → Int32} {n : Nat} (h9 : WI w p fi gr n) : ∀ j, j < 10 → avF w j = fi j := h9.2.2.1
theorem WI.G {w : AV} {p : Int32} {fi gr : Nat → Int32} {n : Nat} (h9 : WI w p fi gr n) : ∀ j, j < 10 → avG w j = gr j := h9.2.2.2.1
theorem WI.ok {w : AV} {p : Int32} {fi gr : Nat → Int32} {n : Nat} (h9 : WI w p fi gr n) : ∀ j, j < 10 → (fi j = -1 ∧ gr j = -1) ∨ ∃ a, 1 ≤ a ∧ a ≤ n ∧ fi j = nI a ∧ gr j = 1 := h9.2.2.2.2
theorem WI.step {w : AV} {p : Int32} {fi gr : Nat → Int32} {n i : Nat} (h : WI w p fi gr n) (hi : i < 10) (hn : n < 100) : WI (aArrive w (nI i) false) p (upd fi i (nI (n + 1))) (upd gr i 1) (n + 1) := by
  have hs : aS w false = nI (n + 1) := by rw [aS, if_neg (by decide), h.A, nI_1]
  rw [aArrive, if_pos (aIn_nI hi)]
  have hF : ∀ j, j < 10 → avF (aArr w (nI i) false) j = upd fi i (nI (n + 1)) j := fun j hj => by
    show upd (avF w) (nI i).toNatClampNeg (aS w false) j = _
    rw [nI_clamp (by omega), hs]
    by_cases e : j = i
    · subst e; rw [pk_us, pk_us]
    · rw [pk_un e, pk_un e, h.F j hj]
  refine ⟨h.P, ?_, hF, fun j hj => ?_, fun j hj => ?_⟩
  · show avA w + 1 = _; rw [h.A, nI_1]
  · show aG (upd (avF w) (nI i).toNatClampNeg (aS w false)) (aS w false) (avA w + 1 - aS w false + 1) (avG w) 10 j = _
    have h1 := hF j hj
    change upd (avF w) (nI i).toNatClampNeg (aS w false) j = _ at h1
    simp only [aG, h1]
    rw [hs, h.A, nI_1, Int32.sub_self]
    by_cases e : j = i
    · subst e; rw [pk_us, if_pos ⟨hj, rfl⟩, pk_us]; rfl
    · rw [pk_un e, pk_un e, if_neg, h.G j hj]
      intro q
      rcases h.ok j hj with ⟨h2, -⟩ | ⟨a, a1, a2, h2, -⟩
      · exact neg_lt (n + 1) (by omega) (h2.symm.trans q.2)
      · exact absurd (nI_inj (by omega) (by omega) (h2.symm.trans q.2)) (by omega)
  · by_cases e : j = i
    · subst e; rw [pk_us, pk_us]; exact Or.inr ⟨n + 1, by omega, Nat.le_refl _, rfl, rfl⟩
    · rw [pk_un e, pk_un e]
      rcases h.ok j hj with h2 | ⟨a, a1, a2, h2, h3⟩
      · exact Or.inl h2
      · exact Or.inr ⟨a, a1, by omega, h2, h3⟩
theorem wAh_le (f : Nat → Int32) (h : Nat) : ∀ i, wAh f h i ≤ i + 1
  | 0 => Nat.le_refl _
  | i + 1 => by
    have := wAh_le f h i
    rw [wAh]
    by_cases q : i = h
    · rw [if_pos q]; omega
    · rw [if_neg q]; split <;> omega
theorem WI.beg (p : Int32) : WI (aBegin a0 p) p mNeg mNeg 0 := by
  refine ⟨?_, ?_, ?_, ?_, ?_⟩
  · exact rfl
  · exact rfl
  · exact fun j hj => by show aB (avF a0) 10 j = _; rw [aB, if_pos hj]; rfl
  · exact fun j hj => by show aB (avG a0) 10 j = _; rw [aB, if_pos hj]; rfl
  · exact fun _ _ => Or.inl ⟨rfl, rfl⟩
theorem r_wwA {f : Nat → Int32} {v : BV} (O : Ok v) (R : Rel f v) {h : Nat} (hh : h < bnH v) : ∀ i, i ≤ bnH v → WI (wwA v (nI h) i) (jPlaces v) (wFi f h mNeg i) (wGr f h mNeg i) (wAh f h i)
  | 0, _ => (WI.beg _).step (by have := O.nH; omega) (by decide)
  | i + 1, hi => by
    have h0 := O.nH
    have k := r_wwA O R hh i (by omega)
    have hn := wAh_le f h i
    rw [wwA, wFi, wGr, wAh]
    by_cases e : i = h
    · subst e; simp only [not_true, false_and, if_false, if_true]; exact k
    · have e2 : ¬ nI i = nI h := fun q => e (nI_inj (by omega) (by omega) q)
      simp only [e2, e, not_false_eq_true, true_and, if_false, r_runsN O R (show i < bnH v by omega), decide_eq_true_eq]
      by_cases q : f (26 + i) = 1
      · simp only [q, if_true]; exact k.step (by omega) (by omega)
      · simp only [q, if_false]; exact k
theorem r_wwE {f : Nat → Int32} {v : BV} (O : Ok v) (R : Rel f v) {h : Nat} (hh : h < bnH v) : AE v (wwA v (nI h) (bnH v)) (wFi f h mNeg (bnH v)) (wGr f h mNeg (bnH v)) := by
  have k := r_wwA O R hh _ (Nat.le_refl _)
  have hn := wAh_le f h (bnH v)
  have h0 := O.nH
  refine ⟨k.P, k.F, k.G, fun j hj => ?_⟩
  rcases k.ok j hj with q | ⟨a, a1, a2, q1, q2⟩
  · exact Or.inl q
  · exact Or.inr ⟨a, 1, a1, by omega, Nat.le_refl _, by decide, q1, q2⟩
theorem r_WW {f : Nat → Int32} {v : BV} (O : Ok v) (R : Rel f v) {h : Nat} (hh : h < bnH v) : jWould v (wwA v (nI h) (bnH v)) = mWW f (bnH v) (bnB v) (bnL v) h + 10000000 := r_would O R (r_wwE O R hh)
theorem r_ww {f : Nat → Int32} {v : BV} (O : Ok v) (R : Rel f v) {h : Nat} (hh : h < bnH v) : jWW v (nI h) = mIfF f (bnH v) (bnB v) (bnL v) h := by
  rw [jWW, mIfF, r_runsN O R hh, r_WW O R hh]
  by_cases q : f (26 + h) = 1
  · rw [if_pos q, if_pos (decide_eq_true q)]
  · rw [if_neg q, if_neg (by simpa using q)]
/-! the arrival of the buffer -/
theorem cS_same (tx : Nat → Int32) : ∀ k m, cS tx k ≤ m → m ≤ k → cS tx m = cS tx k
  | 0, m, _, h2 => by rw [show m = 0 by omega]
  | k + 1, m, h1, h2 => by
    rcases Nat.eq_or_lt_of_le h2 with q | q
    · rw [q]
    · rw [cS] at h1 ⊢
      by_cases e : tx (2 * k + 1) = 61
      · rw [if_pos e] at h1 ⊢; exact cS_same tx k m h1 (by omega)
      · rw [if_neg e] at h1; omega
theorem cZ_now (tx : Nat → Int32) (k : Nat) : cZ tx (k + 1) (cS tx k) = k + 1 - cS tx k := cZ_mid tx (cS tx k) k (fun m h1 h2 => cS_same tx k m h1 h2) (k + 1) (by have := cS_le tx k; omega) (Nat.le_refl _)
theorem l_pair (tx : Nat → Int32) : ∀ k, k < 2 ^ 30 → ∀ h, (lF tx mNeg k h = -1 ∧ ∀ n, lG tx n mNeg k h = -1) ∨ ∃ s, s < k ∧ lF tx mNeg k h = nI (s + 1) ∧ ∀ n, lG tx n mNeg k h = nI (cZ tx n s)
  | 0, _, h => Or.inl ⟨rfl, fun _ => rfl⟩
  | k + 1, hk, h => by
    rw [lF_s]
    by_cases e : h = lH tx k
    · subst e
      exact Or.inr ⟨cS tx k, by have := cS_le tx k; omega, pk_us, fun n => by rw [lG_s, pk_us]⟩
    · rcases l_pair tx k (by omega) h with ⟨h1, h2⟩ | ⟨s, h0, h1, h2⟩
      · exact Or.inl ⟨by rw [pk_un e, h1], fun n => by rw [lG_s, pk_un e, h2]⟩
      · exact Or.inr ⟨s, by omega, by rw [pk_un e, h1], fun n => by rw [lG_s, pk_un e, h2]⟩
theorem r_ra {v : BV} {tx : Nat → Int32} {ty : Nat} (ht : ty ≤ 30) (hx : okX tx ty) (hA : txArrival (tx, ty) = true) : ∀ k, k ≤ (ty + 1) / 2 →
    avP (raA v (tx, ty) k) = jPlaces v ∧ avA (raA v (tx, ty) k) = nI k ∧ (∀ m, k = m + 1 → avS (raA v (tx, ty) k) = nI (cS tx m + 1)) ∧ ∀ h, h < 10 → avF (raA v (tx, ty) k) h = lF tx mNeg k h ∧ avG (raA v (tx, ty) k) h = lG tx k mNeg k h
  | 0, _ => ⟨rfl, rfl, fun m q => absurd q (by omega), fun h hh => ⟨by show aB (avF a0) 10 h = _; rw [aB, if_pos hh]; rfl, by show aB (avG a0) 10 h = _; rw [aB, if_pos hh]; rfl⟩⟩
  | k + 1, hk => by
    obtain ⟨hodd, hlet⟩ := arr_let ht hx hA
    obtain ⟨i1, i2, i3, i4⟩ := r_ra (v := v) ht hx hA k (by omega)
    have hl := hlet k (by omega)
    have hH : raH (tx, ty) k = nI (lH tx k) := by rw [raH, mT_at (by omega) ht]; exact hl.1
    have hS : aS (raA v (tx, ty) k) (raT (tx, ty) k) = nI (cS tx k + 1) := by
      rw [aS, i2]
      rcases Nat.eq_zero_or_pos k with q | q
      · subst q; rfl
      · obtain ⟨m, rfl⟩ : ∃ m, k = m + 1 := ⟨k - 1, by omega⟩
        have hT : raT (tx, ty) (m + 1) = decide (tx (2 * m + 1) = 61) := by
          rw [raT, show nI (2 * (m + 1)) - 1 = nI (2 * m + 1) from nI_pred (2 * m + 1), mT_at (by omega) ht]
          simp
        rw [hT, cS]
        by_cases e : tx (2 * m + 1) = 61
        · rw [if_pos (decide_eq_true e), if_pos e]; exact i3 m rfl
        · rw [if_neg (by simpa using e), if_neg e, nI_1]
    have hcs := cS_le tx k
    rw [raA, hH, aArrive, if_pos (aIn_nI hl.2)]
    have hF : ∀ h, h < 10 → avF (aArr (raA v (tx, ty) k) (nI (lH tx k)) (raT (tx, ty) k)) h = lF tx mNeg (k + 1) h := fun h hh => by
      show upd (avF (raA v (tx, ty) k)) (nI (lH tx k)).toNatClampNeg (aS (raA v (tx, ty) k) (raT (tx, ty) k)) h = _
      rw [nI_clamp (by omega), hS, lF_s]
      by_cases e : h = lH tx k
      · subst e; rw [pk_us, pk_us]
      · rw [pk_un e, pk_un e, (i4 h hh).1]
    refine ⟨i1, ?_, fun m q => ?_, fun h hh => ⟨hF h hh, ?_⟩⟩
    · show avA (raA v (tx, ty) k) + 1 = _; rw [i2, nI_1]
    · show aS (raA v (tx, ty) k) (raT (tx, ty) k) = _; rw [hS, show m = k by omega]
    · show aG (upd (avF (raA v (tx, ty) k)) (nI (lH tx k)).toNatClampNeg (aS (raA v (tx, ty) k) (raT (tx, ty) k))) (aS (raA v (tx, ty) k) (raT (tx, ty) k)) (avA (raA v (tx, ty) k) + 1 - aS (raA v (tx, ty) k) (raT (tx, ty) k) + 1) (avG (raA v (tx, ty) k)) 10 h = _
      have h1 := hF h hh
      change upd (avF (raA v (tx, ty) k)) (nI (lH tx k)).toNatClampNeg (aS (raA v (tx, ty) k) (raT (tx, ty) k)) h = _ at h1
      simp only [aG, h1]
      rw [hS, i2, nI_1, pk_sub (by omega), nI_1]
      rcases l_pair tx (k + 1) (by omega) h with ⟨q1, q2⟩ | ⟨s, q0, q1, q2⟩
      · rw [q1, if_neg (fun q => neg_lt _ (by omega) q.2), (i4 h hh).2, q2]
        by_cases e : h = lH tx k
        · subst e; rw [lF_s, pk_us] at q1; exact absurd q1.symm (neg_lt _ (by omega))
        · have := q2 k; rw [lG_s, pk_un e] at this; exact this
      · rw [q1, q2]
        by_cases e2 : s = cS tx k
        · subst e2
          rw [if_pos ⟨hh, rfl⟩, cZ_now]; congr 1; omega
        · rw [if_neg (fun q => e2 (by have := nI_inj (by omega) (by omega) q.2; omega)), (i4 h hh).2]
          have e : ¬ h = lH tx k := fun q => by subst q; rw [lF_s, pk_us] at q1; exact e2 (by have := nI_inj (by omega) (by omega) q1; omega)
          have := q2 k
          rw [lG_s, pk_un e] at this
          rw [this, cZ, if_neg (fun q => e2 q.symm), Nat.add_zero]
theorem r_raE {v : BV} {tx : Nat → Int32} {ty : Nat} (ht : ty ≤ 30) (hx : okX tx ty) (hA : txArrival (tx, ty) = true) : AE v (raA v (tx, ty) ((ty + 1) / 2)) (lF tx mNeg ((ty + 1) / 2)) (lG tx ((ty + 1) / 2) mNeg ((ty + 1) / 2)) := by
  obtain ⟨i1, i2, i3, i4⟩ := r_ra (v := v) ht hx hA _ (Nat.le_refl _)
  refine ⟨i1, fun h hh => (i4 h hh).1, fun h hh => (i4 h hh).2, fun h hh => ?_⟩
  rcases l_pair tx ((ty + 1) / 2) (by omega) h with ⟨q1, q2⟩ | ⟨s, q0, q1, q2⟩
  · exact Or.inl ⟨q1, q2 _⟩
  · rcases Nat.eq_zero_or_pos (cZ tx ((ty + 1) / 2) s) with z | z
    · refine absurd z ?_
      have : ∀ k, k < 2 ^ 30 → ∀ h s, lF tx mNeg k h = nI (s + 1) → s < 2 ^ 30 → ∃ m, m < k ∧ cS tx m = s := by
        intro k
        induction k with
        | zero => intro _ h s e hs; exact absurd (show (-1 : Int32) = nI (s + 1) from e) (neg_lt _ (by omega))
        | succ k ih =>
          intro hk h s e hs
          rw [lF_s] at e
          by_cases q : h = lH tx k
          · subst q; rw [pk_us] at e
            have hc := cS_le tx k
            exact ⟨k, by omega, by have := nI_inj (by omega) (by omega) e; omega⟩
          · rw [pk_un q] at e
            obtain ⟨m, hm, e2⟩ := ih (by omega) h s e hs
            exact ⟨m, by omega, e2⟩
      obtain ⟨m, hm, e⟩ := this _ (by omega) h s q1 (by omega)
      have := cZ_pos tx _ hm
      rw [e] at this; omega
    · have hc := cZ_le tx s ((ty + 1) / 2)
      exact Or.inr ⟨s + 1, _, by omega, by omega, z, by omega, q1, q2 _⟩
/-- the class's text and the model's tell the same -/
def TR (x : TV) (tx : Nat → Int32) (ty : Nat) : Prop :=
  (txN x = ty) ∧
  (ty ≤ 30) ∧
  (∀ j, j < ty → txC x j = tx j) ∧
  (okX tx ty)
theorem TR.n {x : TV} {tx : Nat → Int32} {ty : Nat} (h9 : TR x tx ty) : txN x = ty := h9.1
theorem TR.le {x : TV} {tx : Nat → Int32} {ty : Nat} (h9 : TR x tx ty) : ty ≤ 30 := h9.2.1
theorem TR.at' {x : TV} {tx : Nat → Int32} {ty : Nat} (h9 : TR x tx ty) : ∀ j, j < ty → txC x j = tx j := h9.2.2.1
theorem TR.ok {x : TV} {tx : Nat → Int32} {ty : Nat} (h9 : TR x tx ty) : okX tx ty := h9.2.2.2
theorem TR.txAt_eq {x : TV} {tx : Nat → Int32} {ty : Nat} (T : TR x tx ty) : txAt x = txAt (tx, ty) := by
  funext i
  have hin : txIn x i = txIn (tx, ty) i := by simp only [txIn, T.n]; rfl
  rw [txAt, txAt, hin]
  by_cases q : txIn (tx, ty) i = true
  · rw [if_pos q, if_pos q]
    have q2 := q
    simp only [txIn, Bool.and_eq_true, Bool.not_eq_true', decide_eq_false_iff_not] at q2
    have ht := T.le
    obtain ⟨j, hj, e, -⟩ := pk_mu q2.1.1 q2.1.2 (show ty < 2 ^ 31 by omega)
    have hj2 : j < ty := hj
    rw [e, nI_clamp (by omega)]; exact T.at' j hj2
  · rw [if_neg q, if_neg q]
section TXE
variable {x : TV} {tx : Nat → Int32} {ty : Nat}
theorem TR.used (T : TR x tx ty) : ∀ i, txUsed x i = txUsed (tx, ty) i
  | 0 => rfl
  | i + 1 => by rw [txUsed, txUsed, T.used i, txBit, txBit, T.txAt_eq]
theorem TR.bad (T : TR x tx ty) (i : Nat) : txBad x i = txBad (tx, ty) i := by rw [txBad, txBad, T.used, txBit, txBit, T.txAt_eq]
theorem TR.fF (T : TR x tx ty) : ∀ k i, txF x k i = txF (tx, ty) k i
  | 0, _ => rfl
  | k + 1, i => by rw [txF, txF, T.bad, T.fF k]
theorem TR.wrong (T : TR x tx ty) : txWrong x = txWrong (tx, ty) := by rw [txWrong, txWrong, T.n, T.fF]; rfl
theorem TR.arr (T : TR x tx ty) : txArrival x = txArrival (tx, ty) := by rw [txArrival, txArrival, T.wrong, T.n]; rfl
theorem TR.ra (T : TR x tx ty) (v : BV) : ∀ k, raA v x k = raA v (tx, ty) k
  | 0 => rfl
  | k + 1 => by rw [raA, raA, T.ra v k, raH, raH, raT, raT, T.txAt_eq]
theorem TR.rOk (T : TR x tx ty) (v : BV) : ∀ k, raOk v x k = raOk v (tx, ty) k
  | 0 => rfl
  | k + 1 => by rw [raOk, raOk, T.rOk v k, raH, raH, T.txAt_eq]
theorem r_lOk {f : Nat → Int32} {v : BV} (O : Ok v) (R : Rel f v) (ht : ty ≤ 30) : ∀ k, 2 * k ≤ ty + 1 → raOk v (tx, ty) k = lOk f tx k
  | 0, _ => rfl
  | k + 1, h => by rw [raOk, lOk, r_lOk O R ht k (by omega), raH, mT_at (by omega) ht, r_runs O R]
theorem r_arr {f : Nat → Int32} {v : BV} (O : Ok v) (R : Rel f v) (T : TR x tx ty) : jArr v x = mArr f tx ty := by
  rw [jArr, mArr, T.arr, raK, T.n, T.rOk, r_lOk O R T.le _ (by omega)]
theorem r_if {f : Nat → Int32} {v : BV} (O : Ok v) (R : Rel f v) (T : TR x tx ty) : jIf v x = mIf f tx ty (bnH v) (bnB v) (bnL v) := by
  rw [jIf, mIf, r_arr O R T]
  by_cases q : mArr f tx ty = true
  · rw [if_pos q, if_pos q, raK, T.n, T.ra, mAW]
    simp only [mArr, Bool.and_eq_true] at q
    exact r_would O R (r_raE T.le T.ok q.1)
  · rw [if_neg q, if_neg q]
end TXE
