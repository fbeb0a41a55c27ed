/-! PURE: settle -/
theorem jRet_congr {u v : BV} (w : AV) {k : Nat} (eb : ∀ c, c < 6 → bA u k c = bA v k c) (ep : bvP u = bvP v) (eh : ∀ y, hC u y 2 = hC v y 2) : jReturn u w (nI k) = jReturn v w (nI k) ∧ jReason u w (nI k) = jReason v w (nI k) := by
  have e0 : bC u (nI k) 0 = bC v (nI k) 0 := eb 0 (by decide)
  have e1 : bC u (nI k) 1 = bC v (nI k) 1 := eb 1 (by decide)
  have e2 : bC u (nI k) 2 = bC v (nI k) 2 := eb 2 (by decide)
  have e3 : bC u (nI k) 3 = bC v (nI k) 3 := eb 3 (by decide)
  have e4 : bC u (nI k) 4 = bC v (nI k) 4 := eb 4 (by decide)
  have e5 : bC u (nI k) 5 = bC v (nI k) 5 := eb 5 (by decide)
  unfold jReturn jReason jRuns jWin jPlace jIn jWhole
  rw [e0, e1, e2, e3, e4, e5, ep, eh]
  exact ⟨rfl, rfl⟩
theorem jOff_congr {u v : BV} (w : AV) {k : Nat} (eb : ∀ c, c < 4 → lA u k c = lA v k c) (eh : ∀ y, hC u y 2 = hC v y 2) : jOff u w (nI k) = jOff v w (nI k) := by
  have e0 : lC u (nI k) 0 = lC v (nI k) 0 := eb 0 (by decide)
  have e1 : lC u (nI k) 1 = lC v (nI k) 1 := eb 1 (by decide)
  have e2 : lC u (nI k) 2 = lC v (nI k) 2 := eb 2 (by decide)
  have e3 : lC u (nI k) 3 = lC v (nI k) 3 := eb 3 (by decide)
  unfold jOff jRuns
  rw [e0, e1, e2, e3, eh]
theorem tC_tP2 {f : Nat → Int32} {len C n r c c' : Nat} {y x : Int32} (hr : r < n) (hc : c < C) (hc' : c' < C) (hne : c' ≠ c) (hl : n * C ≤ len) (hb : len < 2 ^ 31) : tC (tP f len (nI C) (nI n) (nI r) (nI c) x) len (nI C) (nI n) y (nI c') = tC f len (nI C) (nI n) y (nI c') := by
  have hC0 : 0 < C := by omega
  have hnC : n ≤ n * C := Nat.le_mul_of_pos_right n hC0
  rcases pk_ix y (n := n) (by omega) with q | q | ⟨j, hj, rfl⟩
  · rw [tC, tC, if_neg (by simp [tIn, q]), if_neg (by simp [tIn, q])]
  · rw [tC, tC, if_neg (by simp [tIn, q]), if_neg (by simp [tIn, q])]
  · rw [tC_tP hr hc hc' hl hb (by omega), if_neg (by omega)]
theorem hC_put2 (v : BV) {r c : Nat} {c0 x y : Int32} {n : Nat} (ec : c0 = nI c) (en : bnH v = n) (h0 : n ≤ 10) (hr : r < n) (hc : c < 9) (h2 : c ≠ 2) : hC (hPut v (nI r) c0 x) y 2 = hC v y 2 := by
  subst ec; subst en
  exact tC_tP2 (C := 9) (c' := 2) hr hc (by decide) (fun q => h2 q.symm) (show bnH v * 9 ≤ 90 by omega) (by decide)
section ST
variable {v : BV} {w : AV}
theorem hA_s1 (v : BV) (w : AV) (h0 : bnH v ≤ 10) : ∀ i, i ≤ bnH v → ∀ r c, r < 2 ^ 31 → c < 9 → hA (jS1 v w i) r c = if r < i ∧ c = 8 then aOf (avG w) (nI r) else if r < i ∧ c = 7 then aOf (avF w) (nI r) else hA v r c
  | 0, _, r, c, _, _ => by rw [if_neg (by omega), if_neg (by omega)]; rfl
  | i + 1, hi, r, c, hr, hc => by
    have hn : bnH (jS1 v w i) = bnH v := (jS1_n v w i).1
    rw [jS1, hA_putl _ 8 (n := bnH v) (by rfl) (by exact hn) h0 (by omega) (by decide) hr hc, hA_putl _ 7 (n := bnH v) (by rfl) hn h0 (by omega) (by decide) hr hc, hA_s1 v w h0 i (by omega) r c hr hc]
    by_cases q : r = i
    · subst q
      by_cases q8 : c = 8 <;> by_cases q7 : c = 7 <;> simp [q8, q7]
    · have e : (r < i + 1) = (r < i) := by apply propext; omega
      rw [if_neg (fun z => q z.1), if_neg (fun z => q z.1)]
      simp only [e]
theorem hC_s1 (v : BV) (w : AV) (h0 : bnH v ≤ 10) (y : Int32) : ∀ i, i ≤ bnH v → hC (jS1 v w i) y 2 = hC v y 2
  | 0, _ => rfl
  | i + 1, hi => by
    have hn : bnH (jS1 v w i) = bnH v := (jS1_n v w i).1
    rw [jS1, hC_put2 (c := 8) (n := bnH v) _ (by rfl) (by exact hn) h0 (by omega) (by decide) (by decide), hC_put2 (c := 7) (n := bnH v) _ (by rfl) hn h0 (by omega) (by decide) (by decide), hC_s1 v w h0 y i (by omega)]
theorem s1_rest (v : BV) (w : AV) : ∀ i, bnB (jS1 v w i) = bnB v ∧ bnL (jS1 v w i) = bnL v ∧ bvb (jS1 v w i) = bvb v ∧ bvl (jS1 v w i) = bvl v ∧ bvP (jS1 v w i) = bvP v ∧ bvO (jS1 v w i) = bvO v
  | 0 => ⟨rfl, rfl, rfl, rfl, rfl, rfl⟩
  | i + 1 => s1_rest v w i
theorem s2_rest (v : BV) (w : AV) : ∀ i, bnH (jS2 v w i) = bnH v ∧ bnL (jS2 v w i) = bnL v ∧ bvh (jS2 v w i) = bvh (jS1 v w (bnH v)) ∧ bvl (jS2 v w i) = bvl v ∧ bvP (jS2 v w i) = bvP v ∧ bvO (jS2 v w i) = bvO v
  | 0 => ⟨(jS1_n v w _).1, (jS1_n v w _).2.2, rfl, (s1_rest v w _).2.2.2.1, (s1_rest v w _).2.2.2.2.1, (s1_rest v w _).2.2.2.2.2⟩
  | i + 1 => s2_rest v w i
theorem s3_rest (v : BV) (w : AV) : ∀ i, bnH (jS3 v w i) = bnH v ∧ bnB (jS3 v w i) = bnB v ∧ bvh (jS3 v w i) = bvh (jS1 v w (bnH v)) ∧ bvb (jS3 v w i) = bvb (jS2 v w (bnB v)) ∧ bvP (jS3 v w i) = bvP v ∧ bvO (jS3 v w i) = bvO v
  | 0 => ⟨(s2_rest v w _).1, (jS2_n v w _).2.1, (s2_rest v w _).2.2.1, rfl, (s2_rest v w _).2.2.2.2.1, (s2_rest v w _).2.2.2.2.2⟩
  | i + 1 => s3_rest v w i
theorem hC_of {u v2 : BV} (e1 : bvh u = bvh v2) (e2 : bnH u = bnH v2) (y c : Int32) : hC u y c = hC v2 y c := by unfold hC; rw [e1, e2]
theorem hC_s2 (v : BV) (w : AV) (h0 : bnH v ≤ 10) (y : Int32) (i : Nat) : hC (jS2 v w i) y 2 = hC v y 2 :=
  (hC_of (s2_rest v w i).2.2.1 ((s2_rest v w i).1.trans (jS1_n v w _).1.symm) y 2).trans (hC_s1 v w h0 y _ (Nat.le_refl _))
theorem bA_s2 (v : BV) (w : AV) (h0 : bnH v ≤ 10) (hb : bnB v ≤ 24) : ∀ i, i ≤ bnB v → ∀ k c, k < 2 ^ 31 → c < 8 → bA (jS2 v w i) k c = if k < i ∧ c = 7 then jReason v w (nI k) else if k < i ∧ c = 6 then jReturn v w (nI k) else bA v k c
  | 0, _, k, c, _, _ => by
    rw [if_neg (by omega), if_neg (by omega)]
    show tC (bvb (jS1 v w (bnH v))) 192 8 (nI (bnB (jS1 v w (bnH v)))) (nI k) (nI c) = _
    rw [(s1_rest v w _).2.2.1, (s1_rest v w _).1]
  | i + 1, hi, k, c, hk, hc => by
    have hn : bnB (jS2 v w i) = bnB v := (jS2_n v w i).2.1
    have ih := bA_s2 v w h0 hb i (by omega)
    have e6 : ∀ d, d < 6 → bA (jS2 v w i) i d = bA v i d := fun d hd => by rw [ih i d (by omega) (by omega), if_neg (by omega), if_neg (by omega)]
    have c1 := (jRet_congr w (k := i) e6 (s2_rest v w i).2.2.2.2.1 (fun y => hC_s2 v w h0 y i)).1
    have e6b : ∀ d, d < 6 → bA (bPut (jS2 v w i) (nI i) 6 (jReturn (jS2 v w i) w (nI i))) i d = bA v i d := fun d hd => by
      rw [bA_putl _ 6 (n := bnB v) (by rfl) hn hb (by omega) (by decide) (by omega) (by omega), if_neg (by omega), e6 d hd]
    have c2 := (jRet_congr w (k := i) e6b (s2_rest v w i).2.2.2.2.1 (fun y => hC_s2 v w h0 y i)).2
    rw [jS2, c2, bA_putl _ 7 (n := bnB v) (by rfl) (by exact hn) hb (by omega) (by decide) hk hc, bA_putl _ 6 (n := bnB v) (by rfl) hn hb (by omega) (by decide) hk hc, c1, ih k c hk hc]
    by_cases q : k = i
    · subst q
      by_cases q8 : c = 7 <;> by_cases q7 : c = 6 <;> simp [q8, q7]
    · have e : (k < i + 1) = (k < i) := by apply propext; omega
      rw [if_neg (fun z => q z.1), if_neg (fun z => q z.1)]
      simp only [e]
theorem hC_s3 (v : BV) (w : AV) (h0 : bnH v ≤ 10) (y : Int32) (i : Nat) : hC (jS3 v w i) y 2 = hC v y 2 :=
  (hC_of (s3_rest v w i).2.2.1 ((s3_rest v w i).1.trans (jS1_n v w _).1.symm) y 2).trans (hC_s1 v w h0 y _ (Nat.le_refl _))
theorem lA_s3 (v : BV) (w : AV) (h0 : bnH v ≤ 10) (hb : bnL v ≤ 6) : ∀ i, i ≤ bnL v → ∀ k c, k < 2 ^ 31 → c < 5 → lA (jS3 v w i) k c = if k < i ∧ c = 4 then jOff v w (nI k) else lA v k c
  | 0, _, k, c, _, _ => by
    rw [if_neg (by omega)]
    show tC (bvl (jS2 v w (bnB v))) 30 5 (nI (bnL (jS2 v w (bnB v)))) (nI k) (nI c) = _
    rw [(s2_rest v w _).2.2.2.1, (s2_rest v w _).2.1]
  | i + 1, hi, k, c, hk, hc => by
    have hn : bnL (jS3 v w i) = bnL v := (jS3_n v w i).2.2
    have ih := lA_s3 v w h0 hb i (by omega)
    have e4 : ∀ d, d < 4 → lA (jS3 v w i) i d = lA v i d := fun d hd => by rw [ih i d (by omega) (by omega), if_neg (by omega)]
    have c1 := jOff_congr w (k := i) e4 (fun y => hC_s3 v w h0 y i)
    rw [jS3, c1, lA_putl _ 4 (n := bnL v) (by rfl) hn hb (by omega) (by decide) hk hc, ih k c hk hc]
    by_cases q : k = i
    · subst q
      by_cases q7 : c = 4
      · rw [if_pos ⟨rfl, q7⟩, if_pos ⟨Nat.lt_succ_self _, q7⟩]
      · rw [if_neg (fun z => q7 z.2), if_neg (fun z => q7 z.2), if_neg (fun z => q7 z.2)]
    · have e : (k < i + 1) = (k < i) := by apply propext; omega
      rw [if_neg (fun z => q z.1)]
      simp only [e]
/-- the settled book, column by column -/
theorem st_h (v : BV) (w : AV) (h0 : bnH v ≤ 10) (r c : Nat) (hr : r < 2 ^ 31) (hc : c < 9) : hA (jSettle v w) r c = if r < bnH v ∧ c = 8 then aOf (avG w) (nI r) else if r < bnH v ∧ c = 7 then aOf (avF w) (nI r) else hA v r c := by
  rw [← hA_s1 v w h0 _ (Nat.le_refl _) r c hr hc]
  exact hC_of (u := jSettle v w) (v2 := jS1 v w (bnH v)) (s3_rest v w _).2.2.1 ((s3_rest v w _).1.trans (jS1_n v w _).1.symm) _ _
theorem st_b (v : BV) (w : AV) (h0 : bnH v ≤ 10) (hb : bnB v ≤ 24) (k c : Nat) (hk : k < 2 ^ 31) (hc : c < 8) : bA (jSettle v w) k c = if k < bnB v ∧ c = 7 then jReason v w (nI k) else if k < bnB v ∧ c = 6 then jReturn v w (nI k) else bA v k c := by
  rw [← bA_s2 v w h0 hb _ (Nat.le_refl _) k c hk hc]
  show tC (bvb (jS3 v w (bnL v))) 192 8 (nI (bnB (jS3 v w (bnL v)))) (nI k) (nI c) = tC (bvb (jS2 v w (bnB v))) 192 8 (nI (bnB (jS2 v w (bnB v)))) (nI k) (nI c)
  rw [(s3_rest v w _).2.2.2.1, (s3_rest v w _).2.1, (jS2_n v w _).2.1]
theorem st_l (v : BV) (w : AV) (h0 : bnH v ≤ 10) (hl : bnL v ≤ 6) (k c : Nat) (hk : k < 2 ^ 31) (hc : c < 5) : lA (jSettle v w) k c = if k < bnL v ∧ c = 4 then jOff v w (nI k) else lA v k c := lA_s3 v w h0 hl _ (Nat.le_refl _) k c hk hc
end ST
section SM
variable {F fi gr : Nat → Int32} {v : BV} {w : AV}
theorem mField_eq {g f : Nat → Int32} (e : ∀ i, i < 10 → g (26 + i) = f (26 + i)) : ∀ n, n ≤ 10 → mField g n = mField f n
  | 0, _ => rfl
  | n + 1, h => by rw [mField, mField, mField_eq e n (by omega), e n (by omega)]
theorem mRet_congr {g f fi gr : Nat → Int32} {nh k : Nat} (hn : nh ≤ 10) (hk : mBh f k < 10) (eb : ∀ c, c < 6 → g (66 + 8 * k + c) = f (66 + 8 * k + c)) (e26 : ∀ i, i < 10 → g (26 + i) = f (26 + i)) (e4 : g 4 = f 4) : mRet g fi gr nh k = mRet f fi gr nh k ∧ mRea g fi gr nh k = mRea f fi gr nh k := by
  have e0 : mB g k 0 = mB f k 0 := eb 0 (by decide)
  have e1 : mB g k 1 = mB f k 1 := eb 1 (by decide)
  have e2 : mB g k 2 = mB f k 2 := eb 2 (by decide)
  have e3 : mB g k 3 = mB f k 3 := eb 3 (by decide)
  have e44 : mB g k 4 = mB f k 4 := eb 4 (by decide)
  have e5 : mB g k 5 = mB f k 5 := eb 5 (by decide)
  have eh : mBh g k = mBh f k := by rw [mBh, mBh, e0]
  have ep : mPlaces g nh = mPlaces f nh := by rw [mPlaces, mPlaces, mField_eq e26 nh hn]
  unfold mRet mRea mWinOf mPlaceOf mForPlace mC mWithin mStaked
  rw [eh, e1, e2, e3, e44, e5, ep, e4, e26 _ hk]
  exact ⟨rfl, rfl⟩
theorem mOff_congr {g f fi gr : Nat → Int32} {k : Nat} (hk : mOh f k < 10) (eb : ∀ c, c < 4 → g (258 + 5 * k + c) = f (258 + 5 * k + c)) (e26 : ∀ i, i < 10 → g (26 + i) = f (26 + i)) : mOffRet g fi gr k = mOffRet f fi gr k := by
  have e0 : mO g k 0 = mO f k 0 := eb 0 (by decide)
  have e1 : mO g k 1 = mO f k 1 := eb 1 (by decide)
  have e2 : mO g k 2 = mO f k 2 := eb 2 (by decide)
  have e3 : mO g k 3 = mO f k 3 := eb 3 (by decide)
  have eh : mOh g k = mOh f k := by rw [mOh, mOh, e0]
  unfold mOffRet
  rw [eh, e1, e2, e3, e26 _ hk]
theorem mS1_at (O : Ok v) (R : Rel F v) : ∀ i, i ≤ bnB v → (∀ k c, k < 24 → c < 8 → mS1 F fi gr (bnH v) i (66 + 8 * k + c) = if k < i ∧ c = 7 then mRea F fi gr (bnH v) k else if k < i ∧ c = 6 then mRet F fi gr (bnH v) k else F (66 + 8 * k + c)) ∧ mS1 F fi gr (bnH v) i 288 = sR F fi gr (bnH v) i ∧ mS1 F fi gr (bnH v) i 289 = 0
  | 0, _ => ⟨fun k c hk hc => by rw [if_neg (by omega), if_neg (by omega), mS1, pk_un (by omega), pk_un (by omega)], by rw [mS1, pk_un (by omega), pk_us]; rfl, by rw [mS1, pk_us]⟩
  | i + 1, hi => by
    have hb := O.nB
    obtain ⟨i1, i2, i3⟩ := mS1_at O R i (by omega)
    have ho := r_mBh O R (show i < bnB v by omega)
    obtain ⟨c1, c2⟩ := mRet_congr (g := mS1 F fi gr (bnH v) i) (f := F) (fi := fi) (gr := gr) (nh := bnH v) (k := i) O.nH (by have := O.nH; omega) (fun c hc => mS1_c F fi gr (bnH v) i (by omega) hc i (by omega)) (fun j hj => mS1_lo F fi gr (bnH v) (Or.inl (by omega)) i (by omega)) (mS1_lo F fi gr (bnH v) (Or.inl (by decide)) i (by omega))
    refine ⟨fun k c hk hc => ?_, ?_, ?_⟩
    · rw [mS1_s, c1, c2, pk_un (by omega)]
      by_cases q : k = i
      · subst q
        by_cases q8 : c = 7
        · subst q8; rw [pk_us, if_pos ⟨Nat.lt_succ_self _, rfl⟩]
        · rw [pk_un (by omega), if_neg (fun z => q8 z.2)]
          by_cases q7 : c = 6
          · subst q7; rw [pk_us, if_pos ⟨Nat.lt_succ_self _, rfl⟩]
          · rw [pk_un (by omega), if_neg (fun z => q7 z.2), i1 k c hk hc, if_neg (fun z => q8 z.2), if_neg (fun z => q7 z.2)]
      · have e : (k < i + 1) = (k < i) := by apply propext; omega
        rw [pk_un (by omega), pk_un (by omega), i1 k c hk hc]
        simp only [e]
    · rw [mS1_s, pk_us, i2, sR, c1]
    · rw [mS1_s, pk_un (by omega), pk_un (by omega), pk_un (by omega), i3]
theorem mS2_at (O : Ok v) (R : Rel F v) : ∀ i, i ≤ bnL v → (∀ j, j < 258 ∨ j = 288 → mS2 F fi gr (bnH v) (bnB v) i j = mS1 F fi gr (bnH v) (bnB v) j) ∧ (∀ k c, k < 6 → c < 5 → mS2 F fi gr (bnH v) (bnB v) i (258 + 5 * k + c) = if k < i ∧ c = 4 then mOffRet F fi gr k else F (258 + 5 * k + c)) ∧ mS2 F fi gr (bnH v) (bnB v) i 289 = sO F fi gr i
  | 0, _ => by
    have hb := O.nB
    exact ⟨fun _ _ => rfl, fun k c hk hc => by rw [if_neg (by omega)]; exact mS1_lo F fi gr (bnH v) (Or.inr (by omega)) _ hb, (mS1_at O R _ (Nat.le_refl _)).2.2⟩
  | i + 1, hi => by
    have hb := O.nB
    have hl := O.nL
    obtain ⟨i1, i2, i3⟩ := mS2_at O R i (by omega)
    have ho := r_mOh O R (show i < bnL v by omega)
    have c1 := mOff_congr (g := mS2 F fi gr (bnH v) (bnB v) i) (f := F) (fi := fi) (gr := gr) (k := i) (by have := O.nH; omega) (fun c hc => mS2_c F fi gr (bnH v) (bnB v) hb i (by omega) hc i (by omega)) (fun j hj => mS2_lo F fi gr (bnH v) (bnB v) hb (by omega) i)
    refine ⟨fun j hj => ?_, fun k c hk hc => ?_, ?_⟩
    · rw [mS2_s, pk_un (by omega), pk_un (by omega), i1 j hj]
    · rw [mS2_s, c1, pk_un (by omega)]
      by_cases q : k = i
      · subst q
        by_cases q7 : c = 4
        · subst q7; rw [pk_us, if_pos ⟨Nat.lt_succ_self _, rfl⟩]
        · rw [pk_un (by omega), i2 k c hk hc, if_neg (fun z => q7 z.2), if_neg (fun z => q7 z.2)]
      · have e : (k < i + 1) = (k < i) := by apply propext; omega
        rw [pk_un (by omega), i2 k c hk hc]
        simp only [e]
    · rw [mS2_s, pk_us, i3, sO, c1]
theorem mS3_at (F fi gr : Nat → Int32) (nh nb nl : Nat) : ∀ i, i ≤ 10 → (∀ j, j < 46 ∨ 66 ≤ j → mS3 F fi gr nh nb nl i j = mS2 F fi gr nh nb nl j) ∧ (∀ h, h < i → mS3 F fi gr nh nb nl i (46 + h) = fi h ∧ mS3 F fi gr nh nb nl i (56 + h) = gr h)
  | 0, _ => ⟨fun _ _ => rfl, fun h hh => absurd hh (Nat.not_lt_zero _)⟩
  | i + 1, hi => by
    obtain ⟨i1, i2⟩ := mS3_at F fi gr nh nb nl i (by omega)
    refine ⟨fun j hj => by rw [mS3_s, pk_un (by omega), pk_un (by omega), i1 j hj], fun h hh => ?_⟩
    by_cases q : h = i
    · subst q; exact ⟨by rw [mS3_s, pk_un (by omega), pk_us], by rw [mS3_s, pk_us]⟩
    · exact ⟨by rw [mS3_s, pk_un (by omega), pk_un (by omega), (i2 h (by omega)).1], by rw [mS3_s, pk_un (by omega), pk_un (by omega), (i2 h (by omega)).2]⟩
theorem settle_all (O : Ok v) (R : Rel F v) (A : AE v w fi gr) (hb9 : ∀ h, bnH v ≤ h → h < 10 → fi h = -1 ∧ gr h = -1) :
    Rel (mFin F fi gr (bnH v) (bnB v) (bnL v)) (jSettle v w) ∧ Ok (jSettle v w) ∧ jWon (jSettle v w) = mWins F fi gr (bnH v) (bnB v) (bnL v) + 10000000 := by
  have h0 := O.nH
  have hb := O.nB
  have hl := O.nL
  obtain ⟨a1, a2, a3⟩ := mS1_at (fi := fi) (gr := gr) O R _ (Nat.le_refl _)
  obtain ⟨b1, b2, b3⟩ := mS2_at (fi := fi) (gr := gr) O R _ (Nat.le_refl _)
  obtain ⟨c1, c2⟩ := mS3_at F fi gr (bnH v) (bnB v) (bnL v) 10 (Nat.le_refl _)
  have lo : ∀ j, j < 46 → j ≠ 3 → mFin F fi gr (bnH v) (bnB v) (bnL v) j = F j := fun j hj h3 => by
    rw [mFin, pk_un h3, c1 j (Or.inl hj), b1 j (Or.inl (by omega)), mS1_lo F fi gr (bnH v) (Or.inl (by omega)) _ hb]
  have n1 : bnH (jSettle v w) = bnH v := (s3_rest v w _).1
  have n2 : bnB (jSettle v w) = bnB v := (s3_rest v w _).2.1
  have n3 : bnL (jSettle v w) = bnL v := (jS3_n v w _).2.2
  have np : bvP (jSettle v w) = bvP v := (s3_rest v w _).2.2.2.2.1
  have no : bvO (jSettle v w) = bvO v := (s3_rest v w _).2.2.2.2.2
  have ns : bvS (jSettle v w) = true := rfl
  have eh : ∀ r c, r < 2 ^ 31 → c < 7 → hA (jSettle v w) r c = hA v r c := fun r c hr hc => by rw [st_h v w h0 r c hr (by omega), if_neg (by omega), if_neg (by omega)]
  have sum6 : ∀ i, i ≤ bnB v → tS (bvb (jSettle v w)) 192 8 (nI (bnB (jSettle v w))) 6 i = sR F fi gr (bnH v) i := fun i => by
    induction i with
    | zero => intro _; rfl
    | succ i ih =>
      intro h
      rw [tS, sR, ih (by omega)]
      have e : bA (jSettle v w) i 6 = mRet F fi gr (bnH v) i := by
        rw [st_b v w h0 hb i 6 (by omega) (by decide), if_neg (by omega), if_pos ⟨by omega, rfl⟩, r_ret O R A (by omega)]
      exact congrArg _ e
  have sum4 : ∀ i, i ≤ bnL v → tS (bvl (jSettle v w)) 30 5 (nI (bnL (jSettle v w))) 4 i = sO F fi gr i := fun i => by
    induction i with
    | zero => intro _; rfl
    | succ i ih =>
      intro h
      rw [tS, sO, ih (by omega)]
      have e : lA (jSettle v w) i 4 = mOffRet F fi gr i := by
        rw [st_l v w h0 hl i 4 (by omega) (by decide), if_pos ⟨by omega, rfl⟩, r_off O R A (by omega)]
      exact congrArg _ e
  refine ⟨?_, ?_, ?_⟩
  · refine Rel.mk ?_ ?_ ?_ ?_ ?_ ?_ (fun i hi => ?_) (fun i hi => ?_) (fun i hi => ?_) (fun i hi => ?_) (fun i hi => ?_) (fun i hi => ?_) (fun k hk u hu => ?_) (fun k hk u hu => ?_) ?_ ?_
    · rw [lo 0 (by decide) (by decide), n1]; exact R.n0
    · rw [lo 1 (by decide) (by decide), n2]; exact R.n1
    · rw [lo 2 (by decide) (by decide), n3]; exact R.n2
    · rw [mFin, pk_us, ns]; rfl
    · rw [lo 4 (by decide) (by decide), np]; exact R.pp
    · rw [lo 5 (by decide) (by decide), no]; exact R.oo
    · rw [lo _ (by omega) (by omega), eh _ _ (by omega) (by decide)]; exact R.a i hi
    · rw [lo _ (by omega) (by omega), eh _ _ (by omega) (by decide)]; exact R.b i hi
    · rw [lo _ (by omega) (by omega), eh _ _ (by omega) (by decide)]; exact R.r i hi
    · rw [lo _ (by omega) (by omega), eh _ _ (by omega) (by decide)]; exact R.c i hi
    · rw [mFin, pk_un (by omega), (c2 i hi).1, n1]
      by_cases q : i < bnH v
      · rw [if_pos q, st_h v w h0 i 7 (by omega) (by decide), if_neg (by omega), if_pos ⟨q, rfl⟩, aOf_nI _ hi, A.F i hi]
      · rw [if_neg q, (hb9 i (by omega) hi).1]
    · rw [mFin, pk_un (by omega), (c2 i hi).2, n1]
      by_cases q : i < bnH v
      · rw [if_pos q, st_h v w h0 i 8 (by omega) (by decide), if_pos ⟨q, rfl⟩, aOf_nI _ hi, A.G i hi]
      · rw [if_neg q, (hb9 i (by omega) hi).2]
    · rw [mFin, pk_un (by omega), c1 _ (Or.inr (by omega)), b1 _ (Or.inl (by omega)), a1 k u hk hu, st_b v w h0 hb k u (by omega) hu, R.bet k hk u hu]
      by_cases q : k < bnB v
      · rw [r_ret O R A q, r_rea O R A q]
      · simp only [q, false_and, if_false]
    · rw [mFin, pk_un (by omega), c1 _ (Or.inr (by omega)), b2 k u hk hu, st_l v w h0 hl k u (by omega) hu, R.lay k hk u hu]
      by_cases q : k < bnL v
      · rw [r_off O R A q]
      · simp only [q, false_and, if_false]
    · rw [mFin, pk_un (by omega), c1 _ (Or.inr (by omega)), b1 _ (Or.inr rfl), a2, ns, if_pos rfl, n2, ← sum6 _ (Nat.le_refl _), n2]
    · rw [mFin, pk_un (by omega), c1 _ (Or.inr (by omega)), b3, ns, if_pos rfl, n3, ← sum4 _ (Nat.le_refl _), n3]
  · exact O.same n1 n2 n3 np no (fun i hi c hc => eh i c (by omega) hc) (fun k hk c hc => by rw [st_b v w h0 hb k c (by omega) (by omega), if_neg (by omega), if_neg (by omega)]) (fun k hk c hc => by rw [st_l v w h0 hl k c (by omega) (by omega), if_neg (by omega)])
  · have e1 : ∀ i, i ≤ bnB v → jStakes (jSettle v w) i = jStakes v i := fun i => by
      induction i with
      | zero => intro _; rfl
      | succ i ih =>
        intro h
        have k1 : bA (jSettle v w) i 1 = bA v i 1 := by rw [st_b v w h0 hb i 1 (by omega) (by decide), if_neg (by omega), if_neg (by omega)]
        have k2 : bA (jSettle v w) i 2 = bA v i 2 := by rw [st_b v w h0 hb i 2 (by omega) (by decide), if_neg (by omega), if_neg (by omega)]
        have k1' : bC (jSettle v w) (nI i) 1 = bC v (nI i) 1 := k1
        have k2' : bC (jSettle v w) (nI i) 2 = bC v (nI i) 2 := k2
        rw [jStakes, jStakes, ih (by omega), jWhole, jWhole, k1', k2']
    have e2 : tS (bvl (jSettle v w)) 30 5 (nI (bnL (jSettle v w))) 1 (bnL v) = tS (bvl v) 30 5 (nI (bnL v)) 1 (bnL v) := tS_eq _ (fun k hk => by
      have : lA (jSettle v w) k 1 = lA v k 1 := by rw [st_l v w h0 hl k 1 (by omega) (by decide), if_neg (by omega)]
      exact this)
    rw [jWon, n2, n3, e1 _ (Nat.le_refl _)]
    have s6 := sum6 _ (Nat.le_refl _)
    have s4 := sum4 _ (Nat.le_refl _)
    rw [n2] at s6
    rw [n3] at s4 e2
    rw [s6, s4, e2, mWins, r_mW2 O R _ (Nat.le_refl _)]
    grind
end SM
