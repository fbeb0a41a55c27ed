/-! MODULE FieldBook: cell 0 the object, 1 .. 7 now, 8 .. 10 arrival, 11, 12 text, 13 .. 56 history, 57 .. 64 and 65 .. 72 the slots -/
def isFB (ad : Nat → Nat) (cI cB : ClassId) (G : Nat → va_E) (v : BV) (w : AV) (x : TV) (hi : HV) (z0 z1 : ZV) : Prop :=
  G 0 = .inr (6, [.ref (ad 1), .ref (ad 8), .ref (ad 11), .ref (ad 13), .ref (ad 57), .ref (ad 65)]) ∧ isBk ad cI G 1 v ∧ isAr ad cI G 8 w ∧ isTx ad cI G 11 x ∧ isHi ad cI cB G 13 hi ∧ isSl ad cI G 57 z0 ∧ isSl ad cI G 65 z1
theorem isFB.keep {ad : Nat → Nat} {cI cB : ClassId} {G G' : Nat → va_E} {v : BV} {w : AV} {x : TV} {hi : HV} {z0 z1 : ZV} (h : isFB ad cI cB G v w x hi z0 z1) (hf : ∀ j, j < 73 → G' j = G j) : isFB ad cI cB G' v w x hi z0 z1 :=
  ⟨(hf _ (by omega)).trans h.1, h.2.1.keep (fun j _ h9 => hf j (by omega)), h.2.2.1.keep (fun j _ h9 => hf j (by omega)), h.2.2.2.1.keep (fun j _ h9 => hf j (by omega)), h.2.2.2.2.1.keep (fun j _ h9 => hf j (by omega)), h.2.2.2.2.2.1.keep (fun j _ h9 => hf j (by omega)), h.2.2.2.2.2.2.keep (fun j _ h9 => hf j (by omega))⟩
/-- two arrivals that no method of a book tells apart -/
def aEq (w w' : AV) : Prop := aOf (avF w) = aOf (avF w') ∧ aOf (avG w) = aOf (avG w') ∧ avP w = avP w' ∧ avA w = avA w' ∧ avS w = avS w'
theorem aEq.rfl' (w : AV) : aEq w w := ⟨rfl, rfl, rfl, rfl, rfl⟩
def a0 : AV := (fun _ => 0, fun _ => 0, 0, 0, 0)
theorem aIn_nI {j : Nat} (h : j < 10) : aIn (nI j) = true := by
  have a1 : ¬ nI j < 0 := nI_pos (by omega)
  have a2 : ¬ nI 10 ≤ nI j := nI_ge h (by decide)
  simp [aIn, a1, a2]
theorem aIn_of {x : Int32} (h : aIn x = true) : ∃ j, j < 10 ∧ x = nI j := by
  simp only [aIn, Bool.and_eq_true, Bool.not_eq_true', decide_eq_false_iff_not] at h
  obtain ⟨j, hj, e, -⟩ := pk_mu h.1 h.2 (by decide)
  exact ⟨j, hj, e⟩
theorem aOf_nI (f : Nat → Int32) {j : Nat} (h : j < 10) : aOf f (nI j) = f j := by rw [aOf, if_pos (aIn_nI h), nI_clamp (by omega)]
theorem aOf_ext {f g : Nat → Int32} (h : ∀ j, j < 10 → f j = g j) : aOf f = aOf g := by
  funext x
  by_cases hx : aIn x = true
  · obtain ⟨j, hj, rfl⟩ := aIn_of hx
    rw [aOf_nI f hj, aOf_nI g hj, h j hj]
  · rw [aOf, aOf, if_neg hx, if_neg hx]
theorem aOf_at {f g : Nat → Int32} (h : aOf f = aOf g) {j : Nat} (hj : j < 10) : f j = g j := by rw [← aOf_nI f hj, ← aOf_nI g hj, h]
theorem aEq_begin (w w' : AV) (q : Int32) : aEq (aBegin w q) (aBegin w' q) := by
  have k : ∀ (f g : Nat → Int32), aOf (aB f 10) = aOf (aB g 10) := fun f g => aOf_ext (fun j hj => by simp [aB, hj])
  exact ⟨k _ _, k _ _, rfl, rfl, rfl⟩
theorem aEq_arrive {w w' : AV} (k : aEq w w') (x : Int32) (b : Bool) : aEq (aArrive w x b) (aArrive w' x b) := by
  obtain ⟨k1, k2, k3, k4, k5⟩ := k
  by_cases hx : aIn x = true
  · rw [aArrive, aArrive, if_pos hx, if_pos hx]
    have e1 : aS w b = aS w' b := by simp only [aS, k4, k5]
    have e2 : ∀ j, j < 10 → avF (aArr w x b) j = avF (aArr w' x b) j := fun j hj => by
      simp only [aArr, avF, upd, e1]
      have := aOf_at k1 hj
      simp only [avF] at this
      rw [this]
    refine ⟨aOf_ext e2, aOf_ext (fun j hj => ?_), k3, ?_, e1⟩
    · have h3 := e2 j hj
      have h4 := aOf_at k2 hj
      simp only [aArr, avG, avF, avA, aG] at h3 h4 k4 ⊢
      rw [h3, e1, k4, h4]
    · show avA w + 1 = avA w' + 1
      rw [k4]
  · rw [aArrive, aArrive, if_neg hx, if_neg hx]
    exact ⟨k1, k2, k3, k4, k5⟩
theorem aEq.trans {a b c : AV} (h : aEq a b) (k : aEq b c) : aEq a c := ⟨h.1.trans k.1, h.2.1.trans k.2.1, h.2.2.1.trans k.2.2.1, h.2.2.2.1.trans k.2.2.2.1, h.2.2.2.2.trans k.2.2.2.2⟩
theorem jWin_eq {v : BV} {w w' : AV} (k : aEq w w') (x : Int32) : jWin v w x = jWin v w' x := by simp only [jWin, k.1, k.2.1]
theorem jPlace_eq {v : BV} {w w' : AV} (k : aEq w w') (x : Int32) : jPlace v w x = jPlace v w' x := by unfold jPlace jIn; rw [k.1, k.2.1, k.2.2.1]
theorem jReturn_eq {v : BV} {w w' : AV} (k : aEq w w') (x : Int32) : jReturn v w x = jReturn v w' x := by simp only [jReturn, jWin_eq k, jPlace_eq k]
theorem jReason_eq {v : BV} {w w' : AV} (k : aEq w w') (x : Int32) : jReason v w x = jReason v w' x := by simp only [jReason, jWin_eq k, jPlace_eq k, k.2.2.1]
theorem jOff_eq {v : BV} {w w' : AV} (k : aEq w w') (x : Int32) : jOff v w x = jOff v w' x := by simp only [jOff, k.1, k.2.1]
theorem jW1_eq {v : BV} {w w' : AV} (k : aEq w w') : ∀ i, jW1 v w i = jW1 v w' i
  | 0 => rfl
  | i + 1 => by rw [jW1, jW1, jW1_eq k i, jReturn_eq k]
theorem jW2_eq {v : BV} {w w' : AV} (k : aEq w w') : ∀ i, jW2 v w i = jW2 v w' i
  | 0 => jW1_eq k _
  | i + 1 => by rw [jW2, jW2, jW2_eq k i, jOff_eq k]
theorem jWould_eq {v : BV} {w w' : AV} (k : aEq w w') : jWould v w = jWould v w' := jW2_eq k _
theorem jS1_eq {v : BV} {w w' : AV} (k : aEq w w') : ∀ i, jS1 v w i = jS1 v w' i
  | 0 => rfl
  | i + 1 => by rw [jS1, jS1, jS1_eq k i, k.1, k.2.1]
theorem jS2_eq {v : BV} {w w' : AV} (k : aEq w w') : ∀ i, jS2 v w i = jS2 v w' i
  | 0 => jS1_eq k _
  | i + 1 => by rw [jS2, jS2, jS2_eq k i, jReturn_eq k, jReason_eq k]
theorem jS3_eq {v : BV} {w w' : AV} (k : aEq w w') : ∀ i, jS3 v w i = jS3 v w' i
  | 0 => jS2_eq k _
  | i + 1 => by rw [jS3, jS3, jS3_eq k i, jOff_eq k]
theorem jSettle_eq {v : BV} {w w' : AV} (k : aEq w w') : jSettle v w = jSettle v w' := by rw [jSettle, jSettle, jS3_eq k]
def jSetting (v : BV) (k : Int32) : Int32 := if k = 0 then bvP v else bvO v
def jFits (k y : Int32) : Bool := if k = 0 then (decide (y = 4) || decide (y = 5)) else (!(decide (y < 0)) && !(decide (99999 < y)))
def jMix (h y : Int64) : Int64 := 31 * h + y
def jRow (f : Nat → Int32) (len : Nat) (cols n row : Int32) (h : Int64) : Nat → Int64
  | 0 => h
  | i + 1 => jMix (jRow f len cols n row h i) (tC f len cols n row (nI i)).toInt64
def jTab (f : Nat → Int32) (len cn : Nat) (cols n : Int32) (h : Int64) : Nat → Int64
  | 0 => h
  | i + 1 => jRow f len cols n (nI i) (jTab f len cn cols n h i) cn
def jCount (v : BV) (hi : HV) (k : Nat) : Int32 := match k with
  | 0 => nI (bnH v)
  | 1 => jRunning v
  | 2 => nI (bnB v)
  | 3 => nI (bnL v)
  | 4 => jStakes v (bnB v)
  | 5 => tS (bvl v) 30 5 (nI (bnL v)) 1 (bnL v)
  | 6 => if bvS v = true then tS (bvb v) 192 8 (nI (bnB v)) 6 (bnB v) else 0
  | 7 => if bvS v = true then tS (bvl v) 30 5 (nI (bnL v)) 4 (bnL v) else 0
  | 8 => bI (bvS v)
  | 9 => jPlaces v
  | 10 => jRound v (bnH v)
  | 11 => if bvS v = true then jWon v else 0
  | 12 => if bvS v = true then jLosses v else 0
  | _ => nI (hvZ hi)
def jLack (v : BV) (q : Int32) : Int64 := 10000000 - (bvO v).toInt64 - q.toInt64
def jNeed (v : BV) (h q : Int32) : Int64 := (jLack v q * (hC v h 1).toInt64 + (hC v h 0).toInt64 - 1) / (hC v h 0).toInt64
def jCover (v : BV) (h q : Int32) : Int32 :=
  if jRuns v h = true then (if 0 < hC v h 0 then (if 0 < lg_cmp (jLack v q) 0 then (if 0 < lg_cmp (jNeed v h q) 9999 then -1 else (jNeed v h q).toInt32) else 0) else -1) else -1
/-- the arrival of a horse ahead of all others, i of them looked at -/
def wwA (v : BV) (h : Int32) : Nat → AV
  | 0 => aArrive (aBegin a0 (jPlaces v)) h false
  | i + 1 => if ¬ nI i = h ∧ jRuns v (nI i) = true then aArrive (wwA v h i) (nI i) false else wwA v h i
def jWW (v : BV) (h : Int32) : Int32 := if jRuns v h = true then jWould v (wwA v h (bnH v)) else -1
/-- the arrival of the text, k horses read -/
def raH (x : TV) (k : Nat) : Int32 := txAt x (nI (2 * k)) - 97
def raT (x : TV) (k : Nat) : Bool := decide (0 < k) && decide (txAt x (nI (2 * k) - 1) = 61)
def raA (v : BV) (x : TV) : Nat → AV
  | 0 => aBegin a0 (jPlaces v)
  | k + 1 => aArrive (raA v x k) (raH x k) (raT x k)
def raOk (v : BV) (x : TV) : Nat → Bool
  | 0 => true
  | k + 1 => raOk v x k && jRuns v (raH x k)
def raK (x : TV) : Nat := (txN x + 1) / 2
def jArr (v : BV) (x : TV) : Bool := txArrival x && raOk v x (raK x)
theorem raOk_no {v : BV} {x : TV} {k : Nat} (h : jRuns v (raH x k) = false) : ∀ {n}, k < n → raOk v x n = false
  | 0, hk => absurd hk (Nat.not_lt_zero _)
  | n + 1, hk => by
    rw [raOk]
    rcases Nat.lt_or_ge k n with q | q
    · rw [raOk_no h q]; rfl
    · rw [show k = n by omega] at h
      rw [h]; simp
def jIf (v : BV) (x : TV) : Int32 := if jArr v x = true then jWould v (raA v x (raK x)) else -1
/-- Worst: the horse found, and what it lets the book win, of the first i -/
def jWst (v : BV) : Nat → Int32 × Int32
  | 0 => (-1, 0)
  | i + 1 => if jRuns v (nI i) = true then (if (jWst v i).1 = -1 ∨ jWW v (nI i) < (jWst v i).2 then (nI i, jWW v (nI i)) else jWst v i) else jWst v i
def jSafe (v : BV) : Nat → Nat
  | 0 => 0
  | i + 1 => if jRuns v (nI i) = true ∧ ¬ jWW v (nI i) < 10000000 - bvO v then jSafe v i + 1 else jSafe v i
def jHor (v : BV) (h : Int64) : Nat → Int64
  | 0 => h
  | i + 1 => jMix (jMix (jRow (bvh v) 90 9 (nI (bnH v)) (nI i) (jHor v h i) 9) (jWW v (nI i)).toInt64) (jCover v (nI i) (jWW v (nI i))).toInt64
theorem cov_nz {y : Int32} (h : y.toInt64 = 0) : ¬ 0 < y := by
  intro h9
  have h1 : y.toInt64.toInt = (0 : Int64).toInt := by rw [h]
  rw [Int32.toInt_toInt64] at h1
  have h2 := Int32.lt_iff_toInt_lt.mp h9
  rw [h1] at h2
  exact absurd h2 (by decide)
theorem kd_X6_fits : yX6_fits.cls ≠ "java/lang/invoke/MethodHandle" ∧ yX6_fits.cls ≠ "java/lang/invoke/VarHandle" ∧ (parseMethodDescriptor yX6_fits.desc).map (fun d => d.parameters.length) = some 2 := by decide +kernel
abbrev rX6_fits : Room := ({ frames := 0, cells := 0, slots := 0, locals := 0 } : Room)
set_option maxRecDepth 100000 in
set_option maxHeartbeats 4000000 in
/-- fits -/
theorem m_X6_fits (l : Launch) (D : va_G) (cI cC cZ cB cJ : ClassId) (ad : Nat → Nat) (N : Nat) (G : Nat → va_E) (k0 y : Int32)  : kMi l yX6_fits wsX6_fits rX6_fits D (kT5 cI cC cZ cB cJ) ad N G [.int k0, .int y] (fun r G' => r = bI (jFits k0 y) ∧ G' = G) := by
  refine k_starti (cc := cX6_fits) (ret := (some .boolean)) (maxL := 2) (lv0 := [(0, .int k0), (1, .int y)]) (by decide) rfl (Nat.le_of_ble_eq_true rfl) rfl ?_
  intro p e s m args below meth c A Q C hQ
  refine k_iload_n C dX6_fits_0 rfl (j := 0) rfl ?_
  refine k_if_ne C 20 dX6_fits_1 (by decide) (fun c_1 => ?_) (fun c_1 => ?_)
  · skip
    refine k_iload_n C dX6_fits_20 rfl (j := 1) rfl ?_
    refine k_if_lt C 35 dX6_fits_21 (by decide) (fun c_21 => ?_) (fun c_21 => ?_)
    · skip
      refine k_iconst C (v := 0) dX6_fits_35 (by decide) ?_
      exact k_iret C hQ rfl (by decide) dX6_fits_36 ⟨by simp [jFits, bI, c_1, c_21], rfl⟩
    · skip
      refine k_iload_n C dX6_fits_24 rfl (j := 1) rfl ?_
      refine k_ldc_w C (v := 99999) dX6_fits_25 (List.mem_of_getElem? (i := 1) rfl) ?_
      refine k_icmp_gt C 35 dX6_fits_28 (by decide) (fun c_28 => ?_) (fun c_28 => ?_)
      · skip
        refine k_iconst C (v := 0) dX6_fits_35 (by decide) ?_
        exact k_iret C hQ rfl (by decide) dX6_fits_36 ⟨by simp [jFits, bI, c_1, c_21, c_28], rfl⟩
      · skip
        refine k_iconst C (v := 1) dX6_fits_31 (by decide) ?_
        refine k_goto C 36 dX6_fits_32 (by decide) ?_
        exact k_iret C hQ rfl (by decide) dX6_fits_36 ⟨by simp [jFits, bI, c_1, c_21, c_28], rfl⟩
  · skip
    refine k_iload_n C dX6_fits_4 rfl (j := 1) rfl ?_
    refine k_iconst C (v := 4) dX6_fits_5 (by decide) ?_
    refine k_icmp_eq C 14 dX6_fits_6 (by decide) (fun c_6 => ?_) (fun c_6 => ?_)
    · skip
      refine k_iconst C (v := 1) dX6_fits_14 (by decide) ?_
      refine k_goto C 19 dX6_fits_15 (by decide) ?_
      exact k_iret C hQ rfl (by decide) dX6_fits_19 ⟨by simp [jFits, bI, c_1, c_6], rfl⟩
    · skip
      refine k_iload_n C dX6_fits_9 rfl (j := 1) rfl ?_
      refine k_iconst C (v := 5) dX6_fits_10 (by decide) ?_
      refine k_icmp_ne C 18 dX6_fits_11 (by decide) (fun c_11 => ?_) (fun c_11 => ?_)
      · skip
        refine k_iconst C (v := 0) dX6_fits_18 (by decide) ?_
        exact k_iret C hQ rfl (by decide) dX6_fits_19 ⟨by simp [jFits, bI, c_1, c_6, c_11], rfl⟩
      · skip
        refine k_iconst C (v := 1) dX6_fits_14 (by decide) ?_
        refine k_goto C 19 dX6_fits_15 (by decide) ?_
        exact k_iret C hQ rfl (by decide) dX6_fits_19 ⟨by simp [jFits, bI, c_1, c_6, c_11], rfl⟩
theorem inX6_settingNow_6 : ∀ w ∈ wsX60, w ∈ wsX6_settingNow := fun _ h => List.mem_cons_of_mem _ (List.mem_append_left _ (List.mem_append_right _ h))
theorem inX6_settingNow_1 : ∀ w ∈ wsX10, w ∈ wsX6_settingNow := fun _ h => List.mem_cons_of_mem _ (List.mem_append_right _ h)
theorem kd_X6_settingNow : yX6_settingNow.cls = RX6 ∧ yX6_settingNow.cls ≠ "java/lang/invoke/MethodHandle" ∧ yX6_settingNow.cls ≠ "java/lang/invoke/VarHandle" ∧ (parseMethodDescriptor yX6_settingNow.desc).map (fun d => d.parameters.length) = some 1 := by decide +kernel
abbrev rX6_settingNow : Room := ({ frames := 0, cells := 0, slots := 0, locals := 0 } : Room)
set_option maxRecDepth 100000 in
set_option maxHeartbeats 4000000 in
/-- settingNow -/
theorem m_X6_settingNow (l : Launch) (D : va_G) (cI cC cZ cB cJ : ClassId) (ad : Nat → Nat) (N : Nat) (G : Nat → va_E) (v : BV) (w : AV) (x : TV) (hi : HV) (z0 z1 : ZV) (k0 : Int32) (hN : 73 ≤ N) (hF : isFB ad cI cB G v w x hi z0 z1) : kMi l yX6_settingNow wsX6_settingNow rX6_settingNow D (kT5 cI cC cZ cB cJ) ad N G [.ref (ad 0), .int k0] (fun r G' => r = jSetting v k0 ∧ G' = G) := by
  refine k_starti (cc := cX6_settingNow) (ret := (some .int)) (maxL := 2) (lv0 := [(0, .ref (ad 0)), (1, .int k0)]) (by decide) rfl (Nat.le_of_ble_eq_true rfl) rfl ?_
  intro p e s m args below meth c A Q C hQ
  have hlH := hF.2.1.2.2.2.2.1
  have hlB := hF.2.1.2.2.2.2.2.1
  have hlL := hF.2.1.2.2.2.2.2.2
  have hlX := hF.2.2.2.1.2.2
  have hlN := hF.2.2.2.2.1.2.2.2.1
  have hlZ := hF.2.2.2.2.1.2.2.2.2
  refine k_iload_n C dX6_settingNow_0 rfl (j := 1) rfl ?_
  refine k_if_ne C 14 dX6_settingNow_1 (by decide) (fun c_1 => ?_) (fun c_1 => ?_)
  · skip
    refine k_aload_n C dX6_settingNow_14 rfl (j := 0) rfl ?_
    refine k_get C 0 inX6_settingNow_6 (by omega) hF.1 rfl 0 (by decide) (List.mem_of_getElem? (i := 1) rfl) rfl rfl dX6_settingNow_15 ?_
    refine k_get C 1 inX6_settingNow_1 (by omega) hF.2.1.1 rfl 5 (by decide) (List.mem_of_getElem? (i := 3) rfl) rfl rfl dX6_settingNow_18 ?_
    exact k_iret C hQ rfl rfl dX6_settingNow_21 ⟨by simp [jSetting, c_1], rfl⟩
  · skip
    refine k_aload_n C dX6_settingNow_4 rfl (j := 0) rfl ?_
    refine k_get C 0 inX6_settingNow_6 (by omega) hF.1 rfl 0 (by decide) (List.mem_of_getElem? (i := 1) rfl) rfl rfl dX6_settingNow_5 ?_
    refine k_get C 1 inX6_settingNow_1 (by omega) hF.2.1.1 rfl 4 (by decide) (List.mem_of_getElem? (i := 2) rfl) rfl rfl dX6_settingNow_8 ?_
    refine k_goto C 21 dX6_settingNow_11 (by decide) ?_
    exact k_iret C hQ rfl rfl dX6_settingNow_21 ⟨by simp [jSetting, c_1], rfl⟩
theorem inX6_slotOf_6 : ∀ w ∈ wsX60, w ∈ wsX6_slotOf := fun _ h => List.mem_cons_of_mem _ (List.mem_append_right _ h)
theorem kd_X6_slotOf : yX6_slotOf.cls = RX6 ∧ yX6_slotOf.cls ≠ "java/lang/invoke/MethodHandle" ∧ yX6_slotOf.cls ≠ "java/lang/invoke/VarHandle" ∧ (parseMethodDescriptor yX6_slotOf.desc).map (fun d => d.parameters.length) = some 1 := by decide +kernel
abbrev rX6_slotOf : Room := ({ frames := 0, cells := 0, slots := 0, locals := 0 } : Room)
set_option maxRecDepth 100000 in
set_option maxHeartbeats 4000000 in
/-- slotOf -/
theorem m_X6_slotOf (l : Launch) (D : va_G) (cI cC cZ cB cJ : ClassId) (ad : Nat → Nat) (N : Nat) (G : Nat → va_E) (v : BV) (w : AV) (x : TV) (hi : HV) (z0 z1 : ZV) (k0 : Int32) (n0 : Nat) (hN : 73 ≤ N) (hF : isFB ad cI cB G v w x hi z0 z1) (hk : (k0 = 0 ∧ n0 = 57) ∨ (¬ k0 = 0 ∧ n0 = 65)) : kMq l yX6_slotOf wsX6_slotOf rX6_slotOf D (kT5 cI cC cZ cB cJ) ad N G [.ref (ad 0), .int k0] (fun r G' => r = some (ad n0) ∧ G' = G) := by
  refine k_startq (cc := cX6_slotOf) (ret := (some (.object "FieldBook$Slot"))) (maxL := 2) (lv0 := [(0, .ref (ad 0)), (1, .int k0)]) (by decide) rfl (Nat.le_of_ble_eq_true rfl) rfl ?_
  intro p e s m args below meth c A Q C hQ
  have hlH := hF.2.1.2.2.2.2.1
  have hlB := hF.2.1.2.2.2.2.2.1
  have hlL := hF.2.1.2.2.2.2.2.2
  have hlX := hF.2.2.2.1.2.2
  have hlN := hF.2.2.2.2.1.2.2.2.1
  have hlZ := hF.2.2.2.2.1.2.2.2.2
  refine k_iload_n C dX6_slotOf_0 rfl (j := 1) rfl ?_
  refine k_if_ne C 11 dX6_slotOf_1 (by decide) (fun c_1 => ?_) (fun c_1 => ?_)
  · skip
    refine k_aload_n C dX6_slotOf_11 rfl (j := 0) rfl ?_
    refine k_get C 0 inX6_slotOf_6 (by omega) hF.1 rfl 5 (by decide) (List.mem_of_getElem? (i := 2) rfl) rfl rfl dX6_slotOf_12 ?_
    exact k_aret C (some (ad 65)) hQ rfl rfl dX6_slotOf_15 ⟨by rcases hk with ⟨h8, rfl⟩ | ⟨h8, rfl⟩ <;> first | rfl | exact absurd h8 c_1 | exact absurd c_1 h8, rfl⟩
  · skip
    refine k_aload_n C dX6_slotOf_4 rfl (j := 0) rfl ?_
    refine k_get C 0 inX6_slotOf_6 (by omega) hF.1 rfl 4 (by decide) (List.mem_of_getElem? (i := 1) rfl) rfl rfl dX6_slotOf_5 ?_
    refine k_goto C 15 dX6_slotOf_8 (by decide) ?_
    exact k_aret C (some (ad 57)) hQ rfl rfl dX6_slotOf_15 ⟨by rcases hk with ⟨h8, rfl⟩ | ⟨h8, rfl⟩ <;> first | rfl | exact absurd h8 c_1 | exact absurd c_1 h8, rfl⟩
theorem kd_X6_mixed : yX6_mixed.cls ≠ "java/lang/invoke/MethodHandle" ∧ yX6_mixed.cls ≠ "java/lang/invoke/VarHandle" ∧ (parseMethodDescriptor yX6_mixed.desc).map (fun d => d.parameters.length) = some 2 := by decide +kernel
abbrev rX6_mixed : Room := ({ frames := 0, cells := 0, slots := 0, locals := 0 } : Room)
set_option maxRecDepth 100000 in
set_option maxHeartbeats 4000000 in
/-- mixed -/
theorem m_X6_mixed (l : Launch) (D : va_G) (cI cC cZ cB cJ : ClassId) (ad : Nat → Nat) (N : Nat) (G : Nat → va_E) (h y : Int64)  : kMl l yX6_mixed wsX6_mixed rX6_mixed D (kT5 cI cC cZ cB cJ) ad N G [.long h, .long y] (fun r G' => r = jMix h y ∧ G' = G) := by
  refine k_startl (cc := cX6_mixed) (ret := (some .long)) (maxL := 4) (lv0 := [(0, .long h), (2, .long y)]) (by decide) rfl (Nat.le_of_ble_eq_true rfl) rfl ?_
  intro p e s m args below meth c A Q C hQ
  refine k_ldc2l C (v := 31) dX6_mixed_0 (List.mem_of_getElem? (i := 1) rfl) ?_
  refine k_lload_n C dX6_mixed_3 rfl (j := 0) rfl ?_
  refine k_lmul C dX6_mixed_4 ?_
  refine k_lload_n C dX6_mixed_5 rfl (j := 1) rfl ?_
  refine k_ladd C dX6_mixed_6 ?_
  exact k_lret C hQ rfl dX6_mixed_7 ⟨rfl, rfl⟩
theorem inX6_mixedRow_4 : ∀ w ∈ wsX40, w ∈ wsX6_mixedRow := fun _ h => List.mem_cons_of_mem _ (List.mem_append_right _ h)
theorem kd_X6_mixedRow : yX6_mixedRow.cls ≠ "java/lang/invoke/MethodHandle" ∧ yX6_mixedRow.cls ≠ "java/lang/invoke/VarHandle" ∧ (parseMethodDescriptor yX6_mixedRow.desc).map (fun d => d.parameters.length) = some 3 := by decide +kernel
abbrev rX6_mixedRow : Room := ({ frames := 1, cells := 0, slots := 0, locals := 24 } : Room)
set_option maxRecDepth 100000 in
set_option maxHeartbeats 4000000 in
/-- mixedRow -/
theorem m_X6_mixedRow (l : Launch) (D : va_G) (cI cC cZ cB cJ : ClassId) (ad : Nat → Nat) (N : Nat) (G : Nat → va_E) (h : Int64) (t tc cn nn len : Nat) (f : Nat → Int32) (row : Int32) (hNt : t < N) (hNc : tc < N) (ht : G t = .inr (4, [.int (nI cn), .ref (ad tc), .int (nI nn)])) (htc : G tc = .inl (cI, len, .inl f)) (hlen : len < 2 ^ 31) (hcn : cn < 2 ^ 30) (hnn : nn < 2 ^ 30) : kMl l yX6_mixedRow wsX6_mixedRow rX6_mixedRow D (kT5 cI cC cZ cB cJ) ad N G [.long h, .ref (ad t), .int row] (fun r G' => r = jRow f len (nI cn) (nI nn) row h cn ∧ G' = G) := by
  refine k_startl (cc := cX6_mixedRow) (ret := (some .long)) (maxL := 7) (lv0 := [(0, .long h), (2, .ref (ad t)), (3, .int row)]) (by decide) rfl (Nat.le_of_ble_eq_true rfl) rfl ?_
  intro p e s m args below meth c A Q C hQ
  refine k_lload_n C dX6_mixedRow_0 rfl (j := 0) rfl ?_
  refine k_lstore C (lv' := [(4, .long h), (0, .long h), (2, .ref (ad t)), (3, .int row)]) dX6_mixedRow_1 (by decide) rfl ?_
  refine k_iconst C (v := 0) dX6_mixedRow_3 (by decide) ?_
  refine k_istore C (lv' := [(6, .int 0), (4, .long h), (0, .long h), (2, .ref (ad t)), (3, .int row)]) dX6_mixedRow_4 (by decide) rfl ?_
  have loop6 : ∀ (k : Nat) (i : Nat) , (cn + 1 ≤ i + k) → (i ≤ cn) → kJ p l e rX6_mixedRow s m args below meth c 0 0 Q 7 D ad N A G 6 [(0, .long h), (2, .ref (ad t)), (3, .int row), (4, .long (jRow f len (nI cn) (nI nn) row h i)), (6, .int (nI i))] [] := by
    intro k
    induction k with
    | zero => intro i  h1 h2; exact absurd h1 (by omega)
    | succ k ih6 =>
      intro i  h1 h2
      refine k_iload C dX6_mixedRow_6 (j := 4) rfl ?_
      refine k_aload_n C dX6_mixedRow_8 rfl (j := 1) rfl ?_
      refine k_callVir C (As := []) (rest := [.int (nI i)]) t (m_X4_columns l D cI cC cZ cB cJ ad N G t tc (nI cn) (nI nn) len f hNt hNc ht htc hlen) gX6_mixedRow_X4_columns rfl kd_X4_columns rfl rfl ⟨Nat.le_of_ble_eq_true rfl, Nat.le_of_ble_eq_true rfl⟩ hNt ht rfl rfl rfl (Nat.le_of_ble_eq_true rfl) ⟨Nat.zero_le _, Nat.zero_le _⟩ dX6_mixedRow_9 ?_
      refine k_icmp_ge C 36 dX6_mixedRow_12 (by decide) (fun c_12 => ?_) (fun c_12 => ?_)
      · skip
        have hi : i = cn := k_ge c_12 (by omega) h2
        subst hi
        refine k_lload C dX6_mixedRow_36 (j := 3) rfl ?_
        exact k_lret C hQ rfl dX6_mixedRow_38 ⟨rfl, rfl⟩
      · skip
        have hi : i < cn := k_lt c_12 (by omega) h2
        refine k_lload C dX6_mixedRow_15 (j := 3) rfl ?_
        refine k_aload_n C dX6_mixedRow_17 rfl (j := 1) rfl ?_
        refine k_iload_n C dX6_mixedRow_18 rfl (j := 2) rfl ?_
        refine k_iload C dX6_mixedRow_19 (j := 4) rfl ?_
        refine k_callVir C (As := [.int row, .int (nI i)]) (rest := [.long (jRow f len (nI cn) (nI nn) row h i)]) t (m_X4_cell l D cI cC cZ cB cJ ad N G t tc (nI cn) (nI nn) len f row (nI i) hNt hNc ht htc hlen) gX6_mixedRow_X4_cell rfl kd_X4_cell rfl rfl ⟨Nat.le_of_ble_eq_true rfl, Nat.le_of_ble_eq_true rfl⟩ hNt ht rfl rfl rfl (Nat.le_of_ble_eq_true rfl) ⟨Nat.zero_le _, Nat.zero_le _⟩ dX6_mixedRow_21 ?_
        refine k_i2l C dX6_mixedRow_24 ?_
        refine k_callSlr C (As := [.long (jRow f len (nI cn) (nI nn) row h i), .long ((tC f len (nI cn) (nI nn) row (nI i)).toInt64)]) (rest := []) (m_X6_mixed l D cI cC cZ cB cJ ad N G (jRow f len (nI cn) (nI nn) row h i) ((tC f len (nI cn) (nI nn) row (nI i)).toInt64)) gX6_mixedRow_X6_mixed rfl kd_X6_mixed rfl rfl ⟨Nat.le_of_ble_eq_true rfl, Nat.le_of_ble_eq_true rfl⟩ rfl rfl (Nat.le_of_ble_eq_true rfl) ⟨Nat.zero_le _, Nat.zero_le _⟩ dX6_mixedRow_25 ?_
        refine k_lstore C (lv' := [(4, .long (jMix (jRow f len (nI cn) (nI nn) row h i) ((tC f len (nI cn) (nI nn) row (nI i)).toInt64))), (0, .long h), (2, .ref (ad t)), (3, .int row), (6, .int (nI i))]) dX6_mixedRow_28 (by decide) rfl ?_
        refine k_iinc C (v := nI (i + 1)) (lv' := [(6, .int (nI (i + 1))), (4, .long (jMix (jRow f len (nI cn) (nI nn) row h i) ((tC f len (nI cn) (nI nn) row (nI i)).toInt64))), (0, .long h), (2, .ref (ad t)), (3, .int row)]) dX6_mixedRow_30 (j := 4) rfl (nI_1 i) (by decide) rfl ?_
        refine k_goto C 6 dX6_mixedRow_33 (by decide) ?_
        exact k_sub [2, 3, 4, 1, 0] rfl (ih6 (i + 1) (by omega) (by omega))
  exact k_sub [2, 3, 4, 1, 0] rfl (loop6 (cn + 1) 0 (by omega) (Nat.zero_le _))
theorem inX6_mixedTable_4 : ∀ w ∈ wsX40, w ∈ wsX6_mixedTable := fun _ h => List.mem_cons_of_mem _ (List.mem_append_right _ h)
theorem kd_X6_mixedTable : yX6_mixedTable.cls ≠ "java/lang/invoke/MethodHandle" ∧ yX6_mixedTable.cls ≠ "java/lang/invoke/VarHandle" ∧ (parseMethodDescriptor yX6_mixedTable.desc).map (fun d => d.parameters.length) = some 2 := by decide +kernel
abbrev rX6_mixedTable : Room := ({ frames := 2, cells := 0, slots := 0, locals := 50 } : Room)
set_option maxRecDepth 100000 in
set_option maxHeartbeats 4000000 in
/-- mixedTable -/
theorem m_X6_mixedTable (l : Launch) (D : va_G) (cI cC cZ cB cJ : ClassId) (ad : Nat → Nat) (N : Nat) (G : Nat → va_E) (h : Int64) (t tc cn nn len : Nat) (f : Nat → Int32) (hNt : t < N) (hNc : tc < N) (ht : G t = .inr (4, [.int (nI cn), .ref (ad tc), .int (nI nn)])) (htc : G tc = .inl (cI, len, .inl f)) (hlen : len < 2 ^ 31) (hcn : cn < 2 ^ 30) (hnn : nn < 2 ^ 30) : kMl l yX6_mixedTable wsX6_mixedTable rX6_mixedTable D (kT5 cI cC cZ cB cJ) ad N G [.long h, .ref (ad t)] (fun r G' => r = jTab f len cn (nI cn) (nI nn) h nn ∧ G' = G) := by
  refine k_startl (cc := cX6_mixedTable) (ret := (some .long)) (maxL := 6) (lv0 := [(0, .long h), (2, .ref (ad t))]) (by decide) rfl (Nat.le_of_ble_eq_true rfl) rfl ?_
  intro p e s m args below meth c A Q C hQ
  refine k_lload_n C dX6_mixedTable_0 rfl (j := 0) rfl ?_
  refine k_lstore_n C (lv' := [(3, .long h), (0, .long h), (2, .ref (ad t))]) dX6_mixedTable_1 rfl (by decide) rfl ?_
  refine k_iconst C (v := 0) dX6_mixedTable_2 (by decide) ?_
  refine k_istore C (lv' := [(5, .int 0), (3, .long h), (0, .long h), (2, .ref (ad t))]) dX6_mixedTable_3 (by decide) rfl ?_
  have loop5 : ∀ (k : Nat) (i : Nat) , (nn + 1 ≤ i + k) → (i ≤ nn) → kJ p l e rX6_mixedTable s m args below meth c 0 0 Q 6 D ad N A G 5 [(0, .long h), (2, .ref (ad t)), (3, .long (jTab f len cn (nI cn) (nI nn) h i)), (5, .int (nI i))] [] := by
    intro k
    induction k with
    | zero => intro i  h1 h2; exact absurd h1 (by omega)
    | succ k ih5 =>
      intro i  h1 h2
      refine k_iload C dX6_mixedTable_5 (j := 3) rfl ?_
      refine k_aload_n C dX6_mixedTable_7 rfl (j := 1) rfl ?_
      refine k_callVir C (As := []) (rest := [.int (nI i)]) t (m_X4_size l D cI cC cZ cB cJ ad N G t tc (nI cn) (nI nn) len f hNt hNc ht htc hlen) gX6_mixedTable_X4_size rfl kd_X4_size rfl rfl ⟨Nat.le_of_ble_eq_true rfl, Nat.le_of_ble_eq_true rfl⟩ hNt ht rfl rfl rfl (Nat.le_of_ble_eq_true rfl) ⟨Nat.zero_le _, Nat.zero_le _⟩ dX6_mixedTable_8 ?_
      refine k_icmp_ge C 28 dX6_mixedTable_11 (by decide) (fun c_11 => ?_) (fun c_11 => ?_)
      · skip
        have hi : i = nn := k_ge c_11 (by omega) h2
        subst hi
        refine k_lload_n C dX6_mixedTable_28 rfl (j := 2) rfl ?_
        exact k_lret C hQ rfl dX6_mixedTable_29 ⟨rfl, rfl⟩
      · skip
        have hi : i < nn := k_lt c_11 (by omega) h2
        refine k_lload_n C dX6_mixedTable_14 rfl (j := 2) rfl ?_
        refine k_aload_n C dX6_mixedTable_15 rfl (j := 1) rfl ?_
        refine k_iload C dX6_mixedTable_16 (j := 3) rfl ?_
        refine k_callSlr C (As := [.long (jTab f len cn (nI cn) (nI nn) h i), .ref (ad t), .int (nI i)]) (rest := []) (m_X6_mixedRow l D cI cC cZ cB cJ ad N G (jTab f len cn (nI cn) (nI nn) h i) t tc cn nn len f (nI i) hNt hNc ht htc hlen hcn (by omega)) gX6_mixedTable_X6_mixedRow rfl kd_X6_mixedRow rfl rfl ⟨Nat.le_of_ble_eq_true rfl, Nat.le_of_ble_eq_true rfl⟩ rfl rfl (Nat.le_of_ble_eq_true rfl) ⟨Nat.zero_le _, Nat.zero_le _⟩ dX6_mixedTable_18 ?_
        refine k_lstore_n C (lv' := [(3, .long (jRow f len (nI cn) (nI nn) (nI i) (jTab f len cn (nI cn) (nI nn) h i) cn)), (0, .long h), (2, .ref (ad t)), (5, .int (nI i))]) dX6_mixedTable_21 rfl (by decide) rfl ?_
        refine k_iinc C (v := nI (i + 1)) (lv' := [(5, .int (nI (i + 1))), (3, .long (jRow f len (nI cn) (nI nn) (nI i) (jTab f len cn (nI cn) (nI nn) h i) cn)), (0, .long h), (2, .ref (ad t))]) dX6_mixedTable_22 (j := 3) rfl (nI_1 i) (by decide) rfl ?_
        refine k_goto C 5 dX6_mixedTable_25 (by decide) ?_
        exact k_sub [2, 3, 1, 0] rfl (ih5 (i + 1) (by omega) (by omega))
  exact k_sub [2, 3, 1, 0] rfl (loop5 (nn + 1) 0 (by omega) (Nat.zero_le _))
theorem inX6_clearBuffer_6 : ∀ w ∈ wsX60, w ∈ wsX6_clearBuffer := fun _ h => List.mem_cons_of_mem _ (List.mem_append_left _ (List.mem_append_right _ h))
theorem inX6_clearBuffer_5 : ∀ w ∈ wsX50, w ∈ wsX6_clearBuffer := fun _ h => List.mem_cons_of_mem _ (List.mem_append_right _ h)
theorem kd_X6_clearBuffer : yX6_clearBuffer.cls = RX6 ∧ yX6_clearBuffer.cls ≠ "java/lang/invoke/MethodHandle" ∧ yX6_clearBuffer.cls ≠ "java/lang/invoke/VarHandle" ∧ (parseMethodDescriptor yX6_clearBuffer.desc).map (fun d => d.parameters.length) = some 0 := by decide +kernel
abbrev rX6_clearBuffer : Room := ({ frames := 1, cells := 0, slots := 0, locals := 20 } : Room)
set_option maxRecDepth 100000 in
set_option maxHeartbeats 4000000 in
/-- clearBuffer -/
theorem m_X6_clearBuffer (l : Launch) (D : va_G) (cI cC cZ cB cJ : ClassId) (ad : Nat → Nat) (N : Nat) (G : Nat → va_E) (v : BV) (w : AV) (x : TV) (hi : HV) (z0 z1 : ZV) (hN : 73 ≤ N) (hF : isFB ad cI cB G v w x hi z0 z1) : kMi l yX6_clearBuffer wsX6_clearBuffer rX6_clearBuffer D (kT5 cI cC cZ cB cJ) ad N G [.ref (ad 0)] (fun r G' => r = nI (txN x) ∧ isFB ad cI cB G' v w (txC x, 0) hi z0 z1 ∧ ∀ j, 73 ≤ j → G' j = G j) := by
  refine k_starti (cc := cX6_clearBuffer) (ret := (some .int)) (maxL := 2) (lv0 := [(0, .ref (ad 0))]) (by decide) rfl (Nat.le_of_ble_eq_true rfl) rfl ?_
  intro p e s m args below meth c A Q C hQ
  have hlH := hF.2.1.2.2.2.2.1
  have hlB := hF.2.1.2.2.2.2.2.1
  have hlL := hF.2.1.2.2.2.2.2.2
  have hlX := hF.2.2.2.1.2.2
  have hlN := hF.2.2.2.2.1.2.2.2.1
  have hlZ := hF.2.2.2.2.1.2.2.2.2
  refine k_aload_n C dX6_clearBuffer_0 rfl (j := 0) rfl ?_
  refine k_get C 0 inX6_clearBuffer_6 (by omega) hF.1 rfl 2 (by decide) (List.mem_of_getElem? (i := 1) rfl) rfl rfl dX6_clearBuffer_1 ?_
  refine k_callVir C (As := []) (rest := []) 11 (m_X5_length l D cI cC cZ cB cJ ad N G 11 x (by omega) hF.2.2.2.1) gX6_clearBuffer_X5_length rfl kd_X5_length rfl rfl ⟨Nat.le_of_ble_eq_true rfl, Nat.le_of_ble_eq_true rfl⟩ (by omega) hF.2.2.2.1.1 rfl rfl rfl (Nat.le_of_ble_eq_true rfl) ⟨Nat.zero_le _, Nat.zero_le _⟩ dX6_clearBuffer_4 ?_
  refine k_istore_n C (lv' := [(1, .int (nI (txN x))), (0, .ref (ad 0))]) dX6_clearBuffer_7 rfl (by decide) rfl ?_
  refine k_aload_n C dX6_clearBuffer_8 rfl (j := 1) rfl ?_
  refine k_get C 0 inX6_clearBuffer_6 (by omega) hF.1 rfl 2 (by decide) (List.mem_of_getElem? (i := 1) rfl) rfl rfl dX6_clearBuffer_9 ?_
  refine k_callVv C (As := []) (rest := []) 11 (m_X5_empty l D cI cC cZ cB cJ ad N G 11 x (by omega) hF.2.2.2.1) gX6_clearBuffer_X5_empty rfl kd_X5_empty rfl rfl ⟨Nat.le_of_ble_eq_true rfl, Nat.le_of_ble_eq_true rfl⟩ (by omega) hF.2.2.2.1.1 rfl rfl rfl (Nat.le_of_ble_eq_true rfl) ⟨Nat.zero_le _, Nat.zero_le _⟩ dX6_clearBuffer_12 (fun G1 hG1 => ?_)
  have hb_B_G1 := hF.2.1.keep (fun j h8 h9 => hG1.2 j (by omega))
  have hb_A_G1 := hF.2.2.1.keep (fun j h8 h9 => hG1.2 j (by omega))
  have hb_X_G1 := hG1.1
  have hb_H_G1 := hF.2.2.2.2.1.keep (fun j h8 h9 => hG1.2 j (by omega))
  have hb_Z0_G1 := hF.2.2.2.2.2.1.keep (fun j h8 h9 => hG1.2 j (by omega))
  have hb_Z1_G1 := hF.2.2.2.2.2.2.keep (fun j h8 h9 => hG1.2 j (by omega))
  have h_0_G1 : G1 0 = .inr (6, [.ref (ad 1), .ref (ad 8), .ref (ad 11), .ref (ad 13), .ref (ad 57), .ref (ad 65)]) := (hG1.2 0 (by omega)).trans hF.1
  refine k_iload_n C dX6_clearBuffer_15 rfl (j := 0) rfl ?_
  exact k_iret C hQ rfl rfl dX6_clearBuffer_16 ⟨rfl, ⟨h_0_G1, hb_B_G1, hb_A_G1, hb_X_G1, hb_H_G1, hb_Z0_G1, hb_Z1_G1⟩, fun j hj => hG1.2 j (by omega)⟩
theorem inX6_firstError_6 : ∀ w ∈ wsX60, w ∈ wsX6_firstError := fun _ h => List.mem_cons_of_mem _ (List.mem_append_left _ (List.mem_append_right _ h))
theorem inX6_firstError_5 : ∀ w ∈ wsX50, w ∈ wsX6_firstError := fun _ h => List.mem_cons_of_mem _ (List.mem_append_right _ h)
theorem kd_X6_firstError : yX6_firstError.cls = RX6 ∧ yX6_firstError.cls ≠ "java/lang/invoke/MethodHandle" ∧ yX6_firstError.cls ≠ "java/lang/invoke/VarHandle" ∧ (parseMethodDescriptor yX6_firstError.desc).map (fun d => d.parameters.length) = some 0 := by decide +kernel
abbrev rX6_firstError : Room := ({ frames := 2, cells := 0, slots := 0, locals := 45 } : Room)
set_option maxRecDepth 100000 in
set_option maxHeartbeats 4000000 in
/-- firstError -/
theorem m_X6_firstError (l : Launch) (D : va_G) (cI cC cZ cB cJ : ClassId) (ad : Nat → Nat) (N : Nat) (G : Nat → va_E) (v : BV) (w : AV) (x : TV) (hi : HV) (z0 z1 : ZV) (hN : 73 ≤ N) (hF : isFB ad cI cB G v w x hi z0 z1) : kMi l yX6_firstError wsX6_firstError rX6_firstError D (kT5 cI cC cZ cB cJ) ad N G [.ref (ad 0)] (fun r G' => r = nI (txWrong x) ∧ G' = G) := by
  refine k_starti (cc := cX6_firstError) (ret := (some .int)) (maxL := 1) (lv0 := [(0, .ref (ad 0))]) (by decide) rfl (Nat.le_of_ble_eq_true rfl) rfl ?_
  intro p e s m args below meth c A Q C hQ
  have hlH := hF.2.1.2.2.2.2.1
  have hlB := hF.2.1.2.2.2.2.2.1
  have hlL := hF.2.1.2.2.2.2.2.2
  have hlX := hF.2.2.2.1.2.2
  have hlN := hF.2.2.2.2.1.2.2.2.1
  have hlZ := hF.2.2.2.2.1.2.2.2.2
  refine k_aload_n C dX6_firstError_0 rfl (j := 0) rfl ?_
  refine k_get C 0 inX6_firstError_6 (by omega) hF.1 rfl 2 (by decide) (List.mem_of_getElem? (i := 1) rfl) rfl rfl dX6_firstError_1 ?_
  refine k_callVir C (As := []) (rest := []) 11 (m_X5_firstWrong l D cI cC cZ cB cJ ad N G 11 x (by omega) hF.2.2.2.1) gX6_firstError_X5_firstWrong rfl kd_X5_firstWrong rfl rfl ⟨Nat.le_of_ble_eq_true rfl, Nat.le_of_ble_eq_true rfl⟩ (by omega) hF.2.2.2.1.1 rfl rfl rfl (Nat.le_of_ble_eq_true rfl) ⟨Nat.zero_le _, Nat.zero_le _⟩ dX6_firstError_4 ?_
  exact k_iret C hQ rfl rfl dX6_firstError_7 ⟨rfl, rfl⟩
theorem inX6_counted_6 : ∀ w ∈ wsX60, w ∈ wsX6_counted := fun _ h => List.mem_cons_of_mem _ (List.mem_append_left _ (List.mem_append_left _ (List.mem_append_left _ (List.mem_append_right _ h))))
theorem inX6_counted_1 : ∀ w ∈ wsX10, w ∈ wsX6_counted := fun _ h => List.mem_cons_of_mem _ (List.mem_append_left _ (List.mem_append_left _ (List.mem_append_right _ h)))
theorem inX6_counted_4 : ∀ w ∈ wsX40, w ∈ wsX6_counted := fun _ h => List.mem_cons_of_mem _ (List.mem_append_left _ (List.mem_append_right _ h))
theorem inX6_counted_2 : ∀ w ∈ wsX20, w ∈ wsX6_counted := fun _ h => List.mem_cons_of_mem _ (List.mem_append_right _ h)
theorem kd_X6_counted : yX6_counted.cls = RX6 ∧ yX6_counted.cls ≠ "java/lang/invoke/MethodHandle" ∧ yX6_counted.cls ≠ "java/lang/invoke/VarHandle" ∧ (parseMethodDescriptor yX6_counted.desc).map (fun d => d.parameters.length) = some 1 := by decide +kernel
abbrev rX6_counted : Room := ({ frames := 4, cells := 0, slots := 0, locals := 89 } : Room)
set_option maxRecDepth 100000 in
set_option maxHeartbeats 4000000 in
/-- counted -/
theorem m_X6_counted (l : Launch) (D : va_G) (cI cC cZ cB cJ : ClassId) (ad : Nat → Nat) (N : Nat) (G : Nat → va_E) (v : BV) (w : AV) (x : TV) (hi : HV) (z0 z1 : ZV) (k0 : Nat) (hN : 73 ≤ N) (hF : isFB ad cI cB G v w x hi z0 z1) (hk : k0 < 14) : kMi l yX6_counted wsX6_counted rX6_counted D (kT5 cI cC cZ cB cJ) ad N G [.ref (ad 0), .int (nI k0)] (fun r G' => r = jCount v hi k0 ∧ G' = G) := by
  refine k_starti (cc := cX6_counted) (ret := (some .int)) (maxL := 2) (lv0 := [(0, .ref (ad 0)), (1, .int (nI k0))]) (by decide) rfl (Nat.le_of_ble_eq_true rfl) rfl ?_
  intro p e s m args below meth c A Q C hQ
  have hlH := hF.2.1.2.2.2.2.1
  have hlB := hF.2.1.2.2.2.2.2.1
  have hlL := hF.2.1.2.2.2.2.2.2
  have hlX := hF.2.2.2.1.2.2
  have hlN := hF.2.2.2.2.1.2.2.2.1
  have hlZ := hF.2.2.2.2.1.2.2.2.2
  refine k_iload_n C dX6_counted_0 rfl (j := 1) rfl ?_
  rcases (show k0 = 0 ∨ k0 = 1 ∨ k0 = 2 ∨ k0 = 3 ∨ k0 = 4 ∨ k0 = 5 ∨ k0 = 6 ∨ k0 = 7 ∨ k0 = 8 ∨ k0 = 9 ∨ k0 = 10 ∨ k0 = 11 ∨ k0 = 12 ∨ k0 = 13 by omega) with rfl | rfl | rfl | rfl | rfl | rfl | rfl | rfl | rfl | rfl | rfl | rfl | rfl | rfl
  · skip
    refine k_tableIn C (off := 67) 68 dX6_counted_1 (by decide) (by decide) (by decide) (by decide) ?_
    refine k_aload_n C dX6_counted_68 rfl (j := 0) rfl ?_
    refine k_get C 0 inX6_counted_6 (by omega) hF.1 rfl 0 (by decide) (List.mem_of_getElem? (i := 1) rfl) rfl rfl dX6_counted_69 ?_
    refine k_get C 1 inX6_counted_1 (by omega) hF.2.1.1 rfl 0 (by decide) (List.mem_of_getElem? (i := 2) rfl) rfl rfl dX6_counted_72 ?_
    refine k_callVir C (As := []) (rest := []) 2 (m_X4_size l D cI cC cZ cB cJ ad N G 2 3 9 (nI (bnH v)) 90 (bvh v) (by omega) (by omega) hF.2.1.2.1.1 hF.2.1.2.1.2 (Nat.le_of_ble_eq_true rfl)) gX6_counted_X4_size rfl kd_X4_size rfl rfl ⟨Nat.le_of_ble_eq_true rfl, Nat.le_of_ble_eq_true rfl⟩ (by omega) hF.2.1.2.1.1 rfl rfl rfl (Nat.le_of_ble_eq_true rfl) ⟨Nat.zero_le _, Nat.zero_le _⟩ dX6_counted_75 ?_
    exact k_iret C hQ rfl rfl dX6_counted_78 ⟨rfl, rfl⟩
  · skip
    refine k_tableIn C (off := 78) 79 dX6_counted_1 (by decide) (by decide) (by decide) (by decide) ?_
    refine k_aload_n C dX6_counted_79 rfl (j := 0) rfl ?_
    refine k_get C 0 inX6_counted_6 (by omega) hF.1 rfl 0 (by decide) (List.mem_of_getElem? (i := 1) rfl) rfl rfl dX6_counted_80 ?_
    refine k_callVir C (As := []) (rest := []) 1 (m_X1_running l D cI cC cZ cB cJ ad N G 1 v (by omega) hF.2.1) gX6_counted_X1_running rfl kd_X1_running rfl rfl ⟨Nat.le_of_ble_eq_true rfl, Nat.le_of_ble_eq_true rfl⟩ (by omega) hF.2.1.1 rfl rfl rfl (Nat.le_of_ble_eq_true rfl) ⟨Nat.zero_le _, Nat.zero_le _⟩ dX6_counted_83 ?_
    exact k_iret C hQ rfl rfl dX6_counted_86 ⟨rfl, rfl⟩
  · skip
    refine k_tableIn C (off := 86) 87 dX6_counted_1 (by decide) (by decide) (by decide) (by decide) ?_
    refine k_aload_n C dX6_counted_87 rfl (j := 0) rfl ?_
    refine k_get C 0 inX6_counted_6 (by omega) hF.1 rfl 0 (by decide) (List.mem_of_getElem? (i := 1) rfl) rfl rfl dX6_counted_88 ?_
    refine k_get C 1 inX6_counted_1 (by omega) hF.2.1.1 rfl 1 (by decide) (List.mem_of_getElem? (i := 3) rfl) rfl rfl dX6_counted_91 ?_
    refine k_callVir C (As := []) (rest := []) 4 (m_X4_size l D cI cC cZ cB cJ ad N G 4 5 8 (nI (bnB v)) 192 (bvb v) (by omega) (by omega) hF.2.1.2.2.1.1 hF.2.1.2.2.1.2 (Nat.le_of_ble_eq_true rfl)) gX6_counted_X4_size rfl kd_X4_size rfl rfl ⟨Nat.le_of_ble_eq_true rfl, Nat.le_of_ble_eq_true rfl⟩ (by omega) hF.2.1.2.2.1.1 rfl rfl rfl (Nat.le_of_ble_eq_true rfl) ⟨Nat.zero_le _, Nat.zero_le _⟩ dX6_counted_94 ?_
    exact k_iret C hQ rfl rfl dX6_counted_97 ⟨rfl, rfl⟩
  · skip
    refine k_tableIn C (off := 97) 98 dX6_counted_1 (by decide) (by decide) (by decide) (by decide) ?_
    refine k_aload_n C dX6_counted_98 rfl (j := 0) rfl ?_
    refine k_get C 0 inX6_counted_6 (by omega) hF.1 rfl 0 (by decide) (List.mem_of_getElem? (i := 1) rfl) rfl rfl dX6_counted_99 ?_
    refine k_get C 1 inX6_counted_1 (by omega) hF.2.1.1 rfl 2 (by decide) (List.mem_of_getElem? (i := 4) rfl) rfl rfl dX6_counted_102 ?_
    refine k_callVir C (As := []) (rest := []) 6 (m_X4_size l D cI cC cZ cB cJ ad N G 6 7 5 (nI (bnL v)) 30 (bvl v) (by omega) (by omega) hF.2.1.2.2.2.1.1 hF.2.1.2.2.2.1.2 (Nat.le_of_ble_eq_true rfl)) gX6_counted_X4_size rfl kd_X4_size rfl rfl ⟨Nat.le_of_ble_eq_true rfl, Nat.le_of_ble_eq_true rfl⟩ (by omega) hF.2.1.2.2.2.1.1 rfl rfl rfl (Nat.le_of_ble_eq_true rfl) ⟨Nat.zero_le _, Nat.zero_le _⟩ dX6_counted_105 ?_
    exact k_iret C hQ rfl rfl dX6_counted_108 ⟨rfl, rfl⟩
  · skip
    refine k_tableIn C (off := 108) 109 dX6_counted_1 (by decide) (by decide) (by decide) (by decide) ?_
    refine k_aload_n C dX6_counted_109 rfl (j := 0) rfl ?_
    refine k_get C 0 inX6_counted_6 (by omega) hF.1 rfl 0 (by decide) (List.mem_of_getElem? (i := 1) rfl) rfl rfl dX6_counted_110 ?_
    refine k_callVir C (As := []) (rest := []) 1 (m_X1_stakes l D cI cC cZ cB cJ ad N G 1 v (by omega) hF.2.1) gX6_counted_X1_stakes rfl kd_X1_stakes rfl rfl ⟨Nat.le_of_ble_eq_true rfl, Nat.le_of_ble_eq_true rfl⟩ (by omega) hF.2.1.1 rfl rfl rfl (Nat.le_of_ble_eq_true rfl) ⟨Nat.zero_le _, Nat.zero_le _⟩ dX6_counted_113 ?_
    exact k_iret C hQ rfl rfl dX6_counted_116 ⟨rfl, rfl⟩
  · skip
    refine k_tableIn C (off := 116) 117 dX6_counted_1 (by decide) (by decide) (by decide) (by decide) ?_
    refine k_aload_n C dX6_counted_117 rfl (j := 0) rfl ?_
    refine k_get C 0 inX6_counted_6 (by omega) hF.1 rfl 0 (by decide) (List.mem_of_getElem? (i := 1) rfl) rfl rfl dX6_counted_118 ?_
    refine k_get C 1 inX6_counted_1 (by omega) hF.2.1.1 rfl 2 (by decide) (List.mem_of_getElem? (i := 4) rfl) rfl rfl dX6_counted_121 ?_
    refine k_iconst C (v := 1) dX6_counted_124 (by decide) ?_
    refine k_callVir C (As := [.int 1]) (rest := []) 6 (m_X4_sum l D cI cC cZ cB cJ ad N G 6 7 5 (bnL v) 30 (bvl v) 1 (by omega) (by omega) hF.2.1.2.2.2.1.1 hF.2.1.2.2.2.1.2 (Nat.le_of_ble_eq_true rfl) (by omega)) gX6_counted_X4_sum rfl kd_X4_sum rfl rfl ⟨Nat.le_of_ble_eq_true rfl, Nat.le_of_ble_eq_true rfl⟩ (by omega) hF.2.1.2.2.2.1.1 rfl rfl rfl (Nat.le_of_ble_eq_true rfl) ⟨Nat.zero_le _, Nat.zero_le _⟩ dX6_counted_125 ?_
    exact k_iret C hQ rfl rfl dX6_counted_128 ⟨rfl, rfl⟩
  · skip
    refine k_tableIn C (off := 128) 129 dX6_counted_1 (by decide) (by decide) (by decide) (by decide) ?_
    refine k_aload_n C dX6_counted_129 rfl (j := 0) rfl ?_
    refine k_get C 0 inX6_counted_6 (by omega) hF.1 rfl 0 (by decide) (List.mem_of_getElem? (i := 1) rfl) rfl rfl dX6_counted_130 ?_
    refine k_get C 1 inX6_counted_1 (by omega) hF.2.1.1 rfl 3 (by decide) (List.mem_of_getElem? (i := 5) rfl) rfl rfl dX6_counted_133 ?_
    refine k_if_eq C 154 dX6_counted_136 (by decide) (fun c_136 => ?_) (fun c_136 => ?_)
    · skip
      have e_136 := bI_f c_136
      refine k_iconst C (v := 0) dX6_counted_154 (by decide) ?_
      exact k_iret C hQ rfl rfl dX6_counted_155 ⟨by simp [jCount, bI, e_136], rfl⟩
    · skip
      have e_136 := bI_t c_136
      refine k_aload_n C dX6_counted_139 rfl (j := 0) rfl ?_
      refine k_get C 0 inX6_counted_6 (by omega) hF.1 rfl 0 (by decide) (List.mem_of_getElem? (i := 1) rfl) rfl rfl dX6_counted_140 ?_
      refine k_get C 1 inX6_counted_1 (by omega) hF.2.1.1 rfl 1 (by decide) (List.mem_of_getElem? (i := 3) rfl) rfl rfl dX6_counted_143 ?_
      refine k_bipush C (v := 6) dX6_counted_146 (by decide) ?_
      refine k_callVir C (As := [.int 6]) (rest := []) 4 (m_X4_sum l D cI cC cZ cB cJ ad N G 4 5 8 (bnB v) 192 (bvb v) 6 (by omega) (by omega) hF.2.1.2.2.1.1 hF.2.1.2.2.1.2 (Nat.le_of_ble_eq_true rfl) (by omega)) gX6_counted_X4_sum rfl kd_X4_sum rfl rfl ⟨Nat.le_of_ble_eq_true rfl, Nat.le_of_ble_eq_true rfl⟩ (by omega) hF.2.1.2.2.1.1 rfl rfl rfl (Nat.le_of_ble_eq_true rfl) ⟨Nat.zero_le _, Nat.zero_le _⟩ dX6_counted_148 ?_
      refine k_goto C 155 dX6_counted_151 (by decide) ?_
      exact k_iret C hQ rfl rfl dX6_counted_155 ⟨by simp [jCount, bI, e_136], rfl⟩
  · skip
    refine k_tableIn C (off := 155) 156 dX6_counted_1 (by decide) (by decide) (by decide) (by decide) ?_
    refine k_aload_n C dX6_counted_156 rfl (j := 0) rfl ?_
    refine k_get C 0 inX6_counted_6 (by omega) hF.1 rfl 0 (by decide) (List.mem_of_getElem? (i := 1) rfl) rfl rfl dX6_counted_157 ?_
    refine k_get C 1 inX6_counted_1 (by omega) hF.2.1.1 rfl 3 (by decide) (List.mem_of_getElem? (i := 5) rfl) rfl rfl dX6_counted_160 ?_
    refine k_if_eq C 180 dX6_counted_163 (by decide) (fun c_163 => ?_) (fun c_163 => ?_)
    · skip
      have e_163 := bI_f c_163
      refine k_iconst C (v := 0) dX6_counted_180 (by decide) ?_
      exact k_iret C hQ rfl rfl dX6_counted_181 ⟨by simp [jCount, bI, e_163], rfl⟩
    · skip
      have e_163 := bI_t c_163
      refine k_aload_n C dX6_counted_166 rfl (j := 0) rfl ?_
      refine k_get C 0 inX6_counted_6 (by omega) hF.1 rfl 0 (by decide) (List.mem_of_getElem? (i := 1) rfl) rfl rfl dX6_counted_167 ?_
      refine k_get C 1 inX6_counted_1 (by omega) hF.2.1.1 rfl 2 (by decide) (List.mem_of_getElem? (i := 4) rfl) rfl rfl dX6_counted_170 ?_
      refine k_iconst C (v := 4) dX6_counted_173 (by decide) ?_
      refine k_callVir C (As := [.int 4]) (rest := []) 6 (m_X4_sum l D cI cC cZ cB cJ ad N G 6 7 5 (bnL v) 30 (bvl v) 4 (by omega) (by omega) hF.2.1.2.2.2.1.1 hF.2.1.2.2.2.1.2 (Nat.le_of_ble_eq_true rfl) (by omega)) gX6_counted_X4_sum rfl kd_X4_sum rfl rfl ⟨Nat.le_of_ble_eq_true rfl, Nat.le_of_ble_eq_true rfl⟩ (by omega) hF.2.1.2.2.2.1.1 rfl rfl rfl (Nat.le_of_ble_eq_true rfl) ⟨Nat.zero_le _, Nat.zero_le _⟩ dX6_counted_174 ?_
      refine k_goto C 181 dX6_counted_177 (by decide) ?_
      exact k_iret C hQ rfl rfl dX6_counted_181 ⟨by simp [jCount, bI, e_163], rfl⟩
  · skip
    refine k_tableIn C (off := 181) 182 dX6_counted_1 (by decide) (by decide) (by decide) (by decide) ?_
    refine k_aload_n C dX6_counted_182 rfl (j := 0) rfl ?_
    refine k_get C 0 inX6_counted_6 (by omega) hF.1 rfl 0 (by decide) (List.mem_of_getElem? (i := 1) rfl) rfl rfl dX6_counted_183 ?_
    refine k_get C 1 inX6_counted_1 (by omega) hF.2.1.1 rfl 3 (by decide) (List.mem_of_getElem? (i := 5) rfl) rfl rfl dX6_counted_186 ?_
    refine k_if_eq C 196 dX6_counted_189 (by decide) (fun c_189 => ?_) (fun c_189 => ?_)
    · skip
      have e_189 := bI_f c_189
      refine k_iconst C (v := 0) dX6_counted_196 (by decide) ?_
      exact k_iret C hQ rfl rfl dX6_counted_197 ⟨by simp [jCount, bI, e_189], rfl⟩
    · skip
      have e_189 := bI_t c_189
      refine k_iconst C (v := 1) dX6_counted_192 (by decide) ?_
      refine k_goto C 197 dX6_counted_193 (by decide) ?_
      exact k_iret C hQ rfl rfl dX6_counted_197 ⟨by simp [jCount, bI, e_189], rfl⟩
  · skip
    refine k_tableIn C (off := 197) 198 dX6_counted_1 (by decide) (by decide) (by decide) (by decide) ?_
    refine k_aload_n C dX6_counted_198 rfl (j := 0) rfl ?_
    refine k_get C 0 inX6_counted_6 (by omega) hF.1 rfl 0 (by decide) (List.mem_of_getElem? (i := 1) rfl) rfl rfl dX6_counted_199 ?_
    refine k_callVir C (As := []) (rest := []) 1 (m_X1_places l D cI cC cZ cB cJ ad N G 1 v (by omega) hF.2.1) gX6_counted_X1_places rfl kd_X1_places rfl rfl ⟨Nat.le_of_ble_eq_true rfl, Nat.le_of_ble_eq_true rfl⟩ (by omega) hF.2.1.1 rfl rfl rfl (Nat.le_of_ble_eq_true rfl) ⟨Nat.zero_le _, Nat.zero_le _⟩ dX6_counted_202 ?_
    exact k_iret C hQ rfl rfl dX6_counted_205 ⟨rfl, rfl⟩
  · skip
    refine k_tableIn C (off := 205) 206 dX6_counted_1 (by decide) (by decide) (by decide) (by decide) ?_
    refine k_aload_n C dX6_counted_206 rfl (j := 0) rfl ?_
    refine k_get C 0 inX6_counted_6 (by omega) hF.1 rfl 0 (by decide) (List.mem_of_getElem? (i := 1) rfl) rfl rfl dX6_counted_207 ?_
    refine k_callVir C (As := []) (rest := []) 1 (m_X1_round l D cI cC cZ cB cJ ad N G 1 v (by omega) hF.2.1) gX6_counted_X1_round rfl kd_X1_round rfl rfl ⟨Nat.le_of_ble_eq_true rfl, Nat.le_of_ble_eq_true rfl⟩ (by omega) hF.2.1.1 rfl rfl rfl (Nat.le_of_ble_eq_true rfl) ⟨Nat.zero_le _, Nat.zero_le _⟩ dX6_counted_210 ?_
    exact k_iret C hQ rfl rfl dX6_counted_213 ⟨rfl, rfl⟩
  · skip
    refine k_tableIn C (off := 213) 214 dX6_counted_1 (by decide) (by decide) (by decide) (by decide) ?_
    refine k_aload_n C dX6_counted_214 rfl (j := 0) rfl ?_
    refine k_get C 0 inX6_counted_6 (by omega) hF.1 rfl 0 (by decide) (List.mem_of_getElem? (i := 1) rfl) rfl rfl dX6_counted_215 ?_
    refine k_get C 1 inX6_counted_1 (by omega) hF.2.1.1 rfl 3 (by decide) (List.mem_of_getElem? (i := 5) rfl) rfl rfl dX6_counted_218 ?_
    refine k_if_eq C 234 dX6_counted_221 (by decide) (fun c_221 => ?_) (fun c_221 => ?_)
    · skip
      have e_221 := bI_f c_221
      refine k_iconst C (v := 0) dX6_counted_234 (by decide) ?_
      exact k_iret C hQ rfl rfl dX6_counted_235 ⟨by simp [jCount, bI, e_221], rfl⟩
    · skip
      have e_221 := bI_t c_221
      refine k_aload_n C dX6_counted_224 rfl (j := 0) rfl ?_
      refine k_get C 0 inX6_counted_6 (by omega) hF.1 rfl 0 (by decide) (List.mem_of_getElem? (i := 1) rfl) rfl rfl dX6_counted_225 ?_
      refine k_callVir C (As := []) (rest := []) 1 (m_X1_won l D cI cC cZ cB cJ ad N G 1 v (by omega) hF.2.1) gX6_counted_X1_won rfl kd_X1_won rfl rfl ⟨Nat.le_of_ble_eq_true rfl, Nat.le_of_ble_eq_true rfl⟩ (by omega) hF.2.1.1 rfl rfl rfl (Nat.le_of_ble_eq_true rfl) ⟨Nat.zero_le _, Nat.zero_le _⟩ dX6_counted_228 ?_
      refine k_goto C 235 dX6_counted_231 (by decide) ?_
      exact k_iret C hQ rfl rfl dX6_counted_235 ⟨by simp [jCount, bI, e_221], rfl⟩
  · skip
    refine k_tableIn C (off := 235) 236 dX6_counted_1 (by decide) (by decide) (by decide) (by decide) ?_
    refine k_aload_n C dX6_counted_236 rfl (j := 0) rfl ?_
    refine k_get C 0 inX6_counted_6 (by omega) hF.1 rfl 0 (by decide) (List.mem_of_getElem? (i := 1) rfl) rfl rfl dX6_counted_237 ?_
    refine k_get C 1 inX6_counted_1 (by omega) hF.2.1.1 rfl 3 (by decide) (List.mem_of_getElem? (i := 5) rfl) rfl rfl dX6_counted_240 ?_
    refine k_if_eq C 256 dX6_counted_243 (by decide) (fun c_243 => ?_) (fun c_243 => ?_)
    · skip
      have e_243 := bI_f c_243
      refine k_iconst C (v := 0) dX6_counted_256 (by decide) ?_
      exact k_iret C hQ rfl rfl dX6_counted_257 ⟨by simp [jCount, bI, e_243], rfl⟩
    · skip
      have e_243 := bI_t c_243
      refine k_aload_n C dX6_counted_246 rfl (j := 0) rfl ?_
      refine k_get C 0 inX6_counted_6 (by omega) hF.1 rfl 0 (by decide) (List.mem_of_getElem? (i := 1) rfl) rfl rfl dX6_counted_247 ?_
      refine k_callVir C (As := []) (rest := []) 1 (m_X1_wonByLosses l D cI cC cZ cB cJ ad N G 1 v (by omega) hF.2.1) gX6_counted_X1_wonByLosses rfl kd_X1_wonByLosses rfl rfl ⟨Nat.le_of_ble_eq_true rfl, Nat.le_of_ble_eq_true rfl⟩ (by omega) hF.2.1.1 rfl rfl rfl (Nat.le_of_ble_eq_true rfl) ⟨Nat.zero_le _, Nat.zero_le _⟩ dX6_counted_250 ?_
      refine k_goto C 257 dX6_counted_253 (by decide) ?_
      exact k_iret C hQ rfl rfl dX6_counted_257 ⟨by simp [jCount, bI, e_243], rfl⟩
  · skip
    refine k_tableOut C 258 dX6_counted_1 (by decide) (by decide) ?_
    refine k_aload_n C dX6_counted_258 rfl (j := 0) rfl ?_
    refine k_get C 0 inX6_counted_6 (by omega) hF.1 rfl 3 (by decide) (List.mem_of_getElem? (i := 6) rfl) rfl rfl dX6_counted_259 ?_
    refine k_callVir C (As := []) (rest := []) 13 (m_X2_size l D cI cC cZ cB cJ ad N G 13 hi (by omega) hF.2.2.2.2.1) gX6_counted_X2_size rfl kd_X2_size rfl rfl ⟨Nat.le_of_ble_eq_true rfl, Nat.le_of_ble_eq_true rfl⟩ (by omega) hF.2.2.2.2.1.1 rfl rfl rfl (Nat.le_of_ble_eq_true rfl) ⟨Nat.zero_le _, Nat.zero_le _⟩ dX6_counted_262 ?_
    exact k_iret C hQ rfl rfl dX6_counted_265 ⟨rfl, rfl⟩
theorem inX6_coveringStake_6 : ∀ w ∈ wsX60, w ∈ wsX6_coveringStake := fun _ h => List.mem_cons_of_mem _ (List.mem_append_left _ (List.mem_append_left _ (List.mem_append_right _ h)))
theorem inX6_coveringStake_1 : ∀ w ∈ wsX10, w ∈ wsX6_coveringStake := fun _ h => List.mem_cons_of_mem _ (List.mem_append_left _ (List.mem_append_right _ h))
theorem inX6_coveringStake_4 : ∀ w ∈ wsX40, w ∈ wsX6_coveringStake := fun _ h => List.mem_cons_of_mem _ (List.mem_append_right _ h)
theorem kd_X6_coveringStake : yX6_coveringStake.cls = RX6 ∧ yX6_coveringStake.cls ≠ "java/lang/invoke/MethodHandle" ∧ yX6_coveringStake.cls ≠ "java/lang/invoke/VarHandle" ∧ (parseMethodDescriptor yX6_coveringStake.desc).map (fun d => d.parameters.length) = some 2 := by decide +kernel
abbrev rX6_coveringStake : Room := ({ frames := 2, cells := 0, slots := 0, locals := 45 } : Room)
set_option maxRecDepth 100000 in
set_option maxHeartbeats 4000000 in
/-- coveringStake -/
theorem m_X6_coveringStake (l : Launch) (D : va_G) (cI cC cZ cB cJ : ClassId) (ad : Nat → Nat) (N : Nat) (G : Nat → va_E) (v : BV) (w : AV) (x : TV) (hi : HV) (z0 z1 : ZV) (h q : Int32) (hN : 73 ≤ N) (hF : isFB ad cI cB G v w x hi z0 z1) : kMi l yX6_coveringStake wsX6_coveringStake rX6_coveringStake D (kT5 cI cC cZ cB cJ) ad N G [.ref (ad 0), .int h, .int q] (fun r G' => r = jCover v h q ∧ G' = G) := by
  refine k_starti (cc := cX6_coveringStake) (ret := (some .int)) (maxL := 8) (lv0 := [(0, .ref (ad 0)), (1, .int h), (2, .int q)]) (by decide) rfl (Nat.le_of_ble_eq_true rfl) rfl ?_
  intro p e s m args below meth c A Q C hQ
  have hlH := hF.2.1.2.2.2.2.1
  have hlB := hF.2.1.2.2.2.2.2.1
  have hlL := hF.2.1.2.2.2.2.2.2
  have hlX := hF.2.2.2.1.2.2
  have hlN := hF.2.2.2.2.1.2.2.2.1
  have hlZ := hF.2.2.2.2.1.2.2.2.2
  refine k_aload_n C dX6_coveringStake_0 rfl (j := 0) rfl ?_
  refine k_get C 0 inX6_coveringStake_6 (by omega) hF.1 rfl 0 (by decide) (List.mem_of_getElem? (i := 1) rfl) rfl rfl dX6_coveringStake_1 ?_
  refine k_get C 1 inX6_coveringStake_1 (by omega) hF.2.1.1 rfl 0 (by decide) (List.mem_of_getElem? (i := 2) rfl) rfl rfl dX6_coveringStake_4 ?_
  refine k_iload_n C dX6_coveringStake_7 rfl (j := 1) rfl ?_
  refine k_iconst C (v := 0) dX6_coveringStake_8 (by decide) ?_
  refine k_callVir C (As := [.int h, .int 0]) (rest := []) 2 (m_X4_cell l D cI cC cZ cB cJ ad N G 2 3 9 (nI (bnH v)) 90 (bvh v) h 0 (by omega) (by omega) hF.2.1.2.1.1 hF.2.1.2.1.2 (Nat.le_of_ble_eq_true rfl)) gX6_coveringStake_X4_cell rfl kd_X4_cell rfl rfl ⟨Nat.le_of_ble_eq_true rfl, Nat.le_of_ble_eq_true rfl⟩ (by omega) hF.2.1.2.1.1 rfl rfl rfl (Nat.le_of_ble_eq_true rfl) ⟨Nat.zero_le _, Nat.zero_le _⟩ dX6_coveringStake_9 ?_
  refine k_istore_n C (lv' := [(3, .int (tC (bvh v) 90 9 (nI (bnH v)) h 0)), (0, .ref (ad 0)), (1, .int h), (2, .int q)]) dX6_coveringStake_12 rfl (by decide) rfl ?_
  refine k_aload_n C dX6_coveringStake_13 rfl (j := 1) rfl ?_
  refine k_get C 0 inX6_coveringStake_6 (by omega) hF.1 rfl 0 (by decide) (List.mem_of_getElem? (i := 1) rfl) rfl rfl dX6_coveringStake_14 ?_
  refine k_iload_n C dX6_coveringStake_17 rfl (j := 2) rfl ?_
  refine k_callVir C (As := [.int h]) (rest := []) 1 (m_X1_runs l D cI cC cZ cB cJ ad N G 1 v h (by omega) hF.2.1) gX6_coveringStake_X1_runs rfl kd_X1_runs rfl rfl ⟨Nat.le_of_ble_eq_true rfl, Nat.le_of_ble_eq_true rfl⟩ (by omega) hF.2.1.1 rfl rfl rfl (Nat.le_of_ble_eq_true rfl) ⟨Nat.zero_le _, Nat.zero_le _⟩ dX6_coveringStake_18 ?_
  refine k_if_eq C 28 dX6_coveringStake_21 (by decide) (fun c_21 => ?_) (fun c_21 => ?_)
  · skip
    have e_21 := bI_f c_21
    refine k_iconst C (v := (-1)) dX6_coveringStake_28 (by decide) ?_
    exact k_iret C hQ rfl rfl dX6_coveringStake_29 ⟨by simp [jCover, jNeed, jLack, e_21], rfl⟩
  · skip
    have e_21 := bI_t c_21
    refine k_iload_n C dX6_coveringStake_24 rfl (j := 0) rfl ?_
    refine k_if_gt C 30 dX6_coveringStake_25 (by decide) (fun c_25 => ?_) (fun c_25 => ?_)
    · skip
      refine k_ldc2l C (v := 10000000) dX6_coveringStake_30 (List.mem_of_getElem? (i := 3) rfl) ?_
      refine k_aload_n C dX6_coveringStake_33 rfl (j := 1) rfl ?_
      refine k_get C 0 inX6_coveringStake_6 (by omega) hF.1 rfl 0 (by decide) (List.mem_of_getElem? (i := 1) rfl) rfl rfl dX6_coveringStake_34 ?_
      refine k_get C 1 inX6_coveringStake_1 (by omega) hF.2.1.1 rfl 5 (by decide) (List.mem_of_getElem? (i := 4) rfl) rfl rfl dX6_coveringStake_37 ?_
      refine k_i2l C dX6_coveringStake_40 ?_
      refine k_lsub C dX6_coveringStake_41 ?_
      refine k_iload_n C dX6_coveringStake_42 rfl (j := 3) rfl ?_
      refine k_i2l C dX6_coveringStake_43 ?_
      refine k_lsub C dX6_coveringStake_44 ?_
      refine k_lstore C (lv' := [(4, .long ((10000000 - ((bvO v).toInt64)) - q.toInt64)), (3, .int (tC (bvh v) 90 9 (nI (bnH v)) h 0)), (0, .ref (ad 0)), (1, .int h), (2, .int q)]) dX6_coveringStake_45 (by decide) rfl ?_
      refine k_lload C dX6_coveringStake_47 (j := 0) rfl ?_
      refine k_lconst C (v := 0) dX6_coveringStake_49 (by decide) ?_
      refine k_lcmp C dX6_coveringStake_50 ?_
      refine k_if_gt C 56 dX6_coveringStake_51 (by decide) (fun c_51 => ?_) (fun c_51 => ?_)
      · skip
        refine k_lload C dX6_coveringStake_56 (j := 0) rfl ?_
        refine k_aload_n C dX6_coveringStake_58 rfl (j := 2) rfl ?_
        refine k_get C 0 inX6_coveringStake_6 (by omega) hF.1 rfl 0 (by decide) (List.mem_of_getElem? (i := 1) rfl) rfl rfl dX6_coveringStake_59 ?_
        refine k_get C 1 inX6_coveringStake_1 (by omega) hF.2.1.1 rfl 0 (by decide) (List.mem_of_getElem? (i := 2) rfl) rfl rfl dX6_coveringStake_62 ?_
        refine k_iload_n C dX6_coveringStake_65 rfl (j := 3) rfl ?_
        refine k_iconst C (v := 1) dX6_coveringStake_66 (by decide) ?_
        refine k_callVir C (As := [.int h, .int 1]) (rest := [.long ((10000000 - ((bvO v).toInt64)) - q.toInt64)]) 2 (m_X4_cell l D cI cC cZ cB cJ ad N G 2 3 9 (nI (bnH v)) 90 (bvh v) h 1 (by omega) (by omega) hF.2.1.2.1.1 hF.2.1.2.1.2 (Nat.le_of_ble_eq_true rfl)) gX6_coveringStake_X4_cell rfl kd_X4_cell rfl rfl ⟨Nat.le_of_ble_eq_true rfl, Nat.le_of_ble_eq_true rfl⟩ (by omega) hF.2.1.2.1.1 rfl rfl rfl (Nat.le_of_ble_eq_true rfl) ⟨Nat.zero_le _, Nat.zero_le _⟩ dX6_coveringStake_67 ?_
        refine k_i2l C dX6_coveringStake_70 ?_
        refine k_lmul C dX6_coveringStake_71 ?_
        refine k_iload_n C dX6_coveringStake_72 rfl (j := 1) rfl ?_
        refine k_i2l C dX6_coveringStake_73 ?_
        refine k_ladd C dX6_coveringStake_74 ?_
        refine k_lconst C (v := 1) dX6_coveringStake_75 (by decide) ?_
        refine k_lsub C dX6_coveringStake_76 ?_
        refine k_iload_n C dX6_coveringStake_77 rfl (j := 1) rfl ?_
        refine k_i2l C dX6_coveringStake_78 ?_
        refine k_ldiv C dX6_coveringStake_79 (fun h9 => absurd c_25 (cov_nz h9)) ?_
        refine k_lstore C (lv' := [(6, .long ((((((10000000 - ((bvO v).toInt64)) - q.toInt64) * ((tC (bvh v) 90 9 (nI (bnH v)) h 1).toInt64)) + ((tC (bvh v) 90 9 (nI (bnH v)) h 0).toInt64)) - 1) / ((tC (bvh v) 90 9 (nI (bnH v)) h 0).toInt64))), (4, .long ((10000000 - ((bvO v).toInt64)) - q.toInt64)), (3, .int (tC (bvh v) 90 9 (nI (bnH v)) h 0)), (0, .ref (ad 0)), (1, .int h), (2, .int q)]) dX6_coveringStake_80 (by decide) rfl ?_
        refine k_lload C dX6_coveringStake_82 (j := 0) rfl ?_
        refine k_ldc2l C (v := 9999) dX6_coveringStake_84 (List.mem_of_getElem? (i := 5) rfl) ?_
        refine k_lcmp C dX6_coveringStake_87 ?_
        refine k_if_gt C 97 dX6_coveringStake_88 (by decide) (fun c_88 => ?_) (fun c_88 => ?_)
        · skip
          refine k_iconst C (v := (-1)) dX6_coveringStake_97 (by decide) ?_
          exact k_iret C hQ rfl rfl dX6_coveringStake_98 ⟨by simp [jCover, jNeed, jLack, e_21, c_25, c_51, c_88], rfl⟩
        · skip
          refine k_lload C dX6_coveringStake_91 (j := 0) rfl ?_
          refine k_l2i C dX6_coveringStake_93 ?_
          refine k_goto C 98 dX6_coveringStake_94 (by decide) ?_
          exact k_iret C hQ rfl rfl dX6_coveringStake_98 ⟨by simp [jCover, jNeed, jLack, e_21, c_25, c_51, c_88], rfl⟩
      · skip
        refine k_iconst C (v := 0) dX6_coveringStake_54 (by decide) ?_
        exact k_iret C hQ rfl rfl dX6_coveringStake_55 ⟨by simp [jCover, jNeed, jLack, e_21, c_25, c_51], rfl⟩
    · skip
      refine k_iconst C (v := (-1)) dX6_coveringStake_28 (by decide) ?_
      exact k_iret C hQ rfl rfl dX6_coveringStake_29 ⟨by simp [jCover, jNeed, jLack, e_21, c_25], rfl⟩
