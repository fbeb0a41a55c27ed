/-! MODULE FieldBookModel: cell 73 the object, 74 s, 75 isKept, 76 text, 77 first, 78 group -/
def isMo (ad : Nat → Nat) (cI cC cZ : ClassId) (G : Nat → va_E) (f kp tx fi gr : Nat → Int32) (st ty : Nat) (th at0 re : Int32) : Prop :=
  G 73 = .inr (7, [.ref (ad 74), .int (nI st), .ref (ad 75), .int th, .ref (ad 76), .int (nI ty), .int at0, .ref (ad 77), .ref (ad 78), .int re]) ∧
  G 74 = .inl (cI, 2610, .inl f) ∧ G 75 = .inl (cZ, 2, .inl kp) ∧ G 76 = .inl (cC, 30, .inl tx) ∧ G 77 = .inl (cI, 10, .inl fi) ∧ G 78 = .inl (cI, 10, .inl gr)
theorem isMo.keep {ad : Nat → Nat} {cI cC cZ : ClassId} {G G' : Nat → va_E} {f kp tx fi gr : Nat → Int32} {st ty : Nat} {th at0 re : Int32} (h : isMo ad cI cC cZ G f kp tx fi gr st ty th at0 re) (hf : ∀ j, 73 ≤ j → j < 79 → G' j = G j) : isMo ad cI cC cZ G' f kp tx fi gr st ty th at0 re :=
  ⟨(hf _ (by omega) (by omega)).trans h.1, (hf _ (by omega) (by omega)).trans h.2.1, (hf _ (by omega) (by omega)).trans h.2.2.1, (hf _ (by omega) (by omega)).trans h.2.2.2.1, (hf _ (by omega) (by omega)).trans h.2.2.2.2.1, (hf _ (by omega) (by omega)).trans h.2.2.2.2.2⟩
def mIn (x lo hi : Int32) : Bool := !(decide (x < lo)) && !(decide (hi < x))
def mIsH (f : Nat → Int32) (h : Int32) : Bool := mIn h 0 (f 0 - 1)
theorem mIsH_nI {f : Nat → Int32} {nh : Nat} {h : Int32} (hf : f 0 = nI nh) (hn : nh ≤ 10) (hh : mIsH f h = true) : ∃ j, j < nh ∧ h = nI j := by
  simp only [mIsH, mIn, Bool.and_eq_true, Bool.not_eq_true', decide_eq_false_iff_not] at hh
  rw [hf] at hh
  rcases Nat.eq_zero_or_pos nh with h0 | h0
  · subst h0
    have h1 : h ≤ nI 0 - 1 := Int32.not_lt.mp hh.2
    have h2 : (0 : Int32) ≤ h := Int32.not_lt.mp hh.1
    exact absurd (Int32.le_trans h2 h1) (by decide)
  · rw [show (1 : Int32) = nI 1 from rfl, pk_sub h0] at hh
    obtain ⟨j, hj, e⟩ := nI_of2 (M := nI (nh - 1)) (n := nh - 1) (nI_toInt (by omega)) hh.1 (Int32.not_lt.mp hh.2)
    exact ⟨j, by omega, e⟩
theorem mIsH_of {f : Nat → Int32} {nh j : Nat} (hf : f 0 = nI nh) (hn : nh ≤ 10) (hj : j < nh) : mIsH f (nI j) = true := by
  have h1 : ¬ nI j < 0 := nI_pos (by omega)
  have h2 : ¬ f 0 - 1 < nI j := by
    rw [hf, show (1 : Int32) = nI 1 from rfl, pk_sub (by omega)]
    exact nI_nlt (by omega) (by omega)
  simp [mIsH, mIn, h1, h2]
def mOpen (f : Nat → Int32) : Bool := decide (f 3 = 0)
def mRuns (f : Nat → Int32) (h : Int32) : Bool := mIsH f h && decide (f (26 + h.toNatClampNeg) = 1)
def mPriceOk (a b : Int32) : Bool := mIn a 1 100 && mIn b 1 20
def mField (f : Nat → Int32) : Nat → Int32
  | 0 => 0
  | i + 1 => mField f i + f (26 + i)
def mPlaces (f : Nat → Int32) (nh : Nat) : Int32 := if 5 ≤ mField f nh then (if 8 ≤ mField f nh then 3 else 2) else 0
def mWon (c0 a b q : Int32) : Int32 := c0 + c0 * a / b * (100 - q) / 100
def mForWin (fi gr : Nat → Int32) (h : Nat) (c0 a b q : Int32) : Int32 := if fi h = 1 then mWon (c0 / gr h) a b q else 0
def mB (f : Nat → Int32) (k w : Nat) : Int32 := f (66 + 8 * k + w)
def mO (f : Nat → Int32) (k w : Nat) : Int32 := f (258 + 5 * k + w)
def mBh (f : Nat → Int32) (k : Nat) : Nat := (mB f k 0).toNatClampNeg
def mOh (f : Nat → Int32) (k : Nat) : Nat := (mO f k 0).toNatClampNeg
def okB (f : Nat → Int32) (k : Nat) : Prop := mB f k 0 = nI (mBh f k) ∧ mBh f k < 10 ∧ ¬ mB f k 4 = 0 ∧ ¬ mB f k 4 * f 4 = 0
def okO (f : Nat → Int32) (k : Nat) : Prop := mO f k 0 = nI (mOh f k) ∧ mOh f k < 10 ∧ ¬ mO f k 3 = 0
def okG (fi gr : Nat → Int32) : Prop := ∀ h, h < 10 → ¬ fi h < 0 → ¬ gr h = 0
theorem okG.one {fi gr : Nat → Int32} (h : okG fi gr) {j : Nat} (hj : j < 10) (e : fi j = 1) : ¬ gr j = 0 := h j hj (by rw [e]; decide)
def mWithin (f fi : Nat → Int32) (nh h : Nat) : Int32 := mPlaces f nh - fi h + 1
def mC (f fi gr : Nat → Int32) (nh h : Nat) : Int32 := if gr h ≤ mWithin f fi nh h then gr h else mWithin f fi nh h
def mForPlace (f fi gr : Nat → Int32) (nh k : Nat) : Int32 :=
  if mPlaces f nh = 0 then mB f k 1 else if fi (mBh f k) < 0 then 0 else if fi (mBh f k) ≤ mPlaces f nh then
    mWon (mB f k 1 * mC f fi gr nh (mBh f k) / gr (mBh f k)) (mB f k 3) (mB f k 4 * f 4) (mB f k 5) else 0
def mStaked (f : Nat → Int32) (k : Nat) : Int32 := mB f k 1 * (1 + mB f k 2)
def mWinOf (f fi gr : Nat → Int32) (k : Nat) : Int32 := mForWin fi gr (mBh f k) (mB f k 1) (mB f k 3) (mB f k 4) (mB f k 5)
def mPlaceOf (f fi gr : Nat → Int32) (nh k : Nat) : Int32 := if mB f k 2 = 1 then mForPlace f fi gr nh k else 0
def mRet (f fi gr : Nat → Int32) (nh k : Nat) : Int32 := if f (26 + mBh f k) = 0 then mStaked f k else mWinOf f fi gr k + mPlaceOf f fi gr nh k
def mRea (f fi gr : Nat → Int32) (nh k : Nat) : Int32 :=
  if f (26 + mBh f k) = 0 then 1 else if mWinOf f fi gr k ≤ 0 then (if mPlaceOf f fi gr nh k = 0 then 0 else if mPlaces f nh = 0 then 4 else 3) else 2
def mOffRet (f fi gr : Nat → Int32) (k : Nat) : Int32 := if f (26 + mOh f k) = 0 then mO f k 1 else mForWin fi gr (mOh f k) (mO f k 1) (mO f k 2) (mO f k 3) 0
def mBetsOn (f : Nat → Int32) (h : Int32) : Nat → Int32
  | 0 => 0
  | i + 1 => mBetsOn f h i + (if mB f i 0 = h then 1 else 0)
def mStakes (f : Nat → Int32) (h : Int32) (pl : Bool) : Nat → Int32
  | 0 => 0
  | i + 1 => mStakes f h pl i + (if mB f i 0 = h then mB f i 1 * (if pl = true then mB f i 2 else 1) else 0)
def mHorse (f : Nat → Int32) (nb h k : Nat) : Int32 := match k with
  | 0 => f (6 + h)
  | 1 => f (16 + h)
  | 2 => f (26 + h)
  | 3 => f (36 + h)
  | 4 => mBetsOn f (nI h) nb
  | 5 => mStakes f (nI h) false nb
  | 6 => mStakes f (nI h) true nb
  | 7 => f (46 + h)
  | _ => f (56 + h)
def mAll (f : Nat → Int32) : Nat → Int32
  | 0 => 0
  | i + 1 => mAll f i + mStaked f i
def mAllO (f : Nat → Int32) : Nat → Int32
  | 0 => 0
  | i + 1 => mAllO f i + mO f i 1
def mRound (f : Nat → Int32) : Nat → Int32
  | 0 => 0
  | i + 1 => mRound f i + (if f (26 + i) = 1 then 1000 * f (16 + i) / (f (6 + i) + f (16 + i)) else 0)
def mL1 (f : Nat → Int32) : Nat → Int32
  | 0 => 0
  | i + 1 => mL1 f i + (mStaked f i - mB f i 6)
def mL2 (f : Nat → Int32) (nb : Nat) : Nat → Int32
  | 0 => mL1 f nb
  | i + 1 => mL2 f nb i - (mO f i 1 - mO f i 4)
def mCount (f : Nat → Int32) (st nh nb nl k : Nat) : Int32 := match k with
  | 0 => f 0
  | 1 => mField f nh
  | 2 => f 1
  | 3 => f 2
  | 4 => mAll f nb
  | 5 => mAllO f nl
  | 6 => if f 3 = 0 then 0 else f 288
  | 7 => if f 3 = 0 then 0 else f 289
  | 8 => f 3
  | 9 => mPlaces f nh
  | 10 => mRound f nh
  | 11 => if f 3 = 0 then 0 else mAll f nb - f 288 - mAllO f nl + f 289 + 10000000
  | 12 => if f 3 = 0 then 0 else mL2 f nb nl + 10000000
  | _ => nI st
theorem kd_X7_in : yX7_in.cls ≠ "java/lang/invoke/MethodHandle" ∧ yX7_in.cls ≠ "java/lang/invoke/VarHandle" ∧ (parseMethodDescriptor yX7_in.desc).map (fun d => d.parameters.length) = some 3 := by decide +kernel
abbrev rX7_in : Room := ({ frames := 0, cells := 0, slots := 0, locals := 0 } : Room)
set_option maxRecDepth 100000 in
set_option maxHeartbeats 4000000 in
/-- in -/
theorem m_X7_in (l : Launch) (D : va_G) (cI cC cZ cB cJ : ClassId) (ad : Nat → Nat) (N : Nat) (G : Nat → va_E) (x lo hi : Int32)  : kMi l yX7_in wsX7_in rX7_in D (kT5 cI cC cZ cB cJ) ad N G [.int x, .int lo, .int hi] (fun r G' => r = bI (mIn x lo hi) ∧ G' = G) := by
  refine k_starti (cc := cX7_in) (ret := (some .boolean)) (maxL := 3) (lv0 := [(0, .int x), (1, .int lo), (2, .int hi)]) (by decide) rfl (Nat.le_of_ble_eq_true rfl) rfl ?_
  intro p e s m args below meth c A Q C hQ
  refine k_iload_n C dX7_in_0 rfl (j := 0) rfl ?_
  refine k_iload_n C dX7_in_1 rfl (j := 1) rfl ?_
  refine k_icmp_lt C 14 dX7_in_2 (by decide) (fun c_2 => ?_) (fun c_2 => ?_)
  · skip
    refine k_iconst C (v := 0) dX7_in_14 (by decide) ?_
    exact k_iret C hQ rfl (by decide) dX7_in_15 ⟨by simp [mIn, bI, c_2], rfl⟩
  · skip
    refine k_iload_n C dX7_in_5 rfl (j := 0) rfl ?_
    refine k_iload_n C dX7_in_6 rfl (j := 2) rfl ?_
    refine k_icmp_gt C 14 dX7_in_7 (by decide) (fun c_7 => ?_) (fun c_7 => ?_)
    · skip
      refine k_iconst C (v := 0) dX7_in_14 (by decide) ?_
      exact k_iret C hQ rfl (by decide) dX7_in_15 ⟨by simp [mIn, bI, c_2, c_7], rfl⟩
    · skip
      refine k_iconst C (v := 1) dX7_in_10 (by decide) ?_
      refine k_goto C 15 dX7_in_11 (by decide) ?_
      exact k_iret C hQ rfl (by decide) dX7_in_15 ⟨by simp [mIn, bI, c_2, c_7], rfl⟩
theorem inX7_thrown_7 : ∀ w ∈ wsX70, w ∈ wsX7_thrown := fun _ h => List.mem_cons_of_mem _ (List.mem_append_right _ h)
theorem kd_X7_thrown : yX7_thrown.cls = RX7 ∧ yX7_thrown.cls ≠ "java/lang/invoke/MethodHandle" ∧ yX7_thrown.cls ≠ "java/lang/invoke/VarHandle" ∧ (parseMethodDescriptor yX7_thrown.desc).map (fun d => d.parameters.length) = some 0 := by decide +kernel
abbrev rX7_thrown : Room := ({ frames := 0, cells := 0, slots := 0, locals := 0 } : Room)
set_option maxRecDepth 100000 in
set_option maxHeartbeats 4000000 in
/-- model: thrown -/
theorem m_X7_thrown (l : Launch) (D : va_G) (cI cC cZ cB cJ : ClassId) (ad : Nat → Nat) (N : Nat) (G : Nat → va_E) (f kp tx fi gr : Nat → Int32) (st ty : Nat) (th at0 re : Int32) (nh nb nl : Nat) (hN : 79 ≤ N) (hM : isMo ad cI cC cZ G f kp tx fi gr st ty th at0 re) : kMi l yX7_thrown wsX7_thrown rX7_thrown D (kT5 cI cC cZ cB cJ) ad N G [.ref (ad 73)] (fun r G' => r = th ∧ G' = G) := by
  refine k_starti (cc := cX7_thrown) (ret := (some .int)) (maxL := 1) (lv0 := [(0, .ref (ad 73))]) (by decide) rfl (Nat.le_of_ble_eq_true rfl) rfl ?_
  intro p e s m args below meth c A Q C hQ
  refine k_aload_n C dX7_thrown_0 rfl (j := 0) rfl ?_
  refine k_get C 73 inX7_thrown_7 (by omega) hM.1 rfl 3 (by decide) (List.mem_of_getElem? (i := 1) rfl) rfl rfl dX7_thrown_1 ?_
  exact k_iret C hQ rfl rfl dX7_thrown_4 ⟨rfl, rfl⟩
theorem inX7_isHorse_7 : ∀ w ∈ wsX70, w ∈ wsX7_isHorse := fun _ h => List.mem_cons_of_mem _ (List.mem_append_right _ h)
theorem kd_X7_isHorse : yX7_isHorse.cls = RX7 ∧ yX7_isHorse.cls ≠ "java/lang/invoke/MethodHandle" ∧ yX7_isHorse.cls ≠ "java/lang/invoke/VarHandle" ∧ (parseMethodDescriptor yX7_isHorse.desc).map (fun d => d.parameters.length) = some 1 := by decide +kernel
abbrev rX7_isHorse : Room := ({ frames := 1, cells := 0, slots := 0, locals := 22 } : Room)
set_option maxRecDepth 100000 in
set_option maxHeartbeats 4000000 in
/-- model: isHorse -/
theorem m_X7_isHorse (l : Launch) (D : va_G) (cI cC cZ cB cJ : ClassId) (ad : Nat → Nat) (N : Nat) (G : Nat → va_E) (f kp tx fi gr : Nat → Int32) (st ty : Nat) (th at0 re : Int32) (nh nb nl : Nat) (h : Int32) (hN : 79 ≤ N) (hM : isMo ad cI cC cZ G f kp tx fi gr st ty th at0 re) : kMi l yX7_isHorse wsX7_isHorse rX7_isHorse D (kT5 cI cC cZ cB cJ) ad N G [.ref (ad 73), .int h] (fun r G' => r = bI (mIsH f h) ∧ G' = G) := by
  refine k_starti (cc := cX7_isHorse) (ret := (some .boolean)) (maxL := 2) (lv0 := [(0, .ref (ad 73)), (1, .int h)]) (by decide) rfl (Nat.le_of_ble_eq_true rfl) rfl ?_
  intro p e s m args below meth c A Q C hQ
  refine k_iload_n C dX7_isHorse_0 rfl (j := 1) rfl ?_
  refine k_iconst C (v := 0) dX7_isHorse_1 (by decide) ?_
  refine k_aload_n C dX7_isHorse_2 rfl (j := 0) rfl ?_
  refine k_get C 73 inX7_isHorse_7 (by omega) hM.1 rfl 0 (by decide) (List.mem_of_getElem? (i := 1) rfl) rfl rfl dX7_isHorse_3 ?_
  refine k_iconst C (v := 0) dX7_isHorse_6 (by decide) ?_
  refine k_ialdN C 74 0 (by omega) hM.2.1 rfl 0 rfl (by omega) (Nat.le_of_ble_eq_true rfl) dX7_isHorse_7 ?_
  refine k_iconst C (v := 1) dX7_isHorse_8 (by decide) ?_
  refine k_isub C dX7_isHorse_9 ?_
  refine k_callSir C (As := [.int h, .int 0, .int ((f 0) - 1)]) (rest := []) (m_X7_in l D cI cC cZ cB cJ ad N G h 0 ((f 0) - 1)) gX7_isHorse_X7_in rfl kd_X7_in rfl rfl ⟨Nat.le_of_ble_eq_true rfl, Nat.le_of_ble_eq_true rfl⟩ rfl rfl (Nat.le_of_ble_eq_true rfl) ⟨Nat.zero_le _, Nat.zero_le _⟩ dX7_isHorse_10 ?_
  exact k_iret C hQ rfl (bI_nar _) dX7_isHorse_13 ⟨rfl, rfl⟩
theorem inX7_isOpen_7 : ∀ w ∈ wsX70, w ∈ wsX7_isOpen := fun _ h => List.mem_cons_of_mem _ (List.mem_append_right _ h)
theorem kd_X7_isOpen : yX7_isOpen.cls = RX7 ∧ yX7_isOpen.cls ≠ "java/lang/invoke/MethodHandle" ∧ yX7_isOpen.cls ≠ "java/lang/invoke/VarHandle" ∧ (parseMethodDescriptor yX7_isOpen.desc).map (fun d => d.parameters.length) = some 0 := by decide +kernel
abbrev rX7_isOpen : Room := ({ frames := 0, cells := 0, slots := 0, locals := 0 } : Room)
set_option maxRecDepth 100000 in
set_option maxHeartbeats 4000000 in
/-- model: isOpen -/
theorem m_X7_isOpen (l : Launch) (D : va_G) (cI cC cZ cB cJ : ClassId) (ad : Nat → Nat) (N : Nat) (G : Nat → va_E) (f kp tx fi gr : Nat → Int32) (st ty : Nat) (th at0 re : Int32) (nh nb nl : Nat) (hN : 79 ≤ N) (hM : isMo ad cI cC cZ G f kp tx fi gr st ty th at0 re) : kMi l yX7_isOpen wsX7_isOpen rX7_isOpen D (kT5 cI cC cZ cB cJ) ad N G [.ref (ad 73)] (fun r G' => r = bI (mOpen f) ∧ G' = G) := by
  refine k_starti (cc := cX7_isOpen) (ret := (some .boolean)) (maxL := 1) (lv0 := [(0, .ref (ad 73))]) (by decide) rfl (Nat.le_of_ble_eq_true rfl) rfl ?_
  intro p e s m args below meth c A Q C hQ
  refine k_aload_n C dX7_isOpen_0 rfl (j := 0) rfl ?_
  refine k_get C 73 inX7_isOpen_7 (by omega) hM.1 rfl 0 (by decide) (List.mem_of_getElem? (i := 1) rfl) rfl rfl dX7_isOpen_1 ?_
  refine k_iconst C (v := 3) dX7_isOpen_4 (by decide) ?_
  refine k_ialdN C 74 0 (by omega) hM.2.1 rfl 3 rfl (by omega) (Nat.le_of_ble_eq_true rfl) dX7_isOpen_5 ?_
  refine k_if_ne C 13 dX7_isOpen_6 (by decide) (fun c_6 => ?_) (fun c_6 => ?_)
  · skip
    refine k_iconst C (v := 0) dX7_isOpen_13 (by decide) ?_
    exact k_iret C hQ rfl (by decide) dX7_isOpen_14 ⟨by simp [mOpen, bI, c_6], rfl⟩
  · skip
    refine k_iconst C (v := 1) dX7_isOpen_9 (by decide) ?_
    refine k_goto C 14 dX7_isOpen_10 (by decide) ?_
    exact k_iret C hQ rfl (by decide) dX7_isOpen_14 ⟨by simp [mOpen, bI, c_6], rfl⟩
theorem inX7_runs_7 : ∀ w ∈ wsX70, w ∈ wsX7_runs := fun _ h => List.mem_cons_of_mem _ (List.mem_append_right _ h)
theorem kd_X7_runs : yX7_runs.cls = RX7 ∧ yX7_runs.cls ≠ "java/lang/invoke/MethodHandle" ∧ yX7_runs.cls ≠ "java/lang/invoke/VarHandle" ∧ (parseMethodDescriptor yX7_runs.desc).map (fun d => d.parameters.length) = some 1 := by decide +kernel
abbrev rX7_runs : Room := ({ frames := 2, cells := 0, slots := 0, locals := 43 } : Room)
set_option maxRecDepth 100000 in
set_option maxHeartbeats 4000000 in
/-- model: runs -/
theorem m_X7_runs (l : Launch) (D : va_G) (cI cC cZ cB cJ : ClassId) (ad : Nat → Nat) (N : Nat) (G : Nat → va_E) (f kp tx fi gr : Nat → Int32) (st ty : Nat) (th at0 re : Int32) (nh nb nl : Nat) (h : Int32) (hN : 79 ≤ N) (hM : isMo ad cI cC cZ G f kp tx fi gr st ty th at0 re) (hH : f 0 = nI nh ∧ nh ≤ 10) : kMi l yX7_runs wsX7_runs rX7_runs D (kT5 cI cC cZ cB cJ) ad N G [.ref (ad 73), .int h] (fun r G' => r = bI (mRuns f h) ∧ G' = G) := by
  refine k_starti (cc := cX7_runs) (ret := (some .boolean)) (maxL := 2) (lv0 := [(0, .ref (ad 73)), (1, .int h)]) (by decide) rfl (Nat.le_of_ble_eq_true rfl) rfl ?_
  intro p e s m args below meth c A Q C hQ
  refine k_aload_n C dX7_runs_0 rfl (j := 0) rfl ?_
  refine k_iload_n C dX7_runs_1 rfl (j := 1) rfl ?_
  refine k_callVir C (As := [.int h]) (rest := []) 73 (m_X7_isHorse l D cI cC cZ cB cJ ad N G f kp tx fi gr st ty th at0 re nh nb nl h (by omega) ⟨hM.1, hM.2.1, hM.2.2.1, hM.2.2.2.1, hM.2.2.2.2.1, hM.2.2.2.2.2⟩ ) gX7_runs_X7_isHorse rfl kd_X7_isHorse rfl rfl ⟨Nat.le_of_ble_eq_true rfl, Nat.le_of_ble_eq_true rfl⟩ (by omega) hM.1 rfl rfl rfl (Nat.le_of_ble_eq_true rfl) ⟨Nat.zero_le _, Nat.zero_le _⟩ dX7_runs_2 ?_
  refine k_if_eq C 25 dX7_runs_5 (by decide) (fun c_5 => ?_) (fun c_5 => ?_)
  · skip
    have e_5 := bI_f c_5
    refine k_iconst C (v := 0) dX7_runs_25 (by decide) ?_
    exact k_iret C hQ rfl (by decide) dX7_runs_26 ⟨by simp [mRuns, e_5, bI], rfl⟩
  · skip
    have e_5 := bI_t c_5
    obtain ⟨j, hj, ej⟩ := mIsH_nI hH.1 hH.2 e_5
    subst ej
    refine k_aload_n C dX7_runs_8 rfl (j := 0) rfl ?_
    refine k_get C 73 inX7_runs_7 (by omega) hM.1 rfl 0 (by decide) (List.mem_of_getElem? (i := 1) rfl) rfl rfl dX7_runs_9 ?_
    refine k_bipush C (v := 26) dX7_runs_12 (by decide) ?_
    refine k_iload_n C dX7_runs_14 rfl (j := 1) rfl ?_
    refine k_iadd C dX7_runs_15 ?_
    refine k_ialdN C 74 0 (by omega) hM.2.1 rfl (26 + j) (knAdd rfl rfl) (by omega) (Nat.le_of_ble_eq_true rfl) dX7_runs_16 ?_
    refine k_iconst C (v := 1) dX7_runs_17 (by decide) ?_
    refine k_icmp_ne C 25 dX7_runs_18 (by decide) (fun c_18 => ?_) (fun c_18 => ?_)
    · skip
      refine k_iconst C (v := 0) dX7_runs_25 (by decide) ?_
      exact k_iret C hQ rfl (by decide) dX7_runs_26 ⟨by simp [mRuns, e_5, bI, nI_clamp (show j < 2 ^ 31 by omega), c_18], rfl⟩
    · skip
      refine k_iconst C (v := 1) dX7_runs_21 (by decide) ?_
      refine k_goto C 26 dX7_runs_22 (by decide) ?_
      exact k_iret C hQ rfl (by decide) dX7_runs_26 ⟨by simp [mRuns, e_5, bI, nI_clamp (show j < 2 ^ 31 by omega), c_18], rfl⟩
theorem kd_X7_isPrice : yX7_isPrice.cls ≠ "java/lang/invoke/MethodHandle" ∧ yX7_isPrice.cls ≠ "java/lang/invoke/VarHandle" ∧ (parseMethodDescriptor yX7_isPrice.desc).map (fun d => d.parameters.length) = some 2 := by decide +kernel
abbrev rX7_isPrice : Room := ({ frames := 1, cells := 0, slots := 0, locals := 22 } : Room)
set_option maxRecDepth 100000 in
set_option maxHeartbeats 4000000 in
/-- isPrice -/
theorem m_X7_isPrice (l : Launch) (D : va_G) (cI cC cZ cB cJ : ClassId) (ad : Nat → Nat) (N : Nat) (G : Nat → va_E) (x y : Int32)  : kMi l yX7_isPrice wsX7_isPrice rX7_isPrice D (kT5 cI cC cZ cB cJ) ad N G [.int x, .int y] (fun r G' => r = bI (mPriceOk x y) ∧ G' = G) := by
  refine k_starti (cc := cX7_isPrice) (ret := (some .boolean)) (maxL := 2) (lv0 := [(0, .int x), (1, .int y)]) (by decide) rfl (Nat.le_of_ble_eq_true rfl) rfl ?_
  intro p e s m args below meth c A Q C hQ
  refine k_iload_n C dX7_isPrice_0 rfl (j := 0) rfl ?_
  refine k_iconst C (v := 1) dX7_isPrice_1 (by decide) ?_
  refine k_bipush C (v := 100) dX7_isPrice_2 (by decide) ?_
  refine k_callSir C (As := [.int x, .int 1, .int 100]) (rest := []) (m_X7_in l D cI cC cZ cB cJ ad N G x 1 100) gX7_isPrice_X7_in rfl kd_X7_in rfl rfl ⟨Nat.le_of_ble_eq_true rfl, Nat.le_of_ble_eq_true rfl⟩ rfl rfl (Nat.le_of_ble_eq_true rfl) ⟨Nat.zero_le _, Nat.zero_le _⟩ dX7_isPrice_4 ?_
  refine k_if_eq C 24 dX7_isPrice_7 (by decide) (fun c_7 => ?_) (fun c_7 => ?_)
  · skip
    have e_7 := bI_f c_7
    refine k_iconst C (v := 0) dX7_isPrice_24 (by decide) ?_
    exact k_iret C hQ rfl (by decide) dX7_isPrice_25 ⟨by simp [mPriceOk, bI, e_7], rfl⟩
  · skip
    have e_7 := bI_t c_7
    refine k_iload_n C dX7_isPrice_10 rfl (j := 1) rfl ?_
    refine k_iconst C (v := 1) dX7_isPrice_11 (by decide) ?_
    refine k_bipush C (v := 20) dX7_isPrice_12 (by decide) ?_
    refine k_callSir C (As := [.int y, .int 1, .int 20]) (rest := []) (m_X7_in l D cI cC cZ cB cJ ad N G y 1 20) gX7_isPrice_X7_in rfl kd_X7_in rfl rfl ⟨Nat.le_of_ble_eq_true rfl, Nat.le_of_ble_eq_true rfl⟩ rfl rfl (Nat.le_of_ble_eq_true rfl) ⟨Nat.zero_le _, Nat.zero_le _⟩ dX7_isPrice_14 ?_
    refine k_if_eq C 24 dX7_isPrice_17 (by decide) (fun c_17 => ?_) (fun c_17 => ?_)
    · skip
      have e_17 := bI_f c_17
      refine k_iconst C (v := 0) dX7_isPrice_24 (by decide) ?_
      exact k_iret C hQ rfl (by decide) dX7_isPrice_25 ⟨by simp [mPriceOk, bI, e_7, e_17], rfl⟩
    · skip
      have e_17 := bI_t c_17
      refine k_iconst C (v := 1) dX7_isPrice_20 (by decide) ?_
      refine k_goto C 25 dX7_isPrice_21 (by decide) ?_
      exact k_iret C hQ rfl (by decide) dX7_isPrice_25 ⟨by simp [mPriceOk, bI, e_7, e_17], rfl⟩
theorem kd_X7_of : yX7_of.cls ≠ "java/lang/invoke/MethodHandle" ∧ yX7_of.cls ≠ "java/lang/invoke/VarHandle" ∧ (parseMethodDescriptor yX7_of.desc).map (fun d => d.parameters.length) = some 2 := by decide +kernel
abbrev rX7_of : Room := ({ frames := 0, cells := 0, slots := 0, locals := 0 } : Room)
set_option maxRecDepth 100000 in
set_option maxHeartbeats 4000000 in
/-- of -/
theorem m_X7_of (l : Launch) (D : va_G) (cI cC cZ cB cJ : ClassId) (ad : Nat → Nat) (N : Nat) (G : Nat → va_E) (x y : Int32)  : kMi l yX7_of wsX7_of rX7_of D (kT5 cI cC cZ cB cJ) ad N G [.int x, .int y] (fun r G' => r = 66 + 8 * x + y ∧ G' = G) := by
  refine k_starti (cc := cX7_of) (ret := (some .int)) (maxL := 2) (lv0 := [(0, .int x), (1, .int y)]) (by decide) rfl (Nat.le_of_ble_eq_true rfl) rfl ?_
  intro p e s m args below meth c A Q C hQ
  refine k_bipush C (v := 66) dX7_of_0 (by decide) ?_
  refine k_bipush C (v := 8) dX7_of_2 (by decide) ?_
  refine k_iload_n C dX7_of_4 rfl (j := 0) rfl ?_
  refine k_imul C dX7_of_5 ?_
  refine k_iadd C dX7_of_6 ?_
  refine k_iload_n C dX7_of_7 rfl (j := 1) rfl ?_
  refine k_iadd C dX7_of_8 ?_
  exact k_iret C hQ rfl rfl dX7_of_9 ⟨rfl, rfl⟩
theorem kd_X7_off : yX7_off.cls ≠ "java/lang/invoke/MethodHandle" ∧ yX7_off.cls ≠ "java/lang/invoke/VarHandle" ∧ (parseMethodDescriptor yX7_off.desc).map (fun d => d.parameters.length) = some 2 := by decide +kernel
abbrev rX7_off : Room := ({ frames := 0, cells := 0, slots := 0, locals := 0 } : Room)
set_option maxRecDepth 100000 in
set_option maxHeartbeats 4000000 in
/-- off -/
theorem m_X7_off (l : Launch) (D : va_G) (cI cC cZ cB cJ : ClassId) (ad : Nat → Nat) (N : Nat) (G : Nat → va_E) (x y : Int32)  : kMi l yX7_off wsX7_off rX7_off D (kT5 cI cC cZ cB cJ) ad N G [.int x, .int y] (fun r G' => r = 258 + 5 * x + y ∧ G' = G) := by
  refine k_starti (cc := cX7_off) (ret := (some .int)) (maxL := 2) (lv0 := [(0, .int x), (1, .int y)]) (by decide) rfl (Nat.le_of_ble_eq_true rfl) rfl ?_
  intro p e s m args below meth c A Q C hQ
  refine k_sipush C (v := 258) dX7_off_0 (by decide) ?_
  refine k_iconst C (v := 5) dX7_off_3 (by decide) ?_
  refine k_iload_n C dX7_off_4 rfl (j := 0) rfl ?_
  refine k_imul C dX7_off_5 ?_
  refine k_iadd C dX7_off_6 ?_
  refine k_iload_n C dX7_off_7 rfl (j := 1) rfl ?_
  refine k_iadd C dX7_off_8 ?_
  exact k_iret C hQ rfl rfl dX7_off_9 ⟨rfl, rfl⟩
theorem inX7_field_7 : ∀ w ∈ wsX70, w ∈ wsX7_field := fun _ h => List.mem_cons_of_mem _ (List.mem_append_right _ h)
theorem kd_X7_field : yX7_field.cls = RX7 ∧ yX7_field.cls ≠ "java/lang/invoke/MethodHandle" ∧ yX7_field.cls ≠ "java/lang/invoke/VarHandle" ∧ (parseMethodDescriptor yX7_field.desc).map (fun d => d.parameters.length) = some 0 := by decide +kernel
abbrev rX7_field : Room := ({ frames := 0, cells := 0, slots := 0, locals := 0 } : Room)
set_option maxRecDepth 100000 in
set_option maxHeartbeats 4000000 in
/-- model: field -/
theorem m_X7_field (l : Launch) (D : va_G) (cI cC cZ cB cJ : ClassId) (ad : Nat → Nat) (N : Nat) (G : Nat → va_E) (f kp tx fi gr : Nat → Int32) (st ty : Nat) (th at0 re : Int32) (nh nb nl : Nat) (hN : 79 ≤ N) (hM : isMo ad cI cC cZ G f kp tx fi gr st ty th at0 re) (hH : f 0 = nI nh ∧ nh ≤ 10) : kMi l yX7_field wsX7_field rX7_field D (kT5 cI cC cZ cB cJ) ad N G [.ref (ad 73)] (fun r G' => r = mField f nh ∧ G' = G) := by
  refine k_starti (cc := cX7_field) (ret := (some .int)) (maxL := 3) (lv0 := [(0, .ref (ad 73))]) (by decide) rfl (Nat.le_of_ble_eq_true rfl) rfl ?_
  intro p e s m args below meth c A Q C hQ
  have hn := hH.2
  refine k_iconst C (v := 0) dX7_field_0 (by decide) ?_
  refine k_istore_n C (lv' := [(1, .int 0), (0, .ref (ad 73))]) dX7_field_1 rfl (by decide) rfl ?_
  refine k_iconst C (v := 0) dX7_field_2 (by decide) ?_
  refine k_istore_n C (lv' := [(2, .int 0), (1, .int 0), (0, .ref (ad 73))]) dX7_field_3 rfl (by decide) rfl ?_
  have loop4 : ∀ (k : Nat) (i : Nat) , (nh + 1 ≤ i + k) → (i ≤ nh) → kJ p l e rX7_field s m args below meth c 0 0 Q 3 D ad N A G 4 [(0, .ref (ad 73)), (1, .int (mField f i)), (2, .int (nI i))] [] := by
    intro k
    induction k with
    | zero => intro i  h1 h2; exact absurd h1 (by omega)
    | succ k ih4 =>
      intro i  h1 h2
      refine k_iload_n C dX7_field_4 rfl (j := 2) rfl ?_
      refine k_aload_n C dX7_field_5 rfl (j := 0) rfl ?_
      refine k_get C 73 inX7_field_7 (by omega) hM.1 rfl 0 (by decide) (List.mem_of_getElem? (i := 1) rfl) rfl rfl dX7_field_6 ?_
      refine k_iconst C (v := 0) dX7_field_9 (by decide) ?_
      refine k_ialdN C 74 0 (by omega) hM.2.1 rfl 0 rfl (by omega) (Nat.le_of_ble_eq_true rfl) dX7_field_10 ?_
      refine k_icmp_ge C 32 dX7_field_11 (by decide) (fun c_11 => ?_) (fun c_11 => ?_)
      · skip
        rw [hH.1] at c_11
        have hi2 : i = nh := k_ge c_11 (by omega) h2
        rw [hi2]
        refine k_iload_n C dX7_field_32 rfl (j := 1) rfl ?_
        exact k_iret C hQ rfl rfl dX7_field_33 ⟨rfl, rfl⟩
      · skip
        rw [hH.1] at c_11
        have hi3 : i < nh := k_lt c_11 (by omega) h2
        refine k_iload_n C dX7_field_14 rfl (j := 1) rfl ?_
        refine k_aload_n C dX7_field_15 rfl (j := 0) rfl ?_
        refine k_get C 73 inX7_field_7 (by omega) hM.1 rfl 0 (by decide) (List.mem_of_getElem? (i := 1) rfl) rfl rfl dX7_field_16 ?_
        refine k_bipush C (v := 26) dX7_field_19 (by decide) ?_
        refine k_iload_n C dX7_field_21 rfl (j := 2) rfl ?_
        refine k_iadd C dX7_field_22 ?_
        refine k_ialdN C 74 0 (by omega) hM.2.1 rfl (26 + i) (knAdd rfl rfl) (by omega) (Nat.le_of_ble_eq_true rfl) dX7_field_23 ?_
        refine k_iadd C dX7_field_24 ?_
        refine k_istore_n C (lv' := [(1, .int ((mField f i) + (f (26 + i)))), (0, .ref (ad 73)), (2, .int (nI i))]) dX7_field_25 rfl (by decide) rfl ?_
        refine k_iinc C (v := nI (i + 1)) (lv' := [(2, .int (nI (i + 1))), (1, .int ((mField f i) + (f (26 + i)))), (0, .ref (ad 73))]) dX7_field_26 (j := 2) rfl (nI_1 i) (by decide) rfl ?_
        refine k_goto C 4 dX7_field_29 (by decide) ?_
        exact k_sub [2, 1, 0] rfl (ih4 (i + 1) (by omega) (by omega))
  exact k_sub [2, 1, 0] rfl (loop4 (nh + 1) 0 (by omega) (Nat.zero_le _))
theorem inX7_places_7 : ∀ w ∈ wsX70, w ∈ wsX7_places := fun _ h => List.mem_cons_of_mem _ (List.mem_append_right _ h)
theorem kd_X7_places : yX7_places.cls = RX7 ∧ yX7_places.cls ≠ "java/lang/invoke/MethodHandle" ∧ yX7_places.cls ≠ "java/lang/invoke/VarHandle" ∧ (parseMethodDescriptor yX7_places.desc).map (fun d => d.parameters.length) = some 0 := by decide +kernel
abbrev rX7_places : Room := ({ frames := 1, cells := 0, slots := 0, locals := 22 } : Room)
set_option maxRecDepth 100000 in
set_option maxHeartbeats 4000000 in
/-- model: places -/
theorem m_X7_places (l : Launch) (D : va_G) (cI cC cZ cB cJ : ClassId) (ad : Nat → Nat) (N : Nat) (G : Nat → va_E) (f kp tx fi gr : Nat → Int32) (st ty : Nat) (th at0 re : Int32) (nh nb nl : Nat) (hN : 79 ≤ N) (hM : isMo ad cI cC cZ G f kp tx fi gr st ty th at0 re) (hH : f 0 = nI nh ∧ nh ≤ 10) : kMi l yX7_places wsX7_places rX7_places D (kT5 cI cC cZ cB cJ) ad N G [.ref (ad 73)] (fun r G' => r = mPlaces f nh ∧ G' = G) := by
  refine k_starti (cc := cX7_places) (ret := (some .int)) (maxL := 2) (lv0 := [(0, .ref (ad 73))]) (by decide) rfl (Nat.le_of_ble_eq_true rfl) rfl ?_
  intro p e s m args below meth c A Q C hQ
  refine k_aload_n C dX7_places_0 rfl (j := 0) rfl ?_
  refine k_callVir C (As := []) (rest := []) 73 (m_X7_field l D cI cC cZ cB cJ ad N G f kp tx fi gr st ty th at0 re nh nb nl (by omega) ⟨hM.1, hM.2.1, hM.2.2.1, hM.2.2.2.1, hM.2.2.2.2.1, hM.2.2.2.2.2⟩ hH ) gX7_places_X7_field rfl kd_X7_field rfl rfl ⟨Nat.le_of_ble_eq_true rfl, Nat.le_of_ble_eq_true rfl⟩ (by omega) hM.1 rfl rfl rfl (Nat.le_of_ble_eq_true rfl) ⟨Nat.zero_le _, Nat.zero_le _⟩ dX7_places_1 ?_
  refine k_istore_n C (lv' := [(1, .int (mField f nh)), (0, .ref (ad 73))]) dX7_places_4 rfl (by decide) rfl ?_
  refine k_iload_n C dX7_places_5 rfl (j := 0) rfl ?_
  refine k_iconst C (v := 5) dX7_places_6 (by decide) ?_
  refine k_icmp_ge C 14 dX7_places_7 (by decide) (fun c_7 => ?_) (fun c_7 => ?_)
  · skip
    refine k_iload_n C dX7_places_14 rfl (j := 0) rfl ?_
    refine k_bipush C (v := 8) dX7_places_15 (by decide) ?_
    refine k_icmp_ge C 24 dX7_places_17 (by decide) (fun c_17 => ?_) (fun c_17 => ?_)
    · skip
      refine k_iconst C (v := 3) dX7_places_24 (by decide) ?_
      exact k_iret C hQ rfl rfl dX7_places_25 ⟨by simp [mPlaces, c_7, c_17], rfl⟩
    · skip
      refine k_iconst C (v := 2) dX7_places_20 (by decide) ?_
      refine k_goto C 25 dX7_places_21 (by decide) ?_
      exact k_iret C hQ rfl rfl dX7_places_25 ⟨by simp [mPlaces, c_7, c_17], rfl⟩
  · skip
    refine k_iconst C (v := 0) dX7_places_10 (by decide) ?_
    refine k_goto C 25 dX7_places_11 (by decide) ?_
    exact k_iret C hQ rfl rfl dX7_places_25 ⟨by simp [mPlaces, c_7], rfl⟩
theorem kd_X7_won : yX7_won.cls = RX7 ∧ yX7_won.cls ≠ "java/lang/invoke/MethodHandle" ∧ yX7_won.cls ≠ "java/lang/invoke/VarHandle" ∧ (parseMethodDescriptor yX7_won.desc).map (fun d => d.parameters.length) = some 4 := by decide +kernel
abbrev rX7_won : Room := ({ frames := 0, cells := 0, slots := 0, locals := 0 } : Room)
set_option maxRecDepth 100000 in
set_option maxHeartbeats 4000000 in
/-- model: won -/
theorem m_X7_won (l : Launch) (D : va_G) (cI cC cZ cB cJ : ClassId) (ad : Nat → Nat) (N : Nat) (G : Nat → va_E) (f kp tx fi gr : Nat → Int32) (st ty : Nat) (th at0 re : Int32) (nh nb nl : Nat) (x a b q : Int32) (hN : 79 ≤ N) (hM : isMo ad cI cC cZ G f kp tx fi gr st ty th at0 re) (hb0 : ¬ b = 0) : kMi l yX7_won wsX7_won rX7_won D (kT5 cI cC cZ cB cJ) ad N G [.ref (ad 73), .int x, .int a, .int b, .int q] (fun r G' => r = mWon x a b q ∧ G' = G) := by
  refine k_starti (cc := cX7_won) (ret := (some .int)) (maxL := 5) (lv0 := [(0, .ref (ad 73)), (1, .int x), (2, .int a), (3, .int b), (4, .int q)]) (by decide) rfl (Nat.le_of_ble_eq_true rfl) rfl ?_
  intro p e s m args below meth c A Q C hQ
  refine k_iload_n C dX7_won_0 rfl (j := 1) rfl ?_
  refine k_iload_n C dX7_won_1 rfl (j := 1) rfl ?_
  refine k_iload_n C dX7_won_2 rfl (j := 2) rfl ?_
  refine k_imul C dX7_won_3 ?_
  refine k_iload_n C dX7_won_4 rfl (j := 3) rfl ?_
  refine k_idiv C dX7_won_5 hb0 ?_
  refine k_bipush C (v := 100) dX7_won_6 (by decide) ?_
  refine k_iload C dX7_won_8 (j := 4) rfl ?_
  refine k_isub C dX7_won_10 ?_
  refine k_imul C dX7_won_11 ?_
  refine k_bipush C (v := 100) dX7_won_12 (by decide) ?_
  refine k_idiv C dX7_won_14 (by decide) ?_
  refine k_iadd C dX7_won_15 ?_
  exact k_iret C hQ rfl rfl dX7_won_16 ⟨rfl, rfl⟩
theorem inX7_forWin_7 : ∀ w ∈ wsX70, w ∈ wsX7_forWin := fun _ h => List.mem_cons_of_mem _ (List.mem_append_right _ h)
theorem kd_X7_forWin : yX7_forWin.cls = RX7 ∧ yX7_forWin.cls ≠ "java/lang/invoke/MethodHandle" ∧ yX7_forWin.cls ≠ "java/lang/invoke/VarHandle" ∧ (parseMethodDescriptor yX7_forWin.desc).map (fun d => d.parameters.length) = some 5 := by decide +kernel
abbrev rX7_forWin : Room := ({ frames := 1, cells := 0, slots := 0, locals := 24 } : Room)
set_option maxRecDepth 100000 in
set_option maxHeartbeats 4000000 in
/-- model: forWin -/
theorem m_X7_forWin (l : Launch) (D : va_G) (cI cC cZ cB cJ : ClassId) (ad : Nat → Nat) (N : Nat) (G : Nat → va_E) (f kp tx fi gr : Nat → Int32) (st ty : Nat) (th at0 re : Int32) (nh nb nl : Nat) (h : Nat) (x a b q : Int32) (hN : 79 ≤ N) (hM : isMo ad cI cC cZ G f kp tx fi gr st ty th at0 re) (hG0 : okG fi gr) (hh : h < 10) (hb0 : ¬ b = 0) : kMi l yX7_forWin wsX7_forWin rX7_forWin D (kT5 cI cC cZ cB cJ) ad N G [.ref (ad 73), .int (nI h), .int x, .int a, .int b, .int q] (fun r G' => r = mForWin fi gr h x a b q ∧ G' = G) := by
  refine k_starti (cc := cX7_forWin) (ret := (some .int)) (maxL := 6) (lv0 := [(0, .ref (ad 73)), (1, .int (nI h)), (2, .int x), (3, .int a), (4, .int b), (5, .int q)]) (by decide) rfl (Nat.le_of_ble_eq_true rfl) rfl ?_
  intro p e s m args below meth c A Q C hQ
  refine k_aload_n C dX7_forWin_0 rfl (j := 0) rfl ?_
  refine k_get C 73 inX7_forWin_7 (by omega) hM.1 rfl 7 (by decide) (List.mem_of_getElem? (i := 1) rfl) rfl rfl dX7_forWin_1 ?_
  refine k_iload_n C dX7_forWin_4 rfl (j := 1) rfl ?_
  refine k_ialdN C 77 0 (by omega) hM.2.2.2.2.1 rfl h rfl (by omega) (Nat.le_of_ble_eq_true rfl) dX7_forWin_5 ?_
  refine k_iconst C (v := 1) dX7_forWin_6 (by decide) ?_
  refine k_icmp_ne C 30 dX7_forWin_7 (by decide) (fun c_7 => ?_) (fun c_7 => ?_)
  · skip
    refine k_iconst C (v := 0) dX7_forWin_30 (by decide) ?_
    exact k_iret C hQ rfl rfl dX7_forWin_31 ⟨by simp [mForWin, c_7], rfl⟩
  · skip
    refine k_aload_n C dX7_forWin_10 rfl (j := 0) rfl ?_
    refine k_iload_n C dX7_forWin_11 rfl (j := 2) rfl ?_
    refine k_aload_n C dX7_forWin_12 rfl (j := 0) rfl ?_
    refine k_get C 73 inX7_forWin_7 (by omega) hM.1 rfl 8 (by decide) (List.mem_of_getElem? (i := 2) rfl) rfl rfl dX7_forWin_13 ?_
    refine k_iload_n C dX7_forWin_16 rfl (j := 1) rfl ?_
    refine k_ialdN C 78 0 (by omega) hM.2.2.2.2.2 rfl h rfl (by omega) (Nat.le_of_ble_eq_true rfl) dX7_forWin_17 ?_
    refine k_idiv C dX7_forWin_18 (hG0.one hh c_7) ?_
    refine k_iload_n C dX7_forWin_19 rfl (j := 3) rfl ?_
    refine k_iload C dX7_forWin_20 (j := 4) rfl ?_
    refine k_iload C dX7_forWin_22 (j := 5) rfl ?_
    refine k_callVir C (As := [.int (x / (gr h)), .int a, .int b, .int q]) (rest := []) 73 (m_X7_won l D cI cC cZ cB cJ ad N G f kp tx fi gr st ty th at0 re nh nb nl (x / (gr h)) a b q (by omega) ⟨hM.1, hM.2.1, hM.2.2.1, hM.2.2.2.1, hM.2.2.2.2.1, hM.2.2.2.2.2⟩ hb0) gX7_forWin_X7_won rfl kd_X7_won rfl rfl ⟨Nat.le_of_ble_eq_true rfl, Nat.le_of_ble_eq_true rfl⟩ (by omega) hM.1 rfl rfl rfl (Nat.le_of_ble_eq_true rfl) ⟨Nat.zero_le _, Nat.zero_le _⟩ dX7_forWin_24 ?_
    refine k_goto C 31 dX7_forWin_27 (by decide) ?_
    exact k_iret C hQ rfl rfl dX7_forWin_31 ⟨by simp [mForWin, c_7], rfl⟩
theorem inX7_staked_7 : ∀ w ∈ wsX70, w ∈ wsX7_staked := fun _ h => List.mem_cons_of_mem _ (List.mem_append_right _ h)
theorem kd_X7_staked : yX7_staked.cls = RX7 ∧ yX7_staked.cls ≠ "java/lang/invoke/MethodHandle" ∧ yX7_staked.cls ≠ "java/lang/invoke/VarHandle" ∧ (parseMethodDescriptor yX7_staked.desc).map (fun d => d.parameters.length) = some 1 := by decide +kernel
abbrev rX7_staked : Room := ({ frames := 1, cells := 0, slots := 0, locals := 21 } : Room)
set_option maxRecDepth 100000 in
set_option maxHeartbeats 4000000 in
/-- model: staked -/
theorem m_X7_staked (l : Launch) (D : va_G) (cI cC cZ cB cJ : ClassId) (ad : Nat → Nat) (N : Nat) (G : Nat → va_E) (f kp tx fi gr : Nat → Int32) (st ty : Nat) (th at0 re : Int32) (nh nb nl : Nat) (k0 : Nat) (hN : 79 ≤ N) (hM : isMo ad cI cC cZ G f kp tx fi gr st ty th at0 re) (hk : k0 < 24) : kMi l yX7_staked wsX7_staked rX7_staked D (kT5 cI cC cZ cB cJ) ad N G [.ref (ad 73), .int (nI k0)] (fun r G' => r = mStaked f k0 ∧ G' = G) := by
  refine k_starti (cc := cX7_staked) (ret := (some .int)) (maxL := 2) (lv0 := [(0, .ref (ad 73)), (1, .int (nI k0))]) (by decide) rfl (Nat.le_of_ble_eq_true rfl) rfl ?_
  intro p e s m args below meth c A Q C hQ
  refine k_aload_n C dX7_staked_0 rfl (j := 0) rfl ?_
  refine k_get C 73 inX7_staked_7 (by omega) hM.1 rfl 0 (by decide) (List.mem_of_getElem? (i := 1) rfl) rfl rfl dX7_staked_1 ?_
  refine k_iload_n C dX7_staked_4 rfl (j := 1) rfl ?_
  refine k_iconst C (v := 1) dX7_staked_5 (by decide) ?_
  refine k_callSir C (As := [.int (nI k0), .int 1]) (rest := [.ref (ad 74)]) (m_X7_of l D cI cC cZ cB cJ ad N G (nI k0) 1) gX7_staked_X7_of rfl kd_X7_of rfl rfl ⟨Nat.le_of_ble_eq_true rfl, Nat.le_of_ble_eq_true rfl⟩ rfl rfl (Nat.le_of_ble_eq_true rfl) ⟨Nat.zero_le _, Nat.zero_le _⟩ dX7_staked_6 ?_
  refine k_ialdN C 74 0 (by omega) hM.2.1 rfl ((66 + (8 * k0)) + 1) (knAdd (knAdd rfl (knMul rfl rfl)) rfl) (by omega) (Nat.le_of_ble_eq_true rfl) dX7_staked_9 ?_
  refine k_iconst C (v := 1) dX7_staked_10 (by decide) ?_
  refine k_aload_n C dX7_staked_11 rfl (j := 0) rfl ?_
  refine k_get C 73 inX7_staked_7 (by omega) hM.1 rfl 0 (by decide) (List.mem_of_getElem? (i := 1) rfl) rfl rfl dX7_staked_12 ?_
  refine k_iload_n C dX7_staked_15 rfl (j := 1) rfl ?_
  refine k_iconst C (v := 2) dX7_staked_16 (by decide) ?_
  refine k_callSir C (As := [.int (nI k0), .int 2]) (rest := [.ref (ad 74), .int 1, .int (f ((66 + (8 * k0)) + 1))]) (m_X7_of l D cI cC cZ cB cJ ad N G (nI k0) 2) gX7_staked_X7_of rfl kd_X7_of rfl rfl ⟨Nat.le_of_ble_eq_true rfl, Nat.le_of_ble_eq_true rfl⟩ rfl rfl (Nat.le_of_ble_eq_true rfl) ⟨Nat.zero_le _, Nat.zero_le _⟩ dX7_staked_17 ?_
  refine k_ialdN C 74 0 (by omega) hM.2.1 rfl ((66 + (8 * k0)) + 2) (knAdd (knAdd rfl (knMul rfl rfl)) rfl) (by omega) (Nat.le_of_ble_eq_true rfl) dX7_staked_20 ?_
  refine k_iadd C dX7_staked_21 ?_
  refine k_imul C dX7_staked_22 ?_
  exact k_iret C hQ rfl rfl dX7_staked_23 ⟨rfl, rfl⟩
theorem inX7_forPlace_7 : ∀ w ∈ wsX70, w ∈ wsX7_forPlace := fun _ h => List.mem_cons_of_mem _ (List.mem_append_right _ h)
theorem kd_X7_forPlace : yX7_forPlace.cls = RX7 ∧ yX7_forPlace.cls ≠ "java/lang/invoke/MethodHandle" ∧ yX7_forPlace.cls ≠ "java/lang/invoke/VarHandle" ∧ (parseMethodDescriptor yX7_forPlace.desc).map (fun d => d.parameters.length) = some 1 := by decide +kernel
abbrev rX7_forPlace : Room := ({ frames := 2, cells := 0, slots := 0, locals := 43 } : Room)
set_option maxRecDepth 100000 in
set_option maxHeartbeats 4000000 in
/-- model: forPlace -/
theorem m_X7_forPlace (l : Launch) (D : va_G) (cI cC cZ cB cJ : ClassId) (ad : Nat → Nat) (N : Nat) (G : Nat → va_E) (f kp tx fi gr : Nat → Int32) (st ty : Nat) (th at0 re : Int32) (nh nb nl : Nat) (k0 : Nat) (hN : 79 ≤ N) (hM : isMo ad cI cC cZ G f kp tx fi gr st ty th at0 re) (hH : f 0 = nI nh ∧ nh ≤ 10) (hG0 : okG fi gr) (hk : k0 < 24) (hok : okB f k0) : kMi l yX7_forPlace wsX7_forPlace rX7_forPlace D (kT5 cI cC cZ cB cJ) ad N G [.ref (ad 73), .int (nI k0)] (fun r G' => r = mForPlace f fi gr nh k0 ∧ G' = G) := by
  refine k_starti (cc := cX7_forPlace) (ret := (some .int)) (maxL := 6) (lv0 := [(0, .ref (ad 73)), (1, .int (nI k0))]) (by decide) rfl (Nat.le_of_ble_eq_true rfl) rfl ?_
  intro p e s m args below meth c A Q C hQ
  have hk1 : f ((66 + (8 * k0)) + 0) = nI (mBh f k0) := hok.1
  have hk2 := hok.2.1
  refine k_aload_n C dX7_forPlace_0 rfl (j := 0) rfl ?_
  refine k_get C 73 inX7_forPlace_7 (by omega) hM.1 rfl 0 (by decide) (List.mem_of_getElem? (i := 1) rfl) rfl rfl dX7_forPlace_1 ?_
  refine k_iload_n C dX7_forPlace_4 rfl (j := 1) rfl ?_
  refine k_iconst C (v := 0) dX7_forPlace_5 (by decide) ?_
  refine k_callSir C (As := [.int (nI k0), .int 0]) (rest := [.ref (ad 74)]) (m_X7_of l D cI cC cZ cB cJ ad N G (nI k0) 0) gX7_forPlace_X7_of rfl kd_X7_of rfl rfl ⟨Nat.le_of_ble_eq_true rfl, Nat.le_of_ble_eq_true rfl⟩ rfl rfl (Nat.le_of_ble_eq_true rfl) ⟨Nat.zero_le _, Nat.zero_le _⟩ dX7_forPlace_6 ?_
  refine k_ialdN C 74 0 (by omega) hM.2.1 rfl ((66 + (8 * k0)) + 0) (knAdd (knAdd rfl (knMul rfl rfl)) rfl) (by omega) (Nat.le_of_ble_eq_true rfl) dX7_forPlace_9 ?_
  refine k_istore_n C (lv' := [(2, .int (f ((66 + (8 * k0)) + 0))), (0, .ref (ad 73)), (1, .int (nI k0))]) dX7_forPlace_10 rfl (by decide) rfl ?_
  refine k_aload_n C dX7_forPlace_11 rfl (j := 1) rfl ?_
  refine k_callVir C (As := []) (rest := []) 73 (m_X7_places l D cI cC cZ cB cJ ad N G f kp tx fi gr st ty th at0 re nh nb nl (by omega) ⟨hM.1, hM.2.1, hM.2.2.1, hM.2.2.2.1, hM.2.2.2.2.1, hM.2.2.2.2.2⟩ hH ) gX7_forPlace_X7_places rfl kd_X7_places rfl rfl ⟨Nat.le_of_ble_eq_true rfl, Nat.le_of_ble_eq_true rfl⟩ (by omega) hM.1 rfl rfl rfl (Nat.le_of_ble_eq_true rfl) ⟨Nat.zero_le _, Nat.zero_le _⟩ dX7_forPlace_12 ?_
  refine k_istore_n C (lv' := [(3, .int (mPlaces f nh)), (2, .int (f ((66 + (8 * k0)) + 0))), (0, .ref (ad 73)), (1, .int (nI k0))]) dX7_forPlace_15 rfl (by decide) rfl ?_
  refine k_iload_n C dX7_forPlace_16 rfl (j := 0) rfl ?_
  refine k_if_ne C 31 dX7_forPlace_17 (by decide) (fun c_17 => ?_) (fun c_17 => ?_)
  · skip
    refine k_aload_n C dX7_forPlace_31 rfl (j := 2) rfl ?_
    refine k_get C 73 inX7_forPlace_7 (by omega) hM.1 rfl 7 (by decide) (List.mem_of_getElem? (i := 2) rfl) rfl rfl dX7_forPlace_32 ?_
    refine k_iload_n C dX7_forPlace_35 rfl (j := 1) rfl ?_
    refine k_ialdN C 77 0 (by omega) hM.2.2.2.2.1 rfl (mBh f k0) hk1 (by omega) (Nat.le_of_ble_eq_true rfl) dX7_forPlace_36 ?_
    refine k_if_lt C 50 dX7_forPlace_37 (by decide) (fun c_37 => ?_) (fun c_37 => ?_)
    · skip
      refine k_iconst C (v := 0) dX7_forPlace_50 (by decide) ?_
      exact k_iret C hQ rfl rfl dX7_forPlace_51 ⟨by rw [mForPlace, if_neg c_17, if_pos c_37], rfl⟩
    · skip
      refine k_aload_n C dX7_forPlace_40 rfl (j := 2) rfl ?_
      refine k_get C 73 inX7_forPlace_7 (by omega) hM.1 rfl 7 (by decide) (List.mem_of_getElem? (i := 2) rfl) rfl rfl dX7_forPlace_41 ?_
      refine k_iload_n C dX7_forPlace_44 rfl (j := 1) rfl ?_
      refine k_ialdN C 77 0 (by omega) hM.2.2.2.2.1 rfl (mBh f k0) hk1 (by omega) (Nat.le_of_ble_eq_true rfl) dX7_forPlace_45 ?_
      refine k_iload_n C dX7_forPlace_46 rfl (j := 0) rfl ?_
      refine k_icmp_le C 52 dX7_forPlace_47 (by decide) (fun c_47 => ?_) (fun c_47 => ?_)
      · skip
        refine k_iload_n C dX7_forPlace_52 rfl (j := 0) rfl ?_
        refine k_aload_n C dX7_forPlace_53 rfl (j := 2) rfl ?_
        refine k_get C 73 inX7_forPlace_7 (by omega) hM.1 rfl 7 (by decide) (List.mem_of_getElem? (i := 2) rfl) rfl rfl dX7_forPlace_54 ?_
        refine k_iload_n C dX7_forPlace_57 rfl (j := 1) rfl ?_
        refine k_ialdN C 77 0 (by omega) hM.2.2.2.2.1 rfl (mBh f k0) hk1 (by omega) (Nat.le_of_ble_eq_true rfl) dX7_forPlace_58 ?_
        refine k_isub C dX7_forPlace_59 ?_
        refine k_iconst C (v := 1) dX7_forPlace_60 (by decide) ?_
        refine k_iadd C dX7_forPlace_61 ?_
        refine k_istore C (lv' := [(4, .int (((mPlaces f nh) - (fi (mBh f k0))) + 1)), (3, .int (mPlaces f nh)), (2, .int (f ((66 + (8 * k0)) + 0))), (0, .ref (ad 73)), (1, .int (nI k0))]) dX7_forPlace_62 (by decide) rfl ?_
        refine k_iload C dX7_forPlace_64 (j := 0) rfl ?_
        refine k_aload_n C dX7_forPlace_66 rfl (j := 3) rfl ?_
        refine k_get C 73 inX7_forPlace_7 (by omega) hM.1 rfl 8 (by decide) (List.mem_of_getElem? (i := 3) rfl) rfl rfl dX7_forPlace_67 ?_
        refine k_iload_n C dX7_forPlace_70 rfl (j := 2) rfl ?_
        refine k_ialdN C 78 0 (by omega) hM.2.2.2.2.2 rfl (mBh f k0) hk1 (by omega) (Nat.le_of_ble_eq_true rfl) dX7_forPlace_71 ?_
        refine k_icmp_ge C 80 dX7_forPlace_72 (by decide) (fun c_72 => ?_) (fun c_72 => ?_)
        · skip
          refine k_aload_n C dX7_forPlace_80 rfl (j := 3) rfl ?_
          refine k_get C 73 inX7_forPlace_7 (by omega) hM.1 rfl 8 (by decide) (List.mem_of_getElem? (i := 3) rfl) rfl rfl dX7_forPlace_81 ?_
          refine k_iload_n C dX7_forPlace_84 rfl (j := 2) rfl ?_
          refine k_ialdN C 78 0 (by omega) hM.2.2.2.2.2 rfl (mBh f k0) hk1 (by omega) (Nat.le_of_ble_eq_true rfl) dX7_forPlace_85 ?_
          refine k_istore C (lv' := [(5, .int (gr (mBh f k0))), (4, .int (((mPlaces f nh) - (fi (mBh f k0))) + 1)), (3, .int (mPlaces f nh)), (2, .int (f ((66 + (8 * k0)) + 0))), (0, .ref (ad 73)), (1, .int (nI k0))]) dX7_forPlace_86 (by decide) rfl ?_
          refine k_aload_n C dX7_forPlace_88 rfl (j := 4) rfl ?_
          refine k_aload_n C dX7_forPlace_89 rfl (j := 4) rfl ?_
          refine k_get C 73 inX7_forPlace_7 (by omega) hM.1 rfl 0 (by decide) (List.mem_of_getElem? (i := 1) rfl) rfl rfl dX7_forPlace_90 ?_
          refine k_iload_n C dX7_forPlace_93 rfl (j := 5) rfl ?_
          refine k_iconst C (v := 1) dX7_forPlace_94 (by decide) ?_
          refine k_callSir C (As := [.int (nI k0), .int 1]) (rest := [.ref (ad 74), .ref (ad 73)]) (m_X7_of l D cI cC cZ cB cJ ad N G (nI k0) 1) gX7_forPlace_X7_of rfl kd_X7_of rfl rfl ⟨Nat.le_of_ble_eq_true rfl, Nat.le_of_ble_eq_true rfl⟩ rfl rfl (Nat.le_of_ble_eq_true rfl) ⟨Nat.zero_le _, Nat.zero_le _⟩ dX7_forPlace_95 ?_
          refine k_ialdN C 74 0 (by omega) hM.2.1 rfl ((66 + (8 * k0)) + 1) (knAdd (knAdd rfl (knMul rfl rfl)) rfl) (by omega) (Nat.le_of_ble_eq_true rfl) dX7_forPlace_98 ?_
          refine k_iload C dX7_forPlace_99 (j := 0) rfl ?_
          refine k_imul C dX7_forPlace_101 ?_
          refine k_aload_n C dX7_forPlace_102 rfl (j := 4) rfl ?_
          refine k_get C 73 inX7_forPlace_7 (by omega) hM.1 rfl 8 (by decide) (List.mem_of_getElem? (i := 3) rfl) rfl rfl dX7_forPlace_103 ?_
          refine k_iload_n C dX7_forPlace_106 rfl (j := 3) rfl ?_
          refine k_ialdN C 78 0 (by omega) hM.2.2.2.2.2 rfl (mBh f k0) hk1 (by omega) (Nat.le_of_ble_eq_true rfl) dX7_forPlace_107 ?_
          refine k_idiv C dX7_forPlace_108 (hG0 _ hk2 c_37) ?_
          refine k_aload_n C dX7_forPlace_109 rfl (j := 4) rfl ?_
          refine k_get C 73 inX7_forPlace_7 (by omega) hM.1 rfl 0 (by decide) (List.mem_of_getElem? (i := 1) rfl) rfl rfl dX7_forPlace_110 ?_
          refine k_iload_n C dX7_forPlace_113 rfl (j := 5) rfl ?_
          refine k_iconst C (v := 3) dX7_forPlace_114 (by decide) ?_
          refine k_callSir C (As := [.int (nI k0), .int 3]) (rest := [.ref (ad 74), .int (((f ((66 + (8 * k0)) + 1)) * (gr (mBh f k0))) / (gr (mBh f k0))), .ref (ad 73)]) (m_X7_of l D cI cC cZ cB cJ ad N G (nI k0) 3) gX7_forPlace_X7_of rfl kd_X7_of rfl rfl ⟨Nat.le_of_ble_eq_true rfl, Nat.le_of_ble_eq_true rfl⟩ rfl rfl (Nat.le_of_ble_eq_true rfl) ⟨Nat.zero_le _, Nat.zero_le _⟩ dX7_forPlace_115 ?_
          refine k_ialdN C 74 0 (by omega) hM.2.1 rfl ((66 + (8 * k0)) + 3) (knAdd (knAdd rfl (knMul rfl rfl)) rfl) (by omega) (Nat.le_of_ble_eq_true rfl) dX7_forPlace_118 ?_
          refine k_aload_n C dX7_forPlace_119 rfl (j := 4) rfl ?_
          refine k_get C 73 inX7_forPlace_7 (by omega) hM.1 rfl 0 (by decide) (List.mem_of_getElem? (i := 1) rfl) rfl rfl dX7_forPlace_120 ?_
          refine k_iload_n C dX7_forPlace_123 rfl (j := 5) rfl ?_
          refine k_iconst C (v := 4) dX7_forPlace_124 (by decide) ?_
          refine k_callSir C (As := [.int (nI k0), .int 4]) (rest := [.ref (ad 74), .int (f ((66 + (8 * k0)) + 3)), .int (((f ((66 + (8 * k0)) + 1)) * (gr (mBh f k0))) / (gr (mBh f k0))), .ref (ad 73)]) (m_X7_of l D cI cC cZ cB cJ ad N G (nI k0) 4) gX7_forPlace_X7_of rfl kd_X7_of rfl rfl ⟨Nat.le_of_ble_eq_true rfl, Nat.le_of_ble_eq_true rfl⟩ rfl rfl (Nat.le_of_ble_eq_true rfl) ⟨Nat.zero_le _, Nat.zero_le _⟩ dX7_forPlace_125 ?_
          refine k_ialdN C 74 0 (by omega) hM.2.1 rfl ((66 + (8 * k0)) + 4) (knAdd (knAdd rfl (knMul rfl rfl)) rfl) (by omega) (Nat.le_of_ble_eq_true rfl) dX7_forPlace_128 ?_
          refine k_aload_n C dX7_forPlace_129 rfl (j := 4) rfl ?_
          refine k_get C 73 inX7_forPlace_7 (by omega) hM.1 rfl 0 (by decide) (List.mem_of_getElem? (i := 1) rfl) rfl rfl dX7_forPlace_130 ?_
          refine k_iconst C (v := 4) dX7_forPlace_133 (by decide) ?_
          refine k_ialdN C 74 0 (by omega) hM.2.1 rfl 4 rfl (by omega) (Nat.le_of_ble_eq_true rfl) dX7_forPlace_134 ?_
          refine k_imul C dX7_forPlace_135 ?_
          refine k_aload_n C dX7_forPlace_136 rfl (j := 4) rfl ?_
          refine k_get C 73 inX7_forPlace_7 (by omega) hM.1 rfl 0 (by decide) (List.mem_of_getElem? (i := 1) rfl) rfl rfl dX7_forPlace_137 ?_
          refine k_iload_n C dX7_forPlace_140 rfl (j := 5) rfl ?_
          refine k_iconst C (v := 5) dX7_forPlace_141 (by decide) ?_
          refine k_callSir C (As := [.int (nI k0), .int 5]) (rest := [.ref (ad 74), .int ((f ((66 + (8 * k0)) + 4)) * (f 4)), .int (f ((66 + (8 * k0)) + 3)), .int (((f ((66 + (8 * k0)) + 1)) * (gr (mBh f k0))) / (gr (mBh f k0))), .ref (ad 73)]) (m_X7_of l D cI cC cZ cB cJ ad N G (nI k0) 5) gX7_forPlace_X7_of rfl kd_X7_of rfl rfl ⟨Nat.le_of_ble_eq_true rfl, Nat.le_of_ble_eq_true rfl⟩ rfl rfl (Nat.le_of_ble_eq_true rfl) ⟨Nat.zero_le _, Nat.zero_le _⟩ dX7_forPlace_142 ?_
          refine k_ialdN C 74 0 (by omega) hM.2.1 rfl ((66 + (8 * k0)) + 5) (knAdd (knAdd rfl (knMul rfl rfl)) rfl) (by omega) (Nat.le_of_ble_eq_true rfl) dX7_forPlace_145 ?_
          refine k_callVir C (As := [.int (((f ((66 + (8 * k0)) + 1)) * (gr (mBh f k0))) / (gr (mBh f k0))), .int (f ((66 + (8 * k0)) + 3)), .int ((f ((66 + (8 * k0)) + 4)) * (f 4)), .int (f ((66 + (8 * k0)) + 5))]) (rest := []) 73 (m_X7_won l D cI cC cZ cB cJ ad N G f kp tx fi gr st ty th at0 re nh nb nl (((f ((66 + (8 * k0)) + 1)) * (gr (mBh f k0))) / (gr (mBh f k0))) (f ((66 + (8 * k0)) + 3)) ((f ((66 + (8 * k0)) + 4)) * (f 4)) (f ((66 + (8 * k0)) + 5)) (by omega) ⟨hM.1, hM.2.1, hM.2.2.1, hM.2.2.2.1, hM.2.2.2.2.1, hM.2.2.2.2.2⟩ hok.2.2.2) gX7_forPlace_X7_won rfl kd_X7_won rfl rfl ⟨Nat.le_of_ble_eq_true rfl, Nat.le_of_ble_eq_true rfl⟩ (by omega) hM.1 rfl rfl rfl (Nat.le_of_ble_eq_true rfl) ⟨Nat.zero_le _, Nat.zero_le _⟩ dX7_forPlace_146 ?_
          exact k_iret C hQ rfl rfl dX7_forPlace_149 ⟨by rw [mForPlace, if_neg c_17, if_neg c_37, if_pos c_47, mC, mWithin, if_pos c_72]; rfl, rfl⟩
        · skip
          refine k_iload C dX7_forPlace_75 (j := 0) rfl ?_
          refine k_goto C 86 dX7_forPlace_77 (by decide) ?_
          refine k_istore C (lv' := [(5, .int (((mPlaces f nh) - (fi (mBh f k0))) + 1)), (4, .int (((mPlaces f nh) - (fi (mBh f k0))) + 1)), (3, .int (mPlaces f nh)), (2, .int (f ((66 + (8 * k0)) + 0))), (0, .ref (ad 73)), (1, .int (nI k0))]) dX7_forPlace_86 (by decide) rfl ?_
          refine k_aload_n C dX7_forPlace_88 rfl (j := 4) rfl ?_
          refine k_aload_n C dX7_forPlace_89 rfl (j := 4) rfl ?_
          refine k_get C 73 inX7_forPlace_7 (by omega) hM.1 rfl 0 (by decide) (List.mem_of_getElem? (i := 1) rfl) rfl rfl dX7_forPlace_90 ?_
          refine k_iload_n C dX7_forPlace_93 rfl (j := 5) rfl ?_
          refine k_iconst C (v := 1) dX7_forPlace_94 (by decide) ?_
          refine k_callSir C (As := [.int (nI k0), .int 1]) (rest := [.ref (ad 74), .ref (ad 73)]) (m_X7_of l D cI cC cZ cB cJ ad N G (nI k0) 1) gX7_forPlace_X7_of rfl kd_X7_of rfl rfl ⟨Nat.le_of_ble_eq_true rfl, Nat.le_of_ble_eq_true rfl⟩ rfl rfl (Nat.le_of_ble_eq_true rfl) ⟨Nat.zero_le _, Nat.zero_le _⟩ dX7_forPlace_95 ?_
          refine k_ialdN C 74 0 (by omega) hM.2.1 rfl ((66 + (8 * k0)) + 1) (knAdd (knAdd rfl (knMul rfl rfl)) rfl) (by omega) (Nat.le_of_ble_eq_true rfl) dX7_forPlace_98 ?_
          refine k_iload C dX7_forPlace_99 (j := 0) rfl ?_
          refine k_imul C dX7_forPlace_101 ?_
          refine k_aload_n C dX7_forPlace_102 rfl (j := 4) rfl ?_
          refine k_get C 73 inX7_forPlace_7 (by omega) hM.1 rfl 8 (by decide) (List.mem_of_getElem? (i := 3) rfl) rfl rfl dX7_forPlace_103 ?_
          refine k_iload_n C dX7_forPlace_106 rfl (j := 3) rfl ?_
          refine k_ialdN C 78 0 (by omega) hM.2.2.2.2.2 rfl (mBh f k0) hk1 (by omega) (Nat.le_of_ble_eq_true rfl) dX7_forPlace_107 ?_
          refine k_idiv C dX7_forPlace_108 (hG0 _ hk2 c_37) ?_
          refine k_aload_n C dX7_forPlace_109 rfl (j := 4) rfl ?_
          refine k_get C 73 inX7_forPlace_7 (by omega) hM.1 rfl 0 (by decide) (List.mem_of_getElem? (i := 1) rfl) rfl rfl dX7_forPlace_110 ?_
          refine k_iload_n C dX7_forPlace_113 rfl (j := 5) rfl ?_
          refine k_iconst C (v := 3) dX7_forPlace_114 (by decide) ?_
          refine k_callSir C (As := [.int (nI k0), .int 3]) (rest := [.ref (ad 74), .int (((f ((66 + (8 * k0)) + 1)) * (((mPlaces f nh) - (fi (mBh f k0))) + 1)) / (gr (mBh f k0))), .ref (ad 73)]) (m_X7_of l D cI cC cZ cB cJ ad N G (nI k0) 3) gX7_forPlace_X7_of rfl kd_X7_of rfl rfl ⟨Nat.le_of_ble_eq_true rfl, Nat.le_of_ble_eq_true rfl⟩ rfl rfl (Nat.le_of_ble_eq_true rfl) ⟨Nat.zero_le _, Nat.zero_le _⟩ dX7_forPlace_115 ?_
          refine k_ialdN C 74 0 (by omega) hM.2.1 rfl ((66 + (8 * k0)) + 3) (knAdd (knAdd rfl (knMul rfl rfl)) rfl) (by omega) (Nat.le_of_ble_eq_true rfl) dX7_forPlace_118 ?_
          refine k_aload_n C dX7_forPlace_119 rfl (j := 4) rfl ?_
          refine k_get C 73 inX7_forPlace_7 (by omega) hM.1 rfl 0 (by decide) (List.mem_of_getElem? (i := 1) rfl) rfl rfl dX7_forPlace_120 ?_
          refine k_iload_n C dX7_forPlace_123 rfl (j := 5) rfl ?_
          refine k_iconst C (v := 4) dX7_forPlace_124 (by decide) ?_
          refine k_callSir C (As := [.int (nI k0), .int 4]) (rest := [.ref (ad 74), .int (f ((66 + (8 * k0)) + 3)), .int (((f ((66 + (8 * k0)) + 1)) * (((mPlaces f nh) - (fi (mBh f k0))) + 1)) / (gr (mBh f k0))), .ref (ad 73)]) (m_X7_of l D cI cC cZ cB cJ ad N G (nI k0) 4) gX7_forPlace_X7_of rfl kd_X7_of rfl rfl ⟨Nat.le_of_ble_eq_true rfl, Nat.le_of_ble_eq_true rfl⟩ rfl rfl (Nat.le_of_ble_eq_true rfl) ⟨Nat.zero_le _, Nat.zero_le _⟩ dX7_forPlace_125 ?_
          refine k_ialdN C 74 0 (by omega) hM.2.1 rfl ((66 + (8 * k0)) + 4) (knAdd (knAdd rfl (knMul rfl rfl)) rfl) (by omega) (Nat.le_of_ble_eq_true rfl) dX7_forPlace_128 ?_
          refine k_aload_n C dX7_forPlace_129 rfl (j := 4) rfl ?_
          refine k_get C 73 inX7_forPlace_7 (by omega) hM.1 rfl 0 (by decide) (List.mem_of_getElem? (i := 1) rfl) rfl rfl dX7_forPlace_130 ?_
          refine k_iconst C (v := 4) dX7_forPlace_133 (by decide) ?_
          refine k_ialdN C 74 0 (by omega) hM.2.1 rfl 4 rfl (by omega) (Nat.le_of_ble_eq_true rfl) dX7_forPlace_134 ?_
          refine k_imul C dX7_forPlace_135 ?_
          refine k_aload_n C dX7_forPlace_136 rfl (j := 4) rfl ?_
          refine k_get C 73 inX7_forPlace_7 (by omega) hM.1 rfl 0 (by decide) (List.mem_of_getElem? (i := 1) rfl) rfl rfl dX7_forPlace_137 ?_
          refine k_iload_n C dX7_forPlace_140 rfl (j := 5) rfl ?_
          refine k_iconst C (v := 5) dX7_forPlace_141 (by decide) ?_
          refine k_callSir C (As := [.int (nI k0), .int 5]) (rest := [.ref (ad 74), .int ((f ((66 + (8 * k0)) + 4)) * (f 4)), .int (f ((66 + (8 * k0)) + 3)), .int (((f ((66 + (8 * k0)) + 1)) * (((mPlaces f nh) - (fi (mBh f k0))) + 1)) / (gr (mBh f k0))), .ref (ad 73)]) (m_X7_of l D cI cC cZ cB cJ ad N G (nI k0) 5) gX7_forPlace_X7_of rfl kd_X7_of rfl rfl ⟨Nat.le_of_ble_eq_true rfl, Nat.le_of_ble_eq_true rfl⟩ rfl rfl (Nat.le_of_ble_eq_true rfl) ⟨Nat.zero_le _, Nat.zero_le _⟩ dX7_forPlace_142 ?_
          refine k_ialdN C 74 0 (by omega) hM.2.1 rfl ((66 + (8 * k0)) + 5) (knAdd (knAdd rfl (knMul rfl rfl)) rfl) (by omega) (Nat.le_of_ble_eq_true rfl) dX7_forPlace_145 ?_
          refine k_callVir C (As := [.int (((f ((66 + (8 * k0)) + 1)) * (((mPlaces f nh) - (fi (mBh f k0))) + 1)) / (gr (mBh f k0))), .int (f ((66 + (8 * k0)) + 3)), .int ((f ((66 + (8 * k0)) + 4)) * (f 4)), .int (f ((66 + (8 * k0)) + 5))]) (rest := []) 73 (m_X7_won l D cI cC cZ cB cJ ad N G f kp tx fi gr st ty th at0 re nh nb nl (((f ((66 + (8 * k0)) + 1)) * (((mPlaces f nh) - (fi (mBh f k0))) + 1)) / (gr (mBh f k0))) (f ((66 + (8 * k0)) + 3)) ((f ((66 + (8 * k0)) + 4)) * (f 4)) (f ((66 + (8 * k0)) + 5)) (by omega) ⟨hM.1, hM.2.1, hM.2.2.1, hM.2.2.2.1, hM.2.2.2.2.1, hM.2.2.2.2.2⟩ hok.2.2.2) gX7_forPlace_X7_won rfl kd_X7_won rfl rfl ⟨Nat.le_of_ble_eq_true rfl, Nat.le_of_ble_eq_true rfl⟩ (by omega) hM.1 rfl rfl rfl (Nat.le_of_ble_eq_true rfl) ⟨Nat.zero_le _, Nat.zero_le _⟩ dX7_forPlace_146 ?_
          exact k_iret C hQ rfl rfl dX7_forPlace_149 ⟨by rw [mForPlace, if_neg c_17, if_neg c_37, if_pos c_47, mC, mWithin, if_neg c_72]; rfl, rfl⟩
      · skip
        refine k_iconst C (v := 0) dX7_forPlace_50 (by decide) ?_
        exact k_iret C hQ rfl rfl dX7_forPlace_51 ⟨by rw [mForPlace, if_neg c_17, if_neg c_37, if_neg c_47], rfl⟩
  · skip
    refine k_aload_n C dX7_forPlace_20 rfl (j := 2) rfl ?_
    refine k_get C 73 inX7_forPlace_7 (by omega) hM.1 rfl 0 (by decide) (List.mem_of_getElem? (i := 1) rfl) rfl rfl dX7_forPlace_21 ?_
    refine k_iload_n C dX7_forPlace_24 rfl (j := 3) rfl ?_
    refine k_iconst C (v := 1) dX7_forPlace_25 (by decide) ?_
    refine k_callSir C (As := [.int (nI k0), .int 1]) (rest := [.ref (ad 74)]) (m_X7_of l D cI cC cZ cB cJ ad N G (nI k0) 1) gX7_forPlace_X7_of rfl kd_X7_of rfl rfl ⟨Nat.le_of_ble_eq_true rfl, Nat.le_of_ble_eq_true rfl⟩ rfl rfl (Nat.le_of_ble_eq_true rfl) ⟨Nat.zero_le _, Nat.zero_le _⟩ dX7_forPlace_26 ?_
    refine k_ialdN C 74 0 (by omega) hM.2.1 rfl ((66 + (8 * k0)) + 1) (knAdd (knAdd rfl (knMul rfl rfl)) rfl) (by omega) (Nat.le_of_ble_eq_true rfl) dX7_forPlace_29 ?_
    exact k_iret C hQ rfl rfl dX7_forPlace_30 ⟨by rw [mForPlace, if_pos c_17]; rfl, rfl⟩
theorem inX7_returns_7 : ∀ w ∈ wsX70, w ∈ wsX7_returns := fun _ h => List.mem_cons_of_mem _ (List.mem_append_right _ h)
theorem kd_X7_returns : yX7_returns.cls = RX7 ∧ yX7_returns.cls ≠ "java/lang/invoke/MethodHandle" ∧ yX7_returns.cls ≠ "java/lang/invoke/VarHandle" ∧ (parseMethodDescriptor yX7_returns.desc).map (fun d => d.parameters.length) = some 1 := by decide +kernel
abbrev rX7_returns : Room := ({ frames := 3, cells := 0, slots := 0, locals := 68 } : Room)
set_option maxRecDepth 100000 in
set_option maxHeartbeats 4000000 in
/-- model: returns -/
theorem m_X7_returns (l : Launch) (D : va_G) (cI cC cZ cB cJ : ClassId) (ad : Nat → Nat) (N : Nat) (G : Nat → va_E) (f kp tx fi gr : Nat → Int32) (st ty : Nat) (th at0 re : Int32) (nh nb nl : Nat) (k0 : Nat) (hN : 79 ≤ N) (hM : isMo ad cI cC cZ G f kp tx fi gr st ty th at0 re) (hH : f 0 = nI nh ∧ nh ≤ 10) (hG0 : okG fi gr) (hk : k0 < 24) (hok : okB f k0) : kMi l yX7_returns wsX7_returns rX7_returns D (kT5 cI cC cZ cB cJ) ad N G [.ref (ad 73), .int (nI k0)] (fun r G' => r = mRet f fi gr nh k0 ∧ isMo ad cI cC cZ G' f kp tx fi gr st ty th at0 (mRea f fi gr nh k0) ∧ ∀ j, (j < 73 ∨ 79 ≤ j) → G' j = G j) := by
  refine k_starti (cc := cX7_returns) (ret := (some .int)) (maxL := 5) (lv0 := [(0, .ref (ad 73)), (1, .int (nI k0))]) (by decide) rfl (Nat.le_of_ble_eq_true rfl) rfl ?_
  intro p e s m args below meth c A Q C hQ
  have hk1 : f ((66 + (8 * k0)) + 0) = nI (mBh f k0) := hok.1
  have hk2 := hok.2.1
  refine k_aload_n C dX7_returns_0 rfl (j := 0) rfl ?_
  refine k_get C 73 inX7_returns_7 (by omega) hM.1 rfl 0 (by decide) (List.mem_of_getElem? (i := 1) rfl) rfl rfl dX7_returns_1 ?_
  refine k_iload_n C dX7_returns_4 rfl (j := 1) rfl ?_
  refine k_iconst C (v := 0) dX7_returns_5 (by decide) ?_
  refine k_callSir C (As := [.int (nI k0), .int 0]) (rest := [.ref (ad 74)]) (m_X7_of l D cI cC cZ cB cJ ad N G (nI k0) 0) gX7_returns_X7_of rfl kd_X7_of rfl rfl ⟨Nat.le_of_ble_eq_true rfl, Nat.le_of_ble_eq_true rfl⟩ rfl rfl (Nat.le_of_ble_eq_true rfl) ⟨Nat.zero_le _, Nat.zero_le _⟩ dX7_returns_6 ?_
  refine k_ialdN C 74 0 (by omega) hM.2.1 rfl ((66 + (8 * k0)) + 0) (knAdd (knAdd rfl (knMul rfl rfl)) rfl) (by omega) (Nat.le_of_ble_eq_true rfl) dX7_returns_9 ?_
  refine k_istore_n C (lv' := [(2, .int (f ((66 + (8 * k0)) + 0))), (0, .ref (ad 73)), (1, .int (nI k0))]) dX7_returns_10 rfl (by decide) rfl ?_
  refine k_aload_n C dX7_returns_11 rfl (j := 1) rfl ?_
  refine k_get C 73 inX7_returns_7 (by omega) hM.1 rfl 0 (by decide) (List.mem_of_getElem? (i := 1) rfl) rfl rfl dX7_returns_12 ?_
  refine k_bipush C (v := 26) dX7_returns_15 (by decide) ?_
  refine k_iload_n C dX7_returns_17 rfl (j := 0) rfl ?_
  refine k_iadd C dX7_returns_18 ?_
  refine k_ialdN C 74 0 (by omega) hM.2.1 rfl (26 + (mBh f k0)) (knAdd rfl hk1) (by omega) (Nat.le_of_ble_eq_true rfl) dX7_returns_19 ?_
  refine k_if_ne C 34 dX7_returns_20 (by decide) (fun c_20 => ?_) (fun c_20 => ?_)
  · skip
    refine k_aload_n C dX7_returns_34 rfl (j := 1) rfl ?_
    refine k_iload_n C dX7_returns_35 rfl (j := 0) rfl ?_
    refine k_aload_n C dX7_returns_36 rfl (j := 1) rfl ?_
    refine k_get C 73 inX7_returns_7 (by omega) hM.1 rfl 0 (by decide) (List.mem_of_getElem? (i := 1) rfl) rfl rfl dX7_returns_37 ?_
    refine k_iload_n C dX7_returns_40 rfl (j := 2) rfl ?_
    refine k_iconst C (v := 1) dX7_returns_41 (by decide) ?_
    refine k_callSir C (As := [.int (nI k0), .int 1]) (rest := [.ref (ad 74), .int (f ((66 + (8 * k0)) + 0)), .ref (ad 73)]) (m_X7_of l D cI cC cZ cB cJ ad N G (nI k0) 1) gX7_returns_X7_of rfl kd_X7_of rfl rfl ⟨Nat.le_of_ble_eq_true rfl, Nat.le_of_ble_eq_true rfl⟩ rfl rfl (Nat.le_of_ble_eq_true rfl) ⟨Nat.zero_le _, Nat.zero_le _⟩ dX7_returns_42 ?_
    refine k_ialdN C 74 0 (by omega) hM.2.1 rfl ((66 + (8 * k0)) + 1) (knAdd (knAdd rfl (knMul rfl rfl)) rfl) (by omega) (Nat.le_of_ble_eq_true rfl) dX7_returns_45 ?_
    refine k_aload_n C dX7_returns_46 rfl (j := 1) rfl ?_
    refine k_get C 73 inX7_returns_7 (by omega) hM.1 rfl 0 (by decide) (List.mem_of_getElem? (i := 1) rfl) rfl rfl dX7_returns_47 ?_
    refine k_iload_n C dX7_returns_50 rfl (j := 2) rfl ?_
    refine k_iconst C (v := 3) dX7_returns_51 (by decide) ?_
    refine k_callSir C (As := [.int (nI k0), .int 3]) (rest := [.ref (ad 74), .int (f ((66 + (8 * k0)) + 1)), .int (f ((66 + (8 * k0)) + 0)), .ref (ad 73)]) (m_X7_of l D cI cC cZ cB cJ ad N G (nI k0) 3) gX7_returns_X7_of rfl kd_X7_of rfl rfl ⟨Nat.le_of_ble_eq_true rfl, Nat.le_of_ble_eq_true rfl⟩ rfl rfl (Nat.le_of_ble_eq_true rfl) ⟨Nat.zero_le _, Nat.zero_le _⟩ dX7_returns_52 ?_
    refine k_ialdN C 74 0 (by omega) hM.2.1 rfl ((66 + (8 * k0)) + 3) (knAdd (knAdd rfl (knMul rfl rfl)) rfl) (by omega) (Nat.le_of_ble_eq_true rfl) dX7_returns_55 ?_
    refine k_aload_n C dX7_returns_56 rfl (j := 1) rfl ?_
    refine k_get C 73 inX7_returns_7 (by omega) hM.1 rfl 0 (by decide) (List.mem_of_getElem? (i := 1) rfl) rfl rfl dX7_returns_57 ?_
    refine k_iload_n C dX7_returns_60 rfl (j := 2) rfl ?_
    refine k_iconst C (v := 4) dX7_returns_61 (by decide) ?_
    refine k_callSir C (As := [.int (nI k0), .int 4]) (rest := [.ref (ad 74), .int (f ((66 + (8 * k0)) + 3)), .int (f ((66 + (8 * k0)) + 1)), .int (f ((66 + (8 * k0)) + 0)), .ref (ad 73)]) (m_X7_of l D cI cC cZ cB cJ ad N G (nI k0) 4) gX7_returns_X7_of rfl kd_X7_of rfl rfl ⟨Nat.le_of_ble_eq_true rfl, Nat.le_of_ble_eq_true rfl⟩ rfl rfl (Nat.le_of_ble_eq_true rfl) ⟨Nat.zero_le _, Nat.zero_le _⟩ dX7_returns_62 ?_
    refine k_ialdN C 74 0 (by omega) hM.2.1 rfl ((66 + (8 * k0)) + 4) (knAdd (knAdd rfl (knMul rfl rfl)) rfl) (by omega) (Nat.le_of_ble_eq_true rfl) dX7_returns_65 ?_
    refine k_aload_n C dX7_returns_66 rfl (j := 1) rfl ?_
    refine k_get C 73 inX7_returns_7 (by omega) hM.1 rfl 0 (by decide) (List.mem_of_getElem? (i := 1) rfl) rfl rfl dX7_returns_67 ?_
    refine k_iload_n C dX7_returns_70 rfl (j := 2) rfl ?_
    refine k_iconst C (v := 5) dX7_returns_71 (by decide) ?_
    refine k_callSir C (As := [.int (nI k0), .int 5]) (rest := [.ref (ad 74), .int (f ((66 + (8 * k0)) + 4)), .int (f ((66 + (8 * k0)) + 3)), .int (f ((66 + (8 * k0)) + 1)), .int (f ((66 + (8 * k0)) + 0)), .ref (ad 73)]) (m_X7_of l D cI cC cZ cB cJ ad N G (nI k0) 5) gX7_returns_X7_of rfl kd_X7_of rfl rfl ⟨Nat.le_of_ble_eq_true rfl, Nat.le_of_ble_eq_true rfl⟩ rfl rfl (Nat.le_of_ble_eq_true rfl) ⟨Nat.zero_le _, Nat.zero_le _⟩ dX7_returns_72 ?_
    refine k_ialdN C 74 0 (by omega) hM.2.1 rfl ((66 + (8 * k0)) + 5) (knAdd (knAdd rfl (knMul rfl rfl)) rfl) (by omega) (Nat.le_of_ble_eq_true rfl) dX7_returns_75 ?_
    refine k_congS (st' := [.int (f ((66 + (8 * k0)) + 5)), .int (f ((66 + (8 * k0)) + 4)), .int (f ((66 + (8 * k0)) + 3)), .int (f ((66 + (8 * k0)) + 1)), .int (nI (mBh f k0)), .ref (ad 73)]) (congrArg (fun (z9 : Int32) => ([.int (f ((66 + (8 * k0)) + 5)), .int (f ((66 + (8 * k0)) + 4)), .int (f ((66 + (8 * k0)) + 3)), .int (f ((66 + (8 * k0)) + 1)), .int z9, .ref (ad 73)] : List Value)) (show (f ((66 + (8 * k0)) + 0)) = nI (mBh f k0) from hk1)) ?_
    refine k_callVir C (As := [.int (nI (mBh f k0)), .int (f ((66 + (8 * k0)) + 1)), .int (f ((66 + (8 * k0)) + 3)), .int (f ((66 + (8 * k0)) + 4)), .int (f ((66 + (8 * k0)) + 5))]) (rest := []) 73 (m_X7_forWin l D cI cC cZ cB cJ ad N G f kp tx fi gr st ty th at0 re nh nb nl (mBh f k0) (f ((66 + (8 * k0)) + 1)) (f ((66 + (8 * k0)) + 3)) (f ((66 + (8 * k0)) + 4)) (f ((66 + (8 * k0)) + 5)) (by omega) ⟨hM.1, hM.2.1, hM.2.2.1, hM.2.2.2.1, hM.2.2.2.2.1, hM.2.2.2.2.2⟩ hG0 hk2 hok.2.2.1) gX7_returns_X7_forWin rfl kd_X7_forWin rfl rfl ⟨Nat.le_of_ble_eq_true rfl, Nat.le_of_ble_eq_true rfl⟩ (by omega) hM.1 rfl rfl rfl (Nat.le_of_ble_eq_true rfl) ⟨Nat.zero_le _, Nat.zero_le _⟩ dX7_returns_76 ?_
    refine k_istore_n C (lv' := [(3, .int (mForWin fi gr (mBh f k0) (f ((66 + (8 * k0)) + 1)) (f ((66 + (8 * k0)) + 3)) (f ((66 + (8 * k0)) + 4)) (f ((66 + (8 * k0)) + 5)))), (2, .int (f ((66 + (8 * k0)) + 0))), (0, .ref (ad 73)), (1, .int (nI k0))]) dX7_returns_79 rfl (by decide) rfl ?_
    refine k_aload_n C dX7_returns_80 rfl (j := 2) rfl ?_
    refine k_get C 73 inX7_returns_7 (by omega) hM.1 rfl 0 (by decide) (List.mem_of_getElem? (i := 1) rfl) rfl rfl dX7_returns_81 ?_
    refine k_iload_n C dX7_returns_84 rfl (j := 3) rfl ?_
    refine k_iconst C (v := 2) dX7_returns_85 (by decide) ?_
    refine k_callSir C (As := [.int (nI k0), .int 2]) (rest := [.ref (ad 74)]) (m_X7_of l D cI cC cZ cB cJ ad N G (nI k0) 2) gX7_returns_X7_of rfl kd_X7_of rfl rfl ⟨Nat.le_of_ble_eq_true rfl, Nat.le_of_ble_eq_true rfl⟩ rfl rfl (Nat.le_of_ble_eq_true rfl) ⟨Nat.zero_le _, Nat.zero_le _⟩ dX7_returns_86 ?_
    refine k_ialdN C 74 0 (by omega) hM.2.1 rfl ((66 + (8 * k0)) + 2) (knAdd (knAdd rfl (knMul rfl rfl)) rfl) (by omega) (Nat.le_of_ble_eq_true rfl) dX7_returns_89 ?_
    refine k_iconst C (v := 1) dX7_returns_90 (by decide) ?_
    refine k_icmp_ne C 102 dX7_returns_91 (by decide) (fun c_91 => ?_) (fun c_91 => ?_)
    · skip
      have e_91 := c_91
      change ¬ mB f k0 2 = 1 at e_91
      refine k_iconst C (v := 0) dX7_returns_102 (by decide) ?_
      refine k_istore C (lv' := [(4, .int 0), (3, .int (mForWin fi gr (mBh f k0) (f ((66 + (8 * k0)) + 1)) (f ((66 + (8 * k0)) + 3)) (f ((66 + (8 * k0)) + 4)) (f ((66 + (8 * k0)) + 5)))), (2, .int (f ((66 + (8 * k0)) + 0))), (0, .ref (ad 73)), (1, .int (nI k0))]) dX7_returns_103 (by decide) rfl ?_
      refine k_aload_n C dX7_returns_105 rfl (j := 3) rfl ?_
      refine k_iload_n C dX7_returns_106 rfl (j := 1) rfl ?_
      refine k_if_le C 114 dX7_returns_107 (by decide) (fun c_107 => ?_) (fun c_107 => ?_)
      · skip
        have e_107 := c_107
        change mWinOf f fi gr k0 ≤ 0 at e_107
        refine k_iload C dX7_returns_114 (j := 0) rfl ?_
        refine k_if_ne C 123 dX7_returns_116 (by decide) (fun q => absurd q (by decide)) (fun _ => ?_)
        refine k_iconst C (v := 0) dX7_returns_119 (by decide) ?_
        refine k_goto C 135 dX7_returns_120 (by decide) ?_
        refine k_put C 73 inX7_returns_7 tyX7 tyX7_ok nmX7 (by omega) hM.1 rfl 9 (by decide) (List.mem_of_getElem? (i := 2) rfl) rfl rfl rfl rfl (Nat.le_of_ble_eq_true rfl) dX7_returns_135 (fun G1 hG1 => ?_)
        have h_74_G1 : G1 74 = .inl (cI, 2610, .inl f) := up_at hG1 hM.2.1 (by omega)
        have h_75_G1 : G1 75 = .inl (cZ, 2, .inl kp) := up_at hG1 hM.2.2.1 (by omega)
        have h_76_G1 : G1 76 = .inl (cC, 30, .inl tx) := up_at hG1 hM.2.2.2.1 (by omega)
        have h_77_G1 : G1 77 = .inl (cI, 10, .inl fi) := up_at hG1 hM.2.2.2.2.1 (by omega)
        have h_78_G1 : G1 78 = .inl (cI, 10, .inl gr) := up_at hG1 hM.2.2.2.2.2 (by omega)
        have h_73_G1 : G1 73 = .inr (7, [.ref (ad 74), .int (nI st), .ref (ad 75), .int th, .ref (ad 76), .int (nI ty), .int at0, .ref (ad 77), .ref (ad 78), .int 0]) := up_it hG1
        refine k_iload_n C dX7_returns_138 rfl (j := 1) rfl ?_
        refine k_iload C dX7_returns_139 (j := 0) rfl ?_
        refine k_iadd C dX7_returns_141 ?_
        exact k_iret C hQ rfl rfl dX7_returns_142 ⟨by simp [mRet, mWinOf, mPlaceOf, c_20, e_91, e_107]; try rfl, by rw [show mRea f fi gr nh k0 = 0 from by simp [mRea, mPlaceOf, c_20, e_91, e_107]]; exact ⟨h_73_G1, h_74_G1, h_75_G1, h_76_G1, h_77_G1, h_78_G1⟩, fun j hj => (by rw [hG1, up_ne (by omega)])⟩
      · skip
        have e_107 := c_107
        change ¬ mWinOf f fi gr k0 ≤ 0 at e_107
        refine k_iconst C (v := 2) dX7_returns_110 (by decide) ?_
        refine k_goto C 135 dX7_returns_111 (by decide) ?_
        refine k_put C 73 inX7_returns_7 tyX7 tyX7_ok nmX7 (by omega) hM.1 rfl 9 (by decide) (List.mem_of_getElem? (i := 2) rfl) rfl rfl rfl rfl (Nat.le_of_ble_eq_true rfl) dX7_returns_135 (fun G2 hG2 => ?_)
        have h_74_G2 : G2 74 = .inl (cI, 2610, .inl f) := up_at hG2 hM.2.1 (by omega)
        have h_75_G2 : G2 75 = .inl (cZ, 2, .inl kp) := up_at hG2 hM.2.2.1 (by omega)
        have h_76_G2 : G2 76 = .inl (cC, 30, .inl tx) := up_at hG2 hM.2.2.2.1 (by omega)
        have h_77_G2 : G2 77 = .inl (cI, 10, .inl fi) := up_at hG2 hM.2.2.2.2.1 (by omega)
        have h_78_G2 : G2 78 = .inl (cI, 10, .inl gr) := up_at hG2 hM.2.2.2.2.2 (by omega)
        have h_73_G2 : G2 73 = .inr (7, [.ref (ad 74), .int (nI st), .ref (ad 75), .int th, .ref (ad 76), .int (nI ty), .int at0, .ref (ad 77), .ref (ad 78), .int 2]) := up_it hG2
        refine k_iload_n C dX7_returns_138 rfl (j := 1) rfl ?_
        refine k_iload C dX7_returns_139 (j := 0) rfl ?_
        refine k_iadd C dX7_returns_141 ?_
        exact k_iret C hQ rfl rfl dX7_returns_142 ⟨by simp [mRet, mWinOf, mPlaceOf, c_20, e_91, e_107]; try rfl, by rw [show mRea f fi gr nh k0 = 2 from by simp [mRea, mPlaceOf, c_20, e_91, e_107]]; exact ⟨h_73_G2, h_74_G2, h_75_G2, h_76_G2, h_77_G2, h_78_G2⟩, fun j hj => (by rw [hG2, up_ne (by omega)])⟩
    · skip
      have e_91 := c_91
      change mB f k0 2 = 1 at e_91
      refine k_aload_n C dX7_returns_94 rfl (j := 2) rfl ?_
      refine k_iload_n C dX7_returns_95 rfl (j := 3) rfl ?_
      refine k_callVir C (As := [.int (nI k0)]) (rest := []) 73 (m_X7_forPlace l D cI cC cZ cB cJ ad N G f kp tx fi gr st ty th at0 re nh nb nl k0 (by omega) ⟨hM.1, hM.2.1, hM.2.2.1, hM.2.2.2.1, hM.2.2.2.2.1, hM.2.2.2.2.2⟩ hH hG0 (by omega) hok) gX7_returns_X7_forPlace rfl kd_X7_forPlace rfl rfl ⟨Nat.le_of_ble_eq_true rfl, Nat.le_of_ble_eq_true rfl⟩ (by omega) hM.1 rfl rfl rfl (Nat.le_of_ble_eq_true rfl) ⟨Nat.zero_le _, Nat.zero_le _⟩ dX7_returns_96 ?_
      refine k_goto C 103 dX7_returns_99 (by decide) ?_
      refine k_istore C (lv' := [(4, .int (mForPlace f fi gr nh k0)), (3, .int (mForWin fi gr (mBh f k0) (f ((66 + (8 * k0)) + 1)) (f ((66 + (8 * k0)) + 3)) (f ((66 + (8 * k0)) + 4)) (f ((66 + (8 * k0)) + 5)))), (2, .int (f ((66 + (8 * k0)) + 0))), (0, .ref (ad 73)), (1, .int (nI k0))]) dX7_returns_103 (by decide) rfl ?_
      refine k_aload_n C dX7_returns_105 rfl (j := 3) rfl ?_
      refine k_iload_n C dX7_returns_106 rfl (j := 1) rfl ?_
      refine k_if_le C 114 dX7_returns_107 (by decide) (fun c_107 => ?_) (fun c_107 => ?_)
      · skip
        have e_107 := c_107
        change mWinOf f fi gr k0 ≤ 0 at e_107
        refine k_iload C dX7_returns_114 (j := 0) rfl ?_
        refine k_if_ne C 123 dX7_returns_116 (by decide) (fun c_116 => ?_) (fun c_116 => ?_)
        · skip
          refine k_aload_n C dX7_returns_123 rfl (j := 3) rfl ?_
          refine k_callVir C (As := []) (rest := [.ref (ad 73)]) 73 (m_X7_places l D cI cC cZ cB cJ ad N G f kp tx fi gr st ty th at0 re nh nb nl (by omega) ⟨hM.1, hM.2.1, hM.2.2.1, hM.2.2.2.1, hM.2.2.2.2.1, hM.2.2.2.2.2⟩ hH ) gX7_returns_X7_places rfl kd_X7_places rfl rfl ⟨Nat.le_of_ble_eq_true rfl, Nat.le_of_ble_eq_true rfl⟩ (by omega) hM.1 rfl rfl rfl (Nat.le_of_ble_eq_true rfl) ⟨Nat.zero_le _, Nat.zero_le _⟩ dX7_returns_124 ?_
          refine k_if_ne C 134 dX7_returns_127 (by decide) (fun c_127 => ?_) (fun c_127 => ?_)
          · skip
            refine k_iconst C (v := 3) dX7_returns_134 (by decide) ?_
            refine k_put C 73 inX7_returns_7 tyX7 tyX7_ok nmX7 (by omega) hM.1 rfl 9 (by decide) (List.mem_of_getElem? (i := 2) rfl) rfl rfl rfl rfl (Nat.le_of_ble_eq_true rfl) dX7_returns_135 (fun G3 hG3 => ?_)
            have h_74_G3 : G3 74 = .inl (cI, 2610, .inl f) := up_at hG3 hM.2.1 (by omega)
            have h_75_G3 : G3 75 = .inl (cZ, 2, .inl kp) := up_at hG3 hM.2.2.1 (by omega)
            have h_76_G3 : G3 76 = .inl (cC, 30, .inl tx) := up_at hG3 hM.2.2.2.1 (by omega)
            have h_77_G3 : G3 77 = .inl (cI, 10, .inl fi) := up_at hG3 hM.2.2.2.2.1 (by omega)
            have h_78_G3 : G3 78 = .inl (cI, 10, .inl gr) := up_at hG3 hM.2.2.2.2.2 (by omega)
            have h_73_G3 : G3 73 = .inr (7, [.ref (ad 74), .int (nI st), .ref (ad 75), .int th, .ref (ad 76), .int (nI ty), .int at0, .ref (ad 77), .ref (ad 78), .int 3]) := up_it hG3
            refine k_iload_n C dX7_returns_138 rfl (j := 1) rfl ?_
            refine k_iload C dX7_returns_139 (j := 0) rfl ?_
            refine k_iadd C dX7_returns_141 ?_
            exact k_iret C hQ rfl rfl dX7_returns_142 ⟨by simp [mRet, mWinOf, mPlaceOf, c_20, e_91, e_107, c_116, c_127]; try rfl, by rw [show mRea f fi gr nh k0 = 3 from by simp [mRea, mPlaceOf, c_20, e_91, e_107, c_116, c_127]]; exact ⟨h_73_G3, h_74_G3, h_75_G3, h_76_G3, h_77_G3, h_78_G3⟩, fun j hj => (by rw [hG3, up_ne (by omega)])⟩
          · skip
            refine k_iconst C (v := 4) dX7_returns_130 (by decide) ?_
            refine k_goto C 135 dX7_returns_131 (by decide) ?_
            refine k_put C 73 inX7_returns_7 tyX7 tyX7_ok nmX7 (by omega) hM.1 rfl 9 (by decide) (List.mem_of_getElem? (i := 2) rfl) rfl rfl rfl rfl (Nat.le_of_ble_eq_true rfl) dX7_returns_135 (fun G4 hG4 => ?_)
            have h_74_G4 : G4 74 = .inl (cI, 2610, .inl f) := up_at hG4 hM.2.1 (by omega)
            have h_75_G4 : G4 75 = .inl (cZ, 2, .inl kp) := up_at hG4 hM.2.2.1 (by omega)
            have h_76_G4 : G4 76 = .inl (cC, 30, .inl tx) := up_at hG4 hM.2.2.2.1 (by omega)
            have h_77_G4 : G4 77 = .inl (cI, 10, .inl fi) := up_at hG4 hM.2.2.2.2.1 (by omega)
            have h_78_G4 : G4 78 = .inl (cI, 10, .inl gr) := up_at hG4 hM.2.2.2.2.2 (by omega)
            have h_73_G4 : G4 73 = .inr (7, [.ref (ad 74), .int (nI st), .ref (ad 75), .int th, .ref (ad 76), .int (nI ty), .int at0, .ref (ad 77), .ref (ad 78), .int 4]) := up_it hG4
            refine k_iload_n C dX7_returns_138 rfl (j := 1) rfl ?_
            refine k_iload C dX7_returns_139 (j := 0) rfl ?_
            refine k_iadd C dX7_returns_141 ?_
            exact k_iret C hQ rfl rfl dX7_returns_142 ⟨by simp [mRet, mWinOf, mPlaceOf, c_20, e_91, e_107, c_116, c_127]; try rfl, by rw [show mRea f fi gr nh k0 = 4 from by simp [mRea, mPlaceOf, c_20, e_91, e_107, c_116, c_127]]; exact ⟨h_73_G4, h_74_G4, h_75_G4, h_76_G4, h_77_G4, h_78_G4⟩, fun j hj => (by rw [hG4, up_ne (by omega)])⟩
        · skip
          refine k_iconst C (v := 0) dX7_returns_119 (by decide) ?_
          refine k_goto C 135 dX7_returns_120 (by decide) ?_
          refine k_put C 73 inX7_returns_7 tyX7 tyX7_ok nmX7 (by omega) hM.1 rfl 9 (by decide) (List.mem_of_getElem? (i := 2) rfl) rfl rfl rfl rfl (Nat.le_of_ble_eq_true rfl) dX7_returns_135 (fun G5 hG5 => ?_)
          have h_74_G5 : G5 74 = .inl (cI, 2610, .inl f) := up_at hG5 hM.2.1 (by omega)
          have h_75_G5 : G5 75 = .inl (cZ, 2, .inl kp) := up_at hG5 hM.2.2.1 (by omega)
          have h_76_G5 : G5 76 = .inl (cC, 30, .inl tx) := up_at hG5 hM.2.2.2.1 (by omega)
          have h_77_G5 : G5 77 = .inl (cI, 10, .inl fi) := up_at hG5 hM.2.2.2.2.1 (by omega)
          have h_78_G5 : G5 78 = .inl (cI, 10, .inl gr) := up_at hG5 hM.2.2.2.2.2 (by omega)
          have h_73_G5 : G5 73 = .inr (7, [.ref (ad 74), .int (nI st), .ref (ad 75), .int th, .ref (ad 76), .int (nI ty), .int at0, .ref (ad 77), .ref (ad 78), .int 0]) := up_it hG5
          refine k_iload_n C dX7_returns_138 rfl (j := 1) rfl ?_
          refine k_iload C dX7_returns_139 (j := 0) rfl ?_
          refine k_iadd C dX7_returns_141 ?_
          exact k_iret C hQ rfl rfl dX7_returns_142 ⟨by simp [mRet, mWinOf, mPlaceOf, c_20, e_91, e_107, c_116]; try rfl, by rw [show mRea f fi gr nh k0 = 0 from by simp [mRea, mPlaceOf, c_20, e_91, e_107, c_116]]; exact ⟨h_73_G5, h_74_G5, h_75_G5, h_76_G5, h_77_G5, h_78_G5⟩, fun j hj => (by rw [hG5, up_ne (by omega)])⟩
      · skip
        have e_107 := c_107
        change ¬ mWinOf f fi gr k0 ≤ 0 at e_107
        refine k_iconst C (v := 2) dX7_returns_110 (by decide) ?_
        refine k_goto C 135 dX7_returns_111 (by decide) ?_
        refine k_put C 73 inX7_returns_7 tyX7 tyX7_ok nmX7 (by omega) hM.1 rfl 9 (by decide) (List.mem_of_getElem? (i := 2) rfl) rfl rfl rfl rfl (Nat.le_of_ble_eq_true rfl) dX7_returns_135 (fun G6 hG6 => ?_)
        have h_74_G6 : G6 74 = .inl (cI, 2610, .inl f) := up_at hG6 hM.2.1 (by omega)
        have h_75_G6 : G6 75 = .inl (cZ, 2, .inl kp) := up_at hG6 hM.2.2.1 (by omega)
        have h_76_G6 : G6 76 = .inl (cC, 30, .inl tx) := up_at hG6 hM.2.2.2.1 (by omega)
        have h_77_G6 : G6 77 = .inl (cI, 10, .inl fi) := up_at hG6 hM.2.2.2.2.1 (by omega)
        have h_78_G6 : G6 78 = .inl (cI, 10, .inl gr) := up_at hG6 hM.2.2.2.2.2 (by omega)
        have h_73_G6 : G6 73 = .inr (7, [.ref (ad 74), .int (nI st), .ref (ad 75), .int th, .ref (ad 76), .int (nI ty), .int at0, .ref (ad 77), .ref (ad 78), .int 2]) := up_it hG6
        refine k_iload_n C dX7_returns_138 rfl (j := 1) rfl ?_
        refine k_iload C dX7_returns_139 (j := 0) rfl ?_
        refine k_iadd C dX7_returns_141 ?_
        exact k_iret C hQ rfl rfl dX7_returns_142 ⟨by simp [mRet, mWinOf, mPlaceOf, c_20, e_91, e_107]; try rfl, by rw [show mRea f fi gr nh k0 = 2 from by simp [mRea, mPlaceOf, c_20, e_91, e_107]]; exact ⟨h_73_G6, h_74_G6, h_75_G6, h_76_G6, h_77_G6, h_78_G6⟩, fun j hj => (by rw [hG6, up_ne (by omega)])⟩
  · skip
    refine k_aload_n C dX7_returns_23 rfl (j := 1) rfl ?_
    refine k_iconst C (v := 1) dX7_returns_24 (by decide) ?_
    refine k_put C 73 inX7_returns_7 tyX7 tyX7_ok nmX7 (by omega) hM.1 rfl 9 (by decide) (List.mem_of_getElem? (i := 2) rfl) rfl rfl rfl rfl (Nat.le_of_ble_eq_true rfl) dX7_returns_25 (fun G7 hG7 => ?_)
    have h_74_G7 : G7 74 = .inl (cI, 2610, .inl f) := up_at hG7 hM.2.1 (by omega)
    have h_75_G7 : G7 75 = .inl (cZ, 2, .inl kp) := up_at hG7 hM.2.2.1 (by omega)
    have h_76_G7 : G7 76 = .inl (cC, 30, .inl tx) := up_at hG7 hM.2.2.2.1 (by omega)
    have h_77_G7 : G7 77 = .inl (cI, 10, .inl fi) := up_at hG7 hM.2.2.2.2.1 (by omega)
    have h_78_G7 : G7 78 = .inl (cI, 10, .inl gr) := up_at hG7 hM.2.2.2.2.2 (by omega)
    have h_73_G7 : G7 73 = .inr (7, [.ref (ad 74), .int (nI st), .ref (ad 75), .int th, .ref (ad 76), .int (nI ty), .int at0, .ref (ad 77), .ref (ad 78), .int 1]) := up_it hG7
    refine k_aload_n C dX7_returns_28 rfl (j := 1) rfl ?_
    refine k_iload_n C dX7_returns_29 rfl (j := 2) rfl ?_
    refine k_callVir C (As := [.int (nI k0)]) (rest := []) 73 (m_X7_staked l D cI cC cZ cB cJ ad N G7 f kp tx fi gr st ty th at0 1 nh nb nl k0 (by omega) ⟨h_73_G7, h_74_G7, h_75_G7, h_76_G7, h_77_G7, h_78_G7⟩ (by omega)) gX7_returns_X7_staked rfl kd_X7_staked rfl rfl ⟨Nat.le_of_ble_eq_true rfl, Nat.le_of_ble_eq_true rfl⟩ (by omega) h_73_G7 rfl rfl rfl (Nat.le_of_ble_eq_true rfl) ⟨Nat.zero_le _, Nat.zero_le _⟩ dX7_returns_30 ?_
    exact k_iret C hQ rfl rfl dX7_returns_33 ⟨by simp [mRet, mWinOf, mPlaceOf, c_20]; try rfl, by rw [show mRea f fi gr nh k0 = 1 from by simp [mRea, mPlaceOf, c_20]]; exact ⟨h_73_G7, h_74_G7, h_75_G7, h_76_G7, h_77_G7, h_78_G7⟩, fun j hj => (by rw [hG7, up_ne (by omega)])⟩
theorem inX7_returnsOff_7 : ∀ w ∈ wsX70, w ∈ wsX7_returnsOff := fun _ h => List.mem_cons_of_mem _ (List.mem_append_right _ h)
theorem kd_X7_returnsOff : yX7_returnsOff.cls = RX7 ∧ yX7_returnsOff.cls ≠ "java/lang/invoke/MethodHandle" ∧ yX7_returnsOff.cls ≠ "java/lang/invoke/VarHandle" ∧ (parseMethodDescriptor yX7_returnsOff.desc).map (fun d => d.parameters.length) = some 1 := by decide +kernel
abbrev rX7_returnsOff : Room := ({ frames := 2, cells := 0, slots := 0, locals := 49 } : Room)
set_option maxRecDepth 100000 in
set_option maxHeartbeats 4000000 in
/-- model: returnsOff -/
theorem m_X7_returnsOff (l : Launch) (D : va_G) (cI cC cZ cB cJ : ClassId) (ad : Nat → Nat) (N : Nat) (G : Nat → va_E) (f kp tx fi gr : Nat → Int32) (st ty : Nat) (th at0 re : Int32) (nh nb nl : Nat) (k0 : Nat) (hN : 79 ≤ N) (hM : isMo ad cI cC cZ G f kp tx fi gr st ty th at0 re) (hG0 : okG fi gr) (hk : k0 < 6) (hok : okO f k0) : kMi l yX7_returnsOff wsX7_returnsOff rX7_returnsOff D (kT5 cI cC cZ cB cJ) ad N G [.ref (ad 73), .int (nI k0)] (fun r G' => r = mOffRet f fi gr k0 ∧ G' = G) := by
  refine k_starti (cc := cX7_returnsOff) (ret := (some .int)) (maxL := 3) (lv0 := [(0, .ref (ad 73)), (1, .int (nI k0))]) (by decide) rfl (Nat.le_of_ble_eq_true rfl) rfl ?_
  intro p e s m args below meth c A Q C hQ
  have hk1 : f ((258 + (5 * k0)) + 0) = nI (mOh f k0) := hok.1
  have hk2 := hok.2.1
  refine k_aload_n C dX7_returnsOff_0 rfl (j := 0) rfl ?_
  refine k_get C 73 inX7_returnsOff_7 (by omega) hM.1 rfl 0 (by decide) (List.mem_of_getElem? (i := 1) rfl) rfl rfl dX7_returnsOff_1 ?_
  refine k_iload_n C dX7_returnsOff_4 rfl (j := 1) rfl ?_
  refine k_iconst C (v := 0) dX7_returnsOff_5 (by decide) ?_
  refine k_callSir C (As := [.int (nI k0), .int 0]) (rest := [.ref (ad 74)]) (m_X7_off l D cI cC cZ cB cJ ad N G (nI k0) 0) gX7_returnsOff_X7_off rfl kd_X7_off rfl rfl ⟨Nat.le_of_ble_eq_true rfl, Nat.le_of_ble_eq_true rfl⟩ rfl rfl (Nat.le_of_ble_eq_true rfl) ⟨Nat.zero_le _, Nat.zero_le _⟩ dX7_returnsOff_6 ?_
  refine k_ialdN C 74 0 (by omega) hM.2.1 rfl ((258 + (5 * k0)) + 0) (knAdd (knAdd rfl (knMul rfl rfl)) rfl) (by omega) (Nat.le_of_ble_eq_true rfl) dX7_returnsOff_9 ?_
  refine k_istore_n C (lv' := [(2, .int (f ((258 + (5 * k0)) + 0))), (0, .ref (ad 73)), (1, .int (nI k0))]) dX7_returnsOff_10 rfl (by decide) rfl ?_
  refine k_aload_n C dX7_returnsOff_11 rfl (j := 1) rfl ?_
  refine k_get C 73 inX7_returnsOff_7 (by omega) hM.1 rfl 0 (by decide) (List.mem_of_getElem? (i := 1) rfl) rfl rfl dX7_returnsOff_12 ?_
  refine k_bipush C (v := 26) dX7_returnsOff_15 (by decide) ?_
  refine k_iload_n C dX7_returnsOff_17 rfl (j := 0) rfl ?_
  refine k_iadd C dX7_returnsOff_18 ?_
  refine k_ialdN C 74 0 (by omega) hM.2.1 rfl (26 + (mOh f k0)) (knAdd rfl hk1) (by omega) (Nat.le_of_ble_eq_true rfl) dX7_returnsOff_19 ?_
  refine k_if_ne C 36 dX7_returnsOff_20 (by decide) (fun c_20 => ?_) (fun c_20 => ?_)
  · skip
    refine k_aload_n C dX7_returnsOff_36 rfl (j := 1) rfl ?_
    refine k_iload_n C dX7_returnsOff_37 rfl (j := 0) rfl ?_
    refine k_aload_n C dX7_returnsOff_38 rfl (j := 1) rfl ?_
    refine k_get C 73 inX7_returnsOff_7 (by omega) hM.1 rfl 0 (by decide) (List.mem_of_getElem? (i := 1) rfl) rfl rfl dX7_returnsOff_39 ?_
    refine k_iload_n C dX7_returnsOff_42 rfl (j := 2) rfl ?_
    refine k_iconst C (v := 1) dX7_returnsOff_43 (by decide) ?_
    refine k_callSir C (As := [.int (nI k0), .int 1]) (rest := [.ref (ad 74), .int (f ((258 + (5 * k0)) + 0)), .ref (ad 73)]) (m_X7_off l D cI cC cZ cB cJ ad N G (nI k0) 1) gX7_returnsOff_X7_off rfl kd_X7_off rfl rfl ⟨Nat.le_of_ble_eq_true rfl, Nat.le_of_ble_eq_true rfl⟩ rfl rfl (Nat.le_of_ble_eq_true rfl) ⟨Nat.zero_le _, Nat.zero_le _⟩ dX7_returnsOff_44 ?_
    refine k_ialdN C 74 0 (by omega) hM.2.1 rfl ((258 + (5 * k0)) + 1) (knAdd (knAdd rfl (knMul rfl rfl)) rfl) (by omega) (Nat.le_of_ble_eq_true rfl) dX7_returnsOff_47 ?_
    refine k_aload_n C dX7_returnsOff_48 rfl (j := 1) rfl ?_
    refine k_get C 73 inX7_returnsOff_7 (by omega) hM.1 rfl 0 (by decide) (List.mem_of_getElem? (i := 1) rfl) rfl rfl dX7_returnsOff_49 ?_
    refine k_iload_n C dX7_returnsOff_52 rfl (j := 2) rfl ?_
    refine k_iconst C (v := 2) dX7_returnsOff_53 (by decide) ?_
    refine k_callSir C (As := [.int (nI k0), .int 2]) (rest := [.ref (ad 74), .int (f ((258 + (5 * k0)) + 1)), .int (f ((258 + (5 * k0)) + 0)), .ref (ad 73)]) (m_X7_off l D cI cC cZ cB cJ ad N G (nI k0) 2) gX7_returnsOff_X7_off rfl kd_X7_off rfl rfl ⟨Nat.le_of_ble_eq_true rfl, Nat.le_of_ble_eq_true rfl⟩ rfl rfl (Nat.le_of_ble_eq_true rfl) ⟨Nat.zero_le _, Nat.zero_le _⟩ dX7_returnsOff_54 ?_
    refine k_ialdN C 74 0 (by omega) hM.2.1 rfl ((258 + (5 * k0)) + 2) (knAdd (knAdd rfl (knMul rfl rfl)) rfl) (by omega) (Nat.le_of_ble_eq_true rfl) dX7_returnsOff_57 ?_
    refine k_aload_n C dX7_returnsOff_58 rfl (j := 1) rfl ?_
    refine k_get C 73 inX7_returnsOff_7 (by omega) hM.1 rfl 0 (by decide) (List.mem_of_getElem? (i := 1) rfl) rfl rfl dX7_returnsOff_59 ?_
    refine k_iload_n C dX7_returnsOff_62 rfl (j := 2) rfl ?_
    refine k_iconst C (v := 3) dX7_returnsOff_63 (by decide) ?_
    refine k_callSir C (As := [.int (nI k0), .int 3]) (rest := [.ref (ad 74), .int (f ((258 + (5 * k0)) + 2)), .int (f ((258 + (5 * k0)) + 1)), .int (f ((258 + (5 * k0)) + 0)), .ref (ad 73)]) (m_X7_off l D cI cC cZ cB cJ ad N G (nI k0) 3) gX7_returnsOff_X7_off rfl kd_X7_off rfl rfl ⟨Nat.le_of_ble_eq_true rfl, Nat.le_of_ble_eq_true rfl⟩ rfl rfl (Nat.le_of_ble_eq_true rfl) ⟨Nat.zero_le _, Nat.zero_le _⟩ dX7_returnsOff_64 ?_
    refine k_ialdN C 74 0 (by omega) hM.2.1 rfl ((258 + (5 * k0)) + 3) (knAdd (knAdd rfl (knMul rfl rfl)) rfl) (by omega) (Nat.le_of_ble_eq_true rfl) dX7_returnsOff_67 ?_
    refine k_iconst C (v := 0) dX7_returnsOff_68 (by decide) ?_
    refine k_congS (st' := [.int 0, .int (f ((258 + (5 * k0)) + 3)), .int (f ((258 + (5 * k0)) + 2)), .int (f ((258 + (5 * k0)) + 1)), .int (nI (mOh f k0)), .ref (ad 73)]) (congrArg (fun (z9 : Int32) => ([.int 0, .int (f ((258 + (5 * k0)) + 3)), .int (f ((258 + (5 * k0)) + 2)), .int (f ((258 + (5 * k0)) + 1)), .int z9, .ref (ad 73)] : List Value)) (show (f ((258 + (5 * k0)) + 0)) = nI (mOh f k0) from hk1)) ?_
    refine k_callVir C (As := [.int (nI (mOh f k0)), .int (f ((258 + (5 * k0)) + 1)), .int (f ((258 + (5 * k0)) + 2)), .int (f ((258 + (5 * k0)) + 3)), .int 0]) (rest := []) 73 (m_X7_forWin l D cI cC cZ cB cJ ad N G f kp tx fi gr st ty th at0 re nh nb nl (mOh f k0) (f ((258 + (5 * k0)) + 1)) (f ((258 + (5 * k0)) + 2)) (f ((258 + (5 * k0)) + 3)) 0 (by omega) ⟨hM.1, hM.2.1, hM.2.2.1, hM.2.2.2.1, hM.2.2.2.2.1, hM.2.2.2.2.2⟩ hG0 hk2 hok.2.2) gX7_returnsOff_X7_forWin rfl kd_X7_forWin rfl rfl ⟨Nat.le_of_ble_eq_true rfl, Nat.le_of_ble_eq_true rfl⟩ (by omega) hM.1 rfl rfl rfl (Nat.le_of_ble_eq_true rfl) ⟨Nat.zero_le _, Nat.zero_le _⟩ dX7_returnsOff_69 ?_
    exact k_iret C hQ rfl rfl dX7_returnsOff_72 ⟨by rw [mOffRet, if_neg c_20]; rfl, rfl⟩
  · skip
    refine k_aload_n C dX7_returnsOff_23 rfl (j := 1) rfl ?_
    refine k_get C 73 inX7_returnsOff_7 (by omega) hM.1 rfl 0 (by decide) (List.mem_of_getElem? (i := 1) rfl) rfl rfl dX7_returnsOff_24 ?_
    refine k_iload_n C dX7_returnsOff_27 rfl (j := 2) rfl ?_
    refine k_iconst C (v := 1) dX7_returnsOff_28 (by decide) ?_
    refine k_callSir C (As := [.int (nI k0), .int 1]) (rest := [.ref (ad 74)]) (m_X7_off l D cI cC cZ cB cJ ad N G (nI k0) 1) gX7_returnsOff_X7_off rfl kd_X7_off rfl rfl ⟨Nat.le_of_ble_eq_true rfl, Nat.le_of_ble_eq_true rfl⟩ rfl rfl (Nat.le_of_ble_eq_true rfl) ⟨Nat.zero_le _, Nat.zero_le _⟩ dX7_returnsOff_29 ?_
    refine k_ialdN C 74 0 (by omega) hM.2.1 rfl ((258 + (5 * k0)) + 1) (knAdd (knAdd rfl (knMul rfl rfl)) rfl) (by omega) (Nat.le_of_ble_eq_true rfl) dX7_returnsOff_32 ?_
    refine k_goto C 72 dX7_returnsOff_33 (by decide) ?_
    exact k_iret C hQ rfl rfl dX7_returnsOff_72 ⟨by rw [mOffRet, if_pos c_20]; rfl, rfl⟩
theorem inX7_betsOn_7 : ∀ w ∈ wsX70, w ∈ wsX7_betsOn := fun _ h => List.mem_cons_of_mem _ (List.mem_append_right _ h)
theorem kd_X7_betsOn : yX7_betsOn.cls = RX7 ∧ yX7_betsOn.cls ≠ "java/lang/invoke/MethodHandle" ∧ yX7_betsOn.cls ≠ "java/lang/invoke/VarHandle" ∧ (parseMethodDescriptor yX7_betsOn.desc).map (fun d => d.parameters.length) = some 1 := by decide +kernel
abbrev rX7_betsOn : Room := ({ frames := 1, cells := 0, slots := 0, locals := 21 } : Room)
set_option maxRecDepth 100000 in
set_option maxHeartbeats 4000000 in
/-- model: betsOn -/
theorem m_X7_betsOn (l : Launch) (D : va_G) (cI cC cZ cB cJ : ClassId) (ad : Nat → Nat) (N : Nat) (G : Nat → va_E) (f kp tx fi gr : Nat → Int32) (st ty : Nat) (th at0 re : Int32) (nh nb nl : Nat) (h : Int32) (hN : 79 ≤ N) (hM : isMo ad cI cC cZ G f kp tx fi gr st ty th at0 re) (hB : f 1 = nI nb ∧ nb ≤ 24) : kMi l yX7_betsOn wsX7_betsOn rX7_betsOn D (kT5 cI cC cZ cB cJ) ad N G [.ref (ad 73), .int h] (fun r G' => r = mBetsOn f h nb ∧ G' = G) := by
  refine k_starti (cc := cX7_betsOn) (ret := (some .int)) (maxL := 4) (lv0 := [(0, .ref (ad 73)), (1, .int h)]) (by decide) rfl (Nat.le_of_ble_eq_true rfl) rfl ?_
  intro p e s m args below meth c A Q C hQ
  have hn := hB.2
  refine k_iconst C (v := 0) dX7_betsOn_0 (by decide) ?_
  refine k_istore_n C (lv' := [(2, .int 0), (0, .ref (ad 73)), (1, .int h)]) dX7_betsOn_1 rfl (by decide) rfl ?_
  refine k_iconst C (v := 0) dX7_betsOn_2 (by decide) ?_
  refine k_istore_n C (lv' := [(3, .int 0), (2, .int 0), (0, .ref (ad 73)), (1, .int h)]) dX7_betsOn_3 rfl (by decide) rfl ?_
  have loop4 : ∀ (k : Nat) (i : Nat) , (nb + 1 ≤ i + k) → (i ≤ nb) → kJ p l e rX7_betsOn s m args below meth c 0 0 Q 4 D ad N A G 4 [(0, .ref (ad 73)), (1, .int h), (2, .int (mBetsOn f h i)), (3, .int (nI i))] [] := by
    intro k
    induction k with
    | zero => intro i  h1 h2; exact absurd h1 (by omega)
    | succ k ih4 =>
      intro i  h1 h2
      refine k_iload_n C dX7_betsOn_4 rfl (j := 3) rfl ?_
      refine k_aload_n C dX7_betsOn_5 rfl (j := 0) rfl ?_
      refine k_get C 73 inX7_betsOn_7 (by omega) hM.1 rfl 0 (by decide) (List.mem_of_getElem? (i := 1) rfl) rfl rfl dX7_betsOn_6 ?_
      refine k_iconst C (v := 1) dX7_betsOn_9 (by decide) ?_
      refine k_ialdN C 74 0 (by omega) hM.2.1 rfl 1 rfl (by omega) (Nat.le_of_ble_eq_true rfl) dX7_betsOn_10 ?_
      refine k_icmp_ge C 42 dX7_betsOn_11 (by decide) (fun c_11 => ?_) (fun c_11 => ?_)
      · skip
        rw [hB.1] at c_11
        have hi2 : i = nb := k_ge c_11 (by omega) h2
        rw [hi2]
        refine k_iload_n C dX7_betsOn_42 rfl (j := 2) rfl ?_
        exact k_iret C hQ rfl rfl dX7_betsOn_43 ⟨rfl, rfl⟩
      · skip
        rw [hB.1] at c_11
        have hi3 : i < nb := k_lt c_11 (by omega) h2
        refine k_iload_n C dX7_betsOn_14 rfl (j := 2) rfl ?_
        refine k_aload_n C dX7_betsOn_15 rfl (j := 0) rfl ?_
        refine k_get C 73 inX7_betsOn_7 (by omega) hM.1 rfl 0 (by decide) (List.mem_of_getElem? (i := 1) rfl) rfl rfl dX7_betsOn_16 ?_
        refine k_iload_n C dX7_betsOn_19 rfl (j := 3) rfl ?_
        refine k_iconst C (v := 0) dX7_betsOn_20 (by decide) ?_
        refine k_callSir C (As := [.int (nI i), .int 0]) (rest := [.ref (ad 74), .int (mBetsOn f h i)]) (m_X7_of l D cI cC cZ cB cJ ad N G (nI i) 0) gX7_betsOn_X7_of rfl kd_X7_of rfl rfl ⟨Nat.le_of_ble_eq_true rfl, Nat.le_of_ble_eq_true rfl⟩ rfl rfl (Nat.le_of_ble_eq_true rfl) ⟨Nat.zero_le _, Nat.zero_le _⟩ dX7_betsOn_21 ?_
        refine k_ialdN C 74 0 (by omega) hM.2.1 rfl ((66 + (8 * i)) + 0) (knAdd (knAdd rfl (knMul rfl rfl)) rfl) (by omega) (Nat.le_of_ble_eq_true rfl) dX7_betsOn_24 ?_
        refine k_iload_n C dX7_betsOn_25 rfl (j := 1) rfl ?_
        refine k_icmp_ne C 33 dX7_betsOn_26 (by decide) (fun c_26 => ?_) (fun c_26 => ?_)
        · skip
          change ¬ mB f i 0 = h at c_26
          refine k_iconst C (v := 0) dX7_betsOn_33 (by decide) ?_
          refine k_iadd C dX7_betsOn_34 ?_
          refine k_istore_n C (lv' := [(2, .int ((mBetsOn f h i) + 0)), (0, .ref (ad 73)), (1, .int h), (3, .int (nI i))]) dX7_betsOn_35 rfl (by decide) rfl ?_
          refine k_cong (lv' := [(2, .int (mBetsOn f h (i + 1))), (0, .ref (ad 73)), (1, .int h), (3, .int (nI i))]) (by rw [show ((mBetsOn f h i) + 0) = mBetsOn f h (i + 1) from by rw [mBetsOn, if_neg c_26]]) ?_
          refine k_iinc C (v := nI (i + 1)) (lv' := [(3, .int (nI (i + 1))), (2, .int (mBetsOn f h (i + 1))), (0, .ref (ad 73)), (1, .int h)]) dX7_betsOn_36 (j := 3) rfl (nI_1 i) (by decide) rfl ?_
          refine k_goto C 4 dX7_betsOn_39 (by decide) ?_
          exact k_sub [2, 3, 1, 0] rfl (ih4 (i + 1) (by omega) (by omega))
        · skip
          change mB f i 0 = h at c_26
          refine k_iconst C (v := 1) dX7_betsOn_29 (by decide) ?_
          refine k_goto C 34 dX7_betsOn_30 (by decide) ?_
          refine k_iadd C dX7_betsOn_34 ?_
          refine k_istore_n C (lv' := [(2, .int ((mBetsOn f h i) + 1)), (0, .ref (ad 73)), (1, .int h), (3, .int (nI i))]) dX7_betsOn_35 rfl (by decide) rfl ?_
          refine k_cong (lv' := [(2, .int (mBetsOn f h (i + 1))), (0, .ref (ad 73)), (1, .int h), (3, .int (nI i))]) (by rw [show ((mBetsOn f h i) + 1) = mBetsOn f h (i + 1) from by rw [mBetsOn, if_pos c_26]]) ?_
          refine k_iinc C (v := nI (i + 1)) (lv' := [(3, .int (nI (i + 1))), (2, .int (mBetsOn f h (i + 1))), (0, .ref (ad 73)), (1, .int h)]) dX7_betsOn_36 (j := 3) rfl (nI_1 i) (by decide) rfl ?_
          refine k_goto C 4 dX7_betsOn_39 (by decide) ?_
          exact k_sub [2, 3, 1, 0] rfl (ih4 (i + 1) (by omega) (by omega))
  exact k_sub [2, 3, 1, 0] rfl (loop4 (nb + 1) 0 (by omega) (Nat.zero_le _))
theorem inX7_stakes_7 : ∀ w ∈ wsX70, w ∈ wsX7_stakes := fun _ h => List.mem_cons_of_mem _ (List.mem_append_right _ h)
theorem kd_X7_stakes : yX7_stakes.cls = RX7 ∧ yX7_stakes.cls ≠ "java/lang/invoke/MethodHandle" ∧ yX7_stakes.cls ≠ "java/lang/invoke/VarHandle" ∧ (parseMethodDescriptor yX7_stakes.desc).map (fun d => d.parameters.length) = some 2 := by decide +kernel
abbrev rX7_stakes : Room := ({ frames := 1, cells := 0, slots := 0, locals := 21 } : Room)
set_option maxRecDepth 100000 in
set_option maxHeartbeats 4000000 in
/-- model: stakes -/
theorem m_X7_stakes (l : Launch) (D : va_G) (cI cC cZ cB cJ : ClassId) (ad : Nat → Nat) (N : Nat) (G : Nat → va_E) (f kp tx fi gr : Nat → Int32) (st ty : Nat) (th at0 re : Int32) (nh nb nl : Nat) (h : Int32) (pl : Bool) (hN : 79 ≤ N) (hM : isMo ad cI cC cZ G f kp tx fi gr st ty th at0 re) (hB : f 1 = nI nb ∧ nb ≤ 24) : kMi l yX7_stakes wsX7_stakes rX7_stakes D (kT5 cI cC cZ cB cJ) ad N G [.ref (ad 73), .int h, .int (bI pl)] (fun r G' => r = mStakes f h pl nb ∧ G' = G) := by
  refine k_starti (cc := cX7_stakes) (ret := (some .int)) (maxL := 5) (lv0 := [(0, .ref (ad 73)), (1, .int h), (2, .int (bI pl))]) (by decide) rfl (Nat.le_of_ble_eq_true rfl) rfl ?_
  intro p e s m args below meth c A Q C hQ
  have hn := hB.2
  refine k_iconst C (v := 0) dX7_stakes_0 (by decide) ?_
  refine k_istore_n C (lv' := [(3, .int 0), (0, .ref (ad 73)), (1, .int h), (2, .int (bI pl))]) dX7_stakes_1 rfl (by decide) rfl ?_
  refine k_iconst C (v := 0) dX7_stakes_2 (by decide) ?_
  refine k_istore C (lv' := [(4, .int 0), (3, .int 0), (0, .ref (ad 73)), (1, .int h), (2, .int (bI pl))]) dX7_stakes_3 (by decide) rfl ?_
  have loop5 : ∀ (k : Nat) (i : Nat) , (nb + 1 ≤ i + k) → (i ≤ nb) → kJ p l e rX7_stakes s m args below meth c 0 0 Q 5 D ad N A G 5 [(0, .ref (ad 73)), (1, .int h), (2, .int (bI pl)), (3, .int (mStakes f h pl i)), (4, .int (nI i))] [] := by
    intro k
    induction k with
    | zero => intro i  h1 h2; exact absurd h1 (by omega)
    | succ k ih5 =>
      intro i  h1 h2
      refine k_iload C dX7_stakes_5 (j := 4) rfl ?_
      refine k_aload_n C dX7_stakes_7 rfl (j := 0) rfl ?_
      refine k_get C 73 inX7_stakes_7 (by omega) hM.1 rfl 0 (by decide) (List.mem_of_getElem? (i := 1) rfl) rfl rfl dX7_stakes_8 ?_
      refine k_iconst C (v := 1) dX7_stakes_11 (by decide) ?_
      refine k_ialdN C 74 0 (by omega) hM.2.1 rfl 1 rfl (by omega) (Nat.le_of_ble_eq_true rfl) dX7_stakes_12 ?_
      refine k_icmp_ge C 75 dX7_stakes_13 (by decide) (fun c_13 => ?_) (fun c_13 => ?_)
      · skip
        rw [hB.1] at c_13
        have hi2 : i = nb := k_ge c_13 (by omega) h2
        rw [hi2]
        refine k_iload_n C dX7_stakes_75 rfl (j := 3) rfl ?_
        exact k_iret C hQ rfl rfl dX7_stakes_76 ⟨rfl, rfl⟩
      · skip
        rw [hB.1] at c_13
        have hi3 : i < nb := k_lt c_13 (by omega) h2
        refine k_iload_n C dX7_stakes_16 rfl (j := 3) rfl ?_
        refine k_aload_n C dX7_stakes_17 rfl (j := 0) rfl ?_
        refine k_get C 73 inX7_stakes_7 (by omega) hM.1 rfl 0 (by decide) (List.mem_of_getElem? (i := 1) rfl) rfl rfl dX7_stakes_18 ?_
        refine k_iload C dX7_stakes_21 (j := 4) rfl ?_
        refine k_iconst C (v := 0) dX7_stakes_23 (by decide) ?_
        refine k_callSir C (As := [.int (nI i), .int 0]) (rest := [.ref (ad 74), .int (mStakes f h pl i)]) (m_X7_of l D cI cC cZ cB cJ ad N G (nI i) 0) gX7_stakes_X7_of rfl kd_X7_of rfl rfl ⟨Nat.le_of_ble_eq_true rfl, Nat.le_of_ble_eq_true rfl⟩ rfl rfl (Nat.le_of_ble_eq_true rfl) ⟨Nat.zero_le _, Nat.zero_le _⟩ dX7_stakes_24 ?_
        refine k_ialdN C 74 0 (by omega) hM.2.1 rfl ((66 + (8 * i)) + 0) (knAdd (knAdd rfl (knMul rfl rfl)) rfl) (by omega) (Nat.le_of_ble_eq_true rfl) dX7_stakes_27 ?_
        refine k_iload_n C dX7_stakes_28 rfl (j := 1) rfl ?_
        refine k_icmp_ne C 66 dX7_stakes_29 (by decide) (fun c_29 => ?_) (fun c_29 => ?_)
        · skip
          change ¬ mB f i 0 = h at c_29
          refine k_iconst C (v := 0) dX7_stakes_66 (by decide) ?_
          refine k_iadd C dX7_stakes_67 ?_
          refine k_istore_n C (lv' := [(3, .int ((mStakes f h pl i) + 0)), (0, .ref (ad 73)), (1, .int h), (2, .int (bI pl)), (4, .int (nI i))]) dX7_stakes_68 rfl (by decide) rfl ?_
          refine k_cong (lv' := [(3, .int (mStakes f h pl (i + 1))), (0, .ref (ad 73)), (1, .int h), (2, .int (bI pl)), (4, .int (nI i))]) (by rw [show ((mStakes f h pl i) + 0) = mStakes f h pl (i + 1) from by rw [mStakes, if_neg c_29]]) ?_
          refine k_iinc C (v := nI (i + 1)) (lv' := [(4, .int (nI (i + 1))), (3, .int (mStakes f h pl (i + 1))), (0, .ref (ad 73)), (1, .int h), (2, .int (bI pl))]) dX7_stakes_69 (j := 4) rfl (nI_1 i) (by decide) rfl ?_
          refine k_goto C 5 dX7_stakes_72 (by decide) ?_
          exact k_sub [2, 3, 4, 1, 0] rfl (ih5 (i + 1) (by omega) (by omega))
        · skip
          change mB f i 0 = h at c_29
          refine k_aload_n C dX7_stakes_32 rfl (j := 0) rfl ?_
          refine k_get C 73 inX7_stakes_7 (by omega) hM.1 rfl 0 (by decide) (List.mem_of_getElem? (i := 1) rfl) rfl rfl dX7_stakes_33 ?_
          refine k_iload C dX7_stakes_36 (j := 4) rfl ?_
          refine k_iconst C (v := 1) dX7_stakes_38 (by decide) ?_
          refine k_callSir C (As := [.int (nI i), .int 1]) (rest := [.ref (ad 74), .int (mStakes f h pl i)]) (m_X7_of l D cI cC cZ cB cJ ad N G (nI i) 1) gX7_stakes_X7_of rfl kd_X7_of rfl rfl ⟨Nat.le_of_ble_eq_true rfl, Nat.le_of_ble_eq_true rfl⟩ rfl rfl (Nat.le_of_ble_eq_true rfl) ⟨Nat.zero_le _, Nat.zero_le _⟩ dX7_stakes_39 ?_
          refine k_ialdN C 74 0 (by omega) hM.2.1 rfl ((66 + (8 * i)) + 1) (knAdd (knAdd rfl (knMul rfl rfl)) rfl) (by omega) (Nat.le_of_ble_eq_true rfl) dX7_stakes_42 ?_
          refine k_iload_n C dX7_stakes_43 rfl (j := 2) rfl ?_
          refine k_if_eq C 61 dX7_stakes_44 (by decide) (fun c_44 => ?_) (fun c_44 => ?_)
          · skip
            refine k_iconst C (v := 1) dX7_stakes_61 (by decide) ?_
            refine k_imul C dX7_stakes_62 ?_
            refine k_goto C 67 dX7_stakes_63 (by decide) ?_
            refine k_iadd C dX7_stakes_67 ?_
            refine k_istore_n C (lv' := [(3, .int ((mStakes f h pl i) + ((f ((66 + (8 * i)) + 1)) * 1))), (0, .ref (ad 73)), (1, .int h), (2, .int (bI pl)), (4, .int (nI i))]) dX7_stakes_68 rfl (by decide) rfl ?_
            refine k_cong (lv' := [(3, .int (mStakes f h pl (i + 1))), (0, .ref (ad 73)), (1, .int h), (2, .int (bI pl)), (4, .int (nI i))]) (by rw [show ((mStakes f h pl i) + ((f ((66 + (8 * i)) + 1)) * 1)) = mStakes f h pl (i + 1) from by rw [mStakes, if_pos c_29, if_neg (by rw [bI_f c_44]; decide)]; rfl]) ?_
            refine k_iinc C (v := nI (i + 1)) (lv' := [(4, .int (nI (i + 1))), (3, .int (mStakes f h pl (i + 1))), (0, .ref (ad 73)), (1, .int h), (2, .int (bI pl))]) dX7_stakes_69 (j := 4) rfl (nI_1 i) (by decide) rfl ?_
            refine k_goto C 5 dX7_stakes_72 (by decide) ?_
            exact k_sub [2, 3, 4, 1, 0] rfl (ih5 (i + 1) (by omega) (by omega))
          · skip
            refine k_aload_n C dX7_stakes_47 rfl (j := 0) rfl ?_
            refine k_get C 73 inX7_stakes_7 (by omega) hM.1 rfl 0 (by decide) (List.mem_of_getElem? (i := 1) rfl) rfl rfl dX7_stakes_48 ?_
            refine k_iload C dX7_stakes_51 (j := 4) rfl ?_
            refine k_iconst C (v := 2) dX7_stakes_53 (by decide) ?_
            refine k_callSir C (As := [.int (nI i), .int 2]) (rest := [.ref (ad 74), .int (f ((66 + (8 * i)) + 1)), .int (mStakes f h pl i)]) (m_X7_of l D cI cC cZ cB cJ ad N G (nI i) 2) gX7_stakes_X7_of rfl kd_X7_of rfl rfl ⟨Nat.le_of_ble_eq_true rfl, Nat.le_of_ble_eq_true rfl⟩ rfl rfl (Nat.le_of_ble_eq_true rfl) ⟨Nat.zero_le _, Nat.zero_le _⟩ dX7_stakes_54 ?_
            refine k_ialdN C 74 0 (by omega) hM.2.1 rfl ((66 + (8 * i)) + 2) (knAdd (knAdd rfl (knMul rfl rfl)) rfl) (by omega) (Nat.le_of_ble_eq_true rfl) dX7_stakes_57 ?_
            refine k_goto C 62 dX7_stakes_58 (by decide) ?_
            refine k_imul C dX7_stakes_62 ?_
            refine k_goto C 67 dX7_stakes_63 (by decide) ?_
            refine k_iadd C dX7_stakes_67 ?_
            refine k_istore_n C (lv' := [(3, .int ((mStakes f h pl i) + ((f ((66 + (8 * i)) + 1)) * (f ((66 + (8 * i)) + 2))))), (0, .ref (ad 73)), (1, .int h), (2, .int (bI pl)), (4, .int (nI i))]) dX7_stakes_68 rfl (by decide) rfl ?_
            refine k_cong (lv' := [(3, .int (mStakes f h pl (i + 1))), (0, .ref (ad 73)), (1, .int h), (2, .int (bI pl)), (4, .int (nI i))]) (by rw [show ((mStakes f h pl i) + ((f ((66 + (8 * i)) + 1)) * (f ((66 + (8 * i)) + 2)))) = mStakes f h pl (i + 1) from by rw [mStakes, if_pos c_29, if_pos (bI_t c_44)]; rfl]) ?_
            refine k_iinc C (v := nI (i + 1)) (lv' := [(4, .int (nI (i + 1))), (3, .int (mStakes f h pl (i + 1))), (0, .ref (ad 73)), (1, .int h), (2, .int (bI pl))]) dX7_stakes_69 (j := 4) rfl (nI_1 i) (by decide) rfl ?_
            refine k_goto C 5 dX7_stakes_72 (by decide) ?_
            exact k_sub [2, 3, 4, 1, 0] rfl (ih5 (i + 1) (by omega) (by omega))
  exact k_sub [2, 3, 4, 1, 0] rfl (loop5 (nb + 1) 0 (by omega) (Nat.zero_le _))
theorem inX7_horses_7 : ∀ w ∈ wsX70, w ∈ wsX7_horses := fun _ h => List.mem_cons_of_mem _ (List.mem_append_right _ h)
theorem kd_X7_horses : yX7_horses.cls = RX7 ∧ yX7_horses.cls ≠ "java/lang/invoke/MethodHandle" ∧ yX7_horses.cls ≠ "java/lang/invoke/VarHandle" ∧ (parseMethodDescriptor yX7_horses.desc).map (fun d => d.parameters.length) = some 2 := by decide +kernel
abbrev rX7_horses : Room := ({ frames := 2, cells := 0, slots := 0, locals := 45 } : Room)
set_option maxRecDepth 100000 in
set_option maxHeartbeats 4000000 in
/-- model: horses -/
theorem m_X7_horses (l : Launch) (D : va_G) (cI cC cZ cB cJ : ClassId) (ad : Nat → Nat) (N : Nat) (G : Nat → va_E) (f kp tx fi gr : Nat → Int32) (st ty : Nat) (th at0 re : Int32) (nh nb nl : Nat) (h k0 : Nat) (hN : 79 ≤ N) (hM : isMo ad cI cC cZ G f kp tx fi gr st ty th at0 re) (hB : f 1 = nI nb ∧ nb ≤ 24) (hh : h < 10) (hk : k0 < 9) : kMi l yX7_horses wsX7_horses rX7_horses D (kT5 cI cC cZ cB cJ) ad N G [.ref (ad 73), .int (nI h), .int (nI k0)] (fun r G' => r = mHorse f nb h k0 ∧ G' = G) := by
  refine k_starti (cc := cX7_horses) (ret := (some .int)) (maxL := 3) (lv0 := [(0, .ref (ad 73)), (1, .int (nI h)), (2, .int (nI k0))]) (by decide) rfl (Nat.le_of_ble_eq_true rfl) rfl ?_
  intro p e s m args below meth c A Q C hQ
  refine k_iload_n C dX7_horses_0 rfl (j := 2) rfl ?_
  rcases (show k0 = 0 ∨ k0 = 1 ∨ k0 = 2 ∨ k0 = 3 ∨ k0 = 4 ∨ k0 = 5 ∨ k0 = 6 ∨ k0 = 7 ∨ k0 = 8 by omega) with rfl | rfl | rfl | rfl | rfl | rfl | rfl | rfl | rfl
  · skip
    refine k_tableIn C (off := 47) 48 dX7_horses_1 (by decide) (by decide) (by decide) (by decide) ?_
    refine k_aload_n C dX7_horses_48 rfl (j := 0) rfl ?_
    refine k_get C 73 inX7_horses_7 (by omega) hM.1 rfl 0 (by decide) (List.mem_of_getElem? (i := 1) rfl) rfl rfl dX7_horses_49 ?_
    refine k_bipush C (v := 6) dX7_horses_52 (by decide) ?_
    refine k_iload_n C dX7_horses_54 rfl (j := 1) rfl ?_
    refine k_iadd C dX7_horses_55 ?_
    refine k_ialdN C 74 0 (by omega) hM.2.1 rfl (6 + h) (knAdd rfl rfl) (by omega) (Nat.le_of_ble_eq_true rfl) dX7_horses_56 ?_
    exact k_iret C hQ rfl rfl dX7_horses_57 ⟨rfl, rfl⟩
  · skip
    refine k_tableIn C (off := 57) 58 dX7_horses_1 (by decide) (by decide) (by decide) (by decide) ?_
    refine k_aload_n C dX7_horses_58 rfl (j := 0) rfl ?_
    refine k_get C 73 inX7_horses_7 (by omega) hM.1 rfl 0 (by decide) (List.mem_of_getElem? (i := 1) rfl) rfl rfl dX7_horses_59 ?_
    refine k_bipush C (v := 16) dX7_horses_62 (by decide) ?_
    refine k_iload_n C dX7_horses_64 rfl (j := 1) rfl ?_
    refine k_iadd C dX7_horses_65 ?_
    refine k_ialdN C 74 0 (by omega) hM.2.1 rfl (16 + h) (knAdd rfl rfl) (by omega) (Nat.le_of_ble_eq_true rfl) dX7_horses_66 ?_
    exact k_iret C hQ rfl rfl dX7_horses_67 ⟨rfl, rfl⟩
  · skip
    refine k_tableIn C (off := 67) 68 dX7_horses_1 (by decide) (by decide) (by decide) (by decide) ?_
    refine k_aload_n C dX7_horses_68 rfl (j := 0) rfl ?_
    refine k_get C 73 inX7_horses_7 (by omega) hM.1 rfl 0 (by decide) (List.mem_of_getElem? (i := 1) rfl) rfl rfl dX7_horses_69 ?_
    refine k_bipush C (v := 26) dX7_horses_72 (by decide) ?_
    refine k_iload_n C dX7_horses_74 rfl (j := 1) rfl ?_
    refine k_iadd C dX7_horses_75 ?_
    refine k_ialdN C 74 0 (by omega) hM.2.1 rfl (26 + h) (knAdd rfl rfl) (by omega) (Nat.le_of_ble_eq_true rfl) dX7_horses_76 ?_
    exact k_iret C hQ rfl rfl dX7_horses_77 ⟨rfl, rfl⟩
  · skip
    refine k_tableIn C (off := 77) 78 dX7_horses_1 (by decide) (by decide) (by decide) (by decide) ?_
    refine k_aload_n C dX7_horses_78 rfl (j := 0) rfl ?_
    refine k_get C 73 inX7_horses_7 (by omega) hM.1 rfl 0 (by decide) (List.mem_of_getElem? (i := 1) rfl) rfl rfl dX7_horses_79 ?_
    refine k_bipush C (v := 36) dX7_horses_82 (by decide) ?_
    refine k_iload_n C dX7_horses_84 rfl (j := 1) rfl ?_
    refine k_iadd C dX7_horses_85 ?_
    refine k_ialdN C 74 0 (by omega) hM.2.1 rfl (36 + h) (knAdd rfl rfl) (by omega) (Nat.le_of_ble_eq_true rfl) dX7_horses_86 ?_
    exact k_iret C hQ rfl rfl dX7_horses_87 ⟨rfl, rfl⟩
  · skip
    refine k_tableIn C (off := 87) 88 dX7_horses_1 (by decide) (by decide) (by decide) (by decide) ?_
    refine k_aload_n C dX7_horses_88 rfl (j := 0) rfl ?_
    refine k_iload_n C dX7_horses_89 rfl (j := 1) rfl ?_
    refine k_callVir C (As := [.int (nI h)]) (rest := []) 73 (m_X7_betsOn l D cI cC cZ cB cJ ad N G f kp tx fi gr st ty th at0 re nh nb nl (nI h) (by omega) ⟨hM.1, hM.2.1, hM.2.2.1, hM.2.2.2.1, hM.2.2.2.2.1, hM.2.2.2.2.2⟩ hB ) gX7_horses_X7_betsOn rfl kd_X7_betsOn rfl rfl ⟨Nat.le_of_ble_eq_true rfl, Nat.le_of_ble_eq_true rfl⟩ (by omega) hM.1 rfl rfl rfl (Nat.le_of_ble_eq_true rfl) ⟨Nat.zero_le _, Nat.zero_le _⟩ dX7_horses_90 ?_
    exact k_iret C hQ rfl rfl dX7_horses_93 ⟨rfl, rfl⟩
  · skip
    refine k_tableIn C (off := 93) 94 dX7_horses_1 (by decide) (by decide) (by decide) (by decide) ?_
    refine k_aload_n C dX7_horses_94 rfl (j := 0) rfl ?_
    refine k_iload_n C dX7_horses_95 rfl (j := 1) rfl ?_
    refine k_iconst C (v := 0) dX7_horses_96 (by decide) ?_
    refine k_callVir C (As := [.int (nI h), .int 0]) (rest := []) 73 (m_X7_stakes l D cI cC cZ cB cJ ad N G f kp tx fi gr st ty th at0 re nh nb nl (nI h) false (by omega) ⟨hM.1, hM.2.1, hM.2.2.1, hM.2.2.2.1, hM.2.2.2.2.1, hM.2.2.2.2.2⟩ hB ) gX7_horses_X7_stakes rfl kd_X7_stakes rfl rfl ⟨Nat.le_of_ble_eq_true rfl, Nat.le_of_ble_eq_true rfl⟩ (by omega) hM.1 rfl rfl rfl (Nat.le_of_ble_eq_true rfl) ⟨Nat.zero_le _, Nat.zero_le _⟩ dX7_horses_97 ?_
    exact k_iret C hQ rfl rfl dX7_horses_100 ⟨rfl, rfl⟩
  · skip
    refine k_tableIn C (off := 100) 101 dX7_horses_1 (by decide) (by decide) (by decide) (by decide) ?_
    refine k_aload_n C dX7_horses_101 rfl (j := 0) rfl ?_
    refine k_iload_n C dX7_horses_102 rfl (j := 1) rfl ?_
    refine k_iconst C (v := 1) dX7_horses_103 (by decide) ?_
    refine k_callVir C (As := [.int (nI h), .int 1]) (rest := []) 73 (m_X7_stakes l D cI cC cZ cB cJ ad N G f kp tx fi gr st ty th at0 re nh nb nl (nI h) true (by omega) ⟨hM.1, hM.2.1, hM.2.2.1, hM.2.2.2.1, hM.2.2.2.2.1, hM.2.2.2.2.2⟩ hB ) gX7_horses_X7_stakes rfl kd_X7_stakes rfl rfl ⟨Nat.le_of_ble_eq_true rfl, Nat.le_of_ble_eq_true rfl⟩ (by omega) hM.1 rfl rfl rfl (Nat.le_of_ble_eq_true rfl) ⟨Nat.zero_le _, Nat.zero_le _⟩ dX7_horses_104 ?_
    exact k_iret C hQ rfl rfl dX7_horses_107 ⟨rfl, rfl⟩
  · skip
    refine k_tableIn C (off := 107) 108 dX7_horses_1 (by decide) (by decide) (by decide) (by decide) ?_
    refine k_aload_n C dX7_horses_108 rfl (j := 0) rfl ?_
    refine k_get C 73 inX7_horses_7 (by omega) hM.1 rfl 0 (by decide) (List.mem_of_getElem? (i := 1) rfl) rfl rfl dX7_horses_109 ?_
    refine k_bipush C (v := 46) dX7_horses_112 (by decide) ?_
    refine k_iload_n C dX7_horses_114 rfl (j := 1) rfl ?_
    refine k_iadd C dX7_horses_115 ?_
    refine k_ialdN C 74 0 (by omega) hM.2.1 rfl (46 + h) (knAdd rfl rfl) (by omega) (Nat.le_of_ble_eq_true rfl) dX7_horses_116 ?_
    exact k_iret C hQ rfl rfl dX7_horses_117 ⟨rfl, rfl⟩
  · skip
    refine k_tableOut C 118 dX7_horses_1 (by decide) (by decide) ?_
    refine k_aload_n C dX7_horses_118 rfl (j := 0) rfl ?_
    refine k_get C 73 inX7_horses_7 (by omega) hM.1 rfl 0 (by decide) (List.mem_of_getElem? (i := 1) rfl) rfl rfl dX7_horses_119 ?_
    refine k_bipush C (v := 56) dX7_horses_122 (by decide) ?_
    refine k_iload_n C dX7_horses_124 rfl (j := 1) rfl ?_
    refine k_iadd C dX7_horses_125 ?_
    refine k_ialdN C 74 0 (by omega) hM.2.1 rfl (56 + h) (knAdd rfl rfl) (by omega) (Nat.le_of_ble_eq_true rfl) dX7_horses_126 ?_
    exact k_iret C hQ rfl rfl dX7_horses_127 ⟨rfl, rfl⟩
theorem inX7_stakedAll_7 : ∀ w ∈ wsX70, w ∈ wsX7_stakedAll := fun _ h => List.mem_cons_of_mem _ (List.mem_append_right _ h)
theorem kd_X7_stakedAll : yX7_stakedAll.cls = RX7 ∧ yX7_stakedAll.cls ≠ "java/lang/invoke/MethodHandle" ∧ yX7_stakedAll.cls ≠ "java/lang/invoke/VarHandle" ∧ (parseMethodDescriptor yX7_stakedAll.desc).map (fun d => d.parameters.length) = some 1 := by decide +kernel
abbrev rX7_stakedAll : Room := ({ frames := 2, cells := 0, slots := 0, locals := 42 } : Room)
set_option maxRecDepth 100000 in
set_option maxHeartbeats 4000000 in
/-- model: stakedAll -/
theorem m_X7_stakedAll (l : Launch) (D : va_G) (cI cC cZ cB cJ : ClassId) (ad : Nat → Nat) (N : Nat) (G : Nat → va_E) (f kp tx fi gr : Nat → Int32) (st ty : Nat) (th at0 re : Int32) (nh nb nl : Nat) (q : Bool) (hN : 79 ≤ N) (hM : isMo ad cI cC cZ G f kp tx fi gr st ty th at0 re) (hB : f 1 = nI nb ∧ nb ≤ 24) (hL : f 2 = nI nl ∧ nl ≤ 6) : kMi l yX7_stakedAll wsX7_stakedAll rX7_stakedAll D (kT5 cI cC cZ cB cJ) ad N G [.ref (ad 73), .int (bI q)] (fun r G' => r = (if q = true then mAllO f nl else mAll f nb) ∧ G' = G) := by
  refine k_starti (cc := cX7_stakedAll) (ret := (some .int)) (maxL := 4) (lv0 := [(0, .ref (ad 73)), (1, .int (bI q))]) (by decide) rfl (Nat.le_of_ble_eq_true rfl) rfl ?_
  intro p e s m args below meth c A Q C hQ
  have hn1 := hB.2
  have hn2 := hL.2
  cases q with
  | true =>
    refine k_iconst C (v := 0) dX7_stakedAll_0 (by decide) ?_
    refine k_istore_n C (lv' := [(2, .int 0), (0, .ref (ad 73)), (1, .int 1)]) dX7_stakedAll_1 rfl (by decide) rfl ?_
    refine k_iconst C (v := 0) dX7_stakedAll_2 (by decide) ?_
    refine k_istore_n C (lv' := [(3, .int 0), (2, .int 0), (0, .ref (ad 73)), (1, .int 1)]) dX7_stakedAll_3 rfl (by decide) rfl ?_
    have loop4 : ∀ (k : Nat) (i : Nat) , (nl + 1 ≤ i + k) → (i ≤ nl) → kJ p l e rX7_stakedAll s m args below meth c 0 0 Q 4 D ad N A G 4 [(0, .ref (ad 73)), (1, .int 1), (2, .int (mAllO f i)), (3, .int (nI i))] [] := by
      intro k
      induction k with
      | zero => intro i  h1 h2; exact absurd h1 (by omega)
      | succ k ih4 =>
        intro i  h1 h2
        refine k_iload_n C dX7_stakedAll_4 rfl (j := 3) rfl ?_
        refine k_iload_n C dX7_stakedAll_5 rfl (j := 1) rfl ?_
        refine k_if_eq C 18 dX7_stakedAll_6 (by decide) (fun q => absurd q (by decide)) (fun _ => ?_)
        refine k_aload_n C dX7_stakedAll_9 rfl (j := 0) rfl ?_
        refine k_get C 73 inX7_stakedAll_7 (by omega) hM.1 rfl 0 (by decide) (List.mem_of_getElem? (i := 1) rfl) rfl rfl dX7_stakedAll_10 ?_
        refine k_iconst C (v := 2) dX7_stakedAll_13 (by decide) ?_
        refine k_ialdN C 74 0 (by omega) hM.2.1 rfl 2 rfl (by omega) (Nat.le_of_ble_eq_true rfl) dX7_stakedAll_14 ?_
        refine k_goto C 24 dX7_stakedAll_15 (by decide) ?_
        refine k_icmp_ge C 58 dX7_stakedAll_24 (by decide) (fun c_24 => ?_) (fun c_24 => ?_)
        · skip
          rw [hL.1] at c_24
          have hi2 : i = nl := k_ge c_24 (by omega) h2
          rw [hi2]
          refine k_iload_n C dX7_stakedAll_58 rfl (j := 2) rfl ?_
          exact k_iret C hQ rfl rfl dX7_stakedAll_59 ⟨rfl, rfl⟩
        · skip
          rw [hL.1] at c_24
          have hi3 : i < nl := k_lt c_24 (by omega) h2
          refine k_iload_n C dX7_stakedAll_27 rfl (j := 2) rfl ?_
          refine k_iload_n C dX7_stakedAll_28 rfl (j := 1) rfl ?_
          refine k_if_eq C 45 dX7_stakedAll_29 (by decide) (fun q => absurd q (by decide)) (fun _ => ?_)
          refine k_aload_n C dX7_stakedAll_32 rfl (j := 0) rfl ?_
          refine k_get C 73 inX7_stakedAll_7 (by omega) hM.1 rfl 0 (by decide) (List.mem_of_getElem? (i := 1) rfl) rfl rfl dX7_stakedAll_33 ?_
          refine k_iload_n C dX7_stakedAll_36 rfl (j := 3) rfl ?_
          refine k_iconst C (v := 1) dX7_stakedAll_37 (by decide) ?_
          refine k_callSir C (As := [.int (nI i), .int 1]) (rest := [.ref (ad 74), .int (mAllO f i)]) (m_X7_off l D cI cC cZ cB cJ ad N G (nI i) 1) gX7_stakedAll_X7_off rfl kd_X7_off rfl rfl ⟨Nat.le_of_ble_eq_true rfl, Nat.le_of_ble_eq_true rfl⟩ rfl rfl (Nat.le_of_ble_eq_true rfl) ⟨Nat.zero_le _, Nat.zero_le _⟩ dX7_stakedAll_38 ?_
          refine k_ialdN C 74 0 (by omega) hM.2.1 rfl ((258 + (5 * i)) + 1) (knAdd (knAdd rfl (knMul rfl rfl)) rfl) (by omega) (Nat.le_of_ble_eq_true rfl) dX7_stakedAll_41 ?_
          refine k_goto C 50 dX7_stakedAll_42 (by decide) ?_
          refine k_iadd C dX7_stakedAll_50 ?_
          refine k_istore_n C (lv' := [(2, .int ((mAllO f i) + (f ((258 + (5 * i)) + 1)))), (0, .ref (ad 73)), (1, .int 1), (3, .int (nI i))]) dX7_stakedAll_51 rfl (by decide) rfl ?_
          refine k_iinc C (v := nI (i + 1)) (lv' := [(3, .int (nI (i + 1))), (2, .int ((mAllO f i) + (f ((258 + (5 * i)) + 1)))), (0, .ref (ad 73)), (1, .int 1)]) dX7_stakedAll_52 (j := 3) rfl (nI_1 i) (by decide) rfl ?_
          refine k_goto C 4 dX7_stakedAll_55 (by decide) ?_
          exact k_sub [2, 3, 1, 0] rfl (ih4 (i + 1) (by omega) (by omega))
    exact k_sub [2, 3, 1, 0] rfl (loop4 (nl + 1) 0 (by omega) (Nat.zero_le _))
  | false =>
    refine k_iconst C (v := 0) dX7_stakedAll_0 (by decide) ?_
    refine k_istore_n C (lv' := [(2, .int 0), (0, .ref (ad 73)), (1, .int 0)]) dX7_stakedAll_1 rfl (by decide) rfl ?_
    refine k_iconst C (v := 0) dX7_stakedAll_2 (by decide) ?_
    refine k_istore_n C (lv' := [(3, .int 0), (2, .int 0), (0, .ref (ad 73)), (1, .int 0)]) dX7_stakedAll_3 rfl (by decide) rfl ?_
    have loop4 : ∀ (k : Nat) (i : Nat) , (nb + 1 ≤ i + k) → (i ≤ nb) → kJ p l e rX7_stakedAll s m args below meth c 0 0 Q 4 D ad N A G 4 [(0, .ref (ad 73)), (1, .int 0), (2, .int (mAll f i)), (3, .int (nI i))] [] := by
      intro k
      induction k with
      | zero => intro i  h1 h2; exact absurd h1 (by omega)
      | succ k ih4 =>
        intro i  h1 h2
        refine k_iload_n C dX7_stakedAll_4 rfl (j := 3) rfl ?_
        refine k_iload_n C dX7_stakedAll_5 rfl (j := 1) rfl ?_
        refine k_if_eq C 18 dX7_stakedAll_6 (by decide) (fun _ => ?_) (fun q => absurd q (by decide))
        refine k_aload_n C dX7_stakedAll_18 rfl (j := 0) rfl ?_
        refine k_get C 73 inX7_stakedAll_7 (by omega) hM.1 rfl 0 (by decide) (List.mem_of_getElem? (i := 1) rfl) rfl rfl dX7_stakedAll_19 ?_
        refine k_iconst C (v := 1) dX7_stakedAll_22 (by decide) ?_
        refine k_ialdN C 74 0 (by omega) hM.2.1 rfl 1 rfl (by omega) (Nat.le_of_ble_eq_true rfl) dX7_stakedAll_23 ?_
        refine k_icmp_ge C 58 dX7_stakedAll_24 (by decide) (fun c_24 => ?_) (fun c_24 => ?_)
        · skip
          rw [hB.1] at c_24
          have hi2 : i = nb := k_ge c_24 (by omega) h2
          rw [hi2]
          refine k_iload_n C dX7_stakedAll_58 rfl (j := 2) rfl ?_
          exact k_iret C hQ rfl rfl dX7_stakedAll_59 ⟨rfl, rfl⟩
        · skip
          rw [hB.1] at c_24
          have hi3 : i < nb := k_lt c_24 (by omega) h2
          refine k_iload_n C dX7_stakedAll_27 rfl (j := 2) rfl ?_
          refine k_iload_n C dX7_stakedAll_28 rfl (j := 1) rfl ?_
          refine k_if_eq C 45 dX7_stakedAll_29 (by decide) (fun _ => ?_) (fun q => absurd q (by decide))
          refine k_aload_n C dX7_stakedAll_45 rfl (j := 0) rfl ?_
          refine k_iload_n C dX7_stakedAll_46 rfl (j := 3) rfl ?_
          refine k_callVir C (As := [.int (nI i)]) (rest := [.int (mAll f i)]) 73 (m_X7_staked l D cI cC cZ cB cJ ad N G f kp tx fi gr st ty th at0 re nh nb nl i (by omega) ⟨hM.1, hM.2.1, hM.2.2.1, hM.2.2.2.1, hM.2.2.2.2.1, hM.2.2.2.2.2⟩ (by omega)) gX7_stakedAll_X7_staked rfl kd_X7_staked rfl rfl ⟨Nat.le_of_ble_eq_true rfl, Nat.le_of_ble_eq_true rfl⟩ (by omega) hM.1 rfl rfl rfl (Nat.le_of_ble_eq_true rfl) ⟨Nat.zero_le _, Nat.zero_le _⟩ dX7_stakedAll_47 ?_
          refine k_iadd C dX7_stakedAll_50 ?_
          refine k_istore_n C (lv' := [(2, .int ((mAll f i) + (mStaked f i))), (0, .ref (ad 73)), (1, .int 0), (3, .int (nI i))]) dX7_stakedAll_51 rfl (by decide) rfl ?_
          refine k_iinc C (v := nI (i + 1)) (lv' := [(3, .int (nI (i + 1))), (2, .int ((mAll f i) + (mStaked f i))), (0, .ref (ad 73)), (1, .int 0)]) dX7_stakedAll_52 (j := 3) rfl (nI_1 i) (by decide) rfl ?_
          refine k_goto C 4 dX7_stakedAll_55 (by decide) ?_
          exact k_sub [2, 3, 1, 0] rfl (ih4 (i + 1) (by omega) (by omega))
    exact k_sub [2, 3, 1, 0] rfl (loop4 (nb + 1) 0 (by omega) (Nat.zero_le _))
theorem inX7_round_7 : ∀ w ∈ wsX70, w ∈ wsX7_round := fun _ h => List.mem_cons_of_mem _ (List.mem_append_right _ h)
theorem kd_X7_round : yX7_round.cls = RX7 ∧ yX7_round.cls ≠ "java/lang/invoke/MethodHandle" ∧ yX7_round.cls ≠ "java/lang/invoke/VarHandle" ∧ (parseMethodDescriptor yX7_round.desc).map (fun d => d.parameters.length) = some 0 := by decide +kernel
abbrev rX7_round : Room := ({ frames := 0, cells := 0, slots := 0, locals := 0 } : Room)
set_option maxRecDepth 100000 in
set_option maxHeartbeats 4000000 in
/-- model: round -/
theorem m_X7_round (l : Launch) (D : va_G) (cI cC cZ cB cJ : ClassId) (ad : Nat → Nat) (N : Nat) (G : Nat → va_E) (f kp tx fi gr : Nat → Int32) (st ty : Nat) (th at0 re : Int32) (nh nb nl : Nat) (hN : 79 ≤ N) (hM : isMo ad cI cC cZ G f kp tx fi gr st ty th at0 re) (hH : f 0 = nI nh ∧ nh ≤ 10) (hP0 : ∀ h, h < nh → ¬ f (6 + h) + f (16 + h) = 0 ∧ ¬ f (16 + h) = 0) : kMi l yX7_round wsX7_round rX7_round D (kT5 cI cC cZ cB cJ) ad N G [.ref (ad 73)] (fun r G' => r = mRound f nh ∧ G' = G) := by
  refine k_starti (cc := cX7_round) (ret := (some .int)) (maxL := 3) (lv0 := [(0, .ref (ad 73))]) (by decide) rfl (Nat.le_of_ble_eq_true rfl) rfl ?_
  intro p e s m args below meth c A Q C hQ
  have hn := hH.2
  refine k_iconst C (v := 0) dX7_round_0 (by decide) ?_
  refine k_istore_n C (lv' := [(1, .int 0), (0, .ref (ad 73))]) dX7_round_1 rfl (by decide) rfl ?_
  refine k_iconst C (v := 0) dX7_round_2 (by decide) ?_
  refine k_istore_n C (lv' := [(2, .int 0), (1, .int 0), (0, .ref (ad 73))]) dX7_round_3 rfl (by decide) rfl ?_
  have loop4 : ∀ (k : Nat) (i : Nat) , (nh + 1 ≤ i + k) → (i ≤ nh) → kJ p l e rX7_round s m args below meth c 0 0 Q 3 D ad N A G 4 [(0, .ref (ad 73)), (1, .int (mRound f i)), (2, .int (nI i))] [] := by
    intro k
    induction k with
    | zero => intro i  h1 h2; exact absurd h1 (by omega)
    | succ k ih4 =>
      intro i  h1 h2
      refine k_iload_n C dX7_round_4 rfl (j := 2) rfl ?_
      refine k_aload_n C dX7_round_5 rfl (j := 0) rfl ?_
      refine k_get C 73 inX7_round_7 (by omega) hM.1 rfl 0 (by decide) (List.mem_of_getElem? (i := 1) rfl) rfl rfl dX7_round_6 ?_
      refine k_iconst C (v := 0) dX7_round_9 (by decide) ?_
      refine k_ialdN C 74 0 (by omega) hM.2.1 rfl 0 rfl (by omega) (Nat.le_of_ble_eq_true rfl) dX7_round_10 ?_
      refine k_icmp_ge C 73 dX7_round_11 (by decide) (fun c_11 => ?_) (fun c_11 => ?_)
      · skip
        rw [hH.1] at c_11
        have hi2 : i = nh := k_ge c_11 (by omega) h2
        rw [hi2]
        refine k_iload_n C dX7_round_73 rfl (j := 1) rfl ?_
        exact k_iret C hQ rfl rfl dX7_round_74 ⟨rfl, rfl⟩
      · skip
        rw [hH.1] at c_11
        have hi3 : i < nh := k_lt c_11 (by omega) h2
        refine k_iload_n C dX7_round_14 rfl (j := 1) rfl ?_
        refine k_aload_n C dX7_round_15 rfl (j := 0) rfl ?_
        refine k_get C 73 inX7_round_7 (by omega) hM.1 rfl 0 (by decide) (List.mem_of_getElem? (i := 1) rfl) rfl rfl dX7_round_16 ?_
        refine k_bipush C (v := 26) dX7_round_19 (by decide) ?_
        refine k_iload_n C dX7_round_21 rfl (j := 2) rfl ?_
        refine k_iadd C dX7_round_22 ?_
        refine k_ialdN C 74 0 (by omega) hM.2.1 rfl (26 + i) (knAdd rfl rfl) (by omega) (Nat.le_of_ble_eq_true rfl) dX7_round_23 ?_
        refine k_iconst C (v := 1) dX7_round_24 (by decide) ?_
        refine k_icmp_ne C 64 dX7_round_25 (by decide) (fun c_25 => ?_) (fun c_25 => ?_)
        · skip
          refine k_iconst C (v := 0) dX7_round_64 (by decide) ?_
          refine k_iadd C dX7_round_65 ?_
          refine k_istore_n C (lv' := [(1, .int ((mRound f i) + 0)), (0, .ref (ad 73)), (2, .int (nI i))]) dX7_round_66 rfl (by decide) rfl ?_
          refine k_cong (lv' := [(1, .int (mRound f (i + 1))), (0, .ref (ad 73)), (2, .int (nI i))]) (by rw [show ((mRound f i) + 0) = mRound f (i + 1) from by rw [mRound, if_neg c_25]]) ?_
          refine k_iinc C (v := nI (i + 1)) (lv' := [(2, .int (nI (i + 1))), (1, .int (mRound f (i + 1))), (0, .ref (ad 73))]) dX7_round_67 (j := 2) rfl (nI_1 i) (by decide) rfl ?_
          refine k_goto C 4 dX7_round_70 (by decide) ?_
          exact k_sub [2, 1, 0] rfl (ih4 (i + 1) (by omega) (by omega))
        · skip
          refine k_sipush C (v := 1000) dX7_round_28 (by decide) ?_
          refine k_aload_n C dX7_round_31 rfl (j := 0) rfl ?_
          refine k_get C 73 inX7_round_7 (by omega) hM.1 rfl 0 (by decide) (List.mem_of_getElem? (i := 1) rfl) rfl rfl dX7_round_32 ?_
          refine k_bipush C (v := 16) dX7_round_35 (by decide) ?_
          refine k_iload_n C dX7_round_37 rfl (j := 2) rfl ?_
          refine k_iadd C dX7_round_38 ?_
          refine k_ialdN C 74 0 (by omega) hM.2.1 rfl (16 + i) (knAdd rfl rfl) (by omega) (Nat.le_of_ble_eq_true rfl) dX7_round_39 ?_
          refine k_imul C dX7_round_40 ?_
          refine k_aload_n C dX7_round_41 rfl (j := 0) rfl ?_
          refine k_get C 73 inX7_round_7 (by omega) hM.1 rfl 0 (by decide) (List.mem_of_getElem? (i := 1) rfl) rfl rfl dX7_round_42 ?_
          refine k_bipush C (v := 6) dX7_round_45 (by decide) ?_
          refine k_iload_n C dX7_round_47 rfl (j := 2) rfl ?_
          refine k_iadd C dX7_round_48 ?_
          refine k_ialdN C 74 0 (by omega) hM.2.1 rfl (6 + i) (knAdd rfl rfl) (by omega) (Nat.le_of_ble_eq_true rfl) dX7_round_49 ?_
          refine k_aload_n C dX7_round_50 rfl (j := 0) rfl ?_
          refine k_get C 73 inX7_round_7 (by omega) hM.1 rfl 0 (by decide) (List.mem_of_getElem? (i := 1) rfl) rfl rfl dX7_round_51 ?_
          refine k_bipush C (v := 16) dX7_round_54 (by decide) ?_
          refine k_iload_n C dX7_round_56 rfl (j := 2) rfl ?_
          refine k_iadd C dX7_round_57 ?_
          refine k_ialdN C 74 0 (by omega) hM.2.1 rfl (16 + i) (knAdd rfl rfl) (by omega) (Nat.le_of_ble_eq_true rfl) dX7_round_58 ?_
          refine k_iadd C dX7_round_59 ?_
          refine k_idiv C dX7_round_60 (hP0 i hi3).1 ?_
          refine k_goto C 65 dX7_round_61 (by decide) ?_
          refine k_iadd C dX7_round_65 ?_
          refine k_istore_n C (lv' := [(1, .int ((mRound f i) + ((1000 * (f (16 + i))) / ((f (6 + i)) + (f (16 + i)))))), (0, .ref (ad 73)), (2, .int (nI i))]) dX7_round_66 rfl (by decide) rfl ?_
          refine k_cong (lv' := [(1, .int (mRound f (i + 1))), (0, .ref (ad 73)), (2, .int (nI i))]) (by rw [show ((mRound f i) + ((1000 * (f (16 + i))) / ((f (6 + i)) + (f (16 + i))))) = mRound f (i + 1) from by rw [mRound, if_pos c_25]]) ?_
          refine k_iinc C (v := nI (i + 1)) (lv' := [(2, .int (nI (i + 1))), (1, .int (mRound f (i + 1))), (0, .ref (ad 73))]) dX7_round_67 (j := 2) rfl (nI_1 i) (by decide) rfl ?_
          refine k_goto C 4 dX7_round_70 (by decide) ?_
          exact k_sub [2, 1, 0] rfl (ih4 (i + 1) (by omega) (by omega))
  exact k_sub [2, 1, 0] rfl (loop4 (nh + 1) 0 (by omega) (Nat.zero_le _))
theorem inX7_lost_7 : ∀ w ∈ wsX70, w ∈ wsX7_lost := fun _ h => List.mem_cons_of_mem _ (List.mem_append_right _ h)
theorem kd_X7_lost : yX7_lost.cls = RX7 ∧ yX7_lost.cls ≠ "java/lang/invoke/MethodHandle" ∧ yX7_lost.cls ≠ "java/lang/invoke/VarHandle" ∧ (parseMethodDescriptor yX7_lost.desc).map (fun d => d.parameters.length) = some 0 := by decide +kernel
abbrev rX7_lost : Room := ({ frames := 2, cells := 0, slots := 0, locals := 42 } : Room)
set_option maxRecDepth 100000 in
set_option maxHeartbeats 4000000 in
/-- model: lost -/
theorem m_X7_lost (l : Launch) (D : va_G) (cI cC cZ cB cJ : ClassId) (ad : Nat → Nat) (N : Nat) (G : Nat → va_E) (f kp tx fi gr : Nat → Int32) (st ty : Nat) (th at0 re : Int32) (nh nb nl : Nat) (hN : 79 ≤ N) (hM : isMo ad cI cC cZ G f kp tx fi gr st ty th at0 re) (hB : f 1 = nI nb ∧ nb ≤ 24) (hL : f 2 = nI nl ∧ nl ≤ 6) : kMi l yX7_lost wsX7_lost rX7_lost D (kT5 cI cC cZ cB cJ) ad N G [.ref (ad 73)] (fun r G' => r = mL2 f nb nl ∧ G' = G) := by
  refine k_starti (cc := cX7_lost) (ret := (some .int)) (maxL := 3) (lv0 := [(0, .ref (ad 73))]) (by decide) rfl (Nat.le_of_ble_eq_true rfl) rfl ?_
  intro p e s m args below meth c A Q C hQ
  have hn1 := hB.2
  have hn2 := hL.2
  refine k_iconst C (v := 0) dX7_lost_0 (by decide) ?_
  refine k_istore_n C (lv' := [(1, .int 0), (0, .ref (ad 73))]) dX7_lost_1 rfl (by decide) rfl ?_
  refine k_iconst C (v := 0) dX7_lost_2 (by decide) ?_
  refine k_istore_n C (lv' := [(2, .int 0), (1, .int 0), (0, .ref (ad 73))]) dX7_lost_3 rfl (by decide) rfl ?_
  have loop4 : ∀ (k : Nat) (i : Nat) , (nb + 1 ≤ i + k) → (i ≤ nb) → kJ p l e rX7_lost s m args below meth c 0 0 Q 3 D ad N A G 4 [(0, .ref (ad 73)), (1, .int (mL1 f i)), (2, .int (nI i))] [] := by
    intro k
    induction k with
    | zero => intro i  h1 h2; exact absurd h1 (by omega)
    | succ k ih4 =>
      intro i  h1 h2
      refine k_iload_n C dX7_lost_4 rfl (j := 2) rfl ?_
      refine k_aload_n C dX7_lost_5 rfl (j := 0) rfl ?_
      refine k_get C 73 inX7_lost_7 (by omega) hM.1 rfl 0 (by decide) (List.mem_of_getElem? (i := 1) rfl) rfl rfl dX7_lost_6 ?_
      refine k_iconst C (v := 1) dX7_lost_9 (by decide) ?_
      refine k_ialdN C 74 0 (by omega) hM.2.1 rfl 1 rfl (by omega) (Nat.le_of_ble_eq_true rfl) dX7_lost_10 ?_
      refine k_icmp_ge C 40 dX7_lost_11 (by decide) (fun c_11 => ?_) (fun c_11 => ?_)
      · skip
        rw [hB.1] at c_11
        have hi2 : i = nb := k_ge c_11 (by omega) h2
        rw [hi2]
        refine k_iconst C (v := 0) dX7_lost_40 (by decide) ?_
        refine k_istore_n C (lv' := [(2, .int 0), (0, .ref (ad 73)), (1, .int (mL1 f nb))]) dX7_lost_41 rfl (by decide) rfl ?_
        have loop42 : ∀ (k : Nat) (i : Nat) , (nl + 1 ≤ i + k) → (i ≤ nl) → kJ p l e rX7_lost s m args below meth c 0 0 Q 3 D ad N A G 42 [(0, .ref (ad 73)), (1, .int (mL2 f nb i)), (2, .int (nI i))] [] := by
          intro k
          induction k with
          | zero => intro i  h1 h2; exact absurd h1 (by omega)
          | succ k ih42 =>
            intro i  h1 h2
            refine k_iload_n C dX7_lost_42 rfl (j := 2) rfl ?_
            refine k_aload_n C dX7_lost_43 rfl (j := 0) rfl ?_
            refine k_get C 73 inX7_lost_7 (by omega) hM.1 rfl 0 (by decide) (List.mem_of_getElem? (i := 1) rfl) rfl rfl dX7_lost_44 ?_
            refine k_iconst C (v := 2) dX7_lost_47 (by decide) ?_
            refine k_ialdN C 74 0 (by omega) hM.2.1 rfl 2 rfl (by omega) (Nat.le_of_ble_eq_true rfl) dX7_lost_48 ?_
            refine k_icmp_ge C 82 dX7_lost_49 (by decide) (fun c_49 => ?_) (fun c_49 => ?_)
            · skip
              rw [hL.1] at c_49
              have hi2 : i = nl := k_ge c_49 (by omega) h2
              rw [hi2]
              refine k_iload_n C dX7_lost_82 rfl (j := 1) rfl ?_
              exact k_iret C hQ rfl rfl dX7_lost_83 ⟨rfl, rfl⟩
            · skip
              rw [hL.1] at c_49
              have hi3 : i < nl := k_lt c_49 (by omega) h2
              refine k_iload_n C dX7_lost_52 rfl (j := 1) rfl ?_
              refine k_aload_n C dX7_lost_53 rfl (j := 0) rfl ?_
              refine k_get C 73 inX7_lost_7 (by omega) hM.1 rfl 0 (by decide) (List.mem_of_getElem? (i := 1) rfl) rfl rfl dX7_lost_54 ?_
              refine k_iload_n C dX7_lost_57 rfl (j := 2) rfl ?_
              refine k_iconst C (v := 1) dX7_lost_58 (by decide) ?_
              refine k_callSir C (As := [.int (nI i), .int 1]) (rest := [.ref (ad 74), .int (mL2 f nb i)]) (m_X7_off l D cI cC cZ cB cJ ad N G (nI i) 1) gX7_lost_X7_off rfl kd_X7_off rfl rfl ⟨Nat.le_of_ble_eq_true rfl, Nat.le_of_ble_eq_true rfl⟩ rfl rfl (Nat.le_of_ble_eq_true rfl) ⟨Nat.zero_le _, Nat.zero_le _⟩ dX7_lost_59 ?_
              refine k_ialdN C 74 0 (by omega) hM.2.1 rfl ((258 + (5 * i)) + 1) (knAdd (knAdd rfl (knMul rfl rfl)) rfl) (by omega) (Nat.le_of_ble_eq_true rfl) dX7_lost_62 ?_
              refine k_aload_n C dX7_lost_63 rfl (j := 0) rfl ?_
              refine k_get C 73 inX7_lost_7 (by omega) hM.1 rfl 0 (by decide) (List.mem_of_getElem? (i := 1) rfl) rfl rfl dX7_lost_64 ?_
              refine k_iload_n C dX7_lost_67 rfl (j := 2) rfl ?_
              refine k_iconst C (v := 4) dX7_lost_68 (by decide) ?_
              refine k_callSir C (As := [.int (nI i), .int 4]) (rest := [.ref (ad 74), .int (f ((258 + (5 * i)) + 1)), .int (mL2 f nb i)]) (m_X7_off l D cI cC cZ cB cJ ad N G (nI i) 4) gX7_lost_X7_off rfl kd_X7_off rfl rfl ⟨Nat.le_of_ble_eq_true rfl, Nat.le_of_ble_eq_true rfl⟩ rfl rfl (Nat.le_of_ble_eq_true rfl) ⟨Nat.zero_le _, Nat.zero_le _⟩ dX7_lost_69 ?_
              refine k_ialdN C 74 0 (by omega) hM.2.1 rfl ((258 + (5 * i)) + 4) (knAdd (knAdd rfl (knMul rfl rfl)) rfl) (by omega) (Nat.le_of_ble_eq_true rfl) dX7_lost_72 ?_
              refine k_isub C dX7_lost_73 ?_
              refine k_isub C dX7_lost_74 ?_
              refine k_istore_n C (lv' := [(1, .int ((mL2 f nb i) - ((f ((258 + (5 * i)) + 1)) - (f ((258 + (5 * i)) + 4))))), (0, .ref (ad 73)), (2, .int (nI i))]) dX7_lost_75 rfl (by decide) rfl ?_
              refine k_iinc C (v := nI (i + 1)) (lv' := [(2, .int (nI (i + 1))), (1, .int ((mL2 f nb i) - ((f ((258 + (5 * i)) + 1)) - (f ((258 + (5 * i)) + 4))))), (0, .ref (ad 73))]) dX7_lost_76 (j := 2) rfl (nI_1 i) (by decide) rfl ?_
              refine k_goto C 42 dX7_lost_79 (by decide) ?_
              exact k_sub [2, 1, 0] rfl (ih42 (i + 1) (by omega) (by omega))
        exact k_sub [1, 2, 0] rfl (loop42 (nl + 1) 0 (by omega) (Nat.zero_le _))
      · skip
        rw [hB.1] at c_11
        have hi3 : i < nb := k_lt c_11 (by omega) h2
        refine k_iload_n C dX7_lost_14 rfl (j := 1) rfl ?_
        refine k_aload_n C dX7_lost_15 rfl (j := 0) rfl ?_
        refine k_iload_n C dX7_lost_16 rfl (j := 2) rfl ?_
        refine k_callVir C (As := [.int (nI i)]) (rest := [.int (mL1 f i)]) 73 (m_X7_staked l D cI cC cZ cB cJ ad N G f kp tx fi gr st ty th at0 re nh nb nl i (by omega) ⟨hM.1, hM.2.1, hM.2.2.1, hM.2.2.2.1, hM.2.2.2.2.1, hM.2.2.2.2.2⟩ (by omega)) gX7_lost_X7_staked rfl kd_X7_staked rfl rfl ⟨Nat.le_of_ble_eq_true rfl, Nat.le_of_ble_eq_true rfl⟩ (by omega) hM.1 rfl rfl rfl (Nat.le_of_ble_eq_true rfl) ⟨Nat.zero_le _, Nat.zero_le _⟩ dX7_lost_17 ?_
        refine k_aload_n C dX7_lost_20 rfl (j := 0) rfl ?_
        refine k_get C 73 inX7_lost_7 (by omega) hM.1 rfl 0 (by decide) (List.mem_of_getElem? (i := 1) rfl) rfl rfl dX7_lost_21 ?_
        refine k_iload_n C dX7_lost_24 rfl (j := 2) rfl ?_
        refine k_bipush C (v := 6) dX7_lost_25 (by decide) ?_
        refine k_callSir C (As := [.int (nI i), .int 6]) (rest := [.ref (ad 74), .int (mStaked f i), .int (mL1 f i)]) (m_X7_of l D cI cC cZ cB cJ ad N G (nI i) 6) gX7_lost_X7_of rfl kd_X7_of rfl rfl ⟨Nat.le_of_ble_eq_true rfl, Nat.le_of_ble_eq_true rfl⟩ rfl rfl (Nat.le_of_ble_eq_true rfl) ⟨Nat.zero_le _, Nat.zero_le _⟩ dX7_lost_27 ?_
        refine k_ialdN C 74 0 (by omega) hM.2.1 rfl ((66 + (8 * i)) + 6) (knAdd (knAdd rfl (knMul rfl rfl)) rfl) (by omega) (Nat.le_of_ble_eq_true rfl) dX7_lost_30 ?_
        refine k_isub C dX7_lost_31 ?_
        refine k_iadd C dX7_lost_32 ?_
        refine k_istore_n C (lv' := [(1, .int ((mL1 f i) + ((mStaked f i) - (f ((66 + (8 * i)) + 6))))), (0, .ref (ad 73)), (2, .int (nI i))]) dX7_lost_33 rfl (by decide) rfl ?_
        refine k_iinc C (v := nI (i + 1)) (lv' := [(2, .int (nI (i + 1))), (1, .int ((mL1 f i) + ((mStaked f i) - (f ((66 + (8 * i)) + 6))))), (0, .ref (ad 73))]) dX7_lost_34 (j := 2) rfl (nI_1 i) (by decide) rfl ?_
        refine k_goto C 4 dX7_lost_37 (by decide) ?_
        exact k_sub [2, 1, 0] rfl (ih4 (i + 1) (by omega) (by omega))
  exact k_sub [2, 1, 0] rfl (loop4 (nb + 1) 0 (by omega) (Nat.zero_le _))
theorem inX7_counted_7 : ∀ w ∈ wsX70, w ∈ wsX7_counted := fun _ h => List.mem_cons_of_mem _ (List.mem_append_right _ h)
theorem kd_X7_counted : yX7_counted.cls = RX7 ∧ yX7_counted.cls ≠ "java/lang/invoke/MethodHandle" ∧ yX7_counted.cls ≠ "java/lang/invoke/VarHandle" ∧ (parseMethodDescriptor yX7_counted.desc).map (fun d => d.parameters.length) = some 1 := by decide +kernel
abbrev rX7_counted : Room := ({ frames := 3, cells := 0, slots := 0, locals := 65 } : Room)
set_option maxRecDepth 100000 in
set_option maxHeartbeats 4000000 in
/-- model: counted -/
theorem m_X7_counted (l : Launch) (D : va_G) (cI cC cZ cB cJ : ClassId) (ad : Nat → Nat) (N : Nat) (G : Nat → va_E) (f kp tx fi gr : Nat → Int32) (st ty : Nat) (th at0 re : Int32) (nh nb nl : Nat) (k0 : Nat) (hN : 79 ≤ N) (hM : isMo ad cI cC cZ G f kp tx fi gr st ty th at0 re) (hH : f 0 = nI nh ∧ nh ≤ 10) (hB : f 1 = nI nb ∧ nb ≤ 24) (hL : f 2 = nI nl ∧ nl ≤ 6) (hP0 : ∀ h, h < nh → ¬ f (6 + h) + f (16 + h) = 0 ∧ ¬ f (16 + h) = 0) (hk : k0 < 14) : kMi l yX7_counted wsX7_counted rX7_counted D (kT5 cI cC cZ cB cJ) ad N G [.ref (ad 73), .int (nI k0)] (fun r G' => r = mCount f st nh nb nl k0 ∧ G' = G) := by
  refine k_starti (cc := cX7_counted) (ret := (some .int)) (maxL := 2) (lv0 := [(0, .ref (ad 73)), (1, .int (nI k0))]) (by decide) rfl (Nat.le_of_ble_eq_true rfl) rfl ?_
  intro p e s m args below meth c A Q C hQ
  refine k_iload_n C dX7_counted_0 rfl (j := 1) rfl ?_
  rcases (show k0 = 0 ∨ k0 = 1 ∨ k0 = 2 ∨ k0 = 3 ∨ k0 = 4 ∨ k0 = 5 ∨ k0 = 6 ∨ k0 = 7 ∨ k0 = 8 ∨ k0 = 9 ∨ k0 = 10 ∨ k0 = 11 ∨ k0 = 12 ∨ k0 = 13 by omega) with rfl | rfl | rfl | rfl | rfl | rfl | rfl | rfl | rfl | rfl | rfl | rfl | rfl | rfl
  · skip
    refine k_tableIn C (off := 67) 68 dX7_counted_1 (by decide) (by decide) (by decide) (by decide) ?_
    refine k_aload_n C dX7_counted_68 rfl (j := 0) rfl ?_
    refine k_get C 73 inX7_counted_7 (by omega) hM.1 rfl 0 (by decide) (List.mem_of_getElem? (i := 1) rfl) rfl rfl dX7_counted_69 ?_
    refine k_iconst C (v := 0) dX7_counted_72 (by decide) ?_
    refine k_ialdN C 74 0 (by omega) hM.2.1 rfl 0 rfl (by omega) (Nat.le_of_ble_eq_true rfl) dX7_counted_73 ?_
    exact k_iret C hQ rfl rfl dX7_counted_74 ⟨rfl, rfl⟩
  · skip
    refine k_tableIn C (off := 74) 75 dX7_counted_1 (by decide) (by decide) (by decide) (by decide) ?_
    refine k_aload_n C dX7_counted_75 rfl (j := 0) rfl ?_
    refine k_callVir C (As := []) (rest := []) 73 (m_X7_field l D cI cC cZ cB cJ ad N G f kp tx fi gr st ty th at0 re nh nb nl (by omega) ⟨hM.1, hM.2.1, hM.2.2.1, hM.2.2.2.1, hM.2.2.2.2.1, hM.2.2.2.2.2⟩ hH ) gX7_counted_X7_field rfl kd_X7_field rfl rfl ⟨Nat.le_of_ble_eq_true rfl, Nat.le_of_ble_eq_true rfl⟩ (by omega) hM.1 rfl rfl rfl (Nat.le_of_ble_eq_true rfl) ⟨Nat.zero_le _, Nat.zero_le _⟩ dX7_counted_76 ?_
    exact k_iret C hQ rfl rfl dX7_counted_79 ⟨rfl, rfl⟩
  · skip
    refine k_tableIn C (off := 79) 80 dX7_counted_1 (by decide) (by decide) (by decide) (by decide) ?_
    refine k_aload_n C dX7_counted_80 rfl (j := 0) rfl ?_
    refine k_get C 73 inX7_counted_7 (by omega) hM.1 rfl 0 (by decide) (List.mem_of_getElem? (i := 1) rfl) rfl rfl dX7_counted_81 ?_
    refine k_iconst C (v := 1) dX7_counted_84 (by decide) ?_
    refine k_ialdN C 74 0 (by omega) hM.2.1 rfl 1 rfl (by omega) (Nat.le_of_ble_eq_true rfl) dX7_counted_85 ?_
    exact k_iret C hQ rfl rfl dX7_counted_86 ⟨rfl, rfl⟩
  · skip
    refine k_tableIn C (off := 86) 87 dX7_counted_1 (by decide) (by decide) (by decide) (by decide) ?_
    refine k_aload_n C dX7_counted_87 rfl (j := 0) rfl ?_
    refine k_get C 73 inX7_counted_7 (by omega) hM.1 rfl 0 (by decide) (List.mem_of_getElem? (i := 1) rfl) rfl rfl dX7_counted_88 ?_
    refine k_iconst C (v := 2) dX7_counted_91 (by decide) ?_
    refine k_ialdN C 74 0 (by omega) hM.2.1 rfl 2 rfl (by omega) (Nat.le_of_ble_eq_true rfl) dX7_counted_92 ?_
    exact k_iret C hQ rfl rfl dX7_counted_93 ⟨rfl, rfl⟩
  · skip
    refine k_tableIn C (off := 93) 94 dX7_counted_1 (by decide) (by decide) (by decide) (by decide) ?_
    refine k_aload_n C dX7_counted_94 rfl (j := 0) rfl ?_
    refine k_iconst C (v := 0) dX7_counted_95 (by decide) ?_
    refine k_callVir C (As := [.int 0]) (rest := []) 73 (m_X7_stakedAll l D cI cC cZ cB cJ ad N G f kp tx fi gr st ty th at0 re nh nb nl false (by omega) ⟨hM.1, hM.2.1, hM.2.2.1, hM.2.2.2.1, hM.2.2.2.2.1, hM.2.2.2.2.2⟩ hB hL ) gX7_counted_X7_stakedAll rfl kd_X7_stakedAll rfl rfl ⟨Nat.le_of_ble_eq_true rfl, Nat.le_of_ble_eq_true rfl⟩ (by omega) hM.1 rfl rfl rfl (Nat.le_of_ble_eq_true rfl) ⟨Nat.zero_le _, Nat.zero_le _⟩ dX7_counted_96 ?_
    exact k_iret C hQ rfl rfl dX7_counted_99 ⟨rfl, rfl⟩
  · skip
    refine k_tableIn C (off := 99) 100 dX7_counted_1 (by decide) (by decide) (by decide) (by decide) ?_
    refine k_aload_n C dX7_counted_100 rfl (j := 0) rfl ?_
    refine k_iconst C (v := 1) dX7_counted_101 (by decide) ?_
    refine k_callVir C (As := [.int 1]) (rest := []) 73 (m_X7_stakedAll l D cI cC cZ cB cJ ad N G f kp tx fi gr st ty th at0 re nh nb nl true (by omega) ⟨hM.1, hM.2.1, hM.2.2.1, hM.2.2.2.1, hM.2.2.2.2.1, hM.2.2.2.2.2⟩ hB hL ) gX7_counted_X7_stakedAll rfl kd_X7_stakedAll rfl rfl ⟨Nat.le_of_ble_eq_true rfl, Nat.le_of_ble_eq_true rfl⟩ (by omega) hM.1 rfl rfl rfl (Nat.le_of_ble_eq_true rfl) ⟨Nat.zero_le _, Nat.zero_le _⟩ dX7_counted_102 ?_
    exact k_iret C hQ rfl rfl dX7_counted_105 ⟨rfl, rfl⟩
  · skip
    refine k_tableIn C (off := 105) 106 dX7_counted_1 (by decide) (by decide) (by decide) (by decide) ?_
    refine k_aload_n C dX7_counted_106 rfl (j := 0) rfl ?_
    refine k_callVir C (As := []) (rest := []) 73 (m_X7_isOpen l D cI cC cZ cB cJ ad N G f kp tx fi gr st ty th at0 re nh nb nl (by omega) ⟨hM.1, hM.2.1, hM.2.2.1, hM.2.2.2.1, hM.2.2.2.2.1, hM.2.2.2.2.2⟩ ) gX7_counted_X7_isOpen rfl kd_X7_isOpen rfl rfl ⟨Nat.le_of_ble_eq_true rfl, Nat.le_of_ble_eq_true rfl⟩ (by omega) hM.1 rfl rfl rfl (Nat.le_of_ble_eq_true rfl) ⟨Nat.zero_le _, Nat.zero_le _⟩ dX7_counted_107 ?_
    refine k_if_eq C 117 dX7_counted_110 (by decide) (fun c_110 => ?_) (fun c_110 => ?_)
    · skip
      have e_110 : ¬ f 3 = 0 := by simpa [mOpen] using bI_f c_110
      refine k_aload_n C dX7_counted_117 rfl (j := 0) rfl ?_
      refine k_get C 73 inX7_counted_7 (by omega) hM.1 rfl 0 (by decide) (List.mem_of_getElem? (i := 1) rfl) rfl rfl dX7_counted_118 ?_
      refine k_sipush C (v := 288) dX7_counted_121 (by decide) ?_
      refine k_ialdN C 74 0 (by omega) hM.2.1 rfl 288 rfl (by omega) (Nat.le_of_ble_eq_true rfl) dX7_counted_124 ?_
      exact k_iret C hQ rfl rfl dX7_counted_125 ⟨by simp [mCount, e_110], rfl⟩
    · skip
      have e_110 : f 3 = 0 := by simpa [mOpen] using bI_t c_110
      refine k_iconst C (v := 0) dX7_counted_113 (by decide) ?_
      refine k_goto C 125 dX7_counted_114 (by decide) ?_
      exact k_iret C hQ rfl rfl dX7_counted_125 ⟨by simp [mCount, e_110], rfl⟩
  · skip
    refine k_tableIn C (off := 125) 126 dX7_counted_1 (by decide) (by decide) (by decide) (by decide) ?_
    refine k_aload_n C dX7_counted_126 rfl (j := 0) rfl ?_
    refine k_callVir C (As := []) (rest := []) 73 (m_X7_isOpen l D cI cC cZ cB cJ ad N G f kp tx fi gr st ty th at0 re nh nb nl (by omega) ⟨hM.1, hM.2.1, hM.2.2.1, hM.2.2.2.1, hM.2.2.2.2.1, hM.2.2.2.2.2⟩ ) gX7_counted_X7_isOpen rfl kd_X7_isOpen rfl rfl ⟨Nat.le_of_ble_eq_true rfl, Nat.le_of_ble_eq_true rfl⟩ (by omega) hM.1 rfl rfl rfl (Nat.le_of_ble_eq_true rfl) ⟨Nat.zero_le _, Nat.zero_le _⟩ dX7_counted_127 ?_
    refine k_if_eq C 137 dX7_counted_130 (by decide) (fun c_130 => ?_) (fun c_130 => ?_)
    · skip
      have e_130 : ¬ f 3 = 0 := by simpa [mOpen] using bI_f c_130
      refine k_aload_n C dX7_counted_137 rfl (j := 0) rfl ?_
      refine k_get C 73 inX7_counted_7 (by omega) hM.1 rfl 0 (by decide) (List.mem_of_getElem? (i := 1) rfl) rfl rfl dX7_counted_138 ?_
      refine k_sipush C (v := 289) dX7_counted_141 (by decide) ?_
      refine k_ialdN C 74 0 (by omega) hM.2.1 rfl 289 rfl (by omega) (Nat.le_of_ble_eq_true rfl) dX7_counted_144 ?_
      exact k_iret C hQ rfl rfl dX7_counted_145 ⟨by simp [mCount, e_130], rfl⟩
    · skip
      have e_130 : f 3 = 0 := by simpa [mOpen] using bI_t c_130
      refine k_iconst C (v := 0) dX7_counted_133 (by decide) ?_
      refine k_goto C 145 dX7_counted_134 (by decide) ?_
      exact k_iret C hQ rfl rfl dX7_counted_145 ⟨by simp [mCount, e_130], rfl⟩
  · skip
    refine k_tableIn C (off := 145) 146 dX7_counted_1 (by decide) (by decide) (by decide) (by decide) ?_
    refine k_aload_n C dX7_counted_146 rfl (j := 0) rfl ?_
    refine k_get C 73 inX7_counted_7 (by omega) hM.1 rfl 0 (by decide) (List.mem_of_getElem? (i := 1) rfl) rfl rfl dX7_counted_147 ?_
    refine k_iconst C (v := 3) dX7_counted_150 (by decide) ?_
    refine k_ialdN C 74 0 (by omega) hM.2.1 rfl 3 rfl (by omega) (Nat.le_of_ble_eq_true rfl) dX7_counted_151 ?_
    exact k_iret C hQ rfl rfl dX7_counted_152 ⟨rfl, rfl⟩
  · skip
    refine k_tableIn C (off := 152) 153 dX7_counted_1 (by decide) (by decide) (by decide) (by decide) ?_
    refine k_aload_n C dX7_counted_153 rfl (j := 0) rfl ?_
    refine k_callVir C (As := []) (rest := []) 73 (m_X7_places l D cI cC cZ cB cJ ad N G f kp tx fi gr st ty th at0 re nh nb nl (by omega) ⟨hM.1, hM.2.1, hM.2.2.1, hM.2.2.2.1, hM.2.2.2.2.1, hM.2.2.2.2.2⟩ hH ) gX7_counted_X7_places rfl kd_X7_places rfl rfl ⟨Nat.le_of_ble_eq_true rfl, Nat.le_of_ble_eq_true rfl⟩ (by omega) hM.1 rfl rfl rfl (Nat.le_of_ble_eq_true rfl) ⟨Nat.zero_le _, Nat.zero_le _⟩ dX7_counted_154 ?_
    exact k_iret C hQ rfl rfl dX7_counted_157 ⟨rfl, rfl⟩
  · skip
    refine k_tableIn C (off := 157) 158 dX7_counted_1 (by decide) (by decide) (by decide) (by decide) ?_
    refine k_aload_n C dX7_counted_158 rfl (j := 0) rfl ?_
    refine k_callVir C (As := []) (rest := []) 73 (m_X7_round l D cI cC cZ cB cJ ad N G f kp tx fi gr st ty th at0 re nh nb nl (by omega) ⟨hM.1, hM.2.1, hM.2.2.1, hM.2.2.2.1, hM.2.2.2.2.1, hM.2.2.2.2.2⟩ hH hP0 ) gX7_counted_X7_round rfl kd_X7_round rfl rfl ⟨Nat.le_of_ble_eq_true rfl, Nat.le_of_ble_eq_true rfl⟩ (by omega) hM.1 rfl rfl rfl (Nat.le_of_ble_eq_true rfl) ⟨Nat.zero_le _, Nat.zero_le _⟩ dX7_counted_159 ?_
    exact k_iret C hQ rfl rfl dX7_counted_162 ⟨rfl, rfl⟩
  · skip
    refine k_tableIn C (off := 162) 163 dX7_counted_1 (by decide) (by decide) (by decide) (by decide) ?_
    refine k_aload_n C dX7_counted_163 rfl (j := 0) rfl ?_
    refine k_callVir C (As := []) (rest := []) 73 (m_X7_isOpen l D cI cC cZ cB cJ ad N G f kp tx fi gr st ty th at0 re nh nb nl (by omega) ⟨hM.1, hM.2.1, hM.2.2.1, hM.2.2.2.1, hM.2.2.2.2.1, hM.2.2.2.2.2⟩ ) gX7_counted_X7_isOpen rfl kd_X7_isOpen rfl rfl ⟨Nat.le_of_ble_eq_true rfl, Nat.le_of_ble_eq_true rfl⟩ (by omega) hM.1 rfl rfl rfl (Nat.le_of_ble_eq_true rfl) ⟨Nat.zero_le _, Nat.zero_le _⟩ dX7_counted_164 ?_
    refine k_if_eq C 174 dX7_counted_167 (by decide) (fun c_167 => ?_) (fun c_167 => ?_)
    · skip
      have e_167 : ¬ f 3 = 0 := by simpa [mOpen] using bI_f c_167
      refine k_aload_n C dX7_counted_174 rfl (j := 0) rfl ?_
      refine k_iconst C (v := 0) dX7_counted_175 (by decide) ?_
      refine k_callVir C (As := [.int 0]) (rest := []) 73 (m_X7_stakedAll l D cI cC cZ cB cJ ad N G f kp tx fi gr st ty th at0 re nh nb nl false (by omega) ⟨hM.1, hM.2.1, hM.2.2.1, hM.2.2.2.1, hM.2.2.2.2.1, hM.2.2.2.2.2⟩ hB hL ) gX7_counted_X7_stakedAll rfl kd_X7_stakedAll rfl rfl ⟨Nat.le_of_ble_eq_true rfl, Nat.le_of_ble_eq_true rfl⟩ (by omega) hM.1 rfl rfl rfl (Nat.le_of_ble_eq_true rfl) ⟨Nat.zero_le _, Nat.zero_le _⟩ dX7_counted_176 ?_
      refine k_aload_n C dX7_counted_179 rfl (j := 0) rfl ?_
      refine k_get C 73 inX7_counted_7 (by omega) hM.1 rfl 0 (by decide) (List.mem_of_getElem? (i := 1) rfl) rfl rfl dX7_counted_180 ?_
      refine k_sipush C (v := 288) dX7_counted_183 (by decide) ?_
      refine k_ialdN C 74 0 (by omega) hM.2.1 rfl 288 rfl (by omega) (Nat.le_of_ble_eq_true rfl) dX7_counted_186 ?_
      refine k_isub C dX7_counted_187 ?_
      refine k_aload_n C dX7_counted_188 rfl (j := 0) rfl ?_
      refine k_iconst C (v := 1) dX7_counted_189 (by decide) ?_
      refine k_callVir C (As := [.int 1]) (rest := [.int (((if false = true then mAllO f nl else mAll f nb)) - (f 288))]) 73 (m_X7_stakedAll l D cI cC cZ cB cJ ad N G f kp tx fi gr st ty th at0 re nh nb nl true (by omega) ⟨hM.1, hM.2.1, hM.2.2.1, hM.2.2.2.1, hM.2.2.2.2.1, hM.2.2.2.2.2⟩ hB hL ) gX7_counted_X7_stakedAll rfl kd_X7_stakedAll rfl rfl ⟨Nat.le_of_ble_eq_true rfl, Nat.le_of_ble_eq_true rfl⟩ (by omega) hM.1 rfl rfl rfl (Nat.le_of_ble_eq_true rfl) ⟨Nat.zero_le _, Nat.zero_le _⟩ dX7_counted_190 ?_
      refine k_isub C dX7_counted_193 ?_
      refine k_aload_n C dX7_counted_194 rfl (j := 0) rfl ?_
      refine k_get C 73 inX7_counted_7 (by omega) hM.1 rfl 0 (by decide) (List.mem_of_getElem? (i := 1) rfl) rfl rfl dX7_counted_195 ?_
      refine k_sipush C (v := 289) dX7_counted_198 (by decide) ?_
      refine k_ialdN C 74 0 (by omega) hM.2.1 rfl 289 rfl (by omega) (Nat.le_of_ble_eq_true rfl) dX7_counted_201 ?_
      refine k_iadd C dX7_counted_202 ?_
      refine k_ldc C (v := 10000000) dX7_counted_203 (List.mem_of_getElem? (i := 2) rfl) ?_
      refine k_iadd C dX7_counted_205 ?_
      exact k_iret C hQ rfl rfl dX7_counted_206 ⟨by simp [mCount, e_167], rfl⟩
    · skip
      have e_167 : f 3 = 0 := by simpa [mOpen] using bI_t c_167
      refine k_iconst C (v := 0) dX7_counted_170 (by decide) ?_
      refine k_goto C 206 dX7_counted_171 (by decide) ?_
      exact k_iret C hQ rfl rfl dX7_counted_206 ⟨by simp [mCount, e_167], rfl⟩
  · skip
    refine k_tableIn C (off := 206) 207 dX7_counted_1 (by decide) (by decide) (by decide) (by decide) ?_
    refine k_aload_n C dX7_counted_207 rfl (j := 0) rfl ?_
    refine k_callVir C (As := []) (rest := []) 73 (m_X7_isOpen l D cI cC cZ cB cJ ad N G f kp tx fi gr st ty th at0 re nh nb nl (by omega) ⟨hM.1, hM.2.1, hM.2.2.1, hM.2.2.2.1, hM.2.2.2.2.1, hM.2.2.2.2.2⟩ ) gX7_counted_X7_isOpen rfl kd_X7_isOpen rfl rfl ⟨Nat.le_of_ble_eq_true rfl, Nat.le_of_ble_eq_true rfl⟩ (by omega) hM.1 rfl rfl rfl (Nat.le_of_ble_eq_true rfl) ⟨Nat.zero_le _, Nat.zero_le _⟩ dX7_counted_208 ?_
    refine k_if_eq C 218 dX7_counted_211 (by decide) (fun c_211 => ?_) (fun c_211 => ?_)
    · skip
      have e_211 : ¬ f 3 = 0 := by simpa [mOpen] using bI_f c_211
      refine k_aload_n C dX7_counted_218 rfl (j := 0) rfl ?_
      refine k_callVir C (As := []) (rest := []) 73 (m_X7_lost l D cI cC cZ cB cJ ad N G f kp tx fi gr st ty th at0 re nh nb nl (by omega) ⟨hM.1, hM.2.1, hM.2.2.1, hM.2.2.2.1, hM.2.2.2.2.1, hM.2.2.2.2.2⟩ hB hL ) gX7_counted_X7_lost rfl kd_X7_lost rfl rfl ⟨Nat.le_of_ble_eq_true rfl, Nat.le_of_ble_eq_true rfl⟩ (by omega) hM.1 rfl rfl rfl (Nat.le_of_ble_eq_true rfl) ⟨Nat.zero_le _, Nat.zero_le _⟩ dX7_counted_219 ?_
      refine k_ldc C (v := 10000000) dX7_counted_222 (List.mem_of_getElem? (i := 2) rfl) ?_
      refine k_iadd C dX7_counted_224 ?_
      exact k_iret C hQ rfl rfl dX7_counted_225 ⟨by simp [mCount, e_211], rfl⟩
    · skip
      have e_211 : f 3 = 0 := by simpa [mOpen] using bI_t c_211
      refine k_iconst C (v := 0) dX7_counted_214 (by decide) ?_
      refine k_goto C 225 dX7_counted_215 (by decide) ?_
      exact k_iret C hQ rfl rfl dX7_counted_225 ⟨by simp [mCount, e_211], rfl⟩
  · skip
    refine k_tableOut C 226 dX7_counted_1 (by decide) (by decide) ?_
    refine k_aload_n C dX7_counted_226 rfl (j := 0) rfl ?_
    refine k_get C 73 inX7_counted_7 (by omega) hM.1 rfl 1 (by decide) (List.mem_of_getElem? (i := 3) rfl) rfl rfl dX7_counted_227 ?_
    exact k_iret C hQ rfl rfl dX7_counted_230 ⟨rfl, rfl⟩
