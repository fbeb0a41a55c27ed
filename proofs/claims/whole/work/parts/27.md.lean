/-! settle and digest of the model -/
theorem okB_same {f g : Nat → Int32} {k : Nat} (h : okB f k) (e : ∀ w, w < 6 → g (66 + 8 * k + w) = f (66 + 8 * k + w)) (e4 : g 4 = f 4) : okB g k := by
  have e0 := e 0 (by decide)
  have e5 := e 4 (by decide)
  unfold okB mBh mB at h ⊢
  rw [e0, e5, e4]; exact h
theorem okO_same {f g : Nat → Int32} {k : Nat} (h : okO f k) (e : ∀ w, w < 4 → g (258 + 5 * k + w) = f (258 + 5 * k + w)) : okO g k := by
  have e0 := e 0 (by decide)
  have e3 := e 3 (by decide)
  unfold okO mOh mO at h ⊢
  rw [e0, e3]; exact h
def mS1 (f fi gr : Nat → Int32) (nh : Nat) : Nat → (Nat → Int32)
  | 0 => upd (upd f 288 0) 289 0
  | i + 1 => upd (upd (upd (mS1 f fi gr nh i) (66 + 8 * i + 6) (mRet (mS1 f fi gr nh i) fi gr nh i)) (66 + 8 * i + 7) (mRea (mS1 f fi gr nh i) fi gr nh i)) 288 (mS1 f fi gr nh i 288 + mRet (mS1 f fi gr nh i) fi gr nh i)
def mS2 (f fi gr : Nat → Int32) (nh nb : Nat) : Nat → (Nat → Int32)
  | 0 => mS1 f fi gr nh nb
  | i + 1 => upd (upd (mS2 f fi gr nh nb i) (258 + 5 * i + 4) (mOffRet (mS2 f fi gr nh nb i) fi gr i)) 289 (mS2 f fi gr nh nb i 289 + mOffRet (mS2 f fi gr nh nb i) fi gr i)
def mS3 (f fi gr : Nat → Int32) (nh nb nl : Nat) : Nat → (Nat → Int32)
  | 0 => mS2 f fi gr nh nb nl
  | i + 1 => upd (upd (mS3 f fi gr nh nb nl i) (46 + i) (fi i)) (56 + i) (gr i)
def mFin (f fi gr : Nat → Int32) (nh nb nl : Nat) : Nat → Int32 := upd (mS3 f fi gr nh nb nl 10) 3 1
theorem mS1_s (f fi gr : Nat → Int32) (nh i : Nat) : mS1 f fi gr nh (i + 1) = upd (upd (upd (mS1 f fi gr nh i) (66 + 8 * i + 6) (mRet (mS1 f fi gr nh i) fi gr nh i)) (66 + 8 * i + 7) (mRea (mS1 f fi gr nh i) fi gr nh i)) 288 (mS1 f fi gr nh i 288 + mRet (mS1 f fi gr nh i) fi gr nh i) := rfl
theorem mS2_s (f fi gr : Nat → Int32) (nh nb i : Nat) : mS2 f fi gr nh nb (i + 1) = upd (upd (mS2 f fi gr nh nb i) (258 + 5 * i + 4) (mOffRet (mS2 f fi gr nh nb i) fi gr i)) 289 (mS2 f fi gr nh nb i 289 + mOffRet (mS2 f fi gr nh nb i) fi gr i) := rfl
theorem mS3_s (f fi gr : Nat → Int32) (nh nb nl i : Nat) : mS3 f fi gr nh nb nl (i + 1) = upd (upd (mS3 f fi gr nh nb nl i) (46 + i) (fi i)) (56 + i) (gr i) := rfl
theorem mS1_lo (f fi gr : Nat → Int32) (nh : Nat) {j : Nat} (hj : j < 66 ∨ (258 ≤ j ∧ j < 288)) : ∀ i, i ≤ 24 → mS1 f fi gr nh i j = f j
  | 0, _ => by rw [mS1, pk_un (by omega), pk_un (by omega)]
  | i + 1, h => by rw [mS1_s, pk_un (by omega), pk_un (by omega), pk_un (by omega), mS1_lo f fi gr nh hj i (by omega)]
theorem mS1_c (f fi gr : Nat → Int32) (nh k : Nat) {w : Nat} (hk : k < 24) (hw : w < 6) : ∀ i, i ≤ 24 → mS1 f fi gr nh i (66 + 8 * k + w) = f (66 + 8 * k + w)
  | 0, _ => by rw [mS1, pk_un (by omega), pk_un (by omega)]
  | i + 1, h => by rw [mS1_s, pk_un (by omega), pk_un (by omega), pk_un (by omega), mS1_c f fi gr nh k hk hw i (by omega)]
theorem mS2_lo (f fi gr : Nat → Int32) (nh nb : Nat) (hb : nb ≤ 24) {j : Nat} (hj : j < 66) : ∀ i, mS2 f fi gr nh nb i j = f j
  | 0 => mS1_lo f fi gr nh (Or.inl hj) nb hb
  | i + 1 => by rw [mS2_s, pk_un (by omega), pk_un (by omega), mS2_lo f fi gr nh nb hb hj i]
theorem mS2_c (f fi gr : Nat → Int32) (nh nb : Nat) (hb : nb ≤ 24) (k : Nat) {w : Nat} (hk : k < 6) (hw : w < 4) : ∀ i, i ≤ 6 → mS2 f fi gr nh nb i (258 + 5 * k + w) = f (258 + 5 * k + w)
  | 0, _ => mS1_lo f fi gr nh (Or.inr (by omega)) nb hb
  | i + 1, h => by rw [mS2_s, pk_un (by omega), pk_un (by omega), mS2_c f fi gr nh nb hb k hk hw i (by omega)]
theorem mRea_ext {f fi gr fi2 gr2 : Nat → Int32} (nh : Nat) {k : Nat} (hk : okB f k) (h1 : ∀ j, j < 10 → fi j = fi2 j) (h2 : ∀ j, j < 10 → gr j = gr2 j) : mRea f fi gr nh k = mRea f fi2 gr2 nh k := by
  have e1 := h1 _ hk.2.1
  have e2 := h2 _ hk.2.1
  unfold mRea mWinOf mPlaceOf mForWin mForPlace mC mWithin
  rw [e1, e2]
theorem okB_S1 {f : Nat → Int32} (fi gr : Nat → Int32) (nh : Nat) {k i : Nat} (h : okB f k) (hk : k < 24) (hi : i ≤ 24) : okB (mS1 f fi gr nh i) k := okB_same h (fun _ hw => mS1_c f fi gr nh k hk hw i hi) (mS1_lo f fi gr nh (Or.inl (by decide)) i hi)
theorem okO_S2 {f : Nat → Int32} (fi gr : Nat → Int32) (nh nb : Nat) (hb : nb ≤ 24) {k i : Nat} (h : okO f k) (hk : k < 6) (hi : i ≤ 6) : okO (mS2 f fi gr nh nb i) k := okO_same h (fun _ hw => mS2_c f fi gr nh nb hb k hk hw i hi)
theorem mS1_ext {f fi gr fi2 gr2 : Nat → Int32} (nh : Nat) (h1 : ∀ j, j < 10 → fi j = fi2 j) (h2 : ∀ j, j < 10 → gr j = gr2 j) : ∀ i, i ≤ 24 → (∀ k, k < i → okB f k) → mS1 f fi gr nh i = mS1 f fi2 gr2 nh i
  | 0, _, _ => rfl
  | i + 1, hi, hk => by
    have e := mS1_ext nh h1 h2 i (by omega) (fun k q => hk k (by omega))
    have ho := okB_S1 fi2 gr2 nh (hk i (by omega)) (show i < 24 by omega) (show i ≤ 24 by omega)
    rw [mS1_s, mS1_s, e, mRet_ext nh ho h1 h2, mRea_ext nh ho h1 h2]
theorem mS2_ext {f fi gr fi2 gr2 : Nat → Int32} (nh nb : Nat) (hb : nb ≤ 24) (hB : ∀ k, k < nb → okB f k) (h1 : ∀ j, j < 10 → fi j = fi2 j) (h2 : ∀ j, j < 10 → gr j = gr2 j) : ∀ i, i ≤ 6 → (∀ k, k < i → okO f k) → mS2 f fi gr nh nb i = mS2 f fi2 gr2 nh nb i
  | 0, _, _ => mS1_ext nh h1 h2 nb hb hB
  | i + 1, hi, hk => by
    have e := mS2_ext nh nb hb hB h1 h2 i (by omega) (fun k q => hk k (by omega))
    have ho := okO_S2 fi2 gr2 nh nb hb (hk i (by omega)) (show i < 6 by omega) (show i ≤ 6 by omega)
    rw [mS2_s, mS2_s, e, mOffRet_ext ho h1 h2]
theorem mS3_ext {f fi gr fi2 gr2 : Nat → Int32} (nh nb nl : Nat) (hb : nb ≤ 24) (hl : nl ≤ 6) (hB : ∀ k, k < nb → okB f k) (hO : ∀ k, k < nl → okO f k) (h1 : ∀ j, j < 10 → fi j = fi2 j) (h2 : ∀ j, j < 10 → gr j = gr2 j) : ∀ i, i ≤ 10 → mS3 f fi gr nh nb nl i = mS3 f fi2 gr2 nh nb nl i
  | 0, _ => mS2_ext nh nb hb hB h1 h2 nl hl hO
  | i + 1, hi => by rw [mS3_s, mS3_s, mS3_ext nh nb nl hb hl hB hO h1 h2 i (by omega), h1 i (by omega), h2 i (by omega)]
def mDone (f tx : Nat → Int32) (ty nh nb nl : Nat) : Nat → Int32 := mFin f (lF tx mNeg ((ty + 1) / 2)) (lG tx ((ty + 1) / 2) mNeg ((ty + 1) / 2)) nh nb nl
theorem k_rawl {p : Program} {l : Launch} {e : Env} {R : Room} {s : State} {m : MethodId} {args : Array Value} {below : List Frame} {meth : Method} {c : Code} {cells slots : Nat} {Q : State → Prop} {nL : Nat} {D : va_G} {tys : List (ClassId × FieldType)} {ad : Nat → Nat} {N : Nat} {A : Nat → Prop} {G : Nat → va_E} {pc : Nat} {lv : List (Nat × Value)} {st : List Value} {cc : ByteArray} {ret : Option FieldType} {own : String} {Ts : List Cond} (C : kC p s args m meth c cc ret own nL Ts D tys ad N A) {index : Nat} {b : UInt64} (hlink : Cond.methodLink own index ⟨"java/lang/Double", "doubleToRawLongBits", "(D)J"⟩ ∈ Ts) (hnat : Cond.native ⟨"java/lang/Double", "doubleToRawLongBits", "(D)J"⟩ ∈ Ts) (hstat : Cond.static ⟨"java/lang/Double", "doubleToRawLongBits", "(D)J"⟩ ∈ Ts) (hini : Cond.initialized "java/lang/Double" ∈ Ts) (hframes : 1 ≤ R.frames) (hlocals : (st.map fun v => v.category).sum + 15 ≤ R.locals) (hdg : decode cc pc = .ok (.invokestatic index, 3)) (kk : kJ p l e R s m args below meth c cells slots Q nL D ad N A G (pc + 3) lv (.long b.toInt64 :: st)) : kJ p l e R s m args below meth c cells slots Q nL D ad N A G pc lv (.double b :: st) := fun H locs ls hP hS h =>
  vn_d2l C.1.1 C.1.2.1 (by rw [h.1]; exact C.1.2.2.2.1) C.2.1 (C.2.2.1 _ hlink) (C.2.2.1 _ hnat) (C.2.2.1 _ hstat) (C.2.2.1 _ hini) hframes hlocals hdg (kk H locs ls hP hS h)
def dSelf (x : UInt64) : Bool := decide (Op.cmpValue (FP.dcmp x x) .l = 0)
theorem dQ_self : ∀ b, b < 11 → ∀ a, a < 11 → 0 < b → a ≤ b → dSelf (dQ a b) = true := by decide +kernel
theorem mShare_self (f : Nat → Int32) {nh : Nat} (nb nl : Nat) (hn : nh ≤ 10) : Op.cmpValue (FP.dcmp (mShare f nh nb nl) (mShare f nh nb nl)) .l = 0 := by
  have h1 := mRn_le f nh
  have h2 := mSf_le f nh nb nl nh
  have h3 : dSelf (mShare f nh nb nl) = true := by
    rw [mShare]
    split
    · decide +kernel
    · exact dQ_self _ (by omega) _ (by omega) (by omega) (by omega)
  simpa [dSelf] using h3
def mD1 (f : Nat → Int32) (st nh nb nl : Nat) : Nat → Int64
  | 0 => 3079
  | i + 1 => jMix (mD1 f st nh nb nl i) (mCount f st nh nb nl i).toInt64
def mRw (f : Nat → Int32) (nb k : Nat) (h : Int64) : Nat → Int64
  | 0 => h
  | i + 1 => jMix (mRw f nb k h i) (mHorse f nb k i).toInt64
def mHr (f : Nat → Int32) (nh nb nl : Nat) (h : Int64) : Nat → Int64
  | 0 => h
  | i + 1 => jMix (jMix (mRw f nb i (mHr f nh nb nl h i) 9) (mIfF f nh nb nl i).toInt64) (mCov f nh nb nl i).toInt64
def mTb (f : Nat → Int32) (o : Nat) (h : Int64) : Nat → Int64
  | 0 => h
  | i + 1 => jMix (mTb f o h i) (f (o + i)).toInt64
def mDx (tx : Nat → Int32) (h : Int64) : Nat → Int64
  | 0 => h
  | i + 1 => jMix (mDx tx h i) (tx i).toInt64
def mB0 (f : Nat → Int32) (st nh nb nl : Nat) : Int64 := jMix (jMix (mD1 f st nh nb nl 14) (f 4).toInt64) (f 5).toInt64
def mB1 (f : Nat → Int32) (st nh nb nl : Nat) : Int64 := mHr f nh nb nl (mB0 f st nh nb nl) nh
def mB2 (f : Nat → Int32) (st nh nb nl : Nat) : Int64 := mTb f 66 (mB1 f st nh nb nl) (8 * nb)
def mB3 (f : Nat → Int32) (st nh nb nl : Nat) : Int64 := mTb f 258 (mB2 f st nh nb nl) (5 * nl)
def kpB (kp : Nat → Int32) (i : Nat) : Bool := !(decide (kp i = 0))
def mB4 (f kp tx : Nat → Int32) (ty st nh nb nl : Nat) : Int64 :=
  jMix (jMix (jMix (jMix (jMix (jMix (mB3 f st nh nb nl) (mIf f tx ty nh nb nl).toInt64) (mWst f nh nb nl nh).1.toInt64) (mShare f nh nb nl).toInt64) (bI (kpB kp 0)).toInt64) (bI (kpB kp 1)).toInt64) (nI ty).toInt64
def mDig (f kp tx : Nat → Int32) (ty st nh nb nl : Nat) : Int64 := mDx tx (mB4 f kp tx ty st nh nb nl) ty
theorem inX7_settle_7 : ∀ w ∈ wsX70, w ∈ wsX7_settle := fun _ h => List.mem_cons_of_mem _ (List.mem_append_right _ h)
theorem kd_X7_settle : yX7_settle.cls = RX7 ∧ yX7_settle.cls ≠ "java/lang/invoke/MethodHandle" ∧ yX7_settle.cls ≠ "java/lang/invoke/VarHandle" ∧ (parseMethodDescriptor yX7_settle.desc).map (fun d => d.parameters.length) = some 0 := by decide +kernel
abbrev rX7_settle : Room := ({ frames := 5, cells := 0, slots := 0, locals := 114 } : Room)
set_option maxRecDepth 100000 in
set_option maxHeartbeats 4000000 in
/-- model: settle -/
theorem m_X7_settle (l : Launch) (D : va_G) (cI cC cZ cB cJ : ClassId) (ad : Nat → Nat) (N : Nat) (G : Nat → va_E) (f kp tx fi gr : Nat → Int32) (st ty : Nat) (th at0 re : Int32) (nh nb nl : Nat) (hN : 79 ≤ N) (hM : isMo ad cI cC cZ G f kp tx fi gr st ty th at0 re) (hH : f 0 = nI nh ∧ nh ≤ 10) (hB : f 1 = nI nb ∧ nb ≤ 24) (hL : f 2 = nI nl ∧ nl ≤ 6) (hKB : ∀ k, k < nb → okB f k) (hKO : ∀ k, k < nl → okO f k) (hT0 : ty ≤ 30) (hX0 : okX tx ty) (hS0 : st ≤ 6) : kMi l yX7_settle wsX7_settle rX7_settle D (kT5 cI cC cZ cB cJ) ad N G [.ref (ad 73)] (fun r G' => (mTh (mArr f tx ty) (mOpen f) true = 0 → r = (mAW (mSave f st) tx ty nh nb nl + 10000000) ∧ ∃ (fi' : Nat → Int32) (gr' : Nat → Int32) (at0' : Int32) (re' : Int32), isMo ad cI cC cZ G' (mDone (mSave f st) tx ty nh nb nl) kp tx (fi') (gr') (mSt st) 0 (mTh (mArr f tx ty) (mOpen f) true) (at0') (re')) ∧ (¬ mTh (mArr f tx ty) (mOpen f) true = 0 → r = 0 ∧ ∃ (fi' : Nat → Int32) (gr' : Nat → Int32) (at0' : Int32) (re' : Int32), isMo ad cI cC cZ G' f kp tx (fi') (gr') st ty (mTh (mArr f tx ty) (mOpen f) true) (at0') (re')) ∧ ∀ j, (j < 73 ∨ 79 ≤ j) → G' j = G j) := by
  refine k_starti (cc := cX7_settle) (ret := (some .int)) (maxL := 3) (lv0 := [(0, .ref (ad 73))]) (by decide) rfl (Nat.le_of_ble_eq_true rfl) rfl ?_
  intro p e s m args below meth c A Q C hQ
  have hn := hH.2
  have hnb := hB.2
  have hnl := hL.2
  refine k_aload_n C dX7_settle_0 rfl (j := 0) rfl ?_
  refine k_aload_n C dX7_settle_1 rfl (j := 0) rfl ?_
  refine k_callVi C (As := []) (rest := [.ref (ad 73)]) 73 (m_X7_isArrival l D cI cC cZ cB cJ ad N G f kp tx fi gr st ty th at0 re nh nb nl (by omega) ⟨hM.1, hM.2.1, hM.2.2.1, hM.2.2.2.1, hM.2.2.2.2.1, hM.2.2.2.2.2⟩ hT0 hX0 ) gX7_settle_X7_isArrival rfl kd_X7_isArrival rfl rfl ⟨Nat.le_of_ble_eq_true rfl, Nat.le_of_ble_eq_true rfl⟩ (by omega) hM.1 rfl rfl rfl (Nat.le_of_ble_eq_true rfl) ⟨Nat.zero_le _, Nat.zero_le _⟩ dX7_settle_2 (fun r_2 G1 hG1 => ?_)
  obtain ⟨e_r_2, hM_G1, hf_G1⟩ := hG1
  subst e_r_2
  refine k_if_eq C 19 dX7_settle_5 (by decide) (fun c_5 => ?_) (fun c_5 => ?_)
  · skip
    have c_5 := bI_f c_5
    refine k_iconst C (v := 0) dX7_settle_19 (by decide) ?_
    refine k_aload_n C dX7_settle_20 rfl (j := 0) rfl ?_
    refine k_callVir C (As := []) (rest := [.int 0, .ref (ad 73)]) 73 (m_X7_isOpen l D cI cC cZ cB cJ ad N G1 f kp tx fi gr st ty th (nI (txWrong (tx, ty))) re nh nb nl (by omega) ⟨hM_G1.1, hM_G1.2.1, hM_G1.2.2.1, hM_G1.2.2.2.1, hM_G1.2.2.2.2.1, hM_G1.2.2.2.2.2⟩ ) gX7_settle_X7_isOpen rfl kd_X7_isOpen rfl rfl ⟨Nat.le_of_ble_eq_true rfl, Nat.le_of_ble_eq_true rfl⟩ (by omega) hM_G1.1 rfl rfl rfl (Nat.le_of_ble_eq_true rfl) ⟨Nat.zero_le _, Nat.zero_le _⟩ dX7_settle_21 ?_
    refine k_iconst C (v := 1) dX7_settle_24 (by decide) ?_
    refine k_callVi C (As := [.int 0, .int (bI (mOpen f)), .int 1]) (rest := []) 73 (m_X7_goes l D cI cC cZ cB cJ ad N G1 f kp tx fi gr st ty th (nI (txWrong (tx, ty))) re nh nb nl false (mOpen f) true (by omega) ⟨hM_G1.1, hM_G1.2.1, hM_G1.2.2.1, hM_G1.2.2.2.1, hM_G1.2.2.2.2.1, hM_G1.2.2.2.2.2⟩ ) gX7_settle_X7_goes rfl kd_X7_goes rfl rfl ⟨Nat.le_of_ble_eq_true rfl, Nat.le_of_ble_eq_true rfl⟩ (by omega) hM_G1.1 rfl rfl rfl (Nat.le_of_ble_eq_true rfl) ⟨Nat.zero_le _, Nat.zero_le _⟩ dX7_settle_25 (fun r_25 G2 hG2 => ?_)
    obtain ⟨e_r_25, hM_G2, hf_G2⟩ := hG2
    subst e_r_25
    refine k_if_ne C 33 dX7_settle_28 (by decide) (fun c_28 => ?_) (fun c_28 => ?_)
    · skip
      have c_28 := bI_t c_28
      exact absurd (of_decide_eq_true c_28) (by simp [mTh])
    · skip
      have c_28 := bI_f c_28
      have hAr : mArr f tx ty = false := by simp [mArr, c_5]
      have hT : ¬ mTh (mArr f tx ty) (mOpen f) true = 0 := by rw [hAr]; exact of_decide_eq_false c_28
      refine k_iconst C (v := 0) dX7_settle_31 (by decide) ?_
      exact k_iret C hQ rfl rfl dX7_settle_32 ⟨fun h9 => absurd h9 hT, fun _ => ⟨rfl, fi, gr, (nI (txWrong (tx, ty))), re, by rw [hAr]; exact ⟨hM_G2.1, hM_G2.2.1, hM_G2.2.2.1, hM_G2.2.2.2.1, hM_G2.2.2.2.2.1, hM_G2.2.2.2.2.2⟩⟩, fun j hj => (hf_G2 j hj : _).trans (hf_G1 j hj)⟩
  · skip
    have c_5 := bI_t c_5
    refine k_aload_n C dX7_settle_8 rfl (j := 0) rfl ?_
    refine k_callVi C (As := []) (rest := [.ref (ad 73)]) 73 (m_X7_lays l D cI cC cZ cB cJ ad N G1 f kp tx fi gr st ty th (nI (txWrong (tx, ty))) re nh nb nl (by omega) ⟨hM_G1.1, hM_G1.2.1, hM_G1.2.2.1, hM_G1.2.2.2.1, hM_G1.2.2.2.2.1, hM_G1.2.2.2.2.2⟩ hH hT0 hX0 c_5) gX7_settle_X7_lays rfl kd_X7_lays rfl rfl ⟨Nat.le_of_ble_eq_true rfl, Nat.le_of_ble_eq_true rfl⟩ (by omega) hM_G1.1 rfl rfl rfl (Nat.le_of_ble_eq_true rfl) ⟨Nat.zero_le _, Nat.zero_le _⟩ dX7_settle_9 (fun r_9 G3 hG3 => ?_)
    obtain ⟨e_r_9, hM_G3, hf_G3⟩ := hG3
    subst e_r_9
    refine k_if_eq C 19 dX7_settle_12 (by decide) (fun c_12 => ?_) (fun c_12 => ?_)
    · skip
      have c_12 := bI_f c_12
      refine k_iconst C (v := 0) dX7_settle_19 (by decide) ?_
      refine k_aload_n C dX7_settle_20 rfl (j := 0) rfl ?_
      refine k_callVir C (As := []) (rest := [.int 0, .ref (ad 73)]) 73 (m_X7_isOpen l D cI cC cZ cB cJ ad N G3 f kp tx (lF tx (aB fi 10) ((ty + 1) / 2)) (lG tx ((ty + 1) / 2) (aB gr 10) ((ty + 1) / 2)) st ty th (nI (txWrong (tx, ty))) re nh nb nl (by omega) ⟨hM_G3.1, hM_G3.2.1, hM_G3.2.2.1, hM_G3.2.2.2.1, hM_G3.2.2.2.2.1, hM_G3.2.2.2.2.2⟩ ) gX7_settle_X7_isOpen rfl kd_X7_isOpen rfl rfl ⟨Nat.le_of_ble_eq_true rfl, Nat.le_of_ble_eq_true rfl⟩ (by omega) hM_G3.1 rfl rfl rfl (Nat.le_of_ble_eq_true rfl) ⟨Nat.zero_le _, Nat.zero_le _⟩ dX7_settle_21 ?_
      refine k_iconst C (v := 1) dX7_settle_24 (by decide) ?_
      refine k_callVi C (As := [.int 0, .int (bI (mOpen f)), .int 1]) (rest := []) 73 (m_X7_goes l D cI cC cZ cB cJ ad N G3 f kp tx (lF tx (aB fi 10) ((ty + 1) / 2)) (lG tx ((ty + 1) / 2) (aB gr 10) ((ty + 1) / 2)) st ty th (nI (txWrong (tx, ty))) re nh nb nl false (mOpen f) true (by omega) ⟨hM_G3.1, hM_G3.2.1, hM_G3.2.2.1, hM_G3.2.2.2.1, hM_G3.2.2.2.2.1, hM_G3.2.2.2.2.2⟩ ) gX7_settle_X7_goes rfl kd_X7_goes rfl rfl ⟨Nat.le_of_ble_eq_true rfl, Nat.le_of_ble_eq_true rfl⟩ (by omega) hM_G3.1 rfl rfl rfl (Nat.le_of_ble_eq_true rfl) ⟨Nat.zero_le _, Nat.zero_le _⟩ dX7_settle_25 (fun r_25 G4 hG4 => ?_)
      obtain ⟨e_r_25, hM_G4, hf_G4⟩ := hG4
      subst e_r_25
      refine k_if_ne C 33 dX7_settle_28 (by decide) (fun c_28 => ?_) (fun c_28 => ?_)
      · skip
        have c_28 := bI_t c_28
        exact absurd (of_decide_eq_true c_28) (by simp [mTh])
      · skip
        have c_28 := bI_f c_28
        have hAr : mArr f tx ty = false := by simp [mArr, c_5, c_12]
        have hT : ¬ mTh (mArr f tx ty) (mOpen f) true = 0 := by rw [hAr]; exact of_decide_eq_false c_28
        refine k_iconst C (v := 0) dX7_settle_31 (by decide) ?_
        exact k_iret C hQ rfl rfl dX7_settle_32 ⟨fun h9 => absurd h9 hT, fun _ => ⟨rfl, (lF tx (aB fi 10) ((ty + 1) / 2)), (lG tx ((ty + 1) / 2) (aB gr 10) ((ty + 1) / 2)), (nI (txWrong (tx, ty))), re, by rw [hAr]; exact ⟨hM_G4.1, hM_G4.2.1, hM_G4.2.2.1, hM_G4.2.2.2.1, hM_G4.2.2.2.2.1, hM_G4.2.2.2.2.2⟩⟩, fun j hj => (hf_G4 j hj : _).trans ((hf_G3 j hj : _).trans (hf_G1 j hj))⟩
    · skip
      have c_12 := bI_t c_12
      refine k_iconst C (v := 1) dX7_settle_15 (by decide) ?_
      refine k_goto C 20 dX7_settle_16 (by decide) ?_
      refine k_aload_n C dX7_settle_20 rfl (j := 0) rfl ?_
      refine k_callVir C (As := []) (rest := [.int 1, .ref (ad 73)]) 73 (m_X7_isOpen l D cI cC cZ cB cJ ad N G3 f kp tx (lF tx (aB fi 10) ((ty + 1) / 2)) (lG tx ((ty + 1) / 2) (aB gr 10) ((ty + 1) / 2)) st ty th (nI (txWrong (tx, ty))) re nh nb nl (by omega) ⟨hM_G3.1, hM_G3.2.1, hM_G3.2.2.1, hM_G3.2.2.2.1, hM_G3.2.2.2.2.1, hM_G3.2.2.2.2.2⟩ ) gX7_settle_X7_isOpen rfl kd_X7_isOpen rfl rfl ⟨Nat.le_of_ble_eq_true rfl, Nat.le_of_ble_eq_true rfl⟩ (by omega) hM_G3.1 rfl rfl rfl (Nat.le_of_ble_eq_true rfl) ⟨Nat.zero_le _, Nat.zero_le _⟩ dX7_settle_21 ?_
      refine k_iconst C (v := 1) dX7_settle_24 (by decide) ?_
      refine k_callVi C (As := [.int 1, .int (bI (mOpen f)), .int 1]) (rest := []) 73 (m_X7_goes l D cI cC cZ cB cJ ad N G3 f kp tx (lF tx (aB fi 10) ((ty + 1) / 2)) (lG tx ((ty + 1) / 2) (aB gr 10) ((ty + 1) / 2)) st ty th (nI (txWrong (tx, ty))) re nh nb nl true (mOpen f) true (by omega) ⟨hM_G3.1, hM_G3.2.1, hM_G3.2.2.1, hM_G3.2.2.2.1, hM_G3.2.2.2.2.1, hM_G3.2.2.2.2.2⟩ ) gX7_settle_X7_goes rfl kd_X7_goes rfl rfl ⟨Nat.le_of_ble_eq_true rfl, Nat.le_of_ble_eq_true rfl⟩ (by omega) hM_G3.1 rfl rfl rfl (Nat.le_of_ble_eq_true rfl) ⟨Nat.zero_le _, Nat.zero_le _⟩ dX7_settle_25 (fun r_25 G5 hG5 => ?_)
      obtain ⟨e_r_25, hM_G5, hf_G5⟩ := hG5
      subst e_r_25
      refine k_if_ne C 33 dX7_settle_28 (by decide) (fun c_28 => ?_) (fun c_28 => ?_)
      · skip
        have c_28 := bI_t c_28
        have hAr : mArr f tx ty = true := by simp [mArr, c_5, c_12]
        have hT : mTh (mArr f tx ty) (mOpen f) true = 0 := by rw [hAr]; exact of_decide_eq_true c_28
        have hM9 : isMo ad cI cC cZ G5 f kp tx (lF tx (aB fi 10) ((ty + 1) / 2)) (lG tx ((ty + 1) / 2) (aB gr 10) ((ty + 1) / 2)) st ty (mTh true ((mOpen f)) true) (nI (txWrong (tx, ty))) re := ⟨hM_G5.1, hM_G5.2.1, hM_G5.2.2.1, hM_G5.2.2.2.1, hM_G5.2.2.2.2.1, hM_G5.2.2.2.2.2⟩
        obtain ⟨fi9, hfi9, hGfi, e9⟩ : ∃ g9, (∀ j, j < 10 → g9 j = lF tx mNeg ((ty + 1) / 2) j) ∧ okG g9 (lG tx ((ty + 1) / 2) (aB gr 10) ((ty + 1) / 2)) ∧ (lF tx (aB fi 10) ((ty + 1) / 2)) = g9 := ⟨_, lF_ext tx (aB_neg fi) _, okG_l tx (by omega) fi (aB gr 10) ((ty + 1) / 2) (Nat.le_refl _), rfl⟩
        obtain ⟨gr9, hgr9, hOG, e9g⟩ : ∃ g9, (∀ j, j < 10 → g9 j = lG tx ((ty + 1) / 2) mNeg ((ty + 1) / 2) j) ∧ okG fi9 g9 ∧ (lG tx ((ty + 1) / 2) (aB gr 10) ((ty + 1) / 2)) = g9 := ⟨_, lG_ext tx _ (aB_neg gr) _, hGfi, rfl⟩
        rw [e9, e9g] at hM9
        have hKB1 : ∀ k, k < nb → okB (mSave f st) k := fun k hk => okB_same (hKB k hk) (fun w hw => mSave_low f st (by omega)) (mSave_low f st (by decide))
        have hKO1 : ∀ k, k < nl → okO (mSave f st) k := fun k hk => okO_same (hKO k hk) (fun w hw => mSave_low f st (by omega))
        refine k_aload_n C dX7_settle_33 rfl (j := 0) rfl ?_
        refine k_callVv C (As := []) (rest := []) 73 (m_X7_saves l D cI cC cZ cB cJ ad N G5 f kp tx fi9 gr9 st ty (mTh true ((mOpen f)) true) (nI (txWrong (tx, ty))) re nh nb nl (by omega) ⟨hM9.1, hM9.2.1, hM9.2.2.1, hM9.2.2.2.1, hM9.2.2.2.2.1, hM9.2.2.2.2.2⟩ hS0 ) gX7_settle_X7_saves rfl kd_X7_saves rfl rfl ⟨Nat.le_of_ble_eq_true rfl, Nat.le_of_ble_eq_true rfl⟩ (by omega) hM9.1 rfl rfl rfl (Nat.le_of_ble_eq_true rfl) ⟨Nat.zero_le _, Nat.zero_le _⟩ dX7_settle_34 (fun G6 hG6 => ?_)
        obtain ⟨hM_G6, hf_G6⟩ := hG6
        refine k_aload_n C dX7_settle_37 rfl (j := 0) rfl ?_
        refine k_callVi C (As := []) (rest := []) 73 (m_X7_wins l D cI cC cZ cB cJ ad N G6 (mSave f st) kp tx fi9 gr9 (mSt st) ty (mTh true ((mOpen f)) true) (nI (txWrong (tx, ty))) re nh nb nl (by omega) ⟨hM_G6.1, hM_G6.2.1, hM_G6.2.2.1, hM_G6.2.2.2.1, hM_G6.2.2.2.2.1, hM_G6.2.2.2.2.2⟩ ⟨(mSave_low f st (by decide)).trans hH.1, hH.2⟩ ⟨(mSave_low f st (by decide)).trans hB.1, hB.2⟩ ⟨(mSave_low f st (by decide)).trans hL.1, hL.2⟩ hOG hKB1 hKO1 ) gX7_settle_X7_wins rfl kd_X7_wins rfl rfl ⟨Nat.le_of_ble_eq_true rfl, Nat.le_of_ble_eq_true rfl⟩ (by omega) hM_G6.1 rfl rfl rfl (Nat.le_of_ble_eq_true rfl) ⟨Nat.zero_le _, Nat.zero_le _⟩ dX7_settle_38 (fun r_38 G7 hG7 => ?_)
        obtain ⟨e_r_38, re_G7, hM_G7, hf_G7⟩ := hG7
        subst e_r_38
        refine k_istore_n C (lv' := [(1, .int (mWins (mSave f st) fi9 gr9 nh nb nl)), (0, .ref (ad 73))]) dX7_settle_41 rfl (by decide) rfl ?_
        refine k_aload_n C dX7_settle_42 rfl (j := 1) rfl ?_
        refine k_get C 73 inX7_settle_7 (by omega) hM_G7.1 rfl 0 (by decide) (List.mem_of_getElem? (i := 1) rfl) rfl rfl dX7_settle_43 ?_
        refine k_sipush C (v := 288) dX7_settle_46 (by decide) ?_
        refine k_iconst C (v := 0) dX7_settle_49 (by decide) ?_
        refine k_iastN C 74 0 (by omega) hM_G7.2.1 rfl 288 rfl (by omega) (Nat.le_of_ble_eq_true rfl) dX7_settle_50 (fun G8 hG8 => ?_)
        have h_73_G8 : G8 73 = .inr (7, [.ref (ad 74), .int (nI (mSt st)), .ref (ad 75), .int (mTh true ((mOpen f)) true), .ref (ad 76), .int (nI ty), .int (nI (txWrong (tx, ty))), .ref (ad 77), .ref (ad 78), .int re_G7]) := up_at hG8 hM_G7.1 (by omega)
        have h_75_G8 : G8 75 = .inl (cZ, 2, .inl kp) := up_at hG8 hM_G7.2.2.1 (by omega)
        have h_76_G8 : G8 76 = .inl (cC, 30, .inl tx) := up_at hG8 hM_G7.2.2.2.1 (by omega)
        have h_77_G8 : G8 77 = .inl (cI, 10, .inl fi9) := up_at hG8 hM_G7.2.2.2.2.1 (by omega)
        have h_78_G8 : G8 78 = .inl (cI, 10, .inl gr9) := up_at hG8 hM_G7.2.2.2.2.2 (by omega)
        have h_74_G8 : G8 74 = .inl (cI, 2610, .inl (upd (mSave f st) 288 0)) := up_it hG8
        refine k_aload_n C dX7_settle_51 rfl (j := 1) rfl ?_
        refine k_get C 73 inX7_settle_7 (by omega) h_73_G8 rfl 0 (by decide) (List.mem_of_getElem? (i := 1) rfl) rfl rfl dX7_settle_52 ?_
        refine k_sipush C (v := 289) dX7_settle_55 (by decide) ?_
        refine k_iconst C (v := 0) dX7_settle_58 (by decide) ?_
        refine k_iastN C 74 0 (by omega) h_74_G8 rfl 289 rfl (by omega) (Nat.le_of_ble_eq_true rfl) dX7_settle_59 (fun G9 hG9 => ?_)
        have h_73_G9 : G9 73 = .inr (7, [.ref (ad 74), .int (nI (mSt st)), .ref (ad 75), .int (mTh true ((mOpen f)) true), .ref (ad 76), .int (nI ty), .int (nI (txWrong (tx, ty))), .ref (ad 77), .ref (ad 78), .int re_G7]) := up_at hG9 h_73_G8 (by omega)
        have h_75_G9 : G9 75 = .inl (cZ, 2, .inl kp) := up_at hG9 h_75_G8 (by omega)
        have h_76_G9 : G9 76 = .inl (cC, 30, .inl tx) := up_at hG9 h_76_G8 (by omega)
        have h_77_G9 : G9 77 = .inl (cI, 10, .inl fi9) := up_at hG9 h_77_G8 (by omega)
        have h_78_G9 : G9 78 = .inl (cI, 10, .inl gr9) := up_at hG9 h_78_G8 (by omega)
        have h_74_G9 : G9 74 = .inl (cI, 2610, .inl (upd (upd (mSave f st) 288 0) 289 0)) := up_it hG9
        refine k_iconst C (v := 0) dX7_settle_60 (by decide) ?_
        refine k_istore_n C (lv' := [(2, .int 0), (1, .int (mWins (mSave f st) fi9 gr9 nh nb nl)), (0, .ref (ad 73))]) dX7_settle_61 rfl (by decide) rfl ?_
        have loop62 : ∀ (k : Nat) (i : Nat) (re2 : Int32) (G2 : Nat → va_E), (nb + 1 ≤ i + k) → (i ≤ nb) → (isMo ad cI cC cZ G2 (mS1 (mSave f st) fi9 gr9 nh i) kp tx fi9 gr9 (mSt st) ty (mTh true (mOpen f) true) (nI (txWrong (tx, ty))) re2) → (∀ j, (j < 73 ∨ 79 ≤ j) → G2 j = G j) → kJ p l e rX7_settle s m args below meth c 0 0 Q 3 D ad N A G2 62 [(0, .ref (ad 73)), (1, .int (mWins (mSave f st) fi9 gr9 nh nb nl)), (2, .int (nI i))] [] := by
          intro k
          induction k with
          | zero => intro i re2 G2 h1 h2 hM2 hfr; exact absurd h1 (by omega)
          | succ k ih62 =>
            intro i re2 G2 h1 h2 hM2 hfr
            refine k_iload_n C dX7_settle_62 rfl (j := 2) rfl ?_
            refine k_aload_n C dX7_settle_63 rfl (j := 0) rfl ?_
            refine k_get C 73 inX7_settle_7 (by omega) hM2.1 rfl 0 (by decide) (List.mem_of_getElem? (i := 1) rfl) rfl rfl dX7_settle_64 ?_
            refine k_iconst C (v := 1) dX7_settle_67 (by decide) ?_
            refine k_ialdN C 74 0 (by omega) hM2.2.1 rfl 1 rfl (by omega) (Nat.le_of_ble_eq_true rfl) dX7_settle_68 ?_
            refine k_icmp_ge C 131 dX7_settle_69 (by decide) (fun c_69 => ?_) (fun c_69 => ?_)
            · skip
              rw [(show mS1 (mSave f st) fi9 gr9 nh i 1 = nI nb from (mS1_lo _ _ _ _ (Or.inl (by decide)) i (by omega)).trans ((mSave_low f st (by decide)).trans hB.1))] at c_69
              have hi2 : nb = i := (k_ge c_69 (by omega) (by omega)).symm
              subst hi2
              refine k_iconst C (v := 0) dX7_settle_131 (by decide) ?_
              refine k_istore_n C (lv' := [(2, .int 0), (0, .ref (ad 73)), (1, .int (mWins (mSave f st) fi9 gr9 nh nb nl))]) dX7_settle_132 rfl (by decide) rfl ?_
              have loop133 : ∀ (k : Nat) (i : Nat) (G2 : Nat → va_E), (nl + 1 ≤ i + k) → (i ≤ nl) → (isMo ad cI cC cZ G2 (mS2 (mSave f st) fi9 gr9 nh nb i) kp tx fi9 gr9 (mSt st) ty (mTh true (mOpen f) true) (nI (txWrong (tx, ty))) re2) → (∀ j, (j < 73 ∨ 79 ≤ j) → G2 j = G j) → kJ p l e rX7_settle s m args below meth c 0 0 Q 3 D ad N A G2 133 [(0, .ref (ad 73)), (1, .int (mWins (mSave f st) fi9 gr9 nh nb nl)), (2, .int (nI i))] [] := by
                intro k
                induction k with
                | zero => intro i G2 h3 h2 hM2 hfr; exact absurd h3 (by omega)
                | succ k ih133 =>
                  intro i G2 h3 h2 hM2 hfr
                  refine k_iload_n C dX7_settle_133 rfl (j := 2) rfl ?_
                  refine k_aload_n C dX7_settle_134 rfl (j := 0) rfl ?_
                  refine k_get C 73 inX7_settle_7 (by omega) hM2.1 rfl 0 (by decide) (List.mem_of_getElem? (i := 1) rfl) rfl rfl dX7_settle_135 ?_
                  refine k_iconst C (v := 2) dX7_settle_138 (by decide) ?_
                  refine k_ialdN C 74 0 (by omega) hM2.2.1 rfl 2 rfl (by omega) (Nat.le_of_ble_eq_true rfl) dX7_settle_139 ?_
                  refine k_icmp_ge C 185 dX7_settle_140 (by decide) (fun c_140 => ?_) (fun c_140 => ?_)
                  · skip
                    rw [(show mS2 (mSave f st) fi9 gr9 nh nb i 2 = nI nl from (mS2_lo _ _ _ _ _ hnb (by decide) i).trans ((mSave_low f st (by decide)).trans hL.1))] at c_140
                    have hi2 : nl = i := (k_ge c_140 (by omega) (by omega)).symm
                    subst hi2
                    refine k_iconst C (v := 0) dX7_settle_185 (by decide) ?_
                    refine k_istore_n C (lv' := [(2, .int 0), (0, .ref (ad 73)), (1, .int (mWins (mSave f st) fi9 gr9 nh nb nl))]) dX7_settle_186 rfl (by decide) rfl ?_
                    have loop187 : ∀ (k : Nat) (i : Nat) (G2 : Nat → va_E), (10 + 1 ≤ i + k) → (i ≤ 10) → (isMo ad cI cC cZ G2 (mS3 (mSave f st) fi9 gr9 nh nb nl i) kp tx fi9 gr9 (mSt st) ty (mTh true (mOpen f) true) (nI (txWrong (tx, ty))) re2) → (∀ j, (j < 73 ∨ 79 ≤ j) → G2 j = G j) → kJ p l e rX7_settle s m args below meth c 0 0 Q 3 D ad N A G2 187 [(0, .ref (ad 73)), (1, .int (mWins (mSave f st) fi9 gr9 nh nb nl)), (2, .int (nI i))] [] := by
                      intro k
                      induction k with
                      | zero => intro i G2 h4 h2 hM2 hfr; exact absurd h4 (by omega)
                      | succ k ih187 =>
                        intro i G2 h4 h2 hM2 hfr
                        refine k_iload_n C dX7_settle_187 rfl (j := 2) rfl ?_
                        refine k_bipush C (v := 10) dX7_settle_188 (by decide) ?_
                        refine k_icmp_ge C 229 dX7_settle_190 (by decide) (fun c_190 => ?_) (fun c_190 => ?_)
                        · skip
                          have hi2 : 10 = i := (k_ge (n := 10) c_190 (by omega) (by omega)).symm
                          subst hi2
                          refine k_aload_n C dX7_settle_229 rfl (j := 0) rfl ?_
                          refine k_get C 73 inX7_settle_7 (by omega) hM2.1 rfl 0 (by decide) (List.mem_of_getElem? (i := 1) rfl) rfl rfl dX7_settle_230 ?_
                          refine k_iconst C (v := 3) dX7_settle_233 (by decide) ?_
                          refine k_iconst C (v := 1) dX7_settle_234 (by decide) ?_
                          refine k_iastN C 74 0 (by omega) hM2.2.1 rfl 3 rfl (by omega) (Nat.le_of_ble_eq_true rfl) dX7_settle_235 (fun G10 hG10 => ?_)
                          have h_73_G10 : G10 73 = .inr (7, [.ref (ad 74), .int (nI (mSt st)), .ref (ad 75), .int (mTh true (mOpen f) true), .ref (ad 76), .int (nI ty), .int (nI (txWrong (tx, ty))), .ref (ad 77), .ref (ad 78), .int re2]) := up_at hG10 hM2.1 (by omega)
                          have h_75_G10 : G10 75 = .inl (cZ, 2, .inl kp) := up_at hG10 hM2.2.2.1 (by omega)
                          have h_76_G10 : G10 76 = .inl (cC, 30, .inl tx) := up_at hG10 hM2.2.2.2.1 (by omega)
                          have h_77_G10 : G10 77 = .inl (cI, 10, .inl fi9) := up_at hG10 hM2.2.2.2.2.1 (by omega)
                          have h_78_G10 : G10 78 = .inl (cI, 10, .inl gr9) := up_at hG10 hM2.2.2.2.2.2 (by omega)
                          have h_74_G10 : G10 74 = .inl (cI, 2610, .inl (upd (mS3 (mSave f st) fi9 gr9 nh nb nl 10) 3 1)) := up_it hG10
                          refine k_aload_n C dX7_settle_236 rfl (j := 0) rfl ?_
                          refine k_iconst C (v := 0) dX7_settle_237 (by decide) ?_
                          refine k_put C 73 inX7_settle_7 tyX7 tyX7_ok nmX7 (by omega) h_73_G10 rfl 5 (by decide) (List.mem_of_getElem? (i := 5) rfl) rfl rfl rfl rfl (Nat.le_of_ble_eq_true rfl) dX7_settle_238 (fun G11 hG11 => ?_)
                          have h_75_G11 : G11 75 = .inl (cZ, 2, .inl kp) := up_at hG11 h_75_G10 (by omega)
                          have h_76_G11 : G11 76 = .inl (cC, 30, .inl tx) := up_at hG11 h_76_G10 (by omega)
                          have h_77_G11 : G11 77 = .inl (cI, 10, .inl fi9) := up_at hG11 h_77_G10 (by omega)
                          have h_78_G11 : G11 78 = .inl (cI, 10, .inl gr9) := up_at hG11 h_78_G10 (by omega)
                          have h_74_G11 : G11 74 = .inl (cI, 2610, .inl (upd (mS3 (mSave f st) fi9 gr9 nh nb nl 10) 3 1)) := up_at hG11 h_74_G10 (by omega)
                          have h_73_G11 : G11 73 = .inr (7, [.ref (ad 74), .int (nI (mSt st)), .ref (ad 75), .int (mTh true (mOpen f) true), .ref (ad 76), .int 0, .int (nI (txWrong (tx, ty))), .ref (ad 77), .ref (ad 78), .int re2]) := up_it hG11
                          refine k_iload_n C dX7_settle_241 rfl (j := 1) rfl ?_
                          refine k_ldc C (v := 10000000) dX7_settle_242 (List.mem_of_getElem? (i := 6) rfl) ?_
                          refine k_iadd C dX7_settle_244 ?_
                          exact k_iret C hQ rfl rfl dX7_settle_245 ⟨fun _ => ⟨by rw [mAW, ← mWins_ext hKB1 hKO1 hfi9 hgr9], fi9, gr9, (nI (txWrong (tx, ty))), re2, by rw [hAr, mDone, mFin, ← mS3_ext nh nb nl hB.2 hL.2 hKB1 hKO1 hfi9 hgr9 10 (Nat.le_refl _)]; exact ⟨h_73_G11, h_74_G11, h_75_G11, h_76_G11, h_77_G11, h_78_G11⟩⟩, fun h9 => absurd hT h9, fun j hj => (show _ = _ from by rw [hG11, up_ne (by omega)]).trans ((show _ = _ from by rw [hG10, up_ne (by omega)]).trans (hfr j hj))⟩
                        · skip
                          have hi3 : i < 10 := k_lt (n := 10) c_190 (by omega) (by omega)
                          refine k_aload_n C dX7_settle_193 rfl (j := 0) rfl ?_
                          refine k_get C 73 inX7_settle_7 (by omega) hM2.1 rfl 0 (by decide) (List.mem_of_getElem? (i := 1) rfl) rfl rfl dX7_settle_194 ?_
                          refine k_bipush C (v := 46) dX7_settle_197 (by decide) ?_
                          refine k_iload_n C dX7_settle_199 rfl (j := 2) rfl ?_
                          refine k_iadd C dX7_settle_200 ?_
                          refine k_aload_n C dX7_settle_201 rfl (j := 0) rfl ?_
                          refine k_get C 73 inX7_settle_7 (by omega) hM2.1 rfl 7 (by decide) (List.mem_of_getElem? (i := 3) rfl) rfl rfl dX7_settle_202 ?_
                          refine k_iload_n C dX7_settle_205 rfl (j := 2) rfl ?_
                          refine k_ialdN C 77 0 (by omega) hM2.2.2.2.2.1 rfl i rfl (by omega) (Nat.le_of_ble_eq_true rfl) dX7_settle_206 ?_
                          refine k_iastN C 74 0 (by omega) hM2.2.1 rfl (46 + i) (knAdd rfl rfl) (by omega) (Nat.le_of_ble_eq_true rfl) dX7_settle_207 (fun G12 hG12 => ?_)
                          have h_73_G12 : G12 73 = .inr (7, [.ref (ad 74), .int (nI (mSt st)), .ref (ad 75), .int (mTh true (mOpen f) true), .ref (ad 76), .int (nI ty), .int (nI (txWrong (tx, ty))), .ref (ad 77), .ref (ad 78), .int re2]) := up_at hG12 hM2.1 (by omega)
                          have h_75_G12 : G12 75 = .inl (cZ, 2, .inl kp) := up_at hG12 hM2.2.2.1 (by omega)
                          have h_76_G12 : G12 76 = .inl (cC, 30, .inl tx) := up_at hG12 hM2.2.2.2.1 (by omega)
                          have h_77_G12 : G12 77 = .inl (cI, 10, .inl fi9) := up_at hG12 hM2.2.2.2.2.1 (by omega)
                          have h_78_G12 : G12 78 = .inl (cI, 10, .inl gr9) := up_at hG12 hM2.2.2.2.2.2 (by omega)
                          have h_74_G12 : G12 74 = .inl (cI, 2610, .inl (upd (mS3 (mSave f st) fi9 gr9 nh nb nl i) (46 + i) (fi9 i))) := up_it hG12
                          refine k_aload_n C dX7_settle_208 rfl (j := 0) rfl ?_
                          refine k_get C 73 inX7_settle_7 (by omega) h_73_G12 rfl 0 (by decide) (List.mem_of_getElem? (i := 1) rfl) rfl rfl dX7_settle_209 ?_
                          refine k_bipush C (v := 56) dX7_settle_212 (by decide) ?_
                          refine k_iload_n C dX7_settle_214 rfl (j := 2) rfl ?_
                          refine k_iadd C dX7_settle_215 ?_
                          refine k_aload_n C dX7_settle_216 rfl (j := 0) rfl ?_
                          refine k_get C 73 inX7_settle_7 (by omega) h_73_G12 rfl 8 (by decide) (List.mem_of_getElem? (i := 4) rfl) rfl rfl dX7_settle_217 ?_
                          refine k_iload_n C dX7_settle_220 rfl (j := 2) rfl ?_
                          refine k_ialdN C 78 0 (by omega) h_78_G12 rfl i rfl (by omega) (Nat.le_of_ble_eq_true rfl) dX7_settle_221 ?_
                          refine k_iastN C 74 0 (by omega) h_74_G12 rfl (56 + i) (knAdd rfl rfl) (by omega) (Nat.le_of_ble_eq_true rfl) dX7_settle_222 (fun G13 hG13 => ?_)
                          have h_73_G13 : G13 73 = .inr (7, [.ref (ad 74), .int (nI (mSt st)), .ref (ad 75), .int (mTh true (mOpen f) true), .ref (ad 76), .int (nI ty), .int (nI (txWrong (tx, ty))), .ref (ad 77), .ref (ad 78), .int re2]) := up_at hG13 h_73_G12 (by omega)
                          have h_75_G13 : G13 75 = .inl (cZ, 2, .inl kp) := up_at hG13 h_75_G12 (by omega)
                          have h_76_G13 : G13 76 = .inl (cC, 30, .inl tx) := up_at hG13 h_76_G12 (by omega)
                          have h_77_G13 : G13 77 = .inl (cI, 10, .inl fi9) := up_at hG13 h_77_G12 (by omega)
                          have h_78_G13 : G13 78 = .inl (cI, 10, .inl gr9) := up_at hG13 h_78_G12 (by omega)
                          have h_74_G13 : G13 74 = .inl (cI, 2610, .inl (mS3 (mSave f st) fi9 gr9 nh nb nl (i + 1))) := by rw [up_it hG13]; rw [mS3_s]
                          refine k_iinc C (v := nI (i + 1)) (lv' := [(2, .int (nI (i + 1))), (0, .ref (ad 73)), (1, .int (mWins (mSave f st) fi9 gr9 nh nb nl))]) dX7_settle_223 (j := 2) rfl (nI_1 i) (by decide) rfl ?_
                          refine k_goto C 187 dX7_settle_226 (by decide) ?_
                          exact k_sub [1, 2, 0] rfl (ih187 (i + 1) G13 (by omega) (by omega) ⟨h_73_G13, h_74_G13, h_75_G13, h_76_G13, h_77_G13, h_78_G13⟩ (fun j hj => (show _ = _ from by rw [hG13, up_ne (by omega)]).trans ((show _ = _ from by rw [hG12, up_ne (by omega)]).trans (hfr j hj))))
                    exact k_sub [1, 2, 0] rfl (loop187 (10 + 1) 0 G2 (by omega) (by omega) ⟨hM2.1, hM2.2.1, hM2.2.2.1, hM2.2.2.2.1, hM2.2.2.2.2.1, hM2.2.2.2.2.2⟩ (fun j hj => hfr j hj))
                  · skip
                    rw [(show mS2 (mSave f st) fi9 gr9 nh nb i 2 = nI nl from (mS2_lo _ _ _ _ _ hnb (by decide) i).trans ((mSave_low f st (by decide)).trans hL.1))] at c_140
                    have hi3 : i < nl := k_lt c_140 (by omega) (by omega)
                    refine k_aload_n C dX7_settle_143 rfl (j := 0) rfl ?_
                    refine k_get C 73 inX7_settle_7 (by omega) hM2.1 rfl 0 (by decide) (List.mem_of_getElem? (i := 1) rfl) rfl rfl dX7_settle_144 ?_
                    refine k_iload_n C dX7_settle_147 rfl (j := 2) rfl ?_
                    refine k_iconst C (v := 4) dX7_settle_148 (by decide) ?_
                    refine k_callSir C (As := [.int (nI i), .int 4]) (rest := [.ref (ad 74)]) (m_X7_off l D cI cC cZ cB cJ ad N G2 (nI i) 4) gX7_settle_X7_off rfl kd_X7_off rfl rfl ⟨Nat.le_of_ble_eq_true rfl, Nat.le_of_ble_eq_true rfl⟩ rfl rfl (Nat.le_of_ble_eq_true rfl) ⟨Nat.zero_le _, Nat.zero_le _⟩ dX7_settle_149 ?_
                    refine k_aload_n C dX7_settle_152 rfl (j := 0) rfl ?_
                    refine k_iload_n C dX7_settle_153 rfl (j := 2) rfl ?_
                    refine k_callVir C (As := [.int (nI i)]) (rest := [.int (258 + 5 * (nI i) + 4), .ref (ad 74)]) 73 (m_X7_returnsOff l D cI cC cZ cB cJ ad N G2 (mS2 (mSave f st) fi9 gr9 nh nb i) kp tx fi9 gr9 (mSt st) ty (mTh true (mOpen f) true) (nI (txWrong (tx, ty))) re2 nh nb nl i (by omega) ⟨hM2.1, hM2.2.1, hM2.2.2.1, hM2.2.2.2.1, hM2.2.2.2.2.1, hM2.2.2.2.2.2⟩ hOG (by omega) (okO_S2 fi9 gr9 nh nb hnb (hKO1 i hi3) (by omega) (by omega))) gX7_settle_X7_returnsOff rfl kd_X7_returnsOff rfl rfl ⟨Nat.le_of_ble_eq_true rfl, Nat.le_of_ble_eq_true rfl⟩ (by omega) hM2.1 rfl rfl rfl (Nat.le_of_ble_eq_true rfl) ⟨Nat.zero_le _, Nat.zero_le _⟩ dX7_settle_154 ?_
                    refine k_iastN C 74 0 (by omega) hM2.2.1 rfl ((258 + (5 * i)) + 4) (knAdd (knAdd rfl (knMul rfl rfl)) rfl) (by omega) (Nat.le_of_ble_eq_true rfl) dX7_settle_157 (fun G14 hG14 => ?_)
                    have h_73_G14 : G14 73 = .inr (7, [.ref (ad 74), .int (nI (mSt st)), .ref (ad 75), .int (mTh true (mOpen f) true), .ref (ad 76), .int (nI ty), .int (nI (txWrong (tx, ty))), .ref (ad 77), .ref (ad 78), .int re2]) := up_at hG14 hM2.1 (by omega)
                    have h_75_G14 : G14 75 = .inl (cZ, 2, .inl kp) := up_at hG14 hM2.2.2.1 (by omega)
                    have h_76_G14 : G14 76 = .inl (cC, 30, .inl tx) := up_at hG14 hM2.2.2.2.1 (by omega)
                    have h_77_G14 : G14 77 = .inl (cI, 10, .inl fi9) := up_at hG14 hM2.2.2.2.2.1 (by omega)
                    have h_78_G14 : G14 78 = .inl (cI, 10, .inl gr9) := up_at hG14 hM2.2.2.2.2.2 (by omega)
                    have h_74_G14 : G14 74 = .inl (cI, 2610, .inl (upd (mS2 (mSave f st) fi9 gr9 nh nb i) ((258 + (5 * i)) + 4) (mOffRet (mS2 (mSave f st) fi9 gr9 nh nb i) fi9 gr9 i))) := up_it hG14
                    refine k_aload_n C dX7_settle_158 rfl (j := 0) rfl ?_
                    refine k_get C 73 inX7_settle_7 (by omega) h_73_G14 rfl 0 (by decide) (List.mem_of_getElem? (i := 1) rfl) rfl rfl dX7_settle_159 ?_
                    refine k_sipush C (v := 289) dX7_settle_162 (by decide) ?_
                    refine k_dup2 C dX7_settle_165 rfl rfl ?_
                    refine k_ialdN C 74 0 (by omega) h_74_G14 rfl 289 rfl (by omega) (Nat.le_of_ble_eq_true rfl) dX7_settle_166 ?_
                    refine k_aload_n C dX7_settle_167 rfl (j := 0) rfl ?_
                    refine k_get C 73 inX7_settle_7 (by omega) h_73_G14 rfl 0 (by decide) (List.mem_of_getElem? (i := 1) rfl) rfl rfl dX7_settle_168 ?_
                    refine k_iload_n C dX7_settle_171 rfl (j := 2) rfl ?_
                    refine k_iconst C (v := 4) dX7_settle_172 (by decide) ?_
                    refine k_callSir C (As := [.int (nI i), .int 4]) (rest := [.ref (ad 74), .int ((upd (mS2 (mSave f st) fi9 gr9 nh nb i) ((258 + (5 * i)) + 4) (mOffRet (mS2 (mSave f st) fi9 gr9 nh nb i) fi9 gr9 i)) 289), .int 289, .ref (ad 74)]) (m_X7_off l D cI cC cZ cB cJ ad N G14 (nI i) 4) gX7_settle_X7_off rfl kd_X7_off rfl rfl ⟨Nat.le_of_ble_eq_true rfl, Nat.le_of_ble_eq_true rfl⟩ rfl rfl (Nat.le_of_ble_eq_true rfl) ⟨Nat.zero_le _, Nat.zero_le _⟩ dX7_settle_173 ?_
                    refine k_ialdN C 74 0 (by omega) h_74_G14 rfl ((258 + (5 * i)) + 4) (knAdd (knAdd rfl (knMul rfl rfl)) rfl) (by omega) (Nat.le_of_ble_eq_true rfl) dX7_settle_176 ?_
                    refine k_iadd C dX7_settle_177 ?_
                    refine k_congS (st' := [.int (mS2 (mSave f st) fi9 gr9 nh nb i 289 + mOffRet (mS2 (mSave f st) fi9 gr9 nh nb i) fi9 gr9 i), .int 289, .ref (ad 74)]) (congrArg (fun (z9 : Int32) => ([.int z9, .int 289, .ref (ad 74)] : List Value)) (show (((upd (mS2 (mSave f st) fi9 gr9 nh nb i) ((258 + (5 * i)) + 4) (mOffRet (mS2 (mSave f st) fi9 gr9 nh nb i) fi9 gr9 i)) 289) + ((upd (mS2 (mSave f st) fi9 gr9 nh nb i) ((258 + (5 * i)) + 4) (mOffRet (mS2 (mSave f st) fi9 gr9 nh nb i) fi9 gr9 i)) ((258 + (5 * i)) + 4)) : Int32) = mS2 (mSave f st) fi9 gr9 nh nb i 289 + mOffRet (mS2 (mSave f st) fi9 gr9 nh nb i) fi9 gr9 i from by rw [pk_un (show (289 : Nat) ≠ 258 + 5 * i + 4 by omega), pk_us])) ?_
                    refine k_iastN C 74 0 (by omega) h_74_G14 rfl 289 rfl (by omega) (Nat.le_of_ble_eq_true rfl) dX7_settle_178 (fun G15 hG15 => ?_)
                    have h_73_G15 : G15 73 = .inr (7, [.ref (ad 74), .int (nI (mSt st)), .ref (ad 75), .int (mTh true (mOpen f) true), .ref (ad 76), .int (nI ty), .int (nI (txWrong (tx, ty))), .ref (ad 77), .ref (ad 78), .int re2]) := up_at hG15 h_73_G14 (by omega)
                    have h_75_G15 : G15 75 = .inl (cZ, 2, .inl kp) := up_at hG15 h_75_G14 (by omega)
                    have h_76_G15 : G15 76 = .inl (cC, 30, .inl tx) := up_at hG15 h_76_G14 (by omega)
                    have h_77_G15 : G15 77 = .inl (cI, 10, .inl fi9) := up_at hG15 h_77_G14 (by omega)
                    have h_78_G15 : G15 78 = .inl (cI, 10, .inl gr9) := up_at hG15 h_78_G14 (by omega)
                    have h_74_G15 : G15 74 = .inl (cI, 2610, .inl (mS2 (mSave f st) fi9 gr9 nh nb (i + 1))) := by rw [up_it hG15]; rw [mS2_s]
                    refine k_iinc C (v := nI (i + 1)) (lv' := [(2, .int (nI (i + 1))), (0, .ref (ad 73)), (1, .int (mWins (mSave f st) fi9 gr9 nh nb nl))]) dX7_settle_179 (j := 2) rfl (nI_1 i) (by decide) rfl ?_
                    refine k_goto C 133 dX7_settle_182 (by decide) ?_
                    exact k_sub [1, 2, 0] rfl (ih133 (i + 1) G15 (by omega) (by omega) ⟨h_73_G15, h_74_G15, h_75_G15, h_76_G15, h_77_G15, h_78_G15⟩ (fun j hj => (show _ = _ from by rw [hG15, up_ne (by omega)]).trans ((show _ = _ from by rw [hG14, up_ne (by omega)]).trans (hfr j hj))))
              exact k_sub [1, 2, 0] rfl (loop133 (nl + 1) 0 G2 (by omega) (by omega) ⟨hM2.1, hM2.2.1, hM2.2.2.1, hM2.2.2.2.1, hM2.2.2.2.2.1, hM2.2.2.2.2.2⟩ (fun j hj => hfr j hj))
            · skip
              rw [(show mS1 (mSave f st) fi9 gr9 nh i 1 = nI nb from (mS1_lo _ _ _ _ (Or.inl (by decide)) i (by omega)).trans ((mSave_low f st (by decide)).trans hB.1))] at c_69
              have hi3 : i < nb := k_lt c_69 (by omega) (by omega)
              refine k_aload_n C dX7_settle_72 rfl (j := 0) rfl ?_
              refine k_get C 73 inX7_settle_7 (by omega) hM2.1 rfl 0 (by decide) (List.mem_of_getElem? (i := 1) rfl) rfl rfl dX7_settle_73 ?_
              refine k_iload_n C dX7_settle_76 rfl (j := 2) rfl ?_
              refine k_bipush C (v := 6) dX7_settle_77 (by decide) ?_
              refine k_callSir C (As := [.int (nI i), .int 6]) (rest := [.ref (ad 74)]) (m_X7_of l D cI cC cZ cB cJ ad N G2 (nI i) 6) gX7_settle_X7_of rfl kd_X7_of rfl rfl ⟨Nat.le_of_ble_eq_true rfl, Nat.le_of_ble_eq_true rfl⟩ rfl rfl (Nat.le_of_ble_eq_true rfl) ⟨Nat.zero_le _, Nat.zero_le _⟩ dX7_settle_79 ?_
              refine k_aload_n C dX7_settle_82 rfl (j := 0) rfl ?_
              refine k_iload_n C dX7_settle_83 rfl (j := 2) rfl ?_
              refine k_callVi C (As := [.int (nI i)]) (rest := [.int (66 + 8 * (nI i) + 6), .ref (ad 74)]) 73 (m_X7_returns l D cI cC cZ cB cJ ad N G2 (mS1 (mSave f st) fi9 gr9 nh i) kp tx fi9 gr9 (mSt st) ty (mTh true (mOpen f) true) (nI (txWrong (tx, ty))) re2 nh nb nl i (by omega) ⟨hM2.1, hM2.2.1, hM2.2.2.1, hM2.2.2.2.1, hM2.2.2.2.2.1, hM2.2.2.2.2.2⟩ ⟨(mS1_lo _ _ _ _ (Or.inl (by decide)) i (by omega)).trans ((mSave_low f st (by decide)).trans hH.1), hH.2⟩ hOG (by omega) (okB_S1 fi9 gr9 nh (hKB1 i hi3) (by omega) (by omega))) gX7_settle_X7_returns rfl kd_X7_returns rfl rfl ⟨Nat.le_of_ble_eq_true rfl, Nat.le_of_ble_eq_true rfl⟩ (by omega) hM2.1 rfl rfl rfl (Nat.le_of_ble_eq_true rfl) ⟨Nat.zero_le _, Nat.zero_le _⟩ dX7_settle_84 (fun r_84 G16 hG16 => ?_)
              obtain ⟨e_r_84, hM_G16, hf_G16⟩ := hG16
              subst e_r_84
              refine k_iastN C 74 0 (by omega) hM_G16.2.1 rfl ((66 + (8 * i)) + 6) (knAdd (knAdd rfl (knMul rfl rfl)) rfl) (by omega) (Nat.le_of_ble_eq_true rfl) dX7_settle_87 (fun G17 hG17 => ?_)
              have h_73_G17 : G17 73 = .inr (7, [.ref (ad 74), .int (nI (mSt st)), .ref (ad 75), .int (mTh true (mOpen f) true), .ref (ad 76), .int (nI ty), .int (nI (txWrong (tx, ty))), .ref (ad 77), .ref (ad 78), .int (mRea (mS1 (mSave f st) fi9 gr9 nh i) fi9 gr9 nh i)]) := up_at hG17 hM_G16.1 (by omega)
              have h_75_G17 : G17 75 = .inl (cZ, 2, .inl kp) := up_at hG17 hM_G16.2.2.1 (by omega)
              have h_76_G17 : G17 76 = .inl (cC, 30, .inl tx) := up_at hG17 hM_G16.2.2.2.1 (by omega)
              have h_77_G17 : G17 77 = .inl (cI, 10, .inl fi9) := up_at hG17 hM_G16.2.2.2.2.1 (by omega)
              have h_78_G17 : G17 78 = .inl (cI, 10, .inl gr9) := up_at hG17 hM_G16.2.2.2.2.2 (by omega)
              have h_74_G17 : G17 74 = .inl (cI, 2610, .inl (upd (mS1 (mSave f st) fi9 gr9 nh i) ((66 + (8 * i)) + 6) (mRet (mS1 (mSave f st) fi9 gr9 nh i) fi9 gr9 nh i))) := up_it hG17
              refine k_aload_n C dX7_settle_88 rfl (j := 0) rfl ?_
              refine k_get C 73 inX7_settle_7 (by omega) h_73_G17 rfl 0 (by decide) (List.mem_of_getElem? (i := 1) rfl) rfl rfl dX7_settle_89 ?_
              refine k_iload_n C dX7_settle_92 rfl (j := 2) rfl ?_
              refine k_bipush C (v := 7) dX7_settle_93 (by decide) ?_
              refine k_callSir C (As := [.int (nI i), .int 7]) (rest := [.ref (ad 74)]) (m_X7_of l D cI cC cZ cB cJ ad N G17 (nI i) 7) gX7_settle_X7_of rfl kd_X7_of rfl rfl ⟨Nat.le_of_ble_eq_true rfl, Nat.le_of_ble_eq_true rfl⟩ rfl rfl (Nat.le_of_ble_eq_true rfl) ⟨Nat.zero_le _, Nat.zero_le _⟩ dX7_settle_95 ?_
              refine k_aload_n C dX7_settle_98 rfl (j := 0) rfl ?_
              refine k_get C 73 inX7_settle_7 (by omega) h_73_G17 rfl 9 (by decide) (List.mem_of_getElem? (i := 2) rfl) rfl rfl dX7_settle_99 ?_
              refine k_iastN C 74 0 (by omega) h_74_G17 rfl ((66 + (8 * i)) + 7) (knAdd (knAdd rfl (knMul rfl rfl)) rfl) (by omega) (Nat.le_of_ble_eq_true rfl) dX7_settle_102 (fun G18 hG18 => ?_)
              have h_73_G18 : G18 73 = .inr (7, [.ref (ad 74), .int (nI (mSt st)), .ref (ad 75), .int (mTh true (mOpen f) true), .ref (ad 76), .int (nI ty), .int (nI (txWrong (tx, ty))), .ref (ad 77), .ref (ad 78), .int (mRea (mS1 (mSave f st) fi9 gr9 nh i) fi9 gr9 nh i)]) := up_at hG18 h_73_G17 (by omega)
              have h_75_G18 : G18 75 = .inl (cZ, 2, .inl kp) := up_at hG18 h_75_G17 (by omega)
              have h_76_G18 : G18 76 = .inl (cC, 30, .inl tx) := up_at hG18 h_76_G17 (by omega)
              have h_77_G18 : G18 77 = .inl (cI, 10, .inl fi9) := up_at hG18 h_77_G17 (by omega)
              have h_78_G18 : G18 78 = .inl (cI, 10, .inl gr9) := up_at hG18 h_78_G17 (by omega)
              have h_74_G18 : G18 74 = .inl (cI, 2610, .inl (upd (upd (mS1 (mSave f st) fi9 gr9 nh i) ((66 + (8 * i)) + 6) (mRet (mS1 (mSave f st) fi9 gr9 nh i) fi9 gr9 nh i)) ((66 + (8 * i)) + 7) (mRea (mS1 (mSave f st) fi9 gr9 nh i) fi9 gr9 nh i))) := up_it hG18
              refine k_aload_n C dX7_settle_103 rfl (j := 0) rfl ?_
              refine k_get C 73 inX7_settle_7 (by omega) h_73_G18 rfl 0 (by decide) (List.mem_of_getElem? (i := 1) rfl) rfl rfl dX7_settle_104 ?_
              refine k_sipush C (v := 288) dX7_settle_107 (by decide) ?_
              refine k_dup2 C dX7_settle_110 rfl rfl ?_
              refine k_ialdN C 74 0 (by omega) h_74_G18 rfl 288 rfl (by omega) (Nat.le_of_ble_eq_true rfl) dX7_settle_111 ?_
              refine k_aload_n C dX7_settle_112 rfl (j := 0) rfl ?_
              refine k_get C 73 inX7_settle_7 (by omega) h_73_G18 rfl 0 (by decide) (List.mem_of_getElem? (i := 1) rfl) rfl rfl dX7_settle_113 ?_
              refine k_iload_n C dX7_settle_116 rfl (j := 2) rfl ?_
              refine k_bipush C (v := 6) dX7_settle_117 (by decide) ?_
              refine k_callSir C (As := [.int (nI i), .int 6]) (rest := [.ref (ad 74), .int ((upd (upd (mS1 (mSave f st) fi9 gr9 nh i) ((66 + (8 * i)) + 6) (mRet (mS1 (mSave f st) fi9 gr9 nh i) fi9 gr9 nh i)) ((66 + (8 * i)) + 7) (mRea (mS1 (mSave f st) fi9 gr9 nh i) fi9 gr9 nh i)) 288), .int 288, .ref (ad 74)]) (m_X7_of l D cI cC cZ cB cJ ad N G18 (nI i) 6) gX7_settle_X7_of rfl kd_X7_of rfl rfl ⟨Nat.le_of_ble_eq_true rfl, Nat.le_of_ble_eq_true rfl⟩ rfl rfl (Nat.le_of_ble_eq_true rfl) ⟨Nat.zero_le _, Nat.zero_le _⟩ dX7_settle_119 ?_
              refine k_ialdN C 74 0 (by omega) h_74_G18 rfl ((66 + (8 * i)) + 6) (knAdd (knAdd rfl (knMul rfl rfl)) rfl) (by omega) (Nat.le_of_ble_eq_true rfl) dX7_settle_122 ?_
              refine k_iadd C dX7_settle_123 ?_
              refine k_congS (st' := [.int (mS1 (mSave f st) fi9 gr9 nh i 288 + mRet (mS1 (mSave f st) fi9 gr9 nh i) fi9 gr9 nh i), .int 288, .ref (ad 74)]) (congrArg (fun (z9 : Int32) => ([.int z9, .int 288, .ref (ad 74)] : List Value)) (show (((upd (upd (mS1 (mSave f st) fi9 gr9 nh i) ((66 + (8 * i)) + 6) (mRet (mS1 (mSave f st) fi9 gr9 nh i) fi9 gr9 nh i)) ((66 + (8 * i)) + 7) (mRea (mS1 (mSave f st) fi9 gr9 nh i) fi9 gr9 nh i)) 288) + ((upd (upd (mS1 (mSave f st) fi9 gr9 nh i) ((66 + (8 * i)) + 6) (mRet (mS1 (mSave f st) fi9 gr9 nh i) fi9 gr9 nh i)) ((66 + (8 * i)) + 7) (mRea (mS1 (mSave f st) fi9 gr9 nh i) fi9 gr9 nh i)) ((66 + (8 * i)) + 6)) : Int32) = mS1 (mSave f st) fi9 gr9 nh i 288 + mRet (mS1 (mSave f st) fi9 gr9 nh i) fi9 gr9 nh i from by rw [pk_un (show (288 : Nat) ≠ 66 + 8 * i + 7 by omega), pk_un (show (288 : Nat) ≠ 66 + 8 * i + 6 by omega), pk_un (show 66 + 8 * i + 6 ≠ 66 + 8 * i + 7 by omega), pk_us])) ?_
              refine k_iastN C 74 0 (by omega) h_74_G18 rfl 288 rfl (by omega) (Nat.le_of_ble_eq_true rfl) dX7_settle_124 (fun G19 hG19 => ?_)
              have h_73_G19 : G19 73 = .inr (7, [.ref (ad 74), .int (nI (mSt st)), .ref (ad 75), .int (mTh true (mOpen f) true), .ref (ad 76), .int (nI ty), .int (nI (txWrong (tx, ty))), .ref (ad 77), .ref (ad 78), .int (mRea (mS1 (mSave f st) fi9 gr9 nh i) fi9 gr9 nh i)]) := up_at hG19 h_73_G18 (by omega)
              have h_75_G19 : G19 75 = .inl (cZ, 2, .inl kp) := up_at hG19 h_75_G18 (by omega)
              have h_76_G19 : G19 76 = .inl (cC, 30, .inl tx) := up_at hG19 h_76_G18 (by omega)
              have h_77_G19 : G19 77 = .inl (cI, 10, .inl fi9) := up_at hG19 h_77_G18 (by omega)
              have h_78_G19 : G19 78 = .inl (cI, 10, .inl gr9) := up_at hG19 h_78_G18 (by omega)
              have h_74_G19 : G19 74 = .inl (cI, 2610, .inl (mS1 (mSave f st) fi9 gr9 nh (i + 1))) := by rw [up_it hG19]; rw [mS1_s]
              refine k_iinc C (v := nI (i + 1)) (lv' := [(2, .int (nI (i + 1))), (0, .ref (ad 73)), (1, .int (mWins (mSave f st) fi9 gr9 nh nb nl))]) dX7_settle_125 (j := 2) rfl (nI_1 i) (by decide) rfl ?_
              refine k_goto C 62 dX7_settle_128 (by decide) ?_
              exact k_sub [1, 2, 0] rfl (ih62 (i + 1) (mRea (mS1 (mSave f st) fi9 gr9 nh i) fi9 gr9 nh i) G19 (by omega) (by omega) ⟨h_73_G19, h_74_G19, h_75_G19, h_76_G19, h_77_G19, h_78_G19⟩ (fun j hj => (show _ = _ from by rw [hG19, up_ne (by omega)]).trans ((show _ = _ from by rw [hG18, up_ne (by omega)]).trans ((show _ = _ from by rw [hG17, up_ne (by omega)]).trans ((hf_G16 j hj : _).trans (hfr j hj))))))
        exact k_sub [2, 1, 0] rfl (loop62 (nb + 1) 0 re_G7 G9 (by omega) (by omega) ⟨h_73_G9, h_74_G9, h_75_G9, h_76_G9, h_77_G9, h_78_G9⟩ (fun j hj => (show _ = _ from by rw [hG9, up_ne (by omega)]).trans ((show _ = _ from by rw [hG8, up_ne (by omega)]).trans ((hf_G7 j hj : _).trans ((hf_G6 j hj : _).trans ((hf_G5 j hj : _).trans ((hf_G3 j hj : _).trans (hf_G1 j hj))))))))
      · skip
        have c_28 := bI_f c_28
        have hAr : mArr f tx ty = true := by simp [mArr, c_5, c_12]
        have hT : ¬ mTh (mArr f tx ty) (mOpen f) true = 0 := by rw [hAr]; exact of_decide_eq_false c_28
        refine k_iconst C (v := 0) dX7_settle_31 (by decide) ?_
        exact k_iret C hQ rfl rfl dX7_settle_32 ⟨fun h9 => absurd h9 hT, fun _ => ⟨rfl, (lF tx (aB fi 10) ((ty + 1) / 2)), (lG tx ((ty + 1) / 2) (aB gr 10) ((ty + 1) / 2)), (nI (txWrong (tx, ty))), re, by rw [hAr]; exact ⟨hM_G5.1, hM_G5.2.1, hM_G5.2.2.1, hM_G5.2.2.2.1, hM_G5.2.2.2.2.1, hM_G5.2.2.2.2.2⟩⟩, fun j hj => (hf_G5 j hj : _).trans ((hf_G3 j hj : _).trans (hf_G1 j hj))⟩
theorem kd_Jxe99ae_isNaN_b9ae7 : yJxe99ae_isNaN_b9ae7.cls ≠ "java/lang/invoke/MethodHandle" ∧ yJxe99ae_isNaN_b9ae7.cls ≠ "java/lang/invoke/VarHandle" ∧ (parseMethodDescriptor yJxe99ae_isNaN_b9ae7.desc).map (fun d => d.parameters.length) = some 1 := by decide +kernel
abbrev rJxe99ae_isNaN_b9ae7 : Room := ({ frames := 0, cells := 0, slots := 0, locals := 0 } : Room)
set_option maxRecDepth 100000 in
set_option maxHeartbeats 4000000 in
/-- isNaN -/
theorem m_Jxe99ae_isNaN_b9ae7 (l : Launch) (D : va_G) (cI cC cZ cB cJ : ClassId) (ad : Nat → Nat) (N : Nat) (G : Nat → va_E) (x : UInt64) (hx : Op.cmpValue (FP.dcmp x x) .l = 0) : kMi l yJxe99ae_isNaN_b9ae7 wsJxe99ae_isNaN_b9ae7 rJxe99ae_isNaN_b9ae7 D (kT5 cI cC cZ cB cJ) ad N G [.double x] (fun r G' => r = 0 ∧ G' = G) := by
  refine k_starti (cc := cJxe99ae_isNaN_b9ae7) (ret := (some .boolean)) (maxL := 2) (lv0 := [(0, .double x)]) (by decide) rfl (Nat.le_of_ble_eq_true rfl) rfl ?_
  intro p e s m args below meth c A Q C hQ
  refine k_dload_n C dJxe99ae_isNaN_b9ae7_0 rfl (j := 0) rfl ?_
  refine k_dload_n C dJxe99ae_isNaN_b9ae7_1 rfl (j := 0) rfl ?_
  refine k_dcmp C dJxe99ae_isNaN_b9ae7_2 ?_
  refine k_if_eq C 10 dJxe99ae_isNaN_b9ae7_3 (by decide) (fun _ => ?_) (fun q => absurd q (fun z => z hx))
  refine k_iconst C (v := 0) dJxe99ae_isNaN_b9ae7_10 (by decide) ?_
  exact k_iret C hQ rfl (by decide) dJxe99ae_isNaN_b9ae7_11 ⟨rfl, rfl⟩
theorem kd_Jxe99ae_doubleToLongBits_ccdee : yJxe99ae_doubleToLongBits_ccdee.cls ≠ "java/lang/invoke/MethodHandle" ∧ yJxe99ae_doubleToLongBits_ccdee.cls ≠ "java/lang/invoke/VarHandle" ∧ (parseMethodDescriptor yJxe99ae_doubleToLongBits_ccdee.desc).map (fun d => d.parameters.length) = some 1 := by decide +kernel
abbrev rJxe99ae_doubleToLongBits_ccdee : Room := ({ frames := 1, cells := 0, slots := 0, locals := 21 } : Room)
set_option maxRecDepth 100000 in
set_option maxHeartbeats 4000000 in
/-- doubleToLongBits -/
theorem m_Jxe99ae_doubleToLongBits_ccdee (l : Launch) (D : va_G) (cI cC cZ cB cJ : ClassId) (ad : Nat → Nat) (N : Nat) (G : Nat → va_E) (x : UInt64) (hx : Op.cmpValue (FP.dcmp x x) .l = 0) : kMl l yJxe99ae_doubleToLongBits_ccdee wsJxe99ae_doubleToLongBits_ccdee rJxe99ae_doubleToLongBits_ccdee D (kT5 cI cC cZ cB cJ) ad N G [.double x] (fun r G' => r = x.toInt64 ∧ G' = G) := by
  refine k_startl (cc := cJxe99ae_doubleToLongBits_ccdee) (ret := (some .long)) (maxL := 2) (lv0 := [(0, .double x)]) (by decide) rfl (Nat.le_of_ble_eq_true rfl) rfl ?_
  intro p e s m args below meth c A Q C hQ
  refine k_dload_n C dJxe99ae_doubleToLongBits_ccdee_0 rfl (j := 0) rfl ?_
  refine k_callSir C (As := [.double x]) (rest := []) (m_Jxe99ae_isNaN_b9ae7 l D cI cC cZ cB cJ ad N G x hx) gJxe99ae_doubleToLongBits_ccdee_Jxe99ae_isNaN_b9ae7 rfl kd_Jxe99ae_isNaN_b9ae7 rfl rfl ⟨Nat.le_of_ble_eq_true rfl, Nat.le_of_ble_eq_true rfl⟩ rfl rfl (Nat.le_of_ble_eq_true rfl) ⟨Nat.zero_le _, Nat.zero_le _⟩ dJxe99ae_doubleToLongBits_ccdee_1 ?_
  refine k_if_ne C 12 dJxe99ae_doubleToLongBits_ccdee_4 (by decide) (fun q => absurd q (by decide)) (fun _ => ?_)
  refine k_dload_n C dJxe99ae_doubleToLongBits_ccdee_7 rfl (j := 0) rfl ?_
  refine k_rawl C (List.mem_of_getElem? (i := 1) rfl) (List.mem_of_getElem? (i := 2) rfl) (List.mem_of_getElem? (i := 3) rfl) (List.mem_of_getElem? (i := 4) rfl) (Nat.le_of_ble_eq_true rfl) (Nat.le_of_ble_eq_true rfl) dJxe99ae_doubleToLongBits_ccdee_8 ?_
  exact k_lret C hQ rfl dJxe99ae_doubleToLongBits_ccdee_11 ⟨rfl, rfl⟩
theorem inX7_digest_7 : ∀ w ∈ wsX70, w ∈ wsX7_digest := fun _ h => List.mem_cons_of_mem _ (List.mem_append_right _ h)
theorem kd_X7_digest : yX7_digest.cls = RX7 ∧ yX7_digest.cls ≠ "java/lang/invoke/MethodHandle" ∧ yX7_digest.cls ≠ "java/lang/invoke/VarHandle" ∧ (parseMethodDescriptor yX7_digest.desc).map (fun d => d.parameters.length) = some 0 := by decide +kernel
abbrev rX7_digest : Room := ({ frames := 7, cells := 0, slots := 0, locals := 161 } : Room)
set_option maxRecDepth 100000 in
set_option maxHeartbeats 4000000 in
/-- model: digest -/
theorem m_X7_digest (l : Launch) (D : va_G) (cI cC cZ cB cJ : ClassId) (ad : Nat → Nat) (N : Nat) (G : Nat → va_E) (f kp tx fi gr : Nat → Int32) (st ty : Nat) (th at0 re : Int32) (nh nb nl : Nat) (hN : 79 ≤ N) (hM : isMo ad cI cC cZ G f kp tx fi gr st ty th at0 re) (hH : f 0 = nI nh ∧ nh ≤ 10) (hB : f 1 = nI nb ∧ nb ≤ 24) (hL : f 2 = nI nl ∧ nl ≤ 6) (hKB : ∀ k, k < nb → okB f k) (hKO : ∀ k, k < nl → okO f k) (hP0 : ∀ h, h < nh → ¬ f (6 + h) + f (16 + h) = 0 ∧ ¬ f (16 + h) = 0) (hT0 : ty ≤ 30) (hX0 : okX tx ty) : kMl l yX7_digest wsX7_digest rX7_digest D (kT5 cI cC cZ cB cJ) ad N G [.ref (ad 73)] (fun r G' => r = (mDig f kp tx ty st nh nb nl) ∧ ∃ (fi' : Nat → Int32) (gr' : Nat → Int32) (at0' : Int32) (re' : Int32), isMo ad cI cC cZ G' f kp tx (fi') (gr') st ty 0 (at0') (re') ∧ ∀ j, (j < 73 ∨ 79 ≤ j) → G' j = G j) := by
  refine k_startl (cc := cX7_digest) (ret := (some .long)) (maxL := 5) (lv0 := [(0, .ref (ad 73))]) (by decide) rfl (Nat.le_of_ble_eq_true rfl) rfl ?_
  intro p e s m args below meth c A Q C hQ
  have hn := hH.2
  have hnb := hB.2
  have hnl := hL.2
  refine k_aload_n C dX7_digest_0 rfl (j := 0) rfl ?_
  refine k_iconst C (v := 0) dX7_digest_1 (by decide) ?_
  refine k_put C 73 inX7_digest_7 tyX7 tyX7_ok nmX7 (by omega) hM.1 rfl 3 (by decide) (List.mem_of_getElem? (i := 1) rfl) rfl rfl rfl rfl (Nat.le_of_ble_eq_true rfl) dX7_digest_2 (fun G1 hG1 => ?_)
  have h_74_G1 : G1 74 = .inl (cI, 2610, .inl f) := up_at hG1 hM.2.1 (by omega)
  have h_75_G1 : G1 75 = .inl (cZ, 2, .inl kp) := up_at hG1 hM.2.2.1 (by omega)
  have h_76_G1 : G1 76 = .inl (cC, 30, .inl tx) := up_at hG1 hM.2.2.2.1 (by omega)
  have h_77_G1 : G1 77 = .inl (cI, 10, .inl fi) := up_at hG1 hM.2.2.2.2.1 (by omega)
  have h_78_G1 : G1 78 = .inl (cI, 10, .inl gr) := up_at hG1 hM.2.2.2.2.2 (by omega)
  have h_73_G1 : G1 73 = .inr (7, [.ref (ad 74), .int (nI st), .ref (ad 75), .int 0, .ref (ad 76), .int (nI ty), .int at0, .ref (ad 77), .ref (ad 78), .int re]) := up_it hG1
  refine k_ldc2l C (v := 3079) dX7_digest_5 (List.mem_of_getElem? (i := 2) rfl) ?_
  refine k_lstore_n C (lv' := [(1, .long 3079), (0, .ref (ad 73))]) dX7_digest_8 rfl (by decide) rfl ?_
  refine k_iconst C (v := 0) dX7_digest_9 (by decide) ?_
  refine k_istore_n C (lv' := [(3, .int 0), (1, .long 3079), (0, .ref (ad 73))]) dX7_digest_10 rfl (by decide) rfl ?_
  have loop11 : ∀ (k : Nat) (i : Nat) , (14 + 1 ≤ i + k) → (i ≤ 14) → kJ p l e rX7_digest s m args below meth c 0 0 Q 5 D ad N A G1 11 [(0, .ref (ad 73)), (1, .long (mD1 f st nh nb nl i)), (3, .int (nI i))] [] := by
    intro k
    induction k with
    | zero => intro i  h1 h2; exact absurd h1 (by omega)
    | succ k ih11 =>
      intro i  h1 h2
      refine k_iload_n C dX7_digest_11 rfl (j := 2) rfl ?_
      refine k_bipush C (v := 14) dX7_digest_12 (by decide) ?_
      refine k_icmp_ge C 36 dX7_digest_14 (by decide) (fun c_14 => ?_) (fun c_14 => ?_)
      · skip
        have hi2 : 14 = i := (k_ge (n := 14) c_14 (by omega) (by omega)).symm
        subst hi2
        refine k_ldc2l C (v := 31) dX7_digest_36 (List.mem_of_getElem? (i := 3) rfl) ?_
        refine k_lload_n C dX7_digest_39 rfl (j := 1) rfl ?_
        refine k_lmul C dX7_digest_40 ?_
        refine k_aload_n C dX7_digest_41 rfl (j := 0) rfl ?_
        refine k_get C 73 inX7_digest_7 (by omega) h_73_G1 rfl 0 (by decide) (List.mem_of_getElem? (i := 4) rfl) rfl rfl dX7_digest_42 ?_
        refine k_iconst C (v := 4) dX7_digest_45 (by decide) ?_
        refine k_ialdN C 74 0 (by omega) h_74_G1 rfl 4 rfl (by omega) (Nat.le_of_ble_eq_true rfl) dX7_digest_46 ?_
        refine k_i2l C dX7_digest_47 ?_
        refine k_ladd C dX7_digest_48 ?_
        refine k_lstore_n C (lv' := [(1, .long ((31 * (mD1 f st nh nb nl 14)) + ((f 4).toInt64))), (0, .ref (ad 73)), (3, .int (nI 14))]) dX7_digest_49 rfl (by decide) rfl ?_
        refine k_ldc2l C (v := 31) dX7_digest_50 (List.mem_of_getElem? (i := 3) rfl) ?_
        refine k_lload_n C dX7_digest_53 rfl (j := 0) rfl ?_
        refine k_lmul C dX7_digest_54 ?_
        refine k_aload_n C dX7_digest_55 rfl (j := 1) rfl ?_
        refine k_get C 73 inX7_digest_7 (by omega) h_73_G1 rfl 0 (by decide) (List.mem_of_getElem? (i := 4) rfl) rfl rfl dX7_digest_56 ?_
        refine k_iconst C (v := 5) dX7_digest_59 (by decide) ?_
        refine k_ialdN C 74 0 (by omega) h_74_G1 rfl 5 rfl (by omega) (Nat.le_of_ble_eq_true rfl) dX7_digest_60 ?_
        refine k_i2l C dX7_digest_61 ?_
        refine k_ladd C dX7_digest_62 ?_
        refine k_lstore_n C (lv' := [(1, .long ((31 * ((31 * (mD1 f st nh nb nl 14)) + ((f 4).toInt64))) + ((f 5).toInt64))), (0, .ref (ad 73)), (3, .int (nI 14))]) dX7_digest_63 rfl (by decide) rfl ?_
        refine k_cong (lv' := [(1, .long (mB0 f st nh nb nl)), (0, .ref (ad 73)), (3, .int (nI 14))]) rfl ?_
        refine k_iconst C (v := 0) dX7_digest_64 (by decide) ?_
        refine k_istore_n C (lv' := [(3, .int 0), (1, .long (mB0 f st nh nb nl)), (0, .ref (ad 73))]) dX7_digest_65 rfl (by decide) rfl ?_
        have loop66 : ∀ (k : Nat) (i : Nat) (fi2 gr2 : Nat → Int32) (re2 : Int32) (G2 : Nat → va_E), (nh + 1 ≤ i + k) → (i ≤ nh) → (isMo ad cI cC cZ G2 f kp tx fi2 gr2 st ty 0 at0 re2) → (∀ j, (j < 73 ∨ 79 ≤ j) → G2 j = G j) → kJ p l e rX7_digest s m args below meth c 0 0 Q 5 D ad N A G2 66 [(0, .ref (ad 73)), (1, .long (mHr f nh nb nl (mB0 f st nh nb nl) i)), (3, .int (nI i))] [] := by
          intro k
          induction k with
          | zero => intro i fi2 gr2 re2 G2 h3 h2 hM2 hfr; exact absurd h3 (by omega)
          | succ k ih66 =>
            intro i fi2 gr2 re2 G2 h3 h2 hM2 hfr
            refine k_iload_n C dX7_digest_66 rfl (j := 2) rfl ?_
            refine k_aload_n C dX7_digest_67 rfl (j := 0) rfl ?_
            refine k_get C 73 inX7_digest_7 (by omega) hM2.1 rfl 0 (by decide) (List.mem_of_getElem? (i := 4) rfl) rfl rfl dX7_digest_68 ?_
            refine k_iconst C (v := 0) dX7_digest_71 (by decide) ?_
            refine k_ialdN C 74 0 (by omega) hM2.2.1 rfl 0 rfl (by omega) (Nat.le_of_ble_eq_true rfl) dX7_digest_72 ?_
            refine k_icmp_ge C 139 dX7_digest_73 (by decide) (fun c_73 => ?_) (fun c_73 => ?_)
            · skip
              rw [hH.1] at c_73
              have hi2 : nh = i := (k_ge c_73 (by omega) (by omega)).symm
              subst hi2
              refine k_cong (lv' := [(0, .ref (ad 73)), (1, .long (mB1 f st nh nb nl)), (3, .int (nI nh))]) rfl ?_
              refine k_iconst C (v := 0) dX7_digest_139 (by decide) ?_
              refine k_istore_n C (lv' := [(3, .int 0), (0, .ref (ad 73)), (1, .long (mB1 f st nh nb nl))]) dX7_digest_140 rfl (by decide) rfl ?_
              have loop141 : ∀ (k : Nat) (i : Nat) , ((8 * nb) + 1 ≤ i + k) → (i ≤ (8 * nb)) → kJ p l e rX7_digest s m args below meth c 0 0 Q 5 D ad N A G2 141 [(0, .ref (ad 73)), (1, .long (mTb f 66 (mB1 f st nh nb nl) i)), (3, .int (nI i))] [] := by
                intro k
                induction k with
                | zero => intro i  h3 h2; exact absurd h3 (by omega)
                | succ k ih141 =>
                  intro i  h3 h2
                  refine k_iload_n C dX7_digest_141 rfl (j := 2) rfl ?_
                  refine k_bipush C (v := 8) dX7_digest_142 (by decide) ?_
                  refine k_aload_n C dX7_digest_144 rfl (j := 0) rfl ?_
                  refine k_get C 73 inX7_digest_7 (by omega) hM2.1 rfl 0 (by decide) (List.mem_of_getElem? (i := 4) rfl) rfl rfl dX7_digest_145 ?_
                  refine k_iconst C (v := 1) dX7_digest_148 (by decide) ?_
                  refine k_ialdN C 74 0 (by omega) hM2.2.1 rfl 1 rfl (by omega) (Nat.le_of_ble_eq_true rfl) dX7_digest_149 ?_
                  refine k_imul C dX7_digest_150 ?_
                  refine k_icmp_ge C 177 dX7_digest_151 (by decide) (fun c_151 => ?_) (fun c_151 => ?_)
                  · skip
                    rw [(show 8 * f 1 = nI (8 * nb) from by rw [hB.1]; exact pk_mul 8 nb)] at c_151
                    have hi2 : (8 * nb) = i := (k_ge c_151 (by omega) (by omega)).symm
                    subst hi2
                    refine k_cong (lv' := [(0, .ref (ad 73)), (1, .long (mB2 f st nh nb nl)), (3, .int (nI ((8 * nb))))]) rfl ?_
                    refine k_iconst C (v := 0) dX7_digest_177 (by decide) ?_
                    refine k_istore_n C (lv' := [(3, .int 0), (0, .ref (ad 73)), (1, .long (mB2 f st nh nb nl))]) dX7_digest_178 rfl (by decide) rfl ?_
                    have loop179 : ∀ (k : Nat) (i : Nat) , ((5 * nl) + 1 ≤ i + k) → (i ≤ (5 * nl)) → kJ p l e rX7_digest s m args below meth c 0 0 Q 5 D ad N A G2 179 [(0, .ref (ad 73)), (1, .long (mTb f 258 (mB2 f st nh nb nl) i)), (3, .int (nI i))] [] := by
                      intro k
                      induction k with
                      | zero => intro i  h4 h2; exact absurd h4 (by omega)
                      | succ k ih179 =>
                        intro i  h4 h2
                        refine k_iload_n C dX7_digest_179 rfl (j := 2) rfl ?_
                        refine k_iconst C (v := 5) dX7_digest_180 (by decide) ?_
                        refine k_aload_n C dX7_digest_181 rfl (j := 0) rfl ?_
                        refine k_get C 73 inX7_digest_7 (by omega) hM2.1 rfl 0 (by decide) (List.mem_of_getElem? (i := 4) rfl) rfl rfl dX7_digest_182 ?_
                        refine k_iconst C (v := 2) dX7_digest_185 (by decide) ?_
                        refine k_ialdN C 74 0 (by omega) hM2.2.1 rfl 2 rfl (by omega) (Nat.le_of_ble_eq_true rfl) dX7_digest_186 ?_
                        refine k_imul C dX7_digest_187 ?_
                        refine k_icmp_ge C 215 dX7_digest_188 (by decide) (fun c_188 => ?_) (fun c_188 => ?_)
                        · skip
                          rw [(show 5 * f 2 = nI (5 * nl) from by rw [hL.1]; exact pk_mul 5 nl)] at c_188
                          have hi2 : (5 * nl) = i := (k_ge c_188 (by omega) (by omega)).symm
                          subst hi2
                          refine k_cong (lv' := [(0, .ref (ad 73)), (1, .long (mB3 f st nh nb nl)), (3, .int (nI ((5 * nl))))]) rfl ?_
                          refine k_ldc2l C (v := 31) dX7_digest_215 (List.mem_of_getElem? (i := 3) rfl) ?_
                          refine k_lload_n C dX7_digest_218 rfl (j := 1) rfl ?_
                          refine k_lmul C dX7_digest_219 ?_
                          refine k_aload_n C dX7_digest_220 rfl (j := 0) rfl ?_
                          refine k_callVi C (As := []) (rest := [.long (31 * (mB3 f st nh nb nl))]) 73 (m_X7_byBuffer l D cI cC cZ cB cJ ad N G2 f kp tx fi2 gr2 st ty 0 at0 re2 nh nb nl (by omega) ⟨hM2.1, hM2.2.1, hM2.2.2.1, hM2.2.2.2.1, hM2.2.2.2.2.1, hM2.2.2.2.2.2⟩ hH hB hL hKB hKO hT0 hX0 ) gX7_digest_X7_byBuffer rfl kd_X7_byBuffer rfl rfl ⟨Nat.le_of_ble_eq_true rfl, Nat.le_of_ble_eq_true rfl⟩ (by omega) hM2.1 rfl rfl rfl (Nat.le_of_ble_eq_true rfl) ⟨Nat.zero_le _, Nat.zero_le _⟩ dX7_digest_221 (fun r_221 G2 hG2 => ?_)
                          obtain ⟨e_r_221, fi_G2, gr_G2, at0_G2, re_G2, hM_G2, hf_G2⟩ := hG2
                          subst e_r_221
                          refine k_i2l C dX7_digest_224 ?_
                          refine k_ladd C dX7_digest_225 ?_
                          refine k_lstore_n C (lv' := [(1, .long ((31 * (mB3 f st nh nb nl)) + ((mIf f tx ty nh nb nl).toInt64))), (0, .ref (ad 73)), (3, .int (nI ((5 * nl))))]) dX7_digest_226 rfl (by decide) rfl ?_
                          refine k_ldc2l C (v := 31) dX7_digest_227 (List.mem_of_getElem? (i := 3) rfl) ?_
                          refine k_lload_n C dX7_digest_230 rfl (j := 0) rfl ?_
                          refine k_lmul C dX7_digest_231 ?_
                          refine k_aload_n C dX7_digest_232 rfl (j := 1) rfl ?_
                          refine k_callVi C (As := []) (rest := [.long (31 * ((31 * (mB3 f st nh nb nl)) + ((mIf f tx ty nh nb nl).toInt64)))]) 73 (m_X7_worstOne l D cI cC cZ cB cJ ad N G2 f kp tx fi_G2 gr_G2 st ty 0 at0_G2 re_G2 nh nb nl (by omega) ⟨hM_G2.1, hM_G2.2.1, hM_G2.2.2.1, hM_G2.2.2.2.1, hM_G2.2.2.2.2.1, hM_G2.2.2.2.2.2⟩ hH hB hL hKB hKO ) gX7_digest_X7_worstOne rfl kd_X7_worstOne rfl rfl ⟨Nat.le_of_ble_eq_true rfl, Nat.le_of_ble_eq_true rfl⟩ (by omega) hM_G2.1 rfl rfl rfl (Nat.le_of_ble_eq_true rfl) ⟨Nat.zero_le _, Nat.zero_le _⟩ dX7_digest_233 (fun r_233 G3 hG3 => ?_)
                          obtain ⟨e_r_233, fi_G3, gr_G3, re_G3, hM_G3, hf_G3⟩ := hG3
                          subst e_r_233
                          refine k_i2l C dX7_digest_236 ?_
                          refine k_ladd C dX7_digest_237 ?_
                          refine k_lstore_n C (lv' := [(1, .long ((31 * ((31 * (mB3 f st nh nb nl)) + ((mIf f tx ty nh nb nl).toInt64))) + (((mWst f nh nb nl nh).1).toInt64))), (0, .ref (ad 73)), (3, .int (nI ((5 * nl))))]) dX7_digest_238 rfl (by decide) rfl ?_
                          refine k_ldc2l C (v := 31) dX7_digest_239 (List.mem_of_getElem? (i := 3) rfl) ?_
                          refine k_lload_n C dX7_digest_242 rfl (j := 0) rfl ?_
                          refine k_lmul C dX7_digest_243 ?_
                          refine k_aload_n C dX7_digest_244 rfl (j := 1) rfl ?_
                          refine k_callVd C (As := []) (rest := [.long (31 * ((31 * ((31 * (mB3 f st nh nb nl)) + ((mIf f tx ty nh nb nl).toInt64))) + (((mWst f nh nb nl nh).1).toInt64)))]) 73 (m_X7_safe l D cI cC cZ cB cJ ad N G3 f kp tx fi_G3 gr_G3 st ty 0 at0_G2 re_G3 nh nb nl (by omega) ⟨hM_G3.1, hM_G3.2.1, hM_G3.2.2.1, hM_G3.2.2.2.1, hM_G3.2.2.2.2.1, hM_G3.2.2.2.2.2⟩ hH hB hL hKB hKO ) gX7_digest_X7_safe rfl kd_X7_safe rfl rfl ⟨Nat.le_of_ble_eq_true rfl, Nat.le_of_ble_eq_true rfl⟩ (by omega) hM_G3.1 rfl rfl rfl (Nat.le_of_ble_eq_true rfl) ⟨Nat.zero_le _, Nat.zero_le _⟩ dX7_digest_245 (fun r_245 G4 hG4 => ?_)
                          obtain ⟨e_r_245, fi_G4, gr_G4, re_G4, hM_G4, hf_G4⟩ := hG4
                          subst e_r_245
                          refine k_callSlr C (As := [.double (mShare f nh nb nl)]) (rest := [.long (31 * ((31 * ((31 * (mB3 f st nh nb nl)) + ((mIf f tx ty nh nb nl).toInt64))) + (((mWst f nh nb nl nh).1).toInt64)))]) (m_Jxe99ae_doubleToLongBits_ccdee l D cI cC cZ cB cJ ad N G4 (mShare f nh nb nl) (mShare_self f nb nl hH.2)) gX7_digest_Jxe99ae_doubleToLongBits_ccdee rfl kd_Jxe99ae_doubleToLongBits_ccdee rfl rfl ⟨Nat.le_of_ble_eq_true rfl, Nat.le_of_ble_eq_true rfl⟩ rfl rfl (Nat.le_of_ble_eq_true rfl) ⟨Nat.zero_le _, Nat.zero_le _⟩ dX7_digest_248 ?_
                          refine k_ladd C dX7_digest_251 ?_
                          refine k_lstore_n C (lv' := [(1, .long ((31 * ((31 * ((31 * (mB3 f st nh nb nl)) + ((mIf f tx ty nh nb nl).toInt64))) + (((mWst f nh nb nl nh).1).toInt64))) + ((mShare f nh nb nl).toInt64))), (0, .ref (ad 73)), (3, .int (nI ((5 * nl))))]) dX7_digest_252 rfl (by decide) rfl ?_
                          refine k_ldc2l C (v := 31) dX7_digest_253 (List.mem_of_getElem? (i := 3) rfl) ?_
                          refine k_lload_n C dX7_digest_256 rfl (j := 0) rfl ?_
                          refine k_lmul C dX7_digest_257 ?_
                          have jn272 : kJ p l e rX7_digest s m args below meth c 0 0 Q 5 D ad N A G4 272 [(1, .long ((31 * ((31 * ((31 * (mB3 f st nh nb nl)) + ((mIf f tx ty nh nb nl).toInt64))) + (((mWst f nh nb nl nh).1).toInt64))) + ((mShare f nh nb nl).toInt64))), (0, .ref (ad 73)), (3, .int (nI ((5 * nl))))] [.int (bI (kpB kp 0)), .long (31 * ((31 * ((31 * ((31 * (mB3 f st nh nb nl)) + ((mIf f tx ty nh nb nl).toInt64))) + (((mWst f nh nb nl nh).1).toInt64))) + ((mShare f nh nb nl).toInt64)))] := by
                            refine k_i2l C dX7_digest_272 ?_
                            refine k_ladd C dX7_digest_273 ?_
                            refine k_lstore_n C (lv' := [(1, .long ((31 * ((31 * ((31 * ((31 * (mB3 f st nh nb nl)) + ((mIf f tx ty nh nb nl).toInt64))) + (((mWst f nh nb nl nh).1).toInt64))) + ((mShare f nh nb nl).toInt64))) + ((bI (kpB kp 0)).toInt64))), (0, .ref (ad 73)), (3, .int (nI ((5 * nl))))]) dX7_digest_274 rfl (by decide) rfl ?_
                            refine k_ldc2l C (v := 31) dX7_digest_275 (List.mem_of_getElem? (i := 3) rfl) ?_
                            refine k_lload_n C dX7_digest_278 rfl (j := 0) rfl ?_
                            refine k_lmul C dX7_digest_279 ?_
                            have jn294 : kJ p l e rX7_digest s m args below meth c 0 0 Q 5 D ad N A G4 294 [(1, .long ((31 * ((31 * ((31 * ((31 * (mB3 f st nh nb nl)) + ((mIf f tx ty nh nb nl).toInt64))) + (((mWst f nh nb nl nh).1).toInt64))) + ((mShare f nh nb nl).toInt64))) + ((bI (kpB kp 0)).toInt64))), (0, .ref (ad 73)), (3, .int (nI ((5 * nl))))] [.int (bI (kpB kp 1)), .long (31 * ((31 * ((31 * ((31 * ((31 * (mB3 f st nh nb nl)) + ((mIf f tx ty nh nb nl).toInt64))) + (((mWst f nh nb nl nh).1).toInt64))) + ((mShare f nh nb nl).toInt64))) + ((bI (kpB kp 0)).toInt64)))] := by
                              refine k_i2l C dX7_digest_294 ?_
                              refine k_ladd C dX7_digest_295 ?_
                              refine k_lstore_n C (lv' := [(1, .long ((31 * ((31 * ((31 * ((31 * ((31 * (mB3 f st nh nb nl)) + ((mIf f tx ty nh nb nl).toInt64))) + (((mWst f nh nb nl nh).1).toInt64))) + ((mShare f nh nb nl).toInt64))) + ((bI (kpB kp 0)).toInt64))) + ((bI (kpB kp 1)).toInt64))), (0, .ref (ad 73)), (3, .int (nI ((5 * nl))))]) dX7_digest_296 rfl (by decide) rfl ?_
                              refine k_ldc2l C (v := 31) dX7_digest_297 (List.mem_of_getElem? (i := 3) rfl) ?_
                              refine k_lload_n C dX7_digest_300 rfl (j := 0) rfl ?_
                              refine k_lmul C dX7_digest_301 ?_
                              refine k_aload_n C dX7_digest_302 rfl (j := 1) rfl ?_
                              refine k_get C 73 inX7_digest_7 (by omega) hM_G4.1 rfl 5 (by decide) (List.mem_of_getElem? (i := 6) rfl) rfl rfl dX7_digest_303 ?_
                              refine k_i2l C dX7_digest_306 ?_
                              refine k_ladd C dX7_digest_307 ?_
                              refine k_lstore_n C (lv' := [(1, .long ((31 * ((31 * ((31 * ((31 * ((31 * ((31 * (mB3 f st nh nb nl)) + ((mIf f tx ty nh nb nl).toInt64))) + (((mWst f nh nb nl nh).1).toInt64))) + ((mShare f nh nb nl).toInt64))) + ((bI (kpB kp 0)).toInt64))) + ((bI (kpB kp 1)).toInt64))) + ((nI ty).toInt64))), (0, .ref (ad 73)), (3, .int (nI ((5 * nl))))]) dX7_digest_308 rfl (by decide) rfl ?_
                              refine k_cong (lv' := [(1, .long (mB4 f kp tx ty st nh nb nl)), (0, .ref (ad 73)), (3, .int (nI ((5 * nl))))]) rfl ?_
                              refine k_iconst C (v := 0) dX7_digest_309 (by decide) ?_
                              refine k_istore_n C (lv' := [(3, .int 0), (1, .long (mB4 f kp tx ty st nh nb nl)), (0, .ref (ad 73))]) dX7_digest_310 rfl (by decide) rfl ?_
                              have loop311 : ∀ (k : Nat) (i : Nat) , (ty + 1 ≤ i + k) → (i ≤ ty) → kJ p l e rX7_digest s m args below meth c 0 0 Q 5 D ad N A G4 311 [(0, .ref (ad 73)), (1, .long (mDx tx (mB4 f kp tx ty st nh nb nl) i)), (3, .int (nI i))] [] := by
                                intro k
                                induction k with
                                | zero => intro i  h5 h2; exact absurd h5 (by omega)
                                | succ k ih311 =>
                                  intro i  h5 h2
                                  refine k_iload_n C dX7_digest_311 rfl (j := 2) rfl ?_
                                  refine k_aload_n C dX7_digest_312 rfl (j := 0) rfl ?_
                                  refine k_get C 73 inX7_digest_7 (by omega) hM_G4.1 rfl 5 (by decide) (List.mem_of_getElem? (i := 6) rfl) rfl rfl dX7_digest_313 ?_
                                  refine k_icmp_ge C 339 dX7_digest_316 (by decide) (fun c_316 => ?_) (fun c_316 => ?_)
                                  · skip
                                    have hi2 : ty = i := (k_ge c_316 (by omega) (by omega)).symm
                                    subst hi2
                                    refine k_lload_n C dX7_digest_339 rfl (j := 1) rfl ?_
                                    exact k_lret C hQ rfl dX7_digest_340 ⟨rfl, fi_G4, gr_G4, at0_G2, re_G4, ⟨hM_G4.1, hM_G4.2.1, hM_G4.2.2.1, hM_G4.2.2.2.1, hM_G4.2.2.2.2.1, hM_G4.2.2.2.2.2⟩, fun j hj => (hf_G4 j hj : _).trans ((hf_G3 j hj : _).trans ((hf_G2 j hj : _).trans (hfr j hj)))⟩
                                  · skip
                                    have hi3 : i < ty := k_lt c_316 (by omega) (by omega)
                                    refine k_ldc2l C (v := 31) dX7_digest_319 (List.mem_of_getElem? (i := 3) rfl) ?_
                                    refine k_lload_n C dX7_digest_322 rfl (j := 1) rfl ?_
                                    refine k_lmul C dX7_digest_323 ?_
                                    refine k_aload_n C dX7_digest_324 rfl (j := 0) rfl ?_
                                    refine k_get C 73 inX7_digest_7 (by omega) hM_G4.1 rfl 4 (by decide) (List.mem_of_getElem? (i := 7) rfl) rfl rfl dX7_digest_325 ?_
                                    refine k_iload_n C dX7_digest_328 rfl (j := 2) rfl ?_
                                    refine k_caldN C 76 1 (by omega) hM_G4.2.2.2.1 rfl i rfl (by omega) (Nat.le_of_ble_eq_true rfl) dX7_digest_329 ?_
                                    refine k_i2l C dX7_digest_330 ?_
                                    refine k_ladd C dX7_digest_331 ?_
                                    refine k_lstore_n C (lv' := [(1, .long ((31 * (mDx tx (mB4 f kp tx ty st nh nb nl) i)) + ((tx i).toInt64))), (0, .ref (ad 73)), (3, .int (nI i))]) dX7_digest_332 rfl (by decide) rfl ?_
                                    refine k_iinc C (v := nI (i + 1)) (lv' := [(3, .int (nI (i + 1))), (1, .long ((31 * (mDx tx (mB4 f kp tx ty st nh nb nl) i)) + ((tx i).toInt64))), (0, .ref (ad 73))]) dX7_digest_333 (j := 2) rfl (nI_1 i) (by decide) rfl ?_
                                    refine k_goto C 311 dX7_digest_336 (by decide) ?_
                                    exact k_sub [2, 1, 0] rfl (ih311 (i + 1) (by omega) (by omega))
                              exact k_sub [2, 1, 0] rfl (loop311 (ty + 1) 0 (by omega) (Nat.zero_le _))
                            refine k_aload_n C dX7_digest_280 rfl (j := 1) rfl ?_
                            refine k_get C 73 inX7_digest_7 (by omega) hM_G4.1 rfl 2 (by decide) (List.mem_of_getElem? (i := 5) rfl) rfl rfl dX7_digest_281 ?_
                            refine k_iconst C (v := 1) dX7_digest_284 (by decide) ?_
                            refine k_zaldN C 75 2 (by omega) hM_G4.2.2.1 rfl 1 rfl (by omega) (Nat.le_of_ble_eq_true rfl) dX7_digest_285 ?_
                            refine k_if_eq C 293 dX7_digest_286 (by decide) (fun c_286 => ?_) (fun c_286 => ?_)
                            · skip
                              refine k_iconst C (v := 0) dX7_digest_293 (by decide) ?_
                              refine k_congS (st' := [.int (bI (kpB kp 1)), .long (31 * ((31 * ((31 * ((31 * ((31 * (mB3 f st nh nb nl)) + ((mIf f tx ty nh nb nl).toInt64))) + (((mWst f nh nb nl nh).1).toInt64))) + ((mShare f nh nb nl).toInt64))) + ((bI (kpB kp 0)).toInt64)))]) (congrArg (fun (z9 : Int32) => ([.int z9, .long (31 * ((31 * ((31 * ((31 * ((31 * (mB3 f st nh nb nl)) + ((mIf f tx ty nh nb nl).toInt64))) + (((mWst f nh nb nl nh).1).toInt64))) + ((mShare f nh nb nl).toInt64))) + ((bI (kpB kp 0)).toInt64)))] : List Value)) (show (0 : Int32) = bI (kpB kp 1) from by simp [bI, c_286, kpB])) ?_
                              exact jn294
                            · skip
                              refine k_iconst C (v := 1) dX7_digest_289 (by decide) ?_
                              refine k_goto C 294 dX7_digest_290 (by decide) ?_
                              refine k_congS (st' := [.int (bI (kpB kp 1)), .long (31 * ((31 * ((31 * ((31 * ((31 * (mB3 f st nh nb nl)) + ((mIf f tx ty nh nb nl).toInt64))) + (((mWst f nh nb nl nh).1).toInt64))) + ((mShare f nh nb nl).toInt64))) + ((bI (kpB kp 0)).toInt64)))]) (congrArg (fun (z9 : Int32) => ([.int z9, .long (31 * ((31 * ((31 * ((31 * ((31 * (mB3 f st nh nb nl)) + ((mIf f tx ty nh nb nl).toInt64))) + (((mWst f nh nb nl nh).1).toInt64))) + ((mShare f nh nb nl).toInt64))) + ((bI (kpB kp 0)).toInt64)))] : List Value)) (show (1 : Int32) = bI (kpB kp 1) from by simp [bI, c_286, kpB])) ?_
                              exact jn294
                          refine k_aload_n C dX7_digest_258 rfl (j := 1) rfl ?_
                          refine k_get C 73 inX7_digest_7 (by omega) hM_G4.1 rfl 2 (by decide) (List.mem_of_getElem? (i := 5) rfl) rfl rfl dX7_digest_259 ?_
                          refine k_iconst C (v := 0) dX7_digest_262 (by decide) ?_
                          refine k_zaldN C 75 2 (by omega) hM_G4.2.2.1 rfl 0 rfl (by omega) (Nat.le_of_ble_eq_true rfl) dX7_digest_263 ?_
                          refine k_if_eq C 271 dX7_digest_264 (by decide) (fun c_264 => ?_) (fun c_264 => ?_)
                          · skip
                            refine k_iconst C (v := 0) dX7_digest_271 (by decide) ?_
                            refine k_congS (st' := [.int (bI (kpB kp 0)), .long (31 * ((31 * ((31 * ((31 * (mB3 f st nh nb nl)) + ((mIf f tx ty nh nb nl).toInt64))) + (((mWst f nh nb nl nh).1).toInt64))) + ((mShare f nh nb nl).toInt64)))]) (congrArg (fun (z9 : Int32) => ([.int z9, .long (31 * ((31 * ((31 * ((31 * (mB3 f st nh nb nl)) + ((mIf f tx ty nh nb nl).toInt64))) + (((mWst f nh nb nl nh).1).toInt64))) + ((mShare f nh nb nl).toInt64)))] : List Value)) (show (0 : Int32) = bI (kpB kp 0) from by simp [bI, c_264, kpB])) ?_
                            exact jn272
                          · skip
                            refine k_iconst C (v := 1) dX7_digest_267 (by decide) ?_
                            refine k_goto C 272 dX7_digest_268 (by decide) ?_
                            refine k_congS (st' := [.int (bI (kpB kp 0)), .long (31 * ((31 * ((31 * ((31 * (mB3 f st nh nb nl)) + ((mIf f tx ty nh nb nl).toInt64))) + (((mWst f nh nb nl nh).1).toInt64))) + ((mShare f nh nb nl).toInt64)))]) (congrArg (fun (z9 : Int32) => ([.int z9, .long (31 * ((31 * ((31 * ((31 * (mB3 f st nh nb nl)) + ((mIf f tx ty nh nb nl).toInt64))) + (((mWst f nh nb nl nh).1).toInt64))) + ((mShare f nh nb nl).toInt64)))] : List Value)) (show (1 : Int32) = bI (kpB kp 0) from by simp [bI, c_264, kpB])) ?_
                            exact jn272
                        · skip
                          rw [(show 5 * f 2 = nI (5 * nl) from by rw [hL.1]; exact pk_mul 5 nl)] at c_188
                          have hi3 : i < (5 * nl) := k_lt c_188 (by omega) (by omega)
                          refine k_ldc2l C (v := 31) dX7_digest_191 (List.mem_of_getElem? (i := 3) rfl) ?_
                          refine k_lload_n C dX7_digest_194 rfl (j := 1) rfl ?_
                          refine k_lmul C dX7_digest_195 ?_
                          refine k_aload_n C dX7_digest_196 rfl (j := 0) rfl ?_
                          refine k_get C 73 inX7_digest_7 (by omega) hM2.1 rfl 0 (by decide) (List.mem_of_getElem? (i := 4) rfl) rfl rfl dX7_digest_197 ?_
                          refine k_sipush C (v := 258) dX7_digest_200 (by decide) ?_
                          refine k_iload_n C dX7_digest_203 rfl (j := 2) rfl ?_
                          refine k_iadd C dX7_digest_204 ?_
                          refine k_ialdN C 74 0 (by omega) hM2.2.1 rfl (258 + i) (knAdd rfl rfl) (by omega) (Nat.le_of_ble_eq_true rfl) dX7_digest_205 ?_
                          refine k_i2l C dX7_digest_206 ?_
                          refine k_ladd C dX7_digest_207 ?_
                          refine k_lstore_n C (lv' := [(1, .long ((31 * (mTb f 258 (mB2 f st nh nb nl) i)) + ((f (258 + i)).toInt64))), (0, .ref (ad 73)), (3, .int (nI i))]) dX7_digest_208 rfl (by decide) rfl ?_
                          refine k_iinc C (v := nI (i + 1)) (lv' := [(3, .int (nI (i + 1))), (1, .long ((31 * (mTb f 258 (mB2 f st nh nb nl) i)) + ((f (258 + i)).toInt64))), (0, .ref (ad 73))]) dX7_digest_209 (j := 2) rfl (nI_1 i) (by decide) rfl ?_
                          refine k_goto C 179 dX7_digest_212 (by decide) ?_
                          exact k_sub [2, 1, 0] rfl (ih179 (i + 1) (by omega) (by omega))
                    exact k_sub [1, 2, 0] rfl (loop179 ((5 * nl) + 1) 0 (by omega) (Nat.zero_le _))
                  · skip
                    rw [(show 8 * f 1 = nI (8 * nb) from by rw [hB.1]; exact pk_mul 8 nb)] at c_151
                    have hi3 : i < (8 * nb) := k_lt c_151 (by omega) (by omega)
                    refine k_ldc2l C (v := 31) dX7_digest_154 (List.mem_of_getElem? (i := 3) rfl) ?_
                    refine k_lload_n C dX7_digest_157 rfl (j := 1) rfl ?_
                    refine k_lmul C dX7_digest_158 ?_
                    refine k_aload_n C dX7_digest_159 rfl (j := 0) rfl ?_
                    refine k_get C 73 inX7_digest_7 (by omega) hM2.1 rfl 0 (by decide) (List.mem_of_getElem? (i := 4) rfl) rfl rfl dX7_digest_160 ?_
                    refine k_bipush C (v := 66) dX7_digest_163 (by decide) ?_
                    refine k_iload_n C dX7_digest_165 rfl (j := 2) rfl ?_
                    refine k_iadd C dX7_digest_166 ?_
                    refine k_ialdN C 74 0 (by omega) hM2.2.1 rfl (66 + i) (knAdd rfl rfl) (by omega) (Nat.le_of_ble_eq_true rfl) dX7_digest_167 ?_
                    refine k_i2l C dX7_digest_168 ?_
                    refine k_ladd C dX7_digest_169 ?_
                    refine k_lstore_n C (lv' := [(1, .long ((31 * (mTb f 66 (mB1 f st nh nb nl) i)) + ((f (66 + i)).toInt64))), (0, .ref (ad 73)), (3, .int (nI i))]) dX7_digest_170 rfl (by decide) rfl ?_
                    refine k_iinc C (v := nI (i + 1)) (lv' := [(3, .int (nI (i + 1))), (1, .long ((31 * (mTb f 66 (mB1 f st nh nb nl) i)) + ((f (66 + i)).toInt64))), (0, .ref (ad 73))]) dX7_digest_171 (j := 2) rfl (nI_1 i) (by decide) rfl ?_
                    refine k_goto C 141 dX7_digest_174 (by decide) ?_
                    exact k_sub [2, 1, 0] rfl (ih141 (i + 1) (by omega) (by omega))
              exact k_sub [1, 2, 0] rfl (loop141 ((8 * nb) + 1) 0 (by omega) (Nat.zero_le _))
            · skip
              rw [hH.1] at c_73
              have hi3 : i < nh := k_lt c_73 (by omega) (by omega)
              refine k_iconst C (v := 0) dX7_digest_76 (by decide) ?_
              refine k_istore C (lv' := [(4, .int 0), (0, .ref (ad 73)), (1, .long (mHr f nh nb nl (mB0 f st nh nb nl) i)), (3, .int (nI i))]) dX7_digest_77 (by decide) rfl ?_
              have loop79 : ∀ (k : Nat) (q : Nat) , (9 + 1 ≤ q + k) → (q ≤ 9) → kJ p l e rX7_digest s m args below meth c 0 0 Q 5 D ad N A G2 79 [(0, .ref (ad 73)), (1, .long (mRw f nb i (mHr f nh nb nl (mB0 f st nh nb nl) i) q)), (3, .int (nI i)), (4, .int (nI q))] [] := by
                intro k
                induction k with
                | zero => intro q  h4 h5; exact absurd h4 (by omega)
                | succ k ih79 =>
                  intro q  h4 h5
                  refine k_iload C dX7_digest_79 (j := 3) rfl ?_
                  refine k_bipush C (v := 9) dX7_digest_81 (by decide) ?_
                  refine k_icmp_ge C 107 dX7_digest_83 (by decide) (fun c_83 => ?_) (fun c_83 => ?_)
                  · skip
                    have hq2 : 9 = q := (k_ge (n := 9) c_83 (by omega) (by omega)).symm
                    subst hq2
                    refine k_ldc2l C (v := 31) dX7_digest_107 (List.mem_of_getElem? (i := 3) rfl) ?_
                    refine k_lload_n C dX7_digest_110 rfl (j := 1) rfl ?_
                    refine k_lmul C dX7_digest_111 ?_
                    refine k_aload_n C dX7_digest_112 rfl (j := 0) rfl ?_
                    refine k_iload_n C dX7_digest_113 rfl (j := 2) rfl ?_
                    refine k_callVi C (As := [.int (nI i)]) (rest := [.long (31 * (mRw f nb i (mHr f nh nb nl (mB0 f st nh nb nl) i) 9))]) 73 (m_X7_ifFirst l D cI cC cZ cB cJ ad N G2 f kp tx fi2 gr2 st ty 0 at0 re2 nh nb nl i (by omega) ⟨hM2.1, hM2.2.1, hM2.2.2.1, hM2.2.2.2.1, hM2.2.2.2.2.1, hM2.2.2.2.2.2⟩ hH hB hL hKB hKO hi3) gX7_digest_X7_ifFirst rfl kd_X7_ifFirst rfl rfl ⟨Nat.le_of_ble_eq_true rfl, Nat.le_of_ble_eq_true rfl⟩ (by omega) hM2.1 rfl rfl rfl (Nat.le_of_ble_eq_true rfl) ⟨Nat.zero_le _, Nat.zero_le _⟩ dX7_digest_114 (fun r_114 G5 hG5 => ?_)
                    obtain ⟨e_r_114, fi_G5, gr_G5, re_G5, hM_G5, hf_G5⟩ := hG5
                    subst e_r_114
                    refine k_i2l C dX7_digest_117 ?_
                    refine k_ladd C dX7_digest_118 ?_
                    refine k_lstore_n C (lv' := [(1, .long ((31 * (mRw f nb i (mHr f nh nb nl (mB0 f st nh nb nl) i) 9)) + ((mIfF f nh nb nl i).toInt64))), (0, .ref (ad 73)), (3, .int (nI i)), (4, .int (nI 9))]) dX7_digest_119 rfl (by decide) rfl ?_
                    refine k_ldc2l C (v := 31) dX7_digest_120 (List.mem_of_getElem? (i := 3) rfl) ?_
                    refine k_lload_n C dX7_digest_123 rfl (j := 0) rfl ?_
                    refine k_lmul C dX7_digest_124 ?_
                    refine k_aload_n C dX7_digest_125 rfl (j := 1) rfl ?_
                    refine k_iload_n C dX7_digest_126 rfl (j := 2) rfl ?_
                    refine k_callVi C (As := [.int (nI i)]) (rest := [.long (31 * ((31 * (mRw f nb i (mHr f nh nb nl (mB0 f st nh nb nl) i) 9)) + ((mIfF f nh nb nl i).toInt64)))]) 73 (m_X7_covers l D cI cC cZ cB cJ ad N G5 f kp tx fi_G5 gr_G5 st ty 0 at0 re_G5 nh nb nl i (by omega) ⟨hM_G5.1, hM_G5.2.1, hM_G5.2.2.1, hM_G5.2.2.2.1, hM_G5.2.2.2.2.1, hM_G5.2.2.2.2.2⟩ hH hB hL hKB hKO hP0 hi3) gX7_digest_X7_covers rfl kd_X7_covers rfl rfl ⟨Nat.le_of_ble_eq_true rfl, Nat.le_of_ble_eq_true rfl⟩ (by omega) hM_G5.1 rfl rfl rfl (Nat.le_of_ble_eq_true rfl) ⟨Nat.zero_le _, Nat.zero_le _⟩ dX7_digest_127 (fun r_127 G6 hG6 => ?_)
                    obtain ⟨e_r_127, fi_G6, gr_G6, re_G6, hM_G6, hf_G6⟩ := hG6
                    subst e_r_127
                    refine k_i2l C dX7_digest_130 ?_
                    refine k_ladd C dX7_digest_131 ?_
                    refine k_lstore_n C (lv' := [(1, .long ((31 * ((31 * (mRw f nb i (mHr f nh nb nl (mB0 f st nh nb nl) i) 9)) + ((mIfF f nh nb nl i).toInt64))) + ((mCov f nh nb nl i).toInt64))), (0, .ref (ad 73)), (3, .int (nI i)), (4, .int (nI 9))]) dX7_digest_132 rfl (by decide) rfl ?_
                    refine k_iinc C (v := nI (i + 1)) (lv' := [(3, .int (nI (i + 1))), (1, .long ((31 * ((31 * (mRw f nb i (mHr f nh nb nl (mB0 f st nh nb nl) i) 9)) + ((mIfF f nh nb nl i).toInt64))) + ((mCov f nh nb nl i).toInt64))), (0, .ref (ad 73)), (4, .int (nI 9))]) dX7_digest_133 (j := 2) rfl (nI_1 i) (by decide) rfl ?_
                    refine k_goto C 66 dX7_digest_136 (by decide) ?_
                    exact k_sub [2, 1, 0] rfl (ih66 (i + 1) fi_G6 gr_G6 re_G6 G6 (by omega) (by omega) ⟨hM_G6.1, hM_G6.2.1, hM_G6.2.2.1, hM_G6.2.2.2.1, hM_G6.2.2.2.2.1, hM_G6.2.2.2.2.2⟩ (fun j hj => (hf_G6 j hj : _).trans ((hf_G5 j hj : _).trans (hfr j hj))))
                  · skip
                    have hq3 : q < 9 := k_lt (n := 9) c_83 (by omega) (by omega)
                    refine k_ldc2l C (v := 31) dX7_digest_86 (List.mem_of_getElem? (i := 3) rfl) ?_
                    refine k_lload_n C dX7_digest_89 rfl (j := 1) rfl ?_
                    refine k_lmul C dX7_digest_90 ?_
                    refine k_aload_n C dX7_digest_91 rfl (j := 0) rfl ?_
                    refine k_iload_n C dX7_digest_92 rfl (j := 2) rfl ?_
                    refine k_iload C dX7_digest_93 (j := 3) rfl ?_
                    refine k_callVir C (As := [.int (nI i), .int (nI q)]) (rest := [.long (31 * (mRw f nb i (mHr f nh nb nl (mB0 f st nh nb nl) i) q))]) 73 (m_X7_horses l D cI cC cZ cB cJ ad N G2 f kp tx fi2 gr2 st ty 0 at0 re2 nh nb nl i q (by omega) ⟨hM2.1, hM2.2.1, hM2.2.2.1, hM2.2.2.2.1, hM2.2.2.2.2.1, hM2.2.2.2.2.2⟩ hB (by omega) (by omega)) gX7_digest_X7_horses rfl kd_X7_horses rfl rfl ⟨Nat.le_of_ble_eq_true rfl, Nat.le_of_ble_eq_true rfl⟩ (by omega) hM2.1 rfl rfl rfl (Nat.le_of_ble_eq_true rfl) ⟨Nat.zero_le _, Nat.zero_le _⟩ dX7_digest_95 ?_
                    refine k_i2l C dX7_digest_98 ?_
                    refine k_ladd C dX7_digest_99 ?_
                    refine k_lstore_n C (lv' := [(1, .long ((31 * (mRw f nb i (mHr f nh nb nl (mB0 f st nh nb nl) i) q)) + ((mHorse f nb i q).toInt64))), (0, .ref (ad 73)), (3, .int (nI i)), (4, .int (nI q))]) dX7_digest_100 rfl (by decide) rfl ?_
                    refine k_iinc C (v := nI (q + 1)) (lv' := [(4, .int (nI (q + 1))), (1, .long ((31 * (mRw f nb i (mHr f nh nb nl (mB0 f st nh nb nl) i) q)) + ((mHorse f nb i q).toInt64))), (0, .ref (ad 73)), (3, .int (nI i))]) dX7_digest_101 (j := 3) rfl (nI_1 q) (by decide) rfl ?_
                    refine k_goto C 79 dX7_digest_104 (by decide) ?_
                    exact k_sub [2, 1, 3, 0] rfl (ih79 (q + 1) (by omega) (by omega))
              exact k_sub [1, 2, 3, 0] rfl (loop79 (9 + 1) 0 (by omega) (Nat.zero_le _))
        exact k_sub [2, 1, 0] rfl (loop66 (nh + 1) 0 fi gr re G1 (by omega) (by omega) ⟨h_73_G1, h_74_G1, h_75_G1, h_76_G1, h_77_G1, h_78_G1⟩ (fun j hj => (by rw [hG1, up_ne (by omega)])))
      · skip
        have hi3 : i < 14 := k_lt (n := 14) c_14 (by omega) (by omega)
        refine k_ldc2l C (v := 31) dX7_digest_17 (List.mem_of_getElem? (i := 3) rfl) ?_
        refine k_lload_n C dX7_digest_20 rfl (j := 1) rfl ?_
        refine k_lmul C dX7_digest_21 ?_
        refine k_aload_n C dX7_digest_22 rfl (j := 0) rfl ?_
        refine k_iload_n C dX7_digest_23 rfl (j := 2) rfl ?_
        refine k_callVir C (As := [.int (nI i)]) (rest := [.long (31 * (mD1 f st nh nb nl i))]) 73 (m_X7_counted l D cI cC cZ cB cJ ad N G1 f kp tx fi gr st ty 0 at0 re nh nb nl i (by omega) ⟨h_73_G1, h_74_G1, h_75_G1, h_76_G1, h_77_G1, h_78_G1⟩ hH hB hL hP0 (by omega)) gX7_digest_X7_counted rfl kd_X7_counted rfl rfl ⟨Nat.le_of_ble_eq_true rfl, Nat.le_of_ble_eq_true rfl⟩ (by omega) h_73_G1 rfl rfl rfl (Nat.le_of_ble_eq_true rfl) ⟨Nat.zero_le _, Nat.zero_le _⟩ dX7_digest_24 ?_
        refine k_i2l C dX7_digest_27 ?_
        refine k_ladd C dX7_digest_28 ?_
        refine k_lstore_n C (lv' := [(1, .long ((31 * (mD1 f st nh nb nl i)) + ((mCount f st nh nb nl i).toInt64))), (0, .ref (ad 73)), (3, .int (nI i))]) dX7_digest_29 rfl (by decide) rfl ?_
        refine k_iinc C (v := nI (i + 1)) (lv' := [(3, .int (nI (i + 1))), (1, .long ((31 * (mD1 f st nh nb nl i)) + ((mCount f st nh nb nl i).toInt64))), (0, .ref (ad 73))]) dX7_digest_30 (j := 2) rfl (nI_1 i) (by decide) rfl ?_
        refine k_goto C 11 dX7_digest_33 (by decide) ?_
        exact k_sub [2, 1, 0] rfl (ih11 (i + 1) (by omega) (by omega))
  exact k_sub [2, 1, 0] rfl (loop11 (14 + 1) 0 (by omega) (Nat.zero_le _))
