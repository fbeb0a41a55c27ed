/-! the model's methods that change it: slots, saved states, what would be -/
/-- slot a0 laid over slot b0, i of its numbers -/
def mCk (f : Nat → Int32) (a0 b0 i : Nat) : Nat → Int32 := fun j => if 290 * b0 ≤ j ∧ j < 290 * b0 + i then f (290 * a0 + (j - 290 * b0)) else f j
def mCp (f : Nat → Int32) (a0 b0 : Nat) : Nat → Int32 := mCk f a0 b0 290
theorem mCk_s (f : Nat → Int32) {a0 b0 i : Nat} (h : a0 ≠ b0) (hi : i < 290) : upd (mCk f a0 b0 i) (290 * b0 + i) (mCk f a0 b0 i (290 * a0 + i)) = mCk f a0 b0 (i + 1) := by
  funext j
  have hr : mCk f a0 b0 i (290 * a0 + i) = f (290 * a0 + i) := by
    rw [mCk, if_neg]
    rcases Nat.lt_or_gt_of_ne h with q | q <;> omega
  rw [hr]
  by_cases e : j = 290 * b0 + i
  · subst e; rw [pk_us, mCk, if_pos (by omega)]; congr 1; omega
  · rw [pk_un e, mCk, mCk]
    by_cases q : 290 * b0 ≤ j ∧ j < 290 * b0 + i
    · rw [if_pos q, if_pos (by omega)]
    · rw [if_neg q, if_neg (by omega)]
theorem mCk_0 (f : Nat → Int32) (a0 b0 : Nat) : mCk f a0 b0 0 = f := by funext j; rw [mCk, if_neg (by omega)]
def mSh (f : Nat → Int32) : Nat → (Nat → Int32)
  | 0 => f
  | i + 1 => mCp (mSh f i) (i + 2) (i + 1)
def mSave (f : Nat → Int32) (st : Nat) : Nat → Int32 := if st = 6 then mCp (mSh f 5) 0 6 else mCp f 0 (st + 1)
def mSt (st : Nat) : Nat := if st = 6 then 6 else st + 1
theorem mCp_low (f : Nat → Int32) {a0 b0 j : Nat} (hb : 0 < b0) (hj : j < 290) : mCp f a0 b0 j = f j := by rw [mCp, mCk, if_neg (by omega)]
theorem mSh_low (f : Nat → Int32) {j : Nat} (hj : j < 290) : ∀ i, mSh f i j = f j
  | 0 => rfl
  | i + 1 => by rw [mSh, mCp_low _ (by omega) hj, mSh_low f hj i]
theorem mSave_low (f : Nat → Int32) (st : Nat) {j : Nat} (hj : j < 290) : mSave f st j = f j := by
  rw [mSave]; split
  · rw [mCp_low _ (by omega) hj, mSh_low _ hj]
  · rw [mCp_low _ (by omega) hj]
theorem mSt_le {st : Nat} (h : st ≤ 6) : mSt st ≤ 6 := by rw [mSt]; split <;> omega
def mTh (a b c : Bool) : Int32 := if a = false then 1 else if b = false then 2 else if c = false then 3 else 0
theorem mTh_0 {a b c : Bool} (h : mTh a b c = 0) : a = true ∧ b = true ∧ c = true := by
  cases a <;> cases b <;> cases c <;> first | exact ⟨rfl, rfl, rfl⟩ | exact absurd h (by decide)
def mW1 (f fi gr : Nat → Int32) (nh : Nat) : Nat → Int32
  | 0 => 0
  | i + 1 => mW1 f fi gr nh i + (mStaked f i - mRet f fi gr nh i)
def mW2 (f fi gr : Nat → Int32) (nh nb : Nat) : Nat → Int32
  | 0 => mW1 f fi gr nh nb
  | i + 1 => mW2 f fi gr nh nb i + (mOffRet f fi gr i - mO f i 1)
def mWins (f fi gr : Nat → Int32) (nh nb nl : Nat) : Int32 := mW2 f fi gr nh nb nl
theorem mRet_ext {f fi gr fi2 gr2 : Nat → Int32} (nh : Nat) {k : Nat} (hk : okB f k) (h1 : ∀ j, j < 10 → fi j = fi2 j) (h2 : ∀ j, j < 10 → gr j = gr2 j) : mRet f fi gr nh k = mRet f fi2 gr2 nh k := by
  have e1 := h1 _ hk.2.1
  have e2 := h2 _ hk.2.1
  unfold mRet mWinOf mPlaceOf mForWin mForPlace mC mWithin
  rw [e1, e2]
theorem mOffRet_ext {f fi gr fi2 gr2 : Nat → Int32} {k : Nat} (hk : okO f k) (h1 : ∀ j, j < 10 → fi j = fi2 j) (h2 : ∀ j, j < 10 → gr j = gr2 j) : mOffRet f fi gr k = mOffRet f fi2 gr2 k := by
  have e1 := h1 _ hk.2.1
  have e2 := h2 _ hk.2.1
  unfold mOffRet mForWin
  rw [e1, e2]
theorem mW1_ext {f fi gr fi2 gr2 : Nat → Int32} (nh : Nat) (h1 : ∀ j, j < 10 → fi j = fi2 j) (h2 : ∀ j, j < 10 → gr j = gr2 j) : ∀ i, (∀ k, k < i → okB f k) → mW1 f fi gr nh i = mW1 f fi2 gr2 nh i
  | 0, _ => rfl
  | i + 1, hk => by rw [mW1, mW1, mW1_ext nh h1 h2 i (fun k q => hk k (by omega)), mRet_ext nh (hk i (by omega)) h1 h2]
theorem mW2_ext {f fi gr fi2 gr2 : Nat → Int32} (nh nb : Nat) (hB : ∀ k, k < nb → okB f k) (h1 : ∀ j, j < 10 → fi j = fi2 j) (h2 : ∀ j, j < 10 → gr j = gr2 j) : ∀ i, (∀ k, k < i → okO f k) → mW2 f fi gr nh nb i = mW2 f fi2 gr2 nh nb i
  | 0, _ => mW1_ext nh h1 h2 nb hB
  | i + 1, hk => by rw [mW2, mW2, mW2_ext nh nb hB h1 h2 i (fun k q => hk k (by omega)), mOffRet_ext (hk i (by omega)) h1 h2]
theorem mWins_ext {f fi gr fi2 gr2 : Nat → Int32} {nh nb nl : Nat} (hB : ∀ k, k < nb → okB f k) (hO : ∀ k, k < nl → okO f k) (h1 : ∀ j, j < 10 → fi j = fi2 j) (h2 : ∀ j, j < 10 → gr j = gr2 j) : mWins f fi gr nh nb nl = mWins f fi2 gr2 nh nb nl := mW2_ext nh nb hB h1 h2 nl hO
/-- the arrival of horse h ahead of all others, i of them looked at: how many are told, their places, their groups -/
def wAh (f : Nat → Int32) (h : Nat) : Nat → Nat
  | 0 => 1
  | i + 1 => if i = h then wAh f h i else if f (26 + i) = 1 then wAh f h i + 1 else wAh f h i
def wFi (f : Nat → Int32) (h : Nat) (g : Nat → Int32) : Nat → (Nat → Int32)
  | 0 => upd g h 1
  | i + 1 => if i = h then wFi f h g i else if f (26 + i) = 1 then upd (wFi f h g i) i (nI (wAh f h i + 1)) else wFi f h g i
def wGr (f : Nat → Int32) (h : Nat) (g : Nat → Int32) : Nat → (Nat → Int32)
  | 0 => upd g h 1
  | i + 1 => if i = h then wGr f h g i else if f (26 + i) = 1 then upd (wGr f h g i) i 1 else wGr f h g i
theorem upd_ext {g g2 : Nat → Int32} {k : Nat} {x : Int32} (h : ∀ j, j < 10 → g j = g2 j) : ∀ j, j < 10 → upd g k x j = upd g2 k x j := fun j hj => by
  by_cases e : j = k
  · subst e; rw [pk_us, pk_us]
  · rw [pk_un e, pk_un e, h j hj]
theorem wFi_ext (f : Nat → Int32) (h : Nat) {g g2 : Nat → Int32} (e : ∀ j, j < 10 → g j = g2 j) : ∀ i, ∀ j, j < 10 → wFi f h g i j = wFi f h g2 i j
  | 0 => upd_ext e
  | i + 1 => by
    rw [wFi, wFi]
    by_cases q : i = h
    · rw [if_pos q, if_pos q]; exact wFi_ext f h e i
    · by_cases q2 : f (26 + i) = 1
      · simp only [q2, if_neg q, if_true]; exact upd_ext (wFi_ext f h e i)
      · simp only [q2, if_neg q, if_false]; exact wFi_ext f h e i
theorem wGr_ext (f : Nat → Int32) (h : Nat) {g g2 : Nat → Int32} (e : ∀ j, j < 10 → g j = g2 j) : ∀ i, ∀ j, j < 10 → wGr f h g i j = wGr f h g2 i j
  | 0 => upd_ext e
  | i + 1 => by
    rw [wGr, wGr]
    by_cases q : i = h
    · rw [if_pos q, if_pos q]; exact wGr_ext f h e i
    · by_cases q2 : f (26 + i) = 1
      · simp only [q2, if_neg q, if_true]; exact upd_ext (wGr_ext f h e i)
      · simp only [q2, if_neg q, if_false]; exact wGr_ext f h e i
theorem okG_upd {fi gr : Nat → Int32} {k : Nat} {x y : Int32} (h : okG fi gr) (hy : ¬ y = 0) : okG (upd fi k x) (upd gr k y) := fun j hj q => by
  by_cases e : j = k
  · subst e; rw [pk_us]; exact hy
  · rw [pk_un e] at q ⊢; exact h j hj q
theorem okG_neg (fi gr : Nat → Int32) : okG (aB fi 10) gr := fun j hj q => absurd (show aB fi 10 j < 0 by rw [aB, if_pos hj]; decide) q
theorem okG_w (f : Nat → Int32) (h : Nat) (fi gr : Nat → Int32) : ∀ i, okG (wFi f h (aB fi 10) i) (wGr f h gr i)
  | 0 => okG_upd (okG_neg fi gr) (by decide)
  | i + 1 => by
    rw [wFi, wGr]
    by_cases q : i = h
    · rw [if_pos q, if_pos q]; exact okG_w f h fi gr i
    · by_cases q2 : f (26 + i) = 1
      · simp only [q2, if_neg q, if_true]; exact okG_upd (okG_w f h fi gr i) (by decide)
      · simp only [q2, if_neg q, if_false]; exact okG_w f h fi gr i
theorem aB_0 (f : Nat → Int32) : aB f 0 = f := by funext j; rw [aB, if_neg (by omega)]
def mNeg : Nat → Int32 := fun _ => -1
theorem aB_neg (g : Nat → Int32) : ∀ j, j < 10 → aB g 10 j = mNeg j := fun j hj => by rw [aB, if_pos hj]; rfl
def mWW (f : Nat → Int32) (nh nb nl h : Nat) : Int32 := mWins f (wFi f h mNeg nh) (wGr f h mNeg nh) nh nb nl
theorem mWW_eq {f : Nat → Int32} {nh nb nl : Nat} (h : Nat) (fi gr : Nat → Int32) (hB : ∀ k, k < nb → okB f k) (hO : ∀ k, k < nl → okO f k) : mWins f (wFi f h (aB fi 10) nh) (wGr f h (aB gr 10) nh) nh nb nl = mWW f nh nb nl h :=
  mWins_ext hB hO (wFi_ext f h (aB_neg fi) nh) (wGr_ext f h (aB_neg gr) nh)
def mIfF (f : Nat → Int32) (nh nb nl h : Nat) : Int32 := if f (26 + h) = 1 then mWW f nh nb nl h + 10000000 else -1
def mWst (f : Nat → Int32) (nh nb nl : Nat) : Nat → Int32 × Int32
  | 0 => (-1, 0)
  | i + 1 => if f (26 + i) = 1 then (if (mWst f nh nb nl i).1 < 0 ∨ mWW f nh nb nl i < (mWst f nh nb nl i).2 then (nI i, mWW f nh nb nl i) else mWst f nh nb nl i) else mWst f nh nb nl i
def mCv (own a b q : Int32) : Nat → Nat → Nat
  | 0, s => s
  | k + 1, s => if own + nI s * a / b < -q then mCv own a b q k (s + 1) else s
def mCov (f : Nat → Int32) (nh nb nl h : Nat) : Int32 :=
  if f (26 + h) = 0 then -1 else if mCv (mWW f nh nb nl h) (f (6 + h)) (f (16 + h)) (f 5) 10000 0 < 10000 then nI (mCv (mWW f nh nb nl h) (f (6 + h)) (f (16 + h)) (f 5) 10000 0) else -1
theorem mCv_le (own a b q : Int32) : ∀ k s, mCv own a b q k s ≤ s + k
  | 0, _ => Nat.le_refl _
  | k + 1, s => by rw [mCv]; split
                   · have := mCv_le own a b q k (s + 1); omega
                   · omega
def mRn (f : Nat → Int32) : Nat → Nat
  | 0 => 0
  | i + 1 => if f (26 + i) = 1 then mRn f i + 1 else mRn f i
def mSf (f : Nat → Int32) (nh nb nl : Nat) : Nat → Nat
  | 0 => 0
  | i + 1 => if f (26 + i) = 1 then (if mWW f nh nb nl i < -(f 5) then mSf f nh nb nl i else mSf f nh nb nl i + 1) else mSf f nh nb nl i
theorem mRn_le (f : Nat → Int32) : ∀ i, mRn f i ≤ i
  | 0 => Nat.le_refl _
  | i + 1 => by have := mRn_le f i; rw [mRn]; split <;> omega
theorem mSf_le (f : Nat → Int32) (nh nb nl : Nat) : ∀ i, mSf f nh nb nl i ≤ mRn f i
  | 0 => Nat.le_refl _
  | i + 1 => by
    have := mSf_le f nh nb nl i
    rw [mSf, mRn]
    by_cases q : f (26 + i) = 1
    · simp only [q, if_true]; split <;> omega
    · simp only [q, if_false]; exact this
def mShare (f : Nat → Int32) (nh nb nl : Nat) : UInt64 := if mRn f nh = 0 then FP.dconst1 else dQ (mSf f nh nb nl nh) (mRn f nh)
theorem inX7_forgets_7 : ∀ w ∈ wsX70, w ∈ wsX7_forgets := fun _ h => List.mem_cons_of_mem _ (List.mem_append_right _ h)
theorem kd_X7_forgets : yX7_forgets.cls = RX7 ∧ yX7_forgets.cls ≠ "java/lang/invoke/MethodHandle" ∧ yX7_forgets.cls ≠ "java/lang/invoke/VarHandle" ∧ (parseMethodDescriptor yX7_forgets.desc).map (fun d => d.parameters.length) = some 0 := by decide +kernel
abbrev rX7_forgets : Room := ({ frames := 0, cells := 0, slots := 0, locals := 0 } : Room)
set_option maxRecDepth 100000 in
set_option maxHeartbeats 4000000 in
/-- model: forgets -/
theorem m_X7_forgets (l : Launch) (D : va_G) (cI cC cZ cB cJ : ClassId) (ad : Nat → Nat) (N : Nat) (G : Nat → va_E) (f kp tx fi gr : Nat → Int32) (st ty : Nat) (th at0 re : Int32) (nh nb nl : Nat) (hN : 79 ≤ N) (hM : isMo ad cI cC cZ G f kp tx fi gr st ty th at0 re) : kMv l yX7_forgets wsX7_forgets rX7_forgets D (kT5 cI cC cZ cB cJ) ad N G [.ref (ad 73)] (fun G' => isMo ad cI cC cZ G' f kp tx (aB fi 10) (aB gr 10) st ty th at0 re ∧ ∀ j, (j < 73 ∨ 79 ≤ j) → G' j = G j) := by
  refine k_startv (cc := cX7_forgets) (ret := none) (maxL := 2) (lv0 := [(0, .ref (ad 73))]) (by decide) rfl (Nat.le_of_ble_eq_true rfl) rfl ?_
  intro p e s m args below meth c A Q C hQ
  refine k_iconst C (v := 0) dX7_forgets_0 (by decide) ?_
  refine k_istore_n C (lv' := [(1, .int 0), (0, .ref (ad 73))]) dX7_forgets_1 rfl (by decide) rfl ?_
  have loop2 : ∀ (k : Nat) (i : Nat) (G2 : Nat → va_E), (10 + 1 ≤ i + k) → (i ≤ 10) → (isMo ad cI cC cZ G2 f kp tx (aB fi i) (aB gr i) st ty th at0 re) → (∀ j, (j < 73 ∨ 79 ≤ j) → G2 j = G j) → kJ p l e rX7_forgets s m args below meth c 0 0 Q 2 D ad N A G2 2 [(0, .ref (ad 73)), (1, .int (nI i))] [] := by
    intro k
    induction k with
    | zero => intro i G2 h1 h2 hM2 hfr; exact absurd h1 (by omega)
    | succ k ih2 =>
      intro i G2 h1 h2 hM2 hfr
      refine k_iload_n C dX7_forgets_2 rfl (j := 1) rfl ?_
      refine k_bipush C (v := 10) dX7_forgets_3 (by decide) ?_
      refine k_icmp_ge C 28 dX7_forgets_5 (by decide) (fun c_5 => ?_) (fun c_5 => ?_)
      · skip
        have hi2 : 10 = i := (k_ge (n := 10) c_5 (by omega) (by omega)).symm
        subst hi2
        exact k_vret C hQ rfl dX7_forgets_28 ⟨⟨hM2.1, hM2.2.1, hM2.2.2.1, hM2.2.2.2.1, hM2.2.2.2.2.1, hM2.2.2.2.2.2⟩, fun j hj => hfr j hj⟩
      · skip
        have hi3 : i < 10 := k_lt (n := 10) c_5 (by omega) (by omega)
        refine k_aload_n C dX7_forgets_8 rfl (j := 0) rfl ?_
        refine k_get C 73 inX7_forgets_7 (by omega) hM2.1 rfl 7 (by decide) (List.mem_of_getElem? (i := 1) rfl) rfl rfl dX7_forgets_9 ?_
        refine k_iload_n C dX7_forgets_12 rfl (j := 1) rfl ?_
        refine k_iconst C (v := (-1)) dX7_forgets_13 (by decide) ?_
        refine k_iastN C 77 0 (by omega) hM2.2.2.2.2.1 rfl i rfl (by omega) (Nat.le_of_ble_eq_true rfl) dX7_forgets_14 (fun G1 hG1 => ?_)
        have h_73_G1 : G1 73 = .inr (7, [.ref (ad 74), .int (nI st), .ref (ad 75), .int th, .ref (ad 76), .int (nI ty), .int at0, .ref (ad 77), .ref (ad 78), .int re]) := up_at hG1 hM2.1 (by omega)
        have h_74_G1 : G1 74 = .inl (cI, 2610, .inl f) := up_at hG1 hM2.2.1 (by omega)
        have h_75_G1 : G1 75 = .inl (cZ, 2, .inl kp) := up_at hG1 hM2.2.2.1 (by omega)
        have h_76_G1 : G1 76 = .inl (cC, 30, .inl tx) := up_at hG1 hM2.2.2.2.1 (by omega)
        have h_78_G1 : G1 78 = .inl (cI, 10, .inl (aB gr i)) := up_at hG1 hM2.2.2.2.2.2 (by omega)
        have h_77_G1 : G1 77 = .inl (cI, 10, .inl (aB fi (i + 1))) := by rw [up_it hG1]; congr 4; rw [← aB_succ _ (by omega), nI_clamp (by omega)]
        refine k_aload_n C dX7_forgets_15 rfl (j := 0) rfl ?_
        refine k_get C 73 inX7_forgets_7 (by omega) h_73_G1 rfl 8 (by decide) (List.mem_of_getElem? (i := 2) rfl) rfl rfl dX7_forgets_16 ?_
        refine k_iload_n C dX7_forgets_19 rfl (j := 1) rfl ?_
        refine k_iconst C (v := (-1)) dX7_forgets_20 (by decide) ?_
        refine k_iastN C 78 0 (by omega) h_78_G1 rfl i rfl (by omega) (Nat.le_of_ble_eq_true rfl) dX7_forgets_21 (fun G2 hG2 => ?_)
        have h_73_G2 : G2 73 = .inr (7, [.ref (ad 74), .int (nI st), .ref (ad 75), .int th, .ref (ad 76), .int (nI ty), .int at0, .ref (ad 77), .ref (ad 78), .int re]) := up_at hG2 h_73_G1 (by omega)
        have h_74_G2 : G2 74 = .inl (cI, 2610, .inl f) := up_at hG2 h_74_G1 (by omega)
        have h_75_G2 : G2 75 = .inl (cZ, 2, .inl kp) := up_at hG2 h_75_G1 (by omega)
        have h_76_G2 : G2 76 = .inl (cC, 30, .inl tx) := up_at hG2 h_76_G1 (by omega)
        have h_77_G2 : G2 77 = .inl (cI, 10, .inl (aB fi (i + 1))) := up_at hG2 h_77_G1 (by omega)
        have h_78_G2 : G2 78 = .inl (cI, 10, .inl (aB gr (i + 1))) := by rw [up_it hG2]; congr 4; rw [← aB_succ _ (by omega), nI_clamp (by omega)]
        refine k_iinc C (v := nI (i + 1)) (lv' := [(1, .int (nI (i + 1))), (0, .ref (ad 73))]) dX7_forgets_22 (j := 1) rfl (nI_1 i) (by decide) rfl ?_
        refine k_goto C 2 dX7_forgets_25 (by decide) ?_
        exact k_sub [1, 0] rfl (ih2 (i + 1) G2 (by omega) (by omega) ⟨h_73_G2, h_74_G2, h_75_G2, h_76_G2, h_77_G2, h_78_G2⟩ (fun j hj => (show _ = _ from by rw [hG2, up_ne (by omega)]).trans ((show _ = _ from by rw [hG1, up_ne (by omega)]).trans (hfr j hj))))
  exact k_sub [1, 0] rfl (loop2 (10 + 1) 0 G (by omega) (by omega) (by rw [aB_0, aB_0]; exact hM) (fun _ _ => rfl))
theorem inX7_copies_7 : ∀ w ∈ wsX70, w ∈ wsX7_copies := fun _ h => List.mem_cons_of_mem _ (List.mem_append_right _ h)
theorem kd_X7_copies : yX7_copies.cls = RX7 ∧ yX7_copies.cls ≠ "java/lang/invoke/MethodHandle" ∧ yX7_copies.cls ≠ "java/lang/invoke/VarHandle" ∧ (parseMethodDescriptor yX7_copies.desc).map (fun d => d.parameters.length) = some 2 := by decide +kernel
abbrev rX7_copies : Room := ({ frames := 0, cells := 0, slots := 0, locals := 0 } : Room)
set_option maxRecDepth 100000 in
set_option maxHeartbeats 4000000 in
/-- model: copies -/
theorem m_X7_copies (l : Launch) (D : va_G) (cI cC cZ cB cJ : ClassId) (ad : Nat → Nat) (N : Nat) (G : Nat → va_E) (f kp tx fi gr : Nat → Int32) (st ty : Nat) (th at0 re : Int32) (nh nb nl : Nat) (a0 b0 : Nat) (hN : 79 ≤ N) (hM : isMo ad cI cC cZ G f kp tx fi gr st ty th at0 re) (ha : a0 ≤ 8) (hb : b0 ≤ 8) (hab : a0 ≠ b0) : kMv l yX7_copies wsX7_copies rX7_copies D (kT5 cI cC cZ cB cJ) ad N G [.ref (ad 73), .int (nI a0), .int (nI b0)] (fun G' => isMo ad cI cC cZ G' (mCp f a0 b0) kp tx fi gr st ty th at0 re ∧ ∀ j, (j < 73 ∨ 79 ≤ j) → G' j = G j) := by
  refine k_startv (cc := cX7_copies) (ret := none) (maxL := 4) (lv0 := [(0, .ref (ad 73)), (1, .int (nI a0)), (2, .int (nI b0))]) (by decide) rfl (Nat.le_of_ble_eq_true rfl) rfl ?_
  intro p e s m args below meth c A Q C hQ
  refine k_iconst C (v := 0) dX7_copies_0 (by decide) ?_
  refine k_istore_n C (lv' := [(3, .int 0), (0, .ref (ad 73)), (1, .int (nI a0)), (2, .int (nI b0))]) dX7_copies_1 rfl (by decide) rfl ?_
  have loop2 : ∀ (k : Nat) (i : Nat) (G2 : Nat → va_E), (290 + 1 ≤ i + k) → (i ≤ 290) → (isMo ad cI cC cZ G2 (mCk f a0 b0 i) kp tx fi gr st ty th at0 re) → (∀ j, (j < 73 ∨ 79 ≤ j) → G2 j = G j) → kJ p l e rX7_copies s m args below meth c 0 0 Q 4 D ad N A G2 2 [(0, .ref (ad 73)), (1, .int (nI a0)), (2, .int (nI b0)), (3, .int (nI i))] [] := by
    intro k
    induction k with
    | zero => intro i G2 h1 h2 hM2 hfr; exact absurd h1 (by omega)
    | succ k ih2 =>
      intro i G2 h1 h2 hM2 hfr
      refine k_iload_n C dX7_copies_2 rfl (j := 3) rfl ?_
      refine k_sipush C (v := 290) dX7_copies_3 (by decide) ?_
      refine k_icmp_ge C 39 dX7_copies_6 (by decide) (fun c_6 => ?_) (fun c_6 => ?_)
      · skip
        have hi2 : 290 = i := (k_ge (n := 290) c_6 (by omega) (by omega)).symm
        subst hi2
        exact k_vret C hQ rfl dX7_copies_39 ⟨⟨hM2.1, hM2.2.1, hM2.2.2.1, hM2.2.2.2.1, hM2.2.2.2.2.1, hM2.2.2.2.2.2⟩, fun j hj => hfr j hj⟩
      · skip
        have hi3 : i < 290 := k_lt (n := 290) c_6 (by omega) (by omega)
        refine k_aload_n C dX7_copies_9 rfl (j := 0) rfl ?_
        refine k_get C 73 inX7_copies_7 (by omega) hM2.1 rfl 0 (by decide) (List.mem_of_getElem? (i := 1) rfl) rfl rfl dX7_copies_10 ?_
        refine k_sipush C (v := 290) dX7_copies_13 (by decide) ?_
        refine k_iload_n C dX7_copies_16 rfl (j := 2) rfl ?_
        refine k_imul C dX7_copies_17 ?_
        refine k_iload_n C dX7_copies_18 rfl (j := 3) rfl ?_
        refine k_iadd C dX7_copies_19 ?_
        refine k_aload_n C dX7_copies_20 rfl (j := 0) rfl ?_
        refine k_get C 73 inX7_copies_7 (by omega) hM2.1 rfl 0 (by decide) (List.mem_of_getElem? (i := 1) rfl) rfl rfl dX7_copies_21 ?_
        refine k_sipush C (v := 290) dX7_copies_24 (by decide) ?_
        refine k_iload_n C dX7_copies_27 rfl (j := 1) rfl ?_
        refine k_imul C dX7_copies_28 ?_
        refine k_iload_n C dX7_copies_29 rfl (j := 3) rfl ?_
        refine k_iadd C dX7_copies_30 ?_
        refine k_ialdN C 74 0 (by omega) hM2.2.1 rfl ((290 * a0) + i) (knAdd (knMul rfl rfl) rfl) (by omega) (Nat.le_of_ble_eq_true rfl) dX7_copies_31 ?_
        refine k_iastN C 74 0 (by omega) hM2.2.1 rfl ((290 * b0) + i) (knAdd (knMul rfl rfl) rfl) (by omega) (Nat.le_of_ble_eq_true rfl) dX7_copies_32 (fun G1 hG1 => ?_)
        have h_73_G1 : G1 73 = .inr (7, [.ref (ad 74), .int (nI st), .ref (ad 75), .int th, .ref (ad 76), .int (nI ty), .int at0, .ref (ad 77), .ref (ad 78), .int re]) := up_at hG1 hM2.1 (by omega)
        have h_75_G1 : G1 75 = .inl (cZ, 2, .inl kp) := up_at hG1 hM2.2.2.1 (by omega)
        have h_76_G1 : G1 76 = .inl (cC, 30, .inl tx) := up_at hG1 hM2.2.2.2.1 (by omega)
        have h_77_G1 : G1 77 = .inl (cI, 10, .inl fi) := up_at hG1 hM2.2.2.2.2.1 (by omega)
        have h_78_G1 : G1 78 = .inl (cI, 10, .inl gr) := up_at hG1 hM2.2.2.2.2.2 (by omega)
        have h_74_G1 : G1 74 = .inl (cI, 2610, .inl (mCk f a0 b0 (i + 1))) := by rw [up_it hG1]; rw [mCk_s f hab hi3]
        refine k_iinc C (v := nI (i + 1)) (lv' := [(3, .int (nI (i + 1))), (0, .ref (ad 73)), (1, .int (nI a0)), (2, .int (nI b0))]) dX7_copies_33 (j := 3) rfl (nI_1 i) (by decide) rfl ?_
        refine k_goto C 2 dX7_copies_36 (by decide) ?_
        exact k_sub [1, 2, 3, 0] rfl (ih2 (i + 1) G1 (by omega) (by omega) ⟨h_73_G1, h_74_G1, h_75_G1, h_76_G1, h_77_G1, h_78_G1⟩ (fun j hj => (show _ = _ from by rw [hG1, up_ne (by omega)]).trans (hfr j hj)))
  exact k_sub [1, 2, 3, 0] rfl (loop2 (290 + 1) 0 G (by omega) (by omega) (by rw [mCk_0]; exact hM) (fun _ _ => rfl))
theorem inX7_saves_7 : ∀ w ∈ wsX70, w ∈ wsX7_saves := fun _ h => List.mem_cons_of_mem _ (List.mem_append_right _ h)
theorem kd_X7_saves : yX7_saves.cls = RX7 ∧ yX7_saves.cls ≠ "java/lang/invoke/MethodHandle" ∧ yX7_saves.cls ≠ "java/lang/invoke/VarHandle" ∧ (parseMethodDescriptor yX7_saves.desc).map (fun d => d.parameters.length) = some 0 := by decide +kernel
abbrev rX7_saves : Room := ({ frames := 1, cells := 0, slots := 0, locals := 23 } : Room)
set_option maxRecDepth 100000 in
set_option maxHeartbeats 4000000 in
/-- model: saves -/
theorem m_X7_saves (l : Launch) (D : va_G) (cI cC cZ cB cJ : ClassId) (ad : Nat → Nat) (N : Nat) (G : Nat → va_E) (f kp tx fi gr : Nat → Int32) (st ty : Nat) (th at0 re : Int32) (nh nb nl : Nat) (hN : 79 ≤ N) (hM : isMo ad cI cC cZ G f kp tx fi gr st ty th at0 re) (hS0 : st ≤ 6) : kMv l yX7_saves wsX7_saves rX7_saves D (kT5 cI cC cZ cB cJ) ad N G [.ref (ad 73)] (fun G' => isMo ad cI cC cZ G' (mSave f st) kp tx fi gr (mSt st) ty th at0 re ∧ ∀ j, (j < 73 ∨ 79 ≤ j) → G' j = G j) := by
  refine k_startv (cc := cX7_saves) (ret := none) (maxL := 2) (lv0 := [(0, .ref (ad 73))]) (by decide) rfl (Nat.le_of_ble_eq_true rfl) rfl ?_
  intro p e s m args below meth c A Q C hQ
  refine k_aload_n C dX7_saves_0 rfl (j := 0) rfl ?_
  refine k_get C 73 inX7_saves_7 (by omega) hM.1 rfl 1 (by decide) (List.mem_of_getElem? (i := 1) rfl) rfl rfl dX7_saves_1 ?_
  refine k_bipush C (v := 6) dX7_saves_4 (by decide) ?_
  refine k_icmp_ne C 41 dX7_saves_6 (by decide) (fun c_6 => ?_) (fun c_6 => ?_)
  · skip
    have h6 : ¬ st = 6 := fun q => c_6 (by rw [q]; rfl)
    refine k_aload_n C dX7_saves_41 rfl (j := 0) rfl ?_
    refine k_dup C dX7_saves_42 rfl ?_
    refine k_get C 73 inX7_saves_7 (by omega) hM.1 rfl 1 (by decide) (List.mem_of_getElem? (i := 1) rfl) rfl rfl dX7_saves_43 ?_
    refine k_iconst C (v := 1) dX7_saves_46 (by decide) ?_
    refine k_iadd C dX7_saves_47 ?_
    refine k_put C 73 inX7_saves_7 tyX7 tyX7_ok nmX7 (by omega) hM.1 rfl 1 (by decide) (List.mem_of_getElem? (i := 1) rfl) rfl rfl rfl rfl (Nat.le_of_ble_eq_true rfl) dX7_saves_48 (fun G1 hG1 => ?_)
    have h_74_G1 : G1 74 = .inl (cI, 2610, .inl f) := up_at hG1 hM.2.1 (by omega)
    have h_75_G1 : G1 75 = .inl (cZ, 2, .inl kp) := up_at hG1 hM.2.2.1 (by omega)
    have h_76_G1 : G1 76 = .inl (cC, 30, .inl tx) := up_at hG1 hM.2.2.2.1 (by omega)
    have h_77_G1 : G1 77 = .inl (cI, 10, .inl fi) := up_at hG1 hM.2.2.2.2.1 (by omega)
    have h_78_G1 : G1 78 = .inl (cI, 10, .inl gr) := up_at hG1 hM.2.2.2.2.2 (by omega)
    have h_73_G1 : G1 73 = .inr (7, [.ref (ad 74), .int (nI (st + 1)), .ref (ad 75), .int th, .ref (ad 76), .int (nI ty), .int at0, .ref (ad 77), .ref (ad 78), .int re]) := by rw [up_it hG1]; rw [nI_1]; rfl
    refine k_aload_n C dX7_saves_51 rfl (j := 0) rfl ?_
    refine k_iconst C (v := 0) dX7_saves_52 (by decide) ?_
    refine k_aload_n C dX7_saves_53 rfl (j := 0) rfl ?_
    refine k_get C 73 inX7_saves_7 (by omega) h_73_G1 rfl 1 (by decide) (List.mem_of_getElem? (i := 1) rfl) rfl rfl dX7_saves_54 ?_
    refine k_congS (st' := [.int (nI (st + 1)), .int (nI 0), .ref (ad 73)]) (congrArg (fun (z9 : Int32) => ([.int (nI (st + 1)), .int z9, .ref (ad 73)] : List Value)) (show (0) = nI 0 from rfl)) ?_
    refine k_callVv C (As := [.int (nI 0), .int (nI (st + 1))]) (rest := []) 73 (m_X7_copies l D cI cC cZ cB cJ ad N G1 f kp tx fi gr (st + 1) ty th at0 re nh nb nl 0 (st + 1) (by omega) ⟨h_73_G1, h_74_G1, h_75_G1, h_76_G1, h_77_G1, h_78_G1⟩ (by omega) (by omega) (by omega)) gX7_saves_X7_copies rfl kd_X7_copies rfl rfl ⟨Nat.le_of_ble_eq_true rfl, Nat.le_of_ble_eq_true rfl⟩ (by omega) h_73_G1 rfl rfl rfl (Nat.le_of_ble_eq_true rfl) ⟨Nat.zero_le _, Nat.zero_le _⟩ dX7_saves_57 (fun G2 hG2 => ?_)
    obtain ⟨hM_G2, hf_G2⟩ := hG2
    exact k_vret C hQ rfl dX7_saves_60 ⟨(by rw [show mSave f st = mCp f 0 (st + 1) from if_neg h6, show mSt st = st + 1 from if_neg h6]; exact ⟨hM_G2.1, hM_G2.2.1, hM_G2.2.2.1, hM_G2.2.2.2.1, hM_G2.2.2.2.2.1, hM_G2.2.2.2.2.2⟩), fun j hj => (hf_G2 j hj : _).trans ((by rw [hG1, up_ne (by omega)]))⟩
  · skip
    have h6 : 6 = st := ((nI_eq (b := 6) (by omega) (by decide)).mp c_6).symm
    subst h6
    refine k_iconst C (v := 1) dX7_saves_9 (by decide) ?_
    refine k_istore_n C (lv' := [(1, .int 1), (0, .ref (ad 73))]) dX7_saves_10 rfl (by decide) rfl ?_
    have loop11 : ∀ (k : Nat) (i : Nat) (G2 : Nat → va_E), (5 + 1 ≤ i + k) → (i ≤ 5) → (isMo ad cI cC cZ G2 (mSh f i) kp tx fi gr 6 ty th at0 re) → (∀ j, (j < 73 ∨ 79 ≤ j) → G2 j = G j) → kJ p l e rX7_saves s m args below meth c 0 0 Q 2 D ad N A G2 11 [(0, .ref (ad 73)), (1, .int (nI (i + 1)))] [] := by
      intro k
      induction k with
      | zero => intro i G2 h1 h2 hM2 hfr; exact absurd h1 (by omega)
      | succ k ih11 =>
        intro i G2 h1 h2 hM2 hfr
        refine k_iload_n C dX7_saves_11 rfl (j := 1) rfl ?_
        refine k_bipush C (v := 6) dX7_saves_12 (by decide) ?_
        refine k_icmp_ge C 31 dX7_saves_14 (by decide) (fun c_14 => ?_) (fun c_14 => ?_)
        · skip
          have hi2 : 5 = i := by have := k_ge (n := 6) c_14 (by omega) (by omega); omega
          subst hi2
          refine k_aload_n C dX7_saves_31 rfl (j := 0) rfl ?_
          refine k_dup C dX7_saves_32 rfl ?_
          refine k_get C 73 inX7_saves_7 (by omega) hM2.1 rfl 1 (by decide) (List.mem_of_getElem? (i := 1) rfl) rfl rfl dX7_saves_33 ?_
          refine k_iconst C (v := 1) dX7_saves_36 (by decide) ?_
          refine k_isub C dX7_saves_37 ?_
          refine k_put C 73 inX7_saves_7 tyX7 tyX7_ok nmX7 (by omega) hM2.1 rfl 1 (by decide) (List.mem_of_getElem? (i := 1) rfl) rfl rfl rfl rfl (Nat.le_of_ble_eq_true rfl) dX7_saves_38 (fun G3 hG3 => ?_)
          have h_74_G3 : G3 74 = .inl (cI, 2610, .inl (mSh f 5)) := up_at hG3 hM2.2.1 (by omega)
          have h_75_G3 : G3 75 = .inl (cZ, 2, .inl kp) := up_at hG3 hM2.2.2.1 (by omega)
          have h_76_G3 : G3 76 = .inl (cC, 30, .inl tx) := up_at hG3 hM2.2.2.2.1 (by omega)
          have h_77_G3 : G3 77 = .inl (cI, 10, .inl fi) := up_at hG3 hM2.2.2.2.2.1 (by omega)
          have h_78_G3 : G3 78 = .inl (cI, 10, .inl gr) := up_at hG3 hM2.2.2.2.2.2 (by omega)
          have h_73_G3 : G3 73 = .inr (7, [.ref (ad 74), .int (nI 5), .ref (ad 75), .int th, .ref (ad 76), .int (nI ty), .int at0, .ref (ad 77), .ref (ad 78), .int re]) := by rw [up_it hG3]; rfl
          refine k_aload_n C dX7_saves_41 rfl (j := 0) rfl ?_
          refine k_dup C dX7_saves_42 rfl ?_
          refine k_get C 73 inX7_saves_7 (by omega) h_73_G3 rfl 1 (by decide) (List.mem_of_getElem? (i := 1) rfl) rfl rfl dX7_saves_43 ?_
          refine k_iconst C (v := 1) dX7_saves_46 (by decide) ?_
          refine k_iadd C dX7_saves_47 ?_
          refine k_put C 73 inX7_saves_7 tyX7 tyX7_ok nmX7 (by omega) h_73_G3 rfl 1 (by decide) (List.mem_of_getElem? (i := 1) rfl) rfl rfl rfl rfl (Nat.le_of_ble_eq_true rfl) dX7_saves_48 (fun G4 hG4 => ?_)
          have h_74_G4 : G4 74 = .inl (cI, 2610, .inl (mSh f 5)) := up_at hG4 h_74_G3 (by omega)
          have h_75_G4 : G4 75 = .inl (cZ, 2, .inl kp) := up_at hG4 h_75_G3 (by omega)
          have h_76_G4 : G4 76 = .inl (cC, 30, .inl tx) := up_at hG4 h_76_G3 (by omega)
          have h_77_G4 : G4 77 = .inl (cI, 10, .inl fi) := up_at hG4 h_77_G3 (by omega)
          have h_78_G4 : G4 78 = .inl (cI, 10, .inl gr) := up_at hG4 h_78_G3 (by omega)
          have h_73_G4 : G4 73 = .inr (7, [.ref (ad 74), .int (nI 6), .ref (ad 75), .int th, .ref (ad 76), .int (nI ty), .int at0, .ref (ad 77), .ref (ad 78), .int re]) := by rw [up_it hG4]; rfl
          refine k_aload_n C dX7_saves_51 rfl (j := 0) rfl ?_
          refine k_iconst C (v := 0) dX7_saves_52 (by decide) ?_
          refine k_aload_n C dX7_saves_53 rfl (j := 0) rfl ?_
          refine k_get C 73 inX7_saves_7 (by omega) h_73_G4 rfl 1 (by decide) (List.mem_of_getElem? (i := 1) rfl) rfl rfl dX7_saves_54 ?_
          refine k_congS (st' := [.int (nI 6), .int (nI 0), .ref (ad 73)]) (congrArg (fun (z9 : Int32) => ([.int (nI 6), .int z9, .ref (ad 73)] : List Value)) (show (0) = nI 0 from rfl)) ?_
          refine k_callVv C (As := [.int (nI 0), .int (nI 6)]) (rest := []) 73 (m_X7_copies l D cI cC cZ cB cJ ad N G4 (mSh f 5) kp tx fi gr 6 ty th at0 re nh nb nl 0 6 (by omega) ⟨h_73_G4, h_74_G4, h_75_G4, h_76_G4, h_77_G4, h_78_G4⟩ (by omega) (by omega) (by omega)) gX7_saves_X7_copies rfl kd_X7_copies rfl rfl ⟨Nat.le_of_ble_eq_true rfl, Nat.le_of_ble_eq_true rfl⟩ (by omega) h_73_G4 rfl rfl rfl (Nat.le_of_ble_eq_true rfl) ⟨Nat.zero_le _, Nat.zero_le _⟩ dX7_saves_57 (fun G5 hG5 => ?_)
          obtain ⟨hM_G5, hf_G5⟩ := hG5
          exact k_vret C hQ rfl dX7_saves_60 ⟨(show isMo _ _ _ _ _ (mSave f 6) kp tx fi gr (mSt 6) ty th at0 re from ⟨hM_G5.1, hM_G5.2.1, hM_G5.2.2.1, hM_G5.2.2.2.1, hM_G5.2.2.2.2.1, hM_G5.2.2.2.2.2⟩), fun j hj => (hf_G5 j hj : _).trans ((show _ = _ from by rw [hG4, up_ne (by omega)]).trans ((show _ = _ from by rw [hG3, up_ne (by omega)]).trans (hfr j hj)))⟩
        · skip
          have hi3 : i < 5 := by have := k_lt (n := 6) c_14 (by omega) (by omega); omega
          refine k_aload_n C dX7_saves_17 rfl (j := 0) rfl ?_
          refine k_iload_n C dX7_saves_18 rfl (j := 1) rfl ?_
          refine k_iconst C (v := 1) dX7_saves_19 (by decide) ?_
          refine k_iadd C dX7_saves_20 ?_
          refine k_iload_n C dX7_saves_21 rfl (j := 1) rfl ?_
          refine k_congS (st' := [.int (nI (i + 1)), .int (nI ((i + 1) + 1)), .ref (ad 73)]) (congrArg (fun (z9 : Int32) => ([.int (nI (i + 1)), .int z9, .ref (ad 73)] : List Value)) (show ((nI (i + 1)) + 1) = nI ((i + 1) + 1) from (knAdd rfl rfl))) ?_
          refine k_callVv C (As := [.int (nI ((i + 1) + 1)), .int (nI (i + 1))]) (rest := []) 73 (m_X7_copies l D cI cC cZ cB cJ ad N G2 (mSh f i) kp tx fi gr 6 ty th at0 re nh nb nl ((i + 1) + 1) (i + 1) (by omega) ⟨hM2.1, hM2.2.1, hM2.2.2.1, hM2.2.2.2.1, hM2.2.2.2.2.1, hM2.2.2.2.2.2⟩ (by omega) (by omega) (by omega)) gX7_saves_X7_copies rfl kd_X7_copies rfl rfl ⟨Nat.le_of_ble_eq_true rfl, Nat.le_of_ble_eq_true rfl⟩ (by omega) hM2.1 rfl rfl rfl (Nat.le_of_ble_eq_true rfl) ⟨Nat.zero_le _, Nat.zero_le _⟩ dX7_saves_22 (fun G6 hG6 => ?_)
          obtain ⟨hM_G6, hf_G6⟩ := hG6
          refine k_iinc C (v := nI (i + 1 + 1)) (lv' := [(1, .int (nI (i + 1 + 1))), (0, .ref (ad 73))]) dX7_saves_25 (j := 1) rfl (nI_1 (i + 1)) (by decide) rfl ?_
          refine k_goto C 11 dX7_saves_28 (by decide) ?_
          exact k_sub [1, 0] rfl (ih11 (i + 1) G6 (by omega) (by omega) ⟨hM_G6.1, hM_G6.2.1, hM_G6.2.2.1, hM_G6.2.2.2.1, hM_G6.2.2.2.2.1, hM_G6.2.2.2.2.2⟩ (fun j hj => (hf_G6 j hj : _).trans (hfr j hj)))
    exact k_sub [1, 0] rfl (loop11 (5 + 1) 0 G (by omega) (by omega) ⟨hM.1, hM.2.1, hM.2.2.1, hM.2.2.2.1, hM.2.2.2.2.1, hM.2.2.2.2.2⟩ (fun _ _ => rfl))
theorem inX7_goes_7 : ∀ w ∈ wsX70, w ∈ wsX7_goes := fun _ h => List.mem_cons_of_mem _ (List.mem_append_right _ h)
theorem kd_X7_goes : yX7_goes.cls = RX7 ∧ yX7_goes.cls ≠ "java/lang/invoke/MethodHandle" ∧ yX7_goes.cls ≠ "java/lang/invoke/VarHandle" ∧ (parseMethodDescriptor yX7_goes.desc).map (fun d => d.parameters.length) = some 3 := by decide +kernel
abbrev rX7_goes : Room := ({ frames := 0, cells := 0, slots := 0, locals := 0 } : Room)
set_option maxRecDepth 100000 in
set_option maxHeartbeats 4000000 in
/-- model: goes -/
theorem m_X7_goes (l : Launch) (D : va_G) (cI cC cZ cB cJ : ClassId) (ad : Nat → Nat) (N : Nat) (G : Nat → va_E) (f kp tx fi gr : Nat → Int32) (st ty : Nat) (th at0 re : Int32) (nh nb nl : Nat) (a b c0 : Bool) (hN : 79 ≤ N) (hM : isMo ad cI cC cZ G f kp tx fi gr st ty th at0 re) : kMi l yX7_goes wsX7_goes rX7_goes D (kT5 cI cC cZ cB cJ) ad N G [.ref (ad 73), .int (bI a), .int (bI b), .int (bI c0)] (fun r G' => r = (bI (decide (mTh a b c0 = 0))) ∧ isMo ad cI cC cZ G' f kp tx fi gr st ty (mTh a b c0) at0 re ∧ ∀ j, (j < 73 ∨ 79 ≤ j) → G' j = G j) := by
  refine k_starti (cc := cX7_goes) (ret := (some .boolean)) (maxL := 4) (lv0 := [(0, .ref (ad 73)), (1, .int (bI a)), (2, .int (bI b)), (3, .int (bI c0))]) (by decide) rfl (Nat.le_of_ble_eq_true rfl) rfl ?_
  intro p e s m args below meth c A Q C hQ
  refine k_aload_n C dX7_goes_0 rfl (j := 0) rfl ?_
  refine k_iload_n C dX7_goes_1 rfl (j := 1) rfl ?_
  refine k_if_ne C 9 dX7_goes_2 (by decide) (fun c_2 => ?_) (fun c_2 => ?_)
  · skip
    have c_2 := bI_t c_2
    refine k_iload_n C dX7_goes_9 rfl (j := 2) rfl ?_
    refine k_if_ne C 17 dX7_goes_10 (by decide) (fun c_10 => ?_) (fun c_10 => ?_)
    · skip
      have c_10 := bI_t c_10
      refine k_iload_n C dX7_goes_17 rfl (j := 3) rfl ?_
      refine k_if_ne C 25 dX7_goes_18 (by decide) (fun c_18 => ?_) (fun c_18 => ?_)
      · skip
        have c_18 := bI_t c_18
        refine k_iconst C (v := 0) dX7_goes_25 (by decide) ?_
        refine k_put C 73 inX7_goes_7 tyX7 tyX7_ok nmX7 (by omega) hM.1 rfl 3 (by decide) (List.mem_of_getElem? (i := 1) rfl) rfl rfl rfl rfl (Nat.le_of_ble_eq_true rfl) dX7_goes_26 (fun G1 hG1 => ?_)
        have h_74_G1 : G1 74 = .inl (cI, 2610, .inl f) := up_at hG1 hM.2.1 (by omega)
        have h_75_G1 : G1 75 = .inl (cZ, 2, .inl kp) := up_at hG1 hM.2.2.1 (by omega)
        have h_76_G1 : G1 76 = .inl (cC, 30, .inl tx) := up_at hG1 hM.2.2.2.1 (by omega)
        have h_77_G1 : G1 77 = .inl (cI, 10, .inl fi) := up_at hG1 hM.2.2.2.2.1 (by omega)
        have h_78_G1 : G1 78 = .inl (cI, 10, .inl gr) := up_at hG1 hM.2.2.2.2.2 (by omega)
        have h_73_G1 : G1 73 = .inr (7, [.ref (ad 74), .int (nI st), .ref (ad 75), .int 0, .ref (ad 76), .int (nI ty), .int at0, .ref (ad 77), .ref (ad 78), .int re]) := up_it hG1
        refine k_aload_n C dX7_goes_29 rfl (j := 0) rfl ?_
        refine k_get C 73 inX7_goes_7 (by omega) h_73_G1 rfl 3 (by decide) (List.mem_of_getElem? (i := 1) rfl) rfl rfl dX7_goes_30 ?_
        refine k_if_ne C 40 dX7_goes_33 (by decide) (fun q => absurd q (by decide)) (fun _ => ?_)
        refine k_iconst C (v := 1) dX7_goes_36 (by decide) ?_
        refine k_goto C 41 dX7_goes_37 (by decide) ?_
        exact k_iret C hQ rfl (by decide) dX7_goes_41 ⟨(by simp [mTh, bI, c_2, c_10, c_18]), (by rw [show mTh a b c0 = 0 from by simp [mTh, c_2, c_10, c_18]]; exact ⟨h_73_G1, h_74_G1, h_75_G1, h_76_G1, h_77_G1, h_78_G1⟩), fun j hj => (by rw [hG1, up_ne (by omega)])⟩
      · skip
        have c_18 := bI_f c_18
        refine k_iconst C (v := 3) dX7_goes_21 (by decide) ?_
        refine k_goto C 26 dX7_goes_22 (by decide) ?_
        refine k_put C 73 inX7_goes_7 tyX7 tyX7_ok nmX7 (by omega) hM.1 rfl 3 (by decide) (List.mem_of_getElem? (i := 1) rfl) rfl rfl rfl rfl (Nat.le_of_ble_eq_true rfl) dX7_goes_26 (fun G2 hG2 => ?_)
        have h_74_G2 : G2 74 = .inl (cI, 2610, .inl f) := up_at hG2 hM.2.1 (by omega)
        have h_75_G2 : G2 75 = .inl (cZ, 2, .inl kp) := up_at hG2 hM.2.2.1 (by omega)
        have h_76_G2 : G2 76 = .inl (cC, 30, .inl tx) := up_at hG2 hM.2.2.2.1 (by omega)
        have h_77_G2 : G2 77 = .inl (cI, 10, .inl fi) := up_at hG2 hM.2.2.2.2.1 (by omega)
        have h_78_G2 : G2 78 = .inl (cI, 10, .inl gr) := up_at hG2 hM.2.2.2.2.2 (by omega)
        have h_73_G2 : G2 73 = .inr (7, [.ref (ad 74), .int (nI st), .ref (ad 75), .int 3, .ref (ad 76), .int (nI ty), .int at0, .ref (ad 77), .ref (ad 78), .int re]) := up_it hG2
        refine k_aload_n C dX7_goes_29 rfl (j := 0) rfl ?_
        refine k_get C 73 inX7_goes_7 (by omega) h_73_G2 rfl 3 (by decide) (List.mem_of_getElem? (i := 1) rfl) rfl rfl dX7_goes_30 ?_
        refine k_if_ne C 40 dX7_goes_33 (by decide) (fun _ => ?_) (fun q => absurd q (by decide))
        refine k_iconst C (v := 0) dX7_goes_40 (by decide) ?_
        exact k_iret C hQ rfl (by decide) dX7_goes_41 ⟨(by simp [mTh, bI, c_2, c_10, c_18]), (by rw [show mTh a b c0 = 3 from by simp [mTh, c_2, c_10, c_18]]; exact ⟨h_73_G2, h_74_G2, h_75_G2, h_76_G2, h_77_G2, h_78_G2⟩), fun j hj => (by rw [hG2, up_ne (by omega)])⟩
    · skip
      have c_10 := bI_f c_10
      refine k_iconst C (v := 2) dX7_goes_13 (by decide) ?_
      refine k_goto C 26 dX7_goes_14 (by decide) ?_
      refine k_put C 73 inX7_goes_7 tyX7 tyX7_ok nmX7 (by omega) hM.1 rfl 3 (by decide) (List.mem_of_getElem? (i := 1) rfl) rfl rfl rfl rfl (Nat.le_of_ble_eq_true rfl) dX7_goes_26 (fun G3 hG3 => ?_)
      have h_74_G3 : G3 74 = .inl (cI, 2610, .inl f) := up_at hG3 hM.2.1 (by omega)
      have h_75_G3 : G3 75 = .inl (cZ, 2, .inl kp) := up_at hG3 hM.2.2.1 (by omega)
      have h_76_G3 : G3 76 = .inl (cC, 30, .inl tx) := up_at hG3 hM.2.2.2.1 (by omega)
      have h_77_G3 : G3 77 = .inl (cI, 10, .inl fi) := up_at hG3 hM.2.2.2.2.1 (by omega)
      have h_78_G3 : G3 78 = .inl (cI, 10, .inl gr) := up_at hG3 hM.2.2.2.2.2 (by omega)
      have h_73_G3 : G3 73 = .inr (7, [.ref (ad 74), .int (nI st), .ref (ad 75), .int 2, .ref (ad 76), .int (nI ty), .int at0, .ref (ad 77), .ref (ad 78), .int re]) := up_it hG3
      refine k_aload_n C dX7_goes_29 rfl (j := 0) rfl ?_
      refine k_get C 73 inX7_goes_7 (by omega) h_73_G3 rfl 3 (by decide) (List.mem_of_getElem? (i := 1) rfl) rfl rfl dX7_goes_30 ?_
      refine k_if_ne C 40 dX7_goes_33 (by decide) (fun _ => ?_) (fun q => absurd q (by decide))
      refine k_iconst C (v := 0) dX7_goes_40 (by decide) ?_
      exact k_iret C hQ rfl (by decide) dX7_goes_41 ⟨(by simp [mTh, bI, c_2, c_10]), (by rw [show mTh a b c0 = 2 from by simp [mTh, c_2, c_10]]; exact ⟨h_73_G3, h_74_G3, h_75_G3, h_76_G3, h_77_G3, h_78_G3⟩), fun j hj => (by rw [hG3, up_ne (by omega)])⟩
  · skip
    have c_2 := bI_f c_2
    refine k_iconst C (v := 1) dX7_goes_5 (by decide) ?_
    refine k_goto C 26 dX7_goes_6 (by decide) ?_
    refine k_put C 73 inX7_goes_7 tyX7 tyX7_ok nmX7 (by omega) hM.1 rfl 3 (by decide) (List.mem_of_getElem? (i := 1) rfl) rfl rfl rfl rfl (Nat.le_of_ble_eq_true rfl) dX7_goes_26 (fun G4 hG4 => ?_)
    have h_74_G4 : G4 74 = .inl (cI, 2610, .inl f) := up_at hG4 hM.2.1 (by omega)
    have h_75_G4 : G4 75 = .inl (cZ, 2, .inl kp) := up_at hG4 hM.2.2.1 (by omega)
    have h_76_G4 : G4 76 = .inl (cC, 30, .inl tx) := up_at hG4 hM.2.2.2.1 (by omega)
    have h_77_G4 : G4 77 = .inl (cI, 10, .inl fi) := up_at hG4 hM.2.2.2.2.1 (by omega)
    have h_78_G4 : G4 78 = .inl (cI, 10, .inl gr) := up_at hG4 hM.2.2.2.2.2 (by omega)
    have h_73_G4 : G4 73 = .inr (7, [.ref (ad 74), .int (nI st), .ref (ad 75), .int 1, .ref (ad 76), .int (nI ty), .int at0, .ref (ad 77), .ref (ad 78), .int re]) := up_it hG4
    refine k_aload_n C dX7_goes_29 rfl (j := 0) rfl ?_
    refine k_get C 73 inX7_goes_7 (by omega) h_73_G4 rfl 3 (by decide) (List.mem_of_getElem? (i := 1) rfl) rfl rfl dX7_goes_30 ?_
    refine k_if_ne C 40 dX7_goes_33 (by decide) (fun _ => ?_) (fun q => absurd q (by decide))
    refine k_iconst C (v := 0) dX7_goes_40 (by decide) ?_
    exact k_iret C hQ rfl (by decide) dX7_goes_41 ⟨(by simp [mTh, bI, c_2]), (by rw [show mTh a b c0 = 1 from by simp [mTh, c_2]]; exact ⟨h_73_G4, h_74_G4, h_75_G4, h_76_G4, h_77_G4, h_78_G4⟩), fun j hj => (by rw [hG4, up_ne (by omega)])⟩
theorem inX7_wins_7 : ∀ w ∈ wsX70, w ∈ wsX7_wins := fun _ h => List.mem_cons_of_mem _ (List.mem_append_right _ h)
theorem kd_X7_wins : yX7_wins.cls = RX7 ∧ yX7_wins.cls ≠ "java/lang/invoke/MethodHandle" ∧ yX7_wins.cls ≠ "java/lang/invoke/VarHandle" ∧ (parseMethodDescriptor yX7_wins.desc).map (fun d => d.parameters.length) = some 0 := by decide +kernel
abbrev rX7_wins : Room := ({ frames := 4, cells := 0, slots := 0, locals := 92 } : Room)
set_option maxRecDepth 100000 in
set_option maxHeartbeats 4000000 in
/-- model: wins -/
theorem m_X7_wins (l : Launch) (D : va_G) (cI cC cZ cB cJ : ClassId) (ad : Nat → Nat) (N : Nat) (G : Nat → va_E) (f kp tx fi gr : Nat → Int32) (st ty : Nat) (th at0 re : Int32) (nh nb nl : Nat) (hN : 79 ≤ N) (hM : isMo ad cI cC cZ G f kp tx fi gr st ty th at0 re) (hH : f 0 = nI nh ∧ nh ≤ 10) (hB : f 1 = nI nb ∧ nb ≤ 24) (hL : f 2 = nI nl ∧ nl ≤ 6) (hG0 : okG fi gr) (hKB : ∀ k, k < nb → okB f k) (hKO : ∀ k, k < nl → okO f k) : kMi l yX7_wins wsX7_wins rX7_wins D (kT5 cI cC cZ cB cJ) ad N G [.ref (ad 73)] (fun r G' => r = (mWins f fi gr nh nb nl) ∧ ∃ (re' : Int32), isMo ad cI cC cZ G' f kp tx fi gr st ty th at0 (re') ∧ ∀ j, (j < 73 ∨ 79 ≤ j) → G' j = G j) := by
  refine k_starti (cc := cX7_wins) (ret := (some .int)) (maxL := 3) (lv0 := [(0, .ref (ad 73))]) (by decide) rfl (Nat.le_of_ble_eq_true rfl) rfl ?_
  intro p e s m args below meth c A Q C hQ
  have hn1 := hB.2
  have hn2 := hL.2
  refine k_iconst C (v := 0) dX7_wins_0 (by decide) ?_
  refine k_istore_n C (lv' := [(1, .int 0), (0, .ref (ad 73))]) dX7_wins_1 rfl (by decide) rfl ?_
  refine k_iconst C (v := 0) dX7_wins_2 (by decide) ?_
  refine k_istore_n C (lv' := [(2, .int 0), (1, .int 0), (0, .ref (ad 73))]) dX7_wins_3 rfl (by decide) rfl ?_
  have loop4 : ∀ (k : Nat) (i : Nat) (re2 : Int32) (G2 : Nat → va_E), (nb + 1 ≤ i + k) → (i ≤ nb) → (isMo ad cI cC cZ G2 f kp tx fi gr st ty th at0 re2) → (∀ j, (j < 73 ∨ 79 ≤ j) → G2 j = G j) → kJ p l e rX7_wins s m args below meth c 0 0 Q 3 D ad N A G2 4 [(0, .ref (ad 73)), (1, .int (mW1 f fi gr nh i)), (2, .int (nI i))] [] := by
    intro k
    induction k with
    | zero => intro i re2 G2 h1 h2 hM2 hfr; exact absurd h1 (by omega)
    | succ k ih4 =>
      intro i re2 G2 h1 h2 hM2 hfr
      refine k_iload_n C dX7_wins_4 rfl (j := 2) rfl ?_
      refine k_aload_n C dX7_wins_5 rfl (j := 0) rfl ?_
      refine k_get C 73 inX7_wins_7 (by omega) hM2.1 rfl 0 (by decide) (List.mem_of_getElem? (i := 1) rfl) rfl rfl dX7_wins_6 ?_
      refine k_iconst C (v := 1) dX7_wins_9 (by decide) ?_
      refine k_ialdN C 74 0 (by omega) hM2.2.1 rfl 1 rfl (by omega) (Nat.le_of_ble_eq_true rfl) dX7_wins_10 ?_
      refine k_icmp_ge C 34 dX7_wins_11 (by decide) (fun c_11 => ?_) (fun c_11 => ?_)
      · skip
        rw [hB.1] at c_11
        have hi2 : nb = i := (k_ge c_11 (by omega) (by omega)).symm
        subst hi2
        refine k_iconst C (v := 0) dX7_wins_34 (by decide) ?_
        refine k_istore_n C (lv' := [(2, .int 0), (0, .ref (ad 73)), (1, .int (mW1 f fi gr nh nb))]) dX7_wins_35 rfl (by decide) rfl ?_
        have loop36 : ∀ (k : Nat) (i : Nat) (re2 : Int32) (G2 : Nat → va_E), (nl + 1 ≤ i + k) → (i ≤ nl) → (isMo ad cI cC cZ G2 f kp tx fi gr st ty th at0 re2) → (∀ j, (j < 73 ∨ 79 ≤ j) → G2 j = G j) → kJ p l e rX7_wins s m args below meth c 0 0 Q 3 D ad N A G2 36 [(0, .ref (ad 73)), (1, .int (mW2 f fi gr nh nb i)), (2, .int (nI i))] [] := by
          intro k
          induction k with
          | zero => intro i re2 G2 h1 h2 hM2 hfr; exact absurd h1 (by omega)
          | succ k ih36 =>
            intro i re2 G2 h1 h2 hM2 hfr
            refine k_iload_n C dX7_wins_36 rfl (j := 2) rfl ?_
            refine k_aload_n C dX7_wins_37 rfl (j := 0) rfl ?_
            refine k_get C 73 inX7_wins_7 (by omega) hM2.1 rfl 0 (by decide) (List.mem_of_getElem? (i := 1) rfl) rfl rfl dX7_wins_38 ?_
            refine k_iconst C (v := 2) dX7_wins_41 (by decide) ?_
            refine k_ialdN C 74 0 (by omega) hM2.2.1 rfl 2 rfl (by omega) (Nat.le_of_ble_eq_true rfl) dX7_wins_42 ?_
            refine k_icmp_ge C 71 dX7_wins_43 (by decide) (fun c_43 => ?_) (fun c_43 => ?_)
            · skip
              rw [hL.1] at c_43
              have hi2 : nl = i := (k_ge c_43 (by omega) (by omega)).symm
              subst hi2
              refine k_iload_n C dX7_wins_71 rfl (j := 1) rfl ?_
              exact k_iret C hQ rfl rfl dX7_wins_72 ⟨rfl, re2, ⟨hM2.1, hM2.2.1, hM2.2.2.1, hM2.2.2.2.1, hM2.2.2.2.2.1, hM2.2.2.2.2.2⟩, fun j hj => hfr j hj⟩
            · skip
              rw [hL.1] at c_43
              have hi3 : i < nl := k_lt c_43 (by omega) (by omega)
              refine k_iload_n C dX7_wins_46 rfl (j := 1) rfl ?_
              refine k_aload_n C dX7_wins_47 rfl (j := 0) rfl ?_
              refine k_iload_n C dX7_wins_48 rfl (j := 2) rfl ?_
              refine k_callVir C (As := [.int (nI i)]) (rest := [.int (mW2 f fi gr nh nb i)]) 73 (m_X7_returnsOff l D cI cC cZ cB cJ ad N G2 f kp tx fi gr st ty th at0 re2 nh nb nl i (by omega) ⟨hM2.1, hM2.2.1, hM2.2.2.1, hM2.2.2.2.1, hM2.2.2.2.2.1, hM2.2.2.2.2.2⟩ hG0 (by omega) (hKO _ hi3)) gX7_wins_X7_returnsOff rfl kd_X7_returnsOff rfl rfl ⟨Nat.le_of_ble_eq_true rfl, Nat.le_of_ble_eq_true rfl⟩ (by omega) hM2.1 rfl rfl rfl (Nat.le_of_ble_eq_true rfl) ⟨Nat.zero_le _, Nat.zero_le _⟩ dX7_wins_49 ?_
              refine k_aload_n C dX7_wins_52 rfl (j := 0) rfl ?_
              refine k_get C 73 inX7_wins_7 (by omega) hM2.1 rfl 0 (by decide) (List.mem_of_getElem? (i := 1) rfl) rfl rfl dX7_wins_53 ?_
              refine k_iload_n C dX7_wins_56 rfl (j := 2) rfl ?_
              refine k_iconst C (v := 1) dX7_wins_57 (by decide) ?_
              refine k_callSir C (As := [.int (nI i), .int 1]) (rest := [.ref (ad 74), .int (mOffRet f fi gr i), .int (mW2 f fi gr nh nb i)]) (m_X7_off l D cI cC cZ cB cJ ad N G2 (nI i) 1) gX7_wins_X7_off rfl kd_X7_off rfl rfl ⟨Nat.le_of_ble_eq_true rfl, Nat.le_of_ble_eq_true rfl⟩ rfl rfl (Nat.le_of_ble_eq_true rfl) ⟨Nat.zero_le _, Nat.zero_le _⟩ dX7_wins_58 ?_
              refine k_ialdN C 74 0 (by omega) hM2.2.1 rfl ((258 + (5 * i)) + 1) (knAdd (knAdd rfl (knMul rfl rfl)) rfl) (by omega) (Nat.le_of_ble_eq_true rfl) dX7_wins_61 ?_
              refine k_isub C dX7_wins_62 ?_
              refine k_iadd C dX7_wins_63 ?_
              refine k_istore_n C (lv' := [(1, .int ((mW2 f fi gr nh nb i) + ((mOffRet f fi gr i) - (f ((258 + (5 * i)) + 1))))), (0, .ref (ad 73)), (2, .int (nI i))]) dX7_wins_64 rfl (by decide) rfl ?_
              refine k_iinc C (v := nI (i + 1)) (lv' := [(2, .int (nI (i + 1))), (1, .int ((mW2 f fi gr nh nb i) + ((mOffRet f fi gr i) - (f ((258 + (5 * i)) + 1))))), (0, .ref (ad 73))]) dX7_wins_65 (j := 2) rfl (nI_1 i) (by decide) rfl ?_
              refine k_goto C 36 dX7_wins_68 (by decide) ?_
              exact k_sub [2, 1, 0] rfl (ih36 (i + 1) re2 G2 (by omega) (by omega) ⟨hM2.1, hM2.2.1, hM2.2.2.1, hM2.2.2.2.1, hM2.2.2.2.2.1, hM2.2.2.2.2.2⟩ (fun j hj => hfr j hj))
        exact k_sub [1, 2, 0] rfl (loop36 (nl + 1) 0 re2 G2 (by omega) (by omega) ⟨hM2.1, hM2.2.1, hM2.2.2.1, hM2.2.2.2.1, hM2.2.2.2.2.1, hM2.2.2.2.2.2⟩ (fun j hj => hfr j hj))
      · skip
        rw [hB.1] at c_11
        have hi3 : i < nb := k_lt c_11 (by omega) (by omega)
        refine k_iload_n C dX7_wins_14 rfl (j := 1) rfl ?_
        refine k_aload_n C dX7_wins_15 rfl (j := 0) rfl ?_
        refine k_iload_n C dX7_wins_16 rfl (j := 2) rfl ?_
        refine k_callVir C (As := [.int (nI i)]) (rest := [.int (mW1 f fi gr nh i)]) 73 (m_X7_staked l D cI cC cZ cB cJ ad N G2 f kp tx fi gr st ty th at0 re2 nh nb nl i (by omega) ⟨hM2.1, hM2.2.1, hM2.2.2.1, hM2.2.2.2.1, hM2.2.2.2.2.1, hM2.2.2.2.2.2⟩ (by omega)) gX7_wins_X7_staked rfl kd_X7_staked rfl rfl ⟨Nat.le_of_ble_eq_true rfl, Nat.le_of_ble_eq_true rfl⟩ (by omega) hM2.1 rfl rfl rfl (Nat.le_of_ble_eq_true rfl) ⟨Nat.zero_le _, Nat.zero_le _⟩ dX7_wins_17 ?_
        refine k_aload_n C dX7_wins_20 rfl (j := 0) rfl ?_
        refine k_iload_n C dX7_wins_21 rfl (j := 2) rfl ?_
        refine k_callVi C (As := [.int (nI i)]) (rest := [.int (mStaked f i), .int (mW1 f fi gr nh i)]) 73 (m_X7_returns l D cI cC cZ cB cJ ad N G2 f kp tx fi gr st ty th at0 re2 nh nb nl i (by omega) ⟨hM2.1, hM2.2.1, hM2.2.2.1, hM2.2.2.2.1, hM2.2.2.2.2.1, hM2.2.2.2.2.2⟩ hH hG0 (by omega) (hKB _ hi3)) gX7_wins_X7_returns rfl kd_X7_returns rfl rfl ⟨Nat.le_of_ble_eq_true rfl, Nat.le_of_ble_eq_true rfl⟩ (by omega) hM2.1 rfl rfl rfl (Nat.le_of_ble_eq_true rfl) ⟨Nat.zero_le _, Nat.zero_le _⟩ dX7_wins_22 (fun r_22 G1 hG1 => ?_)
        obtain ⟨e_r_22, hM_G1, hf_G1⟩ := hG1
        subst e_r_22
        refine k_isub C dX7_wins_25 ?_
        refine k_iadd C dX7_wins_26 ?_
        refine k_istore_n C (lv' := [(1, .int ((mW1 f fi gr nh i) + ((mStaked f i) - (mRet f fi gr nh i)))), (0, .ref (ad 73)), (2, .int (nI i))]) dX7_wins_27 rfl (by decide) rfl ?_
        refine k_iinc C (v := nI (i + 1)) (lv' := [(2, .int (nI (i + 1))), (1, .int ((mW1 f fi gr nh i) + ((mStaked f i) - (mRet f fi gr nh i)))), (0, .ref (ad 73))]) dX7_wins_28 (j := 2) rfl (nI_1 i) (by decide) rfl ?_
        refine k_goto C 4 dX7_wins_31 (by decide) ?_
        exact k_sub [2, 1, 0] rfl (ih4 (i + 1) (mRea f fi gr nh i) G1 (by omega) (by omega) ⟨hM_G1.1, hM_G1.2.1, hM_G1.2.2.1, hM_G1.2.2.2.1, hM_G1.2.2.2.2.1, hM_G1.2.2.2.2.2⟩ (fun j hj => (hf_G1 j hj : _).trans (hfr j hj)))
  exact k_sub [2, 1, 0] rfl (loop4 (nb + 1) 0 re G (by omega) (by omega) ⟨hM.1, hM.2.1, hM.2.2.1, hM.2.2.2.1, hM.2.2.2.2.1, hM.2.2.2.2.2⟩ (fun _ _ => rfl))
theorem inX7_winsWith_7 : ∀ w ∈ wsX70, w ∈ wsX7_winsWith := fun _ h => List.mem_cons_of_mem _ (List.mem_append_right _ h)
theorem kd_X7_winsWith : yX7_winsWith.cls = RX7 ∧ yX7_winsWith.cls ≠ "java/lang/invoke/MethodHandle" ∧ yX7_winsWith.cls ≠ "java/lang/invoke/VarHandle" ∧ (parseMethodDescriptor yX7_winsWith.desc).map (fun d => d.parameters.length) = some 1 := by decide +kernel
abbrev rX7_winsWith : Room := ({ frames := 5, cells := 0, slots := 0, locals := 114 } : Room)
set_option maxRecDepth 100000 in
set_option maxHeartbeats 4000000 in
/-- model: winsWith -/
theorem m_X7_winsWith (l : Launch) (D : va_G) (cI cC cZ cB cJ : ClassId) (ad : Nat → Nat) (N : Nat) (G : Nat → va_E) (f kp tx fi gr : Nat → Int32) (st ty : Nat) (th at0 re : Int32) (nh nb nl : Nat) (h : Nat) (hN : 79 ≤ N) (hM : isMo ad cI cC cZ G f kp tx fi gr st ty th at0 re) (hH : f 0 = nI nh ∧ nh ≤ 10) (hB : f 1 = nI nb ∧ nb ≤ 24) (hL : f 2 = nI nl ∧ nl ≤ 6) (hKB : ∀ k, k < nb → okB f k) (hKO : ∀ k, k < nl → okO f k) (hh : h < nh) : kMi l yX7_winsWith wsX7_winsWith rX7_winsWith D (kT5 cI cC cZ cB cJ) ad N G [.ref (ad 73), .int (nI h)] (fun r G' => r = (mWW f nh nb nl h) ∧ ∃ (fi' : Nat → Int32) (gr' : Nat → Int32) (re' : Int32), isMo ad cI cC cZ G' f kp tx (fi') (gr') st ty th at0 (re') ∧ ∀ j, (j < 73 ∨ 79 ≤ j) → G' j = G j) := by
  refine k_starti (cc := cX7_winsWith) (ret := (some .int)) (maxL := 4) (lv0 := [(0, .ref (ad 73)), (1, .int (nI h))]) (by decide) rfl (Nat.le_of_ble_eq_true rfl) rfl ?_
  intro p e s m args below meth c A Q C hQ
  have hn := hH.2
  refine k_aload_n C dX7_winsWith_0 rfl (j := 0) rfl ?_
  refine k_callVv C (As := []) (rest := []) 73 (m_X7_forgets l D cI cC cZ cB cJ ad N G f kp tx fi gr st ty th at0 re nh nb nl (by omega) ⟨hM.1, hM.2.1, hM.2.2.1, hM.2.2.2.1, hM.2.2.2.2.1, hM.2.2.2.2.2⟩ ) gX7_winsWith_X7_forgets rfl kd_X7_forgets rfl rfl ⟨Nat.le_of_ble_eq_true rfl, Nat.le_of_ble_eq_true rfl⟩ (by omega) hM.1 rfl rfl rfl (Nat.le_of_ble_eq_true rfl) ⟨Nat.zero_le _, Nat.zero_le _⟩ dX7_winsWith_1 (fun G1 hG1 => ?_)
  obtain ⟨hM_G1, hf_G1⟩ := hG1
  refine k_aload_n C dX7_winsWith_4 rfl (j := 0) rfl ?_
  refine k_get C 73 inX7_winsWith_7 (by omega) hM_G1.1 rfl 7 (by decide) (List.mem_of_getElem? (i := 1) rfl) rfl rfl dX7_winsWith_5 ?_
  refine k_iload_n C dX7_winsWith_8 rfl (j := 1) rfl ?_
  refine k_iconst C (v := 1) dX7_winsWith_9 (by decide) ?_
  refine k_iastN C 77 0 (by omega) hM_G1.2.2.2.2.1 rfl h rfl (by omega) (Nat.le_of_ble_eq_true rfl) dX7_winsWith_10 (fun G2 hG2 => ?_)
  have h_73_G2 : G2 73 = .inr (7, [.ref (ad 74), .int (nI st), .ref (ad 75), .int th, .ref (ad 76), .int (nI ty), .int at0, .ref (ad 77), .ref (ad 78), .int re]) := up_at hG2 hM_G1.1 (by omega)
  have h_74_G2 : G2 74 = .inl (cI, 2610, .inl f) := up_at hG2 hM_G1.2.1 (by omega)
  have h_75_G2 : G2 75 = .inl (cZ, 2, .inl kp) := up_at hG2 hM_G1.2.2.1 (by omega)
  have h_76_G2 : G2 76 = .inl (cC, 30, .inl tx) := up_at hG2 hM_G1.2.2.2.1 (by omega)
  have h_78_G2 : G2 78 = .inl (cI, 10, .inl (aB gr 10)) := up_at hG2 hM_G1.2.2.2.2.2 (by omega)
  have h_77_G2 : G2 77 = .inl (cI, 10, .inl (upd (aB fi 10) h 1)) := up_it hG2
  refine k_aload_n C dX7_winsWith_11 rfl (j := 0) rfl ?_
  refine k_get C 73 inX7_winsWith_7 (by omega) h_73_G2 rfl 8 (by decide) (List.mem_of_getElem? (i := 2) rfl) rfl rfl dX7_winsWith_12 ?_
  refine k_iload_n C dX7_winsWith_15 rfl (j := 1) rfl ?_
  refine k_iconst C (v := 1) dX7_winsWith_16 (by decide) ?_
  refine k_iastN C 78 0 (by omega) h_78_G2 rfl h rfl (by omega) (Nat.le_of_ble_eq_true rfl) dX7_winsWith_17 (fun G3 hG3 => ?_)
  have h_73_G3 : G3 73 = .inr (7, [.ref (ad 74), .int (nI st), .ref (ad 75), .int th, .ref (ad 76), .int (nI ty), .int at0, .ref (ad 77), .ref (ad 78), .int re]) := up_at hG3 h_73_G2 (by omega)
  have h_74_G3 : G3 74 = .inl (cI, 2610, .inl f) := up_at hG3 h_74_G2 (by omega)
  have h_75_G3 : G3 75 = .inl (cZ, 2, .inl kp) := up_at hG3 h_75_G2 (by omega)
  have h_76_G3 : G3 76 = .inl (cC, 30, .inl tx) := up_at hG3 h_76_G2 (by omega)
  have h_77_G3 : G3 77 = .inl (cI, 10, .inl (upd (aB fi 10) h 1)) := up_at hG3 h_77_G2 (by omega)
  have h_78_G3 : G3 78 = .inl (cI, 10, .inl (upd (aB gr 10) h 1)) := up_it hG3
  refine k_iconst C (v := 1) dX7_winsWith_18 (by decide) ?_
  refine k_istore_n C (lv' := [(2, .int 1), (0, .ref (ad 73)), (1, .int (nI h))]) dX7_winsWith_19 rfl (by decide) rfl ?_
  refine k_iconst C (v := 0) dX7_winsWith_20 (by decide) ?_
  refine k_istore_n C (lv' := [(3, .int 0), (2, .int 1), (0, .ref (ad 73)), (1, .int (nI h))]) dX7_winsWith_21 rfl (by decide) rfl ?_
  have loop22 : ∀ (k : Nat) (i : Nat) (fi2 gr2 : Nat → Int32) (G2 : Nat → va_E), (nh + 1 ≤ i + k) → (i ≤ nh) → (fi2 = wFi f h (aB fi 10) i) → (gr2 = wGr f h (aB gr 10) i) → (isMo ad cI cC cZ G2 f kp tx fi2 gr2 st ty th at0 re) → (∀ j, (j < 73 ∨ 79 ≤ j) → G2 j = G j) → kJ p l e rX7_winsWith s m args below meth c 0 0 Q 4 D ad N A G2 22 [(0, .ref (ad 73)), (1, .int (nI h)), (2, .int (nI (wAh f h i))), (3, .int (nI i))] [] := by
    intro k
    induction k with
    | zero => intro i fi2 gr2 G2 h1 h2 hf2 hg2 hM2 hfr; exact absurd h1 (by omega)
    | succ k ih22 =>
      intro i fi2 gr2 G2 h1 h2 hf2 hg2 hM2 hfr
      refine k_iload_n C dX7_winsWith_22 rfl (j := 3) rfl ?_
      refine k_aload_n C dX7_winsWith_23 rfl (j := 0) rfl ?_
      refine k_get C 73 inX7_winsWith_7 (by omega) hM2.1 rfl 0 (by decide) (List.mem_of_getElem? (i := 3) rfl) rfl rfl dX7_winsWith_24 ?_
      refine k_iconst C (v := 0) dX7_winsWith_27 (by decide) ?_
      refine k_ialdN C 74 0 (by omega) hM2.2.1 rfl 0 rfl (by omega) (Nat.le_of_ble_eq_true rfl) dX7_winsWith_28 ?_
      refine k_icmp_ge C 73 dX7_winsWith_29 (by decide) (fun c_29 => ?_) (fun c_29 => ?_)
      · skip
        rw [hH.1] at c_29
        have hi2 : nh = i := (k_ge c_29 (by omega) (by omega)).symm
        subst hi2
        subst hf2
        subst hg2
        refine k_aload_n C dX7_winsWith_73 rfl (j := 0) rfl ?_
        refine k_callVi C (As := []) (rest := []) 73 (m_X7_wins l D cI cC cZ cB cJ ad N G2 f kp tx (wFi f h (aB fi 10) nh) (wGr f h (aB gr 10) nh) st ty th at0 re nh nb nl (by omega) ⟨hM2.1, hM2.2.1, hM2.2.2.1, hM2.2.2.2.1, hM2.2.2.2.2.1, hM2.2.2.2.2.2⟩ hH hB hL (okG_w f h fi (aB gr 10) nh) hKB hKO ) gX7_winsWith_X7_wins rfl kd_X7_wins rfl rfl ⟨Nat.le_of_ble_eq_true rfl, Nat.le_of_ble_eq_true rfl⟩ (by omega) hM2.1 rfl rfl rfl (Nat.le_of_ble_eq_true rfl) ⟨Nat.zero_le _, Nat.zero_le _⟩ dX7_winsWith_74 (fun r_74 G4 hG4 => ?_)
        obtain ⟨e_r_74, re_G4, hM_G4, hf_G4⟩ := hG4
        subst e_r_74
        exact k_iret C hQ rfl rfl dX7_winsWith_77 ⟨(mWW_eq h fi gr hKB hKO), wFi f h (aB fi 10) nh, wGr f h (aB gr 10) nh, re_G4, ⟨hM_G4.1, hM_G4.2.1, hM_G4.2.2.1, hM_G4.2.2.2.1, hM_G4.2.2.2.2.1, hM_G4.2.2.2.2.2⟩, fun j hj => (hf_G4 j hj : _).trans (hfr j hj)⟩
      · skip
        rw [hH.1] at c_29
        have hi3 : i < nh := k_lt c_29 (by omega) (by omega)
        refine k_iload_n C dX7_winsWith_32 rfl (j := 3) rfl ?_
        refine k_iload_n C dX7_winsWith_33 rfl (j := 1) rfl ?_
        refine k_icmp_eq C 67 dX7_winsWith_34 (by decide) (fun c_34 => ?_) (fun c_34 => ?_)
        · skip
          have hih : i = h := (nI_eq (by omega) (by omega)).mp c_34
          refine k_cong (lv' := [(0, .ref (ad 73)), (1, .int (nI h)), (2, .int (nI (wAh f h (i + 1)))), (3, .int (nI i))]) (by rw [show wAh f h (i + 1) = wAh f h i from by rw [wAh, if_pos hih]]) ?_
          refine k_iinc C (v := nI (i + 1)) (lv' := [(3, .int (nI (i + 1))), (0, .ref (ad 73)), (1, .int (nI h)), (2, .int (nI (wAh f h (i + 1))))]) dX7_winsWith_67 (j := 3) rfl (nI_1 i) (by decide) rfl ?_
          refine k_goto C 22 dX7_winsWith_70 (by decide) ?_
          exact k_sub [1, 2, 3, 0] rfl (ih22 (i + 1) fi2 gr2 G2 (by omega) (by omega) (by rw [wFi, if_pos hih, hf2]) (by rw [wGr, if_pos hih, hg2]) ⟨hM2.1, hM2.2.1, hM2.2.2.1, hM2.2.2.2.1, hM2.2.2.2.2.1, hM2.2.2.2.2.2⟩ (fun j hj => hfr j hj))
        · skip
          have hih : ¬ i = h := fun q => c_34 (by rw [q])
          refine k_aload_n C dX7_winsWith_37 rfl (j := 0) rfl ?_
          refine k_get C 73 inX7_winsWith_7 (by omega) hM2.1 rfl 0 (by decide) (List.mem_of_getElem? (i := 3) rfl) rfl rfl dX7_winsWith_38 ?_
          refine k_bipush C (v := 26) dX7_winsWith_41 (by decide) ?_
          refine k_iload_n C dX7_winsWith_43 rfl (j := 3) rfl ?_
          refine k_iadd C dX7_winsWith_44 ?_
          refine k_ialdN C 74 0 (by omega) hM2.2.1 rfl (26 + i) (knAdd rfl rfl) (by omega) (Nat.le_of_ble_eq_true rfl) dX7_winsWith_45 ?_
          refine k_iconst C (v := 1) dX7_winsWith_46 (by decide) ?_
          refine k_icmp_ne C 67 dX7_winsWith_47 (by decide) (fun c_47 => ?_) (fun c_47 => ?_)
          · skip
            refine k_cong (lv' := [(0, .ref (ad 73)), (1, .int (nI h)), (2, .int (nI (wAh f h (i + 1)))), (3, .int (nI i))]) (by rw [show wAh f h (i + 1) = wAh f h i from by rw [wAh, if_neg hih, if_neg c_47]]) ?_
            refine k_iinc C (v := nI (i + 1)) (lv' := [(3, .int (nI (i + 1))), (0, .ref (ad 73)), (1, .int (nI h)), (2, .int (nI (wAh f h (i + 1))))]) dX7_winsWith_67 (j := 3) rfl (nI_1 i) (by decide) rfl ?_
            refine k_goto C 22 dX7_winsWith_70 (by decide) ?_
            exact k_sub [1, 2, 3, 0] rfl (ih22 (i + 1) fi2 gr2 G2 (by omega) (by omega) (by rw [wFi, if_neg hih, if_neg c_47, hf2]) (by rw [wGr, if_neg hih, if_neg c_47, hg2]) ⟨hM2.1, hM2.2.1, hM2.2.2.1, hM2.2.2.2.1, hM2.2.2.2.2.1, hM2.2.2.2.2.2⟩ (fun j hj => hfr j hj))
          · skip
            refine k_iinc C (v := nI (wAh f h i + 1)) (lv' := [(2, .int (nI (wAh f h i + 1))), (0, .ref (ad 73)), (1, .int (nI h)), (3, .int (nI i))]) dX7_winsWith_50 (j := 2) rfl (nI_1 (wAh f h i)) (by decide) rfl ?_
            refine k_aload_n C dX7_winsWith_53 rfl (j := 1) rfl ?_
            refine k_get C 73 inX7_winsWith_7 (by omega) hM2.1 rfl 7 (by decide) (List.mem_of_getElem? (i := 1) rfl) rfl rfl dX7_winsWith_54 ?_
            refine k_iload_n C dX7_winsWith_57 rfl (j := 3) rfl ?_
            refine k_iload_n C dX7_winsWith_58 rfl (j := 0) rfl ?_
            refine k_iastN C 77 0 (by omega) hM2.2.2.2.2.1 rfl i rfl (by omega) (Nat.le_of_ble_eq_true rfl) dX7_winsWith_59 (fun G5 hG5 => ?_)
            have h_73_G5 : G5 73 = .inr (7, [.ref (ad 74), .int (nI st), .ref (ad 75), .int th, .ref (ad 76), .int (nI ty), .int at0, .ref (ad 77), .ref (ad 78), .int re]) := up_at hG5 hM2.1 (by omega)
            have h_74_G5 : G5 74 = .inl (cI, 2610, .inl f) := up_at hG5 hM2.2.1 (by omega)
            have h_75_G5 : G5 75 = .inl (cZ, 2, .inl kp) := up_at hG5 hM2.2.2.1 (by omega)
            have h_76_G5 : G5 76 = .inl (cC, 30, .inl tx) := up_at hG5 hM2.2.2.2.1 (by omega)
            have h_78_G5 : G5 78 = .inl (cI, 10, .inl gr2) := up_at hG5 hM2.2.2.2.2.2 (by omega)
            have h_77_G5 : G5 77 = .inl (cI, 10, .inl (upd fi2 i (nI (wAh f h i + 1)))) := up_it hG5
            refine k_aload_n C dX7_winsWith_60 rfl (j := 1) rfl ?_
            refine k_get C 73 inX7_winsWith_7 (by omega) h_73_G5 rfl 8 (by decide) (List.mem_of_getElem? (i := 2) rfl) rfl rfl dX7_winsWith_61 ?_
            refine k_iload_n C dX7_winsWith_64 rfl (j := 3) rfl ?_
            refine k_iconst C (v := 1) dX7_winsWith_65 (by decide) ?_
            refine k_iastN C 78 0 (by omega) h_78_G5 rfl i rfl (by omega) (Nat.le_of_ble_eq_true rfl) dX7_winsWith_66 (fun G6 hG6 => ?_)
            have h_73_G6 : G6 73 = .inr (7, [.ref (ad 74), .int (nI st), .ref (ad 75), .int th, .ref (ad 76), .int (nI ty), .int at0, .ref (ad 77), .ref (ad 78), .int re]) := up_at hG6 h_73_G5 (by omega)
            have h_74_G6 : G6 74 = .inl (cI, 2610, .inl f) := up_at hG6 h_74_G5 (by omega)
            have h_75_G6 : G6 75 = .inl (cZ, 2, .inl kp) := up_at hG6 h_75_G5 (by omega)
            have h_76_G6 : G6 76 = .inl (cC, 30, .inl tx) := up_at hG6 h_76_G5 (by omega)
            have h_77_G6 : G6 77 = .inl (cI, 10, .inl (upd fi2 i (nI (wAh f h i + 1)))) := up_at hG6 h_77_G5 (by omega)
            have h_78_G6 : G6 78 = .inl (cI, 10, .inl (upd gr2 i 1)) := up_it hG6
            refine k_cong (lv' := [(2, .int (nI (wAh f h (i + 1)))), (0, .ref (ad 73)), (1, .int (nI h)), (3, .int (nI i))]) (by rw [show wAh f h (i + 1) = wAh f h i + 1 from by rw [wAh, if_neg hih, if_pos c_47]]) ?_
            refine k_iinc C (v := nI (i + 1)) (lv' := [(3, .int (nI (i + 1))), (2, .int (nI (wAh f h (i + 1)))), (0, .ref (ad 73)), (1, .int (nI h))]) dX7_winsWith_67 (j := 3) rfl (nI_1 i) (by decide) rfl ?_
            refine k_goto C 22 dX7_winsWith_70 (by decide) ?_
            exact k_sub [2, 3, 1, 0] rfl (ih22 (i + 1) (upd fi2 i (nI (wAh f h i + 1))) (upd gr2 i 1) G6 (by omega) (by omega) (by rw [wFi, if_neg hih, if_pos c_47, hf2]) (by rw [wGr, if_neg hih, if_pos c_47, hg2]) ⟨h_73_G6, h_74_G6, h_75_G6, h_76_G6, h_77_G6, h_78_G6⟩ (fun j hj => (show _ = _ from by rw [hG6, up_ne (by omega)]).trans ((show _ = _ from by rw [hG5, up_ne (by omega)]).trans (hfr j hj))))
  exact k_sub [2, 3, 1, 0] rfl (loop22 (nh + 1) 0 (upd (aB fi 10) h 1) (upd (aB gr 10) h 1) G3 (by omega) (by omega) rfl rfl ⟨h_73_G3, h_74_G3, h_75_G3, h_76_G3, h_77_G3, h_78_G3⟩ (fun j hj => (show _ = _ from by rw [hG3, up_ne (by omega)]).trans ((show _ = _ from by rw [hG2, up_ne (by omega)]).trans (hf_G1 j hj))))
theorem inX7_ifFirst_7 : ∀ w ∈ wsX70, w ∈ wsX7_ifFirst := fun _ h => List.mem_cons_of_mem _ (List.mem_append_right _ h)
theorem kd_X7_ifFirst : yX7_ifFirst.cls = RX7 ∧ yX7_ifFirst.cls ≠ "java/lang/invoke/MethodHandle" ∧ yX7_ifFirst.cls ≠ "java/lang/invoke/VarHandle" ∧ (parseMethodDescriptor yX7_ifFirst.desc).map (fun d => d.parameters.length) = some 1 := by decide +kernel
abbrev rX7_ifFirst : Room := ({ frames := 6, cells := 0, slots := 0, locals := 137 } : Room)
set_option maxRecDepth 100000 in
set_option maxHeartbeats 4000000 in
/-- model: ifFirst -/
theorem m_X7_ifFirst (l : Launch) (D : va_G) (cI cC cZ cB cJ : ClassId) (ad : Nat → Nat) (N : Nat) (G : Nat → va_E) (f kp tx fi gr : Nat → Int32) (st ty : Nat) (th at0 re : Int32) (nh nb nl : Nat) (h : Nat) (hN : 79 ≤ N) (hM : isMo ad cI cC cZ G f kp tx fi gr st ty th at0 re) (hH : f 0 = nI nh ∧ nh ≤ 10) (hB : f 1 = nI nb ∧ nb ≤ 24) (hL : f 2 = nI nl ∧ nl ≤ 6) (hKB : ∀ k, k < nb → okB f k) (hKO : ∀ k, k < nl → okO f k) (hh : h < nh) : kMi l yX7_ifFirst wsX7_ifFirst rX7_ifFirst D (kT5 cI cC cZ cB cJ) ad N G [.ref (ad 73), .int (nI h)] (fun r G' => r = (mIfF f nh nb nl h) ∧ ∃ (fi' : Nat → Int32) (gr' : Nat → Int32) (re' : Int32), isMo ad cI cC cZ G' f kp tx (fi') (gr') st ty th at0 (re') ∧ ∀ j, (j < 73 ∨ 79 ≤ j) → G' j = G j) := by
  refine k_starti (cc := cX7_ifFirst) (ret := (some .int)) (maxL := 2) (lv0 := [(0, .ref (ad 73)), (1, .int (nI h))]) (by decide) rfl (Nat.le_of_ble_eq_true rfl) rfl ?_
  intro p e s m args below meth c A Q C hQ
  have hn := hH.2
  refine k_aload_n C dX7_ifFirst_0 rfl (j := 0) rfl ?_
  refine k_get C 73 inX7_ifFirst_7 (by omega) hM.1 rfl 0 (by decide) (List.mem_of_getElem? (i := 1) rfl) rfl rfl dX7_ifFirst_1 ?_
  refine k_bipush C (v := 26) dX7_ifFirst_4 (by decide) ?_
  refine k_iload_n C dX7_ifFirst_6 rfl (j := 1) rfl ?_
  refine k_iadd C dX7_ifFirst_7 ?_
  refine k_ialdN C 74 0 (by omega) hM.2.1 rfl (26 + h) (knAdd rfl rfl) (by omega) (Nat.le_of_ble_eq_true rfl) dX7_ifFirst_8 ?_
  refine k_iconst C (v := 1) dX7_ifFirst_9 (by decide) ?_
  refine k_icmp_ne C 24 dX7_ifFirst_10 (by decide) (fun c_10 => ?_) (fun c_10 => ?_)
  · skip
    refine k_iconst C (v := (-1)) dX7_ifFirst_24 (by decide) ?_
    exact k_iret C hQ rfl rfl dX7_ifFirst_25 ⟨(by rw [mIfF, if_neg c_10]), fi, gr, re, ⟨hM.1, hM.2.1, hM.2.2.1, hM.2.2.2.1, hM.2.2.2.2.1, hM.2.2.2.2.2⟩, fun _ _ => rfl⟩
  · skip
    refine k_aload_n C dX7_ifFirst_13 rfl (j := 0) rfl ?_
    refine k_iload_n C dX7_ifFirst_14 rfl (j := 1) rfl ?_
    refine k_callVi C (As := [.int (nI h)]) (rest := []) 73 (m_X7_winsWith l D cI cC cZ cB cJ ad N G f kp tx fi gr st ty th at0 re nh nb nl h (by omega) ⟨hM.1, hM.2.1, hM.2.2.1, hM.2.2.2.1, hM.2.2.2.2.1, hM.2.2.2.2.2⟩ hH hB hL hKB hKO hh) gX7_ifFirst_X7_winsWith rfl kd_X7_winsWith rfl rfl ⟨Nat.le_of_ble_eq_true rfl, Nat.le_of_ble_eq_true rfl⟩ (by omega) hM.1 rfl rfl rfl (Nat.le_of_ble_eq_true rfl) ⟨Nat.zero_le _, Nat.zero_le _⟩ dX7_ifFirst_15 (fun r_15 G1 hG1 => ?_)
    obtain ⟨e_r_15, fi_G1, gr_G1, re_G1, hM_G1, hf_G1⟩ := hG1
    subst e_r_15
    refine k_ldc C (v := 10000000) dX7_ifFirst_18 (List.mem_of_getElem? (i := 2) rfl) ?_
    refine k_iadd C dX7_ifFirst_20 ?_
    refine k_goto C 25 dX7_ifFirst_21 (by decide) ?_
    exact k_iret C hQ rfl rfl dX7_ifFirst_25 ⟨(by rw [mIfF, if_pos c_10]), fi_G1, gr_G1, re_G1, ⟨hM_G1.1, hM_G1.2.1, hM_G1.2.2.1, hM_G1.2.2.2.1, hM_G1.2.2.2.2.1, hM_G1.2.2.2.2.2⟩, fun j hj => hf_G1 j hj⟩
theorem inX7_worstOne_7 : ∀ w ∈ wsX70, w ∈ wsX7_worstOne := fun _ h => List.mem_cons_of_mem _ (List.mem_append_right _ h)
theorem kd_X7_worstOne : yX7_worstOne.cls = RX7 ∧ yX7_worstOne.cls ≠ "java/lang/invoke/MethodHandle" ∧ yX7_worstOne.cls ≠ "java/lang/invoke/VarHandle" ∧ (parseMethodDescriptor yX7_worstOne.desc).map (fun d => d.parameters.length) = some 0 := by decide +kernel
abbrev rX7_worstOne : Room := ({ frames := 6, cells := 0, slots := 0, locals := 137 } : Room)
set_option maxRecDepth 100000 in
set_option maxHeartbeats 4000000 in
/-- model: worstOne -/
theorem m_X7_worstOne (l : Launch) (D : va_G) (cI cC cZ cB cJ : ClassId) (ad : Nat → Nat) (N : Nat) (G : Nat → va_E) (f kp tx fi gr : Nat → Int32) (st ty : Nat) (th at0 re : Int32) (nh nb nl : Nat) (hN : 79 ≤ N) (hM : isMo ad cI cC cZ G f kp tx fi gr st ty th at0 re) (hH : f 0 = nI nh ∧ nh ≤ 10) (hB : f 1 = nI nb ∧ nb ≤ 24) (hL : f 2 = nI nl ∧ nl ≤ 6) (hKB : ∀ k, k < nb → okB f k) (hKO : ∀ k, k < nl → okO f k) : kMi l yX7_worstOne wsX7_worstOne rX7_worstOne D (kT5 cI cC cZ cB cJ) ad N G [.ref (ad 73)] (fun r G' => r = ((mWst f nh nb nl nh).1) ∧ ∃ (fi' : Nat → Int32) (gr' : Nat → Int32) (re' : Int32), isMo ad cI cC cZ G' f kp tx (fi') (gr') st ty th at0 (re') ∧ ∀ j, (j < 73 ∨ 79 ≤ j) → G' j = G j) := by
  refine k_starti (cc := cX7_worstOne) (ret := (some .int)) (maxL := 5) (lv0 := [(0, .ref (ad 73))]) (by decide) rfl (Nat.le_of_ble_eq_true rfl) rfl ?_
  intro p e s m args below meth c A Q C hQ
  have hn := hH.2
  refine k_iconst C (v := (-1)) dX7_worstOne_0 (by decide) ?_
  refine k_istore_n C (lv' := [(1, .int ((-1))), (0, .ref (ad 73))]) dX7_worstOne_1 rfl (by decide) rfl ?_
  refine k_iconst C (v := 0) dX7_worstOne_2 (by decide) ?_
  refine k_istore_n C (lv' := [(2, .int 0), (1, .int ((-1))), (0, .ref (ad 73))]) dX7_worstOne_3 rfl (by decide) rfl ?_
  refine k_iconst C (v := 0) dX7_worstOne_4 (by decide) ?_
  refine k_istore_n C (lv' := [(3, .int 0), (2, .int 0), (1, .int ((-1))), (0, .ref (ad 73))]) dX7_worstOne_5 rfl (by decide) rfl ?_
  have loop6 : ∀ (k : Nat) (i : Nat) (fi2 gr2 : Nat → Int32) (re2 : Int32) (G2 : Nat → va_E), (nh + 1 ≤ i + k) → (i ≤ nh) → (isMo ad cI cC cZ G2 f kp tx fi2 gr2 st ty th at0 re2) → (∀ j, (j < 73 ∨ 79 ≤ j) → G2 j = G j) → kJ p l e rX7_worstOne s m args below meth c 0 0 Q 5 D ad N A G2 6 [(0, .ref (ad 73)), (1, .int ((mWst f nh nb nl i).1)), (2, .int ((mWst f nh nb nl i).2)), (3, .int (nI i))] [] := by
    intro k
    induction k with
    | zero => intro i fi2 gr2 re2 G2 h1 h2 hM2 hfr; exact absurd h1 (by omega)
    | succ k ih6 =>
      intro i fi2 gr2 re2 G2 h1 h2 hM2 hfr
      refine k_iload_n C dX7_worstOne_6 rfl (j := 3) rfl ?_
      refine k_aload_n C dX7_worstOne_7 rfl (j := 0) rfl ?_
      refine k_get C 73 inX7_worstOne_7 (by omega) hM2.1 rfl 0 (by decide) (List.mem_of_getElem? (i := 1) rfl) rfl rfl dX7_worstOne_8 ?_
      refine k_iconst C (v := 0) dX7_worstOne_11 (by decide) ?_
      refine k_ialdN C 74 0 (by omega) hM2.2.1 rfl 0 rfl (by omega) (Nat.le_of_ble_eq_true rfl) dX7_worstOne_12 ?_
      refine k_icmp_ge C 57 dX7_worstOne_13 (by decide) (fun c_13 => ?_) (fun c_13 => ?_)
      · skip
        rw [hH.1] at c_13
        have hi2 : nh = i := (k_ge c_13 (by omega) (by omega)).symm
        subst hi2
        refine k_iload_n C dX7_worstOne_57 rfl (j := 1) rfl ?_
        exact k_iret C hQ rfl rfl dX7_worstOne_58 ⟨rfl, fi2, gr2, re2, ⟨hM2.1, hM2.2.1, hM2.2.2.1, hM2.2.2.2.1, hM2.2.2.2.2.1, hM2.2.2.2.2.2⟩, fun j hj => hfr j hj⟩
      · skip
        rw [hH.1] at c_13
        have hi3 : i < nh := k_lt c_13 (by omega) (by omega)
        refine k_aload_n C dX7_worstOne_16 rfl (j := 0) rfl ?_
        refine k_get C 73 inX7_worstOne_7 (by omega) hM2.1 rfl 0 (by decide) (List.mem_of_getElem? (i := 1) rfl) rfl rfl dX7_worstOne_17 ?_
        refine k_bipush C (v := 26) dX7_worstOne_20 (by decide) ?_
        refine k_iload_n C dX7_worstOne_22 rfl (j := 3) rfl ?_
        refine k_iadd C dX7_worstOne_23 ?_
        refine k_ialdN C 74 0 (by omega) hM2.2.1 rfl (26 + i) (knAdd rfl rfl) (by omega) (Nat.le_of_ble_eq_true rfl) dX7_worstOne_24 ?_
        refine k_iconst C (v := 1) dX7_worstOne_25 (by decide) ?_
        refine k_icmp_ne C 51 dX7_worstOne_26 (by decide) (fun c_26 => ?_) (fun c_26 => ?_)
        · skip
          refine k_cong (lv' := [(0, .ref (ad 73)), (1, .int ((mWst f nh nb nl (i + 1)).1)), (2, .int ((mWst f nh nb nl (i + 1)).2)), (3, .int (nI i))]) (by rw [show mWst f nh nb nl (i + 1) = mWst f nh nb nl i from by rw [mWst, if_neg c_26]]) ?_
          refine k_iinc C (v := nI (i + 1)) (lv' := [(3, .int (nI (i + 1))), (0, .ref (ad 73)), (1, .int ((mWst f nh nb nl (i + 1)).1)), (2, .int ((mWst f nh nb nl (i + 1)).2))]) dX7_worstOne_51 (j := 3) rfl (nI_1 i) (by decide) rfl ?_
          refine k_goto C 6 dX7_worstOne_54 (by decide) ?_
          exact k_sub [1, 2, 3, 0] rfl (ih6 (i + 1) fi2 gr2 re2 G2 (by omega) (by omega) ⟨hM2.1, hM2.2.1, hM2.2.2.1, hM2.2.2.2.1, hM2.2.2.2.2.1, hM2.2.2.2.2.2⟩ (fun j hj => hfr j hj))
        · skip
          refine k_aload_n C dX7_worstOne_29 rfl (j := 0) rfl ?_
          refine k_iload_n C dX7_worstOne_30 rfl (j := 3) rfl ?_
          refine k_callVi C (As := [.int (nI i)]) (rest := []) 73 (m_X7_winsWith l D cI cC cZ cB cJ ad N G2 f kp tx fi2 gr2 st ty th at0 re2 nh nb nl i (by omega) ⟨hM2.1, hM2.2.1, hM2.2.2.1, hM2.2.2.2.1, hM2.2.2.2.2.1, hM2.2.2.2.2.2⟩ hH hB hL hKB hKO hi3) gX7_worstOne_X7_winsWith rfl kd_X7_winsWith rfl rfl ⟨Nat.le_of_ble_eq_true rfl, Nat.le_of_ble_eq_true rfl⟩ (by omega) hM2.1 rfl rfl rfl (Nat.le_of_ble_eq_true rfl) ⟨Nat.zero_le _, Nat.zero_le _⟩ dX7_worstOne_31 (fun r_31 G1 hG1 => ?_)
          obtain ⟨e_r_31, fi_G1, gr_G1, re_G1, hM_G1, hf_G1⟩ := hG1
          subst e_r_31
          refine k_istore C (lv' := [(4, .int (mWW f nh nb nl i)), (0, .ref (ad 73)), (1, .int ((mWst f nh nb nl i).1)), (2, .int ((mWst f nh nb nl i).2)), (3, .int (nI i))]) dX7_worstOne_34 (by decide) rfl ?_
          refine k_iload_n C dX7_worstOne_36 rfl (j := 2) rfl ?_
          refine k_if_lt C 46 dX7_worstOne_37 (by decide) (fun c_37 => ?_) (fun c_37 => ?_)
          · skip
            have hor : (mWst f nh nb nl i).1 < 0 ∨ mWW f nh nb nl i < (mWst f nh nb nl i).2 := Or.inl c_37
            refine k_iload_n C dX7_worstOne_46 rfl (j := 4) rfl ?_
            refine k_istore_n C (lv' := [(1, .int (nI i)), (4, .int (mWW f nh nb nl i)), (0, .ref (ad 73)), (2, .int ((mWst f nh nb nl i).2)), (3, .int (nI i))]) dX7_worstOne_47 rfl (by decide) rfl ?_
            refine k_iload C dX7_worstOne_48 (j := 1) rfl ?_
            refine k_istore_n C (lv' := [(2, .int (mWW f nh nb nl i)), (1, .int (nI i)), (4, .int (mWW f nh nb nl i)), (0, .ref (ad 73)), (3, .int (nI i))]) dX7_worstOne_50 rfl (by decide) rfl ?_
            refine k_cong (lv' := [(2, .int ((mWst f nh nb nl (i + 1)).2)), (1, .int ((mWst f nh nb nl (i + 1)).1)), (4, .int (mWW f nh nb nl i)), (0, .ref (ad 73)), (3, .int (nI i))]) (by rw [show mWst f nh nb nl (i + 1) = (nI i, mWW f nh nb nl i) from by rw [mWst, if_pos c_26, if_pos hor]]) ?_
            refine k_iinc C (v := nI (i + 1)) (lv' := [(3, .int (nI (i + 1))), (2, .int ((mWst f nh nb nl (i + 1)).2)), (1, .int ((mWst f nh nb nl (i + 1)).1)), (4, .int (mWW f nh nb nl i)), (0, .ref (ad 73))]) dX7_worstOne_51 (j := 4) rfl (nI_1 i) (by decide) rfl ?_
            refine k_goto C 6 dX7_worstOne_54 (by decide) ?_
            exact k_sub [4, 2, 1, 0] rfl (ih6 (i + 1) fi_G1 gr_G1 re_G1 G1 (by omega) (by omega) ⟨hM_G1.1, hM_G1.2.1, hM_G1.2.2.1, hM_G1.2.2.2.1, hM_G1.2.2.2.2.1, hM_G1.2.2.2.2.2⟩ (fun j hj => (hf_G1 j hj : _).trans (hfr j hj)))
          · skip
            refine k_iload C dX7_worstOne_40 (j := 0) rfl ?_
            refine k_iload_n C dX7_worstOne_42 rfl (j := 3) rfl ?_
            refine k_icmp_ge C 51 dX7_worstOne_43 (by decide) (fun c_43 => ?_) (fun c_43 => ?_)
            · skip
              refine k_cong (lv' := [(4, .int (mWW f nh nb nl i)), (0, .ref (ad 73)), (1, .int ((mWst f nh nb nl (i + 1)).1)), (2, .int ((mWst f nh nb nl (i + 1)).2)), (3, .int (nI i))]) (by rw [show mWst f nh nb nl (i + 1) = mWst f nh nb nl i from by rw [mWst, if_pos c_26, if_neg (fun q => q.elim c_37 (fun q => absurd c_43 (Int32.not_le.mpr q)))]]) ?_
              refine k_iinc C (v := nI (i + 1)) (lv' := [(3, .int (nI (i + 1))), (4, .int (mWW f nh nb nl i)), (0, .ref (ad 73)), (1, .int ((mWst f nh nb nl (i + 1)).1)), (2, .int ((mWst f nh nb nl (i + 1)).2))]) dX7_worstOne_51 (j := 4) rfl (nI_1 i) (by decide) rfl ?_
              refine k_goto C 6 dX7_worstOne_54 (by decide) ?_
              exact k_sub [2, 3, 4, 0] rfl (ih6 (i + 1) fi_G1 gr_G1 re_G1 G1 (by omega) (by omega) ⟨hM_G1.1, hM_G1.2.1, hM_G1.2.2.1, hM_G1.2.2.2.1, hM_G1.2.2.2.2.1, hM_G1.2.2.2.2.2⟩ (fun j hj => (hf_G1 j hj : _).trans (hfr j hj)))
            · skip
              have hor : (mWst f nh nb nl i).1 < 0 ∨ mWW f nh nb nl i < (mWst f nh nb nl i).2 := Or.inr (Int32.not_le.mp c_43)
              refine k_iload_n C dX7_worstOne_46 rfl (j := 4) rfl ?_
              refine k_istore_n C (lv' := [(1, .int (nI i)), (4, .int (mWW f nh nb nl i)), (0, .ref (ad 73)), (2, .int ((mWst f nh nb nl i).2)), (3, .int (nI i))]) dX7_worstOne_47 rfl (by decide) rfl ?_
              refine k_iload C dX7_worstOne_48 (j := 1) rfl ?_
              refine k_istore_n C (lv' := [(2, .int (mWW f nh nb nl i)), (1, .int (nI i)), (4, .int (mWW f nh nb nl i)), (0, .ref (ad 73)), (3, .int (nI i))]) dX7_worstOne_50 rfl (by decide) rfl ?_
              refine k_cong (lv' := [(2, .int ((mWst f nh nb nl (i + 1)).2)), (1, .int ((mWst f nh nb nl (i + 1)).1)), (4, .int (mWW f nh nb nl i)), (0, .ref (ad 73)), (3, .int (nI i))]) (by rw [show mWst f nh nb nl (i + 1) = (nI i, mWW f nh nb nl i) from by rw [mWst, if_pos c_26, if_pos hor]]) ?_
              refine k_iinc C (v := nI (i + 1)) (lv' := [(3, .int (nI (i + 1))), (2, .int ((mWst f nh nb nl (i + 1)).2)), (1, .int ((mWst f nh nb nl (i + 1)).1)), (4, .int (mWW f nh nb nl i)), (0, .ref (ad 73))]) dX7_worstOne_51 (j := 4) rfl (nI_1 i) (by decide) rfl ?_
              refine k_goto C 6 dX7_worstOne_54 (by decide) ?_
              exact k_sub [4, 2, 1, 0] rfl (ih6 (i + 1) fi_G1 gr_G1 re_G1 G1 (by omega) (by omega) ⟨hM_G1.1, hM_G1.2.1, hM_G1.2.2.1, hM_G1.2.2.2.1, hM_G1.2.2.2.2.1, hM_G1.2.2.2.2.2⟩ (fun j hj => (hf_G1 j hj : _).trans (hfr j hj)))
  exact k_sub [3, 2, 1, 0] rfl (loop6 (nh + 1) 0 fi gr re G (by omega) (by omega) ⟨hM.1, hM.2.1, hM.2.2.1, hM.2.2.2.1, hM.2.2.2.2.1, hM.2.2.2.2.2⟩ (fun _ _ => rfl))
theorem inX7_covers_7 : ∀ w ∈ wsX70, w ∈ wsX7_covers := fun _ h => List.mem_cons_of_mem _ (List.mem_append_right _ h)
theorem kd_X7_covers : yX7_covers.cls = RX7 ∧ yX7_covers.cls ≠ "java/lang/invoke/MethodHandle" ∧ yX7_covers.cls ≠ "java/lang/invoke/VarHandle" ∧ (parseMethodDescriptor yX7_covers.desc).map (fun d => d.parameters.length) = some 1 := by decide +kernel
abbrev rX7_covers : Room := ({ frames := 6, cells := 0, slots := 0, locals := 137 } : Room)
set_option maxRecDepth 100000 in
set_option maxHeartbeats 4000000 in
/-- model: covers -/
theorem m_X7_covers (l : Launch) (D : va_G) (cI cC cZ cB cJ : ClassId) (ad : Nat → Nat) (N : Nat) (G : Nat → va_E) (f kp tx fi gr : Nat → Int32) (st ty : Nat) (th at0 re : Int32) (nh nb nl : Nat) (h : Nat) (hN : 79 ≤ N) (hM : isMo ad cI cC cZ G f kp tx fi gr st ty th at0 re) (hH : f 0 = nI nh ∧ nh ≤ 10) (hB : f 1 = nI nb ∧ nb ≤ 24) (hL : f 2 = nI nl ∧ nl ≤ 6) (hKB : ∀ k, k < nb → okB f k) (hKO : ∀ k, k < nl → okO f k) (hP0 : ∀ h, h < nh → ¬ f (6 + h) + f (16 + h) = 0 ∧ ¬ f (16 + h) = 0) (hh : h < nh) : kMi l yX7_covers wsX7_covers rX7_covers D (kT5 cI cC cZ cB cJ) ad N G [.ref (ad 73), .int (nI h)] (fun r G' => r = (mCov f nh nb nl h) ∧ ∃ (fi' : Nat → Int32) (gr' : Nat → Int32) (re' : Int32), isMo ad cI cC cZ G' f kp tx (fi') (gr') st ty th at0 (re') ∧ ∀ j, (j < 73 ∨ 79 ≤ j) → G' j = G j) := by
  refine k_starti (cc := cX7_covers) (ret := (some .int)) (maxL := 4) (lv0 := [(0, .ref (ad 73)), (1, .int (nI h))]) (by decide) rfl (Nat.le_of_ble_eq_true rfl) rfl ?_
  intro p e s m args below meth c A Q C hQ
  have hn := hH.2
  refine k_aload_n C dX7_covers_0 rfl (j := 0) rfl ?_
  refine k_get C 73 inX7_covers_7 (by omega) hM.1 rfl 0 (by decide) (List.mem_of_getElem? (i := 1) rfl) rfl rfl dX7_covers_1 ?_
  refine k_bipush C (v := 26) dX7_covers_4 (by decide) ?_
  refine k_iload_n C dX7_covers_6 rfl (j := 1) rfl ?_
  refine k_iadd C dX7_covers_7 ?_
  refine k_ialdN C 74 0 (by omega) hM.2.1 rfl (26 + h) (knAdd rfl rfl) (by omega) (Nat.le_of_ble_eq_true rfl) dX7_covers_8 ?_
  refine k_if_ne C 14 dX7_covers_9 (by decide) (fun c_9 => ?_) (fun c_9 => ?_)
  · skip
    refine k_aload_n C dX7_covers_14 rfl (j := 0) rfl ?_
    refine k_iload_n C dX7_covers_15 rfl (j := 1) rfl ?_
    refine k_callVi C (As := [.int (nI h)]) (rest := []) 73 (m_X7_winsWith l D cI cC cZ cB cJ ad N G f kp tx fi gr st ty th at0 re nh nb nl h (by omega) ⟨hM.1, hM.2.1, hM.2.2.1, hM.2.2.2.1, hM.2.2.2.2.1, hM.2.2.2.2.2⟩ hH hB hL hKB hKO hh) gX7_covers_X7_winsWith rfl kd_X7_winsWith rfl rfl ⟨Nat.le_of_ble_eq_true rfl, Nat.le_of_ble_eq_true rfl⟩ (by omega) hM.1 rfl rfl rfl (Nat.le_of_ble_eq_true rfl) ⟨Nat.zero_le _, Nat.zero_le _⟩ dX7_covers_16 (fun r_16 G1 hG1 => ?_)
    obtain ⟨e_r_16, fi_G1, gr_G1, re_G1, hM_G1, hf_G1⟩ := hG1
    subst e_r_16
    refine k_istore_n C (lv' := [(2, .int (mWW f nh nb nl h)), (0, .ref (ad 73)), (1, .int (nI h))]) dX7_covers_19 rfl (by decide) rfl ?_
    refine k_iconst C (v := 0) dX7_covers_20 (by decide) ?_
    refine k_istore_n C (lv' := [(3, .int 0), (2, .int (mWW f nh nb nl h)), (0, .ref (ad 73)), (1, .int (nI h))]) dX7_covers_21 rfl (by decide) rfl ?_
    have loop22 : ∀ (k : Nat) (i : Nat) , (10000 + 1 ≤ i + k) → (i ≤ 10000) → (mCv (mWW f nh nb nl h) (f (6 + h)) (f (16 + h)) (f 5) (10000 - i) i = mCv (mWW f nh nb nl h) (f (6 + h)) (f (16 + h)) (f 5) 10000 0) → kJ p l e rX7_covers s m args below meth c 0 0 Q 4 D ad N A G1 22 [(0, .ref (ad 73)), (1, .int (nI h)), (2, .int (mWW f nh nb nl h)), (3, .int (nI i))] [] := by
      intro k
      induction k with
      | zero => intro i  h1 h2 hcv; exact absurd h1 (by omega)
      | succ k ih22 =>
        intro i  h1 h2 hcv
        refine k_iload_n C dX7_covers_22 rfl (j := 3) rfl ?_
        refine k_sipush C (v := 10000) dX7_covers_23 (by decide) ?_
        refine k_icmp_ge C 68 dX7_covers_26 (by decide) (fun c_26 => ?_) (fun c_26 => ?_)
        · skip
          have hi2 : 10000 = i := (k_ge (n := 10000) c_26 (by omega) (by omega)).symm
          subst hi2
          have hres : ¬ mCv (mWW f nh nb nl h) (f (6 + h)) (f (16 + h)) (f 5) 10000 0 < 10000 := by rw [← hcv]; exact Nat.lt_irrefl _
          refine k_iload_n C dX7_covers_68 rfl (j := 3) rfl ?_
          refine k_sipush C (v := 10000) dX7_covers_69 (by decide) ?_
          refine k_icmp_ge C 79 dX7_covers_72 (by decide) (fun _ => ?_) (fun q => absurd q (fun q9 => q9 (nI_le (a := 10000) (b := 10000) (by decide) (by decide))))
          refine k_iconst C (v := (-1)) dX7_covers_79 (by decide) ?_
          exact k_iret C hQ rfl rfl dX7_covers_80 ⟨(by rw [mCov, if_neg c_9, if_neg hres]), fi_G1, gr_G1, re_G1, ⟨hM_G1.1, hM_G1.2.1, hM_G1.2.2.1, hM_G1.2.2.2.1, hM_G1.2.2.2.2.1, hM_G1.2.2.2.2.2⟩, fun j hj => hf_G1 j hj⟩
        · skip
          have hi3 : i < 10000 := k_lt (n := 10000) c_26 (by omega) (by omega)
          refine k_iload_n C dX7_covers_29 rfl (j := 2) rfl ?_
          refine k_iload_n C dX7_covers_30 rfl (j := 3) rfl ?_
          refine k_aload_n C dX7_covers_31 rfl (j := 0) rfl ?_
          refine k_get C 73 inX7_covers_7 (by omega) hM_G1.1 rfl 0 (by decide) (List.mem_of_getElem? (i := 1) rfl) rfl rfl dX7_covers_32 ?_
          refine k_bipush C (v := 6) dX7_covers_35 (by decide) ?_
          refine k_iload_n C dX7_covers_37 rfl (j := 1) rfl ?_
          refine k_iadd C dX7_covers_38 ?_
          refine k_ialdN C 74 0 (by omega) hM_G1.2.1 rfl (6 + h) (knAdd rfl rfl) (by omega) (Nat.le_of_ble_eq_true rfl) dX7_covers_39 ?_
          refine k_imul C dX7_covers_40 ?_
          refine k_aload_n C dX7_covers_41 rfl (j := 0) rfl ?_
          refine k_get C 73 inX7_covers_7 (by omega) hM_G1.1 rfl 0 (by decide) (List.mem_of_getElem? (i := 1) rfl) rfl rfl dX7_covers_42 ?_
          refine k_bipush C (v := 16) dX7_covers_45 (by decide) ?_
          refine k_iload_n C dX7_covers_47 rfl (j := 1) rfl ?_
          refine k_iadd C dX7_covers_48 ?_
          refine k_ialdN C 74 0 (by omega) hM_G1.2.1 rfl (16 + h) (knAdd rfl rfl) (by omega) (Nat.le_of_ble_eq_true rfl) dX7_covers_49 ?_
          refine k_idiv C dX7_covers_50 (hP0 h hh).2 ?_
          refine k_iadd C dX7_covers_51 ?_
          refine k_aload_n C dX7_covers_52 rfl (j := 0) rfl ?_
          refine k_get C 73 inX7_covers_7 (by omega) hM_G1.1 rfl 0 (by decide) (List.mem_of_getElem? (i := 1) rfl) rfl rfl dX7_covers_53 ?_
          refine k_iconst C (v := 5) dX7_covers_56 (by decide) ?_
          refine k_ialdN C 74 0 (by omega) hM_G1.2.1 rfl 5 rfl (by omega) (Nat.le_of_ble_eq_true rfl) dX7_covers_57 ?_
          refine k_ineg C dX7_covers_58 ?_
          refine k_icmp_ge C 68 dX7_covers_59 (by decide) (fun c_59 => ?_) (fun c_59 => ?_)
          · skip
            have hres : mCv (mWW f nh nb nl h) (f (6 + h)) (f (16 + h)) (f 5) 10000 0 = i := by
              rw [← hcv, show 10000 - i = (10000 - i - 1) + 1 by omega, mCv, if_neg (Int32.not_lt.mpr c_59)]
            refine k_iload_n C dX7_covers_68 rfl (j := 3) rfl ?_
            refine k_sipush C (v := 10000) dX7_covers_69 (by decide) ?_
            refine k_icmp_ge C 79 dX7_covers_72 (by decide) (fun q => absurd q (nI_ge (b := 10000) hi3 (by decide))) (fun _ => ?_)
            refine k_iload_n C dX7_covers_75 rfl (j := 3) rfl ?_
            refine k_goto C 80 dX7_covers_76 (by decide) ?_
            exact k_iret C hQ rfl rfl dX7_covers_80 ⟨(by rw [mCov, if_neg c_9, hres, if_pos hi3]), fi_G1, gr_G1, re_G1, ⟨hM_G1.1, hM_G1.2.1, hM_G1.2.2.1, hM_G1.2.2.2.1, hM_G1.2.2.2.2.1, hM_G1.2.2.2.2.2⟩, fun j hj => hf_G1 j hj⟩
          · skip
            have hst : mCv (mWW f nh nb nl h) (f (6 + h)) (f (16 + h)) (f 5) (10000 - (i + 1)) (i + 1) = mCv (mWW f nh nb nl h) (f (6 + h)) (f (16 + h)) (f 5) 10000 0 := by
              rw [← hcv, show 10000 - i = (10000 - (i + 1)) + 1 by omega, mCv, if_pos (Int32.not_le.mp c_59)]
            refine k_iinc C (v := nI (i + 1)) (lv' := [(3, .int (nI (i + 1))), (0, .ref (ad 73)), (1, .int (nI h)), (2, .int (mWW f nh nb nl h))]) dX7_covers_62 (j := 3) rfl (nI_1 i) (by decide) rfl ?_
            refine k_goto C 22 dX7_covers_65 (by decide) ?_
            exact k_sub [1, 2, 3, 0] rfl (ih22 (i + 1) (by omega) (by omega) hst)
    exact k_sub [2, 3, 1, 0] rfl (loop22 (10000 + 1) 0 (by omega) (by omega) rfl)
  · skip
    refine k_iconst C (v := (-1)) dX7_covers_12 (by decide) ?_
    exact k_iret C hQ rfl rfl dX7_covers_13 ⟨(by rw [mCov, if_pos c_9]), fi, gr, re, ⟨hM.1, hM.2.1, hM.2.2.1, hM.2.2.2.1, hM.2.2.2.2.1, hM.2.2.2.2.2⟩, fun _ _ => rfl⟩
theorem inX7_safe_7 : ∀ w ∈ wsX70, w ∈ wsX7_safe := fun _ h => List.mem_cons_of_mem _ (List.mem_append_right _ h)
theorem kd_X7_safe : yX7_safe.cls = RX7 ∧ yX7_safe.cls ≠ "java/lang/invoke/MethodHandle" ∧ yX7_safe.cls ≠ "java/lang/invoke/VarHandle" ∧ (parseMethodDescriptor yX7_safe.desc).map (fun d => d.parameters.length) = some 0 := by decide +kernel
abbrev rX7_safe : Room := ({ frames := 6, cells := 0, slots := 0, locals := 137 } : Room)
set_option maxRecDepth 100000 in
set_option maxHeartbeats 4000000 in
/-- model: safe -/
theorem m_X7_safe (l : Launch) (D : va_G) (cI cC cZ cB cJ : ClassId) (ad : Nat → Nat) (N : Nat) (G : Nat → va_E) (f kp tx fi gr : Nat → Int32) (st ty : Nat) (th at0 re : Int32) (nh nb nl : Nat) (hN : 79 ≤ N) (hM : isMo ad cI cC cZ G f kp tx fi gr st ty th at0 re) (hH : f 0 = nI nh ∧ nh ≤ 10) (hB : f 1 = nI nb ∧ nb ≤ 24) (hL : f 2 = nI nl ∧ nl ≤ 6) (hKB : ∀ k, k < nb → okB f k) (hKO : ∀ k, k < nl → okO f k) : kMd l yX7_safe wsX7_safe rX7_safe D (kT5 cI cC cZ cB cJ) ad N G [.ref (ad 73)] (fun r G' => r = (mShare f nh nb nl) ∧ ∃ (fi' : Nat → Int32) (gr' : Nat → Int32) (re' : Int32), isMo ad cI cC cZ G' f kp tx (fi') (gr') st ty th at0 (re') ∧ ∀ j, (j < 73 ∨ 79 ≤ j) → G' j = G j) := by
  refine k_startd (cc := cX7_safe) (ret := (some .double)) (maxL := 4) (lv0 := [(0, .ref (ad 73))]) (by decide) rfl (Nat.le_of_ble_eq_true rfl) rfl ?_
  intro p e s m args below meth c A Q C hQ
  have hn := hH.2
  have hrl := mRn_le f nh
  have hsl := mSf_le f nh nb nl nh
  refine k_iconst C (v := 0) dX7_safe_0 (by decide) ?_
  refine k_istore_n C (lv' := [(1, .int 0), (0, .ref (ad 73))]) dX7_safe_1 rfl (by decide) rfl ?_
  refine k_iconst C (v := 0) dX7_safe_2 (by decide) ?_
  refine k_istore_n C (lv' := [(2, .int 0), (1, .int 0), (0, .ref (ad 73))]) dX7_safe_3 rfl (by decide) rfl ?_
  refine k_iconst C (v := 0) dX7_safe_4 (by decide) ?_
  refine k_istore_n C (lv' := [(3, .int 0), (2, .int 0), (1, .int 0), (0, .ref (ad 73))]) dX7_safe_5 rfl (by decide) rfl ?_
  have loop6 : ∀ (k : Nat) (i : Nat) (fi2 gr2 : Nat → Int32) (re2 : Int32) (G2 : Nat → va_E), (nh + 1 ≤ i + k) → (i ≤ nh) → (isMo ad cI cC cZ G2 f kp tx fi2 gr2 st ty th at0 re2) → (∀ j, (j < 73 ∨ 79 ≤ j) → G2 j = G j) → kJ p l e rX7_safe s m args below meth c 0 0 Q 4 D ad N A G2 6 [(0, .ref (ad 73)), (1, .int (nI (mRn f i))), (2, .int (nI (mSf f nh nb nl i))), (3, .int (nI i))] [] := by
    intro k
    induction k with
    | zero => intro i fi2 gr2 re2 G2 h1 h2 hM2 hfr; exact absurd h1 (by omega)
    | succ k ih6 =>
      intro i fi2 gr2 re2 G2 h1 h2 hM2 hfr
      refine k_iload_n C dX7_safe_6 rfl (j := 3) rfl ?_
      refine k_aload_n C dX7_safe_7 rfl (j := 0) rfl ?_
      refine k_get C 73 inX7_safe_7 (by omega) hM2.1 rfl 0 (by decide) (List.mem_of_getElem? (i := 1) rfl) rfl rfl dX7_safe_8 ?_
      refine k_iconst C (v := 0) dX7_safe_11 (by decide) ?_
      refine k_ialdN C 74 0 (by omega) hM2.2.1 rfl 0 rfl (by omega) (Nat.le_of_ble_eq_true rfl) dX7_safe_12 ?_
      refine k_icmp_ge C 61 dX7_safe_13 (by decide) (fun c_13 => ?_) (fun c_13 => ?_)
      · skip
        rw [hH.1] at c_13
        have hi2 : nh = i := (k_ge c_13 (by omega) (by omega)).symm
        subst hi2
        refine k_iload_n C dX7_safe_61 rfl (j := 1) rfl ?_
        refine k_if_ne C 69 dX7_safe_62 (by decide) (fun c_62 => ?_) (fun c_62 => ?_)
        · skip
          have hz : ¬ mRn f nh = 0 := fun q => c_62 (by rw [q]; rfl)
          refine k_iload_n C dX7_safe_69 rfl (j := 2) rfl ?_
          refine k_i2d C dX7_safe_70 ?_
          refine k_iload_n C dX7_safe_71 rfl (j := 1) rfl ?_
          refine k_i2d C dX7_safe_72 ?_
          refine k_ddiv C dX7_safe_73 (nn64_of (dQ_nn _ (by omega) _ (by omega) (by omega) (by omega))) ?_
          exact k_dret C hQ rfl dX7_safe_74 ⟨(by rw [mShare, if_neg hz]; rfl), fi2, gr2, re2, ⟨hM2.1, hM2.2.1, hM2.2.2.1, hM2.2.2.2.1, hM2.2.2.2.2.1, hM2.2.2.2.2.2⟩, fun j hj => hfr j hj⟩
        · skip
          have hz : mRn f nh = 0 := (nI_eq (b := 0) (by omega) (by decide)).mp c_62
          refine k_dconst1 C dX7_safe_65 ?_
          refine k_goto C 74 dX7_safe_66 (by decide) ?_
          exact k_dret C hQ rfl dX7_safe_74 ⟨(by rw [mShare, if_pos hz]), fi2, gr2, re2, ⟨hM2.1, hM2.2.1, hM2.2.2.1, hM2.2.2.2.1, hM2.2.2.2.2.1, hM2.2.2.2.2.2⟩, fun j hj => hfr j hj⟩
      · skip
        rw [hH.1] at c_13
        have hi3 : i < nh := k_lt c_13 (by omega) (by omega)
        refine k_aload_n C dX7_safe_16 rfl (j := 0) rfl ?_
        refine k_get C 73 inX7_safe_7 (by omega) hM2.1 rfl 0 (by decide) (List.mem_of_getElem? (i := 1) rfl) rfl rfl dX7_safe_17 ?_
        refine k_bipush C (v := 26) dX7_safe_20 (by decide) ?_
        refine k_iload_n C dX7_safe_22 rfl (j := 3) rfl ?_
        refine k_iadd C dX7_safe_23 ?_
        refine k_ialdN C 74 0 (by omega) hM2.2.1 rfl (26 + i) (knAdd rfl rfl) (by omega) (Nat.le_of_ble_eq_true rfl) dX7_safe_24 ?_
        refine k_iconst C (v := 1) dX7_safe_25 (by decide) ?_
        refine k_icmp_ne C 55 dX7_safe_26 (by decide) (fun c_26 => ?_) (fun c_26 => ?_)
        · skip
          refine k_cong (lv' := [(0, .ref (ad 73)), (1, .int (nI (mRn f (i + 1)))), (2, .int (nI (mSf f nh nb nl (i + 1)))), (3, .int (nI i))]) (by rw [show mRn f (i + 1) = mRn f i from by rw [mRn, if_neg c_26], show mSf f nh nb nl (i + 1) = mSf f nh nb nl i from by rw [mSf, if_neg c_26]]) ?_
          refine k_iinc C (v := nI (i + 1)) (lv' := [(3, .int (nI (i + 1))), (0, .ref (ad 73)), (1, .int (nI (mRn f (i + 1)))), (2, .int (nI (mSf f nh nb nl (i + 1))))]) dX7_safe_55 (j := 3) rfl (nI_1 i) (by decide) rfl ?_
          refine k_goto C 6 dX7_safe_58 (by decide) ?_
          exact k_sub [1, 2, 3, 0] rfl (ih6 (i + 1) fi2 gr2 re2 G2 (by omega) (by omega) ⟨hM2.1, hM2.2.1, hM2.2.2.1, hM2.2.2.2.1, hM2.2.2.2.2.1, hM2.2.2.2.2.2⟩ (fun j hj => hfr j hj))
        · skip
          refine k_iinc C (v := nI (mRn f i + 1)) (lv' := [(1, .int (nI (mRn f i + 1))), (0, .ref (ad 73)), (2, .int (nI (mSf f nh nb nl i))), (3, .int (nI i))]) dX7_safe_29 (j := 1) rfl (nI_1 _) (by decide) rfl ?_
          refine k_iload_n C dX7_safe_32 rfl (j := 2) rfl ?_
          refine k_aload_n C dX7_safe_33 rfl (j := 1) rfl ?_
          refine k_iload_n C dX7_safe_34 rfl (j := 3) rfl ?_
          refine k_callVi C (As := [.int (nI i)]) (rest := [.int (nI (mSf f nh nb nl i))]) 73 (m_X7_winsWith l D cI cC cZ cB cJ ad N G2 f kp tx fi2 gr2 st ty th at0 re2 nh nb nl i (by omega) ⟨hM2.1, hM2.2.1, hM2.2.2.1, hM2.2.2.2.1, hM2.2.2.2.2.1, hM2.2.2.2.2.2⟩ hH hB hL hKB hKO hi3) gX7_safe_X7_winsWith rfl kd_X7_winsWith rfl rfl ⟨Nat.le_of_ble_eq_true rfl, Nat.le_of_ble_eq_true rfl⟩ (by omega) hM2.1 rfl rfl rfl (Nat.le_of_ble_eq_true rfl) ⟨Nat.zero_le _, Nat.zero_le _⟩ dX7_safe_35 (fun r_35 G1 hG1 => ?_)
          obtain ⟨e_r_35, fi_G1, gr_G1, re_G1, hM_G1, hf_G1⟩ := hG1
          subst e_r_35
          refine k_aload_n C dX7_safe_38 rfl (j := 1) rfl ?_
          refine k_get C 73 inX7_safe_7 (by omega) hM_G1.1 rfl 0 (by decide) (List.mem_of_getElem? (i := 1) rfl) rfl rfl dX7_safe_39 ?_
          refine k_iconst C (v := 5) dX7_safe_42 (by decide) ?_
          refine k_ialdN C 74 0 (by omega) hM_G1.2.1 rfl 5 rfl (by omega) (Nat.le_of_ble_eq_true rfl) dX7_safe_43 ?_
          refine k_ineg C dX7_safe_44 ?_
          refine k_icmp_lt C 52 dX7_safe_45 (by decide) (fun c_45 => ?_) (fun c_45 => ?_)
          · skip
            refine k_iconst C (v := 0) dX7_safe_52 (by decide) ?_
            refine k_iadd C dX7_safe_53 ?_
            refine k_istore_n C (lv' := [(2, .int ((nI (mSf f nh nb nl i)) + 0)), (1, .int (nI (mRn f i + 1))), (0, .ref (ad 73)), (3, .int (nI i))]) dX7_safe_54 rfl (by decide) rfl ?_
            refine k_cong (lv' := [(2, .int (nI (mSf f nh nb nl (i + 1)))), (1, .int (nI (mRn f (i + 1)))), (0, .ref (ad 73)), (3, .int (nI i))]) (by rw [show mRn f (i + 1) = mRn f i + 1 from by rw [mRn, if_pos c_26], show mSf f nh nb nl (i + 1) = mSf f nh nb nl i from by rw [mSf, if_pos c_26, if_pos c_45], Int32.add_zero]) ?_
            refine k_iinc C (v := nI (i + 1)) (lv' := [(3, .int (nI (i + 1))), (2, .int (nI (mSf f nh nb nl (i + 1)))), (1, .int (nI (mRn f (i + 1)))), (0, .ref (ad 73))]) dX7_safe_55 (j := 3) rfl (nI_1 i) (by decide) rfl ?_
            refine k_goto C 6 dX7_safe_58 (by decide) ?_
            exact k_sub [3, 2, 1, 0] rfl (ih6 (i + 1) fi_G1 gr_G1 re_G1 G1 (by omega) (by omega) ⟨hM_G1.1, hM_G1.2.1, hM_G1.2.2.1, hM_G1.2.2.2.1, hM_G1.2.2.2.2.1, hM_G1.2.2.2.2.2⟩ (fun j hj => (hf_G1 j hj : _).trans (hfr j hj)))
          · skip
            refine k_iconst C (v := 1) dX7_safe_48 (by decide) ?_
            refine k_goto C 53 dX7_safe_49 (by decide) ?_
            refine k_iadd C dX7_safe_53 ?_
            refine k_istore_n C (lv' := [(2, .int ((nI (mSf f nh nb nl i)) + 1)), (1, .int (nI (mRn f i + 1))), (0, .ref (ad 73)), (3, .int (nI i))]) dX7_safe_54 rfl (by decide) rfl ?_
            refine k_cong (lv' := [(2, .int (nI (mSf f nh nb nl (i + 1)))), (1, .int (nI (mRn f (i + 1)))), (0, .ref (ad 73)), (3, .int (nI i))]) (by rw [show mRn f (i + 1) = mRn f i + 1 from by rw [mRn, if_pos c_26], show mSf f nh nb nl (i + 1) = mSf f nh nb nl i + 1 from by rw [mSf, if_pos c_26, if_neg c_45], ← nI_1 (mSf f nh nb nl i)]) ?_
            refine k_iinc C (v := nI (i + 1)) (lv' := [(3, .int (nI (i + 1))), (2, .int (nI (mSf f nh nb nl (i + 1)))), (1, .int (nI (mRn f (i + 1)))), (0, .ref (ad 73))]) dX7_safe_55 (j := 3) rfl (nI_1 i) (by decide) rfl ?_
            refine k_goto C 6 dX7_safe_58 (by decide) ?_
            exact k_sub [3, 2, 1, 0] rfl (ih6 (i + 1) fi_G1 gr_G1 re_G1 G1 (by omega) (by omega) ⟨hM_G1.1, hM_G1.2.1, hM_G1.2.2.1, hM_G1.2.2.2.1, hM_G1.2.2.2.2.1, hM_G1.2.2.2.2.2⟩ (fun j hj => (hf_G1 j hj : _).trans (hfr j hj)))
  exact k_sub [3, 2, 1, 0] rfl (loop6 (nh + 1) 0 fi gr re G (by omega) (by omega) ⟨hM.1, hM.2.1, hM.2.2.1, hM.2.2.2.1, hM.2.2.2.2.1, hM.2.2.2.2.2⟩ (fun _ _ => rfl))
