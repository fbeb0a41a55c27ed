/-! the model's public methods -/
def vN (h : Int32) : Nat := h.toNatClampNeg
theorem vN_of {f : Nat → Int32} {nh : Nat} {h : Int32} (hf : f 0 = nI nh ∧ nh ≤ 10) (hh : mIsH f h = true) : h = nI (vN h) ∧ vN h < nh := by
  obtain ⟨j, hj, e⟩ := mIsH_nI hf.1 hf.2 hh
  subst e
  rw [vN, nI_clamp (by omega)]
  exact ⟨rfl, hj⟩
theorem vN_cnt {x h : Int32} {n : Nat} (hf : x = nI n) (hn : n ≤ 30) (hh : mIn h 0 (x - 1) = true) : h = nI (vN h) ∧ vN h < n := by
  simp only [mIn, Bool.and_eq_true, Bool.not_eq_true', decide_eq_false_iff_not] at hh
  rw [hf] at hh
  rcases Nat.eq_zero_or_pos n with h0 | h0
  · subst h0
    exact absurd (Int32.le_trans (Int32.not_lt.mp hh.1) (Int32.not_lt.mp hh.2)) (by decide)
  · rw [show (1 : Int32) = nI 1 from rfl, pk_sub h0] at hh
    obtain ⟨j, hj, e⟩ := nI_of2 (M := nI (n - 1)) (n := n - 1) (nI_toInt (by omega)) hh.1 (Int32.not_lt.mp hh.2)
    subst e
    rw [vN, nI_clamp (by omega)]
    exact ⟨rfl, by omega⟩
theorem vN_in {h : Int32} (n : Nat) (hn : n < 2 ^ 31) (hh : mIn h 0 (nI n) = true) : h = nI (vN h) ∧ vN h ≤ n := by
  simp only [mIn, Bool.and_eq_true, Bool.not_eq_true', decide_eq_false_iff_not] at hh
  obtain ⟨j, hj, e⟩ := nI_of2 (M := nI n) (n := n) (nI_toInt hn) hh.1 (Int32.not_lt.mp hh.2)
  subst e
  rw [vN, nI_clamp (by omega)]
  exact ⟨rfl, hj⟩
theorem m_room {x : Int32} {n : Nat} (hx : x = nI n) {k : Nat} (hk : k < 2 ^ 31) (hn : n < 2 ^ 31) (h : (!(decide (nI k ≤ x))) = true) : n < k := by
  rw [hx] at h
  simp only [Bool.not_eq_true', decide_eq_false_iff_not] at h
  exact Nat.lt_of_not_le (fun q => h (nI_le q hn))
theorem m_chr {y : Int32} (h : mIn y 33 126 = true) : vp_nar .char (y.toUInt32 % 65536).toInt32 = y := by
  simp only [mIn, Bool.and_eq_true, Bool.not_eq_true', decide_eq_false_iff_not] at h
  obtain ⟨j, hj, e⟩ := nI_of2 (M := 126) (n := 126) (by decide) (fun q => h.1 (Int32.lt_trans q (by decide))) (Int32.not_lt.mp h.2)
  subst e
  have : ∀ i, i < 127 → vp_nar .char ((nI i).toUInt32 % 65536).toInt32 = nI i := by decide +kernel
  exact this j (by omega)
/-- a bet is written: its row k at place o -/
def mTk (f : Nat → Int32) (nb : Nat) (h y w a b : Int32) : Nat → Int32 :=
  upd (upd (upd (upd (upd (upd (upd (upd (upd f (66 + 8 * nb + 0) h) (66 + 8 * nb + 1) y) (66 + 8 * nb + 2) w) (66 + 8 * nb + 3) a) (66 + 8 * nb + 4) b) (66 + 8 * nb + 5) 0) (66 + 8 * nb + 6) (-1)) (66 + 8 * nb + 7) (-1)) 1 (nI (nb + 1))
def mLy (f : Nat → Int32) (nl : Nat) (h y a b : Int32) : Nat → Int32 :=
  upd (upd (upd (upd (upd (upd f (258 + 5 * nl + 0) h) (258 + 5 * nl + 1) y) (258 + 5 * nl + 2) a) (258 + 5 * nl + 3) b) (258 + 5 * nl + 4) (-1)) 2 (nI (nl + 1))
def mCutV (x : Int32) : Int32 := if 75 < x then 75 else x
def mCut (f : Nat → Int32) (h : Nat) : Int32 := mCutV (100 * f (16 + h) / (f (6 + h) + f (16 + h)))
def mAllV (x : Int32) : Int32 := if 90 < x then 90 else x
def mWd (f : Nat → Int32) (x : Int32) : Nat → (Nat → Int32)
  | 0 => f
  | i + 1 => upd (mWd f x i) (66 + 8 * i + 5) (mAllV (mWd f x i (66 + 8 * i + 5) + x))
theorem mWd_lo (f : Nat → Int32) (x : Int32) {j : Nat} (hj : j < 66) : ∀ i, mWd f x i j = f j
  | 0 => rfl
  | i + 1 => by rw [mWd, pk_un (by omega), mWd_lo f x hj i]
def mW0 (f : Nat → Int32) (h : Nat) : Nat → Int32 := upd (upd f (26 + h) 0) (36 + h) (mCut f h)
theorem inX7_horse_7 : ∀ w ∈ wsX70, w ∈ wsX7_horse := fun _ h => List.mem_cons_of_mem _ (List.mem_append_right _ h)
theorem kd_X7_horse : yX7_horse.cls = RX7 ∧ yX7_horse.cls ≠ "java/lang/invoke/MethodHandle" ∧ yX7_horse.cls ≠ "java/lang/invoke/VarHandle" ∧ (parseMethodDescriptor yX7_horse.desc).map (fun d => d.parameters.length) = some 2 := by decide +kernel
abbrev rX7_horse : Room := ({ frames := 2, cells := 0, slots := 0, locals := 44 } : Room)
set_option maxRecDepth 100000 in
set_option maxHeartbeats 4000000 in
/-- model: horse -/
theorem m_X7_horse (l : Launch) (D : va_G) (cI cC cZ cB cJ : ClassId) (ad : Nat → Nat) (N : Nat) (G : Nat → va_E) (f kp tx fi gr : Nat → Int32) (st ty : Nat) (th at0 re : Int32) (nh nb nl : Nat) (a b : Int32) (hN : 79 ≤ N) (hM : isMo ad cI cC cZ G f kp tx fi gr st ty th at0 re) (hH : f 0 = nI nh ∧ nh ≤ 10) (hS0 : st ≤ 6) : kMi l yX7_horse wsX7_horse rX7_horse D (kT5 cI cC cZ cB cJ) ad N G [.ref (ad 73), .int a, .int b] (fun r G' => (mTh (mPriceOk a b) (!(decide (10 ≤ f 0)) && mOpen f) true = 0 → r = (nI nh) ∧ isMo ad cI cC cZ G' (upd (upd (upd (upd (mSave f st) (6 + nh) a) (16 + nh) b) (26 + nh) 1) 0 (nI (nh + 1))) kp tx fi gr (mSt st) ty (mTh (mPriceOk a b) (!(decide (10 ≤ f 0)) && mOpen f) true) at0 re) ∧ (¬ mTh (mPriceOk a b) (!(decide (10 ≤ f 0)) && mOpen f) true = 0 → r = 0 ∧ isMo ad cI cC cZ G' f kp tx fi gr st ty (mTh (mPriceOk a b) (!(decide (10 ≤ f 0)) && mOpen f) true) at0 re) ∧ ∀ j, (j < 73 ∨ 79 ≤ j) → G' j = G j) := by
  refine k_starti (cc := cX7_horse) (ret := (some .int)) (maxL := 4) (lv0 := [(0, .ref (ad 73)), (1, .int a), (2, .int b)]) (by decide) rfl (Nat.le_of_ble_eq_true rfl) rfl ?_
  intro p e s m args below meth c A Q C hQ
  have hn := hH.2
  refine k_aload_n C dX7_horse_0 rfl (j := 0) rfl ?_
  refine k_iload_n C dX7_horse_1 rfl (j := 1) rfl ?_
  refine k_iload_n C dX7_horse_2 rfl (j := 2) rfl ?_
  refine k_callSir C (As := [.int a, .int b]) (rest := [.ref (ad 73)]) (m_X7_isPrice l D cI cC cZ cB cJ ad N G a b) gX7_horse_X7_isPrice rfl kd_X7_isPrice rfl rfl ⟨Nat.le_of_ble_eq_true rfl, Nat.le_of_ble_eq_true rfl⟩ rfl rfl (Nat.le_of_ble_eq_true rfl) ⟨Nat.zero_le _, Nat.zero_le _⟩ dX7_horse_3 ?_
  have jn29 : kJ p l e rX7_horse s m args below meth c 0 0 Q 4 D ad N A G 29 [(0, .ref (ad 73)), (1, .int a), (2, .int b)] [.int (bI (!(decide (10 ≤ f 0)) && mOpen f)), .int (bI (mPriceOk a b)), .ref (ad 73)] := by
    refine k_iconst C (v := 1) dX7_horse_29 (by decide) ?_
    refine k_callVi C (As := [.int (bI (mPriceOk a b)), .int (bI (!(decide (10 ≤ f 0)) && mOpen f)), .int 1]) (rest := []) 73 (m_X7_goes l D cI cC cZ cB cJ ad N G f kp tx fi gr st ty th at0 re nh nb nl (mPriceOk a b) (!(decide (10 ≤ f 0)) && mOpen f) true (by omega) ⟨hM.1, hM.2.1, hM.2.2.1, hM.2.2.2.1, hM.2.2.2.2.1, hM.2.2.2.2.2⟩ ) gX7_horse_X7_goes rfl kd_X7_goes rfl rfl ⟨Nat.le_of_ble_eq_true rfl, Nat.le_of_ble_eq_true rfl⟩ (by omega) hM.1 rfl rfl rfl (Nat.le_of_ble_eq_true rfl) ⟨Nat.zero_le _, Nat.zero_le _⟩ dX7_horse_30 (fun r_30 G1 hG1 => ?_)
    obtain ⟨e_r_30, hM_G1, hf_G1⟩ := hG1
    subst e_r_30
    refine k_if_ne C 38 dX7_horse_33 (by decide) (fun c_33 => ?_) (fun c_33 => ?_)
    · skip
      have c_33 := bI_t c_33
      have hT := of_decide_eq_true c_33
      obtain ⟨hA1, hA2, hA3⟩ := mTh_0 hT
      simp only [Bool.and_eq_true] at hA2
      have hlt : nh < 10 := m_room (k := 10) hH.1 (by decide) (by omega) hA2.1
      refine k_aload_n C dX7_horse_38 rfl (j := 0) rfl ?_
      refine k_callVv C (As := []) (rest := []) 73 (m_X7_saves l D cI cC cZ cB cJ ad N G1 f kp tx fi gr st ty (mTh ((mPriceOk a b)) ((!(decide (10 ≤ f 0)) && mOpen f)) true) at0 re nh nb nl (by omega) ⟨hM_G1.1, hM_G1.2.1, hM_G1.2.2.1, hM_G1.2.2.2.1, hM_G1.2.2.2.2.1, hM_G1.2.2.2.2.2⟩ hS0 ) gX7_horse_X7_saves rfl kd_X7_saves rfl rfl ⟨Nat.le_of_ble_eq_true rfl, Nat.le_of_ble_eq_true rfl⟩ (by omega) hM_G1.1 rfl rfl rfl (Nat.le_of_ble_eq_true rfl) ⟨Nat.zero_le _, Nat.zero_le _⟩ dX7_horse_39 (fun G2 hG2 => ?_)
      obtain ⟨hM_G2, hf_G2⟩ := hG2
      refine k_aload_n C dX7_horse_42 rfl (j := 0) rfl ?_
      refine k_get C 73 inX7_horse_7 (by omega) hM_G2.1 rfl 0 (by decide) (List.mem_of_getElem? (i := 1) rfl) rfl rfl dX7_horse_43 ?_
      refine k_iconst C (v := 0) dX7_horse_46 (by decide) ?_
      refine k_ialdN C 74 0 (by omega) hM_G2.2.1 rfl 0 rfl (by omega) (Nat.le_of_ble_eq_true rfl) dX7_horse_47 ?_
      refine k_istore_n C (lv' := [(3, .int ((mSave f st) 0)), (0, .ref (ad 73)), (1, .int a), (2, .int b)]) dX7_horse_48 rfl (by decide) rfl ?_
      refine k_cong (lv' := [(3, .int (nI nh)), (0, .ref (ad 73)), (1, .int a), (2, .int b)]) (congrArg (fun (z9 : Int32) => ([(3, .int z9), (0, .ref (ad 73)), (1, .int a), (2, .int b)] : List (Nat × Value))) (show ((mSave f st) 0 : Int32) = nI nh from (mSave_low f st (by decide)).trans hH.1)) ?_
      refine k_aload_n C dX7_horse_49 rfl (j := 1) rfl ?_
      refine k_get C 73 inX7_horse_7 (by omega) hM_G2.1 rfl 0 (by decide) (List.mem_of_getElem? (i := 1) rfl) rfl rfl dX7_horse_50 ?_
      refine k_bipush C (v := 6) dX7_horse_53 (by decide) ?_
      refine k_iload_n C dX7_horse_55 rfl (j := 0) rfl ?_
      refine k_iadd C dX7_horse_56 ?_
      refine k_iload_n C dX7_horse_57 rfl (j := 2) rfl ?_
      refine k_iastN C 74 0 (by omega) hM_G2.2.1 rfl (6 + nh) (knAdd rfl rfl) (by omega) (Nat.le_of_ble_eq_true rfl) dX7_horse_58 (fun G3 hG3 => ?_)
      have h_73_G3 : G3 73 = .inr (7, [.ref (ad 74), .int (nI (mSt st)), .ref (ad 75), .int (mTh ((mPriceOk a b)) ((!(decide (10 ≤ f 0)) && mOpen f)) true), .ref (ad 76), .int (nI ty), .int at0, .ref (ad 77), .ref (ad 78), .int re]) := up_at hG3 hM_G2.1 (by omega)
      have h_75_G3 : G3 75 = .inl (cZ, 2, .inl kp) := up_at hG3 hM_G2.2.2.1 (by omega)
      have h_76_G3 : G3 76 = .inl (cC, 30, .inl tx) := up_at hG3 hM_G2.2.2.2.1 (by omega)
      have h_77_G3 : G3 77 = .inl (cI, 10, .inl fi) := up_at hG3 hM_G2.2.2.2.2.1 (by omega)
      have h_78_G3 : G3 78 = .inl (cI, 10, .inl gr) := up_at hG3 hM_G2.2.2.2.2.2 (by omega)
      have h_74_G3 : G3 74 = .inl (cI, 2610, .inl (upd (mSave f st) (6 + nh) a)) := up_it hG3
      refine k_aload_n C dX7_horse_59 rfl (j := 1) rfl ?_
      refine k_get C 73 inX7_horse_7 (by omega) h_73_G3 rfl 0 (by decide) (List.mem_of_getElem? (i := 1) rfl) rfl rfl dX7_horse_60 ?_
      refine k_bipush C (v := 16) dX7_horse_63 (by decide) ?_
      refine k_iload_n C dX7_horse_65 rfl (j := 0) rfl ?_
      refine k_iadd C dX7_horse_66 ?_
      refine k_iload_n C dX7_horse_67 rfl (j := 3) rfl ?_
      refine k_iastN C 74 0 (by omega) h_74_G3 rfl (16 + nh) (knAdd rfl rfl) (by omega) (Nat.le_of_ble_eq_true rfl) dX7_horse_68 (fun G4 hG4 => ?_)
      have h_73_G4 : G4 73 = .inr (7, [.ref (ad 74), .int (nI (mSt st)), .ref (ad 75), .int (mTh ((mPriceOk a b)) ((!(decide (10 ≤ f 0)) && mOpen f)) true), .ref (ad 76), .int (nI ty), .int at0, .ref (ad 77), .ref (ad 78), .int re]) := up_at hG4 h_73_G3 (by omega)
      have h_75_G4 : G4 75 = .inl (cZ, 2, .inl kp) := up_at hG4 h_75_G3 (by omega)
      have h_76_G4 : G4 76 = .inl (cC, 30, .inl tx) := up_at hG4 h_76_G3 (by omega)
      have h_77_G4 : G4 77 = .inl (cI, 10, .inl fi) := up_at hG4 h_77_G3 (by omega)
      have h_78_G4 : G4 78 = .inl (cI, 10, .inl gr) := up_at hG4 h_78_G3 (by omega)
      have h_74_G4 : G4 74 = .inl (cI, 2610, .inl (upd (upd (mSave f st) (6 + nh) a) (16 + nh) b)) := up_it hG4
      refine k_aload_n C dX7_horse_69 rfl (j := 1) rfl ?_
      refine k_get C 73 inX7_horse_7 (by omega) h_73_G4 rfl 0 (by decide) (List.mem_of_getElem? (i := 1) rfl) rfl rfl dX7_horse_70 ?_
      refine k_bipush C (v := 26) dX7_horse_73 (by decide) ?_
      refine k_iload_n C dX7_horse_75 rfl (j := 0) rfl ?_
      refine k_iadd C dX7_horse_76 ?_
      refine k_iconst C (v := 1) dX7_horse_77 (by decide) ?_
      refine k_iastN C 74 0 (by omega) h_74_G4 rfl (26 + nh) (knAdd rfl rfl) (by omega) (Nat.le_of_ble_eq_true rfl) dX7_horse_78 (fun G5 hG5 => ?_)
      have h_73_G5 : G5 73 = .inr (7, [.ref (ad 74), .int (nI (mSt st)), .ref (ad 75), .int (mTh ((mPriceOk a b)) ((!(decide (10 ≤ f 0)) && mOpen f)) true), .ref (ad 76), .int (nI ty), .int at0, .ref (ad 77), .ref (ad 78), .int re]) := up_at hG5 h_73_G4 (by omega)
      have h_75_G5 : G5 75 = .inl (cZ, 2, .inl kp) := up_at hG5 h_75_G4 (by omega)
      have h_76_G5 : G5 76 = .inl (cC, 30, .inl tx) := up_at hG5 h_76_G4 (by omega)
      have h_77_G5 : G5 77 = .inl (cI, 10, .inl fi) := up_at hG5 h_77_G4 (by omega)
      have h_78_G5 : G5 78 = .inl (cI, 10, .inl gr) := up_at hG5 h_78_G4 (by omega)
      have h_74_G5 : G5 74 = .inl (cI, 2610, .inl (upd (upd (upd (mSave f st) (6 + nh) a) (16 + nh) b) (26 + nh) 1)) := up_it hG5
      refine k_aload_n C dX7_horse_79 rfl (j := 1) rfl ?_
      refine k_get C 73 inX7_horse_7 (by omega) h_73_G5 rfl 0 (by decide) (List.mem_of_getElem? (i := 1) rfl) rfl rfl dX7_horse_80 ?_
      refine k_iconst C (v := 0) dX7_horse_83 (by decide) ?_
      refine k_dup2 C dX7_horse_84 rfl rfl ?_
      refine k_ialdN C 74 0 (by omega) h_74_G5 rfl 0 rfl (by omega) (Nat.le_of_ble_eq_true rfl) dX7_horse_85 ?_
      refine k_iconst C (v := 1) dX7_horse_86 (by decide) ?_
      refine k_iadd C dX7_horse_87 ?_
      refine k_congS (st' := [.int (nI (nh + 1)), .int 0, .ref (ad 74)]) (congrArg (fun (z9 : Int32) => ([.int z9, .int 0, .ref (ad 74)] : List Value)) (show (((upd (upd (upd (mSave f st) (6 + nh) a) (16 + nh) b) (26 + nh) 1) 0) + 1 : Int32) = nI (nh + 1) from by (repeat rw [pk_un (by omega)]); rw [mSave_low f st (by decide), hH.1, nI_1])) ?_
      refine k_iastN C 74 0 (by omega) h_74_G5 rfl 0 rfl (by omega) (Nat.le_of_ble_eq_true rfl) dX7_horse_88 (fun G6 hG6 => ?_)
      have h_73_G6 : G6 73 = .inr (7, [.ref (ad 74), .int (nI (mSt st)), .ref (ad 75), .int (mTh ((mPriceOk a b)) ((!(decide (10 ≤ f 0)) && mOpen f)) true), .ref (ad 76), .int (nI ty), .int at0, .ref (ad 77), .ref (ad 78), .int re]) := up_at hG6 h_73_G5 (by omega)
      have h_75_G6 : G6 75 = .inl (cZ, 2, .inl kp) := up_at hG6 h_75_G5 (by omega)
      have h_76_G6 : G6 76 = .inl (cC, 30, .inl tx) := up_at hG6 h_76_G5 (by omega)
      have h_77_G6 : G6 77 = .inl (cI, 10, .inl fi) := up_at hG6 h_77_G5 (by omega)
      have h_78_G6 : G6 78 = .inl (cI, 10, .inl gr) := up_at hG6 h_78_G5 (by omega)
      have h_74_G6 : G6 74 = .inl (cI, 2610, .inl (upd (upd (upd (upd (mSave f st) (6 + nh) a) (16 + nh) b) (26 + nh) 1) 0 (nI (nh + 1)))) := up_it hG6
      refine k_iload_n C dX7_horse_89 rfl (j := 0) rfl ?_
      exact k_iret C hQ rfl rfl dX7_horse_90 ⟨fun _ => ⟨rfl, ⟨h_73_G6, h_74_G6, h_75_G6, h_76_G6, h_77_G6, h_78_G6⟩⟩, fun h9 => absurd hT h9, fun j hj => (show _ = _ from by rw [hG6, up_ne (by omega)]).trans ((show _ = _ from by rw [hG5, up_ne (by omega)]).trans ((show _ = _ from by rw [hG4, up_ne (by omega)]).trans ((show _ = _ from by rw [hG3, up_ne (by omega)]).trans ((hf_G2 j hj : _).trans (hf_G1 j hj)))))⟩
    · skip
      have c_33 := bI_f c_33
      have hT := of_decide_eq_false c_33
      refine k_iconst C (v := 0) dX7_horse_36 (by decide) ?_
      exact k_iret C hQ rfl rfl dX7_horse_37 ⟨fun h9 => absurd h9 hT, fun _ => ⟨rfl, ⟨hM_G1.1, hM_G1.2.1, hM_G1.2.2.1, hM_G1.2.2.2.1, hM_G1.2.2.2.2.1, hM_G1.2.2.2.2.2⟩⟩, fun j hj => hf_G1 j hj⟩
  refine k_aload_n C dX7_horse_6 rfl (j := 0) rfl ?_
  refine k_get C 73 inX7_horse_7 (by omega) hM.1 rfl 0 (by decide) (List.mem_of_getElem? (i := 1) rfl) rfl rfl dX7_horse_7 ?_
  refine k_iconst C (v := 0) dX7_horse_10 (by decide) ?_
  refine k_ialdN C 74 0 (by omega) hM.2.1 rfl 0 rfl (by omega) (Nat.le_of_ble_eq_true rfl) dX7_horse_11 ?_
  refine k_bipush C (v := 10) dX7_horse_12 (by decide) ?_
  refine k_icmp_ge C 28 dX7_horse_14 (by decide) (fun c_14 => ?_) (fun c_14 => ?_)
  · skip
    refine k_iconst C (v := 0) dX7_horse_28 (by decide) ?_
    refine k_congS (st' := [.int (bI (!(decide (10 ≤ f 0)) && mOpen f)), .int (bI (mPriceOk a b)), .ref (ad 73)]) (congrArg (fun (z9 : Int32) => ([.int z9, .int (bI (mPriceOk a b)), .ref (ad 73)] : List Value)) (show (0 : Int32) = bI (!(decide (10 ≤ f 0)) && mOpen f) from by simp [bI, c_14])) ?_
    exact jn29
  · skip
    refine k_aload_n C dX7_horse_17 rfl (j := 0) rfl ?_
    refine k_callVir C (As := []) (rest := [.int (bI (mPriceOk a b)), .ref (ad 73)]) 73 (m_X7_isOpen l D cI cC cZ cB cJ ad N G f kp tx fi gr st ty th at0 re nh nb nl (by omega) ⟨hM.1, hM.2.1, hM.2.2.1, hM.2.2.2.1, hM.2.2.2.2.1, hM.2.2.2.2.2⟩ ) gX7_horse_X7_isOpen rfl kd_X7_isOpen rfl rfl ⟨Nat.le_of_ble_eq_true rfl, Nat.le_of_ble_eq_true rfl⟩ (by omega) hM.1 rfl rfl rfl (Nat.le_of_ble_eq_true rfl) ⟨Nat.zero_le _, Nat.zero_le _⟩ dX7_horse_18 ?_
    refine k_if_eq C 28 dX7_horse_21 (by decide) (fun c_21 => ?_) (fun c_21 => ?_)
    · skip
      have c_21 := bI_f c_21
      refine k_iconst C (v := 0) dX7_horse_28 (by decide) ?_
      refine k_congS (st' := [.int (bI (!(decide (10 ≤ f 0)) && mOpen f)), .int (bI (mPriceOk a b)), .ref (ad 73)]) (congrArg (fun (z9 : Int32) => ([.int z9, .int (bI (mPriceOk a b)), .ref (ad 73)] : List Value)) (show (0 : Int32) = bI (!(decide (10 ≤ f 0)) && mOpen f) from by simp [bI, c_14, c_21])) ?_
      exact jn29
    · skip
      have c_21 := bI_t c_21
      refine k_iconst C (v := 1) dX7_horse_24 (by decide) ?_
      refine k_goto C 29 dX7_horse_25 (by decide) ?_
      refine k_congS (st' := [.int (bI (!(decide (10 ≤ f 0)) && mOpen f)), .int (bI (mPriceOk a b)), .ref (ad 73)]) (congrArg (fun (z9 : Int32) => ([.int z9, .int (bI (mPriceOk a b)), .ref (ad 73)] : List Value)) (show (1 : Int32) = bI (!(decide (10 ≤ f 0)) && mOpen f) from by simp [bI, c_14, c_21])) ?_
      exact jn29
theorem inX7_price_7 : ∀ w ∈ wsX70, w ∈ wsX7_price := fun _ h => List.mem_cons_of_mem _ (List.mem_append_right _ h)
theorem kd_X7_price : yX7_price.cls = RX7 ∧ yX7_price.cls ≠ "java/lang/invoke/MethodHandle" ∧ yX7_price.cls ≠ "java/lang/invoke/VarHandle" ∧ (parseMethodDescriptor yX7_price.desc).map (fun d => d.parameters.length) = some 3 := by decide +kernel
abbrev rX7_price : Room := ({ frames := 3, cells := 0, slots := 0, locals := 64 } : Room)
set_option maxRecDepth 100000 in
set_option maxHeartbeats 4000000 in
/-- model: price -/
theorem m_X7_price (l : Launch) (D : va_G) (cI cC cZ cB cJ : ClassId) (ad : Nat → Nat) (N : Nat) (G : Nat → va_E) (f kp tx fi gr : Nat → Int32) (st ty : Nat) (th at0 re : Int32) (nh nb nl : Nat) (h a b : Int32) (hN : 79 ≤ N) (hM : isMo ad cI cC cZ G f kp tx fi gr st ty th at0 re) (hH : f 0 = nI nh ∧ nh ≤ 10) (hB : f 1 = nI nb ∧ nb ≤ 24) (hS0 : st ≤ 6) : kMi l yX7_price wsX7_price rX7_price D (kT5 cI cC cZ cB cJ) ad N G [.ref (ad 73), .int h, .int a, .int b] (fun r G' => (mTh (mIsH f h) (mPriceOk a b) (mRuns f h && mOpen f) = 0 → r = (mBetsOn (upd (upd (mSave f st) (6 + vN h) a) (16 + vN h) b) h nb) ∧ isMo ad cI cC cZ G' (upd (upd (mSave f st) (6 + vN h) a) (16 + vN h) b) kp tx fi gr (mSt st) ty (mTh (mIsH f h) (mPriceOk a b) (mRuns f h && mOpen f)) at0 re) ∧ (¬ mTh (mIsH f h) (mPriceOk a b) (mRuns f h && mOpen f) = 0 → r = 0 ∧ isMo ad cI cC cZ G' f kp tx fi gr st ty (mTh (mIsH f h) (mPriceOk a b) (mRuns f h && mOpen f)) at0 re) ∧ ∀ j, (j < 73 ∨ 79 ≤ j) → G' j = G j) := by
  refine k_starti (cc := cX7_price) (ret := (some .int)) (maxL := 4) (lv0 := [(0, .ref (ad 73)), (1, .int h), (2, .int a), (3, .int b)]) (by decide) rfl (Nat.le_of_ble_eq_true rfl) rfl ?_
  intro p e s m args below meth c A Q C hQ
  have hn := hH.2
  refine k_aload_n C dX7_price_0 rfl (j := 0) rfl ?_
  refine k_aload_n C dX7_price_1 rfl (j := 0) rfl ?_
  refine k_iload_n C dX7_price_2 rfl (j := 1) rfl ?_
  refine k_callVir C (As := [.int h]) (rest := [.ref (ad 73)]) 73 (m_X7_isHorse l D cI cC cZ cB cJ ad N G f kp tx fi gr st ty th at0 re nh nb nl h (by omega) ⟨hM.1, hM.2.1, hM.2.2.1, hM.2.2.2.1, hM.2.2.2.2.1, hM.2.2.2.2.2⟩ ) gX7_price_X7_isHorse rfl kd_X7_isHorse rfl rfl ⟨Nat.le_of_ble_eq_true rfl, Nat.le_of_ble_eq_true rfl⟩ (by omega) hM.1 rfl rfl rfl (Nat.le_of_ble_eq_true rfl) ⟨Nat.zero_le _, Nat.zero_le _⟩ dX7_price_3 ?_
  refine k_iload_n C dX7_price_6 rfl (j := 2) rfl ?_
  refine k_iload_n C dX7_price_7 rfl (j := 3) rfl ?_
  refine k_callSir C (As := [.int a, .int b]) (rest := [.int (bI (mIsH f h)), .ref (ad 73)]) (m_X7_isPrice l D cI cC cZ cB cJ ad N G a b) gX7_price_X7_isPrice rfl kd_X7_isPrice rfl rfl ⟨Nat.le_of_ble_eq_true rfl, Nat.le_of_ble_eq_true rfl⟩ rfl rfl (Nat.le_of_ble_eq_true rfl) ⟨Nat.zero_le _, Nat.zero_le _⟩ dX7_price_8 ?_
  have jn31 : kJ p l e rX7_price s m args below meth c 0 0 Q 4 D ad N A G 31 [(0, .ref (ad 73)), (1, .int h), (2, .int a), (3, .int b)] [.int (bI (mRuns f h && mOpen f)), .int (bI (mPriceOk a b)), .int (bI (mIsH f h)), .ref (ad 73)] := by
    refine k_callVi C (As := [.int (bI (mIsH f h)), .int (bI (mPriceOk a b)), .int (bI (mRuns f h && mOpen f))]) (rest := []) 73 (m_X7_goes l D cI cC cZ cB cJ ad N G f kp tx fi gr st ty th at0 re nh nb nl (mIsH f h) (mPriceOk a b) (mRuns f h && mOpen f) (by omega) ⟨hM.1, hM.2.1, hM.2.2.1, hM.2.2.2.1, hM.2.2.2.2.1, hM.2.2.2.2.2⟩ ) gX7_price_X7_goes rfl kd_X7_goes rfl rfl ⟨Nat.le_of_ble_eq_true rfl, Nat.le_of_ble_eq_true rfl⟩ (by omega) hM.1 rfl rfl rfl (Nat.le_of_ble_eq_true rfl) ⟨Nat.zero_le _, Nat.zero_le _⟩ dX7_price_31 (fun r_31 G1 hG1 => ?_)
    obtain ⟨e_r_31, hM_G1, hf_G1⟩ := hG1
    subst e_r_31
    refine k_if_ne C 39 dX7_price_34 (by decide) (fun c_34 => ?_) (fun c_34 => ?_)
    · skip
      have c_34 := bI_t c_34
      have hT := of_decide_eq_true c_34
      obtain ⟨hA1, hA2, hA3⟩ := mTh_0 hT
      have hj := vN_of hH hA1
      refine k_aload_n C dX7_price_39 rfl (j := 0) rfl ?_
      refine k_callVv C (As := []) (rest := []) 73 (m_X7_saves l D cI cC cZ cB cJ ad N G1 f kp tx fi gr st ty (mTh ((mIsH f h)) ((mPriceOk a b)) ((mRuns f h && mOpen f))) at0 re nh nb nl (by omega) ⟨hM_G1.1, hM_G1.2.1, hM_G1.2.2.1, hM_G1.2.2.2.1, hM_G1.2.2.2.2.1, hM_G1.2.2.2.2.2⟩ hS0 ) gX7_price_X7_saves rfl kd_X7_saves rfl rfl ⟨Nat.le_of_ble_eq_true rfl, Nat.le_of_ble_eq_true rfl⟩ (by omega) hM_G1.1 rfl rfl rfl (Nat.le_of_ble_eq_true rfl) ⟨Nat.zero_le _, Nat.zero_le _⟩ dX7_price_40 (fun G2 hG2 => ?_)
      obtain ⟨hM_G2, hf_G2⟩ := hG2
      refine k_aload_n C dX7_price_43 rfl (j := 0) rfl ?_
      refine k_get C 73 inX7_price_7 (by omega) hM_G2.1 rfl 0 (by decide) (List.mem_of_getElem? (i := 1) rfl) rfl rfl dX7_price_44 ?_
      refine k_bipush C (v := 6) dX7_price_47 (by decide) ?_
      refine k_iload_n C dX7_price_49 rfl (j := 1) rfl ?_
      refine k_iadd C dX7_price_50 ?_
      refine k_iload_n C dX7_price_51 rfl (j := 2) rfl ?_
      refine k_iastN C 74 0 (by omega) hM_G2.2.1 rfl (6 + (vN h)) (knAdd rfl hj.1) (by omega) (Nat.le_of_ble_eq_true rfl) dX7_price_52 (fun G3 hG3 => ?_)
      have h_73_G3 : G3 73 = .inr (7, [.ref (ad 74), .int (nI (mSt st)), .ref (ad 75), .int (mTh ((mIsH f h)) ((mPriceOk a b)) ((mRuns f h && mOpen f))), .ref (ad 76), .int (nI ty), .int at0, .ref (ad 77), .ref (ad 78), .int re]) := up_at hG3 hM_G2.1 (by omega)
      have h_75_G3 : G3 75 = .inl (cZ, 2, .inl kp) := up_at hG3 hM_G2.2.2.1 (by omega)
      have h_76_G3 : G3 76 = .inl (cC, 30, .inl tx) := up_at hG3 hM_G2.2.2.2.1 (by omega)
      have h_77_G3 : G3 77 = .inl (cI, 10, .inl fi) := up_at hG3 hM_G2.2.2.2.2.1 (by omega)
      have h_78_G3 : G3 78 = .inl (cI, 10, .inl gr) := up_at hG3 hM_G2.2.2.2.2.2 (by omega)
      have h_74_G3 : G3 74 = .inl (cI, 2610, .inl (upd (mSave f st) (6 + (vN h)) a)) := up_it hG3
      refine k_aload_n C dX7_price_53 rfl (j := 0) rfl ?_
      refine k_get C 73 inX7_price_7 (by omega) h_73_G3 rfl 0 (by decide) (List.mem_of_getElem? (i := 1) rfl) rfl rfl dX7_price_54 ?_
      refine k_bipush C (v := 16) dX7_price_57 (by decide) ?_
      refine k_iload_n C dX7_price_59 rfl (j := 1) rfl ?_
      refine k_iadd C dX7_price_60 ?_
      refine k_iload_n C dX7_price_61 rfl (j := 3) rfl ?_
      refine k_iastN C 74 0 (by omega) h_74_G3 rfl (16 + (vN h)) (knAdd rfl hj.1) (by omega) (Nat.le_of_ble_eq_true rfl) dX7_price_62 (fun G4 hG4 => ?_)
      have h_73_G4 : G4 73 = .inr (7, [.ref (ad 74), .int (nI (mSt st)), .ref (ad 75), .int (mTh ((mIsH f h)) ((mPriceOk a b)) ((mRuns f h && mOpen f))), .ref (ad 76), .int (nI ty), .int at0, .ref (ad 77), .ref (ad 78), .int re]) := up_at hG4 h_73_G3 (by omega)
      have h_75_G4 : G4 75 = .inl (cZ, 2, .inl kp) := up_at hG4 h_75_G3 (by omega)
      have h_76_G4 : G4 76 = .inl (cC, 30, .inl tx) := up_at hG4 h_76_G3 (by omega)
      have h_77_G4 : G4 77 = .inl (cI, 10, .inl fi) := up_at hG4 h_77_G3 (by omega)
      have h_78_G4 : G4 78 = .inl (cI, 10, .inl gr) := up_at hG4 h_78_G3 (by omega)
      have h_74_G4 : G4 74 = .inl (cI, 2610, .inl (upd (upd (mSave f st) (6 + (vN h)) a) (16 + (vN h)) b)) := up_it hG4
      refine k_aload_n C dX7_price_63 rfl (j := 0) rfl ?_
      refine k_iload_n C dX7_price_64 rfl (j := 1) rfl ?_
      refine k_callVir C (As := [.int h]) (rest := []) 73 (m_X7_betsOn l D cI cC cZ cB cJ ad N G4 (upd (upd (mSave f st) (6 + (vN h)) a) (16 + (vN h)) b) kp tx fi gr (mSt st) ty (mTh ((mIsH f h)) ((mPriceOk a b)) ((mRuns f h && mOpen f))) at0 re nh nb nl h (by omega) ⟨h_73_G4, h_74_G4, h_75_G4, h_76_G4, h_77_G4, h_78_G4⟩ ⟨(by (repeat rw [pk_un (by omega)]); exact (mSave_low f st (by decide)).trans hB.1), hB.2⟩ ) gX7_price_X7_betsOn rfl kd_X7_betsOn rfl rfl ⟨Nat.le_of_ble_eq_true rfl, Nat.le_of_ble_eq_true rfl⟩ (by omega) h_73_G4 rfl rfl rfl (Nat.le_of_ble_eq_true rfl) ⟨Nat.zero_le _, Nat.zero_le _⟩ dX7_price_65 ?_
      exact k_iret C hQ rfl rfl dX7_price_68 ⟨fun _ => ⟨rfl, ⟨h_73_G4, h_74_G4, h_75_G4, h_76_G4, h_77_G4, h_78_G4⟩⟩, fun h9 => absurd hT h9, fun j hj => (show _ = _ from by rw [hG4, up_ne (by omega)]).trans ((show _ = _ from by rw [hG3, up_ne (by omega)]).trans ((hf_G2 j hj : _).trans (hf_G1 j hj)))⟩
    · skip
      have c_34 := bI_f c_34
      have hT := of_decide_eq_false c_34
      refine k_iconst C (v := 0) dX7_price_37 (by decide) ?_
      exact k_iret C hQ rfl rfl dX7_price_38 ⟨fun h9 => absurd h9 hT, fun _ => ⟨rfl, ⟨hM_G1.1, hM_G1.2.1, hM_G1.2.2.1, hM_G1.2.2.2.1, hM_G1.2.2.2.2.1, hM_G1.2.2.2.2.2⟩⟩, fun j hj => hf_G1 j hj⟩
  refine k_aload_n C dX7_price_11 rfl (j := 0) rfl ?_
  refine k_iload_n C dX7_price_12 rfl (j := 1) rfl ?_
  refine k_callVir C (As := [.int h]) (rest := [.int (bI (mPriceOk a b)), .int (bI (mIsH f h)), .ref (ad 73)]) 73 (m_X7_runs l D cI cC cZ cB cJ ad N G f kp tx fi gr st ty th at0 re nh nb nl h (by omega) ⟨hM.1, hM.2.1, hM.2.2.1, hM.2.2.2.1, hM.2.2.2.2.1, hM.2.2.2.2.2⟩ hH ) gX7_price_X7_runs rfl kd_X7_runs rfl rfl ⟨Nat.le_of_ble_eq_true rfl, Nat.le_of_ble_eq_true rfl⟩ (by omega) hM.1 rfl rfl rfl (Nat.le_of_ble_eq_true rfl) ⟨Nat.zero_le _, Nat.zero_le _⟩ dX7_price_13 ?_
  refine k_if_eq C 30 dX7_price_16 (by decide) (fun c_16 => ?_) (fun c_16 => ?_)
  · skip
    have c_16 := bI_f c_16
    refine k_iconst C (v := 0) dX7_price_30 (by decide) ?_
    refine k_congS (st' := [.int (bI (mRuns f h && mOpen f)), .int (bI (mPriceOk a b)), .int (bI (mIsH f h)), .ref (ad 73)]) (congrArg (fun (z9 : Int32) => ([.int z9, .int (bI (mPriceOk a b)), .int (bI (mIsH f h)), .ref (ad 73)] : List Value)) (show (0 : Int32) = bI (mRuns f h && mOpen f) from by simp [bI, c_16])) ?_
    exact jn31
  · skip
    have c_16 := bI_t c_16
    refine k_aload_n C dX7_price_19 rfl (j := 0) rfl ?_
    refine k_callVir C (As := []) (rest := [.int (bI (mPriceOk a b)), .int (bI (mIsH f h)), .ref (ad 73)]) 73 (m_X7_isOpen l D cI cC cZ cB cJ ad N G f kp tx fi gr st ty th at0 re nh nb nl (by omega) ⟨hM.1, hM.2.1, hM.2.2.1, hM.2.2.2.1, hM.2.2.2.2.1, hM.2.2.2.2.2⟩ ) gX7_price_X7_isOpen rfl kd_X7_isOpen rfl rfl ⟨Nat.le_of_ble_eq_true rfl, Nat.le_of_ble_eq_true rfl⟩ (by omega) hM.1 rfl rfl rfl (Nat.le_of_ble_eq_true rfl) ⟨Nat.zero_le _, Nat.zero_le _⟩ dX7_price_20 ?_
    refine k_if_eq C 30 dX7_price_23 (by decide) (fun c_23 => ?_) (fun c_23 => ?_)
    · skip
      have c_23 := bI_f c_23
      refine k_iconst C (v := 0) dX7_price_30 (by decide) ?_
      refine k_congS (st' := [.int (bI (mRuns f h && mOpen f)), .int (bI (mPriceOk a b)), .int (bI (mIsH f h)), .ref (ad 73)]) (congrArg (fun (z9 : Int32) => ([.int z9, .int (bI (mPriceOk a b)), .int (bI (mIsH f h)), .ref (ad 73)] : List Value)) (show (0 : Int32) = bI (mRuns f h && mOpen f) from by simp [bI, c_16, c_23])) ?_
      exact jn31
    · skip
      have c_23 := bI_t c_23
      refine k_iconst C (v := 1) dX7_price_26 (by decide) ?_
      refine k_goto C 31 dX7_price_27 (by decide) ?_
      refine k_congS (st' := [.int (bI (mRuns f h && mOpen f)), .int (bI (mPriceOk a b)), .int (bI (mIsH f h)), .ref (ad 73)]) (congrArg (fun (z9 : Int32) => ([.int z9, .int (bI (mPriceOk a b)), .int (bI (mIsH f h)), .ref (ad 73)] : List Value)) (show (1 : Int32) = bI (mRuns f h && mOpen f) from by simp [bI, c_16, c_23])) ?_
      exact jn31
theorem inX7_take_7 : ∀ w ∈ wsX70, w ∈ wsX7_take := fun _ h => List.mem_cons_of_mem _ (List.mem_append_right _ h)
theorem kd_X7_take : yX7_take.cls = RX7 ∧ yX7_take.cls ≠ "java/lang/invoke/MethodHandle" ∧ yX7_take.cls ≠ "java/lang/invoke/VarHandle" ∧ (parseMethodDescriptor yX7_take.desc).map (fun d => d.parameters.length) = some 3 := by decide +kernel
abbrev rX7_take : Room := ({ frames := 3, cells := 0, slots := 0, locals := 64 } : Room)
set_option maxRecDepth 100000 in
set_option maxHeartbeats 4000000 in
/-- model: take -/
theorem m_X7_take (l : Launch) (D : va_G) (cI cC cZ cB cJ : ClassId) (ad : Nat → Nat) (N : Nat) (G : Nat → va_E) (f kp tx fi gr : Nat → Int32) (st ty : Nat) (th at0 re : Int32) (nh nb nl : Nat) (h y : Int32) (w : Bool) (hN : 79 ≤ N) (hM : isMo ad cI cC cZ G f kp tx fi gr st ty th at0 re) (hH : f 0 = nI nh ∧ nh ≤ 10) (hB : f 1 = nI nb ∧ nb ≤ 24) (hS0 : st ≤ 6) : kMi l yX7_take wsX7_take rX7_take D (kT5 cI cC cZ cB cJ) ad N G [.ref (ad 73), .int h, .int y, .int (bI w)] (fun r G' => (mTh (mIsH f h) (mIn y 1 9999) (mRuns f h && (!(decide (24 ≤ f 1)) && mOpen f)) = 0 → r = (nI nb) ∧ isMo ad cI cC cZ G' (mTk (mSave f st) nb h y (bI w) (f (6 + vN h)) (f (16 + vN h))) kp tx fi gr (mSt st) ty (mTh (mIsH f h) (mIn y 1 9999) (mRuns f h && (!(decide (24 ≤ f 1)) && mOpen f))) at0 re) ∧ (¬ mTh (mIsH f h) (mIn y 1 9999) (mRuns f h && (!(decide (24 ≤ f 1)) && mOpen f)) = 0 → r = 0 ∧ isMo ad cI cC cZ G' f kp tx fi gr st ty (mTh (mIsH f h) (mIn y 1 9999) (mRuns f h && (!(decide (24 ≤ f 1)) && mOpen f))) at0 re) ∧ ∀ j, (j < 73 ∨ 79 ≤ j) → G' j = G j) := by
  refine k_starti (cc := cX7_take) (ret := (some .int)) (maxL := 5) (lv0 := [(0, .ref (ad 73)), (1, .int h), (2, .int y), (3, .int (bI w))]) (by decide) rfl (Nat.le_of_ble_eq_true rfl) rfl ?_
  intro p e s m args below meth c A Q C hQ
  have hn := hH.2
  refine k_aload_n C dX7_take_0 rfl (j := 0) rfl ?_
  refine k_aload_n C dX7_take_1 rfl (j := 0) rfl ?_
  refine k_iload_n C dX7_take_2 rfl (j := 1) rfl ?_
  refine k_callVir C (As := [.int h]) (rest := [.ref (ad 73)]) 73 (m_X7_isHorse l D cI cC cZ cB cJ ad N G f kp tx fi gr st ty th at0 re nh nb nl h (by omega) ⟨hM.1, hM.2.1, hM.2.2.1, hM.2.2.2.1, hM.2.2.2.2.1, hM.2.2.2.2.2⟩ ) gX7_take_X7_isHorse rfl kd_X7_isHorse rfl rfl ⟨Nat.le_of_ble_eq_true rfl, Nat.le_of_ble_eq_true rfl⟩ (by omega) hM.1 rfl rfl rfl (Nat.le_of_ble_eq_true rfl) ⟨Nat.zero_le _, Nat.zero_le _⟩ dX7_take_3 ?_
  refine k_iload_n C dX7_take_6 rfl (j := 2) rfl ?_
  refine k_iconst C (v := 1) dX7_take_7 (by decide) ?_
  refine k_sipush C (v := 9999) dX7_take_8 (by decide) ?_
  refine k_callSir C (As := [.int y, .int 1, .int 9999]) (rest := [.int (bI (mIsH f h)), .ref (ad 73)]) (m_X7_in l D cI cC cZ cB cJ ad N G y 1 9999) gX7_take_X7_in rfl kd_X7_in rfl rfl ⟨Nat.le_of_ble_eq_true rfl, Nat.le_of_ble_eq_true rfl⟩ rfl rfl (Nat.le_of_ble_eq_true rfl) ⟨Nat.zero_le _, Nat.zero_le _⟩ dX7_take_11 ?_
  have jn45 : kJ p l e rX7_take s m args below meth c 0 0 Q 5 D ad N A G 45 [(0, .ref (ad 73)), (1, .int h), (2, .int y), (3, .int (bI w))] [.int (bI (mRuns f h && (!(decide (24 ≤ f 1)) && mOpen f))), .int (bI (mIn y 1 9999)), .int (bI (mIsH f h)), .ref (ad 73)] := by
    refine k_callVi C (As := [.int (bI (mIsH f h)), .int (bI (mIn y 1 9999)), .int (bI (mRuns f h && (!(decide (24 ≤ f 1)) && mOpen f)))]) (rest := []) 73 (m_X7_goes l D cI cC cZ cB cJ ad N G f kp tx fi gr st ty th at0 re nh nb nl (mIsH f h) (mIn y 1 9999) (mRuns f h && (!(decide (24 ≤ f 1)) && mOpen f)) (by omega) ⟨hM.1, hM.2.1, hM.2.2.1, hM.2.2.2.1, hM.2.2.2.2.1, hM.2.2.2.2.2⟩ ) gX7_take_X7_goes rfl kd_X7_goes rfl rfl ⟨Nat.le_of_ble_eq_true rfl, Nat.le_of_ble_eq_true rfl⟩ (by omega) hM.1 rfl rfl rfl (Nat.le_of_ble_eq_true rfl) ⟨Nat.zero_le _, Nat.zero_le _⟩ dX7_take_45 (fun r_45 G1 hG1 => ?_)
    obtain ⟨e_r_45, hM_G1, hf_G1⟩ := hG1
    subst e_r_45
    refine k_if_ne C 53 dX7_take_48 (by decide) (fun c_48 => ?_) (fun c_48 => ?_)
    · skip
      have c_48 := bI_t c_48
      have hT := of_decide_eq_true c_48
      obtain ⟨hA1, hA2, hA3⟩ := mTh_0 hT
      have hj := vN_of hH hA1
      simp only [Bool.and_eq_true] at hA3
      have hlt : nb < 24 := m_room (k := 24) hB.1 (by decide) (by have := hB.2; omega) hA3.2.1
      refine k_aload_n C dX7_take_53 rfl (j := 0) rfl ?_
      refine k_callVv C (As := []) (rest := []) 73 (m_X7_saves l D cI cC cZ cB cJ ad N G1 f kp tx fi gr st ty (mTh ((mIsH f h)) ((mIn y 1 9999)) ((mRuns f h && (!(decide (24 ≤ f 1)) && mOpen f)))) at0 re nh nb nl (by omega) ⟨hM_G1.1, hM_G1.2.1, hM_G1.2.2.1, hM_G1.2.2.2.1, hM_G1.2.2.2.2.1, hM_G1.2.2.2.2.2⟩ hS0 ) gX7_take_X7_saves rfl kd_X7_saves rfl rfl ⟨Nat.le_of_ble_eq_true rfl, Nat.le_of_ble_eq_true rfl⟩ (by omega) hM_G1.1 rfl rfl rfl (Nat.le_of_ble_eq_true rfl) ⟨Nat.zero_le _, Nat.zero_le _⟩ dX7_take_54 (fun G2 hG2 => ?_)
      obtain ⟨hM_G2, hf_G2⟩ := hG2
      refine k_aload_n C dX7_take_57 rfl (j := 0) rfl ?_
      refine k_get C 73 inX7_take_7 (by omega) hM_G2.1 rfl 0 (by decide) (List.mem_of_getElem? (i := 1) rfl) rfl rfl dX7_take_58 ?_
      refine k_iconst C (v := 1) dX7_take_61 (by decide) ?_
      refine k_ialdN C 74 0 (by omega) hM_G2.2.1 rfl 1 rfl (by omega) (Nat.le_of_ble_eq_true rfl) dX7_take_62 ?_
      refine k_istore C (lv' := [(4, .int ((mSave f st) 1)), (0, .ref (ad 73)), (1, .int h), (2, .int y), (3, .int (bI w))]) dX7_take_63 (by decide) rfl ?_
      refine k_cong (lv' := [(4, .int (nI nb)), (0, .ref (ad 73)), (1, .int h), (2, .int y), (3, .int (bI w))]) (congrArg (fun (z9 : Int32) => ([(4, .int z9), (0, .ref (ad 73)), (1, .int h), (2, .int y), (3, .int (bI w))] : List (Nat × Value))) (show ((mSave f st) 1 : Int32) = nI nb from (mSave_low f st (by decide)).trans hB.1)) ?_
      refine k_aload_n C dX7_take_65 rfl (j := 1) rfl ?_
      refine k_get C 73 inX7_take_7 (by omega) hM_G2.1 rfl 0 (by decide) (List.mem_of_getElem? (i := 1) rfl) rfl rfl dX7_take_66 ?_
      refine k_iload C dX7_take_69 (j := 0) rfl ?_
      refine k_iconst C (v := 0) dX7_take_71 (by decide) ?_
      refine k_callSir C (As := [.int (nI nb), .int 0]) (rest := [.ref (ad 74)]) (m_X7_of l D cI cC cZ cB cJ ad N G2 (nI nb) 0) gX7_take_X7_of rfl kd_X7_of rfl rfl ⟨Nat.le_of_ble_eq_true rfl, Nat.le_of_ble_eq_true rfl⟩ rfl rfl (Nat.le_of_ble_eq_true rfl) ⟨Nat.zero_le _, Nat.zero_le _⟩ dX7_take_72 ?_
      refine k_iload_n C dX7_take_75 rfl (j := 2) rfl ?_
      refine k_iastN C 74 0 (by omega) hM_G2.2.1 rfl ((66 + (8 * nb)) + 0) (knAdd (knAdd rfl (knMul rfl rfl)) rfl) (by omega) (Nat.le_of_ble_eq_true rfl) dX7_take_76 (fun G3 hG3 => ?_)
      have h_73_G3 : G3 73 = .inr (7, [.ref (ad 74), .int (nI (mSt st)), .ref (ad 75), .int (mTh ((mIsH f h)) ((mIn y 1 9999)) ((mRuns f h && (!(decide (24 ≤ f 1)) && mOpen f)))), .ref (ad 76), .int (nI ty), .int at0, .ref (ad 77), .ref (ad 78), .int re]) := up_at hG3 hM_G2.1 (by omega)
      have h_75_G3 : G3 75 = .inl (cZ, 2, .inl kp) := up_at hG3 hM_G2.2.2.1 (by omega)
      have h_76_G3 : G3 76 = .inl (cC, 30, .inl tx) := up_at hG3 hM_G2.2.2.2.1 (by omega)
      have h_77_G3 : G3 77 = .inl (cI, 10, .inl fi) := up_at hG3 hM_G2.2.2.2.2.1 (by omega)
      have h_78_G3 : G3 78 = .inl (cI, 10, .inl gr) := up_at hG3 hM_G2.2.2.2.2.2 (by omega)
      have h_74_G3 : G3 74 = .inl (cI, 2610, .inl (upd (mSave f st) ((66 + (8 * nb)) + 0) h)) := up_it hG3
      refine k_aload_n C dX7_take_77 rfl (j := 1) rfl ?_
      refine k_get C 73 inX7_take_7 (by omega) h_73_G3 rfl 0 (by decide) (List.mem_of_getElem? (i := 1) rfl) rfl rfl dX7_take_78 ?_
      refine k_iload C dX7_take_81 (j := 0) rfl ?_
      refine k_iconst C (v := 1) dX7_take_83 (by decide) ?_
      refine k_callSir C (As := [.int (nI nb), .int 1]) (rest := [.ref (ad 74)]) (m_X7_of l D cI cC cZ cB cJ ad N G3 (nI nb) 1) gX7_take_X7_of rfl kd_X7_of rfl rfl ⟨Nat.le_of_ble_eq_true rfl, Nat.le_of_ble_eq_true rfl⟩ rfl rfl (Nat.le_of_ble_eq_true rfl) ⟨Nat.zero_le _, Nat.zero_le _⟩ dX7_take_84 ?_
      refine k_iload_n C dX7_take_87 rfl (j := 3) rfl ?_
      refine k_iastN C 74 0 (by omega) h_74_G3 rfl ((66 + (8 * nb)) + 1) (knAdd (knAdd rfl (knMul rfl rfl)) rfl) (by omega) (Nat.le_of_ble_eq_true rfl) dX7_take_88 (fun G4 hG4 => ?_)
      have h_73_G4 : G4 73 = .inr (7, [.ref (ad 74), .int (nI (mSt st)), .ref (ad 75), .int (mTh ((mIsH f h)) ((mIn y 1 9999)) ((mRuns f h && (!(decide (24 ≤ f 1)) && mOpen f)))), .ref (ad 76), .int (nI ty), .int at0, .ref (ad 77), .ref (ad 78), .int re]) := up_at hG4 h_73_G3 (by omega)
      have h_75_G4 : G4 75 = .inl (cZ, 2, .inl kp) := up_at hG4 h_75_G3 (by omega)
      have h_76_G4 : G4 76 = .inl (cC, 30, .inl tx) := up_at hG4 h_76_G3 (by omega)
      have h_77_G4 : G4 77 = .inl (cI, 10, .inl fi) := up_at hG4 h_77_G3 (by omega)
      have h_78_G4 : G4 78 = .inl (cI, 10, .inl gr) := up_at hG4 h_78_G3 (by omega)
      have h_74_G4 : G4 74 = .inl (cI, 2610, .inl (upd (upd (mSave f st) ((66 + (8 * nb)) + 0) h) ((66 + (8 * nb)) + 1) y)) := up_it hG4
      refine k_aload_n C dX7_take_89 rfl (j := 1) rfl ?_
      refine k_get C 73 inX7_take_7 (by omega) h_73_G4 rfl 0 (by decide) (List.mem_of_getElem? (i := 1) rfl) rfl rfl dX7_take_90 ?_
      refine k_iload C dX7_take_93 (j := 0) rfl ?_
      refine k_iconst C (v := 2) dX7_take_95 (by decide) ?_
      refine k_callSir C (As := [.int (nI nb), .int 2]) (rest := [.ref (ad 74)]) (m_X7_of l D cI cC cZ cB cJ ad N G4 (nI nb) 2) gX7_take_X7_of rfl kd_X7_of rfl rfl ⟨Nat.le_of_ble_eq_true rfl, Nat.le_of_ble_eq_true rfl⟩ rfl rfl (Nat.le_of_ble_eq_true rfl) ⟨Nat.zero_le _, Nat.zero_le _⟩ dX7_take_96 ?_
      have jn108 : kJ p l e rX7_take s m args below meth c 0 0 Q 5 D ad N A G4 108 [(4, .int (nI nb)), (0, .ref (ad 73)), (1, .int h), (2, .int y), (3, .int (bI w))] [.int (bI w), .int (66 + 8 * (nI nb) + 2), .ref (ad 74)] := by
        refine k_iastN C 74 0 (by omega) h_74_G4 rfl ((66 + (8 * nb)) + 2) (knAdd (knAdd rfl (knMul rfl rfl)) rfl) (by omega) (Nat.le_of_ble_eq_true rfl) dX7_take_108 (fun G5 hG5 => ?_)
        have h_73_G5 : G5 73 = .inr (7, [.ref (ad 74), .int (nI (mSt st)), .ref (ad 75), .int (mTh ((mIsH f h)) ((mIn y 1 9999)) ((mRuns f h && (!(decide (24 ≤ f 1)) && mOpen f)))), .ref (ad 76), .int (nI ty), .int at0, .ref (ad 77), .ref (ad 78), .int re]) := up_at hG5 h_73_G4 (by omega)
        have h_75_G5 : G5 75 = .inl (cZ, 2, .inl kp) := up_at hG5 h_75_G4 (by omega)
        have h_76_G5 : G5 76 = .inl (cC, 30, .inl tx) := up_at hG5 h_76_G4 (by omega)
        have h_77_G5 : G5 77 = .inl (cI, 10, .inl fi) := up_at hG5 h_77_G4 (by omega)
        have h_78_G5 : G5 78 = .inl (cI, 10, .inl gr) := up_at hG5 h_78_G4 (by omega)
        have h_74_G5 : G5 74 = .inl (cI, 2610, .inl (upd (upd (upd (mSave f st) ((66 + (8 * nb)) + 0) h) ((66 + (8 * nb)) + 1) y) ((66 + (8 * nb)) + 2) (bI w))) := up_it hG5
        refine k_aload_n C dX7_take_109 rfl (j := 1) rfl ?_
        refine k_get C 73 inX7_take_7 (by omega) h_73_G5 rfl 0 (by decide) (List.mem_of_getElem? (i := 1) rfl) rfl rfl dX7_take_110 ?_
        refine k_iload C dX7_take_113 (j := 0) rfl ?_
        refine k_iconst C (v := 3) dX7_take_115 (by decide) ?_
        refine k_callSir C (As := [.int (nI nb), .int 3]) (rest := [.ref (ad 74)]) (m_X7_of l D cI cC cZ cB cJ ad N G5 (nI nb) 3) gX7_take_X7_of rfl kd_X7_of rfl rfl ⟨Nat.le_of_ble_eq_true rfl, Nat.le_of_ble_eq_true rfl⟩ rfl rfl (Nat.le_of_ble_eq_true rfl) ⟨Nat.zero_le _, Nat.zero_le _⟩ dX7_take_116 ?_
        refine k_aload_n C dX7_take_119 rfl (j := 1) rfl ?_
        refine k_get C 73 inX7_take_7 (by omega) h_73_G5 rfl 0 (by decide) (List.mem_of_getElem? (i := 1) rfl) rfl rfl dX7_take_120 ?_
        refine k_bipush C (v := 6) dX7_take_123 (by decide) ?_
        refine k_iload_n C dX7_take_125 rfl (j := 2) rfl ?_
        refine k_iadd C dX7_take_126 ?_
        refine k_ialdN C 74 0 (by omega) h_74_G5 rfl (6 + (vN h)) (knAdd rfl hj.1) (by omega) (Nat.le_of_ble_eq_true rfl) dX7_take_127 ?_
        refine k_congS (st' := [.int (f (6 + vN h)), .int (66 + 8 * (nI nb) + 3), .ref (ad 74)]) (congrArg (fun (z9 : Int32) => ([.int z9, .int (66 + 8 * (nI nb) + 3), .ref (ad 74)] : List Value)) (show ((upd (upd (upd (mSave f st) ((66 + (8 * nb)) + 0) h) ((66 + (8 * nb)) + 1) y) ((66 + (8 * nb)) + 2) (bI w)) (6 + (vN h)) : Int32) = f (6 + vN h) from by (repeat rw [pk_un (by omega)]); rw [mSave_low f st (by omega)])) ?_
        refine k_iastN C 74 0 (by omega) h_74_G5 rfl ((66 + (8 * nb)) + 3) (knAdd (knAdd rfl (knMul rfl rfl)) rfl) (by omega) (Nat.le_of_ble_eq_true rfl) dX7_take_128 (fun G6 hG6 => ?_)
        have h_73_G6 : G6 73 = .inr (7, [.ref (ad 74), .int (nI (mSt st)), .ref (ad 75), .int (mTh ((mIsH f h)) ((mIn y 1 9999)) ((mRuns f h && (!(decide (24 ≤ f 1)) && mOpen f)))), .ref (ad 76), .int (nI ty), .int at0, .ref (ad 77), .ref (ad 78), .int re]) := up_at hG6 h_73_G5 (by omega)
        have h_75_G6 : G6 75 = .inl (cZ, 2, .inl kp) := up_at hG6 h_75_G5 (by omega)
        have h_76_G6 : G6 76 = .inl (cC, 30, .inl tx) := up_at hG6 h_76_G5 (by omega)
        have h_77_G6 : G6 77 = .inl (cI, 10, .inl fi) := up_at hG6 h_77_G5 (by omega)
        have h_78_G6 : G6 78 = .inl (cI, 10, .inl gr) := up_at hG6 h_78_G5 (by omega)
        have h_74_G6 : G6 74 = .inl (cI, 2610, .inl (upd (upd (upd (upd (mSave f st) ((66 + (8 * nb)) + 0) h) ((66 + (8 * nb)) + 1) y) ((66 + (8 * nb)) + 2) (bI w)) ((66 + (8 * nb)) + 3) (f (6 + vN h)))) := up_it hG6
        refine k_aload_n C dX7_take_129 rfl (j := 1) rfl ?_
        refine k_get C 73 inX7_take_7 (by omega) h_73_G6 rfl 0 (by decide) (List.mem_of_getElem? (i := 1) rfl) rfl rfl dX7_take_130 ?_
        refine k_iload C dX7_take_133 (j := 0) rfl ?_
        refine k_iconst C (v := 4) dX7_take_135 (by decide) ?_
        refine k_callSir C (As := [.int (nI nb), .int 4]) (rest := [.ref (ad 74)]) (m_X7_of l D cI cC cZ cB cJ ad N G6 (nI nb) 4) gX7_take_X7_of rfl kd_X7_of rfl rfl ⟨Nat.le_of_ble_eq_true rfl, Nat.le_of_ble_eq_true rfl⟩ rfl rfl (Nat.le_of_ble_eq_true rfl) ⟨Nat.zero_le _, Nat.zero_le _⟩ dX7_take_136 ?_
        refine k_aload_n C dX7_take_139 rfl (j := 1) rfl ?_
        refine k_get C 73 inX7_take_7 (by omega) h_73_G6 rfl 0 (by decide) (List.mem_of_getElem? (i := 1) rfl) rfl rfl dX7_take_140 ?_
        refine k_bipush C (v := 16) dX7_take_143 (by decide) ?_
        refine k_iload_n C dX7_take_145 rfl (j := 2) rfl ?_
        refine k_iadd C dX7_take_146 ?_
        refine k_ialdN C 74 0 (by omega) h_74_G6 rfl (16 + (vN h)) (knAdd rfl hj.1) (by omega) (Nat.le_of_ble_eq_true rfl) dX7_take_147 ?_
        refine k_congS (st' := [.int (f (16 + vN h)), .int (66 + 8 * (nI nb) + 4), .ref (ad 74)]) (congrArg (fun (z9 : Int32) => ([.int z9, .int (66 + 8 * (nI nb) + 4), .ref (ad 74)] : List Value)) (show ((upd (upd (upd (upd (mSave f st) ((66 + (8 * nb)) + 0) h) ((66 + (8 * nb)) + 1) y) ((66 + (8 * nb)) + 2) (bI w)) ((66 + (8 * nb)) + 3) (f (6 + vN h))) (16 + (vN h)) : Int32) = f (16 + vN h) from by (repeat rw [pk_un (by omega)]); rw [mSave_low f st (by omega)])) ?_
        refine k_iastN C 74 0 (by omega) h_74_G6 rfl ((66 + (8 * nb)) + 4) (knAdd (knAdd rfl (knMul rfl rfl)) rfl) (by omega) (Nat.le_of_ble_eq_true rfl) dX7_take_148 (fun G7 hG7 => ?_)
        have h_73_G7 : G7 73 = .inr (7, [.ref (ad 74), .int (nI (mSt st)), .ref (ad 75), .int (mTh ((mIsH f h)) ((mIn y 1 9999)) ((mRuns f h && (!(decide (24 ≤ f 1)) && mOpen f)))), .ref (ad 76), .int (nI ty), .int at0, .ref (ad 77), .ref (ad 78), .int re]) := up_at hG7 h_73_G6 (by omega)
        have h_75_G7 : G7 75 = .inl (cZ, 2, .inl kp) := up_at hG7 h_75_G6 (by omega)
        have h_76_G7 : G7 76 = .inl (cC, 30, .inl tx) := up_at hG7 h_76_G6 (by omega)
        have h_77_G7 : G7 77 = .inl (cI, 10, .inl fi) := up_at hG7 h_77_G6 (by omega)
        have h_78_G7 : G7 78 = .inl (cI, 10, .inl gr) := up_at hG7 h_78_G6 (by omega)
        have h_74_G7 : G7 74 = .inl (cI, 2610, .inl (upd (upd (upd (upd (upd (mSave f st) ((66 + (8 * nb)) + 0) h) ((66 + (8 * nb)) + 1) y) ((66 + (8 * nb)) + 2) (bI w)) ((66 + (8 * nb)) + 3) (f (6 + vN h))) ((66 + (8 * nb)) + 4) (f (16 + vN h)))) := up_it hG7
        refine k_aload_n C dX7_take_149 rfl (j := 1) rfl ?_
        refine k_get C 73 inX7_take_7 (by omega) h_73_G7 rfl 0 (by decide) (List.mem_of_getElem? (i := 1) rfl) rfl rfl dX7_take_150 ?_
        refine k_iload C dX7_take_153 (j := 0) rfl ?_
        refine k_iconst C (v := 5) dX7_take_155 (by decide) ?_
        refine k_callSir C (As := [.int (nI nb), .int 5]) (rest := [.ref (ad 74)]) (m_X7_of l D cI cC cZ cB cJ ad N G7 (nI nb) 5) gX7_take_X7_of rfl kd_X7_of rfl rfl ⟨Nat.le_of_ble_eq_true rfl, Nat.le_of_ble_eq_true rfl⟩ rfl rfl (Nat.le_of_ble_eq_true rfl) ⟨Nat.zero_le _, Nat.zero_le _⟩ dX7_take_156 ?_
        refine k_iconst C (v := 0) dX7_take_159 (by decide) ?_
        refine k_iastN C 74 0 (by omega) h_74_G7 rfl ((66 + (8 * nb)) + 5) (knAdd (knAdd rfl (knMul rfl rfl)) rfl) (by omega) (Nat.le_of_ble_eq_true rfl) dX7_take_160 (fun G8 hG8 => ?_)
        have h_73_G8 : G8 73 = .inr (7, [.ref (ad 74), .int (nI (mSt st)), .ref (ad 75), .int (mTh ((mIsH f h)) ((mIn y 1 9999)) ((mRuns f h && (!(decide (24 ≤ f 1)) && mOpen f)))), .ref (ad 76), .int (nI ty), .int at0, .ref (ad 77), .ref (ad 78), .int re]) := up_at hG8 h_73_G7 (by omega)
        have h_75_G8 : G8 75 = .inl (cZ, 2, .inl kp) := up_at hG8 h_75_G7 (by omega)
        have h_76_G8 : G8 76 = .inl (cC, 30, .inl tx) := up_at hG8 h_76_G7 (by omega)
        have h_77_G8 : G8 77 = .inl (cI, 10, .inl fi) := up_at hG8 h_77_G7 (by omega)
        have h_78_G8 : G8 78 = .inl (cI, 10, .inl gr) := up_at hG8 h_78_G7 (by omega)
        have h_74_G8 : G8 74 = .inl (cI, 2610, .inl (upd (upd (upd (upd (upd (upd (mSave f st) ((66 + (8 * nb)) + 0) h) ((66 + (8 * nb)) + 1) y) ((66 + (8 * nb)) + 2) (bI w)) ((66 + (8 * nb)) + 3) (f (6 + vN h))) ((66 + (8 * nb)) + 4) (f (16 + vN h))) ((66 + (8 * nb)) + 5) 0)) := up_it hG8
        refine k_aload_n C dX7_take_161 rfl (j := 1) rfl ?_
        refine k_get C 73 inX7_take_7 (by omega) h_73_G8 rfl 0 (by decide) (List.mem_of_getElem? (i := 1) rfl) rfl rfl dX7_take_162 ?_
        refine k_iload C dX7_take_165 (j := 0) rfl ?_
        refine k_bipush C (v := 6) dX7_take_167 (by decide) ?_
        refine k_callSir C (As := [.int (nI nb), .int 6]) (rest := [.ref (ad 74)]) (m_X7_of l D cI cC cZ cB cJ ad N G8 (nI nb) 6) gX7_take_X7_of rfl kd_X7_of rfl rfl ⟨Nat.le_of_ble_eq_true rfl, Nat.le_of_ble_eq_true rfl⟩ rfl rfl (Nat.le_of_ble_eq_true rfl) ⟨Nat.zero_le _, Nat.zero_le _⟩ dX7_take_169 ?_
        refine k_iconst C (v := (-1)) dX7_take_172 (by decide) ?_
        refine k_iastN C 74 0 (by omega) h_74_G8 rfl ((66 + (8 * nb)) + 6) (knAdd (knAdd rfl (knMul rfl rfl)) rfl) (by omega) (Nat.le_of_ble_eq_true rfl) dX7_take_173 (fun G9 hG9 => ?_)
        have h_73_G9 : G9 73 = .inr (7, [.ref (ad 74), .int (nI (mSt st)), .ref (ad 75), .int (mTh ((mIsH f h)) ((mIn y 1 9999)) ((mRuns f h && (!(decide (24 ≤ f 1)) && mOpen f)))), .ref (ad 76), .int (nI ty), .int at0, .ref (ad 77), .ref (ad 78), .int re]) := up_at hG9 h_73_G8 (by omega)
        have h_75_G9 : G9 75 = .inl (cZ, 2, .inl kp) := up_at hG9 h_75_G8 (by omega)
        have h_76_G9 : G9 76 = .inl (cC, 30, .inl tx) := up_at hG9 h_76_G8 (by omega)
        have h_77_G9 : G9 77 = .inl (cI, 10, .inl fi) := up_at hG9 h_77_G8 (by omega)
        have h_78_G9 : G9 78 = .inl (cI, 10, .inl gr) := up_at hG9 h_78_G8 (by omega)
        have h_74_G9 : G9 74 = .inl (cI, 2610, .inl (upd (upd (upd (upd (upd (upd (upd (mSave f st) ((66 + (8 * nb)) + 0) h) ((66 + (8 * nb)) + 1) y) ((66 + (8 * nb)) + 2) (bI w)) ((66 + (8 * nb)) + 3) (f (6 + vN h))) ((66 + (8 * nb)) + 4) (f (16 + vN h))) ((66 + (8 * nb)) + 5) 0) ((66 + (8 * nb)) + 6) ((-1)))) := up_it hG9
        refine k_aload_n C dX7_take_174 rfl (j := 1) rfl ?_
        refine k_get C 73 inX7_take_7 (by omega) h_73_G9 rfl 0 (by decide) (List.mem_of_getElem? (i := 1) rfl) rfl rfl dX7_take_175 ?_
        refine k_iload C dX7_take_178 (j := 0) rfl ?_
        refine k_bipush C (v := 7) dX7_take_180 (by decide) ?_
        refine k_callSir C (As := [.int (nI nb), .int 7]) (rest := [.ref (ad 74)]) (m_X7_of l D cI cC cZ cB cJ ad N G9 (nI nb) 7) gX7_take_X7_of rfl kd_X7_of rfl rfl ⟨Nat.le_of_ble_eq_true rfl, Nat.le_of_ble_eq_true rfl⟩ rfl rfl (Nat.le_of_ble_eq_true rfl) ⟨Nat.zero_le _, Nat.zero_le _⟩ dX7_take_182 ?_
        refine k_iconst C (v := (-1)) dX7_take_185 (by decide) ?_
        refine k_iastN C 74 0 (by omega) h_74_G9 rfl ((66 + (8 * nb)) + 7) (knAdd (knAdd rfl (knMul rfl rfl)) rfl) (by omega) (Nat.le_of_ble_eq_true rfl) dX7_take_186 (fun G10 hG10 => ?_)
        have h_73_G10 : G10 73 = .inr (7, [.ref (ad 74), .int (nI (mSt st)), .ref (ad 75), .int (mTh ((mIsH f h)) ((mIn y 1 9999)) ((mRuns f h && (!(decide (24 ≤ f 1)) && mOpen f)))), .ref (ad 76), .int (nI ty), .int at0, .ref (ad 77), .ref (ad 78), .int re]) := up_at hG10 h_73_G9 (by omega)
        have h_75_G10 : G10 75 = .inl (cZ, 2, .inl kp) := up_at hG10 h_75_G9 (by omega)
        have h_76_G10 : G10 76 = .inl (cC, 30, .inl tx) := up_at hG10 h_76_G9 (by omega)
        have h_77_G10 : G10 77 = .inl (cI, 10, .inl fi) := up_at hG10 h_77_G9 (by omega)
        have h_78_G10 : G10 78 = .inl (cI, 10, .inl gr) := up_at hG10 h_78_G9 (by omega)
        have h_74_G10 : G10 74 = .inl (cI, 2610, .inl (upd (upd (upd (upd (upd (upd (upd (upd (mSave f st) ((66 + (8 * nb)) + 0) h) ((66 + (8 * nb)) + 1) y) ((66 + (8 * nb)) + 2) (bI w)) ((66 + (8 * nb)) + 3) (f (6 + vN h))) ((66 + (8 * nb)) + 4) (f (16 + vN h))) ((66 + (8 * nb)) + 5) 0) ((66 + (8 * nb)) + 6) ((-1))) ((66 + (8 * nb)) + 7) ((-1)))) := up_it hG10
        refine k_aload_n C dX7_take_187 rfl (j := 1) rfl ?_
        refine k_get C 73 inX7_take_7 (by omega) h_73_G10 rfl 0 (by decide) (List.mem_of_getElem? (i := 1) rfl) rfl rfl dX7_take_188 ?_
        refine k_iconst C (v := 1) dX7_take_191 (by decide) ?_
        refine k_dup2 C dX7_take_192 rfl rfl ?_
        refine k_ialdN C 74 0 (by omega) h_74_G10 rfl 1 rfl (by omega) (Nat.le_of_ble_eq_true rfl) dX7_take_193 ?_
        refine k_iconst C (v := 1) dX7_take_194 (by decide) ?_
        refine k_iadd C dX7_take_195 ?_
        refine k_congS (st' := [.int (nI (nb + 1)), .int 1, .ref (ad 74)]) (congrArg (fun (z9 : Int32) => ([.int z9, .int 1, .ref (ad 74)] : List Value)) (show (((upd (upd (upd (upd (upd (upd (upd (upd (mSave f st) ((66 + (8 * nb)) + 0) h) ((66 + (8 * nb)) + 1) y) ((66 + (8 * nb)) + 2) (bI w)) ((66 + (8 * nb)) + 3) (f (6 + vN h))) ((66 + (8 * nb)) + 4) (f (16 + vN h))) ((66 + (8 * nb)) + 5) 0) ((66 + (8 * nb)) + 6) ((-1))) ((66 + (8 * nb)) + 7) ((-1))) 1) + 1 : Int32) = nI (nb + 1) from by (repeat rw [pk_un (by omega)]); rw [mSave_low f st (by decide), hB.1, nI_1])) ?_
        refine k_iastN C 74 0 (by omega) h_74_G10 rfl 1 rfl (by omega) (Nat.le_of_ble_eq_true rfl) dX7_take_196 (fun G11 hG11 => ?_)
        have h_73_G11 : G11 73 = .inr (7, [.ref (ad 74), .int (nI (mSt st)), .ref (ad 75), .int (mTh ((mIsH f h)) ((mIn y 1 9999)) ((mRuns f h && (!(decide (24 ≤ f 1)) && mOpen f)))), .ref (ad 76), .int (nI ty), .int at0, .ref (ad 77), .ref (ad 78), .int re]) := up_at hG11 h_73_G10 (by omega)
        have h_75_G11 : G11 75 = .inl (cZ, 2, .inl kp) := up_at hG11 h_75_G10 (by omega)
        have h_76_G11 : G11 76 = .inl (cC, 30, .inl tx) := up_at hG11 h_76_G10 (by omega)
        have h_77_G11 : G11 77 = .inl (cI, 10, .inl fi) := up_at hG11 h_77_G10 (by omega)
        have h_78_G11 : G11 78 = .inl (cI, 10, .inl gr) := up_at hG11 h_78_G10 (by omega)
        have h_74_G11 : G11 74 = .inl (cI, 2610, .inl (upd (upd (upd (upd (upd (upd (upd (upd (upd (mSave f st) ((66 + (8 * nb)) + 0) h) ((66 + (8 * nb)) + 1) y) ((66 + (8 * nb)) + 2) (bI w)) ((66 + (8 * nb)) + 3) (f (6 + vN h))) ((66 + (8 * nb)) + 4) (f (16 + vN h))) ((66 + (8 * nb)) + 5) 0) ((66 + (8 * nb)) + 6) ((-1))) ((66 + (8 * nb)) + 7) ((-1))) 1 (nI (nb + 1)))) := up_it hG11
        refine k_iload C dX7_take_197 (j := 0) rfl ?_
        exact k_iret C hQ rfl rfl dX7_take_199 ⟨fun _ => ⟨rfl, ⟨h_73_G11, h_74_G11, h_75_G11, h_76_G11, h_77_G11, h_78_G11⟩⟩, fun h9 => absurd hT h9, fun j hj => (show _ = _ from by rw [hG11, up_ne (by omega)]).trans ((show _ = _ from by rw [hG10, up_ne (by omega)]).trans ((show _ = _ from by rw [hG9, up_ne (by omega)]).trans ((show _ = _ from by rw [hG8, up_ne (by omega)]).trans ((show _ = _ from by rw [hG7, up_ne (by omega)]).trans ((show _ = _ from by rw [hG6, up_ne (by omega)]).trans ((show _ = _ from by rw [hG5, up_ne (by omega)]).trans ((show _ = _ from by rw [hG4, up_ne (by omega)]).trans ((show _ = _ from by rw [hG3, up_ne (by omega)]).trans ((hf_G2 j hj : _).trans (hf_G1 j hj))))))))))⟩
      refine k_iload_n C dX7_take_99 rfl (j := 4) rfl ?_
      refine k_if_eq C 107 dX7_take_100 (by decide) (fun c_100 => ?_) (fun c_100 => ?_)
      · skip
        have c_100 := bI_f c_100
        refine k_iconst C (v := 0) dX7_take_107 (by decide) ?_
        refine k_congS (st' := [.int (bI w), .int (66 + 8 * (nI nb) + 2), .ref (ad 74)]) (congrArg (fun (z9 : Int32) => ([.int z9, .int (66 + 8 * (nI nb) + 2), .ref (ad 74)] : List Value)) (show (0 : Int32) = bI w from by simp [bI, c_100])) ?_
        exact jn108
      · skip
        have c_100 := bI_t c_100
        refine k_iconst C (v := 1) dX7_take_103 (by decide) ?_
        refine k_goto C 108 dX7_take_104 (by decide) ?_
        refine k_congS (st' := [.int (bI w), .int (66 + 8 * (nI nb) + 2), .ref (ad 74)]) (congrArg (fun (z9 : Int32) => ([.int z9, .int (66 + 8 * (nI nb) + 2), .ref (ad 74)] : List Value)) (show (1 : Int32) = bI w from by simp [bI, c_100])) ?_
        exact jn108
    · skip
      have c_48 := bI_f c_48
      have hT := of_decide_eq_false c_48
      refine k_iconst C (v := 0) dX7_take_51 (by decide) ?_
      exact k_iret C hQ rfl rfl dX7_take_52 ⟨fun h9 => absurd h9 hT, fun _ => ⟨rfl, ⟨hM_G1.1, hM_G1.2.1, hM_G1.2.2.1, hM_G1.2.2.2.1, hM_G1.2.2.2.2.1, hM_G1.2.2.2.2.2⟩⟩, fun j hj => hf_G1 j hj⟩
  refine k_aload_n C dX7_take_14 rfl (j := 0) rfl ?_
  refine k_iload_n C dX7_take_15 rfl (j := 1) rfl ?_
  refine k_callVir C (As := [.int h]) (rest := [.int (bI (mIn y 1 9999)), .int (bI (mIsH f h)), .ref (ad 73)]) 73 (m_X7_runs l D cI cC cZ cB cJ ad N G f kp tx fi gr st ty th at0 re nh nb nl h (by omega) ⟨hM.1, hM.2.1, hM.2.2.1, hM.2.2.2.1, hM.2.2.2.2.1, hM.2.2.2.2.2⟩ hH ) gX7_take_X7_runs rfl kd_X7_runs rfl rfl ⟨Nat.le_of_ble_eq_true rfl, Nat.le_of_ble_eq_true rfl⟩ (by omega) hM.1 rfl rfl rfl (Nat.le_of_ble_eq_true rfl) ⟨Nat.zero_le _, Nat.zero_le _⟩ dX7_take_16 ?_
  refine k_if_eq C 44 dX7_take_19 (by decide) (fun c_19 => ?_) (fun c_19 => ?_)
  · skip
    have c_19 := bI_f c_19
    refine k_iconst C (v := 0) dX7_take_44 (by decide) ?_
    refine k_congS (st' := [.int (bI (mRuns f h && (!(decide (24 ≤ f 1)) && mOpen f))), .int (bI (mIn y 1 9999)), .int (bI (mIsH f h)), .ref (ad 73)]) (congrArg (fun (z9 : Int32) => ([.int z9, .int (bI (mIn y 1 9999)), .int (bI (mIsH f h)), .ref (ad 73)] : List Value)) (show (0 : Int32) = bI (mRuns f h && (!(decide (24 ≤ f 1)) && mOpen f)) from by simp [bI, c_19])) ?_
    exact jn45
  · skip
    have c_19 := bI_t c_19
    refine k_aload_n C dX7_take_22 rfl (j := 0) rfl ?_
    refine k_get C 73 inX7_take_7 (by omega) hM.1 rfl 0 (by decide) (List.mem_of_getElem? (i := 1) rfl) rfl rfl dX7_take_23 ?_
    refine k_iconst C (v := 1) dX7_take_26 (by decide) ?_
    refine k_ialdN C 74 0 (by omega) hM.2.1 rfl 1 rfl (by omega) (Nat.le_of_ble_eq_true rfl) dX7_take_27 ?_
    refine k_bipush C (v := 24) dX7_take_28 (by decide) ?_
    refine k_icmp_ge C 44 dX7_take_30 (by decide) (fun c_30 => ?_) (fun c_30 => ?_)
    · skip
      refine k_iconst C (v := 0) dX7_take_44 (by decide) ?_
      refine k_congS (st' := [.int (bI (mRuns f h && (!(decide (24 ≤ f 1)) && mOpen f))), .int (bI (mIn y 1 9999)), .int (bI (mIsH f h)), .ref (ad 73)]) (congrArg (fun (z9 : Int32) => ([.int z9, .int (bI (mIn y 1 9999)), .int (bI (mIsH f h)), .ref (ad 73)] : List Value)) (show (0 : Int32) = bI (mRuns f h && (!(decide (24 ≤ f 1)) && mOpen f)) from by simp [bI, c_19, c_30])) ?_
      exact jn45
    · skip
      refine k_aload_n C dX7_take_33 rfl (j := 0) rfl ?_
      refine k_callVir C (As := []) (rest := [.int (bI (mIn y 1 9999)), .int (bI (mIsH f h)), .ref (ad 73)]) 73 (m_X7_isOpen l D cI cC cZ cB cJ ad N G f kp tx fi gr st ty th at0 re nh nb nl (by omega) ⟨hM.1, hM.2.1, hM.2.2.1, hM.2.2.2.1, hM.2.2.2.2.1, hM.2.2.2.2.2⟩ ) gX7_take_X7_isOpen rfl kd_X7_isOpen rfl rfl ⟨Nat.le_of_ble_eq_true rfl, Nat.le_of_ble_eq_true rfl⟩ (by omega) hM.1 rfl rfl rfl (Nat.le_of_ble_eq_true rfl) ⟨Nat.zero_le _, Nat.zero_le _⟩ dX7_take_34 ?_
      refine k_if_eq C 44 dX7_take_37 (by decide) (fun c_37 => ?_) (fun c_37 => ?_)
      · skip
        have c_37 := bI_f c_37
        refine k_iconst C (v := 0) dX7_take_44 (by decide) ?_
        refine k_congS (st' := [.int (bI (mRuns f h && (!(decide (24 ≤ f 1)) && mOpen f))), .int (bI (mIn y 1 9999)), .int (bI (mIsH f h)), .ref (ad 73)]) (congrArg (fun (z9 : Int32) => ([.int z9, .int (bI (mIn y 1 9999)), .int (bI (mIsH f h)), .ref (ad 73)] : List Value)) (show (0 : Int32) = bI (mRuns f h && (!(decide (24 ≤ f 1)) && mOpen f)) from by simp [bI, c_19, c_30, c_37])) ?_
        exact jn45
      · skip
        have c_37 := bI_t c_37
        refine k_iconst C (v := 1) dX7_take_40 (by decide) ?_
        refine k_goto C 45 dX7_take_41 (by decide) ?_
        refine k_congS (st' := [.int (bI (mRuns f h && (!(decide (24 ≤ f 1)) && mOpen f))), .int (bI (mIn y 1 9999)), .int (bI (mIsH f h)), .ref (ad 73)]) (congrArg (fun (z9 : Int32) => ([.int z9, .int (bI (mIn y 1 9999)), .int (bI (mIsH f h)), .ref (ad 73)] : List Value)) (show (1 : Int32) = bI (mRuns f h && (!(decide (24 ≤ f 1)) && mOpen f)) from by simp [bI, c_19, c_30, c_37])) ?_
        exact jn45
theorem inX7_layOff_7 : ∀ w ∈ wsX70, w ∈ wsX7_layOff := fun _ h => List.mem_cons_of_mem _ (List.mem_append_right _ h)
theorem kd_X7_layOff : yX7_layOff.cls = RX7 ∧ yX7_layOff.cls ≠ "java/lang/invoke/MethodHandle" ∧ yX7_layOff.cls ≠ "java/lang/invoke/VarHandle" ∧ (parseMethodDescriptor yX7_layOff.desc).map (fun d => d.parameters.length) = some 4 := by decide +kernel
abbrev rX7_layOff : Room := ({ frames := 3, cells := 0, slots := 0, locals := 64 } : Room)
set_option maxRecDepth 100000 in
set_option maxHeartbeats 4000000 in
/-- model: layOff -/
theorem m_X7_layOff (l : Launch) (D : va_G) (cI cC cZ cB cJ : ClassId) (ad : Nat → Nat) (N : Nat) (G : Nat → va_E) (f kp tx fi gr : Nat → Int32) (st ty : Nat) (th at0 re : Int32) (nh nb nl : Nat) (h y a b : Int32) (hN : 79 ≤ N) (hM : isMo ad cI cC cZ G f kp tx fi gr st ty th at0 re) (hH : f 0 = nI nh ∧ nh ≤ 10) (hL : f 2 = nI nl ∧ nl ≤ 6) (hS0 : st ≤ 6) : kMi l yX7_layOff wsX7_layOff rX7_layOff D (kT5 cI cC cZ cB cJ) ad N G [.ref (ad 73), .int h, .int y, .int a, .int b] (fun r G' => (mTh (mIsH f h) (mIn y 1 9999 && mPriceOk a b) (mRuns f h && (!(decide (6 ≤ f 2)) && mOpen f)) = 0 → r = (nI nl) ∧ isMo ad cI cC cZ G' (mLy (mSave f st) nl h y a b) kp tx fi gr (mSt st) ty (mTh (mIsH f h) (mIn y 1 9999 && mPriceOk a b) (mRuns f h && (!(decide (6 ≤ f 2)) && mOpen f))) at0 re) ∧ (¬ mTh (mIsH f h) (mIn y 1 9999 && mPriceOk a b) (mRuns f h && (!(decide (6 ≤ f 2)) && mOpen f)) = 0 → r = 0 ∧ isMo ad cI cC cZ G' f kp tx fi gr st ty (mTh (mIsH f h) (mIn y 1 9999 && mPriceOk a b) (mRuns f h && (!(decide (6 ≤ f 2)) && mOpen f))) at0 re) ∧ ∀ j, (j < 73 ∨ 79 ≤ j) → G' j = G j) := by
  refine k_starti (cc := cX7_layOff) (ret := (some .int)) (maxL := 6) (lv0 := [(0, .ref (ad 73)), (1, .int h), (2, .int y), (3, .int a), (4, .int b)]) (by decide) rfl (Nat.le_of_ble_eq_true rfl) rfl ?_
  intro p e s m args below meth c A Q C hQ
  have hn := hH.2
  refine k_aload_n C dX7_layOff_0 rfl (j := 0) rfl ?_
  refine k_aload_n C dX7_layOff_1 rfl (j := 0) rfl ?_
  refine k_iload_n C dX7_layOff_2 rfl (j := 1) rfl ?_
  refine k_callVir C (As := [.int h]) (rest := [.ref (ad 73)]) 73 (m_X7_isHorse l D cI cC cZ cB cJ ad N G f kp tx fi gr st ty th at0 re nh nb nl h (by omega) ⟨hM.1, hM.2.1, hM.2.2.1, hM.2.2.2.1, hM.2.2.2.2.1, hM.2.2.2.2.2⟩ ) gX7_layOff_X7_isHorse rfl kd_X7_isHorse rfl rfl ⟨Nat.le_of_ble_eq_true rfl, Nat.le_of_ble_eq_true rfl⟩ (by omega) hM.1 rfl rfl rfl (Nat.le_of_ble_eq_true rfl) ⟨Nat.zero_le _, Nat.zero_le _⟩ dX7_layOff_3 ?_
  have jn31 : kJ p l e rX7_layOff s m args below meth c 0 0 Q 6 D ad N A G 31 [(0, .ref (ad 73)), (1, .int h), (2, .int y), (3, .int a), (4, .int b)] [.int (bI (mIn y 1 9999 && mPriceOk a b)), .int (bI (mIsH f h)), .ref (ad 73)] := by
    have jn62 : kJ p l e rX7_layOff s m args below meth c 0 0 Q 6 D ad N A G 62 [(0, .ref (ad 73)), (1, .int h), (2, .int y), (3, .int a), (4, .int b)] [.int (bI (mRuns f h && (!(decide (6 ≤ f 2)) && mOpen f))), .int (bI (mIn y 1 9999 && mPriceOk a b)), .int (bI (mIsH f h)), .ref (ad 73)] := by
      refine k_callVi C (As := [.int (bI (mIsH f h)), .int (bI (mIn y 1 9999 && mPriceOk a b)), .int (bI (mRuns f h && (!(decide (6 ≤ f 2)) && mOpen f)))]) (rest := []) 73 (m_X7_goes l D cI cC cZ cB cJ ad N G f kp tx fi gr st ty th at0 re nh nb nl (mIsH f h) (mIn y 1 9999 && mPriceOk a b) (mRuns f h && (!(decide (6 ≤ f 2)) && mOpen f)) (by omega) ⟨hM.1, hM.2.1, hM.2.2.1, hM.2.2.2.1, hM.2.2.2.2.1, hM.2.2.2.2.2⟩ ) gX7_layOff_X7_goes rfl kd_X7_goes rfl rfl ⟨Nat.le_of_ble_eq_true rfl, Nat.le_of_ble_eq_true rfl⟩ (by omega) hM.1 rfl rfl rfl (Nat.le_of_ble_eq_true rfl) ⟨Nat.zero_le _, Nat.zero_le _⟩ dX7_layOff_62 (fun r_62 G1 hG1 => ?_)
      obtain ⟨e_r_62, hM_G1, hf_G1⟩ := hG1
      subst e_r_62
      refine k_if_ne C 70 dX7_layOff_65 (by decide) (fun c_65 => ?_) (fun c_65 => ?_)
      · skip
        have c_65 := bI_t c_65
        have hT := of_decide_eq_true c_65
        obtain ⟨hA1, hA2, hA3⟩ := mTh_0 hT
        have hj := vN_of hH hA1
        simp only [Bool.and_eq_true] at hA3
        have hlt : nl < 6 := m_room (k := 6) hL.1 (by decide) (by have := hL.2; omega) hA3.2.1
        refine k_aload_n C dX7_layOff_70 rfl (j := 0) rfl ?_
        refine k_callVv C (As := []) (rest := []) 73 (m_X7_saves l D cI cC cZ cB cJ ad N G1 f kp tx fi gr st ty (mTh ((mIsH f h)) ((mIn y 1 9999 && mPriceOk a b)) ((mRuns f h && (!(decide (6 ≤ f 2)) && mOpen f)))) at0 re nh nb nl (by omega) ⟨hM_G1.1, hM_G1.2.1, hM_G1.2.2.1, hM_G1.2.2.2.1, hM_G1.2.2.2.2.1, hM_G1.2.2.2.2.2⟩ hS0 ) gX7_layOff_X7_saves rfl kd_X7_saves rfl rfl ⟨Nat.le_of_ble_eq_true rfl, Nat.le_of_ble_eq_true rfl⟩ (by omega) hM_G1.1 rfl rfl rfl (Nat.le_of_ble_eq_true rfl) ⟨Nat.zero_le _, Nat.zero_le _⟩ dX7_layOff_71 (fun G2 hG2 => ?_)
        obtain ⟨hM_G2, hf_G2⟩ := hG2
        refine k_aload_n C dX7_layOff_74 rfl (j := 0) rfl ?_
        refine k_get C 73 inX7_layOff_7 (by omega) hM_G2.1 rfl 0 (by decide) (List.mem_of_getElem? (i := 1) rfl) rfl rfl dX7_layOff_75 ?_
        refine k_iconst C (v := 2) dX7_layOff_78 (by decide) ?_
        refine k_ialdN C 74 0 (by omega) hM_G2.2.1 rfl 2 rfl (by omega) (Nat.le_of_ble_eq_true rfl) dX7_layOff_79 ?_
        refine k_istore C (lv' := [(5, .int ((mSave f st) 2)), (0, .ref (ad 73)), (1, .int h), (2, .int y), (3, .int a), (4, .int b)]) dX7_layOff_80 (by decide) rfl ?_
        refine k_cong (lv' := [(5, .int (nI nl)), (0, .ref (ad 73)), (1, .int h), (2, .int y), (3, .int a), (4, .int b)]) (congrArg (fun (z9 : Int32) => ([(5, .int z9), (0, .ref (ad 73)), (1, .int h), (2, .int y), (3, .int a), (4, .int b)] : List (Nat × Value))) (show ((mSave f st) 2 : Int32) = nI nl from (mSave_low f st (by decide)).trans hL.1)) ?_
        refine k_aload_n C dX7_layOff_82 rfl (j := 1) rfl ?_
        refine k_get C 73 inX7_layOff_7 (by omega) hM_G2.1 rfl 0 (by decide) (List.mem_of_getElem? (i := 1) rfl) rfl rfl dX7_layOff_83 ?_
        refine k_iload C dX7_layOff_86 (j := 0) rfl ?_
        refine k_iconst C (v := 0) dX7_layOff_88 (by decide) ?_
        refine k_callSir C (As := [.int (nI nl), .int 0]) (rest := [.ref (ad 74)]) (m_X7_off l D cI cC cZ cB cJ ad N G2 (nI nl) 0) gX7_layOff_X7_off rfl kd_X7_off rfl rfl ⟨Nat.le_of_ble_eq_true rfl, Nat.le_of_ble_eq_true rfl⟩ rfl rfl (Nat.le_of_ble_eq_true rfl) ⟨Nat.zero_le _, Nat.zero_le _⟩ dX7_layOff_89 ?_
        refine k_iload_n C dX7_layOff_92 rfl (j := 2) rfl ?_
        refine k_iastN C 74 0 (by omega) hM_G2.2.1 rfl ((258 + (5 * nl)) + 0) (knAdd (knAdd rfl (knMul rfl rfl)) rfl) (by omega) (Nat.le_of_ble_eq_true rfl) dX7_layOff_93 (fun G3 hG3 => ?_)
        have h_73_G3 : G3 73 = .inr (7, [.ref (ad 74), .int (nI (mSt st)), .ref (ad 75), .int (mTh ((mIsH f h)) ((mIn y 1 9999 && mPriceOk a b)) ((mRuns f h && (!(decide (6 ≤ f 2)) && mOpen f)))), .ref (ad 76), .int (nI ty), .int at0, .ref (ad 77), .ref (ad 78), .int re]) := up_at hG3 hM_G2.1 (by omega)
        have h_75_G3 : G3 75 = .inl (cZ, 2, .inl kp) := up_at hG3 hM_G2.2.2.1 (by omega)
        have h_76_G3 : G3 76 = .inl (cC, 30, .inl tx) := up_at hG3 hM_G2.2.2.2.1 (by omega)
        have h_77_G3 : G3 77 = .inl (cI, 10, .inl fi) := up_at hG3 hM_G2.2.2.2.2.1 (by omega)
        have h_78_G3 : G3 78 = .inl (cI, 10, .inl gr) := up_at hG3 hM_G2.2.2.2.2.2 (by omega)
        have h_74_G3 : G3 74 = .inl (cI, 2610, .inl (upd (mSave f st) ((258 + (5 * nl)) + 0) h)) := up_it hG3
        refine k_aload_n C dX7_layOff_94 rfl (j := 1) rfl ?_
        refine k_get C 73 inX7_layOff_7 (by omega) h_73_G3 rfl 0 (by decide) (List.mem_of_getElem? (i := 1) rfl) rfl rfl dX7_layOff_95 ?_
        refine k_iload C dX7_layOff_98 (j := 0) rfl ?_
        refine k_iconst C (v := 1) dX7_layOff_100 (by decide) ?_
        refine k_callSir C (As := [.int (nI nl), .int 1]) (rest := [.ref (ad 74)]) (m_X7_off l D cI cC cZ cB cJ ad N G3 (nI nl) 1) gX7_layOff_X7_off rfl kd_X7_off rfl rfl ⟨Nat.le_of_ble_eq_true rfl, Nat.le_of_ble_eq_true rfl⟩ rfl rfl (Nat.le_of_ble_eq_true rfl) ⟨Nat.zero_le _, Nat.zero_le _⟩ dX7_layOff_101 ?_
        refine k_iload_n C dX7_layOff_104 rfl (j := 3) rfl ?_
        refine k_iastN C 74 0 (by omega) h_74_G3 rfl ((258 + (5 * nl)) + 1) (knAdd (knAdd rfl (knMul rfl rfl)) rfl) (by omega) (Nat.le_of_ble_eq_true rfl) dX7_layOff_105 (fun G4 hG4 => ?_)
        have h_73_G4 : G4 73 = .inr (7, [.ref (ad 74), .int (nI (mSt st)), .ref (ad 75), .int (mTh ((mIsH f h)) ((mIn y 1 9999 && mPriceOk a b)) ((mRuns f h && (!(decide (6 ≤ f 2)) && mOpen f)))), .ref (ad 76), .int (nI ty), .int at0, .ref (ad 77), .ref (ad 78), .int re]) := up_at hG4 h_73_G3 (by omega)
        have h_75_G4 : G4 75 = .inl (cZ, 2, .inl kp) := up_at hG4 h_75_G3 (by omega)
        have h_76_G4 : G4 76 = .inl (cC, 30, .inl tx) := up_at hG4 h_76_G3 (by omega)
        have h_77_G4 : G4 77 = .inl (cI, 10, .inl fi) := up_at hG4 h_77_G3 (by omega)
        have h_78_G4 : G4 78 = .inl (cI, 10, .inl gr) := up_at hG4 h_78_G3 (by omega)
        have h_74_G4 : G4 74 = .inl (cI, 2610, .inl (upd (upd (mSave f st) ((258 + (5 * nl)) + 0) h) ((258 + (5 * nl)) + 1) y)) := up_it hG4
        refine k_aload_n C dX7_layOff_106 rfl (j := 1) rfl ?_
        refine k_get C 73 inX7_layOff_7 (by omega) h_73_G4 rfl 0 (by decide) (List.mem_of_getElem? (i := 1) rfl) rfl rfl dX7_layOff_107 ?_
        refine k_iload C dX7_layOff_110 (j := 0) rfl ?_
        refine k_iconst C (v := 2) dX7_layOff_112 (by decide) ?_
        refine k_callSir C (As := [.int (nI nl), .int 2]) (rest := [.ref (ad 74)]) (m_X7_off l D cI cC cZ cB cJ ad N G4 (nI nl) 2) gX7_layOff_X7_off rfl kd_X7_off rfl rfl ⟨Nat.le_of_ble_eq_true rfl, Nat.le_of_ble_eq_true rfl⟩ rfl rfl (Nat.le_of_ble_eq_true rfl) ⟨Nat.zero_le _, Nat.zero_le _⟩ dX7_layOff_113 ?_
        refine k_iload_n C dX7_layOff_116 rfl (j := 4) rfl ?_
        refine k_iastN C 74 0 (by omega) h_74_G4 rfl ((258 + (5 * nl)) + 2) (knAdd (knAdd rfl (knMul rfl rfl)) rfl) (by omega) (Nat.le_of_ble_eq_true rfl) dX7_layOff_117 (fun G5 hG5 => ?_)
        have h_73_G5 : G5 73 = .inr (7, [.ref (ad 74), .int (nI (mSt st)), .ref (ad 75), .int (mTh ((mIsH f h)) ((mIn y 1 9999 && mPriceOk a b)) ((mRuns f h && (!(decide (6 ≤ f 2)) && mOpen f)))), .ref (ad 76), .int (nI ty), .int at0, .ref (ad 77), .ref (ad 78), .int re]) := up_at hG5 h_73_G4 (by omega)
        have h_75_G5 : G5 75 = .inl (cZ, 2, .inl kp) := up_at hG5 h_75_G4 (by omega)
        have h_76_G5 : G5 76 = .inl (cC, 30, .inl tx) := up_at hG5 h_76_G4 (by omega)
        have h_77_G5 : G5 77 = .inl (cI, 10, .inl fi) := up_at hG5 h_77_G4 (by omega)
        have h_78_G5 : G5 78 = .inl (cI, 10, .inl gr) := up_at hG5 h_78_G4 (by omega)
        have h_74_G5 : G5 74 = .inl (cI, 2610, .inl (upd (upd (upd (mSave f st) ((258 + (5 * nl)) + 0) h) ((258 + (5 * nl)) + 1) y) ((258 + (5 * nl)) + 2) a)) := up_it hG5
        refine k_aload_n C dX7_layOff_118 rfl (j := 1) rfl ?_
        refine k_get C 73 inX7_layOff_7 (by omega) h_73_G5 rfl 0 (by decide) (List.mem_of_getElem? (i := 1) rfl) rfl rfl dX7_layOff_119 ?_
        refine k_iload C dX7_layOff_122 (j := 0) rfl ?_
        refine k_iconst C (v := 3) dX7_layOff_124 (by decide) ?_
        refine k_callSir C (As := [.int (nI nl), .int 3]) (rest := [.ref (ad 74)]) (m_X7_off l D cI cC cZ cB cJ ad N G5 (nI nl) 3) gX7_layOff_X7_off rfl kd_X7_off rfl rfl ⟨Nat.le_of_ble_eq_true rfl, Nat.le_of_ble_eq_true rfl⟩ rfl rfl (Nat.le_of_ble_eq_true rfl) ⟨Nat.zero_le _, Nat.zero_le _⟩ dX7_layOff_125 ?_
        refine k_iload C dX7_layOff_128 (j := 5) rfl ?_
        refine k_iastN C 74 0 (by omega) h_74_G5 rfl ((258 + (5 * nl)) + 3) (knAdd (knAdd rfl (knMul rfl rfl)) rfl) (by omega) (Nat.le_of_ble_eq_true rfl) dX7_layOff_130 (fun G6 hG6 => ?_)
        have h_73_G6 : G6 73 = .inr (7, [.ref (ad 74), .int (nI (mSt st)), .ref (ad 75), .int (mTh ((mIsH f h)) ((mIn y 1 9999 && mPriceOk a b)) ((mRuns f h && (!(decide (6 ≤ f 2)) && mOpen f)))), .ref (ad 76), .int (nI ty), .int at0, .ref (ad 77), .ref (ad 78), .int re]) := up_at hG6 h_73_G5 (by omega)
        have h_75_G6 : G6 75 = .inl (cZ, 2, .inl kp) := up_at hG6 h_75_G5 (by omega)
        have h_76_G6 : G6 76 = .inl (cC, 30, .inl tx) := up_at hG6 h_76_G5 (by omega)
        have h_77_G6 : G6 77 = .inl (cI, 10, .inl fi) := up_at hG6 h_77_G5 (by omega)
        have h_78_G6 : G6 78 = .inl (cI, 10, .inl gr) := up_at hG6 h_78_G5 (by omega)
        have h_74_G6 : G6 74 = .inl (cI, 2610, .inl (upd (upd (upd (upd (mSave f st) ((258 + (5 * nl)) + 0) h) ((258 + (5 * nl)) + 1) y) ((258 + (5 * nl)) + 2) a) ((258 + (5 * nl)) + 3) b)) := up_it hG6
        refine k_aload_n C dX7_layOff_131 rfl (j := 1) rfl ?_
        refine k_get C 73 inX7_layOff_7 (by omega) h_73_G6 rfl 0 (by decide) (List.mem_of_getElem? (i := 1) rfl) rfl rfl dX7_layOff_132 ?_
        refine k_iload C dX7_layOff_135 (j := 0) rfl ?_
        refine k_iconst C (v := 4) dX7_layOff_137 (by decide) ?_
        refine k_callSir C (As := [.int (nI nl), .int 4]) (rest := [.ref (ad 74)]) (m_X7_off l D cI cC cZ cB cJ ad N G6 (nI nl) 4) gX7_layOff_X7_off rfl kd_X7_off rfl rfl ⟨Nat.le_of_ble_eq_true rfl, Nat.le_of_ble_eq_true rfl⟩ rfl rfl (Nat.le_of_ble_eq_true rfl) ⟨Nat.zero_le _, Nat.zero_le _⟩ dX7_layOff_138 ?_
        refine k_iconst C (v := (-1)) dX7_layOff_141 (by decide) ?_
        refine k_iastN C 74 0 (by omega) h_74_G6 rfl ((258 + (5 * nl)) + 4) (knAdd (knAdd rfl (knMul rfl rfl)) rfl) (by omega) (Nat.le_of_ble_eq_true rfl) dX7_layOff_142 (fun G7 hG7 => ?_)
        have h_73_G7 : G7 73 = .inr (7, [.ref (ad 74), .int (nI (mSt st)), .ref (ad 75), .int (mTh ((mIsH f h)) ((mIn y 1 9999 && mPriceOk a b)) ((mRuns f h && (!(decide (6 ≤ f 2)) && mOpen f)))), .ref (ad 76), .int (nI ty), .int at0, .ref (ad 77), .ref (ad 78), .int re]) := up_at hG7 h_73_G6 (by omega)
        have h_75_G7 : G7 75 = .inl (cZ, 2, .inl kp) := up_at hG7 h_75_G6 (by omega)
        have h_76_G7 : G7 76 = .inl (cC, 30, .inl tx) := up_at hG7 h_76_G6 (by omega)
        have h_77_G7 : G7 77 = .inl (cI, 10, .inl fi) := up_at hG7 h_77_G6 (by omega)
        have h_78_G7 : G7 78 = .inl (cI, 10, .inl gr) := up_at hG7 h_78_G6 (by omega)
        have h_74_G7 : G7 74 = .inl (cI, 2610, .inl (upd (upd (upd (upd (upd (mSave f st) ((258 + (5 * nl)) + 0) h) ((258 + (5 * nl)) + 1) y) ((258 + (5 * nl)) + 2) a) ((258 + (5 * nl)) + 3) b) ((258 + (5 * nl)) + 4) ((-1)))) := up_it hG7
        refine k_aload_n C dX7_layOff_143 rfl (j := 1) rfl ?_
        refine k_get C 73 inX7_layOff_7 (by omega) h_73_G7 rfl 0 (by decide) (List.mem_of_getElem? (i := 1) rfl) rfl rfl dX7_layOff_144 ?_
        refine k_iconst C (v := 2) dX7_layOff_147 (by decide) ?_
        refine k_dup2 C dX7_layOff_148 rfl rfl ?_
        refine k_ialdN C 74 0 (by omega) h_74_G7 rfl 2 rfl (by omega) (Nat.le_of_ble_eq_true rfl) dX7_layOff_149 ?_
        refine k_iconst C (v := 1) dX7_layOff_150 (by decide) ?_
        refine k_iadd C dX7_layOff_151 ?_
        refine k_congS (st' := [.int (nI (nl + 1)), .int 2, .ref (ad 74)]) (congrArg (fun (z9 : Int32) => ([.int z9, .int 2, .ref (ad 74)] : List Value)) (show (((upd (upd (upd (upd (upd (mSave f st) ((258 + (5 * nl)) + 0) h) ((258 + (5 * nl)) + 1) y) ((258 + (5 * nl)) + 2) a) ((258 + (5 * nl)) + 3) b) ((258 + (5 * nl)) + 4) ((-1))) 2) + 1 : Int32) = nI (nl + 1) from by (repeat rw [pk_un (by omega)]); rw [mSave_low f st (by decide), hL.1, nI_1])) ?_
        refine k_iastN C 74 0 (by omega) h_74_G7 rfl 2 rfl (by omega) (Nat.le_of_ble_eq_true rfl) dX7_layOff_152 (fun G8 hG8 => ?_)
        have h_73_G8 : G8 73 = .inr (7, [.ref (ad 74), .int (nI (mSt st)), .ref (ad 75), .int (mTh ((mIsH f h)) ((mIn y 1 9999 && mPriceOk a b)) ((mRuns f h && (!(decide (6 ≤ f 2)) && mOpen f)))), .ref (ad 76), .int (nI ty), .int at0, .ref (ad 77), .ref (ad 78), .int re]) := up_at hG8 h_73_G7 (by omega)
        have h_75_G8 : G8 75 = .inl (cZ, 2, .inl kp) := up_at hG8 h_75_G7 (by omega)
        have h_76_G8 : G8 76 = .inl (cC, 30, .inl tx) := up_at hG8 h_76_G7 (by omega)
        have h_77_G8 : G8 77 = .inl (cI, 10, .inl fi) := up_at hG8 h_77_G7 (by omega)
        have h_78_G8 : G8 78 = .inl (cI, 10, .inl gr) := up_at hG8 h_78_G7 (by omega)
        have h_74_G8 : G8 74 = .inl (cI, 2610, .inl (upd (upd (upd (upd (upd (upd (mSave f st) ((258 + (5 * nl)) + 0) h) ((258 + (5 * nl)) + 1) y) ((258 + (5 * nl)) + 2) a) ((258 + (5 * nl)) + 3) b) ((258 + (5 * nl)) + 4) ((-1))) 2 (nI (nl + 1)))) := up_it hG8
        refine k_iload C dX7_layOff_153 (j := 0) rfl ?_
        exact k_iret C hQ rfl rfl dX7_layOff_155 ⟨fun _ => ⟨rfl, ⟨h_73_G8, h_74_G8, h_75_G8, h_76_G8, h_77_G8, h_78_G8⟩⟩, fun h9 => absurd hT h9, fun j hj => (show _ = _ from by rw [hG8, up_ne (by omega)]).trans ((show _ = _ from by rw [hG7, up_ne (by omega)]).trans ((show _ = _ from by rw [hG6, up_ne (by omega)]).trans ((show _ = _ from by rw [hG5, up_ne (by omega)]).trans ((show _ = _ from by rw [hG4, up_ne (by omega)]).trans ((show _ = _ from by rw [hG3, up_ne (by omega)]).trans ((hf_G2 j hj : _).trans (hf_G1 j hj)))))))⟩
      · skip
        have c_65 := bI_f c_65
        have hT := of_decide_eq_false c_65
        refine k_iconst C (v := 0) dX7_layOff_68 (by decide) ?_
        exact k_iret C hQ rfl rfl dX7_layOff_69 ⟨fun h9 => absurd h9 hT, fun _ => ⟨rfl, ⟨hM_G1.1, hM_G1.2.1, hM_G1.2.2.1, hM_G1.2.2.2.1, hM_G1.2.2.2.2.1, hM_G1.2.2.2.2.2⟩⟩, fun j hj => hf_G1 j hj⟩
    refine k_aload_n C dX7_layOff_31 rfl (j := 0) rfl ?_
    refine k_iload_n C dX7_layOff_32 rfl (j := 1) rfl ?_
    refine k_callVir C (As := [.int h]) (rest := [.int (bI (mIn y 1 9999 && mPriceOk a b)), .int (bI (mIsH f h)), .ref (ad 73)]) 73 (m_X7_runs l D cI cC cZ cB cJ ad N G f kp tx fi gr st ty th at0 re nh nb nl h (by omega) ⟨hM.1, hM.2.1, hM.2.2.1, hM.2.2.2.1, hM.2.2.2.2.1, hM.2.2.2.2.2⟩ hH ) gX7_layOff_X7_runs rfl kd_X7_runs rfl rfl ⟨Nat.le_of_ble_eq_true rfl, Nat.le_of_ble_eq_true rfl⟩ (by omega) hM.1 rfl rfl rfl (Nat.le_of_ble_eq_true rfl) ⟨Nat.zero_le _, Nat.zero_le _⟩ dX7_layOff_33 ?_
    refine k_if_eq C 61 dX7_layOff_36 (by decide) (fun c_36 => ?_) (fun c_36 => ?_)
    · skip
      have c_36 := bI_f c_36
      refine k_iconst C (v := 0) dX7_layOff_61 (by decide) ?_
      refine k_congS (st' := [.int (bI (mRuns f h && (!(decide (6 ≤ f 2)) && mOpen f))), .int (bI (mIn y 1 9999 && mPriceOk a b)), .int (bI (mIsH f h)), .ref (ad 73)]) (congrArg (fun (z9 : Int32) => ([.int z9, .int (bI (mIn y 1 9999 && mPriceOk a b)), .int (bI (mIsH f h)), .ref (ad 73)] : List Value)) (show (0 : Int32) = bI (mRuns f h && (!(decide (6 ≤ f 2)) && mOpen f)) from by simp [bI, c_36])) ?_
      exact jn62
    · skip
      have c_36 := bI_t c_36
      refine k_aload_n C dX7_layOff_39 rfl (j := 0) rfl ?_
      refine k_get C 73 inX7_layOff_7 (by omega) hM.1 rfl 0 (by decide) (List.mem_of_getElem? (i := 1) rfl) rfl rfl dX7_layOff_40 ?_
      refine k_iconst C (v := 2) dX7_layOff_43 (by decide) ?_
      refine k_ialdN C 74 0 (by omega) hM.2.1 rfl 2 rfl (by omega) (Nat.le_of_ble_eq_true rfl) dX7_layOff_44 ?_
      refine k_bipush C (v := 6) dX7_layOff_45 (by decide) ?_
      refine k_icmp_ge C 61 dX7_layOff_47 (by decide) (fun c_47 => ?_) (fun c_47 => ?_)
      · skip
        refine k_iconst C (v := 0) dX7_layOff_61 (by decide) ?_
        refine k_congS (st' := [.int (bI (mRuns f h && (!(decide (6 ≤ f 2)) && mOpen f))), .int (bI (mIn y 1 9999 && mPriceOk a b)), .int (bI (mIsH f h)), .ref (ad 73)]) (congrArg (fun (z9 : Int32) => ([.int z9, .int (bI (mIn y 1 9999 && mPriceOk a b)), .int (bI (mIsH f h)), .ref (ad 73)] : List Value)) (show (0 : Int32) = bI (mRuns f h && (!(decide (6 ≤ f 2)) && mOpen f)) from by simp [bI, c_36, c_47])) ?_
        exact jn62
      · skip
        refine k_aload_n C dX7_layOff_50 rfl (j := 0) rfl ?_
        refine k_callVir C (As := []) (rest := [.int (bI (mIn y 1 9999 && mPriceOk a b)), .int (bI (mIsH f h)), .ref (ad 73)]) 73 (m_X7_isOpen l D cI cC cZ cB cJ ad N G f kp tx fi gr st ty th at0 re nh nb nl (by omega) ⟨hM.1, hM.2.1, hM.2.2.1, hM.2.2.2.1, hM.2.2.2.2.1, hM.2.2.2.2.2⟩ ) gX7_layOff_X7_isOpen rfl kd_X7_isOpen rfl rfl ⟨Nat.le_of_ble_eq_true rfl, Nat.le_of_ble_eq_true rfl⟩ (by omega) hM.1 rfl rfl rfl (Nat.le_of_ble_eq_true rfl) ⟨Nat.zero_le _, Nat.zero_le _⟩ dX7_layOff_51 ?_
        refine k_if_eq C 61 dX7_layOff_54 (by decide) (fun c_54 => ?_) (fun c_54 => ?_)
        · skip
          have c_54 := bI_f c_54
          refine k_iconst C (v := 0) dX7_layOff_61 (by decide) ?_
          refine k_congS (st' := [.int (bI (mRuns f h && (!(decide (6 ≤ f 2)) && mOpen f))), .int (bI (mIn y 1 9999 && mPriceOk a b)), .int (bI (mIsH f h)), .ref (ad 73)]) (congrArg (fun (z9 : Int32) => ([.int z9, .int (bI (mIn y 1 9999 && mPriceOk a b)), .int (bI (mIsH f h)), .ref (ad 73)] : List Value)) (show (0 : Int32) = bI (mRuns f h && (!(decide (6 ≤ f 2)) && mOpen f)) from by simp [bI, c_36, c_47, c_54])) ?_
          exact jn62
        · skip
          have c_54 := bI_t c_54
          refine k_iconst C (v := 1) dX7_layOff_57 (by decide) ?_
          refine k_goto C 62 dX7_layOff_58 (by decide) ?_
          refine k_congS (st' := [.int (bI (mRuns f h && (!(decide (6 ≤ f 2)) && mOpen f))), .int (bI (mIn y 1 9999 && mPriceOk a b)), .int (bI (mIsH f h)), .ref (ad 73)]) (congrArg (fun (z9 : Int32) => ([.int z9, .int (bI (mIn y 1 9999 && mPriceOk a b)), .int (bI (mIsH f h)), .ref (ad 73)] : List Value)) (show (1 : Int32) = bI (mRuns f h && (!(decide (6 ≤ f 2)) && mOpen f)) from by simp [bI, c_36, c_47, c_54])) ?_
          exact jn62
  refine k_iload_n C dX7_layOff_6 rfl (j := 2) rfl ?_
  refine k_iconst C (v := 1) dX7_layOff_7 (by decide) ?_
  refine k_sipush C (v := 9999) dX7_layOff_8 (by decide) ?_
  refine k_callSir C (As := [.int y, .int 1, .int 9999]) (rest := [.int (bI (mIsH f h)), .ref (ad 73)]) (m_X7_in l D cI cC cZ cB cJ ad N G y 1 9999) gX7_layOff_X7_in rfl kd_X7_in rfl rfl ⟨Nat.le_of_ble_eq_true rfl, Nat.le_of_ble_eq_true rfl⟩ rfl rfl (Nat.le_of_ble_eq_true rfl) ⟨Nat.zero_le _, Nat.zero_le _⟩ dX7_layOff_11 ?_
  refine k_if_eq C 30 dX7_layOff_14 (by decide) (fun c_14 => ?_) (fun c_14 => ?_)
  · skip
    have c_14 := bI_f c_14
    refine k_iconst C (v := 0) dX7_layOff_30 (by decide) ?_
    refine k_congS (st' := [.int (bI (mIn y 1 9999 && mPriceOk a b)), .int (bI (mIsH f h)), .ref (ad 73)]) (congrArg (fun (z9 : Int32) => ([.int z9, .int (bI (mIsH f h)), .ref (ad 73)] : List Value)) (show (0 : Int32) = bI (mIn y 1 9999 && mPriceOk a b) from by simp [bI, c_14])) ?_
    exact jn31
  · skip
    have c_14 := bI_t c_14
    refine k_iload_n C dX7_layOff_17 rfl (j := 3) rfl ?_
    refine k_iload C dX7_layOff_18 (j := 4) rfl ?_
    refine k_callSir C (As := [.int a, .int b]) (rest := [.int (bI (mIsH f h)), .ref (ad 73)]) (m_X7_isPrice l D cI cC cZ cB cJ ad N G a b) gX7_layOff_X7_isPrice rfl kd_X7_isPrice rfl rfl ⟨Nat.le_of_ble_eq_true rfl, Nat.le_of_ble_eq_true rfl⟩ rfl rfl (Nat.le_of_ble_eq_true rfl) ⟨Nat.zero_le _, Nat.zero_le _⟩ dX7_layOff_20 ?_
    refine k_if_eq C 30 dX7_layOff_23 (by decide) (fun c_23 => ?_) (fun c_23 => ?_)
    · skip
      have c_23 := bI_f c_23
      refine k_iconst C (v := 0) dX7_layOff_30 (by decide) ?_
      refine k_congS (st' := [.int (bI (mIn y 1 9999 && mPriceOk a b)), .int (bI (mIsH f h)), .ref (ad 73)]) (congrArg (fun (z9 : Int32) => ([.int z9, .int (bI (mIsH f h)), .ref (ad 73)] : List Value)) (show (0 : Int32) = bI (mIn y 1 9999 && mPriceOk a b) from by simp [bI, c_14, c_23])) ?_
      exact jn31
    · skip
      have c_23 := bI_t c_23
      refine k_iconst C (v := 1) dX7_layOff_26 (by decide) ?_
      refine k_goto C 31 dX7_layOff_27 (by decide) ?_
      refine k_congS (st' := [.int (bI (mIn y 1 9999 && mPriceOk a b)), .int (bI (mIsH f h)), .ref (ad 73)]) (congrArg (fun (z9 : Int32) => ([.int z9, .int (bI (mIsH f h)), .ref (ad 73)] : List Value)) (show (1 : Int32) = bI (mIn y 1 9999 && mPriceOk a b) from by simp [bI, c_14, c_23])) ?_
      exact jn31
theorem inX7_withdraw_7 : ∀ w ∈ wsX70, w ∈ wsX7_withdraw := fun _ h => List.mem_cons_of_mem _ (List.mem_append_right _ h)
theorem kd_X7_withdraw : yX7_withdraw.cls = RX7 ∧ yX7_withdraw.cls ≠ "java/lang/invoke/MethodHandle" ∧ yX7_withdraw.cls ≠ "java/lang/invoke/VarHandle" ∧ (parseMethodDescriptor yX7_withdraw.desc).map (fun d => d.parameters.length) = some 1 := by decide +kernel
abbrev rX7_withdraw : Room := ({ frames := 3, cells := 0, slots := 0, locals := 64 } : Room)
set_option maxRecDepth 100000 in
set_option maxHeartbeats 4000000 in
/-- model: withdraw -/
theorem m_X7_withdraw (l : Launch) (D : va_G) (cI cC cZ cB cJ : ClassId) (ad : Nat → Nat) (N : Nat) (G : Nat → va_E) (f kp tx fi gr : Nat → Int32) (st ty : Nat) (th at0 re : Int32) (nh nb nl : Nat) (h : Int32) (hN : 79 ≤ N) (hM : isMo ad cI cC cZ G f kp tx fi gr st ty th at0 re) (hH : f 0 = nI nh ∧ nh ≤ 10) (hB : f 1 = nI nb ∧ nb ≤ 24) (hP0 : ∀ h, h < nh → ¬ f (6 + h) + f (16 + h) = 0 ∧ ¬ f (16 + h) = 0) (hS0 : st ≤ 6) : kMi l yX7_withdraw wsX7_withdraw rX7_withdraw D (kT5 cI cC cZ cB cJ) ad N G [.ref (ad 73), .int h] (fun r G' => (mTh (mIsH f h) (mRuns f h && mOpen f) true = 0 → r = (mCut (mSave f st) (vN h)) ∧ isMo ad cI cC cZ G' (mWd (mW0 (mSave f st) (vN h)) (mCut (mSave f st) (vN h)) nb) kp tx fi gr (mSt st) ty (mTh (mIsH f h) (mRuns f h && mOpen f) true) at0 re) ∧ (¬ mTh (mIsH f h) (mRuns f h && mOpen f) true = 0 → r = 0 ∧ isMo ad cI cC cZ G' f kp tx fi gr st ty (mTh (mIsH f h) (mRuns f h && mOpen f) true) at0 re) ∧ ∀ j, (j < 73 ∨ 79 ≤ j) → G' j = G j) := by
  refine k_starti (cc := cX7_withdraw) (ret := (some .int)) (maxL := 5) (lv0 := [(0, .ref (ad 73)), (1, .int h)]) (by decide) rfl (Nat.le_of_ble_eq_true rfl) rfl ?_
  intro p e s m args below meth c A Q C hQ
  have hn := hH.2
  have hnb := hB.2
  refine k_aload_n C dX7_withdraw_0 rfl (j := 0) rfl ?_
  refine k_aload_n C dX7_withdraw_1 rfl (j := 0) rfl ?_
  refine k_iload_n C dX7_withdraw_2 rfl (j := 1) rfl ?_
  refine k_callVir C (As := [.int h]) (rest := [.ref (ad 73)]) 73 (m_X7_isHorse l D cI cC cZ cB cJ ad N G f kp tx fi gr st ty th at0 re nh nb nl h (by omega) ⟨hM.1, hM.2.1, hM.2.2.1, hM.2.2.2.1, hM.2.2.2.2.1, hM.2.2.2.2.2⟩ ) gX7_withdraw_X7_isHorse rfl kd_X7_isHorse rfl rfl ⟨Nat.le_of_ble_eq_true rfl, Nat.le_of_ble_eq_true rfl⟩ (by omega) hM.1 rfl rfl rfl (Nat.le_of_ble_eq_true rfl) ⟨Nat.zero_le _, Nat.zero_le _⟩ dX7_withdraw_3 ?_
  have jn26 : kJ p l e rX7_withdraw s m args below meth c 0 0 Q 5 D ad N A G 26 [(0, .ref (ad 73)), (1, .int h)] [.int (bI (mRuns f h && mOpen f)), .int (bI (mIsH f h)), .ref (ad 73)] := by
    refine k_iconst C (v := 1) dX7_withdraw_26 (by decide) ?_
    refine k_callVi C (As := [.int (bI (mIsH f h)), .int (bI (mRuns f h && mOpen f)), .int 1]) (rest := []) 73 (m_X7_goes l D cI cC cZ cB cJ ad N G f kp tx fi gr st ty th at0 re nh nb nl (mIsH f h) (mRuns f h && mOpen f) true (by omega) ⟨hM.1, hM.2.1, hM.2.2.1, hM.2.2.2.1, hM.2.2.2.2.1, hM.2.2.2.2.2⟩ ) gX7_withdraw_X7_goes rfl kd_X7_goes rfl rfl ⟨Nat.le_of_ble_eq_true rfl, Nat.le_of_ble_eq_true rfl⟩ (by omega) hM.1 rfl rfl rfl (Nat.le_of_ble_eq_true rfl) ⟨Nat.zero_le _, Nat.zero_le _⟩ dX7_withdraw_27 (fun r_27 G1 hG1 => ?_)
    obtain ⟨e_r_27, hM_G1, hf_G1⟩ := hG1
    subst e_r_27
    refine k_if_ne C 35 dX7_withdraw_30 (by decide) (fun c_30 => ?_) (fun c_30 => ?_)
    · skip
      have c_30 := bI_t c_30
      have hT := of_decide_eq_true c_30
      obtain ⟨hA1, hA2, hA3⟩ := mTh_0 hT
      have hj := vN_of hH hA1
      refine k_aload_n C dX7_withdraw_35 rfl (j := 0) rfl ?_
      refine k_callVv C (As := []) (rest := []) 73 (m_X7_saves l D cI cC cZ cB cJ ad N G1 f kp tx fi gr st ty (mTh ((mIsH f h)) ((mRuns f h && mOpen f)) true) at0 re nh nb nl (by omega) ⟨hM_G1.1, hM_G1.2.1, hM_G1.2.2.1, hM_G1.2.2.2.1, hM_G1.2.2.2.2.1, hM_G1.2.2.2.2.2⟩ hS0 ) gX7_withdraw_X7_saves rfl kd_X7_saves rfl rfl ⟨Nat.le_of_ble_eq_true rfl, Nat.le_of_ble_eq_true rfl⟩ (by omega) hM_G1.1 rfl rfl rfl (Nat.le_of_ble_eq_true rfl) ⟨Nat.zero_le _, Nat.zero_le _⟩ dX7_withdraw_36 (fun G2 hG2 => ?_)
      obtain ⟨hM_G2, hf_G2⟩ := hG2
      refine k_bipush C (v := 100) dX7_withdraw_39 (by decide) ?_
      refine k_aload_n C dX7_withdraw_41 rfl (j := 0) rfl ?_
      refine k_get C 73 inX7_withdraw_7 (by omega) hM_G2.1 rfl 0 (by decide) (List.mem_of_getElem? (i := 1) rfl) rfl rfl dX7_withdraw_42 ?_
      refine k_bipush C (v := 16) dX7_withdraw_45 (by decide) ?_
      refine k_iload_n C dX7_withdraw_47 rfl (j := 1) rfl ?_
      refine k_iadd C dX7_withdraw_48 ?_
      refine k_ialdN C 74 0 (by omega) hM_G2.2.1 rfl (16 + (vN h)) (knAdd rfl hj.1) (by omega) (Nat.le_of_ble_eq_true rfl) dX7_withdraw_49 ?_
      refine k_imul C dX7_withdraw_50 ?_
      refine k_aload_n C dX7_withdraw_51 rfl (j := 0) rfl ?_
      refine k_get C 73 inX7_withdraw_7 (by omega) hM_G2.1 rfl 0 (by decide) (List.mem_of_getElem? (i := 1) rfl) rfl rfl dX7_withdraw_52 ?_
      refine k_bipush C (v := 6) dX7_withdraw_55 (by decide) ?_
      refine k_iload_n C dX7_withdraw_57 rfl (j := 1) rfl ?_
      refine k_iadd C dX7_withdraw_58 ?_
      refine k_ialdN C 74 0 (by omega) hM_G2.2.1 rfl (6 + (vN h)) (knAdd rfl hj.1) (by omega) (Nat.le_of_ble_eq_true rfl) dX7_withdraw_59 ?_
      refine k_aload_n C dX7_withdraw_60 rfl (j := 0) rfl ?_
      refine k_get C 73 inX7_withdraw_7 (by omega) hM_G2.1 rfl 0 (by decide) (List.mem_of_getElem? (i := 1) rfl) rfl rfl dX7_withdraw_61 ?_
      refine k_bipush C (v := 16) dX7_withdraw_64 (by decide) ?_
      refine k_iload_n C dX7_withdraw_66 rfl (j := 1) rfl ?_
      refine k_iadd C dX7_withdraw_67 ?_
      refine k_ialdN C 74 0 (by omega) hM_G2.2.1 rfl (16 + (vN h)) (knAdd rfl hj.1) (by omega) (Nat.le_of_ble_eq_true rfl) dX7_withdraw_68 ?_
      refine k_iadd C dX7_withdraw_69 ?_
      refine k_idiv C dX7_withdraw_70 (by rw [mSave_low f st (by omega), mSave_low f st (by omega)]; exact (hP0 _ hj.2).1) ?_
      refine k_istore_n C (lv' := [(2, .int ((100 * ((mSave f st) (16 + (vN h)))) / (((mSave f st) (6 + (vN h))) + ((mSave f st) (16 + (vN h)))))), (0, .ref (ad 73)), (1, .int h)]) dX7_withdraw_71 rfl (by decide) rfl ?_
      have jn84 : kJ p l e rX7_withdraw s m args below meth c 0 0 Q 5 D ad N A G2 84 [(2, .int ((100 * ((mSave f st) (16 + (vN h)))) / (((mSave f st) (6 + (vN h))) + ((mSave f st) (16 + (vN h)))))), (0, .ref (ad 73)), (1, .int h)] [.int (mCut (mSave f st) (vN h))] := by
        refine k_istore_n C (lv' := [(2, .int (mCut (mSave f st) (vN h))), (0, .ref (ad 73)), (1, .int h)]) dX7_withdraw_84 rfl (by decide) rfl ?_
        refine k_aload_n C dX7_withdraw_85 rfl (j := 1) rfl ?_
        refine k_get C 73 inX7_withdraw_7 (by omega) hM_G2.1 rfl 0 (by decide) (List.mem_of_getElem? (i := 1) rfl) rfl rfl dX7_withdraw_86 ?_
        refine k_bipush C (v := 26) dX7_withdraw_89 (by decide) ?_
        refine k_iload_n C dX7_withdraw_91 rfl (j := 2) rfl ?_
        refine k_iadd C dX7_withdraw_92 ?_
        refine k_iconst C (v := 0) dX7_withdraw_93 (by decide) ?_
        refine k_iastN C 74 0 (by omega) hM_G2.2.1 rfl (26 + (vN h)) (knAdd rfl hj.1) (by omega) (Nat.le_of_ble_eq_true rfl) dX7_withdraw_94 (fun G3 hG3 => ?_)
        have h_73_G3 : G3 73 = .inr (7, [.ref (ad 74), .int (nI (mSt st)), .ref (ad 75), .int (mTh ((mIsH f h)) ((mRuns f h && mOpen f)) true), .ref (ad 76), .int (nI ty), .int at0, .ref (ad 77), .ref (ad 78), .int re]) := up_at hG3 hM_G2.1 (by omega)
        have h_75_G3 : G3 75 = .inl (cZ, 2, .inl kp) := up_at hG3 hM_G2.2.2.1 (by omega)
        have h_76_G3 : G3 76 = .inl (cC, 30, .inl tx) := up_at hG3 hM_G2.2.2.2.1 (by omega)
        have h_77_G3 : G3 77 = .inl (cI, 10, .inl fi) := up_at hG3 hM_G2.2.2.2.2.1 (by omega)
        have h_78_G3 : G3 78 = .inl (cI, 10, .inl gr) := up_at hG3 hM_G2.2.2.2.2.2 (by omega)
        have h_74_G3 : G3 74 = .inl (cI, 2610, .inl (upd (mSave f st) (26 + (vN h)) 0)) := up_it hG3
        refine k_aload_n C dX7_withdraw_95 rfl (j := 1) rfl ?_
        refine k_get C 73 inX7_withdraw_7 (by omega) h_73_G3 rfl 0 (by decide) (List.mem_of_getElem? (i := 1) rfl) rfl rfl dX7_withdraw_96 ?_
        refine k_bipush C (v := 36) dX7_withdraw_99 (by decide) ?_
        refine k_iload_n C dX7_withdraw_101 rfl (j := 2) rfl ?_
        refine k_iadd C dX7_withdraw_102 ?_
        refine k_iload_n C dX7_withdraw_103 rfl (j := 0) rfl ?_
        refine k_iastN C 74 0 (by omega) h_74_G3 rfl (36 + (vN h)) (knAdd rfl hj.1) (by omega) (Nat.le_of_ble_eq_true rfl) dX7_withdraw_104 (fun G4 hG4 => ?_)
        have h_73_G4 : G4 73 = .inr (7, [.ref (ad 74), .int (nI (mSt st)), .ref (ad 75), .int (mTh ((mIsH f h)) ((mRuns f h && mOpen f)) true), .ref (ad 76), .int (nI ty), .int at0, .ref (ad 77), .ref (ad 78), .int re]) := up_at hG4 h_73_G3 (by omega)
        have h_75_G4 : G4 75 = .inl (cZ, 2, .inl kp) := up_at hG4 h_75_G3 (by omega)
        have h_76_G4 : G4 76 = .inl (cC, 30, .inl tx) := up_at hG4 h_76_G3 (by omega)
        have h_77_G4 : G4 77 = .inl (cI, 10, .inl fi) := up_at hG4 h_77_G3 (by omega)
        have h_78_G4 : G4 78 = .inl (cI, 10, .inl gr) := up_at hG4 h_78_G3 (by omega)
        have h_74_G4 : G4 74 = .inl (cI, 2610, .inl (upd (upd (mSave f st) (26 + (vN h)) 0) (36 + (vN h)) (mCut (mSave f st) (vN h)))) := up_it hG4
        refine k_iconst C (v := 0) dX7_withdraw_105 (by decide) ?_
        refine k_istore_n C (lv' := [(3, .int 0), (2, .int (mCut (mSave f st) (vN h))), (0, .ref (ad 73)), (1, .int h)]) dX7_withdraw_106 rfl (by decide) rfl ?_
        have loop107 : ∀ (k : Nat) (i : Nat) (G2 : Nat → va_E), (nb + 1 ≤ i + k) → (i ≤ nb) → (isMo ad cI cC cZ G2 (mWd (mW0 (mSave f st) (vN h)) (mCut (mSave f st) (vN h)) i) kp tx fi gr (mSt st) ty (mTh (mIsH f h) (mRuns f h && mOpen f) true) at0 re) → (∀ j, (j < 73 ∨ 79 ≤ j) → G2 j = G j) → kJ p l e rX7_withdraw s m args below meth c 0 0 Q 5 D ad N A G2 107 [(0, .ref (ad 73)), (1, .int h), (2, .int (mCut (mSave f st) (vN h))), (3, .int (nI i))] [] := by
          intro k
          induction k with
          | zero => intro i G2 h1 h2 hM2 hfr; exact absurd h1 (by omega)
          | succ k ih107 =>
            intro i G2 h1 h2 hM2 hfr
            refine k_iload_n C dX7_withdraw_107 rfl (j := 3) rfl ?_
            refine k_aload_n C dX7_withdraw_108 rfl (j := 0) rfl ?_
            refine k_get C 73 inX7_withdraw_7 (by omega) hM2.1 rfl 0 (by decide) (List.mem_of_getElem? (i := 1) rfl) rfl rfl dX7_withdraw_109 ?_
            refine k_iconst C (v := 1) dX7_withdraw_112 (by decide) ?_
            refine k_ialdN C 74 0 (by omega) hM2.2.1 rfl 1 rfl (by omega) (Nat.le_of_ble_eq_true rfl) dX7_withdraw_113 ?_
            refine k_icmp_ge C 161 dX7_withdraw_114 (by decide) (fun c_114 => ?_) (fun c_114 => ?_)
            · skip
              rw [(show mWd (mW0 (mSave f st) (vN h)) (mCut (mSave f st) (vN h)) i 1 = nI nb from by rw [mWd_lo _ _ (by decide), mW0, pk_un (by omega), pk_un (by omega), mSave_low f st (by decide), hB.1])] at c_114
              have hi2 : nb = i := (k_ge c_114 (by omega) (by omega)).symm
              subst hi2
              refine k_iload_n C dX7_withdraw_161 rfl (j := 2) rfl ?_
              exact k_iret C hQ rfl rfl dX7_withdraw_162 ⟨fun _ => ⟨rfl, ⟨hM2.1, hM2.2.1, hM2.2.2.1, hM2.2.2.2.1, hM2.2.2.2.2.1, hM2.2.2.2.2.2⟩⟩, fun h9 => absurd hT h9, fun j hj => hfr j hj⟩
            · skip
              rw [(show mWd (mW0 (mSave f st) (vN h)) (mCut (mSave f st) (vN h)) i 1 = nI nb from by rw [mWd_lo _ _ (by decide), mW0, pk_un (by omega), pk_un (by omega), mSave_low f st (by decide), hB.1])] at c_114
              have hi3 : i < nb := k_lt c_114 (by omega) (by omega)
              refine k_aload_n C dX7_withdraw_117 rfl (j := 0) rfl ?_
              refine k_get C 73 inX7_withdraw_7 (by omega) hM2.1 rfl 0 (by decide) (List.mem_of_getElem? (i := 1) rfl) rfl rfl dX7_withdraw_118 ?_
              refine k_iload_n C dX7_withdraw_121 rfl (j := 3) rfl ?_
              refine k_iconst C (v := 5) dX7_withdraw_122 (by decide) ?_
              refine k_callSir C (As := [.int (nI i), .int 5]) (rest := [.ref (ad 74)]) (m_X7_of l D cI cC cZ cB cJ ad N G2 (nI i) 5) gX7_withdraw_X7_of rfl kd_X7_of rfl rfl ⟨Nat.le_of_ble_eq_true rfl, Nat.le_of_ble_eq_true rfl⟩ rfl rfl (Nat.le_of_ble_eq_true rfl) ⟨Nat.zero_le _, Nat.zero_le _⟩ dX7_withdraw_123 ?_
              refine k_ialdN C 74 0 (by omega) hM2.2.1 rfl ((66 + (8 * i)) + 5) (knAdd (knAdd rfl (knMul rfl rfl)) rfl) (by omega) (Nat.le_of_ble_eq_true rfl) dX7_withdraw_126 ?_
              refine k_iload_n C dX7_withdraw_127 rfl (j := 2) rfl ?_
              refine k_iadd C dX7_withdraw_128 ?_
              refine k_istore C (lv' := [(4, .int (((mWd (mW0 (mSave f st) (vN h)) (mCut (mSave f st) (vN h)) i) ((66 + (8 * i)) + 5)) + (mCut (mSave f st) (vN h)))), (0, .ref (ad 73)), (1, .int h), (2, .int (mCut (mSave f st) (vN h))), (3, .int (nI i))]) dX7_withdraw_129 (by decide) rfl ?_
              refine k_aload_n C dX7_withdraw_131 rfl (j := 1) rfl ?_
              refine k_get C 73 inX7_withdraw_7 (by omega) hM2.1 rfl 0 (by decide) (List.mem_of_getElem? (i := 1) rfl) rfl rfl dX7_withdraw_132 ?_
              refine k_iload_n C dX7_withdraw_135 rfl (j := 4) rfl ?_
              refine k_iconst C (v := 5) dX7_withdraw_136 (by decide) ?_
              refine k_callSir C (As := [.int (nI i), .int 5]) (rest := [.ref (ad 74)]) (m_X7_of l D cI cC cZ cB cJ ad N G2 (nI i) 5) gX7_withdraw_X7_of rfl kd_X7_of rfl rfl ⟨Nat.le_of_ble_eq_true rfl, Nat.le_of_ble_eq_true rfl⟩ rfl rfl (Nat.le_of_ble_eq_true rfl) ⟨Nat.zero_le _, Nat.zero_le _⟩ dX7_withdraw_137 ?_
              have jn154 : kJ p l e rX7_withdraw s m args below meth c 0 0 Q 5 D ad N A G2 154 [(4, .int (((mWd (mW0 (mSave f st) (vN h)) (mCut (mSave f st) (vN h)) i) ((66 + (8 * i)) + 5)) + (mCut (mSave f st) (vN h)))), (0, .ref (ad 73)), (1, .int h), (2, .int (mCut (mSave f st) (vN h))), (3, .int (nI i))] [.int (mAllV (mWd (mW0 (mSave f st) (vN h)) (mCut (mSave f st) (vN h)) i (66 + 8 * i + 5) + mCut (mSave f st) (vN h))), .int (66 + 8 * (nI i) + 5), .ref (ad 74)] := by
                refine k_iastN C 74 0 (by omega) hM2.2.1 rfl ((66 + (8 * i)) + 5) (knAdd (knAdd rfl (knMul rfl rfl)) rfl) (by omega) (Nat.le_of_ble_eq_true rfl) dX7_withdraw_154 (fun G5 hG5 => ?_)
                have h_73_G5 : G5 73 = .inr (7, [.ref (ad 74), .int (nI (mSt st)), .ref (ad 75), .int (mTh (mIsH f h) (mRuns f h && mOpen f) true), .ref (ad 76), .int (nI ty), .int at0, .ref (ad 77), .ref (ad 78), .int re]) := up_at hG5 hM2.1 (by omega)
                have h_75_G5 : G5 75 = .inl (cZ, 2, .inl kp) := up_at hG5 hM2.2.2.1 (by omega)
                have h_76_G5 : G5 76 = .inl (cC, 30, .inl tx) := up_at hG5 hM2.2.2.2.1 (by omega)
                have h_77_G5 : G5 77 = .inl (cI, 10, .inl fi) := up_at hG5 hM2.2.2.2.2.1 (by omega)
                have h_78_G5 : G5 78 = .inl (cI, 10, .inl gr) := up_at hG5 hM2.2.2.2.2.2 (by omega)
                have h_74_G5 : G5 74 = .inl (cI, 2610, .inl (upd (mWd (mW0 (mSave f st) (vN h)) (mCut (mSave f st) (vN h)) i) ((66 + (8 * i)) + 5) (mAllV (mWd (mW0 (mSave f st) (vN h)) (mCut (mSave f st) (vN h)) i (66 + 8 * i + 5) + mCut (mSave f st) (vN h))))) := up_it hG5
                refine k_iinc C (v := nI (i + 1)) (lv' := [(3, .int (nI (i + 1))), (4, .int (((mWd (mW0 (mSave f st) (vN h)) (mCut (mSave f st) (vN h)) i) ((66 + (8 * i)) + 5)) + (mCut (mSave f st) (vN h)))), (0, .ref (ad 73)), (1, .int h), (2, .int (mCut (mSave f st) (vN h)))]) dX7_withdraw_155 (j := 4) rfl (nI_1 i) (by decide) rfl ?_
                refine k_goto C 107 dX7_withdraw_158 (by decide) ?_
                exact k_sub [2, 3, 4, 0] rfl (ih107 (i + 1) G5 (by omega) (by omega) ⟨h_73_G5, h_74_G5, h_75_G5, h_76_G5, h_77_G5, h_78_G5⟩ (fun j hj => (show _ = _ from by rw [hG5, up_ne (by omega)]).trans (hfr j hj)))
              refine k_iload C dX7_withdraw_140 (j := 0) rfl ?_
              refine k_bipush C (v := 90) dX7_withdraw_142 (by decide) ?_
              refine k_icmp_le C 152 dX7_withdraw_144 (by decide) (fun c_144 => ?_) (fun c_144 => ?_)
              · skip
                refine k_iload C dX7_withdraw_152 (j := 0) rfl ?_
                refine k_congS (st' := [.int (mAllV (mWd (mW0 (mSave f st) (vN h)) (mCut (mSave f st) (vN h)) i (66 + 8 * i + 5) + mCut (mSave f st) (vN h))), .int (66 + 8 * (nI i) + 5), .ref (ad 74)]) (congrArg (fun (z9 : Int32) => ([.int z9, .int (66 + 8 * (nI i) + 5), .ref (ad 74)] : List Value)) (show (((mWd (mW0 (mSave f st) (vN h)) (mCut (mSave f st) (vN h)) i) ((66 + (8 * i)) + 5)) + (mCut (mSave f st) (vN h)) : Int32) = mAllV (mWd (mW0 (mSave f st) (vN h)) (mCut (mSave f st) (vN h)) i (66 + 8 * i + 5) + mCut (mSave f st) (vN h)) from by rw [mAllV, if_neg (Int32.not_lt.mpr c_144)])) ?_
                exact jn154
              · skip
                refine k_bipush C (v := 90) dX7_withdraw_147 (by decide) ?_
                refine k_goto C 154 dX7_withdraw_149 (by decide) ?_
                refine k_congS (st' := [.int (mAllV (mWd (mW0 (mSave f st) (vN h)) (mCut (mSave f st) (vN h)) i (66 + 8 * i + 5) + mCut (mSave f st) (vN h))), .int (66 + 8 * (nI i) + 5), .ref (ad 74)]) (congrArg (fun (z9 : Int32) => ([.int z9, .int (66 + 8 * (nI i) + 5), .ref (ad 74)] : List Value)) (show (90 : Int32) = mAllV (mWd (mW0 (mSave f st) (vN h)) (mCut (mSave f st) (vN h)) i (66 + 8 * i + 5) + mCut (mSave f st) (vN h)) from by rw [mAllV, if_pos (Int32.not_le.mp c_144)])) ?_
                exact jn154
        exact k_sub [2, 3, 1, 0] rfl (loop107 (nb + 1) 0 G4 (by omega) (by omega) ⟨h_73_G4, h_74_G4, h_75_G4, h_76_G4, h_77_G4, h_78_G4⟩ (fun j hj => (show _ = _ from by rw [hG4, up_ne (by omega)]).trans ((show _ = _ from by rw [hG3, up_ne (by omega)]).trans ((hf_G2 j hj : _).trans (hf_G1 j hj)))))
      refine k_iload_n C dX7_withdraw_72 rfl (j := 0) rfl ?_
      refine k_bipush C (v := 75) dX7_withdraw_73 (by decide) ?_
      refine k_icmp_le C 83 dX7_withdraw_75 (by decide) (fun c_75 => ?_) (fun c_75 => ?_)
      · skip
        refine k_iload_n C dX7_withdraw_83 rfl (j := 0) rfl ?_
        refine k_congS (st' := [.int (mCut (mSave f st) (vN h))]) (congrArg (fun (z9 : Int32) => ([.int z9] : List Value)) (show ((100 * ((mSave f st) (16 + (vN h)))) / (((mSave f st) (6 + (vN h))) + ((mSave f st) (16 + (vN h)))) : Int32) = mCut (mSave f st) (vN h) from by rw [mCut, mCutV, if_neg (Int32.not_lt.mpr c_75)])) ?_
        exact jn84
      · skip
        refine k_bipush C (v := 75) dX7_withdraw_78 (by decide) ?_
        refine k_goto C 84 dX7_withdraw_80 (by decide) ?_
        refine k_congS (st' := [.int (mCut (mSave f st) (vN h))]) (congrArg (fun (z9 : Int32) => ([.int z9] : List Value)) (show (75 : Int32) = mCut (mSave f st) (vN h) from by rw [mCut, mCutV, if_pos (Int32.not_le.mp c_75)])) ?_
        exact jn84
    · skip
      have c_30 := bI_f c_30
      have hT := of_decide_eq_false c_30
      refine k_iconst C (v := 0) dX7_withdraw_33 (by decide) ?_
      exact k_iret C hQ rfl rfl dX7_withdraw_34 ⟨fun h9 => absurd h9 hT, fun _ => ⟨rfl, ⟨hM_G1.1, hM_G1.2.1, hM_G1.2.2.1, hM_G1.2.2.2.1, hM_G1.2.2.2.2.1, hM_G1.2.2.2.2.2⟩⟩, fun j hj => hf_G1 j hj⟩
  refine k_aload_n C dX7_withdraw_6 rfl (j := 0) rfl ?_
  refine k_iload_n C dX7_withdraw_7 rfl (j := 1) rfl ?_
  refine k_callVir C (As := [.int h]) (rest := [.int (bI (mIsH f h)), .ref (ad 73)]) 73 (m_X7_runs l D cI cC cZ cB cJ ad N G f kp tx fi gr st ty th at0 re nh nb nl h (by omega) ⟨hM.1, hM.2.1, hM.2.2.1, hM.2.2.2.1, hM.2.2.2.2.1, hM.2.2.2.2.2⟩ hH ) gX7_withdraw_X7_runs rfl kd_X7_runs rfl rfl ⟨Nat.le_of_ble_eq_true rfl, Nat.le_of_ble_eq_true rfl⟩ (by omega) hM.1 rfl rfl rfl (Nat.le_of_ble_eq_true rfl) ⟨Nat.zero_le _, Nat.zero_le _⟩ dX7_withdraw_8 ?_
  refine k_if_eq C 25 dX7_withdraw_11 (by decide) (fun c_11 => ?_) (fun c_11 => ?_)
  · skip
    have c_11 := bI_f c_11
    refine k_iconst C (v := 0) dX7_withdraw_25 (by decide) ?_
    refine k_congS (st' := [.int (bI (mRuns f h && mOpen f)), .int (bI (mIsH f h)), .ref (ad 73)]) (congrArg (fun (z9 : Int32) => ([.int z9, .int (bI (mIsH f h)), .ref (ad 73)] : List Value)) (show (0 : Int32) = bI (mRuns f h && mOpen f) from by simp [bI, c_11])) ?_
    exact jn26
  · skip
    have c_11 := bI_t c_11
    refine k_aload_n C dX7_withdraw_14 rfl (j := 0) rfl ?_
    refine k_callVir C (As := []) (rest := [.int (bI (mIsH f h)), .ref (ad 73)]) 73 (m_X7_isOpen l D cI cC cZ cB cJ ad N G f kp tx fi gr st ty th at0 re nh nb nl (by omega) ⟨hM.1, hM.2.1, hM.2.2.1, hM.2.2.2.1, hM.2.2.2.2.1, hM.2.2.2.2.2⟩ ) gX7_withdraw_X7_isOpen rfl kd_X7_isOpen rfl rfl ⟨Nat.le_of_ble_eq_true rfl, Nat.le_of_ble_eq_true rfl⟩ (by omega) hM.1 rfl rfl rfl (Nat.le_of_ble_eq_true rfl) ⟨Nat.zero_le _, Nat.zero_le _⟩ dX7_withdraw_15 ?_
    refine k_if_eq C 25 dX7_withdraw_18 (by decide) (fun c_18 => ?_) (fun c_18 => ?_)
    · skip
      have c_18 := bI_f c_18
      refine k_iconst C (v := 0) dX7_withdraw_25 (by decide) ?_
      refine k_congS (st' := [.int (bI (mRuns f h && mOpen f)), .int (bI (mIsH f h)), .ref (ad 73)]) (congrArg (fun (z9 : Int32) => ([.int z9, .int (bI (mIsH f h)), .ref (ad 73)] : List Value)) (show (0 : Int32) = bI (mRuns f h && mOpen f) from by simp [bI, c_11, c_18])) ?_
      exact jn26
    · skip
      have c_18 := bI_t c_18
      refine k_iconst C (v := 1) dX7_withdraw_21 (by decide) ?_
      refine k_goto C 26 dX7_withdraw_22 (by decide) ?_
      refine k_congS (st' := [.int (bI (mRuns f h && mOpen f)), .int (bI (mIsH f h)), .ref (ad 73)]) (congrArg (fun (z9 : Int32) => ([.int z9, .int (bI (mIsH f h)), .ref (ad 73)] : List Value)) (show (1 : Int32) = bI (mRuns f h && mOpen f) from by simp [bI, c_11, c_18])) ?_
      exact jn26
theorem inX7_set_7 : ∀ w ∈ wsX70, w ∈ wsX7_set := fun _ h => List.mem_cons_of_mem _ (List.mem_append_right _ h)
theorem kd_X7_set : yX7_set.cls = RX7 ∧ yX7_set.cls ≠ "java/lang/invoke/MethodHandle" ∧ yX7_set.cls ≠ "java/lang/invoke/VarHandle" ∧ (parseMethodDescriptor yX7_set.desc).map (fun d => d.parameters.length) = some 2 := by decide +kernel
abbrev rX7_set : Room := ({ frames := 2, cells := 0, slots := 0, locals := 44 } : Room)
set_option maxRecDepth 100000 in
set_option maxHeartbeats 4000000 in
/-- model: set -/
theorem m_X7_set (l : Launch) (D : va_G) (cI cC cZ cB cJ : ClassId) (ad : Nat → Nat) (N : Nat) (G : Nat → va_E) (f kp tx fi gr : Nat → Int32) (st ty : Nat) (th at0 re : Int32) (nh nb nl : Nat) (k0 y : Int32) (hN : 79 ≤ N) (hM : isMo ad cI cC cZ G f kp tx fi gr st ty th at0 re) (hS0 : st ≤ 6) : kMi l yX7_set wsX7_set rX7_set D (kT5 cI cC cZ cB cJ) ad N G [.ref (ad 73), .int k0, .int y] (fun r G' => (mTh (mIn k0 0 1) (jFits k0 y) (mOpen f) = 0 → r = (f (4 + vN k0)) ∧ isMo ad cI cC cZ G' (upd (mSave f st) (4 + vN k0) y) kp tx fi gr (mSt st) ty (mTh (mIn k0 0 1) (jFits k0 y) (mOpen f)) at0 re) ∧ (¬ mTh (mIn k0 0 1) (jFits k0 y) (mOpen f) = 0 → r = 0 ∧ isMo ad cI cC cZ G' f kp tx fi gr st ty (mTh (mIn k0 0 1) (jFits k0 y) (mOpen f)) at0 re) ∧ ∀ j, (j < 73 ∨ 79 ≤ j) → G' j = G j) := by
  refine k_starti (cc := cX7_set) (ret := (some .int)) (maxL := 5) (lv0 := [(0, .ref (ad 73)), (1, .int k0), (2, .int y)]) (by decide) rfl (Nat.le_of_ble_eq_true rfl) rfl ?_
  intro p e s m args below meth c A Q C hQ
  have jn29 : kJ p l e rX7_set s m args below meth c 0 0 Q 5 D ad N A G 29 [(0, .ref (ad 73)), (1, .int k0), (2, .int y)] [.int (bI (jFits k0 y))] := by
    refine k_istore_n C (lv' := [(3, .int (bI (jFits k0 y))), (0, .ref (ad 73)), (1, .int k0), (2, .int y)]) dX7_set_29 rfl (by decide) rfl ?_
    refine k_aload_n C dX7_set_30 rfl (j := 1) rfl ?_
    refine k_iload_n C dX7_set_31 rfl (j := 2) rfl ?_
    refine k_iconst C (v := 0) dX7_set_32 (by decide) ?_
    refine k_iconst C (v := 1) dX7_set_33 (by decide) ?_
    refine k_callSir C (As := [.int k0, .int 0, .int 1]) (rest := [.ref (ad 73)]) (m_X7_in l D cI cC cZ cB cJ ad N G k0 0 1) gX7_set_X7_in rfl kd_X7_in rfl rfl ⟨Nat.le_of_ble_eq_true rfl, Nat.le_of_ble_eq_true rfl⟩ rfl rfl (Nat.le_of_ble_eq_true rfl) ⟨Nat.zero_le _, Nat.zero_le _⟩ dX7_set_34 ?_
    refine k_iload_n C dX7_set_37 rfl (j := 0) rfl ?_
    refine k_aload_n C dX7_set_38 rfl (j := 1) rfl ?_
    refine k_callVir C (As := []) (rest := [.int (bI (jFits k0 y)), .int (bI (mIn k0 0 1)), .ref (ad 73)]) 73 (m_X7_isOpen l D cI cC cZ cB cJ ad N G f kp tx fi gr st ty th at0 re nh nb nl (by omega) ⟨hM.1, hM.2.1, hM.2.2.1, hM.2.2.2.1, hM.2.2.2.2.1, hM.2.2.2.2.2⟩ ) gX7_set_X7_isOpen rfl kd_X7_isOpen rfl rfl ⟨Nat.le_of_ble_eq_true rfl, Nat.le_of_ble_eq_true rfl⟩ (by omega) hM.1 rfl rfl rfl (Nat.le_of_ble_eq_true rfl) ⟨Nat.zero_le _, Nat.zero_le _⟩ dX7_set_39 ?_
    refine k_callVi C (As := [.int (bI (mIn k0 0 1)), .int (bI (jFits k0 y)), .int (bI (mOpen f))]) (rest := []) 73 (m_X7_goes l D cI cC cZ cB cJ ad N G f kp tx fi gr st ty th at0 re nh nb nl (mIn k0 0 1) (jFits k0 y) (mOpen f) (by omega) ⟨hM.1, hM.2.1, hM.2.2.1, hM.2.2.2.1, hM.2.2.2.2.1, hM.2.2.2.2.2⟩ ) gX7_set_X7_goes rfl kd_X7_goes rfl rfl ⟨Nat.le_of_ble_eq_true rfl, Nat.le_of_ble_eq_true rfl⟩ (by omega) hM.1 rfl rfl rfl (Nat.le_of_ble_eq_true rfl) ⟨Nat.zero_le _, Nat.zero_le _⟩ dX7_set_42 (fun r_42 G1 hG1 => ?_)
    obtain ⟨e_r_42, hM_G1, hf_G1⟩ := hG1
    subst e_r_42
    refine k_if_ne C 50 dX7_set_45 (by decide) (fun c_45 => ?_) (fun c_45 => ?_)
    · skip
      have c_45 := bI_t c_45
      have hT := of_decide_eq_true c_45
      obtain ⟨hA1, hA2, hA3⟩ := mTh_0 hT
      have hj := vN_in 1 (by decide) hA1
      refine k_aload_n C dX7_set_50 rfl (j := 1) rfl ?_
      refine k_callVv C (As := []) (rest := []) 73 (m_X7_saves l D cI cC cZ cB cJ ad N G1 f kp tx fi gr st ty (mTh ((mIn k0 0 1)) ((jFits k0 y)) ((mOpen f))) at0 re nh nb nl (by omega) ⟨hM_G1.1, hM_G1.2.1, hM_G1.2.2.1, hM_G1.2.2.2.1, hM_G1.2.2.2.2.1, hM_G1.2.2.2.2.2⟩ hS0 ) gX7_set_X7_saves rfl kd_X7_saves rfl rfl ⟨Nat.le_of_ble_eq_true rfl, Nat.le_of_ble_eq_true rfl⟩ (by omega) hM_G1.1 rfl rfl rfl (Nat.le_of_ble_eq_true rfl) ⟨Nat.zero_le _, Nat.zero_le _⟩ dX7_set_51 (fun G2 hG2 => ?_)
      obtain ⟨hM_G2, hf_G2⟩ := hG2
      refine k_aload_n C dX7_set_54 rfl (j := 1) rfl ?_
      refine k_get C 73 inX7_set_7 (by omega) hM_G2.1 rfl 0 (by decide) (List.mem_of_getElem? (i := 2) rfl) rfl rfl dX7_set_55 ?_
      refine k_iconst C (v := 4) dX7_set_58 (by decide) ?_
      refine k_iload_n C dX7_set_59 rfl (j := 2) rfl ?_
      refine k_iadd C dX7_set_60 ?_
      refine k_ialdN C 74 0 (by omega) hM_G2.2.1 rfl (4 + (vN k0)) (knAdd rfl hj.1) (by omega) (Nat.le_of_ble_eq_true rfl) dX7_set_61 ?_
      refine k_istore C (lv' := [(4, .int ((mSave f st) (4 + (vN k0)))), (3, .int (bI (jFits k0 y))), (0, .ref (ad 73)), (1, .int k0), (2, .int y)]) dX7_set_62 (by decide) rfl ?_
      refine k_aload_n C dX7_set_64 rfl (j := 2) rfl ?_
      refine k_get C 73 inX7_set_7 (by omega) hM_G2.1 rfl 0 (by decide) (List.mem_of_getElem? (i := 2) rfl) rfl rfl dX7_set_65 ?_
      refine k_iconst C (v := 4) dX7_set_68 (by decide) ?_
      refine k_iload_n C dX7_set_69 rfl (j := 3) rfl ?_
      refine k_iadd C dX7_set_70 ?_
      refine k_iload_n C dX7_set_71 rfl (j := 4) rfl ?_
      refine k_iastN C 74 0 (by omega) hM_G2.2.1 rfl (4 + (vN k0)) (knAdd rfl hj.1) (by omega) (Nat.le_of_ble_eq_true rfl) dX7_set_72 (fun G3 hG3 => ?_)
      have h_73_G3 : G3 73 = .inr (7, [.ref (ad 74), .int (nI (mSt st)), .ref (ad 75), .int (mTh ((mIn k0 0 1)) ((jFits k0 y)) ((mOpen f))), .ref (ad 76), .int (nI ty), .int at0, .ref (ad 77), .ref (ad 78), .int re]) := up_at hG3 hM_G2.1 (by omega)
      have h_75_G3 : G3 75 = .inl (cZ, 2, .inl kp) := up_at hG3 hM_G2.2.2.1 (by omega)
      have h_76_G3 : G3 76 = .inl (cC, 30, .inl tx) := up_at hG3 hM_G2.2.2.2.1 (by omega)
      have h_77_G3 : G3 77 = .inl (cI, 10, .inl fi) := up_at hG3 hM_G2.2.2.2.2.1 (by omega)
      have h_78_G3 : G3 78 = .inl (cI, 10, .inl gr) := up_at hG3 hM_G2.2.2.2.2.2 (by omega)
      have h_74_G3 : G3 74 = .inl (cI, 2610, .inl (upd (mSave f st) (4 + (vN k0)) y)) := up_it hG3
      refine k_iload C dX7_set_73 (j := 0) rfl ?_
      exact k_iret C hQ rfl rfl dX7_set_75 ⟨fun _ => ⟨(mSave_low f st (by omega)), ⟨h_73_G3, h_74_G3, h_75_G3, h_76_G3, h_77_G3, h_78_G3⟩⟩, fun h9 => absurd hT h9, fun j hj => (show _ = _ from by rw [hG3, up_ne (by omega)]).trans ((hf_G2 j hj : _).trans (hf_G1 j hj))⟩
    · skip
      have c_45 := bI_f c_45
      have hT := of_decide_eq_false c_45
      refine k_iconst C (v := 0) dX7_set_48 (by decide) ?_
      exact k_iret C hQ rfl rfl dX7_set_49 ⟨fun h9 => absurd h9 hT, fun _ => ⟨rfl, ⟨hM_G1.1, hM_G1.2.1, hM_G1.2.2.1, hM_G1.2.2.2.1, hM_G1.2.2.2.2.1, hM_G1.2.2.2.2.2⟩⟩, fun j hj => hf_G1 j hj⟩
  refine k_iload_n C dX7_set_0 rfl (j := 1) rfl ?_
  refine k_if_ne C 22 dX7_set_1 (by decide) (fun c_1 => ?_) (fun c_1 => ?_)
  · skip
    refine k_iload_n C dX7_set_22 rfl (j := 2) rfl ?_
    refine k_iconst C (v := 0) dX7_set_23 (by decide) ?_
    refine k_ldc C (v := 99999) dX7_set_24 (List.mem_of_getElem? (i := 1) rfl) ?_
    refine k_callSir C (As := [.int y, .int 0, .int 99999]) (rest := []) (m_X7_in l D cI cC cZ cB cJ ad N G y 0 99999) gX7_set_X7_in rfl kd_X7_in rfl rfl ⟨Nat.le_of_ble_eq_true rfl, Nat.le_of_ble_eq_true rfl⟩ rfl rfl (Nat.le_of_ble_eq_true rfl) ⟨Nat.zero_le _, Nat.zero_le _⟩ dX7_set_26 ?_
    refine k_congS (st' := [.int (bI (jFits k0 y))]) (congrArg (fun (z9 : Int32) => ([.int z9] : List Value)) (show (bI (mIn y 0 99999) : Int32) = bI (jFits k0 y) from by simp [bI, c_1, jFits, mIn])) ?_
    exact jn29
  · skip
    refine k_iload_n C dX7_set_4 rfl (j := 2) rfl ?_
    refine k_iconst C (v := 4) dX7_set_5 (by decide) ?_
    refine k_icmp_eq C 14 dX7_set_6 (by decide) (fun c_6 => ?_) (fun c_6 => ?_)
    · skip
      refine k_iconst C (v := 1) dX7_set_14 (by decide) ?_
      refine k_goto C 29 dX7_set_15 (by decide) ?_
      refine k_congS (st' := [.int (bI (jFits k0 y))]) (congrArg (fun (z9 : Int32) => ([.int z9] : List Value)) (show (1 : Int32) = bI (jFits k0 y) from by simp [bI, c_1, c_6, jFits, mIn])) ?_
      exact jn29
    · skip
      refine k_iload_n C dX7_set_9 rfl (j := 2) rfl ?_
      refine k_iconst C (v := 5) dX7_set_10 (by decide) ?_
      refine k_icmp_ne C 18 dX7_set_11 (by decide) (fun c_11 => ?_) (fun c_11 => ?_)
      · skip
        refine k_iconst C (v := 0) dX7_set_18 (by decide) ?_
        refine k_goto C 29 dX7_set_19 (by decide) ?_
        refine k_congS (st' := [.int (bI (jFits k0 y))]) (congrArg (fun (z9 : Int32) => ([.int z9] : List Value)) (show (0 : Int32) = bI (jFits k0 y) from by simp [bI, c_1, c_6, c_11, jFits, mIn])) ?_
        exact jn29
      · skip
        refine k_iconst C (v := 1) dX7_set_14 (by decide) ?_
        refine k_goto C 29 dX7_set_15 (by decide) ?_
        refine k_congS (st' := [.int (bI (jFits k0 y))]) (congrArg (fun (z9 : Int32) => ([.int z9] : List Value)) (show (1 : Int32) = bI (jFits k0 y) from by simp [bI, c_1, c_6, c_11, jFits, mIn])) ?_
        exact jn29
theorem inX7_append_7 : ∀ w ∈ wsX70, w ∈ wsX7_append := fun _ h => List.mem_cons_of_mem _ (List.mem_append_right _ h)
theorem kd_X7_append : yX7_append.cls = RX7 ∧ yX7_append.cls ≠ "java/lang/invoke/MethodHandle" ∧ yX7_append.cls ≠ "java/lang/invoke/VarHandle" ∧ (parseMethodDescriptor yX7_append.desc).map (fun d => d.parameters.length) = some 1 := by decide +kernel
abbrev rX7_append : Room := ({ frames := 1, cells := 0, slots := 0, locals := 23 } : Room)
set_option maxRecDepth 100000 in
set_option maxHeartbeats 4000000 in
/-- model: append -/
theorem m_X7_append (l : Launch) (D : va_G) (cI cC cZ cB cJ : ClassId) (ad : Nat → Nat) (N : Nat) (G : Nat → va_E) (f kp tx fi gr : Nat → Int32) (st ty : Nat) (th at0 re : Int32) (nh nb nl : Nat) (y : Int32) (hN : 79 ≤ N) (hM : isMo ad cI cC cZ G f kp tx fi gr st ty th at0 re) (hT0 : ty ≤ 30) : kMi l yX7_append wsX7_append rX7_append D (kT5 cI cC cZ cB cJ) ad N G [.ref (ad 73), .int y] (fun r G' => (mTh (mIn y 33 126) (!(decide (30 ≤ nI ty))) true = 0 → r = (nI (ty + 1)) ∧ isMo ad cI cC cZ G' f kp (upd tx ty y) fi gr st (ty + 1) (mTh (mIn y 33 126) (!(decide (30 ≤ nI ty))) true) at0 re) ∧ (¬ mTh (mIn y 33 126) (!(decide (30 ≤ nI ty))) true = 0 → r = 0 ∧ isMo ad cI cC cZ G' f kp tx fi gr st ty (mTh (mIn y 33 126) (!(decide (30 ≤ nI ty))) true) at0 re) ∧ ∀ j, (j < 73 ∨ 79 ≤ j) → G' j = G j) := by
  refine k_starti (cc := cX7_append) (ret := (some .int)) (maxL := 2) (lv0 := [(0, .ref (ad 73)), (1, .int y)]) (by decide) rfl (Nat.le_of_ble_eq_true rfl) rfl ?_
  intro p e s m args below meth c A Q C hQ
  refine k_aload_n C dX7_append_0 rfl (j := 0) rfl ?_
  refine k_iload_n C dX7_append_1 rfl (j := 1) rfl ?_
  refine k_bipush C (v := 33) dX7_append_2 (by decide) ?_
  refine k_bipush C (v := 126) dX7_append_4 (by decide) ?_
  refine k_callSir C (As := [.int y, .int 33, .int 126]) (rest := [.ref (ad 73)]) (m_X7_in l D cI cC cZ cB cJ ad N G y 33 126) gX7_append_X7_in rfl kd_X7_in rfl rfl ⟨Nat.le_of_ble_eq_true rfl, Nat.le_of_ble_eq_true rfl⟩ rfl rfl (Nat.le_of_ble_eq_true rfl) ⟨Nat.zero_le _, Nat.zero_le _⟩ dX7_append_6 ?_
  have jn23 : kJ p l e rX7_append s m args below meth c 0 0 Q 2 D ad N A G 23 [(0, .ref (ad 73)), (1, .int y)] [.int (bI (!(decide (30 ≤ nI ty)))), .int (bI (mIn y 33 126)), .ref (ad 73)] := by
    refine k_iconst C (v := 1) dX7_append_23 (by decide) ?_
    refine k_callVi C (As := [.int (bI (mIn y 33 126)), .int (bI (!(decide (30 ≤ nI ty)))), .int 1]) (rest := []) 73 (m_X7_goes l D cI cC cZ cB cJ ad N G f kp tx fi gr st ty th at0 re nh nb nl (mIn y 33 126) (!(decide (30 ≤ nI ty))) true (by omega) ⟨hM.1, hM.2.1, hM.2.2.1, hM.2.2.2.1, hM.2.2.2.2.1, hM.2.2.2.2.2⟩ ) gX7_append_X7_goes rfl kd_X7_goes rfl rfl ⟨Nat.le_of_ble_eq_true rfl, Nat.le_of_ble_eq_true rfl⟩ (by omega) hM.1 rfl rfl rfl (Nat.le_of_ble_eq_true rfl) ⟨Nat.zero_le _, Nat.zero_le _⟩ dX7_append_24 (fun r_24 G1 hG1 => ?_)
    obtain ⟨e_r_24, hM_G1, hf_G1⟩ := hG1
    subst e_r_24
    refine k_if_ne C 32 dX7_append_27 (by decide) (fun c_27 => ?_) (fun c_27 => ?_)
    · skip
      have c_27 := bI_t c_27
      have hT := of_decide_eq_true c_27
      obtain ⟨hA1, hA2, hA3⟩ := mTh_0 hT
      have hlt : ty < 30 := m_room (k := 30) rfl (by decide) (by omega) hA2
      refine k_aload_n C dX7_append_32 rfl (j := 0) rfl ?_
      refine k_get C 73 inX7_append_7 (by omega) hM_G1.1 rfl 4 (by decide) (List.mem_of_getElem? (i := 2) rfl) rfl rfl dX7_append_33 ?_
      refine k_aload_n C dX7_append_36 rfl (j := 0) rfl ?_
      refine k_get C 73 inX7_append_7 (by omega) hM_G1.1 rfl 5 (by decide) (List.mem_of_getElem? (i := 1) rfl) rfl rfl dX7_append_37 ?_
      refine k_iload_n C dX7_append_40 rfl (j := 1) rfl ?_
      refine k_i2c C dX7_append_41 ?_
      refine k_castN C 76 1 (by omega) hM_G1.2.2.2.1 rfl ty rfl (by omega) (Nat.le_of_ble_eq_true rfl) dX7_append_42 (fun G2 hG2 => ?_)
      have h_73_G2 : G2 73 = .inr (7, [.ref (ad 74), .int (nI st), .ref (ad 75), .int (mTh ((mIn y 33 126)) ((!(decide (30 ≤ nI ty)))) true), .ref (ad 76), .int (nI ty), .int at0, .ref (ad 77), .ref (ad 78), .int re]) := up_at hG2 hM_G1.1 (by omega)
      have h_74_G2 : G2 74 = .inl (cI, 2610, .inl f) := up_at hG2 hM_G1.2.1 (by omega)
      have h_75_G2 : G2 75 = .inl (cZ, 2, .inl kp) := up_at hG2 hM_G1.2.2.1 (by omega)
      have h_77_G2 : G2 77 = .inl (cI, 10, .inl fi) := up_at hG2 hM_G1.2.2.2.2.1 (by omega)
      have h_78_G2 : G2 78 = .inl (cI, 10, .inl gr) := up_at hG2 hM_G1.2.2.2.2.2 (by omega)
      have h_76_G2 : G2 76 = .inl (cC, 30, .inl (upd tx ty y)) := by rw [up_it hG2]; rw [m_chr hA1]
      refine k_aload_n C dX7_append_43 rfl (j := 0) rfl ?_
      refine k_dup C dX7_append_44 rfl ?_
      refine k_get C 73 inX7_append_7 (by omega) h_73_G2 rfl 5 (by decide) (List.mem_of_getElem? (i := 1) rfl) rfl rfl dX7_append_45 ?_
      refine k_iconst C (v := 1) dX7_append_48 (by decide) ?_
      refine k_iadd C dX7_append_49 ?_
      refine k_put C 73 inX7_append_7 tyX7 tyX7_ok nmX7 (by omega) h_73_G2 rfl 5 (by decide) (List.mem_of_getElem? (i := 1) rfl) rfl rfl rfl rfl (Nat.le_of_ble_eq_true rfl) dX7_append_50 (fun G3 hG3 => ?_)
      have h_74_G3 : G3 74 = .inl (cI, 2610, .inl f) := up_at hG3 h_74_G2 (by omega)
      have h_75_G3 : G3 75 = .inl (cZ, 2, .inl kp) := up_at hG3 h_75_G2 (by omega)
      have h_77_G3 : G3 77 = .inl (cI, 10, .inl fi) := up_at hG3 h_77_G2 (by omega)
      have h_78_G3 : G3 78 = .inl (cI, 10, .inl gr) := up_at hG3 h_78_G2 (by omega)
      have h_76_G3 : G3 76 = .inl (cC, 30, .inl (upd tx ty y)) := up_at hG3 h_76_G2 (by omega)
      have h_73_G3 : G3 73 = .inr (7, [.ref (ad 74), .int (nI st), .ref (ad 75), .int (mTh ((mIn y 33 126)) ((!(decide (30 ≤ nI ty)))) true), .ref (ad 76), .int (nI (ty + 1)), .int at0, .ref (ad 77), .ref (ad 78), .int re]) := by rw [up_it hG3]; rw [nI_1]; rfl
      refine k_aload_n C dX7_append_53 rfl (j := 0) rfl ?_
      refine k_get C 73 inX7_append_7 (by omega) h_73_G3 rfl 5 (by decide) (List.mem_of_getElem? (i := 1) rfl) rfl rfl dX7_append_54 ?_
      exact k_iret C hQ rfl rfl dX7_append_57 ⟨fun _ => ⟨rfl, ⟨h_73_G3, h_74_G3, h_75_G3, h_76_G3, h_77_G3, h_78_G3⟩⟩, fun h9 => absurd hT h9, fun j hj => (show _ = _ from by rw [hG3, up_ne (by omega)]).trans ((show _ = _ from by rw [hG2, up_ne (by omega)]).trans (hf_G1 j hj))⟩
    · skip
      have c_27 := bI_f c_27
      have hT := of_decide_eq_false c_27
      refine k_iconst C (v := 0) dX7_append_30 (by decide) ?_
      exact k_iret C hQ rfl rfl dX7_append_31 ⟨fun h9 => absurd h9 hT, fun _ => ⟨rfl, ⟨hM_G1.1, hM_G1.2.1, hM_G1.2.2.1, hM_G1.2.2.2.1, hM_G1.2.2.2.2.1, hM_G1.2.2.2.2.2⟩⟩, fun j hj => hf_G1 j hj⟩
  refine k_aload_n C dX7_append_9 rfl (j := 0) rfl ?_
  refine k_get C 73 inX7_append_7 (by omega) hM.1 rfl 5 (by decide) (List.mem_of_getElem? (i := 1) rfl) rfl rfl dX7_append_10 ?_
  refine k_bipush C (v := 30) dX7_append_13 (by decide) ?_
  refine k_icmp_ge C 22 dX7_append_15 (by decide) (fun c_15 => ?_) (fun c_15 => ?_)
  · skip
    refine k_iconst C (v := 0) dX7_append_22 (by decide) ?_
    refine k_congS (st' := [.int (bI (!(decide (30 ≤ nI ty)))), .int (bI (mIn y 33 126)), .ref (ad 73)]) (congrArg (fun (z9 : Int32) => ([.int z9, .int (bI (mIn y 33 126)), .ref (ad 73)] : List Value)) (show (0 : Int32) = bI (!(decide (30 ≤ nI ty))) from by simp [bI, c_15])) ?_
    exact jn23
  · skip
    refine k_iconst C (v := 1) dX7_append_18 (by decide) ?_
    refine k_goto C 23 dX7_append_19 (by decide) ?_
    refine k_congS (st' := [.int (bI (!(decide (30 ≤ nI ty)))), .int (bI (mIn y 33 126)), .ref (ad 73)]) (congrArg (fun (z9 : Int32) => ([.int z9, .int (bI (mIn y 33 126)), .ref (ad 73)] : List Value)) (show (1 : Int32) = bI (!(decide (30 ≤ nI ty))) from by simp [bI, c_15])) ?_
    exact jn23
theorem inX7_clearBuffer_7 : ∀ w ∈ wsX70, w ∈ wsX7_clearBuffer := fun _ h => List.mem_cons_of_mem _ (List.mem_append_right _ h)
theorem kd_X7_clearBuffer : yX7_clearBuffer.cls = RX7 ∧ yX7_clearBuffer.cls ≠ "java/lang/invoke/MethodHandle" ∧ yX7_clearBuffer.cls ≠ "java/lang/invoke/VarHandle" ∧ (parseMethodDescriptor yX7_clearBuffer.desc).map (fun d => d.parameters.length) = some 0 := by decide +kernel
abbrev rX7_clearBuffer : Room := ({ frames := 0, cells := 0, slots := 0, locals := 0 } : Room)
set_option maxRecDepth 100000 in
set_option maxHeartbeats 4000000 in
/-- model: clearBuffer -/
theorem m_X7_clearBuffer (l : Launch) (D : va_G) (cI cC cZ cB cJ : ClassId) (ad : Nat → Nat) (N : Nat) (G : Nat → va_E) (f kp tx fi gr : Nat → Int32) (st ty : Nat) (th at0 re : Int32) (nh nb nl : Nat) (hN : 79 ≤ N) (hM : isMo ad cI cC cZ G f kp tx fi gr st ty th at0 re) : kMi l yX7_clearBuffer wsX7_clearBuffer rX7_clearBuffer D (kT5 cI cC cZ cB cJ) ad N G [.ref (ad 73)] (fun r G' => r = (nI ty) ∧ isMo ad cI cC cZ G' f kp tx fi gr st 0 0 at0 re ∧ ∀ j, (j < 73 ∨ 79 ≤ j) → G' j = G j) := by
  refine k_starti (cc := cX7_clearBuffer) (ret := (some .int)) (maxL := 2) (lv0 := [(0, .ref (ad 73))]) (by decide) rfl (Nat.le_of_ble_eq_true rfl) rfl ?_
  intro p e s m args below meth c A Q C hQ
  refine k_aload_n C dX7_clearBuffer_0 rfl (j := 0) rfl ?_
  refine k_iconst C (v := 0) dX7_clearBuffer_1 (by decide) ?_
  refine k_put C 73 inX7_clearBuffer_7 tyX7 tyX7_ok nmX7 (by omega) hM.1 rfl 3 (by decide) (List.mem_of_getElem? (i := 1) rfl) rfl rfl rfl rfl (Nat.le_of_ble_eq_true rfl) dX7_clearBuffer_2 (fun G1 hG1 => ?_)
  have h_74_G1 : G1 74 = .inl (cI, 2610, .inl f) := up_at hG1 hM.2.1 (by omega)
  have h_75_G1 : G1 75 = .inl (cZ, 2, .inl kp) := up_at hG1 hM.2.2.1 (by omega)
  have h_76_G1 : G1 76 = .inl (cC, 30, .inl tx) := up_at hG1 hM.2.2.2.1 (by omega)
  have h_77_G1 : G1 77 = .inl (cI, 10, .inl fi) := up_at hG1 hM.2.2.2.2.1 (by omega)
  have h_78_G1 : G1 78 = .inl (cI, 10, .inl gr) := up_at hG1 hM.2.2.2.2.2 (by omega)
  have h_73_G1 : G1 73 = .inr (7, [.ref (ad 74), .int (nI st), .ref (ad 75), .int 0, .ref (ad 76), .int (nI ty), .int at0, .ref (ad 77), .ref (ad 78), .int re]) := up_it hG1
  refine k_aload_n C dX7_clearBuffer_5 rfl (j := 0) rfl ?_
  refine k_get C 73 inX7_clearBuffer_7 (by omega) h_73_G1 rfl 5 (by decide) (List.mem_of_getElem? (i := 2) rfl) rfl rfl dX7_clearBuffer_6 ?_
  refine k_istore_n C (lv' := [(1, .int (nI ty)), (0, .ref (ad 73))]) dX7_clearBuffer_9 rfl (by decide) rfl ?_
  refine k_aload_n C dX7_clearBuffer_10 rfl (j := 1) rfl ?_
  refine k_iconst C (v := 0) dX7_clearBuffer_11 (by decide) ?_
  refine k_put C 73 inX7_clearBuffer_7 tyX7 tyX7_ok nmX7 (by omega) h_73_G1 rfl 5 (by decide) (List.mem_of_getElem? (i := 2) rfl) rfl rfl rfl rfl (Nat.le_of_ble_eq_true rfl) dX7_clearBuffer_12 (fun G2 hG2 => ?_)
  have h_74_G2 : G2 74 = .inl (cI, 2610, .inl f) := up_at hG2 h_74_G1 (by omega)
  have h_75_G2 : G2 75 = .inl (cZ, 2, .inl kp) := up_at hG2 h_75_G1 (by omega)
  have h_76_G2 : G2 76 = .inl (cC, 30, .inl tx) := up_at hG2 h_76_G1 (by omega)
  have h_77_G2 : G2 77 = .inl (cI, 10, .inl fi) := up_at hG2 h_77_G1 (by omega)
  have h_78_G2 : G2 78 = .inl (cI, 10, .inl gr) := up_at hG2 h_78_G1 (by omega)
  have h_73_G2 : G2 73 = .inr (7, [.ref (ad 74), .int (nI st), .ref (ad 75), .int 0, .ref (ad 76), .int 0, .int at0, .ref (ad 77), .ref (ad 78), .int re]) := up_it hG2
  refine k_iload_n C dX7_clearBuffer_15 rfl (j := 0) rfl ?_
  exact k_iret C hQ rfl rfl dX7_clearBuffer_16 ⟨rfl, ⟨h_73_G2, h_74_G2, h_75_G2, h_76_G2, h_77_G2, h_78_G2⟩, fun j hj => (show _ = _ from by rw [hG2, up_ne (by omega)]).trans ((by rw [hG1, up_ne (by omega)]))⟩
theorem inX7_firstError_7 : ∀ w ∈ wsX70, w ∈ wsX7_firstError := fun _ h => List.mem_cons_of_mem _ (List.mem_append_right _ h)
theorem kd_X7_firstError : yX7_firstError.cls = RX7 ∧ yX7_firstError.cls ≠ "java/lang/invoke/MethodHandle" ∧ yX7_firstError.cls ≠ "java/lang/invoke/VarHandle" ∧ (parseMethodDescriptor yX7_firstError.desc).map (fun d => d.parameters.length) = some 0 := by decide +kernel
abbrev rX7_firstError : Room := ({ frames := 2, cells := 0, slots := 0, locals := 47 } : Room)
set_option maxRecDepth 100000 in
set_option maxHeartbeats 4000000 in
/-- model: firstError -/
theorem m_X7_firstError (l : Launch) (D : va_G) (cI cC cZ cB cJ : ClassId) (ad : Nat → Nat) (N : Nat) (G : Nat → va_E) (f kp tx fi gr : Nat → Int32) (st ty : Nat) (th at0 re : Int32) (nh nb nl : Nat) (hN : 79 ≤ N) (hM : isMo ad cI cC cZ G f kp tx fi gr st ty th at0 re) (hT0 : ty ≤ 30) (hX0 : okX tx ty) : kMi l yX7_firstError wsX7_firstError rX7_firstError D (kT5 cI cC cZ cB cJ) ad N G [.ref (ad 73)] (fun r G' => r = (nI (txWrong (tx, ty))) ∧ ∃ (at0' : Int32), isMo ad cI cC cZ G' f kp tx fi gr st ty 0 (at0') re ∧ ∀ j, (j < 73 ∨ 79 ≤ j) → G' j = G j) := by
  refine k_starti (cc := cX7_firstError) (ret := (some .int)) (maxL := 1) (lv0 := [(0, .ref (ad 73))]) (by decide) rfl (Nat.le_of_ble_eq_true rfl) rfl ?_
  intro p e s m args below meth c A Q C hQ
  refine k_aload_n C dX7_firstError_0 rfl (j := 0) rfl ?_
  refine k_iconst C (v := 0) dX7_firstError_1 (by decide) ?_
  refine k_put C 73 inX7_firstError_7 tyX7 tyX7_ok nmX7 (by omega) hM.1 rfl 3 (by decide) (List.mem_of_getElem? (i := 1) rfl) rfl rfl rfl rfl (Nat.le_of_ble_eq_true rfl) dX7_firstError_2 (fun G1 hG1 => ?_)
  have h_74_G1 : G1 74 = .inl (cI, 2610, .inl f) := up_at hG1 hM.2.1 (by omega)
  have h_75_G1 : G1 75 = .inl (cZ, 2, .inl kp) := up_at hG1 hM.2.2.1 (by omega)
  have h_76_G1 : G1 76 = .inl (cC, 30, .inl tx) := up_at hG1 hM.2.2.2.1 (by omega)
  have h_77_G1 : G1 77 = .inl (cI, 10, .inl fi) := up_at hG1 hM.2.2.2.2.1 (by omega)
  have h_78_G1 : G1 78 = .inl (cI, 10, .inl gr) := up_at hG1 hM.2.2.2.2.2 (by omega)
  have h_73_G1 : G1 73 = .inr (7, [.ref (ad 74), .int (nI st), .ref (ad 75), .int 0, .ref (ad 76), .int (nI ty), .int at0, .ref (ad 77), .ref (ad 78), .int re]) := up_it hG1
  refine k_aload_n C dX7_firstError_5 rfl (j := 0) rfl ?_
  refine k_callVi C (As := []) (rest := []) 73 (m_X7_isArrival l D cI cC cZ cB cJ ad N G1 f kp tx fi gr st ty 0 at0 re nh nb nl (by omega) ⟨h_73_G1, h_74_G1, h_75_G1, h_76_G1, h_77_G1, h_78_G1⟩ hT0 hX0 ) gX7_firstError_X7_isArrival rfl kd_X7_isArrival rfl rfl ⟨Nat.le_of_ble_eq_true rfl, Nat.le_of_ble_eq_true rfl⟩ (by omega) h_73_G1 rfl rfl rfl (Nat.le_of_ble_eq_true rfl) ⟨Nat.zero_le _, Nat.zero_le _⟩ dX7_firstError_6 (fun r_6 G2 hG2 => ?_)
  obtain ⟨e_r_6, hM_G2, hf_G2⟩ := hG2
  subst e_r_6
  refine k_pop C dX7_firstError_9 rfl ?_
  refine k_aload_n C dX7_firstError_10 rfl (j := 0) rfl ?_
  refine k_get C 73 inX7_firstError_7 (by omega) hM_G2.1 rfl 6 (by decide) (List.mem_of_getElem? (i := 2) rfl) rfl rfl dX7_firstError_11 ?_
  exact k_iret C hQ rfl rfl dX7_firstError_14 ⟨rfl, nI (txWrong (tx, ty)), ⟨hM_G2.1, hM_G2.2.1, hM_G2.2.2.1, hM_G2.2.2.2.1, hM_G2.2.2.2.2.1, hM_G2.2.2.2.2.2⟩, fun j hj => (hf_G2 j hj : _).trans ((by rw [hG1, up_ne (by omega)]))⟩
theorem inX7_keep_7 : ∀ w ∈ wsX70, w ∈ wsX7_keep := fun _ h => List.mem_cons_of_mem _ (List.mem_append_right _ h)
theorem kd_X7_keep : yX7_keep.cls = RX7 ∧ yX7_keep.cls ≠ "java/lang/invoke/MethodHandle" ∧ yX7_keep.cls ≠ "java/lang/invoke/VarHandle" ∧ (parseMethodDescriptor yX7_keep.desc).map (fun d => d.parameters.length) = some 1 := by decide +kernel
abbrev rX7_keep : Room := ({ frames := 1, cells := 0, slots := 0, locals := 23 } : Room)
set_option maxRecDepth 100000 in
set_option maxHeartbeats 4000000 in
/-- model: keep -/
theorem m_X7_keep (l : Launch) (D : va_G) (cI cC cZ cB cJ : ClassId) (ad : Nat → Nat) (N : Nat) (G : Nat → va_E) (f kp tx fi gr : Nat → Int32) (st ty : Nat) (th at0 re : Int32) (nh nb nl : Nat) (k0 : Int32) (hN : 79 ≤ N) (hM : isMo ad cI cC cZ G f kp tx fi gr st ty th at0 re) (hB : f 1 = nI nb ∧ nb ≤ 24) : kMi l yX7_keep wsX7_keep rX7_keep D (kT5 cI cC cZ cB cJ) ad N G [.ref (ad 73), .int k0] (fun r G' => (mTh (mIn k0 0 1) true true = 0 → r = (nI nb) ∧ isMo ad cI cC cZ G' (mCp f 0 (7 + vN k0)) (upd kp (vN k0) 1) tx fi gr st ty (mTh (mIn k0 0 1) true true) at0 re) ∧ (¬ mTh (mIn k0 0 1) true true = 0 → r = 0 ∧ isMo ad cI cC cZ G' f kp tx fi gr st ty (mTh (mIn k0 0 1) true true) at0 re) ∧ ∀ j, (j < 73 ∨ 79 ≤ j) → G' j = G j) := by
  refine k_starti (cc := cX7_keep) (ret := (some .int)) (maxL := 2) (lv0 := [(0, .ref (ad 73)), (1, .int k0)]) (by decide) rfl (Nat.le_of_ble_eq_true rfl) rfl ?_
  intro p e s m args below meth c A Q C hQ
  refine k_aload_n C dX7_keep_0 rfl (j := 0) rfl ?_
  refine k_iload_n C dX7_keep_1 rfl (j := 1) rfl ?_
  refine k_iconst C (v := 0) dX7_keep_2 (by decide) ?_
  refine k_iconst C (v := 1) dX7_keep_3 (by decide) ?_
  refine k_callSir C (As := [.int k0, .int 0, .int 1]) (rest := [.ref (ad 73)]) (m_X7_in l D cI cC cZ cB cJ ad N G k0 0 1) gX7_keep_X7_in rfl kd_X7_in rfl rfl ⟨Nat.le_of_ble_eq_true rfl, Nat.le_of_ble_eq_true rfl⟩ rfl rfl (Nat.le_of_ble_eq_true rfl) ⟨Nat.zero_le _, Nat.zero_le _⟩ dX7_keep_4 ?_
  refine k_iconst C (v := 1) dX7_keep_7 (by decide) ?_
  refine k_iconst C (v := 1) dX7_keep_8 (by decide) ?_
  refine k_callVi C (As := [.int (bI (mIn k0 0 1)), .int 1, .int 1]) (rest := []) 73 (m_X7_goes l D cI cC cZ cB cJ ad N G f kp tx fi gr st ty th at0 re nh nb nl (mIn k0 0 1) true true (by omega) ⟨hM.1, hM.2.1, hM.2.2.1, hM.2.2.2.1, hM.2.2.2.2.1, hM.2.2.2.2.2⟩ ) gX7_keep_X7_goes rfl kd_X7_goes rfl rfl ⟨Nat.le_of_ble_eq_true rfl, Nat.le_of_ble_eq_true rfl⟩ (by omega) hM.1 rfl rfl rfl (Nat.le_of_ble_eq_true rfl) ⟨Nat.zero_le _, Nat.zero_le _⟩ dX7_keep_9 (fun r_9 G1 hG1 => ?_)
  obtain ⟨e_r_9, hM_G1, hf_G1⟩ := hG1
  subst e_r_9
  refine k_if_ne C 17 dX7_keep_12 (by decide) (fun c_12 => ?_) (fun c_12 => ?_)
  · skip
    have c_12 := bI_t c_12
    have hT := of_decide_eq_true c_12
    obtain ⟨hA1, hA2, hA3⟩ := mTh_0 hT
    have hj := vN_in 1 (by decide) hA1
    refine k_aload_n C dX7_keep_17 rfl (j := 0) rfl ?_
    refine k_iconst C (v := 0) dX7_keep_18 (by decide) ?_
    refine k_bipush C (v := 7) dX7_keep_19 (by decide) ?_
    refine k_iload_n C dX7_keep_21 rfl (j := 1) rfl ?_
    refine k_iadd C dX7_keep_22 ?_
    refine k_congS (st' := [.int (7 + k0), .int (nI 0), .ref (ad 73)]) (congrArg (fun (z9 : Int32) => ([.int (7 + k0), .int z9, .ref (ad 73)] : List Value)) (show (0) = nI 0 from rfl)) ?_
    refine k_congS (st' := [.int (nI (7 + (vN k0))), .int (nI 0), .ref (ad 73)]) (congrArg (fun (z9 : Int32) => ([.int z9, .int (nI 0), .ref (ad 73)] : List Value)) (show (7 + k0) = nI (7 + (vN k0)) from (knAdd rfl hj.1))) ?_
    refine k_callVv C (As := [.int (nI 0), .int (nI (7 + (vN k0)))]) (rest := []) 73 (m_X7_copies l D cI cC cZ cB cJ ad N G1 f kp tx fi gr st ty (mTh ((mIn k0 0 1)) true true) at0 re nh nb nl 0 (7 + (vN k0)) (by omega) ⟨hM_G1.1, hM_G1.2.1, hM_G1.2.2.1, hM_G1.2.2.2.1, hM_G1.2.2.2.2.1, hM_G1.2.2.2.2.2⟩ (by omega) (by omega) (by omega)) gX7_keep_X7_copies rfl kd_X7_copies rfl rfl ⟨Nat.le_of_ble_eq_true rfl, Nat.le_of_ble_eq_true rfl⟩ (by omega) hM_G1.1 rfl rfl rfl (Nat.le_of_ble_eq_true rfl) ⟨Nat.zero_le _, Nat.zero_le _⟩ dX7_keep_23 (fun G2 hG2 => ?_)
    obtain ⟨hM_G2, hf_G2⟩ := hG2
    refine k_aload_n C dX7_keep_26 rfl (j := 0) rfl ?_
    refine k_get C 73 inX7_keep_7 (by omega) hM_G2.1 rfl 2 (by decide) (List.mem_of_getElem? (i := 1) rfl) rfl rfl dX7_keep_27 ?_
    refine k_iload_n C dX7_keep_30 rfl (j := 1) rfl ?_
    refine k_iconst C (v := 1) dX7_keep_31 (by decide) ?_
    refine k_zastN C 75 2 (by omega) hM_G2.2.2.1 rfl (vN k0) hj.1 (by omega) (Nat.le_of_ble_eq_true rfl) dX7_keep_32 (fun G3 hG3 => ?_)
    have h_73_G3 : G3 73 = .inr (7, [.ref (ad 74), .int (nI st), .ref (ad 75), .int (mTh ((mIn k0 0 1)) true true), .ref (ad 76), .int (nI ty), .int at0, .ref (ad 77), .ref (ad 78), .int re]) := up_at hG3 hM_G2.1 (by omega)
    have h_74_G3 : G3 74 = .inl (cI, 2610, .inl (mCp f 0 ((7 + (vN k0))))) := up_at hG3 hM_G2.2.1 (by omega)
    have h_76_G3 : G3 76 = .inl (cC, 30, .inl tx) := up_at hG3 hM_G2.2.2.2.1 (by omega)
    have h_77_G3 : G3 77 = .inl (cI, 10, .inl fi) := up_at hG3 hM_G2.2.2.2.2.1 (by omega)
    have h_78_G3 : G3 78 = .inl (cI, 10, .inl gr) := up_at hG3 hM_G2.2.2.2.2.2 (by omega)
    have h_75_G3 : G3 75 = .inl (cZ, 2, .inl (upd kp (vN k0) 1)) := by rw [up_it hG3]; rfl
    refine k_aload_n C dX7_keep_33 rfl (j := 0) rfl ?_
    refine k_get C 73 inX7_keep_7 (by omega) h_73_G3 rfl 0 (by decide) (List.mem_of_getElem? (i := 2) rfl) rfl rfl dX7_keep_34 ?_
    refine k_iconst C (v := 1) dX7_keep_37 (by decide) ?_
    refine k_ialdN C 74 0 (by omega) h_74_G3 rfl 1 rfl (by omega) (Nat.le_of_ble_eq_true rfl) dX7_keep_38 ?_
    exact k_iret C hQ rfl rfl dX7_keep_39 ⟨fun _ => ⟨((mCp_low f (by omega) (by decide)).trans hB.1), ⟨h_73_G3, h_74_G3, h_75_G3, h_76_G3, h_77_G3, h_78_G3⟩⟩, fun h9 => absurd hT h9, fun j hj => (show _ = _ from by rw [hG3, up_ne (by omega)]).trans ((hf_G2 j hj : _).trans (hf_G1 j hj))⟩
  · skip
    have c_12 := bI_f c_12
    have hT := of_decide_eq_false c_12
    refine k_iconst C (v := 0) dX7_keep_15 (by decide) ?_
    exact k_iret C hQ rfl rfl dX7_keep_16 ⟨fun h9 => absurd h9 hT, fun _ => ⟨rfl, ⟨hM_G1.1, hM_G1.2.1, hM_G1.2.2.1, hM_G1.2.2.2.1, hM_G1.2.2.2.2.1, hM_G1.2.2.2.2.2⟩⟩, fun j hj => hf_G1 j hj⟩
theorem inX7_goBack_7 : ∀ w ∈ wsX70, w ∈ wsX7_goBack := fun _ h => List.mem_cons_of_mem _ (List.mem_append_right _ h)
theorem kd_X7_goBack : yX7_goBack.cls = RX7 ∧ yX7_goBack.cls ≠ "java/lang/invoke/MethodHandle" ∧ yX7_goBack.cls ≠ "java/lang/invoke/VarHandle" ∧ (parseMethodDescriptor yX7_goBack.desc).map (fun d => d.parameters.length) = some 1 := by decide +kernel
abbrev rX7_goBack : Room := ({ frames := 2, cells := 0, slots := 0, locals := 44 } : Room)
set_option maxRecDepth 100000 in
set_option maxHeartbeats 4000000 in
/-- model: goBack -/
theorem m_X7_goBack (l : Launch) (D : va_G) (cI cC cZ cB cJ : ClassId) (ad : Nat → Nat) (N : Nat) (G : Nat → va_E) (f kp tx fi gr : Nat → Int32) (st ty : Nat) (th at0 re : Int32) (nh nb nl : Nat) (k0 : Int32) (hN : 79 ≤ N) (hM : isMo ad cI cC cZ G f kp tx fi gr st ty th at0 re) (hS0 : st ≤ 6) : kMi l yX7_goBack wsX7_goBack rX7_goBack D (kT5 cI cC cZ cB cJ) ad N G [.ref (ad 73), .int k0] (fun r G' => (mTh (mIn k0 0 1) (mIn k0 0 1 && !(decide (kp (vN k0) = 0))) true = 0 → r = (mCp (mSave f st) (7 + vN k0) 0 1) ∧ isMo ad cI cC cZ G' (mCp (mSave f st) (7 + vN k0) 0) kp tx fi gr (mSt st) ty (mTh (mIn k0 0 1) (mIn k0 0 1 && !(decide (kp (vN k0) = 0))) true) at0 re) ∧ (¬ mTh (mIn k0 0 1) (mIn k0 0 1 && !(decide (kp (vN k0) = 0))) true = 0 → r = 0 ∧ isMo ad cI cC cZ G' f kp tx fi gr st ty (mTh (mIn k0 0 1) (mIn k0 0 1 && !(decide (kp (vN k0) = 0))) true) at0 re) ∧ ∀ j, (j < 73 ∨ 79 ≤ j) → G' j = G j) := by
  refine k_starti (cc := cX7_goBack) (ret := (some .int)) (maxL := 2) (lv0 := [(0, .ref (ad 73)), (1, .int k0)]) (by decide) rfl (Nat.le_of_ble_eq_true rfl) rfl ?_
  intro p e s m args below meth c A Q C hQ
  refine k_aload_n C dX7_goBack_0 rfl (j := 0) rfl ?_
  refine k_iload_n C dX7_goBack_1 rfl (j := 1) rfl ?_
  refine k_iconst C (v := 0) dX7_goBack_2 (by decide) ?_
  refine k_iconst C (v := 1) dX7_goBack_3 (by decide) ?_
  refine k_callSir C (As := [.int k0, .int 0, .int 1]) (rest := [.ref (ad 73)]) (m_X7_in l D cI cC cZ cB cJ ad N G k0 0 1) gX7_goBack_X7_in rfl kd_X7_in rfl rfl ⟨Nat.le_of_ble_eq_true rfl, Nat.le_of_ble_eq_true rfl⟩ rfl rfl (Nat.le_of_ble_eq_true rfl) ⟨Nat.zero_le _, Nat.zero_le _⟩ dX7_goBack_4 ?_
  have jn30 : kJ p l e rX7_goBack s m args below meth c 0 0 Q 2 D ad N A G 30 [(0, .ref (ad 73)), (1, .int k0)] [.int (bI (mIn k0 0 1 && !(decide (kp (vN k0) = 0)))), .int (bI (mIn k0 0 1)), .ref (ad 73)] := by
    refine k_iconst C (v := 1) dX7_goBack_30 (by decide) ?_
    refine k_callVi C (As := [.int (bI (mIn k0 0 1)), .int (bI (mIn k0 0 1 && !(decide (kp (vN k0) = 0)))), .int 1]) (rest := []) 73 (m_X7_goes l D cI cC cZ cB cJ ad N G f kp tx fi gr st ty th at0 re nh nb nl (mIn k0 0 1) (mIn k0 0 1 && !(decide (kp (vN k0) = 0))) true (by omega) ⟨hM.1, hM.2.1, hM.2.2.1, hM.2.2.2.1, hM.2.2.2.2.1, hM.2.2.2.2.2⟩ ) gX7_goBack_X7_goes rfl kd_X7_goes rfl rfl ⟨Nat.le_of_ble_eq_true rfl, Nat.le_of_ble_eq_true rfl⟩ (by omega) hM.1 rfl rfl rfl (Nat.le_of_ble_eq_true rfl) ⟨Nat.zero_le _, Nat.zero_le _⟩ dX7_goBack_31 (fun r_31 G1 hG1 => ?_)
    obtain ⟨e_r_31, hM_G1, hf_G1⟩ := hG1
    subst e_r_31
    refine k_if_ne C 39 dX7_goBack_34 (by decide) (fun c_34 => ?_) (fun c_34 => ?_)
    · skip
      have c_34 := bI_t c_34
      have hT := of_decide_eq_true c_34
      obtain ⟨hA1, hA2, hA3⟩ := mTh_0 hT
      have hj := vN_in 1 (by decide) hA1
      refine k_aload_n C dX7_goBack_39 rfl (j := 0) rfl ?_
      refine k_callVv C (As := []) (rest := []) 73 (m_X7_saves l D cI cC cZ cB cJ ad N G1 f kp tx fi gr st ty (mTh ((mIn k0 0 1)) ((mIn k0 0 1 && !(decide (kp (vN k0) = 0)))) true) at0 re nh nb nl (by omega) ⟨hM_G1.1, hM_G1.2.1, hM_G1.2.2.1, hM_G1.2.2.2.1, hM_G1.2.2.2.2.1, hM_G1.2.2.2.2.2⟩ hS0 ) gX7_goBack_X7_saves rfl kd_X7_saves rfl rfl ⟨Nat.le_of_ble_eq_true rfl, Nat.le_of_ble_eq_true rfl⟩ (by omega) hM_G1.1 rfl rfl rfl (Nat.le_of_ble_eq_true rfl) ⟨Nat.zero_le _, Nat.zero_le _⟩ dX7_goBack_40 (fun G2 hG2 => ?_)
      obtain ⟨hM_G2, hf_G2⟩ := hG2
      refine k_aload_n C dX7_goBack_43 rfl (j := 0) rfl ?_
      refine k_bipush C (v := 7) dX7_goBack_44 (by decide) ?_
      refine k_iload_n C dX7_goBack_46 rfl (j := 1) rfl ?_
      refine k_iadd C dX7_goBack_47 ?_
      refine k_iconst C (v := 0) dX7_goBack_48 (by decide) ?_
      refine k_congS (st' := [.int 0, .int (nI (7 + (vN k0))), .ref (ad 73)]) (congrArg (fun (z9 : Int32) => ([.int 0, .int z9, .ref (ad 73)] : List Value)) (show (7 + k0) = nI (7 + (vN k0)) from (knAdd rfl hj.1))) ?_
      refine k_congS (st' := [.int (nI 0), .int (nI (7 + (vN k0))), .ref (ad 73)]) (congrArg (fun (z9 : Int32) => ([.int z9, .int (nI (7 + (vN k0))), .ref (ad 73)] : List Value)) (show (0) = nI 0 from rfl)) ?_
      refine k_callVv C (As := [.int (nI (7 + (vN k0))), .int (nI 0)]) (rest := []) 73 (m_X7_copies l D cI cC cZ cB cJ ad N G2 (mSave f st) kp tx fi gr (mSt st) ty (mTh ((mIn k0 0 1)) ((mIn k0 0 1 && !(decide (kp (vN k0) = 0)))) true) at0 re nh nb nl (7 + (vN k0)) 0 (by omega) ⟨hM_G2.1, hM_G2.2.1, hM_G2.2.2.1, hM_G2.2.2.2.1, hM_G2.2.2.2.2.1, hM_G2.2.2.2.2.2⟩ (by omega) (by omega) (by omega)) gX7_goBack_X7_copies rfl kd_X7_copies rfl rfl ⟨Nat.le_of_ble_eq_true rfl, Nat.le_of_ble_eq_true rfl⟩ (by omega) hM_G2.1 rfl rfl rfl (Nat.le_of_ble_eq_true rfl) ⟨Nat.zero_le _, Nat.zero_le _⟩ dX7_goBack_49 (fun G3 hG3 => ?_)
      obtain ⟨hM_G3, hf_G3⟩ := hG3
      refine k_aload_n C dX7_goBack_52 rfl (j := 0) rfl ?_
      refine k_get C 73 inX7_goBack_7 (by omega) hM_G3.1 rfl 0 (by decide) (List.mem_of_getElem? (i := 2) rfl) rfl rfl dX7_goBack_53 ?_
      refine k_iconst C (v := 1) dX7_goBack_56 (by decide) ?_
      refine k_ialdN C 74 0 (by omega) hM_G3.2.1 rfl 1 rfl (by omega) (Nat.le_of_ble_eq_true rfl) dX7_goBack_57 ?_
      exact k_iret C hQ rfl rfl dX7_goBack_58 ⟨fun _ => ⟨rfl, ⟨hM_G3.1, hM_G3.2.1, hM_G3.2.2.1, hM_G3.2.2.2.1, hM_G3.2.2.2.2.1, hM_G3.2.2.2.2.2⟩⟩, fun h9 => absurd hT h9, fun j hj => (hf_G3 j hj : _).trans ((hf_G2 j hj : _).trans (hf_G1 j hj))⟩
    · skip
      have c_34 := bI_f c_34
      have hT := of_decide_eq_false c_34
      refine k_iconst C (v := 0) dX7_goBack_37 (by decide) ?_
      exact k_iret C hQ rfl rfl dX7_goBack_38 ⟨fun h9 => absurd h9 hT, fun _ => ⟨rfl, ⟨hM_G1.1, hM_G1.2.1, hM_G1.2.2.1, hM_G1.2.2.2.1, hM_G1.2.2.2.2.1, hM_G1.2.2.2.2.2⟩⟩, fun j hj => hf_G1 j hj⟩
  refine k_iload_n C dX7_goBack_7 rfl (j := 1) rfl ?_
  refine k_iconst C (v := 0) dX7_goBack_8 (by decide) ?_
  refine k_iconst C (v := 1) dX7_goBack_9 (by decide) ?_
  refine k_callSir C (As := [.int k0, .int 0, .int 1]) (rest := [.int (bI (mIn k0 0 1)), .ref (ad 73)]) (m_X7_in l D cI cC cZ cB cJ ad N G k0 0 1) gX7_goBack_X7_in rfl kd_X7_in rfl rfl ⟨Nat.le_of_ble_eq_true rfl, Nat.le_of_ble_eq_true rfl⟩ rfl rfl (Nat.le_of_ble_eq_true rfl) ⟨Nat.zero_le _, Nat.zero_le _⟩ dX7_goBack_10 ?_
  refine k_if_eq C 29 dX7_goBack_13 (by decide) (fun c_13 => ?_) (fun c_13 => ?_)
  · skip
    have c_13 := bI_f c_13
    refine k_iconst C (v := 0) dX7_goBack_29 (by decide) ?_
    refine k_congS (st' := [.int (bI (mIn k0 0 1 && !(decide (kp (vN k0) = 0)))), .int (bI (mIn k0 0 1)), .ref (ad 73)]) (congrArg (fun (z9 : Int32) => ([.int z9, .int (bI (mIn k0 0 1)), .ref (ad 73)] : List Value)) (show (0 : Int32) = bI (mIn k0 0 1 && !(decide (kp (vN k0) = 0))) from by simp [bI, c_13])) ?_
    exact jn30
  · skip
    have c_13 := bI_t c_13
    have hj := vN_in 1 (by decide) c_13
    refine k_aload_n C dX7_goBack_16 rfl (j := 0) rfl ?_
    refine k_get C 73 inX7_goBack_7 (by omega) hM.1 rfl 2 (by decide) (List.mem_of_getElem? (i := 1) rfl) rfl rfl dX7_goBack_17 ?_
    refine k_iload_n C dX7_goBack_20 rfl (j := 1) rfl ?_
    refine k_zaldN C 75 2 (by omega) hM.2.2.1 rfl (vN k0) hj.1 (by omega) (Nat.le_of_ble_eq_true rfl) dX7_goBack_21 ?_
    refine k_if_eq C 29 dX7_goBack_22 (by decide) (fun c_22 => ?_) (fun c_22 => ?_)
    · skip
      refine k_iconst C (v := 0) dX7_goBack_29 (by decide) ?_
      refine k_congS (st' := [.int (bI (mIn k0 0 1 && !(decide (kp (vN k0) = 0)))), .int (bI (mIn k0 0 1)), .ref (ad 73)]) (congrArg (fun (z9 : Int32) => ([.int z9, .int (bI (mIn k0 0 1)), .ref (ad 73)] : List Value)) (show (0 : Int32) = bI (mIn k0 0 1 && !(decide (kp (vN k0) = 0))) from by simp [bI, c_13, c_22])) ?_
      exact jn30
    · skip
      refine k_iconst C (v := 1) dX7_goBack_25 (by decide) ?_
      refine k_goto C 30 dX7_goBack_26 (by decide) ?_
      refine k_congS (st' := [.int (bI (mIn k0 0 1 && !(decide (kp (vN k0) = 0)))), .int (bI (mIn k0 0 1)), .ref (ad 73)]) (congrArg (fun (z9 : Int32) => ([.int z9, .int (bI (mIn k0 0 1)), .ref (ad 73)] : List Value)) (show (1 : Int32) = bI (mIn k0 0 1 && !(decide (kp (vN k0) = 0))) from by simp [bI, c_13, c_22])) ?_
      exact jn30
theorem inX7_undo_7 : ∀ w ∈ wsX70, w ∈ wsX7_undo := fun _ h => List.mem_cons_of_mem _ (List.mem_append_right _ h)
theorem kd_X7_undo : yX7_undo.cls = RX7 ∧ yX7_undo.cls ≠ "java/lang/invoke/MethodHandle" ∧ yX7_undo.cls ≠ "java/lang/invoke/VarHandle" ∧ (parseMethodDescriptor yX7_undo.desc).map (fun d => d.parameters.length) = some 0 := by decide +kernel
abbrev rX7_undo : Room := ({ frames := 1, cells := 0, slots := 0, locals := 23 } : Room)
set_option maxRecDepth 100000 in
set_option maxHeartbeats 4000000 in
/-- model: undo -/
theorem m_X7_undo (l : Launch) (D : va_G) (cI cC cZ cB cJ : ClassId) (ad : Nat → Nat) (N : Nat) (G : Nat → va_E) (f kp tx fi gr : Nat → Int32) (st ty : Nat) (th at0 re : Int32) (nh nb nl : Nat) (hN : 79 ≤ N) (hM : isMo ad cI cC cZ G f kp tx fi gr st ty th at0 re) (hS0 : st ≤ 6) : kMi l yX7_undo wsX7_undo rX7_undo D (kT5 cI cC cZ cB cJ) ad N G [.ref (ad 73)] (fun r G' => (mTh (decide (0 < st)) true true = 0 → r = (nI (st - 1)) ∧ isMo ad cI cC cZ G' (mCp f st 0) kp tx fi gr (st - 1) ty (mTh (decide (0 < st)) true true) at0 re) ∧ (¬ mTh (decide (0 < st)) true true = 0 → r = 0 ∧ isMo ad cI cC cZ G' f kp tx fi gr st ty (mTh (decide (0 < st)) true true) at0 re) ∧ ∀ j, (j < 73 ∨ 79 ≤ j) → G' j = G j) := by
  refine k_starti (cc := cX7_undo) (ret := (some .int)) (maxL := 1) (lv0 := [(0, .ref (ad 73))]) (by decide) rfl (Nat.le_of_ble_eq_true rfl) rfl ?_
  intro p e s m args below meth c A Q C hQ
  refine k_aload_n C dX7_undo_0 rfl (j := 0) rfl ?_
  have jn13 : kJ p l e rX7_undo s m args below meth c 0 0 Q 1 D ad N A G 13 [(0, .ref (ad 73))] [.int (bI (decide (0 < st))), .ref (ad 73)] := by
    refine k_iconst C (v := 1) dX7_undo_13 (by decide) ?_
    refine k_iconst C (v := 1) dX7_undo_14 (by decide) ?_
    refine k_callVi C (As := [.int (bI (decide (0 < st))), .int 1, .int 1]) (rest := []) 73 (m_X7_goes l D cI cC cZ cB cJ ad N G f kp tx fi gr st ty th at0 re nh nb nl (decide (0 < st)) true true (by omega) ⟨hM.1, hM.2.1, hM.2.2.1, hM.2.2.2.1, hM.2.2.2.2.1, hM.2.2.2.2.2⟩ ) gX7_undo_X7_goes rfl kd_X7_goes rfl rfl ⟨Nat.le_of_ble_eq_true rfl, Nat.le_of_ble_eq_true rfl⟩ (by omega) hM.1 rfl rfl rfl (Nat.le_of_ble_eq_true rfl) ⟨Nat.zero_le _, Nat.zero_le _⟩ dX7_undo_15 (fun r_15 G1 hG1 => ?_)
    obtain ⟨e_r_15, hM_G1, hf_G1⟩ := hG1
    subst e_r_15
    refine k_if_ne C 23 dX7_undo_18 (by decide) (fun c_18 => ?_) (fun c_18 => ?_)
    · skip
      have c_18 := bI_t c_18
      have hT := of_decide_eq_true c_18
      obtain ⟨hA1, hA2, hA3⟩ := mTh_0 hT
      have hpos := of_decide_eq_true hA1
      refine k_aload_n C dX7_undo_23 rfl (j := 0) rfl ?_
      refine k_aload_n C dX7_undo_24 rfl (j := 0) rfl ?_
      refine k_get C 73 inX7_undo_7 (by omega) hM_G1.1 rfl 1 (by decide) (List.mem_of_getElem? (i := 1) rfl) rfl rfl dX7_undo_25 ?_
      refine k_iconst C (v := 0) dX7_undo_28 (by decide) ?_
      refine k_congS (st' := [.int (nI 0), .int (nI st), .ref (ad 73)]) (congrArg (fun (z9 : Int32) => ([.int z9, .int (nI st), .ref (ad 73)] : List Value)) (show (0) = nI 0 from rfl)) ?_
      refine k_callVv C (As := [.int (nI st), .int (nI 0)]) (rest := []) 73 (m_X7_copies l D cI cC cZ cB cJ ad N G1 f kp tx fi gr st ty (mTh ((decide (0 < st))) true true) at0 re nh nb nl st 0 (by omega) ⟨hM_G1.1, hM_G1.2.1, hM_G1.2.2.1, hM_G1.2.2.2.1, hM_G1.2.2.2.2.1, hM_G1.2.2.2.2.2⟩ (by omega) (by omega) (by omega)) gX7_undo_X7_copies rfl kd_X7_copies rfl rfl ⟨Nat.le_of_ble_eq_true rfl, Nat.le_of_ble_eq_true rfl⟩ (by omega) hM_G1.1 rfl rfl rfl (Nat.le_of_ble_eq_true rfl) ⟨Nat.zero_le _, Nat.zero_le _⟩ dX7_undo_29 (fun G2 hG2 => ?_)
      obtain ⟨hM_G2, hf_G2⟩ := hG2
      refine k_aload_n C dX7_undo_32 rfl (j := 0) rfl ?_
      refine k_dup C dX7_undo_33 rfl ?_
      refine k_get C 73 inX7_undo_7 (by omega) hM_G2.1 rfl 1 (by decide) (List.mem_of_getElem? (i := 1) rfl) rfl rfl dX7_undo_34 ?_
      refine k_iconst C (v := 1) dX7_undo_37 (by decide) ?_
      refine k_isub C dX7_undo_38 ?_
      refine k_put C 73 inX7_undo_7 tyX7 tyX7_ok nmX7 (by omega) hM_G2.1 rfl 1 (by decide) (List.mem_of_getElem? (i := 1) rfl) rfl rfl rfl rfl (Nat.le_of_ble_eq_true rfl) dX7_undo_39 (fun G3 hG3 => ?_)
      have h_74_G3 : G3 74 = .inl (cI, 2610, .inl (mCp f st 0)) := up_at hG3 hM_G2.2.1 (by omega)
      have h_75_G3 : G3 75 = .inl (cZ, 2, .inl kp) := up_at hG3 hM_G2.2.2.1 (by omega)
      have h_76_G3 : G3 76 = .inl (cC, 30, .inl tx) := up_at hG3 hM_G2.2.2.2.1 (by omega)
      have h_77_G3 : G3 77 = .inl (cI, 10, .inl fi) := up_at hG3 hM_G2.2.2.2.2.1 (by omega)
      have h_78_G3 : G3 78 = .inl (cI, 10, .inl gr) := up_at hG3 hM_G2.2.2.2.2.2 (by omega)
      have h_73_G3 : G3 73 = .inr (7, [.ref (ad 74), .int (nI (st - 1)), .ref (ad 75), .int (mTh ((decide (0 < st))) true true), .ref (ad 76), .int (nI ty), .int at0, .ref (ad 77), .ref (ad 78), .int re]) := by rw [up_it hG3]; rw [show (1 : Int32) = nI 1 from rfl, pk_sub (by omega)]; rfl
      refine k_aload_n C dX7_undo_42 rfl (j := 0) rfl ?_
      refine k_get C 73 inX7_undo_7 (by omega) h_73_G3 rfl 1 (by decide) (List.mem_of_getElem? (i := 1) rfl) rfl rfl dX7_undo_43 ?_
      exact k_iret C hQ rfl rfl dX7_undo_46 ⟨fun _ => ⟨rfl, ⟨h_73_G3, h_74_G3, h_75_G3, h_76_G3, h_77_G3, h_78_G3⟩⟩, fun h9 => absurd hT h9, fun j hj => (show _ = _ from by rw [hG3, up_ne (by omega)]).trans ((hf_G2 j hj : _).trans (hf_G1 j hj))⟩
    · skip
      have c_18 := bI_f c_18
      have hT := of_decide_eq_false c_18
      refine k_iconst C (v := 0) dX7_undo_21 (by decide) ?_
      exact k_iret C hQ rfl rfl dX7_undo_22 ⟨fun h9 => absurd h9 hT, fun _ => ⟨rfl, ⟨hM_G1.1, hM_G1.2.1, hM_G1.2.2.1, hM_G1.2.2.2.1, hM_G1.2.2.2.2.1, hM_G1.2.2.2.2.2⟩⟩, fun j hj => hf_G1 j hj⟩
  refine k_aload_n C dX7_undo_1 rfl (j := 0) rfl ?_
  refine k_get C 73 inX7_undo_7 (by omega) hM.1 rfl 1 (by decide) (List.mem_of_getElem? (i := 1) rfl) rfl rfl dX7_undo_2 ?_
  refine k_if_le C 12 dX7_undo_5 (by decide) (fun c_5 => ?_) (fun c_5 => ?_)
  · skip
    refine k_iconst C (v := 0) dX7_undo_12 (by decide) ?_
    refine k_congS (st' := [.int (bI (decide (0 < st))), .ref (ad 73)]) (congrArg (fun (z9 : Int32) => ([.int z9, .ref (ad 73)] : List Value)) (show (0 : Int32) = bI (decide (0 < st)) from by rw [decide_eq_false (fun q => nI_nle q (by omega) c_5)]; rfl)) ?_
    exact jn13
  · skip
    refine k_iconst C (v := 1) dX7_undo_8 (by decide) ?_
    refine k_goto C 13 dX7_undo_9 (by decide) ?_
    refine k_congS (st' := [.int (bI (decide (0 < st))), .ref (ad 73)]) (congrArg (fun (z9 : Int32) => ([.int z9, .ref (ad 73)] : List Value)) (show (1 : Int32) = bI (decide (0 < st)) from by rw [decide_eq_true (Nat.pos_of_ne_zero (fun q => c_5 (by rw [q]; decide)))]; rfl)) ?_
    exact jn13
theorem inX7_horseOf_7 : ∀ w ∈ wsX70, w ∈ wsX7_horseOf := fun _ h => List.mem_cons_of_mem _ (List.mem_append_right _ h)
theorem kd_X7_horseOf : yX7_horseOf.cls = RX7 ∧ yX7_horseOf.cls ≠ "java/lang/invoke/MethodHandle" ∧ yX7_horseOf.cls ≠ "java/lang/invoke/VarHandle" ∧ (parseMethodDescriptor yX7_horseOf.desc).map (fun d => d.parameters.length) = some 2 := by decide +kernel
abbrev rX7_horseOf : Room := ({ frames := 3, cells := 0, slots := 0, locals := 67 } : Room)
set_option maxRecDepth 100000 in
set_option maxHeartbeats 4000000 in
/-- model: horseOf -/
theorem m_X7_horseOf (l : Launch) (D : va_G) (cI cC cZ cB cJ : ClassId) (ad : Nat → Nat) (N : Nat) (G : Nat → va_E) (f kp tx fi gr : Nat → Int32) (st ty : Nat) (th at0 re : Int32) (nh nb nl : Nat) (h y : Int32) (hN : 79 ≤ N) (hM : isMo ad cI cC cZ G f kp tx fi gr st ty th at0 re) (hH : f 0 = nI nh ∧ nh ≤ 10) (hB : f 1 = nI nb ∧ nb ≤ 24) : kMi l yX7_horseOf wsX7_horseOf rX7_horseOf D (kT5 cI cC cZ cB cJ) ad N G [.ref (ad 73), .int h, .int y] (fun r G' => (mTh (mIsH f h) (mIn y 0 8) true = 0 → r = (mHorse f nb (vN h) (vN y)) ∧ isMo ad cI cC cZ G' f kp tx fi gr st ty (mTh (mIsH f h) (mIn y 0 8) true) at0 re) ∧ (¬ mTh (mIsH f h) (mIn y 0 8) true = 0 → r = 0 ∧ isMo ad cI cC cZ G' f kp tx fi gr st ty (mTh (mIsH f h) (mIn y 0 8) true) at0 re) ∧ ∀ j, (j < 73 ∨ 79 ≤ j) → G' j = G j) := by
  refine k_starti (cc := cX7_horseOf) (ret := (some .int)) (maxL := 3) (lv0 := [(0, .ref (ad 73)), (1, .int h), (2, .int y)]) (by decide) rfl (Nat.le_of_ble_eq_true rfl) rfl ?_
  intro p e s m args below meth c A Q C hQ
  have hn := hH.2
  refine k_aload_n C dX7_horseOf_0 rfl (j := 0) rfl ?_
  refine k_aload_n C dX7_horseOf_1 rfl (j := 0) rfl ?_
  refine k_iload_n C dX7_horseOf_2 rfl (j := 1) rfl ?_
  refine k_callVir C (As := [.int h]) (rest := [.ref (ad 73)]) 73 (m_X7_isHorse l D cI cC cZ cB cJ ad N G f kp tx fi gr st ty th at0 re nh nb nl h (by omega) ⟨hM.1, hM.2.1, hM.2.2.1, hM.2.2.2.1, hM.2.2.2.2.1, hM.2.2.2.2.2⟩ ) gX7_horseOf_X7_isHorse rfl kd_X7_isHorse rfl rfl ⟨Nat.le_of_ble_eq_true rfl, Nat.le_of_ble_eq_true rfl⟩ (by omega) hM.1 rfl rfl rfl (Nat.le_of_ble_eq_true rfl) ⟨Nat.zero_le _, Nat.zero_le _⟩ dX7_horseOf_3 ?_
  refine k_iload_n C dX7_horseOf_6 rfl (j := 2) rfl ?_
  refine k_iconst C (v := 0) dX7_horseOf_7 (by decide) ?_
  refine k_bipush C (v := 8) dX7_horseOf_8 (by decide) ?_
  refine k_callSir C (As := [.int y, .int 0, .int 8]) (rest := [.int (bI (mIsH f h)), .ref (ad 73)]) (m_X7_in l D cI cC cZ cB cJ ad N G y 0 8) gX7_horseOf_X7_in rfl kd_X7_in rfl rfl ⟨Nat.le_of_ble_eq_true rfl, Nat.le_of_ble_eq_true rfl⟩ rfl rfl (Nat.le_of_ble_eq_true rfl) ⟨Nat.zero_le _, Nat.zero_le _⟩ dX7_horseOf_10 ?_
  refine k_iconst C (v := 1) dX7_horseOf_13 (by decide) ?_
  refine k_callVi C (As := [.int (bI (mIsH f h)), .int (bI (mIn y 0 8)), .int 1]) (rest := []) 73 (m_X7_goes l D cI cC cZ cB cJ ad N G f kp tx fi gr st ty th at0 re nh nb nl (mIsH f h) (mIn y 0 8) true (by omega) ⟨hM.1, hM.2.1, hM.2.2.1, hM.2.2.2.1, hM.2.2.2.2.1, hM.2.2.2.2.2⟩ ) gX7_horseOf_X7_goes rfl kd_X7_goes rfl rfl ⟨Nat.le_of_ble_eq_true rfl, Nat.le_of_ble_eq_true rfl⟩ (by omega) hM.1 rfl rfl rfl (Nat.le_of_ble_eq_true rfl) ⟨Nat.zero_le _, Nat.zero_le _⟩ dX7_horseOf_14 (fun r_14 G1 hG1 => ?_)
  obtain ⟨e_r_14, hM_G1, hf_G1⟩ := hG1
  subst e_r_14
  refine k_if_eq C 29 dX7_horseOf_17 (by decide) (fun c_17 => ?_) (fun c_17 => ?_)
  · skip
    have c_17 := bI_f c_17
    have hT := of_decide_eq_false c_17
    refine k_iconst C (v := 0) dX7_horseOf_29 (by decide) ?_
    exact k_iret C hQ rfl rfl dX7_horseOf_30 ⟨fun h9 => absurd h9 hT, fun _ => ⟨rfl, ⟨hM_G1.1, hM_G1.2.1, hM_G1.2.2.1, hM_G1.2.2.2.1, hM_G1.2.2.2.2.1, hM_G1.2.2.2.2.2⟩⟩, fun j hj => hf_G1 j hj⟩
  · skip
    have c_17 := bI_t c_17
    have hT := of_decide_eq_true c_17
    obtain ⟨hA1, hA2, hA3⟩ := mTh_0 hT
    have hj := vN_of hH hA1
    have hy := vN_in 8 (by decide) hA2
    refine k_aload_n C dX7_horseOf_20 rfl (j := 0) rfl ?_
    refine k_iload_n C dX7_horseOf_21 rfl (j := 1) rfl ?_
    refine k_iload_n C dX7_horseOf_22 rfl (j := 2) rfl ?_
    refine k_congS (st' := [.int y, .int (nI (vN h)), .ref (ad 73)]) (congrArg (fun (z9 : Int32) => ([.int y, .int z9, .ref (ad 73)] : List Value)) (show (h) = nI (vN h) from hj.1)) ?_
    refine k_congS (st' := [.int (nI (vN y)), .int (nI (vN h)), .ref (ad 73)]) (congrArg (fun (z9 : Int32) => ([.int z9, .int (nI (vN h)), .ref (ad 73)] : List Value)) (show (y) = nI (vN y) from hy.1)) ?_
    refine k_callVir C (As := [.int (nI (vN h)), .int (nI (vN y))]) (rest := []) 73 (m_X7_horses l D cI cC cZ cB cJ ad N G1 f kp tx fi gr st ty (mTh ((mIsH f h)) ((mIn y 0 8)) true) at0 re nh nb nl (vN h) (vN y) (by omega) ⟨hM_G1.1, hM_G1.2.1, hM_G1.2.2.1, hM_G1.2.2.2.1, hM_G1.2.2.2.2.1, hM_G1.2.2.2.2.2⟩ hB (by omega) (by omega)) gX7_horseOf_X7_horses rfl kd_X7_horses rfl rfl ⟨Nat.le_of_ble_eq_true rfl, Nat.le_of_ble_eq_true rfl⟩ (by omega) hM_G1.1 rfl rfl rfl (Nat.le_of_ble_eq_true rfl) ⟨Nat.zero_le _, Nat.zero_le _⟩ dX7_horseOf_23 ?_
    refine k_goto C 30 dX7_horseOf_26 (by decide) ?_
    exact k_iret C hQ rfl rfl dX7_horseOf_30 ⟨fun _ => ⟨rfl, ⟨hM_G1.1, hM_G1.2.1, hM_G1.2.2.1, hM_G1.2.2.2.1, hM_G1.2.2.2.2.1, hM_G1.2.2.2.2.2⟩⟩, fun h9 => absurd hT h9, fun j hj => hf_G1 j hj⟩
theorem inX7_bet_7 : ∀ w ∈ wsX70, w ∈ wsX7_bet := fun _ h => List.mem_cons_of_mem _ (List.mem_append_right _ h)
theorem kd_X7_bet : yX7_bet.cls = RX7 ∧ yX7_bet.cls ≠ "java/lang/invoke/MethodHandle" ∧ yX7_bet.cls ≠ "java/lang/invoke/VarHandle" ∧ (parseMethodDescriptor yX7_bet.desc).map (fun d => d.parameters.length) = some 2 := by decide +kernel
abbrev rX7_bet : Room := ({ frames := 1, cells := 0, slots := 0, locals := 23 } : Room)
set_option maxRecDepth 100000 in
set_option maxHeartbeats 4000000 in
/-- model: bet -/
theorem m_X7_bet (l : Launch) (D : va_G) (cI cC cZ cB cJ : ClassId) (ad : Nat → Nat) (N : Nat) (G : Nat → va_E) (f kp tx fi gr : Nat → Int32) (st ty : Nat) (th at0 re : Int32) (nh nb nl : Nat) (h y : Int32) (hN : 79 ≤ N) (hM : isMo ad cI cC cZ G f kp tx fi gr st ty th at0 re) (hB : f 1 = nI nb ∧ nb ≤ 24) : kMi l yX7_bet wsX7_bet rX7_bet D (kT5 cI cC cZ cB cJ) ad N G [.ref (ad 73), .int h, .int y] (fun r G' => (mTh (mIn h 0 (f 1 - 1)) (mIn y 0 7) true = 0 → r = (mB f (vN h) (vN y)) ∧ isMo ad cI cC cZ G' f kp tx fi gr st ty (mTh (mIn h 0 (f 1 - 1)) (mIn y 0 7) true) at0 re) ∧ (¬ mTh (mIn h 0 (f 1 - 1)) (mIn y 0 7) true = 0 → r = 0 ∧ isMo ad cI cC cZ G' f kp tx fi gr st ty (mTh (mIn h 0 (f 1 - 1)) (mIn y 0 7) true) at0 re) ∧ ∀ j, (j < 73 ∨ 79 ≤ j) → G' j = G j) := by
  refine k_starti (cc := cX7_bet) (ret := (some .int)) (maxL := 3) (lv0 := [(0, .ref (ad 73)), (1, .int h), (2, .int y)]) (by decide) rfl (Nat.le_of_ble_eq_true rfl) rfl ?_
  intro p e s m args below meth c A Q C hQ
  have hn := hB.2
  refine k_aload_n C dX7_bet_0 rfl (j := 0) rfl ?_
  refine k_iload_n C dX7_bet_1 rfl (j := 1) rfl ?_
  refine k_iconst C (v := 0) dX7_bet_2 (by decide) ?_
  refine k_aload_n C dX7_bet_3 rfl (j := 0) rfl ?_
  refine k_get C 73 inX7_bet_7 (by omega) hM.1 rfl 0 (by decide) (List.mem_of_getElem? (i := 1) rfl) rfl rfl dX7_bet_4 ?_
  refine k_iconst C (v := 1) dX7_bet_7 (by decide) ?_
  refine k_ialdN C 74 0 (by omega) hM.2.1 rfl 1 rfl (by omega) (Nat.le_of_ble_eq_true rfl) dX7_bet_8 ?_
  refine k_iconst C (v := 1) dX7_bet_9 (by decide) ?_
  refine k_isub C dX7_bet_10 ?_
  refine k_callSir C (As := [.int h, .int 0, .int ((f 1) - 1)]) (rest := [.ref (ad 73)]) (m_X7_in l D cI cC cZ cB cJ ad N G h 0 ((f 1) - 1)) gX7_bet_X7_in rfl kd_X7_in rfl rfl ⟨Nat.le_of_ble_eq_true rfl, Nat.le_of_ble_eq_true rfl⟩ rfl rfl (Nat.le_of_ble_eq_true rfl) ⟨Nat.zero_le _, Nat.zero_le _⟩ dX7_bet_11 ?_
  refine k_iload_n C dX7_bet_14 rfl (j := 2) rfl ?_
  refine k_iconst C (v := 0) dX7_bet_15 (by decide) ?_
  refine k_bipush C (v := 7) dX7_bet_16 (by decide) ?_
  refine k_callSir C (As := [.int y, .int 0, .int 7]) (rest := [.int (bI (mIn h 0 ((f 1) - 1))), .ref (ad 73)]) (m_X7_in l D cI cC cZ cB cJ ad N G y 0 7) gX7_bet_X7_in rfl kd_X7_in rfl rfl ⟨Nat.le_of_ble_eq_true rfl, Nat.le_of_ble_eq_true rfl⟩ rfl rfl (Nat.le_of_ble_eq_true rfl) ⟨Nat.zero_le _, Nat.zero_le _⟩ dX7_bet_18 ?_
  refine k_iconst C (v := 1) dX7_bet_21 (by decide) ?_
  refine k_callVi C (As := [.int (bI (mIn h 0 ((f 1) - 1))), .int (bI (mIn y 0 7)), .int 1]) (rest := []) 73 (m_X7_goes l D cI cC cZ cB cJ ad N G f kp tx fi gr st ty th at0 re nh nb nl (mIn h 0 ((f 1) - 1)) (mIn y 0 7) true (by omega) ⟨hM.1, hM.2.1, hM.2.2.1, hM.2.2.2.1, hM.2.2.2.2.1, hM.2.2.2.2.2⟩ ) gX7_bet_X7_goes rfl kd_X7_goes rfl rfl ⟨Nat.le_of_ble_eq_true rfl, Nat.le_of_ble_eq_true rfl⟩ (by omega) hM.1 rfl rfl rfl (Nat.le_of_ble_eq_true rfl) ⟨Nat.zero_le _, Nat.zero_le _⟩ dX7_bet_22 (fun r_22 G1 hG1 => ?_)
  obtain ⟨e_r_22, hM_G1, hf_G1⟩ := hG1
  subst e_r_22
  refine k_if_eq C 41 dX7_bet_25 (by decide) (fun c_25 => ?_) (fun c_25 => ?_)
  · skip
    have c_25 := bI_f c_25
    have hT := of_decide_eq_false c_25
    refine k_iconst C (v := 0) dX7_bet_41 (by decide) ?_
    exact k_iret C hQ rfl rfl dX7_bet_42 ⟨fun h9 => absurd h9 hT, fun _ => ⟨rfl, ⟨hM_G1.1, hM_G1.2.1, hM_G1.2.2.1, hM_G1.2.2.2.1, hM_G1.2.2.2.2.1, hM_G1.2.2.2.2.2⟩⟩, fun j hj => hf_G1 j hj⟩
  · skip
    have c_25 := bI_t c_25
    have hT := of_decide_eq_true c_25
    obtain ⟨hA1, hA2, hA3⟩ := mTh_0 hT
    have hj := vN_cnt hB.1 (by have := hB.2; omega) hA1
    have hy := vN_in 7 (by decide) hA2
    refine k_aload_n C dX7_bet_28 rfl (j := 0) rfl ?_
    refine k_get C 73 inX7_bet_7 (by omega) hM_G1.1 rfl 0 (by decide) (List.mem_of_getElem? (i := 1) rfl) rfl rfl dX7_bet_29 ?_
    refine k_iload_n C dX7_bet_32 rfl (j := 1) rfl ?_
    refine k_iload_n C dX7_bet_33 rfl (j := 2) rfl ?_
    refine k_callSir C (As := [.int h, .int y]) (rest := [.ref (ad 74)]) (m_X7_of l D cI cC cZ cB cJ ad N G1 h y) gX7_bet_X7_of rfl kd_X7_of rfl rfl ⟨Nat.le_of_ble_eq_true rfl, Nat.le_of_ble_eq_true rfl⟩ rfl rfl (Nat.le_of_ble_eq_true rfl) ⟨Nat.zero_le _, Nat.zero_le _⟩ dX7_bet_34 ?_
    refine k_ialdN C 74 0 (by omega) hM_G1.2.1 rfl ((66 + (8 * (vN h))) + (vN y)) (knAdd (knAdd rfl (knMul rfl hj.1)) hy.1) (by omega) (Nat.le_of_ble_eq_true rfl) dX7_bet_37 ?_
    refine k_goto C 42 dX7_bet_38 (by decide) ?_
    exact k_iret C hQ rfl rfl dX7_bet_42 ⟨fun _ => ⟨rfl, ⟨hM_G1.1, hM_G1.2.1, hM_G1.2.2.1, hM_G1.2.2.2.1, hM_G1.2.2.2.2.1, hM_G1.2.2.2.2.2⟩⟩, fun h9 => absurd hT h9, fun j hj => hf_G1 j hj⟩
theorem inX7_laid_7 : ∀ w ∈ wsX70, w ∈ wsX7_laid := fun _ h => List.mem_cons_of_mem _ (List.mem_append_right _ h)
theorem kd_X7_laid : yX7_laid.cls = RX7 ∧ yX7_laid.cls ≠ "java/lang/invoke/MethodHandle" ∧ yX7_laid.cls ≠ "java/lang/invoke/VarHandle" ∧ (parseMethodDescriptor yX7_laid.desc).map (fun d => d.parameters.length) = some 2 := by decide +kernel
abbrev rX7_laid : Room := ({ frames := 1, cells := 0, slots := 0, locals := 23 } : Room)
set_option maxRecDepth 100000 in
set_option maxHeartbeats 4000000 in
/-- model: laid -/
theorem m_X7_laid (l : Launch) (D : va_G) (cI cC cZ cB cJ : ClassId) (ad : Nat → Nat) (N : Nat) (G : Nat → va_E) (f kp tx fi gr : Nat → Int32) (st ty : Nat) (th at0 re : Int32) (nh nb nl : Nat) (h y : Int32) (hN : 79 ≤ N) (hM : isMo ad cI cC cZ G f kp tx fi gr st ty th at0 re) (hL : f 2 = nI nl ∧ nl ≤ 6) : kMi l yX7_laid wsX7_laid rX7_laid D (kT5 cI cC cZ cB cJ) ad N G [.ref (ad 73), .int h, .int y] (fun r G' => (mTh (mIn h 0 (f 2 - 1)) (mIn y 0 4) true = 0 → r = (mO f (vN h) (vN y)) ∧ isMo ad cI cC cZ G' f kp tx fi gr st ty (mTh (mIn h 0 (f 2 - 1)) (mIn y 0 4) true) at0 re) ∧ (¬ mTh (mIn h 0 (f 2 - 1)) (mIn y 0 4) true = 0 → r = 0 ∧ isMo ad cI cC cZ G' f kp tx fi gr st ty (mTh (mIn h 0 (f 2 - 1)) (mIn y 0 4) true) at0 re) ∧ ∀ j, (j < 73 ∨ 79 ≤ j) → G' j = G j) := by
  refine k_starti (cc := cX7_laid) (ret := (some .int)) (maxL := 3) (lv0 := [(0, .ref (ad 73)), (1, .int h), (2, .int y)]) (by decide) rfl (Nat.le_of_ble_eq_true rfl) rfl ?_
  intro p e s m args below meth c A Q C hQ
  have hn := hL.2
  refine k_aload_n C dX7_laid_0 rfl (j := 0) rfl ?_
  refine k_iload_n C dX7_laid_1 rfl (j := 1) rfl ?_
  refine k_iconst C (v := 0) dX7_laid_2 (by decide) ?_
  refine k_aload_n C dX7_laid_3 rfl (j := 0) rfl ?_
  refine k_get C 73 inX7_laid_7 (by omega) hM.1 rfl 0 (by decide) (List.mem_of_getElem? (i := 1) rfl) rfl rfl dX7_laid_4 ?_
  refine k_iconst C (v := 2) dX7_laid_7 (by decide) ?_
  refine k_ialdN C 74 0 (by omega) hM.2.1 rfl 2 rfl (by omega) (Nat.le_of_ble_eq_true rfl) dX7_laid_8 ?_
  refine k_iconst C (v := 1) dX7_laid_9 (by decide) ?_
  refine k_isub C dX7_laid_10 ?_
  refine k_callSir C (As := [.int h, .int 0, .int ((f 2) - 1)]) (rest := [.ref (ad 73)]) (m_X7_in l D cI cC cZ cB cJ ad N G h 0 ((f 2) - 1)) gX7_laid_X7_in rfl kd_X7_in rfl rfl ⟨Nat.le_of_ble_eq_true rfl, Nat.le_of_ble_eq_true rfl⟩ rfl rfl (Nat.le_of_ble_eq_true rfl) ⟨Nat.zero_le _, Nat.zero_le _⟩ dX7_laid_11 ?_
  refine k_iload_n C dX7_laid_14 rfl (j := 2) rfl ?_
  refine k_iconst C (v := 0) dX7_laid_15 (by decide) ?_
  refine k_iconst C (v := 4) dX7_laid_16 (by decide) ?_
  refine k_callSir C (As := [.int y, .int 0, .int 4]) (rest := [.int (bI (mIn h 0 ((f 2) - 1))), .ref (ad 73)]) (m_X7_in l D cI cC cZ cB cJ ad N G y 0 4) gX7_laid_X7_in rfl kd_X7_in rfl rfl ⟨Nat.le_of_ble_eq_true rfl, Nat.le_of_ble_eq_true rfl⟩ rfl rfl (Nat.le_of_ble_eq_true rfl) ⟨Nat.zero_le _, Nat.zero_le _⟩ dX7_laid_17 ?_
  refine k_iconst C (v := 1) dX7_laid_20 (by decide) ?_
  refine k_callVi C (As := [.int (bI (mIn h 0 ((f 2) - 1))), .int (bI (mIn y 0 4)), .int 1]) (rest := []) 73 (m_X7_goes l D cI cC cZ cB cJ ad N G f kp tx fi gr st ty th at0 re nh nb nl (mIn h 0 ((f 2) - 1)) (mIn y 0 4) true (by omega) ⟨hM.1, hM.2.1, hM.2.2.1, hM.2.2.2.1, hM.2.2.2.2.1, hM.2.2.2.2.2⟩ ) gX7_laid_X7_goes rfl kd_X7_goes rfl rfl ⟨Nat.le_of_ble_eq_true rfl, Nat.le_of_ble_eq_true rfl⟩ (by omega) hM.1 rfl rfl rfl (Nat.le_of_ble_eq_true rfl) ⟨Nat.zero_le _, Nat.zero_le _⟩ dX7_laid_21 (fun r_21 G1 hG1 => ?_)
  obtain ⟨e_r_21, hM_G1, hf_G1⟩ := hG1
  subst e_r_21
  refine k_if_eq C 40 dX7_laid_24 (by decide) (fun c_24 => ?_) (fun c_24 => ?_)
  · skip
    have c_24 := bI_f c_24
    have hT := of_decide_eq_false c_24
    refine k_iconst C (v := 0) dX7_laid_40 (by decide) ?_
    exact k_iret C hQ rfl rfl dX7_laid_41 ⟨fun h9 => absurd h9 hT, fun _ => ⟨rfl, ⟨hM_G1.1, hM_G1.2.1, hM_G1.2.2.1, hM_G1.2.2.2.1, hM_G1.2.2.2.2.1, hM_G1.2.2.2.2.2⟩⟩, fun j hj => hf_G1 j hj⟩
  · skip
    have c_24 := bI_t c_24
    have hT := of_decide_eq_true c_24
    obtain ⟨hA1, hA2, hA3⟩ := mTh_0 hT
    have hj := vN_cnt hL.1 (by have := hL.2; omega) hA1
    have hy := vN_in 4 (by decide) hA2
    refine k_aload_n C dX7_laid_27 rfl (j := 0) rfl ?_
    refine k_get C 73 inX7_laid_7 (by omega) hM_G1.1 rfl 0 (by decide) (List.mem_of_getElem? (i := 1) rfl) rfl rfl dX7_laid_28 ?_
    refine k_iload_n C dX7_laid_31 rfl (j := 1) rfl ?_
    refine k_iload_n C dX7_laid_32 rfl (j := 2) rfl ?_
    refine k_callSir C (As := [.int h, .int y]) (rest := [.ref (ad 74)]) (m_X7_off l D cI cC cZ cB cJ ad N G1 h y) gX7_laid_X7_off rfl kd_X7_off rfl rfl ⟨Nat.le_of_ble_eq_true rfl, Nat.le_of_ble_eq_true rfl⟩ rfl rfl (Nat.le_of_ble_eq_true rfl) ⟨Nat.zero_le _, Nat.zero_le _⟩ dX7_laid_33 ?_
    refine k_ialdN C 74 0 (by omega) hM_G1.2.1 rfl ((258 + (5 * (vN h))) + (vN y)) (knAdd (knAdd rfl (knMul rfl hj.1)) hy.1) (by omega) (Nat.le_of_ble_eq_true rfl) dX7_laid_36 ?_
    refine k_goto C 41 dX7_laid_37 (by decide) ?_
    exact k_iret C hQ rfl rfl dX7_laid_41 ⟨fun _ => ⟨rfl, ⟨hM_G1.1, hM_G1.2.1, hM_G1.2.2.1, hM_G1.2.2.2.1, hM_G1.2.2.2.2.1, hM_G1.2.2.2.2.2⟩⟩, fun h9 => absurd hT h9, fun j hj => hf_G1 j hj⟩
theorem inX7_count_7 : ∀ w ∈ wsX70, w ∈ wsX7_count := fun _ h => List.mem_cons_of_mem _ (List.mem_append_right _ h)
theorem kd_X7_count : yX7_count.cls = RX7 ∧ yX7_count.cls ≠ "java/lang/invoke/MethodHandle" ∧ yX7_count.cls ≠ "java/lang/invoke/VarHandle" ∧ (parseMethodDescriptor yX7_count.desc).map (fun d => d.parameters.length) = some 1 := by decide +kernel
abbrev rX7_count : Room := ({ frames := 4, cells := 0, slots := 0, locals := 86 } : Room)
set_option maxRecDepth 100000 in
set_option maxHeartbeats 4000000 in
/-- model: count -/
theorem m_X7_count (l : Launch) (D : va_G) (cI cC cZ cB cJ : ClassId) (ad : Nat → Nat) (N : Nat) (G : Nat → va_E) (f kp tx fi gr : Nat → Int32) (st ty : Nat) (th at0 re : Int32) (nh nb nl : Nat) (y : Int32) (hN : 79 ≤ N) (hM : isMo ad cI cC cZ G f kp tx fi gr st ty th at0 re) (hH : f 0 = nI nh ∧ nh ≤ 10) (hB : f 1 = nI nb ∧ nb ≤ 24) (hL : f 2 = nI nl ∧ nl ≤ 6) (hP0 : ∀ h, h < nh → ¬ f (6 + h) + f (16 + h) = 0 ∧ ¬ f (16 + h) = 0) : kMi l yX7_count wsX7_count rX7_count D (kT5 cI cC cZ cB cJ) ad N G [.ref (ad 73), .int y] (fun r G' => (mTh (mIn y 0 13) true true = 0 → r = (mCount f st nh nb nl (vN y)) ∧ isMo ad cI cC cZ G' f kp tx fi gr st ty (mTh (mIn y 0 13) true true) at0 re) ∧ (¬ mTh (mIn y 0 13) true true = 0 → r = 0 ∧ isMo ad cI cC cZ G' f kp tx fi gr st ty (mTh (mIn y 0 13) true true) at0 re) ∧ ∀ j, (j < 73 ∨ 79 ≤ j) → G' j = G j) := by
  refine k_starti (cc := cX7_count) (ret := (some .int)) (maxL := 2) (lv0 := [(0, .ref (ad 73)), (1, .int y)]) (by decide) rfl (Nat.le_of_ble_eq_true rfl) rfl ?_
  intro p e s m args below meth c A Q C hQ
  refine k_aload_n C dX7_count_0 rfl (j := 0) rfl ?_
  refine k_iload_n C dX7_count_1 rfl (j := 1) rfl ?_
  refine k_iconst C (v := 0) dX7_count_2 (by decide) ?_
  refine k_bipush C (v := 13) dX7_count_3 (by decide) ?_
  refine k_callSir C (As := [.int y, .int 0, .int 13]) (rest := [.ref (ad 73)]) (m_X7_in l D cI cC cZ cB cJ ad N G y 0 13) gX7_count_X7_in rfl kd_X7_in rfl rfl ⟨Nat.le_of_ble_eq_true rfl, Nat.le_of_ble_eq_true rfl⟩ rfl rfl (Nat.le_of_ble_eq_true rfl) ⟨Nat.zero_le _, Nat.zero_le _⟩ dX7_count_5 ?_
  refine k_iconst C (v := 1) dX7_count_8 (by decide) ?_
  refine k_iconst C (v := 1) dX7_count_9 (by decide) ?_
  refine k_callVi C (As := [.int (bI (mIn y 0 13)), .int 1, .int 1]) (rest := []) 73 (m_X7_goes l D cI cC cZ cB cJ ad N G f kp tx fi gr st ty th at0 re nh nb nl (mIn y 0 13) true true (by omega) ⟨hM.1, hM.2.1, hM.2.2.1, hM.2.2.2.1, hM.2.2.2.2.1, hM.2.2.2.2.2⟩ ) gX7_count_X7_goes rfl kd_X7_goes rfl rfl ⟨Nat.le_of_ble_eq_true rfl, Nat.le_of_ble_eq_true rfl⟩ (by omega) hM.1 rfl rfl rfl (Nat.le_of_ble_eq_true rfl) ⟨Nat.zero_le _, Nat.zero_le _⟩ dX7_count_10 (fun r_10 G1 hG1 => ?_)
  obtain ⟨e_r_10, hM_G1, hf_G1⟩ := hG1
  subst e_r_10
  refine k_if_eq C 24 dX7_count_13 (by decide) (fun c_13 => ?_) (fun c_13 => ?_)
  · skip
    have c_13 := bI_f c_13
    have hT := of_decide_eq_false c_13
    refine k_iconst C (v := 0) dX7_count_24 (by decide) ?_
    exact k_iret C hQ rfl rfl dX7_count_25 ⟨fun h9 => absurd h9 hT, fun _ => ⟨rfl, ⟨hM_G1.1, hM_G1.2.1, hM_G1.2.2.1, hM_G1.2.2.2.1, hM_G1.2.2.2.2.1, hM_G1.2.2.2.2.2⟩⟩, fun j hj => hf_G1 j hj⟩
  · skip
    have c_13 := bI_t c_13
    have hT := of_decide_eq_true c_13
    obtain ⟨hA1, hA2, hA3⟩ := mTh_0 hT
    have hy := vN_in 13 (by decide) hA1
    refine k_aload_n C dX7_count_16 rfl (j := 0) rfl ?_
    refine k_iload_n C dX7_count_17 rfl (j := 1) rfl ?_
    refine k_congS (st' := [.int (nI (vN y)), .ref (ad 73)]) (congrArg (fun (z9 : Int32) => ([.int z9, .ref (ad 73)] : List Value)) (show (y) = nI (vN y) from hy.1)) ?_
    refine k_callVir C (As := [.int (nI (vN y))]) (rest := []) 73 (m_X7_counted l D cI cC cZ cB cJ ad N G1 f kp tx fi gr st ty (mTh ((mIn y 0 13)) true true) at0 re nh nb nl (vN y) (by omega) ⟨hM_G1.1, hM_G1.2.1, hM_G1.2.2.1, hM_G1.2.2.2.1, hM_G1.2.2.2.2.1, hM_G1.2.2.2.2.2⟩ hH hB hL hP0 (by omega)) gX7_count_X7_counted rfl kd_X7_counted rfl rfl ⟨Nat.le_of_ble_eq_true rfl, Nat.le_of_ble_eq_true rfl⟩ (by omega) hM_G1.1 rfl rfl rfl (Nat.le_of_ble_eq_true rfl) ⟨Nat.zero_le _, Nat.zero_le _⟩ dX7_count_18 ?_
    refine k_goto C 25 dX7_count_21 (by decide) ?_
    exact k_iret C hQ rfl rfl dX7_count_25 ⟨fun _ => ⟨rfl, ⟨hM_G1.1, hM_G1.2.1, hM_G1.2.2.1, hM_G1.2.2.2.1, hM_G1.2.2.2.2.1, hM_G1.2.2.2.2.2⟩⟩, fun h9 => absurd hT h9, fun j hj => hf_G1 j hj⟩
theorem inX7_setting_7 : ∀ w ∈ wsX70, w ∈ wsX7_setting := fun _ h => List.mem_cons_of_mem _ (List.mem_append_right _ h)
theorem kd_X7_setting : yX7_setting.cls = RX7 ∧ yX7_setting.cls ≠ "java/lang/invoke/MethodHandle" ∧ yX7_setting.cls ≠ "java/lang/invoke/VarHandle" ∧ (parseMethodDescriptor yX7_setting.desc).map (fun d => d.parameters.length) = some 1 := by decide +kernel
abbrev rX7_setting : Room := ({ frames := 1, cells := 0, slots := 0, locals := 23 } : Room)
set_option maxRecDepth 100000 in
set_option maxHeartbeats 4000000 in
/-- model: setting -/
theorem m_X7_setting (l : Launch) (D : va_G) (cI cC cZ cB cJ : ClassId) (ad : Nat → Nat) (N : Nat) (G : Nat → va_E) (f kp tx fi gr : Nat → Int32) (st ty : Nat) (th at0 re : Int32) (nh nb nl : Nat) (k0 : Int32) (hN : 79 ≤ N) (hM : isMo ad cI cC cZ G f kp tx fi gr st ty th at0 re) : kMi l yX7_setting wsX7_setting rX7_setting D (kT5 cI cC cZ cB cJ) ad N G [.ref (ad 73), .int k0] (fun r G' => (mTh (mIn k0 0 1) true true = 0 → r = (f (4 + vN k0)) ∧ isMo ad cI cC cZ G' f kp tx fi gr st ty (mTh (mIn k0 0 1) true true) at0 re) ∧ (¬ mTh (mIn k0 0 1) true true = 0 → r = 0 ∧ isMo ad cI cC cZ G' f kp tx fi gr st ty (mTh (mIn k0 0 1) true true) at0 re) ∧ ∀ j, (j < 73 ∨ 79 ≤ j) → G' j = G j) := by
  refine k_starti (cc := cX7_setting) (ret := (some .int)) (maxL := 2) (lv0 := [(0, .ref (ad 73)), (1, .int k0)]) (by decide) rfl (Nat.le_of_ble_eq_true rfl) rfl ?_
  intro p e s m args below meth c A Q C hQ
  refine k_aload_n C dX7_setting_0 rfl (j := 0) rfl ?_
  refine k_iload_n C dX7_setting_1 rfl (j := 1) rfl ?_
  refine k_iconst C (v := 0) dX7_setting_2 (by decide) ?_
  refine k_iconst C (v := 1) dX7_setting_3 (by decide) ?_
  refine k_callSir C (As := [.int k0, .int 0, .int 1]) (rest := [.ref (ad 73)]) (m_X7_in l D cI cC cZ cB cJ ad N G k0 0 1) gX7_setting_X7_in rfl kd_X7_in rfl rfl ⟨Nat.le_of_ble_eq_true rfl, Nat.le_of_ble_eq_true rfl⟩ rfl rfl (Nat.le_of_ble_eq_true rfl) ⟨Nat.zero_le _, Nat.zero_le _⟩ dX7_setting_4 ?_
  refine k_iconst C (v := 1) dX7_setting_7 (by decide) ?_
  refine k_iconst C (v := 1) dX7_setting_8 (by decide) ?_
  refine k_callVi C (As := [.int (bI (mIn k0 0 1)), .int 1, .int 1]) (rest := []) 73 (m_X7_goes l D cI cC cZ cB cJ ad N G f kp tx fi gr st ty th at0 re nh nb nl (mIn k0 0 1) true true (by omega) ⟨hM.1, hM.2.1, hM.2.2.1, hM.2.2.2.1, hM.2.2.2.2.1, hM.2.2.2.2.2⟩ ) gX7_setting_X7_goes rfl kd_X7_goes rfl rfl ⟨Nat.le_of_ble_eq_true rfl, Nat.le_of_ble_eq_true rfl⟩ (by omega) hM.1 rfl rfl rfl (Nat.le_of_ble_eq_true rfl) ⟨Nat.zero_le _, Nat.zero_le _⟩ dX7_setting_9 (fun r_9 G1 hG1 => ?_)
  obtain ⟨e_r_9, hM_G1, hf_G1⟩ := hG1
  subst e_r_9
  refine k_if_eq C 26 dX7_setting_12 (by decide) (fun c_12 => ?_) (fun c_12 => ?_)
  · skip
    have c_12 := bI_f c_12
    have hT := of_decide_eq_false c_12
    refine k_iconst C (v := 0) dX7_setting_26 (by decide) ?_
    exact k_iret C hQ rfl rfl dX7_setting_27 ⟨fun h9 => absurd h9 hT, fun _ => ⟨rfl, ⟨hM_G1.1, hM_G1.2.1, hM_G1.2.2.1, hM_G1.2.2.2.1, hM_G1.2.2.2.2.1, hM_G1.2.2.2.2.2⟩⟩, fun j hj => hf_G1 j hj⟩
  · skip
    have c_12 := bI_t c_12
    have hT := of_decide_eq_true c_12
    obtain ⟨hA1, hA2, hA3⟩ := mTh_0 hT
    have hj := vN_in 1 (by decide) hA1
    refine k_aload_n C dX7_setting_15 rfl (j := 0) rfl ?_
    refine k_get C 73 inX7_setting_7 (by omega) hM_G1.1 rfl 0 (by decide) (List.mem_of_getElem? (i := 1) rfl) rfl rfl dX7_setting_16 ?_
    refine k_iconst C (v := 4) dX7_setting_19 (by decide) ?_
    refine k_iload_n C dX7_setting_20 rfl (j := 1) rfl ?_
    refine k_iadd C dX7_setting_21 ?_
    refine k_ialdN C 74 0 (by omega) hM_G1.2.1 rfl (4 + (vN k0)) (knAdd rfl hj.1) (by omega) (Nat.le_of_ble_eq_true rfl) dX7_setting_22 ?_
    refine k_goto C 27 dX7_setting_23 (by decide) ?_
    exact k_iret C hQ rfl rfl dX7_setting_27 ⟨fun _ => ⟨rfl, ⟨hM_G1.1, hM_G1.2.1, hM_G1.2.2.1, hM_G1.2.2.2.1, hM_G1.2.2.2.2.1, hM_G1.2.2.2.2.2⟩⟩, fun h9 => absurd hT h9, fun j hj => hf_G1 j hj⟩
theorem inX7_ifArrived_7 : ∀ w ∈ wsX70, w ∈ wsX7_ifArrived := fun _ h => List.mem_cons_of_mem _ (List.mem_append_right _ h)
theorem kd_X7_ifArrived : yX7_ifArrived.cls = RX7 ∧ yX7_ifArrived.cls ≠ "java/lang/invoke/MethodHandle" ∧ yX7_ifArrived.cls ≠ "java/lang/invoke/VarHandle" ∧ (parseMethodDescriptor yX7_ifArrived.desc).map (fun d => d.parameters.length) = some 0 := by decide +kernel
abbrev rX7_ifArrived : Room := ({ frames := 6, cells := 0, slots := 0, locals := 134 } : Room)
set_option maxRecDepth 100000 in
set_option maxHeartbeats 4000000 in
/-- model: ifArrived -/
theorem m_X7_ifArrived (l : Launch) (D : va_G) (cI cC cZ cB cJ : ClassId) (ad : Nat → Nat) (N : Nat) (G : Nat → va_E) (f kp tx fi gr : Nat → Int32) (st ty : Nat) (th at0 re : Int32) (nh nb nl : Nat) (hN : 79 ≤ N) (hM : isMo ad cI cC cZ G f kp tx fi gr st ty th at0 re) (hH : f 0 = nI nh ∧ nh ≤ 10) (hB : f 1 = nI nb ∧ nb ≤ 24) (hL : f 2 = nI nl ∧ nl ≤ 6) (hKB : ∀ k, k < nb → okB f k) (hKO : ∀ k, k < nl → okO f k) (hT0 : ty ≤ 30) (hX0 : okX tx ty) : kMi l yX7_ifArrived wsX7_ifArrived rX7_ifArrived D (kT5 cI cC cZ cB cJ) ad N G [.ref (ad 73)] (fun r G' => r = (mIf f tx ty nh nb nl) ∧ ∃ (fi' : Nat → Int32) (gr' : Nat → Int32) (at0' : Int32) (re' : Int32), isMo ad cI cC cZ G' f kp tx (fi') (gr') st ty 0 (at0') (re') ∧ ∀ j, (j < 73 ∨ 79 ≤ j) → G' j = G j) := by
  refine k_starti (cc := cX7_ifArrived) (ret := (some .int)) (maxL := 1) (lv0 := [(0, .ref (ad 73))]) (by decide) rfl (Nat.le_of_ble_eq_true rfl) rfl ?_
  intro p e s m args below meth c A Q C hQ
  refine k_aload_n C dX7_ifArrived_0 rfl (j := 0) rfl ?_
  refine k_iconst C (v := 0) dX7_ifArrived_1 (by decide) ?_
  refine k_put C 73 inX7_ifArrived_7 tyX7 tyX7_ok nmX7 (by omega) hM.1 rfl 3 (by decide) (List.mem_of_getElem? (i := 1) rfl) rfl rfl rfl rfl (Nat.le_of_ble_eq_true rfl) dX7_ifArrived_2 (fun G1 hG1 => ?_)
  have h_74_G1 : G1 74 = .inl (cI, 2610, .inl f) := up_at hG1 hM.2.1 (by omega)
  have h_75_G1 : G1 75 = .inl (cZ, 2, .inl kp) := up_at hG1 hM.2.2.1 (by omega)
  have h_76_G1 : G1 76 = .inl (cC, 30, .inl tx) := up_at hG1 hM.2.2.2.1 (by omega)
  have h_77_G1 : G1 77 = .inl (cI, 10, .inl fi) := up_at hG1 hM.2.2.2.2.1 (by omega)
  have h_78_G1 : G1 78 = .inl (cI, 10, .inl gr) := up_at hG1 hM.2.2.2.2.2 (by omega)
  have h_73_G1 : G1 73 = .inr (7, [.ref (ad 74), .int (nI st), .ref (ad 75), .int 0, .ref (ad 76), .int (nI ty), .int at0, .ref (ad 77), .ref (ad 78), .int re]) := up_it hG1
  refine k_aload_n C dX7_ifArrived_5 rfl (j := 0) rfl ?_
  refine k_callVi C (As := []) (rest := []) 73 (m_X7_byBuffer l D cI cC cZ cB cJ ad N G1 f kp tx fi gr st ty 0 at0 re nh nb nl (by omega) ⟨h_73_G1, h_74_G1, h_75_G1, h_76_G1, h_77_G1, h_78_G1⟩ hH hB hL hKB hKO hT0 hX0 ) gX7_ifArrived_X7_byBuffer rfl kd_X7_byBuffer rfl rfl ⟨Nat.le_of_ble_eq_true rfl, Nat.le_of_ble_eq_true rfl⟩ (by omega) h_73_G1 rfl rfl rfl (Nat.le_of_ble_eq_true rfl) ⟨Nat.zero_le _, Nat.zero_le _⟩ dX7_ifArrived_6 (fun r_6 G2 hG2 => ?_)
  obtain ⟨e_r_6, fi_G2, gr_G2, at0_G2, re_G2, hM_G2, hf_G2⟩ := hG2
  subst e_r_6
  exact k_iret C hQ rfl rfl dX7_ifArrived_9 ⟨rfl, fi_G2, gr_G2, at0_G2, re_G2, ⟨hM_G2.1, hM_G2.2.1, hM_G2.2.2.1, hM_G2.2.2.2.1, hM_G2.2.2.2.2.1, hM_G2.2.2.2.2.2⟩, fun j hj => (hf_G2 j hj : _).trans ((by rw [hG1, up_ne (by omega)]))⟩
theorem inX7_ifWon_7 : ∀ w ∈ wsX70, w ∈ wsX7_ifWon := fun _ h => List.mem_cons_of_mem _ (List.mem_append_right _ h)
theorem kd_X7_ifWon : yX7_ifWon.cls = RX7 ∧ yX7_ifWon.cls ≠ "java/lang/invoke/MethodHandle" ∧ yX7_ifWon.cls ≠ "java/lang/invoke/VarHandle" ∧ (parseMethodDescriptor yX7_ifWon.desc).map (fun d => d.parameters.length) = some 1 := by decide +kernel
abbrev rX7_ifWon : Room := ({ frames := 7, cells := 0, slots := 0, locals := 158 } : Room)
set_option maxRecDepth 100000 in
set_option maxHeartbeats 4000000 in
/-- model: ifWon -/
theorem m_X7_ifWon (l : Launch) (D : va_G) (cI cC cZ cB cJ : ClassId) (ad : Nat → Nat) (N : Nat) (G : Nat → va_E) (f kp tx fi gr : Nat → Int32) (st ty : Nat) (th at0 re : Int32) (nh nb nl : Nat) (h : Int32) (hN : 79 ≤ N) (hM : isMo ad cI cC cZ G f kp tx fi gr st ty th at0 re) (hH : f 0 = nI nh ∧ nh ≤ 10) (hB : f 1 = nI nb ∧ nb ≤ 24) (hL : f 2 = nI nl ∧ nl ≤ 6) (hKB : ∀ k, k < nb → okB f k) (hKO : ∀ k, k < nl → okO f k) : kMi l yX7_ifWon wsX7_ifWon rX7_ifWon D (kT5 cI cC cZ cB cJ) ad N G [.ref (ad 73), .int h] (fun r G' => (mTh (mIsH f h) true true = 0 → r = (mIfF f nh nb nl (vN h)) ∧ ∃ (fi' : Nat → Int32) (gr' : Nat → Int32) (re' : Int32), isMo ad cI cC cZ G' f kp tx (fi') (gr') st ty (mTh (mIsH f h) true true) at0 (re')) ∧ (¬ mTh (mIsH f h) true true = 0 → r = 0 ∧ ∃ (fi' : Nat → Int32) (gr' : Nat → Int32) (re' : Int32), isMo ad cI cC cZ G' f kp tx (fi') (gr') st ty (mTh (mIsH f h) true true) at0 (re')) ∧ ∀ j, (j < 73 ∨ 79 ≤ j) → G' j = G j) := by
  refine k_starti (cc := cX7_ifWon) (ret := (some .int)) (maxL := 2) (lv0 := [(0, .ref (ad 73)), (1, .int h)]) (by decide) rfl (Nat.le_of_ble_eq_true rfl) rfl ?_
  intro p e s m args below meth c A Q C hQ
  refine k_aload_n C dX7_ifWon_0 rfl (j := 0) rfl ?_
  refine k_aload_n C dX7_ifWon_1 rfl (j := 0) rfl ?_
  refine k_iload_n C dX7_ifWon_2 rfl (j := 1) rfl ?_
  refine k_callVir C (As := [.int h]) (rest := [.ref (ad 73)]) 73 (m_X7_isHorse l D cI cC cZ cB cJ ad N G f kp tx fi gr st ty th at0 re nh nb nl h (by omega) ⟨hM.1, hM.2.1, hM.2.2.1, hM.2.2.2.1, hM.2.2.2.2.1, hM.2.2.2.2.2⟩ ) gX7_ifWon_X7_isHorse rfl kd_X7_isHorse rfl rfl ⟨Nat.le_of_ble_eq_true rfl, Nat.le_of_ble_eq_true rfl⟩ (by omega) hM.1 rfl rfl rfl (Nat.le_of_ble_eq_true rfl) ⟨Nat.zero_le _, Nat.zero_le _⟩ dX7_ifWon_3 ?_
  refine k_iconst C (v := 1) dX7_ifWon_6 (by decide) ?_
  refine k_iconst C (v := 1) dX7_ifWon_7 (by decide) ?_
  refine k_callVi C (As := [.int (bI (mIsH f h)), .int 1, .int 1]) (rest := []) 73 (m_X7_goes l D cI cC cZ cB cJ ad N G f kp tx fi gr st ty th at0 re nh nb nl (mIsH f h) true true (by omega) ⟨hM.1, hM.2.1, hM.2.2.1, hM.2.2.2.1, hM.2.2.2.2.1, hM.2.2.2.2.2⟩ ) gX7_ifWon_X7_goes rfl kd_X7_goes rfl rfl ⟨Nat.le_of_ble_eq_true rfl, Nat.le_of_ble_eq_true rfl⟩ (by omega) hM.1 rfl rfl rfl (Nat.le_of_ble_eq_true rfl) ⟨Nat.zero_le _, Nat.zero_le _⟩ dX7_ifWon_8 (fun r_8 G1 hG1 => ?_)
  obtain ⟨e_r_8, hM_G1, hf_G1⟩ := hG1
  subst e_r_8
  refine k_if_eq C 22 dX7_ifWon_11 (by decide) (fun c_11 => ?_) (fun c_11 => ?_)
  · skip
    have c_11 := bI_f c_11
    have hT := of_decide_eq_false c_11
    refine k_iconst C (v := 0) dX7_ifWon_22 (by decide) ?_
    exact k_iret C hQ rfl rfl dX7_ifWon_23 ⟨fun h9 => absurd h9 hT, fun _ => ⟨rfl, fi, gr, re, ⟨hM_G1.1, hM_G1.2.1, hM_G1.2.2.1, hM_G1.2.2.2.1, hM_G1.2.2.2.2.1, hM_G1.2.2.2.2.2⟩⟩, fun j hj => hf_G1 j hj⟩
  · skip
    have c_11 := bI_t c_11
    have hT := of_decide_eq_true c_11
    obtain ⟨hA1, hA2, hA3⟩ := mTh_0 hT
    have hj := vN_of hH hA1
    refine k_aload_n C dX7_ifWon_14 rfl (j := 0) rfl ?_
    refine k_iload_n C dX7_ifWon_15 rfl (j := 1) rfl ?_
    refine k_congS (st' := [.int (nI (vN h)), .ref (ad 73)]) (congrArg (fun (z9 : Int32) => ([.int z9, .ref (ad 73)] : List Value)) (show (h) = nI (vN h) from hj.1)) ?_
    refine k_callVi C (As := [.int (nI (vN h))]) (rest := []) 73 (m_X7_ifFirst l D cI cC cZ cB cJ ad N G1 f kp tx fi gr st ty (mTh ((mIsH f h)) true true) at0 re nh nb nl (vN h) (by omega) ⟨hM_G1.1, hM_G1.2.1, hM_G1.2.2.1, hM_G1.2.2.2.1, hM_G1.2.2.2.2.1, hM_G1.2.2.2.2.2⟩ hH hB hL hKB hKO hj.2) gX7_ifWon_X7_ifFirst rfl kd_X7_ifFirst rfl rfl ⟨Nat.le_of_ble_eq_true rfl, Nat.le_of_ble_eq_true rfl⟩ (by omega) hM_G1.1 rfl rfl rfl (Nat.le_of_ble_eq_true rfl) ⟨Nat.zero_le _, Nat.zero_le _⟩ dX7_ifWon_16 (fun r_16 G2 hG2 => ?_)
    obtain ⟨e_r_16, fi_G2, gr_G2, re_G2, hM_G2, hf_G2⟩ := hG2
    subst e_r_16
    refine k_goto C 23 dX7_ifWon_19 (by decide) ?_
    exact k_iret C hQ rfl rfl dX7_ifWon_23 ⟨fun _ => ⟨rfl, fi_G2, gr_G2, re_G2, ⟨hM_G2.1, hM_G2.2.1, hM_G2.2.2.1, hM_G2.2.2.2.1, hM_G2.2.2.2.2.1, hM_G2.2.2.2.2.2⟩⟩, fun h9 => absurd hT h9, fun j hj => (hf_G2 j hj : _).trans (hf_G1 j hj)⟩
theorem inX7_worst_7 : ∀ w ∈ wsX70, w ∈ wsX7_worst := fun _ h => List.mem_cons_of_mem _ (List.mem_append_right _ h)
theorem kd_X7_worst : yX7_worst.cls = RX7 ∧ yX7_worst.cls ≠ "java/lang/invoke/MethodHandle" ∧ yX7_worst.cls ≠ "java/lang/invoke/VarHandle" ∧ (parseMethodDescriptor yX7_worst.desc).map (fun d => d.parameters.length) = some 0 := by decide +kernel
abbrev rX7_worst : Room := ({ frames := 7, cells := 0, slots := 0, locals := 161 } : Room)
set_option maxRecDepth 100000 in
set_option maxHeartbeats 4000000 in
/-- model: worst -/
theorem m_X7_worst (l : Launch) (D : va_G) (cI cC cZ cB cJ : ClassId) (ad : Nat → Nat) (N : Nat) (G : Nat → va_E) (f kp tx fi gr : Nat → Int32) (st ty : Nat) (th at0 re : Int32) (nh nb nl : Nat) (hN : 79 ≤ N) (hM : isMo ad cI cC cZ G f kp tx fi gr st ty th at0 re) (hH : f 0 = nI nh ∧ nh ≤ 10) (hB : f 1 = nI nb ∧ nb ≤ 24) (hL : f 2 = nI nl ∧ nl ≤ 6) (hKB : ∀ k, k < nb → okB f k) (hKO : ∀ k, k < nl → okO f k) : kMi l yX7_worst wsX7_worst rX7_worst D (kT5 cI cC cZ cB cJ) ad N G [.ref (ad 73)] (fun r G' => r = ((mWst f nh nb nl nh).1) ∧ ∃ (fi' : Nat → Int32) (gr' : Nat → Int32) (re' : Int32), isMo ad cI cC cZ G' f kp tx (fi') (gr') st ty 0 at0 (re') ∧ ∀ j, (j < 73 ∨ 79 ≤ j) → G' j = G j) := by
  refine k_starti (cc := cX7_worst) (ret := (some .int)) (maxL := 1) (lv0 := [(0, .ref (ad 73))]) (by decide) rfl (Nat.le_of_ble_eq_true rfl) rfl ?_
  intro p e s m args below meth c A Q C hQ
  refine k_aload_n C dX7_worst_0 rfl (j := 0) rfl ?_
  refine k_iconst C (v := 0) dX7_worst_1 (by decide) ?_
  refine k_put C 73 inX7_worst_7 tyX7 tyX7_ok nmX7 (by omega) hM.1 rfl 3 (by decide) (List.mem_of_getElem? (i := 1) rfl) rfl rfl rfl rfl (Nat.le_of_ble_eq_true rfl) dX7_worst_2 (fun G1 hG1 => ?_)
  have h_74_G1 : G1 74 = .inl (cI, 2610, .inl f) := up_at hG1 hM.2.1 (by omega)
  have h_75_G1 : G1 75 = .inl (cZ, 2, .inl kp) := up_at hG1 hM.2.2.1 (by omega)
  have h_76_G1 : G1 76 = .inl (cC, 30, .inl tx) := up_at hG1 hM.2.2.2.1 (by omega)
  have h_77_G1 : G1 77 = .inl (cI, 10, .inl fi) := up_at hG1 hM.2.2.2.2.1 (by omega)
  have h_78_G1 : G1 78 = .inl (cI, 10, .inl gr) := up_at hG1 hM.2.2.2.2.2 (by omega)
  have h_73_G1 : G1 73 = .inr (7, [.ref (ad 74), .int (nI st), .ref (ad 75), .int 0, .ref (ad 76), .int (nI ty), .int at0, .ref (ad 77), .ref (ad 78), .int re]) := up_it hG1
  refine k_aload_n C dX7_worst_5 rfl (j := 0) rfl ?_
  refine k_callVi C (As := []) (rest := []) 73 (m_X7_worstOne l D cI cC cZ cB cJ ad N G1 f kp tx fi gr st ty 0 at0 re nh nb nl (by omega) ⟨h_73_G1, h_74_G1, h_75_G1, h_76_G1, h_77_G1, h_78_G1⟩ hH hB hL hKB hKO ) gX7_worst_X7_worstOne rfl kd_X7_worstOne rfl rfl ⟨Nat.le_of_ble_eq_true rfl, Nat.le_of_ble_eq_true rfl⟩ (by omega) h_73_G1 rfl rfl rfl (Nat.le_of_ble_eq_true rfl) ⟨Nat.zero_le _, Nat.zero_le _⟩ dX7_worst_6 (fun r_6 G2 hG2 => ?_)
  obtain ⟨e_r_6, fi_G2, gr_G2, re_G2, hM_G2, hf_G2⟩ := hG2
  subst e_r_6
  exact k_iret C hQ rfl rfl dX7_worst_9 ⟨rfl, fi_G2, gr_G2, re_G2, ⟨hM_G2.1, hM_G2.2.1, hM_G2.2.2.1, hM_G2.2.2.2.1, hM_G2.2.2.2.2.1, hM_G2.2.2.2.2.2⟩, fun j hj => (hf_G2 j hj : _).trans ((by rw [hG1, up_ne (by omega)]))⟩
theorem inX7_cover_7 : ∀ w ∈ wsX70, w ∈ wsX7_cover := fun _ h => List.mem_cons_of_mem _ (List.mem_append_right _ h)
theorem kd_X7_cover : yX7_cover.cls = RX7 ∧ yX7_cover.cls ≠ "java/lang/invoke/MethodHandle" ∧ yX7_cover.cls ≠ "java/lang/invoke/VarHandle" ∧ (parseMethodDescriptor yX7_cover.desc).map (fun d => d.parameters.length) = some 1 := by decide +kernel
abbrev rX7_cover : Room := ({ frames := 7, cells := 0, slots := 0, locals := 160 } : Room)
set_option maxRecDepth 100000 in
set_option maxHeartbeats 4000000 in
/-- model: cover -/
theorem m_X7_cover (l : Launch) (D : va_G) (cI cC cZ cB cJ : ClassId) (ad : Nat → Nat) (N : Nat) (G : Nat → va_E) (f kp tx fi gr : Nat → Int32) (st ty : Nat) (th at0 re : Int32) (nh nb nl : Nat) (h : Int32) (hN : 79 ≤ N) (hM : isMo ad cI cC cZ G f kp tx fi gr st ty th at0 re) (hH : f 0 = nI nh ∧ nh ≤ 10) (hB : f 1 = nI nb ∧ nb ≤ 24) (hL : f 2 = nI nl ∧ nl ≤ 6) (hKB : ∀ k, k < nb → okB f k) (hKO : ∀ k, k < nl → okO f k) (hP0 : ∀ h, h < nh → ¬ f (6 + h) + f (16 + h) = 0 ∧ ¬ f (16 + h) = 0) : kMi l yX7_cover wsX7_cover rX7_cover D (kT5 cI cC cZ cB cJ) ad N G [.ref (ad 73), .int h] (fun r G' => (mTh (mIsH f h) true true = 0 → r = (mCov f nh nb nl (vN h)) ∧ ∃ (fi' : Nat → Int32) (gr' : Nat → Int32) (re' : Int32), isMo ad cI cC cZ G' f kp tx (fi') (gr') st ty (mTh (mIsH f h) true true) at0 (re')) ∧ (¬ mTh (mIsH f h) true true = 0 → r = 0 ∧ ∃ (fi' : Nat → Int32) (gr' : Nat → Int32) (re' : Int32), isMo ad cI cC cZ G' f kp tx (fi') (gr') st ty (mTh (mIsH f h) true true) at0 (re')) ∧ ∀ j, (j < 73 ∨ 79 ≤ j) → G' j = G j) := by
  refine k_starti (cc := cX7_cover) (ret := (some .int)) (maxL := 2) (lv0 := [(0, .ref (ad 73)), (1, .int h)]) (by decide) rfl (Nat.le_of_ble_eq_true rfl) rfl ?_
  intro p e s m args below meth c A Q C hQ
  refine k_aload_n C dX7_cover_0 rfl (j := 0) rfl ?_
  refine k_aload_n C dX7_cover_1 rfl (j := 0) rfl ?_
  refine k_iload_n C dX7_cover_2 rfl (j := 1) rfl ?_
  refine k_callVir C (As := [.int h]) (rest := [.ref (ad 73)]) 73 (m_X7_isHorse l D cI cC cZ cB cJ ad N G f kp tx fi gr st ty th at0 re nh nb nl h (by omega) ⟨hM.1, hM.2.1, hM.2.2.1, hM.2.2.2.1, hM.2.2.2.2.1, hM.2.2.2.2.2⟩ ) gX7_cover_X7_isHorse rfl kd_X7_isHorse rfl rfl ⟨Nat.le_of_ble_eq_true rfl, Nat.le_of_ble_eq_true rfl⟩ (by omega) hM.1 rfl rfl rfl (Nat.le_of_ble_eq_true rfl) ⟨Nat.zero_le _, Nat.zero_le _⟩ dX7_cover_3 ?_
  refine k_iconst C (v := 1) dX7_cover_6 (by decide) ?_
  refine k_iconst C (v := 1) dX7_cover_7 (by decide) ?_
  refine k_callVi C (As := [.int (bI (mIsH f h)), .int 1, .int 1]) (rest := []) 73 (m_X7_goes l D cI cC cZ cB cJ ad N G f kp tx fi gr st ty th at0 re nh nb nl (mIsH f h) true true (by omega) ⟨hM.1, hM.2.1, hM.2.2.1, hM.2.2.2.1, hM.2.2.2.2.1, hM.2.2.2.2.2⟩ ) gX7_cover_X7_goes rfl kd_X7_goes rfl rfl ⟨Nat.le_of_ble_eq_true rfl, Nat.le_of_ble_eq_true rfl⟩ (by omega) hM.1 rfl rfl rfl (Nat.le_of_ble_eq_true rfl) ⟨Nat.zero_le _, Nat.zero_le _⟩ dX7_cover_8 (fun r_8 G1 hG1 => ?_)
  obtain ⟨e_r_8, hM_G1, hf_G1⟩ := hG1
  subst e_r_8
  refine k_if_eq C 22 dX7_cover_11 (by decide) (fun c_11 => ?_) (fun c_11 => ?_)
  · skip
    have c_11 := bI_f c_11
    have hT := of_decide_eq_false c_11
    refine k_iconst C (v := 0) dX7_cover_22 (by decide) ?_
    exact k_iret C hQ rfl rfl dX7_cover_23 ⟨fun h9 => absurd h9 hT, fun _ => ⟨rfl, fi, gr, re, ⟨hM_G1.1, hM_G1.2.1, hM_G1.2.2.1, hM_G1.2.2.2.1, hM_G1.2.2.2.2.1, hM_G1.2.2.2.2.2⟩⟩, fun j hj => hf_G1 j hj⟩
  · skip
    have c_11 := bI_t c_11
    have hT := of_decide_eq_true c_11
    obtain ⟨hA1, hA2, hA3⟩ := mTh_0 hT
    have hj := vN_of hH hA1
    refine k_aload_n C dX7_cover_14 rfl (j := 0) rfl ?_
    refine k_iload_n C dX7_cover_15 rfl (j := 1) rfl ?_
    refine k_congS (st' := [.int (nI (vN h)), .ref (ad 73)]) (congrArg (fun (z9 : Int32) => ([.int z9, .ref (ad 73)] : List Value)) (show (h) = nI (vN h) from hj.1)) ?_
    refine k_callVi C (As := [.int (nI (vN h))]) (rest := []) 73 (m_X7_covers l D cI cC cZ cB cJ ad N G1 f kp tx fi gr st ty (mTh ((mIsH f h)) true true) at0 re nh nb nl (vN h) (by omega) ⟨hM_G1.1, hM_G1.2.1, hM_G1.2.2.1, hM_G1.2.2.2.1, hM_G1.2.2.2.2.1, hM_G1.2.2.2.2.2⟩ hH hB hL hKB hKO hP0 hj.2) gX7_cover_X7_covers rfl kd_X7_covers rfl rfl ⟨Nat.le_of_ble_eq_true rfl, Nat.le_of_ble_eq_true rfl⟩ (by omega) hM_G1.1 rfl rfl rfl (Nat.le_of_ble_eq_true rfl) ⟨Nat.zero_le _, Nat.zero_le _⟩ dX7_cover_16 (fun r_16 G2 hG2 => ?_)
    obtain ⟨e_r_16, fi_G2, gr_G2, re_G2, hM_G2, hf_G2⟩ := hG2
    subst e_r_16
    refine k_goto C 23 dX7_cover_19 (by decide) ?_
    exact k_iret C hQ rfl rfl dX7_cover_23 ⟨fun _ => ⟨rfl, fi_G2, gr_G2, re_G2, ⟨hM_G2.1, hM_G2.2.1, hM_G2.2.2.1, hM_G2.2.2.2.1, hM_G2.2.2.2.2.1, hM_G2.2.2.2.2.2⟩⟩, fun h9 => absurd hT h9, fun j hj => (hf_G2 j hj : _).trans (hf_G1 j hj)⟩
theorem inX7_safeShare_7 : ∀ w ∈ wsX70, w ∈ wsX7_safeShare := fun _ h => List.mem_cons_of_mem _ (List.mem_append_right _ h)
theorem kd_X7_safeShare : yX7_safeShare.cls = RX7 ∧ yX7_safeShare.cls ≠ "java/lang/invoke/MethodHandle" ∧ yX7_safeShare.cls ≠ "java/lang/invoke/VarHandle" ∧ (parseMethodDescriptor yX7_safeShare.desc).map (fun d => d.parameters.length) = some 0 := by decide +kernel
abbrev rX7_safeShare : Room := ({ frames := 7, cells := 0, slots := 0, locals := 160 } : Room)
set_option maxRecDepth 100000 in
set_option maxHeartbeats 4000000 in
/-- model: safeShare -/
theorem m_X7_safeShare (l : Launch) (D : va_G) (cI cC cZ cB cJ : ClassId) (ad : Nat → Nat) (N : Nat) (G : Nat → va_E) (f kp tx fi gr : Nat → Int32) (st ty : Nat) (th at0 re : Int32) (nh nb nl : Nat) (hN : 79 ≤ N) (hM : isMo ad cI cC cZ G f kp tx fi gr st ty th at0 re) (hH : f 0 = nI nh ∧ nh ≤ 10) (hB : f 1 = nI nb ∧ nb ≤ 24) (hL : f 2 = nI nl ∧ nl ≤ 6) (hKB : ∀ k, k < nb → okB f k) (hKO : ∀ k, k < nl → okO f k) : kMd l yX7_safeShare wsX7_safeShare rX7_safeShare D (kT5 cI cC cZ cB cJ) ad N G [.ref (ad 73)] (fun r G' => r = (mShare f nh nb nl) ∧ ∃ (fi' : Nat → Int32) (gr' : Nat → Int32) (re' : Int32), isMo ad cI cC cZ G' f kp tx (fi') (gr') st ty 0 at0 (re') ∧ ∀ j, (j < 73 ∨ 79 ≤ j) → G' j = G j) := by
  refine k_startd (cc := cX7_safeShare) (ret := (some .double)) (maxL := 1) (lv0 := [(0, .ref (ad 73))]) (by decide) rfl (Nat.le_of_ble_eq_true rfl) rfl ?_
  intro p e s m args below meth c A Q C hQ
  refine k_aload_n C dX7_safeShare_0 rfl (j := 0) rfl ?_
  refine k_iconst C (v := 0) dX7_safeShare_1 (by decide) ?_
  refine k_put C 73 inX7_safeShare_7 tyX7 tyX7_ok nmX7 (by omega) hM.1 rfl 3 (by decide) (List.mem_of_getElem? (i := 1) rfl) rfl rfl rfl rfl (Nat.le_of_ble_eq_true rfl) dX7_safeShare_2 (fun G1 hG1 => ?_)
  have h_74_G1 : G1 74 = .inl (cI, 2610, .inl f) := up_at hG1 hM.2.1 (by omega)
  have h_75_G1 : G1 75 = .inl (cZ, 2, .inl kp) := up_at hG1 hM.2.2.1 (by omega)
  have h_76_G1 : G1 76 = .inl (cC, 30, .inl tx) := up_at hG1 hM.2.2.2.1 (by omega)
  have h_77_G1 : G1 77 = .inl (cI, 10, .inl fi) := up_at hG1 hM.2.2.2.2.1 (by omega)
  have h_78_G1 : G1 78 = .inl (cI, 10, .inl gr) := up_at hG1 hM.2.2.2.2.2 (by omega)
  have h_73_G1 : G1 73 = .inr (7, [.ref (ad 74), .int (nI st), .ref (ad 75), .int 0, .ref (ad 76), .int (nI ty), .int at0, .ref (ad 77), .ref (ad 78), .int re]) := up_it hG1
  refine k_aload_n C dX7_safeShare_5 rfl (j := 0) rfl ?_
  refine k_callVd C (As := []) (rest := []) 73 (m_X7_safe l D cI cC cZ cB cJ ad N G1 f kp tx fi gr st ty 0 at0 re nh nb nl (by omega) ⟨h_73_G1, h_74_G1, h_75_G1, h_76_G1, h_77_G1, h_78_G1⟩ hH hB hL hKB hKO ) gX7_safeShare_X7_safe rfl kd_X7_safe rfl rfl ⟨Nat.le_of_ble_eq_true rfl, Nat.le_of_ble_eq_true rfl⟩ (by omega) h_73_G1 rfl rfl rfl (Nat.le_of_ble_eq_true rfl) ⟨Nat.zero_le _, Nat.zero_le _⟩ dX7_safeShare_6 (fun r_6 G2 hG2 => ?_)
  obtain ⟨e_r_6, fi_G2, gr_G2, re_G2, hM_G2, hf_G2⟩ := hG2
  subst e_r_6
  exact k_dret C hQ rfl dX7_safeShare_9 ⟨rfl, fi_G2, gr_G2, re_G2, ⟨hM_G2.1, hM_G2.2.1, hM_G2.2.2.1, hM_G2.2.2.2.1, hM_G2.2.2.2.2.1, hM_G2.2.2.2.2.2⟩, fun j hj => (hf_G2 j hj : _).trans ((by rw [hG1, up_ne (by omega)]))⟩
