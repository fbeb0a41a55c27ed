/-! the model's reading of the buffer -/
def okX (tx : Nat → Int32) (ty : Nat) : Prop := ∀ j, j < ty → ∃ n, n < 128 ∧ tx j = nI n
theorem mT_at {tx : Nat → Int32} {ty i : Nat} (h : i < ty) (ht : ty ≤ 30) : txAt (tx, ty) (nI i) = tx i := txAt_nI (v := (tx, ty)) h ht
theorem k_bitB (x : BitVec 32) {l : Nat} (hl : l < 10) : (x.sshiftRight l &&& 1#32 = 0#32) ↔ (x &&& (1#32 <<< l) = 0#32) := by
  have h1 : x.sshiftRight l &&& 1#32 = (BitVec.ofBool ((x.sshiftRight l).getLsbD 0)).setWidth 32 := BitVec.and_one_eq_setWidth_ofBool_getLsbD
  have h2 : (1#32 : BitVec 32) <<< l = BitVec.twoPow 32 l := (BitVec.twoPow_eq 32 l).symm
  have h3 : (x.sshiftRight l).getLsbD 0 = x.getLsbD l := by
    rw [BitVec.getLsbD_sshiftRight]
    simp [show l < 32 by omega]
  rw [h1, h2, h3, BitVec.and_twoPow]
  have h4 : BitVec.twoPow 32 l ≠ 0#32 := by
    intro q
    have := congrArg (fun z => BitVec.getLsbD z l) q
    simp [BitVec.getLsbD_twoPow, show l < 32 by omega] at this
  cases x.getLsbD l with
  | true => simp [h4]
  | false => simp
theorem k_bit (u : Int32) {l : Nat} (hl : l < 10) : ((u >>> (nI l &&& 31)) &&& 1 = 0) ↔ (u &&& ((1 : Int32) <<< (nI l &&& 31)) = 0) := by
  have hb := k_bitB u.toBitVec hl
  rw [← Int32.toBitVec_inj, ← Int32.toBitVec_inj, Int32.toBitVec_and, Int32.toBitVec_and, Int32.toBitVec_shiftRight, Int32.toBitVec_shiftLeft]
  rcases (show l = 0 ∨ l = 1 ∨ l = 2 ∨ l = 3 ∨ l = 4 ∨ l = 5 ∨ l = 6 ∨ l = 7 ∨ l = 8 ∨ l = 9 by omega) with rfl | rfl | rfl | rfl | rfl | rfl | rfl | rfl | rfl | rfl <;> exact hb
theorem mIn_let {n : Nat} (hn : n < 128) (h : mIn (nI n) 97 106 = true) : ∃ l, l < 10 ∧ nI n - 97 = nI l := by
  simp only [mIn, Bool.and_eq_true, Bool.not_eq_true', decide_eq_false_iff_not] at h
  have h1 : ¬ n < 97 := fun q => h.1 (nI_lt (b := 97) q (by decide))
  have h2 : ¬ 106 < n := fun q => h.2 (nI_lt (a := 106) q (by omega))
  exact ⟨n - 97, by omega, pk_sub (b := 97) (by omega)⟩
theorem txBad_let {v : TV} {i l : Nat} (hp : i % 2 = 0) (hl : l < 10) (el : txAt v (nI i) - 97 = nI l) : txBad v i = !(decide ((txUsed v i >>> ((txAt v (nI i) - 97) &&& 31)) &&& 1 = 0)) := by
  have h1 : ¬ nI l < 0 := nI_pos (by omega)
  have h2 : ¬ (10 : Int32) ≤ nI l := nI_ge (b := 10) hl (by decide)
  rw [txBad, if_pos hp, txBit, el, decide_eq_false h1, decide_eq_false h2]
  simp [k_bit _ hl]
theorem txBad_not {v : TV} {i n : Nat} (hp : i % 2 = 0) (hn : n < 128) (e : txAt v (nI i) = nI n) (h : mIn (nI n) 97 106 = false) : txBad v i = true := by
  rw [txBad, if_pos hp, e]
  rcases Nat.lt_or_ge n 97 with q | q
  · rw [decide_eq_true (show nI n - 97 < 0 from pk_sneg (b := 97) (by decide) q)]; rfl
  · have h3 : 107 ≤ n := by
      rcases Nat.lt_or_ge n 107 with q2 | q2
      · have h1 : ¬ nI n < 97 := nI_nlt (b := 97) q (by omega)
        have h2 : ¬ (106 : Int32) < nI n := nI_nlt (a := 106) (by omega) (by decide)
        simp [mIn, h1, h2] at h
      · exact q2
    rw [decide_eq_true (show (10 : Int32) ≤ nI n - 97 from by rw [show (97 : Int32) = nI 97 from rfl, pk_sub q]; exact nI_le (a := 10) (by omega) (by omega))]
    simp
theorem txF_ok (v : TV) : ∀ k i, txF v k i = i + k → ∀ j, i ≤ j → j < i + k → txBad v j = false
  | 0, i, _, j, h1, h2 => absurd h2 (by omega)
  | k + 1, i, h, j, h1, h2 => by
    rw [txF] at h
    by_cases q : txBad v i = true
    · rw [if_pos q] at h; omega
    · rw [if_neg q] at h
      rcases Nat.eq_or_lt_of_le h1 with e | e
      · subst e; exact Bool.eq_false_iff.mpr q
      · exact txF_ok v k (i + 1) (by omega) j (by omega) (by omega)
def cS (tx : Nat → Int32) : Nat → Nat
  | 0 => 0
  | j + 1 => if tx (2 * j + 1) = 61 then cS tx j else j + 1
def lH (tx : Nat → Int32) (j : Nat) : Nat := (tx (2 * j) - 97).toNatClampNeg
def cZ (tx : Nat → Int32) : Nat → Nat → Nat
  | 0, _ => 0
  | n + 1, s => cZ tx n s + (if cS tx n = s then 1 else 0)
def lF (tx g : Nat → Int32) : Nat → (Nat → Int32)
  | 0 => g
  | j + 1 => upd (lF tx g j) (lH tx j) (nI (cS tx j + 1))
def lG (tx : Nat → Int32) (n : Nat) (g : Nat → Int32) : Nat → (Nat → Int32)
  | 0 => g
  | j + 1 => upd (lG tx n g j) (lH tx j) (nI (cZ tx n (cS tx j)))
def lOk (f tx : Nat → Int32) : Nat → Bool
  | 0 => true
  | j + 1 => lOk f tx j && mRuns f (tx (2 * j) - 97)
theorem lF_s (tx g : Nat → Int32) (j : Nat) : lF tx g (j + 1) = upd (lF tx g j) (lH tx j) (nI (cS tx j + 1)) := rfl
theorem lG_s (tx : Nat → Int32) (n : Nat) (g : Nat → Int32) (j : Nat) : lG tx n g (j + 1) = upd (lG tx n g j) (lH tx j) (nI (cZ tx n (cS tx j))) := rfl
theorem cS_le (tx : Nat → Int32) : ∀ j, cS tx j ≤ j
  | 0 => Nat.le_refl _
  | j + 1 => by have := cS_le tx j; rw [cS]; split <;> omega
theorem cZ_lo (tx : Nat → Int32) (b : Nat) : ∀ n, n ≤ b → cZ tx n b = 0
  | 0, _ => rfl
  | n + 1, h => by have := cS_le tx n; rw [cZ, cZ_lo tx b n (by omega), if_neg (by omega)]
theorem cZ_mid (tx : Nat → Int32) (b e : Nat) (hin : ∀ m, b ≤ m → m ≤ e → cS tx m = b) : ∀ n, b ≤ n → n ≤ e + 1 → cZ tx n b = n - b
  | 0, h, _ => by rw [cZ]; omega
  | n + 1, h, h2 => by
    rcases Nat.eq_or_lt_of_le h with q | q
    · rw [cZ_lo tx b (n + 1) (by omega)]; omega
    · rw [cZ, cZ_mid tx b e hin n (by omega) (by omega), if_pos (hin n (by omega) (by omega))]; omega
theorem cS_hi (tx : Nat → Int32) {s : Nat} (h : cS tx s = s) : ∀ j, s ≤ j → s ≤ cS tx j
  | 0, hj => by omega
  | j + 1, hj => by
    rcases Nat.eq_or_lt_of_le hj with q | q
    · rw [← q, h]; exact Nat.le_refl _
    · have := cS_hi tx h j (by omega)
      rw [cS]; split <;> omega
theorem cZ_hi (tx : Nat → Int32) {b s c : Nat} (h : cS tx s = s) (hb : b < s) (hc : cZ tx s b = c) : ∀ n, s ≤ n → cZ tx n b = c
  | 0, hn => by rw [show (0 : Nat) = s by omega]; exact hc
  | n + 1, hn => by
    rcases Nat.eq_or_lt_of_le hn with q | q
    · rw [← q]; exact hc
    · have := cS_hi tx h n (by omega)
      rw [cZ, cZ_hi tx h hb hc n (by omega), if_neg (by omega), Nat.add_zero]
theorem cZ_grp (tx : Nat → Int32) {b e n : Nat} (hb : b ≤ e) (he : e < n) (hin : ∀ m, b ≤ m → m ≤ e → cS tx m = b) (hout : e + 1 = n ∨ cS tx (e + 1) = e + 1) : cZ tx n b = e + 1 - b := by
  have h1 := cZ_mid tx b e hin (e + 1) (by omega) (Nat.le_refl _)
  rcases hout with q | q
  · rw [← q]; exact h1
  · exact cZ_hi tx q (by omega) h1 n (by omega)
theorem cZ_pos (tx : Nat → Int32) {m : Nat} : ∀ n, m < n → 0 < cZ tx n (cS tx m)
  | 0, h => absurd h (Nat.not_lt_zero _)
  | n + 1, h => by
    rw [cZ]
    rcases Nat.lt_or_ge m n with q | q
    · have := cZ_pos tx n q; omega
    · rw [show m = n by omega, if_pos rfl]; omega
theorem cZ_le (tx : Nat → Int32) (s : Nat) : ∀ n, cZ tx n s ≤ n
  | 0 => Nat.le_refl _
  | n + 1 => by have := cZ_le tx s n; rw [cZ]; split <;> omega
theorem arr_let {tx : Nat → Int32} {ty : Nat} (ht : ty ≤ 30) (hx : okX tx ty) (h : txArrival (tx, ty) = true) : ty % 2 = 1 ∧ ∀ j, 2 * j < ty → tx (2 * j) - 97 = nI (lH tx j) ∧ lH tx j < 10 := by
  simp only [txArrival, Bool.and_eq_true, decide_eq_true_eq] at h
  refine ⟨h.1, fun j hj => ?_⟩
  have hb := txF_ok (tx, ty) ty 0 (by rw [Nat.zero_add]; exact h.2) (2 * j) (Nat.zero_le _) (by omega)
  obtain ⟨n, hn, e⟩ := hx _ hj
  have e2 : txAt (tx, ty) (nI (2 * j)) = nI n := (mT_at hj ht).trans e
  cases hm : mIn (nI n) 97 106 with
  | false => rw [txBad_not (by omega) hn e2 hm] at hb; exact absurd hb (by decide)
  | true =>
    obtain ⟨l, hl, el⟩ := mIn_let hn hm
    have e3 : tx (2 * j) - 97 = nI l := by rw [e, el]
    rw [lH, e3, nI_clamp (by omega)]
    exact ⟨rfl, hl⟩
theorem okG_l (tx : Nat → Int32) {n : Nat} (hn : n < 2 ^ 31) (fi gr : Nat → Int32) : ∀ i, i ≤ n → okG (lF tx (aB fi 10) i) (lG tx n gr i)
  | 0, _ => okG_neg fi gr
  | i + 1, h => by
    have h1 := cZ_pos tx (m := i) n (by omega)
    have h2 := cZ_le tx (cS tx i) n
    exact okG_upd (okG_l tx hn fi gr i (by omega)) (nI_ne0 h1 (by omega))
theorem lF_ext (tx : Nat → Int32) {g g2 : Nat → Int32} (e : ∀ j, j < 10 → g j = g2 j) : ∀ i, ∀ j, j < 10 → lF tx g i j = lF tx g2 i j
  | 0 => e
  | i + 1 => upd_ext (lF_ext tx e i)
theorem lG_ext (tx : Nat → Int32) (n : Nat) {g g2 : Nat → Int32} (e : ∀ j, j < 10 → g j = g2 j) : ∀ i, ∀ j, j < 10 → lG tx n g i j = lG tx n g2 i j
  | 0 => e
  | i + 1 => upd_ext (lG_ext tx n e i)
def mArr (f tx : Nat → Int32) (ty : Nat) : Bool := txArrival (tx, ty) && lOk f tx ((ty + 1) / 2)
def mAW (f tx : Nat → Int32) (ty nh nb nl : Nat) : Int32 := mWins f (lF tx mNeg ((ty + 1) / 2)) (lG tx ((ty + 1) / 2) mNeg ((ty + 1) / 2)) nh nb nl
theorem mAW_eq {f : Nat → Int32} {nh nb nl : Nat} (tx : Nat → Int32) (ty : Nat) (fi gr : Nat → Int32) (hB : ∀ k, k < nb → okB f k) (hO : ∀ k, k < nl → okO f k) : mWins f (lF tx (aB fi 10) ((ty + 1) / 2)) (lG tx ((ty + 1) / 2) (aB gr 10) ((ty + 1) / 2)) nh nb nl = mAW f tx ty nh nb nl :=
  mWins_ext hB hO (lF_ext tx (aB_neg fi) _) (lG_ext tx _ (aB_neg gr) _)
def mIf (f tx : Nat → Int32) (ty nh nb nl : Nat) : Int32 := if mArr f tx ty = true then mAW f tx ty nh nb nl + 10000000 else -1
theorem inX7_isArrival_7 : ∀ w ∈ wsX70, w ∈ wsX7_isArrival := fun _ h => List.mem_cons_of_mem _ (List.mem_append_right _ h)
theorem kd_X7_isArrival : yX7_isArrival.cls = RX7 ∧ yX7_isArrival.cls ≠ "java/lang/invoke/MethodHandle" ∧ yX7_isArrival.cls ≠ "java/lang/invoke/VarHandle" ∧ (parseMethodDescriptor yX7_isArrival.desc).map (fun d => d.parameters.length) = some 0 := by decide +kernel
abbrev rX7_isArrival : Room := ({ frames := 1, cells := 0, slots := 0, locals := 22 } : Room)
set_option maxRecDepth 100000 in
set_option maxHeartbeats 4000000 in
/-- model: isArrival -/
theorem m_X7_isArrival (l : Launch) (D : va_G) (cI cC cZ cB cJ : ClassId) (ad : Nat → Nat) (N : Nat) (G : Nat → va_E) (f kp tx fi gr : Nat → Int32) (st ty : Nat) (th at0 re : Int32) (nh nb nl : Nat) (hN : 79 ≤ N) (hM : isMo ad cI cC cZ G f kp tx fi gr st ty th at0 re) (hT0 : ty ≤ 30) (hX0 : okX tx ty) : kMi l yX7_isArrival wsX7_isArrival rX7_isArrival D (kT5 cI cC cZ cB cJ) ad N G [.ref (ad 73)] (fun r G' => r = (bI (txArrival (tx, ty))) ∧ isMo ad cI cC cZ G' f kp tx fi gr st ty th (nI (txWrong (tx, ty))) re ∧ ∀ j, (j < 73 ∨ 79 ≤ j) → G' j = G j) := by
  refine k_starti (cc := cX7_isArrival) (ret := (some .boolean)) (maxL := 6) (lv0 := [(0, .ref (ad 73))]) (by decide) rfl (Nat.le_of_ble_eq_true rfl) rfl ?_
  intro p e s m args below meth c A Q C hQ
  refine k_iconst C (v := 0) dX7_isArrival_0 (by decide) ?_
  refine k_istore_n C (lv' := [(1, .int 0), (0, .ref (ad 73))]) dX7_isArrival_1 rfl (by decide) rfl ?_
  refine k_iconst C (v := 0) dX7_isArrival_2 (by decide) ?_
  refine k_istore_n C (lv' := [(2, .int 0), (1, .int 0), (0, .ref (ad 73))]) dX7_isArrival_3 rfl (by decide) rfl ?_
  refine k_iconst C (v := 1) dX7_isArrival_4 (by decide) ?_
  refine k_istore_n C (lv' := [(3, .int 1), (2, .int 0), (1, .int 0), (0, .ref (ad 73))]) dX7_isArrival_5 rfl (by decide) rfl ?_
  refine k_aload_n C dX7_isArrival_6 rfl (j := 3) rfl ?_
  refine k_iconst C (v := 0) dX7_isArrival_7 (by decide) ?_
  refine k_put C 73 inX7_isArrival_7 tyX7 tyX7_ok nmX7 (by omega) hM.1 rfl 6 (by decide) (List.mem_of_getElem? (i := 1) rfl) rfl rfl rfl rfl (Nat.le_of_ble_eq_true rfl) dX7_isArrival_8 (fun G1 hG1 => ?_)
  have h_74_G1 : G1 74 = .inl (cI, 2610, .inl f) := up_at hG1 hM.2.1 (by omega)
  have h_75_G1 : G1 75 = .inl (cZ, 2, .inl kp) := up_at hG1 hM.2.2.1 (by omega)
  have h_76_G1 : G1 76 = .inl (cC, 30, .inl tx) := up_at hG1 hM.2.2.2.1 (by omega)
  have h_77_G1 : G1 77 = .inl (cI, 10, .inl fi) := up_at hG1 hM.2.2.2.2.1 (by omega)
  have h_78_G1 : G1 78 = .inl (cI, 10, .inl gr) := up_at hG1 hM.2.2.2.2.2 (by omega)
  have h_73_G1 : G1 73 = .inr (7, [.ref (ad 74), .int (nI st), .ref (ad 75), .int th, .ref (ad 76), .int (nI ty), .int 0, .ref (ad 77), .ref (ad 78), .int re]) := up_it hG1
  refine k_iconst C (v := 1) dX7_isArrival_11 (by decide) ?_
  refine k_istore C (lv' := [(4, .int 1), (3, .int 1), (2, .int 0), (1, .int 0), (0, .ref (ad 73))]) dX7_isArrival_12 (by decide) rfl ?_
  have loop14 : ∀ (k : Nat) (i : Nat) (G2 : Nat → va_E), (ty + 1 ≤ i + k) → (i ≤ ty) → (txF (tx, ty) (ty - i) i = txWrong (tx, ty)) → (isMo ad cI cC cZ G2 f kp tx fi gr st ty th (nI i) re) → (∀ j, (j < 73 ∨ 79 ≤ j) → G2 j = G j) → kJ p l e rX7_isArrival s m args below meth c 0 0 Q 6 D ad N A G2 14 [(0, .ref (ad 73)), (1, .int (txUsed (tx, ty) i)), (2, .int (nI ((i + 1) / 2))), (3, .int (bI (decide (i % 2 = 0)))), (4, .int 1)] [] := by
    intro k
    induction k with
    | zero => intro i G2 h1 h2 hw hM2 hfr; exact absurd h1 (by omega)
    | succ k ih14 =>
      intro i G2 h1 h2 hw hM2 hfr
      refine k_aload_n C dX7_isArrival_14 rfl (j := 0) rfl ?_
      refine k_get C 73 inX7_isArrival_7 (by omega) hM2.1 rfl 6 (by decide) (List.mem_of_getElem? (i := 1) rfl) rfl rfl dX7_isArrival_15 ?_
      refine k_aload_n C dX7_isArrival_18 rfl (j := 0) rfl ?_
      refine k_get C 73 inX7_isArrival_7 (by omega) hM2.1 rfl 5 (by decide) (List.mem_of_getElem? (i := 2) rfl) rfl rfl dX7_isArrival_19 ?_
      refine k_icmp_ge C 170 dX7_isArrival_22 (by decide) (fun c_22 => ?_) (fun c_22 => ?_)
      · skip
        have hi2 : ty = i := (k_ge c_22 (by omega) (by omega)).symm
        subst hi2
        have hwr : txWrong (tx, ty) = ty := by rw [← hw, Nat.sub_self]; rfl
        refine k_iload C dX7_isArrival_170 (j := 4) rfl ?_
        refine k_if_eq C 183 dX7_isArrival_172 (by decide) (fun q => absurd q (by decide)) (fun _ => ?_)
        refine k_iload_n C dX7_isArrival_175 rfl (j := 3) rfl ?_
        refine k_if_ne C 183 dX7_isArrival_176 (by decide) (fun c_176 => ?_) (fun c_176 => ?_)
        · skip
          have c_176 := bI_t c_176
          refine k_iconst C (v := 0) dX7_isArrival_183 (by decide) ?_
          exact k_iret C hQ rfl (by decide) dX7_isArrival_184 ⟨(by rw [txArrival, hwr]; simp [txN, bI, of_decide_eq_true c_176]), (by rw [hwr]; exact ⟨hM2.1, hM2.2.1, hM2.2.2.1, hM2.2.2.2.1, hM2.2.2.2.2.1, hM2.2.2.2.2.2⟩), fun j hj => hfr j hj⟩
        · skip
          have c_176 := bI_f c_176
          refine k_iconst C (v := 1) dX7_isArrival_179 (by decide) ?_
          refine k_goto C 184 dX7_isArrival_180 (by decide) ?_
          exact k_iret C hQ rfl (by decide) dX7_isArrival_184 ⟨(by rw [txArrival, hwr]; simp [txN, bI, show ty % 2 = 1 by have := of_decide_eq_false c_176; omega]), (by rw [hwr]; exact ⟨hM2.1, hM2.2.1, hM2.2.2.1, hM2.2.2.2.1, hM2.2.2.2.2.1, hM2.2.2.2.2.2⟩), fun j hj => hfr j hj⟩
      · skip
        have hi3 : i < ty := k_lt c_22 (by omega) (by omega)
        obtain ⟨n, hn, en⟩ := hX0 i hi3
        have hat := mT_at (tx := tx) hi3 hT0
        refine k_iload C dX7_isArrival_25 (j := 4) rfl ?_
        refine k_if_eq C 170 dX7_isArrival_27 (by decide) (fun q => absurd q (by decide)) (fun _ => ?_)
        refine k_aload_n C dX7_isArrival_30 rfl (j := 0) rfl ?_
        refine k_get C 73 inX7_isArrival_7 (by omega) hM2.1 rfl 4 (by decide) (List.mem_of_getElem? (i := 3) rfl) rfl rfl dX7_isArrival_31 ?_
        refine k_aload_n C dX7_isArrival_34 rfl (j := 0) rfl ?_
        refine k_get C 73 inX7_isArrival_7 (by omega) hM2.1 rfl 6 (by decide) (List.mem_of_getElem? (i := 1) rfl) rfl rfl dX7_isArrival_35 ?_
        refine k_caldN C 76 1 (by omega) hM2.2.2.2.1 rfl i rfl (by omega) (Nat.le_of_ble_eq_true rfl) dX7_isArrival_38 ?_
        refine k_istore C (lv' := [(5, .int (tx i)), (0, .ref (ad 73)), (1, .int (txUsed (tx, ty) i)), (2, .int (nI ((i + 1) / 2))), (3, .int (bI (decide (i % 2 = 0)))), (4, .int 1)]) dX7_isArrival_39 (by decide) rfl ?_
        refine k_iload_n C dX7_isArrival_41 rfl (j := 4) rfl ?_
        refine k_if_eq C 111 dX7_isArrival_42 (by decide) (fun c_42 => ?_) (fun c_42 => ?_)
        · skip
          have c_42 := bI_f c_42
          have hp : ¬ i % 2 = 0 := of_decide_eq_false c_42
          refine k_iload C dX7_isArrival_111 (j := 0) rfl ?_
          refine k_bipush C (v := 62) dX7_isArrival_113 (by decide) ?_
          refine k_icmp_eq C 125 dX7_isArrival_115 (by decide) (fun c_115 => ?_) (fun c_115 => ?_)
          · skip
            refine k_iload_n C dX7_isArrival_125 rfl (j := 3) rfl ?_
            refine k_bipush C (v := 10) dX7_isArrival_126 (by decide) ?_
            refine k_icmp_ge C 135 dX7_isArrival_128 (by decide) (fun c_128 => ?_) (fun c_128 => ?_)
            · skip
              have h19 : 19 ≤ i := by have := (nI_leI (a := 10) (by decide) (by omega)).mp c_128; omega
              have hbad : txBad (tx, ty) i = true := by rw [txBad, if_neg hp, decide_eq_true h19]; rfl
              have hwr : txWrong (tx, ty) = i := by rw [← hw, show ty - i = (ty - i - 1) + 1 by omega, txF, if_pos hbad]
              refine k_iconst C (v := 0) dX7_isArrival_135 (by decide) ?_
              refine k_istore C (lv' := [(4, .int 0), (5, .int (tx i)), (0, .ref (ad 73)), (1, .int (txUsed (tx, ty) i)), (2, .int (nI ((i + 1) / 2))), (3, .int (bI (decide (i % 2 = 0))))]) dX7_isArrival_136 (by decide) rfl ?_
              refine k_iload_n C dX7_isArrival_138 rfl (j := 5) rfl ?_
              refine k_if_ne C 146 dX7_isArrival_139 (by decide) (fun q => absurd q (fun z => z (by rw [c_42]; rfl))) (fun _ => ?_)
              refine k_iconst C (v := 1) dX7_isArrival_142 (by decide) ?_
              refine k_goto C 147 dX7_isArrival_143 (by decide) ?_
              refine k_istore_n C (lv' := [(3, .int 1), (4, .int 0), (5, .int (tx i)), (0, .ref (ad 73)), (1, .int (txUsed (tx, ty) i)), (2, .int (nI ((i + 1) / 2)))]) dX7_isArrival_147 rfl (by decide) rfl ?_
              refine k_aload_n C dX7_isArrival_148 rfl (j := 3) rfl ?_
              refine k_dup C dX7_isArrival_149 rfl ?_
              refine k_get C 73 inX7_isArrival_7 (by omega) hM2.1 rfl 6 (by decide) (List.mem_of_getElem? (i := 1) rfl) rfl rfl dX7_isArrival_150 ?_
              refine k_iload C dX7_isArrival_153 (j := 1) rfl ?_
              refine k_if_eq C 162 dX7_isArrival_155 (by decide) (fun _ => ?_) (fun q => absurd q (by decide))
              refine k_iconst C (v := 0) dX7_isArrival_162 (by decide) ?_
              refine k_iadd C dX7_isArrival_163 ?_
              refine k_put C 73 inX7_isArrival_7 tyX7 tyX7_ok nmX7 (by omega) hM2.1 rfl 6 (by decide) (List.mem_of_getElem? (i := 1) rfl) rfl rfl rfl rfl (Nat.le_of_ble_eq_true rfl) dX7_isArrival_164 (fun G2 hG2 => ?_)
              have h_74_G2 : G2 74 = .inl (cI, 2610, .inl f) := up_at hG2 hM2.2.1 (by omega)
              have h_75_G2 : G2 75 = .inl (cZ, 2, .inl kp) := up_at hG2 hM2.2.2.1 (by omega)
              have h_76_G2 : G2 76 = .inl (cC, 30, .inl tx) := up_at hG2 hM2.2.2.2.1 (by omega)
              have h_77_G2 : G2 77 = .inl (cI, 10, .inl fi) := up_at hG2 hM2.2.2.2.2.1 (by omega)
              have h_78_G2 : G2 78 = .inl (cI, 10, .inl gr) := up_at hG2 hM2.2.2.2.2.2 (by omega)
              have h_73_G2 : G2 73 = .inr (7, [.ref (ad 74), .int (nI st), .ref (ad 75), .int th, .ref (ad 76), .int (nI ty), .int (nI i), .ref (ad 77), .ref (ad 78), .int re]) := by rw [up_it hG2]; rw [Int32.add_zero]; rfl
              refine k_goto C 14 dX7_isArrival_167 (by decide) ?_
              refine k_aload_n C dX7_isArrival_14 rfl (j := 3) rfl ?_
              refine k_get C 73 inX7_isArrival_7 (by omega) h_73_G2 rfl 6 (by decide) (List.mem_of_getElem? (i := 1) rfl) rfl rfl dX7_isArrival_15 ?_
              refine k_aload_n C dX7_isArrival_18 rfl (j := 3) rfl ?_
              refine k_get C 73 inX7_isArrival_7 (by omega) h_73_G2 rfl 5 (by decide) (List.mem_of_getElem? (i := 2) rfl) rfl rfl dX7_isArrival_19 ?_
              refine k_icmp_ge C 170 dX7_isArrival_22 (by decide) (fun c_22 => ?_) (fun c_22 => ?_)
              · skip
                refine k_iload C dX7_isArrival_170 (j := 1) rfl ?_
                refine k_if_eq C 183 dX7_isArrival_172 (by decide) (fun _ => ?_) (fun q => absurd q (by decide))
                refine k_iconst C (v := 0) dX7_isArrival_183 (by decide) ?_
                exact k_iret C hQ rfl (by decide) dX7_isArrival_184 ⟨(by rw [txArrival, hwr]; simp [txN, bI, show ¬ i = ty by omega]), (by rw [hwr]; exact ⟨h_73_G2, h_74_G2, h_75_G2, h_76_G2, h_77_G2, h_78_G2⟩), fun j hj => (show _ = _ from by rw [hG2, up_ne (by omega)]).trans (hfr j hj)⟩
              · skip
                refine k_iload C dX7_isArrival_25 (j := 1) rfl ?_
                refine k_if_eq C 170 dX7_isArrival_27 (by decide) (fun _ => ?_) (fun q => absurd q (by decide))
                refine k_iload C dX7_isArrival_170 (j := 1) rfl ?_
                refine k_if_eq C 183 dX7_isArrival_172 (by decide) (fun _ => ?_) (fun q => absurd q (by decide))
                refine k_iconst C (v := 0) dX7_isArrival_183 (by decide) ?_
                exact k_iret C hQ rfl (by decide) dX7_isArrival_184 ⟨(by rw [txArrival, hwr]; simp [txN, bI, show ¬ i = ty by omega]), (by rw [hwr]; exact ⟨h_73_G2, h_74_G2, h_75_G2, h_76_G2, h_77_G2, h_78_G2⟩), fun j hj => (show _ = _ from by rw [hG2, up_ne (by omega)]).trans (hfr j hj)⟩
            · skip
              have h19 : ¬ 19 ≤ i := fun q => c_128 ((nI_leI (a := 10) (by decide) (by omega)).mpr (by omega))
              have hbad : txBad (tx, ty) i = false := by rw [txBad, if_neg hp, hat, decide_eq_false h19]; simp [c_115]
              have hw2 : txF (tx, ty) (ty - (i + 1)) (i + 1) = txWrong (tx, ty) := by rw [← hw, show ty - i = (ty - (i + 1)) + 1 by omega, txF, if_neg (by rw [hbad]; decide)]
              refine k_iconst C (v := 1) dX7_isArrival_131 (by decide) ?_
              refine k_goto C 136 dX7_isArrival_132 (by decide) ?_
              refine k_istore C (lv' := [(4, .int 1), (5, .int (tx i)), (0, .ref (ad 73)), (1, .int (txUsed (tx, ty) i)), (2, .int (nI ((i + 1) / 2))), (3, .int (bI (decide (i % 2 = 0))))]) dX7_isArrival_136 (by decide) rfl ?_
              refine k_iload_n C dX7_isArrival_138 rfl (j := 5) rfl ?_
              refine k_if_ne C 146 dX7_isArrival_139 (by decide) (fun q => absurd q (fun z => z (by rw [c_42]; rfl))) (fun _ => ?_)
              refine k_iconst C (v := 1) dX7_isArrival_142 (by decide) ?_
              refine k_goto C 147 dX7_isArrival_143 (by decide) ?_
              refine k_istore_n C (lv' := [(3, .int 1), (4, .int 1), (5, .int (tx i)), (0, .ref (ad 73)), (1, .int (txUsed (tx, ty) i)), (2, .int (nI ((i + 1) / 2)))]) dX7_isArrival_147 rfl (by decide) rfl ?_
              refine k_sub (lv' := [(3, .int 1), (4, .int 1), (0, .ref (ad 73)), (1, .int (txUsed (tx, ty) i)), (2, .int (nI ((i + 1) / 2)))]) [0, 1, 3, 4, 5] rfl ?_
              refine k_cong (lv' := [(3, .int (bI (decide ((i + 1) % 2 = 0)))), (4, .int 1), (0, .ref (ad 73)), (1, .int (txUsed (tx, ty) (i + 1))), (2, .int (nI ((i + 1 + 1) / 2)))]) (by rw [show txUsed (tx, ty) (i + 1) = txUsed (tx, ty) i from by rw [txUsed, if_neg hp], show (i + 1 + 1) / 2 = (i + 1) / 2 from by omega, show decide ((i + 1) % 2 = 0) = true from decide_eq_true (by omega)]; rfl) ?_
              refine k_aload_n C dX7_isArrival_148 rfl (j := 2) rfl ?_
              refine k_dup C dX7_isArrival_149 rfl ?_
              refine k_get C 73 inX7_isArrival_7 (by omega) hM2.1 rfl 6 (by decide) (List.mem_of_getElem? (i := 1) rfl) rfl rfl dX7_isArrival_150 ?_
              refine k_iload C dX7_isArrival_153 (j := 1) rfl ?_
              refine k_if_eq C 162 dX7_isArrival_155 (by decide) (fun q => absurd q (by decide)) (fun _ => ?_)
              refine k_iconst C (v := 1) dX7_isArrival_158 (by decide) ?_
              refine k_goto C 163 dX7_isArrival_159 (by decide) ?_
              refine k_iadd C dX7_isArrival_163 ?_
              refine k_put C 73 inX7_isArrival_7 tyX7 tyX7_ok nmX7 (by omega) hM2.1 rfl 6 (by decide) (List.mem_of_getElem? (i := 1) rfl) rfl rfl rfl rfl (Nat.le_of_ble_eq_true rfl) dX7_isArrival_164 (fun G3 hG3 => ?_)
              have h_74_G3 : G3 74 = .inl (cI, 2610, .inl f) := up_at hG3 hM2.2.1 (by omega)
              have h_75_G3 : G3 75 = .inl (cZ, 2, .inl kp) := up_at hG3 hM2.2.2.1 (by omega)
              have h_76_G3 : G3 76 = .inl (cC, 30, .inl tx) := up_at hG3 hM2.2.2.2.1 (by omega)
              have h_77_G3 : G3 77 = .inl (cI, 10, .inl fi) := up_at hG3 hM2.2.2.2.2.1 (by omega)
              have h_78_G3 : G3 78 = .inl (cI, 10, .inl gr) := up_at hG3 hM2.2.2.2.2.2 (by omega)
              have h_73_G3 : G3 73 = .inr (7, [.ref (ad 74), .int (nI st), .ref (ad 75), .int th, .ref (ad 76), .int (nI ty), .int (nI (i + 1)), .ref (ad 77), .ref (ad 78), .int re]) := by rw [up_it hG3]; rw [nI_1]; rfl
              refine k_goto C 14 dX7_isArrival_167 (by decide) ?_
              exact k_sub [2, 3, 4, 0, 1] rfl (ih14 (i + 1) G3 (by omega) (by omega) hw2 ⟨h_73_G3, h_74_G3, h_75_G3, h_76_G3, h_77_G3, h_78_G3⟩ (fun j hj => (show _ = _ from by rw [hG3, up_ne (by omega)]).trans (hfr j hj)))
          · skip
            refine k_iload C dX7_isArrival_118 (j := 0) rfl ?_
            refine k_bipush C (v := 61) dX7_isArrival_120 (by decide) ?_
            refine k_icmp_ne C 135 dX7_isArrival_122 (by decide) (fun c_122 => ?_) (fun c_122 => ?_)
            · skip
              have hbad : txBad (tx, ty) i = true := by rw [txBad, if_neg hp, hat]; simp [c_115, c_122]
              have hwr : txWrong (tx, ty) = i := by rw [← hw, show ty - i = (ty - i - 1) + 1 by omega, txF, if_pos hbad]
              refine k_iconst C (v := 0) dX7_isArrival_135 (by decide) ?_
              refine k_istore C (lv' := [(4, .int 0), (5, .int (tx i)), (0, .ref (ad 73)), (1, .int (txUsed (tx, ty) i)), (2, .int (nI ((i + 1) / 2))), (3, .int (bI (decide (i % 2 = 0))))]) dX7_isArrival_136 (by decide) rfl ?_
              refine k_iload_n C dX7_isArrival_138 rfl (j := 5) rfl ?_
              refine k_if_ne C 146 dX7_isArrival_139 (by decide) (fun q => absurd q (fun z => z (by rw [c_42]; rfl))) (fun _ => ?_)
              refine k_iconst C (v := 1) dX7_isArrival_142 (by decide) ?_
              refine k_goto C 147 dX7_isArrival_143 (by decide) ?_
              refine k_istore_n C (lv' := [(3, .int 1), (4, .int 0), (5, .int (tx i)), (0, .ref (ad 73)), (1, .int (txUsed (tx, ty) i)), (2, .int (nI ((i + 1) / 2)))]) dX7_isArrival_147 rfl (by decide) rfl ?_
              refine k_aload_n C dX7_isArrival_148 rfl (j := 3) rfl ?_
              refine k_dup C dX7_isArrival_149 rfl ?_
              refine k_get C 73 inX7_isArrival_7 (by omega) hM2.1 rfl 6 (by decide) (List.mem_of_getElem? (i := 1) rfl) rfl rfl dX7_isArrival_150 ?_
              refine k_iload C dX7_isArrival_153 (j := 1) rfl ?_
              refine k_if_eq C 162 dX7_isArrival_155 (by decide) (fun _ => ?_) (fun q => absurd q (by decide))
              refine k_iconst C (v := 0) dX7_isArrival_162 (by decide) ?_
              refine k_iadd C dX7_isArrival_163 ?_
              refine k_put C 73 inX7_isArrival_7 tyX7 tyX7_ok nmX7 (by omega) hM2.1 rfl 6 (by decide) (List.mem_of_getElem? (i := 1) rfl) rfl rfl rfl rfl (Nat.le_of_ble_eq_true rfl) dX7_isArrival_164 (fun G4 hG4 => ?_)
              have h_74_G4 : G4 74 = .inl (cI, 2610, .inl f) := up_at hG4 hM2.2.1 (by omega)
              have h_75_G4 : G4 75 = .inl (cZ, 2, .inl kp) := up_at hG4 hM2.2.2.1 (by omega)
              have h_76_G4 : G4 76 = .inl (cC, 30, .inl tx) := up_at hG4 hM2.2.2.2.1 (by omega)
              have h_77_G4 : G4 77 = .inl (cI, 10, .inl fi) := up_at hG4 hM2.2.2.2.2.1 (by omega)
              have h_78_G4 : G4 78 = .inl (cI, 10, .inl gr) := up_at hG4 hM2.2.2.2.2.2 (by omega)
              have h_73_G4 : G4 73 = .inr (7, [.ref (ad 74), .int (nI st), .ref (ad 75), .int th, .ref (ad 76), .int (nI ty), .int (nI i), .ref (ad 77), .ref (ad 78), .int re]) := by rw [up_it hG4]; rw [Int32.add_zero]; rfl
              refine k_goto C 14 dX7_isArrival_167 (by decide) ?_
              refine k_aload_n C dX7_isArrival_14 rfl (j := 3) rfl ?_
              refine k_get C 73 inX7_isArrival_7 (by omega) h_73_G4 rfl 6 (by decide) (List.mem_of_getElem? (i := 1) rfl) rfl rfl dX7_isArrival_15 ?_
              refine k_aload_n C dX7_isArrival_18 rfl (j := 3) rfl ?_
              refine k_get C 73 inX7_isArrival_7 (by omega) h_73_G4 rfl 5 (by decide) (List.mem_of_getElem? (i := 2) rfl) rfl rfl dX7_isArrival_19 ?_
              refine k_icmp_ge C 170 dX7_isArrival_22 (by decide) (fun c_22 => ?_) (fun c_22 => ?_)
              · skip
                refine k_iload C dX7_isArrival_170 (j := 1) rfl ?_
                refine k_if_eq C 183 dX7_isArrival_172 (by decide) (fun _ => ?_) (fun q => absurd q (by decide))
                refine k_iconst C (v := 0) dX7_isArrival_183 (by decide) ?_
                exact k_iret C hQ rfl (by decide) dX7_isArrival_184 ⟨(by rw [txArrival, hwr]; simp [txN, bI, show ¬ i = ty by omega]), (by rw [hwr]; exact ⟨h_73_G4, h_74_G4, h_75_G4, h_76_G4, h_77_G4, h_78_G4⟩), fun j hj => (show _ = _ from by rw [hG4, up_ne (by omega)]).trans (hfr j hj)⟩
              · skip
                refine k_iload C dX7_isArrival_25 (j := 1) rfl ?_
                refine k_if_eq C 170 dX7_isArrival_27 (by decide) (fun _ => ?_) (fun q => absurd q (by decide))
                refine k_iload C dX7_isArrival_170 (j := 1) rfl ?_
                refine k_if_eq C 183 dX7_isArrival_172 (by decide) (fun _ => ?_) (fun q => absurd q (by decide))
                refine k_iconst C (v := 0) dX7_isArrival_183 (by decide) ?_
                exact k_iret C hQ rfl (by decide) dX7_isArrival_184 ⟨(by rw [txArrival, hwr]; simp [txN, bI, show ¬ i = ty by omega]), (by rw [hwr]; exact ⟨h_73_G4, h_74_G4, h_75_G4, h_76_G4, h_77_G4, h_78_G4⟩), fun j hj => (show _ = _ from by rw [hG4, up_ne (by omega)]).trans (hfr j hj)⟩
            · skip
              refine k_iload_n C dX7_isArrival_125 rfl (j := 3) rfl ?_
              refine k_bipush C (v := 10) dX7_isArrival_126 (by decide) ?_
              refine k_icmp_ge C 135 dX7_isArrival_128 (by decide) (fun c_128 => ?_) (fun c_128 => ?_)
              · skip
                have h19 : 19 ≤ i := by have := (nI_leI (a := 10) (by decide) (by omega)).mp c_128; omega
                have hbad : txBad (tx, ty) i = true := by rw [txBad, if_neg hp, decide_eq_true h19]; rfl
                have hwr : txWrong (tx, ty) = i := by rw [← hw, show ty - i = (ty - i - 1) + 1 by omega, txF, if_pos hbad]
                refine k_iconst C (v := 0) dX7_isArrival_135 (by decide) ?_
                refine k_istore C (lv' := [(4, .int 0), (5, .int (tx i)), (0, .ref (ad 73)), (1, .int (txUsed (tx, ty) i)), (2, .int (nI ((i + 1) / 2))), (3, .int (bI (decide (i % 2 = 0))))]) dX7_isArrival_136 (by decide) rfl ?_
                refine k_iload_n C dX7_isArrival_138 rfl (j := 5) rfl ?_
                refine k_if_ne C 146 dX7_isArrival_139 (by decide) (fun q => absurd q (fun z => z (by rw [c_42]; rfl))) (fun _ => ?_)
                refine k_iconst C (v := 1) dX7_isArrival_142 (by decide) ?_
                refine k_goto C 147 dX7_isArrival_143 (by decide) ?_
                refine k_istore_n C (lv' := [(3, .int 1), (4, .int 0), (5, .int (tx i)), (0, .ref (ad 73)), (1, .int (txUsed (tx, ty) i)), (2, .int (nI ((i + 1) / 2)))]) dX7_isArrival_147 rfl (by decide) rfl ?_
                refine k_aload_n C dX7_isArrival_148 rfl (j := 3) rfl ?_
                refine k_dup C dX7_isArrival_149 rfl ?_
                refine k_get C 73 inX7_isArrival_7 (by omega) hM2.1 rfl 6 (by decide) (List.mem_of_getElem? (i := 1) rfl) rfl rfl dX7_isArrival_150 ?_
                refine k_iload C dX7_isArrival_153 (j := 1) rfl ?_
                refine k_if_eq C 162 dX7_isArrival_155 (by decide) (fun _ => ?_) (fun q => absurd q (by decide))
                refine k_iconst C (v := 0) dX7_isArrival_162 (by decide) ?_
                refine k_iadd C dX7_isArrival_163 ?_
                refine k_put C 73 inX7_isArrival_7 tyX7 tyX7_ok nmX7 (by omega) hM2.1 rfl 6 (by decide) (List.mem_of_getElem? (i := 1) rfl) rfl rfl rfl rfl (Nat.le_of_ble_eq_true rfl) dX7_isArrival_164 (fun G5 hG5 => ?_)
                have h_74_G5 : G5 74 = .inl (cI, 2610, .inl f) := up_at hG5 hM2.2.1 (by omega)
                have h_75_G5 : G5 75 = .inl (cZ, 2, .inl kp) := up_at hG5 hM2.2.2.1 (by omega)
                have h_76_G5 : G5 76 = .inl (cC, 30, .inl tx) := up_at hG5 hM2.2.2.2.1 (by omega)
                have h_77_G5 : G5 77 = .inl (cI, 10, .inl fi) := up_at hG5 hM2.2.2.2.2.1 (by omega)
                have h_78_G5 : G5 78 = .inl (cI, 10, .inl gr) := up_at hG5 hM2.2.2.2.2.2 (by omega)
                have h_73_G5 : G5 73 = .inr (7, [.ref (ad 74), .int (nI st), .ref (ad 75), .int th, .ref (ad 76), .int (nI ty), .int (nI i), .ref (ad 77), .ref (ad 78), .int re]) := by rw [up_it hG5]; rw [Int32.add_zero]; rfl
                refine k_goto C 14 dX7_isArrival_167 (by decide) ?_
                refine k_aload_n C dX7_isArrival_14 rfl (j := 3) rfl ?_
                refine k_get C 73 inX7_isArrival_7 (by omega) h_73_G5 rfl 6 (by decide) (List.mem_of_getElem? (i := 1) rfl) rfl rfl dX7_isArrival_15 ?_
                refine k_aload_n C dX7_isArrival_18 rfl (j := 3) rfl ?_
                refine k_get C 73 inX7_isArrival_7 (by omega) h_73_G5 rfl 5 (by decide) (List.mem_of_getElem? (i := 2) rfl) rfl rfl dX7_isArrival_19 ?_
                refine k_icmp_ge C 170 dX7_isArrival_22 (by decide) (fun c_22 => ?_) (fun c_22 => ?_)
                · skip
                  refine k_iload C dX7_isArrival_170 (j := 1) rfl ?_
                  refine k_if_eq C 183 dX7_isArrival_172 (by decide) (fun _ => ?_) (fun q => absurd q (by decide))
                  refine k_iconst C (v := 0) dX7_isArrival_183 (by decide) ?_
                  exact k_iret C hQ rfl (by decide) dX7_isArrival_184 ⟨(by rw [txArrival, hwr]; simp [txN, bI, show ¬ i = ty by omega]), (by rw [hwr]; exact ⟨h_73_G5, h_74_G5, h_75_G5, h_76_G5, h_77_G5, h_78_G5⟩), fun j hj => (show _ = _ from by rw [hG5, up_ne (by omega)]).trans (hfr j hj)⟩
                · skip
                  refine k_iload C dX7_isArrival_25 (j := 1) rfl ?_
                  refine k_if_eq C 170 dX7_isArrival_27 (by decide) (fun _ => ?_) (fun q => absurd q (by decide))
                  refine k_iload C dX7_isArrival_170 (j := 1) rfl ?_
                  refine k_if_eq C 183 dX7_isArrival_172 (by decide) (fun _ => ?_) (fun q => absurd q (by decide))
                  refine k_iconst C (v := 0) dX7_isArrival_183 (by decide) ?_
                  exact k_iret C hQ rfl (by decide) dX7_isArrival_184 ⟨(by rw [txArrival, hwr]; simp [txN, bI, show ¬ i = ty by omega]), (by rw [hwr]; exact ⟨h_73_G5, h_74_G5, h_75_G5, h_76_G5, h_77_G5, h_78_G5⟩), fun j hj => (show _ = _ from by rw [hG5, up_ne (by omega)]).trans (hfr j hj)⟩
              · skip
                have h19 : ¬ 19 ≤ i := fun q => c_128 ((nI_leI (a := 10) (by decide) (by omega)).mpr (by omega))
                have hbad : txBad (tx, ty) i = false := by rw [txBad, if_neg hp, hat, decide_eq_false h19]; simp [c_115, c_122]
                have hw2 : txF (tx, ty) (ty - (i + 1)) (i + 1) = txWrong (tx, ty) := by rw [← hw, show ty - i = (ty - (i + 1)) + 1 by omega, txF, if_neg (by rw [hbad]; decide)]
                refine k_iconst C (v := 1) dX7_isArrival_131 (by decide) ?_
                refine k_goto C 136 dX7_isArrival_132 (by decide) ?_
                refine k_istore C (lv' := [(4, .int 1), (5, .int (tx i)), (0, .ref (ad 73)), (1, .int (txUsed (tx, ty) i)), (2, .int (nI ((i + 1) / 2))), (3, .int (bI (decide (i % 2 = 0))))]) dX7_isArrival_136 (by decide) rfl ?_
                refine k_iload_n C dX7_isArrival_138 rfl (j := 5) rfl ?_
                refine k_if_ne C 146 dX7_isArrival_139 (by decide) (fun q => absurd q (fun z => z (by rw [c_42]; rfl))) (fun _ => ?_)
                refine k_iconst C (v := 1) dX7_isArrival_142 (by decide) ?_
                refine k_goto C 147 dX7_isArrival_143 (by decide) ?_
                refine k_istore_n C (lv' := [(3, .int 1), (4, .int 1), (5, .int (tx i)), (0, .ref (ad 73)), (1, .int (txUsed (tx, ty) i)), (2, .int (nI ((i + 1) / 2)))]) dX7_isArrival_147 rfl (by decide) rfl ?_
                refine k_sub (lv' := [(3, .int 1), (4, .int 1), (0, .ref (ad 73)), (1, .int (txUsed (tx, ty) i)), (2, .int (nI ((i + 1) / 2)))]) [0, 1, 3, 4, 5] rfl ?_
                refine k_cong (lv' := [(3, .int (bI (decide ((i + 1) % 2 = 0)))), (4, .int 1), (0, .ref (ad 73)), (1, .int (txUsed (tx, ty) (i + 1))), (2, .int (nI ((i + 1 + 1) / 2)))]) (by rw [show txUsed (tx, ty) (i + 1) = txUsed (tx, ty) i from by rw [txUsed, if_neg hp], show (i + 1 + 1) / 2 = (i + 1) / 2 from by omega, show decide ((i + 1) % 2 = 0) = true from decide_eq_true (by omega)]; rfl) ?_
                refine k_aload_n C dX7_isArrival_148 rfl (j := 2) rfl ?_
                refine k_dup C dX7_isArrival_149 rfl ?_
                refine k_get C 73 inX7_isArrival_7 (by omega) hM2.1 rfl 6 (by decide) (List.mem_of_getElem? (i := 1) rfl) rfl rfl dX7_isArrival_150 ?_
                refine k_iload C dX7_isArrival_153 (j := 1) rfl ?_
                refine k_if_eq C 162 dX7_isArrival_155 (by decide) (fun q => absurd q (by decide)) (fun _ => ?_)
                refine k_iconst C (v := 1) dX7_isArrival_158 (by decide) ?_
                refine k_goto C 163 dX7_isArrival_159 (by decide) ?_
                refine k_iadd C dX7_isArrival_163 ?_
                refine k_put C 73 inX7_isArrival_7 tyX7 tyX7_ok nmX7 (by omega) hM2.1 rfl 6 (by decide) (List.mem_of_getElem? (i := 1) rfl) rfl rfl rfl rfl (Nat.le_of_ble_eq_true rfl) dX7_isArrival_164 (fun G6 hG6 => ?_)
                have h_74_G6 : G6 74 = .inl (cI, 2610, .inl f) := up_at hG6 hM2.2.1 (by omega)
                have h_75_G6 : G6 75 = .inl (cZ, 2, .inl kp) := up_at hG6 hM2.2.2.1 (by omega)
                have h_76_G6 : G6 76 = .inl (cC, 30, .inl tx) := up_at hG6 hM2.2.2.2.1 (by omega)
                have h_77_G6 : G6 77 = .inl (cI, 10, .inl fi) := up_at hG6 hM2.2.2.2.2.1 (by omega)
                have h_78_G6 : G6 78 = .inl (cI, 10, .inl gr) := up_at hG6 hM2.2.2.2.2.2 (by omega)
                have h_73_G6 : G6 73 = .inr (7, [.ref (ad 74), .int (nI st), .ref (ad 75), .int th, .ref (ad 76), .int (nI ty), .int (nI (i + 1)), .ref (ad 77), .ref (ad 78), .int re]) := by rw [up_it hG6]; rw [nI_1]; rfl
                refine k_goto C 14 dX7_isArrival_167 (by decide) ?_
                exact k_sub [2, 3, 4, 0, 1] rfl (ih14 (i + 1) G6 (by omega) (by omega) hw2 ⟨h_73_G6, h_74_G6, h_75_G6, h_76_G6, h_77_G6, h_78_G6⟩ (fun j hj => (show _ = _ from by rw [hG6, up_ne (by omega)]).trans (hfr j hj)))
        · skip
          have c_42 := bI_t c_42
          have hp : i % 2 = 0 := of_decide_eq_true c_42
          refine k_iload C dX7_isArrival_45 (j := 0) rfl ?_
          refine k_bipush C (v := 97) dX7_isArrival_47 (by decide) ?_
          refine k_bipush C (v := 106) dX7_isArrival_49 (by decide) ?_
          refine k_callSir C (As := [.int (tx i), .int 97, .int 106]) (rest := []) (m_X7_in l D cI cC cZ cB cJ ad N G2 (tx i) 97 106) gX7_isArrival_X7_in rfl kd_X7_in rfl rfl ⟨Nat.le_of_ble_eq_true rfl, Nat.le_of_ble_eq_true rfl⟩ rfl rfl (Nat.le_of_ble_eq_true rfl) ⟨Nat.zero_le _, Nat.zero_le _⟩ dX7_isArrival_51 ?_
          refine k_if_eq C 73 dX7_isArrival_54 (by decide) (fun c_54 => ?_) (fun c_54 => ?_)
          · skip
            have c_54 := bI_f c_54
            have hbad : txBad (tx, ty) i = true := txBad_not hp hn (hat.trans en) (by rw [← en]; exact c_54)
            have hwr : txWrong (tx, ty) = i := by rw [← hw, show ty - i = (ty - i - 1) + 1 by omega, txF, if_pos hbad]
            refine k_iconst C (v := 0) dX7_isArrival_73 (by decide) ?_
            refine k_istore C (lv' := [(4, .int 0), (5, .int (tx i)), (0, .ref (ad 73)), (1, .int (txUsed (tx, ty) i)), (2, .int (nI ((i + 1) / 2))), (3, .int (bI (decide (i % 2 = 0))))]) dX7_isArrival_74 (by decide) rfl ?_
            refine k_iload_n C dX7_isArrival_76 rfl (j := 3) rfl ?_
            refine k_iload C dX7_isArrival_77 (j := 0) rfl ?_
            refine k_if_eq C 92 dX7_isArrival_79 (by decide) (fun _ => ?_) (fun q => absurd q (by decide))
            refine k_iconst C (v := 0) dX7_isArrival_92 (by decide) ?_
            refine k_ior C dX7_isArrival_93 ?_
            refine k_istore_n C (lv' := [(1, .int ((txUsed (tx, ty) i) ||| 0)), (4, .int 0), (5, .int (tx i)), (0, .ref (ad 73)), (2, .int (nI ((i + 1) / 2))), (3, .int (bI (decide (i % 2 = 0))))]) dX7_isArrival_94 rfl (by decide) rfl ?_
            refine k_iload_n C dX7_isArrival_95 rfl (j := 4) rfl ?_
            refine k_iload C dX7_isArrival_96 (j := 1) rfl ?_
            refine k_if_eq C 105 dX7_isArrival_98 (by decide) (fun _ => ?_) (fun q => absurd q (by decide))
            refine k_iconst C (v := 0) dX7_isArrival_105 (by decide) ?_
            refine k_iadd C dX7_isArrival_106 ?_
            refine k_istore_n C (lv' := [(2, .int ((nI ((i + 1) / 2)) + 0)), (1, .int ((txUsed (tx, ty) i) ||| 0)), (4, .int 0), (5, .int (tx i)), (0, .ref (ad 73)), (3, .int (bI (decide (i % 2 = 0))))]) dX7_isArrival_107 rfl (by decide) rfl ?_
            refine k_goto C 138 dX7_isArrival_108 (by decide) ?_
            refine k_iload_n C dX7_isArrival_138 rfl (j := 5) rfl ?_
            refine k_if_ne C 146 dX7_isArrival_139 (by decide) (fun _ => ?_) (fun q => absurd q (by rw [c_42]; decide))
            refine k_iconst C (v := 0) dX7_isArrival_146 (by decide) ?_
            refine k_istore_n C (lv' := [(3, .int 0), (2, .int ((nI ((i + 1) / 2)) + 0)), (1, .int ((txUsed (tx, ty) i) ||| 0)), (4, .int 0), (5, .int (tx i)), (0, .ref (ad 73))]) dX7_isArrival_147 rfl (by decide) rfl ?_
            refine k_aload_n C dX7_isArrival_148 rfl (j := 5) rfl ?_
            refine k_dup C dX7_isArrival_149 rfl ?_
            refine k_get C 73 inX7_isArrival_7 (by omega) hM2.1 rfl 6 (by decide) (List.mem_of_getElem? (i := 1) rfl) rfl rfl dX7_isArrival_150 ?_
            refine k_iload C dX7_isArrival_153 (j := 3) rfl ?_
            refine k_if_eq C 162 dX7_isArrival_155 (by decide) (fun _ => ?_) (fun q => absurd q (by decide))
            refine k_iconst C (v := 0) dX7_isArrival_162 (by decide) ?_
            refine k_iadd C dX7_isArrival_163 ?_
            refine k_put C 73 inX7_isArrival_7 tyX7 tyX7_ok nmX7 (by omega) hM2.1 rfl 6 (by decide) (List.mem_of_getElem? (i := 1) rfl) rfl rfl rfl rfl (Nat.le_of_ble_eq_true rfl) dX7_isArrival_164 (fun G7 hG7 => ?_)
            have h_74_G7 : G7 74 = .inl (cI, 2610, .inl f) := up_at hG7 hM2.2.1 (by omega)
            have h_75_G7 : G7 75 = .inl (cZ, 2, .inl kp) := up_at hG7 hM2.2.2.1 (by omega)
            have h_76_G7 : G7 76 = .inl (cC, 30, .inl tx) := up_at hG7 hM2.2.2.2.1 (by omega)
            have h_77_G7 : G7 77 = .inl (cI, 10, .inl fi) := up_at hG7 hM2.2.2.2.2.1 (by omega)
            have h_78_G7 : G7 78 = .inl (cI, 10, .inl gr) := up_at hG7 hM2.2.2.2.2.2 (by omega)
            have h_73_G7 : G7 73 = .inr (7, [.ref (ad 74), .int (nI st), .ref (ad 75), .int th, .ref (ad 76), .int (nI ty), .int (nI i), .ref (ad 77), .ref (ad 78), .int re]) := by rw [up_it hG7]; rw [Int32.add_zero]; rfl
            refine k_goto C 14 dX7_isArrival_167 (by decide) ?_
            refine k_aload_n C dX7_isArrival_14 rfl (j := 5) rfl ?_
            refine k_get C 73 inX7_isArrival_7 (by omega) h_73_G7 rfl 6 (by decide) (List.mem_of_getElem? (i := 1) rfl) rfl rfl dX7_isArrival_15 ?_
            refine k_aload_n C dX7_isArrival_18 rfl (j := 5) rfl ?_
            refine k_get C 73 inX7_isArrival_7 (by omega) h_73_G7 rfl 5 (by decide) (List.mem_of_getElem? (i := 2) rfl) rfl rfl dX7_isArrival_19 ?_
            refine k_icmp_ge C 170 dX7_isArrival_22 (by decide) (fun c_22 => ?_) (fun c_22 => ?_)
            · skip
              refine k_iload C dX7_isArrival_170 (j := 3) rfl ?_
              refine k_if_eq C 183 dX7_isArrival_172 (by decide) (fun _ => ?_) (fun q => absurd q (by decide))
              refine k_iconst C (v := 0) dX7_isArrival_183 (by decide) ?_
              exact k_iret C hQ rfl (by decide) dX7_isArrival_184 ⟨(by rw [txArrival, hwr]; simp [txN, bI, show ¬ i = ty by omega]), (by rw [hwr]; exact ⟨h_73_G7, h_74_G7, h_75_G7, h_76_G7, h_77_G7, h_78_G7⟩), fun j hj => (show _ = _ from by rw [hG7, up_ne (by omega)]).trans (hfr j hj)⟩
            · skip
              refine k_iload C dX7_isArrival_25 (j := 3) rfl ?_
              refine k_if_eq C 170 dX7_isArrival_27 (by decide) (fun _ => ?_) (fun q => absurd q (by decide))
              refine k_iload C dX7_isArrival_170 (j := 3) rfl ?_
              refine k_if_eq C 183 dX7_isArrival_172 (by decide) (fun _ => ?_) (fun q => absurd q (by decide))
              refine k_iconst C (v := 0) dX7_isArrival_183 (by decide) ?_
              exact k_iret C hQ rfl (by decide) dX7_isArrival_184 ⟨(by rw [txArrival, hwr]; simp [txN, bI, show ¬ i = ty by omega]), (by rw [hwr]; exact ⟨h_73_G7, h_74_G7, h_75_G7, h_76_G7, h_77_G7, h_78_G7⟩), fun j hj => (show _ = _ from by rw [hG7, up_ne (by omega)]).trans (hfr j hj)⟩
          · skip
            have c_54 := bI_t c_54
            obtain ⟨l, hl, el⟩ := mIn_let hn (by rw [← en]; exact c_54)
            have el2 : txAt (tx, ty) (nI i) - 97 = nI l := by rw [hat, en, el]
            refine k_iload_n C dX7_isArrival_57 rfl (j := 2) rfl ?_
            refine k_iload C dX7_isArrival_58 (j := 0) rfl ?_
            refine k_bipush C (v := 97) dX7_isArrival_60 (by decide) ?_
            refine k_isub C dX7_isArrival_62 ?_
            refine k_ishr C dX7_isArrival_63 ?_
            refine k_iconst C (v := 1) dX7_isArrival_64 (by decide) ?_
            refine k_iand C dX7_isArrival_65 ?_
            refine k_if_ne C 73 dX7_isArrival_66 (by decide) (fun c_66 => ?_) (fun c_66 => ?_)
            · skip
              have hbad : txBad (tx, ty) i = true := by rw [txBad_let hp hl el2, hat, decide_eq_false c_66]; rfl
              have hwr : txWrong (tx, ty) = i := by rw [← hw, show ty - i = (ty - i - 1) + 1 by omega, txF, if_pos hbad]
              refine k_iconst C (v := 0) dX7_isArrival_73 (by decide) ?_
              refine k_istore C (lv' := [(4, .int 0), (5, .int (tx i)), (0, .ref (ad 73)), (1, .int (txUsed (tx, ty) i)), (2, .int (nI ((i + 1) / 2))), (3, .int (bI (decide (i % 2 = 0))))]) dX7_isArrival_74 (by decide) rfl ?_
              refine k_iload_n C dX7_isArrival_76 rfl (j := 3) rfl ?_
              refine k_iload C dX7_isArrival_77 (j := 0) rfl ?_
              refine k_if_eq C 92 dX7_isArrival_79 (by decide) (fun _ => ?_) (fun q => absurd q (by decide))
              refine k_iconst C (v := 0) dX7_isArrival_92 (by decide) ?_
              refine k_ior C dX7_isArrival_93 ?_
              refine k_istore_n C (lv' := [(1, .int ((txUsed (tx, ty) i) ||| 0)), (4, .int 0), (5, .int (tx i)), (0, .ref (ad 73)), (2, .int (nI ((i + 1) / 2))), (3, .int (bI (decide (i % 2 = 0))))]) dX7_isArrival_94 rfl (by decide) rfl ?_
              refine k_iload_n C dX7_isArrival_95 rfl (j := 4) rfl ?_
              refine k_iload C dX7_isArrival_96 (j := 1) rfl ?_
              refine k_if_eq C 105 dX7_isArrival_98 (by decide) (fun _ => ?_) (fun q => absurd q (by decide))
              refine k_iconst C (v := 0) dX7_isArrival_105 (by decide) ?_
              refine k_iadd C dX7_isArrival_106 ?_
              refine k_istore_n C (lv' := [(2, .int ((nI ((i + 1) / 2)) + 0)), (1, .int ((txUsed (tx, ty) i) ||| 0)), (4, .int 0), (5, .int (tx i)), (0, .ref (ad 73)), (3, .int (bI (decide (i % 2 = 0))))]) dX7_isArrival_107 rfl (by decide) rfl ?_
              refine k_goto C 138 dX7_isArrival_108 (by decide) ?_
              refine k_iload_n C dX7_isArrival_138 rfl (j := 5) rfl ?_
              refine k_if_ne C 146 dX7_isArrival_139 (by decide) (fun _ => ?_) (fun q => absurd q (by rw [c_42]; decide))
              refine k_iconst C (v := 0) dX7_isArrival_146 (by decide) ?_
              refine k_istore_n C (lv' := [(3, .int 0), (2, .int ((nI ((i + 1) / 2)) + 0)), (1, .int ((txUsed (tx, ty) i) ||| 0)), (4, .int 0), (5, .int (tx i)), (0, .ref (ad 73))]) dX7_isArrival_147 rfl (by decide) rfl ?_
              refine k_aload_n C dX7_isArrival_148 rfl (j := 5) rfl ?_
              refine k_dup C dX7_isArrival_149 rfl ?_
              refine k_get C 73 inX7_isArrival_7 (by omega) hM2.1 rfl 6 (by decide) (List.mem_of_getElem? (i := 1) rfl) rfl rfl dX7_isArrival_150 ?_
              refine k_iload C dX7_isArrival_153 (j := 3) rfl ?_
              refine k_if_eq C 162 dX7_isArrival_155 (by decide) (fun _ => ?_) (fun q => absurd q (by decide))
              refine k_iconst C (v := 0) dX7_isArrival_162 (by decide) ?_
              refine k_iadd C dX7_isArrival_163 ?_
              refine k_put C 73 inX7_isArrival_7 tyX7 tyX7_ok nmX7 (by omega) hM2.1 rfl 6 (by decide) (List.mem_of_getElem? (i := 1) rfl) rfl rfl rfl rfl (Nat.le_of_ble_eq_true rfl) dX7_isArrival_164 (fun G8 hG8 => ?_)
              have h_74_G8 : G8 74 = .inl (cI, 2610, .inl f) := up_at hG8 hM2.2.1 (by omega)
              have h_75_G8 : G8 75 = .inl (cZ, 2, .inl kp) := up_at hG8 hM2.2.2.1 (by omega)
              have h_76_G8 : G8 76 = .inl (cC, 30, .inl tx) := up_at hG8 hM2.2.2.2.1 (by omega)
              have h_77_G8 : G8 77 = .inl (cI, 10, .inl fi) := up_at hG8 hM2.2.2.2.2.1 (by omega)
              have h_78_G8 : G8 78 = .inl (cI, 10, .inl gr) := up_at hG8 hM2.2.2.2.2.2 (by omega)
              have h_73_G8 : G8 73 = .inr (7, [.ref (ad 74), .int (nI st), .ref (ad 75), .int th, .ref (ad 76), .int (nI ty), .int (nI i), .ref (ad 77), .ref (ad 78), .int re]) := by rw [up_it hG8]; rw [Int32.add_zero]; rfl
              refine k_goto C 14 dX7_isArrival_167 (by decide) ?_
              refine k_aload_n C dX7_isArrival_14 rfl (j := 5) rfl ?_
              refine k_get C 73 inX7_isArrival_7 (by omega) h_73_G8 rfl 6 (by decide) (List.mem_of_getElem? (i := 1) rfl) rfl rfl dX7_isArrival_15 ?_
              refine k_aload_n C dX7_isArrival_18 rfl (j := 5) rfl ?_
              refine k_get C 73 inX7_isArrival_7 (by omega) h_73_G8 rfl 5 (by decide) (List.mem_of_getElem? (i := 2) rfl) rfl rfl dX7_isArrival_19 ?_
              refine k_icmp_ge C 170 dX7_isArrival_22 (by decide) (fun c_22 => ?_) (fun c_22 => ?_)
              · skip
                refine k_iload C dX7_isArrival_170 (j := 3) rfl ?_
                refine k_if_eq C 183 dX7_isArrival_172 (by decide) (fun _ => ?_) (fun q => absurd q (by decide))
                refine k_iconst C (v := 0) dX7_isArrival_183 (by decide) ?_
                exact k_iret C hQ rfl (by decide) dX7_isArrival_184 ⟨(by rw [txArrival, hwr]; simp [txN, bI, show ¬ i = ty by omega]), (by rw [hwr]; exact ⟨h_73_G8, h_74_G8, h_75_G8, h_76_G8, h_77_G8, h_78_G8⟩), fun j hj => (show _ = _ from by rw [hG8, up_ne (by omega)]).trans (hfr j hj)⟩
              · skip
                refine k_iload C dX7_isArrival_25 (j := 3) rfl ?_
                refine k_if_eq C 170 dX7_isArrival_27 (by decide) (fun _ => ?_) (fun q => absurd q (by decide))
                refine k_iload C dX7_isArrival_170 (j := 3) rfl ?_
                refine k_if_eq C 183 dX7_isArrival_172 (by decide) (fun _ => ?_) (fun q => absurd q (by decide))
                refine k_iconst C (v := 0) dX7_isArrival_183 (by decide) ?_
                exact k_iret C hQ rfl (by decide) dX7_isArrival_184 ⟨(by rw [txArrival, hwr]; simp [txN, bI, show ¬ i = ty by omega]), (by rw [hwr]; exact ⟨h_73_G8, h_74_G8, h_75_G8, h_76_G8, h_77_G8, h_78_G8⟩), fun j hj => (show _ = _ from by rw [hG8, up_ne (by omega)]).trans (hfr j hj)⟩
            · skip
              have hbad : txBad (tx, ty) i = false := by rw [txBad_let hp hl el2, hat, decide_eq_true c_66]; rfl
              have hw2 : txF (tx, ty) (ty - (i + 1)) (i + 1) = txWrong (tx, ty) := by rw [← hw, show ty - i = (ty - (i + 1)) + 1 by omega, txF, if_neg (by rw [hbad]; decide)]
              refine k_iconst C (v := 1) dX7_isArrival_69 (by decide) ?_
              refine k_goto C 74 dX7_isArrival_70 (by decide) ?_
              refine k_istore C (lv' := [(4, .int 1), (5, .int (tx i)), (0, .ref (ad 73)), (1, .int (txUsed (tx, ty) i)), (2, .int (nI ((i + 1) / 2))), (3, .int (bI (decide (i % 2 = 0))))]) dX7_isArrival_74 (by decide) rfl ?_
              refine k_iload_n C dX7_isArrival_76 rfl (j := 3) rfl ?_
              refine k_iload C dX7_isArrival_77 (j := 0) rfl ?_
              refine k_if_eq C 92 dX7_isArrival_79 (by decide) (fun q => absurd q (by decide)) (fun _ => ?_)
              refine k_iconst C (v := 1) dX7_isArrival_82 (by decide) ?_
              refine k_iload C dX7_isArrival_83 (j := 1) rfl ?_
              refine k_bipush C (v := 97) dX7_isArrival_85 (by decide) ?_
              refine k_isub C dX7_isArrival_87 ?_
              refine k_ishl C dX7_isArrival_88 ?_
              refine k_goto C 93 dX7_isArrival_89 (by decide) ?_
              refine k_ior C dX7_isArrival_93 ?_
              refine k_istore_n C (lv' := [(1, .int ((txUsed (tx, ty) i) ||| (1 <<< (((tx i) - 97) &&& 31)))), (4, .int 1), (5, .int (tx i)), (0, .ref (ad 73)), (2, .int (nI ((i + 1) / 2))), (3, .int (bI (decide (i % 2 = 0))))]) dX7_isArrival_94 rfl (by decide) rfl ?_
              refine k_iload_n C dX7_isArrival_95 rfl (j := 4) rfl ?_
              refine k_iload C dX7_isArrival_96 (j := 1) rfl ?_
              refine k_if_eq C 105 dX7_isArrival_98 (by decide) (fun q => absurd q (by decide)) (fun _ => ?_)
              refine k_iconst C (v := 1) dX7_isArrival_101 (by decide) ?_
              refine k_goto C 106 dX7_isArrival_102 (by decide) ?_
              refine k_iadd C dX7_isArrival_106 ?_
              refine k_istore_n C (lv' := [(2, .int ((nI ((i + 1) / 2)) + 1)), (1, .int ((txUsed (tx, ty) i) ||| (1 <<< (((tx i) - 97) &&& 31)))), (4, .int 1), (5, .int (tx i)), (0, .ref (ad 73)), (3, .int (bI (decide (i % 2 = 0))))]) dX7_isArrival_107 rfl (by decide) rfl ?_
              refine k_goto C 138 dX7_isArrival_108 (by decide) ?_
              refine k_iload_n C dX7_isArrival_138 rfl (j := 5) rfl ?_
              refine k_if_ne C 146 dX7_isArrival_139 (by decide) (fun _ => ?_) (fun q => absurd q (by rw [c_42]; decide))
              refine k_iconst C (v := 0) dX7_isArrival_146 (by decide) ?_
              refine k_istore_n C (lv' := [(3, .int 0), (2, .int ((nI ((i + 1) / 2)) + 1)), (1, .int ((txUsed (tx, ty) i) ||| (1 <<< (((tx i) - 97) &&& 31)))), (4, .int 1), (5, .int (tx i)), (0, .ref (ad 73))]) dX7_isArrival_147 rfl (by decide) rfl ?_
              refine k_sub (lv' := [(3, .int 0), (2, .int ((nI ((i + 1) / 2)) + 1)), (1, .int ((txUsed (tx, ty) i) ||| (1 <<< (((tx i) - 97) &&& 31)))), (4, .int 1), (0, .ref (ad 73))]) [0, 1, 2, 3, 5] rfl ?_
              refine k_cong (lv' := [(3, .int (bI (decide ((i + 1) % 2 = 0)))), (2, .int (nI ((i + 1 + 1) / 2))), (1, .int (txUsed (tx, ty) (i + 1))), (4, .int 1), (0, .ref (ad 73))]) (by rw [show txUsed (tx, ty) (i + 1) = (txUsed (tx, ty) i) ||| (1 <<< (((tx i) - 97) &&& 31)) from by rw [txUsed, if_pos hp, txBit, hat], show nI ((i + 1 + 1) / 2) = nI ((i + 1) / 2) + 1 from by rw [nI_1]; congr 1; omega, show decide ((i + 1) % 2 = 0) = false from decide_eq_false (by omega)]; rfl) ?_
              refine k_aload_n C dX7_isArrival_148 rfl (j := 4) rfl ?_
              refine k_dup C dX7_isArrival_149 rfl ?_
              refine k_get C 73 inX7_isArrival_7 (by omega) hM2.1 rfl 6 (by decide) (List.mem_of_getElem? (i := 1) rfl) rfl rfl dX7_isArrival_150 ?_
              refine k_iload C dX7_isArrival_153 (j := 3) rfl ?_
              refine k_if_eq C 162 dX7_isArrival_155 (by decide) (fun q => absurd q (by decide)) (fun _ => ?_)
              refine k_iconst C (v := 1) dX7_isArrival_158 (by decide) ?_
              refine k_goto C 163 dX7_isArrival_159 (by decide) ?_
              refine k_iadd C dX7_isArrival_163 ?_
              refine k_put C 73 inX7_isArrival_7 tyX7 tyX7_ok nmX7 (by omega) hM2.1 rfl 6 (by decide) (List.mem_of_getElem? (i := 1) rfl) rfl rfl rfl rfl (Nat.le_of_ble_eq_true rfl) dX7_isArrival_164 (fun G9 hG9 => ?_)
              have h_74_G9 : G9 74 = .inl (cI, 2610, .inl f) := up_at hG9 hM2.2.1 (by omega)
              have h_75_G9 : G9 75 = .inl (cZ, 2, .inl kp) := up_at hG9 hM2.2.2.1 (by omega)
              have h_76_G9 : G9 76 = .inl (cC, 30, .inl tx) := up_at hG9 hM2.2.2.2.1 (by omega)
              have h_77_G9 : G9 77 = .inl (cI, 10, .inl fi) := up_at hG9 hM2.2.2.2.2.1 (by omega)
              have h_78_G9 : G9 78 = .inl (cI, 10, .inl gr) := up_at hG9 hM2.2.2.2.2.2 (by omega)
              have h_73_G9 : G9 73 = .inr (7, [.ref (ad 74), .int (nI st), .ref (ad 75), .int th, .ref (ad 76), .int (nI ty), .int (nI (i + 1)), .ref (ad 77), .ref (ad 78), .int re]) := by rw [up_it hG9]; rw [nI_1]; rfl
              refine k_goto C 14 dX7_isArrival_167 (by decide) ?_
              exact k_sub [4, 2, 1, 0, 3] rfl (ih14 (i + 1) G9 (by omega) (by omega) hw2 ⟨h_73_G9, h_74_G9, h_75_G9, h_76_G9, h_77_G9, h_78_G9⟩ (fun j hj => (show _ = _ from by rw [hG9, up_ne (by omega)]).trans (hfr j hj)))
  exact k_sub [4, 3, 2, 1, 0] rfl (loop14 (ty + 1) 0 G1 (by omega) (by omega) rfl ⟨h_73_G1, h_74_G1, h_75_G1, h_76_G1, h_77_G1, h_78_G1⟩ (fun j hj => (by rw [hG1, up_ne (by omega)])))
theorem inX7_lays_7 : ∀ w ∈ wsX70, w ∈ wsX7_lays := fun _ h => List.mem_cons_of_mem _ (List.mem_append_right _ h)
theorem kd_X7_lays : yX7_lays.cls = RX7 ∧ yX7_lays.cls ≠ "java/lang/invoke/MethodHandle" ∧ yX7_lays.cls ≠ "java/lang/invoke/VarHandle" ∧ (parseMethodDescriptor yX7_lays.desc).map (fun d => d.parameters.length) = some 0 := by decide +kernel
abbrev rX7_lays : Room := ({ frames := 3, cells := 0, slots := 0, locals := 64 } : Room)
set_option maxRecDepth 100000 in
set_option maxHeartbeats 4000000 in
/-- model: lays -/
theorem m_X7_lays (l : Launch) (D : va_G) (cI cC cZ cB cJ : ClassId) (ad : Nat → Nat) (N : Nat) (G : Nat → va_E) (f kp tx fi gr : Nat → Int32) (st ty : Nat) (th at0 re : Int32) (nh nb nl : Nat) (hN : 79 ≤ N) (hM : isMo ad cI cC cZ G f kp tx fi gr st ty th at0 re) (hH : f 0 = nI nh ∧ nh ≤ 10) (hT0 : ty ≤ 30) (hX0 : okX tx ty) (hArr : txArrival (tx, ty) = true) : kMi l yX7_lays wsX7_lays rX7_lays D (kT5 cI cC cZ cB cJ) ad N G [.ref (ad 73)] (fun r G' => r = (bI (lOk f tx ((ty + 1) / 2))) ∧ isMo ad cI cC cZ G' f kp tx (lF tx (aB fi 10) ((ty + 1) / 2)) (lG tx ((ty + 1) / 2) (aB gr 10) ((ty + 1) / 2)) st ty th at0 re ∧ ∀ j, (j < 73 ∨ 79 ≤ j) → G' j = G j) := by
  refine k_starti (cc := cX7_lays) (ret := (some .boolean)) (maxL := 7) (lv0 := [(0, .ref (ad 73))]) (by decide) rfl (Nat.le_of_ble_eq_true rfl) rfl ?_
  intro p e s m args below meth c A Q C hQ
  have hn := hH.2
  obtain ⟨hodd, hlet⟩ := arr_let hT0 hX0 hArr
  refine k_aload_n C dX7_lays_0 rfl (j := 0) rfl ?_
  refine k_callVv C (As := []) (rest := []) 73 (m_X7_forgets l D cI cC cZ cB cJ ad N G f kp tx fi gr st ty th at0 re nh nb nl (by omega) ⟨hM.1, hM.2.1, hM.2.2.1, hM.2.2.2.1, hM.2.2.2.2.1, hM.2.2.2.2.2⟩ ) gX7_lays_X7_forgets rfl kd_X7_forgets rfl rfl ⟨Nat.le_of_ble_eq_true rfl, Nat.le_of_ble_eq_true rfl⟩ (by omega) hM.1 rfl rfl rfl (Nat.le_of_ble_eq_true rfl) ⟨Nat.zero_le _, Nat.zero_le _⟩ dX7_lays_1 (fun G1 hG1 => ?_)
  obtain ⟨hM_G1, hf_G1⟩ := hG1
  refine k_iconst C (v := 1) dX7_lays_4 (by decide) ?_
  refine k_istore_n C (lv' := [(1, .int 1), (0, .ref (ad 73))]) dX7_lays_5 rfl (by decide) rfl ?_
  refine k_iconst C (v := 0) dX7_lays_6 (by decide) ?_
  refine k_istore_n C (lv' := [(2, .int 0), (1, .int 1), (0, .ref (ad 73))]) dX7_lays_7 rfl (by decide) rfl ?_
  refine k_iconst C (v := 0) dX7_lays_8 (by decide) ?_
  refine k_istore_n C (lv' := [(3, .int 0), (2, .int 0), (1, .int 1), (0, .ref (ad 73))]) dX7_lays_9 rfl (by decide) rfl ?_
  have loop10 : ∀ (k : Nat) (b : Nat) (G2 : Nat → va_E), (((ty + 1) / 2) + 1 ≤ b + k) → (b ≤ ((ty + 1) / 2)) → (b < ((ty + 1) / 2) → cS tx b = b) → (isMo ad cI cC cZ G2 f kp tx (lF tx (aB fi 10) b) (lG tx ((ty + 1) / 2) (aB gr 10) b) st ty th at0 re) → (∀ j, (j < 73 ∨ 79 ≤ j) → G2 j = G j) → kJ p l e rX7_lays s m args below meth c 0 0 Q 7 D ad N A G2 10 [(0, .ref (ad 73)), (1, .int (bI (lOk f tx b))), (2, .int (nI (2 * b))), (3, .int (nI b))] [] := by
    intro k
    induction k with
    | zero => intro b G2 h1 h2 hb hM2 hfr; exact absurd h1 (by omega)
    | succ k ih10 =>
      intro b G2 h1 h2 hb hM2 hfr
      refine k_iload_n C dX7_lays_10 rfl (j := 2) rfl ?_
      refine k_aload_n C dX7_lays_11 rfl (j := 0) rfl ?_
      refine k_get C 73 inX7_lays_7 (by omega) hM2.1 rfl 5 (by decide) (List.mem_of_getElem? (i := 1) rfl) rfl rfl dX7_lays_12 ?_
      refine k_icmp_ge C 153 dX7_lays_15 (by decide) (fun c_15 => ?_) (fun c_15 => ?_)
      · skip
        have h15 := (nI_leI (by omega) (by omega)).mp c_15
        have hi2 : ((ty + 1) / 2) = b := by omega
        subst hi2
        refine k_iload_n C dX7_lays_153 rfl (j := 1) rfl ?_
        exact k_iret C hQ rfl (bI_nar _) dX7_lays_154 ⟨rfl, ⟨hM2.1, hM2.2.1, hM2.2.2.1, hM2.2.2.2.1, hM2.2.2.2.2.1, hM2.2.2.2.2.2⟩, fun j hj => hfr j hj⟩
      · skip
        have h15 : 2 * b < ty := Nat.lt_of_not_le (fun q => c_15 ((nI_leI (by omega) (by omega)).mpr q))
        refine k_iload_n C dX7_lays_18 rfl (j := 2) rfl ?_
        refine k_istore C (lv' := [(4, .int (nI (2 * b))), (0, .ref (ad 73)), (1, .int (bI (lOk f tx b))), (2, .int (nI (2 * b))), (3, .int (nI b))]) dX7_lays_19 (by decide) rfl ?_
        have loop21 : ∀ (k : Nat) (u : Nat) , (((ty + 1) / 2) + 1 ≤ u + k) → (b ≤ u) → (2 * u < ty) → (∀ v, b ≤ v → v ≤ u → cS tx v = b) → kJ p l e rX7_lays s m args below meth c 0 0 Q 7 D ad N A G2 21 [(0, .ref (ad 73)), (1, .int (bI (lOk f tx b))), (2, .int (nI (2 * b))), (3, .int (nI b)), (4, .int (nI (2 * u)))] [] := by
          intro k
          induction k with
          | zero => intro u  h3 h4 h5 h6; exact absurd h3 (by omega)
          | succ k ih21 =>
            intro u  h3 h4 h5 h6
            refine k_iload C dX7_lays_21 (j := 4) rfl ?_
            refine k_iconst C (v := 1) dX7_lays_23 (by decide) ?_
            refine k_iadd C dX7_lays_24 ?_
            refine k_aload_n C dX7_lays_25 rfl (j := 0) rfl ?_
            refine k_get C 73 inX7_lays_7 (by omega) hM2.1 rfl 5 (by decide) (List.mem_of_getElem? (i := 1) rfl) rfl rfl dX7_lays_26 ?_
            refine k_icmp_ge C 52 dX7_lays_29 (by decide) (fun c_29 => ?_) (fun c_29 => ?_)
            · skip
              rw [nI_1] at c_29
              have h29 := (nI_leI (by omega) (by omega)).mp c_29
              have hEnd : u + 1 = ((ty + 1) / 2) ∨ cS tx (u + 1) = u + 1 := Or.inl (by omega)
              have hcz := cZ_grp tx (n := ((ty + 1) / 2)) h4 (by omega) h6 hEnd
              refine k_iload C dX7_lays_52 (j := 4) rfl ?_
              refine k_iload_n C dX7_lays_54 rfl (j := 2) rfl ?_
              refine k_isub C dX7_lays_55 ?_
              refine k_iconst C (v := 2) dX7_lays_56 (by decide) ?_
              refine k_idiv C dX7_lays_57 (by decide) ?_
              refine k_iconst C (v := 1) dX7_lays_58 (by decide) ?_
              refine k_iadd C dX7_lays_59 ?_
              refine k_congS (st' := [.int (nI (u + 1 - b))]) (congrArg (fun (z9 : Int32) => ([.int z9] : List Value)) (show ((((nI (2 * u)) - (nI (2 * b))) / 2) + 1 : Int32) = nI (u + 1 - b) from by rw [pk_sub (by omega), show (2 : Int32) = nI 2 from rfl, pk_div (by omega) (by omega) (by omega), nI_1]; congr 1; omega)) ?_
              refine k_istore C (lv' := [(5, .int (nI (u + 1 - b))), (0, .ref (ad 73)), (1, .int (bI (lOk f tx b))), (2, .int (nI (2 * b))), (3, .int (nI b)), (4, .int (nI (2 * u)))]) dX7_lays_60 (by decide) rfl ?_
              refine k_iload_n C dX7_lays_62 rfl (j := 3) rfl ?_
              refine k_istore C (lv' := [(6, .int (nI (2 * b))), (5, .int (nI (u + 1 - b))), (0, .ref (ad 73)), (1, .int (bI (lOk f tx b))), (2, .int (nI (2 * b))), (3, .int (nI b)), (4, .int (nI (2 * u)))]) dX7_lays_63 (by decide) rfl ?_
              have loop65 : ∀ (k : Nat) (v : Nat) (G2 : Nat → va_E), (((ty + 1) / 2) + 1 ≤ v + k) → (b ≤ v) → (v ≤ u + 1) → (isMo ad cI cC cZ G2 f kp tx (lF tx (aB fi 10) v) (lG tx ((ty + 1) / 2) (aB gr 10) v) st ty th at0 re) → (∀ j, (j < 73 ∨ 79 ≤ j) → G2 j = G j) → kJ p l e rX7_lays s m args below meth c 0 0 Q 7 D ad N A G2 65 [(0, .ref (ad 73)), (1, .int (bI (lOk f tx v))), (2, .int (nI (2 * b))), (3, .int (nI b)), (4, .int (nI (2 * u))), (5, .int (nI (u + 1 - b))), (6, .int (nI (2 * v)))] [] := by
                intro k
                induction k with
                | zero => intro v G2 h7 h8 h9 hM2 hfr; exact absurd h7 (by omega)
                | succ k ih65 =>
                  intro v G2 h7 h8 h9 hM2 hfr
                  refine k_iload C dX7_lays_65 (j := 6) rfl ?_
                  refine k_iload C dX7_lays_67 (j := 4) rfl ?_
                  refine k_icmp_gt C 140 dX7_lays_69 (by decide) (fun c_69 => ?_) (fun c_69 => ?_)
                  · skip
                    have h69 := (nI_ltI (by omega) (by omega)).mp c_69
                    have hm2 : u + 1 = v := by omega
                    subst hm2
                    refine k_iload_n C dX7_lays_140 rfl (j := 3) rfl ?_
                    refine k_iload C dX7_lays_141 (j := 5) rfl ?_
                    refine k_iadd C dX7_lays_143 ?_
                    refine k_congS (st' := [.int (nI (u + 1))]) (congrArg (fun (z9 : Int32) => ([.int z9] : List Value)) (show ((nI b) + (nI (u + 1 - b)) : Int32) = nI (u + 1) from by rw [nI_add]; congr 1; omega)) ?_
                    refine k_istore_n C (lv' := [(3, .int (nI (u + 1))), (0, .ref (ad 73)), (1, .int (bI (lOk f tx (u + 1)))), (2, .int (nI (2 * b))), (4, .int (nI (2 * u))), (5, .int (nI (u + 1 - b))), (6, .int (nI (2 * (u + 1))))]) dX7_lays_144 rfl (by decide) rfl ?_
                    refine k_iload C dX7_lays_145 (j := 4) rfl ?_
                    refine k_iconst C (v := 2) dX7_lays_147 (by decide) ?_
                    refine k_iadd C dX7_lays_148 ?_
                    refine k_congS (st' := [.int (nI (2 * (u + 1)))]) (congrArg (fun (z9 : Int32) => ([.int z9] : List Value)) (show ((nI (2 * u)) + 2 : Int32) = nI (2 * (u + 1)) from nI_add (2 * u) 2)) ?_
                    refine k_istore_n C (lv' := [(2, .int (nI (2 * (u + 1)))), (3, .int (nI (u + 1))), (0, .ref (ad 73)), (1, .int (bI (lOk f tx (u + 1)))), (4, .int (nI (2 * u))), (5, .int (nI (u + 1 - b))), (6, .int (nI (2 * (u + 1))))]) dX7_lays_149 rfl (by decide) rfl ?_
                    refine k_goto C 10 dX7_lays_150 (by decide) ?_
                    exact k_sub [2, 3, 0, 1] rfl (ih10 (u + 1) G2 (by omega) (by omega) (fun q => hEnd.resolve_left (by omega)) ⟨hM2.1, hM2.2.1, hM2.2.2.1, hM2.2.2.2.1, hM2.2.2.2.2.1, hM2.2.2.2.2.2⟩ (fun j hj => hfr j hj))
                  · skip
                    have h69 : v ≤ u := by
                      rcases Nat.lt_or_ge u v with q | q
                      · exact absurd (nI_lt (show 2 * u < 2 * v by omega) (by omega)) c_69
                      · exact q
                    have hlm := hlet v (by omega)
                    refine k_aload_n C dX7_lays_72 rfl (j := 0) rfl ?_
                    refine k_get C 73 inX7_lays_7 (by omega) hM2.1 rfl 7 (by decide) (List.mem_of_getElem? (i := 3) rfl) rfl rfl dX7_lays_73 ?_
                    refine k_aload_n C dX7_lays_76 rfl (j := 0) rfl ?_
                    refine k_get C 73 inX7_lays_7 (by omega) hM2.1 rfl 4 (by decide) (List.mem_of_getElem? (i := 2) rfl) rfl rfl dX7_lays_77 ?_
                    refine k_iload C dX7_lays_80 (j := 6) rfl ?_
                    refine k_caldN C 76 1 (by omega) hM2.2.2.2.1 rfl (2 * v) rfl (by omega) (Nat.le_of_ble_eq_true rfl) dX7_lays_82 ?_
                    refine k_bipush C (v := 97) dX7_lays_83 (by decide) ?_
                    refine k_isub C dX7_lays_85 ?_
                    refine k_iload_n C dX7_lays_86 rfl (j := 3) rfl ?_
                    refine k_iconst C (v := 1) dX7_lays_87 (by decide) ?_
                    refine k_iadd C dX7_lays_88 ?_
                    refine k_iastN C 77 0 (by omega) hM2.2.2.2.2.1 rfl (lH tx v) hlm.1 (by omega) (Nat.le_of_ble_eq_true rfl) dX7_lays_89 (fun G2 hG2 => ?_)
                    have h_73_G2 : G2 73 = .inr (7, [.ref (ad 74), .int (nI st), .ref (ad 75), .int th, .ref (ad 76), .int (nI ty), .int at0, .ref (ad 77), .ref (ad 78), .int re]) := up_at hG2 hM2.1 (by omega)
                    have h_74_G2 : G2 74 = .inl (cI, 2610, .inl f) := up_at hG2 hM2.2.1 (by omega)
                    have h_75_G2 : G2 75 = .inl (cZ, 2, .inl kp) := up_at hG2 hM2.2.2.1 (by omega)
                    have h_76_G2 : G2 76 = .inl (cC, 30, .inl tx) := up_at hG2 hM2.2.2.2.1 (by omega)
                    have h_78_G2 : G2 78 = .inl (cI, 10, .inl (lG tx ((ty + 1) / 2) (aB gr 10) v)) := up_at hG2 hM2.2.2.2.2.2 (by omega)
                    have h_77_G2 : G2 77 = .inl (cI, 10, .inl (lF tx (aB fi 10) (v + 1))) := by rw [up_it hG2]; rw [lF_s, h6 v (by omega) (by omega), nI_1]
                    refine k_aload_n C dX7_lays_90 rfl (j := 0) rfl ?_
                    refine k_get C 73 inX7_lays_7 (by omega) h_73_G2 rfl 8 (by decide) (List.mem_of_getElem? (i := 4) rfl) rfl rfl dX7_lays_91 ?_
                    refine k_aload_n C dX7_lays_94 rfl (j := 0) rfl ?_
                    refine k_get C 73 inX7_lays_7 (by omega) h_73_G2 rfl 4 (by decide) (List.mem_of_getElem? (i := 2) rfl) rfl rfl dX7_lays_95 ?_
                    refine k_iload C dX7_lays_98 (j := 6) rfl ?_
                    refine k_caldN C 76 1 (by omega) h_76_G2 rfl (2 * v) rfl (by omega) (Nat.le_of_ble_eq_true rfl) dX7_lays_100 ?_
                    refine k_bipush C (v := 97) dX7_lays_101 (by decide) ?_
                    refine k_isub C dX7_lays_103 ?_
                    refine k_iload C dX7_lays_104 (j := 5) rfl ?_
                    refine k_iastN C 78 0 (by omega) h_78_G2 rfl (lH tx v) hlm.1 (by omega) (Nat.le_of_ble_eq_true rfl) dX7_lays_106 (fun G3 hG3 => ?_)
                    have h_73_G3 : G3 73 = .inr (7, [.ref (ad 74), .int (nI st), .ref (ad 75), .int th, .ref (ad 76), .int (nI ty), .int at0, .ref (ad 77), .ref (ad 78), .int re]) := up_at hG3 h_73_G2 (by omega)
                    have h_74_G3 : G3 74 = .inl (cI, 2610, .inl f) := up_at hG3 h_74_G2 (by omega)
                    have h_75_G3 : G3 75 = .inl (cZ, 2, .inl kp) := up_at hG3 h_75_G2 (by omega)
                    have h_76_G3 : G3 76 = .inl (cC, 30, .inl tx) := up_at hG3 h_76_G2 (by omega)
                    have h_77_G3 : G3 77 = .inl (cI, 10, .inl (lF tx (aB fi 10) (v + 1))) := up_at hG3 h_77_G2 (by omega)
                    have h_78_G3 : G3 78 = .inl (cI, 10, .inl (lG tx ((ty + 1) / 2) (aB gr 10) (v + 1))) := by rw [up_it hG3]; rw [lG_s, h6 v (by omega) (by omega), hcz]
                    refine k_iload_n C dX7_lays_107 rfl (j := 1) rfl ?_
                    refine k_if_eq C 132 dX7_lays_108 (by decide) (fun c_108 => ?_) (fun c_108 => ?_)
                    · skip
                      have c_108 := bI_f c_108
                      refine k_iconst C (v := 0) dX7_lays_132 (by decide) ?_
                      refine k_congS (st' := [.int (bI (lOk f tx (v + 1)))]) (congrArg (fun (z9 : Int32) => ([.int z9] : List Value)) (show (0 : Int32) = bI (lOk f tx (v + 1)) from by simp [lOk, bI, c_108])) ?_
                      refine k_istore_n C (lv' := [(1, .int (bI (lOk f tx (v + 1)))), (0, .ref (ad 73)), (2, .int (nI (2 * b))), (3, .int (nI b)), (4, .int (nI (2 * u))), (5, .int (nI (u + 1 - b))), (6, .int (nI (2 * v)))]) dX7_lays_133 rfl (by decide) rfl ?_
                      refine k_iinc C (v := nI (2 * (v + 1))) (lv' := [(6, .int (nI (2 * (v + 1)))), (1, .int (bI (lOk f tx (v + 1)))), (0, .ref (ad 73)), (2, .int (nI (2 * b))), (3, .int (nI b)), (4, .int (nI (2 * u))), (5, .int (nI (u + 1 - b)))]) dX7_lays_134 (j := 6) rfl (by rw [show (Int32.ofInt 2) = nI 2 from rfl, nI_add]; rfl) (by decide) rfl ?_
                      refine k_goto C 65 dX7_lays_137 (by decide) ?_
                      exact k_sub [2, 1, 3, 4, 5, 6, 0] rfl (ih65 (v + 1) G3 (by omega) (by omega) (by omega) ⟨h_73_G3, h_74_G3, h_75_G3, h_76_G3, h_77_G3, h_78_G3⟩ (fun j hj => (show _ = _ from by rw [hG3, up_ne (by omega)]).trans ((show _ = _ from by rw [hG2, up_ne (by omega)]).trans (hfr j hj))))
                    · skip
                      have c_108 := bI_t c_108
                      refine k_aload_n C dX7_lays_111 rfl (j := 0) rfl ?_
                      refine k_aload_n C dX7_lays_112 rfl (j := 0) rfl ?_
                      refine k_get C 73 inX7_lays_7 (by omega) h_73_G3 rfl 4 (by decide) (List.mem_of_getElem? (i := 2) rfl) rfl rfl dX7_lays_113 ?_
                      refine k_iload C dX7_lays_116 (j := 6) rfl ?_
                      refine k_caldN C 76 1 (by omega) h_76_G3 rfl (2 * v) rfl (by omega) (Nat.le_of_ble_eq_true rfl) dX7_lays_118 ?_
                      refine k_bipush C (v := 97) dX7_lays_119 (by decide) ?_
                      refine k_isub C dX7_lays_121 ?_
                      refine k_callVir C (As := [.int ((tx (2 * v)) - 97)]) (rest := []) 73 (m_X7_runs l D cI cC cZ cB cJ ad N G3 f kp tx (lF tx (aB fi 10) (v + 1)) (lG tx ((ty + 1) / 2) (aB gr 10) (v + 1)) st ty th at0 re nh nb nl ((tx (2 * v)) - 97) (by omega) ⟨h_73_G3, h_74_G3, h_75_G3, h_76_G3, h_77_G3, h_78_G3⟩ hH ) gX7_lays_X7_runs rfl kd_X7_runs rfl rfl ⟨Nat.le_of_ble_eq_true rfl, Nat.le_of_ble_eq_true rfl⟩ (by omega) h_73_G3 rfl rfl rfl (Nat.le_of_ble_eq_true rfl) ⟨Nat.zero_le _, Nat.zero_le _⟩ dX7_lays_122 ?_
                      refine k_if_eq C 132 dX7_lays_125 (by decide) (fun c_125 => ?_) (fun c_125 => ?_)
                      · skip
                        have c_125 := bI_f c_125
                        refine k_iconst C (v := 0) dX7_lays_132 (by decide) ?_
                        refine k_congS (st' := [.int (bI (lOk f tx (v + 1)))]) (congrArg (fun (z9 : Int32) => ([.int z9] : List Value)) (show (0 : Int32) = bI (lOk f tx (v + 1)) from by simp [lOk, bI, c_108, c_125])) ?_
                        refine k_istore_n C (lv' := [(1, .int (bI (lOk f tx (v + 1)))), (0, .ref (ad 73)), (2, .int (nI (2 * b))), (3, .int (nI b)), (4, .int (nI (2 * u))), (5, .int (nI (u + 1 - b))), (6, .int (nI (2 * v)))]) dX7_lays_133 rfl (by decide) rfl ?_
                        refine k_iinc C (v := nI (2 * (v + 1))) (lv' := [(6, .int (nI (2 * (v + 1)))), (1, .int (bI (lOk f tx (v + 1)))), (0, .ref (ad 73)), (2, .int (nI (2 * b))), (3, .int (nI b)), (4, .int (nI (2 * u))), (5, .int (nI (u + 1 - b)))]) dX7_lays_134 (j := 6) rfl (by rw [show (Int32.ofInt 2) = nI 2 from rfl, nI_add]; rfl) (by decide) rfl ?_
                        refine k_goto C 65 dX7_lays_137 (by decide) ?_
                        exact k_sub [2, 1, 3, 4, 5, 6, 0] rfl (ih65 (v + 1) G3 (by omega) (by omega) (by omega) ⟨h_73_G3, h_74_G3, h_75_G3, h_76_G3, h_77_G3, h_78_G3⟩ (fun j hj => (show _ = _ from by rw [hG3, up_ne (by omega)]).trans ((show _ = _ from by rw [hG2, up_ne (by omega)]).trans (hfr j hj))))
                      · skip
                        have c_125 := bI_t c_125
                        refine k_iconst C (v := 1) dX7_lays_128 (by decide) ?_
                        refine k_goto C 133 dX7_lays_129 (by decide) ?_
                        refine k_congS (st' := [.int (bI (lOk f tx (v + 1)))]) (congrArg (fun (z9 : Int32) => ([.int z9] : List Value)) (show (1 : Int32) = bI (lOk f tx (v + 1)) from by simp [lOk, bI, c_108, c_125])) ?_
                        refine k_istore_n C (lv' := [(1, .int (bI (lOk f tx (v + 1)))), (0, .ref (ad 73)), (2, .int (nI (2 * b))), (3, .int (nI b)), (4, .int (nI (2 * u))), (5, .int (nI (u + 1 - b))), (6, .int (nI (2 * v)))]) dX7_lays_133 rfl (by decide) rfl ?_
                        refine k_iinc C (v := nI (2 * (v + 1))) (lv' := [(6, .int (nI (2 * (v + 1)))), (1, .int (bI (lOk f tx (v + 1)))), (0, .ref (ad 73)), (2, .int (nI (2 * b))), (3, .int (nI b)), (4, .int (nI (2 * u))), (5, .int (nI (u + 1 - b)))]) dX7_lays_134 (j := 6) rfl (by rw [show (Int32.ofInt 2) = nI 2 from rfl, nI_add]; rfl) (by decide) rfl ?_
                        refine k_goto C 65 dX7_lays_137 (by decide) ?_
                        exact k_sub [2, 1, 3, 4, 5, 6, 0] rfl (ih65 (v + 1) G3 (by omega) (by omega) (by omega) ⟨h_73_G3, h_74_G3, h_75_G3, h_76_G3, h_77_G3, h_78_G3⟩ (fun j hj => (show _ = _ from by rw [hG3, up_ne (by omega)]).trans ((show _ = _ from by rw [hG2, up_ne (by omega)]).trans (hfr j hj))))
              exact k_sub [2, 3, 4, 5, 6, 1, 0] rfl (loop65 (((ty + 1) / 2) + 1) b G2 (by omega) (by omega) (by omega) ⟨hM2.1, hM2.2.1, hM2.2.2.1, hM2.2.2.2.1, hM2.2.2.2.2.1, hM2.2.2.2.2.2⟩ (fun j hj => hfr j hj))
            · skip
              rw [nI_1] at c_29
              have h29 : 2 * u + 1 < ty := Nat.lt_of_not_le (fun q => c_29 ((nI_leI (by omega) (by omega)).mpr q))
              refine k_aload_n C dX7_lays_32 rfl (j := 0) rfl ?_
              refine k_get C 73 inX7_lays_7 (by omega) hM2.1 rfl 4 (by decide) (List.mem_of_getElem? (i := 2) rfl) rfl rfl dX7_lays_33 ?_
              refine k_iload C dX7_lays_36 (j := 4) rfl ?_
              refine k_iconst C (v := 1) dX7_lays_38 (by decide) ?_
              refine k_iadd C dX7_lays_39 ?_
              refine k_caldN C 76 1 (by omega) hM2.2.2.2.1 rfl ((2 * u) + 1) (knAdd rfl rfl) (by omega) (Nat.le_of_ble_eq_true rfl) dX7_lays_40 ?_
              refine k_bipush C (v := 61) dX7_lays_41 (by decide) ?_
              refine k_icmp_ne C 52 dX7_lays_43 (by decide) (fun c_43 => ?_) (fun c_43 => ?_)
              · skip
                have hEnd : u + 1 = ((ty + 1) / 2) ∨ cS tx (u + 1) = u + 1 := Or.inr (by rw [cS, if_neg c_43])
                have hcz := cZ_grp tx (n := ((ty + 1) / 2)) h4 (by omega) h6 hEnd
                refine k_iload C dX7_lays_52 (j := 4) rfl ?_
                refine k_iload_n C dX7_lays_54 rfl (j := 2) rfl ?_
                refine k_isub C dX7_lays_55 ?_
                refine k_iconst C (v := 2) dX7_lays_56 (by decide) ?_
                refine k_idiv C dX7_lays_57 (by decide) ?_
                refine k_iconst C (v := 1) dX7_lays_58 (by decide) ?_
                refine k_iadd C dX7_lays_59 ?_
                refine k_congS (st' := [.int (nI (u + 1 - b))]) (congrArg (fun (z9 : Int32) => ([.int z9] : List Value)) (show ((((nI (2 * u)) - (nI (2 * b))) / 2) + 1 : Int32) = nI (u + 1 - b) from by rw [pk_sub (by omega), show (2 : Int32) = nI 2 from rfl, pk_div (by omega) (by omega) (by omega), nI_1]; congr 1; omega)) ?_
                refine k_istore C (lv' := [(5, .int (nI (u + 1 - b))), (0, .ref (ad 73)), (1, .int (bI (lOk f tx b))), (2, .int (nI (2 * b))), (3, .int (nI b)), (4, .int (nI (2 * u)))]) dX7_lays_60 (by decide) rfl ?_
                refine k_iload_n C dX7_lays_62 rfl (j := 3) rfl ?_
                refine k_istore C (lv' := [(6, .int (nI (2 * b))), (5, .int (nI (u + 1 - b))), (0, .ref (ad 73)), (1, .int (bI (lOk f tx b))), (2, .int (nI (2 * b))), (3, .int (nI b)), (4, .int (nI (2 * u)))]) dX7_lays_63 (by decide) rfl ?_
                have loop65 : ∀ (k : Nat) (v : Nat) (G2 : Nat → va_E), (((ty + 1) / 2) + 1 ≤ v + k) → (b ≤ v) → (v ≤ u + 1) → (isMo ad cI cC cZ G2 f kp tx (lF tx (aB fi 10) v) (lG tx ((ty + 1) / 2) (aB gr 10) v) st ty th at0 re) → (∀ j, (j < 73 ∨ 79 ≤ j) → G2 j = G j) → kJ p l e rX7_lays s m args below meth c 0 0 Q 7 D ad N A G2 65 [(0, .ref (ad 73)), (1, .int (bI (lOk f tx v))), (2, .int (nI (2 * b))), (3, .int (nI b)), (4, .int (nI (2 * u))), (5, .int (nI (u + 1 - b))), (6, .int (nI (2 * v)))] [] := by
                  intro k
                  induction k with
                  | zero => intro v G2 h7 h8 h9 hM2 hfr; exact absurd h7 (by omega)
                  | succ k ih65 =>
                    intro v G2 h7 h8 h9 hM2 hfr
                    refine k_iload C dX7_lays_65 (j := 6) rfl ?_
                    refine k_iload C dX7_lays_67 (j := 4) rfl ?_
                    refine k_icmp_gt C 140 dX7_lays_69 (by decide) (fun c_69 => ?_) (fun c_69 => ?_)
                    · skip
                      have h69 := (nI_ltI (by omega) (by omega)).mp c_69
                      have hm2 : u + 1 = v := by omega
                      subst hm2
                      refine k_iload_n C dX7_lays_140 rfl (j := 3) rfl ?_
                      refine k_iload C dX7_lays_141 (j := 5) rfl ?_
                      refine k_iadd C dX7_lays_143 ?_
                      refine k_congS (st' := [.int (nI (u + 1))]) (congrArg (fun (z9 : Int32) => ([.int z9] : List Value)) (show ((nI b) + (nI (u + 1 - b)) : Int32) = nI (u + 1) from by rw [nI_add]; congr 1; omega)) ?_
                      refine k_istore_n C (lv' := [(3, .int (nI (u + 1))), (0, .ref (ad 73)), (1, .int (bI (lOk f tx (u + 1)))), (2, .int (nI (2 * b))), (4, .int (nI (2 * u))), (5, .int (nI (u + 1 - b))), (6, .int (nI (2 * (u + 1))))]) dX7_lays_144 rfl (by decide) rfl ?_
                      refine k_iload C dX7_lays_145 (j := 4) rfl ?_
                      refine k_iconst C (v := 2) dX7_lays_147 (by decide) ?_
                      refine k_iadd C dX7_lays_148 ?_
                      refine k_congS (st' := [.int (nI (2 * (u + 1)))]) (congrArg (fun (z9 : Int32) => ([.int z9] : List Value)) (show ((nI (2 * u)) + 2 : Int32) = nI (2 * (u + 1)) from nI_add (2 * u) 2)) ?_
                      refine k_istore_n C (lv' := [(2, .int (nI (2 * (u + 1)))), (3, .int (nI (u + 1))), (0, .ref (ad 73)), (1, .int (bI (lOk f tx (u + 1)))), (4, .int (nI (2 * u))), (5, .int (nI (u + 1 - b))), (6, .int (nI (2 * (u + 1))))]) dX7_lays_149 rfl (by decide) rfl ?_
                      refine k_goto C 10 dX7_lays_150 (by decide) ?_
                      exact k_sub [2, 3, 0, 1] rfl (ih10 (u + 1) G2 (by omega) (by omega) (fun q => hEnd.resolve_left (by omega)) ⟨hM2.1, hM2.2.1, hM2.2.2.1, hM2.2.2.2.1, hM2.2.2.2.2.1, hM2.2.2.2.2.2⟩ (fun j hj => hfr j hj))
                    · skip
                      have h69 : v ≤ u := by
                        rcases Nat.lt_or_ge u v with q | q
                        · exact absurd (nI_lt (show 2 * u < 2 * v by omega) (by omega)) c_69
                        · exact q
                      have hlm := hlet v (by omega)
                      refine k_aload_n C dX7_lays_72 rfl (j := 0) rfl ?_
                      refine k_get C 73 inX7_lays_7 (by omega) hM2.1 rfl 7 (by decide) (List.mem_of_getElem? (i := 3) rfl) rfl rfl dX7_lays_73 ?_
                      refine k_aload_n C dX7_lays_76 rfl (j := 0) rfl ?_
                      refine k_get C 73 inX7_lays_7 (by omega) hM2.1 rfl 4 (by decide) (List.mem_of_getElem? (i := 2) rfl) rfl rfl dX7_lays_77 ?_
                      refine k_iload C dX7_lays_80 (j := 6) rfl ?_
                      refine k_caldN C 76 1 (by omega) hM2.2.2.2.1 rfl (2 * v) rfl (by omega) (Nat.le_of_ble_eq_true rfl) dX7_lays_82 ?_
                      refine k_bipush C (v := 97) dX7_lays_83 (by decide) ?_
                      refine k_isub C dX7_lays_85 ?_
                      refine k_iload_n C dX7_lays_86 rfl (j := 3) rfl ?_
                      refine k_iconst C (v := 1) dX7_lays_87 (by decide) ?_
                      refine k_iadd C dX7_lays_88 ?_
                      refine k_iastN C 77 0 (by omega) hM2.2.2.2.2.1 rfl (lH tx v) hlm.1 (by omega) (Nat.le_of_ble_eq_true rfl) dX7_lays_89 (fun G4 hG4 => ?_)
                      have h_73_G4 : G4 73 = .inr (7, [.ref (ad 74), .int (nI st), .ref (ad 75), .int th, .ref (ad 76), .int (nI ty), .int at0, .ref (ad 77), .ref (ad 78), .int re]) := up_at hG4 hM2.1 (by omega)
                      have h_74_G4 : G4 74 = .inl (cI, 2610, .inl f) := up_at hG4 hM2.2.1 (by omega)
                      have h_75_G4 : G4 75 = .inl (cZ, 2, .inl kp) := up_at hG4 hM2.2.2.1 (by omega)
                      have h_76_G4 : G4 76 = .inl (cC, 30, .inl tx) := up_at hG4 hM2.2.2.2.1 (by omega)
                      have h_78_G4 : G4 78 = .inl (cI, 10, .inl (lG tx ((ty + 1) / 2) (aB gr 10) v)) := up_at hG4 hM2.2.2.2.2.2 (by omega)
                      have h_77_G4 : G4 77 = .inl (cI, 10, .inl (lF tx (aB fi 10) (v + 1))) := by rw [up_it hG4]; rw [lF_s, h6 v (by omega) (by omega), nI_1]
                      refine k_aload_n C dX7_lays_90 rfl (j := 0) rfl ?_
                      refine k_get C 73 inX7_lays_7 (by omega) h_73_G4 rfl 8 (by decide) (List.mem_of_getElem? (i := 4) rfl) rfl rfl dX7_lays_91 ?_
                      refine k_aload_n C dX7_lays_94 rfl (j := 0) rfl ?_
                      refine k_get C 73 inX7_lays_7 (by omega) h_73_G4 rfl 4 (by decide) (List.mem_of_getElem? (i := 2) rfl) rfl rfl dX7_lays_95 ?_
                      refine k_iload C dX7_lays_98 (j := 6) rfl ?_
                      refine k_caldN C 76 1 (by omega) h_76_G4 rfl (2 * v) rfl (by omega) (Nat.le_of_ble_eq_true rfl) dX7_lays_100 ?_
                      refine k_bipush C (v := 97) dX7_lays_101 (by decide) ?_
                      refine k_isub C dX7_lays_103 ?_
                      refine k_iload C dX7_lays_104 (j := 5) rfl ?_
                      refine k_iastN C 78 0 (by omega) h_78_G4 rfl (lH tx v) hlm.1 (by omega) (Nat.le_of_ble_eq_true rfl) dX7_lays_106 (fun G5 hG5 => ?_)
                      have h_73_G5 : G5 73 = .inr (7, [.ref (ad 74), .int (nI st), .ref (ad 75), .int th, .ref (ad 76), .int (nI ty), .int at0, .ref (ad 77), .ref (ad 78), .int re]) := up_at hG5 h_73_G4 (by omega)
                      have h_74_G5 : G5 74 = .inl (cI, 2610, .inl f) := up_at hG5 h_74_G4 (by omega)
                      have h_75_G5 : G5 75 = .inl (cZ, 2, .inl kp) := up_at hG5 h_75_G4 (by omega)
                      have h_76_G5 : G5 76 = .inl (cC, 30, .inl tx) := up_at hG5 h_76_G4 (by omega)
                      have h_77_G5 : G5 77 = .inl (cI, 10, .inl (lF tx (aB fi 10) (v + 1))) := up_at hG5 h_77_G4 (by omega)
                      have h_78_G5 : G5 78 = .inl (cI, 10, .inl (lG tx ((ty + 1) / 2) (aB gr 10) (v + 1))) := by rw [up_it hG5]; rw [lG_s, h6 v (by omega) (by omega), hcz]
                      refine k_iload_n C dX7_lays_107 rfl (j := 1) rfl ?_
                      refine k_if_eq C 132 dX7_lays_108 (by decide) (fun c_108 => ?_) (fun c_108 => ?_)
                      · skip
                        have c_108 := bI_f c_108
                        refine k_iconst C (v := 0) dX7_lays_132 (by decide) ?_
                        refine k_congS (st' := [.int (bI (lOk f tx (v + 1)))]) (congrArg (fun (z9 : Int32) => ([.int z9] : List Value)) (show (0 : Int32) = bI (lOk f tx (v + 1)) from by simp [lOk, bI, c_108])) ?_
                        refine k_istore_n C (lv' := [(1, .int (bI (lOk f tx (v + 1)))), (0, .ref (ad 73)), (2, .int (nI (2 * b))), (3, .int (nI b)), (4, .int (nI (2 * u))), (5, .int (nI (u + 1 - b))), (6, .int (nI (2 * v)))]) dX7_lays_133 rfl (by decide) rfl ?_
                        refine k_iinc C (v := nI (2 * (v + 1))) (lv' := [(6, .int (nI (2 * (v + 1)))), (1, .int (bI (lOk f tx (v + 1)))), (0, .ref (ad 73)), (2, .int (nI (2 * b))), (3, .int (nI b)), (4, .int (nI (2 * u))), (5, .int (nI (u + 1 - b)))]) dX7_lays_134 (j := 6) rfl (by rw [show (Int32.ofInt 2) = nI 2 from rfl, nI_add]; rfl) (by decide) rfl ?_
                        refine k_goto C 65 dX7_lays_137 (by decide) ?_
                        exact k_sub [2, 1, 3, 4, 5, 6, 0] rfl (ih65 (v + 1) G5 (by omega) (by omega) (by omega) ⟨h_73_G5, h_74_G5, h_75_G5, h_76_G5, h_77_G5, h_78_G5⟩ (fun j hj => (show _ = _ from by rw [hG5, up_ne (by omega)]).trans ((show _ = _ from by rw [hG4, up_ne (by omega)]).trans (hfr j hj))))
                      · skip
                        have c_108 := bI_t c_108
                        refine k_aload_n C dX7_lays_111 rfl (j := 0) rfl ?_
                        refine k_aload_n C dX7_lays_112 rfl (j := 0) rfl ?_
                        refine k_get C 73 inX7_lays_7 (by omega) h_73_G5 rfl 4 (by decide) (List.mem_of_getElem? (i := 2) rfl) rfl rfl dX7_lays_113 ?_
                        refine k_iload C dX7_lays_116 (j := 6) rfl ?_
                        refine k_caldN C 76 1 (by omega) h_76_G5 rfl (2 * v) rfl (by omega) (Nat.le_of_ble_eq_true rfl) dX7_lays_118 ?_
                        refine k_bipush C (v := 97) dX7_lays_119 (by decide) ?_
                        refine k_isub C dX7_lays_121 ?_
                        refine k_callVir C (As := [.int ((tx (2 * v)) - 97)]) (rest := []) 73 (m_X7_runs l D cI cC cZ cB cJ ad N G5 f kp tx (lF tx (aB fi 10) (v + 1)) (lG tx ((ty + 1) / 2) (aB gr 10) (v + 1)) st ty th at0 re nh nb nl ((tx (2 * v)) - 97) (by omega) ⟨h_73_G5, h_74_G5, h_75_G5, h_76_G5, h_77_G5, h_78_G5⟩ hH ) gX7_lays_X7_runs rfl kd_X7_runs rfl rfl ⟨Nat.le_of_ble_eq_true rfl, Nat.le_of_ble_eq_true rfl⟩ (by omega) h_73_G5 rfl rfl rfl (Nat.le_of_ble_eq_true rfl) ⟨Nat.zero_le _, Nat.zero_le _⟩ dX7_lays_122 ?_
                        refine k_if_eq C 132 dX7_lays_125 (by decide) (fun c_125 => ?_) (fun c_125 => ?_)
                        · skip
                          have c_125 := bI_f c_125
                          refine k_iconst C (v := 0) dX7_lays_132 (by decide) ?_
                          refine k_congS (st' := [.int (bI (lOk f tx (v + 1)))]) (congrArg (fun (z9 : Int32) => ([.int z9] : List Value)) (show (0 : Int32) = bI (lOk f tx (v + 1)) from by simp [lOk, bI, c_108, c_125])) ?_
                          refine k_istore_n C (lv' := [(1, .int (bI (lOk f tx (v + 1)))), (0, .ref (ad 73)), (2, .int (nI (2 * b))), (3, .int (nI b)), (4, .int (nI (2 * u))), (5, .int (nI (u + 1 - b))), (6, .int (nI (2 * v)))]) dX7_lays_133 rfl (by decide) rfl ?_
                          refine k_iinc C (v := nI (2 * (v + 1))) (lv' := [(6, .int (nI (2 * (v + 1)))), (1, .int (bI (lOk f tx (v + 1)))), (0, .ref (ad 73)), (2, .int (nI (2 * b))), (3, .int (nI b)), (4, .int (nI (2 * u))), (5, .int (nI (u + 1 - b)))]) dX7_lays_134 (j := 6) rfl (by rw [show (Int32.ofInt 2) = nI 2 from rfl, nI_add]; rfl) (by decide) rfl ?_
                          refine k_goto C 65 dX7_lays_137 (by decide) ?_
                          exact k_sub [2, 1, 3, 4, 5, 6, 0] rfl (ih65 (v + 1) G5 (by omega) (by omega) (by omega) ⟨h_73_G5, h_74_G5, h_75_G5, h_76_G5, h_77_G5, h_78_G5⟩ (fun j hj => (show _ = _ from by rw [hG5, up_ne (by omega)]).trans ((show _ = _ from by rw [hG4, up_ne (by omega)]).trans (hfr j hj))))
                        · skip
                          have c_125 := bI_t c_125
                          refine k_iconst C (v := 1) dX7_lays_128 (by decide) ?_
                          refine k_goto C 133 dX7_lays_129 (by decide) ?_
                          refine k_congS (st' := [.int (bI (lOk f tx (v + 1)))]) (congrArg (fun (z9 : Int32) => ([.int z9] : List Value)) (show (1 : Int32) = bI (lOk f tx (v + 1)) from by simp [lOk, bI, c_108, c_125])) ?_
                          refine k_istore_n C (lv' := [(1, .int (bI (lOk f tx (v + 1)))), (0, .ref (ad 73)), (2, .int (nI (2 * b))), (3, .int (nI b)), (4, .int (nI (2 * u))), (5, .int (nI (u + 1 - b))), (6, .int (nI (2 * v)))]) dX7_lays_133 rfl (by decide) rfl ?_
                          refine k_iinc C (v := nI (2 * (v + 1))) (lv' := [(6, .int (nI (2 * (v + 1)))), (1, .int (bI (lOk f tx (v + 1)))), (0, .ref (ad 73)), (2, .int (nI (2 * b))), (3, .int (nI b)), (4, .int (nI (2 * u))), (5, .int (nI (u + 1 - b)))]) dX7_lays_134 (j := 6) rfl (by rw [show (Int32.ofInt 2) = nI 2 from rfl, nI_add]; rfl) (by decide) rfl ?_
                          refine k_goto C 65 dX7_lays_137 (by decide) ?_
                          exact k_sub [2, 1, 3, 4, 5, 6, 0] rfl (ih65 (v + 1) G5 (by omega) (by omega) (by omega) ⟨h_73_G5, h_74_G5, h_75_G5, h_76_G5, h_77_G5, h_78_G5⟩ (fun j hj => (show _ = _ from by rw [hG5, up_ne (by omega)]).trans ((show _ = _ from by rw [hG4, up_ne (by omega)]).trans (hfr j hj))))
                exact k_sub [2, 3, 4, 5, 6, 1, 0] rfl (loop65 (((ty + 1) / 2) + 1) b G2 (by omega) (by omega) (by omega) ⟨hM2.1, hM2.2.1, hM2.2.2.1, hM2.2.2.2.1, hM2.2.2.2.2.1, hM2.2.2.2.2.2⟩ (fun j hj => hfr j hj))
              · skip
                have h6b : ∀ v, b ≤ v → v ≤ u + 1 → cS tx v = b := fun v q1 q2 => by
                  rcases Nat.lt_or_ge v (u + 1) with q | q
                  · exact h6 v q1 (by omega)
                  · rw [show v = u + 1 by omega, cS, if_pos c_43]; exact h6 u h4 (Nat.le_refl _)
                refine k_iinc C (v := nI (2 * (u + 1))) (lv' := [(4, .int (nI (2 * (u + 1)))), (0, .ref (ad 73)), (1, .int (bI (lOk f tx b))), (2, .int (nI (2 * b))), (3, .int (nI b))]) dX7_lays_46 (j := 4) rfl (by rw [show (Int32.ofInt 2) = nI 2 from rfl, nI_add]; rfl) (by decide) rfl ?_
                refine k_goto C 21 dX7_lays_49 (by decide) ?_
                exact k_sub [1, 2, 3, 4, 0] rfl (ih21 (u + 1) (by omega) (by omega) (by omega) h6b)
        exact k_sub [1, 2, 3, 4, 0] rfl (loop21 (((ty + 1) / 2) + 1) b (by omega) (Nat.le_refl _) h15 (fun v q1 q2 => by rw [show v = b by omega]; exact hb (by omega)))
  exact k_sub [3, 2, 1, 0] rfl (loop10 (((ty + 1) / 2) + 1) 0 G1 (by omega) (by omega) (fun _ => rfl) ⟨hM_G1.1, hM_G1.2.1, hM_G1.2.2.1, hM_G1.2.2.2.1, hM_G1.2.2.2.2.1, hM_G1.2.2.2.2.2⟩ (fun j hj => hf_G1 j hj))
theorem inX7_byBuffer_7 : ∀ w ∈ wsX70, w ∈ wsX7_byBuffer := fun _ h => List.mem_cons_of_mem _ (List.mem_append_right _ h)
theorem kd_X7_byBuffer : yX7_byBuffer.cls = RX7 ∧ yX7_byBuffer.cls ≠ "java/lang/invoke/MethodHandle" ∧ yX7_byBuffer.cls ≠ "java/lang/invoke/VarHandle" ∧ (parseMethodDescriptor yX7_byBuffer.desc).map (fun d => d.parameters.length) = some 0 := by decide +kernel
abbrev rX7_byBuffer : Room := ({ frames := 5, cells := 0, slots := 0, locals := 114 } : Room)
set_option maxRecDepth 100000 in
set_option maxHeartbeats 4000000 in
/-- model: byBuffer -/
theorem m_X7_byBuffer (l : Launch) (D : va_G) (cI cC cZ cB cJ : ClassId) (ad : Nat → Nat) (N : Nat) (G : Nat → va_E) (f kp tx fi gr : Nat → Int32) (st ty : Nat) (th at0 re : Int32) (nh nb nl : Nat) (hN : 79 ≤ N) (hM : isMo ad cI cC cZ G f kp tx fi gr st ty th at0 re) (hH : f 0 = nI nh ∧ nh ≤ 10) (hB : f 1 = nI nb ∧ nb ≤ 24) (hL : f 2 = nI nl ∧ nl ≤ 6) (hKB : ∀ k, k < nb → okB f k) (hKO : ∀ k, k < nl → okO f k) (hT0 : ty ≤ 30) (hX0 : okX tx ty) : kMi l yX7_byBuffer wsX7_byBuffer rX7_byBuffer D (kT5 cI cC cZ cB cJ) ad N G [.ref (ad 73)] (fun r G' => r = (mIf f tx ty nh nb nl) ∧ ∃ (fi' : Nat → Int32) (gr' : Nat → Int32) (at0' : Int32) (re' : Int32), isMo ad cI cC cZ G' f kp tx (fi') (gr') st ty th (at0') (re') ∧ ∀ j, (j < 73 ∨ 79 ≤ j) → G' j = G j) := by
  refine k_starti (cc := cX7_byBuffer) (ret := (some .int)) (maxL := 1) (lv0 := [(0, .ref (ad 73))]) (by decide) rfl (Nat.le_of_ble_eq_true rfl) rfl ?_
  intro p e s m args below meth c A Q C hQ
  have hn := hH.2
  refine k_aload_n C dX7_byBuffer_0 rfl (j := 0) rfl ?_
  refine k_callVi C (As := []) (rest := []) 73 (m_X7_isArrival l D cI cC cZ cB cJ ad N G f kp tx fi gr st ty th at0 re nh nb nl (by omega) ⟨hM.1, hM.2.1, hM.2.2.1, hM.2.2.2.1, hM.2.2.2.2.1, hM.2.2.2.2.2⟩ hT0 hX0 ) gX7_byBuffer_X7_isArrival rfl kd_X7_isArrival rfl rfl ⟨Nat.le_of_ble_eq_true rfl, Nat.le_of_ble_eq_true rfl⟩ (by omega) hM.1 rfl rfl rfl (Nat.le_of_ble_eq_true rfl) ⟨Nat.zero_le _, Nat.zero_le _⟩ dX7_byBuffer_1 (fun r_1 G1 hG1 => ?_)
  obtain ⟨e_r_1, hM_G1, hf_G1⟩ := hG1
  subst e_r_1
  refine k_if_eq C 24 dX7_byBuffer_4 (by decide) (fun c_4 => ?_) (fun c_4 => ?_)
  · skip
    have c_4 := bI_f c_4
    refine k_iconst C (v := (-1)) dX7_byBuffer_24 (by decide) ?_
    exact k_iret C hQ rfl rfl dX7_byBuffer_25 ⟨(by rw [mIf, if_neg (by simp [mArr, c_4])]), fi, gr, nI (txWrong (tx, ty)), re, ⟨hM_G1.1, hM_G1.2.1, hM_G1.2.2.1, hM_G1.2.2.2.1, hM_G1.2.2.2.2.1, hM_G1.2.2.2.2.2⟩, fun j hj => hf_G1 j hj⟩
  · skip
    have c_4 := bI_t c_4
    refine k_aload_n C dX7_byBuffer_7 rfl (j := 0) rfl ?_
    refine k_callVi C (As := []) (rest := []) 73 (m_X7_lays l D cI cC cZ cB cJ ad N G1 f kp tx fi gr st ty th (nI (txWrong (tx, ty))) re nh nb nl (by omega) ⟨hM_G1.1, hM_G1.2.1, hM_G1.2.2.1, hM_G1.2.2.2.1, hM_G1.2.2.2.2.1, hM_G1.2.2.2.2.2⟩ hH hT0 hX0 c_4) gX7_byBuffer_X7_lays rfl kd_X7_lays rfl rfl ⟨Nat.le_of_ble_eq_true rfl, Nat.le_of_ble_eq_true rfl⟩ (by omega) hM_G1.1 rfl rfl rfl (Nat.le_of_ble_eq_true rfl) ⟨Nat.zero_le _, Nat.zero_le _⟩ dX7_byBuffer_8 (fun r_8 G2 hG2 => ?_)
    obtain ⟨e_r_8, hM_G2, hf_G2⟩ := hG2
    subst e_r_8
    refine k_if_eq C 24 dX7_byBuffer_11 (by decide) (fun c_11 => ?_) (fun c_11 => ?_)
    · skip
      have c_11 := bI_f c_11
      refine k_iconst C (v := (-1)) dX7_byBuffer_24 (by decide) ?_
      exact k_iret C hQ rfl rfl dX7_byBuffer_25 ⟨(by rw [mIf, if_neg (by simp [mArr, c_4, c_11])]), lF tx (aB fi 10) ((ty + 1) / 2), lG tx ((ty + 1) / 2) (aB gr 10) ((ty + 1) / 2), nI (txWrong (tx, ty)), re, ⟨hM_G2.1, hM_G2.2.1, hM_G2.2.2.1, hM_G2.2.2.2.1, hM_G2.2.2.2.2.1, hM_G2.2.2.2.2.2⟩, fun j hj => (hf_G2 j hj : _).trans (hf_G1 j hj)⟩
    · skip
      have c_11 := bI_t c_11
      refine k_aload_n C dX7_byBuffer_14 rfl (j := 0) rfl ?_
      refine k_callVi C (As := []) (rest := []) 73 (m_X7_wins l D cI cC cZ cB cJ ad N G2 f kp tx (lF tx (aB fi 10) ((ty + 1) / 2)) (lG tx ((ty + 1) / 2) (aB gr 10) ((ty + 1) / 2)) st ty th (nI (txWrong (tx, ty))) re nh nb nl (by omega) ⟨hM_G2.1, hM_G2.2.1, hM_G2.2.2.1, hM_G2.2.2.2.1, hM_G2.2.2.2.2.1, hM_G2.2.2.2.2.2⟩ hH hB hL (okG_l tx (by omega) fi (aB gr 10) ((ty + 1) / 2) (Nat.le_refl _)) hKB hKO ) gX7_byBuffer_X7_wins rfl kd_X7_wins rfl rfl ⟨Nat.le_of_ble_eq_true rfl, Nat.le_of_ble_eq_true rfl⟩ (by omega) hM_G2.1 rfl rfl rfl (Nat.le_of_ble_eq_true rfl) ⟨Nat.zero_le _, Nat.zero_le _⟩ dX7_byBuffer_15 (fun r_15 G3 hG3 => ?_)
      obtain ⟨e_r_15, re_G3, hM_G3, hf_G3⟩ := hG3
      subst e_r_15
      refine k_ldc C (v := 10000000) dX7_byBuffer_18 (List.mem_of_getElem? (i := 1) rfl) ?_
      refine k_iadd C dX7_byBuffer_20 ?_
      refine k_goto C 25 dX7_byBuffer_21 (by decide) ?_
      exact k_iret C hQ rfl rfl dX7_byBuffer_25 ⟨(by rw [mIf, if_pos (by simp [mArr, c_4, c_11]), mAW_eq tx ty fi gr hKB hKO]), lF tx (aB fi 10) ((ty + 1) / 2), lG tx ((ty + 1) / 2) (aB gr 10) ((ty + 1) / 2), nI (txWrong (tx, ty)), re_G3, ⟨hM_G3.1, hM_G3.2.1, hM_G3.2.2.1, hM_G3.2.2.2.1, hM_G3.2.2.2.2.1, hM_G3.2.2.2.2.2⟩, fun j hj => (hf_G3 j hj : _).trans ((hf_G2 j hj : _).trans (hf_G1 j hj))⟩
