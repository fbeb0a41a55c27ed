/-! PURE: settle, the buffer, snapshots, undo, the start -/
theorem lOk_lt {f tx : Nat → Int32} {nh : Nat} (hf : f 0 = nI nh) (hn : nh ≤ 10) : ∀ k, lOk f tx k = true → ∀ j, j < k → lH tx j < nh
  | 0, _, j, hj => absurd hj (Nat.not_lt_zero _)
  | k + 1, h, j, hj => by
    rw [lOk, Bool.and_eq_true] at h
    rcases Nat.lt_or_ge j k with q | q
    · exact lOk_lt hf hn k h.1 j q
    · have h2 := h.2
      rw [show j = k by omega]
      simp only [mRuns, Bool.and_eq_true] at h2
      obtain ⟨j2, hj2, e⟩ := mIsH_nI hf hn h2.1
      rw [lH, e, nI_clamp (by omega)]; exact hj2
theorem l_none (tx : Nat → Int32) {h : Nat} : ∀ k, (∀ j, j < k → ¬ h = lH tx j) → lF tx mNeg k h = -1 ∧ ∀ n, lG tx n mNeg k h = -1
  | 0, _ => ⟨rfl, fun _ => rfl⟩
  | k + 1, e => by
    obtain ⟨h1, h2⟩ := l_none tx k (fun j hj => e j (by omega))
    exact ⟨by rw [lF_s, pk_un (e k (Nat.lt_succ_self k)), h1], fun n => by rw [lG_s, pk_un (e k (Nat.lt_succ_self k)), h2]⟩
theorem mS1_hi (f fi gr : Nat → Int32) (nh : Nat) {j : Nat} (hj : 290 ≤ j) : ∀ i, i ≤ 24 → mS1 f fi gr nh i j = f j
  | 0, _ => by rw [mS1, pk_un (by omega), pk_un (by omega)]
  | i + 1, h => by rw [mS1_s, pk_un (by omega), pk_un (by omega), pk_un (by omega), mS1_hi f fi gr nh hj i (by omega)]
theorem mS2_hi (f fi gr : Nat → Int32) (nh nb : Nat) (hb : nb ≤ 24) {j : Nat} (hj : 290 ≤ j) : ∀ i, i ≤ 6 → mS2 f fi gr nh nb i j = f j
  | 0, _ => mS1_hi f fi gr nh hj nb hb
  | i + 1, h => by rw [mS2_s, pk_un (by omega), pk_un (by omega), mS2_hi f fi gr nh nb hb hj i (by omega)]
theorem TR.none (c tx : Nat → Int32) : TR (c, 0) tx 0 := ⟨rfl, by decide, fun j hj => absurd hj (Nat.not_lt_zero _), fun j hj => absurd hj (Nat.not_lt_zero _)⟩
section OP3
variable {f : Nat → Int32} {v : BV} {st : Nat} {x : TV} {hi : HV} {z0 z1 : ZV} {kp tx : Nat → Int32} {ty : Nat}
theorem s_settle (I : Inv v x hi z0 z1 f kp tx st ty) (hx : xSettle v x = 0) :
    jWon (jSettle v (raA v x (raK x))) = mAW (mSave f st) tx ty (bnH v) (bnB v) (bnL v) + 10000000 ∧ Inv (jSettle v (raA v x (raK x))) (txC x, 0) (hSave hi v) z0 z1 (mDone (mSave f st) tx ty (bnH v) (bnB v) (bnL v)) kp tx (mSt st) 0 := by
  have O := I.O
  have R := I.R
  have T := I.T
  have h0 := O.nH
  obtain ⟨ha, -⟩ := xSettle_0 hx
  rw [r_arr O R T, mArr, Bool.and_eq_true] at ha
  have R' : Rel (mSave f st) v := R.congr (fun j hj => mSave_low f st hj)
  have A := r_raE (v := v) T.le T.ok ha.1
  rw [raK, T.n, T.ra]
  have hl := lOk_lt R.n0 h0 _ ha.2
  obtain ⟨s1, s2, s3⟩ := settle_all O R' A (fun h hh hh2 => by
    have := l_none tx (h := h) ((ty + 1) / 2) (fun j hj q => by have := hl j hj; omega)
    exact ⟨this.1, this.2 _⟩)
  refine ⟨s3, ?_⟩
  have I2 := I.step (v' := jSettle v (raA v (tx, ty) ((ty + 1) / 2))) (g := mDone (mSave f st) tx ty (bnH v) (bnB v) (bnL v)) (fun j hj => by
    rw [mDone, mFin, pk_un (by omega), (mS3_at _ _ _ _ _ _ 10 (Nat.le_refl _)).1 j (Or.inr (by omega)), mS2_hi _ _ _ _ _ O.nB hj _ O.nL]) s1 s2
  exact ⟨I2.R, I2.O, TR.none _ _, I2.H, I2.z0, I2.z1⟩
theorem xAppend_0 {y : Int32} (h : xAppend x y = 0) : jCodeOk y = true ∧ txN x < 30 := by
  rw [xAppend] at h
  cases q : jCodeOk y with
  | false => rw [if_pos q] at h; exact absurd h (by decide)
  | true =>
    rw [if_neg (by rw [q]; decide)] at h
    by_cases z : 30 ≤ txN x
    · rw [if_pos z] at h; exact absurd h (by decide)
    · exact ⟨rfl, by omega⟩
theorem s_append (I : Inv v x hi z0 z1 f kp tx st ty) {y : Int32} (h : xAppend x y = 0) : nI (txN (jAdd x y)) = nI (ty + 1) ∧ Inv v (jAdd x y) hi z0 z1 f kp (upd tx ty y) st (ty + 1) := by
  have T := I.T
  obtain ⟨hc, hn⟩ := xAppend_0 h
  have e : jAdd x y = (upd (txC x) ty y, ty + 1) := by rw [jAdd, if_pos hn, T.n]
  rw [T.n] at hn
  rw [e]
  refine ⟨rfl, I.R, I.O, ⟨rfl, hn, fun j hj => ?_, fun j hj => ?_⟩, I.H, I.z0, I.z1⟩
  · show upd (txC x) ty y j = upd tx ty y j
    by_cases q : j = ty
    · subst q; rw [pk_us, pk_us]
    · rw [pk_un q, pk_un q]; exact T.at' j (by omega)
  · by_cases q : j = ty
    · subst q
      rw [pk_us]
      simp only [jCodeOk, Bool.and_eq_true, Bool.not_eq_true', decide_eq_false_iff_not, decide_eq_true_eq] at hc
      obtain ⟨n, hn, e⟩ := nI_of2 (M := 126) (n := 126) (by decide) (fun q => hc.1 (Int32.lt_trans q (by decide))) hc.2
      exact ⟨n, by omega, e⟩
    · rw [pk_un q]; exact T.ok j (by omega)
theorem s_clear (I : Inv v x hi z0 z1 f kp tx st ty) : Inv v (txC x, 0) hi z0 z1 f kp tx st 0 := ⟨I.R, I.O, TR.none _ _, I.H, I.z0, I.z1⟩
theorem slot_same (f : Nat → Int32) {k q : Nat} (hk : k ≠ q) : ∀ j, j < 290 → mCp f 0 (7 + q) (290 * (7 + k) + j) = f (290 * (7 + k) + j) := fun j hj => by rw [mCp_at _ _ _ _ hj, if_neg (by omega)]
theorem s_keep (I : Inv v x hi z0 z1 f kp tx st ty) {k0 : Int32} (h : xKeep k0 = 0) :
    Inv v x hi (if k0 = 0 then (bCopy z0.1 v, true) else z0) (if k0 = 0 then z1 else (bCopy z1.1 v, true)) (mCp f 0 (7 + vN k0)) (upd kp (vN k0) 1) tx st ty := by
  have hk : jTwoOk k0 = true := by
    rw [xKeep] at h
    cases q : jTwoOk k0 with
    | true => rfl
    | false => rw [if_pos q] at h; exact absurd h (by decide)
  have hR : ∀ q, Rel (mCp f 0 (7 + q)) v := fun q => I.R.congr (fun j hj => mCp_low f (by omega) hj)
  have hH : ∀ q, q < 2 → Hist (mCp f 0 (7 + q)) st hi := fun q hq => I.H.congr (fun j h1 h2 => by rw [mCp, mCk, if_neg (by omega)])
  have hN : ∀ q, RO (mCp f 0 (7 + q)) (7 + q) v := fun q => ⟨I.R.congr (fun j hj => by rw [slotF, mCp_at _ _ _ _ hj, if_pos rfl]; congr 1; omega), I.O⟩
  rcases jTwo_or hk with rfl | rfl
  · rw [show vN 0 = 0 from rfl, if_pos rfl, if_pos rfl]
    refine ⟨hR 0, I.O, I.T, hH 0 (by decide), ⟨pk_us, fun _ => RO.copy _ (hN 0)⟩, ⟨?_, fun q => (I.z1.b q).to (slot_same f (by decide))⟩⟩
    rw [pk_un (by decide)]; exact I.z1.k
  · rw [show vN 1 = 1 from rfl, if_neg (by decide), if_neg (by decide)]
    refine ⟨hR 1, I.O, I.T, hH 1 (by decide), ⟨?_, fun q => (I.z0.b q).to (slot_same f (by decide))⟩, ⟨pk_us, fun _ => RO.copy _ (hN 1)⟩⟩
    rw [pk_un (by decide)]; exact I.z0.k
theorem s_back0 (I : Inv v x hi z0 z1 f kp tx st ty) {z : ZV} {i : Nat} (hi2 : i < 2) (hz : RO f (7 + i) z.1) :
    nI (bnB (bCopy v z.1)) = mCp (mSave f st) (7 + i) 0 1 ∧ Inv (bCopy v z.1) x (hSave hi v) z0 z1 (mCp (mSave f st) (7 + i) 0) kp tx (mSt st) ty := by
  have hs := I.H.le
  have hlo : ∀ j, j < 290 → mCp (mSave f st) (7 + i) 0 j = f (290 * (7 + i) + j) := fun j hj => by
    have e := mCp_at (mSave f st) (7 + i) 0 0 hj
    rw [if_pos rfl, show 290 * 0 + j = j by omega] at e
    rw [e, mSave_at f hs (7 + i) hj]
    by_cases e6 : st = 6
    · rw [if_pos e6, if_neg (by omega), if_neg (by omega)]
    · rw [if_neg e6, if_neg (by omega)]
  have R2 : Rel (mCp (mSave f st) (7 + i) 0) (bCopy v z.1) := (hz.R.copy v hz.O).congr (fun j hj => hlo j hj)
  refine ⟨R2.n1.symm, I.step (fun j hj => ?_) R2 (hz.O.copy v)⟩
  rw [mCp, mCk, if_neg (by omega)]
theorem s_back (I : Inv v x hi z0 z1 f kp tx st ty) {k0 : Int32} (h : xBack k0 z0 z1 = 0) :
    nI (bnB (if k0 = 0 then bCopy v z0.1 else bCopy v z1.1)) = mCp (mSave f st) (7 + vN k0) 0 1 ∧ Inv (if k0 = 0 then bCopy v z0.1 else bCopy v z1.1) x (hSave hi v) z0 z1 (mCp (mSave f st) (7 + vN k0) 0) kp tx (mSt st) ty := by
  rw [xBack] at h
  cases hk : jTwoOk k0 with
  | false => rw [if_pos hk] at h; exact absurd h (by decide)
  | true =>
    rw [if_neg (by rw [hk]; decide)] at h
    rcases jTwo_or hk with rfl | rfl
    · rw [if_pos (show (0 : Int32) = 0 from rfl)] at h
      rw [show vN 0 = 0 from rfl, if_pos rfl]
      refine s_back0 I (by decide) (I.z0.b ?_)
      cases q : z0.2 with
      | true => rfl
      | false => rw [if_pos q] at h; exact absurd h (by decide)
    · rw [if_neg (show ¬ (1 : Int32) = 0 by decide)] at h
      rw [show vN 1 = 1 from rfl, if_neg (by decide)]
      refine s_back0 I (by decide) (I.z1.b ?_)
      cases q : z1.2 with
      | true => rfl
      | false => rw [if_pos q] at h; exact absurd h (by decide)
theorem s_undo (I : Inv v x hi z0 z1 f kp tx st ty) (h : xUndo hi = 0) :
    nI (hvZ hi - 1) = nI (st - 1) ∧ Inv (bCopy v (hvS hi (hLast hi))) x (hvS hi, hLast hi, hvZ hi - 1) z0 z1 (mCp f st 0) kp tx (st - 1) ty := by
  have hz := I.H.z
  have hle := I.H.le
  have hn := I.H.n
  have hpos : 0 < st := by
    rcases Nat.eq_zero_or_pos st with q | q
    · rw [xUndo, hz, if_pos q] at h; exact absurd h (by decide)
    · exact q
  have hlast : (hvN hi + 5 + st - st) % 6 = hLast hi := by rw [hLast]; omega
  have hs := I.H.at' st hpos (Nat.le_refl _)
  rw [hlast] at hs
  have R2 : Rel (mCp f st 0) (bCopy v (hvS hi (hLast hi))) := (hs.R.copy v hs.O).congr (fun j hj => by
    have e := mCp_at f st 0 0 hj
    rw [if_pos rfl, show 290 * 0 + j = j by omega] at e
    exact e)
  refine ⟨by rw [hz], R2, hs.O.copy v, I.T, ⟨Nat.mod_lt _ (by decide), by show hvZ hi - 1 = st - 1; rw [hz], by omega, fun k h1 h2 => ?_⟩, I.z0.congr (fun j hj => by rw [mCp, mCk, if_neg (by omega)]), I.z1.congr (fun j hj => by rw [mCp, mCk, if_neg (by omega)])⟩
  have e1 : (hLast hi + 5 + k - (st - 1)) % 6 = (hvN hi + 5 + k - st) % 6 := by rw [hLast]; omega
  show RO (mCp f st 0) k (hvS hi ((hLast hi + 5 + k - (st - 1)) % 6))
  rw [e1]
  exact (I.H.at' k h1 (by omega)).to (fun j hj => by rw [mCp_at _ _ _ _ hj, if_neg (by omega)])
end OP3
theorem mI_at : ∀ i, i ≤ 10 → (∀ j, (j < 46 ∨ 66 ≤ j) → mI i j = upd (upd zF 4 5) 5 10000 j) ∧ ∀ h, h < i → mI i (46 + h) = -1 ∧ mI i (56 + h) = -1
  | 0, _ => ⟨fun _ _ => rfl, fun h hh => absurd hh (Nat.not_lt_zero _)⟩
  | i + 1, hi => by
    obtain ⟨i1, i2⟩ := mI_at i (by omega)
    refine ⟨fun j hj => by rw [mI, pk_un (by omega), pk_un (by omega), i1 j hj], fun h hh => ?_⟩
    by_cases q : h = i
    · subst q; exact ⟨by rw [mI, pk_un (by omega), pk_us], by rw [mI, pk_us]⟩
    · exact ⟨by rw [mI, pk_un (by omega), pk_un (by omega), (i2 h (by omega)).1], by rw [mI, pk_un (by omega), pk_un (by omega), (i2 h (by omega)).2]⟩
theorem Inv.start : Inv bk0 tx0 hi0 sl0 sl0 (mI 10) zF zF 0 0 := by
  obtain ⟨i1, i2⟩ := mI_at 10 (Nat.le_refl _)
  have z : ∀ j, (j < 46 ∨ 66 ≤ j) → j ≠ 4 → j ≠ 5 → mI 10 j = 0 := fun j hj h4 h5 => by rw [i1 j hj, pk_un h5, pk_un h4]; rfl
  have eh : ∀ i c, i < 10 → hA bk0 i c = 0 := fun i c hi => hA_out bk0 (Nat.zero_le _) (by omega)
  refine ⟨?_, ⟨by decide, by decide, by decide, fun i hi => absurd hi (Nat.not_lt_zero _), fun i hi => absurd hi (Nat.not_lt_zero _), fun i hi => absurd hi (Nat.not_lt_zero _), Or.inr rfl, ⟨10000, by decide, by decide, rfl⟩⟩, TR.none _ _, ⟨by decide, rfl, by decide, fun k h1 h2 => absurd h2 (by omega)⟩, ⟨rfl, fun q => absurd q (by decide)⟩, ⟨rfl, fun q => absurd q (by decide)⟩⟩
  exact Rel.mk (z 0 (by decide) (by decide) (by decide)) (z 1 (by decide) (by decide) (by decide)) (z 2 (by decide) (by decide) (by decide)) (z 3 (by decide) (by decide) (by decide)) (by rw [i1 4 (by decide), pk_un (by decide), pk_us]; rfl) (by rw [i1 5 (by decide), pk_us]; rfl) (fun i hi => by rw [eh i 0 hi]; exact z _ (by omega) (by omega) (by omega)) (fun i hi => by rw [eh i 1 hi]; exact z _ (by omega) (by omega) (by omega)) (fun i hi => by rw [eh i 2 hi]; exact z _ (by omega) (by omega) (by omega)) (fun i hi => by rw [eh i 3 hi]; exact z _ (by omega) (by omega) (by omega)) (fun i hi => by rw [if_neg (show ¬ i < bnH bk0 from Nat.not_lt_zero _)]; exact (i2 i hi).1) (fun i hi => by rw [if_neg (show ¬ i < bnH bk0 from Nat.not_lt_zero _)]; exact (i2 i hi).2) (fun k hk w hw => by rw [bA_out bk0 (Nat.zero_le _) (by omega)]; exact z _ (by omega) (by omega) (by omega)) (fun k hk w hw => by rw [lA_out bk0 (Nat.zero_le _) (by omega)]; exact z _ (by omega) (by omega) (by omega)) (z 288 (by decide) (by decide) (by decide)) (z 289 (by decide) (by decide) (by decide))
