/-! PURE: the digest -/
section DG
variable {f : Nat → Int32} {v : BV}
theorem r_D1 (O : Ok v) (R : Rel f v) {st : Nat} {hi : HV} (hst : hvZ hi = st) : ∀ i, i ≤ 14 → jD1 v hi i = mD1 f st (bnH v) (bnB v) (bnL v) i
  | 0, _ => rfl
  | i + 1, h => by rw [jD1, mD1, r_D1 O R hst i (by omega), r_count O R hst i (by omega)]
theorem r_Rw (O : Ok v) (R : Rel f v) {i : Nat} (hi : i < bnH v) (x : Int64) : ∀ c, c ≤ 9 → jRow (bvh v) 90 9 (nI (bnH v)) (nI i) x c = mRw f (bnB v) i x c
  | 0, _ => rfl
  | c + 1, h => by
    rw [jRow, mRw, r_Rw O R hi x c (by omega), r_horse O R hi c (by omega)]
theorem r_Hr (O : Ok v) (R : Rel f v) (x : Int64) : ∀ i, i ≤ bnH v → jHor v x i = mHr f (bnH v) (bnB v) (bnL v) x i
  | 0, _ => rfl
  | i + 1, h => by rw [jHor, mHr, r_Hr O R x i (by omega), r_Rw O R (by omega) _ 9 (Nat.le_refl _), r_cov O R (by omega), r_ww O R (by omega)]
theorem r_TB0 (R : Rel f v) {i : Nat} (hi : i < 24) (x y : Int64) (e : mTb f 66 x (8 * i) = y) : ∀ c, c ≤ 8 → mTb f 66 x (8 * i + c) = jRow (bvb v) 192 8 (nI (bnB v)) (nI i) y c
  | 0, _ => e
  | c + 1, h => by
    rw [← Nat.add_assoc, mTb, jRow, r_TB0 R hi x y e c (by omega), ← Nat.add_assoc, R.bet i hi c (by omega)]
theorem r_TB (O : Ok v) (R : Rel f v) (x : Int64) : ∀ i, i ≤ bnB v → mTb f 66 x (8 * i) = jTab (bvb v) 192 8 8 (nI (bnB v)) x i
  | 0, _ => rfl
  | i + 1, h => by
    have hb := O.nB
    rw [jTab, show 8 * (i + 1) = 8 * i + 8 from rfl]
    exact r_TB0 R (by omega) x _ (r_TB O R x i (by omega)) 8 (Nat.le_refl _)
theorem r_TL0 (R : Rel f v) {i : Nat} (hi : i < 6) (x y : Int64) (e : mTb f 258 x (5 * i) = y) : ∀ c, c ≤ 5 → mTb f 258 x (5 * i + c) = jRow (bvl v) 30 5 (nI (bnL v)) (nI i) y c
  | 0, _ => e
  | c + 1, h => by
    rw [← Nat.add_assoc, mTb, jRow, r_TL0 R hi x y e c (by omega), ← Nat.add_assoc, R.lay i hi c (by omega)]
theorem r_TL (O : Ok v) (R : Rel f v) (x : Int64) : ∀ i, i ≤ bnL v → mTb f 258 x (5 * i) = jTab (bvl v) 30 5 5 (nI (bnL v)) x i
  | 0, _ => rfl
  | i + 1, h => by
    have hb := O.nL
    rw [jTab, show 5 * (i + 1) = 5 * i + 5 from rfl]
    exact r_TL0 R (by omega) x _ (r_TL O R x i (by omega)) 5 (Nat.le_refl _)
theorem zL_b (b : Bool) : zL b = (bI b).toInt64 := by cases b <;> decide
theorem r_DX {x : TV} {tx : Nat → Int32} {ty : Nat} (T : TR x tx ty) (y : Int64) : ∀ i, i ≤ ty → jDX x y i = mDx tx y i
  | 0, _ => rfl
  | i + 1, h => by rw [jDX, mDx, r_DX T y i (by omega), T.txAt_eq, mT_at (by omega) T.le]
theorem r_dig (O : Ok v) (R : Rel f v) {x : TV} {tx kp : Nat → Int32} {ty st K : Nat} {hi : HV} {b0 b1 : Bool} (T : TR x tx ty) (hst : hvZ hi = st) (h0 : kp 0 = bI b0) (h1 : kp 1 = bI b1) (hK : dBits (mShare f (bnH v) (bnB v) (bnL v)) K = (mShare f (bnH v) (bnB v) (bnL v)).toInt64) :
    jDig v x hi b0 b1 (dBits (jShare v) K) = mDig f kp tx ty st (bnH v) (bnB v) (bnL v) := by
  have e0 : kpB kp 0 = b0 := by rw [kpB, h0]; cases b0 <;> decide
  have e1 : kpB kp 1 = b1 := by rw [kpB, h1]; cases b1 <;> decide
  rw [jDig, mDig, mB4, T.n, r_DX T _ _ (Nat.le_refl _), r_share O R, hK, zL_b, zL_b, e0, e1, r_if O R T, r_wst O R]
  have e2 : jD2 v hi = mB3 f st (bnH v) (bnB v) (bnL v) := by
    rw [jD2, mB3, mB2, mB1, mB0, r_TL O R _ _ (Nat.le_refl _), r_TB O R _ _ (Nat.le_refl _), ← r_Hr O R _ _ (Nat.le_refl _), ← r_D1 O R hst _ (Nat.le_refl _), R.pp, R.oo]
    rfl
  rw [e2]
end DG
/-! the states: saved ones, snapshots -/
theorem mCp_at (f : Nat → Int32) (a0 b0 k : Nat) {j : Nat} (hj : j < 290) : mCp f a0 b0 (290 * k + j) = if k = b0 then f (290 * a0 + j) else f (290 * k + j) := by
  rw [mCp, mCk]
  by_cases e : k = b0
  · subst e; rw [if_pos (by omega), if_pos rfl]; congr 1; omega
  · rw [if_neg (by omega), if_neg e]
theorem mSh_at (f : Nat → Int32) (k : Nat) {j : Nat} (hj : j < 290) : ∀ i, mSh f i (290 * k + j) = if 1 ≤ k ∧ k ≤ i then f (290 * (k + 1) + j) else f (290 * k + j)
  | 0 => by rw [if_neg (by omega)]; rfl
  | i + 1 => by
    rw [mSh, mCp_at _ _ _ _ hj, mSh_at f k hj i]
    by_cases e : k = i + 1
    · subst e
      rw [if_pos rfl, if_pos (by omega), mSh_at f (i + 2) hj i, if_neg (by omega)]
    · rw [if_neg e]
      by_cases q : 1 ≤ k ∧ k ≤ i
      · rw [if_pos q, if_pos (by omega)]
      · rw [if_neg q, if_neg (by omega)]
theorem mSave_at (f : Nat → Int32) {st : Nat} (hs : st ≤ 6) (k : Nat) {j : Nat} (hj : j < 290) :
    mSave f st (290 * k + j) = if st = 6 then (if k = 6 then f j else if 1 ≤ k ∧ k ≤ 5 then f (290 * (k + 1) + j) else f (290 * k + j)) else if k = st + 1 then f j else f (290 * k + j) := by
  rw [mSave]
  by_cases e : st = 6
  · rw [if_pos e, if_pos e, mCp_at _ _ _ _ hj, mSh_at f k hj]
    by_cases q : k = 6
    · rw [if_pos q, if_pos q, show 290 * 0 + j = j by omega, mSh_low f hj]
    · rw [if_neg q, if_neg q]
  · rw [if_neg e, if_neg e, mCp_at _ _ _ _ hj]
    by_cases q : k = st + 1
    · rw [if_pos q, if_pos q, show 290 * 0 + j = j by omega]
    · rw [if_neg q, if_neg q]
def slotF (f : Nat → Int32) (k : Nat) : Nat → Int32 := fun j => f (290 * k + j)
def RO (f : Nat → Int32) (k : Nat) (v : BV) : Prop :=
  (Rel (slotF f k) v) ∧
  (Ok v)
theorem RO.R {f : Nat → Int32} {k : Nat} {v : BV} (h9 : RO f k v) : Rel (slotF f k) v := h9.1
theorem RO.O {f : Nat → Int32} {k : Nat} {v : BV} (h9 : RO f k v) : Ok v := h9.2
theorem RO.to {f g : Nat → Int32} {k k2 : Nat} {v : BV} (h : RO f k v) (e : ∀ j, j < 290 → g (290 * k2 + j) = f (290 * k + j)) : RO g k2 v := ⟨h.R.congr (fun j hj => e j hj), h.O⟩
/-- the copy of a book tells what the book tells -/
theorem hA_copy (v u : BV) (hn : bnH u ≤ 10) {r c : Nat} (hr : r < 2 ^ 31) (hc : c < 9) : hA (bCopy v u) r c = hA u r c := by
  rcases Nat.lt_or_ge r (bnH u) with h | h
  · have e1 : hA (bCopy v u) r c = tCp (bvh u) (bvh v) 90 (r * 9 + c) := tC_at (C := 9) h hc (show bnH u * 9 ≤ 90 by omega) (by decide)
    have e2 : hA u r c = bvh u (r * 9 + c) := tC_at (C := 9) h hc (show bnH u * 9 ≤ 90 by omega) (by decide)
    rw [e1, e2, tCp, if_pos (by omega)]
  · rw [hA_out u h hr]; exact hA_out (bCopy v u) h hr
theorem bA_copy (v u : BV) (hn : bnB u ≤ 24) {r c : Nat} (hr : r < 2 ^ 31) (hc : c < 8) : bA (bCopy v u) r c = bA u r c := by
  rcases Nat.lt_or_ge r (bnB u) with h | h
  · have e1 : bA (bCopy v u) r c = tCp (bvb u) (bvb v) 192 (r * 8 + c) := tC_at (C := 8) h hc (show bnB u * 8 ≤ 192 by omega) (by decide)
    have e2 : bA u r c = bvb u (r * 8 + c) := tC_at (C := 8) h hc (show bnB u * 8 ≤ 192 by omega) (by decide)
    rw [e1, e2, tCp, if_pos (by omega)]
  · rw [bA_out u h hr]; exact bA_out (bCopy v u) h hr
theorem lA_copy (v u : BV) (hn : bnL u ≤ 6) {r c : Nat} (hr : r < 2 ^ 31) (hc : c < 5) : lA (bCopy v u) r c = lA u r c := by
  rcases Nat.lt_or_ge r (bnL u) with h | h
  · have e1 : lA (bCopy v u) r c = tCp (bvl u) (bvl v) 30 (r * 5 + c) := tC_at (C := 5) h hc (show bnL u * 5 ≤ 30 by omega) (by decide)
    have e2 : lA u r c = bvl u (r * 5 + c) := tC_at (C := 5) h hc (show bnL u * 5 ≤ 30 by omega) (by decide)
    rw [e1, e2, tCp, if_pos (by omega)]
  · rw [lA_out u h hr]; exact lA_out (bCopy v u) h hr
theorem tS_eq {f g : Nat → Int32} {len len2 : Nat} {cols cols2 n n2 c c2 : Int32} : ∀ i, (∀ k, k < i → tC f len cols n (nI k) c = tC g len2 cols2 n2 (nI k) c2) → tS f len cols n c i = tS g len2 cols2 n2 c2 i
  | 0, _ => rfl
  | i + 1, h => by rw [tS, tS, tS_eq i (fun k hk => h k (by omega)), h i (Nat.lt_succ_self i)]
theorem vBo_eq {v u : BV} (h : Nat) : ∀ i, (∀ k, k < i → bA v k 0 = bA u k 0) → vBo v h i = vBo u h i
  | 0, _ => rfl
  | i + 1, e => by rw [vBo, vBo, vBo_eq h i (fun k hk => e k (by omega)), e i (Nat.lt_succ_self i)]
theorem vSt_eq {v u : BV} (h : Nat) (pl : Bool) : ∀ i, (∀ k, k < i → ∀ w, w < 3 → bA v k w = bA u k w) → vSt v h pl i = vSt u h pl i
  | 0, _ => rfl
  | i + 1, e => by
    rw [vSt, vSt, vSt_eq h pl i (fun k hk => e k (by omega)), e i (Nat.lt_succ_self i) 0 (by decide), e i (Nat.lt_succ_self i) 1 (by decide), e i (Nat.lt_succ_self i) 2 (by decide)]
/-- what of a book its goodness tells of: a book that agrees there is as good -/
theorem Ok.same {v u : BV} (O : Ok u) (n1 : bnH v = bnH u) (n2 : bnB v = bnB u) (n3 : bnL v = bnL u) (p : bvP v = bvP u) (o : bvO v = bvO u) (eh : ∀ i, i < bnH u → ∀ c, c < 7 → hA v i c = hA u i c) (eb : ∀ k, k < bnB u → ∀ c, c < 6 → bA v k c = bA u k c) (el : ∀ k, k < bnL u → ∀ c, c < 4 → lA v k c = lA u k c) : Ok v := by
  refine ⟨?_, ?_, ?_, ?_, ?_, ?_, ?_, ?_⟩
  · rw [n1]; exact O.nH
  · rw [n2]; exact O.nB
  · rw [n3]; exact O.nL
  · exact fun i hi => by
      rw [n1] at hi
      have k := O.H i hi
      exact ⟨by rw [eh i hi 0 (by decide)]; exact k.a, by rw [eh i hi 1 (by decide)]; exact k.b, by rw [eh i hi 2 (by decide)]; exact k.r,
        by rw [eh i hi 4 (by decide), n2, vBo_eq i _ (fun k2 hk => eb k2 hk 0 (by decide))]; exact k.n,
        by rw [eh i hi 5 (by decide), n2, vSt_eq i _ _ (fun k2 hk w hw => eb k2 hk w (by omega))]; exact k.s,
        by rw [eh i hi 6 (by decide), n2, vSt_eq i _ _ (fun k2 hk w hw => eb k2 hk w (by omega))]; exact k.p⟩
  · exact fun k hk => by
      rw [n2] at hk
      have q := O.B k hk
      exact ⟨by rw [eb k hk 0 (by decide), n1]; exact q.h, by rw [eb k hk 1 (by decide)]; exact q.s, by rw [eb k hk 2 (by decide)]; exact q.w, by rw [eb k hk 3 (by decide)]; exact q.a, by rw [eb k hk 4 (by decide)]; exact q.b, by rw [eb k hk 5 (by decide)]; exact q.q⟩
  · exact fun k hk => by
      rw [n3] at hk
      have q := O.L k hk
      exact ⟨by rw [el k hk 0 (by decide), n1]; exact q.h, by rw [el k hk 1 (by decide)]; exact q.s, by rw [el k hk 2 (by decide)]; exact q.a, by rw [el k hk 3 (by decide)]; exact q.b⟩
  · rw [p]; exact O.P
  · rw [o]; exact O.O
theorem Ok.copy {u : BV} (v : BV) (O : Ok u) : Ok (bCopy v u) :=
  O.same rfl rfl rfl rfl rfl (fun i hi c hc => hA_copy v u O.nH (by have := O.nH; omega) (by omega)) (fun k hk c hc => bA_copy v u O.nB (by have := O.nB; omega) (by omega)) (fun k hk c hc => lA_copy v u O.nL (by have := O.nL; omega) (by omega))
theorem Rel.copy {g : Nat → Int32} {u : BV} (v : BV) (O : Ok u) (R : Rel g u) : Rel g (bCopy v u) := by
  refine ⟨?_, ?_, ?_, ?_, ?_, ?_, ?_, ?_, ?_, ?_, ?_, ?_, ?_, ?_, ?_, ?_⟩
  · exact R.n0
  · exact R.n1
  · exact R.n2
  · exact R.se
  · exact R.pp
  · exact R.oo
  · exact fun i hi => (R.a i hi).trans (hA_copy v u O.nH (by omega) (by decide)).symm
  · exact fun i hi => (R.b i hi).trans (hA_copy v u O.nH (by omega) (by decide)).symm
  · exact fun i hi => (R.r i hi).trans (hA_copy v u O.nH (by omega) (by decide)).symm
  · exact fun i hi => (R.c i hi).trans (hA_copy v u O.nH (by omega) (by decide)).symm
  · exact fun i hi => by rw [R.f i hi, hA_copy v u O.nH (by omega) (by decide)]; rfl
  · exact fun i hi => by rw [R.g' i hi, hA_copy v u O.nH (by omega) (by decide)]; rfl
  · exact fun k hk w hw => (R.bet k hk w hw).trans (bA_copy v u O.nB (by omega) hw).symm
  · exact fun k hk w hw => (R.lay k hk w hw).trans (lA_copy v u O.nL (by omega) hw).symm
  · rw [R.s1, show tS (bvb (bCopy v u)) 192 8 (nI (bnB (bCopy v u))) 6 (bnB (bCopy v u)) = tS (bvb u) 192 8 (nI (bnB u)) 6 (bnB u) from tS_eq _ (fun k hk => bA_copy v u O.nB (by have := O.nB; have hk2 : k < bnB u := hk; omega) (c := 6) (by decide))]; rfl
  · rw [R.s2, show tS (bvl (bCopy v u)) 30 5 (nI (bnL (bCopy v u))) 4 (bnL (bCopy v u)) = tS (bvl u) 30 5 (nI (bnL u)) 4 (bnL u) from tS_eq _ (fun k hk => lA_copy v u O.nL (by have := O.nL; have hk2 : k < bnL u := hk; omega) (c := 4) (by decide))]; rfl
theorem RO.copy {f : Nat → Int32} {k : Nat} {u : BV} (v : BV) (h : RO f k u) : RO f k (bCopy v u) := ⟨h.R.copy v h.O, h.O.copy v⟩
def Hist (f : Nat → Int32) (st : Nat) (hi : HV) : Prop :=
  (hvN hi < 6) ∧
  (hvZ hi = st) ∧
  (st ≤ 6) ∧
  (∀ k, 1 ≤ k → k ≤ st → RO f k (hvS hi ((hvN hi + 5 + k - st) % 6)))
theorem Hist.n {f : Nat → Int32} {st : Nat} {hi : HV} (h9 : Hist f st hi) : hvN hi < 6 := h9.1
theorem Hist.z {f : Nat → Int32} {st : Nat} {hi : HV} (h9 : Hist f st hi) : hvZ hi = st := h9.2.1
theorem Hist.le {f : Nat → Int32} {st : Nat} {hi : HV} (h9 : Hist f st hi) : st ≤ 6 := h9.2.2.1
theorem Hist.at' {f : Nat → Int32} {st : Nat} {hi : HV} (h9 : Hist f st hi) : ∀ k, 1 ≤ k → k ≤ st → RO f k (hvS hi ((hvN hi + 5 + k - st) % 6)) := h9.2.2.2
def Sl (f kp : Nat → Int32) (i : Nat) (z : ZV) : Prop :=
  (kp i = bI z.2) ∧
  (z.2 = true → RO f (7 + i) z.1)
theorem Sl.k {f kp : Nat → Int32} {i : Nat} {z : ZV} (h9 : Sl f kp i z) : kp i = bI z.2 := h9.1
theorem Sl.b {f kp : Nat → Int32} {i : Nat} {z : ZV} (h9 : Sl f kp i z) : z.2 = true → RO f (7 + i) z.1 := h9.2
def Inv (v : BV) (x : TV) (hi : HV) (z0 z1 : ZV) (f kp tx : Nat → Int32) (st ty : Nat) : Prop :=
  (Rel f v) ∧
  (Ok v) ∧
  (TR x tx ty) ∧
  (Hist f st hi) ∧
  (Sl f kp 0 z0) ∧
  (Sl f kp 1 z1)
theorem Inv.R {v : BV} {x : TV} {hi : HV} {z0 z1 : ZV} {f kp tx : Nat → Int32} {st ty : Nat} (h9 : Inv v x hi z0 z1 f kp tx st ty) : Rel f v := h9.1
theorem Inv.O {v : BV} {x : TV} {hi : HV} {z0 z1 : ZV} {f kp tx : Nat → Int32} {st ty : Nat} (h9 : Inv v x hi z0 z1 f kp tx st ty) : Ok v := h9.2.1
theorem Inv.T {v : BV} {x : TV} {hi : HV} {z0 z1 : ZV} {f kp tx : Nat → Int32} {st ty : Nat} (h9 : Inv v x hi z0 z1 f kp tx st ty) : TR x tx ty := h9.2.2.1
theorem Inv.H {v : BV} {x : TV} {hi : HV} {z0 z1 : ZV} {f kp tx : Nat → Int32} {st ty : Nat} (h9 : Inv v x hi z0 z1 f kp tx st ty) : Hist f st hi := h9.2.2.2.1
theorem Inv.z0 {v : BV} {x : TV} {hi : HV} {z0 z1 : ZV} {f kp tx : Nat → Int32} {st ty : Nat} (h9 : Inv v x hi z0 z1 f kp tx st ty) : Sl f kp 0 z0 := h9.2.2.2.2.1
theorem Inv.z1 {v : BV} {x : TV} {hi : HV} {z0 z1 : ZV} {f kp tx : Nat → Int32} {st ty : Nat} (h9 : Inv v x hi z0 z1 f kp tx st ty) : Sl f kp 1 z1 := h9.2.2.2.2.2
theorem Hist.congr {f g : Nat → Int32} {st : Nat} {hi : HV} (h : Hist f st hi) (e : ∀ j, 290 ≤ j → j < 2030 → g j = f j) : Hist g st hi :=
  ⟨h.n, h.z, h.le, fun k h1 h2 => (h.at' k h1 h2).to (fun j hj => e _ (by omega) (by have := h.le; omega))⟩
theorem Sl.congr {f g kp : Nat → Int32} {i : Nat} {z : ZV} (h : Sl f kp i z) (e : ∀ j, 2030 ≤ j → g j = f j) : Sl g kp i z := ⟨h.k, fun q => (h.b q).to (fun j hj => e _ (by omega))⟩
theorem Rel.slot0 {f : Nat → Int32} {v : BV} : Rel (slotF f 0) v ↔ Rel f v := ⟨fun h => h.congr (fun j _ => by rw [slotF]; congr 1; omega), fun h => h.congr (fun j _ => by rw [slotF]; congr 1; omega)⟩
theorem Hist.save {f : Nat → Int32} {st : Nat} {hi : HV} {v : BV} (h : Hist f st hi) (R : Rel f v) (O : Ok v) : Hist (mSave f st) (mSt st) (hSave hi v) := by
  have hn := h.n
  have hle := h.le
  have hz := h.z
  refine ⟨Nat.mod_lt _ (by decide), ?_, mSt_le hle, fun k h1 h2 => ?_⟩
  · show min (hvZ hi + 1) 6 = mSt st
    rw [hz, mSt]; split <;> omega
  · show RO (mSave f st) k ((fun i => if i = hvN hi then bCopy (hvS hi (hvN hi)) v else hvS hi i) (((hvN hi + 1) % 6 + 5 + k - mSt st) % 6))
    by_cases e6 : st = 6
    · subst e6
      rw [show mSt 6 = 6 from rfl] at h2 ⊢
      by_cases ek : k = 6
      · subst ek
        have e1 : ((hvN hi + 1) % 6 + 5 + 6 - 6) % 6 = hvN hi := by omega
        rw [e1]
        simp only [if_true]
        exact RO.copy _ ⟨R.congr (fun j hj => by rw [slotF, mSave_at f hle 6 hj, if_pos rfl, if_pos rfl]), O⟩
      · have e1 : ((hvN hi + 1) % 6 + 5 + k - 6) % 6 = (hvN hi + 5 + (k + 1) - 6) % 6 := by omega
        have e2 : ¬ ((hvN hi + 1) % 6 + 5 + k - 6) % 6 = hvN hi := by omega
        simp only [e2, if_false]
        rw [e1]
        exact (h.at' (k + 1) (by omega) (by omega)).to (fun j hj => by rw [mSave_at f hle k hj, if_pos rfl, if_neg ek, if_pos (by omega)])
    · have es : mSt st = st + 1 := if_neg e6
      rw [es] at h2 ⊢
      by_cases ek : k = st + 1
      · subst ek
        have e1 : ((hvN hi + 1) % 6 + 5 + (st + 1) - (st + 1)) % 6 = hvN hi := by omega
        rw [e1]
        simp only [if_true]
        exact RO.copy _ ⟨R.congr (fun j hj => by rw [slotF, mSave_at f hle (st + 1) hj, if_neg e6, if_pos rfl]), O⟩
      · have e1 : ((hvN hi + 1) % 6 + 5 + k - (st + 1)) % 6 = (hvN hi + 5 + k - st) % 6 := by omega
        have e2 : ¬ ((hvN hi + 1) % 6 + 5 + k - (st + 1)) % 6 = hvN hi := by omega
        simp only [e2, if_false]
        rw [e1]
        exact (h.at' k h1 (by omega)).to (fun j hj => by rw [mSave_at f hle k hj, if_neg e6, if_neg ek])
theorem Sl.save {f kp : Nat → Int32} {st i : Nat} {z : ZV} (h : Sl f kp i z) (hst : st ≤ 6) (hi : i < 2) : Sl (mSave f st) kp i z :=
  ⟨h.k, fun q => (h.b q).to (fun j hj => by
    rw [mSave_at f hst (7 + i) hj]
    by_cases e6 : st = 6
    · rw [if_pos e6, if_neg (by omega), if_neg (by omega)]
    · rw [if_neg e6, if_neg (by omega)])⟩
/-- the state behind a call that saves and then changes the book of now alone -/
theorem Inv.step {v v' : BV} {x : TV} {hi : HV} {z0 z1 : ZV} {f g kp tx : Nat → Int32} {st ty : Nat} (I : Inv v x hi z0 z1 f kp tx st ty) (hg : ∀ j, 290 ≤ j → g j = mSave f st j) (R : Rel g v') (O : Ok v') : Inv v' x (hSave hi v) z0 z1 g kp tx (mSt st) ty :=
  ⟨R, O, I.T, (I.H.save I.R I.O).congr (fun j h1 _ => hg j h1), (I.z0.save I.H.le (by decide)).congr (fun j h1 => hg j (by omega)), (I.z1.save I.H.le (by decide)).congr (fun j h1 => hg j (by omega))⟩
