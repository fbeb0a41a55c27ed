/-! PURE: layOff, withdraw, set, snapshots, undo -/
theorem lA_addLaid (v : BV) (h y a b : Int32) (hn : bnL v < 6) {r c : Nat} (hr : r < 2 ^ 31) (hc : c < 5) : lA (jAddLaid v h y a b) r c = if r = bnL v then (if c = 4 then -1 else if c = 3 then b else if c = 2 then a else if c = 1 then y else if c = 0 then h else 0) else lA v r c := by
  have hl : bnL v < bnL v + 1 := Nat.lt_succ_self _
  have h10 : bnL v + 1 ≤ 6 := hn
  rw [jAddLaid, lA_putl _ 4 (n := bnL v + 1) (by rfl) (by rfl) h10 hl (by decide) hr hc, lA_putl _ 3 (n := bnL v + 1) (by rfl) (by rfl) h10 hl (by decide) hr hc, lA_putl _ 2 (n := bnL v + 1) (by rfl) (by rfl) h10 hl (by decide) hr hc, lA_putl _ 1 (n := bnL v + 1) (by rfl) (by rfl) h10 hl (by decide) hr hc, lA_putl _ 0 (n := bnL v + 1) (by rfl) (by rfl) h10 hl (by decide) hr hc, lA_new v hn hr hc]
  by_cases q : r = bnL v
  · simp only [q, true_and, if_true]
  · simp only [q, false_and, if_false]
section OP2
variable {f : Nat → Int32} {v : BV} {st : Nat}
theorem s_lay {x : TV} {hi : HV} {z0 z1 : ZV} {kp tx : Nat → Int32} {ty : Nat} (I : Inv v x hi z0 z1 f kp tx st ty) {h y a b : Int32} (hx : xLay v h y a b = 0) :
    Inv (jAddLaid v h y a b) x (hSave hi v) z0 z1 (mLy (mSave f st) (bnL v) h y a b) kp tx (mSt st) ty := by
  have O := I.O
  have R := I.R
  have h0 := O.nH
  have hb0 := O.nL
  obtain ⟨hh, hy, hp, -, hse, hfu⟩ := xLay_0 hx
  have hn : bnL v < 6 := roomL hfu hb0
  have py := stake_isN hy
  obtain ⟨pa, pb⟩ := price_isN hp
  obtain ⟨j, hj, rfl⟩ := tHas_nI (by omega) hh
  have evl : ∀ r c, r < 2 ^ 31 → c < 5 → _ := fun r c hr hc => lA_addLaid v (nI j) y a b hn (r := r) (c := c) hr hc
  refine I.step (fun i hi => by rw [mLy]; (repeat rw [pk_un (by omega)])) ?_ ?_
  · refine Rel.mk ?_ ?_ pk_us ?_ ?_ ?_ (fun i hi => ?_) (fun i hi => ?_) (fun i hi => ?_) (fun i hi => ?_) (fun i hi => ?_) (fun i hi => ?_) (fun k hk u hu => ?_) (fun k hk u hu => ?_) ?_ ?_
    · rw [mLy]; (repeat rw [pk_un (by omega)]); rw [mSave_low f st (by omega)]; exact R.n0
    · rw [mLy]; (repeat rw [pk_un (by omega)]); rw [mSave_low f st (by omega)]; exact R.n1
    · rw [mLy]; (repeat rw [pk_un (by omega)]); rw [mSave_low f st (by omega)]; exact R.se
    · rw [mLy]; (repeat rw [pk_un (by omega)]); rw [mSave_low f st (by omega)]; exact R.pp
    · rw [mLy]; (repeat rw [pk_un (by omega)]); rw [mSave_low f st (by omega)]; exact R.oo
    · rw [mLy]; (repeat rw [pk_un (by omega)]); rw [mSave_low f st (by omega)]; exact R.a i hi
    · rw [mLy]; (repeat rw [pk_un (by omega)]); rw [mSave_low f st (by omega)]; exact R.b i hi
    · rw [mLy]; (repeat rw [pk_un (by omega)]); rw [mSave_low f st (by omega)]; exact R.r i hi
    · rw [mLy]; (repeat rw [pk_un (by omega)]); rw [mSave_low f st (by omega)]; exact R.c i hi
    · rw [mLy]; (repeat rw [pk_un (by omega)]); rw [mSave_low f st (by omega)]; exact R.f i hi
    · rw [mLy]; (repeat rw [pk_un (by omega)]); rw [mSave_low f st (by omega)]; exact R.g' i hi
    · rw [mLy]; (repeat rw [pk_un (by omega)]); rw [mSave_low f st (by omega)]; exact R.bet k hk u hu
    · rw [evl _ _ (by omega) hu, mLy]
      by_cases e : k = bnL v
      · subst e
        rw [if_pos rfl, pk_un (by omega)]
        rcases (show u = 0 ∨ u = 1 ∨ u = 2 ∨ u = 3 ∨ u = 4 by omega) with rfl | rfl | rfl | rfl | rfl
        · (repeat rw [pk_un (by omega)]); exact pk_us
        · (repeat rw [pk_un (by omega)]); exact pk_us
        · (repeat rw [pk_un (by omega)]); exact pk_us
        · (repeat rw [pk_un (by omega)]); exact pk_us
        · exact pk_us
      · rw [if_neg e]; (repeat rw [pk_un (by omega)]); rw [mSave_low f st (by omega)]; exact R.lay k hk u hu
    · rw [mLy]; (repeat rw [pk_un (by omega)]); rw [mSave_low f st (by omega)]; exact R.s1
    · rw [mLy]; (repeat rw [pk_un (by omega)]); rw [mSave_low f st (by omega), R.s2]
      show _ = if bvS v = true then _ else 0
      rw [hse, if_neg (by decide), if_neg (by decide)]
  · refine ⟨h0, O.nB, hn, fun i hi => ?_, fun k hk => ?_, fun k hk => ?_, O.P, O.O⟩
    · have k := O.H i hi
      have eB : vBo (jAddLaid v (nI j) y a b) i (bnB v) = vBo v i (bnB v) := vBo_eq i _ (fun _ _ => rfl)
      have eS : ∀ pl, vSt (jAddLaid v (nI j) y a b) i pl (bnB v) = vSt v i pl (bnB v) := fun pl => vSt_eq i pl _ (fun _ _ _ _ => rfl)
      exact ⟨k.a, k.b, k.r, k.n.trans eB.symm, k.s.trans (eS false).symm, k.p.trans (eS true).symm⟩
    · have q := O.B k hk
      exact ⟨q.h, q.s, q.w, q.a, q.b, q.q⟩
    · have hk2 : k < bnL v + 1 := hk
      have ev : ∀ c, c < 5 → _ := fun c hc => evl k c (by omega) hc
      by_cases e : k = bnL v
      · refine ⟨⟨j, hj, ?_⟩, ?_, ?_, ?_⟩
        · rw [ev 0 (by decide), if_pos e]; rfl
        · rw [ev 1 (by decide), if_pos e]; exact py
        · rw [ev 2 (by decide), if_pos e]; exact pa
        · rw [ev 3 (by decide), if_pos e]; exact pb
      · have q := O.L k (by omega)
        refine ⟨?_, ?_, ?_, ?_⟩
        · rw [ev 0 (by decide), if_neg e]; exact q.h
        · rw [ev 1 (by decide), if_neg e]; exact q.s
        · rw [ev 2 (by decide), if_neg e]; exact q.a
        · rw [ev 3 (by decide), if_neg e]; exact q.b
/-! withdraw -/
theorem jMin_lt (c x : Int32) : jMin c x = if c < x then c else x := by
  rw [jMin]
  by_cases h : x < c
  · rw [if_pos h, if_neg (Int32.not_lt.mpr (Int32.le_of_lt h))]
  · rw [if_neg h]
    by_cases h2 : c < x
    · rw [if_pos h2]
    · rw [if_neg h2]; exact Int32.le_antisymm (Int32.not_lt.mp h) (Int32.not_lt.mp h2)
theorem bA_tk (v : BV) (h : Int32) (hb : bnB v ≤ 24) : ∀ i, i ≤ bnB v → ∀ k c, k < 2 ^ 31 → c < 8 → bA (jTk v h i) k c = if k < i ∧ c = 5 then jMin 90 (bA v k 5 + jCut v h) else bA v k c
  | 0, _, k, c, _, _ => by rw [if_neg (by omega)]; rfl
  | i + 1, hi, k, c, hk, hc => by
    have hn : bnB (jTk v h i) = bnB v := (jTk_n v h i).2.1
    have e := bA_tk v h hb i (by omega)
    have e5 : bC (jTk v h i) (nI i) 5 = bA v i 5 := by
      have := e i 5 (by omega) (by decide)
      rw [if_neg (by omega)] at this; exact this
    rw [jTk, bA_putl _ 5 (n := bnB v) (by rfl) hn hb (by omega) (by decide) hk hc, e k c hk hc, e5]
    by_cases q : k = i ∧ c = 5
    · rw [if_pos q, if_pos (by omega), q.1]
    · rw [if_neg q]
      by_cases q2 : k < i ∧ c = 5
      · rw [if_pos q2, if_pos (by omega)]
      · rw [if_neg q2, if_neg (by omega)]
theorem hA_tk (v : BV) (h : Int32) : ∀ i k c, hA (jTk v h i) k c = hA (jT0 v h) k c
  | 0, _, _ => rfl
  | i + 1, k, c => by rw [jTk, hA_bPut]; exact hA_tk v h i k c
theorem lA_tk (v : BV) (h : Int32) : ∀ i k c, lA (jTk v h i) k c = lA v k c
  | 0, _, _ => rfl
  | i + 1, k, c => lA_tk v h i k c
theorem tk_s (v : BV) (h : Int32) : ∀ i, bvS (jTk v h i) = bvS v ∧ bvP (jTk v h i) = bvP v ∧ bvO (jTk v h i) = bvO v ∧ bvl (jTk v h i) = bvl v
  | 0 => ⟨rfl, rfl, rfl, rfl⟩
  | i + 1 => tk_s v h i
theorem mWd_at (f : Nat → Int32) (x : Int32) (k c : Nat) (hc : c < 8) : ∀ i, mWd f x i (66 + 8 * k + c) = if k < i ∧ c = 5 then mAllV (f (66 + 8 * k + 5) + x) else f (66 + 8 * k + c)
  | 0 => by rw [if_neg (by omega)]; rfl
  | i + 1 => by
    rw [mWd]
    by_cases q : k = i ∧ c = 5
    · obtain ⟨rfl, rfl⟩ := q
      rw [pk_us, mWd_at f x k 5 (by decide) k, if_neg (by omega), if_pos (by omega)]
    · rw [pk_un (by omega), mWd_at f x k c hc i]
      by_cases q2 : k < i ∧ c = 5
      · rw [if_pos q2, if_pos (by omega)]
      · rw [if_neg q2, if_neg (by omega)]
theorem mWd_hi (f : Nat → Int32) (x : Int32) {j : Nat} (hj : 258 ≤ j) : ∀ i, i ≤ 24 → mWd f x i j = f j
  | 0, _ => rfl
  | i + 1, h => by rw [mWd, pk_un (by omega), mWd_hi f x hj i (by omega)]
theorem s_with {x : TV} {hi : HV} {z0 z1 : ZV} {kp tx : Nat → Int32} {ty : Nat} (I : Inv v x hi z0 z1 f kp tx st ty) {h : Int32} (hx : xWith v h = 0) :
    jCut v h = mCut (mSave f st) (vN h) ∧ Inv (jTake v h) x (hSave hi v) z0 z1 (mWd (mW0 (mSave f st) (vN h)) (mCut (mSave f st) (vN h)) (bnB v)) kp tx (mSt st) ty := by
  have O := I.O
  have R := I.R
  have h0 := O.nH
  have hb0 := O.nB
  obtain ⟨hh, -, hse⟩ := xWith_0 hx
  obtain ⟨j, hj, rfl⟩ := tHas_nI (by omega) hh
  rw [vN, nI_clamp (by omega)]
  have Hj := O.H j hj
  have ecut : jCut v (nI j) = mCut (mSave f st) j := by
    rw [jCut, jMin_lt, r_part O R hj, mCut, mCutV, mSave_low f st (by omega), mSave_low f st (by omega)]
  have hcut : ∃ n, n ≤ 75 ∧ jCut v (nI j) = nI n := by
    obtain ⟨a, a1, a2, ea⟩ := Hj.a
    obtain ⟨b, b1, b2, eb⟩ := Hj.b
    have fa : f (6 + j) = nI a := (R.a j (by omega)).trans ea
    have fb : f (16 + j) = nI b := (R.b j (by omega)).trans eb
    rw [jCut, jMin_lt, r_part O R hj, fa, fb, show (100 : Int32) = nI 100 from rfl, pk_mul, nI_add, pk_div (by omega) (by omega) (by omega)]
    split
    · exact ⟨75, Nat.le_refl _, rfl⟩
    · rename_i q
      have hd : 100 * b / (a + b) ≤ 100 * b := Nat.div_le_self _ _
      refine ⟨_, ?_, rfl⟩
      rcases Nat.lt_or_ge 75 (100 * b / (a + b)) with z | z
      · exact absurd (nI_lt (a := 75) z (by omega)) q
      · exact z
  refine ⟨ecut, ?_⟩
  rw [← ecut]
  obtain ⟨n, hn, en⟩ := hcut
  have hT : jTake v (nI j) = jTk v (nI j) (bnB v) := rfl
  have n3 := jTk_n v (nI j) (bnB v)
  have s4 := tk_s v (nI j) (bnB v)
  have evb : ∀ k c, k < 2 ^ 31 → c < 8 → bA (jTake v (nI j)) k c = if k < bnB v ∧ c = 5 then jMin 90 (bA v k 5 + jCut v (nI j)) else bA v k c := fun k c hk hc => bA_tk v (nI j) hb0 (bnB v) (Nat.le_refl _) k c hk hc
  have evh : ∀ r c, r < 2 ^ 31 → c < 9 → hA (jTake v (nI j)) r c = if r = j ∧ c = 3 then jCut v (nI j) else if r = j ∧ c = 2 then 0 else hA v r c := fun r c hr hc => by
    rw [hT, hA_tk, jT0, hA_putl _ 3 (n := bnH v) (by rfl) (by rfl) h0 hj (by decide) hr hc, hA_putl _ 2 (n := bnH v) (by rfl) (by rfl) h0 hj (by decide) hr hc]
  have evo : ∀ r c, r < 2 ^ 31 → c < 9 → (c < 2 ∨ 3 < c) → hA (jTake v (nI j)) r c = hA v r c := fun r c hr hc h2 => by rw [evh r c hr hc, if_neg (by omega), if_neg (by omega)]
  have eW : ∀ i, i < 66 → mWd (mW0 (mSave f st) j) (jCut v (nI j)) (bnB v) i = mW0 (mSave f st) j i := fun i hi => mWd_lo _ _ hi _
  have mcut : mCut (mSave f st) j = jCut v (nI j) := ecut.symm
  refine I.step (fun i hi => by rw [mWd_hi _ _ (by omega) _ hb0, mW0]; (repeat rw [pk_un (by omega)])) ?_ ?_
  · refine Rel.mk ?_ ?_ ?_ ?_ ?_ ?_ (fun i hi => ?_) (fun i hi => ?_) (fun i hi => ?_) (fun i hi => ?_) (fun i hi => ?_) (fun i hi => ?_) (fun k hk u hu => ?_) (fun k hk u hu => ?_) ?_ ?_
    · rw [eW _ (by omega), mW0]; (repeat rw [pk_un (by omega)]); rw [mSave_low f st (by omega), hT, n3.1]; exact R.n0
    · rw [eW _ (by omega), mW0]; (repeat rw [pk_un (by omega)]); rw [mSave_low f st (by omega), hT, n3.2.1]; exact R.n1
    · rw [eW _ (by omega), mW0]; (repeat rw [pk_un (by omega)]); rw [mSave_low f st (by omega), hT, n3.2.2]; exact R.n2
    · rw [eW _ (by omega), mW0]; (repeat rw [pk_un (by omega)]); rw [mSave_low f st (by omega), hT, s4.1]; exact R.se
    · rw [eW _ (by omega), mW0]; (repeat rw [pk_un (by omega)]); rw [mSave_low f st (by omega), hT, s4.2.1]; exact R.pp
    · rw [eW _ (by omega), mW0]; (repeat rw [pk_un (by omega)]); rw [mSave_low f st (by omega), hT, s4.2.2.1]; exact R.oo
    · rw [evo _ _ (by omega) (by decide) (by decide), eW _ (by omega), mW0]; (repeat rw [pk_un (by omega)]); rw [mSave_low f st (by omega)]; exact R.a i hi
    · rw [evo _ _ (by omega) (by decide) (by decide), eW _ (by omega), mW0]; (repeat rw [pk_un (by omega)]); rw [mSave_low f st (by omega)]; exact R.b i hi
    · rw [evh _ _ (by omega) (by decide), eW _ (by omega), mW0, if_neg (by omega)]
      by_cases e : i = j
      · rw [e, pk_un (by omega), pk_us, if_pos ⟨rfl, rfl⟩]
      · rw [if_neg (fun q => e q.1)]; (repeat rw [pk_un (by omega)]); rw [mSave_low f st (by omega)]; exact R.r i hi
    · rw [evh _ _ (by omega) (by decide), eW _ (by omega), mW0]
      by_cases e : i = j
      · rw [e, pk_us, if_pos ⟨rfl, rfl⟩, mcut]
      · rw [if_neg (fun q => e q.1), if_neg (fun q => e q.1)]; (repeat rw [pk_un (by omega)]); rw [mSave_low f st (by omega)]; exact R.c i hi
    · rw [evo _ _ (by omega) (by decide) (by decide), eW _ (by omega), mW0, hT, n3.1]; (repeat rw [pk_un (by omega)]); rw [mSave_low f st (by omega)]; exact R.f i hi
    · rw [evo _ _ (by omega) (by decide) (by decide), eW _ (by omega), mW0, hT, n3.1]; (repeat rw [pk_un (by omega)]); rw [mSave_low f st (by omega)]; exact R.g' i hi
    · have ew : ∀ c, c < 8 → mW0 (mSave f st) j (66 + 8 * k + c) = bA v k c := fun c hc => by
        rw [mW0]; (repeat rw [pk_un (by omega)]); rw [mSave_low f st (by omega)]; exact R.bet k hk c hc
      rw [evb _ _ (by omega) hu, mWd_at _ _ _ _ hu, ew 5 (by decide), ew u hu, mAllV, jMin_lt]
    · rw [hT, lA_tk, mWd_hi _ _ (by omega) _ hb0, mW0]; (repeat rw [pk_un (by omega)]); rw [mSave_low f st (by omega)]; exact R.lay k hk u hu
    · rw [mWd_hi _ _ (by omega) _ hb0, mW0]; (repeat rw [pk_un (by omega)]); rw [mSave_low f st (by omega), R.s1, hT, s4.1, hse, if_neg (by decide), if_neg (by decide)]
    · rw [mWd_hi _ _ (by omega) _ hb0, mW0]; (repeat rw [pk_un (by omega)]); rw [mSave_low f st (by omega), R.s2, hT, s4.1, hse, if_neg (by decide), if_neg (by decide)]
  · refine ⟨by rw [hT, n3.1]; exact h0, by rw [hT, n3.2.1]; exact hb0, by rw [hT, n3.2.2]; exact O.nL, fun i hi => ?_, fun k hk => ?_, fun k hk => ?_, by rw [hT, s4.2.1]; exact O.P, by rw [hT, s4.2.2.1]; exact O.O⟩
    · rw [hT, n3.1] at hi
      have k := O.H i hi
      have eB : vBo (jTake v (nI j)) i (bnB v) = vBo v i (bnB v) := vBo_eq i _ (fun k2 hk2 => by rw [evb _ _ (by omega) (by decide), if_neg (by omega)])
      have eS : ∀ pl, vSt (jTake v (nI j)) i pl (bnB v) = vSt v i pl (bnB v) := fun pl => vSt_eq i pl _ (fun k2 hk2 u hu => by rw [evb _ _ (by omega) (by omega), if_neg (by omega)])
      have enB : bnB (jTake v (nI j)) = bnB v := n3.2.1
      refine ⟨?_, ?_, ?_, ?_, ?_, ?_⟩
      · rw [evo _ _ (by omega) (by decide) (by decide)]; exact k.a
      · rw [evo _ _ (by omega) (by decide) (by decide)]; exact k.b
      · rw [evh _ _ (by omega) (by decide), if_neg (by omega)]
        split
        · exact ⟨0, Nat.le_refl _, by decide, rfl⟩
        · exact k.r
      · rw [evo _ _ (by omega) (by decide) (by decide), enB, eB]; exact k.n
      · rw [evo _ _ (by omega) (by decide) (by decide), enB, eS]; exact k.s
      · rw [evo _ _ (by omega) (by decide) (by decide), enB, eS]; exact k.p
    · rw [hT, n3.2.1] at hk
      have q := O.B k hk
      have ev : ∀ c, c < 8 → c ≠ 5 → bA (jTake v (nI j)) k c = bA v k c := fun c hc h5 => by rw [evb _ _ (by omega) hc, if_neg (by omega)]
      refine ⟨?_, ?_, ?_, ?_, ?_, ?_⟩
      · rw [ev 0 (by decide) (by decide), hT, n3.1]; exact q.h
      · rw [ev 1 (by decide) (by decide)]; exact q.s
      · rw [ev 2 (by decide) (by decide)]; exact q.w
      · rw [ev 3 (by decide) (by decide)]; exact q.a
      · rw [ev 4 (by decide) (by decide)]; exact q.b
      · obtain ⟨m, m1, m2, em⟩ := q.q
        rw [evb _ _ (by omega) (by decide), if_pos ⟨hk, rfl⟩, em, en, nI_add, jMin_lt]
        split
        · exact ⟨90, by decide, Nat.le_refl _, rfl⟩
        · rename_i z
          refine ⟨m + n, Nat.zero_le _, ?_, rfl⟩
          rcases Nat.lt_or_ge 90 (m + n) with y | y
          · exact absurd (nI_lt (a := 90) y (by omega)) z
          · exact y
    · rw [hT, n3.2.2] at hk
      have q := O.L k hk
      have ev : ∀ c, lA (jTake v (nI j)) k c = lA v k c := fun c => lA_tk v (nI j) _ k c
      refine ⟨?_, ?_, ?_, ?_⟩
      · rw [ev, hT, n3.1]; exact q.h
      · rw [ev]; exact q.s
      · rw [ev]; exact q.a
      · rw [ev]; exact q.b
/-! set -/
theorem s_set {x : TV} {hi : HV} {z0 z1 : ZV} {kp tx : Nat → Int32} {ty : Nat} (I : Inv v x hi z0 z1 f kp tx st ty) {k0 y : Int32} (hx : xSet v k0 y = 0) :
    jSetting v k0 = f (4 + vN k0) ∧ Inv (jSetV v k0 y) x (hSave hi v) z0 z1 (upd (mSave f st) (4 + vN k0) y) kp tx (mSt st) ty := by
  have O := I.O
  have R := I.R
  obtain ⟨hk, hy, hse⟩ := xSet_0 hx
  rcases jTwo_or hk with rfl | rfl
  · rw [show vN 0 = 0 from rfl]
    refine ⟨R.pp.symm, ?_⟩
    rw [jSetV, if_pos rfl]
    have hP : y = 4 ∨ y = 5 := by
      rw [jFits, if_pos rfl] at hy
      simpa using hy
    refine I.step (fun i hi => pk_un (by omega)) ?_ ⟨O.nH, O.nB, O.nL, fun i hi => ?_, fun k hk => ?_, fun k hk => ?_, hP, O.O⟩
    · exact Rel.mk ((pk_un (by omega)).trans ((mSave_low f st (by omega)).trans R.n0)) ((pk_un (by omega)).trans ((mSave_low f st (by omega)).trans R.n1)) ((pk_un (by omega)).trans ((mSave_low f st (by omega)).trans R.n2)) ((pk_un (by omega)).trans ((mSave_low f st (by omega)).trans R.se)) pk_us ((pk_un (by omega)).trans ((mSave_low f st (by omega)).trans R.oo)) (fun i hi => (pk_un (by omega)).trans ((mSave_low f st (by omega)).trans (R.a i hi))) (fun i hi => (pk_un (by omega)).trans ((mSave_low f st (by omega)).trans (R.b i hi))) (fun i hi => (pk_un (by omega)).trans ((mSave_low f st (by omega)).trans (R.r i hi))) (fun i hi => (pk_un (by omega)).trans ((mSave_low f st (by omega)).trans (R.c i hi))) (fun i hi => (pk_un (by omega)).trans ((mSave_low f st (by omega)).trans (R.f i hi))) (fun i hi => (pk_un (by omega)).trans ((mSave_low f st (by omega)).trans (R.g' i hi))) (fun k hk w hw => (pk_un (by omega)).trans ((mSave_low f st (by omega)).trans (R.bet k hk w hw))) (fun k hk w hw => (pk_un (by omega)).trans ((mSave_low f st (by omega)).trans (R.lay k hk w hw))) ((pk_un (by omega)).trans ((mSave_low f st (by omega)).trans R.s1)) ((pk_un (by omega)).trans ((mSave_low f st (by omega)).trans R.s2))
    · have q := O.H i hi
      have eB : vBo (bSet v (bvS v) y (bvO v)) i (bnB v) = vBo v i (bnB v) := vBo_eq i _ (fun _ _ => rfl)
      have eS : ∀ pl, vSt (bSet v (bvS v) y (bvO v)) i pl (bnB v) = vSt v i pl (bnB v) := fun pl => vSt_eq i pl _ (fun _ _ _ _ => rfl)
      exact ⟨q.a, q.b, q.r, q.n.trans eB.symm, q.s.trans (eS false).symm, q.p.trans (eS true).symm⟩
    · have q := O.B k hk
      exact ⟨q.h, q.s, q.w, q.a, q.b, q.q⟩
    · have q := O.L k hk
      exact ⟨q.h, q.s, q.a, q.b⟩
  · rw [show vN 1 = 1 from rfl]
    refine ⟨R.oo.symm, ?_⟩
    rw [jSetV, if_neg (by decide)]
    have hO : isN y 0 99999 := by
      rw [jFits, if_neg (by decide)] at hy
      simp only [Bool.and_eq_true, Bool.not_eq_true', decide_eq_false_iff_not] at hy
      obtain ⟨n, hn, e⟩ := nI_of2 (M := 99999) (n := 99999) (by decide) hy.1 (Int32.not_lt.mp hy.2)
      exact ⟨n, Nat.zero_le _, hn, e⟩
    refine I.step (fun i hi => pk_un (by omega)) ?_ ⟨O.nH, O.nB, O.nL, fun i hi => ?_, fun k hk => ?_, fun k hk => ?_, O.P, hO⟩
    · exact Rel.mk ((pk_un (by omega)).trans ((mSave_low f st (by omega)).trans R.n0)) ((pk_un (by omega)).trans ((mSave_low f st (by omega)).trans R.n1)) ((pk_un (by omega)).trans ((mSave_low f st (by omega)).trans R.n2)) ((pk_un (by omega)).trans ((mSave_low f st (by omega)).trans R.se)) ((pk_un (by omega)).trans ((mSave_low f st (by omega)).trans R.pp)) pk_us (fun i hi => (pk_un (by omega)).trans ((mSave_low f st (by omega)).trans (R.a i hi))) (fun i hi => (pk_un (by omega)).trans ((mSave_low f st (by omega)).trans (R.b i hi))) (fun i hi => (pk_un (by omega)).trans ((mSave_low f st (by omega)).trans (R.r i hi))) (fun i hi => (pk_un (by omega)).trans ((mSave_low f st (by omega)).trans (R.c i hi))) (fun i hi => (pk_un (by omega)).trans ((mSave_low f st (by omega)).trans (R.f i hi))) (fun i hi => (pk_un (by omega)).trans ((mSave_low f st (by omega)).trans (R.g' i hi))) (fun k hk w hw => (pk_un (by omega)).trans ((mSave_low f st (by omega)).trans (R.bet k hk w hw))) (fun k hk w hw => (pk_un (by omega)).trans ((mSave_low f st (by omega)).trans (R.lay k hk w hw))) ((pk_un (by omega)).trans ((mSave_low f st (by omega)).trans R.s1)) ((pk_un (by omega)).trans ((mSave_low f st (by omega)).trans R.s2))
    · have q := O.H i hi
      have eB : vBo (bSet v (bvS v) (bvP v) y) i (bnB v) = vBo v i (bnB v) := vBo_eq i _ (fun _ _ => rfl)
      have eS : ∀ pl, vSt (bSet v (bvS v) (bvP v) y) i pl (bnB v) = vSt v i pl (bnB v) := fun pl => vSt_eq i pl _ (fun _ _ _ _ => rfl)
      exact ⟨q.a, q.b, q.r, q.n.trans eB.symm, q.s.trans (eS false).symm, q.p.trans (eS true).symm⟩
    · have q := O.B k hk
      exact ⟨q.h, q.s, q.w, q.a, q.b, q.q⟩
    · have q := O.L k hk
      exact ⟨q.h, q.s, q.a, q.b⟩
end OP2
