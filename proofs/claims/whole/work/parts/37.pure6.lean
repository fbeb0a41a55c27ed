/-! PURE: what each call does to the state, on both sides -/
theorem price_isN {a b : Int32} (h : jPriceOk a b = true) : isN a 1 100 ∧ isN b 1 20 := by
  simp only [jPriceOk, Bool.and_eq_true, Bool.not_eq_true', decide_eq_false_iff_not, decide_eq_true_eq] at h
  obtain ⟨⟨⟨h1, h2⟩, h3⟩, h4⟩ := h
  have p1 : ¬ a < 0 := fun q => h1 (Int32.lt_trans q (by decide))
  have p3 : ¬ b < 0 := fun q => h3 (Int32.lt_trans q (by decide))
  obtain ⟨n, hn, e⟩ := nI_of2 (M := 100) (n := 100) (by decide) p1 (Int32.not_lt.mp h2)
  obtain ⟨m, hm, e2⟩ := nI_of2 (M := 20) (n := 20) (by decide) p3 h4
  subst e; subst e2
  refine ⟨⟨n, ?_, hn, rfl⟩, ⟨m, ?_, hm, rfl⟩⟩
  · rcases Nat.eq_zero_or_pos n with q | q
    · subst q; exact absurd (by decide) h1
    · exact q
  · rcases Nat.eq_zero_or_pos m with q | q
    · subst q; exact absurd (by decide) h3
    · exact q
theorem stake_isN {s : Int32} (h : jStakeOk s = true) : isN s 1 9999 := by
  simp only [jStakeOk, Bool.and_eq_true, Bool.not_eq_true', decide_eq_false_iff_not, decide_eq_true_eq] at h
  have p1 : ¬ s < 0 := fun q => h.1 (Int32.lt_trans q (by decide))
  obtain ⟨n, hn, e⟩ := nI_of2 (M := 9999) (n := 9999) (by decide) p1 h.2
  subst e
  refine ⟨n, ?_, hn, rfl⟩
  rcases Nat.eq_zero_or_pos n with q | q
  · subst q; exact absurd (by decide) h.1
  · exact q
theorem tHas_nI {n : Nat} {h : Int32} (hn : n < 2 ^ 31) (q : tHas (nI n) h = true) : ∃ j, j < n ∧ h = nI j := by
  simp only [tHas, Bool.and_eq_true, Bool.not_eq_true', decide_eq_false_iff_not] at q
  obtain ⟨j, hj, e, -⟩ := pk_mu q.1 q.2 hn
  exact ⟨j, hj, e⟩
theorem vBo_none {v : BV} {h : Nat} : ∀ i, (∀ k, k < i → ¬ bA v k 0 = nI h) → vBo v h i = 0
  | 0, _ => rfl
  | i + 1, e => by rw [vBo, vBo_none i (fun k hk => e k (by omega)), if_neg (e i (Nat.lt_succ_self i))]; rfl
theorem vSt_none {v : BV} {h : Nat} {pl : Bool} : ∀ i, (∀ k, k < i → ¬ bA v k 0 = nI h) → vSt v h pl i = 0
  | 0, _ => rfl
  | i + 1, e => by rw [vSt, vSt_none i (fun k hk => e k (by omega)), if_neg (e i (Nat.lt_succ_self i))]; rfl
theorem hA_putl (v : BV) (c : Nat) {c0 : Int32} {n r r' c' : Nat} {x : Int32} (ec : c0 = nI c) (en : bnH v = n) (hn : n ≤ 10) (hr : r < n) (hc : c < 9) (hr' : r' < 2 ^ 31) (hc' : c' < 9) : hA (hPut v (nI r) c0 x) r' c' = if r' = r ∧ c' = c then x else hA v r' c' := by
  subst ec; subst en; exact hA_put v hn hr hc hr' hc'
theorem bA_putl (v : BV) (c : Nat) {c0 : Int32} {n r r' c' : Nat} {x : Int32} (ec : c0 = nI c) (en : bnB v = n) (hn : n ≤ 24) (hr : r < n) (hc : c < 8) (hr' : r' < 2 ^ 31) (hc' : c' < 8) : bA (bPut v (nI r) c0 x) r' c' = if r' = r ∧ c' = c then x else bA v r' c' := by
  subst ec; subst en; exact bA_put v hn hr hc hr' hc'
theorem lA_putl (v : BV) (c : Nat) {c0 : Int32} {n r r' c' : Nat} {x : Int32} (ec : c0 = nI c) (en : bnL v = n) (hn : n ≤ 6) (hr : r < n) (hc : c < 5) (hr' : r' < 2 ^ 31) (hc' : c' < 5) : lA (lPut v (nI r) c0 x) r' c' = if r' = r ∧ c' = c then x else lA v r' c' := by
  subst ec; subst en; exact lA_put v hn hr hc hr' hc'
theorem bA_hPut (u : BV) (r c x : Int32) (k w : Nat) : bA (hPut u r c x) k w = bA u k w := rfl
theorem xHorse_0 {v : BV} {a b : Int32} (h : xHorse v a b = 0) : jPriceOk a b = true ∧ bvS v = false ∧ tFull 90 9 (nI (bnH v)) = false := by
  rw [xHorse] at h
  generalize jPriceOk a b = b1 at h ⊢; generalize bvS v = b2 at h ⊢; generalize tFull 90 9 (nI (bnH v)) = b3 at h ⊢
  revert b1 b2 b3; decide
theorem xPrice_0 {v : BV} {h a b : Int32} (hx : xPrice v h a b = 0) : tHas (nI (bnH v)) h = true ∧ jPriceOk a b = true ∧ jRuns v h = true ∧ bvS v = false := by
  rw [xPrice] at hx
  generalize jPriceOk a b = b1 at hx ⊢; generalize bvS v = b2 at hx ⊢; generalize tHas (nI (bnH v)) h = b3 at hx ⊢; generalize jRuns v h = b4 at hx ⊢
  revert b1 b2 b3 b4; decide
theorem xTake_0 {v : BV} {h y : Int32} (hx : xTake v h y = 0) : tHas (nI (bnH v)) h = true ∧ jStakeOk y = true ∧ jRuns v h = true ∧ bvS v = false ∧ tFull 192 8 (nI (bnB v)) = false := by
  rw [xTake] at hx
  generalize jStakeOk y = b1 at hx ⊢; generalize bvS v = b2 at hx ⊢; generalize tHas (nI (bnH v)) h = b3 at hx ⊢; generalize jRuns v h = b4 at hx ⊢; generalize tFull 192 8 (nI (bnB v)) = b5 at hx ⊢
  revert b1 b2 b3 b4 b5; decide
theorem xLay_0 {v : BV} {h y a b : Int32} (hx : xLay v h y a b = 0) : tHas (nI (bnH v)) h = true ∧ jStakeOk y = true ∧ jPriceOk a b = true ∧ jRuns v h = true ∧ bvS v = false ∧ tFull 30 5 (nI (bnL v)) = false := by
  rw [xLay] at hx
  generalize jStakeOk y = b1 at hx ⊢; generalize bvS v = b2 at hx ⊢; generalize tHas (nI (bnH v)) h = b3 at hx ⊢; generalize jRuns v h = b4 at hx ⊢; generalize tFull 30 5 (nI (bnL v)) = b5 at hx ⊢; generalize jPriceOk a b = b6 at hx ⊢
  revert b1 b2 b3 b4 b5 b6; decide
theorem xWith_0 {v : BV} {h : Int32} (hx : xWith v h = 0) : tHas (nI (bnH v)) h = true ∧ jRuns v h = true ∧ bvS v = false := by
  rw [xWith] at hx
  generalize bvS v = b2 at hx ⊢; generalize tHas (nI (bnH v)) h = b3 at hx ⊢; generalize jRuns v h = b4 at hx ⊢
  revert b2 b3 b4; decide
theorem xSettle_0 {v : BV} {x : TV} (hx : xSettle v x = 0) : jArr v x = true ∧ bvS v = false := by
  rw [xSettle] at hx
  generalize bvS v = b2 at hx ⊢; generalize jArr v x = b3 at hx ⊢
  revert b2 b3; decide
theorem xSet_0 {v : BV} {k0 y : Int32} (hx : xSet v k0 y = 0) : jTwoOk k0 = true ∧ jFits k0 y = true ∧ bvS v = false := by
  rw [xSet] at hx
  generalize bvS v = b2 at hx ⊢; generalize jTwoOk k0 = b3 at hx ⊢; generalize jFits k0 y = b4 at hx ⊢
  revert b2 b3 b4; decide
section OP
variable {f : Nat → Int32} {v : BV} {st : Nat}
/-! horse -/
theorem hA_addHorse (v : BV) (a b : Int32) (hn : bnH v < 10) {r c : Nat} (hr : r < 2 ^ 31) (hc : c < 9) : hA (jAddHorse v a b) r c = if r = bnH v then (if c = 8 then -1 else if c = 7 then -1 else if c = 2 then 1 else if c = 1 then b else if c = 0 then a else 0) else hA v r c := by
  have hl : bnH v < bnH v + 1 := Nat.lt_succ_self _
  have h10 : bnH v + 1 ≤ 10 := hn
  rw [jAddHorse, hA_putl _ 8 (n := bnH v + 1) (by rfl) (by rfl) h10 hl (by decide) hr hc, hA_putl _ 7 (n := bnH v + 1) (by rfl) (by rfl) h10 hl (by decide) hr hc, hA_putl _ 2 (n := bnH v + 1) (by rfl) (by rfl) h10 hl (by decide) hr hc, hA_putl _ 1 (n := bnH v + 1) (by rfl) (by rfl) h10 hl (by decide) hr hc, hA_putl _ 0 (n := bnH v + 1) (by rfl) (by rfl) h10 hl (by decide) hr hc, hA_new v hn hr hc]
  by_cases q : r = bnH v
  · simp only [q, true_and, if_true]
  · simp only [q, false_and, if_false]
theorem s_horse {x : TV} {hi : HV} {z0 z1 : ZV} {kp tx : Nat → Int32} {ty : Nat} (I : Inv v x hi z0 z1 f kp tx st ty) {a b : Int32} (h : xHorse v a b = 0) :
    Inv (jAddHorse v a b) x (hSave hi v) z0 z1 (upd (upd (upd (upd (mSave f st) (6 + bnH v) a) (16 + bnH v) b) (26 + bnH v) 1) 0 (nI (bnH v + 1))) kp tx (mSt st) ty := by
  have O := I.O
  have R := I.R
  have h0 := O.nH
  obtain ⟨hp, hs, hf⟩ := xHorse_0 h
  have hn : bnH v < 10 := roomH hf h0
  obtain ⟨pa, pb⟩ := price_isN hp
  have nb : ∀ k, k < bnB v → ¬ bA v k 0 = nI (bnH v) := fun k hk q => by
    obtain ⟨j, hj, e⟩ := (O.B k hk).h
    exact absurd (nI_inj (by omega) (by omega) (e.symm.trans q)) (by omega)
  refine I.step (fun j hj => by (repeat rw [pk_un (by omega)])) ?_ ?_
  · refine Rel.mk pk_us ?_ ?_ ?_ ?_ ?_ (fun i hi => ?_) (fun i hi => ?_) (fun i hi => ?_) (fun i hi => ?_) (fun i hi => ?_) (fun i hi => ?_) (fun k hk w hw => ?_) (fun k hk w hw => ?_) ?_ ?_
    · (repeat rw [pk_un (by omega)]); rw [mSave_low f st (by omega)]; exact R.n1
    · (repeat rw [pk_un (by omega)]); rw [mSave_low f st (by omega)]; exact R.n2
    · (repeat rw [pk_un (by omega)]); rw [mSave_low f st (by omega)]; exact R.se
    · (repeat rw [pk_un (by omega)]); rw [mSave_low f st (by omega)]; exact R.pp
    · (repeat rw [pk_un (by omega)]); rw [mSave_low f st (by omega)]; exact R.oo
    · rw [hA_addHorse v a b hn (by omega) (by decide)]
      by_cases e : i = bnH v
      · rw [e, pk_un (by omega), pk_un (by omega), pk_un (by omega), pk_us, if_pos rfl]; rfl
      · rw [if_neg e]; (repeat rw [pk_un (by omega)]); rw [mSave_low f st (by omega)]; exact R.a i hi
    · rw [hA_addHorse v a b hn (by omega) (by decide)]
      by_cases e : i = bnH v
      · rw [e, pk_un (by omega), pk_un (by omega), pk_us, if_pos rfl]; rfl
      · rw [if_neg e]; (repeat rw [pk_un (by omega)]); rw [mSave_low f st (by omega)]; exact R.b i hi
    · rw [hA_addHorse v a b hn (by omega) (by decide)]
      by_cases e : i = bnH v
      · rw [e, pk_un (by omega), pk_us, if_pos rfl]; rfl
      · rw [if_neg e]; (repeat rw [pk_un (by omega)]); rw [mSave_low f st (by omega)]; exact R.r i hi
    · rw [hA_addHorse v a b hn (by omega) (by decide)]
      (repeat rw [pk_un (by omega)]); rw [mSave_low f st (by omega), R.c i hi]
      by_cases e : i = bnH v
      · rw [e, if_pos rfl, hA_out v (Nat.le_refl _) (by omega)]; rfl
      · rw [if_neg e]
    · rw [hA_addHorse v a b hn (by omega) (by decide)]
      (repeat rw [pk_un (by omega)]); rw [mSave_low f st (by omega), R.f i hi]
      show _ = if i < bnH v + 1 then _ else -1
      by_cases e : i = bnH v
      · rw [e, if_neg (by omega), if_pos (by omega), if_pos rfl]; rfl
      · rw [if_neg e]
        by_cases q : i < bnH v
        · rw [if_pos q, if_pos (by omega)]
        · rw [if_neg q, if_neg (by omega)]
    · rw [hA_addHorse v a b hn (by omega) (by decide)]
      (repeat rw [pk_un (by omega)]); rw [mSave_low f st (by omega), R.g' i hi]
      show _ = if i < bnH v + 1 then _ else -1
      by_cases e : i = bnH v
      · rw [e, if_neg (by omega), if_pos (by omega), if_pos rfl]; rfl
      · rw [if_neg e]
        by_cases q : i < bnH v
        · rw [if_pos q, if_pos (by omega)]
        · rw [if_neg q, if_neg (by omega)]
    · (repeat rw [pk_un (by omega)]); rw [mSave_low f st (by omega)]; exact R.bet k hk w hw
    · (repeat rw [pk_un (by omega)]); rw [mSave_low f st (by omega)]; exact R.lay k hk w hw
    · (repeat rw [pk_un (by omega)]); rw [mSave_low f st (by omega)]; exact R.s1
    · (repeat rw [pk_un (by omega)]); rw [mSave_low f st (by omega)]; exact R.s2
  · refine ⟨hn, O.nB, O.nL, fun i hi => ?_, fun k hk => ?_, fun k hk => ?_, O.P, O.O⟩
    · have hi2 : i < bnH v + 1 := hi
      have eB : vBo (jAddHorse v a b) i (bnB v) = vBo v i (bnB v) := vBo_eq i _ (fun _ _ => rfl)
      have eS : ∀ pl, vSt (jAddHorse v a b) i pl (bnB v) = vSt v i pl (bnB v) := fun pl => vSt_eq i pl _ (fun _ _ _ _ => rfl)
      have ev : ∀ c, c < 9 → _ := fun c hc => hA_addHorse v a b hn (r := i) (c := c) (by omega) hc
      by_cases e : i = bnH v
      · refine ⟨?_, ?_, ?_, ?_, ?_, ?_⟩
        · rw [ev 0 (by decide), if_pos e]; exact pa
        · rw [ev 1 (by decide), if_pos e]; exact pb
        · rw [ev 2 (by decide), if_pos e]; exact ⟨1, by decide, by decide, rfl⟩
        · rw [ev 4 (by decide), if_pos e]; show 0 = vBo (jAddHorse v a b) i (bnB v); rw [eB, e, vBo_none _ nb]
        · rw [ev 5 (by decide), if_pos e]; show 0 = vSt (jAddHorse v a b) i false (bnB v); rw [eS, e, vSt_none _ nb]
        · rw [ev 6 (by decide), if_pos e]; show 0 = vSt (jAddHorse v a b) i true (bnB v); rw [eS, e, vSt_none _ nb]
      · have k := O.H i (by omega)
        refine ⟨?_, ?_, ?_, ?_, ?_, ?_⟩
        · rw [ev 0 (by decide), if_neg e]; exact k.a
        · rw [ev 1 (by decide), if_neg e]; exact k.b
        · rw [ev 2 (by decide), if_neg e]; exact k.r
        · rw [ev 4 (by decide), if_neg e]; exact k.n.trans eB.symm
        · rw [ev 5 (by decide), if_neg e]; exact k.s.trans (eS false).symm
        · rw [ev 6 (by decide), if_neg e]; exact k.p.trans (eS true).symm
    · have q := O.B k hk
      obtain ⟨j, hj, e⟩ := q.h
      exact ⟨⟨j, Nat.lt_succ_of_lt hj, e⟩, q.s, q.w, q.a, q.b, q.q⟩
    · have q := O.L k hk
      obtain ⟨j, hj, e⟩ := q.h
      exact ⟨⟨j, Nat.lt_succ_of_lt hj, e⟩, q.s, q.a, q.b⟩
/-! price -/
theorem s_price {x : TV} {hi : HV} {z0 z1 : ZV} {kp tx : Nat → Int32} {ty : Nat} (I : Inv v x hi z0 z1 f kp tx st ty) {h a b : Int32} (hx : xPrice v h a b = 0) :
    Inv (hPut (hPut v h 0 a) h 1 b) x (hSave hi v) z0 z1 (upd (upd (mSave f st) (6 + vN h) a) (16 + vN h) b) kp tx (mSt st) ty ∧ hC (hPut (hPut v h 0 a) h 1 b) h 4 = mBetsOn (upd (upd (mSave f st) (6 + vN h) a) (16 + vN h) b) h (bnB v) := by
  have O := I.O
  have R := I.R
  have h0 := O.nH
  obtain ⟨hh, hp, -, -⟩ := xPrice_0 hx
  obtain ⟨pa, pb⟩ := price_isN hp
  obtain ⟨j, hj, rfl⟩ := tHas_nI (by omega) hh
  rw [vN, nI_clamp (by omega)]
  have ev : ∀ r c, r < 2 ^ 31 → c < 9 → hA (hPut (hPut v (nI j) 0 a) (nI j) 1 b) r c = if r = j ∧ c = 1 then b else if r = j ∧ c = 0 then a else hA v r c := fun r c hr hc => by
    rw [hA_putl _ 1 (n := bnH v) (by rfl) (by rfl) h0 hj (by decide) hr hc, hA_putl _ 0 (n := bnH v) (by rfl) (by rfl) h0 hj (by decide) hr hc]
  have evo : ∀ r c, r < 2 ^ 31 → 2 ≤ c → c < 9 → hA (hPut (hPut v (nI j) 0 a) (nI j) 1 b) r c = hA v r c := fun r c hr h2 hc => by rw [ev r c hr hc, if_neg (by omega), if_neg (by omega)]
  have I2 : Inv (hPut (hPut v (nI j) 0 a) (nI j) 1 b) x (hSave hi v) z0 z1 (upd (upd (mSave f st) (6 + j) a) (16 + j) b) kp tx (mSt st) ty := by
    refine I.step (fun i hi => by (repeat rw [pk_un (by omega)])) ?_ ?_
    · refine Rel.mk ?_ ?_ ?_ ?_ ?_ ?_ (fun i hi => ?_) (fun i hi => ?_) (fun i hi => ?_) (fun i hi => ?_) (fun i hi => ?_) (fun i hi => ?_) (fun k hk w hw => ?_) (fun k hk w hw => ?_) ?_ ?_
      · (repeat rw [pk_un (by omega)]); rw [mSave_low f st (by omega)]; exact R.n0
      · (repeat rw [pk_un (by omega)]); rw [mSave_low f st (by omega)]; exact R.n1
      · (repeat rw [pk_un (by omega)]); rw [mSave_low f st (by omega)]; exact R.n2
      · (repeat rw [pk_un (by omega)]); rw [mSave_low f st (by omega)]; exact R.se
      · (repeat rw [pk_un (by omega)]); rw [mSave_low f st (by omega)]; exact R.pp
      · (repeat rw [pk_un (by omega)]); rw [mSave_low f st (by omega)]; exact R.oo
      · rw [ev _ _ (by omega) (by decide)]
        by_cases e : i = j
        · rw [e, pk_un (by omega), pk_us]; simp
        · rw [if_neg (by omega), if_neg (fun q => e q.1)]; (repeat rw [pk_un (by omega)]); rw [mSave_low f st (by omega)]; exact R.a i hi
      · rw [ev _ _ (by omega) (by decide)]
        by_cases e : i = j
        · rw [e, pk_us]; simp
        · rw [if_neg (fun q => e q.1), if_neg (by omega)]; (repeat rw [pk_un (by omega)]); rw [mSave_low f st (by omega)]; exact R.b i hi
      · rw [evo _ _ (by omega) (by decide) (by decide)]; (repeat rw [pk_un (by omega)]); rw [mSave_low f st (by omega)]; exact R.r i hi
      · rw [evo _ _ (by omega) (by decide) (by decide)]; (repeat rw [pk_un (by omega)]); rw [mSave_low f st (by omega)]; exact R.c i hi
      · rw [evo _ _ (by omega) (by decide) (by decide)]; (repeat rw [pk_un (by omega)]); rw [mSave_low f st (by omega)]; exact R.f i hi
      · rw [evo _ _ (by omega) (by decide) (by decide)]; (repeat rw [pk_un (by omega)]); rw [mSave_low f st (by omega)]; exact R.g' i hi
      · (repeat rw [pk_un (by omega)]); rw [mSave_low f st (by omega)]; exact R.bet k hk w hw
      · (repeat rw [pk_un (by omega)]); rw [mSave_low f st (by omega)]; exact R.lay k hk w hw
      · (repeat rw [pk_un (by omega)]); rw [mSave_low f st (by omega)]; exact R.s1
      · (repeat rw [pk_un (by omega)]); rw [mSave_low f st (by omega)]; exact R.s2
    · refine ⟨h0, O.nB, O.nL, fun i hi => ?_, fun k hk => ?_, fun k hk => ?_, O.P, O.O⟩
      · have hi2 : i < bnH v := hi
        have k := O.H i hi2
        have eB : vBo (hPut (hPut v (nI j) 0 a) (nI j) 1 b) i (bnB v) = vBo v i (bnB v) := vBo_eq i _ (fun _ _ => rfl)
        have eS : ∀ pl, vSt (hPut (hPut v (nI j) 0 a) (nI j) 1 b) i pl (bnB v) = vSt v i pl (bnB v) := fun pl => vSt_eq i pl _ (fun _ _ _ _ => rfl)
        refine ⟨?_, ?_, ?_, ?_, ?_, ?_⟩
        · rw [ev _ _ (by omega) (by decide), if_neg (by omega)]
          split
          · exact pa
          · exact k.a
        · rw [ev _ _ (by omega) (by decide)]
          split
          · exact pb
          · rw [if_neg (by omega)]; exact k.b
        · rw [evo _ _ (by omega) (by decide) (by decide)]; exact k.r
        · rw [evo _ _ (by omega) (by decide) (by decide)]; exact k.n.trans eB.symm
        · rw [evo _ _ (by omega) (by decide) (by decide)]; exact k.s.trans (eS false).symm
        · rw [evo _ _ (by omega) (by decide) (by decide)]; exact k.p.trans (eS true).symm
      · have q := O.B k hk
        exact ⟨q.h, q.s, q.w, q.a, q.b, q.q⟩
      · have q := O.L k hk
        exact ⟨q.h, q.s, q.a, q.b⟩
  refine ⟨I2, ?_⟩
  exact (r_horse I2.O I2.R (h := j) hj 4 (by decide)).symm
/-! take -/
theorem bA_addBet (v : BV) (h y : Int32) (w : Bool) (hn : bnB v < 24) {r c : Nat} (hr : r < 2 ^ 31) (hc : c < 8) : bA (jAddBet v h y w) r c = if r = bnB v then (if c = 7 then -1 else if c = 6 then -1 else if c = 4 then hC v h 1 else if c = 3 then hC v h 0 else if c = 2 then bI w else if c = 1 then y else if c = 0 then h else 0) else bA v r c := by
  have hl : bnB v < bnB v + 1 := Nat.lt_succ_self _
  have h10 : bnB v + 1 ≤ 24 := hn
  unfold jAddBet hRaise
  rw [bA_hPut, bA_hPut, bA_hPut, bA_putl _ 7 (n := bnB v + 1) (by rfl) (by rfl) h10 hl (by decide) hr hc, bA_putl _ 6 (n := bnB v + 1) (by rfl) (by rfl) h10 hl (by decide) hr hc, bA_putl _ 4 (n := bnB v + 1) (by rfl) (by rfl) h10 hl (by decide) hr hc, bA_putl _ 3 (n := bnB v + 1) (by rfl) (by rfl) h10 hl (by decide) hr hc, bA_putl _ 2 (n := bnB v + 1) (by rfl) (by rfl) h10 hl (by decide) hr hc, bA_putl _ 1 (n := bnB v + 1) (by rfl) (by rfl) h10 hl (by decide) hr hc, bA_putl _ 0 (n := bnB v + 1) (by rfl) (by rfl) h10 hl (by decide) hr hc, bA_new v hn hr hc]
  by_cases q : r = bnB v
  · simp only [q, true_and, if_true]
  · simp only [q, false_and, if_false]
theorem hA_raise (u : BV) {n j c : Nat} {c0 x : Int32} (ec : c0 = nI c) (en : bnH u = n) (h0 : n ≤ 10) (hj : j < n) (hc0 : c < 9) {r c' : Nat} (hr : r < 2 ^ 31) (hc : c' < 9) : hA (hRaise u (nI j) c0 x) r c' = if r = j ∧ c' = c then hA u j c + x else hA u r c' := by
  subst ec; subst en
  rw [hRaise, hA_put _ h0 hj hc0 hr hc]
theorem hA_bPut (u : BV) (r c x : Int32) (k w : Nat) : hA (bPut u r c x) k w = hA u k w := rfl
theorem hA_bNew (u : BV) (k w : Nat) : hA (bNew u) k w = hA u k w := rfl
theorem hA_addBet (v : BV) {j : Nat} (y : Int32) (w : Bool) (h0 : bnH v ≤ 10) (hj : j < bnH v) {r c : Nat} (hr : r < 2 ^ 31) (hc : c < 9) : hA (jAddBet v (nI j) y w) r c = if r = j ∧ c = 6 then hA v j 6 + (if w = true then y else 0) else if r = j ∧ c = 5 then hA v j 5 + y else if r = j ∧ c = 4 then hA v j 4 + 1 else hA v r c := by
  unfold jAddBet
  rw [hA_raise _ (n := bnH v) (c := 6) (by rfl) (by rfl) h0 hj (by decide) hr hc, hA_raise _ (n := bnH v) (c := 5) (by rfl) (by rfl) h0 hj (by decide) hr hc, hA_raise _ (n := bnH v) (c := 4) (by rfl) (by rfl) h0 hj (by decide) hr hc, hA_raise _ (n := bnH v) (c := 5) (by rfl) (by rfl) h0 hj (by decide) (by omega) (by decide), hA_raise _ (n := bnH v) (c := 4) (by rfl) (by rfl) h0 hj (by decide) (by omega) (by decide), hA_raise _ (n := bnH v) (c := 4) (by rfl) (by rfl) h0 hj (by decide) (by omega) (by decide), if_neg (by omega : ¬ (j = j ∧ 6 = 5)), if_neg (by omega : ¬ (j = j ∧ 6 = 4)), if_neg (by omega : ¬ (j = j ∧ 5 = 4))]
  simp only [hA_bPut, hA_bNew]
theorem s_take {x : TV} {hi : HV} {z0 z1 : ZV} {kp tx : Nat → Int32} {ty : Nat} (I : Inv v x hi z0 z1 f kp tx st ty) {h y : Int32} {w : Bool} (hx : xTake v h y = 0) :
    Inv (jAddBet v h y w) x (hSave hi v) z0 z1 (mTk (mSave f st) (bnB v) h y (bI w) (f (6 + vN h)) (f (16 + vN h))) kp tx (mSt st) ty := by
  have O := I.O
  have R := I.R
  have h0 := O.nH
  have hb0 := O.nB
  obtain ⟨hh, hy, -, hse, hfu⟩ := xTake_0 hx
  have hn : bnB v < 24 := roomB hfu hb0
  have py := stake_isN hy
  obtain ⟨j, hj, rfl⟩ := tHas_nI (by omega) hh
  rw [vN, nI_clamp (by omega), R.a j (by omega), R.b j (by omega)]
  have Hj := O.H j hj
  have evb : ∀ r c, r < 2 ^ 31 → c < 8 → _ := fun r c hr hc => bA_addBet v (nI j) y w hn (r := r) (c := c) hr hc
  have evh : ∀ r c, r < 2 ^ 31 → c < 9 → _ := fun r c hr hc => hA_addBet v y w h0 hj (r := r) (c := c) hr hc
  have evo : ∀ r c, r < 2 ^ 31 → c < 9 → (c < 4 ∨ 6 < c) → hA (jAddBet v (nI j) y w) r c = hA v r c := fun r c hr hc h2 => by rw [evh r c hr hc, if_neg (by omega), if_neg (by omega), if_neg (by omega)]
  refine I.step (fun i hi => by rw [mTk]; (repeat rw [pk_un (by omega)])) ?_ ?_
  · refine Rel.mk ?_ pk_us ?_ ?_ ?_ ?_ (fun i hi => ?_) (fun i hi => ?_) (fun i hi => ?_) (fun i hi => ?_) (fun i hi => ?_) (fun i hi => ?_) (fun k hk u hu => ?_) (fun k hk u hu => ?_) ?_ ?_
    · rw [mTk]; (repeat rw [pk_un (by omega)]); rw [mSave_low f st (by omega)]; exact R.n0
    · rw [mTk]; (repeat rw [pk_un (by omega)]); rw [mSave_low f st (by omega)]; exact R.n2
    · rw [mTk]; (repeat rw [pk_un (by omega)]); rw [mSave_low f st (by omega)]; exact R.se
    · rw [mTk]; (repeat rw [pk_un (by omega)]); rw [mSave_low f st (by omega)]; exact R.pp
    · rw [mTk]; (repeat rw [pk_un (by omega)]); rw [mSave_low f st (by omega)]; exact R.oo
    · rw [evo _ _ (by omega) (by decide) (by decide), mTk]; (repeat rw [pk_un (by omega)]); rw [mSave_low f st (by omega)]; exact R.a i hi
    · rw [evo _ _ (by omega) (by decide) (by decide), mTk]; (repeat rw [pk_un (by omega)]); rw [mSave_low f st (by omega)]; exact R.b i hi
    · rw [evo _ _ (by omega) (by decide) (by decide), mTk]; (repeat rw [pk_un (by omega)]); rw [mSave_low f st (by omega)]; exact R.r i hi
    · rw [evo _ _ (by omega) (by decide) (by decide), mTk]; (repeat rw [pk_un (by omega)]); rw [mSave_low f st (by omega)]; exact R.c i hi
    · rw [evo _ _ (by omega) (by decide) (by decide), mTk]; (repeat rw [pk_un (by omega)]); rw [mSave_low f st (by omega)]; exact R.f i hi
    · rw [evo _ _ (by omega) (by decide) (by decide), mTk]; (repeat rw [pk_un (by omega)]); rw [mSave_low f st (by omega)]; exact R.g' i hi
    · rw [evb _ _ (by omega) hu, mTk]
      by_cases e : k = bnB v
      · subst e
        rw [if_pos rfl, pk_un (by omega)]
        rcases (show u = 0 ∨ u = 1 ∨ u = 2 ∨ u = 3 ∨ u = 4 ∨ u = 5 ∨ u = 6 ∨ u = 7 by omega) with rfl | rfl | rfl | rfl | rfl | rfl | rfl | rfl
        · (repeat rw [pk_un (by omega)]); exact pk_us
        · (repeat rw [pk_un (by omega)]); exact pk_us
        · (repeat rw [pk_un (by omega)]); exact pk_us
        · (repeat rw [pk_un (by omega)]); exact pk_us
        · (repeat rw [pk_un (by omega)]); exact pk_us
        · (repeat rw [pk_un (by omega)]); exact pk_us
        · (repeat rw [pk_un (by omega)]); exact pk_us
        · exact pk_us
      · rw [if_neg e]; (repeat rw [pk_un (by omega)]); rw [mSave_low f st (by omega)]; exact R.bet k hk u hu
    · rw [mTk]; (repeat rw [pk_un (by omega)]); rw [mSave_low f st (by omega)]; exact R.lay k hk u hu
    · rw [mTk]; (repeat rw [pk_un (by omega)]); rw [mSave_low f st (by omega), R.s1]
      show _ = if bvS v = true then _ else 0
      rw [hse, if_neg (by decide), if_neg (by decide)]
    · rw [mTk]; (repeat rw [pk_un (by omega)]); rw [mSave_low f st (by omega)]; exact R.s2
  · have eB : ∀ i, vBo (jAddBet v (nI j) y w) i (bnB v) = vBo v i (bnB v) := fun i => vBo_eq i _ (fun k hk => by rw [evb _ _ (by omega) (by decide), if_neg (by omega)])
    have eS : ∀ i pl, vSt (jAddBet v (nI j) y w) i pl (bnB v) = vSt v i pl (bnB v) := fun i pl => vSt_eq i pl _ (fun k hk u hu => by rw [evb _ _ (by omega) (by omega), if_neg (by omega)])
    refine ⟨h0, hn, O.nL, fun i hi => ?_, fun k hk => ?_, fun k hk => ?_, O.P, O.O⟩
    · have hi2 : i < bnH v := hi
      have k := O.H i hi2
      have hij : (nI j = nI i) = (i = j) := by
        apply propext
        exact ⟨fun q => (nI_inj (by omega) (by omega) q).symm, fun q => by rw [q]⟩
      refine ⟨?_, ?_, ?_, ?_, ?_, ?_⟩
      · rw [evo _ _ (by omega) (by decide) (by decide)]; exact k.a
      · rw [evo _ _ (by omega) (by decide) (by decide)]; exact k.b
      · rw [evo _ _ (by omega) (by decide) (by decide)]; exact k.r
      · show _ = vBo (jAddBet v (nI j) y w) i (bnB v + 1)
        rw [vBo, eB, evb _ _ (by omega) (by decide), if_pos rfl, evh _ _ (by omega) (by decide), ← k.n]
        by_cases e : i = j
        · subst e; simp
        · simp [e, hij]
      · show _ = vSt (jAddBet v (nI j) y w) i false (bnB v + 1)
        rw [vSt, eS, evb _ _ (by omega) (by decide), evb _ _ (by omega) (by decide), if_pos rfl, if_pos rfl, evh _ _ (by omega) (by decide), ← k.s]
        by_cases e : i = j
        · subst e; simp
        · simp [e, hij]
      · show _ = vSt (jAddBet v (nI j) y w) i true (bnB v + 1)
        rw [vSt, eS, evb _ _ (by omega) (by decide), evb _ _ (by omega) (by decide), evb _ _ (by omega) (by decide), if_pos rfl, if_pos rfl, if_pos rfl, evh _ _ (by omega) (by decide), ← k.p]
        by_cases e : i = j
        · subst e
          cases w <;> simp [bI]
        · simp [e, hij]
    · have hk2 : k < bnB v + 1 := hk
      have ev : ∀ c, c < 8 → _ := fun c hc => evb k c (by omega) hc
      by_cases e : k = bnB v
      · refine ⟨⟨j, hj, ?_⟩, ?_, ?_, ?_, ?_, ?_⟩
        · rw [ev 0 (by decide), if_pos e]; rfl
        · rw [ev 1 (by decide), if_pos e]; exact py
        · rw [ev 2 (by decide), if_pos e]; exact ⟨if w = true then 1 else 0, Nat.zero_le _, by split <;> decide, by cases w <;> rfl⟩
        · rw [ev 3 (by decide), if_pos e]; exact Hj.a
        · rw [ev 4 (by decide), if_pos e]; exact Hj.b
        · rw [ev 5 (by decide), if_pos e]; exact ⟨0, by decide, by decide, rfl⟩
      · have q := O.B k (by omega)
        refine ⟨?_, ?_, ?_, ?_, ?_, ?_⟩
        · rw [ev 0 (by decide), if_neg e]; exact q.h
        · rw [ev 1 (by decide), if_neg e]; exact q.s
        · rw [ev 2 (by decide), if_neg e]; exact q.w
        · rw [ev 3 (by decide), if_neg e]; exact q.a
        · rw [ev 4 (by decide), if_neg e]; exact q.b
        · rw [ev 5 (by decide), if_neg e]; exact q.q
    · have q := O.L k hk
      exact ⟨q.h, q.s, q.a, q.b⟩
end OP
