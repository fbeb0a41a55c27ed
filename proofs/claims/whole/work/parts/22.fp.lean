/-! The public methods that may throw: which exception (by its place in the throws clause, 0: none), the answer, the state behind -/
def eN (k : Nat) (a b c : String) : String := if k = 1 then a else if k = 2 then b else c
def hasH (v : BV) (h : Int32) : Bool := tHas (nI (bnH v)) h
def fullH (v : BV) : Bool := tFull 90 9 (nI (bnH v))
def fullB (v : BV) : Bool := tFull 192 8 (nI (bnB v))
def fullL (v : BV) : Bool := tFull 30 5 (nI (bnL v))
theorem roomH {v : BV} (h : tFull 90 9 (nI (bnH v)) = false) (hn : bnH v ≤ 10) : bnH v < 10 := by
  rcases Nat.lt_or_ge (bnH v) 10 with q | q
  · exact q
  · rw [show bnH v = 10 by omega] at h; exact absurd h (by decide)
theorem roomB {v : BV} (h : tFull 192 8 (nI (bnB v)) = false) (hn : bnB v ≤ 24) : bnB v < 24 := by
  rcases Nat.lt_or_ge (bnB v) 24 with q | q
  · exact q
  · rw [show bnB v = 24 by omega] at h; exact absurd h (by decide)
theorem roomL {v : BV} (h : tFull 30 5 (nI (bnL v)) = false) (hn : bnL v ≤ 6) : bnL v < 6 := by
  rcases Nat.lt_or_ge (bnL v) 6 with q | q
  · exact q
  · rw [show bnL v = 6 by omega] at h; exact absurd h (by decide)
def xHorse (v : BV) (pa pb : Int32) : Nat := if jPriceOk pa pb = false then 1 else if bvS v = true then 2 else if tFull 90 9 (nI (bnH v)) = true then 2 else 0
def xPrice (v : BV) (h pa pb : Int32) : Nat := if tHas (nI (bnH v)) h = false then 1 else if jPriceOk pa pb = false then 2 else if jRuns v h = false then 3 else if bvS v = true then 3 else 0
def xTake (v : BV) (h st : Int32) : Nat := if tHas (nI (bnH v)) h = false then 1 else if jStakeOk st = false then 2 else if jRuns v h = false then 3 else if bvS v = true then 3 else if tFull 192 8 (nI (bnB v)) = true then 3 else 0
def xLay (v : BV) (h st pa pb : Int32) : Nat := if tHas (nI (bnH v)) h = false then 1 else if jStakeOk st = false then 2 else if jPriceOk pa pb = false then 2 else if jRuns v h = false then 3 else if bvS v = true then 3 else if tFull 30 5 (nI (bnL v)) = true then 3 else 0
def xWith (v : BV) (h : Int32) : Nat := if tHas (nI (bnH v)) h = false then 1 else if jRuns v h = false then 2 else if bvS v = true then 2 else 0
def xSettle (v : BV) (x : TV) : Nat := if jArr v x = false then 1 else if bvS v = true then 2 else 0
def xSet (v : BV) (k0 y : Int32) : Nat := if jTwoOk k0 = false then 1 else if jFits k0 y = false then 2 else if bvS v = true then 3 else 0
def jCodeOk (y : Int32) : Bool := !(decide (y < 33)) && decide (y ≤ 126)
def xAppend (x : TV) (y : Int32) : Nat := if jCodeOk y = false then 1 else if 30 ≤ txN x then 2 else 0
def xKeep (k0 : Int32) : Nat := if jTwoOk k0 = false then 1 else 0
def xBack (k0 : Int32) (z0 z1 : ZV) : Nat := if jTwoOk k0 = false then 1 else if (if k0 = 0 then z0.2 else z1.2) = false then 2 else 0
def xUndo (hi : HV) : Nat := if hvZ hi = 0 then 1 else 0
def xHorseOf (v : BV) (h k0 : Int32) : Nat := if tHas (nI (bnH v)) h = false then 1 else if jPropOk k0 9 = false then 2 else 0
def xBet (v : BV) (h k0 : Int32) : Nat := if tHas (nI (bnB v)) h = false then 1 else if jPropOk k0 8 = false then 2 else 0
def xLaid (v : BV) (h k0 : Int32) : Nat := if tHas (nI (bnL v)) h = false then 1 else if jPropOk k0 5 = false then 2 else 0
def xCount (k0 : Int32) : Nat := if jPropOk k0 14 = false then 1 else 0
def xSetting (k0 : Int32) : Nat := if jTwoOk k0 = false then 1 else 0
def xOne (v : BV) (h : Int32) : Nat := if tHas (nI (bnH v)) h = false then 1 else 0
def jSetV (v : BV) (k0 y : Int32) : BV := if k0 = 0 then bSet v (bvS v) y (bvO v) else bSet v (bvS v) (bvP v) y
def jAdd (x : TV) (y : Int32) : TV := if txN x < 30 then (upd (txC x) (txN x) y, txN x + 1) else x
theorem jTwo_or {k0 : Int32} (h : jTwoOk k0 = true) : k0 = 0 ∨ k0 = 1 := by
  simp only [jTwoOk, Bool.and_eq_true, Bool.not_eq_true', decide_eq_false_iff_not, decide_eq_true_eq] at h
  obtain ⟨j, hj, e⟩ := nI_of2 (M := 1) (n := 1) (by decide) h.1 h.2
  rcases (show j = 0 ∨ j = 1 by omega) with rfl | rfl
  · exact Or.inl e
  · exact Or.inr e
theorem prop_nI {k0 : Int32} {n : Nat} (hn : n < 2 ^ 31) (h : jPropOk k0 (nI n) = true) : ∃ j, j < n ∧ k0 = nI j := by
  simp only [jPropOk, Bool.and_eq_true, Bool.not_eq_true', decide_eq_false_iff_not, decide_eq_true_eq] at h
  obtain ⟨j, hj, e, -⟩ := pk_mu h.1 (Int32.not_le.mpr h.2) hn
  exact ⟨j, hj, e⟩
theorem inX6_horse_6 : ∀ w ∈ wsX60, w ∈ wsX6_horse := fun _ h => List.mem_cons_of_mem _ (List.mem_append_left _ (List.mem_append_left _ (List.mem_append_left _ (List.mem_append_left _ (List.mem_append_left _ (List.mem_append_right _ h))))))
theorem inX6_horse_1 : ∀ w ∈ wsX10, w ∈ wsX6_horse := fun _ h => List.mem_cons_of_mem _ (List.mem_append_left _ (List.mem_append_left _ (List.mem_append_left _ (List.mem_append_left _ (List.mem_append_right _ h)))))
theorem inX6_horse_4 : ∀ w ∈ wsX40, w ∈ wsX6_horse := fun _ h => List.mem_cons_of_mem _ (List.mem_append_left _ (List.mem_append_left _ (List.mem_append_left _ (List.mem_append_right _ h))))
theorem inX6_horse_2 : ∀ w ∈ wsX20, w ∈ wsX6_horse := fun _ h => List.mem_cons_of_mem _ (List.mem_append_left _ (List.mem_append_left _ (List.mem_append_right _ h)))
theorem inxX6_horse_115 : ∀ w ∈ (vx_atS RX6 115 eIA kUp).filter goodWord, w ∈ wsX6_horse := fun _ h => List.mem_cons_of_mem _ (List.mem_append_left _ (List.mem_append_right _ h))
theorem inxX6_horse_157 : ∀ w ∈ (vx_atS RX6 157 eIS kUp).filter goodWord, w ∈ wsX6_horse := fun _ h => List.mem_cons_of_mem _ (List.mem_append_right _ h)
theorem kd_X6_horse : yX6_horse.cls = RX6 ∧ yX6_horse.cls ≠ "java/lang/invoke/MethodHandle" ∧ yX6_horse.cls ≠ "java/lang/invoke/VarHandle" ∧ (parseMethodDescriptor yX6_horse.desc).map (fun d => d.parameters.length) = some 2 := by decide +kernel
abbrev rX6_horse : Room := ({ frames := 7, cells := 3, slots := 18, locals := 124 } : Room)
set_option maxRecDepth 100000 in
set_option maxHeartbeats 4000000 in
/-- horse -/
theorem m_X6_horse (l : Launch) (D : va_G) (cI cC cZ cB cJ : ClassId) (ad : Nat → Nat) (N : Nat) (G : Nat → va_E) (v : BV) (w : AV) (x : TV) (hi : HV) (z0 z1 : ZV) (pa pb : Int32) (hl0 : l.stackTraces = false) (hN : 73 ≤ N) (hF : isFB ad cI cB G v w x hi z0 z1) : kXi l yX6_horse wsX6_horse rX6_horse D (kT5 cI cC cZ cB cJ) ad N G [.ref (ad 0), .int pa, .int pb] 3 18 (fun r G' => xHorse v pa pb = 0 ∧ r = nI (bnH v) ∧ ∃ w', isFB ad cI cB G' (jAddHorse v pa pb) w' (x) (hSave hi v) (z0) (z1) ∧ ∀ j, 73 ≤ j → G' j = G j) (fun E G' => E = eN (xHorse v pa pb) eIA eIS eIS ∧ xHorse v pa pb ≠ 0 ∧ ∃ w', isFB ad cI cB G' v w' x hi z0 z1 ∧ ∀ j, 73 ≤ j → G' j = G j) := by
  refine kx_starti (cc := cX6_horse) (ret := (some .int)) (maxL := 3) (lv0 := [(0, .ref (ad 0)), (1, .int pa), (2, .int pb)]) hl0 (by decide) rfl (Nat.le_of_ble_eq_true rfl) rfl ?_
  intro p e s m args below meth c A Q C X hQ
  have hlH := hF.2.1.2.2.2.2.1
  have hlB := hF.2.1.2.2.2.2.2.1
  have hlL := hF.2.1.2.2.2.2.2.2
  have hlX := hF.2.2.2.1.2.2
  have hlN := hF.2.2.2.2.1.2.2.2.1
  have hlZ := hF.2.2.2.2.1.2.2.2.2
  refine k_iload_n C dX6_horse_0 rfl (j := 1) rfl ?_
  refine k_iload_n C dX6_horse_1 rfl (j := 2) rfl ?_
  refine kx_callSv C X hQ (As := [.int pa, .int pb]) (rest := []) (m_X6_requirePrice l D cI cC cZ cB cJ ad N G pa pb hl0) (fun E G' h9 => by obtain ⟨rfl, h8, rfl⟩ := h9; exact ⟨by simp [xHorse, eN, h8], by simp [xHorse, eN, h8], _, ⟨hF.1, hF.2.1, hF.2.2.1, hF.2.2.2.1, hF.2.2.2.2.1, hF.2.2.2.2.2.1, hF.2.2.2.2.2.2⟩, fun _ _ => rfl⟩) gX6_horse_X6_requirePrice rfl kd_X6_requirePrice rfl rfl ⟨(Nat.le_of_ble_eq_true rfl), (Nat.le_of_ble_eq_true rfl)⟩ rfl rfl (Nat.le_of_ble_eq_true rfl) ⟨(Nat.le_of_ble_eq_true rfl), (Nat.le_of_ble_eq_true rfl)⟩ (Nat.le_of_ble_eq_true rfl) (Nat.le_of_ble_eq_true rfl) dX6_horse_2 (fun G1 hG1 => ?_)
  have hq_5 := hG1.1
  have e_G1 := hG1.2
  subst e_G1
  refine k_aload_n C dX6_horse_5 rfl (j := 0) rfl ?_
  refine kx_callVv C X hQ (As := []) (rest := []) 0 (m_X6_requireOpen l D cI cC cZ cB cJ ad N G v w x hi z0 z1 hl0 (by omega) ⟨hF.1, hF.2.1, hF.2.2.1, hF.2.2.2.1, hF.2.2.2.2.1, hF.2.2.2.2.2.1, hF.2.2.2.2.2.2⟩) (fun E G' h9 => by obtain ⟨rfl, h8, rfl⟩ := h9; exact ⟨by simp [xHorse, eN, hq_5, h8], by simp [xHorse, eN, hq_5, h8], _, ⟨hF.1, hF.2.1, hF.2.2.1, hF.2.2.2.1, hF.2.2.2.2.1, hF.2.2.2.2.2.1, hF.2.2.2.2.2.2⟩, fun _ _ => rfl⟩) gX6_horse_X6_requireOpen rfl kd_X6_requireOpen rfl rfl ⟨(Nat.le_of_ble_eq_true rfl), (Nat.le_of_ble_eq_true rfl)⟩ (by omega) hF.1 rfl rfl rfl (Nat.le_of_ble_eq_true rfl) ⟨(Nat.le_of_ble_eq_true rfl), (Nat.le_of_ble_eq_true rfl)⟩ (Nat.le_of_ble_eq_true rfl) (Nat.le_of_ble_eq_true rfl) dX6_horse_6 (fun G2 hG2 => ?_)
  have hq_9 := hG2.1
  have e_G2 := hG2.2
  subst e_G2
  refine k_aload_n C dX6_horse_9 rfl (j := 0) rfl ?_
  refine k_get C 0 inX6_horse_6 (by omega) hF.1 rfl 0 (by decide) (List.mem_of_getElem? (i := 1) rfl) rfl rfl dX6_horse_10 ?_
  refine k_get C 1 inX6_horse_1 (by omega) hF.2.1.1 rfl 0 (by decide) (List.mem_of_getElem? (i := 2) rfl) rfl rfl dX6_horse_13 ?_
  refine kx_callSv C X hQ (As := [.ref (ad (2))]) (rest := []) (m_X6_requireRoom l D cI cC cZ cB cJ ad N G 2 3 9 (nI (bnH v)) 90 (bvh v) hl0 (by omega) (by omega) hF.2.1.2.1.1 hF.2.1.2.1.2 (Nat.le_of_ble_eq_true rfl)) (fun E G' h9 => by obtain ⟨rfl, h8, rfl⟩ := h9; exact ⟨by simp [xHorse, eN, hq_5, hq_9, h8], by simp [xHorse, eN, hq_5, hq_9, h8], _, ⟨hF.1, hF.2.1, hF.2.2.1, hF.2.2.2.1, hF.2.2.2.2.1, hF.2.2.2.2.2.1, hF.2.2.2.2.2.2⟩, fun _ _ => rfl⟩) gX6_horse_X6_requireRoom rfl kd_X6_requireRoom rfl rfl ⟨(Nat.le_of_ble_eq_true rfl), (Nat.le_of_ble_eq_true rfl)⟩ rfl rfl (Nat.le_of_ble_eq_true rfl) ⟨(Nat.le_of_ble_eq_true rfl), (Nat.le_of_ble_eq_true rfl)⟩ (Nat.le_of_ble_eq_true rfl) (Nat.le_of_ble_eq_true rfl) dX6_horse_16 (fun G3 hG3 => ?_)
  have hq_19 := hG3.1
  have e_G3 := hG3.2
  subst e_G3
  refine k_aload_n C dX6_horse_19 rfl (j := 0) rfl ?_
  refine k_get C 0 inX6_horse_6 (by omega) hF.1 rfl 3 (by decide) (List.mem_of_getElem? (i := 3) rfl) rfl rfl dX6_horse_20 ?_
  refine k_aload_n C dX6_horse_23 rfl (j := 0) rfl ?_
  refine k_get C 0 inX6_horse_6 (by omega) hF.1 rfl 0 (by decide) (List.mem_of_getElem? (i := 1) rfl) rfl rfl dX6_horse_24 ?_
  refine k_callVv C (As := [.ref (ad 1)]) (rest := []) 13 (m_X2_save l D cI cC cZ cB cJ ad N G 13 hi 1 v (by omega) hF.2.2.2.2.1 (by omega) hF.2.1 (by omega)) gX6_horse_X2_save rfl kd_X2_save rfl rfl ⟨Nat.le_of_ble_eq_true rfl, Nat.le_of_ble_eq_true rfl⟩ (by omega) hF.2.2.2.2.1.1 rfl rfl rfl (Nat.le_of_ble_eq_true rfl) ⟨(Nat.le_of_ble_eq_true rfl), (Nat.le_of_ble_eq_true rfl)⟩ dX6_horse_27 (fun G4 hG4 => ?_)
  have hb_B_G4 := hF.2.1.keep (fun j h8 h9 => hG4.2 j (by omega))
  have hb_A_G4 := hF.2.2.1.keep (fun j h8 h9 => hG4.2 j (by omega))
  have hb_X_G4 := hF.2.2.2.1.keep (fun j h8 h9 => hG4.2 j (by omega))
  have hb_H_G4 := hG4.1
  have hb_Z0_G4 := hF.2.2.2.2.2.1.keep (fun j h8 h9 => hG4.2 j (by omega))
  have hb_Z1_G4 := hF.2.2.2.2.2.2.keep (fun j h8 h9 => hG4.2 j (by omega))
  have h_0_G4 : G4 0 = .inr (6, [.ref (ad 1), .ref (ad 8), .ref (ad 11), .ref (ad 13), .ref (ad 57), .ref (ad 65)]) := (hG4.2 0 (by omega)).trans hF.1
  refine k_aload_n C dX6_horse_30 rfl (j := 0) rfl ?_
  refine k_get C 0 inX6_horse_6 (by omega) h_0_G4 rfl 0 (by decide) (List.mem_of_getElem? (i := 1) rfl) rfl rfl dX6_horse_31 ?_
  refine k_iload_n C dX6_horse_34 rfl (j := 1) rfl ?_
  refine k_iload_n C dX6_horse_35 rfl (j := 2) rfl ?_
  refine k_callVi C (As := [.int pa, .int pb]) (rest := []) 1 (m_X1_addHorse l D cI cC cZ cB cJ ad N G4 1 v pa pb (by omega) hb_B_G4 (roomH hq_19 hlH)) gX6_horse_X1_addHorse rfl kd_X1_addHorse rfl rfl ⟨Nat.le_of_ble_eq_true rfl, Nat.le_of_ble_eq_true rfl⟩ (by omega) hb_B_G4.1 rfl rfl rfl (Nat.le_of_ble_eq_true rfl) ⟨(Nat.le_of_ble_eq_true rfl), (Nat.le_of_ble_eq_true rfl)⟩ dX6_horse_36 (fun r_36 G5 hG5 => ?_)
  have e_r_36 := hG5.1
  subst e_r_36
  have hb_B_G5 := hG5.2.1
  have hb_A_G5 := hb_A_G4.keep (fun j h8 h9 => hG5.2.2 j (by omega))
  have hb_X_G5 := hb_X_G4.keep (fun j h8 h9 => hG5.2.2 j (by omega))
  have hb_H_G5 := hb_H_G4.keep (fun j h8 h9 => hG5.2.2 j (by omega))
  have hb_Z0_G5 := hb_Z0_G4.keep (fun j h8 h9 => hG5.2.2 j (by omega))
  have hb_Z1_G5 := hb_Z1_G4.keep (fun j h8 h9 => hG5.2.2 j (by omega))
  have h_0_G5 : G5 0 = .inr (6, [.ref (ad 1), .ref (ad 8), .ref (ad 11), .ref (ad 13), .ref (ad 57), .ref (ad 65)]) := (hG5.2.2 0 (by omega)).trans h_0_G4
  exact kx_iret C hQ rfl rfl (Nat.le_of_ble_eq_true rfl) (Nat.le_of_ble_eq_true rfl) dX6_horse_39 ⟨by simp [xHorse, eN, hq_5, hq_9, hq_19], rfl, _, ⟨h_0_G5, hb_B_G5, hb_A_G5, hb_X_G5, hb_H_G5, hb_Z0_G5, hb_Z1_G5⟩, fun j hj => (hG5.2.2 j (by omega) : _).trans (hG4.2 j (by omega))⟩
theorem inX6_price_6 : ∀ w ∈ wsX60, w ∈ wsX6_price := fun _ h => List.mem_cons_of_mem _ (List.mem_append_left _ (List.mem_append_left _ (List.mem_append_left _ (List.mem_append_left _ (List.mem_append_left _ (List.mem_append_left _ (List.mem_append_right _ h)))))))
theorem inX6_price_1 : ∀ w ∈ wsX10, w ∈ wsX6_price := fun _ h => List.mem_cons_of_mem _ (List.mem_append_left _ (List.mem_append_left _ (List.mem_append_left _ (List.mem_append_left _ (List.mem_append_left _ (List.mem_append_right _ h))))))
theorem inX6_price_4 : ∀ w ∈ wsX40, w ∈ wsX6_price := fun _ h => List.mem_cons_of_mem _ (List.mem_append_left _ (List.mem_append_left _ (List.mem_append_left _ (List.mem_append_left _ (List.mem_append_right _ h)))))
theorem inX6_price_2 : ∀ w ∈ wsX20, w ∈ wsX6_price := fun _ h => List.mem_cons_of_mem _ (List.mem_append_left _ (List.mem_append_left _ (List.mem_append_left _ (List.mem_append_right _ h))))
theorem inxX6_price_261 : ∀ w ∈ (vx_atS RX6 261 eIX kUp).filter goodWord, w ∈ wsX6_price := fun _ h => List.mem_cons_of_mem _ (List.mem_append_left _ (List.mem_append_left _ (List.mem_append_right _ h)))
theorem inxX6_price_115 : ∀ w ∈ (vx_atS RX6 115 eIA kUp).filter goodWord, w ∈ wsX6_price := fun _ h => List.mem_cons_of_mem _ (List.mem_append_left _ (List.mem_append_right _ h))
theorem inxX6_price_157 : ∀ w ∈ (vx_atS RX6 157 eIS kUp).filter goodWord, w ∈ wsX6_price := fun _ h => List.mem_cons_of_mem _ (List.mem_append_right _ h)
theorem kd_X6_price : yX6_price.cls = RX6 ∧ yX6_price.cls ≠ "java/lang/invoke/MethodHandle" ∧ yX6_price.cls ≠ "java/lang/invoke/VarHandle" ∧ (parseMethodDescriptor yX6_price.desc).map (fun d => d.parameters.length) = some 3 := by decide +kernel
abbrev rX6_price : Room := ({ frames := 8, cells := 4, slots := 24, locals := 134 } : Room)
set_option maxRecDepth 100000 in
set_option maxHeartbeats 4000000 in
/-- price -/
theorem m_X6_price (l : Launch) (D : va_G) (cI cC cZ cB cJ : ClassId) (ad : Nat → Nat) (N : Nat) (G : Nat → va_E) (v : BV) (w : AV) (x : TV) (hi : HV) (z0 z1 : ZV) (h pa pb : Int32) (hl0 : l.stackTraces = false) (hN : 73 ≤ N) (hF : isFB ad cI cB G v w x hi z0 z1) : kXi l yX6_price wsX6_price rX6_price D (kT5 cI cC cZ cB cJ) ad N G [.ref (ad 0), .int h, .int pa, .int pb] 4 24 (fun r G' => xPrice v h pa pb = 0 ∧ r = hC (hPut (hPut v h 0 pa) h 1 pb) h 4 ∧ ∃ w', isFB ad cI cB G' (hPut (hPut v h 0 pa) h 1 pb) w' (x) (hSave hi v) (z0) (z1) ∧ ∀ j, 73 ≤ j → G' j = G j) (fun E G' => E = eN (xPrice v h pa pb) eIX eIA eIS ∧ xPrice v h pa pb ≠ 0 ∧ ∃ w', isFB ad cI cB G' v w' x hi z0 z1 ∧ ∀ j, 73 ≤ j → G' j = G j) := by
  refine kx_starti (cc := cX6_price) (ret := (some .int)) (maxL := 4) (lv0 := [(0, .ref (ad 0)), (1, .int h), (2, .int pa), (3, .int pb)]) hl0 (by decide) rfl (Nat.le_of_ble_eq_true rfl) rfl ?_
  intro p e s m args below meth c A Q C X hQ
  have hlH := hF.2.1.2.2.2.2.1
  have hlB := hF.2.1.2.2.2.2.2.1
  have hlL := hF.2.1.2.2.2.2.2.2
  have hlX := hF.2.2.2.1.2.2
  have hlN := hF.2.2.2.2.1.2.2.2.1
  have hlZ := hF.2.2.2.2.1.2.2.2.2
  refine k_aload_n C dX6_price_0 rfl (j := 0) rfl ?_
  refine k_iload_n C dX6_price_1 rfl (j := 1) rfl ?_
  refine kx_callVv C X hQ (As := [.int h]) (rest := []) 0 (m_X6_requireHorse l D cI cC cZ cB cJ ad N G v w x hi z0 z1 h hl0 (by omega) ⟨hF.1, hF.2.1, hF.2.2.1, hF.2.2.2.1, hF.2.2.2.2.1, hF.2.2.2.2.2.1, hF.2.2.2.2.2.2⟩) (fun E G' h9 => by obtain ⟨rfl, h8, rfl⟩ := h9; exact ⟨by simp [xPrice, eN, h8], by simp [xPrice, eN, h8], _, ⟨hF.1, hF.2.1, hF.2.2.1, hF.2.2.2.1, hF.2.2.2.2.1, hF.2.2.2.2.2.1, hF.2.2.2.2.2.2⟩, fun _ _ => rfl⟩) gX6_price_X6_requireHorse rfl kd_X6_requireHorse rfl rfl ⟨(Nat.le_of_ble_eq_true rfl), (Nat.le_of_ble_eq_true rfl)⟩ (by omega) hF.1 rfl rfl rfl (Nat.le_of_ble_eq_true rfl) ⟨(Nat.le_of_ble_eq_true rfl), (Nat.le_of_ble_eq_true rfl)⟩ (Nat.le_of_ble_eq_true rfl) (Nat.le_of_ble_eq_true rfl) dX6_price_2 (fun G1 hG1 => ?_)
  have hq_5 := hG1.1
  have e_G1 := hG1.2
  subst e_G1
  refine k_iload_n C dX6_price_5 rfl (j := 2) rfl ?_
  refine k_iload_n C dX6_price_6 rfl (j := 3) rfl ?_
  refine kx_callSv C X hQ (As := [.int pa, .int pb]) (rest := []) (m_X6_requirePrice l D cI cC cZ cB cJ ad N G pa pb hl0) (fun E G' h9 => by obtain ⟨rfl, h8, rfl⟩ := h9; exact ⟨by simp [xPrice, eN, hq_5, h8], by simp [xPrice, eN, hq_5, h8], _, ⟨hF.1, hF.2.1, hF.2.2.1, hF.2.2.2.1, hF.2.2.2.2.1, hF.2.2.2.2.2.1, hF.2.2.2.2.2.2⟩, fun _ _ => rfl⟩) gX6_price_X6_requirePrice rfl kd_X6_requirePrice rfl rfl ⟨(Nat.le_of_ble_eq_true rfl), (Nat.le_of_ble_eq_true rfl)⟩ rfl rfl (Nat.le_of_ble_eq_true rfl) ⟨(Nat.le_of_ble_eq_true rfl), (Nat.le_of_ble_eq_true rfl)⟩ (Nat.le_of_ble_eq_true rfl) (Nat.le_of_ble_eq_true rfl) dX6_price_7 (fun G2 hG2 => ?_)
  have hq_10 := hG2.1
  have e_G2 := hG2.2
  subst e_G2
  refine k_aload_n C dX6_price_10 rfl (j := 0) rfl ?_
  refine k_iload_n C dX6_price_11 rfl (j := 1) rfl ?_
  refine kx_callVv C X hQ (As := [.int h]) (rest := []) 0 (m_X6_requireRunning l D cI cC cZ cB cJ ad N G v w x hi z0 z1 h hl0 (by omega) ⟨hF.1, hF.2.1, hF.2.2.1, hF.2.2.2.1, hF.2.2.2.2.1, hF.2.2.2.2.2.1, hF.2.2.2.2.2.2⟩) (fun E G' h9 => by obtain ⟨rfl, h8, rfl⟩ := h9; exact ⟨by simp [xPrice, eN, hq_5, hq_10, h8], by simp [xPrice, eN, hq_5, hq_10, h8], _, ⟨hF.1, hF.2.1, hF.2.2.1, hF.2.2.2.1, hF.2.2.2.2.1, hF.2.2.2.2.2.1, hF.2.2.2.2.2.2⟩, fun _ _ => rfl⟩) gX6_price_X6_requireRunning rfl kd_X6_requireRunning rfl rfl ⟨(Nat.le_of_ble_eq_true rfl), (Nat.le_of_ble_eq_true rfl)⟩ (by omega) hF.1 rfl rfl rfl (Nat.le_of_ble_eq_true rfl) ⟨(Nat.le_of_ble_eq_true rfl), (Nat.le_of_ble_eq_true rfl)⟩ (Nat.le_of_ble_eq_true rfl) (Nat.le_of_ble_eq_true rfl) dX6_price_12 (fun G3 hG3 => ?_)
  have hq_15 := hG3.1
  have e_G3 := hG3.2
  subst e_G3
  refine k_aload_n C dX6_price_15 rfl (j := 0) rfl ?_
  refine kx_callVv C X hQ (As := []) (rest := []) 0 (m_X6_requireOpen l D cI cC cZ cB cJ ad N G v w x hi z0 z1 hl0 (by omega) ⟨hF.1, hF.2.1, hF.2.2.1, hF.2.2.2.1, hF.2.2.2.2.1, hF.2.2.2.2.2.1, hF.2.2.2.2.2.2⟩) (fun E G' h9 => by obtain ⟨rfl, h8, rfl⟩ := h9; exact ⟨by simp [xPrice, eN, hq_5, hq_10, hq_15, h8], by simp [xPrice, eN, hq_5, hq_10, hq_15, h8], _, ⟨hF.1, hF.2.1, hF.2.2.1, hF.2.2.2.1, hF.2.2.2.2.1, hF.2.2.2.2.2.1, hF.2.2.2.2.2.2⟩, fun _ _ => rfl⟩) gX6_price_X6_requireOpen rfl kd_X6_requireOpen rfl rfl ⟨(Nat.le_of_ble_eq_true rfl), (Nat.le_of_ble_eq_true rfl)⟩ (by omega) hF.1 rfl rfl rfl (Nat.le_of_ble_eq_true rfl) ⟨(Nat.le_of_ble_eq_true rfl), (Nat.le_of_ble_eq_true rfl)⟩ (Nat.le_of_ble_eq_true rfl) (Nat.le_of_ble_eq_true rfl) dX6_price_16 (fun G4 hG4 => ?_)
  have hq_19 := hG4.1
  have e_G4 := hG4.2
  subst e_G4
  refine k_aload_n C dX6_price_19 rfl (j := 0) rfl ?_
  refine k_get C 0 inX6_price_6 (by omega) hF.1 rfl 3 (by decide) (List.mem_of_getElem? (i := 1) rfl) rfl rfl dX6_price_20 ?_
  refine k_aload_n C dX6_price_23 rfl (j := 0) rfl ?_
  refine k_get C 0 inX6_price_6 (by omega) hF.1 rfl 0 (by decide) (List.mem_of_getElem? (i := 2) rfl) rfl rfl dX6_price_24 ?_
  refine k_callVv C (As := [.ref (ad 1)]) (rest := []) 13 (m_X2_save l D cI cC cZ cB cJ ad N G 13 hi 1 v (by omega) hF.2.2.2.2.1 (by omega) hF.2.1 (by omega)) gX6_price_X2_save rfl kd_X2_save rfl rfl ⟨Nat.le_of_ble_eq_true rfl, Nat.le_of_ble_eq_true rfl⟩ (by omega) hF.2.2.2.2.1.1 rfl rfl rfl (Nat.le_of_ble_eq_true rfl) ⟨(Nat.le_of_ble_eq_true rfl), (Nat.le_of_ble_eq_true rfl)⟩ dX6_price_27 (fun G5 hG5 => ?_)
  have hb_B_G5 := hF.2.1.keep (fun j h8 h9 => hG5.2 j (by omega))
  have hb_A_G5 := hF.2.2.1.keep (fun j h8 h9 => hG5.2 j (by omega))
  have hb_X_G5 := hF.2.2.2.1.keep (fun j h8 h9 => hG5.2 j (by omega))
  have hb_H_G5 := hG5.1
  have hb_Z0_G5 := hF.2.2.2.2.2.1.keep (fun j h8 h9 => hG5.2 j (by omega))
  have hb_Z1_G5 := hF.2.2.2.2.2.2.keep (fun j h8 h9 => hG5.2 j (by omega))
  have h_0_G5 : G5 0 = .inr (6, [.ref (ad 1), .ref (ad 8), .ref (ad 11), .ref (ad 13), .ref (ad 57), .ref (ad 65)]) := (hG5.2 0 (by omega)).trans hF.1
  refine k_aload_n C dX6_price_30 rfl (j := 0) rfl ?_
  refine k_get C 0 inX6_price_6 (by omega) h_0_G5 rfl 0 (by decide) (List.mem_of_getElem? (i := 2) rfl) rfl rfl dX6_price_31 ?_
  refine k_get C 1 inX6_price_1 (by omega) hb_B_G5.1 rfl 0 (by decide) (List.mem_of_getElem? (i := 3) rfl) rfl rfl dX6_price_34 ?_
  refine k_iload_n C dX6_price_37 rfl (j := 1) rfl ?_
  refine k_iconst C (v := 0) dX6_price_38 (by decide) ?_
  refine k_iload_n C dX6_price_39 rfl (j := 2) rfl ?_
  refine k_callVv C (As := [.int h, .int 0, .int pa]) (rest := []) 2 (m_X4_put l D cI cC cZ cB cJ ad N G5 2 3 9 (nI (bnH v)) 90 (bvh v) h 0 pa (by omega) (by omega) hb_B_G5.2.1.1 hb_B_G5.2.1.2 (Nat.le_of_ble_eq_true rfl)) gX6_price_X4_put rfl kd_X4_put rfl rfl ⟨Nat.le_of_ble_eq_true rfl, Nat.le_of_ble_eq_true rfl⟩ (by omega) hb_B_G5.2.1.1 rfl rfl rfl (Nat.le_of_ble_eq_true rfl) ⟨(Nat.le_of_ble_eq_true rfl), (Nat.le_of_ble_eq_true rfl)⟩ dX6_price_40 (fun G6 hG6 => ?_)
  have hb_B_G6 := (hb_B_G5.h ((hG6.2 2 (by omega)).trans hb_B_G5.2.1.1) hG6.1 hb_B_G5.2.2.2.2.1 (fun j h8 h9 => hG6.2 j h9) : isBk ad cI G6 1 (hPut v h 0 pa))
  have hb_A_G6 := hb_A_G5.keep (fun j h8 h9 => (fun j (hj9 : j < 1 ∨ 1 + 7 ≤ j) => hG6.2 j (by omega)) j (by omega))
  have hb_X_G6 := hb_X_G5.keep (fun j h8 h9 => (fun j (hj9 : j < 1 ∨ 1 + 7 ≤ j) => hG6.2 j (by omega)) j (by omega))
  have hb_H_G6 := hb_H_G5.keep (fun j h8 h9 => (fun j (hj9 : j < 1 ∨ 1 + 7 ≤ j) => hG6.2 j (by omega)) j (by omega))
  have hb_Z0_G6 := hb_Z0_G5.keep (fun j h8 h9 => (fun j (hj9 : j < 1 ∨ 1 + 7 ≤ j) => hG6.2 j (by omega)) j (by omega))
  have hb_Z1_G6 := hb_Z1_G5.keep (fun j h8 h9 => (fun j (hj9 : j < 1 ∨ 1 + 7 ≤ j) => hG6.2 j (by omega)) j (by omega))
  have h_0_G6 : G6 0 = .inr (6, [.ref (ad 1), .ref (ad 8), .ref (ad 11), .ref (ad 13), .ref (ad 57), .ref (ad 65)]) := ((fun j (hj9 : j < 1 ∨ 1 + 7 ≤ j) => hG6.2 j (by omega)) 0 (by omega)).trans h_0_G5
  refine k_aload_n C dX6_price_43 rfl (j := 0) rfl ?_
  refine k_get C 0 inX6_price_6 (by omega) h_0_G6 rfl 0 (by decide) (List.mem_of_getElem? (i := 2) rfl) rfl rfl dX6_price_44 ?_
  refine k_get C 1 inX6_price_1 (by omega) hb_B_G6.1 rfl 0 (by decide) (List.mem_of_getElem? (i := 3) rfl) rfl rfl dX6_price_47 ?_
  refine k_iload_n C dX6_price_50 rfl (j := 1) rfl ?_
  refine k_iconst C (v := 1) dX6_price_51 (by decide) ?_
  refine k_iload_n C dX6_price_52 rfl (j := 3) rfl ?_
  refine k_callVv C (As := [.int h, .int 1, .int pb]) (rest := []) 2 (m_X4_put l D cI cC cZ cB cJ ad N G6 2 3 9 (nI (bnH (hPut v h 0 pa))) 90 (bvh (hPut v h 0 pa)) h 1 pb (by omega) (by omega) hb_B_G6.2.1.1 hb_B_G6.2.1.2 (Nat.le_of_ble_eq_true rfl)) gX6_price_X4_put rfl kd_X4_put rfl rfl ⟨Nat.le_of_ble_eq_true rfl, Nat.le_of_ble_eq_true rfl⟩ (by omega) hb_B_G6.2.1.1 rfl rfl rfl (Nat.le_of_ble_eq_true rfl) ⟨(Nat.le_of_ble_eq_true rfl), (Nat.le_of_ble_eq_true rfl)⟩ dX6_price_53 (fun G7 hG7 => ?_)
  have hb_B_G7 := (hb_B_G6.h ((hG7.2 2 (by omega)).trans hb_B_G6.2.1.1) hG7.1 hb_B_G6.2.2.2.2.1 (fun j h8 h9 => hG7.2 j h9) : isBk ad cI G7 1 (hPut (hPut v h 0 pa) h 1 pb))
  have hb_A_G7 := hb_A_G6.keep (fun j h8 h9 => (fun j (hj9 : j < 1 ∨ 1 + 7 ≤ j) => hG7.2 j (by omega)) j (by omega))
  have hb_X_G7 := hb_X_G6.keep (fun j h8 h9 => (fun j (hj9 : j < 1 ∨ 1 + 7 ≤ j) => hG7.2 j (by omega)) j (by omega))
  have hb_H_G7 := hb_H_G6.keep (fun j h8 h9 => (fun j (hj9 : j < 1 ∨ 1 + 7 ≤ j) => hG7.2 j (by omega)) j (by omega))
  have hb_Z0_G7 := hb_Z0_G6.keep (fun j h8 h9 => (fun j (hj9 : j < 1 ∨ 1 + 7 ≤ j) => hG7.2 j (by omega)) j (by omega))
  have hb_Z1_G7 := hb_Z1_G6.keep (fun j h8 h9 => (fun j (hj9 : j < 1 ∨ 1 + 7 ≤ j) => hG7.2 j (by omega)) j (by omega))
  have h_0_G7 : G7 0 = .inr (6, [.ref (ad 1), .ref (ad 8), .ref (ad 11), .ref (ad 13), .ref (ad 57), .ref (ad 65)]) := ((fun j (hj9 : j < 1 ∨ 1 + 7 ≤ j) => hG7.2 j (by omega)) 0 (by omega)).trans h_0_G6
  refine k_aload_n C dX6_price_56 rfl (j := 0) rfl ?_
  refine k_get C 0 inX6_price_6 (by omega) h_0_G7 rfl 0 (by decide) (List.mem_of_getElem? (i := 2) rfl) rfl rfl dX6_price_57 ?_
  refine k_get C 1 inX6_price_1 (by omega) hb_B_G7.1 rfl 0 (by decide) (List.mem_of_getElem? (i := 3) rfl) rfl rfl dX6_price_60 ?_
  refine k_iload_n C dX6_price_63 rfl (j := 1) rfl ?_
  refine k_iconst C (v := 4) dX6_price_64 (by decide) ?_
  refine k_callVir C (As := [.int h, .int 4]) (rest := []) 2 (m_X4_cell l D cI cC cZ cB cJ ad N G7 2 3 9 (nI (bnH (hPut (hPut v h 0 pa) h 1 pb))) 90 (bvh (hPut (hPut v h 0 pa) h 1 pb)) h 4 (by omega) (by omega) hb_B_G7.2.1.1 hb_B_G7.2.1.2 (Nat.le_of_ble_eq_true rfl)) gX6_price_X4_cell rfl kd_X4_cell rfl rfl ⟨Nat.le_of_ble_eq_true rfl, Nat.le_of_ble_eq_true rfl⟩ (by omega) hb_B_G7.2.1.1 rfl rfl rfl (Nat.le_of_ble_eq_true rfl) ⟨(Nat.le_of_ble_eq_true rfl), (Nat.le_of_ble_eq_true rfl)⟩ dX6_price_65 ?_
  exact kx_iret C hQ rfl rfl (Nat.le_of_ble_eq_true rfl) (Nat.le_of_ble_eq_true rfl) dX6_price_68 ⟨by simp [xPrice, eN, hq_5, hq_10, hq_15, hq_19], rfl, _, ⟨h_0_G7, hb_B_G7, hb_A_G7, hb_X_G7, hb_H_G7, hb_Z0_G7, hb_Z1_G7⟩, fun j hj => ((fun j (hj9 : j < 1 ∨ 1 + 7 ≤ j) => hG7.2 j (by omega)) j (by omega) : _).trans (((fun j (hj9 : j < 1 ∨ 1 + 7 ≤ j) => hG6.2 j (by omega)) j (by omega) : _).trans (hG5.2 j (by omega)))⟩
theorem inX6_take_6 : ∀ w ∈ wsX60, w ∈ wsX6_take := fun _ h => List.mem_cons_of_mem _ (List.mem_append_left _ (List.mem_append_left _ (List.mem_append_left _ (List.mem_append_left _ (List.mem_append_left _ (List.mem_append_left _ (List.mem_append_right _ h)))))))
theorem inX6_take_1 : ∀ w ∈ wsX10, w ∈ wsX6_take := fun _ h => List.mem_cons_of_mem _ (List.mem_append_left _ (List.mem_append_left _ (List.mem_append_left _ (List.mem_append_left _ (List.mem_append_left _ (List.mem_append_right _ h))))))
theorem inX6_take_4 : ∀ w ∈ wsX40, w ∈ wsX6_take := fun _ h => List.mem_cons_of_mem _ (List.mem_append_left _ (List.mem_append_left _ (List.mem_append_left _ (List.mem_append_left _ (List.mem_append_right _ h)))))
theorem inX6_take_2 : ∀ w ∈ wsX20, w ∈ wsX6_take := fun _ h => List.mem_cons_of_mem _ (List.mem_append_left _ (List.mem_append_left _ (List.mem_append_left _ (List.mem_append_right _ h))))
theorem inxX6_take_261 : ∀ w ∈ (vx_atS RX6 261 eIX kUp).filter goodWord, w ∈ wsX6_take := fun _ h => List.mem_cons_of_mem _ (List.mem_append_left _ (List.mem_append_left _ (List.mem_append_right _ h)))
theorem inxX6_take_115 : ∀ w ∈ (vx_atS RX6 115 eIA kUp).filter goodWord, w ∈ wsX6_take := fun _ h => List.mem_cons_of_mem _ (List.mem_append_left _ (List.mem_append_right _ h))
theorem inxX6_take_157 : ∀ w ∈ (vx_atS RX6 157 eIS kUp).filter goodWord, w ∈ wsX6_take := fun _ h => List.mem_cons_of_mem _ (List.mem_append_right _ h)
theorem kd_X6_take : yX6_take.cls = RX6 ∧ yX6_take.cls ≠ "java/lang/invoke/MethodHandle" ∧ yX6_take.cls ≠ "java/lang/invoke/VarHandle" ∧ (parseMethodDescriptor yX6_take.desc).map (fun d => d.parameters.length) = some 3 := by decide +kernel
abbrev rX6_take : Room := ({ frames := 8, cells := 5, slots := 30, locals := 134 } : Room)
set_option maxRecDepth 100000 in
set_option maxHeartbeats 4000000 in
/-- take -/
theorem m_X6_take (l : Launch) (D : va_G) (cI cC cZ cB cJ : ClassId) (ad : Nat → Nat) (N : Nat) (G : Nat → va_E) (v : BV) (w : AV) (x : TV) (hi : HV) (z0 z1 : ZV) (h st : Int32) (wy : Bool) (hl0 : l.stackTraces = false) (hN : 73 ≤ N) (hF : isFB ad cI cB G v w x hi z0 z1) : kXi l yX6_take wsX6_take rX6_take D (kT5 cI cC cZ cB cJ) ad N G [.ref (ad 0), .int h, .int st, .int (bI wy)] 5 30 (fun r G' => xTake v h st = 0 ∧ r = nI (bnB v) ∧ ∃ w', isFB ad cI cB G' (jAddBet v h st wy) w' (x) (hSave hi v) (z0) (z1) ∧ ∀ j, 73 ≤ j → G' j = G j) (fun E G' => E = eN (xTake v h st) eIX eIA eIS ∧ xTake v h st ≠ 0 ∧ ∃ w', isFB ad cI cB G' v w' x hi z0 z1 ∧ ∀ j, 73 ≤ j → G' j = G j) := by
  refine kx_starti (cc := cX6_take) (ret := (some .int)) (maxL := 4) (lv0 := [(0, .ref (ad 0)), (1, .int h), (2, .int st), (3, .int (bI wy))]) hl0 (by decide) rfl (Nat.le_of_ble_eq_true rfl) rfl ?_
  intro p e s m args below meth c A Q C X hQ
  have hlH := hF.2.1.2.2.2.2.1
  have hlB := hF.2.1.2.2.2.2.2.1
  have hlL := hF.2.1.2.2.2.2.2.2
  have hlX := hF.2.2.2.1.2.2
  have hlN := hF.2.2.2.2.1.2.2.2.1
  have hlZ := hF.2.2.2.2.1.2.2.2.2
  refine k_aload_n C dX6_take_0 rfl (j := 0) rfl ?_
  refine k_iload_n C dX6_take_1 rfl (j := 1) rfl ?_
  refine kx_callVv C X hQ (As := [.int h]) (rest := []) 0 (m_X6_requireHorse l D cI cC cZ cB cJ ad N G v w x hi z0 z1 h hl0 (by omega) ⟨hF.1, hF.2.1, hF.2.2.1, hF.2.2.2.1, hF.2.2.2.2.1, hF.2.2.2.2.2.1, hF.2.2.2.2.2.2⟩) (fun E G' h9 => by obtain ⟨rfl, h8, rfl⟩ := h9; exact ⟨by simp [xTake, eN, h8], by simp [xTake, eN, h8], _, ⟨hF.1, hF.2.1, hF.2.2.1, hF.2.2.2.1, hF.2.2.2.2.1, hF.2.2.2.2.2.1, hF.2.2.2.2.2.2⟩, fun _ _ => rfl⟩) gX6_take_X6_requireHorse rfl kd_X6_requireHorse rfl rfl ⟨(Nat.le_of_ble_eq_true rfl), (Nat.le_of_ble_eq_true rfl)⟩ (by omega) hF.1 rfl rfl rfl (Nat.le_of_ble_eq_true rfl) ⟨(Nat.le_of_ble_eq_true rfl), (Nat.le_of_ble_eq_true rfl)⟩ (Nat.le_of_ble_eq_true rfl) (Nat.le_of_ble_eq_true rfl) dX6_take_2 (fun G1 hG1 => ?_)
  have hq_5 := hG1.1
  have e_G1 := hG1.2
  subst e_G1
  refine k_iload_n C dX6_take_5 rfl (j := 2) rfl ?_
  refine kx_callSv C X hQ (As := [.int st]) (rest := []) (m_X6_requireStake l D cI cC cZ cB cJ ad N G st hl0) (fun E G' h9 => by obtain ⟨rfl, h8, rfl⟩ := h9; exact ⟨by simp [xTake, eN, hq_5, h8], by simp [xTake, eN, hq_5, h8], _, ⟨hF.1, hF.2.1, hF.2.2.1, hF.2.2.2.1, hF.2.2.2.2.1, hF.2.2.2.2.2.1, hF.2.2.2.2.2.2⟩, fun _ _ => rfl⟩) gX6_take_X6_requireStake rfl kd_X6_requireStake rfl rfl ⟨(Nat.le_of_ble_eq_true rfl), (Nat.le_of_ble_eq_true rfl)⟩ rfl rfl (Nat.le_of_ble_eq_true rfl) ⟨(Nat.le_of_ble_eq_true rfl), (Nat.le_of_ble_eq_true rfl)⟩ (Nat.le_of_ble_eq_true rfl) (Nat.le_of_ble_eq_true rfl) dX6_take_6 (fun G2 hG2 => ?_)
  have hq_9 := hG2.1
  have e_G2 := hG2.2
  subst e_G2
  refine k_aload_n C dX6_take_9 rfl (j := 0) rfl ?_
  refine k_iload_n C dX6_take_10 rfl (j := 1) rfl ?_
  refine kx_callVv C X hQ (As := [.int h]) (rest := []) 0 (m_X6_requireRunning l D cI cC cZ cB cJ ad N G v w x hi z0 z1 h hl0 (by omega) ⟨hF.1, hF.2.1, hF.2.2.1, hF.2.2.2.1, hF.2.2.2.2.1, hF.2.2.2.2.2.1, hF.2.2.2.2.2.2⟩) (fun E G' h9 => by obtain ⟨rfl, h8, rfl⟩ := h9; exact ⟨by simp [xTake, eN, hq_5, hq_9, h8], by simp [xTake, eN, hq_5, hq_9, h8], _, ⟨hF.1, hF.2.1, hF.2.2.1, hF.2.2.2.1, hF.2.2.2.2.1, hF.2.2.2.2.2.1, hF.2.2.2.2.2.2⟩, fun _ _ => rfl⟩) gX6_take_X6_requireRunning rfl kd_X6_requireRunning rfl rfl ⟨(Nat.le_of_ble_eq_true rfl), (Nat.le_of_ble_eq_true rfl)⟩ (by omega) hF.1 rfl rfl rfl (Nat.le_of_ble_eq_true rfl) ⟨(Nat.le_of_ble_eq_true rfl), (Nat.le_of_ble_eq_true rfl)⟩ (Nat.le_of_ble_eq_true rfl) (Nat.le_of_ble_eq_true rfl) dX6_take_11 (fun G3 hG3 => ?_)
  have hq_14 := hG3.1
  have e_G3 := hG3.2
  subst e_G3
  refine k_aload_n C dX6_take_14 rfl (j := 0) rfl ?_
  refine kx_callVv C X hQ (As := []) (rest := []) 0 (m_X6_requireOpen l D cI cC cZ cB cJ ad N G v w x hi z0 z1 hl0 (by omega) ⟨hF.1, hF.2.1, hF.2.2.1, hF.2.2.2.1, hF.2.2.2.2.1, hF.2.2.2.2.2.1, hF.2.2.2.2.2.2⟩) (fun E G' h9 => by obtain ⟨rfl, h8, rfl⟩ := h9; exact ⟨by simp [xTake, eN, hq_5, hq_9, hq_14, h8], by simp [xTake, eN, hq_5, hq_9, hq_14, h8], _, ⟨hF.1, hF.2.1, hF.2.2.1, hF.2.2.2.1, hF.2.2.2.2.1, hF.2.2.2.2.2.1, hF.2.2.2.2.2.2⟩, fun _ _ => rfl⟩) gX6_take_X6_requireOpen rfl kd_X6_requireOpen rfl rfl ⟨(Nat.le_of_ble_eq_true rfl), (Nat.le_of_ble_eq_true rfl)⟩ (by omega) hF.1 rfl rfl rfl (Nat.le_of_ble_eq_true rfl) ⟨(Nat.le_of_ble_eq_true rfl), (Nat.le_of_ble_eq_true rfl)⟩ (Nat.le_of_ble_eq_true rfl) (Nat.le_of_ble_eq_true rfl) dX6_take_15 (fun G4 hG4 => ?_)
  have hq_18 := hG4.1
  have e_G4 := hG4.2
  subst e_G4
  refine k_aload_n C dX6_take_18 rfl (j := 0) rfl ?_
  refine k_get C 0 inX6_take_6 (by omega) hF.1 rfl 0 (by decide) (List.mem_of_getElem? (i := 1) rfl) rfl rfl dX6_take_19 ?_
  refine k_get C 1 inX6_take_1 (by omega) hF.2.1.1 rfl 1 (by decide) (List.mem_of_getElem? (i := 2) rfl) rfl rfl dX6_take_22 ?_
  refine kx_callSv C X hQ (As := [.ref (ad (4))]) (rest := []) (m_X6_requireRoom l D cI cC cZ cB cJ ad N G 4 5 8 (nI (bnB v)) 192 (bvb v) hl0 (by omega) (by omega) hF.2.1.2.2.1.1 hF.2.1.2.2.1.2 (Nat.le_of_ble_eq_true rfl)) (fun E G' h9 => by obtain ⟨rfl, h8, rfl⟩ := h9; exact ⟨by simp [xTake, eN, hq_5, hq_9, hq_14, hq_18, h8], by simp [xTake, eN, hq_5, hq_9, hq_14, hq_18, h8], _, ⟨hF.1, hF.2.1, hF.2.2.1, hF.2.2.2.1, hF.2.2.2.2.1, hF.2.2.2.2.2.1, hF.2.2.2.2.2.2⟩, fun _ _ => rfl⟩) gX6_take_X6_requireRoom rfl kd_X6_requireRoom rfl rfl ⟨(Nat.le_of_ble_eq_true rfl), (Nat.le_of_ble_eq_true rfl)⟩ rfl rfl (Nat.le_of_ble_eq_true rfl) ⟨(Nat.le_of_ble_eq_true rfl), (Nat.le_of_ble_eq_true rfl)⟩ (Nat.le_of_ble_eq_true rfl) (Nat.le_of_ble_eq_true rfl) dX6_take_25 (fun G5 hG5 => ?_)
  have hq_28 := hG5.1
  have e_G5 := hG5.2
  subst e_G5
  refine k_aload_n C dX6_take_28 rfl (j := 0) rfl ?_
  refine k_get C 0 inX6_take_6 (by omega) hF.1 rfl 3 (by decide) (List.mem_of_getElem? (i := 3) rfl) rfl rfl dX6_take_29 ?_
  refine k_aload_n C dX6_take_32 rfl (j := 0) rfl ?_
  refine k_get C 0 inX6_take_6 (by omega) hF.1 rfl 0 (by decide) (List.mem_of_getElem? (i := 1) rfl) rfl rfl dX6_take_33 ?_
  refine k_callVv C (As := [.ref (ad 1)]) (rest := []) 13 (m_X2_save l D cI cC cZ cB cJ ad N G 13 hi 1 v (by omega) hF.2.2.2.2.1 (by omega) hF.2.1 (by omega)) gX6_take_X2_save rfl kd_X2_save rfl rfl ⟨Nat.le_of_ble_eq_true rfl, Nat.le_of_ble_eq_true rfl⟩ (by omega) hF.2.2.2.2.1.1 rfl rfl rfl (Nat.le_of_ble_eq_true rfl) ⟨(Nat.le_of_ble_eq_true rfl), (Nat.le_of_ble_eq_true rfl)⟩ dX6_take_36 (fun G6 hG6 => ?_)
  have hb_B_G6 := hF.2.1.keep (fun j h8 h9 => hG6.2 j (by omega))
  have hb_A_G6 := hF.2.2.1.keep (fun j h8 h9 => hG6.2 j (by omega))
  have hb_X_G6 := hF.2.2.2.1.keep (fun j h8 h9 => hG6.2 j (by omega))
  have hb_H_G6 := hG6.1
  have hb_Z0_G6 := hF.2.2.2.2.2.1.keep (fun j h8 h9 => hG6.2 j (by omega))
  have hb_Z1_G6 := hF.2.2.2.2.2.2.keep (fun j h8 h9 => hG6.2 j (by omega))
  have h_0_G6 : G6 0 = .inr (6, [.ref (ad 1), .ref (ad 8), .ref (ad 11), .ref (ad 13), .ref (ad 57), .ref (ad 65)]) := (hG6.2 0 (by omega)).trans hF.1
  refine k_aload_n C dX6_take_39 rfl (j := 0) rfl ?_
  refine k_get C 0 inX6_take_6 (by omega) h_0_G6 rfl 0 (by decide) (List.mem_of_getElem? (i := 1) rfl) rfl rfl dX6_take_40 ?_
  refine k_iload_n C dX6_take_43 rfl (j := 1) rfl ?_
  refine k_iload_n C dX6_take_44 rfl (j := 2) rfl ?_
  refine k_iload_n C dX6_take_45 rfl (j := 3) rfl ?_
  refine k_callVi C (As := [.int h, .int st, .int (bI wy)]) (rest := []) 1 (m_X1_addBet l D cI cC cZ cB cJ ad N G6 1 v h st wy (by omega) hb_B_G6 (roomB hq_28 hlB)) gX6_take_X1_addBet rfl kd_X1_addBet rfl rfl ⟨Nat.le_of_ble_eq_true rfl, Nat.le_of_ble_eq_true rfl⟩ (by omega) hb_B_G6.1 rfl rfl rfl (Nat.le_of_ble_eq_true rfl) ⟨(Nat.le_of_ble_eq_true rfl), (Nat.le_of_ble_eq_true rfl)⟩ dX6_take_46 (fun r_46 G7 hG7 => ?_)
  have e_r_46 := hG7.1
  subst e_r_46
  have hb_B_G7 := hG7.2.1
  have hb_A_G7 := hb_A_G6.keep (fun j h8 h9 => hG7.2.2 j (by omega))
  have hb_X_G7 := hb_X_G6.keep (fun j h8 h9 => hG7.2.2 j (by omega))
  have hb_H_G7 := hb_H_G6.keep (fun j h8 h9 => hG7.2.2 j (by omega))
  have hb_Z0_G7 := hb_Z0_G6.keep (fun j h8 h9 => hG7.2.2 j (by omega))
  have hb_Z1_G7 := hb_Z1_G6.keep (fun j h8 h9 => hG7.2.2 j (by omega))
  have h_0_G7 : G7 0 = .inr (6, [.ref (ad 1), .ref (ad 8), .ref (ad 11), .ref (ad 13), .ref (ad 57), .ref (ad 65)]) := (hG7.2.2 0 (by omega)).trans h_0_G6
  exact kx_iret C hQ rfl rfl (Nat.le_of_ble_eq_true rfl) (Nat.le_of_ble_eq_true rfl) dX6_take_49 ⟨by simp [xTake, eN, hq_5, hq_9, hq_14, hq_18, hq_28], rfl, _, ⟨h_0_G7, hb_B_G7, hb_A_G7, hb_X_G7, hb_H_G7, hb_Z0_G7, hb_Z1_G7⟩, fun j hj => (hG7.2.2 j (by omega) : _).trans (hG6.2 j (by omega))⟩
theorem inX6_layOff_6 : ∀ w ∈ wsX60, w ∈ wsX6_layOff := fun _ h => List.mem_cons_of_mem _ (List.mem_append_left _ (List.mem_append_left _ (List.mem_append_left _ (List.mem_append_left _ (List.mem_append_left _ (List.mem_append_left _ (List.mem_append_right _ h)))))))
theorem inX6_layOff_1 : ∀ w ∈ wsX10, w ∈ wsX6_layOff := fun _ h => List.mem_cons_of_mem _ (List.mem_append_left _ (List.mem_append_left _ (List.mem_append_left _ (List.mem_append_left _ (List.mem_append_left _ (List.mem_append_right _ h))))))
theorem inX6_layOff_4 : ∀ w ∈ wsX40, w ∈ wsX6_layOff := fun _ h => List.mem_cons_of_mem _ (List.mem_append_left _ (List.mem_append_left _ (List.mem_append_left _ (List.mem_append_left _ (List.mem_append_right _ h)))))
theorem inX6_layOff_2 : ∀ w ∈ wsX20, w ∈ wsX6_layOff := fun _ h => List.mem_cons_of_mem _ (List.mem_append_left _ (List.mem_append_left _ (List.mem_append_left _ (List.mem_append_right _ h))))
theorem inxX6_layOff_261 : ∀ w ∈ (vx_atS RX6 261 eIX kUp).filter goodWord, w ∈ wsX6_layOff := fun _ h => List.mem_cons_of_mem _ (List.mem_append_left _ (List.mem_append_left _ (List.mem_append_right _ h)))
theorem inxX6_layOff_115 : ∀ w ∈ (vx_atS RX6 115 eIA kUp).filter goodWord, w ∈ wsX6_layOff := fun _ h => List.mem_cons_of_mem _ (List.mem_append_left _ (List.mem_append_right _ h))
theorem inxX6_layOff_157 : ∀ w ∈ (vx_atS RX6 157 eIS kUp).filter goodWord, w ∈ wsX6_layOff := fun _ h => List.mem_cons_of_mem _ (List.mem_append_right _ h)
theorem kd_X6_layOff : yX6_layOff.cls = RX6 ∧ yX6_layOff.cls ≠ "java/lang/invoke/MethodHandle" ∧ yX6_layOff.cls ≠ "java/lang/invoke/VarHandle" ∧ (parseMethodDescriptor yX6_layOff.desc).map (fun d => d.parameters.length) = some 4 := by decide +kernel
abbrev rX6_layOff : Room := ({ frames := 8, cells := 6, slots := 36, locals := 134 } : Room)
set_option maxRecDepth 100000 in
set_option maxHeartbeats 4000000 in
/-- layOff -/
theorem m_X6_layOff (l : Launch) (D : va_G) (cI cC cZ cB cJ : ClassId) (ad : Nat → Nat) (N : Nat) (G : Nat → va_E) (v : BV) (w : AV) (x : TV) (hi : HV) (z0 z1 : ZV) (h st pa pb : Int32) (hl0 : l.stackTraces = false) (hN : 73 ≤ N) (hF : isFB ad cI cB G v w x hi z0 z1) : kXi l yX6_layOff wsX6_layOff rX6_layOff D (kT5 cI cC cZ cB cJ) ad N G [.ref (ad 0), .int h, .int st, .int pa, .int pb] 6 36 (fun r G' => xLay v h st pa pb = 0 ∧ r = nI (bnL v) ∧ ∃ w', isFB ad cI cB G' (jAddLaid v h st pa pb) w' (x) (hSave hi v) (z0) (z1) ∧ ∀ j, 73 ≤ j → G' j = G j) (fun E G' => E = eN (xLay v h st pa pb) eIX eIA eIS ∧ xLay v h st pa pb ≠ 0 ∧ ∃ w', isFB ad cI cB G' v w' x hi z0 z1 ∧ ∀ j, 73 ≤ j → G' j = G j) := by
  refine kx_starti (cc := cX6_layOff) (ret := (some .int)) (maxL := 5) (lv0 := [(0, .ref (ad 0)), (1, .int h), (2, .int st), (3, .int pa), (4, .int pb)]) hl0 (by decide) rfl (Nat.le_of_ble_eq_true rfl) rfl ?_
  intro p e s m args below meth c A Q C X hQ
  have hlH := hF.2.1.2.2.2.2.1
  have hlB := hF.2.1.2.2.2.2.2.1
  have hlL := hF.2.1.2.2.2.2.2.2
  have hlX := hF.2.2.2.1.2.2
  have hlN := hF.2.2.2.2.1.2.2.2.1
  have hlZ := hF.2.2.2.2.1.2.2.2.2
  refine k_aload_n C dX6_layOff_0 rfl (j := 0) rfl ?_
  refine k_iload_n C dX6_layOff_1 rfl (j := 1) rfl ?_
  refine kx_callVv C X hQ (As := [.int h]) (rest := []) 0 (m_X6_requireHorse l D cI cC cZ cB cJ ad N G v w x hi z0 z1 h hl0 (by omega) ⟨hF.1, hF.2.1, hF.2.2.1, hF.2.2.2.1, hF.2.2.2.2.1, hF.2.2.2.2.2.1, hF.2.2.2.2.2.2⟩) (fun E G' h9 => by obtain ⟨rfl, h8, rfl⟩ := h9; exact ⟨by simp [xLay, eN, h8], by simp [xLay, eN, h8], _, ⟨hF.1, hF.2.1, hF.2.2.1, hF.2.2.2.1, hF.2.2.2.2.1, hF.2.2.2.2.2.1, hF.2.2.2.2.2.2⟩, fun _ _ => rfl⟩) gX6_layOff_X6_requireHorse rfl kd_X6_requireHorse rfl rfl ⟨(Nat.le_of_ble_eq_true rfl), (Nat.le_of_ble_eq_true rfl)⟩ (by omega) hF.1 rfl rfl rfl (Nat.le_of_ble_eq_true rfl) ⟨(Nat.le_of_ble_eq_true rfl), (Nat.le_of_ble_eq_true rfl)⟩ (Nat.le_of_ble_eq_true rfl) (Nat.le_of_ble_eq_true rfl) dX6_layOff_2 (fun G1 hG1 => ?_)
  have hq_5 := hG1.1
  have e_G1 := hG1.2
  subst e_G1
  refine k_iload_n C dX6_layOff_5 rfl (j := 2) rfl ?_
  refine kx_callSv C X hQ (As := [.int st]) (rest := []) (m_X6_requireStake l D cI cC cZ cB cJ ad N G st hl0) (fun E G' h9 => by obtain ⟨rfl, h8, rfl⟩ := h9; exact ⟨by simp [xLay, eN, hq_5, h8], by simp [xLay, eN, hq_5, h8], _, ⟨hF.1, hF.2.1, hF.2.2.1, hF.2.2.2.1, hF.2.2.2.2.1, hF.2.2.2.2.2.1, hF.2.2.2.2.2.2⟩, fun _ _ => rfl⟩) gX6_layOff_X6_requireStake rfl kd_X6_requireStake rfl rfl ⟨(Nat.le_of_ble_eq_true rfl), (Nat.le_of_ble_eq_true rfl)⟩ rfl rfl (Nat.le_of_ble_eq_true rfl) ⟨(Nat.le_of_ble_eq_true rfl), (Nat.le_of_ble_eq_true rfl)⟩ (Nat.le_of_ble_eq_true rfl) (Nat.le_of_ble_eq_true rfl) dX6_layOff_6 (fun G2 hG2 => ?_)
  have hq_9 := hG2.1
  have e_G2 := hG2.2
  subst e_G2
  refine k_iload_n C dX6_layOff_9 rfl (j := 3) rfl ?_
  refine k_iload C dX6_layOff_10 (j := 4) rfl ?_
  refine kx_callSv C X hQ (As := [.int pa, .int pb]) (rest := []) (m_X6_requirePrice l D cI cC cZ cB cJ ad N G pa pb hl0) (fun E G' h9 => by obtain ⟨rfl, h8, rfl⟩ := h9; exact ⟨by simp [xLay, eN, hq_5, hq_9, h8], by simp [xLay, eN, hq_5, hq_9, h8], _, ⟨hF.1, hF.2.1, hF.2.2.1, hF.2.2.2.1, hF.2.2.2.2.1, hF.2.2.2.2.2.1, hF.2.2.2.2.2.2⟩, fun _ _ => rfl⟩) gX6_layOff_X6_requirePrice rfl kd_X6_requirePrice rfl rfl ⟨(Nat.le_of_ble_eq_true rfl), (Nat.le_of_ble_eq_true rfl)⟩ rfl rfl (Nat.le_of_ble_eq_true rfl) ⟨(Nat.le_of_ble_eq_true rfl), (Nat.le_of_ble_eq_true rfl)⟩ (Nat.le_of_ble_eq_true rfl) (Nat.le_of_ble_eq_true rfl) dX6_layOff_12 (fun G3 hG3 => ?_)
  have hq_15 := hG3.1
  have e_G3 := hG3.2
  subst e_G3
  refine k_aload_n C dX6_layOff_15 rfl (j := 0) rfl ?_
  refine k_iload_n C dX6_layOff_16 rfl (j := 1) rfl ?_
  refine kx_callVv C X hQ (As := [.int h]) (rest := []) 0 (m_X6_requireRunning l D cI cC cZ cB cJ ad N G v w x hi z0 z1 h hl0 (by omega) ⟨hF.1, hF.2.1, hF.2.2.1, hF.2.2.2.1, hF.2.2.2.2.1, hF.2.2.2.2.2.1, hF.2.2.2.2.2.2⟩) (fun E G' h9 => by obtain ⟨rfl, h8, rfl⟩ := h9; exact ⟨by simp [xLay, eN, hq_5, hq_9, hq_15, h8], by simp [xLay, eN, hq_5, hq_9, hq_15, h8], _, ⟨hF.1, hF.2.1, hF.2.2.1, hF.2.2.2.1, hF.2.2.2.2.1, hF.2.2.2.2.2.1, hF.2.2.2.2.2.2⟩, fun _ _ => rfl⟩) gX6_layOff_X6_requireRunning rfl kd_X6_requireRunning rfl rfl ⟨(Nat.le_of_ble_eq_true rfl), (Nat.le_of_ble_eq_true rfl)⟩ (by omega) hF.1 rfl rfl rfl (Nat.le_of_ble_eq_true rfl) ⟨(Nat.le_of_ble_eq_true rfl), (Nat.le_of_ble_eq_true rfl)⟩ (Nat.le_of_ble_eq_true rfl) (Nat.le_of_ble_eq_true rfl) dX6_layOff_17 (fun G4 hG4 => ?_)
  have hq_20 := hG4.1
  have e_G4 := hG4.2
  subst e_G4
  refine k_aload_n C dX6_layOff_20 rfl (j := 0) rfl ?_
  refine kx_callVv C X hQ (As := []) (rest := []) 0 (m_X6_requireOpen l D cI cC cZ cB cJ ad N G v w x hi z0 z1 hl0 (by omega) ⟨hF.1, hF.2.1, hF.2.2.1, hF.2.2.2.1, hF.2.2.2.2.1, hF.2.2.2.2.2.1, hF.2.2.2.2.2.2⟩) (fun E G' h9 => by obtain ⟨rfl, h8, rfl⟩ := h9; exact ⟨by simp [xLay, eN, hq_5, hq_9, hq_15, hq_20, h8], by simp [xLay, eN, hq_5, hq_9, hq_15, hq_20, h8], _, ⟨hF.1, hF.2.1, hF.2.2.1, hF.2.2.2.1, hF.2.2.2.2.1, hF.2.2.2.2.2.1, hF.2.2.2.2.2.2⟩, fun _ _ => rfl⟩) gX6_layOff_X6_requireOpen rfl kd_X6_requireOpen rfl rfl ⟨(Nat.le_of_ble_eq_true rfl), (Nat.le_of_ble_eq_true rfl)⟩ (by omega) hF.1 rfl rfl rfl (Nat.le_of_ble_eq_true rfl) ⟨(Nat.le_of_ble_eq_true rfl), (Nat.le_of_ble_eq_true rfl)⟩ (Nat.le_of_ble_eq_true rfl) (Nat.le_of_ble_eq_true rfl) dX6_layOff_21 (fun G5 hG5 => ?_)
  have hq_24 := hG5.1
  have e_G5 := hG5.2
  subst e_G5
  refine k_aload_n C dX6_layOff_24 rfl (j := 0) rfl ?_
  refine k_get C 0 inX6_layOff_6 (by omega) hF.1 rfl 0 (by decide) (List.mem_of_getElem? (i := 1) rfl) rfl rfl dX6_layOff_25 ?_
  refine k_get C 1 inX6_layOff_1 (by omega) hF.2.1.1 rfl 2 (by decide) (List.mem_of_getElem? (i := 2) rfl) rfl rfl dX6_layOff_28 ?_
  refine kx_callSv C X hQ (As := [.ref (ad (6))]) (rest := []) (m_X6_requireRoom l D cI cC cZ cB cJ ad N G 6 7 5 (nI (bnL v)) 30 (bvl v) hl0 (by omega) (by omega) hF.2.1.2.2.2.1.1 hF.2.1.2.2.2.1.2 (Nat.le_of_ble_eq_true rfl)) (fun E G' h9 => by obtain ⟨rfl, h8, rfl⟩ := h9; exact ⟨by simp [xLay, eN, hq_5, hq_9, hq_15, hq_20, hq_24, h8], by simp [xLay, eN, hq_5, hq_9, hq_15, hq_20, hq_24, h8], _, ⟨hF.1, hF.2.1, hF.2.2.1, hF.2.2.2.1, hF.2.2.2.2.1, hF.2.2.2.2.2.1, hF.2.2.2.2.2.2⟩, fun _ _ => rfl⟩) gX6_layOff_X6_requireRoom rfl kd_X6_requireRoom rfl rfl ⟨(Nat.le_of_ble_eq_true rfl), (Nat.le_of_ble_eq_true rfl)⟩ rfl rfl (Nat.le_of_ble_eq_true rfl) ⟨(Nat.le_of_ble_eq_true rfl), (Nat.le_of_ble_eq_true rfl)⟩ (Nat.le_of_ble_eq_true rfl) (Nat.le_of_ble_eq_true rfl) dX6_layOff_31 (fun G6 hG6 => ?_)
  have hq_34 := hG6.1
  have e_G6 := hG6.2
  subst e_G6
  refine k_aload_n C dX6_layOff_34 rfl (j := 0) rfl ?_
  refine k_get C 0 inX6_layOff_6 (by omega) hF.1 rfl 3 (by decide) (List.mem_of_getElem? (i := 3) rfl) rfl rfl dX6_layOff_35 ?_
  refine k_aload_n C dX6_layOff_38 rfl (j := 0) rfl ?_
  refine k_get C 0 inX6_layOff_6 (by omega) hF.1 rfl 0 (by decide) (List.mem_of_getElem? (i := 1) rfl) rfl rfl dX6_layOff_39 ?_
  refine k_callVv C (As := [.ref (ad 1)]) (rest := []) 13 (m_X2_save l D cI cC cZ cB cJ ad N G 13 hi 1 v (by omega) hF.2.2.2.2.1 (by omega) hF.2.1 (by omega)) gX6_layOff_X2_save rfl kd_X2_save rfl rfl ⟨Nat.le_of_ble_eq_true rfl, Nat.le_of_ble_eq_true rfl⟩ (by omega) hF.2.2.2.2.1.1 rfl rfl rfl (Nat.le_of_ble_eq_true rfl) ⟨(Nat.le_of_ble_eq_true rfl), (Nat.le_of_ble_eq_true rfl)⟩ dX6_layOff_42 (fun G7 hG7 => ?_)
  have hb_B_G7 := hF.2.1.keep (fun j h8 h9 => hG7.2 j (by omega))
  have hb_A_G7 := hF.2.2.1.keep (fun j h8 h9 => hG7.2 j (by omega))
  have hb_X_G7 := hF.2.2.2.1.keep (fun j h8 h9 => hG7.2 j (by omega))
  have hb_H_G7 := hG7.1
  have hb_Z0_G7 := hF.2.2.2.2.2.1.keep (fun j h8 h9 => hG7.2 j (by omega))
  have hb_Z1_G7 := hF.2.2.2.2.2.2.keep (fun j h8 h9 => hG7.2 j (by omega))
  have h_0_G7 : G7 0 = .inr (6, [.ref (ad 1), .ref (ad 8), .ref (ad 11), .ref (ad 13), .ref (ad 57), .ref (ad 65)]) := (hG7.2 0 (by omega)).trans hF.1
  refine k_aload_n C dX6_layOff_45 rfl (j := 0) rfl ?_
  refine k_get C 0 inX6_layOff_6 (by omega) h_0_G7 rfl 0 (by decide) (List.mem_of_getElem? (i := 1) rfl) rfl rfl dX6_layOff_46 ?_
  refine k_iload_n C dX6_layOff_49 rfl (j := 1) rfl ?_
  refine k_iload_n C dX6_layOff_50 rfl (j := 2) rfl ?_
  refine k_iload_n C dX6_layOff_51 rfl (j := 3) rfl ?_
  refine k_iload C dX6_layOff_52 (j := 4) rfl ?_
  refine k_callVi C (As := [.int h, .int st, .int pa, .int pb]) (rest := []) 1 (m_X1_addLaid l D cI cC cZ cB cJ ad N G7 1 v h st pa pb (by omega) hb_B_G7 (roomL hq_34 hlL)) gX6_layOff_X1_addLaid rfl kd_X1_addLaid rfl rfl ⟨Nat.le_of_ble_eq_true rfl, Nat.le_of_ble_eq_true rfl⟩ (by omega) hb_B_G7.1 rfl rfl rfl (Nat.le_of_ble_eq_true rfl) ⟨(Nat.le_of_ble_eq_true rfl), (Nat.le_of_ble_eq_true rfl)⟩ dX6_layOff_54 (fun r_54 G8 hG8 => ?_)
  have e_r_54 := hG8.1
  subst e_r_54
  have hb_B_G8 := hG8.2.1
  have hb_A_G8 := hb_A_G7.keep (fun j h8 h9 => hG8.2.2 j (by omega))
  have hb_X_G8 := hb_X_G7.keep (fun j h8 h9 => hG8.2.2 j (by omega))
  have hb_H_G8 := hb_H_G7.keep (fun j h8 h9 => hG8.2.2 j (by omega))
  have hb_Z0_G8 := hb_Z0_G7.keep (fun j h8 h9 => hG8.2.2 j (by omega))
  have hb_Z1_G8 := hb_Z1_G7.keep (fun j h8 h9 => hG8.2.2 j (by omega))
  have h_0_G8 : G8 0 = .inr (6, [.ref (ad 1), .ref (ad 8), .ref (ad 11), .ref (ad 13), .ref (ad 57), .ref (ad 65)]) := (hG8.2.2 0 (by omega)).trans h_0_G7
  exact kx_iret C hQ rfl rfl (Nat.le_of_ble_eq_true rfl) (Nat.le_of_ble_eq_true rfl) dX6_layOff_57 ⟨by simp [xLay, eN, hq_5, hq_9, hq_15, hq_20, hq_24, hq_34], rfl, _, ⟨h_0_G8, hb_B_G8, hb_A_G8, hb_X_G8, hb_H_G8, hb_Z0_G8, hb_Z1_G8⟩, fun j hj => (hG8.2.2 j (by omega) : _).trans (hG7.2 j (by omega))⟩
theorem inX6_withdraw_6 : ∀ w ∈ wsX60, w ∈ wsX6_withdraw := fun _ h => List.mem_cons_of_mem _ (List.mem_append_left _ (List.mem_append_left _ (List.mem_append_left _ (List.mem_append_left _ (List.mem_append_left _ (List.mem_append_right _ h))))))
theorem inX6_withdraw_1 : ∀ w ∈ wsX10, w ∈ wsX6_withdraw := fun _ h => List.mem_cons_of_mem _ (List.mem_append_left _ (List.mem_append_left _ (List.mem_append_left _ (List.mem_append_left _ (List.mem_append_right _ h)))))
theorem inX6_withdraw_4 : ∀ w ∈ wsX40, w ∈ wsX6_withdraw := fun _ h => List.mem_cons_of_mem _ (List.mem_append_left _ (List.mem_append_left _ (List.mem_append_left _ (List.mem_append_right _ h))))
theorem inX6_withdraw_2 : ∀ w ∈ wsX20, w ∈ wsX6_withdraw := fun _ h => List.mem_cons_of_mem _ (List.mem_append_left _ (List.mem_append_left _ (List.mem_append_right _ h)))
theorem inxX6_withdraw_261 : ∀ w ∈ (vx_atS RX6 261 eIX kUp).filter goodWord, w ∈ wsX6_withdraw := fun _ h => List.mem_cons_of_mem _ (List.mem_append_left _ (List.mem_append_right _ h))
theorem inxX6_withdraw_157 : ∀ w ∈ (vx_atS RX6 157 eIS kUp).filter goodWord, w ∈ wsX6_withdraw := fun _ h => List.mem_cons_of_mem _ (List.mem_append_right _ h)
theorem kd_X6_withdraw : yX6_withdraw.cls = RX6 ∧ yX6_withdraw.cls ≠ "java/lang/invoke/MethodHandle" ∧ yX6_withdraw.cls ≠ "java/lang/invoke/VarHandle" ∧ (parseMethodDescriptor yX6_withdraw.desc).map (fun d => d.parameters.length) = some 1 := by decide +kernel
abbrev rX6_withdraw : Room := ({ frames := 8, cells := 3, slots := 18, locals := 134 } : Room)
set_option maxRecDepth 100000 in
set_option maxHeartbeats 4000000 in
/-- withdraw -/
theorem m_X6_withdraw (l : Launch) (D : va_G) (cI cC cZ cB cJ : ClassId) (ad : Nat → Nat) (N : Nat) (G : Nat → va_E) (v : BV) (w : AV) (x : TV) (hi : HV) (z0 z1 : ZV) (h : Int32) (hl0 : l.stackTraces = false) (hN : 73 ≤ N) (hF : isFB ad cI cB G v w x hi z0 z1) : kXi l yX6_withdraw wsX6_withdraw rX6_withdraw D (kT5 cI cC cZ cB cJ) ad N G [.ref (ad 0), .int h] 3 18 (fun r G' => xWith v h = 0 ∧ r = jCut v h ∧ ∃ w', isFB ad cI cB G' (jTake v h) w' (x) (hSave hi v) (z0) (z1) ∧ ∀ j, 73 ≤ j → G' j = G j) (fun E G' => E = eN (xWith v h) eIX eIS eIS ∧ xWith v h ≠ 0 ∧ ∃ w', isFB ad cI cB G' v w' x hi z0 z1 ∧ ∀ j, 73 ≤ j → G' j = G j) := by
  refine kx_starti (cc := cX6_withdraw) (ret := (some .int)) (maxL := 2) (lv0 := [(0, .ref (ad 0)), (1, .int h)]) hl0 (by decide) rfl (Nat.le_of_ble_eq_true rfl) rfl ?_
  intro p e s m args below meth c A Q C X hQ
  have hlH := hF.2.1.2.2.2.2.1
  have hlB := hF.2.1.2.2.2.2.2.1
  have hlL := hF.2.1.2.2.2.2.2.2
  have hlX := hF.2.2.2.1.2.2
  have hlN := hF.2.2.2.2.1.2.2.2.1
  have hlZ := hF.2.2.2.2.1.2.2.2.2
  refine k_aload_n C dX6_withdraw_0 rfl (j := 0) rfl ?_
  refine k_iload_n C dX6_withdraw_1 rfl (j := 1) rfl ?_
  refine kx_callVv C X hQ (As := [.int h]) (rest := []) 0 (m_X6_requireHorse l D cI cC cZ cB cJ ad N G v w x hi z0 z1 h hl0 (by omega) ⟨hF.1, hF.2.1, hF.2.2.1, hF.2.2.2.1, hF.2.2.2.2.1, hF.2.2.2.2.2.1, hF.2.2.2.2.2.2⟩) (fun E G' h9 => by obtain ⟨rfl, h8, rfl⟩ := h9; exact ⟨by simp [xWith, eN, h8], by simp [xWith, eN, h8], _, ⟨hF.1, hF.2.1, hF.2.2.1, hF.2.2.2.1, hF.2.2.2.2.1, hF.2.2.2.2.2.1, hF.2.2.2.2.2.2⟩, fun _ _ => rfl⟩) gX6_withdraw_X6_requireHorse rfl kd_X6_requireHorse rfl rfl ⟨(Nat.le_of_ble_eq_true rfl), (Nat.le_of_ble_eq_true rfl)⟩ (by omega) hF.1 rfl rfl rfl (Nat.le_of_ble_eq_true rfl) ⟨(Nat.le_of_ble_eq_true rfl), (Nat.le_of_ble_eq_true rfl)⟩ (Nat.le_of_ble_eq_true rfl) (Nat.le_of_ble_eq_true rfl) dX6_withdraw_2 (fun G1 hG1 => ?_)
  have hq_5 := hG1.1
  have e_G1 := hG1.2
  subst e_G1
  refine k_aload_n C dX6_withdraw_5 rfl (j := 0) rfl ?_
  refine k_iload_n C dX6_withdraw_6 rfl (j := 1) rfl ?_
  refine kx_callVv C X hQ (As := [.int h]) (rest := []) 0 (m_X6_requireRunning l D cI cC cZ cB cJ ad N G v w x hi z0 z1 h hl0 (by omega) ⟨hF.1, hF.2.1, hF.2.2.1, hF.2.2.2.1, hF.2.2.2.2.1, hF.2.2.2.2.2.1, hF.2.2.2.2.2.2⟩) (fun E G' h9 => by obtain ⟨rfl, h8, rfl⟩ := h9; exact ⟨by simp [xWith, eN, hq_5, h8], by simp [xWith, eN, hq_5, h8], _, ⟨hF.1, hF.2.1, hF.2.2.1, hF.2.2.2.1, hF.2.2.2.2.1, hF.2.2.2.2.2.1, hF.2.2.2.2.2.2⟩, fun _ _ => rfl⟩) gX6_withdraw_X6_requireRunning rfl kd_X6_requireRunning rfl rfl ⟨(Nat.le_of_ble_eq_true rfl), (Nat.le_of_ble_eq_true rfl)⟩ (by omega) hF.1 rfl rfl rfl (Nat.le_of_ble_eq_true rfl) ⟨(Nat.le_of_ble_eq_true rfl), (Nat.le_of_ble_eq_true rfl)⟩ (Nat.le_of_ble_eq_true rfl) (Nat.le_of_ble_eq_true rfl) dX6_withdraw_7 (fun G2 hG2 => ?_)
  have hq_10 := hG2.1
  have e_G2 := hG2.2
  subst e_G2
  refine k_aload_n C dX6_withdraw_10 rfl (j := 0) rfl ?_
  refine kx_callVv C X hQ (As := []) (rest := []) 0 (m_X6_requireOpen l D cI cC cZ cB cJ ad N G v w x hi z0 z1 hl0 (by omega) ⟨hF.1, hF.2.1, hF.2.2.1, hF.2.2.2.1, hF.2.2.2.2.1, hF.2.2.2.2.2.1, hF.2.2.2.2.2.2⟩) (fun E G' h9 => by obtain ⟨rfl, h8, rfl⟩ := h9; exact ⟨by simp [xWith, eN, hq_5, hq_10, h8], by simp [xWith, eN, hq_5, hq_10, h8], _, ⟨hF.1, hF.2.1, hF.2.2.1, hF.2.2.2.1, hF.2.2.2.2.1, hF.2.2.2.2.2.1, hF.2.2.2.2.2.2⟩, fun _ _ => rfl⟩) gX6_withdraw_X6_requireOpen rfl kd_X6_requireOpen rfl rfl ⟨(Nat.le_of_ble_eq_true rfl), (Nat.le_of_ble_eq_true rfl)⟩ (by omega) hF.1 rfl rfl rfl (Nat.le_of_ble_eq_true rfl) ⟨(Nat.le_of_ble_eq_true rfl), (Nat.le_of_ble_eq_true rfl)⟩ (Nat.le_of_ble_eq_true rfl) (Nat.le_of_ble_eq_true rfl) dX6_withdraw_11 (fun G3 hG3 => ?_)
  have hq_14 := hG3.1
  have e_G3 := hG3.2
  subst e_G3
  refine k_aload_n C dX6_withdraw_14 rfl (j := 0) rfl ?_
  refine k_get C 0 inX6_withdraw_6 (by omega) hF.1 rfl 3 (by decide) (List.mem_of_getElem? (i := 1) rfl) rfl rfl dX6_withdraw_15 ?_
  refine k_aload_n C dX6_withdraw_18 rfl (j := 0) rfl ?_
  refine k_get C 0 inX6_withdraw_6 (by omega) hF.1 rfl 0 (by decide) (List.mem_of_getElem? (i := 2) rfl) rfl rfl dX6_withdraw_19 ?_
  refine k_callVv C (As := [.ref (ad 1)]) (rest := []) 13 (m_X2_save l D cI cC cZ cB cJ ad N G 13 hi 1 v (by omega) hF.2.2.2.2.1 (by omega) hF.2.1 (by omega)) gX6_withdraw_X2_save rfl kd_X2_save rfl rfl ⟨Nat.le_of_ble_eq_true rfl, Nat.le_of_ble_eq_true rfl⟩ (by omega) hF.2.2.2.2.1.1 rfl rfl rfl (Nat.le_of_ble_eq_true rfl) ⟨(Nat.le_of_ble_eq_true rfl), (Nat.le_of_ble_eq_true rfl)⟩ dX6_withdraw_22 (fun G4 hG4 => ?_)
  have hb_B_G4 := hF.2.1.keep (fun j h8 h9 => hG4.2 j (by omega))
  have hb_A_G4 := hF.2.2.1.keep (fun j h8 h9 => hG4.2 j (by omega))
  have hb_X_G4 := hF.2.2.2.1.keep (fun j h8 h9 => hG4.2 j (by omega))
  have hb_H_G4 := hG4.1
  have hb_Z0_G4 := hF.2.2.2.2.2.1.keep (fun j h8 h9 => hG4.2 j (by omega))
  have hb_Z1_G4 := hF.2.2.2.2.2.2.keep (fun j h8 h9 => hG4.2 j (by omega))
  have h_0_G4 : G4 0 = .inr (6, [.ref (ad 1), .ref (ad 8), .ref (ad 11), .ref (ad 13), .ref (ad 57), .ref (ad 65)]) := (hG4.2 0 (by omega)).trans hF.1
  refine k_aload_n C dX6_withdraw_25 rfl (j := 0) rfl ?_
  refine k_get C 0 inX6_withdraw_6 (by omega) h_0_G4 rfl 0 (by decide) (List.mem_of_getElem? (i := 2) rfl) rfl rfl dX6_withdraw_26 ?_
  refine k_iload_n C dX6_withdraw_29 rfl (j := 1) rfl ?_
  refine k_callVi C (As := [.int h]) (rest := []) 1 (m_X1_takeOut l D cI cC cZ cB cJ ad N G4 1 v h (by omega) hb_B_G4) gX6_withdraw_X1_takeOut rfl kd_X1_takeOut rfl rfl ⟨Nat.le_of_ble_eq_true rfl, Nat.le_of_ble_eq_true rfl⟩ (by omega) hb_B_G4.1 rfl rfl rfl (Nat.le_of_ble_eq_true rfl) ⟨(Nat.le_of_ble_eq_true rfl), (Nat.le_of_ble_eq_true rfl)⟩ dX6_withdraw_30 (fun r_30 G5 hG5 => ?_)
  have e_r_30 := hG5.1
  subst e_r_30
  have hb_B_G5 := hG5.2.1
  have hb_A_G5 := hb_A_G4.keep (fun j h8 h9 => hG5.2.2 j (by omega))
  have hb_X_G5 := hb_X_G4.keep (fun j h8 h9 => hG5.2.2 j (by omega))
  have hb_H_G5 := hb_H_G4.keep (fun j h8 h9 => hG5.2.2 j (by omega))
  have hb_Z0_G5 := hb_Z0_G4.keep (fun j h8 h9 => hG5.2.2 j (by omega))
  have hb_Z1_G5 := hb_Z1_G4.keep (fun j h8 h9 => hG5.2.2 j (by omega))
  have h_0_G5 : G5 0 = .inr (6, [.ref (ad 1), .ref (ad 8), .ref (ad 11), .ref (ad 13), .ref (ad 57), .ref (ad 65)]) := (hG5.2.2 0 (by omega)).trans h_0_G4
  exact kx_iret C hQ rfl rfl (Nat.le_of_ble_eq_true rfl) (Nat.le_of_ble_eq_true rfl) dX6_withdraw_33 ⟨by simp [xWith, eN, hq_5, hq_10, hq_14], rfl, _, ⟨h_0_G5, hb_B_G5, hb_A_G5, hb_X_G5, hb_H_G5, hb_Z0_G5, hb_Z1_G5⟩, fun j hj => (hG5.2.2 j (by omega) : _).trans (hG4.2 j (by omega))⟩
theorem inX6_settle_6 : ∀ w ∈ wsX60, w ∈ wsX6_settle := fun _ h => List.mem_cons_of_mem _ (List.mem_append_left _ (List.mem_append_left _ (List.mem_append_left _ (List.mem_append_left _ (List.mem_append_left _ (List.mem_append_left _ (List.mem_append_left _ (List.mem_append_right _ h))))))))
theorem inX6_settle_5 : ∀ w ∈ wsX50, w ∈ wsX6_settle := fun _ h => List.mem_cons_of_mem _ (List.mem_append_left _ (List.mem_append_left _ (List.mem_append_left _ (List.mem_append_left _ (List.mem_append_left _ (List.mem_append_left _ (List.mem_append_right _ h)))))))
theorem inX6_settle_1 : ∀ w ∈ wsX10, w ∈ wsX6_settle := fun _ h => List.mem_cons_of_mem _ (List.mem_append_left _ (List.mem_append_left _ (List.mem_append_left _ (List.mem_append_left _ (List.mem_append_left _ (List.mem_append_right _ h))))))
theorem inX6_settle_4 : ∀ w ∈ wsX40, w ∈ wsX6_settle := fun _ h => List.mem_cons_of_mem _ (List.mem_append_left _ (List.mem_append_left _ (List.mem_append_left _ (List.mem_append_left _ (List.mem_append_right _ h)))))
theorem inX6_settle_0 : ∀ w ∈ wsX00, w ∈ wsX6_settle := fun _ h => List.mem_cons_of_mem _ (List.mem_append_left _ (List.mem_append_left _ (List.mem_append_left _ (List.mem_append_right _ h))))
theorem inX6_settle_2 : ∀ w ∈ wsX20, w ∈ wsX6_settle := fun _ h => List.mem_cons_of_mem _ (List.mem_append_left _ (List.mem_append_left _ (List.mem_append_right _ h)))
theorem inxX6_settle_115 : ∀ w ∈ (vx_atS RX6 115 eIA kUp).filter goodWord, w ∈ wsX6_settle := fun _ h => List.mem_cons_of_mem _ (List.mem_append_left _ (List.mem_append_right _ h))
theorem inxX6_settle_157 : ∀ w ∈ (vx_atS RX6 157 eIS kUp).filter goodWord, w ∈ wsX6_settle := fun _ h => List.mem_cons_of_mem _ (List.mem_append_right _ h)
theorem kd_X6_settle : yX6_settle.cls = RX6 ∧ yX6_settle.cls ≠ "java/lang/invoke/MethodHandle" ∧ yX6_settle.cls ≠ "java/lang/invoke/VarHandle" ∧ (parseMethodDescriptor yX6_settle.desc).map (fun d => d.parameters.length) = some 0 := by decide +kernel
abbrev rX6_settle : Room := ({ frames := 7, cells := 2, slots := 12, locals := 124 } : Room)
set_option maxRecDepth 100000 in
set_option maxHeartbeats 4000000 in
/-- settle -/
theorem m_X6_settle (l : Launch) (D : va_G) (cI cC cZ cB cJ : ClassId) (ad : Nat → Nat) (N : Nat) (G : Nat → va_E) (v : BV) (w : AV) (x : TV) (hi : HV) (z0 z1 : ZV) (hl0 : l.stackTraces = false) (hN : 73 ≤ N) (hF : isFB ad cI cB G v w x hi z0 z1) : kXi l yX6_settle wsX6_settle rX6_settle D (kT5 cI cC cZ cB cJ) ad N G [.ref (ad 0)] 2 12 (fun r G' => xSettle v x = 0 ∧ r = jWon (jSettle v (raA v x (raK x))) ∧ ∃ w', isFB ad cI cB G' (jSettle v (raA v x (raK x))) w' ((txC x, 0)) (hSave hi v) (z0) (z1) ∧ ∀ j, 73 ≤ j → G' j = G j) (fun E G' => E = eN (xSettle v x) eIA eIS eIS ∧ xSettle v x ≠ 0 ∧ ∃ w', isFB ad cI cB G' v w' x hi z0 z1 ∧ ∀ j, 73 ≤ j → G' j = G j) := by
  refine kx_starti (cc := cX6_settle) (ret := (some .int)) (maxL := 1) (lv0 := [(0, .ref (ad 0))]) hl0 (by decide) rfl (Nat.le_of_ble_eq_true rfl) rfl ?_
  intro p e s m args below meth c A Q C X hQ
  have hlH := hF.2.1.2.2.2.2.1
  have hlB := hF.2.1.2.2.2.2.2.1
  have hlL := hF.2.1.2.2.2.2.2.2
  have hlX := hF.2.2.2.1.2.2
  have hlN := hF.2.2.2.2.1.2.2.2.1
  have hlZ := hF.2.2.2.2.1.2.2.2.2
  refine k_aload_n C dX6_settle_0 rfl (j := 0) rfl ?_
  refine k_callVi C (As := []) (rest := []) 0 (m_X6_readArrival l D cI cC cZ cB cJ ad N G v w x hi z0 z1 (by omega) ⟨hF.1, hF.2.1, hF.2.2.1, hF.2.2.2.1, hF.2.2.2.2.1, hF.2.2.2.2.2.1, hF.2.2.2.2.2.2⟩ ) gX6_settle_X6_readArrival rfl kd_X6_readArrival rfl rfl ⟨Nat.le_of_ble_eq_true rfl, Nat.le_of_ble_eq_true rfl⟩ (by omega) hF.1 rfl rfl rfl (Nat.le_of_ble_eq_true rfl) ⟨(Nat.le_of_ble_eq_true rfl), (Nat.le_of_ble_eq_true rfl)⟩ dX6_settle_1 (fun r_1 G1 hG1 => ?_)
  obtain ⟨e_r_1, w_G1, hF_G1, hra, hfr_G1⟩ := hG1
  subst e_r_1
  refine k_if_ne C 17 dX6_settle_4 (by decide) (fun c_4 => ?_) (fun c_4 => ?_)
  · skip
    have e_4 := bI_t c_4
    refine k_aload_n C dX6_settle_17 rfl (j := 0) rfl ?_
    refine kx_callVv C X hQ (As := []) (rest := []) 0 (m_X6_requireOpen l D cI cC cZ cB cJ ad N G1 v w_G1 x hi z0 z1 hl0 (by omega) ⟨hF_G1.1, hF_G1.2.1, hF_G1.2.2.1, hF_G1.2.2.2.1, hF_G1.2.2.2.2.1, hF_G1.2.2.2.2.2.1, hF_G1.2.2.2.2.2.2⟩) (fun E G' h9 => by obtain ⟨rfl, h8, rfl⟩ := h9; exact ⟨by simp [xSettle, eN, e_4, h8], by simp [xSettle, eN, e_4, h8], _, ⟨hF_G1.1, hF_G1.2.1, hF_G1.2.2.1, hF_G1.2.2.2.1, hF_G1.2.2.2.2.1, hF_G1.2.2.2.2.2.1, hF_G1.2.2.2.2.2.2⟩, fun j hj => hfr_G1 j (by omega)⟩) gX6_settle_X6_requireOpen rfl kd_X6_requireOpen rfl rfl ⟨(Nat.le_of_ble_eq_true rfl), (Nat.le_of_ble_eq_true rfl)⟩ (by omega) hF_G1.1 rfl rfl rfl (Nat.le_of_ble_eq_true rfl) ⟨(Nat.le_of_ble_eq_true rfl), (Nat.le_of_ble_eq_true rfl)⟩ (Nat.le_of_ble_eq_true rfl) (Nat.le_of_ble_eq_true rfl) dX6_settle_18 (fun G2 hG2 => ?_)
    have hq_21 := hG2.1
    have e_G2 := hG2.2
    subst e_G2
    refine k_aload_n C dX6_settle_21 rfl (j := 0) rfl ?_
    refine k_get C 0 inX6_settle_6 (by omega) hF_G1.1 rfl 3 (by decide) (List.mem_of_getElem? (i := 3) rfl) rfl rfl dX6_settle_22 ?_
    refine k_aload_n C dX6_settle_25 rfl (j := 0) rfl ?_
    refine k_get C 0 inX6_settle_6 (by omega) hF_G1.1 rfl 0 (by decide) (List.mem_of_getElem? (i := 4) rfl) rfl rfl dX6_settle_26 ?_
    refine k_callVv C (As := [.ref (ad 1)]) (rest := []) 13 (m_X2_save l D cI cC cZ cB cJ ad N G1 13 hi 1 v (by omega) hF_G1.2.2.2.2.1 (by omega) hF_G1.2.1 (by omega)) gX6_settle_X2_save rfl kd_X2_save rfl rfl ⟨Nat.le_of_ble_eq_true rfl, Nat.le_of_ble_eq_true rfl⟩ (by omega) hF_G1.2.2.2.2.1.1 rfl rfl rfl (Nat.le_of_ble_eq_true rfl) ⟨(Nat.le_of_ble_eq_true rfl), (Nat.le_of_ble_eq_true rfl)⟩ dX6_settle_29 (fun G3 hG3 => ?_)
    have hb_B_G3 := hF_G1.2.1.keep (fun j h8 h9 => hG3.2 j (by omega))
    have hb_A_G3 := hF_G1.2.2.1.keep (fun j h8 h9 => hG3.2 j (by omega))
    have hb_X_G3 := hF_G1.2.2.2.1.keep (fun j h8 h9 => hG3.2 j (by omega))
    have hb_H_G3 := hG3.1
    have hb_Z0_G3 := hF_G1.2.2.2.2.2.1.keep (fun j h8 h9 => hG3.2 j (by omega))
    have hb_Z1_G3 := hF_G1.2.2.2.2.2.2.keep (fun j h8 h9 => hG3.2 j (by omega))
    have h_0_G3 : G3 0 = .inr (6, [.ref (ad 1), .ref (ad 8), .ref (ad 11), .ref (ad 13), .ref (ad 57), .ref (ad 65)]) := (hG3.2 0 (by omega)).trans hF_G1.1
    refine k_aload_n C dX6_settle_32 rfl (j := 0) rfl ?_
    refine k_get C 0 inX6_settle_6 (by omega) h_0_G3 rfl 0 (by decide) (List.mem_of_getElem? (i := 4) rfl) rfl rfl dX6_settle_33 ?_
    refine k_aload_n C dX6_settle_36 rfl (j := 0) rfl ?_
    refine k_get C 0 inX6_settle_6 (by omega) h_0_G3 rfl 1 (by decide) (List.mem_of_getElem? (i := 5) rfl) rfl rfl dX6_settle_37 ?_
    refine k_callVv C (As := [.ref (ad 8)]) (rest := []) 1 (m_X1_settleBy l D cI cC cZ cB cJ ad N G3 1 v 8 w_G1 (by omega) hb_B_G3 (by omega) hb_A_G3 (by omega)) gX6_settle_X1_settleBy rfl kd_X1_settleBy rfl rfl ⟨Nat.le_of_ble_eq_true rfl, Nat.le_of_ble_eq_true rfl⟩ (by omega) hb_B_G3.1 rfl rfl rfl (Nat.le_of_ble_eq_true rfl) ⟨(Nat.le_of_ble_eq_true rfl), (Nat.le_of_ble_eq_true rfl)⟩ dX6_settle_40 (fun G4 hG4 => ?_)
    have hb_B_G4 := hG4.1
    have hb_A_G4 := hb_A_G3.keep (fun j h8 h9 => hG4.2 j (by omega))
    have hb_X_G4 := hb_X_G3.keep (fun j h8 h9 => hG4.2 j (by omega))
    have hb_H_G4 := hb_H_G3.keep (fun j h8 h9 => hG4.2 j (by omega))
    have hb_Z0_G4 := hb_Z0_G3.keep (fun j h8 h9 => hG4.2 j (by omega))
    have hb_Z1_G4 := hb_Z1_G3.keep (fun j h8 h9 => hG4.2 j (by omega))
    have h_0_G4 : G4 0 = .inr (6, [.ref (ad 1), .ref (ad 8), .ref (ad 11), .ref (ad 13), .ref (ad 57), .ref (ad 65)]) := (hG4.2 0 (by omega)).trans h_0_G3
    refine k_aload_n C dX6_settle_43 rfl (j := 0) rfl ?_
    refine k_get C 0 inX6_settle_6 (by omega) h_0_G4 rfl 2 (by decide) (List.mem_of_getElem? (i := 6) rfl) rfl rfl dX6_settle_44 ?_
    refine k_callVv C (As := []) (rest := []) 11 (m_X5_empty l D cI cC cZ cB cJ ad N G4 11 x (by omega) hb_X_G4) gX6_settle_X5_empty rfl kd_X5_empty rfl rfl ⟨Nat.le_of_ble_eq_true rfl, Nat.le_of_ble_eq_true rfl⟩ (by omega) hb_X_G4.1 rfl rfl rfl (Nat.le_of_ble_eq_true rfl) ⟨(Nat.le_of_ble_eq_true rfl), (Nat.le_of_ble_eq_true rfl)⟩ dX6_settle_47 (fun G5 hG5 => ?_)
    have hb_B_G5 := hb_B_G4.keep (fun j h8 h9 => hG5.2 j (by omega))
    have hb_A_G5 := hb_A_G4.keep (fun j h8 h9 => hG5.2 j (by omega))
    have hb_X_G5 := hG5.1
    have hb_H_G5 := hb_H_G4.keep (fun j h8 h9 => hG5.2 j (by omega))
    have hb_Z0_G5 := hb_Z0_G4.keep (fun j h8 h9 => hG5.2 j (by omega))
    have hb_Z1_G5 := hb_Z1_G4.keep (fun j h8 h9 => hG5.2 j (by omega))
    have h_0_G5 : G5 0 = .inr (6, [.ref (ad 1), .ref (ad 8), .ref (ad 11), .ref (ad 13), .ref (ad 57), .ref (ad 65)]) := (hG5.2 0 (by omega)).trans h_0_G4
    refine k_aload_n C dX6_settle_50 rfl (j := 0) rfl ?_
    refine k_get C 0 inX6_settle_6 (by omega) h_0_G5 rfl 0 (by decide) (List.mem_of_getElem? (i := 4) rfl) rfl rfl dX6_settle_51 ?_
    refine k_callVir C (As := []) (rest := []) 1 (m_X1_won l D cI cC cZ cB cJ ad N G5 1 (jSettle v w_G1) (by omega) hb_B_G5) gX6_settle_X1_won rfl kd_X1_won rfl rfl ⟨Nat.le_of_ble_eq_true rfl, Nat.le_of_ble_eq_true rfl⟩ (by omega) hb_B_G5.1 rfl rfl rfl (Nat.le_of_ble_eq_true rfl) ⟨(Nat.le_of_ble_eq_true rfl), (Nat.le_of_ble_eq_true rfl)⟩ dX6_settle_54 ?_
    exact kx_iret C hQ rfl rfl (Nat.le_of_ble_eq_true rfl) (Nat.le_of_ble_eq_true rfl) dX6_settle_57 ⟨by simp [xSettle, eN, e_4, hq_21], by rw [jSettle_eq (hra e_4)], _, by rw [← jSettle_eq (hra e_4)]; exact ⟨h_0_G5, hb_B_G5, hb_A_G5, hb_X_G5, hb_H_G5, hb_Z0_G5, hb_Z1_G5⟩, fun j hj => (hG5.2 j (by omega) : _).trans ((hG4.2 j (by omega) : _).trans ((hG3.2 j (by omega) : _).trans (hfr_G1 j (by omega))))⟩
  · skip
    have e_4 := bI_f c_4
    exact kx_throwS C X hQ (text := "the buffer tells no arrival of horses that run") kxM_eIA kxF_eIA (by decide +kernel) (List.mem_of_getElem? (i := 1) rfl) (List.mem_of_getElem? (i := 2) rfl) inxX6_settle_115 kxB_eIA kxG_eIA dX6_settle_7 dX6_settle_10 dX6_settle_11 dX6_settle_13 dX6_settle_16 (Nat.le_of_ble_eq_true rfl) (Nat.le_of_ble_eq_true rfl) (Nat.le_of_ble_eq_true rfl) (Nat.le_of_ble_eq_true rfl) (Nat.le_of_ble_eq_true rfl) (Nat.le_of_ble_eq_true rfl) ⟨by simp [xSettle, eN, e_4], by simp [xSettle, eN, e_4], _, ⟨hF_G1.1, hF_G1.2.1, hF_G1.2.2.1, hF_G1.2.2.2.1, hF_G1.2.2.2.2.1, hF_G1.2.2.2.2.2.1, hF_G1.2.2.2.2.2.2⟩, fun j hj => hfr_G1 j (by omega)⟩
theorem inX6_set_6 : ∀ w ∈ wsX60, w ∈ wsX6_set := fun _ h => List.mem_cons_of_mem _ (List.mem_append_left _ (List.mem_append_left _ (List.mem_append_left _ (List.mem_append_left _ (List.mem_append_left _ (List.mem_append_left _ (List.mem_append_right _ h)))))))
theorem inX6_set_1 : ∀ w ∈ wsX10, w ∈ wsX6_set := fun _ h => List.mem_cons_of_mem _ (List.mem_append_left _ (List.mem_append_left _ (List.mem_append_left _ (List.mem_append_left _ (List.mem_append_left _ (List.mem_append_right _ h))))))
theorem inX6_set_2 : ∀ w ∈ wsX20, w ∈ wsX6_set := fun _ h => List.mem_cons_of_mem _ (List.mem_append_left _ (List.mem_append_left _ (List.mem_append_left _ (List.mem_append_left _ (List.mem_append_right _ h)))))
theorem inX6_set_4 : ∀ w ∈ wsX40, w ∈ wsX6_set := fun _ h => List.mem_cons_of_mem _ (List.mem_append_left _ (List.mem_append_left _ (List.mem_append_left _ (List.mem_append_right _ h))))
theorem inxX6_set_115 : ∀ w ∈ (vx_atS RX6 115 eIA kUp).filter goodWord, w ∈ wsX6_set := fun _ h => List.mem_cons_of_mem _ (List.mem_append_left _ (List.mem_append_left _ (List.mem_append_right _ h)))
theorem inxX6_set_261 : ∀ w ∈ (vx_atS RX6 261 eIX kUp).filter goodWord, w ∈ wsX6_set := fun _ h => List.mem_cons_of_mem _ (List.mem_append_left _ (List.mem_append_right _ h))
theorem inxX6_set_157 : ∀ w ∈ (vx_atS RX6 157 eIS kUp).filter goodWord, w ∈ wsX6_set := fun _ h => List.mem_cons_of_mem _ (List.mem_append_right _ h)
theorem kd_X6_set : yX6_set.cls = RX6 ∧ yX6_set.cls ≠ "java/lang/invoke/MethodHandle" ∧ yX6_set.cls ≠ "java/lang/invoke/VarHandle" ∧ (parseMethodDescriptor yX6_set.desc).map (fun d => d.parameters.length) = some 2 := by decide +kernel
abbrev rX6_set : Room := ({ frames := 7, cells := 3, slots := 18, locals := 124 } : Room)
set_option maxRecDepth 100000 in
set_option maxHeartbeats 4000000 in
/-- set -/
theorem m_X6_set (l : Launch) (D : va_G) (cI cC cZ cB cJ : ClassId) (ad : Nat → Nat) (N : Nat) (G : Nat → va_E) (v : BV) (w : AV) (x : TV) (hi : HV) (z0 z1 : ZV) (k0 y : Int32) (hl0 : l.stackTraces = false) (hN : 73 ≤ N) (hF : isFB ad cI cB G v w x hi z0 z1) : kXi l yX6_set wsX6_set rX6_set D (kT5 cI cC cZ cB cJ) ad N G [.ref (ad 0), .int k0, .int y] 3 18 (fun r G' => xSet v k0 y = 0 ∧ r = jSetting v k0 ∧ ∃ w', isFB ad cI cB G' (jSetV v k0 y) w' (x) (hSave hi v) (z0) (z1) ∧ ∀ j, 73 ≤ j → G' j = G j) (fun E G' => E = eN (xSet v k0 y) eIX eIA eIS ∧ xSet v k0 y ≠ 0 ∧ ∃ w', isFB ad cI cB G' v w' x hi z0 z1 ∧ ∀ j, 73 ≤ j → G' j = G j) := by
  refine kx_starti (cc := cX6_set) (ret := (some .int)) (maxL := 4) (lv0 := [(0, .ref (ad 0)), (1, .int k0), (2, .int y)]) hl0 (by decide) rfl (Nat.le_of_ble_eq_true rfl) rfl ?_
  intro p e s m args below meth c A Q C X hQ
  have hlH := hF.2.1.2.2.2.2.1
  have hlB := hF.2.1.2.2.2.2.2.1
  have hlL := hF.2.1.2.2.2.2.2.2
  have hlX := hF.2.2.2.1.2.2
  have hlN := hF.2.2.2.2.1.2.2.2.1
  have hlZ := hF.2.2.2.2.1.2.2.2.2
  refine k_iload_n C dX6_set_0 rfl (j := 1) rfl ?_
  refine kx_callSv C X hQ (As := [.int k0]) (rest := []) (m_X6_requireSetting l D cI cC cZ cB cJ ad N G k0 hl0) (fun E G' h9 => by obtain ⟨rfl, h8, rfl⟩ := h9; exact ⟨by simp [xSet, eN, h8], by simp [xSet, eN, h8], _, ⟨hF.1, hF.2.1, hF.2.2.1, hF.2.2.2.1, hF.2.2.2.2.1, hF.2.2.2.2.2.1, hF.2.2.2.2.2.2⟩, fun _ _ => rfl⟩) gX6_set_X6_requireSetting rfl kd_X6_requireSetting rfl rfl ⟨(Nat.le_of_ble_eq_true rfl), (Nat.le_of_ble_eq_true rfl)⟩ rfl rfl (Nat.le_of_ble_eq_true rfl) ⟨(Nat.le_of_ble_eq_true rfl), (Nat.le_of_ble_eq_true rfl)⟩ (Nat.le_of_ble_eq_true rfl) (Nat.le_of_ble_eq_true rfl) dX6_set_1 (fun G1 hG1 => ?_)
  have hq_4 := hG1.1
  have e_G1 := hG1.2
  subst e_G1
  refine k_iload_n C dX6_set_4 rfl (j := 1) rfl ?_
  refine k_iload_n C dX6_set_5 rfl (j := 2) rfl ?_
  refine k_callSir C (As := [.int k0, .int y]) (rest := []) (m_X6_fits l D cI cC cZ cB cJ ad N G k0 y) gX6_set_X6_fits rfl kd_X6_fits rfl rfl ⟨Nat.le_of_ble_eq_true rfl, Nat.le_of_ble_eq_true rfl⟩ rfl rfl (Nat.le_of_ble_eq_true rfl) ⟨(Nat.le_of_ble_eq_true rfl), (Nat.le_of_ble_eq_true rfl)⟩ dX6_set_6 ?_
  refine k_if_ne C 22 dX6_set_9 (by decide) (fun c_9 => ?_) (fun c_9 => ?_)
  · skip
    have e_9 := bI_t c_9
    refine k_aload_n C dX6_set_22 rfl (j := 0) rfl ?_
    refine kx_callVv C X hQ (As := []) (rest := []) 0 (m_X6_requireOpen l D cI cC cZ cB cJ ad N G v w x hi z0 z1 hl0 (by omega) ⟨hF.1, hF.2.1, hF.2.2.1, hF.2.2.2.1, hF.2.2.2.2.1, hF.2.2.2.2.2.1, hF.2.2.2.2.2.2⟩) (fun E G' h9 => by obtain ⟨rfl, h8, rfl⟩ := h9; exact ⟨by simp [xSet, eN, hq_4, e_9, h8], by simp [xSet, eN, hq_4, e_9, h8], _, ⟨hF.1, hF.2.1, hF.2.2.1, hF.2.2.2.1, hF.2.2.2.2.1, hF.2.2.2.2.2.1, hF.2.2.2.2.2.2⟩, fun _ _ => rfl⟩) gX6_set_X6_requireOpen rfl kd_X6_requireOpen rfl rfl ⟨(Nat.le_of_ble_eq_true rfl), (Nat.le_of_ble_eq_true rfl)⟩ (by omega) hF.1 rfl rfl rfl (Nat.le_of_ble_eq_true rfl) ⟨(Nat.le_of_ble_eq_true rfl), (Nat.le_of_ble_eq_true rfl)⟩ (Nat.le_of_ble_eq_true rfl) (Nat.le_of_ble_eq_true rfl) dX6_set_23 (fun G2 hG2 => ?_)
    have hq_26 := hG2.1
    have e_G2 := hG2.2
    subst e_G2
    refine k_aload_n C dX6_set_26 rfl (j := 0) rfl ?_
    refine k_get C 0 inX6_set_6 (by omega) hF.1 rfl 3 (by decide) (List.mem_of_getElem? (i := 3) rfl) rfl rfl dX6_set_27 ?_
    refine k_aload_n C dX6_set_30 rfl (j := 0) rfl ?_
    refine k_get C 0 inX6_set_6 (by omega) hF.1 rfl 0 (by decide) (List.mem_of_getElem? (i := 4) rfl) rfl rfl dX6_set_31 ?_
    refine k_callVv C (As := [.ref (ad 1)]) (rest := []) 13 (m_X2_save l D cI cC cZ cB cJ ad N G 13 hi 1 v (by omega) hF.2.2.2.2.1 (by omega) hF.2.1 (by omega)) gX6_set_X2_save rfl kd_X2_save rfl rfl ⟨Nat.le_of_ble_eq_true rfl, Nat.le_of_ble_eq_true rfl⟩ (by omega) hF.2.2.2.2.1.1 rfl rfl rfl (Nat.le_of_ble_eq_true rfl) ⟨(Nat.le_of_ble_eq_true rfl), (Nat.le_of_ble_eq_true rfl)⟩ dX6_set_34 (fun G3 hG3 => ?_)
    have hb_B_G3 := hF.2.1.keep (fun j h8 h9 => hG3.2 j (by omega))
    have hb_A_G3 := hF.2.2.1.keep (fun j h8 h9 => hG3.2 j (by omega))
    have hb_X_G3 := hF.2.2.2.1.keep (fun j h8 h9 => hG3.2 j (by omega))
    have hb_H_G3 := hG3.1
    have hb_Z0_G3 := hF.2.2.2.2.2.1.keep (fun j h8 h9 => hG3.2 j (by omega))
    have hb_Z1_G3 := hF.2.2.2.2.2.2.keep (fun j h8 h9 => hG3.2 j (by omega))
    have h_0_G3 : G3 0 = .inr (6, [.ref (ad 1), .ref (ad 8), .ref (ad 11), .ref (ad 13), .ref (ad 57), .ref (ad 65)]) := (hG3.2 0 (by omega)).trans hF.1
    refine k_aload_n C dX6_set_37 rfl (j := 0) rfl ?_
    refine k_iload_n C dX6_set_38 rfl (j := 1) rfl ?_
    refine k_callVir C (As := [.int k0]) (rest := []) 0 (m_X6_settingNow l D cI cC cZ cB cJ ad N G3 v w x (hSave hi v) z0 z1 k0 (by omega) ⟨h_0_G3, hb_B_G3, hb_A_G3, hb_X_G3, hb_H_G3, hb_Z0_G3, hb_Z1_G3⟩ ) gX6_set_X6_settingNow rfl kd_X6_settingNow rfl rfl ⟨Nat.le_of_ble_eq_true rfl, Nat.le_of_ble_eq_true rfl⟩ (by omega) h_0_G3 rfl rfl rfl (Nat.le_of_ble_eq_true rfl) ⟨(Nat.le_of_ble_eq_true rfl), (Nat.le_of_ble_eq_true rfl)⟩ dX6_set_39 ?_
    refine k_istore_n C (lv' := [(3, .int (jSetting v k0)), (0, .ref (ad 0)), (1, .int k0), (2, .int y)]) dX6_set_42 rfl (by decide) rfl ?_
    refine k_iload_n C dX6_set_43 rfl (j := 2) rfl ?_
    refine k_if_ne C 58 dX6_set_44 (by decide) (fun c_44 => ?_) (fun c_44 => ?_)
    · skip
      refine k_aload_n C dX6_set_58 rfl (j := 1) rfl ?_
      refine k_get C 0 inX6_set_6 (by omega) h_0_G3 rfl 0 (by decide) (List.mem_of_getElem? (i := 4) rfl) rfl rfl dX6_set_59 ?_
      refine k_iload_n C dX6_set_62 rfl (j := 3) rfl ?_
      refine k_put C 1 inX6_set_1 tyX1 tyX1_ok nmX1 (by omega) hb_B_G3.1 rfl 5 (by decide) (List.mem_of_getElem? (i := 6) rfl) rfl rfl rfl rfl (Nat.le_of_ble_eq_true rfl) dX6_set_63 (fun G4 hG4 => ?_)
      have hb_B_G4 := (hb_B_G3.s (up_it hG4) (fun j h8 => by rw [hG4, up_ne h8]) : isBk ad cI G4 1 (bSet v (bvS v) (bvP v) y))
      have hb_A_G4 := hb_A_G3.keep (fun j h8 h9 => (fun j (hj9 : j < 1 ∨ 1 + 7 ≤ j) => show G4 j = G3 j from by rw [hG4, up_ne (by omega)]) j (by omega))
      have hb_X_G4 := hb_X_G3.keep (fun j h8 h9 => (fun j (hj9 : j < 1 ∨ 1 + 7 ≤ j) => show G4 j = G3 j from by rw [hG4, up_ne (by omega)]) j (by omega))
      have hb_H_G4 := hb_H_G3.keep (fun j h8 h9 => (fun j (hj9 : j < 1 ∨ 1 + 7 ≤ j) => show G4 j = G3 j from by rw [hG4, up_ne (by omega)]) j (by omega))
      have hb_Z0_G4 := hb_Z0_G3.keep (fun j h8 h9 => (fun j (hj9 : j < 1 ∨ 1 + 7 ≤ j) => show G4 j = G3 j from by rw [hG4, up_ne (by omega)]) j (by omega))
      have hb_Z1_G4 := hb_Z1_G3.keep (fun j h8 h9 => (fun j (hj9 : j < 1 ∨ 1 + 7 ≤ j) => show G4 j = G3 j from by rw [hG4, up_ne (by omega)]) j (by omega))
      have h_0_G4 : G4 0 = .inr (6, [.ref (ad 1), .ref (ad 8), .ref (ad 11), .ref (ad 13), .ref (ad 57), .ref (ad 65)]) := ((fun j (hj9 : j < 1 ∨ 1 + 7 ≤ j) => show G4 j = G3 j from by rw [hG4, up_ne (by omega)]) 0 (by omega)).trans h_0_G3
      refine k_iload_n C dX6_set_66 rfl (j := 0) rfl ?_
      exact kx_iret C hQ rfl rfl (Nat.le_of_ble_eq_true rfl) (Nat.le_of_ble_eq_true rfl) dX6_set_67 ⟨by simp [xSet, eN, hq_4, e_9, hq_26], rfl, _, by rw [jSetV, if_neg c_44]; exact ⟨h_0_G4, hb_B_G4, hb_A_G4, hb_X_G4, hb_H_G4, hb_Z0_G4, hb_Z1_G4⟩, fun j hj => ((fun j (hj9 : j < 1 ∨ 1 + 7 ≤ j) => show G4 j = G3 j from by rw [hG4, up_ne (by omega)]) j (by omega) : _).trans (hG3.2 j (by omega))⟩
    · skip
      refine k_aload_n C dX6_set_47 rfl (j := 1) rfl ?_
      refine k_get C 0 inX6_set_6 (by omega) h_0_G3 rfl 0 (by decide) (List.mem_of_getElem? (i := 4) rfl) rfl rfl dX6_set_48 ?_
      refine k_iload_n C dX6_set_51 rfl (j := 3) rfl ?_
      refine k_put C 1 inX6_set_1 tyX1 tyX1_ok nmX1 (by omega) hb_B_G3.1 rfl 4 (by decide) (List.mem_of_getElem? (i := 5) rfl) rfl rfl rfl rfl (Nat.le_of_ble_eq_true rfl) dX6_set_52 (fun G5 hG5 => ?_)
      have hb_B_G5 := (hb_B_G3.s (up_it hG5) (fun j h8 => by rw [hG5, up_ne h8]) : isBk ad cI G5 1 (bSet v (bvS v) y (bvO v)))
      have hb_A_G5 := hb_A_G3.keep (fun j h8 h9 => (fun j (hj9 : j < 1 ∨ 1 + 7 ≤ j) => show G5 j = G3 j from by rw [hG5, up_ne (by omega)]) j (by omega))
      have hb_X_G5 := hb_X_G3.keep (fun j h8 h9 => (fun j (hj9 : j < 1 ∨ 1 + 7 ≤ j) => show G5 j = G3 j from by rw [hG5, up_ne (by omega)]) j (by omega))
      have hb_H_G5 := hb_H_G3.keep (fun j h8 h9 => (fun j (hj9 : j < 1 ∨ 1 + 7 ≤ j) => show G5 j = G3 j from by rw [hG5, up_ne (by omega)]) j (by omega))
      have hb_Z0_G5 := hb_Z0_G3.keep (fun j h8 h9 => (fun j (hj9 : j < 1 ∨ 1 + 7 ≤ j) => show G5 j = G3 j from by rw [hG5, up_ne (by omega)]) j (by omega))
      have hb_Z1_G5 := hb_Z1_G3.keep (fun j h8 h9 => (fun j (hj9 : j < 1 ∨ 1 + 7 ≤ j) => show G5 j = G3 j from by rw [hG5, up_ne (by omega)]) j (by omega))
      have h_0_G5 : G5 0 = .inr (6, [.ref (ad 1), .ref (ad 8), .ref (ad 11), .ref (ad 13), .ref (ad 57), .ref (ad 65)]) := ((fun j (hj9 : j < 1 ∨ 1 + 7 ≤ j) => show G5 j = G3 j from by rw [hG5, up_ne (by omega)]) 0 (by omega)).trans h_0_G3
      refine k_goto C 66 dX6_set_55 (by decide) ?_
      refine k_iload_n C dX6_set_66 rfl (j := 0) rfl ?_
      exact kx_iret C hQ rfl rfl (Nat.le_of_ble_eq_true rfl) (Nat.le_of_ble_eq_true rfl) dX6_set_67 ⟨by simp [xSet, eN, hq_4, e_9, hq_26], rfl, _, by rw [jSetV, if_pos c_44]; exact ⟨h_0_G5, hb_B_G5, hb_A_G5, hb_X_G5, hb_H_G5, hb_Z0_G5, hb_Z1_G5⟩, fun j hj => ((fun j (hj9 : j < 1 ∨ 1 + 7 ≤ j) => show G5 j = G3 j from by rw [hG5, up_ne (by omega)]) j (by omega) : _).trans (hG3.2 j (by omega))⟩
  · skip
    have e_9 := bI_f c_9
    exact kx_throwS C X hQ (text := "the value is out of range") kxM_eIA kxF_eIA (by decide +kernel) (List.mem_of_getElem? (i := 1) rfl) (List.mem_of_getElem? (i := 2) rfl) inxX6_set_115 kxB_eIA kxG_eIA dX6_set_12 dX6_set_15 dX6_set_16 dX6_set_18 dX6_set_21 (Nat.le_of_ble_eq_true rfl) (Nat.le_of_ble_eq_true rfl) (Nat.le_of_ble_eq_true rfl) (Nat.le_of_ble_eq_true rfl) (Nat.le_of_ble_eq_true rfl) (Nat.le_of_ble_eq_true rfl) ⟨by simp [xSet, eN, hq_4, e_9], by simp [xSet, eN, hq_4, e_9], _, ⟨hF.1, hF.2.1, hF.2.2.1, hF.2.2.2.1, hF.2.2.2.2.1, hF.2.2.2.2.2.1, hF.2.2.2.2.2.2⟩, fun _ _ => rfl⟩
theorem inX6_append_6 : ∀ w ∈ wsX60, w ∈ wsX6_append := fun _ h => List.mem_cons_of_mem _ (List.mem_append_left _ (List.mem_append_left _ (List.mem_append_left _ (List.mem_append_right _ h))))
theorem inX6_append_5 : ∀ w ∈ wsX50, w ∈ wsX6_append := fun _ h => List.mem_cons_of_mem _ (List.mem_append_left _ (List.mem_append_left _ (List.mem_append_right _ h)))
theorem inxX6_append_115 : ∀ w ∈ (vx_atS RX6 115 eIA kUp).filter goodWord, w ∈ wsX6_append := fun _ h => List.mem_cons_of_mem _ (List.mem_append_left _ (List.mem_append_right _ h))
theorem inxX6_append_157 : ∀ w ∈ (vx_atS RX6 157 eIS kUp).filter goodWord, w ∈ wsX6_append := fun _ h => List.mem_cons_of_mem _ (List.mem_append_right _ h)
theorem kd_X6_append : yX6_append.cls = RX6 ∧ yX6_append.cls ≠ "java/lang/invoke/MethodHandle" ∧ yX6_append.cls ≠ "java/lang/invoke/VarHandle" ∧ (parseMethodDescriptor yX6_append.desc).map (fun d => d.parameters.length) = some 1 := by decide +kernel
abbrev rX6_append : Room := ({ frames := 6, cells := 1, slots := 6, locals := 92 } : Room)
set_option maxRecDepth 100000 in
set_option maxHeartbeats 4000000 in
/-- append -/
theorem m_X6_append (l : Launch) (D : va_G) (cI cC cZ cB cJ : ClassId) (ad : Nat → Nat) (N : Nat) (G : Nat → va_E) (v : BV) (w : AV) (x : TV) (hi : HV) (z0 z1 : ZV) (y : Int32) (hl0 : l.stackTraces = false) (hN : 73 ≤ N) (hF : isFB ad cI cB G v w x hi z0 z1) : kXi l yX6_append wsX6_append rX6_append D (kT5 cI cC cZ cB cJ) ad N G [.ref (ad 0), .int y] 1 6 (fun r G' => xAppend x y = 0 ∧ r = nI (txN (jAdd x y)) ∧ ∃ w', isFB ad cI cB G' (v) w' (jAdd x y) (hi) (z0) (z1) ∧ ∀ j, 73 ≤ j → G' j = G j) (fun E G' => E = eN (xAppend x y) eIA eIS eIS ∧ xAppend x y ≠ 0 ∧ ∃ w', isFB ad cI cB G' v w' x hi z0 z1 ∧ ∀ j, 73 ≤ j → G' j = G j) := by
  refine kx_starti (cc := cX6_append) (ret := (some .int)) (maxL := 2) (lv0 := [(0, .ref (ad 0)), (1, .int y)]) hl0 (by decide) rfl (Nat.le_of_ble_eq_true rfl) rfl ?_
  intro p e s m args below meth c A Q C X hQ
  have hlH := hF.2.1.2.2.2.2.1
  have hlB := hF.2.1.2.2.2.2.2.1
  have hlL := hF.2.1.2.2.2.2.2.2
  have hlX := hF.2.2.2.1.2.2
  have hlN := hF.2.2.2.2.1.2.2.2.1
  have hlZ := hF.2.2.2.2.1.2.2.2.2
  refine k_iload_n C dX6_append_0 rfl (j := 1) rfl ?_
  refine k_bipush C (v := 33) dX6_append_1 (by decide) ?_
  refine k_icmp_lt C 12 dX6_append_3 (by decide) (fun c_3 => ?_) (fun c_3 => ?_)
  · skip
    have e_3 : jCodeOk y = false := by simp [jCodeOk, c_3]
    exact kx_throwS C X hQ (text := "the code is not 33 to 126") kxM_eIA kxF_eIA (by decide +kernel) (List.mem_of_getElem? (i := 1) rfl) (List.mem_of_getElem? (i := 2) rfl) inxX6_append_115 kxB_eIA kxG_eIA dX6_append_12 dX6_append_15 dX6_append_16 dX6_append_18 dX6_append_21 (Nat.le_of_ble_eq_true rfl) (Nat.le_of_ble_eq_true rfl) (Nat.le_of_ble_eq_true rfl) (Nat.le_of_ble_eq_true rfl) (Nat.le_of_ble_eq_true rfl) (Nat.le_of_ble_eq_true rfl) ⟨by simp [xAppend, eN, e_3, c_3], by simp [xAppend, eN, e_3, c_3], _, ⟨hF.1, hF.2.1, hF.2.2.1, hF.2.2.2.1, hF.2.2.2.2.1, hF.2.2.2.2.2.1, hF.2.2.2.2.2.2⟩, fun _ _ => rfl⟩
  · skip
    refine k_iload_n C dX6_append_6 rfl (j := 1) rfl ?_
    refine k_bipush C (v := 126) dX6_append_7 (by decide) ?_
    refine k_icmp_le C 22 dX6_append_9 (by decide) (fun c_9 => ?_) (fun c_9 => ?_)
    · skip
      refine k_aload_n C dX6_append_22 rfl (j := 0) rfl ?_
      refine k_get C 0 inX6_append_6 (by omega) hF.1 rfl 2 (by decide) (List.mem_of_getElem? (i := 5) rfl) rfl rfl dX6_append_23 ?_
      refine k_callVir C (As := []) (rest := []) 11 (m_X5_isFull l D cI cC cZ cB cJ ad N G 11 x (by omega) hF.2.2.2.1) gX6_append_X5_isFull rfl kd_X5_isFull rfl rfl ⟨Nat.le_of_ble_eq_true rfl, Nat.le_of_ble_eq_true rfl⟩ (by omega) hF.2.2.2.1.1 rfl rfl rfl (Nat.le_of_ble_eq_true rfl) ⟨(Nat.le_of_ble_eq_true rfl), (Nat.le_of_ble_eq_true rfl)⟩ dX6_append_26 ?_
      refine k_if_eq C 42 dX6_append_29 (by decide) (fun c_29 => ?_) (fun c_29 => ?_)
      · skip
        have e_29 := bI_f c_29
        have e_30 : ¬ 30 ≤ txN x := by simpa using e_29
        have e_3 : jCodeOk y = true := by simp [jCodeOk, c_3, c_9]
        refine k_aload_n C dX6_append_42 rfl (j := 0) rfl ?_
        refine k_get C 0 inX6_append_6 (by omega) hF.1 rfl 2 (by decide) (List.mem_of_getElem? (i := 5) rfl) rfl rfl dX6_append_43 ?_
        refine k_iload_n C dX6_append_46 rfl (j := 1) rfl ?_
        refine k_callVv C (As := [.int y]) (rest := []) 11 (m_X5_add l D cI cC cZ cB cJ ad N G 11 x y (by omega) hF.2.2.2.1) gX6_append_X5_add rfl kd_X5_add rfl rfl ⟨Nat.le_of_ble_eq_true rfl, Nat.le_of_ble_eq_true rfl⟩ (by omega) hF.2.2.2.1.1 rfl rfl rfl (Nat.le_of_ble_eq_true rfl) ⟨(Nat.le_of_ble_eq_true rfl), (Nat.le_of_ble_eq_true rfl)⟩ dX6_append_47 (fun G1 hG1 => ?_)
        have hb_B_G1 := hF.2.1.keep (fun j h8 h9 => hG1.2 j (by omega))
        have hb_A_G1 := hF.2.2.1.keep (fun j h8 h9 => hG1.2 j (by omega))
        have hb_X_G1 := hG1.1
        have hb_H_G1 := hF.2.2.2.2.1.keep (fun j h8 h9 => hG1.2 j (by omega))
        have hb_Z0_G1 := hF.2.2.2.2.2.1.keep (fun j h8 h9 => hG1.2 j (by omega))
        have hb_Z1_G1 := hF.2.2.2.2.2.2.keep (fun j h8 h9 => hG1.2 j (by omega))
        have h_0_G1 : G1 0 = .inr (6, [.ref (ad 1), .ref (ad 8), .ref (ad 11), .ref (ad 13), .ref (ad 57), .ref (ad 65)]) := (hG1.2 0 (by omega)).trans hF.1
        refine k_aload_n C dX6_append_50 rfl (j := 0) rfl ?_
        refine k_get C 0 inX6_append_6 (by omega) h_0_G1 rfl 2 (by decide) (List.mem_of_getElem? (i := 5) rfl) rfl rfl dX6_append_51 ?_
        refine k_callVir C (As := []) (rest := []) 11 (m_X5_length l D cI cC cZ cB cJ ad N G1 11 ((if txN x < 30 then (upd (txC x) (txN x) y, txN x + 1) else x)) (by omega) hb_X_G1) gX6_append_X5_length rfl kd_X5_length rfl rfl ⟨Nat.le_of_ble_eq_true rfl, Nat.le_of_ble_eq_true rfl⟩ (by omega) hb_X_G1.1 rfl rfl rfl (Nat.le_of_ble_eq_true rfl) ⟨(Nat.le_of_ble_eq_true rfl), (Nat.le_of_ble_eq_true rfl)⟩ dX6_append_54 ?_
        exact kx_iret C hQ rfl rfl (Nat.le_of_ble_eq_true rfl) (Nat.le_of_ble_eq_true rfl) dX6_append_57 ⟨by simp [xAppend, eN, e_30, e_3], rfl, _, ⟨h_0_G1, hb_B_G1, hb_A_G1, hb_X_G1, hb_H_G1, hb_Z0_G1, hb_Z1_G1⟩, fun j hj => hG1.2 j (by omega)⟩
      · skip
        have e_29 := bI_t c_29
        have e_30 : 30 ≤ txN x := by simpa using e_29
        have e_3 : jCodeOk y = true := by simp [jCodeOk, c_3, c_9]
        exact kx_throwS C X hQ (text := "the buffer is full") kxM_eIS kxF_eIS (by decide +kernel) (List.mem_of_getElem? (i := 3) rfl) (List.mem_of_getElem? (i := 4) rfl) inxX6_append_157 kxB_eIS kxG_eIS dX6_append_32 dX6_append_35 dX6_append_36 dX6_append_38 dX6_append_41 (Nat.le_of_ble_eq_true rfl) (Nat.le_of_ble_eq_true rfl) (Nat.le_of_ble_eq_true rfl) (Nat.le_of_ble_eq_true rfl) (Nat.le_of_ble_eq_true rfl) (Nat.le_of_ble_eq_true rfl) ⟨by simp [xAppend, eN, e_30, e_3], by simp [xAppend, eN, e_30, e_3], _, ⟨hF.1, hF.2.1, hF.2.2.1, hF.2.2.2.1, hF.2.2.2.2.1, hF.2.2.2.2.2.1, hF.2.2.2.2.2.2⟩, fun _ _ => rfl⟩
    · skip
      have e_3 : jCodeOk y = false := by simp [jCodeOk, c_9]
      exact kx_throwS C X hQ (text := "the code is not 33 to 126") kxM_eIA kxF_eIA (by decide +kernel) (List.mem_of_getElem? (i := 1) rfl) (List.mem_of_getElem? (i := 2) rfl) inxX6_append_115 kxB_eIA kxG_eIA dX6_append_12 dX6_append_15 dX6_append_16 dX6_append_18 dX6_append_21 (Nat.le_of_ble_eq_true rfl) (Nat.le_of_ble_eq_true rfl) (Nat.le_of_ble_eq_true rfl) (Nat.le_of_ble_eq_true rfl) (Nat.le_of_ble_eq_true rfl) (Nat.le_of_ble_eq_true rfl) ⟨by simp [xAppend, eN, e_3, c_3, c_9], by simp [xAppend, eN, e_3, c_3, c_9], _, ⟨hF.1, hF.2.1, hF.2.2.1, hF.2.2.2.1, hF.2.2.2.2.1, hF.2.2.2.2.2.1, hF.2.2.2.2.2.2⟩, fun _ _ => rfl⟩
theorem inX6_keep_6 : ∀ w ∈ wsX60, w ∈ wsX6_keep := fun _ h => List.mem_cons_of_mem _ (List.mem_append_left _ (List.mem_append_left _ (List.mem_append_left _ (List.mem_append_left _ (List.mem_append_right _ h)))))
theorem inX6_keep_1 : ∀ w ∈ wsX10, w ∈ wsX6_keep := fun _ h => List.mem_cons_of_mem _ (List.mem_append_left _ (List.mem_append_left _ (List.mem_append_left _ (List.mem_append_right _ h))))
theorem inX6_keep_3 : ∀ w ∈ wsX30, w ∈ wsX6_keep := fun _ h => List.mem_cons_of_mem _ (List.mem_append_left _ (List.mem_append_left _ (List.mem_append_right _ h)))
theorem inX6_keep_4 : ∀ w ∈ wsX40, w ∈ wsX6_keep := fun _ h => List.mem_cons_of_mem _ (List.mem_append_left _ (List.mem_append_right _ h))
theorem inxX6_keep_115 : ∀ w ∈ (vx_atS RX6 115 eIA kUp).filter goodWord, w ∈ wsX6_keep := fun _ h => List.mem_cons_of_mem _ (List.mem_append_right _ h)
theorem kd_X6_keep : yX6_keep.cls = RX6 ∧ yX6_keep.cls ≠ "java/lang/invoke/MethodHandle" ∧ yX6_keep.cls ≠ "java/lang/invoke/VarHandle" ∧ (parseMethodDescriptor yX6_keep.desc).map (fun d => d.parameters.length) = some 1 := by decide +kernel
abbrev rX6_keep : Room := ({ frames := 7, cells := 1, slots := 6, locals := 123 } : Room)
set_option maxRecDepth 100000 in
set_option maxHeartbeats 4000000 in
/-- keep -/
theorem m_X6_keep (l : Launch) (D : va_G) (cI cC cZ cB cJ : ClassId) (ad : Nat → Nat) (N : Nat) (G : Nat → va_E) (v : BV) (w : AV) (x : TV) (hi : HV) (z0 z1 : ZV) (k0 : Int32) (hl0 : l.stackTraces = false) (hN : 73 ≤ N) (hF : isFB ad cI cB G v w x hi z0 z1) : kXi l yX6_keep wsX6_keep rX6_keep D (kT5 cI cC cZ cB cJ) ad N G [.ref (ad 0), .int k0] 1 6 (fun r G' => xKeep k0 = 0 ∧ r = nI (bnB v) ∧ ∃ w', isFB ad cI cB G' (v) w' (x) (hi) (if k0 = 0 then (bCopy z0.1 v, true) else z0) (if k0 = 0 then z1 else (bCopy z1.1 v, true)) ∧ ∀ j, 73 ≤ j → G' j = G j) (fun E G' => E = eN (xKeep k0) eIA eIA eIA ∧ xKeep k0 ≠ 0 ∧ ∃ w', isFB ad cI cB G' v w' x hi z0 z1 ∧ ∀ j, 73 ≤ j → G' j = G j) := by
  refine kx_starti (cc := cX6_keep) (ret := (some .int)) (maxL := 2) (lv0 := [(0, .ref (ad 0)), (1, .int k0)]) hl0 (by decide) rfl (Nat.le_of_ble_eq_true rfl) rfl ?_
  intro p e s m args below meth c A Q C X hQ
  have hlH := hF.2.1.2.2.2.2.1
  have hlB := hF.2.1.2.2.2.2.2.1
  have hlL := hF.2.1.2.2.2.2.2.2
  have hlX := hF.2.2.2.1.2.2
  have hlN := hF.2.2.2.2.1.2.2.2.1
  have hlZ := hF.2.2.2.2.1.2.2.2.2
  refine k_iload_n C dX6_keep_0 rfl (j := 1) rfl ?_
  refine kx_callSv C X hQ (As := [.int k0]) (rest := []) (m_X6_requireSlot l D cI cC cZ cB cJ ad N G k0 hl0) (fun E G' h9 => by obtain ⟨rfl, h8, rfl⟩ := h9; exact ⟨by simp [xKeep, eN, h8], by simp [xKeep, eN, h8], _, ⟨hF.1, hF.2.1, hF.2.2.1, hF.2.2.2.1, hF.2.2.2.2.1, hF.2.2.2.2.2.1, hF.2.2.2.2.2.2⟩, fun _ _ => rfl⟩) gX6_keep_X6_requireSlot rfl kd_X6_requireSlot rfl rfl ⟨(Nat.le_of_ble_eq_true rfl), (Nat.le_of_ble_eq_true rfl)⟩ rfl rfl (Nat.le_of_ble_eq_true rfl) ⟨(Nat.le_of_ble_eq_true rfl), (Nat.le_of_ble_eq_true rfl)⟩ (Nat.le_of_ble_eq_true rfl) (Nat.le_of_ble_eq_true rfl) dX6_keep_1 (fun G1 hG1 => ?_)
  have hq_4 := hG1.1
  have e_G1 := hG1.2
  subst e_G1
  rcases jTwo_or hq_4 with rfl | rfl
  · skip
    refine k_aload_n C dX6_keep_4 rfl (j := 0) rfl ?_
    refine k_iload_n C dX6_keep_5 rfl (j := 1) rfl ?_
    refine k_callVqr C (As := [.int 0]) (rest := []) 0 (m_X6_slotOf l D cI cC cZ cB cJ ad N G v w x hi z0 z1 0 57 (by omega) ⟨hF.1, hF.2.1, hF.2.2.1, hF.2.2.2.1, hF.2.2.2.2.1, hF.2.2.2.2.2.1, hF.2.2.2.2.2.2⟩ (Or.inl ⟨rfl, rfl⟩)) gX6_keep_X6_slotOf rfl kd_X6_slotOf rfl rfl ⟨Nat.le_of_ble_eq_true rfl, Nat.le_of_ble_eq_true rfl⟩ (by omega) hF.1 rfl rfl rfl (Nat.le_of_ble_eq_true rfl) ⟨(Nat.le_of_ble_eq_true rfl), (Nat.le_of_ble_eq_true rfl)⟩ dX6_keep_6 ?_
    refine k_aload_n C dX6_keep_9 rfl (j := 0) rfl ?_
    refine k_get C 0 inX6_keep_6 (by omega) hF.1 rfl 0 (by decide) (List.mem_of_getElem? (i := 1) rfl) rfl rfl dX6_keep_10 ?_
    refine k_callVv C (As := [.ref (ad 1)]) (rest := []) 57 (m_X3_fill l D cI cC cZ cB cJ ad N G 57 z0 1 v (by omega) hF.2.2.2.2.2.1 (by omega) hF.2.1 (by omega)) gX6_keep_X3_fill rfl kd_X3_fill rfl rfl ⟨Nat.le_of_ble_eq_true rfl, Nat.le_of_ble_eq_true rfl⟩ (by omega) hF.2.2.2.2.2.1.1 rfl rfl rfl (Nat.le_of_ble_eq_true rfl) ⟨(Nat.le_of_ble_eq_true rfl), (Nat.le_of_ble_eq_true rfl)⟩ dX6_keep_13 (fun G2 hG2 => ?_)
    have hb_B_G2 := hF.2.1.keep (fun j h8 h9 => hG2.2 j (by omega))
    have hb_A_G2 := hF.2.2.1.keep (fun j h8 h9 => hG2.2 j (by omega))
    have hb_X_G2 := hF.2.2.2.1.keep (fun j h8 h9 => hG2.2 j (by omega))
    have hb_H_G2 := hF.2.2.2.2.1.keep (fun j h8 h9 => hG2.2 j (by omega))
    have hb_Z0_G2 := hG2.1
    have hb_Z1_G2 := hF.2.2.2.2.2.2.keep (fun j h8 h9 => hG2.2 j (by omega))
    have h_0_G2 : G2 0 = .inr (6, [.ref (ad 1), .ref (ad 8), .ref (ad 11), .ref (ad 13), .ref (ad 57), .ref (ad 65)]) := (hG2.2 0 (by omega)).trans hF.1
    refine k_aload_n C dX6_keep_16 rfl (j := 0) rfl ?_
    refine k_get C 0 inX6_keep_6 (by omega) h_0_G2 rfl 0 (by decide) (List.mem_of_getElem? (i := 1) rfl) rfl rfl dX6_keep_17 ?_
    refine k_get C 1 inX6_keep_1 (by omega) hb_B_G2.1 rfl 1 (by decide) (List.mem_of_getElem? (i := 2) rfl) rfl rfl dX6_keep_20 ?_
    refine k_callVir C (As := []) (rest := []) 4 (m_X4_size l D cI cC cZ cB cJ ad N G2 4 5 8 (nI (bnB v)) 192 (bvb v) (by omega) (by omega) hb_B_G2.2.2.1.1 hb_B_G2.2.2.1.2 (Nat.le_of_ble_eq_true rfl)) gX6_keep_X4_size rfl kd_X4_size rfl rfl ⟨Nat.le_of_ble_eq_true rfl, Nat.le_of_ble_eq_true rfl⟩ (by omega) hb_B_G2.2.2.1.1 rfl rfl rfl (Nat.le_of_ble_eq_true rfl) ⟨(Nat.le_of_ble_eq_true rfl), (Nat.le_of_ble_eq_true rfl)⟩ dX6_keep_23 ?_
    exact kx_iret C hQ rfl rfl (Nat.le_of_ble_eq_true rfl) (Nat.le_of_ble_eq_true rfl) dX6_keep_26 ⟨by simp [xKeep, eN, hq_4], rfl, _, by rw [if_pos rfl, if_pos rfl]; exact ⟨h_0_G2, hb_B_G2, hb_A_G2, hb_X_G2, hb_H_G2, hb_Z0_G2, hb_Z1_G2⟩, fun j hj => hG2.2 j (by omega)⟩
  · skip
    refine k_aload_n C dX6_keep_4 rfl (j := 0) rfl ?_
    refine k_iload_n C dX6_keep_5 rfl (j := 1) rfl ?_
    refine k_callVqr C (As := [.int 1]) (rest := []) 0 (m_X6_slotOf l D cI cC cZ cB cJ ad N G v w x hi z0 z1 1 65 (by omega) ⟨hF.1, hF.2.1, hF.2.2.1, hF.2.2.2.1, hF.2.2.2.2.1, hF.2.2.2.2.2.1, hF.2.2.2.2.2.2⟩ (Or.inr ⟨by decide, rfl⟩)) gX6_keep_X6_slotOf rfl kd_X6_slotOf rfl rfl ⟨Nat.le_of_ble_eq_true rfl, Nat.le_of_ble_eq_true rfl⟩ (by omega) hF.1 rfl rfl rfl (Nat.le_of_ble_eq_true rfl) ⟨(Nat.le_of_ble_eq_true rfl), (Nat.le_of_ble_eq_true rfl)⟩ dX6_keep_6 ?_
    refine k_aload_n C dX6_keep_9 rfl (j := 0) rfl ?_
    refine k_get C 0 inX6_keep_6 (by omega) hF.1 rfl 0 (by decide) (List.mem_of_getElem? (i := 1) rfl) rfl rfl dX6_keep_10 ?_
    refine k_callVv C (As := [.ref (ad 1)]) (rest := []) 65 (m_X3_fill l D cI cC cZ cB cJ ad N G 65 z1 1 v (by omega) hF.2.2.2.2.2.2 (by omega) hF.2.1 (by omega)) gX6_keep_X3_fill rfl kd_X3_fill rfl rfl ⟨Nat.le_of_ble_eq_true rfl, Nat.le_of_ble_eq_true rfl⟩ (by omega) hF.2.2.2.2.2.2.1 rfl rfl rfl (Nat.le_of_ble_eq_true rfl) ⟨(Nat.le_of_ble_eq_true rfl), (Nat.le_of_ble_eq_true rfl)⟩ dX6_keep_13 (fun G3 hG3 => ?_)
    have hb_B_G3 := hF.2.1.keep (fun j h8 h9 => hG3.2 j (by omega))
    have hb_A_G3 := hF.2.2.1.keep (fun j h8 h9 => hG3.2 j (by omega))
    have hb_X_G3 := hF.2.2.2.1.keep (fun j h8 h9 => hG3.2 j (by omega))
    have hb_H_G3 := hF.2.2.2.2.1.keep (fun j h8 h9 => hG3.2 j (by omega))
    have hb_Z0_G3 := hF.2.2.2.2.2.1.keep (fun j h8 h9 => hG3.2 j (by omega))
    have hb_Z1_G3 := hG3.1
    have h_0_G3 : G3 0 = .inr (6, [.ref (ad 1), .ref (ad 8), .ref (ad 11), .ref (ad 13), .ref (ad 57), .ref (ad 65)]) := (hG3.2 0 (by omega)).trans hF.1
    refine k_aload_n C dX6_keep_16 rfl (j := 0) rfl ?_
    refine k_get C 0 inX6_keep_6 (by omega) h_0_G3 rfl 0 (by decide) (List.mem_of_getElem? (i := 1) rfl) rfl rfl dX6_keep_17 ?_
    refine k_get C 1 inX6_keep_1 (by omega) hb_B_G3.1 rfl 1 (by decide) (List.mem_of_getElem? (i := 2) rfl) rfl rfl dX6_keep_20 ?_
    refine k_callVir C (As := []) (rest := []) 4 (m_X4_size l D cI cC cZ cB cJ ad N G3 4 5 8 (nI (bnB v)) 192 (bvb v) (by omega) (by omega) hb_B_G3.2.2.1.1 hb_B_G3.2.2.1.2 (Nat.le_of_ble_eq_true rfl)) gX6_keep_X4_size rfl kd_X4_size rfl rfl ⟨Nat.le_of_ble_eq_true rfl, Nat.le_of_ble_eq_true rfl⟩ (by omega) hb_B_G3.2.2.1.1 rfl rfl rfl (Nat.le_of_ble_eq_true rfl) ⟨(Nat.le_of_ble_eq_true rfl), (Nat.le_of_ble_eq_true rfl)⟩ dX6_keep_23 ?_
    exact kx_iret C hQ rfl rfl (Nat.le_of_ble_eq_true rfl) (Nat.le_of_ble_eq_true rfl) dX6_keep_26 ⟨by simp [xKeep, eN, hq_4], rfl, _, by rw [if_neg (by decide), if_neg (by decide)]; exact ⟨h_0_G3, hb_B_G3, hb_A_G3, hb_X_G3, hb_H_G3, hb_Z0_G3, hb_Z1_G3⟩, fun j hj => hG3.2 j (by omega)⟩
theorem inX6_goBack_6 : ∀ w ∈ wsX60, w ∈ wsX6_goBack := fun _ h => List.mem_cons_of_mem _ (List.mem_append_left _ (List.mem_append_left _ (List.mem_append_left _ (List.mem_append_left _ (List.mem_append_left _ (List.mem_append_left _ (List.mem_append_right _ h)))))))
theorem inX6_goBack_1 : ∀ w ∈ wsX10, w ∈ wsX6_goBack := fun _ h => List.mem_cons_of_mem _ (List.mem_append_left _ (List.mem_append_left _ (List.mem_append_left _ (List.mem_append_left _ (List.mem_append_left _ (List.mem_append_right _ h))))))
theorem inX6_goBack_3 : ∀ w ∈ wsX30, w ∈ wsX6_goBack := fun _ h => List.mem_cons_of_mem _ (List.mem_append_left _ (List.mem_append_left _ (List.mem_append_left _ (List.mem_append_left _ (List.mem_append_right _ h)))))
theorem inX6_goBack_2 : ∀ w ∈ wsX20, w ∈ wsX6_goBack := fun _ h => List.mem_cons_of_mem _ (List.mem_append_left _ (List.mem_append_left _ (List.mem_append_left _ (List.mem_append_right _ h))))
theorem inX6_goBack_4 : ∀ w ∈ wsX40, w ∈ wsX6_goBack := fun _ h => List.mem_cons_of_mem _ (List.mem_append_left _ (List.mem_append_left _ (List.mem_append_right _ h)))
theorem inxX6_goBack_157 : ∀ w ∈ (vx_atS RX6 157 eIS kUp).filter goodWord, w ∈ wsX6_goBack := fun _ h => List.mem_cons_of_mem _ (List.mem_append_left _ (List.mem_append_right _ h))
theorem inxX6_goBack_115 : ∀ w ∈ (vx_atS RX6 115 eIA kUp).filter goodWord, w ∈ wsX6_goBack := fun _ h => List.mem_cons_of_mem _ (List.mem_append_right _ h)
theorem kd_X6_goBack : yX6_goBack.cls = RX6 ∧ yX6_goBack.cls ≠ "java/lang/invoke/MethodHandle" ∧ yX6_goBack.cls ≠ "java/lang/invoke/VarHandle" ∧ (parseMethodDescriptor yX6_goBack.desc).map (fun d => d.parameters.length) = some 1 := by decide +kernel
abbrev rX6_goBack : Room := ({ frames := 7, cells := 2, slots := 12, locals := 124 } : Room)
set_option maxRecDepth 100000 in
set_option maxHeartbeats 4000000 in
/-- goBack -/
theorem m_X6_goBack (l : Launch) (D : va_G) (cI cC cZ cB cJ : ClassId) (ad : Nat → Nat) (N : Nat) (G : Nat → va_E) (v : BV) (w : AV) (x : TV) (hi : HV) (z0 z1 : ZV) (k0 : Int32) (hl0 : l.stackTraces = false) (hN : 73 ≤ N) (hF : isFB ad cI cB G v w x hi z0 z1) : kXi l yX6_goBack wsX6_goBack rX6_goBack D (kT5 cI cC cZ cB cJ) ad N G [.ref (ad 0), .int k0] 2 12 (fun r G' => xBack k0 z0 z1 = 0 ∧ r = nI (bnB (if k0 = 0 then bCopy v z0.1 else bCopy v z1.1)) ∧ ∃ w', isFB ad cI cB G' (if k0 = 0 then bCopy v z0.1 else bCopy v z1.1) w' (x) (hSave hi v) (z0) (z1) ∧ ∀ j, 73 ≤ j → G' j = G j) (fun E G' => E = eN (xBack k0 z0 z1) eIA eIS eIS ∧ xBack k0 z0 z1 ≠ 0 ∧ ∃ w', isFB ad cI cB G' v w' x hi z0 z1 ∧ ∀ j, 73 ≤ j → G' j = G j) := by
  refine kx_starti (cc := cX6_goBack) (ret := (some .int)) (maxL := 3) (lv0 := [(0, .ref (ad 0)), (1, .int k0)]) hl0 (by decide) rfl (Nat.le_of_ble_eq_true rfl) rfl ?_
  intro p e s m args below meth c A Q C X hQ
  have hlH := hF.2.1.2.2.2.2.1
  have hlB := hF.2.1.2.2.2.2.2.1
  have hlL := hF.2.1.2.2.2.2.2.2
  have hlX := hF.2.2.2.1.2.2
  have hlN := hF.2.2.2.2.1.2.2.2.1
  have hlZ := hF.2.2.2.2.1.2.2.2.2
  refine k_iload_n C dX6_goBack_0 rfl (j := 1) rfl ?_
  refine kx_callSv C X hQ (As := [.int k0]) (rest := []) (m_X6_requireSlot l D cI cC cZ cB cJ ad N G k0 hl0) (fun E G' h9 => by obtain ⟨rfl, h8, rfl⟩ := h9; exact ⟨by simp [xBack, eN, h8], by simp [xBack, eN, h8], _, ⟨hF.1, hF.2.1, hF.2.2.1, hF.2.2.2.1, hF.2.2.2.2.1, hF.2.2.2.2.2.1, hF.2.2.2.2.2.2⟩, fun _ _ => rfl⟩) gX6_goBack_X6_requireSlot rfl kd_X6_requireSlot rfl rfl ⟨(Nat.le_of_ble_eq_true rfl), (Nat.le_of_ble_eq_true rfl)⟩ rfl rfl (Nat.le_of_ble_eq_true rfl) ⟨(Nat.le_of_ble_eq_true rfl), (Nat.le_of_ble_eq_true rfl)⟩ (Nat.le_of_ble_eq_true rfl) (Nat.le_of_ble_eq_true rfl) dX6_goBack_1 (fun G1 hG1 => ?_)
  have hq_4 := hG1.1
  have e_G1 := hG1.2
  subst e_G1
  rcases jTwo_or hq_4 with rfl | rfl
  · skip
    refine k_aload_n C dX6_goBack_4 rfl (j := 0) rfl ?_
    refine k_iload_n C dX6_goBack_5 rfl (j := 1) rfl ?_
    refine k_callVqr C (As := [.int 0]) (rest := []) 0 (m_X6_slotOf l D cI cC cZ cB cJ ad N G v w x hi z0 z1 0 57 (by omega) ⟨hF.1, hF.2.1, hF.2.2.1, hF.2.2.2.1, hF.2.2.2.2.1, hF.2.2.2.2.2.1, hF.2.2.2.2.2.2⟩ (Or.inl ⟨rfl, rfl⟩)) gX6_goBack_X6_slotOf rfl kd_X6_slotOf rfl rfl ⟨Nat.le_of_ble_eq_true rfl, Nat.le_of_ble_eq_true rfl⟩ (by omega) hF.1 rfl rfl rfl (Nat.le_of_ble_eq_true rfl) ⟨(Nat.le_of_ble_eq_true rfl), (Nat.le_of_ble_eq_true rfl)⟩ dX6_goBack_6 ?_
    refine k_astore_n C (lv' := [(2, .ref (ad 57)), (0, .ref (ad 0)), (1, .int 0)]) dX6_goBack_9 rfl (by decide) rfl ?_
    refine k_aload_n C dX6_goBack_10 rfl (j := 0) rfl ?_
    refine k_callVir C (As := []) (rest := []) 57 (m_X3_isFull l D cI cC cZ cB cJ ad N G 57 z0 (by omega) hF.2.2.2.2.2.1) gX6_goBack_X3_isFull rfl kd_X3_isFull rfl rfl ⟨Nat.le_of_ble_eq_true rfl, Nat.le_of_ble_eq_true rfl⟩ (by omega) hF.2.2.2.2.2.1.1 rfl rfl rfl (Nat.le_of_ble_eq_true rfl) ⟨(Nat.le_of_ble_eq_true rfl), (Nat.le_of_ble_eq_true rfl)⟩ dX6_goBack_11 ?_
    refine k_if_ne C 27 dX6_goBack_14 (by decide) (fun c_14 => ?_) (fun c_14 => ?_)
    · skip
      have e_14 : z0.2 = true := bI_t c_14
      refine k_aload_n C dX6_goBack_27 rfl (j := 1) rfl ?_
      refine k_get C 0 inX6_goBack_6 (by omega) hF.1 rfl 3 (by decide) (List.mem_of_getElem? (i := 3) rfl) rfl rfl dX6_goBack_28 ?_
      refine k_aload_n C dX6_goBack_31 rfl (j := 1) rfl ?_
      refine k_get C 0 inX6_goBack_6 (by omega) hF.1 rfl 0 (by decide) (List.mem_of_getElem? (i := 4) rfl) rfl rfl dX6_goBack_32 ?_
      refine k_callVv C (As := [.ref (ad 1)]) (rest := []) 13 (m_X2_save l D cI cC cZ cB cJ ad N G 13 hi 1 v (by omega) hF.2.2.2.2.1 (by omega) hF.2.1 (by omega)) gX6_goBack_X2_save rfl kd_X2_save rfl rfl ⟨Nat.le_of_ble_eq_true rfl, Nat.le_of_ble_eq_true rfl⟩ (by omega) hF.2.2.2.2.1.1 rfl rfl rfl (Nat.le_of_ble_eq_true rfl) ⟨(Nat.le_of_ble_eq_true rfl), (Nat.le_of_ble_eq_true rfl)⟩ dX6_goBack_35 (fun G2 hG2 => ?_)
      have hb_B_G2 := hF.2.1.keep (fun j h8 h9 => hG2.2 j (by omega))
      have hb_A_G2 := hF.2.2.1.keep (fun j h8 h9 => hG2.2 j (by omega))
      have hb_X_G2 := hF.2.2.2.1.keep (fun j h8 h9 => hG2.2 j (by omega))
      have hb_H_G2 := hG2.1
      have hb_Z0_G2 := hF.2.2.2.2.2.1.keep (fun j h8 h9 => hG2.2 j (by omega))
      have hb_Z1_G2 := hF.2.2.2.2.2.2.keep (fun j h8 h9 => hG2.2 j (by omega))
      have h_0_G2 : G2 0 = .inr (6, [.ref (ad 1), .ref (ad 8), .ref (ad 11), .ref (ad 13), .ref (ad 57), .ref (ad 65)]) := (hG2.2 0 (by omega)).trans hF.1
      refine k_aload_n C dX6_goBack_38 rfl (j := 0) rfl ?_
      refine k_aload_n C dX6_goBack_39 rfl (j := 1) rfl ?_
      refine k_get C 0 inX6_goBack_6 (by omega) h_0_G2 rfl 0 (by decide) (List.mem_of_getElem? (i := 4) rfl) rfl rfl dX6_goBack_40 ?_
      refine k_callVv C (As := [.ref (ad 1)]) (rest := []) 57 (m_X3_bringBack l D cI cC cZ cB cJ ad N G2 1 v 57 z0 (by omega) hb_B_G2 (by omega) hb_Z0_G2 (by omega)) gX6_goBack_X3_bringBack rfl kd_X3_bringBack rfl rfl ⟨Nat.le_of_ble_eq_true rfl, Nat.le_of_ble_eq_true rfl⟩ (by omega) hb_Z0_G2.1 rfl rfl rfl (Nat.le_of_ble_eq_true rfl) ⟨(Nat.le_of_ble_eq_true rfl), (Nat.le_of_ble_eq_true rfl)⟩ dX6_goBack_43 (fun G3 hG3 => ?_)
      have hb_B_G3 := hG3.1
      have hb_A_G3 := hb_A_G2.keep (fun j h8 h9 => hG3.2 j (by omega))
      have hb_X_G3 := hb_X_G2.keep (fun j h8 h9 => hG3.2 j (by omega))
      have hb_H_G3 := hb_H_G2.keep (fun j h8 h9 => hG3.2 j (by omega))
      have hb_Z0_G3 := hb_Z0_G2.keep (fun j h8 h9 => hG3.2 j (by omega))
      have hb_Z1_G3 := hb_Z1_G2.keep (fun j h8 h9 => hG3.2 j (by omega))
      have h_0_G3 : G3 0 = .inr (6, [.ref (ad 1), .ref (ad 8), .ref (ad 11), .ref (ad 13), .ref (ad 57), .ref (ad 65)]) := (hG3.2 0 (by omega)).trans h_0_G2
      refine k_aload_n C dX6_goBack_46 rfl (j := 1) rfl ?_
      refine k_get C 0 inX6_goBack_6 (by omega) h_0_G3 rfl 0 (by decide) (List.mem_of_getElem? (i := 4) rfl) rfl rfl dX6_goBack_47 ?_
      refine k_get C 1 inX6_goBack_1 (by omega) hb_B_G3.1 rfl 1 (by decide) (List.mem_of_getElem? (i := 5) rfl) rfl rfl dX6_goBack_50 ?_
      refine k_callVir C (As := []) (rest := []) 4 (m_X4_size l D cI cC cZ cB cJ ad N G3 4 5 8 (nI (bnB (bCopy v z0.1))) 192 (bvb (bCopy v z0.1)) (by omega) (by omega) hb_B_G3.2.2.1.1 hb_B_G3.2.2.1.2 (Nat.le_of_ble_eq_true rfl)) gX6_goBack_X4_size rfl kd_X4_size rfl rfl ⟨Nat.le_of_ble_eq_true rfl, Nat.le_of_ble_eq_true rfl⟩ (by omega) hb_B_G3.2.2.1.1 rfl rfl rfl (Nat.le_of_ble_eq_true rfl) ⟨(Nat.le_of_ble_eq_true rfl), (Nat.le_of_ble_eq_true rfl)⟩ dX6_goBack_53 ?_
      exact kx_iret C hQ rfl rfl (Nat.le_of_ble_eq_true rfl) (Nat.le_of_ble_eq_true rfl) dX6_goBack_56 ⟨by simp [xBack, eN, hq_4, e_14], by rw [if_pos rfl], _, by rw [if_pos rfl]; exact ⟨h_0_G3, hb_B_G3, hb_A_G3, hb_X_G3, hb_H_G3, hb_Z0_G3, hb_Z1_G3⟩, fun j hj => (hG3.2 j (by omega) : _).trans (hG2.2 j (by omega))⟩
    · skip
      have e_14 : z0.2 = false := bI_f c_14
      exact kx_throwS C X hQ (text := "there is no snapshot in the slot") kxM_eIS kxF_eIS (by decide +kernel) (List.mem_of_getElem? (i := 1) rfl) (List.mem_of_getElem? (i := 2) rfl) inxX6_goBack_157 kxB_eIS kxG_eIS dX6_goBack_17 dX6_goBack_20 dX6_goBack_21 dX6_goBack_23 dX6_goBack_26 (Nat.le_of_ble_eq_true rfl) (Nat.le_of_ble_eq_true rfl) (Nat.le_of_ble_eq_true rfl) (Nat.le_of_ble_eq_true rfl) (Nat.le_of_ble_eq_true rfl) (Nat.le_of_ble_eq_true rfl) ⟨by simp [xBack, eN, hq_4, e_14], by simp [xBack, eN, hq_4, e_14], _, ⟨hF.1, hF.2.1, hF.2.2.1, hF.2.2.2.1, hF.2.2.2.2.1, hF.2.2.2.2.2.1, hF.2.2.2.2.2.2⟩, fun _ _ => rfl⟩
  · skip
    refine k_aload_n C dX6_goBack_4 rfl (j := 0) rfl ?_
    refine k_iload_n C dX6_goBack_5 rfl (j := 1) rfl ?_
    refine k_callVqr C (As := [.int 1]) (rest := []) 0 (m_X6_slotOf l D cI cC cZ cB cJ ad N G v w x hi z0 z1 1 65 (by omega) ⟨hF.1, hF.2.1, hF.2.2.1, hF.2.2.2.1, hF.2.2.2.2.1, hF.2.2.2.2.2.1, hF.2.2.2.2.2.2⟩ (Or.inr ⟨by decide, rfl⟩)) gX6_goBack_X6_slotOf rfl kd_X6_slotOf rfl rfl ⟨Nat.le_of_ble_eq_true rfl, Nat.le_of_ble_eq_true rfl⟩ (by omega) hF.1 rfl rfl rfl (Nat.le_of_ble_eq_true rfl) ⟨(Nat.le_of_ble_eq_true rfl), (Nat.le_of_ble_eq_true rfl)⟩ dX6_goBack_6 ?_
    refine k_astore_n C (lv' := [(2, .ref (ad 65)), (0, .ref (ad 0)), (1, .int 1)]) dX6_goBack_9 rfl (by decide) rfl ?_
    refine k_aload_n C dX6_goBack_10 rfl (j := 0) rfl ?_
    refine k_callVir C (As := []) (rest := []) 65 (m_X3_isFull l D cI cC cZ cB cJ ad N G 65 z1 (by omega) hF.2.2.2.2.2.2) gX6_goBack_X3_isFull rfl kd_X3_isFull rfl rfl ⟨Nat.le_of_ble_eq_true rfl, Nat.le_of_ble_eq_true rfl⟩ (by omega) hF.2.2.2.2.2.2.1 rfl rfl rfl (Nat.le_of_ble_eq_true rfl) ⟨(Nat.le_of_ble_eq_true rfl), (Nat.le_of_ble_eq_true rfl)⟩ dX6_goBack_11 ?_
    refine k_if_ne C 27 dX6_goBack_14 (by decide) (fun c_14 => ?_) (fun c_14 => ?_)
    · skip
      have e_14 : z1.2 = true := bI_t c_14
      refine k_aload_n C dX6_goBack_27 rfl (j := 1) rfl ?_
      refine k_get C 0 inX6_goBack_6 (by omega) hF.1 rfl 3 (by decide) (List.mem_of_getElem? (i := 3) rfl) rfl rfl dX6_goBack_28 ?_
      refine k_aload_n C dX6_goBack_31 rfl (j := 1) rfl ?_
      refine k_get C 0 inX6_goBack_6 (by omega) hF.1 rfl 0 (by decide) (List.mem_of_getElem? (i := 4) rfl) rfl rfl dX6_goBack_32 ?_
      refine k_callVv C (As := [.ref (ad 1)]) (rest := []) 13 (m_X2_save l D cI cC cZ cB cJ ad N G 13 hi 1 v (by omega) hF.2.2.2.2.1 (by omega) hF.2.1 (by omega)) gX6_goBack_X2_save rfl kd_X2_save rfl rfl ⟨Nat.le_of_ble_eq_true rfl, Nat.le_of_ble_eq_true rfl⟩ (by omega) hF.2.2.2.2.1.1 rfl rfl rfl (Nat.le_of_ble_eq_true rfl) ⟨(Nat.le_of_ble_eq_true rfl), (Nat.le_of_ble_eq_true rfl)⟩ dX6_goBack_35 (fun G4 hG4 => ?_)
      have hb_B_G4 := hF.2.1.keep (fun j h8 h9 => hG4.2 j (by omega))
      have hb_A_G4 := hF.2.2.1.keep (fun j h8 h9 => hG4.2 j (by omega))
      have hb_X_G4 := hF.2.2.2.1.keep (fun j h8 h9 => hG4.2 j (by omega))
      have hb_H_G4 := hG4.1
      have hb_Z0_G4 := hF.2.2.2.2.2.1.keep (fun j h8 h9 => hG4.2 j (by omega))
      have hb_Z1_G4 := hF.2.2.2.2.2.2.keep (fun j h8 h9 => hG4.2 j (by omega))
      have h_0_G4 : G4 0 = .inr (6, [.ref (ad 1), .ref (ad 8), .ref (ad 11), .ref (ad 13), .ref (ad 57), .ref (ad 65)]) := (hG4.2 0 (by omega)).trans hF.1
      refine k_aload_n C dX6_goBack_38 rfl (j := 0) rfl ?_
      refine k_aload_n C dX6_goBack_39 rfl (j := 1) rfl ?_
      refine k_get C 0 inX6_goBack_6 (by omega) h_0_G4 rfl 0 (by decide) (List.mem_of_getElem? (i := 4) rfl) rfl rfl dX6_goBack_40 ?_
      refine k_callVv C (As := [.ref (ad 1)]) (rest := []) 65 (m_X3_bringBack l D cI cC cZ cB cJ ad N G4 1 v 65 z1 (by omega) hb_B_G4 (by omega) hb_Z1_G4 (by omega)) gX6_goBack_X3_bringBack rfl kd_X3_bringBack rfl rfl ⟨Nat.le_of_ble_eq_true rfl, Nat.le_of_ble_eq_true rfl⟩ (by omega) hb_Z1_G4.1 rfl rfl rfl (Nat.le_of_ble_eq_true rfl) ⟨(Nat.le_of_ble_eq_true rfl), (Nat.le_of_ble_eq_true rfl)⟩ dX6_goBack_43 (fun G5 hG5 => ?_)
      have hb_B_G5 := hG5.1
      have hb_A_G5 := hb_A_G4.keep (fun j h8 h9 => hG5.2 j (by omega))
      have hb_X_G5 := hb_X_G4.keep (fun j h8 h9 => hG5.2 j (by omega))
      have hb_H_G5 := hb_H_G4.keep (fun j h8 h9 => hG5.2 j (by omega))
      have hb_Z0_G5 := hb_Z0_G4.keep (fun j h8 h9 => hG5.2 j (by omega))
      have hb_Z1_G5 := hb_Z1_G4.keep (fun j h8 h9 => hG5.2 j (by omega))
      have h_0_G5 : G5 0 = .inr (6, [.ref (ad 1), .ref (ad 8), .ref (ad 11), .ref (ad 13), .ref (ad 57), .ref (ad 65)]) := (hG5.2 0 (by omega)).trans h_0_G4
      refine k_aload_n C dX6_goBack_46 rfl (j := 1) rfl ?_
      refine k_get C 0 inX6_goBack_6 (by omega) h_0_G5 rfl 0 (by decide) (List.mem_of_getElem? (i := 4) rfl) rfl rfl dX6_goBack_47 ?_
      refine k_get C 1 inX6_goBack_1 (by omega) hb_B_G5.1 rfl 1 (by decide) (List.mem_of_getElem? (i := 5) rfl) rfl rfl dX6_goBack_50 ?_
      refine k_callVir C (As := []) (rest := []) 4 (m_X4_size l D cI cC cZ cB cJ ad N G5 4 5 8 (nI (bnB (bCopy v z1.1))) 192 (bvb (bCopy v z1.1)) (by omega) (by omega) hb_B_G5.2.2.1.1 hb_B_G5.2.2.1.2 (Nat.le_of_ble_eq_true rfl)) gX6_goBack_X4_size rfl kd_X4_size rfl rfl ⟨Nat.le_of_ble_eq_true rfl, Nat.le_of_ble_eq_true rfl⟩ (by omega) hb_B_G5.2.2.1.1 rfl rfl rfl (Nat.le_of_ble_eq_true rfl) ⟨(Nat.le_of_ble_eq_true rfl), (Nat.le_of_ble_eq_true rfl)⟩ dX6_goBack_53 ?_
      exact kx_iret C hQ rfl rfl (Nat.le_of_ble_eq_true rfl) (Nat.le_of_ble_eq_true rfl) dX6_goBack_56 ⟨by simp [xBack, eN, hq_4, e_14], by rw [if_neg (by decide)], _, by rw [if_neg (by decide)]; exact ⟨h_0_G5, hb_B_G5, hb_A_G5, hb_X_G5, hb_H_G5, hb_Z0_G5, hb_Z1_G5⟩, fun j hj => (hG5.2 j (by omega) : _).trans (hG4.2 j (by omega))⟩
    · skip
      have e_14 : z1.2 = false := bI_f c_14
      exact kx_throwS C X hQ (text := "there is no snapshot in the slot") kxM_eIS kxF_eIS (by decide +kernel) (List.mem_of_getElem? (i := 1) rfl) (List.mem_of_getElem? (i := 2) rfl) inxX6_goBack_157 kxB_eIS kxG_eIS dX6_goBack_17 dX6_goBack_20 dX6_goBack_21 dX6_goBack_23 dX6_goBack_26 (Nat.le_of_ble_eq_true rfl) (Nat.le_of_ble_eq_true rfl) (Nat.le_of_ble_eq_true rfl) (Nat.le_of_ble_eq_true rfl) (Nat.le_of_ble_eq_true rfl) (Nat.le_of_ble_eq_true rfl) ⟨by simp [xBack, eN, hq_4, e_14], by simp [xBack, eN, hq_4, e_14], _, ⟨hF.1, hF.2.1, hF.2.2.1, hF.2.2.2.1, hF.2.2.2.2.1, hF.2.2.2.2.2.1, hF.2.2.2.2.2.2⟩, fun _ _ => rfl⟩
theorem inX6_undo_6 : ∀ w ∈ wsX60, w ∈ wsX6_undo := fun _ h => List.mem_cons_of_mem _ (List.mem_append_left _ (List.mem_append_left _ (List.mem_append_left _ (List.mem_append_left _ (List.mem_append_right _ h)))))
theorem inX6_undo_2 : ∀ w ∈ wsX20, w ∈ wsX6_undo := fun _ h => List.mem_cons_of_mem _ (List.mem_append_left _ (List.mem_append_left _ (List.mem_append_left _ (List.mem_append_right _ h))))
theorem inX6_undo_1 : ∀ w ∈ wsX10, w ∈ wsX6_undo := fun _ h => List.mem_cons_of_mem _ (List.mem_append_left _ (List.mem_append_left _ (List.mem_append_right _ h)))
theorem inX6_undo_4 : ∀ w ∈ wsX40, w ∈ wsX6_undo := fun _ h => List.mem_cons_of_mem _ (List.mem_append_left _ (List.mem_append_right _ h))
theorem inxX6_undo_157 : ∀ w ∈ (vx_atS RX6 157 eIS kUp).filter goodWord, w ∈ wsX6_undo := fun _ h => List.mem_cons_of_mem _ (List.mem_append_right _ h)
theorem kd_X6_undo : yX6_undo.cls = RX6 ∧ yX6_undo.cls ≠ "java/lang/invoke/MethodHandle" ∧ yX6_undo.cls ≠ "java/lang/invoke/VarHandle" ∧ (parseMethodDescriptor yX6_undo.desc).map (fun d => d.parameters.length) = some 0 := by decide +kernel
abbrev rX6_undo : Room := ({ frames := 6, cells := 1, slots := 6, locals := 125 } : Room)
set_option maxRecDepth 100000 in
set_option maxHeartbeats 4000000 in
/-- undo -/
theorem m_X6_undo (l : Launch) (D : va_G) (cI cC cZ cB cJ : ClassId) (ad : Nat → Nat) (N : Nat) (G : Nat → va_E) (v : BV) (w : AV) (x : TV) (hi : HV) (z0 z1 : ZV) (hl0 : l.stackTraces = false) (hN : 73 ≤ N) (hF : isFB ad cI cB G v w x hi z0 z1) : kXi l yX6_undo wsX6_undo rX6_undo D (kT5 cI cC cZ cB cJ) ad N G [.ref (ad 0)] 1 6 (fun r G' => xUndo hi = 0 ∧ r = nI (hvZ hi - 1) ∧ ∃ w', isFB ad cI cB G' (bCopy v (hvS hi (hLast hi))) w' (x) ((hvS hi, hLast hi, hvZ hi - 1)) (z0) (z1) ∧ ∀ j, 73 ≤ j → G' j = G j) (fun E G' => E = eN (xUndo hi) eIS eIS eIS ∧ xUndo hi ≠ 0 ∧ ∃ w', isFB ad cI cB G' v w' x hi z0 z1 ∧ ∀ j, 73 ≤ j → G' j = G j) := by
  refine kx_starti (cc := cX6_undo) (ret := (some .int)) (maxL := 1) (lv0 := [(0, .ref (ad 0))]) hl0 (by decide) rfl (Nat.le_of_ble_eq_true rfl) rfl ?_
  intro p e s m args below meth c A Q C X hQ
  have hlH := hF.2.1.2.2.2.2.1
  have hlB := hF.2.1.2.2.2.2.2.1
  have hlL := hF.2.1.2.2.2.2.2.2
  have hlX := hF.2.2.2.1.2.2
  have hlN := hF.2.2.2.2.1.2.2.2.1
  have hlZ := hF.2.2.2.2.1.2.2.2.2
  refine k_aload_n C dX6_undo_0 rfl (j := 0) rfl ?_
  refine k_get C 0 inX6_undo_6 (by omega) hF.1 rfl 3 (by decide) (List.mem_of_getElem? (i := 3) rfl) rfl rfl dX6_undo_1 ?_
  refine k_callVir C (As := []) (rest := []) 13 (m_X2_size l D cI cC cZ cB cJ ad N G 13 hi (by omega) hF.2.2.2.2.1) gX6_undo_X2_size rfl kd_X2_size rfl rfl ⟨Nat.le_of_ble_eq_true rfl, Nat.le_of_ble_eq_true rfl⟩ (by omega) hF.2.2.2.2.1.1 rfl rfl rfl (Nat.le_of_ble_eq_true rfl) ⟨(Nat.le_of_ble_eq_true rfl), (Nat.le_of_ble_eq_true rfl)⟩ dX6_undo_4 ?_
  refine k_if_ne C 20 dX6_undo_7 (by decide) (fun c_7 => ?_) (fun c_7 => ?_)
  · skip
    have hpos : 0 < hvZ hi := by
      rcases Nat.eq_zero_or_pos (hvZ hi) with h9 | h9
      · exact absurd (by rw [h9]; rfl) c_7
      · exact h9
    have e_7 : ¬ hvZ hi = 0 := by omega
    refine k_aload_n C dX6_undo_20 rfl (j := 0) rfl ?_
    refine k_get C 0 inX6_undo_6 (by omega) hF.1 rfl 3 (by decide) (List.mem_of_getElem? (i := 3) rfl) rfl rfl dX6_undo_21 ?_
    refine k_aload_n C dX6_undo_24 rfl (j := 0) rfl ?_
    refine k_get C 0 inX6_undo_6 (by omega) hF.1 rfl 0 (by decide) (List.mem_of_getElem? (i := 4) rfl) rfl rfl dX6_undo_25 ?_
    refine k_callVv C (As := [.ref (ad 1)]) (rest := []) 13 (m_X2_restore l D cI cC cZ cB cJ ad N G 13 hi 1 v (by omega) hF.2.2.2.2.1 (by omega) hF.2.1 (by omega) hpos) gX6_undo_X2_restore rfl kd_X2_restore rfl rfl ⟨Nat.le_of_ble_eq_true rfl, Nat.le_of_ble_eq_true rfl⟩ (by omega) hF.2.2.2.2.1.1 rfl rfl rfl (Nat.le_of_ble_eq_true rfl) ⟨(Nat.le_of_ble_eq_true rfl), (Nat.le_of_ble_eq_true rfl)⟩ dX6_undo_28 (fun G1 hG1 => ?_)
    have hb_B_G1 := hG1.1
    have hb_A_G1 := hF.2.2.1.keep (fun j h8 h9 => hG1.2.2 j (by omega) (by omega))
    have hb_X_G1 := hF.2.2.2.1.keep (fun j h8 h9 => hG1.2.2 j (by omega) (by omega))
    have hb_H_G1 := hG1.2.1
    have hb_Z0_G1 := hF.2.2.2.2.2.1.keep (fun j h8 h9 => hG1.2.2 j (by omega) (by omega))
    have hb_Z1_G1 := hF.2.2.2.2.2.2.keep (fun j h8 h9 => hG1.2.2 j (by omega) (by omega))
    have h0_G1 : G1 0 = .inr (6, [.ref (ad 1), .ref (ad 8), .ref (ad 11), .ref (ad 13), .ref (ad 57), .ref (ad 65)]) := (hG1.2.2 0 (by omega) (by omega)).trans hF.1
    refine k_aload_n C dX6_undo_31 rfl (j := 0) rfl ?_
    refine k_get C 0 inX6_undo_6 (by omega) h0_G1 rfl 3 (by decide) (List.mem_of_getElem? (i := 3) rfl) rfl rfl dX6_undo_32 ?_
    refine k_callVir C (As := []) (rest := []) 13 (m_X2_size l D cI cC cZ cB cJ ad N G1 13 ((hvS hi, hLast hi, hvZ hi - 1)) (by omega) hb_H_G1) gX6_undo_X2_size rfl kd_X2_size rfl rfl ⟨Nat.le_of_ble_eq_true rfl, Nat.le_of_ble_eq_true rfl⟩ (by omega) hb_H_G1.1 rfl rfl rfl (Nat.le_of_ble_eq_true rfl) ⟨(Nat.le_of_ble_eq_true rfl), (Nat.le_of_ble_eq_true rfl)⟩ dX6_undo_35 ?_
    exact kx_iret C hQ rfl rfl (Nat.le_of_ble_eq_true rfl) (Nat.le_of_ble_eq_true rfl) dX6_undo_38 ⟨by simp [xUndo, eN, e_7], rfl, _, ⟨h0_G1, hb_B_G1, hb_A_G1, hb_X_G1, hb_H_G1, hb_Z0_G1, hb_Z1_G1⟩, fun j hj => hG1.2.2 j (by omega) (by omega)⟩
  · skip
    have e_7 : hvZ hi = 0 := (nI_eq (b := 0) (by omega) (by decide)).mp c_7
    exact kx_throwS C X hQ (text := "there is no saved state") kxM_eIS kxF_eIS (by decide +kernel) (List.mem_of_getElem? (i := 1) rfl) (List.mem_of_getElem? (i := 2) rfl) inxX6_undo_157 kxB_eIS kxG_eIS dX6_undo_10 dX6_undo_13 dX6_undo_14 dX6_undo_16 dX6_undo_19 (Nat.le_of_ble_eq_true rfl) (Nat.le_of_ble_eq_true rfl) (Nat.le_of_ble_eq_true rfl) (Nat.le_of_ble_eq_true rfl) (Nat.le_of_ble_eq_true rfl) (Nat.le_of_ble_eq_true rfl) ⟨by simp [xUndo, eN, e_7], by simp [xUndo, eN, e_7], _, ⟨hF.1, hF.2.1, hF.2.2.1, hF.2.2.2.1, hF.2.2.2.2.1, hF.2.2.2.2.2.1, hF.2.2.2.2.2.2⟩, fun _ _ => rfl⟩
theorem inX6_horseOf_6 : ∀ w ∈ wsX60, w ∈ wsX6_horseOf := fun _ h => List.mem_cons_of_mem _ (List.mem_append_left _ (List.mem_append_left _ (List.mem_append_left _ (List.mem_append_left _ (List.mem_append_right _ h)))))
theorem inX6_horseOf_1 : ∀ w ∈ wsX10, w ∈ wsX6_horseOf := fun _ h => List.mem_cons_of_mem _ (List.mem_append_left _ (List.mem_append_left _ (List.mem_append_left _ (List.mem_append_right _ h))))
theorem inX6_horseOf_4 : ∀ w ∈ wsX40, w ∈ wsX6_horseOf := fun _ h => List.mem_cons_of_mem _ (List.mem_append_left _ (List.mem_append_left _ (List.mem_append_right _ h)))
theorem inxX6_horseOf_261 : ∀ w ∈ (vx_atS RX6 261 eIX kUp).filter goodWord, w ∈ wsX6_horseOf := fun _ h => List.mem_cons_of_mem _ (List.mem_append_left _ (List.mem_append_right _ h))
theorem inxX6_horseOf_115 : ∀ w ∈ (vx_atS RX6 115 eIA kUp).filter goodWord, w ∈ wsX6_horseOf := fun _ h => List.mem_cons_of_mem _ (List.mem_append_right _ h)
theorem kd_X6_horseOf : yX6_horseOf.cls = RX6 ∧ yX6_horseOf.cls ≠ "java/lang/invoke/MethodHandle" ∧ yX6_horseOf.cls ≠ "java/lang/invoke/VarHandle" ∧ (parseMethodDescriptor yX6_horseOf.desc).map (fun d => d.parameters.length) = some 2 := by decide +kernel
abbrev rX6_horseOf : Room := ({ frames := 8, cells := 2, slots := 12, locals := 134 } : Room)
set_option maxRecDepth 100000 in
set_option maxHeartbeats 4000000 in
/-- horseOf -/
theorem m_X6_horseOf (l : Launch) (D : va_G) (cI cC cZ cB cJ : ClassId) (ad : Nat → Nat) (N : Nat) (G : Nat → va_E) (v : BV) (w : AV) (x : TV) (hi : HV) (z0 z1 : ZV) (h k0 : Int32) (hl0 : l.stackTraces = false) (hN : 73 ≤ N) (hF : isFB ad cI cB G v w x hi z0 z1) : kXi l yX6_horseOf wsX6_horseOf rX6_horseOf D (kT5 cI cC cZ cB cJ) ad N G [.ref (ad 0), .int h, .int k0] 2 12 (fun r G' => xHorseOf v h k0 = 0 ∧ r = hC v h k0 ∧ ∃ w', isFB ad cI cB G' (v) w' (x) (hi) (z0) (z1) ∧ ∀ j, 73 ≤ j → G' j = G j) (fun E G' => E = eN (xHorseOf v h k0) eIX eIA eIA ∧ xHorseOf v h k0 ≠ 0 ∧ ∃ w', isFB ad cI cB G' v w' x hi z0 z1 ∧ ∀ j, 73 ≤ j → G' j = G j) := by
  refine kx_starti (cc := cX6_horseOf) (ret := (some .int)) (maxL := 3) (lv0 := [(0, .ref (ad 0)), (1, .int h), (2, .int k0)]) hl0 (by decide) rfl (Nat.le_of_ble_eq_true rfl) rfl ?_
  intro p e s m args below meth c A Q C X hQ
  have hlH := hF.2.1.2.2.2.2.1
  have hlB := hF.2.1.2.2.2.2.2.1
  have hlL := hF.2.1.2.2.2.2.2.2
  have hlX := hF.2.2.2.1.2.2
  have hlN := hF.2.2.2.2.1.2.2.2.1
  have hlZ := hF.2.2.2.2.1.2.2.2.2
  refine k_aload_n C dX6_horseOf_0 rfl (j := 0) rfl ?_
  refine k_iload_n C dX6_horseOf_1 rfl (j := 1) rfl ?_
  refine kx_callVv C X hQ (As := [.int h]) (rest := []) 0 (m_X6_requireHorse l D cI cC cZ cB cJ ad N G v w x hi z0 z1 h hl0 (by omega) ⟨hF.1, hF.2.1, hF.2.2.1, hF.2.2.2.1, hF.2.2.2.2.1, hF.2.2.2.2.2.1, hF.2.2.2.2.2.2⟩) (fun E G' h9 => by obtain ⟨rfl, h8, rfl⟩ := h9; exact ⟨by simp [xHorseOf, eN, h8], by simp [xHorseOf, eN, h8], _, ⟨hF.1, hF.2.1, hF.2.2.1, hF.2.2.2.1, hF.2.2.2.2.1, hF.2.2.2.2.2.1, hF.2.2.2.2.2.2⟩, fun _ _ => rfl⟩) gX6_horseOf_X6_requireHorse rfl kd_X6_requireHorse rfl rfl ⟨(Nat.le_of_ble_eq_true rfl), (Nat.le_of_ble_eq_true rfl)⟩ (by omega) hF.1 rfl rfl rfl (Nat.le_of_ble_eq_true rfl) ⟨(Nat.le_of_ble_eq_true rfl), (Nat.le_of_ble_eq_true rfl)⟩ (Nat.le_of_ble_eq_true rfl) (Nat.le_of_ble_eq_true rfl) dX6_horseOf_2 (fun G1 hG1 => ?_)
  have hq_5 := hG1.1
  have e_G1 := hG1.2
  subst e_G1
  refine k_iload_n C dX6_horseOf_5 rfl (j := 2) rfl ?_
  refine k_bipush C (v := 9) dX6_horseOf_6 (by decide) ?_
  refine kx_callSv C X hQ (As := [.int k0, .int 9]) (rest := []) (m_X6_requireProperty l D cI cC cZ cB cJ ad N G k0 9 hl0) (fun E G' h9 => by obtain ⟨rfl, h8, rfl⟩ := h9; exact ⟨by simp [xHorseOf, eN, hq_5, h8], by simp [xHorseOf, eN, hq_5, h8], _, ⟨hF.1, hF.2.1, hF.2.2.1, hF.2.2.2.1, hF.2.2.2.2.1, hF.2.2.2.2.2.1, hF.2.2.2.2.2.2⟩, fun _ _ => rfl⟩) gX6_horseOf_X6_requireProperty rfl kd_X6_requireProperty rfl rfl ⟨(Nat.le_of_ble_eq_true rfl), (Nat.le_of_ble_eq_true rfl)⟩ rfl rfl (Nat.le_of_ble_eq_true rfl) ⟨(Nat.le_of_ble_eq_true rfl), (Nat.le_of_ble_eq_true rfl)⟩ (Nat.le_of_ble_eq_true rfl) (Nat.le_of_ble_eq_true rfl) dX6_horseOf_8 (fun G2 hG2 => ?_)
  have hq_11 := hG2.1
  have e_G2 := hG2.2
  subst e_G2
  refine k_aload_n C dX6_horseOf_11 rfl (j := 0) rfl ?_
  refine k_get C 0 inX6_horseOf_6 (by omega) hF.1 rfl 0 (by decide) (List.mem_of_getElem? (i := 1) rfl) rfl rfl dX6_horseOf_12 ?_
  refine k_get C 1 inX6_horseOf_1 (by omega) hF.2.1.1 rfl 0 (by decide) (List.mem_of_getElem? (i := 2) rfl) rfl rfl dX6_horseOf_15 ?_
  refine k_iload_n C dX6_horseOf_18 rfl (j := 1) rfl ?_
  refine k_iload_n C dX6_horseOf_19 rfl (j := 2) rfl ?_
  refine k_callVir C (As := [.int h, .int k0]) (rest := []) 2 (m_X4_cell l D cI cC cZ cB cJ ad N G 2 3 9 (nI (bnH v)) 90 (bvh v) h k0 (by omega) (by omega) hF.2.1.2.1.1 hF.2.1.2.1.2 (Nat.le_of_ble_eq_true rfl)) gX6_horseOf_X4_cell rfl kd_X4_cell rfl rfl ⟨Nat.le_of_ble_eq_true rfl, Nat.le_of_ble_eq_true rfl⟩ (by omega) hF.2.1.2.1.1 rfl rfl rfl (Nat.le_of_ble_eq_true rfl) ⟨(Nat.le_of_ble_eq_true rfl), (Nat.le_of_ble_eq_true rfl)⟩ dX6_horseOf_20 ?_
  exact kx_iret C hQ rfl rfl (Nat.le_of_ble_eq_true rfl) (Nat.le_of_ble_eq_true rfl) dX6_horseOf_23 ⟨by simp [xHorseOf, eN, hq_5, hq_11], rfl, _, ⟨hF.1, hF.2.1, hF.2.2.1, hF.2.2.2.1, hF.2.2.2.2.1, hF.2.2.2.2.2.1, hF.2.2.2.2.2.2⟩, fun _ _ => rfl⟩
theorem inX6_bet_6 : ∀ w ∈ wsX60, w ∈ wsX6_bet := fun _ h => List.mem_cons_of_mem _ (List.mem_append_left _ (List.mem_append_left _ (List.mem_append_left _ (List.mem_append_left _ (List.mem_append_right _ h)))))
theorem inX6_bet_1 : ∀ w ∈ wsX10, w ∈ wsX6_bet := fun _ h => List.mem_cons_of_mem _ (List.mem_append_left _ (List.mem_append_left _ (List.mem_append_left _ (List.mem_append_right _ h))))
theorem inX6_bet_4 : ∀ w ∈ wsX40, w ∈ wsX6_bet := fun _ h => List.mem_cons_of_mem _ (List.mem_append_left _ (List.mem_append_left _ (List.mem_append_right _ h)))
theorem inxX6_bet_261 : ∀ w ∈ (vx_atS RX6 261 eIX kUp).filter goodWord, w ∈ wsX6_bet := fun _ h => List.mem_cons_of_mem _ (List.mem_append_left _ (List.mem_append_right _ h))
theorem inxX6_bet_115 : ∀ w ∈ (vx_atS RX6 115 eIA kUp).filter goodWord, w ∈ wsX6_bet := fun _ h => List.mem_cons_of_mem _ (List.mem_append_right _ h)
theorem kd_X6_bet : yX6_bet.cls = RX6 ∧ yX6_bet.cls ≠ "java/lang/invoke/MethodHandle" ∧ yX6_bet.cls ≠ "java/lang/invoke/VarHandle" ∧ (parseMethodDescriptor yX6_bet.desc).map (fun d => d.parameters.length) = some 2 := by decide +kernel
abbrev rX6_bet : Room := ({ frames := 7, cells := 2, slots := 12, locals := 113 } : Room)
set_option maxRecDepth 100000 in
set_option maxHeartbeats 4000000 in
/-- bet -/
theorem m_X6_bet (l : Launch) (D : va_G) (cI cC cZ cB cJ : ClassId) (ad : Nat → Nat) (N : Nat) (G : Nat → va_E) (v : BV) (w : AV) (x : TV) (hi : HV) (z0 z1 : ZV) (h k0 : Int32) (hl0 : l.stackTraces = false) (hN : 73 ≤ N) (hF : isFB ad cI cB G v w x hi z0 z1) : kXi l yX6_bet wsX6_bet rX6_bet D (kT5 cI cC cZ cB cJ) ad N G [.ref (ad 0), .int h, .int k0] 2 12 (fun r G' => xBet v h k0 = 0 ∧ r = bC v h k0 ∧ ∃ w', isFB ad cI cB G' (v) w' (x) (hi) (z0) (z1) ∧ ∀ j, 73 ≤ j → G' j = G j) (fun E G' => E = eN (xBet v h k0) eIX eIA eIA ∧ xBet v h k0 ≠ 0 ∧ ∃ w', isFB ad cI cB G' v w' x hi z0 z1 ∧ ∀ j, 73 ≤ j → G' j = G j) := by
  refine kx_starti (cc := cX6_bet) (ret := (some .int)) (maxL := 3) (lv0 := [(0, .ref (ad 0)), (1, .int h), (2, .int k0)]) hl0 (by decide) rfl (Nat.le_of_ble_eq_true rfl) rfl ?_
  intro p e s m args below meth c A Q C X hQ
  have hlH := hF.2.1.2.2.2.2.1
  have hlB := hF.2.1.2.2.2.2.2.1
  have hlL := hF.2.1.2.2.2.2.2.2
  have hlX := hF.2.2.2.1.2.2
  have hlN := hF.2.2.2.2.1.2.2.2.1
  have hlZ := hF.2.2.2.2.1.2.2.2.2
  refine k_aload_n C dX6_bet_0 rfl (j := 0) rfl ?_
  refine k_get C 0 inX6_bet_6 (by omega) hF.1 rfl 0 (by decide) (List.mem_of_getElem? (i := 1) rfl) rfl rfl dX6_bet_1 ?_
  refine k_get C 1 inX6_bet_1 (by omega) hF.2.1.1 rfl 1 (by decide) (List.mem_of_getElem? (i := 2) rfl) rfl rfl dX6_bet_4 ?_
  refine k_iload_n C dX6_bet_7 rfl (j := 1) rfl ?_
  refine kx_callSv C X hQ (As := [.ref (ad (4)), .int h]) (rest := []) (m_X6_requireRow l D cI cC cZ cB cJ ad N G 4 5 8 (nI (bnB v)) 192 (bvb v) h hl0 (by omega) (by omega) hF.2.1.2.2.1.1 hF.2.1.2.2.1.2 (Nat.le_of_ble_eq_true rfl)) (fun E G' h9 => by obtain ⟨rfl, h8, rfl⟩ := h9; exact ⟨by simp [xBet, eN, h8], by simp [xBet, eN, h8], _, ⟨hF.1, hF.2.1, hF.2.2.1, hF.2.2.2.1, hF.2.2.2.2.1, hF.2.2.2.2.2.1, hF.2.2.2.2.2.2⟩, fun _ _ => rfl⟩) gX6_bet_X6_requireRow rfl kd_X6_requireRow rfl rfl ⟨(Nat.le_of_ble_eq_true rfl), (Nat.le_of_ble_eq_true rfl)⟩ rfl rfl (Nat.le_of_ble_eq_true rfl) ⟨(Nat.le_of_ble_eq_true rfl), (Nat.le_of_ble_eq_true rfl)⟩ (Nat.le_of_ble_eq_true rfl) (Nat.le_of_ble_eq_true rfl) dX6_bet_8 (fun G1 hG1 => ?_)
  have hq_11 := hG1.1
  have e_G1 := hG1.2
  subst e_G1
  refine k_iload_n C dX6_bet_11 rfl (j := 2) rfl ?_
  refine k_bipush C (v := 8) dX6_bet_12 (by decide) ?_
  refine kx_callSv C X hQ (As := [.int k0, .int 8]) (rest := []) (m_X6_requireProperty l D cI cC cZ cB cJ ad N G k0 8 hl0) (fun E G' h9 => by obtain ⟨rfl, h8, rfl⟩ := h9; exact ⟨by simp [xBet, eN, hq_11, h8], by simp [xBet, eN, hq_11, h8], _, ⟨hF.1, hF.2.1, hF.2.2.1, hF.2.2.2.1, hF.2.2.2.2.1, hF.2.2.2.2.2.1, hF.2.2.2.2.2.2⟩, fun _ _ => rfl⟩) gX6_bet_X6_requireProperty rfl kd_X6_requireProperty rfl rfl ⟨(Nat.le_of_ble_eq_true rfl), (Nat.le_of_ble_eq_true rfl)⟩ rfl rfl (Nat.le_of_ble_eq_true rfl) ⟨(Nat.le_of_ble_eq_true rfl), (Nat.le_of_ble_eq_true rfl)⟩ (Nat.le_of_ble_eq_true rfl) (Nat.le_of_ble_eq_true rfl) dX6_bet_14 (fun G2 hG2 => ?_)
  have hq_17 := hG2.1
  have e_G2 := hG2.2
  subst e_G2
  refine k_aload_n C dX6_bet_17 rfl (j := 0) rfl ?_
  refine k_get C 0 inX6_bet_6 (by omega) hF.1 rfl 0 (by decide) (List.mem_of_getElem? (i := 1) rfl) rfl rfl dX6_bet_18 ?_
  refine k_get C 1 inX6_bet_1 (by omega) hF.2.1.1 rfl 1 (by decide) (List.mem_of_getElem? (i := 2) rfl) rfl rfl dX6_bet_21 ?_
  refine k_iload_n C dX6_bet_24 rfl (j := 1) rfl ?_
  refine k_iload_n C dX6_bet_25 rfl (j := 2) rfl ?_
  refine k_callVir C (As := [.int h, .int k0]) (rest := []) 4 (m_X4_cell l D cI cC cZ cB cJ ad N G 4 5 8 (nI (bnB v)) 192 (bvb v) h k0 (by omega) (by omega) hF.2.1.2.2.1.1 hF.2.1.2.2.1.2 (Nat.le_of_ble_eq_true rfl)) gX6_bet_X4_cell rfl kd_X4_cell rfl rfl ⟨Nat.le_of_ble_eq_true rfl, Nat.le_of_ble_eq_true rfl⟩ (by omega) hF.2.1.2.2.1.1 rfl rfl rfl (Nat.le_of_ble_eq_true rfl) ⟨(Nat.le_of_ble_eq_true rfl), (Nat.le_of_ble_eq_true rfl)⟩ dX6_bet_26 ?_
  exact kx_iret C hQ rfl rfl (Nat.le_of_ble_eq_true rfl) (Nat.le_of_ble_eq_true rfl) dX6_bet_29 ⟨by simp [xBet, eN, hq_11, hq_17], rfl, _, ⟨hF.1, hF.2.1, hF.2.2.1, hF.2.2.2.1, hF.2.2.2.2.1, hF.2.2.2.2.2.1, hF.2.2.2.2.2.2⟩, fun _ _ => rfl⟩
theorem inX6_laid_6 : ∀ w ∈ wsX60, w ∈ wsX6_laid := fun _ h => List.mem_cons_of_mem _ (List.mem_append_left _ (List.mem_append_left _ (List.mem_append_left _ (List.mem_append_left _ (List.mem_append_right _ h)))))
theorem inX6_laid_1 : ∀ w ∈ wsX10, w ∈ wsX6_laid := fun _ h => List.mem_cons_of_mem _ (List.mem_append_left _ (List.mem_append_left _ (List.mem_append_left _ (List.mem_append_right _ h))))
theorem inX6_laid_4 : ∀ w ∈ wsX40, w ∈ wsX6_laid := fun _ h => List.mem_cons_of_mem _ (List.mem_append_left _ (List.mem_append_left _ (List.mem_append_right _ h)))
theorem inxX6_laid_261 : ∀ w ∈ (vx_atS RX6 261 eIX kUp).filter goodWord, w ∈ wsX6_laid := fun _ h => List.mem_cons_of_mem _ (List.mem_append_left _ (List.mem_append_right _ h))
theorem inxX6_laid_115 : ∀ w ∈ (vx_atS RX6 115 eIA kUp).filter goodWord, w ∈ wsX6_laid := fun _ h => List.mem_cons_of_mem _ (List.mem_append_right _ h)
theorem kd_X6_laid : yX6_laid.cls = RX6 ∧ yX6_laid.cls ≠ "java/lang/invoke/MethodHandle" ∧ yX6_laid.cls ≠ "java/lang/invoke/VarHandle" ∧ (parseMethodDescriptor yX6_laid.desc).map (fun d => d.parameters.length) = some 2 := by decide +kernel
abbrev rX6_laid : Room := ({ frames := 7, cells := 2, slots := 12, locals := 113 } : Room)
set_option maxRecDepth 100000 in
set_option maxHeartbeats 4000000 in
/-- laid -/
theorem m_X6_laid (l : Launch) (D : va_G) (cI cC cZ cB cJ : ClassId) (ad : Nat → Nat) (N : Nat) (G : Nat → va_E) (v : BV) (w : AV) (x : TV) (hi : HV) (z0 z1 : ZV) (h k0 : Int32) (hl0 : l.stackTraces = false) (hN : 73 ≤ N) (hF : isFB ad cI cB G v w x hi z0 z1) : kXi l yX6_laid wsX6_laid rX6_laid D (kT5 cI cC cZ cB cJ) ad N G [.ref (ad 0), .int h, .int k0] 2 12 (fun r G' => xLaid v h k0 = 0 ∧ r = lC v h k0 ∧ ∃ w', isFB ad cI cB G' (v) w' (x) (hi) (z0) (z1) ∧ ∀ j, 73 ≤ j → G' j = G j) (fun E G' => E = eN (xLaid v h k0) eIX eIA eIA ∧ xLaid v h k0 ≠ 0 ∧ ∃ w', isFB ad cI cB G' v w' x hi z0 z1 ∧ ∀ j, 73 ≤ j → G' j = G j) := by
  refine kx_starti (cc := cX6_laid) (ret := (some .int)) (maxL := 3) (lv0 := [(0, .ref (ad 0)), (1, .int h), (2, .int k0)]) hl0 (by decide) rfl (Nat.le_of_ble_eq_true rfl) rfl ?_
  intro p e s m args below meth c A Q C X hQ
  have hlH := hF.2.1.2.2.2.2.1
  have hlB := hF.2.1.2.2.2.2.2.1
  have hlL := hF.2.1.2.2.2.2.2.2
  have hlX := hF.2.2.2.1.2.2
  have hlN := hF.2.2.2.2.1.2.2.2.1
  have hlZ := hF.2.2.2.2.1.2.2.2.2
  refine k_aload_n C dX6_laid_0 rfl (j := 0) rfl ?_
  refine k_get C 0 inX6_laid_6 (by omega) hF.1 rfl 0 (by decide) (List.mem_of_getElem? (i := 1) rfl) rfl rfl dX6_laid_1 ?_
  refine k_get C 1 inX6_laid_1 (by omega) hF.2.1.1 rfl 2 (by decide) (List.mem_of_getElem? (i := 2) rfl) rfl rfl dX6_laid_4 ?_
  refine k_iload_n C dX6_laid_7 rfl (j := 1) rfl ?_
  refine kx_callSv C X hQ (As := [.ref (ad (6)), .int h]) (rest := []) (m_X6_requireRow l D cI cC cZ cB cJ ad N G 6 7 5 (nI (bnL v)) 30 (bvl v) h hl0 (by omega) (by omega) hF.2.1.2.2.2.1.1 hF.2.1.2.2.2.1.2 (Nat.le_of_ble_eq_true rfl)) (fun E G' h9 => by obtain ⟨rfl, h8, rfl⟩ := h9; exact ⟨by simp [xLaid, eN, h8], by simp [xLaid, eN, h8], _, ⟨hF.1, hF.2.1, hF.2.2.1, hF.2.2.2.1, hF.2.2.2.2.1, hF.2.2.2.2.2.1, hF.2.2.2.2.2.2⟩, fun _ _ => rfl⟩) gX6_laid_X6_requireRow rfl kd_X6_requireRow rfl rfl ⟨(Nat.le_of_ble_eq_true rfl), (Nat.le_of_ble_eq_true rfl)⟩ rfl rfl (Nat.le_of_ble_eq_true rfl) ⟨(Nat.le_of_ble_eq_true rfl), (Nat.le_of_ble_eq_true rfl)⟩ (Nat.le_of_ble_eq_true rfl) (Nat.le_of_ble_eq_true rfl) dX6_laid_8 (fun G1 hG1 => ?_)
  have hq_11 := hG1.1
  have e_G1 := hG1.2
  subst e_G1
  refine k_iload_n C dX6_laid_11 rfl (j := 2) rfl ?_
  refine k_iconst C (v := 5) dX6_laid_12 (by decide) ?_
  refine kx_callSv C X hQ (As := [.int k0, .int 5]) (rest := []) (m_X6_requireProperty l D cI cC cZ cB cJ ad N G k0 5 hl0) (fun E G' h9 => by obtain ⟨rfl, h8, rfl⟩ := h9; exact ⟨by simp [xLaid, eN, hq_11, h8], by simp [xLaid, eN, hq_11, h8], _, ⟨hF.1, hF.2.1, hF.2.2.1, hF.2.2.2.1, hF.2.2.2.2.1, hF.2.2.2.2.2.1, hF.2.2.2.2.2.2⟩, fun _ _ => rfl⟩) gX6_laid_X6_requireProperty rfl kd_X6_requireProperty rfl rfl ⟨(Nat.le_of_ble_eq_true rfl), (Nat.le_of_ble_eq_true rfl)⟩ rfl rfl (Nat.le_of_ble_eq_true rfl) ⟨(Nat.le_of_ble_eq_true rfl), (Nat.le_of_ble_eq_true rfl)⟩ (Nat.le_of_ble_eq_true rfl) (Nat.le_of_ble_eq_true rfl) dX6_laid_13 (fun G2 hG2 => ?_)
  have hq_16 := hG2.1
  have e_G2 := hG2.2
  subst e_G2
  refine k_aload_n C dX6_laid_16 rfl (j := 0) rfl ?_
  refine k_get C 0 inX6_laid_6 (by omega) hF.1 rfl 0 (by decide) (List.mem_of_getElem? (i := 1) rfl) rfl rfl dX6_laid_17 ?_
  refine k_get C 1 inX6_laid_1 (by omega) hF.2.1.1 rfl 2 (by decide) (List.mem_of_getElem? (i := 2) rfl) rfl rfl dX6_laid_20 ?_
  refine k_iload_n C dX6_laid_23 rfl (j := 1) rfl ?_
  refine k_iload_n C dX6_laid_24 rfl (j := 2) rfl ?_
  refine k_callVir C (As := [.int h, .int k0]) (rest := []) 6 (m_X4_cell l D cI cC cZ cB cJ ad N G 6 7 5 (nI (bnL v)) 30 (bvl v) h k0 (by omega) (by omega) hF.2.1.2.2.2.1.1 hF.2.1.2.2.2.1.2 (Nat.le_of_ble_eq_true rfl)) gX6_laid_X4_cell rfl kd_X4_cell rfl rfl ⟨Nat.le_of_ble_eq_true rfl, Nat.le_of_ble_eq_true rfl⟩ (by omega) hF.2.1.2.2.2.1.1 rfl rfl rfl (Nat.le_of_ble_eq_true rfl) ⟨(Nat.le_of_ble_eq_true rfl), (Nat.le_of_ble_eq_true rfl)⟩ dX6_laid_25 ?_
  exact kx_iret C hQ rfl rfl (Nat.le_of_ble_eq_true rfl) (Nat.le_of_ble_eq_true rfl) dX6_laid_28 ⟨by simp [xLaid, eN, hq_11, hq_16], rfl, _, ⟨hF.1, hF.2.1, hF.2.2.1, hF.2.2.2.1, hF.2.2.2.2.1, hF.2.2.2.2.2.1, hF.2.2.2.2.2.2⟩, fun _ _ => rfl⟩
theorem inX6_count_6 : ∀ w ∈ wsX60, w ∈ wsX6_count := fun _ h => List.mem_cons_of_mem _ (List.mem_append_left _ (List.mem_append_left _ (List.mem_append_left _ (List.mem_append_left _ (List.mem_append_right _ h)))))
theorem inX6_count_1 : ∀ w ∈ wsX10, w ∈ wsX6_count := fun _ h => List.mem_cons_of_mem _ (List.mem_append_left _ (List.mem_append_left _ (List.mem_append_left _ (List.mem_append_right _ h))))
theorem inX6_count_4 : ∀ w ∈ wsX40, w ∈ wsX6_count := fun _ h => List.mem_cons_of_mem _ (List.mem_append_left _ (List.mem_append_left _ (List.mem_append_right _ h)))
theorem inX6_count_2 : ∀ w ∈ wsX20, w ∈ wsX6_count := fun _ h => List.mem_cons_of_mem _ (List.mem_append_left _ (List.mem_append_right _ h))
theorem inxX6_count_115 : ∀ w ∈ (vx_atS RX6 115 eIA kUp).filter goodWord, w ∈ wsX6_count := fun _ h => List.mem_cons_of_mem _ (List.mem_append_right _ h)
theorem kd_X6_count : yX6_count.cls = RX6 ∧ yX6_count.cls ≠ "java/lang/invoke/MethodHandle" ∧ yX6_count.cls ≠ "java/lang/invoke/VarHandle" ∧ (parseMethodDescriptor yX6_count.desc).map (fun d => d.parameters.length) = some 1 := by decide +kernel
abbrev rX6_count : Room := ({ frames := 7, cells := 1, slots := 6, locals := 113 } : Room)
set_option maxRecDepth 100000 in
set_option maxHeartbeats 4000000 in
/-- count -/
theorem m_X6_count (l : Launch) (D : va_G) (cI cC cZ cB cJ : ClassId) (ad : Nat → Nat) (N : Nat) (G : Nat → va_E) (v : BV) (w : AV) (x : TV) (hi : HV) (z0 z1 : ZV) (k0 : Int32) (hl0 : l.stackTraces = false) (hN : 73 ≤ N) (hF : isFB ad cI cB G v w x hi z0 z1) : kXi l yX6_count wsX6_count rX6_count D (kT5 cI cC cZ cB cJ) ad N G [.ref (ad 0), .int k0] 1 6 (fun r G' => xCount k0 = 0 ∧ r = jCount v hi k0.toNatClampNeg ∧ ∃ w', isFB ad cI cB G' (v) w' (x) (hi) (z0) (z1) ∧ ∀ j, 73 ≤ j → G' j = G j) (fun E G' => E = eN (xCount k0) eIA eIA eIA ∧ xCount k0 ≠ 0 ∧ ∃ w', isFB ad cI cB G' v w' x hi z0 z1 ∧ ∀ j, 73 ≤ j → G' j = G j) := by
  refine kx_starti (cc := cX6_count) (ret := (some .int)) (maxL := 2) (lv0 := [(0, .ref (ad 0)), (1, .int k0)]) hl0 (by decide) rfl (Nat.le_of_ble_eq_true rfl) rfl ?_
  intro p e s m args below meth c A Q C X hQ
  have hlH := hF.2.1.2.2.2.2.1
  have hlB := hF.2.1.2.2.2.2.2.1
  have hlL := hF.2.1.2.2.2.2.2.2
  have hlX := hF.2.2.2.1.2.2
  have hlN := hF.2.2.2.2.1.2.2.2.1
  have hlZ := hF.2.2.2.2.1.2.2.2.2
  refine k_iload_n C dX6_count_0 rfl (j := 1) rfl ?_
  refine k_bipush C (v := 14) dX6_count_1 (by decide) ?_
  refine kx_callSv C X hQ (As := [.int k0, .int 14]) (rest := []) (m_X6_requireProperty l D cI cC cZ cB cJ ad N G k0 14 hl0) (fun E G' h9 => by obtain ⟨rfl, h8, rfl⟩ := h9; exact ⟨by simp [xCount, eN, h8], by simp [xCount, eN, h8], _, ⟨hF.1, hF.2.1, hF.2.2.1, hF.2.2.2.1, hF.2.2.2.2.1, hF.2.2.2.2.2.1, hF.2.2.2.2.2.2⟩, fun _ _ => rfl⟩) gX6_count_X6_requireProperty rfl kd_X6_requireProperty rfl rfl ⟨(Nat.le_of_ble_eq_true rfl), (Nat.le_of_ble_eq_true rfl)⟩ rfl rfl (Nat.le_of_ble_eq_true rfl) ⟨(Nat.le_of_ble_eq_true rfl), (Nat.le_of_ble_eq_true rfl)⟩ (Nat.le_of_ble_eq_true rfl) (Nat.le_of_ble_eq_true rfl) dX6_count_3 (fun G1 hG1 => ?_)
  have hq_6 := hG1.1
  have e_G1 := hG1.2
  subst e_G1
  obtain ⟨kk, hkk, rfl⟩ := prop_nI (n := 14) (by decide) hq_6
  refine k_aload_n C dX6_count_6 rfl (j := 0) rfl ?_
  refine k_iload_n C dX6_count_7 rfl (j := 1) rfl ?_
  refine k_callVir C (As := [.int (nI kk)]) (rest := []) 0 (m_X6_counted l D cI cC cZ cB cJ ad N G v w x hi z0 z1 kk (by omega) ⟨hF.1, hF.2.1, hF.2.2.1, hF.2.2.2.1, hF.2.2.2.2.1, hF.2.2.2.2.2.1, hF.2.2.2.2.2.2⟩ (by omega)) gX6_count_X6_counted rfl kd_X6_counted rfl rfl ⟨Nat.le_of_ble_eq_true rfl, Nat.le_of_ble_eq_true rfl⟩ (by omega) hF.1 rfl rfl rfl (Nat.le_of_ble_eq_true rfl) ⟨(Nat.le_of_ble_eq_true rfl), (Nat.le_of_ble_eq_true rfl)⟩ dX6_count_8 ?_
  exact kx_iret C hQ rfl rfl (Nat.le_of_ble_eq_true rfl) (Nat.le_of_ble_eq_true rfl) dX6_count_11 ⟨by simp [xCount, eN, hq_6], by rw [nI_clamp (by omega)], _, ⟨hF.1, hF.2.1, hF.2.2.1, hF.2.2.2.1, hF.2.2.2.2.1, hF.2.2.2.2.2.1, hF.2.2.2.2.2.2⟩, fun _ _ => rfl⟩
theorem inX6_setting_6 : ∀ w ∈ wsX60, w ∈ wsX6_setting := fun _ h => List.mem_cons_of_mem _ (List.mem_append_left _ (List.mem_append_left _ (List.mem_append_right _ h)))
theorem inX6_setting_1 : ∀ w ∈ wsX10, w ∈ wsX6_setting := fun _ h => List.mem_cons_of_mem _ (List.mem_append_left _ (List.mem_append_right _ h))
theorem inxX6_setting_261 : ∀ w ∈ (vx_atS RX6 261 eIX kUp).filter goodWord, w ∈ wsX6_setting := fun _ h => List.mem_cons_of_mem _ (List.mem_append_right _ h)
theorem kd_X6_setting : yX6_setting.cls = RX6 ∧ yX6_setting.cls ≠ "java/lang/invoke/MethodHandle" ∧ yX6_setting.cls ≠ "java/lang/invoke/VarHandle" ∧ (parseMethodDescriptor yX6_setting.desc).map (fun d => d.parameters.length) = some 1 := by decide +kernel
abbrev rX6_setting : Room := ({ frames := 7, cells := 1, slots := 6, locals := 112 } : Room)
set_option maxRecDepth 100000 in
set_option maxHeartbeats 4000000 in
/-- setting -/
theorem m_X6_setting (l : Launch) (D : va_G) (cI cC cZ cB cJ : ClassId) (ad : Nat → Nat) (N : Nat) (G : Nat → va_E) (v : BV) (w : AV) (x : TV) (hi : HV) (z0 z1 : ZV) (k0 : Int32) (hl0 : l.stackTraces = false) (hN : 73 ≤ N) (hF : isFB ad cI cB G v w x hi z0 z1) : kXi l yX6_setting wsX6_setting rX6_setting D (kT5 cI cC cZ cB cJ) ad N G [.ref (ad 0), .int k0] 1 6 (fun r G' => xSetting k0 = 0 ∧ r = jSetting v k0 ∧ ∃ w', isFB ad cI cB G' (v) w' (x) (hi) (z0) (z1) ∧ ∀ j, 73 ≤ j → G' j = G j) (fun E G' => E = eN (xSetting k0) eIX eIX eIX ∧ xSetting k0 ≠ 0 ∧ ∃ w', isFB ad cI cB G' v w' x hi z0 z1 ∧ ∀ j, 73 ≤ j → G' j = G j) := by
  refine kx_starti (cc := cX6_setting) (ret := (some .int)) (maxL := 2) (lv0 := [(0, .ref (ad 0)), (1, .int k0)]) hl0 (by decide) rfl (Nat.le_of_ble_eq_true rfl) rfl ?_
  intro p e s m args below meth c A Q C X hQ
  have hlH := hF.2.1.2.2.2.2.1
  have hlB := hF.2.1.2.2.2.2.2.1
  have hlL := hF.2.1.2.2.2.2.2.2
  have hlX := hF.2.2.2.1.2.2
  have hlN := hF.2.2.2.2.1.2.2.2.1
  have hlZ := hF.2.2.2.2.1.2.2.2.2
  refine k_iload_n C dX6_setting_0 rfl (j := 1) rfl ?_
  refine kx_callSv C X hQ (As := [.int k0]) (rest := []) (m_X6_requireSetting l D cI cC cZ cB cJ ad N G k0 hl0) (fun E G' h9 => by obtain ⟨rfl, h8, rfl⟩ := h9; exact ⟨by simp [xSetting, eN, h8], by simp [xSetting, eN, h8], _, ⟨hF.1, hF.2.1, hF.2.2.1, hF.2.2.2.1, hF.2.2.2.2.1, hF.2.2.2.2.2.1, hF.2.2.2.2.2.2⟩, fun _ _ => rfl⟩) gX6_setting_X6_requireSetting rfl kd_X6_requireSetting rfl rfl ⟨(Nat.le_of_ble_eq_true rfl), (Nat.le_of_ble_eq_true rfl)⟩ rfl rfl (Nat.le_of_ble_eq_true rfl) ⟨(Nat.le_of_ble_eq_true rfl), (Nat.le_of_ble_eq_true rfl)⟩ (Nat.le_of_ble_eq_true rfl) (Nat.le_of_ble_eq_true rfl) dX6_setting_1 (fun G1 hG1 => ?_)
  have hq_4 := hG1.1
  have e_G1 := hG1.2
  subst e_G1
  refine k_aload_n C dX6_setting_4 rfl (j := 0) rfl ?_
  refine k_iload_n C dX6_setting_5 rfl (j := 1) rfl ?_
  refine k_callVir C (As := [.int k0]) (rest := []) 0 (m_X6_settingNow l D cI cC cZ cB cJ ad N G v w x hi z0 z1 k0 (by omega) ⟨hF.1, hF.2.1, hF.2.2.1, hF.2.2.2.1, hF.2.2.2.2.1, hF.2.2.2.2.2.1, hF.2.2.2.2.2.2⟩ ) gX6_setting_X6_settingNow rfl kd_X6_settingNow rfl rfl ⟨Nat.le_of_ble_eq_true rfl, Nat.le_of_ble_eq_true rfl⟩ (by omega) hF.1 rfl rfl rfl (Nat.le_of_ble_eq_true rfl) ⟨(Nat.le_of_ble_eq_true rfl), (Nat.le_of_ble_eq_true rfl)⟩ dX6_setting_6 ?_
  exact kx_iret C hQ rfl rfl (Nat.le_of_ble_eq_true rfl) (Nat.le_of_ble_eq_true rfl) dX6_setting_9 ⟨by simp [xSetting, eN, hq_4], rfl, _, ⟨hF.1, hF.2.1, hF.2.2.1, hF.2.2.2.1, hF.2.2.2.2.1, hF.2.2.2.2.2.1, hF.2.2.2.2.2.2⟩, fun _ _ => rfl⟩
theorem inX6_ifWon_6 : ∀ w ∈ wsX60, w ∈ wsX6_ifWon := fun _ h => List.mem_cons_of_mem _ (List.mem_append_left _ (List.mem_append_left _ (List.mem_append_left _ (List.mem_append_left _ (List.mem_append_right _ h)))))
theorem inX6_ifWon_1 : ∀ w ∈ wsX10, w ∈ wsX6_ifWon := fun _ h => List.mem_cons_of_mem _ (List.mem_append_left _ (List.mem_append_left _ (List.mem_append_left _ (List.mem_append_right _ h))))
theorem inX6_ifWon_4 : ∀ w ∈ wsX40, w ∈ wsX6_ifWon := fun _ h => List.mem_cons_of_mem _ (List.mem_append_left _ (List.mem_append_left _ (List.mem_append_right _ h)))
theorem inX6_ifWon_0 : ∀ w ∈ wsX00, w ∈ wsX6_ifWon := fun _ h => List.mem_cons_of_mem _ (List.mem_append_left _ (List.mem_append_right _ h))
theorem inxX6_ifWon_261 : ∀ w ∈ (vx_atS RX6 261 eIX kUp).filter goodWord, w ∈ wsX6_ifWon := fun _ h => List.mem_cons_of_mem _ (List.mem_append_right _ h)
theorem kd_X6_ifWon : yX6_ifWon.cls = RX6 ∧ yX6_ifWon.cls ≠ "java/lang/invoke/MethodHandle" ∧ yX6_ifWon.cls ≠ "java/lang/invoke/VarHandle" ∧ (parseMethodDescriptor yX6_ifWon.desc).map (fun d => d.parameters.length) = some 1 := by decide +kernel
abbrev rX6_ifWon : Room := ({ frames := 8, cells := 1, slots := 6, locals := 134 } : Room)
set_option maxRecDepth 100000 in
set_option maxHeartbeats 4000000 in
/-- ifWon -/
theorem m_X6_ifWon (l : Launch) (D : va_G) (cI cC cZ cB cJ : ClassId) (ad : Nat → Nat) (N : Nat) (G : Nat → va_E) (v : BV) (w : AV) (x : TV) (hi : HV) (z0 z1 : ZV) (h : Int32) (hl0 : l.stackTraces = false) (hN : 73 ≤ N) (hF : isFB ad cI cB G v w x hi z0 z1) : kXi l yX6_ifWon wsX6_ifWon rX6_ifWon D (kT5 cI cC cZ cB cJ) ad N G [.ref (ad 0), .int h] 1 6 (fun r G' => xOne v h = 0 ∧ r = jWW v h ∧ ∃ w', isFB ad cI cB G' (v) w' (x) (hi) (z0) (z1) ∧ ∀ j, 73 ≤ j → G' j = G j) (fun E G' => E = eN (xOne v h) eIX eIX eIX ∧ xOne v h ≠ 0 ∧ ∃ w', isFB ad cI cB G' v w' x hi z0 z1 ∧ ∀ j, 73 ≤ j → G' j = G j) := by
  refine kx_starti (cc := cX6_ifWon) (ret := (some .int)) (maxL := 2) (lv0 := [(0, .ref (ad 0)), (1, .int h)]) hl0 (by decide) rfl (Nat.le_of_ble_eq_true rfl) rfl ?_
  intro p e s m args below meth c A Q C X hQ
  have hlH := hF.2.1.2.2.2.2.1
  have hlB := hF.2.1.2.2.2.2.2.1
  have hlL := hF.2.1.2.2.2.2.2.2
  have hlX := hF.2.2.2.1.2.2
  have hlN := hF.2.2.2.2.1.2.2.2.1
  have hlZ := hF.2.2.2.2.1.2.2.2.2
  refine k_aload_n C dX6_ifWon_0 rfl (j := 0) rfl ?_
  refine k_iload_n C dX6_ifWon_1 rfl (j := 1) rfl ?_
  refine kx_callVv C X hQ (As := [.int h]) (rest := []) 0 (m_X6_requireHorse l D cI cC cZ cB cJ ad N G v w x hi z0 z1 h hl0 (by omega) ⟨hF.1, hF.2.1, hF.2.2.1, hF.2.2.2.1, hF.2.2.2.2.1, hF.2.2.2.2.2.1, hF.2.2.2.2.2.2⟩) (fun E G' h9 => by obtain ⟨rfl, h8, rfl⟩ := h9; exact ⟨by simp [xOne, eN, h8], by simp [xOne, eN, h8], _, ⟨hF.1, hF.2.1, hF.2.2.1, hF.2.2.2.1, hF.2.2.2.2.1, hF.2.2.2.2.2.1, hF.2.2.2.2.2.2⟩, fun _ _ => rfl⟩) gX6_ifWon_X6_requireHorse rfl kd_X6_requireHorse rfl rfl ⟨(Nat.le_of_ble_eq_true rfl), (Nat.le_of_ble_eq_true rfl)⟩ (by omega) hF.1 rfl rfl rfl (Nat.le_of_ble_eq_true rfl) ⟨(Nat.le_of_ble_eq_true rfl), (Nat.le_of_ble_eq_true rfl)⟩ (Nat.le_of_ble_eq_true rfl) (Nat.le_of_ble_eq_true rfl) dX6_ifWon_2 (fun G1 hG1 => ?_)
  have hq_5 := hG1.1
  have e_G1 := hG1.2
  subst e_G1
  refine k_aload_n C dX6_ifWon_5 rfl (j := 0) rfl ?_
  refine k_iload_n C dX6_ifWon_6 rfl (j := 1) rfl ?_
  refine k_callVi C (As := [.int h]) (rest := []) 0 (m_X6_wouldWinWith l D cI cC cZ cB cJ ad N G v w x hi z0 z1 h (by omega) ⟨hF.1, hF.2.1, hF.2.2.1, hF.2.2.2.1, hF.2.2.2.2.1, hF.2.2.2.2.2.1, hF.2.2.2.2.2.2⟩ ) gX6_ifWon_X6_wouldWinWith rfl kd_X6_wouldWinWith rfl rfl ⟨Nat.le_of_ble_eq_true rfl, Nat.le_of_ble_eq_true rfl⟩ (by omega) hF.1 rfl rfl rfl (Nat.le_of_ble_eq_true rfl) ⟨(Nat.le_of_ble_eq_true rfl), (Nat.le_of_ble_eq_true rfl)⟩ dX6_ifWon_7 (fun r_7 G2 hG2 => ?_)
  obtain ⟨e_r_7, w_G2, hF_G2, hfr_G2⟩ := hG2
  subst e_r_7
  exact kx_iret C hQ rfl rfl (Nat.le_of_ble_eq_true rfl) (Nat.le_of_ble_eq_true rfl) dX6_ifWon_10 ⟨by simp [xOne, eN, hq_5], rfl, _, ⟨hF_G2.1, hF_G2.2.1, hF_G2.2.2.1, hF_G2.2.2.2.1, hF_G2.2.2.2.2.1, hF_G2.2.2.2.2.2.1, hF_G2.2.2.2.2.2.2⟩, fun j hj => hfr_G2 j (by omega)⟩
theorem inX6_cover_6 : ∀ w ∈ wsX60, w ∈ wsX6_cover := fun _ h => List.mem_cons_of_mem _ (List.mem_append_left _ (List.mem_append_left _ (List.mem_append_left _ (List.mem_append_left _ (List.mem_append_right _ h)))))
theorem inX6_cover_1 : ∀ w ∈ wsX10, w ∈ wsX6_cover := fun _ h => List.mem_cons_of_mem _ (List.mem_append_left _ (List.mem_append_left _ (List.mem_append_left _ (List.mem_append_right _ h))))
theorem inX6_cover_4 : ∀ w ∈ wsX40, w ∈ wsX6_cover := fun _ h => List.mem_cons_of_mem _ (List.mem_append_left _ (List.mem_append_left _ (List.mem_append_right _ h)))
theorem inX6_cover_0 : ∀ w ∈ wsX00, w ∈ wsX6_cover := fun _ h => List.mem_cons_of_mem _ (List.mem_append_left _ (List.mem_append_right _ h))
theorem inxX6_cover_261 : ∀ w ∈ (vx_atS RX6 261 eIX kUp).filter goodWord, w ∈ wsX6_cover := fun _ h => List.mem_cons_of_mem _ (List.mem_append_right _ h)
theorem kd_X6_cover : yX6_cover.cls = RX6 ∧ yX6_cover.cls ≠ "java/lang/invoke/MethodHandle" ∧ yX6_cover.cls ≠ "java/lang/invoke/VarHandle" ∧ (parseMethodDescriptor yX6_cover.desc).map (fun d => d.parameters.length) = some 1 := by decide +kernel
abbrev rX6_cover : Room := ({ frames := 8, cells := 1, slots := 6, locals := 134 } : Room)
set_option maxRecDepth 100000 in
set_option maxHeartbeats 4000000 in
/-- cover -/
theorem m_X6_cover (l : Launch) (D : va_G) (cI cC cZ cB cJ : ClassId) (ad : Nat → Nat) (N : Nat) (G : Nat → va_E) (v : BV) (w : AV) (x : TV) (hi : HV) (z0 z1 : ZV) (h : Int32) (hl0 : l.stackTraces = false) (hN : 73 ≤ N) (hF : isFB ad cI cB G v w x hi z0 z1) : kXi l yX6_cover wsX6_cover rX6_cover D (kT5 cI cC cZ cB cJ) ad N G [.ref (ad 0), .int h] 1 6 (fun r G' => xOne v h = 0 ∧ r = jCover v h (jWW v h) ∧ ∃ w', isFB ad cI cB G' (v) w' (x) (hi) (z0) (z1) ∧ ∀ j, 73 ≤ j → G' j = G j) (fun E G' => E = eN (xOne v h) eIX eIX eIX ∧ xOne v h ≠ 0 ∧ ∃ w', isFB ad cI cB G' v w' x hi z0 z1 ∧ ∀ j, 73 ≤ j → G' j = G j) := by
  refine kx_starti (cc := cX6_cover) (ret := (some .int)) (maxL := 2) (lv0 := [(0, .ref (ad 0)), (1, .int h)]) hl0 (by decide) rfl (Nat.le_of_ble_eq_true rfl) rfl ?_
  intro p e s m args below meth c A Q C X hQ
  have hlH := hF.2.1.2.2.2.2.1
  have hlB := hF.2.1.2.2.2.2.2.1
  have hlL := hF.2.1.2.2.2.2.2.2
  have hlX := hF.2.2.2.1.2.2
  have hlN := hF.2.2.2.2.1.2.2.2.1
  have hlZ := hF.2.2.2.2.1.2.2.2.2
  refine k_aload_n C dX6_cover_0 rfl (j := 0) rfl ?_
  refine k_iload_n C dX6_cover_1 rfl (j := 1) rfl ?_
  refine kx_callVv C X hQ (As := [.int h]) (rest := []) 0 (m_X6_requireHorse l D cI cC cZ cB cJ ad N G v w x hi z0 z1 h hl0 (by omega) ⟨hF.1, hF.2.1, hF.2.2.1, hF.2.2.2.1, hF.2.2.2.2.1, hF.2.2.2.2.2.1, hF.2.2.2.2.2.2⟩) (fun E G' h9 => by obtain ⟨rfl, h8, rfl⟩ := h9; exact ⟨by simp [xOne, eN, h8], by simp [xOne, eN, h8], _, ⟨hF.1, hF.2.1, hF.2.2.1, hF.2.2.2.1, hF.2.2.2.2.1, hF.2.2.2.2.2.1, hF.2.2.2.2.2.2⟩, fun _ _ => rfl⟩) gX6_cover_X6_requireHorse rfl kd_X6_requireHorse rfl rfl ⟨(Nat.le_of_ble_eq_true rfl), (Nat.le_of_ble_eq_true rfl)⟩ (by omega) hF.1 rfl rfl rfl (Nat.le_of_ble_eq_true rfl) ⟨(Nat.le_of_ble_eq_true rfl), (Nat.le_of_ble_eq_true rfl)⟩ (Nat.le_of_ble_eq_true rfl) (Nat.le_of_ble_eq_true rfl) dX6_cover_2 (fun G1 hG1 => ?_)
  have hq_5 := hG1.1
  have e_G1 := hG1.2
  subst e_G1
  refine k_aload_n C dX6_cover_5 rfl (j := 0) rfl ?_
  refine k_iload_n C dX6_cover_6 rfl (j := 1) rfl ?_
  refine k_aload_n C dX6_cover_7 rfl (j := 0) rfl ?_
  refine k_iload_n C dX6_cover_8 rfl (j := 1) rfl ?_
  refine k_callVi C (As := [.int h]) (rest := [.int h, .ref (ad 0)]) 0 (m_X6_wouldWinWith l D cI cC cZ cB cJ ad N G v w x hi z0 z1 h (by omega) ⟨hF.1, hF.2.1, hF.2.2.1, hF.2.2.2.1, hF.2.2.2.2.1, hF.2.2.2.2.2.1, hF.2.2.2.2.2.2⟩ ) gX6_cover_X6_wouldWinWith rfl kd_X6_wouldWinWith rfl rfl ⟨Nat.le_of_ble_eq_true rfl, Nat.le_of_ble_eq_true rfl⟩ (by omega) hF.1 rfl rfl rfl (Nat.le_of_ble_eq_true rfl) ⟨(Nat.le_of_ble_eq_true rfl), (Nat.le_of_ble_eq_true rfl)⟩ dX6_cover_9 (fun r_9 G2 hG2 => ?_)
  obtain ⟨e_r_9, w_G2, hF_G2, hfr_G2⟩ := hG2
  subst e_r_9
  refine k_callVir C (As := [.int h, .int (jWW v h)]) (rest := []) 0 (m_X6_coveringStake l D cI cC cZ cB cJ ad N G2 v w_G2 x hi z0 z1 h (jWW v h) (by omega) ⟨hF_G2.1, hF_G2.2.1, hF_G2.2.2.1, hF_G2.2.2.2.1, hF_G2.2.2.2.2.1, hF_G2.2.2.2.2.2.1, hF_G2.2.2.2.2.2.2⟩ ) gX6_cover_X6_coveringStake rfl kd_X6_coveringStake rfl rfl ⟨Nat.le_of_ble_eq_true rfl, Nat.le_of_ble_eq_true rfl⟩ (by omega) hF_G2.1 rfl rfl rfl (Nat.le_of_ble_eq_true rfl) ⟨(Nat.le_of_ble_eq_true rfl), (Nat.le_of_ble_eq_true rfl)⟩ dX6_cover_12 ?_
  exact kx_iret C hQ rfl rfl (Nat.le_of_ble_eq_true rfl) (Nat.le_of_ble_eq_true rfl) dX6_cover_15 ⟨by simp [xOne, eN, hq_5], rfl, _, ⟨hF_G2.1, hF_G2.2.1, hF_G2.2.2.1, hF_G2.2.2.2.1, hF_G2.2.2.2.2.1, hF_G2.2.2.2.2.2.1, hF_G2.2.2.2.2.2.2⟩, fun j hj => hfr_G2 j (by omega)⟩
