/-! THE LAW'S HELPERS: each calls one method of the class, keeps its answer in the cell 0 of out (79), tells what was thrown -/
def hPost (ad : Nat → Nat) (cI cB cJ : ClassId) (G : Nat → va_E) (X : Nat) (R : Int32) (v : BV) (x : TV) (hi : HV) (z0 z1 : ZV) (v' : BV) (x' : TV) (hi' : HV) (z0' z1' : ZV) : Int32 → (Nat → va_E) → Prop := fun r G' =>
  r = nI X ∧ ((X = 0 ∧ (∃ w', isFB ad cI cB G' v' w' x' hi' z0' z1') ∧ ∃ fo, G' 79 = .inl (cJ, 1, .inr (.inl fo)) ∧ fo 0 = R.toInt64) ∨ (X ≠ 0 ∧ (∃ w', isFB ad cI cB G' v w' x hi z0 z1) ∧ G' 79 = G 79)) ∧ ∀ j, 73 ≤ j → j ≠ 79 → G' j = G j
theorem xb_horse (v : BV) (pa : Int32) (pb : Int32) : xHorse v pa pb ≤ 2 := by unfold xHorse; (repeat' split) <;> decide
theorem xb_price (v : BV) (h : Int32) (pa : Int32) (pb : Int32) : xPrice v h pa pb ≤ 3 := by unfold xPrice; (repeat' split) <;> decide
theorem xb_take (v : BV) (h : Int32) (st : Int32) : xTake v h st ≤ 3 := by unfold xTake; (repeat' split) <;> decide
theorem xb_layOff (v : BV) (h : Int32) (st : Int32) (pa : Int32) (pb : Int32) : xLay v h st pa pb ≤ 3 := by unfold xLay; (repeat' split) <;> decide
theorem xb_withdraw (v : BV) (h : Int32) : xWith v h ≤ 2 := by unfold xWith; (repeat' split) <;> decide
theorem xb_settle (v : BV) (x : TV) : xSettle v x ≤ 2 := by unfold xSettle; (repeat' split) <;> decide
theorem xb_set (v : BV) (k0 : Int32) (y : Int32) : xSet v k0 y ≤ 3 := by unfold xSet; (repeat' split) <;> decide
theorem xb_append (x : TV) (y : Int32) : xAppend x y ≤ 2 := by unfold xAppend; (repeat' split) <;> decide
theorem xb_keep (k0 : Int32) : xKeep k0 ≤ 1 := by unfold xKeep; (repeat' split) <;> decide
theorem xb_goBack (k0 : Int32) (z0 : ZV) (z1 : ZV) : xBack k0 z0 z1 ≤ 2 := by unfold xBack; (repeat' split) <;> decide
theorem xb_undo (hi : HV) : xUndo hi ≤ 1 := by unfold xUndo; (repeat' split) <;> decide
theorem xb_horseOf (v : BV) (h : Int32) (k0 : Int32) : xHorseOf v h k0 ≤ 2 := by unfold xHorseOf; (repeat' split) <;> decide
theorem xb_bet (v : BV) (h : Int32) (k0 : Int32) : xBet v h k0 ≤ 2 := by unfold xBet; (repeat' split) <;> decide
theorem xb_laid (v : BV) (h : Int32) (k0 : Int32) : xLaid v h k0 ≤ 2 := by unfold xLaid; (repeat' split) <;> decide
theorem xb_count (k0 : Int32) : xCount k0 ≤ 1 := by unfold xCount; (repeat' split) <;> decide
theorem xb_setting (k0 : Int32) : xSetting k0 ≤ 1 := by unfold xSetting; (repeat' split) <;> decide
theorem xb_ifWon (v : BV) (h : Int32) : xOne v h ≤ 1 := by unfold xOne; (repeat' split) <;> decide
theorem xb_cover (v : BV) (h : Int32) : xOne v h ≤ 1 := by unfold xOne; (repeat' split) <;> decide
theorem kd_L_horse : yL_horse.cls ≠ "java/lang/invoke/MethodHandle" ∧ yL_horse.cls ≠ "java/lang/invoke/VarHandle" ∧ (parseMethodDescriptor yL_horse.desc).map (fun d => d.parameters.length) = some 4 := by decide +kernel
abbrev rL_horse : Room := ({ frames := 8, cells := 3, slots := 18, locals := 146 } : Room)
set_option maxRecDepth 100000 in
set_option maxHeartbeats 4000000 in
theorem m_L_horse (l : Launch) (D : va_G) (cI cC cZ cB cJ : ClassId) (ad : Nat → Nat) (N : Nat) (G : Nat → va_E) (v : BV) (w : AV) (x : TV) (hi : HV) (z0 z1 : ZV) (pa pb : Int32) (fo : Nat → Int64) (hl0 : l.stackTraces = false) (hN : 80 ≤ N) (hF : isFB ad cI cB G v w x hi z0 z1) (hO : G 79 = .inl (cJ, 1, .inr (.inl fo))) : kXi l yL_horse wsL_horse rL_horse D (kT5 cI cC cZ cB cJ) ad N G [.ref (ad 0), .int pa, .int pb, .ref (ad 79)] 3 18 (hPost ad cI cB cJ G (xHorse v pa pb) (nI (bnH v)) v x hi z0 z1 (jAddHorse v pa pb) (x) (hSave hi v) (z0) (z1)) (fun _ _ => False) := by
  refine kh_start (cc := cL_horse) (ret := (some .int)) (maxL := 5) (hh := [(0, 10, 13, 13), (0, 10, 17, 15)]) (lv0 := [(0, .ref (ad 0)), (1, .int pa), (2, .int pb), (3, .ref (ad 79))]) hl0 (by decide) rfl (Nat.le_of_ble_eq_true rfl) rfl ?_
  intro p e s m args below meth c A Q C X hQ
  refine k_aload_n C dL_horse_0 rfl (j := 3) rfl ?_
  refine k_iconst C (v := 0) dL_horse_1 (by decide) ?_
  refine k_aload_n C dL_horse_2 rfl (j := 0) rfl ?_
  refine k_iload_n C dL_horse_3 rfl (j := 1) rfl ?_
  refine k_iload_n C dL_horse_4 rfl (j := 2) rfl ?_
  have hobj := hF.1
  refine kh_call C X (As := [.int pa, .int pb]) (rest := [.int 0, .ref (ad 79)]) 0 (m_X6_horse l D cI cC cZ cB cJ ad N G v w x hi z0 z1 pa pb hl0 (by omega) hF) ?_ gL_horse_X6_horse rfl kd_X6_horse rfl rfl ⟨(Nat.le_of_ble_eq_true rfl), (Nat.le_of_ble_eq_true rfl)⟩ (by omega) hobj rfl rfl rfl (Nat.le_of_ble_eq_true rfl) ⟨(Nat.le_of_ble_eq_true rfl), (Nat.le_of_ble_eq_true rfl)⟩ dL_horse_5 (fun r G1 h1 => ?_)
  · intro E G1 h1
    obtain ⟨hE, hne, w', hF1, hfr⟩ := h1
    have hb := xb_horse v pa pb
    by_cases q0 : xHorse v pa pb = 1
    · have hE2 : E = eIA := by rw [hE, q0]; rfl
      subst hE2
      refine ⟨(0, 10, 13, 13), kRow.mk [] (0, 10, 13, 13) [(0, 10, 17, 15)] rfl kxM_eIA (fun _ h => absurd h List.not_mem_nil) (by decide) (by decide) (List.mem_of_getElem? (i := 1) rfl), fun q => ?_⟩
      refine k_astore C (lv' := [(4, .ref q), (0, .ref (ad 0)), (1, .int pa), (2, .int pb), (3, .ref (ad 79))]) dL_horse_13 (by decide) rfl ?_
      refine k_iconst C (v := 1) dL_horse_15 (by decide) ?_
      exact kh_iret C hQ rfl rfl (Nat.le_of_ble_eq_true rfl) (Nat.le_of_ble_eq_true rfl) dL_horse_16 ⟨by rw [q0]; rfl, Or.inr ⟨hne, ⟨w', hF1⟩, hfr 79 (by decide)⟩, fun j hj _ => hfr j hj⟩
    have q1 : xHorse v pa pb = 2 := by omega
    have hE2 : E = eIS := by rw [hE, q1]; rfl
    subst hE2
    refine ⟨(0, 10, 17, 15), kRow.mk [(0, 10, 13, 13)] (0, 10, 17, 15) [] rfl kxM_eIS (List.forall_mem_cons.mpr ⟨⟨by decide, eIA, kxM_eIA, by decide, (List.mem_of_getElem? (i := 1) rfl)⟩, fun _ h => absurd h List.not_mem_nil⟩) (by decide) (by decide) (List.mem_of_getElem? (i := 2) rfl), fun q => ?_⟩
    refine k_astore C (lv' := [(4, .ref q), (0, .ref (ad 0)), (1, .int pa), (2, .int pb), (3, .ref (ad 79))]) dL_horse_17 (by decide) rfl ?_
    refine k_iconst C (v := 2) dL_horse_19 (by decide) ?_
    exact kh_iret C hQ rfl rfl (Nat.le_of_ble_eq_true rfl) (Nat.le_of_ble_eq_true rfl) dL_horse_20 ⟨by rw [q1]; rfl, Or.inr ⟨hne, ⟨w', hF1⟩, hfr 79 (by decide)⟩, fun j hj _ => hfr j hj⟩
  · obtain ⟨hX, hR, w', hF1, hfr⟩ := h1
    subst hR
    refine k_i2l C dL_horse_8 ?_
    have hO1 := (hfr 79 (by decide)).trans hO
    refine k_lastN C 79 4 (by omega) hO1 rfl 0 rfl (by decide) (by decide) dL_horse_9 (fun G2 h2 => ?_)
    refine k_goto C 21 dL_horse_10 (by decide) ?_
    refine k_iconst C (v := 0) dL_horse_21 (by decide) ?_
    exact kh_iret C hQ rfl rfl (Nat.le_of_ble_eq_true rfl) (Nat.le_of_ble_eq_true rfl) dL_horse_22 ⟨by rw [hX]; rfl, Or.inl ⟨hX, ⟨w', hF1.keep (fun j h8 => by rw [h2, up_ne (by omega)])⟩, ⟨_, up_it h2, pk_uLs⟩⟩, fun j hj hj2 => by rw [h2, up_ne hj2]; exact hfr j hj⟩
theorem kd_L_price : yL_price.cls ≠ "java/lang/invoke/MethodHandle" ∧ yL_price.cls ≠ "java/lang/invoke/VarHandle" ∧ (parseMethodDescriptor yL_price.desc).map (fun d => d.parameters.length) = some 5 := by decide +kernel
abbrev rL_price : Room := ({ frames := 9, cells := 4, slots := 24, locals := 157 } : Room)
set_option maxRecDepth 100000 in
set_option maxHeartbeats 4000000 in
theorem m_L_price (l : Launch) (D : va_G) (cI cC cZ cB cJ : ClassId) (ad : Nat → Nat) (N : Nat) (G : Nat → va_E) (v : BV) (w : AV) (x : TV) (hi : HV) (z0 z1 : ZV) (h pa pb : Int32) (fo : Nat → Int64) (hl0 : l.stackTraces = false) (hN : 80 ≤ N) (hF : isFB ad cI cB G v w x hi z0 z1) (hO : G 79 = .inl (cJ, 1, .inr (.inl fo))) : kXi l yL_price wsL_price rL_price D (kT5 cI cC cZ cB cJ) ad N G [.ref (ad 0), .int h, .int pa, .int pb, .ref (ad 79)] 4 24 (hPost ad cI cB cJ G (xPrice v h pa pb) (hC (hPut (hPut v h 0 pa) h 1 pb) h 4) v x hi z0 z1 (hPut (hPut v h 0 pa) h 1 pb) (x) (hSave hi v) (z0) (z1)) (fun _ _ => False) := by
  refine kh_start (cc := cL_price) (ret := (some .int)) (maxL := 6) (hh := [(0, 12, 15, 21), (0, 12, 19, 13), (0, 12, 23, 15)]) (lv0 := [(0, .ref (ad 0)), (1, .int h), (2, .int pa), (3, .int pb), (4, .ref (ad 79))]) hl0 (by decide) rfl (Nat.le_of_ble_eq_true rfl) rfl ?_
  intro p e s m args below meth c A Q C X hQ
  refine k_aload C dL_price_0 (j := 4) rfl ?_
  refine k_iconst C (v := 0) dL_price_2 (by decide) ?_
  refine k_aload_n C dL_price_3 rfl (j := 0) rfl ?_
  refine k_iload_n C dL_price_4 rfl (j := 1) rfl ?_
  refine k_iload_n C dL_price_5 rfl (j := 2) rfl ?_
  refine k_iload_n C dL_price_6 rfl (j := 3) rfl ?_
  have hobj := hF.1
  refine kh_call C X (As := [.int h, .int pa, .int pb]) (rest := [.int 0, .ref (ad 79)]) 0 (m_X6_price l D cI cC cZ cB cJ ad N G v w x hi z0 z1 h pa pb hl0 (by omega) hF) ?_ gL_price_X6_price rfl kd_X6_price rfl rfl ⟨(Nat.le_of_ble_eq_true rfl), (Nat.le_of_ble_eq_true rfl)⟩ (by omega) hobj rfl rfl rfl (Nat.le_of_ble_eq_true rfl) ⟨(Nat.le_of_ble_eq_true rfl), (Nat.le_of_ble_eq_true rfl)⟩ dL_price_7 (fun r G1 h1 => ?_)
  · intro E G1 h1
    obtain ⟨hE, hne, w', hF1, hfr⟩ := h1
    have hb := xb_price v h pa pb
    by_cases q0 : xPrice v h pa pb = 1
    · have hE2 : E = eIX := by rw [hE, q0]; rfl
      subst hE2
      refine ⟨(0, 12, 15, 21), kRow.mk [] (0, 12, 15, 21) [(0, 12, 19, 13), (0, 12, 23, 15)] rfl kxM_eIX (fun _ h => absurd h List.not_mem_nil) (by decide) (by decide) (List.mem_of_getElem? (i := 1) rfl), fun q => ?_⟩
      refine k_astore C (lv' := [(5, .ref q), (0, .ref (ad 0)), (1, .int h), (2, .int pa), (3, .int pb), (4, .ref (ad 79))]) dL_price_15 (by decide) rfl ?_
      refine k_iconst C (v := 1) dL_price_17 (by decide) ?_
      exact kh_iret C hQ rfl rfl (Nat.le_of_ble_eq_true rfl) (Nat.le_of_ble_eq_true rfl) dL_price_18 ⟨by rw [q0]; rfl, Or.inr ⟨hne, ⟨w', hF1⟩, hfr 79 (by decide)⟩, fun j hj _ => hfr j hj⟩
    by_cases q1 : xPrice v h pa pb = 2
    · have hE2 : E = eIA := by rw [hE, q1]; rfl
      subst hE2
      refine ⟨(0, 12, 19, 13), kRow.mk [(0, 12, 15, 21)] (0, 12, 19, 13) [(0, 12, 23, 15)] rfl kxM_eIA (List.forall_mem_cons.mpr ⟨⟨by decide, eIX, kxM_eIX, by decide, (List.mem_of_getElem? (i := 1) rfl)⟩, fun _ h => absurd h List.not_mem_nil⟩) (by decide) (by decide) (List.mem_of_getElem? (i := 2) rfl), fun q => ?_⟩
      refine k_astore C (lv' := [(5, .ref q), (0, .ref (ad 0)), (1, .int h), (2, .int pa), (3, .int pb), (4, .ref (ad 79))]) dL_price_19 (by decide) rfl ?_
      refine k_iconst C (v := 2) dL_price_21 (by decide) ?_
      exact kh_iret C hQ rfl rfl (Nat.le_of_ble_eq_true rfl) (Nat.le_of_ble_eq_true rfl) dL_price_22 ⟨by rw [q1]; rfl, Or.inr ⟨hne, ⟨w', hF1⟩, hfr 79 (by decide)⟩, fun j hj _ => hfr j hj⟩
    have q2 : xPrice v h pa pb = 3 := by omega
    have hE2 : E = eIS := by rw [hE, q2]; rfl
    subst hE2
    refine ⟨(0, 12, 23, 15), kRow.mk [(0, 12, 15, 21), (0, 12, 19, 13)] (0, 12, 23, 15) [] rfl kxM_eIS (List.forall_mem_cons.mpr ⟨⟨by decide, eIX, kxM_eIX, by decide, (List.mem_of_getElem? (i := 1) rfl)⟩, List.forall_mem_cons.mpr ⟨⟨by decide, eIA, kxM_eIA, by decide, (List.mem_of_getElem? (i := 2) rfl)⟩, fun _ h => absurd h List.not_mem_nil⟩⟩) (by decide) (by decide) (List.mem_of_getElem? (i := 3) rfl), fun q => ?_⟩
    refine k_astore C (lv' := [(5, .ref q), (0, .ref (ad 0)), (1, .int h), (2, .int pa), (3, .int pb), (4, .ref (ad 79))]) dL_price_23 (by decide) rfl ?_
    refine k_iconst C (v := 3) dL_price_25 (by decide) ?_
    exact kh_iret C hQ rfl rfl (Nat.le_of_ble_eq_true rfl) (Nat.le_of_ble_eq_true rfl) dL_price_26 ⟨by rw [q2]; rfl, Or.inr ⟨hne, ⟨w', hF1⟩, hfr 79 (by decide)⟩, fun j hj _ => hfr j hj⟩
  · obtain ⟨hX, hR, w', hF1, hfr⟩ := h1
    subst hR
    refine k_i2l C dL_price_10 ?_
    have hO1 := (hfr 79 (by decide)).trans hO
    refine k_lastN C 79 4 (by omega) hO1 rfl 0 rfl (by decide) (by decide) dL_price_11 (fun G2 h2 => ?_)
    refine k_goto C 27 dL_price_12 (by decide) ?_
    refine k_iconst C (v := 0) dL_price_27 (by decide) ?_
    exact kh_iret C hQ rfl rfl (Nat.le_of_ble_eq_true rfl) (Nat.le_of_ble_eq_true rfl) dL_price_28 ⟨by rw [hX]; rfl, Or.inl ⟨hX, ⟨w', hF1.keep (fun j h8 => by rw [h2, up_ne (by omega)])⟩, ⟨_, up_it h2, pk_uLs⟩⟩, fun j hj hj2 => by rw [h2, up_ne hj2]; exact hfr j hj⟩
theorem kd_L_take : yL_take.cls ≠ "java/lang/invoke/MethodHandle" ∧ yL_take.cls ≠ "java/lang/invoke/VarHandle" ∧ (parseMethodDescriptor yL_take.desc).map (fun d => d.parameters.length) = some 5 := by decide +kernel
abbrev rL_take : Room := ({ frames := 9, cells := 5, slots := 30, locals := 157 } : Room)
set_option maxRecDepth 100000 in
set_option maxHeartbeats 4000000 in
theorem m_L_take (l : Launch) (D : va_G) (cI cC cZ cB cJ : ClassId) (ad : Nat → Nat) (N : Nat) (G : Nat → va_E) (v : BV) (w : AV) (x : TV) (hi : HV) (z0 z1 : ZV) (h st : Int32) (wy : Bool) (fo : Nat → Int64) (hl0 : l.stackTraces = false) (hN : 80 ≤ N) (hF : isFB ad cI cB G v w x hi z0 z1) (hO : G 79 = .inl (cJ, 1, .inr (.inl fo))) : kXi l yL_take wsL_take rL_take D (kT5 cI cC cZ cB cJ) ad N G [.ref (ad 0), .int h, .int st, .int (bI wy), .ref (ad 79)] 5 30 (hPost ad cI cB cJ G (xTake v h st) (nI (bnB v)) v x hi z0 z1 (jAddBet v h st wy) (x) (hSave hi v) (z0) (z1)) (fun _ _ => False) := by
  refine kh_start (cc := cL_take) (ret := (some .int)) (maxL := 6) (hh := [(0, 12, 15, 21), (0, 12, 19, 13), (0, 12, 23, 15)]) (lv0 := [(0, .ref (ad 0)), (1, .int h), (2, .int st), (3, .int (bI wy)), (4, .ref (ad 79))]) hl0 (by decide) rfl (Nat.le_of_ble_eq_true rfl) rfl ?_
  intro p e s m args below meth c A Q C X hQ
  refine k_aload C dL_take_0 (j := 4) rfl ?_
  refine k_iconst C (v := 0) dL_take_2 (by decide) ?_
  refine k_aload_n C dL_take_3 rfl (j := 0) rfl ?_
  refine k_iload_n C dL_take_4 rfl (j := 1) rfl ?_
  refine k_iload_n C dL_take_5 rfl (j := 2) rfl ?_
  refine k_iload_n C dL_take_6 rfl (j := 3) rfl ?_
  have hobj := hF.1
  refine kh_call C X (As := [.int h, .int st, .int (bI wy)]) (rest := [.int 0, .ref (ad 79)]) 0 (m_X6_take l D cI cC cZ cB cJ ad N G v w x hi z0 z1 h st wy hl0 (by omega) hF) ?_ gL_take_X6_take rfl kd_X6_take rfl rfl ⟨(Nat.le_of_ble_eq_true rfl), (Nat.le_of_ble_eq_true rfl)⟩ (by omega) hobj rfl rfl rfl (Nat.le_of_ble_eq_true rfl) ⟨(Nat.le_of_ble_eq_true rfl), (Nat.le_of_ble_eq_true rfl)⟩ dL_take_7 (fun r G1 h1 => ?_)
  · intro E G1 h1
    obtain ⟨hE, hne, w', hF1, hfr⟩ := h1
    have hb := xb_take v h st
    by_cases q0 : xTake v h st = 1
    · have hE2 : E = eIX := by rw [hE, q0]; rfl
      subst hE2
      refine ⟨(0, 12, 15, 21), kRow.mk [] (0, 12, 15, 21) [(0, 12, 19, 13), (0, 12, 23, 15)] rfl kxM_eIX (fun _ h => absurd h List.not_mem_nil) (by decide) (by decide) (List.mem_of_getElem? (i := 1) rfl), fun q => ?_⟩
      refine k_astore C (lv' := [(5, .ref q), (0, .ref (ad 0)), (1, .int h), (2, .int st), (3, .int (bI wy)), (4, .ref (ad 79))]) dL_take_15 (by decide) rfl ?_
      refine k_iconst C (v := 1) dL_take_17 (by decide) ?_
      exact kh_iret C hQ rfl rfl (Nat.le_of_ble_eq_true rfl) (Nat.le_of_ble_eq_true rfl) dL_take_18 ⟨by rw [q0]; rfl, Or.inr ⟨hne, ⟨w', hF1⟩, hfr 79 (by decide)⟩, fun j hj _ => hfr j hj⟩
    by_cases q1 : xTake v h st = 2
    · have hE2 : E = eIA := by rw [hE, q1]; rfl
      subst hE2
      refine ⟨(0, 12, 19, 13), kRow.mk [(0, 12, 15, 21)] (0, 12, 19, 13) [(0, 12, 23, 15)] rfl kxM_eIA (List.forall_mem_cons.mpr ⟨⟨by decide, eIX, kxM_eIX, by decide, (List.mem_of_getElem? (i := 1) rfl)⟩, fun _ h => absurd h List.not_mem_nil⟩) (by decide) (by decide) (List.mem_of_getElem? (i := 2) rfl), fun q => ?_⟩
      refine k_astore C (lv' := [(5, .ref q), (0, .ref (ad 0)), (1, .int h), (2, .int st), (3, .int (bI wy)), (4, .ref (ad 79))]) dL_take_19 (by decide) rfl ?_
      refine k_iconst C (v := 2) dL_take_21 (by decide) ?_
      exact kh_iret C hQ rfl rfl (Nat.le_of_ble_eq_true rfl) (Nat.le_of_ble_eq_true rfl) dL_take_22 ⟨by rw [q1]; rfl, Or.inr ⟨hne, ⟨w', hF1⟩, hfr 79 (by decide)⟩, fun j hj _ => hfr j hj⟩
    have q2 : xTake v h st = 3 := by omega
    have hE2 : E = eIS := by rw [hE, q2]; rfl
    subst hE2
    refine ⟨(0, 12, 23, 15), kRow.mk [(0, 12, 15, 21), (0, 12, 19, 13)] (0, 12, 23, 15) [] rfl kxM_eIS (List.forall_mem_cons.mpr ⟨⟨by decide, eIX, kxM_eIX, by decide, (List.mem_of_getElem? (i := 1) rfl)⟩, List.forall_mem_cons.mpr ⟨⟨by decide, eIA, kxM_eIA, by decide, (List.mem_of_getElem? (i := 2) rfl)⟩, fun _ h => absurd h List.not_mem_nil⟩⟩) (by decide) (by decide) (List.mem_of_getElem? (i := 3) rfl), fun q => ?_⟩
    refine k_astore C (lv' := [(5, .ref q), (0, .ref (ad 0)), (1, .int h), (2, .int st), (3, .int (bI wy)), (4, .ref (ad 79))]) dL_take_23 (by decide) rfl ?_
    refine k_iconst C (v := 3) dL_take_25 (by decide) ?_
    exact kh_iret C hQ rfl rfl (Nat.le_of_ble_eq_true rfl) (Nat.le_of_ble_eq_true rfl) dL_take_26 ⟨by rw [q2]; rfl, Or.inr ⟨hne, ⟨w', hF1⟩, hfr 79 (by decide)⟩, fun j hj _ => hfr j hj⟩
  · obtain ⟨hX, hR, w', hF1, hfr⟩ := h1
    subst hR
    refine k_i2l C dL_take_10 ?_
    have hO1 := (hfr 79 (by decide)).trans hO
    refine k_lastN C 79 4 (by omega) hO1 rfl 0 rfl (by decide) (by decide) dL_take_11 (fun G2 h2 => ?_)
    refine k_goto C 27 dL_take_12 (by decide) ?_
    refine k_iconst C (v := 0) dL_take_27 (by decide) ?_
    exact kh_iret C hQ rfl rfl (Nat.le_of_ble_eq_true rfl) (Nat.le_of_ble_eq_true rfl) dL_take_28 ⟨by rw [hX]; rfl, Or.inl ⟨hX, ⟨w', hF1.keep (fun j h8 => by rw [h2, up_ne (by omega)])⟩, ⟨_, up_it h2, pk_uLs⟩⟩, fun j hj hj2 => by rw [h2, up_ne hj2]; exact hfr j hj⟩
theorem kd_L_layOff : yL_layOff.cls ≠ "java/lang/invoke/MethodHandle" ∧ yL_layOff.cls ≠ "java/lang/invoke/VarHandle" ∧ (parseMethodDescriptor yL_layOff.desc).map (fun d => d.parameters.length) = some 6 := by decide +kernel
abbrev rL_layOff : Room := ({ frames := 9, cells := 6, slots := 36, locals := 158 } : Room)
set_option maxRecDepth 100000 in
set_option maxHeartbeats 4000000 in
theorem m_L_layOff (l : Launch) (D : va_G) (cI cC cZ cB cJ : ClassId) (ad : Nat → Nat) (N : Nat) (G : Nat → va_E) (v : BV) (w : AV) (x : TV) (hi : HV) (z0 z1 : ZV) (h st pa pb : Int32) (fo : Nat → Int64) (hl0 : l.stackTraces = false) (hN : 80 ≤ N) (hF : isFB ad cI cB G v w x hi z0 z1) (hO : G 79 = .inl (cJ, 1, .inr (.inl fo))) : kXi l yL_layOff wsL_layOff rL_layOff D (kT5 cI cC cZ cB cJ) ad N G [.ref (ad 0), .int h, .int st, .int pa, .int pb, .ref (ad 79)] 6 36 (hPost ad cI cB cJ G (xLay v h st pa pb) (nI (bnL v)) v x hi z0 z1 (jAddLaid v h st pa pb) (x) (hSave hi v) (z0) (z1)) (fun _ _ => False) := by
  refine kh_start (cc := cL_layOff) (ret := (some .int)) (maxL := 7) (hh := [(0, 14, 17, 21), (0, 14, 21, 13), (0, 14, 25, 15)]) (lv0 := [(0, .ref (ad 0)), (1, .int h), (2, .int st), (3, .int pa), (4, .int pb), (5, .ref (ad 79))]) hl0 (by decide) rfl (Nat.le_of_ble_eq_true rfl) rfl ?_
  intro p e s m args below meth c A Q C X hQ
  refine k_aload C dL_layOff_0 (j := 5) rfl ?_
  refine k_iconst C (v := 0) dL_layOff_2 (by decide) ?_
  refine k_aload_n C dL_layOff_3 rfl (j := 0) rfl ?_
  refine k_iload_n C dL_layOff_4 rfl (j := 1) rfl ?_
  refine k_iload_n C dL_layOff_5 rfl (j := 2) rfl ?_
  refine k_iload_n C dL_layOff_6 rfl (j := 3) rfl ?_
  refine k_iload C dL_layOff_7 (j := 4) rfl ?_
  have hobj := hF.1
  refine kh_call C X (As := [.int h, .int st, .int pa, .int pb]) (rest := [.int 0, .ref (ad 79)]) 0 (m_X6_layOff l D cI cC cZ cB cJ ad N G v w x hi z0 z1 h st pa pb hl0 (by omega) hF) ?_ gL_layOff_X6_layOff rfl kd_X6_layOff rfl rfl ⟨(Nat.le_of_ble_eq_true rfl), (Nat.le_of_ble_eq_true rfl)⟩ (by omega) hobj rfl rfl rfl (Nat.le_of_ble_eq_true rfl) ⟨(Nat.le_of_ble_eq_true rfl), (Nat.le_of_ble_eq_true rfl)⟩ dL_layOff_9 (fun r G1 h1 => ?_)
  · intro E G1 h1
    obtain ⟨hE, hne, w', hF1, hfr⟩ := h1
    have hb := xb_layOff v h st pa pb
    by_cases q0 : xLay v h st pa pb = 1
    · have hE2 : E = eIX := by rw [hE, q0]; rfl
      subst hE2
      refine ⟨(0, 14, 17, 21), kRow.mk [] (0, 14, 17, 21) [(0, 14, 21, 13), (0, 14, 25, 15)] rfl kxM_eIX (fun _ h => absurd h List.not_mem_nil) (by decide) (by decide) (List.mem_of_getElem? (i := 1) rfl), fun q => ?_⟩
      refine k_astore C (lv' := [(6, .ref q), (0, .ref (ad 0)), (1, .int h), (2, .int st), (3, .int pa), (4, .int pb), (5, .ref (ad 79))]) dL_layOff_17 (by decide) rfl ?_
      refine k_iconst C (v := 1) dL_layOff_19 (by decide) ?_
      exact kh_iret C hQ rfl rfl (Nat.le_of_ble_eq_true rfl) (Nat.le_of_ble_eq_true rfl) dL_layOff_20 ⟨by rw [q0]; rfl, Or.inr ⟨hne, ⟨w', hF1⟩, hfr 79 (by decide)⟩, fun j hj _ => hfr j hj⟩
    by_cases q1 : xLay v h st pa pb = 2
    · have hE2 : E = eIA := by rw [hE, q1]; rfl
      subst hE2
      refine ⟨(0, 14, 21, 13), kRow.mk [(0, 14, 17, 21)] (0, 14, 21, 13) [(0, 14, 25, 15)] rfl kxM_eIA (List.forall_mem_cons.mpr ⟨⟨by decide, eIX, kxM_eIX, by decide, (List.mem_of_getElem? (i := 1) rfl)⟩, fun _ h => absurd h List.not_mem_nil⟩) (by decide) (by decide) (List.mem_of_getElem? (i := 2) rfl), fun q => ?_⟩
      refine k_astore C (lv' := [(6, .ref q), (0, .ref (ad 0)), (1, .int h), (2, .int st), (3, .int pa), (4, .int pb), (5, .ref (ad 79))]) dL_layOff_21 (by decide) rfl ?_
      refine k_iconst C (v := 2) dL_layOff_23 (by decide) ?_
      exact kh_iret C hQ rfl rfl (Nat.le_of_ble_eq_true rfl) (Nat.le_of_ble_eq_true rfl) dL_layOff_24 ⟨by rw [q1]; rfl, Or.inr ⟨hne, ⟨w', hF1⟩, hfr 79 (by decide)⟩, fun j hj _ => hfr j hj⟩
    have q2 : xLay v h st pa pb = 3 := by omega
    have hE2 : E = eIS := by rw [hE, q2]; rfl
    subst hE2
    refine ⟨(0, 14, 25, 15), kRow.mk [(0, 14, 17, 21), (0, 14, 21, 13)] (0, 14, 25, 15) [] rfl kxM_eIS (List.forall_mem_cons.mpr ⟨⟨by decide, eIX, kxM_eIX, by decide, (List.mem_of_getElem? (i := 1) rfl)⟩, List.forall_mem_cons.mpr ⟨⟨by decide, eIA, kxM_eIA, by decide, (List.mem_of_getElem? (i := 2) rfl)⟩, fun _ h => absurd h List.not_mem_nil⟩⟩) (by decide) (by decide) (List.mem_of_getElem? (i := 3) rfl), fun q => ?_⟩
    refine k_astore C (lv' := [(6, .ref q), (0, .ref (ad 0)), (1, .int h), (2, .int st), (3, .int pa), (4, .int pb), (5, .ref (ad 79))]) dL_layOff_25 (by decide) rfl ?_
    refine k_iconst C (v := 3) dL_layOff_27 (by decide) ?_
    exact kh_iret C hQ rfl rfl (Nat.le_of_ble_eq_true rfl) (Nat.le_of_ble_eq_true rfl) dL_layOff_28 ⟨by rw [q2]; rfl, Or.inr ⟨hne, ⟨w', hF1⟩, hfr 79 (by decide)⟩, fun j hj _ => hfr j hj⟩
  · obtain ⟨hX, hR, w', hF1, hfr⟩ := h1
    subst hR
    refine k_i2l C dL_layOff_12 ?_
    have hO1 := (hfr 79 (by decide)).trans hO
    refine k_lastN C 79 4 (by omega) hO1 rfl 0 rfl (by decide) (by decide) dL_layOff_13 (fun G2 h2 => ?_)
    refine k_goto C 29 dL_layOff_14 (by decide) ?_
    refine k_iconst C (v := 0) dL_layOff_29 (by decide) ?_
    exact kh_iret C hQ rfl rfl (Nat.le_of_ble_eq_true rfl) (Nat.le_of_ble_eq_true rfl) dL_layOff_30 ⟨by rw [hX]; rfl, Or.inl ⟨hX, ⟨w', hF1.keep (fun j h8 => by rw [h2, up_ne (by omega)])⟩, ⟨_, up_it h2, pk_uLs⟩⟩, fun j hj hj2 => by rw [h2, up_ne hj2]; exact hfr j hj⟩
theorem kd_L_withdraw : yL_withdraw.cls ≠ "java/lang/invoke/MethodHandle" ∧ yL_withdraw.cls ≠ "java/lang/invoke/VarHandle" ∧ (parseMethodDescriptor yL_withdraw.desc).map (fun d => d.parameters.length) = some 3 := by decide +kernel
abbrev rL_withdraw : Room := ({ frames := 9, cells := 3, slots := 18, locals := 155 } : Room)
set_option maxRecDepth 100000 in
set_option maxHeartbeats 4000000 in
theorem m_L_withdraw (l : Launch) (D : va_G) (cI cC cZ cB cJ : ClassId) (ad : Nat → Nat) (N : Nat) (G : Nat → va_E) (v : BV) (w : AV) (x : TV) (hi : HV) (z0 z1 : ZV) (h : Int32) (fo : Nat → Int64) (hl0 : l.stackTraces = false) (hN : 80 ≤ N) (hF : isFB ad cI cB G v w x hi z0 z1) (hO : G 79 = .inl (cJ, 1, .inr (.inl fo))) : kXi l yL_withdraw wsL_withdraw rL_withdraw D (kT5 cI cC cZ cB cJ) ad N G [.ref (ad 0), .int h, .ref (ad 79)] 3 18 (hPost ad cI cB cJ G (xWith v h) (jCut v h) v x hi z0 z1 (jTake v h) (x) (hSave hi v) (z0) (z1)) (fun _ _ => False) := by
  refine kh_start (cc := cL_withdraw) (ret := (some .int)) (maxL := 4) (hh := [(0, 9, 12, 21), (0, 9, 15, 15)]) (lv0 := [(0, .ref (ad 0)), (1, .int h), (2, .ref (ad 79))]) hl0 (by decide) rfl (Nat.le_of_ble_eq_true rfl) rfl ?_
  intro p e s m args below meth c A Q C X hQ
  refine k_aload_n C dL_withdraw_0 rfl (j := 2) rfl ?_
  refine k_iconst C (v := 0) dL_withdraw_1 (by decide) ?_
  refine k_aload_n C dL_withdraw_2 rfl (j := 0) rfl ?_
  refine k_iload_n C dL_withdraw_3 rfl (j := 1) rfl ?_
  have hobj := hF.1
  refine kh_call C X (As := [.int h]) (rest := [.int 0, .ref (ad 79)]) 0 (m_X6_withdraw l D cI cC cZ cB cJ ad N G v w x hi z0 z1 h hl0 (by omega) hF) ?_ gL_withdraw_X6_withdraw rfl kd_X6_withdraw rfl rfl ⟨(Nat.le_of_ble_eq_true rfl), (Nat.le_of_ble_eq_true rfl)⟩ (by omega) hobj rfl rfl rfl (Nat.le_of_ble_eq_true rfl) ⟨(Nat.le_of_ble_eq_true rfl), (Nat.le_of_ble_eq_true rfl)⟩ dL_withdraw_4 (fun r G1 h1 => ?_)
  · intro E G1 h1
    obtain ⟨hE, hne, w', hF1, hfr⟩ := h1
    have hb := xb_withdraw v h
    by_cases q0 : xWith v h = 1
    · have hE2 : E = eIX := by rw [hE, q0]; rfl
      subst hE2
      refine ⟨(0, 9, 12, 21), kRow.mk [] (0, 9, 12, 21) [(0, 9, 15, 15)] rfl kxM_eIX (fun _ h => absurd h List.not_mem_nil) (by decide) (by decide) (List.mem_of_getElem? (i := 1) rfl), fun q => ?_⟩
      refine k_astore_n C (lv' := [(3, .ref q), (0, .ref (ad 0)), (1, .int h), (2, .ref (ad 79))]) dL_withdraw_12 rfl (by decide) rfl ?_
      refine k_iconst C (v := 1) dL_withdraw_13 (by decide) ?_
      exact kh_iret C hQ rfl rfl (Nat.le_of_ble_eq_true rfl) (Nat.le_of_ble_eq_true rfl) dL_withdraw_14 ⟨by rw [q0]; rfl, Or.inr ⟨hne, ⟨w', hF1⟩, hfr 79 (by decide)⟩, fun j hj _ => hfr j hj⟩
    have q1 : xWith v h = 2 := by omega
    have hE2 : E = eIS := by rw [hE, q1]; rfl
    subst hE2
    refine ⟨(0, 9, 15, 15), kRow.mk [(0, 9, 12, 21)] (0, 9, 15, 15) [] rfl kxM_eIS (List.forall_mem_cons.mpr ⟨⟨by decide, eIX, kxM_eIX, by decide, (List.mem_of_getElem? (i := 1) rfl)⟩, fun _ h => absurd h List.not_mem_nil⟩) (by decide) (by decide) (List.mem_of_getElem? (i := 2) rfl), fun q => ?_⟩
    refine k_astore_n C (lv' := [(3, .ref q), (0, .ref (ad 0)), (1, .int h), (2, .ref (ad 79))]) dL_withdraw_15 rfl (by decide) rfl ?_
    refine k_iconst C (v := 2) dL_withdraw_16 (by decide) ?_
    exact kh_iret C hQ rfl rfl (Nat.le_of_ble_eq_true rfl) (Nat.le_of_ble_eq_true rfl) dL_withdraw_17 ⟨by rw [q1]; rfl, Or.inr ⟨hne, ⟨w', hF1⟩, hfr 79 (by decide)⟩, fun j hj _ => hfr j hj⟩
  · obtain ⟨hX, hR, w', hF1, hfr⟩ := h1
    subst hR
    refine k_i2l C dL_withdraw_7 ?_
    have hO1 := (hfr 79 (by decide)).trans hO
    refine k_lastN C 79 4 (by omega) hO1 rfl 0 rfl (by decide) (by decide) dL_withdraw_8 (fun G2 h2 => ?_)
    refine k_goto C 18 dL_withdraw_9 (by decide) ?_
    refine k_iconst C (v := 0) dL_withdraw_18 (by decide) ?_
    exact kh_iret C hQ rfl rfl (Nat.le_of_ble_eq_true rfl) (Nat.le_of_ble_eq_true rfl) dL_withdraw_19 ⟨by rw [hX]; rfl, Or.inl ⟨hX, ⟨w', hF1.keep (fun j h8 => by rw [h2, up_ne (by omega)])⟩, ⟨_, up_it h2, pk_uLs⟩⟩, fun j hj hj2 => by rw [h2, up_ne hj2]; exact hfr j hj⟩
theorem kd_L_settle : yL_settle.cls ≠ "java/lang/invoke/MethodHandle" ∧ yL_settle.cls ≠ "java/lang/invoke/VarHandle" ∧ (parseMethodDescriptor yL_settle.desc).map (fun d => d.parameters.length) = some 2 := by decide +kernel
abbrev rL_settle : Room := ({ frames := 8, cells := 2, slots := 12, locals := 144 } : Room)
set_option maxRecDepth 100000 in
set_option maxHeartbeats 4000000 in
theorem m_L_settle (l : Launch) (D : va_G) (cI cC cZ cB cJ : ClassId) (ad : Nat → Nat) (N : Nat) (G : Nat → va_E) (v : BV) (w : AV) (x : TV) (hi : HV) (z0 z1 : ZV) (fo : Nat → Int64) (hl0 : l.stackTraces = false) (hN : 80 ≤ N) (hF : isFB ad cI cB G v w x hi z0 z1) (hO : G 79 = .inl (cJ, 1, .inr (.inl fo))) : kXi l yL_settle wsL_settle rL_settle D (kT5 cI cC cZ cB cJ) ad N G [.ref (ad 0), .ref (ad 79)] 2 12 (hPost ad cI cB cJ G (xSettle v x) (jWon (jSettle v (raA v x (raK x)))) v x hi z0 z1 (jSettle v (raA v x (raK x))) ((txC x, 0)) (hSave hi v) (z0) (z1)) (fun _ _ => False) := by
  refine kh_start (cc := cL_settle) (ret := (some .int)) (maxL := 3) (hh := [(0, 8, 11, 13), (0, 8, 14, 15)]) (lv0 := [(0, .ref (ad 0)), (1, .ref (ad 79))]) hl0 (by decide) rfl (Nat.le_of_ble_eq_true rfl) rfl ?_
  intro p e s m args below meth c A Q C X hQ
  refine k_aload_n C dL_settle_0 rfl (j := 1) rfl ?_
  refine k_iconst C (v := 0) dL_settle_1 (by decide) ?_
  refine k_aload_n C dL_settle_2 rfl (j := 0) rfl ?_
  have hobj := hF.1
  refine kh_call C X (As := []) (rest := [.int 0, .ref (ad 79)]) 0 (m_X6_settle l D cI cC cZ cB cJ ad N G v w x hi z0 z1  hl0 (by omega) hF) ?_ gL_settle_X6_settle rfl kd_X6_settle rfl rfl ⟨(Nat.le_of_ble_eq_true rfl), (Nat.le_of_ble_eq_true rfl)⟩ (by omega) hobj rfl rfl rfl (Nat.le_of_ble_eq_true rfl) ⟨(Nat.le_of_ble_eq_true rfl), (Nat.le_of_ble_eq_true rfl)⟩ dL_settle_3 (fun r G1 h1 => ?_)
  · intro E G1 h1
    obtain ⟨hE, hne, w', hF1, hfr⟩ := h1
    have hb := xb_settle v x
    by_cases q0 : xSettle v x = 1
    · have hE2 : E = eIA := by rw [hE, q0]; rfl
      subst hE2
      refine ⟨(0, 8, 11, 13), kRow.mk [] (0, 8, 11, 13) [(0, 8, 14, 15)] rfl kxM_eIA (fun _ h => absurd h List.not_mem_nil) (by decide) (by decide) (List.mem_of_getElem? (i := 1) rfl), fun q => ?_⟩
      refine k_astore_n C (lv' := [(2, .ref q), (0, .ref (ad 0)), (1, .ref (ad 79))]) dL_settle_11 rfl (by decide) rfl ?_
      refine k_iconst C (v := 1) dL_settle_12 (by decide) ?_
      exact kh_iret C hQ rfl rfl (Nat.le_of_ble_eq_true rfl) (Nat.le_of_ble_eq_true rfl) dL_settle_13 ⟨by rw [q0]; rfl, Or.inr ⟨hne, ⟨w', hF1⟩, hfr 79 (by decide)⟩, fun j hj _ => hfr j hj⟩
    have q1 : xSettle v x = 2 := by omega
    have hE2 : E = eIS := by rw [hE, q1]; rfl
    subst hE2
    refine ⟨(0, 8, 14, 15), kRow.mk [(0, 8, 11, 13)] (0, 8, 14, 15) [] rfl kxM_eIS (List.forall_mem_cons.mpr ⟨⟨by decide, eIA, kxM_eIA, by decide, (List.mem_of_getElem? (i := 1) rfl)⟩, fun _ h => absurd h List.not_mem_nil⟩) (by decide) (by decide) (List.mem_of_getElem? (i := 2) rfl), fun q => ?_⟩
    refine k_astore_n C (lv' := [(2, .ref q), (0, .ref (ad 0)), (1, .ref (ad 79))]) dL_settle_14 rfl (by decide) rfl ?_
    refine k_iconst C (v := 2) dL_settle_15 (by decide) ?_
    exact kh_iret C hQ rfl rfl (Nat.le_of_ble_eq_true rfl) (Nat.le_of_ble_eq_true rfl) dL_settle_16 ⟨by rw [q1]; rfl, Or.inr ⟨hne, ⟨w', hF1⟩, hfr 79 (by decide)⟩, fun j hj _ => hfr j hj⟩
  · obtain ⟨hX, hR, w', hF1, hfr⟩ := h1
    subst hR
    refine k_i2l C dL_settle_6 ?_
    have hO1 := (hfr 79 (by decide)).trans hO
    refine k_lastN C 79 4 (by omega) hO1 rfl 0 rfl (by decide) (by decide) dL_settle_7 (fun G2 h2 => ?_)
    refine k_goto C 17 dL_settle_8 (by decide) ?_
    refine k_iconst C (v := 0) dL_settle_17 (by decide) ?_
    exact kh_iret C hQ rfl rfl (Nat.le_of_ble_eq_true rfl) (Nat.le_of_ble_eq_true rfl) dL_settle_18 ⟨by rw [hX]; rfl, Or.inl ⟨hX, ⟨w', hF1.keep (fun j h8 => by rw [h2, up_ne (by omega)])⟩, ⟨_, up_it h2, pk_uLs⟩⟩, fun j hj hj2 => by rw [h2, up_ne hj2]; exact hfr j hj⟩
theorem kd_L_set : yL_set.cls ≠ "java/lang/invoke/MethodHandle" ∧ yL_set.cls ≠ "java/lang/invoke/VarHandle" ∧ (parseMethodDescriptor yL_set.desc).map (fun d => d.parameters.length) = some 4 := by decide +kernel
abbrev rL_set : Room := ({ frames := 8, cells := 3, slots := 18, locals := 147 } : Room)
set_option maxRecDepth 100000 in
set_option maxHeartbeats 4000000 in
theorem m_L_set (l : Launch) (D : va_G) (cI cC cZ cB cJ : ClassId) (ad : Nat → Nat) (N : Nat) (G : Nat → va_E) (v : BV) (w : AV) (x : TV) (hi : HV) (z0 z1 : ZV) (k0 y : Int32) (fo : Nat → Int64) (hl0 : l.stackTraces = false) (hN : 80 ≤ N) (hF : isFB ad cI cB G v w x hi z0 z1) (hO : G 79 = .inl (cJ, 1, .inr (.inl fo))) : kXi l yL_set wsL_set rL_set D (kT5 cI cC cZ cB cJ) ad N G [.ref (ad 0), .int k0, .int y, .ref (ad 79)] 3 18 (hPost ad cI cB cJ G (xSet v k0 y) (jSetting v k0) v x hi z0 z1 (jSetV v k0 y) (x) (hSave hi v) (z0) (z1)) (fun _ _ => False) := by
  refine kh_start (cc := cL_set) (ret := (some .int)) (maxL := 5) (hh := [(0, 10, 13, 21), (0, 10, 17, 13), (0, 10, 21, 15)]) (lv0 := [(0, .ref (ad 0)), (1, .int k0), (2, .int y), (3, .ref (ad 79))]) hl0 (by decide) rfl (Nat.le_of_ble_eq_true rfl) rfl ?_
  intro p e s m args below meth c A Q C X hQ
  refine k_aload_n C dL_set_0 rfl (j := 3) rfl ?_
  refine k_iconst C (v := 0) dL_set_1 (by decide) ?_
  refine k_aload_n C dL_set_2 rfl (j := 0) rfl ?_
  refine k_iload_n C dL_set_3 rfl (j := 1) rfl ?_
  refine k_iload_n C dL_set_4 rfl (j := 2) rfl ?_
  have hobj := hF.1
  refine kh_call C X (As := [.int k0, .int y]) (rest := [.int 0, .ref (ad 79)]) 0 (m_X6_set l D cI cC cZ cB cJ ad N G v w x hi z0 z1 k0 y hl0 (by omega) hF) ?_ gL_set_X6_set rfl kd_X6_set rfl rfl ⟨(Nat.le_of_ble_eq_true rfl), (Nat.le_of_ble_eq_true rfl)⟩ (by omega) hobj rfl rfl rfl (Nat.le_of_ble_eq_true rfl) ⟨(Nat.le_of_ble_eq_true rfl), (Nat.le_of_ble_eq_true rfl)⟩ dL_set_5 (fun r G1 h1 => ?_)
  · intro E G1 h1
    obtain ⟨hE, hne, w', hF1, hfr⟩ := h1
    have hb := xb_set v k0 y
    by_cases q0 : xSet v k0 y = 1
    · have hE2 : E = eIX := by rw [hE, q0]; rfl
      subst hE2
      refine ⟨(0, 10, 13, 21), kRow.mk [] (0, 10, 13, 21) [(0, 10, 17, 13), (0, 10, 21, 15)] rfl kxM_eIX (fun _ h => absurd h List.not_mem_nil) (by decide) (by decide) (List.mem_of_getElem? (i := 1) rfl), fun q => ?_⟩
      refine k_astore C (lv' := [(4, .ref q), (0, .ref (ad 0)), (1, .int k0), (2, .int y), (3, .ref (ad 79))]) dL_set_13 (by decide) rfl ?_
      refine k_iconst C (v := 1) dL_set_15 (by decide) ?_
      exact kh_iret C hQ rfl rfl (Nat.le_of_ble_eq_true rfl) (Nat.le_of_ble_eq_true rfl) dL_set_16 ⟨by rw [q0]; rfl, Or.inr ⟨hne, ⟨w', hF1⟩, hfr 79 (by decide)⟩, fun j hj _ => hfr j hj⟩
    by_cases q1 : xSet v k0 y = 2
    · have hE2 : E = eIA := by rw [hE, q1]; rfl
      subst hE2
      refine ⟨(0, 10, 17, 13), kRow.mk [(0, 10, 13, 21)] (0, 10, 17, 13) [(0, 10, 21, 15)] rfl kxM_eIA (List.forall_mem_cons.mpr ⟨⟨by decide, eIX, kxM_eIX, by decide, (List.mem_of_getElem? (i := 1) rfl)⟩, fun _ h => absurd h List.not_mem_nil⟩) (by decide) (by decide) (List.mem_of_getElem? (i := 2) rfl), fun q => ?_⟩
      refine k_astore C (lv' := [(4, .ref q), (0, .ref (ad 0)), (1, .int k0), (2, .int y), (3, .ref (ad 79))]) dL_set_17 (by decide) rfl ?_
      refine k_iconst C (v := 2) dL_set_19 (by decide) ?_
      exact kh_iret C hQ rfl rfl (Nat.le_of_ble_eq_true rfl) (Nat.le_of_ble_eq_true rfl) dL_set_20 ⟨by rw [q1]; rfl, Or.inr ⟨hne, ⟨w', hF1⟩, hfr 79 (by decide)⟩, fun j hj _ => hfr j hj⟩
    have q2 : xSet v k0 y = 3 := by omega
    have hE2 : E = eIS := by rw [hE, q2]; rfl
    subst hE2
    refine ⟨(0, 10, 21, 15), kRow.mk [(0, 10, 13, 21), (0, 10, 17, 13)] (0, 10, 21, 15) [] rfl kxM_eIS (List.forall_mem_cons.mpr ⟨⟨by decide, eIX, kxM_eIX, by decide, (List.mem_of_getElem? (i := 1) rfl)⟩, List.forall_mem_cons.mpr ⟨⟨by decide, eIA, kxM_eIA, by decide, (List.mem_of_getElem? (i := 2) rfl)⟩, fun _ h => absurd h List.not_mem_nil⟩⟩) (by decide) (by decide) (List.mem_of_getElem? (i := 3) rfl), fun q => ?_⟩
    refine k_astore C (lv' := [(4, .ref q), (0, .ref (ad 0)), (1, .int k0), (2, .int y), (3, .ref (ad 79))]) dL_set_21 (by decide) rfl ?_
    refine k_iconst C (v := 3) dL_set_23 (by decide) ?_
    exact kh_iret C hQ rfl rfl (Nat.le_of_ble_eq_true rfl) (Nat.le_of_ble_eq_true rfl) dL_set_24 ⟨by rw [q2]; rfl, Or.inr ⟨hne, ⟨w', hF1⟩, hfr 79 (by decide)⟩, fun j hj _ => hfr j hj⟩
  · obtain ⟨hX, hR, w', hF1, hfr⟩ := h1
    subst hR
    refine k_i2l C dL_set_8 ?_
    have hO1 := (hfr 79 (by decide)).trans hO
    refine k_lastN C 79 4 (by omega) hO1 rfl 0 rfl (by decide) (by decide) dL_set_9 (fun G2 h2 => ?_)
    refine k_goto C 25 dL_set_10 (by decide) ?_
    refine k_iconst C (v := 0) dL_set_25 (by decide) ?_
    exact kh_iret C hQ rfl rfl (Nat.le_of_ble_eq_true rfl) (Nat.le_of_ble_eq_true rfl) dL_set_26 ⟨by rw [hX]; rfl, Or.inl ⟨hX, ⟨w', hF1.keep (fun j h8 => by rw [h2, up_ne (by omega)])⟩, ⟨_, up_it h2, pk_uLs⟩⟩, fun j hj hj2 => by rw [h2, up_ne hj2]; exact hfr j hj⟩
theorem kd_L_append : yL_append.cls ≠ "java/lang/invoke/MethodHandle" ∧ yL_append.cls ≠ "java/lang/invoke/VarHandle" ∧ (parseMethodDescriptor yL_append.desc).map (fun d => d.parameters.length) = some 3 := by decide +kernel
abbrev rL_append : Room := ({ frames := 7, cells := 1, slots := 6, locals := 113 } : Room)
set_option maxRecDepth 100000 in
set_option maxHeartbeats 4000000 in
theorem m_L_append (l : Launch) (D : va_G) (cI cC cZ cB cJ : ClassId) (ad : Nat → Nat) (N : Nat) (G : Nat → va_E) (v : BV) (w : AV) (x : TV) (hi : HV) (z0 z1 : ZV) (y : Int32) (fo : Nat → Int64) (hl0 : l.stackTraces = false) (hN : 80 ≤ N) (hF : isFB ad cI cB G v w x hi z0 z1) (hO : G 79 = .inl (cJ, 1, .inr (.inl fo))) : kXi l yL_append wsL_append rL_append D (kT5 cI cC cZ cB cJ) ad N G [.ref (ad 0), .int y, .ref (ad 79)] 1 6 (hPost ad cI cB cJ G (xAppend x y) (nI (txN (jAdd x y))) v x hi z0 z1 (v) (jAdd x y) (hi) (z0) (z1)) (fun _ _ => False) := by
  refine kh_start (cc := cL_append) (ret := (some .int)) (maxL := 4) (hh := [(0, 9, 12, 13), (0, 9, 15, 15)]) (lv0 := [(0, .ref (ad 0)), (1, .int y), (2, .ref (ad 79))]) hl0 (by decide) rfl (Nat.le_of_ble_eq_true rfl) rfl ?_
  intro p e s m args below meth c A Q C X hQ
  refine k_aload_n C dL_append_0 rfl (j := 2) rfl ?_
  refine k_iconst C (v := 0) dL_append_1 (by decide) ?_
  refine k_aload_n C dL_append_2 rfl (j := 0) rfl ?_
  refine k_iload_n C dL_append_3 rfl (j := 1) rfl ?_
  have hobj := hF.1
  refine kh_call C X (As := [.int y]) (rest := [.int 0, .ref (ad 79)]) 0 (m_X6_append l D cI cC cZ cB cJ ad N G v w x hi z0 z1 y hl0 (by omega) hF) ?_ gL_append_X6_append rfl kd_X6_append rfl rfl ⟨(Nat.le_of_ble_eq_true rfl), (Nat.le_of_ble_eq_true rfl)⟩ (by omega) hobj rfl rfl rfl (Nat.le_of_ble_eq_true rfl) ⟨(Nat.le_of_ble_eq_true rfl), (Nat.le_of_ble_eq_true rfl)⟩ dL_append_4 (fun r G1 h1 => ?_)
  · intro E G1 h1
    obtain ⟨hE, hne, w', hF1, hfr⟩ := h1
    have hb := xb_append x y
    by_cases q0 : xAppend x y = 1
    · have hE2 : E = eIA := by rw [hE, q0]; rfl
      subst hE2
      refine ⟨(0, 9, 12, 13), kRow.mk [] (0, 9, 12, 13) [(0, 9, 15, 15)] rfl kxM_eIA (fun _ h => absurd h List.not_mem_nil) (by decide) (by decide) (List.mem_of_getElem? (i := 1) rfl), fun q => ?_⟩
      refine k_astore_n C (lv' := [(3, .ref q), (0, .ref (ad 0)), (1, .int y), (2, .ref (ad 79))]) dL_append_12 rfl (by decide) rfl ?_
      refine k_iconst C (v := 1) dL_append_13 (by decide) ?_
      exact kh_iret C hQ rfl rfl (Nat.le_of_ble_eq_true rfl) (Nat.le_of_ble_eq_true rfl) dL_append_14 ⟨by rw [q0]; rfl, Or.inr ⟨hne, ⟨w', hF1⟩, hfr 79 (by decide)⟩, fun j hj _ => hfr j hj⟩
    have q1 : xAppend x y = 2 := by omega
    have hE2 : E = eIS := by rw [hE, q1]; rfl
    subst hE2
    refine ⟨(0, 9, 15, 15), kRow.mk [(0, 9, 12, 13)] (0, 9, 15, 15) [] rfl kxM_eIS (List.forall_mem_cons.mpr ⟨⟨by decide, eIA, kxM_eIA, by decide, (List.mem_of_getElem? (i := 1) rfl)⟩, fun _ h => absurd h List.not_mem_nil⟩) (by decide) (by decide) (List.mem_of_getElem? (i := 2) rfl), fun q => ?_⟩
    refine k_astore_n C (lv' := [(3, .ref q), (0, .ref (ad 0)), (1, .int y), (2, .ref (ad 79))]) dL_append_15 rfl (by decide) rfl ?_
    refine k_iconst C (v := 2) dL_append_16 (by decide) ?_
    exact kh_iret C hQ rfl rfl (Nat.le_of_ble_eq_true rfl) (Nat.le_of_ble_eq_true rfl) dL_append_17 ⟨by rw [q1]; rfl, Or.inr ⟨hne, ⟨w', hF1⟩, hfr 79 (by decide)⟩, fun j hj _ => hfr j hj⟩
  · obtain ⟨hX, hR, w', hF1, hfr⟩ := h1
    subst hR
    refine k_i2l C dL_append_7 ?_
    have hO1 := (hfr 79 (by decide)).trans hO
    refine k_lastN C 79 4 (by omega) hO1 rfl 0 rfl (by decide) (by decide) dL_append_8 (fun G2 h2 => ?_)
    refine k_goto C 18 dL_append_9 (by decide) ?_
    refine k_iconst C (v := 0) dL_append_18 (by decide) ?_
    exact kh_iret C hQ rfl rfl (Nat.le_of_ble_eq_true rfl) (Nat.le_of_ble_eq_true rfl) dL_append_19 ⟨by rw [hX]; rfl, Or.inl ⟨hX, ⟨w', hF1.keep (fun j h8 => by rw [h2, up_ne (by omega)])⟩, ⟨_, up_it h2, pk_uLs⟩⟩, fun j hj hj2 => by rw [h2, up_ne hj2]; exact hfr j hj⟩
theorem kd_L_keep : yL_keep.cls ≠ "java/lang/invoke/MethodHandle" ∧ yL_keep.cls ≠ "java/lang/invoke/VarHandle" ∧ (parseMethodDescriptor yL_keep.desc).map (fun d => d.parameters.length) = some 3 := by decide +kernel
abbrev rL_keep : Room := ({ frames := 8, cells := 1, slots := 6, locals := 144 } : Room)
set_option maxRecDepth 100000 in
set_option maxHeartbeats 4000000 in
theorem m_L_keep (l : Launch) (D : va_G) (cI cC cZ cB cJ : ClassId) (ad : Nat → Nat) (N : Nat) (G : Nat → va_E) (v : BV) (w : AV) (x : TV) (hi : HV) (z0 z1 : ZV) (k0 : Int32) (fo : Nat → Int64) (hl0 : l.stackTraces = false) (hN : 80 ≤ N) (hF : isFB ad cI cB G v w x hi z0 z1) (hO : G 79 = .inl (cJ, 1, .inr (.inl fo))) : kXi l yL_keep wsL_keep rL_keep D (kT5 cI cC cZ cB cJ) ad N G [.ref (ad 0), .int k0, .ref (ad 79)] 1 6 (hPost ad cI cB cJ G (xKeep k0) (nI (bnB v)) v x hi z0 z1 (v) (x) (hi) (if k0 = 0 then (bCopy z0.1 v, true) else z0) (if k0 = 0 then z1 else (bCopy z1.1 v, true))) (fun _ _ => False) := by
  refine kh_start (cc := cL_keep) (ret := (some .int)) (maxL := 4) (hh := [(0, 9, 12, 13)]) (lv0 := [(0, .ref (ad 0)), (1, .int k0), (2, .ref (ad 79))]) hl0 (by decide) rfl (Nat.le_of_ble_eq_true rfl) rfl ?_
  intro p e s m args below meth c A Q C X hQ
  refine k_aload_n C dL_keep_0 rfl (j := 2) rfl ?_
  refine k_iconst C (v := 0) dL_keep_1 (by decide) ?_
  refine k_aload_n C dL_keep_2 rfl (j := 0) rfl ?_
  refine k_iload_n C dL_keep_3 rfl (j := 1) rfl ?_
  have hobj := hF.1
  refine kh_call C X (As := [.int k0]) (rest := [.int 0, .ref (ad 79)]) 0 (m_X6_keep l D cI cC cZ cB cJ ad N G v w x hi z0 z1 k0 hl0 (by omega) hF) ?_ gL_keep_X6_keep rfl kd_X6_keep rfl rfl ⟨(Nat.le_of_ble_eq_true rfl), (Nat.le_of_ble_eq_true rfl)⟩ (by omega) hobj rfl rfl rfl (Nat.le_of_ble_eq_true rfl) ⟨(Nat.le_of_ble_eq_true rfl), (Nat.le_of_ble_eq_true rfl)⟩ dL_keep_4 (fun r G1 h1 => ?_)
  · intro E G1 h1
    obtain ⟨hE, hne, w', hF1, hfr⟩ := h1
    have hb := xb_keep k0
    have q0 : xKeep k0 = 1 := by omega
    have hE2 : E = eIA := by rw [hE, q0]; rfl
    subst hE2
    refine ⟨(0, 9, 12, 13), kRow.mk [] (0, 9, 12, 13) [] rfl kxM_eIA (fun _ h => absurd h List.not_mem_nil) (by decide) (by decide) (List.mem_of_getElem? (i := 1) rfl), fun q => ?_⟩
    refine k_astore_n C (lv' := [(3, .ref q), (0, .ref (ad 0)), (1, .int k0), (2, .ref (ad 79))]) dL_keep_12 rfl (by decide) rfl ?_
    refine k_iconst C (v := 1) dL_keep_13 (by decide) ?_
    exact kh_iret C hQ rfl rfl (Nat.le_of_ble_eq_true rfl) (Nat.le_of_ble_eq_true rfl) dL_keep_14 ⟨by rw [q0]; rfl, Or.inr ⟨hne, ⟨w', hF1⟩, hfr 79 (by decide)⟩, fun j hj _ => hfr j hj⟩
  · obtain ⟨hX, hR, w', hF1, hfr⟩ := h1
    subst hR
    refine k_i2l C dL_keep_7 ?_
    have hO1 := (hfr 79 (by decide)).trans hO
    refine k_lastN C 79 4 (by omega) hO1 rfl 0 rfl (by decide) (by decide) dL_keep_8 (fun G2 h2 => ?_)
    refine k_goto C 15 dL_keep_9 (by decide) ?_
    refine k_iconst C (v := 0) dL_keep_15 (by decide) ?_
    exact kh_iret C hQ rfl rfl (Nat.le_of_ble_eq_true rfl) (Nat.le_of_ble_eq_true rfl) dL_keep_16 ⟨by rw [hX]; rfl, Or.inl ⟨hX, ⟨w', hF1.keep (fun j h8 => by rw [h2, up_ne (by omega)])⟩, ⟨_, up_it h2, pk_uLs⟩⟩, fun j hj hj2 => by rw [h2, up_ne hj2]; exact hfr j hj⟩
theorem kd_L_goBack : yL_goBack.cls ≠ "java/lang/invoke/MethodHandle" ∧ yL_goBack.cls ≠ "java/lang/invoke/VarHandle" ∧ (parseMethodDescriptor yL_goBack.desc).map (fun d => d.parameters.length) = some 3 := by decide +kernel
abbrev rL_goBack : Room := ({ frames := 8, cells := 2, slots := 12, locals := 146 } : Room)
set_option maxRecDepth 100000 in
set_option maxHeartbeats 4000000 in
theorem m_L_goBack (l : Launch) (D : va_G) (cI cC cZ cB cJ : ClassId) (ad : Nat → Nat) (N : Nat) (G : Nat → va_E) (v : BV) (w : AV) (x : TV) (hi : HV) (z0 z1 : ZV) (k0 : Int32) (fo : Nat → Int64) (hl0 : l.stackTraces = false) (hN : 80 ≤ N) (hF : isFB ad cI cB G v w x hi z0 z1) (hO : G 79 = .inl (cJ, 1, .inr (.inl fo))) : kXi l yL_goBack wsL_goBack rL_goBack D (kT5 cI cC cZ cB cJ) ad N G [.ref (ad 0), .int k0, .ref (ad 79)] 2 12 (hPost ad cI cB cJ G (xBack k0 z0 z1) (nI (bnB (if k0 = 0 then bCopy v z0.1 else bCopy v z1.1))) v x hi z0 z1 (if k0 = 0 then bCopy v z0.1 else bCopy v z1.1) (x) (hSave hi v) (z0) (z1)) (fun _ _ => False) := by
  refine kh_start (cc := cL_goBack) (ret := (some .int)) (maxL := 4) (hh := [(0, 9, 12, 13), (0, 9, 15, 15)]) (lv0 := [(0, .ref (ad 0)), (1, .int k0), (2, .ref (ad 79))]) hl0 (by decide) rfl (Nat.le_of_ble_eq_true rfl) rfl ?_
  intro p e s m args below meth c A Q C X hQ
  refine k_aload_n C dL_goBack_0 rfl (j := 2) rfl ?_
  refine k_iconst C (v := 0) dL_goBack_1 (by decide) ?_
  refine k_aload_n C dL_goBack_2 rfl (j := 0) rfl ?_
  refine k_iload_n C dL_goBack_3 rfl (j := 1) rfl ?_
  have hobj := hF.1
  refine kh_call C X (As := [.int k0]) (rest := [.int 0, .ref (ad 79)]) 0 (m_X6_goBack l D cI cC cZ cB cJ ad N G v w x hi z0 z1 k0 hl0 (by omega) hF) ?_ gL_goBack_X6_goBack rfl kd_X6_goBack rfl rfl ⟨(Nat.le_of_ble_eq_true rfl), (Nat.le_of_ble_eq_true rfl)⟩ (by omega) hobj rfl rfl rfl (Nat.le_of_ble_eq_true rfl) ⟨(Nat.le_of_ble_eq_true rfl), (Nat.le_of_ble_eq_true rfl)⟩ dL_goBack_4 (fun r G1 h1 => ?_)
  · intro E G1 h1
    obtain ⟨hE, hne, w', hF1, hfr⟩ := h1
    have hb := xb_goBack k0 z0 z1
    by_cases q0 : xBack k0 z0 z1 = 1
    · have hE2 : E = eIA := by rw [hE, q0]; rfl
      subst hE2
      refine ⟨(0, 9, 12, 13), kRow.mk [] (0, 9, 12, 13) [(0, 9, 15, 15)] rfl kxM_eIA (fun _ h => absurd h List.not_mem_nil) (by decide) (by decide) (List.mem_of_getElem? (i := 1) rfl), fun q => ?_⟩
      refine k_astore_n C (lv' := [(3, .ref q), (0, .ref (ad 0)), (1, .int k0), (2, .ref (ad 79))]) dL_goBack_12 rfl (by decide) rfl ?_
      refine k_iconst C (v := 1) dL_goBack_13 (by decide) ?_
      exact kh_iret C hQ rfl rfl (Nat.le_of_ble_eq_true rfl) (Nat.le_of_ble_eq_true rfl) dL_goBack_14 ⟨by rw [q0]; rfl, Or.inr ⟨hne, ⟨w', hF1⟩, hfr 79 (by decide)⟩, fun j hj _ => hfr j hj⟩
    have q1 : xBack k0 z0 z1 = 2 := by omega
    have hE2 : E = eIS := by rw [hE, q1]; rfl
    subst hE2
    refine ⟨(0, 9, 15, 15), kRow.mk [(0, 9, 12, 13)] (0, 9, 15, 15) [] rfl kxM_eIS (List.forall_mem_cons.mpr ⟨⟨by decide, eIA, kxM_eIA, by decide, (List.mem_of_getElem? (i := 1) rfl)⟩, fun _ h => absurd h List.not_mem_nil⟩) (by decide) (by decide) (List.mem_of_getElem? (i := 2) rfl), fun q => ?_⟩
    refine k_astore_n C (lv' := [(3, .ref q), (0, .ref (ad 0)), (1, .int k0), (2, .ref (ad 79))]) dL_goBack_15 rfl (by decide) rfl ?_
    refine k_iconst C (v := 2) dL_goBack_16 (by decide) ?_
    exact kh_iret C hQ rfl rfl (Nat.le_of_ble_eq_true rfl) (Nat.le_of_ble_eq_true rfl) dL_goBack_17 ⟨by rw [q1]; rfl, Or.inr ⟨hne, ⟨w', hF1⟩, hfr 79 (by decide)⟩, fun j hj _ => hfr j hj⟩
  · obtain ⟨hX, hR, w', hF1, hfr⟩ := h1
    subst hR
    refine k_i2l C dL_goBack_7 ?_
    have hO1 := (hfr 79 (by decide)).trans hO
    refine k_lastN C 79 4 (by omega) hO1 rfl 0 rfl (by decide) (by decide) dL_goBack_8 (fun G2 h2 => ?_)
    refine k_goto C 18 dL_goBack_9 (by decide) ?_
    refine k_iconst C (v := 0) dL_goBack_18 (by decide) ?_
    exact kh_iret C hQ rfl rfl (Nat.le_of_ble_eq_true rfl) (Nat.le_of_ble_eq_true rfl) dL_goBack_19 ⟨by rw [hX]; rfl, Or.inl ⟨hX, ⟨w', hF1.keep (fun j h8 => by rw [h2, up_ne (by omega)])⟩, ⟨_, up_it h2, pk_uLs⟩⟩, fun j hj hj2 => by rw [h2, up_ne hj2]; exact hfr j hj⟩
theorem kd_L_undo : yL_undo.cls ≠ "java/lang/invoke/MethodHandle" ∧ yL_undo.cls ≠ "java/lang/invoke/VarHandle" ∧ (parseMethodDescriptor yL_undo.desc).map (fun d => d.parameters.length) = some 2 := by decide +kernel
abbrev rL_undo : Room := ({ frames := 7, cells := 1, slots := 6, locals := 145 } : Room)
set_option maxRecDepth 100000 in
set_option maxHeartbeats 4000000 in
theorem m_L_undo (l : Launch) (D : va_G) (cI cC cZ cB cJ : ClassId) (ad : Nat → Nat) (N : Nat) (G : Nat → va_E) (v : BV) (w : AV) (x : TV) (hi : HV) (z0 z1 : ZV) (fo : Nat → Int64) (hl0 : l.stackTraces = false) (hN : 80 ≤ N) (hF : isFB ad cI cB G v w x hi z0 z1) (hO : G 79 = .inl (cJ, 1, .inr (.inl fo))) : kXi l yL_undo wsL_undo rL_undo D (kT5 cI cC cZ cB cJ) ad N G [.ref (ad 0), .ref (ad 79)] 1 6 (hPost ad cI cB cJ G (xUndo hi) (nI (hvZ hi - 1)) v x hi z0 z1 (bCopy v (hvS hi (hLast hi))) (x) ((hvS hi, hLast hi, hvZ hi - 1)) (z0) (z1)) (fun _ _ => False) := by
  refine kh_start (cc := cL_undo) (ret := (some .int)) (maxL := 3) (hh := [(0, 8, 11, 15)]) (lv0 := [(0, .ref (ad 0)), (1, .ref (ad 79))]) hl0 (by decide) rfl (Nat.le_of_ble_eq_true rfl) rfl ?_
  intro p e s m args below meth c A Q C X hQ
  refine k_aload_n C dL_undo_0 rfl (j := 1) rfl ?_
  refine k_iconst C (v := 0) dL_undo_1 (by decide) ?_
  refine k_aload_n C dL_undo_2 rfl (j := 0) rfl ?_
  have hobj := hF.1
  refine kh_call C X (As := []) (rest := [.int 0, .ref (ad 79)]) 0 (m_X6_undo l D cI cC cZ cB cJ ad N G v w x hi z0 z1  hl0 (by omega) hF) ?_ gL_undo_X6_undo rfl kd_X6_undo rfl rfl ⟨(Nat.le_of_ble_eq_true rfl), (Nat.le_of_ble_eq_true rfl)⟩ (by omega) hobj rfl rfl rfl (Nat.le_of_ble_eq_true rfl) ⟨(Nat.le_of_ble_eq_true rfl), (Nat.le_of_ble_eq_true rfl)⟩ dL_undo_3 (fun r G1 h1 => ?_)
  · intro E G1 h1
    obtain ⟨hE, hne, w', hF1, hfr⟩ := h1
    have hb := xb_undo hi
    have q0 : xUndo hi = 1 := by omega
    have hE2 : E = eIS := by rw [hE, q0]; rfl
    subst hE2
    refine ⟨(0, 8, 11, 15), kRow.mk [] (0, 8, 11, 15) [] rfl kxM_eIS (fun _ h => absurd h List.not_mem_nil) (by decide) (by decide) (List.mem_of_getElem? (i := 1) rfl), fun q => ?_⟩
    refine k_astore_n C (lv' := [(2, .ref q), (0, .ref (ad 0)), (1, .ref (ad 79))]) dL_undo_11 rfl (by decide) rfl ?_
    refine k_iconst C (v := 1) dL_undo_12 (by decide) ?_
    exact kh_iret C hQ rfl rfl (Nat.le_of_ble_eq_true rfl) (Nat.le_of_ble_eq_true rfl) dL_undo_13 ⟨by rw [q0]; rfl, Or.inr ⟨hne, ⟨w', hF1⟩, hfr 79 (by decide)⟩, fun j hj _ => hfr j hj⟩
  · obtain ⟨hX, hR, w', hF1, hfr⟩ := h1
    subst hR
    refine k_i2l C dL_undo_6 ?_
    have hO1 := (hfr 79 (by decide)).trans hO
    refine k_lastN C 79 4 (by omega) hO1 rfl 0 rfl (by decide) (by decide) dL_undo_7 (fun G2 h2 => ?_)
    refine k_goto C 14 dL_undo_8 (by decide) ?_
    refine k_iconst C (v := 0) dL_undo_14 (by decide) ?_
    exact kh_iret C hQ rfl rfl (Nat.le_of_ble_eq_true rfl) (Nat.le_of_ble_eq_true rfl) dL_undo_15 ⟨by rw [hX]; rfl, Or.inl ⟨hX, ⟨w', hF1.keep (fun j h8 => by rw [h2, up_ne (by omega)])⟩, ⟨_, up_it h2, pk_uLs⟩⟩, fun j hj hj2 => by rw [h2, up_ne hj2]; exact hfr j hj⟩
theorem kd_L_horseOf : yL_horseOf.cls ≠ "java/lang/invoke/MethodHandle" ∧ yL_horseOf.cls ≠ "java/lang/invoke/VarHandle" ∧ (parseMethodDescriptor yL_horseOf.desc).map (fun d => d.parameters.length) = some 4 := by decide +kernel
abbrev rL_horseOf : Room := ({ frames := 9, cells := 2, slots := 12, locals := 156 } : Room)
set_option maxRecDepth 100000 in
set_option maxHeartbeats 4000000 in
theorem m_L_horseOf (l : Launch) (D : va_G) (cI cC cZ cB cJ : ClassId) (ad : Nat → Nat) (N : Nat) (G : Nat → va_E) (v : BV) (w : AV) (x : TV) (hi : HV) (z0 z1 : ZV) (h k0 : Int32) (fo : Nat → Int64) (hl0 : l.stackTraces = false) (hN : 80 ≤ N) (hF : isFB ad cI cB G v w x hi z0 z1) (hO : G 79 = .inl (cJ, 1, .inr (.inl fo))) : kXi l yL_horseOf wsL_horseOf rL_horseOf D (kT5 cI cC cZ cB cJ) ad N G [.ref (ad 0), .int h, .int k0, .ref (ad 79)] 2 12 (hPost ad cI cB cJ G (xHorseOf v h k0) (hC v h k0) v x hi z0 z1 (v) (x) (hi) (z0) (z1)) (fun _ _ => False) := by
  refine kh_start (cc := cL_horseOf) (ret := (some .int)) (maxL := 5) (hh := [(0, 10, 13, 21), (0, 10, 17, 13)]) (lv0 := [(0, .ref (ad 0)), (1, .int h), (2, .int k0), (3, .ref (ad 79))]) hl0 (by decide) rfl (Nat.le_of_ble_eq_true rfl) rfl ?_
  intro p e s m args below meth c A Q C X hQ
  refine k_aload_n C dL_horseOf_0 rfl (j := 3) rfl ?_
  refine k_iconst C (v := 0) dL_horseOf_1 (by decide) ?_
  refine k_aload_n C dL_horseOf_2 rfl (j := 0) rfl ?_
  refine k_iload_n C dL_horseOf_3 rfl (j := 1) rfl ?_
  refine k_iload_n C dL_horseOf_4 rfl (j := 2) rfl ?_
  have hobj := hF.1
  refine kh_call C X (As := [.int h, .int k0]) (rest := [.int 0, .ref (ad 79)]) 0 (m_X6_horseOf l D cI cC cZ cB cJ ad N G v w x hi z0 z1 h k0 hl0 (by omega) hF) ?_ gL_horseOf_X6_horseOf rfl kd_X6_horseOf rfl rfl ⟨(Nat.le_of_ble_eq_true rfl), (Nat.le_of_ble_eq_true rfl)⟩ (by omega) hobj rfl rfl rfl (Nat.le_of_ble_eq_true rfl) ⟨(Nat.le_of_ble_eq_true rfl), (Nat.le_of_ble_eq_true rfl)⟩ dL_horseOf_5 (fun r G1 h1 => ?_)
  · intro E G1 h1
    obtain ⟨hE, hne, w', hF1, hfr⟩ := h1
    have hb := xb_horseOf v h k0
    by_cases q0 : xHorseOf v h k0 = 1
    · have hE2 : E = eIX := by rw [hE, q0]; rfl
      subst hE2
      refine ⟨(0, 10, 13, 21), kRow.mk [] (0, 10, 13, 21) [(0, 10, 17, 13)] rfl kxM_eIX (fun _ h => absurd h List.not_mem_nil) (by decide) (by decide) (List.mem_of_getElem? (i := 1) rfl), fun q => ?_⟩
      refine k_astore C (lv' := [(4, .ref q), (0, .ref (ad 0)), (1, .int h), (2, .int k0), (3, .ref (ad 79))]) dL_horseOf_13 (by decide) rfl ?_
      refine k_iconst C (v := 1) dL_horseOf_15 (by decide) ?_
      exact kh_iret C hQ rfl rfl (Nat.le_of_ble_eq_true rfl) (Nat.le_of_ble_eq_true rfl) dL_horseOf_16 ⟨by rw [q0]; rfl, Or.inr ⟨hne, ⟨w', hF1⟩, hfr 79 (by decide)⟩, fun j hj _ => hfr j hj⟩
    have q1 : xHorseOf v h k0 = 2 := by omega
    have hE2 : E = eIA := by rw [hE, q1]; rfl
    subst hE2
    refine ⟨(0, 10, 17, 13), kRow.mk [(0, 10, 13, 21)] (0, 10, 17, 13) [] rfl kxM_eIA (List.forall_mem_cons.mpr ⟨⟨by decide, eIX, kxM_eIX, by decide, (List.mem_of_getElem? (i := 1) rfl)⟩, fun _ h => absurd h List.not_mem_nil⟩) (by decide) (by decide) (List.mem_of_getElem? (i := 2) rfl), fun q => ?_⟩
    refine k_astore C (lv' := [(4, .ref q), (0, .ref (ad 0)), (1, .int h), (2, .int k0), (3, .ref (ad 79))]) dL_horseOf_17 (by decide) rfl ?_
    refine k_iconst C (v := 2) dL_horseOf_19 (by decide) ?_
    exact kh_iret C hQ rfl rfl (Nat.le_of_ble_eq_true rfl) (Nat.le_of_ble_eq_true rfl) dL_horseOf_20 ⟨by rw [q1]; rfl, Or.inr ⟨hne, ⟨w', hF1⟩, hfr 79 (by decide)⟩, fun j hj _ => hfr j hj⟩
  · obtain ⟨hX, hR, w', hF1, hfr⟩ := h1
    subst hR
    refine k_i2l C dL_horseOf_8 ?_
    have hO1 := (hfr 79 (by decide)).trans hO
    refine k_lastN C 79 4 (by omega) hO1 rfl 0 rfl (by decide) (by decide) dL_horseOf_9 (fun G2 h2 => ?_)
    refine k_goto C 21 dL_horseOf_10 (by decide) ?_
    refine k_iconst C (v := 0) dL_horseOf_21 (by decide) ?_
    exact kh_iret C hQ rfl rfl (Nat.le_of_ble_eq_true rfl) (Nat.le_of_ble_eq_true rfl) dL_horseOf_22 ⟨by rw [hX]; rfl, Or.inl ⟨hX, ⟨w', hF1.keep (fun j h8 => by rw [h2, up_ne (by omega)])⟩, ⟨_, up_it h2, pk_uLs⟩⟩, fun j hj hj2 => by rw [h2, up_ne hj2]; exact hfr j hj⟩
theorem kd_L_bet : yL_bet.cls ≠ "java/lang/invoke/MethodHandle" ∧ yL_bet.cls ≠ "java/lang/invoke/VarHandle" ∧ (parseMethodDescriptor yL_bet.desc).map (fun d => d.parameters.length) = some 4 := by decide +kernel
abbrev rL_bet : Room := ({ frames := 8, cells := 2, slots := 12, locals := 135 } : Room)
set_option maxRecDepth 100000 in
set_option maxHeartbeats 4000000 in
theorem m_L_bet (l : Launch) (D : va_G) (cI cC cZ cB cJ : ClassId) (ad : Nat → Nat) (N : Nat) (G : Nat → va_E) (v : BV) (w : AV) (x : TV) (hi : HV) (z0 z1 : ZV) (h k0 : Int32) (fo : Nat → Int64) (hl0 : l.stackTraces = false) (hN : 80 ≤ N) (hF : isFB ad cI cB G v w x hi z0 z1) (hO : G 79 = .inl (cJ, 1, .inr (.inl fo))) : kXi l yL_bet wsL_bet rL_bet D (kT5 cI cC cZ cB cJ) ad N G [.ref (ad 0), .int h, .int k0, .ref (ad 79)] 2 12 (hPost ad cI cB cJ G (xBet v h k0) (bC v h k0) v x hi z0 z1 (v) (x) (hi) (z0) (z1)) (fun _ _ => False) := by
  refine kh_start (cc := cL_bet) (ret := (some .int)) (maxL := 5) (hh := [(0, 10, 13, 21), (0, 10, 17, 13)]) (lv0 := [(0, .ref (ad 0)), (1, .int h), (2, .int k0), (3, .ref (ad 79))]) hl0 (by decide) rfl (Nat.le_of_ble_eq_true rfl) rfl ?_
  intro p e s m args below meth c A Q C X hQ
  refine k_aload_n C dL_bet_0 rfl (j := 3) rfl ?_
  refine k_iconst C (v := 0) dL_bet_1 (by decide) ?_
  refine k_aload_n C dL_bet_2 rfl (j := 0) rfl ?_
  refine k_iload_n C dL_bet_3 rfl (j := 1) rfl ?_
  refine k_iload_n C dL_bet_4 rfl (j := 2) rfl ?_
  have hobj := hF.1
  refine kh_call C X (As := [.int h, .int k0]) (rest := [.int 0, .ref (ad 79)]) 0 (m_X6_bet l D cI cC cZ cB cJ ad N G v w x hi z0 z1 h k0 hl0 (by omega) hF) ?_ gL_bet_X6_bet rfl kd_X6_bet rfl rfl ⟨(Nat.le_of_ble_eq_true rfl), (Nat.le_of_ble_eq_true rfl)⟩ (by omega) hobj rfl rfl rfl (Nat.le_of_ble_eq_true rfl) ⟨(Nat.le_of_ble_eq_true rfl), (Nat.le_of_ble_eq_true rfl)⟩ dL_bet_5 (fun r G1 h1 => ?_)
  · intro E G1 h1
    obtain ⟨hE, hne, w', hF1, hfr⟩ := h1
    have hb := xb_bet v h k0
    by_cases q0 : xBet v h k0 = 1
    · have hE2 : E = eIX := by rw [hE, q0]; rfl
      subst hE2
      refine ⟨(0, 10, 13, 21), kRow.mk [] (0, 10, 13, 21) [(0, 10, 17, 13)] rfl kxM_eIX (fun _ h => absurd h List.not_mem_nil) (by decide) (by decide) (List.mem_of_getElem? (i := 1) rfl), fun q => ?_⟩
      refine k_astore C (lv' := [(4, .ref q), (0, .ref (ad 0)), (1, .int h), (2, .int k0), (3, .ref (ad 79))]) dL_bet_13 (by decide) rfl ?_
      refine k_iconst C (v := 1) dL_bet_15 (by decide) ?_
      exact kh_iret C hQ rfl rfl (Nat.le_of_ble_eq_true rfl) (Nat.le_of_ble_eq_true rfl) dL_bet_16 ⟨by rw [q0]; rfl, Or.inr ⟨hne, ⟨w', hF1⟩, hfr 79 (by decide)⟩, fun j hj _ => hfr j hj⟩
    have q1 : xBet v h k0 = 2 := by omega
    have hE2 : E = eIA := by rw [hE, q1]; rfl
    subst hE2
    refine ⟨(0, 10, 17, 13), kRow.mk [(0, 10, 13, 21)] (0, 10, 17, 13) [] rfl kxM_eIA (List.forall_mem_cons.mpr ⟨⟨by decide, eIX, kxM_eIX, by decide, (List.mem_of_getElem? (i := 1) rfl)⟩, fun _ h => absurd h List.not_mem_nil⟩) (by decide) (by decide) (List.mem_of_getElem? (i := 2) rfl), fun q => ?_⟩
    refine k_astore C (lv' := [(4, .ref q), (0, .ref (ad 0)), (1, .int h), (2, .int k0), (3, .ref (ad 79))]) dL_bet_17 (by decide) rfl ?_
    refine k_iconst C (v := 2) dL_bet_19 (by decide) ?_
    exact kh_iret C hQ rfl rfl (Nat.le_of_ble_eq_true rfl) (Nat.le_of_ble_eq_true rfl) dL_bet_20 ⟨by rw [q1]; rfl, Or.inr ⟨hne, ⟨w', hF1⟩, hfr 79 (by decide)⟩, fun j hj _ => hfr j hj⟩
  · obtain ⟨hX, hR, w', hF1, hfr⟩ := h1
    subst hR
    refine k_i2l C dL_bet_8 ?_
    have hO1 := (hfr 79 (by decide)).trans hO
    refine k_lastN C 79 4 (by omega) hO1 rfl 0 rfl (by decide) (by decide) dL_bet_9 (fun G2 h2 => ?_)
    refine k_goto C 21 dL_bet_10 (by decide) ?_
    refine k_iconst C (v := 0) dL_bet_21 (by decide) ?_
    exact kh_iret C hQ rfl rfl (Nat.le_of_ble_eq_true rfl) (Nat.le_of_ble_eq_true rfl) dL_bet_22 ⟨by rw [hX]; rfl, Or.inl ⟨hX, ⟨w', hF1.keep (fun j h8 => by rw [h2, up_ne (by omega)])⟩, ⟨_, up_it h2, pk_uLs⟩⟩, fun j hj hj2 => by rw [h2, up_ne hj2]; exact hfr j hj⟩
theorem kd_L_laid : yL_laid.cls ≠ "java/lang/invoke/MethodHandle" ∧ yL_laid.cls ≠ "java/lang/invoke/VarHandle" ∧ (parseMethodDescriptor yL_laid.desc).map (fun d => d.parameters.length) = some 4 := by decide +kernel
abbrev rL_laid : Room := ({ frames := 8, cells := 2, slots := 12, locals := 135 } : Room)
set_option maxRecDepth 100000 in
set_option maxHeartbeats 4000000 in
theorem m_L_laid (l : Launch) (D : va_G) (cI cC cZ cB cJ : ClassId) (ad : Nat → Nat) (N : Nat) (G : Nat → va_E) (v : BV) (w : AV) (x : TV) (hi : HV) (z0 z1 : ZV) (h k0 : Int32) (fo : Nat → Int64) (hl0 : l.stackTraces = false) (hN : 80 ≤ N) (hF : isFB ad cI cB G v w x hi z0 z1) (hO : G 79 = .inl (cJ, 1, .inr (.inl fo))) : kXi l yL_laid wsL_laid rL_laid D (kT5 cI cC cZ cB cJ) ad N G [.ref (ad 0), .int h, .int k0, .ref (ad 79)] 2 12 (hPost ad cI cB cJ G (xLaid v h k0) (lC v h k0) v x hi z0 z1 (v) (x) (hi) (z0) (z1)) (fun _ _ => False) := by
  refine kh_start (cc := cL_laid) (ret := (some .int)) (maxL := 5) (hh := [(0, 10, 13, 21), (0, 10, 17, 13)]) (lv0 := [(0, .ref (ad 0)), (1, .int h), (2, .int k0), (3, .ref (ad 79))]) hl0 (by decide) rfl (Nat.le_of_ble_eq_true rfl) rfl ?_
  intro p e s m args below meth c A Q C X hQ
  refine k_aload_n C dL_laid_0 rfl (j := 3) rfl ?_
  refine k_iconst C (v := 0) dL_laid_1 (by decide) ?_
  refine k_aload_n C dL_laid_2 rfl (j := 0) rfl ?_
  refine k_iload_n C dL_laid_3 rfl (j := 1) rfl ?_
  refine k_iload_n C dL_laid_4 rfl (j := 2) rfl ?_
  have hobj := hF.1
  refine kh_call C X (As := [.int h, .int k0]) (rest := [.int 0, .ref (ad 79)]) 0 (m_X6_laid l D cI cC cZ cB cJ ad N G v w x hi z0 z1 h k0 hl0 (by omega) hF) ?_ gL_laid_X6_laid rfl kd_X6_laid rfl rfl ⟨(Nat.le_of_ble_eq_true rfl), (Nat.le_of_ble_eq_true rfl)⟩ (by omega) hobj rfl rfl rfl (Nat.le_of_ble_eq_true rfl) ⟨(Nat.le_of_ble_eq_true rfl), (Nat.le_of_ble_eq_true rfl)⟩ dL_laid_5 (fun r G1 h1 => ?_)
  · intro E G1 h1
    obtain ⟨hE, hne, w', hF1, hfr⟩ := h1
    have hb := xb_laid v h k0
    by_cases q0 : xLaid v h k0 = 1
    · have hE2 : E = eIX := by rw [hE, q0]; rfl
      subst hE2
      refine ⟨(0, 10, 13, 21), kRow.mk [] (0, 10, 13, 21) [(0, 10, 17, 13)] rfl kxM_eIX (fun _ h => absurd h List.not_mem_nil) (by decide) (by decide) (List.mem_of_getElem? (i := 1) rfl), fun q => ?_⟩
      refine k_astore C (lv' := [(4, .ref q), (0, .ref (ad 0)), (1, .int h), (2, .int k0), (3, .ref (ad 79))]) dL_laid_13 (by decide) rfl ?_
      refine k_iconst C (v := 1) dL_laid_15 (by decide) ?_
      exact kh_iret C hQ rfl rfl (Nat.le_of_ble_eq_true rfl) (Nat.le_of_ble_eq_true rfl) dL_laid_16 ⟨by rw [q0]; rfl, Or.inr ⟨hne, ⟨w', hF1⟩, hfr 79 (by decide)⟩, fun j hj _ => hfr j hj⟩
    have q1 : xLaid v h k0 = 2 := by omega
    have hE2 : E = eIA := by rw [hE, q1]; rfl
    subst hE2
    refine ⟨(0, 10, 17, 13), kRow.mk [(0, 10, 13, 21)] (0, 10, 17, 13) [] rfl kxM_eIA (List.forall_mem_cons.mpr ⟨⟨by decide, eIX, kxM_eIX, by decide, (List.mem_of_getElem? (i := 1) rfl)⟩, fun _ h => absurd h List.not_mem_nil⟩) (by decide) (by decide) (List.mem_of_getElem? (i := 2) rfl), fun q => ?_⟩
    refine k_astore C (lv' := [(4, .ref q), (0, .ref (ad 0)), (1, .int h), (2, .int k0), (3, .ref (ad 79))]) dL_laid_17 (by decide) rfl ?_
    refine k_iconst C (v := 2) dL_laid_19 (by decide) ?_
    exact kh_iret C hQ rfl rfl (Nat.le_of_ble_eq_true rfl) (Nat.le_of_ble_eq_true rfl) dL_laid_20 ⟨by rw [q1]; rfl, Or.inr ⟨hne, ⟨w', hF1⟩, hfr 79 (by decide)⟩, fun j hj _ => hfr j hj⟩
  · obtain ⟨hX, hR, w', hF1, hfr⟩ := h1
    subst hR
    refine k_i2l C dL_laid_8 ?_
    have hO1 := (hfr 79 (by decide)).trans hO
    refine k_lastN C 79 4 (by omega) hO1 rfl 0 rfl (by decide) (by decide) dL_laid_9 (fun G2 h2 => ?_)
    refine k_goto C 21 dL_laid_10 (by decide) ?_
    refine k_iconst C (v := 0) dL_laid_21 (by decide) ?_
    exact kh_iret C hQ rfl rfl (Nat.le_of_ble_eq_true rfl) (Nat.le_of_ble_eq_true rfl) dL_laid_22 ⟨by rw [hX]; rfl, Or.inl ⟨hX, ⟨w', hF1.keep (fun j h8 => by rw [h2, up_ne (by omega)])⟩, ⟨_, up_it h2, pk_uLs⟩⟩, fun j hj hj2 => by rw [h2, up_ne hj2]; exact hfr j hj⟩
theorem kd_L_count : yL_count.cls ≠ "java/lang/invoke/MethodHandle" ∧ yL_count.cls ≠ "java/lang/invoke/VarHandle" ∧ (parseMethodDescriptor yL_count.desc).map (fun d => d.parameters.length) = some 3 := by decide +kernel
abbrev rL_count : Room := ({ frames := 8, cells := 1, slots := 6, locals := 134 } : Room)
set_option maxRecDepth 100000 in
set_option maxHeartbeats 4000000 in
theorem m_L_count (l : Launch) (D : va_G) (cI cC cZ cB cJ : ClassId) (ad : Nat → Nat) (N : Nat) (G : Nat → va_E) (v : BV) (w : AV) (x : TV) (hi : HV) (z0 z1 : ZV) (k0 : Int32) (fo : Nat → Int64) (hl0 : l.stackTraces = false) (hN : 80 ≤ N) (hF : isFB ad cI cB G v w x hi z0 z1) (hO : G 79 = .inl (cJ, 1, .inr (.inl fo))) : kXi l yL_count wsL_count rL_count D (kT5 cI cC cZ cB cJ) ad N G [.ref (ad 0), .int k0, .ref (ad 79)] 1 6 (hPost ad cI cB cJ G (xCount k0) (jCount v hi k0.toNatClampNeg) v x hi z0 z1 (v) (x) (hi) (z0) (z1)) (fun _ _ => False) := by
  refine kh_start (cc := cL_count) (ret := (some .int)) (maxL := 4) (hh := [(0, 9, 12, 13)]) (lv0 := [(0, .ref (ad 0)), (1, .int k0), (2, .ref (ad 79))]) hl0 (by decide) rfl (Nat.le_of_ble_eq_true rfl) rfl ?_
  intro p e s m args below meth c A Q C X hQ
  refine k_aload_n C dL_count_0 rfl (j := 2) rfl ?_
  refine k_iconst C (v := 0) dL_count_1 (by decide) ?_
  refine k_aload_n C dL_count_2 rfl (j := 0) rfl ?_
  refine k_iload_n C dL_count_3 rfl (j := 1) rfl ?_
  have hobj := hF.1
  refine kh_call C X (As := [.int k0]) (rest := [.int 0, .ref (ad 79)]) 0 (m_X6_count l D cI cC cZ cB cJ ad N G v w x hi z0 z1 k0 hl0 (by omega) hF) ?_ gL_count_X6_count rfl kd_X6_count rfl rfl ⟨(Nat.le_of_ble_eq_true rfl), (Nat.le_of_ble_eq_true rfl)⟩ (by omega) hobj rfl rfl rfl (Nat.le_of_ble_eq_true rfl) ⟨(Nat.le_of_ble_eq_true rfl), (Nat.le_of_ble_eq_true rfl)⟩ dL_count_4 (fun r G1 h1 => ?_)
  · intro E G1 h1
    obtain ⟨hE, hne, w', hF1, hfr⟩ := h1
    have hb := xb_count k0
    have q0 : xCount k0 = 1 := by omega
    have hE2 : E = eIA := by rw [hE, q0]; rfl
    subst hE2
    refine ⟨(0, 9, 12, 13), kRow.mk [] (0, 9, 12, 13) [] rfl kxM_eIA (fun _ h => absurd h List.not_mem_nil) (by decide) (by decide) (List.mem_of_getElem? (i := 1) rfl), fun q => ?_⟩
    refine k_astore_n C (lv' := [(3, .ref q), (0, .ref (ad 0)), (1, .int k0), (2, .ref (ad 79))]) dL_count_12 rfl (by decide) rfl ?_
    refine k_iconst C (v := 1) dL_count_13 (by decide) ?_
    exact kh_iret C hQ rfl rfl (Nat.le_of_ble_eq_true rfl) (Nat.le_of_ble_eq_true rfl) dL_count_14 ⟨by rw [q0]; rfl, Or.inr ⟨hne, ⟨w', hF1⟩, hfr 79 (by decide)⟩, fun j hj _ => hfr j hj⟩
  · obtain ⟨hX, hR, w', hF1, hfr⟩ := h1
    subst hR
    refine k_i2l C dL_count_7 ?_
    have hO1 := (hfr 79 (by decide)).trans hO
    refine k_lastN C 79 4 (by omega) hO1 rfl 0 rfl (by decide) (by decide) dL_count_8 (fun G2 h2 => ?_)
    refine k_goto C 15 dL_count_9 (by decide) ?_
    refine k_iconst C (v := 0) dL_count_15 (by decide) ?_
    exact kh_iret C hQ rfl rfl (Nat.le_of_ble_eq_true rfl) (Nat.le_of_ble_eq_true rfl) dL_count_16 ⟨by rw [hX]; rfl, Or.inl ⟨hX, ⟨w', hF1.keep (fun j h8 => by rw [h2, up_ne (by omega)])⟩, ⟨_, up_it h2, pk_uLs⟩⟩, fun j hj hj2 => by rw [h2, up_ne hj2]; exact hfr j hj⟩
theorem kd_L_setting : yL_setting.cls ≠ "java/lang/invoke/MethodHandle" ∧ yL_setting.cls ≠ "java/lang/invoke/VarHandle" ∧ (parseMethodDescriptor yL_setting.desc).map (fun d => d.parameters.length) = some 3 := by decide +kernel
abbrev rL_setting : Room := ({ frames := 8, cells := 1, slots := 6, locals := 133 } : Room)
set_option maxRecDepth 100000 in
set_option maxHeartbeats 4000000 in
theorem m_L_setting (l : Launch) (D : va_G) (cI cC cZ cB cJ : ClassId) (ad : Nat → Nat) (N : Nat) (G : Nat → va_E) (v : BV) (w : AV) (x : TV) (hi : HV) (z0 z1 : ZV) (k0 : Int32) (fo : Nat → Int64) (hl0 : l.stackTraces = false) (hN : 80 ≤ N) (hF : isFB ad cI cB G v w x hi z0 z1) (hO : G 79 = .inl (cJ, 1, .inr (.inl fo))) : kXi l yL_setting wsL_setting rL_setting D (kT5 cI cC cZ cB cJ) ad N G [.ref (ad 0), .int k0, .ref (ad 79)] 1 6 (hPost ad cI cB cJ G (xSetting k0) (jSetting v k0) v x hi z0 z1 (v) (x) (hi) (z0) (z1)) (fun _ _ => False) := by
  refine kh_start (cc := cL_setting) (ret := (some .int)) (maxL := 4) (hh := [(0, 9, 12, 21)]) (lv0 := [(0, .ref (ad 0)), (1, .int k0), (2, .ref (ad 79))]) hl0 (by decide) rfl (Nat.le_of_ble_eq_true rfl) rfl ?_
  intro p e s m args below meth c A Q C X hQ
  refine k_aload_n C dL_setting_0 rfl (j := 2) rfl ?_
  refine k_iconst C (v := 0) dL_setting_1 (by decide) ?_
  refine k_aload_n C dL_setting_2 rfl (j := 0) rfl ?_
  refine k_iload_n C dL_setting_3 rfl (j := 1) rfl ?_
  have hobj := hF.1
  refine kh_call C X (As := [.int k0]) (rest := [.int 0, .ref (ad 79)]) 0 (m_X6_setting l D cI cC cZ cB cJ ad N G v w x hi z0 z1 k0 hl0 (by omega) hF) ?_ gL_setting_X6_setting rfl kd_X6_setting rfl rfl ⟨(Nat.le_of_ble_eq_true rfl), (Nat.le_of_ble_eq_true rfl)⟩ (by omega) hobj rfl rfl rfl (Nat.le_of_ble_eq_true rfl) ⟨(Nat.le_of_ble_eq_true rfl), (Nat.le_of_ble_eq_true rfl)⟩ dL_setting_4 (fun r G1 h1 => ?_)
  · intro E G1 h1
    obtain ⟨hE, hne, w', hF1, hfr⟩ := h1
    have hb := xb_setting k0
    have q0 : xSetting k0 = 1 := by omega
    have hE2 : E = eIX := by rw [hE, q0]; rfl
    subst hE2
    refine ⟨(0, 9, 12, 21), kRow.mk [] (0, 9, 12, 21) [] rfl kxM_eIX (fun _ h => absurd h List.not_mem_nil) (by decide) (by decide) (List.mem_of_getElem? (i := 1) rfl), fun q => ?_⟩
    refine k_astore_n C (lv' := [(3, .ref q), (0, .ref (ad 0)), (1, .int k0), (2, .ref (ad 79))]) dL_setting_12 rfl (by decide) rfl ?_
    refine k_iconst C (v := 1) dL_setting_13 (by decide) ?_
    exact kh_iret C hQ rfl rfl (Nat.le_of_ble_eq_true rfl) (Nat.le_of_ble_eq_true rfl) dL_setting_14 ⟨by rw [q0]; rfl, Or.inr ⟨hne, ⟨w', hF1⟩, hfr 79 (by decide)⟩, fun j hj _ => hfr j hj⟩
  · obtain ⟨hX, hR, w', hF1, hfr⟩ := h1
    subst hR
    refine k_i2l C dL_setting_7 ?_
    have hO1 := (hfr 79 (by decide)).trans hO
    refine k_lastN C 79 4 (by omega) hO1 rfl 0 rfl (by decide) (by decide) dL_setting_8 (fun G2 h2 => ?_)
    refine k_goto C 15 dL_setting_9 (by decide) ?_
    refine k_iconst C (v := 0) dL_setting_15 (by decide) ?_
    exact kh_iret C hQ rfl rfl (Nat.le_of_ble_eq_true rfl) (Nat.le_of_ble_eq_true rfl) dL_setting_16 ⟨by rw [hX]; rfl, Or.inl ⟨hX, ⟨w', hF1.keep (fun j h8 => by rw [h2, up_ne (by omega)])⟩, ⟨_, up_it h2, pk_uLs⟩⟩, fun j hj hj2 => by rw [h2, up_ne hj2]; exact hfr j hj⟩
theorem kd_L_ifWon : yL_ifWon.cls ≠ "java/lang/invoke/MethodHandle" ∧ yL_ifWon.cls ≠ "java/lang/invoke/VarHandle" ∧ (parseMethodDescriptor yL_ifWon.desc).map (fun d => d.parameters.length) = some 3 := by decide +kernel
abbrev rL_ifWon : Room := ({ frames := 9, cells := 1, slots := 6, locals := 155 } : Room)
set_option maxRecDepth 100000 in
set_option maxHeartbeats 4000000 in
theorem m_L_ifWon (l : Launch) (D : va_G) (cI cC cZ cB cJ : ClassId) (ad : Nat → Nat) (N : Nat) (G : Nat → va_E) (v : BV) (w : AV) (x : TV) (hi : HV) (z0 z1 : ZV) (h : Int32) (fo : Nat → Int64) (hl0 : l.stackTraces = false) (hN : 80 ≤ N) (hF : isFB ad cI cB G v w x hi z0 z1) (hO : G 79 = .inl (cJ, 1, .inr (.inl fo))) : kXi l yL_ifWon wsL_ifWon rL_ifWon D (kT5 cI cC cZ cB cJ) ad N G [.ref (ad 0), .int h, .ref (ad 79)] 1 6 (hPost ad cI cB cJ G (xOne v h) (jWW v h) v x hi z0 z1 (v) (x) (hi) (z0) (z1)) (fun _ _ => False) := by
  refine kh_start (cc := cL_ifWon) (ret := (some .int)) (maxL := 4) (hh := [(0, 9, 12, 21)]) (lv0 := [(0, .ref (ad 0)), (1, .int h), (2, .ref (ad 79))]) hl0 (by decide) rfl (Nat.le_of_ble_eq_true rfl) rfl ?_
  intro p e s m args below meth c A Q C X hQ
  refine k_aload_n C dL_ifWon_0 rfl (j := 2) rfl ?_
  refine k_iconst C (v := 0) dL_ifWon_1 (by decide) ?_
  refine k_aload_n C dL_ifWon_2 rfl (j := 0) rfl ?_
  refine k_iload_n C dL_ifWon_3 rfl (j := 1) rfl ?_
  have hobj := hF.1
  refine kh_call C X (As := [.int h]) (rest := [.int 0, .ref (ad 79)]) 0 (m_X6_ifWon l D cI cC cZ cB cJ ad N G v w x hi z0 z1 h hl0 (by omega) hF) ?_ gL_ifWon_X6_ifWon rfl kd_X6_ifWon rfl rfl ⟨(Nat.le_of_ble_eq_true rfl), (Nat.le_of_ble_eq_true rfl)⟩ (by omega) hobj rfl rfl rfl (Nat.le_of_ble_eq_true rfl) ⟨(Nat.le_of_ble_eq_true rfl), (Nat.le_of_ble_eq_true rfl)⟩ dL_ifWon_4 (fun r G1 h1 => ?_)
  · intro E G1 h1
    obtain ⟨hE, hne, w', hF1, hfr⟩ := h1
    have hb := xb_ifWon v h
    have q0 : xOne v h = 1 := by omega
    have hE2 : E = eIX := by rw [hE, q0]; rfl
    subst hE2
    refine ⟨(0, 9, 12, 21), kRow.mk [] (0, 9, 12, 21) [] rfl kxM_eIX (fun _ h => absurd h List.not_mem_nil) (by decide) (by decide) (List.mem_of_getElem? (i := 1) rfl), fun q => ?_⟩
    refine k_astore_n C (lv' := [(3, .ref q), (0, .ref (ad 0)), (1, .int h), (2, .ref (ad 79))]) dL_ifWon_12 rfl (by decide) rfl ?_
    refine k_iconst C (v := 1) dL_ifWon_13 (by decide) ?_
    exact kh_iret C hQ rfl rfl (Nat.le_of_ble_eq_true rfl) (Nat.le_of_ble_eq_true rfl) dL_ifWon_14 ⟨by rw [q0]; rfl, Or.inr ⟨hne, ⟨w', hF1⟩, hfr 79 (by decide)⟩, fun j hj _ => hfr j hj⟩
  · obtain ⟨hX, hR, w', hF1, hfr⟩ := h1
    subst hR
    refine k_i2l C dL_ifWon_7 ?_
    have hO1 := (hfr 79 (by decide)).trans hO
    refine k_lastN C 79 4 (by omega) hO1 rfl 0 rfl (by decide) (by decide) dL_ifWon_8 (fun G2 h2 => ?_)
    refine k_goto C 15 dL_ifWon_9 (by decide) ?_
    refine k_iconst C (v := 0) dL_ifWon_15 (by decide) ?_
    exact kh_iret C hQ rfl rfl (Nat.le_of_ble_eq_true rfl) (Nat.le_of_ble_eq_true rfl) dL_ifWon_16 ⟨by rw [hX]; rfl, Or.inl ⟨hX, ⟨w', hF1.keep (fun j h8 => by rw [h2, up_ne (by omega)])⟩, ⟨_, up_it h2, pk_uLs⟩⟩, fun j hj hj2 => by rw [h2, up_ne hj2]; exact hfr j hj⟩
theorem kd_L_cover : yL_cover.cls ≠ "java/lang/invoke/MethodHandle" ∧ yL_cover.cls ≠ "java/lang/invoke/VarHandle" ∧ (parseMethodDescriptor yL_cover.desc).map (fun d => d.parameters.length) = some 3 := by decide +kernel
abbrev rL_cover : Room := ({ frames := 9, cells := 1, slots := 6, locals := 155 } : Room)
set_option maxRecDepth 100000 in
set_option maxHeartbeats 4000000 in
theorem m_L_cover (l : Launch) (D : va_G) (cI cC cZ cB cJ : ClassId) (ad : Nat → Nat) (N : Nat) (G : Nat → va_E) (v : BV) (w : AV) (x : TV) (hi : HV) (z0 z1 : ZV) (h : Int32) (fo : Nat → Int64) (hl0 : l.stackTraces = false) (hN : 80 ≤ N) (hF : isFB ad cI cB G v w x hi z0 z1) (hO : G 79 = .inl (cJ, 1, .inr (.inl fo))) : kXi l yL_cover wsL_cover rL_cover D (kT5 cI cC cZ cB cJ) ad N G [.ref (ad 0), .int h, .ref (ad 79)] 1 6 (hPost ad cI cB cJ G (xOne v h) (jCover v h (jWW v h)) v x hi z0 z1 (v) (x) (hi) (z0) (z1)) (fun _ _ => False) := by
  refine kh_start (cc := cL_cover) (ret := (some .int)) (maxL := 4) (hh := [(0, 9, 12, 21)]) (lv0 := [(0, .ref (ad 0)), (1, .int h), (2, .ref (ad 79))]) hl0 (by decide) rfl (Nat.le_of_ble_eq_true rfl) rfl ?_
  intro p e s m args below meth c A Q C X hQ
  refine k_aload_n C dL_cover_0 rfl (j := 2) rfl ?_
  refine k_iconst C (v := 0) dL_cover_1 (by decide) ?_
  refine k_aload_n C dL_cover_2 rfl (j := 0) rfl ?_
  refine k_iload_n C dL_cover_3 rfl (j := 1) rfl ?_
  have hobj := hF.1
  refine kh_call C X (As := [.int h]) (rest := [.int 0, .ref (ad 79)]) 0 (m_X6_cover l D cI cC cZ cB cJ ad N G v w x hi z0 z1 h hl0 (by omega) hF) ?_ gL_cover_X6_cover rfl kd_X6_cover rfl rfl ⟨(Nat.le_of_ble_eq_true rfl), (Nat.le_of_ble_eq_true rfl)⟩ (by omega) hobj rfl rfl rfl (Nat.le_of_ble_eq_true rfl) ⟨(Nat.le_of_ble_eq_true rfl), (Nat.le_of_ble_eq_true rfl)⟩ dL_cover_4 (fun r G1 h1 => ?_)
  · intro E G1 h1
    obtain ⟨hE, hne, w', hF1, hfr⟩ := h1
    have hb := xb_cover v h
    have q0 : xOne v h = 1 := by omega
    have hE2 : E = eIX := by rw [hE, q0]; rfl
    subst hE2
    refine ⟨(0, 9, 12, 21), kRow.mk [] (0, 9, 12, 21) [] rfl kxM_eIX (fun _ h => absurd h List.not_mem_nil) (by decide) (by decide) (List.mem_of_getElem? (i := 1) rfl), fun q => ?_⟩
    refine k_astore_n C (lv' := [(3, .ref q), (0, .ref (ad 0)), (1, .int h), (2, .ref (ad 79))]) dL_cover_12 rfl (by decide) rfl ?_
    refine k_iconst C (v := 1) dL_cover_13 (by decide) ?_
    exact kh_iret C hQ rfl rfl (Nat.le_of_ble_eq_true rfl) (Nat.le_of_ble_eq_true rfl) dL_cover_14 ⟨by rw [q0]; rfl, Or.inr ⟨hne, ⟨w', hF1⟩, hfr 79 (by decide)⟩, fun j hj _ => hfr j hj⟩
  · obtain ⟨hX, hR, w', hF1, hfr⟩ := h1
    subst hR
    refine k_i2l C dL_cover_7 ?_
    have hO1 := (hfr 79 (by decide)).trans hO
    refine k_lastN C 79 4 (by omega) hO1 rfl 0 rfl (by decide) (by decide) dL_cover_8 (fun G2 h2 => ?_)
    refine k_goto C 15 dL_cover_9 (by decide) ?_
    refine k_iconst C (v := 0) dL_cover_15 (by decide) ?_
    exact kh_iret C hQ rfl rfl (Nat.le_of_ble_eq_true rfl) (Nat.le_of_ble_eq_true rfl) dL_cover_16 ⟨by rw [hX]; rfl, Or.inl ⟨hX, ⟨w', hF1.keep (fun j h8 => by rw [h2, up_ne (by omega)])⟩, ⟨_, up_it h2, pk_uLs⟩⟩, fun j hj hj2 => by rw [h2, up_ne hj2]; exact hfr j hj⟩
