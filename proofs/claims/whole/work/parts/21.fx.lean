/-! The methods that check and throw -/
def jPriceOk (pa pb : Int32) : Bool := !(decide (pa < 1)) && !(decide (100 < pa)) && !(decide (pb < 1)) && decide (pb ≤ 20)
def jStakeOk (st : Int32) : Bool := !(decide (st < 1)) && decide (st ≤ 9999)
def jPropOk (k0 n0 : Int32) : Bool := !(decide (k0 < 0)) && decide (k0 < n0)
def jTwoOk (k0 : Int32) : Bool := !(decide (k0 < 0)) && decide (k0 ≤ 1)
theorem inxX6_requirePrice_115 : ∀ w ∈ (vx_atS RX6 115 eIA kUp).filter goodWord, w ∈ wsX6_requirePrice := fun _ h => List.mem_cons_of_mem _ (List.mem_append_right _ h)
theorem kd_X6_requirePrice : yX6_requirePrice.cls ≠ "java/lang/invoke/MethodHandle" ∧ yX6_requirePrice.cls ≠ "java/lang/invoke/VarHandle" ∧ (parseMethodDescriptor yX6_requirePrice.desc).map (fun d => d.parameters.length) = some 2 := by decide +kernel
abbrev rX6_requirePrice : Room := ({ frames := 6, cells := 1, slots := 6, locals := 92 } : Room)
set_option maxRecDepth 100000 in
set_option maxHeartbeats 4000000 in
/-- requirePrice -/
theorem m_X6_requirePrice (l : Launch) (D : va_G) (cI cC cZ cB cJ : ClassId) (ad : Nat → Nat) (N : Nat) (G : Nat → va_E) (pa pb : Int32) (hl0 : l.stackTraces = false)  : kXv l yX6_requirePrice wsX6_requirePrice rX6_requirePrice D (kT5 cI cC cZ cB cJ) ad N G [.int pa, .int pb] 1 6 (fun G' => jPriceOk pa pb = true ∧ G = G') (fun E G' => E = eIA ∧ jPriceOk pa pb = false ∧ G' = G) := by
  refine kx_startv (cc := cX6_requirePrice) (ret := none) (maxL := 2) (lv0 := [(0, .int pa), (1, .int pb)]) hl0 (by decide) rfl (Nat.le_of_ble_eq_true rfl) rfl ?_
  intro p e s m args below meth c A Q C X hQ
  refine k_iload_n C dX6_requirePrice_0 rfl (j := 0) rfl ?_
  refine k_iconst C (v := 1) dX6_requirePrice_1 (by decide) ?_
  refine k_icmp_lt C 22 dX6_requirePrice_2 (by decide) (fun c_2 => ?_) (fun c_2 => ?_)
  · skip
    exact kx_throwS C X hQ (text := "the price is out of range") kxM_eIA kxF_eIA (by decide +kernel) (List.mem_of_getElem? (i := 1) rfl) (List.mem_of_getElem? (i := 2) rfl) inxX6_requirePrice_115 kxB_eIA kxG_eIA dX6_requirePrice_22 dX6_requirePrice_25 dX6_requirePrice_26 dX6_requirePrice_28 dX6_requirePrice_31 (Nat.le_of_ble_eq_true rfl) (Nat.le_of_ble_eq_true rfl) (Nat.le_of_ble_eq_true rfl) (Nat.le_of_ble_eq_true rfl) (Nat.le_of_ble_eq_true rfl) (Nat.le_of_ble_eq_true rfl) ⟨rfl, by simp [jPriceOk, c_2], rfl⟩
  · skip
    refine k_iload_n C dX6_requirePrice_5 rfl (j := 0) rfl ?_
    refine k_bipush C (v := 100) dX6_requirePrice_6 (by decide) ?_
    refine k_icmp_gt C 22 dX6_requirePrice_8 (by decide) (fun c_8 => ?_) (fun c_8 => ?_)
    · skip
      exact kx_throwS C X hQ (text := "the price is out of range") kxM_eIA kxF_eIA (by decide +kernel) (List.mem_of_getElem? (i := 1) rfl) (List.mem_of_getElem? (i := 2) rfl) inxX6_requirePrice_115 kxB_eIA kxG_eIA dX6_requirePrice_22 dX6_requirePrice_25 dX6_requirePrice_26 dX6_requirePrice_28 dX6_requirePrice_31 (Nat.le_of_ble_eq_true rfl) (Nat.le_of_ble_eq_true rfl) (Nat.le_of_ble_eq_true rfl) (Nat.le_of_ble_eq_true rfl) (Nat.le_of_ble_eq_true rfl) (Nat.le_of_ble_eq_true rfl) ⟨rfl, by simp [jPriceOk, c_2, c_8], rfl⟩
    · skip
      refine k_iload_n C dX6_requirePrice_11 rfl (j := 1) rfl ?_
      refine k_iconst C (v := 1) dX6_requirePrice_12 (by decide) ?_
      refine k_icmp_lt C 22 dX6_requirePrice_13 (by decide) (fun c_13 => ?_) (fun c_13 => ?_)
      · skip
        exact kx_throwS C X hQ (text := "the price is out of range") kxM_eIA kxF_eIA (by decide +kernel) (List.mem_of_getElem? (i := 1) rfl) (List.mem_of_getElem? (i := 2) rfl) inxX6_requirePrice_115 kxB_eIA kxG_eIA dX6_requirePrice_22 dX6_requirePrice_25 dX6_requirePrice_26 dX6_requirePrice_28 dX6_requirePrice_31 (Nat.le_of_ble_eq_true rfl) (Nat.le_of_ble_eq_true rfl) (Nat.le_of_ble_eq_true rfl) (Nat.le_of_ble_eq_true rfl) (Nat.le_of_ble_eq_true rfl) (Nat.le_of_ble_eq_true rfl) ⟨rfl, by simp [jPriceOk, c_2, c_8, c_13], rfl⟩
      · skip
        refine k_iload_n C dX6_requirePrice_16 rfl (j := 1) rfl ?_
        refine k_bipush C (v := 20) dX6_requirePrice_17 (by decide) ?_
        refine k_icmp_le C 32 dX6_requirePrice_19 (by decide) (fun c_19 => ?_) (fun c_19 => ?_)
        · skip
          exact kx_vret C hQ rfl (Nat.le_of_ble_eq_true rfl) (Nat.le_of_ble_eq_true rfl) dX6_requirePrice_32 ⟨by simp [jPriceOk, c_2, c_8, c_13, c_19], rfl⟩
        · skip
          exact kx_throwS C X hQ (text := "the price is out of range") kxM_eIA kxF_eIA (by decide +kernel) (List.mem_of_getElem? (i := 1) rfl) (List.mem_of_getElem? (i := 2) rfl) inxX6_requirePrice_115 kxB_eIA kxG_eIA dX6_requirePrice_22 dX6_requirePrice_25 dX6_requirePrice_26 dX6_requirePrice_28 dX6_requirePrice_31 (Nat.le_of_ble_eq_true rfl) (Nat.le_of_ble_eq_true rfl) (Nat.le_of_ble_eq_true rfl) (Nat.le_of_ble_eq_true rfl) (Nat.le_of_ble_eq_true rfl) (Nat.le_of_ble_eq_true rfl) ⟨rfl, by simp [jPriceOk, c_2, c_8, c_13, c_19], rfl⟩
theorem inxX6_requireStake_115 : ∀ w ∈ (vx_atS RX6 115 eIA kUp).filter goodWord, w ∈ wsX6_requireStake := fun _ h => List.mem_cons_of_mem _ (List.mem_append_right _ h)
theorem kd_X6_requireStake : yX6_requireStake.cls ≠ "java/lang/invoke/MethodHandle" ∧ yX6_requireStake.cls ≠ "java/lang/invoke/VarHandle" ∧ (parseMethodDescriptor yX6_requireStake.desc).map (fun d => d.parameters.length) = some 1 := by decide +kernel
abbrev rX6_requireStake : Room := ({ frames := 6, cells := 1, slots := 6, locals := 92 } : Room)
set_option maxRecDepth 100000 in
set_option maxHeartbeats 4000000 in
/-- requireStake -/
theorem m_X6_requireStake (l : Launch) (D : va_G) (cI cC cZ cB cJ : ClassId) (ad : Nat → Nat) (N : Nat) (G : Nat → va_E) (st : Int32) (hl0 : l.stackTraces = false)  : kXv l yX6_requireStake wsX6_requireStake rX6_requireStake D (kT5 cI cC cZ cB cJ) ad N G [.int st] 1 6 (fun G' => jStakeOk st = true ∧ G = G') (fun E G' => E = eIA ∧ jStakeOk st = false ∧ G' = G) := by
  refine kx_startv (cc := cX6_requireStake) (ret := none) (maxL := 1) (lv0 := [(0, .int st)]) hl0 (by decide) rfl (Nat.le_of_ble_eq_true rfl) rfl ?_
  intro p e s m args below meth c A Q C X hQ
  refine k_iload_n C dX6_requireStake_0 rfl (j := 0) rfl ?_
  refine k_iconst C (v := 1) dX6_requireStake_1 (by decide) ?_
  refine k_icmp_lt C 12 dX6_requireStake_2 (by decide) (fun c_2 => ?_) (fun c_2 => ?_)
  · skip
    exact kx_throwS C X hQ (text := "the stake is out of range") kxM_eIA kxF_eIA (by decide +kernel) (List.mem_of_getElem? (i := 1) rfl) (List.mem_of_getElem? (i := 2) rfl) inxX6_requireStake_115 kxB_eIA kxG_eIA dX6_requireStake_12 dX6_requireStake_15 dX6_requireStake_16 dX6_requireStake_18 dX6_requireStake_21 (Nat.le_of_ble_eq_true rfl) (Nat.le_of_ble_eq_true rfl) (Nat.le_of_ble_eq_true rfl) (Nat.le_of_ble_eq_true rfl) (Nat.le_of_ble_eq_true rfl) (Nat.le_of_ble_eq_true rfl) ⟨rfl, by simp [jStakeOk, c_2], rfl⟩
  · skip
    refine k_iload_n C dX6_requireStake_5 rfl (j := 0) rfl ?_
    refine k_sipush C (v := 9999) dX6_requireStake_6 (by decide) ?_
    refine k_icmp_le C 22 dX6_requireStake_9 (by decide) (fun c_9 => ?_) (fun c_9 => ?_)
    · skip
      exact kx_vret C hQ rfl (Nat.le_of_ble_eq_true rfl) (Nat.le_of_ble_eq_true rfl) dX6_requireStake_22 ⟨by simp [jStakeOk, c_2, c_9], rfl⟩
    · skip
      exact kx_throwS C X hQ (text := "the stake is out of range") kxM_eIA kxF_eIA (by decide +kernel) (List.mem_of_getElem? (i := 1) rfl) (List.mem_of_getElem? (i := 2) rfl) inxX6_requireStake_115 kxB_eIA kxG_eIA dX6_requireStake_12 dX6_requireStake_15 dX6_requireStake_16 dX6_requireStake_18 dX6_requireStake_21 (Nat.le_of_ble_eq_true rfl) (Nat.le_of_ble_eq_true rfl) (Nat.le_of_ble_eq_true rfl) (Nat.le_of_ble_eq_true rfl) (Nat.le_of_ble_eq_true rfl) (Nat.le_of_ble_eq_true rfl) ⟨rfl, by simp [jStakeOk, c_2, c_9], rfl⟩
theorem inxX6_requireProperty_115 : ∀ w ∈ (vx_atS RX6 115 eIA kUp).filter goodWord, w ∈ wsX6_requireProperty := fun _ h => List.mem_cons_of_mem _ (List.mem_append_right _ h)
theorem kd_X6_requireProperty : yX6_requireProperty.cls ≠ "java/lang/invoke/MethodHandle" ∧ yX6_requireProperty.cls ≠ "java/lang/invoke/VarHandle" ∧ (parseMethodDescriptor yX6_requireProperty.desc).map (fun d => d.parameters.length) = some 2 := by decide +kernel
abbrev rX6_requireProperty : Room := ({ frames := 6, cells := 1, slots := 6, locals := 92 } : Room)
set_option maxRecDepth 100000 in
set_option maxHeartbeats 4000000 in
/-- requireProperty -/
theorem m_X6_requireProperty (l : Launch) (D : va_G) (cI cC cZ cB cJ : ClassId) (ad : Nat → Nat) (N : Nat) (G : Nat → va_E) (k0 n0 : Int32) (hl0 : l.stackTraces = false)  : kXv l yX6_requireProperty wsX6_requireProperty rX6_requireProperty D (kT5 cI cC cZ cB cJ) ad N G [.int k0, .int n0] 1 6 (fun G' => jPropOk k0 n0 = true ∧ G = G') (fun E G' => E = eIA ∧ jPropOk k0 n0 = false ∧ G' = G) := by
  refine kx_startv (cc := cX6_requireProperty) (ret := none) (maxL := 2) (lv0 := [(0, .int k0), (1, .int n0)]) hl0 (by decide) rfl (Nat.le_of_ble_eq_true rfl) rfl ?_
  intro p e s m args below meth c A Q C X hQ
  refine k_iload_n C dX6_requireProperty_0 rfl (j := 0) rfl ?_
  refine k_if_lt C 9 dX6_requireProperty_1 (by decide) (fun c_1 => ?_) (fun c_1 => ?_)
  · skip
    exact kx_throwS C X hQ (text := "there is no such property") kxM_eIA kxF_eIA (by decide +kernel) (List.mem_of_getElem? (i := 1) rfl) (List.mem_of_getElem? (i := 2) rfl) inxX6_requireProperty_115 kxB_eIA kxG_eIA dX6_requireProperty_9 dX6_requireProperty_12 dX6_requireProperty_13 dX6_requireProperty_15 dX6_requireProperty_18 (Nat.le_of_ble_eq_true rfl) (Nat.le_of_ble_eq_true rfl) (Nat.le_of_ble_eq_true rfl) (Nat.le_of_ble_eq_true rfl) (Nat.le_of_ble_eq_true rfl) (Nat.le_of_ble_eq_true rfl) ⟨rfl, by simp [jPropOk, c_1], rfl⟩
  · skip
    refine k_iload_n C dX6_requireProperty_4 rfl (j := 0) rfl ?_
    refine k_iload_n C dX6_requireProperty_5 rfl (j := 1) rfl ?_
    refine k_icmp_lt C 19 dX6_requireProperty_6 (by decide) (fun c_6 => ?_) (fun c_6 => ?_)
    · skip
      exact kx_vret C hQ rfl (Nat.le_of_ble_eq_true rfl) (Nat.le_of_ble_eq_true rfl) dX6_requireProperty_19 ⟨by simp [jPropOk, c_1, c_6], rfl⟩
    · skip
      exact kx_throwS C X hQ (text := "there is no such property") kxM_eIA kxF_eIA (by decide +kernel) (List.mem_of_getElem? (i := 1) rfl) (List.mem_of_getElem? (i := 2) rfl) inxX6_requireProperty_115 kxB_eIA kxG_eIA dX6_requireProperty_9 dX6_requireProperty_12 dX6_requireProperty_13 dX6_requireProperty_15 dX6_requireProperty_18 (Nat.le_of_ble_eq_true rfl) (Nat.le_of_ble_eq_true rfl) (Nat.le_of_ble_eq_true rfl) (Nat.le_of_ble_eq_true rfl) (Nat.le_of_ble_eq_true rfl) (Nat.le_of_ble_eq_true rfl) ⟨rfl, by simp [jPropOk, c_1, c_6], rfl⟩
theorem inxX6_requireSetting_261 : ∀ w ∈ (vx_atS RX6 261 eIX kUp).filter goodWord, w ∈ wsX6_requireSetting := fun _ h => List.mem_cons_of_mem _ (List.mem_append_right _ h)
theorem kd_X6_requireSetting : yX6_requireSetting.cls ≠ "java/lang/invoke/MethodHandle" ∧ yX6_requireSetting.cls ≠ "java/lang/invoke/VarHandle" ∧ (parseMethodDescriptor yX6_requireSetting.desc).map (fun d => d.parameters.length) = some 1 := by decide +kernel
abbrev rX6_requireSetting : Room := ({ frames := 6, cells := 1, slots := 6, locals := 92 } : Room)
set_option maxRecDepth 100000 in
set_option maxHeartbeats 4000000 in
/-- requireSetting -/
theorem m_X6_requireSetting (l : Launch) (D : va_G) (cI cC cZ cB cJ : ClassId) (ad : Nat → Nat) (N : Nat) (G : Nat → va_E) (k0 : Int32) (hl0 : l.stackTraces = false)  : kXv l yX6_requireSetting wsX6_requireSetting rX6_requireSetting D (kT5 cI cC cZ cB cJ) ad N G [.int k0] 1 6 (fun G' => jTwoOk k0 = true ∧ G = G') (fun E G' => E = eIX ∧ jTwoOk k0 = false ∧ G' = G) := by
  refine kx_startv (cc := cX6_requireSetting) (ret := none) (maxL := 1) (lv0 := [(0, .int k0)]) hl0 (by decide) rfl (Nat.le_of_ble_eq_true rfl) rfl ?_
  intro p e s m args below meth c A Q C X hQ
  refine k_iload_n C dX6_requireSetting_0 rfl (j := 0) rfl ?_
  refine k_if_lt C 9 dX6_requireSetting_1 (by decide) (fun c_1 => ?_) (fun c_1 => ?_)
  · skip
    exact kx_throwSW C X hQ (text := "there is no such setting") kxM_eIX kxF_eIX (by decide +kernel) (List.mem_of_getElem? (i := 1) rfl) (List.mem_of_getElem? (i := 2) rfl) inxX6_requireSetting_261 kxB_eIX kxG_eIX dX6_requireSetting_9 dX6_requireSetting_12 dX6_requireSetting_13 dX6_requireSetting_16 dX6_requireSetting_19 (Nat.le_of_ble_eq_true rfl) (Nat.le_of_ble_eq_true rfl) (Nat.le_of_ble_eq_true rfl) (Nat.le_of_ble_eq_true rfl) (Nat.le_of_ble_eq_true rfl) (Nat.le_of_ble_eq_true rfl) ⟨rfl, by simp [jTwoOk, c_1], rfl⟩
  · skip
    refine k_iload_n C dX6_requireSetting_4 rfl (j := 0) rfl ?_
    refine k_iconst C (v := 1) dX6_requireSetting_5 (by decide) ?_
    refine k_icmp_le C 20 dX6_requireSetting_6 (by decide) (fun c_6 => ?_) (fun c_6 => ?_)
    · skip
      exact kx_vret C hQ rfl (Nat.le_of_ble_eq_true rfl) (Nat.le_of_ble_eq_true rfl) dX6_requireSetting_20 ⟨by simp [jTwoOk, c_1, c_6], rfl⟩
    · skip
      exact kx_throwSW C X hQ (text := "there is no such setting") kxM_eIX kxF_eIX (by decide +kernel) (List.mem_of_getElem? (i := 1) rfl) (List.mem_of_getElem? (i := 2) rfl) inxX6_requireSetting_261 kxB_eIX kxG_eIX dX6_requireSetting_9 dX6_requireSetting_12 dX6_requireSetting_13 dX6_requireSetting_16 dX6_requireSetting_19 (Nat.le_of_ble_eq_true rfl) (Nat.le_of_ble_eq_true rfl) (Nat.le_of_ble_eq_true rfl) (Nat.le_of_ble_eq_true rfl) (Nat.le_of_ble_eq_true rfl) (Nat.le_of_ble_eq_true rfl) ⟨rfl, by simp [jTwoOk, c_1, c_6], rfl⟩
theorem inxX6_requireSlot_115 : ∀ w ∈ (vx_atS RX6 115 eIA kUp).filter goodWord, w ∈ wsX6_requireSlot := fun _ h => List.mem_cons_of_mem _ (List.mem_append_right _ h)
theorem kd_X6_requireSlot : yX6_requireSlot.cls ≠ "java/lang/invoke/MethodHandle" ∧ yX6_requireSlot.cls ≠ "java/lang/invoke/VarHandle" ∧ (parseMethodDescriptor yX6_requireSlot.desc).map (fun d => d.parameters.length) = some 1 := by decide +kernel
abbrev rX6_requireSlot : Room := ({ frames := 6, cells := 1, slots := 6, locals := 92 } : Room)
set_option maxRecDepth 100000 in
set_option maxHeartbeats 4000000 in
/-- requireSlot -/
theorem m_X6_requireSlot (l : Launch) (D : va_G) (cI cC cZ cB cJ : ClassId) (ad : Nat → Nat) (N : Nat) (G : Nat → va_E) (k0 : Int32) (hl0 : l.stackTraces = false)  : kXv l yX6_requireSlot wsX6_requireSlot rX6_requireSlot D (kT5 cI cC cZ cB cJ) ad N G [.int k0] 1 6 (fun G' => jTwoOk k0 = true ∧ G = G') (fun E G' => E = eIA ∧ jTwoOk k0 = false ∧ G' = G) := by
  refine kx_startv (cc := cX6_requireSlot) (ret := none) (maxL := 1) (lv0 := [(0, .int k0)]) hl0 (by decide) rfl (Nat.le_of_ble_eq_true rfl) rfl ?_
  intro p e s m args below meth c A Q C X hQ
  refine k_iload_n C dX6_requireSlot_0 rfl (j := 0) rfl ?_
  refine k_if_lt C 9 dX6_requireSlot_1 (by decide) (fun c_1 => ?_) (fun c_1 => ?_)
  · skip
    exact kx_throwSW C X hQ (text := "there is no such slot") kxM_eIA kxF_eIA (by decide +kernel) (List.mem_of_getElem? (i := 1) rfl) (List.mem_of_getElem? (i := 2) rfl) inxX6_requireSlot_115 kxB_eIA kxG_eIA dX6_requireSlot_9 dX6_requireSlot_12 dX6_requireSlot_13 dX6_requireSlot_16 dX6_requireSlot_19 (Nat.le_of_ble_eq_true rfl) (Nat.le_of_ble_eq_true rfl) (Nat.le_of_ble_eq_true rfl) (Nat.le_of_ble_eq_true rfl) (Nat.le_of_ble_eq_true rfl) (Nat.le_of_ble_eq_true rfl) ⟨rfl, by simp [jTwoOk, c_1], rfl⟩
  · skip
    refine k_iload_n C dX6_requireSlot_4 rfl (j := 0) rfl ?_
    refine k_iconst C (v := 1) dX6_requireSlot_5 (by decide) ?_
    refine k_icmp_le C 20 dX6_requireSlot_6 (by decide) (fun c_6 => ?_) (fun c_6 => ?_)
    · skip
      exact kx_vret C hQ rfl (Nat.le_of_ble_eq_true rfl) (Nat.le_of_ble_eq_true rfl) dX6_requireSlot_20 ⟨by simp [jTwoOk, c_1, c_6], rfl⟩
    · skip
      exact kx_throwSW C X hQ (text := "there is no such slot") kxM_eIA kxF_eIA (by decide +kernel) (List.mem_of_getElem? (i := 1) rfl) (List.mem_of_getElem? (i := 2) rfl) inxX6_requireSlot_115 kxB_eIA kxG_eIA dX6_requireSlot_9 dX6_requireSlot_12 dX6_requireSlot_13 dX6_requireSlot_16 dX6_requireSlot_19 (Nat.le_of_ble_eq_true rfl) (Nat.le_of_ble_eq_true rfl) (Nat.le_of_ble_eq_true rfl) (Nat.le_of_ble_eq_true rfl) (Nat.le_of_ble_eq_true rfl) (Nat.le_of_ble_eq_true rfl) ⟨rfl, by simp [jTwoOk, c_1, c_6], rfl⟩
theorem inX6_requireRow_4 : ∀ w ∈ wsX40, w ∈ wsX6_requireRow := fun _ h => List.mem_cons_of_mem _ (List.mem_append_left _ (List.mem_append_right _ h))
theorem inxX6_requireRow_261 : ∀ w ∈ (vx_atS RX6 261 eIX kUp).filter goodWord, w ∈ wsX6_requireRow := fun _ h => List.mem_cons_of_mem _ (List.mem_append_right _ h)
theorem kd_X6_requireRow : yX6_requireRow.cls ≠ "java/lang/invoke/MethodHandle" ∧ yX6_requireRow.cls ≠ "java/lang/invoke/VarHandle" ∧ (parseMethodDescriptor yX6_requireRow.desc).map (fun d => d.parameters.length) = some 2 := by decide +kernel
abbrev rX6_requireRow : Room := ({ frames := 6, cells := 1, slots := 6, locals := 92 } : Room)
set_option maxRecDepth 100000 in
set_option maxHeartbeats 4000000 in
/-- requireRow -/
theorem m_X6_requireRow (l : Launch) (D : va_G) (cI cC cZ cB cJ : ClassId) (ad : Nat → Nat) (N : Nat) (G : Nat → va_E) (t tc : Nat) (cols n : Int32) (len : Nat) (f : Nat → Int32) (row : Int32) (hl0 : l.stackTraces = false) (hNt : t < N) (hNc : tc < N) (ht : G t = .inr (4, [.int cols, .ref (ad tc), .int n])) (htc : G tc = .inl (cI, len, .inl f)) (hlen : len < 2 ^ 31) : kXv l yX6_requireRow wsX6_requireRow rX6_requireRow D (kT5 cI cC cZ cB cJ) ad N G [.ref (ad t), .int row] 1 6 (fun G' => tHas n row = true ∧ G = G') (fun E G' => E = eIX ∧ tHas n row = false ∧ G' = G) := by
  refine kx_startv (cc := cX6_requireRow) (ret := none) (maxL := 2) (lv0 := [(0, .ref (ad t)), (1, .int row)]) hl0 (by decide) rfl (Nat.le_of_ble_eq_true rfl) rfl ?_
  intro p e s m args below meth c A Q C X hQ
  refine k_aload_n C dX6_requireRow_0 rfl (j := 0) rfl ?_
  refine k_iload_n C dX6_requireRow_1 rfl (j := 1) rfl ?_
  refine k_callVir C (As := [.int row]) (rest := []) t (m_X4_has l D cI cC cZ cB cJ ad N G t tc cols n len f row hNt hNc ht htc hlen) gX6_requireRow_X4_has rfl kd_X4_has rfl rfl ⟨Nat.le_of_ble_eq_true rfl, Nat.le_of_ble_eq_true rfl⟩ hNt ht rfl rfl rfl (Nat.le_of_ble_eq_true rfl) ⟨(Nat.le_of_ble_eq_true rfl), (Nat.le_of_ble_eq_true rfl)⟩ dX6_requireRow_2 ?_
  refine k_if_ne C 19 dX6_requireRow_5 (by decide) (fun c_5 => ?_) (fun c_5 => ?_)
  · skip
    exact kx_vret C hQ rfl (Nat.le_of_ble_eq_true rfl) (Nat.le_of_ble_eq_true rfl) dX6_requireRow_19 ⟨bI_t c_5, rfl⟩
  · skip
    exact kx_throwSW C X hQ (text := "there is no such number") kxM_eIX kxF_eIX (by decide +kernel) (List.mem_of_getElem? (i := 1) rfl) (List.mem_of_getElem? (i := 2) rfl) inxX6_requireRow_261 kxB_eIX kxG_eIX dX6_requireRow_8 dX6_requireRow_11 dX6_requireRow_12 dX6_requireRow_15 dX6_requireRow_18 (Nat.le_of_ble_eq_true rfl) (Nat.le_of_ble_eq_true rfl) (Nat.le_of_ble_eq_true rfl) (Nat.le_of_ble_eq_true rfl) (Nat.le_of_ble_eq_true rfl) (Nat.le_of_ble_eq_true rfl) ⟨rfl, bI_f c_5, rfl⟩
theorem inX6_requireRoom_4 : ∀ w ∈ wsX40, w ∈ wsX6_requireRoom := fun _ h => List.mem_cons_of_mem _ (List.mem_append_left _ (List.mem_append_right _ h))
theorem inxX6_requireRoom_157 : ∀ w ∈ (vx_atS RX6 157 eIS kUp).filter goodWord, w ∈ wsX6_requireRoom := fun _ h => List.mem_cons_of_mem _ (List.mem_append_right _ h)
theorem kd_X6_requireRoom : yX6_requireRoom.cls ≠ "java/lang/invoke/MethodHandle" ∧ yX6_requireRoom.cls ≠ "java/lang/invoke/VarHandle" ∧ (parseMethodDescriptor yX6_requireRoom.desc).map (fun d => d.parameters.length) = some 1 := by decide +kernel
abbrev rX6_requireRoom : Room := ({ frames := 6, cells := 1, slots := 6, locals := 92 } : Room)
set_option maxRecDepth 100000 in
set_option maxHeartbeats 4000000 in
/-- requireRoom -/
theorem m_X6_requireRoom (l : Launch) (D : va_G) (cI cC cZ cB cJ : ClassId) (ad : Nat → Nat) (N : Nat) (G : Nat → va_E) (t tc : Nat) (cols n : Int32) (len : Nat) (f : Nat → Int32) (hl0 : l.stackTraces = false) (hNt : t < N) (hNc : tc < N) (ht : G t = .inr (4, [.int cols, .ref (ad tc), .int n])) (htc : G tc = .inl (cI, len, .inl f)) (hlen : len < 2 ^ 31) : kXv l yX6_requireRoom wsX6_requireRoom rX6_requireRoom D (kT5 cI cC cZ cB cJ) ad N G [.ref (ad t)] 1 6 (fun G' => tFull len cols n = false ∧ G = G') (fun E G' => E = eIS ∧ tFull len cols n = true ∧ G' = G) := by
  refine kx_startv (cc := cX6_requireRoom) (ret := none) (maxL := 1) (lv0 := [(0, .ref (ad t))]) hl0 (by decide) rfl (Nat.le_of_ble_eq_true rfl) rfl ?_
  intro p e s m args below meth c A Q C X hQ
  refine k_aload_n C dX6_requireRoom_0 rfl (j := 0) rfl ?_
  refine k_callVir C (As := []) (rest := []) t (m_X4_isFull l D cI cC cZ cB cJ ad N G t tc cols n len f hNt hNc ht htc hlen) gX6_requireRoom_X4_isFull rfl kd_X4_isFull rfl rfl ⟨Nat.le_of_ble_eq_true rfl, Nat.le_of_ble_eq_true rfl⟩ hNt ht rfl rfl rfl (Nat.le_of_ble_eq_true rfl) ⟨(Nat.le_of_ble_eq_true rfl), (Nat.le_of_ble_eq_true rfl)⟩ dX6_requireRoom_1 ?_
  refine k_if_eq C 18 dX6_requireRoom_4 (by decide) (fun c_4 => ?_) (fun c_4 => ?_)
  · skip
    exact kx_vret C hQ rfl (Nat.le_of_ble_eq_true rfl) (Nat.le_of_ble_eq_true rfl) dX6_requireRoom_18 ⟨bI_f c_4, rfl⟩
  · skip
    exact kx_throwSW C X hQ (text := "there is no room for one more") kxM_eIS kxF_eIS (by decide +kernel) (List.mem_of_getElem? (i := 1) rfl) (List.mem_of_getElem? (i := 2) rfl) inxX6_requireRoom_157 kxB_eIS kxG_eIS dX6_requireRoom_7 dX6_requireRoom_10 dX6_requireRoom_11 dX6_requireRoom_14 dX6_requireRoom_17 (Nat.le_of_ble_eq_true rfl) (Nat.le_of_ble_eq_true rfl) (Nat.le_of_ble_eq_true rfl) (Nat.le_of_ble_eq_true rfl) (Nat.le_of_ble_eq_true rfl) (Nat.le_of_ble_eq_true rfl) ⟨rfl, bI_t c_4, rfl⟩
theorem inX6_requireHorse_6 : ∀ w ∈ wsX60, w ∈ wsX6_requireHorse := fun _ h => List.mem_cons_of_mem _ (List.mem_append_left _ (List.mem_append_left _ (List.mem_append_left _ (List.mem_append_right _ h))))
theorem inX6_requireHorse_1 : ∀ w ∈ wsX10, w ∈ wsX6_requireHorse := fun _ h => List.mem_cons_of_mem _ (List.mem_append_left _ (List.mem_append_left _ (List.mem_append_right _ h)))
theorem inX6_requireHorse_4 : ∀ w ∈ wsX40, w ∈ wsX6_requireHorse := fun _ h => List.mem_cons_of_mem _ (List.mem_append_left _ (List.mem_append_right _ h))
theorem inxX6_requireHorse_261 : ∀ w ∈ (vx_atS RX6 261 eIX kUp).filter goodWord, w ∈ wsX6_requireHorse := fun _ h => List.mem_cons_of_mem _ (List.mem_append_right _ h)
theorem kd_X6_requireHorse : yX6_requireHorse.cls = RX6 ∧ yX6_requireHorse.cls ≠ "java/lang/invoke/MethodHandle" ∧ yX6_requireHorse.cls ≠ "java/lang/invoke/VarHandle" ∧ (parseMethodDescriptor yX6_requireHorse.desc).map (fun d => d.parameters.length) = some 1 := by decide +kernel
abbrev rX6_requireHorse : Room := ({ frames := 7, cells := 1, slots := 6, locals := 113 } : Room)
set_option maxRecDepth 100000 in
set_option maxHeartbeats 4000000 in
/-- requireHorse -/
theorem m_X6_requireHorse (l : Launch) (D : va_G) (cI cC cZ cB cJ : ClassId) (ad : Nat → Nat) (N : Nat) (G : Nat → va_E) (v : BV) (w : AV) (x : TV) (hi : HV) (z0 z1 : ZV) (h : Int32) (hl0 : l.stackTraces = false) (hN : 73 ≤ N) (hF : isFB ad cI cB G v w x hi z0 z1) : kXv l yX6_requireHorse wsX6_requireHorse rX6_requireHorse D (kT5 cI cC cZ cB cJ) ad N G [.ref (ad 0), .int h] 1 6 (fun G' => tHas (nI (bnH v)) h = true ∧ G = G') (fun E G' => E = eIX ∧ tHas (nI (bnH v)) h = false ∧ G' = G) := by
  refine kx_startv (cc := cX6_requireHorse) (ret := none) (maxL := 2) (lv0 := [(0, .ref (ad 0)), (1, .int h)]) hl0 (by decide) rfl (Nat.le_of_ble_eq_true rfl) rfl ?_
  intro p e s m args below meth c A Q C X hQ
  have hlH := hF.2.1.2.2.2.2.1
  have hlB := hF.2.1.2.2.2.2.2.1
  have hlL := hF.2.1.2.2.2.2.2.2
  have hlX := hF.2.2.2.1.2.2
  have hlN := hF.2.2.2.2.1.2.2.2.1
  have hlZ := hF.2.2.2.2.1.2.2.2.2
  refine k_aload_n C dX6_requireHorse_0 rfl (j := 0) rfl ?_
  refine k_get C 0 inX6_requireHorse_6 (by omega) hF.1 rfl 0 (by decide) (List.mem_of_getElem? (i := 1) rfl) rfl rfl dX6_requireHorse_1 ?_
  refine k_get C 1 inX6_requireHorse_1 (by omega) hF.2.1.1 rfl 0 (by decide) (List.mem_of_getElem? (i := 2) rfl) rfl rfl dX6_requireHorse_4 ?_
  refine k_iload_n C dX6_requireHorse_7 rfl (j := 1) rfl ?_
  refine kx_callSv C X hQ (As := [.ref (ad (2)), .int h]) (rest := []) (m_X6_requireRow l D cI cC cZ cB cJ ad N G 2 3 9 (nI (bnH v)) 90 (bvh v) h hl0 (by omega) (by omega) hF.2.1.2.1.1 hF.2.1.2.1.2 (Nat.le_of_ble_eq_true rfl)) (fun E G' h9 => h9) gX6_requireHorse_X6_requireRow rfl kd_X6_requireRow rfl rfl ⟨(Nat.le_of_ble_eq_true rfl), (Nat.le_of_ble_eq_true rfl)⟩ rfl rfl (Nat.le_of_ble_eq_true rfl) ⟨(Nat.le_of_ble_eq_true rfl), (Nat.le_of_ble_eq_true rfl)⟩ (Nat.le_of_ble_eq_true rfl) (Nat.le_of_ble_eq_true rfl) dX6_requireHorse_8 (fun G1 hG1 => ?_)
  have hq_11 := hG1.1
  have e_G1 := hG1.2
  subst e_G1
  exact kx_vret C hQ rfl (Nat.le_of_ble_eq_true rfl) (Nat.le_of_ble_eq_true rfl) dX6_requireHorse_11 ⟨hq_11, rfl⟩
theorem inX6_requireRunning_6 : ∀ w ∈ wsX60, w ∈ wsX6_requireRunning := fun _ h => List.mem_cons_of_mem _ (List.mem_append_left _ (List.mem_append_left _ (List.mem_append_left _ (List.mem_append_right _ h))))
theorem inX6_requireRunning_1 : ∀ w ∈ wsX10, w ∈ wsX6_requireRunning := fun _ h => List.mem_cons_of_mem _ (List.mem_append_left _ (List.mem_append_left _ (List.mem_append_right _ h)))
theorem inX6_requireRunning_4 : ∀ w ∈ wsX40, w ∈ wsX6_requireRunning := fun _ h => List.mem_cons_of_mem _ (List.mem_append_left _ (List.mem_append_right _ h))
theorem inxX6_requireRunning_157 : ∀ w ∈ (vx_atS RX6 157 eIS kUp).filter goodWord, w ∈ wsX6_requireRunning := fun _ h => List.mem_cons_of_mem _ (List.mem_append_right _ h)
theorem kd_X6_requireRunning : yX6_requireRunning.cls = RX6 ∧ yX6_requireRunning.cls ≠ "java/lang/invoke/MethodHandle" ∧ yX6_requireRunning.cls ≠ "java/lang/invoke/VarHandle" ∧ (parseMethodDescriptor yX6_requireRunning.desc).map (fun d => d.parameters.length) = some 1 := by decide +kernel
abbrev rX6_requireRunning : Room := ({ frames := 6, cells := 1, slots := 6, locals := 92 } : Room)
set_option maxRecDepth 100000 in
set_option maxHeartbeats 4000000 in
/-- requireRunning -/
theorem m_X6_requireRunning (l : Launch) (D : va_G) (cI cC cZ cB cJ : ClassId) (ad : Nat → Nat) (N : Nat) (G : Nat → va_E) (v : BV) (w : AV) (x : TV) (hi : HV) (z0 z1 : ZV) (h : Int32) (hl0 : l.stackTraces = false) (hN : 73 ≤ N) (hF : isFB ad cI cB G v w x hi z0 z1) : kXv l yX6_requireRunning wsX6_requireRunning rX6_requireRunning D (kT5 cI cC cZ cB cJ) ad N G [.ref (ad 0), .int h] 1 6 (fun G' => jRuns v h = true ∧ G = G') (fun E G' => E = eIS ∧ jRuns v h = false ∧ G' = G) := by
  refine kx_startv (cc := cX6_requireRunning) (ret := none) (maxL := 2) (lv0 := [(0, .ref (ad 0)), (1, .int h)]) hl0 (by decide) rfl (Nat.le_of_ble_eq_true rfl) rfl ?_
  intro p e s m args below meth c A Q C X hQ
  have hlH := hF.2.1.2.2.2.2.1
  have hlB := hF.2.1.2.2.2.2.2.1
  have hlL := hF.2.1.2.2.2.2.2.2
  have hlX := hF.2.2.2.1.2.2
  have hlN := hF.2.2.2.2.1.2.2.2.1
  have hlZ := hF.2.2.2.2.1.2.2.2.2
  refine k_aload_n C dX6_requireRunning_0 rfl (j := 0) rfl ?_
  refine k_get C 0 inX6_requireRunning_6 (by omega) hF.1 rfl 0 (by decide) (List.mem_of_getElem? (i := 3) rfl) rfl rfl dX6_requireRunning_1 ?_
  refine k_iload_n C dX6_requireRunning_4 rfl (j := 1) rfl ?_
  refine k_callVir C (As := [.int h]) (rest := []) 1 (m_X1_runs l D cI cC cZ cB cJ ad N G 1 v h (by omega) hF.2.1) gX6_requireRunning_X1_runs rfl kd_X1_runs rfl rfl ⟨Nat.le_of_ble_eq_true rfl, Nat.le_of_ble_eq_true rfl⟩ (by omega) hF.2.1.1 rfl rfl rfl (Nat.le_of_ble_eq_true rfl) ⟨(Nat.le_of_ble_eq_true rfl), (Nat.le_of_ble_eq_true rfl)⟩ dX6_requireRunning_5 ?_
  refine k_if_ne C 22 dX6_requireRunning_8 (by decide) (fun c_8 => ?_) (fun c_8 => ?_)
  · skip
    exact kx_vret C hQ rfl (Nat.le_of_ble_eq_true rfl) (Nat.le_of_ble_eq_true rfl) dX6_requireRunning_22 ⟨bI_t c_8, rfl⟩
  · skip
    exact kx_throwSW C X hQ (text := "the horse is withdrawn") kxM_eIS kxF_eIS (by decide +kernel) (List.mem_of_getElem? (i := 1) rfl) (List.mem_of_getElem? (i := 2) rfl) inxX6_requireRunning_157 kxB_eIS kxG_eIS dX6_requireRunning_11 dX6_requireRunning_14 dX6_requireRunning_15 dX6_requireRunning_18 dX6_requireRunning_21 (Nat.le_of_ble_eq_true rfl) (Nat.le_of_ble_eq_true rfl) (Nat.le_of_ble_eq_true rfl) (Nat.le_of_ble_eq_true rfl) (Nat.le_of_ble_eq_true rfl) (Nat.le_of_ble_eq_true rfl) ⟨rfl, bI_f c_8, rfl⟩
theorem inX6_requireOpen_6 : ∀ w ∈ wsX60, w ∈ wsX6_requireOpen := fun _ h => List.mem_cons_of_mem _ (List.mem_append_left _ (List.mem_append_left _ (List.mem_append_right _ h)))
theorem inX6_requireOpen_1 : ∀ w ∈ wsX10, w ∈ wsX6_requireOpen := fun _ h => List.mem_cons_of_mem _ (List.mem_append_left _ (List.mem_append_right _ h))
theorem inxX6_requireOpen_157 : ∀ w ∈ (vx_atS RX6 157 eIS kUp).filter goodWord, w ∈ wsX6_requireOpen := fun _ h => List.mem_cons_of_mem _ (List.mem_append_right _ h)
theorem kd_X6_requireOpen : yX6_requireOpen.cls = RX6 ∧ yX6_requireOpen.cls ≠ "java/lang/invoke/MethodHandle" ∧ yX6_requireOpen.cls ≠ "java/lang/invoke/VarHandle" ∧ (parseMethodDescriptor yX6_requireOpen.desc).map (fun d => d.parameters.length) = some 0 := by decide +kernel
abbrev rX6_requireOpen : Room := ({ frames := 6, cells := 1, slots := 6, locals := 92 } : Room)
set_option maxRecDepth 100000 in
set_option maxHeartbeats 4000000 in
/-- requireOpen -/
theorem m_X6_requireOpen (l : Launch) (D : va_G) (cI cC cZ cB cJ : ClassId) (ad : Nat → Nat) (N : Nat) (G : Nat → va_E) (v : BV) (w : AV) (x : TV) (hi : HV) (z0 z1 : ZV) (hl0 : l.stackTraces = false) (hN : 73 ≤ N) (hF : isFB ad cI cB G v w x hi z0 z1) : kXv l yX6_requireOpen wsX6_requireOpen rX6_requireOpen D (kT5 cI cC cZ cB cJ) ad N G [.ref (ad 0)] 1 6 (fun G' => bvS v = false ∧ G = G') (fun E G' => E = eIS ∧ bvS v = true ∧ G' = G) := by
  refine kx_startv (cc := cX6_requireOpen) (ret := none) (maxL := 1) (lv0 := [(0, .ref (ad 0))]) hl0 (by decide) rfl (Nat.le_of_ble_eq_true rfl) rfl ?_
  intro p e s m args below meth c A Q C X hQ
  have hlH := hF.2.1.2.2.2.2.1
  have hlB := hF.2.1.2.2.2.2.2.1
  have hlL := hF.2.1.2.2.2.2.2.2
  have hlX := hF.2.2.2.1.2.2
  have hlN := hF.2.2.2.2.1.2.2.2.1
  have hlZ := hF.2.2.2.2.1.2.2.2.2
  refine k_aload_n C dX6_requireOpen_0 rfl (j := 0) rfl ?_
  refine k_get C 0 inX6_requireOpen_6 (by omega) hF.1 rfl 0 (by decide) (List.mem_of_getElem? (i := 3) rfl) rfl rfl dX6_requireOpen_1 ?_
  refine k_get C 1 inX6_requireOpen_1 (by omega) hF.2.1.1 rfl 3 (by decide) (List.mem_of_getElem? (i := 4) rfl) rfl rfl dX6_requireOpen_4 ?_
  refine k_if_eq C 21 dX6_requireOpen_7 (by decide) (fun c_7 => ?_) (fun c_7 => ?_)
  · skip
    exact kx_vret C hQ rfl (Nat.le_of_ble_eq_true rfl) (Nat.le_of_ble_eq_true rfl) dX6_requireOpen_21 ⟨bI_f c_7, rfl⟩
  · skip
    exact kx_throwSW C X hQ (text := "the race is settled") kxM_eIS kxF_eIS (by decide +kernel) (List.mem_of_getElem? (i := 1) rfl) (List.mem_of_getElem? (i := 2) rfl) inxX6_requireOpen_157 kxB_eIS kxG_eIS dX6_requireOpen_10 dX6_requireOpen_13 dX6_requireOpen_14 dX6_requireOpen_17 dX6_requireOpen_20 (Nat.le_of_ble_eq_true rfl) (Nat.le_of_ble_eq_true rfl) (Nat.le_of_ble_eq_true rfl) (Nat.le_of_ble_eq_true rfl) (Nat.le_of_ble_eq_true rfl) (Nat.le_of_ble_eq_true rfl) ⟨rfl, bI_t c_7, rfl⟩
