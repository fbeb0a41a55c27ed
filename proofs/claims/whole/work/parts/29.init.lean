theorem up_up {α : Type} {f : Nat → α} {k : Nat} {v w : α} : va_up (va_up f k v) k w = va_up f k w := by
  funext j
  by_cases h : j = k
  · subst h; rw [up_same, up_same]
  · rw [up_ne h, up_ne h, up_ne h]
theorem inX4_init_4 : ∀ w ∈ wsX40, w ∈ wsX4_init := fun _ h => List.mem_cons_of_mem _ (List.mem_append_right _ h)
theorem kd_X4_init : yX4_init.cls ≠ "java/lang/invoke/MethodHandle" ∧ yX4_init.cls ≠ "java/lang/invoke/VarHandle" ∧ (parseMethodDescriptor yX4_init.desc).map (fun d => d.parameters.length) = some 2 := by decide +kernel
abbrev rX4_init : Room := ({ frames := 1, cells := 0, slots := 0, locals := 20 } : Room)
set_option maxRecDepth 100000 in
set_option maxHeartbeats 8000000 in
/-- Table(columns, cells) -/
theorem m_X4_init (l : Launch) (D : va_G) (cI cC cZ cB cJ : ClassId) (ad : Nat → Nat) (N : Nat) (G : Nat → va_E) (tb ta : Nat) (x : Int32) (hN : tb < N) (hG0 : G tb = .inr (4, [.int 0, .null, .int 0])) : kNv l yX4_init wsX4_init rX4_init D (kT5 cI cC cZ cB cJ) ad N G [.ref (ad tb), .int (x), .ref (ad ta)] N 0 0 (fun ad' G' => ad' = ad ∧ G' = va_up G tb (.inr (4, [.int x, .ref (ad ta), .int 0]))) := by
  refine kn_start (cc := cX4_init) (ret := none) (maxL := 3) (lv0 := [(0, .ref (ad tb)), (1, .int (x)), (2, .ref (ad ta))]) (by decide) rfl rfl (Nat.le_of_ble_eq_true rfl) rfl ?_
  intro p e s m args below meth c A Q C hnI hAO hQ
  refine k_aload_n C dX4_init_0 rfl (j := 0) rfl ?_
  refine kn_obj C (List.mem_of_getElem? (i := 1) rfl) (List.mem_of_getElem? (i := 2) rfl) (List.mem_of_getElem? (i := 3) rfl) (Nat.le_of_ble_eq_true rfl) (Nat.le_of_ble_eq_true rfl) dX4_init_1 ?_
  refine k_aload_n C dX4_init_4 rfl (j := 0) rfl ?_
  refine k_iload_n C dX4_init_5 rfl (j := 1) rfl ?_
  refine k_putF C (tb) inX4_init_4 tyX4 tyX4_ok nmX4 (by omega) hG0 rfl 0 (by decide) (List.mem_of_getElem? (i := 4) rfl) rfl rfl hnI rfl rfl rfl (Nat.le_of_ble_eq_true rfl) dX4_init_6 (fun G1 hG2 => ?_)
  have h_tb_G1 : G1 (tb) = .inr (4, [.int (x), .null, .int (0)]) := up_it hG2
  refine k_aload_n C dX4_init_9 rfl (j := 0) rfl ?_
  refine k_aload_n C dX4_init_10 rfl (j := 2) rfl ?_
  refine k_putF C (tb) inX4_init_4 tyX4 tyX4_ok nmX4 (by omega) h_tb_G1 rfl 1 (by decide) (List.mem_of_getElem? (i := 5) rfl) rfl rfl hnI rfl rfl rfl (Nat.le_of_ble_eq_true rfl) dX4_init_11 (fun G3 hG4 => ?_)
  have h_tb_G3 : G3 (tb) = .inr (4, [.int (x), .ref (ad ta), .int (0)]) := up_it hG4
  exact kn_ret C (post := fun ad' G' => ad' = ad ∧ G' = va_up G tb (.inr (4, [.int x, .ref (ad ta), .int 0]))) hQ rfl rfl (Nat.le_of_ble_eq_true rfl) (Nat.le_of_ble_eq_true rfl) dX4_init_14 ⟨rfl, by rw [hG4, hG2, up_up]; rfl⟩
theorem inX1_init_4 : ∀ w ∈ wsX40, w ∈ wsX1_init := fun _ h => List.mem_cons_of_mem _ (List.mem_append_left _ (List.mem_append_right _ h))
theorem inX1_init_1 : ∀ w ∈ wsX10, w ∈ wsX1_init := fun _ h => List.mem_cons_of_mem _ (List.mem_append_right _ h)
theorem kd_X1_init : yX1_init.cls ≠ "java/lang/invoke/MethodHandle" ∧ yX1_init.cls ≠ "java/lang/invoke/VarHandle" ∧ (parseMethodDescriptor yX1_init.desc).map (fun d => d.parameters.length) = some 0 := by decide +kernel
abbrev rX1_init : Room := ({ frames := 2, cells := 6, slots := 321, locals := 42 } : Room)
set_option maxRecDepth 100000 in
set_option maxHeartbeats 8000000 in
/-- Book() -/
theorem m_X1_init (l : Launch) (D : va_G) (cI cC cZ cB cJ : ClassId) (ad : Nat → Nat) (b : Nat) (G : Nat → va_E) (hG0 : G b = .inr (1, [.null, .null, .null, .int 0, .int 0, .int 0])) : kNv l yX1_init wsX1_init rX1_init D (kT5 cI cC cZ cB cJ) ad (b + 1) G [.ref (ad b)] (b + 7) 6 321 (fun ad' G' => (∀ i, i < b + 1 → ad' i = ad i) ∧ isBk ad' cI G' b bk0 ∧ ∀ j, j < b → G' j = G j) := by
  refine kn_start (cc := cX1_init) (ret := none) (maxL := 1) (lv0 := [(0, .ref (ad b))]) (by decide) rfl rfl (Nat.le_of_ble_eq_true rfl) rfl ?_
  intro p e s m args below meth c A Q C hnI hAO hQ
  refine k_aload_n C dX1_init_0 rfl (j := 0) rfl ?_
  refine kn_obj C (List.mem_of_getElem? (i := 1) rfl) (List.mem_of_getElem? (i := 2) rfl) (List.mem_of_getElem? (i := 3) rfl) (Nat.le_of_ble_eq_true rfl) (Nat.le_of_ble_eq_true rfl) dX1_init_1 ?_
  refine k_aload_n C dX1_init_4 rfl (j := 0) rfl ?_
  refine kn_new C (ci := 4) (fs := [.int (0), .null, .int (0)]) (Nf := 3) inX1_init_4 tyX4 tyX4_ok (List.mem_of_getElem? (i := 4) rfl) (List.mem_of_getElem? (i := 5) rfl) (List.mem_of_getElem? (i := 6) rfl) rfl (by decide +kernel) (Nat.le_of_ble_eq_true rfl) (Nat.le_of_ble_eq_true rfl) dX1_init_5 (fun ad1 G2 hx3 hG4 C5 => ?_)
  have h_b_G2 : G2 (b) = .inr (1, [.null, .null, .null, .int (0), .int (0), .int (0)]) := by rw [hG4, up_ne (by omega)]; exact hG0
  have h_b___1_G2 : G2 (b + 1) = .inr (4, [.int (0), .null, .int (0)]) := by rw [hG4]; exact up_same
  refine k_cong (lv' := [(0, .ref (ad1 b))]) (by rw [hx3 (b) (by omega)]) ?_
  refine k_congS (st' := [.ref (ad1 (b + 1)), .ref (ad1 b)]) (by rw [hx3 (b) (by omega)]) ?_
  refine k_dup C5 dX1_init_8 rfl ?_
  refine k_bipush C5 (v := 9) dX1_init_9 (by decide) ?_
  refine k_bipush C5 (v := 90) dX1_init_11 (by decide) ?_
  refine kn_newa C5 (atype := .int) (ty := .int) (c0 := cI) (N' := 90) (a0 := (90, .inl zF)) 0 rfl rfl (List.mem_of_getElem? (i := 7) rfl) (fun _ => rfl) (by decide) (by decide) (Nat.le_of_ble_eq_true rfl) (Nat.le_of_ble_eq_true rfl) (Nat.le_of_ble_eq_true rfl) dX1_init_13 (fun ad6 G7 hx8 hG9 C10 => ?_)
  have h_b_G7 : G7 (b) = .inr (1, [.null, .null, .null, .int (0), .int (0), .int (0)]) := by rw [hG9, up_ne (by omega)]; exact h_b_G2
  have h_b___1_G7 : G7 (b + 1) = .inr (4, [.int (0), .null, .int (0)]) := by rw [hG9, up_ne (by omega)]; exact h_b___1_G2
  have h_b___2_G7 : G7 (b + 2) = .inl (cI, 90, .inl zF) := by rw [hG9]; exact up_same
  refine k_cong (lv' := [(0, .ref (ad6 b))]) (by rw [hx8 (b) (by omega)]) ?_
  refine k_congS (st' := [.ref (ad6 (b + 2)), .int (9), .ref (ad6 (b + 1)), .ref (ad6 (b + 1)), .ref (ad6 b)]) (by rw [hx8 (b) (by omega), hx8 (b + 1) (by omega)]) ?_
  refine kn_call C10 hAO (As := [.int (9), .ref (ad6 (b + 2))]) (rest := [.ref (ad6 (b + 1)), .ref (ad6 b)]) (m_X4_init l D cI cC cZ cB cJ ad6 _ G7 (b + 1) (b + 2) 9 (by omega) h_b___1_G7) gX1_init_X4_init rfl (List.mem_of_getElem? (i := 6) rfl) (List.mem_of_getElem? (i := 13) rfl) (List.mem_of_getElem? (i := 14) rfl) rfl kd_X4_init rfl rfl ⟨(Nat.le_of_ble_eq_true rfl), (Nat.le_of_ble_eq_true rfl)⟩ rfl rfl (Nat.le_of_ble_eq_true rfl) ⟨(Nat.le_of_ble_eq_true rfl), (Nat.le_of_ble_eq_true rfl)⟩ dX1_init_15 (fun ad11 G12 hp13 C14 => ?_)
  obtain ⟨e_hp13, hg_hp13⟩ := hp13
  subst e_hp13
  have h_b_G12 : G12 (b) = .inr (1, [.null, .null, .null, .int (0), .int (0), .int (0)]) := up_at hg_hp13 h_b_G7 (by omega)
  have h_b___2_G12 : G12 (b + 2) = .inl (cI, 90, .inl zF) := up_at hg_hp13 h_b___2_G7 (by omega)
  have h_b___1_G12 : G12 (b + 1) = .inr (4, [.int (9), .ref (ad11 (b + 2)), .int (0)]) := up_it hg_hp13
  refine k_putF C14 (b) inX1_init_1 tyX1 tyX1_ok nmX1 (by omega) h_b_G12 rfl 0 (by decide) (List.mem_of_getElem? (i := 8) rfl) rfl rfl hnI rfl rfl rfl (Nat.le_of_ble_eq_true rfl) dX1_init_18 (fun G15 hG16 => ?_)
  have h_b___2_G15 : G15 (b + 2) = .inl (cI, 90, .inl zF) := up_at hG16 h_b___2_G12 (by omega)
  have h_b___1_G15 : G15 (b + 1) = .inr (4, [.int (9), .ref (ad11 (b + 2)), .int (0)]) := up_at hG16 h_b___1_G12 (by omega)
  have h_b_G15 : G15 (b) = .inr (1, [.ref (ad11 (b + 1)), .null, .null, .int (0), .int (0), .int (0)]) := up_it hG16
  refine k_aload_n C14 dX1_init_21 rfl (j := 0) rfl ?_
  refine kn_new C14 (ci := 4) (fs := [.int (0), .null, .int (0)]) (Nf := 3) inX1_init_4 tyX4 tyX4_ok (List.mem_of_getElem? (i := 4) rfl) (List.mem_of_getElem? (i := 5) rfl) (List.mem_of_getElem? (i := 6) rfl) rfl (by decide +kernel) (Nat.le_of_ble_eq_true rfl) (Nat.le_of_ble_eq_true rfl) dX1_init_22 (fun ad17 G18 hx19 hG20 C21 => ?_)
  have h_b___2_G18 : G18 (b + 2) = .inl (cI, 90, .inl zF) := by rw [hG20, up_ne (by omega)]; exact h_b___2_G15
  have h_b___1_G18 : G18 (b + 1) = .inr (4, [.int (9), .ref (ad17 (b + 2)), .int (0)]) := by rw [hG20, up_ne (by omega), hx19 (b + 2) (by omega)]; exact h_b___1_G15
  have h_b_G18 : G18 (b) = .inr (1, [.ref (ad17 (b + 1)), .null, .null, .int (0), .int (0), .int (0)]) := by rw [hG20, up_ne (by omega), hx19 (b + 1) (by omega)]; exact h_b_G15
  have h_b___3_G18 : G18 (b + 3) = .inr (4, [.int (0), .null, .int (0)]) := by rw [hG20]; exact up_same
  refine k_cong (lv' := [(0, .ref (ad17 b))]) (by rw [hx19 (b) (by omega)]) ?_
  refine k_congS (st' := [.ref (ad17 (b + 3)), .ref (ad17 b)]) (by rw [hx19 (b) (by omega)]) ?_
  refine k_dup C21 dX1_init_25 rfl ?_
  refine k_bipush C21 (v := 8) dX1_init_26 (by decide) ?_
  refine k_sipush C21 (v := 192) dX1_init_28 (by decide) ?_
  refine kn_newa C21 (atype := .int) (ty := .int) (c0 := cI) (N' := 192) (a0 := (192, .inl zF)) 0 rfl rfl (List.mem_of_getElem? (i := 7) rfl) (fun _ => rfl) (by decide) (by decide) (Nat.le_of_ble_eq_true rfl) (Nat.le_of_ble_eq_true rfl) (Nat.le_of_ble_eq_true rfl) dX1_init_31 (fun ad22 G23 hx24 hG25 C26 => ?_)
  have h_b___2_G23 : G23 (b + 2) = .inl (cI, 90, .inl zF) := by rw [hG25, up_ne (by omega)]; exact h_b___2_G18
  have h_b___1_G23 : G23 (b + 1) = .inr (4, [.int (9), .ref (ad22 (b + 2)), .int (0)]) := by rw [hG25, up_ne (by omega), hx24 (b + 2) (by omega)]; exact h_b___1_G18
  have h_b_G23 : G23 (b) = .inr (1, [.ref (ad22 (b + 1)), .null, .null, .int (0), .int (0), .int (0)]) := by rw [hG25, up_ne (by omega), hx24 (b + 1) (by omega)]; exact h_b_G18
  have h_b___3_G23 : G23 (b + 3) = .inr (4, [.int (0), .null, .int (0)]) := by rw [hG25, up_ne (by omega)]; exact h_b___3_G18
  have h_b___4_G23 : G23 (b + 4) = .inl (cI, 192, .inl zF) := by rw [hG25]; exact up_same
  refine k_cong (lv' := [(0, .ref (ad22 b))]) (by rw [hx24 (b) (by omega)]) ?_
  refine k_congS (st' := [.ref (ad22 (b + 4)), .int (8), .ref (ad22 (b + 3)), .ref (ad22 (b + 3)), .ref (ad22 b)]) (by rw [hx24 (b) (by omega), hx24 (b + 3) (by omega)]) ?_
  refine kn_call C26 hAO (As := [.int (8), .ref (ad22 (b + 4))]) (rest := [.ref (ad22 (b + 3)), .ref (ad22 b)]) (m_X4_init l D cI cC cZ cB cJ ad22 _ G23 (b + 3) (b + 4) 8 (by omega) h_b___3_G23) gX1_init_X4_init rfl (List.mem_of_getElem? (i := 6) rfl) (List.mem_of_getElem? (i := 13) rfl) (List.mem_of_getElem? (i := 14) rfl) rfl kd_X4_init rfl rfl ⟨(Nat.le_of_ble_eq_true rfl), (Nat.le_of_ble_eq_true rfl)⟩ rfl rfl (Nat.le_of_ble_eq_true rfl) ⟨(Nat.le_of_ble_eq_true rfl), (Nat.le_of_ble_eq_true rfl)⟩ dX1_init_33 (fun ad27 G28 hp29 C30 => ?_)
  obtain ⟨e_hp29, hg_hp29⟩ := hp29
  subst e_hp29
  have h_b___2_G28 : G28 (b + 2) = .inl (cI, 90, .inl zF) := up_at hg_hp29 h_b___2_G23 (by omega)
  have h_b___1_G28 : G28 (b + 1) = .inr (4, [.int (9), .ref (ad27 (b + 2)), .int (0)]) := up_at hg_hp29 h_b___1_G23 (by omega)
  have h_b_G28 : G28 (b) = .inr (1, [.ref (ad27 (b + 1)), .null, .null, .int (0), .int (0), .int (0)]) := up_at hg_hp29 h_b_G23 (by omega)
  have h_b___4_G28 : G28 (b + 4) = .inl (cI, 192, .inl zF) := up_at hg_hp29 h_b___4_G23 (by omega)
  have h_b___3_G28 : G28 (b + 3) = .inr (4, [.int (8), .ref (ad27 (b + 4)), .int (0)]) := up_it hg_hp29
  refine k_putF C30 (b) inX1_init_1 tyX1 tyX1_ok nmX1 (by omega) h_b_G28 rfl 1 (by decide) (List.mem_of_getElem? (i := 9) rfl) rfl rfl hnI rfl rfl rfl (Nat.le_of_ble_eq_true rfl) dX1_init_36 (fun G31 hG32 => ?_)
  have h_b___2_G31 : G31 (b + 2) = .inl (cI, 90, .inl zF) := up_at hG32 h_b___2_G28 (by omega)
  have h_b___1_G31 : G31 (b + 1) = .inr (4, [.int (9), .ref (ad27 (b + 2)), .int (0)]) := up_at hG32 h_b___1_G28 (by omega)
  have h_b___4_G31 : G31 (b + 4) = .inl (cI, 192, .inl zF) := up_at hG32 h_b___4_G28 (by omega)
  have h_b___3_G31 : G31 (b + 3) = .inr (4, [.int (8), .ref (ad27 (b + 4)), .int (0)]) := up_at hG32 h_b___3_G28 (by omega)
  have h_b_G31 : G31 (b) = .inr (1, [.ref (ad27 (b + 1)), .ref (ad27 (b + 3)), .null, .int (0), .int (0), .int (0)]) := up_it hG32
  refine k_aload_n C30 dX1_init_39 rfl (j := 0) rfl ?_
  refine kn_new C30 (ci := 4) (fs := [.int (0), .null, .int (0)]) (Nf := 3) inX1_init_4 tyX4 tyX4_ok (List.mem_of_getElem? (i := 4) rfl) (List.mem_of_getElem? (i := 5) rfl) (List.mem_of_getElem? (i := 6) rfl) rfl (by decide +kernel) (Nat.le_of_ble_eq_true rfl) (Nat.le_of_ble_eq_true rfl) dX1_init_40 (fun ad33 G34 hx35 hG36 C37 => ?_)
  have h_b___2_G34 : G34 (b + 2) = .inl (cI, 90, .inl zF) := by rw [hG36, up_ne (by omega)]; exact h_b___2_G31
  have h_b___1_G34 : G34 (b + 1) = .inr (4, [.int (9), .ref (ad33 (b + 2)), .int (0)]) := by rw [hG36, up_ne (by omega), hx35 (b + 2) (by omega)]; exact h_b___1_G31
  have h_b___4_G34 : G34 (b + 4) = .inl (cI, 192, .inl zF) := by rw [hG36, up_ne (by omega)]; exact h_b___4_G31
  have h_b___3_G34 : G34 (b + 3) = .inr (4, [.int (8), .ref (ad33 (b + 4)), .int (0)]) := by rw [hG36, up_ne (by omega), hx35 (b + 4) (by omega)]; exact h_b___3_G31
  have h_b_G34 : G34 (b) = .inr (1, [.ref (ad33 (b + 1)), .ref (ad33 (b + 3)), .null, .int (0), .int (0), .int (0)]) := by rw [hG36, up_ne (by omega), hx35 (b + 1) (by omega), hx35 (b + 3) (by omega)]; exact h_b_G31
  have h_b___5_G34 : G34 (b + 5) = .inr (4, [.int (0), .null, .int (0)]) := by rw [hG36]; exact up_same
  refine k_cong (lv' := [(0, .ref (ad33 b))]) (by rw [hx35 (b) (by omega)]) ?_
  refine k_congS (st' := [.ref (ad33 (b + 5)), .ref (ad33 b)]) (by rw [hx35 (b) (by omega)]) ?_
  refine k_dup C37 dX1_init_43 rfl ?_
  refine k_iconst C37 (v := 5) dX1_init_44 (by decide) ?_
  refine k_bipush C37 (v := 30) dX1_init_45 (by decide) ?_
  refine kn_newa C37 (atype := .int) (ty := .int) (c0 := cI) (N' := 30) (a0 := (30, .inl zF)) 0 rfl rfl (List.mem_of_getElem? (i := 7) rfl) (fun _ => rfl) (by decide) (by decide) (Nat.le_of_ble_eq_true rfl) (Nat.le_of_ble_eq_true rfl) (Nat.le_of_ble_eq_true rfl) dX1_init_47 (fun ad38 G39 hx40 hG41 C42 => ?_)
  have h_b___2_G39 : G39 (b + 2) = .inl (cI, 90, .inl zF) := by rw [hG41, up_ne (by omega)]; exact h_b___2_G34
  have h_b___1_G39 : G39 (b + 1) = .inr (4, [.int (9), .ref (ad38 (b + 2)), .int (0)]) := by rw [hG41, up_ne (by omega), hx40 (b + 2) (by omega)]; exact h_b___1_G34
  have h_b___4_G39 : G39 (b + 4) = .inl (cI, 192, .inl zF) := by rw [hG41, up_ne (by omega)]; exact h_b___4_G34
  have h_b___3_G39 : G39 (b + 3) = .inr (4, [.int (8), .ref (ad38 (b + 4)), .int (0)]) := by rw [hG41, up_ne (by omega), hx40 (b + 4) (by omega)]; exact h_b___3_G34
  have h_b_G39 : G39 (b) = .inr (1, [.ref (ad38 (b + 1)), .ref (ad38 (b + 3)), .null, .int (0), .int (0), .int (0)]) := by rw [hG41, up_ne (by omega), hx40 (b + 1) (by omega), hx40 (b + 3) (by omega)]; exact h_b_G34
  have h_b___5_G39 : G39 (b + 5) = .inr (4, [.int (0), .null, .int (0)]) := by rw [hG41, up_ne (by omega)]; exact h_b___5_G34
  have h_b___6_G39 : G39 (b + 6) = .inl (cI, 30, .inl zF) := by rw [hG41]; exact up_same
  refine k_cong (lv' := [(0, .ref (ad38 b))]) (by rw [hx40 (b) (by omega)]) ?_
  refine k_congS (st' := [.ref (ad38 (b + 6)), .int (5), .ref (ad38 (b + 5)), .ref (ad38 (b + 5)), .ref (ad38 b)]) (by rw [hx40 (b) (by omega), hx40 (b + 5) (by omega)]) ?_
  refine kn_call C42 hAO (As := [.int (5), .ref (ad38 (b + 6))]) (rest := [.ref (ad38 (b + 5)), .ref (ad38 b)]) (m_X4_init l D cI cC cZ cB cJ ad38 _ G39 (b + 5) (b + 6) 5 (by omega) h_b___5_G39) gX1_init_X4_init rfl (List.mem_of_getElem? (i := 6) rfl) (List.mem_of_getElem? (i := 13) rfl) (List.mem_of_getElem? (i := 14) rfl) rfl kd_X4_init rfl rfl ⟨(Nat.le_of_ble_eq_true rfl), (Nat.le_of_ble_eq_true rfl)⟩ rfl rfl (Nat.le_of_ble_eq_true rfl) ⟨(Nat.le_of_ble_eq_true rfl), (Nat.le_of_ble_eq_true rfl)⟩ dX1_init_49 (fun ad43 G44 hp45 C46 => ?_)
  obtain ⟨e_hp45, hg_hp45⟩ := hp45
  subst e_hp45
  have h_b___2_G44 : G44 (b + 2) = .inl (cI, 90, .inl zF) := up_at hg_hp45 h_b___2_G39 (by omega)
  have h_b___1_G44 : G44 (b + 1) = .inr (4, [.int (9), .ref (ad43 (b + 2)), .int (0)]) := up_at hg_hp45 h_b___1_G39 (by omega)
  have h_b___4_G44 : G44 (b + 4) = .inl (cI, 192, .inl zF) := up_at hg_hp45 h_b___4_G39 (by omega)
  have h_b___3_G44 : G44 (b + 3) = .inr (4, [.int (8), .ref (ad43 (b + 4)), .int (0)]) := up_at hg_hp45 h_b___3_G39 (by omega)
  have h_b_G44 : G44 (b) = .inr (1, [.ref (ad43 (b + 1)), .ref (ad43 (b + 3)), .null, .int (0), .int (0), .int (0)]) := up_at hg_hp45 h_b_G39 (by omega)
  have h_b___6_G44 : G44 (b + 6) = .inl (cI, 30, .inl zF) := up_at hg_hp45 h_b___6_G39 (by omega)
  have h_b___5_G44 : G44 (b + 5) = .inr (4, [.int (5), .ref (ad43 (b + 6)), .int (0)]) := up_it hg_hp45
  refine k_putF C46 (b) inX1_init_1 tyX1 tyX1_ok nmX1 (by omega) h_b_G44 rfl 2 (by decide) (List.mem_of_getElem? (i := 10) rfl) rfl rfl hnI rfl rfl rfl (Nat.le_of_ble_eq_true rfl) dX1_init_52 (fun G47 hG48 => ?_)
  have h_b___2_G47 : G47 (b + 2) = .inl (cI, 90, .inl zF) := up_at hG48 h_b___2_G44 (by omega)
  have h_b___1_G47 : G47 (b + 1) = .inr (4, [.int (9), .ref (ad43 (b + 2)), .int (0)]) := up_at hG48 h_b___1_G44 (by omega)
  have h_b___4_G47 : G47 (b + 4) = .inl (cI, 192, .inl zF) := up_at hG48 h_b___4_G44 (by omega)
  have h_b___3_G47 : G47 (b + 3) = .inr (4, [.int (8), .ref (ad43 (b + 4)), .int (0)]) := up_at hG48 h_b___3_G44 (by omega)
  have h_b___6_G47 : G47 (b + 6) = .inl (cI, 30, .inl zF) := up_at hG48 h_b___6_G44 (by omega)
  have h_b___5_G47 : G47 (b + 5) = .inr (4, [.int (5), .ref (ad43 (b + 6)), .int (0)]) := up_at hG48 h_b___5_G44 (by omega)
  have h_b_G47 : G47 (b) = .inr (1, [.ref (ad43 (b + 1)), .ref (ad43 (b + 3)), .ref (ad43 (b + 5)), .int (0), .int (0), .int (0)]) := up_it hG48
  refine k_aload_n C46 dX1_init_55 rfl (j := 0) rfl ?_
  refine k_iconst C46 (v := 5) dX1_init_56 (by decide) ?_
  refine k_put C46 (b) inX1_init_1 tyX1 tyX1_ok nmX1 (by omega) h_b_G47 rfl 4 (by decide) (List.mem_of_getElem? (i := 11) rfl) rfl rfl rfl rfl (Nat.le_of_ble_eq_true rfl) dX1_init_57 (fun G49 hG50 => ?_)
  have h_b___2_G49 : G49 (b + 2) = .inl (cI, 90, .inl zF) := up_at hG50 h_b___2_G47 (by omega)
  have h_b___1_G49 : G49 (b + 1) = .inr (4, [.int (9), .ref (ad43 (b + 2)), .int (0)]) := up_at hG50 h_b___1_G47 (by omega)
  have h_b___4_G49 : G49 (b + 4) = .inl (cI, 192, .inl zF) := up_at hG50 h_b___4_G47 (by omega)
  have h_b___3_G49 : G49 (b + 3) = .inr (4, [.int (8), .ref (ad43 (b + 4)), .int (0)]) := up_at hG50 h_b___3_G47 (by omega)
  have h_b___6_G49 : G49 (b + 6) = .inl (cI, 30, .inl zF) := up_at hG50 h_b___6_G47 (by omega)
  have h_b___5_G49 : G49 (b + 5) = .inr (4, [.int (5), .ref (ad43 (b + 6)), .int (0)]) := up_at hG50 h_b___5_G47 (by omega)
  have h_b_G49 : G49 (b) = .inr (1, [.ref (ad43 (b + 1)), .ref (ad43 (b + 3)), .ref (ad43 (b + 5)), .int (0), .int (5), .int (0)]) := up_it hG50
  refine k_aload_n C46 dX1_init_60 rfl (j := 0) rfl ?_
  refine k_sipush C46 (v := 10000) dX1_init_61 (by decide) ?_
  refine k_put C46 (b) inX1_init_1 tyX1 tyX1_ok nmX1 (by omega) h_b_G49 rfl 5 (by decide) (List.mem_of_getElem? (i := 12) rfl) rfl rfl rfl rfl (Nat.le_of_ble_eq_true rfl) dX1_init_64 (fun G51 hG52 => ?_)
  have h_b___2_G51 : G51 (b + 2) = .inl (cI, 90, .inl zF) := up_at hG52 h_b___2_G49 (by omega)
  have h_b___1_G51 : G51 (b + 1) = .inr (4, [.int (9), .ref (ad43 (b + 2)), .int (0)]) := up_at hG52 h_b___1_G49 (by omega)
  have h_b___4_G51 : G51 (b + 4) = .inl (cI, 192, .inl zF) := up_at hG52 h_b___4_G49 (by omega)
  have h_b___3_G51 : G51 (b + 3) = .inr (4, [.int (8), .ref (ad43 (b + 4)), .int (0)]) := up_at hG52 h_b___3_G49 (by omega)
  have h_b___6_G51 : G51 (b + 6) = .inl (cI, 30, .inl zF) := up_at hG52 h_b___6_G49 (by omega)
  have h_b___5_G51 : G51 (b + 5) = .inr (4, [.int (5), .ref (ad43 (b + 6)), .int (0)]) := up_at hG52 h_b___5_G49 (by omega)
  have h_b_G51 : G51 (b) = .inr (1, [.ref (ad43 (b + 1)), .ref (ad43 (b + 3)), .ref (ad43 (b + 5)), .int (0), .int (5), .int (10000)]) := up_it hG52
  exact kn_ret C46 (post := fun ad' G' => (∀ i, i < b + 1 → ad' i = ad i) ∧ isBk ad' cI G' b bk0 ∧ ∀ j, j < b → G' j = G j) hQ rfl rfl (Nat.le_of_ble_eq_true rfl) (Nat.le_of_ble_eq_true rfl) dX1_init_67 ⟨fun i hi => (hx40 i (by omega) : _).trans ((hx35 i (by omega) : _).trans ((hx24 i (by omega) : _).trans ((hx19 i (by omega) : _).trans ((hx8 i (by omega) : _).trans (hx3 i (by omega)))))), ⟨h_b_G51, ⟨h_b___1_G51, h_b___2_G51⟩, ⟨h_b___3_G51, h_b___4_G51⟩, ⟨h_b___5_G51, h_b___6_G51⟩, by decide, by decide, by decide⟩, fun j hj => (show _ = _ from by rw [hG52, up_ne (by omega)]).trans ((show _ = _ from by rw [hG50, up_ne (by omega)]).trans ((show _ = _ from by rw [hG48, up_ne (by omega)]).trans ((show _ = _ from by rw [hg_hp45, up_ne (by omega)]).trans ((show _ = _ from by rw [hG41, up_ne (by omega)]).trans ((show _ = _ from by rw [hG36, up_ne (by omega)]).trans ((show _ = _ from by rw [hG32, up_ne (by omega)]).trans ((show _ = _ from by rw [hg_hp29, up_ne (by omega)]).trans ((show _ = _ from by rw [hG25, up_ne (by omega)]).trans ((show _ = _ from by rw [hG20, up_ne (by omega)]).trans ((show _ = _ from by rw [hG16, up_ne (by omega)]).trans ((show _ = _ from by rw [hg_hp13, up_ne (by omega)]).trans ((show _ = _ from by rw [hG9, up_ne (by omega)]).trans ((show _ = _ from by rw [hG4, up_ne (by omega)]))))))))))))))⟩
theorem inX0_init_0 : ∀ w ∈ wsX00, w ∈ wsX0_init := fun _ h => List.mem_cons_of_mem _ (List.mem_append_right _ h)
theorem kd_X0_init : yX0_init.cls ≠ "java/lang/invoke/MethodHandle" ∧ yX0_init.cls ≠ "java/lang/invoke/VarHandle" ∧ (parseMethodDescriptor yX0_init.desc).map (fun d => d.parameters.length) = some 0 := by decide +kernel
abbrev rX0_init : Room := ({ frames := 1, cells := 2, slots := 20, locals := 20 } : Room)
set_option maxRecDepth 100000 in
set_option maxHeartbeats 8000000 in
/-- Arrival() -/
theorem m_X0_init (l : Launch) (D : va_G) (cI cC cZ cB cJ : ClassId) (ad : Nat → Nat) (b : Nat) (G : Nat → va_E) (hG0 : G b = .inr (0, [.null, .null, .int 0, .int 0, .int 0])) : kNv l yX0_init wsX0_init rX0_init D (kT5 cI cC cZ cB cJ) ad (b + 1) G [.ref (ad b)] (b + 3) 2 20 (fun ad' G' => (∀ i, i < b + 1 → ad' i = ad i) ∧ isAr ad' cI G' b ar0 ∧ ∀ j, j < b → G' j = G j) := by
  refine kn_start (cc := cX0_init) (ret := none) (maxL := 1) (lv0 := [(0, .ref (ad b))]) (by decide) rfl rfl (Nat.le_of_ble_eq_true rfl) rfl ?_
  intro p e s m args below meth c A Q C hnI hAO hQ
  refine k_aload_n C dX0_init_0 rfl (j := 0) rfl ?_
  refine kn_obj C (List.mem_of_getElem? (i := 1) rfl) (List.mem_of_getElem? (i := 2) rfl) (List.mem_of_getElem? (i := 3) rfl) (Nat.le_of_ble_eq_true rfl) (Nat.le_of_ble_eq_true rfl) dX0_init_1 ?_
  refine k_aload_n C dX0_init_4 rfl (j := 0) rfl ?_
  refine k_bipush C (v := 10) dX0_init_5 (by decide) ?_
  refine kn_newa C (atype := .int) (ty := .int) (c0 := cI) (N' := 10) (a0 := (10, .inl zF)) 0 rfl rfl (List.mem_of_getElem? (i := 4) rfl) (fun _ => rfl) (by decide) (by decide) (Nat.le_of_ble_eq_true rfl) (Nat.le_of_ble_eq_true rfl) (Nat.le_of_ble_eq_true rfl) dX0_init_7 (fun ad1 G2 hx3 hG4 C5 => ?_)
  have h_b_G2 : G2 (b) = .inr (0, [.null, .null, .int (0), .int (0), .int (0)]) := by rw [hG4, up_ne (by omega)]; exact hG0
  have h_b___1_G2 : G2 (b + 1) = .inl (cI, 10, .inl zF) := by rw [hG4]; exact up_same
  refine k_cong (lv' := [(0, .ref (ad1 b))]) (by rw [hx3 (b) (by omega)]) ?_
  refine k_congS (st' := [.ref (ad1 (b + 1)), .ref (ad1 b)]) (by rw [hx3 (b) (by omega)]) ?_
  refine k_putF C5 (b) inX0_init_0 tyX0 tyX0_ok nmX0 (by omega) h_b_G2 rfl 0 (by decide) (List.mem_of_getElem? (i := 5) rfl) rfl rfl hnI rfl rfl rfl (Nat.le_of_ble_eq_true rfl) dX0_init_9 (fun G6 hG7 => ?_)
  have h_b___1_G6 : G6 (b + 1) = .inl (cI, 10, .inl zF) := up_at hG7 h_b___1_G2 (by omega)
  have h_b_G6 : G6 (b) = .inr (0, [.ref (ad1 (b + 1)), .null, .int (0), .int (0), .int (0)]) := up_it hG7
  refine k_aload_n C5 dX0_init_12 rfl (j := 0) rfl ?_
  refine k_bipush C5 (v := 10) dX0_init_13 (by decide) ?_
  refine kn_newa C5 (atype := .int) (ty := .int) (c0 := cI) (N' := 10) (a0 := (10, .inl zF)) 0 rfl rfl (List.mem_of_getElem? (i := 4) rfl) (fun _ => rfl) (by decide) (by decide) (Nat.le_of_ble_eq_true rfl) (Nat.le_of_ble_eq_true rfl) (Nat.le_of_ble_eq_true rfl) dX0_init_15 (fun ad8 G9 hx10 hG11 C12 => ?_)
  have h_b___1_G9 : G9 (b + 1) = .inl (cI, 10, .inl zF) := by rw [hG11, up_ne (by omega)]; exact h_b___1_G6
  have h_b_G9 : G9 (b) = .inr (0, [.ref (ad8 (b + 1)), .null, .int (0), .int (0), .int (0)]) := by rw [hG11, up_ne (by omega), hx10 (b + 1) (by omega)]; exact h_b_G6
  have h_b___2_G9 : G9 (b + 2) = .inl (cI, 10, .inl zF) := by rw [hG11]; exact up_same
  refine k_cong (lv' := [(0, .ref (ad8 b))]) (by rw [hx10 (b) (by omega)]) ?_
  refine k_congS (st' := [.ref (ad8 (b + 2)), .ref (ad8 b)]) (by rw [hx10 (b) (by omega)]) ?_
  refine k_putF C12 (b) inX0_init_0 tyX0 tyX0_ok nmX0 (by omega) h_b_G9 rfl 1 (by decide) (List.mem_of_getElem? (i := 6) rfl) rfl rfl hnI rfl rfl rfl (Nat.le_of_ble_eq_true rfl) dX0_init_17 (fun G13 hG14 => ?_)
  have h_b___1_G13 : G13 (b + 1) = .inl (cI, 10, .inl zF) := up_at hG14 h_b___1_G9 (by omega)
  have h_b___2_G13 : G13 (b + 2) = .inl (cI, 10, .inl zF) := up_at hG14 h_b___2_G9 (by omega)
  have h_b_G13 : G13 (b) = .inr (0, [.ref (ad8 (b + 1)), .ref (ad8 (b + 2)), .int (0), .int (0), .int (0)]) := up_it hG14
  exact kn_ret C12 (post := fun ad' G' => (∀ i, i < b + 1 → ad' i = ad i) ∧ isAr ad' cI G' b ar0 ∧ ∀ j, j < b → G' j = G j) hQ rfl rfl (Nat.le_of_ble_eq_true rfl) (Nat.le_of_ble_eq_true rfl) dX0_init_20 ⟨fun i hi => (hx10 i (by omega) : _).trans (hx3 i (by omega)), ⟨h_b_G13, h_b___1_G13, h_b___2_G13⟩, fun j hj => (show _ = _ from by rw [hG14, up_ne (by omega)]).trans ((show _ = _ from by rw [hG11, up_ne (by omega)]).trans ((show _ = _ from by rw [hG7, up_ne (by omega)]).trans ((show _ = _ from by rw [hG4, up_ne (by omega)]))))⟩
theorem inX5_init_5 : ∀ w ∈ wsX50, w ∈ wsX5_init := fun _ h => List.mem_cons_of_mem _ (List.mem_append_right _ h)
theorem kd_X5_init : yX5_init.cls ≠ "java/lang/invoke/MethodHandle" ∧ yX5_init.cls ≠ "java/lang/invoke/VarHandle" ∧ (parseMethodDescriptor yX5_init.desc).map (fun d => d.parameters.length) = some 0 := by decide +kernel
abbrev rX5_init : Room := ({ frames := 1, cells := 1, slots := 30, locals := 20 } : Room)
set_option maxRecDepth 100000 in
set_option maxHeartbeats 8000000 in
/-- Text() -/
theorem m_X5_init (l : Launch) (D : va_G) (cI cC cZ cB cJ : ClassId) (ad : Nat → Nat) (b : Nat) (G : Nat → va_E) (hG0 : G b = .inr (5, [.null, .int 0])) : kNv l yX5_init wsX5_init rX5_init D (kT5 cI cC cZ cB cJ) ad (b + 1) G [.ref (ad b)] (b + 2) 1 30 (fun ad' G' => (∀ i, i < b + 1 → ad' i = ad i) ∧ isTx ad' cI G' b tx0 ∧ ∀ j, j < b → G' j = G j) := by
  refine kn_start (cc := cX5_init) (ret := none) (maxL := 1) (lv0 := [(0, .ref (ad b))]) (by decide) rfl rfl (Nat.le_of_ble_eq_true rfl) rfl ?_
  intro p e s m args below meth c A Q C hnI hAO hQ
  refine k_aload_n C dX5_init_0 rfl (j := 0) rfl ?_
  refine kn_obj C (List.mem_of_getElem? (i := 1) rfl) (List.mem_of_getElem? (i := 2) rfl) (List.mem_of_getElem? (i := 3) rfl) (Nat.le_of_ble_eq_true rfl) (Nat.le_of_ble_eq_true rfl) dX5_init_1 ?_
  refine k_aload_n C dX5_init_4 rfl (j := 0) rfl ?_
  refine k_bipush C (v := 30) dX5_init_5 (by decide) ?_
  refine kn_newa C (atype := .int) (ty := .int) (c0 := cI) (N' := 30) (a0 := (30, .inl zF)) 0 rfl rfl (List.mem_of_getElem? (i := 4) rfl) (fun _ => rfl) (by decide) (by decide) (Nat.le_of_ble_eq_true rfl) (Nat.le_of_ble_eq_true rfl) (Nat.le_of_ble_eq_true rfl) dX5_init_7 (fun ad1 G2 hx3 hG4 C5 => ?_)
  have h_b_G2 : G2 (b) = .inr (5, [.null, .int (0)]) := by rw [hG4, up_ne (by omega)]; exact hG0
  have h_b___1_G2 : G2 (b + 1) = .inl (cI, 30, .inl zF) := by rw [hG4]; exact up_same
  refine k_cong (lv' := [(0, .ref (ad1 b))]) (by rw [hx3 (b) (by omega)]) ?_
  refine k_congS (st' := [.ref (ad1 (b + 1)), .ref (ad1 b)]) (by rw [hx3 (b) (by omega)]) ?_
  refine k_putF C5 (b) inX5_init_5 tyX5 tyX5_ok nmX5 (by omega) h_b_G2 rfl 0 (by decide) (List.mem_of_getElem? (i := 5) rfl) rfl rfl hnI rfl rfl rfl (Nat.le_of_ble_eq_true rfl) dX5_init_9 (fun G6 hG7 => ?_)
  have h_b___1_G6 : G6 (b + 1) = .inl (cI, 30, .inl zF) := up_at hG7 h_b___1_G2 (by omega)
  have h_b_G6 : G6 (b) = .inr (5, [.ref (ad1 (b + 1)), .int (0)]) := up_it hG7
  exact kn_ret C5 (post := fun ad' G' => (∀ i, i < b + 1 → ad' i = ad i) ∧ isTx ad' cI G' b tx0 ∧ ∀ j, j < b → G' j = G j) hQ rfl rfl (Nat.le_of_ble_eq_true rfl) (Nat.le_of_ble_eq_true rfl) dX5_init_12 ⟨fun i hi => hx3 i (by omega), ⟨h_b_G6, h_b___1_G6, by decide⟩, fun j hj => (show _ = _ from by rw [hG7, up_ne (by omega)]).trans ((show _ = _ from by rw [hG4, up_ne (by omega)]))⟩
theorem inX3_init_1 : ∀ w ∈ wsX10, w ∈ wsX3_init := fun _ h => List.mem_cons_of_mem _ (List.mem_append_left _ (List.mem_append_left _ (List.mem_append_right _ h)))
theorem inX3_init_3 : ∀ w ∈ wsX30, w ∈ wsX3_init := fun _ h => List.mem_cons_of_mem _ (List.mem_append_left _ (List.mem_append_right _ h))
theorem inX3_init_4 : ∀ w ∈ wsX40, w ∈ wsX3_init := fun _ h => List.mem_cons_of_mem _ (List.mem_append_right _ h)
theorem kd_X3_init : yX3_init.cls ≠ "java/lang/invoke/MethodHandle" ∧ yX3_init.cls ≠ "java/lang/invoke/VarHandle" ∧ (parseMethodDescriptor yX3_init.desc).map (fun d => d.parameters.length) = some 0 := by decide +kernel
abbrev rX3_init : Room := ({ frames := 3, cells := 7, slots := 327, locals := 62 } : Room)
set_option maxRecDepth 100000 in
set_option maxHeartbeats 8000000 in
/-- Slot() -/
theorem m_X3_init (l : Launch) (D : va_G) (cI cC cZ cB cJ : ClassId) (ad : Nat → Nat) (b : Nat) (G : Nat → va_E) (hG0 : G b = .inr (3, [.null, .int 0])) : kNv l yX3_init wsX3_init rX3_init D (kT5 cI cC cZ cB cJ) ad (b + 1) G [.ref (ad b)] (b + 8) 7 327 (fun ad' G' => (∀ i, i < b + 1 → ad' i = ad i) ∧ isSl ad' cI G' b sl0 ∧ ∀ j, j < b → G' j = G j) := by
  refine kn_start (cc := cX3_init) (ret := none) (maxL := 1) (lv0 := [(0, .ref (ad b))]) (by decide) rfl rfl (Nat.le_of_ble_eq_true rfl) rfl ?_
  intro p e s m args below meth c A Q C hnI hAO hQ
  refine k_aload_n C dX3_init_0 rfl (j := 0) rfl ?_
  refine kn_obj C (List.mem_of_getElem? (i := 1) rfl) (List.mem_of_getElem? (i := 2) rfl) (List.mem_of_getElem? (i := 3) rfl) (Nat.le_of_ble_eq_true rfl) (Nat.le_of_ble_eq_true rfl) dX3_init_1 ?_
  refine k_aload_n C dX3_init_4 rfl (j := 0) rfl ?_
  refine kn_new C (ci := 1) (fs := [.null, .null, .null, .int (0), .int (0), .int (0)]) (Nf := 6) inX3_init_1 tyX1 tyX1_ok (List.mem_of_getElem? (i := 4) rfl) (List.mem_of_getElem? (i := 5) rfl) (List.mem_of_getElem? (i := 6) rfl) rfl (by decide +kernel) (Nat.le_of_ble_eq_true rfl) (Nat.le_of_ble_eq_true rfl) dX3_init_5 (fun ad1 G2 hx3 hG4 C5 => ?_)
  have h_b_G2 : G2 (b) = .inr (3, [.null, .int (0)]) := by rw [hG4, up_ne (by omega)]; exact hG0
  have h_b___1_G2 : G2 (b + 1) = .inr (1, [.null, .null, .null, .int (0), .int (0), .int (0)]) := by rw [hG4]; exact up_same
  refine k_cong (lv' := [(0, .ref (ad1 b))]) (by rw [hx3 (b) (by omega)]) ?_
  refine k_congS (st' := [.ref (ad1 (b + 1)), .ref (ad1 b)]) (by rw [hx3 (b) (by omega)]) ?_
  refine k_dup C5 dX3_init_8 rfl ?_
  refine kn_call C5 hAO (As := []) (rest := [.ref (ad1 (b + 1)), .ref (ad1 b)]) (m_X1_init l D cI cC cZ cB cJ ad1 (b + 1) G2 h_b___1_G2) gX3_init_X1_init rfl (List.mem_of_getElem? (i := 6) rfl) (List.mem_of_getElem? (i := 8) rfl) (List.mem_of_getElem? (i := 9) rfl) rfl kd_X1_init rfl rfl ⟨(Nat.le_of_ble_eq_true rfl), (Nat.le_of_ble_eq_true rfl)⟩ rfl rfl (Nat.le_of_ble_eq_true rfl) ⟨(Nat.le_of_ble_eq_true rfl), (Nat.le_of_ble_eq_true rfl)⟩ dX3_init_9 (fun ad6 G7 hp8 C9 => ?_)
  obtain ⟨hx_hp8, hb_hp8, hf_hp8⟩ := hp8
  have h_b_G7 : G7 (b) = .inr (3, [.null, .int (0)]) := by rw [hf_hp8 (b) (by omega)]; exact h_b_G2
  refine k_cong (lv' := [(0, .ref (ad6 b))]) (by rw [hx_hp8 (b) (by omega)]) ?_
  refine k_congS (st' := [.ref (ad6 (b + 1)), .ref (ad6 b)]) (by rw [hx_hp8 (b) (by omega), hx_hp8 (b + 1) (by omega)]) ?_
  refine k_putF C9 (b) inX3_init_3 tyX3 tyX3_ok nmX3 (by omega) h_b_G7 rfl 0 (by decide) (List.mem_of_getElem? (i := 7) rfl) rfl rfl hnI rfl rfl rfl (Nat.le_of_ble_eq_true rfl) dX3_init_12 (fun G10 hG11 => ?_)
  have hb_b___1_G10 := hb_hp8.keep (G' := G10) (fun j h8 h9 => by rw [hG11, up_ne (by omega)])
  have h_b_G10 : G10 (b) = .inr (3, [.ref (ad6 (b + 1)), .int (0)]) := up_it hG11
  exact kn_ret C9 (post := fun ad' G' => (∀ i, i < b + 1 → ad' i = ad i) ∧ isSl ad' cI G' b sl0 ∧ ∀ j, j < b → G' j = G j) hQ rfl rfl (Nat.le_of_ble_eq_true rfl) (Nat.le_of_ble_eq_true rfl) dX3_init_15 ⟨fun i hi => (hx_hp8 i (by omega) : _).trans (hx3 i (by omega)), ⟨h_b_G10, hb_b___1_G10⟩, fun j hj => (show _ = _ from by rw [hG11, up_ne (by omega)]).trans ((hf_hp8 j (by omega) : _).trans ((show _ = _ from by rw [hG4, up_ne (by omega)])))⟩
theorem inX2_init_2 : ∀ w ∈ wsX20, w ∈ wsX2_init := fun _ h => List.mem_cons_of_mem _ (List.mem_append_left _ (List.mem_append_left _ (List.mem_append_right _ h)))
theorem inX2_init_1 : ∀ w ∈ wsX10, w ∈ wsX2_init := fun _ h => List.mem_cons_of_mem _ (List.mem_append_left _ (List.mem_append_right _ h))
theorem inX2_init_4 : ∀ w ∈ wsX40, w ∈ wsX2_init := fun _ h => List.mem_cons_of_mem _ (List.mem_append_right _ h)
theorem kd_X2_init : yX2_init.cls ≠ "java/lang/invoke/MethodHandle" ∧ yX2_init.cls ≠ "java/lang/invoke/VarHandle" ∧ (parseMethodDescriptor yX2_init.desc).map (fun d => d.parameters.length) = some 0 := by decide +kernel
abbrev rX2_init : Room := ({ frames := 3, cells := 43, slots := 1968, locals := 62 } : Room)
set_option maxRecDepth 100000 in
set_option maxHeartbeats 8000000 in
/-- History() -/
theorem m_X2_init (l : Launch) (D : va_G) (cI cC cZ cB cJ : ClassId) (ad : Nat → Nat) (b : Nat) (G : Nat → va_E) (hG0 : G b = .inr (2, [.null, .int 0, .int 0])) : kNv l yX2_init wsX2_init rX2_init D (kT5 cI cC cZ cB cJ) ad (b + 1) G [.ref (ad b)] (b + 44) 43 1968 (fun ad' G' => (∀ i, i < b + 1 → ad' i = ad i) ∧ isHi ad' cI cB G' b hi0 ∧ ∀ j, j < b → G' j = G j) := by
  refine kn_start (cc := cX2_init) (ret := none) (maxL := 2) (lv0 := [(0, .ref (ad b))]) (by decide) rfl rfl (Nat.le_of_ble_eq_true rfl) rfl ?_
  intro p e s m args below meth c A Q C hnI hAO hQ
  refine k_aload_n C dX2_init_0 rfl (j := 0) rfl ?_
  refine kn_obj C (List.mem_of_getElem? (i := 1) rfl) (List.mem_of_getElem? (i := 2) rfl) (List.mem_of_getElem? (i := 3) rfl) (Nat.le_of_ble_eq_true rfl) (Nat.le_of_ble_eq_true rfl) dX2_init_1 ?_
  refine k_aload_n C dX2_init_4 rfl (j := 0) rfl ?_
  refine k_bipush C (v := 6) dX2_init_5 (by decide) ?_
  refine kn_newq C hAO (c0 := cB) (N' := 6) 3 rfl (List.mem_of_getElem? (i := 4) rfl) (by decide) (by decide) (Nat.le_of_ble_eq_true rfl) (Nat.le_of_ble_eq_true rfl) (Nat.le_of_ble_eq_true rfl) dX2_init_7 (fun ad1 G2 hx3 hG4 C5 => ?_)
  have hfq : ∀ i, i < 0 → (fun _ => none : Nat → Option Nat) i = some (ad1 (b + 2 + 7 * i)) := fun i hi => absurd hi (Nat.not_lt_zero _)
  have h_b_G2 : G2 (b) = .inr (2, [.null, .int (0), .int (0)]) := by rw [hG4, up_ne (by omega)]; exact hG0
  have h_b___1_G2 : G2 (b + 1) = .inl (cB, 6, .inr (.inr (.inr (.inr ((fun _ => none)))))) := by rw [hG4]; exact up_same
  refine k_cong (lv' := [(0, .ref (ad1 b))]) (by rw [hx3 (b) (by omega)]) ?_
  refine k_congS (st' := [.ref (ad1 (b + 1)), .ref (ad1 b)]) (by rw [hx3 (b) (by omega)]) ?_
  refine k_putF C5 (b) inX2_init_2 tyX2 tyX2_ok nmX2 (by omega) h_b_G2 rfl 0 (by decide) (List.mem_of_getElem? (i := 5) rfl) rfl rfl hnI rfl rfl rfl (Nat.le_of_ble_eq_true rfl) dX2_init_10 (fun G6 hG7 => ?_)
  have h_b___1_G6 : G6 (b + 1) = .inl (cB, 6, .inr (.inr (.inr (.inr ((fun _ => none)))))) := up_at hG7 h_b___1_G2 (by omega)
  have h_b_G6 : G6 (b) = .inr (2, [.ref (ad1 (b + 1)), .int (0), .int (0)]) := up_it hG7
  refine k_iconst C5 (v := 0) dX2_init_13 (by decide) ?_
  refine k_istore_n C5 (lv' := [(1, .int (0)), (0, .ref (ad1 b))]) dX2_init_14 rfl (by decide) rfl ?_
  refine k_iload_n C5 dX2_init_15 rfl (j := 0) rfl ?_
  refine k_aload_n C5 dX2_init_16 rfl (j := 1) rfl ?_
  refine k_get C5 (b) inX2_init_2 (by omega) h_b_G6 rfl 0 (by decide) (List.mem_of_getElem? (i := 5) rfl) rfl rfl dX2_init_17 ?_
  refine k_alen C5 (b + 1) 3 (by omega) h_b___1_G6 rfl dX2_init_20 ?_
  refine k_icmp_ge C5 43 dX2_init_21 (by decide) (fun q => absurd q (show ¬ (nI 6 : Int32) ≤ 0 by decide)) (fun _ => ?_)
  refine k_aload_n C5 dX2_init_24 rfl (j := 1) rfl ?_
  refine k_get C5 (b) inX2_init_2 (by omega) h_b_G6 rfl 0 (by decide) (List.mem_of_getElem? (i := 5) rfl) rfl rfl dX2_init_25 ?_
  refine k_iload_n C5 dX2_init_28 rfl (j := 0) rfl ?_
  refine kn_new C5 (ci := 1) (fs := [.null, .null, .null, .int (0), .int (0), .int (0)]) (Nf := 6) inX2_init_1 tyX1 tyX1_ok (List.mem_of_getElem? (i := 4) rfl) (List.mem_of_getElem? (i := 6) rfl) (List.mem_of_getElem? (i := 7) rfl) rfl (by decide +kernel) (Nat.le_of_ble_eq_true rfl) (Nat.le_of_ble_eq_true rfl) dX2_init_29 (fun ad8 G9 hx10 hG11 C12 => ?_)
  have h_b___1_G9 : G9 (b + 1) = .inl (cB, 6, .inr (.inr (.inr (.inr ((fun _ => none)))))) := by rw [hG11, up_ne (by omega)]; exact h_b___1_G6
  have hfq_G9 : ∀ i, i < 0 → (fun _ => none) i = some (ad8 (b + 2 + 7 * i)) := fun i hi => by rw [hx10 _ (by omega)]; exact hfq i hi
  have h_b_G9 : G9 (b) = .inr (2, [.ref (ad8 (b + 1)), .int (0), .int (0)]) := by rw [hG11, up_ne (by omega), hx10 (b + 1) (by omega)]; exact h_b_G6
  have h_b___2_G9 : G9 (b + 2) = .inr (1, [.null, .null, .null, .int (0), .int (0), .int (0)]) := by rw [hG11]; exact up_same
  refine k_cong (lv' := [(1, .int (0)), (0, .ref (ad8 b))]) (by rw [hx10 (b) (by omega)]) ?_
  refine k_congS (st' := [.ref (ad8 (b + 2)), .int (0), .ref (ad8 (b + 1))]) (by rw [hx10 (b + 1) (by omega)]) ?_
  refine k_dup C12 dX2_init_32 rfl ?_
  refine kn_call C12 hAO (As := []) (rest := [.ref (ad8 (b + 2)), .int (0), .ref (ad8 (b + 1))]) (m_X1_init l D cI cC cZ cB cJ ad8 (b + 2) G9 h_b___2_G9) gX2_init_X1_init rfl (List.mem_of_getElem? (i := 7) rfl) (List.mem_of_getElem? (i := 8) rfl) (List.mem_of_getElem? (i := 9) rfl) rfl kd_X1_init rfl rfl ⟨(Nat.le_of_ble_eq_true rfl), (Nat.le_of_ble_eq_true rfl)⟩ rfl rfl (Nat.le_of_ble_eq_true rfl) ⟨(Nat.le_of_ble_eq_true rfl), (Nat.le_of_ble_eq_true rfl)⟩ dX2_init_33 (fun ad13 G14 hp15 C16 => ?_)
  obtain ⟨hx_hp15, hb_hp15, hf_hp15⟩ := hp15
  have h_b___1_G14 : G14 (b + 1) = .inl (cB, 6, .inr (.inr (.inr (.inr ((fun _ => none)))))) := by rw [hf_hp15 (b + 1) (by omega)]; exact h_b___1_G9
  have hfq_G9_G14 : ∀ i, i < 0 → ((fun _ => none)) i = some (ad13 (b + 2 + 7 * i)) := fun i hi => by rw [hx_hp15 _ (by omega)]; exact hfq_G9 i hi
  have h_b_G14 : G14 (b) = .inr (2, [.ref (ad13 (b + 1)), .int (0), .int (0)]) := by rw [hx_hp15 (b + 1) (by omega), hf_hp15 (b) (by omega)]; exact h_b_G9
  refine k_cong (lv' := [(1, .int (0)), (0, .ref (ad13 b))]) (by rw [hx_hp15 (b) (by omega)]) ?_
  refine k_congS (st' := [.ref (ad13 (b + 2)), .int (0), .ref (ad13 (b + 1))]) (by rw [hx_hp15 (b + 1) (by omega), hx_hp15 (b + 2) (by omega)]) ?_
  refine kn_astq C16 (b + 1) (b + 2) 3 (by omega) (by omega) h_b___1_G14 hb_hp15.1 rfl rfl (vp_in_nI (n := 0) (N := 6) (by decide) (by decide)) dX2_init_36 (fun G17 hG18 => ?_)
  have hq19 : ∀ i, i < 1 → (va_up ((fun _ => none)) 0 (some (ad13 (b + 2)))) i = some (ad13 (b + 2 + 7 * i)) := fun i hi => by
    rcases Nat.lt_or_ge i 0 with h9 | h9
    · rw [up_ne (Nat.ne_of_lt h9)]; exact hfq_G9_G14 i h9
    · rw [show i = 0 by omega, up_same]
  have h_b_G17 : G17 (b) = .inr (2, [.ref (ad13 (b + 1)), .int (0), .int (0)]) := up_at hG18 h_b_G14 (by omega)
  have hb_b___2_G17 := hb_hp15.keep (G' := G17) (fun j h8 h9 => by rw [hG18, up_ne (by omega)])
  have h_b___1_G17 : G17 (b + 1) = .inl (cB, 6, .inr (.inr (.inr (.inr (va_up ((fun _ => none)) 0 (some (ad13 (b + 2)))))))) := up_it hG18
  refine k_iinc C16 (v := 1) (lv' := [(1, .int (1)), (0, .ref (ad13 b))]) dX2_init_37 (j := 0) rfl (by decide) (by decide) rfl ?_
  refine k_goto C16 15 dX2_init_40 (by decide) ?_
  refine k_iload_n C16 dX2_init_15 rfl (j := 0) rfl ?_
  refine k_aload_n C16 dX2_init_16 rfl (j := 1) rfl ?_
  refine k_get C16 (b) inX2_init_2 (by omega) h_b_G17 rfl 0 (by decide) (List.mem_of_getElem? (i := 5) rfl) rfl rfl dX2_init_17 ?_
  refine k_alen C16 (b + 1) 3 (by omega) h_b___1_G17 rfl dX2_init_20 ?_
  refine k_icmp_ge C16 43 dX2_init_21 (by decide) (fun q => absurd q (show ¬ (nI 6 : Int32) ≤ 1 by decide)) (fun _ => ?_)
  refine k_aload_n C16 dX2_init_24 rfl (j := 1) rfl ?_
  refine k_get C16 (b) inX2_init_2 (by omega) h_b_G17 rfl 0 (by decide) (List.mem_of_getElem? (i := 5) rfl) rfl rfl dX2_init_25 ?_
  refine k_iload_n C16 dX2_init_28 rfl (j := 0) rfl ?_
  refine kn_new C16 (ci := 1) (fs := [.null, .null, .null, .int (0), .int (0), .int (0)]) (Nf := 6) inX2_init_1 tyX1 tyX1_ok (List.mem_of_getElem? (i := 4) rfl) (List.mem_of_getElem? (i := 6) rfl) (List.mem_of_getElem? (i := 7) rfl) rfl (by decide +kernel) (Nat.le_of_ble_eq_true rfl) (Nat.le_of_ble_eq_true rfl) dX2_init_29 (fun ad20 G21 hx22 hG23 C24 => ?_)
  have h_b_G21 : G21 (b) = .inr (2, [.ref (ad20 (b + 1)), .int (0), .int (0)]) := by rw [hG23, up_ne (by omega), hx22 (b + 1) (by omega)]; exact h_b_G17
  have h_b___1_G21 : G21 (b + 1) = .inl (cB, 6, .inr (.inr (.inr (.inr (va_up ((fun _ => none)) 0 (some (ad13 (b + 2)))))))) := by rw [hG23, up_ne (by omega)]; exact h_b___1_G17
  have hq19_G21 : ∀ i, i < 1 → va_up ((fun _ => none)) 0 (some (ad13 (b + 2))) i = some (ad20 (b + 2 + 7 * i)) := fun i hi => by rw [hx22 _ (by omega)]; exact hq19 i hi
  have hb_b___2_G21 := hb_b___2_G17.mv (ad' := ad20) (G' := G21) (fun j h8 h9 => hx22 j (by omega)) (fun j h8 h9 => by rw [hG23, up_ne (by omega)])
  have h_b___9_G21 : G21 (b + 9) = .inr (1, [.null, .null, .null, .int (0), .int (0), .int (0)]) := by rw [hG23]; exact up_same
  refine k_cong (lv' := [(1, .int (1)), (0, .ref (ad20 b))]) (by rw [hx22 (b) (by omega)]) ?_
  refine k_congS (st' := [.ref (ad20 (b + 9)), .int (1), .ref (ad20 (b + 1))]) (by rw [hx22 (b + 1) (by omega)]) ?_
  refine k_dup C24 dX2_init_32 rfl ?_
  refine kn_call C24 hAO (As := []) (rest := [.ref (ad20 (b + 9)), .int (1), .ref (ad20 (b + 1))]) (m_X1_init l D cI cC cZ cB cJ ad20 (b + 9) G21 h_b___9_G21) gX2_init_X1_init rfl (List.mem_of_getElem? (i := 7) rfl) (List.mem_of_getElem? (i := 8) rfl) (List.mem_of_getElem? (i := 9) rfl) rfl kd_X1_init rfl rfl ⟨(Nat.le_of_ble_eq_true rfl), (Nat.le_of_ble_eq_true rfl)⟩ rfl rfl (Nat.le_of_ble_eq_true rfl) ⟨(Nat.le_of_ble_eq_true rfl), (Nat.le_of_ble_eq_true rfl)⟩ dX2_init_33 (fun ad25 G26 hp27 C28 => ?_)
  obtain ⟨hx_hp27, hb_hp27, hf_hp27⟩ := hp27
  have h_b_G26 : G26 (b) = .inr (2, [.ref (ad25 (b + 1)), .int (0), .int (0)]) := by rw [hx_hp27 (b + 1) (by omega), hf_hp27 (b) (by omega)]; exact h_b_G21
  have h_b___1_G26 : G26 (b + 1) = .inl (cB, 6, .inr (.inr (.inr (.inr (va_up ((fun _ => none)) 0 (some (ad13 (b + 2)))))))) := by rw [hf_hp27 (b + 1) (by omega)]; exact h_b___1_G21
  have hq19_G21_G26 : ∀ i, i < 1 → (va_up ((fun _ => none)) 0 (some (ad13 (b + 2)))) i = some (ad25 (b + 2 + 7 * i)) := fun i hi => by rw [hx_hp27 _ (by omega)]; exact hq19_G21 i hi
  have hb_b___2_G26 := hb_b___2_G21.mv (ad' := ad25) (G' := G26) (fun j h8 h9 => hx_hp27 j (by omega)) (fun j h8 h9 => hf_hp27 j (by omega))
  refine k_cong (lv' := [(1, .int (1)), (0, .ref (ad25 b))]) (by rw [hx_hp27 (b) (by omega)]) ?_
  refine k_congS (st' := [.ref (ad25 (b + 9)), .int (1), .ref (ad25 (b + 1))]) (by rw [hx_hp27 (b + 1) (by omega), hx_hp27 (b + 9) (by omega)]) ?_
  refine kn_astq C28 (b + 1) (b + 9) 3 (by omega) (by omega) h_b___1_G26 hb_hp27.1 rfl rfl (vp_in_nI (n := 1) (N := 6) (by decide) (by decide)) dX2_init_36 (fun G29 hG30 => ?_)
  have hq31 : ∀ i, i < 2 → (va_up (va_up ((fun _ => none)) 0 (some (ad13 (b + 2)))) 1 (some (ad25 (b + 9)))) i = some (ad25 (b + 2 + 7 * i)) := fun i hi => by
    rcases Nat.lt_or_ge i 1 with h9 | h9
    · rw [up_ne (Nat.ne_of_lt h9)]; exact hq19_G21_G26 i h9
    · rw [show i = 1 by omega, up_same]
  have h_b_G29 : G29 (b) = .inr (2, [.ref (ad25 (b + 1)), .int (0), .int (0)]) := up_at hG30 h_b_G26 (by omega)
  have hb_b___2_G29 := hb_b___2_G26.keep (G' := G29) (fun j h8 h9 => by rw [hG30, up_ne (by omega)])
  have hb_b___9_G29 := hb_hp27.keep (G' := G29) (fun j h8 h9 => by rw [hG30, up_ne (by omega)])
  have h_b___1_G29 : G29 (b + 1) = .inl (cB, 6, .inr (.inr (.inr (.inr (va_up (va_up ((fun _ => none)) 0 (some (ad13 (b + 2)))) 1 (some (ad25 (b + 9)))))))) := up_it hG30
  refine k_iinc C28 (v := 2) (lv' := [(1, .int (2)), (0, .ref (ad25 b))]) dX2_init_37 (j := 0) rfl (by decide) (by decide) rfl ?_
  refine k_goto C28 15 dX2_init_40 (by decide) ?_
  refine k_iload_n C28 dX2_init_15 rfl (j := 0) rfl ?_
  refine k_aload_n C28 dX2_init_16 rfl (j := 1) rfl ?_
  refine k_get C28 (b) inX2_init_2 (by omega) h_b_G29 rfl 0 (by decide) (List.mem_of_getElem? (i := 5) rfl) rfl rfl dX2_init_17 ?_
  refine k_alen C28 (b + 1) 3 (by omega) h_b___1_G29 rfl dX2_init_20 ?_
  refine k_icmp_ge C28 43 dX2_init_21 (by decide) (fun q => absurd q (show ¬ (nI 6 : Int32) ≤ 2 by decide)) (fun _ => ?_)
  refine k_aload_n C28 dX2_init_24 rfl (j := 1) rfl ?_
  refine k_get C28 (b) inX2_init_2 (by omega) h_b_G29 rfl 0 (by decide) (List.mem_of_getElem? (i := 5) rfl) rfl rfl dX2_init_25 ?_
  refine k_iload_n C28 dX2_init_28 rfl (j := 0) rfl ?_
  refine kn_new C28 (ci := 1) (fs := [.null, .null, .null, .int (0), .int (0), .int (0)]) (Nf := 6) inX2_init_1 tyX1 tyX1_ok (List.mem_of_getElem? (i := 4) rfl) (List.mem_of_getElem? (i := 6) rfl) (List.mem_of_getElem? (i := 7) rfl) rfl (by decide +kernel) (Nat.le_of_ble_eq_true rfl) (Nat.le_of_ble_eq_true rfl) dX2_init_29 (fun ad32 G33 hx34 hG35 C36 => ?_)
  have h_b_G33 : G33 (b) = .inr (2, [.ref (ad32 (b + 1)), .int (0), .int (0)]) := by rw [hG35, up_ne (by omega), hx34 (b + 1) (by omega)]; exact h_b_G29
  have h_b___1_G33 : G33 (b + 1) = .inl (cB, 6, .inr (.inr (.inr (.inr (va_up (va_up ((fun _ => none)) 0 (some (ad13 (b + 2)))) 1 (some (ad25 (b + 9)))))))) := by rw [hG35, up_ne (by omega)]; exact h_b___1_G29
  have hq31_G33 : ∀ i, i < 2 → va_up (va_up ((fun _ => none)) 0 (some (ad13 (b + 2)))) 1 (some (ad25 (b + 9))) i = some (ad32 (b + 2 + 7 * i)) := fun i hi => by rw [hx34 _ (by omega)]; exact hq31 i hi
  have hb_b___2_G33 := hb_b___2_G29.mv (ad' := ad32) (G' := G33) (fun j h8 h9 => hx34 j (by omega)) (fun j h8 h9 => by rw [hG35, up_ne (by omega)])
  have hb_b___9_G33 := hb_b___9_G29.mv (ad' := ad32) (G' := G33) (fun j h8 h9 => hx34 j (by omega)) (fun j h8 h9 => by rw [hG35, up_ne (by omega)])
  have h_b___16_G33 : G33 (b + 16) = .inr (1, [.null, .null, .null, .int (0), .int (0), .int (0)]) := by rw [hG35]; exact up_same
  refine k_cong (lv' := [(1, .int (2)), (0, .ref (ad32 b))]) (by rw [hx34 (b) (by omega)]) ?_
  refine k_congS (st' := [.ref (ad32 (b + 16)), .int (2), .ref (ad32 (b + 1))]) (by rw [hx34 (b + 1) (by omega)]) ?_
  refine k_dup C36 dX2_init_32 rfl ?_
  refine kn_call C36 hAO (As := []) (rest := [.ref (ad32 (b + 16)), .int (2), .ref (ad32 (b + 1))]) (m_X1_init l D cI cC cZ cB cJ ad32 (b + 16) G33 h_b___16_G33) gX2_init_X1_init rfl (List.mem_of_getElem? (i := 7) rfl) (List.mem_of_getElem? (i := 8) rfl) (List.mem_of_getElem? (i := 9) rfl) rfl kd_X1_init rfl rfl ⟨(Nat.le_of_ble_eq_true rfl), (Nat.le_of_ble_eq_true rfl)⟩ rfl rfl (Nat.le_of_ble_eq_true rfl) ⟨(Nat.le_of_ble_eq_true rfl), (Nat.le_of_ble_eq_true rfl)⟩ dX2_init_33 (fun ad37 G38 hp39 C40 => ?_)
  obtain ⟨hx_hp39, hb_hp39, hf_hp39⟩ := hp39
  have h_b_G38 : G38 (b) = .inr (2, [.ref (ad37 (b + 1)), .int (0), .int (0)]) := by rw [hx_hp39 (b + 1) (by omega), hf_hp39 (b) (by omega)]; exact h_b_G33
  have h_b___1_G38 : G38 (b + 1) = .inl (cB, 6, .inr (.inr (.inr (.inr (va_up (va_up ((fun _ => none)) 0 (some (ad13 (b + 2)))) 1 (some (ad25 (b + 9)))))))) := by rw [hf_hp39 (b + 1) (by omega)]; exact h_b___1_G33
  have hq31_G33_G38 : ∀ i, i < 2 → (va_up (va_up ((fun _ => none)) 0 (some (ad13 (b + 2)))) 1 (some (ad25 (b + 9)))) i = some (ad37 (b + 2 + 7 * i)) := fun i hi => by rw [hx_hp39 _ (by omega)]; exact hq31_G33 i hi
  have hb_b___2_G38 := hb_b___2_G33.mv (ad' := ad37) (G' := G38) (fun j h8 h9 => hx_hp39 j (by omega)) (fun j h8 h9 => hf_hp39 j (by omega))
  have hb_b___9_G38 := hb_b___9_G33.mv (ad' := ad37) (G' := G38) (fun j h8 h9 => hx_hp39 j (by omega)) (fun j h8 h9 => hf_hp39 j (by omega))
  refine k_cong (lv' := [(1, .int (2)), (0, .ref (ad37 b))]) (by rw [hx_hp39 (b) (by omega)]) ?_
  refine k_congS (st' := [.ref (ad37 (b + 16)), .int (2), .ref (ad37 (b + 1))]) (by rw [hx_hp39 (b + 1) (by omega), hx_hp39 (b + 16) (by omega)]) ?_
  refine kn_astq C40 (b + 1) (b + 16) 3 (by omega) (by omega) h_b___1_G38 hb_hp39.1 rfl rfl (vp_in_nI (n := 2) (N := 6) (by decide) (by decide)) dX2_init_36 (fun G41 hG42 => ?_)
  have hq43 : ∀ i, i < 3 → (va_up (va_up (va_up ((fun _ => none)) 0 (some (ad13 (b + 2)))) 1 (some (ad25 (b + 9)))) 2 (some (ad37 (b + 16)))) i = some (ad37 (b + 2 + 7 * i)) := fun i hi => by
    rcases Nat.lt_or_ge i 2 with h9 | h9
    · rw [up_ne (Nat.ne_of_lt h9)]; exact hq31_G33_G38 i h9
    · rw [show i = 2 by omega, up_same]
  have h_b_G41 : G41 (b) = .inr (2, [.ref (ad37 (b + 1)), .int (0), .int (0)]) := up_at hG42 h_b_G38 (by omega)
  have hb_b___2_G41 := hb_b___2_G38.keep (G' := G41) (fun j h8 h9 => by rw [hG42, up_ne (by omega)])
  have hb_b___9_G41 := hb_b___9_G38.keep (G' := G41) (fun j h8 h9 => by rw [hG42, up_ne (by omega)])
  have hb_b___16_G41 := hb_hp39.keep (G' := G41) (fun j h8 h9 => by rw [hG42, up_ne (by omega)])
  have h_b___1_G41 : G41 (b + 1) = .inl (cB, 6, .inr (.inr (.inr (.inr (va_up (va_up (va_up ((fun _ => none)) 0 (some (ad13 (b + 2)))) 1 (some (ad25 (b + 9)))) 2 (some (ad37 (b + 16)))))))) := up_it hG42
  refine k_iinc C40 (v := 3) (lv' := [(1, .int (3)), (0, .ref (ad37 b))]) dX2_init_37 (j := 0) rfl (by decide) (by decide) rfl ?_
  refine k_goto C40 15 dX2_init_40 (by decide) ?_
  refine k_iload_n C40 dX2_init_15 rfl (j := 0) rfl ?_
  refine k_aload_n C40 dX2_init_16 rfl (j := 1) rfl ?_
  refine k_get C40 (b) inX2_init_2 (by omega) h_b_G41 rfl 0 (by decide) (List.mem_of_getElem? (i := 5) rfl) rfl rfl dX2_init_17 ?_
  refine k_alen C40 (b + 1) 3 (by omega) h_b___1_G41 rfl dX2_init_20 ?_
  refine k_icmp_ge C40 43 dX2_init_21 (by decide) (fun q => absurd q (show ¬ (nI 6 : Int32) ≤ 3 by decide)) (fun _ => ?_)
  refine k_aload_n C40 dX2_init_24 rfl (j := 1) rfl ?_
  refine k_get C40 (b) inX2_init_2 (by omega) h_b_G41 rfl 0 (by decide) (List.mem_of_getElem? (i := 5) rfl) rfl rfl dX2_init_25 ?_
  refine k_iload_n C40 dX2_init_28 rfl (j := 0) rfl ?_
  refine kn_new C40 (ci := 1) (fs := [.null, .null, .null, .int (0), .int (0), .int (0)]) (Nf := 6) inX2_init_1 tyX1 tyX1_ok (List.mem_of_getElem? (i := 4) rfl) (List.mem_of_getElem? (i := 6) rfl) (List.mem_of_getElem? (i := 7) rfl) rfl (by decide +kernel) (Nat.le_of_ble_eq_true rfl) (Nat.le_of_ble_eq_true rfl) dX2_init_29 (fun ad44 G45 hx46 hG47 C48 => ?_)
  have h_b_G45 : G45 (b) = .inr (2, [.ref (ad44 (b + 1)), .int (0), .int (0)]) := by rw [hG47, up_ne (by omega), hx46 (b + 1) (by omega)]; exact h_b_G41
  have h_b___1_G45 : G45 (b + 1) = .inl (cB, 6, .inr (.inr (.inr (.inr (va_up (va_up (va_up ((fun _ => none)) 0 (some (ad13 (b + 2)))) 1 (some (ad25 (b + 9)))) 2 (some (ad37 (b + 16)))))))) := by rw [hG47, up_ne (by omega)]; exact h_b___1_G41
  have hq43_G45 : ∀ i, i < 3 → va_up (va_up (va_up ((fun _ => none)) 0 (some (ad13 (b + 2)))) 1 (some (ad25 (b + 9)))) 2 (some (ad37 (b + 16))) i = some (ad44 (b + 2 + 7 * i)) := fun i hi => by rw [hx46 _ (by omega)]; exact hq43 i hi
  have hb_b___2_G45 := hb_b___2_G41.mv (ad' := ad44) (G' := G45) (fun j h8 h9 => hx46 j (by omega)) (fun j h8 h9 => by rw [hG47, up_ne (by omega)])
  have hb_b___9_G45 := hb_b___9_G41.mv (ad' := ad44) (G' := G45) (fun j h8 h9 => hx46 j (by omega)) (fun j h8 h9 => by rw [hG47, up_ne (by omega)])
  have hb_b___16_G45 := hb_b___16_G41.mv (ad' := ad44) (G' := G45) (fun j h8 h9 => hx46 j (by omega)) (fun j h8 h9 => by rw [hG47, up_ne (by omega)])
  have h_b___23_G45 : G45 (b + 23) = .inr (1, [.null, .null, .null, .int (0), .int (0), .int (0)]) := by rw [hG47]; exact up_same
  refine k_cong (lv' := [(1, .int (3)), (0, .ref (ad44 b))]) (by rw [hx46 (b) (by omega)]) ?_
  refine k_congS (st' := [.ref (ad44 (b + 23)), .int (3), .ref (ad44 (b + 1))]) (by rw [hx46 (b + 1) (by omega)]) ?_
  refine k_dup C48 dX2_init_32 rfl ?_
  refine kn_call C48 hAO (As := []) (rest := [.ref (ad44 (b + 23)), .int (3), .ref (ad44 (b + 1))]) (m_X1_init l D cI cC cZ cB cJ ad44 (b + 23) G45 h_b___23_G45) gX2_init_X1_init rfl (List.mem_of_getElem? (i := 7) rfl) (List.mem_of_getElem? (i := 8) rfl) (List.mem_of_getElem? (i := 9) rfl) rfl kd_X1_init rfl rfl ⟨(Nat.le_of_ble_eq_true rfl), (Nat.le_of_ble_eq_true rfl)⟩ rfl rfl (Nat.le_of_ble_eq_true rfl) ⟨(Nat.le_of_ble_eq_true rfl), (Nat.le_of_ble_eq_true rfl)⟩ dX2_init_33 (fun ad49 G50 hp51 C52 => ?_)
  obtain ⟨hx_hp51, hb_hp51, hf_hp51⟩ := hp51
  have h_b_G50 : G50 (b) = .inr (2, [.ref (ad49 (b + 1)), .int (0), .int (0)]) := by rw [hx_hp51 (b + 1) (by omega), hf_hp51 (b) (by omega)]; exact h_b_G45
  have h_b___1_G50 : G50 (b + 1) = .inl (cB, 6, .inr (.inr (.inr (.inr (va_up (va_up (va_up ((fun _ => none)) 0 (some (ad13 (b + 2)))) 1 (some (ad25 (b + 9)))) 2 (some (ad37 (b + 16)))))))) := by rw [hf_hp51 (b + 1) (by omega)]; exact h_b___1_G45
  have hq43_G45_G50 : ∀ i, i < 3 → (va_up (va_up (va_up ((fun _ => none)) 0 (some (ad13 (b + 2)))) 1 (some (ad25 (b + 9)))) 2 (some (ad37 (b + 16)))) i = some (ad49 (b + 2 + 7 * i)) := fun i hi => by rw [hx_hp51 _ (by omega)]; exact hq43_G45 i hi
  have hb_b___2_G50 := hb_b___2_G45.mv (ad' := ad49) (G' := G50) (fun j h8 h9 => hx_hp51 j (by omega)) (fun j h8 h9 => hf_hp51 j (by omega))
  have hb_b___9_G50 := hb_b___9_G45.mv (ad' := ad49) (G' := G50) (fun j h8 h9 => hx_hp51 j (by omega)) (fun j h8 h9 => hf_hp51 j (by omega))
  have hb_b___16_G50 := hb_b___16_G45.mv (ad' := ad49) (G' := G50) (fun j h8 h9 => hx_hp51 j (by omega)) (fun j h8 h9 => hf_hp51 j (by omega))
  refine k_cong (lv' := [(1, .int (3)), (0, .ref (ad49 b))]) (by rw [hx_hp51 (b) (by omega)]) ?_
  refine k_congS (st' := [.ref (ad49 (b + 23)), .int (3), .ref (ad49 (b + 1))]) (by rw [hx_hp51 (b + 1) (by omega), hx_hp51 (b + 23) (by omega)]) ?_
  refine kn_astq C52 (b + 1) (b + 23) 3 (by omega) (by omega) h_b___1_G50 hb_hp51.1 rfl rfl (vp_in_nI (n := 3) (N := 6) (by decide) (by decide)) dX2_init_36 (fun G53 hG54 => ?_)
  have hq55 : ∀ i, i < 4 → (va_up (va_up (va_up (va_up ((fun _ => none)) 0 (some (ad13 (b + 2)))) 1 (some (ad25 (b + 9)))) 2 (some (ad37 (b + 16)))) 3 (some (ad49 (b + 23)))) i = some (ad49 (b + 2 + 7 * i)) := fun i hi => by
    rcases Nat.lt_or_ge i 3 with h9 | h9
    · rw [up_ne (Nat.ne_of_lt h9)]; exact hq43_G45_G50 i h9
    · rw [show i = 3 by omega, up_same]
  have h_b_G53 : G53 (b) = .inr (2, [.ref (ad49 (b + 1)), .int (0), .int (0)]) := up_at hG54 h_b_G50 (by omega)
  have hb_b___2_G53 := hb_b___2_G50.keep (G' := G53) (fun j h8 h9 => by rw [hG54, up_ne (by omega)])
  have hb_b___9_G53 := hb_b___9_G50.keep (G' := G53) (fun j h8 h9 => by rw [hG54, up_ne (by omega)])
  have hb_b___16_G53 := hb_b___16_G50.keep (G' := G53) (fun j h8 h9 => by rw [hG54, up_ne (by omega)])
  have hb_b___23_G53 := hb_hp51.keep (G' := G53) (fun j h8 h9 => by rw [hG54, up_ne (by omega)])
  have h_b___1_G53 : G53 (b + 1) = .inl (cB, 6, .inr (.inr (.inr (.inr (va_up (va_up (va_up (va_up ((fun _ => none)) 0 (some (ad13 (b + 2)))) 1 (some (ad25 (b + 9)))) 2 (some (ad37 (b + 16)))) 3 (some (ad49 (b + 23)))))))) := up_it hG54
  refine k_iinc C52 (v := 4) (lv' := [(1, .int (4)), (0, .ref (ad49 b))]) dX2_init_37 (j := 0) rfl (by decide) (by decide) rfl ?_
  refine k_goto C52 15 dX2_init_40 (by decide) ?_
  refine k_iload_n C52 dX2_init_15 rfl (j := 0) rfl ?_
  refine k_aload_n C52 dX2_init_16 rfl (j := 1) rfl ?_
  refine k_get C52 (b) inX2_init_2 (by omega) h_b_G53 rfl 0 (by decide) (List.mem_of_getElem? (i := 5) rfl) rfl rfl dX2_init_17 ?_
  refine k_alen C52 (b + 1) 3 (by omega) h_b___1_G53 rfl dX2_init_20 ?_
  refine k_icmp_ge C52 43 dX2_init_21 (by decide) (fun q => absurd q (show ¬ (nI 6 : Int32) ≤ 4 by decide)) (fun _ => ?_)
  refine k_aload_n C52 dX2_init_24 rfl (j := 1) rfl ?_
  refine k_get C52 (b) inX2_init_2 (by omega) h_b_G53 rfl 0 (by decide) (List.mem_of_getElem? (i := 5) rfl) rfl rfl dX2_init_25 ?_
  refine k_iload_n C52 dX2_init_28 rfl (j := 0) rfl ?_
  refine kn_new C52 (ci := 1) (fs := [.null, .null, .null, .int (0), .int (0), .int (0)]) (Nf := 6) inX2_init_1 tyX1 tyX1_ok (List.mem_of_getElem? (i := 4) rfl) (List.mem_of_getElem? (i := 6) rfl) (List.mem_of_getElem? (i := 7) rfl) rfl (by decide +kernel) (Nat.le_of_ble_eq_true rfl) (Nat.le_of_ble_eq_true rfl) dX2_init_29 (fun ad56 G57 hx58 hG59 C60 => ?_)
  have h_b_G57 : G57 (b) = .inr (2, [.ref (ad56 (b + 1)), .int (0), .int (0)]) := by rw [hG59, up_ne (by omega), hx58 (b + 1) (by omega)]; exact h_b_G53
  have h_b___1_G57 : G57 (b + 1) = .inl (cB, 6, .inr (.inr (.inr (.inr (va_up (va_up (va_up (va_up ((fun _ => none)) 0 (some (ad13 (b + 2)))) 1 (some (ad25 (b + 9)))) 2 (some (ad37 (b + 16)))) 3 (some (ad49 (b + 23)))))))) := by rw [hG59, up_ne (by omega)]; exact h_b___1_G53
  have hq55_G57 : ∀ i, i < 4 → va_up (va_up (va_up (va_up ((fun _ => none)) 0 (some (ad13 (b + 2)))) 1 (some (ad25 (b + 9)))) 2 (some (ad37 (b + 16)))) 3 (some (ad49 (b + 23))) i = some (ad56 (b + 2 + 7 * i)) := fun i hi => by rw [hx58 _ (by omega)]; exact hq55 i hi
  have hb_b___2_G57 := hb_b___2_G53.mv (ad' := ad56) (G' := G57) (fun j h8 h9 => hx58 j (by omega)) (fun j h8 h9 => by rw [hG59, up_ne (by omega)])
  have hb_b___9_G57 := hb_b___9_G53.mv (ad' := ad56) (G' := G57) (fun j h8 h9 => hx58 j (by omega)) (fun j h8 h9 => by rw [hG59, up_ne (by omega)])
  have hb_b___16_G57 := hb_b___16_G53.mv (ad' := ad56) (G' := G57) (fun j h8 h9 => hx58 j (by omega)) (fun j h8 h9 => by rw [hG59, up_ne (by omega)])
  have hb_b___23_G57 := hb_b___23_G53.mv (ad' := ad56) (G' := G57) (fun j h8 h9 => hx58 j (by omega)) (fun j h8 h9 => by rw [hG59, up_ne (by omega)])
  have h_b___30_G57 : G57 (b + 30) = .inr (1, [.null, .null, .null, .int (0), .int (0), .int (0)]) := by rw [hG59]; exact up_same
  refine k_cong (lv' := [(1, .int (4)), (0, .ref (ad56 b))]) (by rw [hx58 (b) (by omega)]) ?_
  refine k_congS (st' := [.ref (ad56 (b + 30)), .int (4), .ref (ad56 (b + 1))]) (by rw [hx58 (b + 1) (by omega)]) ?_
  refine k_dup C60 dX2_init_32 rfl ?_
  refine kn_call C60 hAO (As := []) (rest := [.ref (ad56 (b + 30)), .int (4), .ref (ad56 (b + 1))]) (m_X1_init l D cI cC cZ cB cJ ad56 (b + 30) G57 h_b___30_G57) gX2_init_X1_init rfl (List.mem_of_getElem? (i := 7) rfl) (List.mem_of_getElem? (i := 8) rfl) (List.mem_of_getElem? (i := 9) rfl) rfl kd_X1_init rfl rfl ⟨(Nat.le_of_ble_eq_true rfl), (Nat.le_of_ble_eq_true rfl)⟩ rfl rfl (Nat.le_of_ble_eq_true rfl) ⟨(Nat.le_of_ble_eq_true rfl), (Nat.le_of_ble_eq_true rfl)⟩ dX2_init_33 (fun ad61 G62 hp63 C64 => ?_)
  obtain ⟨hx_hp63, hb_hp63, hf_hp63⟩ := hp63
  have h_b_G62 : G62 (b) = .inr (2, [.ref (ad61 (b + 1)), .int (0), .int (0)]) := by rw [hx_hp63 (b + 1) (by omega), hf_hp63 (b) (by omega)]; exact h_b_G57
  have h_b___1_G62 : G62 (b + 1) = .inl (cB, 6, .inr (.inr (.inr (.inr (va_up (va_up (va_up (va_up ((fun _ => none)) 0 (some (ad13 (b + 2)))) 1 (some (ad25 (b + 9)))) 2 (some (ad37 (b + 16)))) 3 (some (ad49 (b + 23)))))))) := by rw [hf_hp63 (b + 1) (by omega)]; exact h_b___1_G57
  have hq55_G57_G62 : ∀ i, i < 4 → (va_up (va_up (va_up (va_up ((fun _ => none)) 0 (some (ad13 (b + 2)))) 1 (some (ad25 (b + 9)))) 2 (some (ad37 (b + 16)))) 3 (some (ad49 (b + 23)))) i = some (ad61 (b + 2 + 7 * i)) := fun i hi => by rw [hx_hp63 _ (by omega)]; exact hq55_G57 i hi
  have hb_b___2_G62 := hb_b___2_G57.mv (ad' := ad61) (G' := G62) (fun j h8 h9 => hx_hp63 j (by omega)) (fun j h8 h9 => hf_hp63 j (by omega))
  have hb_b___9_G62 := hb_b___9_G57.mv (ad' := ad61) (G' := G62) (fun j h8 h9 => hx_hp63 j (by omega)) (fun j h8 h9 => hf_hp63 j (by omega))
  have hb_b___16_G62 := hb_b___16_G57.mv (ad' := ad61) (G' := G62) (fun j h8 h9 => hx_hp63 j (by omega)) (fun j h8 h9 => hf_hp63 j (by omega))
  have hb_b___23_G62 := hb_b___23_G57.mv (ad' := ad61) (G' := G62) (fun j h8 h9 => hx_hp63 j (by omega)) (fun j h8 h9 => hf_hp63 j (by omega))
  refine k_cong (lv' := [(1, .int (4)), (0, .ref (ad61 b))]) (by rw [hx_hp63 (b) (by omega)]) ?_
  refine k_congS (st' := [.ref (ad61 (b + 30)), .int (4), .ref (ad61 (b + 1))]) (by rw [hx_hp63 (b + 1) (by omega), hx_hp63 (b + 30) (by omega)]) ?_
  refine kn_astq C64 (b + 1) (b + 30) 3 (by omega) (by omega) h_b___1_G62 hb_hp63.1 rfl rfl (vp_in_nI (n := 4) (N := 6) (by decide) (by decide)) dX2_init_36 (fun G65 hG66 => ?_)
  have hq67 : ∀ i, i < 5 → (va_up (va_up (va_up (va_up (va_up ((fun _ => none)) 0 (some (ad13 (b + 2)))) 1 (some (ad25 (b + 9)))) 2 (some (ad37 (b + 16)))) 3 (some (ad49 (b + 23)))) 4 (some (ad61 (b + 30)))) i = some (ad61 (b + 2 + 7 * i)) := fun i hi => by
    rcases Nat.lt_or_ge i 4 with h9 | h9
    · rw [up_ne (Nat.ne_of_lt h9)]; exact hq55_G57_G62 i h9
    · rw [show i = 4 by omega, up_same]
  have h_b_G65 : G65 (b) = .inr (2, [.ref (ad61 (b + 1)), .int (0), .int (0)]) := up_at hG66 h_b_G62 (by omega)
  have hb_b___2_G65 := hb_b___2_G62.keep (G' := G65) (fun j h8 h9 => by rw [hG66, up_ne (by omega)])
  have hb_b___9_G65 := hb_b___9_G62.keep (G' := G65) (fun j h8 h9 => by rw [hG66, up_ne (by omega)])
  have hb_b___16_G65 := hb_b___16_G62.keep (G' := G65) (fun j h8 h9 => by rw [hG66, up_ne (by omega)])
  have hb_b___23_G65 := hb_b___23_G62.keep (G' := G65) (fun j h8 h9 => by rw [hG66, up_ne (by omega)])
  have hb_b___30_G65 := hb_hp63.keep (G' := G65) (fun j h8 h9 => by rw [hG66, up_ne (by omega)])
  have h_b___1_G65 : G65 (b + 1) = .inl (cB, 6, .inr (.inr (.inr (.inr (va_up (va_up (va_up (va_up (va_up ((fun _ => none)) 0 (some (ad13 (b + 2)))) 1 (some (ad25 (b + 9)))) 2 (some (ad37 (b + 16)))) 3 (some (ad49 (b + 23)))) 4 (some (ad61 (b + 30)))))))) := up_it hG66
  refine k_iinc C64 (v := 5) (lv' := [(1, .int (5)), (0, .ref (ad61 b))]) dX2_init_37 (j := 0) rfl (by decide) (by decide) rfl ?_
  refine k_goto C64 15 dX2_init_40 (by decide) ?_
  refine k_iload_n C64 dX2_init_15 rfl (j := 0) rfl ?_
  refine k_aload_n C64 dX2_init_16 rfl (j := 1) rfl ?_
  refine k_get C64 (b) inX2_init_2 (by omega) h_b_G65 rfl 0 (by decide) (List.mem_of_getElem? (i := 5) rfl) rfl rfl dX2_init_17 ?_
  refine k_alen C64 (b + 1) 3 (by omega) h_b___1_G65 rfl dX2_init_20 ?_
  refine k_icmp_ge C64 43 dX2_init_21 (by decide) (fun q => absurd q (show ¬ (nI 6 : Int32) ≤ 5 by decide)) (fun _ => ?_)
  refine k_aload_n C64 dX2_init_24 rfl (j := 1) rfl ?_
  refine k_get C64 (b) inX2_init_2 (by omega) h_b_G65 rfl 0 (by decide) (List.mem_of_getElem? (i := 5) rfl) rfl rfl dX2_init_25 ?_
  refine k_iload_n C64 dX2_init_28 rfl (j := 0) rfl ?_
  refine kn_new C64 (ci := 1) (fs := [.null, .null, .null, .int (0), .int (0), .int (0)]) (Nf := 6) inX2_init_1 tyX1 tyX1_ok (List.mem_of_getElem? (i := 4) rfl) (List.mem_of_getElem? (i := 6) rfl) (List.mem_of_getElem? (i := 7) rfl) rfl (by decide +kernel) (Nat.le_of_ble_eq_true rfl) (Nat.le_of_ble_eq_true rfl) dX2_init_29 (fun ad68 G69 hx70 hG71 C72 => ?_)
  have h_b_G69 : G69 (b) = .inr (2, [.ref (ad68 (b + 1)), .int (0), .int (0)]) := by rw [hG71, up_ne (by omega), hx70 (b + 1) (by omega)]; exact h_b_G65
  have h_b___1_G69 : G69 (b + 1) = .inl (cB, 6, .inr (.inr (.inr (.inr (va_up (va_up (va_up (va_up (va_up ((fun _ => none)) 0 (some (ad13 (b + 2)))) 1 (some (ad25 (b + 9)))) 2 (some (ad37 (b + 16)))) 3 (some (ad49 (b + 23)))) 4 (some (ad61 (b + 30)))))))) := by rw [hG71, up_ne (by omega)]; exact h_b___1_G65
  have hq67_G69 : ∀ i, i < 5 → va_up (va_up (va_up (va_up (va_up ((fun _ => none)) 0 (some (ad13 (b + 2)))) 1 (some (ad25 (b + 9)))) 2 (some (ad37 (b + 16)))) 3 (some (ad49 (b + 23)))) 4 (some (ad61 (b + 30))) i = some (ad68 (b + 2 + 7 * i)) := fun i hi => by rw [hx70 _ (by omega)]; exact hq67 i hi
  have hb_b___2_G69 := hb_b___2_G65.mv (ad' := ad68) (G' := G69) (fun j h8 h9 => hx70 j (by omega)) (fun j h8 h9 => by rw [hG71, up_ne (by omega)])
  have hb_b___9_G69 := hb_b___9_G65.mv (ad' := ad68) (G' := G69) (fun j h8 h9 => hx70 j (by omega)) (fun j h8 h9 => by rw [hG71, up_ne (by omega)])
  have hb_b___16_G69 := hb_b___16_G65.mv (ad' := ad68) (G' := G69) (fun j h8 h9 => hx70 j (by omega)) (fun j h8 h9 => by rw [hG71, up_ne (by omega)])
  have hb_b___23_G69 := hb_b___23_G65.mv (ad' := ad68) (G' := G69) (fun j h8 h9 => hx70 j (by omega)) (fun j h8 h9 => by rw [hG71, up_ne (by omega)])
  have hb_b___30_G69 := hb_b___30_G65.mv (ad' := ad68) (G' := G69) (fun j h8 h9 => hx70 j (by omega)) (fun j h8 h9 => by rw [hG71, up_ne (by omega)])
  have h_b___37_G69 : G69 (b + 37) = .inr (1, [.null, .null, .null, .int (0), .int (0), .int (0)]) := by rw [hG71]; exact up_same
  refine k_cong (lv' := [(1, .int (5)), (0, .ref (ad68 b))]) (by rw [hx70 (b) (by omega)]) ?_
  refine k_congS (st' := [.ref (ad68 (b + 37)), .int (5), .ref (ad68 (b + 1))]) (by rw [hx70 (b + 1) (by omega)]) ?_
  refine k_dup C72 dX2_init_32 rfl ?_
  refine kn_call C72 hAO (As := []) (rest := [.ref (ad68 (b + 37)), .int (5), .ref (ad68 (b + 1))]) (m_X1_init l D cI cC cZ cB cJ ad68 (b + 37) G69 h_b___37_G69) gX2_init_X1_init rfl (List.mem_of_getElem? (i := 7) rfl) (List.mem_of_getElem? (i := 8) rfl) (List.mem_of_getElem? (i := 9) rfl) rfl kd_X1_init rfl rfl ⟨(Nat.le_of_ble_eq_true rfl), (Nat.le_of_ble_eq_true rfl)⟩ rfl rfl (Nat.le_of_ble_eq_true rfl) ⟨(Nat.le_of_ble_eq_true rfl), (Nat.le_of_ble_eq_true rfl)⟩ dX2_init_33 (fun ad73 G74 hp75 C76 => ?_)
  obtain ⟨hx_hp75, hb_hp75, hf_hp75⟩ := hp75
  have h_b_G74 : G74 (b) = .inr (2, [.ref (ad73 (b + 1)), .int (0), .int (0)]) := by rw [hx_hp75 (b + 1) (by omega), hf_hp75 (b) (by omega)]; exact h_b_G69
  have h_b___1_G74 : G74 (b + 1) = .inl (cB, 6, .inr (.inr (.inr (.inr (va_up (va_up (va_up (va_up (va_up ((fun _ => none)) 0 (some (ad13 (b + 2)))) 1 (some (ad25 (b + 9)))) 2 (some (ad37 (b + 16)))) 3 (some (ad49 (b + 23)))) 4 (some (ad61 (b + 30)))))))) := by rw [hf_hp75 (b + 1) (by omega)]; exact h_b___1_G69
  have hq67_G69_G74 : ∀ i, i < 5 → (va_up (va_up (va_up (va_up (va_up ((fun _ => none)) 0 (some (ad13 (b + 2)))) 1 (some (ad25 (b + 9)))) 2 (some (ad37 (b + 16)))) 3 (some (ad49 (b + 23)))) 4 (some (ad61 (b + 30)))) i = some (ad73 (b + 2 + 7 * i)) := fun i hi => by rw [hx_hp75 _ (by omega)]; exact hq67_G69 i hi
  have hb_b___2_G74 := hb_b___2_G69.mv (ad' := ad73) (G' := G74) (fun j h8 h9 => hx_hp75 j (by omega)) (fun j h8 h9 => hf_hp75 j (by omega))
  have hb_b___9_G74 := hb_b___9_G69.mv (ad' := ad73) (G' := G74) (fun j h8 h9 => hx_hp75 j (by omega)) (fun j h8 h9 => hf_hp75 j (by omega))
  have hb_b___16_G74 := hb_b___16_G69.mv (ad' := ad73) (G' := G74) (fun j h8 h9 => hx_hp75 j (by omega)) (fun j h8 h9 => hf_hp75 j (by omega))
  have hb_b___23_G74 := hb_b___23_G69.mv (ad' := ad73) (G' := G74) (fun j h8 h9 => hx_hp75 j (by omega)) (fun j h8 h9 => hf_hp75 j (by omega))
  have hb_b___30_G74 := hb_b___30_G69.mv (ad' := ad73) (G' := G74) (fun j h8 h9 => hx_hp75 j (by omega)) (fun j h8 h9 => hf_hp75 j (by omega))
  refine k_cong (lv' := [(1, .int (5)), (0, .ref (ad73 b))]) (by rw [hx_hp75 (b) (by omega)]) ?_
  refine k_congS (st' := [.ref (ad73 (b + 37)), .int (5), .ref (ad73 (b + 1))]) (by rw [hx_hp75 (b + 1) (by omega), hx_hp75 (b + 37) (by omega)]) ?_
  refine kn_astq C76 (b + 1) (b + 37) 3 (by omega) (by omega) h_b___1_G74 hb_hp75.1 rfl rfl (vp_in_nI (n := 5) (N := 6) (by decide) (by decide)) dX2_init_36 (fun G77 hG78 => ?_)
  have hq79 : ∀ i, i < 6 → (va_up (va_up (va_up (va_up (va_up (va_up ((fun _ => none)) 0 (some (ad13 (b + 2)))) 1 (some (ad25 (b + 9)))) 2 (some (ad37 (b + 16)))) 3 (some (ad49 (b + 23)))) 4 (some (ad61 (b + 30)))) 5 (some (ad73 (b + 37)))) i = some (ad73 (b + 2 + 7 * i)) := fun i hi => by
    rcases Nat.lt_or_ge i 5 with h9 | h9
    · rw [up_ne (Nat.ne_of_lt h9)]; exact hq67_G69_G74 i h9
    · rw [show i = 5 by omega, up_same]
  have h_b_G77 : G77 (b) = .inr (2, [.ref (ad73 (b + 1)), .int (0), .int (0)]) := up_at hG78 h_b_G74 (by omega)
  have hb_b___2_G77 := hb_b___2_G74.keep (G' := G77) (fun j h8 h9 => by rw [hG78, up_ne (by omega)])
  have hb_b___9_G77 := hb_b___9_G74.keep (G' := G77) (fun j h8 h9 => by rw [hG78, up_ne (by omega)])
  have hb_b___16_G77 := hb_b___16_G74.keep (G' := G77) (fun j h8 h9 => by rw [hG78, up_ne (by omega)])
  have hb_b___23_G77 := hb_b___23_G74.keep (G' := G77) (fun j h8 h9 => by rw [hG78, up_ne (by omega)])
  have hb_b___30_G77 := hb_b___30_G74.keep (G' := G77) (fun j h8 h9 => by rw [hG78, up_ne (by omega)])
  have hb_b___37_G77 := hb_hp75.keep (G' := G77) (fun j h8 h9 => by rw [hG78, up_ne (by omega)])
  have h_b___1_G77 : G77 (b + 1) = .inl (cB, 6, .inr (.inr (.inr (.inr (va_up (va_up (va_up (va_up (va_up (va_up ((fun _ => none)) 0 (some (ad13 (b + 2)))) 1 (some (ad25 (b + 9)))) 2 (some (ad37 (b + 16)))) 3 (some (ad49 (b + 23)))) 4 (some (ad61 (b + 30)))) 5 (some (ad73 (b + 37)))))))) := up_it hG78
  refine k_iinc C76 (v := 6) (lv' := [(1, .int (6)), (0, .ref (ad73 b))]) dX2_init_37 (j := 0) rfl (by decide) (by decide) rfl ?_
  refine k_goto C76 15 dX2_init_40 (by decide) ?_
  refine k_iload_n C76 dX2_init_15 rfl (j := 0) rfl ?_
  refine k_aload_n C76 dX2_init_16 rfl (j := 1) rfl ?_
  refine k_get C76 (b) inX2_init_2 (by omega) h_b_G77 rfl 0 (by decide) (List.mem_of_getElem? (i := 5) rfl) rfl rfl dX2_init_17 ?_
  refine k_alen C76 (b + 1) 3 (by omega) h_b___1_G77 rfl dX2_init_20 ?_
  refine k_icmp_ge C76 43 dX2_init_21 (by decide) (fun _ => ?_) (fun q => absurd (show (nI 6 : Int32) ≤ 6 by decide) q)
  have hbks : ∀ i, i < 6 → isBk ad73 cI G77 (b + 2 + 7 * i) bk0 := fun i hi => by
    rcases (show i = 0 ∨ i = 1 ∨ i = 2 ∨ i = 3 ∨ i = 4 ∨ i = 5 by omega) with rfl | rfl | rfl | rfl | rfl | rfl
    · exact hb_b___2_G77
    · exact hb_b___9_G77
    · exact hb_b___16_G77
    · exact hb_b___23_G77
    · exact hb_b___30_G77
    · exact hb_b___37_G77
  exact kn_ret C76 (post := fun ad' G' => (∀ i, i < b + 1 → ad' i = ad i) ∧ isHi ad' cI cB G' b hi0 ∧ ∀ j, j < b → G' j = G j) hQ rfl rfl (Nat.le_of_ble_eq_true rfl) (Nat.le_of_ble_eq_true rfl) dX2_init_43 ⟨fun i hi => (hx_hp75 i (by omega) : _).trans ((hx70 i (by omega) : _).trans ((hx_hp63 i (by omega) : _).trans ((hx58 i (by omega) : _).trans ((hx_hp51 i (by omega) : _).trans ((hx46 i (by omega) : _).trans ((hx_hp39 i (by omega) : _).trans ((hx34 i (by omega) : _).trans ((hx_hp27 i (by omega) : _).trans ((hx22 i (by omega) : _).trans ((hx_hp15 i (by omega) : _).trans ((hx10 i (by omega) : _).trans (hx3 i (by omega))))))))))))), ⟨h_b_G77, ⟨_, h_b___1_G77, hq79⟩, hbks, by decide, by decide⟩, fun j hj => (show _ = _ from by rw [hG78, up_ne (by omega)]).trans ((hf_hp75 j (by omega) : _).trans ((show _ = _ from by rw [hG71, up_ne (by omega)]).trans ((show _ = _ from by rw [hG66, up_ne (by omega)]).trans ((hf_hp63 j (by omega) : _).trans ((show _ = _ from by rw [hG59, up_ne (by omega)]).trans ((show _ = _ from by rw [hG54, up_ne (by omega)]).trans ((hf_hp51 j (by omega) : _).trans ((show _ = _ from by rw [hG47, up_ne (by omega)]).trans ((show _ = _ from by rw [hG42, up_ne (by omega)]).trans ((hf_hp39 j (by omega) : _).trans ((show _ = _ from by rw [hG35, up_ne (by omega)]).trans ((show _ = _ from by rw [hG30, up_ne (by omega)]).trans ((hf_hp27 j (by omega) : _).trans ((show _ = _ from by rw [hG23, up_ne (by omega)]).trans ((show _ = _ from by rw [hG18, up_ne (by omega)]).trans ((hf_hp15 j (by omega) : _).trans ((show _ = _ from by rw [hG11, up_ne (by omega)]).trans ((show _ = _ from by rw [hG7, up_ne (by omega)]).trans ((show _ = _ from by rw [hG4, up_ne (by omega)]))))))))))))))))))))⟩
theorem inX6_init_1 : ∀ w ∈ wsX10, w ∈ wsX6_init := fun _ h => List.mem_cons_of_mem _ (List.mem_append_left _ (List.mem_append_left _ (List.mem_append_left _ (List.mem_append_left _ (List.mem_append_left _ (List.mem_append_left _ (List.mem_append_right _ h)))))))
theorem inX6_init_6 : ∀ w ∈ wsX60, w ∈ wsX6_init := fun _ h => List.mem_cons_of_mem _ (List.mem_append_left _ (List.mem_append_left _ (List.mem_append_left _ (List.mem_append_left _ (List.mem_append_left _ (List.mem_append_right _ h))))))
theorem inX6_init_0 : ∀ w ∈ wsX00, w ∈ wsX6_init := fun _ h => List.mem_cons_of_mem _ (List.mem_append_left _ (List.mem_append_left _ (List.mem_append_left _ (List.mem_append_left _ (List.mem_append_right _ h)))))
theorem inX6_init_5 : ∀ w ∈ wsX50, w ∈ wsX6_init := fun _ h => List.mem_cons_of_mem _ (List.mem_append_left _ (List.mem_append_left _ (List.mem_append_left _ (List.mem_append_right _ h))))
theorem inX6_init_2 : ∀ w ∈ wsX20, w ∈ wsX6_init := fun _ h => List.mem_cons_of_mem _ (List.mem_append_left _ (List.mem_append_left _ (List.mem_append_right _ h)))
theorem inX6_init_3 : ∀ w ∈ wsX30, w ∈ wsX6_init := fun _ h => List.mem_cons_of_mem _ (List.mem_append_left _ (List.mem_append_right _ h))
theorem inX6_init_4 : ∀ w ∈ wsX40, w ∈ wsX6_init := fun _ h => List.mem_cons_of_mem _ (List.mem_append_right _ h)
theorem kd_X6_init : yX6_init.cls ≠ "java/lang/invoke/MethodHandle" ∧ yX6_init.cls ≠ "java/lang/invoke/VarHandle" ∧ (parseMethodDescriptor yX6_init.desc).map (fun d => d.parameters.length) = some 0 := by decide +kernel
abbrev rX6_init : Room := ({ frames := 4, cells := 72, slots := 3013, locals := 83 } : Room)
set_option maxRecDepth 100000 in
set_option maxHeartbeats 8000000 in
/-- FieldBook() -/
theorem m_X6_init (l : Launch) (D : va_G) (cI cC cZ cB cJ : ClassId) (ad : Nat → Nat) (G : Nat → va_E) (hG0 : G 0 = .inr (6, [.null, .null, .null, .null, .null, .null])) : kNv l yX6_init wsX6_init rX6_init D (kT5 cI cC cZ cB cJ) ad 1 G [.ref (ad 0)] 73 72 3013 (fun ad' G' => (∀ i, i < 1 → ad' i = ad i) ∧ isFB ad' cI cB G' bk0 ar0 tx0 hi0 sl0 sl0) := by
  refine kn_start (cc := cX6_init) (ret := none) (maxL := 1) (lv0 := [(0, .ref (ad 0))]) (by decide) rfl rfl (Nat.le_of_ble_eq_true rfl) rfl ?_
  intro p e s m args below meth c A Q C hnI hAO hQ
  refine k_aload_n C dX6_init_0 rfl (j := 0) rfl ?_
  refine kn_obj C (List.mem_of_getElem? (i := 1) rfl) (List.mem_of_getElem? (i := 2) rfl) (List.mem_of_getElem? (i := 3) rfl) (Nat.le_of_ble_eq_true rfl) (Nat.le_of_ble_eq_true rfl) dX6_init_1 ?_
  refine k_aload_n C dX6_init_4 rfl (j := 0) rfl ?_
  refine kn_new C (ci := 1) (fs := [.null, .null, .null, .int (0), .int (0), .int (0)]) (Nf := 6) inX6_init_1 tyX1 tyX1_ok (List.mem_of_getElem? (i := 4) rfl) (List.mem_of_getElem? (i := 5) rfl) (List.mem_of_getElem? (i := 6) rfl) rfl (by decide +kernel) (Nat.le_of_ble_eq_true rfl) (Nat.le_of_ble_eq_true rfl) dX6_init_5 (fun ad1 G2 hx3 hG4 C5 => ?_)
  have h_0_G2 : G2 (0) = .inr (6, [.null, .null, .null, .null, .null, .null]) := by rw [hG4, up_ne (by omega)]; exact hG0
  have h_1_G2 : G2 (1) = .inr (1, [.null, .null, .null, .int (0), .int (0), .int (0)]) := by rw [hG4]; exact up_same
  refine k_cong (lv' := [(0, .ref (ad1 0))]) (by rw [hx3 (0) (by omega)]) ?_
  refine k_congS (st' := [.ref (ad1 1), .ref (ad1 0)]) (by rw [hx3 (0) (by omega)]) ?_
  refine k_dup C5 dX6_init_8 rfl ?_
  refine kn_call C5 hAO (As := []) (rest := [.ref (ad1 1), .ref (ad1 0)]) (m_X1_init l D cI cC cZ cB cJ ad1 (1) G2 h_1_G2) gX6_init_X1_init rfl (List.mem_of_getElem? (i := 6) rfl) (List.mem_of_getElem? (i := 25) rfl) (List.mem_of_getElem? (i := 26) rfl) rfl kd_X1_init rfl rfl ⟨(Nat.le_of_ble_eq_true rfl), (Nat.le_of_ble_eq_true rfl)⟩ rfl rfl (Nat.le_of_ble_eq_true rfl) ⟨(Nat.le_of_ble_eq_true rfl), (Nat.le_of_ble_eq_true rfl)⟩ dX6_init_9 (fun ad6 G7 hp8 C9 => ?_)
  obtain ⟨hx_hp8, hb_hp8, hf_hp8⟩ := hp8
  have h_0_G7 : G7 (0) = .inr (6, [.null, .null, .null, .null, .null, .null]) := by rw [hf_hp8 (0) (by omega)]; exact h_0_G2
  refine k_cong (lv' := [(0, .ref (ad6 0))]) (by rw [hx_hp8 (0) (by omega)]) ?_
  refine k_congS (st' := [.ref (ad6 1), .ref (ad6 0)]) (by rw [hx_hp8 (0) (by omega), hx_hp8 (1) (by omega)]) ?_
  refine k_putF C9 (0) inX6_init_6 tyX6 tyX6_ok nmX6 (by omega) h_0_G7 rfl 0 (by decide) (List.mem_of_getElem? (i := 7) rfl) rfl rfl hnI rfl rfl rfl (Nat.le_of_ble_eq_true rfl) dX6_init_12 (fun G10 hG11 => ?_)
  have hb_1_G10 := hb_hp8.keep (G' := G10) (fun j h8 h9 => by rw [hG11, up_ne (by omega)])
  have h_0_G10 : G10 (0) = .inr (6, [.ref (ad6 1), .null, .null, .null, .null, .null]) := up_it hG11
  refine k_aload_n C9 dX6_init_15 rfl (j := 0) rfl ?_
  refine kn_new C9 (ci := 0) (fs := [.null, .null, .int (0), .int (0), .int (0)]) (Nf := 5) inX6_init_0 tyX0 tyX0_ok (List.mem_of_getElem? (i := 8) rfl) (List.mem_of_getElem? (i := 9) rfl) (List.mem_of_getElem? (i := 10) rfl) rfl (by decide +kernel) (Nat.le_of_ble_eq_true rfl) (Nat.le_of_ble_eq_true rfl) dX6_init_16 (fun ad12 G13 hx14 hG15 C16 => ?_)
  have h_0_G13 : G13 (0) = .inr (6, [.ref (ad12 1), .null, .null, .null, .null, .null]) := by rw [hG15, up_ne (by omega), hx14 (1) (by omega)]; exact h_0_G10
  have hb_1_G13 := hb_1_G10.mv (ad' := ad12) (G' := G13) (fun j h8 h9 => hx14 j (by omega)) (fun j h8 h9 => by rw [hG15, up_ne (by omega)])
  have h_8_G13 : G13 (8) = .inr (0, [.null, .null, .int (0), .int (0), .int (0)]) := by rw [hG15]; exact up_same
  refine k_cong (lv' := [(0, .ref (ad12 0))]) (by rw [hx14 (0) (by omega)]) ?_
  refine k_congS (st' := [.ref (ad12 8), .ref (ad12 0)]) (by rw [hx14 (0) (by omega)]) ?_
  refine k_dup C16 dX6_init_19 rfl ?_
  refine kn_call C16 hAO (As := []) (rest := [.ref (ad12 8), .ref (ad12 0)]) (m_X0_init l D cI cC cZ cB cJ ad12 (8) G13 h_8_G13) gX6_init_X0_init rfl (List.mem_of_getElem? (i := 10) rfl) (List.mem_of_getElem? (i := 44) rfl) (List.mem_of_getElem? (i := 45) rfl) rfl kd_X0_init rfl rfl ⟨(Nat.le_of_ble_eq_true rfl), (Nat.le_of_ble_eq_true rfl)⟩ rfl rfl (Nat.le_of_ble_eq_true rfl) ⟨(Nat.le_of_ble_eq_true rfl), (Nat.le_of_ble_eq_true rfl)⟩ dX6_init_20 (fun ad17 G18 hp19 C20 => ?_)
  obtain ⟨hx_hp19, hb_hp19, hf_hp19⟩ := hp19
  have h_0_G18 : G18 (0) = .inr (6, [.ref (ad17 1), .null, .null, .null, .null, .null]) := by rw [hx_hp19 (1) (by omega), hf_hp19 (0) (by omega)]; exact h_0_G13
  have hb_1_G18 := hb_1_G13.mv (ad' := ad17) (G' := G18) (fun j h8 h9 => hx_hp19 j (by omega)) (fun j h8 h9 => hf_hp19 j (by omega))
  refine k_cong (lv' := [(0, .ref (ad17 0))]) (by rw [hx_hp19 (0) (by omega)]) ?_
  refine k_congS (st' := [.ref (ad17 8), .ref (ad17 0)]) (by rw [hx_hp19 (0) (by omega), hx_hp19 (8) (by omega)]) ?_
  refine k_putF C20 (0) inX6_init_6 tyX6 tyX6_ok nmX6 (by omega) h_0_G18 rfl 1 (by decide) (List.mem_of_getElem? (i := 11) rfl) rfl rfl hnI rfl rfl rfl (Nat.le_of_ble_eq_true rfl) dX6_init_23 (fun G21 hG22 => ?_)
  have hb_1_G21 := hb_1_G18.keep (G' := G21) (fun j h8 h9 => by rw [hG22, up_ne (by omega)])
  have hb_8_G21 := hb_hp19.keep (G' := G21) (fun j h8 h9 => by rw [hG22, up_ne (by omega)])
  have h_0_G21 : G21 (0) = .inr (6, [.ref (ad17 1), .ref (ad17 8), .null, .null, .null, .null]) := up_it hG22
  refine k_aload_n C20 dX6_init_26 rfl (j := 0) rfl ?_
  refine kn_new C20 (ci := 5) (fs := [.null, .int (0)]) (Nf := 2) inX6_init_5 tyX5 tyX5_ok (List.mem_of_getElem? (i := 12) rfl) (List.mem_of_getElem? (i := 13) rfl) (List.mem_of_getElem? (i := 14) rfl) rfl (by decide +kernel) (Nat.le_of_ble_eq_true rfl) (Nat.le_of_ble_eq_true rfl) dX6_init_27 (fun ad23 G24 hx25 hG26 C27 => ?_)
  have h_0_G24 : G24 (0) = .inr (6, [.ref (ad23 1), .ref (ad23 8), .null, .null, .null, .null]) := by rw [hG26, up_ne (by omega), hx25 (1) (by omega), hx25 (8) (by omega)]; exact h_0_G21
  have hb_1_G24 := hb_1_G21.mv (ad' := ad23) (G' := G24) (fun j h8 h9 => hx25 j (by omega)) (fun j h8 h9 => by rw [hG26, up_ne (by omega)])
  have hb_8_G24 := hb_8_G21.mv (ad' := ad23) (G' := G24) (fun j h8 h9 => hx25 j (by omega)) (fun j h8 h9 => by rw [hG26, up_ne (by omega)])
  have h_11_G24 : G24 (11) = .inr (5, [.null, .int (0)]) := by rw [hG26]; exact up_same
  refine k_cong (lv' := [(0, .ref (ad23 0))]) (by rw [hx25 (0) (by omega)]) ?_
  refine k_congS (st' := [.ref (ad23 11), .ref (ad23 0)]) (by rw [hx25 (0) (by omega)]) ?_
  refine k_dup C27 dX6_init_30 rfl ?_
  refine kn_call C27 hAO (As := []) (rest := [.ref (ad23 11), .ref (ad23 0)]) (m_X5_init l D cI cC cZ cB cJ ad23 (11) G24 h_11_G24) gX6_init_X5_init rfl (List.mem_of_getElem? (i := 14) rfl) (List.mem_of_getElem? (i := 50) rfl) (List.mem_of_getElem? (i := 51) rfl) rfl kd_X5_init rfl rfl ⟨(Nat.le_of_ble_eq_true rfl), (Nat.le_of_ble_eq_true rfl)⟩ rfl rfl (Nat.le_of_ble_eq_true rfl) ⟨(Nat.le_of_ble_eq_true rfl), (Nat.le_of_ble_eq_true rfl)⟩ dX6_init_31 (fun ad28 G29 hp30 C31 => ?_)
  obtain ⟨hx_hp30, hb_hp30, hf_hp30⟩ := hp30
  have h_0_G29 : G29 (0) = .inr (6, [.ref (ad28 1), .ref (ad28 8), .null, .null, .null, .null]) := by rw [hx_hp30 (1) (by omega), hx_hp30 (8) (by omega), hf_hp30 (0) (by omega)]; exact h_0_G24
  have hb_1_G29 := hb_1_G24.mv (ad' := ad28) (G' := G29) (fun j h8 h9 => hx_hp30 j (by omega)) (fun j h8 h9 => hf_hp30 j (by omega))
  have hb_8_G29 := hb_8_G24.mv (ad' := ad28) (G' := G29) (fun j h8 h9 => hx_hp30 j (by omega)) (fun j h8 h9 => hf_hp30 j (by omega))
  refine k_cong (lv' := [(0, .ref (ad28 0))]) (by rw [hx_hp30 (0) (by omega)]) ?_
  refine k_congS (st' := [.ref (ad28 11), .ref (ad28 0)]) (by rw [hx_hp30 (0) (by omega), hx_hp30 (11) (by omega)]) ?_
  refine k_putF C31 (0) inX6_init_6 tyX6 tyX6_ok nmX6 (by omega) h_0_G29 rfl 2 (by decide) (List.mem_of_getElem? (i := 15) rfl) rfl rfl hnI rfl rfl rfl (Nat.le_of_ble_eq_true rfl) dX6_init_34 (fun G32 hG33 => ?_)
  have hb_1_G32 := hb_1_G29.keep (G' := G32) (fun j h8 h9 => by rw [hG33, up_ne (by omega)])
  have hb_8_G32 := hb_8_G29.keep (G' := G32) (fun j h8 h9 => by rw [hG33, up_ne (by omega)])
  have hb_11_G32 := hb_hp30.keep (G' := G32) (fun j h8 h9 => by rw [hG33, up_ne (by omega)])
  have h_0_G32 : G32 (0) = .inr (6, [.ref (ad28 1), .ref (ad28 8), .ref (ad28 11), .null, .null, .null]) := up_it hG33
  refine k_aload_n C31 dX6_init_37 rfl (j := 0) rfl ?_
  refine kn_new C31 (ci := 2) (fs := [.null, .int (0), .int (0)]) (Nf := 3) inX6_init_2 tyX2 tyX2_ok (List.mem_of_getElem? (i := 16) rfl) (List.mem_of_getElem? (i := 17) rfl) (List.mem_of_getElem? (i := 18) rfl) rfl (by decide +kernel) (Nat.le_of_ble_eq_true rfl) (Nat.le_of_ble_eq_true rfl) dX6_init_38 (fun ad34 G35 hx36 hG37 C38 => ?_)
  have h_0_G35 : G35 (0) = .inr (6, [.ref (ad34 1), .ref (ad34 8), .ref (ad34 11), .null, .null, .null]) := by rw [hG37, up_ne (by omega), hx36 (1) (by omega), hx36 (11) (by omega), hx36 (8) (by omega)]; exact h_0_G32
  have hb_1_G35 := hb_1_G32.mv (ad' := ad34) (G' := G35) (fun j h8 h9 => hx36 j (by omega)) (fun j h8 h9 => by rw [hG37, up_ne (by omega)])
  have hb_8_G35 := hb_8_G32.mv (ad' := ad34) (G' := G35) (fun j h8 h9 => hx36 j (by omega)) (fun j h8 h9 => by rw [hG37, up_ne (by omega)])
  have hb_11_G35 := hb_11_G32.mv (ad' := ad34) (G' := G35) (fun j h8 h9 => hx36 j (by omega)) (fun j h8 h9 => by rw [hG37, up_ne (by omega)])
  have h_13_G35 : G35 (13) = .inr (2, [.null, .int (0), .int (0)]) := by rw [hG37]; exact up_same
  refine k_cong (lv' := [(0, .ref (ad34 0))]) (by rw [hx36 (0) (by omega)]) ?_
  refine k_congS (st' := [.ref (ad34 13), .ref (ad34 0)]) (by rw [hx36 (0) (by omega)]) ?_
  refine k_dup C38 dX6_init_41 rfl ?_
  refine kn_call C38 hAO (As := []) (rest := [.ref (ad34 13), .ref (ad34 0)]) (m_X2_init l D cI cC cZ cB cJ ad34 (13) G35 h_13_G35) gX6_init_X2_init rfl (List.mem_of_getElem? (i := 18) rfl) (List.mem_of_getElem? (i := 55) rfl) (List.mem_of_getElem? (i := 56) rfl) rfl kd_X2_init rfl rfl ⟨(Nat.le_of_ble_eq_true rfl), (Nat.le_of_ble_eq_true rfl)⟩ rfl rfl (Nat.le_of_ble_eq_true rfl) ⟨(Nat.le_of_ble_eq_true rfl), (Nat.le_of_ble_eq_true rfl)⟩ dX6_init_42 (fun ad39 G40 hp41 C42 => ?_)
  obtain ⟨hx_hp41, hb_hp41, hf_hp41⟩ := hp41
  have h_0_G40 : G40 (0) = .inr (6, [.ref (ad39 1), .ref (ad39 8), .ref (ad39 11), .null, .null, .null]) := by rw [hx_hp41 (1) (by omega), hx_hp41 (11) (by omega), hx_hp41 (8) (by omega), hf_hp41 (0) (by omega)]; exact h_0_G35
  have hb_1_G40 := hb_1_G35.mv (ad' := ad39) (G' := G40) (fun j h8 h9 => hx_hp41 j (by omega)) (fun j h8 h9 => hf_hp41 j (by omega))
  have hb_8_G40 := hb_8_G35.mv (ad' := ad39) (G' := G40) (fun j h8 h9 => hx_hp41 j (by omega)) (fun j h8 h9 => hf_hp41 j (by omega))
  have hb_11_G40 := hb_11_G35.mv (ad' := ad39) (G' := G40) (fun j h8 h9 => hx_hp41 j (by omega)) (fun j h8 h9 => hf_hp41 j (by omega))
  refine k_cong (lv' := [(0, .ref (ad39 0))]) (by rw [hx_hp41 (0) (by omega)]) ?_
  refine k_congS (st' := [.ref (ad39 13), .ref (ad39 0)]) (by rw [hx_hp41 (0) (by omega), hx_hp41 (13) (by omega)]) ?_
  refine k_putF C42 (0) inX6_init_6 tyX6 tyX6_ok nmX6 (by omega) h_0_G40 rfl 3 (by decide) (List.mem_of_getElem? (i := 19) rfl) rfl rfl hnI rfl rfl rfl (Nat.le_of_ble_eq_true rfl) dX6_init_45 (fun G43 hG44 => ?_)
  have hb_1_G43 := hb_1_G40.keep (G' := G43) (fun j h8 h9 => by rw [hG44, up_ne (by omega)])
  have hb_8_G43 := hb_8_G40.keep (G' := G43) (fun j h8 h9 => by rw [hG44, up_ne (by omega)])
  have hb_11_G43 := hb_11_G40.keep (G' := G43) (fun j h8 h9 => by rw [hG44, up_ne (by omega)])
  have hb_13_G43 := hb_hp41.keep (G' := G43) (fun j h8 h9 => by rw [hG44, up_ne (by omega)])
  have h_0_G43 : G43 (0) = .inr (6, [.ref (ad39 1), .ref (ad39 8), .ref (ad39 11), .ref (ad39 13), .null, .null]) := up_it hG44
  refine k_aload_n C42 dX6_init_48 rfl (j := 0) rfl ?_
  refine kn_new C42 (ci := 3) (fs := [.null, .int (0)]) (Nf := 2) inX6_init_3 tyX3 tyX3_ok (List.mem_of_getElem? (i := 20) rfl) (List.mem_of_getElem? (i := 21) rfl) (List.mem_of_getElem? (i := 22) rfl) rfl (by decide +kernel) (Nat.le_of_ble_eq_true rfl) (Nat.le_of_ble_eq_true rfl) dX6_init_49 (fun ad45 G46 hx47 hG48 C49 => ?_)
  have h_0_G46 : G46 (0) = .inr (6, [.ref (ad45 1), .ref (ad45 8), .ref (ad45 11), .ref (ad45 13), .null, .null]) := by rw [hG48, up_ne (by omega), hx47 (1) (by omega), hx47 (11) (by omega), hx47 (13) (by omega), hx47 (8) (by omega)]; exact h_0_G43
  have hb_1_G46 := hb_1_G43.mv (ad' := ad45) (G' := G46) (fun j h8 h9 => hx47 j (by omega)) (fun j h8 h9 => by rw [hG48, up_ne (by omega)])
  have hb_8_G46 := hb_8_G43.mv (ad' := ad45) (G' := G46) (fun j h8 h9 => hx47 j (by omega)) (fun j h8 h9 => by rw [hG48, up_ne (by omega)])
  have hb_11_G46 := hb_11_G43.mv (ad' := ad45) (G' := G46) (fun j h8 h9 => hx47 j (by omega)) (fun j h8 h9 => by rw [hG48, up_ne (by omega)])
  have hb_13_G46 := hb_13_G43.mv (ad' := ad45) (G' := G46) (fun j h8 h9 => hx47 j (by omega)) (fun j h8 h9 => by rw [hG48, up_ne (by omega)])
  have h_57_G46 : G46 (57) = .inr (3, [.null, .int (0)]) := by rw [hG48]; exact up_same
  refine k_cong (lv' := [(0, .ref (ad45 0))]) (by rw [hx47 (0) (by omega)]) ?_
  refine k_congS (st' := [.ref (ad45 57), .ref (ad45 0)]) (by rw [hx47 (0) (by omega)]) ?_
  refine k_dup C49 dX6_init_52 rfl ?_
  refine kn_call C49 hAO (As := []) (rest := [.ref (ad45 57), .ref (ad45 0)]) (m_X3_init l D cI cC cZ cB cJ ad45 (57) G46 h_57_G46) gX6_init_X3_init rfl (List.mem_of_getElem? (i := 22) rfl) (List.mem_of_getElem? (i := 62) rfl) (List.mem_of_getElem? (i := 63) rfl) rfl kd_X3_init rfl rfl ⟨(Nat.le_of_ble_eq_true rfl), (Nat.le_of_ble_eq_true rfl)⟩ rfl rfl (Nat.le_of_ble_eq_true rfl) ⟨(Nat.le_of_ble_eq_true rfl), (Nat.le_of_ble_eq_true rfl)⟩ dX6_init_53 (fun ad50 G51 hp52 C53 => ?_)
  obtain ⟨hx_hp52, hb_hp52, hf_hp52⟩ := hp52
  have h_0_G51 : G51 (0) = .inr (6, [.ref (ad50 1), .ref (ad50 8), .ref (ad50 11), .ref (ad50 13), .null, .null]) := by rw [hx_hp52 (1) (by omega), hx_hp52 (11) (by omega), hx_hp52 (13) (by omega), hx_hp52 (8) (by omega), hf_hp52 (0) (by omega)]; exact h_0_G46
  have hb_1_G51 := hb_1_G46.mv (ad' := ad50) (G' := G51) (fun j h8 h9 => hx_hp52 j (by omega)) (fun j h8 h9 => hf_hp52 j (by omega))
  have hb_8_G51 := hb_8_G46.mv (ad' := ad50) (G' := G51) (fun j h8 h9 => hx_hp52 j (by omega)) (fun j h8 h9 => hf_hp52 j (by omega))
  have hb_11_G51 := hb_11_G46.mv (ad' := ad50) (G' := G51) (fun j h8 h9 => hx_hp52 j (by omega)) (fun j h8 h9 => hf_hp52 j (by omega))
  have hb_13_G51 := hb_13_G46.mv (ad' := ad50) (G' := G51) (fun j h8 h9 => hx_hp52 j (by omega)) (fun j h8 h9 => hf_hp52 j (by omega))
  refine k_cong (lv' := [(0, .ref (ad50 0))]) (by rw [hx_hp52 (0) (by omega)]) ?_
  refine k_congS (st' := [.ref (ad50 57), .ref (ad50 0)]) (by rw [hx_hp52 (0) (by omega), hx_hp52 (57) (by omega)]) ?_
  refine k_putF C53 (0) inX6_init_6 tyX6 tyX6_ok nmX6 (by omega) h_0_G51 rfl 4 (by decide) (List.mem_of_getElem? (i := 23) rfl) rfl rfl hnI rfl rfl rfl (Nat.le_of_ble_eq_true rfl) dX6_init_56 (fun G54 hG55 => ?_)
  have hb_1_G54 := hb_1_G51.keep (G' := G54) (fun j h8 h9 => by rw [hG55, up_ne (by omega)])
  have hb_8_G54 := hb_8_G51.keep (G' := G54) (fun j h8 h9 => by rw [hG55, up_ne (by omega)])
  have hb_11_G54 := hb_11_G51.keep (G' := G54) (fun j h8 h9 => by rw [hG55, up_ne (by omega)])
  have hb_13_G54 := hb_13_G51.keep (G' := G54) (fun j h8 h9 => by rw [hG55, up_ne (by omega)])
  have hb_57_G54 := hb_hp52.keep (G' := G54) (fun j h8 h9 => by rw [hG55, up_ne (by omega)])
  have h_0_G54 : G54 (0) = .inr (6, [.ref (ad50 1), .ref (ad50 8), .ref (ad50 11), .ref (ad50 13), .ref (ad50 57), .null]) := up_it hG55
  refine k_aload_n C53 dX6_init_59 rfl (j := 0) rfl ?_
  refine kn_new C53 (ci := 3) (fs := [.null, .int (0)]) (Nf := 2) inX6_init_3 tyX3 tyX3_ok (List.mem_of_getElem? (i := 20) rfl) (List.mem_of_getElem? (i := 21) rfl) (List.mem_of_getElem? (i := 22) rfl) rfl (by decide +kernel) (Nat.le_of_ble_eq_true rfl) (Nat.le_of_ble_eq_true rfl) dX6_init_60 (fun ad56 G57 hx58 hG59 C60 => ?_)
  have h_0_G57 : G57 (0) = .inr (6, [.ref (ad56 1), .ref (ad56 8), .ref (ad56 11), .ref (ad56 13), .ref (ad56 57), .null]) := by rw [hG59, up_ne (by omega), hx58 (1) (by omega), hx58 (11) (by omega), hx58 (13) (by omega), hx58 (57) (by omega), hx58 (8) (by omega)]; exact h_0_G54
  have hb_1_G57 := hb_1_G54.mv (ad' := ad56) (G' := G57) (fun j h8 h9 => hx58 j (by omega)) (fun j h8 h9 => by rw [hG59, up_ne (by omega)])
  have hb_8_G57 := hb_8_G54.mv (ad' := ad56) (G' := G57) (fun j h8 h9 => hx58 j (by omega)) (fun j h8 h9 => by rw [hG59, up_ne (by omega)])
  have hb_11_G57 := hb_11_G54.mv (ad' := ad56) (G' := G57) (fun j h8 h9 => hx58 j (by omega)) (fun j h8 h9 => by rw [hG59, up_ne (by omega)])
  have hb_13_G57 := hb_13_G54.mv (ad' := ad56) (G' := G57) (fun j h8 h9 => hx58 j (by omega)) (fun j h8 h9 => by rw [hG59, up_ne (by omega)])
  have hb_57_G57 := hb_57_G54.mv (ad' := ad56) (G' := G57) (fun j h8 h9 => hx58 j (by omega)) (fun j h8 h9 => by rw [hG59, up_ne (by omega)])
  have h_65_G57 : G57 (65) = .inr (3, [.null, .int (0)]) := by rw [hG59]; exact up_same
  refine k_cong (lv' := [(0, .ref (ad56 0))]) (by rw [hx58 (0) (by omega)]) ?_
  refine k_congS (st' := [.ref (ad56 65), .ref (ad56 0)]) (by rw [hx58 (0) (by omega)]) ?_
  refine k_dup C60 dX6_init_63 rfl ?_
  refine kn_call C60 hAO (As := []) (rest := [.ref (ad56 65), .ref (ad56 0)]) (m_X3_init l D cI cC cZ cB cJ ad56 (65) G57 h_65_G57) gX6_init_X3_init rfl (List.mem_of_getElem? (i := 22) rfl) (List.mem_of_getElem? (i := 62) rfl) (List.mem_of_getElem? (i := 63) rfl) rfl kd_X3_init rfl rfl ⟨(Nat.le_of_ble_eq_true rfl), (Nat.le_of_ble_eq_true rfl)⟩ rfl rfl (Nat.le_of_ble_eq_true rfl) ⟨(Nat.le_of_ble_eq_true rfl), (Nat.le_of_ble_eq_true rfl)⟩ dX6_init_64 (fun ad61 G62 hp63 C64 => ?_)
  obtain ⟨hx_hp63, hb_hp63, hf_hp63⟩ := hp63
  have h_0_G62 : G62 (0) = .inr (6, [.ref (ad61 1), .ref (ad61 8), .ref (ad61 11), .ref (ad61 13), .ref (ad61 57), .null]) := by rw [hx_hp63 (1) (by omega), hx_hp63 (11) (by omega), hx_hp63 (13) (by omega), hx_hp63 (57) (by omega), hx_hp63 (8) (by omega), hf_hp63 (0) (by omega)]; exact h_0_G57
  have hb_1_G62 := hb_1_G57.mv (ad' := ad61) (G' := G62) (fun j h8 h9 => hx_hp63 j (by omega)) (fun j h8 h9 => hf_hp63 j (by omega))
  have hb_8_G62 := hb_8_G57.mv (ad' := ad61) (G' := G62) (fun j h8 h9 => hx_hp63 j (by omega)) (fun j h8 h9 => hf_hp63 j (by omega))
  have hb_11_G62 := hb_11_G57.mv (ad' := ad61) (G' := G62) (fun j h8 h9 => hx_hp63 j (by omega)) (fun j h8 h9 => hf_hp63 j (by omega))
  have hb_13_G62 := hb_13_G57.mv (ad' := ad61) (G' := G62) (fun j h8 h9 => hx_hp63 j (by omega)) (fun j h8 h9 => hf_hp63 j (by omega))
  have hb_57_G62 := hb_57_G57.mv (ad' := ad61) (G' := G62) (fun j h8 h9 => hx_hp63 j (by omega)) (fun j h8 h9 => hf_hp63 j (by omega))
  refine k_cong (lv' := [(0, .ref (ad61 0))]) (by rw [hx_hp63 (0) (by omega)]) ?_
  refine k_congS (st' := [.ref (ad61 65), .ref (ad61 0)]) (by rw [hx_hp63 (0) (by omega), hx_hp63 (65) (by omega)]) ?_
  refine k_putF C64 (0) inX6_init_6 tyX6 tyX6_ok nmX6 (by omega) h_0_G62 rfl 5 (by decide) (List.mem_of_getElem? (i := 24) rfl) rfl rfl hnI rfl rfl rfl (Nat.le_of_ble_eq_true rfl) dX6_init_67 (fun G65 hG66 => ?_)
  have hb_1_G65 := hb_1_G62.keep (G' := G65) (fun j h8 h9 => by rw [hG66, up_ne (by omega)])
  have hb_8_G65 := hb_8_G62.keep (G' := G65) (fun j h8 h9 => by rw [hG66, up_ne (by omega)])
  have hb_11_G65 := hb_11_G62.keep (G' := G65) (fun j h8 h9 => by rw [hG66, up_ne (by omega)])
  have hb_13_G65 := hb_13_G62.keep (G' := G65) (fun j h8 h9 => by rw [hG66, up_ne (by omega)])
  have hb_57_G65 := hb_57_G62.keep (G' := G65) (fun j h8 h9 => by rw [hG66, up_ne (by omega)])
  have hb_65_G65 := hb_hp63.keep (G' := G65) (fun j h8 h9 => by rw [hG66, up_ne (by omega)])
  have h_0_G65 : G65 (0) = .inr (6, [.ref (ad61 1), .ref (ad61 8), .ref (ad61 11), .ref (ad61 13), .ref (ad61 57), .ref (ad61 65)]) := up_it hG66
  exact kn_ret C64 (post := fun ad' G' => (∀ i, i < 1 → ad' i = ad i) ∧ isFB ad' cI cB G' bk0 ar0 tx0 hi0 sl0 sl0) hQ rfl rfl (Nat.le_of_ble_eq_true rfl) (Nat.le_of_ble_eq_true rfl) dX6_init_70 ⟨fun i hi => (hx_hp63 i (by omega) : _).trans ((hx58 i (by omega) : _).trans ((hx_hp52 i (by omega) : _).trans ((hx47 i (by omega) : _).trans ((hx_hp41 i (by omega) : _).trans ((hx36 i (by omega) : _).trans ((hx_hp30 i (by omega) : _).trans ((hx25 i (by omega) : _).trans ((hx_hp19 i (by omega) : _).trans ((hx14 i (by omega) : _).trans ((hx_hp8 i (by omega) : _).trans (hx3 i (by omega)))))))))))), h_0_G65, hb_1_G65, hb_8_G65, hb_11_G65, hb_13_G65, hb_57_G65, hb_65_G65⟩
def mI : Nat → (Nat → Int32)
  | 0 => upd (upd zF 4 5) 5 10000
  | i + 1 => upd (upd (mI i) (46 + i) (-1)) (56 + i) (-1)
theorem inX7_init_7 : ∀ w ∈ wsX70, w ∈ wsX7_init := fun _ h => List.mem_cons_of_mem _ (List.mem_append_right _ h)
theorem kd_X7_init : yX7_init.cls ≠ "java/lang/invoke/MethodHandle" ∧ yX7_init.cls ≠ "java/lang/invoke/VarHandle" ∧ (parseMethodDescriptor yX7_init.desc).map (fun d => d.parameters.length) = some 0 := by decide +kernel
abbrev rX7_init : Room := ({ frames := 1, cells := 5, slots := 2662, locals := 20 } : Room)
set_option maxRecDepth 100000 in
set_option maxHeartbeats 8000000 in
/-- FieldBookModel() -/
theorem m_X7_init (l : Launch) (D : va_G) (cI cC cZ cB cJ : ClassId) (ad : Nat → Nat) (G : Nat → va_E) (hG0 : G 73 = .inr (7, [.null, .int 0, .null, .int 0, .null, .int 0, .int 0, .null, .null, .int 0])) : kNv l yX7_init wsX7_init rX7_init D (kT5 cI cC cZ cB cJ) ad 74 G [.ref (ad 73)] 79 5 2662 (fun ad' G' => (∀ i, i < 74 → ad' i = ad i) ∧ isMo ad' cI cC cZ G' (mI 10) zF zF zF zF 0 0 0 0 0 ∧ ∀ j, j < 73 → G' j = G j) := by
  refine kn_start (cc := cX7_init) (ret := none) (maxL := 2) (lv0 := [(0, .ref (ad 73))]) (by decide) rfl rfl (Nat.le_of_ble_eq_true rfl) rfl ?_
  intro p e s m args below meth c A Q C hnI hAO hQ
  refine k_aload_n C dX7_init_0 rfl (j := 0) rfl ?_
  refine kn_obj C (List.mem_of_getElem? (i := 1) rfl) (List.mem_of_getElem? (i := 2) rfl) (List.mem_of_getElem? (i := 3) rfl) (Nat.le_of_ble_eq_true rfl) (Nat.le_of_ble_eq_true rfl) dX7_init_1 ?_
  refine k_aload_n C dX7_init_4 rfl (j := 0) rfl ?_
  refine k_sipush C (v := 2610) dX7_init_5 (by decide) ?_
  refine kn_newa C (atype := .int) (ty := .int) (c0 := cI) (N' := 2610) (a0 := (2610, .inl zF)) 0 rfl rfl (List.mem_of_getElem? (i := 4) rfl) (fun _ => rfl) (by decide) (by decide) (Nat.le_of_ble_eq_true rfl) (Nat.le_of_ble_eq_true rfl) (Nat.le_of_ble_eq_true rfl) dX7_init_8 (fun ad1 G2 hx3 hG4 C5 => ?_)
  have h_73_G2 : G2 (73) = .inr (7, [.null, .int (0), .null, .int (0), .null, .int (0), .int (0), .null, .null, .int (0)]) := by rw [hG4, up_ne (by omega)]; exact hG0
  have h_74_G2 : G2 (74) = .inl (cI, 2610, .inl zF) := by rw [hG4]; exact up_same
  refine k_cong (lv' := [(0, .ref (ad1 73))]) (by rw [hx3 (73) (by omega)]) ?_
  refine k_congS (st' := [.ref (ad1 74), .ref (ad1 73)]) (by rw [hx3 (73) (by omega)]) ?_
  refine k_putF C5 (73) inX7_init_7 tyX7 tyX7_ok nmX7 (by omega) h_73_G2 rfl 0 (by decide) (List.mem_of_getElem? (i := 5) rfl) rfl rfl hnI rfl rfl rfl (Nat.le_of_ble_eq_true rfl) dX7_init_10 (fun G6 hG7 => ?_)
  have h_74_G6 : G6 (74) = .inl (cI, 2610, .inl zF) := up_at hG7 h_74_G2 (by omega)
  have h_73_G6 : G6 (73) = .inr (7, [.ref (ad1 74), .int (0), .null, .int (0), .null, .int (0), .int (0), .null, .null, .int (0)]) := up_it hG7
  refine k_aload_n C5 dX7_init_13 rfl (j := 0) rfl ?_
  refine k_iconst C5 (v := 2) dX7_init_14 (by decide) ?_
  refine kn_newa C5 (atype := .boolean) (ty := .boolean) (c0 := cZ) (N' := 2) (a0 := (2, .inl zF)) 2 rfl rfl (List.mem_of_getElem? (i := 6) rfl) (fun _ => rfl) (by decide) (by decide) (Nat.le_of_ble_eq_true rfl) (Nat.le_of_ble_eq_true rfl) (Nat.le_of_ble_eq_true rfl) dX7_init_15 (fun ad8 G9 hx10 hG11 C12 => ?_)
  have h_74_G9 : G9 (74) = .inl (cI, 2610, .inl zF) := by rw [hG11, up_ne (by omega)]; exact h_74_G6
  have h_73_G9 : G9 (73) = .inr (7, [.ref (ad8 74), .int (0), .null, .int (0), .null, .int (0), .int (0), .null, .null, .int (0)]) := by rw [hG11, up_ne (by omega), hx10 (74) (by omega)]; exact h_73_G6
  have h_75_G9 : G9 (75) = .inl (cZ, 2, .inl zF) := by rw [hG11]; exact up_same
  refine k_cong (lv' := [(0, .ref (ad8 73))]) (by rw [hx10 (73) (by omega)]) ?_
  refine k_congS (st' := [.ref (ad8 75), .ref (ad8 73)]) (by rw [hx10 (73) (by omega)]) ?_
  refine k_putF C12 (73) inX7_init_7 tyX7 tyX7_ok nmX7 (by omega) h_73_G9 rfl 2 (by decide) (List.mem_of_getElem? (i := 7) rfl) rfl rfl hnI rfl rfl rfl (Nat.le_of_ble_eq_true rfl) dX7_init_17 (fun G13 hG14 => ?_)
  have h_74_G13 : G13 (74) = .inl (cI, 2610, .inl zF) := up_at hG14 h_74_G9 (by omega)
  have h_75_G13 : G13 (75) = .inl (cZ, 2, .inl zF) := up_at hG14 h_75_G9 (by omega)
  have h_73_G13 : G13 (73) = .inr (7, [.ref (ad8 74), .int (0), .ref (ad8 75), .int (0), .null, .int (0), .int (0), .null, .null, .int (0)]) := up_it hG14
  refine k_aload_n C12 dX7_init_20 rfl (j := 0) rfl ?_
  refine k_bipush C12 (v := 30) dX7_init_21 (by decide) ?_
  refine kn_newa C12 (atype := .char) (ty := .char) (c0 := cC) (N' := 30) (a0 := (30, .inl zF)) 1 rfl rfl (List.mem_of_getElem? (i := 8) rfl) (fun _ => rfl) (by decide) (by decide) (Nat.le_of_ble_eq_true rfl) (Nat.le_of_ble_eq_true rfl) (Nat.le_of_ble_eq_true rfl) dX7_init_23 (fun ad15 G16 hx17 hG18 C19 => ?_)
  have h_74_G16 : G16 (74) = .inl (cI, 2610, .inl zF) := by rw [hG18, up_ne (by omega)]; exact h_74_G13
  have h_75_G16 : G16 (75) = .inl (cZ, 2, .inl zF) := by rw [hG18, up_ne (by omega)]; exact h_75_G13
  have h_73_G16 : G16 (73) = .inr (7, [.ref (ad15 74), .int (0), .ref (ad15 75), .int (0), .null, .int (0), .int (0), .null, .null, .int (0)]) := by rw [hG18, up_ne (by omega), hx17 (74) (by omega), hx17 (75) (by omega)]; exact h_73_G13
  have h_76_G16 : G16 (76) = .inl (cC, 30, .inl zF) := by rw [hG18]; exact up_same
  refine k_cong (lv' := [(0, .ref (ad15 73))]) (by rw [hx17 (73) (by omega)]) ?_
  refine k_congS (st' := [.ref (ad15 76), .ref (ad15 73)]) (by rw [hx17 (73) (by omega)]) ?_
  refine k_putF C19 (73) inX7_init_7 tyX7 tyX7_ok nmX7 (by omega) h_73_G16 rfl 4 (by decide) (List.mem_of_getElem? (i := 9) rfl) rfl rfl hnI rfl rfl rfl (Nat.le_of_ble_eq_true rfl) dX7_init_25 (fun G20 hG21 => ?_)
  have h_74_G20 : G20 (74) = .inl (cI, 2610, .inl zF) := up_at hG21 h_74_G16 (by omega)
  have h_75_G20 : G20 (75) = .inl (cZ, 2, .inl zF) := up_at hG21 h_75_G16 (by omega)
  have h_76_G20 : G20 (76) = .inl (cC, 30, .inl zF) := up_at hG21 h_76_G16 (by omega)
  have h_73_G20 : G20 (73) = .inr (7, [.ref (ad15 74), .int (0), .ref (ad15 75), .int (0), .ref (ad15 76), .int (0), .int (0), .null, .null, .int (0)]) := up_it hG21
  refine k_aload_n C19 dX7_init_28 rfl (j := 0) rfl ?_
  refine k_bipush C19 (v := 10) dX7_init_29 (by decide) ?_
  refine kn_newa C19 (atype := .int) (ty := .int) (c0 := cI) (N' := 10) (a0 := (10, .inl zF)) 0 rfl rfl (List.mem_of_getElem? (i := 4) rfl) (fun _ => rfl) (by decide) (by decide) (Nat.le_of_ble_eq_true rfl) (Nat.le_of_ble_eq_true rfl) (Nat.le_of_ble_eq_true rfl) dX7_init_31 (fun ad22 G23 hx24 hG25 C26 => ?_)
  have h_74_G23 : G23 (74) = .inl (cI, 2610, .inl zF) := by rw [hG25, up_ne (by omega)]; exact h_74_G20
  have h_75_G23 : G23 (75) = .inl (cZ, 2, .inl zF) := by rw [hG25, up_ne (by omega)]; exact h_75_G20
  have h_76_G23 : G23 (76) = .inl (cC, 30, .inl zF) := by rw [hG25, up_ne (by omega)]; exact h_76_G20
  have h_73_G23 : G23 (73) = .inr (7, [.ref (ad22 74), .int (0), .ref (ad22 75), .int (0), .ref (ad22 76), .int (0), .int (0), .null, .null, .int (0)]) := by rw [hG25, up_ne (by omega), hx24 (74) (by omega), hx24 (75) (by omega), hx24 (76) (by omega)]; exact h_73_G20
  have h_77_G23 : G23 (77) = .inl (cI, 10, .inl zF) := by rw [hG25]; exact up_same
  refine k_cong (lv' := [(0, .ref (ad22 73))]) (by rw [hx24 (73) (by omega)]) ?_
  refine k_congS (st' := [.ref (ad22 77), .ref (ad22 73)]) (by rw [hx24 (73) (by omega)]) ?_
  refine k_putF C26 (73) inX7_init_7 tyX7 tyX7_ok nmX7 (by omega) h_73_G23 rfl 7 (by decide) (List.mem_of_getElem? (i := 10) rfl) rfl rfl hnI rfl rfl rfl (Nat.le_of_ble_eq_true rfl) dX7_init_33 (fun G27 hG28 => ?_)
  have h_74_G27 : G27 (74) = .inl (cI, 2610, .inl zF) := up_at hG28 h_74_G23 (by omega)
  have h_75_G27 : G27 (75) = .inl (cZ, 2, .inl zF) := up_at hG28 h_75_G23 (by omega)
  have h_76_G27 : G27 (76) = .inl (cC, 30, .inl zF) := up_at hG28 h_76_G23 (by omega)
  have h_77_G27 : G27 (77) = .inl (cI, 10, .inl zF) := up_at hG28 h_77_G23 (by omega)
  have h_73_G27 : G27 (73) = .inr (7, [.ref (ad22 74), .int (0), .ref (ad22 75), .int (0), .ref (ad22 76), .int (0), .int (0), .ref (ad22 77), .null, .int (0)]) := up_it hG28
  refine k_aload_n C26 dX7_init_36 rfl (j := 0) rfl ?_
  refine k_bipush C26 (v := 10) dX7_init_37 (by decide) ?_
  refine kn_newa C26 (atype := .int) (ty := .int) (c0 := cI) (N' := 10) (a0 := (10, .inl zF)) 0 rfl rfl (List.mem_of_getElem? (i := 4) rfl) (fun _ => rfl) (by decide) (by decide) (Nat.le_of_ble_eq_true rfl) (Nat.le_of_ble_eq_true rfl) (Nat.le_of_ble_eq_true rfl) dX7_init_39 (fun ad29 G30 hx31 hG32 C33 => ?_)
  have h_74_G30 : G30 (74) = .inl (cI, 2610, .inl zF) := by rw [hG32, up_ne (by omega)]; exact h_74_G27
  have h_75_G30 : G30 (75) = .inl (cZ, 2, .inl zF) := by rw [hG32, up_ne (by omega)]; exact h_75_G27
  have h_76_G30 : G30 (76) = .inl (cC, 30, .inl zF) := by rw [hG32, up_ne (by omega)]; exact h_76_G27
  have h_77_G30 : G30 (77) = .inl (cI, 10, .inl zF) := by rw [hG32, up_ne (by omega)]; exact h_77_G27
  have h_73_G30 : G30 (73) = .inr (7, [.ref (ad29 74), .int (0), .ref (ad29 75), .int (0), .ref (ad29 76), .int (0), .int (0), .ref (ad29 77), .null, .int (0)]) := by rw [hG32, up_ne (by omega), hx31 (74) (by omega), hx31 (75) (by omega), hx31 (76) (by omega), hx31 (77) (by omega)]; exact h_73_G27
  have h_78_G30 : G30 (78) = .inl (cI, 10, .inl zF) := by rw [hG32]; exact up_same
  refine k_cong (lv' := [(0, .ref (ad29 73))]) (by rw [hx31 (73) (by omega)]) ?_
  refine k_congS (st' := [.ref (ad29 78), .ref (ad29 73)]) (by rw [hx31 (73) (by omega)]) ?_
  refine k_putF C33 (73) inX7_init_7 tyX7 tyX7_ok nmX7 (by omega) h_73_G30 rfl 8 (by decide) (List.mem_of_getElem? (i := 11) rfl) rfl rfl hnI rfl rfl rfl (Nat.le_of_ble_eq_true rfl) dX7_init_41 (fun G34 hG35 => ?_)
  have h_74_G34 : G34 (74) = .inl (cI, 2610, .inl zF) := up_at hG35 h_74_G30 (by omega)
  have h_75_G34 : G34 (75) = .inl (cZ, 2, .inl zF) := up_at hG35 h_75_G30 (by omega)
  have h_76_G34 : G34 (76) = .inl (cC, 30, .inl zF) := up_at hG35 h_76_G30 (by omega)
  have h_77_G34 : G34 (77) = .inl (cI, 10, .inl zF) := up_at hG35 h_77_G30 (by omega)
  have h_78_G34 : G34 (78) = .inl (cI, 10, .inl zF) := up_at hG35 h_78_G30 (by omega)
  have h_73_G34 : G34 (73) = .inr (7, [.ref (ad29 74), .int (0), .ref (ad29 75), .int (0), .ref (ad29 76), .int (0), .int (0), .ref (ad29 77), .ref (ad29 78), .int (0)]) := up_it hG35
  refine k_aload_n C33 dX7_init_44 rfl (j := 0) rfl ?_
  refine k_get C33 (73) inX7_init_7 (by omega) h_73_G34 rfl 0 (by decide) (List.mem_of_getElem? (i := 5) rfl) rfl rfl dX7_init_45 ?_
  refine k_iconst C33 (v := 4) dX7_init_48 (by decide) ?_
  refine k_iconst C33 (v := 5) dX7_init_49 (by decide) ?_
  refine k_iastN C33 (74) 0 (by omega) h_74_G34 rfl 4 (by decide) (by omega) (Nat.le_of_ble_eq_true rfl) dX7_init_50 (fun G36 hG37 => ?_)
  have h_75_G36 : G36 (75) = .inl (cZ, 2, .inl zF) := up_at hG37 h_75_G34 (by omega)
  have h_76_G36 : G36 (76) = .inl (cC, 30, .inl zF) := up_at hG37 h_76_G34 (by omega)
  have h_77_G36 : G36 (77) = .inl (cI, 10, .inl zF) := up_at hG37 h_77_G34 (by omega)
  have h_78_G36 : G36 (78) = .inl (cI, 10, .inl zF) := up_at hG37 h_78_G34 (by omega)
  have h_73_G36 : G36 (73) = .inr (7, [.ref (ad29 74), .int (0), .ref (ad29 75), .int (0), .ref (ad29 76), .int (0), .int (0), .ref (ad29 77), .ref (ad29 78), .int (0)]) := up_at hG37 h_73_G34 (by omega)
  have h_74_G36 : G36 (74) = .inl (cI, 2610, .inl (upd zF 4 5)) := up_it hG37
  refine k_aload_n C33 dX7_init_51 rfl (j := 0) rfl ?_
  refine k_get C33 (73) inX7_init_7 (by omega) h_73_G36 rfl 0 (by decide) (List.mem_of_getElem? (i := 5) rfl) rfl rfl dX7_init_52 ?_
  refine k_iconst C33 (v := 5) dX7_init_55 (by decide) ?_
  refine k_sipush C33 (v := 10000) dX7_init_56 (by decide) ?_
  refine k_iastN C33 (74) 0 (by omega) h_74_G36 rfl 5 (by decide) (by omega) (Nat.le_of_ble_eq_true rfl) dX7_init_59 (fun G38 hG39 => ?_)
  have h_75_G38 : G38 (75) = .inl (cZ, 2, .inl zF) := up_at hG39 h_75_G36 (by omega)
  have h_76_G38 : G38 (76) = .inl (cC, 30, .inl zF) := up_at hG39 h_76_G36 (by omega)
  have h_77_G38 : G38 (77) = .inl (cI, 10, .inl zF) := up_at hG39 h_77_G36 (by omega)
  have h_78_G38 : G38 (78) = .inl (cI, 10, .inl zF) := up_at hG39 h_78_G36 (by omega)
  have h_73_G38 : G38 (73) = .inr (7, [.ref (ad29 74), .int (0), .ref (ad29 75), .int (0), .ref (ad29 76), .int (0), .int (0), .ref (ad29 77), .ref (ad29 78), .int (0)]) := up_at hG39 h_73_G36 (by omega)
  have h_74_G38 : G38 (74) = .inl (cI, 2610, .inl (upd (upd zF 4 5) 5 10000)) := up_it hG39
  refine k_iconst C33 (v := 0) dX7_init_60 (by decide) ?_
  refine k_istore_n C33 (lv' := [(1, .int (0)), (0, .ref (ad29 73))]) dX7_init_61 rfl (by decide) rfl ?_
  refine k_iload_n C33 dX7_init_62 rfl (j := 0) rfl ?_
  refine k_bipush C33 (v := 10) dX7_init_63 (by decide) ?_
  refine k_icmp_ge C33 94 dX7_init_65 (by decide) (fun q => absurd q (show ¬ (10 : Int32) ≤ 0 by decide)) (fun _ => ?_)
  refine k_aload_n C33 dX7_init_68 rfl (j := 1) rfl ?_
  refine k_get C33 (73) inX7_init_7 (by omega) h_73_G38 rfl 0 (by decide) (List.mem_of_getElem? (i := 5) rfl) rfl rfl dX7_init_69 ?_
  refine k_bipush C33 (v := 46) dX7_init_72 (by decide) ?_
  refine k_iload_n C33 dX7_init_74 rfl (j := 0) rfl ?_
  refine k_iadd C33 dX7_init_75 ?_
  refine k_iconst C33 (v := (-1)) dX7_init_76 (by decide) ?_
  refine k_iastN C33 (74) 0 (by omega) h_74_G38 rfl 46 (by decide) (by omega) (Nat.le_of_ble_eq_true rfl) dX7_init_77 (fun G40 hG41 => ?_)
  have h_75_G40 : G40 (75) = .inl (cZ, 2, .inl zF) := up_at hG41 h_75_G38 (by omega)
  have h_76_G40 : G40 (76) = .inl (cC, 30, .inl zF) := up_at hG41 h_76_G38 (by omega)
  have h_77_G40 : G40 (77) = .inl (cI, 10, .inl zF) := up_at hG41 h_77_G38 (by omega)
  have h_78_G40 : G40 (78) = .inl (cI, 10, .inl zF) := up_at hG41 h_78_G38 (by omega)
  have h_73_G40 : G40 (73) = .inr (7, [.ref (ad29 74), .int (0), .ref (ad29 75), .int (0), .ref (ad29 76), .int (0), .int (0), .ref (ad29 77), .ref (ad29 78), .int (0)]) := up_at hG41 h_73_G38 (by omega)
  have h_74_G40 : G40 (74) = .inl (cI, 2610, .inl (upd (upd (upd zF 4 5) 5 10000) 46 ((-1)))) := up_it hG41
  refine k_aload_n C33 dX7_init_78 rfl (j := 1) rfl ?_
  refine k_get C33 (73) inX7_init_7 (by omega) h_73_G40 rfl 0 (by decide) (List.mem_of_getElem? (i := 5) rfl) rfl rfl dX7_init_79 ?_
  refine k_bipush C33 (v := 56) dX7_init_82 (by decide) ?_
  refine k_iload_n C33 dX7_init_84 rfl (j := 0) rfl ?_
  refine k_iadd C33 dX7_init_85 ?_
  refine k_iconst C33 (v := (-1)) dX7_init_86 (by decide) ?_
  refine k_iastN C33 (74) 0 (by omega) h_74_G40 rfl 56 (by decide) (by omega) (Nat.le_of_ble_eq_true rfl) dX7_init_87 (fun G42 hG43 => ?_)
  have h_75_G42 : G42 (75) = .inl (cZ, 2, .inl zF) := up_at hG43 h_75_G40 (by omega)
  have h_76_G42 : G42 (76) = .inl (cC, 30, .inl zF) := up_at hG43 h_76_G40 (by omega)
  have h_77_G42 : G42 (77) = .inl (cI, 10, .inl zF) := up_at hG43 h_77_G40 (by omega)
  have h_78_G42 : G42 (78) = .inl (cI, 10, .inl zF) := up_at hG43 h_78_G40 (by omega)
  have h_73_G42 : G42 (73) = .inr (7, [.ref (ad29 74), .int (0), .ref (ad29 75), .int (0), .ref (ad29 76), .int (0), .int (0), .ref (ad29 77), .ref (ad29 78), .int (0)]) := up_at hG43 h_73_G40 (by omega)
  have h_74_G42 : G42 (74) = .inl (cI, 2610, .inl (upd (upd (upd (upd zF 4 5) 5 10000) 46 ((-1))) 56 ((-1)))) := up_it hG43
  refine k_iinc C33 (v := 1) (lv' := [(1, .int (1)), (0, .ref (ad29 73))]) dX7_init_88 (j := 0) rfl (by decide) (by decide) rfl ?_
  refine k_goto C33 62 dX7_init_91 (by decide) ?_
  refine k_iload_n C33 dX7_init_62 rfl (j := 0) rfl ?_
  refine k_bipush C33 (v := 10) dX7_init_63 (by decide) ?_
  refine k_icmp_ge C33 94 dX7_init_65 (by decide) (fun q => absurd q (show ¬ (10 : Int32) ≤ 1 by decide)) (fun _ => ?_)
  refine k_aload_n C33 dX7_init_68 rfl (j := 1) rfl ?_
  refine k_get C33 (73) inX7_init_7 (by omega) h_73_G42 rfl 0 (by decide) (List.mem_of_getElem? (i := 5) rfl) rfl rfl dX7_init_69 ?_
  refine k_bipush C33 (v := 46) dX7_init_72 (by decide) ?_
  refine k_iload_n C33 dX7_init_74 rfl (j := 0) rfl ?_
  refine k_iadd C33 dX7_init_75 ?_
  refine k_iconst C33 (v := (-1)) dX7_init_76 (by decide) ?_
  refine k_iastN C33 (74) 0 (by omega) h_74_G42 rfl 47 (by decide) (by omega) (Nat.le_of_ble_eq_true rfl) dX7_init_77 (fun G44 hG45 => ?_)
  have h_75_G44 : G44 (75) = .inl (cZ, 2, .inl zF) := up_at hG45 h_75_G42 (by omega)
  have h_76_G44 : G44 (76) = .inl (cC, 30, .inl zF) := up_at hG45 h_76_G42 (by omega)
  have h_77_G44 : G44 (77) = .inl (cI, 10, .inl zF) := up_at hG45 h_77_G42 (by omega)
  have h_78_G44 : G44 (78) = .inl (cI, 10, .inl zF) := up_at hG45 h_78_G42 (by omega)
  have h_73_G44 : G44 (73) = .inr (7, [.ref (ad29 74), .int (0), .ref (ad29 75), .int (0), .ref (ad29 76), .int (0), .int (0), .ref (ad29 77), .ref (ad29 78), .int (0)]) := up_at hG45 h_73_G42 (by omega)
  have h_74_G44 : G44 (74) = .inl (cI, 2610, .inl (upd (upd (upd (upd (upd zF 4 5) 5 10000) 46 ((-1))) 56 ((-1))) 47 ((-1)))) := up_it hG45
  refine k_aload_n C33 dX7_init_78 rfl (j := 1) rfl ?_
  refine k_get C33 (73) inX7_init_7 (by omega) h_73_G44 rfl 0 (by decide) (List.mem_of_getElem? (i := 5) rfl) rfl rfl dX7_init_79 ?_
  refine k_bipush C33 (v := 56) dX7_init_82 (by decide) ?_
  refine k_iload_n C33 dX7_init_84 rfl (j := 0) rfl ?_
  refine k_iadd C33 dX7_init_85 ?_
  refine k_iconst C33 (v := (-1)) dX7_init_86 (by decide) ?_
  refine k_iastN C33 (74) 0 (by omega) h_74_G44 rfl 57 (by decide) (by omega) (Nat.le_of_ble_eq_true rfl) dX7_init_87 (fun G46 hG47 => ?_)
  have h_75_G46 : G46 (75) = .inl (cZ, 2, .inl zF) := up_at hG47 h_75_G44 (by omega)
  have h_76_G46 : G46 (76) = .inl (cC, 30, .inl zF) := up_at hG47 h_76_G44 (by omega)
  have h_77_G46 : G46 (77) = .inl (cI, 10, .inl zF) := up_at hG47 h_77_G44 (by omega)
  have h_78_G46 : G46 (78) = .inl (cI, 10, .inl zF) := up_at hG47 h_78_G44 (by omega)
  have h_73_G46 : G46 (73) = .inr (7, [.ref (ad29 74), .int (0), .ref (ad29 75), .int (0), .ref (ad29 76), .int (0), .int (0), .ref (ad29 77), .ref (ad29 78), .int (0)]) := up_at hG47 h_73_G44 (by omega)
  have h_74_G46 : G46 (74) = .inl (cI, 2610, .inl (upd (upd (upd (upd (upd (upd zF 4 5) 5 10000) 46 ((-1))) 56 ((-1))) 47 ((-1))) 57 ((-1)))) := up_it hG47
  refine k_iinc C33 (v := 2) (lv' := [(1, .int (2)), (0, .ref (ad29 73))]) dX7_init_88 (j := 0) rfl (by decide) (by decide) rfl ?_
  refine k_goto C33 62 dX7_init_91 (by decide) ?_
  refine k_iload_n C33 dX7_init_62 rfl (j := 0) rfl ?_
  refine k_bipush C33 (v := 10) dX7_init_63 (by decide) ?_
  refine k_icmp_ge C33 94 dX7_init_65 (by decide) (fun q => absurd q (show ¬ (10 : Int32) ≤ 2 by decide)) (fun _ => ?_)
  refine k_aload_n C33 dX7_init_68 rfl (j := 1) rfl ?_
  refine k_get C33 (73) inX7_init_7 (by omega) h_73_G46 rfl 0 (by decide) (List.mem_of_getElem? (i := 5) rfl) rfl rfl dX7_init_69 ?_
  refine k_bipush C33 (v := 46) dX7_init_72 (by decide) ?_
  refine k_iload_n C33 dX7_init_74 rfl (j := 0) rfl ?_
  refine k_iadd C33 dX7_init_75 ?_
  refine k_iconst C33 (v := (-1)) dX7_init_76 (by decide) ?_
  refine k_iastN C33 (74) 0 (by omega) h_74_G46 rfl 48 (by decide) (by omega) (Nat.le_of_ble_eq_true rfl) dX7_init_77 (fun G48 hG49 => ?_)
  have h_75_G48 : G48 (75) = .inl (cZ, 2, .inl zF) := up_at hG49 h_75_G46 (by omega)
  have h_76_G48 : G48 (76) = .inl (cC, 30, .inl zF) := up_at hG49 h_76_G46 (by omega)
  have h_77_G48 : G48 (77) = .inl (cI, 10, .inl zF) := up_at hG49 h_77_G46 (by omega)
  have h_78_G48 : G48 (78) = .inl (cI, 10, .inl zF) := up_at hG49 h_78_G46 (by omega)
  have h_73_G48 : G48 (73) = .inr (7, [.ref (ad29 74), .int (0), .ref (ad29 75), .int (0), .ref (ad29 76), .int (0), .int (0), .ref (ad29 77), .ref (ad29 78), .int (0)]) := up_at hG49 h_73_G46 (by omega)
  have h_74_G48 : G48 (74) = .inl (cI, 2610, .inl (upd (upd (upd (upd (upd (upd (upd zF 4 5) 5 10000) 46 ((-1))) 56 ((-1))) 47 ((-1))) 57 ((-1))) 48 ((-1)))) := up_it hG49
  refine k_aload_n C33 dX7_init_78 rfl (j := 1) rfl ?_
  refine k_get C33 (73) inX7_init_7 (by omega) h_73_G48 rfl 0 (by decide) (List.mem_of_getElem? (i := 5) rfl) rfl rfl dX7_init_79 ?_
  refine k_bipush C33 (v := 56) dX7_init_82 (by decide) ?_
  refine k_iload_n C33 dX7_init_84 rfl (j := 0) rfl ?_
  refine k_iadd C33 dX7_init_85 ?_
  refine k_iconst C33 (v := (-1)) dX7_init_86 (by decide) ?_
  refine k_iastN C33 (74) 0 (by omega) h_74_G48 rfl 58 (by decide) (by omega) (Nat.le_of_ble_eq_true rfl) dX7_init_87 (fun G50 hG51 => ?_)
  have h_75_G50 : G50 (75) = .inl (cZ, 2, .inl zF) := up_at hG51 h_75_G48 (by omega)
  have h_76_G50 : G50 (76) = .inl (cC, 30, .inl zF) := up_at hG51 h_76_G48 (by omega)
  have h_77_G50 : G50 (77) = .inl (cI, 10, .inl zF) := up_at hG51 h_77_G48 (by omega)
  have h_78_G50 : G50 (78) = .inl (cI, 10, .inl zF) := up_at hG51 h_78_G48 (by omega)
  have h_73_G50 : G50 (73) = .inr (7, [.ref (ad29 74), .int (0), .ref (ad29 75), .int (0), .ref (ad29 76), .int (0), .int (0), .ref (ad29 77), .ref (ad29 78), .int (0)]) := up_at hG51 h_73_G48 (by omega)
  have h_74_G50 : G50 (74) = .inl (cI, 2610, .inl (upd (upd (upd (upd (upd (upd (upd (upd zF 4 5) 5 10000) 46 ((-1))) 56 ((-1))) 47 ((-1))) 57 ((-1))) 48 ((-1))) 58 ((-1)))) := up_it hG51
  refine k_iinc C33 (v := 3) (lv' := [(1, .int (3)), (0, .ref (ad29 73))]) dX7_init_88 (j := 0) rfl (by decide) (by decide) rfl ?_
  refine k_goto C33 62 dX7_init_91 (by decide) ?_
  refine k_iload_n C33 dX7_init_62 rfl (j := 0) rfl ?_
  refine k_bipush C33 (v := 10) dX7_init_63 (by decide) ?_
  refine k_icmp_ge C33 94 dX7_init_65 (by decide) (fun q => absurd q (show ¬ (10 : Int32) ≤ 3 by decide)) (fun _ => ?_)
  refine k_aload_n C33 dX7_init_68 rfl (j := 1) rfl ?_
  refine k_get C33 (73) inX7_init_7 (by omega) h_73_G50 rfl 0 (by decide) (List.mem_of_getElem? (i := 5) rfl) rfl rfl dX7_init_69 ?_
  refine k_bipush C33 (v := 46) dX7_init_72 (by decide) ?_
  refine k_iload_n C33 dX7_init_74 rfl (j := 0) rfl ?_
  refine k_iadd C33 dX7_init_75 ?_
  refine k_iconst C33 (v := (-1)) dX7_init_76 (by decide) ?_
  refine k_iastN C33 (74) 0 (by omega) h_74_G50 rfl 49 (by decide) (by omega) (Nat.le_of_ble_eq_true rfl) dX7_init_77 (fun G52 hG53 => ?_)
  have h_75_G52 : G52 (75) = .inl (cZ, 2, .inl zF) := up_at hG53 h_75_G50 (by omega)
  have h_76_G52 : G52 (76) = .inl (cC, 30, .inl zF) := up_at hG53 h_76_G50 (by omega)
  have h_77_G52 : G52 (77) = .inl (cI, 10, .inl zF) := up_at hG53 h_77_G50 (by omega)
  have h_78_G52 : G52 (78) = .inl (cI, 10, .inl zF) := up_at hG53 h_78_G50 (by omega)
  have h_73_G52 : G52 (73) = .inr (7, [.ref (ad29 74), .int (0), .ref (ad29 75), .int (0), .ref (ad29 76), .int (0), .int (0), .ref (ad29 77), .ref (ad29 78), .int (0)]) := up_at hG53 h_73_G50 (by omega)
  have h_74_G52 : G52 (74) = .inl (cI, 2610, .inl (upd (upd (upd (upd (upd (upd (upd (upd (upd zF 4 5) 5 10000) 46 ((-1))) 56 ((-1))) 47 ((-1))) 57 ((-1))) 48 ((-1))) 58 ((-1))) 49 ((-1)))) := up_it hG53
  refine k_aload_n C33 dX7_init_78 rfl (j := 1) rfl ?_
  refine k_get C33 (73) inX7_init_7 (by omega) h_73_G52 rfl 0 (by decide) (List.mem_of_getElem? (i := 5) rfl) rfl rfl dX7_init_79 ?_
  refine k_bipush C33 (v := 56) dX7_init_82 (by decide) ?_
  refine k_iload_n C33 dX7_init_84 rfl (j := 0) rfl ?_
  refine k_iadd C33 dX7_init_85 ?_
  refine k_iconst C33 (v := (-1)) dX7_init_86 (by decide) ?_
  refine k_iastN C33 (74) 0 (by omega) h_74_G52 rfl 59 (by decide) (by omega) (Nat.le_of_ble_eq_true rfl) dX7_init_87 (fun G54 hG55 => ?_)
  have h_75_G54 : G54 (75) = .inl (cZ, 2, .inl zF) := up_at hG55 h_75_G52 (by omega)
  have h_76_G54 : G54 (76) = .inl (cC, 30, .inl zF) := up_at hG55 h_76_G52 (by omega)
  have h_77_G54 : G54 (77) = .inl (cI, 10, .inl zF) := up_at hG55 h_77_G52 (by omega)
  have h_78_G54 : G54 (78) = .inl (cI, 10, .inl zF) := up_at hG55 h_78_G52 (by omega)
  have h_73_G54 : G54 (73) = .inr (7, [.ref (ad29 74), .int (0), .ref (ad29 75), .int (0), .ref (ad29 76), .int (0), .int (0), .ref (ad29 77), .ref (ad29 78), .int (0)]) := up_at hG55 h_73_G52 (by omega)
  have h_74_G54 : G54 (74) = .inl (cI, 2610, .inl (upd (upd (upd (upd (upd (upd (upd (upd (upd (upd zF 4 5) 5 10000) 46 ((-1))) 56 ((-1))) 47 ((-1))) 57 ((-1))) 48 ((-1))) 58 ((-1))) 49 ((-1))) 59 ((-1)))) := up_it hG55
  refine k_iinc C33 (v := 4) (lv' := [(1, .int (4)), (0, .ref (ad29 73))]) dX7_init_88 (j := 0) rfl (by decide) (by decide) rfl ?_
  refine k_goto C33 62 dX7_init_91 (by decide) ?_
  refine k_iload_n C33 dX7_init_62 rfl (j := 0) rfl ?_
  refine k_bipush C33 (v := 10) dX7_init_63 (by decide) ?_
  refine k_icmp_ge C33 94 dX7_init_65 (by decide) (fun q => absurd q (show ¬ (10 : Int32) ≤ 4 by decide)) (fun _ => ?_)
  refine k_aload_n C33 dX7_init_68 rfl (j := 1) rfl ?_
  refine k_get C33 (73) inX7_init_7 (by omega) h_73_G54 rfl 0 (by decide) (List.mem_of_getElem? (i := 5) rfl) rfl rfl dX7_init_69 ?_
  refine k_bipush C33 (v := 46) dX7_init_72 (by decide) ?_
  refine k_iload_n C33 dX7_init_74 rfl (j := 0) rfl ?_
  refine k_iadd C33 dX7_init_75 ?_
  refine k_iconst C33 (v := (-1)) dX7_init_76 (by decide) ?_
  refine k_iastN C33 (74) 0 (by omega) h_74_G54 rfl 50 (by decide) (by omega) (Nat.le_of_ble_eq_true rfl) dX7_init_77 (fun G56 hG57 => ?_)
  have h_75_G56 : G56 (75) = .inl (cZ, 2, .inl zF) := up_at hG57 h_75_G54 (by omega)
  have h_76_G56 : G56 (76) = .inl (cC, 30, .inl zF) := up_at hG57 h_76_G54 (by omega)
  have h_77_G56 : G56 (77) = .inl (cI, 10, .inl zF) := up_at hG57 h_77_G54 (by omega)
  have h_78_G56 : G56 (78) = .inl (cI, 10, .inl zF) := up_at hG57 h_78_G54 (by omega)
  have h_73_G56 : G56 (73) = .inr (7, [.ref (ad29 74), .int (0), .ref (ad29 75), .int (0), .ref (ad29 76), .int (0), .int (0), .ref (ad29 77), .ref (ad29 78), .int (0)]) := up_at hG57 h_73_G54 (by omega)
  have h_74_G56 : G56 (74) = .inl (cI, 2610, .inl (upd (upd (upd (upd (upd (upd (upd (upd (upd (upd (upd zF 4 5) 5 10000) 46 ((-1))) 56 ((-1))) 47 ((-1))) 57 ((-1))) 48 ((-1))) 58 ((-1))) 49 ((-1))) 59 ((-1))) 50 ((-1)))) := up_it hG57
  refine k_aload_n C33 dX7_init_78 rfl (j := 1) rfl ?_
  refine k_get C33 (73) inX7_init_7 (by omega) h_73_G56 rfl 0 (by decide) (List.mem_of_getElem? (i := 5) rfl) rfl rfl dX7_init_79 ?_
  refine k_bipush C33 (v := 56) dX7_init_82 (by decide) ?_
  refine k_iload_n C33 dX7_init_84 rfl (j := 0) rfl ?_
  refine k_iadd C33 dX7_init_85 ?_
  refine k_iconst C33 (v := (-1)) dX7_init_86 (by decide) ?_
  refine k_iastN C33 (74) 0 (by omega) h_74_G56 rfl 60 (by decide) (by omega) (Nat.le_of_ble_eq_true rfl) dX7_init_87 (fun G58 hG59 => ?_)
  have h_75_G58 : G58 (75) = .inl (cZ, 2, .inl zF) := up_at hG59 h_75_G56 (by omega)
  have h_76_G58 : G58 (76) = .inl (cC, 30, .inl zF) := up_at hG59 h_76_G56 (by omega)
  have h_77_G58 : G58 (77) = .inl (cI, 10, .inl zF) := up_at hG59 h_77_G56 (by omega)
  have h_78_G58 : G58 (78) = .inl (cI, 10, .inl zF) := up_at hG59 h_78_G56 (by omega)
  have h_73_G58 : G58 (73) = .inr (7, [.ref (ad29 74), .int (0), .ref (ad29 75), .int (0), .ref (ad29 76), .int (0), .int (0), .ref (ad29 77), .ref (ad29 78), .int (0)]) := up_at hG59 h_73_G56 (by omega)
  have h_74_G58 : G58 (74) = .inl (cI, 2610, .inl (upd (upd (upd (upd (upd (upd (upd (upd (upd (upd (upd (upd zF 4 5) 5 10000) 46 ((-1))) 56 ((-1))) 47 ((-1))) 57 ((-1))) 48 ((-1))) 58 ((-1))) 49 ((-1))) 59 ((-1))) 50 ((-1))) 60 ((-1)))) := up_it hG59
  refine k_iinc C33 (v := 5) (lv' := [(1, .int (5)), (0, .ref (ad29 73))]) dX7_init_88 (j := 0) rfl (by decide) (by decide) rfl ?_
  refine k_goto C33 62 dX7_init_91 (by decide) ?_
  refine k_iload_n C33 dX7_init_62 rfl (j := 0) rfl ?_
  refine k_bipush C33 (v := 10) dX7_init_63 (by decide) ?_
  refine k_icmp_ge C33 94 dX7_init_65 (by decide) (fun q => absurd q (show ¬ (10 : Int32) ≤ 5 by decide)) (fun _ => ?_)
  refine k_aload_n C33 dX7_init_68 rfl (j := 1) rfl ?_
  refine k_get C33 (73) inX7_init_7 (by omega) h_73_G58 rfl 0 (by decide) (List.mem_of_getElem? (i := 5) rfl) rfl rfl dX7_init_69 ?_
  refine k_bipush C33 (v := 46) dX7_init_72 (by decide) ?_
  refine k_iload_n C33 dX7_init_74 rfl (j := 0) rfl ?_
  refine k_iadd C33 dX7_init_75 ?_
  refine k_iconst C33 (v := (-1)) dX7_init_76 (by decide) ?_
  refine k_iastN C33 (74) 0 (by omega) h_74_G58 rfl 51 (by decide) (by omega) (Nat.le_of_ble_eq_true rfl) dX7_init_77 (fun G60 hG61 => ?_)
  have h_75_G60 : G60 (75) = .inl (cZ, 2, .inl zF) := up_at hG61 h_75_G58 (by omega)
  have h_76_G60 : G60 (76) = .inl (cC, 30, .inl zF) := up_at hG61 h_76_G58 (by omega)
  have h_77_G60 : G60 (77) = .inl (cI, 10, .inl zF) := up_at hG61 h_77_G58 (by omega)
  have h_78_G60 : G60 (78) = .inl (cI, 10, .inl zF) := up_at hG61 h_78_G58 (by omega)
  have h_73_G60 : G60 (73) = .inr (7, [.ref (ad29 74), .int (0), .ref (ad29 75), .int (0), .ref (ad29 76), .int (0), .int (0), .ref (ad29 77), .ref (ad29 78), .int (0)]) := up_at hG61 h_73_G58 (by omega)
  have h_74_G60 : G60 (74) = .inl (cI, 2610, .inl (upd (upd (upd (upd (upd (upd (upd (upd (upd (upd (upd (upd (upd zF 4 5) 5 10000) 46 ((-1))) 56 ((-1))) 47 ((-1))) 57 ((-1))) 48 ((-1))) 58 ((-1))) 49 ((-1))) 59 ((-1))) 50 ((-1))) 60 ((-1))) 51 ((-1)))) := up_it hG61
  refine k_aload_n C33 dX7_init_78 rfl (j := 1) rfl ?_
  refine k_get C33 (73) inX7_init_7 (by omega) h_73_G60 rfl 0 (by decide) (List.mem_of_getElem? (i := 5) rfl) rfl rfl dX7_init_79 ?_
  refine k_bipush C33 (v := 56) dX7_init_82 (by decide) ?_
  refine k_iload_n C33 dX7_init_84 rfl (j := 0) rfl ?_
  refine k_iadd C33 dX7_init_85 ?_
  refine k_iconst C33 (v := (-1)) dX7_init_86 (by decide) ?_
  refine k_iastN C33 (74) 0 (by omega) h_74_G60 rfl 61 (by decide) (by omega) (Nat.le_of_ble_eq_true rfl) dX7_init_87 (fun G62 hG63 => ?_)
  have h_75_G62 : G62 (75) = .inl (cZ, 2, .inl zF) := up_at hG63 h_75_G60 (by omega)
  have h_76_G62 : G62 (76) = .inl (cC, 30, .inl zF) := up_at hG63 h_76_G60 (by omega)
  have h_77_G62 : G62 (77) = .inl (cI, 10, .inl zF) := up_at hG63 h_77_G60 (by omega)
  have h_78_G62 : G62 (78) = .inl (cI, 10, .inl zF) := up_at hG63 h_78_G60 (by omega)
  have h_73_G62 : G62 (73) = .inr (7, [.ref (ad29 74), .int (0), .ref (ad29 75), .int (0), .ref (ad29 76), .int (0), .int (0), .ref (ad29 77), .ref (ad29 78), .int (0)]) := up_at hG63 h_73_G60 (by omega)
  have h_74_G62 : G62 (74) = .inl (cI, 2610, .inl (upd (upd (upd (upd (upd (upd (upd (upd (upd (upd (upd (upd (upd (upd zF 4 5) 5 10000) 46 ((-1))) 56 ((-1))) 47 ((-1))) 57 ((-1))) 48 ((-1))) 58 ((-1))) 49 ((-1))) 59 ((-1))) 50 ((-1))) 60 ((-1))) 51 ((-1))) 61 ((-1)))) := up_it hG63
  refine k_iinc C33 (v := 6) (lv' := [(1, .int (6)), (0, .ref (ad29 73))]) dX7_init_88 (j := 0) rfl (by decide) (by decide) rfl ?_
  refine k_goto C33 62 dX7_init_91 (by decide) ?_
  refine k_iload_n C33 dX7_init_62 rfl (j := 0) rfl ?_
  refine k_bipush C33 (v := 10) dX7_init_63 (by decide) ?_
  refine k_icmp_ge C33 94 dX7_init_65 (by decide) (fun q => absurd q (show ¬ (10 : Int32) ≤ 6 by decide)) (fun _ => ?_)
  refine k_aload_n C33 dX7_init_68 rfl (j := 1) rfl ?_
  refine k_get C33 (73) inX7_init_7 (by omega) h_73_G62 rfl 0 (by decide) (List.mem_of_getElem? (i := 5) rfl) rfl rfl dX7_init_69 ?_
  refine k_bipush C33 (v := 46) dX7_init_72 (by decide) ?_
  refine k_iload_n C33 dX7_init_74 rfl (j := 0) rfl ?_
  refine k_iadd C33 dX7_init_75 ?_
  refine k_iconst C33 (v := (-1)) dX7_init_76 (by decide) ?_
  refine k_iastN C33 (74) 0 (by omega) h_74_G62 rfl 52 (by decide) (by omega) (Nat.le_of_ble_eq_true rfl) dX7_init_77 (fun G64 hG65 => ?_)
  have h_75_G64 : G64 (75) = .inl (cZ, 2, .inl zF) := up_at hG65 h_75_G62 (by omega)
  have h_76_G64 : G64 (76) = .inl (cC, 30, .inl zF) := up_at hG65 h_76_G62 (by omega)
  have h_77_G64 : G64 (77) = .inl (cI, 10, .inl zF) := up_at hG65 h_77_G62 (by omega)
  have h_78_G64 : G64 (78) = .inl (cI, 10, .inl zF) := up_at hG65 h_78_G62 (by omega)
  have h_73_G64 : G64 (73) = .inr (7, [.ref (ad29 74), .int (0), .ref (ad29 75), .int (0), .ref (ad29 76), .int (0), .int (0), .ref (ad29 77), .ref (ad29 78), .int (0)]) := up_at hG65 h_73_G62 (by omega)
  have h_74_G64 : G64 (74) = .inl (cI, 2610, .inl (upd (upd (upd (upd (upd (upd (upd (upd (upd (upd (upd (upd (upd (upd (upd zF 4 5) 5 10000) 46 ((-1))) 56 ((-1))) 47 ((-1))) 57 ((-1))) 48 ((-1))) 58 ((-1))) 49 ((-1))) 59 ((-1))) 50 ((-1))) 60 ((-1))) 51 ((-1))) 61 ((-1))) 52 ((-1)))) := up_it hG65
  refine k_aload_n C33 dX7_init_78 rfl (j := 1) rfl ?_
  refine k_get C33 (73) inX7_init_7 (by omega) h_73_G64 rfl 0 (by decide) (List.mem_of_getElem? (i := 5) rfl) rfl rfl dX7_init_79 ?_
  refine k_bipush C33 (v := 56) dX7_init_82 (by decide) ?_
  refine k_iload_n C33 dX7_init_84 rfl (j := 0) rfl ?_
  refine k_iadd C33 dX7_init_85 ?_
  refine k_iconst C33 (v := (-1)) dX7_init_86 (by decide) ?_
  refine k_iastN C33 (74) 0 (by omega) h_74_G64 rfl 62 (by decide) (by omega) (Nat.le_of_ble_eq_true rfl) dX7_init_87 (fun G66 hG67 => ?_)
  have h_75_G66 : G66 (75) = .inl (cZ, 2, .inl zF) := up_at hG67 h_75_G64 (by omega)
  have h_76_G66 : G66 (76) = .inl (cC, 30, .inl zF) := up_at hG67 h_76_G64 (by omega)
  have h_77_G66 : G66 (77) = .inl (cI, 10, .inl zF) := up_at hG67 h_77_G64 (by omega)
  have h_78_G66 : G66 (78) = .inl (cI, 10, .inl zF) := up_at hG67 h_78_G64 (by omega)
  have h_73_G66 : G66 (73) = .inr (7, [.ref (ad29 74), .int (0), .ref (ad29 75), .int (0), .ref (ad29 76), .int (0), .int (0), .ref (ad29 77), .ref (ad29 78), .int (0)]) := up_at hG67 h_73_G64 (by omega)
  have h_74_G66 : G66 (74) = .inl (cI, 2610, .inl (upd (upd (upd (upd (upd (upd (upd (upd (upd (upd (upd (upd (upd (upd (upd (upd zF 4 5) 5 10000) 46 ((-1))) 56 ((-1))) 47 ((-1))) 57 ((-1))) 48 ((-1))) 58 ((-1))) 49 ((-1))) 59 ((-1))) 50 ((-1))) 60 ((-1))) 51 ((-1))) 61 ((-1))) 52 ((-1))) 62 ((-1)))) := up_it hG67
  refine k_iinc C33 (v := 7) (lv' := [(1, .int (7)), (0, .ref (ad29 73))]) dX7_init_88 (j := 0) rfl (by decide) (by decide) rfl ?_
  refine k_goto C33 62 dX7_init_91 (by decide) ?_
  refine k_iload_n C33 dX7_init_62 rfl (j := 0) rfl ?_
  refine k_bipush C33 (v := 10) dX7_init_63 (by decide) ?_
  refine k_icmp_ge C33 94 dX7_init_65 (by decide) (fun q => absurd q (show ¬ (10 : Int32) ≤ 7 by decide)) (fun _ => ?_)
  refine k_aload_n C33 dX7_init_68 rfl (j := 1) rfl ?_
  refine k_get C33 (73) inX7_init_7 (by omega) h_73_G66 rfl 0 (by decide) (List.mem_of_getElem? (i := 5) rfl) rfl rfl dX7_init_69 ?_
  refine k_bipush C33 (v := 46) dX7_init_72 (by decide) ?_
  refine k_iload_n C33 dX7_init_74 rfl (j := 0) rfl ?_
  refine k_iadd C33 dX7_init_75 ?_
  refine k_iconst C33 (v := (-1)) dX7_init_76 (by decide) ?_
  refine k_iastN C33 (74) 0 (by omega) h_74_G66 rfl 53 (by decide) (by omega) (Nat.le_of_ble_eq_true rfl) dX7_init_77 (fun G68 hG69 => ?_)
  have h_75_G68 : G68 (75) = .inl (cZ, 2, .inl zF) := up_at hG69 h_75_G66 (by omega)
  have h_76_G68 : G68 (76) = .inl (cC, 30, .inl zF) := up_at hG69 h_76_G66 (by omega)
  have h_77_G68 : G68 (77) = .inl (cI, 10, .inl zF) := up_at hG69 h_77_G66 (by omega)
  have h_78_G68 : G68 (78) = .inl (cI, 10, .inl zF) := up_at hG69 h_78_G66 (by omega)
  have h_73_G68 : G68 (73) = .inr (7, [.ref (ad29 74), .int (0), .ref (ad29 75), .int (0), .ref (ad29 76), .int (0), .int (0), .ref (ad29 77), .ref (ad29 78), .int (0)]) := up_at hG69 h_73_G66 (by omega)
  have h_74_G68 : G68 (74) = .inl (cI, 2610, .inl (upd (upd (upd (upd (upd (upd (upd (upd (upd (upd (upd (upd (upd (upd (upd (upd (upd zF 4 5) 5 10000) 46 ((-1))) 56 ((-1))) 47 ((-1))) 57 ((-1))) 48 ((-1))) 58 ((-1))) 49 ((-1))) 59 ((-1))) 50 ((-1))) 60 ((-1))) 51 ((-1))) 61 ((-1))) 52 ((-1))) 62 ((-1))) 53 ((-1)))) := up_it hG69
  refine k_aload_n C33 dX7_init_78 rfl (j := 1) rfl ?_
  refine k_get C33 (73) inX7_init_7 (by omega) h_73_G68 rfl 0 (by decide) (List.mem_of_getElem? (i := 5) rfl) rfl rfl dX7_init_79 ?_
  refine k_bipush C33 (v := 56) dX7_init_82 (by decide) ?_
  refine k_iload_n C33 dX7_init_84 rfl (j := 0) rfl ?_
  refine k_iadd C33 dX7_init_85 ?_
  refine k_iconst C33 (v := (-1)) dX7_init_86 (by decide) ?_
  refine k_iastN C33 (74) 0 (by omega) h_74_G68 rfl 63 (by decide) (by omega) (Nat.le_of_ble_eq_true rfl) dX7_init_87 (fun G70 hG71 => ?_)
  have h_75_G70 : G70 (75) = .inl (cZ, 2, .inl zF) := up_at hG71 h_75_G68 (by omega)
  have h_76_G70 : G70 (76) = .inl (cC, 30, .inl zF) := up_at hG71 h_76_G68 (by omega)
  have h_77_G70 : G70 (77) = .inl (cI, 10, .inl zF) := up_at hG71 h_77_G68 (by omega)
  have h_78_G70 : G70 (78) = .inl (cI, 10, .inl zF) := up_at hG71 h_78_G68 (by omega)
  have h_73_G70 : G70 (73) = .inr (7, [.ref (ad29 74), .int (0), .ref (ad29 75), .int (0), .ref (ad29 76), .int (0), .int (0), .ref (ad29 77), .ref (ad29 78), .int (0)]) := up_at hG71 h_73_G68 (by omega)
  have h_74_G70 : G70 (74) = .inl (cI, 2610, .inl (upd (upd (upd (upd (upd (upd (upd (upd (upd (upd (upd (upd (upd (upd (upd (upd (upd (upd zF 4 5) 5 10000) 46 ((-1))) 56 ((-1))) 47 ((-1))) 57 ((-1))) 48 ((-1))) 58 ((-1))) 49 ((-1))) 59 ((-1))) 50 ((-1))) 60 ((-1))) 51 ((-1))) 61 ((-1))) 52 ((-1))) 62 ((-1))) 53 ((-1))) 63 ((-1)))) := up_it hG71
  refine k_iinc C33 (v := 8) (lv' := [(1, .int (8)), (0, .ref (ad29 73))]) dX7_init_88 (j := 0) rfl (by decide) (by decide) rfl ?_
  refine k_goto C33 62 dX7_init_91 (by decide) ?_
  refine k_iload_n C33 dX7_init_62 rfl (j := 0) rfl ?_
  refine k_bipush C33 (v := 10) dX7_init_63 (by decide) ?_
  refine k_icmp_ge C33 94 dX7_init_65 (by decide) (fun q => absurd q (show ¬ (10 : Int32) ≤ 8 by decide)) (fun _ => ?_)
  refine k_aload_n C33 dX7_init_68 rfl (j := 1) rfl ?_
  refine k_get C33 (73) inX7_init_7 (by omega) h_73_G70 rfl 0 (by decide) (List.mem_of_getElem? (i := 5) rfl) rfl rfl dX7_init_69 ?_
  refine k_bipush C33 (v := 46) dX7_init_72 (by decide) ?_
  refine k_iload_n C33 dX7_init_74 rfl (j := 0) rfl ?_
  refine k_iadd C33 dX7_init_75 ?_
  refine k_iconst C33 (v := (-1)) dX7_init_76 (by decide) ?_
  refine k_iastN C33 (74) 0 (by omega) h_74_G70 rfl 54 (by decide) (by omega) (Nat.le_of_ble_eq_true rfl) dX7_init_77 (fun G72 hG73 => ?_)
  have h_75_G72 : G72 (75) = .inl (cZ, 2, .inl zF) := up_at hG73 h_75_G70 (by omega)
  have h_76_G72 : G72 (76) = .inl (cC, 30, .inl zF) := up_at hG73 h_76_G70 (by omega)
  have h_77_G72 : G72 (77) = .inl (cI, 10, .inl zF) := up_at hG73 h_77_G70 (by omega)
  have h_78_G72 : G72 (78) = .inl (cI, 10, .inl zF) := up_at hG73 h_78_G70 (by omega)
  have h_73_G72 : G72 (73) = .inr (7, [.ref (ad29 74), .int (0), .ref (ad29 75), .int (0), .ref (ad29 76), .int (0), .int (0), .ref (ad29 77), .ref (ad29 78), .int (0)]) := up_at hG73 h_73_G70 (by omega)
  have h_74_G72 : G72 (74) = .inl (cI, 2610, .inl (upd (upd (upd (upd (upd (upd (upd (upd (upd (upd (upd (upd (upd (upd (upd (upd (upd (upd (upd zF 4 5) 5 10000) 46 ((-1))) 56 ((-1))) 47 ((-1))) 57 ((-1))) 48 ((-1))) 58 ((-1))) 49 ((-1))) 59 ((-1))) 50 ((-1))) 60 ((-1))) 51 ((-1))) 61 ((-1))) 52 ((-1))) 62 ((-1))) 53 ((-1))) 63 ((-1))) 54 ((-1)))) := up_it hG73
  refine k_aload_n C33 dX7_init_78 rfl (j := 1) rfl ?_
  refine k_get C33 (73) inX7_init_7 (by omega) h_73_G72 rfl 0 (by decide) (List.mem_of_getElem? (i := 5) rfl) rfl rfl dX7_init_79 ?_
  refine k_bipush C33 (v := 56) dX7_init_82 (by decide) ?_
  refine k_iload_n C33 dX7_init_84 rfl (j := 0) rfl ?_
  refine k_iadd C33 dX7_init_85 ?_
  refine k_iconst C33 (v := (-1)) dX7_init_86 (by decide) ?_
  refine k_iastN C33 (74) 0 (by omega) h_74_G72 rfl 64 (by decide) (by omega) (Nat.le_of_ble_eq_true rfl) dX7_init_87 (fun G74 hG75 => ?_)
  have h_75_G74 : G74 (75) = .inl (cZ, 2, .inl zF) := up_at hG75 h_75_G72 (by omega)
  have h_76_G74 : G74 (76) = .inl (cC, 30, .inl zF) := up_at hG75 h_76_G72 (by omega)
  have h_77_G74 : G74 (77) = .inl (cI, 10, .inl zF) := up_at hG75 h_77_G72 (by omega)
  have h_78_G74 : G74 (78) = .inl (cI, 10, .inl zF) := up_at hG75 h_78_G72 (by omega)
  have h_73_G74 : G74 (73) = .inr (7, [.ref (ad29 74), .int (0), .ref (ad29 75), .int (0), .ref (ad29 76), .int (0), .int (0), .ref (ad29 77), .ref (ad29 78), .int (0)]) := up_at hG75 h_73_G72 (by omega)
  have h_74_G74 : G74 (74) = .inl (cI, 2610, .inl (upd (upd (upd (upd (upd (upd (upd (upd (upd (upd (upd (upd (upd (upd (upd (upd (upd (upd (upd (upd zF 4 5) 5 10000) 46 ((-1))) 56 ((-1))) 47 ((-1))) 57 ((-1))) 48 ((-1))) 58 ((-1))) 49 ((-1))) 59 ((-1))) 50 ((-1))) 60 ((-1))) 51 ((-1))) 61 ((-1))) 52 ((-1))) 62 ((-1))) 53 ((-1))) 63 ((-1))) 54 ((-1))) 64 ((-1)))) := up_it hG75
  refine k_iinc C33 (v := 9) (lv' := [(1, .int (9)), (0, .ref (ad29 73))]) dX7_init_88 (j := 0) rfl (by decide) (by decide) rfl ?_
  refine k_goto C33 62 dX7_init_91 (by decide) ?_
  refine k_iload_n C33 dX7_init_62 rfl (j := 0) rfl ?_
  refine k_bipush C33 (v := 10) dX7_init_63 (by decide) ?_
  refine k_icmp_ge C33 94 dX7_init_65 (by decide) (fun q => absurd q (show ¬ (10 : Int32) ≤ 9 by decide)) (fun _ => ?_)
  refine k_aload_n C33 dX7_init_68 rfl (j := 1) rfl ?_
  refine k_get C33 (73) inX7_init_7 (by omega) h_73_G74 rfl 0 (by decide) (List.mem_of_getElem? (i := 5) rfl) rfl rfl dX7_init_69 ?_
  refine k_bipush C33 (v := 46) dX7_init_72 (by decide) ?_
  refine k_iload_n C33 dX7_init_74 rfl (j := 0) rfl ?_
  refine k_iadd C33 dX7_init_75 ?_
  refine k_iconst C33 (v := (-1)) dX7_init_76 (by decide) ?_
  refine k_iastN C33 (74) 0 (by omega) h_74_G74 rfl 55 (by decide) (by omega) (Nat.le_of_ble_eq_true rfl) dX7_init_77 (fun G76 hG77 => ?_)
  have h_75_G76 : G76 (75) = .inl (cZ, 2, .inl zF) := up_at hG77 h_75_G74 (by omega)
  have h_76_G76 : G76 (76) = .inl (cC, 30, .inl zF) := up_at hG77 h_76_G74 (by omega)
  have h_77_G76 : G76 (77) = .inl (cI, 10, .inl zF) := up_at hG77 h_77_G74 (by omega)
  have h_78_G76 : G76 (78) = .inl (cI, 10, .inl zF) := up_at hG77 h_78_G74 (by omega)
  have h_73_G76 : G76 (73) = .inr (7, [.ref (ad29 74), .int (0), .ref (ad29 75), .int (0), .ref (ad29 76), .int (0), .int (0), .ref (ad29 77), .ref (ad29 78), .int (0)]) := up_at hG77 h_73_G74 (by omega)
  have h_74_G76 : G76 (74) = .inl (cI, 2610, .inl (upd (upd (upd (upd (upd (upd (upd (upd (upd (upd (upd (upd (upd (upd (upd (upd (upd (upd (upd (upd (upd zF 4 5) 5 10000) 46 ((-1))) 56 ((-1))) 47 ((-1))) 57 ((-1))) 48 ((-1))) 58 ((-1))) 49 ((-1))) 59 ((-1))) 50 ((-1))) 60 ((-1))) 51 ((-1))) 61 ((-1))) 52 ((-1))) 62 ((-1))) 53 ((-1))) 63 ((-1))) 54 ((-1))) 64 ((-1))) 55 ((-1)))) := up_it hG77
  refine k_aload_n C33 dX7_init_78 rfl (j := 1) rfl ?_
  refine k_get C33 (73) inX7_init_7 (by omega) h_73_G76 rfl 0 (by decide) (List.mem_of_getElem? (i := 5) rfl) rfl rfl dX7_init_79 ?_
  refine k_bipush C33 (v := 56) dX7_init_82 (by decide) ?_
  refine k_iload_n C33 dX7_init_84 rfl (j := 0) rfl ?_
  refine k_iadd C33 dX7_init_85 ?_
  refine k_iconst C33 (v := (-1)) dX7_init_86 (by decide) ?_
  refine k_iastN C33 (74) 0 (by omega) h_74_G76 rfl 65 (by decide) (by omega) (Nat.le_of_ble_eq_true rfl) dX7_init_87 (fun G78 hG79 => ?_)
  have h_75_G78 : G78 (75) = .inl (cZ, 2, .inl zF) := up_at hG79 h_75_G76 (by omega)
  have h_76_G78 : G78 (76) = .inl (cC, 30, .inl zF) := up_at hG79 h_76_G76 (by omega)
  have h_77_G78 : G78 (77) = .inl (cI, 10, .inl zF) := up_at hG79 h_77_G76 (by omega)
  have h_78_G78 : G78 (78) = .inl (cI, 10, .inl zF) := up_at hG79 h_78_G76 (by omega)
  have h_73_G78 : G78 (73) = .inr (7, [.ref (ad29 74), .int (0), .ref (ad29 75), .int (0), .ref (ad29 76), .int (0), .int (0), .ref (ad29 77), .ref (ad29 78), .int (0)]) := up_at hG79 h_73_G76 (by omega)
  have h_74_G78 : G78 (74) = .inl (cI, 2610, .inl (upd (upd (upd (upd (upd (upd (upd (upd (upd (upd (upd (upd (upd (upd (upd (upd (upd (upd (upd (upd (upd (upd zF 4 5) 5 10000) 46 ((-1))) 56 ((-1))) 47 ((-1))) 57 ((-1))) 48 ((-1))) 58 ((-1))) 49 ((-1))) 59 ((-1))) 50 ((-1))) 60 ((-1))) 51 ((-1))) 61 ((-1))) 52 ((-1))) 62 ((-1))) 53 ((-1))) 63 ((-1))) 54 ((-1))) 64 ((-1))) 55 ((-1))) 65 ((-1)))) := up_it hG79
  refine k_iinc C33 (v := 10) (lv' := [(1, .int (10)), (0, .ref (ad29 73))]) dX7_init_88 (j := 0) rfl (by decide) (by decide) rfl ?_
  refine k_goto C33 62 dX7_init_91 (by decide) ?_
  refine k_iload_n C33 dX7_init_62 rfl (j := 0) rfl ?_
  refine k_bipush C33 (v := 10) dX7_init_63 (by decide) ?_
  refine k_icmp_ge C33 94 dX7_init_65 (by decide) (fun _ => ?_) (fun q => absurd (show (10 : Int32) ≤ 10 by decide) q)
  exact kn_ret C33 (post := fun ad' G' => (∀ i, i < 74 → ad' i = ad i) ∧ isMo ad' cI cC cZ G' (mI 10) zF zF zF zF 0 0 0 0 0 ∧ ∀ j, j < 73 → G' j = G j) hQ rfl rfl (Nat.le_of_ble_eq_true rfl) (Nat.le_of_ble_eq_true rfl) dX7_init_94 ⟨fun i hi => (hx31 i (by omega) : _).trans ((hx24 i (by omega) : _).trans ((hx17 i (by omega) : _).trans ((hx10 i (by omega) : _).trans (hx3 i (by omega))))), ⟨h_73_G78, h_74_G78, h_75_G78, h_76_G78, h_77_G78, h_78_G78⟩, fun j hj => (show _ = _ from by rw [hG79, up_ne (by omega)]).trans ((show _ = _ from by rw [hG77, up_ne (by omega)]).trans ((show _ = _ from by rw [hG75, up_ne (by omega)]).trans ((show _ = _ from by rw [hG73, up_ne (by omega)]).trans ((show _ = _ from by rw [hG71, up_ne (by omega)]).trans ((show _ = _ from by rw [hG69, up_ne (by omega)]).trans ((show _ = _ from by rw [hG67, up_ne (by omega)]).trans ((show _ = _ from by rw [hG65, up_ne (by omega)]).trans ((show _ = _ from by rw [hG63, up_ne (by omega)]).trans ((show _ = _ from by rw [hG61, up_ne (by omega)]).trans ((show _ = _ from by rw [hG59, up_ne (by omega)]).trans ((show _ = _ from by rw [hG57, up_ne (by omega)]).trans ((show _ = _ from by rw [hG55, up_ne (by omega)]).trans ((show _ = _ from by rw [hG53, up_ne (by omega)]).trans ((show _ = _ from by rw [hG51, up_ne (by omega)]).trans ((show _ = _ from by rw [hG49, up_ne (by omega)]).trans ((show _ = _ from by rw [hG47, up_ne (by omega)]).trans ((show _ = _ from by rw [hG45, up_ne (by omega)]).trans ((show _ = _ from by rw [hG43, up_ne (by omega)]).trans ((show _ = _ from by rw [hG41, up_ne (by omega)]).trans ((show _ = _ from by rw [hG39, up_ne (by omega)]).trans ((show _ = _ from by rw [hG37, up_ne (by omega)]).trans ((show _ = _ from by rw [hG35, up_ne (by omega)]).trans ((show _ = _ from by rw [hG32, up_ne (by omega)]).trans ((show _ = _ from by rw [hG28, up_ne (by omega)]).trans ((show _ = _ from by rw [hG25, up_ne (by omega)]).trans ((show _ = _ from by rw [hG21, up_ne (by omega)]).trans ((show _ = _ from by rw [hG18, up_ne (by omega)]).trans ((show _ = _ from by rw [hG14, up_ne (by omega)]).trans ((show _ = _ from by rw [hG11, up_ne (by omega)]).trans ((show _ = _ from by rw [hG7, up_ne (by omega)]).trans ((show _ = _ from by rw [hG4, up_ne (by omega)]))))))))))))))))))))))))))))))))⟩
