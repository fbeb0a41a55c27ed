/-! Book.copyFrom; MODULE History: cells h (object), h + 1 (the row of states), six books from h + 2 on; MODULE Slot: cells z, a book from z + 1 on -/
def bCopy (v u : BV) : BV := ((bnH u, bnB u, bnL u), (bvS u, bvP u, bvO u), (tCp (bvh u) (bvh v) 90, tCp (bvb u) (bvb v) 192, tCp (bvl u) (bvl v) 30))
abbrev HV : Type := (Nat → BV) × Nat × Nat
def hvS (w : HV) : Nat → BV := w.1
def hvN (w : HV) : Nat := w.2.1
def hvZ (w : HV) : Nat := w.2.2
def isHi (ad : Nat → Nat) (cI cB : ClassId) (G : Nat → va_E) (h : Nat) (w : HV) : Prop :=
  G h = .inr (2, [.ref (ad (h + 1)), .int (nI (hvN w)), .int (nI (hvZ w))]) ∧ (∃ f : Nat → Option Nat, G (h + 1) = .inl (cB, 6, .inr (.inr (.inr (.inr f)))) ∧ ∀ i, i < 6 → f i = some (ad (h + 2 + 7 * i))) ∧
  (∀ i, i < 6 → isBk ad cI G (h + 2 + 7 * i) (hvS w i)) ∧ hvN w < 6 ∧ hvZ w ≤ 6
theorem isHi.keep {ad : Nat → Nat} {cI cB : ClassId} {G G' : Nat → va_E} {h : Nat} {w : HV} (k : isHi ad cI cB G h w) (hf : ∀ j, h ≤ j → j < h + 44 → G' j = G j) : isHi ad cI cB G' h w := by
  obtain ⟨h1, ⟨f, h2, h3⟩, h4, h5⟩ := k
  exact ⟨(hf _ (by omega) (by omega)).trans h1, ⟨f, (hf _ (by omega) (by omega)).trans h2, h3⟩, fun i hi => (h4 i hi).keep (fun j h8 h9 => hf j (by omega) (by omega)), h5⟩
def hSave (w : HV) (v : BV) : HV := (fun i => if i = hvN w then bCopy (hvS w (hvN w)) v else hvS w i, (hvN w + 1) % 6, min (hvZ w + 1) 6)
def hLast (w : HV) : Nat := (hvN w + 5) % 6
abbrev ZV : Type := BV × Bool
def isSl (ad : Nat → Nat) (cI : ClassId) (G : Nat → va_E) (z : Nat) (w : ZV) : Prop := G z = .inr (3, [.ref (ad (z + 1)), .int (bI w.2)]) ∧ isBk ad cI G (z + 1) w.1
theorem isSl.keep {ad : Nat → Nat} {cI : ClassId} {G G' : Nat → va_E} {z : Nat} {w : ZV} (k : isSl ad cI G z w) (hf : ∀ j, z ≤ j → j < z + 8 → G' j = G j) : isSl ad cI G' z w :=
  ⟨(hf _ (by omega) (by omega)).trans k.1, k.2.keep (fun j h8 h9 => hf j (by omega) (by omega))⟩
theorem k_min6 {n : Nat} (h : n < 2 ^ 31) : (if (6 : Int32) < nI n then (6 : Int32) else nI n) = nI (min n 6) := by
  by_cases h6 : 6 < n
  · rw [if_pos (show (6 : Int32) < nI n from nI_lt (a := 6) h6 h), Nat.min_eq_right (by omega)]; rfl
  · rw [if_neg (show ¬ (6 : Int32) < nI n from fun h9 => nI_nlt (a := 6) (b := n) (by omega) (by decide) h9), Nat.min_eq_left (by omega)]
theorem k_rem6 {n : Nat} (h : n < 2 ^ 31) : nI n - nI n / 6 * 6 = nI (n % 6) := pk_rem (d := 6) h (by omega) (by omega)
theorem k_last {n : Nat} : nI n + 6 - 1 = nI (n + 5) := by
  rw [show nI n + 6 = nI (n + 6) from nI_add n 6, show n + 6 = (n + 5) + 1 from rfl, nI_pred]
theorem inX1_copyFrom_1 : ∀ w ∈ wsX10, w ∈ wsX1_copyFrom := fun _ h => List.mem_cons_of_mem _ (List.mem_append_left _ (List.mem_append_right _ h))
theorem inX1_copyFrom_4 : ∀ w ∈ wsX40, w ∈ wsX1_copyFrom := fun _ h => List.mem_cons_of_mem _ (List.mem_append_right _ h)
theorem kd_X1_copyFrom : yX1_copyFrom.cls = RX1 ∧ yX1_copyFrom.cls ≠ "java/lang/invoke/MethodHandle" ∧ yX1_copyFrom.cls ≠ "java/lang/invoke/VarHandle" ∧ (parseMethodDescriptor yX1_copyFrom.desc).map (fun d => d.parameters.length) = some 1 := by decide +kernel
abbrev rX1_copyFrom : Room := ({ frames := 2, cells := 0, slots := 0, locals := 81 } : Room)
set_option maxRecDepth 100000 in
set_option maxHeartbeats 4000000 in
/-- Book.copyFrom -/
theorem m_X1_copyFrom (l : Launch) (D : va_G) (cI cC cZ cB cJ : ClassId) (ad : Nat → Nat) (N : Nat) (G : Nat → va_E) (b : Nat) (v : BV) (o : Nat) (u : BV) (hNb : b + 7 ≤ N) (hB : isBk ad cI G b v) (hNo : o + 7 ≤ N) (hO : isBk ad cI G o u) (hdis : b + 7 ≤ o ∨ o + 7 ≤ b) : kMv l yX1_copyFrom wsX1_copyFrom rX1_copyFrom D (kT5 cI cC cZ cB cJ) ad N G [.ref (ad b), .ref (ad o)] (fun G' => isBk ad cI G' b (bCopy v u) ∧ ∀ j, (j < b ∨ b + 7 ≤ j) → G' j = G j) := by
  refine k_startv (cc := cX1_copyFrom) (ret := none) (maxL := 2) (lv0 := [(0, .ref (ad b)), (1, .ref (ad o))]) (by decide) rfl (Nat.le_of_ble_eq_true rfl) rfl ?_
  intro p e s m args below meth c A Q C hQ
  have hlH := hB.2.2.2.2.1
  have hlB := hB.2.2.2.2.2.1
  have hlL := hB.2.2.2.2.2.2
  refine k_aload_n C dX1_copyFrom_0 rfl (j := 0) rfl ?_
  refine k_get C b inX1_copyFrom_1 (by omega) hB.1 rfl 0 (by decide) (List.mem_of_getElem? (i := 1) rfl) rfl rfl dX1_copyFrom_1 ?_
  refine k_aload_n C dX1_copyFrom_4 rfl (j := 1) rfl ?_
  refine k_get C o inX1_copyFrom_1 (by omega) hO.1 rfl 0 (by decide) (List.mem_of_getElem? (i := 1) rfl) rfl rfl dX1_copyFrom_5 ?_
  refine k_callVv C (As := [.ref (ad (o + 1))]) (rest := []) (b + 1) (m_X4_copyFrom l D cI cC cZ cB cJ ad N G (b + 1) (b + 2) (o + 1) (o + 2) 9 (nI (bnH v)) 9 (nI (bnH u)) 90 (bvh v) (bvh u) (by omega) (by omega) (by omega) (by omega) hB.2.1.1 hB.2.1.2 hO.2.1.1 hO.2.1.2 (by omega) (by omega) (Nat.le_of_ble_eq_true rfl)) gX1_copyFrom_X4_copyFrom rfl kd_X4_copyFrom rfl rfl ⟨Nat.le_of_ble_eq_true rfl, Nat.le_of_ble_eq_true rfl⟩ (by omega) hB.2.1.1 rfl rfl rfl (Nat.le_of_ble_eq_true rfl) ⟨Nat.zero_le _, Nat.zero_le _⟩ dX1_copyFrom_8 (fun G1 hG1 => ?_)
  have hb_B_G1 := (hB.h hG1.1 hG1.2.1 hO.2.2.2.2.1 (fun j h8 h9 => hG1.2.2 j h8 h9) : isBk ad cI G1 b (bH v (bnH u) (tCp (bvh u) (bvh v) 90)))
  have hb_O_G1 := hO.keep (fun j h8 h9 => (fun j (hj9 : j < b ∨ b + 7 ≤ j) => hG1.2.2 j (by omega) (by omega)) j (by omega))
  refine k_aload_n C dX1_copyFrom_11 rfl (j := 0) rfl ?_
  refine k_get C b inX1_copyFrom_1 (by omega) hb_B_G1.1 rfl 1 (by decide) (List.mem_of_getElem? (i := 2) rfl) rfl rfl dX1_copyFrom_12 ?_
  refine k_aload_n C dX1_copyFrom_15 rfl (j := 1) rfl ?_
  refine k_get C o inX1_copyFrom_1 (by omega) hb_O_G1.1 rfl 1 (by decide) (List.mem_of_getElem? (i := 2) rfl) rfl rfl dX1_copyFrom_16 ?_
  refine k_callVv C (As := [.ref (ad (o + 3))]) (rest := []) (b + 3) (m_X4_copyFrom l D cI cC cZ cB cJ ad N G1 (b + 3) (b + 4) (o + 3) (o + 4) 8 (nI (bnB (bH v (bnH u) (tCp (bvh u) (bvh v) 90)))) 8 (nI (bnB u)) 192 (bvb (bH v (bnH u) (tCp (bvh u) (bvh v) 90))) (bvb u) (by omega) (by omega) (by omega) (by omega) hb_B_G1.2.2.1.1 hb_B_G1.2.2.1.2 hb_O_G1.2.2.1.1 hb_O_G1.2.2.1.2 (by omega) (by omega) (Nat.le_of_ble_eq_true rfl)) gX1_copyFrom_X4_copyFrom rfl kd_X4_copyFrom rfl rfl ⟨Nat.le_of_ble_eq_true rfl, Nat.le_of_ble_eq_true rfl⟩ (by omega) hb_B_G1.2.2.1.1 rfl rfl rfl (Nat.le_of_ble_eq_true rfl) ⟨Nat.zero_le _, Nat.zero_le _⟩ dX1_copyFrom_19 (fun G2 hG2 => ?_)
  have hb_B_G2 := (hb_B_G1.b hG2.1 hG2.2.1 hb_O_G1.2.2.2.2.2.1 (fun j h8 h9 => hG2.2.2 j h8 h9) : isBk ad cI G2 b (bB (bH v (bnH u) (tCp (bvh u) (bvh v) 90)) (bnB u) (tCp (bvb u) (bvb (bH v (bnH u) (tCp (bvh u) (bvh v) 90))) 192)))
  have hb_O_G2 := hb_O_G1.keep (fun j h8 h9 => (fun j (hj9 : j < b ∨ b + 7 ≤ j) => hG2.2.2 j (by omega) (by omega)) j (by omega))
  refine k_aload_n C dX1_copyFrom_22 rfl (j := 0) rfl ?_
  refine k_get C b inX1_copyFrom_1 (by omega) hb_B_G2.1 rfl 2 (by decide) (List.mem_of_getElem? (i := 3) rfl) rfl rfl dX1_copyFrom_23 ?_
  refine k_aload_n C dX1_copyFrom_26 rfl (j := 1) rfl ?_
  refine k_get C o inX1_copyFrom_1 (by omega) hb_O_G2.1 rfl 2 (by decide) (List.mem_of_getElem? (i := 3) rfl) rfl rfl dX1_copyFrom_27 ?_
  refine k_callVv C (As := [.ref (ad (o + 5))]) (rest := []) (b + 5) (m_X4_copyFrom l D cI cC cZ cB cJ ad N G2 (b + 5) (b + 6) (o + 5) (o + 6) 5 (nI (bnL (bB (bH v (bnH u) (tCp (bvh u) (bvh v) 90)) (bnB u) (tCp (bvb u) (bvb (bH v (bnH u) (tCp (bvh u) (bvh v) 90))) 192)))) 5 (nI (bnL u)) 30 (bvl (bB (bH v (bnH u) (tCp (bvh u) (bvh v) 90)) (bnB u) (tCp (bvb u) (bvb (bH v (bnH u) (tCp (bvh u) (bvh v) 90))) 192))) (bvl u) (by omega) (by omega) (by omega) (by omega) hb_B_G2.2.2.2.1.1 hb_B_G2.2.2.2.1.2 hb_O_G2.2.2.2.1.1 hb_O_G2.2.2.2.1.2 (by omega) (by omega) (Nat.le_of_ble_eq_true rfl)) gX1_copyFrom_X4_copyFrom rfl kd_X4_copyFrom rfl rfl ⟨Nat.le_of_ble_eq_true rfl, Nat.le_of_ble_eq_true rfl⟩ (by omega) hb_B_G2.2.2.2.1.1 rfl rfl rfl (Nat.le_of_ble_eq_true rfl) ⟨Nat.zero_le _, Nat.zero_le _⟩ dX1_copyFrom_30 (fun G3 hG3 => ?_)
  have hb_B_G3 := (hb_B_G2.l hG3.1 hG3.2.1 hb_O_G2.2.2.2.2.2.2 (fun j h8 h9 => hG3.2.2 j h8 h9) : isBk ad cI G3 b (bL (bB (bH v (bnH u) (tCp (bvh u) (bvh v) 90)) (bnB u) (tCp (bvb u) (bvb (bH v (bnH u) (tCp (bvh u) (bvh v) 90))) 192)) (bnL u) (tCp (bvl u) (bvl (bB (bH v (bnH u) (tCp (bvh u) (bvh v) 90)) (bnB u) (tCp (bvb u) (bvb (bH v (bnH u) (tCp (bvh u) (bvh v) 90))) 192))) 30)))
  have hb_O_G3 := hb_O_G2.keep (fun j h8 h9 => (fun j (hj9 : j < b ∨ b + 7 ≤ j) => hG3.2.2 j (by omega) (by omega)) j (by omega))
  refine k_aload_n C dX1_copyFrom_33 rfl (j := 0) rfl ?_
  refine k_aload_n C dX1_copyFrom_34 rfl (j := 1) rfl ?_
  refine k_get C o inX1_copyFrom_1 (by omega) hb_O_G3.1 rfl 3 (by decide) (List.mem_of_getElem? (i := 4) rfl) rfl rfl dX1_copyFrom_35 ?_
  refine k_put C b inX1_copyFrom_1 tyX1 tyX1_ok nmX1 (by omega) hb_B_G3.1 rfl 3 (by decide) (List.mem_of_getElem? (i := 4) rfl) rfl rfl (bI_nar _) (bI_fit _) (Nat.le_of_ble_eq_true rfl) dX1_copyFrom_38 (fun G4 hG4 => ?_)
  have hb_B_G4 := (hb_B_G3.s (up_it hG4) (fun j h8 => by rw [hG4, up_ne h8]) : isBk ad cI G4 b (bSet (bL (bB (bH v (bnH u) (tCp (bvh u) (bvh v) 90)) (bnB u) (tCp (bvb u) (bvb (bH v (bnH u) (tCp (bvh u) (bvh v) 90))) 192)) (bnL u) (tCp (bvl u) (bvl (bB (bH v (bnH u) (tCp (bvh u) (bvh v) 90)) (bnB u) (tCp (bvb u) (bvb (bH v (bnH u) (tCp (bvh u) (bvh v) 90))) 192))) 30)) (bvS u) (bvP (bL (bB (bH v (bnH u) (tCp (bvh u) (bvh v) 90)) (bnB u) (tCp (bvb u) (bvb (bH v (bnH u) (tCp (bvh u) (bvh v) 90))) 192)) (bnL u) (tCp (bvl u) (bvl (bB (bH v (bnH u) (tCp (bvh u) (bvh v) 90)) (bnB u) (tCp (bvb u) (bvb (bH v (bnH u) (tCp (bvh u) (bvh v) 90))) 192))) 30))) (bvO (bL (bB (bH v (bnH u) (tCp (bvh u) (bvh v) 90)) (bnB u) (tCp (bvb u) (bvb (bH v (bnH u) (tCp (bvh u) (bvh v) 90))) 192)) (bnL u) (tCp (bvl u) (bvl (bB (bH v (bnH u) (tCp (bvh u) (bvh v) 90)) (bnB u) (tCp (bvb u) (bvb (bH v (bnH u) (tCp (bvh u) (bvh v) 90))) 192))) 30)))))
  have hb_O_G4 := hb_O_G3.keep (fun j h8 h9 => (fun j (hj9 : j < b ∨ b + 7 ≤ j) => show G4 j = G3 j from by rw [hG4, up_ne (by omega)]) j (by omega))
  refine k_aload_n C dX1_copyFrom_41 rfl (j := 0) rfl ?_
  refine k_aload_n C dX1_copyFrom_42 rfl (j := 1) rfl ?_
  refine k_get C o inX1_copyFrom_1 (by omega) hb_O_G4.1 rfl 4 (by decide) (List.mem_of_getElem? (i := 5) rfl) rfl rfl dX1_copyFrom_43 ?_
  refine k_put C b inX1_copyFrom_1 tyX1 tyX1_ok nmX1 (by omega) hb_B_G4.1 rfl 4 (by decide) (List.mem_of_getElem? (i := 5) rfl) rfl rfl rfl rfl (Nat.le_of_ble_eq_true rfl) dX1_copyFrom_46 (fun G5 hG5 => ?_)
  have hb_B_G5 := (hb_B_G4.s (up_it hG5) (fun j h8 => by rw [hG5, up_ne h8]) : isBk ad cI G5 b (bSet (bSet (bL (bB (bH v (bnH u) (tCp (bvh u) (bvh v) 90)) (bnB u) (tCp (bvb u) (bvb (bH v (bnH u) (tCp (bvh u) (bvh v) 90))) 192)) (bnL u) (tCp (bvl u) (bvl (bB (bH v (bnH u) (tCp (bvh u) (bvh v) 90)) (bnB u) (tCp (bvb u) (bvb (bH v (bnH u) (tCp (bvh u) (bvh v) 90))) 192))) 30)) (bvS u) (bvP (bL (bB (bH v (bnH u) (tCp (bvh u) (bvh v) 90)) (bnB u) (tCp (bvb u) (bvb (bH v (bnH u) (tCp (bvh u) (bvh v) 90))) 192)) (bnL u) (tCp (bvl u) (bvl (bB (bH v (bnH u) (tCp (bvh u) (bvh v) 90)) (bnB u) (tCp (bvb u) (bvb (bH v (bnH u) (tCp (bvh u) (bvh v) 90))) 192))) 30))) (bvO (bL (bB (bH v (bnH u) (tCp (bvh u) (bvh v) 90)) (bnB u) (tCp (bvb u) (bvb (bH v (bnH u) (tCp (bvh u) (bvh v) 90))) 192)) (bnL u) (tCp (bvl u) (bvl (bB (bH v (bnH u) (tCp (bvh u) (bvh v) 90)) (bnB u) (tCp (bvb u) (bvb (bH v (bnH u) (tCp (bvh u) (bvh v) 90))) 192))) 30)))) (bvS (bSet (bL (bB (bH v (bnH u) (tCp (bvh u) (bvh v) 90)) (bnB u) (tCp (bvb u) (bvb (bH v (bnH u) (tCp (bvh u) (bvh v) 90))) 192)) (bnL u) (tCp (bvl u) (bvl (bB (bH v (bnH u) (tCp (bvh u) (bvh v) 90)) (bnB u) (tCp (bvb u) (bvb (bH v (bnH u) (tCp (bvh u) (bvh v) 90))) 192))) 30)) (bvS u) (bvP (bL (bB (bH v (bnH u) (tCp (bvh u) (bvh v) 90)) (bnB u) (tCp (bvb u) (bvb (bH v (bnH u) (tCp (bvh u) (bvh v) 90))) 192)) (bnL u) (tCp (bvl u) (bvl (bB (bH v (bnH u) (tCp (bvh u) (bvh v) 90)) (bnB u) (tCp (bvb u) (bvb (bH v (bnH u) (tCp (bvh u) (bvh v) 90))) 192))) 30))) (bvO (bL (bB (bH v (bnH u) (tCp (bvh u) (bvh v) 90)) (bnB u) (tCp (bvb u) (bvb (bH v (bnH u) (tCp (bvh u) (bvh v) 90))) 192)) (bnL u) (tCp (bvl u) (bvl (bB (bH v (bnH u) (tCp (bvh u) (bvh v) 90)) (bnB u) (tCp (bvb u) (bvb (bH v (bnH u) (tCp (bvh u) (bvh v) 90))) 192))) 30))))) (bvP u) (bvO (bSet (bL (bB (bH v (bnH u) (tCp (bvh u) (bvh v) 90)) (bnB u) (tCp (bvb u) (bvb (bH v (bnH u) (tCp (bvh u) (bvh v) 90))) 192)) (bnL u) (tCp (bvl u) (bvl (bB (bH v (bnH u) (tCp (bvh u) (bvh v) 90)) (bnB u) (tCp (bvb u) (bvb (bH v (bnH u) (tCp (bvh u) (bvh v) 90))) 192))) 30)) (bvS u) (bvP (bL (bB (bH v (bnH u) (tCp (bvh u) (bvh v) 90)) (bnB u) (tCp (bvb u) (bvb (bH v (bnH u) (tCp (bvh u) (bvh v) 90))) 192)) (bnL u) (tCp (bvl u) (bvl (bB (bH v (bnH u) (tCp (bvh u) (bvh v) 90)) (bnB u) (tCp (bvb u) (bvb (bH v (bnH u) (tCp (bvh u) (bvh v) 90))) 192))) 30))) (bvO (bL (bB (bH v (bnH u) (tCp (bvh u) (bvh v) 90)) (bnB u) (tCp (bvb u) (bvb (bH v (bnH u) (tCp (bvh u) (bvh v) 90))) 192)) (bnL u) (tCp (bvl u) (bvl (bB (bH v (bnH u) (tCp (bvh u) (bvh v) 90)) (bnB u) (tCp (bvb u) (bvb (bH v (bnH u) (tCp (bvh u) (bvh v) 90))) 192))) 30)))))))
  have hb_O_G5 := hb_O_G4.keep (fun j h8 h9 => (fun j (hj9 : j < b ∨ b + 7 ≤ j) => show G5 j = G4 j from by rw [hG5, up_ne (by omega)]) j (by omega))
  refine k_aload_n C dX1_copyFrom_49 rfl (j := 0) rfl ?_
  refine k_aload_n C dX1_copyFrom_50 rfl (j := 1) rfl ?_
  refine k_get C o inX1_copyFrom_1 (by omega) hb_O_G5.1 rfl 5 (by decide) (List.mem_of_getElem? (i := 6) rfl) rfl rfl dX1_copyFrom_51 ?_
  refine k_put C b inX1_copyFrom_1 tyX1 tyX1_ok nmX1 (by omega) hb_B_G5.1 rfl 5 (by decide) (List.mem_of_getElem? (i := 6) rfl) rfl rfl rfl rfl (Nat.le_of_ble_eq_true rfl) dX1_copyFrom_54 (fun G6 hG6 => ?_)
  have hb_B_G6 := (hb_B_G5.s (up_it hG6) (fun j h8 => by rw [hG6, up_ne h8]) : isBk ad cI G6 b (bSet (bSet (bSet (bL (bB (bH v (bnH u) (tCp (bvh u) (bvh v) 90)) (bnB u) (tCp (bvb u) (bvb (bH v (bnH u) (tCp (bvh u) (bvh v) 90))) 192)) (bnL u) (tCp (bvl u) (bvl (bB (bH v (bnH u) (tCp (bvh u) (bvh v) 90)) (bnB u) (tCp (bvb u) (bvb (bH v (bnH u) (tCp (bvh u) (bvh v) 90))) 192))) 30)) (bvS u) (bvP (bL (bB (bH v (bnH u) (tCp (bvh u) (bvh v) 90)) (bnB u) (tCp (bvb u) (bvb (bH v (bnH u) (tCp (bvh u) (bvh v) 90))) 192)) (bnL u) (tCp (bvl u) (bvl (bB (bH v (bnH u) (tCp (bvh u) (bvh v) 90)) (bnB u) (tCp (bvb u) (bvb (bH v (bnH u) (tCp (bvh u) (bvh v) 90))) 192))) 30))) (bvO (bL (bB (bH v (bnH u) (tCp (bvh u) (bvh v) 90)) (bnB u) (tCp (bvb u) (bvb (bH v (bnH u) (tCp (bvh u) (bvh v) 90))) 192)) (bnL u) (tCp (bvl u) (bvl (bB (bH v (bnH u) (tCp (bvh u) (bvh v) 90)) (bnB u) (tCp (bvb u) (bvb (bH v (bnH u) (tCp (bvh u) (bvh v) 90))) 192))) 30)))) (bvS (bSet (bL (bB (bH v (bnH u) (tCp (bvh u) (bvh v) 90)) (bnB u) (tCp (bvb u) (bvb (bH v (bnH u) (tCp (bvh u) (bvh v) 90))) 192)) (bnL u) (tCp (bvl u) (bvl (bB (bH v (bnH u) (tCp (bvh u) (bvh v) 90)) (bnB u) (tCp (bvb u) (bvb (bH v (bnH u) (tCp (bvh u) (bvh v) 90))) 192))) 30)) (bvS u) (bvP (bL (bB (bH v (bnH u) (tCp (bvh u) (bvh v) 90)) (bnB u) (tCp (bvb u) (bvb (bH v (bnH u) (tCp (bvh u) (bvh v) 90))) 192)) (bnL u) (tCp (bvl u) (bvl (bB (bH v (bnH u) (tCp (bvh u) (bvh v) 90)) (bnB u) (tCp (bvb u) (bvb (bH v (bnH u) (tCp (bvh u) (bvh v) 90))) 192))) 30))) (bvO (bL (bB (bH v (bnH u) (tCp (bvh u) (bvh v) 90)) (bnB u) (tCp (bvb u) (bvb (bH v (bnH u) (tCp (bvh u) (bvh v) 90))) 192)) (bnL u) (tCp (bvl u) (bvl (bB (bH v (bnH u) (tCp (bvh u) (bvh v) 90)) (bnB u) (tCp (bvb u) (bvb (bH v (bnH u) (tCp (bvh u) (bvh v) 90))) 192))) 30))))) (bvP u) (bvO (bSet (bL (bB (bH v (bnH u) (tCp (bvh u) (bvh v) 90)) (bnB u) (tCp (bvb u) (bvb (bH v (bnH u) (tCp (bvh u) (bvh v) 90))) 192)) (bnL u) (tCp (bvl u) (bvl (bB (bH v (bnH u) (tCp (bvh u) (bvh v) 90)) (bnB u) (tCp (bvb u) (bvb (bH v (bnH u) (tCp (bvh u) (bvh v) 90))) 192))) 30)) (bvS u) (bvP (bL (bB (bH v (bnH u) (tCp (bvh u) (bvh v) 90)) (bnB u) (tCp (bvb u) (bvb (bH v (bnH u) (tCp (bvh u) (bvh v) 90))) 192)) (bnL u) (tCp (bvl u) (bvl (bB (bH v (bnH u) (tCp (bvh u) (bvh v) 90)) (bnB u) (tCp (bvb u) (bvb (bH v (bnH u) (tCp (bvh u) (bvh v) 90))) 192))) 30))) (bvO (bL (bB (bH v (bnH u) (tCp (bvh u) (bvh v) 90)) (bnB u) (tCp (bvb u) (bvb (bH v (bnH u) (tCp (bvh u) (bvh v) 90))) 192)) (bnL u) (tCp (bvl u) (bvl (bB (bH v (bnH u) (tCp (bvh u) (bvh v) 90)) (bnB u) (tCp (bvb u) (bvb (bH v (bnH u) (tCp (bvh u) (bvh v) 90))) 192))) 30)))))) (bvS (bSet (bSet (bL (bB (bH v (bnH u) (tCp (bvh u) (bvh v) 90)) (bnB u) (tCp (bvb u) (bvb (bH v (bnH u) (tCp (bvh u) (bvh v) 90))) 192)) (bnL u) (tCp (bvl u) (bvl (bB (bH v (bnH u) (tCp (bvh u) (bvh v) 90)) (bnB u) (tCp (bvb u) (bvb (bH v (bnH u) (tCp (bvh u) (bvh v) 90))) 192))) 30)) (bvS u) (bvP (bL (bB (bH v (bnH u) (tCp (bvh u) (bvh v) 90)) (bnB u) (tCp (bvb u) (bvb (bH v (bnH u) (tCp (bvh u) (bvh v) 90))) 192)) (bnL u) (tCp (bvl u) (bvl (bB (bH v (bnH u) (tCp (bvh u) (bvh v) 90)) (bnB u) (tCp (bvb u) (bvb (bH v (bnH u) (tCp (bvh u) (bvh v) 90))) 192))) 30))) (bvO (bL (bB (bH v (bnH u) (tCp (bvh u) (bvh v) 90)) (bnB u) (tCp (bvb u) (bvb (bH v (bnH u) (tCp (bvh u) (bvh v) 90))) 192)) (bnL u) (tCp (bvl u) (bvl (bB (bH v (bnH u) (tCp (bvh u) (bvh v) 90)) (bnB u) (tCp (bvb u) (bvb (bH v (bnH u) (tCp (bvh u) (bvh v) 90))) 192))) 30)))) (bvS (bSet (bL (bB (bH v (bnH u) (tCp (bvh u) (bvh v) 90)) (bnB u) (tCp (bvb u) (bvb (bH v (bnH u) (tCp (bvh u) (bvh v) 90))) 192)) (bnL u) (tCp (bvl u) (bvl (bB (bH v (bnH u) (tCp (bvh u) (bvh v) 90)) (bnB u) (tCp (bvb u) (bvb (bH v (bnH u) (tCp (bvh u) (bvh v) 90))) 192))) 30)) (bvS u) (bvP (bL (bB (bH v (bnH u) (tCp (bvh u) (bvh v) 90)) (bnB u) (tCp (bvb u) (bvb (bH v (bnH u) (tCp (bvh u) (bvh v) 90))) 192)) (bnL u) (tCp (bvl u) (bvl (bB (bH v (bnH u) (tCp (bvh u) (bvh v) 90)) (bnB u) (tCp (bvb u) (bvb (bH v (bnH u) (tCp (bvh u) (bvh v) 90))) 192))) 30))) (bvO (bL (bB (bH v (bnH u) (tCp (bvh u) (bvh v) 90)) (bnB u) (tCp (bvb u) (bvb (bH v (bnH u) (tCp (bvh u) (bvh v) 90))) 192)) (bnL u) (tCp (bvl u) (bvl (bB (bH v (bnH u) (tCp (bvh u) (bvh v) 90)) (bnB u) (tCp (bvb u) (bvb (bH v (bnH u) (tCp (bvh u) (bvh v) 90))) 192))) 30))))) (bvP u) (bvO (bSet (bL (bB (bH v (bnH u) (tCp (bvh u) (bvh v) 90)) (bnB u) (tCp (bvb u) (bvb (bH v (bnH u) (tCp (bvh u) (bvh v) 90))) 192)) (bnL u) (tCp (bvl u) (bvl (bB (bH v (bnH u) (tCp (bvh u) (bvh v) 90)) (bnB u) (tCp (bvb u) (bvb (bH v (bnH u) (tCp (bvh u) (bvh v) 90))) 192))) 30)) (bvS u) (bvP (bL (bB (bH v (bnH u) (tCp (bvh u) (bvh v) 90)) (bnB u) (tCp (bvb u) (bvb (bH v (bnH u) (tCp (bvh u) (bvh v) 90))) 192)) (bnL u) (tCp (bvl u) (bvl (bB (bH v (bnH u) (tCp (bvh u) (bvh v) 90)) (bnB u) (tCp (bvb u) (bvb (bH v (bnH u) (tCp (bvh u) (bvh v) 90))) 192))) 30))) (bvO (bL (bB (bH v (bnH u) (tCp (bvh u) (bvh v) 90)) (bnB u) (tCp (bvb u) (bvb (bH v (bnH u) (tCp (bvh u) (bvh v) 90))) 192)) (bnL u) (tCp (bvl u) (bvl (bB (bH v (bnH u) (tCp (bvh u) (bvh v) 90)) (bnB u) (tCp (bvb u) (bvb (bH v (bnH u) (tCp (bvh u) (bvh v) 90))) 192))) 30))))))) (bvP (bSet (bSet (bL (bB (bH v (bnH u) (tCp (bvh u) (bvh v) 90)) (bnB u) (tCp (bvb u) (bvb (bH v (bnH u) (tCp (bvh u) (bvh v) 90))) 192)) (bnL u) (tCp (bvl u) (bvl (bB (bH v (bnH u) (tCp (bvh u) (bvh v) 90)) (bnB u) (tCp (bvb u) (bvb (bH v (bnH u) (tCp (bvh u) (bvh v) 90))) 192))) 30)) (bvS u) (bvP (bL (bB (bH v (bnH u) (tCp (bvh u) (bvh v) 90)) (bnB u) (tCp (bvb u) (bvb (bH v (bnH u) (tCp (bvh u) (bvh v) 90))) 192)) (bnL u) (tCp (bvl u) (bvl (bB (bH v (bnH u) (tCp (bvh u) (bvh v) 90)) (bnB u) (tCp (bvb u) (bvb (bH v (bnH u) (tCp (bvh u) (bvh v) 90))) 192))) 30))) (bvO (bL (bB (bH v (bnH u) (tCp (bvh u) (bvh v) 90)) (bnB u) (tCp (bvb u) (bvb (bH v (bnH u) (tCp (bvh u) (bvh v) 90))) 192)) (bnL u) (tCp (bvl u) (bvl (bB (bH v (bnH u) (tCp (bvh u) (bvh v) 90)) (bnB u) (tCp (bvb u) (bvb (bH v (bnH u) (tCp (bvh u) (bvh v) 90))) 192))) 30)))) (bvS (bSet (bL (bB (bH v (bnH u) (tCp (bvh u) (bvh v) 90)) (bnB u) (tCp (bvb u) (bvb (bH v (bnH u) (tCp (bvh u) (bvh v) 90))) 192)) (bnL u) (tCp (bvl u) (bvl (bB (bH v (bnH u) (tCp (bvh u) (bvh v) 90)) (bnB u) (tCp (bvb u) (bvb (bH v (bnH u) (tCp (bvh u) (bvh v) 90))) 192))) 30)) (bvS u) (bvP (bL (bB (bH v (bnH u) (tCp (bvh u) (bvh v) 90)) (bnB u) (tCp (bvb u) (bvb (bH v (bnH u) (tCp (bvh u) (bvh v) 90))) 192)) (bnL u) (tCp (bvl u) (bvl (bB (bH v (bnH u) (tCp (bvh u) (bvh v) 90)) (bnB u) (tCp (bvb u) (bvb (bH v (bnH u) (tCp (bvh u) (bvh v) 90))) 192))) 30))) (bvO (bL (bB (bH v (bnH u) (tCp (bvh u) (bvh v) 90)) (bnB u) (tCp (bvb u) (bvb (bH v (bnH u) (tCp (bvh u) (bvh v) 90))) 192)) (bnL u) (tCp (bvl u) (bvl (bB (bH v (bnH u) (tCp (bvh u) (bvh v) 90)) (bnB u) (tCp (bvb u) (bvb (bH v (bnH u) (tCp (bvh u) (bvh v) 90))) 192))) 30))))) (bvP u) (bvO (bSet (bL (bB (bH v (bnH u) (tCp (bvh u) (bvh v) 90)) (bnB u) (tCp (bvb u) (bvb (bH v (bnH u) (tCp (bvh u) (bvh v) 90))) 192)) (bnL u) (tCp (bvl u) (bvl (bB (bH v (bnH u) (tCp (bvh u) (bvh v) 90)) (bnB u) (tCp (bvb u) (bvb (bH v (bnH u) (tCp (bvh u) (bvh v) 90))) 192))) 30)) (bvS u) (bvP (bL (bB (bH v (bnH u) (tCp (bvh u) (bvh v) 90)) (bnB u) (tCp (bvb u) (bvb (bH v (bnH u) (tCp (bvh u) (bvh v) 90))) 192)) (bnL u) (tCp (bvl u) (bvl (bB (bH v (bnH u) (tCp (bvh u) (bvh v) 90)) (bnB u) (tCp (bvb u) (bvb (bH v (bnH u) (tCp (bvh u) (bvh v) 90))) 192))) 30))) (bvO (bL (bB (bH v (bnH u) (tCp (bvh u) (bvh v) 90)) (bnB u) (tCp (bvb u) (bvb (bH v (bnH u) (tCp (bvh u) (bvh v) 90))) 192)) (bnL u) (tCp (bvl u) (bvl (bB (bH v (bnH u) (tCp (bvh u) (bvh v) 90)) (bnB u) (tCp (bvb u) (bvb (bH v (bnH u) (tCp (bvh u) (bvh v) 90))) 192))) 30))))))) (bvO u)))
  have hb_O_G6 := hb_O_G5.keep (fun j h8 h9 => (fun j (hj9 : j < b ∨ b + 7 ≤ j) => show G6 j = G5 j from by rw [hG6, up_ne (by omega)]) j (by omega))
  exact k_vret C hQ rfl dX1_copyFrom_57 ⟨hb_B_G6, fun j hj => ((fun j (hj9 : j < b ∨ b + 7 ≤ j) => show G6 j = G5 j from by rw [hG6, up_ne (by omega)]) j (by omega) : _).trans (((fun j (hj9 : j < b ∨ b + 7 ≤ j) => show G5 j = G4 j from by rw [hG5, up_ne (by omega)]) j (by omega) : _).trans (((fun j (hj9 : j < b ∨ b + 7 ≤ j) => show G4 j = G3 j from by rw [hG4, up_ne (by omega)]) j (by omega) : _).trans (((fun j (hj9 : j < b ∨ b + 7 ≤ j) => hG3.2.2 j (by omega) (by omega)) j (by omega) : _).trans (((fun j (hj9 : j < b ∨ b + 7 ≤ j) => hG2.2.2 j (by omega) (by omega)) j (by omega) : _).trans ((fun j (hj9 : j < b ∨ b + 7 ≤ j) => hG1.2.2 j (by omega) (by omega)) j (by omega))))))⟩
theorem inX2_size_2 : ∀ w ∈ wsX20, w ∈ wsX2_size := fun _ h => List.mem_cons_of_mem _ (List.mem_append_right _ h)
theorem kd_X2_size : yX2_size.cls = RX2 ∧ yX2_size.cls ≠ "java/lang/invoke/MethodHandle" ∧ yX2_size.cls ≠ "java/lang/invoke/VarHandle" ∧ (parseMethodDescriptor yX2_size.desc).map (fun d => d.parameters.length) = some 0 := by decide +kernel
abbrev rX2_size : Room := ({ frames := 0, cells := 0, slots := 0, locals := 0 } : Room)
set_option maxRecDepth 100000 in
set_option maxHeartbeats 4000000 in
/-- History.size -/
theorem m_X2_size (l : Launch) (D : va_G) (cI cC cZ cB cJ : ClassId) (ad : Nat → Nat) (N : Nat) (G : Nat → va_E) (h : Nat) (w : HV) (hNh : h + 44 ≤ N) (hH : isHi ad cI cB G h w) : kMi l yX2_size wsX2_size rX2_size D (kT5 cI cC cZ cB cJ) ad N G [.ref (ad h)] (fun r G' => r = nI (hvZ w) ∧ G' = G) := by
  refine k_starti (cc := cX2_size) (ret := (some .int)) (maxL := 1) (lv0 := [(0, .ref (ad h))]) (by decide) rfl (Nat.le_of_ble_eq_true rfl) rfl ?_
  intro p e s m args below meth c A Q C hQ
  obtain ⟨hw0, ⟨fr, hw1, hwf⟩, hwb, hwn, hwz⟩ := id hH
  refine k_aload_n C dX2_size_0 rfl (j := 0) rfl ?_
  refine k_get C h inX2_size_2 (by omega) hw0 rfl 2 (by decide) (List.mem_of_getElem? (i := 1) rfl) rfl rfl dX2_size_1 ?_
  exact k_iret C hQ rfl rfl dX2_size_4 ⟨rfl, rfl⟩
theorem inX2_stateAt_2 : ∀ w ∈ wsX20, w ∈ wsX2_stateAt := fun _ h => List.mem_cons_of_mem _ (List.mem_append_right _ h)
theorem kd_X2_stateAt : yX2_stateAt.cls = RX2 ∧ yX2_stateAt.cls ≠ "java/lang/invoke/MethodHandle" ∧ yX2_stateAt.cls ≠ "java/lang/invoke/VarHandle" ∧ (parseMethodDescriptor yX2_stateAt.desc).map (fun d => d.parameters.length) = some 1 := by decide +kernel
abbrev rX2_stateAt : Room := ({ frames := 0, cells := 0, slots := 0, locals := 0 } : Room)
set_option maxRecDepth 100000 in
set_option maxHeartbeats 4000000 in
/-- History.stateAt -/
theorem m_X2_stateAt (l : Launch) (D : va_G) (cI cC cZ cB cJ : ClassId) (ad : Nat → Nat) (N : Nat) (G : Nat → va_E) (h : Nat) (fr : Nat → Option Nat) (x1 x2 : Int32) (kk : Nat) (hNh : h + 44 ≤ N) (hw0 : G h = .inr (2, [.ref (ad (h + 1)), .int x1, .int x2])) (hw1 : G (h + 1) = .inl (cB, 6, .inr (.inr (.inr (.inr fr))))) (hwf : ∀ i, i < 6 → fr i = some (ad (h + 2 + 7 * i))) (hkk : kk < 6) : kMq l yX2_stateAt wsX2_stateAt rX2_stateAt D (kT5 cI cC cZ cB cJ) ad N G [.ref (ad h), .int (nI kk)] (fun r G' => r = some (ad (h + 2 + 7 * kk)) ∧ G' = G) := by
  refine k_startq (cc := cX2_stateAt) (ret := (some (.object "FieldBook$Book"))) (maxL := 2) (lv0 := [(0, .ref (ad h)), (1, .int (nI kk))]) (by decide) rfl (Nat.le_of_ble_eq_true rfl) rfl ?_
  intro p e s m args below meth c A Q C hQ
  refine k_iload_n C dX2_stateAt_0 rfl (j := 1) rfl ?_
  refine k_if_lt C 22 dX2_stateAt_1 (by decide) (fun q => absurd q (nI_pos (by omega))) (fun _ => ?_)
  refine k_iload_n C dX2_stateAt_4 rfl (j := 1) rfl ?_
  refine k_aload_n C dX2_stateAt_5 rfl (j := 0) rfl ?_
  refine k_get C h inX2_stateAt_2 (by omega) hw0 rfl 0 (by decide) (List.mem_of_getElem? (i := 1) rfl) rfl rfl dX2_stateAt_6 ?_
  refine k_alen C (h + 1) 3 (by omega) hw1 rfl dX2_stateAt_9 ?_
  refine k_icmp_ge C 22 dX2_stateAt_10 (by decide) (fun q => absurd q (nI_ge hkk (Nat.le_of_ble_eq_true rfl))) (fun _ => ?_)
  refine k_aload_n C dX2_stateAt_13 rfl (j := 0) rfl ?_
  refine k_get C h inX2_stateAt_2 (by omega) hw0 rfl 0 (by decide) (List.mem_of_getElem? (i := 1) rfl) rfl rfl dX2_stateAt_14 ?_
  refine k_iload_n C dX2_stateAt_17 rfl (j := 1) rfl ?_
  refine k_aldq C (h + 1) 3 (by omega) hw1 rfl (vp_in_nI hkk (Nat.le_of_ble_eq_true rfl)) dX2_stateAt_18 ?_
  rw [nI_clamp (by omega), hwf kk hkk]
  change kJ p l e rX2_stateAt s m args below meth c 0 0 Q 2 D ad N A G 19 _ [.ref (ad (h + 2 + 7 * kk))]
  refine k_goto C 23 dX2_stateAt_19 (by decide) ?_
  exact k_aret C (some (ad (h + 2 + 7 * kk))) hQ rfl rfl dX2_stateAt_23 ⟨rfl, rfl⟩
theorem inX2_save_2 : ∀ w ∈ wsX20, w ∈ wsX2_save := fun _ h => List.mem_cons_of_mem _ (List.mem_append_left _ (List.mem_append_left _ (List.mem_append_right _ h)))
theorem inX2_save_1 : ∀ w ∈ wsX10, w ∈ wsX2_save := fun _ h => List.mem_cons_of_mem _ (List.mem_append_left _ (List.mem_append_right _ h))
theorem inX2_save_4 : ∀ w ∈ wsX40, w ∈ wsX2_save := fun _ h => List.mem_cons_of_mem _ (List.mem_append_right _ h)
theorem kd_X2_save : yX2_save.cls = RX2 ∧ yX2_save.cls ≠ "java/lang/invoke/MethodHandle" ∧ yX2_save.cls ≠ "java/lang/invoke/VarHandle" ∧ (parseMethodDescriptor yX2_save.desc).map (fun d => d.parameters.length) = some 1 := by decide +kernel
abbrev rX2_save : Room := ({ frames := 3, cells := 0, slots := 0, locals := 102 } : Room)
set_option maxRecDepth 100000 in
set_option maxHeartbeats 4000000 in
/-- History.save -/
theorem m_X2_save (l : Launch) (D : va_G) (cI cC cZ cB cJ : ClassId) (ad : Nat → Nat) (N : Nat) (G : Nat → va_E) (h : Nat) (w : HV) (b : Nat) (v : BV) (hNh : h + 44 ≤ N) (hH : isHi ad cI cB G h w) (hNb : b + 7 ≤ N) (hB : isBk ad cI G b v) (hdis : h + 44 ≤ b ∨ b + 7 ≤ h) : kMv l yX2_save wsX2_save rX2_save D (kT5 cI cC cZ cB cJ) ad N G [.ref (ad h), .ref (ad b)] (fun G' => isHi ad cI cB G' h (hSave w v) ∧ ∀ j, (j < h ∨ h + 44 ≤ j) → G' j = G j) := by
  refine k_startv (cc := cX2_save) (ret := none) (maxL := 3) (lv0 := [(0, .ref (ad h)), (1, .ref (ad b))]) (by decide) rfl (Nat.le_of_ble_eq_true rfl) rfl ?_
  intro p e s m args below meth c A Q C hQ
  obtain ⟨hw0, ⟨fr, hw1, hwf⟩, hwb, hwn, hwz⟩ := id hH
  have hK := hwb (hvN w) hwn
  refine k_aload_n C dX2_save_0 rfl (j := 0) rfl ?_
  refine k_aload_n C dX2_save_1 rfl (j := 0) rfl ?_
  refine k_get C h inX2_save_2 (by omega) hw0 rfl 1 (by decide) (List.mem_of_getElem? (i := 1) rfl) rfl rfl dX2_save_2 ?_
  refine k_callVqr C (As := [.int (nI (hvN w))]) (rest := []) h (m_X2_stateAt l D cI cC cZ cB cJ ad N G h fr (nI (hvN w)) (nI (hvZ w)) (hvN w) (by omega) hw0 hw1 hwf hwn) gX2_save_X2_stateAt rfl kd_X2_stateAt rfl rfl ⟨Nat.le_of_ble_eq_true rfl, Nat.le_of_ble_eq_true rfl⟩ (by omega) hw0 rfl rfl rfl (Nat.le_of_ble_eq_true rfl) ⟨Nat.zero_le _, Nat.zero_le _⟩ dX2_save_5 ?_
  refine k_astore_n C (lv' := [(2, .ref (ad (h + 2 + 7 * hvN w))), (0, .ref (ad h)), (1, .ref (ad b))]) dX2_save_8 rfl (by decide) rfl ?_
  refine k_aload_n C dX2_save_9 rfl (j := 0) rfl ?_
  refine k_ifnull C dX2_save_10 ?_
  refine k_aload_n C dX2_save_13 rfl (j := 0) rfl ?_
  refine k_aload_n C dX2_save_14 rfl (j := 2) rfl ?_
  refine k_callVv C (As := [.ref (ad b)]) (rest := []) (h + 2 + 7 * hvN w) (m_X1_copyFrom l D cI cC cZ cB cJ ad N G (h + 2 + 7 * hvN w) (hvS w (hvN w)) b v (by omega) hK (by omega) hB (by omega)) gX2_save_X1_copyFrom rfl kd_X1_copyFrom rfl rfl ⟨Nat.le_of_ble_eq_true rfl, Nat.le_of_ble_eq_true rfl⟩ (by omega) hK.1 rfl rfl rfl (Nat.le_of_ble_eq_true rfl) ⟨Nat.zero_le _, Nat.zero_le _⟩ dX2_save_15 (fun G1 hG1 => ?_)
  have hb_K_G1 := hG1.1
  have hb_B_G1 := hB.keep (fun j h8 h9 => hG1.2 j (by omega))
  have h_h_G1 : G1 h = .inr (2, [.ref (ad (h + 1)), .int (nI (hvN w)), .int (nI (hvZ w))]) := (hG1.2 h (by omega)).trans hw0
  have h_h___1_G1 : G1 (h + 1) = .inl (cB, 6, .inr (.inr (.inr (.inr fr)))) := (hG1.2 (h + 1) (by omega)).trans hw1
  refine k_aload_n C dX2_save_18 rfl (j := 1) rfl ?_
  refine k_aload_n C dX2_save_19 rfl (j := 1) rfl ?_
  refine k_get C h inX2_save_2 (by omega) h_h_G1 rfl 1 (by decide) (List.mem_of_getElem? (i := 1) rfl) rfl rfl dX2_save_20 ?_
  refine k_iconst C (v := 1) dX2_save_23 (by decide) ?_
  refine k_iadd C dX2_save_24 ?_
  rw [show ((nI (hvN w)) + 1) = nI (hvN w + 1) from nI_1 _]
  refine k_bipush C (v := 6) dX2_save_25 (by decide) ?_
  refine k_irem C dX2_save_27 (by decide) ?_
  rw [show ((nI (hvN w + 1)) - (nI (hvN w + 1)) / 6 * 6) = nI ((hvN w + 1) % 6) from k_rem6 (by omega)]
  refine k_put C h inX2_save_2 tyX2 tyX2_ok nmX2 (by omega) h_h_G1 rfl 1 (by decide) (List.mem_of_getElem? (i := 1) rfl) rfl rfl rfl rfl (Nat.le_of_ble_eq_true rfl) dX2_save_28 (fun G2 hG2 => ?_)
  have hb_K_G2 := hb_K_G1.keep (fun j h8 h9 => show G2 j = G1 j from by rw [hG2, up_ne (by omega)])
  have hb_B_G2 := hb_B_G1.keep (fun j h8 h9 => show G2 j = G1 j from by rw [hG2, up_ne (by omega)])
  have h_h___1_G2 : G2 (h + 1) = .inl (cB, 6, .inr (.inr (.inr (.inr fr)))) := up_at hG2 h_h___1_G1 (by omega)
  have h_h_G2 : G2 h = .inr (2, [.ref (ad (h + 1)), .int (nI ((hvN w + 1) % 6)), .int (nI (hvZ w))]) := up_it hG2
  refine k_aload_n C dX2_save_31 rfl (j := 1) rfl ?_
  refine k_aload_n C dX2_save_32 rfl (j := 1) rfl ?_
  refine k_get C h inX2_save_2 (by omega) h_h_G2 rfl 2 (by decide) (List.mem_of_getElem? (i := 2) rfl) rfl rfl dX2_save_33 ?_
  refine k_iconst C (v := 1) dX2_save_36 (by decide) ?_
  refine k_iadd C dX2_save_37 ?_
  rw [show ((nI (hvZ w)) + 1) = nI (hvZ w + 1) from nI_1 _]
  refine k_bipush C (v := 6) dX2_save_38 (by decide) ?_
  refine k_mmin C (List.mem_of_getElem? (i := 3) rfl) (List.mem_of_getElem? (i := 4) rfl) (List.mem_of_getElem? (i := 5) rfl) (List.mem_of_getElem? (i := 6) rfl) (Nat.le_of_ble_eq_true rfl) (Nat.le_of_ble_eq_true rfl) (Nat.le_of_ble_eq_true rfl) (Nat.le_of_ble_eq_true rfl) dX2_save_40 ?_
  rw [show (if 6 < nI (hvZ w + 1) then 6 else nI (hvZ w + 1)) = nI (min (hvZ w + 1) 6) from k_min6 (by omega)]
  refine k_put C h inX2_save_2 tyX2 tyX2_ok nmX2 (by omega) h_h_G2 rfl 2 (by decide) (List.mem_of_getElem? (i := 2) rfl) rfl rfl rfl rfl (Nat.le_of_ble_eq_true rfl) dX2_save_43 (fun G3 hG3 => ?_)
  have hb_K_G3 := hb_K_G2.keep (fun j h8 h9 => show G3 j = G2 j from by rw [hG3, up_ne (by omega)])
  have hb_B_G3 := hb_B_G2.keep (fun j h8 h9 => show G3 j = G2 j from by rw [hG3, up_ne (by omega)])
  have h_h___1_G3 : G3 (h + 1) = .inl (cB, 6, .inr (.inr (.inr (.inr fr)))) := up_at hG3 h_h___1_G2 (by omega)
  have h_h_G3 : G3 h = .inr (2, [.ref (ad (h + 1)), .int (nI ((hvN w + 1) % 6)), .int (nI (min (hvZ w + 1) 6))]) := up_it hG3
  have hend : ∀ j, (j < h + 2 + 7 * hvN w ∨ h + 2 + 7 * hvN w + 7 ≤ j) → j ≠ h → G3 j = G j := fun j hj hjh => ((show _ = _ from by rw [hG3, up_ne (by omega)]).trans ((show _ = _ from by rw [hG2, up_ne (by omega)]).trans (hG1.2 j (by omega))))
  have hbk : ∀ i, i < 6 → isBk ad cI G3 (h + 2 + 7 * i) (hvS (hSave w v) i) := by
    intro i hi
    by_cases hik : i = hvN w
    · subst hik
      rw [show hvS (hSave w v) (hvN w) = bCopy (hvS w (hvN w)) v from if_pos rfl]
      exact hb_K_G3
    · rw [show hvS (hSave w v) i = hvS w i from if_neg hik]
      exact (hwb i hi).keep (fun j h8 h9 => hend j (by omega) (by omega))
  exact k_vret C hQ rfl dX2_save_46 ⟨⟨h_h_G3, ⟨fr, h_h___1_G3, hwf⟩, hbk, Nat.mod_lt _ (by decide), Nat.min_le_right _ _⟩, fun j hj => hend j (by omega) (by omega)⟩
theorem inX2_restore_2 : ∀ w ∈ wsX20, w ∈ wsX2_restore := fun _ h => List.mem_cons_of_mem _ (List.mem_append_left _ (List.mem_append_left _ (List.mem_append_right _ h)))
theorem inX2_restore_1 : ∀ w ∈ wsX10, w ∈ wsX2_restore := fun _ h => List.mem_cons_of_mem _ (List.mem_append_left _ (List.mem_append_right _ h))
theorem inX2_restore_4 : ∀ w ∈ wsX40, w ∈ wsX2_restore := fun _ h => List.mem_cons_of_mem _ (List.mem_append_right _ h)
theorem kd_X2_restore : yX2_restore.cls = RX2 ∧ yX2_restore.cls ≠ "java/lang/invoke/MethodHandle" ∧ yX2_restore.cls ≠ "java/lang/invoke/VarHandle" ∧ (parseMethodDescriptor yX2_restore.desc).map (fun d => d.parameters.length) = some 1 := by decide +kernel
abbrev rX2_restore : Room := ({ frames := 3, cells := 0, slots := 0, locals := 102 } : Room)
set_option maxRecDepth 100000 in
set_option maxHeartbeats 4000000 in
/-- History.restore -/
theorem m_X2_restore (l : Launch) (D : va_G) (cI cC cZ cB cJ : ClassId) (ad : Nat → Nat) (N : Nat) (G : Nat → va_E) (h : Nat) (w : HV) (b : Nat) (v : BV) (hNh : h + 44 ≤ N) (hH : isHi ad cI cB G h w) (hNb : b + 7 ≤ N) (hB : isBk ad cI G b v) (hdis : h + 44 ≤ b ∨ b + 7 ≤ h) (hpos : 0 < hvZ w) : kMv l yX2_restore wsX2_restore rX2_restore D (kT5 cI cC cZ cB cJ) ad N G [.ref (ad h), .ref (ad b)] (fun G' => isBk ad cI G' b (bCopy v (hvS w (hLast w))) ∧ isHi ad cI cB G' h (hvS w, hLast w, hvZ w - 1) ∧ ∀ j, (j < h ∨ h + 44 ≤ j) → (j < b ∨ b + 7 ≤ j) → G' j = G j) := by
  refine k_startv (cc := cX2_restore) (ret := none) (maxL := 4) (lv0 := [(0, .ref (ad h)), (1, .ref (ad b))]) (by decide) rfl (Nat.le_of_ble_eq_true rfl) rfl ?_
  intro p e s m args below meth c A Q C hQ
  obtain ⟨hw0, ⟨fr, hw1, hwf⟩, hwb, hwn, hwz⟩ := id hH
  have hlt : hLast w < 6 := Nat.mod_lt _ (by decide)
  have hK := hwb (hLast w) hlt
  refine k_aload_n C dX2_restore_0 rfl (j := 0) rfl ?_
  refine k_get C h inX2_restore_2 (by omega) hw0 rfl 1 (by decide) (List.mem_of_getElem? (i := 1) rfl) rfl rfl dX2_restore_1 ?_
  refine k_bipush C (v := 6) dX2_restore_4 (by decide) ?_
  refine k_iadd C dX2_restore_6 ?_
  refine k_iconst C (v := 1) dX2_restore_7 (by decide) ?_
  refine k_isub C dX2_restore_8 ?_
  rw [show (((nI (hvN w)) + 6) - 1) = nI (hvN w + 5) from k_last]
  refine k_bipush C (v := 6) dX2_restore_9 (by decide) ?_
  refine k_irem C dX2_restore_11 (by decide) ?_
  rw [show ((nI (hvN w + 5)) - (nI (hvN w + 5)) / 6 * 6) = nI (hLast w) from k_rem6 (by omega)]
  refine k_istore_n C (lv' := [(2, .int (nI (hLast w))), (0, .ref (ad h)), (1, .ref (ad b))]) dX2_restore_12 rfl (by decide) rfl ?_
  refine k_aload_n C dX2_restore_13 rfl (j := 1) rfl ?_
  refine k_iload_n C dX2_restore_14 rfl (j := 0) rfl ?_
  refine k_callVqr C (As := [.int (nI (hLast w))]) (rest := []) h (m_X2_stateAt l D cI cC cZ cB cJ ad N G h fr (nI (hvN w)) (nI (hvZ w)) (hLast w) (by omega) hw0 hw1 hwf hlt) gX2_restore_X2_stateAt rfl kd_X2_stateAt rfl rfl ⟨Nat.le_of_ble_eq_true rfl, Nat.le_of_ble_eq_true rfl⟩ (by omega) hw0 rfl rfl rfl (Nat.le_of_ble_eq_true rfl) ⟨Nat.zero_le _, Nat.zero_le _⟩ dX2_restore_15 ?_
  refine k_astore_n C (lv' := [(3, .ref (ad (h + 2 + 7 * hLast w))), (2, .int (nI (hLast w))), (0, .ref (ad h)), (1, .ref (ad b))]) dX2_restore_18 rfl (by decide) rfl ?_
  refine k_aload_n C dX2_restore_19 rfl (j := 2) rfl ?_
  refine k_get C h inX2_restore_2 (by omega) hw0 rfl 2 (by decide) (List.mem_of_getElem? (i := 2) rfl) rfl rfl dX2_restore_20 ?_
  refine k_if_le C 50 dX2_restore_23 (by decide) (fun q => absurd q (nI_nle hpos (by omega))) (fun _ => ?_)
  refine k_aload_n C dX2_restore_26 rfl (j := 0) rfl ?_
  refine k_ifnull C dX2_restore_27 ?_
  refine k_aload_n C dX2_restore_30 rfl (j := 3) rfl ?_
  refine k_aload_n C dX2_restore_31 rfl (j := 0) rfl ?_
  refine k_callVv C (As := [.ref (ad (h + 2 + 7 * hLast w))]) (rest := []) b (m_X1_copyFrom l D cI cC cZ cB cJ ad N G b v (h + 2 + 7 * hLast w) (hvS w (hLast w)) (by omega) hB (by omega) hK (by omega)) gX2_restore_X1_copyFrom rfl kd_X1_copyFrom rfl rfl ⟨Nat.le_of_ble_eq_true rfl, Nat.le_of_ble_eq_true rfl⟩ (by omega) hB.1 rfl rfl rfl (Nat.le_of_ble_eq_true rfl) ⟨Nat.zero_le _, Nat.zero_le _⟩ dX2_restore_32 (fun G1 hG1 => ?_)
  have hb_B_G1 := hG1.1
  have hb_K_G1 := hK.keep (fun j h8 h9 => hG1.2 j (by omega))
  have h_h_G1 : G1 h = .inr (2, [.ref (ad (h + 1)), .int (nI (hvN w)), .int (nI (hvZ w))]) := (hG1.2 h (by omega)).trans hw0
  have h_h___1_G1 : G1 (h + 1) = .inl (cB, 6, .inr (.inr (.inr (.inr fr)))) := (hG1.2 (h + 1) (by omega)).trans hw1
  refine k_aload_n C dX2_restore_35 rfl (j := 2) rfl ?_
  refine k_iload_n C dX2_restore_36 rfl (j := 1) rfl ?_
  refine k_put C h inX2_restore_2 tyX2 tyX2_ok nmX2 (by omega) h_h_G1 rfl 1 (by decide) (List.mem_of_getElem? (i := 1) rfl) rfl rfl rfl rfl (Nat.le_of_ble_eq_true rfl) dX2_restore_37 (fun G2 hG2 => ?_)
  have hb_B_G2 := hb_B_G1.keep (fun j h8 h9 => show G2 j = G1 j from by rw [hG2, up_ne (by omega)])
  have hb_K_G2 := hb_K_G1.keep (fun j h8 h9 => show G2 j = G1 j from by rw [hG2, up_ne (by omega)])
  have h_h___1_G2 : G2 (h + 1) = .inl (cB, 6, .inr (.inr (.inr (.inr fr)))) := up_at hG2 h_h___1_G1 (by omega)
  have h_h_G2 : G2 h = .inr (2, [.ref (ad (h + 1)), .int (nI (hLast w)), .int (nI (hvZ w))]) := up_it hG2
  refine k_aload_n C dX2_restore_40 rfl (j := 2) rfl ?_
  refine k_aload_n C dX2_restore_41 rfl (j := 2) rfl ?_
  refine k_get C h inX2_restore_2 (by omega) h_h_G2 rfl 2 (by decide) (List.mem_of_getElem? (i := 2) rfl) rfl rfl dX2_restore_42 ?_
  refine k_iconst C (v := 1) dX2_restore_45 (by decide) ?_
  refine k_isub C dX2_restore_46 ?_
  rw [show ((nI (hvZ w)) - 1) = nI (hvZ w - 1) from by rw [show (1 : Int32) = nI 1 from rfl]; exact pk_sub hpos]
  refine k_put C h inX2_restore_2 tyX2 tyX2_ok nmX2 (by omega) h_h_G2 rfl 2 (by decide) (List.mem_of_getElem? (i := 2) rfl) rfl rfl rfl rfl (Nat.le_of_ble_eq_true rfl) dX2_restore_47 (fun G3 hG3 => ?_)
  have hb_B_G3 := hb_B_G2.keep (fun j h8 h9 => show G3 j = G2 j from by rw [hG3, up_ne (by omega)])
  have hb_K_G3 := hb_K_G2.keep (fun j h8 h9 => show G3 j = G2 j from by rw [hG3, up_ne (by omega)])
  have h_h___1_G3 : G3 (h + 1) = .inl (cB, 6, .inr (.inr (.inr (.inr fr)))) := up_at hG3 h_h___1_G2 (by omega)
  have h_h_G3 : G3 h = .inr (2, [.ref (ad (h + 1)), .int (nI (hLast w)), .int (nI (hvZ w - 1))]) := up_it hG3
  have hend : ∀ j, (j < b ∨ b + 7 ≤ j) → j ≠ h → G3 j = G j := fun j hj hjh => ((show _ = _ from by rw [hG3, up_ne (by omega)]).trans ((show _ = _ from by rw [hG2, up_ne (by omega)]).trans (hG1.2 j (by omega))))
  exact k_vret C hQ rfl dX2_restore_50 ⟨hb_B_G3, ⟨h_h_G3, ⟨fr, h_h___1_G3, hwf⟩, fun i hi => (hwb i hi).keep (fun j h8 h9 => hend j (by omega) (by omega)), hlt, Nat.le_trans (Nat.sub_le _ _) hwz⟩, fun j hj hj2 => hend j (by omega) (by omega)⟩
theorem inX3_isFull_3 : ∀ w ∈ wsX30, w ∈ wsX3_isFull := fun _ h => List.mem_cons_of_mem _ (List.mem_append_right _ h)
theorem kd_X3_isFull : yX3_isFull.cls = RX3 ∧ yX3_isFull.cls ≠ "java/lang/invoke/MethodHandle" ∧ yX3_isFull.cls ≠ "java/lang/invoke/VarHandle" ∧ (parseMethodDescriptor yX3_isFull.desc).map (fun d => d.parameters.length) = some 0 := by decide +kernel
abbrev rX3_isFull : Room := ({ frames := 0, cells := 0, slots := 0, locals := 0 } : Room)
set_option maxRecDepth 100000 in
set_option maxHeartbeats 4000000 in
/-- Slot.isFull -/
theorem m_X3_isFull (l : Launch) (D : va_G) (cI cC cZ cB cJ : ClassId) (ad : Nat → Nat) (N : Nat) (G : Nat → va_E) (z : Nat) (w : ZV) (hNz : z + 8 ≤ N) (hZ : isSl ad cI G z w) : kMi l yX3_isFull wsX3_isFull rX3_isFull D (kT5 cI cC cZ cB cJ) ad N G [.ref (ad z)] (fun r G' => r = bI w.2 ∧ G' = G) := by
  refine k_starti (cc := cX3_isFull) (ret := (some .boolean)) (maxL := 1) (lv0 := [(0, .ref (ad z))]) (by decide) rfl (Nat.le_of_ble_eq_true rfl) rfl ?_
  intro p e s m args below meth c A Q C hQ
  refine k_aload_n C dX3_isFull_0 rfl (j := 0) rfl ?_
  refine k_get C z inX3_isFull_3 (by omega) hZ.1 rfl 1 (by decide) (List.mem_of_getElem? (i := 1) rfl) rfl rfl dX3_isFull_1 ?_
  exact k_iret C hQ rfl (bI_nar _) dX3_isFull_4 ⟨rfl, rfl⟩
theorem inX3_fill_3 : ∀ w ∈ wsX30, w ∈ wsX3_fill := fun _ h => List.mem_cons_of_mem _ (List.mem_append_left _ (List.mem_append_left _ (List.mem_append_right _ h)))
theorem inX3_fill_1 : ∀ w ∈ wsX10, w ∈ wsX3_fill := fun _ h => List.mem_cons_of_mem _ (List.mem_append_left _ (List.mem_append_right _ h))
theorem inX3_fill_4 : ∀ w ∈ wsX40, w ∈ wsX3_fill := fun _ h => List.mem_cons_of_mem _ (List.mem_append_right _ h)
theorem kd_X3_fill : yX3_fill.cls = RX3 ∧ yX3_fill.cls ≠ "java/lang/invoke/MethodHandle" ∧ yX3_fill.cls ≠ "java/lang/invoke/VarHandle" ∧ (parseMethodDescriptor yX3_fill.desc).map (fun d => d.parameters.length) = some 1 := by decide +kernel
abbrev rX3_fill : Room := ({ frames := 3, cells := 0, slots := 0, locals := 102 } : Room)
set_option maxRecDepth 100000 in
set_option maxHeartbeats 4000000 in
/-- Slot.fill -/
theorem m_X3_fill (l : Launch) (D : va_G) (cI cC cZ cB cJ : ClassId) (ad : Nat → Nat) (N : Nat) (G : Nat → va_E) (z : Nat) (w : ZV) (b : Nat) (v : BV) (hNz : z + 8 ≤ N) (hZ : isSl ad cI G z w) (hNb : b + 7 ≤ N) (hB : isBk ad cI G b v) (hdis : z + 8 ≤ b ∨ b + 7 ≤ z) : kMv l yX3_fill wsX3_fill rX3_fill D (kT5 cI cC cZ cB cJ) ad N G [.ref (ad z), .ref (ad b)] (fun G' => isSl ad cI G' z (bCopy w.1 v, true) ∧ ∀ j, (j < z ∨ z + 8 ≤ j) → G' j = G j) := by
  refine k_startv (cc := cX3_fill) (ret := none) (maxL := 2) (lv0 := [(0, .ref (ad z)), (1, .ref (ad b))]) (by decide) rfl (Nat.le_of_ble_eq_true rfl) rfl ?_
  intro p e s m args below meth c A Q C hQ
  refine k_aload_n C dX3_fill_0 rfl (j := 0) rfl ?_
  refine k_get C z inX3_fill_3 (by omega) hZ.1 rfl 0 (by decide) (List.mem_of_getElem? (i := 1) rfl) rfl rfl dX3_fill_1 ?_
  refine k_aload_n C dX3_fill_4 rfl (j := 1) rfl ?_
  refine k_callVv C (As := [.ref (ad b)]) (rest := []) (z + 1) (m_X1_copyFrom l D cI cC cZ cB cJ ad N G (z + 1) w.1 b v (by omega) hZ.2 (by omega) hB (by omega)) gX3_fill_X1_copyFrom rfl kd_X1_copyFrom rfl rfl ⟨Nat.le_of_ble_eq_true rfl, Nat.le_of_ble_eq_true rfl⟩ (by omega) hZ.2.1 rfl rfl rfl (Nat.le_of_ble_eq_true rfl) ⟨Nat.zero_le _, Nat.zero_le _⟩ dX3_fill_5 (fun G1 hG1 => ?_)
  have hb_Z_G1 := hG1.1
  have hb_B_G1 := hB.keep (fun j h8 h9 => hG1.2 j (by omega))
  have h_z_G1 : G1 z = .inr (3, [.ref (ad (z + 1)), .int (bI w.2)]) := (hG1.2 z (by omega)).trans hZ.1
  refine k_aload_n C dX3_fill_8 rfl (j := 0) rfl ?_
  refine k_iconst C (v := 1) dX3_fill_9 (by decide) ?_
  refine k_put C z inX3_fill_3 tyX3 tyX3_ok nmX3 (by omega) h_z_G1 rfl 1 (by decide) (List.mem_of_getElem? (i := 2) rfl) rfl rfl (by decide) (by decide) (Nat.le_of_ble_eq_true rfl) dX3_fill_10 (fun G2 hG2 => ?_)
  have hb_Z_G2 := hb_Z_G1.keep (fun j h8 h9 => show G2 j = G1 j from by rw [hG2, up_ne (by omega)])
  have hb_B_G2 := hb_B_G1.keep (fun j h8 h9 => show G2 j = G1 j from by rw [hG2, up_ne (by omega)])
  have h_z_G2 : G2 z = .inr (3, [.ref (ad (z + 1)), .int 1]) := up_it hG2
  exact k_vret C hQ rfl dX3_fill_13 ⟨⟨h_z_G2, hb_Z_G2⟩, fun j hj => (show _ = _ from by rw [hG2, up_ne (by omega)]).trans (hG1.2 j (by omega))⟩
theorem inX3_bringBack_3 : ∀ w ∈ wsX30, w ∈ wsX3_bringBack := fun _ h => List.mem_cons_of_mem _ (List.mem_append_left _ (List.mem_append_left _ (List.mem_append_right _ h)))
theorem inX3_bringBack_1 : ∀ w ∈ wsX10, w ∈ wsX3_bringBack := fun _ h => List.mem_cons_of_mem _ (List.mem_append_left _ (List.mem_append_right _ h))
theorem inX3_bringBack_4 : ∀ w ∈ wsX40, w ∈ wsX3_bringBack := fun _ h => List.mem_cons_of_mem _ (List.mem_append_right _ h)
theorem kd_X3_bringBack : yX3_bringBack.cls = RX3 ∧ yX3_bringBack.cls ≠ "java/lang/invoke/MethodHandle" ∧ yX3_bringBack.cls ≠ "java/lang/invoke/VarHandle" ∧ (parseMethodDescriptor yX3_bringBack.desc).map (fun d => d.parameters.length) = some 1 := by decide +kernel
abbrev rX3_bringBack : Room := ({ frames := 3, cells := 0, slots := 0, locals := 102 } : Room)
set_option maxRecDepth 100000 in
set_option maxHeartbeats 4000000 in
/-- Slot.bringBack -/
theorem m_X3_bringBack (l : Launch) (D : va_G) (cI cC cZ cB cJ : ClassId) (ad : Nat → Nat) (N : Nat) (G : Nat → va_E) (b : Nat) (v : BV) (z : Nat) (w : ZV) (hNb : b + 7 ≤ N) (hB : isBk ad cI G b v) (hNz : z + 8 ≤ N) (hZ : isSl ad cI G z w) (hdis : z + 8 ≤ b ∨ b + 7 ≤ z) : kMv l yX3_bringBack wsX3_bringBack rX3_bringBack D (kT5 cI cC cZ cB cJ) ad N G [.ref (ad z), .ref (ad b)] (fun G' => isBk ad cI G' b (bCopy v w.1) ∧ ∀ j, (j < b ∨ b + 7 ≤ j) → G' j = G j) := by
  refine k_startv (cc := cX3_bringBack) (ret := none) (maxL := 2) (lv0 := [(0, .ref (ad z)), (1, .ref (ad b))]) (by decide) rfl (Nat.le_of_ble_eq_true rfl) rfl ?_
  intro p e s m args below meth c A Q C hQ
  refine k_aload_n C dX3_bringBack_0 rfl (j := 1) rfl ?_
  refine k_aload_n C dX3_bringBack_1 rfl (j := 0) rfl ?_
  refine k_get C z inX3_bringBack_3 (by omega) hZ.1 rfl 0 (by decide) (List.mem_of_getElem? (i := 1) rfl) rfl rfl dX3_bringBack_2 ?_
  refine k_callVv C (As := [.ref (ad (z + 1))]) (rest := []) b (m_X1_copyFrom l D cI cC cZ cB cJ ad N G b v (z + 1) w.1 (by omega) hB (by omega) hZ.2 (by omega)) gX3_bringBack_X1_copyFrom rfl kd_X1_copyFrom rfl rfl ⟨Nat.le_of_ble_eq_true rfl, Nat.le_of_ble_eq_true rfl⟩ (by omega) hB.1 rfl rfl rfl (Nat.le_of_ble_eq_true rfl) ⟨Nat.zero_le _, Nat.zero_le _⟩ dX3_bringBack_5 (fun G1 hG1 => ?_)
  have hb_B_G1 := hG1.1
  have hb_Z_G1 := hZ.2.keep (fun j h8 h9 => hG1.2 j (by omega))
  have h_z_G1 : G1 z = .inr (3, [.ref (ad (z + 1)), .int (bI w.2)]) := (hG1.2 z (by omega)).trans hZ.1
  exact k_vret C hQ rfl dX3_bringBack_8 ⟨hb_B_G1, fun j hj => hG1.2 j (by omega)⟩
