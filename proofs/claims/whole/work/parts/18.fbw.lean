theorem k_cong {p : Program} {l : Launch} {e : Env} {R : Room} {s : State} {m : MethodId} {args : Array Value} {below : List Frame} {meth : Method} {c : Code} {cells slots : Nat} {Q : State → Prop} {nL : Nat} {D : va_G} {ad : Nat → Nat} {N : Nat} {A : Nat → Prop} {G : Nat → va_E} {pc : Nat} {lv lv' : List (Nat × Value)} {st : List Value} (h : lv = lv') (kk : kJ p l e R s m args below meth c cells slots Q nL D ad N A G pc lv' st) : kJ p l e R s m args below meth c cells slots Q nL D ad N A G pc lv st := by rw [h]; exact kk
theorem inX6_wouldWinWith_6 : ∀ w ∈ wsX60, w ∈ wsX6_wouldWinWith := fun _ h => List.mem_cons_of_mem _ (List.mem_append_left _ (List.mem_append_left _ (List.mem_append_left _ (List.mem_append_right _ h))))
theorem inX6_wouldWinWith_1 : ∀ w ∈ wsX10, w ∈ wsX6_wouldWinWith := fun _ h => List.mem_cons_of_mem _ (List.mem_append_left _ (List.mem_append_left _ (List.mem_append_right _ h)))
theorem inX6_wouldWinWith_4 : ∀ w ∈ wsX40, w ∈ wsX6_wouldWinWith := fun _ h => List.mem_cons_of_mem _ (List.mem_append_left _ (List.mem_append_right _ h))
theorem inX6_wouldWinWith_0 : ∀ w ∈ wsX00, w ∈ wsX6_wouldWinWith := fun _ h => List.mem_cons_of_mem _ (List.mem_append_right _ h)
theorem kd_X6_wouldWinWith : yX6_wouldWinWith.cls = RX6 ∧ yX6_wouldWinWith.cls ≠ "java/lang/invoke/MethodHandle" ∧ yX6_wouldWinWith.cls ≠ "java/lang/invoke/VarHandle" ∧ (parseMethodDescriptor yX6_wouldWinWith.desc).map (fun d => d.parameters.length) = some 1 := by decide +kernel
abbrev rX6_wouldWinWith : Room := ({ frames := 4, cells := 0, slots := 0, locals := 95 } : Room)
set_option maxRecDepth 100000 in
set_option maxHeartbeats 4000000 in
/-- wouldWinWith -/
theorem m_X6_wouldWinWith (l : Launch) (D : va_G) (cI cC cZ cB cJ : ClassId) (ad : Nat → Nat) (N : Nat) (G : Nat → va_E) (v : BV) (w : AV) (x : TV) (hi : HV) (z0 z1 : ZV) (h : Int32) (hN : 73 ≤ N) (hF : isFB ad cI cB G v w x hi z0 z1) : kMi l yX6_wouldWinWith wsX6_wouldWinWith rX6_wouldWinWith D (kT5 cI cC cZ cB cJ) ad N G [.ref (ad 0), .int h] (fun r G' => r = jWW v h ∧ ∃ w', isFB ad cI cB G' v w' x hi z0 z1 ∧ ∀ j, 73 ≤ j → G' j = G j) := by
  refine k_starti (cc := cX6_wouldWinWith) (ret := (some .int)) (maxL := 3) (lv0 := [(0, .ref (ad 0)), (1, .int h)]) (by decide) rfl (Nat.le_of_ble_eq_true rfl) rfl ?_
  intro p e s m args below meth c A Q C hQ
  have hlH := hF.2.1.2.2.2.2.1
  have hlB := hF.2.1.2.2.2.2.2.1
  have hlL := hF.2.1.2.2.2.2.2.2
  have hlX := hF.2.2.2.1.2.2
  have hlN := hF.2.2.2.2.1.2.2.2.1
  have hlZ := hF.2.2.2.2.1.2.2.2.2
  refine k_aload_n C dX6_wouldWinWith_0 rfl (j := 0) rfl ?_
  refine k_get C 0 inX6_wouldWinWith_6 (by omega) hF.1 rfl 0 (by decide) (List.mem_of_getElem? (i := 1) rfl) rfl rfl dX6_wouldWinWith_1 ?_
  refine k_iload_n C dX6_wouldWinWith_4 rfl (j := 1) rfl ?_
  refine k_callVir C (As := [.int h]) (rest := []) 1 (m_X1_runs l D cI cC cZ cB cJ ad N G 1 v h (by omega) hF.2.1) gX6_wouldWinWith_X1_runs rfl kd_X1_runs rfl rfl ⟨Nat.le_of_ble_eq_true rfl, Nat.le_of_ble_eq_true rfl⟩ (by omega) hF.2.1.1 rfl rfl rfl (Nat.le_of_ble_eq_true rfl) ⟨Nat.zero_le _, Nat.zero_le _⟩ dX6_wouldWinWith_5 ?_
  refine k_if_ne C 13 dX6_wouldWinWith_8 (by decide) (fun c_8 => ?_) (fun c_8 => ?_)
  · skip
    have e_8 := bI_t c_8
    refine k_aload_n C dX6_wouldWinWith_13 rfl (j := 0) rfl ?_
    refine k_get C 0 inX6_wouldWinWith_6 (by omega) hF.1 rfl 1 (by decide) (List.mem_of_getElem? (i := 2) rfl) rfl rfl dX6_wouldWinWith_14 ?_
    refine k_aload_n C dX6_wouldWinWith_17 rfl (j := 0) rfl ?_
    refine k_get C 0 inX6_wouldWinWith_6 (by omega) hF.1 rfl 0 (by decide) (List.mem_of_getElem? (i := 1) rfl) rfl rfl dX6_wouldWinWith_18 ?_
    refine k_callVir C (As := []) (rest := [.ref (ad 8)]) 1 (m_X1_places l D cI cC cZ cB cJ ad N G 1 v (by omega) hF.2.1) gX6_wouldWinWith_X1_places rfl kd_X1_places rfl rfl ⟨Nat.le_of_ble_eq_true rfl, Nat.le_of_ble_eq_true rfl⟩ (by omega) hF.2.1.1 rfl rfl rfl (Nat.le_of_ble_eq_true rfl) ⟨Nat.zero_le _, Nat.zero_le _⟩ dX6_wouldWinWith_21 ?_
    refine k_callVv C (As := [.int (jPlaces v)]) (rest := []) 8 (m_X0_begin l D cI cC cZ cB cJ ad N G 8 w (jPlaces v) (by omega) hF.2.2.1) gX6_wouldWinWith_X0_begin rfl kd_X0_begin rfl rfl ⟨Nat.le_of_ble_eq_true rfl, Nat.le_of_ble_eq_true rfl⟩ (by omega) hF.2.2.1.1 rfl rfl rfl (Nat.le_of_ble_eq_true rfl) ⟨Nat.zero_le _, Nat.zero_le _⟩ dX6_wouldWinWith_24 (fun G1 hG1 => ?_)
    have hb_B_G1 := hF.2.1.keep (fun j h8 h9 => hG1.2 j (by omega))
    have hb_A_G1 := hG1.1
    have hb_X_G1 := hF.2.2.2.1.keep (fun j h8 h9 => hG1.2 j (by omega))
    have hb_H_G1 := hF.2.2.2.2.1.keep (fun j h8 h9 => hG1.2 j (by omega))
    have hb_Z0_G1 := hF.2.2.2.2.2.1.keep (fun j h8 h9 => hG1.2 j (by omega))
    have hb_Z1_G1 := hF.2.2.2.2.2.2.keep (fun j h8 h9 => hG1.2 j (by omega))
    have h_0_G1 : G1 0 = .inr (6, [.ref (ad 1), .ref (ad 8), .ref (ad 11), .ref (ad 13), .ref (ad 57), .ref (ad 65)]) := (hG1.2 0 (by omega)).trans hF.1
    refine k_aload_n C dX6_wouldWinWith_27 rfl (j := 0) rfl ?_
    refine k_get C 0 inX6_wouldWinWith_6 (by omega) h_0_G1 rfl 1 (by decide) (List.mem_of_getElem? (i := 2) rfl) rfl rfl dX6_wouldWinWith_28 ?_
    refine k_iload_n C dX6_wouldWinWith_31 rfl (j := 1) rfl ?_
    refine k_iconst C (v := 0) dX6_wouldWinWith_32 (by decide) ?_
    refine k_callVv C (As := [.int h, .int 0]) (rest := []) 8 (m_X0_arrive l D cI cC cZ cB cJ ad N G1 8 (aBegin w (jPlaces v)) h false (by omega) hb_A_G1) gX6_wouldWinWith_X0_arrive rfl kd_X0_arrive rfl rfl ⟨Nat.le_of_ble_eq_true rfl, Nat.le_of_ble_eq_true rfl⟩ (by omega) hb_A_G1.1 rfl rfl rfl (Nat.le_of_ble_eq_true rfl) ⟨Nat.zero_le _, Nat.zero_le _⟩ dX6_wouldWinWith_33 (fun G2 hG2 => ?_)
    have hb_B_G2 := hb_B_G1.keep (fun j h8 h9 => hG2.2 j (by omega))
    have hb_A_G2 := hG2.1
    have hb_X_G2 := hb_X_G1.keep (fun j h8 h9 => hG2.2 j (by omega))
    have hb_H_G2 := hb_H_G1.keep (fun j h8 h9 => hG2.2 j (by omega))
    have hb_Z0_G2 := hb_Z0_G1.keep (fun j h8 h9 => hG2.2 j (by omega))
    have hb_Z1_G2 := hb_Z1_G1.keep (fun j h8 h9 => hG2.2 j (by omega))
    have h_0_G2 : G2 0 = .inr (6, [.ref (ad 1), .ref (ad 8), .ref (ad 11), .ref (ad 13), .ref (ad 57), .ref (ad 65)]) := (hG2.2 0 (by omega)).trans h_0_G1
    refine k_iconst C (v := 0) dX6_wouldWinWith_36 (by decide) ?_
    refine k_istore_n C (lv' := [(2, .int 0), (0, .ref (ad 0)), (1, .int h)]) dX6_wouldWinWith_37 rfl (by decide) rfl ?_
    have loop38 : ∀ (k : Nat) (i : Nat) (w2 : AV) (G2 : Nat → va_E), (bnH v + 1 ≤ i + k) → (i ≤ bnH v) → (isFB ad cI cB G2 v w2 x hi z0 z1) → (aEq w2 (wwA v h i)) → (∀ j, 73 ≤ j → G2 j = G j) → kJ p l e rX6_wouldWinWith s m args below meth c 0 0 Q 3 D ad N A G2 38 [(0, .ref (ad 0)), (1, .int h), (2, .int (nI i))] [] := by
      intro k
      induction k with
      | zero => intro i w2 G2 h1 h2 hF2 hw2 hfr; exact absurd h1 (by omega)
      | succ k ih38 =>
        intro i w2 G2 h1 h2 hF2 hw2 hfr
        refine k_iload_n C dX6_wouldWinWith_38 rfl (j := 2) rfl ?_
        refine k_aload_n C dX6_wouldWinWith_39 rfl (j := 0) rfl ?_
        refine k_get C 0 inX6_wouldWinWith_6 (by omega) hF2.1 rfl 0 (by decide) (List.mem_of_getElem? (i := 1) rfl) rfl rfl dX6_wouldWinWith_40 ?_
        refine k_get C 1 inX6_wouldWinWith_1 (by omega) hF2.2.1.1 rfl 0 (by decide) (List.mem_of_getElem? (i := 3) rfl) rfl rfl dX6_wouldWinWith_43 ?_
        refine k_callVir C (As := []) (rest := [.int (nI i)]) 2 (m_X4_size l D cI cC cZ cB cJ ad N G2 2 3 9 (nI (bnH v)) 90 (bvh v) (by omega) (by omega) hF2.2.1.2.1.1 hF2.2.1.2.1.2 (Nat.le_of_ble_eq_true rfl)) gX6_wouldWinWith_X4_size rfl kd_X4_size rfl rfl ⟨Nat.le_of_ble_eq_true rfl, Nat.le_of_ble_eq_true rfl⟩ (by omega) hF2.2.1.2.1.1 rfl rfl rfl (Nat.le_of_ble_eq_true rfl) ⟨Nat.zero_le _, Nat.zero_le _⟩ dX6_wouldWinWith_46 ?_
        refine k_icmp_ge C 83 dX6_wouldWinWith_49 (by decide) (fun c_49 => ?_) (fun c_49 => ?_)
        · skip
          have hi2 : i = bnH v := k_ge c_49 (by omega) h2
          rw [hi2] at hw2
          refine k_aload_n C dX6_wouldWinWith_83 rfl (j := 0) rfl ?_
          refine k_get C 0 inX6_wouldWinWith_6 (by omega) hF2.1 rfl 0 (by decide) (List.mem_of_getElem? (i := 1) rfl) rfl rfl dX6_wouldWinWith_84 ?_
          refine k_aload_n C dX6_wouldWinWith_87 rfl (j := 0) rfl ?_
          refine k_get C 0 inX6_wouldWinWith_6 (by omega) hF2.1 rfl 1 (by decide) (List.mem_of_getElem? (i := 2) rfl) rfl rfl dX6_wouldWinWith_88 ?_
          refine k_callVir C (As := [.ref (ad 8)]) (rest := []) 1 (m_X1_wouldWin l D cI cC cZ cB cJ ad N G2 1 v 8 w2 (by omega) hF2.2.1 (by omega) hF2.2.2.1) gX6_wouldWinWith_X1_wouldWin rfl kd_X1_wouldWin rfl rfl ⟨Nat.le_of_ble_eq_true rfl, Nat.le_of_ble_eq_true rfl⟩ (by omega) hF2.2.1.1 rfl rfl rfl (Nat.le_of_ble_eq_true rfl) ⟨Nat.zero_le _, Nat.zero_le _⟩ dX6_wouldWinWith_91 ?_
          exact k_iret C hQ rfl rfl dX6_wouldWinWith_94 ⟨by rw [jWW, if_pos e_8, jWould_eq hw2], _, ⟨hF2.1, hF2.2.1, hF2.2.2.1, hF2.2.2.2.1, hF2.2.2.2.2.1, hF2.2.2.2.2.2.1, hF2.2.2.2.2.2.2⟩, fun j hj => hfr j hj⟩
        · skip
          have hi2 : i < bnH v := k_lt c_49 (by omega) h2
          refine k_iload_n C dX6_wouldWinWith_52 rfl (j := 2) rfl ?_
          refine k_iload_n C dX6_wouldWinWith_53 rfl (j := 1) rfl ?_
          refine k_icmp_eq C 77 dX6_wouldWinWith_54 (by decide) (fun c_54 => ?_) (fun c_54 => ?_)
          · skip
            have hst : aEq w2 (wwA v h (i + 1)) := by rw [wwA, if_neg (fun h9 => h9.1 c_54)]; exact hw2
            refine k_iinc C (v := nI (i + 1)) (lv' := [(2, .int (nI (i + 1))), (0, .ref (ad 0)), (1, .int h)]) dX6_wouldWinWith_77 (j := 2) rfl (nI_1 i) (by decide) rfl ?_
            refine k_goto C 38 dX6_wouldWinWith_80 (by decide) ?_
            exact k_sub [1, 2, 0] rfl (ih38 (i + 1) w2 G2 (by omega) (by omega) ⟨hF2.1, hF2.2.1, hF2.2.2.1, hF2.2.2.2.1, hF2.2.2.2.2.1, hF2.2.2.2.2.2.1, hF2.2.2.2.2.2.2⟩ hst (fun j hj => hfr j hj))
          · skip
            refine k_aload_n C dX6_wouldWinWith_57 rfl (j := 0) rfl ?_
            refine k_get C 0 inX6_wouldWinWith_6 (by omega) hF2.1 rfl 0 (by decide) (List.mem_of_getElem? (i := 1) rfl) rfl rfl dX6_wouldWinWith_58 ?_
            refine k_iload_n C dX6_wouldWinWith_61 rfl (j := 2) rfl ?_
            refine k_callVir C (As := [.int (nI i)]) (rest := []) 1 (m_X1_runs l D cI cC cZ cB cJ ad N G2 1 v (nI i) (by omega) hF2.2.1) gX6_wouldWinWith_X1_runs rfl kd_X1_runs rfl rfl ⟨Nat.le_of_ble_eq_true rfl, Nat.le_of_ble_eq_true rfl⟩ (by omega) hF2.2.1.1 rfl rfl rfl (Nat.le_of_ble_eq_true rfl) ⟨Nat.zero_le _, Nat.zero_le _⟩ dX6_wouldWinWith_62 ?_
            refine k_if_eq C 77 dX6_wouldWinWith_65 (by decide) (fun c_65 => ?_) (fun c_65 => ?_)
            · skip
              have hst : aEq w2 (wwA v h (i + 1)) := by rw [wwA, if_neg (fun h9 => by rw [bI_f c_65] at h9; exact absurd h9.2 (by decide))]; exact hw2
              refine k_iinc C (v := nI (i + 1)) (lv' := [(2, .int (nI (i + 1))), (0, .ref (ad 0)), (1, .int h)]) dX6_wouldWinWith_77 (j := 2) rfl (nI_1 i) (by decide) rfl ?_
              refine k_goto C 38 dX6_wouldWinWith_80 (by decide) ?_
              exact k_sub [1, 2, 0] rfl (ih38 (i + 1) w2 G2 (by omega) (by omega) ⟨hF2.1, hF2.2.1, hF2.2.2.1, hF2.2.2.2.1, hF2.2.2.2.2.1, hF2.2.2.2.2.2.1, hF2.2.2.2.2.2.2⟩ hst (fun j hj => hfr j hj))
            · skip
              have hst : aEq (aArrive w2 (nI i) false) (wwA v h (i + 1)) := by rw [wwA, if_pos ⟨c_54, bI_t c_65⟩]; exact aEq_arrive hw2 _ _
              refine k_aload_n C dX6_wouldWinWith_68 rfl (j := 0) rfl ?_
              refine k_get C 0 inX6_wouldWinWith_6 (by omega) hF2.1 rfl 1 (by decide) (List.mem_of_getElem? (i := 2) rfl) rfl rfl dX6_wouldWinWith_69 ?_
              refine k_iload_n C dX6_wouldWinWith_72 rfl (j := 2) rfl ?_
              refine k_iconst C (v := 0) dX6_wouldWinWith_73 (by decide) ?_
              refine k_callVv C (As := [.int (nI i), .int 0]) (rest := []) 8 (m_X0_arrive l D cI cC cZ cB cJ ad N G2 8 w2 (nI i) false (by omega) hF2.2.2.1) gX6_wouldWinWith_X0_arrive rfl kd_X0_arrive rfl rfl ⟨Nat.le_of_ble_eq_true rfl, Nat.le_of_ble_eq_true rfl⟩ (by omega) hF2.2.2.1.1 rfl rfl rfl (Nat.le_of_ble_eq_true rfl) ⟨Nat.zero_le _, Nat.zero_le _⟩ dX6_wouldWinWith_74 (fun G3 hG3 => ?_)
              have hb_B_G3 := hF2.2.1.keep (fun j h8 h9 => hG3.2 j (by omega))
              have hb_A_G3 := hG3.1
              have hb_X_G3 := hF2.2.2.2.1.keep (fun j h8 h9 => hG3.2 j (by omega))
              have hb_H_G3 := hF2.2.2.2.2.1.keep (fun j h8 h9 => hG3.2 j (by omega))
              have hb_Z0_G3 := hF2.2.2.2.2.2.1.keep (fun j h8 h9 => hG3.2 j (by omega))
              have hb_Z1_G3 := hF2.2.2.2.2.2.2.keep (fun j h8 h9 => hG3.2 j (by omega))
              have h_0_G3 : G3 0 = .inr (6, [.ref (ad 1), .ref (ad 8), .ref (ad 11), .ref (ad 13), .ref (ad 57), .ref (ad 65)]) := (hG3.2 0 (by omega)).trans hF2.1
              refine k_iinc C (v := nI (i + 1)) (lv' := [(2, .int (nI (i + 1))), (0, .ref (ad 0)), (1, .int h)]) dX6_wouldWinWith_77 (j := 2) rfl (nI_1 i) (by decide) rfl ?_
              refine k_goto C 38 dX6_wouldWinWith_80 (by decide) ?_
              exact k_sub [1, 2, 0] rfl (ih38 (i + 1) (aArrive w2 (nI i) false) G3 (by omega) (by omega) ⟨h_0_G3, hb_B_G3, hb_A_G3, hb_X_G3, hb_H_G3, hb_Z0_G3, hb_Z1_G3⟩ hst (fun j hj => (hG3.2 j (by omega) : _).trans (hfr j hj)))
    exact k_sub [1, 2, 0] rfl (loop38 (bnH v + 1) 0 (aArrive (aBegin w (jPlaces v)) h false) G2 (by omega) (Nat.zero_le _) ⟨h_0_G2, hb_B_G2, hb_A_G2, hb_X_G2, hb_H_G2, hb_Z0_G2, hb_Z1_G2⟩ (aEq_arrive (aEq_begin _ _ _) _ _) (fun j hj => (hG2.2 j (by omega) : _).trans (hG1.2 j (by omega))))
  · skip
    have e_8 := bI_f c_8
    refine k_iconst C (v := (-1)) dX6_wouldWinWith_11 (by decide) ?_
    exact k_iret C hQ rfl rfl dX6_wouldWinWith_12 ⟨by rw [jWW, if_neg (by rw [e_8]; decide)], _, ⟨hF.1, hF.2.1, hF.2.2.1, hF.2.2.2.1, hF.2.2.2.2.1, hF.2.2.2.2.2.1, hF.2.2.2.2.2.2⟩, fun _ _ => rfl⟩
theorem inX6_readArrival_6 : ∀ w ∈ wsX60, w ∈ wsX6_readArrival := fun _ h => List.mem_cons_of_mem _ (List.mem_append_left _ (List.mem_append_left _ (List.mem_append_left _ (List.mem_append_left _ (List.mem_append_right _ h)))))
theorem inX6_readArrival_5 : ∀ w ∈ wsX50, w ∈ wsX6_readArrival := fun _ h => List.mem_cons_of_mem _ (List.mem_append_left _ (List.mem_append_left _ (List.mem_append_left _ (List.mem_append_right _ h))))
theorem inX6_readArrival_1 : ∀ w ∈ wsX10, w ∈ wsX6_readArrival := fun _ h => List.mem_cons_of_mem _ (List.mem_append_left _ (List.mem_append_left _ (List.mem_append_right _ h)))
theorem inX6_readArrival_4 : ∀ w ∈ wsX40, w ∈ wsX6_readArrival := fun _ h => List.mem_cons_of_mem _ (List.mem_append_left _ (List.mem_append_right _ h))
theorem inX6_readArrival_0 : ∀ w ∈ wsX00, w ∈ wsX6_readArrival := fun _ h => List.mem_cons_of_mem _ (List.mem_append_right _ h)
theorem kd_X6_readArrival : yX6_readArrival.cls = RX6 ∧ yX6_readArrival.cls ≠ "java/lang/invoke/MethodHandle" ∧ yX6_readArrival.cls ≠ "java/lang/invoke/VarHandle" ∧ (parseMethodDescriptor yX6_readArrival.desc).map (fun d => d.parameters.length) = some 0 := by decide +kernel
abbrev rX6_readArrival : Room := ({ frames := 4, cells := 0, slots := 0, locals := 88 } : Room)
set_option maxRecDepth 100000 in
set_option maxHeartbeats 4000000 in
/-- readArrival -/
theorem m_X6_readArrival (l : Launch) (D : va_G) (cI cC cZ cB cJ : ClassId) (ad : Nat → Nat) (N : Nat) (G : Nat → va_E) (v : BV) (w : AV) (x : TV) (hi : HV) (z0 z1 : ZV) (hN : 73 ≤ N) (hF : isFB ad cI cB G v w x hi z0 z1) : kMi l yX6_readArrival wsX6_readArrival rX6_readArrival D (kT5 cI cC cZ cB cJ) ad N G [.ref (ad 0)] (fun r G' => r = bI (jArr v x) ∧ ∃ w', isFB ad cI cB G' v w' x hi z0 z1 ∧ (jArr v x = true → aEq w' (raA v x (raK x))) ∧ ∀ j, 73 ≤ j → G' j = G j) := by
  refine k_starti (cc := cX6_readArrival) (ret := (some .boolean)) (maxL := 3) (lv0 := [(0, .ref (ad 0))]) (by decide) rfl (Nat.le_of_ble_eq_true rfl) rfl ?_
  intro p e s m args below meth c A Q C hQ
  have hlH := hF.2.1.2.2.2.2.1
  have hlB := hF.2.1.2.2.2.2.2.1
  have hlL := hF.2.1.2.2.2.2.2.2
  have hlX := hF.2.2.2.1.2.2
  have hlN := hF.2.2.2.2.1.2.2.2.1
  have hlZ := hF.2.2.2.2.1.2.2.2.2
  have hrk : raK x = (txN x + 1) / 2 := rfl
  refine k_aload_n C dX6_readArrival_0 rfl (j := 0) rfl ?_
  refine k_get C 0 inX6_readArrival_6 (by omega) hF.1 rfl 2 (by decide) (List.mem_of_getElem? (i := 1) rfl) rfl rfl dX6_readArrival_1 ?_
  refine k_callVir C (As := []) (rest := []) 11 (m_X5_isArrival l D cI cC cZ cB cJ ad N G 11 x (by omega) hF.2.2.2.1) gX6_readArrival_X5_isArrival rfl kd_X5_isArrival rfl rfl ⟨Nat.le_of_ble_eq_true rfl, Nat.le_of_ble_eq_true rfl⟩ (by omega) hF.2.2.2.1.1 rfl rfl rfl (Nat.le_of_ble_eq_true rfl) ⟨Nat.zero_le _, Nat.zero_le _⟩ dX6_readArrival_4 ?_
  refine k_if_ne C 12 dX6_readArrival_7 (by decide) (fun c_7 => ?_) (fun c_7 => ?_)
  · skip
    have e_7 := bI_t c_7
    have hodd : txN x % 2 = 1 := by simp only [txArrival, Bool.and_eq_true, decide_eq_true_eq] at e_7; exact e_7.1
    refine k_aload_n C dX6_readArrival_12 rfl (j := 0) rfl ?_
    refine k_get C 0 inX6_readArrival_6 (by omega) hF.1 rfl 1 (by decide) (List.mem_of_getElem? (i := 2) rfl) rfl rfl dX6_readArrival_13 ?_
    refine k_aload_n C dX6_readArrival_16 rfl (j := 0) rfl ?_
    refine k_get C 0 inX6_readArrival_6 (by omega) hF.1 rfl 0 (by decide) (List.mem_of_getElem? (i := 3) rfl) rfl rfl dX6_readArrival_17 ?_
    refine k_callVir C (As := []) (rest := [.ref (ad 8)]) 1 (m_X1_places l D cI cC cZ cB cJ ad N G 1 v (by omega) hF.2.1) gX6_readArrival_X1_places rfl kd_X1_places rfl rfl ⟨Nat.le_of_ble_eq_true rfl, Nat.le_of_ble_eq_true rfl⟩ (by omega) hF.2.1.1 rfl rfl rfl (Nat.le_of_ble_eq_true rfl) ⟨Nat.zero_le _, Nat.zero_le _⟩ dX6_readArrival_20 ?_
    refine k_callVv C (As := [.int (jPlaces v)]) (rest := []) 8 (m_X0_begin l D cI cC cZ cB cJ ad N G 8 w (jPlaces v) (by omega) hF.2.2.1) gX6_readArrival_X0_begin rfl kd_X0_begin rfl rfl ⟨Nat.le_of_ble_eq_true rfl, Nat.le_of_ble_eq_true rfl⟩ (by omega) hF.2.2.1.1 rfl rfl rfl (Nat.le_of_ble_eq_true rfl) ⟨Nat.zero_le _, Nat.zero_le _⟩ dX6_readArrival_23 (fun G1 hG1 => ?_)
    have hb_B_G1 := hF.2.1.keep (fun j h8 h9 => hG1.2 j (by omega))
    have hb_A_G1 := hG1.1
    have hb_X_G1 := hF.2.2.2.1.keep (fun j h8 h9 => hG1.2 j (by omega))
    have hb_H_G1 := hF.2.2.2.2.1.keep (fun j h8 h9 => hG1.2 j (by omega))
    have hb_Z0_G1 := hF.2.2.2.2.2.1.keep (fun j h8 h9 => hG1.2 j (by omega))
    have hb_Z1_G1 := hF.2.2.2.2.2.2.keep (fun j h8 h9 => hG1.2 j (by omega))
    have h_0_G1 : G1 0 = .inr (6, [.ref (ad 1), .ref (ad 8), .ref (ad 11), .ref (ad 13), .ref (ad 57), .ref (ad 65)]) := (hG1.2 0 (by omega)).trans hF.1
    refine k_iconst C (v := 0) dX6_readArrival_26 (by decide) ?_
    refine k_istore_n C (lv' := [(1, .int 0), (0, .ref (ad 0))]) dX6_readArrival_27 rfl (by decide) rfl ?_
    have loop28 : ∀ (k : Nat) (i : Nat) (w2 : AV) (G2 : Nat → va_E), (raK x + 1 ≤ i + k) → (i ≤ raK x) → (isFB ad cI cB G2 v w2 x hi z0 z1) → (aEq w2 (raA v x i)) → (raOk v x i = true) → (∀ j, 73 ≤ j → G2 j = G j) → kJ p l e rX6_readArrival s m args below meth c 0 0 Q 3 D ad N A G2 28 [(0, .ref (ad 0)), (1, .int (nI (2 * i)))] [] := by
      intro k
      induction k with
      | zero => intro i w2 G2 h1 h2 hF2 hw2 hok hfr; exact absurd h1 (by omega)
      | succ k ih28 =>
        intro i w2 G2 h1 h2 hF2 hw2 hok hfr
        refine k_iload_n C dX6_readArrival_28 rfl (j := 1) rfl ?_
        refine k_aload_n C dX6_readArrival_29 rfl (j := 0) rfl ?_
        refine k_get C 0 inX6_readArrival_6 (by omega) hF2.1 rfl 2 (by decide) (List.mem_of_getElem? (i := 1) rfl) rfl rfl dX6_readArrival_30 ?_
        refine k_callVir C (As := []) (rest := [.int (nI (2 * i))]) 11 (m_X5_length l D cI cC cZ cB cJ ad N G2 11 x (by omega) hF2.2.2.2.1) gX6_readArrival_X5_length rfl kd_X5_length rfl rfl ⟨Nat.le_of_ble_eq_true rfl, Nat.le_of_ble_eq_true rfl⟩ (by omega) hF2.2.2.2.1.1 rfl rfl rfl (Nat.le_of_ble_eq_true rfl) ⟨Nat.zero_le _, Nat.zero_le _⟩ dX6_readArrival_33 ?_
        refine k_icmp_ge C 102 dX6_readArrival_36 (by decide) (fun c_36 => ?_) (fun c_36 => ?_)
        · skip
          have hj2 : txN x ≤ 2 * i := by have := (nI_leI (by omega) (by omega)).mp c_36; exact this
          have hi2 : i = raK x := by omega
          refine k_iconst C (v := 1) dX6_readArrival_102 (by decide) ?_
          exact k_iret C hQ rfl (by decide) dX6_readArrival_103 ⟨by rw [jArr, e_7, ← hi2, hok]; rfl, _, ⟨hF2.1, hF2.2.1, hF2.2.2.1, hF2.2.2.2.1, hF2.2.2.2.2.1, hF2.2.2.2.2.2.1, hF2.2.2.2.2.2.2⟩, fun _ => by rw [← hi2]; exact hw2, fun j hj => hfr j hj⟩
        · skip
          have hj2 : 2 * i < txN x := Nat.lt_of_not_le (fun h9 => c_36 (nI_le h9 (by omega)))
          have hi3 : i < raK x := by omega
          refine k_aload_n C dX6_readArrival_39 rfl (j := 0) rfl ?_
          refine k_get C 0 inX6_readArrival_6 (by omega) hF2.1 rfl 2 (by decide) (List.mem_of_getElem? (i := 1) rfl) rfl rfl dX6_readArrival_40 ?_
          refine k_iload_n C dX6_readArrival_43 rfl (j := 1) rfl ?_
          refine k_callVir C (As := [.int (nI (2 * i))]) (rest := []) 11 (m_X5_codeAt l D cI cC cZ cB cJ ad N G2 11 x (nI (2 * i)) (by omega) hF2.2.2.2.1) gX6_readArrival_X5_codeAt rfl kd_X5_codeAt rfl rfl ⟨Nat.le_of_ble_eq_true rfl, Nat.le_of_ble_eq_true rfl⟩ (by omega) hF2.2.2.2.1.1 rfl rfl rfl (Nat.le_of_ble_eq_true rfl) ⟨Nat.zero_le _, Nat.zero_le _⟩ dX6_readArrival_44 ?_
          refine k_bipush C (v := 97) dX6_readArrival_47 (by decide) ?_
          refine k_isub C dX6_readArrival_49 ?_
          refine k_istore_n C (lv' := [(2, .int ((txAt x (nI (2 * i))) - 97)), (0, .ref (ad 0)), (1, .int (nI (2 * i)))]) dX6_readArrival_50 rfl (by decide) rfl ?_
          refine k_aload_n C dX6_readArrival_51 rfl (j := 1) rfl ?_
          refine k_get C 0 inX6_readArrival_6 (by omega) hF2.1 rfl 0 (by decide) (List.mem_of_getElem? (i := 3) rfl) rfl rfl dX6_readArrival_52 ?_
          refine k_iload_n C dX6_readArrival_55 rfl (j := 0) rfl ?_
          refine k_callVir C (As := [.int ((txAt x (nI (2 * i))) - 97)]) (rest := []) 1 (m_X1_runs l D cI cC cZ cB cJ ad N G2 1 v ((txAt x (nI (2 * i))) - 97) (by omega) hF2.2.1) gX6_readArrival_X1_runs rfl kd_X1_runs rfl rfl ⟨Nat.le_of_ble_eq_true rfl, Nat.le_of_ble_eq_true rfl⟩ (by omega) hF2.2.1.1 rfl rfl rfl (Nat.le_of_ble_eq_true rfl) ⟨Nat.zero_le _, Nat.zero_le _⟩ dX6_readArrival_56 ?_
          refine k_if_ne C 64 dX6_readArrival_59 (by decide) (fun c_59 => ?_) (fun c_59 => ?_)
          · skip
            have e_59 : jRuns v (raH x i) = true := bI_t c_59
            have hok2 : raOk v x (i + 1) = true := by rw [raOk, hok, e_59]; rfl
            refine k_aload_n C dX6_readArrival_64 rfl (j := 1) rfl ?_
            refine k_get C 0 inX6_readArrival_6 (by omega) hF2.1 rfl 1 (by decide) (List.mem_of_getElem? (i := 2) rfl) rfl rfl dX6_readArrival_65 ?_
            refine k_iload_n C dX6_readArrival_68 rfl (j := 0) rfl ?_
            refine k_iload_n C dX6_readArrival_69 rfl (j := 2) rfl ?_
            refine k_if_le C 92 dX6_readArrival_70 (by decide) (fun c_70 => ?_) (fun c_70 => ?_)
            · skip
              have ht9 : raT x i = false := by
                have : ¬ 0 < i := fun h9 => nI_nle (n := 2 * i) (by omega) (by omega) c_70
                simp [raT, this]
              refine k_iconst C (v := 0) dX6_readArrival_92 (by decide) ?_
              refine k_callVv C (As := [.int ((txAt x (nI (2 * i))) - 97), .int 0]) (rest := []) 8 (m_X0_arrive l D cI cC cZ cB cJ ad N G2 8 w2 ((txAt x (nI (2 * i))) - 97) false (by omega) hF2.2.2.1) gX6_readArrival_X0_arrive rfl kd_X0_arrive rfl rfl ⟨Nat.le_of_ble_eq_true rfl, Nat.le_of_ble_eq_true rfl⟩ (by omega) hF2.2.2.1.1 rfl rfl rfl (Nat.le_of_ble_eq_true rfl) ⟨Nat.zero_le _, Nat.zero_le _⟩ dX6_readArrival_93 (fun G2 hG2 => ?_)
              have hb_B_G2 := hF2.2.1.keep (fun j h8 h9 => hG2.2 j (by omega))
              have hb_A_G2 := hG2.1
              have hb_X_G2 := hF2.2.2.2.1.keep (fun j h8 h9 => hG2.2 j (by omega))
              have hb_H_G2 := hF2.2.2.2.2.1.keep (fun j h8 h9 => hG2.2 j (by omega))
              have hb_Z0_G2 := hF2.2.2.2.2.2.1.keep (fun j h8 h9 => hG2.2 j (by omega))
              have hb_Z1_G2 := hF2.2.2.2.2.2.2.keep (fun j h8 h9 => hG2.2 j (by omega))
              have h_0_G2 : G2 0 = .inr (6, [.ref (ad 1), .ref (ad 8), .ref (ad 11), .ref (ad 13), .ref (ad 57), .ref (ad 65)]) := (hG2.2 0 (by omega)).trans hF2.1
              refine k_iinc C (v := nI (2 * (i + 1))) (lv' := [(1, .int (nI (2 * (i + 1)))), (2, .int ((txAt x (nI (2 * i))) - 97)), (0, .ref (ad 0))]) dX6_readArrival_96 (j := 2) rfl (by rw [show (Int32.ofInt 2) = nI 2 from rfl, nI_add]; exact congrArg nI (by omega)) (by decide) rfl ?_
              refine k_goto C 28 dX6_readArrival_99 (by decide) ?_
              exact k_sub [2, 0] rfl (ih28 (i + 1) (aArrive w2 ((txAt x (nI (2 * i))) - 97) false) G2 (by omega) (by omega) ⟨h_0_G2, hb_B_G2, hb_A_G2, hb_X_G2, hb_H_G2, hb_Z0_G2, hb_Z1_G2⟩ (by rw [raA, ht9]; exact aEq_arrive hw2 _ _) hok2 (fun j hj => (hG2.2 j (by omega) : _).trans (hfr j hj)))
            · skip
              have hp9 : 0 < i := by
                rcases Nat.eq_zero_or_pos i with h9 | h9
                · exact absurd (by rw [h9]; decide) c_70
                · exact h9
              refine k_aload_n C dX6_readArrival_73 rfl (j := 1) rfl ?_
              refine k_get C 0 inX6_readArrival_6 (by omega) hF2.1 rfl 2 (by decide) (List.mem_of_getElem? (i := 1) rfl) rfl rfl dX6_readArrival_74 ?_
              refine k_iload_n C dX6_readArrival_77 rfl (j := 2) rfl ?_
              refine k_iconst C (v := 1) dX6_readArrival_78 (by decide) ?_
              refine k_isub C dX6_readArrival_79 ?_
              refine k_callVir C (As := [.int ((nI (2 * i)) - 1)]) (rest := [.int ((txAt x (nI (2 * i))) - 97), .ref (ad 8)]) 11 (m_X5_codeAt l D cI cC cZ cB cJ ad N G2 11 x ((nI (2 * i)) - 1) (by omega) hF2.2.2.2.1) gX6_readArrival_X5_codeAt rfl kd_X5_codeAt rfl rfl ⟨Nat.le_of_ble_eq_true rfl, Nat.le_of_ble_eq_true rfl⟩ (by omega) hF2.2.2.2.1.1 rfl rfl rfl (Nat.le_of_ble_eq_true rfl) ⟨Nat.zero_le _, Nat.zero_le _⟩ dX6_readArrival_80 ?_
              refine k_bipush C (v := 61) dX6_readArrival_83 (by decide) ?_
              refine k_icmp_ne C 92 dX6_readArrival_85 (by decide) (fun c_85 => ?_) (fun c_85 => ?_)
              · skip
                have ht9 : raT x i = false := by simp [raT, c_85]
                refine k_iconst C (v := 0) dX6_readArrival_92 (by decide) ?_
                refine k_callVv C (As := [.int ((txAt x (nI (2 * i))) - 97), .int 0]) (rest := []) 8 (m_X0_arrive l D cI cC cZ cB cJ ad N G2 8 w2 ((txAt x (nI (2 * i))) - 97) false (by omega) hF2.2.2.1) gX6_readArrival_X0_arrive rfl kd_X0_arrive rfl rfl ⟨Nat.le_of_ble_eq_true rfl, Nat.le_of_ble_eq_true rfl⟩ (by omega) hF2.2.2.1.1 rfl rfl rfl (Nat.le_of_ble_eq_true rfl) ⟨Nat.zero_le _, Nat.zero_le _⟩ dX6_readArrival_93 (fun G3 hG3 => ?_)
                have hb_B_G3 := hF2.2.1.keep (fun j h8 h9 => hG3.2 j (by omega))
                have hb_A_G3 := hG3.1
                have hb_X_G3 := hF2.2.2.2.1.keep (fun j h8 h9 => hG3.2 j (by omega))
                have hb_H_G3 := hF2.2.2.2.2.1.keep (fun j h8 h9 => hG3.2 j (by omega))
                have hb_Z0_G3 := hF2.2.2.2.2.2.1.keep (fun j h8 h9 => hG3.2 j (by omega))
                have hb_Z1_G3 := hF2.2.2.2.2.2.2.keep (fun j h8 h9 => hG3.2 j (by omega))
                have h_0_G3 : G3 0 = .inr (6, [.ref (ad 1), .ref (ad 8), .ref (ad 11), .ref (ad 13), .ref (ad 57), .ref (ad 65)]) := (hG3.2 0 (by omega)).trans hF2.1
                refine k_iinc C (v := nI (2 * (i + 1))) (lv' := [(1, .int (nI (2 * (i + 1)))), (2, .int ((txAt x (nI (2 * i))) - 97)), (0, .ref (ad 0))]) dX6_readArrival_96 (j := 2) rfl (by rw [show (Int32.ofInt 2) = nI 2 from rfl, nI_add]; exact congrArg nI (by omega)) (by decide) rfl ?_
                refine k_goto C 28 dX6_readArrival_99 (by decide) ?_
                exact k_sub [2, 0] rfl (ih28 (i + 1) (aArrive w2 ((txAt x (nI (2 * i))) - 97) false) G3 (by omega) (by omega) ⟨h_0_G3, hb_B_G3, hb_A_G3, hb_X_G3, hb_H_G3, hb_Z0_G3, hb_Z1_G3⟩ (by rw [raA, ht9]; exact aEq_arrive hw2 _ _) hok2 (fun j hj => (hG3.2 j (by omega) : _).trans (hfr j hj)))
              · skip
                have ht9 : raT x i = true := by simp [raT, hp9, c_85]
                refine k_iconst C (v := 1) dX6_readArrival_88 (by decide) ?_
                refine k_goto C 93 dX6_readArrival_89 (by decide) ?_
                refine k_callVv C (As := [.int ((txAt x (nI (2 * i))) - 97), .int 1]) (rest := []) 8 (m_X0_arrive l D cI cC cZ cB cJ ad N G2 8 w2 ((txAt x (nI (2 * i))) - 97) true (by omega) hF2.2.2.1) gX6_readArrival_X0_arrive rfl kd_X0_arrive rfl rfl ⟨Nat.le_of_ble_eq_true rfl, Nat.le_of_ble_eq_true rfl⟩ (by omega) hF2.2.2.1.1 rfl rfl rfl (Nat.le_of_ble_eq_true rfl) ⟨Nat.zero_le _, Nat.zero_le _⟩ dX6_readArrival_93 (fun G4 hG4 => ?_)
                have hb_B_G4 := hF2.2.1.keep (fun j h8 h9 => hG4.2 j (by omega))
                have hb_A_G4 := hG4.1
                have hb_X_G4 := hF2.2.2.2.1.keep (fun j h8 h9 => hG4.2 j (by omega))
                have hb_H_G4 := hF2.2.2.2.2.1.keep (fun j h8 h9 => hG4.2 j (by omega))
                have hb_Z0_G4 := hF2.2.2.2.2.2.1.keep (fun j h8 h9 => hG4.2 j (by omega))
                have hb_Z1_G4 := hF2.2.2.2.2.2.2.keep (fun j h8 h9 => hG4.2 j (by omega))
                have h_0_G4 : G4 0 = .inr (6, [.ref (ad 1), .ref (ad 8), .ref (ad 11), .ref (ad 13), .ref (ad 57), .ref (ad 65)]) := (hG4.2 0 (by omega)).trans hF2.1
                refine k_iinc C (v := nI (2 * (i + 1))) (lv' := [(1, .int (nI (2 * (i + 1)))), (2, .int ((txAt x (nI (2 * i))) - 97)), (0, .ref (ad 0))]) dX6_readArrival_96 (j := 2) rfl (by rw [show (Int32.ofInt 2) = nI 2 from rfl, nI_add]; exact congrArg nI (by omega)) (by decide) rfl ?_
                refine k_goto C 28 dX6_readArrival_99 (by decide) ?_
                exact k_sub [2, 0] rfl (ih28 (i + 1) (aArrive w2 ((txAt x (nI (2 * i))) - 97) true) G4 (by omega) (by omega) ⟨h_0_G4, hb_B_G4, hb_A_G4, hb_X_G4, hb_H_G4, hb_Z0_G4, hb_Z1_G4⟩ (by rw [raA, ht9]; exact aEq_arrive hw2 _ _) hok2 (fun j hj => (hG4.2 j (by omega) : _).trans (hfr j hj)))
          · skip
            have e_59 : jRuns v (raH x i) = false := bI_f c_59
            have hno : jArr v x = false := by rw [jArr, raOk_no e_59 hi3]; simp
            refine k_iconst C (v := 0) dX6_readArrival_62 (by decide) ?_
            exact k_iret C hQ rfl (by decide) dX6_readArrival_63 ⟨by rw [hno]; rfl, _, ⟨hF2.1, hF2.2.1, hF2.2.2.1, hF2.2.2.2.1, hF2.2.2.2.2.1, hF2.2.2.2.2.2.1, hF2.2.2.2.2.2.2⟩, fun h9 => by rw [hno] at h9; exact absurd h9 (by decide), fun j hj => hfr j hj⟩
    exact k_sub [1, 0] rfl (loop28 (raK x + 1) 0 (aBegin w (jPlaces v)) G1 (by omega) (Nat.zero_le _) ⟨h_0_G1, hb_B_G1, hb_A_G1, hb_X_G1, hb_H_G1, hb_Z0_G1, hb_Z1_G1⟩ (aEq_begin _ _ _) rfl (fun j hj => hG1.2 j (by omega)))
  · skip
    have e_7 := bI_f c_7
    refine k_iconst C (v := 0) dX6_readArrival_10 (by decide) ?_
    exact k_iret C hQ rfl (by decide) dX6_readArrival_11 ⟨by rw [jArr, e_7]; rfl, _, ⟨hF.1, hF.2.1, hF.2.2.1, hF.2.2.2.1, hF.2.2.2.2.1, hF.2.2.2.2.2.1, hF.2.2.2.2.2.2⟩, fun h9 => by rw [jArr, e_7] at h9; exact absurd h9 (by simp), fun _ _ => rfl⟩
theorem inX6_ifArrived_6 : ∀ w ∈ wsX60, w ∈ wsX6_ifArrived := fun _ h => List.mem_cons_of_mem _ (List.mem_append_left _ (List.mem_append_left _ (List.mem_append_left _ (List.mem_append_left _ (List.mem_append_right _ h)))))
theorem inX6_ifArrived_5 : ∀ w ∈ wsX50, w ∈ wsX6_ifArrived := fun _ h => List.mem_cons_of_mem _ (List.mem_append_left _ (List.mem_append_left _ (List.mem_append_left _ (List.mem_append_right _ h))))
theorem inX6_ifArrived_1 : ∀ w ∈ wsX10, w ∈ wsX6_ifArrived := fun _ h => List.mem_cons_of_mem _ (List.mem_append_left _ (List.mem_append_left _ (List.mem_append_right _ h)))
theorem inX6_ifArrived_4 : ∀ w ∈ wsX40, w ∈ wsX6_ifArrived := fun _ h => List.mem_cons_of_mem _ (List.mem_append_left _ (List.mem_append_right _ h))
theorem inX6_ifArrived_0 : ∀ w ∈ wsX00, w ∈ wsX6_ifArrived := fun _ h => List.mem_cons_of_mem _ (List.mem_append_right _ h)
theorem kd_X6_ifArrived : yX6_ifArrived.cls = RX6 ∧ yX6_ifArrived.cls ≠ "java/lang/invoke/MethodHandle" ∧ yX6_ifArrived.cls ≠ "java/lang/invoke/VarHandle" ∧ (parseMethodDescriptor yX6_ifArrived.desc).map (fun d => d.parameters.length) = some 0 := by decide +kernel
abbrev rX6_ifArrived : Room := ({ frames := 5, cells := 0, slots := 0, locals := 110 } : Room)
set_option maxRecDepth 100000 in
set_option maxHeartbeats 4000000 in
/-- ifArrived -/
theorem m_X6_ifArrived (l : Launch) (D : va_G) (cI cC cZ cB cJ : ClassId) (ad : Nat → Nat) (N : Nat) (G : Nat → va_E) (v : BV) (w : AV) (x : TV) (hi : HV) (z0 z1 : ZV) (hN : 73 ≤ N) (hF : isFB ad cI cB G v w x hi z0 z1) : kMi l yX6_ifArrived wsX6_ifArrived rX6_ifArrived D (kT5 cI cC cZ cB cJ) ad N G [.ref (ad 0)] (fun r G' => r = jIf v x ∧ ∃ w', isFB ad cI cB G' v w' x hi z0 z1 ∧ ∀ j, 73 ≤ j → G' j = G j) := by
  refine k_starti (cc := cX6_ifArrived) (ret := (some .int)) (maxL := 1) (lv0 := [(0, .ref (ad 0))]) (by decide) rfl (Nat.le_of_ble_eq_true rfl) rfl ?_
  intro p e s m args below meth c A Q C hQ
  have hlH := hF.2.1.2.2.2.2.1
  have hlB := hF.2.1.2.2.2.2.2.1
  have hlL := hF.2.1.2.2.2.2.2.2
  have hlX := hF.2.2.2.1.2.2
  have hlN := hF.2.2.2.2.1.2.2.2.1
  have hlZ := hF.2.2.2.2.1.2.2.2.2
  refine k_aload_n C dX6_ifArrived_0 rfl (j := 0) rfl ?_
  refine k_callVi C (As := []) (rest := []) 0 (m_X6_readArrival l D cI cC cZ cB cJ ad N G v w x hi z0 z1 (by omega) ⟨hF.1, hF.2.1, hF.2.2.1, hF.2.2.2.1, hF.2.2.2.2.1, hF.2.2.2.2.2.1, hF.2.2.2.2.2.2⟩ ) gX6_ifArrived_X6_readArrival rfl kd_X6_readArrival rfl rfl ⟨Nat.le_of_ble_eq_true rfl, Nat.le_of_ble_eq_true rfl⟩ (by omega) hF.1 rfl rfl rfl (Nat.le_of_ble_eq_true rfl) ⟨Nat.zero_le _, Nat.zero_le _⟩ dX6_ifArrived_1 (fun r_1 G1 hG1 => ?_)
  obtain ⟨e_r_1, w_G1, hF_G1, hra, hfr_G1⟩ := hG1
  subst e_r_1
  refine k_if_eq C 21 dX6_ifArrived_4 (by decide) (fun c_4 => ?_) (fun c_4 => ?_)
  · skip
    have e_4 := bI_f c_4
    refine k_iconst C (v := (-1)) dX6_ifArrived_21 (by decide) ?_
    exact k_iret C hQ rfl rfl dX6_ifArrived_22 ⟨by rw [jIf, if_neg (by rw [e_4]; decide)], _, ⟨hF_G1.1, hF_G1.2.1, hF_G1.2.2.1, hF_G1.2.2.2.1, hF_G1.2.2.2.2.1, hF_G1.2.2.2.2.2.1, hF_G1.2.2.2.2.2.2⟩, fun j hj => hfr_G1 j (by omega)⟩
  · skip
    have e_4 := bI_t c_4
    refine k_aload_n C dX6_ifArrived_7 rfl (j := 0) rfl ?_
    refine k_get C 0 inX6_ifArrived_6 (by omega) hF_G1.1 rfl 0 (by decide) (List.mem_of_getElem? (i := 1) rfl) rfl rfl dX6_ifArrived_8 ?_
    refine k_aload_n C dX6_ifArrived_11 rfl (j := 0) rfl ?_
    refine k_get C 0 inX6_ifArrived_6 (by omega) hF_G1.1 rfl 1 (by decide) (List.mem_of_getElem? (i := 2) rfl) rfl rfl dX6_ifArrived_12 ?_
    refine k_callVir C (As := [.ref (ad 8)]) (rest := []) 1 (m_X1_wouldWin l D cI cC cZ cB cJ ad N G1 1 v 8 w_G1 (by omega) hF_G1.2.1 (by omega) hF_G1.2.2.1) gX6_ifArrived_X1_wouldWin rfl kd_X1_wouldWin rfl rfl ⟨Nat.le_of_ble_eq_true rfl, Nat.le_of_ble_eq_true rfl⟩ (by omega) hF_G1.2.1.1 rfl rfl rfl (Nat.le_of_ble_eq_true rfl) ⟨Nat.zero_le _, Nat.zero_le _⟩ dX6_ifArrived_15 ?_
    refine k_goto C 22 dX6_ifArrived_18 (by decide) ?_
    exact k_iret C hQ rfl rfl dX6_ifArrived_22 ⟨by rw [jIf, if_pos e_4, jWould_eq (hra e_4)], _, ⟨hF_G1.1, hF_G1.2.1, hF_G1.2.2.1, hF_G1.2.2.2.1, hF_G1.2.2.2.2.1, hF_G1.2.2.2.2.2.1, hF_G1.2.2.2.2.2.2⟩, fun j hj => hfr_G1 j (by omega)⟩
theorem inX6_worst_6 : ∀ w ∈ wsX60, w ∈ wsX6_worst := fun _ h => List.mem_cons_of_mem _ (List.mem_append_left _ (List.mem_append_left _ (List.mem_append_left _ (List.mem_append_right _ h))))
theorem inX6_worst_1 : ∀ w ∈ wsX10, w ∈ wsX6_worst := fun _ h => List.mem_cons_of_mem _ (List.mem_append_left _ (List.mem_append_left _ (List.mem_append_right _ h)))
theorem inX6_worst_4 : ∀ w ∈ wsX40, w ∈ wsX6_worst := fun _ h => List.mem_cons_of_mem _ (List.mem_append_left _ (List.mem_append_right _ h))
theorem inX6_worst_0 : ∀ w ∈ wsX00, w ∈ wsX6_worst := fun _ h => List.mem_cons_of_mem _ (List.mem_append_right _ h)
theorem kd_X6_worst : yX6_worst.cls = RX6 ∧ yX6_worst.cls ≠ "java/lang/invoke/MethodHandle" ∧ yX6_worst.cls ≠ "java/lang/invoke/VarHandle" ∧ (parseMethodDescriptor yX6_worst.desc).map (fun d => d.parameters.length) = some 0 := by decide +kernel
abbrev rX6_worst : Room := ({ frames := 5, cells := 0, slots := 0, locals := 117 } : Room)
set_option maxRecDepth 100000 in
set_option maxHeartbeats 4000000 in
/-- worst -/
theorem m_X6_worst (l : Launch) (D : va_G) (cI cC cZ cB cJ : ClassId) (ad : Nat → Nat) (N : Nat) (G : Nat → va_E) (v : BV) (w : AV) (x : TV) (hi : HV) (z0 z1 : ZV) (hN : 73 ≤ N) (hF : isFB ad cI cB G v w x hi z0 z1) : kMi l yX6_worst wsX6_worst rX6_worst D (kT5 cI cC cZ cB cJ) ad N G [.ref (ad 0)] (fun r G' => r = (jWst v (bnH v)).1 ∧ ∃ w', isFB ad cI cB G' v w' x hi z0 z1 ∧ ∀ j, 73 ≤ j → G' j = G j) := by
  refine k_starti (cc := cX6_worst) (ret := (some .int)) (maxL := 5) (lv0 := [(0, .ref (ad 0))]) (by decide) rfl (Nat.le_of_ble_eq_true rfl) rfl ?_
  intro p e s m args below meth c A Q C hQ
  have hlH := hF.2.1.2.2.2.2.1
  have hlB := hF.2.1.2.2.2.2.2.1
  have hlL := hF.2.1.2.2.2.2.2.2
  have hlX := hF.2.2.2.1.2.2
  have hlN := hF.2.2.2.2.1.2.2.2.1
  have hlZ := hF.2.2.2.2.1.2.2.2.2
  refine k_iconst C (v := (-1)) dX6_worst_0 (by decide) ?_
  refine k_istore_n C (lv' := [(1, .int ((-1))), (0, .ref (ad 0))]) dX6_worst_1 rfl (by decide) rfl ?_
  refine k_iconst C (v := 0) dX6_worst_2 (by decide) ?_
  refine k_istore_n C (lv' := [(2, .int 0), (1, .int ((-1))), (0, .ref (ad 0))]) dX6_worst_3 rfl (by decide) rfl ?_
  refine k_iconst C (v := 0) dX6_worst_4 (by decide) ?_
  refine k_istore_n C (lv' := [(3, .int 0), (2, .int 0), (1, .int ((-1))), (0, .ref (ad 0))]) dX6_worst_5 rfl (by decide) rfl ?_
  have loop6 : ∀ (k : Nat) (i : Nat) (w2 : AV) (G2 : Nat → va_E), (bnH v + 1 ≤ i + k) → (i ≤ bnH v) → (isFB ad cI cB G2 v w2 x hi z0 z1) → (∀ j, 73 ≤ j → G2 j = G j) → kJ p l e rX6_worst s m args below meth c 0 0 Q 5 D ad N A G2 6 [(0, .ref (ad 0)), (1, .int ((jWst v i).1)), (2, .int ((jWst v i).2)), (3, .int (nI i))] [] := by
    intro k
    induction k with
    | zero => intro i w2 G2 h1 h2 hF2 hfr; exact absurd h1 (by omega)
    | succ k ih6 =>
      intro i w2 G2 h1 h2 hF2 hfr
      refine k_iload_n C dX6_worst_6 rfl (j := 3) rfl ?_
      refine k_aload_n C dX6_worst_7 rfl (j := 0) rfl ?_
      refine k_get C 0 inX6_worst_6 (by omega) hF2.1 rfl 0 (by decide) (List.mem_of_getElem? (i := 1) rfl) rfl rfl dX6_worst_8 ?_
      refine k_get C 1 inX6_worst_1 (by omega) hF2.2.1.1 rfl 0 (by decide) (List.mem_of_getElem? (i := 2) rfl) rfl rfl dX6_worst_11 ?_
      refine k_callVir C (As := []) (rest := [.int (nI i)]) 2 (m_X4_size l D cI cC cZ cB cJ ad N G2 2 3 9 (nI (bnH v)) 90 (bvh v) (by omega) (by omega) hF2.2.1.2.1.1 hF2.2.1.2.1.2 (Nat.le_of_ble_eq_true rfl)) gX6_worst_X4_size rfl kd_X4_size rfl rfl ⟨Nat.le_of_ble_eq_true rfl, Nat.le_of_ble_eq_true rfl⟩ (by omega) hF2.2.1.2.1.1 rfl rfl rfl (Nat.le_of_ble_eq_true rfl) ⟨Nat.zero_le _, Nat.zero_le _⟩ dX6_worst_14 ?_
      refine k_icmp_ge C 60 dX6_worst_17 (by decide) (fun c_17 => ?_) (fun c_17 => ?_)
      · skip
        have hi2 : i = bnH v := k_ge c_17 (by omega) h2
        refine k_iload_n C dX6_worst_60 rfl (j := 1) rfl ?_
        exact k_iret C hQ rfl rfl dX6_worst_61 ⟨by rw [hi2], _, ⟨hF2.1, hF2.2.1, hF2.2.2.1, hF2.2.2.2.1, hF2.2.2.2.2.1, hF2.2.2.2.2.2.1, hF2.2.2.2.2.2.2⟩, fun j hj => hfr j hj⟩
      · skip
        have hi2 : i < bnH v := k_lt c_17 (by omega) h2
        refine k_aload_n C dX6_worst_20 rfl (j := 0) rfl ?_
        refine k_get C 0 inX6_worst_6 (by omega) hF2.1 rfl 0 (by decide) (List.mem_of_getElem? (i := 1) rfl) rfl rfl dX6_worst_21 ?_
        refine k_iload_n C dX6_worst_24 rfl (j := 3) rfl ?_
        refine k_callVir C (As := [.int (nI i)]) (rest := []) 1 (m_X1_runs l D cI cC cZ cB cJ ad N G2 1 v (nI i) (by omega) hF2.2.1) gX6_worst_X1_runs rfl kd_X1_runs rfl rfl ⟨Nat.le_of_ble_eq_true rfl, Nat.le_of_ble_eq_true rfl⟩ (by omega) hF2.2.1.1 rfl rfl rfl (Nat.le_of_ble_eq_true rfl) ⟨Nat.zero_le _, Nat.zero_le _⟩ dX6_worst_25 ?_
        refine k_if_eq C 54 dX6_worst_28 (by decide) (fun c_28 => ?_) (fun c_28 => ?_)
        · skip
          have hs1 : jWst v i = jWst v (i + 1) := by simp [jWst, bI_f c_28]
          refine k_cong (lv' := [(0, .ref (ad 0)), (1, .int ((jWst v (i + 1)).1)), (2, .int ((jWst v (i + 1)).2)), (3, .int (nI i))]) (by rw [← hs1]) ?_
          refine k_iinc C (v := nI (i + 1)) (lv' := [(3, .int (nI (i + 1))), (0, .ref (ad 0)), (1, .int ((jWst v (i + 1)).1)), (2, .int ((jWst v (i + 1)).2))]) dX6_worst_54 (j := 3) rfl (nI_1 i) (by decide) rfl ?_
          refine k_goto C 6 dX6_worst_57 (by decide) ?_
          exact k_sub [1, 2, 3, 0] rfl (ih6 (i + 1) w2 G2 (by omega) (by omega) ⟨hF2.1, hF2.2.1, hF2.2.2.1, hF2.2.2.2.1, hF2.2.2.2.2.1, hF2.2.2.2.2.2.1, hF2.2.2.2.2.2.2⟩ (fun j hj => hfr j hj))
        · skip
          refine k_aload_n C dX6_worst_31 rfl (j := 0) rfl ?_
          refine k_iload_n C dX6_worst_32 rfl (j := 3) rfl ?_
          refine k_callVi C (As := [.int (nI i)]) (rest := []) 0 (m_X6_wouldWinWith l D cI cC cZ cB cJ ad N G2 v w2 x hi z0 z1 (nI i) (by omega) ⟨hF2.1, hF2.2.1, hF2.2.2.1, hF2.2.2.2.1, hF2.2.2.2.2.1, hF2.2.2.2.2.2.1, hF2.2.2.2.2.2.2⟩ ) gX6_worst_X6_wouldWinWith rfl kd_X6_wouldWinWith rfl rfl ⟨Nat.le_of_ble_eq_true rfl, Nat.le_of_ble_eq_true rfl⟩ (by omega) hF2.1 rfl rfl rfl (Nat.le_of_ble_eq_true rfl) ⟨Nat.zero_le _, Nat.zero_le _⟩ dX6_worst_33 (fun r_33 G1 hG1 => ?_)
          obtain ⟨e_r_33, w_G1, hF_G1, hfr_G1⟩ := hG1
          subst e_r_33
          refine k_istore C (lv' := [(4, .int (jWW v (nI i))), (0, .ref (ad 0)), (1, .int ((jWst v i).1)), (2, .int ((jWst v i).2)), (3, .int (nI i))]) dX6_worst_36 (by decide) rfl ?_
          refine k_iload_n C dX6_worst_38 rfl (j := 2) rfl ?_
          refine k_iconst C (v := (-1)) dX6_worst_39 (by decide) ?_
          refine k_icmp_eq C 49 dX6_worst_40 (by decide) (fun c_40 => ?_) (fun c_40 => ?_)
          · skip
            have hs1 : (nI i, jWW v (nI i)) = jWst v (i + 1) := by simp [jWst, bI_t c_28, c_40]
            refine k_iload_n C dX6_worst_49 rfl (j := 4) rfl ?_
            refine k_istore_n C (lv' := [(1, .int (nI i)), (4, .int (jWW v (nI i))), (0, .ref (ad 0)), (2, .int ((jWst v i).2)), (3, .int (nI i))]) dX6_worst_50 rfl (by decide) rfl ?_
            refine k_iload C dX6_worst_51 (j := 1) rfl ?_
            refine k_istore_n C (lv' := [(2, .int (jWW v (nI i))), (1, .int (nI i)), (4, .int (jWW v (nI i))), (0, .ref (ad 0)), (3, .int (nI i))]) dX6_worst_53 rfl (by decide) rfl ?_
            refine k_cong (lv' := [(2, .int ((jWst v (i + 1)).2)), (1, .int ((jWst v (i + 1)).1)), (4, .int (jWW v (nI i))), (0, .ref (ad 0)), (3, .int (nI i))]) (by rw [← hs1]) ?_
            refine k_iinc C (v := nI (i + 1)) (lv' := [(3, .int (nI (i + 1))), (2, .int ((jWst v (i + 1)).2)), (1, .int ((jWst v (i + 1)).1)), (4, .int (jWW v (nI i))), (0, .ref (ad 0))]) dX6_worst_54 (j := 4) rfl (nI_1 i) (by decide) rfl ?_
            refine k_goto C 6 dX6_worst_57 (by decide) ?_
            exact k_sub [4, 2, 1, 0] rfl (ih6 (i + 1) w_G1 G1 (by omega) (by omega) ⟨hF_G1.1, hF_G1.2.1, hF_G1.2.2.1, hF_G1.2.2.2.1, hF_G1.2.2.2.2.1, hF_G1.2.2.2.2.2.1, hF_G1.2.2.2.2.2.2⟩ (fun j hj => (hfr_G1 j (by omega) : _).trans (hfr j hj)))
          · skip
            refine k_iload C dX6_worst_43 (j := 0) rfl ?_
            refine k_iload_n C dX6_worst_45 rfl (j := 3) rfl ?_
            refine k_icmp_ge C 54 dX6_worst_46 (by decide) (fun c_46 => ?_) (fun c_46 => ?_)
            · skip
              have hs1 : jWst v i = jWst v (i + 1) := by
                have h9 : ¬ jWW v (nI i) < (jWst v i).2 := fun h8 => absurd c_46 (Int32.not_le.mpr h8)
                simp [jWst, bI_t c_28, c_40, h9]
              refine k_cong (lv' := [(4, .int (jWW v (nI i))), (0, .ref (ad 0)), (1, .int ((jWst v (i + 1)).1)), (2, .int ((jWst v (i + 1)).2)), (3, .int (nI i))]) (by rw [← hs1]) ?_
              refine k_iinc C (v := nI (i + 1)) (lv' := [(3, .int (nI (i + 1))), (4, .int (jWW v (nI i))), (0, .ref (ad 0)), (1, .int ((jWst v (i + 1)).1)), (2, .int ((jWst v (i + 1)).2))]) dX6_worst_54 (j := 4) rfl (nI_1 i) (by decide) rfl ?_
              refine k_goto C 6 dX6_worst_57 (by decide) ?_
              exact k_sub [2, 3, 4, 0] rfl (ih6 (i + 1) w_G1 G1 (by omega) (by omega) ⟨hF_G1.1, hF_G1.2.1, hF_G1.2.2.1, hF_G1.2.2.2.1, hF_G1.2.2.2.2.1, hF_G1.2.2.2.2.2.1, hF_G1.2.2.2.2.2.2⟩ (fun j hj => (hfr_G1 j (by omega) : _).trans (hfr j hj)))
            · skip
              have hs1 : (nI i, jWW v (nI i)) = jWst v (i + 1) := by
                have h9 : jWW v (nI i) < (jWst v i).2 := Int32.not_le.mp c_46
                simp [jWst, bI_t c_28, c_40, h9]
              refine k_iload_n C dX6_worst_49 rfl (j := 4) rfl ?_
              refine k_istore_n C (lv' := [(1, .int (nI i)), (4, .int (jWW v (nI i))), (0, .ref (ad 0)), (2, .int ((jWst v i).2)), (3, .int (nI i))]) dX6_worst_50 rfl (by decide) rfl ?_
              refine k_iload C dX6_worst_51 (j := 1) rfl ?_
              refine k_istore_n C (lv' := [(2, .int (jWW v (nI i))), (1, .int (nI i)), (4, .int (jWW v (nI i))), (0, .ref (ad 0)), (3, .int (nI i))]) dX6_worst_53 rfl (by decide) rfl ?_
              refine k_cong (lv' := [(2, .int ((jWst v (i + 1)).2)), (1, .int ((jWst v (i + 1)).1)), (4, .int (jWW v (nI i))), (0, .ref (ad 0)), (3, .int (nI i))]) (by rw [← hs1]) ?_
              refine k_iinc C (v := nI (i + 1)) (lv' := [(3, .int (nI (i + 1))), (2, .int ((jWst v (i + 1)).2)), (1, .int ((jWst v (i + 1)).1)), (4, .int (jWW v (nI i))), (0, .ref (ad 0))]) dX6_worst_54 (j := 4) rfl (nI_1 i) (by decide) rfl ?_
              refine k_goto C 6 dX6_worst_57 (by decide) ?_
              exact k_sub [4, 2, 1, 0] rfl (ih6 (i + 1) w_G1 G1 (by omega) (by omega) ⟨hF_G1.1, hF_G1.2.1, hF_G1.2.2.1, hF_G1.2.2.2.1, hF_G1.2.2.2.2.1, hF_G1.2.2.2.2.2.1, hF_G1.2.2.2.2.2.2⟩ (fun j hj => (hfr_G1 j (by omega) : _).trans (hfr j hj)))
  exact k_sub [3, 2, 1, 0] rfl (loop6 (bnH v + 1) 0 w G (by omega) (Nat.zero_le _) ⟨hF.1, hF.2.1, hF.2.2.1, hF.2.2.2.1, hF.2.2.2.2.1, hF.2.2.2.2.2.1, hF.2.2.2.2.2.2⟩ (fun _ _ => rfl))
theorem inX6_mixedHorses_6 : ∀ w ∈ wsX60, w ∈ wsX6_mixedHorses := fun _ h => List.mem_cons_of_mem _ (List.mem_append_left _ (List.mem_append_left _ (List.mem_append_left _ (List.mem_append_right _ h))))
theorem inX6_mixedHorses_1 : ∀ w ∈ wsX10, w ∈ wsX6_mixedHorses := fun _ h => List.mem_cons_of_mem _ (List.mem_append_left _ (List.mem_append_left _ (List.mem_append_right _ h)))
theorem inX6_mixedHorses_4 : ∀ w ∈ wsX40, w ∈ wsX6_mixedHorses := fun _ h => List.mem_cons_of_mem _ (List.mem_append_left _ (List.mem_append_right _ h))
theorem inX6_mixedHorses_0 : ∀ w ∈ wsX00, w ∈ wsX6_mixedHorses := fun _ h => List.mem_cons_of_mem _ (List.mem_append_right _ h)
theorem kd_X6_mixedHorses : yX6_mixedHorses.cls = RX6 ∧ yX6_mixedHorses.cls ≠ "java/lang/invoke/MethodHandle" ∧ yX6_mixedHorses.cls ≠ "java/lang/invoke/VarHandle" ∧ (parseMethodDescriptor yX6_mixedHorses.desc).map (fun d => d.parameters.length) = some 1 := by decide +kernel
abbrev rX6_mixedHorses : Room := ({ frames := 5, cells := 0, slots := 0, locals := 117 } : Room)
set_option maxRecDepth 100000 in
set_option maxHeartbeats 4000000 in
/-- mixedHorses -/
theorem m_X6_mixedHorses (l : Launch) (D : va_G) (cI cC cZ cB cJ : ClassId) (ad : Nat → Nat) (N : Nat) (G : Nat → va_E) (v : BV) (w : AV) (x : TV) (hi : HV) (z0 z1 : ZV) (h : Int64) (hN : 73 ≤ N) (hF : isFB ad cI cB G v w x hi z0 z1) : kMl l yX6_mixedHorses wsX6_mixedHorses rX6_mixedHorses D (kT5 cI cC cZ cB cJ) ad N G [.ref (ad 0), .long h] (fun r G' => r = jHor v h (bnH v) ∧ ∃ w', isFB ad cI cB G' v w' x hi z0 z1 ∧ ∀ j, 73 ≤ j → G' j = G j) := by
  refine k_startl (cc := cX6_mixedHorses) (ret := (some .long)) (maxL := 7) (lv0 := [(0, .ref (ad 0)), (1, .long h)]) (by decide) rfl (Nat.le_of_ble_eq_true rfl) rfl ?_
  intro p e s m args below meth c A Q C hQ
  have hlH := hF.2.1.2.2.2.2.1
  have hlB := hF.2.1.2.2.2.2.2.1
  have hlL := hF.2.1.2.2.2.2.2.2
  have hlX := hF.2.2.2.1.2.2
  have hlN := hF.2.2.2.2.1.2.2.2.1
  have hlZ := hF.2.2.2.2.1.2.2.2.2
  refine k_lload_n C dX6_mixedHorses_0 rfl (j := 1) rfl ?_
  refine k_lstore_n C (lv' := [(3, .long h), (0, .ref (ad 0)), (1, .long h)]) dX6_mixedHorses_1 rfl (by decide) rfl ?_
  refine k_iconst C (v := 0) dX6_mixedHorses_2 (by decide) ?_
  refine k_istore C (lv' := [(5, .int 0), (3, .long h), (0, .ref (ad 0)), (1, .long h)]) dX6_mixedHorses_3 (by decide) rfl ?_
  have loop5 : ∀ (k : Nat) (i : Nat) (w2 : AV) (G2 : Nat → va_E), (bnH v + 1 ≤ i + k) → (i ≤ bnH v) → (isFB ad cI cB G2 v w2 x hi z0 z1) → (∀ j, 73 ≤ j → G2 j = G j) → kJ p l e rX6_mixedHorses s m args below meth c 0 0 Q 7 D ad N A G2 5 [(0, .ref (ad 0)), (3, .long (jHor v h i)), (5, .int (nI i))] [] := by
    intro k
    induction k with
    | zero => intro i w2 G2 h1 h2 hF2 hfr; exact absurd h1 (by omega)
    | succ k ih5 =>
      intro i w2 G2 h1 h2 hF2 hfr
      refine k_iload C dX6_mixedHorses_5 (j := 2) rfl ?_
      refine k_aload_n C dX6_mixedHorses_7 rfl (j := 0) rfl ?_
      refine k_get C 0 inX6_mixedHorses_6 (by omega) hF2.1 rfl 0 (by decide) (List.mem_of_getElem? (i := 1) rfl) rfl rfl dX6_mixedHorses_8 ?_
      refine k_get C 1 inX6_mixedHorses_1 (by omega) hF2.2.1.1 rfl 0 (by decide) (List.mem_of_getElem? (i := 2) rfl) rfl rfl dX6_mixedHorses_11 ?_
      refine k_callVir C (As := []) (rest := [.int (nI i)]) 2 (m_X4_size l D cI cC cZ cB cJ ad N G2 2 3 9 (nI (bnH v)) 90 (bvh v) (by omega) (by omega) hF2.2.1.2.1.1 hF2.2.1.2.1.2 (Nat.le_of_ble_eq_true rfl)) gX6_mixedHorses_X4_size rfl kd_X4_size rfl rfl ⟨Nat.le_of_ble_eq_true rfl, Nat.le_of_ble_eq_true rfl⟩ (by omega) hF2.2.1.2.1.1 rfl rfl rfl (Nat.le_of_ble_eq_true rfl) ⟨Nat.zero_le _, Nat.zero_le _⟩ dX6_mixedHorses_14 ?_
      refine k_icmp_ge C 70 dX6_mixedHorses_17 (by decide) (fun c_17 => ?_) (fun c_17 => ?_)
      · skip
        have hi2 : i = bnH v := k_ge c_17 (by omega) h2
        refine k_lload_n C dX6_mixedHorses_70 rfl (j := 1) rfl ?_
        exact k_lret C hQ rfl dX6_mixedHorses_71 ⟨by rw [hi2], _, ⟨hF2.1, hF2.2.1, hF2.2.2.1, hF2.2.2.2.1, hF2.2.2.2.2.1, hF2.2.2.2.2.2.1, hF2.2.2.2.2.2.2⟩, fun j hj => hfr j hj⟩
      · skip
        have hi2 : i < bnH v := k_lt c_17 (by omega) h2
        refine k_aload_n C dX6_mixedHorses_20 rfl (j := 0) rfl ?_
        refine k_iload C dX6_mixedHorses_21 (j := 2) rfl ?_
        refine k_callVi C (As := [.int (nI i)]) (rest := []) 0 (m_X6_wouldWinWith l D cI cC cZ cB cJ ad N G2 v w2 x hi z0 z1 (nI i) (by omega) ⟨hF2.1, hF2.2.1, hF2.2.2.1, hF2.2.2.2.1, hF2.2.2.2.2.1, hF2.2.2.2.2.2.1, hF2.2.2.2.2.2.2⟩ ) gX6_mixedHorses_X6_wouldWinWith rfl kd_X6_wouldWinWith rfl rfl ⟨Nat.le_of_ble_eq_true rfl, Nat.le_of_ble_eq_true rfl⟩ (by omega) hF2.1 rfl rfl rfl (Nat.le_of_ble_eq_true rfl) ⟨Nat.zero_le _, Nat.zero_le _⟩ dX6_mixedHorses_23 (fun r_23 G1 hG1 => ?_)
        obtain ⟨e_r_23, w_G1, hF_G1, hfr_G1⟩ := hG1
        subst e_r_23
        refine k_istore C (lv' := [(6, .int (jWW v (nI i))), (0, .ref (ad 0)), (3, .long (jHor v h i)), (5, .int (nI i))]) dX6_mixedHorses_26 (by decide) rfl ?_
        refine k_lload_n C dX6_mixedHorses_28 rfl (j := 2) rfl ?_
        refine k_aload_n C dX6_mixedHorses_29 rfl (j := 1) rfl ?_
        refine k_get C 0 inX6_mixedHorses_6 (by omega) hF_G1.1 rfl 0 (by decide) (List.mem_of_getElem? (i := 1) rfl) rfl rfl dX6_mixedHorses_30 ?_
        refine k_get C 1 inX6_mixedHorses_1 (by omega) hF_G1.2.1.1 rfl 0 (by decide) (List.mem_of_getElem? (i := 2) rfl) rfl rfl dX6_mixedHorses_33 ?_
        refine k_iload C dX6_mixedHorses_36 (j := 3) rfl ?_
        refine k_callSlr C (As := [.long (jHor v h i), .ref (ad (2)), .int (nI i)]) (rest := []) (m_X6_mixedRow l D cI cC cZ cB cJ ad N G1 (jHor v h i) 2 3 9 (bnH v) 90 (bvh v) (nI i) (by omega) (by omega) hF_G1.2.1.2.1.1 hF_G1.2.1.2.1.2 (Nat.le_of_ble_eq_true rfl) (Nat.le_of_ble_eq_true rfl) (by omega)) gX6_mixedHorses_X6_mixedRow rfl kd_X6_mixedRow rfl rfl ⟨Nat.le_of_ble_eq_true rfl, Nat.le_of_ble_eq_true rfl⟩ rfl rfl (Nat.le_of_ble_eq_true rfl) ⟨Nat.zero_le _, Nat.zero_le _⟩ dX6_mixedHorses_38 ?_
        refine k_lstore_n C (lv' := [(3, .long (jRow (bvh v) 90 9 (nI (bnH v)) (nI i) (jHor v h i) 9)), (6, .int (jWW v (nI i))), (0, .ref (ad 0)), (5, .int (nI i))]) dX6_mixedHorses_41 rfl (by decide) rfl ?_
        refine k_lload_n C dX6_mixedHorses_42 rfl (j := 0) rfl ?_
        refine k_iload C dX6_mixedHorses_43 (j := 1) rfl ?_
        refine k_i2l C dX6_mixedHorses_45 ?_
        refine k_callSlr C (As := [.long (jRow (bvh v) 90 9 (nI (bnH v)) (nI i) (jHor v h i) 9), .long ((jWW v (nI i)).toInt64)]) (rest := []) (m_X6_mixed l D cI cC cZ cB cJ ad N G1 (jRow (bvh v) 90 9 (nI (bnH v)) (nI i) (jHor v h i) 9) ((jWW v (nI i)).toInt64)) gX6_mixedHorses_X6_mixed rfl kd_X6_mixed rfl rfl ⟨Nat.le_of_ble_eq_true rfl, Nat.le_of_ble_eq_true rfl⟩ rfl rfl (Nat.le_of_ble_eq_true rfl) ⟨Nat.zero_le _, Nat.zero_le _⟩ dX6_mixedHorses_46 ?_
        refine k_lstore_n C (lv' := [(3, .long (jMix (jRow (bvh v) 90 9 (nI (bnH v)) (nI i) (jHor v h i) 9) ((jWW v (nI i)).toInt64))), (6, .int (jWW v (nI i))), (0, .ref (ad 0)), (5, .int (nI i))]) dX6_mixedHorses_49 rfl (by decide) rfl ?_
        refine k_lload_n C dX6_mixedHorses_50 rfl (j := 0) rfl ?_
        refine k_aload_n C dX6_mixedHorses_51 rfl (j := 2) rfl ?_
        refine k_iload C dX6_mixedHorses_52 (j := 3) rfl ?_
        refine k_iload C dX6_mixedHorses_54 (j := 1) rfl ?_
        refine k_callVir C (As := [.int (nI i), .int (jWW v (nI i))]) (rest := [.long (jMix (jRow (bvh v) 90 9 (nI (bnH v)) (nI i) (jHor v h i) 9) ((jWW v (nI i)).toInt64))]) 0 (m_X6_coveringStake l D cI cC cZ cB cJ ad N G1 v w_G1 x hi z0 z1 (nI i) (jWW v (nI i)) (by omega) ⟨hF_G1.1, hF_G1.2.1, hF_G1.2.2.1, hF_G1.2.2.2.1, hF_G1.2.2.2.2.1, hF_G1.2.2.2.2.2.1, hF_G1.2.2.2.2.2.2⟩ ) gX6_mixedHorses_X6_coveringStake rfl kd_X6_coveringStake rfl rfl ⟨Nat.le_of_ble_eq_true rfl, Nat.le_of_ble_eq_true rfl⟩ (by omega) hF_G1.1 rfl rfl rfl (Nat.le_of_ble_eq_true rfl) ⟨Nat.zero_le _, Nat.zero_le _⟩ dX6_mixedHorses_56 ?_
        refine k_i2l C dX6_mixedHorses_59 ?_
        refine k_callSlr C (As := [.long (jMix (jRow (bvh v) 90 9 (nI (bnH v)) (nI i) (jHor v h i) 9) ((jWW v (nI i)).toInt64)), .long ((jCover v (nI i) (jWW v (nI i))).toInt64)]) (rest := []) (m_X6_mixed l D cI cC cZ cB cJ ad N G1 (jMix (jRow (bvh v) 90 9 (nI (bnH v)) (nI i) (jHor v h i) 9) ((jWW v (nI i)).toInt64)) ((jCover v (nI i) (jWW v (nI i))).toInt64)) gX6_mixedHorses_X6_mixed rfl kd_X6_mixed rfl rfl ⟨Nat.le_of_ble_eq_true rfl, Nat.le_of_ble_eq_true rfl⟩ rfl rfl (Nat.le_of_ble_eq_true rfl) ⟨Nat.zero_le _, Nat.zero_le _⟩ dX6_mixedHorses_60 ?_
        refine k_lstore_n C (lv' := [(3, .long (jMix (jMix (jRow (bvh v) 90 9 (nI (bnH v)) (nI i) (jHor v h i) 9) ((jWW v (nI i)).toInt64)) ((jCover v (nI i) (jWW v (nI i))).toInt64))), (6, .int (jWW v (nI i))), (0, .ref (ad 0)), (5, .int (nI i))]) dX6_mixedHorses_63 rfl (by decide) rfl ?_
        refine k_iinc C (v := nI (i + 1)) (lv' := [(5, .int (nI (i + 1))), (3, .long (jMix (jMix (jRow (bvh v) 90 9 (nI (bnH v)) (nI i) (jHor v h i) 9) ((jWW v (nI i)).toInt64)) ((jCover v (nI i) (jWW v (nI i))).toInt64))), (6, .int (jWW v (nI i))), (0, .ref (ad 0))]) dX6_mixedHorses_64 (j := 3) rfl (nI_1 i) (by decide) rfl ?_
        refine k_goto C 5 dX6_mixedHorses_67 (by decide) ?_
        exact k_sub [3, 1, 0] rfl (ih5 (i + 1) w_G1 G1 (by omega) (by omega) ⟨hF_G1.1, hF_G1.2.1, hF_G1.2.2.1, hF_G1.2.2.2.1, hF_G1.2.2.2.2.1, hF_G1.2.2.2.2.2.1, hF_G1.2.2.2.2.2.2⟩ (fun j hj => (hfr_G1 j (by omega) : _).trans (hfr j hj)))
  exact k_sub [2, 1, 0] rfl (loop5 (bnH v + 1) 0 w G (by omega) (Nat.zero_le _) ⟨hF.1, hF.2.1, hF.2.2.1, hF.2.2.2.1, hF.2.2.2.2.1, hF.2.2.2.2.2.1, hF.2.2.2.2.2.2⟩ (fun _ _ => rfl))
