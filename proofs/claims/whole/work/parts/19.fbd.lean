/-! The share as a double: a by b, no NaN; its bits -/
def dQ (a b : Nat) : UInt64 := FP.ddiv (FP.i2d (nI a)) (FP.i2d (nI b))
def nn64 (r : UInt64) : Bool := decide (r &&& 0x7fffffffffffffff ≤ 0x7ff0000000000000)
theorem k_congS {p : Program} {l : Launch} {e : Env} {R : Room} {s : State} {m : MethodId} {args : Array Value} {below : List Frame} {meth : Method} {c : Code} {cells slots : Nat} {Q : State → Prop} {nL : Nat} {D : va_G} {ad : Nat → Nat} {N : Nat} {A : Nat → Prop} {G : Nat → va_E} {pc : Nat} {lv : List (Nat × Value)} {st st' : List Value} (h : st = st') (kk : kJ p l e R s m args below meth c cells slots Q nL D ad N A G pc lv st') : kJ p l e R s m args below meth c cells slots Q nL D ad N A G pc lv st := by rw [h]; exact kk
theorem nn64_of {r : UInt64} (h : nn64 r = true) : vf_n64 r := by simpa [nn64, vf_n64] using h
theorem dQ_nn : ∀ b, b < 11 → ∀ a, a < 11 → 0 < b → a ≤ b → nn64 (dQ a b) = true := by decide +kernel
def dTwice (x : UInt64) : Nat → UInt64
  | 0 => x
  | i + 1 => FP.dmul (dTwice x i) 4611686018427387904
def dBelow (x : UInt64) : Bool := decide (Op.cmpValue (FP.dcmp x FP.dconst1) .g < 0)
def dPos (x : UInt64) : Bool := decide (0 < Op.cmpValue (FP.dcmp x FP.dconst0) .g)
def eK : Nat → Int64
  | 0 => 1023
  | i + 1 => eK i - 1
def dEnd (x : UInt64) (K : Nat) : Int64 := (eK K <<< ((52 : Int32).toInt64 &&& 63)) + FP.d2l (FP.dmul (FP.dsub (dTwice x K) FP.dconst1) 4841369599423283200)
/-- all that the walk of bitsOfShare needs of a number that is doubled K times -/
def dOk (x : UInt64) (K : Nat) : Bool := (List.range K).all (fun i => dBelow (dTwice x i) && nn64 (dTwice x (i + 1))) && !(dBelow (dTwice x K)) && nn64 (FP.dsub (dTwice x K) FP.dconst1) && nn64 (FP.dmul (FP.dsub (dTwice x K) FP.dconst1) 4841369599423283200)
def dBits (x : UInt64) (K : Nat) : Int64 := if dPos x = true then dEnd x K else 0
def jRunN (v : BV) : Nat → Nat
  | 0 => 0
  | i + 1 => if jRuns v (nI i) = true then jRunN v i + 1 else jRunN v i
theorem jRunN_le (v : BV) : ∀ i, jRunN v i ≤ i
  | 0 => Nat.le_refl _
  | i + 1 => by have := jRunN_le v i; rw [jRunN]; split <;> omega
theorem jSafe_le (v : BV) : ∀ i, jSafe v i ≤ jRunN v i
  | 0 => Nat.le_refl _
  | i + 1 => by
    have := jSafe_le v i
    rw [jRunN, jSafe]
    by_cases h : jRuns v (nI i) = true
    · rw [if_pos h]; split <;> omega
    · rw [if_neg h, if_neg (fun h9 => h h9.1)]; exact this
/-- a horse runs or is withdrawn -/
def okRuns (v : BV) : Prop := ∀ i, i < bnH v → hC v (nI i) 2 = 0 ∨ hC v (nI i) 2 = 1
theorem jRunning_i {v : BV} (h : okRuns v) : ∀ i, i ≤ bnH v → tS (bvh v) 90 9 (nI (bnH v)) 2 i = nI (jRunN v i)
  | 0, _ => rfl
  | i + 1, hi => by
    rw [tS, jRunning_i h i (by omega), jRunN]
    rcases h i (by omega) with h1 | h1
    · rw [if_neg (by simp [jRuns, h1])]
      show nI (jRunN v i) + hC v (nI i) 2 = _
      rw [h1]; simp
    · rw [if_pos (by simp [jRuns, h1])]
      show nI (jRunN v i) + hC v (nI i) 2 = _
      rw [h1, nI_1]
theorem jRunning_nI {v : BV} (h : okRuns v) : jRunning v = nI (jRunN v (bnH v)) := jRunning_i h _ (Nat.le_refl _)
def jShare (v : BV) : UInt64 := if jRunN v (bnH v) = 0 then FP.dconst1 else dQ (jSafe v (bnH v)) (jRunN v (bnH v))
def zL (b : Bool) : Int64 := if b = true then 1 else 0
def jD1 (v : BV) (hi : HV) : Nat → Int64
  | 0 => 3079
  | i + 1 => jMix (jD1 v hi i) (jCount v hi i).toInt64
def jDX (x : TV) (h : Int64) : Nat → Int64
  | 0 => h
  | i + 1 => jMix (jDX x h i) (txAt x (nI i)).toInt64
def jD2 (v : BV) (hi : HV) : Int64 := jTab (bvl v) 30 5 5 (nI (bnL v)) (jTab (bvb v) 192 8 8 (nI (bnB v)) (jHor v (jMix (jMix (jD1 v hi 14) (jSetting v 0).toInt64) (jSetting v 1).toInt64) (bnH v)) (bnB v)) (bnL v)
def jDig (v : BV) (x : TV) (hi : HV) (b0 b1 : Bool) (sb : Int64) : Int64 :=
  jDX x (jMix (jMix (jMix (jMix (jMix (jMix (jD2 v hi) (jIf v x).toInt64) (jWst v (bnH v)).1.toInt64) sb) (zL b0)) (zL b1)) (nI (txN x)).toInt64) (txN x)
theorem inX6_safeShare_6 : ∀ w ∈ wsX60, w ∈ wsX6_safeShare := fun _ h => List.mem_cons_of_mem _ (List.mem_append_left _ (List.mem_append_left _ (List.mem_append_left _ (List.mem_append_right _ h))))
theorem inX6_safeShare_1 : ∀ w ∈ wsX10, w ∈ wsX6_safeShare := fun _ h => List.mem_cons_of_mem _ (List.mem_append_left _ (List.mem_append_left _ (List.mem_append_right _ h)))
theorem inX6_safeShare_4 : ∀ w ∈ wsX40, w ∈ wsX6_safeShare := fun _ h => List.mem_cons_of_mem _ (List.mem_append_left _ (List.mem_append_right _ h))
theorem inX6_safeShare_0 : ∀ w ∈ wsX00, w ∈ wsX6_safeShare := fun _ h => List.mem_cons_of_mem _ (List.mem_append_right _ h)
theorem kd_X6_safeShare : yX6_safeShare.cls = RX6 ∧ yX6_safeShare.cls ≠ "java/lang/invoke/MethodHandle" ∧ yX6_safeShare.cls ≠ "java/lang/invoke/VarHandle" ∧ (parseMethodDescriptor yX6_safeShare.desc).map (fun d => d.parameters.length) = some 0 := by decide +kernel
abbrev rX6_safeShare : Room := ({ frames := 5, cells := 0, slots := 0, locals := 117 } : Room)
set_option maxRecDepth 100000 in
set_option maxHeartbeats 4000000 in
/-- safeShare -/
theorem m_X6_safeShare (l : Launch) (D : va_G) (cI cC cZ cB cJ : ClassId) (ad : Nat → Nat) (N : Nat) (G : Nat → va_E) (v : BV) (w : AV) (x : TV) (hi : HV) (z0 z1 : ZV) (hN : 73 ≤ N) (hF : isFB ad cI cB G v w x hi z0 z1) (hr : okRuns v) : kMd l yX6_safeShare wsX6_safeShare rX6_safeShare D (kT5 cI cC cZ cB cJ) ad N G [.ref (ad 0)] (fun r G' => r = jShare v ∧ ∃ w', isFB ad cI cB G' v w' x hi z0 z1 ∧ ∀ j, 73 ≤ j → G' j = G j) := by
  refine k_startd (cc := cX6_safeShare) (ret := (some .double)) (maxL := 4) (lv0 := [(0, .ref (ad 0))]) (by decide) rfl (Nat.le_of_ble_eq_true rfl) rfl ?_
  intro p e s m args below meth c A Q C hQ
  have hlH := hF.2.1.2.2.2.2.1
  have hlB := hF.2.1.2.2.2.2.2.1
  have hlL := hF.2.1.2.2.2.2.2.2
  have hlX := hF.2.2.2.1.2.2
  have hlN := hF.2.2.2.2.1.2.2.2.1
  have hlZ := hF.2.2.2.2.1.2.2.2.2
  have hrn := jRunning_nI hr
  have hrl := jRunN_le v (bnH v)
  have hsl := jSafe_le v (bnH v)
  refine k_aload_n C dX6_safeShare_0 rfl (j := 0) rfl ?_
  refine k_get C 0 inX6_safeShare_6 (by omega) hF.1 rfl 0 (by decide) (List.mem_of_getElem? (i := 1) rfl) rfl rfl dX6_safeShare_1 ?_
  refine k_callVir C (As := []) (rest := []) 1 (m_X1_running l D cI cC cZ cB cJ ad N G 1 v (by omega) hF.2.1) gX6_safeShare_X1_running rfl kd_X1_running rfl rfl ⟨Nat.le_of_ble_eq_true rfl, Nat.le_of_ble_eq_true rfl⟩ (by omega) hF.2.1.1 rfl rfl rfl (Nat.le_of_ble_eq_true rfl) ⟨Nat.zero_le _, Nat.zero_le _⟩ dX6_safeShare_4 ?_
  refine k_istore_n C (lv' := [(1, .int (jRunning v)), (0, .ref (ad 0))]) dX6_safeShare_7 rfl (by decide) rfl ?_
  refine k_iload_n C dX6_safeShare_8 rfl (j := 0) rfl ?_
  refine k_if_gt C 14 dX6_safeShare_9 (by decide) (fun c_9 => ?_) (fun c_9 => ?_)
  · skip
    have hpos : ¬ jRunN v (bnH v) = 0 := fun h9 => by rw [hrn, h9] at c_9; exact absurd c_9 (by decide)
    refine k_iconst C (v := 0) dX6_safeShare_14 (by decide) ?_
    refine k_istore_n C (lv' := [(2, .int 0), (1, .int (jRunning v)), (0, .ref (ad 0))]) dX6_safeShare_15 rfl (by decide) rfl ?_
    refine k_iconst C (v := 0) dX6_safeShare_16 (by decide) ?_
    refine k_istore_n C (lv' := [(3, .int 0), (2, .int 0), (1, .int (jRunning v)), (0, .ref (ad 0))]) dX6_safeShare_17 rfl (by decide) rfl ?_
    have loop18 : ∀ (k : Nat) (i : Nat) (w2 : AV) (G2 : Nat → va_E), (bnH v + 1 ≤ i + k) → (i ≤ bnH v) → (isFB ad cI cB G2 v w2 x hi z0 z1) → (∀ j, 73 ≤ j → G2 j = G j) → kJ p l e rX6_safeShare s m args below meth c 0 0 Q 4 D ad N A G2 18 [(0, .ref (ad 0)), (1, .int (jRunning v)), (2, .int (nI (jSafe v i))), (3, .int (nI i))] [] := by
      intro k
      induction k with
      | zero => intro i w2 G2 h1 h2 hF2 hfr; exact absurd h1 (by omega)
      | succ k ih18 =>
        intro i w2 G2 h1 h2 hF2 hfr
        refine k_iload_n C dX6_safeShare_18 rfl (j := 3) rfl ?_
        refine k_aload_n C dX6_safeShare_19 rfl (j := 0) rfl ?_
        refine k_get C 0 inX6_safeShare_6 (by omega) hF2.1 rfl 0 (by decide) (List.mem_of_getElem? (i := 1) rfl) rfl rfl dX6_safeShare_20 ?_
        refine k_get C 1 inX6_safeShare_1 (by omega) hF2.2.1.1 rfl 0 (by decide) (List.mem_of_getElem? (i := 2) rfl) rfl rfl dX6_safeShare_23 ?_
        refine k_callVir C (As := []) (rest := [.int (nI i)]) 2 (m_X4_size l D cI cC cZ cB cJ ad N G2 2 3 9 (nI (bnH v)) 90 (bvh v) (by omega) (by omega) hF2.2.1.2.1.1 hF2.2.1.2.1.2 (Nat.le_of_ble_eq_true rfl)) gX6_safeShare_X4_size rfl kd_X4_size rfl rfl ⟨Nat.le_of_ble_eq_true rfl, Nat.le_of_ble_eq_true rfl⟩ (by omega) hF2.2.1.2.1.1 rfl rfl rfl (Nat.le_of_ble_eq_true rfl) ⟨Nat.zero_le _, Nat.zero_le _⟩ dX6_safeShare_26 ?_
        refine k_icmp_ge C 70 dX6_safeShare_29 (by decide) (fun c_29 => ?_) (fun c_29 => ?_)
        · skip
          have hi2 : i = bnH v := k_ge c_29 (by omega) h2
          refine k_iload_n C dX6_safeShare_70 rfl (j := 2) rfl ?_
          refine k_i2d C dX6_safeShare_71 ?_
          refine k_iload_n C dX6_safeShare_72 rfl (j := 1) rfl ?_
          refine k_i2d C dX6_safeShare_73 ?_
          refine k_ddiv C dX6_safeShare_74 (by rw [hi2, hrn]; exact nn64_of (dQ_nn _ (by omega) _ (by omega) (by omega) (by omega))) ?_
          exact k_dret C hQ rfl dX6_safeShare_75 ⟨by rw [jShare, if_neg hpos, hi2, hrn]; rfl, _, ⟨hF2.1, hF2.2.1, hF2.2.2.1, hF2.2.2.2.1, hF2.2.2.2.2.1, hF2.2.2.2.2.2.1, hF2.2.2.2.2.2.2⟩, fun j hj => hfr j hj⟩
        · skip
          have hi2 : i < bnH v := k_lt c_29 (by omega) h2
          refine k_aload_n C dX6_safeShare_32 rfl (j := 0) rfl ?_
          refine k_get C 0 inX6_safeShare_6 (by omega) hF2.1 rfl 0 (by decide) (List.mem_of_getElem? (i := 1) rfl) rfl rfl dX6_safeShare_33 ?_
          refine k_iload_n C dX6_safeShare_36 rfl (j := 3) rfl ?_
          refine k_callVir C (As := [.int (nI i)]) (rest := []) 1 (m_X1_runs l D cI cC cZ cB cJ ad N G2 1 v (nI i) (by omega) hF2.2.1) gX6_safeShare_X1_runs rfl kd_X1_runs rfl rfl ⟨Nat.le_of_ble_eq_true rfl, Nat.le_of_ble_eq_true rfl⟩ (by omega) hF2.2.1.1 rfl rfl rfl (Nat.le_of_ble_eq_true rfl) ⟨Nat.zero_le _, Nat.zero_le _⟩ dX6_safeShare_37 ?_
          refine k_if_eq C 64 dX6_safeShare_40 (by decide) (fun c_40 => ?_) (fun c_40 => ?_)
          · skip
            have hs1 : jSafe v (i + 1) = jSafe v i := by simp [jSafe, bI_f c_40]
            refine k_cong (lv' := [(0, .ref (ad 0)), (1, .int (jRunning v)), (2, .int (nI (jSafe v (i + 1)))), (3, .int (nI i))]) (by rw [hs1]) ?_
            refine k_iinc C (v := nI (i + 1)) (lv' := [(3, .int (nI (i + 1))), (0, .ref (ad 0)), (1, .int (jRunning v)), (2, .int (nI (jSafe v (i + 1))))]) dX6_safeShare_64 (j := 3) rfl (nI_1 i) (by decide) rfl ?_
            refine k_goto C 18 dX6_safeShare_67 (by decide) ?_
            exact k_sub [1, 2, 3, 0] rfl (ih18 (i + 1) w2 G2 (by omega) (by omega) ⟨hF2.1, hF2.2.1, hF2.2.2.1, hF2.2.2.2.1, hF2.2.2.2.2.1, hF2.2.2.2.2.2.1, hF2.2.2.2.2.2.2⟩ (fun j hj => hfr j hj))
          · skip
            refine k_aload_n C dX6_safeShare_43 rfl (j := 0) rfl ?_
            refine k_iload_n C dX6_safeShare_44 rfl (j := 3) rfl ?_
            refine k_callVi C (As := [.int (nI i)]) (rest := []) 0 (m_X6_wouldWinWith l D cI cC cZ cB cJ ad N G2 v w2 x hi z0 z1 (nI i) (by omega) ⟨hF2.1, hF2.2.1, hF2.2.2.1, hF2.2.2.2.1, hF2.2.2.2.2.1, hF2.2.2.2.2.2.1, hF2.2.2.2.2.2.2⟩ ) gX6_safeShare_X6_wouldWinWith rfl kd_X6_wouldWinWith rfl rfl ⟨Nat.le_of_ble_eq_true rfl, Nat.le_of_ble_eq_true rfl⟩ (by omega) hF2.1 rfl rfl rfl (Nat.le_of_ble_eq_true rfl) ⟨Nat.zero_le _, Nat.zero_le _⟩ dX6_safeShare_45 (fun r_45 G1 hG1 => ?_)
            obtain ⟨e_r_45, w_G1, hF_G1, hfr_G1⟩ := hG1
            subst e_r_45
            refine k_ldc C (v := 10000000) dX6_safeShare_48 (List.mem_of_getElem? (i := 3) rfl) ?_
            refine k_aload_n C dX6_safeShare_50 rfl (j := 0) rfl ?_
            refine k_get C 0 inX6_safeShare_6 (by omega) hF_G1.1 rfl 0 (by decide) (List.mem_of_getElem? (i := 1) rfl) rfl rfl dX6_safeShare_51 ?_
            refine k_get C 1 inX6_safeShare_1 (by omega) hF_G1.2.1.1 rfl 5 (by decide) (List.mem_of_getElem? (i := 4) rfl) rfl rfl dX6_safeShare_54 ?_
            refine k_isub C dX6_safeShare_57 ?_
            refine k_icmp_lt C 64 dX6_safeShare_58 (by decide) (fun c_58 => ?_) (fun c_58 => ?_)
            · skip
              have hs1 : jSafe v (i + 1) = jSafe v i := by simp [jSafe, c_58]
              refine k_cong (lv' := [(0, .ref (ad 0)), (1, .int (jRunning v)), (2, .int (nI (jSafe v (i + 1)))), (3, .int (nI i))]) (by rw [hs1]) ?_
              refine k_iinc C (v := nI (i + 1)) (lv' := [(3, .int (nI (i + 1))), (0, .ref (ad 0)), (1, .int (jRunning v)), (2, .int (nI (jSafe v (i + 1))))]) dX6_safeShare_64 (j := 3) rfl (nI_1 i) (by decide) rfl ?_
              refine k_goto C 18 dX6_safeShare_67 (by decide) ?_
              exact k_sub [1, 2, 3, 0] rfl (ih18 (i + 1) w_G1 G1 (by omega) (by omega) ⟨hF_G1.1, hF_G1.2.1, hF_G1.2.2.1, hF_G1.2.2.2.1, hF_G1.2.2.2.2.1, hF_G1.2.2.2.2.2.1, hF_G1.2.2.2.2.2.2⟩ (fun j hj => (hfr_G1 j (by omega) : _).trans (hfr j hj)))
            · skip
              have hs1 : jSafe v (i + 1) = jSafe v i + 1 := by simp [jSafe, bI_t c_40, c_58]
              refine k_iinc C (v := nI (jSafe v i + 1)) (lv' := [(2, .int (nI (jSafe v i + 1))), (0, .ref (ad 0)), (1, .int (jRunning v)), (3, .int (nI i))]) dX6_safeShare_61 (j := 2) rfl (nI_1 _) (by decide) rfl ?_
              refine k_cong (lv' := [(2, .int (nI (jSafe v (i + 1)))), (0, .ref (ad 0)), (1, .int (jRunning v)), (3, .int (nI i))]) (by rw [hs1]) ?_
              refine k_iinc C (v := nI (i + 1)) (lv' := [(3, .int (nI (i + 1))), (2, .int (nI (jSafe v (i + 1)))), (0, .ref (ad 0)), (1, .int (jRunning v))]) dX6_safeShare_64 (j := 3) rfl (nI_1 i) (by decide) rfl ?_
              refine k_goto C 18 dX6_safeShare_67 (by decide) ?_
              exact k_sub [2, 3, 1, 0] rfl (ih18 (i + 1) w_G1 G1 (by omega) (by omega) ⟨hF_G1.1, hF_G1.2.1, hF_G1.2.2.1, hF_G1.2.2.2.1, hF_G1.2.2.2.2.1, hF_G1.2.2.2.2.2.1, hF_G1.2.2.2.2.2.2⟩ (fun j hj => (hfr_G1 j (by omega) : _).trans (hfr j hj)))
    exact k_sub [3, 2, 1, 0] rfl (loop18 (bnH v + 1) 0 w G (by omega) (Nat.zero_le _) ⟨hF.1, hF.2.1, hF.2.2.1, hF.2.2.2.1, hF.2.2.2.2.1, hF.2.2.2.2.2.1, hF.2.2.2.2.2.2⟩ (fun _ _ => rfl))
  · skip
    have hz : jRunN v (bnH v) = 0 := by
      rcases Nat.eq_zero_or_pos (jRunN v (bnH v)) with h9 | h9
      · exact h9
      · exact absurd (by rw [hrn]; exact nI_lt (a := 0) h9 (by omega)) c_9
    refine k_dconst1 C dX6_safeShare_12 ?_
    exact k_dret C hQ rfl dX6_safeShare_13 ⟨by rw [jShare, if_pos hz], _, ⟨hF.1, hF.2.1, hF.2.2.1, hF.2.2.2.1, hF.2.2.2.2.1, hF.2.2.2.2.2.1, hF.2.2.2.2.2.2⟩, fun _ _ => rfl⟩
theorem kd_X6_bitsOfShare : yX6_bitsOfShare.cls ≠ "java/lang/invoke/MethodHandle" ∧ yX6_bitsOfShare.cls ≠ "java/lang/invoke/VarHandle" ∧ (parseMethodDescriptor yX6_bitsOfShare.desc).map (fun d => d.parameters.length) = some 1 := by decide +kernel
abbrev rX6_bitsOfShare : Room := ({ frames := 0, cells := 0, slots := 0, locals := 0 } : Room)
set_option maxRecDepth 100000 in
set_option maxHeartbeats 4000000 in
/-- bitsOfShare -/
theorem m_X6_bitsOfShare (l : Launch) (D : va_G) (cI cC cZ cB cJ : ClassId) (ad : Nat → Nat) (N : Nat) (G : Nat → va_E) (x : UInt64) (K : Nat) (hK : K < 60) (hok : dPos x = true → dOk x K = true) : kMl l yX6_bitsOfShare wsX6_bitsOfShare rX6_bitsOfShare D (kT5 cI cC cZ cB cJ) ad N G [.double x] (fun r G' => r = dBits x K ∧ G' = G) := by
  refine k_startl (cc := cX6_bitsOfShare) (ret := (some .long)) (maxL := 7) (lv0 := [(0, .double x)]) (by decide) rfl (Nat.le_of_ble_eq_true rfl) rfl ?_
  intro p e s m args below meth c A Q C hQ
  refine k_dload_n C dX6_bitsOfShare_0 rfl (j := 0) rfl ?_
  refine k_dconst0 C dX6_bitsOfShare_1 ?_
  refine k_dcmp C dX6_bitsOfShare_2 ?_
  refine k_if_gt C 8 dX6_bitsOfShare_3 (by decide) (fun c_3 => ?_) (fun c_3 => ?_)
  · skip
    have hp : dPos x = true := by simpa [dPos] using c_3
    have hok2 := hok hp
    simp only [dOk, Bool.and_eq_true, List.all_eq_true, List.mem_range, Bool.not_eq_true'] at hok2
    obtain ⟨⟨⟨hb1, hb2⟩, hb3⟩, hb4⟩ := hok2
    refine k_dload_n C dX6_bitsOfShare_8 rfl (j := 0) rfl ?_
    refine k_dstore_n C (lv' := [(2, .double x), (0, .double x)]) dX6_bitsOfShare_9 rfl (by decide) rfl ?_
    refine k_ldc2l C (v := 1023) dX6_bitsOfShare_10 (List.mem_of_getElem? (i := 1) rfl) ?_
    refine k_lstore C (lv' := [(4, .long 1023), (2, .double x), (0, .double x)]) dX6_bitsOfShare_13 (by decide) rfl ?_
    refine k_iconst C (v := 0) dX6_bitsOfShare_15 (by decide) ?_
    refine k_istore C (lv' := [(6, .int 0), (4, .long 1023), (2, .double x), (0, .double x)]) dX6_bitsOfShare_16 (by decide) rfl ?_
    have loop18 : ∀ (k : Nat) (i : Nat) , (K + 1 ≤ i + k) → (i ≤ K) → kJ p l e rX6_bitsOfShare s m args below meth c 0 0 Q 7 D ad N A G 18 [(0, .double x), (2, .double (dTwice x i)), (4, .long (eK i)), (6, .int (nI i))] [] := by
      intro k
      induction k with
      | zero => intro i  h1 h2; exact absurd h1 (by omega)
      | succ k ih18 =>
        intro i  h1 h2
        refine k_iload C dX6_bitsOfShare_18 (j := 3) rfl ?_
        refine k_bipush C (v := 64) dX6_bitsOfShare_20 (by decide) ?_
        refine k_icmp_ge C 49 dX6_bitsOfShare_22 (by decide) (fun q => absurd q (nI_ge (b := 64) (by omega) (by decide))) (fun _ => ?_)
        refine k_dload_n C dX6_bitsOfShare_25 rfl (j := 1) rfl ?_
        refine k_dconst1 C dX6_bitsOfShare_26 ?_
        refine k_dcmp C dX6_bitsOfShare_27 ?_
        refine k_if_ge C 49 dX6_bitsOfShare_28 (by decide) (fun c_28 => ?_) (fun c_28 => ?_)
        · skip
          have hi2 : i = K := by
            rcases Nat.lt_or_ge i K with h9 | h9
            · have h8 := (hb1 i h9).1
              simp only [dBelow, decide_eq_true_eq] at h8
              exact absurd h8 (by simpa using c_28)
            · omega
          subst hi2
          refine k_lload C dX6_bitsOfShare_49 (j := 2) rfl ?_
          refine k_bipush C (v := 52) dX6_bitsOfShare_51 (by decide) ?_
          refine k_lshl C dX6_bitsOfShare_53 ?_
          refine k_dload_n C dX6_bitsOfShare_54 rfl (j := 1) rfl ?_
          refine k_dconst1 C dX6_bitsOfShare_55 ?_
          refine k_dsub C dX6_bitsOfShare_56 (nn64_of hb3) ?_
          refine k_ldc2d C (v := 4841369599423283200) dX6_bitsOfShare_57 (List.mem_of_getElem? (i := 3) rfl) ?_
          refine k_dmul C dX6_bitsOfShare_60 (nn64_of hb4) ?_
          refine k_d2l C dX6_bitsOfShare_61 ?_
          refine k_ladd C dX6_bitsOfShare_62 ?_
          exact k_lret C hQ rfl dX6_bitsOfShare_63 ⟨by rw [dBits, if_pos hp]; rfl, rfl⟩
        · skip
          have hi3 : i < K := by
            rcases Nat.lt_or_ge i K with h9 | h9
            · exact h9
            · have e9 : i = K := by omega
              rw [← e9] at hb2
              simp only [dBelow, decide_eq_false_iff_not] at hb2
              exact absurd hb2 (by simpa using c_28)
          refine k_dload_n C dX6_bitsOfShare_31 rfl (j := 1) rfl ?_
          refine k_ldc2d C (v := 4611686018427387904) dX6_bitsOfShare_32 (List.mem_of_getElem? (i := 2) rfl) ?_
          refine k_dmul C dX6_bitsOfShare_35 (nn64_of (hb1 i hi3).2) ?_
          refine k_dstore_n C (lv' := [(2, .double (FP.dmul (dTwice x i) 4611686018427387904)), (0, .double x), (4, .long (eK i)), (6, .int (nI i))]) dX6_bitsOfShare_36 rfl (by decide) rfl ?_
          refine k_lload C dX6_bitsOfShare_37 (j := 2) rfl ?_
          refine k_lconst C (v := 1) dX6_bitsOfShare_39 (by decide) ?_
          refine k_lsub C dX6_bitsOfShare_40 ?_
          refine k_lstore C (lv' := [(4, .long ((eK i) - 1)), (2, .double (FP.dmul (dTwice x i) 4611686018427387904)), (0, .double x), (6, .int (nI i))]) dX6_bitsOfShare_41 (by decide) rfl ?_
          refine k_iinc C (v := nI (i + 1)) (lv' := [(6, .int (nI (i + 1))), (4, .long ((eK i) - 1)), (2, .double (FP.dmul (dTwice x i) 4611686018427387904)), (0, .double x)]) dX6_bitsOfShare_43 (j := 3) rfl (nI_1 i) (by decide) rfl ?_
          refine k_goto C 18 dX6_bitsOfShare_46 (by decide) ?_
          exact k_sub [3, 2, 1, 0] rfl (ih18 (i + 1) (by omega) (by omega))
    exact k_sub [3, 2, 1, 0] rfl (loop18 (K + 1) 0 (by omega) (Nat.zero_le _))
  · skip
    have hp : dPos x = false := by simpa [dPos] using c_3
    refine k_lconst C (v := 0) dX6_bitsOfShare_6 (by decide) ?_
    exact k_lret C hQ rfl dX6_bitsOfShare_7 ⟨by rw [dBits, if_neg (by rw [hp]; decide)], rfl⟩
theorem inX6_digest_6 : ∀ w ∈ wsX60, w ∈ wsX6_digest := fun _ h => List.mem_cons_of_mem _ (List.mem_append_left _ (List.mem_append_left _ (List.mem_append_left _ (List.mem_append_left _ (List.mem_append_left _ (List.mem_append_left _ (List.mem_append_right _ h)))))))
theorem inX6_digest_1 : ∀ w ∈ wsX10, w ∈ wsX6_digest := fun _ h => List.mem_cons_of_mem _ (List.mem_append_left _ (List.mem_append_left _ (List.mem_append_left _ (List.mem_append_left _ (List.mem_append_left _ (List.mem_append_right _ h))))))
theorem inX6_digest_4 : ∀ w ∈ wsX40, w ∈ wsX6_digest := fun _ h => List.mem_cons_of_mem _ (List.mem_append_left _ (List.mem_append_left _ (List.mem_append_left _ (List.mem_append_left _ (List.mem_append_right _ h)))))
theorem inX6_digest_2 : ∀ w ∈ wsX20, w ∈ wsX6_digest := fun _ h => List.mem_cons_of_mem _ (List.mem_append_left _ (List.mem_append_left _ (List.mem_append_left _ (List.mem_append_right _ h))))
theorem inX6_digest_0 : ∀ w ∈ wsX00, w ∈ wsX6_digest := fun _ h => List.mem_cons_of_mem _ (List.mem_append_left _ (List.mem_append_left _ (List.mem_append_right _ h)))
theorem inX6_digest_5 : ∀ w ∈ wsX50, w ∈ wsX6_digest := fun _ h => List.mem_cons_of_mem _ (List.mem_append_left _ (List.mem_append_right _ h))
theorem inX6_digest_3 : ∀ w ∈ wsX30, w ∈ wsX6_digest := fun _ h => List.mem_cons_of_mem _ (List.mem_append_right _ h)
theorem kd_X6_digest : yX6_digest.cls = RX6 ∧ yX6_digest.cls ≠ "java/lang/invoke/MethodHandle" ∧ yX6_digest.cls ≠ "java/lang/invoke/VarHandle" ∧ (parseMethodDescriptor yX6_digest.desc).map (fun d => d.parameters.length) = some 0 := by decide +kernel
abbrev rX6_digest : Room := ({ frames := 6, cells := 0, slots := 0, locals := 143 } : Room)
set_option maxRecDepth 100000 in
set_option maxHeartbeats 4000000 in
/-- digest -/
theorem m_X6_digest (l : Launch) (D : va_G) (cI cC cZ cB cJ : ClassId) (ad : Nat → Nat) (N : Nat) (G : Nat → va_E) (v : BV) (w : AV) (x : TV) (hi : HV) (z0 z1 : ZV) (K : Nat) (hN : 73 ≤ N) (hF : isFB ad cI cB G v w x hi z0 z1) (hr : okRuns v) (hK : K < 60) (hok : dPos (jShare v) = true → dOk (jShare v) K = true) : kMl l yX6_digest wsX6_digest rX6_digest D (kT5 cI cC cZ cB cJ) ad N G [.ref (ad 0)] (fun r G' => r = jDig v x hi z0.2 z1.2 (dBits (jShare v) K) ∧ ∃ w', isFB ad cI cB G' v w' x hi z0 z1 ∧ ∀ j, 73 ≤ j → G' j = G j) := by
  refine k_startl (cc := cX6_digest) (ret := (some .long)) (maxL := 4) (lv0 := [(0, .ref (ad 0))]) (by decide) rfl (Nat.le_of_ble_eq_true rfl) rfl ?_
  intro p e s m args below meth c A Q C hQ
  have hlH := hF.2.1.2.2.2.2.1
  have hlB := hF.2.1.2.2.2.2.2.1
  have hlL := hF.2.1.2.2.2.2.2.2
  have hlX := hF.2.2.2.1.2.2
  have hlN := hF.2.2.2.2.1.2.2.2.1
  have hlZ := hF.2.2.2.2.1.2.2.2.2
  refine k_ldc2l C (v := 3079) dX6_digest_0 (List.mem_of_getElem? (i := 1) rfl) ?_
  refine k_lstore_n C (lv' := [(1, .long 3079), (0, .ref (ad 0))]) dX6_digest_3 rfl (by decide) rfl ?_
  refine k_iconst C (v := 0) dX6_digest_4 (by decide) ?_
  refine k_istore_n C (lv' := [(3, .int 0), (1, .long 3079), (0, .ref (ad 0))]) dX6_digest_5 rfl (by decide) rfl ?_
  have loop6 : ∀ (k : Nat) (i : Nat) , (14 + 1 ≤ i + k) → (i ≤ 14) → kJ p l e rX6_digest s m args below meth c 0 0 Q 4 D ad N A G 6 [(0, .ref (ad 0)), (1, .long (jD1 v hi i)), (3, .int (nI i))] [] := by
    intro k
    induction k with
    | zero => intro i  h1 h2; exact absurd h1 (by omega)
    | succ k ih6 =>
      intro i  h1 h2
      refine k_iload_n C dX6_digest_6 rfl (j := 2) rfl ?_
      refine k_bipush C (v := 14) dX6_digest_7 (by decide) ?_
      refine k_icmp_ge C 29 dX6_digest_9 (by decide) (fun c_9 => ?_) (fun c_9 => ?_)
      · skip
        have hi2 : i = 14 := k_ge (n := 14) c_9 (by decide) h2
        rw [hi2]
        refine k_lload_n C dX6_digest_29 rfl (j := 1) rfl ?_
        refine k_aload_n C dX6_digest_30 rfl (j := 0) rfl ?_
        refine k_iconst C (v := 0) dX6_digest_31 (by decide) ?_
        refine k_callVir C (As := [.int 0]) (rest := [.long (jD1 v hi 14)]) 0 (m_X6_settingNow l D cI cC cZ cB cJ ad N G v w x hi z0 z1 0 (by omega) ⟨hF.1, hF.2.1, hF.2.2.1, hF.2.2.2.1, hF.2.2.2.2.1, hF.2.2.2.2.2.1, hF.2.2.2.2.2.2⟩ ) gX6_digest_X6_settingNow rfl kd_X6_settingNow rfl rfl ⟨Nat.le_of_ble_eq_true rfl, Nat.le_of_ble_eq_true rfl⟩ (by omega) hF.1 rfl rfl rfl (Nat.le_of_ble_eq_true rfl) ⟨Nat.zero_le _, Nat.zero_le _⟩ dX6_digest_32 ?_
        refine k_i2l C dX6_digest_35 ?_
        refine k_callSlr C (As := [.long (jD1 v hi 14), .long ((jSetting v 0).toInt64)]) (rest := []) (m_X6_mixed l D cI cC cZ cB cJ ad N G (jD1 v hi 14) ((jSetting v 0).toInt64)) gX6_digest_X6_mixed rfl kd_X6_mixed rfl rfl ⟨Nat.le_of_ble_eq_true rfl, Nat.le_of_ble_eq_true rfl⟩ rfl rfl (Nat.le_of_ble_eq_true rfl) ⟨Nat.zero_le _, Nat.zero_le _⟩ dX6_digest_36 ?_
        refine k_lstore_n C (lv' := [(1, .long (jMix (jD1 v hi 14) ((jSetting v 0).toInt64))), (0, .ref (ad 0)), (3, .int (nI 14))]) dX6_digest_39 rfl (by decide) rfl ?_
        refine k_lload_n C dX6_digest_40 rfl (j := 0) rfl ?_
        refine k_aload_n C dX6_digest_41 rfl (j := 1) rfl ?_
        refine k_iconst C (v := 1) dX6_digest_42 (by decide) ?_
        refine k_callVir C (As := [.int 1]) (rest := [.long (jMix (jD1 v hi 14) ((jSetting v 0).toInt64))]) 0 (m_X6_settingNow l D cI cC cZ cB cJ ad N G v w x hi z0 z1 1 (by omega) ⟨hF.1, hF.2.1, hF.2.2.1, hF.2.2.2.1, hF.2.2.2.2.1, hF.2.2.2.2.2.1, hF.2.2.2.2.2.2⟩ ) gX6_digest_X6_settingNow rfl kd_X6_settingNow rfl rfl ⟨Nat.le_of_ble_eq_true rfl, Nat.le_of_ble_eq_true rfl⟩ (by omega) hF.1 rfl rfl rfl (Nat.le_of_ble_eq_true rfl) ⟨Nat.zero_le _, Nat.zero_le _⟩ dX6_digest_43 ?_
        refine k_i2l C dX6_digest_46 ?_
        refine k_callSlr C (As := [.long (jMix (jD1 v hi 14) ((jSetting v 0).toInt64)), .long ((jSetting v 1).toInt64)]) (rest := []) (m_X6_mixed l D cI cC cZ cB cJ ad N G (jMix (jD1 v hi 14) ((jSetting v 0).toInt64)) ((jSetting v 1).toInt64)) gX6_digest_X6_mixed rfl kd_X6_mixed rfl rfl ⟨Nat.le_of_ble_eq_true rfl, Nat.le_of_ble_eq_true rfl⟩ rfl rfl (Nat.le_of_ble_eq_true rfl) ⟨Nat.zero_le _, Nat.zero_le _⟩ dX6_digest_47 ?_
        refine k_lstore_n C (lv' := [(1, .long (jMix (jMix (jD1 v hi 14) ((jSetting v 0).toInt64)) ((jSetting v 1).toInt64))), (0, .ref (ad 0)), (3, .int (nI 14))]) dX6_digest_50 rfl (by decide) rfl ?_
        refine k_aload_n C dX6_digest_51 rfl (j := 1) rfl ?_
        refine k_lload_n C dX6_digest_52 rfl (j := 0) rfl ?_
        refine k_callVl C (As := [.long (jMix (jMix (jD1 v hi 14) ((jSetting v 0).toInt64)) ((jSetting v 1).toInt64))]) (rest := []) 0 (m_X6_mixedHorses l D cI cC cZ cB cJ ad N G v w x hi z0 z1 (jMix (jMix (jD1 v hi 14) ((jSetting v 0).toInt64)) ((jSetting v 1).toInt64)) (by omega) ⟨hF.1, hF.2.1, hF.2.2.1, hF.2.2.2.1, hF.2.2.2.2.1, hF.2.2.2.2.2.1, hF.2.2.2.2.2.2⟩ ) gX6_digest_X6_mixedHorses rfl kd_X6_mixedHorses rfl rfl ⟨Nat.le_of_ble_eq_true rfl, Nat.le_of_ble_eq_true rfl⟩ (by omega) hF.1 rfl rfl rfl (Nat.le_of_ble_eq_true rfl) ⟨Nat.zero_le _, Nat.zero_le _⟩ dX6_digest_53 (fun r_53 G1 hG1 => ?_)
        obtain ⟨e_r_53, w_G1, hF_G1, hfr_G1⟩ := hG1
        subst e_r_53
        refine k_lstore_n C (lv' := [(1, .long (jHor v (jMix (jMix (jD1 v hi 14) ((jSetting v 0).toInt64)) ((jSetting v 1).toInt64)) (bnH v))), (0, .ref (ad 0)), (3, .int (nI 14))]) dX6_digest_56 rfl (by decide) rfl ?_
        refine k_lload_n C dX6_digest_57 rfl (j := 0) rfl ?_
        refine k_aload_n C dX6_digest_58 rfl (j := 1) rfl ?_
        refine k_get C 0 inX6_digest_6 (by omega) hF_G1.1 rfl 0 (by decide) (List.mem_of_getElem? (i := 2) rfl) rfl rfl dX6_digest_59 ?_
        refine k_get C 1 inX6_digest_1 (by omega) hF_G1.2.1.1 rfl 1 (by decide) (List.mem_of_getElem? (i := 3) rfl) rfl rfl dX6_digest_62 ?_
        refine k_callSlr C (As := [.long (jHor v (jMix (jMix (jD1 v hi 14) ((jSetting v 0).toInt64)) ((jSetting v 1).toInt64)) (bnH v)), .ref (ad (4))]) (rest := []) (m_X6_mixedTable l D cI cC cZ cB cJ ad N G1 (jHor v (jMix (jMix (jD1 v hi 14) ((jSetting v 0).toInt64)) ((jSetting v 1).toInt64)) (bnH v)) 4 5 8 (bnB v) 192 (bvb v) (by omega) (by omega) hF_G1.2.1.2.2.1.1 hF_G1.2.1.2.2.1.2 (Nat.le_of_ble_eq_true rfl) (Nat.le_of_ble_eq_true rfl) (by omega)) gX6_digest_X6_mixedTable rfl kd_X6_mixedTable rfl rfl ⟨Nat.le_of_ble_eq_true rfl, Nat.le_of_ble_eq_true rfl⟩ rfl rfl (Nat.le_of_ble_eq_true rfl) ⟨Nat.zero_le _, Nat.zero_le _⟩ dX6_digest_65 ?_
        refine k_lstore_n C (lv' := [(1, .long (jTab (bvb v) 192 8 8 (nI (bnB v)) (jHor v (jMix (jMix (jD1 v hi 14) ((jSetting v 0).toInt64)) ((jSetting v 1).toInt64)) (bnH v)) (bnB v))), (0, .ref (ad 0)), (3, .int (nI 14))]) dX6_digest_68 rfl (by decide) rfl ?_
        refine k_lload_n C dX6_digest_69 rfl (j := 0) rfl ?_
        refine k_aload_n C dX6_digest_70 rfl (j := 1) rfl ?_
        refine k_get C 0 inX6_digest_6 (by omega) hF_G1.1 rfl 0 (by decide) (List.mem_of_getElem? (i := 2) rfl) rfl rfl dX6_digest_71 ?_
        refine k_get C 1 inX6_digest_1 (by omega) hF_G1.2.1.1 rfl 2 (by decide) (List.mem_of_getElem? (i := 4) rfl) rfl rfl dX6_digest_74 ?_
        refine k_callSlr C (As := [.long (jTab (bvb v) 192 8 8 (nI (bnB v)) (jHor v (jMix (jMix (jD1 v hi 14) ((jSetting v 0).toInt64)) ((jSetting v 1).toInt64)) (bnH v)) (bnB v)), .ref (ad (6))]) (rest := []) (m_X6_mixedTable l D cI cC cZ cB cJ ad N G1 (jTab (bvb v) 192 8 8 (nI (bnB v)) (jHor v (jMix (jMix (jD1 v hi 14) ((jSetting v 0).toInt64)) ((jSetting v 1).toInt64)) (bnH v)) (bnB v)) 6 7 5 (bnL v) 30 (bvl v) (by omega) (by omega) hF_G1.2.1.2.2.2.1.1 hF_G1.2.1.2.2.2.1.2 (Nat.le_of_ble_eq_true rfl) (Nat.le_of_ble_eq_true rfl) (by omega)) gX6_digest_X6_mixedTable rfl kd_X6_mixedTable rfl rfl ⟨Nat.le_of_ble_eq_true rfl, Nat.le_of_ble_eq_true rfl⟩ rfl rfl (Nat.le_of_ble_eq_true rfl) ⟨Nat.zero_le _, Nat.zero_le _⟩ dX6_digest_77 ?_
        refine k_lstore_n C (lv' := [(1, .long (jTab (bvl v) 30 5 5 (nI (bnL v)) (jTab (bvb v) 192 8 8 (nI (bnB v)) (jHor v (jMix (jMix (jD1 v hi 14) ((jSetting v 0).toInt64)) ((jSetting v 1).toInt64)) (bnH v)) (bnB v)) (bnL v))), (0, .ref (ad 0)), (3, .int (nI 14))]) dX6_digest_80 rfl (by decide) rfl ?_
        refine k_lload_n C dX6_digest_81 rfl (j := 0) rfl ?_
        refine k_aload_n C dX6_digest_82 rfl (j := 1) rfl ?_
        refine k_callVi C (As := []) (rest := [.long (jTab (bvl v) 30 5 5 (nI (bnL v)) (jTab (bvb v) 192 8 8 (nI (bnB v)) (jHor v (jMix (jMix (jD1 v hi 14) ((jSetting v 0).toInt64)) ((jSetting v 1).toInt64)) (bnH v)) (bnB v)) (bnL v))]) 0 (m_X6_ifArrived l D cI cC cZ cB cJ ad N G1 v w_G1 x hi z0 z1 (by omega) ⟨hF_G1.1, hF_G1.2.1, hF_G1.2.2.1, hF_G1.2.2.2.1, hF_G1.2.2.2.2.1, hF_G1.2.2.2.2.2.1, hF_G1.2.2.2.2.2.2⟩ ) gX6_digest_X6_ifArrived rfl kd_X6_ifArrived rfl rfl ⟨Nat.le_of_ble_eq_true rfl, Nat.le_of_ble_eq_true rfl⟩ (by omega) hF_G1.1 rfl rfl rfl (Nat.le_of_ble_eq_true rfl) ⟨Nat.zero_le _, Nat.zero_le _⟩ dX6_digest_83 (fun r_83 G2 hG2 => ?_)
        obtain ⟨e_r_83, w_G2, hF_G2, hfr_G2⟩ := hG2
        subst e_r_83
        refine k_i2l C dX6_digest_86 ?_
        refine k_callSlr C (As := [.long (jTab (bvl v) 30 5 5 (nI (bnL v)) (jTab (bvb v) 192 8 8 (nI (bnB v)) (jHor v (jMix (jMix (jD1 v hi 14) ((jSetting v 0).toInt64)) ((jSetting v 1).toInt64)) (bnH v)) (bnB v)) (bnL v)), .long ((jIf v x).toInt64)]) (rest := []) (m_X6_mixed l D cI cC cZ cB cJ ad N G2 (jTab (bvl v) 30 5 5 (nI (bnL v)) (jTab (bvb v) 192 8 8 (nI (bnB v)) (jHor v (jMix (jMix (jD1 v hi 14) ((jSetting v 0).toInt64)) ((jSetting v 1).toInt64)) (bnH v)) (bnB v)) (bnL v)) ((jIf v x).toInt64)) gX6_digest_X6_mixed rfl kd_X6_mixed rfl rfl ⟨Nat.le_of_ble_eq_true rfl, Nat.le_of_ble_eq_true rfl⟩ rfl rfl (Nat.le_of_ble_eq_true rfl) ⟨Nat.zero_le _, Nat.zero_le _⟩ dX6_digest_87 ?_
        refine k_lstore_n C (lv' := [(1, .long (jMix (jTab (bvl v) 30 5 5 (nI (bnL v)) (jTab (bvb v) 192 8 8 (nI (bnB v)) (jHor v (jMix (jMix (jD1 v hi 14) ((jSetting v 0).toInt64)) ((jSetting v 1).toInt64)) (bnH v)) (bnB v)) (bnL v)) ((jIf v x).toInt64))), (0, .ref (ad 0)), (3, .int (nI 14))]) dX6_digest_90 rfl (by decide) rfl ?_
        refine k_lload_n C dX6_digest_91 rfl (j := 0) rfl ?_
        refine k_aload_n C dX6_digest_92 rfl (j := 1) rfl ?_
        refine k_callVi C (As := []) (rest := [.long (jMix (jTab (bvl v) 30 5 5 (nI (bnL v)) (jTab (bvb v) 192 8 8 (nI (bnB v)) (jHor v (jMix (jMix (jD1 v hi 14) ((jSetting v 0).toInt64)) ((jSetting v 1).toInt64)) (bnH v)) (bnB v)) (bnL v)) ((jIf v x).toInt64))]) 0 (m_X6_worst l D cI cC cZ cB cJ ad N G2 v w_G2 x hi z0 z1 (by omega) ⟨hF_G2.1, hF_G2.2.1, hF_G2.2.2.1, hF_G2.2.2.2.1, hF_G2.2.2.2.2.1, hF_G2.2.2.2.2.2.1, hF_G2.2.2.2.2.2.2⟩ ) gX6_digest_X6_worst rfl kd_X6_worst rfl rfl ⟨Nat.le_of_ble_eq_true rfl, Nat.le_of_ble_eq_true rfl⟩ (by omega) hF_G2.1 rfl rfl rfl (Nat.le_of_ble_eq_true rfl) ⟨Nat.zero_le _, Nat.zero_le _⟩ dX6_digest_93 (fun r_93 G3 hG3 => ?_)
        obtain ⟨e_r_93, w_G3, hF_G3, hfr_G3⟩ := hG3
        subst e_r_93
        refine k_i2l C dX6_digest_96 ?_
        refine k_callSlr C (As := [.long (jMix (jTab (bvl v) 30 5 5 (nI (bnL v)) (jTab (bvb v) 192 8 8 (nI (bnB v)) (jHor v (jMix (jMix (jD1 v hi 14) ((jSetting v 0).toInt64)) ((jSetting v 1).toInt64)) (bnH v)) (bnB v)) (bnL v)) ((jIf v x).toInt64)), .long (((jWst v (bnH v)).1).toInt64)]) (rest := []) (m_X6_mixed l D cI cC cZ cB cJ ad N G3 (jMix (jTab (bvl v) 30 5 5 (nI (bnL v)) (jTab (bvb v) 192 8 8 (nI (bnB v)) (jHor v (jMix (jMix (jD1 v hi 14) ((jSetting v 0).toInt64)) ((jSetting v 1).toInt64)) (bnH v)) (bnB v)) (bnL v)) ((jIf v x).toInt64)) (((jWst v (bnH v)).1).toInt64)) gX6_digest_X6_mixed rfl kd_X6_mixed rfl rfl ⟨Nat.le_of_ble_eq_true rfl, Nat.le_of_ble_eq_true rfl⟩ rfl rfl (Nat.le_of_ble_eq_true rfl) ⟨Nat.zero_le _, Nat.zero_le _⟩ dX6_digest_97 ?_
        refine k_lstore_n C (lv' := [(1, .long (jMix (jMix (jTab (bvl v) 30 5 5 (nI (bnL v)) (jTab (bvb v) 192 8 8 (nI (bnB v)) (jHor v (jMix (jMix (jD1 v hi 14) ((jSetting v 0).toInt64)) ((jSetting v 1).toInt64)) (bnH v)) (bnB v)) (bnL v)) ((jIf v x).toInt64)) (((jWst v (bnH v)).1).toInt64))), (0, .ref (ad 0)), (3, .int (nI 14))]) dX6_digest_100 rfl (by decide) rfl ?_
        refine k_lload_n C dX6_digest_101 rfl (j := 0) rfl ?_
        refine k_aload_n C dX6_digest_102 rfl (j := 1) rfl ?_
        refine k_callVd C (As := []) (rest := [.long (jMix (jMix (jTab (bvl v) 30 5 5 (nI (bnL v)) (jTab (bvb v) 192 8 8 (nI (bnB v)) (jHor v (jMix (jMix (jD1 v hi 14) ((jSetting v 0).toInt64)) ((jSetting v 1).toInt64)) (bnH v)) (bnB v)) (bnL v)) ((jIf v x).toInt64)) (((jWst v (bnH v)).1).toInt64))]) 0 (m_X6_safeShare l D cI cC cZ cB cJ ad N G3 v w_G3 x hi z0 z1 (by omega) ⟨hF_G3.1, hF_G3.2.1, hF_G3.2.2.1, hF_G3.2.2.2.1, hF_G3.2.2.2.2.1, hF_G3.2.2.2.2.2.1, hF_G3.2.2.2.2.2.2⟩ hr) gX6_digest_X6_safeShare rfl kd_X6_safeShare rfl rfl ⟨Nat.le_of_ble_eq_true rfl, Nat.le_of_ble_eq_true rfl⟩ (by omega) hF_G3.1 rfl rfl rfl (Nat.le_of_ble_eq_true rfl) ⟨Nat.zero_le _, Nat.zero_le _⟩ dX6_digest_103 (fun r_103 G4 hG4 => ?_)
        obtain ⟨e_r_103, w_G4, hF_G4, hfr_G4⟩ := hG4
        subst e_r_103
        refine k_callSlr C (As := [.double (jShare v)]) (rest := [.long (jMix (jMix (jTab (bvl v) 30 5 5 (nI (bnL v)) (jTab (bvb v) 192 8 8 (nI (bnB v)) (jHor v (jMix (jMix (jD1 v hi 14) ((jSetting v 0).toInt64)) ((jSetting v 1).toInt64)) (bnH v)) (bnB v)) (bnL v)) ((jIf v x).toInt64)) (((jWst v (bnH v)).1).toInt64))]) (m_X6_bitsOfShare l D cI cC cZ cB cJ ad N G4 (jShare v) K hK hok) gX6_digest_X6_bitsOfShare rfl kd_X6_bitsOfShare rfl rfl ⟨Nat.le_of_ble_eq_true rfl, Nat.le_of_ble_eq_true rfl⟩ rfl rfl (Nat.le_of_ble_eq_true rfl) ⟨Nat.zero_le _, Nat.zero_le _⟩ dX6_digest_106 ?_
        refine k_callSlr C (As := [.long (jMix (jMix (jTab (bvl v) 30 5 5 (nI (bnL v)) (jTab (bvb v) 192 8 8 (nI (bnB v)) (jHor v (jMix (jMix (jD1 v hi 14) ((jSetting v 0).toInt64)) ((jSetting v 1).toInt64)) (bnH v)) (bnB v)) (bnL v)) ((jIf v x).toInt64)) (((jWst v (bnH v)).1).toInt64)), .long (dBits (jShare v) K)]) (rest := []) (m_X6_mixed l D cI cC cZ cB cJ ad N G4 (jMix (jMix (jTab (bvl v) 30 5 5 (nI (bnL v)) (jTab (bvb v) 192 8 8 (nI (bnB v)) (jHor v (jMix (jMix (jD1 v hi 14) ((jSetting v 0).toInt64)) ((jSetting v 1).toInt64)) (bnH v)) (bnB v)) (bnL v)) ((jIf v x).toInt64)) (((jWst v (bnH v)).1).toInt64)) (dBits (jShare v) K)) gX6_digest_X6_mixed rfl kd_X6_mixed rfl rfl ⟨Nat.le_of_ble_eq_true rfl, Nat.le_of_ble_eq_true rfl⟩ rfl rfl (Nat.le_of_ble_eq_true rfl) ⟨Nat.zero_le _, Nat.zero_le _⟩ dX6_digest_109 ?_
        refine k_lstore_n C (lv' := [(1, .long (jMix (jMix (jMix (jTab (bvl v) 30 5 5 (nI (bnL v)) (jTab (bvb v) 192 8 8 (nI (bnB v)) (jHor v (jMix (jMix (jD1 v hi 14) ((jSetting v 0).toInt64)) ((jSetting v 1).toInt64)) (bnH v)) (bnB v)) (bnL v)) ((jIf v x).toInt64)) (((jWst v (bnH v)).1).toInt64)) (dBits (jShare v) K))), (0, .ref (ad 0)), (3, .int (nI 14))]) dX6_digest_112 rfl (by decide) rfl ?_
        refine k_lload_n C dX6_digest_113 rfl (j := 0) rfl ?_
        refine k_aload_n C dX6_digest_114 rfl (j := 1) rfl ?_
        refine k_get C 0 inX6_digest_6 (by omega) hF_G4.1 rfl 4 (by decide) (List.mem_of_getElem? (i := 5) rfl) rfl rfl dX6_digest_115 ?_
        refine k_callVir C (As := []) (rest := [.long (jMix (jMix (jMix (jTab (bvl v) 30 5 5 (nI (bnL v)) (jTab (bvb v) 192 8 8 (nI (bnB v)) (jHor v (jMix (jMix (jD1 v hi 14) ((jSetting v 0).toInt64)) ((jSetting v 1).toInt64)) (bnH v)) (bnB v)) (bnL v)) ((jIf v x).toInt64)) (((jWst v (bnH v)).1).toInt64)) (dBits (jShare v) K))]) 57 (m_X3_isFull l D cI cC cZ cB cJ ad N G4 57 z0 (by omega) hF_G4.2.2.2.2.2.1) gX6_digest_X3_isFull rfl kd_X3_isFull rfl rfl ⟨Nat.le_of_ble_eq_true rfl, Nat.le_of_ble_eq_true rfl⟩ (by omega) hF_G4.2.2.2.2.2.1.1 rfl rfl rfl (Nat.le_of_ble_eq_true rfl) ⟨Nat.zero_le _, Nat.zero_le _⟩ dX6_digest_118 ?_
        refine k_if_eq C 128 dX6_digest_121 (by decide) (fun c_121 => ?_) (fun c_121 => ?_)
        · skip
          have e_121 := bI_f c_121
          refine k_lconst C (v := 0) dX6_digest_128 (by decide) ?_
          refine k_congS (st' := [.long (zL z0.2), .long (jMix (jMix (jMix (jTab (bvl v) 30 5 5 (nI (bnL v)) (jTab (bvb v) 192 8 8 (nI (bnB v)) (jHor v (jMix (jMix (jD1 v hi 14) ((jSetting v 0).toInt64)) ((jSetting v 1).toInt64)) (bnH v)) (bnB v)) (bnL v)) ((jIf v x).toInt64)) (((jWst v (bnH v)).1).toInt64)) (dBits (jShare v) K))]) (by simp [zL, e_121]) ?_
          refine k_callSlr C (As := [.long (jMix (jMix (jMix (jTab (bvl v) 30 5 5 (nI (bnL v)) (jTab (bvb v) 192 8 8 (nI (bnB v)) (jHor v (jMix (jMix (jD1 v hi 14) ((jSetting v 0).toInt64)) ((jSetting v 1).toInt64)) (bnH v)) (bnB v)) (bnL v)) ((jIf v x).toInt64)) (((jWst v (bnH v)).1).toInt64)) (dBits (jShare v) K)), .long (zL z0.2)]) (rest := []) (m_X6_mixed l D cI cC cZ cB cJ ad N G4 (jMix (jMix (jMix (jTab (bvl v) 30 5 5 (nI (bnL v)) (jTab (bvb v) 192 8 8 (nI (bnB v)) (jHor v (jMix (jMix (jD1 v hi 14) ((jSetting v 0).toInt64)) ((jSetting v 1).toInt64)) (bnH v)) (bnB v)) (bnL v)) ((jIf v x).toInt64)) (((jWst v (bnH v)).1).toInt64)) (dBits (jShare v) K)) (zL z0.2)) gX6_digest_X6_mixed rfl kd_X6_mixed rfl rfl ⟨Nat.le_of_ble_eq_true rfl, Nat.le_of_ble_eq_true rfl⟩ rfl rfl (Nat.le_of_ble_eq_true rfl) ⟨Nat.zero_le _, Nat.zero_le _⟩ dX6_digest_129 ?_
          refine k_lstore_n C (lv' := [(1, .long (jMix (jMix (jMix (jMix (jTab (bvl v) 30 5 5 (nI (bnL v)) (jTab (bvb v) 192 8 8 (nI (bnB v)) (jHor v (jMix (jMix (jD1 v hi 14) ((jSetting v 0).toInt64)) ((jSetting v 1).toInt64)) (bnH v)) (bnB v)) (bnL v)) ((jIf v x).toInt64)) (((jWst v (bnH v)).1).toInt64)) (dBits (jShare v) K)) (zL z0.2))), (0, .ref (ad 0)), (3, .int (nI 14))]) dX6_digest_132 rfl (by decide) rfl ?_
          refine k_lload_n C dX6_digest_133 rfl (j := 0) rfl ?_
          refine k_aload_n C dX6_digest_134 rfl (j := 1) rfl ?_
          refine k_get C 0 inX6_digest_6 (by omega) hF_G4.1 rfl 5 (by decide) (List.mem_of_getElem? (i := 6) rfl) rfl rfl dX6_digest_135 ?_
          refine k_callVir C (As := []) (rest := [.long (jMix (jMix (jMix (jMix (jTab (bvl v) 30 5 5 (nI (bnL v)) (jTab (bvb v) 192 8 8 (nI (bnB v)) (jHor v (jMix (jMix (jD1 v hi 14) ((jSetting v 0).toInt64)) ((jSetting v 1).toInt64)) (bnH v)) (bnB v)) (bnL v)) ((jIf v x).toInt64)) (((jWst v (bnH v)).1).toInt64)) (dBits (jShare v) K)) (zL z0.2))]) 65 (m_X3_isFull l D cI cC cZ cB cJ ad N G4 65 z1 (by omega) hF_G4.2.2.2.2.2.2) gX6_digest_X3_isFull rfl kd_X3_isFull rfl rfl ⟨Nat.le_of_ble_eq_true rfl, Nat.le_of_ble_eq_true rfl⟩ (by omega) hF_G4.2.2.2.2.2.2.1 rfl rfl rfl (Nat.le_of_ble_eq_true rfl) ⟨Nat.zero_le _, Nat.zero_le _⟩ dX6_digest_138 ?_
          refine k_if_eq C 148 dX6_digest_141 (by decide) (fun c_141 => ?_) (fun c_141 => ?_)
          · skip
            have e_141 := bI_f c_141
            refine k_lconst C (v := 0) dX6_digest_148 (by decide) ?_
            refine k_congS (st' := [.long (zL z1.2), .long (jMix (jMix (jMix (jMix (jTab (bvl v) 30 5 5 (nI (bnL v)) (jTab (bvb v) 192 8 8 (nI (bnB v)) (jHor v (jMix (jMix (jD1 v hi 14) ((jSetting v 0).toInt64)) ((jSetting v 1).toInt64)) (bnH v)) (bnB v)) (bnL v)) ((jIf v x).toInt64)) (((jWst v (bnH v)).1).toInt64)) (dBits (jShare v) K)) (zL z0.2))]) (by simp [zL, e_141]) ?_
            refine k_callSlr C (As := [.long (jMix (jMix (jMix (jMix (jTab (bvl v) 30 5 5 (nI (bnL v)) (jTab (bvb v) 192 8 8 (nI (bnB v)) (jHor v (jMix (jMix (jD1 v hi 14) ((jSetting v 0).toInt64)) ((jSetting v 1).toInt64)) (bnH v)) (bnB v)) (bnL v)) ((jIf v x).toInt64)) (((jWst v (bnH v)).1).toInt64)) (dBits (jShare v) K)) (zL z0.2)), .long (zL z1.2)]) (rest := []) (m_X6_mixed l D cI cC cZ cB cJ ad N G4 (jMix (jMix (jMix (jMix (jTab (bvl v) 30 5 5 (nI (bnL v)) (jTab (bvb v) 192 8 8 (nI (bnB v)) (jHor v (jMix (jMix (jD1 v hi 14) ((jSetting v 0).toInt64)) ((jSetting v 1).toInt64)) (bnH v)) (bnB v)) (bnL v)) ((jIf v x).toInt64)) (((jWst v (bnH v)).1).toInt64)) (dBits (jShare v) K)) (zL z0.2)) (zL z1.2)) gX6_digest_X6_mixed rfl kd_X6_mixed rfl rfl ⟨Nat.le_of_ble_eq_true rfl, Nat.le_of_ble_eq_true rfl⟩ rfl rfl (Nat.le_of_ble_eq_true rfl) ⟨Nat.zero_le _, Nat.zero_le _⟩ dX6_digest_149 ?_
            refine k_lstore_n C (lv' := [(1, .long (jMix (jMix (jMix (jMix (jMix (jTab (bvl v) 30 5 5 (nI (bnL v)) (jTab (bvb v) 192 8 8 (nI (bnB v)) (jHor v (jMix (jMix (jD1 v hi 14) ((jSetting v 0).toInt64)) ((jSetting v 1).toInt64)) (bnH v)) (bnB v)) (bnL v)) ((jIf v x).toInt64)) (((jWst v (bnH v)).1).toInt64)) (dBits (jShare v) K)) (zL z0.2)) (zL z1.2))), (0, .ref (ad 0)), (3, .int (nI 14))]) dX6_digest_152 rfl (by decide) rfl ?_
            refine k_lload_n C dX6_digest_153 rfl (j := 0) rfl ?_
            refine k_aload_n C dX6_digest_154 rfl (j := 1) rfl ?_
            refine k_get C 0 inX6_digest_6 (by omega) hF_G4.1 rfl 2 (by decide) (List.mem_of_getElem? (i := 7) rfl) rfl rfl dX6_digest_155 ?_
            refine k_callVir C (As := []) (rest := [.long (jMix (jMix (jMix (jMix (jMix (jTab (bvl v) 30 5 5 (nI (bnL v)) (jTab (bvb v) 192 8 8 (nI (bnB v)) (jHor v (jMix (jMix (jD1 v hi 14) ((jSetting v 0).toInt64)) ((jSetting v 1).toInt64)) (bnH v)) (bnB v)) (bnL v)) ((jIf v x).toInt64)) (((jWst v (bnH v)).1).toInt64)) (dBits (jShare v) K)) (zL z0.2)) (zL z1.2))]) 11 (m_X5_length l D cI cC cZ cB cJ ad N G4 11 x (by omega) hF_G4.2.2.2.1) gX6_digest_X5_length rfl kd_X5_length rfl rfl ⟨Nat.le_of_ble_eq_true rfl, Nat.le_of_ble_eq_true rfl⟩ (by omega) hF_G4.2.2.2.1.1 rfl rfl rfl (Nat.le_of_ble_eq_true rfl) ⟨Nat.zero_le _, Nat.zero_le _⟩ dX6_digest_158 ?_
            refine k_i2l C dX6_digest_161 ?_
            refine k_callSlr C (As := [.long (jMix (jMix (jMix (jMix (jMix (jTab (bvl v) 30 5 5 (nI (bnL v)) (jTab (bvb v) 192 8 8 (nI (bnB v)) (jHor v (jMix (jMix (jD1 v hi 14) ((jSetting v 0).toInt64)) ((jSetting v 1).toInt64)) (bnH v)) (bnB v)) (bnL v)) ((jIf v x).toInt64)) (((jWst v (bnH v)).1).toInt64)) (dBits (jShare v) K)) (zL z0.2)) (zL z1.2)), .long ((nI (txN x)).toInt64)]) (rest := []) (m_X6_mixed l D cI cC cZ cB cJ ad N G4 (jMix (jMix (jMix (jMix (jMix (jTab (bvl v) 30 5 5 (nI (bnL v)) (jTab (bvb v) 192 8 8 (nI (bnB v)) (jHor v (jMix (jMix (jD1 v hi 14) ((jSetting v 0).toInt64)) ((jSetting v 1).toInt64)) (bnH v)) (bnB v)) (bnL v)) ((jIf v x).toInt64)) (((jWst v (bnH v)).1).toInt64)) (dBits (jShare v) K)) (zL z0.2)) (zL z1.2)) ((nI (txN x)).toInt64)) gX6_digest_X6_mixed rfl kd_X6_mixed rfl rfl ⟨Nat.le_of_ble_eq_true rfl, Nat.le_of_ble_eq_true rfl⟩ rfl rfl (Nat.le_of_ble_eq_true rfl) ⟨Nat.zero_le _, Nat.zero_le _⟩ dX6_digest_162 ?_
            refine k_lstore_n C (lv' := [(1, .long (jMix (jMix (jMix (jMix (jMix (jMix (jTab (bvl v) 30 5 5 (nI (bnL v)) (jTab (bvb v) 192 8 8 (nI (bnB v)) (jHor v (jMix (jMix (jD1 v hi 14) ((jSetting v 0).toInt64)) ((jSetting v 1).toInt64)) (bnH v)) (bnB v)) (bnL v)) ((jIf v x).toInt64)) (((jWst v (bnH v)).1).toInt64)) (dBits (jShare v) K)) (zL z0.2)) (zL z1.2)) ((nI (txN x)).toInt64))), (0, .ref (ad 0)), (3, .int (nI 14))]) dX6_digest_165 rfl (by decide) rfl ?_
            refine k_iconst C (v := 0) dX6_digest_166 (by decide) ?_
            refine k_istore_n C (lv' := [(3, .int 0), (1, .long (jMix (jMix (jMix (jMix (jMix (jMix (jTab (bvl v) 30 5 5 (nI (bnL v)) (jTab (bvb v) 192 8 8 (nI (bnB v)) (jHor v (jMix (jMix (jD1 v hi 14) ((jSetting v 0).toInt64)) ((jSetting v 1).toInt64)) (bnH v)) (bnB v)) (bnL v)) ((jIf v x).toInt64)) (((jWst v (bnH v)).1).toInt64)) (dBits (jShare v) K)) (zL z0.2)) (zL z1.2)) ((nI (txN x)).toInt64))), (0, .ref (ad 0))]) dX6_digest_167 rfl (by decide) rfl ?_
            have loop168 : ∀ (k : Nat) (i : Nat) , (txN x + 1 ≤ i + k) → (i ≤ txN x) → kJ p l e rX6_digest s m args below meth c 0 0 Q 4 D ad N A G4 168 [(0, .ref (ad 0)), (1, .long (jDX x (jMix (jMix (jMix (jMix (jMix (jMix (jD2 v hi) (jIf v x).toInt64) (jWst v (bnH v)).1.toInt64) (dBits (jShare v) K)) (zL z0.2)) (zL z1.2)) (nI (txN x)).toInt64) i)), (3, .int (nI i))] [] := by
              intro k
              induction k with
              | zero => intro i  h1 h2; exact absurd h1 (by omega)
              | succ k ih168 =>
                intro i  h1 h2
                refine k_iload_n C dX6_digest_168 rfl (j := 2) rfl ?_
                refine k_aload_n C dX6_digest_169 rfl (j := 0) rfl ?_
                refine k_get C 0 inX6_digest_6 (by omega) hF_G4.1 rfl 2 (by decide) (List.mem_of_getElem? (i := 7) rfl) rfl rfl dX6_digest_170 ?_
                refine k_callVir C (As := []) (rest := [.int (nI i)]) 11 (m_X5_length l D cI cC cZ cB cJ ad N G4 11 x (by omega) hF_G4.2.2.2.1) gX6_digest_X5_length rfl kd_X5_length rfl rfl ⟨Nat.le_of_ble_eq_true rfl, Nat.le_of_ble_eq_true rfl⟩ (by omega) hF_G4.2.2.2.1.1 rfl rfl rfl (Nat.le_of_ble_eq_true rfl) ⟨Nat.zero_le _, Nat.zero_le _⟩ dX6_digest_173 ?_
                refine k_icmp_ge C 199 dX6_digest_176 (by decide) (fun c_176 => ?_) (fun c_176 => ?_)
                · skip
                  have hi2 : i = txN x := k_ge c_176 (by omega) h2
                  refine k_lload_n C dX6_digest_199 rfl (j := 1) rfl ?_
                  exact k_lret C hQ rfl dX6_digest_200 ⟨by rw [hi2]; rfl, _, ⟨hF_G4.1, hF_G4.2.1, hF_G4.2.2.1, hF_G4.2.2.2.1, hF_G4.2.2.2.2.1, hF_G4.2.2.2.2.2.1, hF_G4.2.2.2.2.2.2⟩, fun j hj => (hfr_G4 j (by omega) : _).trans ((hfr_G3 j (by omega) : _).trans ((hfr_G2 j (by omega) : _).trans (hfr_G1 j (by omega))))⟩
                · skip
                  have hi2 : i < txN x := k_lt c_176 (by omega) h2
                  refine k_lload_n C dX6_digest_179 rfl (j := 1) rfl ?_
                  refine k_aload_n C dX6_digest_180 rfl (j := 0) rfl ?_
                  refine k_get C 0 inX6_digest_6 (by omega) hF_G4.1 rfl 2 (by decide) (List.mem_of_getElem? (i := 7) rfl) rfl rfl dX6_digest_181 ?_
                  refine k_iload_n C dX6_digest_184 rfl (j := 2) rfl ?_
                  refine k_callVir C (As := [.int (nI i)]) (rest := [.long (jDX x (jMix (jMix (jMix (jMix (jMix (jMix (jD2 v hi) (jIf v x).toInt64) (jWst v (bnH v)).1.toInt64) (dBits (jShare v) K)) (zL z0.2)) (zL z1.2)) (nI (txN x)).toInt64) i)]) 11 (m_X5_codeAt l D cI cC cZ cB cJ ad N G4 11 x (nI i) (by omega) hF_G4.2.2.2.1) gX6_digest_X5_codeAt rfl kd_X5_codeAt rfl rfl ⟨Nat.le_of_ble_eq_true rfl, Nat.le_of_ble_eq_true rfl⟩ (by omega) hF_G4.2.2.2.1.1 rfl rfl rfl (Nat.le_of_ble_eq_true rfl) ⟨Nat.zero_le _, Nat.zero_le _⟩ dX6_digest_185 ?_
                  refine k_i2l C dX6_digest_188 ?_
                  refine k_callSlr C (As := [.long (jDX x (jMix (jMix (jMix (jMix (jMix (jMix (jD2 v hi) (jIf v x).toInt64) (jWst v (bnH v)).1.toInt64) (dBits (jShare v) K)) (zL z0.2)) (zL z1.2)) (nI (txN x)).toInt64) i), .long ((txAt x (nI i)).toInt64)]) (rest := []) (m_X6_mixed l D cI cC cZ cB cJ ad N G4 (jDX x (jMix (jMix (jMix (jMix (jMix (jMix (jD2 v hi) (jIf v x).toInt64) (jWst v (bnH v)).1.toInt64) (dBits (jShare v) K)) (zL z0.2)) (zL z1.2)) (nI (txN x)).toInt64) i) ((txAt x (nI i)).toInt64)) gX6_digest_X6_mixed rfl kd_X6_mixed rfl rfl ⟨Nat.le_of_ble_eq_true rfl, Nat.le_of_ble_eq_true rfl⟩ rfl rfl (Nat.le_of_ble_eq_true rfl) ⟨Nat.zero_le _, Nat.zero_le _⟩ dX6_digest_189 ?_
                  refine k_lstore_n C (lv' := [(1, .long (jMix (jDX x (jMix (jMix (jMix (jMix (jMix (jMix (jD2 v hi) (jIf v x).toInt64) (jWst v (bnH v)).1.toInt64) (dBits (jShare v) K)) (zL z0.2)) (zL z1.2)) (nI (txN x)).toInt64) i) ((txAt x (nI i)).toInt64))), (0, .ref (ad 0)), (3, .int (nI i))]) dX6_digest_192 rfl (by decide) rfl ?_
                  refine k_iinc C (v := nI (i + 1)) (lv' := [(3, .int (nI (i + 1))), (1, .long (jMix (jDX x (jMix (jMix (jMix (jMix (jMix (jMix (jD2 v hi) (jIf v x).toInt64) (jWst v (bnH v)).1.toInt64) (dBits (jShare v) K)) (zL z0.2)) (zL z1.2)) (nI (txN x)).toInt64) i) ((txAt x (nI i)).toInt64))), (0, .ref (ad 0))]) dX6_digest_193 (j := 2) rfl (nI_1 i) (by decide) rfl ?_
                  refine k_goto C 168 dX6_digest_196 (by decide) ?_
                  exact k_sub [2, 1, 0] rfl (ih168 (i + 1) (by omega) (by omega))
            exact k_sub [2, 1, 0] rfl (loop168 (txN x + 1) 0 (by omega) (Nat.zero_le _))
          · skip
            have e_141 := bI_t c_141
            refine k_lconst C (v := 1) dX6_digest_144 (by decide) ?_
            refine k_goto C 149 dX6_digest_145 (by decide) ?_
            refine k_congS (st' := [.long (zL z1.2), .long (jMix (jMix (jMix (jMix (jTab (bvl v) 30 5 5 (nI (bnL v)) (jTab (bvb v) 192 8 8 (nI (bnB v)) (jHor v (jMix (jMix (jD1 v hi 14) ((jSetting v 0).toInt64)) ((jSetting v 1).toInt64)) (bnH v)) (bnB v)) (bnL v)) ((jIf v x).toInt64)) (((jWst v (bnH v)).1).toInt64)) (dBits (jShare v) K)) (zL z0.2))]) (by simp [zL, e_141]) ?_
            refine k_callSlr C (As := [.long (jMix (jMix (jMix (jMix (jTab (bvl v) 30 5 5 (nI (bnL v)) (jTab (bvb v) 192 8 8 (nI (bnB v)) (jHor v (jMix (jMix (jD1 v hi 14) ((jSetting v 0).toInt64)) ((jSetting v 1).toInt64)) (bnH v)) (bnB v)) (bnL v)) ((jIf v x).toInt64)) (((jWst v (bnH v)).1).toInt64)) (dBits (jShare v) K)) (zL z0.2)), .long (zL z1.2)]) (rest := []) (m_X6_mixed l D cI cC cZ cB cJ ad N G4 (jMix (jMix (jMix (jMix (jTab (bvl v) 30 5 5 (nI (bnL v)) (jTab (bvb v) 192 8 8 (nI (bnB v)) (jHor v (jMix (jMix (jD1 v hi 14) ((jSetting v 0).toInt64)) ((jSetting v 1).toInt64)) (bnH v)) (bnB v)) (bnL v)) ((jIf v x).toInt64)) (((jWst v (bnH v)).1).toInt64)) (dBits (jShare v) K)) (zL z0.2)) (zL z1.2)) gX6_digest_X6_mixed rfl kd_X6_mixed rfl rfl ⟨Nat.le_of_ble_eq_true rfl, Nat.le_of_ble_eq_true rfl⟩ rfl rfl (Nat.le_of_ble_eq_true rfl) ⟨Nat.zero_le _, Nat.zero_le _⟩ dX6_digest_149 ?_
            refine k_lstore_n C (lv' := [(1, .long (jMix (jMix (jMix (jMix (jMix (jTab (bvl v) 30 5 5 (nI (bnL v)) (jTab (bvb v) 192 8 8 (nI (bnB v)) (jHor v (jMix (jMix (jD1 v hi 14) ((jSetting v 0).toInt64)) ((jSetting v 1).toInt64)) (bnH v)) (bnB v)) (bnL v)) ((jIf v x).toInt64)) (((jWst v (bnH v)).1).toInt64)) (dBits (jShare v) K)) (zL z0.2)) (zL z1.2))), (0, .ref (ad 0)), (3, .int (nI 14))]) dX6_digest_152 rfl (by decide) rfl ?_
            refine k_lload_n C dX6_digest_153 rfl (j := 0) rfl ?_
            refine k_aload_n C dX6_digest_154 rfl (j := 1) rfl ?_
            refine k_get C 0 inX6_digest_6 (by omega) hF_G4.1 rfl 2 (by decide) (List.mem_of_getElem? (i := 7) rfl) rfl rfl dX6_digest_155 ?_
            refine k_callVir C (As := []) (rest := [.long (jMix (jMix (jMix (jMix (jMix (jTab (bvl v) 30 5 5 (nI (bnL v)) (jTab (bvb v) 192 8 8 (nI (bnB v)) (jHor v (jMix (jMix (jD1 v hi 14) ((jSetting v 0).toInt64)) ((jSetting v 1).toInt64)) (bnH v)) (bnB v)) (bnL v)) ((jIf v x).toInt64)) (((jWst v (bnH v)).1).toInt64)) (dBits (jShare v) K)) (zL z0.2)) (zL z1.2))]) 11 (m_X5_length l D cI cC cZ cB cJ ad N G4 11 x (by omega) hF_G4.2.2.2.1) gX6_digest_X5_length rfl kd_X5_length rfl rfl ⟨Nat.le_of_ble_eq_true rfl, Nat.le_of_ble_eq_true rfl⟩ (by omega) hF_G4.2.2.2.1.1 rfl rfl rfl (Nat.le_of_ble_eq_true rfl) ⟨Nat.zero_le _, Nat.zero_le _⟩ dX6_digest_158 ?_
            refine k_i2l C dX6_digest_161 ?_
            refine k_callSlr C (As := [.long (jMix (jMix (jMix (jMix (jMix (jTab (bvl v) 30 5 5 (nI (bnL v)) (jTab (bvb v) 192 8 8 (nI (bnB v)) (jHor v (jMix (jMix (jD1 v hi 14) ((jSetting v 0).toInt64)) ((jSetting v 1).toInt64)) (bnH v)) (bnB v)) (bnL v)) ((jIf v x).toInt64)) (((jWst v (bnH v)).1).toInt64)) (dBits (jShare v) K)) (zL z0.2)) (zL z1.2)), .long ((nI (txN x)).toInt64)]) (rest := []) (m_X6_mixed l D cI cC cZ cB cJ ad N G4 (jMix (jMix (jMix (jMix (jMix (jTab (bvl v) 30 5 5 (nI (bnL v)) (jTab (bvb v) 192 8 8 (nI (bnB v)) (jHor v (jMix (jMix (jD1 v hi 14) ((jSetting v 0).toInt64)) ((jSetting v 1).toInt64)) (bnH v)) (bnB v)) (bnL v)) ((jIf v x).toInt64)) (((jWst v (bnH v)).1).toInt64)) (dBits (jShare v) K)) (zL z0.2)) (zL z1.2)) ((nI (txN x)).toInt64)) gX6_digest_X6_mixed rfl kd_X6_mixed rfl rfl ⟨Nat.le_of_ble_eq_true rfl, Nat.le_of_ble_eq_true rfl⟩ rfl rfl (Nat.le_of_ble_eq_true rfl) ⟨Nat.zero_le _, Nat.zero_le _⟩ dX6_digest_162 ?_
            refine k_lstore_n C (lv' := [(1, .long (jMix (jMix (jMix (jMix (jMix (jMix (jTab (bvl v) 30 5 5 (nI (bnL v)) (jTab (bvb v) 192 8 8 (nI (bnB v)) (jHor v (jMix (jMix (jD1 v hi 14) ((jSetting v 0).toInt64)) ((jSetting v 1).toInt64)) (bnH v)) (bnB v)) (bnL v)) ((jIf v x).toInt64)) (((jWst v (bnH v)).1).toInt64)) (dBits (jShare v) K)) (zL z0.2)) (zL z1.2)) ((nI (txN x)).toInt64))), (0, .ref (ad 0)), (3, .int (nI 14))]) dX6_digest_165 rfl (by decide) rfl ?_
            refine k_iconst C (v := 0) dX6_digest_166 (by decide) ?_
            refine k_istore_n C (lv' := [(3, .int 0), (1, .long (jMix (jMix (jMix (jMix (jMix (jMix (jTab (bvl v) 30 5 5 (nI (bnL v)) (jTab (bvb v) 192 8 8 (nI (bnB v)) (jHor v (jMix (jMix (jD1 v hi 14) ((jSetting v 0).toInt64)) ((jSetting v 1).toInt64)) (bnH v)) (bnB v)) (bnL v)) ((jIf v x).toInt64)) (((jWst v (bnH v)).1).toInt64)) (dBits (jShare v) K)) (zL z0.2)) (zL z1.2)) ((nI (txN x)).toInt64))), (0, .ref (ad 0))]) dX6_digest_167 rfl (by decide) rfl ?_
            have loop168 : ∀ (k : Nat) (i : Nat) , (txN x + 1 ≤ i + k) → (i ≤ txN x) → kJ p l e rX6_digest s m args below meth c 0 0 Q 4 D ad N A G4 168 [(0, .ref (ad 0)), (1, .long (jDX x (jMix (jMix (jMix (jMix (jMix (jMix (jD2 v hi) (jIf v x).toInt64) (jWst v (bnH v)).1.toInt64) (dBits (jShare v) K)) (zL z0.2)) (zL z1.2)) (nI (txN x)).toInt64) i)), (3, .int (nI i))] [] := by
              intro k
              induction k with
              | zero => intro i  h1 h2; exact absurd h1 (by omega)
              | succ k ih168 =>
                intro i  h1 h2
                refine k_iload_n C dX6_digest_168 rfl (j := 2) rfl ?_
                refine k_aload_n C dX6_digest_169 rfl (j := 0) rfl ?_
                refine k_get C 0 inX6_digest_6 (by omega) hF_G4.1 rfl 2 (by decide) (List.mem_of_getElem? (i := 7) rfl) rfl rfl dX6_digest_170 ?_
                refine k_callVir C (As := []) (rest := [.int (nI i)]) 11 (m_X5_length l D cI cC cZ cB cJ ad N G4 11 x (by omega) hF_G4.2.2.2.1) gX6_digest_X5_length rfl kd_X5_length rfl rfl ⟨Nat.le_of_ble_eq_true rfl, Nat.le_of_ble_eq_true rfl⟩ (by omega) hF_G4.2.2.2.1.1 rfl rfl rfl (Nat.le_of_ble_eq_true rfl) ⟨Nat.zero_le _, Nat.zero_le _⟩ dX6_digest_173 ?_
                refine k_icmp_ge C 199 dX6_digest_176 (by decide) (fun c_176 => ?_) (fun c_176 => ?_)
                · skip
                  have hi2 : i = txN x := k_ge c_176 (by omega) h2
                  refine k_lload_n C dX6_digest_199 rfl (j := 1) rfl ?_
                  exact k_lret C hQ rfl dX6_digest_200 ⟨by rw [hi2]; rfl, _, ⟨hF_G4.1, hF_G4.2.1, hF_G4.2.2.1, hF_G4.2.2.2.1, hF_G4.2.2.2.2.1, hF_G4.2.2.2.2.2.1, hF_G4.2.2.2.2.2.2⟩, fun j hj => (hfr_G4 j (by omega) : _).trans ((hfr_G3 j (by omega) : _).trans ((hfr_G2 j (by omega) : _).trans (hfr_G1 j (by omega))))⟩
                · skip
                  have hi2 : i < txN x := k_lt c_176 (by omega) h2
                  refine k_lload_n C dX6_digest_179 rfl (j := 1) rfl ?_
                  refine k_aload_n C dX6_digest_180 rfl (j := 0) rfl ?_
                  refine k_get C 0 inX6_digest_6 (by omega) hF_G4.1 rfl 2 (by decide) (List.mem_of_getElem? (i := 7) rfl) rfl rfl dX6_digest_181 ?_
                  refine k_iload_n C dX6_digest_184 rfl (j := 2) rfl ?_
                  refine k_callVir C (As := [.int (nI i)]) (rest := [.long (jDX x (jMix (jMix (jMix (jMix (jMix (jMix (jD2 v hi) (jIf v x).toInt64) (jWst v (bnH v)).1.toInt64) (dBits (jShare v) K)) (zL z0.2)) (zL z1.2)) (nI (txN x)).toInt64) i)]) 11 (m_X5_codeAt l D cI cC cZ cB cJ ad N G4 11 x (nI i) (by omega) hF_G4.2.2.2.1) gX6_digest_X5_codeAt rfl kd_X5_codeAt rfl rfl ⟨Nat.le_of_ble_eq_true rfl, Nat.le_of_ble_eq_true rfl⟩ (by omega) hF_G4.2.2.2.1.1 rfl rfl rfl (Nat.le_of_ble_eq_true rfl) ⟨Nat.zero_le _, Nat.zero_le _⟩ dX6_digest_185 ?_
                  refine k_i2l C dX6_digest_188 ?_
                  refine k_callSlr C (As := [.long (jDX x (jMix (jMix (jMix (jMix (jMix (jMix (jD2 v hi) (jIf v x).toInt64) (jWst v (bnH v)).1.toInt64) (dBits (jShare v) K)) (zL z0.2)) (zL z1.2)) (nI (txN x)).toInt64) i), .long ((txAt x (nI i)).toInt64)]) (rest := []) (m_X6_mixed l D cI cC cZ cB cJ ad N G4 (jDX x (jMix (jMix (jMix (jMix (jMix (jMix (jD2 v hi) (jIf v x).toInt64) (jWst v (bnH v)).1.toInt64) (dBits (jShare v) K)) (zL z0.2)) (zL z1.2)) (nI (txN x)).toInt64) i) ((txAt x (nI i)).toInt64)) gX6_digest_X6_mixed rfl kd_X6_mixed rfl rfl ⟨Nat.le_of_ble_eq_true rfl, Nat.le_of_ble_eq_true rfl⟩ rfl rfl (Nat.le_of_ble_eq_true rfl) ⟨Nat.zero_le _, Nat.zero_le _⟩ dX6_digest_189 ?_
                  refine k_lstore_n C (lv' := [(1, .long (jMix (jDX x (jMix (jMix (jMix (jMix (jMix (jMix (jD2 v hi) (jIf v x).toInt64) (jWst v (bnH v)).1.toInt64) (dBits (jShare v) K)) (zL z0.2)) (zL z1.2)) (nI (txN x)).toInt64) i) ((txAt x (nI i)).toInt64))), (0, .ref (ad 0)), (3, .int (nI i))]) dX6_digest_192 rfl (by decide) rfl ?_
                  refine k_iinc C (v := nI (i + 1)) (lv' := [(3, .int (nI (i + 1))), (1, .long (jMix (jDX x (jMix (jMix (jMix (jMix (jMix (jMix (jD2 v hi) (jIf v x).toInt64) (jWst v (bnH v)).1.toInt64) (dBits (jShare v) K)) (zL z0.2)) (zL z1.2)) (nI (txN x)).toInt64) i) ((txAt x (nI i)).toInt64))), (0, .ref (ad 0))]) dX6_digest_193 (j := 2) rfl (nI_1 i) (by decide) rfl ?_
                  refine k_goto C 168 dX6_digest_196 (by decide) ?_
                  exact k_sub [2, 1, 0] rfl (ih168 (i + 1) (by omega) (by omega))
            exact k_sub [2, 1, 0] rfl (loop168 (txN x + 1) 0 (by omega) (Nat.zero_le _))
        · skip
          have e_121 := bI_t c_121
          refine k_lconst C (v := 1) dX6_digest_124 (by decide) ?_
          refine k_goto C 129 dX6_digest_125 (by decide) ?_
          refine k_congS (st' := [.long (zL z0.2), .long (jMix (jMix (jMix (jTab (bvl v) 30 5 5 (nI (bnL v)) (jTab (bvb v) 192 8 8 (nI (bnB v)) (jHor v (jMix (jMix (jD1 v hi 14) ((jSetting v 0).toInt64)) ((jSetting v 1).toInt64)) (bnH v)) (bnB v)) (bnL v)) ((jIf v x).toInt64)) (((jWst v (bnH v)).1).toInt64)) (dBits (jShare v) K))]) (by simp [zL, e_121]) ?_
          refine k_callSlr C (As := [.long (jMix (jMix (jMix (jTab (bvl v) 30 5 5 (nI (bnL v)) (jTab (bvb v) 192 8 8 (nI (bnB v)) (jHor v (jMix (jMix (jD1 v hi 14) ((jSetting v 0).toInt64)) ((jSetting v 1).toInt64)) (bnH v)) (bnB v)) (bnL v)) ((jIf v x).toInt64)) (((jWst v (bnH v)).1).toInt64)) (dBits (jShare v) K)), .long (zL z0.2)]) (rest := []) (m_X6_mixed l D cI cC cZ cB cJ ad N G4 (jMix (jMix (jMix (jTab (bvl v) 30 5 5 (nI (bnL v)) (jTab (bvb v) 192 8 8 (nI (bnB v)) (jHor v (jMix (jMix (jD1 v hi 14) ((jSetting v 0).toInt64)) ((jSetting v 1).toInt64)) (bnH v)) (bnB v)) (bnL v)) ((jIf v x).toInt64)) (((jWst v (bnH v)).1).toInt64)) (dBits (jShare v) K)) (zL z0.2)) gX6_digest_X6_mixed rfl kd_X6_mixed rfl rfl ⟨Nat.le_of_ble_eq_true rfl, Nat.le_of_ble_eq_true rfl⟩ rfl rfl (Nat.le_of_ble_eq_true rfl) ⟨Nat.zero_le _, Nat.zero_le _⟩ dX6_digest_129 ?_
          refine k_lstore_n C (lv' := [(1, .long (jMix (jMix (jMix (jMix (jTab (bvl v) 30 5 5 (nI (bnL v)) (jTab (bvb v) 192 8 8 (nI (bnB v)) (jHor v (jMix (jMix (jD1 v hi 14) ((jSetting v 0).toInt64)) ((jSetting v 1).toInt64)) (bnH v)) (bnB v)) (bnL v)) ((jIf v x).toInt64)) (((jWst v (bnH v)).1).toInt64)) (dBits (jShare v) K)) (zL z0.2))), (0, .ref (ad 0)), (3, .int (nI 14))]) dX6_digest_132 rfl (by decide) rfl ?_
          refine k_lload_n C dX6_digest_133 rfl (j := 0) rfl ?_
          refine k_aload_n C dX6_digest_134 rfl (j := 1) rfl ?_
          refine k_get C 0 inX6_digest_6 (by omega) hF_G4.1 rfl 5 (by decide) (List.mem_of_getElem? (i := 6) rfl) rfl rfl dX6_digest_135 ?_
          refine k_callVir C (As := []) (rest := [.long (jMix (jMix (jMix (jMix (jTab (bvl v) 30 5 5 (nI (bnL v)) (jTab (bvb v) 192 8 8 (nI (bnB v)) (jHor v (jMix (jMix (jD1 v hi 14) ((jSetting v 0).toInt64)) ((jSetting v 1).toInt64)) (bnH v)) (bnB v)) (bnL v)) ((jIf v x).toInt64)) (((jWst v (bnH v)).1).toInt64)) (dBits (jShare v) K)) (zL z0.2))]) 65 (m_X3_isFull l D cI cC cZ cB cJ ad N G4 65 z1 (by omega) hF_G4.2.2.2.2.2.2) gX6_digest_X3_isFull rfl kd_X3_isFull rfl rfl ⟨Nat.le_of_ble_eq_true rfl, Nat.le_of_ble_eq_true rfl⟩ (by omega) hF_G4.2.2.2.2.2.2.1 rfl rfl rfl (Nat.le_of_ble_eq_true rfl) ⟨Nat.zero_le _, Nat.zero_le _⟩ dX6_digest_138 ?_
          refine k_if_eq C 148 dX6_digest_141 (by decide) (fun c_141 => ?_) (fun c_141 => ?_)
          · skip
            have e_141 := bI_f c_141
            refine k_lconst C (v := 0) dX6_digest_148 (by decide) ?_
            refine k_congS (st' := [.long (zL z1.2), .long (jMix (jMix (jMix (jMix (jTab (bvl v) 30 5 5 (nI (bnL v)) (jTab (bvb v) 192 8 8 (nI (bnB v)) (jHor v (jMix (jMix (jD1 v hi 14) ((jSetting v 0).toInt64)) ((jSetting v 1).toInt64)) (bnH v)) (bnB v)) (bnL v)) ((jIf v x).toInt64)) (((jWst v (bnH v)).1).toInt64)) (dBits (jShare v) K)) (zL z0.2))]) (by simp [zL, e_141]) ?_
            refine k_callSlr C (As := [.long (jMix (jMix (jMix (jMix (jTab (bvl v) 30 5 5 (nI (bnL v)) (jTab (bvb v) 192 8 8 (nI (bnB v)) (jHor v (jMix (jMix (jD1 v hi 14) ((jSetting v 0).toInt64)) ((jSetting v 1).toInt64)) (bnH v)) (bnB v)) (bnL v)) ((jIf v x).toInt64)) (((jWst v (bnH v)).1).toInt64)) (dBits (jShare v) K)) (zL z0.2)), .long (zL z1.2)]) (rest := []) (m_X6_mixed l D cI cC cZ cB cJ ad N G4 (jMix (jMix (jMix (jMix (jTab (bvl v) 30 5 5 (nI (bnL v)) (jTab (bvb v) 192 8 8 (nI (bnB v)) (jHor v (jMix (jMix (jD1 v hi 14) ((jSetting v 0).toInt64)) ((jSetting v 1).toInt64)) (bnH v)) (bnB v)) (bnL v)) ((jIf v x).toInt64)) (((jWst v (bnH v)).1).toInt64)) (dBits (jShare v) K)) (zL z0.2)) (zL z1.2)) gX6_digest_X6_mixed rfl kd_X6_mixed rfl rfl ⟨Nat.le_of_ble_eq_true rfl, Nat.le_of_ble_eq_true rfl⟩ rfl rfl (Nat.le_of_ble_eq_true rfl) ⟨Nat.zero_le _, Nat.zero_le _⟩ dX6_digest_149 ?_
            refine k_lstore_n C (lv' := [(1, .long (jMix (jMix (jMix (jMix (jMix (jTab (bvl v) 30 5 5 (nI (bnL v)) (jTab (bvb v) 192 8 8 (nI (bnB v)) (jHor v (jMix (jMix (jD1 v hi 14) ((jSetting v 0).toInt64)) ((jSetting v 1).toInt64)) (bnH v)) (bnB v)) (bnL v)) ((jIf v x).toInt64)) (((jWst v (bnH v)).1).toInt64)) (dBits (jShare v) K)) (zL z0.2)) (zL z1.2))), (0, .ref (ad 0)), (3, .int (nI 14))]) dX6_digest_152 rfl (by decide) rfl ?_
            refine k_lload_n C dX6_digest_153 rfl (j := 0) rfl ?_
            refine k_aload_n C dX6_digest_154 rfl (j := 1) rfl ?_
            refine k_get C 0 inX6_digest_6 (by omega) hF_G4.1 rfl 2 (by decide) (List.mem_of_getElem? (i := 7) rfl) rfl rfl dX6_digest_155 ?_
            refine k_callVir C (As := []) (rest := [.long (jMix (jMix (jMix (jMix (jMix (jTab (bvl v) 30 5 5 (nI (bnL v)) (jTab (bvb v) 192 8 8 (nI (bnB v)) (jHor v (jMix (jMix (jD1 v hi 14) ((jSetting v 0).toInt64)) ((jSetting v 1).toInt64)) (bnH v)) (bnB v)) (bnL v)) ((jIf v x).toInt64)) (((jWst v (bnH v)).1).toInt64)) (dBits (jShare v) K)) (zL z0.2)) (zL z1.2))]) 11 (m_X5_length l D cI cC cZ cB cJ ad N G4 11 x (by omega) hF_G4.2.2.2.1) gX6_digest_X5_length rfl kd_X5_length rfl rfl ⟨Nat.le_of_ble_eq_true rfl, Nat.le_of_ble_eq_true rfl⟩ (by omega) hF_G4.2.2.2.1.1 rfl rfl rfl (Nat.le_of_ble_eq_true rfl) ⟨Nat.zero_le _, Nat.zero_le _⟩ dX6_digest_158 ?_
            refine k_i2l C dX6_digest_161 ?_
            refine k_callSlr C (As := [.long (jMix (jMix (jMix (jMix (jMix (jTab (bvl v) 30 5 5 (nI (bnL v)) (jTab (bvb v) 192 8 8 (nI (bnB v)) (jHor v (jMix (jMix (jD1 v hi 14) ((jSetting v 0).toInt64)) ((jSetting v 1).toInt64)) (bnH v)) (bnB v)) (bnL v)) ((jIf v x).toInt64)) (((jWst v (bnH v)).1).toInt64)) (dBits (jShare v) K)) (zL z0.2)) (zL z1.2)), .long ((nI (txN x)).toInt64)]) (rest := []) (m_X6_mixed l D cI cC cZ cB cJ ad N G4 (jMix (jMix (jMix (jMix (jMix (jTab (bvl v) 30 5 5 (nI (bnL v)) (jTab (bvb v) 192 8 8 (nI (bnB v)) (jHor v (jMix (jMix (jD1 v hi 14) ((jSetting v 0).toInt64)) ((jSetting v 1).toInt64)) (bnH v)) (bnB v)) (bnL v)) ((jIf v x).toInt64)) (((jWst v (bnH v)).1).toInt64)) (dBits (jShare v) K)) (zL z0.2)) (zL z1.2)) ((nI (txN x)).toInt64)) gX6_digest_X6_mixed rfl kd_X6_mixed rfl rfl ⟨Nat.le_of_ble_eq_true rfl, Nat.le_of_ble_eq_true rfl⟩ rfl rfl (Nat.le_of_ble_eq_true rfl) ⟨Nat.zero_le _, Nat.zero_le _⟩ dX6_digest_162 ?_
            refine k_lstore_n C (lv' := [(1, .long (jMix (jMix (jMix (jMix (jMix (jMix (jTab (bvl v) 30 5 5 (nI (bnL v)) (jTab (bvb v) 192 8 8 (nI (bnB v)) (jHor v (jMix (jMix (jD1 v hi 14) ((jSetting v 0).toInt64)) ((jSetting v 1).toInt64)) (bnH v)) (bnB v)) (bnL v)) ((jIf v x).toInt64)) (((jWst v (bnH v)).1).toInt64)) (dBits (jShare v) K)) (zL z0.2)) (zL z1.2)) ((nI (txN x)).toInt64))), (0, .ref (ad 0)), (3, .int (nI 14))]) dX6_digest_165 rfl (by decide) rfl ?_
            refine k_iconst C (v := 0) dX6_digest_166 (by decide) ?_
            refine k_istore_n C (lv' := [(3, .int 0), (1, .long (jMix (jMix (jMix (jMix (jMix (jMix (jTab (bvl v) 30 5 5 (nI (bnL v)) (jTab (bvb v) 192 8 8 (nI (bnB v)) (jHor v (jMix (jMix (jD1 v hi 14) ((jSetting v 0).toInt64)) ((jSetting v 1).toInt64)) (bnH v)) (bnB v)) (bnL v)) ((jIf v x).toInt64)) (((jWst v (bnH v)).1).toInt64)) (dBits (jShare v) K)) (zL z0.2)) (zL z1.2)) ((nI (txN x)).toInt64))), (0, .ref (ad 0))]) dX6_digest_167 rfl (by decide) rfl ?_
            have loop168 : ∀ (k : Nat) (i : Nat) , (txN x + 1 ≤ i + k) → (i ≤ txN x) → kJ p l e rX6_digest s m args below meth c 0 0 Q 4 D ad N A G4 168 [(0, .ref (ad 0)), (1, .long (jDX x (jMix (jMix (jMix (jMix (jMix (jMix (jD2 v hi) (jIf v x).toInt64) (jWst v (bnH v)).1.toInt64) (dBits (jShare v) K)) (zL z0.2)) (zL z1.2)) (nI (txN x)).toInt64) i)), (3, .int (nI i))] [] := by
              intro k
              induction k with
              | zero => intro i  h1 h2; exact absurd h1 (by omega)
              | succ k ih168 =>
                intro i  h1 h2
                refine k_iload_n C dX6_digest_168 rfl (j := 2) rfl ?_
                refine k_aload_n C dX6_digest_169 rfl (j := 0) rfl ?_
                refine k_get C 0 inX6_digest_6 (by omega) hF_G4.1 rfl 2 (by decide) (List.mem_of_getElem? (i := 7) rfl) rfl rfl dX6_digest_170 ?_
                refine k_callVir C (As := []) (rest := [.int (nI i)]) 11 (m_X5_length l D cI cC cZ cB cJ ad N G4 11 x (by omega) hF_G4.2.2.2.1) gX6_digest_X5_length rfl kd_X5_length rfl rfl ⟨Nat.le_of_ble_eq_true rfl, Nat.le_of_ble_eq_true rfl⟩ (by omega) hF_G4.2.2.2.1.1 rfl rfl rfl (Nat.le_of_ble_eq_true rfl) ⟨Nat.zero_le _, Nat.zero_le _⟩ dX6_digest_173 ?_
                refine k_icmp_ge C 199 dX6_digest_176 (by decide) (fun c_176 => ?_) (fun c_176 => ?_)
                · skip
                  have hi2 : i = txN x := k_ge c_176 (by omega) h2
                  refine k_lload_n C dX6_digest_199 rfl (j := 1) rfl ?_
                  exact k_lret C hQ rfl dX6_digest_200 ⟨by rw [hi2]; rfl, _, ⟨hF_G4.1, hF_G4.2.1, hF_G4.2.2.1, hF_G4.2.2.2.1, hF_G4.2.2.2.2.1, hF_G4.2.2.2.2.2.1, hF_G4.2.2.2.2.2.2⟩, fun j hj => (hfr_G4 j (by omega) : _).trans ((hfr_G3 j (by omega) : _).trans ((hfr_G2 j (by omega) : _).trans (hfr_G1 j (by omega))))⟩
                · skip
                  have hi2 : i < txN x := k_lt c_176 (by omega) h2
                  refine k_lload_n C dX6_digest_179 rfl (j := 1) rfl ?_
                  refine k_aload_n C dX6_digest_180 rfl (j := 0) rfl ?_
                  refine k_get C 0 inX6_digest_6 (by omega) hF_G4.1 rfl 2 (by decide) (List.mem_of_getElem? (i := 7) rfl) rfl rfl dX6_digest_181 ?_
                  refine k_iload_n C dX6_digest_184 rfl (j := 2) rfl ?_
                  refine k_callVir C (As := [.int (nI i)]) (rest := [.long (jDX x (jMix (jMix (jMix (jMix (jMix (jMix (jD2 v hi) (jIf v x).toInt64) (jWst v (bnH v)).1.toInt64) (dBits (jShare v) K)) (zL z0.2)) (zL z1.2)) (nI (txN x)).toInt64) i)]) 11 (m_X5_codeAt l D cI cC cZ cB cJ ad N G4 11 x (nI i) (by omega) hF_G4.2.2.2.1) gX6_digest_X5_codeAt rfl kd_X5_codeAt rfl rfl ⟨Nat.le_of_ble_eq_true rfl, Nat.le_of_ble_eq_true rfl⟩ (by omega) hF_G4.2.2.2.1.1 rfl rfl rfl (Nat.le_of_ble_eq_true rfl) ⟨Nat.zero_le _, Nat.zero_le _⟩ dX6_digest_185 ?_
                  refine k_i2l C dX6_digest_188 ?_
                  refine k_callSlr C (As := [.long (jDX x (jMix (jMix (jMix (jMix (jMix (jMix (jD2 v hi) (jIf v x).toInt64) (jWst v (bnH v)).1.toInt64) (dBits (jShare v) K)) (zL z0.2)) (zL z1.2)) (nI (txN x)).toInt64) i), .long ((txAt x (nI i)).toInt64)]) (rest := []) (m_X6_mixed l D cI cC cZ cB cJ ad N G4 (jDX x (jMix (jMix (jMix (jMix (jMix (jMix (jD2 v hi) (jIf v x).toInt64) (jWst v (bnH v)).1.toInt64) (dBits (jShare v) K)) (zL z0.2)) (zL z1.2)) (nI (txN x)).toInt64) i) ((txAt x (nI i)).toInt64)) gX6_digest_X6_mixed rfl kd_X6_mixed rfl rfl ⟨Nat.le_of_ble_eq_true rfl, Nat.le_of_ble_eq_true rfl⟩ rfl rfl (Nat.le_of_ble_eq_true rfl) ⟨Nat.zero_le _, Nat.zero_le _⟩ dX6_digest_189 ?_
                  refine k_lstore_n C (lv' := [(1, .long (jMix (jDX x (jMix (jMix (jMix (jMix (jMix (jMix (jD2 v hi) (jIf v x).toInt64) (jWst v (bnH v)).1.toInt64) (dBits (jShare v) K)) (zL z0.2)) (zL z1.2)) (nI (txN x)).toInt64) i) ((txAt x (nI i)).toInt64))), (0, .ref (ad 0)), (3, .int (nI i))]) dX6_digest_192 rfl (by decide) rfl ?_
                  refine k_iinc C (v := nI (i + 1)) (lv' := [(3, .int (nI (i + 1))), (1, .long (jMix (jDX x (jMix (jMix (jMix (jMix (jMix (jMix (jD2 v hi) (jIf v x).toInt64) (jWst v (bnH v)).1.toInt64) (dBits (jShare v) K)) (zL z0.2)) (zL z1.2)) (nI (txN x)).toInt64) i) ((txAt x (nI i)).toInt64))), (0, .ref (ad 0))]) dX6_digest_193 (j := 2) rfl (nI_1 i) (by decide) rfl ?_
                  refine k_goto C 168 dX6_digest_196 (by decide) ?_
                  exact k_sub [2, 1, 0] rfl (ih168 (i + 1) (by omega) (by omega))
            exact k_sub [2, 1, 0] rfl (loop168 (txN x + 1) 0 (by omega) (Nat.zero_le _))
          · skip
            have e_141 := bI_t c_141
            refine k_lconst C (v := 1) dX6_digest_144 (by decide) ?_
            refine k_goto C 149 dX6_digest_145 (by decide) ?_
            refine k_congS (st' := [.long (zL z1.2), .long (jMix (jMix (jMix (jMix (jTab (bvl v) 30 5 5 (nI (bnL v)) (jTab (bvb v) 192 8 8 (nI (bnB v)) (jHor v (jMix (jMix (jD1 v hi 14) ((jSetting v 0).toInt64)) ((jSetting v 1).toInt64)) (bnH v)) (bnB v)) (bnL v)) ((jIf v x).toInt64)) (((jWst v (bnH v)).1).toInt64)) (dBits (jShare v) K)) (zL z0.2))]) (by simp [zL, e_141]) ?_
            refine k_callSlr C (As := [.long (jMix (jMix (jMix (jMix (jTab (bvl v) 30 5 5 (nI (bnL v)) (jTab (bvb v) 192 8 8 (nI (bnB v)) (jHor v (jMix (jMix (jD1 v hi 14) ((jSetting v 0).toInt64)) ((jSetting v 1).toInt64)) (bnH v)) (bnB v)) (bnL v)) ((jIf v x).toInt64)) (((jWst v (bnH v)).1).toInt64)) (dBits (jShare v) K)) (zL z0.2)), .long (zL z1.2)]) (rest := []) (m_X6_mixed l D cI cC cZ cB cJ ad N G4 (jMix (jMix (jMix (jMix (jTab (bvl v) 30 5 5 (nI (bnL v)) (jTab (bvb v) 192 8 8 (nI (bnB v)) (jHor v (jMix (jMix (jD1 v hi 14) ((jSetting v 0).toInt64)) ((jSetting v 1).toInt64)) (bnH v)) (bnB v)) (bnL v)) ((jIf v x).toInt64)) (((jWst v (bnH v)).1).toInt64)) (dBits (jShare v) K)) (zL z0.2)) (zL z1.2)) gX6_digest_X6_mixed rfl kd_X6_mixed rfl rfl ⟨Nat.le_of_ble_eq_true rfl, Nat.le_of_ble_eq_true rfl⟩ rfl rfl (Nat.le_of_ble_eq_true rfl) ⟨Nat.zero_le _, Nat.zero_le _⟩ dX6_digest_149 ?_
            refine k_lstore_n C (lv' := [(1, .long (jMix (jMix (jMix (jMix (jMix (jTab (bvl v) 30 5 5 (nI (bnL v)) (jTab (bvb v) 192 8 8 (nI (bnB v)) (jHor v (jMix (jMix (jD1 v hi 14) ((jSetting v 0).toInt64)) ((jSetting v 1).toInt64)) (bnH v)) (bnB v)) (bnL v)) ((jIf v x).toInt64)) (((jWst v (bnH v)).1).toInt64)) (dBits (jShare v) K)) (zL z0.2)) (zL z1.2))), (0, .ref (ad 0)), (3, .int (nI 14))]) dX6_digest_152 rfl (by decide) rfl ?_
            refine k_lload_n C dX6_digest_153 rfl (j := 0) rfl ?_
            refine k_aload_n C dX6_digest_154 rfl (j := 1) rfl ?_
            refine k_get C 0 inX6_digest_6 (by omega) hF_G4.1 rfl 2 (by decide) (List.mem_of_getElem? (i := 7) rfl) rfl rfl dX6_digest_155 ?_
            refine k_callVir C (As := []) (rest := [.long (jMix (jMix (jMix (jMix (jMix (jTab (bvl v) 30 5 5 (nI (bnL v)) (jTab (bvb v) 192 8 8 (nI (bnB v)) (jHor v (jMix (jMix (jD1 v hi 14) ((jSetting v 0).toInt64)) ((jSetting v 1).toInt64)) (bnH v)) (bnB v)) (bnL v)) ((jIf v x).toInt64)) (((jWst v (bnH v)).1).toInt64)) (dBits (jShare v) K)) (zL z0.2)) (zL z1.2))]) 11 (m_X5_length l D cI cC cZ cB cJ ad N G4 11 x (by omega) hF_G4.2.2.2.1) gX6_digest_X5_length rfl kd_X5_length rfl rfl ⟨Nat.le_of_ble_eq_true rfl, Nat.le_of_ble_eq_true rfl⟩ (by omega) hF_G4.2.2.2.1.1 rfl rfl rfl (Nat.le_of_ble_eq_true rfl) ⟨Nat.zero_le _, Nat.zero_le _⟩ dX6_digest_158 ?_
            refine k_i2l C dX6_digest_161 ?_
            refine k_callSlr C (As := [.long (jMix (jMix (jMix (jMix (jMix (jTab (bvl v) 30 5 5 (nI (bnL v)) (jTab (bvb v) 192 8 8 (nI (bnB v)) (jHor v (jMix (jMix (jD1 v hi 14) ((jSetting v 0).toInt64)) ((jSetting v 1).toInt64)) (bnH v)) (bnB v)) (bnL v)) ((jIf v x).toInt64)) (((jWst v (bnH v)).1).toInt64)) (dBits (jShare v) K)) (zL z0.2)) (zL z1.2)), .long ((nI (txN x)).toInt64)]) (rest := []) (m_X6_mixed l D cI cC cZ cB cJ ad N G4 (jMix (jMix (jMix (jMix (jMix (jTab (bvl v) 30 5 5 (nI (bnL v)) (jTab (bvb v) 192 8 8 (nI (bnB v)) (jHor v (jMix (jMix (jD1 v hi 14) ((jSetting v 0).toInt64)) ((jSetting v 1).toInt64)) (bnH v)) (bnB v)) (bnL v)) ((jIf v x).toInt64)) (((jWst v (bnH v)).1).toInt64)) (dBits (jShare v) K)) (zL z0.2)) (zL z1.2)) ((nI (txN x)).toInt64)) gX6_digest_X6_mixed rfl kd_X6_mixed rfl rfl ⟨Nat.le_of_ble_eq_true rfl, Nat.le_of_ble_eq_true rfl⟩ rfl rfl (Nat.le_of_ble_eq_true rfl) ⟨Nat.zero_le _, Nat.zero_le _⟩ dX6_digest_162 ?_
            refine k_lstore_n C (lv' := [(1, .long (jMix (jMix (jMix (jMix (jMix (jMix (jTab (bvl v) 30 5 5 (nI (bnL v)) (jTab (bvb v) 192 8 8 (nI (bnB v)) (jHor v (jMix (jMix (jD1 v hi 14) ((jSetting v 0).toInt64)) ((jSetting v 1).toInt64)) (bnH v)) (bnB v)) (bnL v)) ((jIf v x).toInt64)) (((jWst v (bnH v)).1).toInt64)) (dBits (jShare v) K)) (zL z0.2)) (zL z1.2)) ((nI (txN x)).toInt64))), (0, .ref (ad 0)), (3, .int (nI 14))]) dX6_digest_165 rfl (by decide) rfl ?_
            refine k_iconst C (v := 0) dX6_digest_166 (by decide) ?_
            refine k_istore_n C (lv' := [(3, .int 0), (1, .long (jMix (jMix (jMix (jMix (jMix (jMix (jTab (bvl v) 30 5 5 (nI (bnL v)) (jTab (bvb v) 192 8 8 (nI (bnB v)) (jHor v (jMix (jMix (jD1 v hi 14) ((jSetting v 0).toInt64)) ((jSetting v 1).toInt64)) (bnH v)) (bnB v)) (bnL v)) ((jIf v x).toInt64)) (((jWst v (bnH v)).1).toInt64)) (dBits (jShare v) K)) (zL z0.2)) (zL z1.2)) ((nI (txN x)).toInt64))), (0, .ref (ad 0))]) dX6_digest_167 rfl (by decide) rfl ?_
            have loop168 : ∀ (k : Nat) (i : Nat) , (txN x + 1 ≤ i + k) → (i ≤ txN x) → kJ p l e rX6_digest s m args below meth c 0 0 Q 4 D ad N A G4 168 [(0, .ref (ad 0)), (1, .long (jDX x (jMix (jMix (jMix (jMix (jMix (jMix (jD2 v hi) (jIf v x).toInt64) (jWst v (bnH v)).1.toInt64) (dBits (jShare v) K)) (zL z0.2)) (zL z1.2)) (nI (txN x)).toInt64) i)), (3, .int (nI i))] [] := by
              intro k
              induction k with
              | zero => intro i  h1 h2; exact absurd h1 (by omega)
              | succ k ih168 =>
                intro i  h1 h2
                refine k_iload_n C dX6_digest_168 rfl (j := 2) rfl ?_
                refine k_aload_n C dX6_digest_169 rfl (j := 0) rfl ?_
                refine k_get C 0 inX6_digest_6 (by omega) hF_G4.1 rfl 2 (by decide) (List.mem_of_getElem? (i := 7) rfl) rfl rfl dX6_digest_170 ?_
                refine k_callVir C (As := []) (rest := [.int (nI i)]) 11 (m_X5_length l D cI cC cZ cB cJ ad N G4 11 x (by omega) hF_G4.2.2.2.1) gX6_digest_X5_length rfl kd_X5_length rfl rfl ⟨Nat.le_of_ble_eq_true rfl, Nat.le_of_ble_eq_true rfl⟩ (by omega) hF_G4.2.2.2.1.1 rfl rfl rfl (Nat.le_of_ble_eq_true rfl) ⟨Nat.zero_le _, Nat.zero_le _⟩ dX6_digest_173 ?_
                refine k_icmp_ge C 199 dX6_digest_176 (by decide) (fun c_176 => ?_) (fun c_176 => ?_)
                · skip
                  have hi2 : i = txN x := k_ge c_176 (by omega) h2
                  refine k_lload_n C dX6_digest_199 rfl (j := 1) rfl ?_
                  exact k_lret C hQ rfl dX6_digest_200 ⟨by rw [hi2]; rfl, _, ⟨hF_G4.1, hF_G4.2.1, hF_G4.2.2.1, hF_G4.2.2.2.1, hF_G4.2.2.2.2.1, hF_G4.2.2.2.2.2.1, hF_G4.2.2.2.2.2.2⟩, fun j hj => (hfr_G4 j (by omega) : _).trans ((hfr_G3 j (by omega) : _).trans ((hfr_G2 j (by omega) : _).trans (hfr_G1 j (by omega))))⟩
                · skip
                  have hi2 : i < txN x := k_lt c_176 (by omega) h2
                  refine k_lload_n C dX6_digest_179 rfl (j := 1) rfl ?_
                  refine k_aload_n C dX6_digest_180 rfl (j := 0) rfl ?_
                  refine k_get C 0 inX6_digest_6 (by omega) hF_G4.1 rfl 2 (by decide) (List.mem_of_getElem? (i := 7) rfl) rfl rfl dX6_digest_181 ?_
                  refine k_iload_n C dX6_digest_184 rfl (j := 2) rfl ?_
                  refine k_callVir C (As := [.int (nI i)]) (rest := [.long (jDX x (jMix (jMix (jMix (jMix (jMix (jMix (jD2 v hi) (jIf v x).toInt64) (jWst v (bnH v)).1.toInt64) (dBits (jShare v) K)) (zL z0.2)) (zL z1.2)) (nI (txN x)).toInt64) i)]) 11 (m_X5_codeAt l D cI cC cZ cB cJ ad N G4 11 x (nI i) (by omega) hF_G4.2.2.2.1) gX6_digest_X5_codeAt rfl kd_X5_codeAt rfl rfl ⟨Nat.le_of_ble_eq_true rfl, Nat.le_of_ble_eq_true rfl⟩ (by omega) hF_G4.2.2.2.1.1 rfl rfl rfl (Nat.le_of_ble_eq_true rfl) ⟨Nat.zero_le _, Nat.zero_le _⟩ dX6_digest_185 ?_
                  refine k_i2l C dX6_digest_188 ?_
                  refine k_callSlr C (As := [.long (jDX x (jMix (jMix (jMix (jMix (jMix (jMix (jD2 v hi) (jIf v x).toInt64) (jWst v (bnH v)).1.toInt64) (dBits (jShare v) K)) (zL z0.2)) (zL z1.2)) (nI (txN x)).toInt64) i), .long ((txAt x (nI i)).toInt64)]) (rest := []) (m_X6_mixed l D cI cC cZ cB cJ ad N G4 (jDX x (jMix (jMix (jMix (jMix (jMix (jMix (jD2 v hi) (jIf v x).toInt64) (jWst v (bnH v)).1.toInt64) (dBits (jShare v) K)) (zL z0.2)) (zL z1.2)) (nI (txN x)).toInt64) i) ((txAt x (nI i)).toInt64)) gX6_digest_X6_mixed rfl kd_X6_mixed rfl rfl ⟨Nat.le_of_ble_eq_true rfl, Nat.le_of_ble_eq_true rfl⟩ rfl rfl (Nat.le_of_ble_eq_true rfl) ⟨Nat.zero_le _, Nat.zero_le _⟩ dX6_digest_189 ?_
                  refine k_lstore_n C (lv' := [(1, .long (jMix (jDX x (jMix (jMix (jMix (jMix (jMix (jMix (jD2 v hi) (jIf v x).toInt64) (jWst v (bnH v)).1.toInt64) (dBits (jShare v) K)) (zL z0.2)) (zL z1.2)) (nI (txN x)).toInt64) i) ((txAt x (nI i)).toInt64))), (0, .ref (ad 0)), (3, .int (nI i))]) dX6_digest_192 rfl (by decide) rfl ?_
                  refine k_iinc C (v := nI (i + 1)) (lv' := [(3, .int (nI (i + 1))), (1, .long (jMix (jDX x (jMix (jMix (jMix (jMix (jMix (jMix (jD2 v hi) (jIf v x).toInt64) (jWst v (bnH v)).1.toInt64) (dBits (jShare v) K)) (zL z0.2)) (zL z1.2)) (nI (txN x)).toInt64) i) ((txAt x (nI i)).toInt64))), (0, .ref (ad 0))]) dX6_digest_193 (j := 2) rfl (nI_1 i) (by decide) rfl ?_
                  refine k_goto C 168 dX6_digest_196 (by decide) ?_
                  exact k_sub [2, 1, 0] rfl (ih168 (i + 1) (by omega) (by omega))
            exact k_sub [2, 1, 0] rfl (loop168 (txN x + 1) 0 (by omega) (Nat.zero_le _))
      · skip
        have hi2 : i < 14 := k_lt (n := 14) c_9 (by decide) h2
        refine k_lload_n C dX6_digest_12 rfl (j := 1) rfl ?_
        refine k_aload_n C dX6_digest_13 rfl (j := 0) rfl ?_
        refine k_iload_n C dX6_digest_14 rfl (j := 2) rfl ?_
        refine k_callVir C (As := [.int (nI i)]) (rest := [.long (jD1 v hi i)]) 0 (m_X6_counted l D cI cC cZ cB cJ ad N G v w x hi z0 z1 i (by omega) ⟨hF.1, hF.2.1, hF.2.2.1, hF.2.2.2.1, hF.2.2.2.2.1, hF.2.2.2.2.2.1, hF.2.2.2.2.2.2⟩ (by omega)) gX6_digest_X6_counted rfl kd_X6_counted rfl rfl ⟨Nat.le_of_ble_eq_true rfl, Nat.le_of_ble_eq_true rfl⟩ (by omega) hF.1 rfl rfl rfl (Nat.le_of_ble_eq_true rfl) ⟨Nat.zero_le _, Nat.zero_le _⟩ dX6_digest_15 ?_
        refine k_i2l C dX6_digest_18 ?_
        refine k_callSlr C (As := [.long (jD1 v hi i), .long ((jCount v hi i).toInt64)]) (rest := []) (m_X6_mixed l D cI cC cZ cB cJ ad N G (jD1 v hi i) ((jCount v hi i).toInt64)) gX6_digest_X6_mixed rfl kd_X6_mixed rfl rfl ⟨Nat.le_of_ble_eq_true rfl, Nat.le_of_ble_eq_true rfl⟩ rfl rfl (Nat.le_of_ble_eq_true rfl) ⟨Nat.zero_le _, Nat.zero_le _⟩ dX6_digest_19 ?_
        refine k_lstore_n C (lv' := [(1, .long (jMix (jD1 v hi i) ((jCount v hi i).toInt64))), (0, .ref (ad 0)), (3, .int (nI i))]) dX6_digest_22 rfl (by decide) rfl ?_
        refine k_iinc C (v := nI (i + 1)) (lv' := [(3, .int (nI (i + 1))), (1, .long (jMix (jD1 v hi i) ((jCount v hi i).toInt64))), (0, .ref (ad 0))]) dX6_digest_23 (j := 2) rfl (nI_1 i) (by decide) rfl ?_
        refine k_goto C 6 dX6_digest_26 (by decide) ?_
        exact k_sub [2, 1, 0] rfl (ih6 (i + 1) (by omega) (by omega))
  exact k_sub [2, 1, 0] rfl (loop6 (14 + 1) 0 (by omega) (Nat.zero_le _))
