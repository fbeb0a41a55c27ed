/-! MODULE Arrival: cells a, a + 1 (first places), a + 2 (groups); MODULE Text: cells x, x + 1 (codes) -/
abbrev AV : Type := (Nat → Int32) × (Nat → Int32) × Int32 × Int32 × Int32
def avF (v : AV) : Nat → Int32 := v.1
def avG (v : AV) : Nat → Int32 := v.2.1
def avP (v : AV) : Int32 := v.2.2.1
def avA (v : AV) : Int32 := v.2.2.2.1
def avS (v : AV) : Int32 := v.2.2.2.2
def isAr (ad : Nat → Nat) (cI : ClassId) (G : Nat → va_E) (a : Nat) (v : AV) : Prop := G a = .inr (0, [.ref (ad (a + 1)), .ref (ad (a + 2)), .int (avP v), .int (avA v), .int (avS v)]) ∧ G (a + 1) = .inl (cI, 10, .inl (avF v)) ∧ G (a + 2) = .inl (cI, 10, .inl (avG v))
theorem isAr.keep {ad : Nat → Nat} {cI : ClassId} {G G' : Nat → va_E} {a : Nat} {v : AV} (h : isAr ad cI G a v) (hf : ∀ j, a ≤ j → j < a + 3 → G' j = G j) : isAr ad cI G' a v := ⟨(hf _ (by omega) (by omega)).trans h.1, (hf _ (by omega) (by omega)).trans h.2.1, (hf _ (by omega) (by omega)).trans h.2.2⟩
/-- the first i places set to -1 -/
def aB (f : Nat → Int32) (i : Nat) : Nat → Int32 := fun j => if j < i then -1 else f j
theorem aB_succ (f : Nat → Int32) {i : Nat} (h : i < 2 ^ 31) : upd (aB f i) (nI i).toNatClampNeg (-1) = aB f (i + 1) := by
  funext j
  rw [nI_clamp h]
  by_cases hj : j = i
  · subst hj; simp [upd, aB]
  · simp only [upd, aB, if_neg hj]
    by_cases h2 : j < i
    · rw [if_pos h2, if_pos (by omega)]
    · rw [if_neg h2, if_neg (by omega)]
def aBegin (v : AV) (p : Int32) : AV := (aB (avF v) 10, aB (avG v) 10, p, 0, 1)
def aIn (h : Int32) : Bool := !(decide (h < 0)) && !(decide (nI 10 ≤ h))
/-- the groups of the first i horses, where the first place is g, set to x -/
def aG (f : Nat → Int32) (g x : Int32) (r : Nat → Int32) (i : Nat) : Nat → Int32 := fun j => if j < i ∧ f j = g then x else r j
theorem aG_0 {f : Nat → Int32} {g x : Int32} {r : Nat → Int32} : aG f g x r 0 = r := by funext j; simp [aG]
theorem aG_yes {f : Nat → Int32} {g x : Int32} {r : Nat → Int32} {i : Nat} (hi : i < 2 ^ 31) (h : f i = g) : upd (aG f g x r i) (nI i).toNatClampNeg x = aG f g x r (i + 1) := by
  funext j
  rw [nI_clamp hi]
  by_cases hj : j = i
  · subst hj; simp [upd, aG, h]
  · simp only [upd, aG, if_neg hj]
    by_cases h2 : j < i
    · simp [h2, show j < i + 1 by omega]
    · simp [h2, show ¬ j < i + 1 by omega]
theorem aG_no {f : Nat → Int32} {g x : Int32} {r : Nat → Int32} {i : Nat} (h : ¬ f i = g) : aG f g x r i = aG f g x r (i + 1) := by
  funext j
  simp only [aG]
  by_cases hj : j = i
  · subst hj; simp [h]
  · by_cases h2 : j < i
    · simp [h2, show j < i + 1 by omega]
    · simp [h2, show ¬ j < i + 1 by omega]
def aS (v : AV) (w : Bool) : Int32 := if w = true then avS v else avA v + 1
def aArr (v : AV) (h : Int32) (w : Bool) : AV :=
  (upd (avF v) h.toNatClampNeg (aS v w), aG (upd (avF v) h.toNatClampNeg (aS v w)) (aS v w) (avA v + 1 - aS v w + 1) (avG v) 10, avP v, avA v + 1, aS v w)
/-- Arrival.arrive -/
def aArrive (v : AV) (h : Int32) (w : Bool) : AV := if aIn h = true then aArr v h w else v
def aOf (f : Nat → Int32) (h : Int32) : Int32 := if aIn h = true then f h.toNatClampNeg else -1
abbrev TV : Type := (Nat → Int32) × Nat
def txC (v : TV) : Nat → Int32 := v.1
def txN (v : TV) : Nat := v.2
def isTx (ad : Nat → Nat) (cI : ClassId) (G : Nat → va_E) (x : Nat) (v : TV) : Prop := G x = .inr (5, [.ref (ad (x + 1)), .int (nI (txN v))]) ∧ G (x + 1) = .inl (cI, 30, .inl (txC v)) ∧ txN v ≤ 30
theorem isTx.keep {ad : Nat → Nat} {cI : ClassId} {G G' : Nat → va_E} {x : Nat} {v : TV} (h : isTx ad cI G x v) (hf : ∀ j, x ≤ j → j < x + 2 → G' j = G j) : isTx ad cI G' x v := ⟨(hf _ (by omega) (by omega)).trans h.1, (hf _ (by omega) (by omega)).trans h.2.1, h.2.2⟩
def txIn (v : TV) (i : Int32) : Bool := !(decide (i < 0)) && !(decide (nI (txN v) ≤ i)) && !(decide (nI 30 ≤ i))
/-- Text.codeAt -/
def txAt (v : TV) (i : Int32) : Int32 := if txIn v i = true then txC v i.toNatClampNeg else 0
theorem txAt_nI {v : TV} {i : Nat} (h : i < txN v) (h2 : txN v ≤ 30) : txAt v (nI i) = txC v i := by
  have h3 : txIn v (nI i) = true := by
    have a1 : ¬ nI i < 0 := nI_pos (by omega)
    have a2 : ¬ nI (txN v) ≤ nI i := nI_ge h (by omega)
    have a3 : ¬ nI 30 ≤ nI i := nI_ge (by omega) (by omega)
    simp [txIn, a1, a2, a3]
  rw [txAt, if_pos h3, nI_clamp (by omega)]
def txBit (v : TV) (i : Nat) : Int32 := (1 : Int32) <<< ((txAt v (nI i) - 97) &&& 31)
/-- the letters used in the first i characters, where none of them is wrong -/
def txUsed (v : TV) : Nat → Int32
  | 0 => 0
  | i + 1 => if i % 2 = 0 then txUsed v i ||| txBit v i else txUsed v i
/-- the character i is wrong, where none before it is -/
def txBad (v : TV) (i : Nat) : Bool :=
  if i % 2 = 0 then decide (txAt v (nI i) - 97 < 0) || decide (10 ≤ txAt v (nI i) - 97) || !(decide (txUsed v i &&& txBit v i = 0))
  else decide (19 ≤ i) || (!(decide (txAt v (nI i) = 62)) && !(decide (txAt v (nI i) = 61)))
/-- the first wrong place from i on, k places looked at -/
def txF (v : TV) : Nat → Nat → Nat
  | 0, i => i
  | k + 1, i => if txBad v i = true then i else txF v k (i + 1)
def txWrong (v : TV) : Nat := txF v (txN v) 0
theorem txF_le (v : TV) : ∀ k i, i ≤ txF v k i ∧ txF v k i ≤ i + k
  | 0, i => ⟨Nat.le_refl _, Nat.le_refl _⟩
  | k + 1, i => by
    rw [txF]
    have := txF_le v k (i + 1)
    split <;> omega
theorem txWrong_le (v : TV) : txWrong v ≤ txN v := by have := (txF_le v (txN v) 0).2; rw [txWrong]; omega
def txArrival (v : TV) : Bool := decide (txN v % 2 = 1) && decide (txWrong v = txN v)
theorem k_rem2 {i : Nat} (h : i < 2 ^ 31) : nI i - nI i / 2 * 2 = nI (i % 2) := pk_rem (d := 2) h (by omega) (by omega)
theorem k_nI_eq {a : Nat} (b : Nat) (ha : a < 2 ^ 31) (hb : b < 2 ^ 31) : nI a = nI b ↔ a = b := nI_eq ha hb
theorem inX0_placeOf_0 : ∀ w ∈ wsX00, w ∈ wsX0_placeOf := fun _ h => List.mem_cons_of_mem _ (List.mem_append_right _ h)
theorem kd_X0_placeOf : yX0_placeOf.cls = RX0 ∧ yX0_placeOf.cls ≠ "java/lang/invoke/MethodHandle" ∧ yX0_placeOf.cls ≠ "java/lang/invoke/VarHandle" ∧ (parseMethodDescriptor yX0_placeOf.desc).map (fun d => d.parameters.length) = some 1 := by decide +kernel
abbrev rX0_placeOf : Room := ({ frames := 0, cells := 0, slots := 0, locals := 0 } : Room)
set_option maxRecDepth 100000 in
set_option maxHeartbeats 4000000 in
/-- placeOf -/
theorem m_X0_placeOf (l : Launch) (D : va_G) (cI cC cZ cB cJ : ClassId) (ad : Nat → Nat) (N : Nat) (G : Nat → va_E) (a : Nat) (v : AV) (x : Int32) (hNa : a + 3 ≤ N) (hA : isAr ad cI G a v) : kMi l yX0_placeOf wsX0_placeOf rX0_placeOf D (kT5 cI cC cZ cB cJ) ad N G [.ref (ad a), .int x] (fun r G' => r = aOf (avF v) x ∧ G' = G) := by
  refine k_starti (cc := cX0_placeOf) (ret := (some .int)) (maxL := 2) (lv0 := [(0, .ref (ad a)), (1, .int x)]) (by decide) rfl (Nat.le_of_ble_eq_true rfl) rfl ?_
  intro p e s m args below meth c A Q C hQ
  refine k_iload_n C dX0_placeOf_0 rfl (j := 1) rfl ?_
  refine k_if_lt C 22 dX0_placeOf_1 (by decide) (fun c_1 => ?_) (fun c_1 => ?_)
  · skip
    refine k_iconst C (v := (-1)) dX0_placeOf_22 (by decide) ?_
    exact k_iret C hQ rfl rfl dX0_placeOf_23 ⟨by simp [aOf, aIn, c_1], rfl⟩
  · skip
    refine k_iload_n C dX0_placeOf_4 rfl (j := 1) rfl ?_
    refine k_aload_n C dX0_placeOf_5 rfl (j := 0) rfl ?_
    refine k_get C a inX0_placeOf_0 (by omega) hA.1 rfl 0 (by decide) (List.mem_of_getElem? (i := 1) rfl) rfl rfl dX0_placeOf_6 ?_
    refine k_alen C (a + 1) 0 (by omega) hA.2.1 rfl dX0_placeOf_9 ?_
    refine k_icmp_ge C 22 dX0_placeOf_10 (by decide) (fun c_10 => ?_) (fun c_10 => ?_)
    · skip
      refine k_iconst C (v := (-1)) dX0_placeOf_22 (by decide) ?_
      exact k_iret C hQ rfl rfl dX0_placeOf_23 ⟨by simp [aOf, aIn, c_1, c_10], rfl⟩
    · skip
      refine k_aload_n C dX0_placeOf_13 rfl (j := 0) rfl ?_
      refine k_get C a inX0_placeOf_0 (by omega) hA.1 rfl 0 (by decide) (List.mem_of_getElem? (i := 1) rfl) rfl rfl dX0_placeOf_14 ?_
      refine k_iload_n C dX0_placeOf_17 rfl (j := 1) rfl ?_
      refine k_iald C (a + 1) 0 (by omega) hA.2.1 rfl (k_in c_1 c_10 (by decide)) dX0_placeOf_18 ?_
      refine k_goto C 23 dX0_placeOf_19 (by decide) ?_
      exact k_iret C hQ rfl rfl dX0_placeOf_23 ⟨by simp [aOf, aIn, c_1, c_10], rfl⟩
theorem inX0_groupOf_0 : ∀ w ∈ wsX00, w ∈ wsX0_groupOf := fun _ h => List.mem_cons_of_mem _ (List.mem_append_right _ h)
theorem kd_X0_groupOf : yX0_groupOf.cls = RX0 ∧ yX0_groupOf.cls ≠ "java/lang/invoke/MethodHandle" ∧ yX0_groupOf.cls ≠ "java/lang/invoke/VarHandle" ∧ (parseMethodDescriptor yX0_groupOf.desc).map (fun d => d.parameters.length) = some 1 := by decide +kernel
abbrev rX0_groupOf : Room := ({ frames := 0, cells := 0, slots := 0, locals := 0 } : Room)
set_option maxRecDepth 100000 in
set_option maxHeartbeats 4000000 in
/-- groupOf -/
theorem m_X0_groupOf (l : Launch) (D : va_G) (cI cC cZ cB cJ : ClassId) (ad : Nat → Nat) (N : Nat) (G : Nat → va_E) (a : Nat) (v : AV) (x : Int32) (hNa : a + 3 ≤ N) (hA : isAr ad cI G a v) : kMi l yX0_groupOf wsX0_groupOf rX0_groupOf D (kT5 cI cC cZ cB cJ) ad N G [.ref (ad a), .int x] (fun r G' => r = aOf (avG v) x ∧ G' = G) := by
  refine k_starti (cc := cX0_groupOf) (ret := (some .int)) (maxL := 2) (lv0 := [(0, .ref (ad a)), (1, .int x)]) (by decide) rfl (Nat.le_of_ble_eq_true rfl) rfl ?_
  intro p e s m args below meth c A Q C hQ
  refine k_iload_n C dX0_groupOf_0 rfl (j := 1) rfl ?_
  refine k_if_lt C 22 dX0_groupOf_1 (by decide) (fun c_1 => ?_) (fun c_1 => ?_)
  · skip
    refine k_iconst C (v := (-1)) dX0_groupOf_22 (by decide) ?_
    exact k_iret C hQ rfl rfl dX0_groupOf_23 ⟨by simp [aOf, aIn, c_1], rfl⟩
  · skip
    refine k_iload_n C dX0_groupOf_4 rfl (j := 1) rfl ?_
    refine k_aload_n C dX0_groupOf_5 rfl (j := 0) rfl ?_
    refine k_get C a inX0_groupOf_0 (by omega) hA.1 rfl 1 (by decide) (List.mem_of_getElem? (i := 1) rfl) rfl rfl dX0_groupOf_6 ?_
    refine k_alen C (a + 2) 0 (by omega) hA.2.2 rfl dX0_groupOf_9 ?_
    refine k_icmp_ge C 22 dX0_groupOf_10 (by decide) (fun c_10 => ?_) (fun c_10 => ?_)
    · skip
      refine k_iconst C (v := (-1)) dX0_groupOf_22 (by decide) ?_
      exact k_iret C hQ rfl rfl dX0_groupOf_23 ⟨by simp [aOf, aIn, c_1, c_10], rfl⟩
    · skip
      refine k_aload_n C dX0_groupOf_13 rfl (j := 0) rfl ?_
      refine k_get C a inX0_groupOf_0 (by omega) hA.1 rfl 1 (by decide) (List.mem_of_getElem? (i := 1) rfl) rfl rfl dX0_groupOf_14 ?_
      refine k_iload_n C dX0_groupOf_17 rfl (j := 1) rfl ?_
      refine k_iald C (a + 2) 0 (by omega) hA.2.2 rfl (k_in c_1 c_10 (by decide)) dX0_groupOf_18 ?_
      refine k_goto C 23 dX0_groupOf_19 (by decide) ?_
      exact k_iret C hQ rfl rfl dX0_groupOf_23 ⟨by simp [aOf, aIn, c_1, c_10], rfl⟩
theorem inX0_places_0 : ∀ w ∈ wsX00, w ∈ wsX0_places := fun _ h => List.mem_cons_of_mem _ (List.mem_append_right _ h)
theorem kd_X0_places : yX0_places.cls = RX0 ∧ yX0_places.cls ≠ "java/lang/invoke/MethodHandle" ∧ yX0_places.cls ≠ "java/lang/invoke/VarHandle" ∧ (parseMethodDescriptor yX0_places.desc).map (fun d => d.parameters.length) = some 0 := by decide +kernel
abbrev rX0_places : Room := ({ frames := 0, cells := 0, slots := 0, locals := 0 } : Room)
set_option maxRecDepth 100000 in
set_option maxHeartbeats 4000000 in
/-- places -/
theorem m_X0_places (l : Launch) (D : va_G) (cI cC cZ cB cJ : ClassId) (ad : Nat → Nat) (N : Nat) (G : Nat → va_E) (a : Nat) (v : AV) (hNa : a + 3 ≤ N) (hA : isAr ad cI G a v) : kMi l yX0_places wsX0_places rX0_places D (kT5 cI cC cZ cB cJ) ad N G [.ref (ad a)] (fun r G' => r = avP v ∧ G' = G) := by
  refine k_starti (cc := cX0_places) (ret := (some .int)) (maxL := 1) (lv0 := [(0, .ref (ad a))]) (by decide) rfl (Nat.le_of_ble_eq_true rfl) rfl ?_
  intro p e s m args below meth c A Q C hQ
  refine k_aload_n C dX0_places_0 rfl (j := 0) rfl ?_
  refine k_get C a inX0_places_0 (by omega) hA.1 rfl 2 (by decide) (List.mem_of_getElem? (i := 1) rfl) rfl rfl dX0_places_1 ?_
  exact k_iret C hQ rfl rfl dX0_places_4 ⟨rfl, rfl⟩
theorem inX0_begin_0 : ∀ w ∈ wsX00, w ∈ wsX0_begin := fun _ h => List.mem_cons_of_mem _ (List.mem_append_right _ h)
theorem kd_X0_begin : yX0_begin.cls = RX0 ∧ yX0_begin.cls ≠ "java/lang/invoke/MethodHandle" ∧ yX0_begin.cls ≠ "java/lang/invoke/VarHandle" ∧ (parseMethodDescriptor yX0_begin.desc).map (fun d => d.parameters.length) = some 1 := by decide +kernel
abbrev rX0_begin : Room := ({ frames := 0, cells := 0, slots := 0, locals := 0 } : Room)
set_option maxRecDepth 100000 in
set_option maxHeartbeats 4000000 in
/-- begin(x) -/
theorem m_X0_begin (l : Launch) (D : va_G) (cI cC cZ cB cJ : ClassId) (ad : Nat → Nat) (N : Nat) (G : Nat → va_E) (a : Nat) (v : AV) (x : Int32) (hNa : a + 3 ≤ N) (hA : isAr ad cI G a v) : kMv l yX0_begin wsX0_begin rX0_begin D (kT5 cI cC cZ cB cJ) ad N G [.ref (ad a), .int x] (fun G' => isAr ad cI G' a (aBegin v x) ∧ ∀ j, (j < a ∨ a + 3 ≤ j) → G' j = G j) := by
  refine k_startv (cc := cX0_begin) (ret := none) (maxL := 3) (lv0 := [(0, .ref (ad a)), (1, .int x)]) (by decide) rfl (Nat.le_of_ble_eq_true rfl) rfl ?_
  intro p e s m args below meth c A Q C hQ
  refine k_iconst C (v := 0) dX0_begin_0 (by decide) ?_
  refine k_istore_n C (lv' := [(2, .int 0), (0, .ref (ad a)), (1, .int x)]) dX0_begin_1 rfl (by decide) rfl ?_
  have loop2 : ∀ (k : Nat) (i : Nat) (G2 : Nat → va_E) , (10 + 1 ≤ i + k) → (i ≤ 10) → (G2 a = .inr (0, [.ref (ad (a + 1)), .ref (ad (a + 2)), .int (avP v), .int (avA v), .int (avS v)])) → (G2 (a + 1) = .inl (cI, 10, .inl (aB (avF v) i))) → (G2 (a + 2) = .inl (cI, 10, .inl (aB (avG v) i))) → (∀ j, (j < a ∨ a + 3 ≤ j) → G2 j = G j) → kJ p l e rX0_begin s m args below meth c 0 0 Q 3 D ad N A G2 2 [(0, .ref (ad a)), (1, .int x), (2, .int (nI i))] [] := by
    intro k
    induction k with
    | zero => intro i G2 h1 h2 ha0 ha1 ha2 hfr; exact absurd h1 (by omega)
    | succ k ih2 =>
      intro i G2 h1 h2 ha0 ha1 ha2 hfr
      refine k_iload_n C dX0_begin_2 rfl (j := 2) rfl ?_
      refine k_aload_n C dX0_begin_3 rfl (j := 0) rfl ?_
      refine k_get C a inX0_begin_0 (by omega) ha0 rfl 0 (by decide) (List.mem_of_getElem? (i := 1) rfl) rfl rfl dX0_begin_4 ?_
      refine k_alen C (a + 1) 0 (by omega) ha1 rfl dX0_begin_7 ?_
      refine k_icmp_ge C 40 dX0_begin_8 (by decide) (fun c_8 => ?_) (fun c_8 => ?_)
      · skip
        have hi : i = 10 := k_ge (n := 10) c_8 (by decide) h2
        subst hi
        refine k_aload_n C dX0_begin_40 rfl (j := 0) rfl ?_
        refine k_iload_n C dX0_begin_41 rfl (j := 1) rfl ?_
        refine k_put C a inX0_begin_0 tyX0 tyX0_ok nmX0 (by omega) ha0 rfl 2 (by decide) (List.mem_of_getElem? (i := 3) rfl) rfl rfl rfl rfl (Nat.le_of_ble_eq_true rfl) dX0_begin_42 (fun G1 hG1 => ?_)
        have h_a___1_G1 : G1 (a + 1) = .inl (cI, 10, .inl (aB (avF v) 10)) := up_at hG1 ha1 (by omega)
        have h_a___2_G1 : G1 (a + 2) = .inl (cI, 10, .inl (aB (avG v) 10)) := up_at hG1 ha2 (by omega)
        have h_a_G1 : G1 a = .inr (0, [.ref (ad (a + 1)), .ref (ad (a + 2)), .int x, .int (avA v), .int (avS v)]) := up_it hG1
        refine k_aload_n C dX0_begin_45 rfl (j := 0) rfl ?_
        refine k_iconst C (v := 0) dX0_begin_46 (by decide) ?_
        refine k_put C a inX0_begin_0 tyX0 tyX0_ok nmX0 (by omega) h_a_G1 rfl 3 (by decide) (List.mem_of_getElem? (i := 4) rfl) rfl rfl rfl rfl (Nat.le_of_ble_eq_true rfl) dX0_begin_47 (fun G2 hG2 => ?_)
        have h_a___1_G2 : G2 (a + 1) = .inl (cI, 10, .inl (aB (avF v) 10)) := up_at hG2 h_a___1_G1 (by omega)
        have h_a___2_G2 : G2 (a + 2) = .inl (cI, 10, .inl (aB (avG v) 10)) := up_at hG2 h_a___2_G1 (by omega)
        have h_a_G2 : G2 a = .inr (0, [.ref (ad (a + 1)), .ref (ad (a + 2)), .int x, .int 0, .int (avS v)]) := up_it hG2
        refine k_aload_n C dX0_begin_50 rfl (j := 0) rfl ?_
        refine k_iconst C (v := 1) dX0_begin_51 (by decide) ?_
        refine k_put C a inX0_begin_0 tyX0 tyX0_ok nmX0 (by omega) h_a_G2 rfl 4 (by decide) (List.mem_of_getElem? (i := 5) rfl) rfl rfl rfl rfl (Nat.le_of_ble_eq_true rfl) dX0_begin_52 (fun G3 hG3 => ?_)
        have h_a___1_G3 : G3 (a + 1) = .inl (cI, 10, .inl (aB (avF v) 10)) := up_at hG3 h_a___1_G2 (by omega)
        have h_a___2_G3 : G3 (a + 2) = .inl (cI, 10, .inl (aB (avG v) 10)) := up_at hG3 h_a___2_G2 (by omega)
        have h_a_G3 : G3 a = .inr (0, [.ref (ad (a + 1)), .ref (ad (a + 2)), .int x, .int 0, .int 1]) := up_it hG3
        exact k_vret C hQ rfl dX0_begin_55 ⟨⟨h_a_G3, h_a___1_G3, h_a___2_G3⟩, fun j hj => by rw [hG3, up_ne (by omega), hG2, up_ne (by omega), hG1, up_ne (by omega)]; exact hfr j hj⟩
      · skip
        have hi : i < 10 := k_lt (n := 10) c_8 (by decide) h2
        refine k_iload_n C dX0_begin_11 rfl (j := 2) rfl ?_
        refine k_aload_n C dX0_begin_12 rfl (j := 0) rfl ?_
        refine k_get C a inX0_begin_0 (by omega) ha0 rfl 1 (by decide) (List.mem_of_getElem? (i := 2) rfl) rfl rfl dX0_begin_13 ?_
        refine k_alen C (a + 2) 0 (by omega) ha2 rfl dX0_begin_16 ?_
        refine k_icmp_ge C 40 dX0_begin_17 (by decide) (fun q => absurd q (nI_ge hi (Nat.le_of_ble_eq_true rfl))) (fun _ => ?_)
        refine k_aload_n C dX0_begin_20 rfl (j := 0) rfl ?_
        refine k_get C a inX0_begin_0 (by omega) ha0 rfl 0 (by decide) (List.mem_of_getElem? (i := 1) rfl) rfl rfl dX0_begin_21 ?_
        refine k_iload_n C dX0_begin_24 rfl (j := 2) rfl ?_
        refine k_iconst C (v := (-1)) dX0_begin_25 (by decide) ?_
        refine k_iast C (a + 1) 0 (by omega) ha1 rfl (vp_in_nI hi (Nat.le_of_ble_eq_true rfl)) dX0_begin_26 (fun G4 hG4 => ?_)
        have h_a_G4 : G4 a = .inr (0, [.ref (ad (a + 1)), .ref (ad (a + 2)), .int (avP v), .int (avA v), .int (avS v)]) := up_at hG4 ha0 (by omega)
        have h_a___2_G4 : G4 (a + 2) = .inl (cI, 10, .inl (aB (avG v) i)) := up_at hG4 ha2 (by omega)
        have h_a___1_G4 : G4 (a + 1) = .inl (cI, 10, .inl (aB (avF v) (i + 1))) := by rw [up_it hG4]; rw [aB_succ _ (by omega)]
        refine k_aload_n C dX0_begin_27 rfl (j := 0) rfl ?_
        refine k_get C a inX0_begin_0 (by omega) h_a_G4 rfl 1 (by decide) (List.mem_of_getElem? (i := 2) rfl) rfl rfl dX0_begin_28 ?_
        refine k_iload_n C dX0_begin_31 rfl (j := 2) rfl ?_
        refine k_iconst C (v := (-1)) dX0_begin_32 (by decide) ?_
        refine k_iast C (a + 2) 0 (by omega) h_a___2_G4 rfl (vp_in_nI hi (Nat.le_of_ble_eq_true rfl)) dX0_begin_33 (fun G5 hG5 => ?_)
        have h_a_G5 : G5 a = .inr (0, [.ref (ad (a + 1)), .ref (ad (a + 2)), .int (avP v), .int (avA v), .int (avS v)]) := up_at hG5 h_a_G4 (by omega)
        have h_a___1_G5 : G5 (a + 1) = .inl (cI, 10, .inl (aB (avF v) (i + 1))) := up_at hG5 h_a___1_G4 (by omega)
        have h_a___2_G5 : G5 (a + 2) = .inl (cI, 10, .inl (aB (avG v) (i + 1))) := by rw [up_it hG5]; rw [aB_succ _ (by omega)]
        refine k_iinc C (v := nI (i + 1)) (lv' := [(2, .int (nI (i + 1))), (0, .ref (ad a)), (1, .int x)]) dX0_begin_34 (j := 2) rfl (nI_1 i) (by decide) rfl ?_
        refine k_goto C 2 dX0_begin_37 (by decide) ?_
        exact k_sub [1, 2, 0] rfl (ih2 (i + 1) G5 (by omega) (by omega) h_a_G5 h_a___1_G5 h_a___2_G5 (fun j hj => by rw [hG5, up_ne (by omega), hG4, up_ne (by omega)]; exact hfr j hj))
  exact k_sub [1, 2, 0] rfl (loop2 (10 + 1) 0 G (by omega) (by omega) hA.1 hA.2.1 hA.2.2 (fun _ _ => rfl))
theorem inX0_arrive_0 : ∀ w ∈ wsX00, w ∈ wsX0_arrive := fun _ h => List.mem_cons_of_mem _ (List.mem_append_right _ h)
theorem kd_X0_arrive : yX0_arrive.cls = RX0 ∧ yX0_arrive.cls ≠ "java/lang/invoke/MethodHandle" ∧ yX0_arrive.cls ≠ "java/lang/invoke/VarHandle" ∧ (parseMethodDescriptor yX0_arrive.desc).map (fun d => d.parameters.length) = some 2 := by decide +kernel
abbrev rX0_arrive : Room := ({ frames := 0, cells := 0, slots := 0, locals := 0 } : Room)
set_option maxRecDepth 100000 in
set_option maxHeartbeats 4000000 in
/-- arrive(x, w) -/
theorem m_X0_arrive (l : Launch) (D : va_G) (cI cC cZ cB cJ : ClassId) (ad : Nat → Nat) (N : Nat) (G : Nat → va_E) (a : Nat) (v : AV) (x : Int32) (w : Bool) (hNa : a + 3 ≤ N) (hA : isAr ad cI G a v) : kMv l yX0_arrive wsX0_arrive rX0_arrive D (kT5 cI cC cZ cB cJ) ad N G [.ref (ad a), .int x, .int (bI w)] (fun G' => isAr ad cI G' a (aArrive v x w) ∧ ∀ j, (j < a ∨ a + 3 ≤ j) → G' j = G j) := by
  refine k_startv (cc := cX0_arrive) (ret := none) (maxL := 4) (lv0 := [(0, .ref (ad a)), (1, .int x), (2, .int (bI w))]) (by decide) rfl (Nat.le_of_ble_eq_true rfl) rfl ?_
  intro p e s m args below meth c A Q C hQ
  refine k_iload_n C dX0_arrive_0 rfl (j := 1) rfl ?_
  refine k_if_lt C 13 dX0_arrive_1 (by decide) (fun c_1 => ?_) (fun c_1 => ?_)
  · skip
    exact k_vret C hQ rfl dX0_arrive_13 ⟨by rw [aArrive, if_neg (by simp [aIn, c_1])]; exact hA, fun _ _ => rfl⟩
  · skip
    refine k_iload_n C dX0_arrive_4 rfl (j := 1) rfl ?_
    refine k_aload_n C dX0_arrive_5 rfl (j := 0) rfl ?_
    refine k_get C a inX0_arrive_0 (by omega) hA.1 rfl 0 (by decide) (List.mem_of_getElem? (i := 1) rfl) rfl rfl dX0_arrive_6 ?_
    refine k_alen C (a + 1) 0 (by omega) hA.2.1 rfl dX0_arrive_9 ?_
    refine k_icmp_lt C 14 dX0_arrive_10 (by decide) (fun c_10 => ?_) (fun c_10 => ?_)
    · skip
      refine k_iload_n C dX0_arrive_14 rfl (j := 2) rfl ?_
      refine k_if_ne C 28 dX0_arrive_15 (by decide) (fun c_15 => ?_) (fun c_15 => ?_)
      · skip
        have hw : w = true := bI_t c_15
        have hs : avS v = aS v w := by rw [aS, if_pos hw]
        refine k_aload_n C dX0_arrive_28 rfl (j := 0) rfl ?_
        refine k_dup C dX0_arrive_29 rfl ?_
        refine k_get C a inX0_arrive_0 (by omega) hA.1 rfl 3 (by decide) (List.mem_of_getElem? (i := 2) rfl) rfl rfl dX0_arrive_30 ?_
        refine k_iconst C (v := 1) dX0_arrive_33 (by decide) ?_
        refine k_iadd C dX0_arrive_34 ?_
        refine k_put C a inX0_arrive_0 tyX0 tyX0_ok nmX0 (by omega) hA.1 rfl 3 (by decide) (List.mem_of_getElem? (i := 2) rfl) rfl rfl rfl rfl (Nat.le_of_ble_eq_true rfl) dX0_arrive_35 (fun G1 hG1 => ?_)
        have h_a___1_G1 : G1 (a + 1) = .inl (cI, 10, .inl (avF v)) := up_at hG1 hA.2.1 (by omega)
        have h_a___2_G1 : G1 (a + 2) = .inl (cI, 10, .inl (avG v)) := up_at hG1 hA.2.2 (by omega)
        have h_a_G1 : G1 a = .inr (0, [.ref (ad (a + 1)), .ref (ad (a + 2)), .int (avP v), .int ((avA v) + 1), .int (avS v)]) := up_it hG1
        refine k_aload_n C dX0_arrive_38 rfl (j := 0) rfl ?_
        refine k_get C a inX0_arrive_0 (by omega) h_a_G1 rfl 0 (by decide) (List.mem_of_getElem? (i := 1) rfl) rfl rfl dX0_arrive_39 ?_
        refine k_iload_n C dX0_arrive_42 rfl (j := 1) rfl ?_
        refine k_aload_n C dX0_arrive_43 rfl (j := 0) rfl ?_
        refine k_get C a inX0_arrive_0 (by omega) h_a_G1 rfl 4 (by decide) (List.mem_of_getElem? (i := 3) rfl) rfl rfl dX0_arrive_44 ?_
        refine k_iast C (a + 1) 0 (by omega) h_a___1_G1 rfl (k_in c_1 (fun h9 => absurd c_10 (by simpa using h9)) (by decide)) dX0_arrive_47 (fun G2 hG2 => ?_)
        have h_a___2_G2 : G2 (a + 2) = .inl (cI, 10, .inl (avG v)) := up_at hG2 h_a___2_G1 (by omega)
        have h_a_G2 : G2 a = .inr (0, [.ref (ad (a + 1)), .ref (ad (a + 2)), .int (avP v), .int ((avA v) + 1), .int (avS v)]) := up_at hG2 h_a_G1 (by omega)
        have h_a___1_G2 : G2 (a + 1) = .inl (cI, 10, .inl (upd (avF v) x.toNatClampNeg (avS v))) := up_it hG2
        refine k_iconst C (v := 0) dX0_arrive_48 (by decide) ?_
        refine k_istore_n C (lv' := [(3, .int 0), (0, .ref (ad a)), (1, .int x), (2, .int (bI w))]) dX0_arrive_49 rfl (by decide) rfl ?_
        have loop50 : ∀ (k : Nat) (i : Nat) (G2 : Nat → va_E) , (10 + 1 ≤ i + k) → (i ≤ 10) → (G2 a = .inr (0, [.ref (ad (a + 1)), .ref (ad (a + 2)), .int (avP v), .int (avA v + 1), .int (aS v w)])) → (G2 (a + 1) = .inl (cI, 10, .inl (upd (avF v) x.toNatClampNeg (aS v w)))) → (G2 (a + 2) = .inl (cI, 10, .inl (aG (upd (avF v) x.toNatClampNeg (aS v w)) (aS v w) (avA v + 1 - aS v w + 1) (avG v) i))) → (∀ j, (j < a ∨ a + 3 ≤ j) → G2 j = G j) → kJ p l e rX0_arrive s m args below meth c 0 0 Q 4 D ad N A G2 50 [(0, .ref (ad a)), (1, .int x), (2, .int (bI w)), (3, .int (nI i))] [] := by
          intro k
          induction k with
          | zero => intro i G2 h1 h2 ha0 ha1 ha2 hfr; exact absurd h1 (by omega)
          | succ k ih50 =>
            intro i G2 h1 h2 ha0 ha1 ha2 hfr
            refine k_iload_n C dX0_arrive_50 rfl (j := 3) rfl ?_
            refine k_aload_n C dX0_arrive_51 rfl (j := 0) rfl ?_
            refine k_get C a inX0_arrive_0 (by omega) ha0 rfl 0 (by decide) (List.mem_of_getElem? (i := 1) rfl) rfl rfl dX0_arrive_52 ?_
            refine k_alen C (a + 1) 0 (by omega) ha1 rfl dX0_arrive_55 ?_
            refine k_icmp_ge C 104 dX0_arrive_56 (by decide) (fun c_56 => ?_) (fun c_56 => ?_)
            · skip
              have hi : i = 10 := k_ge (n := 10) c_56 (by decide) h2
              subst hi
              exact k_vret C hQ rfl dX0_arrive_104 ⟨by rw [aArrive, if_pos (by simp [aIn, c_1, c_10])]; exact ⟨ha0, ha1, ha2⟩, hfr⟩
            · skip
              have hi : i < 10 := k_lt (n := 10) c_56 (by decide) h2
              refine k_iload_n C dX0_arrive_59 rfl (j := 3) rfl ?_
              refine k_aload_n C dX0_arrive_60 rfl (j := 0) rfl ?_
              refine k_get C a inX0_arrive_0 (by omega) ha0 rfl 1 (by decide) (List.mem_of_getElem? (i := 4) rfl) rfl rfl dX0_arrive_61 ?_
              refine k_alen C (a + 2) 0 (by omega) ha2 rfl dX0_arrive_64 ?_
              refine k_icmp_ge C 104 dX0_arrive_65 (by decide) (fun q => absurd q (nI_ge hi (Nat.le_of_ble_eq_true rfl))) (fun _ => ?_)
              refine k_aload_n C dX0_arrive_68 rfl (j := 0) rfl ?_
              refine k_get C a inX0_arrive_0 (by omega) ha0 rfl 0 (by decide) (List.mem_of_getElem? (i := 1) rfl) rfl rfl dX0_arrive_69 ?_
              refine k_iload_n C dX0_arrive_72 rfl (j := 3) rfl ?_
              refine k_iald C (a + 1) 0 (by omega) ha1 rfl (vp_in_nI hi (Nat.le_of_ble_eq_true rfl)) dX0_arrive_73 ?_
              refine k_aload_n C dX0_arrive_74 rfl (j := 0) rfl ?_
              refine k_get C a inX0_arrive_0 (by omega) ha0 rfl 4 (by decide) (List.mem_of_getElem? (i := 3) rfl) rfl rfl dX0_arrive_75 ?_
              refine k_icmp_ne C 98 dX0_arrive_78 (by decide) (fun c_78 => ?_) (fun c_78 => ?_)
              · skip
                refine k_iinc C (v := nI (i + 1)) (lv' := [(3, .int (nI (i + 1))), (0, .ref (ad a)), (1, .int x), (2, .int (bI w))]) dX0_arrive_98 (j := 3) rfl (nI_1 i) (by decide) rfl ?_
                refine k_goto C 50 dX0_arrive_101 (by decide) ?_
                exact k_sub [1, 2, 3, 0] rfl (ih50 (i + 1) G2 (by omega) (by omega) ha0 ha1 (by rw [ha2, aG_no (by rw [nI_clamp (by omega)] at c_78; exact c_78)]) hfr)
              · skip
                refine k_aload_n C dX0_arrive_81 rfl (j := 0) rfl ?_
                refine k_get C a inX0_arrive_0 (by omega) ha0 rfl 1 (by decide) (List.mem_of_getElem? (i := 4) rfl) rfl rfl dX0_arrive_82 ?_
                refine k_iload_n C dX0_arrive_85 rfl (j := 3) rfl ?_
                refine k_aload_n C dX0_arrive_86 rfl (j := 0) rfl ?_
                refine k_get C a inX0_arrive_0 (by omega) ha0 rfl 3 (by decide) (List.mem_of_getElem? (i := 2) rfl) rfl rfl dX0_arrive_87 ?_
                refine k_aload_n C dX0_arrive_90 rfl (j := 0) rfl ?_
                refine k_get C a inX0_arrive_0 (by omega) ha0 rfl 4 (by decide) (List.mem_of_getElem? (i := 3) rfl) rfl rfl dX0_arrive_91 ?_
                refine k_isub C dX0_arrive_94 ?_
                refine k_iconst C (v := 1) dX0_arrive_95 (by decide) ?_
                refine k_iadd C dX0_arrive_96 ?_
                refine k_iast C (a + 2) 0 (by omega) ha2 rfl (vp_in_nI hi (Nat.le_of_ble_eq_true rfl)) dX0_arrive_97 (fun G3 hG3 => ?_)
                have h_a_G3 : G3 a = .inr (0, [.ref (ad (a + 1)), .ref (ad (a + 2)), .int (avP v), .int (avA v + 1), .int (aS v w)]) := up_at hG3 ha0 (by omega)
                have h_a___1_G3 : G3 (a + 1) = .inl (cI, 10, .inl (upd (avF v) x.toNatClampNeg (aS v w))) := up_at hG3 ha1 (by omega)
                have h_a___2_G3 : G3 (a + 2) = .inl (cI, 10, .inl (aG (upd (avF v) x.toNatClampNeg (aS v w)) (aS v w) (avA v + 1 - aS v w + 1) (avG v) (i + 1))) := by rw [up_it hG3]; rw [aG_yes (by omega) (by rw [nI_clamp (by omega)] at c_78; exact c_78)]
                refine k_iinc C (v := nI (i + 1)) (lv' := [(3, .int (nI (i + 1))), (0, .ref (ad a)), (1, .int x), (2, .int (bI w))]) dX0_arrive_98 (j := 3) rfl (nI_1 i) (by decide) rfl ?_
                refine k_goto C 50 dX0_arrive_101 (by decide) ?_
                exact k_sub [1, 2, 3, 0] rfl (ih50 (i + 1) G3 (by omega) (by omega) h_a_G3 h_a___1_G3 h_a___2_G3 (fun j hj => by rw [hG3, up_ne (by omega)]; exact hfr j hj))
        exact k_sub [1, 2, 3, 0] rfl (loop50 (10 + 1) 0 G2 (by omega) (by omega) (by first | (rw [h_a_G2]; done) | rw [h_a_G2, hs]) (by first | (rw [h_a___1_G2]; done) | rw [h_a___1_G2, hs]) (by rw [h_a___2_G2, aG_0]) (fun j hj => by rw [hG2, up_ne (by omega), hG1, up_ne (by omega)]))
      · skip
        have hw : w = false := bI_f c_15
        have hs : avA v + 1 = aS v w := by rw [aS, if_neg (by rw [hw]; decide)]
        refine k_aload_n C dX0_arrive_18 rfl (j := 0) rfl ?_
        refine k_aload_n C dX0_arrive_19 rfl (j := 0) rfl ?_
        refine k_get C a inX0_arrive_0 (by omega) hA.1 rfl 3 (by decide) (List.mem_of_getElem? (i := 2) rfl) rfl rfl dX0_arrive_20 ?_
        refine k_iconst C (v := 1) dX0_arrive_23 (by decide) ?_
        refine k_iadd C dX0_arrive_24 ?_
        refine k_put C a inX0_arrive_0 tyX0 tyX0_ok nmX0 (by omega) hA.1 rfl 4 (by decide) (List.mem_of_getElem? (i := 3) rfl) rfl rfl rfl rfl (Nat.le_of_ble_eq_true rfl) dX0_arrive_25 (fun G4 hG4 => ?_)
        have h_a___1_G4 : G4 (a + 1) = .inl (cI, 10, .inl (avF v)) := up_at hG4 hA.2.1 (by omega)
        have h_a___2_G4 : G4 (a + 2) = .inl (cI, 10, .inl (avG v)) := up_at hG4 hA.2.2 (by omega)
        have h_a_G4 : G4 a = .inr (0, [.ref (ad (a + 1)), .ref (ad (a + 2)), .int (avP v), .int (avA v), .int ((avA v) + 1)]) := up_it hG4
        refine k_aload_n C dX0_arrive_28 rfl (j := 0) rfl ?_
        refine k_dup C dX0_arrive_29 rfl ?_
        refine k_get C a inX0_arrive_0 (by omega) h_a_G4 rfl 3 (by decide) (List.mem_of_getElem? (i := 2) rfl) rfl rfl dX0_arrive_30 ?_
        refine k_iconst C (v := 1) dX0_arrive_33 (by decide) ?_
        refine k_iadd C dX0_arrive_34 ?_
        refine k_put C a inX0_arrive_0 tyX0 tyX0_ok nmX0 (by omega) h_a_G4 rfl 3 (by decide) (List.mem_of_getElem? (i := 2) rfl) rfl rfl rfl rfl (Nat.le_of_ble_eq_true rfl) dX0_arrive_35 (fun G5 hG5 => ?_)
        have h_a___1_G5 : G5 (a + 1) = .inl (cI, 10, .inl (avF v)) := up_at hG5 h_a___1_G4 (by omega)
        have h_a___2_G5 : G5 (a + 2) = .inl (cI, 10, .inl (avG v)) := up_at hG5 h_a___2_G4 (by omega)
        have h_a_G5 : G5 a = .inr (0, [.ref (ad (a + 1)), .ref (ad (a + 2)), .int (avP v), .int ((avA v) + 1), .int ((avA v) + 1)]) := up_it hG5
        refine k_aload_n C dX0_arrive_38 rfl (j := 0) rfl ?_
        refine k_get C a inX0_arrive_0 (by omega) h_a_G5 rfl 0 (by decide) (List.mem_of_getElem? (i := 1) rfl) rfl rfl dX0_arrive_39 ?_
        refine k_iload_n C dX0_arrive_42 rfl (j := 1) rfl ?_
        refine k_aload_n C dX0_arrive_43 rfl (j := 0) rfl ?_
        refine k_get C a inX0_arrive_0 (by omega) h_a_G5 rfl 4 (by decide) (List.mem_of_getElem? (i := 3) rfl) rfl rfl dX0_arrive_44 ?_
        refine k_iast C (a + 1) 0 (by omega) h_a___1_G5 rfl (k_in c_1 (fun h9 => absurd c_10 (by simpa using h9)) (by decide)) dX0_arrive_47 (fun G6 hG6 => ?_)
        have h_a___2_G6 : G6 (a + 2) = .inl (cI, 10, .inl (avG v)) := up_at hG6 h_a___2_G5 (by omega)
        have h_a_G6 : G6 a = .inr (0, [.ref (ad (a + 1)), .ref (ad (a + 2)), .int (avP v), .int ((avA v) + 1), .int ((avA v) + 1)]) := up_at hG6 h_a_G5 (by omega)
        have h_a___1_G6 : G6 (a + 1) = .inl (cI, 10, .inl (upd (avF v) x.toNatClampNeg ((avA v) + 1))) := up_it hG6
        refine k_iconst C (v := 0) dX0_arrive_48 (by decide) ?_
        refine k_istore_n C (lv' := [(3, .int 0), (0, .ref (ad a)), (1, .int x), (2, .int (bI w))]) dX0_arrive_49 rfl (by decide) rfl ?_
        have loop50 : ∀ (k : Nat) (i : Nat) (G2 : Nat → va_E) , (10 + 1 ≤ i + k) → (i ≤ 10) → (G2 a = .inr (0, [.ref (ad (a + 1)), .ref (ad (a + 2)), .int (avP v), .int (avA v + 1), .int (aS v w)])) → (G2 (a + 1) = .inl (cI, 10, .inl (upd (avF v) x.toNatClampNeg (aS v w)))) → (G2 (a + 2) = .inl (cI, 10, .inl (aG (upd (avF v) x.toNatClampNeg (aS v w)) (aS v w) (avA v + 1 - aS v w + 1) (avG v) i))) → (∀ j, (j < a ∨ a + 3 ≤ j) → G2 j = G j) → kJ p l e rX0_arrive s m args below meth c 0 0 Q 4 D ad N A G2 50 [(0, .ref (ad a)), (1, .int x), (2, .int (bI w)), (3, .int (nI i))] [] := by
          intro k
          induction k with
          | zero => intro i G2 h1 h2 ha0 ha1 ha2 hfr; exact absurd h1 (by omega)
          | succ k ih50 =>
            intro i G2 h1 h2 ha0 ha1 ha2 hfr
            refine k_iload_n C dX0_arrive_50 rfl (j := 3) rfl ?_
            refine k_aload_n C dX0_arrive_51 rfl (j := 0) rfl ?_
            refine k_get C a inX0_arrive_0 (by omega) ha0 rfl 0 (by decide) (List.mem_of_getElem? (i := 1) rfl) rfl rfl dX0_arrive_52 ?_
            refine k_alen C (a + 1) 0 (by omega) ha1 rfl dX0_arrive_55 ?_
            refine k_icmp_ge C 104 dX0_arrive_56 (by decide) (fun c_56 => ?_) (fun c_56 => ?_)
            · skip
              have hi : i = 10 := k_ge (n := 10) c_56 (by decide) h2
              subst hi
              exact k_vret C hQ rfl dX0_arrive_104 ⟨by rw [aArrive, if_pos (by simp [aIn, c_1, c_10])]; exact ⟨ha0, ha1, ha2⟩, hfr⟩
            · skip
              have hi : i < 10 := k_lt (n := 10) c_56 (by decide) h2
              refine k_iload_n C dX0_arrive_59 rfl (j := 3) rfl ?_
              refine k_aload_n C dX0_arrive_60 rfl (j := 0) rfl ?_
              refine k_get C a inX0_arrive_0 (by omega) ha0 rfl 1 (by decide) (List.mem_of_getElem? (i := 4) rfl) rfl rfl dX0_arrive_61 ?_
              refine k_alen C (a + 2) 0 (by omega) ha2 rfl dX0_arrive_64 ?_
              refine k_icmp_ge C 104 dX0_arrive_65 (by decide) (fun q => absurd q (nI_ge hi (Nat.le_of_ble_eq_true rfl))) (fun _ => ?_)
              refine k_aload_n C dX0_arrive_68 rfl (j := 0) rfl ?_
              refine k_get C a inX0_arrive_0 (by omega) ha0 rfl 0 (by decide) (List.mem_of_getElem? (i := 1) rfl) rfl rfl dX0_arrive_69 ?_
              refine k_iload_n C dX0_arrive_72 rfl (j := 3) rfl ?_
              refine k_iald C (a + 1) 0 (by omega) ha1 rfl (vp_in_nI hi (Nat.le_of_ble_eq_true rfl)) dX0_arrive_73 ?_
              refine k_aload_n C dX0_arrive_74 rfl (j := 0) rfl ?_
              refine k_get C a inX0_arrive_0 (by omega) ha0 rfl 4 (by decide) (List.mem_of_getElem? (i := 3) rfl) rfl rfl dX0_arrive_75 ?_
              refine k_icmp_ne C 98 dX0_arrive_78 (by decide) (fun c_78 => ?_) (fun c_78 => ?_)
              · skip
                refine k_iinc C (v := nI (i + 1)) (lv' := [(3, .int (nI (i + 1))), (0, .ref (ad a)), (1, .int x), (2, .int (bI w))]) dX0_arrive_98 (j := 3) rfl (nI_1 i) (by decide) rfl ?_
                refine k_goto C 50 dX0_arrive_101 (by decide) ?_
                exact k_sub [1, 2, 3, 0] rfl (ih50 (i + 1) G2 (by omega) (by omega) ha0 ha1 (by rw [ha2, aG_no (by rw [nI_clamp (by omega)] at c_78; exact c_78)]) hfr)
              · skip
                refine k_aload_n C dX0_arrive_81 rfl (j := 0) rfl ?_
                refine k_get C a inX0_arrive_0 (by omega) ha0 rfl 1 (by decide) (List.mem_of_getElem? (i := 4) rfl) rfl rfl dX0_arrive_82 ?_
                refine k_iload_n C dX0_arrive_85 rfl (j := 3) rfl ?_
                refine k_aload_n C dX0_arrive_86 rfl (j := 0) rfl ?_
                refine k_get C a inX0_arrive_0 (by omega) ha0 rfl 3 (by decide) (List.mem_of_getElem? (i := 2) rfl) rfl rfl dX0_arrive_87 ?_
                refine k_aload_n C dX0_arrive_90 rfl (j := 0) rfl ?_
                refine k_get C a inX0_arrive_0 (by omega) ha0 rfl 4 (by decide) (List.mem_of_getElem? (i := 3) rfl) rfl rfl dX0_arrive_91 ?_
                refine k_isub C dX0_arrive_94 ?_
                refine k_iconst C (v := 1) dX0_arrive_95 (by decide) ?_
                refine k_iadd C dX0_arrive_96 ?_
                refine k_iast C (a + 2) 0 (by omega) ha2 rfl (vp_in_nI hi (Nat.le_of_ble_eq_true rfl)) dX0_arrive_97 (fun G7 hG7 => ?_)
                have h_a_G7 : G7 a = .inr (0, [.ref (ad (a + 1)), .ref (ad (a + 2)), .int (avP v), .int (avA v + 1), .int (aS v w)]) := up_at hG7 ha0 (by omega)
                have h_a___1_G7 : G7 (a + 1) = .inl (cI, 10, .inl (upd (avF v) x.toNatClampNeg (aS v w))) := up_at hG7 ha1 (by omega)
                have h_a___2_G7 : G7 (a + 2) = .inl (cI, 10, .inl (aG (upd (avF v) x.toNatClampNeg (aS v w)) (aS v w) (avA v + 1 - aS v w + 1) (avG v) (i + 1))) := by rw [up_it hG7]; rw [aG_yes (by omega) (by rw [nI_clamp (by omega)] at c_78; exact c_78)]
                refine k_iinc C (v := nI (i + 1)) (lv' := [(3, .int (nI (i + 1))), (0, .ref (ad a)), (1, .int x), (2, .int (bI w))]) dX0_arrive_98 (j := 3) rfl (nI_1 i) (by decide) rfl ?_
                refine k_goto C 50 dX0_arrive_101 (by decide) ?_
                exact k_sub [1, 2, 3, 0] rfl (ih50 (i + 1) G7 (by omega) (by omega) h_a_G7 h_a___1_G7 h_a___2_G7 (fun j hj => by rw [hG7, up_ne (by omega)]; exact hfr j hj))
        exact k_sub [1, 2, 3, 0] rfl (loop50 (10 + 1) 0 G6 (by omega) (by omega) (by first | (rw [h_a_G6]; done) | rw [h_a_G6, hs]) (by first | (rw [h_a___1_G6]; done) | rw [h_a___1_G6, hs]) (by rw [h_a___2_G6, aG_0]) (fun j hj => by rw [hG6, up_ne (by omega), hG5, up_ne (by omega), hG4, up_ne (by omega)]))
    · skip
      exact k_vret C hQ rfl dX0_arrive_13 ⟨by rw [aArrive, if_neg (by simp [aIn, c_1, c_10])]; exact hA, fun _ _ => rfl⟩
theorem inX5_length_5 : ∀ w ∈ wsX50, w ∈ wsX5_length := fun _ h => List.mem_cons_of_mem _ (List.mem_append_right _ h)
theorem kd_X5_length : yX5_length.cls = RX5 ∧ yX5_length.cls ≠ "java/lang/invoke/MethodHandle" ∧ yX5_length.cls ≠ "java/lang/invoke/VarHandle" ∧ (parseMethodDescriptor yX5_length.desc).map (fun d => d.parameters.length) = some 0 := by decide +kernel
abbrev rX5_length : Room := ({ frames := 0, cells := 0, slots := 0, locals := 0 } : Room)
set_option maxRecDepth 100000 in
set_option maxHeartbeats 4000000 in
/-- length() -/
theorem m_X5_length (l : Launch) (D : va_G) (cI cC cZ cB cJ : ClassId) (ad : Nat → Nat) (N : Nat) (G : Nat → va_E) (x : Nat) (v : TV) (hNx : x + 2 ≤ N) (hX : isTx ad cI G x v) : kMi l yX5_length wsX5_length rX5_length D (kT5 cI cC cZ cB cJ) ad N G [.ref (ad x)] (fun r G' => r = nI (txN v) ∧ G' = G) := by
  refine k_starti (cc := cX5_length) (ret := (some .int)) (maxL := 1) (lv0 := [(0, .ref (ad x))]) (by decide) rfl (Nat.le_of_ble_eq_true rfl) rfl ?_
  intro p e s m args below meth c A Q C hQ
  refine k_aload_n C dX5_length_0 rfl (j := 0) rfl ?_
  refine k_get C x inX5_length_5 (by omega) hX.1 rfl 1 (by decide) (List.mem_of_getElem? (i := 1) rfl) rfl rfl dX5_length_1 ?_
  exact k_iret C hQ rfl rfl dX5_length_4 ⟨rfl, rfl⟩
theorem inX5_isFull_5 : ∀ w ∈ wsX50, w ∈ wsX5_isFull := fun _ h => List.mem_cons_of_mem _ (List.mem_append_right _ h)
theorem kd_X5_isFull : yX5_isFull.cls = RX5 ∧ yX5_isFull.cls ≠ "java/lang/invoke/MethodHandle" ∧ yX5_isFull.cls ≠ "java/lang/invoke/VarHandle" ∧ (parseMethodDescriptor yX5_isFull.desc).map (fun d => d.parameters.length) = some 0 := by decide +kernel
abbrev rX5_isFull : Room := ({ frames := 0, cells := 0, slots := 0, locals := 0 } : Room)
set_option maxRecDepth 100000 in
set_option maxHeartbeats 4000000 in
/-- isFull() -/
theorem m_X5_isFull (l : Launch) (D : va_G) (cI cC cZ cB cJ : ClassId) (ad : Nat → Nat) (N : Nat) (G : Nat → va_E) (x : Nat) (v : TV) (hNx : x + 2 ≤ N) (hX : isTx ad cI G x v) : kMi l yX5_isFull wsX5_isFull rX5_isFull D (kT5 cI cC cZ cB cJ) ad N G [.ref (ad x)] (fun r G' => r = bI (decide (30 ≤ txN v)) ∧ G' = G) := by
  refine k_starti (cc := cX5_isFull) (ret := (some .boolean)) (maxL := 1) (lv0 := [(0, .ref (ad x))]) (by decide) rfl (Nat.le_of_ble_eq_true rfl) rfl ?_
  intro p e s m args below meth c A Q C hQ
  refine k_aload_n C dX5_isFull_0 rfl (j := 0) rfl ?_
  refine k_get C x inX5_isFull_5 (by omega) hX.1 rfl 1 (by decide) (List.mem_of_getElem? (i := 1) rfl) rfl rfl dX5_isFull_1 ?_
  refine k_aload_n C dX5_isFull_4 rfl (j := 0) rfl ?_
  refine k_get C x inX5_isFull_5 (by omega) hX.1 rfl 0 (by decide) (List.mem_of_getElem? (i := 2) rfl) rfl rfl dX5_isFull_5 ?_
  refine k_alen C (x + 1) 0 (by omega) hX.2.1 rfl dX5_isFull_8 ?_
  refine k_icmp_lt C 16 dX5_isFull_9 (by decide) (fun c_9 => ?_) (fun c_9 => ?_)
  · skip
    refine k_iconst C (v := 0) dX5_isFull_16 (by decide) ?_
    exact k_iret C hQ rfl (by decide) dX5_isFull_17 ⟨by simp [bI, (nI_ltI (a := txN v) (b := 30) (by have := hX.2.2; omega) (by decide)).mp c_9], rfl⟩
  · skip
    refine k_iconst C (v := 1) dX5_isFull_12 (by decide) ?_
    refine k_goto C 17 dX5_isFull_13 (by decide) ?_
    exact k_iret C hQ rfl (by decide) dX5_isFull_17 ⟨by simp [bI, (show 30 ≤ txN v from Nat.le_of_not_lt (fun h9 => c_9 (nI_lt h9 (Nat.le_of_ble_eq_true rfl))))], rfl⟩
theorem inX5_empty_5 : ∀ w ∈ wsX50, w ∈ wsX5_empty := fun _ h => List.mem_cons_of_mem _ (List.mem_append_right _ h)
theorem kd_X5_empty : yX5_empty.cls = RX5 ∧ yX5_empty.cls ≠ "java/lang/invoke/MethodHandle" ∧ yX5_empty.cls ≠ "java/lang/invoke/VarHandle" ∧ (parseMethodDescriptor yX5_empty.desc).map (fun d => d.parameters.length) = some 0 := by decide +kernel
abbrev rX5_empty : Room := ({ frames := 0, cells := 0, slots := 0, locals := 0 } : Room)
set_option maxRecDepth 100000 in
set_option maxHeartbeats 4000000 in
/-- empty() -/
theorem m_X5_empty (l : Launch) (D : va_G) (cI cC cZ cB cJ : ClassId) (ad : Nat → Nat) (N : Nat) (G : Nat → va_E) (x : Nat) (v : TV) (hNx : x + 2 ≤ N) (hX : isTx ad cI G x v) : kMv l yX5_empty wsX5_empty rX5_empty D (kT5 cI cC cZ cB cJ) ad N G [.ref (ad x)] (fun G' => isTx ad cI G' x (txC v, 0) ∧ ∀ j, (j < x ∨ x + 2 ≤ j) → G' j = G j) := by
  refine k_startv (cc := cX5_empty) (ret := none) (maxL := 1) (lv0 := [(0, .ref (ad x))]) (by decide) rfl (Nat.le_of_ble_eq_true rfl) rfl ?_
  intro p e s m args below meth c A Q C hQ
  refine k_aload_n C dX5_empty_0 rfl (j := 0) rfl ?_
  refine k_iconst C (v := 0) dX5_empty_1 (by decide) ?_
  refine k_put C x inX5_empty_5 tyX5 tyX5_ok nmX5 (by omega) hX.1 rfl 1 (by decide) (List.mem_of_getElem? (i := 1) rfl) rfl rfl rfl rfl (Nat.le_of_ble_eq_true rfl) dX5_empty_2 (fun G1 hG1 => ?_)
  have h_x___1_G1 : G1 (x + 1) = .inl (cI, 30, .inl (txC v)) := up_at hG1 hX.2.1 (by omega)
  have h_x_G1 : G1 x = .inr (5, [.ref (ad (x + 1)), .int 0]) := up_it hG1
  exact k_vret C hQ rfl dX5_empty_5 ⟨⟨h_x_G1, h_x___1_G1, Nat.zero_le _⟩, fun j hj => by rw [hG1, up_ne (by omega)]⟩
theorem inX5_add_5 : ∀ w ∈ wsX50, w ∈ wsX5_add := fun _ h => List.mem_cons_of_mem _ (List.mem_append_right _ h)
theorem kd_X5_add : yX5_add.cls = RX5 ∧ yX5_add.cls ≠ "java/lang/invoke/MethodHandle" ∧ yX5_add.cls ≠ "java/lang/invoke/VarHandle" ∧ (parseMethodDescriptor yX5_add.desc).map (fun d => d.parameters.length) = some 1 := by decide +kernel
abbrev rX5_add : Room := ({ frames := 0, cells := 0, slots := 0, locals := 0 } : Room)
set_option maxRecDepth 100000 in
set_option maxHeartbeats 4000000 in
/-- add(y) -/
theorem m_X5_add (l : Launch) (D : va_G) (cI cC cZ cB cJ : ClassId) (ad : Nat → Nat) (N : Nat) (G : Nat → va_E) (x : Nat) (v : TV) (y : Int32) (hNx : x + 2 ≤ N) (hX : isTx ad cI G x v) : kMv l yX5_add wsX5_add rX5_add D (kT5 cI cC cZ cB cJ) ad N G [.ref (ad x), .int y] (fun G' => isTx ad cI G' x (if txN v < 30 then (upd (txC v) (txN v) y, txN v + 1) else v) ∧ ∀ j, (j < x ∨ x + 2 ≤ j) → G' j = G j) := by
  refine k_startv (cc := cX5_add) (ret := none) (maxL := 2) (lv0 := [(0, .ref (ad x)), (1, .int y)]) (by decide) rfl (Nat.le_of_ble_eq_true rfl) rfl ?_
  intro p e s m args below meth c A Q C hQ
  refine k_aload_n C dX5_add_0 rfl (j := 0) rfl ?_
  refine k_get C x inX5_add_5 (by omega) hX.1 rfl 1 (by decide) (List.mem_of_getElem? (i := 1) rfl) rfl rfl dX5_add_1 ?_
  refine k_if_lt C 39 dX5_add_4 (by decide) (fun q => absurd q (nI_pos (by have := hX.2.2; omega))) (fun _ => ?_)
  refine k_aload_n C dX5_add_7 rfl (j := 0) rfl ?_
  refine k_get C x inX5_add_5 (by omega) hX.1 rfl 1 (by decide) (List.mem_of_getElem? (i := 1) rfl) rfl rfl dX5_add_8 ?_
  refine k_aload_n C dX5_add_11 rfl (j := 0) rfl ?_
  refine k_get C x inX5_add_5 (by omega) hX.1 rfl 0 (by decide) (List.mem_of_getElem? (i := 2) rfl) rfl rfl dX5_add_12 ?_
  refine k_alen C (x + 1) 0 (by omega) hX.2.1 rfl dX5_add_15 ?_
  refine k_icmp_ge C 39 dX5_add_16 (by decide) (fun c_16 => ?_) (fun c_16 => ?_)
  · skip
    have hi : ¬ txN v < 30 := fun h9 => nI_ge h9 (by decide) c_16
    exact k_vret C hQ rfl dX5_add_39 ⟨by rw [if_neg hi]; exact hX, fun _ _ => rfl⟩
  · skip
    have hi : txN v < 30 := Nat.lt_of_not_le (fun h9 => c_16 (nI_le h9 (by have := hX.2.2; omega)))
    refine k_aload_n C dX5_add_19 rfl (j := 0) rfl ?_
    refine k_get C x inX5_add_5 (by omega) hX.1 rfl 0 (by decide) (List.mem_of_getElem? (i := 2) rfl) rfl rfl dX5_add_20 ?_
    refine k_aload_n C dX5_add_23 rfl (j := 0) rfl ?_
    refine k_get C x inX5_add_5 (by omega) hX.1 rfl 1 (by decide) (List.mem_of_getElem? (i := 1) rfl) rfl rfl dX5_add_24 ?_
    refine k_iload_n C dX5_add_27 rfl (j := 1) rfl ?_
    refine k_iast C (x + 1) 0 (by omega) hX.2.1 rfl (vp_in_nI hi (Nat.le_of_ble_eq_true rfl)) dX5_add_28 (fun G1 hG1 => ?_)
    have h_x_G1 : G1 x = .inr (5, [.ref (ad (x + 1)), .int (nI (txN v))]) := up_at hG1 hX.1 (by omega)
    have h_x___1_G1 : G1 (x + 1) = .inl (cI, 30, .inl (upd (txC v) (txN v) y)) := by rw [up_it hG1]; rw [nI_clamp (by omega)]
    refine k_aload_n C dX5_add_29 rfl (j := 0) rfl ?_
    refine k_aload_n C dX5_add_30 rfl (j := 0) rfl ?_
    refine k_get C x inX5_add_5 (by omega) h_x_G1 rfl 1 (by decide) (List.mem_of_getElem? (i := 1) rfl) rfl rfl dX5_add_31 ?_
    refine k_iconst C (v := 1) dX5_add_34 (by decide) ?_
    refine k_iadd C dX5_add_35 ?_
    refine k_put C x inX5_add_5 tyX5 tyX5_ok nmX5 (by omega) h_x_G1 rfl 1 (by decide) (List.mem_of_getElem? (i := 1) rfl) rfl rfl rfl rfl (Nat.le_of_ble_eq_true rfl) dX5_add_36 (fun G2 hG2 => ?_)
    have h_x___1_G2 : G2 (x + 1) = .inl (cI, 30, .inl (upd (txC v) (txN v) y)) := up_at hG2 h_x___1_G1 (by omega)
    have h_x_G2 : G2 x = .inr (5, [.ref (ad (x + 1)), .int (nI (txN v + 1))]) := by rw [up_it hG2]; rw [nI_1]; rfl
    exact k_vret C hQ rfl dX5_add_39 ⟨by rw [if_pos hi]; exact ⟨h_x_G2, h_x___1_G2, hi⟩, fun j hj => by rw [hG2, up_ne (by omega), hG1, up_ne (by omega)]⟩
theorem inX5_codeAt_5 : ∀ w ∈ wsX50, w ∈ wsX5_codeAt := fun _ h => List.mem_cons_of_mem _ (List.mem_append_right _ h)
theorem kd_X5_codeAt : yX5_codeAt.cls = RX5 ∧ yX5_codeAt.cls ≠ "java/lang/invoke/MethodHandle" ∧ yX5_codeAt.cls ≠ "java/lang/invoke/VarHandle" ∧ (parseMethodDescriptor yX5_codeAt.desc).map (fun d => d.parameters.length) = some 1 := by decide +kernel
abbrev rX5_codeAt : Room := ({ frames := 0, cells := 0, slots := 0, locals := 0 } : Room)
set_option maxRecDepth 100000 in
set_option maxHeartbeats 4000000 in
/-- codeAt(y) -/
theorem m_X5_codeAt (l : Launch) (D : va_G) (cI cC cZ cB cJ : ClassId) (ad : Nat → Nat) (N : Nat) (G : Nat → va_E) (x : Nat) (v : TV) (y : Int32) (hNx : x + 2 ≤ N) (hX : isTx ad cI G x v) : kMi l yX5_codeAt wsX5_codeAt rX5_codeAt D (kT5 cI cC cZ cB cJ) ad N G [.ref (ad x), .int y] (fun r G' => r = txAt v y ∧ G' = G) := by
  refine k_starti (cc := cX5_codeAt) (ret := (some .int)) (maxL := 2) (lv0 := [(0, .ref (ad x)), (1, .int y)]) (by decide) rfl (Nat.le_of_ble_eq_true rfl) rfl ?_
  intro p e s m args below meth c A Q C hQ
  refine k_iload_n C dX5_codeAt_0 rfl (j := 1) rfl ?_
  refine k_if_lt C 30 dX5_codeAt_1 (by decide) (fun c_1 => ?_) (fun c_1 => ?_)
  · skip
    refine k_iconst C (v := 0) dX5_codeAt_30 (by decide) ?_
    exact k_iret C hQ rfl rfl dX5_codeAt_31 ⟨by simp [txAt, txIn, c_1], rfl⟩
  · skip
    refine k_iload_n C dX5_codeAt_4 rfl (j := 1) rfl ?_
    refine k_aload_n C dX5_codeAt_5 rfl (j := 0) rfl ?_
    refine k_get C x inX5_codeAt_5 (by omega) hX.1 rfl 1 (by decide) (List.mem_of_getElem? (i := 1) rfl) rfl rfl dX5_codeAt_6 ?_
    refine k_icmp_ge C 30 dX5_codeAt_9 (by decide) (fun c_9 => ?_) (fun c_9 => ?_)
    · skip
      refine k_iconst C (v := 0) dX5_codeAt_30 (by decide) ?_
      exact k_iret C hQ rfl rfl dX5_codeAt_31 ⟨by simp [txAt, txIn, c_1, c_9], rfl⟩
    · skip
      refine k_iload_n C dX5_codeAt_12 rfl (j := 1) rfl ?_
      refine k_aload_n C dX5_codeAt_13 rfl (j := 0) rfl ?_
      refine k_get C x inX5_codeAt_5 (by omega) hX.1 rfl 0 (by decide) (List.mem_of_getElem? (i := 2) rfl) rfl rfl dX5_codeAt_14 ?_
      refine k_alen C (x + 1) 0 (by omega) hX.2.1 rfl dX5_codeAt_17 ?_
      refine k_icmp_ge C 30 dX5_codeAt_18 (by decide) (fun c_18 => ?_) (fun c_18 => ?_)
      · skip
        refine k_iconst C (v := 0) dX5_codeAt_30 (by decide) ?_
        exact k_iret C hQ rfl rfl dX5_codeAt_31 ⟨by simp [txAt, txIn, c_1, c_9, c_18], rfl⟩
      · skip
        refine k_aload_n C dX5_codeAt_21 rfl (j := 0) rfl ?_
        refine k_get C x inX5_codeAt_5 (by omega) hX.1 rfl 0 (by decide) (List.mem_of_getElem? (i := 2) rfl) rfl rfl dX5_codeAt_22 ?_
        refine k_iload_n C dX5_codeAt_25 rfl (j := 1) rfl ?_
        refine k_iald C (x + 1) 0 (by omega) hX.2.1 rfl (k_in c_1 c_18 (by decide)) dX5_codeAt_26 ?_
        refine k_goto C 31 dX5_codeAt_27 (by decide) ?_
        exact k_iret C hQ rfl rfl dX5_codeAt_31 ⟨by simp [txAt, txIn, c_1, c_9, c_18], rfl⟩
theorem inX5_firstWrong_5 : ∀ w ∈ wsX50, w ∈ wsX5_firstWrong := fun _ h => List.mem_cons_of_mem _ (List.mem_append_right _ h)
theorem kd_X5_firstWrong : yX5_firstWrong.cls = RX5 ∧ yX5_firstWrong.cls ≠ "java/lang/invoke/MethodHandle" ∧ yX5_firstWrong.cls ≠ "java/lang/invoke/VarHandle" ∧ (parseMethodDescriptor yX5_firstWrong.desc).map (fun d => d.parameters.length) = some 0 := by decide +kernel
abbrev rX5_firstWrong : Room := ({ frames := 1, cells := 0, slots := 0, locals := 21 } : Room)
set_option maxRecDepth 100000 in
set_option maxHeartbeats 4000000 in
/-- firstWrong() -/
theorem m_X5_firstWrong (l : Launch) (D : va_G) (cI cC cZ cB cJ : ClassId) (ad : Nat → Nat) (N : Nat) (G : Nat → va_E) (x : Nat) (v : TV) (hNx : x + 2 ≤ N) (hX : isTx ad cI G x v) : kMi l yX5_firstWrong wsX5_firstWrong rX5_firstWrong D (kT5 cI cC cZ cB cJ) ad N G [.ref (ad x)] (fun r G' => r = nI (txWrong v) ∧ G' = G) := by
  refine k_starti (cc := cX5_firstWrong) (ret := (some .int)) (maxL := 5) (lv0 := [(0, .ref (ad x))]) (by decide) rfl (Nat.le_of_ble_eq_true rfl) rfl ?_
  intro p e s m args below meth c A Q C hQ
  have hn := hX.2.2
  refine k_iconst C (v := 0) dX5_firstWrong_0 (by decide) ?_
  refine k_istore_n C (lv' := [(1, .int 0), (0, .ref (ad x))]) dX5_firstWrong_1 rfl (by decide) rfl ?_
  refine k_iconst C (v := 0) dX5_firstWrong_2 (by decide) ?_
  refine k_istore_n C (lv' := [(2, .int 0), (1, .int 0), (0, .ref (ad x))]) dX5_firstWrong_3 rfl (by decide) rfl ?_
  have loop4 : ∀ (k : Nat) (i : Nat) , (txN v + 1 ≤ i + k) → (i ≤ txN v) → (txF v (txN v - i) i = txWrong v) → kJ p l e rX5_firstWrong s m args below meth c 0 0 Q 5 D ad N A G 4 [(0, .ref (ad x)), (1, .int (txUsed v i)), (2, .int (nI i))] [] := by
    intro k
    induction k with
    | zero => intro i  h1 h2 h3; exact absurd h1 (by omega)
    | succ k ih4 =>
      intro i  h1 h2 h3
      refine k_iload_n C dX5_firstWrong_4 rfl (j := 2) rfl ?_
      refine k_aload_n C dX5_firstWrong_5 rfl (j := 0) rfl ?_
      refine k_get C x inX5_firstWrong_5 (by omega) hX.1 rfl 1 (by decide) (List.mem_of_getElem? (i := 1) rfl) rfl rfl dX5_firstWrong_6 ?_
      refine k_icmp_ge C 89 dX5_firstWrong_9 (by decide) (fun c_9 => ?_) (fun c_9 => ?_)
      · skip
        have hi : i = txN v := k_ge c_9 (by omega) h2
        subst hi
        refine k_aload_n C dX5_firstWrong_89 rfl (j := 0) rfl ?_
        refine k_get C x inX5_firstWrong_5 (by omega) hX.1 rfl 1 (by decide) (List.mem_of_getElem? (i := 1) rfl) rfl rfl dX5_firstWrong_90 ?_
        exact k_iret C hQ rfl rfl dX5_firstWrong_93 ⟨by rw [← h3, show txN v - txN v = 0 from Nat.sub_self _, txF], rfl⟩
      · skip
        have hi : i < txN v := k_lt c_9 (by omega) h2
        have hk1 : txN v - i = (txN v - (i + 1)) + 1 := by omega
        refine k_aload_n C dX5_firstWrong_12 rfl (j := 0) rfl ?_
        refine k_iload_n C dX5_firstWrong_13 rfl (j := 2) rfl ?_
        refine k_callVir C (As := [.int (nI i)]) (rest := []) x (m_X5_codeAt l D cI cC cZ cB cJ ad N G x v (nI i) (by omega) hX) gX5_firstWrong_X5_codeAt rfl kd_X5_codeAt rfl rfl ⟨Nat.le_of_ble_eq_true rfl, Nat.le_of_ble_eq_true rfl⟩ (by omega) hX.1 rfl rfl rfl (Nat.le_of_ble_eq_true rfl) ⟨Nat.zero_le _, Nat.zero_le _⟩ dX5_firstWrong_14 ?_
        refine k_istore_n C (lv' := [(3, .int (txAt v (nI i))), (0, .ref (ad x)), (1, .int (txUsed v i)), (2, .int (nI i))]) dX5_firstWrong_17 rfl (by decide) rfl ?_
        refine k_iload_n C dX5_firstWrong_18 rfl (j := 3) rfl ?_
        refine k_iconst C (v := 2) dX5_firstWrong_19 (by decide) ?_
        refine k_irem C dX5_firstWrong_20 (by decide) ?_
        refine k_if_ne C 63 dX5_firstWrong_21 (by decide) (fun c_21 => ?_) (fun c_21 => ?_)
        · skip
          rw [k_rem2 (by omega)] at c_21
          have hp : ¬ i % 2 = 0 := fun h9 => c_21 (by rw [h9]; rfl)
          refine k_iload_n C dX5_firstWrong_63 rfl (j := 3) rfl ?_
          refine k_bipush C (v := 19) dX5_firstWrong_64 (by decide) ?_
          refine k_icmp_ge C 81 dX5_firstWrong_66 (by decide) (fun c_66 => ?_) (fun c_66 => ?_)
          · skip
            have hbad : txBad v i = true := by
              have c9 : 19 ≤ i := (nI_leI (a := 19) (by decide) (by omega)).mp c_66
              simp [txBad, hp, c9]
            refine k_iload_n C dX5_firstWrong_81 rfl (j := 3) rfl ?_
            exact k_iret C hQ rfl rfl dX5_firstWrong_82 ⟨by rw [← h3, hk1, txF, if_pos hbad], rfl⟩
          · skip
            have h19 : ¬ 19 ≤ i := fun h9 => c_66 (nI_le h9 (by omega))
            refine k_iload_n C dX5_firstWrong_69 rfl (j := 0) rfl ?_
            refine k_bipush C (v := 62) dX5_firstWrong_70 (by decide) ?_
            refine k_icmp_eq C 83 dX5_firstWrong_72 (by decide) (fun c_72 => ?_) (fun c_72 => ?_)
            · skip
              have hgood : txBad v i = false := by simp [txBad, hp, h19, c_72]
              have hu : txUsed v i = txUsed v (i + 1) := by rw [txUsed, if_neg hp]
              rw [hu]
              refine k_iinc C (v := nI (i + 1)) (lv' := [(2, .int (nI (i + 1))), (3, .int (txAt v (nI i))), (0, .ref (ad x)), (1, .int (txUsed v (i + 1)))]) dX5_firstWrong_83 (j := 3) rfl (nI_1 i) (by decide) rfl ?_
              refine k_goto C 4 dX5_firstWrong_86 (by decide) ?_
              exact k_sub [2, 3, 0] rfl (ih4 (i + 1) (by omega) (by omega) (by rw [← h3, hk1, txF, if_neg (by rw [hgood]; decide)]))
            · skip
              refine k_iload_n C dX5_firstWrong_75 rfl (j := 0) rfl ?_
              refine k_bipush C (v := 61) dX5_firstWrong_76 (by decide) ?_
              refine k_icmp_eq C 83 dX5_firstWrong_78 (by decide) (fun c_78 => ?_) (fun c_78 => ?_)
              · skip
                have hgood : txBad v i = false := by simp [txBad, hp, h19, c_78]
                have hu : txUsed v i = txUsed v (i + 1) := by rw [txUsed, if_neg hp]
                rw [hu]
                refine k_iinc C (v := nI (i + 1)) (lv' := [(2, .int (nI (i + 1))), (3, .int (txAt v (nI i))), (0, .ref (ad x)), (1, .int (txUsed v (i + 1)))]) dX5_firstWrong_83 (j := 3) rfl (nI_1 i) (by decide) rfl ?_
                refine k_goto C 4 dX5_firstWrong_86 (by decide) ?_
                exact k_sub [2, 3, 0] rfl (ih4 (i + 1) (by omega) (by omega) (by rw [← h3, hk1, txF, if_neg (by rw [hgood]; decide)]))
              · skip
                have hbad : txBad v i = true := by simp [txBad, hp, h19, c_72, c_78]
                refine k_iload_n C dX5_firstWrong_81 rfl (j := 3) rfl ?_
                exact k_iret C hQ rfl rfl dX5_firstWrong_82 ⟨by rw [← h3, hk1, txF, if_pos hbad], rfl⟩
        · skip
          rw [k_rem2 (by omega)] at c_21
          have hp : i % 2 = 0 := (nI_eq (b := 0) (by omega) (by decide)).mp c_21
          refine k_iload_n C dX5_firstWrong_24 rfl (j := 0) rfl ?_
          refine k_bipush C (v := 97) dX5_firstWrong_25 (by decide) ?_
          refine k_isub C dX5_firstWrong_27 ?_
          refine k_istore C (lv' := [(4, .int ((txAt v (nI i)) - 97)), (3, .int (txAt v (nI i))), (0, .ref (ad x)), (1, .int (txUsed v i)), (2, .int (nI i))]) dX5_firstWrong_28 (by decide) rfl ?_
          refine k_iload C dX5_firstWrong_30 (j := 0) rfl ?_
          refine k_if_lt C 51 dX5_firstWrong_32 (by decide) (fun c_32 => ?_) (fun c_32 => ?_)
          · skip
            have hbad : txBad v i = true := by simp [txBad, hp, c_32]
            refine k_iload_n C dX5_firstWrong_51 rfl (j := 4) rfl ?_
            exact k_iret C hQ rfl rfl dX5_firstWrong_52 ⟨by rw [← h3, hk1, txF, if_pos hbad], rfl⟩
          · skip
            refine k_iload C dX5_firstWrong_35 (j := 0) rfl ?_
            refine k_bipush C (v := 10) dX5_firstWrong_37 (by decide) ?_
            refine k_icmp_ge C 51 dX5_firstWrong_39 (by decide) (fun c_39 => ?_) (fun c_39 => ?_)
            · skip
              have hbad : txBad v i = true := by simp [txBad, hp, c_39]
              refine k_iload_n C dX5_firstWrong_51 rfl (j := 4) rfl ?_
              exact k_iret C hQ rfl rfl dX5_firstWrong_52 ⟨by rw [← h3, hk1, txF, if_pos hbad], rfl⟩
            · skip
              refine k_iload_n C dX5_firstWrong_42 rfl (j := 3) rfl ?_
              refine k_iconst C (v := 1) dX5_firstWrong_43 (by decide) ?_
              refine k_iload C dX5_firstWrong_44 (j := 0) rfl ?_
              refine k_ishl C dX5_firstWrong_46 ?_
              refine k_iand C dX5_firstWrong_47 ?_
              refine k_if_eq C 53 dX5_firstWrong_48 (by decide) (fun c_48 => ?_) (fun c_48 => ?_)
              · skip
                have hgood : txBad v i = false := by
                  have c9 : txUsed v i &&& txBit v i = 0 := c_48
                  have d9 : ¬ txAt v (nI i) - 97 < 0 := c_32
                  have e9 : ¬ (10 : Int32) ≤ txAt v (nI i) - 97 := c_39
                  simp [txBad, hp, c9, d9, e9]
                have hu : txUsed v i ||| ((1 : Int32) <<< ((txAt v (nI i) - 97) &&& 31)) = txUsed v (i + 1) := by rw [txUsed, if_pos hp]; rfl
                refine k_iload_n C dX5_firstWrong_53 rfl (j := 3) rfl ?_
                refine k_iconst C (v := 1) dX5_firstWrong_54 (by decide) ?_
                refine k_iload C dX5_firstWrong_55 (j := 0) rfl ?_
                refine k_ishl C dX5_firstWrong_57 ?_
                refine k_ior C dX5_firstWrong_58 ?_
                refine k_istore_n C (lv' := [(1, .int ((txUsed v i) ||| (1 <<< (((txAt v (nI i)) - 97) &&& 31)))), (4, .int ((txAt v (nI i)) - 97)), (3, .int (txAt v (nI i))), (0, .ref (ad x)), (2, .int (nI i))]) dX5_firstWrong_59 rfl (by decide) rfl ?_
                refine k_goto C 83 dX5_firstWrong_60 (by decide) ?_
                rw [hu]
                refine k_iinc C (v := nI (i + 1)) (lv' := [(2, .int (nI (i + 1))), (1, .int (txUsed v (i + 1))), (4, .int ((txAt v (nI i)) - 97)), (3, .int (txAt v (nI i))), (0, .ref (ad x))]) dX5_firstWrong_83 (j := 4) rfl (nI_1 i) (by decide) rfl ?_
                refine k_goto C 4 dX5_firstWrong_86 (by decide) ?_
                exact k_sub [4, 1, 0] rfl (ih4 (i + 1) (by omega) (by omega) (by rw [← h3, hk1, txF, if_neg (by rw [hgood]; decide)]))
              · skip
                have hbad : txBad v i = true := by
                  have c9 : ¬ txUsed v i &&& txBit v i = 0 := c_48
                  simp [txBad, hp, c9]
                refine k_iload_n C dX5_firstWrong_51 rfl (j := 4) rfl ?_
                exact k_iret C hQ rfl rfl dX5_firstWrong_52 ⟨by rw [← h3, hk1, txF, if_pos hbad], rfl⟩
  exact k_sub [2, 1, 0] rfl (loop4 (txN v + 1) 0 (by omega) (Nat.zero_le _) rfl)
theorem inX5_isArrival_5 : ∀ w ∈ wsX50, w ∈ wsX5_isArrival := fun _ h => List.mem_cons_of_mem _ (List.mem_append_right _ h)
theorem kd_X5_isArrival : yX5_isArrival.cls = RX5 ∧ yX5_isArrival.cls ≠ "java/lang/invoke/MethodHandle" ∧ yX5_isArrival.cls ≠ "java/lang/invoke/VarHandle" ∧ (parseMethodDescriptor yX5_isArrival.desc).map (fun d => d.parameters.length) = some 0 := by decide +kernel
abbrev rX5_isArrival : Room := ({ frames := 2, cells := 0, slots := 0, locals := 45 } : Room)
set_option maxRecDepth 100000 in
set_option maxHeartbeats 4000000 in
/-- isArrival() -/
theorem m_X5_isArrival (l : Launch) (D : va_G) (cI cC cZ cB cJ : ClassId) (ad : Nat → Nat) (N : Nat) (G : Nat → va_E) (x : Nat) (v : TV) (hNx : x + 2 ≤ N) (hX : isTx ad cI G x v) : kMi l yX5_isArrival wsX5_isArrival rX5_isArrival D (kT5 cI cC cZ cB cJ) ad N G [.ref (ad x)] (fun r G' => r = bI (txArrival v) ∧ G' = G) := by
  refine k_starti (cc := cX5_isArrival) (ret := (some .boolean)) (maxL := 1) (lv0 := [(0, .ref (ad x))]) (by decide) rfl (Nat.le_of_ble_eq_true rfl) rfl ?_
  intro p e s m args below meth c A Q C hQ
  have hn := hX.2.2
  have hw := txWrong_le v
  refine k_aload_n C dX5_isArrival_0 rfl (j := 0) rfl ?_
  refine k_get C x inX5_isArrival_5 (by omega) hX.1 rfl 1 (by decide) (List.mem_of_getElem? (i := 1) rfl) rfl rfl dX5_isArrival_1 ?_
  refine k_iconst C (v := 2) dX5_isArrival_4 (by decide) ?_
  refine k_irem C dX5_isArrival_5 (by decide) ?_
  refine k_iconst C (v := 1) dX5_isArrival_6 (by decide) ?_
  refine k_icmp_ne C 25 dX5_isArrival_7 (by decide) (fun c_7 => ?_) (fun c_7 => ?_)
  · skip
    rw [k_rem2 (by omega)] at c_7
    have ho : ¬ txN v % 2 = 1 := fun h9 => c_7 (by rw [h9]; rfl)
    refine k_iconst C (v := 0) dX5_isArrival_25 (by decide) ?_
    exact k_iret C hQ rfl (by decide) dX5_isArrival_26 ⟨by simp [txArrival, bI, ho], rfl⟩
  · skip
    rw [k_rem2 (by omega)] at c_7
    have ho : txN v % 2 = 1 := (nI_eq (b := 1) (by omega) (by decide)).mp c_7
    refine k_aload_n C dX5_isArrival_10 rfl (j := 0) rfl ?_
    refine k_callVir C (As := []) (rest := []) x (m_X5_firstWrong l D cI cC cZ cB cJ ad N G x v (by omega) hX) gX5_isArrival_X5_firstWrong rfl kd_X5_firstWrong rfl rfl ⟨Nat.le_of_ble_eq_true rfl, Nat.le_of_ble_eq_true rfl⟩ (by omega) hX.1 rfl rfl rfl (Nat.le_of_ble_eq_true rfl) ⟨Nat.zero_le _, Nat.zero_le _⟩ dX5_isArrival_11 ?_
    refine k_aload_n C dX5_isArrival_14 rfl (j := 0) rfl ?_
    refine k_get C x inX5_isArrival_5 (by omega) hX.1 rfl 1 (by decide) (List.mem_of_getElem? (i := 1) rfl) rfl rfl dX5_isArrival_15 ?_
    refine k_icmp_ne C 25 dX5_isArrival_18 (by decide) (fun c_18 => ?_) (fun c_18 => ?_)
    · skip
      have he : ¬ txWrong v = txN v := fun h9 => c_18 (by rw [h9])
      refine k_iconst C (v := 0) dX5_isArrival_25 (by decide) ?_
      exact k_iret C hQ rfl (by decide) dX5_isArrival_26 ⟨by simp [txArrival, bI, ho, he], rfl⟩
    · skip
      have he : txWrong v = txN v := (nI_eq (by omega) (by omega)).mp c_18
      refine k_iconst C (v := 1) dX5_isArrival_21 (by decide) ?_
      refine k_goto C 26 dX5_isArrival_22 (by decide) ?_
      exact k_iret C hQ rfl (by decide) dX5_isArrival_26 ⟨by simp [txArrival, bI, ho, he], rfl⟩
