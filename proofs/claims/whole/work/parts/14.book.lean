/-! MODULE Book: cells b .. b + 6: the book, its three tables (b + 1, b + 2: horses; b + 3, b + 4: bets; b + 5, b + 6: laid off) -/
abbrev BV : Type := (Nat × Nat × Nat) × (Bool × Int32 × Int32) × ((Nat → Int32) × (Nat → Int32) × (Nat → Int32))
def bnH (v : BV) : Nat := v.1.1
def bnB (v : BV) : Nat := v.1.2.1
def bnL (v : BV) : Nat := v.1.2.2
def bvS (v : BV) : Bool := v.2.1.1
def bvP (v : BV) : Int32 := v.2.1.2.1
def bvO (v : BV) : Int32 := v.2.1.2.2
def bvh (v : BV) : Nat → Int32 := v.2.2.1
def bvb (v : BV) : Nat → Int32 := v.2.2.2.1
def bvl (v : BV) : Nat → Int32 := v.2.2.2.2
def bH (v : BV) (n : Nat) (f : Nat → Int32) : BV := ((n, bnB v, bnL v), (bvS v, bvP v, bvO v), (f, bvb v, bvl v))
def bB (v : BV) (n : Nat) (f : Nat → Int32) : BV := ((bnH v, n, bnL v), (bvS v, bvP v, bvO v), (bvh v, f, bvl v))
def bL (v : BV) (n : Nat) (f : Nat → Int32) : BV := ((bnH v, bnB v, n), (bvS v, bvP v, bvO v), (bvh v, bvb v, f))
def bSet (v : BV) (s : Bool) (p o : Int32) : BV := ((bnH v, bnB v, bnL v), (s, p, o), (bvh v, bvb v, bvl v))
def isBk (ad : Nat → Nat) (cI : ClassId) (G : Nat → va_E) (b : Nat) (v : BV) : Prop :=
  G b = .inr (1, [.ref (ad (b + 1)), .ref (ad (b + 3)), .ref (ad (b + 5)), .int (bI (bvS v)), .int (bvP v), .int (bvO v)]) ∧
  (G (b + 1) = .inr (4, [.int 9, .ref (ad (b + 2)), .int (nI (bnH v))]) ∧ G (b + 2) = .inl (cI, 90, .inl (bvh v))) ∧
  (G (b + 3) = .inr (4, [.int 8, .ref (ad (b + 4)), .int (nI (bnB v))]) ∧ G (b + 4) = .inl (cI, 192, .inl (bvb v))) ∧
  (G (b + 5) = .inr (4, [.int 5, .ref (ad (b + 6)), .int (nI (bnL v))]) ∧ G (b + 6) = .inl (cI, 30, .inl (bvl v))) ∧
  bnH v ≤ 10 ∧ bnB v ≤ 24 ∧ bnL v ≤ 6
theorem isBk.keep {ad : Nat → Nat} {cI : ClassId} {G G' : Nat → va_E} {b : Nat} {v : BV} (h : isBk ad cI G b v) (hf : ∀ j, b ≤ j → j < b + 7 → G' j = G j) : isBk ad cI G' b v :=
  ⟨(hf _ (by omega) (by omega)).trans h.1, ⟨(hf _ (by omega) (by omega)).trans h.2.1.1, (hf _ (by omega) (by omega)).trans h.2.1.2⟩, ⟨(hf _ (by omega) (by omega)).trans h.2.2.1.1, (hf _ (by omega) (by omega)).trans h.2.2.1.2⟩, ⟨(hf _ (by omega) (by omega)).trans h.2.2.2.1.1, (hf _ (by omega) (by omega)).trans h.2.2.2.1.2⟩, h.2.2.2.2⟩
abbrev hC (v : BV) (r c : Int32) : Int32 := tC (bvh v) 90 9 (nI (bnH v)) r c
abbrev bC (v : BV) (r c : Int32) : Int32 := tC (bvb v) 192 8 (nI (bnB v)) r c
abbrev lC (v : BV) (r c : Int32) : Int32 := tC (bvl v) 30 5 (nI (bnL v)) r c
def jPart (v : BV) (x h : Int32) : Int32 := if hC v h 0 + hC v h 1 ≤ 0 then 0 else x * hC v h 1 / (hC v h 0 + hC v h 1)
def jRuns (v : BV) (h : Int32) : Bool := decide (hC v h 2 = 1)
def jRunning (v : BV) : Int32 := tS (bvh v) 90 9 (nI (bnH v)) 2 (bnH v)
def jPlaces (v : BV) : Int32 := if 4 < jRunning v then (if 7 < jRunning v then 3 else 2) else 0
def jRound (v : BV) : Nat → Int32
  | 0 => 0
  | i + 1 => if jRuns v (nI i) = true then jRound v i + jPart v 1000 (nI i) else jRound v i
def jWhole (v : BV) (x : Int32) : Int32 := bC v x 1 * (1 + bC v x 2)
def jStakes (v : BV) : Nat → Int32
  | 0 => 0
  | i + 1 => jStakes v i + jWhole v (nI i)
def jPaid (c a b q : Int32) : Int32 := if 0 < b then c + c * a / b * (100 - q) / 100 else c
def jWin (v : BV) (w : AV) (x : Int32) : Int32 :=
  if aOf (avF w) (bC v x 0) = 1 then (if 0 < aOf (avG w) (bC v x 0) then jPaid (bC v x 1 / aOf (avG w) (bC v x 0)) (bC v x 3) (bC v x 4) (bC v x 5) else 0) else 0
def jMin (x y : Int32) : Int32 := if y < x then y else x
def jIn (v : BV) (w : AV) (x : Int32) : Int32 := jMin (aOf (avG w) (bC v x 0)) (avP w - aOf (avF w) (bC v x 0) + 1)
def jPlace (v : BV) (w : AV) (x : Int32) : Int32 :=
  if bC v x 2 = 0 then 0 else if avP w = 0 then bC v x 1 else
  if aOf (avG w) (bC v x 0) ≤ 0 then 0 else if 0 < jIn v w x then jPaid (bC v x 1 * jIn v w x / aOf (avG w) (bC v x 0)) (bC v x 3) (bC v x 4 * bvP v) (bC v x 5) else 0
def jReturn (v : BV) (w : AV) (x : Int32) : Int32 := if jRuns v (bC v x 0) = true then jWin v w x + jPlace v w x else jWhole v x
def jReason (v : BV) (w : AV) (x : Int32) : Int32 :=
  if jRuns v (bC v x 0) = true then (if jWin v w x ≤ 0 then (if jPlace v w x = 0 then 0 else if avP w = 0 then 4 else 3) else 2) else 1
def jOff (v : BV) (w : AV) (x : Int32) : Int32 :=
  if jRuns v (lC v x 0) = true then (if aOf (avF w) (lC v x 0) = 1 then (if 0 < aOf (avG w) (lC v x 0) then jPaid (lC v x 1 / aOf (avG w) (lC v x 0)) (lC v x 2) (lC v x 3) 0 else 0) else 0) else lC v x 1
def jW1 (v : BV) (w : AV) : Nat → Int32
  | 0 => 10000000 + jStakes v (bnB v) - tS (bvl v) 30 5 (nI (bnL v)) 1 (bnL v)
  | i + 1 => jW1 v w i - jReturn v w (nI i)
def jW2 (v : BV) (w : AV) : Nat → Int32
  | 0 => jW1 v w (bnB v)
  | i + 1 => jW2 v w i + jOff v w (nI i)
def jWould (v : BV) (w : AV) : Int32 := jW2 v w (bnL v)
def jWon (v : BV) : Int32 := 10000000 + (jStakes v (bnB v) - tS (bvb v) 192 8 (nI (bnB v)) 6 (bnB v)) + (tS (bvl v) 30 5 (nI (bnL v)) 4 (bnL v) - tS (bvl v) 30 5 (nI (bnL v)) 1 (bnL v))
def jL1 (v : BV) : Nat → Int32
  | 0 => 10000000
  | i + 1 => jL1 v i + (jWhole v (nI i) - bC v (nI i) 6)
def jL2 (v : BV) : Nat → Int32
  | 0 => jL1 v (bnB v)
  | i + 1 => jL2 v i - (lC v (nI i) 1 - lC v (nI i) 4)
def jLosses (v : BV) : Int32 := jL2 v (bnL v)
def hPut (v : BV) (r c x : Int32) : BV := bH v (bnH v) (tP (bvh v) 90 9 (nI (bnH v)) r c x)
def bPut (v : BV) (r c x : Int32) : BV := bB v (bnB v) (tP (bvb v) 192 8 (nI (bnB v)) r c x)
def lPut (v : BV) (r c x : Int32) : BV := bL v (bnL v) (tP (bvl v) 30 5 (nI (bnL v)) r c x)
def hNew (v : BV) : BV := bH v (bnH v + 1) (tZ (bvh v) 90 9 (nI (bnH v + 1)) (nI (bnH v)) 9)
def bNew (v : BV) : BV := bB v (bnB v + 1) (tZ (bvb v) 192 8 (nI (bnB v + 1)) (nI (bnB v)) 8)
def lNew (v : BV) : BV := bL v (bnL v + 1) (tZ (bvl v) 30 5 (nI (bnL v + 1)) (nI (bnL v)) 5)
def jAddHorse (v : BV) (a b : Int32) : BV := hPut (hPut (hPut (hPut (hPut (hNew v) (nI (bnH v)) 0 a) (nI (bnH v)) 1 b) (nI (bnH v)) 2 1) (nI (bnH v)) 7 (-1)) (nI (bnH v)) 8 (-1)
def jAddLaid (v : BV) (h s a b : Int32) : BV := lPut (lPut (lPut (lPut (lPut (lNew v) (nI (bnL v)) 0 h) (nI (bnL v)) 1 s) (nI (bnL v)) 2 a) (nI (bnL v)) 3 b) (nI (bnL v)) 4 (-1)
def hRaise (v : BV) (r c x : Int32) : BV := hPut v r c (hC v r c + x)
def jAddBet (v : BV) (h s : Int32) (w : Bool) : BV :=
  hRaise (hRaise (hRaise (bPut (bPut (bPut (bPut (bPut (bPut (bPut (bNew v) (nI (bnB v)) 0 h) (nI (bnB v)) 1 s) (nI (bnB v)) 2 (bI w)) (nI (bnB v)) 3 (hC v h 0)) (nI (bnB v)) 4 (hC v h 1)) (nI (bnB v)) 6 (-1)) (nI (bnB v)) 7 (-1)) h 4 1) h 5 s) h 6 (if w = true then s else 0)
def jCut (v : BV) (h : Int32) : Int32 := jMin 75 (jPart v 100 h)
def jT0 (v : BV) (h : Int32) : BV := hPut (hPut v h 2 0) h 3 (jCut v h)
def jTk (v : BV) (h : Int32) : Nat → BV
  | 0 => jT0 v h
  | i + 1 => bPut (jTk v h i) (nI i) 5 (jMin 90 (bC (jTk v h i) (nI i) 5 + jCut v h))
def jTake (v : BV) (h : Int32) : BV := jTk v h (bnB v)
def jS1 (v : BV) (w : AV) : Nat → BV
  | 0 => v
  | i + 1 => hPut (hPut (jS1 v w i) (nI i) 7 (aOf (avF w) (nI i))) (nI i) 8 (aOf (avG w) (nI i))
def jS2 (v : BV) (w : AV) : Nat → BV
  | 0 => jS1 v w (bnH v)
  | i + 1 => bPut (bPut (jS2 v w i) (nI i) 6 (jReturn (jS2 v w i) w (nI i))) (nI i) 7 (jReason (bPut (jS2 v w i) (nI i) 6 (jReturn (jS2 v w i) w (nI i))) w (nI i))
def jS3 (v : BV) (w : AV) : Nat → BV
  | 0 => jS2 v w (bnB v)
  | i + 1 => lPut (jS3 v w i) (nI i) 4 (jOff (jS3 v w i) w (nI i))
def jSettle (v : BV) (w : AV) : BV := bSet (jS3 v w (bnL v)) true (bvP (jS3 v w (bnL v))) (bvO (jS3 v w (bnL v)))
theorem jTk_n (v : BV) (h : Int32) : ∀ i, bnH (jTk v h i) = bnH v ∧ bnB (jTk v h i) = bnB v ∧ bnL (jTk v h i) = bnL v
  | 0 => ⟨rfl, rfl, rfl⟩
  | i + 1 => jTk_n v h i
theorem jS1_n (v : BV) (w : AV) : ∀ i, bnH (jS1 v w i) = bnH v ∧ bnB (jS1 v w i) = bnB v ∧ bnL (jS1 v w i) = bnL v
  | 0 => ⟨rfl, rfl, rfl⟩
  | i + 1 => jS1_n v w i
theorem jS2_n (v : BV) (w : AV) : ∀ i, bnH (jS2 v w i) = bnH v ∧ bnB (jS2 v w i) = bnB v ∧ bnL (jS2 v w i) = bnL v
  | 0 => jS1_n v w _
  | i + 1 => jS2_n v w i
theorem jS3_n (v : BV) (w : AV) : ∀ i, bnH (jS3 v w i) = bnH v ∧ bnB (jS3 v w i) = bnB v ∧ bnL (jS3 v w i) = bnL v
  | 0 => jS2_n v w _
  | i + 1 => jS3_n v w i
/-- a book whose table of horses, of bets, of bets laid off has changed, and nothing else of it -/
theorem isBk.h {ad : Nat → Nat} {cI : ClassId} {G G' : Nat → va_E} {b : Nat} {v : BV} {n : Nat} {f : Nat → Int32} (h : isBk ad cI G b v) (h1 : G' (b + 1) = .inr (4, [.int 9, .ref (ad (b + 2)), .int (nI n)])) (h2 : G' (b + 2) = .inl (cI, 90, .inl f)) (hn : n ≤ 10) (hf : ∀ j, j ≠ b + 1 → j ≠ b + 2 → G' j = G j) : isBk ad cI G' b (bH v n f) :=
  ⟨(hf _ (by omega) (by omega)).trans h.1, ⟨h1, h2⟩, ⟨(hf _ (by omega) (by omega)).trans h.2.2.1.1, (hf _ (by omega) (by omega)).trans h.2.2.1.2⟩, ⟨(hf _ (by omega) (by omega)).trans h.2.2.2.1.1, (hf _ (by omega) (by omega)).trans h.2.2.2.1.2⟩, hn, h.2.2.2.2.2⟩
theorem isBk.b {ad : Nat → Nat} {cI : ClassId} {G G' : Nat → va_E} {b : Nat} {v : BV} {n : Nat} {f : Nat → Int32} (h : isBk ad cI G b v) (h1 : G' (b + 3) = .inr (4, [.int 8, .ref (ad (b + 4)), .int (nI n)])) (h2 : G' (b + 4) = .inl (cI, 192, .inl f)) (hn : n ≤ 24) (hf : ∀ j, j ≠ b + 3 → j ≠ b + 4 → G' j = G j) : isBk ad cI G' b (bB v n f) :=
  ⟨(hf _ (by omega) (by omega)).trans h.1, ⟨(hf _ (by omega) (by omega)).trans h.2.1.1, (hf _ (by omega) (by omega)).trans h.2.1.2⟩, ⟨h1, h2⟩, ⟨(hf _ (by omega) (by omega)).trans h.2.2.2.1.1, (hf _ (by omega) (by omega)).trans h.2.2.2.1.2⟩, h.2.2.2.2.1, hn, h.2.2.2.2.2.2⟩
theorem isBk.l {ad : Nat → Nat} {cI : ClassId} {G G' : Nat → va_E} {b : Nat} {v : BV} {n : Nat} {f : Nat → Int32} (h : isBk ad cI G b v) (h1 : G' (b + 5) = .inr (4, [.int 5, .ref (ad (b + 6)), .int (nI n)])) (h2 : G' (b + 6) = .inl (cI, 30, .inl f)) (hn : n ≤ 6) (hf : ∀ j, j ≠ b + 5 → j ≠ b + 6 → G' j = G j) : isBk ad cI G' b (bL v n f) :=
  ⟨(hf _ (by omega) (by omega)).trans h.1, ⟨(hf _ (by omega) (by omega)).trans h.2.1.1, (hf _ (by omega) (by omega)).trans h.2.1.2⟩, ⟨(hf _ (by omega) (by omega)).trans h.2.2.1.1, (hf _ (by omega) (by omega)).trans h.2.2.1.2⟩, ⟨h1, h2⟩, h.2.2.2.2.1, h.2.2.2.2.2.1, hn⟩
theorem isBk.s {ad : Nat → Nat} {cI : ClassId} {G G' : Nat → va_E} {b : Nat} {v : BV} {s : Bool} {p o : Int32} (h : isBk ad cI G b v) (h1 : G' b = .inr (1, [.ref (ad (b + 1)), .ref (ad (b + 3)), .ref (ad (b + 5)), .int (bI s), .int p, .int o])) (hf : ∀ j, j ≠ b → G' j = G j) : isBk ad cI G' b (bSet v s p o) :=
  ⟨h1, ⟨(hf _ (by omega)).trans h.2.1.1, (hf _ (by omega)).trans h.2.1.2⟩, ⟨(hf _ (by omega)).trans h.2.2.1.1, (hf _ (by omega)).trans h.2.2.1.2⟩, ⟨(hf _ (by omega)).trans h.2.2.2.1.1, (hf _ (by omega)).trans h.2.2.2.1.2⟩, h.2.2.2.2⟩
theorem inX1_partOfPrice_1 : ∀ w ∈ wsX10, w ∈ wsX1_partOfPrice := fun _ h => List.mem_cons_of_mem _ (List.mem_append_left _ (List.mem_append_right _ h))
theorem inX1_partOfPrice_4 : ∀ w ∈ wsX40, w ∈ wsX1_partOfPrice := fun _ h => List.mem_cons_of_mem _ (List.mem_append_right _ h)
theorem kd_X1_partOfPrice : yX1_partOfPrice.cls = RX1 ∧ yX1_partOfPrice.cls ≠ "java/lang/invoke/MethodHandle" ∧ yX1_partOfPrice.cls ≠ "java/lang/invoke/VarHandle" ∧ (parseMethodDescriptor yX1_partOfPrice.desc).map (fun d => d.parameters.length) = some 2 := by decide +kernel
abbrev rX1_partOfPrice : Room := ({ frames := 1, cells := 0, slots := 0, locals := 24 } : Room)
set_option maxRecDepth 100000 in
set_option maxHeartbeats 4000000 in
/-- partOfPrice -/
theorem m_X1_partOfPrice (l : Launch) (D : va_G) (cI cC cZ cB cJ : ClassId) (ad : Nat → Nat) (N : Nat) (G : Nat → va_E) (b : Nat) (v : BV) (x h : Int32) (hNb : b + 7 ≤ N) (hB : isBk ad cI G b v) : kMi l yX1_partOfPrice wsX1_partOfPrice rX1_partOfPrice D (kT5 cI cC cZ cB cJ) ad N G [.ref (ad b), .int x, .int h] (fun r G' => r = jPart v x h ∧ G' = G) := by
  refine k_starti (cc := cX1_partOfPrice) (ret := (some .int)) (maxL := 5) (lv0 := [(0, .ref (ad b)), (1, .int x), (2, .int h)]) (by decide) rfl (Nat.le_of_ble_eq_true rfl) rfl ?_
  intro p e s m args below meth c A Q C hQ
  have hlH := hB.2.2.2.2.1
  have hlB := hB.2.2.2.2.2.1
  have hlL := hB.2.2.2.2.2.2
  refine k_aload_n C dX1_partOfPrice_0 rfl (j := 0) rfl ?_
  refine k_get C b inX1_partOfPrice_1 (by omega) hB.1 rfl 0 (by decide) (List.mem_of_getElem? (i := 1) rfl) rfl rfl dX1_partOfPrice_1 ?_
  refine k_iload_n C dX1_partOfPrice_4 rfl (j := 2) rfl ?_
  refine k_iconst C (v := 1) dX1_partOfPrice_5 (by decide) ?_
  refine k_callVir C (As := [.int h, .int 1]) (rest := []) (b + 1) (m_X4_cell l D cI cC cZ cB cJ ad N G (b + 1) (b + 2) 9 (nI (bnH v)) 90 (bvh v) h 1 (by omega) (by omega) hB.2.1.1 hB.2.1.2 (Nat.le_of_ble_eq_true rfl)) gX1_partOfPrice_X4_cell rfl kd_X4_cell rfl rfl ⟨Nat.le_of_ble_eq_true rfl, Nat.le_of_ble_eq_true rfl⟩ (by omega) hB.2.1.1 rfl rfl rfl (Nat.le_of_ble_eq_true rfl) ⟨Nat.zero_le _, Nat.zero_le _⟩ dX1_partOfPrice_6 ?_
  refine k_istore_n C (lv' := [(3, .int (tC (bvh v) 90 9 (nI (bnH v)) h 1)), (0, .ref (ad b)), (1, .int x), (2, .int h)]) dX1_partOfPrice_9 rfl (by decide) rfl ?_
  refine k_aload_n C dX1_partOfPrice_10 rfl (j := 1) rfl ?_
  refine k_get C b inX1_partOfPrice_1 (by omega) hB.1 rfl 0 (by decide) (List.mem_of_getElem? (i := 1) rfl) rfl rfl dX1_partOfPrice_11 ?_
  refine k_iload_n C dX1_partOfPrice_14 rfl (j := 3) rfl ?_
  refine k_iconst C (v := 0) dX1_partOfPrice_15 (by decide) ?_
  refine k_callVir C (As := [.int h, .int 0]) (rest := []) (b + 1) (m_X4_cell l D cI cC cZ cB cJ ad N G (b + 1) (b + 2) 9 (nI (bnH v)) 90 (bvh v) h 0 (by omega) (by omega) hB.2.1.1 hB.2.1.2 (Nat.le_of_ble_eq_true rfl)) gX1_partOfPrice_X4_cell rfl kd_X4_cell rfl rfl ⟨Nat.le_of_ble_eq_true rfl, Nat.le_of_ble_eq_true rfl⟩ (by omega) hB.2.1.1 rfl rfl rfl (Nat.le_of_ble_eq_true rfl) ⟨Nat.zero_le _, Nat.zero_le _⟩ dX1_partOfPrice_16 ?_
  refine k_iload_n C dX1_partOfPrice_19 rfl (j := 0) rfl ?_
  refine k_iadd C dX1_partOfPrice_20 ?_
  refine k_istore C (lv' := [(4, .int ((tC (bvh v) 90 9 (nI (bnH v)) h 0) + (tC (bvh v) 90 9 (nI (bnH v)) h 1))), (3, .int (tC (bvh v) 90 9 (nI (bnH v)) h 1)), (0, .ref (ad b)), (1, .int x), (2, .int h)]) dX1_partOfPrice_21 (by decide) rfl ?_
  refine k_iload C dX1_partOfPrice_23 (j := 0) rfl ?_
  refine k_if_le C 37 dX1_partOfPrice_25 (by decide) (fun c_25 => ?_) (fun c_25 => ?_)
  · skip
    refine k_iconst C (v := 0) dX1_partOfPrice_37 (by decide) ?_
    exact k_iret C hQ rfl rfl dX1_partOfPrice_38 ⟨by simp [jPart, c_25], rfl⟩
  · skip
    refine k_iload_n C dX1_partOfPrice_28 rfl (j := 3) rfl ?_
    refine k_iload_n C dX1_partOfPrice_29 rfl (j := 1) rfl ?_
    refine k_imul C dX1_partOfPrice_30 ?_
    refine k_iload C dX1_partOfPrice_31 (j := 0) rfl ?_
    refine k_idiv C dX1_partOfPrice_33 (fun h9 => c_25 (by rw [h9]; decide)) ?_
    refine k_goto C 38 dX1_partOfPrice_34 (by decide) ?_
    exact k_iret C hQ rfl rfl dX1_partOfPrice_38 ⟨by simp [jPart, c_25], rfl⟩
theorem inX1_runs_1 : ∀ w ∈ wsX10, w ∈ wsX1_runs := fun _ h => List.mem_cons_of_mem _ (List.mem_append_left _ (List.mem_append_right _ h))
theorem inX1_runs_4 : ∀ w ∈ wsX40, w ∈ wsX1_runs := fun _ h => List.mem_cons_of_mem _ (List.mem_append_right _ h)
theorem kd_X1_runs : yX1_runs.cls = RX1 ∧ yX1_runs.cls ≠ "java/lang/invoke/MethodHandle" ∧ yX1_runs.cls ≠ "java/lang/invoke/VarHandle" ∧ (parseMethodDescriptor yX1_runs.desc).map (fun d => d.parameters.length) = some 1 := by decide +kernel
abbrev rX1_runs : Room := ({ frames := 1, cells := 0, slots := 0, locals := 24 } : Room)
set_option maxRecDepth 100000 in
set_option maxHeartbeats 4000000 in
/-- runs -/
theorem m_X1_runs (l : Launch) (D : va_G) (cI cC cZ cB cJ : ClassId) (ad : Nat → Nat) (N : Nat) (G : Nat → va_E) (b : Nat) (v : BV) (h : Int32) (hNb : b + 7 ≤ N) (hB : isBk ad cI G b v) : kMi l yX1_runs wsX1_runs rX1_runs D (kT5 cI cC cZ cB cJ) ad N G [.ref (ad b), .int h] (fun r G' => r = bI (jRuns v h) ∧ G' = G) := by
  refine k_starti (cc := cX1_runs) (ret := (some .boolean)) (maxL := 2) (lv0 := [(0, .ref (ad b)), (1, .int h)]) (by decide) rfl (Nat.le_of_ble_eq_true rfl) rfl ?_
  intro p e s m args below meth c A Q C hQ
  have hlH := hB.2.2.2.2.1
  have hlB := hB.2.2.2.2.2.1
  have hlL := hB.2.2.2.2.2.2
  refine k_aload_n C dX1_runs_0 rfl (j := 0) rfl ?_
  refine k_get C b inX1_runs_1 (by omega) hB.1 rfl 0 (by decide) (List.mem_of_getElem? (i := 1) rfl) rfl rfl dX1_runs_1 ?_
  refine k_iload_n C dX1_runs_4 rfl (j := 1) rfl ?_
  refine k_iconst C (v := 2) dX1_runs_5 (by decide) ?_
  refine k_callVir C (As := [.int h, .int 2]) (rest := []) (b + 1) (m_X4_cell l D cI cC cZ cB cJ ad N G (b + 1) (b + 2) 9 (nI (bnH v)) 90 (bvh v) h 2 (by omega) (by omega) hB.2.1.1 hB.2.1.2 (Nat.le_of_ble_eq_true rfl)) gX1_runs_X4_cell rfl kd_X4_cell rfl rfl ⟨Nat.le_of_ble_eq_true rfl, Nat.le_of_ble_eq_true rfl⟩ (by omega) hB.2.1.1 rfl rfl rfl (Nat.le_of_ble_eq_true rfl) ⟨Nat.zero_le _, Nat.zero_le _⟩ dX1_runs_6 ?_
  refine k_iconst C (v := 1) dX1_runs_9 (by decide) ?_
  refine k_icmp_ne C 17 dX1_runs_10 (by decide) (fun c_10 => ?_) (fun c_10 => ?_)
  · skip
    refine k_iconst C (v := 0) dX1_runs_17 (by decide) ?_
    exact k_iret C hQ rfl (by decide) dX1_runs_18 ⟨by simp [jRuns, bI, c_10], rfl⟩
  · skip
    refine k_iconst C (v := 1) dX1_runs_13 (by decide) ?_
    refine k_goto C 18 dX1_runs_14 (by decide) ?_
    exact k_iret C hQ rfl (by decide) dX1_runs_18 ⟨by simp [jRuns, bI, c_10], rfl⟩
theorem inX1_running_1 : ∀ w ∈ wsX10, w ∈ wsX1_running := fun _ h => List.mem_cons_of_mem _ (List.mem_append_left _ (List.mem_append_right _ h))
theorem inX1_running_4 : ∀ w ∈ wsX40, w ∈ wsX1_running := fun _ h => List.mem_cons_of_mem _ (List.mem_append_right _ h)
theorem kd_X1_running : yX1_running.cls = RX1 ∧ yX1_running.cls ≠ "java/lang/invoke/MethodHandle" ∧ yX1_running.cls ≠ "java/lang/invoke/VarHandle" ∧ (parseMethodDescriptor yX1_running.desc).map (fun d => d.parameters.length) = some 0 := by decide +kernel
abbrev rX1_running : Room := ({ frames := 2, cells := 0, slots := 0, locals := 47 } : Room)
set_option maxRecDepth 100000 in
set_option maxHeartbeats 4000000 in
/-- running -/
theorem m_X1_running (l : Launch) (D : va_G) (cI cC cZ cB cJ : ClassId) (ad : Nat → Nat) (N : Nat) (G : Nat → va_E) (b : Nat) (v : BV) (hNb : b + 7 ≤ N) (hB : isBk ad cI G b v) : kMi l yX1_running wsX1_running rX1_running D (kT5 cI cC cZ cB cJ) ad N G [.ref (ad b)] (fun r G' => r = jRunning v ∧ G' = G) := by
  refine k_starti (cc := cX1_running) (ret := (some .int)) (maxL := 1) (lv0 := [(0, .ref (ad b))]) (by decide) rfl (Nat.le_of_ble_eq_true rfl) rfl ?_
  intro p e s m args below meth c A Q C hQ
  have hlH := hB.2.2.2.2.1
  have hlB := hB.2.2.2.2.2.1
  have hlL := hB.2.2.2.2.2.2
  refine k_aload_n C dX1_running_0 rfl (j := 0) rfl ?_
  refine k_get C b inX1_running_1 (by omega) hB.1 rfl 0 (by decide) (List.mem_of_getElem? (i := 1) rfl) rfl rfl dX1_running_1 ?_
  refine k_iconst C (v := 2) dX1_running_4 (by decide) ?_
  refine k_callVir C (As := [.int 2]) (rest := []) (b + 1) (m_X4_sum l D cI cC cZ cB cJ ad N G (b + 1) (b + 2) 9 (bnH v) 90 (bvh v) 2 (by omega) (by omega) hB.2.1.1 hB.2.1.2 (Nat.le_of_ble_eq_true rfl) (by omega)) gX1_running_X4_sum rfl kd_X4_sum rfl rfl ⟨Nat.le_of_ble_eq_true rfl, Nat.le_of_ble_eq_true rfl⟩ (by omega) hB.2.1.1 rfl rfl rfl (Nat.le_of_ble_eq_true rfl) ⟨Nat.zero_le _, Nat.zero_le _⟩ dX1_running_5 ?_
  exact k_iret C hQ rfl rfl dX1_running_8 ⟨rfl, rfl⟩
theorem inX1_places_1 : ∀ w ∈ wsX10, w ∈ wsX1_places := fun _ h => List.mem_cons_of_mem _ (List.mem_append_left _ (List.mem_append_right _ h))
theorem inX1_places_4 : ∀ w ∈ wsX40, w ∈ wsX1_places := fun _ h => List.mem_cons_of_mem _ (List.mem_append_right _ h)
theorem kd_X1_places : yX1_places.cls = RX1 ∧ yX1_places.cls ≠ "java/lang/invoke/MethodHandle" ∧ yX1_places.cls ≠ "java/lang/invoke/VarHandle" ∧ (parseMethodDescriptor yX1_places.desc).map (fun d => d.parameters.length) = some 0 := by decide +kernel
abbrev rX1_places : Room := ({ frames := 3, cells := 0, slots := 0, locals := 67 } : Room)
set_option maxRecDepth 100000 in
set_option maxHeartbeats 4000000 in
/-- places -/
theorem m_X1_places (l : Launch) (D : va_G) (cI cC cZ cB cJ : ClassId) (ad : Nat → Nat) (N : Nat) (G : Nat → va_E) (b : Nat) (v : BV) (hNb : b + 7 ≤ N) (hB : isBk ad cI G b v) : kMi l yX1_places wsX1_places rX1_places D (kT5 cI cC cZ cB cJ) ad N G [.ref (ad b)] (fun r G' => r = jPlaces v ∧ G' = G) := by
  refine k_starti (cc := cX1_places) (ret := (some .int)) (maxL := 2) (lv0 := [(0, .ref (ad b))]) (by decide) rfl (Nat.le_of_ble_eq_true rfl) rfl ?_
  intro p e s m args below meth c A Q C hQ
  have hlH := hB.2.2.2.2.1
  have hlB := hB.2.2.2.2.2.1
  have hlL := hB.2.2.2.2.2.2
  refine k_aload_n C dX1_places_0 rfl (j := 0) rfl ?_
  refine k_callVir C (As := []) (rest := []) b (m_X1_running l D cI cC cZ cB cJ ad N G b v (by omega) hB) gX1_places_X1_running rfl kd_X1_running rfl rfl ⟨Nat.le_of_ble_eq_true rfl, Nat.le_of_ble_eq_true rfl⟩ (by omega) hB.1 rfl rfl rfl (Nat.le_of_ble_eq_true rfl) ⟨Nat.zero_le _, Nat.zero_le _⟩ dX1_places_1 ?_
  refine k_istore_n C (lv' := [(1, .int (jRunning v)), (0, .ref (ad b))]) dX1_places_4 rfl (by decide) rfl ?_
  refine k_iload_n C dX1_places_5 rfl (j := 0) rfl ?_
  refine k_iconst C (v := 4) dX1_places_6 (by decide) ?_
  refine k_icmp_gt C 12 dX1_places_7 (by decide) (fun c_7 => ?_) (fun c_7 => ?_)
  · skip
    refine k_iload_n C dX1_places_12 rfl (j := 0) rfl ?_
    refine k_bipush C (v := 7) dX1_places_13 (by decide) ?_
    refine k_icmp_gt C 22 dX1_places_15 (by decide) (fun c_15 => ?_) (fun c_15 => ?_)
    · skip
      refine k_iconst C (v := 3) dX1_places_22 (by decide) ?_
      exact k_iret C hQ rfl rfl dX1_places_23 ⟨by simp [jPlaces, c_7, c_15], rfl⟩
    · skip
      refine k_iconst C (v := 2) dX1_places_18 (by decide) ?_
      refine k_goto C 23 dX1_places_19 (by decide) ?_
      exact k_iret C hQ rfl rfl dX1_places_23 ⟨by simp [jPlaces, c_7, c_15], rfl⟩
  · skip
    refine k_iconst C (v := 0) dX1_places_10 (by decide) ?_
    exact k_iret C hQ rfl rfl dX1_places_11 ⟨by simp [jPlaces, c_7], rfl⟩
theorem inX1_round_1 : ∀ w ∈ wsX10, w ∈ wsX1_round := fun _ h => List.mem_cons_of_mem _ (List.mem_append_left _ (List.mem_append_right _ h))
theorem inX1_round_4 : ∀ w ∈ wsX40, w ∈ wsX1_round := fun _ h => List.mem_cons_of_mem _ (List.mem_append_right _ h)
theorem kd_X1_round : yX1_round.cls = RX1 ∧ yX1_round.cls ≠ "java/lang/invoke/MethodHandle" ∧ yX1_round.cls ≠ "java/lang/invoke/VarHandle" ∧ (parseMethodDescriptor yX1_round.desc).map (fun d => d.parameters.length) = some 0 := by decide +kernel
abbrev rX1_round : Room := ({ frames := 2, cells := 0, slots := 0, locals := 48 } : Room)
set_option maxRecDepth 100000 in
set_option maxHeartbeats 4000000 in
/-- round -/
theorem m_X1_round (l : Launch) (D : va_G) (cI cC cZ cB cJ : ClassId) (ad : Nat → Nat) (N : Nat) (G : Nat → va_E) (b : Nat) (v : BV) (hNb : b + 7 ≤ N) (hB : isBk ad cI G b v) : kMi l yX1_round wsX1_round rX1_round D (kT5 cI cC cZ cB cJ) ad N G [.ref (ad b)] (fun r G' => r = jRound v (bnH v) ∧ G' = G) := by
  refine k_starti (cc := cX1_round) (ret := (some .int)) (maxL := 3) (lv0 := [(0, .ref (ad b))]) (by decide) rfl (Nat.le_of_ble_eq_true rfl) rfl ?_
  intro p e s m args below meth c A Q C hQ
  have hlH := hB.2.2.2.2.1
  have hlB := hB.2.2.2.2.2.1
  have hlL := hB.2.2.2.2.2.2
  refine k_iconst C (v := 0) dX1_round_0 (by decide) ?_
  refine k_istore_n C (lv' := [(1, .int 0), (0, .ref (ad b))]) dX1_round_1 rfl (by decide) rfl ?_
  refine k_iconst C (v := 0) dX1_round_2 (by decide) ?_
  refine k_istore_n C (lv' := [(2, .int 0), (1, .int 0), (0, .ref (ad b))]) dX1_round_3 rfl (by decide) rfl ?_
  have loop4 : ∀ (k : Nat) (i : Nat) , (bnH v + 1 ≤ i + k) → (i ≤ bnH v) → kJ p l e rX1_round s m args below meth c 0 0 Q 3 D ad N A G 4 [(0, .ref (ad b)), (1, .int (jRound v i)), (2, .int (nI i))] [] := by
    intro k
    induction k with
    | zero => intro i  h1 h2; exact absurd h1 (by omega)
    | succ k ih4 =>
      intro i  h1 h2
      refine k_iload_n C dX1_round_4 rfl (j := 2) rfl ?_
      refine k_aload_n C dX1_round_5 rfl (j := 0) rfl ?_
      refine k_get C b inX1_round_1 (by omega) hB.1 rfl 0 (by decide) (List.mem_of_getElem? (i := 1) rfl) rfl rfl dX1_round_6 ?_
      refine k_callVir C (As := []) (rest := [.int (nI i)]) (b + 1) (m_X4_size l D cI cC cZ cB cJ ad N G (b + 1) (b + 2) 9 (nI (bnH v)) 90 (bvh v) (by omega) (by omega) hB.2.1.1 hB.2.1.2 (Nat.le_of_ble_eq_true rfl)) gX1_round_X4_size rfl kd_X4_size rfl rfl ⟨Nat.le_of_ble_eq_true rfl, Nat.le_of_ble_eq_true rfl⟩ (by omega) hB.2.1.1 rfl rfl rfl (Nat.le_of_ble_eq_true rfl) ⟨Nat.zero_le _, Nat.zero_le _⟩ dX1_round_9 ?_
      refine k_icmp_ge C 40 dX1_round_12 (by decide) (fun c_12 => ?_) (fun c_12 => ?_)
      · skip
        have hi : i = bnH v := k_ge c_12 (by omega) h2
        subst hi
        refine k_iload_n C dX1_round_40 rfl (j := 1) rfl ?_
        exact k_iret C hQ rfl rfl dX1_round_41 ⟨rfl, rfl⟩
      · skip
        have hi : i < bnH v := k_lt c_12 (by omega) h2
        refine k_aload_n C dX1_round_15 rfl (j := 0) rfl ?_
        refine k_iload_n C dX1_round_16 rfl (j := 2) rfl ?_
        refine k_callVir C (As := [.int (nI i)]) (rest := []) b (m_X1_runs l D cI cC cZ cB cJ ad N G b v (nI i) (by omega) hB) gX1_round_X1_runs rfl kd_X1_runs rfl rfl ⟨Nat.le_of_ble_eq_true rfl, Nat.le_of_ble_eq_true rfl⟩ (by omega) hB.1 rfl rfl rfl (Nat.le_of_ble_eq_true rfl) ⟨Nat.zero_le _, Nat.zero_le _⟩ dX1_round_17 ?_
        refine k_if_eq C 34 dX1_round_20 (by decide) (fun c_20 => ?_) (fun c_20 => ?_)
        · skip
          have e_20 := bI_f c_20
          rw [show jRound v i = jRound v (i + 1) from by simp [jRound, e_20]]
          refine k_iinc C (v := nI (i + 1)) (lv' := [(2, .int (nI (i + 1))), (0, .ref (ad b)), (1, .int (jRound v (i + 1)))]) dX1_round_34 (j := 2) rfl (nI_1 i) (by decide) rfl ?_
          refine k_goto C 4 dX1_round_37 (by decide) ?_
          exact k_sub [1, 2, 0] rfl (ih4 (i + 1) (by omega) (by omega))
        · skip
          have e_20 := bI_t c_20
          refine k_iload_n C dX1_round_23 rfl (j := 1) rfl ?_
          refine k_aload_n C dX1_round_24 rfl (j := 0) rfl ?_
          refine k_sipush C (v := 1000) dX1_round_25 (by decide) ?_
          refine k_iload_n C dX1_round_28 rfl (j := 2) rfl ?_
          refine k_callVir C (As := [.int 1000, .int (nI i)]) (rest := [.int (jRound v i)]) b (m_X1_partOfPrice l D cI cC cZ cB cJ ad N G b v 1000 (nI i) (by omega) hB) gX1_round_X1_partOfPrice rfl kd_X1_partOfPrice rfl rfl ⟨Nat.le_of_ble_eq_true rfl, Nat.le_of_ble_eq_true rfl⟩ (by omega) hB.1 rfl rfl rfl (Nat.le_of_ble_eq_true rfl) ⟨Nat.zero_le _, Nat.zero_le _⟩ dX1_round_29 ?_
          refine k_iadd C dX1_round_32 ?_
          refine k_istore_n C (lv' := [(1, .int ((jRound v i) + (jPart v 1000 (nI i)))), (0, .ref (ad b)), (2, .int (nI i))]) dX1_round_33 rfl (by decide) rfl ?_
          rw [show (jRound v i) + (jPart v 1000 (nI i)) = jRound v (i + 1) from by simp [jRound, e_20]]
          refine k_iinc C (v := nI (i + 1)) (lv' := [(2, .int (nI (i + 1))), (1, .int (jRound v (i + 1))), (0, .ref (ad b))]) dX1_round_34 (j := 2) rfl (nI_1 i) (by decide) rfl ?_
          refine k_goto C 4 dX1_round_37 (by decide) ?_
          exact k_sub [2, 1, 0] rfl (ih4 (i + 1) (by omega) (by omega))
  exact k_sub [2, 1, 0] rfl (loop4 (bnH v + 1) 0 (by omega) (Nat.zero_le _))
theorem inX1_wholeStake_1 : ∀ w ∈ wsX10, w ∈ wsX1_wholeStake := fun _ h => List.mem_cons_of_mem _ (List.mem_append_left _ (List.mem_append_right _ h))
theorem inX1_wholeStake_4 : ∀ w ∈ wsX40, w ∈ wsX1_wholeStake := fun _ h => List.mem_cons_of_mem _ (List.mem_append_right _ h)
theorem kd_X1_wholeStake : yX1_wholeStake.cls = RX1 ∧ yX1_wholeStake.cls ≠ "java/lang/invoke/MethodHandle" ∧ yX1_wholeStake.cls ≠ "java/lang/invoke/VarHandle" ∧ (parseMethodDescriptor yX1_wholeStake.desc).map (fun d => d.parameters.length) = some 1 := by decide +kernel
abbrev rX1_wholeStake : Room := ({ frames := 1, cells := 0, slots := 0, locals := 24 } : Room)
set_option maxRecDepth 100000 in
set_option maxHeartbeats 4000000 in
/-- wholeStake -/
theorem m_X1_wholeStake (l : Launch) (D : va_G) (cI cC cZ cB cJ : ClassId) (ad : Nat → Nat) (N : Nat) (G : Nat → va_E) (b : Nat) (v : BV) (x : Int32) (hNb : b + 7 ≤ N) (hB : isBk ad cI G b v) : kMi l yX1_wholeStake wsX1_wholeStake rX1_wholeStake D (kT5 cI cC cZ cB cJ) ad N G [.ref (ad b), .int x] (fun r G' => r = jWhole v x ∧ G' = G) := by
  refine k_starti (cc := cX1_wholeStake) (ret := (some .int)) (maxL := 2) (lv0 := [(0, .ref (ad b)), (1, .int x)]) (by decide) rfl (Nat.le_of_ble_eq_true rfl) rfl ?_
  intro p e s m args below meth c A Q C hQ
  have hlH := hB.2.2.2.2.1
  have hlB := hB.2.2.2.2.2.1
  have hlL := hB.2.2.2.2.2.2
  refine k_aload_n C dX1_wholeStake_0 rfl (j := 0) rfl ?_
  refine k_get C b inX1_wholeStake_1 (by omega) hB.1 rfl 1 (by decide) (List.mem_of_getElem? (i := 1) rfl) rfl rfl dX1_wholeStake_1 ?_
  refine k_iload_n C dX1_wholeStake_4 rfl (j := 1) rfl ?_
  refine k_iconst C (v := 1) dX1_wholeStake_5 (by decide) ?_
  refine k_callVir C (As := [.int x, .int 1]) (rest := []) (b + 3) (m_X4_cell l D cI cC cZ cB cJ ad N G (b + 3) (b + 4) 8 (nI (bnB v)) 192 (bvb v) x 1 (by omega) (by omega) hB.2.2.1.1 hB.2.2.1.2 (Nat.le_of_ble_eq_true rfl)) gX1_wholeStake_X4_cell rfl kd_X4_cell rfl rfl ⟨Nat.le_of_ble_eq_true rfl, Nat.le_of_ble_eq_true rfl⟩ (by omega) hB.2.2.1.1 rfl rfl rfl (Nat.le_of_ble_eq_true rfl) ⟨Nat.zero_le _, Nat.zero_le _⟩ dX1_wholeStake_6 ?_
  refine k_iconst C (v := 1) dX1_wholeStake_9 (by decide) ?_
  refine k_aload_n C dX1_wholeStake_10 rfl (j := 0) rfl ?_
  refine k_get C b inX1_wholeStake_1 (by omega) hB.1 rfl 1 (by decide) (List.mem_of_getElem? (i := 1) rfl) rfl rfl dX1_wholeStake_11 ?_
  refine k_iload_n C dX1_wholeStake_14 rfl (j := 1) rfl ?_
  refine k_iconst C (v := 2) dX1_wholeStake_15 (by decide) ?_
  refine k_callVir C (As := [.int x, .int 2]) (rest := [.int 1, .int (tC (bvb v) 192 8 (nI (bnB v)) x 1)]) (b + 3) (m_X4_cell l D cI cC cZ cB cJ ad N G (b + 3) (b + 4) 8 (nI (bnB v)) 192 (bvb v) x 2 (by omega) (by omega) hB.2.2.1.1 hB.2.2.1.2 (Nat.le_of_ble_eq_true rfl)) gX1_wholeStake_X4_cell rfl kd_X4_cell rfl rfl ⟨Nat.le_of_ble_eq_true rfl, Nat.le_of_ble_eq_true rfl⟩ (by omega) hB.2.2.1.1 rfl rfl rfl (Nat.le_of_ble_eq_true rfl) ⟨Nat.zero_le _, Nat.zero_le _⟩ dX1_wholeStake_16 ?_
  refine k_iadd C dX1_wholeStake_19 ?_
  refine k_imul C dX1_wholeStake_20 ?_
  exact k_iret C hQ rfl rfl dX1_wholeStake_21 ⟨rfl, rfl⟩
theorem inX1_stakes_1 : ∀ w ∈ wsX10, w ∈ wsX1_stakes := fun _ h => List.mem_cons_of_mem _ (List.mem_append_left _ (List.mem_append_right _ h))
theorem inX1_stakes_4 : ∀ w ∈ wsX40, w ∈ wsX1_stakes := fun _ h => List.mem_cons_of_mem _ (List.mem_append_right _ h)
theorem kd_X1_stakes : yX1_stakes.cls = RX1 ∧ yX1_stakes.cls ≠ "java/lang/invoke/MethodHandle" ∧ yX1_stakes.cls ≠ "java/lang/invoke/VarHandle" ∧ (parseMethodDescriptor yX1_stakes.desc).map (fun d => d.parameters.length) = some 0 := by decide +kernel
abbrev rX1_stakes : Room := ({ frames := 2, cells := 0, slots := 0, locals := 45 } : Room)
set_option maxRecDepth 100000 in
set_option maxHeartbeats 4000000 in
/-- stakes -/
theorem m_X1_stakes (l : Launch) (D : va_G) (cI cC cZ cB cJ : ClassId) (ad : Nat → Nat) (N : Nat) (G : Nat → va_E) (b : Nat) (v : BV) (hNb : b + 7 ≤ N) (hB : isBk ad cI G b v) : kMi l yX1_stakes wsX1_stakes rX1_stakes D (kT5 cI cC cZ cB cJ) ad N G [.ref (ad b)] (fun r G' => r = jStakes v (bnB v) ∧ G' = G) := by
  refine k_starti (cc := cX1_stakes) (ret := (some .int)) (maxL := 3) (lv0 := [(0, .ref (ad b))]) (by decide) rfl (Nat.le_of_ble_eq_true rfl) rfl ?_
  intro p e s m args below meth c A Q C hQ
  have hlH := hB.2.2.2.2.1
  have hlB := hB.2.2.2.2.2.1
  have hlL := hB.2.2.2.2.2.2
  refine k_iconst C (v := 0) dX1_stakes_0 (by decide) ?_
  refine k_istore_n C (lv' := [(1, .int 0), (0, .ref (ad b))]) dX1_stakes_1 rfl (by decide) rfl ?_
  refine k_iconst C (v := 0) dX1_stakes_2 (by decide) ?_
  refine k_istore_n C (lv' := [(2, .int 0), (1, .int 0), (0, .ref (ad b))]) dX1_stakes_3 rfl (by decide) rfl ?_
  have loop4 : ∀ (k : Nat) (i : Nat) , (bnB v + 1 ≤ i + k) → (i ≤ bnB v) → kJ p l e rX1_stakes s m args below meth c 0 0 Q 3 D ad N A G 4 [(0, .ref (ad b)), (1, .int (jStakes v i)), (2, .int (nI i))] [] := by
    intro k
    induction k with
    | zero => intro i  h1 h2; exact absurd h1 (by omega)
    | succ k ih4 =>
      intro i  h1 h2
      refine k_iload_n C dX1_stakes_4 rfl (j := 2) rfl ?_
      refine k_aload_n C dX1_stakes_5 rfl (j := 0) rfl ?_
      refine k_get C b inX1_stakes_1 (by omega) hB.1 rfl 1 (by decide) (List.mem_of_getElem? (i := 1) rfl) rfl rfl dX1_stakes_6 ?_
      refine k_callVir C (As := []) (rest := [.int (nI i)]) (b + 3) (m_X4_size l D cI cC cZ cB cJ ad N G (b + 3) (b + 4) 8 (nI (bnB v)) 192 (bvb v) (by omega) (by omega) hB.2.2.1.1 hB.2.2.1.2 (Nat.le_of_ble_eq_true rfl)) gX1_stakes_X4_size rfl kd_X4_size rfl rfl ⟨Nat.le_of_ble_eq_true rfl, Nat.le_of_ble_eq_true rfl⟩ (by omega) hB.2.2.1.1 rfl rfl rfl (Nat.le_of_ble_eq_true rfl) ⟨Nat.zero_le _, Nat.zero_le _⟩ dX1_stakes_9 ?_
      refine k_icmp_ge C 29 dX1_stakes_12 (by decide) (fun c_12 => ?_) (fun c_12 => ?_)
      · skip
        have hi : i = bnB v := k_ge c_12 (by omega) h2
        subst hi
        refine k_iload_n C dX1_stakes_29 rfl (j := 1) rfl ?_
        exact k_iret C hQ rfl rfl dX1_stakes_30 ⟨rfl, rfl⟩
      · skip
        have hi : i < bnB v := k_lt c_12 (by omega) h2
        refine k_iload_n C dX1_stakes_15 rfl (j := 1) rfl ?_
        refine k_aload_n C dX1_stakes_16 rfl (j := 0) rfl ?_
        refine k_iload_n C dX1_stakes_17 rfl (j := 2) rfl ?_
        refine k_callVir C (As := [.int (nI i)]) (rest := [.int (jStakes v i)]) b (m_X1_wholeStake l D cI cC cZ cB cJ ad N G b v (nI i) (by omega) hB) gX1_stakes_X1_wholeStake rfl kd_X1_wholeStake rfl rfl ⟨Nat.le_of_ble_eq_true rfl, Nat.le_of_ble_eq_true rfl⟩ (by omega) hB.1 rfl rfl rfl (Nat.le_of_ble_eq_true rfl) ⟨Nat.zero_le _, Nat.zero_le _⟩ dX1_stakes_18 ?_
        refine k_iadd C dX1_stakes_21 ?_
        refine k_istore_n C (lv' := [(1, .int ((jStakes v i) + (jWhole v (nI i)))), (0, .ref (ad b)), (2, .int (nI i))]) dX1_stakes_22 rfl (by decide) rfl ?_
        refine k_iinc C (v := nI (i + 1)) (lv' := [(2, .int (nI (i + 1))), (1, .int ((jStakes v i) + (jWhole v (nI i)))), (0, .ref (ad b))]) dX1_stakes_23 (j := 2) rfl (nI_1 i) (by decide) rfl ?_
        refine k_goto C 4 dX1_stakes_26 (by decide) ?_
        exact k_sub [2, 1, 0] rfl (ih4 (i + 1) (by omega) (by omega))
  exact k_sub [2, 1, 0] rfl (loop4 (bnB v + 1) 0 (by omega) (Nat.zero_le _))
theorem kd_X1_paid : yX1_paid.cls ≠ "java/lang/invoke/MethodHandle" ∧ yX1_paid.cls ≠ "java/lang/invoke/VarHandle" ∧ (parseMethodDescriptor yX1_paid.desc).map (fun d => d.parameters.length) = some 4 := by decide +kernel
abbrev rX1_paid : Room := ({ frames := 0, cells := 0, slots := 0, locals := 0 } : Room)
set_option maxRecDepth 100000 in
set_option maxHeartbeats 4000000 in
/-- paid -/
theorem m_X1_paid (l : Launch) (D : va_G) (cI cC cZ cB cJ : ClassId) (ad : Nat → Nat) (N : Nat) (G : Nat → va_E) (c0 a b q : Int32)  : kMi l yX1_paid wsX1_paid rX1_paid D (kT5 cI cC cZ cB cJ) ad N G [.int c0, .int a, .int b, .int q] (fun r G' => r = jPaid c0 a b q ∧ G' = G) := by
  refine k_starti (cc := cX1_paid) (ret := (some .int)) (maxL := 4) (lv0 := [(0, .int c0), (1, .int a), (2, .int b), (3, .int q)]) (by decide) rfl (Nat.le_of_ble_eq_true rfl) rfl ?_
  intro p e s m args below meth c A Q C hQ
  refine k_iload_n C dX1_paid_0 rfl (j := 2) rfl ?_
  refine k_if_gt C 6 dX1_paid_1 (by decide) (fun c_1 => ?_) (fun c_1 => ?_)
  · skip
    refine k_iload_n C dX1_paid_6 rfl (j := 0) rfl ?_
    refine k_iload_n C dX1_paid_7 rfl (j := 0) rfl ?_
    refine k_iload_n C dX1_paid_8 rfl (j := 1) rfl ?_
    refine k_imul C dX1_paid_9 ?_
    refine k_iload_n C dX1_paid_10 rfl (j := 2) rfl ?_
    refine k_idiv C dX1_paid_11 (fun h9 => by rw [h9] at c_1; exact absurd c_1 (by decide)) ?_
    refine k_bipush C (v := 100) dX1_paid_12 (by decide) ?_
    refine k_iload_n C dX1_paid_14 rfl (j := 3) rfl ?_
    refine k_isub C dX1_paid_15 ?_
    refine k_imul C dX1_paid_16 ?_
    refine k_bipush C (v := 100) dX1_paid_17 (by decide) ?_
    refine k_idiv C dX1_paid_19 (by decide) ?_
    refine k_iadd C dX1_paid_20 ?_
    exact k_iret C hQ rfl rfl dX1_paid_21 ⟨by simp [jPaid, c_1], rfl⟩
  · skip
    refine k_iload_n C dX1_paid_4 rfl (j := 0) rfl ?_
    exact k_iret C hQ rfl rfl dX1_paid_5 ⟨by simp [jPaid, c_1], rfl⟩
theorem inX1_winPart_1 : ∀ w ∈ wsX10, w ∈ wsX1_winPart := fun _ h => List.mem_cons_of_mem _ (List.mem_append_left _ (List.mem_append_left _ (List.mem_append_right _ h)))
theorem inX1_winPart_4 : ∀ w ∈ wsX40, w ∈ wsX1_winPart := fun _ h => List.mem_cons_of_mem _ (List.mem_append_left _ (List.mem_append_right _ h))
theorem inX1_winPart_0 : ∀ w ∈ wsX00, w ∈ wsX1_winPart := fun _ h => List.mem_cons_of_mem _ (List.mem_append_right _ h)
theorem kd_X1_winPart : yX1_winPart.cls = RX1 ∧ yX1_winPart.cls ≠ "java/lang/invoke/MethodHandle" ∧ yX1_winPart.cls ≠ "java/lang/invoke/VarHandle" ∧ (parseMethodDescriptor yX1_winPart.desc).map (fun d => d.parameters.length) = some 2 := by decide +kernel
abbrev rX1_winPart : Room := ({ frames := 1, cells := 0, slots := 0, locals := 24 } : Room)
set_option maxRecDepth 100000 in
set_option maxHeartbeats 4000000 in
/-- winPart -/
theorem m_X1_winPart (l : Launch) (D : va_G) (cI cC cZ cB cJ : ClassId) (ad : Nat → Nat) (N : Nat) (G : Nat → va_E) (b : Nat) (v : BV) (a : Nat) (w : AV) (x : Int32) (hNb : b + 7 ≤ N) (hB : isBk ad cI G b v) (hNa : a + 3 ≤ N) (hA : isAr ad cI G a w) : kMi l yX1_winPart wsX1_winPart rX1_winPart D (kT5 cI cC cZ cB cJ) ad N G [.ref (ad b), .int x, .ref (ad a)] (fun r G' => r = jWin v w x ∧ G' = G) := by
  refine k_starti (cc := cX1_winPart) (ret := (some .int)) (maxL := 5) (lv0 := [(0, .ref (ad b)), (1, .int x), (2, .ref (ad a))]) (by decide) rfl (Nat.le_of_ble_eq_true rfl) rfl ?_
  intro p e s m args below meth c A Q C hQ
  have hlH := hB.2.2.2.2.1
  have hlB := hB.2.2.2.2.2.1
  have hlL := hB.2.2.2.2.2.2
  refine k_aload_n C dX1_winPart_0 rfl (j := 0) rfl ?_
  refine k_get C b inX1_winPart_1 (by omega) hB.1 rfl 1 (by decide) (List.mem_of_getElem? (i := 1) rfl) rfl rfl dX1_winPart_1 ?_
  refine k_iload_n C dX1_winPart_4 rfl (j := 1) rfl ?_
  refine k_iconst C (v := 0) dX1_winPart_5 (by decide) ?_
  refine k_callVir C (As := [.int x, .int 0]) (rest := []) (b + 3) (m_X4_cell l D cI cC cZ cB cJ ad N G (b + 3) (b + 4) 8 (nI (bnB v)) 192 (bvb v) x 0 (by omega) (by omega) hB.2.2.1.1 hB.2.2.1.2 (Nat.le_of_ble_eq_true rfl)) gX1_winPart_X4_cell rfl kd_X4_cell rfl rfl ⟨Nat.le_of_ble_eq_true rfl, Nat.le_of_ble_eq_true rfl⟩ (by omega) hB.2.2.1.1 rfl rfl rfl (Nat.le_of_ble_eq_true rfl) ⟨Nat.zero_le _, Nat.zero_le _⟩ dX1_winPart_6 ?_
  refine k_istore_n C (lv' := [(3, .int (tC (bvb v) 192 8 (nI (bnB v)) x 0)), (0, .ref (ad b)), (1, .int x), (2, .ref (ad a))]) dX1_winPart_9 rfl (by decide) rfl ?_
  refine k_aload_n C dX1_winPart_10 rfl (j := 3) rfl ?_
  refine k_iload_n C dX1_winPart_11 rfl (j := 0) rfl ?_
  refine k_callVir C (As := [.int (tC (bvb v) 192 8 (nI (bnB v)) x 0)]) (rest := []) a (m_X0_groupOf l D cI cC cZ cB cJ ad N G a w (tC (bvb v) 192 8 (nI (bnB v)) x 0) (by omega) hA) gX1_winPart_X0_groupOf rfl kd_X0_groupOf rfl rfl ⟨Nat.le_of_ble_eq_true rfl, Nat.le_of_ble_eq_true rfl⟩ (by omega) hA.1 rfl rfl rfl (Nat.le_of_ble_eq_true rfl) ⟨Nat.zero_le _, Nat.zero_le _⟩ dX1_winPart_12 ?_
  refine k_istore C (lv' := [(4, .int (aOf (avG w) (tC (bvb v) 192 8 (nI (bnB v)) x 0))), (3, .int (tC (bvb v) 192 8 (nI (bnB v)) x 0)), (0, .ref (ad b)), (1, .int x), (2, .ref (ad a))]) dX1_winPart_15 (by decide) rfl ?_
  refine k_aload_n C dX1_winPart_17 rfl (j := 4) rfl ?_
  refine k_iload_n C dX1_winPart_18 rfl (j := 1) rfl ?_
  refine k_callVir C (As := [.int (tC (bvb v) 192 8 (nI (bnB v)) x 0)]) (rest := []) a (m_X0_placeOf l D cI cC cZ cB cJ ad N G a w (tC (bvb v) 192 8 (nI (bnB v)) x 0) (by omega) hA) gX1_winPart_X0_placeOf rfl kd_X0_placeOf rfl rfl ⟨Nat.le_of_ble_eq_true rfl, Nat.le_of_ble_eq_true rfl⟩ (by omega) hA.1 rfl rfl rfl (Nat.le_of_ble_eq_true rfl) ⟨Nat.zero_le _, Nat.zero_le _⟩ dX1_winPart_19 ?_
  refine k_iconst C (v := 1) dX1_winPart_22 (by decide) ?_
  refine k_icmp_ne C 31 dX1_winPart_23 (by decide) (fun c_23 => ?_) (fun c_23 => ?_)
  · skip
    refine k_iconst C (v := 0) dX1_winPart_31 (by decide) ?_
    exact k_iret C hQ rfl rfl dX1_winPart_32 ⟨by simp [jWin, c_23], rfl⟩
  · skip
    refine k_iload C dX1_winPart_26 (j := 0) rfl ?_
    refine k_if_gt C 33 dX1_winPart_28 (by decide) (fun c_28 => ?_) (fun c_28 => ?_)
    · skip
      refine k_aload_n C dX1_winPart_33 rfl (j := 2) rfl ?_
      refine k_get C b inX1_winPart_1 (by omega) hB.1 rfl 1 (by decide) (List.mem_of_getElem? (i := 1) rfl) rfl rfl dX1_winPart_34 ?_
      refine k_iload_n C dX1_winPart_37 rfl (j := 3) rfl ?_
      refine k_iconst C (v := 1) dX1_winPart_38 (by decide) ?_
      refine k_callVir C (As := [.int x, .int 1]) (rest := []) (b + 3) (m_X4_cell l D cI cC cZ cB cJ ad N G (b + 3) (b + 4) 8 (nI (bnB v)) 192 (bvb v) x 1 (by omega) (by omega) hB.2.2.1.1 hB.2.2.1.2 (Nat.le_of_ble_eq_true rfl)) gX1_winPart_X4_cell rfl kd_X4_cell rfl rfl ⟨Nat.le_of_ble_eq_true rfl, Nat.le_of_ble_eq_true rfl⟩ (by omega) hB.2.2.1.1 rfl rfl rfl (Nat.le_of_ble_eq_true rfl) ⟨Nat.zero_le _, Nat.zero_le _⟩ dX1_winPart_39 ?_
      refine k_iload C dX1_winPart_42 (j := 0) rfl ?_
      refine k_idiv C dX1_winPart_44 (fun h9 => by rw [h9] at c_28; exact absurd c_28 (by decide)) ?_
      refine k_aload_n C dX1_winPart_45 rfl (j := 2) rfl ?_
      refine k_get C b inX1_winPart_1 (by omega) hB.1 rfl 1 (by decide) (List.mem_of_getElem? (i := 1) rfl) rfl rfl dX1_winPart_46 ?_
      refine k_iload_n C dX1_winPart_49 rfl (j := 3) rfl ?_
      refine k_iconst C (v := 3) dX1_winPart_50 (by decide) ?_
      refine k_callVir C (As := [.int x, .int 3]) (rest := [.int ((tC (bvb v) 192 8 (nI (bnB v)) x 1) / (aOf (avG w) (tC (bvb v) 192 8 (nI (bnB v)) x 0)))]) (b + 3) (m_X4_cell l D cI cC cZ cB cJ ad N G (b + 3) (b + 4) 8 (nI (bnB v)) 192 (bvb v) x 3 (by omega) (by omega) hB.2.2.1.1 hB.2.2.1.2 (Nat.le_of_ble_eq_true rfl)) gX1_winPart_X4_cell rfl kd_X4_cell rfl rfl ⟨Nat.le_of_ble_eq_true rfl, Nat.le_of_ble_eq_true rfl⟩ (by omega) hB.2.2.1.1 rfl rfl rfl (Nat.le_of_ble_eq_true rfl) ⟨Nat.zero_le _, Nat.zero_le _⟩ dX1_winPart_51 ?_
      refine k_aload_n C dX1_winPart_54 rfl (j := 2) rfl ?_
      refine k_get C b inX1_winPart_1 (by omega) hB.1 rfl 1 (by decide) (List.mem_of_getElem? (i := 1) rfl) rfl rfl dX1_winPart_55 ?_
      refine k_iload_n C dX1_winPart_58 rfl (j := 3) rfl ?_
      refine k_iconst C (v := 4) dX1_winPart_59 (by decide) ?_
      refine k_callVir C (As := [.int x, .int 4]) (rest := [.int (tC (bvb v) 192 8 (nI (bnB v)) x 3), .int ((tC (bvb v) 192 8 (nI (bnB v)) x 1) / (aOf (avG w) (tC (bvb v) 192 8 (nI (bnB v)) x 0)))]) (b + 3) (m_X4_cell l D cI cC cZ cB cJ ad N G (b + 3) (b + 4) 8 (nI (bnB v)) 192 (bvb v) x 4 (by omega) (by omega) hB.2.2.1.1 hB.2.2.1.2 (Nat.le_of_ble_eq_true rfl)) gX1_winPart_X4_cell rfl kd_X4_cell rfl rfl ⟨Nat.le_of_ble_eq_true rfl, Nat.le_of_ble_eq_true rfl⟩ (by omega) hB.2.2.1.1 rfl rfl rfl (Nat.le_of_ble_eq_true rfl) ⟨Nat.zero_le _, Nat.zero_le _⟩ dX1_winPart_60 ?_
      refine k_aload_n C dX1_winPart_63 rfl (j := 2) rfl ?_
      refine k_get C b inX1_winPart_1 (by omega) hB.1 rfl 1 (by decide) (List.mem_of_getElem? (i := 1) rfl) rfl rfl dX1_winPart_64 ?_
      refine k_iload_n C dX1_winPart_67 rfl (j := 3) rfl ?_
      refine k_iconst C (v := 5) dX1_winPart_68 (by decide) ?_
      refine k_callVir C (As := [.int x, .int 5]) (rest := [.int (tC (bvb v) 192 8 (nI (bnB v)) x 4), .int (tC (bvb v) 192 8 (nI (bnB v)) x 3), .int ((tC (bvb v) 192 8 (nI (bnB v)) x 1) / (aOf (avG w) (tC (bvb v) 192 8 (nI (bnB v)) x 0)))]) (b + 3) (m_X4_cell l D cI cC cZ cB cJ ad N G (b + 3) (b + 4) 8 (nI (bnB v)) 192 (bvb v) x 5 (by omega) (by omega) hB.2.2.1.1 hB.2.2.1.2 (Nat.le_of_ble_eq_true rfl)) gX1_winPart_X4_cell rfl kd_X4_cell rfl rfl ⟨Nat.le_of_ble_eq_true rfl, Nat.le_of_ble_eq_true rfl⟩ (by omega) hB.2.2.1.1 rfl rfl rfl (Nat.le_of_ble_eq_true rfl) ⟨Nat.zero_le _, Nat.zero_le _⟩ dX1_winPart_69 ?_
      refine k_callSir C (As := [.int ((tC (bvb v) 192 8 (nI (bnB v)) x 1) / (aOf (avG w) (tC (bvb v) 192 8 (nI (bnB v)) x 0))), .int (tC (bvb v) 192 8 (nI (bnB v)) x 3), .int (tC (bvb v) 192 8 (nI (bnB v)) x 4), .int (tC (bvb v) 192 8 (nI (bnB v)) x 5)]) (rest := []) (m_X1_paid l D cI cC cZ cB cJ ad N G ((tC (bvb v) 192 8 (nI (bnB v)) x 1) / (aOf (avG w) (tC (bvb v) 192 8 (nI (bnB v)) x 0))) (tC (bvb v) 192 8 (nI (bnB v)) x 3) (tC (bvb v) 192 8 (nI (bnB v)) x 4) (tC (bvb v) 192 8 (nI (bnB v)) x 5)) gX1_winPart_X1_paid rfl kd_X1_paid rfl rfl ⟨Nat.le_of_ble_eq_true rfl, Nat.le_of_ble_eq_true rfl⟩ rfl rfl (Nat.le_of_ble_eq_true rfl) ⟨Nat.zero_le _, Nat.zero_le _⟩ dX1_winPart_72 ?_
      exact k_iret C hQ rfl rfl dX1_winPart_75 ⟨by simp [jWin, c_23, c_28], rfl⟩
    · skip
      refine k_iconst C (v := 0) dX1_winPart_31 (by decide) ?_
      exact k_iret C hQ rfl rfl dX1_winPart_32 ⟨by simp [jWin, c_23, c_28], rfl⟩
theorem inX1_placePart_1 : ∀ w ∈ wsX10, w ∈ wsX1_placePart := fun _ h => List.mem_cons_of_mem _ (List.mem_append_left _ (List.mem_append_left _ (List.mem_append_right _ h)))
theorem inX1_placePart_4 : ∀ w ∈ wsX40, w ∈ wsX1_placePart := fun _ h => List.mem_cons_of_mem _ (List.mem_append_left _ (List.mem_append_right _ h))
theorem inX1_placePart_0 : ∀ w ∈ wsX00, w ∈ wsX1_placePart := fun _ h => List.mem_cons_of_mem _ (List.mem_append_right _ h)
theorem kd_X1_placePart : yX1_placePart.cls = RX1 ∧ yX1_placePart.cls ≠ "java/lang/invoke/MethodHandle" ∧ yX1_placePart.cls ≠ "java/lang/invoke/VarHandle" ∧ (parseMethodDescriptor yX1_placePart.desc).map (fun d => d.parameters.length) = some 2 := by decide +kernel
abbrev rX1_placePart : Room := ({ frames := 1, cells := 0, slots := 0, locals := 24 } : Room)
set_option maxRecDepth 100000 in
set_option maxHeartbeats 4000000 in
/-- placePart -/
theorem m_X1_placePart (l : Launch) (D : va_G) (cI cC cZ cB cJ : ClassId) (ad : Nat → Nat) (N : Nat) (G : Nat → va_E) (b : Nat) (v : BV) (a : Nat) (w : AV) (x : Int32) (hNb : b + 7 ≤ N) (hB : isBk ad cI G b v) (hNa : a + 3 ≤ N) (hA : isAr ad cI G a w) : kMi l yX1_placePart wsX1_placePart rX1_placePart D (kT5 cI cC cZ cB cJ) ad N G [.ref (ad b), .int x, .ref (ad a)] (fun r G' => r = jPlace v w x ∧ G' = G) := by
  refine k_starti (cc := cX1_placePart) (ret := (some .int)) (maxL := 7) (lv0 := [(0, .ref (ad b)), (1, .int x), (2, .ref (ad a))]) (by decide) rfl (Nat.le_of_ble_eq_true rfl) rfl ?_
  intro p e s m args below meth c A Q C hQ
  have hlH := hB.2.2.2.2.1
  have hlB := hB.2.2.2.2.2.1
  have hlL := hB.2.2.2.2.2.2
  refine k_aload_n C dX1_placePart_0 rfl (j := 0) rfl ?_
  refine k_get C b inX1_placePart_1 (by omega) hB.1 rfl 1 (by decide) (List.mem_of_getElem? (i := 1) rfl) rfl rfl dX1_placePart_1 ?_
  refine k_iload_n C dX1_placePart_4 rfl (j := 1) rfl ?_
  refine k_iconst C (v := 2) dX1_placePart_5 (by decide) ?_
  refine k_callVir C (As := [.int x, .int 2]) (rest := []) (b + 3) (m_X4_cell l D cI cC cZ cB cJ ad N G (b + 3) (b + 4) 8 (nI (bnB v)) 192 (bvb v) x 2 (by omega) (by omega) hB.2.2.1.1 hB.2.2.1.2 (Nat.le_of_ble_eq_true rfl)) gX1_placePart_X4_cell rfl kd_X4_cell rfl rfl ⟨Nat.le_of_ble_eq_true rfl, Nat.le_of_ble_eq_true rfl⟩ (by omega) hB.2.2.1.1 rfl rfl rfl (Nat.le_of_ble_eq_true rfl) ⟨Nat.zero_le _, Nat.zero_le _⟩ dX1_placePart_6 ?_
  refine k_if_ne C 14 dX1_placePart_9 (by decide) (fun c_9 => ?_) (fun c_9 => ?_)
  · skip
    refine k_aload_n C dX1_placePart_14 rfl (j := 0) rfl ?_
    refine k_get C b inX1_placePart_1 (by omega) hB.1 rfl 1 (by decide) (List.mem_of_getElem? (i := 1) rfl) rfl rfl dX1_placePart_15 ?_
    refine k_iload_n C dX1_placePart_18 rfl (j := 1) rfl ?_
    refine k_iconst C (v := 1) dX1_placePart_19 (by decide) ?_
    refine k_callVir C (As := [.int x, .int 1]) (rest := []) (b + 3) (m_X4_cell l D cI cC cZ cB cJ ad N G (b + 3) (b + 4) 8 (nI (bnB v)) 192 (bvb v) x 1 (by omega) (by omega) hB.2.2.1.1 hB.2.2.1.2 (Nat.le_of_ble_eq_true rfl)) gX1_placePart_X4_cell rfl kd_X4_cell rfl rfl ⟨Nat.le_of_ble_eq_true rfl, Nat.le_of_ble_eq_true rfl⟩ (by omega) hB.2.2.1.1 rfl rfl rfl (Nat.le_of_ble_eq_true rfl) ⟨Nat.zero_le _, Nat.zero_le _⟩ dX1_placePart_20 ?_
    refine k_istore_n C (lv' := [(3, .int (tC (bvb v) 192 8 (nI (bnB v)) x 1)), (0, .ref (ad b)), (1, .int x), (2, .ref (ad a))]) dX1_placePart_23 rfl (by decide) rfl ?_
    refine k_aload_n C dX1_placePart_24 rfl (j := 3) rfl ?_
    refine k_callVir C (As := []) (rest := []) a (m_X0_places l D cI cC cZ cB cJ ad N G a w (by omega) hA) gX1_placePart_X0_places rfl kd_X0_places rfl rfl ⟨Nat.le_of_ble_eq_true rfl, Nat.le_of_ble_eq_true rfl⟩ (by omega) hA.1 rfl rfl rfl (Nat.le_of_ble_eq_true rfl) ⟨Nat.zero_le _, Nat.zero_le _⟩ dX1_placePart_25 ?_
    refine k_if_ne C 33 dX1_placePart_28 (by decide) (fun c_28 => ?_) (fun c_28 => ?_)
    · skip
      refine k_aload_n C dX1_placePart_33 rfl (j := 1) rfl ?_
      refine k_get C b inX1_placePart_1 (by omega) hB.1 rfl 1 (by decide) (List.mem_of_getElem? (i := 1) rfl) rfl rfl dX1_placePart_34 ?_
      refine k_iload_n C dX1_placePart_37 rfl (j := 2) rfl ?_
      refine k_iconst C (v := 0) dX1_placePart_38 (by decide) ?_
      refine k_callVir C (As := [.int x, .int 0]) (rest := []) (b + 3) (m_X4_cell l D cI cC cZ cB cJ ad N G (b + 3) (b + 4) 8 (nI (bnB v)) 192 (bvb v) x 0 (by omega) (by omega) hB.2.2.1.1 hB.2.2.1.2 (Nat.le_of_ble_eq_true rfl)) gX1_placePart_X4_cell rfl kd_X4_cell rfl rfl ⟨Nat.le_of_ble_eq_true rfl, Nat.le_of_ble_eq_true rfl⟩ (by omega) hB.2.2.1.1 rfl rfl rfl (Nat.le_of_ble_eq_true rfl) ⟨Nat.zero_le _, Nat.zero_le _⟩ dX1_placePart_39 ?_
      refine k_istore C (lv' := [(4, .int (tC (bvb v) 192 8 (nI (bnB v)) x 0)), (3, .int (tC (bvb v) 192 8 (nI (bnB v)) x 1)), (0, .ref (ad b)), (1, .int x), (2, .ref (ad a))]) dX1_placePart_42 (by decide) rfl ?_
      refine k_aload_n C dX1_placePart_44 rfl (j := 4) rfl ?_
      refine k_iload C dX1_placePart_45 (j := 0) rfl ?_
      refine k_callVir C (As := [.int (tC (bvb v) 192 8 (nI (bnB v)) x 0)]) (rest := []) a (m_X0_groupOf l D cI cC cZ cB cJ ad N G a w (tC (bvb v) 192 8 (nI (bnB v)) x 0) (by omega) hA) gX1_placePart_X0_groupOf rfl kd_X0_groupOf rfl rfl ⟨Nat.le_of_ble_eq_true rfl, Nat.le_of_ble_eq_true rfl⟩ (by omega) hA.1 rfl rfl rfl (Nat.le_of_ble_eq_true rfl) ⟨Nat.zero_le _, Nat.zero_le _⟩ dX1_placePart_47 ?_
      refine k_istore C (lv' := [(5, .int (aOf (avG w) (tC (bvb v) 192 8 (nI (bnB v)) x 0))), (4, .int (tC (bvb v) 192 8 (nI (bnB v)) x 0)), (3, .int (tC (bvb v) 192 8 (nI (bnB v)) x 1)), (0, .ref (ad b)), (1, .int x), (2, .ref (ad a))]) dX1_placePart_50 (by decide) rfl ?_
      refine k_iload C dX1_placePart_52 (j := 0) rfl ?_
      refine k_aload_n C dX1_placePart_54 rfl (j := 5) rfl ?_
      refine k_callVir C (As := []) (rest := [.int (aOf (avG w) (tC (bvb v) 192 8 (nI (bnB v)) x 0))]) a (m_X0_places l D cI cC cZ cB cJ ad N G a w (by omega) hA) gX1_placePart_X0_places rfl kd_X0_places rfl rfl ⟨Nat.le_of_ble_eq_true rfl, Nat.le_of_ble_eq_true rfl⟩ (by omega) hA.1 rfl rfl rfl (Nat.le_of_ble_eq_true rfl) ⟨Nat.zero_le _, Nat.zero_le _⟩ dX1_placePart_55 ?_
      refine k_aload_n C dX1_placePart_58 rfl (j := 5) rfl ?_
      refine k_iload C dX1_placePart_59 (j := 1) rfl ?_
      refine k_callVir C (As := [.int (tC (bvb v) 192 8 (nI (bnB v)) x 0)]) (rest := [.int (avP w), .int (aOf (avG w) (tC (bvb v) 192 8 (nI (bnB v)) x 0))]) a (m_X0_placeOf l D cI cC cZ cB cJ ad N G a w (tC (bvb v) 192 8 (nI (bnB v)) x 0) (by omega) hA) gX1_placePart_X0_placeOf rfl kd_X0_placeOf rfl rfl ⟨Nat.le_of_ble_eq_true rfl, Nat.le_of_ble_eq_true rfl⟩ (by omega) hA.1 rfl rfl rfl (Nat.le_of_ble_eq_true rfl) ⟨Nat.zero_le _, Nat.zero_le _⟩ dX1_placePart_61 ?_
      refine k_isub C dX1_placePart_64 ?_
      refine k_iconst C (v := 1) dX1_placePart_65 (by decide) ?_
      refine k_iadd C dX1_placePart_66 ?_
      refine k_mmin C (List.mem_of_getElem? (i := 2) rfl) (List.mem_of_getElem? (i := 3) rfl) (List.mem_of_getElem? (i := 4) rfl) (List.mem_of_getElem? (i := 5) rfl) (Nat.le_of_ble_eq_true rfl) (Nat.le_of_ble_eq_true rfl) (Nat.le_of_ble_eq_true rfl) (Nat.le_of_ble_eq_true rfl) dX1_placePart_67 ?_
      refine k_istore C (lv' := [(6, .int (jIn v w x)), (5, .int (aOf (avG w) (tC (bvb v) 192 8 (nI (bnB v)) x 0))), (4, .int (tC (bvb v) 192 8 (nI (bnB v)) x 0)), (3, .int (tC (bvb v) 192 8 (nI (bnB v)) x 1)), (0, .ref (ad b)), (1, .int x), (2, .ref (ad a))]) dX1_placePart_70 (by decide) rfl ?_
      refine k_iload C dX1_placePart_72 (j := 1) rfl ?_
      refine k_if_le C 82 dX1_placePart_74 (by decide) (fun c_74 => ?_) (fun c_74 => ?_)
      · skip
        refine k_iconst C (v := 0) dX1_placePart_82 (by decide) ?_
        exact k_iret C hQ rfl rfl dX1_placePart_83 ⟨by simp [jPlace, c_9, c_28, c_74], rfl⟩
      · skip
        refine k_iload C dX1_placePart_77 (j := 0) rfl ?_
        refine k_if_gt C 84 dX1_placePart_79 (by decide) (fun c_79 => ?_) (fun c_79 => ?_)
        · skip
          refine k_iload_n C dX1_placePart_84 rfl (j := 3) rfl ?_
          refine k_iload C dX1_placePart_85 (j := 0) rfl ?_
          refine k_imul C dX1_placePart_87 ?_
          refine k_iload C dX1_placePart_88 (j := 1) rfl ?_
          refine k_idiv C dX1_placePart_90 (fun h9 => by rw [h9] at c_74; exact absurd (by decide) c_74) ?_
          refine k_aload_n C dX1_placePart_91 rfl (j := 4) rfl ?_
          refine k_get C b inX1_placePart_1 (by omega) hB.1 rfl 1 (by decide) (List.mem_of_getElem? (i := 1) rfl) rfl rfl dX1_placePart_92 ?_
          refine k_iload_n C dX1_placePart_95 rfl (j := 5) rfl ?_
          refine k_iconst C (v := 3) dX1_placePart_96 (by decide) ?_
          refine k_callVir C (As := [.int x, .int 3]) (rest := [.int (((tC (bvb v) 192 8 (nI (bnB v)) x 1) * (jIn v w x)) / (aOf (avG w) (tC (bvb v) 192 8 (nI (bnB v)) x 0)))]) (b + 3) (m_X4_cell l D cI cC cZ cB cJ ad N G (b + 3) (b + 4) 8 (nI (bnB v)) 192 (bvb v) x 3 (by omega) (by omega) hB.2.2.1.1 hB.2.2.1.2 (Nat.le_of_ble_eq_true rfl)) gX1_placePart_X4_cell rfl kd_X4_cell rfl rfl ⟨Nat.le_of_ble_eq_true rfl, Nat.le_of_ble_eq_true rfl⟩ (by omega) hB.2.2.1.1 rfl rfl rfl (Nat.le_of_ble_eq_true rfl) ⟨Nat.zero_le _, Nat.zero_le _⟩ dX1_placePart_97 ?_
          refine k_aload_n C dX1_placePart_100 rfl (j := 4) rfl ?_
          refine k_get C b inX1_placePart_1 (by omega) hB.1 rfl 1 (by decide) (List.mem_of_getElem? (i := 1) rfl) rfl rfl dX1_placePart_101 ?_
          refine k_iload_n C dX1_placePart_104 rfl (j := 5) rfl ?_
          refine k_iconst C (v := 4) dX1_placePart_105 (by decide) ?_
          refine k_callVir C (As := [.int x, .int 4]) (rest := [.int (tC (bvb v) 192 8 (nI (bnB v)) x 3), .int (((tC (bvb v) 192 8 (nI (bnB v)) x 1) * (jIn v w x)) / (aOf (avG w) (tC (bvb v) 192 8 (nI (bnB v)) x 0)))]) (b + 3) (m_X4_cell l D cI cC cZ cB cJ ad N G (b + 3) (b + 4) 8 (nI (bnB v)) 192 (bvb v) x 4 (by omega) (by omega) hB.2.2.1.1 hB.2.2.1.2 (Nat.le_of_ble_eq_true rfl)) gX1_placePart_X4_cell rfl kd_X4_cell rfl rfl ⟨Nat.le_of_ble_eq_true rfl, Nat.le_of_ble_eq_true rfl⟩ (by omega) hB.2.2.1.1 rfl rfl rfl (Nat.le_of_ble_eq_true rfl) ⟨Nat.zero_le _, Nat.zero_le _⟩ dX1_placePart_106 ?_
          refine k_aload_n C dX1_placePart_109 rfl (j := 4) rfl ?_
          refine k_get C b inX1_placePart_1 (by omega) hB.1 rfl 4 (by decide) (List.mem_of_getElem? (i := 6) rfl) rfl rfl dX1_placePart_110 ?_
          refine k_imul C dX1_placePart_113 ?_
          refine k_aload_n C dX1_placePart_114 rfl (j := 4) rfl ?_
          refine k_get C b inX1_placePart_1 (by omega) hB.1 rfl 1 (by decide) (List.mem_of_getElem? (i := 1) rfl) rfl rfl dX1_placePart_115 ?_
          refine k_iload_n C dX1_placePart_118 rfl (j := 5) rfl ?_
          refine k_iconst C (v := 5) dX1_placePart_119 (by decide) ?_
          refine k_callVir C (As := [.int x, .int 5]) (rest := [.int ((tC (bvb v) 192 8 (nI (bnB v)) x 4) * (bvP v)), .int (tC (bvb v) 192 8 (nI (bnB v)) x 3), .int (((tC (bvb v) 192 8 (nI (bnB v)) x 1) * (jIn v w x)) / (aOf (avG w) (tC (bvb v) 192 8 (nI (bnB v)) x 0)))]) (b + 3) (m_X4_cell l D cI cC cZ cB cJ ad N G (b + 3) (b + 4) 8 (nI (bnB v)) 192 (bvb v) x 5 (by omega) (by omega) hB.2.2.1.1 hB.2.2.1.2 (Nat.le_of_ble_eq_true rfl)) gX1_placePart_X4_cell rfl kd_X4_cell rfl rfl ⟨Nat.le_of_ble_eq_true rfl, Nat.le_of_ble_eq_true rfl⟩ (by omega) hB.2.2.1.1 rfl rfl rfl (Nat.le_of_ble_eq_true rfl) ⟨Nat.zero_le _, Nat.zero_le _⟩ dX1_placePart_120 ?_
          refine k_callSir C (As := [.int (((tC (bvb v) 192 8 (nI (bnB v)) x 1) * (jIn v w x)) / (aOf (avG w) (tC (bvb v) 192 8 (nI (bnB v)) x 0))), .int (tC (bvb v) 192 8 (nI (bnB v)) x 3), .int ((tC (bvb v) 192 8 (nI (bnB v)) x 4) * (bvP v)), .int (tC (bvb v) 192 8 (nI (bnB v)) x 5)]) (rest := []) (m_X1_paid l D cI cC cZ cB cJ ad N G (((tC (bvb v) 192 8 (nI (bnB v)) x 1) * (jIn v w x)) / (aOf (avG w) (tC (bvb v) 192 8 (nI (bnB v)) x 0))) (tC (bvb v) 192 8 (nI (bnB v)) x 3) ((tC (bvb v) 192 8 (nI (bnB v)) x 4) * (bvP v)) (tC (bvb v) 192 8 (nI (bnB v)) x 5)) gX1_placePart_X1_paid rfl kd_X1_paid rfl rfl ⟨Nat.le_of_ble_eq_true rfl, Nat.le_of_ble_eq_true rfl⟩ rfl rfl (Nat.le_of_ble_eq_true rfl) ⟨Nat.zero_le _, Nat.zero_le _⟩ dX1_placePart_123 ?_
          exact k_iret C hQ rfl rfl dX1_placePart_126 ⟨by simp [jPlace, c_9, c_28, c_74, c_79], rfl⟩
        · skip
          refine k_iconst C (v := 0) dX1_placePart_82 (by decide) ?_
          exact k_iret C hQ rfl rfl dX1_placePart_83 ⟨by simp [jPlace, c_9, c_28, c_74, c_79], rfl⟩
    · skip
      refine k_iload_n C dX1_placePart_31 rfl (j := 0) rfl ?_
      exact k_iret C hQ rfl rfl dX1_placePart_32 ⟨by simp [jPlace, c_9, c_28], rfl⟩
  · skip
    refine k_iconst C (v := 0) dX1_placePart_12 (by decide) ?_
    exact k_iret C hQ rfl rfl dX1_placePart_13 ⟨by simp [jPlace, c_9], rfl⟩
theorem inX1_returnOf_1 : ∀ w ∈ wsX10, w ∈ wsX1_returnOf := fun _ h => List.mem_cons_of_mem _ (List.mem_append_left _ (List.mem_append_left _ (List.mem_append_right _ h)))
theorem inX1_returnOf_4 : ∀ w ∈ wsX40, w ∈ wsX1_returnOf := fun _ h => List.mem_cons_of_mem _ (List.mem_append_left _ (List.mem_append_right _ h))
theorem inX1_returnOf_0 : ∀ w ∈ wsX00, w ∈ wsX1_returnOf := fun _ h => List.mem_cons_of_mem _ (List.mem_append_right _ h)
theorem kd_X1_returnOf : yX1_returnOf.cls = RX1 ∧ yX1_returnOf.cls ≠ "java/lang/invoke/MethodHandle" ∧ yX1_returnOf.cls ≠ "java/lang/invoke/VarHandle" ∧ (parseMethodDescriptor yX1_returnOf.desc).map (fun d => d.parameters.length) = some 2 := by decide +kernel
abbrev rX1_returnOf : Room := ({ frames := 2, cells := 0, slots := 0, locals := 50 } : Room)
set_option maxRecDepth 100000 in
set_option maxHeartbeats 4000000 in
/-- returnOf -/
theorem m_X1_returnOf (l : Launch) (D : va_G) (cI cC cZ cB cJ : ClassId) (ad : Nat → Nat) (N : Nat) (G : Nat → va_E) (b : Nat) (v : BV) (a : Nat) (w : AV) (x : Int32) (hNb : b + 7 ≤ N) (hB : isBk ad cI G b v) (hNa : a + 3 ≤ N) (hA : isAr ad cI G a w) : kMi l yX1_returnOf wsX1_returnOf rX1_returnOf D (kT5 cI cC cZ cB cJ) ad N G [.ref (ad b), .int x, .ref (ad a)] (fun r G' => r = jReturn v w x ∧ G' = G) := by
  refine k_starti (cc := cX1_returnOf) (ret := (some .int)) (maxL := 3) (lv0 := [(0, .ref (ad b)), (1, .int x), (2, .ref (ad a))]) (by decide) rfl (Nat.le_of_ble_eq_true rfl) rfl ?_
  intro p e s m args below meth c A Q C hQ
  have hlH := hB.2.2.2.2.1
  have hlB := hB.2.2.2.2.2.1
  have hlL := hB.2.2.2.2.2.2
  refine k_aload_n C dX1_returnOf_0 rfl (j := 0) rfl ?_
  refine k_aload_n C dX1_returnOf_1 rfl (j := 0) rfl ?_
  refine k_get C b inX1_returnOf_1 (by omega) hB.1 rfl 1 (by decide) (List.mem_of_getElem? (i := 1) rfl) rfl rfl dX1_returnOf_2 ?_
  refine k_iload_n C dX1_returnOf_5 rfl (j := 1) rfl ?_
  refine k_iconst C (v := 0) dX1_returnOf_6 (by decide) ?_
  refine k_callVir C (As := [.int x, .int 0]) (rest := [.ref (ad b)]) (b + 3) (m_X4_cell l D cI cC cZ cB cJ ad N G (b + 3) (b + 4) 8 (nI (bnB v)) 192 (bvb v) x 0 (by omega) (by omega) hB.2.2.1.1 hB.2.2.1.2 (Nat.le_of_ble_eq_true rfl)) gX1_returnOf_X4_cell rfl kd_X4_cell rfl rfl ⟨Nat.le_of_ble_eq_true rfl, Nat.le_of_ble_eq_true rfl⟩ (by omega) hB.2.2.1.1 rfl rfl rfl (Nat.le_of_ble_eq_true rfl) ⟨Nat.zero_le _, Nat.zero_le _⟩ dX1_returnOf_7 ?_
  refine k_callVir C (As := [.int (tC (bvb v) 192 8 (nI (bnB v)) x 0)]) (rest := []) b (m_X1_runs l D cI cC cZ cB cJ ad N G b v (tC (bvb v) 192 8 (nI (bnB v)) x 0) (by omega) hB) gX1_returnOf_X1_runs rfl kd_X1_runs rfl rfl ⟨Nat.le_of_ble_eq_true rfl, Nat.le_of_ble_eq_true rfl⟩ (by omega) hB.1 rfl rfl rfl (Nat.le_of_ble_eq_true rfl) ⟨Nat.zero_le _, Nat.zero_le _⟩ dX1_returnOf_10 ?_
  refine k_if_ne C 22 dX1_returnOf_13 (by decide) (fun c_13 => ?_) (fun c_13 => ?_)
  · skip
    refine k_aload_n C dX1_returnOf_22 rfl (j := 0) rfl ?_
    refine k_iload_n C dX1_returnOf_23 rfl (j := 1) rfl ?_
    refine k_aload_n C dX1_returnOf_24 rfl (j := 2) rfl ?_
    refine k_callVir C (As := [.int x, .ref (ad a)]) (rest := []) b (m_X1_winPart l D cI cC cZ cB cJ ad N G b v a w x (by omega) hB (by omega) hA) gX1_returnOf_X1_winPart rfl kd_X1_winPart rfl rfl ⟨Nat.le_of_ble_eq_true rfl, Nat.le_of_ble_eq_true rfl⟩ (by omega) hB.1 rfl rfl rfl (Nat.le_of_ble_eq_true rfl) ⟨Nat.zero_le _, Nat.zero_le _⟩ dX1_returnOf_25 ?_
    refine k_aload_n C dX1_returnOf_28 rfl (j := 0) rfl ?_
    refine k_iload_n C dX1_returnOf_29 rfl (j := 1) rfl ?_
    refine k_aload_n C dX1_returnOf_30 rfl (j := 2) rfl ?_
    refine k_callVir C (As := [.int x, .ref (ad a)]) (rest := [.int (jWin v w x)]) b (m_X1_placePart l D cI cC cZ cB cJ ad N G b v a w x (by omega) hB (by omega) hA) gX1_returnOf_X1_placePart rfl kd_X1_placePart rfl rfl ⟨Nat.le_of_ble_eq_true rfl, Nat.le_of_ble_eq_true rfl⟩ (by omega) hB.1 rfl rfl rfl (Nat.le_of_ble_eq_true rfl) ⟨Nat.zero_le _, Nat.zero_le _⟩ dX1_returnOf_31 ?_
    refine k_iadd C dX1_returnOf_34 ?_
    exact k_iret C hQ rfl rfl dX1_returnOf_35 ⟨by simp [jReturn, bI_t c_13], rfl⟩
  · skip
    refine k_aload_n C dX1_returnOf_16 rfl (j := 0) rfl ?_
    refine k_iload_n C dX1_returnOf_17 rfl (j := 1) rfl ?_
    refine k_callVir C (As := [.int x]) (rest := []) b (m_X1_wholeStake l D cI cC cZ cB cJ ad N G b v x (by omega) hB) gX1_returnOf_X1_wholeStake rfl kd_X1_wholeStake rfl rfl ⟨Nat.le_of_ble_eq_true rfl, Nat.le_of_ble_eq_true rfl⟩ (by omega) hB.1 rfl rfl rfl (Nat.le_of_ble_eq_true rfl) ⟨Nat.zero_le _, Nat.zero_le _⟩ dX1_returnOf_18 ?_
    exact k_iret C hQ rfl rfl dX1_returnOf_21 ⟨by simp [jReturn, bI_f c_13], rfl⟩
theorem inX1_reasonOf_1 : ∀ w ∈ wsX10, w ∈ wsX1_reasonOf := fun _ h => List.mem_cons_of_mem _ (List.mem_append_left _ (List.mem_append_left _ (List.mem_append_right _ h)))
theorem inX1_reasonOf_4 : ∀ w ∈ wsX40, w ∈ wsX1_reasonOf := fun _ h => List.mem_cons_of_mem _ (List.mem_append_left _ (List.mem_append_right _ h))
theorem inX1_reasonOf_0 : ∀ w ∈ wsX00, w ∈ wsX1_reasonOf := fun _ h => List.mem_cons_of_mem _ (List.mem_append_right _ h)
theorem kd_X1_reasonOf : yX1_reasonOf.cls = RX1 ∧ yX1_reasonOf.cls ≠ "java/lang/invoke/MethodHandle" ∧ yX1_reasonOf.cls ≠ "java/lang/invoke/VarHandle" ∧ (parseMethodDescriptor yX1_reasonOf.desc).map (fun d => d.parameters.length) = some 2 := by decide +kernel
abbrev rX1_reasonOf : Room := ({ frames := 2, cells := 0, slots := 0, locals := 50 } : Room)
set_option maxRecDepth 100000 in
set_option maxHeartbeats 4000000 in
/-- reasonOf -/
theorem m_X1_reasonOf (l : Launch) (D : va_G) (cI cC cZ cB cJ : ClassId) (ad : Nat → Nat) (N : Nat) (G : Nat → va_E) (b : Nat) (v : BV) (a : Nat) (w : AV) (x : Int32) (hNb : b + 7 ≤ N) (hB : isBk ad cI G b v) (hNa : a + 3 ≤ N) (hA : isAr ad cI G a w) : kMi l yX1_reasonOf wsX1_reasonOf rX1_reasonOf D (kT5 cI cC cZ cB cJ) ad N G [.ref (ad b), .int x, .ref (ad a)] (fun r G' => r = jReason v w x ∧ G' = G) := by
  refine k_starti (cc := cX1_reasonOf) (ret := (some .int)) (maxL := 3) (lv0 := [(0, .ref (ad b)), (1, .int x), (2, .ref (ad a))]) (by decide) rfl (Nat.le_of_ble_eq_true rfl) rfl ?_
  intro p e s m args below meth c A Q C hQ
  have hlH := hB.2.2.2.2.1
  have hlB := hB.2.2.2.2.2.1
  have hlL := hB.2.2.2.2.2.2
  refine k_aload_n C dX1_reasonOf_0 rfl (j := 0) rfl ?_
  refine k_aload_n C dX1_reasonOf_1 rfl (j := 0) rfl ?_
  refine k_get C b inX1_reasonOf_1 (by omega) hB.1 rfl 1 (by decide) (List.mem_of_getElem? (i := 1) rfl) rfl rfl dX1_reasonOf_2 ?_
  refine k_iload_n C dX1_reasonOf_5 rfl (j := 1) rfl ?_
  refine k_iconst C (v := 0) dX1_reasonOf_6 (by decide) ?_
  refine k_callVir C (As := [.int x, .int 0]) (rest := [.ref (ad b)]) (b + 3) (m_X4_cell l D cI cC cZ cB cJ ad N G (b + 3) (b + 4) 8 (nI (bnB v)) 192 (bvb v) x 0 (by omega) (by omega) hB.2.2.1.1 hB.2.2.1.2 (Nat.le_of_ble_eq_true rfl)) gX1_reasonOf_X4_cell rfl kd_X4_cell rfl rfl ⟨Nat.le_of_ble_eq_true rfl, Nat.le_of_ble_eq_true rfl⟩ (by omega) hB.2.2.1.1 rfl rfl rfl (Nat.le_of_ble_eq_true rfl) ⟨Nat.zero_le _, Nat.zero_le _⟩ dX1_reasonOf_7 ?_
  refine k_callVir C (As := [.int (tC (bvb v) 192 8 (nI (bnB v)) x 0)]) (rest := []) b (m_X1_runs l D cI cC cZ cB cJ ad N G b v (tC (bvb v) 192 8 (nI (bnB v)) x 0) (by omega) hB) gX1_reasonOf_X1_runs rfl kd_X1_runs rfl rfl ⟨Nat.le_of_ble_eq_true rfl, Nat.le_of_ble_eq_true rfl⟩ (by omega) hB.1 rfl rfl rfl (Nat.le_of_ble_eq_true rfl) ⟨Nat.zero_le _, Nat.zero_le _⟩ dX1_reasonOf_10 ?_
  refine k_if_ne C 18 dX1_reasonOf_13 (by decide) (fun c_13 => ?_) (fun c_13 => ?_)
  · skip
    refine k_aload_n C dX1_reasonOf_18 rfl (j := 0) rfl ?_
    refine k_iload_n C dX1_reasonOf_19 rfl (j := 1) rfl ?_
    refine k_aload_n C dX1_reasonOf_20 rfl (j := 2) rfl ?_
    refine k_callVir C (As := [.int x, .ref (ad a)]) (rest := []) b (m_X1_winPart l D cI cC cZ cB cJ ad N G b v a w x (by omega) hB (by omega) hA) gX1_reasonOf_X1_winPart rfl kd_X1_winPart rfl rfl ⟨Nat.le_of_ble_eq_true rfl, Nat.le_of_ble_eq_true rfl⟩ (by omega) hB.1 rfl rfl rfl (Nat.le_of_ble_eq_true rfl) ⟨Nat.zero_le _, Nat.zero_le _⟩ dX1_reasonOf_21 ?_
    refine k_if_le C 29 dX1_reasonOf_24 (by decide) (fun c_24 => ?_) (fun c_24 => ?_)
    · skip
      refine k_aload_n C dX1_reasonOf_29 rfl (j := 0) rfl ?_
      refine k_iload_n C dX1_reasonOf_30 rfl (j := 1) rfl ?_
      refine k_aload_n C dX1_reasonOf_31 rfl (j := 2) rfl ?_
      refine k_callVir C (As := [.int x, .ref (ad a)]) (rest := []) b (m_X1_placePart l D cI cC cZ cB cJ ad N G b v a w x (by omega) hB (by omega) hA) gX1_reasonOf_X1_placePart rfl kd_X1_placePart rfl rfl ⟨Nat.le_of_ble_eq_true rfl, Nat.le_of_ble_eq_true rfl⟩ (by omega) hB.1 rfl rfl rfl (Nat.le_of_ble_eq_true rfl) ⟨Nat.zero_le _, Nat.zero_le _⟩ dX1_reasonOf_32 ?_
      refine k_if_ne C 40 dX1_reasonOf_35 (by decide) (fun c_35 => ?_) (fun c_35 => ?_)
      · skip
        refine k_aload_n C dX1_reasonOf_40 rfl (j := 2) rfl ?_
        refine k_callVir C (As := []) (rest := []) a (m_X0_places l D cI cC cZ cB cJ ad N G a w (by omega) hA) gX1_reasonOf_X0_places rfl kd_X0_places rfl rfl ⟨Nat.le_of_ble_eq_true rfl, Nat.le_of_ble_eq_true rfl⟩ (by omega) hA.1 rfl rfl rfl (Nat.le_of_ble_eq_true rfl) ⟨Nat.zero_le _, Nat.zero_le _⟩ dX1_reasonOf_41 ?_
        refine k_if_ne C 51 dX1_reasonOf_44 (by decide) (fun c_44 => ?_) (fun c_44 => ?_)
        · skip
          refine k_iconst C (v := 3) dX1_reasonOf_51 (by decide) ?_
          exact k_iret C hQ rfl rfl dX1_reasonOf_52 ⟨by simp [jReason, bI_t c_13, c_24, c_35, c_44], rfl⟩
        · skip
          refine k_iconst C (v := 4) dX1_reasonOf_47 (by decide) ?_
          refine k_goto C 52 dX1_reasonOf_48 (by decide) ?_
          exact k_iret C hQ rfl rfl dX1_reasonOf_52 ⟨by simp [jReason, bI_t c_13, c_24, c_35, c_44], rfl⟩
      · skip
        refine k_iconst C (v := 0) dX1_reasonOf_38 (by decide) ?_
        exact k_iret C hQ rfl rfl dX1_reasonOf_39 ⟨by simp [jReason, bI_t c_13, c_24, c_35], rfl⟩
    · skip
      refine k_iconst C (v := 2) dX1_reasonOf_27 (by decide) ?_
      exact k_iret C hQ rfl rfl dX1_reasonOf_28 ⟨by simp [jReason, bI_t c_13, c_24], rfl⟩
  · skip
    refine k_iconst C (v := 1) dX1_reasonOf_16 (by decide) ?_
    exact k_iret C hQ rfl rfl dX1_reasonOf_17 ⟨by simp [jReason, bI_f c_13], rfl⟩
theorem inX1_returnOfLaid_1 : ∀ w ∈ wsX10, w ∈ wsX1_returnOfLaid := fun _ h => List.mem_cons_of_mem _ (List.mem_append_left _ (List.mem_append_left _ (List.mem_append_right _ h)))
theorem inX1_returnOfLaid_4 : ∀ w ∈ wsX40, w ∈ wsX1_returnOfLaid := fun _ h => List.mem_cons_of_mem _ (List.mem_append_left _ (List.mem_append_right _ h))
theorem inX1_returnOfLaid_0 : ∀ w ∈ wsX00, w ∈ wsX1_returnOfLaid := fun _ h => List.mem_cons_of_mem _ (List.mem_append_right _ h)
theorem kd_X1_returnOfLaid : yX1_returnOfLaid.cls = RX1 ∧ yX1_returnOfLaid.cls ≠ "java/lang/invoke/MethodHandle" ∧ yX1_returnOfLaid.cls ≠ "java/lang/invoke/VarHandle" ∧ (parseMethodDescriptor yX1_returnOfLaid.desc).map (fun d => d.parameters.length) = some 2 := by decide +kernel
abbrev rX1_returnOfLaid : Room := ({ frames := 2, cells := 0, slots := 0, locals := 45 } : Room)
set_option maxRecDepth 100000 in
set_option maxHeartbeats 4000000 in
/-- returnOfLaid -/
theorem m_X1_returnOfLaid (l : Launch) (D : va_G) (cI cC cZ cB cJ : ClassId) (ad : Nat → Nat) (N : Nat) (G : Nat → va_E) (b : Nat) (v : BV) (a : Nat) (w : AV) (x : Int32) (hNb : b + 7 ≤ N) (hB : isBk ad cI G b v) (hNa : a + 3 ≤ N) (hA : isAr ad cI G a w) : kMi l yX1_returnOfLaid wsX1_returnOfLaid rX1_returnOfLaid D (kT5 cI cC cZ cB cJ) ad N G [.ref (ad b), .int x, .ref (ad a)] (fun r G' => r = jOff v w x ∧ G' = G) := by
  refine k_starti (cc := cX1_returnOfLaid) (ret := (some .int)) (maxL := 6) (lv0 := [(0, .ref (ad b)), (1, .int x), (2, .ref (ad a))]) (by decide) rfl (Nat.le_of_ble_eq_true rfl) rfl ?_
  intro p e s m args below meth c A Q C hQ
  have hlH := hB.2.2.2.2.1
  have hlB := hB.2.2.2.2.2.1
  have hlL := hB.2.2.2.2.2.2
  refine k_aload_n C dX1_returnOfLaid_0 rfl (j := 0) rfl ?_
  refine k_get C b inX1_returnOfLaid_1 (by omega) hB.1 rfl 2 (by decide) (List.mem_of_getElem? (i := 1) rfl) rfl rfl dX1_returnOfLaid_1 ?_
  refine k_iload_n C dX1_returnOfLaid_4 rfl (j := 1) rfl ?_
  refine k_iconst C (v := 0) dX1_returnOfLaid_5 (by decide) ?_
  refine k_callVir C (As := [.int x, .int 0]) (rest := []) (b + 5) (m_X4_cell l D cI cC cZ cB cJ ad N G (b + 5) (b + 6) 5 (nI (bnL v)) 30 (bvl v) x 0 (by omega) (by omega) hB.2.2.2.1.1 hB.2.2.2.1.2 (Nat.le_of_ble_eq_true rfl)) gX1_returnOfLaid_X4_cell rfl kd_X4_cell rfl rfl ⟨Nat.le_of_ble_eq_true rfl, Nat.le_of_ble_eq_true rfl⟩ (by omega) hB.2.2.2.1.1 rfl rfl rfl (Nat.le_of_ble_eq_true rfl) ⟨Nat.zero_le _, Nat.zero_le _⟩ dX1_returnOfLaid_6 ?_
  refine k_istore_n C (lv' := [(3, .int (tC (bvl v) 30 5 (nI (bnL v)) x 0)), (0, .ref (ad b)), (1, .int x), (2, .ref (ad a))]) dX1_returnOfLaid_9 rfl (by decide) rfl ?_
  refine k_aload_n C dX1_returnOfLaid_10 rfl (j := 1) rfl ?_
  refine k_get C b inX1_returnOfLaid_1 (by omega) hB.1 rfl 2 (by decide) (List.mem_of_getElem? (i := 1) rfl) rfl rfl dX1_returnOfLaid_11 ?_
  refine k_iload_n C dX1_returnOfLaid_14 rfl (j := 2) rfl ?_
  refine k_iconst C (v := 1) dX1_returnOfLaid_15 (by decide) ?_
  refine k_callVir C (As := [.int x, .int 1]) (rest := []) (b + 5) (m_X4_cell l D cI cC cZ cB cJ ad N G (b + 5) (b + 6) 5 (nI (bnL v)) 30 (bvl v) x 1 (by omega) (by omega) hB.2.2.2.1.1 hB.2.2.2.1.2 (Nat.le_of_ble_eq_true rfl)) gX1_returnOfLaid_X4_cell rfl kd_X4_cell rfl rfl ⟨Nat.le_of_ble_eq_true rfl, Nat.le_of_ble_eq_true rfl⟩ (by omega) hB.2.2.2.1.1 rfl rfl rfl (Nat.le_of_ble_eq_true rfl) ⟨Nat.zero_le _, Nat.zero_le _⟩ dX1_returnOfLaid_16 ?_
  refine k_istore C (lv' := [(4, .int (tC (bvl v) 30 5 (nI (bnL v)) x 1)), (3, .int (tC (bvl v) 30 5 (nI (bnL v)) x 0)), (0, .ref (ad b)), (1, .int x), (2, .ref (ad a))]) dX1_returnOfLaid_19 (by decide) rfl ?_
  refine k_aload_n C dX1_returnOfLaid_21 rfl (j := 2) rfl ?_
  refine k_iload_n C dX1_returnOfLaid_22 rfl (j := 1) rfl ?_
  refine k_callVir C (As := [.int (tC (bvl v) 30 5 (nI (bnL v)) x 0)]) (rest := []) b (m_X1_runs l D cI cC cZ cB cJ ad N G b v (tC (bvl v) 30 5 (nI (bnL v)) x 0) (by omega) hB) gX1_returnOfLaid_X1_runs rfl kd_X1_runs rfl rfl ⟨Nat.le_of_ble_eq_true rfl, Nat.le_of_ble_eq_true rfl⟩ (by omega) hB.1 rfl rfl rfl (Nat.le_of_ble_eq_true rfl) ⟨Nat.zero_le _, Nat.zero_le _⟩ dX1_returnOfLaid_23 ?_
  refine k_if_ne C 32 dX1_returnOfLaid_26 (by decide) (fun c_26 => ?_) (fun c_26 => ?_)
  · skip
    refine k_aload_n C dX1_returnOfLaid_32 rfl (j := 4) rfl ?_
    refine k_iload_n C dX1_returnOfLaid_33 rfl (j := 1) rfl ?_
    refine k_callVir C (As := [.int (tC (bvl v) 30 5 (nI (bnL v)) x 0)]) (rest := []) a (m_X0_groupOf l D cI cC cZ cB cJ ad N G a w (tC (bvl v) 30 5 (nI (bnL v)) x 0) (by omega) hA) gX1_returnOfLaid_X0_groupOf rfl kd_X0_groupOf rfl rfl ⟨Nat.le_of_ble_eq_true rfl, Nat.le_of_ble_eq_true rfl⟩ (by omega) hA.1 rfl rfl rfl (Nat.le_of_ble_eq_true rfl) ⟨Nat.zero_le _, Nat.zero_le _⟩ dX1_returnOfLaid_34 ?_
    refine k_istore C (lv' := [(5, .int (aOf (avG w) (tC (bvl v) 30 5 (nI (bnL v)) x 0))), (4, .int (tC (bvl v) 30 5 (nI (bnL v)) x 1)), (3, .int (tC (bvl v) 30 5 (nI (bnL v)) x 0)), (0, .ref (ad b)), (1, .int x), (2, .ref (ad a))]) dX1_returnOfLaid_37 (by decide) rfl ?_
    refine k_aload_n C dX1_returnOfLaid_39 rfl (j := 5) rfl ?_
    refine k_iload_n C dX1_returnOfLaid_40 rfl (j := 2) rfl ?_
    refine k_callVir C (As := [.int (tC (bvl v) 30 5 (nI (bnL v)) x 0)]) (rest := []) a (m_X0_placeOf l D cI cC cZ cB cJ ad N G a w (tC (bvl v) 30 5 (nI (bnL v)) x 0) (by omega) hA) gX1_returnOfLaid_X0_placeOf rfl kd_X0_placeOf rfl rfl ⟨Nat.le_of_ble_eq_true rfl, Nat.le_of_ble_eq_true rfl⟩ (by omega) hA.1 rfl rfl rfl (Nat.le_of_ble_eq_true rfl) ⟨Nat.zero_le _, Nat.zero_le _⟩ dX1_returnOfLaid_41 ?_
    refine k_iconst C (v := 1) dX1_returnOfLaid_44 (by decide) ?_
    refine k_icmp_ne C 53 dX1_returnOfLaid_45 (by decide) (fun c_45 => ?_) (fun c_45 => ?_)
    · skip
      refine k_iconst C (v := 0) dX1_returnOfLaid_53 (by decide) ?_
      exact k_iret C hQ rfl rfl dX1_returnOfLaid_54 ⟨by simp [jOff, bI_t c_26, c_45], rfl⟩
    · skip
      refine k_iload C dX1_returnOfLaid_48 (j := 0) rfl ?_
      refine k_if_gt C 55 dX1_returnOfLaid_50 (by decide) (fun c_50 => ?_) (fun c_50 => ?_)
      · skip
        refine k_iload C dX1_returnOfLaid_55 (j := 1) rfl ?_
        refine k_iload C dX1_returnOfLaid_57 (j := 0) rfl ?_
        refine k_idiv C dX1_returnOfLaid_59 (fun h9 => by rw [h9] at c_50; exact absurd c_50 (by decide)) ?_
        refine k_aload_n C dX1_returnOfLaid_60 rfl (j := 3) rfl ?_
        refine k_get C b inX1_returnOfLaid_1 (by omega) hB.1 rfl 2 (by decide) (List.mem_of_getElem? (i := 1) rfl) rfl rfl dX1_returnOfLaid_61 ?_
        refine k_iload_n C dX1_returnOfLaid_64 rfl (j := 4) rfl ?_
        refine k_iconst C (v := 2) dX1_returnOfLaid_65 (by decide) ?_
        refine k_callVir C (As := [.int x, .int 2]) (rest := [.int ((tC (bvl v) 30 5 (nI (bnL v)) x 1) / (aOf (avG w) (tC (bvl v) 30 5 (nI (bnL v)) x 0)))]) (b + 5) (m_X4_cell l D cI cC cZ cB cJ ad N G (b + 5) (b + 6) 5 (nI (bnL v)) 30 (bvl v) x 2 (by omega) (by omega) hB.2.2.2.1.1 hB.2.2.2.1.2 (Nat.le_of_ble_eq_true rfl)) gX1_returnOfLaid_X4_cell rfl kd_X4_cell rfl rfl ⟨Nat.le_of_ble_eq_true rfl, Nat.le_of_ble_eq_true rfl⟩ (by omega) hB.2.2.2.1.1 rfl rfl rfl (Nat.le_of_ble_eq_true rfl) ⟨Nat.zero_le _, Nat.zero_le _⟩ dX1_returnOfLaid_66 ?_
        refine k_aload_n C dX1_returnOfLaid_69 rfl (j := 3) rfl ?_
        refine k_get C b inX1_returnOfLaid_1 (by omega) hB.1 rfl 2 (by decide) (List.mem_of_getElem? (i := 1) rfl) rfl rfl dX1_returnOfLaid_70 ?_
        refine k_iload_n C dX1_returnOfLaid_73 rfl (j := 4) rfl ?_
        refine k_iconst C (v := 3) dX1_returnOfLaid_74 (by decide) ?_
        refine k_callVir C (As := [.int x, .int 3]) (rest := [.int (tC (bvl v) 30 5 (nI (bnL v)) x 2), .int ((tC (bvl v) 30 5 (nI (bnL v)) x 1) / (aOf (avG w) (tC (bvl v) 30 5 (nI (bnL v)) x 0)))]) (b + 5) (m_X4_cell l D cI cC cZ cB cJ ad N G (b + 5) (b + 6) 5 (nI (bnL v)) 30 (bvl v) x 3 (by omega) (by omega) hB.2.2.2.1.1 hB.2.2.2.1.2 (Nat.le_of_ble_eq_true rfl)) gX1_returnOfLaid_X4_cell rfl kd_X4_cell rfl rfl ⟨Nat.le_of_ble_eq_true rfl, Nat.le_of_ble_eq_true rfl⟩ (by omega) hB.2.2.2.1.1 rfl rfl rfl (Nat.le_of_ble_eq_true rfl) ⟨Nat.zero_le _, Nat.zero_le _⟩ dX1_returnOfLaid_75 ?_
        refine k_iconst C (v := 0) dX1_returnOfLaid_78 (by decide) ?_
        refine k_callSir C (As := [.int ((tC (bvl v) 30 5 (nI (bnL v)) x 1) / (aOf (avG w) (tC (bvl v) 30 5 (nI (bnL v)) x 0))), .int (tC (bvl v) 30 5 (nI (bnL v)) x 2), .int (tC (bvl v) 30 5 (nI (bnL v)) x 3), .int 0]) (rest := []) (m_X1_paid l D cI cC cZ cB cJ ad N G ((tC (bvl v) 30 5 (nI (bnL v)) x 1) / (aOf (avG w) (tC (bvl v) 30 5 (nI (bnL v)) x 0))) (tC (bvl v) 30 5 (nI (bnL v)) x 2) (tC (bvl v) 30 5 (nI (bnL v)) x 3) 0) gX1_returnOfLaid_X1_paid rfl kd_X1_paid rfl rfl ⟨Nat.le_of_ble_eq_true rfl, Nat.le_of_ble_eq_true rfl⟩ rfl rfl (Nat.le_of_ble_eq_true rfl) ⟨Nat.zero_le _, Nat.zero_le _⟩ dX1_returnOfLaid_79 ?_
        exact k_iret C hQ rfl rfl dX1_returnOfLaid_82 ⟨by simp [jOff, bI_t c_26, c_45, c_50], rfl⟩
      · skip
        refine k_iconst C (v := 0) dX1_returnOfLaid_53 (by decide) ?_
        exact k_iret C hQ rfl rfl dX1_returnOfLaid_54 ⟨by simp [jOff, bI_t c_26, c_45, c_50], rfl⟩
  · skip
    refine k_iload C dX1_returnOfLaid_29 (j := 0) rfl ?_
    exact k_iret C hQ rfl rfl dX1_returnOfLaid_31 ⟨by simp [jOff, bI_f c_26], rfl⟩
theorem inX1_wouldWin_1 : ∀ w ∈ wsX10, w ∈ wsX1_wouldWin := fun _ h => List.mem_cons_of_mem _ (List.mem_append_left _ (List.mem_append_left _ (List.mem_append_right _ h)))
theorem inX1_wouldWin_4 : ∀ w ∈ wsX40, w ∈ wsX1_wouldWin := fun _ h => List.mem_cons_of_mem _ (List.mem_append_left _ (List.mem_append_right _ h))
theorem inX1_wouldWin_0 : ∀ w ∈ wsX00, w ∈ wsX1_wouldWin := fun _ h => List.mem_cons_of_mem _ (List.mem_append_right _ h)
theorem kd_X1_wouldWin : yX1_wouldWin.cls = RX1 ∧ yX1_wouldWin.cls ≠ "java/lang/invoke/MethodHandle" ∧ yX1_wouldWin.cls ≠ "java/lang/invoke/VarHandle" ∧ (parseMethodDescriptor yX1_wouldWin.desc).map (fun d => d.parameters.length) = some 1 := by decide +kernel
abbrev rX1_wouldWin : Room := ({ frames := 3, cells := 0, slots := 0, locals := 72 } : Room)
set_option maxRecDepth 100000 in
set_option maxHeartbeats 4000000 in
/-- wouldWin -/
theorem m_X1_wouldWin (l : Launch) (D : va_G) (cI cC cZ cB cJ : ClassId) (ad : Nat → Nat) (N : Nat) (G : Nat → va_E) (b : Nat) (v : BV) (a : Nat) (w : AV) (hNb : b + 7 ≤ N) (hB : isBk ad cI G b v) (hNa : a + 3 ≤ N) (hA : isAr ad cI G a w) : kMi l yX1_wouldWin wsX1_wouldWin rX1_wouldWin D (kT5 cI cC cZ cB cJ) ad N G [.ref (ad b), .ref (ad a)] (fun r G' => r = jWould v w ∧ G' = G) := by
  refine k_starti (cc := cX1_wouldWin) (ret := (some .int)) (maxL := 4) (lv0 := [(0, .ref (ad b)), (1, .ref (ad a))]) (by decide) rfl (Nat.le_of_ble_eq_true rfl) rfl ?_
  intro p e s m args below meth c A Q C hQ
  have hlH := hB.2.2.2.2.1
  have hlB := hB.2.2.2.2.2.1
  have hlL := hB.2.2.2.2.2.2
  refine k_ldc C (v := 10000000) dX1_wouldWin_0 (List.mem_of_getElem? (i := 1) rfl) ?_
  refine k_aload_n C dX1_wouldWin_2 rfl (j := 0) rfl ?_
  refine k_callVir C (As := []) (rest := [.int 10000000]) b (m_X1_stakes l D cI cC cZ cB cJ ad N G b v (by omega) hB) gX1_wouldWin_X1_stakes rfl kd_X1_stakes rfl rfl ⟨Nat.le_of_ble_eq_true rfl, Nat.le_of_ble_eq_true rfl⟩ (by omega) hB.1 rfl rfl rfl (Nat.le_of_ble_eq_true rfl) ⟨Nat.zero_le _, Nat.zero_le _⟩ dX1_wouldWin_3 ?_
  refine k_iadd C dX1_wouldWin_6 ?_
  refine k_aload_n C dX1_wouldWin_7 rfl (j := 0) rfl ?_
  refine k_get C b inX1_wouldWin_1 (by omega) hB.1 rfl 2 (by decide) (List.mem_of_getElem? (i := 2) rfl) rfl rfl dX1_wouldWin_8 ?_
  refine k_iconst C (v := 1) dX1_wouldWin_11 (by decide) ?_
  refine k_callVir C (As := [.int 1]) (rest := [.int (10000000 + (jStakes v (bnB v)))]) (b + 5) (m_X4_sum l D cI cC cZ cB cJ ad N G (b + 5) (b + 6) 5 (bnL v) 30 (bvl v) 1 (by omega) (by omega) hB.2.2.2.1.1 hB.2.2.2.1.2 (Nat.le_of_ble_eq_true rfl) (by omega)) gX1_wouldWin_X4_sum rfl kd_X4_sum rfl rfl ⟨Nat.le_of_ble_eq_true rfl, Nat.le_of_ble_eq_true rfl⟩ (by omega) hB.2.2.2.1.1 rfl rfl rfl (Nat.le_of_ble_eq_true rfl) ⟨Nat.zero_le _, Nat.zero_le _⟩ dX1_wouldWin_12 ?_
  refine k_isub C dX1_wouldWin_15 ?_
  refine k_istore_n C (lv' := [(2, .int ((10000000 + (jStakes v (bnB v))) - (tS (bvl v) 30 5 (nI (bnL v)) 1 (bnL v)))), (0, .ref (ad b)), (1, .ref (ad a))]) dX1_wouldWin_16 rfl (by decide) rfl ?_
  refine k_iconst C (v := 0) dX1_wouldWin_17 (by decide) ?_
  refine k_istore_n C (lv' := [(3, .int 0), (2, .int ((10000000 + (jStakes v (bnB v))) - (tS (bvl v) 30 5 (nI (bnL v)) 1 (bnL v)))), (0, .ref (ad b)), (1, .ref (ad a))]) dX1_wouldWin_18 rfl (by decide) rfl ?_
  have loop19 : ∀ (k : Nat) (i : Nat) , (bnB v + 1 ≤ i + k) → (i ≤ bnB v) → kJ p l e rX1_wouldWin s m args below meth c 0 0 Q 4 D ad N A G 19 [(0, .ref (ad b)), (1, .ref (ad a)), (2, .int (jW1 v w i)), (3, .int (nI i))] [] := by
    intro k
    induction k with
    | zero => intro i  h1 h2; exact absurd h1 (by omega)
    | succ k ih19 =>
      intro i  h1 h2
      refine k_iload_n C dX1_wouldWin_19 rfl (j := 3) rfl ?_
      refine k_aload_n C dX1_wouldWin_20 rfl (j := 0) rfl ?_
      refine k_get C b inX1_wouldWin_1 (by omega) hB.1 rfl 1 (by decide) (List.mem_of_getElem? (i := 3) rfl) rfl rfl dX1_wouldWin_21 ?_
      refine k_callVir C (As := []) (rest := [.int (nI i)]) (b + 3) (m_X4_size l D cI cC cZ cB cJ ad N G (b + 3) (b + 4) 8 (nI (bnB v)) 192 (bvb v) (by omega) (by omega) hB.2.2.1.1 hB.2.2.1.2 (Nat.le_of_ble_eq_true rfl)) gX1_wouldWin_X4_size rfl kd_X4_size rfl rfl ⟨Nat.le_of_ble_eq_true rfl, Nat.le_of_ble_eq_true rfl⟩ (by omega) hB.2.2.1.1 rfl rfl rfl (Nat.le_of_ble_eq_true rfl) ⟨Nat.zero_le _, Nat.zero_le _⟩ dX1_wouldWin_24 ?_
      refine k_icmp_ge C 45 dX1_wouldWin_27 (by decide) (fun c_27 => ?_) (fun c_27 => ?_)
      · skip
        have hi : i = bnB v := k_ge c_27 (by omega) h2
        rw [hi]
        refine k_iconst C (v := 0) dX1_wouldWin_45 (by decide) ?_
        refine k_istore_n C (lv' := [(3, .int 0), (0, .ref (ad b)), (1, .ref (ad a)), (2, .int (jW1 v w (bnB v)))]) dX1_wouldWin_46 rfl (by decide) rfl ?_
        have loop47 : ∀ (k : Nat) (i : Nat) , (bnL v + 1 ≤ i + k) → (i ≤ bnL v) → kJ p l e rX1_wouldWin s m args below meth c 0 0 Q 4 D ad N A G 47 [(0, .ref (ad b)), (1, .ref (ad a)), (2, .int (jW2 v w i)), (3, .int (nI i))] [] := by
          intro k
          induction k with
          | zero => intro i  h1 h2; exact absurd h1 (by omega)
          | succ k ih47 =>
            intro i  h1 h2
            refine k_iload_n C dX1_wouldWin_47 rfl (j := 3) rfl ?_
            refine k_aload_n C dX1_wouldWin_48 rfl (j := 0) rfl ?_
            refine k_get C b inX1_wouldWin_1 (by omega) hB.1 rfl 2 (by decide) (List.mem_of_getElem? (i := 2) rfl) rfl rfl dX1_wouldWin_49 ?_
            refine k_callVir C (As := []) (rest := [.int (nI i)]) (b + 5) (m_X4_size l D cI cC cZ cB cJ ad N G (b + 5) (b + 6) 5 (nI (bnL v)) 30 (bvl v) (by omega) (by omega) hB.2.2.2.1.1 hB.2.2.2.1.2 (Nat.le_of_ble_eq_true rfl)) gX1_wouldWin_X4_size rfl kd_X4_size rfl rfl ⟨Nat.le_of_ble_eq_true rfl, Nat.le_of_ble_eq_true rfl⟩ (by omega) hB.2.2.2.1.1 rfl rfl rfl (Nat.le_of_ble_eq_true rfl) ⟨Nat.zero_le _, Nat.zero_le _⟩ dX1_wouldWin_52 ?_
            refine k_icmp_ge C 73 dX1_wouldWin_55 (by decide) (fun c_55 => ?_) (fun c_55 => ?_)
            · skip
              have hi : i = bnL v := k_ge c_55 (by omega) h2
              rw [hi]
              refine k_iload_n C dX1_wouldWin_73 rfl (j := 2) rfl ?_
              exact k_iret C hQ rfl rfl dX1_wouldWin_74 ⟨rfl, rfl⟩
            · skip
              have hi : i < bnL v := k_lt c_55 (by omega) h2
              refine k_iload_n C dX1_wouldWin_58 rfl (j := 2) rfl ?_
              refine k_aload_n C dX1_wouldWin_59 rfl (j := 0) rfl ?_
              refine k_iload_n C dX1_wouldWin_60 rfl (j := 3) rfl ?_
              refine k_aload_n C dX1_wouldWin_61 rfl (j := 1) rfl ?_
              refine k_callVir C (As := [.int (nI i), .ref (ad a)]) (rest := [.int (jW2 v w i)]) b (m_X1_returnOfLaid l D cI cC cZ cB cJ ad N G b v a w (nI i) (by omega) hB (by omega) hA) gX1_wouldWin_X1_returnOfLaid rfl kd_X1_returnOfLaid rfl rfl ⟨Nat.le_of_ble_eq_true rfl, Nat.le_of_ble_eq_true rfl⟩ (by omega) hB.1 rfl rfl rfl (Nat.le_of_ble_eq_true rfl) ⟨Nat.zero_le _, Nat.zero_le _⟩ dX1_wouldWin_62 ?_
              refine k_iadd C dX1_wouldWin_65 ?_
              refine k_istore_n C (lv' := [(2, .int ((jW2 v w i) + (jOff v w (nI i)))), (0, .ref (ad b)), (1, .ref (ad a)), (3, .int (nI i))]) dX1_wouldWin_66 rfl (by decide) rfl ?_
              refine k_iinc C (v := nI (i + 1)) (lv' := [(3, .int (nI (i + 1))), (2, .int ((jW2 v w i) + (jOff v w (nI i)))), (0, .ref (ad b)), (1, .ref (ad a))]) dX1_wouldWin_67 (j := 3) rfl (nI_1 i) (by decide) rfl ?_
              refine k_goto C 47 dX1_wouldWin_70 (by decide) ?_
              exact k_sub [2, 3, 1, 0] rfl (ih47 (i + 1) (by omega) (by omega))
        exact k_sub [1, 2, 3, 0] rfl (loop47 (bnL v + 1) 0 (by omega) (Nat.zero_le _))
      · skip
        have hi : i < bnB v := k_lt c_27 (by omega) h2
        refine k_iload_n C dX1_wouldWin_30 rfl (j := 2) rfl ?_
        refine k_aload_n C dX1_wouldWin_31 rfl (j := 0) rfl ?_
        refine k_iload_n C dX1_wouldWin_32 rfl (j := 3) rfl ?_
        refine k_aload_n C dX1_wouldWin_33 rfl (j := 1) rfl ?_
        refine k_callVir C (As := [.int (nI i), .ref (ad a)]) (rest := [.int (jW1 v w i)]) b (m_X1_returnOf l D cI cC cZ cB cJ ad N G b v a w (nI i) (by omega) hB (by omega) hA) gX1_wouldWin_X1_returnOf rfl kd_X1_returnOf rfl rfl ⟨Nat.le_of_ble_eq_true rfl, Nat.le_of_ble_eq_true rfl⟩ (by omega) hB.1 rfl rfl rfl (Nat.le_of_ble_eq_true rfl) ⟨Nat.zero_le _, Nat.zero_le _⟩ dX1_wouldWin_34 ?_
        refine k_isub C dX1_wouldWin_37 ?_
        refine k_istore_n C (lv' := [(2, .int ((jW1 v w i) - (jReturn v w (nI i)))), (0, .ref (ad b)), (1, .ref (ad a)), (3, .int (nI i))]) dX1_wouldWin_38 rfl (by decide) rfl ?_
        refine k_iinc C (v := nI (i + 1)) (lv' := [(3, .int (nI (i + 1))), (2, .int ((jW1 v w i) - (jReturn v w (nI i)))), (0, .ref (ad b)), (1, .ref (ad a))]) dX1_wouldWin_39 (j := 3) rfl (nI_1 i) (by decide) rfl ?_
        refine k_goto C 19 dX1_wouldWin_42 (by decide) ?_
        exact k_sub [2, 3, 1, 0] rfl (ih19 (i + 1) (by omega) (by omega))
  exact k_sub [2, 3, 1, 0] rfl (loop19 (bnB v + 1) 0 (by omega) (Nat.zero_le _))
theorem inX1_won_1 : ∀ w ∈ wsX10, w ∈ wsX1_won := fun _ h => List.mem_cons_of_mem _ (List.mem_append_left _ (List.mem_append_right _ h))
theorem inX1_won_4 : ∀ w ∈ wsX40, w ∈ wsX1_won := fun _ h => List.mem_cons_of_mem _ (List.mem_append_right _ h)
theorem kd_X1_won : yX1_won.cls = RX1 ∧ yX1_won.cls ≠ "java/lang/invoke/MethodHandle" ∧ yX1_won.cls ≠ "java/lang/invoke/VarHandle" ∧ (parseMethodDescriptor yX1_won.desc).map (fun d => d.parameters.length) = some 0 := by decide +kernel
abbrev rX1_won : Room := ({ frames := 3, cells := 0, slots := 0, locals := 67 } : Room)
set_option maxRecDepth 100000 in
set_option maxHeartbeats 4000000 in
/-- won -/
theorem m_X1_won (l : Launch) (D : va_G) (cI cC cZ cB cJ : ClassId) (ad : Nat → Nat) (N : Nat) (G : Nat → va_E) (b : Nat) (v : BV) (hNb : b + 7 ≤ N) (hB : isBk ad cI G b v) : kMi l yX1_won wsX1_won rX1_won D (kT5 cI cC cZ cB cJ) ad N G [.ref (ad b)] (fun r G' => r = jWon v ∧ G' = G) := by
  refine k_starti (cc := cX1_won) (ret := (some .int)) (maxL := 3) (lv0 := [(0, .ref (ad b))]) (by decide) rfl (Nat.le_of_ble_eq_true rfl) rfl ?_
  intro p e s m args below meth c A Q C hQ
  have hlH := hB.2.2.2.2.1
  have hlB := hB.2.2.2.2.2.1
  have hlL := hB.2.2.2.2.2.2
  refine k_aload_n C dX1_won_0 rfl (j := 0) rfl ?_
  refine k_callVir C (As := []) (rest := []) b (m_X1_stakes l D cI cC cZ cB cJ ad N G b v (by omega) hB) gX1_won_X1_stakes rfl kd_X1_stakes rfl rfl ⟨Nat.le_of_ble_eq_true rfl, Nat.le_of_ble_eq_true rfl⟩ (by omega) hB.1 rfl rfl rfl (Nat.le_of_ble_eq_true rfl) ⟨Nat.zero_le _, Nat.zero_le _⟩ dX1_won_1 ?_
  refine k_aload_n C dX1_won_4 rfl (j := 0) rfl ?_
  refine k_get C b inX1_won_1 (by omega) hB.1 rfl 1 (by decide) (List.mem_of_getElem? (i := 1) rfl) rfl rfl dX1_won_5 ?_
  refine k_bipush C (v := 6) dX1_won_8 (by decide) ?_
  refine k_callVir C (As := [.int 6]) (rest := [.int (jStakes v (bnB v))]) (b + 3) (m_X4_sum l D cI cC cZ cB cJ ad N G (b + 3) (b + 4) 8 (bnB v) 192 (bvb v) 6 (by omega) (by omega) hB.2.2.1.1 hB.2.2.1.2 (Nat.le_of_ble_eq_true rfl) (by omega)) gX1_won_X4_sum rfl kd_X4_sum rfl rfl ⟨Nat.le_of_ble_eq_true rfl, Nat.le_of_ble_eq_true rfl⟩ (by omega) hB.2.2.1.1 rfl rfl rfl (Nat.le_of_ble_eq_true rfl) ⟨Nat.zero_le _, Nat.zero_le _⟩ dX1_won_10 ?_
  refine k_isub C dX1_won_13 ?_
  refine k_istore_n C (lv' := [(1, .int ((jStakes v (bnB v)) - (tS (bvb v) 192 8 (nI (bnB v)) 6 (bnB v)))), (0, .ref (ad b))]) dX1_won_14 rfl (by decide) rfl ?_
  refine k_aload_n C dX1_won_15 rfl (j := 1) rfl ?_
  refine k_get C b inX1_won_1 (by omega) hB.1 rfl 2 (by decide) (List.mem_of_getElem? (i := 2) rfl) rfl rfl dX1_won_16 ?_
  refine k_iconst C (v := 4) dX1_won_19 (by decide) ?_
  refine k_callVir C (As := [.int 4]) (rest := []) (b + 5) (m_X4_sum l D cI cC cZ cB cJ ad N G (b + 5) (b + 6) 5 (bnL v) 30 (bvl v) 4 (by omega) (by omega) hB.2.2.2.1.1 hB.2.2.2.1.2 (Nat.le_of_ble_eq_true rfl) (by omega)) gX1_won_X4_sum rfl kd_X4_sum rfl rfl ⟨Nat.le_of_ble_eq_true rfl, Nat.le_of_ble_eq_true rfl⟩ (by omega) hB.2.2.2.1.1 rfl rfl rfl (Nat.le_of_ble_eq_true rfl) ⟨Nat.zero_le _, Nat.zero_le _⟩ dX1_won_20 ?_
  refine k_aload_n C dX1_won_23 rfl (j := 1) rfl ?_
  refine k_get C b inX1_won_1 (by omega) hB.1 rfl 2 (by decide) (List.mem_of_getElem? (i := 2) rfl) rfl rfl dX1_won_24 ?_
  refine k_iconst C (v := 1) dX1_won_27 (by decide) ?_
  refine k_callVir C (As := [.int 1]) (rest := [.int (tS (bvl v) 30 5 (nI (bnL v)) 4 (bnL v))]) (b + 5) (m_X4_sum l D cI cC cZ cB cJ ad N G (b + 5) (b + 6) 5 (bnL v) 30 (bvl v) 1 (by omega) (by omega) hB.2.2.2.1.1 hB.2.2.2.1.2 (Nat.le_of_ble_eq_true rfl) (by omega)) gX1_won_X4_sum rfl kd_X4_sum rfl rfl ⟨Nat.le_of_ble_eq_true rfl, Nat.le_of_ble_eq_true rfl⟩ (by omega) hB.2.2.2.1.1 rfl rfl rfl (Nat.le_of_ble_eq_true rfl) ⟨Nat.zero_le _, Nat.zero_le _⟩ dX1_won_28 ?_
  refine k_isub C dX1_won_31 ?_
  refine k_istore_n C (lv' := [(2, .int ((tS (bvl v) 30 5 (nI (bnL v)) 4 (bnL v)) - (tS (bvl v) 30 5 (nI (bnL v)) 1 (bnL v)))), (1, .int ((jStakes v (bnB v)) - (tS (bvb v) 192 8 (nI (bnB v)) 6 (bnB v)))), (0, .ref (ad b))]) dX1_won_32 rfl (by decide) rfl ?_
  refine k_ldc C (v := 10000000) dX1_won_33 (List.mem_of_getElem? (i := 3) rfl) ?_
  refine k_iload_n C dX1_won_35 rfl (j := 1) rfl ?_
  refine k_iadd C dX1_won_36 ?_
  refine k_iload_n C dX1_won_37 rfl (j := 0) rfl ?_
  refine k_iadd C dX1_won_38 ?_
  exact k_iret C hQ rfl rfl dX1_won_39 ⟨rfl, rfl⟩
theorem inX1_wonByLosses_1 : ∀ w ∈ wsX10, w ∈ wsX1_wonByLosses := fun _ h => List.mem_cons_of_mem _ (List.mem_append_left _ (List.mem_append_right _ h))
theorem inX1_wonByLosses_4 : ∀ w ∈ wsX40, w ∈ wsX1_wonByLosses := fun _ h => List.mem_cons_of_mem _ (List.mem_append_right _ h)
theorem kd_X1_wonByLosses : yX1_wonByLosses.cls = RX1 ∧ yX1_wonByLosses.cls ≠ "java/lang/invoke/MethodHandle" ∧ yX1_wonByLosses.cls ≠ "java/lang/invoke/VarHandle" ∧ (parseMethodDescriptor yX1_wonByLosses.desc).map (fun d => d.parameters.length) = some 0 := by decide +kernel
abbrev rX1_wonByLosses : Room := ({ frames := 2, cells := 0, slots := 0, locals := 45 } : Room)
set_option maxRecDepth 100000 in
set_option maxHeartbeats 4000000 in
/-- wonByLosses -/
theorem m_X1_wonByLosses (l : Launch) (D : va_G) (cI cC cZ cB cJ : ClassId) (ad : Nat → Nat) (N : Nat) (G : Nat → va_E) (b : Nat) (v : BV) (hNb : b + 7 ≤ N) (hB : isBk ad cI G b v) : kMi l yX1_wonByLosses wsX1_wonByLosses rX1_wonByLosses D (kT5 cI cC cZ cB cJ) ad N G [.ref (ad b)] (fun r G' => r = jLosses v ∧ G' = G) := by
  refine k_starti (cc := cX1_wonByLosses) (ret := (some .int)) (maxL := 3) (lv0 := [(0, .ref (ad b))]) (by decide) rfl (Nat.le_of_ble_eq_true rfl) rfl ?_
  intro p e s m args below meth c A Q C hQ
  have hlH := hB.2.2.2.2.1
  have hlB := hB.2.2.2.2.2.1
  have hlL := hB.2.2.2.2.2.2
  refine k_ldc C (v := 10000000) dX1_wonByLosses_0 (List.mem_of_getElem? (i := 1) rfl) ?_
  refine k_istore_n C (lv' := [(1, .int 10000000), (0, .ref (ad b))]) dX1_wonByLosses_2 rfl (by decide) rfl ?_
  refine k_iconst C (v := 0) dX1_wonByLosses_3 (by decide) ?_
  refine k_istore_n C (lv' := [(2, .int 0), (1, .int 10000000), (0, .ref (ad b))]) dX1_wonByLosses_4 rfl (by decide) rfl ?_
  have loop5 : ∀ (k : Nat) (i : Nat) , (bnB v + 1 ≤ i + k) → (i ≤ bnB v) → kJ p l e rX1_wonByLosses s m args below meth c 0 0 Q 3 D ad N A G 5 [(0, .ref (ad b)), (1, .int (jL1 v i)), (2, .int (nI i))] [] := by
    intro k
    induction k with
    | zero => intro i  h1 h2; exact absurd h1 (by omega)
    | succ k ih5 =>
      intro i  h1 h2
      refine k_iload_n C dX1_wonByLosses_5 rfl (j := 2) rfl ?_
      refine k_aload_n C dX1_wonByLosses_6 rfl (j := 0) rfl ?_
      refine k_get C b inX1_wonByLosses_1 (by omega) hB.1 rfl 1 (by decide) (List.mem_of_getElem? (i := 2) rfl) rfl rfl dX1_wonByLosses_7 ?_
      refine k_callVir C (As := []) (rest := [.int (nI i)]) (b + 3) (m_X4_size l D cI cC cZ cB cJ ad N G (b + 3) (b + 4) 8 (nI (bnB v)) 192 (bvb v) (by omega) (by omega) hB.2.2.1.1 hB.2.2.1.2 (Nat.le_of_ble_eq_true rfl)) gX1_wonByLosses_X4_size rfl kd_X4_size rfl rfl ⟨Nat.le_of_ble_eq_true rfl, Nat.le_of_ble_eq_true rfl⟩ (by omega) hB.2.2.1.1 rfl rfl rfl (Nat.le_of_ble_eq_true rfl) ⟨Nat.zero_le _, Nat.zero_le _⟩ dX1_wonByLosses_10 ?_
      refine k_icmp_ge C 41 dX1_wonByLosses_13 (by decide) (fun c_13 => ?_) (fun c_13 => ?_)
      · skip
        have hi : i = bnB v := k_ge c_13 (by omega) h2
        rw [hi]
        refine k_iconst C (v := 0) dX1_wonByLosses_41 (by decide) ?_
        refine k_istore_n C (lv' := [(2, .int 0), (0, .ref (ad b)), (1, .int (jL1 v (bnB v)))]) dX1_wonByLosses_42 rfl (by decide) rfl ?_
        have loop43 : ∀ (k : Nat) (i : Nat) , (bnL v + 1 ≤ i + k) → (i ≤ bnL v) → kJ p l e rX1_wonByLosses s m args below meth c 0 0 Q 3 D ad N A G 43 [(0, .ref (ad b)), (1, .int (jL2 v i)), (2, .int (nI i))] [] := by
          intro k
          induction k with
          | zero => intro i  h1 h2; exact absurd h1 (by omega)
          | succ k ih43 =>
            intro i  h1 h2
            refine k_iload_n C dX1_wonByLosses_43 rfl (j := 2) rfl ?_
            refine k_aload_n C dX1_wonByLosses_44 rfl (j := 0) rfl ?_
            refine k_get C b inX1_wonByLosses_1 (by omega) hB.1 rfl 2 (by decide) (List.mem_of_getElem? (i := 3) rfl) rfl rfl dX1_wonByLosses_45 ?_
            refine k_callVir C (As := []) (rest := [.int (nI i)]) (b + 5) (m_X4_size l D cI cC cZ cB cJ ad N G (b + 5) (b + 6) 5 (nI (bnL v)) 30 (bvl v) (by omega) (by omega) hB.2.2.2.1.1 hB.2.2.2.1.2 (Nat.le_of_ble_eq_true rfl)) gX1_wonByLosses_X4_size rfl kd_X4_size rfl rfl ⟨Nat.le_of_ble_eq_true rfl, Nat.le_of_ble_eq_true rfl⟩ (by omega) hB.2.2.2.1.1 rfl rfl rfl (Nat.le_of_ble_eq_true rfl) ⟨Nat.zero_le _, Nat.zero_le _⟩ dX1_wonByLosses_48 ?_
            refine k_icmp_ge C 82 dX1_wonByLosses_51 (by decide) (fun c_51 => ?_) (fun c_51 => ?_)
            · skip
              have hi : i = bnL v := k_ge c_51 (by omega) h2
              rw [hi]
              refine k_iload_n C dX1_wonByLosses_82 rfl (j := 1) rfl ?_
              exact k_iret C hQ rfl rfl dX1_wonByLosses_83 ⟨rfl, rfl⟩
            · skip
              have hi : i < bnL v := k_lt c_51 (by omega) h2
              refine k_iload_n C dX1_wonByLosses_54 rfl (j := 1) rfl ?_
              refine k_aload_n C dX1_wonByLosses_55 rfl (j := 0) rfl ?_
              refine k_get C b inX1_wonByLosses_1 (by omega) hB.1 rfl 2 (by decide) (List.mem_of_getElem? (i := 3) rfl) rfl rfl dX1_wonByLosses_56 ?_
              refine k_iload_n C dX1_wonByLosses_59 rfl (j := 2) rfl ?_
              refine k_iconst C (v := 1) dX1_wonByLosses_60 (by decide) ?_
              refine k_callVir C (As := [.int (nI i), .int 1]) (rest := [.int (jL2 v i)]) (b + 5) (m_X4_cell l D cI cC cZ cB cJ ad N G (b + 5) (b + 6) 5 (nI (bnL v)) 30 (bvl v) (nI i) 1 (by omega) (by omega) hB.2.2.2.1.1 hB.2.2.2.1.2 (Nat.le_of_ble_eq_true rfl)) gX1_wonByLosses_X4_cell rfl kd_X4_cell rfl rfl ⟨Nat.le_of_ble_eq_true rfl, Nat.le_of_ble_eq_true rfl⟩ (by omega) hB.2.2.2.1.1 rfl rfl rfl (Nat.le_of_ble_eq_true rfl) ⟨Nat.zero_le _, Nat.zero_le _⟩ dX1_wonByLosses_61 ?_
              refine k_aload_n C dX1_wonByLosses_64 rfl (j := 0) rfl ?_
              refine k_get C b inX1_wonByLosses_1 (by omega) hB.1 rfl 2 (by decide) (List.mem_of_getElem? (i := 3) rfl) rfl rfl dX1_wonByLosses_65 ?_
              refine k_iload_n C dX1_wonByLosses_68 rfl (j := 2) rfl ?_
              refine k_iconst C (v := 4) dX1_wonByLosses_69 (by decide) ?_
              refine k_callVir C (As := [.int (nI i), .int 4]) (rest := [.int (tC (bvl v) 30 5 (nI (bnL v)) (nI i) 1), .int (jL2 v i)]) (b + 5) (m_X4_cell l D cI cC cZ cB cJ ad N G (b + 5) (b + 6) 5 (nI (bnL v)) 30 (bvl v) (nI i) 4 (by omega) (by omega) hB.2.2.2.1.1 hB.2.2.2.1.2 (Nat.le_of_ble_eq_true rfl)) gX1_wonByLosses_X4_cell rfl kd_X4_cell rfl rfl ⟨Nat.le_of_ble_eq_true rfl, Nat.le_of_ble_eq_true rfl⟩ (by omega) hB.2.2.2.1.1 rfl rfl rfl (Nat.le_of_ble_eq_true rfl) ⟨Nat.zero_le _, Nat.zero_le _⟩ dX1_wonByLosses_70 ?_
              refine k_isub C dX1_wonByLosses_73 ?_
              refine k_isub C dX1_wonByLosses_74 ?_
              refine k_istore_n C (lv' := [(1, .int ((jL2 v i) - ((tC (bvl v) 30 5 (nI (bnL v)) (nI i) 1) - (tC (bvl v) 30 5 (nI (bnL v)) (nI i) 4)))), (0, .ref (ad b)), (2, .int (nI i))]) dX1_wonByLosses_75 rfl (by decide) rfl ?_
              refine k_iinc C (v := nI (i + 1)) (lv' := [(2, .int (nI (i + 1))), (1, .int ((jL2 v i) - ((tC (bvl v) 30 5 (nI (bnL v)) (nI i) 1) - (tC (bvl v) 30 5 (nI (bnL v)) (nI i) 4)))), (0, .ref (ad b))]) dX1_wonByLosses_76 (j := 2) rfl (nI_1 i) (by decide) rfl ?_
              refine k_goto C 43 dX1_wonByLosses_79 (by decide) ?_
              exact k_sub [2, 1, 0] rfl (ih43 (i + 1) (by omega) (by omega))
        exact k_sub [1, 2, 0] rfl (loop43 (bnL v + 1) 0 (by omega) (Nat.zero_le _))
      · skip
        have hi : i < bnB v := k_lt c_13 (by omega) h2
        refine k_iload_n C dX1_wonByLosses_16 rfl (j := 1) rfl ?_
        refine k_aload_n C dX1_wonByLosses_17 rfl (j := 0) rfl ?_
        refine k_iload_n C dX1_wonByLosses_18 rfl (j := 2) rfl ?_
        refine k_callVir C (As := [.int (nI i)]) (rest := [.int (jL1 v i)]) b (m_X1_wholeStake l D cI cC cZ cB cJ ad N G b v (nI i) (by omega) hB) gX1_wonByLosses_X1_wholeStake rfl kd_X1_wholeStake rfl rfl ⟨Nat.le_of_ble_eq_true rfl, Nat.le_of_ble_eq_true rfl⟩ (by omega) hB.1 rfl rfl rfl (Nat.le_of_ble_eq_true rfl) ⟨Nat.zero_le _, Nat.zero_le _⟩ dX1_wonByLosses_19 ?_
        refine k_aload_n C dX1_wonByLosses_22 rfl (j := 0) rfl ?_
        refine k_get C b inX1_wonByLosses_1 (by omega) hB.1 rfl 1 (by decide) (List.mem_of_getElem? (i := 2) rfl) rfl rfl dX1_wonByLosses_23 ?_
        refine k_iload_n C dX1_wonByLosses_26 rfl (j := 2) rfl ?_
        refine k_bipush C (v := 6) dX1_wonByLosses_27 (by decide) ?_
        refine k_callVir C (As := [.int (nI i), .int 6]) (rest := [.int (jWhole v (nI i)), .int (jL1 v i)]) (b + 3) (m_X4_cell l D cI cC cZ cB cJ ad N G (b + 3) (b + 4) 8 (nI (bnB v)) 192 (bvb v) (nI i) 6 (by omega) (by omega) hB.2.2.1.1 hB.2.2.1.2 (Nat.le_of_ble_eq_true rfl)) gX1_wonByLosses_X4_cell rfl kd_X4_cell rfl rfl ⟨Nat.le_of_ble_eq_true rfl, Nat.le_of_ble_eq_true rfl⟩ (by omega) hB.2.2.1.1 rfl rfl rfl (Nat.le_of_ble_eq_true rfl) ⟨Nat.zero_le _, Nat.zero_le _⟩ dX1_wonByLosses_29 ?_
        refine k_isub C dX1_wonByLosses_32 ?_
        refine k_iadd C dX1_wonByLosses_33 ?_
        refine k_istore_n C (lv' := [(1, .int ((jL1 v i) + ((jWhole v (nI i)) - (tC (bvb v) 192 8 (nI (bnB v)) (nI i) 6)))), (0, .ref (ad b)), (2, .int (nI i))]) dX1_wonByLosses_34 rfl (by decide) rfl ?_
        refine k_iinc C (v := nI (i + 1)) (lv' := [(2, .int (nI (i + 1))), (1, .int ((jL1 v i) + ((jWhole v (nI i)) - (tC (bvb v) 192 8 (nI (bnB v)) (nI i) 6)))), (0, .ref (ad b))]) dX1_wonByLosses_35 (j := 2) rfl (nI_1 i) (by decide) rfl ?_
        refine k_goto C 5 dX1_wonByLosses_38 (by decide) ?_
        exact k_sub [2, 1, 0] rfl (ih5 (i + 1) (by omega) (by omega))
  exact k_sub [2, 1, 0] rfl (loop5 (bnB v + 1) 0 (by omega) (Nat.zero_le _))
