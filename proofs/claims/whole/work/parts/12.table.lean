/-! MODULE Table: cells (t, tc): the table's object and its row of numbers f of length len -/
def tIn (len : Nat) (cols n row col : Int32) : Bool := !(decide (row < 0)) && !(decide (n ≤ row)) && !(decide (col < 0)) && !(decide (cols ≤ col)) && !(decide (row * cols + col < 0)) && !(decide (nI len ≤ row * cols + col))
/-- Table.cell, as Java reckons it -/
def tC (f : Nat → Int32) (len : Nat) (cols n row col : Int32) : Int32 := if tIn len cols n row col = true then f (row * cols + col).toNatClampNeg else 0
/-- Table.put -/
def tP (f : Nat → Int32) (len : Nat) (cols n row col x : Int32) : Nat → Int32 := if tIn len cols n row col = true then upd f (row * cols + col).toNatClampNeg x else f
def tHas (n row : Int32) : Bool := !(decide (row < 0)) && !(decide (n ≤ row))
def tFull (len : Nat) (cols n : Int32) : Bool := !(decide ((n + 1) * cols ≤ nI len))
/-- Table.sum over the first i rows -/
def tS (f : Nat → Int32) (len : Nat) (cols n col : Int32) : Nat → Int32
  | 0 => 0
  | i + 1 => tS f len cols n col i + tC f len cols n (nI i) col
/-- the row behind i columns set to 0 -/
def tZ (f : Nat → Int32) (len : Nat) (cols n row : Int32) : Nat → (Nat → Int32)
  | 0 => f
  | i + 1 => tP (tZ f len cols n row i) len cols n row (nI i) 0
def tCp (f2 f : Nat → Int32) (len : Nat) : Nat → Int32 := fun j => if j < len then f2 j else f j
theorem nI_nlt_self (n : Nat) : ¬ nI n < nI n := fun h => absurd h (by simp)
theorem tMin (len : Nat) : (if nI len < nI len then nI len else nI len) = nI len := if_neg (nI_nlt_self len)
theorem tCp_cpy (f2 f : Nat → Int32) (len : Nat) : va_cpy f2 f (Int32.toNatClampNeg 0) (Int32.toNatClampNeg 0) len = tCp f2 f len := by funext j; simp [va_cpy, tCp, sb_cl0]
theorem inX4_columns_4 : ∀ w ∈ wsX40, w ∈ wsX4_columns := fun _ h => List.mem_cons_of_mem _ (List.mem_append_right _ h)
theorem kd_X4_columns : yX4_columns.cls = RX4 ∧ yX4_columns.cls ≠ "java/lang/invoke/MethodHandle" ∧ yX4_columns.cls ≠ "java/lang/invoke/VarHandle" ∧ (parseMethodDescriptor yX4_columns.desc).map (fun d => d.parameters.length) = some 0 := by decide +kernel
abbrev rX4_columns : Room := ({ frames := 0, cells := 0, slots := 0, locals := 0 } : Room)
set_option maxRecDepth 100000 in
set_option maxHeartbeats 4000000 in
/-- columns() -/
theorem m_X4_columns (l : Launch) (D : va_G) (cI cC cZ cB cJ : ClassId) (ad : Nat → Nat) (N : Nat) (G : Nat → va_E) (t tc : Nat) (cols n : Int32) (len : Nat) (f : Nat → Int32) (hNt : t < N) (hNc : tc < N) (ht : G t = .inr (4, [.int cols, .ref (ad tc), .int n])) (htc : G tc = .inl (cI, len, .inl f)) (hlen : len < 2 ^ 31) : kMi l yX4_columns wsX4_columns rX4_columns D (kT5 cI cC cZ cB cJ) ad N G [.ref (ad t)] (fun r G' => r = cols ∧ G' = G) := by
  refine k_starti (cc := cX4_columns) (ret := (some .int)) (maxL := 1) (lv0 := [(0, .ref (ad t))]) (by decide) rfl (Nat.le_of_ble_eq_true rfl) rfl ?_
  intro p e s m args below meth c A Q C hQ
  refine k_aload_n C dX4_columns_0 rfl (j := 0) rfl ?_
  refine k_get C t inX4_columns_4 hNt ht rfl 0 (by decide) (List.mem_of_getElem? (i := 1) rfl) rfl rfl dX4_columns_1 ?_
  exact k_iret C hQ rfl rfl dX4_columns_4 ⟨rfl, rfl⟩
theorem inX4_size_4 : ∀ w ∈ wsX40, w ∈ wsX4_size := fun _ h => List.mem_cons_of_mem _ (List.mem_append_right _ h)
theorem kd_X4_size : yX4_size.cls = RX4 ∧ yX4_size.cls ≠ "java/lang/invoke/MethodHandle" ∧ yX4_size.cls ≠ "java/lang/invoke/VarHandle" ∧ (parseMethodDescriptor yX4_size.desc).map (fun d => d.parameters.length) = some 0 := by decide +kernel
abbrev rX4_size : Room := ({ frames := 0, cells := 0, slots := 0, locals := 0 } : Room)
set_option maxRecDepth 100000 in
set_option maxHeartbeats 4000000 in
/-- size() -/
theorem m_X4_size (l : Launch) (D : va_G) (cI cC cZ cB cJ : ClassId) (ad : Nat → Nat) (N : Nat) (G : Nat → va_E) (t tc : Nat) (cols n : Int32) (len : Nat) (f : Nat → Int32) (hNt : t < N) (hNc : tc < N) (ht : G t = .inr (4, [.int cols, .ref (ad tc), .int n])) (htc : G tc = .inl (cI, len, .inl f)) (hlen : len < 2 ^ 31) : kMi l yX4_size wsX4_size rX4_size D (kT5 cI cC cZ cB cJ) ad N G [.ref (ad t)] (fun r G' => r = n ∧ G' = G) := by
  refine k_starti (cc := cX4_size) (ret := (some .int)) (maxL := 1) (lv0 := [(0, .ref (ad t))]) (by decide) rfl (Nat.le_of_ble_eq_true rfl) rfl ?_
  intro p e s m args below meth c A Q C hQ
  refine k_aload_n C dX4_size_0 rfl (j := 0) rfl ?_
  refine k_get C t inX4_size_4 hNt ht rfl 2 (by decide) (List.mem_of_getElem? (i := 1) rfl) rfl rfl dX4_size_1 ?_
  exact k_iret C hQ rfl rfl dX4_size_4 ⟨rfl, rfl⟩
theorem inX4_has_4 : ∀ w ∈ wsX40, w ∈ wsX4_has := fun _ h => List.mem_cons_of_mem _ (List.mem_append_right _ h)
theorem kd_X4_has : yX4_has.cls = RX4 ∧ yX4_has.cls ≠ "java/lang/invoke/MethodHandle" ∧ yX4_has.cls ≠ "java/lang/invoke/VarHandle" ∧ (parseMethodDescriptor yX4_has.desc).map (fun d => d.parameters.length) = some 1 := by decide +kernel
abbrev rX4_has : Room := ({ frames := 0, cells := 0, slots := 0, locals := 0 } : Room)
set_option maxRecDepth 100000 in
set_option maxHeartbeats 4000000 in
/-- has(row) -/
theorem m_X4_has (l : Launch) (D : va_G) (cI cC cZ cB cJ : ClassId) (ad : Nat → Nat) (N : Nat) (G : Nat → va_E) (t tc : Nat) (cols n : Int32) (len : Nat) (f : Nat → Int32) (row : Int32) (hNt : t < N) (hNc : tc < N) (ht : G t = .inr (4, [.int cols, .ref (ad tc), .int n])) (htc : G tc = .inl (cI, len, .inl f)) (hlen : len < 2 ^ 31) : kMi l yX4_has wsX4_has rX4_has D (kT5 cI cC cZ cB cJ) ad N G [.ref (ad t), .int row] (fun r G' => r = bI (tHas n row) ∧ G' = G) := by
  refine k_starti (cc := cX4_has) (ret := (some .boolean)) (maxL := 2) (lv0 := [(0, .ref (ad t)), (1, .int row)]) (by decide) rfl (Nat.le_of_ble_eq_true rfl) rfl ?_
  intro p e s m args below meth c A Q C hQ
  refine k_iload_n C dX4_has_0 rfl (j := 1) rfl ?_
  refine k_if_lt C 16 dX4_has_1 (by decide) (fun c_1 => ?_) (fun c_1 => ?_)
  · skip
    refine k_iconst C (v := 0) dX4_has_16 (by decide) ?_
    exact k_iret C hQ rfl (by decide) dX4_has_17 ⟨by simp [tHas, bI, c_1], rfl⟩
  · skip
    refine k_iload_n C dX4_has_4 rfl (j := 1) rfl ?_
    refine k_aload_n C dX4_has_5 rfl (j := 0) rfl ?_
    refine k_get C t inX4_has_4 hNt ht rfl 2 (by decide) (List.mem_of_getElem? (i := 1) rfl) rfl rfl dX4_has_6 ?_
    refine k_icmp_ge C 16 dX4_has_9 (by decide) (fun c_9 => ?_) (fun c_9 => ?_)
    · skip
      refine k_iconst C (v := 0) dX4_has_16 (by decide) ?_
      exact k_iret C hQ rfl (by decide) dX4_has_17 ⟨by simp [tHas, bI, c_1, c_9], rfl⟩
    · skip
      refine k_iconst C (v := 1) dX4_has_12 (by decide) ?_
      refine k_goto C 17 dX4_has_13 (by decide) ?_
      exact k_iret C hQ rfl (by decide) dX4_has_17 ⟨by simp [tHas, bI, c_1, c_9], rfl⟩
theorem inX4_isFull_4 : ∀ w ∈ wsX40, w ∈ wsX4_isFull := fun _ h => List.mem_cons_of_mem _ (List.mem_append_right _ h)
theorem kd_X4_isFull : yX4_isFull.cls = RX4 ∧ yX4_isFull.cls ≠ "java/lang/invoke/MethodHandle" ∧ yX4_isFull.cls ≠ "java/lang/invoke/VarHandle" ∧ (parseMethodDescriptor yX4_isFull.desc).map (fun d => d.parameters.length) = some 0 := by decide +kernel
abbrev rX4_isFull : Room := ({ frames := 0, cells := 0, slots := 0, locals := 0 } : Room)
set_option maxRecDepth 100000 in
set_option maxHeartbeats 4000000 in
/-- isFull() -/
theorem m_X4_isFull (l : Launch) (D : va_G) (cI cC cZ cB cJ : ClassId) (ad : Nat → Nat) (N : Nat) (G : Nat → va_E) (t tc : Nat) (cols n : Int32) (len : Nat) (f : Nat → Int32) (hNt : t < N) (hNc : tc < N) (ht : G t = .inr (4, [.int cols, .ref (ad tc), .int n])) (htc : G tc = .inl (cI, len, .inl f)) (hlen : len < 2 ^ 31) : kMi l yX4_isFull wsX4_isFull rX4_isFull D (kT5 cI cC cZ cB cJ) ad N G [.ref (ad t)] (fun r G' => r = bI (tFull len cols n) ∧ G' = G) := by
  refine k_starti (cc := cX4_isFull) (ret := (some .boolean)) (maxL := 1) (lv0 := [(0, .ref (ad t))]) (by decide) rfl (Nat.le_of_ble_eq_true rfl) rfl ?_
  intro p e s m args below meth c A Q C hQ
  refine k_aload_n C dX4_isFull_0 rfl (j := 0) rfl ?_
  refine k_get C t inX4_isFull_4 hNt ht rfl 2 (by decide) (List.mem_of_getElem? (i := 1) rfl) rfl rfl dX4_isFull_1 ?_
  refine k_iconst C (v := 1) dX4_isFull_4 (by decide) ?_
  refine k_iadd C dX4_isFull_5 ?_
  refine k_aload_n C dX4_isFull_6 rfl (j := 0) rfl ?_
  refine k_get C t inX4_isFull_4 hNt ht rfl 0 (by decide) (List.mem_of_getElem? (i := 2) rfl) rfl rfl dX4_isFull_7 ?_
  refine k_imul C dX4_isFull_10 ?_
  refine k_aload_n C dX4_isFull_11 rfl (j := 0) rfl ?_
  refine k_get C t inX4_isFull_4 hNt ht rfl 1 (by decide) (List.mem_of_getElem? (i := 3) rfl) rfl rfl dX4_isFull_12 ?_
  refine k_alen C tc 0 hNc htc rfl dX4_isFull_15 ?_
  refine k_icmp_le C 23 dX4_isFull_16 (by decide) (fun c_16 => ?_) (fun c_16 => ?_)
  · skip
    refine k_iconst C (v := 0) dX4_isFull_23 (by decide) ?_
    exact k_iret C hQ rfl (by decide) dX4_isFull_24 ⟨by simp [tFull, bI, c_16], rfl⟩
  · skip
    refine k_iconst C (v := 1) dX4_isFull_19 (by decide) ?_
    refine k_goto C 24 dX4_isFull_20 (by decide) ?_
    exact k_iret C hQ rfl (by decide) dX4_isFull_24 ⟨by simp [tFull, bI, c_16], rfl⟩
theorem inX4_cell_4 : ∀ w ∈ wsX40, w ∈ wsX4_cell := fun _ h => List.mem_cons_of_mem _ (List.mem_append_right _ h)
theorem kd_X4_cell : yX4_cell.cls = RX4 ∧ yX4_cell.cls ≠ "java/lang/invoke/MethodHandle" ∧ yX4_cell.cls ≠ "java/lang/invoke/VarHandle" ∧ (parseMethodDescriptor yX4_cell.desc).map (fun d => d.parameters.length) = some 2 := by decide +kernel
abbrev rX4_cell : Room := ({ frames := 0, cells := 0, slots := 0, locals := 0 } : Room)
set_option maxRecDepth 100000 in
set_option maxHeartbeats 4000000 in
/-- cell(row, col) -/
theorem m_X4_cell (l : Launch) (D : va_G) (cI cC cZ cB cJ : ClassId) (ad : Nat → Nat) (N : Nat) (G : Nat → va_E) (t tc : Nat) (cols n : Int32) (len : Nat) (f : Nat → Int32) (row col : Int32) (hNt : t < N) (hNc : tc < N) (ht : G t = .inr (4, [.int cols, .ref (ad tc), .int n])) (htc : G tc = .inl (cI, len, .inl f)) (hlen : len < 2 ^ 31) : kMi l yX4_cell wsX4_cell rX4_cell D (kT5 cI cC cZ cB cJ) ad N G [.ref (ad t), .int row, .int col] (fun r G' => r = tC f len cols n row col ∧ G' = G) := by
  refine k_starti (cc := cX4_cell) (ret := (some .int)) (maxL := 5) (lv0 := [(0, .ref (ad t)), (1, .int row), (2, .int col)]) (by decide) rfl (Nat.le_of_ble_eq_true rfl) rfl ?_
  intro p e s m args below meth c A Q C hQ
  refine k_iload_n C dX4_cell_0 rfl (j := 1) rfl ?_
  refine k_aload_n C dX4_cell_1 rfl (j := 0) rfl ?_
  refine k_get C t inX4_cell_4 hNt ht rfl 0 (by decide) (List.mem_of_getElem? (i := 1) rfl) rfl rfl dX4_cell_2 ?_
  refine k_imul C dX4_cell_5 ?_
  refine k_iload_n C dX4_cell_6 rfl (j := 2) rfl ?_
  refine k_iadd C dX4_cell_7 ?_
  refine k_istore_n C (lv' := [(3, .int ((row * cols) + col)), (0, .ref (ad t)), (1, .int row), (2, .int col)]) dX4_cell_8 rfl (by decide) rfl ?_
  refine k_iload_n C dX4_cell_9 rfl (j := 2) rfl ?_
  refine k_if_lt C 37 dX4_cell_10 (by decide) (fun c_10 => ?_) (fun c_10 => ?_)
  · skip
    refine k_iconst C (v := 0) dX4_cell_37 (by decide) ?_
    refine k_istore C (lv' := [(4, .int 0), (3, .int ((row * cols) + col)), (0, .ref (ad t)), (1, .int row), (2, .int col)]) dX4_cell_38 (by decide) rfl ?_
    refine k_iload C dX4_cell_40 (j := 0) rfl ?_
    refine k_if_eq C 67 dX4_cell_42 (by decide) (fun _ => ?_) (fun q => absurd q (by decide))
    refine k_iconst C (v := 0) dX4_cell_67 (by decide) ?_
    exact k_iret C hQ rfl rfl dX4_cell_68 ⟨by simp [tC, tIn, c_10], rfl⟩
  · skip
    refine k_iload_n C dX4_cell_13 rfl (j := 2) rfl ?_
    refine k_aload_n C dX4_cell_14 rfl (j := 1) rfl ?_
    refine k_get C t inX4_cell_4 hNt ht rfl 2 (by decide) (List.mem_of_getElem? (i := 2) rfl) rfl rfl dX4_cell_15 ?_
    refine k_icmp_ge C 37 dX4_cell_18 (by decide) (fun c_18 => ?_) (fun c_18 => ?_)
    · skip
      refine k_iconst C (v := 0) dX4_cell_37 (by decide) ?_
      refine k_istore C (lv' := [(4, .int 0), (3, .int ((row * cols) + col)), (0, .ref (ad t)), (1, .int row), (2, .int col)]) dX4_cell_38 (by decide) rfl ?_
      refine k_iload C dX4_cell_40 (j := 0) rfl ?_
      refine k_if_eq C 67 dX4_cell_42 (by decide) (fun _ => ?_) (fun q => absurd q (by decide))
      refine k_iconst C (v := 0) dX4_cell_67 (by decide) ?_
      exact k_iret C hQ rfl rfl dX4_cell_68 ⟨by simp [tC, tIn, c_10, c_18], rfl⟩
    · skip
      refine k_iload_n C dX4_cell_21 rfl (j := 3) rfl ?_
      refine k_if_lt C 37 dX4_cell_22 (by decide) (fun c_22 => ?_) (fun c_22 => ?_)
      · skip
        refine k_iconst C (v := 0) dX4_cell_37 (by decide) ?_
        refine k_istore C (lv' := [(4, .int 0), (3, .int ((row * cols) + col)), (0, .ref (ad t)), (1, .int row), (2, .int col)]) dX4_cell_38 (by decide) rfl ?_
        refine k_iload C dX4_cell_40 (j := 0) rfl ?_
        refine k_if_eq C 67 dX4_cell_42 (by decide) (fun _ => ?_) (fun q => absurd q (by decide))
        refine k_iconst C (v := 0) dX4_cell_67 (by decide) ?_
        exact k_iret C hQ rfl rfl dX4_cell_68 ⟨by simp [tC, tIn, c_10, c_18, c_22], rfl⟩
      · skip
        refine k_iload_n C dX4_cell_25 rfl (j := 3) rfl ?_
        refine k_aload_n C dX4_cell_26 rfl (j := 1) rfl ?_
        refine k_get C t inX4_cell_4 hNt ht rfl 0 (by decide) (List.mem_of_getElem? (i := 1) rfl) rfl rfl dX4_cell_27 ?_
        refine k_icmp_ge C 37 dX4_cell_30 (by decide) (fun c_30 => ?_) (fun c_30 => ?_)
        · skip
          refine k_iconst C (v := 0) dX4_cell_37 (by decide) ?_
          refine k_istore C (lv' := [(4, .int 0), (3, .int ((row * cols) + col)), (0, .ref (ad t)), (1, .int row), (2, .int col)]) dX4_cell_38 (by decide) rfl ?_
          refine k_iload C dX4_cell_40 (j := 0) rfl ?_
          refine k_if_eq C 67 dX4_cell_42 (by decide) (fun _ => ?_) (fun q => absurd q (by decide))
          refine k_iconst C (v := 0) dX4_cell_67 (by decide) ?_
          exact k_iret C hQ rfl rfl dX4_cell_68 ⟨by simp [tC, tIn, c_10, c_18, c_22, c_30], rfl⟩
        · skip
          refine k_iconst C (v := 1) dX4_cell_33 (by decide) ?_
          refine k_goto C 38 dX4_cell_34 (by decide) ?_
          refine k_istore C (lv' := [(4, .int 1), (3, .int ((row * cols) + col)), (0, .ref (ad t)), (1, .int row), (2, .int col)]) dX4_cell_38 (by decide) rfl ?_
          refine k_iload C dX4_cell_40 (j := 0) rfl ?_
          refine k_if_eq C 67 dX4_cell_42 (by decide) (fun q => absurd q (by decide)) (fun _ => ?_)
          refine k_iload_n C dX4_cell_45 rfl (j := 1) rfl ?_
          refine k_if_lt C 67 dX4_cell_46 (by decide) (fun c_46 => ?_) (fun c_46 => ?_)
          · skip
            refine k_iconst C (v := 0) dX4_cell_67 (by decide) ?_
            exact k_iret C hQ rfl rfl dX4_cell_68 ⟨by simp [tC, tIn, c_10, c_18, c_22, c_30, c_46], rfl⟩
          · skip
            refine k_iload_n C dX4_cell_49 rfl (j := 1) rfl ?_
            refine k_aload_n C dX4_cell_50 rfl (j := 2) rfl ?_
            refine k_get C t inX4_cell_4 hNt ht rfl 1 (by decide) (List.mem_of_getElem? (i := 3) rfl) rfl rfl dX4_cell_51 ?_
            refine k_alen C tc 0 hNc htc rfl dX4_cell_54 ?_
            refine k_icmp_ge C 67 dX4_cell_55 (by decide) (fun c_55 => ?_) (fun c_55 => ?_)
            · skip
              refine k_iconst C (v := 0) dX4_cell_67 (by decide) ?_
              exact k_iret C hQ rfl rfl dX4_cell_68 ⟨by simp [tC, tIn, c_10, c_18, c_22, c_30, c_46, c_55], rfl⟩
            · skip
              refine k_aload_n C dX4_cell_58 rfl (j := 2) rfl ?_
              refine k_get C t inX4_cell_4 hNt ht rfl 1 (by decide) (List.mem_of_getElem? (i := 3) rfl) rfl rfl dX4_cell_59 ?_
              refine k_iload_n C dX4_cell_62 rfl (j := 1) rfl ?_
              refine k_iald C tc 0 hNc htc rfl (k_in c_46 c_55 hlen) dX4_cell_63 ?_
              refine k_goto C 68 dX4_cell_64 (by decide) ?_
              exact k_iret C hQ rfl rfl dX4_cell_68 ⟨by simp [tC, tIn, c_10, c_18, c_22, c_30, c_46, c_55], rfl⟩
theorem inX4_put_4 : ∀ w ∈ wsX40, w ∈ wsX4_put := fun _ h => List.mem_cons_of_mem _ (List.mem_append_right _ h)
theorem kd_X4_put : yX4_put.cls = RX4 ∧ yX4_put.cls ≠ "java/lang/invoke/MethodHandle" ∧ yX4_put.cls ≠ "java/lang/invoke/VarHandle" ∧ (parseMethodDescriptor yX4_put.desc).map (fun d => d.parameters.length) = some 3 := by decide +kernel
abbrev rX4_put : Room := ({ frames := 0, cells := 0, slots := 0, locals := 0 } : Room)
set_option maxRecDepth 100000 in
set_option maxHeartbeats 4000000 in
/-- put(row, col, x) -/
theorem m_X4_put (l : Launch) (D : va_G) (cI cC cZ cB cJ : ClassId) (ad : Nat → Nat) (N : Nat) (G : Nat → va_E) (t tc : Nat) (cols n : Int32) (len : Nat) (f : Nat → Int32) (row col x : Int32) (hNt : t < N) (hNc : tc < N) (ht : G t = .inr (4, [.int cols, .ref (ad tc), .int n])) (htc : G tc = .inl (cI, len, .inl f)) (hlen : len < 2 ^ 31) : kMv l yX4_put wsX4_put rX4_put D (kT5 cI cC cZ cB cJ) ad N G [.ref (ad t), .int row, .int col, .int x] (fun G' => G' tc = .inl (cI, len, .inl (tP f len cols n row col x)) ∧ ∀ j, j ≠ tc → G' j = G j) := by
  refine k_startv (cc := cX4_put) (ret := none) (maxL := 6) (lv0 := [(0, .ref (ad t)), (1, .int row), (2, .int col), (3, .int x)]) (by decide) rfl (Nat.le_of_ble_eq_true rfl) rfl ?_
  intro p e s m args below meth c A Q C hQ
  have hne : t ≠ tc := by rintro rfl; rw [ht] at htc; cases htc
  refine k_iload_n C dX4_put_0 rfl (j := 1) rfl ?_
  refine k_aload_n C dX4_put_1 rfl (j := 0) rfl ?_
  refine k_get C t inX4_put_4 hNt ht rfl 0 (by decide) (List.mem_of_getElem? (i := 1) rfl) rfl rfl dX4_put_2 ?_
  refine k_imul C dX4_put_5 ?_
  refine k_iload_n C dX4_put_6 rfl (j := 2) rfl ?_
  refine k_iadd C dX4_put_7 ?_
  refine k_istore C (lv' := [(4, .int ((row * cols) + col)), (0, .ref (ad t)), (1, .int row), (2, .int col), (3, .int x)]) dX4_put_8 (by decide) rfl ?_
  refine k_iload_n C dX4_put_10 rfl (j := 2) rfl ?_
  refine k_if_lt C 38 dX4_put_11 (by decide) (fun c_11 => ?_) (fun c_11 => ?_)
  · skip
    refine k_iconst C (v := 0) dX4_put_38 (by decide) ?_
    refine k_istore C (lv' := [(5, .int 0), (4, .int ((row * cols) + col)), (0, .ref (ad t)), (1, .int row), (2, .int col), (3, .int x)]) dX4_put_39 (by decide) rfl ?_
    refine k_iload C dX4_put_41 (j := 0) rfl ?_
    refine k_if_eq C 69 dX4_put_43 (by decide) (fun _ => ?_) (fun q => absurd q (by decide))
    exact k_vret C hQ rfl dX4_put_69 ⟨by rw [htc]; simp [tP, tIn, c_11], fun j _ => rfl⟩
  · skip
    refine k_iload_n C dX4_put_14 rfl (j := 2) rfl ?_
    refine k_aload_n C dX4_put_15 rfl (j := 1) rfl ?_
    refine k_get C t inX4_put_4 hNt ht rfl 2 (by decide) (List.mem_of_getElem? (i := 2) rfl) rfl rfl dX4_put_16 ?_
    refine k_icmp_ge C 38 dX4_put_19 (by decide) (fun c_19 => ?_) (fun c_19 => ?_)
    · skip
      refine k_iconst C (v := 0) dX4_put_38 (by decide) ?_
      refine k_istore C (lv' := [(5, .int 0), (4, .int ((row * cols) + col)), (0, .ref (ad t)), (1, .int row), (2, .int col), (3, .int x)]) dX4_put_39 (by decide) rfl ?_
      refine k_iload C dX4_put_41 (j := 0) rfl ?_
      refine k_if_eq C 69 dX4_put_43 (by decide) (fun _ => ?_) (fun q => absurd q (by decide))
      exact k_vret C hQ rfl dX4_put_69 ⟨by rw [htc]; simp [tP, tIn, c_11, c_19], fun j _ => rfl⟩
    · skip
      refine k_iload_n C dX4_put_22 rfl (j := 3) rfl ?_
      refine k_if_lt C 38 dX4_put_23 (by decide) (fun c_23 => ?_) (fun c_23 => ?_)
      · skip
        refine k_iconst C (v := 0) dX4_put_38 (by decide) ?_
        refine k_istore C (lv' := [(5, .int 0), (4, .int ((row * cols) + col)), (0, .ref (ad t)), (1, .int row), (2, .int col), (3, .int x)]) dX4_put_39 (by decide) rfl ?_
        refine k_iload C dX4_put_41 (j := 0) rfl ?_
        refine k_if_eq C 69 dX4_put_43 (by decide) (fun _ => ?_) (fun q => absurd q (by decide))
        exact k_vret C hQ rfl dX4_put_69 ⟨by rw [htc]; simp [tP, tIn, c_11, c_19, c_23], fun j _ => rfl⟩
      · skip
        refine k_iload_n C dX4_put_26 rfl (j := 3) rfl ?_
        refine k_aload_n C dX4_put_27 rfl (j := 1) rfl ?_
        refine k_get C t inX4_put_4 hNt ht rfl 0 (by decide) (List.mem_of_getElem? (i := 1) rfl) rfl rfl dX4_put_28 ?_
        refine k_icmp_ge C 38 dX4_put_31 (by decide) (fun c_31 => ?_) (fun c_31 => ?_)
        · skip
          refine k_iconst C (v := 0) dX4_put_38 (by decide) ?_
          refine k_istore C (lv' := [(5, .int 0), (4, .int ((row * cols) + col)), (0, .ref (ad t)), (1, .int row), (2, .int col), (3, .int x)]) dX4_put_39 (by decide) rfl ?_
          refine k_iload C dX4_put_41 (j := 0) rfl ?_
          refine k_if_eq C 69 dX4_put_43 (by decide) (fun _ => ?_) (fun q => absurd q (by decide))
          exact k_vret C hQ rfl dX4_put_69 ⟨by rw [htc]; simp [tP, tIn, c_11, c_19, c_23, c_31], fun j _ => rfl⟩
        · skip
          refine k_iconst C (v := 1) dX4_put_34 (by decide) ?_
          refine k_goto C 39 dX4_put_35 (by decide) ?_
          refine k_istore C (lv' := [(5, .int 1), (4, .int ((row * cols) + col)), (0, .ref (ad t)), (1, .int row), (2, .int col), (3, .int x)]) dX4_put_39 (by decide) rfl ?_
          refine k_iload C dX4_put_41 (j := 0) rfl ?_
          refine k_if_eq C 69 dX4_put_43 (by decide) (fun q => absurd q (by decide)) (fun _ => ?_)
          refine k_iload C dX4_put_46 (j := 1) rfl ?_
          refine k_if_lt C 69 dX4_put_48 (by decide) (fun c_48 => ?_) (fun c_48 => ?_)
          · skip
            exact k_vret C hQ rfl dX4_put_69 ⟨by rw [htc]; simp [tP, tIn, c_11, c_19, c_23, c_31, c_48], fun j _ => rfl⟩
          · skip
            refine k_iload C dX4_put_51 (j := 1) rfl ?_
            refine k_aload_n C dX4_put_53 rfl (j := 2) rfl ?_
            refine k_get C t inX4_put_4 hNt ht rfl 1 (by decide) (List.mem_of_getElem? (i := 3) rfl) rfl rfl dX4_put_54 ?_
            refine k_alen C tc 0 hNc htc rfl dX4_put_57 ?_
            refine k_icmp_ge C 69 dX4_put_58 (by decide) (fun c_58 => ?_) (fun c_58 => ?_)
            · skip
              exact k_vret C hQ rfl dX4_put_69 ⟨by rw [htc]; simp [tP, tIn, c_11, c_19, c_23, c_31, c_48, c_58], fun j _ => rfl⟩
            · skip
              refine k_aload_n C dX4_put_61 rfl (j := 2) rfl ?_
              refine k_get C t inX4_put_4 hNt ht rfl 1 (by decide) (List.mem_of_getElem? (i := 3) rfl) rfl rfl dX4_put_62 ?_
              refine k_iload C dX4_put_65 (j := 1) rfl ?_
              refine k_iload_n C dX4_put_67 rfl (j := 5) rfl ?_
              refine k_iast C tc 0 hNc htc rfl (k_in c_48 c_58 hlen) dX4_put_68 (fun G1 hG1 => ?_)
              have h_t_G1 : G1 t = .inr (4, [.int cols, .ref (ad tc), .int n]) := up_at hG1 ht (by omega)
              have h_tc_G1 : G1 tc = .inl (cI, len, .inl (upd f ((row * cols) + col).toNatClampNeg x)) := up_it hG1
              exact k_vret C hQ rfl dX4_put_69 ⟨by rw [h_tc_G1]; simp [tP, tIn, c_11, c_19, c_23, c_31, c_48, c_58], fun j hj => by rw [hG1, up_ne hj]⟩
theorem inX4_raise_4 : ∀ w ∈ wsX40, w ∈ wsX4_raise := fun _ h => List.mem_cons_of_mem _ (List.mem_append_right _ h)
theorem kd_X4_raise : yX4_raise.cls = RX4 ∧ yX4_raise.cls ≠ "java/lang/invoke/MethodHandle" ∧ yX4_raise.cls ≠ "java/lang/invoke/VarHandle" ∧ (parseMethodDescriptor yX4_raise.desc).map (fun d => d.parameters.length) = some 3 := by decide +kernel
abbrev rX4_raise : Room := ({ frames := 1, cells := 0, slots := 0, locals := 25 } : Room)
set_option maxRecDepth 100000 in
set_option maxHeartbeats 4000000 in
/-- raise(row, col, x) -/
theorem m_X4_raise (l : Launch) (D : va_G) (cI cC cZ cB cJ : ClassId) (ad : Nat → Nat) (N : Nat) (G : Nat → va_E) (t tc : Nat) (cols n : Int32) (len : Nat) (f : Nat → Int32) (row col x : Int32) (hNt : t < N) (hNc : tc < N) (ht : G t = .inr (4, [.int cols, .ref (ad tc), .int n])) (htc : G tc = .inl (cI, len, .inl f)) (hlen : len < 2 ^ 31) : kMv l yX4_raise wsX4_raise rX4_raise D (kT5 cI cC cZ cB cJ) ad N G [.ref (ad t), .int row, .int col, .int x] (fun G' => G' tc = .inl (cI, len, .inl (tP f len cols n row col (tC f len cols n row col + x))) ∧ ∀ j, j ≠ tc → G' j = G j) := by
  refine k_startv (cc := cX4_raise) (ret := none) (maxL := 4) (lv0 := [(0, .ref (ad t)), (1, .int row), (2, .int col), (3, .int x)]) (by decide) rfl (Nat.le_of_ble_eq_true rfl) rfl ?_
  intro p e s m args below meth c A Q C hQ
  have hne : t ≠ tc := by rintro rfl; rw [ht] at htc; cases htc
  refine k_aload_n C dX4_raise_0 rfl (j := 0) rfl ?_
  refine k_iload_n C dX4_raise_1 rfl (j := 1) rfl ?_
  refine k_iload_n C dX4_raise_2 rfl (j := 2) rfl ?_
  refine k_aload_n C dX4_raise_3 rfl (j := 0) rfl ?_
  refine k_iload_n C dX4_raise_4 rfl (j := 1) rfl ?_
  refine k_iload_n C dX4_raise_5 rfl (j := 2) rfl ?_
  refine k_callVir C (As := [.int row, .int col]) (rest := [.int col, .int row, .ref (ad t)]) t (m_X4_cell l D cI cC cZ cB cJ ad N G t tc cols n len f row col hNt hNc ht htc hlen) gX4_raise_X4_cell rfl kd_X4_cell rfl rfl ⟨Nat.le_of_ble_eq_true rfl, Nat.le_of_ble_eq_true rfl⟩ hNt ht rfl rfl rfl (Nat.le_of_ble_eq_true rfl) ⟨Nat.zero_le _, Nat.zero_le _⟩ dX4_raise_6 ?_
  refine k_iload_n C dX4_raise_9 rfl (j := 3) rfl ?_
  refine k_iadd C dX4_raise_10 ?_
  refine k_callVv C (As := [.int row, .int col, .int ((tC f len cols n row col) + x)]) (rest := []) t (m_X4_put l D cI cC cZ cB cJ ad N G t tc cols n len f row col ((tC f len cols n row col) + x) hNt hNc ht htc hlen) gX4_raise_X4_put rfl kd_X4_put rfl rfl ⟨Nat.le_of_ble_eq_true rfl, Nat.le_of_ble_eq_true rfl⟩ hNt ht rfl rfl rfl (Nat.le_of_ble_eq_true rfl) ⟨Nat.zero_le _, Nat.zero_le _⟩ dX4_raise_11 (fun G1 hG1 => ?_)
  have h_t_G1 : G1 t = .inr (4, [.int cols, .ref (ad tc), .int n]) := (hG1.2 t (by omega)).trans ht
  have h_tc_G1 : G1 tc = .inl (cI, len, .inl (tP f len cols n row col ((tC f len cols n row col) + x))) := hG1.1
  exact k_vret C hQ rfl dX4_raise_14 hG1
theorem inX4_addRow_4 : ∀ w ∈ wsX40, w ∈ wsX4_addRow := fun _ h => List.mem_cons_of_mem _ (List.mem_append_right _ h)
theorem kd_X4_addRow : yX4_addRow.cls = RX4 ∧ yX4_addRow.cls ≠ "java/lang/invoke/MethodHandle" ∧ yX4_addRow.cls ≠ "java/lang/invoke/VarHandle" ∧ (parseMethodDescriptor yX4_addRow.desc).map (fun d => d.parameters.length) = some 0 := by decide +kernel
abbrev rX4_addRow : Room := ({ frames := 1, cells := 0, slots := 0, locals := 25 } : Room)
set_option maxRecDepth 100000 in
set_option maxHeartbeats 4000000 in
/-- addRow() -/
theorem m_X4_addRow (l : Launch) (D : va_G) (cI cC cZ cB cJ : ClassId) (ad : Nat → Nat) (N : Nat) (G : Nat → va_E) (t tc cn nn len : Nat) (f : Nat → Int32) (hNt : t < N) (hNc : tc < N) (ht : G t = .inr (4, [.int (nI cn), .ref (ad tc), .int (nI nn)])) (htc : G tc = .inl (cI, len, .inl f)) (hlen : len < 2 ^ 31) (hnn : nn < 2 ^ 30) (hcn : cn < 2 ^ 30) : kMi l yX4_addRow wsX4_addRow rX4_addRow D (kT5 cI cC cZ cB cJ) ad N G [.ref (ad t)] (fun r G' => r = nI nn ∧ G' t = .inr (4, [.int (nI cn), .ref (ad tc), .int (nI (nn + 1))]) ∧ G' tc = .inl (cI, len, .inl (tZ f len (nI cn) (nI (nn + 1)) (nI nn) cn)) ∧ ∀ j, j ≠ t → j ≠ tc → G' j = G j) := by
  refine k_starti (cc := cX4_addRow) (ret := (some .int)) (maxL := 3) (lv0 := [(0, .ref (ad t))]) (by decide) rfl (Nat.le_of_ble_eq_true rfl) rfl ?_
  intro p e s m args below meth c A Q C hQ
  have hne : t ≠ tc := by rintro rfl; rw [ht] at htc; cases htc
  refine k_aload_n C dX4_addRow_0 rfl (j := 0) rfl ?_
  refine k_get C t inX4_addRow_4 hNt ht rfl 2 (by decide) (List.mem_of_getElem? (i := 1) rfl) rfl rfl dX4_addRow_1 ?_
  refine k_istore_n C (lv' := [(1, .int (nI nn)), (0, .ref (ad t))]) dX4_addRow_4 rfl (by decide) rfl ?_
  refine k_aload_n C dX4_addRow_5 rfl (j := 1) rfl ?_
  refine k_aload_n C dX4_addRow_6 rfl (j := 1) rfl ?_
  refine k_get C t inX4_addRow_4 hNt ht rfl 2 (by decide) (List.mem_of_getElem? (i := 1) rfl) rfl rfl dX4_addRow_7 ?_
  refine k_iconst C (v := 1) dX4_addRow_10 (by decide) ?_
  refine k_iadd C dX4_addRow_11 ?_
  refine k_put C t inX4_addRow_4 tyX4 tyX4_ok nmX4 hNt ht rfl 2 (by decide) (List.mem_of_getElem? (i := 1) rfl) rfl rfl rfl rfl (Nat.le_of_ble_eq_true rfl) dX4_addRow_12 (fun G1 hG1 => ?_)
  have h_tc_G1 : G1 tc = .inl (cI, len, .inl f) := up_at hG1 htc (by omega)
  have h_t_G1 : G1 t = .inr (4, [.int (nI cn), .ref (ad tc), .int (nI (nn + 1))]) := by rw [up_it hG1]; rw [nI_1]; rfl
  refine k_iconst C (v := 0) dX4_addRow_15 (by decide) ?_
  refine k_istore_n C (lv' := [(2, .int 0), (1, .int (nI nn)), (0, .ref (ad t))]) dX4_addRow_16 rfl (by decide) rfl ?_
  have loop17 : ∀ (k : Nat) (i : Nat) (G2 : Nat → va_E) , (cn + 1 ≤ i + k) → (i ≤ cn) → (G2 t = .inr (4, [.int (nI cn), .ref (ad tc), .int (nI (nn + 1))])) → (G2 tc = .inl (cI, len, .inl (tZ f len (nI cn) (nI (nn + 1)) (nI nn) i))) → (∀ j, j ≠ t → j ≠ tc → G2 j = G j) → kJ p l e rX4_addRow s m args below meth c 0 0 Q 3 D ad N A G2 17 [(0, .ref (ad t)), (1, .int (nI nn)), (2, .int (nI i))] [] := by
    intro k
    induction k with
    | zero => intro i G2 h1 h2 ht2 htc2 hfr2; exact absurd h1 (by omega)
    | succ k ih17 =>
      intro i G2 h1 h2 ht2 htc2 hfr2
      refine k_iload_n C dX4_addRow_17 rfl (j := 2) rfl ?_
      refine k_aload_n C dX4_addRow_18 rfl (j := 0) rfl ?_
      refine k_get C t inX4_addRow_4 hNt ht2 rfl 0 (by decide) (List.mem_of_getElem? (i := 2) rfl) rfl rfl dX4_addRow_19 ?_
      refine k_icmp_ge C 38 dX4_addRow_22 (by decide) (fun c_22 => ?_) (fun c_22 => ?_)
      · skip
        have hi : i = cn := k_ge c_22 (by omega) h2
        subst hi
        refine k_iload_n C dX4_addRow_38 rfl (j := 1) rfl ?_
        exact k_iret C hQ rfl rfl dX4_addRow_39 ⟨rfl, ht2, htc2, hfr2⟩
      · skip
        have hi : i < cn := k_lt c_22 (by omega) h2
        refine k_aload_n C dX4_addRow_25 rfl (j := 0) rfl ?_
        refine k_iload_n C dX4_addRow_26 rfl (j := 1) rfl ?_
        refine k_iload_n C dX4_addRow_27 rfl (j := 2) rfl ?_
        refine k_iconst C (v := 0) dX4_addRow_28 (by decide) ?_
        refine k_callVv C (As := [.int (nI nn), .int (nI i), .int 0]) (rest := []) t (m_X4_put l D cI cC cZ cB cJ ad N G2 t tc (nI cn) (nI (nn + 1)) len (tZ f len (nI cn) (nI (nn + 1)) (nI nn) i) (nI nn) (nI i) 0 hNt hNc ht2 htc2 hlen) gX4_addRow_X4_put rfl kd_X4_put rfl rfl ⟨Nat.le_of_ble_eq_true rfl, Nat.le_of_ble_eq_true rfl⟩ hNt ht2 rfl rfl rfl (Nat.le_of_ble_eq_true rfl) ⟨Nat.zero_le _, Nat.zero_le _⟩ dX4_addRow_29 (fun G2 hG2 => ?_)
        have h_t_G2 : G2 t = .inr (4, [.int (nI cn), .ref (ad tc), .int (nI (nn + 1))]) := (hG2.2 t (by omega)).trans ht2
        have h_tc_G2 : G2 tc = .inl (cI, len, .inl (tP (tZ f len (nI cn) (nI (nn + 1)) (nI nn) i) len (nI cn) (nI (nn + 1)) (nI nn) (nI i) 0)) := hG2.1
        refine k_iinc C (v := nI (i + 1)) (lv' := [(2, .int (nI (i + 1))), (0, .ref (ad t)), (1, .int (nI nn))]) dX4_addRow_32 (j := 2) rfl (nI_1 i) (by decide) rfl ?_
        refine k_goto C 17 dX4_addRow_35 (by decide) ?_
        exact k_sub [1, 2, 0] rfl (ih17 (i + 1) G2 (by omega) (by omega) h_t_G2 h_tc_G2 (fun j h8 h9 => by rw [hG2.2 j h9, hfr2 j h8 h9]))
  exact k_sub [2, 1, 0] rfl (loop17 (cn + 1) 0 G1 (by omega) (Nat.zero_le _) h_t_G1 h_tc_G1 (fun j h8 h9 => by rw [hG1, up_ne h8]))
theorem inX4_sum_4 : ∀ w ∈ wsX40, w ∈ wsX4_sum := fun _ h => List.mem_cons_of_mem _ (List.mem_append_right _ h)
theorem kd_X4_sum : yX4_sum.cls = RX4 ∧ yX4_sum.cls ≠ "java/lang/invoke/MethodHandle" ∧ yX4_sum.cls ≠ "java/lang/invoke/VarHandle" ∧ (parseMethodDescriptor yX4_sum.desc).map (fun d => d.parameters.length) = some 1 := by decide +kernel
abbrev rX4_sum : Room := ({ frames := 1, cells := 0, slots := 0, locals := 24 } : Room)
set_option maxRecDepth 100000 in
set_option maxHeartbeats 4000000 in
/-- sum(col) -/
theorem m_X4_sum (l : Launch) (D : va_G) (cI cC cZ cB cJ : ClassId) (ad : Nat → Nat) (N : Nat) (G : Nat → va_E) (t tc : Nat) (cols : Int32) (nn len : Nat) (f : Nat → Int32) (col : Int32) (hNt : t < N) (hNc : tc < N) (ht : G t = .inr (4, [.int cols, .ref (ad tc), .int (nI nn)])) (htc : G tc = .inl (cI, len, .inl f)) (hlen : len < 2 ^ 31) (hnn : nn < 2 ^ 30) : kMi l yX4_sum wsX4_sum rX4_sum D (kT5 cI cC cZ cB cJ) ad N G [.ref (ad t), .int col] (fun r G' => r = tS f len cols (nI nn) col nn ∧ G' = G) := by
  refine k_starti (cc := cX4_sum) (ret := (some .int)) (maxL := 4) (lv0 := [(0, .ref (ad t)), (1, .int col)]) (by decide) rfl (Nat.le_of_ble_eq_true rfl) rfl ?_
  intro p e s m args below meth c A Q C hQ
  refine k_iconst C (v := 0) dX4_sum_0 (by decide) ?_
  refine k_istore_n C (lv' := [(2, .int 0), (0, .ref (ad t)), (1, .int col)]) dX4_sum_1 rfl (by decide) rfl ?_
  refine k_iconst C (v := 0) dX4_sum_2 (by decide) ?_
  refine k_istore_n C (lv' := [(3, .int 0), (2, .int 0), (0, .ref (ad t)), (1, .int col)]) dX4_sum_3 rfl (by decide) rfl ?_
  have loop4 : ∀ (k : Nat) (i : Nat) , (nn + 1 ≤ i + k) → (i ≤ nn) → kJ p l e rX4_sum s m args below meth c 0 0 Q 4 D ad N A G 4 [(0, .ref (ad t)), (1, .int col), (2, .int (tS f len cols (nI nn) col i)), (3, .int (nI i))] [] := by
    intro k
    induction k with
    | zero => intro i  h1 h2; exact absurd h1 (by omega)
    | succ k ih4 =>
      intro i  h1 h2
      refine k_iload_n C dX4_sum_4 rfl (j := 3) rfl ?_
      refine k_aload_n C dX4_sum_5 rfl (j := 0) rfl ?_
      refine k_get C t inX4_sum_4 hNt ht rfl 2 (by decide) (List.mem_of_getElem? (i := 1) rfl) rfl rfl dX4_sum_6 ?_
      refine k_icmp_ge C 27 dX4_sum_9 (by decide) (fun c_9 => ?_) (fun c_9 => ?_)
      · skip
        have hi : i = nn := k_ge c_9 (by omega) h2
        subst hi
        refine k_iload_n C dX4_sum_27 rfl (j := 2) rfl ?_
        exact k_iret C hQ rfl rfl dX4_sum_28 ⟨rfl, rfl⟩
      · skip
        have hi : i < nn := k_lt c_9 (by omega) h2
        refine k_iload_n C dX4_sum_12 rfl (j := 2) rfl ?_
        refine k_aload_n C dX4_sum_13 rfl (j := 0) rfl ?_
        refine k_iload_n C dX4_sum_14 rfl (j := 3) rfl ?_
        refine k_iload_n C dX4_sum_15 rfl (j := 1) rfl ?_
        refine k_callVir C (As := [.int (nI i), .int col]) (rest := [.int (tS f len cols (nI nn) col i)]) t (m_X4_cell l D cI cC cZ cB cJ ad N G t tc cols (nI nn) len f (nI i) col hNt hNc ht htc hlen) gX4_sum_X4_cell rfl kd_X4_cell rfl rfl ⟨Nat.le_of_ble_eq_true rfl, Nat.le_of_ble_eq_true rfl⟩ hNt ht rfl rfl rfl (Nat.le_of_ble_eq_true rfl) ⟨Nat.zero_le _, Nat.zero_le _⟩ dX4_sum_16 ?_
        refine k_iadd C dX4_sum_19 ?_
        refine k_istore_n C (lv' := [(2, .int ((tS f len cols (nI nn) col i) + (tC f len cols (nI nn) (nI i) col))), (0, .ref (ad t)), (1, .int col), (3, .int (nI i))]) dX4_sum_20 rfl (by decide) rfl ?_
        refine k_iinc C (v := nI (i + 1)) (lv' := [(3, .int (nI (i + 1))), (2, .int ((tS f len cols (nI nn) col i) + (tC f len cols (nI nn) (nI i) col))), (0, .ref (ad t)), (1, .int col)]) dX4_sum_21 (j := 3) rfl (nI_1 i) (by decide) rfl ?_
        refine k_goto C 4 dX4_sum_24 (by decide) ?_
        exact k_sub [2, 3, 1, 0] rfl (ih4 (i + 1) (by omega) (by omega))
  exact k_sub [2, 3, 1, 0] rfl (loop4 (nn + 1) 0 (by omega) (Nat.zero_le _))
theorem inX4_copyFrom_4 : ∀ w ∈ wsX40, w ∈ wsX4_copyFrom := fun _ h => List.mem_cons_of_mem _ (List.mem_append_right _ h)
theorem kd_X4_copyFrom : yX4_copyFrom.cls = RX4 ∧ yX4_copyFrom.cls ≠ "java/lang/invoke/MethodHandle" ∧ yX4_copyFrom.cls ≠ "java/lang/invoke/VarHandle" ∧ (parseMethodDescriptor yX4_copyFrom.desc).map (fun d => d.parameters.length) = some 1 := by decide +kernel
abbrev rX4_copyFrom : Room := ({ frames := 1, cells := 0, slots := 0, locals := 60 } : Room)
set_option maxRecDepth 100000 in
set_option maxHeartbeats 4000000 in
/-- copyFrom(other) -/
theorem m_X4_copyFrom (l : Launch) (D : va_G) (cI cC cZ cB cJ : ClassId) (ad : Nat → Nat) (N : Nat) (G : Nat → va_E) (t tc t2 tc2 : Nat) (cols n cols2 n2 : Int32) (len : Nat) (f f2 : Nat → Int32) (hNt : t < N) (hNc : tc < N) (hNt2 : t2 < N) (hNc2 : tc2 < N) (ht : G t = .inr (4, [.int cols, .ref (ad tc), .int n])) (htc : G tc = .inl (cI, len, .inl f)) (ht2 : G t2 = .inr (4, [.int cols2, .ref (ad tc2), .int n2])) (htc2 : G tc2 = .inl (cI, len, .inl f2)) (hne1 : t ≠ t2) (hne2 : tc ≠ tc2) (hlen : len < 2 ^ 31) : kMv l yX4_copyFrom wsX4_copyFrom rX4_copyFrom D (kT5 cI cC cZ cB cJ) ad N G [.ref (ad t), .ref (ad t2)] (fun G' => G' t = .inr (4, [.int cols, .ref (ad tc), .int n2]) ∧ G' tc = .inl (cI, len, .inl (tCp f2 f len)) ∧ ∀ j, j ≠ t → j ≠ tc → G' j = G j) := by
  refine k_startv (cc := cX4_copyFrom) (ret := none) (maxL := 2) (lv0 := [(0, .ref (ad t)), (1, .ref (ad t2))]) (by decide) rfl (Nat.le_of_ble_eq_true rfl) rfl ?_
  intro p e s m args below meth c A Q C hQ
  have hne3 : t ≠ tc := by rintro rfl; rw [ht] at htc; cases htc
  have hne4 : t ≠ tc2 := by rintro rfl; rw [ht] at htc2; cases htc2
  have hne5 : t2 ≠ tc := by rintro rfl; rw [ht2] at htc; cases htc
  refine k_aload_n C dX4_copyFrom_0 rfl (j := 0) rfl ?_
  refine k_aload_n C dX4_copyFrom_1 rfl (j := 1) rfl ?_
  refine k_get C t2 inX4_copyFrom_4 hNt2 ht2 rfl 2 (by decide) (List.mem_of_getElem? (i := 1) rfl) rfl rfl dX4_copyFrom_2 ?_
  refine k_put C t inX4_copyFrom_4 tyX4 tyX4_ok nmX4 hNt ht rfl 2 (by decide) (List.mem_of_getElem? (i := 1) rfl) rfl rfl rfl rfl (Nat.le_of_ble_eq_true rfl) dX4_copyFrom_5 (fun G1 hG1 => ?_)
  have h_tc_G1 : G1 tc = .inl (cI, len, .inl f) := up_at hG1 htc (by omega)
  have h_t2_G1 : G1 t2 = .inr (4, [.int cols2, .ref (ad tc2), .int n2]) := up_at hG1 ht2 (by omega)
  have h_tc2_G1 : G1 tc2 = .inl (cI, len, .inl f2) := up_at hG1 htc2 (by omega)
  have h_t_G1 : G1 t = .inr (4, [.int cols, .ref (ad tc), .int n2]) := up_it hG1
  refine k_aload_n C dX4_copyFrom_8 rfl (j := 1) rfl ?_
  refine k_get C t2 inX4_copyFrom_4 hNt2 h_t2_G1 rfl 1 (by decide) (List.mem_of_getElem? (i := 2) rfl) rfl rfl dX4_copyFrom_9 ?_
  refine k_iconst C (v := 0) dX4_copyFrom_12 (by decide) ?_
  refine k_aload_n C dX4_copyFrom_13 rfl (j := 0) rfl ?_
  refine k_get C t inX4_copyFrom_4 hNt h_t_G1 rfl 1 (by decide) (List.mem_of_getElem? (i := 2) rfl) rfl rfl dX4_copyFrom_14 ?_
  refine k_iconst C (v := 0) dX4_copyFrom_17 (by decide) ?_
  refine k_aload_n C dX4_copyFrom_18 rfl (j := 1) rfl ?_
  refine k_get C t2 inX4_copyFrom_4 hNt2 h_t2_G1 rfl 1 (by decide) (List.mem_of_getElem? (i := 2) rfl) rfl rfl dX4_copyFrom_19 ?_
  refine k_alen C tc2 0 hNc2 h_tc2_G1 rfl dX4_copyFrom_22 ?_
  refine k_aload_n C dX4_copyFrom_23 rfl (j := 0) rfl ?_
  refine k_get C t inX4_copyFrom_4 hNt h_t_G1 rfl 1 (by decide) (List.mem_of_getElem? (i := 2) rfl) rfl rfl dX4_copyFrom_24 ?_
  refine k_alen C tc 0 hNc h_tc_G1 rfl dX4_copyFrom_27 ?_
  refine k_mmin C (List.mem_of_getElem? (i := 3) rfl) (List.mem_of_getElem? (i := 4) rfl) (List.mem_of_getElem? (i := 5) rfl) (List.mem_of_getElem? (i := 6) rfl) (Nat.le_of_ble_eq_true rfl) (Nat.le_of_ble_eq_true rfl) (Nat.le_of_ble_eq_true rfl) (Nat.le_of_ble_eq_true rfl) dX4_copyFrom_28 ?_
  rw [tMin len]
  refine k_copyi C tc2 tc 0 0 (List.mem_of_getElem? (i := 7) rfl) (List.mem_of_getElem? (i := 8) rfl) (List.mem_of_getElem? (i := 9) rfl) (List.mem_of_getElem? (i := 10) rfl) hNc2 hNc h_tc2_G1 h_tc_G1 rfl rfl (by decide) (by decide) (nI_pos hlen) (by rw [nI_clamp hlen]; exact Nat.le_of_eq (Nat.zero_add _)) (by rw [nI_clamp hlen]; exact Nat.le_of_eq (Nat.zero_add _)) (Nat.le_of_ble_eq_true rfl) (Nat.le_of_ble_eq_true rfl) dX4_copyFrom_31 (fun G2 hG2 => ?_)
  have h_t2_G2 : G2 t2 = .inr (4, [.int cols2, .ref (ad tc2), .int n2]) := up_at hG2 h_t2_G1 (by omega)
  have h_tc2_G2 : G2 tc2 = .inl (cI, len, .inl f2) := up_at hG2 h_tc2_G1 (by omega)
  have h_t_G2 : G2 t = .inr (4, [.int cols, .ref (ad tc), .int n2]) := up_at hG2 h_t_G1 (by omega)
  have h_tc_G2 : G2 tc = .inl (cI, len, .inl (tCp f2 f len)) := by rw [up_it hG2]; rw [nI_clamp hlen, tCp_cpy]
  exact k_vret C hQ rfl dX4_copyFrom_34 ⟨h_t_G2, h_tc_G2, fun j h8 h9 => by rw [hG2, up_ne h9, hG1, up_ne h8]⟩
