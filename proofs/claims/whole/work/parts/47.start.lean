/-! THE LAW FROM ITS ENTRY -/
theorem lw_arrI {s : State} {args : Array Value} (h : (Cond.arrayClass .int).before args s = true) : ∃ cA, ArrOfT s cA .int ∧ va_RA s cA .int := by
  obtain ⟨cA, kA, comp, h1, h2, h3⟩ := Cond.arrayClass_spec h
  exact ⟨cA, fun n z => ⟨fun k h => (by cases h), kA, h2, comp, h3⟩, h1⟩
theorem lw_arrC {s : State} {args : Array Value} (h : (Cond.arrayClass .char).before args s = true) : ∃ cA, ArrOfT s cA .char ∧ va_RA s cA .char := by
  obtain ⟨cA, kA, comp, h1, h2, h3⟩ := Cond.arrayClass_spec h
  exact ⟨cA, fun n z => ⟨fun k h => (by cases h), kA, h2, comp, h3⟩, h1⟩
theorem lw_arrZ {s : State} {args : Array Value} (h : (Cond.arrayClass .boolean).before args s = true) : ∃ cA, ArrOfT s cA .boolean ∧ va_RA s cA .boolean := by
  obtain ⟨cA, kA, comp, h1, h2, h3⟩ := Cond.arrayClass_spec h
  exact ⟨cA, fun n z => ⟨fun k h => (by cases h), kA, h2, comp, h3⟩, h1⟩
theorem lw_arrJ {s : State} {args : Array Value} (h : (Cond.arrayClass .long).before args s = true) : ∃ cA, ArrOfT s cA .long ∧ va_RA s cA .long := by
  obtain ⟨cA, kA, comp, h1, h2, h3⟩ := Cond.arrayClass_spec h
  exact ⟨cA, fun n z => ⟨fun k h => (by cases h), kA, h2, comp, h3⟩, h1⟩
theorem lw_arrB {s : State} {args : Array Value} (h : (Cond.arrayOver (.object bkN)).before args s = true) : ∃ cA, ArrOfT s cA (.object bkN) ∧ va_RA s cA (.object bkN) := by
  obtain ⟨comp, cA, kA, h1, h2, h3, h4, h5⟩ := Cond.arrayOver_spec h
  exact ⟨cA, fun n z => ⟨fun k h => (by cases h), kA, h3, comp, h4⟩, kA, comp, h3, h4, h1, h5⟩
set_option maxRecDepth 100000 in
set_option maxHeartbeats 4000000 in
theorem lw_w1 : ∀ q ∈ kStrs, Cond.stringRef RX6 q.1 q.2 ∈ lw_tbl := by decide +kernel
set_option maxRecDepth 100000 in
set_option maxHeartbeats 4000000 in
theorem lw_w2 : ∀ q ∈ kStrs, Cond.exactly (.string RX6 q.1) "java/lang/String" ∈ flatC (Jvm.Cond.and given_1 narrow_1) := by decide +kernel
set_option maxRecDepth 100000 in
set_option maxHeartbeats 4000000 in
theorem lw_w3 : ∀ E ∈ kExc, Cond.castable E E ∈ lw_tbl := by decide +kernel
set_option maxRecDepth 100000 in
set_option maxHeartbeats 4000000 in
theorem lw_w4 : ∀ E ∈ kSup, Cond.declares (Bundle.initS E) ∈ lw_tbl := by decide +kernel
set_option maxRecDepth 100000 in
set_option maxHeartbeats 4000000 in
theorem lw_w5 : ∀ E ∈ kExc, ∀ F ∈ kExc, E ≠ F → Cond.not (.castable E F) ∈ flatC (Jvm.Cond.and given_1 narrow_1) := by decide +kernel
set_option maxRecDepth 100000 in
set_option maxHeartbeats 4000000 in
theorem lw_w6 : Cond.isRef (.static Bundle.tN "UNASSIGNED_STACK" Bundle.steD) ∈ flatC (Jvm.Cond.and given_1 narrow_1) ∧ Cond.isRef (.static Bundle.tN "SUPPRESSED_SENTINEL" Bundle.listD) ∈ flatC (Jvm.Cond.and given_1 narrow_1) := by decide +kernel
set_option maxRecDepth 100000 in
set_option maxHeartbeats 4000000 in
theorem lw_w7 : Cond.laysStatic Bundle.tN "UNASSIGNED_STACK" Bundle.steD ∈ lw_tbl ∧ Cond.laysStatic Bundle.tN "SUPPRESSED_SENTINEL" Bundle.listD ∈ lw_tbl ∧ Cond.initialized Bundle.tN ∈ lw_tbl := by decide +kernel
set_option maxRecDepth 100000 in
set_option maxHeartbeats 4000000 in
theorem lw_w8 : Cond.arrayClass .int ∈ lw_tbl ∧ Cond.arrayClass .char ∈ lw_tbl ∧ Cond.arrayClass .boolean ∈ lw_tbl ∧ Cond.arrayClass .long ∈ lw_tbl ∧ Cond.arrayOver (.object bkN) ∈ lw_tbl := by decide +kernel
set_option maxRecDepth 100000 in
set_option maxHeartbeats 4000000 in
theorem lw_w9 : Cond.instantiable RX0 5 ∈ lw_tbl ∧ Cond.instantiable RX1 6 ∈ lw_tbl ∧ Cond.instantiable RX2 3 ∈ lw_tbl ∧ Cond.instantiable RX3 2 ∈ lw_tbl ∧ Cond.instantiable RX4 3 ∈ lw_tbl ∧ Cond.instantiable RX5 2 ∈ lw_tbl ∧ Cond.instantiable RX6 6 ∈ lw_tbl ∧ Cond.instantiable RX7 10 ∈ lw_tbl := by decide +kernel
set_option maxRecDepth 100000 in
set_option maxHeartbeats 4000000 in
theorem lw_u6 : Cond.classLink RL 8 RX6 ∈ wsL_law ∧ Cond.instantiable RX6 6 ∈ wsL_law ∧ Cond.initialized RX6 ∈ wsL_law ∧ Cond.methodLink RL 75 yX6_init ∈ wsL_law ∧ Cond.instanceMethod yX6_init ∈ wsL_law := by decide +kernel
set_option maxRecDepth 100000 in
set_option maxHeartbeats 4000000 in
theorem lw_u7 : Cond.classLink RL 76 RX7 ∈ wsL_law ∧ Cond.instantiable RX7 10 ∈ wsL_law ∧ Cond.initialized RX7 ∈ wsL_law ∧ Cond.methodLink RL 78 yX7_init ∈ wsL_law ∧ Cond.instanceMethod yX7_init ∈ wsL_law ∧ Cond.arrayClass .long ∈ wsL_law := by decide +kernel
theorem lw_kEx {s : State} {args : Array Value} (hts : ∀ w ∈ lw_tbl, w.before args s = true) (hgv : (Jvm.Cond.and given_1 narrow_1).before args s = true) : kEx s (lwA s) := by
  have hs := flat_of_before _ hgv
  have hA : ∀ a : Nat, a < s.heap.size → ¬ lwA s a := fun a h => Nat.not_le.mpr h
  refine ⟨⟨vx_Zqof (hts _ lw_w7.1) (hts _ lw_w7.2.2) (hs _ lw_w6.1) hA, vx_Zqof (hts _ lw_w7.2.1) (hts _ lw_w7.2.2) (hs _ lw_w6.2) hA⟩, fun q hq => ?_, fun E hE => va_Nw.of rfl (hts _ (lw_w3 E hE)), fun E hE => va_Nw.of rfl (hts _ (lw_w4 E hE)), fun E hE F hF hn => va_Nc.of (hs _ (lw_w5 E hE F hF hn))⟩
  obtain ⟨a, c, cell, k, e, -⟩ := Cond.exactly_spec (hs _ (lw_w2 q hq))
  exact ⟨a, vk_R.of (A := args) (hts _ (lw_w1 q hq)) e⟩
set_option maxRecDepth 100000 in
set_option maxHeartbeats 4000000 in
/-- the walk of the law's first rows: the class's object, the model's, the cell of answers -/
theorem law_make {p : Program} {l : Launch} {e : Env} {s : State} {m : MethodId} {below : List Frame} {meth : Method} {c : Code} {Q : State → Prop} {b L : Nat} {xs : Nat → Int32} {D : va_G} {cI cC cZ cB cJ : ClassId} {ad : Nat → Nat} {G : Nat → va_E} (hL : L ≤ 2560) (hl0 : l.stackTraces = false) (E : kEx s (lwA s)) (hX : va_X b L xs s s.heap) (hbl : b < s.heap.size) (hAO : va_AO bkN s) (C : kC p s #[Value.ref b] m meth c cL_law ret RL 9 wsL_law D (kT5 cI cC cZ cB cJ) ad 0 (lwA s)) (hQ : Q = lw_Z below #[Value.ref b] s) : kJ p l e room_1 s m #[Value.ref b] below meth c 0 0 Q 9 D ad 0 (lwA s) G 0 [(0, .ref b)] [] := by
  refine kn_new C (ci := 6) (fs := [.null, .null, .null, .null, .null, .null]) (Nf := 6) inlX6 tyX6 tyX6_ok lw_u6.1 lw_u6.2.1 lw_u6.2.2.1 rfl (by decide +kernel) (Nat.le_of_ble_eq_true rfl) (Nat.le_of_ble_eq_true rfl) dL_law_0 (fun ad1 G1 _ hG1 C1 => ?_)
  refine k_dup C1 dL_law_3 rfl ?_
  have h0 : G1 0 = .inr (6, [.null, .null, .null, .null, .null, .null]) := up_it hG1
  refine kn_call C1 hAO (As := []) (rest := [.ref (ad1 0)]) (m_X6_init l D cI cC cZ cB cJ ad1 G1 h0) gL_law_X6_init rfl lw_u6.2.2.1 lw_u6.2.2.2.1 lw_u6.2.2.2.2 rfl kd_X6_init rfl rfl ⟨Nat.le_of_ble_eq_true rfl, Nat.le_of_ble_eq_true rfl⟩ rfl rfl (Nat.le_of_ble_eq_true rfl) ⟨Nat.le_of_ble_eq_true rfl, Nat.le_of_ble_eq_true rfl⟩ dL_law_4 (fun ad2 G2 h2 C2 => ?_)
  obtain ⟨ha2, hF2⟩ := h2
  refine k_astore_n C2 (lv' := [(1, .ref (ad1 0)), (0, .ref b)]) dL_law_7 rfl (by decide) rfl ?_
  refine kn_new C2 (ci := 7) (fs := [.null, .int 0, .null, .int 0, .null, .int 0, .int 0, .null, .null, .int 0]) (Nf := 10) inlX7 tyX7 tyX7_ok lw_u7.1 lw_u7.2.1 lw_u7.2.2.1 rfl (by decide +kernel) (Nat.le_of_ble_eq_true rfl) (Nat.le_of_ble_eq_true rfl) dL_law_8 (fun ad3 G3 ha3 hG3 C3 => ?_)
  refine k_dup C3 dL_law_11 rfl ?_
  have h73 : G3 73 = .inr (7, [.null, .int 0, .null, .int 0, .null, .int 0, .int 0, .null, .null, .int 0]) := up_it hG3
  refine kn_call C3 hAO (As := []) (rest := [.ref (ad3 73)]) (m_X7_init l D cI cC cZ cB cJ ad3 G3 h73) gL_law_X7_init rfl lw_u7.2.2.1 lw_u7.2.2.2.1 lw_u7.2.2.2.2.1 rfl kd_X7_init rfl rfl ⟨Nat.le_of_ble_eq_true rfl, Nat.le_of_ble_eq_true rfl⟩ rfl rfl (Nat.le_of_ble_eq_true rfl) ⟨Nat.le_of_ble_eq_true rfl, Nat.le_of_ble_eq_true rfl⟩ dL_law_12 (fun ad4 G4 h4 C4 => ?_)
  obtain ⟨ha4, hM4, hf4⟩ := h4
  refine k_astore_n C4 (lv' := [(2, .ref (ad3 73)), (1, .ref (ad1 0)), (0, .ref b)]) dL_law_15 rfl (by decide) rfl ?_
  refine k_iconst C4 (v := 1) dL_law_16 (by decide) ?_
  refine kn_newa C4 (atype := .long) (ty := .long) (c0 := cJ) (N' := 1) (a0 := (1, .inr (.inl (fun _ => 0)))) 4 rfl rfl lw_u7.2.2.2.2.2 (fun _ => rfl) (by decide) (by decide) (Nat.le_of_ble_eq_true rfl) (Nat.le_of_ble_eq_true rfl) (Nat.le_of_ble_eq_true rfl) dL_law_17 (fun ad5 G5 ha5 hG5 C5 => ?_)
  refine k_astore_n C5 (lv' := [(3, .ref (ad5 79)), (2, .ref (ad3 73)), (1, .ref (ad1 0)), (0, .ref b)]) dL_law_19 rfl (by decide) rfl ?_
  refine k_iconst C5 (v := 0) dL_law_20 (by decide) ?_
  refine k_istore C5 (lv' := [(4, .int 0), (3, .ref (ad5 79)), (2, .ref (ad3 73)), (1, .ref (ad1 0)), (0, .ref b)]) dL_law_21 (by decide) rfl ?_
  have e1 : ad1 0 = ad5 0 := by rw [ha5 0 (by decide), ha4 0 (by decide), ha3 0 (by decide), ha2 0 (by decide)]
  have e2 : ad3 73 = ad5 73 := by rw [ha5 73 (by decide), ha4 73 (by decide)]
  rw [e1, e2]
  have hF5 : isFB ad5 cI cB G5 bk0 ar0 tx0 hi0 sl0 sl0 := hF2.mv (fun j hj => by rw [ha5 j (by omega), ha4 j (by omega), ha3 j hj]) (fun j hj => by rw [hG5, up_ne (by omega), hf4 j hj, hG3, up_ne (by omega)])
  have hM5 : isMo ad5 cI cC cZ G5 (mI 10) zF zF zF zF 0 0 0 0 0 := hM4.mv (fun j hj => ha5 j hj) (fun j hj => by rw [hG5, up_ne (by omega)])
  have hO5 : G5 79 = .inl (cJ, 1, .inr (.inl (fun _ => 0))) := up_it hG5
  have K : lwC p l s m meth c b L xs D cI cC cZ cB cJ ad5 := ⟨C5, hl0, E, hX, hbl, hL⟩
  exact k_sub [4, 3, 2, 1, 0] rfl (law_loop K hQ 513 0 _ _ G5 (by omega) (Nat.zero_le _) (Nat.le_of_ble_eq_true rfl) (Nat.le_of_ble_eq_true rfl) ⟨bk0, ar0, tx0, hi0, sl0, sl0, mI 10, zF, zF, zF, zF, 0, 0, 0, 0, 0, fun _ => 0, hF5, hM5, hO5, Inv.start⟩)
set_option maxRecDepth 100000 in
set_option maxHeartbeats 4000000 in
/-- THE LAW, from its entry -/
theorem whole_start {p : Program} {e : Env} {s : State} {m : MethodId} {below : List Frame} {meth : Method} {c : Code} (l : Launch) (hflags : l.flags = flags0) {b L : Nat} {xs : Nat → Int32} (hL : L ≤ 2560) (C0 : lw_At p s m meth c b L xs) : W p l e room_1 s m #[Value.ref b] below meth c s.heap [] 0 0 (lw_Z below #[Value.ref b] s) (entryFrame m ([Value.ref b] : List Value).toArray 9) := by
  obtain ⟨hx, hb, hr, hml, hown, hts, hX, hbl, hlocks, hgv⟩ := id C0
  have hl0 : l.stackTraces = false := by unfold Launch.stackTraces; rw [hflags]; decide +kernel
  obtain ⟨c0, i0, n0⟩ := u_known (C := RX0) (T := TX0) (N := 5) (n := 5) hts inX0 (hts _ lw_w9.1)
  obtain ⟨c1, i1, n1⟩ := u_known (C := RX1) (T := TX1) (N := 6) (n := 6) hts inX1 (hts _ lw_w9.2.1)
  obtain ⟨c2, i2, n2⟩ := u_known (C := RX2) (T := TX2) (N := 3) (n := 3) hts inX2 (hts _ lw_w9.2.2.1)
  obtain ⟨c3, i3, n3⟩ := u_known (C := RX3) (T := TX3) (N := 2) (n := 2) hts inX3 (hts _ lw_w9.2.2.2.1)
  obtain ⟨c4, i4, n4⟩ := u_known (C := RX4) (T := TX4) (N := 3) (n := 3) hts inX4 (hts _ lw_w9.2.2.2.2.1)
  obtain ⟨c5, i5, n5⟩ := u_known (C := RX5) (T := TX5) (N := 2) (n := 2) hts inX5 (hts _ lw_w9.2.2.2.2.2.1)
  obtain ⟨c6, i6, n6⟩ := u_known (C := RX6) (T := TX6) (N := 6) (n := 6) hts inX6 (hts _ lw_w9.2.2.2.2.2.2.1)
  obtain ⟨c7, i7, n7⟩ := u_known (C := RX7) (T := TX7) (N := 10) (n := 10) hts inX7 (hts _ lw_w9.2.2.2.2.2.2.2)
  obtain ⟨D, hKc⟩ : ∃ D : va_G, ∀ (k : Nat) (q : vw_C), vwCl[k]? = some q → u_Kn s q.1 q.2.1 q.2.2 (D.1 k) (D.2 k) := by
    refine ⟨(fun k => if k = 0 then c0 else if k = 1 then c1 else if k = 2 then c2 else if k = 3 then c3 else if k = 4 then c4 else if k = 5 then c5 else if k = 6 then c6 else c7, fun k => if k = 0 then i0 else if k = 1 then i1 else if k = 2 then i2 else if k = 3 then i3 else if k = 4 then i4 else if k = 5 then i5 else if k = 6 then i6 else i7), ?_⟩
    intro k q hq
    match k, hq with
    | 0, hq => cases hq; exact n0
    | 1, hq => cases hq; exact n1
    | 2, hq => cases hq; exact n2
    | 3, hq => cases hq; exact n3
    | 4, hq => cases hq; exact n4
    | 5, hq => cases hq; exact n5
    | 6, hq => cases hq; exact n6
    | 7, hq => cases hq; exact n7
    | k + 8, hq => simp [vwCl] at hq
  obtain ⟨cI, aI⟩ := lw_arrI (hts _ lw_w8.1)
  obtain ⟨cC, aC⟩ := lw_arrC (hts _ lw_w8.2.1)
  obtain ⟨cZ, aZ⟩ := lw_arrZ (hts _ lw_w8.2.2.1)
  obtain ⟨cJ, aJ⟩ := lw_arrJ (hts _ lw_w8.2.2.2.1)
  obtain ⟨cB, aB⟩ := lw_arrB (hts _ lw_w8.2.2.2.2)
  have hAO : va_AO bkN s := va_AO.of (hts _ lw_w8.2.2.2.2)
  have hK : va_K D vwCl (kT5 cI cC cZ cB cJ) s := by
    refine ⟨hKc, fun k q hq => ?_⟩
    match k, hq with
    | 0, hq => cases hq; exact aI
    | 1, hq => cases hq; exact aC
    | 2, hq => cases hq; exact aZ
    | 3, hq => cases hq; exact aB
    | 4, hq => cases hq; exact aJ
    | k + 5, hq => simp [kT5] at hq
  have hP : va_P D vwCl (pw (fun _ => 0) 0 (fun _ => .inr (0, []))) s.heap := fun k q h => by simp [pw] at h
  have hD : va_D (lwA s) (pw (fun _ => 0) 0 (fun _ => .inr (0, []))) := ⟨fun i j p q h => by simp [pw] at h, fun k q h => by simp [pw] at h⟩
  have C : kC p s #[Value.ref b] m meth c cL_law ret RL 9 wsL_law D (kT5 cI cC cZ cB cJ) (fun _ => 0) 0 (lwA s) := ⟨⟨hx, hb, hr, hml, hlocks⟩, hown, fun w hw => hts w (wsL_law_in w hw), hK, hD, fun q h => h, rfl⟩
  have hl := lv_entry ([.ref b]) (n := 9) (Nat.le_of_ble_eq_true rfl)
  rw [lg_entry_eq]
  exact law_make hL hl0 (lw_kEx hts hgv) hX hbl hAO C rfl _ _ _ hP va_S.rf hl
