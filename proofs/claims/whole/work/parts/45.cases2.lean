/-! THE LAW'S CASES: calls that never throw -/
section LCT
variable {p : Program} {l : Launch} {e : Env} {s : State} {m : MethodId} {below : List Frame} {meth : Method} {c : Code} {cells slots : Nat} {Q : State → Prop}
variable {b L : Nat} {xs : Nat → Int32} {D : va_G} {cI cC cZ cB cJ : ClassId} {ad : Nat → Nat} {G : Nat → va_E}
set_option maxRecDepth 100000 in
set_option maxHeartbeats 4000000 in
theorem lc_clearBuffer (K : lwC p l s m meth c b L xs D cI cC cZ cB cJ ad) {i : Nat} (hi : i + 5 ≤ L) (hc : cells + 6 ≤ 601024) (hs : slots + 36 ≤ 7293034) (hV : lwV ad cI cC cZ cB cJ G) (kont : ∀ (mc : Nat) (G' : Nat → va_E), mc ≤ 6 → lwV ad cI cC cZ cB cJ G' → kJ p l e room_1 s m #[Value.ref b] below meth c (cells + mc) (slots + 6 * mc) Q 9 D ad 80 (lwA s) G' 1399 (lwB b ad i) []) : kJ p l e room_1 s m #[Value.ref b] below meth c cells slots Q 9 D ad 80 (lwA s) G 708 (lwB b ad i) [] := by
  obtain ⟨v, w, x, hi0, z0, z1, f, kp, tx, fi, gr, st, ty, th, at0, re, fo, hF, hM, hO, hI⟩ := hV
  have O := hI.O
  have R := hI.R
  have T := hI.T
  have H := hI.H
  obtain ⟨C, hl0, E, -⟩ := id K
  refine k_aload_n C dL_law_708 rfl (j := 1) rfl ?_
  refine k_callVi C (As := []) (rest := []) 0 (m_X6_clearBuffer l D cI cC cZ cB cJ ad 80 G v w x hi0 z0 z1 (by decide) hF) gL_law_X6_clearBuffer rfl kd_X6_clearBuffer rfl rfl ⟨(Nat.le_of_ble_eq_true rfl), (Nat.le_of_ble_eq_true rfl)⟩ (by decide) hF.1 rfl rfl rfl (Nat.le_of_ble_eq_true rfl) ⟨by show cells ≤ 601024; omega, by show slots ≤ 7293034; omega⟩ dL_law_709 (fun r1 G1 h1 => ?_)
  obtain ⟨e1, hF1, hfr1⟩ := h1
  have hM1 := hM.keep (G' := G1) (fun j h8 h9 => hfr1 j h8)
  have hO1 := (hfr1 79 (by decide)).trans hO
  refine k_aload_n C dL_law_712 rfl (j := 2) rfl ?_
  refine k_callVi C (As := []) (rest := [.int r1]) 73 (m_X7_clearBuffer l D cI cC cZ cB cJ ad 80 G1 f kp tx fi gr st ty th at0 re (bnH v) (bnB v) (bnL v) (by decide) hM1) gL_law_X7_clearBuffer rfl kd_X7_clearBuffer rfl rfl ⟨(Nat.le_of_ble_eq_true rfl), (Nat.le_of_ble_eq_true rfl)⟩ (by decide) hM1.1 rfl rfl rfl (Nat.le_of_ble_eq_true rfl) ⟨by show cells ≤ 601024; omega, by show slots ≤ 7293034; omega⟩ dL_law_713 (fun r2 G2 h2 => ?_)
  obtain ⟨e2, hM2, hfr2⟩ := h2
  have hF2 := hF1.keep (G' := G2) (fun j hj => hfr2 j (Or.inl hj))
  have hO2 := (hfr2 79 (Or.inr (by decide))).trans hO1
  have hV2 : lwV ad cI cC cZ cB cJ G2 := ⟨v, w, (txC x, 0), hi0, z0, z1, f, kp, tx, fi, gr, st, 0, 0, at0, re, fo, hF2, hM2, hO2, (s_clear hI)⟩
  have e12 : r1 = r2 := (e1.trans (congrArg nI T.n)).trans e2.symm
  exact k_icmp_eq C 1399 dL_law_716 (by decide) (fun _ => kont 0 G2 (by decide) hV2) (fun q => absurd e12 q)
set_option maxRecDepth 100000 in
set_option maxHeartbeats 4000000 in
theorem lc_firstError (K : lwC p l s m meth c b L xs D cI cC cZ cB cJ ad) {i : Nat} (hi : i + 5 ≤ L) (hc : cells + 6 ≤ 601024) (hs : slots + 36 ≤ 7293034) (hV : lwV ad cI cC cZ cB cJ G) (kont : ∀ (mc : Nat) (G' : Nat → va_E), mc ≤ 6 → lwV ad cI cC cZ cB cJ G' → kJ p l e room_1 s m #[Value.ref b] below meth c (cells + mc) (slots + 6 * mc) Q 9 D ad 80 (lwA s) G' 1399 (lwB b ad i) []) : kJ p l e room_1 s m #[Value.ref b] below meth c cells slots Q 9 D ad 80 (lwA s) G 721 (lwB b ad i) [] := by
  obtain ⟨v, w, x, hi0, z0, z1, f, kp, tx, fi, gr, st, ty, th, at0, re, fo, hF, hM, hO, hI⟩ := hV
  have O := hI.O
  have R := hI.R
  have T := hI.T
  have H := hI.H
  obtain ⟨C, hl0, E, -⟩ := id K
  refine k_aload_n C dL_law_721 rfl (j := 1) rfl ?_
  refine k_callVi C (As := []) (rest := []) 0 (m_X6_firstError l D cI cC cZ cB cJ ad 80 G v w x hi0 z0 z1 (by decide) hF) gL_law_X6_firstError rfl kd_X6_firstError rfl rfl ⟨(Nat.le_of_ble_eq_true rfl), (Nat.le_of_ble_eq_true rfl)⟩ (by decide) hF.1 rfl rfl rfl (Nat.le_of_ble_eq_true rfl) ⟨by show cells ≤ 601024; omega, by show slots ≤ 7293034; omega⟩ dL_law_722 (fun r1 G1 h1 => ?_)
  obtain ⟨e1, eG⟩ := h1
  subst eG
  have hF1 := hF
  have hfr1 : ∀ j, 73 ≤ j → G1 j = G1 j := fun _ _ => rfl
  have hM1 := hM.keep (G' := G1) (fun j h8 h9 => hfr1 j h8)
  have hO1 := (hfr1 79 (by decide)).trans hO
  refine k_aload_n C dL_law_725 rfl (j := 2) rfl ?_
  refine k_callVi C (As := []) (rest := [.int r1]) 73 (m_X7_firstError l D cI cC cZ cB cJ ad 80 G1 f kp tx fi gr st ty th at0 re (bnH v) (bnB v) (bnL v) (by decide) hM1 T.le T.ok) gL_law_X7_firstError rfl kd_X7_firstError rfl rfl ⟨(Nat.le_of_ble_eq_true rfl), (Nat.le_of_ble_eq_true rfl)⟩ (by decide) hM1.1 rfl rfl rfl (Nat.le_of_ble_eq_true rfl) ⟨by show cells ≤ 601024; omega, by show slots ≤ 7293034; omega⟩ dL_law_726 (fun r2 G2 h2 => ?_)
  obtain ⟨e2, at9, hM2, hfr2⟩ := h2
  have hF2 := hF1.keep (G' := G2) (fun j hj => hfr2 j (Or.inl hj))
  have hO2 := (hfr2 79 (Or.inr (by decide))).trans hO1
  have hV2 : lwV ad cI cC cZ cB cJ G2 := ⟨v, w, x, hi0, z0, z1, f, kp, tx, fi, gr, st, ty, 0, at9, re, fo, hF2, hM2, hO2, hI⟩
  have e12 : r1 = r2 := (e1.trans (congrArg nI T.wrong)).trans e2.symm
  exact k_icmp_eq C 1399 dL_law_729 (by decide) (fun _ => kont 0 G2 (by decide) hV2) (fun q => absurd e12 q)
set_option maxRecDepth 100000 in
set_option maxHeartbeats 4000000 in
theorem lc_ifArrived (K : lwC p l s m meth c b L xs D cI cC cZ cB cJ ad) {i : Nat} (hi : i + 5 ≤ L) (hc : cells + 6 ≤ 601024) (hs : slots + 36 ≤ 7293034) (hV : lwV ad cI cC cZ cB cJ G) (kont : ∀ (mc : Nat) (G' : Nat → va_E), mc ≤ 6 → lwV ad cI cC cZ cB cJ G' → kJ p l e room_1 s m #[Value.ref b] below meth c (cells + mc) (slots + 6 * mc) Q 9 D ad 80 (lwA s) G' 1399 (lwB b ad i) []) : kJ p l e room_1 s m #[Value.ref b] below meth c cells slots Q 9 D ad 80 (lwA s) G 1206 (lwB b ad i) [] := by
  obtain ⟨v, w, x, hi0, z0, z1, f, kp, tx, fi, gr, st, ty, th, at0, re, fo, hF, hM, hO, hI⟩ := hV
  have O := hI.O
  have R := hI.R
  have T := hI.T
  have H := hI.H
  obtain ⟨C, hl0, E, -⟩ := id K
  refine k_aload_n C dL_law_1206 rfl (j := 1) rfl ?_
  refine k_callVi C (As := []) (rest := []) 0 (m_X6_ifArrived l D cI cC cZ cB cJ ad 80 G v w x hi0 z0 z1 (by decide) hF) gL_law_X6_ifArrived rfl kd_X6_ifArrived rfl rfl ⟨(Nat.le_of_ble_eq_true rfl), (Nat.le_of_ble_eq_true rfl)⟩ (by decide) hF.1 rfl rfl rfl (Nat.le_of_ble_eq_true rfl) ⟨by show cells ≤ 601024; omega, by show slots ≤ 7293034; omega⟩ dL_law_1207 (fun r1 G1 h1 => ?_)
  obtain ⟨e1, w', hF1, hfr1⟩ := h1
  have hM1 := hM.keep (G' := G1) (fun j h8 h9 => hfr1 j h8)
  have hO1 := (hfr1 79 (by decide)).trans hO
  refine k_aload_n C dL_law_1210 rfl (j := 2) rfl ?_
  refine k_callVi C (As := []) (rest := [.int r1]) 73 (m_X7_ifArrived l D cI cC cZ cB cJ ad 80 G1 f kp tx fi gr st ty th at0 re (bnH v) (bnB v) (bnL v) (by decide) hM1 ⟨R.n0, O.nH⟩ ⟨R.n1, O.nB⟩ ⟨R.n2, O.nL⟩ (fun k hk => r_okB O R hk) (fun k hk => r_okO O R hk) T.le T.ok) gL_law_X7_ifArrived rfl kd_X7_ifArrived rfl rfl ⟨(Nat.le_of_ble_eq_true rfl), (Nat.le_of_ble_eq_true rfl)⟩ (by decide) hM1.1 rfl rfl rfl (Nat.le_of_ble_eq_true rfl) ⟨by show cells ≤ 601024; omega, by show slots ≤ 7293034; omega⟩ dL_law_1211 (fun r2 G2 h2 => ?_)
  obtain ⟨e2, fi9, gr9, at9, re9, hM2, hfr2⟩ := h2
  have hF2 := hF1.keep (G' := G2) (fun j hj => hfr2 j (Or.inl hj))
  have hO2 := (hfr2 79 (Or.inr (by decide))).trans hO1
  have hV2 : lwV ad cI cC cZ cB cJ G2 := ⟨v, w', x, hi0, z0, z1, f, kp, tx, fi9, gr9, st, ty, 0, at9, re9, fo, hF2, hM2, hO2, hI⟩
  have e12 : r1 = r2 := (e1.trans (r_if O R T)).trans e2.symm
  exact k_icmp_eq C 1399 dL_law_1214 (by decide) (fun _ => kont 0 G2 (by decide) hV2) (fun q => absurd e12 q)
set_option maxRecDepth 100000 in
set_option maxHeartbeats 4000000 in
theorem lc_worst (K : lwC p l s m meth c b L xs D cI cC cZ cB cJ ad) {i : Nat} (hi : i + 5 ≤ L) (hc : cells + 6 ≤ 601024) (hs : slots + 36 ≤ 7293034) (hV : lwV ad cI cC cZ cB cJ G) (kont : ∀ (mc : Nat) (G' : Nat → va_E), mc ≤ 6 → lwV ad cI cC cZ cB cJ G' → kJ p l e room_1 s m #[Value.ref b] below meth c (cells + mc) (slots + 6 * mc) Q 9 D ad 80 (lwA s) G' 1399 (lwB b ad i) []) : kJ p l e room_1 s m #[Value.ref b] below meth c cells slots Q 9 D ad 80 (lwA s) G 1275 (lwB b ad i) [] := by
  obtain ⟨v, w, x, hi0, z0, z1, f, kp, tx, fi, gr, st, ty, th, at0, re, fo, hF, hM, hO, hI⟩ := hV
  have O := hI.O
  have R := hI.R
  have T := hI.T
  have H := hI.H
  obtain ⟨C, hl0, E, -⟩ := id K
  refine k_aload_n C dL_law_1275 rfl (j := 1) rfl ?_
  refine k_callVi C (As := []) (rest := []) 0 (m_X6_worst l D cI cC cZ cB cJ ad 80 G v w x hi0 z0 z1 (by decide) hF) gL_law_X6_worst rfl kd_X6_worst rfl rfl ⟨(Nat.le_of_ble_eq_true rfl), (Nat.le_of_ble_eq_true rfl)⟩ (by decide) hF.1 rfl rfl rfl (Nat.le_of_ble_eq_true rfl) ⟨by show cells ≤ 601024; omega, by show slots ≤ 7293034; omega⟩ dL_law_1276 (fun r1 G1 h1 => ?_)
  obtain ⟨e1, w', hF1, hfr1⟩ := h1
  have hM1 := hM.keep (G' := G1) (fun j h8 h9 => hfr1 j h8)
  have hO1 := (hfr1 79 (by decide)).trans hO
  refine k_aload_n C dL_law_1279 rfl (j := 2) rfl ?_
  refine k_callVi C (As := []) (rest := [.int r1]) 73 (m_X7_worst l D cI cC cZ cB cJ ad 80 G1 f kp tx fi gr st ty th at0 re (bnH v) (bnB v) (bnL v) (by decide) hM1 ⟨R.n0, O.nH⟩ ⟨R.n1, O.nB⟩ ⟨R.n2, O.nL⟩ (fun k hk => r_okB O R hk) (fun k hk => r_okO O R hk)) gL_law_X7_worst rfl kd_X7_worst rfl rfl ⟨(Nat.le_of_ble_eq_true rfl), (Nat.le_of_ble_eq_true rfl)⟩ (by decide) hM1.1 rfl rfl rfl (Nat.le_of_ble_eq_true rfl) ⟨by show cells ≤ 601024; omega, by show slots ≤ 7293034; omega⟩ dL_law_1280 (fun r2 G2 h2 => ?_)
  obtain ⟨e2, fi9, gr9, re9, hM2, hfr2⟩ := h2
  have hF2 := hF1.keep (G' := G2) (fun j hj => hfr2 j (Or.inl hj))
  have hO2 := (hfr2 79 (Or.inr (by decide))).trans hO1
  have hV2 : lwV ad cI cC cZ cB cJ G2 := ⟨v, w', x, hi0, z0, z1, f, kp, tx, fi9, gr9, st, ty, 0, at0, re9, fo, hF2, hM2, hO2, hI⟩
  have e12 : r1 = r2 := (e1.trans (r_wst O R)).trans e2.symm
  exact k_icmp_eq C 1399 dL_law_1283 (by decide) (fun _ => kont 0 G2 (by decide) hV2) (fun q => absurd e12 q)
set_option maxRecDepth 100000 in
set_option maxHeartbeats 4000000 in
theorem lc_safeShare (K : lwC p l s m meth c b L xs D cI cC cZ cB cJ ad) {i : Nat} (hi : i + 5 ≤ L) (hc : cells + 6 ≤ 601024) (hs : slots + 36 ≤ 7293034) (hV : lwV ad cI cC cZ cB cJ G) (kont : ∀ (mc : Nat) (G' : Nat → va_E), mc ≤ 6 → lwV ad cI cC cZ cB cJ G' → kJ p l e room_1 s m #[Value.ref b] below meth c (cells + mc) (slots + 6 * mc) Q 9 D ad 80 (lwA s) G' 1399 (lwB b ad i) []) : kJ p l e room_1 s m #[Value.ref b] below meth c cells slots Q 9 D ad 80 (lwA s) G 1344 (lwB b ad i) [] := by
  obtain ⟨v, w, x, hi0, z0, z1, f, kp, tx, fi, gr, st, ty, th, at0, re, fo, hF, hM, hO, hI⟩ := hV
  have O := hI.O
  have R := hI.R
  have T := hI.T
  have H := hI.H
  obtain ⟨C, hl0, E, -⟩ := id K
  refine k_aload_n C dL_law_1344 rfl (j := 1) rfl ?_
  refine k_callVd C (As := []) (rest := []) 0 (m_X6_safeShare l D cI cC cZ cB cJ ad 80 G v w x hi0 z0 z1 (by decide) hF (okRuns_of O)) gL_law_X6_safeShare rfl kd_X6_safeShare rfl rfl ⟨(Nat.le_of_ble_eq_true rfl), (Nat.le_of_ble_eq_true rfl)⟩ (by decide) hF.1 rfl rfl rfl (Nat.le_of_ble_eq_true rfl) ⟨by show cells ≤ 601024; omega, by show slots ≤ 7293034; omega⟩ dL_law_1345 (fun r1 G1 h1 => ?_)
  obtain ⟨e1, w', hF1, hfr1⟩ := h1
  have hM1 := hM.keep (G' := G1) (fun j h8 h9 => hfr1 j h8)
  have hO1 := (hfr1 79 (by decide)).trans hO
  refine k_dstore C (lv' := (5, .double r1) :: lwB b ad i) dL_law_1348 (by decide) rfl ?_
  refine k_aload_n C dL_law_1350 rfl (j := 3) rfl ?_
  refine k_callVd C (As := []) (rest := []) 73 (m_X7_safeShare l D cI cC cZ cB cJ ad 80 G1 f kp tx fi gr st ty th at0 re (bnH v) (bnB v) (bnL v) (by decide) hM1 ⟨R.n0, O.nH⟩ ⟨R.n1, O.nB⟩ ⟨R.n2, O.nL⟩ (fun k hk => r_okB O R hk) (fun k hk => r_okO O R hk)) gL_law_X7_safeShare rfl kd_X7_safeShare rfl rfl ⟨(Nat.le_of_ble_eq_true rfl), (Nat.le_of_ble_eq_true rfl)⟩ (by decide) hM1.1 rfl rfl rfl (Nat.le_of_ble_eq_true rfl) ⟨by show cells ≤ 601024; omega, by show slots ≤ 7293034; omega⟩ dL_law_1351 (fun r2 G2 h2 => ?_)
  obtain ⟨e2, fi9, gr9, re9, hM2, hfr2⟩ := h2
  have hF2 := hF1.keep (G' := G2) (fun j hj => hfr2 j (Or.inl hj))
  have hO2 := (hfr2 79 (Or.inr (by decide))).trans hO1
  have hV2 : lwV ad cI cC cZ cB cJ G2 := ⟨v, w', x, hi0, z0, z1, f, kp, tx, fi9, gr9, st, ty, 0, at0, re9, fo, hF2, hM2, hO2, hI⟩
  have e12 : r1 = r2 := (e1.trans (r_share O R)).trans e2.symm
  subst e12
  refine k_dstore C (lv' := (7, .double r1) :: (5, .double r1) :: lwB b ad i) dL_law_1354 (by decide) rfl ?_
  have go : kJ p l e room_1 s m #[Value.ref b] below meth c cells slots Q 9 D ad 80 (lwA s) G2 1382 ((7, .double r1) :: (5, .double r1) :: lwB b ad i) [] := k_goto C 1399 dL_law_1382 (by decide) (k_sub [2, 3, 4, 5, 6] rfl (kont 0 G2 (by decide) hV2))
  refine k_dload C dL_law_1356 (j := 1) rfl ?_
  refine k_dload C dL_law_1358 (j := 0) rfl ?_
  refine k_dcmp C dL_law_1360 ?_
  refine k_if_eq C 1382 dL_law_1361 (by decide) (fun _ => go) (fun q => ?_)
  refine k_dload C dL_law_1364 (j := 1) rfl ?_
  refine k_dload C dL_law_1366 (j := 1) rfl ?_
  refine k_dcmp C dL_law_1368 ?_
  refine k_if_eq C 1380 dL_law_1369 (by decide) (fun q2 => absurd q2 q) (fun _ => ?_)
  refine k_dload C dL_law_1372 (j := 0) rfl ?_
  refine k_dload C dL_law_1374 (j := 0) rfl ?_
  refine k_dcmp C dL_law_1376 ?_
  exact k_if_ne C 1382 dL_law_1377 (by decide) (fun _ => go) (fun q2 => absurd q2 q)
set_option maxRecDepth 100000 in
set_option maxHeartbeats 4000000 in
theorem lc_digest (K : lwC p l s m meth c b L xs D cI cC cZ cB cJ ad) {i : Nat} (hi : i + 5 ≤ L) (hc : cells + 6 ≤ 601024) (hs : slots + 36 ≤ 7293034) (hV : lwV ad cI cC cZ cB cJ G) (kont : ∀ (mc : Nat) (G' : Nat → va_E), mc ≤ 6 → lwV ad cI cC cZ cB cJ G' → kJ p l e room_1 s m #[Value.ref b] below meth c (cells + mc) (slots + 6 * mc) Q 9 D ad 80 (lwA s) G' 1399 (lwB b ad i) []) : kJ p l e room_1 s m #[Value.ref b] below meth c cells slots Q 9 D ad 80 (lwA s) G 1385 (lwB b ad i) [] := by
  obtain ⟨v, w, x, hi0, z0, z1, f, kp, tx, fi, gr, st, ty, th, at0, re, fo, hF, hM, hO, hI⟩ := hV
  have O := hI.O
  have R := hI.R
  have T := hI.T
  have H := hI.H
  obtain ⟨C, hl0, E, -⟩ := id K
  obtain ⟨K0, hK0, hok, hbits⟩ := share_K f (bnB v) (bnL v) O.nH
  refine k_aload_n C dL_law_1385 rfl (j := 1) rfl ?_
  refine k_callVl C (As := []) (rest := []) 0 (m_X6_digest l D cI cC cZ cB cJ ad 80 G v w x hi0 z0 z1 K0 (by decide) hF (okRuns_of O) hK0 (by rw [r_share O R]; exact hok)) gL_law_X6_digest rfl kd_X6_digest rfl rfl ⟨(Nat.le_of_ble_eq_true rfl), (Nat.le_of_ble_eq_true rfl)⟩ (by decide) hF.1 rfl rfl rfl (Nat.le_of_ble_eq_true rfl) ⟨by show cells ≤ 601024; omega, by show slots ≤ 7293034; omega⟩ dL_law_1386 (fun r1 G1 h1 => ?_)
  obtain ⟨e1, w', hF1, hfr1⟩ := h1
  have hM1 := hM.keep (G' := G1) (fun j h8 h9 => hfr1 j h8)
  have hO1 := (hfr1 79 (by decide)).trans hO
  refine k_aload_n C dL_law_1389 rfl (j := 2) rfl ?_
  refine k_callVl C (As := []) (rest := [.long r1]) 73 (m_X7_digest l D cI cC cZ cB cJ ad 80 G1 f kp tx fi gr st ty th at0 re (bnH v) (bnB v) (bnL v) (by decide) hM1 ⟨R.n0, O.nH⟩ ⟨R.n1, O.nB⟩ ⟨R.n2, O.nL⟩ (fun k hk => r_okB O R hk) (fun k hk => r_okO O R hk) (r_P0 O R) T.le T.ok) gL_law_X7_digest rfl kd_X7_digest rfl rfl ⟨(Nat.le_of_ble_eq_true rfl), (Nat.le_of_ble_eq_true rfl)⟩ (by decide) hM1.1 rfl rfl rfl (Nat.le_of_ble_eq_true rfl) ⟨by show cells ≤ 601024; omega, by show slots ≤ 7293034; omega⟩ dL_law_1390 (fun r2 G2 h2 => ?_)
  obtain ⟨e2, fi9, gr9, at9, re9, hM2, hfr2⟩ := h2
  have hF2 := hF1.keep (G' := G2) (fun j hj => hfr2 j (Or.inl hj))
  have hO2 := (hfr2 79 (Or.inr (by decide))).trans hO1
  have hV2 : lwV ad cI cC cZ cB cJ G2 := ⟨v, w', x, hi0, z0, z1, f, kp, tx, fi9, gr9, st, ty, 0, at9, re9, fo, hF2, hM2, hO2, hI⟩
  have e12 : r1 = r2 := (e1.trans (r_dig O R T H.z hI.z0.k hI.z1.k hbits)).trans e2.symm
  refine k_lcmp C dL_law_1393 ?_
  exact k_if_eq C 1399 dL_law_1394 (by decide) (fun _ => kont 0 G2 (by decide) hV2) (fun q => absurd (by rw [e12]; exact lg_cmp_same _) q)
end LCT
