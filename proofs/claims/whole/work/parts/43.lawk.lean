/-! THE LAW'S KIT: its fixed part lwC, its locals lwB, its invariant lwV; the reading of the script (kL_arg), the end of a call that may throw (kL_tail), the law's end (kL_end) -/
abbrev lwA (s : State) : Nat → Prop := fun q => s.heap.size ≤ q
abbrev lwB (b : Nat) (ad : Nat → Nat) (i : Nat) : List (Nat × Value) := [(0, .ref b), (1, .ref (ad 0)), (2, .ref (ad 73)), (3, .ref (ad 79)), (4, .int (nI i))]
def lwC (p : Program) (l : Launch) (s : State) (m : MethodId) (meth : Method) (c : Code) (b L : Nat) (xs : Nat → Int32) (D : va_G) (cI cC cZ cB cJ : ClassId) (ad : Nat → Nat) : Prop :=
  kC p s #[Value.ref b] m meth c cL_law ret RL 9 wsL_law D (kT5 cI cC cZ cB cJ) ad 80 (lwA s) ∧ l.stackTraces = false ∧ kEx s (lwA s) ∧ va_X b L xs s s.heap ∧ b < s.heap.size ∧ L ≤ 2560
def lwV (ad : Nat → Nat) (cI cC cZ cB cJ : ClassId) (G : Nat → va_E) : Prop := ∃ (v : BV) (w : AV) (x : TV) (hi : HV) (z0 z1 : ZV) (f kp tx fi gr : Nat → Int32) (st ty : Nat) (th at0 re : Int32) (fo : Nat → Int64),
  isFB ad cI cB G v w x hi z0 z1 ∧ isMo ad cI cC cZ G f kp tx fi gr st ty th at0 re ∧ G 79 = .inl (cJ, 1, .inr (.inl fo)) ∧ Inv v x hi z0 z1 f kp tx st ty
theorem lg_cmp_same (x : Int64) : lg_cmp x x = 0 := by
  unfold lg_cmp
  first
    | (rw [if_neg (Int64.lt_irrefl)]; rw [if_neg (Int64.lt_irrefl)])
    | simp
theorem r_P0 {f : Nat → Int32} {v : BV} (O : Ok v) (R : Rel f v) : ∀ h, h < bnH v → ¬ f (6 + h) + f (16 + h) = 0 ∧ ¬ f (16 + h) = 0 := fun h hh => by
  have hn := O.nH
  have k := O.H h hh
  obtain ⟨a, a1, a2, ea⟩ := k.a
  obtain ⟨b, b1, b2, eb⟩ := k.b
  have e1 : f (6 + h) = nI a := (R.a h (by omega)).trans ea
  have e2 : f (16 + h) = nI b := (R.b h (by omega)).trans eb
  refine ⟨fun q => ?_, fun q => ?_⟩
  · rw [knAdd e1 e2] at q
    exact absurd (nI_inj (a := a + b) (b := 0) (by omega) (by decide) q) (by omega)
  · rw [e2] at q
    exact absurd (nI_inj (a := b) (b := 0) (by omega) (by decide) q) (by omega)
section LW
variable {p : Program} {l : Launch} {e : Env} {s : State} {m : MethodId} {below : List Frame} {meth : Method} {c : Code} {cells slots : Nat} {Q : State → Prop}
variable {b L : Nat} {xs : Nat → Int32} {D : va_G} {cI cC cZ cB cJ : ClassId} {ad : Nat → Nat} {G : Nat → va_E} {pc : Nat} {lv : List (Nat × Value)} {st : List Value}
theorem kL_arg (K : lwC p l s m meth c b L xs D cI cC cZ cB cJ ad) {i : Nat} {n : Int} (k : Nat) (hn : Int32.ofInt n = nI k) (hi : i + k < L) (j j4 : Nat) (h0 : lv[j]? = some (0, .ref b)) (h4 : lv[j4]? = some (4, .int (nI i))) (d0 : decode cL_law pc = .ok (.aload_n 0, 1)) (d1 : decode cL_law (pc + 1) = .ok (.iload 4, 2)) (d3 : decode cL_law (pc + 3) = .ok (.iconst n, 1)) (d4 : decode cL_law (pc + 4) = .ok (.iadd, 1)) (d5 : decode cL_law (pc + 5) = .ok (.iaload, 1))
    (kk : kJ p l e room_1 s m #[Value.ref b] below meth c cells slots Q 9 D ad 80 (lwA s) G (pc + 6) lv (.int (xs (i + k)) :: st)) : kJ p l e room_1 s m #[Value.ref b] below meth c cells slots Q 9 D ad 80 (lwA s) G pc lv st := by
  obtain ⟨C, -, -, hX, hb, hL⟩ := K
  refine k_aload_n C d0 rfl (j := j) h0 ?_
  refine k_iload C d1 (j := j4) h4 ?_
  refine k_iconst C (v := nI k) d3 hn ?_
  refine k_iadd C d4 ?_
  intro H locs ls hP hS h
  have e1 : nI i + nI k = nI (i + k) := knAdd rfl rfl
  rw [e1]
  refine va_sld C.1.1 C.1.2.1 hX hb (Nat.not_le.mpr hb) hS (vp_in_nI hi (by omega)) d5 ?_
  rw [nI_clamp (by omega)]
  exact kk H locs ls hP hS h
/-- the first of the row's ints -/
theorem kL_arg0 (K : lwC p l s m meth c b L xs D cI cC cZ cB cJ ad) {i : Nat} (hi : i < L) (j j4 : Nat) (h0 : lv[j]? = some (0, .ref b)) (h4 : lv[j4]? = some (4, .int (nI i))) (d0 : decode cL_law pc = .ok (.aload_n 0, 1)) (d1 : decode cL_law (pc + 1) = .ok (.iload 4, 2)) (d5 : decode cL_law (pc + 3) = .ok (.iaload, 1))
    (kk : kJ p l e room_1 s m #[Value.ref b] below meth c cells slots Q 9 D ad 80 (lwA s) G (pc + 4) lv (.int (xs i) :: st)) : kJ p l e room_1 s m #[Value.ref b] below meth c cells slots Q 9 D ad 80 (lwA s) G pc lv st := by
  obtain ⟨C, -, -, hX, hb, hL⟩ := K
  refine k_aload_n C d0 rfl (j := j) h0 ?_
  refine k_iload C d1 (j := j4) h4 ?_
  intro H locs ls hP hS h
  refine va_sld C.1.1 C.1.2.1 hX hb (Nat.not_le.mpr hb) hS (vp_in_nI hi (by omega)) d5 ?_
  rw [nI_clamp (by omega)]
  exact kk H locs ls hP hS h
/-- the script's length -/
theorem kL_len (K : lwC p l s m meth c b L xs D cI cC cZ cB cJ ad) (j : Nat) (h0 : lv[j]? = some (0, .ref b)) (d0 : decode cL_law pc = .ok (.aload_n 0, 1)) (d1 : decode cL_law (pc + 1) = .ok (.arraylength, 1))
    (kk : kJ p l e room_1 s m #[Value.ref b] below meth c cells slots Q 9 D ad 80 (lwA s) G (pc + 2) lv (.int (nI L) :: st)) : kJ p l e room_1 s m #[Value.ref b] below meth c cells slots Q 9 D ad 80 (lwA s) G pc lv st := by
  obtain ⟨C, -, -, hX, hb, hL⟩ := K
  refine k_aload_n C d0 rfl (j := j) h0 ?_
  intro H locs ls hP hS h
  exact va_slen C.1.1 C.1.2.1 hX hb (Nat.not_le.mpr hb) hS d1 (kk H locs ls hP hS h)
/-- behind the model's answer: what was thrown, and the answers, are the same; then on to the loop's end -/
theorem kL_tail (K : lwC p l s m meth c b L xs D cI cC cZ cB cJ ad) {t i X : Nat} {off : Int} {f kp tx fi gr : Nat → Int32} {st ty : Nat} {T at0 re r R : Int32} {fo : Nat → Int64} (hc : cells ≤ room_1.cells) (hs : slots ≤ room_1.slots) (hM : isMo ad cI cC cZ G f kp tx fi gr st ty T at0 re) (hO : G 79 = .inl (cJ, 1, .inr (.inl fo))) (hT : T = nI X) (hX : X < 2 ^ 31) (hA : X = 0 → r = R ∧ fo 0 = R.toInt64)
    (d0 : decode cL_law t = .ok (.istore 6, 2)) (d1 : decode cL_law (t + 2) = .ok (.aload_n 2, 1)) (d2 : decode cL_law (t + 3) = .ok (.invokevirtual 85, 3)) (d3 : decode cL_law (t + 6) = .ok (.iload 5, 2)) (d4 : decode cL_law (t + 8) = .ok (.if_icmp .eq 5, 3)) (d5 : decode cL_law (t + 13) = .ok (.iload 5, 2)) (d6 : decode cL_law (t + 15) = .ok (.ifCond .ne 15, 3)) (d7 : decode cL_law (t + 18) = .ok (.aload_n 3, 1)) (d8 : decode cL_law (t + 19) = .ok (.iconst 0, 1)) (d9 : decode cL_law (t + 20) = .ok (.laload, 1)) (d10 : decode cL_law (t + 21) = .ok (.iload 6, 2)) (d11 : decode cL_law (t + 23) = .ok (.i2l, 1)) (d12 : decode cL_law (t + 24) = .ok (.lcmp, 1)) (d13 : decode cL_law (t + 25) = .ok (.ifCond .eq 5, 3)) (d14 : decode cL_law (t + 30) = .ok (.goto off, 3)) (hoff : ((t + 30 : Nat) : Int) + off = ((1399 : Nat) : Int))
    (kont : kJ p l e room_1 s m #[Value.ref b] below meth c cells slots Q 9 D ad 80 (lwA s) G 1399 (lwB b ad i) []) : kJ p l e room_1 s m #[Value.ref b] below meth c cells slots Q 9 D ad 80 (lwA s) G t ((5, .int (nI X)) :: lwB b ad i) [.int r] := by
  obtain ⟨C, -⟩ := K
  have go : ∀ pc, pc = t + 30 → kJ p l e room_1 s m #[Value.ref b] below meth c cells slots Q 9 D ad 80 (lwA s) G pc ((6, .int r) :: (5, .int (nI X)) :: lwB b ad i) [] := by
    rintro pc rfl
    exact k_goto C 1399 d14 hoff (k_sub [2, 3, 4, 5, 6] rfl kont)
  refine k_istore C (lv' := (6, .int r) :: (5, .int (nI X)) :: lwB b ad i) d0 (by decide) rfl ?_
  refine k_aload_n C d1 rfl (j := 4) rfl ?_
  refine k_callVi C (As := []) (rest := []) 73 (m_X7_thrown l D cI cC cZ cB cJ ad 80 G f kp tx fi gr st ty T at0 re 0 0 0 (by decide) hM) gL_law_X7_thrown rfl kd_X7_thrown rfl rfl ⟨Nat.le_of_ble_eq_true rfl, Nat.le_of_ble_eq_true rfl⟩ (by decide) hM.1 rfl rfl rfl (Nat.le_of_ble_eq_true rfl) ⟨hc, hs⟩ d2 (fun r9 G9 h9 => ?_)
  obtain ⟨rfl, rfl⟩ := h9
  refine k_iload C d3 (j := 1) rfl ?_
  refine k_icmp_eq C (t + 13) d4 (by omega) (fun _ => ?_) (fun q => absurd hT q)
  refine k_iload C d5 (j := 1) rfl ?_
  refine k_if_ne C (t + 30) d6 (by omega) (fun q => go _ rfl) (fun q => ?_)
  have hX0 : X = 0 := nI_inj (b := 0) hX (by decide) q
  obtain ⟨hr, hf⟩ := hA hX0
  refine k_aload_n C d7 rfl (j := 5) rfl ?_
  refine k_iconst C (v := 0) d8 (by decide) ?_
  refine k_laldN C 79 4 (by decide) hO rfl 0 rfl (by decide) (by decide) d9 ?_
  refine k_iload C d10 (j := 0) rfl ?_
  refine k_i2l C d11 ?_
  refine k_lcmp C d12 ?_
  refine k_if_eq C (t + 30) d13 (by omega) (fun _ => go _ rfl) (fun q => absurd (by rw [hf, hr]; exact lg_cmp_same _) q)
/-- the law's end, with true -/
theorem kL_end (K : lwC p l s m meth c b L xs D cI cC cZ cB cJ ad) (hQ : Q = lw_Z below #[Value.ref b] s) (hc : cells ≤ 601024) (hs : slots ≤ 7293034) (hdg : decode cL_law pc = .ok (.ireturn, 1)) : kJ p l e room_1 s m #[Value.ref b] below meth c cells slots Q 9 D ad 80 (lwA s) G pc lv [.int 1] := by
  subst hQ
  obtain ⟨C, -⟩ := K
  intro H locs ls hP hS h
  refine va_forget (fun q hq => hS.2.2 q hq) ?_
  refine W.widen (k := 601024) (n := 7293034) hc hs ?_
  exact lw_ret (d0 := s.drawn) (Drawn.sameBut.refl s.drawn lw_cs) C.1.1 C.1.2.1 C.1.2.2.1 C.1.2.2.2.2 hdg
theorem lw_two {v v' : BV} {x x' : TV} {hi hi' : HV} {z0 z1 z0' z1' : ZV} {f kp tx f' kp' tx' : Nat → Int32} {st ty st' ty' X : Nat} {T R R' r1 r2 : Int32} {G1 G2 : Nat → va_E} {fo : Nat → Int64} (h1 : hPost ad cI cB cJ G X R v x hi z0 z1 v' x' hi' z0' z1' r1 G1) (hO : G 79 = .inl (cJ, 1, .inr (.inl fo))) (hT : T = nI X) (hX : X < 2 ^ 31) (hI : Inv v x hi z0 z1 f kp tx st ty) (hN : X = 0 → R = R' ∧ Inv v' x' hi' z0' z1' f' kp' tx' st' ty')
    (h2 : T = 0 → r2 = R' ∧ ∃ fi gr at0 re, isMo ad cI cC cZ G2 f' kp' tx' fi gr st' ty' T at0 re) (h3 : ¬ T = 0 → ∃ fi gr at0 re, isMo ad cI cC cZ G2 f kp tx fi gr st ty T at0 re) (hfr : ∀ j, (j < 73 ∨ 79 ≤ j) → G2 j = G1 j) :
    r1 = nI X ∧ lwV ad cI cC cZ cB cJ G2 ∧ ∃ f9 kp9 tx9 fi9 gr9 st9 ty9 at9 re9 fo9, isMo ad cI cC cZ G2 f9 kp9 tx9 fi9 gr9 st9 ty9 T at9 re9 ∧ G2 79 = .inl (cJ, 1, .inr (.inl fo9)) ∧ (X = 0 → r2 = R ∧ fo9 0 = R.toInt64) := by
  obtain ⟨e1, hc, -⟩ := h1
  refine ⟨e1, ?_⟩
  rcases hc with ⟨hX0, ⟨w', hF⟩, fo9, hO9, hv9⟩ | ⟨hX0, ⟨w', hF⟩, hO9⟩
  · obtain ⟨eR, hI'⟩ := hN hX0
    obtain ⟨er, fi, gr, at0, re, hM⟩ := h2 (by rw [hT, hX0]; rfl)
    have hF2 := hF.keep (G' := G2) (fun j hj => hfr j (Or.inl hj))
    have hO2 := (hfr 79 (Or.inr (by decide))).trans hO9
    exact ⟨⟨v', w', x', hi', z0', z1', f', kp', tx', fi, gr, st', ty', T, at0, re, fo9, hF2, hM, hO2, hI'⟩, f', kp', tx', fi, gr, st', ty', at0, re, fo9, hM, hO2, fun _ => ⟨er.trans eR.symm, hv9⟩⟩
  · obtain ⟨fi, gr, at0, re, hM⟩ := h3 (fun q => hX0 (nI_inj (b := 0) hX (by decide) (hT.symm.trans q)))
    have hF2 := hF.keep (G' := G2) (fun j hj => hfr j (Or.inl hj))
    have hO2 := (hfr 79 (Or.inr (by decide))).trans (hO9.trans hO)
    exact ⟨⟨v, w', x, hi, z0, z1, f, kp, tx, fi, gr, st, ty, T, at0, re, fo, hF2, hM, hO2, hI⟩, f, kp, tx, fi, gr, st, ty, at0, re, fo, hM, hO2, fun q => absurd q hX0⟩
end LW
