/-! METHODS THAT THROW, over the pool: what they need of the start (kEx), their contracts (kXi, kXv), 'new E(text); athrow', their calls -/
def kStrs : List (Nat × String) := [(251, "the price is out of range"), (278, "the race is settled"), (270, "there is no room for one more"), (267, "there is no such number"), (272, "the horse is withdrawn"), (253, "the stake is out of range"), (113, "the buffer tells no arrival of horses that run"), (259, "there is no such setting"), (136, "the value is out of range"), (148, "the code is not 33 to 126"), (155, "the buffer is full"), (262, "there is no such slot"), (181, "there is no snapshot in the slot"), (187, "there is no saved state"), (255, "there is no such property")]
def eIA : String := "java/lang/IllegalArgumentException"
def eIS : String := "java/lang/IllegalStateException"
def eIX : String := "java/lang/IndexOutOfBoundsException"
def kExc : List String := [eIA, eIS, eIX]
abbrev kUp : List String := ["java/lang/RuntimeException", "java/lang/Exception"]
def kSup : List String := ["java/lang/RuntimeException", "java/lang/Exception", Bundle.tN]
def kEx (U : State) (A : Nat → Prop) : Prop :=
  (vx_Zq Bundle.tN "UNASSIGNED_STACK" Bundle.steD A U U.heap ∧ vx_Zq Bundle.tN "SUPPRESSED_SENTINEL" Bundle.listD A U U.heap) ∧
  (∀ q ∈ kStrs, ∃ sa, vk_R RX6 q.1 q.2 sa U) ∧ (∀ E ∈ kExc, va_Nw (.castable E E) U) ∧ (∀ E ∈ kSup, va_Nw (.declares (Bundle.initS E)) U) ∧ (∀ E ∈ kExc, ∀ F ∈ kExc, E ≠ F → va_Nc E F U)
theorem kEx.blind {U : State} {A : Nat → Prop} (g : JFrame) (mk : MethodId) (a : Array Value) (h : kEx U A) : kEx (U.calling g mk a) A := by
  obtain ⟨⟨h1, h2⟩, h3, h4, h5, h6⟩ := h
  exact ⟨⟨vx_Zq.moved (u := U) (U := U.calling g mk a) (Vm.Alike.refl U.vm) h1, vx_Zq.moved (u := U) (U := U.calling g mk a) (Vm.Alike.refl U.vm) h2⟩, fun q hq => by obtain ⟨sa, hsa⟩ := h3 q hq; exact ⟨sa, vk_R.same (u := U) (U := U.calling g mk a) rfl hsa⟩, fun E hE => va_Nw.same (u := U) (U := U.calling g mk a) rfl rfl (h4 E hE), fun E hE => va_Nw.same (u := U) (U := U.calling g mk a) rfl rfl (h5 E hE), fun E hE F hF hn => va_Nc.moved (u := U) (U := U.calling g mk a) (Vm.Alike.refl U.vm) (h6 E hE F hF hn)⟩
theorem kEx.call {s U : State} {A A' : Nat → Prop} {H : Heap} {locs : List Loc} (h : kEx s A) (hS : va_S A s.heap H locs) (hU : U.heap = H) (hW : s.WarmedH U.vm) (hA : ∀ q, A' q → A q) : kEx U A' := by
  obtain ⟨⟨h1, h2⟩, h3, h4, h5, h6⟩ := h
  refine ⟨⟨?_, ?_⟩, fun q hq => ?_, fun E hE => va_Nw.warmC hW (h4 E hE), fun E hE => va_Nw.warmD hW (h5 E hE), fun E hE F hF hn => va_Nc.moved hW.alike (h6 E hE F hF hn)⟩
  · rw [hU]; exact ((vx_Zq.moved hW.alike h1).kept hS.2.1).narrow hA
  · rw [hU]; exact ((vx_Zq.moved hW.alike h2).kept hS.2.1).narrow hA
  · obtain ⟨sa, hsa⟩ := h3 q hq
    exact ⟨sa, vk_R.warm hW hsa⟩
def kPx (D : va_G) (tys : List (ClassId × FieldType)) (ad : Nat → Nat) (N : Nat) (G : Nat → va_E) (sz : Nat) (av : List Value) : Array Value → State → Prop :=
  va_Pc av (fun U => (U.heap.size = sz ∧ va_P D vwCl (pw ad N G) U.heap ∧ va_K D vwCl tys U ∧ va_D (fun _ => True) (pw ad N G)) ∧ kEx U (kA ad N sz))
theorem kPx_blind {D : va_G} {tys : List (ClassId × FieldType)} {ad : Nat → Nat} {N : Nat} {G : Nat → va_E} (sz : Nat) (av : List Value) : FrameBlind (kPx D tys ad N G sz av) := fun a U g mk q => by
  obtain ⟨q0, ⟨q1, qP, qK, qD⟩, qE⟩ := q
  exact ⟨q0, ⟨q1, qP, va_K.moved (u := U) (U := U.calling g mk a) (Vm.Alike.refl U.vm) qK, qD⟩, qE.blind g mk a⟩
/-- where it throws: which class, and the pool then -/
def kXC (D : va_G) (ad : Nat → Nat) (N : Nat) (A : Nat → Prop) (postX : String → (Nat → va_E) → Prop) : String → State → State → Prop := vx_X (fun _ : Nat → va_E => True) (fun E G' t => postX E G' ∧ kB D ad N G' t) A
def kXi (l : Launch) (y : MethodName) (ws : List Cond) (rm : Room) (D : va_G) (tys : List (ClassId × FieldType)) (ad : Nat → Nat) (N : Nat) (G : Nat → va_E) (av : List Value) (mc ms : Nat) (post : Int32 → (Nat → va_E) → Prop) (postX : String → (Nat → va_E) → Prop) : Prop :=
  ∀ sz, vx_Met l y ws rm (kPx D tys ad N G sz av) (va_Qi post (kB D ad N) (kA ad N sz)) (kXC D ad N (kA ad N sz) postX) mc ms (kA ad N sz)
def kXv (l : Launch) (y : MethodName) (ws : List Cond) (rm : Room) (D : va_G) (tys : List (ClassId × FieldType)) (ad : Nat → Nat) (N : Nat) (G : Nat → va_E) (av : List Value) (mc ms : Nat) (post : (Nat → va_E) → Prop) (postX : String → (Nat → va_E) → Prop) : Prop :=
  ∀ sz, vx_Met l y ws rm (kPx D tys ad N G sz av) (va_Qv post (kB D ad N) (kA ad N sz)) (kXC D ad N (kA ad N sz) postX) mc ms (kA ad N sz)
/-- what a method that throws has at hand beside kC -/
def kCX (l : Launch) (s : State) (c : Code) (A : Nat → Prop) : Prop := l.stackTraces = false ∧ kEx s A ∧ ∀ x ∈ c.exceptionTable.toList, False
section GX
variable {p : Program} {l : Launch} {e : Env} {R : Room} {s : State} {m : MethodId} {args : Array Value} {below : List Frame} {meth : Method} {c : Code} {cells slots : Nat} {Q : State → Prop}
variable {cc : ByteArray} {ret : Option FieldType} {own : String} {nL : Nat} {Ts : List Cond} {D : va_G} {tys : List (ClassId × FieldType)} {ad : Nat → Nat} {N : Nat} {A : Nat → Prop} {G : Nat → va_E} {pc : Nat} {lv : List (Nat × Value)} {st : List Value}
variable {mc ms : Nat} {Qc : Array Value → State → Outcome → State → Prop} {postX : String → (Nat → va_E) → Prop}
theorem kx_starti {y : MethodName} {ws ws' : List Cond} {rm : Room} {maxL : Nat} {av : List Value} {lv0 : List (Nat × Value)} {post : Int32 → (Nat → va_E) → Prop} (hl0 : l.stackTraces = false) (hy : plainName y.cls = true) (hw : ws = Cond.code y cc maxL ret :: ws') (hlen : (lg_sl av).length ≤ maxL) (hlv : lv_args 0 av = lv0)
    (body : ∀ (p : Program) (e : Env) (s : State) (m : MethodId) (args : Array Value) (below : List Frame) (meth : Method) (c : Code) (A : Nat → Prop) (Q : State → Prop), kC p s args m meth c cc ret y.cls maxL ws D tys ad N A → kCX l s c A → Q = vx_MQ below (va_Qi post (kB D ad N) A) (kXC D ad N A postX) args s mc ms A → kJ p l e rm s m args below meth c 0 0 Q maxL D ad N A G 0 lv0 []) : kXi l y ws rm D tys ad N G av mc ms post postX := by
  intro sz
  refine vx_ofW (cc := cc) (maxL := maxL) (ret := ret) hy hw ?_
  intro p e s m args below meth c s₁ B hml htab hv
  obtain ⟨rfl, ⟨hsz, hP, hK, hD0⟩, hE⟩ := hv
  have hts := atoms_spec (ws := ws) B.pre
  have hown : s.vm.findClass y.cls = some m.cls := findClass_of_methodNamed B.named
  subst hsz
  have hD : va_D (kA ad N s.heap.size) (pw ad N G) := ⟨hD0.1, fun k q hk => by obtain ⟨h1, rfl⟩ := pw_of hk; exact Or.inl ⟨k, h1, rfl⟩⟩
  have hl := lv_entry av (n := maxL) hlen
  rw [lg_entry_eq]
  rw [hlv] at hl
  exact body p e s m _ below meth c (kA ad N s.heap.size) _ ⟨⟨B.exec, B.bytes, B.returns, hml, B.notSynchronized⟩, hown, hts, hK, pw_D _ hD, fun q h => Or.inr h, rfl⟩ ⟨hl0, hE, htab⟩ rfl _ _ _ hP va_S.rf hl
theorem kx_startv {y : MethodName} {ws ws' : List Cond} {rm : Room} {maxL : Nat} {av : List Value} {lv0 : List (Nat × Value)} {post : (Nat → va_E) → Prop} (hl0 : l.stackTraces = false) (hy : plainName y.cls = true) (hw : ws = Cond.code y cc maxL ret :: ws') (hlen : (lg_sl av).length ≤ maxL) (hlv : lv_args 0 av = lv0)
    (body : ∀ (p : Program) (e : Env) (s : State) (m : MethodId) (args : Array Value) (below : List Frame) (meth : Method) (c : Code) (A : Nat → Prop) (Q : State → Prop), kC p s args m meth c cc ret y.cls maxL ws D tys ad N A → kCX l s c A → Q = vx_MQ below (va_Qv post (kB D ad N) A) (kXC D ad N A postX) args s mc ms A → kJ p l e rm s m args below meth c 0 0 Q maxL D ad N A G 0 lv0 []) : kXv l y ws rm D tys ad N G av mc ms post postX := by
  intro sz
  refine vx_ofW (cc := cc) (maxL := maxL) (ret := ret) hy hw ?_
  intro p e s m args below meth c s₁ B hml htab hv
  obtain ⟨rfl, ⟨hsz, hP, hK, hD0⟩, hE⟩ := hv
  have hts := atoms_spec (ws := ws) B.pre
  have hown : s.vm.findClass y.cls = some m.cls := findClass_of_methodNamed B.named
  subst hsz
  have hD : va_D (kA ad N s.heap.size) (pw ad N G) := ⟨hD0.1, fun k q hk => by obtain ⟨h1, rfl⟩ := pw_of hk; exact Or.inl ⟨k, h1, rfl⟩⟩
  have hl := lv_entry av (n := maxL) hlen
  rw [lg_entry_eq]
  rw [hlv] at hl
  exact body p e s m _ below meth c (kA ad N s.heap.size) _ ⟨⟨B.exec, B.bytes, B.returns, hml, B.notSynchronized⟩, hown, hts, hK, pw_D _ hD, fun q h => Or.inr h, rfl⟩ ⟨hl0, hE, htab⟩ rfl _ _ _ hP va_S.rf hl
theorem kx_iret (C : kC p s args m meth c cc ret own nL Ts D tys ad N A) {post : Int32 → (Nat → va_E) → Prop} {x : Int32} {ty : FieldType} (hQ : Q = vx_MQ below (va_Qi post (kB D ad N) A) (kXC D ad N A postX) args s mc ms A) (hr : ret = some ty) (hn : narrow ty (.int x) = .int x) (hc : cells ≤ mc) (hs : slots ≤ ms) (hdg : decode cc pc = .ok (.ireturn, 1)) (hp : post x G) : kJ p l e R s m args below meth c cells slots Q nL D ad N A G pc lv [.int x] := by
  subst hQ
  exact fun H locs ls hP hS h => W.widen hc hs (vx_ret (W.zret C.1.1 C.1.2.1 (by rw [C.1.2.2.1, hr]) hn (fun t ht hW => ⟨⟨x, G, rfl, hp, by rw [kB, ht]; exact hP⟩, hS.F ht⟩) hS.2.2 hdg C.1.2.2.2.2))
theorem kx_vret (C : kC p s args m meth c cc ret own nL Ts D tys ad N A) {post : (Nat → va_E) → Prop} (hQ : Q = vx_MQ below (va_Qv post (kB D ad N) A) (kXC D ad N A postX) args s mc ms A) (hr : ret = none) (hc : cells ≤ mc) (hs : slots ≤ ms) (hdg : decode cc pc = .ok (.return_, 1)) (hp : post G) : kJ p l e R s m args below meth c cells slots Q nL D ad N A G pc lv [] := by
  subst hQ
  exact fun H locs ls hP hS h => W.widen hc hs (vx_ret (W.vret C.1.1 C.1.2.1 (by rw [C.1.2.2.1, hr]) (fun t ht hW => ⟨⟨G, rfl, hp, by rw [kB, ht]; exact hP⟩, hS.F ht⟩) hS.2.2 hdg C.1.2.2.2.2))
theorem kx_at {E : String} {ic : Nat} (hts : ∀ w ∈ Ts, w.before args s = true) (hE : kEx s A) (hE1 : E ∈ kExc) (hmem : ∀ w ∈ (vx_atS RX6 ic E kUp).filter goodWord, w ∈ Ts) (hB : ∀ w ∈ (vx_atS RX6 ic E kUp).filter (fun w => !goodWord w), w ∈ [Cond.castable E E, .declares (Bundle.initS "java/lang/RuntimeException"), .declares (Bundle.initS "java/lang/Exception"), .declares (Bundle.initS Bundle.tN)]) : ∀ w ∈ vx_atS RX6 ic E kUp, w.before args s = true :=
  vx_hat (fun w hw => hts w (hmem w hw)) hB (vx_c (va_Nw.use rfl (hE.2.2.1 E hE1)) (vx_c (va_Nw.use rfl (hE.2.2.2.1 _ (by decide))) (vx_c (va_Nw.use rfl (hE.2.2.2.1 _ (by decide))) (vx_c (va_Nw.use rfl (hE.2.2.2.1 _ (by decide))) vx_n))))
theorem kx_throwS (C : kC p s args m meth c cc ret RX6 nL Ts D tys ad N A) (X : kCX l s c A) (hQ : Q = vx_MQ below Qc (kXC D ad N A postX) args s mc ms A) {E text : String} {ik is ic : Nat} (hE1 : E ∈ kExc) (hfit : Bundle.fit E = true) (hstr : (is, text) ∈ kStrs) (hk : Cond.classLink RX6 ik E ∈ Ts) (hini : Cond.initialized E ∈ Ts) (hmem : ∀ w ∈ (vx_atS RX6 ic E kUp).filter goodWord, w ∈ Ts) (hB : ∀ w ∈ (vx_atS RX6 ic E kUp).filter (fun w => !goodWord w), w ∈ [Cond.castable E E, .declares (Bundle.initS "java/lang/RuntimeException"), .declares (Bundle.initS "java/lang/Exception"), .declares (Bundle.initS Bundle.tN)]) (hgood : ∀ w ∈ Cond.classLink RX6 ik E :: Cond.initialized E :: vx_atS RX6 ic E kUp, vx_ot w = true)
    (d0 : decode cc pc = .ok (.new ik, 3)) (d3 : decode cc (pc + 3) = .ok (.dup, 1)) (d4 : decode cc (pc + 4) = .ok (.ldc is, 2)) (d6 : decode cc (pc + 6) = .ok (.invokespecial ic, 3)) (d9 : decode cc (pc + 9) = .ok (.athrow, 1)) (hRf : 5 < R.frames) (hRl : (st.map fun v => v.category).sum + 82 ≤ R.locals) (hRc : cells + 1 ≤ R.cells) (hRs : slots + 6 ≤ R.slots) (hc : cells + 1 ≤ mc) (hs : slots + 6 ≤ ms) (hp : postX E G) : kJ p l e R s m args below meth c cells slots Q nL D ad N A G pc lv st := by
  subst hQ
  intro H locs ls hP hS h
  obtain ⟨sa, hsa⟩ := X.2.1.2.1 (is, text) hstr
  exact vx_throwS (names := kUp) (A := A) C.1.1 C.1.2.1 X.1 C.2.1 hfit (by decide) (C.2.2.1 _ hk) (C.2.2.1 _ hini) hsa (kx_at C.2.2.1 X.2.1 hE1 hmem hB) hgood X.2.1.1.1 X.2.1.1.2 hS (h.1.trans C.1.2.2.2.1.symm) d0 d3 d4 d6 d9 (fun x hx => (X.2.2 x hx).elim) hRf hRl hRc hRs C.1.2.2.2.2
    (fun t hA hz hq => ⟨G, trivial, ⟨hp, hP.kept (fun k q hk => hq q.1 (hP k q hk).lt)⟩, ⟨Nat.le_trans hS.1 hz, fun q h1 h2 => (hq q (Nat.lt_of_lt_of_le h1 hS.1)).trans (hS.2.1 q h1 h2)⟩⟩) hS.2.2 hc hs
theorem kx_throwSW (C : kC p s args m meth c cc ret RX6 nL Ts D tys ad N A) (X : kCX l s c A) (hQ : Q = vx_MQ below Qc (kXC D ad N A postX) args s mc ms A) {E text : String} {ik is ic : Nat} (hE1 : E ∈ kExc) (hfit : Bundle.fit E = true) (hstr : (is, text) ∈ kStrs) (hk : Cond.classLink RX6 ik E ∈ Ts) (hini : Cond.initialized E ∈ Ts) (hmem : ∀ w ∈ (vx_atS RX6 ic E kUp).filter goodWord, w ∈ Ts) (hB : ∀ w ∈ (vx_atS RX6 ic E kUp).filter (fun w => !goodWord w), w ∈ [Cond.castable E E, .declares (Bundle.initS "java/lang/RuntimeException"), .declares (Bundle.initS "java/lang/Exception"), .declares (Bundle.initS Bundle.tN)]) (hgood : ∀ w ∈ Cond.classLink RX6 ik E :: Cond.initialized E :: vx_atS RX6 ic E kUp, vx_ot w = true)
    (d0 : decode cc pc = .ok (.new ik, 3)) (d3 : decode cc (pc + 3) = .ok (.dup, 1)) (d4 : decode cc (pc + 4) = .ok (.ldc_w is, 3)) (d6 : decode cc (pc + 7) = .ok (.invokespecial ic, 3)) (d9 : decode cc (pc + 10) = .ok (.athrow, 1)) (hRf : 5 < R.frames) (hRl : (st.map fun v => v.category).sum + 82 ≤ R.locals) (hRc : cells + 1 ≤ R.cells) (hRs : slots + 6 ≤ R.slots) (hc : cells + 1 ≤ mc) (hs : slots + 6 ≤ ms) (hp : postX E G) : kJ p l e R s m args below meth c cells slots Q nL D ad N A G pc lv st := by
  subst hQ
  intro H locs ls hP hS h
  obtain ⟨sa, hsa⟩ := X.2.1.2.1 (is, text) hstr
  exact vx_throwSW (names := kUp) (A := A) C.1.1 C.1.2.1 X.1 C.2.1 hfit (by decide) (C.2.2.1 _ hk) (C.2.2.1 _ hini) hsa (kx_at C.2.2.1 X.2.1 hE1 hmem hB) hgood X.2.1.1.1 X.2.1.1.2 hS (h.1.trans C.1.2.2.2.1.symm) d0 d3 d4 d6 d9 (fun x hx => (X.2.2 x hx).elim) hRf hRl hRc hRs C.1.2.2.2.2
    (fun t hA hz hq => ⟨G, trivial, ⟨hp, hP.kept (fun k q hk => hq q.1 (hP k q hk).lt)⟩, ⟨Nat.le_trans hS.1 hz, fun q h1 h2 => (hq q (Nat.lt_of_lt_of_le h1 hS.1)).trans (hS.2.1 q h1 h2)⟩⟩) hS.2.2 hc hs
theorem kx_callVi (C : kC p s args m meth c cc ret own nL Ts D tys ad N A) (X : kCX l s c A) (hQ : Q = vx_MQ below Qc (kXC D ad N A postX) args s mc ms A) {y : MethodName} {bytes : ByteArray} {maxL n index mcY msY : Nat} {retY : Option FieldType} {wsY wsY' : List Cond} {rmY : Room} {As rest : List Value} {post : Int32 → (Nat → va_E) → Prop} {pxY : String → (Nat → va_E) → Prop} {Cn : String} {Tq : u_T × Nat} {ci : Nat} {fs : List Value} (i : Nat) (hM : kXi l y wsY rmY D tys ad N G (.ref (ad i) :: As) mcY msY post pxY) (hpx : ∀ E G', pxY E G' → postX E G') (hT : GoodIn Ts (wsV own index Cn y wsY)) (hw : wsY = Cond.code y bytes maxL retY :: wsY') (hd : y.cls = Cn ∧ y.cls ≠ "java/lang/invoke/MethodHandle" ∧ y.cls ≠ "java/lang/invoke/VarHandle" ∧ (parseMethodDescriptor y.desc).map (fun d => d.parameters.length) = some n) (hrc : rmY.cells = mcY) (hrs : rmY.slots = msY) (hR : rmY.frames + 1 ≤ R.frames ∧ 8 + (maxL + 11) + rmY.locals ≤ R.locals) (hi : i < N) (hG : G i = .inr (ci, fs)) (hcl : vwCl[ci]? = some (Cn, Tq)) (hn : As.length = n) (hst : st = As.reverse ++ .ref (ad i) :: rest) (hcat : (rest.map fun v => v.category).sum ≤ 8) (hf : cells + mcY ≤ R.cells ∧ slots + msY ≤ R.slots) (hcm : cells + mcY ≤ mc) (hsm : slots + msY ≤ ms) (hdg : decode cc pc = .ok (.invokevirtual index, 3))
    (kk : ∀ (r : Int32) (G' : Nat → va_E), post r G' → kJ p l e R s m args below meth c (cells + mcY) (slots + msY) Q nL D ad N A G' (pc + 3) lv (.int r :: rest)) : kJ p l e R s m args below meth c cells slots Q nL D ad N A G pc lv st := fun H locs ls hP hS h => by
  subst hst
  subst hQ
  have hD := pw_D G C.2.2.2.2.1
  have hin := kA_in (G := G) hD C.2.2.2.2.2.1 hS
  exact vx_calli (vx_runV (As := As) (rest := rest) ⟨C.1.1, C.1.2.1, C.1.2.2.2.1, C.2.1, C.2.2.1⟩ (hM H.size) (cwV n C.2.2.1 hT hw hrc hrs hd hR) ⟨kPx_blind _ _, va_recv C.2.2.2.1 hP (ci := ci) (q0 := i) hcl (by rw [pw_get hi, hG]), fun U hU hW => ⟨rfl, ⟨⟨by rw [hU], by rw [hU]; exact hP, va_K.moved hW.alike C.2.2.2.1, hD.weaken (fun _ _ _ _ => trivial)⟩, X.2.1.call hS hU hW hin⟩⟩⟩ rfl hn h.1 rfl (lv_room hcat) hdg hf) hS (fun q _ z => hin q z) hin (fun q _ z => hin q z) (fun E ce q9 u t H1 locs1 ht hvm _ hB hz1 hk1 hS1 hce hcv hcl => vx_out (fun x hx => (X.2.2 x hx).elim) C.1.2.2.2.2 hce hcv hcl (fun t' ht' hA' => ⟨u, trivial, ⟨hpx E u hB.1, by rw [kB, ht', ← ht]; exact hB.2⟩, hS1.F ht'⟩) hS1.2.2 hcm hsm) (fun r u t H1 locs1 ht hvm hw1 hB hz1 hk1 hS1 => kk r u hw1 H1 locs1 ls (by rw [kB, ht] at hB; exact hB) hS1 h)
theorem kx_callSi (C : kC p s args m meth c cc ret own nL Ts D tys ad N A) (X : kCX l s c A) (hQ : Q = vx_MQ below Qc (kXC D ad N A postX) args s mc ms A) {y : MethodName} {bytes : ByteArray} {maxL n index mcY msY : Nat} {retY : Option FieldType} {wsY wsY' : List Cond} {rmY : Room} {As rest : List Value} {post : Int32 → (Nat → va_E) → Prop} {pxY : String → (Nat → va_E) → Prop} (hM : kXi l y wsY rmY D tys ad N G As mcY msY post pxY) (hpx : ∀ E G', pxY E G' → postX E G') (hT : GoodIn Ts (va_wsS own index y wsY)) (hw : wsY = Cond.code y bytes maxL retY :: wsY') (hd : y.cls ≠ "java/lang/invoke/MethodHandle" ∧ y.cls ≠ "java/lang/invoke/VarHandle" ∧ (parseMethodDescriptor y.desc).map (fun d => d.parameters.length) = some n) (hrc : rmY.cells = mcY) (hrs : rmY.slots = msY) (hR : rmY.frames + 1 ≤ R.frames ∧ 8 + (maxL + 11) + rmY.locals ≤ R.locals) (hn : As.length = n) (hst : st = As.reverse ++ rest) (hcat : (rest.map fun v => v.category).sum ≤ 8) (hf : cells + mcY ≤ R.cells ∧ slots + msY ≤ R.slots) (hcm : cells + mcY ≤ mc) (hsm : slots + msY ≤ ms) (hdg : decode cc pc = .ok (.invokestatic index, 3))
    (kk : ∀ (r : Int32) (G' : Nat → va_E), post r G' → kJ p l e R s m args below meth c (cells + mcY) (slots + msY) Q nL D ad N A G' (pc + 3) lv (.int r :: rest)) : kJ p l e R s m args below meth c cells slots Q nL D ad N A G pc lv st := fun H locs ls hP hS h => by
  subst hst
  subst hQ
  have hD := pw_D G C.2.2.2.2.1
  have hin := kA_in (G := G) hD C.2.2.2.2.2.1 hS
  exact vx_calli (vx_runS (As := As) (rest := rest) ⟨C.1.1, C.1.2.1, C.1.2.2.2.1, C.2.1, C.2.2.1⟩ (hM H.size) (va_cwS n C.2.2.1 hT hw hrc hrs hd hR) ⟨kPx_blind _ _, fun U hU hW => ⟨rfl, ⟨⟨by rw [hU], by rw [hU]; exact hP, va_K.moved hW.alike C.2.2.2.1, hD.weaken (fun _ _ _ _ => trivial)⟩, X.2.1.call hS hU hW hin⟩⟩⟩ rfl hn h.1 rfl (lv_room hcat) hdg hf) hS (fun q _ z => hin q z) hin (fun q _ z => hin q z) (fun E ce q9 u t H1 locs1 ht hvm _ hB hz1 hk1 hS1 hce hcv hcl => vx_out (fun x hx => (X.2.2 x hx).elim) C.1.2.2.2.2 hce hcv hcl (fun t' ht' hA' => ⟨u, trivial, ⟨hpx E u hB.1, by rw [kB, ht', ← ht]; exact hB.2⟩, hS1.F ht'⟩) hS1.2.2 hcm hsm) (fun r u t H1 locs1 ht hvm hw1 hB hz1 hk1 hS1 => kk r u hw1 H1 locs1 ls (by rw [kB, ht] at hB; exact hB) hS1 h)
theorem kx_callVv (C : kC p s args m meth c cc ret own nL Ts D tys ad N A) (X : kCX l s c A) (hQ : Q = vx_MQ below Qc (kXC D ad N A postX) args s mc ms A) {y : MethodName} {bytes : ByteArray} {maxL n index mcY msY : Nat} {retY : Option FieldType} {wsY wsY' : List Cond} {rmY : Room} {As rest : List Value} {post : (Nat → va_E) → Prop} {pxY : String → (Nat → va_E) → Prop} {Cn : String} {Tq : u_T × Nat} {ci : Nat} {fs : List Value} (i : Nat) (hM : kXv l y wsY rmY D tys ad N G (.ref (ad i) :: As) mcY msY post pxY) (hpx : ∀ E G', pxY E G' → postX E G') (hT : GoodIn Ts (wsV own index Cn y wsY)) (hw : wsY = Cond.code y bytes maxL retY :: wsY') (hd : y.cls = Cn ∧ y.cls ≠ "java/lang/invoke/MethodHandle" ∧ y.cls ≠ "java/lang/invoke/VarHandle" ∧ (parseMethodDescriptor y.desc).map (fun d => d.parameters.length) = some n) (hrc : rmY.cells = mcY) (hrs : rmY.slots = msY) (hR : rmY.frames + 1 ≤ R.frames ∧ 8 + (maxL + 11) + rmY.locals ≤ R.locals) (hi : i < N) (hG : G i = .inr (ci, fs)) (hcl : vwCl[ci]? = some (Cn, Tq)) (hn : As.length = n) (hst : st = As.reverse ++ .ref (ad i) :: rest) (hcat : (rest.map fun v => v.category).sum ≤ 8) (hf : cells + mcY ≤ R.cells ∧ slots + msY ≤ R.slots) (hcm : cells + mcY ≤ mc) (hsm : slots + msY ≤ ms) (hdg : decode cc pc = .ok (.invokevirtual index, 3))
    (kk : ∀ G' : Nat → va_E, post G' → kJ p l e R s m args below meth c (cells + mcY) (slots + msY) Q nL D ad N A G' (pc + 3) lv rest) : kJ p l e R s m args below meth c cells slots Q nL D ad N A G pc lv st := fun H locs ls hP hS h => by
  subst hst
  subst hQ
  have hD := pw_D G C.2.2.2.2.1
  have hin := kA_in (G := G) hD C.2.2.2.2.2.1 hS
  exact vx_callv (vx_runV (As := As) (rest := rest) ⟨C.1.1, C.1.2.1, C.1.2.2.2.1, C.2.1, C.2.2.1⟩ (hM H.size) (cwV n C.2.2.1 hT hw hrc hrs hd hR) ⟨kPx_blind _ _, va_recv C.2.2.2.1 hP (ci := ci) (q0 := i) hcl (by rw [pw_get hi, hG]), fun U hU hW => ⟨rfl, ⟨⟨by rw [hU], by rw [hU]; exact hP, va_K.moved hW.alike C.2.2.2.1, hD.weaken (fun _ _ _ _ => trivial)⟩, X.2.1.call hS hU hW hin⟩⟩⟩ rfl hn h.1 rfl (lv_room hcat) hdg hf) hS (fun q _ z => hin q z) hin (fun q _ z => hin q z) (fun E ce q9 u t H1 locs1 ht hvm _ hB hz1 hk1 hS1 hce hcv hcl => vx_out (fun x hx => (X.2.2 x hx).elim) C.1.2.2.2.2 hce hcv hcl (fun t' ht' hA' => ⟨u, trivial, ⟨hpx E u hB.1, by rw [kB, ht', ← ht]; exact hB.2⟩, hS1.F ht'⟩) hS1.2.2 hcm hsm) (fun u t H1 locs1 ht hvm hw1 hB hz1 hk1 hS1 => kk u hw1 H1 locs1 ls (by rw [kB, ht] at hB; exact hB) hS1 h)
theorem kx_callSv (C : kC p s args m meth c cc ret own nL Ts D tys ad N A) (X : kCX l s c A) (hQ : Q = vx_MQ below Qc (kXC D ad N A postX) args s mc ms A) {y : MethodName} {bytes : ByteArray} {maxL n index mcY msY : Nat} {retY : Option FieldType} {wsY wsY' : List Cond} {rmY : Room} {As rest : List Value} {post : (Nat → va_E) → Prop} {pxY : String → (Nat → va_E) → Prop} (hM : kXv l y wsY rmY D tys ad N G As mcY msY post pxY) (hpx : ∀ E G', pxY E G' → postX E G') (hT : GoodIn Ts (va_wsS own index y wsY)) (hw : wsY = Cond.code y bytes maxL retY :: wsY') (hd : y.cls ≠ "java/lang/invoke/MethodHandle" ∧ y.cls ≠ "java/lang/invoke/VarHandle" ∧ (parseMethodDescriptor y.desc).map (fun d => d.parameters.length) = some n) (hrc : rmY.cells = mcY) (hrs : rmY.slots = msY) (hR : rmY.frames + 1 ≤ R.frames ∧ 8 + (maxL + 11) + rmY.locals ≤ R.locals) (hn : As.length = n) (hst : st = As.reverse ++ rest) (hcat : (rest.map fun v => v.category).sum ≤ 8) (hf : cells + mcY ≤ R.cells ∧ slots + msY ≤ R.slots) (hcm : cells + mcY ≤ mc) (hsm : slots + msY ≤ ms) (hdg : decode cc pc = .ok (.invokestatic index, 3))
    (kk : ∀ G' : Nat → va_E, post G' → kJ p l e R s m args below meth c (cells + mcY) (slots + msY) Q nL D ad N A G' (pc + 3) lv rest) : kJ p l e R s m args below meth c cells slots Q nL D ad N A G pc lv st := fun H locs ls hP hS h => by
  subst hst
  subst hQ
  have hD := pw_D G C.2.2.2.2.1
  have hin := kA_in (G := G) hD C.2.2.2.2.2.1 hS
  exact vx_callv (vx_runS (As := As) (rest := rest) ⟨C.1.1, C.1.2.1, C.1.2.2.2.1, C.2.1, C.2.2.1⟩ (hM H.size) (va_cwS n C.2.2.1 hT hw hrc hrs hd hR) ⟨kPx_blind _ _, fun U hU hW => ⟨rfl, ⟨⟨by rw [hU], by rw [hU]; exact hP, va_K.moved hW.alike C.2.2.2.1, hD.weaken (fun _ _ _ _ => trivial)⟩, X.2.1.call hS hU hW hin⟩⟩⟩ rfl hn h.1 rfl (lv_room hcat) hdg hf) hS (fun q _ z => hin q z) hin (fun q _ z => hin q z) (fun E ce q9 u t H1 locs1 ht hvm _ hB hz1 hk1 hS1 hce hcv hcl => vx_out (fun x hx => (X.2.2 x hx).elim) C.1.2.2.2.2 hce hcv hcl (fun t' ht' hA' => ⟨u, trivial, ⟨hpx E u hB.1, by rw [kB, ht', ← ht]; exact hB.2⟩, hS1.F ht'⟩) hS1.2.2 hcm hsm) (fun u t H1 locs1 ht hvm hw1 hB hz1 hk1 hS1 => kk u hw1 H1 locs1 ls (by rw [kB, ht] at hB; exact hB) hS1 h)
end GX
theorem kxB_eIA : ∀ w ∈ (vx_atS RX6 115 eIA kUp).filter (fun w => !goodWord w), w ∈ [Cond.castable eIA eIA, .declares (Bundle.initS "java/lang/RuntimeException"), .declares (Bundle.initS "java/lang/Exception"), .declares (Bundle.initS Bundle.tN)] := by decide +kernel
theorem kxG_eIA : ∀ w ∈ Cond.classLink RX6 111 eIA :: Cond.initialized eIA :: vx_atS RX6 115 eIA kUp, vx_ot w = true := by decide +kernel
theorem kxF_eIA : Bundle.fit eIA = true := by decide +kernel
theorem kxM_eIA : eIA ∈ kExc := by decide +kernel
theorem kxB_eIS : ∀ w ∈ (vx_atS RX6 157 eIS kUp).filter (fun w => !goodWord w), w ∈ [Cond.castable eIS eIS, .declares (Bundle.initS "java/lang/RuntimeException"), .declares (Bundle.initS "java/lang/Exception"), .declares (Bundle.initS Bundle.tN)] := by decide +kernel
theorem kxG_eIS : ∀ w ∈ Cond.classLink RX6 153 eIS :: Cond.initialized eIS :: vx_atS RX6 157 eIS kUp, vx_ot w = true := by decide +kernel
theorem kxF_eIS : Bundle.fit eIS = true := by decide +kernel
theorem kxM_eIS : eIS ∈ kExc := by decide +kernel
theorem kxB_eIX : ∀ w ∈ (vx_atS RX6 261 eIX kUp).filter (fun w => !goodWord w), w ∈ [Cond.castable eIX eIX, .declares (Bundle.initS "java/lang/RuntimeException"), .declares (Bundle.initS "java/lang/Exception"), .declares (Bundle.initS Bundle.tN)] := by decide +kernel
theorem kxG_eIX : ∀ w ∈ Cond.classLink RX6 257 eIX :: Cond.initialized eIX :: vx_atS RX6 261 eIX kUp, vx_ot w = true := by decide +kernel
theorem kxF_eIX : Bundle.fit eIX = true := by decide +kernel
theorem kxM_eIX : eIX ∈ kExc := by decide +kernel
