/-! HELPERS OF THE LAW that catch: kh_start, kh_call (a throw goes to the row of the table that names its class) -/
def kCH (l : Launch) (s : State) (c : Code) (A : Nat → Prop) (hh : List (Nat × Nat × Nat × Nat)) : Prop := l.stackTraces = false ∧ kEx s A ∧ c.exceptionTable.toList = tableOf hh
/-- the row that takes E at pc, and the rows ahead of it, that name other classes -/
def kRow (Ts : List Cond) (own : String) (hh : List (Nat × Nat × Nat × Nat)) (pc : Nat) (E : String) (x : Nat × Nat × Nat × Nat) : Prop :=
  ∃ (pre suf : List (Nat × Nat × Nat × Nat)), hh = pre ++ x :: suf ∧ E ∈ kExc ∧ (∀ z ∈ pre, z.2.2.2 ≠ 0 ∧ ∃ F ∈ kExc, E ≠ F ∧ Cond.classLink own z.2.2.2 F ∈ Ts) ∧ covers ⟨x.1, x.2.1, x.2.2.1, x.2.2.2⟩ pc = true ∧ x.2.2.2 ≠ 0 ∧ Cond.classLink own x.2.2.2 E ∈ Ts
theorem kRow.mk {Ts : List Cond} {own : String} {hh : List (Nat × Nat × Nat × Nat)} {pc : Nat} {E : String} (pre : List (Nat × Nat × Nat × Nat)) (x : Nat × Nat × Nat × Nat) (suf : List (Nat × Nat × Nat × Nat)) (e : hh = pre ++ x :: suf) (hE : E ∈ kExc) (hp : ∀ z ∈ pre, z.2.2.2 ≠ 0 ∧ ∃ F ∈ kExc, E ≠ F ∧ Cond.classLink own z.2.2.2 F ∈ Ts) (hc : covers ⟨x.1, x.2.1, x.2.2.1, x.2.2.2⟩ pc = true) (h0 : x.2.2.2 ≠ 0) (hl : Cond.classLink own x.2.2.2 E ∈ Ts) : kRow Ts own hh pc E x := ⟨pre, suf, e, hE, hp, hc, h0, hl⟩
section GH
variable {p : Program} {l : Launch} {e : Env} {R : Room} {s : State} {m : MethodId} {args : Array Value} {below : List Frame} {meth : Method} {c : Code} {cells slots : Nat} {Q : State → Prop}
variable {cc : ByteArray} {ret : Option FieldType} {own : String} {nL : Nat} {Ts : List Cond} {D : va_G} {tys : List (ClassId × FieldType)} {ad : Nat → Nat} {N : Nat} {A : Nat → Prop} {G : Nat → va_E} {pc : Nat} {lv : List (Nat × Value)} {st : List Value}
variable {mc ms : Nat} {hh : List (Nat × Nat × Nat × Nat)}
theorem kh_start {y : MethodName} {ws ws' : List Cond} {rm : Room} {maxL : Nat} {av : List Value} {lv0 : List (Nat × Value)} {post : Int32 → (Nat → va_E) → Prop} (hl0 : l.stackTraces = false) (hy : plainName y.cls = true) (hw : ws = Cond.codeWith y cc maxL ret hh :: ws') (hlen : (lg_sl av).length ≤ maxL) (hlv : lv_args 0 av = lv0)
    (body : ∀ (p : Program) (e : Env) (s : State) (m : MethodId) (args : Array Value) (below : List Frame) (meth : Method) (c : Code) (A : Nat → Prop) (Q : State → Prop), kC p s args m meth c cc ret y.cls maxL ws D tys ad N A → kCH l s c A hh → Q = vx_MQ below (va_Qi post (kB D ad N) A) (kXC D ad N A (fun _ _ => False)) args s mc ms A → kJ p l e rm s m args below meth c 0 0 Q maxL D ad N A G 0 lv0 []) : kXi l y ws rm D tys ad N G av mc ms post (fun _ _ => False) := by
  intro sz
  refine vx_ofWH (cc := cc) (maxL := maxL) (ret := ret) (hh := hh) hy hw ?_
  intro p e s m args below meth c s₁ B hml hv
  obtain ⟨rfl, ⟨hsz, hP, hK, hD0⟩, hE⟩ := hv
  have hts := atoms_spec (ws := ws) B.pre
  have htab : c.exceptionTable.toList = tableOf hh := vx_table (x := y) B (hts _ (by rw [hw]; exact List.mem_cons_self))
  have hown : s.vm.findClass y.cls = some m.cls := findClass_of_methodNamed B.named
  subst hsz
  have hD : va_D (kA ad N s.heap.size) (pw ad N G) := ⟨hD0.1, fun k q hk => by obtain ⟨h1, rfl⟩ := pw_of hk; exact Or.inl ⟨k, h1, rfl⟩⟩
  have hl := lv_entry av (n := maxL) hlen
  rw [lg_entry_eq]
  rw [hlv] at hl
  exact body p e s m _ below meth c (kA ad N s.heap.size) _ ⟨⟨B.exec, B.bytes, B.returns, hml, B.notSynchronized⟩, hown, hts, hK, pw_D _ hD, fun q h => Or.inr h, rfl⟩ ⟨hl0, hE, htab⟩ rfl _ _ _ hP va_S.rf hl
theorem kh_iret (C : kC p s args m meth c cc ret own nL Ts D tys ad N A) {post : Int32 → (Nat → va_E) → Prop} {postX : String → (Nat → va_E) → Prop} {x : Int32} {ty : FieldType} (hQ : Q = vx_MQ below (va_Qi post (kB D ad N) A) (kXC D ad N A postX) args s mc ms A) (hr : ret = some ty) (hn : narrow ty (.int x) = .int x) (hc : cells ≤ mc) (hs : slots ≤ ms) (hdg : decode cc pc = .ok (.ireturn, 1)) (hp : post x G) : kJ p l e R s m args below meth c cells slots Q nL D ad N A G pc lv [.int x] :=
  kx_iret C hQ hr hn hc hs hdg hp
theorem kh_call (C : kC p s args m meth c cc ret own nL Ts D tys ad N A) (X : kCH l s c A hh) {y : MethodName} {bytes : ByteArray} {maxL n index mcY msY : Nat} {retY : Option FieldType} {wsY wsY' : List Cond} {rmY : Room} {As rest : List Value} {post : Int32 → (Nat → va_E) → Prop} {pxY : String → (Nat → va_E) → Prop} {Cn : String} {Tq : u_T × Nat} {ci : Nat} {fs : List Value} (i : Nat) (hM : kXi l y wsY rmY D tys ad N G (.ref (ad i) :: As) mcY msY post pxY)
    (hx : ∀ E G', pxY E G' → ∃ x, kRow Ts own hh pc E x ∧ ∀ q, kJ p l e R s m args below meth c (cells + mcY) (slots + msY) Q nL D ad N A G' x.2.2.1 lv [.ref q])
    (hT : GoodIn Ts (wsV own index Cn y wsY)) (hw : wsY = Cond.code y bytes maxL retY :: wsY') (hd : y.cls = Cn ∧ y.cls ≠ "java/lang/invoke/MethodHandle" ∧ y.cls ≠ "java/lang/invoke/VarHandle" ∧ (parseMethodDescriptor y.desc).map (fun d => d.parameters.length) = some n) (hrc : rmY.cells = mcY) (hrs : rmY.slots = msY) (hR : rmY.frames + 1 ≤ R.frames ∧ 8 + (maxL + 11) + rmY.locals ≤ R.locals) (hi : i < N) (hG : G i = .inr (ci, fs)) (hcl : vwCl[ci]? = some (Cn, Tq)) (hn : As.length = n) (hst : st = As.reverse ++ .ref (ad i) :: rest) (hcat : (rest.map fun v => v.category).sum ≤ 8) (hf : cells + mcY ≤ R.cells ∧ slots + msY ≤ R.slots) (hdg : decode cc pc = .ok (.invokevirtual index, 3))
    (kk : ∀ (r : Int32) (G' : Nat → va_E), post r G' → kJ p l e R s m args below meth c (cells + mcY) (slots + msY) Q nL D ad N A G' (pc + 3) lv (.int r :: rest)) : kJ p l e R s m args below meth c cells slots Q nL D ad N A G pc lv st := fun H locs ls hP hS h => by
  subst hst
  have hD := pw_D G C.2.2.2.2.1
  have hin := kA_in (G := G) hD C.2.2.2.2.2.1 hS
  refine vx_calli (vx_runV (As := As) (rest := rest) ⟨C.1.1, C.1.2.1, C.1.2.2.2.1, C.2.1, C.2.2.1⟩ (hM H.size) (cwV n C.2.2.1 hT hw hrc hrs hd hR) ⟨kPx_blind _ _, va_recv C.2.2.2.1 hP (ci := ci) (q0 := i) hcl (by rw [pw_get hi, hG]), fun U hU hW => ⟨rfl, ⟨⟨by rw [hU], by rw [hU]; exact hP, va_K.moved hW.alike C.2.2.2.1, hD.weaken (fun _ _ _ _ => trivial)⟩, X.2.1.call hS hU hW hin⟩⟩⟩ rfl hn h.1 rfl (lv_room hcat) hdg hf) hS (fun q _ z => hin q z) hin (fun q _ z => hin q z) (fun E ce q9 u t H1 locs1 ht hvm _ hB hz1 hk1 hS1 hce hcv hcl9 => ?_) (fun r u t H1 locs1 ht hvm hw1 hB hz1 hk1 hS1 => kk r u hw1 H1 locs1 ls (by rw [kB, ht] at hB; exact hB) hS1 h)
  obtain ⟨x, ⟨pre, suf, e1, hE, hpre, hcov, h0, hlk⟩, k9⟩ := hx E u hB.1
  have hP1 : va_P D vwCl (pw ad N u) H1 := by have := hB.2; rw [kB, ht] at this; exact this
  refine vx_catch (own := own) (name := E) (E := E) (pc := pc) C.2.1 (tableOf pre) ⟨x.1, x.2.1, x.2.2.1, x.2.2.2⟩ (tableOf suf) (by rw [X.2.2, e1]; simp [tableOf]) (fun z hz => ?_) hcov h0 (C.2.2.1 _ hlk) (va_Nw.use rfl (X.2.1.2.2.1 E hE)) hce hcv hcl9 (k9 q9 H1 locs1 ls hP1 hS1 h)
  obtain ⟨z', hz', rfl⟩ := List.mem_map.mp hz
  obtain ⟨n0, F, hF, hEF, hlF⟩ := hpre z' hz'
  exact Or.inr ⟨n0, F, C.2.2.1 _ hlF, X.2.1.2.2.2.2 E hE F hF hEF⟩
/-- the law calls a helper -/
theorem kh_callS (C : kC p s args m meth c cc ret own nL Ts D tys ad N A) (X : kEx s A) {y : MethodName} {bytes : ByteArray} {maxL n index mcY msY : Nat} {retY : Option FieldType} {wsY wsY' : List Cond} {rmY : Room} {As rest : List Value} {post : Int32 → (Nat → va_E) → Prop} (hM : kXi l y wsY rmY D tys ad N G As mcY msY post (fun _ _ => False)) (hT : GoodIn Ts (va_wsS own index y wsY)) (hw : wsY = Cond.codeWith y bytes maxL retY hh :: wsY') (hd : y.cls ≠ "java/lang/invoke/MethodHandle" ∧ y.cls ≠ "java/lang/invoke/VarHandle" ∧ (parseMethodDescriptor y.desc).map (fun d => d.parameters.length) = some n) (hrc : rmY.cells = mcY) (hrs : rmY.slots = msY) (hR : rmY.frames + 1 ≤ R.frames ∧ 8 + (maxL + 11) + rmY.locals ≤ R.locals) (hn : As.length = n) (hst : st = As.reverse ++ rest) (hcat : (rest.map fun v => v.category).sum ≤ 8) (hf : cells + mcY ≤ R.cells ∧ slots + msY ≤ R.slots) (hdg : decode cc pc = .ok (.invokestatic index, 3))
    (kk : ∀ (r : Int32) (G' : Nat → va_E), post r G' → kJ p l e R s m args below meth c (cells + mcY) (slots + msY) Q nL D ad N A G' (pc + 3) lv (.int r :: rest)) : kJ p l e R s m args below meth c cells slots Q nL D ad N A G pc lv st := fun H locs ls hP hS h => by
  subst hst
  have hD := pw_D G C.2.2.2.2.1
  have hin := kA_in (G := G) hD C.2.2.2.2.2.1 hS
  exact vx_calli (vx_runSX (As := As) (rest := rest) ⟨C.1.1, C.1.2.1, C.1.2.2.2.1, C.2.1, C.2.2.1⟩ (hM H.size) (vx_cwSW n C.2.2.1 hT hw hrc hrs hd hR) ⟨kPx_blind _ _, fun U hU hW => ⟨rfl, ⟨⟨by rw [hU], by rw [hU]; exact hP, va_K.moved hW.alike C.2.2.2.1, hD.weaken (fun _ _ _ _ => trivial)⟩, X.call hS hU hW hin⟩⟩⟩ rfl hn h.1 rfl (lv_room hcat) hdg hf) hS (fun q _ z => hin q z) hin (fun q _ z => hin q z) (fun E ce q9 u t H1 locs1 ht hvm _ hB hz1 hk1 hS1 hce hcv hcl => hB.1.elim) (fun r u t H1 locs1 ht hvm hw1 hB hz1 hk1 hS1 => kk r u hw1 H1 locs1 ls (by rw [kB, ht] at hB; exact hB) hS1 h)
end GH
