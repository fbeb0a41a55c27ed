/-! CONSTRUCTORS: the pool grows at its end; the old cells keep their numbers -/
abbrev bkN : String := "FieldBook$Book"
def kPn (D : va_G) (tys : List (ClassId × FieldType)) (ad : Nat → Nat) (N : Nat) (G : Nat → va_E) (sz : Nat) (av : List Value) : Array Value → State → Prop :=
  va_Pc av (fun U => (U.heap.size = sz ∧ va_P D vwCl (pw ad N G) U.heap ∧ va_K D vwCl tys U ∧ va_D (fun _ => True) (pw ad N G)) ∧ va_AO bkN U)
theorem kPn_blind {D : va_G} {tys : List (ClassId × FieldType)} {ad : Nat → Nat} {N : Nat} {G : Nat → va_E} (sz : Nat) (av : List Value) : FrameBlind (kPn D tys ad N G sz av) := fun a U g mk q => by
  obtain ⟨q0, ⟨q1, qP, qK, qD⟩, qE⟩ := q
  exact ⟨q0, ⟨q1, qP, va_K.moved (u := U) (U := U.calling g mk a) (Vm.Alike.refl U.vm) qK, qD⟩, va_AO.moved (u := U) (U := U.calling g mk a) (Vm.Alike.refl U.vm) qE⟩
def kBn (D : va_G) (N : Nat) (A : Nat → Prop) : (Nat → Nat) × (Nat → va_E) → State → Prop := fun u t => va_P D vwCl (pw u.1 N u.2) t.heap ∧ va_D A (pw u.1 N u.2)
/-- the contract of a method that makes n cells: of the new addresses and contents -/
def kNv (l : Launch) (y : MethodName) (ws : List Cond) (rm : Room) (D : va_G) (tys : List (ClassId × FieldType)) (ad : Nat → Nat) (N : Nat) (G : Nat → va_E) (av : List Value) (N2 mc ms : Nat) (post : (Nat → Nat) → (Nat → va_E) → Prop) : Prop :=
  ∀ sz, Met l y ws rm (kPn D tys ad N G sz av) (va_Qv (fun u => post u.1 u.2) (kBn D N2 (kA ad N sz)) (kA ad N sz)) mc ms (kA ad N sz)
theorem va_RA_inj {U : State} {c1 c2 : ClassId} {ty : FieldType} (h1 : va_RA U c1 ty) (h2 : va_RA U c2 ty) : c1 = c2 := by
  cases ty with
  | object C =>
    obtain ⟨k1, comp1, -, -, -, e1⟩ := h1
    obtain ⟨k2, comp2, -, -, -, e2⟩ := h2
    exact Option.some.inj (e1.symm.trans e2)
  | _ => exact Option.some.inj (Eq.trans (Eq.symm h1) h2)
theorem va_K_last {D : va_G} {cl : List vw_C} {tys : List (ClassId × FieldType)} {U : State} {cA c0 : ClassId} {ty : FieldType} {t0 : Nat} (h : va_K D cl (tys ++ [(cA, ty)]) U) (h0 : va_K D cl tys U) (ht : tys[t0]? = some (c0, ty)) : cA = c0 :=
  va_RA_inj (h.2 tys.length (cA, ty) (by simp)).2 (h0.2 t0 (c0, ty) ht).2
section GN
variable {p : Program} {l : Launch} {e : Env} {R : Room} {s : State} {m : MethodId} {args : Array Value} {below : List Frame} {meth : Method} {c : Code} {cells slots : Nat} {Q : State → Prop}
variable {cc : ByteArray} {ret : Option FieldType} {own : String} {nL : Nat} {Ts : List Cond} {D : va_G} {tys : List (ClassId × FieldType)} {ad : Nat → Nat} {N : Nat} {A : Nat → Prop} {G : Nat → va_E} {pc : Nat} {lv : List (Nat × Value)} {st : List Value}
theorem kC_grow (C : kC p s args m meth c cc ret own nL Ts D tys ad N A) {ad' : Nat → Nat} {N' : Nat} {G' : Nat → va_E} (h : va_D A (pw ad' N' G')) : kC p s args m meth c cc ret own nL Ts D tys ad' N' A := ⟨C.1, C.2.1, C.2.2.1, C.2.2.2.1, pw_D _ h, C.2.2.2.2.2.1, rfl⟩
theorem kn_start {y : MethodName} {ws ws' : List Cond} {rm : Room} {maxL mc ms N2 : Nat} {av : List Value} {lv0 : List (Nat × Value)} {post : (Nat → Nat) → (Nat → va_E) → Prop} (hy : plainName y.cls = true) (hyn : y.name = "<init>") (hw : ws = Cond.code y cc maxL ret :: ws') (hlen : (lg_sl av).length ≤ maxL) (hlv : lv_args 0 av = lv0)
    (body : ∀ (p : Program) (e : Env) (s : State) (m : MethodId) (args : Array Value) (below : List Frame) (meth : Method) (c : Code) (A : Nat → Prop) (Q : State → Prop), kC p s args m meth c cc ret y.cls maxL ws D tys ad N A → meth.name = "<init>" → va_AO bkN s → Q = MQ below (va_Qv (fun u => post u.1 u.2) (kBn D N2 A) A) args s mc ms A → kJ p l e rm s m args below meth c 0 0 Q maxL D ad N A G 0 lv0 []) : kNv l y ws rm D tys ad N G av N2 mc ms post := by
  intro sz
  refine Met.ofW (cc := cc) (maxL := maxL) (ret := ret) hy hw ?_
  intro p e s m args below meth c s₁ B hml hv
  obtain ⟨rfl, ⟨hsz, hP, hK, hD0⟩, hAO⟩ := hv
  have hts := atoms_spec (ws := ws) B.pre
  have hown : s.vm.findClass y.cls = some m.cls := findClass_of_methodNamed B.named
  subst hsz
  have hD : va_D (kA ad N s.heap.size) (pw ad N G) := ⟨hD0.1, fun k q hk => by obtain ⟨h1, rfl⟩ := pw_of hk; exact Or.inl ⟨k, h1, rfl⟩⟩
  have hl := lv_entry av (n := maxL) hlen
  rw [lg_entry_eq]
  rw [hlv] at hl
  exact body p e s m _ below meth c (kA ad N s.heap.size) _ ⟨⟨B.exec, B.bytes, B.returns, hml, B.notSynchronized⟩, hown, hts, hK, pw_D _ hD, fun q h => Or.inr h, rfl⟩ (((name_of_methodNamed B.named B.method).1).trans hyn) hAO rfl _ _ _ hP va_S.rf hl
theorem kn_ret (C : kC p s args m meth c cc ret own nL Ts D tys ad N A) {N2 mc ms : Nat} {post : (Nat → Nat) → (Nat → va_E) → Prop} (hQ : Q = MQ below (va_Qv (fun u => post u.1 u.2) (kBn D N2 A) A) args s mc ms A) (hN : N = N2) (hr : ret = none) (hc : cells ≤ mc) (hs : slots ≤ ms) (hdg : decode cc pc = .ok (.return_, 1)) (hp : post ad G) : kJ p l e R s m args below meth c cells slots Q nL D ad N A G pc lv [] := by
  subst hQ
  subst hN
  exact fun H locs ls hP hS h => W.widen hc hs (W.vret C.1.1 C.1.2.1 (by rw [C.1.2.2.1, hr]) (fun t ht hW => ⟨⟨(ad, G), rfl, hp, by rw [kBn, ht]; exact ⟨hP, pw_D G C.2.2.2.2.1⟩⟩, hS.F ht⟩) hS.2.2 hdg C.1.2.2.2.2)
theorem kn_obj (C : kC p s args m meth c cc ret own nL Ts D tys ad N A) {index a : Nat} (hlink : Cond.methodLink own index objectInit ∈ Ts) (hinst : Cond.instanceMethod objectInit ∈ Ts) (hcode : Cond.code objectInit ⟨#[0xb1]⟩ 1 none ∈ Ts) (hframes : 1 ≤ R.frames) (hlocals : (st.map fun v => v.category).sum + 12 ≤ R.locals) (hdg : decode cc pc = .ok (.invokespecial index, 3)) (kk : kJ p l e R s m args below meth c cells slots Q nL D ad N A G (pc + 3) lv st) : kJ p l e R s m args below meth c cells slots Q nL D ad N A G pc lv (.ref a :: st) := fun H locs ls hP hS h =>
  W.objInit C.1.1 C.1.2.1 C.2.1 (C.2.2.1 _ hlink) (C.2.2.1 _ hinst) (C.2.2.1 _ hcode) rfl (by rw [C.1.2.2.2.1]; exact h.1) rfl hdg hframes (by show 2 * 0 + _ + 12 ≤ _; omega) (kk H locs ls hP hS h)
theorem kn_new (C : kC p s args m meth c cc ret own nL Ts D tys ad N A) {Cn : String} {T : u_T} {Nf ci index : Nat} {fs : List Value} (hin : ∀ w ∈ u_ws Cn T Nf, w ∈ Ts) (ty0 : Nat → FieldType) (hty : ∀ k, k < Nf → parseFieldDescriptor (T k).2.2.1 = some (ty0 k)) (hclk : Cond.classLink own index Cn ∈ Ts) (hinst : Cond.instantiable Cn Nf ∈ Ts) (hini : Cond.initialized Cn ∈ Ts) (hc : vwCl[ci]? = some (Cn, T, Nf)) (hfs : ∀ j, j < Nf → defaultValue (ty0 j) = vp_V fs j) (hcells : cells + 1 ≤ R.cells) (hslots : slots + Nf ≤ R.slots) (hdg : decode cc pc = .ok (.new index, 3))
    (kk : ∀ (ad' : Nat → Nat) (G' : Nat → va_E), (∀ i, i < N → ad' i = ad i) → G' = va_up G N (.inr (ci, fs)) → kC p s args m meth c cc ret own nL Ts D tys ad' (N + 1) A → kJ p l e R s m args below meth c (cells + 1) (slots + Nf) Q nL D ad' (N + 1) A G' (pc + 3) lv (.ref (ad' N) :: st)) : kJ p l e R s m args below meth c cells slots Q nL D ad N A G pc lv st := fun H locs ls hP hS h =>
  va_new C.1.1 C.1.2.1 C.2.2.1 hin ty0 hty C.2.1 (C.2.2.1 _ hclk) (C.2.2.1 _ hinst) (C.2.2.1 _ hini) C.2.2.2.1 hP (pw_D G C.2.2.2.2.1) hS C.2.2.2.2.2.1 hc hfs hcells hslots hdg (fun q H1 hP1 hD1 hS1 => by
    rw [pw_push] at hP1 hD1
    have k9 := kk (va_up ad N q) _ (fun i hi => up_ne (Nat.ne_of_lt hi)) rfl (kC_grow C hD1) H1 locs ls hP1 hS1 h
    rw [up_same] at k9
    exact k9)
theorem kn_newa (C : kC p s args m meth c cc ret own nL Ts D tys ad N A) {atype : ArrayType} {ty : FieldType} {c0 : ClassId} (t0 : Nat) (ht : tys[t0]? = some (c0, ty)) (hty : newarray.typeOf atype = ty) (harr : Cond.arrayClass (newarray.typeOf atype) ∈ Ts) {n : Int32} {N' : Nat} {a0 : vp_A} (ha : ∀ cA : ClassId, vp_cell cA a0 = arrV cA N' (fun _ => defaultValue ty)) (hn : ¬ n < 0) (hN : n.toNatClampNeg = N') (hbytes : N' * componentBytes ty ≤ 536870912) (hcells : cells + 1 ≤ R.cells) (hslots : slots + N' ≤ R.slots) (hdg : decode cc pc = .ok (.newarray atype, 2))
    (kk : ∀ (ad' : Nat → Nat) (G' : Nat → va_E), (∀ i, i < N → ad' i = ad i) → G' = va_up G N (.inl (c0, a0)) → kC p s args m meth c cc ret own nL Ts D tys ad' (N + 1) A → kJ p l e R s m args below meth c (cells + 1) (slots + N') Q nL D ad' (N + 1) A G' (pc + 2) lv (.ref (ad' N) :: st)) : kJ p l e R s m args below meth c cells slots Q nL D ad N A G pc lv (.int n :: st) := fun H locs ls hP hS h =>
  va_newa C.1.1 C.1.2.1 (C.2.2.1 _ harr) hty C.2.2.2.1 hP (pw_D G C.2.2.2.2.1) hS C.2.2.2.2.2.1 ha hn hN hbytes hcells hslots hdg (fun q cA H1 hK1 hP1 hD1 hS1 => by
    have e := va_K_last hK1 C.2.2.2.1 ht
    subst e
    rw [pw_push] at hP1 hD1
    have k9 := kk (va_up ad N q) _ (fun i hi => up_ne (Nat.ne_of_lt hi)) rfl (kC_grow C hD1) H1 locs ls hP1 hS1 h
    rw [up_same] at k9
    exact k9)
theorem kn_newq (C : kC p s args m meth c cc ret own nL Ts D tys ad N A) (hAO : va_AO bkN s) {c0 : ClassId} {index : Nat} (t0 : Nat) (ht : tys[t0]? = some (c0, .object bkN)) (hclk : Cond.classLink own index bkN ∈ Ts) {n : Int32} {N' : Nat} (hn : ¬ n < 0) (hN : n.toNatClampNeg = N') (hbytes : N' * 4 ≤ 536870912) (hcells : cells + 1 ≤ R.cells) (hslots : slots + N' ≤ R.slots) (hdg : decode cc pc = .ok (.anewarray index, 3))
    (kk : ∀ (ad' : Nat → Nat) (G' : Nat → va_E), (∀ i, i < N → ad' i = ad i) → G' = va_up G N (.inl (c0, N', .inr (.inr (.inr (.inr (fun _ => none)))))) → kC p s args m meth c cc ret own nL Ts D tys ad' (N + 1) A → kJ p l e R s m args below meth c (cells + 1) (slots + N') Q nL D ad' (N + 1) A G' (pc + 3) lv (.ref (ad' N) :: st)) : kJ p l e R s m args below meth c cells slots Q nL D ad N A G pc lv (.int n :: st) := fun H locs ls hP hS h =>
  va_newq C.1.1 C.1.2.1 C.2.1 (C.2.2.1 _ hclk) hAO C.2.2.2.1 hP (pw_D G C.2.2.2.2.1) hS C.2.2.2.2.2.1 hn hN hbytes hcells hslots hdg (fun q cA H1 hK1 hP1 hD1 hS1 => by
    have e := va_K_last hK1 C.2.2.2.1 ht
    subst e
    rw [pw_push] at hP1 hD1
    have k9 := kk (va_up ad N q) _ (fun i hi => up_ne (Nat.ne_of_lt hi)) rfl (kC_grow C hD1) H1 locs ls hP1 hS1 h
    rw [up_same] at k9
    exact k9)
theorem kn_astq (C : kC p s args m meth c cc ret own nL Ts D tys ad N A) {cA : ClassId} {Tq : u_T × Nat} {n ci : Nat} {vs : List Value} {f : Nat → Option Nat} {i : Int32} (j jk t0 : Nat) (hj : j < N) (hjk : jk < N) (hG : G j = .inl (cA, n, .inr (.inr (.inr (.inr f))))) (hGk : G jk = .inr (ci, vs)) (hcl : vwCl[ci]? = some (bkN, Tq)) (ht : tys[t0]? = some (cA, .object bkN)) (hin : vp_in i n) (hdg : decode cc pc = .ok (.aastore, 1))
    (kk : ∀ G', G' = va_up G j (.inl (cA, n, .inr (.inr (.inr (.inr (va_up f i.toNatClampNeg (some (ad jk)))))))) → kJ p l e R s m args below meth c cells slots Q nL D ad N A G' (pc + 1) lv st) : kJ p l e R s m args below meth c cells slots Q nL D ad N A G pc lv (.ref (ad jk) :: .int i :: .ref (ad j) :: st) := fun H locs ls hP hS h =>
  va_astq C.1.1 C.1.2.1 C.2.2.2.1 hP (pw_D G C.2.2.2.2.1) hS j t0 jk ci (by rw [pw_get hj, hG]) ht (by rw [pw_get hjk, hGk]) hcl hin hdg (fun H1 locs1 hP1 _ hS1 => kk _ rfl H1 locs1 ls (by rw [pw_set hj] at hP1; exact hP1) hS1 h)
theorem kn_call (C : kC p s args m meth c cc ret own nL Ts D tys ad N A) (hAO : va_AO bkN s) {y : MethodName} {bytes : ByteArray} {maxL n index N2 mcY msY a : Nat} {wsY wsY' : List Cond} {rmY : Room} {As rest : List Value} {post : (Nat → Nat) → (Nat → va_E) → Prop} (hM : kNv l y wsY rmY D tys ad N G (.ref a :: As) N2 mcY msY post) (hT : GoodIn Ts wsY) (hw : wsY = Cond.code y bytes maxL none :: wsY') (hini : Cond.initialized y.cls ∈ Ts) (hl : Cond.methodLink own index y ∈ Ts) (hin0 : Cond.instanceMethod y ∈ Ts) (hy1 : y.name = "<init>") (hd : y.cls ≠ "java/lang/invoke/MethodHandle" ∧ y.cls ≠ "java/lang/invoke/VarHandle" ∧ (parseMethodDescriptor y.desc).map (fun d => d.parameters.length) = some n) (hrc : rmY.cells = mcY) (hrs : rmY.slots = msY) (hR : rmY.frames + 1 ≤ R.frames ∧ 8 + (maxL + 11) + rmY.locals ≤ R.locals) (hn : As.length = n) (hst : st = As.reverse ++ .ref a :: rest) (hcat : (rest.map fun v => v.category).sum ≤ 8) (hf : cells + mcY ≤ R.cells ∧ slots + msY ≤ R.slots) (hdg : decode cc pc = .ok (.invokespecial index, 3))
    (kk : ∀ (ad' : Nat → Nat) (G' : Nat → va_E), post ad' G' → kC p s args m meth c cc ret own nL Ts D tys ad' N2 A → kJ p l e R s m args below meth c (cells + mcY) (slots + msY) Q nL D ad' N2 A G' (pc + 3) lv rest) : kJ p l e R s m args below meth c cells slots Q nL D ad N A G pc lv st := fun H locs ls hP hS h => by
  subst hst
  have hD := pw_D G C.2.2.2.2.1
  have hin := kA_in (G := G) hD C.2.2.2.2.2.1 hS
  exact va_callv (va_runI (As := As) (rest := rest) ⟨C.1.1, C.1.2.1, C.1.2.2.2.1, C.2.1, C.2.2.1⟩ (hM H.size) (cwI n C.2.2.1 hT hw hrc hrs (C.2.2.1 _ hini) (C.2.2.1 _ hl) (C.2.2.1 _ hin0) hy1 hd hR) ⟨kPn_blind _ _, fun U hU hW => ⟨rfl, ⟨by rw [hU], by rw [hU]; exact hP, va_K.moved hW.alike C.2.2.2.1, hD.weaken (fun _ _ _ _ => trivial)⟩, hAO.moved hW.alike⟩⟩ rfl hn h.1 rfl (lv_room hcat) hdg hf) hS (fun q _ z => hin q z) hin (fun u t H1 locs1 ht hvm hw1 hB hz1 hk1 hS1 => kk u.1 u.2 hw1 (kC_grow C (hB.2.weaken (fun _ q _ h9 => hin q.1 h9))) H1 locs1 ls (by have := hB.1; rw [ht] at this; exact this) hS1 h)
end GN
theorem isBk.mv {ad ad' : Nat → Nat} {cI : ClassId} {G G' : Nat → va_E} {b : Nat} {v : BV} (h : isBk ad cI G b v) (ha : ∀ j, b ≤ j → j < b + 7 → ad' j = ad j) (hf : ∀ j, b ≤ j → j < b + 7 → G' j = G j) : isBk ad' cI G' b v := by
  have k := h.keep hf
  unfold isBk at k ⊢
  rw [ha (b + 1) (by omega) (by omega), ha (b + 2) (by omega) (by omega), ha (b + 3) (by omega) (by omega), ha (b + 4) (by omega) (by omega), ha (b + 5) (by omega) (by omega), ha (b + 6) (by omega) (by omega)]
  exact k
theorem isAr.mv {ad ad' : Nat → Nat} {cI : ClassId} {G G' : Nat → va_E} {a : Nat} {v : AV} (h : isAr ad cI G a v) (ha : ∀ j, a ≤ j → j < a + 3 → ad' j = ad j) (hf : ∀ j, a ≤ j → j < a + 3 → G' j = G j) : isAr ad' cI G' a v := by
  unfold isAr at h ⊢
  rw [ha (a + 1) (by omega) (by omega), ha (a + 2) (by omega) (by omega), hf a (by omega) (by omega), hf (a + 1) (by omega) (by omega), hf (a + 2) (by omega) (by omega)]
  exact h
theorem isTx.mv {ad ad' : Nat → Nat} {cI : ClassId} {G G' : Nat → va_E} {x : Nat} {v : TV} (h : isTx ad cI G x v) (ha : ∀ j, x ≤ j → j < x + 2 → ad' j = ad j) (hf : ∀ j, x ≤ j → j < x + 2 → G' j = G j) : isTx ad' cI G' x v := by
  unfold isTx at h ⊢
  rw [ha (x + 1) (by omega) (by omega), hf x (by omega) (by omega), hf (x + 1) (by omega) (by omega)]
  exact h
theorem isHi.mv {ad ad' : Nat → Nat} {cI cB : ClassId} {G G' : Nat → va_E} {h : Nat} {w : HV} (k : isHi ad cI cB G h w) (ha : ∀ j, h ≤ j → j < h + 44 → ad' j = ad j) (hf : ∀ j, h ≤ j → j < h + 44 → G' j = G j) : isHi ad' cI cB G' h w := by
  obtain ⟨h1, ⟨f, h2, h3⟩, h4, h5⟩ := k
  refine ⟨?_, ⟨f, (hf _ (by omega) (by omega)).trans h2, fun i hi => ?_⟩, fun i hi => (h4 i hi).mv (fun j h8 h9 => ha j (by omega) (by omega)) (fun j h8 h9 => hf j (by omega) (by omega)), h5⟩
  · rw [ha (h + 1) (by omega) (by omega), hf h (by omega) (by omega)]; exact h1
  · rw [ha _ (by omega) (by omega)]; exact h3 i hi
theorem isSl.mv {ad ad' : Nat → Nat} {cI : ClassId} {G G' : Nat → va_E} {z : Nat} {w : ZV} (k : isSl ad cI G z w) (ha : ∀ j, z ≤ j → j < z + 8 → ad' j = ad j) (hf : ∀ j, z ≤ j → j < z + 8 → G' j = G j) : isSl ad' cI G' z w := by
  refine ⟨?_, k.2.mv (fun j h8 h9 => ha j (by omega) (by omega)) (fun j h8 h9 => hf j (by omega) (by omega))⟩
  rw [ha (z + 1) (by omega) (by omega), hf z (by omega) (by omega)]; exact k.1
def zF : Nat → Int32 := fun _ => 0
def bk0 : BV := ((0, 0, 0), (false, 5, 10000), (zF, zF, zF))
def ar0 : AV := (zF, zF, 0, 0, 0)
def tx0 : TV := (zF, 0)
def hi0 : HV := (fun _ => bk0, 0, 0)
def sl0 : ZV := (bk0, false)
