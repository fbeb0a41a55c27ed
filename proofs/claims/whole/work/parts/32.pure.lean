/-! PURE: tables as rows of numbers -/
theorem tIn_at {len C n r c : Nat} (hr : r < n) (hc : c < C) (hl : n * C ≤ len) (hb : len < 2 ^ 31) : tIn len (nI C) (nI n) (nI r) (nI c) = true := by
  have hC0 : 0 < C := by omega
  have hn : n ≤ n * C := Nat.le_mul_of_pos_right n hC0
  have hm : (r + 1) * C ≤ n * C := Nat.mul_le_mul_right C hr
  have hm2 : (r + 1) * C = r * C + C := Nat.succ_mul r C
  have hCn : C ≤ n * C := Nat.le_mul_of_pos_left C (by omega)
  have h1 : ¬ nI r < 0 := nI_pos (by omega)
  have h2 : ¬ nI n ≤ nI r := nI_ge hr (by omega)
  have h3 : ¬ nI c < 0 := nI_pos (by omega)
  have h4 : ¬ nI C ≤ nI c := nI_ge hc (by omega)
  have h5 : nI r * nI C + nI c = nI (r * C + c) := by rw [pk_mul, nI_add]
  have h6 : ¬ nI (r * C + c) < 0 := nI_pos (by omega)
  have h7 : ¬ nI len ≤ nI (r * C + c) := nI_ge (by omega) (by omega)
  simp [tIn, h1, h2, h3, h4, h5, h6, h7]
theorem tC_at {f : Nat → Int32} {len C n r c : Nat} (hr : r < n) (hc : c < C) (hl : n * C ≤ len) (hb : len < 2 ^ 31) : tC f len (nI C) (nI n) (nI r) (nI c) = f (r * C + c) := by
  have hC0 : 0 < C := by omega
  have hm : (r + 1) * C ≤ n * C := Nat.mul_le_mul_right C hr
  have hm2 : (r + 1) * C = r * C + C := Nat.succ_mul r C
  rw [tC, if_pos (tIn_at hr hc hl hb), show nI r * nI C + nI c = nI (r * C + c) by rw [pk_mul, nI_add], nI_clamp (by omega)]
theorem tC_out {f : Nat → Int32} {len n r : Nat} {cols c : Int32} (hr : n ≤ r) (hb : r < 2 ^ 31) : tC f len cols (nI n) (nI r) c = 0 := by
  rw [tC, if_neg]
  have h2 : nI n ≤ nI r := nI_le hr hb
  simp [tIn, h2]
theorem tP_at {f : Nat → Int32} {len C n r c : Nat} {x : Int32} (hr : r < n) (hc : c < C) (hl : n * C ≤ len) (hb : len < 2 ^ 31) : tP f len (nI C) (nI n) (nI r) (nI c) x = upd f (r * C + c) x := by
  have hC0 : 0 < C := by omega
  have hm : (r + 1) * C ≤ n * C := Nat.mul_le_mul_right C hr
  have hm2 : (r + 1) * C = r * C + C := Nat.succ_mul r C
  rw [tP, if_pos (tIn_at hr hc hl hb), show nI r * nI C + nI c = nI (r * C + c) by rw [pk_mul, nI_add], nI_clamp (by omega)]
theorem row_inj {C r c r' c' : Nat} (hc : c < C) (hc' : c' < C) (h : r' * C + c' = r * C + c) : r' = r ∧ c' = c := by
  have e1 : (r' * C + c') / C = r' := by rw [Nat.mul_comm, Nat.mul_add_div (by omega), Nat.div_eq_of_lt hc']; rfl
  have e2 : (r * C + c) / C = r := by rw [Nat.mul_comm, Nat.mul_add_div (by omega), Nat.div_eq_of_lt hc]; rfl
  have e : r' = r := by rw [← e1, ← e2, h]
  subst e
  exact ⟨rfl, by omega⟩
theorem tC_tP {f : Nat → Int32} {len C n r c r' c' : Nat} {x : Int32} (hr : r < n) (hc : c < C) (hc' : c' < C) (hl : n * C ≤ len) (hb : len < 2 ^ 31) (hr' : r' < 2 ^ 31) :
    tC (tP f len (nI C) (nI n) (nI r) (nI c) x) len (nI C) (nI n) (nI r') (nI c') = if r' = r ∧ c' = c then x else tC f len (nI C) (nI n) (nI r') (nI c') := by
  rcases Nat.lt_or_ge r' n with h | h
  · rw [tP_at hr hc hl hb, tC_at h hc' hl hb, tC_at h hc' hl hb]
    by_cases e : r' = r ∧ c' = c
    · rw [if_pos e, e.1, e.2, pk_us]
    · rw [if_neg e, pk_un (fun q => e (row_inj hc hc' q))]
  · rw [tC_out h hr', tC_out h hr', if_neg (by omega)]
theorem tC_tZ {f : Nat → Int32} {len C n r' c' : Nat} (hc' : c' < C) (hl : (n + 1) * C ≤ len) (hb : len < 2 ^ 31) (hr' : r' < 2 ^ 31) : ∀ i, i ≤ C →
    tC (tZ f len (nI C) (nI (n + 1)) (nI n) i) len (nI C) (nI (n + 1)) (nI r') (nI c') = if r' = n ∧ c' < i then 0 else tC f len (nI C) (nI (n + 1)) (nI r') (nI c')
  | 0, _ => by rw [if_neg (by omega)]; rfl
  | i + 1, hi => by
    rw [tZ, tC_tP (Nat.lt_succ_self n) (by omega) hc' hl hb hr', tC_tZ hc' hl hb hr' i (by omega)]
    by_cases e : r' = n ∧ c' = i
    · rw [if_pos e, if_pos (by omega)]
    · rw [if_neg e]
      by_cases e2 : r' = n ∧ c' < i
      · rw [if_pos e2, if_pos (by omega)]
      · rw [if_neg e2, if_neg (by omega)]
theorem tC_more {f : Nat → Int32} {len C n r c : Nat} (hr : r ≠ n) (hc : c < C) (hl : (n + 1) * C ≤ len) (hb : len < 2 ^ 31) (hr' : r < 2 ^ 31) : tC f len (nI C) (nI (n + 1)) (nI r) (nI c) = tC f len (nI C) (nI n) (nI r) (nI c) := by
  have hs : (n + 1) * C = n * C + C := Nat.succ_mul n C
  rcases Nat.lt_or_ge r n with h | h
  · rw [tC_at (by omega) hc hl hb, tC_at h hc (by omega) hb]
  · rw [tC_out (by omega) hr', tC_out h hr']
/-- a new row, all 0 -/
theorem tC_row {f : Nat → Int32} {len C n r c : Nat} (hc : c < C) (hl : (n + 1) * C ≤ len) (hb : len < 2 ^ 31) (hr' : r < 2 ^ 31) :
    tC (tZ f len (nI C) (nI (n + 1)) (nI n) C) len (nI C) (nI (n + 1)) (nI r) (nI c) = if r = n then 0 else tC f len (nI C) (nI n) (nI r) (nI c) := by
  rw [tC_tZ hc hl hb hr' C (Nat.le_refl _)]
  by_cases e : r = n
  · rw [if_pos ⟨e, hc⟩, if_pos e]
  · rw [if_neg (fun q => e q.1), if_neg e, tC_more e hc hl hb hr']
/-! the class's book, read by natural numbers -/
abbrev hA (v : BV) (r c : Nat) : Int32 := hC v (nI r) (nI c)
abbrev bA (v : BV) (r c : Nat) : Int32 := bC v (nI r) (nI c)
abbrev lA (v : BV) (r c : Nat) : Int32 := lC v (nI r) (nI c)
theorem hA_put (v : BV) {r c r' c' : Nat} {x : Int32} (hn : bnH v ≤ 10) (hr : r < bnH v) (hc : c < 9) (hr' : r' < 2 ^ 31) (hc' : c' < 9) : hA (hPut v (nI r) (nI c) x) r' c' = if r' = r ∧ c' = c then x else hA v r' c' :=
  tC_tP (C := 9) hr hc hc' (show bnH v * 9 ≤ 90 by omega) (by decide) hr'
theorem bA_put (v : BV) {r c r' c' : Nat} {x : Int32} (hn : bnB v ≤ 24) (hr : r < bnB v) (hc : c < 8) (hr' : r' < 2 ^ 31) (hc' : c' < 8) : bA (bPut v (nI r) (nI c) x) r' c' = if r' = r ∧ c' = c then x else bA v r' c' :=
  tC_tP (C := 8) hr hc hc' (show bnB v * 8 ≤ 192 by omega) (by decide) hr'
theorem lA_put (v : BV) {r c r' c' : Nat} {x : Int32} (hn : bnL v ≤ 6) (hr : r < bnL v) (hc : c < 5) (hr' : r' < 2 ^ 31) (hc' : c' < 5) : lA (lPut v (nI r) (nI c) x) r' c' = if r' = r ∧ c' = c then x else lA v r' c' :=
  tC_tP (C := 5) hr hc hc' (show bnL v * 5 ≤ 30 by omega) (by decide) hr'
theorem hA_new (v : BV) {r c : Nat} (hn : bnH v < 10) (hr' : r < 2 ^ 31) (hc : c < 9) : hA (hNew v) r c = if r = bnH v then 0 else hA v r c := tC_row (C := 9) hc (show (bnH v + 1) * 9 ≤ 90 by omega) (by decide) hr'
theorem bA_new (v : BV) {r c : Nat} (hn : bnB v < 24) (hr' : r < 2 ^ 31) (hc : c < 8) : bA (bNew v) r c = if r = bnB v then 0 else bA v r c := tC_row (C := 8) hc (show (bnB v + 1) * 8 ≤ 192 by omega) (by decide) hr'
theorem lA_new (v : BV) {r c : Nat} (hn : bnL v < 6) (hr' : r < 2 ^ 31) (hc : c < 5) : lA (lNew v) r c = if r = bnL v then 0 else lA v r c := tC_row (C := 5) hc (show (bnL v + 1) * 5 ≤ 30 by omega) (by decide) hr'
theorem hA_out (v : BV) {r c : Nat} (h : bnH v ≤ r) (hr : r < 2 ^ 31) : hA v r c = 0 := tC_out h hr
theorem bA_out (v : BV) {r c : Nat} (h : bnB v ≤ r) (hr : r < 2 ^ 31) : bA v r c = 0 := tC_out h hr
theorem lA_out (v : BV) {r c : Nat} (h : bnL v ≤ r) (hr : r < 2 ^ 31) : lA v r c = 0 := tC_out h hr
/-- bets on a horse, and their stakes, of the first i bets -/
def vBo (v : BV) (h : Nat) : Nat → Int32
  | 0 => 0
  | i + 1 => vBo v h i + (if bA v i 0 = nI h then 1 else 0)
def vSt (v : BV) (h : Nat) (pl : Bool) : Nat → Int32
  | 0 => 0
  | i + 1 => vSt v h pl i + (if bA v i 0 = nI h then bA v i 1 * (if pl = true then bA v i 2 else 1) else 0)
def isN (x : Int32) (lo hi : Nat) : Prop := ∃ n, lo ≤ n ∧ n ≤ hi ∧ x = nI n
def OkB (v : BV) (k : Nat) : Prop :=
  (∃ j, j < bnH v ∧ bA v k 0 = nI j) ∧
  (isN (bA v k 1) 1 9999) ∧
  (isN (bA v k 2) 0 1) ∧
  (isN (bA v k 3) 1 100) ∧
  (isN (bA v k 4) 1 20) ∧
  (isN (bA v k 5) 0 90)
theorem OkB.h {v : BV} {k : Nat} (h9 : OkB v k) : ∃ j, j < bnH v ∧ bA v k 0 = nI j := h9.1
theorem OkB.s {v : BV} {k : Nat} (h9 : OkB v k) : isN (bA v k 1) 1 9999 := h9.2.1
theorem OkB.w {v : BV} {k : Nat} (h9 : OkB v k) : isN (bA v k 2) 0 1 := h9.2.2.1
theorem OkB.a {v : BV} {k : Nat} (h9 : OkB v k) : isN (bA v k 3) 1 100 := h9.2.2.2.1
theorem OkB.b {v : BV} {k : Nat} (h9 : OkB v k) : isN (bA v k 4) 1 20 := h9.2.2.2.2.1
theorem OkB.q {v : BV} {k : Nat} (h9 : OkB v k) : isN (bA v k 5) 0 90 := h9.2.2.2.2.2
def OkL (v : BV) (k : Nat) : Prop :=
  (∃ j, j < bnH v ∧ lA v k 0 = nI j) ∧
  (isN (lA v k 1) 1 9999) ∧
  (isN (lA v k 2) 1 100) ∧
  (isN (lA v k 3) 1 20)
theorem OkL.h {v : BV} {k : Nat} (h9 : OkL v k) : ∃ j, j < bnH v ∧ lA v k 0 = nI j := h9.1
theorem OkL.s {v : BV} {k : Nat} (h9 : OkL v k) : isN (lA v k 1) 1 9999 := h9.2.1
theorem OkL.a {v : BV} {k : Nat} (h9 : OkL v k) : isN (lA v k 2) 1 100 := h9.2.2.1
theorem OkL.b {v : BV} {k : Nat} (h9 : OkL v k) : isN (lA v k 3) 1 20 := h9.2.2.2
def OkH (v : BV) (i : Nat) : Prop :=
  (isN (hA v i 0) 1 100) ∧
  (isN (hA v i 1) 1 20) ∧
  (isN (hA v i 2) 0 1) ∧
  (hA v i 4 = vBo v i (bnB v)) ∧
  (hA v i 5 = vSt v i false (bnB v)) ∧
  (hA v i 6 = vSt v i true (bnB v))
theorem OkH.a {v : BV} {i : Nat} (h9 : OkH v i) : isN (hA v i 0) 1 100 := h9.1
theorem OkH.b {v : BV} {i : Nat} (h9 : OkH v i) : isN (hA v i 1) 1 20 := h9.2.1
theorem OkH.r {v : BV} {i : Nat} (h9 : OkH v i) : isN (hA v i 2) 0 1 := h9.2.2.1
theorem OkH.n {v : BV} {i : Nat} (h9 : OkH v i) : hA v i 4 = vBo v i (bnB v) := h9.2.2.2.1
theorem OkH.s {v : BV} {i : Nat} (h9 : OkH v i) : hA v i 5 = vSt v i false (bnB v) := h9.2.2.2.2.1
theorem OkH.p {v : BV} {i : Nat} (h9 : OkH v i) : hA v i 6 = vSt v i true (bnB v) := h9.2.2.2.2.2
def Ok (v : BV) : Prop :=
  (bnH v ≤ 10) ∧
  (bnB v ≤ 24) ∧
  (bnL v ≤ 6) ∧
  (∀ i, i < bnH v → OkH v i) ∧
  (∀ k, k < bnB v → OkB v k) ∧
  (∀ k, k < bnL v → OkL v k) ∧
  (bvP v = 4 ∨ bvP v = 5) ∧
  (isN (bvO v) 0 99999)
theorem Ok.nH {v : BV} (h9 : Ok v) : bnH v ≤ 10 := h9.1
theorem Ok.nB {v : BV} (h9 : Ok v) : bnB v ≤ 24 := h9.2.1
theorem Ok.nL {v : BV} (h9 : Ok v) : bnL v ≤ 6 := h9.2.2.1
theorem Ok.H {v : BV} (h9 : Ok v) : ∀ i, i < bnH v → OkH v i := h9.2.2.2.1
theorem Ok.B {v : BV} (h9 : Ok v) : ∀ k, k < bnB v → OkB v k := h9.2.2.2.2.1
theorem Ok.L {v : BV} (h9 : Ok v) : ∀ k, k < bnL v → OkL v k := h9.2.2.2.2.2.1
theorem Ok.P {v : BV} (h9 : Ok v) : bvP v = 4 ∨ bvP v = 5 := h9.2.2.2.2.2.2.1
theorem Ok.O {v : BV} (h9 : Ok v) : isN (bvO v) 0 99999 := h9.2.2.2.2.2.2.2
/-- a slot of the model's row and a book of the class tell the same -/
def Rel (g : Nat → Int32) (v : BV) : Prop :=
  (g 0 = nI (bnH v)) ∧
  (g 1 = nI (bnB v)) ∧
  (g 2 = nI (bnL v)) ∧
  (g 3 = bI (bvS v)) ∧
  (g 4 = bvP v) ∧
  (g 5 = bvO v) ∧
  (∀ i, i < 10 → g (6 + i) = hA v i 0) ∧
  (∀ i, i < 10 → g (16 + i) = hA v i 1) ∧
  (∀ i, i < 10 → g (26 + i) = hA v i 2) ∧
  (∀ i, i < 10 → g (36 + i) = hA v i 3) ∧
  (∀ i, i < 10 → g (46 + i) = if i < bnH v then hA v i 7 else -1) ∧
  (∀ i, i < 10 → g (56 + i) = if i < bnH v then hA v i 8 else -1) ∧
  (∀ k, k < 24 → ∀ w, w < 8 → g (66 + 8 * k + w) = bA v k w) ∧
  (∀ k, k < 6 → ∀ w, w < 5 → g (258 + 5 * k + w) = lA v k w) ∧
  (g 288 = if bvS v = true then tS (bvb v) 192 8 (nI (bnB v)) 6 (bnB v) else 0) ∧
  (g 289 = if bvS v = true then tS (bvl v) 30 5 (nI (bnL v)) 4 (bnL v) else 0)
theorem Rel.n0 {g : Nat → Int32} {v : BV} (h9 : Rel g v) : g 0 = nI (bnH v) := h9.1
theorem Rel.n1 {g : Nat → Int32} {v : BV} (h9 : Rel g v) : g 1 = nI (bnB v) := h9.2.1
theorem Rel.n2 {g : Nat → Int32} {v : BV} (h9 : Rel g v) : g 2 = nI (bnL v) := h9.2.2.1
theorem Rel.se {g : Nat → Int32} {v : BV} (h9 : Rel g v) : g 3 = bI (bvS v) := h9.2.2.2.1
theorem Rel.pp {g : Nat → Int32} {v : BV} (h9 : Rel g v) : g 4 = bvP v := h9.2.2.2.2.1
theorem Rel.oo {g : Nat → Int32} {v : BV} (h9 : Rel g v) : g 5 = bvO v := h9.2.2.2.2.2.1
theorem Rel.a {g : Nat → Int32} {v : BV} (h9 : Rel g v) : ∀ i, i < 10 → g (6 + i) = hA v i 0 := h9.2.2.2.2.2.2.1
theorem Rel.b {g : Nat → Int32} {v : BV} (h9 : Rel g v) : ∀ i, i < 10 → g (16 + i) = hA v i 1 := h9.2.2.2.2.2.2.2.1
theorem Rel.r {g : Nat → Int32} {v : BV} (h9 : Rel g v) : ∀ i, i < 10 → g (26 + i) = hA v i 2 := h9.2.2.2.2.2.2.2.2.1
theorem Rel.c {g : Nat → Int32} {v : BV} (h9 : Rel g v) : ∀ i, i < 10 → g (36 + i) = hA v i 3 := h9.2.2.2.2.2.2.2.2.2.1
theorem Rel.f {g : Nat → Int32} {v : BV} (h9 : Rel g v) : ∀ i, i < 10 → g (46 + i) = if i < bnH v then hA v i 7 else -1 := h9.2.2.2.2.2.2.2.2.2.2.1
theorem Rel.g' {g : Nat → Int32} {v : BV} (h9 : Rel g v) : ∀ i, i < 10 → g (56 + i) = if i < bnH v then hA v i 8 else -1 := h9.2.2.2.2.2.2.2.2.2.2.2.1
theorem Rel.bet {g : Nat → Int32} {v : BV} (h9 : Rel g v) : ∀ k, k < 24 → ∀ w, w < 8 → g (66 + 8 * k + w) = bA v k w := h9.2.2.2.2.2.2.2.2.2.2.2.2.1
theorem Rel.lay {g : Nat → Int32} {v : BV} (h9 : Rel g v) : ∀ k, k < 6 → ∀ w, w < 5 → g (258 + 5 * k + w) = lA v k w := h9.2.2.2.2.2.2.2.2.2.2.2.2.2.1
theorem Rel.s1 {g : Nat → Int32} {v : BV} (h9 : Rel g v) : g 288 = if bvS v = true then tS (bvb v) 192 8 (nI (bnB v)) 6 (bnB v) else 0 := h9.2.2.2.2.2.2.2.2.2.2.2.2.2.2.1
theorem Rel.s2 {g : Nat → Int32} {v : BV} (h9 : Rel g v) : g 289 = if bvS v = true then tS (bvl v) 30 5 (nI (bnL v)) 4 (bnL v) else 0 := h9.2.2.2.2.2.2.2.2.2.2.2.2.2.2.2
theorem Rel.mk {g : Nat → Int32} {v : BV} (n0 : g 0 = nI (bnH v)) (n1 : g 1 = nI (bnB v)) (n2 : g 2 = nI (bnL v)) (se : g 3 = bI (bvS v)) (pp : g 4 = bvP v) (oo : g 5 = bvO v) (a : ∀ i, i < 10 → g (6 + i) = hA v i 0) (b : ∀ i, i < 10 → g (16 + i) = hA v i 1) (r : ∀ i, i < 10 → g (26 + i) = hA v i 2) (c : ∀ i, i < 10 → g (36 + i) = hA v i 3) (f : ∀ i, i < 10 → g (46 + i) = if i < bnH v then hA v i 7 else -1) (g' : ∀ i, i < 10 → g (56 + i) = if i < bnH v then hA v i 8 else -1) (bet : ∀ k, k < 24 → ∀ w, w < 8 → g (66 + 8 * k + w) = bA v k w) (lay : ∀ k, k < 6 → ∀ w, w < 5 → g (258 + 5 * k + w) = lA v k w) (s1 : g 288 = if bvS v = true then tS (bvb v) 192 8 (nI (bnB v)) 6 (bnB v) else 0) (s2 : g 289 = if bvS v = true then tS (bvl v) 30 5 (nI (bnL v)) 4 (bnL v) else 0) : Rel g v := ⟨n0, n1, n2, se, pp, oo, a, b, r, c, f, g', bet, lay, s1, s2⟩
theorem Rel.congr {g g2 : Nat → Int32} {v : BV} (h : Rel g v) (e : ∀ j, j < 290 → g2 j = g j) : Rel g2 v := by
  refine ⟨?_, ?_, ?_, ?_, ?_, ?_, ?_, ?_, ?_, ?_, ?_, ?_, ?_, ?_, ?_, ?_⟩
  · exact (e _ (by decide)).trans h.n0
  · exact (e _ (by decide)).trans h.n1
  · exact (e _ (by decide)).trans h.n2
  · exact (e _ (by decide)).trans h.se
  · exact (e _ (by decide)).trans h.pp
  · exact (e _ (by decide)).trans h.oo
  · exact fun i hi => (e _ (by omega)).trans (h.a i hi)
  · exact fun i hi => (e _ (by omega)).trans (h.b i hi)
  · exact fun i hi => (e _ (by omega)).trans (h.r i hi)
  · exact fun i hi => (e _ (by omega)).trans (h.c i hi)
  · exact fun i hi => (e _ (by omega)).trans (h.f i hi)
  · exact fun i hi => (e _ (by omega)).trans (h.g' i hi)
  · exact fun k hk w hw => (e _ (by omega)).trans (h.bet k hk w hw)
  · exact fun k hk w hw => (e _ (by omega)).trans (h.lay k hk w hw)
  · exact (e _ (by decide)).trans h.s1
  · exact (e _ (by decide)).trans h.s2
/-! what the model reads, as the class reads it -/
section RD
variable {f : Nat → Int32} {v : BV}
theorem r_mB (R : Rel f v) {k w : Nat} (hk : k < 24) (hw : w < 8) : mB f k w = bA v k w := R.bet k hk w hw
theorem r_mO (R : Rel f v) {k w : Nat} (hk : k < 6) (hw : w < 5) : mO f k w = lA v k w := R.lay k hk w hw
theorem r_field (R : Rel f v) : ∀ i, i ≤ 10 → mField f i = tS (bvh v) 90 9 (nI (bnH v)) 2 i
  | 0, _ => rfl
  | i + 1, h => by rw [mField, tS, r_field R i (by omega), R.r i (by omega)]; rfl
theorem Int32.le_succ {a : Nat} (x : Int32) (ha : a + 1 < 2 ^ 31) : nI (a + 1) ≤ x ↔ nI a < x := by
  rw [Int32.le_iff_toInt_le, Int32.lt_iff_toInt_lt, nI_toInt ha, nI_toInt (by omega)]
  omega
theorem r_places (O : Ok v) (R : Rel f v) : mPlaces f (bnH v) = jPlaces v := by
  rw [mPlaces, jPlaces, jRunning, r_field R _ O.nH]
  generalize tS (bvh v) 90 9 (nI (bnH v)) 2 (bnH v) = x
  have h5 : ((5 : Int32) ≤ x) ↔ 4 < x := Int32.le_succ (a := 4) x (by decide)
  have h8 : ((8 : Int32) ≤ x) ↔ 7 < x := Int32.le_succ (a := 7) x (by decide)
  simp only [h5, h8]
theorem isN.lt {x : Int32} {lo hi : Nat} (h : isN x lo hi) (hh : hi < 2 ^ 31) : x = nI x.toNatClampNeg ∧ lo ≤ x.toNatClampNeg ∧ x.toNatClampNeg ≤ hi := by
  obtain ⟨n, h1, h2, rfl⟩ := h
  rw [nI_clamp (by omega)]
  exact ⟨rfl, h1, h2⟩
theorem r_mBh (O : Ok v) (R : Rel f v) {k : Nat} (hk : k < bnB v) : mB f k 0 = nI (mBh f k) ∧ mBh f k < bnH v ∧ bA v k 0 = nI (mBh f k) := by
  obtain ⟨j, hj, e⟩ := (O.B k hk).h
  have h0 := O.nH
  have h1 : mB f k 0 = nI j := (r_mB R (by have := O.nB; omega) (by decide)).trans e
  rw [mBh, h1, nI_clamp (by omega)]
  exact ⟨rfl, hj, e⟩
theorem r_mOh (O : Ok v) (R : Rel f v) {k : Nat} (hk : k < bnL v) : mO f k 0 = nI (mOh f k) ∧ mOh f k < bnH v ∧ lA v k 0 = nI (mOh f k) := by
  obtain ⟨j, hj, e⟩ := (O.L k hk).h
  have h0 := O.nH
  have h1 : mO f k 0 = nI j := (r_mO R (by have := O.nL; omega) (by decide)).trans e
  rw [mOh, h1, nI_clamp (by omega)]
  exact ⟨rfl, hj, e⟩
theorem r_okB (O : Ok v) (R : Rel f v) {k : Nat} (hk : k < bnB v) : okB f k := by
  have h := r_mBh O R hk
  have h0 := O.nH
  have hb := O.nB
  obtain ⟨b, b1, b2, e⟩ := (O.B k hk).b
  have e4 : mB f k 4 = nI b := (r_mB R (by omega) (by decide)).trans e
  refine ⟨h.1, by omega, by rw [e4]; exact nI_ne0 b1 (by omega), ?_⟩
  rw [e4, R.pp]
  rcases O.P with q | q <;> rw [q]
  · rw [show (4 : Int32) = nI 4 from rfl, pk_mul]; exact nI_ne0 (by omega) (by omega)
  · rw [show (5 : Int32) = nI 5 from rfl, pk_mul]; exact nI_ne0 (by omega) (by omega)
theorem r_okO (O : Ok v) (R : Rel f v) {k : Nat} (hk : k < bnL v) : okO f k := by
  have h := r_mOh O R hk
  have h0 := O.nH
  obtain ⟨b, b1, b2, e⟩ := (O.L k hk).b
  have e3 : mO f k 3 = nI b := (r_mO R (by have := O.nL; omega) (by decide)).trans e
  exact ⟨h.1, by omega, by rw [e3]; exact nI_ne0 b1 (by omega)⟩
theorem r_staked (O : Ok v) (R : Rel f v) {k : Nat} (hk : k < bnB v) : mStaked f k = jWhole v (nI k) := by
  have hb := O.nB
  rw [mStaked, r_mB R (by omega) (by decide), r_mB R (by omega) (by decide)]; rfl
theorem r_all (O : Ok v) (R : Rel f v) : ∀ i, i ≤ bnB v → mAll f i = jStakes v i
  | 0, _ => rfl
  | i + 1, h => by rw [mAll, jStakes, r_all O R i (by omega), r_staked O R (by omega)]
theorem r_allO (O : Ok v) (R : Rel f v) : ∀ i, i ≤ bnL v → mAllO f i = tS (bvl v) 30 5 (nI (bnL v)) 1 i
  | 0, _ => rfl
  | i + 1, h => by rw [mAllO, tS, r_allO O R i (by omega), r_mO R (by have := O.nL; omega) (by decide)]; rfl
theorem r_runs (O : Ok v) (R : Rel f v) (y : Int32) : jRuns v y = mRuns f y := by
  have h0 := O.nH
  rcases pk_ix y (n := bnH v) (by omega) with h | h | ⟨j, hj, rfl⟩
  · have e1 : hC v y 2 = 0 := by rw [hC, tC, if_neg]; simp [tIn, h]
    have e2 : mIsH f y = false := by simp [mIsH, mIn, h]
    simp [jRuns, mRuns, e1, e2]
  · have e1 : hC v y 2 = 0 := by rw [hC, tC, if_neg]; simp [tIn, h]
    have e2 : mIsH f y = false := by
      cases q : mIsH f y with
      | false => rfl
      | true =>
        obtain ⟨j, hj, rfl⟩ := mIsH_nI R.n0 h0 q
        exact absurd h (nI_ge hj (by omega))
    simp [jRuns, mRuns, e1, e2]
  · have e2 : mIsH f (nI j) = true := mIsH_of R.n0 h0 hj
    rw [jRuns, mRuns, e2, nI_clamp (by omega), R.r j (by omega)]; rfl
theorem r_runsN (O : Ok v) (R : Rel f v) {j : Nat} (hj : j < bnH v) : jRuns v (nI j) = decide (f (26 + j) = 1) := by
  rw [R.r j (by have := O.nH; omega)]; rfl
theorem r_part (O : Ok v) (R : Rel f v) {j : Nat} (hj : j < bnH v) (x : Int32) : jPart v x (nI j) = x * f (16 + j) / (f (6 + j) + f (16 + j)) := by
  have h0 := O.nH
  obtain ⟨a, a1, a2, ea⟩ := (O.H j hj).a
  obtain ⟨b, b1, b2, eb⟩ := (O.H j hj).b
  rw [R.a j (by omega), R.b j (by omega)]
  show (if hA v j 0 + hA v j 1 ≤ 0 then 0 else x * hA v j 1 / (hA v j 0 + hA v j 1)) = _
  rw [if_neg]
  rw [ea, eb, nI_add]
  exact nI_nle (by omega) (by omega)
theorem r_round (O : Ok v) (R : Rel f v) : ∀ i, i ≤ bnH v → mRound f i = jRound v i
  | 0, _ => rfl
  | i + 1, h => by
    rw [mRound, jRound, r_round O R i (by omega), r_runsN O R (by omega), r_part O R (by omega)]
    by_cases q : f (26 + i) = 1
    · simp [q]
    · simp [q]
theorem r_L1 (O : Ok v) (R : Rel f v) : ∀ i, i ≤ bnB v → jL1 v i = mL1 f i + 10000000
  | 0, _ => by rw [jL1, mL1, Int32.zero_add]
  | i + 1, h => by
    have hb := O.nB
    rw [jL1, mL1, r_L1 O R i (by omega), r_staked O R (by omega), r_mB R (by omega) (by decide)]
    show mL1 f i + 10000000 + (jWhole v (nI i) - bA v i 6) = _
    grind
theorem r_L2 (O : Ok v) (R : Rel f v) : ∀ i, i ≤ bnL v → jL2 v i = mL2 f (bnB v) i + 10000000
  | 0, _ => r_L1 O R _ (Nat.le_refl _)
  | i + 1, h => by
    have hb := O.nL
    rw [jL2, mL2, r_L2 O R i (by omega), r_mO R (by omega) (by decide), r_mO R (by omega) (by decide)]
    show mL2 f (bnB v) i + 10000000 - (lA v i 1 - lA v i 4) = _
    grind
theorem r_count (O : Ok v) (R : Rel f v) {st : Nat} {hi : HV} (hst : hvZ hi = st) : ∀ k, k < 14 → mCount f st (bnH v) (bnB v) (bnL v) k = jCount v hi k := by
  intro k hk
  have hse : (f 3 = 0) = (bvS v = false) := by rw [R.se]; cases bvS v <;> simp [bI]
  rcases (show k = 0 ∨ k = 1 ∨ k = 2 ∨ k = 3 ∨ k = 4 ∨ k = 5 ∨ k = 6 ∨ k = 7 ∨ k = 8 ∨ k = 9 ∨ k = 10 ∨ k = 11 ∨ k = 12 ∨ k = 13 by omega) with rfl | rfl | rfl | rfl | rfl | rfl | rfl | rfl | rfl | rfl | rfl | rfl | rfl | rfl
  · exact R.n0
  · exact r_field R _ O.nH
  · exact R.n1
  · exact R.n2
  · exact r_all O R _ (Nat.le_refl _)
  · exact r_allO O R _ (Nat.le_refl _)
  · show (if f 3 = 0 then 0 else f 288) = if bvS v = true then _ else 0
    rw [R.s1]; simp only [hse]; cases bvS v <;> simp
  · show (if f 3 = 0 then 0 else f 289) = if bvS v = true then _ else 0
    rw [R.s2]; simp only [hse]; cases bvS v <;> simp
  · exact R.se
  · exact r_places O R
  · exact r_round O R _ (Nat.le_refl _)
  · show (if f 3 = 0 then 0 else mAll f (bnB v) - f 288 - mAllO f (bnL v) + f 289 + 10000000) = if bvS v = true then jWon v else 0
    rw [R.s1, R.s2, r_all O R _ (Nat.le_refl _), r_allO O R _ (Nat.le_refl _)]
    simp only [hse]
    cases bvS v
    · simp
    · simp only [if_true, if_false, Bool.true_eq_false, jWon]
      grind
  · show (if f 3 = 0 then 0 else mL2 f (bnB v) (bnL v) + 10000000) = if bvS v = true then jLosses v else 0
    rw [jLosses, r_L2 O R _ (Nat.le_refl _)]
    simp only [hse]; cases bvS v <;> simp
  · show nI st = nI (hvZ hi); rw [hst]
theorem r_Bo (O : Ok v) (R : Rel f v) (h : Nat) : ∀ i, i ≤ bnB v → mBetsOn f (nI h) i = vBo v h i
  | 0, _ => rfl
  | i + 1, hi => by rw [mBetsOn, vBo, r_Bo O R h i (by omega), r_mB R (by have := O.nB; omega) (by decide)]
theorem r_St (O : Ok v) (R : Rel f v) (h : Nat) (pl : Bool) : ∀ i, i ≤ bnB v → mStakes f (nI h) pl i = vSt v h pl i
  | 0, _ => rfl
  | i + 1, hi => by
    have hb := O.nB
    rw [mStakes, vSt, r_St O R h pl i (by omega), r_mB R (by omega) (by decide), r_mB R (by omega) (by decide), r_mB R (by omega) (by decide)]
theorem r_horse (O : Ok v) (R : Rel f v) {h : Nat} (hh : h < bnH v) : ∀ k, k < 9 → mHorse f (bnB v) h k = hA v h k := by
  intro k hk
  have h0 := O.nH
  rcases (show k = 0 ∨ k = 1 ∨ k = 2 ∨ k = 3 ∨ k = 4 ∨ k = 5 ∨ k = 6 ∨ k = 7 ∨ k = 8 by omega) with rfl | rfl | rfl | rfl | rfl | rfl | rfl | rfl | rfl
  · exact R.a h (by omega)
  · exact R.b h (by omega)
  · exact R.r h (by omega)
  · exact R.c h (by omega)
  · exact (r_Bo O R h _ (Nat.le_refl _)).trans (O.H h hh).n.symm
  · exact (r_St O R h false _ (Nat.le_refl _)).trans (O.H h hh).s.symm
  · exact (r_St O R h true _ (Nat.le_refl _)).trans (O.H h hh).p.symm
  · exact (R.f h (by omega)).trans (if_pos hh)
  · exact (R.g' h (by omega)).trans (if_pos hh)
end RD
