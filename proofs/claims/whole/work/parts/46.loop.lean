/-! THE LAW'S LOOP AND ITS START -/
theorem lw_mask (x : Int32) : ∃ k, k < 32 ∧ x &&& 31 = nI k := by
  have h31 : (31 : Int32).toBitVec = 31#32 := rfl
  have hlt : (x.toBitVec &&& 31#32).toNat < 32 := by
    rw [BitVec.toNat_and]
    exact Nat.lt_of_le_of_lt Nat.and_le_right (by decide)
  refine ⟨(x.toBitVec &&& 31#32).toNat, hlt, ?_⟩
  apply Int32.toBitVec_inj.mp
  rw [Int32.toBitVec_and, h31]
  apply BitVec.eq_of_toNat_eq
  rw [show (nI (x.toBitVec &&& 31#32).toNat).toBitVec = BitVec.ofNat 32 (x.toBitVec &&& 31#32).toNat from rfl, BitVec.toNat_ofNat, Nat.mod_eq_of_lt (by omega)]
theorem lw_lt5 {L i : Nat} (hL : L ≤ 2560) (hi : i ≤ L + 4) (h : ¬ nI L - 5 < nI i) : i + 5 ≤ L := by
  rcases Nat.lt_or_ge L 5 with q | q
  · exfalso
    apply h
    apply Int32.lt_iff_toInt_lt.mpr
    rw [nI_toInt (n := i) (by omega)]
    have e : (nI L - 5).toInt < 0 := by
      have hq : L = 0 ∨ L = 1 ∨ L = 2 ∨ L = 3 ∨ L = 4 := by omega
      rcases hq with rfl | rfl | rfl | rfl | rfl <;> decide
    omega
  · have e : nI L - 5 = nI (L - 5) := knSub (b := 5) (by omega) rfl rfl
    rw [e] at h
    rcases Nat.lt_or_ge L (i + 5) with q2 | q2
    · exfalso
      apply h
      apply Int32.lt_iff_toInt_lt.mpr
      rw [nI_toInt (n := i) (by omega), nI_toInt (n := L - 5) (by omega)]
      omega
    · exact q2
theorem isFB.mv {ad ad' : Nat → Nat} {cI cB : ClassId} {G G' : Nat → va_E} {v : BV} {w : AV} {x : TV} {hi : HV} {z0 z1 : ZV} (h : isFB ad cI cB G v w x hi z0 z1) (ha : ∀ j, j < 73 → ad' j = ad j) (hf : ∀ j, j < 73 → G' j = G j) : isFB ad' cI cB G' v w x hi z0 z1 := by
  obtain ⟨h0, h1, h2, h3, h4, h5, h6⟩ := h
  refine ⟨?_, h1.mv (fun j _ h9 => ha j (by omega)) (fun j _ h9 => hf j (by omega)), h2.mv (fun j _ h9 => ha j (by omega)) (fun j _ h9 => hf j (by omega)), h3.mv (fun j _ h9 => ha j (by omega)) (fun j _ h9 => hf j (by omega)), h4.mv (fun j _ h9 => ha j (by omega)) (fun j _ h9 => hf j (by omega)), h5.mv (fun j _ h9 => ha j (by omega)) (fun j _ h9 => hf j (by omega)), h6.mv (fun j _ h9 => ha j (by omega)) (fun j _ h9 => hf j (by omega))⟩
  rw [hf 0 (by decide), ha 1 (by decide), ha 8 (by decide), ha 11 (by decide), ha 13 (by decide), ha 57 (by decide), ha 65 (by decide)]
  exact h0
theorem isMo.mv {ad ad' : Nat → Nat} {cI cC cZ : ClassId} {G G' : Nat → va_E} {f kp tx fi gr : Nat → Int32} {st ty : Nat} {th at0 re : Int32} (h : isMo ad cI cC cZ G f kp tx fi gr st ty th at0 re) (ha : ∀ j, j < 79 → ad' j = ad j) (hf : ∀ j, j < 79 → G' j = G j) : isMo ad' cI cC cZ G' f kp tx fi gr st ty th at0 re := by
  obtain ⟨h0, h1, h2, h3, h4, h5⟩ := h
  refine ⟨?_, (hf _ (by decide)).trans h1, (hf _ (by decide)).trans h2, (hf _ (by decide)).trans h3, (hf _ (by decide)).trans h4, (hf _ (by decide)).trans h5⟩
  rw [hf 73 (by decide), ha 74 (by decide), ha 75 (by decide), ha 76 (by decide), ha 77 (by decide), ha 78 (by decide)]
  exact h0
section LWL
variable {p : Program} {l : Launch} {e : Env} {s : State} {m : MethodId} {below : List Frame} {meth : Method} {c : Code} {Q : State → Prop}
variable {b L : Nat} {xs : Nat → Int32} {D : va_G} {cI cC cZ cB cJ : ClassId} {ad : Nat → Nat}
set_option maxRecDepth 100000 in
set_option maxHeartbeats 4000000 in
theorem law_loop (K : lwC p l s m meth c b L xs D cI cC cZ cB cJ ad) (hQ : Q = lw_Z below #[Value.ref b] s) : ∀ (n i cells slots : Nat) (G : Nat → va_E), L + 5 ≤ i + 5 * n → i ≤ L + 4 → cells + 6 * n ≤ 601024 → slots + 36 * n ≤ 7293034 → lwV ad cI cC cZ cB cJ G → kJ p l e room_1 s m #[Value.ref b] below meth c cells slots Q 9 D ad 80 (lwA s) G 23 (lwB b ad i) [] := by
  intro n
  induction n with
  | zero => intro i cells slots G h1 h2; exact absurd h1 (by omega)
  | succ n ih =>
    intro i cells slots G h1 h2 hc hs hV
    have hL := K.2.2.2.2.2
    obtain ⟨C, -⟩ := id K
    refine k_iload C dL_law_23 (j := 4) rfl ?_
    refine kL_len K 0 rfl dL_law_25 dL_law_26 ?_
    refine k_iconst C (v := 5) dL_law_27 (by decide) ?_
    refine k_isub C dL_law_28 ?_
    refine k_icmp_gt C 1405 dL_law_29 (by decide) (fun _ => ?_) (fun hgt => ?_)
    · refine k_iconst C (v := 1) dL_law_1405 (by decide) ?_
      exact kL_end K hQ (by omega) (by omega) dL_law_1406
    have hi5 := lw_lt5 hL h2 hgt
    have kont : ∀ (mc : Nat) (G' : Nat → va_E), mc ≤ 6 → lwV ad cI cC cZ cB cJ G' → kJ p l e room_1 s m #[Value.ref b] below meth c (cells + mc) (slots + 6 * mc) Q 9 D ad 80 (lwA s) G' 1399 (lwB b ad i) [] := by
      intro mc G' hmc hV'
      refine k_iinc C (v := nI (i + 5)) (lv' := [(4, .int (nI (i + 5))), (0, .ref b), (1, .ref (ad 0)), (2, .ref (ad 73)), (3, .ref (ad 79))]) dL_law_1399 (j := 4) rfl (knAdd (b := 5) rfl rfl) (by decide) rfl ?_
      refine k_goto C 23 dL_law_1402 (by decide) ?_
      exact k_sub [1, 2, 3, 4, 0] rfl (ih (i + 5) (cells + mc) (slots + 6 * mc) G' (by omega) (by omega) (by omega) (by omega) hV')
    have hc6 : cells + 6 ≤ 601024 := by omega
    have hs6 : slots + 36 ≤ 7293034 := by omega
    refine kL_arg0 K (by omega) 0 4 rfl rfl dL_law_32 dL_law_33 dL_law_35 ?_
    refine k_bipush C (v := 31) dL_law_36 (by decide) ?_
    refine k_iand C dL_law_38 ?_
    obtain ⟨k, hk, ek⟩ := lw_mask (xs i)
    rw [ek]

    by_cases q0 : k = 0
    · subst q0
      refine k_tableIn C (x := nI 0) (off := 109) 148 dL_law_39 (by decide) (by decide) rfl (by decide) ?_
      exact lc_horse K hi5 hc6 hs6 hV kont
    by_cases q1 : k = 1
    · subst q1
      refine k_tableIn C (x := nI 1) (off := 177) 216 dL_law_39 (by decide) (by decide) rfl (by decide) ?_
      exact lc_price K hi5 hc6 hs6 hV kont
    by_cases q2 : k = 2
    · subst q2
      refine k_tableIn C (x := nI 2) (off := 257) 296 dL_law_39 (by decide) (by decide) rfl (by decide) ?_
      by_cases hz : xs (i + 3) = 0
      · exact lc_take0 K hi5 hc6 hs6 hV hz kont
      · exact lc_take1 K hi5 hc6 hs6 hV hz kont
    by_cases q3 : k = 3
    · subst q3
      refine k_tableIn C (x := nI 3) (off := 353) 392 dL_law_39 (by decide) (by decide) rfl (by decide) ?_
      exact lc_layOff K hi5 hc6 hs6 hV kont
    by_cases q4 : k = 4
    · subst q4
      refine k_tableIn C (x := nI 4) (off := 445) 484 dL_law_39 (by decide) (by decide) rfl (by decide) ?_
      exact lc_withdraw K hi5 hc6 hs6 hV kont
    by_cases q5 : k = 5
    · subst q5
      refine k_tableIn C (x := nI 5) (off := 501) 540 dL_law_39 (by decide) (by decide) rfl (by decide) ?_
      exact lc_settle K hi5 hc6 hs6 hV kont
    by_cases q6 : k = 6
    · subst q6
      refine k_tableIn C (x := nI 6) (off := 545) 584 dL_law_39 (by decide) (by decide) rfl (by decide) ?_
      exact lc_set K hi5 hc6 hs6 hV kont
    by_cases q7 : k = 7
    · subst q7
      refine k_tableIn C (x := nI 7) (off := 613) 652 dL_law_39 (by decide) (by decide) rfl (by decide) ?_
      exact lc_append K hi5 hc6 hs6 hV kont
    by_cases q8 : k = 8
    · subst q8
      refine k_tableIn C (x := nI 8) (off := 669) 708 dL_law_39 (by decide) (by decide) rfl (by decide) ?_
      exact lc_clearBuffer K hi5 hc6 hs6 hV kont
    by_cases q9 : k = 9
    · subst q9
      refine k_tableIn C (x := nI 9) (off := 682) 721 dL_law_39 (by decide) (by decide) rfl (by decide) ?_
      exact lc_firstError K hi5 hc6 hs6 hV kont
    by_cases q10 : k = 10
    · subst q10
      refine k_tableIn C (x := nI 10) (off := 695) 734 dL_law_39 (by decide) (by decide) rfl (by decide) ?_
      exact lc_keep K hi5 hc6 hs6 hV kont
    by_cases q11 : k = 11
    · subst q11
      refine k_tableIn C (x := nI 11) (off := 751) 790 dL_law_39 (by decide) (by decide) rfl (by decide) ?_
      exact lc_goBack K hi5 hc6 hs6 hV kont
    by_cases q12 : k = 12
    · subst q12
      refine k_tableIn C (x := nI 12) (off := 807) 846 dL_law_39 (by decide) (by decide) rfl (by decide) ?_
      exact lc_undo K hi5 hc6 hs6 hV kont
    by_cases q13 : k = 13
    · subst q13
      refine k_tableIn C (x := nI 13) (off := 851) 890 dL_law_39 (by decide) (by decide) rfl (by decide) ?_
      exact lc_horseOf K hi5 hc6 hs6 hV kont
    by_cases q14 : k = 14
    · subst q14
      refine k_tableIn C (x := nI 14) (off := 919) 958 dL_law_39 (by decide) (by decide) rfl (by decide) ?_
      exact lc_bet K hi5 hc6 hs6 hV kont
    by_cases q15 : k = 15
    · subst q15
      refine k_tableIn C (x := nI 15) (off := 987) 1026 dL_law_39 (by decide) (by decide) rfl (by decide) ?_
      exact lc_laid K hi5 hc6 hs6 hV kont
    by_cases q16 : k = 16
    · subst q16
      refine k_tableIn C (x := nI 16) (off := 1055) 1094 dL_law_39 (by decide) (by decide) rfl (by decide) ?_
      exact lc_count K hi5 hc6 hs6 hV kont
    by_cases q17 : k = 17
    · subst q17
      refine k_tableIn C (x := nI 17) (off := 1111) 1150 dL_law_39 (by decide) (by decide) rfl (by decide) ?_
      exact lc_setting K hi5 hc6 hs6 hV kont
    by_cases q18 : k = 18
    · subst q18
      refine k_tableIn C (x := nI 18) (off := 1167) 1206 dL_law_39 (by decide) (by decide) rfl (by decide) ?_
      exact lc_ifArrived K hi5 hc6 hs6 hV kont
    by_cases q19 : k = 19
    · subst q19
      refine k_tableIn C (x := nI 19) (off := 1180) 1219 dL_law_39 (by decide) (by decide) rfl (by decide) ?_
      exact lc_ifWon K hi5 hc6 hs6 hV kont
    by_cases q20 : k = 20
    · subst q20
      refine k_tableIn C (x := nI 20) (off := 1236) 1275 dL_law_39 (by decide) (by decide) rfl (by decide) ?_
      exact lc_worst K hi5 hc6 hs6 hV kont
    by_cases q21 : k = 21
    · subst q21
      refine k_tableIn C (x := nI 21) (off := 1249) 1288 dL_law_39 (by decide) (by decide) rfl (by decide) ?_
      exact lc_cover K hi5 hc6 hs6 hV kont
    by_cases q22 : k = 22
    · subst q22
      refine k_tableIn C (x := nI 22) (off := 1305) 1344 dL_law_39 (by decide) (by decide) rfl (by decide) ?_
      exact lc_safeShare K hi5 hc6 hs6 hV kont
    by_cases q23 : k = 23
    · subst q23
      refine k_tableIn C (x := nI 23) (off := 1346) 1385 dL_law_39 (by decide) (by decide) rfl (by decide) ?_
      exact lc_digest K hi5 hc6 hs6 hV kont
    refine k_tableOut C 1399 dL_law_39 (Or.inr ?_) (by decide) (kont 0 G (by decide) hV)
    rw [nI_toInt (by omega)]
    omega
end LWL
