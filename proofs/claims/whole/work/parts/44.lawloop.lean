def lc_all (Inv Inv' : sa_St → Prop) : Prop := lc_0 Inv Inv' ∧ lc_1 Inv Inv' ∧ lc_2 Inv Inv' ∧ lc_3 Inv Inv' ∧ lc_4 Inv Inv' ∧ lc_5 Inv Inv' ∧ lc_6 Inv Inv' ∧ lc_7 Inv Inv' ∧ lc_8 Inv Inv' ∧ lc_9 Inv Inv' ∧ lc_10 Inv Inv' ∧ lc_11 Inv Inv' ∧ lc_12 Inv Inv' ∧ lc_13 Inv Inv' ∧ lc_14 Inv Inv' ∧ lc_15 Inv Inv' ∧ lc_16 Inv Inv' ∧ lc_17 Inv Inv' ∧ lc_18 Inv Inv' ∧ lc_19 Inv Inv' ∧ lc_20 Inv Inv' ∧ lc_21 Inv Inv' ∧ lc_22 Inv Inv' ∧ lc_23 Inv Inv' ∧ lc_24 Inv Inv' ∧ lc_25 Inv Inv' ∧ lc_26 Inv Inv' ∧ lc_27 Inv Inv' ∧ lc_28 Inv Inv' ∧ lc_29 Inv Inv' ∧ lc_30 Inv Inv' ∧ lc_31 Inv Inv' ∧ lc_32 Inv Inv' ∧ lc_33 Inv Inv' ∧ lc_34 Inv Inv' ∧ lc_35 Inv Inv' ∧ lc_36 Inv Inv' ∧ lc_37 Inv Inv'
theorem lw_end {p : Program} {l : Launch} {e : Env} {s : State} {m : MethodId} {b : Nat} {below : List Frame} {meth : Method} {c : Code} {D : va_G} {ad : Nat → Nat} {cA : FieldType → ClassId} {K : Nat} {σ : sa_St} {lv : List (Nat × Value)} (C : sa_C p s m #[Value.ref b] meth c code R_law "law" 7 ret D ad cA (fun q : Nat => s.heap.size ≤ q)) (hK : K ≤ 513) : lw_S p l e s m b below meth c D ad cA (K) σ 1603 lv [] := by
  intro H locs ls hw hS hl
  refine va_forget (fun q hq => hS.2.2 q hq) ?_
  refine W.widen (k := 601024) (n := 7293034) (by omega) (by omega) ?_
  refine lv_iconst (v := 1) C.1 C.2.1 d_law_1603 (by decide) ?_
  exact lw_ret C.1 C.2.1 C.2.2.2.2.2.1 C.2.2.2.2.2.2.2.1 d_law_1604
theorem lw_gt {L i : Nat} (hL : L ≤ 3072) (hi : i ≤ 4000) : nI L - 6 < nI i ↔ L < i + 6 := by
  rw [Int32.lt_iff_toInt_lt, show (6 : Int32) = nI 6 from rfl, pk_sub_toInt (by omega) (by omega), nI_toInt (by omega)]
  omega
set_option maxHeartbeats 4000000 in
set_option maxRecDepth 20000 in
theorem law_loop {Inv : Nat → sa_St → Prop} (F : ∀ K, K ≤ 512 → lc_all (Inv K) (Inv (K + 1))) (hup : ∀ K σ, Inv K σ → Inv (K + 1) σ) {p : Program} {l : Launch} (hflags : l.flags = flags0) {e : Env} {s : State} {m : MethodId} {b : Nat} {below : List Frame} {meth : Method} {c : Code} {D : va_G} {ad : Nat → Nat} {cA : FieldType → ClassId} {L : Nat} {xs : Nat → Int32} (C : sa_C p s m #[Value.ref b] meth c code R_law "law" 7 ret D ad cA (fun q : Nat => s.heap.size ≤ q)) (hX : va_X b L xs s s.heap) (hbl : b < s.heap.size) (hL : L ≤ 3072) : ∀ (n i K : Nat) (σ : sa_St), L < i + 6 * n + 6 → i = 6 * K → K ≤ 513 → Inv K σ → lw_S p l e s m b below meth c D ad cA (K) σ 23 [(4, .int (nI i)), (3, .ref (ad 192)), (2, .ref (ad 159)), (1, .ref (ad 0)), (0, .ref b)] [] := by
  intro n
  induction n with
  | zero =>
    intro i K σ hn hi hK hI
    refine ls_iload C d_law_23 0 rfl ?_
    refine ls_aload_n C d_law_25 rfl 4 rfl ?_
    refine ls_slen C hX hbl d_law_26 ?_
    refine ls_bipush (v := 6) C d_law_27 (by decide) ?_
    refine ls_isub C d_law_29 ?_
    refine ls_icmp_gt (tgt := 1603) C d_law_30 (by decide) (fun _ => ?_) (fun h => absurd ((lw_gt hL (by omega)).mpr (by omega)) h)
    exact lw_end C hK
  | succ n ih =>
    intro i K σ hn hi hK hI
    refine ls_iload C d_law_23 0 rfl ?_
    refine ls_aload_n C d_law_25 rfl 4 rfl ?_
    refine ls_slen C hX hbl d_law_26 ?_
    refine ls_bipush (v := 6) C d_law_27 (by decide) ?_
    refine ls_isub C d_law_29 ?_
    refine ls_icmp_gt (tgt := 1603) C d_law_30 (by decide) (fun _ => ?_) (fun h => ?_)
    · exact lw_end C hK
    have hi6 : i + 6 ≤ L := by
      rcases Nat.lt_or_ge L (i + 6) with h2 | h2
      · exact absurd ((lw_gt hL (by omega)).mpr h2) h
      · exact h2
    have hb : i + 6 ≤ L ∧ L ≤ 3072 := ⟨hi6, hL⟩
    obtain ⟨F0, F1, F2, F3, F4, F5, F6, F7, F8, F9, F10, F11, F12, F13, F14, F15, F16, F17, F18, F19, F20, F21, F22, F23, F24, F25, F26, F27, F28, F29, F30, F31, F32, F33, F34, F35, F36, F37⟩ := F K (by omega)
    have hn3 : ∀ σ2, Inv (K + 1) σ2 → lw_S p l e s m b below meth c D ad cA ((K + 1)) σ2 1597 [(4, .int (nI i)), (3, .ref (ad 192)), (2, .ref (ad 159)), (1, .ref (ad 0)), (0, .ref b)] [] := by
      intro σ2 h2
      refine ls_iinc (v := nI (i + 6)) (lv' := [(4, .int (nI (i + 6))), (3, .ref (ad 192)), (2, .ref (ad 159)), (1, .ref (ad 0)), (0, .ref b)]) C d_law_1597 0 rfl (nI_add i 6) (by decide) rfl ?_
      refine ls_goto (tgt := 23) C d_law_1600 (by decide) ?_
      exact ih (i + 6) (K + 1) σ2 (by omega) (by omega) (by omega) h2
    have hn2 : ∀ σ2, Inv (K + 1) σ2 → lw_S p l e s m b below meth c D ad cA (K) σ2 1597 [(4, .int (nI i)), (3, .ref (ad 192)), (2, .ref (ad 159)), (1, .ref (ad 0)), (0, .ref b)] [] := by
      exact fun σ2 h2 => ls_round (hn3 σ2 h2)
    refine ls_aload_n C d_law_33 rfl 4 rfl ?_
    refine ls_iload C d_law_34 0 rfl ?_
    refine ls_sld (w := xs i) C hX hbl (vp_in_nI (by omega) (by omega)) (by rw [nI_clamp (by omega)]) d_law_36 ?_
    refine ls_bipush (v := 63) C d_law_37 (by decide) ?_
    refine ls_iand C d_law_39 ?_
    obtain ⟨j, hj, ej⟩ := pk_andE (xs i) (m := 63) 6 (by decide)
    rw [ej]
    have hK2 : K ≤ 520 := by omega
    rcases (show j = 0 ∨ j = 1 ∨ j = 2 ∨ j = 3 ∨ j = 4 ∨ j = 5 ∨ j = 6 ∨ j = 7 ∨ j = 8 ∨ j = 9 ∨ j = 10 ∨ j = 11 ∨ j = 12 ∨ j = 13 ∨ j = 14 ∨ j = 15 ∨ j = 16 ∨ j = 17 ∨ j = 18 ∨ j = 19 ∨ j = 20 ∨ j = 21 ∨ j = 22 ∨ j = 23 ∨ j = 24 ∨ j = 25 ∨ j = 26 ∨ j = 27 ∨ j = 28 ∨ j = 29 ∨ j = 30 ∨ j = 31 ∨ j = 32 ∨ j = 33 ∨ j = 34 ∨ j = 35 ∨ j = 36 ∨ j = 37 ∨ (38 ≤ j ∧ j < 64) by omega) with rfl | rfl | rfl | rfl | rfl | rfl | rfl | rfl | rfl | rfl | rfl | rfl | rfl | rfl | rfl | rfl | rfl | rfl | rfl | rfl | rfl | rfl | rfl | rfl | rfl | rfl | rfl | rfl | rfl | rfl | rfl | rfl | rfl | rfl | rfl | rfl | rfl | rfl | h38
    · refine ls_tabIn (tgt := 208) C d_law_40 (by decide) (by decide) rfl (by decide) ?_
      exact lcase_0 F0 C hX hbl hb hK2 hI hn2
    · refine ls_tabIn (tgt := 281) C d_law_40 (by decide) (by decide) rfl (by decide) ?_
      exact lcase_1 F1 C hX hbl hb hK2 hI hn2
    · refine ls_tabIn (tgt := 306) C d_law_40 (by decide) (by decide) rfl (by decide) ?_
      exact lcase_2 F2 C hX hbl hb hK2 hI hn2
    · refine ls_tabIn (tgt := 331) C d_law_40 (by decide) (by decide) rfl (by decide) ?_
      exact lcase_3 F3 C hX hbl hb hK2 hI hn2
    · refine ls_tabIn (tgt := 356) C d_law_40 (by decide) (by decide) rfl (by decide) ?_
      exact lcase_4 F4 C hX hbl hb hK2 hI hn2
    · refine ls_tabIn (tgt := 393) C d_law_40 (by decide) (by decide) rfl (by decide) ?_
      exact lcase_5 F5 C hX hbl hb hK2 hI hn2
    · refine ls_tabIn (tgt := 430) C d_law_40 (by decide) (by decide) rfl (by decide) ?_
      exact lcase_6 F6 hflags C hX hbl hb (by omega) hI hn3
    · refine ls_tabIn (tgt := 498) C d_law_40 (by decide) (by decide) rfl (by decide) ?_
      exact lcase_7 F7 C hX hbl hb hK2 hI hn2
    · refine ls_tabIn (tgt := 535) C d_law_40 (by decide) (by decide) rfl (by decide) ?_
      exact lcase_8 F8 C hX hbl hb hK2 hI hn2
    · refine ls_tabIn (tgt := 560) C d_law_40 (by decide) (by decide) rfl (by decide) ?_
      exact lcase_9 F9 C hX hbl hb hK2 hI hn2
    · refine ls_tabIn (tgt := 585) C d_law_40 (by decide) (by decide) rfl (by decide) ?_
      exact lcase_10 F10 C hX hbl hb hK2 hI hn2
    · refine ls_tabIn (tgt := 622) C d_law_40 (by decide) (by decide) rfl (by decide) ?_
      exact lcase_11 F11 C hX hbl hb hK2 hI hn2
    · refine ls_tabIn (tgt := 659) C d_law_40 (by decide) (by decide) rfl (by decide) ?_
      exact lcase_12 F12 C hX hbl hb hK2 hI hn2
    · refine ls_tabIn (tgt := 684) C d_law_40 (by decide) (by decide) rfl (by decide) ?_
      exact lcase_13 F13 C hX hbl hb hK2 hI hn2
    · refine ls_tabIn (tgt := 721) C d_law_40 (by decide) (by decide) rfl (by decide) ?_
      exact lcase_14 F14 C hX hbl hb hK2 hI hn2
    · refine ls_tabIn (tgt := 746) C d_law_40 (by decide) (by decide) rfl (by decide) ?_
      exact lcase_15 F15 C hX hbl hb hK2 hI hn2
    · refine ls_tabIn (tgt := 815) C d_law_40 (by decide) (by decide) rfl (by decide) ?_
      exact lcase_16 F16 C hX hbl hb hK2 hI hn2
    · refine ls_tabIn (tgt := 828) C d_law_40 (by decide) (by decide) rfl (by decide) ?_
      exact lcase_17 F17 C hX hbl hb hK2 hI hn2
    · refine ls_tabIn (tgt := 865) C d_law_40 (by decide) (by decide) rfl (by decide) ?_
      exact lcase_18 F18 C hX hbl hb hK2 hI hn2
    · refine ls_tabIn (tgt := 914) C d_law_40 (by decide) (by decide) rfl (by decide) ?_
      exact lcase_19 F19 C hX hbl hb hK2 hI hn2
    · refine ls_tabIn (tgt := 951) C d_law_40 (by decide) (by decide) rfl (by decide) ?_
      exact lcase_20 F20 C hX hbl hb hK2 hI hn2
    · refine ls_tabIn (tgt := 976) C d_law_40 (by decide) (by decide) rfl (by decide) ?_
      exact lcase_21 F21 C hX hbl hb hK2 hI hn2
    · refine ls_tabIn (tgt := 1041) C d_law_40 (by decide) (by decide) rfl (by decide) ?_
      exact lcase_22 F22 C hX hbl hb hK2 hI hn2
    · refine ls_tabIn (tgt := 1102) C d_law_40 (by decide) (by decide) rfl (by decide) ?_
      exact lcase_23 F23 C hX hbl hb hK2 hI hn2
    · refine ls_tabIn (tgt := 1139) C d_law_40 (by decide) (by decide) rfl (by decide) ?_
      exact lcase_24 F24 C hX hbl hb hK2 hI hn2
    · refine ls_tabIn (tgt := 1188) C d_law_40 (by decide) (by decide) rfl (by decide) ?_
      exact lcase_25 F25 C hX hbl hb hK2 hI hn2
    · refine ls_tabIn (tgt := 1237) C d_law_40 (by decide) (by decide) rfl (by decide) ?_
      exact lcase_26 F26 C hX hbl hb hK2 hI hn2
    · refine ls_tabIn (tgt := 1298) C d_law_40 (by decide) (by decide) rfl (by decide) ?_
      exact lcase_27 F27 C hX hbl hb hK2 hI hn2
    · refine ls_tabIn (tgt := 1335) C d_law_40 (by decide) (by decide) rfl (by decide) ?_
      exact lcase_28 F28 C hX hbl hb hK2 hI hn2
    · refine ls_tabIn (tgt := 1372) C d_law_40 (by decide) (by decide) rfl (by decide) ?_
      exact lcase_29 F29 C hX hbl hb hK2 hI hn2
    · refine ls_tabIn (tgt := 1421) C d_law_40 (by decide) (by decide) rfl (by decide) ?_
      exact lcase_30 F30 C hX hbl hb hK2 hI hn2
    · refine ls_tabIn (tgt := 1446) C d_law_40 (by decide) (by decide) rfl (by decide) ?_
      exact lcase_31 F31 C hX hbl hb hK2 hI hn2
    · refine ls_tabIn (tgt := 1471) C d_law_40 (by decide) (by decide) rfl (by decide) ?_
      exact lcase_32 F32 C hX hbl hb hK2 hI hn2
    · refine ls_tabIn (tgt := 1484) C d_law_40 (by decide) (by decide) rfl (by decide) ?_
      exact lcase_33 F33 C hX hbl hb hK2 hI hn2
    · refine ls_tabIn (tgt := 1521) C d_law_40 (by decide) (by decide) rfl (by decide) ?_
      exact lcase_34 F34 C hX hbl hb hK2 hI hn2
    · refine ls_tabIn (tgt := 1546) C d_law_40 (by decide) (by decide) rfl (by decide) ?_
      exact lcase_35 F35 C hX hbl hb hK2 hI hn2
    · refine ls_tabIn (tgt := 1559) C d_law_40 (by decide) (by decide) rfl (by decide) ?_
      exact lcase_36 F36 C hX hbl hb hK2 hI hn2
    · refine ls_tabIn (tgt := 1572) C d_law_40 (by decide) (by decide) rfl (by decide) ?_
      exact lcase_37 F37 C hX hbl hb hK2 hI hn2
    · refine ls_tabOut (tgt := 1597) C d_law_40 (Or.inr ?_) (by decide) ?_
      · rw [nI_toInt (by omega)]
        omega
      · exact hn2 σ (hup K σ hI)
