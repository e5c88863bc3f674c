/-! HEARS, by the class -/
def xq (k : Nat → Int32) (i : Nat) : Nat := (k (23 + 7 * i + 5)).toNatClampNeg
def xqm (k : Nat → Int32) (m i : Nat) : Nat := if i < m then xq k i else 0
theorem xq_eq {k : Nat → Int32} {P W H B m i : Nat} (h : KM P W H B m k) (hi : i < m) : xqm k m i < 16 ∧ k (23 + 7 * i + 5) = nI (xqm k m i) := by
  obtain ⟨q, hq, e⟩ := (h.2.2.2.1 i hi).2.2.2.2.2
  unfold xqm xq
  rw [if_pos hi, e, nI_clamp (by omega)]
  exact ⟨hq, rfl⟩
theorem xqm_lt {k : Nat → Int32} {P W H B m : Nat} (h : KM P W H B m k) (i : Nat) : xqm k m i < 16 := by
  by_cases hi : i < m
  · exact (xq_eq h hi).1
  · unfold xqm; rw [if_neg hi]; decide
theorem liv_lt {k : Nat → Int32} {m i : Nat} (h : liv k m i = true) : i < m := by
  unfold liv at h
  rw [Bool.and_eq_true] at h
  exact of_decide_eq_true h.1
/-- so many ways apart at most -/
def hDr (M : Nat → Nat → Nat) (k : Nat → Int32) (r i j : Nat) : Bool := decide (M (xp k i) (xp k j) ≤ r)
def hMp (P W : Nat) (z : Nat → Int32) : Nat → Nat → Nat := mpN (mpE W (cW z 0) z) P
theorem hM_le {P W : Nat} {z : Nat → Int32} (a b : Nat) : hMp P W z a b ≤ 1000 := mpN_le (m := mpE W (cW z 0) z) mpE_le P a b
theorem hD_symm {P W : Nat} {z k : Nat → Int32} {r : Nat} (i j : Nat) : hDr (hMp P W z) k r i j = hDr (hMp P W z) k r j i := by
  unfold hDr hMp
  rw [mpN_symm mpE_symm]
section HEARC
variable {L P W F n H B m r : Nat} {f : Nat → LWt} {z k : Nat → Int32} {hold : Int32} {σ : sa_St}
theorem e_within (hcx : Cx L P W F n f z hold σ) (hP0 : 0 < P) {a b : Nat} (ha : a < P) (hb : b < P) (hr : r ≤ 7) : f_X1_isWithin L (nI a) (nI b) (nI r) σ = some (nI (if hMp P W z a b ≤ r then 1 else 0), σ) := by
  have hzr := hcx.zr
  obtain ⟨hk, hL, hLd, hM, hW, hz0, hh0⟩ := hcx
  obtain ⟨⟨a1, a2, a3, a4, a5, a6⟩, e1, e2, e3, e4, e5, e6⟩ := LD.of hk hL
  obtain ⟨⟨b1, b2, b3⟩, ⟨c0, c1, c3, r0, r1, r3⟩, lp, lw, lf⟩ := hLd
  have hmap := (hM hP0).2.2 a b (by omega) (by omega)
  have e := mp_same (c := cW z 0) (zr_ways hzr) b1 (show a < 8 by omega) (show b < 8 by omega)
  have hmap2 : σ.1 (L + 5) (8 * a + b) = nI (hMp P W z a b) := by
    rw [hmap, hz0]
    exact congrArg nI e
  have hle := hM_le (P := P) (W := W) (z := z) a b
  generalize hMp P W z a b = v at hmap2 hle ⊢
  clear hzr hM hW lp lw lf hmap e hL
  refine run_of ?_
  by_cases h : v ≤ r
  · rw [if_pos h]
    simp (disch := omega) only [f_X1_isWithin, wp_gd, wp_bnd, wp_let, wp_jn0, wp_jn1, wp_jn2, wp_if, wp_ret, wp_rdI, wp_rdL, v_rdR, v_ldI, v_ldL, v_ldR, v_stI, v_stB, v_stZ, v_stL, wp_wrI, wp_wrL, wp_wrR, wp_wrZ, wp_retZ, v_md, v_dv, v_tb, upI_2, true_and, and_true, Nat.add_sub_cancel, Nat.zero_lt_succ, Nat.succ_pos, okN, clN, L0, L1, L2, L3, L4, L5, L6, L7, L8, L9, L10, L11, L12, L13, L14, L15, L16, L17, L18, L19, L20, L21, L22, L23, L24, L25, L26, L27, L28, L29, L30, L31, L32, L33, L34, L35, L36, L37, L38, L39, L40, L41, L42, L43, L44, L45, L46, L47, L48, L49, L50, L51, L52, L53, L54, L55, L56, L57, L58, L59, L60, L61, L62, L63, L64, L65, L66, L67, L68, L69, L70, L71, L72, L73, L74, L75, L76, L77, L78, L79, L80, L81, L82, L83, L84, L85, L86, L87, L88, L89, L90, L91, L92, L93, L94, L95, L96, L97, L98, L99, L100, L101, L102, L103, L104, L105, L106, L107, L108, L109, L110, L111, L112, L113, L114, L115, L116, L117, L118, L119, L120, L121, L122, L123, L124, L125, L126, L127, L128, L129, L130, L131, L200, L240, L255, L260, L1000, L4096, L10140, L1000000, ng1, mI_lt, mI_le, lt_mI, le_mI, eq_mI, mI_eq, mI_mI, mI_mE, nI_add, pk_mul, pk_sub, pk_rem, sa_minN, sa_maxN, ne_eq, nI_leI, nI_ltI, nI_eq, dT_le, dF_le, dT_lt, dF_lt, dT_eq, dF_eq, true_imp_iff, false_imp_iff, not_true_eq_false, not_false_eq_true, false_or, or_false, true_or, or_true, false_and, and_false, Decidable.not_not, reduceIte, if_true, if_false, upI_self, upI_ne, upL_1, upL_21, upL_self, upL_ne, upR_1, upR_22, upR_self, upR_ne, va_up_self, va_up_ne, Nat.reduceAdd, Nat.reduceMul, Nat.reduceSub, Nat.reduceLT, Nat.reduceLeDiff, Nat.reduceEqDiff, Nat.reduceSubDiff, Nat.zero_add, cm3, cm5, cm7, cm8, cm25, Nat.not_lt_zero, Nat.zero_le, not_false_iff, and_self, imp_self, implies_true, forall_const, Nat.lt_irrefl, Nat.le_refl, and_imp, e1, a6, e6, hmap2]
  · rw [if_neg h]
    simp (disch := omega) only [f_X1_isWithin, wp_gd, wp_bnd, wp_let, wp_jn0, wp_jn1, wp_jn2, wp_if, wp_ret, wp_rdI, wp_rdL, v_rdR, v_ldI, v_ldL, v_ldR, v_stI, v_stB, v_stZ, v_stL, wp_wrI, wp_wrL, wp_wrR, wp_wrZ, wp_retZ, v_md, v_dv, v_tb, upI_2, true_and, and_true, Nat.add_sub_cancel, Nat.zero_lt_succ, Nat.succ_pos, okN, clN, L0, L1, L2, L3, L4, L5, L6, L7, L8, L9, L10, L11, L12, L13, L14, L15, L16, L17, L18, L19, L20, L21, L22, L23, L24, L25, L26, L27, L28, L29, L30, L31, L32, L33, L34, L35, L36, L37, L38, L39, L40, L41, L42, L43, L44, L45, L46, L47, L48, L49, L50, L51, L52, L53, L54, L55, L56, L57, L58, L59, L60, L61, L62, L63, L64, L65, L66, L67, L68, L69, L70, L71, L72, L73, L74, L75, L76, L77, L78, L79, L80, L81, L82, L83, L84, L85, L86, L87, L88, L89, L90, L91, L92, L93, L94, L95, L96, L97, L98, L99, L100, L101, L102, L103, L104, L105, L106, L107, L108, L109, L110, L111, L112, L113, L114, L115, L116, L117, L118, L119, L120, L121, L122, L123, L124, L125, L126, L127, L128, L129, L130, L131, L200, L240, L255, L260, L1000, L4096, L10140, L1000000, ng1, mI_lt, mI_le, lt_mI, le_mI, eq_mI, mI_eq, mI_mI, mI_mE, nI_add, pk_mul, pk_sub, pk_rem, sa_minN, sa_maxN, ne_eq, nI_leI, nI_ltI, nI_eq, dT_le, dF_le, dT_lt, dF_lt, dT_eq, dF_eq, true_imp_iff, false_imp_iff, not_true_eq_false, not_false_eq_true, false_or, or_false, true_or, or_true, false_and, and_false, Decidable.not_not, reduceIte, if_true, if_false, upI_self, upI_ne, upL_1, upL_21, upL_self, upL_ne, upR_1, upR_22, upR_self, upR_ne, va_up_self, va_up_ne, Nat.reduceAdd, Nat.reduceMul, Nat.reduceSub, Nat.reduceLT, Nat.reduceLeDiff, Nat.reduceEqDiff, Nat.reduceSubDiff, Nat.zero_add, cm3, cm5, cm7, cm8, cm25, Nat.not_lt_zero, Nat.zero_le, not_false_iff, and_self, imp_self, implies_true, forall_const, Nat.lt_irrefl, Nat.le_refl, and_imp, e1, a6, e6, hmap2]
theorem e_near1 (hcx : Cx L P W F n f z hold σ) (hP0 : 0 < P) (hK : σ.1 45 = k) (hkm : KM P W H B m k) (hP : P ≤ 8) (hr : r ≤ 7) {i N : Nat} (hi : i < m) (hN : N < 256) : f_X0_isNearOne 44 L (nI r) (nI i) (nI N) σ = some (nI (if nrO (hDr (hMp P W z) k r) m N i then 1 else 0), σ) := by
  have hk := hcx.1
  have m8 := hkm.1
  have e44 := sk_44_0 hk
  have fo : ∀ i, i < 8 → f_X0_of 44 (nI i) 0 σ = some (k (23 + 7 * i + 0), σ) := fun i hi => e_of (ca_44 hk) hK (j := 0) hi (by omega)
  obtain ⟨⟨xp8, o0⟩, -⟩ := (hkm.2.2.2.1 i hi).x hP
  have key : ∀ Q : Int32 → sa_St → Prop, Q (nI (if nrO (hDr (hMp P W z) k r) m N i then 1 else 0)) σ → wp (f_X0_isNearOne 44 L (nI r) (nI i) (nI N)) σ Q := by
    intro Q hQ
    unfold f_X0_isNearOne
    rw [wp_gd]
    refine ⟨rfl, ?_⟩
    rw [wp_let]
    refine wp_for1 m 0 (fun j τ => τ = σ ∧ (List.range j).any (fun j => N.testBit j && hDr (hMp P W z) k r i j) = false) ?_ ?_ ⟨rfl, rfl⟩ (by omega) (by unfold sa_F; omega)
    · rintro j τ hj ⟨rfl, hf⟩ c hc
      obtain ⟨⟨xj8, oj⟩, -⟩ := (hkm.2.2.2.1 j hj).x hP
      have hb : (nI N >>> (nI j &&& 31)) &&& 1 = nI (N / 2 ^ j % 2) := bitI (by omega) (by omega)
      have hs : (List.range (j + 1)).any (fun j => N.testBit j && hDr (hMp P W z) k r i j) = (N.testBit j && hDr (hMp P W z) k r i j) := by
        rw [List.range_succ, List.any_append, hf]
        simp
      rw [wp_bnd, wp_rdR (v := 45) rfl e44, wp_bnd, wp_ldI (j := 22) (n := 22) (len := 259) al_45 rfl (by omega) (by omega), hK, hkm.2.1, wp_if]
      refine ⟨fun q => absurd q (nI_ge hj (by omega)), fun _ => ?_⟩
      rw [wp_jn0, hb, wp_if]
      refine ⟨fun q => ?_, fun q => ?_⟩
      · rw [wp_let, nI_1]
        refine hc _ ⟨rfl, ?_⟩
        rw [hs, Nat.testBit_eq_decide_div_mod_eq, decide_eq_false (fun e => q (by rw [e]; rfl))]
        rfl
      · have q' : N.testBit j = true := by
          have q2 := Decidable.not_not.mp q
          rw [L1, nI_eq (by omega) (by omega)] at q2
          rw [Nat.testBit_eq_decide_div_mod_eq]
          exact decide_eq_true q2
        rw [wp_bnd, wp_of_eq (fo i (by omega)), o0, wp_bnd, wp_of_eq (fo j (by omega)), oj, wp_bnd, wp_of_eq (e_within hcx hP0 xp8 xj8 hr), wp_if]
        have hdd : hDr (hMp P W z) k r i j = decide (hMp P W z (xp k i) (xp k j) ≤ r) := rfl
        by_cases hd : hMp P W z (xp k i) (xp k j) ≤ r
        · rw [if_pos hd]
          refine ⟨fun q => absurd q (by decide), fun _ => ?_⟩
          rw [wp_retZ]
          have : nrO (hDr (hMp P W z) k r) m N i = true := by
            unfold nrO
            rw [List.any_eq_true]
            exact ⟨j, List.mem_range.mpr hj, by rw [q', hdd, decide_eq_true hd]; rfl⟩
          rw [this] at hQ
          exact ⟨Or.inr rfl, hQ⟩
        · rw [if_neg hd]
          refine ⟨fun _ => ?_, fun q => absurd rfl q⟩
          rw [wp_let, nI_1]
          refine hc _ ⟨rfl, ?_⟩
          rw [hs, hdd, decide_eq_false hd, Bool.and_false]
    · rintro τ ⟨rfl, hf⟩ c
      rw [wp_bnd, wp_rdR (v := 45) rfl e44, wp_bnd, wp_ldI (j := 22) (n := 22) (len := 259) al_45 rfl (by omega) (by omega), hK, hkm.2.1, wp_if]
      refine ⟨fun _ => ?_, fun q => absurd (nI_le (Nat.le_refl m) (by omega)) q⟩
      rw [wp_retZ]
      have : nrO (hDr (hMp P W z) k r) m N i = false := hf
      rw [this] at hQ
      exact ⟨Or.inl rfl, hQ⟩
  exact run_of (key _ ⟨rfl, rfl⟩)
theorem e_talk (hcx : Cx L P W F n f z hold σ) (hP0 : 0 < P) (hK : σ.1 45 = k) (hkm : KM P W H B m k) (hP : P ≤ 8) (hr : r ≤ 7) {c : Nat} (hc : c < m) : f_X0_talkingWith 44 L (nI r) (nI c) σ = some (nI (tkN (liv k m) (hDr (hMp P W z) k r) m c 8), σ) := by
  have hk := hcx.1
  have m8 := hkm.1
  have e44 := sk_44_0 hk
  have hlt := tkN_lt (lv := liv k m) (D := hDr (hMp P W z) k r) (m := m) m8 (show c < 8 by omega)
  have key : ∀ Q : Int32 → sa_St → Prop, Q (nI (tkN (liv k m) (hDr (hMp P W z) k r) m c 8)) σ → wp (f_X0_talkingWith 44 L (nI r) (nI c)) σ Q := by
    intro Q hQ
    unfold f_X0_talkingWith
    rw [wp_gd]
    refine ⟨rfl, ?_⟩
    have h1 : (1 : Int32) <<< (nI c &&& 31) = nI (2 ^ c) := shl1 c (by omega)
    rw [wp_let, wp_let, h1]
    refine wp_for2 8 0 (fun t a τ => τ = σ ∧ a = nI (tkN (liv k m) (hDr (hMp P W z) k r) m c t)) ?_ ?_ ⟨rfl, rfl⟩ (by omega) (by unfold sa_F; omega)
    · rintro t a τ ht ⟨rfl, rfl⟩ d hd
      rw [wp_if]
      refine ⟨fun q => absurd q (nI_ge (b := 8) ht (by omega)), fun _ => ?_⟩
      have hnt := hlt t
      have hnx : tkN (liv k m) (hDr (hMp P W z) k r) m c (t + 1) = ac (tk1 (liv k m) (hDr (hMp P W z) k r) m) (tkN (liv k m) (hDr (hMp P W z) k r) m c t) m := rfl
      rw [hnx] at hd
      generalize tkN (liv k m) (hDr (hMp P W z) k r) m c t = N at hnt hd ⊢
      have hl2 := tkR_lt (lv := liv k m) (D := hDr (hMp P W z) k r) m8 hnt
      rw [wp_let]
      refine wp_for2 m 0 (fun i a υ => υ = τ ∧ a = nI (ac (tk1 (liv k m) (hDr (hMp P W z) k r) m) N i)) ?_ ?_ ⟨rfl, rfl⟩ (by omega) (by unfold sa_F; omega)
      · rintro i a υ hi ⟨rfl, rfl⟩ c2 hc2
        have hli := hl2 i (by omega)
        have hs : ac (tk1 (liv k m) (hDr (hMp P W z) k r) m) N (i + 1) = tk1 (liv k m) (hDr (hMp P W z) k r) m (ac (tk1 (liv k m) (hDr (hMp P W z) k r) m) N i) i := rfl
        generalize ac (tk1 (liv k m) (hDr (hMp P W z) k r) m) N i = S at hli hs ⊢
        have fl := e_lives8 (ca_44 hk) hK hkm hP (show i < 8 by omega)
        have go : ∀ y : Int32, y = nI (tk1 (liv k m) (hDr (hMp P W z) k r) m S i) → wp (sa_let ((nI i + 1) : Int32) fun x13 => c2 y x13) υ Q := fun y hy => by
          rw [wp_let, nI_1]
          exact hc2 y υ ⟨rfl, by rw [hs]; exact hy⟩
        rw [wp_bnd, wp_rdR (v := 45) rfl e44, wp_bnd, wp_ldI (j := 22) (n := 22) (len := 259) al_45 rfl (by omega) (by omega), hK, hkm.2.1, wp_if]
        refine ⟨fun q => absurd q (nI_ge hi (by omega)), fun _ => ?_⟩
        rw [wp_bnd, wp_of_eq fl, wp_jn1, wp_if]
        cases hv : liv k m i with
        | false =>
          refine ⟨fun _ => ?_, fun q => absurd rfl q⟩
          exact go _ (by unfold tk1; rw [hv]; rfl)
        | true =>
          refine ⟨fun q => absurd q (by decide), fun _ => ?_⟩
          rw [wp_bnd, wp_of_eq (e_near1 hcx hP0 hK hkm hP hr hi hli), wp_if]
          cases hn : nrO (hDr (hMp P W z) k r) m S i with
          | false =>
            refine ⟨fun _ => ?_, fun q => absurd rfl q⟩
            exact go _ (by unfold tk1; rw [hv, hn]; rfl)
          | true =>
            refine ⟨fun q => absurd q (by decide), fun _ => ?_⟩
            rw [wp_let]
            refine go _ ?_
            have h2 : nI S ||| ((1 : Int32) <<< (nI i &&& 31)) = nI (S ||| 2 ^ i) := or_2p hli (by omega)
            rw [h2]
            unfold tk1
            rw [hv, hn]
            rfl
      · rintro a υ ⟨rfl, rfl⟩ c2
        rw [wp_bnd, wp_rdR (v := 45) rfl e44, wp_bnd, wp_ldI (j := 22) (n := 22) (len := 259) al_45 rfl (by omega) (by omega), hK, hkm.2.1, wp_if]
        refine ⟨fun _ => ?_, fun q => absurd (nI_le (Nat.le_refl m) (by omega)) q⟩
        rw [wp_let, nI_1]
        exact hd _ υ ⟨rfl, rfl⟩
    · rintro a τ ⟨rfl, rfl⟩ d
      rw [wp_if]
      refine ⟨fun _ => ?_, fun q => absurd (show (8 : Int32) ≤ nI 8 by decide) q⟩
      rw [wp_ret]
      exact hQ
  exact run_of (key _ ⟨rfl, rfl⟩)
theorem e_known (hk : SK σ.2.1) (hK : σ.1 45 = k) (hkm : KM P W H B m k) (hP : P ≤ 8) {N : Nat} (hN : N < 256) : f_X0_knownBy 44 (nI N) σ = some (nI (knB (liv k m) (xqm k m) N m), σ) := by
  have m8 := hkm.1
  have e44 := sk_44_0 hk
  have key : ∀ Q : Int32 → sa_St → Prop, Q (nI (knB (liv k m) (xqm k m) N m)) σ → wp (f_X0_knownBy 44 (nI N)) σ Q := by
    intro Q hQ
    unfold f_X0_knownBy
    rw [wp_gd]
    refine ⟨rfl, ?_⟩
    rw [wp_let, wp_let]
    refine wp_for2 m 0 (fun i a τ => τ = σ ∧ a = nI (knB (liv k m) (xqm k m) N i)) ?_ ?_ ⟨rfl, rfl⟩ (by omega) (by unfold sa_F; omega)
    · rintro i a τ hi ⟨rfl, rfl⟩ c hc
      have hs : knB (liv k m) (xqm k m) N (i + 1) = if N.testBit i && liv k m i then knB (liv k m) (xqm k m) N i ||| xqm k m i else knB (liv k m) (xqm k m) N i := rfl
      have hlt := knB_lt (lv := liv k m) (q := xqm k m) (n := N) (xqm_lt hkm) i
      obtain ⟨hq, oq⟩ := xq_eq hkm hi
      generalize knB (liv k m) (xqm k m) N i = S at hs hlt ⊢
      have fl := e_lives8 (ca_44 hk) hK hkm hP (show i < 8 by omega)
      have fq : f_X0_of 44 (nI i) 5 τ = some (k (23 + 7 * i + 5), τ) := e_of (ca_44 hk) hK (j := 5) (by omega) (by omega)
      have hb : (nI N >>> (nI i &&& 31)) &&& 1 = nI (N / 2 ^ i % 2) := bitI (by omega) (by omega)
      have go : ∀ y : Int32, y = nI (if N.testBit i && liv k m i then S ||| xqm k m i else S) → wp (sa_let ((nI i + 1) : Int32) fun x8 => c y x8) τ Q := fun y hy => by
        rw [wp_let, nI_1]
        exact hc y τ ⟨rfl, by rw [hs]; exact hy⟩
      rw [wp_bnd, wp_rdR (v := 45) rfl e44, wp_bnd, wp_ldI (j := 22) (n := 22) (len := 259) al_45 rfl (by omega) (by omega), hK, hkm.2.1, wp_if]
      refine ⟨fun q => absurd q (nI_ge hi (by omega)), fun _ => ?_⟩
      rw [wp_jn1, hb, wp_if]
      refine ⟨fun q => ?_, fun q => ?_⟩
      · refine go _ ?_
        rw [Nat.testBit_eq_decide_div_mod_eq, decide_eq_false (fun e => q (by rw [e]; rfl))]
        rfl
      · have q' : N.testBit i = true := by
          have q2 := Decidable.not_not.mp q
          rw [L1, nI_eq (by omega) (by omega)] at q2
          rw [Nat.testBit_eq_decide_div_mod_eq]
          exact decide_eq_true q2
        rw [wp_bnd, wp_of_eq fl, wp_if]
        cases hv : liv k m i with
        | false =>
          refine ⟨fun _ => ?_, fun q => absurd rfl q⟩
          exact go _ (by rw [hv, Bool.and_false]; rfl)
        | true =>
          refine ⟨fun q => absurd q (by decide), fun _ => ?_⟩
          rw [wp_bnd, wp_of_eq fq, oq, wp_let, nI_or (by omega) (by omega)]
          exact go _ (by rw [hv, q']; rfl)
    · rintro a τ ⟨rfl, rfl⟩ c
      rw [wp_bnd, wp_rdR (v := 45) rfl e44, wp_bnd, wp_ldI (j := 22) (n := 22) (len := 259) al_45 rfl (by omega) (by omega), hK, hkm.2.1, wp_if]
      refine ⟨fun _ => ?_, fun q => absurd (nI_le (Nat.le_refl m) (by omega)) q⟩
      rw [wp_ret]
      exact hQ
  exact run_of (key _ ⟨rfl, rfl⟩)
/-- how many know all -/
def hcn (lv p : Nat → Bool) : Nat → Nat := ac (fun a i => if lv i && p i then a + 1 else a) 0
theorem hcn_congr {lv p p2 : Nat → Bool} (h : ∀ i, lv i = true → p i = p2 i) : ∀ m, hcn lv p m = hcn lv p2 m := by
  intro m
  induction m with
  | zero => rfl
  | succ m ih =>
    show (if lv m && p m then hcn lv p m + 1 else hcn lv p m) = (if lv m && p2 m then hcn lv p2 m + 1 else hcn lv p2 m)
    rw [ih]
    cases hl : lv m with
    | false => rfl
    | true => rw [h m hl]
theorem c_hear (hcx : Cx L P W F n f z hold σ) (hP0 : 0 < P) (hK : σ.1 45 = k) (hkm : KM P W H B m k) (hP : P ≤ 8) (hr : r ≤ 7) : f_X0_howManyHear 44 L (nI r) σ = some (nI (hcn (liv k m) (fun i => decide (knB (liv k m) (xqm k m) (tkN (liv k m) (hDr (hMp P W z) k r) m i 8) m = knB (liv k m) (xqm k m) (2 ^ m - 1) m)) m), σ) := by
  have hk := hcx.1
  have m8 := hkm.1
  have e44 := sk_44_0 hk
  have p8 : 2 ^ m ≤ 2 ^ 8 := Nat.pow_le_pow_right (by omega) m8
  have p0 : 0 < 2 ^ m := Nat.two_pow_pos m
  have key : ∀ Q : Int32 → sa_St → Prop, Q (nI (hcn (liv k m) (fun i => decide (knB (liv k m) (xqm k m) (tkN (liv k m) (hDr (hMp P W z) k r) m i 8) m = knB (liv k m) (xqm k m) (2 ^ m - 1) m)) m)) σ → wp (f_X0_howManyHear 44 L (nI r)) σ Q := by
    intro Q hQ
    unfold f_X0_howManyHear
    rw [wp_gd]
    refine ⟨rfl, ?_⟩
    have h1 : (1 : Int32) <<< (nI m &&& 31) - 1 = nI (2 ^ m - 1) := by
      have h2 : (1 : Int32) <<< (nI m &&& 31) = nI (2 ^ m) := shl1 m (by omega)
      rw [h2]
      exact pk_sub (a := 2 ^ m) (b := 1) (by omega)
    rw [wp_bnd, wp_rdR (v := 45) rfl e44, wp_bnd, wp_ldI (j := 22) (n := 22) (len := 259) al_45 rfl (by omega) (by omega), hK, hkm.2.1, h1, wp_bnd, wp_of_eq (e_known hk hK hkm hP (by omega)), wp_let, wp_let]
    refine wp_for2 m 0 (fun i a τ => τ = σ ∧ a = nI (hcn (liv k m) (fun i => decide (knB (liv k m) (xqm k m) (tkN (liv k m) (hDr (hMp P W z) k r) m i 8) m = knB (liv k m) (xqm k m) (2 ^ m - 1) m)) i)) ?_ ?_ ⟨rfl, rfl⟩ (by omega) (by unfold sa_F; omega)
    · rintro i a τ hi ⟨rfl, rfl⟩ c hc
      have fl := e_lives8 (ca_44 hk) hK hkm hP (show i < 8 by omega)
      have hl8 := tkN_lt (lv := liv k m) (D := hDr (hMp P W z) k r) (m := m) m8 (show i < 8 by omega) 8
      have k1 := knB_lt (lv := liv k m) (q := xqm k m) (n := tkN (liv k m) (hDr (hMp P W z) k r) m i 8) (xqm_lt hkm) m
      have k2 := knB_lt (lv := liv k m) (q := xqm k m) (n := 2 ^ m - 1) (xqm_lt hkm) m
      have go : ∀ y : Int32, y = nI (hcn (liv k m) (fun i => decide (knB (liv k m) (xqm k m) (tkN (liv k m) (hDr (hMp P W z) k r) m i 8) m = knB (liv k m) (xqm k m) (2 ^ m - 1) m)) (i + 1)) → wp (sa_let ((nI i + 1) : Int32) fun x12 => c y x12) τ Q := fun y hy => by
        rw [wp_let, nI_1]
        exact hc y τ ⟨rfl, hy⟩
      have hs : hcn (liv k m) (fun i => decide (knB (liv k m) (xqm k m) (tkN (liv k m) (hDr (hMp P W z) k r) m i 8) m = knB (liv k m) (xqm k m) (2 ^ m - 1) m)) (i + 1) = if liv k m i && decide (knB (liv k m) (xqm k m) (tkN (liv k m) (hDr (hMp P W z) k r) m i 8) m = knB (liv k m) (xqm k m) (2 ^ m - 1) m) then hcn (liv k m) (fun i => decide (knB (liv k m) (xqm k m) (tkN (liv k m) (hDr (hMp P W z) k r) m i 8) m = knB (liv k m) (xqm k m) (2 ^ m - 1) m)) i + 1 else hcn (liv k m) (fun i => decide (knB (liv k m) (xqm k m) (tkN (liv k m) (hDr (hMp P W z) k r) m i 8) m = knB (liv k m) (xqm k m) (2 ^ m - 1) m)) i := rfl
      rw [hs] at go
      rw [wp_bnd, wp_rdR (v := 45) rfl e44, wp_bnd, wp_ldI (j := 22) (n := 22) (len := 259) al_45 rfl (by omega) (by omega), hK, hkm.2.1, wp_if]
      refine ⟨fun q => absurd q (nI_ge hi (by omega)), fun _ => ?_⟩
      rw [wp_bnd, wp_of_eq fl, wp_jn1, wp_if]
      cases hv : liv k m i with
      | false =>
        refine ⟨fun _ => ?_, fun q => absurd rfl q⟩
        exact go _ (by rw [hv]; rfl)
      | true =>
        refine ⟨fun q => absurd q (by decide), fun _ => ?_⟩
        rw [wp_bnd, wp_of_eq (e_talk hcx hP0 hK hkm hP hr hi), wp_bnd, wp_of_eq (e_known hk hK hkm hP hl8), wp_if]
        refine ⟨fun q => ?_, fun q => ?_⟩
        · rw [nI_eq (by omega) (by omega)] at q
          exact go _ (by rw [hv, decide_eq_false q]; rfl)
        · have q2 := Decidable.not_not.mp q
          rw [nI_eq (by omega) (by omega)] at q2
          rw [wp_let]
          refine go _ ?_
          rw [nI_1, hv, decide_eq_true q2]
          rfl
    · rintro a τ ⟨rfl, rfl⟩ c
      rw [wp_bnd, wp_rdR (v := 45) rfl e44, wp_bnd, wp_ldI (j := 22) (n := 22) (len := 259) al_45 rfl (by omega) (by omega), hK, hkm.2.1, wp_if]
      refine ⟨fun _ => ?_, fun q => absurd (nI_le (Nat.le_refl m) (by omega)) q⟩
      rw [wp_ret]
      exact hQ
  exact run_of (key _ ⟨rfl, rfl⟩)
end HEARC
