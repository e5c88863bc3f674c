section GRAIN
variable {L P W F n H B m R ρ : Nat} {f : Nat → LWt} {z : Nat → Int32} {hold : Int32} {σ0 σ : sa_St} {C : C3} {wl : Nat → Int32} {Q : Unit → sa_St → Prop}
theorem g_rain (hcx0 : Cx L P W F n f z hold σ0) (hR : R = 173 ∨ R = 174) (hkm : KM P W H B m C.1) (hH : H ≤ 100000) (hB : B + 1000 < 2 ^ 30) (hρ : ρ < 2 ^ 31) {ex : sa_M Unit} (hms : MS n f R σ0 C wl σ) (hQ : ∀ τ, MS n f R σ0 (zL (rD z C.1 ρ) (fun i => nI (rA f hold z C.1 i)) (xp C.1) C m) wl τ → wp ex τ Q) :
    wp (sa_wh1 (fun j12 (x2 : Int32) =>
sa_bnd (sa_rdI 12 159 25) fun v3 =>
if v3 ≤ x2 then
ex
else
sa_bnd (f_X12_has (nI ρ) x2) fun v34 =>
sa_jn0 (sa_let ((x2 + 1) : Int32) fun x35 =>
j12 x35) fun j104 =>
if ¬ v34 = 0 then
sa_let (0 : Int32) fun x36 =>
sa_wh1 (fun j34 (x37 : Int32) =>
sa_bnd (sa_ldI .int R 75) fun v38 =>
if v38 ≤ x37 then
j104
else
sa_bnd (f_X12_lives R x37) fun v39 =>
sa_jn0 (sa_let ((x37 + 1) : Int32) fun x40 =>
j34 x40) fun j98 =>
if v39 = 0 then
j98
else
sa_bnd (sa_ldI .int R (7 * x37)) fun v41 =>
if ¬ v41 = x2 then
j98
else
sa_bnd (sa_ldI .int R ((7 * x37) + 1)) fun v42 =>
sa_jn0 (sa_bnd (f_X12_wearOf 159 R x37) fun v43 =>
sa_bnd (f_X12_loses 159 R x37 v43 0) fun _ =>
j98) fun j83 =>
if 0 < v42 then
j83
else
sa_bnd (f_X12_isRoofed 159 x2) fun v44 =>
if ¬ v44 = 0 then
j98
else
j83) sa_F x36
else
j104) sa_F 0) σ Q := by
  have hzr := hcx0.zr
  have P8 := hzr.1.1
  have hxP : ∀ i, i < m → xp C.1 i < P := fun i hi => ((hkm.2.2.2.1 i hi).x P8).1.1
  have h00 : zR f hold z ρ C m 0 0 = C := zL_none (fun i _ => by unfold dP; simp)
  refine wp_for1 P 0 (fun p τ => MS n f R σ0 (zR f hold z ρ C m p 0) wl τ) ?_ ?_ (by rw [h00]; exact hms) (by omega) (by unfold sa_F; omega)
  · intro p τ hp hI c hc
    have hcx := (hI.1.fm hR).cx hcx0
    have r0 := hcx.2.2.1.2.1.2.2.2.1
    have f3 := m_has (σ := τ) hρ (show p < 8 by omega)
    have hbl : ρ / 2 ^ p % 2 < 2 := Nat.mod_lt _ (by omega)
    by_cases hb : ρ / 2 ^ p % 2 = 1
    · rw [hb] at f3
      simp only [wp_bnd, wp_rdI, sh_159, true_and]
      rw [wp_if]
      refine ⟨fun q => absurd q (by rw [r0]; exact nI_ge hp (by omega)), fun _ => ?_⟩
      rw [wp_bnd, wp_of_eq f3, wp_jn0, wp_if]
      refine ⟨fun _ => ?_, fun q => absurd (show ¬ nI 1 = 0 by decide) q⟩
      rw [wp_let]
      refine g_rain1 hcx0 hR hkm hH hB hp hb hI (fun τ2 h2 => ?_)
      rw [wp_let, nI_1]
      refine hc τ2 ?_
      have e : zR f hold z ρ C m (p + 1) 0 = zR f hold z ρ C m p m := by
        refine zL_congr (fun i hi => ?_)
        unfold dP
        congr 1
        simp only [Nat.not_lt_zero, decide_false, Bool.and_false, Bool.or_false, hi, decide_true, Bool.and_true]
        rw [← Bool.decide_or]
        apply decide_eq_decide.mpr
        omega
      rw [e]
      exact h2
    · rw [show ρ / 2 ^ p % 2 = 0 by omega] at f3
      simp only [wp_bnd, wp_rdI, sh_159, true_and]
      rw [wp_if]
      refine ⟨fun q => absurd q (by rw [r0]; exact nI_ge hp (by omega)), fun _ => ?_⟩
      rw [wp_bnd, wp_of_eq f3, wp_jn0, wp_if]
      refine ⟨fun q => absurd (show nI 0 = 0 from rfl) q, fun _ => ?_⟩
      rw [wp_let, nI_1]
      refine hc τ ?_
      have e : zR f hold z ρ C m (p + 1) 0 = zR f hold z ρ C m p 0 := by
        refine zL_congr (fun i hi => ?_)
        unfold dP
        by_cases hx : xp C.1 i = p
        · have hr : rD z C.1 ρ i = false := by
            unfold rD
            rw [hx]
            simp [hb]
          rw [hr]
          rfl
        · congr 1
          simp only [Nat.not_lt_zero, decide_false, Bool.and_false, Bool.or_false]
          apply decide_eq_decide.mpr
          omega
      rw [e]
      exact hI
  · intro τ hI c
    have hcx := (hI.1.fm hR).cx hcx0
    have r0 := hcx.2.2.1.2.1.2.2.2.1
    simp only [wp_bnd, wp_rdI, sh_159, true_and]
    rw [wp_if]
    refine ⟨fun _ => hQ τ ?_, fun q => absurd (by rw [r0]; exact nI_le (Nat.le_refl P) (by omega)) q⟩
    have e : zL (rD z C.1 ρ) (fun i => nI (rA f hold z C.1 i)) (xp C.1) C m = zR f hold z ρ C m P 0 := by
      refine zL_congr (fun i hi => ?_)
      unfold dP
      simp [hxP i hi]
    rw [e]
    exact hI
end GRAIN
/-! WALKING -/
def fd (z : Nat → Int32) (v : Nat) : Nat := (z (60 + 5 * v + 3)).toNatClampNeg
def wS1 (C : C3) (i : Nat) : C3 := (va_up C.1 (23 + 7 * i + 1) (nI (xl C.1 i - 1)), C.2)
def wS (z : Nat → Int32) (C : C3) (i : Nat) : C3 := if xg C.1 i = 0 then C else if xl C.1 i = 0 then C else if xl C.1 i = 1 then cR (wS1 C i) i (nI (min (fd z (xv C.1 i)) (xg C.1 i))) else wS1 C i
section WALK
variable {L P W F n H B m R : Nat} {f : Nat → LWt} {z : Nat → Int32} {hold : Int32} {σ0 σ : sa_St} {C : C3} {wl : Nat → Int32} {Q : Unit → sa_St → Prop}
theorem KM.walk1 (h : KM P W H B m C.1) (hP : P ≤ 8) {i : Nat} (hi : i < m) (hl : 0 < xl C.1 i) : KM P W H B m (wS1 C i).1 := by
  obtain ⟨-, ⟨xl9, xv12, hxv, kl, kv⟩, -⟩ := (h.2.2.2.1 i hi).x hP
  exact h.left hi kv xv12 (by omega) (fun _ => hxv hl)
theorem KM.walkS (h : KM P W H B m C.1) (hP : P ≤ 8) {i : Nat} (hi : i < m) : KM P W H B m (wS z C i).1 := by
  unfold wS
  by_cases h1 : xg C.1 i = 0
  · rw [if_pos h1]; exact h
  rw [if_neg h1]
  by_cases h2 : xl C.1 i = 0
  · rw [if_pos h2]; exact h
  rw [if_neg h2]
  have hk1 := h.walk1 hP hi (by omega)
  by_cases h3 : xl C.1 i = 1
  · rw [if_pos h3]
    obtain ⟨-, -, ⟨xg99, kg⟩, -⟩ := (h.2.2.2.1 i hi).x hP
    refine hk1.lostR hi (g := xg C.1 i) ?_ xg99 (Nat.min_le_right _ _)
    show va_up C.1 _ _ _ = _
    rw [va_up_ne _ _ (by omega)]
    exact kg
  · rw [if_neg h3]; exact hk1
theorem KM.walk (h : KM P W H B m C.1) (hP : P ≤ 8) : ∀ x, x ≤ m → KM P W H B m (ac (wS z) C x).1 := by
  intro x
  induction x with
  | zero => intro _; exact h
  | succ x ih => intro hx; exact (ih (by omega)).walkS hP (by omega)
theorem fd_eq (hz : ZR P W F z) {v : Nat} (hv : v < W) : fd z v ≤ 9 ∧ z (60 + 5 * v + 3) = nI (fd z v) := by
  obtain ⟨h, h9, e⟩ := (hz.2.2.1 v hv).2.2
  unfold fd
  rw [e, nI_clamp (by omega)]
  exact ⟨h9, rfl⟩
theorem c_walk {id K : Nat} (hcx0 : Cx L P W F n f z hold σ0) (hca0 : CA σ0.2.1 id K) (hid : id = 44 ∧ K = 45 ∨ id = 46 ∧ K = 47) (hcs : CS (sS K id) σ0 id K C σ) (hkm : KM P W H B m C.1) (hQ : ∀ τ, CS (sS K id) σ0 id K (ac (wS z) C m) τ → Q () τ) : wp (f_X0_letWalk id L) σ Q := by
  have hzr := hcx0.zr
  have m8 := hkm.1
  have P8 := hzr.1.1
  have W12 := hzr.1.2.1
  have q1 := hca0.1
  have hkx := hkm.walk (z := z) P8
  simp (disch := omega) only [f_X0_letWalk, wp_gd, wp_bnd, wp_let, wp_jn0, wp_jn1, wp_jn2, wp_if, wp_ret, wp_rdI, wp_rdL, v_rdR, v_ldI, v_ldL, v_ldR, v_stI, v_stB, v_stZ, v_stL, wp_wrI, wp_wrL, wp_wrR, wp_wrZ, wp_retZ, v_md, v_dv, v_tb, upI_2, true_and, and_true, Nat.add_sub_cancel, Nat.zero_lt_succ, Nat.succ_pos, okN, clN, L0, L1, L2, L3, L4, L5, L6, L7, L8, L9, L10, L11, L12, L13, L14, L15, L16, L17, L18, L19, L20, L21, L22, L23, L24, L25, L26, L27, L28, L29, L30, L31, L32, L33, L34, L35, L36, L37, L38, L39, L40, L41, L42, L43, L44, L45, L46, L47, L48, L49, L50, L51, L52, L53, L54, L55, L56, L57, L58, L59, L60, L61, L62, L63, L64, L65, L66, L67, L68, L69, L70, L71, L72, L73, L74, L75, L76, L77, L78, L79, L80, L81, L82, L83, L84, L85, L86, L87, L88, L89, L90, L91, L92, L93, L94, L95, L96, L97, L98, L99, L100, L101, L102, L103, L104, L105, L106, L107, L108, L109, L110, L111, L112, L113, L114, L115, L116, L117, L118, L119, L120, L121, L122, L123, L124, L125, L126, L127, L128, L129, L130, L131, L200, L240, L255, L260, L1000, L4096, L10140, L1000000, ng1, mI_lt, mI_le, lt_mI, le_mI, eq_mI, mI_eq, mI_mI, mI_mE, nI_add, pk_mul, pk_sub, pk_rem, sa_minN, sa_maxN, ne_eq, nI_leI, nI_ltI, nI_eq, dT_le, dF_le, dT_lt, dF_lt, dT_eq, dF_eq, true_imp_iff, false_imp_iff, not_true_eq_false, not_false_eq_true, false_or, or_false, true_or, or_true, false_and, and_false, Decidable.not_not, reduceIte, if_true, if_false, upI_self, upI_ne, upL_1, upL_21, upL_self, upL_ne, upR_1, upR_22, upR_self, upR_ne, va_up_self, va_up_ne, Nat.reduceAdd, Nat.reduceMul, Nat.reduceSub, Nat.reduceLT, Nat.reduceLeDiff, Nat.reduceEqDiff, Nat.reduceSubDiff, Nat.zero_add, cm3, cm5, cm7, cm8, cm25, Nat.not_lt_zero, Nat.zero_le, not_false_iff, and_self, imp_self, implies_true, forall_const, Nat.lt_irrefl, Nat.le_refl, and_imp, q1]
  refine wp_for1 m 0 (fun i τ => CS (sS K id) σ0 id K (ac (wS z) C i) τ) ?_ ?_ hcs (by omega) (by unfold sa_F; omega)
  · intro i τ hi hI c hc
    have hcx := (hI.fa hid).cx hcx0
    have hca := hI.ca hca0
    have hk1 := hkx i (by omega)
    have step : ac (wS z) C (i + 1) = wS z (ac (wS z) C i) i := rfl
    rw [step] at hc
    generalize ac (wS z) C i = Ci at hI hk1 hc
    obtain ⟨⟨xp8, o0⟩, ⟨xl9, xv12, hxv, o1, o6⟩, ⟨xg99, o2⟩, -⟩ := (hk1.2.2.2.1 i hi).x P8
    have o22 := hk1.2.1
    have c2 := hI.2.1
    have i8 : i < 8 := by omega
    have f1 := e_lives hca c2 o22 m8 hi o2 xg99
    have f2 := e_of hca c2 (j := 1) i8 (by omega)
    rw [o1] at f2
    have q1 := hca.1
    have q2 := hca.2.1
    have q3 := hca.al
    have eS : wS z Ci i = if xg Ci.1 i = 0 then Ci else if xl Ci.1 i = 0 then Ci else if xl Ci.1 i = 1 then cR (wS1 Ci i) i (nI (min (fd z (xv Ci.1 i)) (xg Ci.1 i))) else wS1 Ci i := rfl
    by_cases g0 : xg Ci.1 i = 0
    · rw [if_pos g0] at eS
      have hs := hc τ (by rw [eS]; exact hI)
      clear hid hQ hc hcs hkm hzr hcx hcx0 hkx hk1
      simp (disch := omega) only [wp_gd, wp_bnd, wp_let, wp_jn0, wp_jn1, wp_jn2, wp_if, wp_ret, wp_rdI, wp_rdL, v_rdR, v_ldI, v_ldL, v_ldR, v_stI, v_stB, v_stZ, v_stL, wp_wrI, wp_wrL, wp_wrR, wp_wrZ, wp_retZ, v_md, v_dv, v_tb, upI_2, true_and, and_true, Nat.add_sub_cancel, Nat.zero_lt_succ, Nat.succ_pos, okN, clN, L0, L1, L2, L3, L4, L5, L6, L7, L8, L9, L10, L11, L12, L13, L14, L15, L16, L17, L18, L19, L20, L21, L22, L23, L24, L25, L26, L27, L28, L29, L30, L31, L32, L33, L34, L35, L36, L37, L38, L39, L40, L41, L42, L43, L44, L45, L46, L47, L48, L49, L50, L51, L52, L53, L54, L55, L56, L57, L58, L59, L60, L61, L62, L63, L64, L65, L66, L67, L68, L69, L70, L71, L72, L73, L74, L75, L76, L77, L78, L79, L80, L81, L82, L83, L84, L85, L86, L87, L88, L89, L90, L91, L92, L93, L94, L95, L96, L97, L98, L99, L100, L101, L102, L103, L104, L105, L106, L107, L108, L109, L110, L111, L112, L113, L114, L115, L116, L117, L118, L119, L120, L121, L122, L123, L124, L125, L126, L127, L128, L129, L130, L131, L200, L240, L255, L260, L1000, L4096, L10140, L1000000, ng1, mI_lt, mI_le, lt_mI, le_mI, eq_mI, mI_eq, mI_mI, mI_mE, nI_add, pk_mul, pk_sub, pk_rem, sa_minN, sa_maxN, ne_eq, nI_leI, nI_ltI, nI_eq, dT_le, dF_le, dT_lt, dF_lt, dT_eq, dF_eq, true_imp_iff, false_imp_iff, not_true_eq_false, not_false_eq_true, false_or, or_false, true_or, or_true, false_and, and_false, Decidable.not_not, reduceIte, if_true, if_false, upI_self, upI_ne, upL_1, upL_21, upL_self, upL_ne, upR_1, upR_22, upR_self, upR_ne, va_up_self, va_up_ne, Nat.reduceAdd, Nat.reduceMul, Nat.reduceSub, Nat.reduceLT, Nat.reduceLeDiff, Nat.reduceEqDiff, Nat.reduceSubDiff, Nat.zero_add, cm3, cm5, cm7, cm8, cm25, Nat.not_lt_zero, Nat.zero_le, not_false_iff, and_self, imp_self, implies_true, forall_const, Nat.lt_irrefl, Nat.le_refl, and_imp, q1, q2, q3, c2, o22, wp_of_eq f1]
      exact hs
    rw [if_neg g0] at eS
    by_cases l0 : xl Ci.1 i = 0
    · rw [if_pos l0] at eS
      have hs := hc τ (by rw [eS]; exact hI)
      clear hid hQ hc hcs hkm hzr hcx hcx0 hkx hk1
      simp (disch := omega) only [wp_gd, wp_bnd, wp_let, wp_jn0, wp_jn1, wp_jn2, wp_if, wp_ret, wp_rdI, wp_rdL, v_rdR, v_ldI, v_ldL, v_ldR, v_stI, v_stB, v_stZ, v_stL, wp_wrI, wp_wrL, wp_wrR, wp_wrZ, wp_retZ, v_md, v_dv, v_tb, upI_2, true_and, and_true, Nat.add_sub_cancel, Nat.zero_lt_succ, Nat.succ_pos, okN, clN, L0, L1, L2, L3, L4, L5, L6, L7, L8, L9, L10, L11, L12, L13, L14, L15, L16, L17, L18, L19, L20, L21, L22, L23, L24, L25, L26, L27, L28, L29, L30, L31, L32, L33, L34, L35, L36, L37, L38, L39, L40, L41, L42, L43, L44, L45, L46, L47, L48, L49, L50, L51, L52, L53, L54, L55, L56, L57, L58, L59, L60, L61, L62, L63, L64, L65, L66, L67, L68, L69, L70, L71, L72, L73, L74, L75, L76, L77, L78, L79, L80, L81, L82, L83, L84, L85, L86, L87, L88, L89, L90, L91, L92, L93, L94, L95, L96, L97, L98, L99, L100, L101, L102, L103, L104, L105, L106, L107, L108, L109, L110, L111, L112, L113, L114, L115, L116, L117, L118, L119, L120, L121, L122, L123, L124, L125, L126, L127, L128, L129, L130, L131, L200, L240, L255, L260, L1000, L4096, L10140, L1000000, ng1, mI_lt, mI_le, lt_mI, le_mI, eq_mI, mI_eq, mI_mI, mI_mE, nI_add, pk_mul, pk_sub, pk_rem, sa_minN, sa_maxN, ne_eq, nI_leI, nI_ltI, nI_eq, dT_le, dF_le, dT_lt, dF_lt, dT_eq, dF_eq, true_imp_iff, false_imp_iff, not_true_eq_false, not_false_eq_true, false_or, or_false, true_or, or_true, false_and, and_false, Decidable.not_not, reduceIte, if_true, if_false, upI_self, upI_ne, upL_1, upL_21, upL_self, upL_ne, upR_1, upR_22, upR_self, upR_ne, va_up_self, va_up_ne, Nat.reduceAdd, Nat.reduceMul, Nat.reduceSub, Nat.reduceLT, Nat.reduceLeDiff, Nat.reduceEqDiff, Nat.reduceSubDiff, Nat.zero_add, cm3, cm5, cm7, cm8, cm25, Nat.not_lt_zero, Nat.zero_le, not_false_iff, and_self, imp_self, implies_true, forall_const, Nat.lt_irrefl, Nat.le_refl, and_imp, q1, q2, q3, c2, o22, wp_of_eq f1, wp_of_eq f2]
      exact hs
    rw [if_neg l0] at eS
    have hI2 : CS (sS K id) σ0 id K (wS1 Ci i) (sa_upI τ K (23 + 7 * i + 1) (nI (xl Ci.1 i - 1))) := by
      refine ⟨Fr.up hI.1 (by simp), ?_, ?_, ?_⟩
      · rw [upI_self, c2]; rfl
      · rw [upI_ne (Ne.symm hca.ne)]; exact hI.2.2.1
      · rw [upI_ne (Ne.symm hca.ne)]; exact hI.2.2.2
    have hcx2 := (hI2.fa hid).cx hcx0
    by_cases l1 : xl Ci.1 i = 1
    · rw [if_pos l1] at eS
      obtain ⟨fd9, hfd⟩ := fd_eq hzr (hxv (by omega))
      have hxw := hxv (by omega)
      have go : wp (f_X0_lose id (nI i) (nI (fd z (xv Ci.1 i))) mI) (sa_upI τ K (23 + 7 * i + 1) (nI (xl Ci.1 i - 1))) (fun _ τ3 => wp (c (nI (i + 1))) τ3 Q) := by
        refine w_lose (q := none) (hI2.ca hca0) hI2 (by simp) (by simp) i8 (Or.inl ⟨rfl, rfl⟩) (fun τ2 h2 => hc τ2 ?_)
        rw [eS]
        rw [c_lose_cR] at h2
        have e : (wS1 Ci i).1 (23 + 7 * i + 2) = nI (xg Ci.1 i) := by
          show va_up Ci.1 _ _ _ = _
          rw [va_up_ne _ _ (by omega)]
          exact o2
        rw [e, sa_minN (by omega) (by omega)] at h2
        exact h2
      obtain ⟨hk, hL, hLd, hM, hW, hz0, hh0⟩ := hcx2
      obtain ⟨⟨a1, a2, a3, a4, a5, a6⟩, e1, e2, e3, e4, e5, e6⟩ := LD.of hk hL
      have e60 : z (5 * (12 + xv Ci.1 i) + 3) = nI (fd z (xv Ci.1 i)) := by
        rw [show 5 * (12 + xv Ci.1 i) + 3 = 60 + 5 * xv Ci.1 i + 3 by omega]
        exact hfd
      have hz2 : (sa_upI τ K (23 + 7 * i + 1) (nI (xl Ci.1 i - 1))).1 (L + 2) = z := hz0
      have b3 : (sa_upI τ K (23 + 7 * i + 1) (nI (xl Ci.1 i - 1))).2.1 L 1 = L + 2 + 1 := a3
      rw [upI_2] at b3
      generalize hσ2 : sa_upI τ K (23 + 7 * i + 1) (nI (xl Ci.1 i - 1)) = τ2 at go hz2
      have hK2 : τ2.1 K = va_up Ci.1 (23 + 7 * i + 1) (nI (xl Ci.1 i - 1)) := by rw [← hσ2, upI_self, c2]
      have hR2 : τ2.2 = τ.2 := by rw [← hσ2]; rfl
      clear hid hQ hc hcs hkm hzr hcx hcx0 hkx hk1 hI hI2 hLd hM hW hk hL hfd eS a1 a2 a3 a4 a5 a6
      simp (disch := omega) only [f_X0_set, f_X0_of, f_X1_cell, wp_gd, wp_bnd, wp_let, wp_jn0, wp_jn1, wp_jn2, wp_if, wp_ret, wp_rdI, wp_rdL, v_rdR, v_ldI, v_ldL, v_ldR, v_stI, v_stB, v_stZ, v_stL, wp_wrI, wp_wrL, wp_wrR, wp_wrZ, wp_retZ, v_md, v_dv, v_tb, upI_2, true_and, and_true, Nat.add_sub_cancel, Nat.zero_lt_succ, Nat.succ_pos, okN, clN, L0, L1, L2, L3, L4, L5, L6, L7, L8, L9, L10, L11, L12, L13, L14, L15, L16, L17, L18, L19, L20, L21, L22, L23, L24, L25, L26, L27, L28, L29, L30, L31, L32, L33, L34, L35, L36, L37, L38, L39, L40, L41, L42, L43, L44, L45, L46, L47, L48, L49, L50, L51, L52, L53, L54, L55, L56, L57, L58, L59, L60, L61, L62, L63, L64, L65, L66, L67, L68, L69, L70, L71, L72, L73, L74, L75, L76, L77, L78, L79, L80, L81, L82, L83, L84, L85, L86, L87, L88, L89, L90, L91, L92, L93, L94, L95, L96, L97, L98, L99, L100, L101, L102, L103, L104, L105, L106, L107, L108, L109, L110, L111, L112, L113, L114, L115, L116, L117, L118, L119, L120, L121, L122, L123, L124, L125, L126, L127, L128, L129, L130, L131, L200, L240, L255, L260, L1000, L4096, L10140, L1000000, ng1, mI_lt, mI_le, lt_mI, le_mI, eq_mI, mI_eq, mI_mI, mI_mE, nI_add, pk_mul, pk_sub, pk_rem, sa_minN, sa_maxN, ne_eq, nI_leI, nI_ltI, nI_eq, dT_le, dF_le, dT_lt, dF_lt, dT_eq, dF_eq, true_imp_iff, false_imp_iff, not_true_eq_false, not_false_eq_true, false_or, or_false, true_or, or_true, false_and, and_false, Decidable.not_not, reduceIte, if_true, if_false, upI_self, upI_ne, upL_1, upL_21, upL_self, upL_ne, upR_1, upR_22, upR_self, upR_ne, va_up_self, va_up_ne, Nat.reduceAdd, Nat.reduceMul, Nat.reduceSub, Nat.reduceLT, Nat.reduceLeDiff, Nat.reduceEqDiff, Nat.reduceSubDiff, Nat.zero_add, cm3, cm5, cm7, cm8, cm25, Nat.not_lt_zero, Nat.zero_le, not_false_iff, and_self, imp_self, implies_true, forall_const, Nat.lt_irrefl, Nat.le_refl, and_imp, q1, q2, q3, c2, o22, wp_of_eq f1, o1, hσ2, hK2, hR2, e1, b3, e3, o6, hz2, e60]
      exact go
    · rw [if_neg l1] at eS
      have hs := hc _ (by rw [eS]; exact hI2)
      clear hid hQ hc hcs hkm hzr hcx hcx0 hkx hk1 hI hI2 hcx2 eS
      simp (disch := omega) only [f_X0_set, f_X0_of, wp_gd, wp_bnd, wp_let, wp_jn0, wp_jn1, wp_jn2, wp_if, wp_ret, wp_rdI, wp_rdL, v_rdR, v_ldI, v_ldL, v_ldR, v_stI, v_stB, v_stZ, v_stL, wp_wrI, wp_wrL, wp_wrR, wp_wrZ, wp_retZ, v_md, v_dv, v_tb, upI_2, true_and, and_true, Nat.add_sub_cancel, Nat.zero_lt_succ, Nat.succ_pos, okN, clN, L0, L1, L2, L3, L4, L5, L6, L7, L8, L9, L10, L11, L12, L13, L14, L15, L16, L17, L18, L19, L20, L21, L22, L23, L24, L25, L26, L27, L28, L29, L30, L31, L32, L33, L34, L35, L36, L37, L38, L39, L40, L41, L42, L43, L44, L45, L46, L47, L48, L49, L50, L51, L52, L53, L54, L55, L56, L57, L58, L59, L60, L61, L62, L63, L64, L65, L66, L67, L68, L69, L70, L71, L72, L73, L74, L75, L76, L77, L78, L79, L80, L81, L82, L83, L84, L85, L86, L87, L88, L89, L90, L91, L92, L93, L94, L95, L96, L97, L98, L99, L100, L101, L102, L103, L104, L105, L106, L107, L108, L109, L110, L111, L112, L113, L114, L115, L116, L117, L118, L119, L120, L121, L122, L123, L124, L125, L126, L127, L128, L129, L130, L131, L200, L240, L255, L260, L1000, L4096, L10140, L1000000, ng1, mI_lt, mI_le, lt_mI, le_mI, eq_mI, mI_eq, mI_mI, mI_mE, nI_add, pk_mul, pk_sub, pk_rem, sa_minN, sa_maxN, ne_eq, nI_leI, nI_ltI, nI_eq, dT_le, dF_le, dT_lt, dF_lt, dT_eq, dF_eq, true_imp_iff, false_imp_iff, not_true_eq_false, not_false_eq_true, false_or, or_false, true_or, or_true, false_and, and_false, Decidable.not_not, reduceIte, if_true, if_false, upI_self, upI_ne, upL_1, upL_21, upL_self, upL_ne, upR_1, upR_22, upR_self, upR_ne, va_up_self, va_up_ne, Nat.reduceAdd, Nat.reduceMul, Nat.reduceSub, Nat.reduceLT, Nat.reduceLeDiff, Nat.reduceEqDiff, Nat.reduceSubDiff, Nat.zero_add, cm3, cm5, cm7, cm8, cm25, Nat.not_lt_zero, Nat.zero_le, not_false_iff, and_self, imp_self, implies_true, forall_const, Nat.lt_irrefl, Nat.le_refl, and_imp, q1, q2, q3, c2, o22, wp_of_eq f1, o1]
      exact hs
  · intro τ hI c
    have hca := hI.ca hca0
    have o22 := (hkx m (Nat.le_refl m)).2.1
    have c2 := hI.2.1
    have q1 := hca.1
    have q2 := hca.2.1
    have q3 := hca.al
    have hq := hQ τ hI
    clear hid
    simp (disch := omega) only [wp_gd, wp_bnd, wp_let, wp_jn0, wp_jn1, wp_jn2, wp_if, wp_ret, wp_rdI, wp_rdL, v_rdR, v_ldI, v_ldL, v_ldR, v_stI, v_stB, v_stZ, v_stL, wp_wrI, wp_wrL, wp_wrR, wp_wrZ, wp_retZ, v_md, v_dv, v_tb, upI_2, true_and, and_true, Nat.add_sub_cancel, Nat.zero_lt_succ, Nat.succ_pos, okN, clN, L0, L1, L2, L3, L4, L5, L6, L7, L8, L9, L10, L11, L12, L13, L14, L15, L16, L17, L18, L19, L20, L21, L22, L23, L24, L25, L26, L27, L28, L29, L30, L31, L32, L33, L34, L35, L36, L37, L38, L39, L40, L41, L42, L43, L44, L45, L46, L47, L48, L49, L50, L51, L52, L53, L54, L55, L56, L57, L58, L59, L60, L61, L62, L63, L64, L65, L66, L67, L68, L69, L70, L71, L72, L73, L74, L75, L76, L77, L78, L79, L80, L81, L82, L83, L84, L85, L86, L87, L88, L89, L90, L91, L92, L93, L94, L95, L96, L97, L98, L99, L100, L101, L102, L103, L104, L105, L106, L107, L108, L109, L110, L111, L112, L113, L114, L115, L116, L117, L118, L119, L120, L121, L122, L123, L124, L125, L126, L127, L128, L129, L130, L131, L200, L240, L255, L260, L1000, L4096, L10140, L1000000, ng1, mI_lt, mI_le, lt_mI, le_mI, eq_mI, mI_eq, mI_mI, mI_mE, nI_add, pk_mul, pk_sub, pk_rem, sa_minN, sa_maxN, ne_eq, nI_leI, nI_ltI, nI_eq, dT_le, dF_le, dT_lt, dF_lt, dT_eq, dF_eq, true_imp_iff, false_imp_iff, not_true_eq_false, not_false_eq_true, false_or, or_false, true_or, or_true, false_and, and_false, Decidable.not_not, reduceIte, if_true, if_false, upI_self, upI_ne, upL_1, upL_21, upL_self, upL_ne, upR_1, upR_22, upR_self, upR_ne, va_up_self, va_up_ne, Nat.reduceAdd, Nat.reduceMul, Nat.reduceSub, Nat.reduceLT, Nat.reduceLeDiff, Nat.reduceEqDiff, Nat.reduceSubDiff, Nat.zero_add, cm3, cm5, cm7, cm8, cm25, Nat.not_lt_zero, Nat.zero_le, not_false_iff, and_self, imp_self, implies_true, forall_const, Nat.lt_irrefl, Nat.le_refl, and_imp, q1, q2, q3, c2, o22]
    exact hq
end WALK
