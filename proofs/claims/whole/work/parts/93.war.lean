/-! WAR: draws, hours one behind the other -/
def sd (x : Int64) : Int64 := x * 6364136223846793005 + 1442695040888963407
def sdN (x : Int64) : Nat → Int64
  | 0 => x
  | p + 1 => sd (sdN x p)
def du (x : Int64) : Nat := (x.toUInt64 >>> ((33 : Int32).toInt64.toUInt64 &&& Int64.toUInt64 63)).toNat
theorem du_lt (x : Int64) : du x < 2 ^ 31 := by
  unfold du
  have e : ((33 : Int32).toInt64.toUInt64 &&& Int64.toUInt64 63) = 33 := by decide
  rw [e, UInt64.toNat_shiftRight]
  have h := x.toUInt64.toNat_lt
  show x.toUInt64.toNat >>> (33 % 64) < 2 ^ 31
  rw [Nat.shiftRight_eq_div_pow, show (2 : Nat) ^ (33 % 64) = 8589934592 from rfl]
  omega
theorem du_eq (x : Int64) : (x.toUInt64 >>> ((33 : Int32).toInt64.toUInt64 &&& Int64.toUInt64 63)).toInt64 = lN (du x) := by
  unfold du lN
  generalize x.toUInt64 >>> ((33 : Int32).toInt64.toUInt64 &&& Int64.toUInt64 63) = y
  apply Int64.toBitVec_inj.mp
  apply BitVec.eq_of_toNat_eq
  show y.toBitVec.toNat = (BitVec.ofNat 64 y.toNat).toNat
  rw [BitVec.toNat_ofNat]
  exact (Nat.mod_eq_of_lt y.toNat_lt).symm
theorem du_eq2 (x : Int64) : (x.toUInt64 >>> ((lN 33).toUInt64 &&& Int64.toUInt64 63)).toInt64 = lN (du x) := by
  rw [← du_eq x, show (33 : Int32).toInt64 = lN 33 from by decide]
/-- where it rains by draws -/
def rb (z : Nat → Int32) (x : Int64) : Nat → Nat
  | 0 => 0
  | p + 1 => if (z (5 * p + 2)).toNatClampNeg ≤ du (sdN x (p + 1)) % 100 then rb z x p else rb z x p ||| 2 ^ p
theorem rb_lt (z : Nat → Int32) (x : Int64) : ∀ p, rb z x p < 2 ^ p := by
  intro p
  induction p with
  | zero => exact Nat.one_pos
  | succ p ih =>
    have h2 : rb z x p < 2 ^ (p + 1) := Nat.lt_of_lt_of_le ih (Nat.pow_le_pow_right (by omega) (by omega))
    unfold rb
    split
    · exact h2
    · exact Nat.or_lt_two_pow h2 (Nat.pow_lt_pow_right (by omega) (by omega))
def xI (P : Nat) (x : Int64) : Nat → Int64
  | 0 => x
  | i + 1 => sdN (xI P x i) P
theorem l100 : (100 : Int64) = lN 100 := rfl
section WAR
variable {L P W F n H B : Nat} {f : Nat → LWt} {z : Nat → Int32} {hold : Int32} {x : Int64}
theorem rz_eq (hz : ZR P W F z) {p : Nat} (hp : p < P) : (z (5 * p + 2)).toNatClampNeg ≤ 99 ∧ z (5 * p + 2) = nI (z (5 * p + 2)).toNatClampNeg := by
  obtain ⟨r, hr, e⟩ := (hz.2.1 p hp).2.2.1
  rw [e, nI_clamp (by omega)]
  exact ⟨hr, rfl⟩
theorem or_2p {ρ p : Nat} (hρ : ρ < 2 ^ 8) (hp : p < 8) : nI ρ ||| (nI 1 <<< (nI p &&& nI 31)) = nI (ρ ||| 2 ^ p) := by
  have h := pow_b p (by omega)
  rw [shl1 p (by omega), nI_or (by omega) (by omega)]
theorem c_draws {σ : sa_St} {Q : Int32 → sa_St → Prop} {ex : Int64 → Int32 → sa_M Int32} (hcx : Cx L P W F n f z hold σ) (hQ : wp (ex (sdN x P) (nI (rb z x P))) σ Q) :
    wp (sa_wh3 (fun j41 (x11 : Int64) (x12 : Int32) (x13 : Int32) =>
sa_bnd (sa_rdR 11 0 1) fun v14 =>
sa_bnd (sa_rdR 1 v14 0) fun v15 =>
sa_bnd (sa_ldI .int v15 0) fun v16 =>
if v16 ≤ x13 then
ex x11 x12
else
sa_let (((x11 * 6364136223846793005) + 1442695040888963407) : Int64) fun x19 =>
sa_bnd (sa_mdL ((x19.toUInt64 >>> ((33 : Int32).toInt64.toUInt64 &&& Int64.toUInt64 63)).toInt64) 100) fun v20 =>
sa_bnd (sa_rdR 11 0 1) fun v21 =>
sa_bnd (f_X1_cell v21 0 x13 2) fun v22 =>
sa_jn1 (fun (x23 : Int32) =>
sa_let ((x13 + 1) : Int32) fun x24 =>
j41 x19 x23 x24) fun j101 =>
if 0 ≤ (lg_cmp v20 (v22.toInt64)) then
j101 x12
else
sa_let ((x12 ||| (1 <<< (x13 &&& 31))) : Int32) fun x25 =>
j101 x25) sa_F x 0 0) σ Q := by
  have hzr := hcx.zr
  have P8 := hzr.1.1
  obtain ⟨hk, hL, hLd, hM, hW, hz0, hh0⟩ := hcx
  obtain ⟨⟨a1, a2, a3, a4, a5, a6⟩, e1, e2, e3, e4, e5, e6⟩ := LD.of hk hL
  have c0 := hLd.2.1.1
  refine wp_for3 P 0 (fun p u v τ => τ = σ ∧ u = sdN x p ∧ v = nI (rb z x p)) ?_ ?_ ⟨rfl, rfl, rfl⟩ (by omega) (by unfold sa_F; omega)
  · rintro p u v τ hp ⟨rfl, rfl, rfl⟩ c hc
    obtain ⟨r99, hr⟩ := rz_eq hzr hp
    have hrb : rb z x p < 2 ^ 8 := Nat.lt_of_lt_of_le (rb_lt z x p) (Nat.pow_le_pow_right (by omega) (by omega))
    have hsd : sdN x p * 6364136223846793005 + 1442695040888963407 = sdN x (p + 1) := rfl
    have hdu := du_eq2 (sdN x (p + 1))
    have hdl := du_lt (sdN x (p + 1))
    have hm100 : du (sdN x (p + 1)) % 100 < 100 := Nat.mod_lt _ (by omega)
    have hrem := pk_lRem (a := du (sdN x (p + 1))) (b := 100) (by omega) (by omega) (by omega)
    have hor := or_2p hrb (show p < 8 by omega)
    have hrs : rb z x (p + 1) = if (z (5 * p + 2)).toNatClampNeg ≤ du (sdN x (p + 1)) % 100 then rb z x p else rb z x p ||| 2 ^ p := rfl
    generalize hrr : (z (5 * p + 2)).toNatClampNeg = r at *
    by_cases hle : r ≤ du (sdN x (p + 1)) % 100
    · rw [if_pos hle] at hrs
      have g := hc _ _ τ ⟨rfl, rfl, rfl⟩
      rw [hrs] at g
      clear hc hzr hLd hM hW
      simp (disch := omega) only [f_X1_cell, wp_gd, wp_bnd, wp_let, wp_jn0, wp_jn1, wp_jn2, wp_if, wp_ret, wp_rdI, wp_rdL, v_rdR, v_ldI, v_ldL, v_ldR, v_stI, v_stB, v_stZ, v_stL, wp_wrI, wp_wrL, wp_wrR, wp_wrZ, wp_retZ, v_md, v_dv, v_tb, upI_2, true_and, and_true, Nat.add_sub_cancel, Nat.zero_lt_succ, Nat.succ_pos, okN, clN, L0, L1, L2, L3, L4, L5, L6, L7, L8, L9, L10, L11, L12, L13, L14, L15, L16, L17, L18, L19, L20, L21, L22, L23, L24, L25, L26, L27, L28, L29, L30, L31, L32, L33, L34, L35, L36, L37, L38, L39, L40, L41, L42, L43, L44, L45, L46, L47, L48, L49, L50, L51, L52, L53, L54, L55, L56, L57, L58, L59, L60, L61, L62, L63, L64, L65, L66, L67, L68, L69, L70, L71, L72, L73, L74, L75, L76, L77, L78, L79, L80, L81, L82, L83, L84, L85, L86, L87, L88, L89, L90, L91, L92, L93, L94, L95, L96, L97, L98, L99, L100, L101, L102, L103, L104, L105, L106, L107, L108, L109, L110, L111, L112, L113, L114, L115, L116, L117, L118, L119, L120, L121, L122, L123, L124, L125, L126, L127, L128, L129, L130, L131, L200, L240, L255, L260, L1000, L4096, L10140, L1000000, ng1, mI_lt, mI_le, lt_mI, le_mI, eq_mI, mI_eq, mI_mI, mI_mE, nI_add, pk_mul, pk_sub, pk_rem, sa_minN, sa_maxN, ne_eq, nI_leI, nI_ltI, nI_eq, dT_le, dF_le, dT_lt, dF_lt, dT_eq, dF_eq, true_imp_iff, false_imp_iff, not_true_eq_false, not_false_eq_true, false_or, or_false, true_or, or_true, false_and, and_false, Decidable.not_not, reduceIte, if_true, if_false, upI_self, upI_ne, upL_1, upL_21, upL_self, upL_ne, upR_1, upR_22, upR_self, upR_ne, va_up_self, va_up_ne, Nat.reduceAdd, Nat.reduceMul, Nat.reduceSub, Nat.reduceLT, Nat.reduceLeDiff, Nat.reduceEqDiff, Nat.reduceSubDiff, Nat.zero_add, cm3, cm5, cm7, cm8, cm25, Nat.not_lt_zero, Nat.zero_le, not_false_iff, and_self, imp_self, implies_true, forall_const, Nat.lt_irrefl, Nat.le_refl, and_imp, sh_0, sh_159, sh_1, sh_15, sh_44, sh_46, sh_48, sh_134, sh_136, sh_151, sh_156, e1, e2, e3, a1, a2, a3, c0, hz0, hr, hsd, hdu, v_mdL, l100, hrem, lN_ne0, nI_l, lgc_ge, pk_lLE]
      exact g
    · rw [if_neg hle] at hrs
      have g := hc _ _ τ ⟨rfl, rfl, rfl⟩
      rw [hrs] at g
      clear hc hzr hLd hM hW
      simp (disch := omega) only [f_X1_cell, wp_gd, wp_bnd, wp_let, wp_jn0, wp_jn1, wp_jn2, wp_if, wp_ret, wp_rdI, wp_rdL, v_rdR, v_ldI, v_ldL, v_ldR, v_stI, v_stB, v_stZ, v_stL, wp_wrI, wp_wrL, wp_wrR, wp_wrZ, wp_retZ, v_md, v_dv, v_tb, upI_2, true_and, and_true, Nat.add_sub_cancel, Nat.zero_lt_succ, Nat.succ_pos, okN, clN, L0, L1, L2, L3, L4, L5, L6, L7, L8, L9, L10, L11, L12, L13, L14, L15, L16, L17, L18, L19, L20, L21, L22, L23, L24, L25, L26, L27, L28, L29, L30, L31, L32, L33, L34, L35, L36, L37, L38, L39, L40, L41, L42, L43, L44, L45, L46, L47, L48, L49, L50, L51, L52, L53, L54, L55, L56, L57, L58, L59, L60, L61, L62, L63, L64, L65, L66, L67, L68, L69, L70, L71, L72, L73, L74, L75, L76, L77, L78, L79, L80, L81, L82, L83, L84, L85, L86, L87, L88, L89, L90, L91, L92, L93, L94, L95, L96, L97, L98, L99, L100, L101, L102, L103, L104, L105, L106, L107, L108, L109, L110, L111, L112, L113, L114, L115, L116, L117, L118, L119, L120, L121, L122, L123, L124, L125, L126, L127, L128, L129, L130, L131, L200, L240, L255, L260, L1000, L4096, L10140, L1000000, ng1, mI_lt, mI_le, lt_mI, le_mI, eq_mI, mI_eq, mI_mI, mI_mE, nI_add, pk_mul, pk_sub, pk_rem, sa_minN, sa_maxN, ne_eq, nI_leI, nI_ltI, nI_eq, dT_le, dF_le, dT_lt, dF_lt, dT_eq, dF_eq, true_imp_iff, false_imp_iff, not_true_eq_false, not_false_eq_true, false_or, or_false, true_or, or_true, false_and, and_false, Decidable.not_not, reduceIte, if_true, if_false, upI_self, upI_ne, upL_1, upL_21, upL_self, upL_ne, upR_1, upR_22, upR_self, upR_ne, va_up_self, va_up_ne, Nat.reduceAdd, Nat.reduceMul, Nat.reduceSub, Nat.reduceLT, Nat.reduceLeDiff, Nat.reduceEqDiff, Nat.reduceSubDiff, Nat.zero_add, cm3, cm5, cm7, cm8, cm25, Nat.not_lt_zero, Nat.zero_le, not_false_iff, and_self, imp_self, implies_true, forall_const, Nat.lt_irrefl, Nat.le_refl, and_imp, sh_0, sh_159, sh_1, sh_15, sh_44, sh_46, sh_48, sh_134, sh_136, sh_151, sh_156, e1, e2, e3, a1, a2, a3, c0, hz0, hr, hsd, hdu, v_mdL, l100, hrem, lN_ne0, nI_l, lgc_ge, pk_lLE, hor]
      exact g
  · rintro u v τ ⟨rfl, rfl, rfl⟩ c
    clear hM hW hLd
    simp (disch := omega) only [wp_gd, wp_bnd, wp_let, wp_jn0, wp_jn1, wp_jn2, wp_if, wp_ret, wp_rdI, wp_rdL, v_rdR, v_ldI, v_ldL, v_ldR, v_stI, v_stB, v_stZ, v_stL, wp_wrI, wp_wrL, wp_wrR, wp_wrZ, wp_retZ, v_md, v_dv, v_tb, upI_2, true_and, and_true, Nat.add_sub_cancel, Nat.zero_lt_succ, Nat.succ_pos, okN, clN, L0, L1, L2, L3, L4, L5, L6, L7, L8, L9, L10, L11, L12, L13, L14, L15, L16, L17, L18, L19, L20, L21, L22, L23, L24, L25, L26, L27, L28, L29, L30, L31, L32, L33, L34, L35, L36, L37, L38, L39, L40, L41, L42, L43, L44, L45, L46, L47, L48, L49, L50, L51, L52, L53, L54, L55, L56, L57, L58, L59, L60, L61, L62, L63, L64, L65, L66, L67, L68, L69, L70, L71, L72, L73, L74, L75, L76, L77, L78, L79, L80, L81, L82, L83, L84, L85, L86, L87, L88, L89, L90, L91, L92, L93, L94, L95, L96, L97, L98, L99, L100, L101, L102, L103, L104, L105, L106, L107, L108, L109, L110, L111, L112, L113, L114, L115, L116, L117, L118, L119, L120, L121, L122, L123, L124, L125, L126, L127, L128, L129, L130, L131, L200, L240, L255, L260, L1000, L4096, L10140, L1000000, ng1, mI_lt, mI_le, lt_mI, le_mI, eq_mI, mI_eq, mI_mI, mI_mE, nI_add, pk_mul, pk_sub, pk_rem, sa_minN, sa_maxN, ne_eq, nI_leI, nI_ltI, nI_eq, dT_le, dF_le, dT_lt, dF_lt, dT_eq, dF_eq, true_imp_iff, false_imp_iff, not_true_eq_false, not_false_eq_true, false_or, or_false, true_or, or_true, false_and, and_false, Decidable.not_not, reduceIte, if_true, if_false, upI_self, upI_ne, upL_1, upL_21, upL_self, upL_ne, upR_1, upR_22, upR_self, upR_ne, va_up_self, va_up_ne, Nat.reduceAdd, Nat.reduceMul, Nat.reduceSub, Nat.reduceLT, Nat.reduceLeDiff, Nat.reduceEqDiff, Nat.reduceSubDiff, Nat.zero_add, cm3, cm5, cm7, cm8, cm25, Nat.not_lt_zero, Nat.zero_le, not_false_iff, and_self, imp_self, implies_true, forall_const, Nat.lt_irrefl, Nat.le_refl, and_imp, sh_0, sh_159, sh_1, sh_15, sh_44, sh_46, sh_48, sh_134, sh_136, sh_151, sh_156, e1, e2, a1, a2, c0]
    exact hQ
theorem m_draws {σ : sa_St} {Q : Int32 → sa_St → Prop} {ex : Int32 → sa_M Int32} (hcx : Cx L P W F n f z hold σ) (hx : σ.2.2 159 44 = x) (hQ : wp (ex (nI (rb z x P))) (sa_upL σ 159 44 (sdN x P)) Q) :
    wp (sa_wh2 (fun j46 (x9 : Int32) (x10 : Int32) =>
sa_bnd (sa_rdI 12 159 25) fun v11 =>
if v11 ≤ x10 then
ex x9
else
sa_bnd (f_X12_draw 159 100) fun v14 =>
sa_bnd (sa_rdR 12 159 18) fun v15 =>
sa_bnd (sa_ldI .int v15 ((4 * x10) + 2)) fun v16 =>
sa_jn1 (fun (y17 : Int32) =>
sa_let ((x9 ||| y17) : Int32) fun x18 =>
sa_let ((x10 + 1) : Int32) fun x19 =>
j46 x18 x19) fun j85 =>
if v16 ≤ v14 then
j85 0
else
j85 (1 <<< (x10 &&& 31))) sa_F 0 0) σ Q := by
  have hzr := hcx.zr
  have P8 := hzr.1.1
  obtain ⟨hk, hL, hLd, hM, hW, hz0, hh0⟩ := hcx
  obtain ⟨⟨b1, b2, b3⟩, ⟨c0, c1, c3, r0, r1, r3⟩, lp, lw, lf⟩ := hLd
  have upid : sa_upL σ 159 44 x = σ := by
    refine Prod.ext rfl (Prod.ext rfl ?_)
    show va_up σ.2.2 159 (va_up (σ.2.2 159) 44 x) = σ.2.2
    rw [va_up_id hx, va_up_id rfl]
  refine wp_for2 P 0 (fun p v τ => τ = sa_upL σ 159 44 (sdN x p) ∧ v = nI (rb z x p)) ?_ ?_ ⟨upid.symm, rfl⟩ (by omega) (by unfold sa_F; omega)
  · rintro p v τ hp ⟨rfl, rfl⟩ c hc
    obtain ⟨r99, hr⟩ := rz_eq hzr hp
    have hrb : rb z x p < 2 ^ 8 := Nat.lt_of_lt_of_le (rb_lt z x p) (Nat.pow_le_pow_right (by omega) (by omega))
    have hsd : sdN x p * 6364136223846793005 + 1442695040888963407 = sdN x (p + 1) := rfl
    have hdu := du_eq2 (sdN x (p + 1))
    have hdl := du_lt (sdN x (p + 1))
    have hm100 : du (sdN x (p + 1)) % 100 < 100 := Nat.mod_lt _ (by omega)
    have hrem := pk_lRem (a := du (sdN x (p + 1))) (b := 100) (by omega) (by omega) (by omega)
    have hor := or_2p hrb (show p < 8 by omega)
    have hrs : rb z x (p + 1) = if (z (5 * p + 2)).toNatClampNeg ≤ du (sdN x (p + 1)) % 100 then rb z x p else rb z x p ||| 2 ^ p := rfl
    have hpl : σ.1 164 (4 * p + 2) = z (5 * p + 2) := by
      have := (lp p hp).2.2.2.2 2 (by omega)
      rw [hz0] at this
      exact this
    have hup : ∀ y, sa_upL (sa_upL σ 159 44 (sdN x p)) 159 44 y = sa_upL σ 159 44 y := fun y => by
      refine Prod.ext rfl (Prod.ext rfl ?_)
      show va_up (va_up σ.2.2 159 _) 159 (va_up (va_up σ.2.2 159 (va_up (σ.2.2 159) 44 (sdN x p)) 159) 44 y) = va_up σ.2.2 159 (va_up (σ.2.2 159) 44 y)
      rw [va_up_two, va_up_self, va_up_two]
    have hor0 : ∀ y : Int32, y ||| nI 0 = y := fun y => Int32.or_zero
    generalize hrr : (z (5 * p + 2)).toNatClampNeg = r at *
    by_cases hle : r ≤ du (sdN x (p + 1)) % 100
    · rw [if_pos hle] at hrs
      have g := hc _ _ ⟨rfl, rfl⟩
      rw [hrs] at g
      clear hc hzr hM hW lp lw lf
      simp (disch := omega) only [f_X12_draw, wp_gd, wp_bnd, wp_let, wp_jn0, wp_jn1, wp_jn2, wp_if, wp_ret, wp_rdI, wp_rdL, v_rdR, v_ldI, v_ldL, v_ldR, v_stI, v_stB, v_stZ, v_stL, wp_wrI, wp_wrL, wp_wrR, wp_wrZ, wp_retZ, v_md, v_dv, v_tb, upI_2, true_and, and_true, Nat.add_sub_cancel, Nat.zero_lt_succ, Nat.succ_pos, okN, clN, L0, L1, L2, L3, L4, L5, L6, L7, L8, L9, L10, L11, L12, L13, L14, L15, L16, L17, L18, L19, L20, L21, L22, L23, L24, L25, L26, L27, L28, L29, L30, L31, L32, L33, L34, L35, L36, L37, L38, L39, L40, L41, L42, L43, L44, L45, L46, L47, L48, L49, L50, L51, L52, L53, L54, L55, L56, L57, L58, L59, L60, L61, L62, L63, L64, L65, L66, L67, L68, L69, L70, L71, L72, L73, L74, L75, L76, L77, L78, L79, L80, L81, L82, L83, L84, L85, L86, L87, L88, L89, L90, L91, L92, L93, L94, L95, L96, L97, L98, L99, L100, L101, L102, L103, L104, L105, L106, L107, L108, L109, L110, L111, L112, L113, L114, L115, L116, L117, L118, L119, L120, L121, L122, L123, L124, L125, L126, L127, L128, L129, L130, L131, L200, L240, L255, L260, L1000, L4096, L10140, L1000000, ng1, mI_lt, mI_le, lt_mI, le_mI, eq_mI, mI_eq, mI_mI, mI_mE, nI_add, pk_mul, pk_sub, pk_rem, sa_minN, sa_maxN, ne_eq, nI_leI, nI_ltI, nI_eq, dT_le, dF_le, dT_lt, dF_lt, dT_eq, dF_eq, true_imp_iff, false_imp_iff, not_true_eq_false, not_false_eq_true, false_or, or_false, true_or, or_true, false_and, and_false, Decidable.not_not, reduceIte, if_true, if_false, upI_self, upI_ne, upL_1, upL_21, upL_self, upL_ne, upR_1, upR_22, upR_self, upR_ne, va_up_self, va_up_ne, Nat.reduceAdd, Nat.reduceMul, Nat.reduceSub, Nat.reduceLT, Nat.reduceLeDiff, Nat.reduceEqDiff, Nat.reduceSubDiff, Nat.zero_add, cm3, cm5, cm7, cm8, cm25, Nat.not_lt_zero, Nat.zero_le, not_false_iff, and_self, imp_self, implies_true, forall_const, Nat.lt_irrefl, Nat.le_refl, and_imp, sh_0, sh_159, sh_1, sh_15, sh_44, sh_46, sh_48, sh_134, sh_136, sh_151, sh_156, r0, sk_159_18 hk, al_164, hpl, hr, hsd, hdu, v_mdL, nI_l, hrem, lN_ne0, lN_i, hup, hor0]
      exact g
    · rw [if_neg hle] at hrs
      have g := hc _ _ ⟨rfl, rfl⟩
      rw [hrs] at g
      clear hc hzr hM hW lp lw lf
      simp (disch := omega) only [f_X12_draw, wp_gd, wp_bnd, wp_let, wp_jn0, wp_jn1, wp_jn2, wp_if, wp_ret, wp_rdI, wp_rdL, v_rdR, v_ldI, v_ldL, v_ldR, v_stI, v_stB, v_stZ, v_stL, wp_wrI, wp_wrL, wp_wrR, wp_wrZ, wp_retZ, v_md, v_dv, v_tb, upI_2, true_and, and_true, Nat.add_sub_cancel, Nat.zero_lt_succ, Nat.succ_pos, okN, clN, L0, L1, L2, L3, L4, L5, L6, L7, L8, L9, L10, L11, L12, L13, L14, L15, L16, L17, L18, L19, L20, L21, L22, L23, L24, L25, L26, L27, L28, L29, L30, L31, L32, L33, L34, L35, L36, L37, L38, L39, L40, L41, L42, L43, L44, L45, L46, L47, L48, L49, L50, L51, L52, L53, L54, L55, L56, L57, L58, L59, L60, L61, L62, L63, L64, L65, L66, L67, L68, L69, L70, L71, L72, L73, L74, L75, L76, L77, L78, L79, L80, L81, L82, L83, L84, L85, L86, L87, L88, L89, L90, L91, L92, L93, L94, L95, L96, L97, L98, L99, L100, L101, L102, L103, L104, L105, L106, L107, L108, L109, L110, L111, L112, L113, L114, L115, L116, L117, L118, L119, L120, L121, L122, L123, L124, L125, L126, L127, L128, L129, L130, L131, L200, L240, L255, L260, L1000, L4096, L10140, L1000000, ng1, mI_lt, mI_le, lt_mI, le_mI, eq_mI, mI_eq, mI_mI, mI_mE, nI_add, pk_mul, pk_sub, pk_rem, sa_minN, sa_maxN, ne_eq, nI_leI, nI_ltI, nI_eq, dT_le, dF_le, dT_lt, dF_lt, dT_eq, dF_eq, true_imp_iff, false_imp_iff, not_true_eq_false, not_false_eq_true, false_or, or_false, true_or, or_true, false_and, and_false, Decidable.not_not, reduceIte, if_true, if_false, upI_self, upI_ne, upL_1, upL_21, upL_self, upL_ne, upR_1, upR_22, upR_self, upR_ne, va_up_self, va_up_ne, Nat.reduceAdd, Nat.reduceMul, Nat.reduceSub, Nat.reduceLT, Nat.reduceLeDiff, Nat.reduceEqDiff, Nat.reduceSubDiff, Nat.zero_add, cm3, cm5, cm7, cm8, cm25, Nat.not_lt_zero, Nat.zero_le, not_false_iff, and_self, imp_self, implies_true, forall_const, Nat.lt_irrefl, Nat.le_refl, and_imp, sh_0, sh_159, sh_1, sh_15, sh_44, sh_46, sh_48, sh_134, sh_136, sh_151, sh_156, r0, sk_159_18 hk, al_164, hpl, hr, hsd, hdu, v_mdL, nI_l, hrem, lN_ne0, lN_i, hup, hor]
      exact g
  · rintro v τ ⟨rfl, rfl⟩ c
    clear hM hW lp lw lf
    simp (disch := omega) only [wp_gd, wp_bnd, wp_let, wp_jn0, wp_jn1, wp_jn2, wp_if, wp_ret, wp_rdI, wp_rdL, v_rdR, v_ldI, v_ldL, v_ldR, v_stI, v_stB, v_stZ, v_stL, wp_wrI, wp_wrL, wp_wrR, wp_wrZ, wp_retZ, v_md, v_dv, v_tb, upI_2, true_and, and_true, Nat.add_sub_cancel, Nat.zero_lt_succ, Nat.succ_pos, okN, clN, L0, L1, L2, L3, L4, L5, L6, L7, L8, L9, L10, L11, L12, L13, L14, L15, L16, L17, L18, L19, L20, L21, L22, L23, L24, L25, L26, L27, L28, L29, L30, L31, L32, L33, L34, L35, L36, L37, L38, L39, L40, L41, L42, L43, L44, L45, L46, L47, L48, L49, L50, L51, L52, L53, L54, L55, L56, L57, L58, L59, L60, L61, L62, L63, L64, L65, L66, L67, L68, L69, L70, L71, L72, L73, L74, L75, L76, L77, L78, L79, L80, L81, L82, L83, L84, L85, L86, L87, L88, L89, L90, L91, L92, L93, L94, L95, L96, L97, L98, L99, L100, L101, L102, L103, L104, L105, L106, L107, L108, L109, L110, L111, L112, L113, L114, L115, L116, L117, L118, L119, L120, L121, L122, L123, L124, L125, L126, L127, L128, L129, L130, L131, L200, L240, L255, L260, L1000, L4096, L10140, L1000000, ng1, mI_lt, mI_le, lt_mI, le_mI, eq_mI, mI_eq, mI_mI, mI_mE, nI_add, pk_mul, pk_sub, pk_rem, sa_minN, sa_maxN, ne_eq, nI_leI, nI_ltI, nI_eq, dT_le, dF_le, dT_lt, dF_lt, dT_eq, dF_eq, true_imp_iff, false_imp_iff, not_true_eq_false, not_false_eq_true, false_or, or_false, true_or, or_true, false_and, and_false, Decidable.not_not, reduceIte, if_true, if_false, upI_self, upI_ne, upL_1, upL_21, upL_self, upL_ne, upR_1, upR_22, upR_self, upR_ne, va_up_self, va_up_ne, Nat.reduceAdd, Nat.reduceMul, Nat.reduceSub, Nat.reduceLT, Nat.reduceLeDiff, Nat.reduceEqDiff, Nat.reduceSubDiff, Nat.zero_add, cm3, cm5, cm7, cm8, cm25, Nat.not_lt_zero, Nat.zero_le, not_false_iff, and_self, imp_self, implies_true, forall_const, Nat.lt_irrefl, Nat.le_refl, and_imp, sh_0, sh_159, sh_1, sh_15, sh_44, sh_46, sh_48, sh_134, sh_136, sh_151, sh_156, r0]
    exact hQ
end WAR
