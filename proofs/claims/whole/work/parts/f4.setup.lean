/-! JOURNEYS: set out by both -/
theorem skyAt_v (sp sh sr : Nat → Int32) (p h : Nat) : ∀ n, skyAt sp sh sr p h n = mI ∨ skyAt sp sh sr p h n = nI 0 ∨ skyAt sp sh sr p h n = nI 100 := by
  intro n
  induction n with
  | zero => exact Or.inl rfl
  | succ n ih =>
    unfold skyAt
    split
    · split
      · exact Or.inr (Or.inl rfl)
      · exact Or.inr (Or.inr rfl)
    · exact ih
theorem skyAt_far {sp sh sr : Nat → Int32} {p h : Nat} (hh : 24 < h) (hh2 : h < 2 ^ 31) : ∀ n, (∀ i, i < n → ∃ y : Nat, y ≤ 24 ∧ sh i = nI y) → skyAt sp sh sr p h n = mI := by
  intro n
  induction n with
  | zero => intro _; rfl
  | succ n ih =>
    intro hb
    unfold skyAt
    obtain ⟨y, hy, e⟩ := hb n (by omega)
    rw [if_neg]
    · exact ih (fun i hi => hb i (by omega))
    · rintro ⟨-, e2⟩
      rw [e, nI_eq (by omega) hh2] at e2
      omega
/-- the sky as the reference holds it -/
def skF (σ : sa_St) (n : Nat) (p h : Nat) : Int32 := skyAt (σ.1 178) (σ.1 179) (σ.1 180) p h n
section SETUP
variable {k L P W F n : Nat} {f : Nat → LWt} {σ : sa_St}
theorem MV.dn {z : Nat → Int32} {hold : Int32} {sk : Nat → Nat → Int32} {kk wl : Nat → Int32} {τ : sa_St} (h : MV L P W F n f z hold sk kk wl σ) (K : Dn [0] σ τ) (hM : τ.2.2 175 = σ.2.2 175) : MV L P W F n f z hold sk kk wl τ := by
  obtain ⟨g1, g2, ns, g3, g4, g5⟩ := h
  refine ⟨g1.dn K rfl rfl (by rw [hM, K.row 176 (fun _ => rfl)]; exact g1.memo), by rw [K.row 173 (fun _ => rfl)]; exact g2, ns, g3, by rw [K.2 159 48 rfl]; exact g4, fun p h => ?_⟩
  rw [K.row 178 (fun _ => rfl), K.row 179 (fun _ => rfl), K.row 180 (fun _ => rfl)]
  exact g5 p h
theorem j_fin {τ υ : sa_St} (hIv0 : Iv k L P W F n f σ) (K : Dn [0] σ τ) (hN : NF n f τ υ) : Inv (k + 1) υ := by
  have K2 : Dn [0, 9] σ υ := (K.mono (fun x g => by simp at g ⊢; exact g.1)).trans hN.dn
  exact (hIv0.ask K2 hN.2.2.2).up
/-- who goes where, and what both know of it -/
def JY (k L P W F n : Nat) (f : Nat → LWt) (σ : sa_St) (ns c a0 to g wr md h0 : Nat) (wl : Nat → Int32) : Prop := MV L P W F n f (σ.1 (L + 2)) (σ.1 15 3) (skF σ ns) (σ.1 45) wl σ ∧ SkS (skF σ ns) ∧ (∀ p h, p < P → 1 ≤ h → h ≤ 24 → σ.1 135 (25 * p + h) = skF σ ns p h) ∧ Go (σ.1 45) c wr md h0 ∧ (σ.1 45 (23 + 7 * c + 2) = nI g ∧ 0 < g ∧ g ≤ 99) ∧ AtP (σ.1 45) (nI c) 1 ∧ σ.1 45 (23 + 7 * c + 0) = nI a0 ∧ a0 < P ∧ to < P ∧ a0 ≠ to
def JN (L P : Nat) (σ : sa_St) (wl : Nat → Int32) (s1 s2 : Int32) : Prop := (∀ Q : Int32 → sa_St → Prop, Q 0 (sa_upI σ 136 3 0) → wp (f_X9_find 136 L 44 s1 s2) σ Q) ∧ (∀ (τ : sa_St) (srt : Int32), SK τ.2.1 → τ.1 173 = toW (σ.1 45) wl → τ.1 159 25 = nI P → f_X12_layBest 159 s1 s2 srt τ = some (0, τ)) ∧ ∀ τ : sa_St, SK τ.2.1 → τ.1 173 = toW (σ.1 45) wl → τ.1 159 25 = nI P → f_X12_journeys 159 s1 s2 τ = some (-1, sa_upI τ 159 0 0)
theorem j_cases (hIv0 : Iv k L P W F n f σ) (hk512 : k ≤ 512) (s1 s2 : Int32) : ∃ wl, σ.1 173 = toW (σ.1 45) wl ∧ σ.1 159 25 = nI P ∧ (JN L P σ wl s1 s2 ∨ ∃ ns c a0 to g wr md h0, s1 = nI c ∧ s2 = nI to ∧ JY k L P W F n f σ ns c a0 to g wr md h0 wl) := by
  have hcx := hIv0.cx
  have hIv := hIv0
  obtain ⟨hk, hL, hT, hLd, hM, hW, hO, hC, hP, hG, hS, hZ⟩ := hIv
  obtain ⟨⟨a1, a2, a3, a4, a5, a6⟩, e1, e2, e3, e4, e5, e6⟩ := LD.of hk hL
  obtain ⟨⟨b1, b2, b3⟩, ⟨c0, c1, c3, r0, r1, r3⟩, lp, lw, lf⟩ := hLd
  obtain ⟨m, hkm⟩ := KM.of hC.1
  obtain ⟨wl, hw, -⟩ := hC.2
  refine ⟨wl, hw, r0, ?_⟩
  have ca := ca_44 hk
  have ca1 : CA (sa_upI σ 136 3 0).2.1 44 45 := ca
  have x45 : (sa_upI σ 136 3 0).1 45 = σ.1 45 := upI_ne (by omega)
  have hasP : ∀ j : Nat, j < P → f_X1_hasPlace L (nI j) (sa_upI σ 136 3 0) = some (nI 1, sa_upI σ 136 3 0) := fun j hj => by
    refine run_of ?_
    have cc : (sa_upI σ 136 3 0).1 (L + 1) 0 = nI P := by
      have hL39 := hL.n
      rw [upI_ne (by omega)]
      exact c0
    have aa : (sa_upI σ 136 3 0).2.1 L 0 = L + 1 + 1 := a2
    clear hM hW hO hC hP hG hS hZ lp lw lf hkm hw hIv0 hcx hL
    generalize sa_upI σ 136 3 0 = σ1 at *
    simp (disch := omega) only [f_X1_hasPlace, wp_gd, wp_bnd, wp_let, wp_jn0, wp_jn1, wp_jn2, wp_if, wp_ret, wp_rdI, wp_rdL, v_rdR, v_ldI, v_ldL, v_ldR, v_stI, v_stB, v_stZ, v_stL, wp_wrI, wp_wrL, wp_wrR, wp_wrZ, wp_retZ, v_md, v_dv, v_tb, upI_2, true_and, and_true, Nat.add_sub_cancel, Nat.zero_lt_succ, Nat.succ_pos, okN, clN, L0, L1, L2, L3, L4, L5, L6, L7, L8, L9, L10, L11, L12, L13, L14, L15, L16, L17, L18, L19, L20, L21, L22, L23, L24, L25, L26, L27, L28, L29, L30, L31, L32, L33, L34, L35, L36, L37, L38, L39, L40, L41, L42, L43, L44, L45, L46, L47, L48, L49, L50, L51, L52, L53, L54, L55, L56, L57, L58, L59, L60, L61, L62, L63, L64, L65, L66, L67, L68, L69, L70, L71, L72, L73, L74, L75, L76, L77, L78, L79, L80, L81, L82, L83, L84, L85, L86, L87, L88, L89, L90, L91, L92, L93, L94, L95, L96, L97, L98, L99, L100, L101, L102, L103, L104, L105, L106, L107, L108, L109, L110, L111, L112, L113, L114, L115, L116, L117, L118, L119, L120, L121, L122, L123, L124, L125, L126, L127, L128, L129, L130, L131, L200, L240, L255, L260, L1000, L4096, L10140, L1000000, ng1, mI_lt, mI_le, lt_mI, le_mI, eq_mI, mI_eq, mI_mI, mI_mE, nI_add, pk_mul, pk_sub, pk_rem, sa_minN, sa_maxN, ne_eq, nI_leI, nI_ltI, nI_eq, dT_le, dF_le, dT_lt, dF_lt, dT_eq, dF_eq, true_imp_iff, false_imp_iff, not_true_eq_false, not_false_eq_true, false_or, or_false, true_or, or_true, false_and, and_false, Decidable.not_not, reduceIte, if_true, if_false, upI_self, upI_ne, upL_1, upL_21, upL_self, upL_ne, upR_1, upR_22, upR_self, upR_ne, va_up_self, va_up_ne, Nat.reduceAdd, Nat.reduceMul, Nat.reduceSub, Nat.reduceLT, Nat.reduceLeDiff, Nat.reduceEqDiff, Nat.reduceSubDiff, Nat.zero_add, cm3, cm5, cm7, cm8, cm25, Nat.not_lt_zero, Nat.zero_le, not_false_iff, and_self, imp_self, implies_true, forall_const, Nat.lt_irrefl, Nat.le_refl, and_imp, e1, aa, e2, cc]
  rcases at_cases hkm s1 with hat | ⟨c, hc, rfl, hat, ⟨g, g0, g99, kg⟩, kl⟩
  · refine Or.inl ⟨fun Q hQ => ?_, fun τ srt hkt hwt _ => run_of ?_, fun τ hkt hwt _ => ?_⟩
    · unfold f_X9_find
      rw [wp_gd]
      refine ⟨rfl, ?_⟩
      rw [wp_bnd, wp_wrI]
      refine ⟨rfl, ?_⟩
      rw [wp_bnd, wp_of_eq (hat.1 _ 44 45 ca1 x45), wp_jn0, wp_if]
      refine ⟨fun _ => ?_, fun q => absurd (show nI 0 = 0 from rfl) q⟩
      rw [wp_retZ]
      exact ⟨Or.inl rfl, hQ⟩
    · unfold f_X12_layBest
      rw [wp_gd]
      refine ⟨rfl, ?_⟩
      rw [wp_bnd, wp_rdR (v := 173) rfl (sk_159_35 hkt), wp_bnd, wp_of_eq (hat.2 τ 173 wl al_173 hwt), wp_jn0, wp_if]
      refine ⟨fun _ => ?_, fun q => absurd (show nI 0 = 0 from rfl) q⟩
      rw [wp_retZ]
      exact ⟨Or.inl rfl, rfl, rfl⟩
    · have key : wp (f_X12_journeys 159 s1 s2) τ (fun r υ => r = -1 ∧ υ = sa_upI τ 159 0 0) := by
        unfold f_X12_journeys
        rw [wp_gd]
        refine ⟨rfl, ?_⟩
        rw [wp_bnd, wp_wrI]
        refine ⟨rfl, ?_⟩
        rw [wp_bnd, wp_rdR (v := 173) rfl (sk_159_35 (show SK (sa_upI τ 159 0 0).2.1 from hkt)), wp_bnd, wp_of_eq (hat.2 (sa_upI τ 159 0 0) 173 wl al_173 (by rw [upI_ne (by omega)]; exact hwt)), wp_jn0, wp_if]
        refine ⟨fun _ => ?_, fun q => absurd (show nI 0 = 0 from rfl) q⟩
        rw [wp_ret]
        exact ⟨rfl, rfl⟩
      obtain ⟨r, υ, h1, rfl, rfl⟩ := key
      exact h1
  have hc8 : c < 8 := by have := hkm.1; omega
  obtain ⟨⟨xp8, o0⟩, -, -, ⟨xw9, o3⟩, ⟨xd3, o4⟩⟩ := (hkm.2.2.2.1 c hc).x b1
  have fo : ∀ j, j < 7 → f_X0_of 44 (nI c) (nI j) (sa_upI σ 136 3 0) = some (σ.1 45 (23 + 7 * c + j), sa_upI σ 136 3 0) := fun j hj => e_of ca1 x45 hc8 hj
  have refuseP : ∀ y : Int32, (∀ τ : sa_St, (∃ gs, Dn gs σ τ ∧ gs.contains 2 = false) → f_X1_hasPlace L y τ = some (nI 0, τ)) → (∀ τ : sa_St, τ.1 159 25 = nI P → f_X12_isPlace 159 y τ = some (nI 0, τ)) → JN L P σ wl (nI c) y := by
    intro y h1 h2
    refine ⟨fun Q hQ => ?_, fun τ srt hkt hwt hr => run_of ?_, fun τ hkt hwt hr => ?_⟩
    · unfold f_X9_find
      rw [wp_gd]
      refine ⟨rfl, ?_⟩
      rw [wp_bnd, wp_wrI]
      refine ⟨rfl, ?_⟩
      rw [wp_bnd, wp_of_eq (hat.1 _ 44 45 ca1 x45), wp_jn0, wp_if]
      refine ⟨fun q => absurd q (by decide), fun _ => ?_⟩
      rw [wp_bnd, wp_of_eq (h1 _ ⟨[0], Dn.up (Dn.refl σ) rfl, rfl⟩), wp_if]
      refine ⟨fun _ => ?_, fun q => absurd (show nI 0 = 0 from rfl) q⟩
      rw [wp_retZ]
      exact ⟨Or.inl rfl, hQ⟩
    · unfold f_X12_layBest
      rw [wp_gd]
      refine ⟨rfl, ?_⟩
      rw [wp_bnd, wp_rdR (v := 173) rfl (sk_159_35 hkt), wp_bnd, wp_of_eq (hat.2 τ 173 wl al_173 hwt), wp_jn0, wp_if]
      refine ⟨fun q => absurd q (by decide), fun _ => ?_⟩
      rw [wp_bnd, wp_of_eq (h2 τ hr), wp_if]
      refine ⟨fun _ => ?_, fun q => absurd (show nI 0 = 0 from rfl) q⟩
      rw [wp_retZ]
      exact ⟨Or.inl rfl, rfl, rfl⟩
    · have key : wp (f_X12_journeys 159 (nI c) y) τ (fun r υ => r = -1 ∧ υ = sa_upI τ 159 0 0) := by
        unfold f_X12_journeys
        rw [wp_gd]
        refine ⟨rfl, ?_⟩
        rw [wp_bnd, wp_wrI]
        refine ⟨rfl, ?_⟩
        rw [wp_bnd, wp_rdR (v := 173) rfl (sk_159_35 (show SK (sa_upI τ 159 0 0).2.1 from hkt)), wp_bnd, wp_of_eq (hat.2 (sa_upI τ 159 0 0) 173 wl al_173 (by rw [upI_ne (by omega)]; exact hwt)), wp_jn0, wp_if]
        refine ⟨fun q => absurd q (by decide), fun _ => ?_⟩
        rw [wp_bnd, wp_of_eq (h2 (sa_upI τ 159 0 0) (by rw [upI_self, va_up_ne _ _ (by omega)]; exact hr)), wp_if]
        refine ⟨fun _ => ?_, fun q => absurd (show nI 0 = 0 from rfl) q⟩
        rw [wp_ret]
        exact ⟨rfl, rfl⟩
      obtain ⟨r, υ, h1, rfl, rfl⟩ := key
      exact h1
  have hpl : ∀ τ : sa_St, (∃ gs, Dn gs σ τ ∧ gs.contains 2 = false) → τ.2.1 L 0 = L + 1 + 1 ∧ τ.1 (L + 1) 0 = nI P := fun τ ⟨gs, K, hg⟩ => by
    have hLn := hL.n
    refine ⟨by rw [K.1 L 0 (by omega) (by omega)]; exact a2, ?_⟩
    rw [K.row (L + 1) (fun _ => by rw [grp_L hLn (by omega)]; exact hg)]
    exact c0
  rcases nx s2 P with ⟨g1, g2, g3, g4, g5, g6⟩ | ⟨g1, g2, g3, g4, g5, g6, -⟩ | ⟨to, hto, rfl⟩
  · refine Or.inl (refuseP s2 (fun τ hτ => run_of ?_) (fun τ hr => run_of ?_))
    · obtain ⟨aa, cc⟩ := hpl τ hτ
      clear hM hW hO hC hP hG hS hZ lp lw lf hkm hw hIv0 hcx hL refuseP hasP fo hpl
      simp (disch := omega) only [f_X1_hasPlace, wp_gd, wp_bnd, wp_let, wp_jn0, wp_jn1, wp_jn2, wp_if, wp_ret, wp_rdI, wp_rdL, v_rdR, v_ldI, v_ldL, v_ldR, v_stI, v_stB, v_stZ, v_stL, wp_wrI, wp_wrL, wp_wrR, wp_wrZ, wp_retZ, v_md, v_dv, v_tb, upI_2, true_and, and_true, Nat.add_sub_cancel, Nat.zero_lt_succ, Nat.succ_pos, okN, clN, L0, L1, L2, L3, L4, L5, L6, L7, L8, L9, L10, L11, L12, L13, L14, L15, L16, L17, L18, L19, L20, L21, L22, L23, L24, L25, L26, L27, L28, L29, L30, L31, L32, L33, L34, L35, L36, L37, L38, L39, L40, L41, L42, L43, L44, L45, L46, L47, L48, L49, L50, L51, L52, L53, L54, L55, L56, L57, L58, L59, L60, L61, L62, L63, L64, L65, L66, L67, L68, L69, L70, L71, L72, L73, L74, L75, L76, L77, L78, L79, L80, L81, L82, L83, L84, L85, L86, L87, L88, L89, L90, L91, L92, L93, L94, L95, L96, L97, L98, L99, L100, L101, L102, L103, L104, L105, L106, L107, L108, L109, L110, L111, L112, L113, L114, L115, L116, L117, L118, L119, L120, L121, L122, L123, L124, L125, L126, L127, L128, L129, L130, L131, L200, L240, L255, L260, L1000, L4096, L10140, L1000000, ng1, mI_lt, mI_le, lt_mI, le_mI, eq_mI, mI_eq, mI_mI, mI_mE, nI_add, pk_mul, pk_sub, pk_rem, sa_minN, sa_maxN, ne_eq, nI_leI, nI_ltI, nI_eq, dT_le, dF_le, dT_lt, dF_lt, dT_eq, dF_eq, true_imp_iff, false_imp_iff, not_true_eq_false, not_false_eq_true, false_or, or_false, true_or, or_true, false_and, and_false, Decidable.not_not, reduceIte, if_true, if_false, upI_self, upI_ne, upL_1, upL_21, upL_self, upL_ne, upR_1, upR_22, upR_self, upR_ne, va_up_self, va_up_ne, Nat.reduceAdd, Nat.reduceMul, Nat.reduceSub, Nat.reduceLT, Nat.reduceLeDiff, Nat.reduceEqDiff, Nat.reduceSubDiff, Nat.zero_add, cm3, cm5, cm7, cm8, cm25, Nat.not_lt_zero, Nat.zero_le, not_false_iff, and_self, imp_self, implies_true, forall_const, Nat.lt_irrefl, Nat.le_refl, and_imp, e1, aa, e2, cc, g1, g2, g3, g4, g5, g6]
    · clear hM hW hO hC hP hG hS hZ lp lw lf hkm hw hIv0 hcx hL refuseP hasP fo hpl
      simp (disch := omega) only [f_X12_isPlace, wp_gd, wp_bnd, wp_let, wp_jn0, wp_jn1, wp_jn2, wp_if, wp_ret, wp_rdI, wp_rdL, v_rdR, v_ldI, v_ldL, v_ldR, v_stI, v_stB, v_stZ, v_stL, wp_wrI, wp_wrL, wp_wrR, wp_wrZ, wp_retZ, v_md, v_dv, v_tb, upI_2, true_and, and_true, Nat.add_sub_cancel, Nat.zero_lt_succ, Nat.succ_pos, okN, clN, L0, L1, L2, L3, L4, L5, L6, L7, L8, L9, L10, L11, L12, L13, L14, L15, L16, L17, L18, L19, L20, L21, L22, L23, L24, L25, L26, L27, L28, L29, L30, L31, L32, L33, L34, L35, L36, L37, L38, L39, L40, L41, L42, L43, L44, L45, L46, L47, L48, L49, L50, L51, L52, L53, L54, L55, L56, L57, L58, L59, L60, L61, L62, L63, L64, L65, L66, L67, L68, L69, L70, L71, L72, L73, L74, L75, L76, L77, L78, L79, L80, L81, L82, L83, L84, L85, L86, L87, L88, L89, L90, L91, L92, L93, L94, L95, L96, L97, L98, L99, L100, L101, L102, L103, L104, L105, L106, L107, L108, L109, L110, L111, L112, L113, L114, L115, L116, L117, L118, L119, L120, L121, L122, L123, L124, L125, L126, L127, L128, L129, L130, L131, L200, L240, L255, L260, L1000, L4096, L10140, L1000000, ng1, mI_lt, mI_le, lt_mI, le_mI, eq_mI, mI_eq, mI_mI, mI_mE, nI_add, pk_mul, pk_sub, pk_rem, sa_minN, sa_maxN, ne_eq, nI_leI, nI_ltI, nI_eq, dT_le, dF_le, dT_lt, dF_lt, dT_eq, dF_eq, true_imp_iff, false_imp_iff, not_true_eq_false, not_false_eq_true, false_or, or_false, true_or, or_true, false_and, and_false, Decidable.not_not, reduceIte, if_true, if_false, upI_self, upI_ne, upL_1, upL_21, upL_self, upL_ne, upR_1, upR_22, upR_self, upR_ne, va_up_self, va_up_ne, Nat.reduceAdd, Nat.reduceMul, Nat.reduceSub, Nat.reduceLT, Nat.reduceLeDiff, Nat.reduceEqDiff, Nat.reduceSubDiff, Nat.zero_add, cm3, cm5, cm7, cm8, cm25, Nat.not_lt_zero, Nat.zero_le, not_false_iff, and_self, imp_self, implies_true, forall_const, Nat.lt_irrefl, Nat.le_refl, and_imp, sh_159, hr, g1, g2, g3, g4, g5, g6]
  · refine Or.inl (refuseP s2 (fun τ hτ => run_of ?_) (fun τ hr => run_of ?_))
    · obtain ⟨aa, cc⟩ := hpl τ hτ
      clear hM hW hO hC hP hG hS hZ lp lw lf hkm hw hIv0 hcx hL refuseP hasP fo hpl
      simp (disch := omega) only [f_X1_hasPlace, wp_gd, wp_bnd, wp_let, wp_jn0, wp_jn1, wp_jn2, wp_if, wp_ret, wp_rdI, wp_rdL, v_rdR, v_ldI, v_ldL, v_ldR, v_stI, v_stB, v_stZ, v_stL, wp_wrI, wp_wrL, wp_wrR, wp_wrZ, wp_retZ, v_md, v_dv, v_tb, upI_2, true_and, and_true, Nat.add_sub_cancel, Nat.zero_lt_succ, Nat.succ_pos, okN, clN, L0, L1, L2, L3, L4, L5, L6, L7, L8, L9, L10, L11, L12, L13, L14, L15, L16, L17, L18, L19, L20, L21, L22, L23, L24, L25, L26, L27, L28, L29, L30, L31, L32, L33, L34, L35, L36, L37, L38, L39, L40, L41, L42, L43, L44, L45, L46, L47, L48, L49, L50, L51, L52, L53, L54, L55, L56, L57, L58, L59, L60, L61, L62, L63, L64, L65, L66, L67, L68, L69, L70, L71, L72, L73, L74, L75, L76, L77, L78, L79, L80, L81, L82, L83, L84, L85, L86, L87, L88, L89, L90, L91, L92, L93, L94, L95, L96, L97, L98, L99, L100, L101, L102, L103, L104, L105, L106, L107, L108, L109, L110, L111, L112, L113, L114, L115, L116, L117, L118, L119, L120, L121, L122, L123, L124, L125, L126, L127, L128, L129, L130, L131, L200, L240, L255, L260, L1000, L4096, L10140, L1000000, ng1, mI_lt, mI_le, lt_mI, le_mI, eq_mI, mI_eq, mI_mI, mI_mE, nI_add, pk_mul, pk_sub, pk_rem, sa_minN, sa_maxN, ne_eq, nI_leI, nI_ltI, nI_eq, dT_le, dF_le, dT_lt, dF_lt, dT_eq, dF_eq, true_imp_iff, false_imp_iff, not_true_eq_false, not_false_eq_true, false_or, or_false, true_or, or_true, false_and, and_false, Decidable.not_not, reduceIte, if_true, if_false, upI_self, upI_ne, upL_1, upL_21, upL_self, upL_ne, upR_1, upR_22, upR_self, upR_ne, va_up_self, va_up_ne, Nat.reduceAdd, Nat.reduceMul, Nat.reduceSub, Nat.reduceLT, Nat.reduceLeDiff, Nat.reduceEqDiff, Nat.reduceSubDiff, Nat.zero_add, cm3, cm5, cm7, cm8, cm25, Nat.not_lt_zero, Nat.zero_le, not_false_iff, and_self, imp_self, implies_true, forall_const, Nat.lt_irrefl, Nat.le_refl, and_imp, e1, aa, e2, cc, g1, g2, g3, g4, g5, g6]
    · clear hM hW hO hC hP hG hS hZ lp lw lf hkm hw hIv0 hcx hL refuseP hasP fo hpl
      simp (disch := omega) only [f_X12_isPlace, wp_gd, wp_bnd, wp_let, wp_jn0, wp_jn1, wp_jn2, wp_if, wp_ret, wp_rdI, wp_rdL, v_rdR, v_ldI, v_ldL, v_ldR, v_stI, v_stB, v_stZ, v_stL, wp_wrI, wp_wrL, wp_wrR, wp_wrZ, wp_retZ, v_md, v_dv, v_tb, upI_2, true_and, and_true, Nat.add_sub_cancel, Nat.zero_lt_succ, Nat.succ_pos, okN, clN, L0, L1, L2, L3, L4, L5, L6, L7, L8, L9, L10, L11, L12, L13, L14, L15, L16, L17, L18, L19, L20, L21, L22, L23, L24, L25, L26, L27, L28, L29, L30, L31, L32, L33, L34, L35, L36, L37, L38, L39, L40, L41, L42, L43, L44, L45, L46, L47, L48, L49, L50, L51, L52, L53, L54, L55, L56, L57, L58, L59, L60, L61, L62, L63, L64, L65, L66, L67, L68, L69, L70, L71, L72, L73, L74, L75, L76, L77, L78, L79, L80, L81, L82, L83, L84, L85, L86, L87, L88, L89, L90, L91, L92, L93, L94, L95, L96, L97, L98, L99, L100, L101, L102, L103, L104, L105, L106, L107, L108, L109, L110, L111, L112, L113, L114, L115, L116, L117, L118, L119, L120, L121, L122, L123, L124, L125, L126, L127, L128, L129, L130, L131, L200, L240, L255, L260, L1000, L4096, L10140, L1000000, ng1, mI_lt, mI_le, lt_mI, le_mI, eq_mI, mI_eq, mI_mI, mI_mE, nI_add, pk_mul, pk_sub, pk_rem, sa_minN, sa_maxN, ne_eq, nI_leI, nI_ltI, nI_eq, dT_le, dF_le, dT_lt, dF_lt, dT_eq, dF_eq, true_imp_iff, false_imp_iff, not_true_eq_false, not_false_eq_true, false_or, or_false, true_or, or_true, false_and, and_false, Decidable.not_not, reduceIte, if_true, if_false, upI_self, upI_ne, upL_1, upL_21, upL_self, upL_ne, upR_1, upR_22, upR_self, upR_ne, va_up_self, va_up_ne, Nat.reduceAdd, Nat.reduceMul, Nat.reduceSub, Nat.reduceLT, Nat.reduceLeDiff, Nat.reduceEqDiff, Nat.reduceSubDiff, Nat.zero_add, cm3, cm5, cm7, cm8, cm25, Nat.not_lt_zero, Nat.zero_le, not_false_iff, and_self, imp_self, implies_true, forall_const, Nat.lt_irrefl, Nat.le_refl, and_imp, sh_159, hr, g1, g2, g3, g4, g5, g6]
  by_cases heq : xp (σ.1 45) c = to
  · have isP : ∀ τ : sa_St, τ.1 159 25 = nI P → f_X12_isPlace 159 (nI to) τ = some (nI 1, τ) := fun τ hr => by
      refine run_of ?_
      clear hM hW hO hC hP hG hS hZ lp lw lf hkm hw hIv0 hcx hL refuseP hasP fo hpl
      simp (disch := omega) only [f_X12_isPlace, wp_gd, wp_bnd, wp_let, wp_jn0, wp_jn1, wp_jn2, wp_if, wp_ret, wp_rdI, wp_rdL, v_rdR, v_ldI, v_ldL, v_ldR, v_stI, v_stB, v_stZ, v_stL, wp_wrI, wp_wrL, wp_wrR, wp_wrZ, wp_retZ, v_md, v_dv, v_tb, upI_2, true_and, and_true, Nat.add_sub_cancel, Nat.zero_lt_succ, Nat.succ_pos, okN, clN, L0, L1, L2, L3, L4, L5, L6, L7, L8, L9, L10, L11, L12, L13, L14, L15, L16, L17, L18, L19, L20, L21, L22, L23, L24, L25, L26, L27, L28, L29, L30, L31, L32, L33, L34, L35, L36, L37, L38, L39, L40, L41, L42, L43, L44, L45, L46, L47, L48, L49, L50, L51, L52, L53, L54, L55, L56, L57, L58, L59, L60, L61, L62, L63, L64, L65, L66, L67, L68, L69, L70, L71, L72, L73, L74, L75, L76, L77, L78, L79, L80, L81, L82, L83, L84, L85, L86, L87, L88, L89, L90, L91, L92, L93, L94, L95, L96, L97, L98, L99, L100, L101, L102, L103, L104, L105, L106, L107, L108, L109, L110, L111, L112, L113, L114, L115, L116, L117, L118, L119, L120, L121, L122, L123, L124, L125, L126, L127, L128, L129, L130, L131, L200, L240, L255, L260, L1000, L4096, L10140, L1000000, ng1, mI_lt, mI_le, lt_mI, le_mI, eq_mI, mI_eq, mI_mI, mI_mE, nI_add, pk_mul, pk_sub, pk_rem, sa_minN, sa_maxN, ne_eq, nI_leI, nI_ltI, nI_eq, dT_le, dF_le, dT_lt, dF_lt, dT_eq, dF_eq, true_imp_iff, false_imp_iff, not_true_eq_false, not_false_eq_true, false_or, or_false, true_or, or_true, false_and, and_false, Decidable.not_not, reduceIte, if_true, if_false, upI_self, upI_ne, upL_1, upL_21, upL_self, upL_ne, upR_1, upR_22, upR_self, upR_ne, va_up_self, va_up_ne, Nat.reduceAdd, Nat.reduceMul, Nat.reduceSub, Nat.reduceLT, Nat.reduceLeDiff, Nat.reduceEqDiff, Nat.reduceSubDiff, Nat.zero_add, cm3, cm5, cm7, cm8, cm25, Nat.not_lt_zero, Nat.zero_le, not_false_iff, and_self, imp_self, implies_true, forall_const, Nat.lt_irrefl, Nat.le_refl, and_imp, sh_159, hr]
    refine Or.inl ⟨fun Q hQ => ?_, fun τ srt hkt hwt hr => run_of ?_, fun τ hkt hwt hr => ?_⟩
    · unfold f_X9_find
      rw [wp_gd]
      refine ⟨rfl, ?_⟩
      rw [wp_bnd, wp_wrI]
      refine ⟨rfl, ?_⟩
      rw [wp_bnd, wp_of_eq (hat.1 _ 44 45 ca1 x45), wp_jn0, wp_if]
      refine ⟨fun q => absurd q (by decide), fun _ => ?_⟩
      rw [wp_bnd, wp_of_eq (hasP to hto), wp_if]
      refine ⟨fun q => absurd q (by decide), fun _ => ?_⟩
      rw [wp_bnd, wp_of_eq (show f_X0_of 44 (nI c) 0 (sa_upI σ 136 3 0) = _ from fo 0 (by omega)), o0, heq, wp_if]
      refine ⟨fun q => absurd rfl q, fun _ => ?_⟩
      rw [wp_retZ]
      exact ⟨Or.inl rfl, hQ⟩
    · have w0 : τ.1 173 (7 * c) = nI to := by rw [hwt, toW_own0 (by omega), o0, heq]
      unfold f_X12_layBest
      rw [wp_gd]
      refine ⟨rfl, ?_⟩
      rw [wp_bnd, wp_rdR (v := 173) rfl (sk_159_35 hkt), wp_bnd, wp_of_eq (hat.2 τ 173 wl al_173 hwt), wp_jn0, wp_if]
      refine ⟨fun q => absurd q (by decide), fun _ => ?_⟩
      rw [wp_bnd, wp_of_eq (isP τ hr), wp_if]
      refine ⟨fun q => absurd q (by decide), fun _ => ?_⟩
      rw [wp_bnd, wp_rdR (v := 173) rfl (sk_159_35 hkt), wp_bnd, wp_ldI (n := 7 * c) (len := 260) al_173 (i7 c) (by omega) (by omega), w0, wp_if]
      refine ⟨fun q => absurd rfl q, fun _ => ?_⟩
      rw [wp_retZ]
      exact ⟨Or.inl rfl, rfl, rfl⟩
    · have w0 : (sa_upI τ 159 0 0).1 173 (7 * c) = nI to := by rw [upI_ne (by omega), hwt, toW_own0 (by omega), o0, heq]
      have key : wp (f_X12_journeys 159 (nI c) (nI to)) τ (fun r υ => r = -1 ∧ υ = sa_upI τ 159 0 0) := by
        unfold f_X12_journeys
        rw [wp_gd]
        refine ⟨rfl, ?_⟩
        rw [wp_bnd, wp_wrI]
        refine ⟨rfl, ?_⟩
        rw [wp_bnd, wp_rdR (v := 173) rfl (sk_159_35 (show SK (sa_upI τ 159 0 0).2.1 from hkt)), wp_bnd, wp_of_eq (hat.2 (sa_upI τ 159 0 0) 173 wl al_173 (by rw [upI_ne (by omega)]; exact hwt)), wp_jn0, wp_if]
        refine ⟨fun q => absurd q (by decide), fun _ => ?_⟩
        rw [wp_bnd, wp_of_eq (isP (sa_upI τ 159 0 0) (by rw [upI_self, va_up_ne _ _ (by omega)]; exact hr)), wp_if]
        refine ⟨fun q => absurd q (by decide), fun _ => ?_⟩
        rw [wp_bnd, wp_rdR (v := 173) rfl (sk_159_35 (show SK (sa_upI τ 159 0 0).2.1 from hkt)), wp_bnd, wp_ldI (n := 7 * c) (len := 260) al_173 (i7 c) (by omega) (by omega), w0, wp_if]
        refine ⟨fun q => absurd rfl q, fun _ => ?_⟩
        rw [wp_ret]
        exact ⟨rfl, rfl⟩
      obtain ⟨r, υ, h1, rfl, rfl⟩ := key
      exact h1
  · obtain ⟨ns, ns16, s1', s2', s3', s4'⟩ := hS
    obtain ⟨h0, hh0, hk21⟩ := hkm.2.2.1
    refine Or.inr ⟨ns, c, xp (σ.1 45) c, to, g, xw (σ.1 45) c, xd (σ.1 45) c, h0, rfl, rfl, ⟨hcx, hw, ns, ns16, s2', fun p h => rfl⟩, ⟨fun p h => skyAt_v _ _ _ p h ns, fun p h hh hh2 => skyAt_far hh hh2 ns s4'⟩, fun p h hp h1 h2 => s3' p h (by omega) h1 h2, ⟨hc8, o3, o4, hk21, xw9, xd3, by omega⟩, ⟨kg, g0, g99⟩, hat, o0, xp8, hto, heq⟩
end SETUP
