/-! JOURNEYS: ambushes -/
def WrP (m0 : Nat) (m : Nat → Nat) (q : List Nat) (p l : Nat) (w : Option Nat) : Prop := (w = none ∧ l = m0 ∧ ∀ j, 1 ≤ j → j < q.length → q.getD j 0 < p → m0 ≤ m j) ∨ ∃ i, 1 ≤ i ∧ i < q.length ∧ q.getD i 0 < p ∧ w = some (q.getD i 0) ∧ l = m i ∧ m i < m0 ∧ ∀ j, 1 ≤ j → j < q.length → q.getD j 0 < p → m i ≤ m j ∧ (m j = m i → q.getD i 0 ≤ q.getD j 0)
theorem WrP.all {m0 p l : Nat} {m : Nat → Nat} {q : List Nat} {w : Option Nat} (h : WrP m0 m q p l w) (hq : ∀ j, j < q.length → q.getD j 0 < p) : Wrs m0 m q q.length l w := by
  rcases h with ⟨h1, h2, h3⟩ | ⟨i, h1, h2, h3, h4, h5, h6, h7⟩
  · exact Or.inl ⟨h1, h2, fun j a b => h3 j a b (hq j b)⟩
  · exact Or.inr ⟨i, h1, h2, h4, h5, h6, fun j a b => h7 j a b (hq j b)⟩
section MAMB
variable {L P W F n : Nat} {f : Nat → LWt} {z : Nat → Int32} {hold : Int32} {sk : Nat → Nat → Int32} {k wl : Nat → Int32} {σ : sa_St} {wr md h0 c a0 to g : Nat} {q : List Nat}
theorem m_worst {Q : Int32 → sa_St → Prop} (hV : MV L P W F n f z hold sk k wl σ) (hsk : SkS sk) (hgo : Go k c wr md h0) (hg : k (23 + 7 * c + 2) = nI g) (hg9 : g < 100) (hpa : Pa P W z a0 to q) (h55 : σ.1 159 55 = nI q.length) (h184 : ∀ j, j < q.length → σ.1 184 j = nI (q.getD j 0)) (hQ : ∀ τ l w, MF n f σ τ → Wrs (vMn W z (cnS z sk) (lsS f hold z wr md h0) (st0 g, 0) none q) (fun i => vMn W z (cnS z sk) (lsS f hold z wr md h0) (st0 g, 0) (some (q.getD i 0)) q) q q.length l w → Q (oI w) τ) :
    wp (sa_wh3 (fun j44 (x11 : Int32) (x12 : Int32) (x13 : Int32) =>
sa_bnd (sa_rdI 12 159 25) fun v14 =>
if v14 ≤ x13 then
sa_ret (x11 : Int32)
else
sa_let (0 : Int32) fun x15 =>
sa_let (1 : Int32) fun x16 =>
sa_wh2 (fun j59 (x17 : Int32) (x18 : Int32) =>
sa_bnd (sa_rdI 12 159 55) fun v19 =>
if v19 ≤ x18 then
sa_jn1 (fun (y20 : Int32) =>
sa_jn2 (fun (x21 : Int32) (x22 : Int32) =>
sa_let ((x13 + 1) : Int32) fun x23 =>
j44 x21 x22 x23) fun j143 =>
if y20 < x12 then
j143 x13 y20
else
j143 x11 x12) fun j123 =>
if x17 = 0 then
j123 x12
else
sa_bnd (sa_rdR 12 159 52) fun v24 =>
sa_bnd (sa_rdI 12 159 55) fun v25 =>
sa_bnd (f_X12_meanBy 159 (nI c) v24 v25 x13) fun v26 =>
j123 v26
else
sa_jn1 (fun (y27 : Int32) =>
sa_let ((x18 + 1) : Int32) fun x28 =>
j59 y27 x28) fun j90 =>
sa_jn0 (j90 1) fun j85 =>
if ¬ x17 = 0 then
j85
else
sa_bnd (sa_rdR 12 159 52) fun v29 =>
sa_bnd (sa_ldI .int v29 x18) fun v30 =>
if ¬ v30 = x13 then
j90 0
else
j85) sa_F x15 x16) sa_F (-1) (nI (vMn W z (cnS z sk) (lsS f hold z wr md h0) (st0 g, 0) none q)) 0) σ Q := by
  have P8 := hV.1.zr.1.1
  have p1 := hpa.1
  have p8 := hpa.2.1
  have pP := hpa.2.2.2.2.1
  have hs0 := st0_sum hg9
  have bm : ∀ am, vMn W z (cnS z sk) (lsS f hold z wr md h0) (st0 g, 0) am q ≤ 99000 := fun am => vMn_bd hs0
  have hm : ∀ i, (fun i => vMn W z (cnS z sk) (lsS f hold z wr md h0) (st0 g, 0) (some (q.getD i 0)) q) i = vMn W z (cnS z sk) (lsS f hold z wr md h0) (st0 g, 0) (some (q.getD i 0)) q := fun i => rfl
  have bmm : ∀ i, (fun i => vMn W z (cnS z sk) (lsS f hold z wr md h0) (st0 g, 0) (some (q.getD i 0)) q) i ≤ 99000 := fun i => bm _
  have bm0 := bm none
  generalize (fun i => vMn W z (cnS z sk) (lsS f hold z wr md h0) (st0 g, 0) (some (q.getD i 0)) q) = m at hQ hm bmm
  generalize vMn W z (cnS z sk) (lsS f hold z wr md h0) (st0 g, 0) none q = m0 at hQ bm0 ⊢
  refine wp_for3 P 0 (fun p a b τ => MF n f σ τ ∧ ∃ l w, l ≤ 99000 ∧ a = oI w ∧ b = nI l ∧ WrP m0 m q p l w) ?_ ?_ ⟨MF.refl hV.1.memo, m0, none, bm0, rfl, rfl, Or.inl ⟨rfl, rfl, fun j _ _ h => by omega⟩⟩ (Nat.zero_le _) (by unfold sa_F; omega)
  · rintro p a b τ hp ⟨mf, l, w, hl, rfl, rfl, hwr⟩ j hj
    have hV1 := hV.mf mf
    have hk1 := hV1.1.1
    have r0 : τ.1 159 25 = nI P := hV1.1.2.2.1.2.1.2.2.2.1
    have x55 : τ.1 159 55 = nI q.length := by rw [mf.2.2.1 55 (pf_no (by omega)) (by omega) (by omega)]; exact h55
    have x184 : ∀ j, j < q.length → τ.1 184 j = nI (q.getD j 0) := fun j hj => by rw [mf.2.1 184 (nm_M 184 (by omega))]; exact h184 j hj
    rw [wp_bnd, wp_rdI, r0]
    refine ⟨rfl, ?_⟩
    rw [wp_if]
    refine ⟨fun q => absurd q (nI_ge hp (by omega)), fun _ => ?_⟩
    rw [wp_let, wp_let]
    have lt0 : l ≤ m0 := by rcases hwr with ⟨-, rfl, -⟩ | ⟨i, -, -, -, -, rfl, h, -⟩ <;> omega
    refine wp_for2 q.length 1 (fun x a υ => 1 ≤ x ∧ υ = τ ∧ ((a = nI 0 ∧ ∀ y, 1 ≤ y → y < x → q.getD y 0 ≠ p) ∨ (a = nI 1 ∧ ∃ y, 1 ≤ y ∧ y < x ∧ q.getD y 0 = p))) ?_ ?_ ⟨Nat.le_refl 1, rfl, Or.inl ⟨rfl, fun y h1 h2 => by omega⟩⟩ p1 (by unfold sa_F; omega)
    · rintro x a υ hx ⟨x1, rfl, hon⟩ j2 hj2
      have px := pP x hx
      rw [wp_bnd, wp_rdI, x55]
      refine ⟨rfl, ?_⟩
      rw [wp_if]
      refine ⟨fun q => absurd q (nI_ge hx (by omega)), fun _ => ?_⟩
      rw [wp_jn1, wp_jn0, wp_if]
      rcases hon with ⟨rfl, hno⟩ | ⟨rfl, y, y1, yx, ey⟩
      · refine ⟨fun q => absurd (show nI 0 = 0 from rfl) q, fun _ => ?_⟩
        rw [wp_bnd, wp_rdR (v := 184) rfl (sk_159_52 hk1), wp_bnd, wp_ldI (n := x) (len := 9) al_184 rfl (by omega) (by omega), x184 x hx, wp_if, nI_eq (by omega) (by omega)]
        refine ⟨fun hne => ?_, fun heq => ?_⟩
        · rw [wp_let, nI_1]
          refine hj2 _ _ ⟨by omega, rfl, Or.inl ⟨rfl, fun y y1 yx => ?_⟩⟩
          by_cases e : y = x
          · subst e; exact hne
          · exact hno y y1 (by omega)
        · rw [wp_let, nI_1]
          exact hj2 _ _ ⟨by omega, rfl, Or.inr ⟨rfl, x, x1, by omega, Decidable.not_not.mp heq⟩⟩
      · refine ⟨fun _ => ?_, fun q => absurd (show ¬ nI 1 = 0 by decide) q⟩
        rw [wp_let, nI_1]
        exact hj2 _ _ ⟨by omega, rfl, Or.inr ⟨rfl, y, y1, by omega, ey⟩⟩
    · rintro a υ ⟨-, rfl, hon⟩ j2
      rw [wp_bnd, wp_rdI, x55]
      refine ⟨rfl, ?_⟩
      rw [wp_if]
      refine ⟨fun _ => ?_, fun q => absurd (nI_le (Nat.le_refl _) (by omega)) q⟩
      rw [wp_jn1, wp_if]
      rcases hon with ⟨rfl, hno⟩ | ⟨rfl, y, y1, yx, ey⟩
      · refine ⟨fun _ => ?_, fun q => absurd (show nI 0 = 0 from rfl) q⟩
        rw [wp_jn2, wp_if, nI_ltI (by omega) (by omega)]
        refine ⟨fun h => by omega, fun _ => ?_⟩
        rw [wp_let, nI_1]
        refine hj _ _ _ ⟨mf, l, w, hl, rfl, rfl, ?_⟩
        have hx : ∀ j, 1 ≤ j → j < q.length → q.getD j 0 < p + 1 → q.getD j 0 < p := fun j a b c => by
          have := hno j a b
          omega
        rcases hwr with ⟨h1, h2, h3⟩ | ⟨i, h1, h2, h3, h4, h5, h6, h7⟩
        · exact Or.inl ⟨h1, h2, fun j a b c => h3 j a b (hx j a b c)⟩
        · exact Or.inr ⟨i, h1, h2, by omega, h4, h5, h6, fun j a b c => h7 j a b (hx j a b c)⟩
      · refine ⟨fun q => absurd q (by decide), fun _ => ?_⟩
        rw [wp_bnd, wp_rdR (v := 184) rfl (sk_159_52 hk1), wp_bnd, wp_rdI, x55]
        refine ⟨rfl, ?_⟩
        rw [wp_bnd]
        refine m_meanBy (am := some p) hV1 hsk hgo hg hg9 hpa (Or.inr rfl) x184 (fun x hx => by cases hx; omega) (fun υ2 mf2 _ => ?_)
        have emy : vMn W z (cnS z sk) (lsS f hold z wr md h0) (st0 g, 0) (some p) q = m y := by rw [hm y, ey]
        rw [emy]
        have b1 := bmm y
        have same : ∀ j, 1 ≤ j → j < q.length → q.getD j 0 = p → m j = m y := fun j _ _ e => by rw [hm j, hm y, e, ey]
        rw [wp_jn2, wp_if, nI_ltI (by omega) (by omega)]
        refine ⟨fun h => ?_, fun h => ?_⟩
        · rw [wp_let, nI_1]
          refine hj _ _ _ ⟨mf.trans mf2, m y, some p, b1, rfl, rfl, Or.inr ⟨y, y1, yx, by omega, by rw [ey], rfl, by omega, fun j a b c => ?_⟩⟩
          by_cases e : q.getD j 0 = p
          · have := same j a b e
            exact ⟨by omega, fun _ => by omega⟩
          · rcases hwr with ⟨h1, h2, h3⟩ | ⟨i, h1, h2, h3, h4, h5, h6, h7⟩
            · have := h3 j a b (by omega)
              exact ⟨by omega, fun e2 => by omega⟩
            · have := (h7 j a b (by omega)).1
              exact ⟨by omega, fun e2 => by omega⟩
        · rw [wp_let, nI_1]
          refine hj _ _ _ ⟨mf.trans mf2, l, w, hl, rfl, rfl, ?_⟩
          rcases hwr with ⟨h1, h2, h3⟩ | ⟨i, h1, h2, h3, h4, h5, h6, h7⟩
          · refine Or.inl ⟨h1, h2, fun j a b c => ?_⟩
            by_cases e : q.getD j 0 = p
            · have := same j a b e
              omega
            · exact h3 j a b (by omega)
          · refine Or.inr ⟨i, h1, h2, by omega, h4, h5, h6, fun j a b c => ?_⟩
            by_cases e : q.getD j 0 = p
            · have := same j a b e
              exact ⟨by omega, fun _ => by omega⟩
            · exact h7 j a b (by omega)
  · rintro a b τ ⟨mf, l, w, hl, rfl, rfl, hwr⟩ j
    have r0 : τ.1 159 25 = nI P := (hV.mf mf).1.2.2.1.2.1.2.2.2.1
    rw [wp_bnd, wp_rdI, r0]
    refine ⟨rfl, ?_⟩
    rw [wp_if]
    refine ⟨fun _ => ?_, fun q => absurd (nI_le (Nat.le_refl _) (by omega)) q⟩
    rw [wp_ret]
    exact hQ τ l w mf (hwr.all pP)
end MAMB
theorem lc25 (k : Nat) (hk512 : k ≤ 512) : lc_25 (Inv k) (Inv (k + 1)) := by
  intro σ s1 s2 s3 hI
  refine lco ?_
  obtain ⟨L, P, W, F, n, f, hIv0⟩ := Iv.of hI
  have hk := hIv0.1
  have P8 := hIv0.cx.zr.1.1
  have hz := hIv0.cx.zr
  by_cases h3 : s3 < 0
  · have h3' : (s3 < nI 0) = True := eq_true h3
    have h3'' : (nI 0 ≤ s3) = False := eq_false (fun h => by
      rw [Int32.le_iff_toInt_le] at h
      rw [Int32.lt_iff_toInt_lt] at h3
      have e : (nI 0).toInt = (0 : Int32).toInt := rfl
      omega)
    simp (disch := omega) only [f_X11_ambush, f_X12_ambush, wp_gd, wp_bnd, wp_let, wp_jn0, wp_jn1, wp_jn2, wp_if, wp_ret, wp_rdI, wp_rdL, v_rdR, v_ldI, v_ldL, v_ldR, v_stI, v_stB, v_stZ, v_stL, wp_wrI, wp_wrL, wp_wrR, wp_wrZ, wp_retZ, v_md, v_dv, v_tb, upI_2, true_and, and_true, Nat.add_sub_cancel, Nat.zero_lt_succ, Nat.succ_pos, okN, clN, L0, L1, L2, L3, L4, L5, L6, L7, L8, L9, L10, L11, L12, L13, L14, L15, L16, L17, L18, L19, L20, L21, L22, L23, L24, L25, L26, L27, L28, L29, L30, L31, L32, L33, L34, L35, L36, L37, L38, L39, L40, L41, L42, L43, L44, L45, L46, L47, L48, L49, L50, L51, L52, L53, L54, L55, L56, L57, L58, L59, L60, L61, L62, L63, L64, L65, L66, L67, L68, L69, L70, L71, L72, L73, L74, L75, L76, L77, L78, L79, L80, L81, L82, L83, L84, L85, L86, L87, L88, L89, L90, L91, L92, L93, L94, L95, L96, L97, L98, L99, L100, L101, L102, L103, L104, L105, L106, L107, L108, L109, L110, L111, L112, L113, L114, L115, L116, L117, L118, L119, L120, L121, L122, L123, L124, L125, L126, L127, L128, L129, L130, L131, L200, L240, L255, L260, L1000, L4096, L10140, L1000000, ng1, mI_lt, mI_le, lt_mI, le_mI, eq_mI, mI_eq, mI_mI, mI_mE, nI_add, pk_mul, pk_sub, pk_rem, sa_minN, sa_maxN, ne_eq, nI_leI, nI_ltI, nI_eq, dT_le, dF_le, dT_lt, dF_lt, dT_eq, dF_eq, true_imp_iff, false_imp_iff, not_true_eq_false, not_false_eq_true, false_or, or_false, true_or, or_true, false_and, and_false, Decidable.not_not, reduceIte, if_true, if_false, upI_self, upI_ne, upL_1, upL_21, upL_self, upL_ne, upR_1, upR_22, upR_self, upR_ne, va_up_self, va_up_ne, Nat.reduceAdd, Nat.reduceMul, Nat.reduceSub, Nat.reduceLT, Nat.reduceLeDiff, Nat.reduceEqDiff, Nat.reduceSubDiff, Nat.zero_add, cm3, cm5, cm7, cm8, cm25, Nat.not_lt_zero, Nat.zero_le, not_false_iff, and_self, imp_self, implies_true, forall_const, Nat.lt_irrefl, Nat.le_refl, and_imp, sh_0, sh_159, sh_1, sh_15, sh_44, sh_46, sh_48, sh_134, sh_136, sh_151, sh_156, h3', h3'']
    exact hIv0.ask0 (Dn.up (Dn.refl σ) rfl) rfl
  have h30 : (0 : Int32) ≤ s3 := by
    rw [Int32.lt_iff_toInt_lt] at h3
    rw [Int32.le_iff_toInt_le]
    omega
  obtain ⟨w, hw31, rfl⟩ := nI_of h3
  obtain ⟨wl, hw, r0, hJ⟩ := j_cases hIv0 hk512 s1 s2
  unfold f_X11_ambush
  rw [wp_gd]
  refine ⟨rfl, ?_⟩
  rw [wp_jn0, wp_if]
  refine ⟨fun q => absurd q h3, fun _ => ?_⟩
  rw [wp_bnd]
  rcases hJ with hN | ⟨ns, c, a0, to, g, wr, md, h0, rfl, rfl, hY⟩
  · refine c_fjN hk hIv0.2.1 hN ?_
    rw [wp_if]
    refine ⟨fun q => absurd rfl q, fun _ => ?_⟩
    rw [wp_ret]
    have fl := fun srt => hN.2.1 (sa_upI (sa_upI σ 136 3 0) 159 0 0) srt hk (by rw [upI_ne (by omega), upI_ne (by omega)]; exact hw) (by rw [upI_self, va_up_ne _ _ (by omega), upI_ne (by omega)]; exact r0)
    unfold f_X12_ambush
    rw [wp_gd]
    refine ⟨rfl, ?_⟩
    rw [wp_bnd, wp_wrI]
    refine ⟨rfl, ?_⟩
    rw [wp_if]
    refine ⟨fun _ => ?_, fun q => absurd h30 q⟩
    rw [wp_if]
    refine ⟨fun _ => ?_, fun _ => ?_⟩
    · rw [wp_bnd, wp_of_eq (fl 3), wp_if]
      refine ⟨fun q => absurd rfl q, fun _ => ?_⟩
      rw [wp_ret]
      exact ⟨rfl, hIv0.ask0 (Dn.up (Dn.up (Dn.refl σ) rfl) rfl) rfl⟩
    · rw [wp_bnd, wp_of_eq (fl 0), wp_if]
      refine ⟨fun q => absurd rfl q, fun _ => ?_⟩
      rw [wp_ret]
      exact ⟨rfl, hIv0.ask0 (Dn.up (Dn.up (Dn.refl σ) rfl) rfl) rfl⟩
  · refine c_fjY hY (fun τ K hm hT hTR hWK h139 h5 => ?_)
    obtain ⟨hV, hsk, hch, hgo, ⟨kg, g0, g99⟩, hat, ka, ha0, hto, hne⟩ := hY
    have hpt := jrs_pa (P := P) (W := W) (to := to) P8 (z := σ.1 (L + 2)) ha0
    have hs0 := st0_sum (g := g) (by omega)
    have lay : ∀ (s : Nat) (υ : sa_St) (Q : Int32 → sa_St → Prop), s ≤ 3 → Dn [0] σ υ → υ.2.2 175 = σ.2.2 175 → (∀ υ2, NF n f (sa_upI υ 159 0 0) υ2 → MV L P W F n f (σ.1 (L + 2)) (σ.1 15 3) (skF σ ns) (σ.1 45) wl υ2 → RB P W (σ.1 (L + 2)) (cnS (σ.1 (L + 2)) (skF σ ns)) (lsS f (σ.1 15 3) (σ.1 (L + 2)) wr md h0) (st0 g, 0) a0 to s ((pth P W (σ.1 (L + 2)) to 60 [a0] a0 (2 ^ a0)).length, bstL (btS W (σ.1 (L + 2)) (cnS (σ.1 (L + 2)) (skF σ ns)) (lsS f (σ.1 15 3) (σ.1 (L + 2)) wr md h0) (st0 g, 0) s) (jrs P W (σ.1 (L + 2)) a0 to)) υ2 → Q (nI (if (bstL (btS W (σ.1 (L + 2)) (cnS (σ.1 (L + 2)) (skF σ ns)) (lsS f (σ.1 15 3) (σ.1 (L + 2)) wr md h0) (st0 g, 0) s) (jrs P W (σ.1 (L + 2)) a0 to)).isSome then 1 else 0)) υ2) → wp (f_X12_layBest 159 (nI c) (nI to) (nI s)) (sa_upI υ 159 0 0) Q := fun s υ Q hs3 K1 hm1 h => m_layB (hV.dn (K1.up rfl) hm1) hsk hgo kg (by omega) hat hs3 hto ka ha0 hne (fun υ2 nf rb => h υ2 nf ((hV.dn (K1.up rfl) hm1).nf nf) rb)
    have k10 : τ.2.1 0 10 = 137 := by rw [K.1 0 10 (by omega) (by omega)]; exact sk_0_10 hk
    by_cases hpos : 0 < (jrs P W (σ.1 (L + 2)) a0 to).length
    · rw [if_pos hpos, wp_if]
      refine ⟨fun _ => ?_, fun q => absurd (show ¬ nI 1 = 0 by decide) q⟩
      have refTail : ∀ (υ : sa_St) (Q : Int32 → sa_St → Prop), (¬ nI w = 1 → wp (sa_bnd (f_X12_layBest 159 (nI c) (nI to) 3) fun v1 =>
if ¬ v1 = 0 then
sa_jn1 (fun (y2 : Int32) =>
sa_ret (y2 : Int32)) fun j201 =>
if ¬ nI w = 0 then
sa_bnd (sa_rdI 12 159 55) fun v3 =>
if v3 ≤ (nI w - 2) then
j201 (-1000000)
else
sa_bnd (sa_rdR 12 159 52) fun v4 =>
sa_bnd (sa_ldI .int v4 (nI w - 2)) fun v5 =>
j201 v5
else
sa_bnd (sa_rdI 12 159 57) fun v6 =>
j201 v6
else
                    sa_ret ((-1000000) : Int32)) (sa_upI υ 159 0 0) Q) → (nI w = 1 → wp (sa_bnd (f_X12_layBest 159 (nI c) (nI to) 0) fun v7 =>
if ¬ v7 = 0 then
sa_let ((-1) : Int32) fun x8 =>
sa_bnd (sa_rdI 12 159 57) fun v9 =>
sa_let (0 : Int32) fun x10 =>
sa_wh3 (fun j44 (x11 : Int32) (x12 : Int32) (x13 : Int32) =>
sa_bnd (sa_rdI 12 159 25) fun v14 =>
if v14 ≤ x13 then
sa_ret (x11 : Int32)
else
sa_let (0 : Int32) fun x15 =>
sa_let (1 : Int32) fun x16 =>
sa_wh2 (fun j59 (x17 : Int32) (x18 : Int32) =>
sa_bnd (sa_rdI 12 159 55) fun v19 =>
if v19 ≤ x18 then
sa_jn1 (fun (y20 : Int32) =>
sa_jn2 (fun (x21 : Int32) (x22 : Int32) =>
sa_let ((x13 + 1) : Int32) fun x23 =>
j44 x21 x22 x23) fun j143 =>
if y20 < x12 then
j143 x13 y20
else
j143 x11 x12) fun j123 =>
if x17 = 0 then
j123 x12
else
sa_bnd (sa_rdR 12 159 52) fun v24 =>
sa_bnd (sa_rdI 12 159 55) fun v25 =>
sa_bnd (f_X12_meanBy 159 (nI c) v24 v25 x13) fun v26 =>
j123 v26
else
sa_jn1 (fun (y27 : Int32) =>
sa_let ((x18 + 1) : Int32) fun x28 =>
j59 y27 x28) fun j90 =>
sa_jn0 (j90 1) fun j85 =>
if ¬ x17 = 0 then
j85
else
sa_bnd (sa_rdR 12 159 52) fun v29 =>
sa_bnd (sa_ldI .int v29 x18) fun v30 =>
if ¬ v30 = x13 then
j90 0
else
j85) sa_F x15 x16) sa_F x8 v9 x10
else
                    sa_ret ((-1000000) : Int32)) (sa_upI υ 159 0 0) Q) → wp (f_X12_ambush 159 (nI c) (nI to) (nI w)) υ Q := by
        intro υ Q hA hB
        unfold f_X12_ambush
        rw [wp_gd]
        refine ⟨rfl, ?_⟩
        rw [wp_bnd, wp_wrI]
        refine ⟨rfl, ?_⟩
        rw [wp_if]
        refine ⟨fun _ => ?_, fun q => absurd h30 q⟩
        rw [wp_if]
        exact ⟨hA, fun h => hB (Decidable.not_not.mp h)⟩
      have bsome : ∀ s, ∃ qb, bstL (btS W (σ.1 (L + 2)) (cnS (σ.1 (L + 2)) (skF σ ns)) (lsS f (σ.1 15 3) (σ.1 (L + 2)) wr md h0) (st0 g, 0) s) (jrs P W (σ.1 (L + 2)) a0 to) = some qb := fun s => by
        rcases bstL_iff (bt := btS W (σ.1 (L + 2)) (cnS (σ.1 (L + 2)) (skF σ ns)) (lsS f (σ.1 15 3) (σ.1 (L + 2)) wr md h0) (st0 g, 0) s) (jrs P W (σ.1 (L + 2)) a0 to) with ⟨-, qb, hqb⟩ | ⟨h0l, -⟩
        · exact ⟨qb, hqb⟩
        · omega
      rw [wp_if]
      refine ⟨fun h1 => ?_, fun h1 => ?_⟩
      · obtain ⟨qb, hqb⟩ := bsome 3
        rw [wp_bnd, wp_rdR (v := 136) rfl k10, wp_bnd]
        refine c_best (s := 3) (s0 := (st0 g, 0)) hT hTR hpt hs0 (by show 0 ≤ 12; omega) hWK (by omega) hpos (fun b qb' τ1 hb hbe fw1 hWK1 => ?_)
        rw [hqb] at hbe
        cases hbe
        have hT1 := hT.fw fw1
        have hTR1 := hTR.fw fw1
        have hpb := hpt b qb hb
        have q8 := hpb.2.1
        have q1 := hpb.1
        have K1 := K.trans fw1.dn
        have m1 : τ1.2.2 175 = σ.2.2 175 := (fw1.2.2.2 175 (by omega) (by omega)).trans hm
        have k10' := FW.k10 K fw1 hk
        have fin : ∀ (υ : sa_St) (v : Int32), FW τ1 υ → (∀ υ2, RB P W (σ.1 (L + 2)) (cnS (σ.1 (L + 2)) (skF σ ns)) (lsS f (σ.1 15 3) (σ.1 (L + 2)) wr md h0) (st0 g, 0) a0 to 3 ((pth P W (σ.1 (L + 2)) to 60 [a0] a0 (2 ^ a0)).length, some qb) υ2 → SK υ2.2.1 → wp (sa_jn1 (fun (y2 : Int32) => sa_ret (y2 : Int32)) fun j201 => if ¬ nI w = 0 then sa_bnd (sa_rdI 12 159 55) fun v3 => if v3 ≤ (nI w - 2) then j201 (-1000000) else sa_bnd (sa_rdR 12 159 52) fun v4 => sa_bnd (sa_ldI .int v4 (nI w - 2)) fun v5 => j201 v5 else sa_bnd (sa_rdI 12 159 57) fun v6 => j201 v6) υ2 (fun r2 υ3 => r2 = v ∧ υ3 = υ2)) → wp (f_X12_ambush 159 (nI c) (nI to) (nI w)) υ (fun r2 τ2 => r2 = v ∧ Inv (k + 1) τ2) := by
          intro υ v fw2 h
          refine refTail _ _ (fun _ => ?_) (fun e => absurd e h1)
          rw [wp_bnd]
          have K2 := K1.trans fw2.dn
          refine lay 3 υ _ (by omega) K2 ((fw2.2.2.2 175 (by omega) (by omega)).trans m1) (fun υ2 nf hV2 rb => ?_)
          rw [hqb] at rb ⊢
          rw [wp_if]
          refine ⟨fun _ => ?_, fun q => absurd (show ¬ nI 1 = 0 by decide) q⟩
          refine wp_mono (h υ2 rb hV2.1.1) ?_
          rintro r2 υ3 ⟨rfl, rfl⟩
          exact ⟨rfl, j_fin hIv0 (K2.up rfl) nf⟩
        rw [wp_jn1, wp_if]
        refine ⟨fun h2 => ?_, fun h2 => ?_⟩
        · have w0 : w ≠ 0 := fun h => h2 (by rw [h]; rfl)
          have w1 : w ≠ 1 := fun h => h1 (by rw [h]; rfl)
          have ew : nI w - 2 = nI (w - 2) := pk_sub (a := w) (b := 2) (by omega)
          rw [ew, wp_bnd, wp_rdR (v := 136) rfl k10', wp_bnd, wp_of_eq (e_hid hT1.1.1 hTR1 hb q8 (by omega)), wp_ret]
          refine fin τ1 _ FW.rfl' (fun υ2 rb hk2 => ?_)
          obtain ⟨-, -, h55, h184, -, -, -⟩ := rb
          rw [wp_jn1, wp_if]
          refine ⟨fun _ => ?_, fun q => absurd h2 q⟩
          rw [wp_bnd, wp_rdI, h55]
          refine ⟨rfl, ?_⟩
          rw [ew, wp_if, nI_leI (by omega) (by omega)]
          refine ⟨fun h => ?_, fun h => ?_⟩
          · rw [wp_ret, if_neg (by omega)]
            exact ⟨rfl, rfl⟩
          · rw [wp_bnd, wp_rdR (v := 184) rfl (sk_159_52 hk2), wp_bnd, wp_ldI (n := w - 2) (len := 9) al_184 rfl (by omega) (by omega), h184 _ (by omega), wp_ret, if_pos (by omega)]
            exact ⟨rfl, rfl⟩
        · rw [wp_bnd, wp_rdR (v := 136) rfl k10', wp_bnd]
          refine c_leastOf (s0 := (st0 g, 0)) hT1 hTR1 hpt hb hs0 (by show 0 ≤ 12; omega) hWK1 (fun υ x _ _ => ?_)
          rw [wp_ret]
          refine fin υ _ x (fun υ2 rb hk2 => ?_)
          obtain ⟨-, -, -, -, -, h57, -⟩ := rb
          rw [if_pos rfl] at h57
          rw [wp_jn1, wp_if]
          refine ⟨fun q => absurd q h2, fun _ => ?_⟩
          rw [wp_bnd, wp_rdI, h57]
          refine ⟨rfl, ?_⟩
          rw [wp_ret]
          exact ⟨rfl, rfl⟩
      · have e1 : nI w = 1 := Decidable.not_not.mp h1
        obtain ⟨qb, hqb⟩ := bsome 0
        rw [wp_bnd, wp_rdR (v := 136) rfl k10, wp_bnd, wp_rdR (v := 136) rfl k10, wp_bnd]
        refine c_best (s := 0) (s0 := (st0 g, 0)) hT hTR hpt hs0 (by show 0 ≤ 12; omega) hWK (by omega) hpos (fun b qb' τ1 hb hbe fw1 hWK1 => ?_)
        rw [hqb] at hbe
        cases hbe
        rw [wp_bnd]
        refine c_worst (s0 := (st0 g, 0)) (hT.fw fw1) (hTR.fw fw1) hpt hb hs0 (by show 0 ≤ 12; omega) hWK1 (fun τ2 l1 w1 fw2 hwr1 => ?_)
        rw [wp_ret]
        have fw12 := fw1.trans fw2
        have K2 := K.trans fw12.dn
        have m2 : τ2.2.2 175 = σ.2.2 175 := (fw12.2.2.2 175 (by omega) (by omega)).trans hm
        refine refTail _ _ (fun e => absurd e1 e) (fun _ => ?_)
        rw [wp_bnd]
        refine lay 0 τ2 _ (by omega) K2 m2 (fun υ2 nf hV2 rb => ?_)
        rw [hqb] at rb ⊢
        obtain ⟨-, hpo, h55, h184, -, h57, -⟩ := rb
        rw [if_neg (by omega)] at h57
        rw [wp_if]
        refine ⟨fun _ => ?_, fun q => absurd (show ¬ nI 1 = 0 by decide) q⟩
        rw [wp_let, wp_bnd, wp_rdI, h57]
        refine ⟨rfl, ?_⟩
        rw [wp_let]
        refine m_worst hV2 hsk hgo kg (by omega) hpo h55 h184 (fun υ3 l2 w2 mf hwr2 => ?_)
        exact ⟨by rw [hwr2.uniq hwr1], j_fin hIv0 (K2.up rfl) (nf.trans mf.nf)⟩
    · have bnone : ∀ s, bstL (btS W (σ.1 (L + 2)) (cnS (σ.1 (L + 2)) (skF σ ns)) (lsS f (σ.1 15 3) (σ.1 (L + 2)) wr md h0) (st0 g, 0) s) (jrs P W (σ.1 (L + 2)) a0 to) = none := fun s => by
        rcases bstL_iff (bt := btS W (σ.1 (L + 2)) (cnS (σ.1 (L + 2)) (skF σ ns)) (lsS f (σ.1 15 3) (σ.1 (L + 2)) wr md h0) (st0 g, 0) s) (jrs P W (σ.1 (L + 2)) a0 to) with ⟨h, -⟩ | ⟨-, h⟩
        · exact absurd h hpos
        · exact h
      rw [if_neg hpos, wp_if]
      refine ⟨fun q => absurd (show nI 0 = 0 from rfl) q, fun _ => ?_⟩
      rw [wp_ret]
      unfold f_X12_ambush
      rw [wp_gd]
      refine ⟨rfl, ?_⟩
      rw [wp_bnd, wp_wrI]
      refine ⟨rfl, ?_⟩
      rw [wp_if]
      refine ⟨fun _ => ?_, fun q => absurd h30 q⟩
      rw [wp_if]
      refine ⟨fun _ => ?_, fun _ => ?_⟩
      · rw [wp_bnd]
        refine lay 3 τ _ (by omega) K hm (fun υ2 nf hV2 rb => ?_)
        rw [bnone 3, wp_if]
        refine ⟨fun q => absurd (show nI 0 = 0 from rfl) q, fun _ => ?_⟩
        rw [wp_ret]
        exact ⟨rfl, j_fin hIv0 (K.up rfl) nf⟩
      · rw [wp_bnd]
        refine lay 0 τ _ (by omega) K hm (fun υ2 nf hV2 rb => ?_)
        rw [bnone 0, wp_if]
        refine ⟨fun q => absurd (show nI 0 = 0 from rfl) q, fun _ => ?_⟩
        rw [wp_ret]
        exact ⟨rfl, j_fin hIv0 (K.up rfl) nf⟩
