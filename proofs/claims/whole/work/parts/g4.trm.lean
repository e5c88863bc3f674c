/-! STREAKS, by the reference: is it so -/
def YF (n : Nat) (f : Nat → LWt) (σ τ : sa_St) : Prop := (∀ a b, ¬ (a = 159 ∧ b = 5) → τ.2.1 a b = σ.2.1 a b) ∧ (∀ j, j ∉ [159, 163, 175, 176] → j ≠ 188 → τ.1 j = σ.1 j) ∧ (∀ k, ¬ isPF k → τ.1 159 k = σ.1 159 k) ∧ MemoR n f (τ.2.2 175) (τ.1 176)
section YFS
variable {L P W F n : Nat} {f : Nat → LWt} {z : Nat → Int32} {hold : Int32} {sk : Nat → Nat → Int32} {k wl : Nat → Int32} {σ τ υ : sa_St}
theorem YF.trans (h : YF n f σ τ) (h2 : YF n f τ υ) : YF n f σ υ := ⟨fun a b c => (h2.1 a b c).trans (h.1 a b c), fun j a b => (h2.2.1 j a b).trans (h.2.1 j a b), fun k a => (h2.2.2.1 k a).trans (h.2.2.1 k a), h2.2.2.2⟩
theorem YF.refl (hM : MemoR n f (σ.2.2 175) (σ.1 176)) : YF n f σ σ := ⟨fun _ _ _ => rfl, fun _ _ _ => rfl, fun _ _ => rfl, hM⟩
theorem YF.ofWf (h : Wf n f σ τ) : YF n f σ τ := ⟨h.1.1.1, fun j hj _ => (h.1.2 j hj).1, fun k a => h.2.1 k a, h.2.2⟩
theorem YF.up {k : Nat} {v : Int32} (h : YF n f σ τ) : YF n f σ (sa_upI τ 188 k v) := by
  refine ⟨h.1, fun j a b => ?_, fun k2 a => ?_, ?_⟩
  · rw [upI_ne b]; exact h.2.1 j a b
  · rw [upI_ne (by omega)]; exact h.2.2.1 k2 a
  · rw [upI_ne (by omega)]; exact h.2.2.2
theorem YF.dn (h : YF n f σ τ) : Dn [0, 9] σ τ := by
  refine ⟨fun a b g _ => h.1 a b g, fun a k g => ?_⟩
  by_cases e : a = 159
  · subst e
    by_cases e2 : isPF k
    · rw [isPF_0 e2] at g; cases g
    · exact h.2.2.1 k e2
  · by_cases e1 : a ∈ [159, 163, 175, 176]
    · simp only [List.mem_cons, List.not_mem_nil, or_false] at e1
      rcases e1 with rfl | rfl | rfl | rfl
      · exact absurd rfl e
      all_goals cases g
    · by_cases e3 : a = 188
      · subst e3; cases g
      · rw [h.2.1 a e1 e3]
theorem MV.yf (h : MV L P W F n f z hold sk k wl σ) (hf : YF n f σ τ) : MV L P W F n f z hold sk k wl τ := by
  obtain ⟨g1, g2, ns, g3, g4, g5⟩ := h
  refine ⟨g1.dn hf.dn rfl rfl hf.2.2.2, by rw [hf.2.1 173 (nm_M 173 (by omega)) (by omega)]; exact g2, ns, g3, by rw [hf.2.2.1 48 (pf_no (by omega))]; exact g4, fun p h => ?_⟩
  rw [hf.2.1 178 (nm_M 178 (by omega)) (by omega), hf.2.1 179 (nm_M 179 (by omega)) (by omega), hf.2.1 180 (nm_M 180 (by omega)) (by omega)]
  exact g5 p h
/-- streaks, as the reference holds them -/
def SY (P nz : Nat) (pl fo : Nat → Nat) (σ : sa_St) : Prop := nz ≤ 8 ∧ σ.1 159 69 = nI nz ∧ ∀ x, x < nz → pl x < P ∧ fo x ≤ 99 ∧ σ.1 186 x = nI (pl x) ∧ σ.1 187 x = nI (fo x)
theorem SY.yf {nz : Nat} {pl fo : Nat → Nat} (h : SY P nz pl fo σ) (hf : YF n f σ τ) : SY P nz pl fo τ := by
  obtain ⟨a, b, c⟩ := h
  refine ⟨a, (hf.2.2.1 69 (pf_no (by omega))).trans b, fun x hx => ?_⟩
  rw [hf.2.1 186 (nm_M 186 (by omega)) (by omega), hf.2.1 187 (nm_M 187 (by omega)) (by omega)]
  exact c x hx
end YFS
section MSO
variable {L P W F n : Nat} {f : Nat → LWt} {z : Nat → Int32} {hold : Int32} {sk : Nat → Nat → Int32} {k wl : Nat → Int32} {σ : sa_St} {wr md h0 c a0 to g nz S : Nat} {q : List Nat} {pl fo : Nat → Nat}
theorem m_isSo {Q : Int32 → sa_St → Prop} (hV : MV L P W F n f z hold sk k wl σ) (hgo : Go k c wr md h0) (hg : k (23 + 7 * c + 2) = nI g) (hg9 : g ≤ 99) (hpa : Pa P W z a0 to q) (hH : vHr W z q ≤ 12) (h55 : σ.1 159 55 = nI q.length) (h184 : ∀ j, j < q.length → σ.1 184 j = nI (q.getD j 0)) (hs : SY P nz pl fo σ) (hS : S < 2 ^ 31) (hQ : ∀ τ, YF n f σ τ → Q (nI (if okB W z (lsS f hold z wr md h0) q g nz pl fo S (q.length - 1) then 1 else 0)) τ) : wp (f_X12_isSo 159 (nI c) (nI S)) σ Q := by
  have hz := hV.1.zr
  have P8 := hz.1.1
  have W12 := hz.1.2.1
  obtain ⟨p1, p8, -, -, pP, pnd, pw⟩ := hpa
  obtain ⟨c8, kw, kd, kt, w9, d3, h99⟩ := hgo
  have hl : ∀ p e g, lsS f hold z wr md h0 p e g ≤ g := ls_le
  have hmono : ∀ i, i + 1 ≤ q.length → phr W z q i ≤ vHr W z q := by
    intro i hi
    unfold vHr
    have : ∀ d, phr W z q i ≤ phr W z q (i + d) := by
      intro d
      induction d with
      | zero => exact Nat.le_refl _
      | succ d ih => exact Nat.le_trans ih (Nat.le_add_right _ _)
    have := this (q.length - 1 - i)
    rw [show i + (q.length - 1 - i) = q.length - 1 by omega] at this
    exact this
  unfold f_X12_isSo
  rw [wp_gd]
  refine ⟨rfl, ?_⟩
  rw [wp_let]
  refine wp_for1 8 0 (fun x τ => YF n f σ τ ∧ ∀ j, j < x → τ.1 188 j = nI 0) ?_ ?_ ⟨YF.refl hV.1.memo, fun j hj => by omega⟩ (by omega) (by unfold sa_F; omega)
  · rintro x τ hx ⟨yf, hrow⟩ j hj
    have hk1 := (hV.yf yf).1.1
    rw [wp_if]
    refine ⟨fun q => absurd q (nI_ge (a := x) (b := 8) hx (by omega)), fun _ => ?_⟩
    rw [wp_bnd, wp_rdR (v := 188) rfl (sk_159_68 hk1), wp_bnd, wp_stI (n := x) (len := 8) al_188 rfl (by omega) (by omega), wp_let, nI_1]
    refine hj _ ⟨yf.up, fun y hy => ?_⟩
    rw [upI_self]
    by_cases e : y = x
    · subst e; rw [va_up_self]; rfl
    · rw [va_up_ne _ _ e]; exact hrow y (by omega)
  · rintro τ ⟨yf, hrow⟩ j
    have hV1 := hV.yf yf
    have hk1 := hV1.1.1
    have w2 : τ.1 173 (7 * c + 2) = nI g := by rw [hV1.2.1, toW_own (by omega)]; exact hg
    rw [wp_if]
    refine ⟨fun _ => ?_, fun q => absurd (show (8 : Int32) ≤ nI 8 by decide) q⟩
    rw [wp_bnd, wp_rdR (v := 173) rfl (sk_159_35 hk1), wp_bnd, wp_ldI (n := 7 * c + 2) (len := 260) al_173 (i72 c) (by omega) (by omega), w2, wp_let, wp_let]
    refine wp_for3 q.length 1 (fun i a b τ => 1 ≤ i ∧ YF n f σ τ ∧ a = nI (sRn W z (lsS f hold z wr md h0) q S g (i - 1)) ∧ b = nI (phr W z q (i - 1)) ∧ ∀ j, j < 8 → τ.1 188 j = nI (layF W z (lsS f hold z wr md h0) q S g (i - 1) j)) ?_ ?_ ⟨Nat.le_refl 1, yf, rfl, rfl, fun j hj => hrow j hj⟩ p1 (by unfold sa_F; omega)
    · rintro i a b υ hi ⟨i1, yf2, rfl, rfl, hr2⟩ j hj
      obtain ⟨x, rfl⟩ : ∃ x, i = x + 1 := ⟨i - 1, by omega⟩
      rw [show x + 1 - 1 = x by omega] at hr2 ⊢
      rw [show x + 1 + 1 - 1 = x + 1 by omega] at hj
      have hV2 := hV.yf yf2
      have hk2 := hV2.1.1
      have ex : nI (x + 1) - 1 = nI x := nI_pred x
      have px := pP x (by omega)
      have px1 := pP (x + 1) hi
      obtain ⟨w, hw⟩ := Option.isSome_iff_exists.mp (pw x hi)
      have hwW := lwy_lt hw
      obtain ⟨⟨t1, t9, et⟩, f9, ef⟩ := wt_eq hz hwW
      have fw := r_wayOf hV2.1 px px1 (lwy_low (W := W) (z := z) (a := q.getD x 0) (b := q.getD (x + 1) 0))
      rw [hw] at fw
      have fw' : f_X12_wayOf 159 (nI (q.getD x 0)) (nI (q.getD (x + 1) 0)) υ = some (nI w, υ) := fw
      have eh : hrs W z (q.getD x 0) (q.getD (x + 1) 0) = wtN z w := by unfold hrs; rw [hw]
      have efd : frd W z (q.getD x 0) (q.getD (x + 1) 0) = wfN z w := by unfold frd; rw [hw]
      have ephr : phr W z q (x + 1) = phr W z q x + wtN z w := by rw [← eh]; rfl
      have hle := hmono (x + 1) (by omega)
      have x55 : υ.1 159 55 = nI q.length := by rw [yf2.2.2.1 55 (pf_no (by omega))]; exact h55
      have x184 : ∀ j, j < q.length → υ.1 184 j = nI (q.getD j 0) := fun j hj => by rw [yf2.2.1 184 (nm_M 184 (by omega)) (by omega)]; exact h184 j hj
      have hlay0 : layF W z (lsS f hold z wr md h0) q S g x (q.getD (x + 1) 0) = 0 := layF_no x (fun j hj => pnd (j + 1) (x + 1) (by omega) hi)
      have elr : lRn W z (lsS f hold z wr md h0) q S g x = (rrS (lsS f hold z wr md h0) (q.getD (x + 1) 0) (phr W z q x) S (sRn W z (lsS f hold z wr md h0) q S g x) (wtN z w)).2 := by
        unfold lRn
        rw [eh]
      have esr : sRn W z (lsS f hold z wr md h0) q S g (x + 1) = (rrS (lsS f hold z wr md h0) (q.getD (x + 1) 0) (phr W z q x) S (sRn W z (lsS f hold z wr md h0) q S g x) (wtN z w)).1 - wfN z w := by
        show (rrS (lsS f hold z wr md h0) (q.getD (x + 1) 0) (phr W z q x) S (sRn W z (lsS f hold z wr md h0) q S g x) (hrs W z (q.getD x 0) (q.getD (x + 1) 0))).1 - frd W z (q.getD x 0) (q.getD (x + 1) 0) = _
        rw [eh, efd]
      have hlay1 : layF W z (lsS f hold z wr md h0) q S g (x + 1) = va_up (layF W z (lsS f hold z wr md h0) q S g x) (q.getD (x + 1) 0) (lRn W z (lsS f hold z wr md h0) q S g x) := rfl
      have hsg := sRn_le (W := W) (z := z) (q := q) (S := S) (g := g) hl x
      rw [esr, ephr, hlay1, elr] at hj
      rw [wp_bnd, wp_rdI, x55]
      refine ⟨rfl, ?_⟩
      rw [wp_if]
      refine ⟨fun q => absurd q (nI_ge hi (by omega)), fun _ => ?_⟩
      rw [ex, wp_bnd, wp_rdR (v := 184) rfl (sk_159_52 hk2), wp_bnd, wp_ldI (n := x + 1) (len := 9) al_184 rfl (by omega) (by omega), x184 _ hi, wp_bnd, wp_rdR (v := 184) rfl (sk_159_52 hk2), wp_bnd, wp_ldI (n := x) (len := 9) al_184 rfl (by omega) (by omega), x184 _ (by omega), wp_bnd, wp_of_eq fw', wp_let]
      generalize q.getD (x + 1) 0 = b at *
      generalize phr W z q x = e0 at *
      generalize sRn W z (lsS f hold z wr md h0) q S g x = g1 at *
      generalize layF W z (lsS f hold z wr md h0) q S g x = ly at *
      have hb := fun t => rrS_le (S := S) (g := g1) (b := b) (e := e0) hl t
      obtain ⟨hh, hh9, ezh⟩ := (hz.2.1 b px1).1
      have ezc : (z (5 * b)).toNatClampNeg = hh := by rw [ezh, nI_clamp (by omega)]
      have hlsd : ∀ e g, lsS f hold z wr md h0 b e g = min (WN f hold g wr hh md (h0 + e)) g := fun e g => by unfold lsS; rw [ezc]
      refine wp_for3 (wtN z w) 0 (fun t a2 b2 τ => YF n f σ τ ∧ a2 = nI (rrS (lsS f hold z wr md h0) b e0 S g1 t).1 ∧ b2 = nI (e0 + t) ∧ ∀ j, j < 8 → τ.1 188 j = nI (va_up ly b (rrS (lsS f hold z wr md h0) b e0 S g1 t).2 j)) ?_ ?_ ⟨yf2, rfl, rfl, fun j hj => ?_⟩ (by omega) (by unfold sa_F; omega)
      · rintro t a2 b2 υ2 ht ⟨yf3, rfl, rfl, hr3⟩ j2 hj2
        have hV3 := hV.yf yf3
        have hk3 := hV3.1.1
        have hwy := hV3.wy (j := 2) hwW (by omega)
        rw [et] at hwy
        have hbt := hb t
        have hst : rrS (lsS f hold z wr md h0) b e0 S g1 (t + 1) = if S.testBit (e0 + t) then ((rrS (lsS f hold z wr md h0) b e0 S g1 t).1 - lsS f hold z wr md h0 b (e0 + t) (rrS (lsS f hold z wr md h0) b e0 S g1 t).1, (rrS (lsS f hold z wr md h0) b e0 S g1 t).2 + lsS f hold z wr md h0 b (e0 + t) (rrS (lsS f hold z wr md h0) b e0 S g1 t).1) else rrS (lsS f hold z wr md h0) b e0 S g1 t := rfl
        generalize rrS (lsS f hold z wr md h0) b e0 S g1 t = R at *
        have put : ∀ (y : Nat) (υ4 : sa_St), YF n f σ υ4 → υ4.1 188 = υ2.1 188 → y ≤ R.1 → rrS (lsS f hold z wr md h0) b e0 S g1 (t + 1) = (R.1 - y, R.2 + y) → wp (sa_bnd (sa_rdR 12 159 68) fun v38 =>
sa_bnd (sa_ldI .int v38 (nI b)) fun v39 =>
sa_bnd (sa_stI v38 (nI b) (v39 + nI y)) fun _ =>
sa_let ((nI R.1 - nI y) : Int32) fun x40 =>
sa_let ((nI (e0 + t) + 1) : Int32) fun x41 =>
sa_let ((nI t + 1) : Int32) fun x42 =>
j2 x40 x41 x42) υ4 Q := by
          intro y υ4 yf4 e188 hy hrr
          have hk4 := (hV.yf yf4).1.1
          have r0 : υ4.1 188 b = nI R.2 := by rw [e188, hr3 b (by omega), va_up_self]
          rw [wp_bnd, wp_rdR (v := 188) rfl (sk_159_68 hk4), wp_bnd, wp_ldI (n := b) (len := 8) al_188 rfl (by omega) (by omega), r0, nI_add, wp_bnd, wp_stI (n := b) (len := 8) al_188 rfl (by omega) (by omega), wp_let, wp_let, wp_let, nI_1, nI_1, pk_sub hy]
          refine hj2 _ _ _ ⟨yf4.up, by rw [hrr], rfl, fun y2 hy2 => ?_⟩
          rw [upI_self, hrr]
          by_cases e : y2 = b
          · subst e; rw [va_up_self, va_up_self]
          · rw [va_up_ne _ _ e, va_up_ne _ _ e, e188, hr3 y2 hy2, va_up_ne _ _ e]
        rw [wp_bnd, wp_rdR (v := 166) rfl (sk_159_20 hk3), wp_bnd, wp_ldI (n := 4 * w + 2) (len := 48) al_166 (i42 w) (by omega) (by omega), hwy, wp_if]
        refine ⟨fun q => absurd q (nI_ge ht (by omega)), fun _ => ?_⟩
        rw [wp_bnd, wp_of_eq (m_has2 hS (by omega)), wp_jn1, wp_if]
        cases hbit : S.testBit (e0 + t) with
        | false =>
          rw [hbit] at hst
          refine ⟨fun _ => put 0 υ2 yf3 rfl (Nat.zero_le _) hst, fun q => absurd rfl q⟩
        | true =>
          rw [hbit, if_pos rfl] at hst
          refine ⟨fun q => absurd q (by decide), fun _ => ?_⟩
          have w3 : υ2.1 173 (7 * c + 3) = nI wr := by rw [hV3.2.1, toW_own (by omega)]; exact kw
          have w4 : υ2.1 173 (7 * c + 4) = nI md := by rw [hV3.2.1, toW_own (by omega)]; exact kd
          have w76 : υ2.1 173 76 = nI h0 := by rw [hV3.2.1, toW_76]; exact kt
          have wz : υ2.1 164 (4 * b) = nI hh := by
            have := hV3.pl (j := 0) px1 (by omega)
            exact this.trans ezh
          rw [wp_bnd, wp_rdR (v := 173) rfl (sk_159_35 hk3), wp_bnd, wp_ldI (n := 7 * c + 3) (len := 260) al_173 (i73 c) (by omega) (by omega), w3, wp_bnd, wp_rdR (v := 164) rfl (sk_159_18 hk3), wp_bnd, wp_ldI (n := 4 * b) (len := 32) al_164 (i4 b) (by omega) (by omega), wz, wp_bnd, wp_rdR (v := 173) rfl (sk_159_35 hk3), wp_bnd, wp_ldI (n := 7 * c + 4) (len := 260) al_173 (i74 c) (by omega) (by omega), w4, wp_bnd, wp_rdR (v := 173) rfl (sk_159_35 hk3), wp_bnd, wp_ldI (j := 76) (n := 76) (len := 260) al_173 rfl (by omega) (by omega), w76, nI_add, wp_bnd]
          refine w_wearBy hk3 hV3.1.2.2.2.2.1 (by omega) w9 hh9 d3 (by omega) (fun τ2 hF => ?_)
          rw [hV3.1.2.2.2.2.2.2]
          have hle2 := WN_le f hold R.1 wr hh md (h0 + (e0 + t))
          have hmin : sa_min (nI R.1) (nI (WN f hold R.1 wr hh md (h0 + (e0 + t)))) = nI (lsS f hold z wr md h0 b (e0 + t) R.1) := by
            rw [sa_minN (by omega) (by omega), hlsd, Nat.min_comm]
          rw [hmin]
          exact put _ τ2 (yf3.trans (YF.ofWf hF)) (hF.1.2 188 (nm_M 188 (by omega))).1 (hl _ _ _) hst
      · rintro a2 b2 υ2 ⟨yf3, rfl, rfl, hr3⟩ j2
        have hV3 := hV.yf yf3
        have hk3 := hV3.1.1
        have hwy := hV3.wy (j := 2) hwW (by omega)
        rw [et] at hwy
        have hwf := hV3.wy (j := 3) hwW (by omega)
        rw [ef] at hwf
        have hbt := hb (wtN z w)
        have hmx : sa_max 0 (nI (rrS (lsS f hold z wr md h0) b e0 S g1 (wtN z w)).1 - nI (wfN z w)) = nI ((rrS (lsS f hold z wr md h0) b e0 S g1 (wtN z w)).1 - wfN z w) := mx_sub (by omega) (by omega)
        rw [wp_bnd, wp_rdR (v := 166) rfl (sk_159_20 hk3), wp_bnd, wp_ldI (n := 4 * w + 2) (len := 48) al_166 (i42 w) (by omega) (by omega), hwy, wp_if]
        refine ⟨fun _ => ?_, fun q => absurd (nI_le (Nat.le_refl _) (by omega)) q⟩
        rw [wp_bnd, wp_rdR (v := 166) rfl (sk_159_20 hk3), wp_bnd, wp_ldI (n := 4 * w + 3) (len := 48) al_166 (i43 w) (by omega) (by omega), hwf, hmx, wp_let, wp_let, nI_1]
        exact hj _ _ _ ⟨by omega, yf3, rfl, rfl, hr3⟩
      · rw [hr2 j hj]
        by_cases e : j = b
        · subst e; rw [va_up_self, hlay0]; rfl
        · rw [va_up_ne _ _ e]
    · rintro a b υ ⟨-, yf2, rfl, rfl, hr2⟩ j
      have x55 : υ.1 159 55 = nI q.length := by rw [yf2.2.2.1 55 (pf_no (by omega))]; exact h55
      rw [wp_bnd, wp_rdI, x55]
      refine ⟨rfl, ?_⟩
      rw [wp_if]
      refine ⟨fun _ => ?_, fun q => absurd (nI_le (Nat.le_refl _) (by omega)) q⟩
      have hlay := okB_lay (W := W) (z := z) (ls := lsS f hold z wr md h0) (q := q) (g := g) (nz := nz) (pl := pl) (fo := fo) (S := S) p1 pnd
      have hlb : ∀ j, layF W z (lsS f hold z wr md h0) q S g (q.length - 1) j ≤ g := by
        intro j
        generalize q.length - 1 = i
        induction i with
        | zero => exact Nat.zero_le _
        | succ i ih =>
          show va_up _ _ _ j ≤ g
          by_cases e : j = q.getD (i + 1) 0
          · rw [e, va_up_self]; exact lRn_le hl i
          · rw [va_up_ne _ _ e]; exact ih
      generalize layF W z (lsS f hold z wr md h0) q S g (q.length - 1) = ly at *
      generalize okB W z (lsS f hold z wr md h0) q g nz pl fo S (q.length - 1) = ob at *
      obtain ⟨z8, z2, z3⟩ := hs.yf yf2
      have hk2 := (hV.yf yf2).1.1
      rw [wp_let]
      refine wp_for1 nz 0 (fun x υ2 => υ2 = υ ∧ ∀ y, y < x → ly (pl y) = fo y) ?_ ?_ ⟨rfl, fun y hy => by omega⟩ (Nat.zero_le _) (by unfold sa_F; omega)
      · rintro x υ2 hx ⟨rfl, hf⟩ j2 hj2
        obtain ⟨y1, y2, y3, y4⟩ := z3 x hx
        have := hlb (pl x)
        rw [wp_bnd, wp_rdI, z2]
        refine ⟨rfl, ?_⟩
        rw [wp_if]
        refine ⟨fun q => absurd q (nI_ge hx (by omega)), fun _ => ?_⟩
        rw [wp_bnd, wp_rdR (v := 188) rfl (sk_159_68 hk2), wp_bnd, wp_rdR (v := 186) rfl (sk_159_66 hk2), wp_bnd, wp_ldI (n := x) (len := 8) al_186 rfl (by omega) (by omega), y3, wp_bnd, wp_ldI (n := pl x) (len := 8) al_188 rfl (by omega) (by omega), hr2 _ (by omega), wp_bnd, wp_rdR (v := 187) rfl (sk_159_67 hk2), wp_bnd, wp_ldI (n := x) (len := 8) al_187 rfl (by omega) (by omega), y4, wp_if, nI_eq (by omega) (by omega)]
        refine ⟨fun h => ?_, fun h => ?_⟩
        · rw [wp_let, nI_1]
          refine hj2 _ ⟨rfl, fun y hy => ?_⟩
          by_cases e : y = x
          · subst e; exact h
          · exact hf y (by omega)
        · rw [wp_retZ]
          refine ⟨Or.inl rfl, ?_⟩
          have hb : ob = false := by
            cases ob with
            | false => rfl
            | true => exact absurd (hlay.mp rfl x hx) h
          have hq := hQ υ2 yf2
          rw [hb] at hq
          exact hq
      · rintro υ2 ⟨rfl, hf⟩ j2
        have hq := hQ υ2 yf2
        rw [hlay.mpr hf] at hq
        rw [wp_bnd, wp_rdI, z2]
        refine ⟨rfl, ?_⟩
        rw [wp_if]
        refine ⟨fun _ => ?_, fun q => absurd (nI_le (Nat.le_refl _) (by omega)) q⟩
        rw [wp_retZ]
        exact ⟨Or.inr rfl, hq⟩
end MSO
