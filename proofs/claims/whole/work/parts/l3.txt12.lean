/-! TEXTS: text, of laws and of orders -/
def CC1 (n : Nat) (j k : Nat) : Prop := (j = 1 ∧ (k = 1 ∨ k = 2)) ∨ j = 18 + 3 * n ∨ j = 19 + 3 * n ∨ (j = 15 ∧ k = 2)
def DD1 (n : Nat) (j k : Nat) : Prop := ARd j k ∨ (j = 159 ∧ (k = 6 ∨ k = 7)) ∨ (j = 161 ∧ 240 * n ≤ k) ∨ (j = 162 ∧ k = n)
def CC2 (m : Nat) (j k : Nat) : Prop := (j = 1 ∧ (k = 1 ∨ k = 2)) ∨ j = 34 + 2 * m ∨ j = 35 + 2 * m ∨ (j = 0 ∧ k = 5)
def DD2 (m : Nat) (j k : Nat) : Prop := ARd j k ∨ (j = 159 ∧ (k = 6 ∨ k = 34)) ∨ (j = 171 ∧ 48 * m ≤ k) ∨ (j = 172 ∧ k = m)
section TXT12
variable {T : Nat → Nat} {N n m : Nat} {σ : sa_St}
theorem c_txt1 (ct : CTp T N σ) (hn : σ.1 15 2 = nI n) (hn4 : n < 4) : wp (f_X11_text 0 (nI 1)) σ (fun r τ => ((lwP T N).2 = none → r = -1 ∧ TFr (18 + 3 * n) (19 + 3 * n) σ τ) ∧ ∀ cs, (lwP T N).2 = some cs → r = nI n ∧ ZFr (CC1 n) σ τ ∧ τ.1 1 1 = 0 ∧ τ.1 15 2 = nI (n + 1) ∧ τ.1 (18 + 3 * n) 2 = nI (lwM cs).length ∧ (lwM cs).length ≤ 240 ∧ ∀ i, i < (lwM cs).length → τ.1 (19 + 3 * n) i = nI ((lwM cs).getD i 0)) := by
  have hk := ct.1
  refine c_txtN (j := 1) (by omega) (by rw [c_full1 hk hn (by omega), if_pos hn4]) (c_rt1 ct hn (by omega)) (fun e τ fr => ⟨fun _ => ⟨rfl, fr⟩, fun cs e2 => by rw [e] at e2; cases e2⟩) (fun cs e τ fr hG => ?_)
  have hkt : SK τ.2.1 := by rw [fr.1]; exact hk
  obtain ⟨ctt, hp, -, hl, hz, hv⟩ := hG
  have h240 := ct.2.1
  rw [wp_bnd, wp_rdR (v := 1) rfl (sk_0_0 hkt), wp_bnd, wp_wrI]
  refine ⟨rfl, ?_⟩
  rw [wp_if]
  refine ⟨fun _ => ?_, fun q => absurd (show ¬ nI 1 = 0 by decide) q⟩
  rw [wp_jn1, wp_if]
  refine ⟨fun q => absurd rfl q, fun _ => ?_⟩
  rw [wp_bnd, wp_rdR (v := 15) rfl (show (sa_upI τ 1 1 0).2.1 0 3 = 15 + 1 from sk_0_3 hkt), wp_bnd, wp_rdI, upI_ne (by omega), fr.2.1 15 (by omega) (by omega) (by omega), hn]
  refine ⟨rfl, ?_⟩
  rw [wp_bnd, wp_wrI, nI_1]
  refine ⟨rfl, ?_⟩
  rw [wp_ret]
  refine ⟨(fun e2 => by rw [e] at e2; cases e2), fun cs2 e2 => ?_⟩
  rw [e] at e2
  cases e2
  refine ⟨rfl, ?_, ?_, ?_, ?_, by omega, fun i hi => ?_⟩
  · exact ((fr.z (by unfold CC1; omega) (fun k => by unfold CC1; omega) (fun k => by unfold CC1; omega)).trans (ZFr.up (by unfold CC1; omega))).trans (ZFr.up (by unfold CC1; omega))
  · rw [upI_ne (by omega), upI_self, va_up_self]
  · rw [upI_self, va_up_self]
  · rw [upI_ne (by omega), upI_ne (by omega)]; exact hz
  · rw [upI_ne (by omega), upI_ne (by omega)]; exact hv i hi
theorem c_txt2 (ct : CTp T N σ) (hm : σ.1 0 5 = nI m) (hm4 : m < 4) : wp (f_X11_text 0 (nI 2)) σ (fun r τ => ((orP T N).2 = none → r = -1 ∧ TFr (34 + 2 * m) (35 + 2 * m) σ τ) ∧ ∀ xs, (orP T N).2 = some xs → r = nI m ∧ ZFr (CC2 m) σ τ ∧ τ.1 1 1 = 0 ∧ τ.1 0 5 = nI (m + 1) ∧ τ.1 (34 + 2 * m) 1 = nI xs.length ∧ ORw 0 (τ.1 (35 + 2 * m)) xs) := by
  have hk := ct.1
  refine c_txtN (j := 2) (by omega) (by rw [c_full2 hk hm (by omega), if_pos hm4]) (c_rt2 ct hm (by omega)) (fun e τ fr => ⟨fun _ => ⟨rfl, fr⟩, fun cs e2 => by rw [e] at e2; cases e2⟩) (fun xs e τ fr hG => ?_)
  have hkt : SK τ.2.1 := by rw [fr.1]; exact hk
  obtain ⟨hz, hw⟩ := hG
  rw [wp_bnd, wp_rdR (v := 1) rfl (sk_0_0 hkt), wp_bnd, wp_wrI]
  refine ⟨rfl, ?_⟩
  rw [wp_if]
  refine ⟨fun _ => ?_, fun q => absurd (show ¬ nI 2 = 0 by decide) q⟩
  rw [wp_jn1, wp_if]
  refine ⟨fun _ => ?_, fun q => absurd (show ¬ nI 2 = 1 by decide) q⟩
  rw [wp_bnd, wp_rdI, upI_ne (by omega), fr.2.1 0 (by omega) (by omega) (by omega), hm]
  refine ⟨rfl, ?_⟩
  rw [wp_bnd, wp_wrI, nI_1]
  refine ⟨rfl, ?_⟩
  rw [wp_ret]
  refine ⟨(fun e2 => by rw [e] at e2; cases e2), fun cs2 e2 => ?_⟩
  rw [e] at e2
  cases e2
  refine ⟨rfl, ?_, ?_, ?_, ?_, ?_⟩
  · exact ((fr.z (by unfold CC2; omega) (fun k => by unfold CC2; omega) (fun k => by unfold CC2; omega)).trans (ZFr.up (by unfold CC2; omega))).trans (ZFr.up (by unfold CC2; omega))
  · rw [upI_ne (by omega), upI_self, va_up_self]
  · rw [upI_self, va_up_self]
  · rw [upI_ne (by omega), upI_ne (by omega)]; exact hz
  · rw [upI_ne (by omega), upI_ne (by omega)]; exact hw
theorem m_txt1 (h : RBy T N σ) (h7 : σ.1 159 7 = nI n) (hn4 : n < 4) : wp (f_X12_text 159 (nI 1)) σ (fun r τ => ((lwP T N).2 = none → r = -1 ∧ ZFr ARd σ τ) ∧ ∀ cs, (lwP T N).2 = some cs → r = nI n ∧ ZFr (DD1 n) σ τ ∧ τ.1 159 6 = 0 ∧ τ.1 159 7 = nI (n + 1) ∧ τ.1 162 n = nI N ∧ ∀ y, y < N → τ.1 161 (240 * n + y) = vp_nar .byte (nI (T y))) := by
  have hN := h.2.1
  have hle : (lwP T N).1 ≤ N := lw_le _ _ _ (bk_le (by omega))
  have z0 : ZFr ARd σ (sa_upI σ 159 0 0) := ZFr.up (by unfold ARd; omega)
  have hR := h.z z0 (by unfold ARd; omega) (fun k => by unfold ARd; omega)
  have e7 : (sa_upI σ 159 0 0).1 159 7 = nI n := by rw [upI_self, va_up_ne _ _ (by omega)]; exact h7
  have e4 : (nI n = 4) ↔ n = 4 := nI_eq (a := n) (b := 4) (by omega) (by omega)
  unfold f_X12_text
  rw [wp_gd]
  refine ⟨rfl, ?_⟩
  rw [wp_bnd, wp_wrI]
  refine ⟨rfl, ?_⟩
  generalize sa_upI σ 159 0 0 = σ1 at *
  rw [wp_bnd, w_isIn]
  refine ⟨fun _ => ?_, fun q => absurd (by decide) q⟩
  rw [wp_jn0, wp_if]
  refine ⟨fun q => absurd q (show ¬ nI 1 = 0 by decide), fun _ => ?_⟩
  rw [wp_jn0, wp_if]
  refine ⟨fun q => absurd rfl q, fun _ => ?_⟩
  rw [wp_bnd, wp_rdI, e7]
  refine ⟨rfl, ?_⟩
  rw [wp_if, e4]
  refine ⟨fun q => by omega, fun _ => ?_⟩
  rw [wp_jn0, wp_if]
  refine ⟨fun _ => ?_, fun q => absurd (show ¬ nI 1 = 2 by decide) q⟩
  rw [wp_bnd]
  refine wp_mono (m_flt1 hR) (fun r τ hr => ?_)
  obtain ⟨z1, hr⟩ := hr
  have z2 := z0.trans z1
  have hRt := hR.z z1 (by unfold ARd; omega) (fun k => by unfold ARd; omega)
  have e7t : τ.1 159 7 = nI n := by rw [z1.2.2 159 7 (by unfold ARd; omega)]; exact e7
  generalize lwP T N = r0 at *
  obtain ⟨q, mm⟩ := r0
  rw [wp_if]
  cases mm with
  | none =>
    have hr' : r = nI q := hr
    have hne : ¬ r = -1 := fun e => by
      rw [hr'] at e
      have e' : nI q = mI := e
      rw [eq_mI (by dsimp only at hle; omega)] at e'
      exact e'
    refine ⟨fun q => absurd q hne, fun _ => ?_⟩
    rw [wp_ret]
    exact ⟨fun _ => ⟨rfl, z2⟩, fun cs e => by cases e⟩
  | some cs =>
    obtain ⟨rfl, -⟩ := hr
    refine ⟨fun _ => ?_, fun q => absurd rfl q⟩
    rw [wp_bnd, wp_rdI, hRt.2.2.2.1]
    refine ⟨rfl, ?_⟩
    rw [wp_bnd, wp_wrI]
    refine ⟨rfl, ?_⟩
    rw [wp_if]
    refine ⟨fun q => absurd rfl q, fun _ => ?_⟩
    have z3 : ZFr (DD1 n) σ (sa_upI τ 159 6 0) := (show ZFr (DD1 n) σ τ from z2.mono (fun j k q => Or.inl q)).trans (ZFr.up (Or.inr (Or.inl ⟨rfl, Or.inl rfl⟩)))
    have hk3 : SK (sa_upI τ 159 6 0).2.1 := hRt.1
    have f6 : (sa_upI τ 159 6 0).1 159 6 = 0 := by rw [upI_self, va_up_self]
    have f7 : (sa_upI τ 159 6 0).1 159 7 = nI n := by rw [upI_self, va_up_ne _ _ (by omega)]; exact e7t
    have f160 : ∀ i, i < N → (sa_upI τ 159 6 0).1 160 i = vp_nar .byte (nI (T i)) := fun i hi => by rw [upI_ne (by omega)]; exact hRt.2.2.2.2 i hi
    generalize sa_upI τ 159 6 0 = τ1 at *
    rw [wp_let]
    refine wp_for1 N 0 (fun i υ => υ.2 = τ1.2 ∧ (∀ j, j ≠ 161 → υ.1 j = τ1.1 j) ∧ (∀ j, j < 240 * n → υ.1 161 j = τ1.1 161 j) ∧ ∀ y, y < i → υ.1 161 (240 * n + y) = vp_nar .byte (nI (T y))) ?_ ?_ ⟨rfl, fun _ _ => rfl, fun _ _ => rfl, fun y hy => by omega⟩ (Nat.zero_le _) (by unfold sa_F; omega)
    · rintro i υ hi ⟨g1, g2, g3, g4⟩ j hj
      have hku : SK υ.2.1 := by rw [g1]; exact hk3
      have ea : 240 * nI n + nI i = nI (240 * n + i) := by
        have e1 : (240 : Int32) * nI n = nI (240 * n) := pk_mul 240 n
        rw [e1, nI_add]
      rw [wp_if]
      refine ⟨fun q => absurd q (nI_ge hi (by omega)), fun _ => ?_⟩
      rw [wp_bnd, wp_rdR (v := 161) rfl (sk_159_2 hku), wp_bnd, wp_rdI, g2 159 (by omega), f7]
      refine ⟨rfl, ?_⟩
      rw [wp_bnd, wp_rdR (v := 160) rfl (sk_159_1 hku), wp_bnd, wp_ldI (n := i) (len := 240) al_160 rfl (by omega) (by omega), g2 160 (by omega), f160 i hi, wp_bnd, ea, wp_stB (n := 240 * n + i) (len := 960) al_161 rfl (by omega) (by omega), by_id (h.2.2.1 i hi).2, wp_let, nI_1]
      refine hj _ ⟨g1, fun j a => by rw [upI_ne a]; exact g2 j a, fun j a => by rw [upI_self, va_up_ne _ _ (by omega)]; exact g3 j a, fun y hy => ?_⟩
      rw [upI_self]
      by_cases e : y = i
      · subst e; rw [va_up_self]
      · rw [va_up_ne _ _ (by omega)]; exact g4 y (by omega)
    · rintro υ ⟨g1, g2, g3, g4⟩ j
      have hku : SK υ.2.1 := by rw [g1]; exact hk3
      rw [wp_if]
      refine ⟨fun _ => ?_, fun q => absurd (nI_le (Nat.le_refl _) (by omega)) q⟩
      rw [wp_bnd, wp_rdR (v := 162) rfl (sk_159_3 hku), wp_bnd, wp_rdI, g2 159 (by omega), f7]
      refine ⟨rfl, ?_⟩
      rw [wp_bnd, wp_stI (n := n) (len := 4) al_162 rfl (by omega) (by omega), wp_bnd, wp_rdI, upI_ne (by omega), g2 159 (by omega), f7]
      refine ⟨rfl, ?_⟩
      rw [wp_bnd, wp_wrI, nI_1]
      refine ⟨rfl, ?_⟩
      rw [wp_bnd, wp_rdI, upI_self, va_up_self]
      refine ⟨rfl, ?_⟩
      rw [wp_ret, nI_pred]
      refine ⟨(fun e => by cases e), fun cs2 _ => ⟨rfl, ?_, ?_, ?_, ?_, fun y hy => ?_⟩⟩
      · have z4 : ZFr (DD1 n) τ1 υ := by
          refine ⟨fun a b _ => by rw [g1], by rw [g1], fun j k hA => ?_⟩
          by_cases e : j = 161
          · subst e
            exact g3 k (by unfold DD1 at hA; omega)
          · rw [g2 j e]
        exact ((z3.trans z4).trans (ZFr.up (by unfold DD1; omega))).trans (ZFr.up (by unfold DD1; omega))
      · rw [upI_self, va_up_ne _ _ (by omega), upI_ne (by omega), g2 159 (by omega)]; exact f6
      · rw [upI_self, va_up_self]
      · rw [upI_ne (by omega), upI_self, va_up_self]
      · rw [upI_ne (by omega), upI_ne (by omega)]; exact g4 y hy
end TXT12
