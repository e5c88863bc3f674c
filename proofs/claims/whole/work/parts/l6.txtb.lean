/-! TEXTS: text, of orders: alike -/
theorem O_add {m : Nat} {σ τ : sa_St} {xs : List STp} (h : I_O σ) (hm : σ.1 0 5 = nI m) (hm4 : m < 4) (c05 : τ.1 0 5 = nI (m + 1)) (c34 : τ.1 159 34 = nI (m + 1)) (hr : ∀ o, o < m → τ.1 (34 + 2 * o) = σ.1 (34 + 2 * o) ∧ τ.1 (35 + 2 * o) = σ.1 (35 + 2 * o)) (r171 : ∀ j, j < 48 * m → τ.1 171 j = σ.1 171 j) (r172 : ∀ o, o < m → τ.1 172 o = σ.1 172 o) (xl : 1 ≤ xs.length ∧ xs.length ≤ 16) (xo : ∀ x, x ∈ xs → StOk x) (n1 : τ.1 (34 + 2 * m) 1 = nI xs.length) (n2 : τ.1 172 m = nI xs.length) (n3 : ORw 0 (τ.1 (35 + 2 * m)) xs) (n4 : ORw (48 * m) (τ.1 171) xs) : I_O τ := by
  unfold I_O at h ⊢
  obtain ⟨m2, i1, i2, i3, i4⟩ := h
  have em : m2 = m := by
    rw [hm] at i2
    exact ((nI_eq (by omega) (by omega)).mp i2).symm
  subst em
  refine ⟨m2 + 1, by omega, c05, c34, fun o ho => ?_⟩
  by_cases eo : o = m2
  · subst eo
    refine ⟨xs.length, xl.1, xl.2, n1, n2, fun i hi => ?_⟩
    show StepR (fun x => τ.1 171 (48 * o + 3 * i + x)) (τ.1 (35 + 2 * o) (3 * i)) (τ.1 (35 + 2 * o) (3 * i + 1)) (τ.1 (35 + 2 * o) (3 * i + 2))
    obtain ⟨a1, a2, a3⟩ := n3 i hi
    obtain ⟨b1, b2, b3⟩ := n4 i hi
    rw [Nat.zero_add] at a1 a2 a3
    obtain ⟨s1, s2, s3⟩ := xo _ (gd_mem (d := (0, 0, 0)) hi)
    rw [a1, a2, a3]
    exact ⟨(xs.getD i (0, 0, 0)).1, by omega, rfl, s2, s3, b1, b2, b3⟩
  · have ho2 : o < m2 := by omega
    obtain ⟨c, c1, c2, c3, c4, c5⟩ := i4 o ho2
    refine ⟨c, c1, c2, ?_, ?_, fun i hi => ?_⟩
    · show τ.1 (34 + 2 * o) 1 = nI c
      rw [(hr o ho2).1]
      exact c3
    · rw [r172 o ho2]; exact c4
    · show StepR (fun x => τ.1 171 (48 * o + 3 * i + x)) (τ.1 (35 + 2 * o) (3 * i)) (τ.1 (35 + 2 * o) (3 * i + 1)) (τ.1 (35 + 2 * o) (3 * i + 2))
      rw [(hr o ho2).2]
      obtain ⟨t, t1, t2, t3, t4, t5, t6, t7⟩ := c5 i hi
      refine ⟨t, t1, t2, t3, t4, ?_, ?_, ?_⟩
      · show τ.1 171 (48 * o + 3 * i + 0) = _
        rw [r171 _ (by omega)]; exact t5
      · show τ.1 171 (48 * o + 3 * i + 1) = _
        rw [r171 _ (by omega)]; exact t6
      · show τ.1 171 (48 * o + 3 * i + 2) = _
        rw [r171 _ (by omega)]; exact t7
section TXTB
variable {k L P W F n : Nat} {f : Nat → LWt} {σ : sa_St}
theorem txt2 (hIv : Iv k L P W F n f σ) : wp (f_X11_text 0 (nI 2)) σ (fun r τ => wp (f_X12_text 159 (nI 2)) τ (fun r2 τ2 => r2 = r ∧ Inv (k + 1) τ2)) := by
  have hIv0 := hIv
  obtain ⟨hk, hL, hT, hLd, hM, hW, hO, hC, hP, hG, hS, hZ⟩ := hIv
  obtain ⟨T, N, ct, rb⟩ := hT.tp hk
  have hO0 := hO
  obtain ⟨m, hm4, hm, hm2, -⟩ := hO
  obtain ⟨D, hD, hD2⟩ := DL hL
  have hn4 : n ≤ 4 := hW.1
  have hn : σ.1 15 2 = nI n := hW.2.1
  by_cases h4 : m < 4
  · refine wp_mono (c_txt2 ct hm h4) (fun r τ hr => ?_)
    cases hres : (orP T N).2 with
    | none =>
      obtain ⟨rfl, fr⟩ := hr.1 hres
      have rbt : RBy T N τ := by
        obtain ⟨r1, r2, r3, r4, r5⟩ := rb
        exact ⟨by rw [fr.1]; exact r1, r2, r3, by rw [fr.2.1 159 (by omega) (by omega) (by omega)]; exact r4, fun i hi => by rw [fr.2.1 160 (by omega) (by omega) (by omega)]; exact r5 i hi⟩
      refine wp_mono (m_txt2 rbt (by rw [fr.2.1 159 (by omega) (by omega) (by omega)]; exact hm2) h4) (fun r2 υ hq => ?_)
      obtain ⟨rfl, z⟩ := hq.1 hres
      refine ⟨rfl, ?_⟩
      have z1 : ZFr (AA n m D) σ τ := fr.z (by unfold AA; omega) (fun k => by unfold AA; omega) (fun k => by unfold AA; omega)
      have z2 : ZFr (AA n m D) τ υ := z.mono (fun j k q => by unfold AA; exact Or.inr (Or.inr (Or.inr (Or.inr (Or.inr (Or.inr (Or.inr q)))))))
      exact (hIv0.keep hm hm4 hD (z1.trans z2)).up
    | some xs =>
      obtain ⟨rfl, z1, t11, t05, t34, t35⟩ := hr.2 xs hres
      obtain ⟨xl, xo⟩ := or_ok 17 (bk T N 0) [] xs (bk_le (by omega)) (by decide) (fun x hx => by cases hx) hres
      have rbt : RBy T N τ := rb.z z1 (by unfold CC2; omega) (fun k => by unfold CC2; omega)
      refine wp_mono (m_txt2 rbt (by rw [z1.2.2 159 34 (by unfold CC2; omega)]; exact hm2) h4) (fun r2 υ hq => ?_)
      obtain ⟨rfl, z2, u6, u34, u172, u171⟩ := hq.2 xs hres
      refine ⟨rfl, ?_⟩
      have r1 : ∀ j, j ≠ 159 → j ≠ 165 → j ≠ 167 → j ≠ 168 → j ≠ 170 → j ≠ 171 → j ≠ 172 → υ.1 j = τ.1 j := fun j a d e g h i l => funext fun k => z2.2.2 j k (by unfold DD2 ARd; omega)
      have r2 : ∀ j, j ≠ 1 → j ≠ 34 + 2 * m → j ≠ 35 + 2 * m → j ≠ 0 → τ.1 j = σ.1 j := fun j a b c d => funext fun k => z1.2.2 j k (by unfold CC2; omega)
      have r12 : ∀ j, j ≠ 159 → j ≠ 165 → j ≠ 167 → j ≠ 168 → j ≠ 170 → j ≠ 171 → j ≠ 172 → j ≠ 1 → j ≠ 34 + 2 * m → j ≠ 35 + 2 * m → j ≠ 0 → υ.1 j = σ.1 j := fun j a b c d e g h i l m n => (r1 j a b c d e g h).trans (r2 j i l m n)
      have zz : ZFr (BB n m D) σ υ := (z1.mono (fun j k q => CC2_BB q)).trans (z2.mono (fun j k q => DD2_BB q))
      have hW2 : I_W n f υ := by
        refine W_keep hW (r12 15 (by omega) (by omega) (by omega) (by omega) (by omega) (by omega) (by omega) (by omega) (by omega) (by omega) (by omega)) ?_ ?_ (fun l hl => ⟨r12 _ (by omega) (by omega) (by omega) (by omega) (by omega) (by omega) (by omega) (by omega) (by omega) (by omega) (by omega), r12 _ (by omega) (by omega) (by omega) (by omega) (by omega) (by omega) (by omega) (by omega) (by omega) (by omega) (by omega)⟩) (r12 161 (by omega) (by omega) (by omega) (by omega) (by omega) (by omega) (by omega) (by omega) (by omega) (by omega) (by omega)) (r12 162 (by omega) (by omega) (by omega) (by omega) (by omega) (by omega) (by omega) (by omega) (by omega) (by omega) (by omega)) (r12 176 (by omega) (by omega) (by omega) (by omega) (by omega) (by omega) (by omega) (by omega) (by omega) (by omega) (by omega)) (by rw [z2.2.1, z1.2.1])
        · rw [z2.2.2 159 7 (by unfold DD2 ARd; omega)]; exact z1.2.2 159 7 (by unfold CC2; omega)
        · rw [z2.2.2 159 37 (by unfold DD2 ARd; omega)]; exact z1.2.2 159 37 (by unfold CC2; omega)
      have hO2 : I_O υ := by
        refine O_add hO0 hm h4 ?_ u34 (fun o ho => ⟨r12 _ (by omega) (by omega) (by omega) (by omega) (by omega) (by omega) (by omega) (by omega) (by omega) (by omega) (by omega), r12 _ (by omega) (by omega) (by omega) (by omega) (by omega) (by omega) (by omega) (by omega) (by omega) (by omega) (by omega)⟩) (fun j hj => ?_) (fun o ho => ?_) xl xo ?_ u172 ?_ u171
        · rw [r1 0 (by omega) (by omega) (by omega) (by omega) (by omega) (by omega) (by omega)]; exact t05
        · rw [z2.2.2 171 j (by unfold DD2 ARd; omega), r2 171 (by omega) (by omega) (by omega) (by omega)]
        · rw [z2.2.2 172 o (by unfold DD2 ARd; omega), r2 172 (by omega) (by omega) (by omega) (by omega)]
        · rw [r1 (34 + 2 * m) (by omega) (by omega) (by omega) (by omega) (by omega) (by omega) (by omega)]; exact t34
        · rw [r1 (35 + 2 * m) (by omega) (by omega) (by omega) (by omega) (by omega) (by omega) (by omega)]; exact t35
      have t11' : υ.1 1 1 = 0 := by rw [z2.2.2 1 1 (by unfold DD2 ARd; omega)]; exact t11
      exact (hIv0.rest hm4 hD zz (T_empty t11' u6) hW2 hO2).up
  · refine c_txtF (j := 2) (by omega) (by rw [c_full2 hk hm hm4, if_neg h4]) ?_
    have e4 : (nI m = 4) ↔ m = 4 := nI_eq (a := m) (b := 4) (by omega) (by omega)
    unfold f_X12_text
    rw [wp_gd]
    refine ⟨rfl, ?_⟩
    rw [wp_bnd, wp_wrI]
    refine ⟨rfl, ?_⟩
    rw [wp_bnd, w_isIn]
    refine ⟨fun _ => ?_, fun q => absurd (by decide) q⟩
    rw [wp_jn0, wp_if]
    refine ⟨fun q => absurd q (show ¬ nI 1 = 0 by decide), fun _ => ?_⟩
    rw [wp_jn0, wp_if]
    refine ⟨fun _ => ?_, fun q => absurd (show ¬ nI 2 = 1 by decide) q⟩
    rw [wp_jn0, wp_if]
    refine ⟨fun q => absurd rfl q, fun _ => ?_⟩
    rw [wp_bnd, wp_rdI, upI_self, va_up_ne _ _ (by omega), hm2]
    refine ⟨rfl, ?_⟩
    rw [wp_if, e4]
    refine ⟨fun _ => ?_, fun q => by omega⟩
    rw [wp_ret]
    refine ⟨rfl, ?_⟩
    exact hIv0.ask0 (Dn.up (Dn.refl σ) rfl) rfl
end TXTB
