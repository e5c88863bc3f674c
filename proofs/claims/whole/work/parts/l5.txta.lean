/-! TEXTS: text, of laws: alike -/
section TXTA
variable {k L P W F n : Nat} {f : Nat → LWt} {σ : sa_St}
theorem txt1 (hIv : Iv k L P W F n f σ) : wp (f_X11_text 0 (nI 1)) σ (fun r τ => wp (f_X12_text 159 (nI 1)) τ (fun r2 τ2 => r2 = r ∧ Inv (k + 1) τ2)) := by
  have hIv0 := hIv
  obtain ⟨hk, hL, hT, hLd, hM, hW, hO, hC, hP, hG, hS, hZ⟩ := hIv
  obtain ⟨T, N, ct, rb⟩ := hT.tp hk
  have hO0 := hO
  obtain ⟨m, hm4, hm, hm2, -⟩ := hO
  obtain ⟨D, hD, hD2⟩ := DL hL
  have hn4 : n ≤ 4 := hW.1
  have hn : σ.1 15 2 = nI n := hW.2.1
  have h7 : σ.1 159 7 = nI n := hW.2.2.1
  by_cases h4 : n < 4
  · refine wp_mono (c_txt1 ct hn h4) (fun r τ hr => ?_)
    cases hres : (lwP T N).2 with
    | none =>
      obtain ⟨rfl, fr⟩ := hr.1 hres
      have rbt : RBy T N τ := by
        obtain ⟨r1, r2, r3, r4, r5⟩ := rb
        exact ⟨by rw [fr.1]; exact r1, r2, r3, by rw [fr.2.1 159 (by omega) (by omega) (by omega)]; exact r4, fun i hi => by rw [fr.2.1 160 (by omega) (by omega) (by omega)]; exact r5 i hi⟩
      refine wp_mono (m_txt1 rbt (by rw [fr.2.1 159 (by omega) (by omega) (by omega)]; exact h7) h4) (fun r2 υ hq => ?_)
      obtain ⟨rfl, z⟩ := hq.1 hres
      refine ⟨rfl, ?_⟩
      have z1 : ZFr (AA n m D) σ τ := fr.z (by unfold AA; omega) (fun k => by unfold AA; omega) (fun k => by unfold AA; omega)
      have z2 : ZFr (AA n m D) τ υ := z.mono (fun j k q => by unfold AA; exact Or.inr (Or.inr (Or.inr (Or.inr (Or.inr (Or.inr (Or.inr q)))))))
      exact (hIv0.keep hm hm4 hD (z1.trans z2)).up
    | some cs =>
      obtain ⟨rfl, z1, t11, t15, t18, tl, t19⟩ := hr.2 cs hres
      have rbt : RBy T N τ := rb.z z1 (by unfold CC1; omega) (fun k => by unfold CC1; omega)
      refine wp_mono (m_txt1 rbt (by rw [z1.2.2 159 7 (by unfold CC1; omega)]; exact h7) h4) (fun r2 υ hq => ?_)
      obtain ⟨rfl, z2, u6, u7, u162, u161⟩ := hq.2 cs hres
      refine ⟨rfl, ?_⟩
      have r1 : ∀ j, j ≠ 159 → j ≠ 161 → j ≠ 162 → j ≠ 165 → j ≠ 167 → j ≠ 168 → j ≠ 170 → j ≠ 171 → j ≠ 172 → υ.1 j = τ.1 j := fun j a b c d e g h i l => funext fun k => z2.2.2 j k (by unfold DD1 ARd; omega)
      have r2 : ∀ j, j ≠ 1 → j ≠ 18 + 3 * n → j ≠ 19 + 3 * n → j ≠ 15 → τ.1 j = σ.1 j := fun j a b c d => funext fun k => z1.2.2 j k (by unfold CC1; omega)
      have zz : ZFr (BB n m D) σ υ := (z1.mono (fun j k q => CC1_BB q)).trans (z2.mono (fun j k q => DD1_BB q))
      have hlen : (lwM cs).length ≤ 241 := by omega
      have e19 : υ.1 (19 + 3 * n) = τ.1 (19 + 3 * n) := r1 _ (by omega) (by omega) (by omega) (by omega) (by omega) (by omega) (by omega) (by omega) (by omega)
      have e18 : υ.1 (18 + 3 * n) = τ.1 (18 + 3 * n) := r1 _ (by omega) (by omega) (by omega) (by omega) (by omega) (by omega) (by omega) (by omega) (by omega)
      have e15 : υ.1 15 = τ.1 15 := r1 _ (by omega) (by omega) (by omega) (by omega) (by omega) (by omega) (by omega) (by omega) (by omega)
      have e176 : υ.1 176 = σ.1 176 := (r1 176 (by omega) (by omega) (by omega) (by omega) (by omega) (by omega) (by omega) (by omega) (by omega)).trans (r2 176 (by omega) (by omega) (by omega) (by omega))
      have hW2 : I_W (n + 1) (fun l => if l = n then lwV cs else f l) υ := by
        refine W_add hW h4 ?_ ?_ u7 ?_ (fun l hl => ?_) (fun j hj => ?_) (fun l hl => ?_) e176 (by rw [z2.2.1, z1.2.1]) ?_ ?_
        · rw [e15]; exact t15
        · rw [e15]; exact z1.2.2 15 3 (by unfold CC1; omega)
        · rw [z2.2.2 159 37 (by unfold DD1 ARd; omega)]; exact z1.2.2 159 37 (by unfold CC1; omega)
        · exact ⟨(r1 _ (by omega) (by omega) (by omega) (by omega) (by omega) (by omega) (by omega) (by omega) (by omega)).trans (r2 _ (by omega) (by omega) (by omega) (by omega)), (r1 _ (by omega) (by omega) (by omega) (by omega) (by omega) (by omega) (by omega) (by omega) (by omega)).trans (r2 _ (by omega) (by omega) (by omega) (by omega))⟩
        · rw [z2.2.2 161 j (by unfold DD1 ARd; omega), r2 161 (by omega) (by omega) (by omega) (by omega)]
        · rw [z2.2.2 162 l (by unfold DD1 ARd; omega), r2 162 (by omega) (by omega) (by omega) (by omega)]
        · rw [e19, e18, t18]
          exact law_C hres hlen t19
        · rw [u162]
          exact law_T rb.2.1 rb.2.2.1 hres (fun i hi => u161 i hi)
      have hO2 : I_O υ := by
        refine O_keep hO0 hm hm4 ?_ ?_ (fun o ho => ?_) (fun j hj => ?_) (fun o ho => ?_)
        · rw [r1 0 (by omega) (by omega) (by omega) (by omega) (by omega) (by omega) (by omega) (by omega) (by omega), r2 0 (by omega) (by omega) (by omega) (by omega)]
        · rw [z2.2.2 159 34 (by unfold DD1 ARd; omega)]; exact z1.2.2 159 34 (by unfold CC1; omega)
        · exact ⟨(r1 _ (by omega) (by omega) (by omega) (by omega) (by omega) (by omega) (by omega) (by omega) (by omega)).trans (r2 _ (by omega) (by omega) (by omega) (by omega)), (r1 _ (by omega) (by omega) (by omega) (by omega) (by omega) (by omega) (by omega) (by omega) (by omega)).trans (r2 _ (by omega) (by omega) (by omega) (by omega))⟩
        · rw [z2.2.2 171 j (by unfold DD1 ARd; omega), r2 171 (by omega) (by omega) (by omega) (by omega)]
        · rw [z2.2.2 172 o (by unfold DD1 ARd; omega), r2 172 (by omega) (by omega) (by omega) (by omega)]
      have t11' : υ.1 1 1 = 0 := by rw [z2.2.2 1 1 (by unfold DD1 ARd; omega)]; exact t11
      exact (hIv0.rest hm4 hD zz (T_empty t11' u6) hW2 hO2).up
  · refine c_txtF (j := 1) (by omega) (by rw [c_full1 hk hn hn4, if_neg h4]) ?_
    have e4 : (nI n = 4) ↔ n = 4 := nI_eq (a := n) (b := 4) (by omega) (by omega)
    unfold f_X12_text
    rw [wp_gd]
    refine ⟨rfl, ?_⟩
    rw [wp_bnd, wp_wrI]
    refine ⟨rfl, ?_⟩
    rw [wp_bnd, w_isIn]
    refine ⟨fun _ => ?_, fun q => absurd (by decide) q⟩
    rw [wp_jn0, wp_if]
    refine ⟨fun q => absurd q (show ¬ nI 1 = 0 by decide), fun _ => ?_⟩
    rw [wp_jn0, wp_if]
    refine ⟨fun q => absurd rfl q, fun _ => ?_⟩
    rw [wp_bnd, wp_rdI, upI_self, va_up_ne _ _ (by omega), h7]
    refine ⟨rfl, ?_⟩
    rw [wp_if, e4]
    refine ⟨fun _ => ?_, fun q => by omega⟩
    rw [wp_ret]
    refine ⟨rfl, ?_⟩
    exact hIv0.ask0 (Dn.up (Dn.refl σ) rfl) rfl
end TXTA
