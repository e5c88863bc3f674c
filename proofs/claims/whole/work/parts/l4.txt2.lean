/-! TEXTS: text, of laws and of orders: alike -/
theorem or_le {T : Nat → Nat} {N : Nat} : ∀ (f p : Nat) (acc : List STp), p ≤ N → (orL T N f p acc).1 ≤ N := by
  intro f
  induction f with
  | zero => intro p acc hp; exact hp
  | succ f ih =>
    intro p acc hp
    have hst := orL_st (T := T) (N := N) (p := p) (f := f) (acc := acc)
    have ad := st_adv (T := T) hp
    generalize stP T N p = r0 at *
    obtain ⟨q, m⟩ := r0
    have a1 : q ≤ N := ad.1
    cases m with
    | none => rw [hst.1 rfl]; exact a1
    | some c =>
      rw [hst.2 c rfl]
      unfold orK
      dsimp only
      split
      · split
        · exact a1
        · split
          · exact ih _ _ (bk_le (by omega))
          · exact a1
      · exact a1
section TXT2
variable {T : Nat → Nat} {N n m : Nat} {σ : sa_St}
theorem m_txt2 (h : RBy T N σ) (h34 : σ.1 159 34 = nI m) (hm4 : m < 4) : wp (f_X12_text 159 (nI 2)) σ (fun r τ => ((orP T N).2 = none → r = -1 ∧ ZFr ARd σ τ) ∧ ∀ xs, (orP T N).2 = some xs → r = nI m ∧ ZFr (DD2 m) σ τ ∧ τ.1 159 6 = 0 ∧ τ.1 159 34 = nI (m + 1) ∧ τ.1 172 m = nI xs.length ∧ ORw (48 * m) (τ.1 171) xs) := by
  have hN := h.2.1
  have hle : (orP T N).1 ≤ N := or_le _ _ _ (bk_le (by omega))
  have hok : ∀ xs, (orP T N).2 = some xs → xs.length ≤ 16 := fun xs e => (or_ok 17 (bk T N 0) [] xs (bk_le (by omega)) (by decide) (fun x hx => by cases hx) e).1.2
  have z0 : ZFr ARd σ (sa_upI σ 159 0 0) := ZFr.up (by unfold ARd; omega)
  have hR := h.z z0 (by unfold ARd; omega) (fun k => by unfold ARd; omega)
  have e34 : (sa_upI σ 159 0 0).1 159 34 = nI m := by rw [upI_self, va_up_ne _ _ (by omega)]; exact h34
  have e4 : (nI m = 4) ↔ m = 4 := nI_eq (a := m) (b := 4) (by omega) (by omega)
  unfold f_X12_text
  rw [wp_gd]
  refine ⟨rfl, ?_⟩
  rw [wp_bnd, wp_wrI]
  refine ⟨rfl, ?_⟩
  generalize sa_upI σ 159 0 0 = σ1 at *
  rw [wp_bnd, w_isIn]
  refine ⟨fun _ => ?_, fun q => absurd (by decide) q⟩
  rw [wp_jn0, wp_if]
  refine ⟨fun q => absurd q (show ¬ nI 1 = 0 by decide), fun _ => ?_⟩
  rw [wp_jn0, wp_if]
  refine ⟨fun _ => ?_, fun q => absurd (show ¬ nI 2 = 1 by decide) q⟩
  rw [wp_jn0, wp_if]
  refine ⟨fun q => absurd rfl q, fun _ => ?_⟩
  rw [wp_bnd, wp_rdI, e34]
  refine ⟨rfl, ?_⟩
  rw [wp_if, e4]
  refine ⟨fun q => by omega, fun _ => ?_⟩
  rw [wp_bnd]
  refine wp_mono (m_flt2 hR) (fun r τ hr => ?_)
  obtain ⟨z1, hr⟩ := hr
  have z2 := z0.trans z1
  have hRt := hR.z z1 (by unfold ARd; omega) (fun k => by unfold ARd; omega)
  have e34t : τ.1 159 34 = nI m := by rw [z1.2.2 159 34 (by unfold ARd; omega)]; exact e34
  generalize orP T N = r0 at *
  obtain ⟨q, mm⟩ := r0
  rw [wp_if]
  cases mm with
  | none =>
    have hr' : r = nI q := hr
    have hne : ¬ r = -1 := fun e => by
      rw [hr'] at e
      have e' : nI q = mI := e
      rw [eq_mI (by dsimp only at hle; omega)] at e'
      exact e'
    refine ⟨fun q => absurd q hne, fun _ => ?_⟩
    rw [wp_ret]
    exact ⟨fun _ => ⟨rfl, z2⟩, fun cs e => by cases e⟩
  | some xs =>
    obtain ⟨rfl, hx4, hxs⟩ := hr
    have h16 := hok xs rfl
    refine ⟨fun _ => ?_, fun q => absurd rfl q⟩
    rw [wp_bnd, wp_rdI]
    refine ⟨rfl, ?_⟩
    rw [wp_bnd, wp_wrI]
    refine ⟨rfl, ?_⟩
    rw [wp_if]
    refine ⟨fun _ => ?_, fun q => absurd (show ¬ nI 2 = 1 by decide) q⟩
    rw [wp_if]
    refine ⟨fun q => absurd rfl q, fun _ => ?_⟩
    have z3 : ZFr (DD2 m) σ (sa_upI τ 159 6 0) := (show ZFr (DD2 m) σ τ from z2.mono (fun j k q => Or.inl q)).trans (ZFr.up (Or.inr (Or.inl ⟨rfl, Or.inl rfl⟩)))
    have hk3 : SK (sa_upI τ 159 6 0).2.1 := hRt.1
    have f6 : (sa_upI τ 159 6 0).1 159 6 = 0 := by rw [upI_self, va_up_self]
    have f34 : (sa_upI τ 159 6 0).1 159 34 = nI m := by rw [upI_self, va_up_ne _ _ (by omega)]; exact e34t
    have f172 : (sa_upI τ 159 6 0).1 172 4 = nI xs.length := by rw [upI_ne (by omega)]; exact hx4
    have fxs : ORw 192 ((sa_upI τ 159 6 0).1 171) xs := hxs.fr (upI_ne (by omega))
    generalize sa_upI τ 159 6 0 = τ1 at *
    rw [wp_let]
    refine wp_for1 48 0 (fun i υ => υ.2 = τ1.2 ∧ (∀ j, j ≠ 171 → υ.1 j = τ1.1 j) ∧ (∀ j, j < 48 * m ∨ 192 ≤ j → υ.1 171 j = τ1.1 171 j) ∧ ∀ y, y < i → υ.1 171 (48 * m + y) = τ1.1 171 (192 + y)) ?_ ?_ ⟨rfl, fun _ _ => rfl, fun _ _ => rfl, fun y hy => by omega⟩ (by omega) (by unfold sa_F; omega)
    · rintro i υ hi ⟨g1, g2, g3, g4⟩ j hj
      have hku : SK υ.2.1 := by rw [g1]; exact hk3
      have ea : 48 * nI m + nI i = nI (48 * m + i) := by
        have e1 : (48 : Int32) * nI m = nI (48 * m) := pk_mul 48 m
        rw [e1, nI_add]
      have eb : 192 + nI i = nI (192 + i) := nI_add 192 i
      rw [wp_if]
      refine ⟨fun q => absurd q (nI_ge hi (by omega)), fun _ => ?_⟩
      rw [wp_bnd, wp_rdR (v := 171) rfl (sk_159_32 hku), wp_bnd, wp_rdI, g2 159 (by omega), f34]
      refine ⟨rfl, ?_⟩
      rw [wp_bnd, wp_rdR (v := 171) rfl (sk_159_32 hku), wp_bnd, eb, wp_ldI (n := 192 + i) (len := 240) al_171 rfl (by omega) (by omega), g3 (192 + i) (by omega), wp_bnd, ea, wp_stI (n := 48 * m + i) (len := 240) al_171 rfl (by omega) (by omega), wp_let, nI_1]
      refine hj _ ⟨g1, fun j a => by rw [upI_ne a]; exact g2 j a, fun j a => by rw [upI_self, va_up_ne _ _ (by omega)]; exact g3 j a, fun y hy => ?_⟩
      rw [upI_self]
      by_cases e : y = i
      · subst e; rw [va_up_self]
      · rw [va_up_ne _ _ (by omega)]; exact g4 y (by omega)
    · rintro υ ⟨g1, g2, g3, g4⟩ j
      have hku : SK υ.2.1 := by rw [g1]; exact hk3
      rw [wp_if]
      refine ⟨fun _ => ?_, fun q => absurd (show (48 : Int32) ≤ nI 48 by decide) q⟩
      rw [wp_bnd, wp_rdR (v := 172) rfl (sk_159_33 hku), wp_bnd, wp_rdI, g2 159 (by omega), f34]
      refine ⟨rfl, ?_⟩
      rw [wp_bnd, wp_rdR (v := 172) rfl (sk_159_33 hku), wp_bnd, wp_ldI (j := 4) (n := 4) (len := 5) al_172 rfl (by omega) (by omega), g2 172 (by omega), f172, wp_bnd, wp_stI (n := m) (len := 5) al_172 rfl (by omega) (by omega), wp_bnd, wp_rdI, upI_ne (by omega), g2 159 (by omega), f34]
      refine ⟨rfl, ?_⟩
      rw [wp_bnd, wp_wrI, nI_1]
      refine ⟨rfl, ?_⟩
      rw [wp_bnd, wp_rdI, upI_self, va_up_self]
      refine ⟨rfl, ?_⟩
      rw [wp_ret, nI_pred]
      refine ⟨(fun e => by cases e), fun cs2 e2 => ?_⟩
      cases e2
      refine ⟨rfl, ?_, ?_, ?_, ?_, fun i hi => ?_⟩
      · have z4 : ZFr (DD2 m) τ1 υ := by
          refine ⟨fun a b _ => by rw [g1], by rw [g1], fun j k hA => ?_⟩
          by_cases e : j = 171
          · subst e
            exact g3 k (by unfold DD2 at hA; omega)
          · rw [g2 j e]
        exact ((z3.trans z4).trans (ZFr.up (Or.inr (Or.inr (Or.inr ⟨rfl, rfl⟩))))).trans (ZFr.up (Or.inr (Or.inl ⟨rfl, Or.inr rfl⟩)))
      · rw [upI_self, va_up_ne _ _ (by omega), upI_ne (by omega), g2 159 (by omega)]; exact f6
      · rw [upI_self, va_up_self]
      · rw [upI_ne (by omega), upI_self, va_up_self]
      · rw [upI_ne (by omega), upI_ne (by omega)]
        obtain ⟨a, b, c⟩ := fxs i hi
        refine ⟨?_, ?_, ?_⟩
        · rw [g4 (3 * i) (by omega)]; exact a
        · rw [show 48 * m + 3 * i + 1 = 48 * m + (3 * i + 1) by omega, g4 (3 * i + 1) (by omega)]; exact b
        · rw [show 48 * m + 3 * i + 2 = 48 * m + (3 * i + 2) by omega, g4 (3 * i + 2) (by omega)]; exact c
end TXT2
section TXTA
variable {k L P W F n : Nat} {f : Nat → LWt} {σ : sa_St}
theorem txt1 (hIv : Iv k L P W F n f σ) : wp (f_X11_text 0 (nI 1)) σ (fun r τ => wp (f_X12_text 159 (nI 1)) τ (fun r2 τ2 => r2 = r ∧ Inv (k + 1) τ2)) := by
  have hIv0 := hIv
  obtain ⟨hk, hL, hT, hLd, hM, hW, hO, hC, hP, hG, hS, hZ⟩ := hIv
  obtain ⟨T, N, ct, rb⟩ := hT.tp hk
  have hO0 := hO
  obtain ⟨m, hm4, hm, hm2, -⟩ := hO
  obtain ⟨D, hD, hD2⟩ := DL hL
  have hn4 : n ≤ 4 := hW.1
  have hn : σ.1 15 2 = nI n := hW.2.1
  have h7 : σ.1 159 7 = nI n := hW.2.2.1
  by_cases h4 : n < 4
  · refine wp_mono (c_txt1 ct hn h4) (fun r τ hr => ?_)
    cases hres : (lwP T N).2 with
    | none =>
      obtain ⟨rfl, fr⟩ := hr.1 hres
      have rbt : RBy T N τ := by
        obtain ⟨r1, r2, r3, r4, r5⟩ := rb
        exact ⟨by rw [fr.1]; exact r1, r2, r3, by rw [fr.2.1 159 (by omega) (by omega) (by omega)]; exact r4, fun i hi => by rw [fr.2.1 160 (by omega) (by omega) (by omega)]; exact r5 i hi⟩
      refine wp_mono (m_txt1 rbt (by rw [fr.2.1 159 (by omega) (by omega) (by omega)]; exact h7) h4) (fun r2 υ hq => ?_)
      obtain ⟨rfl, z⟩ := hq.1 hres
      refine ⟨rfl, ?_⟩
      have z1 : ZFr (AA n m D) σ τ := fr.z (by unfold AA; omega) (fun k => by unfold AA; omega) (fun k => by unfold AA; omega)
      have z2 : ZFr (AA n m D) τ υ := z.mono (fun j k q => by unfold AA; exact Or.inr (Or.inr (Or.inr (Or.inr (Or.inr (Or.inr (Or.inr q)))))))
      exact (hIv0.keep hm hm4 hD (z1.trans z2)).up
    | some cs =>
      obtain ⟨rfl, z1, t11, t15, t18, tl, t19⟩ := hr.2 cs hres
      have rbt : RBy T N τ := rb.z z1 (by unfold CC1; omega) (fun k => by unfold CC1; omega)
      refine wp_mono (m_txt1 rbt (by rw [z1.2.2 159 7 (by unfold CC1; omega)]; exact h7) h4) (fun r2 υ hq => ?_)
      obtain ⟨rfl, z2, u6, u7, u162, u161⟩ := hq.2 cs hres
      refine ⟨rfl, ?_⟩
      have r1 : ∀ j, j ≠ 159 → j ≠ 161 → j ≠ 162 → j ≠ 165 → j ≠ 167 → j ≠ 168 → j ≠ 170 → j ≠ 171 → j ≠ 172 → υ.1 j = τ.1 j := fun j a b c d e g h i l => funext fun k => z2.2.2 j k (by unfold DD1 ARd; omega)
      have r2 : ∀ j, j ≠ 1 → j ≠ 18 + 3 * n → j ≠ 19 + 3 * n → j ≠ 15 → τ.1 j = σ.1 j := fun j a b c d => funext fun k => z1.2.2 j k (by unfold CC1; omega)
      have zz : ZFr (BB n m D) σ υ := (z1.mono (fun j k q => by unfold CC1 at q; unfold BB AA; omega)).trans (z2.mono (fun j k q => by unfold DD1 ARd at q; unfold BB AA ARd; omega))
      have hlen : (lwM cs).length ≤ 241 := by omega
      have e19 : υ.1 (19 + 3 * n) = τ.1 (19 + 3 * n) := r1 _ (by omega) (by omega) (by omega) (by omega) (by omega) (by omega) (by omega) (by omega) (by omega)
      have e18 : υ.1 (18 + 3 * n) = τ.1 (18 + 3 * n) := r1 _ (by omega) (by omega) (by omega) (by omega) (by omega) (by omega) (by omega) (by omega) (by omega)
      have e15 : υ.1 15 = τ.1 15 := r1 _ (by omega) (by omega) (by omega) (by omega) (by omega) (by omega) (by omega) (by omega) (by omega)
      have e176 : υ.1 176 = σ.1 176 := (r1 176 (by omega) (by omega) (by omega) (by omega) (by omega) (by omega) (by omega) (by omega) (by omega)).trans (r2 176 (by omega) (by omega) (by omega) (by omega))
      have hW2 : I_W (n + 1) (fun l => if l = n then lwV cs else f l) υ := by
        refine W_add hW h4 ?_ ?_ u7 ?_ (fun l hl => ?_) (fun j hj => ?_) (fun l hl => ?_) e176 (by rw [z2.2.1, z1.2.1]) ?_ ?_
        · rw [e15]; exact t15
        · rw [e15]; exact z1.2.2 15 3 (by unfold CC1; omega)
        · rw [z2.2.2 159 37 (by unfold DD1 ARd; omega)]; exact z1.2.2 159 37 (by unfold CC1; omega)
        · exact ⟨(r1 _ (by omega) (by omega) (by omega) (by omega) (by omega) (by omega) (by omega) (by omega) (by omega)).trans (r2 _ (by omega) (by omega) (by omega) (by omega)), (r1 _ (by omega) (by omega) (by omega) (by omega) (by omega) (by omega) (by omega) (by omega) (by omega)).trans (r2 _ (by omega) (by omega) (by omega) (by omega))⟩
        · rw [z2.2.2 161 j (by unfold DD1 ARd; omega), r2 161 (by omega) (by omega) (by omega) (by omega)]
        · rw [z2.2.2 162 l (by unfold DD1 ARd; omega), r2 162 (by omega) (by omega) (by omega) (by omega)]
        · rw [e19, e18, t18]
          exact law_C hres hlen t19
        · rw [u162]
          exact law_T rb.2.1 rb.2.2.1 hres (fun i hi => u161 i hi)
      have hO2 : I_O υ := by
        refine O_keep hO0 hm hm4 ?_ ?_ (fun o ho => ?_) (fun j hj => ?_) (fun o ho => ?_)
        · rw [r1 0 (by omega) (by omega) (by omega) (by omega) (by omega) (by omega) (by omega) (by omega) (by omega), r2 0 (by omega) (by omega) (by omega) (by omega)]
        · rw [z2.2.2 159 34 (by unfold DD1 ARd; omega)]; exact z1.2.2 159 34 (by unfold CC1; omega)
        · exact ⟨(r1 _ (by omega) (by omega) (by omega) (by omega) (by omega) (by omega) (by omega) (by omega) (by omega)).trans (r2 _ (by omega) (by omega) (by omega) (by omega)), (r1 _ (by omega) (by omega) (by omega) (by omega) (by omega) (by omega) (by omega) (by omega) (by omega)).trans (r2 _ (by omega) (by omega) (by omega) (by omega))⟩
        · rw [z2.2.2 171 j (by unfold DD1 ARd; omega), r2 171 (by omega) (by omega) (by omega) (by omega)]
        · rw [z2.2.2 172 o (by unfold DD1 ARd; omega), r2 172 (by omega) (by omega) (by omega) (by omega)]
      have t11' : υ.1 1 1 = 0 := by rw [z2.2.2 1 1 (by unfold DD1 ARd; omega)]; exact t11
      exact (hIv0.rest hm4 hD zz (T_empty t11' u6) hW2 hO2).up
  · refine c_txtF (j := 1) (by omega) (by rw [c_full1 hk hn hn4, if_neg h4]) ?_
    have e4 : (nI n = 4) ↔ n = 4 := nI_eq (a := n) (b := 4) (by omega) (by omega)
    unfold f_X12_text
    rw [wp_gd]
    refine ⟨rfl, ?_⟩
    rw [wp_bnd, wp_wrI]
    refine ⟨rfl, ?_⟩
    rw [wp_bnd, w_isIn]
    refine ⟨fun _ => ?_, fun q => absurd (by decide) q⟩
    rw [wp_jn0, wp_if]
    refine ⟨fun q => absurd q (show ¬ nI 1 = 0 by decide), fun _ => ?_⟩
    rw [wp_jn0, wp_if]
    refine ⟨fun q => absurd rfl q, fun _ => ?_⟩
    rw [wp_bnd, wp_rdI, upI_self, va_up_ne _ _ (by omega), h7]
    refine ⟨rfl, ?_⟩
    rw [wp_if, e4]
    refine ⟨fun _ => ?_, fun q => by omega⟩
    rw [wp_ret]
    refine ⟨rfl, ?_⟩
    exact hIv0.ask0 (Dn.up (Dn.refl σ) rfl) rfl
end TXTA
