/-! TEXTS: fault -/
theorem sk_lw {ρ : Nat → Nat → Nat} (h : SK ρ) {n : Nat} (hn : n < 5) : ρ 16 n = 18 + 3 * n + 1 := by
  match n, hn with
  | 0, _ => exact sk_16_0 h
  | 1, _ => exact sk_16_1 h
  | 2, _ => exact sk_16_2 h
  | 3, _ => exact sk_16_3 h
  | 4, _ => exact sk_16_4 h
  | n + 5, hn => omega
theorem sk_od {ρ : Nat → Nat → Nat} (h : SK ρ) {n : Nat} (hn : n < 5) : ρ 33 n = 34 + 2 * n + 1 := by
  match n, hn with
  | 0, _ => exact sk_33_0 h
  | 1, _ => exact sk_33_1 h
  | 2, _ => exact sk_33_2 h
  | 3, _ => exact sk_33_3 h
  | 4, _ => exact sk_33_4 h
  | n + 5, hn => omega
/-- what the class's reading leaves -/
def CRo {α : Type} (A B : Nat) (σ : sa_St) (res : Nat × Option α) (G : α → sa_St → Prop) (r : Int32) (τ : sa_St) : Prop := TFr A B σ τ ∧ match res.2 with
  | none => r = 0 ∧ τ.1 1 2 = nI res.1
  | some x => r = 1 ∧ G x τ
/-- what the reference's leaves -/
def MRo {α : Type} (σ : sa_St) (res : Nat × Option α) (G : α → sa_St → Prop) (r : Int32) (τ : sa_St) : Prop := ZFr ARd σ τ ∧ match res.2 with
  | none => r = nI res.1
  | some x => r = -1 ∧ G x τ
section FLT
variable {T : Nat → Nat} {N n m D : Nat} {σ : sa_St}
theorem CRo.z {α : Type} {A B : Nat} {res : Nat × Option α} {G : α → sa_St → Prop} {r : Int32} {τ : sa_St} (h : CRo A B σ res G r τ) : r = 0 ∨ r = 1 := by
  obtain ⟨-, h⟩ := h
  obtain ⟨q, mm⟩ := res
  cases mm with
  | none => exact Or.inl h.1
  | some x => exact Or.inr h.1
theorem c_rt0 (ct : CTp T N σ) (hD : D = 3 ∨ D = 9) (hr : σ.2.1 0 2 = D + 1) : wp (f_X11_readTape 0 (nI 0)) σ (CRo (D + 1) (D + 2) σ (ldP T N) (CLd D)) := by
  unfold f_X11_readTape
  rw [wp_gd]
  refine ⟨rfl, ?_⟩
  rw [wp_if]
  refine ⟨fun q => absurd rfl q, fun _ => ?_⟩
  rw [wp_bnd, wp_rdR (v := D) rfl hr, wp_bnd, wp_rdR (v := 1) rfl (sk_0_0 ct.1), wp_bnd]
  refine wp_mono (c_readLd hD ct) (fun r τ hr => ?_)
  have hr2 : CRo (D + 1) (D + 2) σ (ldP T N) (CLd D) r τ := by
    refine ⟨hr.1, ?_⟩
    have h2 := hr.2
    generalize ldP T N = r0 at *
    obtain ⟨q, mm⟩ := r0
    cases mm with
    | none => exact h2
    | some x => exact h2
  rw [wp_retZ]
  exact ⟨hr2.z, hr2⟩
theorem c_rt1 (ct : CTp T N σ) (hn : σ.1 15 2 = nI n) (hn4 : n ≤ 4) : wp (f_X11_readTape 0 (nI 1)) σ (CRo (18 + 3 * n) (19 + 3 * n) σ (lwP T N) (fun cs τ => LSt T N n (lwP T N).1 (lwM cs) τ)) := by
  have hk := ct.1
  unfold f_X11_readTape
  rw [wp_gd]
  refine ⟨rfl, ?_⟩
  rw [wp_if]
  refine ⟨fun _ => ?_, fun q => absurd (show ¬ nI 1 = 0 by decide) q⟩
  rw [wp_jn1, wp_if]
  refine ⟨fun q => absurd rfl q, fun _ => ?_⟩
  rw [wp_bnd, wp_rdR (v := 15) rfl (sk_0_3 hk), wp_bnd, wp_rdR (v := 16) rfl (sk_15_0 hk), wp_bnd, wp_rdR (v := 15) rfl (sk_0_3 hk), wp_bnd, wp_rdI, hn]
  refine ⟨rfl, ?_⟩
  rw [wp_bnd, wp_ldR (n := n) (len := 5) (v := 18 + 3 * n) al_16 rfl (by omega) (by omega) (sk_lw hk (by omega)), wp_bnd, wp_rdR (v := 1) rfl (sk_0_0 hk), wp_bnd]
  refine wp_mono (c_readLaw (l := n) (by omega) ct) (fun r τ hr => ?_)
  have hr2 : CRo (18 + 3 * n) (19 + 3 * n) σ (lwP T N) (fun cs τ => LSt T N n (lwP T N).1 (lwM cs) τ) r τ := by
    refine ⟨hr.1.tf, ?_⟩
    have h2 := hr.2
    generalize lwP T N = r0 at *
    obtain ⟨q, mm⟩ := r0
    cases mm with
    | none => exact h2
    | some x => exact h2
  rw [wp_retZ]
  exact ⟨hr2.z, hr2⟩
theorem c_rt2 (ct : CTp T N σ) (hm : σ.1 0 5 = nI m) (hm4 : m ≤ 4) : wp (f_X11_readTape 0 (nI 2)) σ (CRo (34 + 2 * m) (35 + 2 * m) σ (orP T N) (fun xs τ => τ.1 (34 + 2 * m) 1 = nI xs.length ∧ ORw 0 (τ.1 (35 + 2 * m)) xs)) := by
  have hk := ct.1
  unfold f_X11_readTape
  rw [wp_gd]
  refine ⟨rfl, ?_⟩
  rw [wp_if]
  refine ⟨fun _ => ?_, fun q => absurd (show ¬ nI 2 = 0 by decide) q⟩
  rw [wp_jn1, wp_if]
  refine ⟨fun _ => ?_, fun q => absurd (show ¬ nI 2 = 1 by decide) q⟩
  rw [wp_bnd, wp_rdR (v := 33) rfl (sk_0_4 hk), wp_bnd, wp_rdI, hm]
  refine ⟨rfl, ?_⟩
  rw [wp_bnd, wp_ldR (n := m) (len := 5) (v := 34 + 2 * m) al_33 rfl (by omega) (by omega) (sk_od hk (by omega)), wp_bnd, wp_rdR (v := 1) rfl (sk_0_0 hk), wp_bnd]
  refine wp_mono (c_readOrd (n := m) (by omega) ct) (fun r τ hr => ?_)
  have hr2 : CRo (34 + 2 * m) (35 + 2 * m) σ (orP T N) (fun xs τ => τ.1 (34 + 2 * m) 1 = nI xs.length ∧ ORw 0 (τ.1 (35 + 2 * m)) xs) r τ := by
    refine ⟨hr.1, ?_⟩
    have h2 := hr.2
    generalize orP T N = r0 at *
    obtain ⟨q, mm⟩ := r0
    cases mm with
    | none => exact h2
    | some x => exact h2
  rw [wp_retZ]
  exact ⟨hr2.z, hr2⟩
theorem m_flt0 (h : RBy T N σ) : wp (f_X12_fault 159 (nI 0)) σ (MRo σ (ldP T N) RLd) := by
  have z0 : ZFr ARd σ (sa_upI σ 159 0 0) := ZFr.up (by unfold ARd; omega)
  have hR := h.z z0 (by unfold ARd; omega) (fun k => by unfold ARd; omega)
  unfold f_X12_fault
  rw [wp_gd]
  refine ⟨rfl, ?_⟩
  rw [wp_bnd, wp_wrI]
  refine ⟨rfl, ?_⟩
  generalize sa_upI σ 159 0 0 = σ1 at *
  rw [wp_bnd, w_isIn]
  refine ⟨fun _ => ?_, fun q => absurd (by decide) q⟩
  rw [wp_if]
  refine ⟨fun _ => ?_, fun q => absurd (show ¬ nI 1 = 0 by decide) q⟩
  rw [wp_jn0, wp_if]
  refine ⟨fun q => absurd rfl q, fun _ => ?_⟩
  rw [wp_bnd]
  refine wp_mono (m_readLd hR) (fun _ τ hr => ?_)
  obtain ⟨z1, hr⟩ := hr
  have z2 : ZFr ARd σ τ := z0.trans (z1.mono (fun j k q => by unfold LA at q; unfold ARd; omega))
  rw [wp_jn0, wp_if]
  refine ⟨fun _ => ?_, fun q => absurd (show ¬ nI 0 = 1 by decide) q⟩
  rw [wp_jn0, wp_if]
  refine ⟨fun _ => ?_, fun q => absurd (show ¬ nI 0 = 2 by decide) q⟩
  rw [wp_bnd, wp_rdI]
  refine ⟨rfl, ?_⟩
  rw [wp_ret]
  refine ⟨z2, ?_⟩
  generalize ldP T N = r0 at *
  obtain ⟨q, mm⟩ := r0
  cases mm with
  | none => exact hr
  | some x => exact hr
theorem m_flt1 (h : RBy T N σ) : wp (f_X12_fault 159 (nI 1)) σ (MRo σ (lwP T N) (fun _ _ => True)) := by
  have z0 : ZFr ARd σ (sa_upI σ 159 0 0) := ZFr.up (by unfold ARd; omega)
  have hR := h.z z0 (by unfold ARd; omega) (fun k => by unfold ARd; omega)
  unfold f_X12_fault
  rw [wp_gd]
  refine ⟨rfl, ?_⟩
  rw [wp_bnd, wp_wrI]
  refine ⟨rfl, ?_⟩
  generalize sa_upI σ 159 0 0 = σ1 at *
  obtain ⟨g, hg⟩ := nI_sur (σ1.1 163 103)
  obtain ⟨w, hw⟩ := nI_sur (σ1.1 163 119)
  obtain ⟨hh, hhh⟩ := nI_sur (σ1.1 163 104)
  obtain ⟨mm, hmm⟩ := nI_sur (σ1.1 163 109)
  obtain ⟨t, ht⟩ := nI_sur (σ1.1 163 116)
  rw [wp_bnd, w_isIn]
  refine ⟨fun _ => ?_, fun q => absurd (by decide) q⟩
  rw [wp_if]
  refine ⟨fun _ => ?_, fun q => absurd (show ¬ nI 1 = 0 by decide) q⟩
  rw [wp_jn0, wp_if]
  refine ⟨fun _ => ?_, fun q => absurd (show ¬ nI 1 = 0 by decide) q⟩
  rw [wp_jn0, wp_if]
  refine ⟨fun q => absurd rfl q, fun _ => ?_⟩
  rw [wp_bnd, wp_rdR (v := 160) rfl (sk_159_1 hR.1), wp_bnd, wp_rdI, hR.2.2.2.1]
  refine ⟨rfl, ?_⟩
  rw [wp_bnd]
  refine wp_mono (m_thru (T := T) (R := 160) (o := 0) (N := N) (g := g) (w := w) (h := hh) (m := mm) (t := t) hR.1 hR.2.1 hR.2.2.1 (Or.inl ⟨rfl, rfl⟩) (fun i hi => by rw [Nat.zero_add]; exact hR.2.2.2.2 i hi) ⟨hg, hw, hhh, hmm, ht⟩) (fun _ τ hr => ?_)
  obtain ⟨⟨fr, hk2⟩, hr⟩ := hr
  have z1 : ZFr ARd σ1 τ := by
    refine ⟨fr.1.1, funext fun j => ?_, fun j k n => ?_⟩
    · by_cases e : j = 159
      · exact fr.1.2 j (by omega)
      · exact (fr.2 j (by rw [List.mem_singleton]; exact e)).2
    · by_cases e : j = 159
      · subst e
        exact hk2 k (fun q => n (by unfold isPF at q; unfold ARd; omega))
      · rw [(fr.2 j (by rw [List.mem_singleton]; exact e)).1]
  rw [wp_jn0, wp_if]
  refine ⟨fun _ => ?_, fun q => absurd (show ¬ nI 1 = 2 by decide) q⟩
  rw [wp_bnd, wp_rdI]
  refine ⟨rfl, ?_⟩
  rw [wp_ret]
  refine ⟨z0.trans z1, ?_⟩
  generalize lwP T N = r0 at *
  obtain ⟨q, mm⟩ := r0
  cases mm with
  | none => exact hr
  | some x => exact ⟨hr.1, True.intro⟩
theorem m_flt2 (h : RBy T N σ) : wp (f_X12_fault 159 (nI 2)) σ (MRo σ (orP T N) (fun xs τ => τ.1 172 4 = nI xs.length ∧ ORw 192 (τ.1 171) xs)) := by
  have z0 : ZFr ARd σ (sa_upI σ 159 0 0) := ZFr.up (by unfold ARd; omega)
  have hR := h.z z0 (by unfold ARd; omega) (fun k => by unfold ARd; omega)
  unfold f_X12_fault
  rw [wp_gd]
  refine ⟨rfl, ?_⟩
  rw [wp_bnd, wp_wrI]
  refine ⟨rfl, ?_⟩
  generalize sa_upI σ 159 0 0 = σ1 at *
  rw [wp_bnd, w_isIn]
  refine ⟨fun _ => ?_, fun q => absurd (by decide) q⟩
  rw [wp_if]
  refine ⟨fun _ => ?_, fun q => absurd (show ¬ nI 1 = 0 by decide) q⟩
  rw [wp_jn0, wp_if]
  refine ⟨fun _ => ?_, fun q => absurd (show ¬ nI 2 = 0 by decide) q⟩
  rw [wp_jn0, wp_if]
  refine ⟨fun _ => ?_, fun q => absurd (show ¬ nI 2 = 1 by decide) q⟩
  rw [wp_jn0, wp_if]
  refine ⟨fun q => absurd rfl q, fun _ => ?_⟩
  rw [wp_bnd]
  refine wp_mono (m_readOrd hR) (fun _ τ hr => ?_)
  obtain ⟨z1, hr⟩ := hr
  have z2 : ZFr ARd σ τ := z0.trans (z1.mono (fun j k q => by unfold OA at q; unfold ARd; omega))
  rw [wp_bnd, wp_rdI]
  refine ⟨rfl, ?_⟩
  rw [wp_ret]
  refine ⟨z2, ?_⟩
  generalize orP T N = r0 at *
  obtain ⟨q, mm⟩ := r0
  cases mm with
  | none => exact hr
  | some x => exact hr
/-- a fault by the class, its reading known -/
theorem c_flt {α : Type} {A B j : Nat} {res : Nat × Option α} {G : α → sa_St → Prop} {Q : Int32 → sa_St → Prop} (hj : j < 3) (hk : SK σ.2.1) (hC : wp (f_X11_readTape 0 (nI j)) σ (CRo A B σ res G)) (hQ : ∀ τ, TFr A B σ τ → Q (match res.2 with | none => nI res.1 | some _ => -1) τ) : wp (f_X11_fault 0 (nI j)) σ Q := by
  unfold f_X11_fault
  rw [wp_gd]
  refine ⟨rfl, ?_⟩
  rw [wp_jn0, wp_if]
  refine ⟨fun q => absurd q (nI_pos (by omega)), fun _ => ?_⟩
  rw [wp_if]
  refine ⟨fun _ => ?_, fun q => absurd (show nI j ≤ 2 from nI_le (a := j) (b := 2) (by omega) (by omega)) q⟩
  rw [wp_bnd]
  refine wp_mono hC (fun r τ hr => ?_)
  obtain ⟨fr, hr⟩ := hr
  have hq := hQ τ fr
  obtain ⟨q, mm⟩ := res
  rw [wp_jn1, wp_if]
  cases mm with
  | none =>
    obtain ⟨rfl, hp⟩ := hr
    refine ⟨fun _ => ?_, fun q => absurd rfl q⟩
    rw [wp_bnd, wp_rdR (v := 1) rfl (by rw [fr.1]; exact sk_0_0 hk), wp_bnd, wp_rdI, hp]
    refine ⟨rfl, ?_⟩
    rw [wp_ret]
    exact hq
  | some x =>
    obtain ⟨rfl, -⟩ := hr
    refine ⟨fun q => absurd q (by decide), fun _ => ?_⟩
    rw [wp_ret]
    exact hq
end FLT
theorem DL {ρ : Nat → Nat → Nat} {L : Nat} (h : LandI ρ L) : ∃ D, ((L = 3 ∧ D = 9) ∨ (L = 9 ∧ D = 3)) ∧ ρ 0 2 = D + 1 := by
  rcases h with ⟨h1, -, h2⟩ | ⟨h1, -, h2⟩
  · exact ⟨9, Or.inl ⟨h1, rfl⟩, h2⟩
  · exact ⟨3, Or.inr ⟨h1, rfl⟩, h2⟩
theorem lc2 (k : Nat) : lc_2 (Inv k) (Inv (k + 1)) := by
  intro σ s1 hI
  refine lco ?_
  obtain ⟨L, P, W, F, n, f, hIv⟩ := Iv.of hI
  have hIv0 := hIv
  obtain ⟨hk, hL, hT, hLd, hM, hW, hO, hC, hP, hG, hS, hZ⟩ := hIv
  obtain ⟨T, N, ct, rb⟩ := hT.tp hk
  obtain ⟨m, hm4, hm, hm2, -⟩ := hO
  obtain ⟨D, hD, hD2⟩ := DL hL
  have hn4 : n ≤ 4 := hW.1
  have hn : σ.1 15 2 = nI n := hW.2.1
  have fin : ∀ {τ υ : sa_St} {A B : Nat}, TFr A B σ τ → (∀ k, AA n m D A k) → (∀ k, AA n m D B k) → ZFr ARd τ υ → Inv (k + 1) υ := fun {τ υ A B} fr hA hB z => by
    have z1 : ZFr (AA n m D) σ τ := fr.z (by unfold AA; omega) hA hB
    have z2 : ZFr (AA n m D) τ υ := z.mono (fun j k q => by unfold AA; exact Or.inr (Or.inr (Or.inr (Or.inr (Or.inr (Or.inr (Or.inr q)))))))
    exact (hIv0.keep hm hm4 hD (z1.trans z2)).up
  have rbz : ∀ {τ : sa_St} {A B : Nat}, TFr A B σ τ → A ≠ 159 → A ≠ 160 → B ≠ 159 → B ≠ 160 → RBy T N τ := fun {τ A B} fr a1 a2 b1 b2 => by
    obtain ⟨r1, r2, r3, r4, r5⟩ := rb
    exact ⟨by rw [fr.1]; exact r1, r2, r3, by rw [fr.2.1 159 (by omega) (by omega) (by omega)]; exact r4, fun i hi => by rw [fr.2.1 160 (by omega) (by omega) (by omega)]; exact r5 i hi⟩
  have ref0 : ∀ {τ : sa_St} {Q : Int32 → sa_St → Prop}, ¬ ((0 : Int64) ≤ s1.toInt64 ∧ s1.toInt64 ≤ 2) → Q (-2) (sa_upI τ 159 0 0) → wp (f_X12_fault 159 s1) τ Q := fun {τ Q} h hQ => by
    unfold f_X12_fault
    rw [wp_gd]
    refine ⟨rfl, ?_⟩
    rw [wp_bnd, wp_wrI]
    refine ⟨rfl, ?_⟩
    rw [wp_bnd, w_isIn]
    refine ⟨fun q => absurd q h, fun _ => ?_⟩
    rw [wp_if]
    refine ⟨fun q => absurd rfl q, fun _ => ?_⟩
    rw [wp_ret]
    exact hQ
  rcases nx s1 3 with hneg | hbig | ⟨j, hj, rfl⟩
  · have h1 : s1 < 0 := of_eq_true (hneg.1 0 (by omega))
    have h2 : ¬ ((0 : Int64) ≤ s1.toInt64 ∧ s1.toInt64 ≤ 2) := fun q => by
      have q1 := q.1
      rw [l64_0, i64le, hneg.2.2.1 0 (by omega)] at q1
      exact q1
    unfold f_X11_fault
    rw [wp_gd]
    refine ⟨rfl, ?_⟩
    rw [wp_jn0, wp_if]
    refine ⟨fun _ => ?_, fun q => absurd h1 q⟩
    rw [wp_ret]
    refine ref0 h2 ⟨rfl, ?_⟩
    exact hIv0.ask0 (Dn.up (Dn.refl σ) rfl) rfl
  · have h1 : ¬ s1 < 0 := of_eq_false (hbig.1 0 (by omega))
    have h3 : ¬ s1 ≤ 2 := of_eq_false (hbig.2.1 2 (by omega))
    have h2 : ¬ ((0 : Int64) ≤ s1.toInt64 ∧ s1.toInt64 ≤ 2) := fun q => by
      have q1 := q.2
      rw [l64_2, i64le, hbig.2.1 2 (by omega)] at q1
      exact q1
    unfold f_X11_fault
    rw [wp_gd]
    refine ⟨rfl, ?_⟩
    rw [wp_jn0, wp_if]
    refine ⟨fun q => absurd q h1, fun _ => ?_⟩
    rw [wp_if]
    refine ⟨fun q => absurd q h3, fun _ => ?_⟩
    rw [wp_ret]
    refine ref0 h2 ⟨rfl, ?_⟩
    exact hIv0.ask0 (Dn.up (Dn.refl σ) rfl) rfl
  · match j, hj with
    | 0, hj =>
      refine c_flt hj hk (c_rt0 ct (by omega) hD2) (fun τ fr => ?_)
      refine wp_mono (m_flt0 (rbz fr (by omega) (by omega) (by omega) (by omega))) (fun r υ hr => ?_)
      obtain ⟨z, hr⟩ := hr
      refine ⟨?_, fin fr (fun k => by unfold AA; omega) (fun k => by unfold AA; omega) z⟩
      generalize ldP T N = r0 at *
      obtain ⟨q, mm⟩ := r0
      cases mm with
      | none => exact hr
      | some x => exact hr.1
    | 1, hj =>
      refine c_flt hj hk (c_rt1 ct hn hn4) (fun τ fr => ?_)
      refine wp_mono (m_flt1 (rbz fr (by omega) (by omega) (by omega) (by omega))) (fun r υ hr => ?_)
      obtain ⟨z, hr⟩ := hr
      refine ⟨?_, fin fr (fun k => by unfold AA; omega) (fun k => by unfold AA; omega) z⟩
      generalize lwP T N = r0 at *
      obtain ⟨q, mm⟩ := r0
      cases mm with
      | none => exact hr
      | some x => exact hr.1
    | 2, hj =>
      refine c_flt hj hk (c_rt2 ct hm hm4) (fun τ fr => ?_)
      refine wp_mono (m_flt2 (rbz fr (by omega) (by omega) (by omega) (by omega))) (fun r υ hr => ?_)
      obtain ⟨z, hr⟩ := hr
      refine ⟨?_, fin fr (fun k => by unfold AA; omega) (fun k => by unfold AA; omega) z⟩
      generalize orP T N = r0 at *
      obtain ⟨q, mm⟩ := r0
      cases mm with
      | none => exact hr
      | some x => exact hr.1
    | j + 3, hj => omega
