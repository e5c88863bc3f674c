section RUNS
variable {L P W F n H B o sz : Nat} {f : Nat → LWt} {z : Nat → Int32} {hold : Int32} {s : Nat → Int32}
theorem fa46 {σ τ : sa_St} (h : Fr (sS 47 46) σ τ) : FA σ τ ∧ Dn [0] σ τ := by
  have h1 : ∀ j ∈ sS 47 46, j < 134 ∧ (∀ k, [0, 5].contains (grp j k) = true) ∧ ∀ k, [0].contains (grp j k) = true := by
    intro j hj
    simp only [List.mem_cons, List.not_mem_nil, or_false] at hj
    rcases hj with rfl | rfl | rfl | rfl | rfl | rfl | rfl | rfl <;> exact ⟨by omega, fun _ => rfl, fun _ => rfl⟩
  exact ⟨FA.ofFr h (fun j hj => ⟨(h1 j hj).1, (h1 j hj).2.1⟩), Dn.ofFr h (fun j hj => (h1 j hj).2.2)⟩
theorem c_runs {σ : sa_St} {Q : Int32 → sa_St → Prop} {ex : Int32 → sa_M Int32} (hcx : Cx L P W F n f z hold σ) (hP : 0 < P) (ho : o < 5) (hs16 : sz ≤ 16) (hsz : σ.1 (34 + 2 * o) 1 = nI sz) (hst : ∀ i, i < sz → ∃ t a b, stC t a b (σ.1 (35 + 2 * o)) i) (hkm : ∃ m, KM P W H B m (σ.1 47)) (hH : H + 16 ≤ 100000) (hB : B + 20000 < 2 ^ 30)
    (hQ : ∀ j k hs τ, j ≤ sz → Ch (AX L P W F n H B f z hold (σ.1 (35 + 2 * o))) (σ.1 47) [] j k hs → (j = sz ∨ AX L P W F n H B f z hold (σ.1 (35 + 2 * o)) j k none) → Fr (sS 47 46) σ τ → τ.1 47 = k → wp (ex (nI j)) τ Q) :
    wp (sa_wh1 (fun j51 (x9 : Int32) =>
sa_bnd (sa_rdI 4 (34 + 2 * o) 1) fun v10 =>
sa_jn0 (ex x9) fun j100 =>
if v10 ≤ x9 then
j100
else
sa_bnd (sa_rdR 11 0 7) fun v15 =>
sa_bnd (f_X4_act (34 + 2 * o) x9) fun v16 =>
sa_bnd (sa_rdR 11 0 1) fun v17 =>
sa_bnd (f_X4_first (34 + 2 * o) x9 v17) fun v18 =>
sa_bnd (f_X4_second (34 + 2 * o) x9) fun v19 =>
sa_bnd (f_X11_obey 0 v15 v16 v18 v19) fun v20 =>
if v20 = (-1) then
j100
else
sa_let ((x9 + 1) : Int32) fun x21 =>
j51 x21) sa_F 0) σ Q := by
  refine wp_wh1 (fun ms a τ => ∃ j k hs, a = nI j ∧ j + ms = sz ∧ Ch (AX L P W F n H B f z hold (σ.1 (35 + 2 * o))) (σ.1 47) [] j k hs ∧ Fr (sS 47 46) σ τ ∧ τ.1 47 = k) ?_ sa_F sz 0 σ (by unfold sa_F; omega) ⟨0, σ.1 47, [], rfl, by omega, ⟨rfl, rfl⟩, Fr.rfl', rfl⟩
  rintro ms a τ ⟨j, k, hs, rfl, hms, hch, hFr, h47⟩ c hc
  obtain ⟨q1, q2, q3, q4⟩ := sk_33 hcx.1 ho
  obtain ⟨hFA, hD0⟩ := fa46 hFr
  have hcx2 := hFA.cx hcx
  have esz : τ.1 (34 + 2 * o) 1 = nI sz := by
    rw [hFA.2.2.2 (34 + 2 * o) 1 (by rw [grp_O (by omega)]; rfl)]
    exact hsz
  have est : τ.1 (35 + 2 * o) = σ.1 (35 + 2 * o) := hFA.2.2.row (35 + 2 * o) (fun _ => by rw [grp_O (by omega)]; rfl)
  rw [wp_bnd, wp_rdI]
  refine ⟨q3, ?_⟩
  rw [esz, wp_jn0, wp_if]
  refine ⟨fun hle => ?_, fun hnle => ?_⟩
  · rw [nI_leI (by omega) (by omega)] at hle
    exact hQ j k hs τ (by omega) hch (Or.inl (by omega)) hFr h47
  · rw [nI_leI (by omega) (by omega)] at hnle
    have hjs : j < sz := by omega
    obtain ⟨t, a, b, hstp⟩ := hst j hjs
    have et : (σ.1 (35 + 2 * o) (3 * j)).toNatClampNeg = t := by rw [hstp.2.1, nI_clamp (by have := hstp.1; omega)]
    obtain ⟨m, hm⟩ := Ch.km hkm hch
    obtain ⟨res, hax⟩ := AX.ex (L := L) (n := n) (f := f) (hold := hold) (s := σ.1 (35 + 2 * o)) hcx.zr hP hm (by omega) (by omega) (by rw [et]; exact hstp.1)
    have hstp2 : stC t a b (τ.1 (35 + 2 * o)) j := by rw [est]; exact hstp
    obtain ⟨f1, f2, f3⟩ := c_step hcx2 hP ho (show j < 16 by omega) hstp2
    have hax0 := hax
    unfold AX at hax
    rw [et, hstp.2.2.1, hstp.2.2.2.1] at hax
    have a1 := (LD.of hcx2.1 hcx2.2.1).1.1
    rw [wp_bnd, wp_rdR (v := 46) rfl (sk_0_7 hcx2.1), wp_bnd, wp_of_eq f1, wp_bnd, wp_rdR (v := L) rfl a1, wp_bnd, wp_of_eq f2, wp_bnd, wp_of_eq f3, wp_bnd]
    refine hax.1.1 τ 46 47 hcx2 ⟨rfl, sk_46_0 hcx2.1, rfl⟩ (Or.inr ⟨rfl, rfl⟩) h47 _ (fun hn => ?_) (fun r k' hs2 τ2 hF2 h472 => ?_)
    · rw [wp_if]
      refine ⟨fun _ => ?_, fun q => absurd (show mI = -1 from rfl) q⟩
      refine hQ j k hs τ (by omega) hch (Or.inr ?_) hFr h47
      rw [← hn]
      exact hax0
    · rw [wp_if]
      refine ⟨fun q => absurd q ((hax.2.2 r k' hs2).1), fun _ => ?_⟩
      rw [wp_let, nI_1]
      refine hc (ms - 1) _ τ2 (by omega) ⟨j + 1, k', (k :: hs).take 40, rfl, by omega, ⟨k, hs, r, hch, ?_, rfl⟩, hFr.trans hF2, h472⟩
      rw [← hs2]
      exact hax0
theorem m_runs {σ : sa_St} {jE : Nat} {ks : Nat → Nat → Int32} {wl0 : Nat → Int32} {Q : Int32 → sa_St → Prop} {ex : Int32 → sa_M Int32} (hcx : Cx L P W F n f z hold σ) (hP : 0 < P) (ho : o < 4) (hs16 : sz ≤ 16) (hsz : σ.1 172 o = nI sz) (hst : ∀ i, i < sz → ∃ t a b, stC t a b s i) (hod : ∀ i x, i < sz → x < 3 → σ.1 171 (48 * o + 3 * i + x) = s (3 * i + x)) (hjE : jE ≤ sz) (hse : ∀ x, x < jE → ∃ r, AX L P W F n H B f z hold s x (ks x) (some (r, ks (x + 1)))) (hend : jE = sz ∨ AX L P W F n H B f z hold s jE (ks jE) none) (hw : σ.1 174 = toW (ks 0) wl0) (hl : LogR (ks 0) wl0)
    (hQ : ∀ τ wl, Dn [0, 9] σ τ → MemoR n f (τ.2.2 175) (τ.1 176) → τ.1 174 = toW (ks jE) wl → wp (ex (nI jE)) τ Q) :
    wp (sa_wh1 (fun j55 (x8 : Int32) =>
sa_bnd (sa_rdR 12 159 33) fun v9 =>
sa_bnd (sa_ldI .int v9 (nI o)) fun v10 =>
sa_jn0 (ex x8) fun j106 =>
if v10 ≤ x8 then
j106
else
sa_bnd (sa_rdR 12 159 36) fun v16 =>
sa_bnd (f_X12_canStep 159 v16 (3 * ((16 * nI o) + x8))) fun v17 =>
if v17 = 0 then
j106
else
sa_bnd (sa_rdR 12 159 36) fun v18 =>
sa_bnd (f_X12_does 159 v18 (3 * ((16 * nI o) + x8))) fun _ =>
sa_let ((x8 + 1) : Int32) fun x19 =>
j55 x19) sa_F 0) σ Q := by
  refine wp_wh1 (fun ms a τ => ∃ j wl, a = nI j ∧ j + ms = jE ∧ (Dn [0, 9] σ τ ∧ MemoR n f (τ.2.2 175) (τ.1 176)) ∧ τ.1 174 = toW (ks j) wl ∧ LogR (ks j) wl) ?_ sa_F jE 0 σ (by unfold sa_F; omega) ⟨0, wl0, rfl, by omega, ⟨Dn.refl σ, hcx.memo⟩, hw, hl⟩
  rintro ms a τ ⟨j, wl, rfl, hms, ⟨hD, hMm⟩, hwj, hlj⟩ c hc
  have hcx2 := hcx.dn hD rfl rfl hMm
  have hk := hcx2.1
  have e33 := sk_159_33 hk
  have e36 := sk_159_36 hk
  have esz : τ.1 172 o = nI sz := by
    rw [hD.row 172 (fun _ => rfl)]
    exact hsz
  have eod : ∀ i x, i < sz → x < 3 → τ.1 171 (48 * o + 3 * i + x) = s (3 * i + x) := fun i x hi hx => by
    rw [hD.row 171 (fun _ => rfl)]
    exact hod i x hi hx
  have erow : (3 : Int32) * (16 * nI o + nI j) = nI (3 * (16 * o + j)) := by
    rw [L3, L16, pk_mul, nI_add, pk_mul]
  rw [wp_bnd, wp_rdR (v := 172) rfl e33, wp_bnd, v_ldI]
  refine ⟨by rw [al_172]; exact nI_in (by omega) (by omega), ?_⟩
  rw [nI_clamp (by omega), esz, wp_jn0, wp_if]
  refine ⟨fun hle => ?_, fun hnle => ?_⟩
  · rw [nI_leI (by omega) (by omega)] at hle
    have : j = jE := by omega
    subst this
    exact hQ τ wl hD hMm hwj
  · rw [nI_leI (by omega) (by omega)] at hnle
    have hjs : j < sz := by omega
    obtain ⟨t, a, b, hstp⟩ := hst j hjs
    have et : (s (3 * j)).toNatClampNeg = t := by rw [hstp.2.1, nI_clamp (by have := hstp.1; omega)]
    have s0 : τ.1 171 (3 * (16 * o + j)) = nI t := by
      rw [show 3 * (16 * o + j) = 48 * o + 3 * j + 0 by omega, eod j 0 hjs (by omega)]
      exact hstp.2.1
    have s1 : τ.1 171 (3 * (16 * o + j) + 1) = a := by
      rw [show 3 * (16 * o + j) + 1 = 48 * o + 3 * j + 1 by omega, eod j 1 hjs (by omega)]
      exact hstp.2.2.1
    have s2 : τ.1 171 (3 * (16 * o + j) + 2) = b := by
      rw [show 3 * (16 * o + j) + 2 = 48 * o + 3 * j + 2 by omega, eod j 2 hjs (by omega)]
      exact hstp.2.2.2.1
    rw [wp_bnd, wp_rdR (v := 174) rfl e36, wp_bnd, erow]
    by_cases hj : j < jE
    · obtain ⟨r, hax⟩ := hse j hj
      unfold AX at hax
      rw [et, hstp.2.2.1, hstp.2.2.2.1] at hax
      refine m_can hcx2 hP (Or.inr rfl) (by omega) hstp.1 s0 s1 s2 hax.1 hax.2.1 hwj hlj ?_
      rw [is1, wp_if]
      refine ⟨fun q => absurd q (by decide), fun _ => ?_⟩
      rw [wp_bnd, wp_rdR (v := 174) rfl e36, wp_bnd]
      refine m_does (t := t) (a := a) (b := b) hcx2 hP (by omega) hstp.1 s0 s1 s2 ?_
      refine (hax.1.2 τ 174 wl hcx2 (Or.inr rfl) hwj hlj).2 r (ks (j + 1)) rfl _ (fun τ2 wl' hM2 hw2 hl2 => ?_)
      rw [wp_let, nI_1]
      exact hc (ms - 1) _ τ2 (by omega) ⟨j + 1, wl', rfl, by omega, ⟨hD.trans (hM2.dn rfl rfl (fun _ => rfl)), hM2.2.2⟩, hw2, hl2⟩
    · have hjE2 : j = jE := by omega
      subst hjE2
      rcases hend with h | hax
      · omega
      unfold AX at hax
      rw [et, hstp.2.2.1, hstp.2.2.2.1] at hax
      refine m_can hcx2 hP (Or.inr rfl) (by omega) hstp.1 s0 s1 s2 hax.1 hax.2.1 hwj hlj ?_
      rw [is0, wp_if]
      refine ⟨fun _ => ?_, fun q => absurd (show nI 0 = 0 from rfl) q⟩
      exact hQ τ wl hD hMm hwj
end RUNS
