/-! ACTS ONE BEHIND THE OTHER -/
def Ch (AX : Nat → (Nat → Int32) → Option (Int32 × (Nat → Int32)) → Prop) (k0 : Nat → Int32) (h0 : List (Nat → Int32)) : Nat → (Nat → Int32) → List (Nat → Int32) → Prop
  | 0, k, hs => k = k0 ∧ hs = h0
  | j + 1, k', hs' => ∃ k hs r, Ch AX k0 h0 j k hs ∧ AX j k (some (r, k')) ∧ hs' = (k :: hs).take 40
theorem Ch.seq {AX : Nat → (Nat → Int32) → Option (Int32 × (Nat → Int32)) → Prop} {k0 : Nat → Int32} {h0 : List (Nat → Int32)} : ∀ {j : Nat} {k : Nat → Int32} {hs : List (Nat → Int32)}, Ch AX k0 h0 j k hs → ∃ (ks : Nat → Nat → Int32) (hss : Nat → List (Nat → Int32)), ks 0 = k0 ∧ hss 0 = h0 ∧ ks j = k ∧ hss j = hs ∧ ∀ x, x < j → ∃ r, AX x (ks x) (some (r, ks (x + 1))) ∧ hss (x + 1) = (ks x :: hss x).take 40 := by
  intro j
  induction j with
  | zero =>
    rintro k hs ⟨rfl, rfl⟩
    exact ⟨fun _ => k, fun _ => hs, rfl, rfl, rfl, rfl, fun x hx => by omega⟩
  | succ j ih =>
    rintro k' hs' ⟨k, hs, r, h1, h2, rfl⟩
    obtain ⟨ks, hss, e0, e1, e2, e3, e4⟩ := ih h1
    refine ⟨fun x => if x ≤ j then ks x else k', fun x => if x ≤ j then hss x else (k :: hs).take 40, ?_, ?_, ?_, ?_, fun x hx => ?_⟩
    · show (if 0 ≤ j then ks 0 else k') = k0
      rw [if_pos (Nat.zero_le _), e0]
    · show (if 0 ≤ j then hss 0 else _) = h0
      rw [if_pos (Nat.zero_le _), e1]
    · show (if j + 1 ≤ j then _ else k') = k'
      rw [if_neg (by omega)]
    · show (if j + 1 ≤ j then _ else _) = _
      rw [if_neg (by omega)]
    · show ∃ r, AX x (if x ≤ j then ks x else k') (some (r, if x + 1 ≤ j then ks (x + 1) else k')) ∧ (if x + 1 ≤ j then hss (x + 1) else (k :: hs).take 40) = ((if x ≤ j then ks x else k') :: (if x ≤ j then hss x else (k :: hs).take 40)).take 40
      rw [if_pos (show x ≤ j by omega), if_pos (show x ≤ j by omega)]
      by_cases hxj : x + 1 ≤ j
      · rw [if_pos hxj, if_pos hxj]
        exact e4 x (by omega)
      · have : x = j := by omega
        subst this
        rw [if_neg hxj, if_neg hxj, e2, e3]
        exact ⟨r, h2, rfl⟩
section RDO2
variable {L P W F n : Nat} {f : Nat → LWt} {z : Nat → Int32} {hold : Int32}
theorem r_do2 {s : Nat} {a b : Int32} {k : Nat → Int32} {res : Option (Int32 × (Nat → Int32))} {r : Int32} {k' : Nat → Int32} (har : AR L P W F n f z hold s a b k res) (hres : res = some (r, k')) {σ : sa_St} {hist : List (Nat → Int32)} {wl : Nat → Int32} (hcx : Cx L P W F n f z hold σ) (hw : σ.1 173 = toW k wl) (hl : LogR k wl) (hpm : PM hist (σ.1 159 43) (σ.1 177)) : wp (f_X12_remember 159) σ (fun _ τ => (Cx L P W F n f z hold τ ∧ τ.1 171 = σ.1 171) ∧ wp (rDo s 173 a b) τ (fun _ τ2 => (SK τ2.2.1 ∧ τ2.2.2 159 = σ.2.2 159) ∧ ∃ wl', FM n f σ τ2 ∧ τ2.1 173 = toW k' wl' ∧ LogR k' wl' ∧ PM ((k :: hist).take 40) (τ2.1 159 43) (τ2.1 177))) := by
  refine PM.push hcx.1 hpm hw hl (fun τ hF h9 hpm2 hlo => ?_)
  have hD : Dn [0, 5, 9] σ τ := by
    refine ⟨fun x y _ _ => by rw [hF.1], fun x y g => ?_⟩
    by_cases e : x = 159
    · subst e
      by_cases e2 : y = 43
      · subst e2; cases g
      · exact h9 y e2
    · by_cases e2 : x = 177
      · subst e2; cases g
      · rw [(hF.2 x (by simp only [List.mem_cons, List.not_mem_nil, or_false]; omega)).1]
  have h175 : τ.2.2 175 = σ.2.2 175 := (hF.2 175 (by decide)).2
  have hFM1 : FM n f σ τ := ⟨fun j hj => (hF.2 j (by simp only [List.mem_cons, List.not_mem_nil, or_false]; omega)).1, hD, by
    rw [h175, (hF.2 176 (by decide)).1]
    exact hcx.memo⟩
  refine ⟨⟨hFM1.cx hcx, (hF.2 171 (by decide)).1⟩, (har.2 τ 173 wl (hFM1.cx hcx) (Or.inl rfl) (by rw [(hF.2 173 (by decide)).1]; exact hw) hl).2 r k' hres _ (fun τ2 wl' hM h1 h2 => ⟨⟨((hM.fm (Or.inl rfl)).cx (hFM1.cx hcx)).1, by rw [hM.1.1.2 159 (by omega), hlo]⟩, wl', hFM1.trans (hM.fm (Or.inl rfl)), h1, h2, ?_⟩)⟩
  rw [hM.2.1 43 (by unfold isPF; omega) (by omega) (by omega), (hM.1.2 177 (by decide)).1]
  exact hpm2
end RDO2
section PERF
variable {kk L P W F n H B o sz : Nat} {f : Nat → LWt} {z : Nat → Int32} {hold : Int32} {s : Nat → Int32}
/-- the i-th step s of orders, on a camp -/
def AX (L P W F n H B : Nat) (f : Nat → LWt) (z : Nat → Int32) (hold : Int32) (s : Nat → Int32) (j : Nat) (k : Nat → Int32) (res : Option (Int32 × (Nat → Int32))) : Prop :=
  AR L P W F n f z hold (min (s (3 * j)).toNatClampNeg 4) (sA P (s (3 * j)).toNatClampNeg (s (3 * j + 1))) (sB (s (3 * j)).toNatClampNeg (s (3 * j + 2))) k res ∧ (4 ≤ (s (3 * j)).toNatClampNeg → res.isSome = true) ∧ ∀ r k', res = some (r, k') → r ≠ mI ∧ ∃ m', KM P W (H + j + 1) (B + 815 * j + 815) m' k'
theorem Ch.km {k0 : Nat → Int32} {h0 : List (Nat → Int32)} (h : ∃ m, KM P W H B m k0) : ∀ {j : Nat} {k : Nat → Int32} {hs : List (Nat → Int32)}, Ch (AX L P W F n H B f z hold s) k0 h0 j k hs → ∃ m, KM P W (H + j) (B + 815 * j) m k := by
  intro j
  cases j with
  | zero => rintro k hs ⟨rfl, rfl⟩; exact h
  | succ j =>
    rintro k' hs' ⟨k, hs, r, h1, h2, rfl⟩
    obtain ⟨m', hm⟩ := (h2.2.2 r k' rfl).2
    exact ⟨m', hm.mono (by omega) (by omega)⟩
theorem Ch.kv {k0 : Nat → Int32} {h0 : List (Nat → Int32)} {H2 B2 : Nat} (h : ∃ m, KM P W H B m k0) (hh : ∀ c ∈ h0, KV P W H2 B2 c) : ∀ {j : Nat} {k : Nat → Int32} {hs : List (Nat → Int32)}, Ch (AX L P W F n H B f z hold s) k0 h0 j k hs → H + j ≤ H2 → B + 815 * j ≤ B2 → ∀ c ∈ hs, KV P W H2 B2 c := by
  intro j
  induction j with
  | zero => rintro k hs ⟨rfl, rfl⟩ _ _; exact hh
  | succ j ih =>
    rintro k' hs' ⟨k, hs, r, h1, h2, rfl⟩ g1 g2 c hc
    rcases List.mem_cons.mp (List.mem_of_mem_take hc) with rfl | hc2
    · obtain ⟨m, hm⟩ := Ch.km h h1
      exact (hm.mono (by omega) (by omega)).to
    · exact ih h1 (by omega) (by omega) c hc2
theorem AX.ex (hz : ZR P W F z) (hP : 0 < P) {k : Nat → Int32} {m j : Nat} (hkm : KM P W (H + j) (B + 815 * j) m k) (hH : H + j ≤ 100000) (hB : B + 815 * j + 2000 < 2 ^ 30) (ht : (s (3 * j)).toNatClampNeg ≤ 5) : ∃ res, AX L P W F n H B f z hold s j k res := step_AR hz hP hkm hH hB ht
theorem c_perf {σ : sa_St} {hist : List (Nat → Int32)} {Q : Int32 → sa_St → Prop} (hcx : Cx L P W F n f z hold σ) (hP : 0 < P) (ho : o < 5) (hs16 : sz ≤ 16) (hsz : σ.1 (34 + 2 * o) 1 = nI sz) (hst : ∀ i, i < sz → ∃ t a b, stC t a b (σ.1 (35 + 2 * o)) i) (hkm : ∃ m, KM P W H B m (σ.1 45)) (hH : H + 16 ≤ 100000) (hB : B + 20000 < 2 ^ 30) (hpc : PC hist (σ.1 48 3) (σ.1 48 4) (fun i => σ.1 (53 + 2 * i)))
    (hQ : ∀ j k hs τ, j ≤ sz → Ch (AX L P W F n H B f z hold (σ.1 (35 + 2 * o))) (σ.1 45) hist j k hs → (j = sz ∨ AX L P W F n H B f z hold (σ.1 (35 + 2 * o)) j k none) → FA σ τ → τ.1 45 = k → PC hs (τ.1 48 3) (τ.1 48 4) (fun i => τ.1 (53 + 2 * i)) → Q (nI j) τ) :
    wp (sa_wh1 (fun j29 (x7 : Int32) =>
sa_bnd (sa_rdI 4 (34 + 2 * o) 1) fun v8 =>
sa_jn0 (sa_ret (x7 : Int32)) fun j70 =>
if v8 ≤ x7 then
j70
else
sa_bnd (f_X4_act (34 + 2 * o) x7) fun v9 =>
sa_bnd (sa_rdR 11 0 1) fun v10 =>
sa_bnd (f_X4_first (34 + 2 * o) x7 v10) fun v11 =>
sa_bnd (f_X4_second (34 + 2 * o) x7) fun v12 =>
sa_bnd (f_X11_act 0 v9 v11 v12) fun v13 =>
if v13 = (-1) then
j70
else
sa_let ((x7 + 1) : Int32) fun x14 =>
j29 x14) sa_F 0) σ Q := by
  refine wp_wh1 (fun ms a τ => ∃ j k hs, a = nI j ∧ j + ms = sz ∧ Ch (AX L P W F n H B f z hold (σ.1 (35 + 2 * o))) (σ.1 45) hist j k hs ∧ FA σ τ ∧ τ.1 45 = k ∧ PC hs (τ.1 48 3) (τ.1 48 4) (fun i => τ.1 (53 + 2 * i))) ?_ sa_F sz 0 σ (by unfold sa_F; omega) ⟨0, σ.1 45, hist, rfl, by omega, ⟨rfl, rfl⟩, FA.refl σ, rfl, hpc⟩
  rintro ms a τ ⟨j, k, hs, rfl, hms, hch, hFA, h45, hpc2⟩ c hc
  obtain ⟨q1, q2, q3, q4⟩ := sk_33 hcx.1 ho
  have hcx2 := hFA.cx hcx
  have esz : τ.1 (34 + 2 * o) 1 = nI sz := by
    rw [hFA.2.2.2 (34 + 2 * o) 1 (by rw [grp_O (by omega)]; rfl)]
    exact hsz
  have est : τ.1 (35 + 2 * o) = σ.1 (35 + 2 * o) := hFA.2.2.row (35 + 2 * o) (fun _ => by rw [grp_O (by omega)]; rfl)
  rw [wp_bnd, wp_rdI]
  refine ⟨q3, ?_⟩
  rw [esz, wp_jn0, wp_if, wp_ret]
  refine ⟨fun hle => ?_, fun hnle => ?_⟩
  · rw [nI_leI (by omega) (by omega)] at hle
    exact hQ j k hs τ (by omega) hch (Or.inl (by omega)) hFA h45 hpc2
  · rw [nI_leI (by omega) (by omega)] at hnle
    have hjs : j < sz := by omega
    obtain ⟨t, a, b, hstp⟩ := hst j hjs
    have et : (σ.1 (35 + 2 * o) (3 * j)).toNatClampNeg = t := by rw [hstp.2.1, nI_clamp (by have := hstp.1; omega)]
    obtain ⟨m, hm⟩ := Ch.km hkm hch
    obtain ⟨res, hax⟩ := AX.ex (L := L) (n := n) (f := f) (hold := hold) (s := σ.1 (35 + 2 * o)) hcx.zr hP hm (by omega) (by omega) (by rw [et]; exact hstp.1)
    have hstp2 : stC t a b (τ.1 (35 + 2 * o)) j := by rw [est]; exact hstp
    obtain ⟨f1, f2, f3⟩ := c_step hcx2 hP ho (show j < 16 by omega) hstp2
    have hax0 := hax
    unfold AX at hax
    rw [et, hstp.2.2.1, hstp.2.2.2.1] at hax
    have a1 := (LD.of hcx2.1 hcx2.2.1).1.1
    rw [wp_bnd, wp_of_eq f1, wp_bnd, wp_rdR (v := L) rfl a1, wp_bnd, wp_of_eq f2, wp_bnd, wp_of_eq f3, wp_bnd]
    refine c_act hcx2 hP hpc2 h45 hax.1 (fun r k' h => (hax.2.2 r k' h).1) (fun hn τ2 hF2 h452 hpc3 => ?_) (fun r k' hs2 τ2 hF2 h452 hpc3 => ?_)
    · rw [wp_if]
      refine ⟨fun _ => ?_, fun q => absurd (show mI = -1 from rfl) q⟩
      rw [wp_ret]
      refine hQ j k hs τ2 (by omega) hch (Or.inr ?_) (hFA.trans hF2) h452 hpc3
      rw [← hn]
      exact hax0
    · rw [wp_if]
      refine ⟨fun q => absurd q ((hax.2.2 r k' hs2).1), fun _ => ?_⟩
      rw [wp_let, nI_1]
      refine hc (ms - 1) _ τ2 (by omega) ⟨j + 1, k', (k :: hs).take 40, rfl, by omega, ⟨k, hs, r, hch, ?_, rfl⟩, hFA.trans hF2, h452, hpc3⟩
      rw [← hs2]
      exact hax0
theorem m_perf {σ : sa_St} {jE : Nat} {ks : Nat → Nat → Int32} {hss : Nat → List (Nat → Int32)} {wl0 : Nat → Int32} {Q : Int32 → sa_St → Prop} (hcx : Cx L P W F n f z hold σ) (hP : 0 < P) (ho : o < 4) (hs16 : sz ≤ 16) (hsz : σ.1 172 o = nI sz) (hst : ∀ i, i < sz → ∃ t a b, stC t a b s i) (hod : ∀ i x, i < sz → x < 3 → σ.1 171 (48 * o + 3 * i + x) = s (3 * i + x)) (hjE : jE ≤ sz) (hse : ∀ x, x < jE → ∃ r, AX L P W F n H B f z hold s x (ks x) (some (r, ks (x + 1))) ∧ hss (x + 1) = (ks x :: hss x).take 40) (hend : jE = sz ∨ AX L P W F n H B f z hold s jE (ks jE) none) (hw : σ.1 173 = toW (ks 0) wl0) (hl : LogR (ks 0) wl0) (hpm : PM (hss 0) (σ.1 159 43) (σ.1 177))
    (hQ : ∀ τ wl, FM n f σ τ → τ.1 173 = toW (ks jE) wl → LogR (ks jE) wl → PM (hss jE) (τ.1 159 43) (τ.1 177) → Q (nI jE) τ) :
    wp (sa_wh1 (fun j32 (x5 : Int32) =>
sa_bnd (sa_rdR 12 159 33) fun v6 =>
sa_bnd (sa_ldI .int v6 (nI o)) fun v7 =>
sa_jn0 (sa_ret (x5 : Int32)) fun j87 =>
if v7 ≤ x5 then
j87
else
sa_bnd (sa_rdR 12 159 35) fun v8 =>
sa_bnd (f_X12_canStep 159 v8 (3 * ((16 * nI o) + x5))) fun v9 =>
if v9 = 0 then
j87
else
sa_bnd (f_X12_remember 159) fun _ =>
sa_bnd (sa_rdR 12 159 35) fun v10 =>
sa_bnd (f_X12_does 159 v10 (3 * ((16 * nI o) + x5))) fun _ =>
sa_let ((x5 + 1) : Int32) fun x11 =>
j32 x11) sa_F 0) σ Q := by
  refine wp_wh1 (fun ms a τ => ∃ j wl, a = nI j ∧ j + ms = jE ∧ FM n f σ τ ∧ τ.1 173 = toW (ks j) wl ∧ LogR (ks j) wl ∧ PM (hss j) (τ.1 159 43) (τ.1 177)) ?_ sa_F jE 0 σ (by unfold sa_F; omega) ⟨0, wl0, rfl, by omega, ⟨fun _ _ => rfl, Dn.refl σ, hcx.memo⟩, hw, hl, hpm⟩
  rintro ms a τ ⟨j, wl, rfl, hms, hFM, hwj, hlj, hpmj⟩ c hc
  have hcx2 := hFM.cx hcx
  have hk := hcx2.1
  have e33 := sk_159_33 hk
  have e35 := sk_159_35 hk
  have esz : τ.1 172 o = nI sz := by
    rw [hFM.2.1.row 172 (fun _ => rfl)]
    exact hsz
  have eod : ∀ i x, i < sz → x < 3 → τ.1 171 (48 * o + 3 * i + x) = s (3 * i + x) := fun i x hi hx => by
    rw [hFM.2.1.row 171 (fun _ => rfl)]
    exact hod i x hi hx
  have erow : (3 : Int32) * (16 * nI o + nI j) = nI (3 * (16 * o + j)) := by
    rw [L3, L16, pk_mul, nI_add, pk_mul]
  rw [wp_bnd, wp_rdR (v := 172) rfl e33, wp_bnd, v_ldI]
  refine ⟨by rw [al_172]; exact nI_in (by omega) (by omega), ?_⟩
  rw [nI_clamp (by omega), esz, wp_jn0, wp_if, wp_ret]
  refine ⟨fun hle => ?_, fun hnle => ?_⟩
  · rw [nI_leI (by omega) (by omega)] at hle
    have : j = jE := by omega
    subst this
    exact hQ τ wl hFM hwj hlj hpmj
  · rw [nI_leI (by omega) (by omega)] at hnle
    have hjs : j < sz := by omega
    obtain ⟨t, a, b, hstp⟩ := hst j hjs
    have et : (s (3 * j)).toNatClampNeg = t := by rw [hstp.2.1, nI_clamp (by have := hstp.1; omega)]
    have s0 : τ.1 171 (3 * (16 * o + j)) = nI t := by
      rw [show 3 * (16 * o + j) = 48 * o + 3 * j + 0 by omega, eod j 0 hjs (by omega)]
      exact hstp.2.1
    have s1 : τ.1 171 (3 * (16 * o + j) + 1) = a := by
      rw [show 3 * (16 * o + j) + 1 = 48 * o + 3 * j + 1 by omega, eod j 1 hjs (by omega)]
      exact hstp.2.2.1
    have s2 : τ.1 171 (3 * (16 * o + j) + 2) = b := by
      rw [show 3 * (16 * o + j) + 2 = 48 * o + 3 * j + 2 by omega, eod j 2 hjs (by omega)]
      exact hstp.2.2.2.1
    rw [wp_bnd, wp_rdR (v := 173) rfl e35, wp_bnd, erow]
    by_cases hj : j < jE
    · obtain ⟨r, hax, hhs⟩ := hse j hj
      unfold AX at hax
      rw [et, hstp.2.2.1, hstp.2.2.2.1] at hax
      refine m_can hcx2 hP (Or.inl rfl) (by omega) hstp.1 s0 s1 s2 hax.1 hax.2.1 hwj hlj ?_
      rw [is1, wp_if]
      refine ⟨fun q => absurd q (by decide), fun _ => ?_⟩
      rw [wp_bnd]
      refine wp_mono (r_do2 hax.1 rfl hcx2 hwj hlj hpmj) (fun _ τ1 h1 => ?_)
      obtain ⟨⟨hcx3, e171⟩, h1⟩ := h1
      rw [wp_bnd, wp_rdR (v := 173) rfl (sk_159_35 hcx3.1), wp_bnd]
      refine m_does (t := t) (a := a) (b := b) hcx3 hP (by omega) hstp.1 (by rw [e171]; exact s0) (by rw [e171]; exact s1) (by rw [e171]; exact s2) ?_
      refine wp_mono h1 (fun _ τ2 h2 => ?_)
      obtain ⟨hk2, wl', hB2, hw4, hl4, hpm4⟩ := h2
      rw [wp_let, nI_1]
      exact hc (ms - 1) _ τ2 (by omega) ⟨j + 1, wl', rfl, by omega, hFM.trans hB2, hw4, hl4, by rw [hhs]; exact hpm4⟩
    · have hjE2 : j = jE := by omega
      subst hjE2
      rcases hend with h | hax
      · omega
      unfold AX at hax
      rw [et, hstp.2.2.1, hstp.2.2.2.1] at hax
      refine m_can hcx2 hP (Or.inl rfl) (by omega) hstp.1 s0 s1 s2 hax.1 hax.2.1 hwj hlj ?_
      rw [is0, wp_if]
      refine ⟨fun _ => ?_, fun q => absurd (show nI 0 = 0 from rfl) q⟩
      rw [wp_ret]
      exact hQ τ wl hFM hwj hlj hpmj
end PERF
theorem lc20 (k : Nat) (hk512 : k ≤ 512) : lc_20 (Inv k) (Inv (k + 1)) := by
  intro σ s1 hI
  refine lco ?_
  obtain ⟨L, P, W, F, n, f, hIv⟩ := Iv.of hI
  have hIv0 := hIv
  obtain ⟨hk, hL, hT, hLd, hM, hW, hO, hC, hP, hG, hS, hZ⟩ := hIv
  obtain ⟨⟨a1, a2, a3, a4, a5, a6⟩, e1, e2, e3, e4, e5, e6⟩ := LD.of hk hL
  have hL39 := hL.n
  clear hL39
  obtain ⟨kv, wl, hw, hlg⟩ := hC
  obtain ⟨m, hkm⟩ := KM.of kv
  have hcx := hIv0.cx
  have hLd2 := hLd
  obtain ⟨⟨b1, b2, b3⟩, ⟨c0, c1, c3, r0, r1, r3⟩, lp, lw, lf⟩ := hLd2
  obtain ⟨oN, o4, o1, o2, o3⟩ := hO
  by_cases hP0 : P = 0
  · simp (disch := omega) only [f_X11_perform, f_X12_perform, f_X1_isEmpty, wp_gd, wp_bnd, wp_let, wp_jn0, wp_jn1, wp_jn2, wp_if, wp_ret, wp_rdI, wp_rdL, v_rdR, v_ldI, v_ldL, v_ldR, v_stI, v_stB, v_stZ, v_stL, wp_wrI, wp_wrL, wp_wrR, wp_wrZ, wp_retZ, v_md, v_dv, v_tb, upI_2, true_and, and_true, Nat.add_sub_cancel, Nat.zero_lt_succ, Nat.succ_pos, okN, clN, L0, L1, L2, L3, L4, L5, L6, L7, L8, L9, L10, L11, L12, L13, L14, L15, L16, L17, L18, L19, L20, L21, L22, L23, L24, L25, L26, L27, L28, L29, L30, L31, L32, L33, L34, L35, L36, L37, L38, L39, L40, L41, L42, L43, L44, L45, L46, L47, L48, L49, L50, L51, L52, L53, L54, L55, L56, L57, L58, L59, L60, L61, L62, L63, L64, L65, L66, L67, L68, L69, L70, L71, L72, L73, L74, L75, L76, L77, L78, L79, L80, L81, L82, L83, L84, L85, L86, L87, L88, L89, L90, L91, L92, L93, L94, L95, L96, L97, L98, L99, L100, L101, L102, L103, L104, L105, L106, L107, L108, L109, L110, L111, L112, L113, L114, L115, L116, L117, L118, L119, L120, L121, L122, L123, L124, L125, L126, L127, L128, L129, L130, L131, L200, L240, L255, L260, L1000, L4096, L10140, L1000000, ng1, mI_lt, mI_le, lt_mI, le_mI, eq_mI, mI_eq, mI_mI, mI_mE, nI_add, pk_mul, pk_sub, pk_rem, sa_minN, sa_maxN, ne_eq, nI_leI, nI_ltI, nI_eq, dT_le, dF_le, dT_lt, dF_lt, dT_eq, dF_eq, true_imp_iff, false_imp_iff, not_true_eq_false, not_false_eq_true, false_or, or_false, true_or, or_true, false_and, and_false, Decidable.not_not, reduceIte, if_true, if_false, upI_self, upI_ne, upL_1, upL_21, upL_self, upL_ne, upR_1, upR_22, upR_self, upR_ne, va_up_self, va_up_ne, Nat.reduceAdd, Nat.reduceMul, Nat.reduceSub, Nat.reduceLT, Nat.reduceLeDiff, Nat.reduceEqDiff, Nat.reduceSubDiff, Nat.zero_add, cm3, cm5, cm7, cm8, cm25, Nat.not_lt_zero, Nat.zero_le, not_false_iff, and_self, imp_self, implies_true, forall_const, Nat.lt_irrefl, Nat.le_refl, and_imp, sh_0, sh_159, sh_1, sh_15, sh_44, sh_46, sh_48, sh_134, sh_136, sh_151, sh_156, e1, e2, e3, e4, e5, e6, a1, a2, a3, a4, a5, a6, c0, c1, c3, r0, r1, r3]
    exact hIv0.ask0 (Dn.up (Dn.refl σ) rfl) rfl
  rcases nx s1 oN with ⟨g1, g2, g3, g4, g5, g6⟩ | ⟨g1, g2, g3, g4, g5, g6, -⟩ | ⟨o, ho, rfl⟩
  · simp (disch := omega) only [f_X11_perform, f_X12_perform, f_X1_isEmpty, f_X11_hasOrders, w_isIn, le_sub1, i64le, l64_0, l64_1, l64_2, l64_3, l64_5, l64_6, l64_7, l64_9, l64_12, l64_24, l64_48, l64_99, wp_gd, wp_bnd, wp_let, wp_jn0, wp_jn1, wp_jn2, wp_if, wp_ret, wp_rdI, wp_rdL, v_rdR, v_ldI, v_ldL, v_ldR, v_stI, v_stB, v_stZ, v_stL, wp_wrI, wp_wrL, wp_wrR, wp_wrZ, wp_retZ, v_md, v_dv, v_tb, upI_2, true_and, and_true, Nat.add_sub_cancel, Nat.zero_lt_succ, Nat.succ_pos, okN, clN, L0, L1, L2, L3, L4, L5, L6, L7, L8, L9, L10, L11, L12, L13, L14, L15, L16, L17, L18, L19, L20, L21, L22, L23, L24, L25, L26, L27, L28, L29, L30, L31, L32, L33, L34, L35, L36, L37, L38, L39, L40, L41, L42, L43, L44, L45, L46, L47, L48, L49, L50, L51, L52, L53, L54, L55, L56, L57, L58, L59, L60, L61, L62, L63, L64, L65, L66, L67, L68, L69, L70, L71, L72, L73, L74, L75, L76, L77, L78, L79, L80, L81, L82, L83, L84, L85, L86, L87, L88, L89, L90, L91, L92, L93, L94, L95, L96, L97, L98, L99, L100, L101, L102, L103, L104, L105, L106, L107, L108, L109, L110, L111, L112, L113, L114, L115, L116, L117, L118, L119, L120, L121, L122, L123, L124, L125, L126, L127, L128, L129, L130, L131, L200, L240, L255, L260, L1000, L4096, L10140, L1000000, ng1, mI_lt, mI_le, lt_mI, le_mI, eq_mI, mI_eq, mI_mI, mI_mE, nI_add, pk_mul, pk_sub, pk_rem, sa_minN, sa_maxN, ne_eq, nI_leI, nI_ltI, nI_eq, dT_le, dF_le, dT_lt, dF_lt, dT_eq, dF_eq, true_imp_iff, false_imp_iff, not_true_eq_false, not_false_eq_true, false_or, or_false, true_or, or_true, false_and, and_false, Decidable.not_not, reduceIte, if_true, if_false, upI_self, upI_ne, upL_1, upL_21, upL_self, upL_ne, upR_1, upR_22, upR_self, upR_ne, va_up_self, va_up_ne, Nat.reduceAdd, Nat.reduceMul, Nat.reduceSub, Nat.reduceLT, Nat.reduceLeDiff, Nat.reduceEqDiff, Nat.reduceSubDiff, Nat.zero_add, cm3, cm5, cm7, cm8, cm25, Nat.not_lt_zero, Nat.zero_le, not_false_iff, and_self, imp_self, implies_true, forall_const, Nat.lt_irrefl, Nat.le_refl, and_imp, sh_0, sh_159, sh_1, sh_15, sh_44, sh_46, sh_48, sh_134, sh_136, sh_151, sh_156, e1, e2, e3, e4, e5, e6, a1, a2, a3, a4, a5, a6, c0, c1, c3, r0, r1, r3, o1, o2, g1, g2, g3, g4, g5, g6]
    exact hIv0.ask0 (Dn.up (Dn.refl σ) rfl) rfl
  · simp (disch := omega) only [f_X11_perform, f_X12_perform, f_X1_isEmpty, f_X11_hasOrders, w_isIn, le_sub1, i64le, l64_0, l64_1, l64_2, l64_3, l64_5, l64_6, l64_7, l64_9, l64_12, l64_24, l64_48, l64_99, wp_gd, wp_bnd, wp_let, wp_jn0, wp_jn1, wp_jn2, wp_if, wp_ret, wp_rdI, wp_rdL, v_rdR, v_ldI, v_ldL, v_ldR, v_stI, v_stB, v_stZ, v_stL, wp_wrI, wp_wrL, wp_wrR, wp_wrZ, wp_retZ, v_md, v_dv, v_tb, upI_2, true_and, and_true, Nat.add_sub_cancel, Nat.zero_lt_succ, Nat.succ_pos, okN, clN, L0, L1, L2, L3, L4, L5, L6, L7, L8, L9, L10, L11, L12, L13, L14, L15, L16, L17, L18, L19, L20, L21, L22, L23, L24, L25, L26, L27, L28, L29, L30, L31, L32, L33, L34, L35, L36, L37, L38, L39, L40, L41, L42, L43, L44, L45, L46, L47, L48, L49, L50, L51, L52, L53, L54, L55, L56, L57, L58, L59, L60, L61, L62, L63, L64, L65, L66, L67, L68, L69, L70, L71, L72, L73, L74, L75, L76, L77, L78, L79, L80, L81, L82, L83, L84, L85, L86, L87, L88, L89, L90, L91, L92, L93, L94, L95, L96, L97, L98, L99, L100, L101, L102, L103, L104, L105, L106, L107, L108, L109, L110, L111, L112, L113, L114, L115, L116, L117, L118, L119, L120, L121, L122, L123, L124, L125, L126, L127, L128, L129, L130, L131, L200, L240, L255, L260, L1000, L4096, L10140, L1000000, ng1, mI_lt, mI_le, lt_mI, le_mI, eq_mI, mI_eq, mI_mI, mI_mE, nI_add, pk_mul, pk_sub, pk_rem, sa_minN, sa_maxN, ne_eq, nI_leI, nI_ltI, nI_eq, dT_le, dF_le, dT_lt, dF_lt, dT_eq, dF_eq, true_imp_iff, false_imp_iff, not_true_eq_false, not_false_eq_true, false_or, or_false, true_or, or_true, false_and, and_false, Decidable.not_not, reduceIte, if_true, if_false, upI_self, upI_ne, upL_1, upL_21, upL_self, upL_ne, upR_1, upR_22, upR_self, upR_ne, va_up_self, va_up_ne, Nat.reduceAdd, Nat.reduceMul, Nat.reduceSub, Nat.reduceLT, Nat.reduceLeDiff, Nat.reduceEqDiff, Nat.reduceSubDiff, Nat.zero_add, cm3, cm5, cm7, cm8, cm25, Nat.not_lt_zero, Nat.zero_le, not_false_iff, and_self, imp_self, implies_true, forall_const, Nat.lt_irrefl, Nat.le_refl, and_imp, sh_0, sh_159, sh_1, sh_15, sh_44, sh_46, sh_48, sh_134, sh_136, sh_151, sh_156, e1, e2, e3, e4, e5, e6, a1, a2, a3, a4, a5, a6, c0, c1, c3, r0, r1, r3, o1, o2, g1, g2, g3, g4, g5, g6]
    exact hIv0.ask0 (Dn.up (Dn.refl σ) rfl) rfl
  · obtain ⟨sz, sz1, sz16, z1, z2, z3⟩ := o3 o ho
    obtain ⟨q1, q2, q3, q4⟩ := sk_33 hk (l := o) (by omega)
    obtain ⟨hist, hpc, hpm, hkv⟩ := PastR.un hP
    have hst : ∀ i, i < sz → ∃ t a b, stC t a b (σ.1 (35 + 2 * o)) i := by
      intro i hi
      obtain ⟨t, t5, e0, ea, eb, -, -, -⟩ := z3 i hi
      refine ⟨t, _, _, t5, e0, rfl, rfl, fun h2 => ?_, fun h2 => ?_⟩
      · rw [if_neg (by omega)] at eb
        exact eb
      · rw [if_pos h2] at eb
        exact eb
    have hod : ∀ i x, i < sz → x < 3 → σ.1 171 (48 * o + 3 * i + x) = σ.1 (35 + 2 * o) (3 * i + x) := by
      intro i x hi hx
      obtain ⟨t, t5, e0, ea, eb, u0, u1, u2⟩ := z3 i hi
      rcases (show x = 0 ∨ x = 1 ∨ x = 2 by omega) with rfl | rfl | rfl
      · exact u0
      · exact u1
      · exact u2
    have key := c_perf (Q := fun r τ => wp (f_X12_perform 159 (nI o)) τ (fun r2 τ2 => r2 = r ∧ Inv (k + 1) τ2)) hcx (by omega) (show o < 5 by omega) sz16 z1 hst ⟨m, hkm⟩ (by omega) (by omega) hpc (fun j kE hs τ hjs hch hend hFA h45 hpc2 => by
      obtain ⟨ks, hss, e0, e1, e2, e3, e4⟩ := hch.seq
      have hcx2 := hFA.cx hcx
      have hcx3 := th0 hcx2
      have m1 := hFA.2.1
      have r0' := hcx2.2.2.1.2.1.2.2.2.1
      have o2' : τ.1 159 34 = nI oN := by rw [(m1 159 (by omega)).1]; exact o2
      have t172 : (sa_upI τ 159 0 (nI 0)).1 172 o = nI sz := by rw [upI_ne (by omega), (m1 172 (by omega)).1]; exact z2
      have t171 : ∀ i x, i < sz → x < 3 → (sa_upI τ 159 0 (nI 0)).1 171 (48 * o + 3 * i + x) = σ.1 (35 + 2 * o) (3 * i + x) := fun i x hi hx => by
        rw [upI_ne (by omega), (m1 171 (by omega)).1]
        exact hod i x hi hx
      have t173 : (sa_upI τ 159 0 (nI 0)).1 173 = toW (ks 0) wl := by rw [upI_ne (by omega), (m1 173 (by omega)).1, e0]; exact hw
      have tpm : PM (hss 0) ((sa_upI τ 159 0 (nI 0)).1 159 43) ((sa_upI τ 159 0 (nI 0)).1 177) := by
        simp (disch := omega) only [upI_self, upI_ne, va_up_ne]
        rw [(m1 159 (by omega)).1, (m1 177 (by omega)).1, e1]
        exact hpm
      rw [← e2] at hend
      have hgo := m_perf (Q := fun r2 τ2 => r2 = nI j ∧ Inv (k + 1) τ2) (s := σ.1 (35 + 2 * o)) hcx3 (by omega) (show o < 4 by omega) sz16 t172 hst t171 hjs e4 hend t173 (by rw [e0]; exact hlg) tpm (fun τ2 wl2 hB2 hw2 hl2 hpm2 => ⟨rfl, by
        obtain ⟨mE, hmE⟩ := Ch.km ⟨m, hkm⟩ hch
        rw [e2] at hw2 hl2
        rw [e3] at hpm2
        exact act_fin hIv0 hFA h45 hpc2 ((FM.up hcx2.memo).trans hB2) hw2 hl2 hpm2 (hmE.mono (by omega) (by omega)).to (Ch.kv ⟨m, hkm⟩ (fun c hc => (hkv c hc).mono (by omega) (by omega)) hch (by omega) (by omega))⟩)
      have hs3 : (sa_upI τ 159 0 (nI 0)).1 159 34 = nI oN := by rw [upI_self, va_up_ne _ _ (by omega)]; exact o2'
      clear hcx hcx2 hcx3 hkm hM hch hend e4 hFA m1 hkv hpc hpc2 hpm hst hod t171 z3 o3 lp lw lf
      unfold f_X12_perform
      rw [wp_gd]
      refine ⟨rfl, ?_⟩
      simp only [wp_bnd, wp_wrI, wp_rdI, sh_159, true_and, wp_jn0]
      rw [wp_if]
      have h25 : (sa_upI τ 159 0 0).1 159 25 = nI P := by rw [upI_self, va_up_ne _ _ (by omega)]; exact r0'
      have hs4 : (sa_upI τ 159 0 0).1 159 34 = nI oN := hs3
      rw [h25]
      refine ⟨fun q => absurd q (by rw [L0, nI_eq (by omega) (by omega)]; exact hP0), fun _ => ?_⟩
      rw [wp_bnd, wp_rdI]
      refine ⟨rfl, ?_⟩
      rw [wp_bnd, hs4, w_isIn]
      refine ⟨fun _ => ?_, fun q => absurd ?_ q⟩
      · rw [wp_if]
        refine ⟨fun _ => ?_, fun q => absurd (show ¬ nI 1 = 0 by decide) q⟩
        rw [wp_let]
        exact hgo
      · rw [l64_0, L1, i64le, i64le, le_sub1 _ (by omega), nI_ltI (by omega) (by omega), nI_leI (by omega) (by omega)]
        omega)
    unfold f_X11_perform
    have f2 : f_X1_isEmpty L σ = some (nI 0, σ) := by
      refine run_of ?_
      simp (disch := omega) only [f_X1_isEmpty, wp_gd, wp_bnd, wp_let, wp_jn0, wp_jn1, wp_jn2, wp_if, wp_ret, wp_rdI, wp_rdL, v_rdR, v_ldI, v_ldL, v_ldR, v_stI, v_stB, v_stZ, v_stL, wp_wrI, wp_wrL, wp_wrR, wp_wrZ, wp_retZ, v_md, v_dv, v_tb, upI_2, true_and, and_true, Nat.add_sub_cancel, Nat.zero_lt_succ, Nat.succ_pos, okN, clN, L0, L1, L2, L3, L4, L5, L6, L7, L8, L9, L10, L11, L12, L13, L14, L15, L16, L17, L18, L19, L20, L21, L22, L23, L24, L25, L26, L27, L28, L29, L30, L31, L32, L33, L34, L35, L36, L37, L38, L39, L40, L41, L42, L43, L44, L45, L46, L47, L48, L49, L50, L51, L52, L53, L54, L55, L56, L57, L58, L59, L60, L61, L62, L63, L64, L65, L66, L67, L68, L69, L70, L71, L72, L73, L74, L75, L76, L77, L78, L79, L80, L81, L82, L83, L84, L85, L86, L87, L88, L89, L90, L91, L92, L93, L94, L95, L96, L97, L98, L99, L100, L101, L102, L103, L104, L105, L106, L107, L108, L109, L110, L111, L112, L113, L114, L115, L116, L117, L118, L119, L120, L121, L122, L123, L124, L125, L126, L127, L128, L129, L130, L131, L200, L240, L255, L260, L1000, L4096, L10140, L1000000, ng1, mI_lt, mI_le, lt_mI, le_mI, eq_mI, mI_eq, mI_mI, mI_mE, nI_add, pk_mul, pk_sub, pk_rem, sa_minN, sa_maxN, ne_eq, nI_leI, nI_ltI, nI_eq, dT_le, dF_le, dT_lt, dF_lt, dT_eq, dF_eq, true_imp_iff, false_imp_iff, not_true_eq_false, not_false_eq_true, false_or, or_false, true_or, or_true, false_and, and_false, Decidable.not_not, reduceIte, if_true, if_false, upI_self, upI_ne, upL_1, upL_21, upL_self, upL_ne, upR_1, upR_22, upR_self, upR_ne, va_up_self, va_up_ne, Nat.reduceAdd, Nat.reduceMul, Nat.reduceSub, Nat.reduceLT, Nat.reduceLeDiff, Nat.reduceEqDiff, Nat.reduceSubDiff, Nat.zero_add, cm3, cm5, cm7, cm8, cm25, Nat.not_lt_zero, Nat.zero_le, not_false_iff, and_self, imp_self, implies_true, forall_const, Nat.lt_irrefl, Nat.le_refl, and_imp, e1, e2, e3, e4, e5, e6, a1, a2, a3, a4, a5, a6, c0, c1, c3, r0, r1, r3]
    have f3 : f_X11_hasOrders 0 (nI o) σ = some (nI 1, σ) := by
      refine run_of ?_
      simp (disch := omega) only [f_X11_hasOrders, wp_gd, wp_bnd, wp_let, wp_jn0, wp_jn1, wp_jn2, wp_if, wp_ret, wp_rdI, wp_rdL, v_rdR, v_ldI, v_ldL, v_ldR, v_stI, v_stB, v_stZ, v_stL, wp_wrI, wp_wrL, wp_wrR, wp_wrZ, wp_retZ, v_md, v_dv, v_tb, upI_2, true_and, and_true, Nat.add_sub_cancel, Nat.zero_lt_succ, Nat.succ_pos, okN, clN, L0, L1, L2, L3, L4, L5, L6, L7, L8, L9, L10, L11, L12, L13, L14, L15, L16, L17, L18, L19, L20, L21, L22, L23, L24, L25, L26, L27, L28, L29, L30, L31, L32, L33, L34, L35, L36, L37, L38, L39, L40, L41, L42, L43, L44, L45, L46, L47, L48, L49, L50, L51, L52, L53, L54, L55, L56, L57, L58, L59, L60, L61, L62, L63, L64, L65, L66, L67, L68, L69, L70, L71, L72, L73, L74, L75, L76, L77, L78, L79, L80, L81, L82, L83, L84, L85, L86, L87, L88, L89, L90, L91, L92, L93, L94, L95, L96, L97, L98, L99, L100, L101, L102, L103, L104, L105, L106, L107, L108, L109, L110, L111, L112, L113, L114, L115, L116, L117, L118, L119, L120, L121, L122, L123, L124, L125, L126, L127, L128, L129, L130, L131, L200, L240, L255, L260, L1000, L4096, L10140, L1000000, ng1, mI_lt, mI_le, lt_mI, le_mI, eq_mI, mI_eq, mI_mI, mI_mE, nI_add, pk_mul, pk_sub, pk_rem, sa_minN, sa_maxN, ne_eq, nI_leI, nI_ltI, nI_eq, dT_le, dF_le, dT_lt, dF_lt, dT_eq, dF_eq, true_imp_iff, false_imp_iff, not_true_eq_false, not_false_eq_true, false_or, or_false, true_or, or_true, false_and, and_false, Decidable.not_not, reduceIte, if_true, if_false, upI_self, upI_ne, upL_1, upL_21, upL_self, upL_ne, upR_1, upR_22, upR_self, upR_ne, va_up_self, va_up_ne, Nat.reduceAdd, Nat.reduceMul, Nat.reduceSub, Nat.reduceLT, Nat.reduceLeDiff, Nat.reduceEqDiff, Nat.reduceSubDiff, Nat.zero_add, cm3, cm5, cm7, cm8, cm25, Nat.not_lt_zero, Nat.zero_le, not_false_iff, and_self, imp_self, implies_true, forall_const, Nat.lt_irrefl, Nat.le_refl, and_imp, sh_0, sh_159, sh_1, sh_15, sh_44, sh_46, sh_48, sh_134, sh_136, sh_151, sh_156, o1]
    rw [wp_gd]
    refine ⟨rfl, ?_⟩
    rw [wp_bnd, wp_rdR (v := L) rfl a1, wp_bnd, wp_of_eq f2, wp_jn0, wp_if]
    refine ⟨fun q => absurd (show nI 0 = 0 from rfl) q, fun _ => ?_⟩
    rw [wp_bnd, wp_of_eq f3, wp_if]
    refine ⟨fun _ => ?_, fun q => absurd (show ¬ nI 1 = 0 by decide) q⟩
    rw [wp_bnd, wp_rdR (v := 33) rfl (sk_0_4 hk), wp_bnd, wp_ldR (n := o) (len := 5) (v := 34 + 2 * o) rfl rfl (by omega) (by omega) q1, wp_let]
    exact key
