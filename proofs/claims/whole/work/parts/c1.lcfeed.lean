theorem tA_b (x : Int32) (s : (Nat → Nat) × Nat) (N : Nat) (h : s.2 + cntB x 4 ≤ N) : (tA x s 4).2 ≤ N := by rw [tA_n]; exact h
theorem lc0 (k : Nat) : lc_0 (Inv k) (Inv (k + 1)) := by
  intro σ s1 s2 s3 s4 s5 hI
  refine lco ?_
  obtain ⟨L, P, W, F, n, f, hIv⟩ := Iv.of hI
  have hIv0 := hIv
  obtain ⟨hk, hL, hT, hLd, hM, hW, hO, hC, hP, hG, hS, hZ⟩ := hIv
  obtain ⟨n0, hn0, hsz, hlen, hb⟩ := hT
  have n1 := cntB_le s1 4
  have n2 := cntB_le s2 4
  have n3 := cntB_le s3 4
  have n4 := cntB_le s4 4
  have n5 := cntB_le s5 4
  have e00 := sk_0_0 hk
  unfold f_X11_feed
  rw [wp_gd]
  refine ⟨rfl, ?_⟩
  rw [wp_bnd, wp_of_eq w_signs, wp_bnd, wp_of_eq w_signs, wp_bnd, wp_of_eq w_signs, wp_bnd, wp_of_eq w_signs, wp_bnd, wp_of_eq w_signs, wp_let, wp_bnd, wp_rdR (v := 1) rfl e00, wp_bnd, wp_rdI]
  refine ⟨rfl, ?_⟩
  rw [hsz]
  simp only [nI_add]
  rw [wp_if, L240, nI_leI (by omega) (by omega)]
  have href : ∀ {τ : sa_St} {Q : Int32 → sa_St → Prop} (s : (Nat → Nat) × Nat), τ.2.1 = σ.2.1 → RT s τ → s.2 = n0 → (¬ n0 + (cntB s1 4 + cntB s2 4 + cntB s3 4 + cntB s4 4 + cntB s5 4) ≤ 240 → Q (-1) (sa_upI τ 159 0 0)) → (n0 + (cntB s1 4 + cntB s2 4 + cntB s3 4 + cntB s4 4 + cntB s5 4) ≤ 240 → ∀ υ, RT (tA s5 (tA s4 (tA s3 (tA s2 (tA s1 s 4) 4) 4) 4) 4) υ → FD 1 (sa_upI τ 159 0 0) υ → Q (nI (tA s5 (tA s4 (tA s3 (tA s2 (tA s1 s 4) 4) 4) 4) 4).2) υ) → wp (f_X12_feed 159 s1 s2 s3 s4 s5) τ Q := by
    intro τ Q s h2 hR hs2 hno hyes
    have hk1 : SK (sa_upI τ 159 0 0).2.1 := by show SK τ.2.1; rw [h2]; exact hk
    have hR1 : RT s (sa_upI τ 159 0 0) := by
      refine ⟨?_, fun j hj => ?_⟩
      · rw [upI_self, va_up_ne _ _ (by omega)]; exact hR.1
      · rw [upI_ne (by omega)]; exact hR.2 j hj
    unfold f_X12_feed
    rw [wp_gd]
    refine ⟨rfl, ?_⟩
    rw [wp_bnd, wp_wrI]
    refine ⟨rfl, ?_⟩
    rw [wp_bnd, wp_rdI]
    refine ⟨rfl, ?_⟩
    rw [hR1.1, hs2, wp_bnd, wp_of_eq m_bytes, wp_bnd, wp_of_eq m_bytes, wp_bnd, wp_of_eq m_bytes, wp_bnd, wp_of_eq m_bytes, wp_bnd, wp_of_eq m_bytes]
    simp only [nI_add]
    rw [wp_if, L240, nI_leI (by omega) (by omega)]
    generalize sa_upI τ 159 0 0 = τ0 at *
    refine ⟨fun q => ?_, fun q => ?_⟩
    · rw [wp_bnd]
      refine m_put hk1 hR1 (tA_b _ _ _ (by omega)) (fun υ1 r1 f1 => ?_)
      rw [wp_bnd]
      refine m_put (by rw [f1.2.1]; exact hk1) r1 (tA_b _ _ _ (by rw [tA_n]; omega)) (fun υ2 r2 f2 => ?_)
      rw [wp_bnd]
      refine m_put (by rw [f2.2.1, f1.2.1]; exact hk1) r2 (tA_b _ _ _ (by rw [tA_n, tA_n]; omega)) (fun υ3 r3 f3 => ?_)
      rw [wp_bnd]
      refine m_put (by rw [f3.2.1, f2.2.1, f1.2.1]; exact hk1) r3 (tA_b _ _ _ (by rw [tA_n, tA_n, tA_n]; omega)) (fun υ4 r4 f4 => ?_)
      rw [wp_bnd]
      refine m_put (by rw [f4.2.1, f3.2.1, f2.2.1, f1.2.1]; exact hk1) r4 (tA_b _ _ _ (by rw [tA_n, tA_n, tA_n, tA_n]; omega)) (fun υ5 r5 f5 => ?_)
      rw [wp_bnd, wp_rdI]
      refine ⟨rfl, ?_⟩
      rw [r5.1, wp_ret]
      exact hyes (by omega) υ5 r5 ((((f1.trans f2).trans f3).trans f4).trans f5)
    · rw [wp_ret]
      exact hno (by omega)
  have hs0 : ∀ j, j < n0 → 0 < (σ.1 2 j).toNatClampNeg ∧ (σ.1 2 j).toNatClampNeg < 256 ∧ σ.1 2 j = nI (σ.1 2 j).toNatClampNeg ∧ σ.1 160 j = vp_nar .byte (nI (σ.1 2 j).toNatClampNeg) := by
    intro j hj
    obtain ⟨b, b0, b1, b2, b3⟩ := hb j hj
    rw [b2, nI_clamp (by omega)]
    exact ⟨b0, b1, rfl, b3⟩
  have hR0 : RT (fun j => (σ.1 2 j).toNatClampNeg, n0) σ := ⟨hlen, fun j hj => (hs0 j hj).2.2.2⟩
  refine ⟨fun q => ?_, fun q => ?_⟩
  · have hC0 : CT (fun j => (σ.1 2 j).toNatClampNeg, n0) σ := ⟨hsz, fun j hj => (hs0 j hj).2.2.1⟩
    have hok := tA_ok s5 (tA_ok s4 (tA_ok s3 (tA_ok s2 (tA_ok s1 (s := (fun j => (σ.1 2 j).toNatClampNeg, n0)) (fun j hj => ⟨(hs0 j hj).1, (hs0 j hj).2.1⟩) 4) 4) 4) 4) 4
    rw [wp_bnd, wp_rdR (v := 1) rfl e00, wp_bnd]
    refine c_add hk hC0 (tA_b _ _ _ (by show n0 + _ ≤ _; omega)) (fun υ1 r1 f1 => ?_)
    rw [wp_bnd, wp_rdR (v := 1) rfl (by rw [f1.2.1]; exact e00), wp_bnd]
    refine c_add (by rw [f1.2.1]; exact hk) r1 (tA_b _ _ _ (by rw [tA_n]; show n0 + _ + _ ≤ _; omega)) (fun υ2 r2 f2 => ?_)
    have g2 := f1.trans f2
    rw [wp_bnd, wp_rdR (v := 1) rfl (by rw [g2.2.1]; exact e00), wp_bnd]
    refine c_add (by rw [g2.2.1]; exact hk) r2 (tA_b _ _ _ (by rw [tA_n, tA_n]; show n0 + _ + _ + _ ≤ _; omega)) (fun υ3 r3 f3 => ?_)
    have g3 := g2.trans f3
    rw [wp_bnd, wp_rdR (v := 1) rfl (by rw [g3.2.1]; exact e00), wp_bnd]
    refine c_add (by rw [g3.2.1]; exact hk) r3 (tA_b _ _ _ (by rw [tA_n, tA_n, tA_n]; show n0 + _ + _ + _ + _ ≤ _; omega)) (fun υ4 r4 f4 => ?_)
    have g4 := g3.trans f4
    rw [wp_bnd, wp_rdR (v := 1) rfl (by rw [g4.2.1]; exact e00), wp_bnd]
    refine c_add (by rw [g4.2.1]; exact hk) r4 (tA_b _ _ _ (by rw [tA_n, tA_n, tA_n, tA_n]; show n0 + _ + _ + _ + _ + _ ≤ _; omega)) (fun υ5 r5 f5 => ?_)
    have g5 := g4.trans f5
    rw [wp_bnd, wp_rdR (v := 1) rfl (by rw [g5.2.1]; exact e00), wp_bnd, wp_rdI]
    refine ⟨rfl, ?_⟩
    rw [r5.1, wp_ret]
    have hR5 : RT (fun j => (σ.1 2 j).toNatClampNeg, n0) υ5 := by
      refine ⟨?_, fun j hj => ?_⟩
      · rw [(g5.2.2.1 rfl).1]; exact hR0.1
      · rw [(g5.2.2.1 rfl).2]; exact hR0.2 j hj
    have hle : (tA s5 (tA s4 (tA s3 (tA s2 (tA s1 (fun j => (σ.1 2 j).toNatClampNeg, n0) 4) 4) 4) 4) 4).2 ≤ 240 := by
      rw [tA_n, tA_n, tA_n, tA_n, tA_n]
      show n0 + _ + _ + _ + _ + _ ≤ _
      omega
    refine href _ (by rw [g5.2.1]) hR5 rfl (fun h => absurd q h) (fun _ υ rT fT => ⟨rfl, ?_⟩)
    generalize tA s5 (tA s4 (tA s3 (tA s2 (tA s1 (fun j => (σ.1 2 j).toNatClampNeg, n0) 4) 4) 4) 4) 4 = S at *
    have hD : Dn [0, 1] σ υ := by
      have h1 : Dn [0, 1] σ υ5 := g5.1.mono (fun x g => by simp at g ⊢; omega)
      have h2 : Dn [0, 1] σ (sa_upI υ5 159 0 0) := h1.up rfl
      exact h2.trans (fT.1.mono (fun x g => by simp at g ⊢; omega))
    have hT' : I_T υ := by
      refine ⟨S.2, hle, ?_, rT.1, fun i hi => ⟨S.1 i, (hok i hi).1, (hok i hi).2, ?_, rT.2 i hi⟩⟩
      · rw [(fT.2.2.2 rfl).1, upI_ne (by omega)]; exact r5.1
      · rw [(fT.2.2.2 rfl).2, upI_ne (by omega)]; exact r5.2 i hi
    have h22 : υ.2.2 = σ.2.2 := by rw [fT.2.1]; show υ5.2.2 = _; rw [g5.2.1]
    have hIv2 : Iv k L P W F n f υ := by
      obtain ⟨h0, h1, h2, h3, h4, h5, h6, h7, h8, h9, h10, h11⟩ := hIv0
      refine ⟨hD.sk h0, hD.li h1, hT', hD.Ld rfl h1 h3, fun hP => hD.Mp rfl h1 (h4 hP), hD.Wl rfl h5 ?_, hD.Or rfl h6, hD.Cm rfl h7, hD.Pa rfl h8, hD.Ig rfl h9, hD.Sy rfl h10, hD.Zt rfl h11⟩
      rw [h22, hD.row 176 (fun _ => rfl)]
      exact h5.2.2.2.2.2
    exact hIv2.up
  · rw [wp_ret]
    refine href _ rfl hR0 rfl (fun _ => ⟨rfl, ?_⟩) (fun h => absurd h q)
    exact hIv0.ask0 (Dn.up (Dn.refl σ) rfl) rfl
