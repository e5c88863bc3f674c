/-! TEXTS: text, of a land: alike; text -/
section TXT0
variable {k L P W F n : Nat} {f : Nat → LWt} {σ : sa_St}
/-- what a land's text changes, of both -/
def BB0 (D : Nat) (j k : Nat) : Prop := (j = 1 ∧ (k = 1 ∨ k = 2)) ∨ j = D + 1 ∨ j = D + 2 ∨ CC0 D j k ∨ DD0 j k
theorem land_inv {D m : Nat} {l : LDr} {z : Nat → Int32} {ω : sa_St} (hIv : Iv k L P W F n f σ) (hm : σ.1 0 5 = nI m) (hm4 : m ≤ 4) (hD : (L = 3 ∧ D = 9) ∨ (L = 9 ∧ D = 3)) (hl : LOk l) (hw : whB l = true) (f2 : ω.2.2 = σ.2.2) (fc : ∀ j k, ¬ BB0 D j k → ω.1 j k = σ.1 j k) (hsk : SK ω.2.1) (q1 : ω.2.1 0 1 = D + 1) (q2 : ω.2.1 0 2 = L + 1) (t11 : ω.1 1 1 = 0) (hz : ω.1 (D + 2) = z) (hd : CLd D l ω) (hS : CSt D l z ω) (hR : RSe l ω) : Inv (k + 1) ω := by
  obtain ⟨hk, hL, hT, hLd, hM, hW, hO, hC, hP, hG, hSk, hZ⟩ := hIv
  obtain ⟨m1, m2, m3, st, i2, i4, c135, c134, c151⟩ := hS
  obtain ⟨r6, ⟨r25, r26, r27⟩, y0, y1, y3, ⟨r43, r48, r69, r73⟩, kr, wl, e173, wl79, st2⟩ := hR
  have hn4 : n ≤ 4 := hW.1
  have b0 : (l 0).length ≤ 8 := (hl 0 (by omega)).1
  have b1 : (l 1).length ≤ 12 := (hl 1 (by omega)).1
  have b2 : (l 2).length ≤ 5 := (hl 2 (by omega)).1
  have b3 : (l 3).length ≤ 3 := (hl 3 (by omega)).1
  have row : ∀ j, j ≠ 1 → (j < D + 1 ∨ D + 5 < j) → j ≠ 45 → j ≠ 48 → j ≠ 134 → j ≠ 135 → j ≠ 151 → j ≠ 159 → j ≠ 164 → j ≠ 165 → j ≠ 166 → j ≠ 167 → j ≠ 168 → j ≠ 169 → j ≠ 170 → j ≠ 171 → j ≠ 172 → j ≠ 173 → ω.1 j = σ.1 j := fun j a1 a2 a3 a4 a5 a6 a7 a8 a9 a10 a11 a12 a13 a14 a15 a16 a17 a18 => funext fun k => fc j k (by unfold BB0 CC0 DD0 ARd; omega)
  have zr : ∀ k2, k2 < 4 → ∀ x, x < (l k2).length → ∀ i, i < 5 → ω.1 (D + 2) (60 * k2 + 5 * x + i) = (l k2).getD x (fun _ => 0) i := hd.2
  refine ⟨hsk, D, (l 0).length, (l 1).length, (l 3).length, n, f, ?_, T_empty t11 r6, ?_, fun _ => ?_, ?_, ?_, ?_, ?_, ?_, ?_, ?_⟩
  · rcases hD with ⟨rfl, rfl⟩ | ⟨rfl, rfl⟩
    · exact Or.inr ⟨rfl, q1, q2⟩
    · exact Or.inl ⟨rfl, q1, q2⟩
  · unfold I_L
    refine ⟨⟨b0, b1, b3⟩, ⟨hd.1 0 (by omega), hd.1 1 (by omega), hd.1 3 (by omega), r25, r26, r27⟩, fun p hp => ?_, fun x hx => ?_, fun x hx => ?_⟩
    · have hr := ld_row hl (k := 0) (by omega) hp
      have e : ∀ i, i < 5 → ω.1 (D + 2) (5 * p + i) = (l 0).getD p (fun _ => 0) i := fun i hi => by
        have := zr 0 (by omega) p hp i hi
        rw [Nat.mul_zero, Nat.zero_add] at this
        exact this
      obtain ⟨h, -, h1, h2⟩ := hr 0 (by decide)
      obtain ⟨r, -, r1, r2⟩ := hr 1 (by decide)
      obtain ⟨c, -, c1, c2⟩ := hr 2 (by decide)
      obtain ⟨s, -, s1, s2⟩ := hr 3 (by decide)
      exact ⟨⟨h, h1, (e 0 (by omega)).trans h2⟩, ⟨r, r1, (e 1 (by omega)).trans r2⟩, ⟨c, c1, (e 2 (by omega)).trans c2⟩, ⟨s, s1, (e 3 (by omega)).trans s2⟩, fun j hj => (y0 p hp j hj).trans (e j (by omega)).symm⟩
    · have hr := ld_row hl (k := 1) (by omega) hx
      have e : ∀ i, i < 5 → ω.1 (D + 2) (60 + 5 * x + i) = (l 1).getD x (fun _ => 0) i := fun i hi => zr 1 (by omega) x hx i hi
      obtain ⟨a, c, a1, c1, ac, a2, c2⟩ := ld_way hl (wh_eq.mp hw).2.2.1 hx
      obtain ⟨t, t1, t2, t3⟩ := hr 2 (by decide)
      obtain ⟨s, -, s1, s2⟩ := hr 3 (by decide)
      exact ⟨⟨a, c, a1, c1, ac, (e 0 (by omega)).trans a2, (e 1 (by omega)).trans c2⟩, ⟨t, t1, t2, (e 2 (by omega)).trans t3⟩, ⟨s, s1, (e 3 (by omega)).trans s2⟩, fun j hj => (y1 x hx j hj).trans (e j (by omega)).symm⟩
    · have hr := ld_row hl (k := 3) (by omega) hx
      have e : ∀ i, i < 5 → ω.1 (D + 2) (180 + 5 * x + i) = (l 3).getD x (fun _ => 0) i := fun i hi => zr 3 (by omega) x hx i hi
      obtain ⟨p, p1, p2⟩ := ld_at hl (wh_eq.mp hw).2.2.2.2 (by omega) hx
      obtain ⟨s, -, s1, s2⟩ := hr 1 (by decide)
      exact ⟨⟨p, p1, (e 0 (by omega)).trans p2⟩, ⟨s, s1, (e 1 (by omega)).trans s2⟩, fun j hj => (y3 x hx j hj).trans (e j (by omega)).symm⟩
  · unfold I_M
    rw [hz]
    exact ⟨fun a b ha hb => m1 a b (by omega) (by omega), m2, m3⟩
  · refine W_keep hW (row 15 (by omega) (by omega) (by omega) (by omega) (by omega) (by omega) (by omega) (by omega) (by omega) (by omega) (by omega) (by omega) (by omega) (by omega) (by omega) (by omega) (by omega) (by omega)) ?_ ?_ (fun l hl => ⟨row _ (by omega) (by omega) (by omega) (by omega) (by omega) (by omega) (by omega) (by omega) (by omega) (by omega) (by omega) (by omega) (by omega) (by omega) (by omega) (by omega) (by omega) (by omega), row _ (by omega) (by omega) (by omega) (by omega) (by omega) (by omega) (by omega) (by omega) (by omega) (by omega) (by omega) (by omega) (by omega) (by omega) (by omega) (by omega) (by omega) (by omega)⟩) (row 161 (by omega) (by omega) (by omega) (by omega) (by omega) (by omega) (by omega) (by omega) (by omega) (by omega) (by omega) (by omega) (by omega) (by omega) (by omega) (by omega) (by omega) (by omega)) (row 162 (by omega) (by omega) (by omega) (by omega) (by omega) (by omega) (by omega) (by omega) (by omega) (by omega) (by omega) (by omega) (by omega) (by omega) (by omega) (by omega) (by omega) (by omega)) (row 176 (by omega) (by omega) (by omega) (by omega) (by omega) (by omega) (by omega) (by omega) (by omega) (by omega) (by omega) (by omega) (by omega) (by omega) (by omega) (by omega) (by omega) (by omega)) (by rw [f2])
    · exact fc 159 7 (by unfold BB0 CC0 DD0 ARd; omega)
    · exact fc 159 37 (by unfold BB0 CC0 DD0 ARd; omega)
  · refine O_keep hO hm hm4 ?_ ?_ (fun o ho => ⟨row _ (by omega) (by omega) (by omega) (by omega) (by omega) (by omega) (by omega) (by omega) (by omega) (by omega) (by omega) (by omega) (by omega) (by omega) (by omega) (by omega) (by omega) (by omega), row _ (by omega) (by omega) (by omega) (by omega) (by omega) (by omega) (by omega) (by omega) (by omega) (by omega) (by omega) (by omega) (by omega) (by omega) (by omega) (by omega) (by omega) (by omega)⟩) (fun j hj => ?_) (fun o ho => ?_)
    · exact fc 0 5 (by unfold BB0 CC0 DD0 ARd; omega)
    · exact fc 159 34 (by unfold BB0 CC0 DD0 ARd; omega)
    · exact fc 171 j (by unfold BB0 CC0 DD0 ARd; omega)
    · exact fc 172 o (by unfold BB0 CC0 DD0 ARd; omega)
  · unfold I_C
    refine CampR.mono (H := 0) (B := 0) ⟨st.kv (by omega) b3 (fun i hi => ld_comp hl hw hi) (fun f hf => ld_foe hl hf), wl, ?_, 0, by omega, st.2.2.1 21 (by omega) (by omega), ?_, fun i x hi => by omega⟩ (by omega) (by omega)
    · rw [e173]
      funext j
      by_cases hj : j < 79
      · have hs : src j < 79 := by
          unfold src
          repeat' split
          all_goals omega
        rw [toW_src hj, toW_src hj]
        exact st2.eq st hs
      · rw [toW_hi (by omega), toW_hi (by omega)]
    · exact wl79
  · unfold I_P
    obtain ⟨nx, s, i1, -, i3, -⟩ := hP
    refine ⟨nx, 0, i1, by omega, ?_, i4, r43, fun i hi => by omega⟩
    rw [fc 48 3 (by unfold BB0 CC0 DD0 ARd; omega)]
    exact i3
  · unfold I_G
    exact Or.inl ⟨i2, r73⟩
  · unfold I_S
    refine ⟨0, by omega, c134, r48, fun p h hp h1 h2 => ?_, fun i hi => by omega⟩
    exact (c135 _ (by omega)).trans rfl
  · unfold I_Z
    exact ⟨0, by omega, c151, r69, fun i hi => by omega⟩
theorem txt0 (hIv : Iv k L P W F n f σ) : wp (f_X11_text 0 (nI 0)) σ (fun r τ => wp (f_X12_text 159 (nI 0)) τ (fun r2 τ2 => r2 = r ∧ Inv (k + 1) τ2)) := by
  have hIv0 := hIv
  obtain ⟨hk, hL, hT, hLd, hM, hW, hO, hC, hP, hG, hS, hZ⟩ := hIv
  obtain ⟨T, N, ct, rb⟩ := hT.tp hk
  obtain ⟨m, hm4, hm, hm2, -⟩ := hO
  obtain ⟨D, hD, hD2⟩ := DL hL
  have hL1 : σ.2.1 0 1 = L + 1 := by
    rcases hL with ⟨rfl, a, -⟩ | ⟨rfl, a, -⟩
    · exact a
    · exact a
  have hn4 : n ≤ 4 := hW.1
  have rbz : ∀ {τ : sa_St}, TFr (D + 1) (D + 2) σ τ → RBy T N τ := fun {τ} fr => by
    obtain ⟨r1, r2, r3, r4, r5⟩ := rb
    exact ⟨by rw [fr.1]; exact r1, r2, r3, by rw [fr.2.1 159 (by omega) (by omega) (by omega)]; exact r4, fun i hi => by rw [fr.2.1 160 (by omega) (by omega) (by omega)]; exact r5 i hi⟩
  refine c_txtN (j := 0) (by omega) c_full0 (c_rt0 ct (by omega) hD2) (fun e τ fr => ?_) (fun l e τ fr hG2 => ?_)
  · refine wp_mono (m_txt0 (rbz fr)) (fun r2 υ hq => ?_)
    obtain ⟨rfl, z⟩ := hq.1 e
    refine ⟨rfl, ?_⟩
    have z1 : ZFr (AA n m D) σ τ := fr.z (by unfold AA; omega) (fun k => by unfold AA; omega) (fun k => by unfold AA; omega)
    have z2 : ZFr (AA n m D) τ υ := z.mono (fun j k q => by unfold AA; exact Or.inr (Or.inr (Or.inr (Or.inr (Or.inr (Or.inr (Or.inr q)))))))
    exact (hIv0.keep hm hm4 hD (z1.trans z2)).up
  · obtain ⟨hl, hw⟩ := ld_ok (N + 1) (bk T N 0) (fun _ => []) l (bk_le (by omega)) LOk.nil e
    have hkt : SK τ.2.1 := by rw [fr.1]; exact hk
    have rbt := rbz fr
    rw [wp_bnd, wp_rdR (v := 1) rfl (sk_0_0 hkt), wp_bnd, wp_wrI]
    refine ⟨rfl, ?_⟩
    rw [wp_if]
    refine ⟨fun q => absurd rfl q, fun _ => ?_⟩
    have k1 : SK (sa_upI τ 1 1 0).2.1 := hkt
    have a1 : (sa_upI τ 1 1 0).2.1 0 1 = L + 1 := by
      show τ.2.1 0 1 = L + 1
      rw [fr.1]; exact hL1
    have a2 : (sa_upI τ 1 1 0).2.1 0 2 = D + 1 := by
      show τ.2.1 0 2 = D + 1
      rw [fr.1]; exact hD2
    have a3 : CLd D l (sa_upI τ 1 1 0) := by
      unfold CLd
      rw [upI_ne (show D + 1 ≠ 1 by omega), upI_ne (show D + 2 ≠ 1 by omega)]
      exact hG2
    have a4 : (sa_upI τ 1 1 0).1 1 1 = 0 := by rw [upI_self, va_up_self]
    have a5 : ∀ j k, ¬ (j = 1 ∧ (k = 1 ∨ k = 2)) → j ≠ D + 1 → j ≠ D + 2 → (sa_upI τ 1 1 0).1 j k = σ.1 j k := fun j k b1 b2 b3 => by
      by_cases e : j = 1
      · subst e
        rw [upI_self, va_up_ne _ _ (by omega)]
        exact fr.2.2 k (by omega)
      · rw [upI_ne e, fr.2.1 j e b2 b3]
    have a6 : (sa_upI τ 1 1 0).2 = σ.2 := fr.1
    have a7 : ∀ j, j ≠ 1 → (sa_upI τ 1 1 0).1 j = τ.1 j := fun j b => upI_ne b
    generalize sa_upI τ 1 1 0 = τ1 at k1 a1 a2 a3 a4 a5 a6 a7 ⊢
    rw [wp_bnd]
    refine wp_mono (c_settleLand k1 hD a1 a2 hl hw a3) (fun r υ hυ => ?_)
    obtain ⟨rfl, ⟨s1, s2, s3⟩, s4, s5, s6⟩ := hυ
    rw [wp_ret]
    have ku : SK υ.2.1 := k1.sw s1
    have rbu : RBy T N υ := by
      obtain ⟨r1, r2, r3, r4, r5⟩ := rbt
      refine ⟨ku, r2, r3, ?_, fun i hi => ?_⟩
      · rw [s3 159 6 (by unfold CC0; omega), a7 159 (by omega)]; exact r4
      · rw [s3 160 i (by unfold CC0; omega), a7 160 (by omega)]; exact r5 i hi
    refine wp_mono (m_txt0 rbu) (fun r2 ω hq => ?_)
    obtain ⟨rfl, ⟨z1, z2, z3⟩, hR⟩ := hq.2 l e
    refine ⟨rfl, ?_⟩
    have rw1 : ∀ j, j < 159 → ω.1 j = υ.1 j := fun j hj => funext fun k => z3 j k (by unfold DD0 ARd; omega)
    have rw2 : ω.1 (D + 2) = τ1.1 (D + 2) := (rw1 _ (by omega)).trans (funext fun k => s3 _ k (by unfold CC0; omega))
    have rw3 : ω.1 (D + 1) = τ1.1 (D + 1) := (rw1 _ (by omega)).trans (funext fun k => s3 _ k (by unfold CC0; omega))
    refine land_inv (D := D) (m := m) (l := l) (z := τ1.1 (D + 2)) hIv0 hm hm4 hD hl hw ?_ (fun j k c => ?_) (ku.of (fun a b c _ => z1 a b c)) ?_ ?_ ?_ rw2 ?_ ?_ hR
    · rw [z2, s2, a6]
    · unfold BB0 at c
      rw [z3 j k (fun q => c (Or.inr (Or.inr (Or.inr (Or.inr q))))), s3 j k (fun q => c (Or.inr (Or.inr (Or.inr (Or.inl q))))), a5 j k (fun q => c (Or.inl q)) (fun q => c (Or.inr (Or.inl q))) (fun q => c (Or.inr (Or.inr (Or.inl q))))]
    · rw [z1 0 1 (by omega)]; exact s4
    · rw [z1 0 2 (by omega)]; exact s5
    · rw [rw1 1 (by omega), s3 1 1 (by unfold CC0; omega)]; exact a4
    · unfold CLd
      rw [rw2, rw3]
      exact a3
    · obtain ⟨b1, b2, b3, b4, b5, b6, b7, b8, b9⟩ := s6
      refine ⟨?_, ?_, ?_, ?_, ?_, ?_, ?_, ?_, ?_⟩
      · rw [rw1 _ (by omega)]; exact b1
      · rw [rw1 _ (by omega)]; exact b2
      · rw [rw1 _ (by omega)]; exact b3
      · rw [rw1 _ (by omega)]; exact b4
      · rw [rw1 _ (by omega)]; exact b5
      · rw [rw1 _ (by omega)]; exact b6
      · rw [rw1 _ (by omega)]; exact b7
      · rw [rw1 _ (by omega)]; exact b8
      · rw [rw1 _ (by omega)]; exact b9
end TXT0
theorem lc3 (k : Nat) : lc_3 (Inv k) (Inv (k + 1)) := by
  intro σ s1 hI
  refine lco ?_
  obtain ⟨L, P, W, F, n, f, hIv⟩ := Iv.of hI
  have hIv0 := hIv
  have ref0 : ∀ {τ : sa_St} {Q : Int32 → sa_St → Prop}, ¬ ((0 : Int64) ≤ s1.toInt64 ∧ s1.toInt64 ≤ 2) → Q (-1) (sa_upI τ 159 0 0) → wp (f_X12_text 159 s1) τ Q := fun {τ Q} h hQ => by
    unfold f_X12_text
    rw [wp_gd]
    refine ⟨rfl, ?_⟩
    rw [wp_bnd, wp_wrI]
    refine ⟨rfl, ?_⟩
    rw [wp_bnd, w_isIn]
    refine ⟨fun q => absurd q h, fun _ => ?_⟩
    rw [wp_jn0, wp_if]
    refine ⟨fun _ => ?_, fun q => absurd rfl q⟩
    rw [wp_ret]
    exact hQ
  rcases nx s1 3 with hneg | hbig | ⟨j, hj, rfl⟩
  · have h1 : s1 < 0 := of_eq_true (hneg.1 0 (by omega))
    have h2 : ¬ ((0 : Int64) ≤ s1.toInt64 ∧ s1.toInt64 ≤ 2) := fun q => by
      have q1 := q.1
      rw [l64_0, i64le, hneg.2.2.1 0 (by omega)] at q1
      exact q1
    unfold f_X11_text
    rw [wp_gd]
    refine ⟨rfl, ?_⟩
    rw [wp_jn0, wp_if]
    refine ⟨fun _ => ?_, fun q => absurd h1 q⟩
    rw [wp_ret]
    refine ref0 h2 ⟨rfl, ?_⟩
    exact hIv0.ask0 (Dn.up (Dn.refl σ) rfl) rfl
  · have h1 : ¬ s1 < 0 := of_eq_false (hbig.1 0 (by omega))
    have h3 : (2 : Int32) < s1 := of_eq_true (hbig.2.2.2.1 2 (by omega))
    have h2 : ¬ ((0 : Int64) ≤ s1.toInt64 ∧ s1.toInt64 ≤ 2) := fun q => by
      have q1 := q.2
      rw [l64_2, i64le, hbig.2.1 2 (by omega)] at q1
      exact q1
    unfold f_X11_text
    rw [wp_gd]
    refine ⟨rfl, ?_⟩
    rw [wp_jn0, wp_if]
    refine ⟨fun q => absurd q h1, fun _ => ?_⟩
    rw [wp_if]
    refine ⟨fun _ => ?_, fun q => absurd h3 q⟩
    rw [wp_ret]
    refine ref0 h2 ⟨rfl, ?_⟩
    exact hIv0.ask0 (Dn.up (Dn.refl σ) rfl) rfl
  · match j, hj with
    | 0, _ => exact txt0 hIv0
    | 1, _ => exact txt1 hIv0
    | 2, _ => exact txt2 hIv0
    | j + 3, hj => omega
