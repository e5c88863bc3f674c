/-! TEXTS: a law gone through; a law as the reference holds it -/
def lwV (cs : List CLs) : LWt := fun g w h m t => (cs.foldl (clV g w h m t) none).getD 0
section LAWT
variable {T : Nat → Nat} {N R o g w h m t : Nat} {σ : sa_St}
theorem m_thru (hk : SK σ.2.1) (hN : N ≤ 240) (hT : ∀ i, i < N → 0 < T i ∧ T i < 256) (hR : (R = 160 ∧ o = 0) ∨ (R = 161 ∧ o ≤ 720)) (hb : ∀ i, i < N → σ.1 R (o + i) = vp_nar .byte (nI (T i))) (he : EV g w h m t σ) : wp (f_X12_goThrough 159 R (nI o) (nI N)) σ (fun _ τ => (FrR [159] σ τ ∧ ∀ k, ¬ isPF k → τ.1 159 k = σ.1 159 k) ∧ match (lwP T N).2 with
    | none => τ.1 159 11 = nI (lwP T N).1
    | some cs => τ.1 159 11 = -1 ∧ τ.1 159 14 = lwV cs g w h m t) := by
  unfold f_X12_goThrough
  rw [wp_gd]
  refine ⟨rfl, ?_⟩
  rw [wp_bnd]
  unfold f_X12_starts
  rw [wp_gd]
  refine ⟨rfl, ?_⟩
  rw [wp_bnd, wp_wrR]
  refine ⟨rfl, ?_⟩
  rw [wp_bnd, wp_wrI]
  refine ⟨rfl, ?_⟩
  rw [wp_bnd, wp_wrI]
  refine ⟨rfl, ?_⟩
  rw [wp_bnd, wp_wrI]
  refine ⟨rfl, ?_⟩
  rw [wp_bnd, wp_wrI]
  refine ⟨rfl, ?_⟩
  rw [wp_ret, wp_bnd, wp_wrI]
  refine ⟨rfl, ?_⟩
  rw [wp_bnd, wp_wrI]
  refine ⟨rfl, ?_⟩
  rw [wp_bnd, wp_wrZ]
  refine ⟨⟨rfl, Or.inl rfl⟩, ?_⟩
  rw [wp_bnd, wp_wrI]
  refine ⟨rfl, ?_⟩
  generalize hS : sa_upI (sa_upI (sa_upI (sa_upI (sa_upI (sa_upI (sa_upI (sa_upI (sa_upR σ 159 5 (R + 1)) 159 8 (nI o)) 159 9 (nI N)) 159 10 0) 159 11 (-1)) 159 13 121) 159 12 0) 159 17 0) 159 14 0 = S
  have r5 : ∀ a b, ¬ (a = 159 ∧ b = 5) → S.2.1 a b = σ.2.1 a b := fun a b hab => by
    rw [← hS]
    show va_up σ.2.1 159 (va_up (σ.2.1 159) 5 (R + 1)) a b = σ.2.1 a b
    by_cases e : a = 159
    · subst e
      rw [va_up_self, va_up_ne _ _ (fun e => hab ⟨rfl, e⟩)]
    · rw [va_up_ne _ _ e]
  have r5' : S.2.1 159 5 = R + 1 := by
    rw [← hS]
    show va_up σ.2.1 159 (va_up (σ.2.1 159) 5 (R + 1)) 159 5 = R + 1
    rw [va_up_self, va_up_self]
  have hL : S.2.2 = σ.2.2 := by rw [← hS]; rfl
  have hj : ∀ j, j ≠ 159 → S.1 j = σ.1 j := fun j hj => by
    rw [← hS, upI_ne hj, upI_ne hj, upI_ne hj, upI_ne hj, upI_ne hj, upI_ne hj, upI_ne hj, upI_ne hj]
    rfl
  have hkk : ∀ k, k ≠ 8 → k ≠ 9 → k ≠ 10 → k ≠ 11 → k ≠ 12 → k ≠ 13 → k ≠ 14 → k ≠ 17 → S.1 159 k = σ.1 159 k := fun k a8 a9 a10 a11 a12 a13 a14 a17 => by
    rw [← hS, upI_self, va_up_ne _ _ a14, upI_self, va_up_ne _ _ a17, upI_self, va_up_ne _ _ a12, upI_self, va_up_ne _ _ a13, upI_self, va_up_ne _ _ a11, upI_self, va_up_ne _ _ a10, upI_self, va_up_ne _ _ a9, upI_self, va_up_ne _ _ a8]
    rfl
  have f14 : S.1 159 14 = 0 := by rw [← hS, upI_self, va_up_self]
  have f17 : S.1 159 17 = 0 := by rw [← hS, upI_self, va_up_ne _ _ (by omega), upI_self, va_up_self]
  have f12 : S.1 159 12 = 0 := by rw [← hS, upI_self, va_up_ne _ _ (by omega), upI_self, va_up_ne _ _ (by omega), upI_self, va_up_self]
  have f13 : S.1 159 13 = 121 := by rw [← hS, upI_self, va_up_ne _ _ (by omega), upI_self, va_up_ne _ _ (by omega), upI_self, va_up_ne _ _ (by omega), upI_self, va_up_self]
  have f11 : S.1 159 11 = -1 := by rw [← hS, upI_self, va_up_ne _ _ (by omega), upI_self, va_up_ne _ _ (by omega), upI_self, va_up_ne _ _ (by omega), upI_self, va_up_ne _ _ (by omega), upI_self, va_up_self]
  have f10 : S.1 159 10 = nI 0 := by rw [← hS, upI_self, va_up_ne _ _ (by omega), upI_self, va_up_ne _ _ (by omega), upI_self, va_up_ne _ _ (by omega), upI_self, va_up_ne _ _ (by omega), upI_self, va_up_ne _ _ (by omega), upI_self, va_up_self]; rfl
  have f9 : S.1 159 9 = nI N := by rw [← hS, upI_self, va_up_ne _ _ (by omega), upI_self, va_up_ne _ _ (by omega), upI_self, va_up_ne _ _ (by omega), upI_self, va_up_ne _ _ (by omega), upI_self, va_up_ne _ _ (by omega), upI_self, va_up_ne _ _ (by omega), upI_self, va_up_self]
  have f8 : S.1 159 8 = nI o := by rw [← hS, upI_self, va_up_ne _ _ (by omega), upI_self, va_up_ne _ _ (by omega), upI_self, va_up_ne _ _ (by omega), upI_self, va_up_ne _ _ (by omega), upI_self, va_up_ne _ _ (by omega), upI_self, va_up_ne _ _ (by omega), upI_self, va_up_ne _ _ (by omega), upI_self, va_up_self]
  clear hS
  have hs : RSt T N R o 0 (bk T N 0) S := ⟨⟨hk.of (fun a b c _ => r5 a b c), hN, hT, hR, r5', f8, f9, fun i hi => by rw [hj R (by omega)]; exact hb i hi⟩, ⟨0, by omega, rfl, f10⟩, f11, f12⟩
  have hg : GSt none S := ⟨f17, f14, f13⟩
  have he2 : EV g w h m t S := by
    unfold EV at he ⊢
    rw [hj 163 (by omega)]
    exact he
  rw [wp_bnd]
  refine wp_mono (m_clause hs hg he2) (fun _ τ hr => ?_)
  refine wp_mono (m_loop hN he2 rfl hr) (fun _ υ hq => ?_)
  obtain ⟨fr, hq⟩ := hq
  refine ⟨⟨⟨⟨fun a b c => by rw [fr.1]; exact r5 a b c, fun j _ => by rw [fr.1, hL]⟩, fun j hjn => ?_⟩, fun k hkn => ?_⟩, hq⟩
  · have hjn' : j ≠ 159 := fun e => hjn (by rw [e]; decide)
    exact ⟨(fr.2.1 j hjn').trans (hj j hjn'), by rw [fr.1, hL]⟩
  · unfold isPF at hkn
    rw [fr.2.2 k (by omega)]
    exact hkk k (by omega) (by omega) (by omega) (by omega) (by omega) (by omega) (by omega) (by omega)
theorem law_T {cs : List CLs} {tx : Nat → Int32} (hN : N ≤ 240) (hT : ∀ i, i < N → 0 < T i ∧ T i < 256) (hc : (lwP T N).2 = some cs) (htx : ∀ i, i < N → tx i = vp_nar .byte (nI (T i))) : LawT tx (nI N) (lwV cs) := by
  intro l σ hl hk hx g w h m t _ _ _ _ _ e1 e2 e3 e4 e5
  refine wp_mono (m_thru (T := T) (R := 161) (o := 240 * l) hk hN hT (Or.inr ⟨rfl, by omega⟩) (fun i hi => by rw [hx i (by omega)]; exact htx i hi) ⟨e1, e2, e3, e4, e5⟩) (fun _ τ hr => ?_)
  obtain ⟨⟨fr, hk2⟩, hr⟩ := hr
  rw [hc] at hr
  exact ⟨hr.2, fr, hk2⟩
end LAWT
